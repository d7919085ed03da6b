-- kinds, questions, the rows
def isKi (k : Nat → ClassId) (P : va_W) (a : Nat) : Prop := ∃ fq pr l xs w, (a, (.inr (5, [.int fq, .int pr, .ref l]) : va_E)) ∈ P ∧ Bd 60 fq ∧ isAL k l xs w ∧ Sub w P ∧ xs.length ≤ 6 ∧ ∀ x ∈ xs, isCo k P x
theorem isKi.mono {k : Nat → ClassId} {P P' : va_W} {a : Nat} (h : isKi k P a) (hs : Sub P P') : isKi k P' a := by
  obtain ⟨fq, pr, l, xs, w, h1, h2, h3, h4, h5, h6⟩ := h
  exact ⟨fq, pr, l, xs, w, hs _ h1, h2, h3, h4.tr hs, h5, fun x hx => (h6 x hx).mono hs⟩
def isWd (k : Nat → ClassId) (P : va_W) (a : Nat) : Prop := ∃ (n : Nat) (f : Nat → Int32), (a, (.inl (k 0, n, .inl f) : va_E)) ∈ P ∧ 1 ≤ n ∧ n ≤ 12
theorem isWd.mono {k : Nat → ClassId} {P P' : va_W} {a : Nat} (h : isWd k P a) (hs : Sub P P') : isWd k P' a := by
  obtain ⟨n, f, h1, h2⟩ := h; exact ⟨n, f, hs _ h1, h2⟩
def isQu (k : Nat → ClassId) (P : va_W) (a : Nat) : Prop := ∃ mu sp wa wb l jx xs w, (a, (.inr (6, [.int mu, .ref sp, .ref wa, .ref wb, .ref l, .ref jx]) : va_E)) ∈ P ∧ (mu = 0 ∨ mu = 1) ∧ isSp P sp ∧ isWd k P wa ∧ isWd k P wb ∧ isJu P jx ∧ isAL k l xs w ∧ Sub w P ∧ xs.length ≤ 5 ∧ ∀ x ∈ xs, isJu P x
theorem isQu.mono {k : Nat → ClassId} {P P' : va_W} {a : Nat} (h : isQu k P a) (hs : Sub P P') : isQu k P' a := by
  obtain ⟨mu, sp, wa, wb, l, jx, xs, w, h1, h2, h3, h4, h5, h6, h7, h8, h9, h10⟩ := h
  exact ⟨mu, sp, wa, wb, l, jx, xs, w, hs _ h1, h2, h3.mono hs, h4.mono hs, h5.mono hs, h6.mono hs, h7, h8.tr hs, h9, fun x hx => (h10 x hx).mono hs⟩
def RX (T : ST) (r : Nat → Nat → Option Nat) : va_W := s_r T.2.2.2.1 T.2.2.2.2 r
def RI (k : Nat → ClassId) (r : Nat → Nat → Option Nat) (P : va_W) : Prop := (∀ j a, r 0 j = some a → isQu k P a) ∧ (∀ j a, r 1 j = some a → isKi k P a)
theorem RI.mono {k : Nat → ClassId} {r : Nat → Nat → Option Nat} {P P' : va_W} (h : RI k r P) (hs : Sub P P') : RI k r P' := ⟨fun j a e => (h.1 j a e).mono hs, fun j a e => (h.2 j a e).mono hs⟩
theorem RI.ki {k : Nat → ClassId} {r : Nat → Nat → Option Nat} {P : va_W} {a : Nat} (h : RI k r P) (j : Nat) (ha : isKi k P a) : RI k (va_up r 1 (va_up (r 1) j (some a))) P := by
  refine ⟨fun i b e => h.1 i b (by rw [up_other _ _ (by decide)] at e; exact e), fun i b e => ?_⟩
  rw [up_same] at e
  by_cases c : i = j
  · subst c; rw [up_same] at e; cases e; exact ha
  · rw [up_other _ _ c] at e; exact h.2 i b e
theorem RI.qu {k : Nat → ClassId} {r : Nat → Nat → Option Nat} {P : va_W} {a : Nat} (h : RI k r P) (j : Nat) (ha : isQu k P a) : RI k (va_up r 0 (va_up (r 0) j (some a))) P := by
  refine ⟨fun i b e => ?_, fun i b e => h.2 i b (by rw [up_other _ _ (by decide)] at e; exact e)⟩
  rw [up_same] at e
  by_cases c : i = j
  · subst c; rw [up_same] at e; cases e; exact ha
  · rw [up_other _ _ c] at e; exact h.1 i b e
def eKi (k : Nat → ClassId) (P : va_W) (a : Nat) (d : KD) : Prop := ∃ l xs w, (a, (.inr (5, [.int d.1, .int d.2.1, .ref l]) : va_E)) ∈ P ∧ Bd 60 d.1 ∧ isAL k l xs w ∧ Sub w P ∧ xs.length ≤ 6 ∧ A2 (eCo k P) xs d.2.2
theorem eKi.mono {k : Nat → ClassId} {P P' : va_W} {a : Nat} {d : KD} (h : eKi k P a d) (hs : Sub P P') : eKi k P' a d := by
  obtain ⟨l, xs, w, h1, h2, h3, h4, h5, h6⟩ := h
  exact ⟨l, xs, w, hs _ h1, h2, h3, h4.tr hs, h5, h6.mono (fun _ _ q => q.mono hs)⟩
theorem eKi.is {k : Nat → ClassId} {P : va_W} {a : Nat} {d : KD} (h : eKi k P a d) : isKi k P a := by
  obtain ⟨l, xs, w, h1, h2, h3, h4, h5, h6⟩ := h
  exact ⟨_, _, l, xs, w, h1, h2, h3, h4, h5, h6.all (fun _ _ q => q.is)⟩
def eWd (k : Nat → ClassId) (P : va_W) (a : Nat) (d : WD) : Prop := ∃ (f : Nat → Int32), (a, (.inl (k 0, d.1, .inl f) : va_E)) ∈ P ∧ 1 ≤ d.1 ∧ d.1 ≤ 12 ∧ ∀ j, j < d.1 → f j = d.2 j
theorem eWd.mono {k : Nat → ClassId} {P P' : va_W} {a : Nat} {d : WD} (h : eWd k P a d) (hs : Sub P P') : eWd k P' a d := by
  obtain ⟨f, h1, h2⟩ := h; exact ⟨f, hs _ h1, h2⟩
theorem eWd.is {k : Nat → ClassId} {P : va_W} {a : Nat} {d : WD} (h : eWd k P a d) : isWd k P a := by
  obtain ⟨f, h1, h2, h3, -⟩ := h; exact ⟨_, f, h1, h2, h3⟩
def eQu (k : Nat → ClassId) (P : va_W) (a : Nat) (d : QD) : Prop := ∃ sp wa wb l jx xs w, (a, (.inr (6, [.int d.1, .ref sp, .ref wa, .ref wb, .ref l, .ref jx]) : va_E)) ∈ P ∧ (d.1 = 0 ∨ d.1 = 1) ∧ eSp P sp d.2.1.1 d.2.1.2 ∧ eWd k P wa d.2.2.1 ∧ eWd k P wb d.2.2.2.1 ∧ eJu P jx d.2.2.2.2.2 ∧ isAL k l xs w ∧ Sub w P ∧ xs.length ≤ 5 ∧ A2 (eJu P) xs d.2.2.2.2.1
theorem eQu.mono {k : Nat → ClassId} {P P' : va_W} {a : Nat} {d : QD} (h : eQu k P a d) (hs : Sub P P') : eQu k P' a d := by
  obtain ⟨sp, wa, wb, l, jx, xs, w, h1, h2, h3, h4, h5, h6, h7, h8, h9, h10⟩ := h
  exact ⟨sp, wa, wb, l, jx, xs, w, hs _ h1, h2, h3.mono hs, h4.mono hs, h5.mono hs, h6.mono hs, h7, h8.tr hs, h9, h10.mono (fun _ _ q => q.mono hs)⟩
theorem eQu.is {k : Nat → ClassId} {P : va_W} {a : Nat} {d : QD} (h : eQu k P a d) : isQu k P a := by
  obtain ⟨sp, wa, wb, l, jx, xs, w, h1, h2, h3, h4, h5, h6, h7, h8, h9, h10⟩ := h
  exact ⟨_, sp, wa, wb, l, jx, xs, w, h1, h2, h3.is, h4.is, h5.is, h6.is, h7, h8, h9, h10.all (fun _ _ q => q.is)⟩
-- rows that hold what was read
def RE (k : Nat → ClassId) (r : Nat → Nat → Option Nat) (P : va_W) (R : RD) : Prop := (∀ j, j < 61 → (r 0 j = none ∧ R.1 j = none) ∨ ∃ a d, r 0 j = some a ∧ R.1 j = some d ∧ eQu k P a d) ∧ (∀ j, j < 10 → (r 1 j = none ∧ R.2 j = none) ∨ ∃ a d, r 1 j = some a ∧ R.2 j = some d ∧ eKi k P a d)
theorem RE.mono {k : Nat → ClassId} {r : Nat → Nat → Option Nat} {P P' : va_W} {R : RD} (h : RE k r P R) (hs : Sub P P') : RE k r P' R := by
  refine ⟨fun j hj => ?_, fun j hj => ?_⟩
  · rcases h.1 j hj with q | ⟨a, d, q1, q2, q3⟩
    · exact Or.inl q
    · exact Or.inr ⟨a, d, q1, q2, q3.mono hs⟩
  · rcases h.2 j hj with q | ⟨a, d, q1, q2, q3⟩
    · exact Or.inl q
    · exact Or.inr ⟨a, d, q1, q2, q3.mono hs⟩
theorem RE.ki {k : Nat → ClassId} {r : Nat → Nat → Option Nat} {P : va_W} {R : RD} {a : Nat} {d : KD} (h : RE k r P R) (j : Nat) (ha : eKi k P a d) : RE k (va_up r 1 (va_up (r 1) j (some a))) P (R.1, va_up R.2 j (some d)) := by
  refine ⟨fun i hi => ?_, fun i hi => ?_⟩
  · rw [up_other _ _ (by decide)]; exact h.1 i hi
  · rw [up_same]
    by_cases c : i = j
    · subst c; exact Or.inr ⟨a, d, up_same _ _ _, up_same _ _ _, ha⟩
    · rw [up_other _ _ c, show (R.1, va_up R.2 j (some d)).2 i = R.2 i from up_other _ _ c]; exact h.2 i hi
theorem RE.qu {k : Nat → ClassId} {r : Nat → Nat → Option Nat} {P : va_W} {R : RD} {a : Nat} {d : QD} (h : RE k r P R) (j : Nat) (ha : eQu k P a d) : RE k (va_up r 0 (va_up (r 0) j (some a))) P (va_up R.1 j (some d), R.2) := by
  refine ⟨fun i hi => ?_, fun i hi => ?_⟩
  · rw [up_same]
    by_cases c : i = j
    · subst c; exact Or.inr ⟨a, d, up_same _ _ _, up_same _ _ _, ha⟩
    · rw [up_other _ _ c, show (va_up R.1 j (some d), R.2).1 i = R.1 i from up_other _ _ c]; exact h.1 i hi
  · rw [up_other _ _ (by decide)]; exact h.2 i hi
theorem RE.t0 {k : Nat → ClassId} {r : Nat → Nat → Option Nat} {P : va_W} {R : RD} (h : RE k r P R) {j : Nat} (hj : j < 61) : (r 0 j).isSome = (R.1 j).isSome := by
  rcases h.1 j hj with q | ⟨a, d, q1, q2, -⟩
  · rw [q.1, q.2]; rfl
  · rw [q1, q2]; rfl
theorem RE.t1 {k : Nat → ClassId} {r : Nat → Nat → Option Nat} {P : va_W} {R : RD} (h : RE k r P R) {j : Nat} (hj : j < 10) : (r 1 j).isSome = (R.2 j).isSome := by
  rcases h.2 j hj with q | ⟨a, d, q1, q2, -⟩
  · rw [q.1, q.2]; rfl
  · rw [q1, q2]; rfl
def XK (T : ST) (L : Nat) (g : GT) (r : Nat → Nat → Option Nat) (P : va_W) (F : Prop) : String → va_W → Prop := fun E u => F ∧ E = IAE ∧ ∃ m P', m ≤ L ∧ u.Perm (TX T L (nI m) g ++ (RX T r ++ P')) ∧ Sub P P'
theorem XK.app {T : ST} {L m : Nat} {g : GT} {r : Nat → Nat → Option Nat} {P Y : va_W} {F : Prop} (hF : F) (hm : m ≤ L) (h : Sub P Y) : XK T L g r P F IAE (TX T L (nI m) g ++ (RX T r ++ Y)) := ⟨hF, rfl, m, Y, hm, List.Perm.refl _, h⟩
theorem zp_back (R A X Q : va_W) : ((R ++ A) ++ (X ++ Q)).Perm (X ++ (R ++ (A ++ Q))) := by
  rw [← List.append_assoc R A Q]; exact zp3 (R ++ A) X Q
theorem XK.in {T : ST} {L : Nat} {g : GT} {r : Nat → Nat → Option Nat} {P P1 Y : va_W} {F F1 : Prop} {E : String} {u : va_W} (h : XT T L g P1 F1 E u) (hF : F1 → F) (hs : Sub P P1) : XK T L g r P F E ((RX T r ++ Y) ++ u) := by
  obtain ⟨f1, e, x, P', hx, h1, h2⟩ := h
  refine ⟨hF f1, e, x, Y ++ P', hx, ?_, fun q hq => List.mem_append_right _ (h2 q (hs q hq))⟩
  exact (h1.append_left (RX T r ++ Y)).trans (zp_back _ _ _ _)
theorem front_perm2 (x : Nat × va_E) (X Y P : va_W) : ([x] ++ (X ++ (Y ++ P))).Perm (X ++ (Y ++ (x :: P))) := (front_perm x X (Y ++ P)).trans ((front_perm x Y P).append_left X)
theorem zp_ins (X R A P : va_W) : (A ++ (X ++ (R ++ P))).Perm (X ++ (R ++ (A ++ P))) := (zp3 A X (R ++ P)).trans ((zp3 A R P).append_left X)
theorem isNone_not {o : Option Nat} (h : o = none) : ¬ o.isSome = true := by rw [h]; intro q; cases q
theorem isSome_of {o : Option Nat} (h : ¬ o = none) : o.isSome = true := by cases o with
  | none => exact absurd rfl h
  | some a => rfl
theorem d_Ki (T : ST) (q l : Nat) (x y : Int32) (Post : va_W → Prop) (hq : Post [(q, .inr (5, [.int x, .int y, .ref l]))]) : uV T y_Ki_init (Cond.code y_Ki_init b_Ki_init 4 none) 0 0 0 [.ref q, .int x, .int y, .ref l] [(q, .inr (5, [.int 0, .int 0, .null]))] Post := by
  refine e_Ki_init T Post x y l q ?_
  rintro C rfl X
  exact k_Ki_init_0 X Post x y l q 0 0 ⟨by decide, by decide⟩ hq
set_option maxHeartbeats 1000000 in
theorem d_readKind (T : ST) (hlt : T.1.stackTraces = false) (L n : Nat) (g : GT) (r : Nat → Nat → Option Nat) (P : va_W) (hL : L ≤ 400) (hn : n ≤ L) (Post : va_W → Prop) (hq : ∀ j d n' a P', kKind false (g 0) L (fun j => (r 1 j).isSome) n = some (j, d, n') → j < 10 → n + 6 ≤ n' → n' ≤ L → Sub P P' → eKi T.2.2.2.1 P' a d → Post (TX T L (nI n') g ++ (RX T (va_up r 1 (va_up (r 1) j (some a))) ++ P'))) : xV T y_TR_readKind (Cond.code y_TR_readKind b_TR_readKind 6 none) 6 303 1818 [.ref (ad T 20)] (TX T L (nI n) g ++ (RX T r ++ P)) Post (XK T L g r P (kKind false (g 0) L (fun j => (r 1 j).isSome) n = none)) := by
  refine e_TR_readKind T hlt Post _ (tsX L (nI n)) g r P ?_
  rintro C rfl X
  generalize hkk : kKind false (g 0) L (fun j => (r 1 j).isSome) n = KK at hq ⊢
  have s101 : ∀ j x2 x3 x4 x5 aw P1 xs ds m, KK = ((kTake (g 0) L 59 m).bind fun m3 => some (j, (x2, x3, ds), m3)) → j < 10 → isAL C.1.2.2.2.1 x4 xs aw → xs.length ≤ 6 → A2 (eCo C.1.2.2.2.1 P1) xs ds → Sub P P1 → Bd 60 x2 → n + 5 ≤ m → m ≤ L → zc_TR_readKind C Post (XK C.1 L g r P (KK = none)) 300 1803 101 [(0, .ref (ad C.1 20)), (1, .int (nI j)), (2, .int x2), (3, .int x3), (4, .ref x4), (5, .int x5)] [] (TX C.1 L (nI m) g ++ (RX C.1 r ++ (aw ++ P1))) := by
    intro j x2 x3 x4 x5 aw P1 xs ds m hk hj hal hlen hco hsub hx2 hm1 hm2
    have hsub2 : Sub P (aw ++ P1) := hsub.tr Sub.app
    refine k_TR_readKind_101 X Post _ (P_104 := fun u => ∃ m', kTake (g 0) L 59 m = some m' ∧ u = TX C.1 L (nI m') g) (X_104 := fun E u => kTake (g 0) L 59 m = none ∧ E = IAE ∧ ∃ m, m ≤ L ∧ u = TX C.1 L (nI m) g) (nI j) x2 x3 x4 x5 aw (tsX L (nI m)) g r P1 300 1803 ⟨by decide, by decide⟩ ?_ ?_ ?_
    · exact d_tak _ X.2.2 59 L m g hL hm2 _ _ (fun m h => ⟨m, h, rfl⟩) (fun m hm h => ⟨h, rfl, m, hm, rfl⟩)
    · rintro u ⟨m1, h1, rfl⟩
      obtain ⟨hm3, hm4⟩ := kTake_lt h1 (by decide +kernel)
      refine k_TR_readKind_107 X Post _ (P_120 := fun w u => u = [(w, .inr (5, [.int x2, .int x3, .ref x4]))]) (nI j) x2 x3 x4 x5 aw (tsX L (nI m1)) g r P1 _ _ ⟨by decide, by decide⟩ (fun _ => ⟨by decide, by decide⟩) (fun w => d_Ki _ w x4 x2 x3 _ rfl) ?_
      rintro w u rfl
      refine zW_perm (front_perm2 _ _ _ _) ?_
      refine k_TR_readKind_123 X Post _ (nI j) x2 x3 x4 x5 w (nI j) (tsX L (nI m1)) g r ((w, .inr (5, [.int x2, .int x3, .ref x4])) :: (aw ++ P1)) _ 0 _ _ rfl (vi_n hj (by decide)) ⟨by decide, by decide⟩ ?_
      rw [nI_clamp (show j < 2 ^ 31 by omega)]
      exact hq j (x2, x3, ds) m1 w _ (by rw [hk, h1]; rfl) hj (by omega) hm4 (hsub2.tr Sub.cons) ⟨x4, xs, aw, List.mem_cons_self, hx2, hal, fun q hq => List.mem_cons_of_mem _ (List.mem_append_left _ hq), hlen, hco.mono (fun _ _ q => q.mono (Sub.app.tr Sub.cons))⟩
    · rintro E u ⟨h1, rfl, x, hx, rfl⟩
      exact XK.app (by rw [hk, h1]; rfl) hx hsub2
  have loop : ∀ i c j x2 x3 x4 aw P1 xs ds m, KK = ((kConds false (g 0) L i m ds).bind fun cs => (kTake (g 0) L 59 cs.2).bind fun m3 => some (j, (x2, x3, cs.1), m3)) → i + c = 6 → j < 10 → isAL C.1.2.2.2.1 x4 xs aw → xs.length = c → A2 (eCo C.1.2.2.2.1 P1) xs ds → Sub P P1 → Bd 60 x2 → n + 5 ≤ m → m ≤ L → zc_TR_readKind C Post (XK C.1 L g r P (KK = none)) (12 + 48 * c) (69 + 289 * c) 67 [(0, .ref (ad C.1 20)), (1, .int (nI j)), (2, .int x2), (3, .int x3), (4, .ref x4), (5, .int (nI c))] [] (TX C.1 L (nI m) g ++ (RX C.1 r ++ (aw ++ P1))) := by
    intro i
    induction i with
    | zero =>
      intro c j x2 x3 x4 aw P1 xs ds m hk hi hj hal hlen hco hsub hx2 hm1 hm2
      have h6 : (6 : Int32) ≤ nI c := (nI_leI (a := 6) (b := c) (by decide) (by omega)).mpr (by omega)
      exact k_TR_readKind_67 X Post _ (P_77 := fun _ _ => True) (nI j) x2 x3 x4 _ aw (tsX L (nI m)) g r P1 _ _ (fun _ => zW_wide (by omega) (by omega) (s101 j x2 x3 x4 _ aw P1 xs ds m hk hj hal (by omega) hco hsub hx2 hm1 hm2)) (fun z => absurd h6 z) (fun z => absurd h6 z) (fun z => absurd h6 z)
    | succ i ih =>
      intro c j x2 x3 x4 aw P1 xs ds m hk hi hj hal hlen hco hsub hx2 hm1 hm2
      have h6 : ¬ (6 : Int32) ≤ nI c := fun z => absurd ((nI_leI (a := 6) (b := c) (by decide) (by omega)).mp z) (by omega)
      have h7 := sN_ge (g 0) L m
      have h8 := sN_le (g 0) hm2
      refine k_TR_readKind_67 X Post _ (P_77 := fun r u => (r = 1 ∧ tp (g 0) L (sN (g 0) L m) = 40 ∧ u = TX C.1 L (nI (sN (g 0) L m + 1)) g) ∨ (r = 0 ∧ ¬ tp (g 0) L (sN (g 0) L m) = 40 ∧ u = TX C.1 L (nI (sN (g 0) L m)) g)) (nI j) x2 x3 x4 _ aw (tsX L (nI m)) g r P1 _ _ (fun z => absurd z h6) (fun _ => ⟨by omega, by omega⟩) (fun _ => ?_) ?_
      · refine d_took _ 40 L m g hL hm2 _ ?_
        split
        · rename_i z; exact Or.inl ⟨rfl, z, rfl⟩
        · rename_i z; exact Or.inr ⟨rfl, z, rfl⟩
      rintro _ y u (⟨rfl, z, rfl⟩ | ⟨rfl, z, rfl⟩)
      · have hm4 := tk_lt z (by decide +kernel)
        have hk2 : KK = (((kCond false (g 0) L (sN (g 0) L m + 1)).bind fun r => kConds false (g 0) L i r.2 (ds ++ [r.1])).bind fun cs => (kTake (g 0) L 59 cs.2).bind fun m3 => some (j, (x2, x3, cs.1), m3)) := by rw [hk, kConds, if_pos z]
        refine k_TR_readKind_80 X Post _ (P_86 := fun r u => ∃ d n' a P2, r = some a ∧ kCond false (g 0) L (sN (g 0) L m + 1) = some (d, n') ∧ sN (g 0) L m + 1 + 5 ≤ n' ∧ n' ≤ L ∧ Sub P1 P2 ∧ eCo C.1.2.2.2.1 P2 a d ∧ u = TX C.1 L (nI n') g ++ P2) (X_86 := XT C.1 L g P1 (kCond false (g 0) L (sN (g 0) L m + 1) = none)) (nI j) x2 x3 x4 _ 1 aw (tsX L (nI (sN (g 0) L m + 1))) g r P1 _ _ (fun y => absurd y (by decide +kernel)) (fun _ => ⟨by omega, by omega⟩) (fun _ => ?_) ?_ ?_
        · exact d_readCondition _ X.2.2 L _ g P1 hL hm4 _ (fun d n' a P2 h0 h1 h2 h3 h4 => ⟨d, n', a, P2, rfl, h0, h1, h2, h3, h4, rfl⟩)
        · rintro _ y u ⟨d, m2, a, P2, rfl, h0, hm5, hm6, hs2, hta, rfl⟩
          refine zW_perm (zp_back _ _ _ _) ?_
          obtain ⟨z1, z2, z3, hmem, -⟩ := id hta
          refine k_TR_readKind_89 X Post _ (P_89 := fun _ u => ∃ w', u.Perm (w' ++ P2) ∧ isAL C.1.2.2.2.1 x4 (xs ++ [a]) w') (nI j) x2 x3 x4 _ a x4 aw (tsX L (nI m2)) g r P2 _ _ ⟨by omega, by omega⟩ ?_ ?_ hal.recv
          · exact d_add_C _ x4 a xs _ aw P2 hmem hal (by omega)
          · rintro y u ⟨w', hp, hal'⟩
            refine zW_perm (hp.append_left _) ?_
            refine zW_perm (ws' := TX C.1 L (nI m2) g ++ (RX C.1 r ++ (w' ++ P2))) (by rw [List.append_assoc]; exact List.Perm.refl _) ?_
            refine k_TR_readKind_94 X Post _ (nI j) x2 x3 x4 _ y w' (tsX L (nI m2)) g r P2 _ _ ?_
            rw [nI_1]
            exact zW_wide (by omega) (by omega) (ih (c + 1) j x2 x3 x4 w' P2 (xs ++ [a]) (ds ++ [d]) m2 (by rw [hk2, h0]; rfl) (by omega) hj hal' (by simp [hlen]) (A2.snoc hta (hco.mono (fun _ _ q => q.mono hs2))) (hsub.tr hs2) hx2 (by omega) hm6)
        · intro _ E u h
          exact XK.in h (fun h0 => by rw [hk2, h0]; rfl) hsub
      · have hk2 : KK = ((kTake (g 0) L 59 (sN (g 0) L m)).bind fun m3 => some (j, (x2, x3, ds), m3)) := by rw [hk]; unfold kConds; rw [if_neg z]; rfl
        exact k_TR_readKind_80 X Post _ (P_86 := fun _ _ => True) (X_86 := fun _ _ => True) (nI j) x2 x3 x4 _ 0 aw (tsX L (nI (sN (g 0) L m))) g r P1 _ _ (fun _ => zW_wide (by omega) (by omega) (s101 j x2 x3 x4 _ aw P1 xs ds _ hk2 hj hal (by omega) hco hsub hx2 (by omega) h8)) (fun y => absurd rfl y) (fun y => absurd rfl y) (fun y => absurd rfl y) (fun y => absurd rfl y)
  have s27 : ∀ j m, KK = kKind2 false (g 0) L j m → j < 10 → n + 1 ≤ m → m ≤ L → zc_TR_readKind C Post (XK C.1 L g r P (KK = none)) 3 18 27 [(0, .ref (ad C.1 20)), (1, .int (nI j))] [] (TX C.1 L (nI m) g ++ (RX C.1 r ++ P)) := by
    intro j m hk hj hm1 hm2
    refine k_TR_readKind_27 X Post _ (P_30 := fun u => ∃ m', kTake (g 0) L 61 m = some m' ∧ u = TX C.1 L (nI m') g) (X_30 := fun E u => kTake (g 0) L 61 m = none ∧ E = IAE ∧ ∃ m, m ≤ L ∧ u = TX C.1 L (nI m) g) (nI j) (tsX L (nI m)) g r P 3 18 ⟨by decide, by decide⟩ ?_ ?_ ?_
    · exact d_tak _ X.2.2 61 L m g hL hm2 _ _ (fun m h => ⟨m, h, rfl⟩) (fun m hm h => ⟨h, rfl, m, hm, rfl⟩)
    · rintro u ⟨m1, h1, rfl⟩
      obtain ⟨hm3, hm4⟩ := kTake_lt h1 (by decide +kernel)
      refine k_TR_readKind_33 X Post _ (P_37 := fun v u => ∃ v' m', kNum false (g 0) L 1 60 m1 = some (v', m') ∧ v = nI v' ∧ u = TX C.1 L (nI m') g) (X_37 := fun E u => kNum false (g 0) L 1 60 m1 = none ∧ E = IAE ∧ ∃ m, m ≤ L ∧ u = TX C.1 L (nI m) g) (nI j) (tsX L (nI m1)) g r P _ _ ⟨by decide, by decide⟩ ?_ ?_ ?_
      · exact d_num _ X.2.2 1 60 L m1 g hL hm4 _ _ (fun v m h => ⟨v, m, h, rfl, rfl⟩) (fun m hm h => ⟨h, rfl, m, hm, rfl⟩)
      · rintro _ u ⟨x2, m2, h2, rfl, rfl⟩
        obtain ⟨hm5, hm6, hv1, hv2⟩ := kNum_lt h2 hm4
        have hx2 : Bd 60 (nI x2) := inV_bd (B := 60) hv2 hv1 (by decide)
        refine k_TR_readKind_40 X Post _ (P_44 := fun u => ∃ m', kTake (g 0) L 58 m2 = some m' ∧ u = TX C.1 L (nI m') g) (X_44 := fun E u => kTake (g 0) L 58 m2 = none ∧ E = IAE ∧ ∃ m, m ≤ L ∧ u = TX C.1 L (nI m) g) (nI j) (nI x2) (tsX L (nI m2)) g r P _ _ ⟨by decide, by decide⟩ ?_ ?_ ?_
        · exact d_tak _ X.2.2 58 L m2 g hL hm6 _ _ (fun m h => ⟨m, h, rfl⟩) (fun m hm h => ⟨h, rfl, m, hm, rfl⟩)
        · rintro u ⟨m3, h3, rfl⟩
          obtain ⟨hm7, hm8⟩ := kTake_lt h3 (by decide +kernel)
          refine k_TR_readKind_47 X Post _ (P_51 := fun v u => ∃ v' m', kNum false (g 0) L 0 9 m3 = some (v', m') ∧ v = nI v' ∧ u = TX C.1 L (nI m') g) (X_51 := fun E u => kNum false (g 0) L 0 9 m3 = none ∧ E = IAE ∧ ∃ m, m ≤ L ∧ u = TX C.1 L (nI m) g) (nI j) (nI x2) (tsX L (nI m3)) g r P _ _ ⟨by decide, by decide⟩ ?_ ?_ ?_
          · exact d_num _ X.2.2 0 9 L m3 g hL hm8 _ _ (fun v m h => ⟨v, m, h, rfl, rfl⟩) (fun m hm h => ⟨h, rfl, m, hm, rfl⟩)
          · rintro _ u ⟨x3, m4, h4, rfl, rfl⟩
            obtain ⟨hm9, hm10, -, -⟩ := kNum_lt h4 hm8
            refine k_TR_readKind_54 X Post _ (P_59 := fun w u => u = [(w, .inr (11, [.int 0, .ref (C.1.2.2.2.1 7), .int 0]))]) (nI j) (nI x2) (nI x3) (tsX L (nI m4)) g r P _ _ ⟨by decide, by decide⟩ (fun _ => ⟨by decide, by decide⟩) (fun w => d_ALinit _ w _ rfl) ?_
            rintro w u rfl
            refine zW_perm (zp_ins _ _ _ _) ?_
            refine k_TR_readKind_62 X Post _ (nI j) (nI x2) (nI x3) w _ (tsX L (nI m4)) g r P _ _ ?_
            have hal0 : isAL C.1.2.2.2.1 w [] [(w, .inr (11, [.int 0, .ref (C.1.2.2.2.1 7), .int 0]))] := Or.inl ⟨rfl, 0, rfl⟩
            exact zW_wide (by decide) (by decide) (loop 6 0 j (nI x2) (nI x3) w _ P [] [] m4 (by simp only [hk, kKind2, kKind3, h1, h2, h3, h4, Option.bind_some]) rfl hj hal0 rfl trivial Sub.rf hx2 (by omega) hm10)
          · rintro E u ⟨h4, rfl, x, hx, rfl⟩
            exact XK.app (by simp only [hk, kKind2, h1, h2, h3, h4, Option.bind_some, Option.bind_none]) hx Sub.rf
        · rintro E u ⟨h3, rfl, x, hx, rfl⟩
          exact XK.app (by simp only [hk, kKind2, h1, h2, h3, Option.bind_some, Option.bind_none]) hx Sub.rf
      · rintro E u ⟨h2, rfl, x, hx, rfl⟩
        exact XK.app (by simp only [hk, kKind2, h1, h2, Option.bind_some, Option.bind_none]) hx Sub.rf
    · rintro E u ⟨h1, rfl, x, hx, rfl⟩
      exact XK.app (by simp only [hk, kKind2, h1, Option.bind_none]) hx Sub.rf
  refine k_TR_readKind_0 X Post _ (P_4 := fun v u => ∃ v' m', kNum false (g 0) L 1 9 n = some (v', m') ∧ v = nI v' ∧ u = TX C.1 L (nI m') g) (X_4 := fun E u => kNum false (g 0) L 1 9 n = none ∧ E = IAE ∧ ∃ m, m ≤ L ∧ u = TX C.1 L (nI m) g) (tsX L (nI n)) g r P 0 0 ⟨by decide, by decide⟩ ?_ ?_ ?_
  · exact d_num _ X.2.2 1 9 L n g hL hn _ _ (fun v m h => ⟨v, m, h, rfl, rfl⟩) (fun m hm h => ⟨h, rfl, m, hm, rfl⟩)
  · rintro _ u ⟨j, m, h1, rfl, rfl⟩
    obtain ⟨hm1, hm2, hv1, hv2⟩ := kNum_lt h1 hn
    have hj : j < 10 := by
      obtain ⟨i, e, hi⟩ := inV_bd (B := 9) hv2 hv1 (by decide)
      rw [nI_eq (by omega) (by omega)] at e
      omega
    refine k_TR_readKind_7 X Post _ (P_24 := fun _ => False) (X_24 := fun E u => E = IAE ∧ ∃ m, m ≤ L ∧ u = TX C.1 L (nI m) g) (nI j) (tsX L (nI m)) g r P _ _ (vi_n hj (by decide)) (fun z => ?_) (fun _ => ⟨by decide, by decide⟩) (fun _ => ?_) (fun _ u h => h.elim) ?_
    · rw [nI_clamp (show j < 2 ^ 31 by omega)] at z
      exact zW_wide (by decide) (by decide) (s27 j m (by rw [← hkk]; unfold kKind; rw [h1]; exact if_neg (isNone_not z)) hj hm1 hm2)
    · have e9 : tsX L (nI m) 1 - 1 = nI (m - 1) := nI_prd (by omega)
      exact d_fail _ X.2.2 _ _ L g _ ⟨rfl, m - 1, by omega, by rw [e9]⟩
    · rintro z E u ⟨rfl, x, hx, rfl⟩
      rw [nI_clamp (show j < 2 ^ 31 by omega)] at z
      exact XK.app (by rw [← hkk]; unfold kKind; rw [h1]; exact if_pos (isSome_of z)) hx Sub.rf
  · rintro E u ⟨h1, rfl, x, hx, rfl⟩
    exact XK.app (by rw [← hkk]; unfold kKind; rw [h1]; rfl) hx Sub.rf
