-- what lies in the pool: spans, jumps, terms, exactly
def eSp (P : va_W) (a : Nat) (lo hi : Int32) : Prop := (a, (.inr (7, [.int lo, .int hi]) : va_E)) ∈ P
def eJu (P : va_W) (a : Nat) (d : JD) : Prop := ∃ sp, (a, (.inr (8, [.ref sp, .int d.2.2.1, .int d.2.2.2]) : va_E)) ∈ P ∧ eSp P sp d.1 d.2.1 ∧ Bd 60 d.2.2.1
def eTe (P : va_W) (a : Nat) (d : TD) : Prop := (a, (.inr (9, [.int d.1, .int d.2.1, .int d.2.2]) : va_E)) ∈ P ∧ Bd 60 d.1
def isSp (P : va_W) (a : Nat) : Prop := ∃ lo hi, (a, (.inr (7, [.int lo, .int hi]) : va_E)) ∈ P
def isJu (P : va_W) (a : Nat) : Prop := ∃ sp t p, (a, (.inr (8, [.ref sp, .int t, .int p]) : va_E)) ∈ P ∧ isSp P sp ∧ Bd 60 t
def isTe (P : va_W) (a : Nat) : Prop := ∃ ab r v, (a, (.inr (9, [.int ab, .int r, .int v]) : va_E)) ∈ P ∧ Bd 60 ab
def Sub (P P' : va_W) : Prop := ∀ q ∈ P, q ∈ P'
theorem Sub.rf {P : va_W} : Sub P P := fun _ h => h
theorem Sub.tr {P Q R : va_W} (h1 : Sub P Q) (h2 : Sub Q R) : Sub P R := fun q h => h2 q (h1 q h)
theorem Sub.cons {P : va_W} {x : Nat × va_E} : Sub P (x :: P) := fun _ h => List.mem_cons_of_mem _ h
theorem isSp.mono {P P' : va_W} {a : Nat} (h : isSp P a) (hs : Sub P P') : isSp P' a := by
  obtain ⟨lo, hi, h⟩ := h; exact ⟨lo, hi, hs _ h⟩
theorem isJu.mono {P P' : va_W} {a : Nat} (h : isJu P a) (hs : Sub P P') : isJu P' a := by
  obtain ⟨sp, t, p, h, h1, h2⟩ := h; exact ⟨sp, t, p, hs _ h, h1.mono hs, h2⟩
theorem isTe.mono {P P' : va_W} {a : Nat} (h : isTe P a) (hs : Sub P P') : isTe P' a := by
  obtain ⟨x, y, z, h, h1⟩ := h; exact ⟨x, y, z, hs _ h, h1⟩
theorem eSp.mono {P P' : va_W} {a : Nat} {lo hi : Int32} (h : eSp P a lo hi) (hs : Sub P P') : eSp P' a lo hi := hs _ h
theorem eJu.mono {P P' : va_W} {a : Nat} {d : JD} (h : eJu P a d) (hs : Sub P P') : eJu P' a d := by
  obtain ⟨sp, h, h1, h2⟩ := h; exact ⟨sp, hs _ h, h1.mono hs, h2⟩
theorem eTe.mono {P P' : va_W} {a : Nat} {d : TD} (h : eTe P a d) (hs : Sub P P') : eTe P' a d := ⟨hs _ h.1, h.2⟩
theorem eSp.is {P : va_W} {a : Nat} {lo hi : Int32} (h : eSp P a lo hi) : isSp P a := ⟨lo, hi, h⟩
theorem eJu.is {P : va_W} {a : Nat} {d : JD} (h : eJu P a d) : isJu P a := by
  obtain ⟨sp, h, h1, h2⟩ := h; exact ⟨sp, _, _, h, h1.is, h2⟩
theorem eTe.is {P : va_W} {a : Nat} {d : TD} (h : eTe P a d) : isTe P a := ⟨_, _, _, h.1, h.2⟩
-- two lists, one by one
def A2 {β : Type} (R : Nat → β → Prop) : List Nat → List β → Prop
  | [], [] => True
  | x :: xs, y :: ys => R x y ∧ A2 R xs ys
  | _, _ => False
theorem A2.mono {β : Type} {R R' : Nat → β → Prop} (hR : ∀ x y, R x y → R' x y) : ∀ {xs : List Nat} {ys : List β}, A2 R xs ys → A2 R' xs ys := by
  intro xs
  induction xs with
  | nil => intro ys h; cases ys with
    | nil => trivial
    | cons y ys => exact h.elim
  | cons x xs ih => intro ys h; cases ys with
    | nil => exact h.elim
    | cons y ys => exact ⟨hR _ _ h.1, ih h.2⟩
theorem A2.snoc {β : Type} {R : Nat → β → Prop} {x : Nat} {y : β} (h1 : R x y) : ∀ {xs : List Nat} {ys : List β}, A2 R xs ys → A2 R (xs ++ [x]) (ys ++ [y]) := by
  intro xs
  induction xs with
  | nil => intro ys h; cases ys with
    | nil => exact ⟨h1, trivial⟩
    | cons y ys => exact h.elim
  | cons z xs ih => intro ys h; cases ys with
    | nil => exact h.elim
    | cons w ys => exact ⟨h.1, ih h.2⟩
theorem A2.len {β : Type} {R : Nat → β → Prop} : ∀ {xs : List Nat} {ys : List β}, A2 R xs ys → xs.length = ys.length := by
  intro xs
  induction xs with
  | nil => intro ys h; cases ys with
    | nil => rfl
    | cons y ys => exact h.elim
  | cons z xs ih => intro ys h; cases ys with
    | nil => exact h.elim
    | cons w ys => exact congrArg (· + 1) (ih h.2)
theorem A2.at {β : Type} {R : Nat → β → Prop} : ∀ {xs : List Nat} {ys : List β}, A2 R xs ys → ∀ (i : Nat) (h : i < xs.length) (h' : i < ys.length), R xs[i] ys[i] := by
  intro xs
  induction xs with
  | nil => intro ys h i hi; exact absurd hi (Nat.not_lt_zero i)
  | cons z xs ih => intro ys h; cases ys with
    | nil => exact h.elim
    | cons w ys =>
      intro i hi hi'
      cases i with
      | zero => exact h.1
      | succ i => exact ih h.2 i (Nat.lt_of_succ_lt_succ hi) (Nat.lt_of_succ_lt_succ hi')
theorem A2.all {β : Type} {R : Nat → β → Prop} {Q : Nat → Prop} (hR : ∀ x y, R x y → Q x) : ∀ {xs : List Nat} {ys : List β}, A2 R xs ys → ∀ x ∈ xs, Q x := by
  intro xs
  induction xs with
  | nil => intro ys h x hx; cases hx
  | cons z xs ih => intro ys h; cases ys with
    | nil => exact h.elim
    | cons w ys =>
      intro x hx
      rcases List.mem_cons.mp hx with e | e
      · subst e; exact hR _ _ h.1
      · exact ih h.2 x e
-- what a throw of the parser leaves; F says that the text is wrong there
def XT (T : ST) (L : Nat) (g : GT) (P : va_W) (F : Prop) : String → va_W → Prop := fun E u => F ∧ E = IAE ∧ ∃ m P', m ≤ L ∧ u.Perm (TX T L (nI m) g ++ P') ∧ Sub P P'
theorem XT.app {T : ST} {L m : Nat} {g : GT} {P Y : va_W} {F : Prop} (hF : F) (hm : m ≤ L) (h : Sub P Y) : XT T L g P F IAE (TX T L (nI m) g ++ Y) := ⟨hF, rfl, m, Y, hm, List.Perm.refl _, h⟩
theorem XT.front {T : ST} {L m : Nat} {g : GT} {P Y X : va_W} {F : Prop} (hF : F) (hm : m ≤ L) (h : Sub P Y) : XT T L g P F IAE (X ++ (TX T L (nI m) g ++ Y)) := by
  refine ⟨hF, rfl, m, X ++ Y, hm, ?_, fun q hq => List.mem_append_right _ (h q hq)⟩
  rw [← List.append_assoc, ← List.append_assoc]
  exact List.perm_append_comm.append_right Y
theorem front_perm (x : Nat × va_E) (X P : va_W) : ([x] ++ (X ++ P)).Perm (X ++ (x :: P)) := by
  show (x :: (X ++ P)).Perm (X ++ (x :: P))
  exact List.perm_middle.symm
theorem inV_bd {v B : Nat} {a : Int32} (h : ¬ inV (nI v) a (nI B) = 0) (hv : v < 10000) (hB : B < 2 ^ 31) : Bd B (nI v) := by
  have h2 := (inV_nz h).2
  rw [nI_leI (by omega) hB] at h2
  exact ⟨_, rfl, h2⟩
theorem tk_lt {g0 : Nat → Int32} {L n : Nat} {c : Int32} (h : tp g0 L (sN g0 L n) = c) (hc : c ≠ -1) : sN g0 L n + 1 ≤ L := tp_lt (g0 := g0) (by rw [h]; exact hc)
theorem d_num (T : ST) (hlt : T.1.stackTraces = false) (a b : Int32) (L n : Nat) (g : GT) (hL : L ≤ 400) (hn : n ≤ L) (Post : Int32 → va_W → Prop) (PX : String → va_W → Prop) (hq : ∀ v m, kNum false (g 0) L a b n = some (v, m) → Post (nI v) (TX T L (nI m) g)) (hx : ∀ m, m ≤ L → kNum false (g 0) L a b n = none → PX IAE (TX T L (nI m) g)) : xI T y_TR_readNumber (Cond.code y_TR_readNumber b_TR_readNumber 6 (some .int)) 1 3 18 [.ref (ad T 20), .int a, .int b] (TX T L (nI n) g) Post PX :=
  d_readNumber T hlt a b L n g hL hn Post PX (fun h => hq _ _ (if_pos ⟨h, fun q => nomatch q.1⟩)) (fun m hm h => hx m hm (if_neg (fun q => h q.1)))
theorem d_tak (T : ST) (hlt : T.1.stackTraces = false) (c : Int32) (L n : Nat) (g : GT) (hL : L ≤ 400) (hn : n ≤ L) (Post : va_W → Prop) (PX : String → va_W → Prop) (hq : ∀ m, kTake (g 0) L c n = some m → Post (TX T L (nI m) g)) (hx : ∀ m, m ≤ L → kTake (g 0) L c n = none → PX IAE (TX T L (nI m) g)) : xV T y_TR_take (Cond.code y_TR_take b_TR_take 2 none) 1 1 6 [.ref (ad T 20), .int c] (TX T L (nI n) g) Post PX :=
  d_take T hlt c L n g hL hn Post PX (fun h => hq _ (if_pos h)) (fun h => hx _ (sN_le _ hn) (if_neg h))
theorem d_Sp (T : ST) (q : Nat) (x y : Int32) (Post : va_W → Prop) (hq : Post [(q, .inr (7, [.int x, .int y]))]) : uV T y_Sp_init (Cond.code y_Sp_init b_Sp_init 3 none) 0 0 0 [.ref q, .int x, .int y] [(q, .inr (7, [.int 0, .int 0]))] Post := by
  refine e_Sp_init T Post x y q ?_
  rintro C rfl X
  exact k_Sp_init_0 X Post x y q 0 0 ⟨by decide, by decide⟩ hq
theorem d_Ju (T : ST) (q sp : Nat) (x y : Int32) (Post : va_W → Prop) (hq : Post [(q, .inr (8, [.ref sp, .int x, .int y]))]) : uV T y_Ju_init (Cond.code y_Ju_init b_Ju_init 4 none) 0 0 0 [.ref q, .ref sp, .int x, .int y] [(q, .inr (8, [.null, .int 0, .int 0]))] Post := by
  refine e_Ju_init T Post sp x y q ?_
  rintro C rfl X
  exact k_Ju_init_0 X Post sp x y q 0 0 ⟨by decide, by decide⟩ hq
theorem d_Te (T : ST) (q : Nat) (x y z : Int32) (Post : va_W → Prop) (hq : Post [(q, .inr (9, [.int x, .int y, .int z]))]) : uV T y_Te_init (Cond.code y_Te_init b_Te_init 4 none) 0 0 0 [.ref q, .int x, .int y, .int z] [(q, .inr (9, [.int 0, .int 0, .int 0]))] Post := by
  refine e_Te_init T Post x y z q ?_
  rintro C rfl X
  exact k_Te_init_0 X Post x y z q 0 0 ⟨by decide, by decide⟩ hq
set_option maxHeartbeats 1000000 in
theorem d_readSpan (T : ST) (hlt : T.1.stackTraces = false) (L n : Nat) (g : GT) (P : va_W) (hL : L ≤ 400) (hn : n ≤ L) (Post : Option Nat → va_W → Prop) (hq : ∀ r n' a P', kSpan false (g 0) L n = some (r, n') → n + 3 ≤ n' → n' ≤ L → Sub P P' → eSp P' a r.1 r.2 → Post (some a) (TX T L (nI n') g ++ P')) : xR T y_TR_readSpan (Cond.code y_TR_readSpan b_TR_readSpan 2 (some (.object "QuestionText$Span"))) 2 8 44 [.ref (ad T 20)] (TX T L (nI n) g ++ P) Post (XT T L g P (kSpan false (g 0) L n = none)) := by
  refine e_TR_readSpan T hlt Post _ (tsX L (nI n)) g P ?_
  rintro C rfl X
  refine k_TR_readSpan_0 X Post _ (P_5 := fun r u => ∃ v m, kNum false (g 0) L 0 9999 n = some (v, m) ∧ r = nI v ∧ u = TX C.1 L (nI m) g) (X_5 := fun E u => kNum false (g 0) L 0 9999 n = none ∧ E = IAE ∧ ∃ m, m ≤ L ∧ u = TX C.1 L (nI m) g) (tsX L (nI n)) g P 0 0 ⟨by decide, by decide⟩ ?_ ?_ ?_
  · exact d_num _ X.2.2 0 9999 L n g hL hn _ _ (fun v m h => ⟨v, m, h, rfl, rfl⟩) (fun m hm h => ⟨h, rfl, m, hm, rfl⟩)
  · rintro _ u ⟨v, m, h1, rfl, rfl⟩
    obtain ⟨hm1, hm2, -, -⟩ := kNum_lt h1 hn
    refine k_TR_readSpan_8 X Post _ (P_12 := fun u => ∃ m', kTake (g 0) L 45 m = some m' ∧ u = TX C.1 L (nI m') g) (X_12 := fun E u => kTake (g 0) L 45 m = none ∧ E = IAE ∧ ∃ m, m ≤ L ∧ u = TX C.1 L (nI m) g) (nI v) (tsX L (nI m)) g P 3 18 ⟨by decide, by decide⟩ ?_ ?_ ?_
    · exact d_tak _ X.2.2 45 L m g hL hm2 _ _ (fun m h => ⟨m, h, rfl⟩) (fun m hm h => ⟨h, rfl, m, hm, rfl⟩)
    · rintro u ⟨m', h2, rfl⟩
      obtain ⟨hm3, hm4⟩ := kTake_lt h2 (by decide +kernel)
      refine k_TR_readSpan_15 X Post _ (P_25 := fun _ r u => ∃ v2 m2, kNum false (g 0) L (nI v) 9999 m' = some (v2, m2) ∧ r = nI v2 ∧ u = TX C.1 L (nI m2) g) (X_25 := fun _ E u => kNum false (g 0) L (nI v) 9999 m' = none ∧ E = IAE ∧ ∃ m, m ≤ L ∧ u = TX C.1 L (nI m) g) (nI v) (tsX L (nI m')) g P (3 + 1) (18 + 6) ⟨by decide, by decide⟩ (fun _ => ⟨by decide, by decide⟩) (fun _ => ?_) ?_ ?_
      · exact d_num _ X.2.2 (nI v) 9999 L m' g hL hm4 _ _ (fun v m h => ⟨v, m, h, rfl, rfl⟩) (fun m hm h => ⟨h, rfl, m, hm, rfl⟩)
      · rintro w _ u ⟨v2, m2, h3, rfl, rfl⟩
        obtain ⟨hm5, hm6, -, -⟩ := kNum_lt h3 hm4
        refine k_TR_readSpan_28 X Post _ (P_28 := fun u => u = [(w, .inr (7, [.int (nI v), .int (nI v2)]))]) (nI v) (nI v2) (nI v) w (tsX L (nI m2)) g P (3 + 1 + 1 + 3) (18 + 6 + 2 + 18) ⟨by decide, by decide⟩ ?_ ?_
        · exact d_Sp _ w (nI v) (nI v2) _ rfl
        · rintro u rfl
          refine zW_perm (front_perm _ _ _) ?_
          exact k_TR_readSpan_31 X Post _ (nI v) w (tsX L (nI m2)) g ((w, .inr (7, [.int (nI v), .int (nI v2)])) :: P) _ _ ⟨by decide, by decide⟩ (hq (nI v, nI v2) m2 w _ (by simp only [kSpan, h1, h2, h3, Option.bind_some]) (by omega) hm6 Sub.cons List.mem_cons_self)
      · rintro w E u ⟨h3, rfl, x, hx, rfl⟩
        exact XT.front (by simp only [kSpan, h1, h2, h3, Option.bind_some, Option.bind_none]) hx Sub.rf
    · rintro E u ⟨h2, rfl, x, hx, rfl⟩
      exact XT.app (by simp only [kSpan, h1, h2, Option.bind_some, Option.bind_none]) hx Sub.rf
  · rintro E u ⟨h1, rfl, x, hx, rfl⟩
    exact XT.app (by simp only [kSpan, h1, Option.bind_none]) hx Sub.rf
set_option maxHeartbeats 1000000 in
theorem d_readJump (T : ST) (hlt : T.1.stackTraces = false) (sp L n : Nat) (lo hi : Int32) (g : GT) (P : va_W) (hL : L ≤ 400) (hn : n ≤ L) (hsp : eSp P sp lo hi) (Post : Option Nat → va_W → Prop) (hq : ∀ r n' a P', kJump false (g 0) L n = some (r, n') → n + 2 ≤ n' → n' ≤ L → Sub P P' → eJu P' a (lo, hi, r.1, r.2) → Post (some a) (TX T L (nI n') g ++ P')) : xR T y_TR_readJump (Cond.code y_TR_readJump b_TR_readJump 4 (some (.object "QuestionText$Jump"))) 2 8 45 [.ref (ad T 20), .ref sp] (TX T L (nI n) g ++ P) Post (XT T L g P (kJump false (g 0) L n = none)) := by
  refine e_TR_readJump T hlt Post _ sp (tsX L (nI n)) g P ?_
  rintro C rfl X
  have fin : ∀ t p m, kJump false (g 0) L n = some ((t, p), m) → Bd 60 t → n + 2 ≤ m → m ≤ L → zc_TR_readJump C Post (XT C.1 L g P (kJump false (g 0) L n = none)) 7 42 35 [(0, .ref (ad C.1 20)), (1, .ref sp), (2, .int t)] [.int p] (TX C.1 L (nI m) g ++ P) := by
    intro t p m hk ht hm1 hm2
    refine k_TR_readJump_35 X Post _ (P_43 := fun w u => u = [(w, .inr (8, [.ref sp, .int t, .int p]))]) sp t p (tsX L (nI m)) g P 7 42 ⟨by decide, by decide⟩ (fun _ => ⟨by decide, by decide⟩) ?_ ?_
    · intro w; exact d_Ju _ w sp t p _ rfl
    · rintro w u rfl
      refine zW_perm (front_perm _ _ _) ?_
      exact k_TR_readJump_46 X Post _ sp t p w (tsX L (nI m)) g ((w, .inr (8, [.ref sp, .int t, .int p])) :: P) _ _ ⟨by decide, by decide⟩ (hq (t, p) m w _ hk (by omega) hm2 Sub.cons ⟨sp, List.mem_cons_self, hsp.mono Sub.cons, ht⟩)
  refine k_TR_readJump_0 X Post _ (P_3 := fun u => ∃ m', kTake (g 0) L 62 n = some m' ∧ u = TX C.1 L (nI m') g) (X_3 := fun E u => kTake (g 0) L 62 n = none ∧ E = IAE ∧ ∃ m, m ≤ L ∧ u = TX C.1 L (nI m) g) sp (tsX L (nI n)) g P 0 0 ⟨by decide, by decide⟩ ?_ ?_ ?_
  · exact d_tak _ X.2.2 62 L n g hL hn _ _ (fun m h => ⟨m, h, rfl⟩) (fun m hm h => ⟨h, rfl, m, hm, rfl⟩)
  · rintro u ⟨m, h1, rfl⟩
    obtain ⟨hm1, hm2⟩ := kTake_lt h1 (by decide +kernel)
    refine k_TR_readJump_6 X Post _ (P_10 := fun r u => ∃ v m', kNum false (g 0) L 0 60 m = some (v, m') ∧ r = nI v ∧ u = TX C.1 L (nI m') g) (X_10 := fun E u => kNum false (g 0) L 0 60 m = none ∧ E = IAE ∧ ∃ m, m ≤ L ∧ u = TX C.1 L (nI m) g) sp (tsX L (nI m)) g P 1 6 ⟨by decide, by decide⟩ ?_ ?_ ?_
    · exact d_num _ X.2.2 0 60 L m g hL hm2 _ _ (fun v m h => ⟨v, m, h, rfl, rfl⟩) (fun m hm h => ⟨h, rfl, m, hm, rfl⟩)
    · rintro _ u ⟨v, m2, h2, rfl, rfl⟩
      obtain ⟨hm3, hm4, hv1, hv2⟩ := kNum_lt h2 hm2
      have ht : Bd 60 (nI v) := inV_bd (B := 60) hv2 hv1 (by decide)
      have h7 := sN_ge (g 0) L m2
      refine k_TR_readJump_13 X Post _ (P_17 := fun r u => (r = 1 ∧ tp (g 0) L (sN (g 0) L m2) = 43 ∧ u = TX C.1 L (nI (sN (g 0) L m2 + 1)) g) ∨ (r = 0 ∧ ¬ tp (g 0) L (sN (g 0) L m2) = 43 ∧ u = TX C.1 L (nI (sN (g 0) L m2)) g)) sp (nI v) (tsX L (nI m2)) g P (1 + 3) (6 + 18) ⟨by decide, by decide⟩ ?_ ?_
      · refine d_took _ 43 L m2 g hL hm4 _ ?_
        split
        · rename_i z; exact Or.inl ⟨rfl, z, rfl⟩
        · rename_i z; exact Or.inr ⟨rfl, z, rfl⟩
      · rintro r u (⟨rfl, z, rfl⟩ | ⟨rfl, z, rfl⟩)
        · have hm6 := tk_lt z (by decide +kernel)
          refine k_TR_readJump_20 X Post _ (P_28 := fun r u => ∃ v3 m', kNum false (g 0) L 0 999 (sN (g 0) L m2 + 1) = some (v3, m') ∧ r = nI v3 ∧ u = TX C.1 L (nI m') g) (X_28 := fun E u => kNum false (g 0) L 0 999 (sN (g 0) L m2 + 1) = none ∧ E = IAE ∧ ∃ m, m ≤ L ∧ u = TX C.1 L (nI m) g) sp (nI v) 1 (tsX L (nI (sN (g 0) L m2 + 1))) g P (1 + 3) (6 + 18) (fun y => absurd y (by decide +kernel)) (fun _ => ⟨by decide, by decide⟩) (fun _ => ?_) ?_ ?_
          · exact d_num _ X.2.2 0 999 L _ g hL hm6 _ _ (fun v m h => ⟨v, m, h, rfl, rfl⟩) (fun m hm h => ⟨h, rfl, m, hm, rfl⟩)
          · rintro _ _ u ⟨v3, m4, h3, rfl, rfl⟩
            obtain ⟨hm7, hm8, -, -⟩ := kNum_lt h3 hm6
            exact k_TR_readJump_31 X Post _ sp (nI v) (nI v3) (tsX L (nI m4)) g P _ _ (fin (nI v) (nI v3) m4 (by simp only [kJump, kPts, h1, h2, h3, z, if_true, Option.bind_some]) ht (by omega) hm8)
          · rintro _ E u ⟨h3, rfl, x, hx, rfl⟩
            exact XT.app (by simp only [kJump, kPts, h1, h2, h3, z, if_true, Option.bind_some, Option.bind_none]) hx Sub.rf
        · exact k_TR_readJump_20 X Post _ (P_28 := fun _ _ => True) (X_28 := fun _ _ => True) sp (nI v) 0 (tsX L (nI (sN (g 0) L m2))) g P (1 + 3) (6 + 18) (fun _ => zW_wide (by decide) (by decide) (fin (nI v) 0 _ (by simp only [kJump, kPts, h1, h2, z, if_false, Option.bind_some]) ht (by omega) (sN_le _ hm4))) (fun y => absurd rfl y) (fun y => absurd rfl y) (fun y => absurd rfl y) (fun y => absurd rfl y)
    · rintro E u ⟨h2, rfl, x, hx, rfl⟩
      exact XT.app (by simp only [kJump, h1, h2, Option.bind_some, Option.bind_none]) hx Sub.rf
  · rintro E u ⟨h1, rfl, x, hx, rfl⟩
    exact XT.app (by simp only [kJump, h1, Option.bind_none]) hx Sub.rf
set_option maxHeartbeats 1000000 in
theorem d_readTerm (T : ST) (hlt : T.1.stackTraces = false) (L n : Nat) (g : GT) (P : va_W) (hL : L ≤ 400) (hn : n ≤ L) (Post : Option Nat → va_W → Prop) (hq : ∀ r n' a P', kTerm false (g 0) L n = some (r, n') → n + 3 ≤ n' → n' ≤ L → Sub P P' → eTe P' a r → Post (some a) (TX T L (nI n') g ++ P')) : xR T y_TR_readTerm (Cond.code y_TR_readTerm b_TR_readTerm 3 (some (.object "QuestionText$Term"))) 2 9 51 [.ref (ad T 20)] (TX T L (nI n) g ++ P) Post (XT T L g P (kTerm false (g 0) L n = none)) := by
  refine e_TR_readTerm T hlt Post _ (tsX L (nI n)) g P ?_
  rintro C rfl X
  have s25 : ∀ ab m, kTerm false (g 0) L n = kRel false (g 0) L ab m → Bd 60 ab → n + 1 ≤ m → m ≤ L → zc_TR_readTerm C Post (XT C.1 L g P (kTerm false (g 0) L n = none)) 4 24 25 [(0, .ref (ad C.1 20)), (1, .int ab)] [] (TX C.1 L (nI m) g ++ P) := by
    intro ab m hk hab hm1 hm2
    refine k_TR_readTerm_25 X Post _ (P_26 := fun r u => r = tp (g 0) L (sN (g 0) L m) ∧ u = TX C.1 L (nI (sN (g 0) L m)) g) ab (tsX L (nI m)) g P 4 24 ⟨by decide, by decide⟩ ?_ ?_
    · exact d_nextSign _ L m g hL hm2 _ ⟨rfl, rfl⟩
    rintro r u ⟨rfl, rfl⟩
    have h1 := sN_ge (g 0) L m
    have hs := sN_le (g 0) hm2
    have go : ∀ c, tp (g 0) L (sN (g 0) L m) = c → c ≠ -1 → (tp (g 0) L (sN (g 0) L m) = 60 ∨ tp (g 0) L (sN (g 0) L m) = 62 ∨ (tp (g 0) L (sN (g 0) L m) = 61 ∧ ¬ ab = 0)) → zc_TR_readTerm C Post (XT C.1 L g P (kTerm false (g 0) L n = none)) 4 24 60 [(0, .ref (ad C.1 20)), (1, .int ab), (2, .int (tp (g 0) L (sN (g 0) L m)))] [] (TX C.1 L (nI (sN (g 0) L m)) g ++ P) := by
      intro c h hc hz
      have hm3 := tk_lt h hc
      have hk2 : kTerm false (g 0) L n = (kNum false (g 0) L 0 9999 (sN (g 0) L m + 1)).bind fun v => some ((ab, tp (g 0) L (sN (g 0) L m), nI v.1), v.2) := by rw [hk]; exact if_pos hz
      refine k_TR_readTerm_60 X Post _ (P_81 := fun _ v u => ∃ v' m', kNum false (g 0) L 0 9999 (sN (g 0) L m + 1) = some (v', m') ∧ v = nI v' ∧ u = TX C.1 L (nI m') g) (X_81 := fun _ E u => kNum false (g 0) L 0 9999 (sN (g 0) L m + 1) = none ∧ E = IAE ∧ ∃ m, m ≤ L ∧ u = TX C.1 L (nI m) g) ab _ (tsX L (nI (sN (g 0) L m))) g P 4 24 ⟨by decide, by decide⟩ (fun _ => ⟨by decide, by decide⟩) (fun _ => ?_) ?_ ?_
      · rw [show tsX L (nI (sN (g 0) L m)) 1 + 1 = nI (sN (g 0) L m + 1) from nI_1 _]
        exact d_num _ X.2.2 0 9999 L _ g hL hm3 _ _ (fun v m h => ⟨v, m, h, rfl, rfl⟩) (fun m hm h => ⟨h, rfl, m, hm, rfl⟩)
      · rintro w _ u ⟨v, m', h3, rfl, rfl⟩
        obtain ⟨hm5, hm6, -, -⟩ := kNum_lt h3 hm3
        refine k_TR_readTerm_84 X Post _ (P_84 := fun u => u = [(w, .inr (9, [.int ab, .int (tp (g 0) L (sN (g 0) L m)), .int (nI v)]))]) ab _ (nI v) _ ab w (tsX L (nI m')) g P _ _ ⟨by decide, by decide⟩ ?_ ?_
        · exact d_Te _ w ab _ (nI v) _ rfl
        · rintro u rfl
          refine zW_perm (front_perm _ _ _) ?_
          exact k_TR_readTerm_87 X Post _ ab _ w (tsX L (nI m')) g ((w, .inr (9, [.int ab, .int (tp (g 0) L (sN (g 0) L m)), .int (nI v)])) :: P) _ _ ⟨by decide, by decide⟩ (hq (ab, tp (g 0) L (sN (g 0) L m), nI v) m' w _ (by rw [hk2, h3]; rfl) (by omega) hm6 Sub.cons ⟨List.mem_cons_self, hab⟩)
      · rintro w E u ⟨h3, rfl, x, hx, rfl⟩
        exact XT.front (by rw [hk2, h3]; rfl) hx Sub.rf
    have s52 : ¬ (tp (g 0) L (sN (g 0) L m) = 60 ∨ tp (g 0) L (sN (g 0) L m) = 62 ∨ (tp (g 0) L (sN (g 0) L m) = 61 ∧ ¬ ab = 0)) → zc_TR_readTerm C Post (XT C.1 L g P (kTerm false (g 0) L n = none)) 4 24 52 [(0, .ref (ad C.1 20)), (1, .int ab), (2, .int (tp (g 0) L (sN (g 0) L m)))] [] (TX C.1 L (nI (sN (g 0) L m)) g ++ P) := by
      intro hz
      refine k_TR_readTerm_52 X Post _ (P_57 := fun _ => False) (X_57 := fun E u => E = IAE ∧ u = TX C.1 L (nI (sN (g 0) L m)) g) ab _ (tsX L (nI (sN (g 0) L m))) g P 4 24 ⟨by decide, by decide⟩ ?_ (fun u h => h.elim) ?_
      · exact d_fail _ X.2.2 _ _ L g _ ⟨rfl, rfl⟩
      · rintro E u ⟨rfl, rfl⟩
        exact XT.app (by rw [hk]; exact if_neg hz) hs Sub.rf
    exact k_TR_readTerm_29 X Post _ ab _ (tsX L (nI (sN (g 0) L m))) g P 4 24 (fun z => go _ z (by decide +kernel) (Or.inl z)) (fun _ z => go _ z (by decide +kernel) (Or.inr (Or.inl z))) (fun z1 z2 z3 => s52 (fun y => by rcases y with y | y | y; exact z1 y; exact z2 y; exact z3 y.1)) (fun _ _ z z4 => go _ z (by decide +kernel) (Or.inr (Or.inr ⟨z, z4⟩))) (fun z1 z2 z3 z4 => s52 (fun y => by rcases y with y | y | y; exact z1 y; exact z2 y; exact y.2 z4))
  refine k_TR_readTerm_0 X Post _ (P_5 := fun r u => (r = 1 ∧ tp (g 0) L (sN (g 0) L n) = 112 ∧ u = TX C.1 L (nI (sN (g 0) L n + 1)) g) ∨ (r = 0 ∧ ¬ tp (g 0) L (sN (g 0) L n) = 112 ∧ u = TX C.1 L (nI (sN (g 0) L n)) g)) (tsX L (nI n)) g P 0 0 ⟨by decide, by decide⟩ ?_ ?_
  · refine d_took _ 112 L n g hL hn _ ?_
    split
    · rename_i z; exact Or.inl ⟨rfl, z, rfl⟩
    · rename_i z; exact Or.inr ⟨rfl, z, rfl⟩
  have h7 := sN_ge (g 0) L n
  have h8 := sN_le (g 0) hn
  rintro r u (⟨rfl, z, rfl⟩ | ⟨rfl, z, rfl⟩)
  · exact k_TR_readTerm_8 X Post _ (P_14 := fun _ => True) (X_14 := fun _ _ => True) 0 1 (tsX L (nI (sN (g 0) L n + 1))) g P 0 0 (fun _ => zW_wide (by decide) (by decide) (s25 0 _ (if_pos z) (Bd_0 _) (by omega) (tk_lt z (by decide +kernel)))) (fun z => absurd z (by decide +kernel)) (fun z => absurd z (by decide +kernel)) (fun z => absurd z (by decide +kernel)) (fun z => absurd z (by decide +kernel))
  · have hk : kTerm false (g 0) L n = (kTake (g 0) L 113 (sN (g 0) L n)).bind fun m => (kNum false (g 0) L 1 60 m).bind fun v => kRel false (g 0) L (nI v.1) v.2 := if_neg z
    refine k_TR_readTerm_8 X Post _ (P_14 := fun u => ∃ m', kTake (g 0) L 113 (sN (g 0) L n) = some m' ∧ u = TX C.1 L (nI m') g) (X_14 := fun E u => kTake (g 0) L 113 (sN (g 0) L n) = none ∧ E = IAE ∧ ∃ m, m ≤ L ∧ u = TX C.1 L (nI m) g) 0 0 (tsX L (nI (sN (g 0) L n))) g P 0 0 (fun z => absurd rfl z) (fun _ => ⟨by decide, by decide⟩) (fun _ => ?_) ?_ ?_
    · exact d_tak _ X.2.2 113 L _ g hL h8 _ _ (fun m h => ⟨m, h, rfl⟩) (fun m hm h => ⟨h, rfl, m, hm, rfl⟩)
    · rintro _ u ⟨m2, h1, rfl⟩
      obtain ⟨hm3, hm4⟩ := kTake_lt h1 (by decide +kernel)
      refine k_TR_readTerm_17 X Post _ (P_21 := fun r u => ∃ v m', kNum false (g 0) L 1 60 m2 = some (v, m') ∧ r = nI v ∧ u = TX C.1 L (nI m') g) (X_21 := fun E u => kNum false (g 0) L 1 60 m2 = none ∧ E = IAE ∧ ∃ m, m ≤ L ∧ u = TX C.1 L (nI m) g) 0 (tsX L (nI m2)) g P (0 + 1) (0 + 6) ⟨by decide, by decide⟩ ?_ ?_ ?_
      · exact d_num _ X.2.2 1 60 L m2 g hL hm4 _ _ (fun v m h => ⟨v, m, h, rfl, rfl⟩) (fun m hm h => ⟨h, rfl, m, hm, rfl⟩)
      · rintro _ u ⟨v, m3, h2, rfl, rfl⟩
        obtain ⟨hm5, hm6, hv1, hv2⟩ := kNum_lt h2 hm4
        exact k_TR_readTerm_24 X Post _ 0 (nI v) (tsX L (nI m3)) g P _ _ (zW_wide (by decide) (by decide) (s25 (nI v) m3 (by rw [hk, h1]; show (kNum false (g 0) L 1 60 m2).bind _ = _; rw [h2]; rfl) (inV_bd (B := 60) hv2 hv1 (by decide)) (by omega) hm6))
      · rintro E u ⟨h2, rfl, x, hx, rfl⟩
        exact XT.app (by rw [hk, h1]; show (kNum false (g 0) L 1 60 m2).bind _ = _; rw [h2]; rfl) hx Sub.rf
    · rintro _ E u ⟨h1, rfl, x, hx, rfl⟩
      exact XT.app (by rw [hk, h1]; rfl) hx Sub.rf
