-- lists, questions, kinds: reading them
theorem isAL.cell {k : Nat → ClassId} {q : Nat} {xs : List Nat} {w : va_W} (h : isAL k q xs w) : ∃ (m : Int32) (e : Nat), (q, (.inr (11, [.int m, .ref e, .int (nI xs.length)]) : va_E)) ∈ w := by
  rcases h with ⟨rfl, m, rfl⟩ | ⟨-, -, m, e, f, rfl, -⟩
  · refine ⟨m, k 7, ?_⟩
    show (q, (.inr (11, [.int m, .ref (k 7), .int (nI 0)]) : va_E)) ∈ _
    rw [nI_0]; exact List.mem_cons_self
  · exact ⟨m, e, List.mem_cons_self⟩
theorem isAL.elem {k : Nat → ClassId} {q : Nat} {xs : List Nat} {w : va_W} (h : isAL k q xs w) (i : Nat) (hi : i < xs.length) : ∃ (m : Int32) (e : Nat) (f : Nat → Option Nat), (q, (.inr (11, [.int m, .ref e, .int (nI xs.length)]) : va_E)) ∈ w ∧ (e, (.inl (k 6, 10, .inr (.inr (.inr (.inr f)))) : va_E)) ∈ w ∧ f i = some xs[i] ∧ xs.length ≤ 10 := by
  rcases h with ⟨rfl, m, rfl⟩ | ⟨-, h2, m, e, f, rfl, h3⟩
  · exact absurd hi (Nat.not_lt_zero _)
  · exact ⟨m, e, f, List.mem_cons_self, List.mem_cons_of_mem _ List.mem_cons_self, h3 i hi, h2⟩
theorem isAL.rP {k : Nat → ClassId} {q : Nat} {xs : List Nat} {w P : va_W} (h : isAL k q xs w) (hs : Sub w P) : ∃ (i : Nat) (fs : List Value), P[i]? = some (q, .inr (11, fs)) := by
  obtain ⟨m, e, hm⟩ := h.cell
  obtain ⟨i, hi⟩ := List.getElem?_of_mem (hs _ hm)
  exact ⟨i, _, hi⟩
theorem d_size (T : ST) (l : Nat) (xs : List Nat) (w P : va_W) (hal : isAL T.2.2.2.1 l xs w) (hs : Sub w P) (Post : Int32 → va_W → Prop) (hq : Post (nI xs.length) P) : uI T y_AL_size (Cond.code y_AL_size b_AL_size 1 (some .int)) 0 0 0 [.ref l] P Post := by
  obtain ⟨m, e, hm⟩ := hal.cell
  obtain ⟨i, hi⟩ := List.getElem?_of_mem (hs _ hm)
  refine e_AL_size T Post P l m e (nI xs.length) ?_
  rintro C rfl X
  exact k_AL_size_0 X Post P l m e _ i 0 0 hi ⟨by decide, by decide⟩ hq
theorem d_get (T : ST) (l : Nat) (xs : List Nat) (w P : va_W) (hal : isAL T.2.2.2.1 l xs w) (hs : Sub w P) (j : Nat) (hj : j < xs.length) (Post : Option Nat → va_W → Prop) (hq : Post (some xs[j]) P) : uR T y_AL_get (Cond.code y_AL_get b_AL_get 2 (some (.object "java/lang/Object"))) 2 0 0 [.ref l, .int (nI j)] P Post := by
  obtain ⟨m, e, f, h1, h2, h3, h4⟩ := hal.elem j hj
  obtain ⟨i1, hf⟩ := List.getElem?_of_mem (hs _ h1)
  obtain ⟨i2, he⟩ := List.getElem?_of_mem (hs _ h2)
  refine e_AL_get T Post (nI j) P l m e (nI xs.length) f ?_
  rintro C rfl X
  refine k_AL_get_0 X Post (P_5 := fun _ _ => True) (nI j) P l m e (nI xs.length) f i1 i2 0 0 hf he ⟨by decide, by decide⟩ ?_ ?_
  · refine e_OB_checkIndex _ _ (nI j) (nI xs.length) ?_
    rintro C2 h2 X2
    refine k_OB_checkIndex_0 X2 _ (P_3 := fun _ _ => True) (nI j) (nI xs.length) 0 0 ⟨by decide, by decide⟩ ?_ ?_
    · refine e_PC_checkIndex _ _ (nI j) (nI xs.length) ?_
      rintro C3 h3 X3
      exact k_PC_checkIndex_0 X3 _ (nI j) (nI xs.length) 0 0 (fun z => nI_pos (by omega) z) (fun _ _ => ⟨by decide, by decide⟩) (fun _ _ => trivial) (fun _ z => z (nI_lt hj (by omega)))
    · intro y u _
      exact k_OB_checkIndex_6 X2 _ (nI j) (nI xs.length) y _ _ ⟨by decide, by decide⟩ trivial
  · intro y u _
    refine k_AL_get_8 X Post (P_11 := fun y u => y = some xs[j] ∧ u = P) (nI j) y P l m e (nI xs.length) f i1 i2 _ _ hf he ⟨by decide, by decide⟩ ?_ ?_
    · refine e_AL_elementData _ _ (nI j) P l m e (nI xs.length) f ?_
      rintro C2 h2 X2
      rw [← h2] at he
      refine k_AL_elementData_0 X2 _ (nI j) P l m e (nI xs.length) f i1 i2 0 0 hf he (vi_n (show j < 10 by omega) (by decide)) ⟨by decide, by decide⟩ ?_
      rw [nI_clamp (by omega)]
      exact ⟨h3, rfl⟩
    · rintro y u ⟨rfl, rfl⟩
      exact k_AL_get_14 X Post (nI j) (some xs[j]) _ l m e (nI xs.length) f i1 i2 _ _ hf he ⟨by decide, by decide⟩ hq
theorem d_has (T : ST) (a : Nat) (lo hi x : Int32) (P : va_W) (h : (a, (.inr (7, [.int lo, .int hi]) : va_E)) ∈ P) (Post : Int32 → va_W → Prop) (hq : Post (inV x lo hi) P) : uI T y_Sp_has (Cond.code y_Sp_has b_Sp_has 2 (some .boolean)) 0 0 0 [.ref a, .int x] P Post := by
  obtain ⟨i, hi9⟩ := List.getElem?_of_mem h
  refine e_Sp_has T Post x P a lo hi ?_
  rintro C rfl X
  have s21 : ∀ y, (y = 0 ∨ y = 1) → inV x lo hi = y → zc_Sp_has C Post 0 0 21 [(0, .ref a), (1, .int x)] [.int y] P := by
    intro y hy e
    exact k_Sp_has_21 X Post x y P a lo hi i 0 0 hi9 ⟨by decide, by decide⟩ (e ▸ hq) (nar01 hy)
  refine k_Sp_has_0 X Post x P a lo hi i 0 0 hi9 (fun z => ?_) (fun z1 z2 => ?_) (fun z1 z2 => ?_)
  · exact k_Sp_has_20 X Post x P a lo hi i 0 0 hi9 (s21 0 (Or.inl rfl) (if_pos z))
  · exact k_Sp_has_20 X Post x P a lo hi i 0 0 hi9 (s21 0 (Or.inl rfl) (by unfold inV; rw [if_neg z1, if_pos z2]))
  · exact s21 1 (Or.inr rfl) (by unfold inV; rw [if_neg z1, if_neg z2])
theorem d_allows (T : ST) (a : Nat) (x : Int32) (P : va_W) (h : isQu T.2.2.2.1 P a) (Post : Int32 → va_W → Prop) (hq : ∀ y, (y = 0 ∨ y = 1) → Post y P) : uI T y_Qu_allows (Cond.code y_Qu_allows b_Qu_allows 2 (some .boolean)) 1 0 0 [.ref a, .int x] P Post := by
  obtain ⟨mu, sp, wa, wb, l, jx, xs, w, h1, h2, ⟨lo, hi, h3⟩, -⟩ := h
  obtain ⟨i1, hf⟩ := List.getElem?_of_mem h1
  obtain ⟨i3, hs⟩ := List.getElem?_of_mem h3
  refine e_Qu_allows T Post x P a mu sp wa wb l jx lo hi ?_
  rintro C rfl X
  have s28 : ∀ y, (y = 0 ∨ y = 1) → zc_Qu_allows C Post 0 0 28 [(0, .ref a), (1, .int x)] [.int y] P := fun y hy => k_Qu_allows_28 X Post x y P a mu sp wa wb l jx lo hi i1 i3 0 0 hf hs ⟨by decide, by decide⟩ (hq y hy) (nar01 hy)
  refine k_Qu_allows_0 X Post (P_25 := fun y u => (y = 0 ∨ y = 1) ∧ u = P) x P a mu sp wa wb l jx lo hi i1 i3 0 0 hf hs (fun _ => ⟨by decide, by decide⟩) (fun _ => d_has _ sp lo hi x P h3 _ ⟨inV_01 _ _ _, rfl⟩) ?_ (fun _ _ => s28 0 (Or.inl rfl)) (fun _ _ => s28 1 (Or.inr rfl))
  rintro _ y u ⟨hy, rfl⟩
  exact s28 y hy
theorem d_jumpFor (T : ST) (a : Nat) (x : Int32) (P : va_W) (h : isQu T.2.2.2.1 P a) (Post : Option Nat → va_W → Prop) (hq : ∀ y, isJu P y → Post (some y) P) : uR T y_Qu_jumpFor (Cond.code y_Qu_jumpFor b_Qu_jumpFor 3 (some (.object "QuestionText$Jump"))) 3 0 0 [.ref a, .int x] P Post := by
  obtain ⟨mu, sp, wa, wb, l, jx, xs, w, h1, -, -, -, -, h6, h7, h8, h9, h10⟩ := h
  obtain ⟨i1, hf⟩ := List.getElem?_of_mem h1
  refine e_Qu_jumpFor T Post x P a mu sp wa wb l jx ?_
  rintro C rfl X
  have loop : ∀ k c, k + c = xs.length → zc_Qu_jumpFor C Post 0 0 2 [(0, .ref a), (1, .int x), (2, .int (nI c))] [] P := by
    intro k
    induction k with
    | zero =>
      intro c hc
      refine k_Qu_jumpFor_2 X Post (P_7 := fun y u => y = nI xs.length ∧ u = P) x (nI c) P a mu sp wa wb l jx i1 0 0 hf ⟨by decide, by decide⟩ (d_size _ l xs w P h7 h8 _ ⟨rfl, rfl⟩) ?_ (h7.rP h8)
      rintro y u ⟨rfl, rfl⟩
      have z : nI xs.length ≤ nI c := nI_le (by omega) (by omega)
      exact k_Qu_jumpFor_12 X Post (P_20 := fun _ _ => True) x (nI c) _ (nI c) _ a mu sp wa wb l jx i1 0 0 hf (fun _ => ⟨by decide, by decide⟩) (fun _ => hq jx h6) (fun n => absurd z n) (fun n => absurd z n) (fun n => absurd z n) (fun n => absurd z n)
    | succ k ih =>
      intro c hc
      refine k_Qu_jumpFor_2 X Post (P_7 := fun y u => y = nI xs.length ∧ u = P) x (nI c) P a mu sp wa wb l jx i1 0 0 hf ⟨by decide, by decide⟩ (d_size _ l xs w P h7 h8 _ ⟨rfl, rfl⟩) ?_ (h7.rP h8)
      rintro y u ⟨rfl, rfl⟩
      have hcl : c < xs.length := by omega
      have z : ¬ nI xs.length ≤ nI c := fun n => absurd ((nI_leI (by omega) (by omega)).mp n) (by omega)
      have hju : isJu u xs[c] := h10 _ (List.getElem_mem hcl)
      obtain ⟨sj, t0, p0, g1, ⟨lo, hi, g2⟩, -⟩ := id hju
      obtain ⟨i2, hj⟩ := List.getElem?_of_mem g1
      obtain ⟨i3, hs⟩ := List.getElem?_of_mem g2
      refine k_Qu_jumpFor_12 X Post (P_20 := fun y v => y = some xs[c] ∧ v = u) x (nI c) _ (nI c) u a mu sp wa wb l jx i1 0 0 hf (fun n => absurd n z) (fun n => absurd n z) (fun _ => ⟨by decide, by decide⟩) (fun _ => d_get _ l xs w u h7 h8 c hcl _ ⟨rfl, rfl⟩) ?_ (fun _ => h7.rP h8)
      rintro _ y v ⟨rfl, rfl⟩
      refine k_Qu_jumpFor_25 X Post (P_32 := fun _ t => t = v) x (nI c) xs[c] v a mu sp wa wb l jx sj t0 p0 lo hi i1 i2 i3 0 0 hf hj hs ⟨by decide, by decide⟩ (d_has _ sj lo hi x v g2 _ rfl) ?_
      rintro y t rfl
      refine k_Qu_jumpFor_35 X Post (P_43 := fun y v => y = some xs[c] ∧ v = t) x (nI c) y t a mu sp wa wb l jx i1 0 0 hf (fun _ => ?_) (fun _ => ⟨by decide, by decide⟩) (fun _ => d_get _ l xs w t h7 h8 c hcl _ ⟨rfl, rfl⟩) ?_ (fun _ => h7.rP h8)
      · rw [nI_1]; exact ih (c + 1) (by omega)
      · rintro _ y v ⟨rfl, rfl⟩
        exact k_Qu_jumpFor_48 X Post x (nI c) xs[c] v a mu sp wa wb l jx sj t0 p0 i1 i2 0 0 hf hj ⟨by decide, by decide⟩ (hq _ hju)
  exact k_Qu_jumpFor_0 X Post x P a mu sp wa wb l jx i1 0 0 hf (loop xs.length 0 rfl)
def CX (T : ST) (f : FT) (g : GT) : va_W := s_c T.2.2.2.1 T.2.2.2.2 f g
theorem Bd.in {N : Nat} {v : Int32} (h : Bd N v) (hN : N + 1 < 2 ^ 31) : vp_in v (N + 1) := by
  obtain ⟨m, rfl, hm⟩ := h; exact vi_n (Nat.lt_succ_of_le hm) hN
theorem d_Te_holds (T : ST) (a : Nat) (f : FT) (g : GT) (P : va_W) (h : isTe P a) (Post : Int32 → va_W → Prop) (hq : ∀ y, (y = 0 ∨ y = 1) → Post y (CX T f g ++ P)) : uI T y_Te_holds (Cond.code y_Te_holds b_Te_holds 3 (some .boolean)) 0 0 0 [.ref a, .ref (ad T 26)] (CX T f g ++ P) Post := by
  obtain ⟨ab, re, va, h1, h2⟩ := h
  obtain ⟨i1, hf⟩ := List.getElem?_of_mem h1
  refine e_Te_holds T Post f g P a ab re va ?_
  rintro C rfl X
  have s73 : ∀ x2 y, (y = 0 ∨ y = 1) → zc_Te_holds C Post 0 0 73 [(0, .ref a), (1, .ref (ad C.1 26)), (2, .int x2)] [.int y] (CX C.1 f g ++ P) := fun x2 y hy => k_Te_holds_73 X Post x2 y f g P a ab re va i1 0 0 hf ⟨by decide, by decide⟩ (hq y hy) (nar01 hy)
  have s87 : ∀ x2 y, (y = 0 ∨ y = 1) → zc_Te_holds C Post 0 0 87 [(0, .ref a), (1, .ref (ad C.1 26)), (2, .int x2)] [.int y] (CX C.1 f g ++ P) := fun x2 y hy => k_Te_holds_87 X Post x2 y f g P a ab re va i1 0 0 hf ⟨by decide, by decide⟩ (hq y hy) (nar01 hy)
  have s101 : ∀ x2 y, (y = 0 ∨ y = 1) → zc_Te_holds C Post 0 0 101 [(0, .ref a), (1, .ref (ad C.1 26)), (2, .int x2)] [.int y] (CX C.1 f g ++ P) := fun x2 y hy => k_Te_holds_101 X Post x2 y f g P a ab re va i1 0 0 hf ⟨by decide, by decide⟩ (hq y hy) (nar01 hy)
  have s23 : ∀ y, zc_Te_holds C Post 0 0 23 [(0, .ref a), (1, .ref (ad C.1 26))] [.int y] (CX C.1 f g ++ P) := fun y => k_Te_holds_23 X Post y f g P a ab re va i1 0 0 hf (fun _ _ _ => s73 _ 0 (Or.inl rfl)) (fun _ _ _ => s73 _ 1 (Or.inr rfl)) (fun _ _ _ _ => s87 _ 0 (Or.inl rfl)) (fun _ _ _ _ => s87 _ 1 (Or.inr rfl)) (fun _ _ _ _ => s101 _ 0 (Or.inl rfl)) (fun _ _ _ _ => s101 _ 1 (Or.inr rfl)) (fun _ => ⟨by decide, by decide⟩) (fun _ => hq 0 (Or.inl rfl))
  exact k_Te_holds_0 X Post f g P a ab re va i1 0 0 hf (fun _ => h2.in (by decide)) (fun _ => s23 _) (fun _ => s23 _)
theorem d_Co_holds (T : ST) (a : Nat) (f : FT) (g : GT) (P : va_W) (h : isCo T.2.2.2.1 P a) (Post : Int32 → va_W → Prop) (hq : ∀ y, (y = 0 ∨ y = 1) → Post y (CX T f g ++ P)) : uI T y_Co_holds (Cond.code y_Co_holds b_Co_holds 3 (some .boolean)) 3 0 0 [.ref a, .ref (ad T 26)] (CX T f g ++ P) Post := by
  obtain ⟨l, pr, xs, w, h1, h7, h8, h9, h10⟩ := h
  obtain ⟨i1, hf⟩ := List.getElem?_of_mem h1
  refine e_Co_holds T Post f g P a l pr ?_
  rintro C rfl X
  have loop : ∀ k c, k + c = xs.length → zc_Co_holds C Post 0 0 2 [(0, .ref a), (1, .ref (ad C.1 26)), (2, .int (nI c))] [] (CX C.1 f g ++ P) := by
    intro k
    induction k with
    | zero =>
      intro c hc
      refine k_Co_holds_2 X Post (P_7 := fun y u => y = nI xs.length ∧ u = P) (nI c) f g P a l pr i1 0 0 hf ⟨by decide, by decide⟩ (d_size _ l xs w P h7 h8 _ ⟨rfl, rfl⟩) ?_ (h7.rP h8)
      rintro y u ⟨rfl, rfl⟩
      have z : nI xs.length ≤ nI c := nI_le (by omega) (by omega)
      exact k_Co_holds_12 X Post (P_20 := fun _ _ => True) (nI c) _ (nI c) f g _ a l pr i1 0 0 hf (fun _ => ⟨by decide, by decide⟩) (fun _ => hq 1 (Or.inr rfl)) (fun n => absurd z n) (fun n => absurd z n) (fun n => absurd z n) (fun n => absurd z n)
    | succ k ih =>
      intro c hc
      refine k_Co_holds_2 X Post (P_7 := fun y u => y = nI xs.length ∧ u = P) (nI c) f g P a l pr i1 0 0 hf ⟨by decide, by decide⟩ (d_size _ l xs w P h7 h8 _ ⟨rfl, rfl⟩) ?_ (h7.rP h8)
      rintro y u ⟨rfl, rfl⟩
      have hcl : c < xs.length := by omega
      have z : ¬ nI xs.length ≤ nI c := fun n => absurd ((nI_leI (by omega) (by omega)).mp n) (by omega)
      have hte : isTe u xs[c] := h10 _ (List.getElem_mem hcl)
      obtain ⟨ab, re, va, g1, -⟩ := id hte
      obtain ⟨i2, hj⟩ := List.getElem?_of_mem g1
      refine k_Co_holds_12 X Post (P_20 := fun y v => y = some xs[c] ∧ v = u) (nI c) _ (nI c) f g u a l pr i1 0 0 hf (fun n => absurd n z) (fun n => absurd n z) (fun _ => ⟨by decide, by decide⟩) (fun _ => d_get _ l xs w u h7 h8 c hcl _ ⟨rfl, rfl⟩) ?_ (fun _ => h7.rP h8)
      rintro _ y v ⟨rfl, rfl⟩
      refine k_Co_holds_25 X Post (P_29 := fun y t => t = CX C.1 f g ++ v) (nI c) xs[c] f g v a l pr ab re va i1 i2 0 0 hf hj ⟨by decide, by decide⟩ (d_Te_holds _ xs[c] f g v hte _ (fun _ _ => rfl)) ?_
      rintro y t rfl
      refine k_Co_holds_32 X Post (nI c) y f g v a l pr i1 0 0 hf (fun _ => ?_) (fun _ => ⟨by decide, by decide⟩) (fun _ => hq 0 (Or.inl rfl))
      rw [nI_1]; exact ih (c + 1) (by omega)
  exact k_Co_holds_0 X Post f g P a l pr i1 0 0 hf (loop xs.length 0 rfl)
theorem d_priorityOf (T : ST) (a : Nat) (f : FT) (g : GT) (P : va_W) (h : isKi T.2.2.2.1 P a) (Post : Int32 → va_W → Prop) (hq : ∀ y, Post y (CX T f g ++ P)) : uI T y_Ki_priorityOf (Cond.code y_Ki_priorityOf b_Ki_priorityOf 3 (some .int)) 4 0 0 [.ref a, .ref (ad T 26)] (CX T f g ++ P) Post := by
  obtain ⟨fq, pr, l, xs, w, h1, -, h7, h8, h9, h10⟩ := h
  obtain ⟨i1, hf⟩ := List.getElem?_of_mem h1
  refine e_Ki_priorityOf T Post f g P a fq pr l ?_
  rintro C rfl X
  have loop : ∀ k c, k + c = xs.length → zc_Ki_priorityOf C Post 0 0 2 [(0, .ref a), (1, .ref (ad C.1 26)), (2, .int (nI c))] [] (CX C.1 f g ++ P) := by
    intro k
    induction k with
    | zero =>
      intro c hc
      refine k_Ki_priorityOf_2 X Post (P_7 := fun y u => y = nI xs.length ∧ u = P) (nI c) f g P a fq pr l i1 0 0 hf ⟨by decide, by decide⟩ (d_size _ l xs w P h7 h8 _ ⟨rfl, rfl⟩) ?_ (h7.rP h8)
      rintro y u ⟨rfl, rfl⟩
      have z : nI xs.length ≤ nI c := nI_le (by omega) (by omega)
      exact k_Ki_priorityOf_12 X Post (P_20 := fun _ _ => True) (nI c) _ (nI c) f g _ a fq pr l i1 0 0 hf (fun _ => ⟨by decide, by decide⟩) (fun _ => hq _) (fun n => absurd z n) (fun n => absurd z n) (fun n => absurd z n) (fun n => absurd z n)
    | succ k ih =>
      intro c hc
      refine k_Ki_priorityOf_2 X Post (P_7 := fun y u => y = nI xs.length ∧ u = P) (nI c) f g P a fq pr l i1 0 0 hf ⟨by decide, by decide⟩ (d_size _ l xs w P h7 h8 _ ⟨rfl, rfl⟩) ?_ (h7.rP h8)
      rintro y u ⟨rfl, rfl⟩
      have hcl : c < xs.length := by omega
      have z : ¬ nI xs.length ≤ nI c := fun n => absurd ((nI_leI (by omega) (by omega)).mp n) (by omega)
      have hco : isCo C.1.2.2.2.1 u xs[c] := h10 _ (List.getElem_mem hcl)
      obtain ⟨l1, p1, ys, w1, g1, -⟩ := id hco
      obtain ⟨i2, hj⟩ := List.getElem?_of_mem g1
      refine k_Ki_priorityOf_12 X Post (P_20 := fun y v => y = some xs[c] ∧ v = u) (nI c) _ (nI c) f g u a fq pr l i1 0 0 hf (fun n => absurd n z) (fun n => absurd n z) (fun _ => ⟨by decide, by decide⟩) (fun _ => d_get _ l xs w u h7 h8 c hcl _ ⟨rfl, rfl⟩) ?_ (fun _ => h7.rP h8)
      rintro _ y v ⟨rfl, rfl⟩
      refine k_Ki_priorityOf_25 X Post (P_29 := fun y t => t = CX C.1 f g ++ v) (nI c) xs[c] f g v a fq pr l l1 p1 i1 i2 0 0 hf hj ⟨by decide, by decide⟩ (d_Co_holds _ xs[c] f g v hco _ (fun _ _ => rfl)) ?_
      rintro y t rfl
      refine k_Ki_priorityOf_32 X Post (P_40 := fun y t => y = some xs[c] ∧ t = v) (nI c) y f g v a fq pr l i1 0 0 hf (fun _ => ?_) (fun _ => ⟨by decide, by decide⟩) (fun _ => d_get _ l xs w v h7 h8 c hcl _ ⟨rfl, rfl⟩) ?_ (fun _ => h7.rP h8)
      · rw [nI_1]; exact ih (c + 1) (by omega)
      · rintro _ y t ⟨rfl, rfl⟩
        exact k_Ki_priorityOf_45 X Post (nI c) xs[c] f g t a fq pr l l1 p1 i1 i2 0 0 hf hj ⟨by decide, by decide⟩ (hq _)
  exact k_Ki_priorityOf_0 X Post f g P a fq pr l i1 0 0 hf (loop xs.length 0 rfl)
-- allows and jumpFor, exactly
def alV (d : QD) (x : Int32) : Int32 := if x = -1 then (if d.1 = 0 then 1 else 0) else inV x d.2.1.1 d.2.1.2
theorem alV_01 (d : QD) (x : Int32) : alV d x = 0 ∨ alV d x = 1 := by
  unfold alV
  split
  · split
    · exact Or.inr rfl
    · exact Or.inl rfl
  · exact inV_01 _ _ _
theorem d_allowsX (T : ST) (a : Nat) (x : Int32) (P : va_W) (d : QD) (h : eQu T.2.2.2.1 P a d) (Post : Int32 → va_W → Prop) (hq : Post (alV d x) P) : uI T y_Qu_allows (Cond.code y_Qu_allows b_Qu_allows 2 (some .boolean)) 1 0 0 [.ref a, .int x] P Post := by
  obtain ⟨sp, wa, wb, l, jx, xs, w, h1, h2, h3, -⟩ := h
  obtain ⟨i1, hf⟩ := List.getElem?_of_mem h1
  obtain ⟨i3, hs⟩ := List.getElem?_of_mem h3
  refine e_Qu_allows T Post x P a d.1 sp wa wb l jx d.2.1.1 d.2.1.2 ?_
  rintro C rfl X
  have s28 : ∀ y, alV d x = y → zc_Qu_allows C Post 0 0 28 [(0, .ref a), (1, .int x)] [.int y] P := fun y hy => k_Qu_allows_28 X Post x y P a d.1 sp wa wb l jx d.2.1.1 d.2.1.2 i1 i3 0 0 hf hs ⟨by decide, by decide⟩ (hy ▸ hq) (nar01 (hy ▸ alV_01 d x))
  refine k_Qu_allows_0 X Post (P_25 := fun y u => y = inV x d.2.1.1 d.2.1.2 ∧ u = P) x P a d.1 sp wa wb l jx d.2.1.1 d.2.1.2 i1 i3 0 0 hf hs (fun _ => ⟨by decide, by decide⟩) (fun _ => d_has _ sp d.2.1.1 d.2.1.2 x P h3 _ ⟨rfl, rfl⟩) ?_ (fun z1 z2 => s28 0 ((if_pos z1).trans (if_neg z2))) (fun z1 z2 => s28 1 ((if_pos z1).trans (if_pos z2)))
  rintro z y u ⟨rfl, rfl⟩
  exact s28 _ (if_neg z)
def jmpL (x : Int32) : List JD → JD → JD
  | [], l => l
  | d :: ds, l => if inV x d.1 d.2.1 = 0 then jmpL x ds l else d
def jmpV (d : QD) (x : Int32) : JD := jmpL x d.2.2.2.2.1 d.2.2.2.2.2
theorem d_jumpForX (T : ST) (a : Nat) (x : Int32) (P : va_W) (d : QD) (h : eQu T.2.2.2.1 P a d) (Post : Option Nat → va_W → Prop) (hq : ∀ y, eJu P y (jmpV d x) → Post (some y) P) : uR T y_Qu_jumpFor (Cond.code y_Qu_jumpFor b_Qu_jumpFor 3 (some (.object "QuestionText$Jump"))) 3 0 0 [.ref a, .int x] P Post := by
  obtain ⟨sp, wa, wb, l, jx, xs, w, h1, -, -, -, -, h6, h7, h8, h9, h10⟩ := h
  obtain ⟨i1, hf⟩ := List.getElem?_of_mem h1
  refine e_Qu_jumpFor T Post x P a d.1 sp wa wb l jx ?_
  rintro C rfl X
  have hlen := h10.len
  have loop : ∀ k c, k + c = xs.length → jmpL x (d.2.2.2.2.1.drop c) d.2.2.2.2.2 = jmpV d x → zc_Qu_jumpFor C Post 0 0 2 [(0, .ref a), (1, .int x), (2, .int (nI c))] [] P := by
    intro k
    induction k with
    | zero =>
      intro c hc hj
      refine k_Qu_jumpFor_2 X Post (P_7 := fun y u => y = nI xs.length ∧ u = P) x (nI c) P a d.1 sp wa wb l jx i1 0 0 hf ⟨by decide, by decide⟩ (d_size _ l xs w P h7 h8 _ ⟨rfl, rfl⟩) ?_ (h7.rP h8)
      rintro y u ⟨rfl, rfl⟩
      have z : nI xs.length ≤ nI c := nI_le (by omega) (by omega)
      rw [List.drop_eq_nil_of_le (by omega)] at hj
      exact k_Qu_jumpFor_12 X Post (P_20 := fun _ _ => True) x (nI c) _ (nI c) _ a d.1 sp wa wb l jx i1 0 0 hf (fun _ => ⟨by decide, by decide⟩) (fun _ => hq jx (by rw [← hj]; exact h6)) (fun n => absurd z n) (fun n => absurd z n) (fun n => absurd z n) (fun n => absurd z n)
    | succ k ih =>
      intro c hc hj
      refine k_Qu_jumpFor_2 X Post (P_7 := fun y u => y = nI xs.length ∧ u = P) x (nI c) P a d.1 sp wa wb l jx i1 0 0 hf ⟨by decide, by decide⟩ (d_size _ l xs w P h7 h8 _ ⟨rfl, rfl⟩) ?_ (h7.rP h8)
      rintro y u ⟨rfl, rfl⟩
      have hcl : c < xs.length := by omega
      have hcl2 : c < d.2.2.2.2.1.length := by omega
      have z : ¬ nI xs.length ≤ nI c := fun n => absurd ((nI_leI (by omega) (by omega)).mp n) (by omega)
      have hju : eJu u xs[c] d.2.2.2.2.1[c] := h10.at c hcl hcl2
      rw [List.drop_eq_getElem_cons hcl2] at hj
      obtain ⟨sj, g1, g2, -⟩ := id hju
      obtain ⟨i2, hj2⟩ := List.getElem?_of_mem g1
      obtain ⟨i3, hs⟩ := List.getElem?_of_mem g2
      refine k_Qu_jumpFor_12 X Post (P_20 := fun y v => y = some xs[c] ∧ v = u) x (nI c) _ (nI c) u a d.1 sp wa wb l jx i1 0 0 hf (fun n => absurd n z) (fun n => absurd n z) (fun _ => ⟨by decide, by decide⟩) (fun _ => d_get _ l xs w u h7 h8 c hcl _ ⟨rfl, rfl⟩) ?_ (fun _ => h7.rP h8)
      rintro _ y v ⟨rfl, rfl⟩
      refine k_Qu_jumpFor_25 X Post (P_32 := fun y t => y = inV x (d.2.2.2.2.1[c]).1 (d.2.2.2.2.1[c]).2.1 ∧ t = v) x (nI c) xs[c] v a d.1 sp wa wb l jx sj _ _ _ _ i1 i2 i3 0 0 hf hj2 hs ⟨by decide, by decide⟩ (d_has _ sj _ _ x v g2 _ ⟨rfl, rfl⟩) ?_
      rintro y t ⟨ey, rfl⟩
      refine k_Qu_jumpFor_35 X Post (P_43 := fun y v => y = some xs[c] ∧ v = t) x (nI c) y t a d.1 sp wa wb l jx i1 0 0 hf (fun z9 => ?_) (fun _ => ⟨by decide, by decide⟩) (fun _ => d_get _ l xs w t h7 h8 c hcl _ ⟨rfl, rfl⟩) ?_ (fun _ => h7.rP h8)
      · rw [nI_1]
        refine ih (c + 1) (by omega) ?_
        rw [← hj]
        exact (if_pos (ey.symm.trans z9)).symm
      · rintro z9 y v ⟨rfl, rfl⟩
        refine k_Qu_jumpFor_48 X Post x (nI c) xs[c] v a d.1 sp wa wb l jx sj _ _ i1 i2 0 0 hf hj2 ⟨by decide, by decide⟩ (hq _ ?_)
        rw [← hj, show jmpL x (d.2.2.2.2.1[c] :: d.2.2.2.2.1.drop (c + 1)) d.2.2.2.2.2 = d.2.2.2.2.1[c] from if_neg (fun q => z9 (ey.trans q))]
        exact hju
  exact k_Qu_jumpFor_0 X Post x P a d.1 sp wa wb l jx i1 0 0 hf (loop xs.length 0 rfl rfl)
-- holds of a term and of a condition, priorityOf, exactly; p the points, la the latest answers
def teY (p : Int32) (la : Nat → Int32) (e : TD) : Int32 := if e.1 = 0 then p else la e.1.toNatClampNeg
def teV (p : Int32) (la : Nat → Int32) (e : TD) : Int32 := if teY p la e = -1 then 0 else if e.2.1 = 60 then (if e.2.2 ≤ teY p la e then 0 else 1) else if e.2.1 = 62 then (if teY p la e ≤ e.2.2 then 0 else 1) else (if teY p la e = e.2.2 then 1 else 0)
def coV (p : Int32) (la : Nat → Int32) : List TD → Int32
  | [] => 1
  | e :: es => if teV p la e = 0 then 0 else coV p la es
def pvL (p : Int32) (la : Nat → Int32) (pr : Int32) : List CD → Int32
  | [] => pr
  | c :: cs => if coV p la c.1 = 0 then pvL p la pr cs else c.2
theorem d_Te_holdsX (T : ST) (a : Nat) (f : FT) (g : GT) (P : va_W) (d : TD) (h : eTe P a d) (Post : Int32 → va_W → Prop) (hq : Post (teV (f 2) (g 1) d) (CX T f g ++ P)) : uI T y_Te_holds (Cond.code y_Te_holds b_Te_holds 3 (some .boolean)) 0 0 0 [.ref a, .ref (ad T 26)] (CX T f g ++ P) Post := by
  obtain ⟨h1, h2⟩ := h
  obtain ⟨i1, hf⟩ := List.getElem?_of_mem h1
  refine e_Te_holds T Post f g P a d.1 d.2.1 d.2.2 ?_
  rintro C rfl X
  have s73 : ∀ x2 y, (y = 0 ∨ y = 1) → teV (f 2) (g 1) d = y → zc_Te_holds C Post 0 0 73 [(0, .ref a), (1, .ref (ad C.1 26)), (2, .int x2)] [.int y] (CX C.1 f g ++ P) := fun x2 y hy e => k_Te_holds_73 X Post x2 y f g P a d.1 d.2.1 d.2.2 i1 0 0 hf ⟨by decide, by decide⟩ (e ▸ hq) (nar01 hy)
  have s87 : ∀ x2 y, (y = 0 ∨ y = 1) → teV (f 2) (g 1) d = y → zc_Te_holds C Post 0 0 87 [(0, .ref a), (1, .ref (ad C.1 26)), (2, .int x2)] [.int y] (CX C.1 f g ++ P) := fun x2 y hy e => k_Te_holds_87 X Post x2 y f g P a d.1 d.2.1 d.2.2 i1 0 0 hf ⟨by decide, by decide⟩ (e ▸ hq) (nar01 hy)
  have s101 : ∀ x2 y, (y = 0 ∨ y = 1) → teV (f 2) (g 1) d = y → zc_Te_holds C Post 0 0 101 [(0, .ref a), (1, .ref (ad C.1 26)), (2, .int x2)] [.int y] (CX C.1 f g ++ P) := fun x2 y hy e => k_Te_holds_101 X Post x2 y f g P a d.1 d.2.1 d.2.2 i1 0 0 hf ⟨by decide, by decide⟩ (e ▸ hq) (nar01 hy)
  have s23 : ∀ y, teY (f 2) (g 1) d = y → zc_Te_holds C Post 0 0 23 [(0, .ref a), (1, .ref (ad C.1 26))] [.int y] (CX C.1 f g ++ P) := by
    intro y e
    have u : ∀ v, (if y = -1 then 0 else if d.2.1 = 60 then (if d.2.2 ≤ y then 0 else 1) else if d.2.1 = 62 then (if y ≤ d.2.2 then 0 else 1) else (if y = d.2.2 then 1 else 0)) = v → teV (f 2) (g 1) d = v := fun v q => by unfold teV; rw [e]; exact q
    refine k_Te_holds_23 X Post y f g P a d.1 d.2.1 d.2.2 i1 0 0 hf (fun z1 z2 z3 => s73 _ 0 (Or.inl rfl) (u _ ?_)) (fun z1 z2 z3 => s73 _ 1 (Or.inr rfl) (u _ ?_)) (fun z1 z2 z3 z4 => s87 _ 0 (Or.inl rfl) (u _ ?_)) (fun z1 z2 z3 z4 => s87 _ 1 (Or.inr rfl) (u _ ?_)) (fun z1 z2 z3 z4 => s101 _ 0 (Or.inl rfl) (u _ ?_)) (fun z1 z2 z3 z4 => s101 _ 1 (Or.inr rfl) (u _ ?_)) (fun _ => ⟨by decide, by decide⟩) (fun z => by rw [← u 0 (if_pos z)]; exact hq)
    · rw [if_neg z1, if_pos z2, if_pos z3]
    · rw [if_neg z1, if_pos z2, if_neg z3]
    · rw [if_neg z1, if_neg z2, if_pos z3, if_pos z4]
    · rw [if_neg z1, if_neg z2, if_pos z3, if_neg z4]
    · rw [if_neg z1, if_neg z2, if_neg z3, if_neg z4]
    · rw [if_neg z1, if_neg z2, if_neg z3, if_pos z4]
  exact k_Te_holds_0 X Post f g P a d.1 d.2.1 d.2.2 i1 0 0 hf (fun _ => h2.in (by decide)) (fun z => s23 _ (if_neg z)) (fun z => s23 _ (if_pos z))
theorem d_Co_holdsX (T : ST) (a : Nat) (f : FT) (g : GT) (P : va_W) (d : CD) (h : eCo T.2.2.2.1 P a d) (Post : Int32 → va_W → Prop) (hq : Post (coV (f 2) (g 1) d.1) (CX T f g ++ P)) : uI T y_Co_holds (Cond.code y_Co_holds b_Co_holds 3 (some .boolean)) 3 0 0 [.ref a, .ref (ad T 26)] (CX T f g ++ P) Post := by
  obtain ⟨l, xs, w, h1, h7, h8, h9, h10⟩ := h
  obtain ⟨i1, hf⟩ := List.getElem?_of_mem h1
  have hlen := h10.len
  obtain ⟨V, hV⟩ : ∃ V, V = coV (f 2) (g 1) d.1 := ⟨_, rfl⟩
  rw [← hV] at hq
  refine e_Co_holds T Post f g P a l d.2 ?_
  rintro C rfl X
  have loop : ∀ k c, k + c = xs.length → coV (f 2) (g 1) (d.1.drop c) = V → zc_Co_holds C Post 0 0 2 [(0, .ref a), (1, .ref (ad C.1 26)), (2, .int (nI c))] [] (CX C.1 f g ++ P) := by
    intro k
    induction k with
    | zero =>
      intro c hc hv
      refine k_Co_holds_2 X Post (P_7 := fun y u => y = nI xs.length ∧ u = P) (nI c) f g P a l d.2 i1 0 0 hf ⟨by decide, by decide⟩ (d_size _ l xs w P h7 h8 _ ⟨rfl, rfl⟩) ?_ (h7.rP h8)
      rintro y u ⟨rfl, rfl⟩
      have z : nI xs.length ≤ nI c := nI_le (by omega) (by omega)
      rw [List.drop_eq_nil_of_le (by omega)] at hv
      exact k_Co_holds_12 X Post (P_20 := fun _ _ => True) (nI c) _ (nI c) f g _ a l d.2 i1 0 0 hf (fun _ => ⟨by decide, by decide⟩) (fun _ => by rw [← hv] at hq; exact hq) (fun n => absurd z n) (fun n => absurd z n) (fun n => absurd z n) (fun n => absurd z n)
    | succ k ih =>
      intro c hc hv
      refine k_Co_holds_2 X Post (P_7 := fun y u => y = nI xs.length ∧ u = P) (nI c) f g P a l d.2 i1 0 0 hf ⟨by decide, by decide⟩ (d_size _ l xs w P h7 h8 _ ⟨rfl, rfl⟩) ?_ (h7.rP h8)
      rintro y u ⟨rfl, rfl⟩
      have hcl : c < xs.length := by omega
      have hcl2 : c < d.1.length := by omega
      have z : ¬ nI xs.length ≤ nI c := fun n => absurd ((nI_leI (by omega) (by omega)).mp n) (by omega)
      have hte : eTe u xs[c] d.1[c] := h10.at c hcl hcl2
      rw [List.drop_eq_getElem_cons hcl2] at hv
      obtain ⟨g1, -⟩ := id hte
      obtain ⟨i2, hj⟩ := List.getElem?_of_mem g1
      refine k_Co_holds_12 X Post (P_20 := fun y v => y = some xs[c] ∧ v = u) (nI c) _ (nI c) f g u a l d.2 i1 0 0 hf (fun n => absurd n z) (fun n => absurd n z) (fun _ => ⟨by decide, by decide⟩) (fun _ => d_get _ l xs w u h7 h8 c hcl _ ⟨rfl, rfl⟩) ?_ (fun _ => h7.rP h8)
      rintro _ y v ⟨rfl, rfl⟩
      refine k_Co_holds_25 X Post (P_29 := fun y t => y = teV (f 2) (g 1) d.1[c] ∧ t = CX C.1 f g ++ v) (nI c) xs[c] f g v a l d.2 _ _ _ i1 i2 0 0 hf hj ⟨by decide, by decide⟩ (d_Te_holdsX _ xs[c] f g v _ hte _ ⟨rfl, rfl⟩) ?_
      rintro y t ⟨ey, rfl⟩
      refine k_Co_holds_32 X Post (nI c) y f g v a l d.2 i1 0 0 hf (fun z9 => ?_) (fun _ => ⟨by decide, by decide⟩) (fun z9 => ?_)
      · rw [nI_1]
        refine ih (c + 1) (by omega) ?_
        rw [← hv]
        exact (if_neg (fun q => z9 (ey.trans q))).symm
      · rw [← hv, show coV (f 2) (g 1) (d.1[c] :: d.1.drop (c + 1)) = 0 from if_pos (ey.symm.trans z9)] at hq
        exact hq
  exact k_Co_holds_0 X Post f g P a l d.2 i1 0 0 hf (loop xs.length 0 rfl hV.symm)
theorem d_priorityOfX (T : ST) (a : Nat) (f : FT) (g : GT) (P : va_W) (d : KD) (h : eKi T.2.2.2.1 P a d) (Post : Int32 → va_W → Prop) (hq : Post (pvL (f 2) (g 1) d.2.1 d.2.2) (CX T f g ++ P)) : uI T y_Ki_priorityOf (Cond.code y_Ki_priorityOf b_Ki_priorityOf 3 (some .int)) 4 0 0 [.ref a, .ref (ad T 26)] (CX T f g ++ P) Post := by
  obtain ⟨l, xs, w, h1, -, h7, h8, h9, h10⟩ := h
  obtain ⟨i1, hf⟩ := List.getElem?_of_mem h1
  have hlen := h10.len
  obtain ⟨V, hV⟩ : ∃ V, V = pvL (f 2) (g 1) d.2.1 d.2.2 := ⟨_, rfl⟩
  rw [← hV] at hq
  refine e_Ki_priorityOf T Post f g P a d.1 d.2.1 l ?_
  rintro C rfl X
  have loop : ∀ k c, k + c = xs.length → pvL (f 2) (g 1) d.2.1 (d.2.2.drop c) = V → zc_Ki_priorityOf C Post 0 0 2 [(0, .ref a), (1, .ref (ad C.1 26)), (2, .int (nI c))] [] (CX C.1 f g ++ P) := by
    intro k
    induction k with
    | zero =>
      intro c hc hv
      refine k_Ki_priorityOf_2 X Post (P_7 := fun y u => y = nI xs.length ∧ u = P) (nI c) f g P a d.1 d.2.1 l i1 0 0 hf ⟨by decide, by decide⟩ (d_size _ l xs w P h7 h8 _ ⟨rfl, rfl⟩) ?_ (h7.rP h8)
      rintro y u ⟨rfl, rfl⟩
      have z : nI xs.length ≤ nI c := nI_le (by omega) (by omega)
      rw [List.drop_eq_nil_of_le (by omega)] at hv
      exact k_Ki_priorityOf_12 X Post (P_20 := fun _ _ => True) (nI c) _ (nI c) f g _ a d.1 d.2.1 l i1 0 0 hf (fun _ => ⟨by decide, by decide⟩) (fun _ => by rw [← hv] at hq; exact hq) (fun n => absurd z n) (fun n => absurd z n) (fun n => absurd z n) (fun n => absurd z n)
    | succ k ih =>
      intro c hc hv
      refine k_Ki_priorityOf_2 X Post (P_7 := fun y u => y = nI xs.length ∧ u = P) (nI c) f g P a d.1 d.2.1 l i1 0 0 hf ⟨by decide, by decide⟩ (d_size _ l xs w P h7 h8 _ ⟨rfl, rfl⟩) ?_ (h7.rP h8)
      rintro y u ⟨rfl, rfl⟩
      have hcl : c < xs.length := by omega
      have hcl2 : c < d.2.2.length := by omega
      have z : ¬ nI xs.length ≤ nI c := fun n => absurd ((nI_leI (by omega) (by omega)).mp n) (by omega)
      have hco : eCo C.1.2.2.2.1 u xs[c] d.2.2[c] := h10.at c hcl hcl2
      rw [List.drop_eq_getElem_cons hcl2] at hv
      obtain ⟨l1, ys, w1, g1, -⟩ := id hco
      obtain ⟨i2, hj⟩ := List.getElem?_of_mem g1
      refine k_Ki_priorityOf_12 X Post (P_20 := fun y v => y = some xs[c] ∧ v = u) (nI c) _ (nI c) f g u a d.1 d.2.1 l i1 0 0 hf (fun n => absurd n z) (fun n => absurd n z) (fun _ => ⟨by decide, by decide⟩) (fun _ => d_get _ l xs w u h7 h8 c hcl _ ⟨rfl, rfl⟩) ?_ (fun _ => h7.rP h8)
      rintro _ y v ⟨rfl, rfl⟩
      refine k_Ki_priorityOf_25 X Post (P_29 := fun y t => y = coV (f 2) (g 1) (d.2.2[c]).1 ∧ t = CX C.1 f g ++ v) (nI c) xs[c] f g v a d.1 d.2.1 l l1 _ i1 i2 0 0 hf hj ⟨by decide, by decide⟩ (d_Co_holdsX _ xs[c] f g v _ hco _ ⟨rfl, rfl⟩) ?_
      rintro y t ⟨ey, rfl⟩
      refine k_Ki_priorityOf_32 X Post (P_40 := fun y t => y = some xs[c] ∧ t = v) (nI c) y f g v a d.1 d.2.1 l i1 0 0 hf (fun z9 => ?_) (fun _ => ⟨by decide, by decide⟩) (fun _ => d_get _ l xs w v h7 h8 c hcl _ ⟨rfl, rfl⟩) ?_ (fun _ => h7.rP h8)
      · rw [nI_1]
        refine ih (c + 1) (by omega) ?_
        rw [← hv]
        exact (if_pos (ey.symm.trans z9)).symm
      · rintro z9 y t ⟨rfl, rfl⟩
        refine k_Ki_priorityOf_45 X Post (nI c) xs[c] f g t a d.1 d.2.1 l l1 _ i1 i2 0 0 hf hj ⟨by decide, by decide⟩ ?_
        rw [← hv, show pvL (f 2) (g 1) d.2.1 (d.2.2[c] :: d.2.2.drop (c + 1)) = (d.2.2[c]).2 from if_neg (fun q => z9 (ey.trans q))] at hq
        exact hq
  exact k_Ki_priorityOf_0 X Post f g P a d.1 d.2.1 l i1 0 0 hf (loop xs.length 0 rfl hV.symm)
