-- strict and not: a number of four digits that a fifth one follows
theorem sN_nb (g0 : Nat → Int32) (t : Nat) : ∀ k n, t - n = k → ¬ tp g0 t (sN g0 t n) = 32 := by
  intro k
  induction k with
  | zero =>
    intro n h
    rw [sN_big g0 (by omega)]
    intro q
    have := sN_lt q
    omega
  | succ k ih =>
    intro n h
    by_cases q : tp g0 t n = 32
    · rw [sN_step q]; exact ih (n + 1) (by omega)
    · rw [sN_stop q]; exact q
theorem sN_idem (g0 : Nat → Int32) (t n : Nat) : sN g0 t (sN g0 t n) = sN g0 t n := sN_stop (sN_nb g0 t _ n rfl)
theorem nmL_big (g0 : Nat → Int32) (t : Nat) : ∀ j v n k, j + k = 4 → ((k = 0 ∧ v = 0) ∨ (k = 1 ∧ v = 0) ∨ (1 ≤ k ∧ 10 ^ (k - 1) ≤ v)) → (nmL g0 t j v n k).2.2 = 4 → 1000 ≤ (nmL g0 t j v n k).1 := by
  intro j
  induction j with
  | zero =>
    intro v n k hk h e
    have e : k = 4 := e
    subst e
    rcases h with h | h | h
    · omega
    · omega
    · exact h.2
  | succ j ih =>
    intro v n k hk h e
    unfold nmL at e ⊢
    split
    · rename_i q
      rw [if_pos q] at e
      refine ih _ _ _ (by omega) ?_ e
      rcases h with h | h | h
      · obtain ⟨h1, h2⟩ := h
        subst h1; subst h2
        by_cases z : dv (tp g0 t n) = 0
        · exact Or.inr (Or.inl ⟨rfl, by omega⟩)
        · exact Or.inr (Or.inr ⟨by omega, by show 1 ≤ _; omega⟩)
      · rcases q.2 with q | q <;> omega
      · refine Or.inr (Or.inr ⟨by omega, ?_⟩)
        obtain ⟨i, rfl⟩ : ∃ i, k = i + 1 := ⟨k - 1, by omega⟩
        show 10 ^ (i + 1) ≤ _
        have h2 : 10 ^ i ≤ v := h.2
        rw [Nat.pow_succ]
        omega
    · rename_i q
      rw [if_neg q] at e
      have e : k = 4 := e
      omega
theorem nR_big4 (g0 : Nat → Int32) (t n : Nat) (h : (nR g0 t n).2.2 = 4) : 1000 ≤ (nR g0 t n).1 := nmL_big g0 t 4 0 _ 0 rfl (Or.inl ⟨rfl, rfl⟩) h
-- small numbers: strict and not are one
theorem kNum_small {g0 : Nat → Int32} {L n B : Nat} {a : Int32} (hB : B ≤ 999) : kNum true g0 L a (nI B) n = kNum false g0 L a (nI B) n := by
  by_cases h : ¬ dg (tp g0 L (sN g0 L n)) = 0 ∧ ¬ inV (nI (nR g0 L n).1) a (nI B) = 0
  · have e2 : kNum false g0 L a (nI B) n = some ((nR g0 L n).1, (nR g0 L n).2.1) := if_pos ⟨h, fun q => nomatch q.1⟩
    rw [e2]
    refine if_pos ⟨h, fun q => ?_⟩
    have h1 := nR_big4 g0 L n q.2.1
    have h2 := (inV_nz h.2).2
    have hv : (nR g0 L n).1 < 10000 := nmL_v g0 L 4 0 (sN g0 L n) 0 rfl (by decide)
    rw [nI_leI (by omega) (by omega)] at h2
    omega
  · have e2 : kNum false g0 L a (nI B) n = none := if_neg (fun q => h q.1)
    rw [e2]
    exact if_neg (fun q => h q.1)
-- what a strict reading says against the other: the same, or nothing against a place where a digit stands
def doom (g0 : Nat → Int32) (L m : Nat) : Prop := ¬ dg (tp g0 L m) = 0
def SN {α : Type} (g0 : Nat → Int32) (L : Nat) (o1 o2 : Option (α × Nat)) : Prop := o1 = o2 ∨ (o1 = none ∧ ∃ v m, o2 = some (v, m) ∧ doom g0 L m)
theorem doom_sN {g0 : Nat → Int32} {L m : Nat} (h : doom g0 L m) : sN g0 L m = m := sN_stop (fun q => h (by rw [q]; decide +kernel))
theorem doom_take {g0 : Nat → Int32} {L m : Nat} {c : Int32} (h : doom g0 L m) (hc : dg c = 0) : ¬ tp g0 L (sN g0 L m) = c := by
  rw [doom_sN h]
  intro q
  exact h (by rw [q]; exact hc)
theorem kTake_doom {g0 : Nat → Int32} {L m : Nat} {c : Int32} (h : doom g0 L m) (hc : dg c = 0) : kTake g0 L c m = none := if_neg (doom_take h hc)
theorem kNum_SN (g0 : Nat → Int32) (L n : Nat) (a b : Int32) : SN g0 L (kNum true g0 L a b n) (kNum false g0 L a b n) := by
  by_cases h : ¬ dg (tp g0 L (sN g0 L n)) = 0 ∧ ¬ inV (nI (nR g0 L n).1) a b = 0
  · by_cases q : (nR g0 L n).2.2 = 4 ∧ ¬ dg (tp g0 L (nR g0 L n).2.1) = 0
    · have e2 : kNum false g0 L a b n = some ((nR g0 L n).1, (nR g0 L n).2.1) := if_pos ⟨h, fun q => nomatch q.1⟩
      exact Or.inr ⟨if_neg (fun z => z.2 ⟨rfl, q⟩), _, _, e2, q.2⟩
    · have e2 : kNum false g0 L a b n = some ((nR g0 L n).1, (nR g0 L n).2.1) := if_pos ⟨h, fun q => nomatch q.1⟩
      exact Or.inl ((if_pos ⟨h, fun z => q z.2⟩ : kNum true g0 L a b n = _).trans e2.symm)
  · have e2 : kNum false g0 L a b n = none := if_neg (fun q => h q.1)
    exact Or.inl ((if_neg (fun q => h q.1) : kNum true g0 L a b n = _).trans e2.symm)
-- behind a reading that is strict or not, with a step that stops at a digit
theorem SN_bind {α β : Type} {g0 : Nat → Int32} {L : Nat} {o1 o2 : Option (α × Nat)} {f1 f2 : α × Nat → Option β} (h : SN g0 L o1 o2) (hf : ∀ v m, o2 = some (v, m) → f1 (v, m) = f2 (v, m)) (hd : ∀ v m, doom g0 L m → f2 (v, m) = none) : o1.bind f1 = o2.bind f2 := by
  rcases h with h | ⟨h1, v, m, h2, h3⟩
  · rw [h]
    cases e : o2 with
    | none => rfl
    | some q => exact hf q.1 q.2 e
  · rw [h1, h2]
    exact (hd v m h3).symm
theorem SN_bind' {α β : Type} {g0 : Nat → Int32} {L : Nat} {o1 o2 : Option (α × Nat)} {f1 f2 : α × Nat → Option (β × Nat)} (h : SN g0 L o1 o2) (hf : ∀ v m, o2 = some (v, m) → SN g0 L (f1 (v, m)) (f2 (v, m))) (hd : ∀ v m, doom g0 L m → f2 (v, m) = none ∨ ∃ w, f2 (v, m) = some (w, m)) : SN g0 L (o1.bind f1) (o2.bind f2) := by
  rcases h with h | ⟨h1, v, m, h2, h3⟩
  · rw [h]
    cases e : o2 with
    | none => exact Or.inl rfl
    | some q => exact hf q.1 q.2 e
  · rw [h1, h2]
    rcases hd v m h3 with q | ⟨w, q⟩
    · exact Or.inl q.symm
    · exact Or.inr ⟨rfl, w, m, q, h3⟩
theorem bind_eq {α β : Type} {o : Option α} {f1 f2 : α → Option β} (h : ∀ v, o = some v → f1 v = f2 v) : o.bind f1 = o.bind f2 := by
  cases e : o with
  | none => rfl
  | some v => exact h v e
theorem kSpan_SN (g0 : Nat → Int32) (L n : Nat) : SN g0 L (kSpan true g0 L n) (kSpan false g0 L n) := by
  unfold kSpan
  refine SN_bind' (kNum_SN g0 L n 0 9999) (fun v m _ => ?_) (fun v m h => Or.inl ?_)
  · show SN g0 L ((kTake g0 L 45 m).bind _) ((kTake g0 L 45 m).bind _)
    cases kTake g0 L 45 m with
    | none => exact Or.inl rfl
    | some m2 => exact SN_bind' (kNum_SN g0 L m2 (nI v) 9999) (fun v m _ => Or.inl rfl) (fun v m h => Or.inr ⟨_, rfl⟩)
  · show (kTake g0 L 45 m).bind _ = none
    rw [kTake_doom h (by decide +kernel)]; rfl
theorem kPts_st (g0 : Nat → Int32) (L n : Nat) : kPts true g0 L n = kPts false g0 L n := by
  unfold kPts
  rw [show (999 : Int32) = nI 999 from rfl, kNum_small (by decide)]
theorem kJump_st (g0 : Nat → Int32) (L n : Nat) : kJump true g0 L n = kJump false g0 L n := by
  unfold kJump
  refine bind_eq fun m _ => ?_
  rw [show (60 : Int32) = nI 60 from rfl, kNum_small (by decide)]
  exact bind_eq fun v _ => by rw [kPts_st]
theorem kRel_SN (g0 : Nat → Int32) (L n : Nat) (ab : Int32) : SN g0 L (kRel true g0 L ab n) (kRel false g0 L ab n) := by
  unfold kRel
  split
  · exact SN_bind' (kNum_SN g0 L _ 0 9999) (fun v m _ => Or.inl rfl) (fun v m h => Or.inr ⟨_, rfl⟩)
  · exact Or.inl rfl
theorem kTerm_SN (g0 : Nat → Int32) (L n : Nat) : SN g0 L (kTerm true g0 L n) (kTerm false g0 L n) := by
  unfold kTerm
  split
  · exact kRel_SN g0 L _ 0
  · rw [show (60 : Int32) = nI 60 from rfl]
    cases kTake g0 L 113 (sN g0 L n) with
    | none => exact Or.inl rfl
    | some m =>
      show SN g0 L ((kNum true g0 L 1 (nI 60) m).bind _) ((kNum false g0 L 1 (nI 60) m).bind _)
      rw [kNum_small (by decide)]
      cases kNum false g0 L 1 (nI 60) m with
      | none => exact Or.inl rfl
      | some v => exact kRel_SN g0 L v.2 (nI v.1)
theorem kTerms_doom {st : Bool} {g0 : Nat → Int32} {L m : Nat} (h : doom g0 L m) : ∀ (j : Nat) (xs : List TD), kTerms st g0 L j m xs = some (xs, m) := by
  intro j xs
  cases j with
  | zero => rfl
  | succ j =>
    unfold kTerms
    rw [if_neg (doom_take h (by decide +kernel)), doom_sN h]
theorem kTerms_SN (g0 : Nat → Int32) (L : Nat) : ∀ (j n : Nat) (xs : List TD), SN g0 L (kTerms true g0 L j n xs) (kTerms false g0 L j n xs) := by
  intro j
  induction j with
  | zero => intro n xs; exact Or.inl rfl
  | succ j ih =>
    intro n xs
    unfold kTerms
    split
    · exact SN_bind' (kTerm_SN g0 L _) (fun v m _ => ih m _) (fun v m h => Or.inr ⟨_, kTerms_doom h j _⟩)
    · exact Or.inl rfl
theorem kCend_st (g0 : Nat → Int32) (L n : Nat) (xs : List TD) : kCend true g0 L xs n = kCend false g0 L xs n := by
  unfold kCend
  rw [show (9 : Int32) = nI 9 from rfl]
  refine bind_eq fun m _ => ?_
  rw [kNum_small (by decide)]
theorem kCend_doom {st : Bool} {g0 : Nat → Int32} {L n : Nat} {xs : List TD} (h : doom g0 L n) : kCend st g0 L xs n = none := by
  unfold kCend
  rw [kTake_doom h (by decide +kernel)]; rfl
theorem kCond_st (g0 : Nat → Int32) (L n : Nat) : kCond true g0 L n = kCond false g0 L n := by
  unfold kCond
  refine SN_bind (kTerm_SN g0 L n) (fun v m _ => ?_) (fun v m h => ?_)
  · exact SN_bind (kTerms_SN g0 L 3 m [v]) (fun v m _ => kCend_st g0 L m v) (fun v m h => kCend_doom h)
  · show (kTerms false g0 L 3 m [v]).bind _ = none
    rw [kTerms_doom h]
    exact kCend_doom h
theorem kConds_st (g0 : Nat → Int32) (L : Nat) : ∀ (j n : Nat) (xs : List CD), kConds true g0 L j n xs = kConds false g0 L j n xs := by
  intro j
  induction j with
  | zero => intro n xs; rfl
  | succ j ih =>
    intro n xs
    unfold kConds
    split
    · rw [kCond_st]; exact bind_eq fun v _ => ih _ _
    · rfl
theorem kKind_st (g0 : Nat → Int32) (L n : Nat) (told : Nat → Bool) : kKind true g0 L told n = kKind false g0 L told n := by
  unfold kKind
  rw [show (9 : Int32) = nI 9 from rfl, kNum_small (by decide)]
  refine bind_eq fun q _ => ?_
  split
  · rfl
  · unfold kKind2
    rw [show (60 : Int32) = nI 60 from rfl, show (9 : Int32) = nI 9 from rfl]
    refine bind_eq fun m _ => ?_
    rw [kNum_small (by decide)]
    refine bind_eq fun f _ => bind_eq fun m2 _ => ?_
    rw [kNum_small (by decide)]
    refine bind_eq fun p _ => ?_
    unfold kKind3
    rw [kConds_st]
theorem kJumps_st (g0 : Nat → Int32) (L : Nat) : ∀ (j n : Nat) (xs : List JD), kJumps true g0 L j n xs = kJumps false g0 L j n xs := by
  intro j
  induction j with
  | zero => intro n xs; rfl
  | succ j ih =>
    intro n xs
    unfold kJumps
    split
    · refine SN_bind (kSpan_SN g0 L _) (fun v m _ => ?_) (fun v m h => ?_)
      · show (kJump true g0 L m).bind _ = (kJump false g0 L m).bind _
        rw [kJump_st]
        exact bind_eq fun r _ => bind_eq fun m _ => ih _ _
      · show (kJump false g0 L m).bind _ = none
        unfold kJump
        rw [kTake_doom h (by decide +kernel)]; rfl
    · rfl
theorem kQues_st (g0 : Nat → Int32) (L n : Nat) (told : Nat → Bool) : kQues true g0 L told n = kQues false g0 L told n := by
  unfold kQues
  rw [show (60 : Int32) = nI 60 from rfl, kNum_small (by decide)]
  refine bind_eq fun q _ => ?_
  split
  · rfl
  · refine bind_eq fun mu _ => ?_
    unfold kQ2
    refine SN_bind (kSpan_SN g0 L _) (fun v m _ => ?_) (fun v m h => ?_)
    · refine bind_eq fun wa _ => bind_eq fun wb _ => ?_
      unfold kQ3
      refine bind_eq fun m _ => ?_
      rw [kJumps_st]
      refine bind_eq fun js _ => ?_
      unfold kQ4
      rw [kJump_st]
    · show (kWords g0 L m).bind _ = none
      unfold kWords
      rw [kTake_doom h (by decide +kernel)]; rfl
theorem kRow_st (g0 : Nat → Int32) (L n : Nat) (R : RD) : kRow true g0 L R n = kRow false g0 L R n := by
  unfold kRow
  split
  · rw [kQues_st]
  · exact bind_eq fun m _ => by rw [kKind_st]
theorem kRows_st (g0 : Nat → Int32) (L : Nat) : ∀ (k n : Nat) (R : RD), kRows true g0 L k n R = kRows false g0 L k n R := by
  intro k
  induction k with
  | zero => intro n R; rfl
  | succ k ih =>
    intro n R
    unfold kRows
    split
    · rfl
    · rw [kRow_st]; exact bind_eq fun q _ => ih _ _
theorem kTape_st (g0 : Nat → Int32) (L : Nat) : kTape true g0 L = kTape false g0 L := kRows_st g0 L 400 0 _
