-- what the rows that are read hold: numbers in their bounds, relations
def okJ (e : JD) : Prop := (∃ m, e.1 = nI m ∧ m ≤ 9999) ∧ ∃ p, e.2.2.2 = nI p ∧ p ≤ 999
def okQ (d : QD) : Prop := (∀ e ∈ d.2.2.2.2.1, okJ e) ∧ (∃ p, d.2.2.2.2.2.2.2.2 = nI p ∧ p ≤ 999) ∧ ∃ m, d.2.1.1 = nI m ∧ m ≤ 9999
def okT (e : TD) : Prop := (e.2.1 = 60 ∨ e.2.1 = 62 ∨ e.2.1 = 61) ∧ Bd 60 e.1
def okK (d : KD) : Prop := ∀ c ∈ d.2.2, ∀ e ∈ c.1, okT e
theorem obs {α β : Type} {o : Option α} {f : α → Option β} {b : β} (h : o.bind f = some b) : ∃ a, o = some a ∧ f a = some b := by
  cases o with
  | none => cases h
  | some a => exact ⟨a, rfl, h⟩
section OK
variable {st : Bool} {g0 : Nat → Int32} {L : Nat}
theorem kPts_ok {n : Nat} {r : Int32 × Nat} (h : kPts st g0 L n = some r) : ∃ p, r.1 = nI p ∧ p ≤ 999 := by
  unfold kPts at h
  split at h
  · obtain ⟨p, h1, h2⟩ := obs h
    cases h2
    exact ⟨p.1, rfl, kNum_b (B := 999) (m := p.2) h1 (by decide)⟩
  · cases h
    exact ⟨0, nI_0.symm, by decide⟩
theorem kSpan_ok {n : Nat} {r : (Int32 × Int32) × Nat} (h : kSpan st g0 L n = some r) : ∃ m, r.1.1 = nI m ∧ m ≤ 9999 := by
  unfold kSpan at h
  obtain ⟨p, h1, h2⟩ := obs h
  obtain ⟨m, h3, h4⟩ := obs h2
  obtain ⟨s, h5, h6⟩ := obs h4
  cases h6
  exact ⟨p.1, rfl, kNum_b (B := 9999) (m := p.2) h1 (by decide)⟩
theorem kJump_ok {n : Nat} {r : (Int32 × Int32) × Nat} (h : kJump st g0 L n = some r) : ∃ p, r.1.2 = nI p ∧ p ≤ 999 := by
  unfold kJump at h
  obtain ⟨m, h1, h2⟩ := obs h
  obtain ⟨t, h3, h4⟩ := obs h2
  obtain ⟨p, h5, h6⟩ := obs h4
  cases h6
  exact kPts_ok h5
theorem kJumps_ok : ∀ (j n : Nat) (xs : List JD) (r : List JD × Nat), (∀ e ∈ xs, okJ e) → kJumps st g0 L j n xs = some r → ∀ e ∈ r.1, okJ e := by
  intro j
  induction j with
  | zero => intro n xs r hx h; cases h; exact hx
  | succ j ih =>
    intro n xs r hx h
    unfold kJumps at h
    split at h
    · obtain ⟨s, h1, h2⟩ := obs h
      obtain ⟨q, h3, h4⟩ := obs h2
      obtain ⟨m, h5, h6⟩ := obs h4
      refine ih m _ r (fun e he => ?_) h6
      rcases List.mem_append.mp he with he | he
      · exact hx e he
      · rw [List.mem_singleton] at he
        subst he
        exact ⟨kSpan_ok h1, kJump_ok h3⟩
    · cases h; exact hx
theorem kRel_ok {ab : Int32} {n : Nat} {r : TD × Nat} (hab : Bd 60 ab) (h : kRel st g0 L ab n = some r) : okT r.1 := by
  unfold kRel at h
  split at h
  · rename_i q
    obtain ⟨v, h1, h2⟩ := obs h
    cases h2
    rcases q with q | q | q
    · exact ⟨Or.inl q, hab⟩
    · exact ⟨Or.inr (Or.inl q), hab⟩
    · exact ⟨Or.inr (Or.inr q.1), hab⟩
  · cases h
theorem kTerm_ok {n : Nat} {r : TD × Nat} (h : kTerm st g0 L n = some r) : okT r.1 := by
  unfold kTerm at h
  split at h
  · exact kRel_ok (Bd_0 60) h
  · obtain ⟨m, h1, h2⟩ := obs h
    obtain ⟨v, h3, h4⟩ := obs h2
    exact kRel_ok ⟨v.1, rfl, kNum_b (B := 60) (m := v.2) h3 (by decide)⟩ h4
theorem kTerms_ok : ∀ (j n : Nat) (xs : List TD) (r : List TD × Nat), (∀ e ∈ xs, okT e) → kTerms st g0 L j n xs = some r → ∀ e ∈ r.1, okT e := by
  intro j
  induction j with
  | zero => intro n xs r hx h; cases h; exact hx
  | succ j ih =>
    intro n xs r hx h
    unfold kTerms at h
    split at h
    · obtain ⟨s, h1, h2⟩ := obs h
      refine ih s.2 _ r (fun e he => ?_) h2
      rcases List.mem_append.mp he with he | he
      · exact hx e he
      · rw [List.mem_singleton] at he
        subst he
        exact kTerm_ok h1
    · cases h; exact hx
theorem kCond_ok {n : Nat} {r : CD × Nat} (h : kCond st g0 L n = some r) : ∀ e ∈ r.1.1, okT e := by
  unfold kCond at h
  obtain ⟨s, h1, h2⟩ := obs h
  obtain ⟨t, h3, h4⟩ := obs h2
  unfold kCend at h4
  obtain ⟨m, h5, h6⟩ := obs h4
  obtain ⟨v, h7, h8⟩ := obs h6
  obtain ⟨m2, h9, h10⟩ := obs h8
  cases h10
  refine kTerms_ok 3 _ _ t (fun e he => ?_) h3
  rw [List.mem_singleton] at he
  subst he
  exact kTerm_ok h1
theorem kConds_ok : ∀ (j n : Nat) (xs : List CD) (r : List CD × Nat), (∀ c ∈ xs, ∀ e ∈ c.1, okT e) → kConds st g0 L j n xs = some r → ∀ c ∈ r.1, ∀ e ∈ c.1, okT e := by
  intro j
  induction j with
  | zero => intro n xs r hx h; cases h; exact hx
  | succ j ih =>
    intro n xs r hx h
    unfold kConds at h
    split at h
    · obtain ⟨s, h1, h2⟩ := obs h
      refine ih s.2 _ r (fun c hc => ?_) h2
      rcases List.mem_append.mp hc with hc | hc
      · exact hx c hc
      · rw [List.mem_singleton] at hc
        subst hc
        exact kCond_ok h1
    · cases h; exact hx
theorem kKind_ok {told : Nat → Bool} {n : Nat} {r : Nat × KD × Nat} (h : kKind st g0 L told n = some r) : okK r.2.1 := by
  unfold kKind at h
  obtain ⟨q, h1, h2⟩ := obs h
  split at h2
  · cases h2
  · unfold kKind2 at h2
    obtain ⟨m, h3, h4⟩ := obs h2
    obtain ⟨f, h5, h6⟩ := obs h4
    obtain ⟨m2, h7, h8⟩ := obs h6
    obtain ⟨p, h9, h10⟩ := obs h8
    unfold kKind3 at h10
    obtain ⟨cs, h11, h12⟩ := obs h10
    obtain ⟨m3, h13, h14⟩ := obs h12
    cases h14
    exact kConds_ok 6 _ _ cs (fun c hc => absurd hc List.not_mem_nil) h11
theorem kQues_ok {told : Nat → Bool} {n : Nat} {r : Nat × QD × Nat} (h : kQues st g0 L told n = some r) : okQ r.2.1 := by
  unfold kQues at h
  obtain ⟨q, h1, h2⟩ := obs h
  split at h2
  · cases h2
  · obtain ⟨mu, h3, h4⟩ := obs h2
    unfold kQ2 at h4
    obtain ⟨sp, h5, h6⟩ := obs h4
    obtain ⟨wa, h7, h8⟩ := obs h6
    obtain ⟨wb, h9, h10⟩ := obs h8
    unfold kQ3 at h10
    obtain ⟨m, h11, h12⟩ := obs h10
    obtain ⟨js, h13, h14⟩ := obs h12
    unfold kQ4 at h14
    obtain ⟨jm, h15, h16⟩ := obs h14
    obtain ⟨m2, h17, h18⟩ := obs h16
    cases h18
    exact ⟨kJumps_ok 5 _ _ js (fun e he => absurd he List.not_mem_nil) h13, kJump_ok h15, kSpan_ok h5⟩
def okR (R : RD) : Prop := (∀ q d, R.1 q = some d → okQ d) ∧ ∀ k d, R.2 k = some d → okK d
theorem kRow_ok {R : RD} {n : Nat} {r : RD × Nat} (hR : okR R) (h : kRow st g0 L R n = some r) : okR r.1 := by
  unfold kRow at h
  split at h
  · obtain ⟨q, h1, h2⟩ := obs h
    cases h2
    refine ⟨fun j d e => ?_, hR.2⟩
    by_cases c : j = q.1
    · have e : va_up R.1 q.1 (some q.2.1) j = some d := e
      rw [c, up_same] at e
      cases e
      exact kQues_ok h1
    · have e : va_up R.1 q.1 (some q.2.1) j = some d := e
      rw [up_other _ _ c] at e
      exact hR.1 j d e
  · obtain ⟨m, h1, h2⟩ := obs h
    obtain ⟨q, h3, h4⟩ := obs h2
    cases h4
    refine ⟨hR.1, fun j d e => ?_⟩
    by_cases c : j = q.1
    · have e : va_up R.2 q.1 (some q.2.1) j = some d := e
      rw [c, up_same] at e
      cases e
      exact kKind_ok h3
    · have e : va_up R.2 q.1 (some q.2.1) j = some d := e
      rw [up_other _ _ c] at e
      exact hR.2 j d e
theorem kRows_ok : ∀ (k n : Nat) (R R' : RD), okR R → kRows st g0 L k n R = some R' → okR R' := by
  intro k
  induction k with
  | zero => intro n R R' hR h; cases h; exact hR
  | succ k ih =>
    intro n R R' hR h
    unfold kRows at h
    split at h
    · cases h; exact hR
    · obtain ⟨q, h1, h2⟩ := obs h
      exact ih q.2 q.1 R' (kRow_ok hR h1) h2
theorem kTape_ok {R : RD} (h : kTape st g0 L = some R) : okR R := kRows_ok 400 0 _ R ⟨(by intro _ _ e; cases e), (by intro _ _ e; cases e)⟩ h
end OK
