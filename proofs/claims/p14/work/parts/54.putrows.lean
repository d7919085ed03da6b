-- an edition in the making
theorem d_Edinit (T : ST) (q : Nat) (Post : va_W → Prop) (hq : ∀ w7 w16, Post [(w16, .inl (T.2.2.2.1 4, 10, .inr (.inr (.inr (.inr (fun _ => none)))))), (w7, .inl (T.2.2.2.1 3, 61, .inr (.inr (.inr (.inr (fun _ => none)))))), (q, .inr (3, [.ref w7, .ref w16, .int 0, .long 0, .long 0, .long 0]))]) : uV T y_Ed_init (Cond.code y_Ed_init b_Ed_init 1 none) 0 2 71 [.ref q] [(q, .inr (3, [.null, .null, .int 0, .long 0, .long 0, .long 0]))] Post := by
  refine e_Ed_init T Post q ?_
  rintro C rfl X
  exact k_Ed_init_0 X Post q 0 0 ⟨by decide, by decide⟩ (fun _ => ⟨by decide, by decide⟩) (fun _ _ => ⟨by decide, by decide⟩) hq
def allQ (k : Nat → ClassId) (P : va_W) (f : Nat → Option Nat) : Prop := ∀ j a, f j = some a → isQu k P a
def allK (k : Nat → ClassId) (P : va_W) (f : Nat → Option Nat) : Prop := ∀ j a, f j = some a → isKi k P a
theorem allQ.mono {k : Nat → ClassId} {P P' : va_W} {f : Nat → Option Nat} (h : allQ k P f) (hs : Sub P P') : allQ k P' f := fun j a e => (h j a e).mono hs
theorem allK.mono {k : Nat → ClassId} {P P' : va_W} {f : Nat → Option Nat} (h : allK k P f) (hs : Sub P P') : allK k P' f := fun j a e => (h j a e).mono hs
theorem allQ.up {k : Nat → ClassId} {P : va_W} {f : Nat → Option Nat} (h : allQ k P f) {a : Nat} (c : Nat) (ha : isQu k P a) : allQ k P (va_up f c (some a)) := by
  intro j b e
  by_cases cj : j = c
  · subst cj; rw [up_same] at e; cases e; exact ha
  · rw [up_other _ _ cj] at e; exact h j b e
theorem allK.up {k : Nat → ClassId} {P : va_W} {f : Nat → Option Nat} (h : allK k P f) {a : Nat} (c : Nat) (ha : isKi k P a) : allK k P (va_up f c (some a)) := by
  intro j b e
  by_cases cj : j = c
  · subst cj; rw [up_same] at e; cases e; exact ha
  · rw [up_other _ _ cj] at e; exact h j b e
def allS (S : Nat → Prop) (f : Nat → Option Nat) : Prop := ∀ j a, f j = some a → S a
theorem allS.up {S : Nat → Prop} {f : Nat → Option Nat} (h : allS S f) {a : Nat} (c : Nat) (ha : S a) : allS S (va_up f c (some a)) := by
  intro j b e
  by_cases cj : j = c
  · subst cj; rw [up_same] at e; cases e; exact ha
  · rw [up_other _ _ cj] at e; exact h j b e
def mgF (N c : Nat) (g f : Nat → Option Nat) : Nat → Option Nat := fun j => if c ≤ j ∧ j < N ∧ ¬ g j = none then g j else f j
theorem mgF_end (N : Nat) (g f : Nat → Option Nat) : mgF N N g f = f := by
  funext j
  exact if_neg (fun z => by omega)
theorem mgF_none {N c : Nat} {g : Nat → Option Nat} (h : g c = none) (f : Nat → Option Nat) : mgF N (c + 1) g f = mgF N c g f := by
  funext j
  unfold mgF
  by_cases e : j = c
  · subst e
    rw [if_neg (fun z => by omega), if_neg (fun z => z.2.2 h)]
  · by_cases q : c ≤ j ∧ j < N ∧ ¬ g j = none
    · rw [if_pos q, if_pos ⟨by omega, q.2⟩]
    · rw [if_neg q, if_neg (fun z => q ⟨by omega, z.2⟩)]
theorem mgF_some {N c a : Nat} {g : Nat → Option Nat} (hc : c < N) (h : g c = some a) (f : Nat → Option Nat) : mgF N (c + 1) g (va_up f c (some a)) = mgF N c g f := by
  funext j
  unfold mgF
  by_cases e : j = c
  · subst e
    rw [if_neg (fun z => by omega), if_pos ⟨Nat.le_refl _, hc, by rw [h]; exact fun z => nomatch z⟩, up_same, h]
  · by_cases q : c ≤ j ∧ j < N ∧ ¬ g j = none
    · rw [if_pos q, if_pos ⟨by omega, q.2⟩]
    · rw [if_neg q, if_neg (fun z => q ⟨by omega, z.2⟩), up_other _ _ e]
theorem allS_mg {S : Nat → Prop} {N c : Nat} {g f : Nat → Option Nat} (h1 : allS S g) (h2 : allS S f) : allS S (mgF N c g f) := by
  intro j a e
  unfold mgF at e
  split at e
  · exact h1 j a e
  · exact h2 j a e
theorem d_putRows (T : ST) (e qa ka : Nat) (es : Int32) (e1 e2 e3 : Int64) (fq fk gq gk : Nat → Option Nat) (x1 x2 : Nat) (P : va_W) (SQ SK : Nat → Prop) (hSQ : ∀ a, SQ a → isQu T.2.2.2.1 P a) (hSK : ∀ a, SK a → isKi T.2.2.2.1 P a) (h1 : (x1, (.inl (T.2.2.2.1 3, 61, .inr (.inr (.inr (.inr gq)))) : va_E)) ∈ P) (h2 : (x2, (.inl (T.2.2.2.1 4, 10, .inr (.inr (.inr (.inr gk)))) : va_E)) ∈ P) (hgq : allS SQ gq) (hgk : allS SK gk) (Post : va_W → Prop)
    (hq : Post ([(e, .inr (3, [.ref qa, .ref ka, .int es, .long e1, .long e2, .long e3])), (qa, .inl (T.2.2.2.1 3, 61, .inr (.inr (.inr (.inr (mgF 61 1 gq fq)))))), (ka, .inl (T.2.2.2.1 4, 10, .inr (.inr (.inr (.inr (mgF 10 1 gk fk))))))] ++ P)) :
    uV T y_Ed_putRows (Cond.code y_Ed_putRows b_Ed_putRows 4 none) 0 0 0 [.ref e, .ref x1, .ref x2] ([(e, .inr (3, [.ref qa, .ref ka, .int es, .long e1, .long e2, .long e3])), (qa, .inl (T.2.2.2.1 3, 61, .inr (.inr (.inr (.inr fq))))), (ka, .inl (T.2.2.2.1 4, 10, .inr (.inr (.inr (.inr fk)))))] ++ P) Post := by
  obtain ⟨i4, hx1⟩ := List.getElem?_of_mem h1
  obtain ⟨i5, hx2⟩ := List.getElem?_of_mem h2
  refine e_Ed_putRows T Post x1 x2 P e qa ka es e1 e2 e3 fq fk gq gk ?_
  rintro C rfl X
  have s70 : ∀ c, zc_Ed_putRows C Post 0 0 70 [(0, .ref e), (1, .ref x1), (2, .ref x2), (3, .int (nI c))] [] ([(e, .inr (3, [.ref qa, .ref ka, .int es, .long e1, .long e2, .long e3])), (qa, .inl (C.1.2.2.2.1 3, 61, .inr (.inr (.inr (.inr (mgF 61 1 gq fq)))))), (ka, .inl (C.1.2.2.2.1 4, 10, .inr (.inr (.inr (.inr (mgF 10 1 gk fk))))))] ++ P) := fun c => k_Ed_putRows_70 X Post x1 x2 (nI c) P e qa ka es e1 e2 e3 (mgF 61 1 gq fq) (mgF 10 1 gk fk) gq gk i4 i5 0 0 hx1 hx2 ⟨by decide, by decide⟩ hq
  have l37 : ∀ k c (fk' : Nat → Option Nat), k + c = 10 → mgF 10 c gk fk' = mgF 10 1 gk fk → zc_Ed_putRows C Post 0 0 37 [(0, .ref e), (1, .ref x1), (2, .ref x2), (3, .int (nI c))] [] ([(e, .inr (3, [.ref qa, .ref ka, .int es, .long e1, .long e2, .long e3])), (qa, .inl (C.1.2.2.2.1 3, 61, .inr (.inr (.inr (.inr (mgF 61 1 gq fq)))))), (ka, .inl (C.1.2.2.2.1 4, 10, .inr (.inr (.inr (.inr fk')))))] ++ P) := by
    intro k
    induction k with
    | zero =>
      intro c fk' hk hm
      have hc : c = 10 := by omega
      subst hc
      rw [mgF_end] at hm
      subst hm
      have z : (9 : Int32) < nI 10 := by decide +kernel
      exact k_Ed_putRows_37 X Post x1 x2 (nI 10) P e qa ka es e1 e2 e3 (mgF 61 1 gq fq) (mgF 10 1 gk fk) gq gk i4 i5 0 0 hx1 hx2 (fun _ => s70 10) (fun n => absurd z n) (fun n => absurd z n) (fun n => absurd z n) (fun n => absurd z n) (fun n => absurd z n) (fun n => absurd z n) (fun n => absurd z n)
    | succ k ih =>
      intro c fk' hk hm
      have hv : vp_in (nI c) 10 := vi_n (by omega) (by decide)
      have hcl : (nI c).toNatClampNeg = c := nI_clamp (by omega)
      have s64 : ∀ fk2, mgF 10 (c + 1) gk fk2 = mgF 10 1 gk fk → zc_Ed_putRows C Post 0 0 64 [(0, .ref e), (1, .ref x1), (2, .ref x2), (3, .int (nI c))] [] ([(e, .inr (3, [.ref qa, .ref ka, .int es, .long e1, .long e2, .long e3])), (qa, .inl (C.1.2.2.2.1 3, 61, .inr (.inr (.inr (.inr (mgF 61 1 gq fq)))))), (ka, .inl (C.1.2.2.2.1 4, 10, .inr (.inr (.inr (.inr fk2)))))] ++ P) := by
        intro fk2 h
        refine k_Ed_putRows_64 X Post x1 x2 (nI c) P e qa ka es e1 e2 e3 (mgF 61 1 gq fq) fk2 gq gk i4 i5 0 0 hx1 hx2 ?_
        rw [nI_1]; exact ih (c + 1) fk2 (by omega) h
      refine k_Ed_putRows_37 X Post x1 x2 (nI c) P e qa ka es e1 e2 e3 (mgF 61 1 gq fq) fk' gq gk i4 i5 0 0 hx1 hx2 (fun z => ?_) (fun _ z => ?_) (fun _ _ => hv) (fun _ _ z => ?_) (fun _ _ _ => hv) (fun _ _ n => ?_) (fun _ _ _ _ _ _ _ _ _ _ => hv) (fun _ _ n a i u0 u1 u2 ea _ => ?_)
      · exact absurd ((nI_ltI (a := 9) (b := c) (by decide) (by omega)).mp z) (by omega)
      · exact absurd ((nI_leI (a := 10) (b := c) (by decide) (by omega)).mp z) (by omega)
      · rw [hcl] at z
        exact s64 fk' ((mgF_none z fk').trans hm)
      · cases ea : gk (nI c).toNatClampNeg with
        | none => exact absurd ea n
        | some a =>
          obtain ⟨y1, y2, y3, xs, w, g1, -⟩ := hSK a (hgk _ a ea)
          obtain ⟨i, hi⟩ := List.getElem?_of_mem g1
          exact ⟨a, i, y1, y2, y3, rfl, hi⟩
      · rw [hcl] at ea ⊢
        exact s64 _ ((mgF_some (by omega) ea fk').trans hm)
  have l35 : ∀ c, zc_Ed_putRows C Post 0 0 35 [(0, .ref e), (1, .ref x1), (2, .ref x2), (3, .int c)] [] ([(e, .inr (3, [.ref qa, .ref ka, .int es, .long e1, .long e2, .long e3])), (qa, .inl (C.1.2.2.2.1 3, 61, .inr (.inr (.inr (.inr (mgF 61 1 gq fq)))))), (ka, .inl (C.1.2.2.2.1 4, 10, .inr (.inr (.inr (.inr fk)))))] ++ P) := fun c => k_Ed_putRows_35 X Post x1 x2 c P e qa ka es e1 e2 e3 (mgF 61 1 gq fq) fk gq gk i4 i5 0 0 hx1 hx2 (l37 9 1 fk rfl rfl)
  have l2 : ∀ k c (fq' : Nat → Option Nat), k + c = 61 → mgF 61 c gq fq' = mgF 61 1 gq fq → zc_Ed_putRows C Post 0 0 2 [(0, .ref e), (1, .ref x1), (2, .ref x2), (3, .int (nI c))] [] ([(e, .inr (3, [.ref qa, .ref ka, .int es, .long e1, .long e2, .long e3])), (qa, .inl (C.1.2.2.2.1 3, 61, .inr (.inr (.inr (.inr fq'))))), (ka, .inl (C.1.2.2.2.1 4, 10, .inr (.inr (.inr (.inr fk)))))] ++ P) := by
    intro k
    induction k with
    | zero =>
      intro c fq' hk hm
      have hc : c = 61 := by omega
      subst hc
      rw [mgF_end] at hm
      subst hm
      have z : (60 : Int32) < nI 61 := by decide +kernel
      exact k_Ed_putRows_2 X Post x1 x2 (nI 61) P e qa ka es e1 e2 e3 (mgF 61 1 gq fq) fk gq gk i4 i5 0 0 hx1 hx2 (fun _ => l35 _) (fun n => absurd z n) (fun n => absurd z n) (fun n => absurd z n) (fun n => absurd z n) (fun n => absurd z n) (fun n => absurd z n) (fun n => absurd z n)
    | succ k ih =>
      intro c fq' hk hm
      have hv : vp_in (nI c) 61 := vi_n (by omega) (by decide)
      have hcl : (nI c).toNatClampNeg = c := nI_clamp (by omega)
      have s29 : ∀ fq2, mgF 61 (c + 1) gq fq2 = mgF 61 1 gq fq → zc_Ed_putRows C Post 0 0 29 [(0, .ref e), (1, .ref x1), (2, .ref x2), (3, .int (nI c))] [] ([(e, .inr (3, [.ref qa, .ref ka, .int es, .long e1, .long e2, .long e3])), (qa, .inl (C.1.2.2.2.1 3, 61, .inr (.inr (.inr (.inr fq2))))), (ka, .inl (C.1.2.2.2.1 4, 10, .inr (.inr (.inr (.inr fk)))))] ++ P) := by
        intro fq2 h
        refine k_Ed_putRows_29 X Post x1 x2 (nI c) P e qa ka es e1 e2 e3 fq2 fk gq gk i4 i5 0 0 hx1 hx2 ?_
        rw [nI_1]; exact ih (c + 1) fq2 (by omega) h
      refine k_Ed_putRows_2 X Post x1 x2 (nI c) P e qa ka es e1 e2 e3 fq' fk gq gk i4 i5 0 0 hx1 hx2 (fun z => ?_) (fun _ z => ?_) (fun _ _ => hv) (fun _ _ z => ?_) (fun _ _ _ => hv) (fun _ _ n => ?_) (fun _ _ _ _ _ _ _ _ _ _ _ _ _ => hv) (fun _ _ n a i u0 u1 u2 u3 u4 u5 ea _ => ?_)
      · exact absurd ((nI_ltI (a := 60) (b := c) (by decide) (by omega)).mp z) (by omega)
      · exact absurd ((nI_leI (a := 61) (b := c) (by decide) (by omega)).mp z) (by omega)
      · rw [hcl] at z
        exact s29 fq' ((mgF_none z fq').trans hm)
      · cases ea : gq (nI c).toNatClampNeg with
        | none => exact absurd ea n
        | some a =>
          obtain ⟨mu, sp, wa, wb, l, jx, xs, w, g1, -⟩ := hSQ a (hgq _ a ea)
          obtain ⟨i, hi⟩ := List.getElem?_of_mem g1
          exact ⟨a, i, mu, sp, wa, wb, l, jx, rfl, hi⟩
      · rw [hcl] at ea ⊢
        exact s29 _ ((mgF_some (by omega) ea fq').trans hm)
  exact k_Ed_putRows_0 X Post x1 x2 P e qa ka es e1 e2 e3 fq fk gq gk i4 i5 0 0 hx1 hx2 (l2 60 1 fq rfl rfl)
