-- calls and editions
theorem x_rng {x : Int32} {M : Nat} (hM : M < 2 ^ 31) (h1 : ¬ x < 1) (h2 : x ≤ nI M) : ∃ j, x = nI j ∧ 1 ≤ j ∧ j ≤ M := by
  have h0 : ¬ x < 0 := fun h => h1 (Int32.lt_trans h (by decide +kernel))
  obtain ⟨j, hj, rfl⟩ := nI_of h0
  refine ⟨j, rfl, ?_, (nI_leI hj hM).mp h2⟩
  rcases Nat.eq_zero_or_pos j with z | z
  · subst z; exact absurd (by decide +kernel) h1
  · exact z
theorem d_fill (T : ST) (x : Int32) (f : FT) (g : GT) (Post : va_W → Prop) (hq : ∀ g' : GT, g' 0 = g 0 → (∀ j, j < 61 → g' 1 j = x) → Post (CX T f g')) : uV T y_Ar_fill (Cond.code y_Ar_fill b_Ar_fill 4 none) 0 0 0 [.ref (ad T 28), .int x] (CX T f g) Post := by
  refine e_Ar_fill T Post x f g ?_
  rintro C rfl X
  have loop : ∀ k c (g1 : GT), k + c = 61 → g1 0 = g 0 → (∀ j, j < c → g1 1 j = x) → zc_Ar_fill C Post 0 0 5 [(0, .ref (ad C.1 28)), (1, .int x), (2, .int (nI c)), (3, .int (nI 61))] [] (CX C.1 f g1) := by
    intro k
    induction k with
    | zero =>
      intro c g1 hk h0 h1
      have z : nI 61 ≤ nI c := nI_le (by omega) (by omega)
      exact k_Ar_fill_5 X Post x (nI c) (nI 61) f g1 0 0 (fun _ => ⟨by decide, by decide⟩) (fun _ => hq g1 h0 (fun j hj => h1 j (by omega))) (fun n => absurd z n) (fun n => absurd z n)
    | succ k ih =>
      intro c g1 hk h0 h1
      have z : ¬ nI 61 ≤ nI c := fun n => absurd ((nI_leI (by omega) (by omega)).mp n) (by omega)
      refine k_Ar_fill_5 X Post x (nI c) (nI 61) f g1 0 0 (fun n => absurd n z) (fun n => absurd n z) (fun _ => vi_n (show c < 61 by omega) (by decide)) (fun _ => ?_)
      rw [nI_1, nI_clamp (by omega)]
      refine ih (c + 1) _ (by omega) ?_ (fun j hj => ?_)
      · rw [up_other _ _ (by decide)]; exact h0
      · rw [up_same]
        by_cases cj : j = c
        · subst cj; exact if_pos rfl
        · exact (if_neg cj).trans (h1 j (by omega))
  exact k_Ar_fill_0 X Post x f g 0 0 (loop 61 0 g rfl rfl (fun j hj => absurd hj (Nat.not_lt_zero _)))
theorem d_clear (T : ST) (f : FT) (g : GT) (Post : va_W → Prop) (hq : ∀ (f' : FT) (g' : GT), f' 0 = 0 → f' 1 = 0 → f' 2 = 0 → f' 3 = 0 → g' 0 = g 0 → (∀ j, j < 61 → g' 1 j = -1) → Post (CX T f' g')) : uV T y_Ca_clear (Cond.code y_Ca_clear b_Ca_clear 1 none) 1 0 0 [.ref (ad T 26)] (CX T f g) Post := by
  refine e_Ca_clear T Post f g ?_
  rintro C rfl X
  refine k_Ca_clear_0 X Post (P_5 := fun u => ∃ g' : GT, g' 0 = g 0 ∧ (∀ j, j < 61 → g' 1 j = -1) ∧ u = CX C.1 f g') f g 0 0 ⟨by decide, by decide⟩ (d_fill _ _ f g _ (fun g' h1 h2 => ⟨g', h1, h2, rfl⟩)) ?_
  rintro u ⟨g', h1, h2, rfl⟩
  exact k_Ca_clear_8 X Post f g' 0 0 ⟨by decide, by decide⟩ (hq _ g' rfl rfl rfl rfl h1 h2)
theorem d_ask (T : ST) (x : Int32) (f : FT) (g : GT) (hc : Bd 40 (f 0)) (Post : va_W → Prop) (hq : ∀ (f' : FT) (g' : GT), Bd 40 (f' 0) → f' 1 = x → f' 2 = f 2 → f' 3 = f 3 → Post (CX T f' g')) : uV T y_Ca_ask (Cond.code y_Ca_ask b_Ca_ask 2 none) 0 0 0 [.ref (ad T 26), .int x] (CX T f g) Post := by
  refine e_Ca_ask T Post x f g ?_
  rintro C rfl X
  obtain ⟨c, hc1, hc2⟩ := hc
  have s38 : ∀ (f' : FT) (g' : GT), Bd 40 (f' 0) → f' 1 = x → f' 2 = f 2 → f' 3 = f 3 → zc_Ca_ask C Post 0 0 38 [(0, .ref (ad C.1 26)), (1, .int x)] [] (CX C.1 f' g') := fun f' g' h1 h2 h3 h4 => k_Ca_ask_38 X Post x f' g' 0 0 ⟨by decide, by decide⟩ (hq f' g' h1 h2 h3 h4)
  have z40 : ¬ (40 : Int32) ≤ f 0 → c < 40 := fun z => by
    rw [hc1] at z
    exact Nat.lt_of_not_le (fun h => z ((nI_leI (a := 40) (b := c) (by decide) (by omega)).mpr h))
  refine k_Ca_ask_0 X Post x f g 0 0 (fun _ => s38 _ g ⟨c, hc1, hc2⟩ rfl rfl rfl) (fun _ _ => s38 _ g ⟨c, hc1, hc2⟩ rfl rfl rfl) (fun _ z => ?_) (fun _ z => ?_)
  · rw [hc1]; exact vi_n (z40 z) (by decide)
  · refine s38 _ _ ⟨c + 1, ?_, z40 z⟩ rfl rfl rfl
    rw [up_same, hc1, nI_1]
theorem d_askX (T : ST) (x : Int32) (f : FT) (g : GT) (hc : Bd 40 (f 0)) (Post : va_W → Prop) (hq : ∀ (f' : FT) (g' : GT), f' 1 = x → f' 2 = f 2 → f' 3 = f 3 → g' 1 = g 1 → ((x = 0 ∨ 40 ≤ f 0) → f' 0 = f 0 ∧ g' 0 = g 0) → (¬ x = 0 → ¬ 40 ≤ f 0 → f' 0 = f 0 + 1 ∧ g' 0 = upd (g 0) (f 0).toNatClampNeg x) → Post (CX T f' g')) : uV T y_Ca_ask (Cond.code y_Ca_ask b_Ca_ask 2 none) 0 0 0 [.ref (ad T 26), .int x] (CX T f g) Post := by
  refine e_Ca_ask T Post x f g ?_
  rintro C rfl X
  obtain ⟨c, hc1, hc2⟩ := hc
  have z40 : ¬ (40 : Int32) ≤ f 0 → c < 40 := fun z => by
    rw [hc1] at z
    exact Nat.lt_of_not_le (fun h => z ((nI_leI (a := 40) (b := c) (by decide) (by omega)).mpr h))
  refine k_Ca_ask_0 X Post x f g 0 0 (fun z => ?_) (fun z1 z2 => ?_) (fun _ z => ?_) (fun z1 z2 => ?_)
  · exact k_Ca_ask_38 X Post x _ _ 0 0 ⟨by decide, by decide⟩ (hq _ _ rfl rfl rfl rfl (fun _ => ⟨rfl, rfl⟩) (fun n => absurd z n))
  · exact k_Ca_ask_38 X Post x _ _ 0 0 ⟨by decide, by decide⟩ (hq _ _ rfl rfl rfl rfl (fun _ => ⟨rfl, rfl⟩) (fun _ n => absurd z2 n))
  · rw [hc1]; exact vi_n (z40 z) (by decide)
  · exact k_Ca_ask_38 X Post x _ _ 0 0 ⟨by decide, by decide⟩ (hq _ _ rfl rfl rfl rfl (fun n => absurd n (fun q => q.elim z1 z2)) (fun _ _ => ⟨rfl, rfl⟩))
theorem d_hasMember (T : ST) (x0 : Int64) (x2 : Int32) (Post : Int32 → va_W → Prop) (hq : ∀ y, (y = 0 ∨ y = 1) → Post y []) : uI T y_Q_hasMember (Cond.code y_Q_hasMember b_Q_hasMember 3 (some .boolean)) 0 0 0 [.long x0, .int x2] [] Post := by
  refine e_Q_hasMember T Post x0 x2 ?_
  rintro C rfl X
  have s15 : ∀ y, (y = 0 ∨ y = 1) → zc_Q_hasMember C Post 0 0 15 [(0, .long x0), (2, .int x2)] [.int y] [] := fun y hy => k_Q_hasMember_15 X Post x0 x2 y 0 0 ⟨by decide, by decide⟩ (hq y hy) (nar01 hy)
  exact k_Q_hasMember_0 X Post x0 x2 0 0 (fun _ => s15 0 (Or.inl rfl)) (fun _ => s15 1 (Or.inr rfl))
-- an edition in the world, its questions, its kinds
def edQ (k : Nat → ClassId) (W : va_W) (e : Nat) (fq : Nat → Option Nat) : Prop := ∃ (qa ka : Nat) (es : Int32) (e1 e2 e3 : Int64), (e, (.inr (3, [.ref qa, .ref ka, .int es, .long e1, .long e2, .long e3]) : va_E)) ∈ W ∧ (qa, (.inl (k 3, 61, .inr (.inr (.inr (.inr fq)))) : va_E)) ∈ W
def edK (k : Nat → ClassId) (W : va_W) (e : Nat) (fk : Nat → Option Nat) : Prop := ∃ (qa ka : Nat) (es : Int32) (e1 e2 e3 : Int64), (e, (.inr (3, [.ref qa, .ref ka, .int es, .long e1, .long e2, .long e3]) : va_E)) ∈ W ∧ (ka, (.inl (k 4, 10, .inr (.inr (.inr (.inr fk)))) : va_E)) ∈ W
theorem edQ.mono {k : Nat → ClassId} {W W' : va_W} {e : Nat} {fq : Nat → Option Nat} (h : edQ k W e fq) (hs : Sub W W') : edQ k W' e fq := by
  obtain ⟨qa, ka, es, e1, e2, e3, h1, h2⟩ := h; exact ⟨qa, ka, es, e1, e2, e3, hs _ h1, hs _ h2⟩
theorem edK.mono {k : Nat → ClassId} {W W' : va_W} {e : Nat} {fk : Nat → Option Nat} (h : edK k W e fk) (hs : Sub W W') : edK k W' e fk := by
  obtain ⟨qa, ka, es, e1, e2, e3, h1, h2⟩ := h; exact ⟨qa, ka, es, e1, e2, e3, hs _ h1, hs _ h2⟩
theorem d_questionAt (T : ST) (e : Nat) (x : Int32) (W : va_W) (fq : Nat → Option Nat) (h : edQ T.2.2.2.1 W e fq) (Post : Option Nat → va_W → Prop) (hq : ∀ y, ((y = none ∧ (x < 1 ∨ ¬ x ≤ 60)) ∨ ∃ j, x = nI j ∧ 1 ≤ j ∧ j ≤ 60 ∧ y = fq j) → Post y W) : uR T y_Ed_questionAt (Cond.code y_Ed_questionAt b_Ed_questionAt 2 (some (.object "QuestionText$Question"))) 0 0 0 [.ref e, .int x] W Post := by
  obtain ⟨qa, ka, es, e1, e2, e3, h1, h2⟩ := h
  obtain ⟨i1, hf⟩ := List.getElem?_of_mem h1
  obtain ⟨i2, hqa⟩ := List.getElem?_of_mem h2
  refine e_Ed_questionAt T Post x W e qa ka es e1 e2 e3 fq (fun _ => none) ?_
  rintro C rfl X
  have s21 : ∀ y, ((y = none ∧ (x < 1 ∨ ¬ x ≤ 60)) ∨ ∃ j, x = nI j ∧ 1 ≤ j ∧ j ≤ 60 ∧ y = fq j) → zc_Ed_questionAt C Post 0 0 21 [(0, .ref e), (1, .int x)] [va_rf y] W := fun y hy => k_Ed_questionAt_21 X Post x y W e qa ka es e1 e2 e3 fq (fun _ => none) i1 i2 0 0 hf hqa ⟨by decide, by decide⟩ (hq y hy)
  have s11 : (x < 1 ∨ ¬ x ≤ 60) → zc_Ed_questionAt C Post 0 0 11 [(0, .ref e), (1, .int x)] [] W := fun z9 => k_Ed_questionAt_11 X Post x W e qa ka es e1 e2 e3 fq (fun _ => none) i1 i2 0 0 hf hqa (s21 none (Or.inl ⟨rfl, z9⟩))
  refine k_Ed_questionAt_0 X Post x W e qa ka es e1 e2 e3 fq (fun _ => none) i1 i2 0 0 hf hqa (fun z9 => s11 (Or.inl z9)) (fun z1 z2 => ?_) (fun z1 z2 => ?_) (fun _ z9 => s11 (Or.inr z9))
  · obtain ⟨j, rfl, h3, h4⟩ := x_rng (M := 60) (by decide) z1 z2
    exact vi_n (by omega) (by decide)
  · obtain ⟨j, rfl, h3, h4⟩ := x_rng (M := 60) (by decide) z1 z2
    rw [nI_clamp (by omega)]
    exact s21 _ (Or.inr ⟨j, rfl, h3, h4, rfl⟩)
theorem d_kindAt (T : ST) (e : Nat) (x : Int32) (W : va_W) (fk : Nat → Option Nat) (h : edK T.2.2.2.1 W e fk) (Post : Option Nat → va_W → Prop) (hq : ∀ y, ((y = none ∧ (x < 1 ∨ ¬ x ≤ 9)) ∨ ∃ j, x = nI j ∧ 1 ≤ j ∧ j ≤ 9 ∧ y = fk j) → Post y W) : uR T y_Ed_kindAt (Cond.code y_Ed_kindAt b_Ed_kindAt 2 (some (.object "QuestionText$Kind"))) 0 0 0 [.ref e, .int x] W Post := by
  obtain ⟨qa, ka, es, e1, e2, e3, h1, h2⟩ := h
  obtain ⟨i1, hf⟩ := List.getElem?_of_mem h1
  obtain ⟨i2, hka⟩ := List.getElem?_of_mem h2
  refine e_Ed_kindAt T Post x W e qa ka es e1 e2 e3 (fun _ => none) fk ?_
  rintro C rfl X
  have s21 : ∀ y, ((y = none ∧ (x < 1 ∨ ¬ x ≤ 9)) ∨ ∃ j, x = nI j ∧ 1 ≤ j ∧ j ≤ 9 ∧ y = fk j) → zc_Ed_kindAt C Post 0 0 21 [(0, .ref e), (1, .int x)] [va_rf y] W := fun y hy => k_Ed_kindAt_21 X Post x y W e qa ka es e1 e2 e3 (fun _ => none) fk i1 i2 0 0 hf hka ⟨by decide, by decide⟩ (hq y hy)
  have s11 : (x < 1 ∨ ¬ x ≤ 9) → zc_Ed_kindAt C Post 0 0 11 [(0, .ref e), (1, .int x)] [] W := fun z9 => k_Ed_kindAt_11 X Post x W e qa ka es e1 e2 e3 (fun _ => none) fk i1 i2 0 0 hf hka (s21 none (Or.inl ⟨rfl, z9⟩))
  refine k_Ed_kindAt_0 X Post x W e qa ka es e1 e2 e3 (fun _ => none) fk i1 i2 0 0 hf hka (fun z9 => s11 (Or.inl z9)) (fun z1 z2 => ?_) (fun z1 z2 => ?_) (fun _ z9 => s11 (Or.inr z9))
  · obtain ⟨j, rfl, h3, h4⟩ := x_rng (M := 9) (by decide) z1 z2
    exact vi_n (by omega) (by decide)
  · obtain ⟨j, rfl, h3, h4⟩ := x_rng (M := 9) (by decide) z1 z2
    rw [nI_clamp (by omega)]
    exact s21 _ (Or.inr ⟨j, rfl, h3, h4, rfl⟩)
theorem d_asNext (T : ST) (e : Nat) (x : Int32) (W : va_W) (fq : Nat → Option Nat) (h : edQ T.2.2.2.1 W e fq) (Post : Int32 → va_W → Prop) (hq : ∀ y, (y = 0 ∨ ∃ j, y = nI j ∧ 1 ≤ j ∧ j ≤ 60 ∧ ¬ fq j = none) → Post y W) : uI T y_Ed_asNext (Cond.code y_Ed_asNext b_Ed_asNext 2 (some .int)) 1 0 0 [.ref e, .int x] W Post := by
  obtain ⟨qa, ka, es, e1, e2, e3, h1, h2⟩ := id h
  obtain ⟨i1, hf⟩ := List.getElem?_of_mem h1
  obtain ⟨i2, hqa⟩ := List.getElem?_of_mem h2
  refine e_Ed_asNext T Post x W e qa ka es e1 e2 e3 fq (fun _ => none) ?_
  rintro C rfl X
  have s13 : ∀ y, (y = 0 ∨ ∃ j, y = nI j ∧ 1 ≤ j ∧ j ≤ 60 ∧ ¬ fq j = none) → zc_Ed_asNext C Post 0 0 13 [(0, .ref e), (1, .int x)] [.int y] W := fun y hy => k_Ed_asNext_13 X Post x y W e qa ka es e1 e2 e3 fq (fun _ => none) i1 i2 0 0 hf hqa ⟨by decide, by decide⟩ (hq y hy)
  refine k_Ed_asNext_0 X Post (P_2 := fun y u => ((y = none ∧ (x < 1 ∨ ¬ x ≤ 60)) ∨ ∃ j, x = nI j ∧ 1 ≤ j ∧ j ≤ 60 ∧ y = fq j) ∧ u = W) x W e qa ka es e1 e2 e3 fq (fun _ => none) i1 i2 0 0 hf hqa ⟨by decide, by decide⟩ (d_questionAt _ e x W fq h _ (fun y hy => ⟨hy, rfl⟩)) ?_
  rintro y u ⟨hy, rfl⟩
  refine k_Ed_asNext_5 X Post x y u e qa ka es e1 e2 e3 fq (fun _ => none) i1 i2 0 0 hf hqa (fun z => s13 x ?_) (fun _ => s13 0 (Or.inl rfl))
  rcases hy with ⟨rfl, -⟩ | ⟨j, g1, g2, g3, rfl⟩
  · exact absurd rfl z
  · exact Or.inr ⟨j, g1, g2, g3, z⟩
theorem d_asNextX (T : ST) (e : Nat) (x : Int32) (W : va_W) (fq : Nat → Option Nat) (h : edQ T.2.2.2.1 W e fq) (Post : Int32 → va_W → Prop) (hq : ∀ y, ((y = 0 ∧ ((x < 1 ∨ ¬ x ≤ 60) ∨ ∃ j, x = nI j ∧ 1 ≤ j ∧ j ≤ 60 ∧ fq j = none)) ∨ ∃ j, x = nI j ∧ y = nI j ∧ 1 ≤ j ∧ j ≤ 60 ∧ ¬ fq j = none) → Post y W) : uI T y_Ed_asNext (Cond.code y_Ed_asNext b_Ed_asNext 2 (some .int)) 1 0 0 [.ref e, .int x] W Post := by
  obtain ⟨qa, ka, es, e1, e2, e3, h1, h2⟩ := id h
  obtain ⟨i1, hf⟩ := List.getElem?_of_mem h1
  obtain ⟨i2, hqa⟩ := List.getElem?_of_mem h2
  refine e_Ed_asNext T Post x W e qa ka es e1 e2 e3 fq (fun _ => none) ?_
  rintro C rfl X
  have s13 : ∀ y, ((y = 0 ∧ ((x < 1 ∨ ¬ x ≤ 60) ∨ ∃ j, x = nI j ∧ 1 ≤ j ∧ j ≤ 60 ∧ fq j = none)) ∨ ∃ j, x = nI j ∧ y = nI j ∧ 1 ≤ j ∧ j ≤ 60 ∧ ¬ fq j = none) → zc_Ed_asNext C Post 0 0 13 [(0, .ref e), (1, .int x)] [.int y] W := fun y hy => k_Ed_asNext_13 X Post x y W e qa ka es e1 e2 e3 fq (fun _ => none) i1 i2 0 0 hf hqa ⟨by decide, by decide⟩ (hq y hy)
  refine k_Ed_asNext_0 X Post (P_2 := fun y u => ((y = none ∧ (x < 1 ∨ ¬ x ≤ 60)) ∨ ∃ j, x = nI j ∧ 1 ≤ j ∧ j ≤ 60 ∧ y = fq j) ∧ u = W) x W e qa ka es e1 e2 e3 fq (fun _ => none) i1 i2 0 0 hf hqa ⟨by decide, by decide⟩ (d_questionAt _ e x W fq h _ (fun y hy => ⟨hy, rfl⟩)) ?_
  rintro y u ⟨hy, rfl⟩
  refine k_Ed_asNext_5 X Post x y u e qa ka es e1 e2 e3 fq (fun _ => none) i1 i2 0 0 hf hqa (fun z => s13 x ?_) (fun z => s13 0 ?_)
  · rcases hy with ⟨rfl, -⟩ | ⟨j, g1, g2, g3, rfl⟩
    · exact absurd rfl z
    · exact Or.inr ⟨j, g1, g1, g2, g3, z⟩
  · rcases hy with ⟨-, q⟩ | ⟨j, g1, g2, g3, rfl⟩
    · exact Or.inl ⟨rfl, Or.inl q⟩
    · exact Or.inl ⟨rfl, Or.inr ⟨j, g1, g2, g3, z⟩⟩
theorem d_targetsOf (T : ST) (e q : Nat) (W : va_W) (fq : Nat → Option Nat) (h : edQ T.2.2.2.1 W e fq) (hqu : isQu T.2.2.2.1 W q) (Post : Int64 → va_W → Prop) (hq : ∀ y, Post y W) : uL T y_Ed_targetsOf (Cond.code y_Ed_targetsOf b_Ed_targetsOf 5 (some .long)) 3 0 0 [.ref e, .ref q] W Post := by
  obtain ⟨qa, ka, es, e1, e2, e3, h1, h2⟩ := id h
  obtain ⟨i1, hf⟩ := List.getElem?_of_mem h1
  obtain ⟨i2, hqa⟩ := List.getElem?_of_mem h2
  obtain ⟨mu, sp, wa, wb, l, jx, xs, w, g1, -, -, -, -, ⟨sj, t0, p0, g6, -⟩, h7, h8, h9, h10⟩ := hqu
  obtain ⟨i4, hq4⟩ := List.getElem?_of_mem g1
  obtain ⟨i5, hj5⟩ := List.getElem?_of_mem g6
  refine e_Ed_targetsOf T Post q W e qa ka es e1 e2 e3 fq (fun _ => none) mu sp wa wb l jx sj t0 p0 ?_
  rintro C rfl X
  have loop : ∀ k c x2, k + c = xs.length → zc_Ed_targetsOf C Post 0 0 17 [(0, .ref e), (1, .ref q), (2, .long x2), (4, .int (nI c))] [] W := by
    intro k
    induction k with
    | zero =>
      intro c x2 hc
      refine k_Ed_targetsOf_17 X Post (P_23 := fun y u => y = nI xs.length ∧ u = W) q x2 (nI c) W e qa ka es e1 e2 e3 fq (fun _ => none) mu sp wa wb l jx sj t0 p0 i1 i2 i4 i5 0 0 hf hqa hq4 hj5 ⟨by decide, by decide⟩ (d_size _ l xs w W h7 h8 _ ⟨rfl, rfl⟩) ?_ (h7.rP h8)
      rintro y u ⟨rfl, rfl⟩
      have z : nI xs.length ≤ nI c := nI_le (by omega) (by omega)
      exact k_Ed_targetsOf_28 X Post (P_40 := fun _ _ => True) q x2 (nI c) _ (nI c) _ e qa ka es e1 e2 e3 fq (fun _ => none) mu sp wa wb l jx sj t0 p0 i1 i2 i4 i5 0 0 hf hqa hq4 hj5 (fun _ => ⟨by decide, by decide⟩) (fun _ => hq _) (fun n => absurd z n) (fun n => absurd z n) (fun n => absurd z n) (fun n => absurd z n)
    | succ k ih =>
      intro c x2 hc
      refine k_Ed_targetsOf_17 X Post (P_23 := fun y u => y = nI xs.length ∧ u = W) q x2 (nI c) W e qa ka es e1 e2 e3 fq (fun _ => none) mu sp wa wb l jx sj t0 p0 i1 i2 i4 i5 0 0 hf hqa hq4 hj5 ⟨by decide, by decide⟩ (d_size _ l xs w W h7 h8 _ ⟨rfl, rfl⟩) ?_ (h7.rP h8)
      rintro y u ⟨rfl, rfl⟩
      have hcl : c < xs.length := by omega
      have z : ¬ nI xs.length ≤ nI c := fun n => absurd ((nI_leI (by omega) (by omega)).mp n) (by omega)
      obtain ⟨s6, t6, p6, g7, -⟩ := h10 _ (List.getElem_mem hcl)
      obtain ⟨i6, hy6⟩ := List.getElem?_of_mem g7
      refine k_Ed_targetsOf_28 X Post (P_40 := fun y v => y = some xs[c] ∧ v = u) q x2 (nI c) _ (nI c) u e qa ka es e1 e2 e3 fq (fun _ => none) mu sp wa wb l jx sj t0 p0 i1 i2 i4 i5 0 0 hf hqa hq4 hj5 (fun n => absurd n z) (fun n => absurd n z) (fun _ => ⟨by decide, by decide⟩) (fun _ => d_get _ l xs w u h7 h8 c hcl _ ⟨rfl, rfl⟩) ?_ (fun _ => h7.rP h8)
      rintro _ y v ⟨rfl, rfl⟩
      refine k_Ed_targetsOf_45 X Post (P_51 := fun _ t => t = v) q x2 (nI c) xs[c] 1 x2 v e qa ka es e1 e2 e3 fq (fun _ => none) mu sp wa wb l jx sj t0 p0 s6 t6 p6 i1 i2 i4 i5 i6 0 0 hf hqa hq4 hj5 hy6 ⟨by decide, by decide⟩ (d_asNext _ e _ v fq h _ (fun _ _ => rfl)) ?_
      rintro y t rfl
      refine k_Ed_targetsOf_54 X Post q x2 (nI c) y 1 x2 t e qa ka es e1 e2 e3 fq (fun _ => none) mu sp wa wb l jx sj t0 p0 i1 i2 i4 i5 0 0 hf hqa hq4 hj5 ?_
      rw [nI_1]
      exact ih (c + 1) _ (by omega)
  refine k_Ed_targetsOf_0 X Post (P_9 := fun _ t => t = W) q W e qa ka es e1 e2 e3 fq (fun _ => none) mu sp wa wb l jx sj t0 p0 i1 i2 i4 i5 0 0 hf hqa hq4 hj5 ⟨by decide, by decide⟩ (d_asNext _ e _ W fq h _ (fun _ _ => rfl)) ?_
  rintro y t rfl
  exact k_Ed_targetsOf_12 X Post q y 1 t e qa ka es e1 e2 e3 fq (fun _ => none) mu sp wa wb l jx sj t0 p0 i1 i2 i4 i5 0 0 hf hqa hq4 hj5 (loop xs.length 0 _ rfl)
theorem d_waysByJumps (T : ST) (e : Nat) (W : va_W) (fq : Nat → Option Nat) (h : edQ T.2.2.2.1 W e fq) (hQ : ∀ j a, fq j = some a → isQu T.2.2.2.1 W a) (Post : Option Nat → va_W → Prop) (hq : ∀ w lf, Post (some w) ([(w, .inl (T.2.2.2.1 1, 61, .inr (.inl lf)))] ++ W)) : uR T y_Ed_waysByJumps (Cond.code y_Ed_waysByJumps b_Ed_waysByJumps 4 (some (.array .long))) 4 1 61 [.ref e] W Post := by
  obtain ⟨qa, ka, es, e1, e2, e3, h1, h2⟩ := id h
  obtain ⟨i1, hf⟩ := List.getElem?_of_mem h1
  obtain ⟨i2, hqa⟩ := List.getElem?_of_mem h2
  refine e_Ed_waysByJumps T Post W e qa ka es e1 e2 e3 fq (fun _ => none) (fun _ => 0) ?_
  rintro C rfl X
  have l55 : ∀ w2 (lf : Nat → Int64) k c x2, k + c = 61 → x2 < 61 → (∀ lf', zc_Ed_waysByJumps C Post 1 61 47 [(0, .ref e), (1, .ref w2), (2, .int (nI (x2 + 1)))] [] ([(w2, .inl (C.1.2.2.2.1 1, 61, .inr (.inl lf')))] ++ W)) → zc_Ed_waysByJumps C Post 1 61 55 [(0, .ref e), (1, .ref w2), (2, .int (nI x2)), (3, .int (nI c))] [] ([(w2, .inl (C.1.2.2.2.1 1, 61, .inr (.inl lf)))] ++ W) := by
    intro w2 lf k
    induction k generalizing lf with
    | zero =>
      intro c x2 hk hx hn
      have z : (60 : Int32) < nI c := (nI_ltI (a := 60) (b := c) (by decide) (by omega)).mpr (by omega)
      refine k_Ed_waysByJumps_55 X Post (P_65 := fun _ _ => True) (nI x2) (nI c) w2 W e qa ka es e1 e2 e3 fq (fun _ => none) lf i1 i2 1 61 hf hqa (fun _ => ?_) (fun n => absurd z n) (fun n => absurd z n) (fun n => absurd z n) (fun n => absurd z n)
      rw [nI_1]; exact hn lf
    | succ k ih =>
      intro c x2 hk hx hn
      have z : ¬ (60 : Int32) < nI c := fun n => absurd ((nI_ltI (a := 60) (b := c) (by decide) (by omega)).mp n) (by omega)
      have hv : vp_in (nI c) 61 := vi_n (by omega) (by decide)
      have hv2 : vp_in (nI x2) 61 := vi_n hx (by decide)
      refine k_Ed_waysByJumps_55 X Post (P_65 := fun _ _ => True) (nI x2) (nI c) w2 W e qa ka es e1 e2 e3 fq (fun _ => none) lf i1 i2 1 61 hf hqa (fun n => absurd n z) (fun _ => hv) (fun _ => ⟨by decide, by decide⟩) (fun _ => d_hasMember _ _ _ _ (fun _ _ => trivial)) (fun _ y u _ => ?_)
      have s80 : ∀ lf', zc_Ed_waysByJumps C Post 1 61 80 [(0, .ref e), (1, .ref w2), (2, .int (nI x2)), (3, .int (nI c))] [] ([(w2, .inl (C.1.2.2.2.1 1, 61, .inr (.inl lf')))] ++ W) := by
        intro lf'
        refine k_Ed_waysByJumps_80 X Post (nI x2) (nI c) w2 W e qa ka es e1 e2 e3 fq (fun _ => none) lf' i1 i2 1 61 hf hqa ?_
        rw [nI_1]; exact ih lf' (c + 1) x2 (by omega) hx hn
      exact k_Ed_waysByJumps_68 X Post (nI x2) (nI c) y w2 W e qa ka es e1 e2 e3 fq (fun _ => none) lf i1 i2 1 61 hf hqa (fun _ => s80 lf) (fun _ => hv) (fun _ => hv2) (fun _ => hv) (fun _ => s80 _)
  have l47 : ∀ w2 k c (lf : Nat → Int64), k + c = 61 → zc_Ed_waysByJumps C Post 1 61 47 [(0, .ref e), (1, .ref w2), (2, .int (nI c))] [] ([(w2, .inl (C.1.2.2.2.1 1, 61, .inr (.inl lf)))] ++ W) := by
    intro w2 k
    induction k with
    | zero =>
      intro c lf hk
      have z : (60 : Int32) < nI c := (nI_ltI (a := 60) (b := c) (by decide) (by omega)).mpr (by omega)
      exact k_Ed_waysByJumps_47 X Post (nI c) w2 W e qa ka es e1 e2 e3 fq (fun _ => none) lf i1 i2 1 61 hf hqa (fun _ => ⟨by decide, by decide⟩) (fun _ => hq w2 lf) (fun n => absurd z n)
    | succ k ih =>
      intro c lf hk
      have z : ¬ (60 : Int32) < nI c := fun n => absurd ((nI_ltI (a := 60) (b := c) (by decide) (by omega)).mp n) (by omega)
      exact k_Ed_waysByJumps_47 X Post (nI c) w2 W e qa ka es e1 e2 e3 fq (fun _ => none) lf i1 i2 1 61 hf hqa (fun n => absurd n z) (fun n => absurd n z) (fun _ => l55 w2 lf 60 1 c rfl (by omega) (fun lf' => ih (c + 1) lf' (by omega)))
  have l7 : ∀ w2 k c (lf : Nat → Int64), k + c = 61 → zc_Ed_waysByJumps C Post 1 61 7 [(0, .ref e), (1, .ref w2), (2, .int (nI c))] [] ([(w2, .inl (C.1.2.2.2.1 1, 61, .inr (.inl lf)))] ++ W) := by
    intro w2 k
    induction k with
    | zero =>
      intro c lf hk
      have z : (60 : Int32) < nI c := (nI_ltI (a := 60) (b := c) (by decide) (by omega)).mpr (by omega)
      exact k_Ed_waysByJumps_7 X Post (P_35 := fun _ _ => True) (nI c) w2 W e qa ka es e1 e2 e3 fq (fun _ => none) lf i1 i2 1 61 hf hqa (fun _ => l47 w2 60 1 lf rfl) (fun n => absurd z n) (fun n => absurd z n) (fun n => absurd z n) (fun n => absurd z n) (fun n => absurd z n) (fun n => absurd z n)
    | succ k ih =>
      intro c lf hk
      have z : ¬ (60 : Int32) < nI c := fun n => absurd ((nI_ltI (a := 60) (b := c) (by decide) (by omega)).mp n) (by omega)
      have hv : vp_in (nI c) 61 := vi_n (by omega) (by decide)
      have s38 : ∀ y, zc_Ed_waysByJumps C Post 1 61 38 [(0, .ref e), (1, .ref w2), (2, .int (nI c))] [.long y, .int (nI c), .ref w2] ([(w2, .inl (C.1.2.2.2.1 1, 61, .inr (.inl lf)))] ++ W) := by
        intro y
        refine k_Ed_waysByJumps_38 X Post (nI c) y (nI c) w2 W e qa ka es e1 e2 e3 fq (fun _ => none) lf i1 i2 1 61 hf hqa hv ?_
        rw [nI_1]; exact ih (c + 1) _ (by omega)
      refine k_Ed_waysByJumps_7 X Post (P_35 := fun _ t => t = [(w2, .inl (C.1.2.2.2.1 1, 61, .inr (.inl lf)))] ++ W) (nI c) w2 W e qa ka es e1 e2 e3 fq (fun _ => none) lf i1 i2 1 61 hf hqa (fun n => absurd n z) (fun _ => hv) (fun _ _ => hv) (fun _ _ => ⟨by decide, by decide⟩) (fun _ n => ?_) (fun _ _ y u hu => ?_) (fun _ _ => s38 0)
      · cases ea : fq (nI c).toNatClampNeg with
        | none => exact absurd ea n
        | some a => exact d_targetsOf _ e a _ fq (h.mono Sub.cons) ((hQ _ a ea).mono Sub.cons) _ (fun _ => rfl)
      · subst hu; exact s38 y
  exact k_Ed_waysByJumps_0 X Post W e qa ka es e1 e2 e3 fq (fun _ => none) (fun _ => 0) i1 i2 0 0 hf hqa ⟨by decide, by decide⟩ (fun w2 => l7 w2 60 1 _ rfl)
