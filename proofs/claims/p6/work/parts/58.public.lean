-- sign, answer, priority, word
-- no address lies twice in the world
theorem d_sign (T : ST) (S : ES) (f : FT) (r : Nat → Nat → Option Nat) (c L : Nat) (x : Int32) (g : GT) (rr : Nat → Nat → Option Nat) (fc : FT) (gc : GT) (P : va_W) (h : CF S T.2.2.2.1 L f r c g rr fc P) (hlt : T.1.stackTraces = false) (bs : Int64) (v : Int32) : xI T y_Q_sign (Cond.code y_Q_sign b_Q_sign 5 (some .int)) 1 1 6 [.ref (ad T 24), .long bs, .int v] (WX T f r c L x g rr fc gc P) (fun y u => ∃ n, v = nI n ∧ 1 ≤ n ∧ n ≤ 8 ∧ L + n ≤ 400 ∧ y = nI (L + n) ∧ CW (S.1, S.2.1, S.2.2.1, S.2.2.2.1, sgL bs n L S.2.2.2.2) T (L + n) u) (fun E u => (E = IAE ∧ (v < 1 ∨ ¬ v ≤ 8) ∨ E = ISE ∧ ∃ n, v = nI n ∧ 1 ≤ n ∧ n ≤ 8 ∧ ¬ L + n ≤ 400) ∧ CW S T L u) := by
  refine e_Q_sign T hlt _ _ bs v f r c (tsX L x) g rr fc gc P ?_
  rintro C rfl X
  have s11 : (v < 1 ∨ ¬ v ≤ 8) → zc_Q_sign C (fun y u => ∃ n, v = nI n ∧ 1 ≤ n ∧ n ≤ 8 ∧ L + n ≤ 400 ∧ y = nI (L + n) ∧ CW (S.1, S.2.1, S.2.2.1, S.2.2.2.1, sgL bs n L S.2.2.2.2) C.1 (L + n) u) (fun E u => (E = IAE ∧ (v < 1 ∨ ¬ v ≤ 8) ∨ E = ISE ∧ ∃ n, v = nI n ∧ 1 ≤ n ∧ n ≤ 8 ∧ ¬ L + n ≤ 400) ∧ CW S C.1 L u) 0 0 11 [(0, .ref (ad C.1 24)), (1, .long bs), (3, .int v)] [] (WX C.1 f r c L x g rr fc gc P) := fun z => k_Q_sign_11 X _ _ bs v f r c (tsX L x) g rr fc gc P 0 0 ⟨by decide, by decide⟩ ⟨Or.inl ⟨rfl, z⟩, CW.of h⟩
  have loop : ∀ n, v = nI n → 1 ≤ n → n ≤ 8 → L + n ≤ 400 → ∀ k i g1, k + i = n → sgL bs k (L + i) (g1 0) = sgL bs n L S.2.2.2.2 → zc_Q_sign C (fun y u => ∃ n, v = nI n ∧ 1 ≤ n ∧ n ≤ 8 ∧ L + n ≤ 400 ∧ y = nI (L + n) ∧ CW (S.1, S.2.1, S.2.2.1, S.2.2.2.1, sgL bs n L S.2.2.2.2) C.1 (L + n) u) (fun E u => (E = IAE ∧ (v < 1 ∨ ¬ v ≤ 8) ∨ E = ISE ∧ ∃ n, v = nI n ∧ 1 ≤ n ∧ n ≤ 8 ∧ ¬ L + n ≤ 400) ∧ CW S C.1 L u) 0 0 51 [(0, .ref (ad C.1 24)), (1, .long bs), (3, .int v), (4, .int (nI k - 1))] [] (WX C.1 f r c (L + i) x g1 rr fc gc P) := by
    intro n hn h1 h2 h3 k
    induction k with
    | zero =>
      intro i g1 hk hg
      have hi : i = n := by omega
      subst hi
      have z : nI 0 - 1 < (0 : Int32) := by decide +kernel
      exact k_Q_sign_51 X _ _ (P_72 := fun _ => True) bs v (nI 0 - 1) f r c (tsX (L + i) x) g1 rr fc gc P 0 0 (fun _ => ⟨by decide, by decide⟩) (fun _ => ⟨i, hn, h1, h2, h3, rfl, CW.of ⟨h3, h.2.1, h.2.2.1, h.2.2.2.1, h.2.2.2.2.1, h.2.2.2.2.2.1, h.2.2.2.2.2.2.1, h.2.2.2.2.2.2.2.1, h.2.2.2.2.2.2.2.2.1, h.2.2.2.2.2.2.2.2.2.1, hg⟩⟩) (fun q => absurd z q) (fun q => absurd z q) (fun q => absurd z q)
    | succ k ih =>
      intro i g1 hk hg
      have z : ¬ nI (k + 1) - 1 < (0 : Int32) := by rw [nI_pred]; exact nI_pos (by omega)
      refine k_Q_sign_51 X _ _ (P_72 := fun u => ∃ g2, g2 0 = upd (g1 0) (L + i) (sgB bs k) ∧ u = TX C.1 (L + i + 1) x g2) bs v (nI (k + 1) - 1) f r c (tsX (L + i) x) g1 rr fc gc P 0 0 (fun q => absurd q z) (fun q => absurd q z) (fun _ => ⟨by decide, by decide⟩) (fun _ => ?_) ?_
      · rw [nI_pred, sgB_eq bs k (by omega)]
        exact d_add _ _ (L + i) x g1 (by omega) _ ⟨_, up_same _ _ _, rfl⟩
      rintro _ u ⟨g2, hg2, rfl⟩
      refine k_Q_sign_75 X _ _ bs v (nI (k + 1) - 1) f r c (tsX (L + i + 1) x) g2 rr fc gc P 0 0 ?_
      rw [nI_pred, show nI k + (-1) = nI k - 1 from (Int32.sub_eq_add_neg _ _).symm]
      exact ih (i + 1) g2 (by omega) (by rw [hg2]; exact hg)
  refine k_Q_sign_0 X _ _ bs v f r c (tsX L x) g rr fc gc P 0 0 (fun z => s11 (Or.inl z)) (fun z1 z2 z3 => ?_) (fun _ _ _ => ⟨by decide, by decide⟩) (fun z1 z2 z3 => ?_) (fun _ z => s11 (Or.inr z))
  · obtain ⟨n, rfl, h1, h2⟩ := x_rng (M := 8) (by decide) z1 z2
    have z3 : nI L + nI n ≤ nI 400 := z3
    have hL := h.1
    rw [nI_add, nI_leI (by omega) (by decide)] at z3
    exact loop n rfl h1 h2 z3 n 0 g rfl (by rw [h.2.2.2.2.2.2.2.2.2.2]; rfl)
  · obtain ⟨n, rfl, h1, h2⟩ := x_rng (M := 8) (by decide) z1 z2
    have z3 : ¬ nI L + nI n ≤ nI 400 := z3
    have hL := h.1
    rw [nI_add, nI_leI (by omega) (by decide)] at z3
    exact ⟨Or.inr ⟨rfl, n, rfl, h1, h2, z3⟩, CW.of h⟩
theorem d_priority (T : ST) (S : ES) (f : FT) (r : Nat → Nat → Option Nat) (c L : Nat) (x : Int32) (g : GT) (rr : Nat → Nat → Option Nat) (fc : FT) (gc : GT) (P : va_W) (h : CF S T.2.2.2.1 L f r c g rr fc P) (hlt : T.1.stackTraces = false) : xI T y_Q_priority (Cond.code y_Q_priority b_Q_priority 2 (some .int)) 5 1 6 [.ref (ad T 24)] (WX T f r c L x g rr fc gc P) (fun _ u => CW S T L u) (fun E u => E = ISE ∧ CW S T L u) := by
  obtain ⟨qa, ka, es, e1, e2, e3, fq, fk, h1, h2, h3, h4, h5⟩ := h.2.2.1
  obtain ⟨i1, hf⟩ := List.getElem?_of_mem h1
  refine e_Q_priority T hlt _ _ f r c (tsX L x) g rr fc gc P qa ka es e1 e2 e3 ?_
  rintro C rfl X
  refine k_Q_priority_0 X _ _ (P_11 := fun y u => (∀ a, y = some a → isKi C.1.2.2.2.1 P a) ∧ u = WX C.1 f r c L x g rr fc gc P) f r c (tsX L x) g rr fc gc P qa ka es e1 e2 e3 i1 0 0 hf ⟨by decide, by decide⟩ (d_kindAt _ c _ _ fk ⟨qa, ka, es, e1, e2, e3, subW _ h1, subW _ h3⟩ _ (fun y hy => ⟨fun a ea => ?_, rfl⟩)) ?_
  · rcases hy with ⟨rfl, -⟩ | ⟨j, -, -, -, rfl⟩
    · cases ea
    · exact h5 j a ea
  rintro y u ⟨hy, rfl⟩
  refine k_Q_priority_14 X _ _ (P_34 := fun _ u => u = CX C.1 fc gc ++ P) y f r c (tsX L x) g rr fc gc P qa ka es e1 e2 e3 i1 0 0 hf (fun hn => ?_) (fun _ _ _ _ _ _ _ _ => ⟨by decide, by decide⟩) (fun _ a _ _ _ _ ea _ => d_priorityOf _ a fc gc P (hy a ea) _ (fun _ => rfl)) ?_ (fun _ => ⟨by decide, by decide⟩) (fun _ => ⟨rfl, CW.of h⟩)
  · cases y with
    | none => exact absurd rfl hn
    | some a =>
      obtain ⟨y1, y2, y3, xs, w9, g1, -⟩ := hy a rfl
      obtain ⟨i, hi⟩ := List.getElem?_of_mem g1
      exact ⟨a, i, y1, y2, y3, rfl, hi⟩
  · rintro _ a _ _ _ _ _ _ n u rfl
    refine zW_perm (wp1 _ _ _ _ _) ?_
    exact k_Q_priority_37 X _ _ y n f r c (tsX L x) g rr fc gc P qa ka es e1 e2 e3 i1 0 0 hf ⟨by decide, by decide⟩ (CW.of h)
theorem d_answer (T : ST) (S : ES) (f : FT) (r : Nat → Nat → Option Nat) (c L : Nat) (x : Int32) (g : GT) (rr : Nat → Nat → Option Nat) (fc : FT) (gc : GT) (P : va_W) (h : CF S T.2.2.2.1 L f r c g rr fc P) (hlt : T.1.stackTraces = false) (v : Int32) : xI T y_Q_answer (Cond.code y_Q_answer b_Q_answer 5 (some .int)) 4 1 6 [.ref (ad T 24), .int v] (WX T f r c L x g rr fc gc P) (fun _ u => CW S T L u) (fun E u => (E = IAE ∨ E = ISE) ∧ CW S T L u) := by
  obtain ⟨qa, ka, es, e1, e2, e3, fq, fk, h1, h2, h3, h4, h5⟩ := h.2.2.1
  obtain ⟨i1, hf⟩ := List.getElem?_of_mem h1
  refine e_Q_answer T hlt _ _ v f r c (tsX L x) g rr fc gc P qa ka es e1 e2 e3 ?_
  rintro C rfl X
  refine k_Q_answer_0 X _ _ (P_11 := fun y u => (∀ a, y = some a → isQu C.1.2.2.2.1 P a ∧ vp_in (fc 1) 61) ∧ u = WX C.1 f r c L x g rr fc gc P) v f r c (tsX L x) g rr fc gc P qa ka es e1 e2 e3 i1 0 0 hf ⟨by decide, by decide⟩ (d_questionAt _ c _ _ fq ⟨qa, ka, es, e1, e2, e3, subW _ h1, subW _ h2⟩ _ (fun y hy => ⟨fun a ea => ?_, rfl⟩)) ?_
  · rcases hy with ⟨rfl, -⟩ | ⟨j, ej, g1, g2, rfl⟩
    · cases ea
    · exact ⟨h4 j a ea, by rw [ej]; exact vi_n (by omega) (by decide)⟩
  rintro y u ⟨hy, rfl⟩
  have der : ¬ y = none → ∃ (a i : Nat) (u0 : Int32) (u1 u2 u3 u4 u5 : Nat), y = some a ∧ P[i]? = some (a, .inr (6, [.int u0, .ref u1, .ref u2, .ref u3, .ref u4, .ref u5])) := by
    intro hn
    cases y with
    | none => exact absurd rfl hn
    | some a =>
      obtain ⟨mu, sp, wa, wb, l, jx, xs, w, g1, -⟩ := (hy a rfl).1
      obtain ⟨i, hi⟩ := List.getElem?_of_mem g1
      exact ⟨a, i, mu, sp, wa, wb, l, jx, rfl, hi⟩
  refine k_Q_answer_14 X _ _ (P_31 := fun _ u => u = P) v y f r c (tsX L x) g rr fc gc P qa ka es e1 e2 e3 i1 0 0 hf der (fun _ _ _ _ _ _ _ _ _ _ _ => ⟨by decide, by decide⟩) (fun _ a _ _ _ _ _ _ _ ea _ => d_allows _ a v P (hy a ea).1 _ (fun _ _ => rfl)) ?_ (fun _ => ⟨by decide, by decide⟩) (fun _ => ⟨Or.inr rfl, CW.of h⟩)
  rintro hn a0 _ _ _ _ _ _ _ ea0 _ y2 u rfl
  refine zW_perm (wp3 _ _ _ _ _) ?_
  refine k_Q_answer_34 X _ _ (P_49 := fun y3 t => ∃ j, y3 = some j ∧ isJu u j ∧ t = u) v y y2 f r c (tsX L x) g rr fc gc u qa ka es e1 e2 e3 i1 0 0 hf (fun _ => der hn) (fun _ _ _ _ _ _ _ _ _ _ _ => ⟨by decide, by decide⟩) (fun _ a _ _ _ _ _ _ _ ea _ => d_jumpFor _ a v u (hy a ea).1 _ (fun j hj => ⟨j, rfl, hj, rfl⟩)) ?_ (fun _ => ⟨by decide, by decide⟩) (fun _ => ⟨Or.inl rfl, CW.of h⟩)
  rintro _ a1 _ _ _ _ _ _ _ ea1 _ y3 t ⟨j, rfl, hj, rfl⟩
  have hnow := (hy a0 ea0).2
  obtain ⟨sj, t0, p0, g1, -⟩ := hj
  obtain ⟨i2, hj2⟩ := List.getElem?_of_mem g1
  refine zW_perm (wp3 _ _ _ _ _) ?_
  refine k_Q_answer_52 X _ _ (P_61 := fun _ u => u = WX C.1 f r c L x g rr fc gc t) v y j f r c (tsX L x) g rr fc gc t qa ka es e1 e2 e3 sj t0 p0 i1 i2 0 0 hf hj2 ⟨by decide, by decide⟩ (d_asNext _ c _ _ fq ⟨qa, ka, es, e1, e2, e3, subW _ h1, subW _ h2⟩ _ (fun _ _ => rfl)) ?_
  rintro n u rfl
  have s93 : zc_Q_answer C (fun _ u => CW S C.1 L u) (fun E u => (E = IAE ∨ E = ISE) ∧ CW S C.1 L u) 0 0 93 [(0, .ref (ad C.1 24)), (1, .int v), (2, va_rf y), (3, .ref j), (4, .int n)] [] (WX C.1 f r c L x g rr fc gc t) := by
    refine k_Q_answer_93 X _ _ (P_131 := fun u => ∃ (f2 : FT) (g2 : GT), Bd 40 (f2 0) ∧ f2 3 = fc 3 ∧ u = CX C.1 f2 g2) v y j n f r c (tsX L x) g rr fc gc t qa ka es e1 e2 e3 sj t0 p0 i1 i2 0 0 hf hj2 hnow ⟨by decide, by decide⟩ (d_ask _ n (va_up fc 2 (fc 2 + p0)) _ h.2.2.2.2.1 _ (fun f2 g2 hb _ _ h3 => ⟨f2, g2, hb, h3.trans (up_other _ _ (by decide)), rfl⟩)) ?_
    rintro u ⟨f2, g2, hb, hb3, rfl⟩
    refine zW_perm (wp1 _ _ _ _ _) ?_
    exact k_Q_answer_134 X _ _ v y j n f r c (tsX L x) g rr f2 g2 t qa ka es e1 e2 e3 i1 0 0 hf ⟨by decide, by decide⟩ (CW.of ⟨h.1, h.2.1, h.2.2.1, h.2.2.2.1, hb, h.2.2.2.2.2.1, h.2.2.2.2.2.2.1, h.2.2.2.2.2.2.2.1, h.2.2.2.2.2.2.2.2.1, hb3.trans h.2.2.2.2.2.2.2.2.2.1, h.2.2.2.2.2.2.2.2.2.2⟩)
  exact k_Q_answer_64 X _ _ v y j n f r c (tsX L x) g rr fc gc t qa ka es e1 e2 e3 sj t0 p0 i1 i2 0 0 hf hj2 (fun _ => s93) (fun _ _ => s93) (fun _ _ => ⟨by decide, by decide⟩) (fun _ _ => ⟨Or.inr rfl, CW.of h⟩)
theorem d_word (T : ST) (S : ES) (f : FT) (r : Nat → Nat → Option Nat) (c L : Nat) (x : Int32) (g : GT) (rr : Nat → Nat → Option Nat) (fc : FT) (gc : GT) (P : va_W) (h : CF S T.2.2.2.1 L f r c g rr fc P) (hlt : T.1.stackTraces = false) (v1 v2 v3 : Int32) : xI T y_Q_word (Cond.code y_Q_word b_Q_word 6 (some .int)) 1 1 6 [.ref (ad T 24), .int v1, .int v2, .int v3] (WX T f r c L x g rr fc gc P) (fun _ u => CW S T L u) (fun E u => E = IAE ∧ CW S T L u) := by
  obtain ⟨qa, ka, es, e1, e2, e3, fq, fk, h1, h2, h3, h4, h5⟩ := h.2.2.1
  obtain ⟨i1, hf⟩ := List.getElem?_of_mem h1
  refine e_Q_word T hlt _ _ v1 v2 v3 f r c (tsX L x) g rr fc gc P qa ka es e1 e2 e3 ?_
  rintro C rfl X
  refine k_Q_word_0 X _ _ (P_5 := fun y u => (∀ a, y = some a → isQu C.1.2.2.2.1 P a) ∧ u = WX C.1 f r c L x g rr fc gc P) v1 v2 v3 f r c (tsX L x) g rr fc gc P qa ka es e1 e2 e3 i1 0 0 hf ⟨by decide, by decide⟩ (d_questionAt _ c _ _ fq ⟨qa, ka, es, e1, e2, e3, subW _ h1, subW _ h2⟩ _ (fun y hy => ⟨fun a ea => ?_, rfl⟩)) ?_
  · rcases hy with ⟨rfl, -⟩ | ⟨j, ej, g1, g2, rfl⟩
    · cases ea
    · exact h4 j a ea
  rintro y u ⟨hy, rfl⟩
  have s28 : zc_Q_word C (fun _ u => CW S C.1 L u) (fun E u => E = IAE ∧ CW S C.1 L u) 0 0 28 [(0, .ref (ad C.1 24)), (1, .int v1), (2, .int v2), (3, .int v3), (4, va_rf y)] [] (WX C.1 f r c L x g rr fc gc P) := k_Q_word_28 X _ _ v1 v2 v3 y f r c (tsX L x) g rr fc gc P qa ka es e1 e2 e3 i1 0 0 hf ⟨by decide, by decide⟩ ⟨rfl, CW.of h⟩
  have der : ¬ y = none → ∃ (a i : Nat) (u0 : Int32) (u1 u2 u3 u4 u5 : Nat), y = some a ∧ P[i]? = some (a, .inr (6, [.int u0, .ref u1, .ref u2, .ref u3, .ref u4, .ref u5])) ∧ isWd C.1.2.2.2.1 P u2 ∧ isWd C.1.2.2.2.1 P u3 := by
    intro hn
    cases y with
    | none => exact absurd rfl hn
    | some a =>
      obtain ⟨mu, sp, wa, wb, l, jx, xs, w, g1, -, -, g4, g5, -⟩ := hy a rfl
      obtain ⟨i, hi⟩ := List.getElem?_of_mem g1
      exact ⟨a, i, mu, sp, wa, wb, l, jx, rfl, hi, g4, g5⟩
  have s72 : ∀ w n, zc_Q_word C (fun _ u => CW S C.1 L u) (fun E u => E = IAE ∧ CW S C.1 L u) 0 0 72 [(0, .ref (ad C.1 24)), (1, .int v1), (2, .int v2), (3, .int v3), (4, va_rf y), (5, .ref w)] [.int n] (WX C.1 f r c L x g rr fc gc P) := fun w n => k_Q_word_72 X _ _ v1 v2 v3 y w n f r c (tsX L x) g rr fc gc P qa ka es e1 e2 e3 i1 0 0 hf ⟨by decide, by decide⟩ (CW.of h)
  have s55 : ∀ w, isWd C.1.2.2.2.1 P w → 0 ≤ v3 → zc_Q_word C (fun _ u => CW S C.1 L u) (fun E u => E = IAE ∧ CW S C.1 L u) 0 0 55 [(0, .ref (ad C.1 24)), (1, .int v1), (2, .int v2), (3, .int v3), (4, va_rf y)] [.ref w] (WX C.1 f r c L x g rr fc gc P) := by
    rintro w ⟨nw, fw, g1, g2, g3⟩ z
    obtain ⟨i2, hw⟩ := List.getElem?_of_mem g1
    refine k_Q_word_55 X _ _ v1 v2 v3 y w f r c (tsX L x) g rr fc gc P qa ka es e1 e2 e3 nw fw i1 i2 0 0 hf hw (fun _ => s72 w _) (fun q => ?_) (fun _ => s72 w _)
    obtain ⟨j, hj, rfl⟩ := nI_of (x := v3) (fun n => absurd z (by rw [Int32.not_le]; exact n))
    rw [nI_leI (by omega) hj] at q
    exact vi_n (by omega) (by omega)
  refine zW_D (fun hu => ?_)
  refine k_Q_word_8 X _ _ v1 v2 v3 y f r c (tsX L x) g rr fc gc P qa ka es e1 e2 e3 i1 0 0 hf (fun _ => s28) (fun _ _ => s28) (fun _ _ _ => s28) (fun hn _ _ _ _ => ?_) (fun hn _ _ z _ a i u0 u1 u2 u3 u4 u5 ea hi => s55 u3 ?_ z) (fun hn _ _ _ _ => ?_) (fun hn _ _ z _ a i u0 u1 u2 u3 u4 u5 ea hi => s55 u2 ?_ z) (fun _ _ _ _ => s28)
  · obtain ⟨a, i, u0, u1, u2, u3, u4, u5, ea, hi, -⟩ := der hn
    exact ⟨a, i, u0, u1, u2, u3, u4, u5, ea, hi⟩
  · obtain ⟨a', i', t0, t1, t2, t3, t4, t5, ea', hi', g4, g5⟩ := der hn
    rw [ea] at ea'; cases ea'
    have q := hu a _ _ (subW _ (List.mem_of_getElem? hi)) (subW _ (List.mem_of_getElem? hi'))
    cases q; exact g5
  · obtain ⟨a, i, u0, u1, u2, u3, u4, u5, ea, hi, -⟩ := der hn
    exact ⟨a, i, u0, u1, u2, u3, u4, u5, ea, hi⟩
  · obtain ⟨a', i', t0, t1, t2, t3, t4, t5, ea', hi', g4, g5⟩ := der hn
    rw [ea] at ea'; cases ea'
    have q := hu a _ _ (subW _ (List.mem_of_getElem? hi)) (subW _ (List.mem_of_getElem? hi'))
    cases q; exact g4
