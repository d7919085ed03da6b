-- sign, answer, priority, word
-- no address lies twice in the world
theorem d_sign (T : ST) (S : ES) (f : FT) (r : Nat → Nat → Option Nat) (c L : Nat) (x : Int32) (g : GT) (rr : Nat → Nat → Option Nat) (fc : FT) (gc : GT) (P : va_W) (h : CF S T.2.2.2.1 L f r c g rr fc gc P) (hlt : T.1.stackTraces = false) (bs : Int64) (v : Int32) : xI T y_Q_sign (Cond.code y_Q_sign b_Q_sign 5 (some .int)) 1 1 6 [.ref (ad T 24), .long bs, .int v] (WX T f r c L x g rr fc gc P) (fun y u => ∃ n, v = nI n ∧ 1 ≤ n ∧ n ≤ 8 ∧ L + n ≤ 400 ∧ y = nI (L + n) ∧ CW (S.1, S.2.1, S.2.2.1, S.2.2.2.1, sgL bs n L S.2.2.2.2) T (L + n) u) (fun E u => (E = IAE ∧ (v < 1 ∨ ¬ v ≤ 8) ∨ E = ISE ∧ ∃ n, v = nI n ∧ 1 ≤ n ∧ n ≤ 8 ∧ ¬ L + n ≤ 400) ∧ CW S T L u) := by
  refine e_Q_sign T hlt _ _ bs v f r c (tsX L x) g rr fc gc P ?_
  rintro C rfl X
  have s11 : (v < 1 ∨ ¬ v ≤ 8) → zc_Q_sign C (fun y u => ∃ n, v = nI n ∧ 1 ≤ n ∧ n ≤ 8 ∧ L + n ≤ 400 ∧ y = nI (L + n) ∧ CW (S.1, S.2.1, S.2.2.1, S.2.2.2.1, sgL bs n L S.2.2.2.2) C.1 (L + n) u) (fun E u => (E = IAE ∧ (v < 1 ∨ ¬ v ≤ 8) ∨ E = ISE ∧ ∃ n, v = nI n ∧ 1 ≤ n ∧ n ≤ 8 ∧ ¬ L + n ≤ 400) ∧ CW S C.1 L u) 0 0 11 [(0, .ref (ad C.1 24)), (1, .long bs), (3, .int v)] [] (WX C.1 f r c L x g rr fc gc P) := fun z => k_Q_sign_11 X _ _ bs v f r c (tsX L x) g rr fc gc P 0 0 ⟨by decide, by decide⟩ ⟨Or.inl ⟨rfl, z⟩, CW.of h⟩
  have loop : ∀ n, v = nI n → 1 ≤ n → n ≤ 8 → L + n ≤ 400 → ∀ k i g1, k + i = n → sgL bs k (L + i) (g1 0) = sgL bs n L S.2.2.2.2 → zc_Q_sign C (fun y u => ∃ n, v = nI n ∧ 1 ≤ n ∧ n ≤ 8 ∧ L + n ≤ 400 ∧ y = nI (L + n) ∧ CW (S.1, S.2.1, S.2.2.1, S.2.2.2.1, sgL bs n L S.2.2.2.2) C.1 (L + n) u) (fun E u => (E = IAE ∧ (v < 1 ∨ ¬ v ≤ 8) ∨ E = ISE ∧ ∃ n, v = nI n ∧ 1 ≤ n ∧ n ≤ 8 ∧ ¬ L + n ≤ 400) ∧ CW S C.1 L u) 0 0 51 [(0, .ref (ad C.1 24)), (1, .long bs), (3, .int v), (4, .int (nI k - 1))] [] (WX C.1 f r c (L + i) x g1 rr fc gc P) := by
    intro n hn h1 h2 h3 k
    induction k with
    | zero =>
      intro i g1 hk hg
      have hi : i = n := by omega
      subst hi
      have z : nI 0 - 1 < (0 : Int32) := by decide +kernel
      exact k_Q_sign_51 X _ _ (P_72 := fun _ => True) bs v (nI 0 - 1) f r c (tsX (L + i) x) g1 rr fc gc P 0 0 (fun _ => ⟨by decide, by decide⟩) (fun _ => ⟨i, hn, h1, h2, h3, rfl, CW.of ⟨h3, h.2.1, h.2.2.1, h.2.2.2.1, h.2.2.2.2.1, h.2.2.2.2.2.1, h.2.2.2.2.2.2.1, h.2.2.2.2.2.2.2.1, h.2.2.2.2.2.2.2.2.1, h.2.2.2.2.2.2.2.2.2.1, hg⟩⟩) (fun q => absurd z q) (fun q => absurd z q) (fun q => absurd z q)
    | succ k ih =>
      intro i g1 hk hg
      have z : ¬ nI (k + 1) - 1 < (0 : Int32) := by rw [nI_pred]; exact nI_pos (by omega)
      refine k_Q_sign_51 X _ _ (P_72 := fun u => ∃ g2, g2 0 = upd (g1 0) (L + i) (sgB bs k) ∧ u = TX C.1 (L + i + 1) x g2) bs v (nI (k + 1) - 1) f r c (tsX (L + i) x) g1 rr fc gc P 0 0 (fun q => absurd q z) (fun q => absurd q z) (fun _ => ⟨by decide, by decide⟩) (fun _ => ?_) ?_
      · rw [nI_pred, sgB_eq bs k (by omega)]
        exact d_add _ _ (L + i) x g1 (by omega) _ ⟨_, up_same _ _ _, rfl⟩
      rintro _ u ⟨g2, hg2, rfl⟩
      refine k_Q_sign_75 X _ _ bs v (nI (k + 1) - 1) f r c (tsX (L + i + 1) x) g2 rr fc gc P 0 0 ?_
      rw [nI_pred, show nI k + (-1) = nI k - 1 from (Int32.sub_eq_add_neg _ _).symm]
      exact ih (i + 1) g2 (by omega) (by rw [hg2]; exact hg)
  refine k_Q_sign_0 X _ _ bs v f r c (tsX L x) g rr fc gc P 0 0 (fun z => s11 (Or.inl z)) (fun z1 z2 z3 => ?_) (fun _ _ _ => ⟨by decide, by decide⟩) (fun z1 z2 z3 => ?_) (fun _ z => s11 (Or.inr z))
  · obtain ⟨n, rfl, h1, h2⟩ := x_rng (M := 8) (by decide) z1 z2
    have z3 : nI L + nI n ≤ nI 400 := z3
    have hL := h.1
    rw [nI_add, nI_leI (by omega) (by decide)] at z3
    exact loop n rfl h1 h2 z3 n 0 g rfl (by rw [h.2.2.2.2.2.2.2.2.2.2]; rfl)
  · obtain ⟨n, rfl, h1, h2⟩ := x_rng (M := 8) (by decide) z1 z2
    have z3 : ¬ nI L + nI n ≤ nI 400 := z3
    have hL := h.1
    rw [nI_add, nI_leI (by omega) (by decide)] at z3
    exact ⟨Or.inr ⟨rfl, n, rfl, h1, h2, z3⟩, CW.of h⟩
theorem d_priority (T : ST) (S : ES) (f : FT) (r : Nat → Nat → Option Nat) (c L : Nat) (x : Int32) (g : GT) (rr : Nat → Nat → Option Nat) (fc : FT) (gc : GT) (P : va_W) (h : CF S T.2.2.2.1 L f r c g rr fc gc P) (hlt : T.1.stackTraces = false) : xI T y_Q_priority (Cond.code y_Q_priority b_Q_priority 2 (some .int)) 5 1 6 [.ref (ad T 24)] (WX T f r c L x g rr fc gc P) (fun _ u => CW S T L u) (fun E u => E = ISE ∧ CW S T L u) := by
  obtain ⟨qa, ka, es, e1, e2, e3, fq, fk, h1, h2, h3, h4, h5⟩ := h.2.2.1
  obtain ⟨i1, hf⟩ := List.getElem?_of_mem h1
  refine e_Q_priority T hlt _ _ f r c (tsX L x) g rr fc gc P qa ka es e1 e2 e3 ?_
  rintro C rfl X
  refine k_Q_priority_0 X _ _ (P_11 := fun y u => (∀ a, y = some a → isKi C.1.2.2.2.1 P a) ∧ u = WX C.1 f r c L x g rr fc gc P) f r c (tsX L x) g rr fc gc P qa ka es e1 e2 e3 i1 0 0 hf ⟨by decide, by decide⟩ (d_kindAt _ c _ _ fk ⟨qa, ka, es, e1, e2, e3, subW _ h1, subW _ h3⟩ _ (fun y hy => ⟨fun a ea => ?_, rfl⟩)) ?_
  · rcases hy with ⟨rfl, -⟩ | ⟨j, -, -, -, rfl⟩
    · cases ea
    · exact h5 j a ea
  rintro y u ⟨hy, rfl⟩
  refine k_Q_priority_14 X _ _ (P_34 := fun _ u => u = CX C.1 fc gc ++ P) y f r c (tsX L x) g rr fc gc P qa ka es e1 e2 e3 i1 0 0 hf (fun hn => ?_) (fun _ _ _ _ _ _ _ _ => ⟨by decide, by decide⟩) (fun _ a _ _ _ _ ea _ => d_priorityOf _ a fc gc P (hy a ea) _ (fun _ => rfl)) ?_ (fun _ => ⟨by decide, by decide⟩) (fun _ => ⟨rfl, CW.of h⟩)
  · cases y with
    | none => exact absurd rfl hn
    | some a =>
      obtain ⟨y1, y2, y3, xs, w9, g1, -⟩ := hy a rfl
      obtain ⟨i, hi⟩ := List.getElem?_of_mem g1
      exact ⟨a, i, y1, y2, y3, rfl, hi⟩
  · rintro _ a _ _ _ _ _ _ n u rfl
    refine zW_perm (wp1 _ _ _ _ _) ?_
    exact k_Q_priority_37 X _ _ y n f r c (tsX L x) g rr fc gc P qa ka es e1 e2 e3 i1 0 0 hf ⟨by decide, by decide⟩ (CW.of h)
-- answer, exactly
def anNo (S : ES) : Prop := (S.2.2.2.1.2.2.1 < 1 ∨ ¬ S.2.2.2.1.2.2.1 ≤ 60) ∨ ∃ q, S.2.2.2.1.2.2.1 = nI q ∧ 1 ≤ q ∧ q ≤ 60 ∧ (S.1 S.2.2.1).1 q = none
def anQ (S : ES) (q : Nat) (d : QD) : Prop := S.2.2.2.1.2.2.1 = nI q ∧ 1 ≤ q ∧ q ≤ 60 ∧ (S.1 S.2.2.1).1 q = some d
def anN (S : ES) (d : QD) (v : Int32) : Int32 := nxV (S.1 S.2.2.1) (jmpV d v).2.2.1
def anS (S : ES) (d : QD) (v : Int32) : ES := (S.1, S.2.1, S.2.2.1, kAn S.2.2.2.1 v (anN S d v) (jmpV d v).2.2.2, S.2.2.2.2)
theorem KS_an {fc f2 : FT} {gc g2 : GT} {K : KC} {v n p : Int32} {q : Nat} (hk : KS fc gc K) (hlt : ¬ n = 0 → K.2.1 < 40) (hq : K.2.2.1 = nI q) (hq2 : q ≤ 60) (a1 : f2 1 = n) (a2 : f2 2 = fc 2 + p) (a3 : f2 3 = fc 3) (a4 : g2 1 = upd (gc 1) (fc 1).toNatClampNeg v) (a5 : (n = 0 ∨ 40 ≤ fc 0) → f2 0 = fc 0 ∧ g2 0 = gc 0) (a6 : ¬ n = 0 → ¬ 40 ≤ fc 0 → f2 0 = fc 0 + 1 ∧ g2 0 = upd (gc 0) (fc 0).toNatClampNeg n) : KS f2 g2 (kAn K v n p) ∧ Bd 40 (f2 0) := by
  obtain ⟨k1, k2, k3, k4, k5⟩ := hk
  have hl : ¬ K.1 = 0 → ∀ j, 1 ≤ j → j < 61 → g2 1 j = upd K.2.2.2.2.2 K.2.2.1.toNatClampNeg v j := by
    intro hn j j1 j2
    rw [a4, k3]
    unfold upd
    split
    · rfl
    · exact (k5 hn).2.2 j j1 j2
  by_cases c : n = 0
  · obtain ⟨e1, e2⟩ := a5 (Or.inl c)
    refine ⟨⟨a3.trans k1, ?_, a1, ?_, fun hn => ⟨?_, fun j hj => ?_, hl hn⟩⟩, ⟨K.2.1, e1.trans k2, k4⟩⟩
    · show f2 0 = nI (if n = 0 then K.2.1 else K.2.1 + 1)
      rw [if_pos c, e1]; exact k2
    · show (if n = 0 then K.2.1 else K.2.1 + 1) ≤ 40
      rw [if_pos c]; exact k4
    · show f2 2 = K.2.2.2.1 + p
      rw [a2, (k5 hn).1]
    · have hj : j < (if n = 0 then K.2.1 else K.2.1 + 1) := hj
      rw [if_pos c] at hj
      show g2 0 j = (if n = 0 then K.2.2.2.2.1 else upd K.2.2.2.2.1 K.2.1 n) j
      rw [if_pos c, e2]; exact (k5 hn).2.1 j hj
  · have hl40 := hlt c
    have z40 : ¬ (40 : Int32) ≤ fc 0 := by
      rw [k2]
      exact fun z => absurd ((nI_leI (a := 40) (b := K.2.1) (by decide) (by omega)).mp z) (by omega)
    obtain ⟨e1, e2⟩ := a6 c z40
    have e3 : f2 0 = nI (K.2.1 + 1) := by rw [e1, k2, nI_1]
    refine ⟨⟨a3.trans k1, ?_, a1, ?_, fun hn => ⟨?_, fun j hj => ?_, hl hn⟩⟩, ⟨K.2.1 + 1, e3, by omega⟩⟩
    · show f2 0 = nI (if n = 0 then K.2.1 else K.2.1 + 1)
      rw [if_neg c]; exact e3
    · show (if n = 0 then K.2.1 else K.2.1 + 1) ≤ 40
      rw [if_neg c]; omega
    · show f2 2 = K.2.2.2.1 + p
      rw [a2, (k5 hn).1]
    · have hj : j < (if n = 0 then K.2.1 else K.2.1 + 1) := hj
      rw [if_neg c] at hj
      show g2 0 j = (if n = 0 then K.2.2.2.2.1 else upd K.2.2.2.2.1 K.2.1 n) j
      rw [if_neg c, e2, k2, nI_clamp (by omega)]
      unfold upd
      split
      · rfl
      · exact (k5 hn).2.1 j (by omega)
theorem d_answer (T : ST) (S : ES) (f : FT) (r : Nat → Nat → Option Nat) (c L : Nat) (x : Int32) (g : GT) (rr : Nat → Nat → Option Nat) (fc : FT) (gc : GT) (P : va_W) (h : CF S T.2.2.2.1 L f r c g rr fc gc P) (hlt : T.1.stackTraces = false) (v : Int32) : xI T y_Q_answer (Cond.code y_Q_answer b_Q_answer 5 (some .int)) 4 1 6 [.ref (ad T 24), .int v] (WX T f r c L x g rr fc gc P) (fun y u => ∃ q d, anQ S q d ∧ ¬ alV d v = 0 ∧ (¬ anN S d v = 0 → S.2.2.2.1.2.1 < 40) ∧ y = anN S d v ∧ CW (anS S d v) T L u) (fun E u => ((E = ISE ∧ anNo S) ∨ (E = IAE ∧ ∃ q d, anQ S q d ∧ alV d v = 0) ∨ (E = ISE ∧ ∃ q d, anQ S q d ∧ ¬ alV d v = 0 ∧ ¬ anN S d v = 0 ∧ ¬ S.2.2.2.1.2.1 < 40)) ∧ CW S T L u) := by
  obtain ⟨qa, ka, es, e1, e2, e3, fq, fk, h1, h2, h3, h4, h5, h6⟩ := h.2.2.2.2.2.ch
  obtain ⟨i1, hf⟩ := List.getElem?_of_mem h1
  have hks := h.2.2.2.2.2.2.2.2.2.1
  refine e_Q_answer T hlt _ _ v f r c (tsX L x) g rr fc gc P qa ka es e1 e2 e3 ?_
  rintro C rfl X
  refine k_Q_answer_0 X _ _ (P_11 := fun y u => (y = none → anNo S) ∧ (∀ a, y = some a → ∃ q d, anQ S q d ∧ eQu C.1.2.2.2.1 P a d) ∧ u = WX C.1 f r c L x g rr fc gc P) v f r c (tsX L x) g rr fc gc P qa ka es e1 e2 e3 i1 0 0 hf ⟨by decide, by decide⟩ (d_questionAt _ c _ _ fq ⟨qa, ka, es, e1, e2, e3, subW _ h1, subW _ h2⟩ _ (fun y hy => ⟨fun ey => ?_, fun a ea => ?_, rfl⟩)) ?_
  · rcases hy with ⟨-, z⟩ | ⟨j, q1, q2, q3, rfl⟩
    · rw [hks.2.2.1] at z; exact Or.inl z
    · rcases h6.1.1 j q2 (by omega) with z | ⟨a, d', z1, z2, -⟩
      · exact Or.inr ⟨j, hks.2.2.1.symm.trans q1, q2, q3, z.2⟩
      · rw [ey] at z1; cases z1
  · rcases hy with ⟨rfl, -⟩ | ⟨j, q1, q2, q3, rfl⟩
    · cases ea
    · rcases h6.1.1 j q2 (by omega) with z | ⟨a', d, z1, z2, z3⟩
      · rw [z.1] at ea; cases ea
      · rw [z1] at ea; cases ea
        exact ⟨j, d, ⟨hks.2.2.1.symm.trans q1, q2, q3, z2⟩, z3⟩
  rintro y u ⟨hy0, hy, rfl⟩
  by_cases hn : y = none
  · exact k_Q_answer_14 X _ _ (P_31 := fun _ _ => True) v y f r c (tsX L x) g rr fc gc P qa ka es e1 e2 e3 i1 0 0 hf (fun n => absurd hn n) (fun n => absurd hn n) (fun n => absurd hn n) (fun n => absurd hn n) (fun _ => ⟨by decide, by decide⟩) (fun _ => ⟨Or.inl ⟨rfl, hy0 hn⟩, CW.of h⟩)
  obtain ⟨a, ea⟩ : ∃ a, y = some a := by
    cases y with
    | none => exact absurd rfl hn
    | some a => exact ⟨a, rfl⟩
  obtain ⟨q, d, hq, k5⟩ := hy a ea
  subst ea
  have der : ∃ (a' i : Nat) (u0 : Int32) (u1 u2 u3 u4 u5 : Nat), some a = some a' ∧ P[i]? = some (a', .inr (6, [.int u0, .ref u1, .ref u2, .ref u3, .ref u4, .ref u5])) := by
    obtain ⟨sp, wa, wb, l, jx, xs, w, g1, -⟩ := k5
    obtain ⟨i, hi⟩ := List.getElem?_of_mem g1
    exact ⟨a, i, d.1, sp, wa, wb, l, jx, rfl, hi⟩
  refine k_Q_answer_14 X _ _ (P_31 := fun y2 u => y2 = alV d v ∧ u = P) v (some a) f r c (tsX L x) g rr fc gc P qa ka es e1 e2 e3 i1 0 0 hf (fun _ => der) (fun _ _ _ _ _ _ _ _ _ _ _ => ⟨by decide, by decide⟩) (fun _ a' _ _ _ _ _ _ _ ea _ => by cases ea; exact d_allowsX _ a v P d k5 _ ⟨rfl, rfl⟩) ?_ (fun n => absurd n hn) (fun n => absurd n hn)
  rintro _ a0 _ _ _ _ _ _ _ ea0 _ y2 u ⟨rfl, hu⟩
  subst hu
  refine zW_perm (wp3 _ _ _ _ _) ?_
  refine k_Q_answer_34 X _ _ (P_49 := fun y3 t => ∃ j, y3 = some j ∧ eJu u j (jmpV d v) ∧ t = u) v (some a) (alV d v) f r c (tsX L x) g rr fc gc u qa ka es e1 e2 e3 i1 0 0 hf (fun _ => der) (fun _ _ _ _ _ _ _ _ _ _ _ => ⟨by decide, by decide⟩) (fun _ a' _ _ _ _ _ _ _ ea _ => by cases ea; exact d_jumpForX _ a v u d k5 _ (fun j hj => ⟨j, rfl, hj, rfl⟩)) ?_ (fun _ => ⟨by decide, by decide⟩) (fun z => ⟨Or.inr (Or.inl ⟨rfl, q, d, hq, z⟩), CW.of h⟩)
  rintro hal a1 _ _ _ _ _ _ _ ea1 _ y3 t ⟨j, rfl, hj, ht⟩
  subst ht
  have hnow : vp_in (fc 1) 61 := by
    rw [hks.2.2.1, hq.1]
    have := hq.2.2.1
    exact vi_n (by omega) (by decide)
  obtain ⟨sj, g1, -⟩ := hj
  obtain ⟨i2, hj2⟩ := List.getElem?_of_mem g1
  refine zW_perm (wp3 _ _ _ _ _) ?_
  refine k_Q_answer_52 X _ _ (P_61 := fun n u => n = anN S d v ∧ u = WX C.1 f r c L x g rr fc gc t) v (some a) j f r c (tsX L x) g rr fc gc t qa ka es e1 e2 e3 sj _ _ i1 i2 0 0 hf hj2 ⟨by decide, by decide⟩ (d_asNextX _ c _ _ fq ⟨qa, ka, es, e1, e2, e3, subW _ h1, subW _ h2⟩ _ (fun y9 hy9 => ⟨?_, rfl⟩)) ?_
  · rcases hy9 with ⟨rfl, z⟩ | ⟨i, q1, q2, q3, q4, q5⟩
    · exact (nxV_no h6.1 z).symm
    · unfold anN
      rw [q2, q1]; exact (nxV_yes h6.1 q3 q4 q5).symm
  rintro n u ⟨hn9, rfl⟩
  subst hn9
  have lt40 : fc 0 < 40 ↔ S.2.2.2.1.2.1 < 40 := by
    rw [hks.2.1]
    exact nI_ltI (b := 40) (by have := hks.2.2.2.1; omega) (by decide)
  have s93 : (¬ anN S d v = 0 → S.2.2.2.1.2.1 < 40) → zc_Q_answer C (fun y u => ∃ q d, anQ S q d ∧ ¬ alV d v = 0 ∧ (¬ anN S d v = 0 → S.2.2.2.1.2.1 < 40) ∧ y = anN S d v ∧ CW (anS S d v) C.1 L u) (fun E u => ((E = ISE ∧ anNo S) ∨ (E = IAE ∧ ∃ q d, anQ S q d ∧ alV d v = 0) ∨ (E = ISE ∧ ∃ q d, anQ S q d ∧ ¬ alV d v = 0 ∧ ¬ anN S d v = 0 ∧ ¬ S.2.2.2.1.2.1 < 40)) ∧ CW S C.1 L u) 0 0 93 [(0, .ref (ad C.1 24)), (1, .int v), (2, va_rf (some a)), (3, .ref j), (4, .int (anN S d v))] [] (WX C.1 f r c L x g rr fc gc t) := by
    intro h40
    refine k_Q_answer_93 X _ _ (P_131 := fun u => ∃ (f2 : FT) (g2 : GT), (KS f2 g2 (kAn S.2.2.2.1 v (anN S d v) (jmpV d v).2.2.2) ∧ Bd 40 (f2 0)) ∧ u = CX C.1 f2 g2) v (some a) j (anN S d v) f r c (tsX L x) g rr fc gc t qa ka es e1 e2 e3 sj _ _ i1 i2 0 0 hf hj2 hnow ⟨by decide, by decide⟩ (d_askX _ (anN S d v) (va_up fc 2 (fc 2 + (jmpV d v).2.2.2)) (va_up gc 1 (upd (gc 1) (fc 1 : Int32).toNatClampNeg v)) h.2.2.2.2.1 _ (fun f2 g2 a1 a2 a3 a4 a5 a6 => ⟨f2, g2, KS_an hks h40 hq.1 hq.2.2.1 a1 a2 a3 a4 a5 a6, rfl⟩)) ?_
    rintro u ⟨f2, g2, ⟨hk2, hb⟩, rfl⟩
    refine zW_perm (wp1 _ _ _ _ _) ?_
    exact k_Q_answer_134 X _ _ v (some a) j (anN S d v) f r c (tsX L x) g rr f2 g2 t qa ka es e1 e2 e3 i1 0 0 hf ⟨by decide, by decide⟩ ⟨q, d, hq, hal, h40, rfl, CW.of ⟨h.1, h.2.1, h.2.2.1, h.2.2.2.1, hb, h.2.2.2.2.2.1, h.2.2.2.2.2.2.1, h.2.2.2.2.2.2.2.1, h.2.2.2.2.2.2.2.2.1, hk2, h.2.2.2.2.2.2.2.2.2.2⟩⟩
  exact k_Q_answer_64 X _ _ v (some a) j (anN S d v) f r c (tsX L x) g rr fc gc t qa ka es e1 e2 e3 sj _ _ i1 i2 0 0 hf hj2 (fun z => s93 (fun n => absurd z n)) (fun _ z => s93 (fun _ => lt40.mp z)) (fun _ _ => ⟨by decide, by decide⟩) (fun z1 z2 => ⟨Or.inr (Or.inr ⟨rfl, q, d, hq, hal, z1, fun z => z2 (lt40.mpr z)⟩), CW.of h⟩)
theorem d_word (T : ST) (S : ES) (f : FT) (r : Nat → Nat → Option Nat) (c L : Nat) (x : Int32) (g : GT) (rr : Nat → Nat → Option Nat) (fc : FT) (gc : GT) (P : va_W) (h : CF S T.2.2.2.1 L f r c g rr fc gc P) (hlt : T.1.stackTraces = false) (v1 v2 v3 : Int32) : xI T y_Q_word (Cond.code y_Q_word b_Q_word 6 (some .int)) 1 1 6 [.ref (ad T 24), .int v1, .int v2, .int v3] (WX T f r c L x g rr fc gc P) (fun _ u => CW S T L u) (fun E u => E = IAE ∧ CW S T L u) := by
  obtain ⟨qa, ka, es, e1, e2, e3, fq, fk, h1, h2, h3, h4, h5⟩ := h.2.2.1
  obtain ⟨i1, hf⟩ := List.getElem?_of_mem h1
  refine e_Q_word T hlt _ _ v1 v2 v3 f r c (tsX L x) g rr fc gc P qa ka es e1 e2 e3 ?_
  rintro C rfl X
  refine k_Q_word_0 X _ _ (P_5 := fun y u => (∀ a, y = some a → isQu C.1.2.2.2.1 P a) ∧ u = WX C.1 f r c L x g rr fc gc P) v1 v2 v3 f r c (tsX L x) g rr fc gc P qa ka es e1 e2 e3 i1 0 0 hf ⟨by decide, by decide⟩ (d_questionAt _ c _ _ fq ⟨qa, ka, es, e1, e2, e3, subW _ h1, subW _ h2⟩ _ (fun y hy => ⟨fun a ea => ?_, rfl⟩)) ?_
  · rcases hy with ⟨rfl, -⟩ | ⟨j, ej, g1, g2, rfl⟩
    · cases ea
    · exact h4 j a ea
  rintro y u ⟨hy, rfl⟩
  have s28 : zc_Q_word C (fun _ u => CW S C.1 L u) (fun E u => E = IAE ∧ CW S C.1 L u) 0 0 28 [(0, .ref (ad C.1 24)), (1, .int v1), (2, .int v2), (3, .int v3), (4, va_rf y)] [] (WX C.1 f r c L x g rr fc gc P) := k_Q_word_28 X _ _ v1 v2 v3 y f r c (tsX L x) g rr fc gc P qa ka es e1 e2 e3 i1 0 0 hf ⟨by decide, by decide⟩ ⟨rfl, CW.of h⟩
  have der : ¬ y = none → ∃ (a i : Nat) (u0 : Int32) (u1 u2 u3 u4 u5 : Nat), y = some a ∧ P[i]? = some (a, .inr (6, [.int u0, .ref u1, .ref u2, .ref u3, .ref u4, .ref u5])) ∧ isWd C.1.2.2.2.1 P u2 ∧ isWd C.1.2.2.2.1 P u3 := by
    intro hn
    cases y with
    | none => exact absurd rfl hn
    | some a =>
      obtain ⟨mu, sp, wa, wb, l, jx, xs, w, g1, -, -, g4, g5, -⟩ := hy a rfl
      obtain ⟨i, hi⟩ := List.getElem?_of_mem g1
      exact ⟨a, i, mu, sp, wa, wb, l, jx, rfl, hi, g4, g5⟩
  have s72 : ∀ w n, zc_Q_word C (fun _ u => CW S C.1 L u) (fun E u => E = IAE ∧ CW S C.1 L u) 0 0 72 [(0, .ref (ad C.1 24)), (1, .int v1), (2, .int v2), (3, .int v3), (4, va_rf y), (5, .ref w)] [.int n] (WX C.1 f r c L x g rr fc gc P) := fun w n => k_Q_word_72 X _ _ v1 v2 v3 y w n f r c (tsX L x) g rr fc gc P qa ka es e1 e2 e3 i1 0 0 hf ⟨by decide, by decide⟩ (CW.of h)
  have s55 : ∀ w, isWd C.1.2.2.2.1 P w → 0 ≤ v3 → zc_Q_word C (fun _ u => CW S C.1 L u) (fun E u => E = IAE ∧ CW S C.1 L u) 0 0 55 [(0, .ref (ad C.1 24)), (1, .int v1), (2, .int v2), (3, .int v3), (4, va_rf y)] [.ref w] (WX C.1 f r c L x g rr fc gc P) := by
    rintro w ⟨nw, fw, g1, g2, g3⟩ z
    obtain ⟨i2, hw⟩ := List.getElem?_of_mem g1
    refine k_Q_word_55 X _ _ v1 v2 v3 y w f r c (tsX L x) g rr fc gc P qa ka es e1 e2 e3 nw fw i1 i2 0 0 hf hw (fun _ => s72 w _) (fun q => ?_) (fun _ => s72 w _)
    obtain ⟨j, hj, rfl⟩ := nI_of (x := v3) (fun n => absurd z (by rw [Int32.not_le]; exact n))
    rw [nI_leI (by omega) hj] at q
    exact vi_n (by omega) (by omega)
  refine zW_D (fun hu => ?_)
  refine k_Q_word_8 X _ _ v1 v2 v3 y f r c (tsX L x) g rr fc gc P qa ka es e1 e2 e3 i1 0 0 hf (fun _ => s28) (fun _ _ => s28) (fun _ _ _ => s28) (fun hn _ _ _ _ => ?_) (fun hn _ _ z _ a i u0 u1 u2 u3 u4 u5 ea hi => s55 u3 ?_ z) (fun hn _ _ _ _ => ?_) (fun hn _ _ z _ a i u0 u1 u2 u3 u4 u5 ea hi => s55 u2 ?_ z) (fun _ _ _ _ => s28)
  · obtain ⟨a, i, u0, u1, u2, u3, u4, u5, ea, hi, -⟩ := der hn
    exact ⟨a, i, u0, u1, u2, u3, u4, u5, ea, hi⟩
  · obtain ⟨a', i', t0, t1, t2, t3, t4, t5, ea', hi', g4, g5⟩ := der hn
    rw [ea] at ea'; cases ea'
    have q := hu a _ _ (subW _ (List.mem_of_getElem? hi)) (subW _ (List.mem_of_getElem? hi'))
    cases q; exact g5
  · obtain ⟨a, i, u0, u1, u2, u3, u4, u5, ea, hi, -⟩ := der hn
    exact ⟨a, i, u0, u1, u2, u3, u4, u5, ea, hi⟩
  · obtain ⟨a', i', t0, t1, t2, t3, t4, t5, ea', hi', g4, g5⟩ := der hn
    rw [ea] at ea'; cases ea'
    have q := hu a _ _ (subW _ (List.mem_of_getElem? hi)) (subW _ (List.mem_of_getElem? hi'))
    cases q; exact g4
