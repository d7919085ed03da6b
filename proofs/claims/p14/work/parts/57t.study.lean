-- the class's study of an edition, exactly
theorem d_hasMemberX (T : ST) (x0 : Int64) (x2 : Int32) (j : Nat) (e2 : x2 = nI j) (hj : j < 61) (Post : Int32 → va_W → Prop) (h0 : ¬ bt x0 j → Post 0 []) (h1 : bt x0 j → Post 1 []) : uI T y_Q_hasMember (Cond.code y_Q_hasMember b_Q_hasMember 3 (some .boolean)) 0 0 0 [.long x0, .int x2] [] Post := by
  subst e2
  refine e_Q_hasMember T Post x0 (nI j) ?_
  rintro C rfl X
  exact k_Q_hasMember_0 X Post x0 (nI j) 0 0 (fun z => k_Q_hasMember_15 X Post x0 (nI j) 0 0 0 ⟨by decide, by decide⟩ (h0 ((bt_has x0 hj).mp z)) (nar01 (Or.inl rfl))) (fun z => k_Q_hasMember_15 X Post x0 (nI j) 1 0 0 ⟨by decide, by decide⟩ (h1 (Classical.byContradiction (fun n => z ((bt_has x0 hj).mpr n)))) (nar01 (Or.inr rfl)))
theorem d_asNextR (T : ST) (e : Nat) (x : Int32) (W : va_W) (fq fk : Nat → Option Nat) (R : RD) (hE : EE T.2.2.2.1 W fq fk R) (h : edQ T.2.2.2.1 W e fq) (Post : Int32 → va_W → Prop) (hq : Post (nxR R x) W) : uI T y_Ed_asNext (Cond.code y_Ed_asNext b_Ed_asNext 2 (some .int)) 1 0 0 [.ref e, .int x] W Post := by
  refine d_asNextX T e x W fq h Post (fun y hy => ?_)
  have ey : y = nxR R x := by
    rcases hy with ⟨rfl, q⟩ | ⟨i, q1, q2, q3, q4, q5⟩
    · exact (nxV_no hE q).symm
    · rw [q2, q1]; exact (nxV_yes hE q3 q4 q5).symm
  rw [ey]; exact hq
theorem d_targetsOfX (T : ST) (e q : Nat) (W : va_W) (fq fk : Nat → Option Nat) (R : RD) (hE : EE T.2.2.2.1 W fq fk R) (h : edQ T.2.2.2.1 W e fq) (d : QD) (hqu : eQu T.2.2.2.1 W q d) (Post : Int64 → va_W → Prop) (hq : ∀ y, (∀ n, n < 61 → (bt y n ↔ tgB R d n)) → Post y W) : uL T y_Ed_targetsOf (Cond.code y_Ed_targetsOf b_Ed_targetsOf 5 (some .long)) 3 0 0 [.ref e, .ref q] W Post := by
  obtain ⟨qa, ka, es, e1, e2, e3, h1, h2⟩ := id h
  obtain ⟨i1, hf⟩ := List.getElem?_of_mem h1
  obtain ⟨i2, hqa⟩ := List.getElem?_of_mem h2
  obtain ⟨sp, wa, wb, l, jx, xs, w, g1, -, -, -, -, ⟨sj, g6, -⟩, h7, h8, h9, h10⟩ := hqu
  obtain ⟨i4, hq4⟩ := List.getElem?_of_mem g1
  obtain ⟨i5, hj5⟩ := List.getElem?_of_mem g6
  have hlen := h10.len
  refine e_Ed_targetsOf T Post q W e qa ka es e1 e2 e3 fq (fun _ => none) d.1 sp wa wb l jx sj d.2.2.2.2.2.2.2.1 d.2.2.2.2.2.2.2.2 ?_
  rintro C rfl X
  have loop : ∀ k c x2, k + c = xs.length → (∀ n, n < 61 → (bt x2 n ↔ (∃ (i : Nat) (e : JD), i < c ∧ d.2.2.2.2.1[i]? = some e ∧ nxR R e.2.2.1 = nI n) ∨ nxR R d.2.2.2.2.2.2.2.1 = nI n)) → zc_Ed_targetsOf C Post 0 0 17 [(0, .ref e), (1, .ref q), (2, .long x2), (4, .int (nI c))] [] W := by
    intro k
    induction k with
    | zero =>
      intro c x2 hc hI
      refine k_Ed_targetsOf_17 X Post (P_23 := fun y u => y = nI xs.length ∧ u = W) q x2 (nI c) W e qa ka es e1 e2 e3 fq (fun _ => none) d.1 sp wa wb l jx sj d.2.2.2.2.2.2.2.1 d.2.2.2.2.2.2.2.2 i1 i2 i4 i5 0 0 hf hqa hq4 hj5 ⟨by decide, by decide⟩ (d_size _ l xs w W h7 h8 _ ⟨rfl, rfl⟩) ?_ (h7.rP h8)
      rintro y u ⟨hy, hu⟩
      subst hy
      rw [hu]
      have z : nI xs.length ≤ nI c := nI_le (by omega) (by omega)
      refine k_Ed_targetsOf_28 X Post (P_40 := fun _ _ => True) q x2 (nI c) _ (nI c) W e qa ka es e1 e2 e3 fq (fun _ => none) d.1 sp wa wb l jx sj d.2.2.2.2.2.2.2.1 d.2.2.2.2.2.2.2.2 i1 i2 i4 i5 0 0 hf hqa hq4 hj5 (fun _ => ⟨by decide, by decide⟩) (fun _ => hq _ (fun n hn => (hI n hn).trans ?_)) (fun n => absurd z n) (fun n => absurd z n) (fun n => absurd z n) (fun n => absurd z n)
      refine or_congr_left ⟨fun ⟨i, e9, _, a2, a3⟩ => ⟨i, e9, a2, a3⟩, fun ⟨i, e9, a2, a3⟩ => ⟨i, e9, ?_, a2, a3⟩⟩
      obtain ⟨hi, -⟩ := List.getElem?_eq_some_iff.mp a2
      omega
    | succ k ih =>
      intro c x2 hc hI
      refine k_Ed_targetsOf_17 X Post (P_23 := fun y u => y = nI xs.length ∧ u = W) q x2 (nI c) W e qa ka es e1 e2 e3 fq (fun _ => none) d.1 sp wa wb l jx sj d.2.2.2.2.2.2.2.1 d.2.2.2.2.2.2.2.2 i1 i2 i4 i5 0 0 hf hqa hq4 hj5 ⟨by decide, by decide⟩ (d_size _ l xs w W h7 h8 _ ⟨rfl, rfl⟩) ?_ (h7.rP h8)
      rintro y u ⟨hy, hu⟩
      subst hy
      rw [hu]
      have hcl : c < xs.length := by omega
      have hcl2 : c < d.2.2.2.2.1.length := by omega
      have z : ¬ nI xs.length ≤ nI c := fun n => absurd ((nI_leI (by omega) (by omega)).mp n) (by omega)
      obtain ⟨s6, g7, -⟩ := h10.at c hcl hcl2
      obtain ⟨i6, hy6⟩ := List.getElem?_of_mem g7
      refine k_Ed_targetsOf_28 X Post (P_40 := fun y v => y = some xs[c] ∧ v = W) q x2 (nI c) _ (nI c) W e qa ka es e1 e2 e3 fq (fun _ => none) d.1 sp wa wb l jx sj d.2.2.2.2.2.2.2.1 d.2.2.2.2.2.2.2.2 i1 i2 i4 i5 0 0 hf hqa hq4 hj5 (fun n => absurd n z) (fun n => absurd n z) (fun _ => ⟨by decide, by decide⟩) (fun _ => d_get _ l xs w W h7 h8 c hcl _ ⟨rfl, rfl⟩) ?_ (fun _ => h7.rP h8)
      rintro _ y v ⟨hy, hv⟩
      subst hy
      rw [hv]
      refine k_Ed_targetsOf_45 X Post (P_51 := fun y t => y = nxR R (d.2.2.2.2.1[c]).2.2.1 ∧ t = W) q x2 (nI c) xs[c] 1 x2 W e qa ka es e1 e2 e3 fq (fun _ => none) d.1 sp wa wb l jx sj d.2.2.2.2.2.2.2.1 d.2.2.2.2.2.2.2.2 s6 _ _ i1 i2 i4 i5 i6 0 0 hf hqa hq4 hj5 hy6 ⟨by decide, by decide⟩ (d_asNextR _ e _ W fq fk R hE h _ ⟨rfl, rfl⟩) ?_
      rintro y t ⟨hy, ht⟩
      rw [ht]
      refine k_Ed_targetsOf_54 X Post q x2 (nI c) y 1 x2 W e qa ka es e1 e2 e3 fq (fun _ => none) d.1 sp wa wb l jx sj d.2.2.2.2.2.2.2.1 d.2.2.2.2.2.2.2.2 i1 i2 i4 i5 0 0 hf hqa hq4 hj5 ?_
      rw [nI_1]
      refine ih (c + 1) _ (by omega) (fun n hn => ?_)
      obtain ⟨m, hm, em⟩ := nxR_c R (d.2.2.2.2.1[c]).2.2.1
      rw [bt_or, hI n hn, hy, em, bt_sh (by omega) hn]
      constructor
      · rintro ((⟨i, e9, a1, a2, a3⟩ | a) | a)
        · exact Or.inl ⟨i, e9, by omega, a2, a3⟩
        · exact Or.inr a
        · subst a; exact Or.inl ⟨c, d.2.2.2.2.1[c], by omega, List.getElem?_eq_getElem hcl2, em⟩
      · rintro (⟨i, e9, a1, a2, a3⟩ | a)
        · by_cases ic : i = c
          · subst ic
            rw [List.getElem?_eq_getElem hcl2] at a2
            cases a2
            right
            exact ((nI_eq (by omega) (by omega)).mp (em.symm.trans a3)).symm
          · exact Or.inl (Or.inl ⟨i, e9, by omega, a2, a3⟩)
        · exact Or.inl (Or.inr a)
  refine k_Ed_targetsOf_0 X Post (P_9 := fun y t => y = nxR R d.2.2.2.2.2.2.2.1 ∧ t = W) q W e qa ka es e1 e2 e3 fq (fun _ => none) d.1 sp wa wb l jx sj d.2.2.2.2.2.2.2.1 d.2.2.2.2.2.2.2.2 i1 i2 i4 i5 0 0 hf hqa hq4 hj5 ⟨by decide, by decide⟩ (d_asNextR _ e _ W fq fk R hE h _ ⟨rfl, rfl⟩) ?_
  rintro y t ⟨hy, ht⟩
  rw [ht]
  refine k_Ed_targetsOf_12 X Post q y 1 W e qa ka es e1 e2 e3 fq (fun _ => none) d.1 sp wa wb l jx sj d.2.2.2.2.2.2.2.1 d.2.2.2.2.2.2.2.2 i1 i2 i4 i5 0 0 hf hqa hq4 hj5 (loop xs.length 0 _ rfl (fun n hn => ?_))
  obtain ⟨m, hm, em⟩ := nxR_c R d.2.2.2.2.2.2.2.1
  rw [hy, em, bt_sh (by omega) hn]
  constructor
  · intro a; subst a; exact Or.inr rfl
  · rintro (⟨i, e9, a1, -⟩ | a)
    · exact absurd a1 (Nat.not_lt_zero _)
    · exact ((nI_eq (by omega) (by omega)).mp a).symm
-- one over another: what the ways hold
def WI (R : RD) (m : Nat) (lf : Nat → Int64) : Prop := ∀ q, 1 ≤ q → q < 61 → ∀ n, n < 61 → (bt (lf q) n ↔ wsP (Eg R) m q n)
def WJ (R : RD) (m c : Nat) (lf : Nat → Int64) : Prop := ∀ q, 1 ≤ q → q < 61 → ∀ n, n < 61 → (q < c → (bt (lf q) n ↔ wsP (Eg R) (m + 1) q n)) ∧ (c ≤ q → (bt (lf q) n ↔ wsP (Eg R) m q n))
theorem WJ_no {R : RD} {m c : Nat} {lf : Nat → Int64} (h : WJ R m c lf) (hc1 : 1 ≤ c) (hc : c < 61) (hm : m + 1 < 61) (hb : ¬ bt (lf c) (m + 1)) : WJ R m (c + 1) lf := by
  intro q h1 h2 n hn
  refine ⟨fun hq => ?_, fun hq => (h q h1 h2 n hn).2 (by omega)⟩
  by_cases e : q = c
  · subst e
    have a := (h q h1 h2 n hn).2 (Nat.le_refl _)
    have b := (h q h1 h2 (m + 1) hm).2 (Nat.le_refl _)
    refine a.trans ⟨Or.inl, fun z => ?_⟩
    rcases z with z | ⟨z, -⟩
    · exact z
    · exact absurd (b.mpr z) hb
  · exact (h q h1 h2 n hn).1 (by omega)
theorem WJ_yes {R : RD} {m c : Nat} {lf : Nat → Int64} (h : WJ R m c lf) (hc1 : 1 ≤ c) (hc : c < 61) (hm : m + 1 < 61) (hb : bt (lf c) (m + 1)) : WJ R m (c + 1) (vp_updL lf c (lf c ||| lf (m + 1))) := by
  intro q h1 h2 n hn
  by_cases e : q = c
  · subst e
    refine ⟨fun _ => ?_, fun hq => absurd hq (by omega)⟩
    have a := (h q h1 h2 n hn).2 (Nat.le_refl _)
    have b := ((h q h1 h2 (m + 1) hm).2 (Nat.le_refl _)).mp hb
    have o : bt (lf (m + 1)) n ↔ wsP (Eg R) m (m + 1) n := by
      by_cases c9 : m + 1 < q
      · exact ((h (m + 1) (by omega) hm n hn).1 c9).trans ws_self
      · exact (h (m + 1) (by omega) hm n hn).2 (by omega)
    rw [show vp_updL lf q (lf q ||| lf (m + 1)) q = (lf q ||| lf (m + 1)) from if_pos rfl, bt_or, a, o]
    exact ⟨fun z => z.imp id (fun y => ⟨b, y⟩), fun z => z.imp id And.right⟩
  · rw [show vp_updL lf c (lf c ||| lf (m + 1)) q = lf q from if_neg e]
    exact ⟨fun hq => (h q h1 h2 n hn).1 (by omega), fun hq => (h q h1 h2 n hn).2 (by omega)⟩
theorem d_waysByJumpsX (T : ST) (e : Nat) (W : va_W) (fq fk : Nat → Option Nat) (R : RD) (hE : EE T.2.2.2.1 W fq fk R) (h : edQ T.2.2.2.1 W e fq) (Post : Option Nat → va_W → Prop) (hq : ∀ w lf, WI R 60 lf → Post (some w) ([(w, .inl (T.2.2.2.1 1, 61, .inr (.inl lf)))] ++ W)) : uR T y_Ed_waysByJumps (Cond.code y_Ed_waysByJumps b_Ed_waysByJumps 4 (some (.array .long))) 4 1 61 [.ref e] W Post := by
  obtain ⟨qa, ka, es, e1, e2, e3, h1, h2⟩ := id h
  obtain ⟨i1, hf⟩ := List.getElem?_of_mem h1
  obtain ⟨i2, hqa⟩ := List.getElem?_of_mem h2
  refine e_Ed_waysByJumps T Post W e qa ka es e1 e2 e3 fq (fun _ => none) (fun _ => 0) ?_
  rintro C rfl X
  have l55 : ∀ w2 m, m + 1 < 61 → (∀ lf', WI R (m + 1) lf' → zc_Ed_waysByJumps C Post 1 61 47 [(0, .ref e), (1, .ref w2), (2, .int (nI (m + 1 + 1)))] [] ([(w2, .inl (C.1.2.2.2.1 1, 61, .inr (.inl lf')))] ++ W)) → ∀ k c (lf : Nat → Int64), k + c = 61 → 1 ≤ c → WJ R m c lf → zc_Ed_waysByJumps C Post 1 61 55 [(0, .ref e), (1, .ref w2), (2, .int (nI (m + 1))), (3, .int (nI c))] [] ([(w2, .inl (C.1.2.2.2.1 1, 61, .inr (.inl lf)))] ++ W) := by
    intro w2 m hm hn k
    induction k with
    | zero =>
      intro c lf hk hc1 hI
      have z : (60 : Int32) < nI c := (nI_ltI (a := 60) (b := c) (by decide) (by omega)).mpr (by omega)
      refine k_Ed_waysByJumps_55 X Post (P_65 := fun _ _ => True) (nI (m + 1)) (nI c) w2 W e qa ka es e1 e2 e3 fq (fun _ => none) lf i1 i2 1 61 hf hqa (fun _ => ?_) (fun n => absurd z n) (fun n => absurd z n) (fun n => absurd z n) (fun n => absurd z n)
      rw [nI_1]; exact hn lf (fun q q1 q2 n hn9 => (hI q q1 q2 n hn9).1 (by omega))
    | succ k ih =>
      intro c lf hk hc1 hI
      have z : ¬ (60 : Int32) < nI c := fun n => absurd ((nI_ltI (a := 60) (b := c) (by decide) (by omega)).mp n) (by omega)
      have hv : vp_in (nI c) 61 := vi_n (by omega) (by decide)
      have hv2 : vp_in (nI (m + 1)) 61 := vi_n hm (by decide)
      have hcl : (nI c).toNatClampNeg = c := nI_clamp (by omega)
      have hml : (nI (m + 1)).toNatClampNeg = m + 1 := nI_clamp (by omega)
      refine k_Ed_waysByJumps_55 X Post (P_65 := fun y _ => (y = 0 ∧ ¬ bt (lf c) (m + 1)) ∨ (y = 1 ∧ bt (lf c) (m + 1))) (nI (m + 1)) (nI c) w2 W e qa ka es e1 e2 e3 fq (fun _ => none) lf i1 i2 1 61 hf hqa (fun n => absurd n z) (fun _ => hv) (fun _ => ⟨by decide, by decide⟩) (fun _ => ?_) (fun _ y u hy => ?_)
      · rw [hcl]; exact d_hasMemberX _ _ _ (m + 1) rfl hm _ (fun n => Or.inl ⟨rfl, n⟩) (fun n => Or.inr ⟨rfl, n⟩)
      have s80 : ∀ lf', WJ R m (c + 1) lf' → zc_Ed_waysByJumps C Post 1 61 80 [(0, .ref e), (1, .ref w2), (2, .int (nI (m + 1))), (3, .int (nI c))] [] ([(w2, .inl (C.1.2.2.2.1 1, 61, .inr (.inl lf')))] ++ W) := by
        intro lf' hI'
        refine k_Ed_waysByJumps_80 X Post (nI (m + 1)) (nI c) w2 W e qa ka es e1 e2 e3 fq (fun _ => none) lf' i1 i2 1 61 hf hqa ?_
        rw [nI_1]; exact ih (c + 1) lf' (by omega) (by omega) hI'
      refine k_Ed_waysByJumps_68 X Post (nI (m + 1)) (nI c) y w2 W e qa ka es e1 e2 e3 fq (fun _ => none) lf i1 i2 1 61 hf hqa (fun y0 => s80 lf ?_) (fun _ => hv) (fun _ => hv2) (fun _ => hv) (fun y1 => ?_)
      · rcases hy with ⟨-, b⟩ | ⟨b, -⟩
        · exact WJ_no hI hc1 (by omega) hm b
        · rw [b] at y0; exact absurd y0 (by decide +kernel)
      · rw [hcl, hml]
        rcases hy with ⟨b, -⟩ | ⟨-, b⟩
        · exact absurd b y1
        · exact s80 _ (WJ_yes hI hc1 (by omega) hm b)
  have l47 : ∀ w2 k m (lf : Nat → Int64), k + m = 60 → WI R m lf → zc_Ed_waysByJumps C Post 1 61 47 [(0, .ref e), (1, .ref w2), (2, .int (nI (m + 1)))] [] ([(w2, .inl (C.1.2.2.2.1 1, 61, .inr (.inl lf)))] ++ W) := by
    intro w2 k
    induction k with
    | zero =>
      intro m lf hk hI
      have z : (60 : Int32) < nI (m + 1) := (nI_ltI (a := 60) (b := m + 1) (by decide) (by omega)).mpr (by omega)
      exact k_Ed_waysByJumps_47 X Post (nI (m + 1)) w2 W e qa ka es e1 e2 e3 fq (fun _ => none) lf i1 i2 1 61 hf hqa (fun _ => ⟨by decide, by decide⟩) (fun _ => hq w2 lf (by rw [show (60 : Nat) = m by omega]; exact hI)) (fun n => absurd z n)
    | succ k ih =>
      intro m lf hk hI
      have z : ¬ (60 : Int32) < nI (m + 1) := fun n => absurd ((nI_ltI (a := 60) (b := m + 1) (by decide) (by omega)).mp n) (by omega)
      exact k_Ed_waysByJumps_47 X Post (nI (m + 1)) w2 W e qa ka es e1 e2 e3 fq (fun _ => none) lf i1 i2 1 61 hf hqa (fun n => absurd n z) (fun n => absurd n z) (fun _ => l55 w2 m (by omega) (fun lf' h' => ih (m + 1) lf' (by omega) h') 60 1 lf rfl (by decide) (fun q q1 q2 n hn => ⟨fun q3 => absurd q3 (by omega), fun _ => hI q q1 q2 n hn⟩))
  have l7 : ∀ w2 k c (lf : Nat → Int64), k + c = 61 → 1 ≤ c → (∀ q, 1 ≤ q → q < c → ∀ n, n < 61 → (bt (lf q) n ↔ Eg R q n)) → zc_Ed_waysByJumps C Post 1 61 7 [(0, .ref e), (1, .ref w2), (2, .int (nI c))] [] ([(w2, .inl (C.1.2.2.2.1 1, 61, .inr (.inl lf)))] ++ W) := by
    intro w2 k
    induction k with
    | zero =>
      intro c lf hk hc1 hI
      have z : (60 : Int32) < nI c := (nI_ltI (a := 60) (b := c) (by decide) (by omega)).mpr (by omega)
      exact k_Ed_waysByJumps_7 X Post (P_35 := fun _ _ => True) (nI c) w2 W e qa ka es e1 e2 e3 fq (fun _ => none) lf i1 i2 1 61 hf hqa (fun _ => l47 w2 60 0 lf rfl (fun q q1 q2 n hn => hI q q1 (by omega) n hn)) (fun n => absurd z n) (fun n => absurd z n) (fun n => absurd z n) (fun n => absurd z n) (fun n => absurd z n) (fun n => absurd z n)
    | succ k ih =>
      intro c lf hk hc1 hI
      have z : ¬ (60 : Int32) < nI c := fun n => absurd ((nI_ltI (a := 60) (b := c) (by decide) (by omega)).mp n) (by omega)
      have hv : vp_in (nI c) 61 := vi_n (by omega) (by decide)
      have hcl : (nI c).toNatClampNeg = c := nI_clamp (by omega)
      have s38 : ∀ y, (∀ n, n < 61 → (bt y n ↔ Eg R c n)) → zc_Ed_waysByJumps C Post 1 61 38 [(0, .ref e), (1, .ref w2), (2, .int (nI c))] [.long y, .int (nI c), .ref w2] ([(w2, .inl (C.1.2.2.2.1 1, 61, .inr (.inl lf)))] ++ W) := by
        intro y hy
        refine k_Ed_waysByJumps_38 X Post (nI c) y (nI c) w2 W e qa ka es e1 e2 e3 fq (fun _ => none) lf i1 i2 1 61 hf hqa hv ?_
        rw [nI_1, hcl]
        refine ih (c + 1) _ (by omega) (by omega) (fun q q1 q2 n hn => ?_)
        by_cases eq : q = c
        · subst eq; rw [show vp_updL lf q y q = y from if_pos rfl]; exact hy n hn
        · rw [show vp_updL lf c y q = lf q from if_neg eq]; exact hI q q1 (by omega) n hn
      have hec := hE.1 c hc1 (by omega)
      refine k_Ed_waysByJumps_7 X Post (P_35 := fun y t => (∀ n, n < 61 → (bt y n ↔ Eg R c n)) ∧ t = [(w2, .inl (C.1.2.2.2.1 1, 61, .inr (.inl lf)))] ++ W) (nI c) w2 W e qa ka es e1 e2 e3 fq (fun _ => none) lf i1 i2 1 61 hf hqa (fun n => absurd n z) (fun _ => hv) (fun _ _ => hv) (fun _ _ => ⟨by decide, by decide⟩) (fun _ n => ?_) (fun _ _ y u hu => ?_) (fun _ n => s38 0 (fun n9 hn => ?_))
      · rw [hcl] at n ⊢
        rcases hec with q | ⟨a, d, q1, q2, q3⟩
        · exact absurd q.1 n
        · rw [q1]
          exact d_targetsOfX _ e a _ fq fk R (hE.mono Sub.cons) (h.mono Sub.cons) d (q3.mono Sub.cons) _ (fun y hy => ⟨fun n hn => (hy n hn).trans ⟨fun t9 => ⟨hc1, by omega, by omega, d, q2, t9⟩, fun t9 => by obtain ⟨-, -, -, d', w1, w2⟩ := t9; rw [q2] at w1; cases w1; exact w2⟩, rfl⟩)
      · obtain ⟨hy, hu⟩ := hu
        rw [hu]; exact s38 y hy
      · rw [hcl] at n
        rcases hec with q | ⟨a, d, q1, q2, q3⟩
        · exact ⟨fun t9 => absurd t9 (bt_0 _), fun t9 => by obtain ⟨-, -, -, d', w1, -⟩ := t9; rw [q.2] at w1; cases w1⟩
        · rw [q1] at n; cases n
  exact k_Ed_waysByJumps_0 X Post W e qa ka es e1 e2 e3 fq (fun _ => none) (fun _ => 0) i1 i2 0 0 hf hqa ⟨by decide, by decide⟩ (fun w2 => l7 w2 60 1 _ rfl (by decide) (fun q q1 q2 => absurd q2 (by omega)))
theorem WI_rc {R : RD} {lf : Nat → Int64} (h : WI R 60 lf) {q n : Nat} (h1 : 1 ≤ q) (h2 : q < 61) (hn : n < 61) : bt (lf q) n ↔ Rc (Eg R) q n := (h q h1 h2 n hn).trans (ws_60 (Eg_60 R) q n)
set_option maxHeartbeats 1000000 in
theorem d_studyX (T : ST) (e qa ka : Nat) (fq fk : Nat → Option Nat) (P : va_W) (R : RD) (h1 : (qa, (.inl (T.2.2.2.1 3, 61, .inr (.inr (.inr (.inr fq)))) : va_E)) ∈ P) (h2 : (ka, (.inl (T.2.2.2.1 4, 10, .inr (.inr (.inr (.inr fk)))) : va_E)) ∈ P) (hE : EE T.2.2.2.1 P fq fk R) (Post : va_W → Prop)
    (hq : ∀ (w : Nat) (lf : Nat → Int64) (e1 e2 e3 : Int64), BE R e1 e2 e3 → Post ([(w, .inl (T.2.2.2.1 1, 61, .inr (.inl lf))), (e, .inr (3, [.ref qa, .ref ka, .int (szL fq 60 1 0), .long e1, .long e2, .long e3]))] ++ P)) :
    uV T y_Ed_study (Cond.code y_Ed_study b_Ed_study 6 none) 5 1 61 [.ref e] ([(e, .inr (3, [.ref qa, .ref ka, .int 0, .long 0, .long 0, .long 0]))] ++ P) Post := by
  obtain ⟨i2, hqa⟩ := List.getElem?_of_mem h1
  obtain ⟨i3, hka⟩ := List.getElem?_of_mem h2
  refine e_Ed_study T Post P e qa ka 0 0 0 0 fq fk (fun _ => 0) ?_
  rintro C rfl X
  generalize hES : szL fq 60 1 0 = ES0 at hq
  have l101 : ∀ w (lf : Nat → Int64) x2 e3, WI R 60 lf → (∀ n, 1 ≤ n → n < 61 → (bt x2 n ↔ ∃ k s, stE R k s ∧ (s = n ∨ Rc (Eg R) s n))) → (∀ n, 1 ≤ n → n < 61 → (bt e3 n ↔ enE R n)) → ∀ k c es e1 e2, k + c = 61 → 1 ≤ c → szL fq k c es = ES0 → (∀ n, 1 ≤ n → n < 61 → (bt e1 n ↔ n < c ∧ loE R n) ∧ (bt e2 n ↔ n < c ∧ neE R n)) → zc_Ed_study C Post 1 61 101 [(0, .ref e), (1, .ref w), (2, .long x2), (4, .int (nI c))] [] ([(w, .inl (C.1.2.2.2.1 1, 61, .inr (.inl lf))), (e, .inr (3, [.ref qa, .ref ka, .int es, .long e1, .long e2, .long e3]))] ++ P) := by
    intro w lf x2 e3 hW hx h3 k
    induction k with
    | zero =>
      intro c es e1 e2 hk hc1 hs9 hI
      have z : (60 : Int32) < nI c := (nI_ltI (a := 60) (b := c) (by decide) (by omega)).mpr (by omega)
      refine k_Ed_study_101 X Post (P_139 := fun _ _ => True) w x2 (nI c) P e qa ka es e1 e2 e3 fq fk lf i2 i3 1 61 hqa hka (fun _ => ⟨by decide, by decide⟩) (fun _ => ?_) (fun n => absurd z n) (fun n => absurd z n) (fun n => absurd z n) (fun n => absurd z n) (fun n => absurd z n) (fun n => absurd z n)
      have e9 : es = ES0 := hs9
      rw [e9]
      refine hq w lf e1 e2 e3 (fun n n1 n2 => ⟨(hI n n1 n2).1.trans ⟨And.right, fun q => ⟨by omega, q⟩⟩, (hI n n1 n2).2.trans ⟨And.right, fun q => ⟨by omega, q⟩⟩, h3 n n1 n2⟩)
    | succ k ih =>
      intro c es e1 e2 hk hc1 hs9 hI
      have z : ¬ (60 : Int32) < nI c := fun n => absurd ((nI_ltI (a := 60) (b := c) (by decide) (by omega)).mp n) (by omega)
      have hv : vp_in (nI c) 61 := vi_n (by omega) (by decide)
      have hcl : (nI c).toNatClampNeg = c := nI_clamp (by omega)
      have hec := hE.1 c hc1 (by omega)
      have s183 : ∀ es e1 e2, szL fq k (c + 1) es = ES0 → (∀ n, 1 ≤ n → n < 61 → (bt e1 n ↔ n < c + 1 ∧ loE R n) ∧ (bt e2 n ↔ n < c + 1 ∧ neE R n)) → zc_Ed_study C Post 1 61 183 [(0, .ref e), (1, .ref w), (2, .long x2), (4, .int (nI c))] [] ([(w, .inl (C.1.2.2.2.1 1, 61, .inr (.inl lf))), (e, .inr (3, [.ref qa, .ref ka, .int es, .long e1, .long e2, .long e3]))] ++ P) := by
        intro es e1 e2 hs8 hI8
        refine k_Ed_study_183 X Post w x2 (nI c) P e qa ka es e1 e2 e3 fq fk lf i2 i3 1 61 hqa hka ?_
        rw [nI_1]; exact ih (c + 1) es e1 e2 (by omega) (by omega) hs8 hI8
      -- one number more in a set
      have one : ∀ (p : Nat → Prop) (x y : Int64), (∀ n, 1 ≤ n → n < 61 → (bt x n ↔ n < c ∧ p n)) → (∀ n, 1 ≤ n → n < 61 → (bt y n ↔ n = c ∧ p c)) → ∀ n, 1 ≤ n → n < 61 → (bt (x ||| y) n ↔ n < c + 1 ∧ p n) := by
        intro p x y a b n n1 n2
        rw [bt_or, a n n1 n2, b n n1 n2]
        constructor
        · rintro (⟨q1, q2⟩ | ⟨q1, q2⟩)
          · exact ⟨by omega, q2⟩
          · subst q1; exact ⟨by omega, q2⟩
        · rintro ⟨q1, q2⟩
          by_cases en : n = c
          · subst en; exact Or.inr ⟨rfl, q2⟩
          · exact Or.inl ⟨by omega, q2⟩
      have yes : ∀ (p : Nat → Prop), p c → ∀ n, 1 ≤ n → n < 61 → (bt ((1 : Int64) <<< ((nI c).toInt64 &&& 63)) n ↔ n = c ∧ p c) := fun p hp n n1 n2 => (bt_sh (by omega) n2).trans ⟨fun q => ⟨q, hp⟩, And.left⟩
      have no : ∀ (p : Nat → Prop), ¬ p c → ∀ n, 1 ≤ n → n < 61 → (bt 0 n ↔ n = c ∧ p c) := fun p hp n n1 n2 => ⟨fun q => absurd q (bt_0 n), fun q => absurd q.2 hp⟩
      refine k_Ed_study_101 X Post (P_139 := fun y _ => (y = 0 ∧ ¬ bt (lf c) c) ∨ (y = 1 ∧ bt (lf c) c)) w x2 (nI c) P e qa ka es e1 e2 e3 fq fk lf i2 i3 1 61 hqa hka (fun n => absurd n z) (fun n => absurd n z) (fun _ => hv) (fun _ z9 => ?_) (fun _ _ => hv) (fun _ _ => ⟨by decide, by decide⟩) (fun _ _ => ?_) ?_
      · rw [hcl] at z9
        have r9 : R.1 c = none := by
          rcases hec with q | ⟨a, d, q1, -⟩
          · exact q.2
          · rw [z9] at q1; cases q1
        refine s183 es e1 e2 (by rw [← szL_none z9]; exact hs9) (fun n n1 n2 => ⟨(hI n n1 n2).1.trans ⟨fun q => ⟨by omega, q.2⟩, fun q => ⟨?_, q.2⟩⟩, (hI n n1 n2).2.trans ⟨fun q => ⟨by omega, q.2⟩, fun q => ⟨?_, q.2⟩⟩⟩)
        · have : n ≠ c := fun en => q.2.1 (by rw [en]; exact r9)
          omega
        · have : n ≠ c := fun en => q.2.1 (by rw [en]; exact r9)
          omega
      · rw [hcl]; exact d_hasMemberX _ _ _ c rfl (by omega) _ (fun n => Or.inl ⟨rfl, n⟩) (fun n => Or.inr ⟨rfl, n⟩)
      intro _ z9 y u hy
      rw [hcl] at z9
      have r9 : ¬ R.1 c = none := by
        rcases hec with q | ⟨a, d, -, q2, -⟩
        · exact absurd q.1 z9
        · rw [q2]; exact fun q => nomatch q
      have hs7 : szL fq k (c + 1) (es + 1) = ES0 := by rw [← szL_some z9]; exact hs9
      have s153 : ∀ y0, (∀ n, 1 ≤ n → n < 61 → (bt y0 n ↔ n = c ∧ loE R c)) → zc_Ed_study C Post 1 61 153 [(0, .ref e), (1, .ref w), (2, .long x2), (4, .int (nI c))] [.long y0, .long e1, .ref e] ([(w, .inl (C.1.2.2.2.1 1, 61, .inr (.inl lf))), (e, .inr (3, [.ref qa, .ref ka, .int (es + 1), .long e1, .long e2, .long e3]))] ++ P) := by
        intro y0 hy0
        have s179 : ∀ y2, (∀ n, 1 ≤ n → n < 61 → (bt y2 n ↔ n = c ∧ neE R c)) → zc_Ed_study C Post 1 61 179 [(0, .ref e), (1, .ref w), (2, .long x2), (4, .int (nI c))] [.long y2, .long e2, .ref e] ([(w, .inl (C.1.2.2.2.1 1, 61, .inr (.inl lf))), (e, .inr (3, [.ref qa, .ref ka, .int (es + 1), .long (e1 ||| y0), .long e2, .long e3]))] ++ P) := fun y2 hy2 => k_Ed_study_179 X Post w x2 (nI c) y2 e2 P e qa ka (es + 1) (e1 ||| y0) e2 e3 fq fk lf i2 i3 1 61 hqa hka (s183 _ _ _ hs7 (fun n n1 n2 => ⟨one (loE R) e1 y0 (fun n n1 n2 => (hI n n1 n2).1) hy0 n n1 n2, one (neE R) e2 y2 (fun n n1 n2 => (hI n n1 n2).2) hy2 n n1 n2⟩))
        refine k_Ed_study_153 X Post (P_165 := fun y _ => (y = 0 ∧ ¬ bt x2 c) ∨ (y = 1 ∧ bt x2 c)) w x2 (nI c) y0 e1 P e qa ka (es + 1) e1 e2 e3 fq fk lf i2 i3 1 61 hqa hka ⟨by decide, by decide⟩ (d_hasMemberX _ _ _ c rfl (by omega) _ (fun n => Or.inl ⟨rfl, n⟩) (fun n => Or.inr ⟨rfl, n⟩)) ?_
        intro r u hr
        refine k_Ed_study_168 X Post w x2 (nI c) r e2 P e qa ka (es + 1) (e1 ||| y0) e2 e3 fq fk lf i2 i3 1 61 hqa hka (fun r0 => s179 _ (yes (neE R) ⟨r9, ?_⟩)) (fun r1 => s179 _ (no (neE R) ?_))
        · rcases hr with ⟨-, b⟩ | ⟨b, -⟩
          · exact fun q => b ((hx c hc1 (by omega)).mpr q)
          · rw [b] at r0; exact absurd r0 (by decide +kernel)
        · rcases hr with ⟨b, -⟩ | ⟨-, b⟩
          · exact absurd b r1
          · exact fun q => q.2 ((hx c hc1 (by omega)).mp b)
      refine k_Ed_study_142 X Post w x2 (nI c) y e1 P e qa ka _ e1 e2 e3 fq fk lf i2 i3 1 61 hqa hka (fun y0 => s153 _ (no (loE R) ?_)) (fun y1 => s153 _ (yes (loE R) ⟨r9, ?_⟩))
      · rcases hy with ⟨-, b⟩ | ⟨b, -⟩
        · exact fun q => b ((WI_rc hW hc1 (by omega) (by omega)).mpr q.2)
        · rw [b] at y0; exact absurd y0 (by decide +kernel)
      · rcases hy with ⟨b, -⟩ | ⟨-, b⟩
        · exact absurd b y1
        · exact (WI_rc hW hc1 (by omega) (by omega)).mp b
  have l10 : ∀ w (lf : Nat → Int64), WI R 60 lf → ∀ k c e3 x2, k + c = 10 → 1 ≤ c → (∀ n, 1 ≤ n → n < 61 → (bt x2 n ↔ ∃ k s, k < c ∧ stE R k s ∧ (s = n ∨ Rc (Eg R) s n))) → (∀ n, 1 ≤ n → n < 61 → (bt e3 n ↔ n < c ∧ enE R n)) → zc_Ed_study C Post 1 61 10 [(0, .ref e), (1, .ref w), (2, .long x2), (4, .int (nI c))] [] ([(w, .inl (C.1.2.2.2.1 1, 61, .inr (.inl lf))), (e, .inr (3, [.ref qa, .ref ka, .int 0, .long 0, .long 0, .long e3]))] ++ P) := by
    intro w lf hW k
    induction k with
    | zero =>
      intro c e3 x2 hk hc1 hx h3
      have z : (9 : Int32) < nI c := (nI_ltI (a := 9) (b := c) (by decide) (by omega)).mpr (by omega)
      refine k_Ed_study_10 X Post (P_42 := fun _ _ => True) w x2 (nI c) P e qa ka 0 0 0 e3 fq fk lf i2 i3 1 61 hqa hka (fun _ => l101 w lf x2 e3 hW (fun n n1 n2 => (hx n n1 n2).trans ⟨fun ⟨k, s, _, q2, q3⟩ => ⟨k, s, q2, q3⟩, fun ⟨k, s, q2, q3⟩ => ⟨k, s, ?_, q2, q3⟩⟩) (fun n n1 n2 => (h3 n n1 n2).trans ⟨And.right, fun q => ⟨?_, q⟩⟩) 60 1 0 0 0 rfl (by decide) hES (fun n n1 n2 => ⟨⟨fun q => absurd q (bt_0 n), fun q => absurd q.1 (by omega)⟩, ⟨fun q => absurd q (bt_0 n), fun q => absurd q.1 (by omega)⟩⟩)) (fun n => absurd z n) (fun n => absurd z n) (fun n => absurd z n) (fun n => absurd z n) (fun n => absurd z n) (fun n => absurd z n) (fun n => absurd z n)
      · have := q2.2.1; omega
      · obtain ⟨s, q2, -⟩ := q
        have := q2.2.1; omega
    | succ k ih =>
      intro c e3 x2 hk hc1 hx h3
      have z : ¬ (9 : Int32) < nI c := fun n => absurd ((nI_ltI (a := 9) (b := c) (by decide) (by omega)).mp n) (by omega)
      have hv : vp_in (nI c) 10 := vi_n (by omega) (by decide)
      have hcl : (nI c).toNatClampNeg = c := nI_clamp (by omega)
      have s92 : ∀ x2 x5 e3, (∀ n, 1 ≤ n → n < 61 → (bt x2 n ↔ ∃ k s, k < c + 1 ∧ stE R k s ∧ (s = n ∨ Rc (Eg R) s n))) → (∀ n, 1 ≤ n → n < 61 → (bt e3 n ↔ n < c + 1 ∧ enE R n)) → zc_Ed_study C Post 1 61 92 [(0, .ref e), (1, .ref w), (2, .long x2), (4, .int (nI c)), (5, .int x5)] [] ([(w, .inl (C.1.2.2.2.1 1, 61, .inr (.inl lf))), (e, .inr (3, [.ref qa, .ref ka, .int 0, .long 0, .long 0, .long e3]))] ++ P) := by
        intro x2 x5 e3 hx8 h38
        refine k_Ed_study_92 X Post w x2 (nI c) x5 P e qa ka 0 0 0 e3 fq fk lf i2 i3 1 61 hqa hka ?_
        rw [nI_1]; exact ih (c + 1) e3 x2 (by omega) (by omega) hx8 h38
      have s45 : ∀ y, ((y = 0 ∧ ∀ s, ¬ stE R c s) ∨ ∃ s, y = nI s ∧ stE R c s) → zc_Ed_study C Post 1 61 45 [(0, .ref e), (1, .ref w), (2, .long x2), (4, .int (nI c))] [.int y] ([(w, .inl (C.1.2.2.2.1 1, 61, .inr (.inl lf))), (e, .inr (3, [.ref qa, .ref ka, .int 0, .long 0, .long 0, .long e3]))] ++ P) := by
        intro y hy
        by_cases y0 : y = 0
        · have hno : ∀ s, ¬ stE R c s := by
            rcases hy with h | ⟨s, es, hs⟩
            · exact h.2
            · exfalso
              have := hs.2.2.1
              have := hs.2.2.2.1
              rw [y0, ← nI_0, nI_eq (by decide) (by omega)] at es
              omega
          refine k_Ed_study_45 X Post (P_74 := fun _ _ => True) w x2 (nI c) y P e qa ka 0 0 0 e3 fq fk lf i2 i3 1 61 hqa hka (fun _ => s92 _ _ _ (fun n n1 n2 => (hx n n1 n2).trans ⟨fun ⟨k, s, q1, q2, q3⟩ => ⟨k, s, by omega, q2, q3⟩, fun ⟨k, s, q1, q2, q3⟩ => ⟨k, s, ?_, q2, q3⟩⟩) (fun n n1 n2 => (h3 n n1 n2).trans ⟨fun q => ⟨by omega, q.2⟩, fun q => ⟨?_, q.2⟩⟩)) (fun n => absurd y0 n) (fun n => absurd y0 n) (fun n => absurd y0 n) (fun n => absurd y0 n) (fun n => absurd y0 n)
          · have : k ≠ c := fun ek => hno s (by rw [← ek]; exact q2)
            omega
          · have : n ≠ c := fun en => by obtain ⟨s, q2, -⟩ := q.2; exact hno s (by rw [← en]; exact q2)
            omega
        · obtain ⟨s, es, hs⟩ : ∃ s, y = nI s ∧ stE R c s := by
            rcases hy with h | h
            · exact absurd h.1 y0
            · exact h
          have s1 := hs.2.2.1
          have s2 := hs.2.2.2.1
          have hvy : vp_in y 61 := by rw [es]; exact vi_n (by omega) (by decide)
          have hsl : y.toNatClampNeg = s := by rw [es]; exact nI_clamp (by omega)
          refine k_Ed_study_45 X Post (P_74 := fun y _ => (y = 0 ∧ ¬ bt (lf s) 0) ∨ (y = 1 ∧ bt (lf s) 0)) w x2 (nI c) y P e qa ka 0 0 0 e3 fq fk lf i2 i3 1 61 hqa hka (fun n => absurd n y0) (fun _ => hvy) (fun _ => hvy) (fun _ => ⟨by decide, by decide⟩) (fun _ => ?_) ?_
          · rw [hsl]; exact d_hasMemberX _ _ _ 0 nI_0.symm (by decide) _ (fun n => Or.inl ⟨rfl, n⟩) (fun n => Or.inr ⟨rfl, n⟩)
          intro _ r u hr
          rw [hsl, es]
          have hx8 : ∀ n, 1 ≤ n → n < 61 → (bt (x2 ||| (((1 : Int64) <<< ((nI s).toInt64 &&& 63)) ||| lf s)) n ↔ ∃ k s, k < c + 1 ∧ stE R k s ∧ (s = n ∨ Rc (Eg R) s n)) := by
            intro n n1 n2
            rw [bt_or, bt_or, hx n n1 n2, bt_sh (by omega) n2, WI_rc hW s1 (by omega) n2]
            constructor
            · rintro (⟨k, s', q1, q2, q3⟩ | q | q)
              · exact ⟨k, s', by omega, q2, q3⟩
              · exact ⟨c, s, by omega, hs, Or.inl q.symm⟩
              · exact ⟨c, s, by omega, hs, Or.inr q⟩
            · rintro ⟨k, s', q1, q2, q3⟩
              by_cases ek : k = c
              · subst ek
                have := stE_u hs q2
                subst this
                rcases q3 with q3 | q3
                · exact Or.inr (Or.inl q3.symm)
                · exact Or.inr (Or.inr q3)
              · exact Or.inl ⟨k, s', by omega, q2, q3⟩
          have s88 : ∀ y0, (∀ n, 1 ≤ n → n < 61 → (bt y0 n ↔ n = c ∧ enE R c)) → zc_Ed_study C Post 1 61 88 [(0, .ref e), (1, .ref w), (2, .long (x2 ||| (((1 : Int64) <<< ((nI s).toInt64 &&& 63)) ||| lf s))), (4, .int (nI c)), (5, .int (nI s))] [.long y0, .long e3, .ref e] ([(w, .inl (C.1.2.2.2.1 1, 61, .inr (.inl lf))), (e, .inr (3, [.ref qa, .ref ka, .int 0, .long 0, .long 0, .long e3]))] ++ P) := by
            intro y0 hy0
            refine k_Ed_study_88 X Post w _ (nI c) (nI s) y0 e3 P e qa ka 0 0 0 e3 fq fk lf i2 i3 1 61 hqa hka (s92 _ _ _ hx8 (fun n n1 n2 => ?_))
            rw [bt_or, h3 n n1 n2, hy0 n n1 n2]
            constructor
            · rintro (⟨q1, q2⟩ | ⟨q1, q2⟩)
              · exact ⟨by omega, q2⟩
              · subst q1; exact ⟨by omega, q2⟩
            · rintro ⟨q1, q2⟩
              by_cases en : n = c
              · subst en; exact Or.inr ⟨rfl, q2⟩
              · exact Or.inl ⟨by omega, q2⟩
          refine k_Ed_study_77 X Post w _ (nI c) (nI s) r e3 P e qa ka 0 0 0 e3 fq fk lf i2 i3 1 61 hqa hka (fun r0 => s88 _ (fun n n1 n2 => (bt_sh (by omega) n2).trans ⟨fun q => ⟨q, s, hs, ?_⟩, And.left⟩)) (fun r1 => s88 _ (fun n n1 n2 => ⟨fun q => absurd q (bt_0 n), fun q => ?_⟩))
          · rcases hr with ⟨-, b⟩ | ⟨b, -⟩
            · exact fun q => b ((WI_rc hW s1 (by omega) (by decide)).mpr q)
            · rw [b] at r0; exact absurd r0 (by decide +kernel)
          · rcases hr with ⟨b, -⟩ | ⟨-, b⟩
            · exact absurd b r1
            · obtain ⟨-, s', q2, q3⟩ := q
              have := stE_u hs q2
              subst this
              exact absurd ((WI_rc hW s1 (by omega) (by decide)).mp b) q3
      have hed : edQ C.1.2.2.2.1 ([(w, .inl (C.1.2.2.2.1 1, 61, .inr (.inl lf))), (e, .inr (3, [.ref qa, .ref ka, .int 0, .long 0, .long 0, .long e3]))] ++ P) e fq := ⟨qa, ka, 0, 0, 0, e3, List.mem_cons_of_mem _ List.mem_cons_self, List.mem_cons_of_mem _ (List.mem_cons_of_mem _ h1)⟩
      have hs2 : Sub P ([(w, (.inl (C.1.2.2.2.1 1, 61, .inr (.inl lf)) : va_E)), (e, .inr (3, [.ref qa, .ref ka, .int 0, .long 0, .long 0, .long e3]))] ++ P) := Sub.app
      have hek := hE.2 c hc1 (by omega)
      refine zW_D (fun hu => ?_)
      refine k_Ed_study_10 X Post (P_42 := fun y u => ((y = 0 ∧ ∀ s, ¬ stE R c s) ∨ ∃ s, y = nI s ∧ stE R c s) ∧ u = [(w, .inl (C.1.2.2.2.1 1, 61, .inr (.inl lf))), (e, .inr (3, [.ref qa, .ref ka, .int 0, .long 0, .long 0, .long e3]))] ++ P) w x2 (nI c) P e qa ka 0 0 0 e3 fq fk lf i2 i3 1 61 hqa hka (fun n => absurd n z) (fun _ => hv) (fun _ _ => hv) (fun _ n => ?_) (fun _ _ _ _ _ _ _ _ _ => ⟨by decide, by decide⟩) (fun _ _ a9 i9 u0 u1 u2 ea9 hi9 => ?_) ?_ (fun _ n => s45 0 (Or.inl ⟨rfl, fun s hs => ?_⟩))
      · rcases hek with q | ⟨a, d, q1, q2, l9, xs9, w9, hm9, -⟩
        · rw [hcl] at n; exact absurd q.1 n
        · obtain ⟨i, hi⟩ := List.getElem?_of_mem hm9
          exact ⟨a, i, d.1, d.2.1, l9, by rw [hcl]; exact q1, hi⟩
      · rcases hek with q | ⟨a, d, q1, q2, l9, xs9, w9, hm9, -⟩
        · rw [hcl, q.1] at ea9; cases ea9
        · rw [hcl, q1] at ea9
          cases ea9
          have e0 : u0 = d.1 := by
            have := hu _ _ _ (hs2 _ (List.mem_of_getElem? hi9)) (hs2 _ hm9)
            cases this; rfl
          rw [e0]
          refine d_asNextR _ e _ _ fq fk R (hE.mono hs2) hed _ ⟨?_, rfl⟩
          obtain ⟨m, hm, em⟩ := nxR_c R d.1
          by_cases m0 : m = 0
          · subst m0
            refine Or.inl ⟨em.trans nI_0, fun s hs => ?_⟩
            obtain ⟨-, -, s1, s2, d', w1, w2⟩ := hs
            rw [q2] at w1; cases w1
            rw [em, nI_eq (by decide) (by omega)] at w2
            omega
          · exact Or.inr ⟨m, em, hc1, by omega, by omega, hm, d, q2, em⟩
      · rintro _ _ _ _ _ _ _ _ _ y u ⟨hy, hu9⟩
        rw [hu9]
        exact s45 y hy
      · rw [hcl] at n
        rcases hek with q | ⟨a, d, q1, -⟩
        · obtain ⟨-, -, -, -, d', w1, -⟩ := hs
          rw [q.2] at w1; cases w1
        · rw [q1] at n; cases n
  have hsub : Sub P ([(e, .inr (3, [.ref qa, .ref ka, .int 0, .long 0, .long 0, .long 0]))] ++ P) := Sub.cons
  refine k_Ed_study_0 X Post (P_1 := fun y u => ∃ w lf, y = some w ∧ WI R 60 lf ∧ u = [(w, .inl (C.1.2.2.2.1 1, 61, .inr (.inl lf)))] ++ ([(e, .inr (3, [.ref qa, .ref ka, .int 0, .long 0, .long 0, .long 0]))] ++ P)) P e qa ka 0 0 0 0 fq fk (fun _ => 0) i2 i3 0 0 hqa hka ⟨by decide, by decide⟩ (d_waysByJumpsX _ e _ fq fk R (hE.mono hsub) ⟨qa, ka, 0, 0, 0, 0, List.mem_cons_self, List.mem_cons_of_mem _ h1⟩ _ (fun w lf hw => ⟨w, lf, rfl, hw, rfl⟩)) ?_
  rintro y u ⟨w, lf, rfl, hW, rfl⟩
  exact k_Ed_study_4 X Post w P e qa ka 0 0 0 0 fq fk lf i2 i3 1 61 hqa hka (l10 w lf hW 9 1 0 0 rfl (by decide) (fun n n1 n2 => ⟨fun q => absurd q (bt_0 n), fun ⟨k, s, q1, q2, _⟩ => absurd q1 (by have := q2.1; omega)⟩) (fun n n1 n2 => ⟨fun q => absurd q (bt_0 n), fun q => absurd q.1 (by omega)⟩))
-- member i of a set
theorem d_memberOfX (T : ST) (x0 : Int64) (n : Nat) (hn : n < 2 ^ 31) (Post : Int32 → va_W → Prop) (hq : ∀ m, mbP (bt x0) 60 1 n m → Post (nI m) []) : uI T y_Q_memberOf (Cond.code y_Q_memberOf b_Q_memberOf 5 (some .int)) 1 0 0 [.long x0, .int (nI n)] [] Post := by
  refine e_Q_memberOf T Post x0 (nI n) ?_
  rintro C rfl X
  have loop : ∀ k c b, k + c = 61 → b ≤ n → (∀ m, mbP (bt x0) k c (n - b) m → mbP (bt x0) 60 1 n m) → zc_Q_memberOf C Post 0 0 5 [(0, .long x0), (2, .int (nI n)), (3, .int (nI b)), (4, .int (nI c))] [] [] := by
    intro k
    induction k with
    | zero =>
      intro c b hk hb hI
      have z : (60 : Int32) < nI c := (nI_ltI (a := 60) (b := c) (by decide) (by omega)).mpr (by omega)
      exact k_Q_memberOf_5 X Post (P_15 := fun _ _ => True) x0 (nI n) (nI b) (nI c) 0 0 (fun _ => ⟨by decide, by decide⟩) (fun _ => hq 0 (hI 0 rfl)) (fun n => absurd z n) (fun n => absurd z n) (fun n => absurd z n)
    | succ k ih =>
      intro c b hk hb hI
      have z : ¬ (60 : Int32) < nI c := fun n => absurd ((nI_ltI (a := 60) (b := c) (by decide) (by omega)).mp n) (by omega)
      have s32 : ∀ b, b ≤ n → (∀ m, mbP (bt x0) k (c + 1) (n - b) m → mbP (bt x0) 60 1 n m) → zc_Q_memberOf C Post 0 0 32 [(0, .long x0), (2, .int (nI n)), (3, .int (nI b)), (4, .int (nI c))] [] [] := by
        intro b hb hI
        refine k_Q_memberOf_32 X Post x0 (nI n) (nI b) (nI c) 0 0 ?_
        rw [nI_1]; exact ih (c + 1) b (by omega) hb hI
      have ebn : nI b = nI n ↔ b = n := nI_eq (by omega) hn
      refine k_Q_memberOf_5 X Post (P_15 := fun y _ => (y = 0 ∧ ¬ bt x0 c) ∨ (y = 1 ∧ bt x0 c)) x0 (nI n) (nI b) (nI c) 0 0 (fun n => absurd n z) (fun n => absurd n z) (fun _ => ⟨by decide, by decide⟩) (fun _ => d_hasMemberX _ _ _ c rfl (by omega) _ (fun n => Or.inl ⟨rfl, n⟩) (fun n => Or.inr ⟨rfl, n⟩)) (fun _ y u hy => ?_)
      have yes : ¬ y = 0 → bt x0 c := fun n => hy.elim (fun q => absurd q.1 n) And.right
      refine k_Q_memberOf_18 X Post x0 (nI n) (nI b) (nI c) y 0 0 (fun y0 => s32 b hb (fun m hm => hI m (Or.inr (Or.inr ⟨?_, hm⟩)))) (fun y1 e1 => ?_) (fun _ _ => ⟨by decide, by decide⟩) (fun y1 e1 => hq c (hI c (Or.inl ⟨yes y1, ?_, rfl⟩)))
      · rcases hy with ⟨-, q⟩ | ⟨q, -⟩
        · exact q
        · rw [q] at y0; exact absurd y0 (by decide +kernel)
      · have hbn : ¬ b = n := fun q => e1 (ebn.mpr q)
        rw [nI_1]
        refine s32 (b + 1) (by omega) (fun m hm => hI m (Or.inr (Or.inl ⟨yes y1, by omega, ?_⟩)))
        rw [show n - b - 1 = n - (b + 1) by omega]; exact hm
      · have := ebn.mp e1; omega
  exact k_Q_memberOf_0 X Post x0 (nI n) 0 0 (loop 60 1 0 rfl (Nat.zero_le _) (fun m hm => hm))
theorem d_loop (T : ST) (S : ES) (f : FT) (r : Nat → Nat → Option Nat) (c L : Nat) (x : Int32) (g : GT) (rr : Nat → Nat → Option Nat) (fc : FT) (gc : GT) (P : va_W) (h : CF S T.2.2.2.1 L f r c g rr fc gc P) (hlt : T.1.stackTraces = false) (v : Int32) : xI T y_Q_loop (Cond.code y_Q_loop b_Q_loop 2 (some .int)) 2 1 6 [.ref (ad T 24), .int v] (WX T f r c L x g rr fc gc P) (fun y u => mbV (loE (S.1 S.2.2.1)) v y ∧ CW S T L u) (fun E u => (E = IAE ∧ ¬ 0 ≤ v) ∧ CW S T L u) := by
  obtain ⟨qa, ka, es, e1, e2, e3, fq, fk, h1, -, -, -, -, -, -, hb⟩ := h.2.2.2.2.2.ch
  obtain ⟨i1, hf⟩ := List.getElem?_of_mem h1
  refine e_Q_loop T hlt _ _ v f r c (tsX L x) g rr fc gc P qa ka es e1 e2 e3 ?_
  rintro C rfl X
  refine k_Q_loop_0 X _ _ (P_22 := fun y _ => mbV (loE (S.1 S.2.2.1)) v y) v f r c (tsX L x) g rr fc gc P qa ka es e1 e2 e3 i1 0 0 hf (fun _ => ⟨by decide, by decide⟩) (fun z => ?_) (fun _ y u hy => k_Q_loop_25 X _ _ v y f r c (tsX L x) g rr fc gc P qa ka es e1 e2 e3 i1 0 0 hf ⟨by decide, by decide⟩ ⟨hy, CW.of h⟩) (fun _ => ⟨by decide, by decide⟩) (fun z => ⟨⟨rfl, z⟩, CW.of h⟩)
  obtain ⟨n, hn, ev⟩ := nI_of (x := v) (fun q => absurd z (by rw [Int32.not_le]; exact q))
  subst ev
  exact d_memberOfX _ e1 n hn _ (fun m hm => ⟨n, m, rfl, hn, rfl, mb_c (fun j j1 j2 => (hb j j1 j2).1) hm⟩)
theorem d_never (T : ST) (S : ES) (f : FT) (r : Nat → Nat → Option Nat) (c L : Nat) (x : Int32) (g : GT) (rr : Nat → Nat → Option Nat) (fc : FT) (gc : GT) (P : va_W) (h : CF S T.2.2.2.1 L f r c g rr fc gc P) (hlt : T.1.stackTraces = false) (v : Int32) : xI T y_Q_never (Cond.code y_Q_never b_Q_never 2 (some .int)) 2 1 6 [.ref (ad T 24), .int v] (WX T f r c L x g rr fc gc P) (fun y u => mbV (neE (S.1 S.2.2.1)) v y ∧ CW S T L u) (fun E u => (E = IAE ∧ ¬ 0 ≤ v) ∧ CW S T L u) := by
  obtain ⟨qa, ka, es, e1, e2, e3, fq, fk, h1, -, -, -, -, -, -, hb⟩ := h.2.2.2.2.2.ch
  obtain ⟨i1, hf⟩ := List.getElem?_of_mem h1
  refine e_Q_never T hlt _ _ v f r c (tsX L x) g rr fc gc P qa ka es e1 e2 e3 ?_
  rintro C rfl X
  refine k_Q_never_0 X _ _ (P_22 := fun y _ => mbV (neE (S.1 S.2.2.1)) v y) v f r c (tsX L x) g rr fc gc P qa ka es e1 e2 e3 i1 0 0 hf (fun _ => ⟨by decide, by decide⟩) (fun z => ?_) (fun _ y u hy => k_Q_never_25 X _ _ v y f r c (tsX L x) g rr fc gc P qa ka es e1 e2 e3 i1 0 0 hf ⟨by decide, by decide⟩ ⟨hy, CW.of h⟩) (fun _ => ⟨by decide, by decide⟩) (fun z => ⟨⟨rfl, z⟩, CW.of h⟩)
  obtain ⟨n, hn, ev⟩ := nI_of (x := v) (fun q => absurd z (by rw [Int32.not_le]; exact q))
  subst ev
  exact d_memberOfX _ e2 n hn _ (fun m hm => ⟨n, m, rfl, hn, rfl, mb_c (fun j j1 j2 => (hb j j1 j2).2.1) hm⟩)
theorem d_endless (T : ST) (S : ES) (f : FT) (r : Nat → Nat → Option Nat) (c L : Nat) (x : Int32) (g : GT) (rr : Nat → Nat → Option Nat) (fc : FT) (gc : GT) (P : va_W) (h : CF S T.2.2.2.1 L f r c g rr fc gc P) (hlt : T.1.stackTraces = false) (v : Int32) : xI T y_Q_endless (Cond.code y_Q_endless b_Q_endless 2 (some .int)) 2 1 6 [.ref (ad T 24), .int v] (WX T f r c L x g rr fc gc P) (fun y u => mbV (enE (S.1 S.2.2.1)) v y ∧ CW S T L u) (fun E u => (E = IAE ∧ ¬ 0 ≤ v) ∧ CW S T L u) := by
  obtain ⟨qa, ka, es, e1, e2, e3, fq, fk, h1, -, -, -, -, -, -, hb⟩ := h.2.2.2.2.2.ch
  obtain ⟨i1, hf⟩ := List.getElem?_of_mem h1
  refine e_Q_endless T hlt _ _ v f r c (tsX L x) g rr fc gc P qa ka es e1 e2 e3 ?_
  rintro C rfl X
  refine k_Q_endless_0 X _ _ (P_22 := fun y _ => mbV (enE (S.1 S.2.2.1)) v y) v f r c (tsX L x) g rr fc gc P qa ka es e1 e2 e3 i1 0 0 hf (fun _ => ⟨by decide, by decide⟩) (fun z => ?_) (fun _ y u hy => k_Q_endless_25 X _ _ v y f r c (tsX L x) g rr fc gc P qa ka es e1 e2 e3 i1 0 0 hf ⟨by decide, by decide⟩ ⟨hy, CW.of h⟩) (fun _ => ⟨by decide, by decide⟩) (fun z => ⟨⟨rfl, z⟩, CW.of h⟩)
  obtain ⟨n, hn, ev⟩ := nI_of (x := v) (fun q => absurd z (by rw [Int32.not_le]; exact q))
  subst ev
  exact d_memberOfX _ e3 n hn _ (fun m hm => ⟨n, m, rfl, hn, rfl, mb_c (fun j j1 j2 => (hb j j1 j2).2.2) hm⟩)
