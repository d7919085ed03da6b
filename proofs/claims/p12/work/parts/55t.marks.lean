-- the reference's marks, exactly: what spreads, loops, never, endless say of an edition's rows
def Mk (g : GT) (x : Nat) : Prop := x < 61 ∧ ¬ g 17 x = 0
def tgA (d : QD) (i : Nat) : Int32 := (d.2.2.2.2.1[i]?).elim d.2.2.2.2.2.2.2.1 (fun e => e.2.2.1)
theorem tgA_in {d : QD} {i : Nat} {e : JD} (h : d.2.2.2.2.1[i]? = some e) : tgA d i = e.2.2.1 := congrArg (fun o : Option JD => o.elim d.2.2.2.2.2.2.2.1 (fun e => e.2.2.1)) h
theorem tgA_out {d : QD} {i : Nat} (h : d.2.2.2.2.1.length ≤ i) : tgA d i = d.2.2.2.2.2.2.2.1 := congrArg (fun o : Option JD => o.elim d.2.2.2.2.2.2.2.1 (fun e => e.2.2.1)) (List.getElem?_eq_none h)
theorem tg_row {g : GT} {K : Nat} {d : QD} (h : QR g K d) {i : Nat} (hi : i ≤ d.2.2.2.2.1.length) : g 8 ((K * 6 + i) * 4 + 2) = tgA d i := by
  obtain ⟨-, -, -, -, -, -, j1, j2, j3, j4, j5⟩ := h
  by_cases c : i < d.2.2.2.2.1.length
  · have e := List.getElem?_eq_getElem c
    rw [tgA_in e]
    exact (j3 i _ e).2.2.1
  · have e : i = d.2.2.2.2.1.length := by omega
    rw [tgA_out (by omega), e]
    exact j4
theorem tg_len {g : GT} {K : Nat} {d : QD} (h : QR g K d) : g 7 K = nI (d.2.2.2.2.1.length + 1) ∧ d.2.2.2.2.1.length ≤ 5 := ⟨h.2.2.2.2.2.2.1, h.2.2.2.2.2.2.2.1⟩
theorem tgB_i {R : RD} {d : QD} {n : Nat} : tgB R d n ↔ ∃ i, i ≤ d.2.2.2.2.1.length ∧ nxR R (tgA d i) = nI n := by
  constructor
  · rintro (⟨i, e, h1, h2⟩ | h)
    · refine ⟨i, ?_, by rw [tgA_in h1]; exact h2⟩
      obtain ⟨hi, -⟩ := List.getElem?_eq_some_iff.mp h1
      omega
    · exact ⟨_, Nat.le_refl _, by rw [tgA_out (Nat.le_refl _)]; exact h⟩
  · rintro ⟨i, h1, h2⟩
    by_cases c : i < d.2.2.2.2.1.length
    · have e := List.getElem?_eq_getElem c
      rw [tgA_in e] at h2
      exact Or.inl ⟨i, _, e, h2⟩
    · rw [tgA_out (by omega)] at h2
      exact Or.inr h2
theorem pq_is {g : GT} {K : Nat} {o : Option QD} (h : PQ g K o) : g 1 K = if o.isSome = true then 1 else 0 := by
  cases o with
  | none => rw [h.1 rfl]; rfl
  | some d => rw [(h.2 d rfl).1.1]; rfl
theorem iT_nx {f : FT} {g : GT} {R : RD} {c m : Nat} (h4 : f 4 = nI c) (gq : ∀ q, 1 ≤ q → q < 61 → PQ g (c * 61 + q) (R.1 q)) (hc : c ≤ 8) (hm : m ≤ 60) : (iT f g (nI m) = 0 ∧ nxR R (nI m) = 0 ∧ (m = 0 ∨ R.1 m = none)) ∨ (¬ iT f g (nI m) = 0 ∧ nxR R (nI m) = nI m ∧ 1 ≤ m ∧ ∃ d, R.1 m = some d) := by
  by_cases c0 : m = 0
  · subst c0
    exact Or.inl ⟨if_pos (show nI 0 ≤ (0 : Int32) by decide +kernel), if_pos (show nI 0 < 1 ∨ ¬ nI 0 ≤ 60 from Or.inl (by decide +kernel)), Or.inl rfl⟩
  · have hm0 : ¬ nI m ≤ (0 : Int32) := fun y => absurd ((nI_leI (a := m) (b := 0) (by omega) (by decide)).mp y) (by omega)
    have hr : ¬ (nI m < 1 ∨ ¬ nI m ≤ 60) := fun y => by
      rcases y with y | y
      · exact absurd y (nI_nlt (a := m) (b := 1) (by omega) (by omega))
      · exact y (nI_le (b := 60) hm (by decide))
    have e1 : g 1 ((f 4 * 61) + nI m : Int32).toNatClampNeg = if (R.1 m).isSome = true then 1 else 0 := by
      rw [h4, nI_61 (by omega) (by omega)]
      exact pq_is (gq m (by omega) (by omega))
    have e2 : iT f g (nI m) = if (if (R.1 m).isSome = true then (1 : Int32) else 0) = 0 then 0 else 1 := by
      unfold iT
      rw [if_neg hm0, e1]
    have e3 : nxR R (nI m) = if (R.1 m).isSome = true then nI m else 0 := by
      unfold nxR
      rw [if_neg hr, nI_clamp (by omega)]
    by_cases hs : (R.1 m).isSome = true
    · rw [if_pos hs] at e2 e3
      rw [if_neg (show ¬ (1 : Int32) = 0 by decide +kernel)] at e2
      obtain ⟨d, hd⟩ := Option.isSome_iff_exists.mp hs
      exact Or.inr ⟨by rw [e2]; decide +kernel, e3, by omega, d, hd⟩
    · rw [if_neg hs] at e2 e3
      rw [if_pos rfl] at e2
      refine Or.inl ⟨e2, e3, Or.inr ?_⟩
      cases h : R.1 m with
      | none => rfl
      | some d => exact absurd (by rw [h]; rfl) hs
theorem Mk_set {g : GT} {a : Nat} (ha : a < 61) (x : Nat) : Mk (va_up g 17 (upd (g 17) a (vp_nar .boolean 1))) x ↔ Mk g x ∨ x = a := by
  unfold Mk
  rw [up_same]
  by_cases c : x = a
  · subst c
    rw [upd_same]
    exact ⟨fun _ => Or.inr rfl, fun _ => ⟨ha, by rw [nar1]; decide +kernel⟩⟩
  · rw [upd_other _ _ c]
    exact ⟨Or.inl, fun h => h.resolve_right c⟩
theorem nx0 {y : Nat} (hy : y ≤ 60) (h : nI y = 0) : y = 0 := by
  rw [← nI_0, nI_eq (by omega) (by decide)] at h
  exact h
theorem c_unmarkX (T : ST) (Z : ZT) (t : Nat) (f : FT) (g : GT) (hT : TI Z t f g) (Post : FT → GT → Prop) (hq : ∀ g', TI Z t f g' → (∀ j, j ≠ 17 → g' j = g j) → (∀ x, ¬ Mk g' x) → Post f g') : mV T y_Mo_unmark (Cond.code y_Mo_unmark b_Mo_unmark 2 none) 0 [.ref (ad T 0)] f g Post := by
  refine e_Mo_unmark T Post f g ?_
  rintro C rfl X
  have loop : ∀ j i g2, j + i = 61 → TI Z t f g2 → (∀ j, j ≠ 17 → g2 j = g j) → (∀ x, x < i → g2 17 x = 0) → zn_unmark C Post 2 [(0, .ref (ad C.1 0)), (1, .int (nI i))] [] f g2 := by
    intro j
    induction j with
    | zero =>
      intro i g2 hj h2 hf h0
      have h61 : (61 : Int32) ≤ nI i := (nI_leI (a := 61) (b := i) (by decide) (by omega)).mpr (by omega)
      exact k_Mo_unmark_2 X Post _ _ _ (fun _ => hq _ h2 hf (fun x hx => hx.2 (h0 x (by have := hx.1; omega)))) (fun z => absurd h61 z) (fun z => absurd h61 z)
    | succ j ih =>
      intro i g2 hj h2 hf h0
      have h61 : ¬ (61 : Int32) ≤ nI i := fun z => absurd ((nI_leI (a := 61) (b := i) (by decide) (by omega)).mp z) (by omega)
      refine k_Mo_unmark_2 X Post _ _ _ (fun z => absurd z h61) (fun _ => vi_n (by omega) (by decide)) (fun _ => ?_)
      rw [nI_1]
      refine ih (i + 1) _ (by omega) (TI_g h2 (GI_mark h2.2.2.2.2.2.2.2 _ _ (Or.inl rfl))) (fun j hj => (up_other _ _ hj).trans (hf j hj)) (fun x hx => ?_)
      rw [up_same, nI_clamp (by omega)]
      by_cases c : x = i
      · rw [c, upd_same]; exact nar0
      · rw [upd_other _ _ c]; exact h0 x (by omega)
  exact k_Mo_unmark_0 X Post _ _ (loop 61 0 g rfl hT (fun _ _ => rfl) (fun x hx => absurd hx (Nat.not_lt_zero _)))
-- what holds of the marks while they spread
def MI (R : RD) (I : Nat → Prop) (x1 : Int32) (g : GT) : Prop := (∀ x, I x → Mk g x) ∧ (∀ x, Mk g x → 1 ≤ x ∧ ∃ d, R.1 x = some d) ∧ (∀ N : Nat → Prop, (∀ x, I x → N x) → (∀ m y, N m → Eg R m y → N y) → ∀ x, Mk g x → N x) ∧ (¬ x1 = 0 → ∃ m, Mk g m ∧ Eg R m 0)
def MC (R : RD) (q : Nat) (x1 : Int32) (g : GT) : Prop := ∀ q', q' < q → Mk g q' → (∀ y, Eg R q' y → ¬ y = 0 → Mk g y) ∧ (Eg R q' 0 → ¬ x1 = 0)
def MD (R : RD) (d : QD) (i : Nat) (x1 : Int32) (g : GT) : Prop := ∀ i', i' < i → (nxR R (tgA d i') = 0 → ¬ x1 = 0) ∧ ∀ y, y ≤ 60 → nxR R (tgA d i') = nI y → ¬ y = 0 → Mk g y
theorem MD_MC {R : RD} {q : Nat} {x1 : Int32} {g : GT} (h : MC R q x1 g) (hd : Mk g q → ∃ d, R.1 q = some d ∧ MD R d (d.2.2.2.2.1.length + 1) x1 g) : MC R (q + 1) x1 g := by
  intro q' hq' hm
  by_cases c : q' = q
  · subst c
    obtain ⟨d, e, hD⟩ := hd hm
    have key : ∀ y, Eg R q' y → ∃ i, i < d.2.2.2.2.1.length + 1 ∧ nxR R (tgA d i) = nI y ∧ y ≤ 60 := by
      rintro y ⟨-, -, y60, d', e', ht⟩
      have ed : d' = d := Option.some.inj (e'.symm.trans e)
      rw [ed] at ht
      obtain ⟨i, h1, h2⟩ := tgB_i.mp ht
      exact ⟨i, by omega, h2, y60⟩
    refine ⟨fun y hy hy0 => ?_, fun hy => ?_⟩
    · obtain ⟨i, h1, h2, h3⟩ := key y hy
      exact (hD i h1).2 y h3 h2 hy0
    · obtain ⟨i, h1, h2, -⟩ := key 0 hy
      exact (hD i h1).1 (h2.trans nI_0)
  · exact h q' (by omega) hm
theorem MC_1 {R : RD} {q : Nat} {x1 : Int32} {g : GT} (h : MC R q x1 g) : MC R q 1 g := fun q' hq' hm => ⟨(h q' hq' hm).1, fun _ => by decide +kernel⟩
theorem Eg_i {R : RD} {q y i : Nat} {d : QD} (h1 : 1 ≤ q) (h2 : q ≤ 60) (hy : y ≤ 60) (e : R.1 q = some d) (hi : i ≤ d.2.2.2.2.1.length) (hn : nxR R (tgA d i) = nI y) : Eg R q y := ⟨h1, h2, hy, d, e, tgB_i.mpr ⟨i, hi, hn⟩⟩
set_option maxHeartbeats 1000000 in
theorem c_spreadsX (T : ST) (Z : ZT) (t : Nat) (f : FT) (g : GT) (hT : TI Z t f g) (R : RD) (c : Nat) (ec : f 4 = nI c) (hc : c ≤ 8) (gq : ∀ q, 1 ≤ q → q < 61 → PQ g (c * 61 + q) (R.1 q)) (hv : ∀ x, Mk g x → 1 ≤ x ∧ ∃ d, R.1 x = some d) (Post : Int32 → FT → GT → Prop) (hq : ∀ r g', TI Z t f g' → (∀ j, j ≠ 17 → g' j = g j) → Spr (Eg R) (Mk g) (Mk g') → (¬ r = 0 ↔ ∃ m, Mk g' m ∧ Eg R m 0) → Post r f g') : mI T y_Mo_spreads (Cond.code y_Mo_spreads b_Mo_spreads 7 (some .boolean)) 1 [.ref (ad T 0)] f g Post := by
  refine e_Mo_spreads T Post f g ?_
  rintro C rfl X
  have rows : ∀ g2 : GT, (∀ j, j ≠ 17 → g2 j = g j) → ∀ q, 1 ≤ q → q < 61 → PQ g2 (c * 61 + q) (R.1 q) := fun g2 hf q q1 q2 => (gq q q1 q2).same (RQ_o (fun a _ a2 => hf a (by omega)))
  have stop : ∀ x1 g2, (x1 = 0 ∨ x1 = 1) → TI Z t f g2 → (∀ j, j ≠ 17 → g2 j = g j) → MI R (Mk g) x1 g2 → MC R 61 x1 g2 → zn_spreads C Post 4 [(0, .ref (ad C.1 0)), (1, .int x1), (2, .int 0)] [] f g2 := fun x1 g2 h1 h2 hf hI hC => k_Mo_spreads_4 X Post _ _ _ _ (fun _ => hq _ _ h2 hf ⟨hI.1, fun m y hm he hy => (hC m hm.1 hm).1 y he hy, hI.2.2.1⟩ ⟨hI.2.2.2, fun ⟨m, a, b⟩ => (hC m a.1 a).2 b⟩) (fun _ => nar01 h1) (fun z => absurd rfl z)
  have outer : ∀ U x1 g2, (x1 = 0 ∨ x1 = 1) → TI Z t f g2 → (∀ j, j ≠ 17 → g2 j = g j) → MI R (Mk g) x1 g2 → uc (g2 17) 61 < U → zn_spreads C Post 4 [(0, .ref (ad C.1 0)), (1, .int x1), (2, .int 1)] [] f g2 := by
    intro U
    induction U with
    | zero => intro x1 g2 _ _ _ _ h; omega
    | succ U ihU =>
      intro x1 g2 h1 h2 hf hI hu
      have mid : ∀ j q x1 x2 g2, j + q = 61 → 1 ≤ q → (x1 = 0 ∨ x1 = 1) → TI Z t f g2 → (∀ j, j ≠ 17 → g2 j = g j) → MI R (Mk g) x1 g2 → (x2 = 0 → MC R q x1 g2) → uc (g2 17) 61 ≤ U → (x2 = 0 ∨ (x2 = 1 ∧ uc (g2 17) 61 < U)) → zn_spreads C Post 12 [(0, .ref (ad C.1 0)), (1, .int x1), (2, .int x2), (3, .int (nI q))] [] f g2 := by
        intro j
        induction j with
        | zero =>
          intro q x1 x2 g2 hj hq1 h1 h2 hf hI hC hu h3
          have e61 : q = 61 := by omega
          subst e61
          have h61 : (61 : Int32) ≤ nI 61 := (nI_leI (a := 61) (b := 61) (by decide) (by decide)).mpr (by decide)
          refine k_Mo_spreads_12 X Post _ _ _ _ _ (fun _ => ?_) (fun z => absurd h61 z)
          rcases h3 with rfl | ⟨rfl, h3⟩
          · exact stop x1 g2 h1 h2 hf hI (hC rfl)
          · exact ihU x1 g2 h1 h2 hf hI h3
        | succ j ih =>
          intro q x1 x2 g2 hj hq1 h1 h2 hf hI hC hu h3
          have h61 : ¬ (61 : Int32) ≤ nI q := fun z => absurd ((nI_leI (a := 61) (b := q) (by decide) (by omega)).mp z) (by omega)
          have eK := K61 (q := q) ec
          have hk : c * 61 + q < 610 := by omega
          have inner : ∀ j2 i x1 x2 g2, j2 + i = 7 → i ≤ 6 → (x1 = 0 ∨ x1 = 1) → TI Z t f g2 → (∀ j, j ≠ 17 → g2 j = g j) → MI R (Mk g) x1 g2 → (x2 = 0 → MC R q x1 g2 ∧ ∀ d, R.1 q = some d → MD R d i x1 g2) → uc (g2 17) 61 ≤ U → (x2 = 0 ∨ (x2 = 1 ∧ uc (g2 17) 61 < U)) → zn_spreads C Post 32 [(0, .ref (ad C.1 0)), (1, .int x1), (2, .int x2), (3, .int (nI q)), (4, .int (nI (c * 61 + q))), (5, .int (nI i))] [] f g2 := by
            intro j2
            induction j2 with
            | zero => intro i x1 x2 g2 hj2 hi; omega
            | succ j2 ih2 =>
              intro i x1 x2 g2 hj2 hi h1 h2 hf hI hC hu h3
              have hg := h2.2.2.2.2.2.2.2
              have hrow := rows g2 hf
              have hql : (nI q).toNatClampNeg = q := nI_clamp (by omega)
              have hkl : (nI (c * 61 + q)).toNatClampNeg = c * 61 + q := nI_clamp (by omega)
              have s112 : (x2 = 0 → MC R (q + 1) x1 g2) → zn_spreads C Post 112 [(0, .ref (ad C.1 0)), (1, .int x1), (2, .int x2), (3, .int (nI q)), (4, .int (nI (c * 61 + q))), (5, .int (nI i))] [] f g2 := by
                intro hC2
                refine k_Mo_spreads_112 X Post _ _ _ _ _ _ _ ?_
                rw [nI_1]
                exact ih (q + 1) x1 x2 g2 (by omega) (by omega) h1 h2 hf hI hC2 hu h3
              have qd : ¬ g2 17 q = 0 → ∃ d, R.1 q = some d ∧ QR g2 (c * 61 + q) d := fun n => by
                obtain ⟨-, d, e⟩ := hI.2.1 q ⟨by omega, n⟩
                exact ⟨d, e, ((hrow q hq1 (by omega)).2 d e).1⟩
              refine k_Mo_spreads_32 X Post (P_75 := fun r f' g' => r = iT f g2 (g2 8 (((c * 61 + q) * 6 + i) * 4 + 2)) ∧ f' = f ∧ g' = g2) _ _ _ _ _ _ _ (vi_n hk (by decide)) (fun z => s112 (fun e2 => ?_)) (fun _ => vi_n (by omega) (by decide)) (fun _ z => s112 (fun e2 => ?_)) ?_ ?_ ?_
              · refine MD_MC (hC e2).1 (fun hm => ?_)
                obtain ⟨d, e, hQ⟩ := qd hm.2
                obtain ⟨hl1, hl2⟩ := tg_len hQ
                rw [hkl, hl1, nI_leI (by omega) (by omega)] at z
                exact ⟨d, e, fun i' hi' => (hC e2).2 d e i' (by omega)⟩
              · rw [hql] at z
                exact MD_MC (hC e2).1 (fun hm => absurd z hm.2)
              · intro z n
                rw [hql] at n
                obtain ⟨d, e, hQ⟩ := qd n
                obtain ⟨hl1, hl2⟩ := tg_len hQ
                rw [hkl, hl1, nI_leI (by omega) (by omega)] at z
                rw [J42]; exact vi_n (by omega) (by decide)
              · intro z n
                rw [hql] at n
                obtain ⟨d, e, hQ⟩ := qd n
                obtain ⟨hl1, hl2⟩ := tg_len hQ
                rw [hkl, hl1, nI_leI (by omega) (by omega)] at z
                rw [J42, nI_clamp (by omega)]
                exact c_isThere _ _ _ _ h2.2.2.2.1 (hg.2.2.1 _ (by omega)) _ ⟨rfl, rfl, rfl⟩
              · rintro z n r f3 g3 ⟨hr, rfl, rfl⟩
                rw [hql] at n
                obtain ⟨d, e, hQ⟩ := qd n
                obtain ⟨hl1, hl2⟩ := tg_len hQ
                rw [hkl, hl1, nI_leI (by omega) (by omega)] at z
                have hil : i ≤ d.2.2.2.2.1.length := by omega
                rw [J42, nI_clamp (by omega)]
                obtain ⟨to, eto, hto⟩ := hg.2.2.1 (((c * 61 + q) * 6 + i) * 4 + 2) (by omega)
                rw [eto] at hr ⊢
                have etg : tgA d i = nI to := (tg_row hQ hil).symm.trans eto
                have hv2 : vp_in (nI to) 61 := vi_n (by omega) (by decide)
                have htl : (nI to).toNatClampNeg = to := nI_clamp (by omega)
                have go : ∀ x1 x2 g2, (x1 = 0 ∨ x1 = 1) → TI Z t f3 g2 → (∀ j, j ≠ 17 → g2 j = g j) → MI R (Mk g) x1 g2 → (x2 = 0 → MC R q x1 g2 ∧ ∀ d, R.1 q = some d → MD R d (i + 1) x1 g2) → uc (g2 17) 61 ≤ U → (x2 = 0 ∨ (x2 = 1 ∧ uc (g2 17) 61 < U)) → zn_spreads C Post 106 [(0, .ref (ad C.1 0)), (1, .int x1), (2, .int x2), (3, .int (nI q)), (4, .int (nI (c * 61 + q))), (5, .int (nI i)), (6, .int (nI to))] [] f3 g2 := by
                  intro x1 x2 g2 h1 h2 hf hI hC hu h3
                  refine k_Mo_spreads_106 X Post _ _ _ _ _ _ _ _ ?_
                  rw [nI_1]
                  exact ih2 (i + 1) x1 x2 g2 (by omega) (by omega) h1 h2 hf hI hC hu h3
                have hdd : ∀ d', R.1 q = some d' → d' = d := fun d' e' => Option.some.inj (e'.symm.trans e)
                rcases iT_nx ec hrow hc hto with ⟨n1, n2, -⟩ | ⟨n1, n2, n3, d2, n4⟩
                · rw [n1] at hr
                  have hE0 : Eg R q 0 := Eg_i hq1 (by omega) (by decide) e hil (by rw [etg, n2]; exact nI_0.symm)
                  refine k_Mo_spreads_78 X Post _ _ _ _ _ _ _ _ _ (fun n => absurd hr n) (fun n => absurd hr n) (fun n => absurd hr n) (fun n => absurd hr n) (fun _ => go 1 x2 g3 (Or.inr rfl) h2 hf ⟨hI.1, hI.2.1, hI.2.2.1, fun _ => ⟨q, ⟨by omega, n⟩, hE0⟩⟩ (fun e2 => ⟨MC_1 (hC e2).1, fun d' e' i' hi' => ⟨fun _ => by decide +kernel, fun y y60 hy y0 => ?_⟩⟩) hu h3)
                  by_cases ci : i' = i
                  · rw [ci, hdd d' e', etg, n2] at hy
                    exact absurd (nx0 y60 hy.symm) y0
                  · exact ((hC e2).2 d' e' i' (by omega)).2 y y60 hy y0
                · have hE : Eg R q to := Eg_i hq1 (by omega) hto e hil (by rw [etg]; exact n2)
                  refine k_Mo_spreads_78 X Post _ _ _ _ _ _ _ _ _ (fun _ => hv2) (fun _ m => go x1 x2 g3 h1 h2 hf hI (fun e2 => ⟨(hC e2).1, fun d' e' i' hi' => ?_⟩) hu h3) (fun _ _ => hv2) (fun _ z2 => ?_) (fun n => absurd (hr.symm.trans n) n1)
                  · rw [htl] at m
                    by_cases ci : i' = i
                    · rw [ci, hdd d' e', etg, n2]
                      refine ⟨fun z0 => absurd (nx0 hto z0) (by omega), fun y y60 hy y0 => ?_⟩
                      have ey : to = y := (nI_eq (by omega) (by omega)).mp hy
                      rw [← ey]
                      exact ⟨by omega, m⟩
                    · exact (hC e2).2 d' e' i' (by omega)
                  · rw [htl] at z2 ⊢
                    have hlt := uc_lt (g3 17) to z2 61 (by omega)
                    have e17 : va_up g3 17 (upd (g3 17) to (vp_nar .boolean 1)) 17 = upd (g3 17) to 1 := up_same _ _ _
                    have hms := Mk_set (g := g3) (a := to) (by omega)
                    refine go x1 1 _ h1 (TI_g h2 (GI_mark hg _ _ (Or.inr rfl))) (fun j hj => (up_other _ _ hj).trans (hf j hj)) ⟨fun x hx => (hms x).mpr (Or.inl (hI.1 x hx)), fun x hx => ?_, fun N n5 n6 x hx => ?_, fun n5 => ?_⟩ (fun e2 => absurd e2 (by decide +kernel)) ?_ (Or.inr ⟨rfl, ?_⟩)
                    · rcases (hms x).mp hx with w | w
                      · exact hI.2.1 x w
                      · rw [w]; exact ⟨n3, d2, n4⟩
                    · rcases (hms x).mp hx with w | w
                      · exact hI.2.2.1 N n5 n6 x w
                      · rw [w]; exact n6 q to (hI.2.2.1 N n5 n6 q ⟨by omega, n⟩) hE
                    · obtain ⟨m, w1, w2⟩ := hI.2.2.2 n5
                      exact ⟨m, (hms m).mpr (Or.inl w1), w2⟩
                    · rw [e17]; omega
                    · rw [e17]; omega
          refine k_Mo_spreads_12 X Post _ _ _ _ _ (fun z => absurd z h61) (fun _ => ?_)
          rw [eK]
          exact inner 7 0 x1 x2 g2 rfl (by decide) h1 h2 hf hI (fun e2 => ⟨hC e2, fun d e i' hi' => absurd hi' (Nat.not_lt_zero _)⟩) hu h3
      refine k_Mo_spreads_4 X Post _ _ _ _ (fun z => absurd z (by decide +kernel)) (fun z => absurd z (by decide +kernel)) (fun _ => ?_)
      exact mid 60 1 x1 0 g2 rfl (by decide) h1 h2 hf hI (fun _ q' hq' hm => absurd (hI.2.1 q' hm).1 (by omega)) (by omega) (Or.inl rfl)
  refine k_Mo_spreads_0 X Post _ _ ?_
  exact outer (uc (g 17) 61 + 1) 0 g (Or.inl rfl) hT (fun _ _ => rfl) ⟨fun x hx => hx, hv, fun N n5 _ x hx => n5 x hx, fun n => absurd rfl n⟩ (by omega)
set_option maxHeartbeats 1000000 in
theorem c_loopsX (T : ST) (q : Nat) (hq1 : 1 ≤ q) (hq61 : q < 61) (Z : ZT) (t : Nat) (f : FT) (g : GT) (hT : TI Z t f g) (R : RD) (c : Nat) (ec : f 4 = nI c) (hc : c ≤ 8) (gq : ∀ q, 1 ≤ q → q < 61 → PQ g (c * 61 + q) (R.1 q)) (d : QD) (ed : R.1 q = some d) (Post : Int32 → FT → GT → Prop) (hq : ∀ r g', TI Z t f g' → (∀ j, j ≠ 17 → g' j = g j) → (¬ r = 0 ↔ Rc (Eg R) q q) → Post r f g') : mI T y_Mo_loops (Cond.code y_Mo_loops b_Mo_loops 5 (some .boolean)) 2 [.ref (ad T 0), .int (nI q)] f g Post := by
  refine e_Mo_loops T Post _ f g ?_
  rintro C rfl X
  have rows : ∀ g2 : GT, (∀ j, j ≠ 17 → g2 j = g j) → ∀ q, 1 ≤ q → q < 61 → PQ g2 (c * 61 + q) (R.1 q) := fun g2 hf q q1 q2 => (gq q q1 q2).same (RQ_o (fun a _ a2 => hf a (by omega)))
  have eK := K61 (q := q) ec
  have hk : c * 61 + q < 610 := by omega
  have hkl : (nI (c * 61 + q)).toNatClampNeg = c * 61 + q := nI_clamp (by omega)
  refine k_Mo_loops_0 X Post (P_1 := fun f' g' => f' = f ∧ TI Z t f g' ∧ (∀ j, j ≠ 17 → g' j = g j) ∧ ∀ x, ¬ Mk g' x) _ _ _ ?_ ?_
  · exact c_unmarkX _ Z t f g hT _ (fun g' h h2 h3 => ⟨rfl, h, h2, h3⟩)
  rintro f1 g1 ⟨rfl, h1, hf1, hm1⟩
  refine k_Mo_loops_4 X Post _ _ _ ?_
  rw [eK]
  have loop : ∀ j i g2, j + i = 7 → i ≤ d.2.2.2.2.1.length + 1 → TI Z t f1 g2 → (∀ j, j ≠ 17 → g2 j = g j) → (∀ x, Mk g2 x → 1 ≤ x ∧ ∃ d, R.1 x = some d) → (∀ x, Mk g2 x ↔ ∃ i', i' < i ∧ x ≤ 60 ∧ nxR R (tgA d i') = nI x ∧ ¬ x = 0) → zn_loops C Post 16 [(0, .ref (ad C.1 0)), (1, .int (nI q)), (2, .int (nI (c * 61 + q))), (3, .int (nI i))] [] f1 g2 := by
    intro j
    induction j with
    | zero =>
      intro i g2 hj hi h2 hf
      obtain ⟨hl1, hl2⟩ := tg_len (((rows g2 hf q hq1 hq61).2 d ed).1)
      omega
    | succ j ih =>
      intro i g2 hj hi h2 hf hv hI
      have hg := h2.2.2.2.2.2.2.2
      have hrow := rows g2 hf
      have hQ := ((hrow q hq1 hq61).2 d ed).1
      obtain ⟨hl1, hl2⟩ := tg_len hQ
      refine k_Mo_loops_16 X Post (P_67 := fun _ f' g' => f' = f1 ∧ TI Z t f1 g' ∧ (∀ j, j ≠ 17 → g' j = g j) ∧ Spr (Eg R) (Mk g2) (Mk g')) (P_46 := fun r f' g' => r = iT f1 g2 (g2 8 (((c * 61 + q) * 6 + i) * 4 + 2)) ∧ f' = f1 ∧ g' = g2) _ _ _ _ _ (vi_n hk (by decide)) ?_ ?_ ?_ ?_ ?_
      · intro _; exact c_spreadsX _ Z t f1 g2 h2 R c ec hc hrow hv _ (fun _ g' h hf' hs _ => ⟨rfl, h, (fun j hj => (hf' j hj).trans (hf j hj)), hs⟩)
      · rintro z r f3 g3 ⟨rfl, h3, hf3, hs⟩
        rw [hkl, hl1, nI_leI (by omega) (by omega)] at z
        have hil : i = d.2.2.2.2.1.length + 1 := by omega
        refine k_Mo_loops_70 X Post _ _ _ _ _ _ (vi_n hq61 (by decide)) (hq _ _ h3 hf3 ?_) (nar01 (h3.2.2.2.2.2.2.2.2.2.2.2.2.2 _))
        rw [nI_clamp (by omega)]
        have hsl := hs.loop (q := q) (fun x => (hI x).trans ⟨fun ⟨i', a1, a2, a3, a4⟩ => ⟨Eg_i hq1 (by omega) a2 ed (by omega) a3, a4⟩, fun ⟨⟨_, _, b3, d', b4, b5⟩, a4⟩ => ?_⟩) (fun q x h => h.1) hq1
        · rw [← hsl]
          exact ⟨fun n => ⟨hq61, n⟩, fun n => n.2⟩
        · have e' : d' = d := Option.some.inj (b4.symm.trans ed)
          rw [e'] at b5
          obtain ⟨i', b6, b7⟩ := tgB_i.mp b5
          exact ⟨i', by omega, b3, b7, a4⟩
      · intro z
        rw [hkl, hl1, nI_leI (by omega) (by omega)] at z
        rw [J42]; exact vi_n (by omega) (by decide)
      · intro z
        rw [hkl, hl1, nI_leI (by omega) (by omega)] at z
        rw [J42, nI_clamp (by omega)]
        exact c_isThere _ _ _ _ h2.2.2.2.1 (hg.2.2.1 _ (by omega)) _ ⟨rfl, rfl, rfl⟩
      · rintro z r f3 g3 ⟨hr, rfl, rfl⟩
        rw [hkl, hl1, nI_leI (by omega) (by omega)] at z
        have hil : i ≤ d.2.2.2.2.1.length := by omega
        rw [J42, nI_clamp (by omega)]
        obtain ⟨to, eto, hto⟩ := hg.2.2.1 (((c * 61 + q) * 6 + i) * 4 + 2) (by omega)
        rw [eto] at hr ⊢
        have etg : tgA d i = nI to := (tg_row hQ hil).symm.trans eto
        have htl : (nI to).toNatClampNeg = to := nI_clamp (by omega)
        rcases iT_nx ec hrow hc hto with ⟨n1, n2, -⟩ | ⟨n1, n2, n3, d2, n4⟩
        · rw [n1] at hr
          refine k_Mo_loops_49 X Post _ _ _ _ _ _ _ (fun _ => ?_) (fun n => absurd hr n) (fun n => absurd hr n)
          refine k_Mo_loops_60 X Post _ _ _ _ _ _ ?_
          rw [nI_1]
          refine ih (i + 1) _ (by omega) (by omega) h2 hf hv (fun x => (hI x).trans ⟨fun ⟨i', a1, a2⟩ => ⟨i', by omega, a2⟩, fun ⟨i', a1, a2, a3, a4⟩ => ?_⟩)
          by_cases ci : i' = i
          · rw [ci, etg, n2] at a3
            exact absurd (nx0 a2 a3.symm) a4
          · exact ⟨i', by omega, a2, a3, a4⟩
        · refine k_Mo_loops_49 X Post _ _ _ _ _ _ _ (fun n => absurd (hr.symm.trans n) n1) (fun _ => vi_n (by omega) (by decide)) (fun _ => ?_)
          refine k_Mo_loops_60 X Post _ _ _ _ _ _ ?_
          rw [nI_1, htl]
          have hms := Mk_set (g := g3) (a := to) (by omega)
          refine ih (i + 1) _ (by omega) (by omega) (TI_g h2 (GI_mark hg _ _ (Or.inr rfl))) (fun j hj => (up_other _ _ hj).trans (hf j hj)) (fun x hx => ?_) (fun x => (hms x).trans ⟨fun w => ?_, fun ⟨i', a1, a2, a3, a4⟩ => ?_⟩)
          · rcases (hms x).mp hx with w | w
            · exact hv x w
            · rw [w]; exact ⟨n3, d2, n4⟩
          · rcases w with w | w
            · obtain ⟨i', a1, a2⟩ := (hI x).mp w
              exact ⟨i', by omega, a2⟩
            · exact ⟨i, by omega, by omega, by rw [etg, w]; exact n2, by omega⟩
          · by_cases ci : i' = i
            · rw [ci, etg, n2] at a3
              exact Or.inr ((nI_eq (by omega) (by omega)).mp a3).symm
            · exact Or.inl ((hI x).mpr ⟨i', by omega, a2, a3, a4⟩)
  exact loop 7 0 g1 rfl (Nat.zero_le _) h1 hf1 (fun x hx => absurd hx (hm1 x)) (fun x => ⟨fun hx => absurd hx (hm1 x), fun ⟨i', a1, _⟩ => absurd a1 (Nat.not_lt_zero _)⟩)
set_option maxHeartbeats 1000000 in
theorem c_loopX (T : ST) (x : Int32) (Z : ZT) (t : Nat) (f : FT) (g : GT) (hT : TI Z t f g) (R : RD) (c : Nat) (ec : f 4 = nI c) (hc : c ≤ 8) (gq : ∀ q, 1 ≤ q → q < 61 → PQ g (c * 61 + q) (R.1 q)) (Post : Int32 → FT → GT → Prop) (hb : x < 0 → ∀ r f' g', TI Z t f' g' → f' 0 = 1 → Post r f' g') (hq : ∀ r f' g', mbV (loE R) x r → TI Z t f' g' → f' 0 = 0 → Post r f' g') : mI T y_Mo_loop (Cond.code y_Mo_loop b_Mo_loop 4 (some .int)) 3 [.ref (ad T 0), .int x] f g Post := by
  refine e_Mo_loop T Post _ f g ?_
  rintro C rfl X
  have rows : ∀ g2 : GT, (∀ j, j ≠ 17 → g2 j = g j) → ∀ q, 1 ≤ q → q < 61 → PQ g2 (c * 61 + q) (R.1 q) := fun g2 hf q q1 q2 => (gq q q1 q2).same (RQ_o (fun a _ a2 => hf a (by omega)))
  have s10 : ∀ y, (y = 0 ∨ y = 1) → (∀ f1, f1 = va_up f 0 (if y = 0 then 1 else 0) → zn_loop C Post 13 [(0, .ref (ad C.1 0)), (1, .int x)] [.int y] f1 g) → zn_loop C Post 10 [(0, .ref (ad C.1 0)), (1, .int x)] [.int y, .ref (ad C.1 0)] f g := by
    intro y hy hn
    refine k_Mo_loop_10 X Post (P_10 := fun r f' g' => r = y ∧ f' = va_up f 0 (if y = 0 then 1 else 0) ∧ g' = g) _ _ _ _ ?_ ?_
    · exact c_says _ y hy _ _ _ ⟨rfl, rfl, rfl⟩
    rintro r f1 g1 ⟨rfl, e1, rfl⟩
    exact hn f1 e1
  refine k_Mo_loop_0 X Post _ _ _ (fun z => s10 0 (Or.inl rfl) (fun f1 e1 => ?_)) (fun z => s10 1 (Or.inr rfl) (fun f1 e1 => ?_))
  · refine k_Mo_loop_13 X Post _ _ _ _ (fun n => absurd rfl n) (fun _ => hb z _ _ _ (by rw [e1]; exact TI_0 hT _) (by rw [e1, up_same]; exact if_pos rfl))
  obtain ⟨n, hn, ex⟩ := nI_of z
  have h0 : f1 0 = 0 := by rw [e1, up_same]; exact if_neg (by decide +kernel)
  have ec1 : f1 4 = nI c := by rw [e1, up_other _ _ (by decide)]; exact ec
  have hT1 : TI Z t f1 g := by rw [e1]; exact TI_0 hT _
  have loop : ∀ j q l g2, j + q = 61 → 1 ≤ q → l < 2 ^ 31 → TI Z t f1 g2 → (∀ j, j ≠ 17 → g2 j = g j) → (∀ m, mbP (loE R) j q l m → mbP (loE R) 60 1 n m) → zn_loop C Post 22 [(0, .ref (ad C.1 0)), (1, .int x), (2, .int (nI l)), (3, .int (nI q))] [] f1 g2 := by
    intro j
    induction j with
    | zero =>
      intro q l g2 hj hq1 hl h hf hI
      have h61 : (61 : Int32) ≤ nI q := (nI_leI (a := 61) (b := q) (by decide) (by omega)).mpr (by omega)
      exact k_Mo_loop_22 X Post (P_30 := fun _ _ _ => True) _ _ _ _ _ (fun _ => hq _ _ _ ⟨n, 0, ex, hn, nI_0.symm, hI 0 rfl⟩ h h0) (fun z => absurd h61 z) (fun z => absurd h61 z)
    | succ j ih =>
      intro q l g2 hj hq1 hl h hf hI
      have h61 : ¬ (61 : Int32) ≤ nI q := fun z => absurd ((nI_leI (a := 61) (b := q) (by decide) (by omega)).mp z) (by omega)
      have hrow := rows g2 hf
      have s56 : ∀ l g2, l < 2 ^ 31 → TI Z t f1 g2 → (∀ j, j ≠ 17 → g2 j = g j) → (∀ m, mbP (loE R) j (q + 1) l m → mbP (loE R) 60 1 n m) → zn_loop C Post 56 [(0, .ref (ad C.1 0)), (1, .int x), (2, .int (nI l)), (3, .int (nI q))] [] f1 g2 := by
        intro l g2 hl h hf hI
        refine k_Mo_loop_56 X Post _ _ _ _ _ ?_
        rw [nI_1]
        exact ih (q + 1) l g2 (by omega) (by omega) hl h hf hI
      refine k_Mo_loop_22 X Post (P_30 := fun r f' g' => r = iT f1 g2 (nI q) ∧ f' = f1 ∧ g' = g2) _ _ _ _ _ (fun z => absurd z h61) (fun _ => ?_) ?_
      · exact c_isThere _ _ _ _ h.2.2.2.1 ⟨q, rfl, by omega⟩ _ ⟨rfl, rfl, rfl⟩
      rintro _ r f2 g3 ⟨hr, rfl, rfl⟩
      rcases iT_nx ec1 hrow hc (show q ≤ 60 by omega) with ⟨n1, -, n3⟩ | ⟨n1, -, -, d, n4⟩
      · rw [n1] at hr
        refine k_Mo_loop_33 X Post (P_38 := fun _ _ _ => True) _ _ _ _ _ _ (fun _ => s56 l g3 hl h hf (fun m hm => hI m (Or.inr (Or.inr ⟨fun p => p.1 (n3.resolve_left (by omega)), hm⟩)))) (fun n => absurd hr n) (fun n => absurd hr n)
      · refine k_Mo_loop_33 X Post (P_38 := fun r f' g' => f' = f2 ∧ TI Z t f2 g' ∧ (∀ j, j ≠ 17 → g' j = g j) ∧ (¬ r = 0 ↔ Rc (Eg R) q q)) _ _ _ _ _ _ (fun n => absurd (hr.symm.trans n) n1) (fun _ => ?_) ?_
        · exact c_loopsX _ q hq1 (by omega) Z t _ _ h R c ec1 hc hrow d n4 _ (fun _ g' h hf' hs => ⟨rfl, h, (fun j hj => (hf' j hj).trans (hf j hj)), hs⟩)
        rintro _ r2 f3 g4 ⟨rfl, h2, hf2, hs⟩
        have hno : ¬ R.1 q = none := by rw [n4]; exact fun z => (nomatch z)
        have el : nI l = 0 ↔ l = 0 := by rw [← nI_0]; exact nI_eq hl (by decide)
        refine k_Mo_loop_41 X Post _ _ _ _ _ _ (fun y1 z2 => ?_) (fun y1 z2 => hq _ _ _ ⟨n, q, ex, hn, rfl, hI q (Or.inl ⟨⟨hno, hs.mp y1⟩, el.mp z2, rfl⟩)⟩ h2 h0) (fun y1 => s56 l g4 hl h2 hf2 (fun m hm => hI m (Or.inr (Or.inr ⟨fun p => absurd y1 (hs.mpr p.2), hm⟩))))
        have l1 : ¬ l = 0 := fun z => z2 (el.mpr z)
        rw [nI_m1 (by omega)]
        exact s56 (l - 1) g4 (by omega) h2 hf2 (fun m hm => hI m (Or.inr (Or.inl ⟨⟨hno, hs.mp y1⟩, l1, hm⟩)))
  refine k_Mo_loop_13 X Post _ _ _ _ (fun _ => ?_) (fun n => absurd n (by decide +kernel))
  have := loop 60 1 n g rfl (by decide) hn hT1 (fun _ _ => rfl) (fun m hm => hm)
  rw [← ex] at this
  exact this
-- first questions of the kinds
theorem st_row {f : FT} {g : GT} {R : RD} {c k to : Nat} (ec : f 4 = nI c) (hc : c ≤ 8) (gq : ∀ q, 1 ≤ q → q < 61 → PQ g (c * 61 + q) (R.1 q)) (gk : PK g (c * 10 + k) (R.2 k)) (hk1 : 1 ≤ k) (hk : k ≤ 9) (hto : to ≤ 60) (eto : g 9 (c * 10 + k) = nI to) : (iT f g (nI to) = 0 ∧ ∀ s, ¬ stE R k s) ∨ (¬ iT f g (nI to) = 0 ∧ stE R k to ∧ ∃ d, R.1 to = some d) := by
  rcases iT_nx ec gq hc hto with ⟨n1, n2, -⟩ | ⟨n1, n2, n3, d2, n4⟩
  · refine Or.inl ⟨n1, fun s hs => ?_⟩
    obtain ⟨-, -, s1, s2, d, e, hn⟩ := hs
    have e9 : d.1 = nI to := (gk.2 d e).1.1.symm.trans eto
    rw [e9, n2] at hn
    have := nx0 s2 hn.symm
    omega
  · refine Or.inr ⟨n1, ⟨hk1, hk, n3, hto, ?_⟩, d2, n4⟩
    cases h : R.2 k with
    | none =>
      have e0 := gk.1 h
      rw [eto] at e0
      have := nx0 hto e0
      omega
    | some d =>
      have e9 : d.1 = nI to := (gk.2 d h).1.1.symm.trans eto
      exact ⟨d, rfl, by rw [e9]; exact n2⟩
set_option maxHeartbeats 1000000 in
theorem c_neverX (T : ST) (x : Int32) (Z : ZT) (t : Nat) (f : FT) (g : GT) (hT : TI Z t f g) (R : RD) (c : Nat) (ec : f 4 = nI c) (hc : c ≤ 8) (gq : ∀ q, 1 ≤ q → q < 61 → PQ g (c * 61 + q) (R.1 q)) (gk : ∀ k, 1 ≤ k → k < 10 → PK g (c * 10 + k) (R.2 k)) (Post : Int32 → FT → GT → Prop) (hb : x < 0 → ∀ r f' g', TI Z t f' g' → f' 0 = 1 → Post r f' g') (hq : ∀ r f' g', mbV (neE R) x r → TI Z t f' g' → f' 0 = 0 → Post r f' g') : mI T y_Mo_never (Cond.code y_Mo_never b_Mo_never 5 (some .int)) 2 [.ref (ad T 0), .int x] f g Post := by
  refine e_Mo_never T Post _ f g ?_
  rintro C rfl X
  have rows : ∀ g2 : GT, (∀ j, j ≠ 17 → g2 j = g j) → ∀ q, 1 ≤ q → q < 61 → PQ g2 (c * 61 + q) (R.1 q) := fun g2 hf q q1 q2 => (gq q q1 q2).same (RQ_o (fun a _ a2 => hf a (by omega)))
  have rowk : ∀ g2 : GT, (∀ j, j ≠ 17 → g2 j = g j) → ∀ k, 1 ≤ k → k < 10 → PK g2 (c * 10 + k) (R.2 k) := fun g2 hf k q1 q2 => (gk k q1 q2).same (RKe_o (fun a _ a2 => hf a (by omega)))
  have s10 : ∀ y, (y = 0 ∨ y = 1) → (∀ f1, f1 = va_up f 0 (if y = 0 then 1 else 0) → zn_never C Post 13 [(0, .ref (ad C.1 0)), (1, .int x)] [.int y] f1 g) → zn_never C Post 10 [(0, .ref (ad C.1 0)), (1, .int x)] [.int y, .ref (ad C.1 0)] f g := by
    intro y hy hn
    refine k_Mo_never_10 X Post (P_10 := fun r f' g' => r = y ∧ f' = va_up f 0 (if y = 0 then 1 else 0) ∧ g' = g) _ _ _ _ ?_ ?_
    · exact c_says _ y hy _ _ _ ⟨rfl, rfl, rfl⟩
    rintro r f1 g1 ⟨rfl, e1, rfl⟩
    exact hn f1 e1
  refine k_Mo_never_0 X Post _ _ _ (fun z => s10 0 (Or.inl rfl) (fun f1 e1 => ?_)) (fun z => s10 1 (Or.inr rfl) (fun f1 e1 => ?_))
  · refine k_Mo_never_13 X Post (P_19 := fun _ _ => True) _ _ _ _ (fun n => absurd rfl n) (fun n => absurd rfl n) (fun _ => hb z _ _ _ (by rw [e1]; exact TI_0 hT _) (by rw [e1, up_same]; exact if_pos rfl))
  obtain ⟨n, hn, ex⟩ := nI_of z
  have h0 : f1 0 = 0 := by rw [e1, up_same]; exact if_neg (by decide +kernel)
  have ec1 : f1 4 = nI c := by rw [e1, up_other _ _ (by decide)]; exact ec
  have hT1 : TI Z t f1 g := by rw [e1]; exact TI_0 hT _
  have last : ∀ x2 g2, TI Z t f1 g2 → (∀ j, j ≠ 17 → g2 j = g j) → (∀ q, 1 ≤ q → q < 61 → (Mk g2 q ↔ ∃ k s, stE R k s ∧ (s = q ∨ Rc (Eg R) s q))) → ∀ j q l, j + q = 61 → 1 ≤ q → l < 2 ^ 31 → (∀ m, mbP (neE R) j q l m → mbP (neE R) 60 1 n m) → zn_never C Post 76 [(0, .ref (ad C.1 0)), (1, .int x), (2, .int x2), (3, .int (nI l)), (4, .int (nI q))] [] f1 g2 := by
    intro x2 g2 h hf hM j
    have hrow := rows g2 hf
    induction j with
    | zero =>
      intro q l hj hq1 hl hI
      have h61 : (61 : Int32) ≤ nI q := (nI_leI (a := 61) (b := q) (by decide) (by omega)).mpr (by omega)
      exact k_Mo_never_76 X Post (P_86 := fun _ _ _ => True) _ _ _ _ _ _ (fun _ => hq _ _ _ ⟨n, 0, ex, hn, nI_0.symm, hI 0 rfl⟩ h h0) (fun z => absurd h61 z) (fun z => absurd h61 z)
    | succ j ih =>
      intro q l hj hq1 hl hI
      have h61 : ¬ (61 : Int32) ≤ nI q := fun z => absurd ((nI_leI (a := 61) (b := q) (by decide) (by omega)).mp z) (by omega)
      have hql : (nI q).toNatClampNeg = q := nI_clamp (by omega)
      have s115 : ∀ l, l < 2 ^ 31 → (∀ m, mbP (neE R) j (q + 1) l m → mbP (neE R) 60 1 n m) → zn_never C Post 115 [(0, .ref (ad C.1 0)), (1, .int x), (2, .int x2), (3, .int (nI l)), (4, .int (nI q))] [] f1 g2 := by
        intro l hl hI
        refine k_Mo_never_115 X Post _ _ _ _ _ _ ?_
        rw [nI_1]
        exact ih (q + 1) l (by omega) (by omega) hl hI
      refine k_Mo_never_76 X Post (P_86 := fun r f' g' => r = iT f1 g2 (nI q) ∧ f' = f1 ∧ g' = g2) _ _ _ _ _ _ (fun z => absurd z h61) (fun _ => ?_) ?_
      · exact c_isThere _ _ _ _ h.2.2.2.1 ⟨q, rfl, by omega⟩ _ ⟨rfl, rfl, rfl⟩
      rintro _ r f2 g3 ⟨hr, rfl, rfl⟩
      rcases iT_nx ec1 hrow hc (show q ≤ 60 by omega) with ⟨n1, -, n3⟩ | ⟨n1, -, -, d, n4⟩
      · rw [n1] at hr
        exact k_Mo_never_89 X Post _ _ _ _ _ _ _ (fun _ => s115 l hl (fun m hm => hI m (Or.inr (Or.inr ⟨fun p => p.1 (n3.resolve_left (by omega)), hm⟩)))) (fun n => absurd hr n) (fun n => absurd hr n) (fun n => absurd hr n) (fun n => absurd hr n)
      · have hno : ¬ R.1 q = none := by rw [n4]; exact fun z => (nomatch z)
        have el : nI l = 0 ↔ l = 0 := by rw [← nI_0]; exact nI_eq hl (by decide)
        have hne : g3 17 q = 0 → neE R q := fun z => ⟨hno, fun w => absurd z ((hM q hq1 (by omega)).mpr w).2⟩
        refine k_Mo_never_89 X Post _ _ _ _ _ _ _ (fun n => absurd (hr.symm.trans n) n1) (fun _ => vi_n (by omega) (by decide)) (fun _ z z2 => ?_) (fun _ z z2 => ?_) (fun _ z => s115 l hl (fun m hm => hI m (Or.inr (Or.inr ⟨fun p => ?_, hm⟩))))
        · rw [hql] at z
          have l1 : ¬ l = 0 := fun z => z2 (el.mpr z)
          rw [nI_m1 (by omega)]
          exact s115 (l - 1) (by omega) (fun m hm => hI m (Or.inr (Or.inl ⟨hne z, l1, hm⟩)))
        · rw [hql] at z
          exact hq _ _ _ ⟨n, q, ex, hn, rfl, hI q (Or.inl ⟨hne z, el.mp z2, rfl⟩)⟩ h h0
        · rw [hql] at z
          exact p.2 ((hM q hq1 (by omega)).mp ⟨by omega, z⟩)
  have loop : ∀ j i g2, j + i = 10 → 1 ≤ i → TI Z t f1 g2 → (∀ j, j ≠ 17 → g2 j = g j) → (∀ x, Mk g2 x → 1 ≤ x ∧ ∃ d, R.1 x = some d) → (∀ s, Mk g2 s ↔ ∃ k, k < i ∧ stE R k s) → zn_never C Post 24 [(0, .ref (ad C.1 0)), (1, .int x), (2, .int (nI i))] [] f1 g2 := by
    intro j
    induction j with
    | zero =>
      intro i g2 hj hi1 h hf hv hI
      have h10 : (10 : Int32) ≤ nI i := (nI_leI (a := 10) (b := i) (by decide) (by omega)).mpr (by omega)
      refine k_Mo_never_24 X Post (P_67 := fun _ f' g' => f' = f1 ∧ TI Z t f1 g' ∧ (∀ j, j ≠ 17 → g' j = g j) ∧ Spr (Eg R) (Mk g2) (Mk g')) (P_47 := fun _ _ _ => True) _ _ _ _ (fun _ => ?_) ?_ (fun z => absurd h10 z) (fun z => absurd h10 z) (fun z => absurd h10 z)
      · exact c_spreadsX _ Z t f1 g2 h R c ec1 hc (rows g2 hf) hv _ (fun _ g' h hf' hs _ => ⟨rfl, h, (fun j hj => (hf' j hj).trans (hf j hj)), hs⟩)
      rintro _ r f2 g3 ⟨rfl, h1, hf1, hs⟩
      have hl := last r g3 h1 hf1 (fun q q1 q2 => (hs.never (fun q x h => h.1) q q1).trans ⟨fun ⟨s, a, b⟩ => ?_, fun ⟨k, s, a, b⟩ => ⟨s, (hI s).mpr ⟨k, ?_, a⟩, b⟩⟩) 60 1 n rfl (by decide) hn (fun m hm => hm)
      · rw [← ex] at hl
        exact k_Mo_never_70 X Post _ _ _ _ _ hl
      · obtain ⟨k, -, a2⟩ := (hI s).mp a
        exact ⟨k, s, a2, b⟩
      · have := a.2.1
        omega
    | succ j ih =>
      intro i g2 hj hi1 h hf hv hI
      have h10 : ¬ (10 : Int32) ≤ nI i := fun z => absurd ((nI_leI (a := 10) (b := i) (by decide) (by omega)).mp z) (by omega)
      have hg := h.2.2.2.2.2.2.2
      have eI : ((f1 4) * 10) + nI i = nI (c * 10 + i) := by rw [ec1, show (10 : Int32) = nI 10 from rfl, pk_mul, nI_add]
      have eL : (nI (c * 10 + i)).toNatClampNeg = c * 10 + i := nI_clamp (by omega)
      obtain ⟨to, eto, hto⟩ := hg.2.2.2.1 (c * 10 + i)
      refine k_Mo_never_24 X Post (P_67 := fun _ _ _ => True) (P_47 := fun r f' g' => r = iT f1 g2 (nI to) ∧ f' = f1 ∧ g' = g2) _ _ _ _ (fun z => absurd z h10) (fun z => absurd z h10) (fun _ => ?_) (fun _ => ?_) ?_
      · rw [eI]; exact vi_n (by omega) (by decide)
      · rw [eI, eL, eto]
        exact c_isThere _ _ _ _ h.2.2.2.1 ⟨to, rfl, hto⟩ _ ⟨rfl, rfl, rfl⟩
      rintro _ r f2 g3 ⟨hr, rfl, rfl⟩
      rw [eI, eL, eto]
      rcases st_row ec1 hc (rows g3 hf) (rowk g3 hf i hi1 (by omega)) hi1 (by omega) hto eto with ⟨n1, n2⟩ | ⟨n1, n2, n3⟩
      · rw [n1] at hr
        refine k_Mo_never_50 X Post _ _ _ _ _ _ (fun _ => ?_) (fun n => absurd hr n) (fun n => absurd hr n)
        refine k_Mo_never_60 X Post _ _ _ _ _ ?_
        rw [nI_1]
        refine ih (i + 1) _ (by omega) (by omega) h hf hv (fun s => (hI s).trans ⟨fun ⟨k, a1, a2⟩ => ⟨k, by omega, a2⟩, fun ⟨k, a1, a2⟩ => ⟨k, ?_, a2⟩⟩)
        have : k ≠ i := fun e => n2 s (by rw [← e]; exact a2)
        omega
      · refine k_Mo_never_50 X Post _ _ _ _ _ _ (fun n => absurd (hr.symm.trans n) n1) (fun _ => vi_n (by omega) (by decide)) (fun _ => ?_)
        refine k_Mo_never_60 X Post _ _ _ _ _ ?_
        rw [nI_1, nI_clamp (show to < 2 ^ 31 by omega)]
        have hms := Mk_set (g := g3) (a := to) (by omega)
        refine ih (i + 1) _ (by omega) (by omega) (TI_g h (GI_mark hg _ _ (Or.inr rfl))) (fun j hj => (up_other _ _ hj).trans (hf j hj)) (fun x hx => ?_) (fun s => (hms s).trans ⟨fun w => ?_, fun ⟨k, a1, a2⟩ => ?_⟩)
        · rcases (hms x).mp hx with w | w
          · exact hv x w
          · rw [w]; exact ⟨n2.2.2.1, n3⟩
        · rcases w with w | w
          · obtain ⟨k, a1, a2⟩ := (hI s).mp w
            exact ⟨k, by omega, a2⟩
          · rw [w]; exact ⟨i, by omega, n2⟩
        · by_cases ci : k = i
          · rw [ci] at a2
            exact Or.inr (stE_u a2 n2)
          · exact Or.inl ((hI s).mpr ⟨k, by omega, a2⟩)
  refine k_Mo_never_13 X Post (P_19 := fun f' g' => f' = f1 ∧ TI Z t f1 g' ∧ (∀ j, j ≠ 17 → g' j = g j) ∧ ∀ x, ¬ Mk g' x) _ _ _ _ (fun _ => ?_) ?_ (fun n => absurd n (by decide +kernel))
  · exact c_unmarkX _ Z t _ _ hT1 _ (fun g' h h2 h3 => ⟨rfl, h, h2, h3⟩)
  rintro _ f2 g2 ⟨rfl, h2, hf2, hm2⟩
  exact k_Mo_never_22 X Post _ _ _ (loop 9 1 g2 rfl (by decide) h2 hf2 (fun x hx => absurd hx (hm2 x)) (fun s => ⟨fun hx => absurd hx (hm2 s), fun ⟨k, a1, a2⟩ => absurd a2.1 (by omega)⟩))
set_option maxHeartbeats 1000000 in
theorem c_endlessX (T : ST) (x : Int32) (Z : ZT) (t : Nat) (f : FT) (g : GT) (hT : TI Z t f g) (R : RD) (c : Nat) (ec : f 4 = nI c) (hc : c ≤ 8) (gq : ∀ q, 1 ≤ q → q < 61 → PQ g (c * 61 + q) (R.1 q)) (gk : ∀ k, 1 ≤ k → k < 10 → PK g (c * 10 + k) (R.2 k)) (Post : Int32 → FT → GT → Prop) (hb : x < 0 → ∀ r f' g', TI Z t f' g' → f' 0 = 1 → Post r f' g') (hq : ∀ r f' g', mbV (enE R) x r → TI Z t f' g' → f' 0 = 0 → Post r f' g') : mI T y_Mo_endless (Cond.code y_Mo_endless b_Mo_endless 5 (some .int)) 2 [.ref (ad T 0), .int x] f g Post := by
  refine e_Mo_endless T Post _ f g ?_
  rintro C rfl X
  have rows : ∀ g2 : GT, (∀ j, j ≠ 17 → g2 j = g j) → ∀ q, 1 ≤ q → q < 61 → PQ g2 (c * 61 + q) (R.1 q) := fun g2 hf q q1 q2 => (gq q q1 q2).same (RQ_o (fun a _ a2 => hf a (by omega)))
  have rowk : ∀ g2 : GT, (∀ j, j ≠ 17 → g2 j = g j) → ∀ k, 1 ≤ k → k < 10 → PK g2 (c * 10 + k) (R.2 k) := fun g2 hf k q1 q2 => (gk k q1 q2).same (RKe_o (fun a _ a2 => hf a (by omega)))
  have s10 : ∀ y, (y = 0 ∨ y = 1) → (∀ f1, f1 = va_up f 0 (if y = 0 then 1 else 0) → zn_endless C Post 13 [(0, .ref (ad C.1 0)), (1, .int x)] [.int y] f1 g) → zn_endless C Post 10 [(0, .ref (ad C.1 0)), (1, .int x)] [.int y, .ref (ad C.1 0)] f g := by
    intro y hy hn
    refine k_Mo_endless_10 X Post (P_10 := fun r f' g' => r = y ∧ f' = va_up f 0 (if y = 0 then 1 else 0) ∧ g' = g) _ _ _ _ ?_ ?_
    · exact c_says _ y hy _ _ _ ⟨rfl, rfl, rfl⟩
    rintro r f1 g1 ⟨rfl, e1, rfl⟩
    exact hn f1 e1
  refine k_Mo_endless_0 X Post _ _ _ (fun z => s10 0 (Or.inl rfl) (fun f1 e1 => ?_)) (fun z => s10 1 (Or.inr rfl) (fun f1 e1 => ?_))
  · refine k_Mo_endless_13 X Post _ _ _ _ (fun n => absurd rfl n) (fun _ => hb z _ _ _ (by rw [e1]; exact TI_0 hT _) (by rw [e1, up_same]; exact if_pos rfl))
  obtain ⟨n, hn, ex⟩ := nI_of z
  have h0 : f1 0 = 0 := by rw [e1, up_same]; exact if_neg (by decide +kernel)
  have ec1 : f1 4 = nI c := by rw [e1, up_other _ _ (by decide)]; exact ec
  have hT1 : TI Z t f1 g := by rw [e1]; exact TI_0 hT _
  have fin : ∀ m g2, TI Z t f1 g2 → mbP (enE R) 9 1 n m → Post (nI m) f1 g2 := fun m g2 h hm => hq _ _ _ ⟨n, m, ex, hn, rfl, mb_more 9 51 1 n m (fun i hi p => by obtain ⟨s, a, -⟩ := p; have := a.2.1; omega) hm⟩ h h0
  have loop : ∀ j i l g2, j + i = 10 → 1 ≤ i → l < 2 ^ 31 → TI Z t f1 g2 → (∀ j, j ≠ 17 → g2 j = g j) → (∀ m, mbP (enE R) j i l m → mbP (enE R) 9 1 n m) → zn_endless C Post 22 [(0, .ref (ad C.1 0)), (1, .int x), (2, .int (nI l)), (3, .int (nI i))] [] f1 g2 := by
    intro j
    induction j with
    | zero =>
      intro i l g2 hj hi1 hl h hf hI
      have h10 : (10 : Int32) ≤ nI i := (nI_leI (a := 10) (b := i) (by decide) (by omega)).mpr (by omega)
      exact k_Mo_endless_22 X Post (P_47 := fun _ _ _ => True) _ _ _ _ _ (fun _ => fin 0 g2 h (hI 0 rfl)) (fun z => absurd h10 z) (fun z => absurd h10 z) (fun z => absurd h10 z)
    | succ j ih =>
      intro i l g2 hj hi1 hl h hf hI
      have h10 : ¬ (10 : Int32) ≤ nI i := fun z => absurd ((nI_leI (a := 10) (b := i) (by decide) (by omega)).mp z) (by omega)
      have hg := h.2.2.2.2.2.2.2
      have eI : ((f1 4) * 10) + nI i = nI (c * 10 + i) := by rw [ec1, show (10 : Int32) = nI 10 from rfl, pk_mul, nI_add]
      have eL : (nI (c * 10 + i)).toNatClampNeg = c * 10 + i := nI_clamp (by omega)
      obtain ⟨to, eto, hto⟩ := hg.2.2.2.1 (c * 10 + i)
      have el : nI l = 0 ↔ l = 0 := by rw [← nI_0]; exact nI_eq hl (by decide)
      refine k_Mo_endless_22 X Post (P_47 := fun r f' g' => r = iT f1 g2 (nI to) ∧ f' = f1 ∧ g' = g2) _ _ _ _ _ (fun z => absurd z h10) (fun _ => ?_) (fun _ => ?_) ?_
      · rw [eI]; exact vi_n (by omega) (by decide)
      · rw [eI, eL, eto]
        exact c_isThere _ _ _ _ h.2.2.2.1 ⟨to, rfl, hto⟩ _ ⟨rfl, rfl, rfl⟩
      rintro _ r f2 g3 ⟨hr, rfl, rfl⟩
      rw [eI, eL, eto]
      have s87 : ∀ l g2, l < 2 ^ 31 → TI Z t f2 g2 → (∀ j, j ≠ 17 → g2 j = g j) → (∀ m, mbP (enE R) j (i + 1) l m → mbP (enE R) 9 1 n m) → zn_endless C Post 87 [(0, .ref (ad C.1 0)), (1, .int x), (2, .int (nI l)), (3, .int (nI i)), (4, .int (nI to))] [] f2 g2 := by
        intro l g2 hl h hf hI
        refine k_Mo_endless_87 X Post _ _ _ _ _ _ ?_
        rw [nI_1]
        exact ih (i + 1) l g2 (by omega) (by omega) hl h hf hI
      rcases st_row ec1 hc (rows g3 hf) (rowk g3 hf i hi1 (by omega)) hi1 (by omega) hto eto with ⟨n1, n2⟩ | ⟨n1, n2, n3⟩
      · rw [n1] at hr
        refine k_Mo_endless_50 X Post (P_57 := fun _ _ => True) _ _ _ _ _ _ _ (fun n => absurd hr n) (fun n => absurd hr n) (fun _ => s87 l g3 hl h hf (fun m hm => hI m (Or.inr (Or.inr ⟨fun p => ?_, hm⟩))))
        obtain ⟨s, a, -⟩ := p
        exact n2 s a
      · refine k_Mo_endless_50 X Post (P_57 := fun f' g' => f' = f2 ∧ TI Z t f2 g' ∧ (∀ j, j ≠ 17 → g' j = g j) ∧ ∀ x, ¬ Mk g' x) _ _ _ _ _ _ _ (fun _ => ?_) ?_ (fun n => absurd (hr.symm.trans n) n1)
        · exact c_unmarkX _ Z t _ _ h _ (fun g' h h2 h3 => ⟨rfl, h, (fun j hj => (h2 j hj).trans (hf j hj)), h3⟩)
        rintro _ f3 g4 ⟨rfl, h2, hf2, hm2⟩
        have hms := Mk_set (g := g4) (a := to) (by omega)
        have hmt : ∀ x, Mk (va_up g4 17 (upd (g4 17) to (vp_nar .boolean 1))) x ↔ x = to := fun x => (hms x).trans ⟨fun w => w.resolve_left (hm2 x), Or.inr⟩
        have htl : (nI to).toNatClampNeg = to := nI_clamp (by omega)
        have hf3 : ∀ j, j ≠ 17 → va_up g4 17 (upd (g4 17) to (vp_nar .boolean 1)) j = g j := fun j hj => (up_other _ _ hj).trans (hf2 j hj)
        refine k_Mo_endless_60 X Post (P_69 := fun r f' g' => f' = f3 ∧ TI Z t f3 g' ∧ (∀ j, j ≠ 17 → g' j = g j) ∧ (¬ r = 0 ↔ Rc (Eg R) to 0)) _ _ _ _ _ _ (vi_n (by omega) (by decide)) ?_ ?_
        · rw [htl]
          exact c_spreadsX _ Z t _ _ (TI_g h2 (GI_mark h2.2.2.2.2.2.2.2 _ _ (Or.inr rfl))) R c ec1 hc (rows _ hf3) (fun x hx => by rw [(hmt x).mp hx]; exact ⟨n2.2.2.1, n3⟩) _ (fun _ g' h hf' hs he => ⟨rfl, h, (fun j hj => (hf' j hj).trans (hf3 j hj)), he.trans (hs.ends hmt (fun q x h => h.1))⟩)
        rintro r2 f4 g5 ⟨rfl, h3, hf4, he⟩
        have hen : r2 = 0 → enE R i := fun z => ⟨to, n2, fun w => absurd z (he.mpr w)⟩
        refine k_Mo_endless_72 X Post _ _ _ _ _ _ _ (fun y0 z2 => ?_) (fun y0 z2 => fin i g5 h3 (hI i (Or.inl ⟨hen y0, el.mp z2, rfl⟩))) (fun y1 => s87 l g5 hl h3 hf4 (fun m hm => hI m (Or.inr (Or.inr ⟨fun p => ?_, hm⟩))))
        · have l1 : ¬ l = 0 := fun z => z2 (el.mpr z)
          rw [nI_m1 (by omega)]
          exact s87 (l - 1) g5 (by omega) h3 hf4 (fun m hm => hI m (Or.inr (Or.inl ⟨hen y0, l1, hm⟩)))
        · obtain ⟨s, a, b⟩ := p
          rw [← stE_u n2 a] at b
          exact b (he.mp y1)
  refine k_Mo_endless_13 X Post _ _ _ _ (fun _ => ?_) (fun n => absurd n (by decide +kernel))
  have := loop 9 1 n g rfl (by decide) hn hT1 (fun _ _ => rfl) (fun m hm => hm)
  rw [← ex] at this
  exact this
