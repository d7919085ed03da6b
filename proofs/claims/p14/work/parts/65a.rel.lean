-- the class's state against the reference's, with the call
theorem sgL_nn (b : Int64) : ∀ (j t : Nat) (h : Nat → Int32), (∀ n, ¬ h n < 0) → ∀ n, ¬ sgL b j t h n < 0 := by
  intro j
  induction j with
  | zero => intro t h hh; exact hh
  | succ j ih =>
    intro t h hh
    refine ih (t + 1) _ (fun n => ?_)
    unfold upd
    split
    · exact and255 _
    · exact hh n
theorem lgc_self (x : Int64) : lg_cmp x x = 0 := by simp [lg_cmp]
theorem sgV {n : Nat} (h1 : 1 ≤ n) (h2 : n ≤ 8) : ¬ inV (nI n) 1 8 = 0 := by
  unfold inV
  rw [if_neg (show ¬ nI n < 1 from nI_nlt (a := n) (b := 1) h1 (by omega)), if_neg (show ¬ (8 : Int32) < nI n from nI_nlt (a := 8) (b := n) h2 (by decide))]
  decide
theorem sgY0 {n t : Nat} (h1 : 1 ≤ n) (h2 : n ≤ 8) (h3 : t + n ≤ 400) : sgY (nI n) t = 0 := by
  unfold sgY
  rw [if_neg (sgV h1 h2), if_pos (show nI t + nI n ≤ 400 by rw [nI_add]; exact nI_le (b := 400) h3 (by decide))]
theorem sgY2 {n t : Nat} (h1 : 1 ≤ n) (h2 : n ≤ 8) (h3 : ¬ t + n ≤ 400) (ht : t ≤ 400) : sgY (nI n) t = 2 := by
  unfold sgY
  rw [if_neg (sgV h1 h2), if_neg (show ¬ nI t + nI n ≤ 400 by rw [nI_add]; exact fun q => h3 ((nI_leI (b := 400) (by omega) (by decide)).mp q))]
theorem inV_out {v a b : Int32} (h : v < a ∨ ¬ v ≤ b) : inV v a b = 0 := by
  unfold inV
  rcases h with h | h
  · rw [if_pos h]
  · by_cases q : v < a
    · rw [if_pos q]
    · rw [if_neg q, if_pos (by rw [Int32.not_le] at h; exact h)]
theorem sgY1 {v : Int32} {t : Nat} (h : v < 1 ∨ ¬ v ≤ 8) : sgY v t = 1 := by
  unfold sgY
  rw [if_pos (inV_out h)]
theorem PQ_1 {g : GT} {K : Nat} {o : Option QD} (h : PQ g K o) : g 1 K = if o.isSome = true then 1 else 0 := by
  cases o with
  | none => rw [h.1 rfl]; rfl
  | some d => rw [(h.2 d rfl).1.1]; rfl
theorem PK_9 {g : GT} {K : Nat} {o : Option KD} (h : PK g K o) : o.isSome = true ↔ ¬ g 9 K = 0 := by
  cases o with
  | none => exact ⟨fun z => (nomatch z), fun z => absurd (h.1 rfl) z⟩
  | some d =>
    obtain ⟨h1, m, h2, h3, h4⟩ := h.2 d rfl
    refine ⟨fun _ z => ?_, fun _ => rfl⟩
    rw [h1.1, h2, ← nI_0, nI_eq (by omega) (by decide)] at z
    omega
theorem fs_pure (b : Bool) (x : Int32) : (if (if (if b = true then (1 : Int32) else 0) = 0 then (0 : Int32) else 1) = 0 then (0 : Int32) else x) = if b = true then x else 0 := by cases b <;> simp
theorem okR_mg {A R : RD} (hA : okR A) (hR : okR R) : okR (mgR A R) := by
  refine ⟨fun q d e => ?_, fun k d e => ?_⟩
  · have e : (match R.1 q with | some d => some d | none => A.1 q) = some d := e
    cases h : R.1 q with
    | none => rw [h] at e; exact hA.1 q d e
    | some d' => rw [h] at e; cases e; exact hR.1 q d h
  · have e : (match R.2 k with | some d => some d | none => A.2 k) = some d := e
    cases h : R.2 k with
    | none => rw [h] at e; exact hA.2 k d e
    | some d' => rw [h] at e; cases e; exact hR.2 k d h
theorem nxV_q (R : RD) (x : Int32) : nxV R x = 0 ∨ ∃ q d, nxV R x = nI q ∧ 1 ≤ q ∧ q ≤ 60 ∧ R.1 q = some d := by
  unfold nxV
  split
  · exact Or.inl rfl
  · rename_i c
    split
    · rename_i h
      obtain ⟨j, e, j1, j2⟩ := x_rng (M := 60) (by decide) (fun q => c (Or.inl q)) (Classical.byContradiction (fun q => c (Or.inr q)))
      rw [e, nI_clamp (by omega)] at h
      cases hs : R.1 j with
      | none => rw [hs] at h; cases h
      | some d => exact Or.inr ⟨j, d, e, j1, j2, hs⟩
    · exact Or.inl rfl
theorem iZ_nx {Z : ZT} {t : Nat} {f : FT} {g : GT} {R : RD} {c m : Nat} (hT : TI Z t f g) (h4 : f 4 = nI c) (gq : ∀ q, 1 ≤ q → q < 61 → PQ g (c * 61 + q) (R.1 q)) (hc : c ≤ 8) (hm : m ≤ 60) : nxV R (nI m) = if iZ Z (nI m) = 0 then 0 else nI m := by
  rw [← FZ_iT hT.1.2]
  unfold nxV iT
  by_cases c0 : m = 0
  · subst c0
    rw [if_pos (Or.inl (by decide +kernel)), if_pos (show nI 0 ≤ (0 : Int32) by decide +kernel), if_pos rfl]
  · have hm0 : ¬ nI m ≤ (0 : Int32) := fun y => absurd ((nI_leI (a := m) (b := 0) (by omega) (by decide)).mp y) (by omega)
    rw [if_neg hm0, h4, nI_61 (by omega) (by omega), PQ_1 (gq m (by omega) (by omega)), nI_clamp (by omega), if_neg (show ¬ (nI m < 1 ∨ ¬ nI m ≤ 60) from fun y => by
      rcases y with y | y
      · exact absurd y (nI_nlt (a := m) (b := 1) (by omega) (by omega))
      · exact y (nI_le (b := 60) hm (by decide)))]
    exact (fs_pure _ _).symm
def KG (S : ES) (f : FT) (g : GT) : Prop := (S.2.2.2.1.1 = 0 → S.2.2.2.1.2.1 = 0 ∧ S.2.2.2.1.2.2.1 = 0) ∧ S.2.2.2.1.2.1 ≤ 40 ∧ (¬ S.2.2.2.1.1 = 0 → f 10 = S.2.2.2.1.2.2.1 ∧ f 11 = S.2.2.2.1.2.2.2.1 ∧ f 12 = nI S.2.2.2.1.2.1 ∧ (∀ j, j < S.2.2.2.1.2.1 → g 15 j = S.2.2.2.1.2.2.2.2.1 j) ∧ (∀ q, 1 ≤ q → q < 61 → g 16 q = S.2.2.2.1.2.2.2.2.2 q) ∧ (S.2.2.2.1.2.2.1 = 0 ∨ ∃ q d, S.2.2.2.1.2.2.1 = nI q ∧ 1 ≤ q ∧ q ≤ 60 ∧ (S.1 S.2.2.1).1 q = some d))
def RB (S : ES) (a b c : Int32) (g : GT) : Prop := a = nI S.2.1 ∧ b = nI S.2.2.1 ∧ c = S.2.2.2.1.1 ∧ g 0 = S.2.2.2.2 ∧ (∀ n, ¬ S.2.2.2.2 n < 0) ∧ S.2.1 ≤ 8 ∧ S.2.2.1 ≤ S.2.1 ∧ (∀ j, j ≤ S.2.1 → ∀ q, 1 ≤ q → q < 61 → PQ g (j * 61 + q) ((S.1 j).1 q)) ∧ (∀ j, j ≤ S.2.1 → ∀ k, 1 ≤ k → k < 10 → PK g (j * 10 + k) ((S.1 j).2 k)) ∧ ∀ j, j ≤ S.2.1 → okR (S.1 j)
def RLF (S : ES) (Z : ZT) : Prop := RB S Z.1 Z.2.1 Z.2.2.1 Z.2.2.2 ∧ KG S (fun i => Z.2.2.2 20 (i - 10)) Z.2.2.2
def RM (S : ES) (t : Nat) (f : FT) (g : GT) : Prop := BT t f g ∧ RB S (f 3) (f 4) (f 9) g ∧ KG S f g
theorem RB.g {S : ES} {a b c : Int32} {g g' : GT} (h : RB S a b c g) (hg : ∀ j, j < 13 → g' j = g j) : RB S a b c g' := by
  obtain ⟨r1, r2, r3, r4, r5, r6, r7, rq, rk, ro⟩ := h
  exact ⟨r1, r2, r3, (hg 0 (by decide)).trans r4, r5, r6, r7, fun j hj q h1 h2 => (rq j hj q h1 h2).same (RQ_o (fun a _ a2 => hg a (by omega))), fun j hj k h1 h2 => (rk j hj k h1 h2).same (RKe_o (fun a _ a2 => hg a (by omega))), ro⟩
theorem KG.o {S : ES} {f f' : FT} {g g' : GT} (h : KG S f g) (h10 : f' 10 = f 10) (h11 : f' 11 = f 11) (h12 : f' 12 = f 12) (h15 : g' 15 = g 15) (h16 : g' 16 = g 16) : KG S f' g' := by
  unfold KG
  rw [h10, h11, h12, h15, h16]
  exact h
theorem RLF.rm {S : ES} {Z : ZT} {t : Nat} {f : FT} {g : GT} (h : RLF S Z) (hT : TI Z t f g) : RM S t f g := by
  obtain ⟨k1, k2, k3, k4, k5⟩ := hT.2.2.2.2.2.1.2
  refine ⟨hT.bt, ?_, h.2.o k1 k2 k3 k4 k5⟩
  rw [hT.1.2.1, hT.1.2.2.1, hT.1.2.2.2.1]
  exact h.1.g (fun j hj => hT.1.2.2.2.2 j hj)
theorem RM.rl {S : ES} {t : Nat} {f : FT} {g : GT} (h : RM S t f g) : RLF S (zOf f g) := ⟨h.2.1.g (fun j hj => if_neg (by omega)), h.2.2.o rfl rfl rfl rfl rfl⟩
theorem RM.ti {S : ES} {t : Nat} {f : FT} {g : GT} (h : RM S t f g) : TI (zOf f g) t f g := h.1.ti
theorem KG_00 {S : ES} (h : S.2.2.2.1 = k00) (f : FT) (g : GT) : KG S f g := by
  unfold KG
  rw [h]
  exact ⟨fun _ => ⟨rfl, rfl⟩, by decide, fun n => absurd rfl n⟩
-- the calls that change what is held
theorem c_signF (T : ST) (b : Int64) (v : Int32) (t : Nat) (Z : ZT) (S : ES) (f : FT) (g : GT) (hT : TI Z t f g) (hR : RLF S Z) (Post : Int32 → FT → GT → Prop) (hq0 : ∀ n, v = nI n → 1 ≤ n → n ≤ 8 → t + n ≤ 400 → ∀ r f' g' Z', TI Z' (t + n) f' g' → RLF (S.1, S.2.1, S.2.2.1, S.2.2.2.1, sgL b n t S.2.2.2.2) Z' → Post r f' g') (hq1 : ¬ sgY v t = 0 → ∀ r f' g' Z', TI Z' t f' g' → RLF S Z' → Post r f' g') : mI T y_Mo_sign (Cond.code y_Mo_sign b_Mo_sign 5 (some .int)) 1 [.ref (ad T 0), .long b, .int v] f g Post := by
  refine c_sign T b v t f g hT.1.1 hT.2.1 Post ?_
  obtain ⟨hB, hRB, hK⟩ := hR.rm hT
  split
  · intro m e1 e2 e3 e4
    obtain ⟨r1, r2, r3, r4, r5, r6, r7, rq, rk, ro⟩ := hRB
    have eo : ∀ a, 1 ≤ a → va_up g 0 (sgL b m t (g 0)) a = g a := fun a h1 => up_other _ _ (by omega)
    have hM : RM (S.1, S.2.1, S.2.2.1, S.2.2.2.1, sgL b m t S.2.2.2.2) (t + m) (sgS f (t + m)) (va_up g 0 (sgL b m t (g 0))) := by
      refine ⟨⟨rfl, e4, hB.2.2.1, hB.2.2.2.1, hB.2.2.2.2.1, hB.2.2.2.2.2.1, hB.2.2.2.2.2.2.1, GI_free hB.2.2.2.2.2.2.2 (by decide) (by decide) (by decide) (by decide) (by decide) (by decide) (by decide)⟩, ⟨r1, r2, r3, ?_, sgL_nn b m t _ r5, r6, r7, fun j hj q h1 h2 => (rq j hj q h1 h2).same (RQ_o (fun a a1 a2 => eo a a1)), fun j hj k h1 h2 => (rk j hj k h1 h2).same (RKe_o (fun a a1 a2 => eo a (by omega))), ro⟩, hK.o rfl rfl rfl rfl rfl⟩
      show va_up g 0 (sgL b m t (g 0)) 0 = _; rw [up_same, r4]
    exact hq0 m e1 e2 e3 e4 _ _ _ _ hM.ti hM.rl
  · rename_i z
    exact hq1 z _ _ _ Z (TI_0 hT _) hR
theorem c_readF (T : ST) (t : Nat) (Z : ZT) (S : ES) (f : FT) (g : GT) (hT : TI Z t f g) (hR : RLF S Z) (Post : Int32 → FT → GT → Prop) (hqn : kTape false S.2.2.2.2 t = none → ∀ r f' g' Z', TI Z' 0 f' g' → RLF (clS S) Z' → f' 0 = 1 → Post r f' g') (hq8 : ∀ R, kTape false S.2.2.2.2 t = some R → S.2.1 = 8 → ∀ r f' g' Z', TI Z' 0 f' g' → RLF (clS S) Z' → f' 0 = 2 → Post r f' g') (hqs : ∀ R, kTape false S.2.2.2.2 t = some R → S.2.1 < 8 → ∀ f' g' Z', TI Z' 0 f' g' → RLF (rdS S R) Z' → f' 0 = 0 → Post (szL (mgR (S.1 S.2.2.1) R).1 60 1 0) f' g') : mI T y_Mo_read (Cond.code y_Mo_read b_Mo_read 2 (some .int)) 6 [.ref (ad T 0)] f g Post := by
  obtain ⟨hB, ⟨h3, h4, h9, g0, r5, r6, r7, gq, gk, ro⟩, hK⟩ := hR.rm hT
  obtain ⟨h1, ht, -, -, -, h10, h12, hg⟩ := hB
  have hG := GI_rdP (t := t) (d := f 7) (show S.2.2.1 ≤ 8 by omega) r6 hg
  have fr0 := (rd_frame (t := t) (d := f 7) (g := g) r7 r6).1
  obtain ⟨tp1, tp2⟩ := rd_tape (t := t) (d := f 7) (g := g) r7 r6 ht (by rw [g0]; exact r5)
  obtain ⟨hF, hC⟩ := rd_rows (t := t) (d := f 7) (g := g) r7 r6 ht (by rw [g0]; exact r5)
  refine c_read T f g t S.2.2.1 S.2.1 h1 ht h3 r6 h4 (by omega) _ ?_
  rw [g0] at tp1 tp2 hC
  have oq : ∀ j, j ≤ S.2.1 → ∀ q, 1 ≤ q → q < 61 → PQ (psG (rdP t S.2.2.1 S.2.1 (f 7) g)) (j * 61 + q) ((S.1 j).1 q) := fun j hj q q1 q2 => (gq j hj q q1 q2).same (hF.1 _ (by omega))
  have ok : ∀ j, j ≤ S.2.1 → ∀ k, 1 ≤ k → k < 10 → PK (psG (rdP t S.2.2.1 S.2.1 (f 7) g)) (j * 10 + k) ((S.1 j).2 k) := fun j hj k q1 q2 => (gk j hj k q1 q2).same (hF.2 _ (by omega))
  have old : ∀ y, RM (clS S) 0 (va_up (rdF f S.2.1 (rdP t S.2.2.1 S.2.1 (f 7) g)) 0 y) (psG (rdP t S.2.2.1 S.2.1 (f 7) g)) := fun y => ⟨⟨nI_0.symm, by decide, ⟨S.2.1, h3, r6⟩, ⟨S.2.2.1, h4, by omega⟩, Bd_0 9, h10, h12, hG⟩, ⟨h3, h4, rfl, fr0.trans g0, r5, r6, r7, oq, ok, ro⟩, KG_00 rfl _ _⟩
  unfold rdQ
  split
  · rename_i w
    obtain ⟨R, hR⟩ : ∃ R, kTape false S.2.2.2.2 t = some R := by
      cases e : kTape false S.2.2.2.2 t with
      | none => exact absurd w (tp2 e)
      | some R => exact ⟨R, rfl⟩
    split
    · rename_i e8
      exact hq8 R hR e8 _ _ _ _ (old 2).ti (old 2).rl rfl
    · rename_i e8
      obtain ⟨cq, ck⟩ := hC R hR
      have nq : ∀ q, 1 ≤ q → q < 61 → PQ (psG (rdP t S.2.2.1 S.2.1 (f 7) g)) ((S.2.1 + 1) * 61 + q) ((mgR (S.1 S.2.2.1) R).1 q) := fun q q1 q2 => cq q _ q2 (gq _ r7 q q1 q2)
      have nk : ∀ k, 1 ≤ k → k < 10 → PK (psG (rdP t S.2.2.1 S.2.1 (f 7) g)) ((S.2.1 + 1) * 10 + k) ((mgR (S.1 S.2.2.1) R).2 k) := fun k q1 q2 => ck k _ q2 (gk _ r7 k q1 q2)
      have hM : RM (rdS S R) 0 (va_up (va_up (va_up (rdF f S.2.1 (rdP t S.2.2.1 S.2.1 (f 7) g)) 0 0) 3 (nI (S.2.1 + 1))) 4 (nI (S.2.1 + 1))) (psG (rdP t S.2.2.1 S.2.1 (f 7) g)) := by
        refine ⟨⟨nI_0.symm, by decide, ⟨S.2.1 + 1, rfl, by omega⟩, ⟨S.2.1 + 1, rfl, by omega⟩, Bd_0 9, h10, h12, hG⟩, ⟨rfl, rfl, rfl, fr0.trans g0, r5, by show S.2.1 + 1 ≤ 8; omega, Nat.le_refl _, fun j hj q q1 q2 => ?_, fun j hj k q1 q2 => ?_, fun j hj => ?_⟩, KG_00 rfl _ _⟩
        · show PQ (psG (rdP t S.2.2.1 S.2.1 (f 7) g)) (j * 61 + q) ((va_up S.1 (S.2.1 + 1) (mgR (S.1 S.2.2.1) R) j).1 q)
          by_cases c : j = S.2.1 + 1
          · rw [c, up_same]; exact nq q q1 q2
          · have hj : j ≤ S.2.1 + 1 := hj
            rw [up_other _ _ c]; exact oq j (by omega) q q1 q2
        · show PK (psG (rdP t S.2.2.1 S.2.1 (f 7) g)) (j * 10 + k) ((va_up S.1 (S.2.1 + 1) (mgR (S.1 S.2.2.1) R) j).2 k)
          by_cases c : j = S.2.1 + 1
          · rw [c, up_same]; exact nk k q1 q2
          · have hj : j ≤ S.2.1 + 1 := hj
            rw [up_other _ _ c]; exact ok j (by omega) k q1 q2
        · show okR (va_up S.1 (S.2.1 + 1) (mgR (S.1 S.2.2.1) R) j)
          by_cases c : j = S.2.1 + 1
          · rw [c, up_same]; exact okR_mg (ro _ r7) (kTape_ok hR)
          · have hj : j ≤ S.2.1 + 1 := hj
            rw [up_other _ _ c]; exact ro j (by omega)
      rw [qL_sz (f := (mgR (S.1 S.2.2.1) R).1) (by omega) (fun q q1 q2 => PQ_1 (nq q q1 q2)) 60 1 0 (by decide) (by decide)]
      exact hqs R hR (by omega) _ _ _ hM.ti hM.rl rfl
  · rename_i w
    have hk : kTape false S.2.2.2.2 t = none := by
      cases e : kTape false S.2.2.2.2 t with
      | none => rfl
      | some R => exact absurd (tp1 R e).1 w
    exact hqn hk _ _ _ _ (old 1).ti (old 1).rl rfl
theorem c_editionF (T : ST) (v : Int32) (t : Nat) (Z : ZT) (S : ES) (f : FT) (g : GT) (hT : TI Z t f g) (hR : RLF S Z) (Post : Int32 → FT → GT → Prop) (hq0 : ∀ j, v = nI j → j < 100 → j ≤ S.2.1 → ∀ f' g' Z', TI Z' t f' g' → RLF (S.1, S.2.1, j, k00, S.2.2.2.2) Z' → f' 0 = 0 → Post (szL (S.1 j).1 60 1 0) f' g') (hq1 : (v < 0 ∨ ¬ v ≤ nI S.2.1) → ∀ r f' g' Z', TI Z' t f' g' → RLF S Z' → f' 0 = 1 → Post r f' g') : mI T y_Mo_edition (Cond.code y_Mo_edition b_Mo_edition 2 (some .int)) 1 [.ref (ad T 0), .int v] f g Post := by
  obtain ⟨hB, ⟨h3, h4, h9, g0, r5, r6, r7, gq, gk, ro⟩, hK⟩ := hR.rm hT
  refine c_edition T v Z t f g hT Post ?_
  split
  · rename_i z
    refine hq1 ?_ _ _ _ Z (TI_0 hT _) hR rfl
    rw [h3] at z
    by_cases y : v < 0
    · exact Or.inl y
    · refine Or.inr (fun y2 => ?_)
      unfold inV at z
      rw [if_neg y, if_neg (Int32.not_lt.mpr y2)] at z
      exact absurd z (by decide +kernel)
  · rename_i z
    have hz := inV_nz z
    rw [h3] at hz
    obtain ⟨j, hj, ej⟩ := nI_of (x := v) (fun q => absurd hz.1 (by rw [Int32.not_le]; exact q))
    subst ej
    have hj2 : j ≤ S.2.1 := (nI_leI hj (by omega)).mp hz.2
    rw [qL_sz (f := (S.1 j).1) (by omega) (fun q q1 q2 => PQ_1 (gq j hj2 q q1 q2)) 60 1 0 (by decide) (by decide)]
    have hM : RM (S.1, S.2.1, j, k00, S.2.2.2.2) t (va_up (va_up (va_up f 0 0) 4 (nI j)) 9 0) g := ⟨⟨hB.1, hB.2.1, hB.2.2.1, ⟨j, rfl, by omega⟩, Bd_0 9, hB.2.2.2.2.2⟩, ⟨h3, rfl, rfl, g0, r5, r6, hj2, gq, gk, ro⟩, KG_00 rfl _ _⟩
    exact hq0 j rfl (by omega) hj2 _ _ _ hM.ti hM.rl rfl
theorem c_firstF (T : ST) (v : Int32) (t : Nat) (Z : ZT) (S : ES) (f : FT) (g : GT) (hT : TI Z t f g) (hR : RLF S Z) (Post : Int32 → FT → GT → Prop) (hq0 : ∀ j d, v = nI j → 1 ≤ j → j ≤ 9 → (S.1 S.2.2.1).2 j = some d → ∀ f' g' Z', TI Z' t f' g' → RLF (S.1, S.2.1, S.2.2.1, kFs v (nxV (S.1 S.2.2.1) d.1), S.2.2.2.2) Z' → f' 0 = 0 → Post (nxV (S.1 S.2.2.1) d.1) f' g') (hq1 : ((v < 1 ∨ ¬ v ≤ 9) ∨ ∃ j, v = nI j ∧ 1 ≤ j ∧ j ≤ 9 ∧ ((S.1 S.2.2.1).2 j) = none) → ∀ r f' g' Z', TI Z' t f' g' → RLF S Z' → f' 0 = 1 → Post r f' g') : mI T y_Mo_first (Cond.code y_Mo_first b_Mo_first 3 (some .int)) 2 [.ref (ad T 0), .int v] f g Post := by
  obtain ⟨hB, ⟨h3, h4, h9, g0, r5, r6, r7, gq, gk, ro⟩, hK⟩ := hR.rm hT
  have hg := hB.2.2.2.2.2.2.2
  have ei : ∀ q, q ≤ 9 → (((f 4) * 10) + nI q : Int32).toNatClampNeg = S.2.2.1 * 10 + q := fun q hq => by
    rw [h4]; exact nI_10 (by omega) (by omega)
  have le0 : ∀ q, g 9 q ≤ 0 ↔ g 9 q = 0 := fun q => by
    obtain ⟨m, em, hm⟩ := hg.2.2.2.1 q
    rw [em, ← nI_0, nI_leI (by omega) (by decide), nI_eq (by omega) (by decide)]
    omega
  refine c_firstW T v Z t f g hT Post (fun z => ?_) (fun q e q1 q2 z => ?_)
  · intro r f' hT' h00
    refine hq1 ?_ r f' g Z hT' hR h00
    by_cases y : v < 1 ∨ ¬ v ≤ 9
    · exact Or.inl y
    · right
      have y1 : ¬ v < 1 := fun q => y (Or.inl q)
      have y2 : v ≤ 9 := Classical.byContradiction (fun q => y (Or.inr q))
      obtain ⟨j, e, j1, j2⟩ := x_rng (M := 9) (by decide) y1 y2
      refine ⟨j, e, j1, j2, ?_⟩
      rcases z with z | z
      · unfold inV at z
        rw [if_neg y1, if_neg (Int32.not_lt.mpr y2)] at z
        exact absurd z (by decide +kernel)
      · rw [e, ei j j2, le0] at z
        cases hs : (S.1 S.2.2.1).2 j with
        | none => rfl
        | some d => exact absurd z ((PK_9 (gk _ r7 j j1 (by omega))).mp (by rw [hs]; rfl))
  · intro f' g' b1 b2 b3 b4 b5 b6 b7 h00
    have z2 := z
    rw [e, ei q q2, le0] at z2
    obtain ⟨d, hd⟩ : ∃ d, (S.1 S.2.2.1).2 q = some d := by
      cases hs : (S.1 S.2.2.1).2 q with
      | none => exact absurd ((PK_9 (gk _ r7 q q1 (by omega))).mpr z2) (by rw [hs]; exact fun y => (nomatch y))
      | some d => exact ⟨d, rfl⟩
    obtain ⟨kr, m, k2, k3, k4⟩ := (gk _ r7 q q1 (by omega)).2 d hd
    have ev : fsV Z v = nxV (S.1 S.2.2.1) d.1 := by
      have e9 : Z.2.2.2 9 ((Z.2.1 * 10) + v : Int32).toNatClampNeg = d.1 := by
        rw [← hT.1.2.2.1, ← hT.1.2.2.2.2 9 (by decide), e, ei q q2]; exact kr.1
      unfold fsV
      rw [e9]
      unfold nxV iZ
      have hm0 : ¬ nI m ≤ (0 : Int32) := fun y => absurd ((nI_leI (a := m) (b := 0) (by omega) (by decide)).mp y) (by omega)
      rw [k2, if_neg hm0, ← hT.1.2.2.1, ← hT.1.2.2.2.2 1 (by decide), h4, nI_61 (by omega) (by omega), PQ_1 (gq _ r7 m k3 (by omega)), nI_clamp (by omega), if_neg (show ¬ (nI m < 1 ∨ ¬ nI m ≤ 60) from fun y => by
        rcases y with y | y
        · exact absurd y (nI_nlt (a := m) (b := 1) k3 (by omega))
        · exact y (nI_le (b := 60) k4 (by decide)))]
      exact fs_pure _ _
    rw [ev] at b3 b5 b6 ⊢
    have hv0 : ¬ v = 0 := by
      rw [e, ← nI_0, nI_eq (by omega) (by decide)]
      omega
    have hM : RM (S.1, S.2.1, S.2.2.1, kFs v (nxV (S.1 S.2.2.1) d.1), S.2.2.2.2) t f' g' := by
      refine ⟨b1, ?_, ?_⟩
      · have hb : RB (S.1, S.2.1, S.2.2.1, kFs v (nxV (S.1 S.2.2.1) d.1), S.2.2.2.2) (f 3) (f 4) v g := ⟨h3, h4, rfl, g0, r5, r6, r7, gq, gk, ro⟩
        rw [b2.1, b2.2.1, b2.2.2.1, ← hT.1.2.1, ← hT.1.2.2.1]
        exact hb.g (fun j hj => (b2.2.2.2 j hj).trans (hT.1.2.2.2.2 j hj).symm)
      · refine ⟨fun n => absurd n hv0, ?_, fun _ => ⟨b3, b4, ?_, fun j hj => ?_, fun q _ q2 => b7 q q2, ?_⟩⟩
        · show (if nxV (S.1 S.2.2.1) d.1 = 0 then 0 else 1) ≤ 40
          split <;> decide
        · show f' 12 = nI (if nxV (S.1 S.2.2.1) d.1 = 0 then 0 else 1)
          rw [b5]
          split
          · exact nI_0.symm
          · rfl
        · have hj : j < (if nxV (S.1 S.2.2.1) d.1 = 0 then 0 else 1) := hj
          show g' 15 j = nxV (S.1 S.2.2.1) d.1
          by_cases c : nxV (S.1 S.2.2.1) d.1 = 0
          · rw [if_pos c] at hj; omega
          · rw [if_neg c] at hj
            rw [show j = 0 by omega]
            exact b6 c
        · exact nxV_q _ _
    exact hq0 q d e q1 q2 hd f' g' _ hM.ti hM.rl h00
-- answer
theorem c_answerF (T : ST) (v : Int32) (t : Nat) (Z : ZT) (S : ES) (f : FT) (g : GT) (hT : TI Z t f g) (hR : RLF S Z) (Post : Int32 → FT → GT → Prop) (hn : anNo S → ∀ r f' g' Z', TI Z' t f' g' → RLF S Z' → f' 0 = 2 → Post r f' g') (hb : ∀ q d, anQ S q d → alV d v = 0 → ∀ r f' g' Z', TI Z' t f' g' → RLF S Z' → f' 0 = 1 → Post r f' g') (h40 : ∀ q d, anQ S q d → ¬ alV d v = 0 → ¬ anN S d v = 0 → ¬ S.2.2.2.1.2.1 < 40 → ∀ r f' g' Z', TI Z' t f' g' → RLF S Z' → f' 0 = 2 → Post r f' g') (h0 : ∀ q d, anQ S q d → ¬ alV d v = 0 → (¬ anN S d v = 0 → S.2.2.2.1.2.1 < 40) → ∀ f' g' Z', TI Z' t f' g' → RLF (anS S d v) Z' → f' 0 = 0 → Post (anN S d v) f' g') : mI T y_Mo_answer (Cond.code y_Mo_answer b_Mo_answer 5 (some .int)) 2 [.ref (ad T 0), .int v] f g Post := by
  obtain ⟨hB, ⟨h3, h4, h9, g0, r5, r6, r7, gq, gk, ro⟩, hK⟩ := hR.rm hT
  obtain ⟨w, ew, hw⟩ := hB.2.2.2.2.2.1
  obtain ⟨kk0, kk1, kk⟩ := hK
  have now0 : (f 9 = 0 ∨ f 10 = 0) → anNo S := by
    intro z
    left; left
    have e0 : S.2.2.2.1.2.2.1 = 0 := by
      by_cases c : S.2.2.2.1.1 = 0
      · exact (kk0 c).2
      · rcases z with z | z
        · exact absurd (h9.symm.trans z) c
        · exact (kk c).1.symm.trans z
    rw [e0]; decide +kernel
  -- the question that is asked
  have qu : ¬ f 9 = 0 → ¬ f 10 = 0 → ∃ d, anQ S w d ∧ QR g (S.2.2.1 * 61 + w) d ∧ okQ d := by
    intro n9 n10
    have c : ¬ S.2.2.2.1.1 = 0 := fun z => n9 (h9.trans z)
    obtain ⟨a1, -, -, -, -, a6⟩ := kk c
    rcases a6 with a6 | ⟨q, d, a7, a8, a10, a11⟩
    · exact absurd (a1.trans a6) n10
    · have e : w = q := (nI_eq (by omega) (by omega)).mp (ew.symm.trans (a1.trans a7))
      subst e
      exact ⟨d, ⟨a7, a8, a10, a11⟩, ((gq _ r7 w a8 (by omega)).2 d a11).1, (ro _ r7).1 w d a11⟩
  have izN : ∀ d, iZ Z (jmpV d v).2.2.1 = 0 → Bd 60 (jmpV d v).2.2.1 → anN S d v = 0 := fun d z hbd => by
    obtain ⟨m, em, hm⟩ := hbd
    unfold anN
    rw [em] at z ⊢
    rw [iZ_nx hT h4 (gq _ r7) (by omega) hm, z]; exact if_pos rfl
  have izY : ∀ d, ¬ iZ Z (jmpV d v).2.2.1 = 0 → Bd 60 (jmpV d v).2.2.1 → anN S d v = (jmpV d v).2.2.1 ∧ ¬ (jmpV d v).2.2.1 = 0 := fun d z hbd => by
    obtain ⟨m, em, hm⟩ := hbd
    unfold anN
    rw [em] at z ⊢
    refine ⟨by rw [iZ_nx hT h4 (gq _ r7) (by omega) hm]; exact if_neg z, fun q => z ?_⟩
    rw [q]; exact if_pos (Int32.le_refl 0)
  have bd : ∀ K, Bd 60 (g 8 (aJ g K v + 2)) := fun K => hB.2.2.2.2.2.2.2.2.2.1 _ (by unfold aJ; omega)
  have cnt : ¬ f 9 = 0 → f 12 = nI S.2.2.2.1.2.1 := fun n9 => (kk (fun z => n9 (h9.trans z))).2.2.1
  have c40 : ¬ f 9 = 0 → (f 12 = 40 ↔ ¬ S.2.2.2.1.2.1 < 40) := fun n9 => by
    rw [cnt n9, show (40 : Int32) = nI 40 from rfl, nI_eq (by omega) (by decide)]
    omega
  refine c_answerX T v Z t f g hT S.2.2.1 w h4 (by omega) ew hw Post (fun z f' hT' hf => hn (now0 z) _ _ _ Z hT' hR hf) (fun n9 n10 z f' hT' hf => ?_) (fun n9 n10 z z2 z3 f' hT' hf => ?_) (fun n9 n10 z z2 f' g' ha => ?_)
  · obtain ⟨d, hq, hQ, hok⟩ := qu n9 n10
    exact hb w d hq ((abad_al hQ v).mp z) _ _ _ Z hT' hR hf
  · obtain ⟨d, hq, hQ, hok⟩ := qu n9 n10
    have ej := aJ_jmp hQ hok v
    have b8 := bd (S.2.2.1 * 61 + w)
    rw [ej.1] at z2 b8
    obtain ⟨y1, y2⟩ := izY d z2 b8
    exact h40 w d hq (fun q => z ((abad_al hQ v).mpr q)) (by rw [y1]; exact y2) ((c40 n9).mp z3) _ _ _ Z hT' hR hf
  · obtain ⟨d, hq, hQ, hok⟩ := qu n9 n10
    have ej := aJ_jmp hQ hok v
    have b8 := bd (S.2.2.1 * 61 + w)
    obtain ⟨a1, a2, a3, a4, a5, a6, a7, a8⟩ := ha
    rw [ej.1] at z2 b8 a3 a5 a6
    rw [ej.2] at a4
    have c : ¬ S.2.2.2.1.1 = 0 := fun z => n9 (h9.trans z)
    obtain ⟨k1, k2, k3, k4, k5, k6⟩ := kk c
    have en : f' 10 = anN S d v := by
      rw [a3]
      by_cases z3 : iZ Z (jmpV d v).2.2.1 = 0
      · rw [if_pos z3, izN d z3 b8]
      · rw [if_neg z3, (izY d z3 b8).1]
    have hz : iZ Z (jmpV d v).2.2.1 = 0 ↔ anN S d v = 0 := ⟨fun z3 => izN d z3 b8, fun z3 => Classical.byContradiction (fun n => (izY d n b8).2 ((izY d n b8).1.symm.trans z3))⟩
    have h41 : ¬ anN S d v = 0 → S.2.2.2.1.2.1 < 40 := fun n => Classical.byContradiction (fun n2 => z2 (fun q => n (hz.mp q)) ((c40 n9).mpr n2))
    have hM : RM (anS S d v) t f' g' := by
      refine ⟨a1, ?_, fun q => absurd q c, ?_, fun _ => ⟨en, ?_, ?_, fun j hj => ?_, fun q q1 q2 => ?_, nxV_q _ _⟩⟩
      · have hb : RB (anS S d v) (f 3) (f 4) (f 9) g := ⟨h3, h4, h9, g0, r5, r6, r7, gq, gk, ro⟩
        rw [a2.1, a2.2.1, a2.2.2.1, ← hT.1.2.1, ← hT.1.2.2.1, ← hT.1.2.2.2.1]
        exact hb.g (fun j hj => (a2.2.2.2 j hj).trans (hT.1.2.2.2.2 j hj).symm)
      · show (if anN S d v = 0 then S.2.2.2.1.2.1 else S.2.2.2.1.2.1 + 1) ≤ 40
        split
        · exact kk1
        · rename_i n; have := h41 n; omega
      · show f' 11 = S.2.2.2.1.2.2.2.1 + (jmpV d v).2.2.2
        rw [a4, k2]
      · show f' 12 = nI (if anN S d v = 0 then S.2.2.2.1.2.1 else S.2.2.2.1.2.1 + 1)
        rw [a5, k3]
        by_cases z3 : anN S d v = 0
        · rw [if_pos (hz.mpr z3), if_pos z3]
        · rw [if_neg (fun q => z3 (hz.mp q)), if_neg z3, nI_1]
      · have hj : j < (if anN S d v = 0 then S.2.2.2.1.2.1 else S.2.2.2.1.2.1 + 1) := hj
        show g' 15 j = (if anN S d v = 0 then S.2.2.2.1.2.2.2.2.1 else upd S.2.2.2.1.2.2.2.2.1 S.2.2.2.1.2.1 (anN S d v)) j
        rw [a6 j]
        by_cases z3 : anN S d v = 0
        · rw [if_pos z3] at hj
          rw [if_pos (hz.mpr z3), if_pos z3]
          exact k4 j hj
        · rw [if_neg z3] at hj
          have z4 : ¬ iZ Z (jmpV d v).2.2.1 = 0 := fun q => z3 (hz.mp q)
          rw [if_neg z4, if_neg z3, k3, nI_clamp (by omega), (izY d z4 b8).1]
          unfold upd
          split
          · rfl
          · exact k4 j (by omega)
      · show g' 16 q = upd S.2.2.2.1.2.2.2.2.2 S.2.2.2.1.2.2.1.toNatClampNeg v q
        rw [a7, hq.1, nI_clamp (by omega)]
        unfold upd
        split
        · rfl
        · exact k5 q q1 q2
    rw [en]
    exact h0 w d hq (fun q => z ((abad_al hQ v).mpr q)) h41 _ _ _ hM.ti hM.rl a8
theorem anQ_u {S : ES} {q q' : Nat} {d d' : QD} (h : anQ S q d) (h' : anQ S q' d') : d = d' := by
  obtain ⟨a1, a2, a3, a4⟩ := h
  obtain ⟨b1, b2, b3, b4⟩ := h'
  have e : q = q' := (nI_eq (by omega) (by omega)).mp (a1.symm.trans b1)
  subst e
  rw [a4] at b4
  cases b4
  rfl
theorem anQ_no {S : ES} {q : Nat} {d : QD} (h : anQ S q d) : ¬ anNo S := by
  obtain ⟨a1, a2, a3, a4⟩ := h
  rintro ((z | z) | ⟨q', b1, b2, b3, b4⟩)
  · rw [a1] at z; exact absurd z (nI_nlt (a := q) (b := 1) a2 (by omega))
  · rw [a1] at z; exact z (nI_le (b := 60) a3 (by decide))
  · have e : q = q' := (nI_eq (by omega) (by omega)).mp (a1.symm.trans b1)
    subst e
    rw [a4] at b4
    cases b4
theorem ak_eq {S : ES} {t : Nat} {f : FT} {g : GT} (hM : RM S t f g) {v n : Int32} (h0 : 0 ≤ v) (h1 : nI S.2.2.2.1.2.1 ≤ v → n = 0) (h2 : ¬ S.2.2.2.1.1 = 0 → ¬ nI S.2.2.2.1.2.1 ≤ v → n = S.2.2.2.1.2.2.2.2.1 v.toNatClampNeg) : akV f g v = n := by
  obtain ⟨hB, ⟨-, -, h9, -⟩, kk0, kk1, kk⟩ := hM
  unfold akV
  by_cases c : S.2.2.2.1.1 = 0
  · rw [if_pos (by rw [h9, c]; exact Int32.le_refl 0)]
    exact (h1 (by rw [(kk0 c).1]; exact h0)).symm
  · obtain ⟨m, em, hm⟩ := hB.2.2.2.2.1
    have hn : ¬ f 9 ≤ 0 := by
      intro z
      rw [em] at z
      have e : m = 0 := by
        have := (nI_leI (a := m) (b := 0) (by omega) (by decide)).mp z
        omega
      rw [e] at em
      exact c (h9.symm.trans (em.trans nI_0))
    obtain ⟨-, -, k3, k4, -⟩ := kk c
    rw [if_neg hn, k3]
    by_cases c2 : nI S.2.2.2.1.2.1 ≤ v
    · rw [if_pos c2, h1 c2]
    · rw [if_neg c2, h2 c c2]
      obtain ⟨j, hj, ej⟩ := nI_of (x := v) (fun q => absurd h0 (by rw [Int32.not_le]; exact q))
      rw [ej, nI_leI (by omega) hj] at c2
      exact k4 _ (by rw [ej, nI_clamp hj]; omega)
-- loop, never, endless: both sides
theorem c_loopF (T : ST) (v : Int32) (t : Nat) (Z : ZT) (S : ES) (f : FT) (g : GT) (hT : TI Z t f g) (hR : RLF S Z) (Post : Int32 → FT → GT → Prop) (hb : v < 0 → ∀ r f' g', TI Z t f' g' → f' 0 = 1 → Post r f' g') (h0 : ∀ r, mbV (loE (S.1 S.2.2.1)) v r → ∀ f' g', TI Z t f' g' → f' 0 = 0 → Post r f' g') : mI T y_Mo_loop (Cond.code y_Mo_loop b_Mo_loop 4 (some .int)) 3 [.ref (ad T 0), .int v] f g Post := by
  obtain ⟨hB, ⟨h3, h4, h9, g0, r5, r6, r7, gq, gk, ro⟩, hK⟩ := hR.rm hT
  exact c_loopX T v Z t f g hT (S.1 S.2.2.1) S.2.2.1 h4 (by omega) (gq _ r7) Post hb (fun r f' g' hm hT' hf => h0 r hm f' g' hT' hf)
theorem c_neverF (T : ST) (v : Int32) (t : Nat) (Z : ZT) (S : ES) (f : FT) (g : GT) (hT : TI Z t f g) (hR : RLF S Z) (Post : Int32 → FT → GT → Prop) (hb : v < 0 → ∀ r f' g', TI Z t f' g' → f' 0 = 1 → Post r f' g') (h0 : ∀ r, mbV (neE (S.1 S.2.2.1)) v r → ∀ f' g', TI Z t f' g' → f' 0 = 0 → Post r f' g') : mI T y_Mo_never (Cond.code y_Mo_never b_Mo_never 5 (some .int)) 2 [.ref (ad T 0), .int v] f g Post := by
  obtain ⟨hB, ⟨h3, h4, h9, g0, r5, r6, r7, gq, gk, ro⟩, hK⟩ := hR.rm hT
  exact c_neverX T v Z t f g hT (S.1 S.2.2.1) S.2.2.1 h4 (by omega) (gq _ r7) (gk _ r7) Post hb (fun r f' g' hm hT' hf => h0 r hm f' g' hT' hf)
theorem c_endlessF (T : ST) (v : Int32) (t : Nat) (Z : ZT) (S : ES) (f : FT) (g : GT) (hT : TI Z t f g) (hR : RLF S Z) (Post : Int32 → FT → GT → Prop) (hb : v < 0 → ∀ r f' g', TI Z t f' g' → f' 0 = 1 → Post r f' g') (h0 : ∀ r, mbV (enE (S.1 S.2.2.1)) v r → ∀ f' g', TI Z t f' g' → f' 0 = 0 → Post r f' g') : mI T y_Mo_endless (Cond.code y_Mo_endless b_Mo_endless 5 (some .int)) 2 [.ref (ad T 0), .int v] f g Post := by
  obtain ⟨hB, ⟨h3, h4, h9, g0, r5, r6, r7, gq, gk, ro⟩, hK⟩ := hR.rm hT
  exact c_endlessX T v Z t f g hT (S.1 S.2.2.1) S.2.2.1 h4 (by omega) (gq _ r7) (gk _ r7) Post hb (fun r f' g' hm hT' hf => h0 r hm f' g' hT' hf)
