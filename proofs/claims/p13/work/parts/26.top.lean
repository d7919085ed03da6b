-- sign
def sgB (b : Int64) (j : Nat) : Int32 := ((b >>> ((8 * nI j).toInt64 &&& 63)).toInt32) &&& 255
def sgL (b : Int64) : Nat → Nat → (Nat → Int32) → (Nat → Int32)
  | 0, _, h => h
  | j + 1, t, h => sgL b j (t + 1) (upd h t (sgB b j))
def sgS (f : FT) (t : Nat) : FT := va_up (va_up f 0 0) 1 (nI t)
theorem sgS_up (f : FT) (t : Nat) : va_up (sgS f t) 1 (nI t + 1) = sgS f (t + 1) := by
  funext j
  rw [nI_1]
  unfold sgS va_up
  by_cases h : j = 1
  · simp only [h, if_true]
  · simp only [h, if_false]
theorem sgS_0 {f : FT} {t : Nat} (h1 : f 1 = nI t) : va_up f 0 0 = sgS f t := by
  funext j
  unfold sgS va_up
  by_cases h : j = 1
  · subst h; simp only [if_true]; exact h1
  · simp only [h, if_false]
theorem up_up {α : Type} (g : Nat → α) (k : Nat) (a b : α) : va_up (va_up g k a) k b = va_up g k b := by
  funext j
  unfold va_up
  by_cases h : j = k
  · simp only [h, if_true]
  · simp only [h, if_false]
theorem up_id {α : Type} (g : Nat → α) (k : Nat) : va_up g k (g k) = g := by
  funext j
  unfold va_up
  by_cases h : j = k
  · simp only [h, if_true]
  · simp only [h, if_false]
theorem i32_m1 (x : Int32) : x + (-1) = x - 1 := (Int32.sub_eq_add_neg x 1).symm
def sgY (n : Int32) (t : Nat) : Int32 := if inV n 1 8 = 0 then 1 else if nI t + n ≤ 400 then 0 else 2
theorem c_sign (T : ST) (b : Int64) (n : Int32) (t : Nat) (f : FT) (g : GT) (h1 : f 1 = nI t) (ht : t ≤ 400) (Post : Int32 → FT → GT → Prop) (hq : if sgY n t = 0 then (∀ m : Nat, n = nI m → 1 ≤ m → m ≤ 8 → t + m ≤ 400 → Post (nI (t + m)) (sgS f (t + m)) (va_up g 0 (sgL b m t (g 0)))) else Post 0 (va_up f 0 (sgY n t)) g) : mI T y_Mo_sign (Cond.code y_Mo_sign b_Mo_sign 5 (some .int)) 1 [.ref (ad T 0), .long b, .int n] f g Post := by
  refine e_Mo_sign T Post b n f g ?_
  rintro C rfl X
  refine k_Mo_sign_0 X Post (P_5 := fun r f' g' => r = inV n 1 8 ∧ f' = f ∧ g' = g) _ _ _ _ ?_ ?_
  · exact c_in _ _ _ _ _ _ _ ⟨rfl, rfl, rfl⟩
  rintro r f1 g1 ⟨rfl, rfl, rfl⟩
  have bad : ∀ y, sgY n t = y → ¬ y = 0 → ¬ y ≤ 0 → zn_sign C Post 32 [(0, .ref (ad C.1 0)), (1, .long b), (3, .int n)] [.int y, .ref (ad C.1 0)] f1 g1 := by
    intro y e hy hy2
    rw [e, if_neg hy] at hq
    exact k_Mo_sign_32 X Post _ _ _ _ _ (fun z => absurd z hy2) (fun _ => hq)
  refine k_Mo_sign_8 X Post _ _ _ _ _ ?_ ?_ ?_
  · intro z1 z2
    rw [h1] at z2
    have e : sgY n t = 0 := (if_neg z1).trans (if_pos z2)
    rw [e, if_pos rfl] at hq
    have hz := inV_nz z1
    obtain ⟨m, hm, rfl⟩ := nI_of2 (x := n) (M := 8) (n := 8) (by decide +kernel) (fun q => absurd (Int32.lt_of_lt_of_le q (show (0 : Int32) ≤ 1 by decide +kernel)) (Int32.not_lt.mpr hz.1)) hz.2
    have hm1 : 1 ≤ m := by
      have := hz.1
      rwa [show (1 : Int32) = nI 1 from rfl, nI_leI (by decide) (by omega)] at this
    have htm : t + m ≤ 400 := by rwa [nI_add, show (400 : Int32) = nI 400 from rfl, nI_leI (by omega) (by decide)] at z2
    have fin := hq m rfl hm1 hm htm
    have loop : ∀ j t' h, t' + j = t + m → Post (nI (t + m)) (sgS f1 (t + m)) (va_up g1 0 (sgL b j t' h)) → zn_sign C Post 49 [(0, .ref (ad C.1 0)), (1, .long b), (3, .int (nI m)), (4, .int (nI j - 1))] [] (sgS f1 t') (va_up g1 0 h) := by
      intro j
      induction j with
      | zero =>
        intro t' h hj hq
        refine k_Mo_sign_49 X Post _ _ _ _ _ (fun _ => ?_) (fun z => absurd (by decide +kernel) z) (fun z => absurd (by decide +kernel) z)
        rw [show sgS f1 t' 1 = nI t' from rfl, show t' = t + m by omega]
        rw [show t' = t + m by omega] at hq
        exact hq
      | succ j ih =>
        intro t' h hj hq
        rw [nI_pred]
        refine k_Mo_sign_49 X Post _ _ _ _ _ (fun z => absurd z (nI_pos (by omega))) (fun _ => ?_) (fun _ => ?_)
        · rw [show sgS f1 t' 1 = nI t' from rfl]; exact vi_n (by omega) (by decide)
        · rw [show sgS f1 t' 1 = nI t' from rfl, sgS_up, i32_m1, up_same, up_up, nI_clamp (by omega)]
          exact ih (t' + 1) _ (by omega) hq
    refine k_Mo_sign_32 X Post _ _ _ _ _ (fun _ => ?_) (fun z => absurd (by decide +kernel) z)
    rw [sgS_0 h1]
    have := loop m t (g1 0) rfl fin
    rw [up_id] at this
    exact this
  · intro z1 z2
    rw [h1] at z2
    exact bad 2 ((if_neg z1).trans (if_neg z2)) (by decide +kernel) (by decide +kernel)
  · intro z1
    exact bad 1 (if_pos z1) (by decide +kernel) (by decide +kernel)
-- is there a question
def iT (f : FT) (g : GT) (x : Int32) : Int32 := if x ≤ 0 then 0 else if g 1 (((f 4) * 61) + x : Int32).toNatClampNeg = 0 then 0 else 1
theorem iT_01 (f : FT) (g : GT) (x : Int32) : iT f g x = 0 ∨ iT f g x = 1 := by
  unfold iT
  split
  · exact Or.inl rfl
  · split
    · exact Or.inl rfl
    · exact Or.inr rfl
theorem c_isThere (T : ST) (x : Int32) (f : FT) (g : GT) (h4 : Bd 8 (f 4)) (hx : Bd 60 x) (Post : Int32 → FT → GT → Prop) (hq : Post (iT f g x) f g) : mI T y_Mo_isThere (Cond.code y_Mo_isThere b_Mo_isThere 2 (some .boolean)) 0 [.ref (ad T 0), .int x] f g Post := by
  refine e_Mo_isThere T Post x f g ?_
  rintro C rfl X
  obtain ⟨c, ec, hc⟩ := h4
  obtain ⟨q, eq, hq2⟩ := hx
  have s26 : ∀ y, y = iT f g x → zn_isThere C Post 26 [(0, .ref (ad C.1 0)), (1, .int x)] [.int y] f g := fun y e => k_Mo_isThere_26 X Post _ _ _ _ (by rw [e]; exact hq) (nar01 (by rw [e]; exact iT_01 f g x))
  refine k_Mo_isThere_0 X Post _ _ _ ?_ ?_ ?_ ?_
  · intro z; exact k_Mo_isThere_25 X Post _ _ _ (s26 0 (if_pos z).symm)
  · intro z
    rw [ec, eq, show (61 : Int32) = nI 61 from rfl, pk_mul, nI_add]
    exact vi_n (by omega) (by decide)
  · intro z z2; exact k_Mo_isThere_25 X Post _ _ _ (s26 0 ((if_neg z).trans (if_pos z2)).symm)
  · intro z z2; exact s26 1 ((if_neg z).trans (if_neg z2)).symm
theorem c_asks (T : ST) (x : Int32) (Z : ZT) (t : Nat) (f : FT) (g : GT) (hT : TI Z t f g) (hx : Bd 60 x) (hm : ¬ iT f g x = 0 → ∃ m, f 12 = nI m ∧ m < 40) (Post : FT → GT → Prop) (hq : if iT f g x = 0 then Post (va_up f 10 0) g else Post (va_up (va_up f 10 x) 12 (f 12 + 1)) (va_up g 15 (upd (g 15) (f 12).toNatClampNeg x))) : mV T y_Mo_asks (Cond.code y_Mo_asks b_Mo_asks 2 none) 1 [.ref (ad T 0), .int x] f g Post := by
  refine e_Mo_asks T Post x f g ?_
  rintro C rfl X
  refine k_Mo_asks_0 X Post (P_3 := fun r f' g' => r = iT f g x ∧ f' = f ∧ g' = g) _ _ _ ?_ ?_
  · exact c_isThere _ x f g hT.2.2.2.1 hx _ ⟨rfl, rfl, rfl⟩
  rintro r f1 g1 ⟨rfl, rfl, rfl⟩
  refine k_Mo_asks_6 X Post _ _ _ _ ?_ ?_
  · intro z
    rw [if_pos z] at hq
    refine k_Mo_asks_14 X Post _ _ _ _ (fun y => absurd rfl y) (fun y => absurd rfl y) (fun _ => hq)
  · intro z
    rw [if_neg z] at hq
    obtain ⟨m, em, hm⟩ := hm z
    have hx0 : ¬ x = 0 := by
      intro e
      apply z
      rw [e]; exact if_pos (Int32.le_refl 0)
    refine k_Mo_asks_14 X Post _ _ _ _ (fun _ => ?_) (fun _ => hq) (fun y => absurd y hx0)
    rw [em]; exact vi_n hm (by decide)
theorem BT_asks0 {t : Nat} {f : FT} {g : GT} (h : BT t f g) : BT t (va_up f 10 0) g := ⟨h.1, h.2.1, h.2.2.1, h.2.2.2.1, h.2.2.2.2.1, Bd_0 _, h.2.2.2.2.2.2.1, h.2.2.2.2.2.2.2⟩
theorem BT_asks1 {t m : Nat} {f : FT} {g : GT} {x : Int32} (h : BT t f g) (hx : Bd 60 x) (hm : f 12 = nI m) (hm2 : m < 40) (c : Nat → Int32) : BT t (va_up (va_up f 10 x) 12 (f 12 + 1)) (va_up g 15 c) := ⟨h.1, h.2.1, h.2.2.1, h.2.2.2.1, h.2.2.2.2.1, hx, ⟨m + 1, by show f 12 + 1 = nI (m + 1); rw [hm, nI_1], by omega⟩, GI_free h.2.2.2.2.2.2.2 (by decide) (by decide) (by decide) (by decide) (by decide) (by decide) (by decide)⟩
-- first
def fsG (i : Nat) (g : GT) : GT := va_up g 16 (upd (g 16) (nI i).toNatClampNeg (-1))
def iZ (Z : ZT) (x : Int32) : Int32 := if x ≤ 0 then 0 else if Z.2.2.2 1 ((Z.2.1 * 61) + x : Int32).toNatClampNeg = 0 then 0 else 1
theorem FZ_iT {Z : ZT} {f : FT} {g : GT} (h : FZ Z f g) (x : Int32) : iT f g x = iZ Z x := by
  unfold iT iZ
  rw [h.2.1, h.2.2.2 1 (by decide)]
def fsV (Z : ZT) (x : Int32) : Int32 := if iZ Z (Z.2.2.2 9 ((Z.2.1 * 10) + x : Int32).toNatClampNeg) = 0 then 0 else Z.2.2.2 9 ((Z.2.1 * 10) + x : Int32).toNatClampNeg
theorem c_firstW (T : ST) (x : Int32) (Z : ZT) (t : Nat) (f : FT) (g : GT) (hT : TI Z t f g) (Post : Int32 → FT → GT → Prop) (hq0 : (inV x 1 9 = 0 ∨ g 9 (((f 4) * 10) + x : Int32).toNatClampNeg ≤ 0) → ∀ r f', TI Z t f' g → f' 0 = 1 → Post r f' g) (hq1 : ∀ q, x = nI q → 1 ≤ q → q ≤ 9 → ¬ g 9 (((f 4) * 10) + x : Int32).toNatClampNeg ≤ 0 → ∀ f' g', BT t f' g' → FZ (Z.1, Z.2.1, x, Z.2.2.2) f' g' → f' 10 = fsV Z x → f' 11 = 0 → f' 12 = (if fsV Z x = 0 then 0 else 1) → (¬ fsV Z x = 0 → g' 15 0 = fsV Z x) → (∀ q, q < 61 → g' 16 q = -1) → f' 0 = 0 → Post (fsV Z x) f' g') : mI T y_Mo_first (Cond.code y_Mo_first b_Mo_first 3 (some .int)) 2 [.ref (ad T 0), .int x] f g Post := by
  refine e_Mo_first T Post x f g ?_
  rintro C rfl X
  obtain ⟨c, ec, hc⟩ := hT.2.2.2.1
  refine k_Mo_first_0 X Post (P_5 := fun r f' g' => r = inV x 1 9 ∧ f' = f ∧ g' = g) _ _ _ ?_ ?_
  · exact c_in _ _ _ _ _ _ _ ⟨rfl, rfl, rfl⟩
  rintro r f1 g1 ⟨rfl, rfl, rfl⟩
  have s72 : ∀ q, x = nI q → 1 ≤ q → q ≤ 9 → ¬ g1 9 (((f1 4) * 10) + x : Int32).toNatClampNeg ≤ 0 → ∀ j i f g, j + i = 61 → BT t f g → FZ (Z.1, Z.2.1, x, Z.2.2.2) f g → f 11 = 0 → (∀ q, q < i → g 16 q = -1) → f 12 = 0 → f 0 = 0 → zn_first C Post 72 [(0, .ref (ad C.1 0)), (1, .int x), (2, .int (nI i))] [] f g := by
    intro q eq hq1' hq2 hq3 j
    induction j with
    | zero =>
      intro i f g hj hT hF h11 h16 h12 h00
      obtain ⟨c, ec, hc⟩ := hT.2.2.2.1
      have h61 : (61 : Int32) ≤ nI i := (nI_leI (a := 61) (b := i) (by decide) (by omega)).mpr (by omega)
      refine k_Mo_first_72 X Post (P_106 := fun f' g' => BT t f' g' ∧ FZ (Z.1, Z.2.1, x, Z.2.2.2) f' g' ∧ f' 10 = fsV Z x ∧ f' 11 = 0 ∧ f' 12 = (if fsV Z x = 0 then 0 else 1) ∧ (¬ fsV Z x = 0 → g' 15 0 = fsV Z x) ∧ (∀ q, q < 61 → g' 16 q = -1) ∧ f' 0 = 0) _ _ _ _ ?_ ?_ ?_ ?_ ?_
      · intro _
        rw [ec, eq, show (10 : Int32) = nI 10 from rfl, pk_mul, nI_add]
        exact vi_n (by omega) (by decide)
      · intro _
        have hx := hT.2.2.2.2.2.2.2.2.2.2.1 (((f 4) * 10) + x : Int32).toNatClampNeg
        refine c_asks _ _ (zOf f g) t f g hT.ti hx (fun _ => ⟨0, h12, by decide⟩) _ ?_
        have ex : g 9 (((f 4) * 10) + x : Int32).toNatClampNeg = Z.2.2.2 9 ((Z.2.1 * 10) + x : Int32).toNatClampNeg := by
          rw [hF.2.1, hF.2.2.2 9 (by decide)]
        have ei : iT f g (g 9 (((f 4) * 10) + x : Int32).toNatClampNeg) = iZ Z (Z.2.2.2 9 ((Z.2.1 * 10) + x : Int32).toNatClampNeg) := by
          rw [FZ_iT hF, ex]; rfl
        have h61q : ∀ q, q < 61 → g 16 q = -1 := fun q hq => h16 q (by omega)
        split
        · rename_i z9
          have ev : fsV Z x = 0 := if_pos (by rw [← ei]; exact z9)
          exact ⟨BT_asks0 hT, hF, ev.symm, h11, h12.trans (if_pos ev).symm, fun n => absurd ev n, h61q, h00⟩
        · rename_i z9
          have ev : fsV Z x = Z.2.2.2 9 ((Z.2.1 * 10) + x : Int32).toNatClampNeg := if_neg (by rw [← ei]; exact z9)
          have ev0 : ¬ fsV Z x = 0 := by
            intro e0
            rw [ev, ← ex] at e0
            exact z9 (by rw [e0]; exact if_pos (Int32.le_refl 0))
          refine ⟨BT_asks1 (m := 0) hT hx h12 (by decide) _, ⟨hF.1, hF.2.1, hF.2.2.1, fun j hj => (up_other _ _ (by omega)).trans (hF.2.2.2 j hj)⟩, ex.trans ev.symm, h11, ?_, fun _ => ?_, fun q hq => h61q q hq, h00⟩
          · rw [if_neg ev0]
            show f 12 + 1 = 1
            rw [h12]; rfl
          · show va_up g 15 (upd (g 15) (f 12).toNatClampNeg _) 15 0 = _
            rw [up_same, h12, ev, ex]; rfl
      · rintro _ f2 g2 ⟨h2, h2F, h210, h211, h212, h215, h216, h200⟩
        refine k_Mo_first_109 X Post _ _ _ _ ?_
        rw [h210]
        exact hq1 q eq hq1' hq2 hq3 _ _ h2 h2F h210 h211 h212 h215 h216 h200
      all_goals exact fun z => absurd h61 z
    | succ j ih =>
      intro i f g hj hT hF h11 h16 h12 h00
      have h61 : ¬ (61 : Int32) ≤ nI i := fun z => absurd ((nI_leI (a := 61) (b := i) (by decide) (by omega)).mp z) (by omega)
      refine k_Mo_first_72 X Post (P_106 := fun f' g' => BT t f' g' ∧ FZ (Z.1, Z.2.1, x, Z.2.2.2) f' g' ∧ f' 10 = fsV Z x ∧ f' 11 = 0 ∧ f' 12 = (if fsV Z x = 0 then 0 else 1) ∧ (¬ fsV Z x = 0 → g' 15 0 = fsV Z x) ∧ (∀ q, q < 61 → g' 16 q = -1) ∧ f' 0 = 0) _ _ _ _ ?_ ?_ ?_ ?_ ?_
      · intro z; exact absurd z h61
      · intro z; exact absurd z h61
      · intro z; exact absurd z h61
      · intro _; exact vi_n (by omega) (by decide)
      · intro _
        rw [nI_1]
        refine ih (i + 1) _ _ (by omega) ⟨hT.1, hT.2.1, hT.2.2.1, hT.2.2.2.1, hT.2.2.2.2.1, hT.2.2.2.2.2.1, hT.2.2.2.2.2.2.1, GI_free hT.2.2.2.2.2.2.2 (by decide) (by decide) (by decide) (by decide) (by decide) (by decide) (by decide)⟩ ⟨hF.1, hF.2.1, hF.2.2.1, fun j hj => (up_other _ _ (by omega)).trans (hF.2.2.2 j hj)⟩ h11 (fun q hq => ?_) h12 h00
        rw [up_same, nI_clamp (by omega)]
        unfold upd
        split
        · rfl
        · exact h16 q (by omega)
  have s47 : ∀ y, ((y = 0 ∧ (inV x 1 9 = 0 ∨ g1 9 (((f1 4) * 10) + x : Int32).toNatClampNeg ≤ 0)) ∨ (y = 1 ∧ ¬ inV x 1 9 = 0 ∧ ¬ g1 9 (((f1 4) * 10) + x : Int32).toNatClampNeg ≤ 0)) → zn_first C Post 47 [(0, .ref (ad C.1 0)), (1, .int x)] [.int y, .ref (ad C.1 0)] f1 g1 := by
    intro y hy
    refine k_Mo_first_47 X Post (P_47 := fun r f' g' => r = y ∧ TI Z t f' g' ∧ f' 0 = (if y = 0 then 1 else 0) ∧ g' = g1) _ _ _ _ ?_ ?_
    · exact c_says _ y (hy.imp And.left And.left) _ _ _ ⟨rfl, TI_0 hT _, up_same _ _ _, rfl⟩
    rintro r f2 g2 ⟨rfl, hT2, h20, rfl⟩
    refine k_Mo_first_50 X Post _ _ _ _ ?_ ?_
    · intro z
      rcases hy with hy | ⟨hy, hn, hn2⟩
      · exact absurd hy.1 z
      · have hz := inV_nz hn
        obtain ⟨q, hq9, eq⟩ := nI_of2 (x := x) (M := 9) (n := 9) (by decide +kernel) (fun w => absurd (Int32.lt_of_lt_of_le w (show (0 : Int32) ≤ 1 by decide +kernel)) (Int32.not_lt.mpr hz.1)) hz.2
        have hq1' : 1 ≤ q := by
          have := hz.1
          rwa [eq, show (1 : Int32) = nI 1 from rfl, nI_leI (by decide) (by omega)] at this
        refine s72 q eq hq1' hq9 hn2 61 0 _ _ rfl ?_ ⟨hT2.1.2.1, hT2.1.2.2.1, rfl, hT2.1.2.2.2.2⟩ rfl (fun q hq => absurd hq (Nat.not_lt_zero q)) rfl (by show f2 0 = 0; rw [h20, hy]; exact if_neg (by decide +kernel))
        exact ⟨hT2.1.1, hT2.2.1, hT2.2.2.1, hT2.2.2.2.1, ⟨q, eq, hq9⟩, hT2.2.2.2.2.2.1.1, Bd_0 _, hT2.2.2.2.2.2.2.2⟩
    · intro z
      rcases hy with hy | ⟨hy, -⟩
      · exact hq0 hy.2 _ _ hT2 (by rw [h20, hy.1]; exact if_pos rfl)
      · rw [hy] at z; exact absurd z (by decide +kernel)
  have s46 : (inV x 1 9 = 0 ∨ g1 9 (((f1 4) * 10) + x : Int32).toNatClampNeg ≤ 0) → zn_first C Post 46 [(0, .ref (ad C.1 0)), (1, .int x)] [.ref (ad C.1 0)] f1 g1 := fun z => k_Mo_first_46 X Post _ _ _ (s47 0 (Or.inl ⟨rfl, z⟩))
  refine k_Mo_first_8 X Post (P_26 := fun r f' g' => r = inV x 1 9 ∧ f' = f1 ∧ g' = g1) _ _ _ _ ?_ ?_ ?_
  · intro z; exact s46 (Or.inl z)
  · intro _; exact c_in _ _ _ _ _ _ _ ⟨rfl, rfl, rfl⟩
  · rintro hn r f2 g2 ⟨rfl, rfl, rfl⟩
    have hz := inV_nz hn
    obtain ⟨q, hq9, eq⟩ := nI_of2 (x := x) (M := 9) (n := 9) (by decide +kernel) (fun w => absurd (Int32.lt_of_lt_of_le w (show (0 : Int32) ≤ 1 by decide +kernel)) (Int32.not_lt.mpr hz.1)) hz.2
    refine k_Mo_first_29 X Post _ _ _ _ _ (fun z => absurd z hn) (fun _ => ?_)
    refine k_Mo_first_37 X Post _ _ _ _ _ ?_ ?_ ?_
    · rw [ec, eq, show (10 : Int32) = nI 10 from rfl, pk_mul, nI_add]
      exact vi_n (by omega) (by decide)
    · intro z; exact s46 (Or.inr z)
    · intro z; exact s47 1 (Or.inr ⟨rfl, hn, z⟩)
