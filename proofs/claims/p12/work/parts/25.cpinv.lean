theorem GI_cp {a b : Nat} {g : GT} (ha : a ≤ 9) (hb : b ≤ 9) (h : GI g) : GI (cp (nI a) (nI b) g) := by
  have hA : ∀ q g, GI g → GI (cpA (nI a) (nI b) q g) := by
    intro q g h
    unfold cpA
    refine GI_7 (GI_free (GI_free (GI_free (GI_free h (by decide) (by decide) (by decide) (by decide) (by decide) (by decide) (by decide)) (by decide) (by decide) (by decide) (by decide) (by decide) (by decide) (by decide)) (by decide) (by decide) (by decide) (by decide) (by decide) (by decide) (by decide)) (by decide) (by decide) (by decide) (by decide) (by decide) (by decide) (by decide)) ?_
    exact upd_all h.2.1 (h.2.1 _)
  have hB : ∀ x y i g, GI g → GI (cpB x y i g) := fun x y i g h => GI_5 h (upd_all h.1 (h.1 _))
  have hC : ∀ x y i g, GI g → GI (cpC x y i g) := fun x y i g h => GI_free h (by decide) (by decide) (by decide) (by decide) (by decide) (by decide) (by decide)
  have hD : ∀ k k' i g, k < 610 → k' < 610 → i < 24 → GI g → GI (cpD (nI k) (nI k') i g) := by
    intro k k' i g hk hk' hi h
    have e : ∀ z, z < 610 → (nI z * 6 * 4 + nI i).toNatClampNeg = z * 6 * 4 + i := fun z hz => by rw [show (6 : Int32) = nI 6 from rfl, show (4 : Int32) = nI 4 from rfl, pk_mul, pk_mul, nI_add, nI_clamp (by omega)]
    unfold cpD
    rw [e k hk, e k' hk']
    refine GI_8 h (upd_at (P := fun j v => j % 4 = 2 → Bd 60 v) h.2.2.1 (fun z => h.2.2.1 _ (by omega)))
  have hE : ∀ m g, GI g → GI (cpE (nI a) (nI b) m g) := by
    intro m g h
    unfold cpE
    refine GI_11 (GI_free (GI_9 h (upd_all h.2.2.2.1 (h.2.2.2.1 _))) (by decide) (by decide) (by decide) (by decide) (by decide) (by decide) (by decide)) ?_
    exact upd_all h.2.2.2.2.1 (h.2.2.2.2.1 _)
  have hF : ∀ k k' i g, k < 100 → k' < 100 → i < 84 → GI g → GI (cpF (nI k) (nI k') i g) := by
    intro k k' i g hk hk' hi h
    have e : ∀ z, z < 100 → (nI z * 84 + nI i).toNatClampNeg = z * 84 + i := fun z hz => by rw [show (84 : Int32) = nI 84 from rfl, pk_mul, nI_add, nI_clamp (by omega)]
    unfold cpF
    rw [e k hk, e k' hk']
    have h2 := h.2.2.2.2.2.1 (k * 84 + i)
    refine GI_12 h (upd_at (P := fun j v => (j % 14 = 1 → Bd 4 v) ∧ ((j % 14 = 2 ∨ j % 14 = 5 ∨ j % 14 = 8 ∨ j % 14 = 11) → Bd 60 v)) h.2.2.2.2.2.1 ⟨fun z => h2.1 (by omega), fun z => h2.2 (by omega)⟩)
  have e61 : ∀ z q, nI z * 61 + nI q = nI (z * 61 + q) := fun z q => by rw [show (61 : Int32) = nI 61 from rfl, pk_mul, nI_add]
  have e10 : ∀ z q, nI z * 10 + nI q = nI (z * 10 + q) := fun z q => by rw [show (10 : Int32) = nI 10 from rfl, pk_mul, nI_add]
  unfold cp
  refine cnt_invB 10 (fun m g hm h => ?_) 10 0 _ rfl (cnt_invB 61 (fun q g hq h => ?_) 61 0 _ rfl h)
  · unfold cpK
    rw [e10, e10]
    exact cnt_invB 84 (fun i g hi h => hF _ _ i g (by omega) (by omega) hi h) 84 0 _ rfl (hE m g h)
  · unfold cpQ
    rw [e61, e61]
    refine cnt_invB 24 (fun i g hi h => hD _ _ i g (by omega) (by omega) hi h) 24 0 _ rfl ?_
    exact cnt_inv (fun i g h => hC _ _ i g h) 24 0 _ (cnt_inv (fun i g h => hB _ _ i g h) 2 0 _ (hA q g h))
theorem GI_rdG {c e : Nat} {g : GT} (hc : c ≤ 8) (he : e ≤ 8) (h : GI g) : GI (rdG c e g) := by
  unfold rdG
  refine cnt_inv (fun i g h => ?_) 10 0 _ (cnt_inv (fun i g h => ?_) 61 0 _ (GI_cp (by omega) (by omega) h))
  · exact GI_free h (by decide) (by decide) (by decide) (by decide) (by decide) (by decide) (by decide)
  · exact GI_free h (by decide) (by decide) (by decide) (by decide) (by decide) (by decide) (by decide)
theorem GI_rdP {t c e : Nat} {d : Int32} {g : GT} (hc : c ≤ 8) (he : e ≤ 8) (h : GI g) : GI (psG (rdP t c e d g)) := GI_RL (by omega) 402 _ (GI_rdG hc he h)
-- what holds of the reference between two calls: t bytes on its tape
abbrev ZT : Type := Int32 × Int32 × Int32 × GT
def FZ (Z : ZT) (f : FT) (g : GT) : Prop := f 3 = Z.1 ∧ f 4 = Z.2.1 ∧ f 9 = Z.2.2.1 ∧ ∀ j, j < 13 → g j = Z.2.2.2 j
def KZ (Z : ZT) (f : FT) (g : GT) : Prop := f 10 = Z.2.2.2 20 0 ∧ f 11 = Z.2.2.2 20 1 ∧ f 12 = Z.2.2.2 20 2 ∧ g 15 = Z.2.2.2 15 ∧ g 16 = Z.2.2.2 16
def TI (Z : ZT) (t : Nat) (f : FT) (g : GT) : Prop := (f 1 = nI t ∧ FZ Z f g) ∧ t ≤ 400 ∧ Bd 8 (f 3) ∧ Bd 8 (f 4) ∧ Bd 9 (f 9) ∧ (Bd 60 (f 10) ∧ KZ Z f g) ∧ Bd 40 (f 12) ∧ GI g
theorem TI_f {Z : ZT} {t : Nat} {f f' : FT} {g : GT} (h : TI Z t f g) (h1 : f' 1 = f 1) (h3 : f' 3 = f 3) (h4 : f' 4 = f 4) (h9 : f' 9 = f 9) (h10 : f' 10 = f 10) (h12 : f' 12 = f 12) (h11 : f' 11 = f 11 := by rfl) : TI Z t f' g := by
  unfold TI FZ KZ
  rw [h1, h3, h4, h9, h10, h11, h12]
  exact h
theorem TI_0 {Z : ZT} {t : Nat} {f : FT} {g : GT} (h : TI Z t f g) (v : Int32) : TI Z t (va_up f 0 v) g := TI_f h rfl rfl rfl rfl rfl rfl
theorem TI_g {Z : ZT} {t : Nat} {f : FT} {g g' : GT} (h : TI Z t f g) (hg : GI g') (hz : ∀ j, (j < 13 ∨ j = 15 ∨ j = 16) → g' j = g j := by intro j hj; exact up_other _ _ (by omega)) : TI Z t f g' := ⟨⟨h.1.1, h.1.2.1, h.1.2.2.1, h.1.2.2.2.1, fun j hj => (hz j (Or.inl hj)).trans (h.1.2.2.2.2 j hj)⟩, h.2.1, h.2.2.1, h.2.2.2.1, h.2.2.2.2.1, ⟨h.2.2.2.2.2.1.1, h.2.2.2.2.2.1.2.1, h.2.2.2.2.2.1.2.2.1, h.2.2.2.2.2.1.2.2.2.1, (hz 15 (by decide)).trans h.2.2.2.2.2.1.2.2.2.2.1, (hz 16 (by decide)).trans h.2.2.2.2.2.1.2.2.2.2.2⟩, h.2.2.2.2.2.2.1, hg⟩
-- the state's own Z
def zOf (f : FT) (g : GT) : ZT := (f 3, f 4, f 9, fun j => if j = 20 then (fun i => f (10 + i)) else g j)
def BT (t : Nat) (f : FT) (g : GT) : Prop := f 1 = nI t ∧ t ≤ 400 ∧ Bd 8 (f 3) ∧ Bd 8 (f 4) ∧ Bd 9 (f 9) ∧ Bd 60 (f 10) ∧ Bd 40 (f 12) ∧ GI g
theorem TI.bt {Z : ZT} {t : Nat} {f : FT} {g : GT} (h : TI Z t f g) : BT t f g := ⟨h.1.1, h.2.1, h.2.2.1, h.2.2.2.1, h.2.2.2.2.1, h.2.2.2.2.2.1.1, h.2.2.2.2.2.2.1, h.2.2.2.2.2.2.2⟩
theorem BT.ti {t : Nat} {f : FT} {g : GT} (h : BT t f g) : TI (zOf f g) t f g := ⟨⟨h.1, rfl, rfl, rfl, fun j hj => by unfold zOf; exact (if_neg (by omega)).symm⟩, h.2.1, h.2.2.1, h.2.2.2.1, h.2.2.2.2.1, ⟨h.2.2.2.2.2.1, rfl, rfl, rfl, rfl, rfl⟩, h.2.2.2.2.2.2.1, h.2.2.2.2.2.2.2⟩
theorem c_says (T : ST) (x : Int32) (hx : x = 0 ∨ x = 1) (f : FT) (g : GT) (Post : Int32 → FT → GT → Prop) (hq : Post x (va_up f 0 (if x = 0 then 1 else 0)) g) : mI T y_Mo_says (Cond.code y_Mo_says b_Mo_says 2 (some .boolean)) 0 [.ref (ad T 0), .int x] f g Post := by
  refine e_Mo_says T Post x f g ?_
  rintro C rfl X
  refine k_Mo_says_0 X Post _ _ _ (fun h => k_Mo_says_10 X Post _ _ _ _ ?_ (nar01 hx)) (fun h => k_Mo_says_10 X Post _ _ _ _ ?_ (nar01 hx))
  · rw [if_pos h] at hq; exact hq
  · rw [if_neg h] at hq; exact hq
theorem c_place (T : ST) (f : FT) (g : GT) (Post : Int32 → FT → GT → Prop) (hq : Post (f 2) (va_up f 0 0) g) : mI T y_Mo_place (Cond.code y_Mo_place b_Mo_place 1 (some .int)) 0 [.ref (ad T 0)] f g Post := by
  refine e_Mo_place T Post f g ?_
  rintro C rfl X
  exact k_Mo_place_0 X Post _ _ hq
theorem c_kind (T : ST) (f : FT) (g : GT) (Post : Int32 → FT → GT → Prop) (hq : Post (f 9) (va_up f 0 0) g) : mI T y_Mo_kind (Cond.code y_Mo_kind b_Mo_kind 1 (some .int)) 0 [.ref (ad T 0)] f g Post := by
  refine e_Mo_kind T Post f g ?_
  rintro C rfl X
  exact k_Mo_kind_0 X Post _ _ hq
theorem c_thrown (T : ST) (f : FT) (g : GT) (Post : Int32 → FT → GT → Prop) (hq : Post (f 0) f g) : mI T y_Mo_thrown (Cond.code y_Mo_thrown b_Mo_thrown 1 (some .int)) 0 [.ref (ad T 0)] f g Post := by
  refine e_Mo_thrown T Post f g ?_
  rintro C rfl X
  exact k_Mo_thrown_0 X Post _ _ hq
theorem c_points (T : ST) (f : FT) (g : GT) (Post : Int32 → FT → GT → Prop) (hq : Post (if f 9 = 0 then 0 else f 11) (va_up f 0 (if f 9 = 0 then 1 else 0)) g) : mI T y_Mo_points (Cond.code y_Mo_points b_Mo_points 1 (some .int)) 0 [.ref (ad T 0)] f g Post := by
  refine e_Mo_points T Post f g ?_
  rintro C rfl X
  refine k_Mo_points_0 X Post _ _ (fun h => ?_) (fun h => ?_)
  · rw [if_neg h, if_neg h] at hq
    exact k_Mo_points_13 X Post _ _ _ (fun _ => k_Mo_points_31 X Post _ _ _ hq) (fun z => absurd (by decide +kernel) z)
  · rw [if_pos h, if_pos h] at hq
    exact k_Mo_points_13 X Post _ _ _ (fun z => absurd z (by decide +kernel)) (fun _ => k_Mo_points_31 X Post _ _ _ hq)
-- asked(i)
def akV (f : FT) (g : GT) (i : Int32) : Int32 := if f 9 ≤ 0 then 0 else if f 12 ≤ i then 0 else g 15 i.toNatClampNeg
theorem c_asked (T : ST) (i : Int32) (Z : ZT) (t : Nat) (f : FT) (g : GT) (hT : TI Z t f g) (Post : Int32 → FT → GT → Prop) (hq : if i < 0 then Post 0 (va_up f 0 1) g else Post (akV f g i) (va_up f 0 0) g) : mI T y_Mo_asked (Cond.code y_Mo_asked b_Mo_asked 2 (some .int)) 1 [.ref (ad T 0), .int i] f g Post := by
  refine e_Mo_asked T Post i f g ?_
  rintro C rfl X
  obtain ⟨m, em, hm⟩ := hT.2.2.2.2.2.2.1
  refine k_Mo_asked_0 X Post _ _ _ (fun h => ?_) (fun h => ?_)
  · rw [if_pos h] at hq
    refine k_Mo_asked_10 X Post (P_10 := fun r f' g' => r = 0 ∧ f' = va_up f 0 1 ∧ g' = g) _ _ _ _ ?_ ?_
    · exact c_says _ 0 (Or.inl rfl) f g _ ⟨rfl, rfl, rfl⟩
    rintro r f1 g1 ⟨rfl, rfl, rfl⟩
    refine k_Mo_asked_13 X Post _ _ _ _ ?_ ?_ ?_ ?_ (fun _ => hq) <;> exact fun z => absurd rfl z
  · rw [if_neg h] at hq
    refine k_Mo_asked_10 X Post (P_10 := fun r f' g' => r = 1 ∧ f' = va_up f 0 0 ∧ g' = g) _ _ _ _ ?_ ?_
    · exact c_says _ 1 (Or.inr rfl) f g _ ⟨rfl, rfl, rfl⟩
    rintro r f1 g1 ⟨rfl, rfl, rfl⟩
    unfold akV at hq
    refine k_Mo_asked_13 X Post _ _ _ _ ?_ ?_ ?_ ?_ ?_
    · intro _ z
      rw [if_pos (show f 9 ≤ 0 from z)] at hq
      exact k_Mo_asked_42 X Post _ _ _ (k_Mo_asked_43 X Post _ _ _ _ hq)
    · intro _ z z2
      rw [if_neg (show ¬ f 9 ≤ 0 from z), if_pos (show f 12 ≤ i from z2)] at hq
      exact k_Mo_asked_42 X Post _ _ _ (k_Mo_asked_43 X Post _ _ _ _ hq)
    · intro _ _ z
      obtain ⟨j, hj, rfl⟩ := nI_of h
      have z : ¬ f 12 ≤ nI j := z
      rw [em, nI_leI (by omega) hj] at z
      exact vi_n (by omega) (by decide)
    · intro _ z z2
      rw [if_neg (show ¬ f 9 ≤ 0 from z), if_neg (show ¬ f 12 ≤ i from z2)] at hq
      exact k_Mo_asked_43 X Post _ _ _ _ hq
    · intro z; exact absurd z (by decide +kernel)
theorem c_edition (T : ST) (i : Int32) (Z : ZT) (t : Nat) (f : FT) (g : GT) (hT : TI Z t f g) (Post : Int32 → FT → GT → Prop) (hq : if inV i 0 (f 3) = 0 then Post 0 (va_up f 0 1) g else Post (qL (g 1) i 60 1 0) (va_up (va_up (va_up f 0 0) 4 i) 9 0) g) : mI T y_Mo_edition (Cond.code y_Mo_edition b_Mo_edition 2 (some .int)) 1 [.ref (ad T 0), .int i] f g Post := by
  refine e_Mo_edition T Post i f g ?_
  rintro C rfl X
  obtain ⟨m, em, hm⟩ := hT.2.2.1
  refine k_Mo_edition_0 X Post (P_7 := fun r f' g' => r = inV i 0 (f 3) ∧ f' = f ∧ g' = g) _ _ _ ?_ ?_
  · exact c_in _ _ _ _ _ _ _ ⟨rfl, rfl, rfl⟩
  rintro r f1 g1 ⟨rfl, rfl, rfl⟩
  refine k_Mo_edition_10 X Post (P_10 := fun r f' g' => r = inV i 0 (f1 3) ∧ f' = va_up f1 0 (if inV i 0 (f1 3) = 0 then 1 else 0) ∧ g' = g1) _ _ _ _ ?_ ?_
  · exact c_says _ _ (inV_01 _ _ _) _ _ _ ⟨rfl, rfl, rfl⟩
  rintro r f2 g2 ⟨rfl, rfl, rfl⟩
  refine k_Mo_edition_13 X Post (P_29 := fun r f' g' => r = qL (g2 1) i 60 1 0 ∧ f' = va_up (va_up (va_up f1 0 0) 4 i) 9 0 ∧ g' = g2) _ _ _ _ ?_ ?_ ?_
  · intro z
    rw [if_neg z]
    have hz := inV_nz z
    obtain ⟨j, hj, rfl⟩ := nI_of2 (x := i) (M := f1 3) (n := m) (by rw [em, nI_toInt (by omega)]) (Int32.not_lt.mpr hz.1) hz.2
    exact c_questions _ _ _ j rfl (by omega) _ ⟨rfl, rfl, rfl⟩
  · rintro z r f3 g3 ⟨rfl, rfl, rfl⟩
    rw [if_neg z] at hq
    exact k_Mo_edition_32 X Post _ _ _ _ hq
  · intro z
    rw [if_pos z] at hq ⊢
    exact hq
