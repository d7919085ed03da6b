-- the copy of an edition's rows
def cnt {α : Type} (body : Nat → α → α) : Nat → Nat → α → α
  | 0, _, a => a
  | j + 1, i, a => cnt body j (i + 1) (body i a)
def cpA (x1 x2 : Int32) (q : Nat) (g : GT) : GT := va_up (va_up (va_up (va_up (va_up g 1 (upd (g 1) ((x2 * 61) + nI q : Int32).toNatClampNeg (vp_nar .boolean (g 1 ((x1 * 61) + nI q : Int32).toNatClampNeg)))) 2 (upd (g 2) ((x2 * 61) + nI q : Int32).toNatClampNeg (vp_nar .boolean (g 2 ((x1 * 61) + nI q : Int32).toNatClampNeg)))) 3 (upd (g 3) ((x2 * 61) + nI q : Int32).toNatClampNeg (g 3 ((x1 * 61) + nI q : Int32).toNatClampNeg))) 4 (upd (g 4) ((x2 * 61) + nI q : Int32).toNatClampNeg (g 4 ((x1 * 61) + nI q : Int32).toNatClampNeg))) 7 (upd (g 7) ((x2 * 61) + nI q : Int32).toNatClampNeg (g 7 ((x1 * 61) + nI q : Int32).toNatClampNeg))
def cpB (x4 x5 : Int32) (i : Nat) (g : GT) : GT := va_up g 5 (upd (g 5) ((2 * x5) + nI i : Int32).toNatClampNeg (g 5 ((2 * x4) + nI i : Int32).toNatClampNeg))
def cpC (x4 x5 : Int32) (i : Nat) (g : GT) : GT := va_up g 6 (upd (g 6) (((x5 * 2) * 12) + nI i : Int32).toNatClampNeg (g 6 (((x4 * 2) * 12) + nI i : Int32).toNatClampNeg))
def cpD (x4 x5 : Int32) (i : Nat) (g : GT) : GT := va_up g 8 (upd (g 8) (((x5 * 6) * 4) + nI i : Int32).toNatClampNeg (g 8 (((x4 * 6) * 4) + nI i : Int32).toNatClampNeg))
def cpE (x1 x2 : Int32) (m : Nat) (g : GT) : GT := va_up (va_up (va_up g 9 (upd (g 9) ((x2 * 10) + nI m : Int32).toNatClampNeg (g 9 ((x1 * 10) + nI m : Int32).toNatClampNeg))) 10 (upd (g 10) ((x2 * 10) + nI m : Int32).toNatClampNeg (g 10 ((x1 * 10) + nI m : Int32).toNatClampNeg))) 11 (upd (g 11) ((x2 * 10) + nI m : Int32).toNatClampNeg (g 11 ((x1 * 10) + nI m : Int32).toNatClampNeg))
def cpF (x5 x6 : Int32) (i : Nat) (g : GT) : GT := va_up g 12 (upd (g 12) ((x6 * 84) + nI i : Int32).toNatClampNeg (g 12 ((x5 * 84) + nI i : Int32).toNatClampNeg))
def cpQ (x1 x2 : Int32) (q : Nat) (g : GT) : GT := cnt (cpD (x1 * 61 + nI q) (x2 * 61 + nI q)) 24 0 (cnt (cpC (x1 * 61 + nI q) (x2 * 61 + nI q)) 24 0 (cnt (cpB (x1 * 61 + nI q) (x2 * 61 + nI q)) 2 0 (cpA x1 x2 q g)))
def cpK (x1 x2 : Int32) (m : Nat) (g : GT) : GT := cnt (cpF (x1 * 10 + nI m) (x2 * 10 + nI m)) 84 0 (cpE x1 x2 m g)
def cp (x1 x2 : Int32) (g : GT) : GT := cnt (cpK x1 x2) 10 0 (cnt (cpQ x1 x2) 61 0 g)
set_option maxHeartbeats 2000000 in
theorem c_copy (T : ST) (a b : Nat) (ha : a ≤ 9) (hb : b ≤ 9) (f : FT) (g : GT) (Post : FT → GT → Prop) (hq : Post f (cp (nI a) (nI b) g)) : mV T y_Mo_copy (Cond.code y_Mo_copy b_Mo_copy 8 none) 0 [.ref (ad T 0), .int (nI a), .int (nI b)] f g Post := by
  refine e_Mo_copy T Post _ _ _ _ ?_
  rintro C rfl X
  have i61 : ∀ z q, z ≤ 9 → q < 61 → vp_in (nI z * 61 + nI q) 610 := fun z q hz hq => by rw [show (61 : Int32) = nI 61 from rfl, pk_mul, nI_add]; exact vi_n (by omega) (by decide)
  have e61 : ∀ z q, nI z * 61 + nI q = nI (z * 61 + q) := fun z q => by rw [show (61 : Int32) = nI 61 from rfl, pk_mul, nI_add]
  have e10 : ∀ z q, nI z * 10 + nI q = nI (z * 10 + q) := fun z q => by rw [show (10 : Int32) = nI 10 from rfl, pk_mul, nI_add]
  have i10 : ∀ z q, z ≤ 9 → q < 10 → vp_in (nI z * 10 + nI q) 100 := fun z q hz hq => by rw [e10]; exact vi_n (by omega) (by decide)
  have iB : ∀ k i, k < 610 → i < 2 → vp_in (2 * nI k + nI i) 1220 := fun k i hk hi => by rw [show (2 : Int32) = nI 2 from rfl, pk_mul, nI_add]; exact vi_n (by omega) (by decide)
  have iC : ∀ k i, k < 610 → i < 24 → vp_in (nI k * 2 * 12 + nI i) 14640 := fun k i hk hi => by rw [show (2 : Int32) = nI 2 from rfl, show (12 : Int32) = nI 12 from rfl, pk_mul, pk_mul, nI_add]; exact vi_n (by omega) (by decide)
  have iD : ∀ k i, k < 610 → i < 24 → vp_in (nI k * 6 * 4 + nI i) 14640 := fun k i hk hi => by rw [show (6 : Int32) = nI 6 from rfl, show (4 : Int32) = nI 4 from rfl, pk_mul, pk_mul, nI_add]; exact vi_n (by omega) (by decide)
  have iF : ∀ k i, k < 100 → i < 84 → vp_in (nI k * 84 + nI i) 8400 := fun k i hk hi => by rw [show (84 : Int32) = nI 84 from rfl, pk_mul, nI_add]; exact vi_n (by omega) (by decide)
  have lt : ∀ N i : Nat, N < 2 ^ 31 → i < 2 ^ 31 → (nI N ≤ nI i ↔ N ≤ i) := fun N i h1 h2 => nI_leI h1 h2
  -- the kinds
  have kinds : ∀ j m g, j + m = 10 → Post f (cnt (cpK (nI a) (nI b)) j m g) → zn_copy C Post 237 [(0, .ref (ad C.1 0)), (1, .int (nI a)), (2, .int (nI b)), (3, .int 84), (4, .int (nI m))] [] f g := by
    intro j
    induction j with
    | zero =>
      intro m g hj hq
      have h10 : (10 : Int32) ≤ nI m := (lt 10 m (by decide) (by omega)).mpr (by omega)
      refine k_Mo_copy_237 X Post _ _ _ _ _ _ (fun _ => hq) ?_ ?_ ?_ ?_ ?_ ?_ ?_ <;> exact fun z => absurd h10 z
    | succ j ih =>
      intro m g hj hq
      have hm : m < 10 := by omega
      have h10 : ¬ (10 : Int32) ≤ nI m := fun z => absurd ((lt 10 m (by decide) (by omega)).mp z) (by omega)
      have inner : ∀ j2 i g, j2 + i = 84 → Post f (cnt (cpK (nI a) (nI b)) j (m + 1) (cnt (cpF (nI a * 10 + nI m) (nI b * 10 + nI m)) j2 i g)) → zn_copy C Post 307 [(0, .ref (ad C.1 0)), (1, .int (nI a)), (2, .int (nI b)), (3, .int 84), (4, .int (nI m)), (5, .int (nI a * 10 + nI m)), (6, .int (nI b * 10 + nI m)), (7, .int (nI i))] [] f g := by
        intro j2
        induction j2 with
        | zero =>
          intro i g hj2 hq
          have h84 : (84 : Int32) ≤ nI i := (lt 84 i (by decide) (by omega)).mpr (by omega)
          refine k_Mo_copy_307 X Post _ _ _ _ _ _ _ _ _ ?_ ?_ ?_ ?_
          · intro _; rw [nI_1]; exact ih (m + 1) g (by omega) hq
          all_goals exact fun z => absurd h84 z
        | succ j2 ih2 =>
          intro i g hj2 hq
          have h84 : ¬ (84 : Int32) ≤ nI i := fun z => absurd ((lt 84 i (by decide) (by omega)).mp z) (by omega)
          refine k_Mo_copy_307 X Post _ _ _ _ _ _ _ _ _ ?_ ?_ ?_ ?_
          · intro z; exact absurd z h84
          · intro _; rw [e10]; exact iF _ _ (by omega) (by omega)
          · intro _; rw [e10]; exact iF _ _ (by omega) (by omega)
          · intro _
            rw [nI_1]
            exact ih2 (i + 1) _ (by omega) hq
      refine k_Mo_copy_237 X Post _ _ _ _ _ _ ?_ ?_ ?_ ?_ ?_ ?_ ?_ ?_
      · intro z; exact absurd z h10
      · intro _; exact i10 a m ha hm
      · intro _; exact i10 b m hb hm
      · intro _; exact i10 a m ha hm
      · intro _; exact i10 b m hb hm
      · intro _; exact i10 a m ha hm
      · intro _; exact i10 b m hb hm
      · intro _; exact inner 84 0 _ rfl hq
  have quest : ∀ j q g, j + q = 61 → Post f (cnt (cpK (nI a) (nI b)) 10 0 (cnt (cpQ (nI a) (nI b)) j q g)) → zn_copy C Post 2 [(0, .ref (ad C.1 0)), (1, .int (nI a)), (2, .int (nI b)), (3, .int (nI q))] [] f g := by
    intro j
    induction j with
    | zero =>
      intro q g hj hq
      have h61 : (61 : Int32) ≤ nI q := (lt 61 q (by decide) (by omega)).mpr (by omega)
      refine k_Mo_copy_2 X Post _ _ _ _ _ (fun _ => kinds 10 0 g rfl hq) ?_ ?_ ?_ ?_ ?_ ?_ ?_ ?_ ?_ ?_ ?_ <;> exact fun z => absurd h61 z
    | succ j ih =>
      intro q g hj hq
      have hm : q < 61 := by omega
      have h61 : ¬ (61 : Int32) ≤ nI q := fun z => absurd ((lt 61 q (by decide) (by omega)).mp z) (by omega)
      have s182 : ∀ j2 i g, j2 + i = 24 → Post f (cnt (cpK (nI a) (nI b)) 10 0 (cnt (cpQ (nI a) (nI b)) j (q + 1) (cnt (cpD (nI a * 61 + nI q) (nI b * 61 + nI q)) j2 i g))) → zn_copy C Post 182 [(0, .ref (ad C.1 0)), (1, .int (nI a)), (2, .int (nI b)), (3, .int (nI q)), (4, .int (nI a * 61 + nI q)), (5, .int (nI b * 61 + nI q)), (6, .int (nI i))] [] f g := by
        intro j2
        induction j2 with
        | zero =>
          intro i g hj2 hq
          have h84 : (24 : Int32) ≤ nI i := (lt 24 i (by decide) (by omega)).mpr (by omega)
          refine k_Mo_copy_182 X Post _ _ _ _ _ _ _ _ ?_ ?_ ?_ ?_
          · intro _; rw [nI_1]; exact ih (q + 1) g (by omega) hq
          all_goals exact fun z => absurd h84 z
        | succ j2 ih2 =>
          intro i g hj2 hq
          have h84 : ¬ (24 : Int32) ≤ nI i := fun z => absurd ((lt 24 i (by decide) (by omega)).mp z) (by omega)
          refine k_Mo_copy_182 X Post _ _ _ _ _ _ _ _ ?_ ?_ ?_ ?_
          · intro z; exact absurd z h84
          · intro _; rw [e61]; exact iD _ _ (by omega) (by omega)
          · intro _; rw [e61]; exact iD _ _ (by omega) (by omega)
          · intro _
            rw [nI_1]
            exact ih2 (i + 1) _ (by omega) hq
      have s136 : ∀ j2 i g, j2 + i = 24 → Post f (cnt (cpK (nI a) (nI b)) 10 0 (cnt (cpQ (nI a) (nI b)) j (q + 1) (cnt (cpD (nI a * 61 + nI q) (nI b * 61 + nI q)) 24 0 (cnt (cpC (nI a * 61 + nI q) (nI b * 61 + nI q)) j2 i g)))) → zn_copy C Post 136 [(0, .ref (ad C.1 0)), (1, .int (nI a)), (2, .int (nI b)), (3, .int (nI q)), (4, .int (nI a * 61 + nI q)), (5, .int (nI b * 61 + nI q)), (6, .int (nI i))] [] f g := by
        intro j2
        induction j2 with
        | zero =>
          intro i g hj2 hq
          have h84 : (24 : Int32) ≤ nI i := (lt 24 i (by decide) (by omega)).mpr (by omega)
          refine k_Mo_copy_136 X Post _ _ _ _ _ _ _ _ ?_ ?_ ?_ ?_
          · intro _; exact s182 24 0 g rfl hq
          all_goals exact fun z => absurd h84 z
        | succ j2 ih2 =>
          intro i g hj2 hq
          have h84 : ¬ (24 : Int32) ≤ nI i := fun z => absurd ((lt 24 i (by decide) (by omega)).mp z) (by omega)
          refine k_Mo_copy_136 X Post _ _ _ _ _ _ _ _ ?_ ?_ ?_ ?_
          · intro z; exact absurd z h84
          · intro _; rw [e61]; exact iC _ _ (by omega) (by omega)
          · intro _; rw [e61]; exact iC _ _ (by omega) (by omega)
          · intro _
            rw [nI_1]
            exact ih2 (i + 1) _ (by omega) hq
      have s97 : ∀ j2 i g, j2 + i = 2 → Post f (cnt (cpK (nI a) (nI b)) 10 0 (cnt (cpQ (nI a) (nI b)) j (q + 1) (cnt (cpD (nI a * 61 + nI q) (nI b * 61 + nI q)) 24 0 (cnt (cpC (nI a * 61 + nI q) (nI b * 61 + nI q)) 24 0 (cnt (cpB (nI a * 61 + nI q) (nI b * 61 + nI q)) j2 i g))))) → zn_copy C Post 97 [(0, .ref (ad C.1 0)), (1, .int (nI a)), (2, .int (nI b)), (3, .int (nI q)), (4, .int (nI a * 61 + nI q)), (5, .int (nI b * 61 + nI q)), (6, .int (nI i))] [] f g := by
        intro j2
        induction j2 with
        | zero =>
          intro i g hj2 hq
          have h84 : (2 : Int32) ≤ nI i := (lt 2 i (by decide) (by omega)).mpr (by omega)
          refine k_Mo_copy_97 X Post _ _ _ _ _ _ _ _ ?_ ?_ ?_ ?_
          · intro _; exact s136 24 0 g rfl hq
          all_goals exact fun z => absurd h84 z
        | succ j2 ih2 =>
          intro i g hj2 hq
          have h84 : ¬ (2 : Int32) ≤ nI i := fun z => absurd ((lt 2 i (by decide) (by omega)).mp z) (by omega)
          refine k_Mo_copy_97 X Post _ _ _ _ _ _ _ _ ?_ ?_ ?_ ?_
          · intro z; exact absurd z h84
          · intro _; rw [e61]; exact iB _ _ (by omega) (by omega)
          · intro _; rw [e61]; exact iB _ _ (by omega) (by omega)
          · intro _
            rw [nI_1]
            exact ih2 (i + 1) _ (by omega) hq
      refine k_Mo_copy_2 X Post _ _ _ _ _ ?_ ?_ ?_ ?_ ?_ ?_ ?_ ?_ ?_ ?_ ?_ ?_
      · intro z; exact absurd z h61
      · intro _; exact i61 a q ha hm
      · intro _; exact i61 b q hb hm
      · intro _; exact i61 a q ha hm
      · intro _; exact i61 b q hb hm
      · intro _; exact i61 a q ha hm
      · intro _; exact i61 b q hb hm
      · intro _; exact i61 a q ha hm
      · intro _; exact i61 b q hb hm
      · intro _; exact i61 a q ha hm
      · intro _; exact i61 b q hb hm
      · intro _; exact s97 2 0 _ rfl hq
  refine k_Mo_copy_0 X Post _ _ _ _ ?_
  exact quest 61 0 g rfl hq
