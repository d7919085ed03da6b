-- a number, exactly
theorem c_hereP (T : ST) (f0 : FT) (n : Nat) (w : Option Nat) (d : Int32) (g : GT) (t : Nat) (h1 : f0 1 = nI t) (ht : t ≤ 400) (hn : n ≤ 1000) (Post : Int32 → FT → GT → Prop) (hq : Post (tp (g 0) t n) (ps f0 n w d) g) : mI T y_Mo_here (Cond.code y_Mo_here b_Mo_here 1 (some .int)) 0 [.ref (ad T 0)] (ps f0 n w d) g Post := c_here T (ps f0 n w d) g t n h1 rfl ht hn Post hq
theorem c_isDigitP (T : ST) (f0 : FT) (n : Nat) (w : Option Nat) (d : Int32) (g : GT) (t : Nat) (h1 : f0 1 = nI t) (ht : t ≤ 400) (hn : n ≤ 1000) (Post : Int32 → FT → GT → Prop) (hq : Post (dg (tp (g 0) t n)) (ps f0 n w d) g) : mI T y_Mo_isDigit (Cond.code y_Mo_isDigit b_Mo_isDigit 1 (some .boolean)) 1 [.ref (ad T 0)] (ps f0 n w d) g Post := c_isDigit T (ps f0 n w d) g t n h1 rfl ht hn Post hq
def dv (c : Int32) : Nat := c.toNatClampNeg - 48
theorem dg_n {c : Int32} (h : ¬ dg c = 0) : ∃ m : Nat, c = nI m ∧ 48 ≤ m ∧ m ≤ 57 := by
  have h1 := inV_nz h
  obtain ⟨m, hm, e⟩ := nI_of2 (x := c) (M := 57) (n := 57) (by decide +kernel) (by
    intro q
    exact absurd (Int32.lt_of_lt_of_le q (show (0 : Int32) ≤ 48 by decide +kernel)) (fun z => Int32.not_lt.mpr h1.1 z)) h1.2
  refine ⟨m, e, ?_, hm⟩
  rw [e, show (48 : Int32) = nI 48 from rfl, nI_leI (by omega) (by omega)] at h1
  exact h1.1
theorem dg_lt {g0 : Nat → Int32} {t n : Nat} (h : ¬ dg (tp g0 t n) = 0) : n < t := by
  refine tp_lt (g0 := g0) fun q => h ?_
  rw [q]; decide +kernel
def nmL (g0 : Nat → Int32) (t : Nat) : Nat → Nat → Nat → Nat → Nat × Nat × Nat
  | 0, v, n, k => (v, n, k)
  | j + 1, v, n, k => if (¬ dg (tp g0 t n) = 0) ∧ (k = 0 ∨ 0 < v) then nmL g0 t j (10 * v + dv (tp g0 t n)) (n + 1) (k + 1) else (v, n, k)
theorem nmL_ge (g0 : Nat → Int32) (t : Nat) : ∀ j v n k, n ≤ (nmL g0 t j v n k).2.1 := by
  intro j
  induction j with
  | zero => intro v n k; exact Nat.le_refl n
  | succ j ih =>
    intro v n k
    unfold nmL
    split
    · exact Nat.le_trans (Nat.le_succ n) (ih _ _ _)
    · exact Nat.le_refl n
theorem nmL_le (g0 : Nat → Int32) (t : Nat) : ∀ j v n k, n ≤ t → (nmL g0 t j v n k).2.1 ≤ t := by
  intro j
  induction j with
  | zero => intro v n k h; exact h
  | succ j ih =>
    intro v n k h
    unfold nmL
    split
    · rename_i q; exact ih _ _ _ (dg_lt q.1)
    · exact h
theorem nmL_v (g0 : Nat → Int32) (t : Nat) : ∀ j v n k, j + k = 4 → v < 10 ^ k → (nmL g0 t j v n k).1 < 10000 := by
  intro j
  induction j with
  | zero => intro v n k h hv; rw [show k = 4 by omega] at hv; exact hv
  | succ j ih =>
    intro v n k h hv
    unfold nmL
    split
    · rename_i q
      refine ih _ _ _ (by omega) ?_
      obtain ⟨m, e, h1, h2⟩ := dg_n q.1
      unfold dv
      rw [e, nI_clamp (by omega), Nat.pow_succ]
      omega
    · have : 10 ^ k ≤ 10 ^ 4 := Nat.pow_le_pow_right (by decide) (by omega)
      exact Nat.lt_of_lt_of_le hv this
theorem nmL_k (g0 : Nat → Int32) (t : Nat) : ∀ j v n k, j + k = 4 → (nmL g0 t j v n k).2.2 ≤ 4 := by
  intro j
  induction j with
  | zero => intro v n k h; show k ≤ 4; omega
  | succ j ih =>
    intro v n k h
    unfold nmL
    split
    · exact ih _ _ _ (by omega)
    · show k ≤ 4; omega
theorem nmL_one (g0 : Nat → Int32) (t n : Nat) (h : ¬ dg (tp g0 t n) = 0) : n + 1 ≤ (nmL g0 t 4 0 n 0).2.1 := by
  unfold nmL
  rw [if_pos ⟨h, Or.inl rfl⟩]
  exact nmL_ge g0 t _ _ _ _
theorem nm_step {c : Int32} (h : ¬ dg c = 0) (v : Nat) : 10 * nI v + c - 48 = nI (10 * v + dv c) := by
  obtain ⟨m, e, h1, h2⟩ := dg_n h
  obtain ⟨q, rfl⟩ : ∃ q, m = q + 48 := ⟨m - 48, by omega⟩
  unfold dv
  rw [e, nI_clamp (by omega), show (10 : Int32) = nI 10 from rfl, pk_mul, nI_add, show q + 48 - 48 = q by omega, show 10 * v + (q + 48) = 10 * v + q + 48 by omega, ← nI_add (10 * v + q) 48, show (48 : Int32) = nI 48 from rfl]
  exact Int32.add_sub_cancel _ _
def nW1 (g0 : Nat → Int32) (t n : Nat) : Option Nat := if dg (tp g0 t (sN g0 t n)) = 0 then some (sN g0 t n) else none
def nR (g0 : Nat → Int32) (t n : Nat) : Nat × Nat × Nat := nmL g0 t 4 0 (sN g0 t n) 0
def nW2 (g0 : Nat → Int32) (t n : Nat) : Option Nat := if (nR g0 t n).2.2 = 4 ∧ ¬ dg (tp g0 t (nR g0 t n).2.1) = 0 then fl (nW1 g0 t n) (nR g0 t n).2.1 else nW1 g0 t n
def nW3 (g0 : Nat → Int32) (t : Nat) (a b : Int32) (n : Nat) : Option Nat := if inV (nI (nR g0 t n).1) a b = 0 then fl (nW2 g0 t n) ((nR g0 t n).2.1 - 1) else nW2 g0 t n
def nV (g0 : Nat → Int32) (t : Nat) (a b : Int32) (n : Nat) : Int32 := if nW3 g0 t a b n = none then nI (nR g0 t n).1 else a
theorem nR_ge (g0 : Nat → Int32) (t n : Nat) : n ≤ (nR g0 t n).2.1 := Nat.le_trans (sN_ge g0 t n) (nmL_ge g0 t 4 0 _ 0)
theorem nR_le (g0 : Nat → Int32) {t n : Nat} (h : n ≤ t) : (nR g0 t n).2.1 ≤ t := nmL_le g0 t 4 0 _ 0 (sN_le g0 h)
theorem nR_big (g0 : Nat → Int32) {t n : Nat} (h : t ≤ n) : (nR g0 t n).2.1 = n := by
  unfold nR
  rw [sN_big g0 h]
  unfold nmL
  exact congrArg (fun z : Nat × Nat × Nat => z.2.1) (if_neg (fun q => absurd (dg_lt q.1) (by omega)))
theorem nR_401 (g0 : Nat → Int32) {t n : Nat} (ht : t ≤ 400) (h : n ≤ 401) : (nR g0 t n).2.1 ≤ 401 := by
  by_cases q : n ≤ t
  · have := nR_le g0 q; omega
  · rw [nR_big g0 (by omega)]; exact h
theorem sN_401 (g0 : Nat → Int32) {t n : Nat} (ht : t ≤ 400) (h : n ≤ 401) : sN g0 t n ≤ 401 := by
  by_cases q : n ≤ t
  · have := sN_le g0 q; omega
  · rw [sN_big g0 (by omega)]; exact h
theorem nW1_ok (g0 : Nat → Int32) {t n : Nat} (ht : t ≤ 400) (h : n ≤ 401) : wok (nW1 g0 t n) := by
  unfold nW1
  split
  · intro p e; cases e; have := sN_401 g0 ht h; omega
  · intro p e; cases e
theorem nW2_ok (g0 : Nat → Int32) {t n : Nat} (ht : t ≤ 400) (h : n ≤ 401) : wok (nW2 g0 t n) := by
  unfold nW2
  split
  · exact fl_ok (nW1_ok g0 ht h) (by have := nR_401 g0 ht h; omega)
  · exact nW1_ok g0 ht h
theorem nW3_ok (g0 : Nat → Int32) {t n : Nat} {a b : Int32} (ht : t ≤ 400) (h : n ≤ 401) : wok (nW3 g0 t a b n) := by
  unfold nW3
  split
  · exact fl_ok (nW2_ok g0 ht h) (by have := nR_401 g0 ht h; omega)
  · exact nW2_ok g0 ht h
theorem nW1_none {g0 : Nat → Int32} {t n : Nat} (h : nW1 g0 t n = none) : ¬ dg (tp g0 t (sN g0 t n)) = 0 := by
  unfold nW1 at h
  split at h
  · cases h
  · assumption
theorem nW2_none {g0 : Nat → Int32} {t n : Nat} (h : nW2 g0 t n = none) : nW1 g0 t n = none := by
  unfold nW2 at h
  split at h
  · exact absurd h fl_ne
  · exact h
theorem nW3_none {g0 : Nat → Int32} {t n : Nat} {a b : Int32} (h : nW3 g0 t a b n = none) : nW2 g0 t n = none ∧ ¬ inV (nI (nR g0 t n).1) a b = 0 := by
  unfold nW3 at h
  split at h
  · exact absurd h fl_ne
  · exact ⟨h, by assumption⟩
theorem nW2_pos {g0 : Nat → Int32} {t n : Nat} (h : nW2 g0 t n = none) : n + 1 ≤ (nR g0 t n).2.1 := Nat.le_trans (Nat.succ_le_succ (sN_ge g0 t n)) (nmL_one g0 t _ (nW1_none (nW2_none h)))
set_option maxHeartbeats 1000000 in
theorem c_number (T : ST) (a b : Int32) (f0 : FT) (n : Nat) (d : Int32) (g : GT) (t : Nat) (h1 : f0 1 = nI t) (ht : t ≤ 400) (hn : n ≤ 401) (Post : Int32 → FT → GT → Prop) (hq : Post (nV (g 0) t a b n) (ps f0 (nR (g 0) t n).2.1 (nW3 (g 0) t a b n) (nI (nR (g 0) t n).2.2)) g) : mI T y_Mo_number (Cond.code y_Mo_number b_Mo_number 4 (some .int)) 2 [.ref (ad T 0), .int a, .int b] (ps f0 n none d) g Post := by
  refine e_Mo_number T Post a b _ g ?_
  rintro C rfl X
  have hnone : wok none := fun p e => by cases e
  have hs := sN_401 (g 0) ht hn
  have hR := nR_401 (g 0) ht hn
  have hk := nmL_k (g 0) t 4 0 (sN (g 0) t n) 0 rfl
  have s152 : ∀ x3 y f, y = nV (g 0) t a b n → f = ps f0 (nR (g 0) t n).2.1 (nW3 (g 0) t a b n) (nI (nR (g 0) t n).2.2) → zn_number C Post 152 [(0, .ref (ad C.1 0)), (1, .int a), (2, .int b), (3, .int x3)] [.int y] f g := fun x3 y f e1 e2 => k_Mo_number_152 X Post a b x3 y f g (by rw [e1, e2]; exact hq)
  have s140 : zn_number C Post 140 [(0, .ref (ad C.1 0)), (1, .int a), (2, .int b), (3, .int (nI (nR (g 0) t n).1))] [] (ps f0 (nR (g 0) t n).2.1 (nW3 (g 0) t a b n) (nI (nR (g 0) t n).2.2)) g := by
    refine k_Mo_number_140 X Post a b _ _ g ?_ ?_
    · intro h
      have h2 := (wI_ge (nW3_ok (g 0) ht hn)).mp h
      exact s152 _ _ _ (if_neg h2).symm rfl
    · intro h
      have h2 : nW3 (g 0) t a b n = none := Classical.byContradiction fun q => h ((wI_ge (nW3_ok (g 0) ht hn)).mpr q)
      exact s152 _ _ _ (if_pos h2).symm rfl
  have s121 : zn_number C Post 121 [(0, .ref (ad C.1 0)), (1, .int a), (2, .int b), (3, .int (nI (nR (g 0) t n).1))] [] (ps f0 (nR (g 0) t n).2.1 (nW2 (g 0) t n) (nI (nR (g 0) t n).2.2)) g := by
    refine k_Mo_number_121 X Post (P_124 := fun r f' g' => r = inV (nI (nR (g 0) t n).1) a b ∧ f' = ps f0 (nR (g 0) t n).2.1 (nW2 (g 0) t n) (nI (nR (g 0) t n).2.2) ∧ g' = g) a b _ _ g ?_ ?_
    · exact c_in _ _ _ _ _ _ _ ⟨rfl, rfl, rfl⟩
    rintro r f1 g1 ⟨rfl, rfl, rfl⟩
    refine k_Mo_number_127 X Post (P_137 := fun f' g' => f' = ps f0 (nR (g1 0) t n).2.1 (nW3 (g1 0) t a b n) (nI (nR (g1 0) t n).2.2) ∧ g' = g1) a b _ _ _ _ ?_ ?_ ?_
    · intro h
      have e : nW3 (g1 0) t a b n = nW2 (g1 0) t n := if_neg h
      rw [← e]; exact s140
    · intro h
      have e : nW3 (g1 0) t a b n = fl (nW2 (g1 0) t n) ((nR (g1 0) t n).2.1 - 1) := if_pos h
      cases hw2 : nW2 (g1 0) t n with
      | none =>
        have hp := nW2_pos hw2
        obtain ⟨q, eq⟩ : ∃ q, (nR (g1 0) t n).2.1 = q + 1 := ⟨(nR (g1 0) t n).2.1 - 1, by omega⟩
        rw [hw2, eq, Nat.add_sub_cancel] at e
        rw [ps_5, eq, nI_pred]
        exact c_failP _ q f0 _ none _ g1 hnone _ ⟨by rw [e], rfl⟩
      | some z =>
        rw [hw2] at e
        have hz : wok (some z) := by rw [← hw2]; exact nW2_ok (g1 0) ht hn
        refine c_fail _ _ _ g1 _ ?_
        rw [ps_6, if_pos ((wI_ge hz).mpr (by simp))]
        exact ⟨by rw [e]; rfl, rfl⟩
    · rintro h f2 g2 ⟨rfl, rfl⟩
      exact s140
  have s98 : zn_number C Post 98 [(0, .ref (ad C.1 0)), (1, .int a), (2, .int b), (3, .int (nI (nR (g 0) t n).1))] [] (ps f0 (nR (g 0) t n).2.1 (nW1 (g 0) t n) (nI (nR (g 0) t n).2.2)) g := by
    refine k_Mo_number_98 X Post (P_107 := fun r f' g' => r = dg (tp (g 0) t (nR (g 0) t n).2.1) ∧ f' = ps f0 (nR (g 0) t n).2.1 (nW1 (g 0) t n) (nI (nR (g 0) t n).2.2) ∧ g' = g) a b _ _ g ?_ ?_ ?_
    · intro h
      have e : nW2 (g 0) t n = nW1 (g 0) t n := if_neg (fun q => h (by rw [ps_7, q.1]; rfl))
      rw [← e]; exact s121
    · intro h
      exact c_isDigitP _ f0 _ _ _ g t h1 ht (by omega) _ (by exact ⟨rfl, rfl, rfl⟩)
    · rintro h r f1 g1 ⟨rfl, rfl, rfl⟩
      rw [ps_7, show (4 : Int32) = nI 4 from rfl, nI_eq (by unfold nR; omega) (by omega)] at h
      refine k_Mo_number_110 X Post (P_118 := fun f' g' => f' = ps f0 (nR (g1 0) t n).2.1 (nW2 (g1 0) t n) (nI (nR (g1 0) t n).2.2) ∧ g' = g1) a b _ _ _ _ ?_ ?_ ?_
      · intro h2
        have e : nW2 (g1 0) t n = nW1 (g1 0) t n := if_neg (fun q => q.2 h2)
        rw [← e]; exact s121
      · intro h2
        have e : nW2 (g1 0) t n = fl (nW1 (g1 0) t n) (nR (g1 0) t n).2.1 := if_pos ⟨h, h2⟩
        exact c_failP _ _ f0 _ _ _ g1 (nW1_ok (g1 0) ht hn) _ ⟨by rw [e], rfl⟩
      · rintro h2 f2 g2 ⟨rfl, rfl⟩
        exact s121
  have loop : ∀ j v n1 k, j + k = 4 → v < 10 ^ k → n1 ≤ 401 → nmL (g 0) t j v n1 k = nR (g 0) t n → zn_number C Post 36 [(0, .ref (ad C.1 0)), (1, .int a), (2, .int b), (3, .int (nI v))] [] (ps f0 n1 (nW1 (g 0) t n) (nI k)) g := by
    intro j
    induction j with
    | zero =>
      intro v n1 k hj hv h401 e
      have e1 : v = (nR (g 0) t n).1 := by rw [← e]; rfl
      have e2 : n1 = (nR (g 0) t n).2.1 := by rw [← e]; rfl
      have e3 : k = (nR (g 0) t n).2.2 := by rw [← e]; rfl
      refine k_Mo_number_36 X Post (P_37 := fun r f' g' => r = dg (tp (g 0) t n1) ∧ f' = ps f0 n1 (nW1 (g 0) t n) (nI k) ∧ g' = g) a b _ _ g ?_ ?_
      · exact c_isDigitP _ f0 _ _ _ g t h1 ht (by omega) _ (by exact ⟨rfl, rfl, rfl⟩)
      rintro r f1 g1 ⟨rfl, rfl, rfl⟩
      have hk4 : (4 : Int32) ≤ ps f0 n1 (nW1 (g1 0) t n) (nI k) 7 := by
        rw [ps_7, show (4 : Int32) = nI 4 from rfl, nI_leI (by omega) (by omega)]; omega
      refine k_Mo_number_40 X Post a b _ _ _ _ ?_ ?_ ?_ ?_ ?_
      · intro _; rw [e1, e2, e3]; exact s98
      · intro _ _; rw [e1, e2, e3]; exact s98
      · intro _ h; exact absurd hk4 h
      · intro _ h; exact absurd hk4 h
      · intro _ h; exact absurd hk4 h
    | succ j ih =>
      intro v n1 k hj hv h401 e
      have hv4 : v < 10000 := by
        have : 10 ^ k ≤ 10 ^ 4 := Nat.pow_le_pow_right (by decide) (by omega)
        exact Nat.lt_of_lt_of_le hv this
      have stop : ¬ ((¬ dg (tp (g 0) t n1) = 0) ∧ (k = 0 ∨ 0 < v)) → zn_number C Post 98 [(0, .ref (ad C.1 0)), (1, .int a), (2, .int b), (3, .int (nI v))] [] (ps f0 n1 (nW1 (g 0) t n) (nI k)) g := by
        intro q
        have e0 : nmL (g 0) t (j + 1) v n1 k = (v, n1, k) := if_neg q
        rw [e0] at e
        have e1 : v = (nR (g 0) t n).1 := by rw [← e]
        have e2 : n1 = (nR (g 0) t n).2.1 := by rw [← e]
        have e3 : k = (nR (g 0) t n).2.2 := by rw [← e]
        rw [e1, e2, e3]; exact s98
      have goon : (¬ dg (tp (g 0) t n1) = 0) → (k = 0 ∨ 0 < v) → zn_number C Post 62 [(0, .ref (ad C.1 0)), (1, .int a), (2, .int b), (3, .int (nI v))] [] (ps f0 n1 (nW1 (g 0) t n) (nI k)) g := by
        intro q1 q2
        have e0 : nmL (g 0) t (j + 1) v n1 k = nmL (g 0) t j (10 * v + dv (tp (g 0) t n1)) (n1 + 1) (k + 1) := if_pos ⟨q1, q2⟩
        rw [e0] at e
        have hlt := dg_lt q1
        refine k_Mo_number_62 X Post (P_67 := fun r f' g' => r = tp (g 0) t n1 ∧ f' = ps f0 n1 (nW1 (g 0) t n) (nI k) ∧ g' = g) a b _ _ g ?_ ?_
        · exact c_hereP _ f0 _ _ _ g t h1 ht (by omega) _ (by exact ⟨rfl, rfl, rfl⟩)
        rintro r f1 g1 ⟨rfl, rfl, rfl⟩
        refine k_Mo_number_70 X Post a b _ _ _ _ _ ?_
        rw [nm_step q1, ps_7, ps_5, ps_dg, nI_1, ps_at]
        refine ih _ _ _ (by omega) ?_ (by omega) e
        obtain ⟨m, em, m1, m2⟩ := dg_n q1
        unfold dv
        rw [em, nI_clamp (by omega), Nat.pow_succ]
        omega
      refine k_Mo_number_36 X Post (P_37 := fun r f' g' => r = dg (tp (g 0) t n1) ∧ f' = ps f0 n1 (nW1 (g 0) t n) (nI k) ∧ g' = g) a b _ _ g ?_ ?_
      · exact c_isDigitP _ f0 _ _ _ g t h1 ht (by omega) _ (by exact ⟨rfl, rfl, rfl⟩)
      rintro r f1 g1 ⟨rfl, rfl, rfl⟩
      have hk4 : ¬ (4 : Int32) ≤ ps f0 n1 (nW1 (g1 0) t n) (nI k) 7 := by
        rw [ps_7, show (4 : Int32) = nI 4 from rfl, nI_leI (by omega) (by omega)]; omega
      refine k_Mo_number_40 X Post a b _ _ _ _ ?_ ?_ ?_ ?_ ?_
      · intro h; exact stop (fun q => q.1 h)
      · intro _ h; exact absurd h hk4
      · intro h _ h2
        rw [ps_7, show (0 : Int32) = nI 0 from rfl, nI_eq (by omega) (by omega)] at h2
        exact goon h (Or.inl h2)
      · intro h _ h2 h3
        rw [ps_7, show (0 : Int32) = nI 0 from rfl, nI_eq (by omega) (by omega)] at h2
        rw [show (0 : Int32) = nI 0 from rfl, nI_leI (by omega) (by omega)] at h3
        exact stop (fun q => by rcases q.2 with z | z <;> omega)
      · intro h _ h2 h3
        rw [show (0 : Int32) = nI 0 from rfl, nI_leI (by omega) (by omega)] at h3
        exact goon h (Or.inr (by omega))
  have s29 : zn_number C Post 29 [(0, .ref (ad C.1 0)), (1, .int a), (2, .int b)] [] (ps f0 (sN (g 0) t n) (nW1 (g 0) t n) d) g := by
    refine k_Mo_number_29 X Post a b _ g ?_
    rw [ps_dg]
    exact loop 4 0 (sN (g 0) t n) 0 rfl (by decide) hs rfl
  refine k_Mo_number_0 X Post (P_10 := fun r f' g' => r = tp (g 0) t (sN (g 0) t n) ∧ f' = ps f0 (sN (g 0) t n) none d ∧ g' = g) a b _ g ?_ ?_ ?_
  · exact fun _ => c_see _ f0 n none d g t h1 ht hn _ ⟨rfl, rfl, rfl⟩
  · rintro - r f1 g1 ⟨rfl, rfl, rfl⟩
    refine k_Mo_number_13 X Post (P_15 := fun r f' g' => r = dg (tp (g1 0) t (sN (g1 0) t n)) ∧ f' = ps f0 (sN (g1 0) t n) none d ∧ g' = g1) a b _ _ _ ?_ ?_
    · exact c_isDigitP _ f0 _ _ _ g1 t h1 ht (by omega) _ (by exact ⟨rfl, rfl, rfl⟩)
    rintro r f2 g2 ⟨rfl, rfl, rfl⟩
    refine k_Mo_number_18 X Post (P_26 := fun f' g' => f' = ps f0 (sN (g2 0) t n) (nW1 (g2 0) t n) d ∧ g' = g2) a b _ _ _ ?_ ?_ ?_
    · intro h
      have e : nW1 (g2 0) t n = none := if_neg h
      rw [← e]; exact s29
    · intro h
      have e : nW1 (g2 0) t n = some (sN (g2 0) t n) := if_pos h
      exact c_failP _ _ f0 _ none d g2 hnone _ ⟨by rw [e]; rfl, rfl⟩
    · rintro h f3 g3 ⟨rfl, rfl⟩
      exact s29
  · intro h
    exact absurd ((wI_lt hnone).mpr rfl) h
