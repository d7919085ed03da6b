-- worlds of the class: named parts, contracts that may throw
def s_t (k : Nat → ClassId) (a : Nat → Nat) (f : FT) (g : GT) : va_W := [(a 20, .inr (1, [.ref (a 21), .ref (a 22), .ref (a 23), .int (f 0), .int (f 1)])), (a 21, .inl (k 0, 400, .inl (g 0)))]
def s_r (k : Nat → ClassId) (a : Nat → Nat) (r : Nat → Nat → Option Nat) : va_W := [(a 22, .inl (k 3, 61, .inr (.inr (.inr (.inr (r 0)))))), (a 23, .inl (k 4, 10, .inr (.inr (.inr (.inr (r 1))))))]
def s_c (k : Nat → ClassId) (a : Nat → Nat) (f : FT) (g : GT) : va_W := [(a 26, .inr (2, [.ref (a 27), .ref (a 28), .int (f 0), .int (f 1), .int (f 2), .int (f 3)])), (a 27, .inl (k 0, 40, .inl (g 0))), (a 28, .inl (k 0, 61, .inl (g 1)))]
def xI (T : ST) (y : MethodName) (cw : Cond) (v mc ms : Nat) (av : List Value) (ws : va_W) (Post : Int32 → va_W → Prop) (PX : String → va_W → Prop) : Prop := match T with
  | (l, dC, dI, k, _) => ∀ sz : Nat, vx_Met l y (cw :: z_T) (z_rm v mc ms) (z_Pc dC dI k sz av ws) (va_Qi (fun (r : Int32) (u : va_W) => Post r u) (fun (u : va_W) t => z_B dC dI k (va_A ws sz) u t) (va_A ws sz)) (vx_X (fun (_ : va_W) => True) (fun E (u : va_W) t => PX E u ∧ z_B dC dI k (va_A ws sz) u t) (va_A ws sz)) mc ms (va_A ws sz)
def yI (C : CT) (mc ms : Nat) (Post : Int32 → va_W → Prop) (PX : String → va_W → Prop) : State → Prop := match C with
  | ((_, dC, dI, k, _), _, _, s, _, args, below, _, _, A) => vx_MQ below (va_Qi (fun (r : Int32) (u : va_W) => Post r u) (fun (u : va_W) t => z_B dC dI k A u t) A) (vx_X (fun (_ : va_W) => True) (fun E (u : va_W) t => PX E u ∧ z_B dC dI k A u t) A) args s mc ms A
def uI (T : ST) (y : MethodName) (cw : Cond) (v mc ms : Nat) (av : List Value) (ws : va_W) (Post : Int32 → va_W → Prop) : Prop := match T with
  | (l, dC, dI, k, _) => ∀ sz : Nat, Met l y (cw :: z_T) (z_rm v mc ms) (z_Pc dC dI k sz av ws) (va_Qi (fun (r : Int32) (u : va_W) => Post r u) (fun (u : va_W) t => z_B dC dI k (va_A ws sz) u t) (va_A ws sz)) mc ms (va_A ws sz)
def oI (C : CT) (mc ms : Nat) (Post : Int32 → va_W → Prop) : State → Prop := match C with
  | ((_, dC, dI, k, _), _, _, s, _, args, below, _, _, A) => MQ below (va_Qi (fun (r : Int32) (u : va_W) => Post r u) (fun (u : va_W) t => z_B dC dI k A u t) A) args s mc ms A
def xV (T : ST) (y : MethodName) (cw : Cond) (v mc ms : Nat) (av : List Value) (ws : va_W) (Post : va_W → Prop) (PX : String → va_W → Prop) : Prop := match T with
  | (l, dC, dI, k, _) => ∀ sz : Nat, vx_Met l y (cw :: z_T) (z_rm v mc ms) (z_Pc dC dI k sz av ws) (va_Qv (fun (u : va_W) => Post u) (fun (u : va_W) t => z_B dC dI k (va_A ws sz) u t) (va_A ws sz)) (vx_X (fun (_ : va_W) => True) (fun E (u : va_W) t => PX E u ∧ z_B dC dI k (va_A ws sz) u t) (va_A ws sz)) mc ms (va_A ws sz)
def yV (C : CT) (mc ms : Nat) (Post : va_W → Prop) (PX : String → va_W → Prop) : State → Prop := match C with
  | ((_, dC, dI, k, _), _, _, s, _, args, below, _, _, A) => vx_MQ below (va_Qv (fun (u : va_W) => Post u) (fun (u : va_W) t => z_B dC dI k A u t) A) (vx_X (fun (_ : va_W) => True) (fun E (u : va_W) t => PX E u ∧ z_B dC dI k A u t) A) args s mc ms A
def uV (T : ST) (y : MethodName) (cw : Cond) (v mc ms : Nat) (av : List Value) (ws : va_W) (Post : va_W → Prop) : Prop := match T with
  | (l, dC, dI, k, _) => ∀ sz : Nat, Met l y (cw :: z_T) (z_rm v mc ms) (z_Pc dC dI k sz av ws) (va_Qv (fun (u : va_W) => Post u) (fun (u : va_W) t => z_B dC dI k (va_A ws sz) u t) (va_A ws sz)) mc ms (va_A ws sz)
def oV (C : CT) (mc ms : Nat) (Post : va_W → Prop) : State → Prop := match C with
  | ((_, dC, dI, k, _), _, _, s, _, args, below, _, _, A) => MQ below (va_Qv (fun (u : va_W) => Post u) (fun (u : va_W) t => z_B dC dI k A u t) A) args s mc ms A
def xL (T : ST) (y : MethodName) (cw : Cond) (v mc ms : Nat) (av : List Value) (ws : va_W) (Post : Int64 → va_W → Prop) (PX : String → va_W → Prop) : Prop := match T with
  | (l, dC, dI, k, _) => ∀ sz : Nat, vx_Met l y (cw :: z_T) (z_rm v mc ms) (z_Pc dC dI k sz av ws) (va_Ql (fun (r : Int64) (u : va_W) => Post r u) (fun (u : va_W) t => z_B dC dI k (va_A ws sz) u t) (va_A ws sz)) (vx_X (fun (_ : va_W) => True) (fun E (u : va_W) t => PX E u ∧ z_B dC dI k (va_A ws sz) u t) (va_A ws sz)) mc ms (va_A ws sz)
def yL (C : CT) (mc ms : Nat) (Post : Int64 → va_W → Prop) (PX : String → va_W → Prop) : State → Prop := match C with
  | ((_, dC, dI, k, _), _, _, s, _, args, below, _, _, A) => vx_MQ below (va_Ql (fun (r : Int64) (u : va_W) => Post r u) (fun (u : va_W) t => z_B dC dI k A u t) A) (vx_X (fun (_ : va_W) => True) (fun E (u : va_W) t => PX E u ∧ z_B dC dI k A u t) A) args s mc ms A
def uL (T : ST) (y : MethodName) (cw : Cond) (v mc ms : Nat) (av : List Value) (ws : va_W) (Post : Int64 → va_W → Prop) : Prop := match T with
  | (l, dC, dI, k, _) => ∀ sz : Nat, Met l y (cw :: z_T) (z_rm v mc ms) (z_Pc dC dI k sz av ws) (va_Ql (fun (r : Int64) (u : va_W) => Post r u) (fun (u : va_W) t => z_B dC dI k (va_A ws sz) u t) (va_A ws sz)) mc ms (va_A ws sz)
def oL (C : CT) (mc ms : Nat) (Post : Int64 → va_W → Prop) : State → Prop := match C with
  | ((_, dC, dI, k, _), _, _, s, _, args, below, _, _, A) => MQ below (va_Ql (fun (r : Int64) (u : va_W) => Post r u) (fun (u : va_W) t => z_B dC dI k A u t) A) args s mc ms A
def xR (T : ST) (y : MethodName) (cw : Cond) (v mc ms : Nat) (av : List Value) (ws : va_W) (Post : Option Nat → va_W → Prop) (PX : String → va_W → Prop) : Prop := match T with
  | (l, dC, dI, k, _) => ∀ sz : Nat, vx_Met l y (cw :: z_T) (z_rm v mc ms) (z_Pc dC dI k sz av ws) (va_Qq (fun (r : Option Nat) (u : va_W) => Post r u) (fun (u : va_W) t => z_B dC dI k (va_A ws sz) u t) (va_A ws sz)) (vx_X (fun (_ : va_W) => True) (fun E (u : va_W) t => PX E u ∧ z_B dC dI k (va_A ws sz) u t) (va_A ws sz)) mc ms (va_A ws sz)
def yR (C : CT) (mc ms : Nat) (Post : Option Nat → va_W → Prop) (PX : String → va_W → Prop) : State → Prop := match C with
  | ((_, dC, dI, k, _), _, _, s, _, args, below, _, _, A) => vx_MQ below (va_Qq (fun (r : Option Nat) (u : va_W) => Post r u) (fun (u : va_W) t => z_B dC dI k A u t) A) (vx_X (fun (_ : va_W) => True) (fun E (u : va_W) t => PX E u ∧ z_B dC dI k A u t) A) args s mc ms A
def uR (T : ST) (y : MethodName) (cw : Cond) (v mc ms : Nat) (av : List Value) (ws : va_W) (Post : Option Nat → va_W → Prop) : Prop := match T with
  | (l, dC, dI, k, _) => ∀ sz : Nat, Met l y (cw :: z_T) (z_rm v mc ms) (z_Pc dC dI k sz av ws) (va_Qq (fun (r : Option Nat) (u : va_W) => Post r u) (fun (u : va_W) t => z_B dC dI k (va_A ws sz) u t) (va_A ws sz)) mc ms (va_A ws sz)
def oR (C : CT) (mc ms : Nat) (Post : Option Nat → va_W → Prop) : State → Prop := match C with
  | ((_, dC, dI, k, _), _, _, s, _, args, below, _, _, A) => MQ below (va_Qq (fun (r : Option Nat) (u : va_W) => Post r u) (fun (u : va_W) t => z_B dC dI k A u t) A) args s mc ms A
-- in the body of a method without handlers; no stack traces
def cN (C : CT) (own : String) (b : ByteArray) (nL : Nat) (ret : Option FieldType) : Prop := cM C own b nL ret ∧ match C with
  | (_, _, _, _, _, _, _, meth, _, _) => meth.name = "<init>"
def cX (C : CT) (own : String) (b : ByteArray) (nL : Nat) (ret : Option FieldType) : Prop := cM C own b nL ret ∧ match C with
  | ((l, _, _, _, _), _, _, _, _, _, _, _, c, _) => (∀ x ∈ c.exceptionTable.toList, False) ∧ l.stackTraces = false
theorem z_thr {dC : Nat → ClassId} {dI : Nat → Nat → Nat} {k : Nat → ClassId} {s : State} {A : Nat → Prop} {ws : va_W} {H : Heap} {locs : List Loc} (hP : va_P (dC, dI) classes ws H) (hK : va_K (dC, dI) classes (z_ty k) s) (hD : va_D A ws) (hS : va_S A s.heap H locs) :
    ∀ t : State, s.vm.Alike t.vm → H.size ≤ t.heap.size → (∀ q : Nat, q < H.size → t.heap[q]? = H[q]?) → z_B dC dI k A ws t ∧ va_F A s t := by
  intro t h1 h2 h3
  exact ⟨⟨hP.kept (fun j q hq => h3 q.1 (hP j q hq).lt), va_K.moved h1 hK, hD⟩, Nat.le_trans hS.1 h2, fun q h4 h5 => (h3 q (Nat.lt_of_lt_of_le h4 hS.1)).trans (hS.2.1 q h4 h5)⟩
-- a part of the world goes to a callee, the rest stays
theorem zf {D : va_G} {cl : List vw_C} {A0 : Nat → Prop} {X wc Y w1 : va_W} {H H1 : Heap} (hP : va_P D cl (X ++ (wc ++ Y)) H) (hD : va_D A0 (X ++ (wc ++ Y)))
    (hk : ∀ q : Nat, q < H.size → ¬ va_A wc H.size q → H1[q]? = H[q]?) (hF : ∀ q, va_A wc H.size q → A0 q) (hP1 : va_P D cl w1 H1) (hD1 : va_D (va_A wc H.size) w1) : va_P D cl (X ++ (w1 ++ Y)) H1 ∧ va_D A0 (X ++ (w1 ++ Y)) := by
  have mem : ∀ {ws : va_W} {q : Nat × va_E}, q ∈ ws → ∃ i, ws[i]? = some q := fun h => List.getElem?_of_mem h
  have eX : ∀ i q, X[i]? = some q → (X ++ (wc ++ Y))[i]? = some q := fun i q h => by rw [List.getElem?_append_left (List.getElem?_eq_some_iff.mp h).1]; exact h
  have eC : ∀ i q, wc[i]? = some q → (X ++ (wc ++ Y))[X.length + i]? = some q := fun i q h => by rw [List.getElem?_append_right (Nat.le_add_right _ _), Nat.add_sub_cancel_left, List.getElem?_append_left (List.getElem?_eq_some_iff.mp h).1]; exact h
  have eY : ∀ i q, Y[i]? = some q → (X ++ (wc ++ Y))[X.length + (wc.length + i)]? = some q := fun i q h => by rw [List.getElem?_append_right (Nat.le_add_right _ _), Nat.add_sub_cancel_left, List.getElem?_append_right (Nat.le_add_right _ _), Nat.add_sub_cancel_left]; exact h
  have apart : ∀ (i : Nat) (q : Nat × va_E), (X ++ (wc ++ Y))[i]? = some q → (i < X.length ∨ X.length + wc.length ≤ i) → q.1 < H.size ∧ ¬ va_A wc H.size q.1 := by
    intro i q hi hc
    have hl := (hP i q hi).lt
    refine ⟨hl, fun h => ?_⟩
    rcases h with ⟨j, e, h⟩ | h
    · have hj := (List.getElem?_eq_some_iff.mp h).1
      have := hD.1 i (X.length + j) q (q.1, e) hi (eC j _ h) rfl
      omega
    · omega
  have hX : va_P D cl X H1 := fun i q h => by
    obtain ⟨g1, g2⟩ := apart i q (eX i q h) (Or.inl (List.getElem?_eq_some_iff.mp h).1)
    exact (hP i q (eX i q h)).kept (hk q.1 g1 g2)
  have hY : va_P D cl Y H1 := fun i q h => by
    obtain ⟨g1, g2⟩ := apart _ q (eY i q h) (Or.inr (by omega))
    exact (hP _ q (eY i q h)).kept (hk q.1 g1 g2)
  refine ⟨va_P.app hX (va_P.app hP1 hY), ?_⟩
  have dX : va_D A0 X := ⟨fun i j x y hx hy e => hD.1 i j x y (eX i x hx) (eX j y hy) e, fun i q h => hD.2 i q (eX i q h)⟩
  have dY : va_D A0 Y := ⟨fun i j x y hx hy e => by have := hD.1 _ _ x y (eY i x hx) (eY j y hy) e; omega, fun i q h => hD.2 _ q (eY i q h)⟩
  refine va_D.app dX (va_D.app (hD1.weaken (fun k q _ h => hF q.1 h)) dY (fun i j x y hx hy e => ?_)) (fun i j x y hx hy e => ?_)
  · exact (apart _ y (eY j y hy) (Or.inr (by omega))).2 (by rw [← e]; exact hD1.2 i x hx)
  · rcases List.mem_append.mp (List.mem_of_getElem? hy) with h | h
    · obtain ⟨j', hj'⟩ := mem h
      exact (apart i x (eX i x hx) (Or.inl (List.getElem?_eq_some_iff.mp hx).1)).2 (by rw [e]; exact hD1.2 j' y hj')
    · obtain ⟨j', hj'⟩ := mem h
      have := hD.1 i _ x y (eX i x hx) (eY j' y hj') e
      have := (List.getElem?_eq_some_iff.mp hx).1
      omega
theorem zfree {A0 : Nat → Prop} {X wc Y : va_W} {H0 H : Heap} {locs : List Loc} (hD : va_D A0 (X ++ (wc ++ Y))) (hS : va_S A0 H0 H locs) (hA : ∀ q, H0.size ≤ q → A0 q) : ∀ q, va_A wc H.size q → A0 q := by
  intro q h
  rcases h with ⟨i, e, h⟩ | h
  · refine hD.2 (X.length + i) (q, e) ?_
    rw [List.getElem?_append_right (Nat.le_add_right _ _), Nat.add_sub_cancel_left, List.getElem?_append_left (List.getElem?_eq_some_iff.mp h).1]; exact h
  · exact hA q (Nat.le_trans hS.1 h)
theorem zPc {D : va_G} {cl : List vw_C} {X wc Y : va_W} {H : Heap} (hP : va_P D cl (X ++ (wc ++ Y)) H) : va_P D cl wc H := fun i q h => hP (X.length + i) q (by
  rw [List.getElem?_append_right (Nat.le_add_right _ _), Nat.add_sub_cancel_left, List.getElem?_append_left (List.getElem?_eq_some_iff.mp h).1]; exact h)
theorem zDc {A : Nat → Prop} {X wc Y : va_W} (hD : va_D A (X ++ (wc ++ Y))) : va_D (fun _ => True) wc := ⟨fun i j x y hx hy e => by
  have h : ∀ (i : Nat) (q : Nat × va_E), wc[i]? = some q → (X ++ (wc ++ Y))[X.length + i]? = some q := fun i q h => by rw [List.getElem?_append_right (Nat.le_add_right _ _), Nat.add_sub_cancel_left, List.getElem?_append_left (List.getElem?_eq_some_iff.mp h).1]; exact h
  have := hD.1 _ _ x y (h i x hx) (h j y hy) e
  omega, fun _ _ _ => trivial⟩
theorem zP0 {D : va_G} {cl : List vw_C} {H : Heap} : va_P D cl [] H := fun i q h => (by cases h)
theorem zD0 {A : Nat → Prop} : va_D A [] := ⟨fun i j x y h => (by cases h), fun i q h => (by cases h)⟩
-- a new cell comes to the front
theorem zsP {D : va_G} {cl : List vw_C} {ws : va_W} {x : Nat × va_E} {H : Heap} (h : va_P D cl (ws ++ [x]) H) : va_P D cl (x :: ws) H := by
  intro i q hi
  cases i with
  | zero => exact h ws.length q (by rw [List.getElem?_append_right (Nat.le_refl _), Nat.sub_self]; exact hi)
  | succ i => exact h i q (by rw [List.getElem?_append_left (List.getElem?_eq_some_iff.mp (show ws[i]? = some q from hi)).1]; exact hi)
theorem zsD {A : Nat → Prop} {ws : va_W} {x : Nat × va_E} (h : va_D A (ws ++ [x])) : va_D A (x :: ws) := by
  have e0 : (ws ++ [x])[ws.length]? = some x := by rw [List.getElem?_append_right (Nat.le_refl _), Nat.sub_self]; rfl
  have e1 : ∀ (i : Nat) (q : Nat × va_E), ws[i]? = some q → (ws ++ [x])[i]? = some q := fun i q hi => by rw [List.getElem?_append_left (List.getElem?_eq_some_iff.mp hi).1]; exact hi
  refine ⟨fun i j p q hi hj e => ?_, fun i q hi => ?_⟩
  · cases i with
    | zero =>
      cases j with
      | zero => rfl
      | succ j =>
        have hi : some x = some p := hi
        cases hi
        have := h.1 _ _ x q e0 (e1 j q hj) e
        have := (List.getElem?_eq_some_iff.mp (show ws[j]? = some q from hj)).1
        omega
    | succ i =>
      cases j with
      | zero =>
        have hj : some x = some q := hj
        cases hj
        have := h.1 _ _ p x (e1 i p hi) e0 e
        have := (List.getElem?_eq_some_iff.mp (show ws[i]? = some p from hi)).1
        omega
      | succ j => exact congrArg (· + 1) (h.1 i j p q (e1 i p hi) (e1 j q hj) e)
  · cases i with
    | zero => have hi : some x = some q := hi
              cases hi
              exact h.2 _ x e0
    | succ i => exact h.2 i q (e1 i q hi)
-- what is in another order is the same
theorem zpP {D : va_G} {cl : List vw_C} {ws ws' : va_W} {H : Heap} (hp : ws.Perm ws') (h : va_P D cl ws H) : va_P D cl ws' H := fun i q hi => by
  obtain ⟨j, hj⟩ := List.getElem?_of_mem (hp.mem_iff.mpr (List.mem_of_getElem? hi))
  exact h j q hj
theorem zdc {A : Nat → Prop} {x : Nat × va_E} {ws : va_W} : va_D A (x :: ws) ↔ A x.1 ∧ (∀ q ∈ ws, q.1 ≠ x.1) ∧ va_D A ws := by
  constructor
  · intro h
    refine ⟨h.2 0 x rfl, fun q hq e => ?_, ⟨fun i j p q hi hj e => ?_, fun i q hi => h.2 (i + 1) q hi⟩⟩
    · obtain ⟨i, hi⟩ := List.getElem?_of_mem hq
      have := h.1 (i + 1) 0 q x hi rfl e
      omega
    · have := h.1 (i + 1) (j + 1) p q hi hj e
      omega
  · rintro ⟨h1, h2, h3⟩
    refine ⟨fun i j p q hi hj e => ?_, fun i q hi => ?_⟩
    · cases i with
      | zero =>
        have hi : some x = some p := hi
        cases hi
        cases j with
        | zero => rfl
        | succ j => exact absurd e.symm (h2 q (List.mem_of_getElem? (show ws[j]? = some q from hj)))
      | succ i =>
        cases j with
        | zero =>
          have hj : some x = some q := hj
          cases hj
          exact absurd e (h2 p (List.mem_of_getElem? (show ws[i]? = some p from hi)))
        | succ j => exact congrArg (· + 1) (h3.1 i j p q hi hj e)
    · cases i with
      | zero =>
        have hi : some x = some q := hi
        cases hi
        exact h1
      | succ i => exact h3.2 i q hi
theorem zpD {A : Nat → Prop} {ws ws' : va_W} (hp : ws.Perm ws') (h : va_D A ws) : va_D A ws' := by
  induction hp with
  | nil => exact h
  | cons x p ih =>
    rw [zdc] at h ⊢
    exact ⟨h.1, fun q hq => h.2.1 q (p.mem_iff.mpr hq), ih h.2.2⟩
  | swap x y l =>
    rw [zdc, zdc] at h ⊢
    obtain ⟨h1, h2, h3, h4, h5⟩ := h
    refine ⟨h3, fun q hq => ?_, h1, fun q hq => h2 q (List.mem_cons_of_mem _ hq), h5⟩
    rcases List.mem_cons.mp hq with e | e
    · rw [e]; exact fun z => h2 x (List.mem_cons_self) z.symm
    · exact h4 q e
  | trans p q ih1 ih2 => exact ih2 (ih1 h)
theorem zW_perm {C : CT} {R : Room} {nL : Nat} {Q : State → Prop} {cells slots pc : Nat} {loc : List (Nat × Value)} {st : List Value} {ws ws' : va_W} (hp : ws.Perm ws') (h : zW C R nL Q cells slots pc loc st ws') : zW C R nL Q cells slots pc loc st ws := by
  obtain ⟨⟨l, dC, dI, k, a⟩, p, e, s, m, args, below, meth, c, A⟩ := C
  intro H locs ls hl hP hD hS
  exact h H locs ls hl (zpP hp hP) (zpD hp hD) hS
theorem zp3 (t r q : va_W) : (t ++ (r ++ q)).Perm (r ++ (t ++ q)) := by
  rw [← List.append_assoc, ← List.append_assoc]
  exact List.perm_append_comm.append_right q
theorem zp4 (p t r q : va_W) : (p ++ (t ++ (r ++ q))).Perm ((p ++ r) ++ (t ++ q)) := by
  rw [List.append_assoc]
  exact (zp3 t r q).append_left p
theorem zpA2 {t r1 r2 q z : va_W} (h : (t ++ ((r1 ++ r2) ++ q)).Perm z) : (t ++ (r1 ++ (r2 ++ q))).Perm z := by
  rw [← List.append_assoc r1 r2 q]; exact h
theorem z_gF {big : List Cond} {own C : String} {index : Nat} {x y : MethodName} {c1 : Cond} (hb : ∀ w ∈ z_T, w ∈ big) (h1 : Cond.methodLink own index x ∈ z_T) (h2 : Cond.selects C x y ∈ z_T) (h3 : Cond.instanceMethod y ∈ z_T) (h4 : Cond.initialized y.cls ∈ z_T) (h5 : c1 ∈ z_T) : GoodIn big (va_wsF own index C x y (c1 :: z_T)) := by
  refine z_gi hb fun w hw => ?_
  unfold va_wsF at hw
  simp only [List.cons_append, List.nil_append, List.mem_cons] at hw
  rcases hw with rfl | rfl | rfl | rfl | rfl | h
  · exact h1
  · exact h2
  · exact h3
  · exact h4
  · exact h5
  · exact h
theorem zW_wide {C : CT} {R : Room} {nL : Nat} {Q : State → Prop} {cells slots cells' slots' pc : Nat} {loc : List (Nat × Value)} {st : List Value} {ws : va_W} (h1 : cells ≤ cells') (h2 : slots ≤ slots') (h : zW C R nL Q cells' slots' pc loc st ws) : zW C R nL Q cells slots pc loc st ws := by
  obtain ⟨⟨l, dC, dI, k, a⟩, p, e, s, m, args, below, meth, c, A⟩ := C
  intro H locs ls hl hP hD hS
  exact W.widen h1 h2 (h H locs ls hl hP hD hS)
theorem qv_load_n {p : Program} {l : Launch} {e : Env} {R : Room} {s : State} {m : MethodId} {args : Array Value} {below : List Frame} {meth : Method} {c : Code} {H : Heap} {locs : List Loc} {cells slots : Nat} {Q : State → Prop} {cc : ByteArray} {pc : Nat} {ls : Array Slot} {rest : List Value} (hexec : p.tables.exec = Jvm.exec) (hb : c.code = cc) {k : Fin 4} {i : Nat} {x : Option Nat} (hdg : decode cc pc = .ok (.aload_n k, 1)) (hi : (k : Nat) = i) (hl : ls[i]? = some (.val (va_rf x))) (kk : W p l e R s m args below meth c H locs cells slots Q (F0 m (pc + 1) ls (va_rf x :: rest))) : W p l e R s m args below meth c H locs cells slots Q (F0 m pc ls rest) := by
  cases x with
  | none => exact lv_aload_nN hexec hb hdg hi hl kk
  | some x => exact lv_aload_n hexec hb hdg hi hl kk
theorem qv_load {p : Program} {l : Launch} {e : Env} {R : Room} {s : State} {m : MethodId} {args : Array Value} {below : List Frame} {meth : Method} {c : Code} {H : Heap} {locs : List Loc} {cells slots : Nat} {Q : State → Prop} {cc : ByteArray} {pc : Nat} {ls : Array Slot} {rest : List Value} (hexec : p.tables.exec = Jvm.exec) (hb : c.code = cc) {i : Nat} {x : Option Nat} (hdg : decode cc pc = .ok (.aload i, 2)) (hl : ls[i]? = some (.val (va_rf x))) (kk : W p l e R s m args below meth c H locs cells slots Q (F0 m (pc + 2) ls (va_rf x :: rest))) : W p l e R s m args below meth c H locs cells slots Q (F0 m pc ls rest) := by
  cases x with
  | none => exact lv_aloadN hexec hb hdg hl kk
  | some x => exact lv_aload hexec hb hdg hl kk
theorem qv_store_n {p : Program} {l : Launch} {e : Env} {R : Room} {s : State} {m : MethodId} {args : Array Value} {below : List Frame} {meth : Method} {c : Code} {H : Heap} {locs : List Loc} {cells slots : Nat} {Q : State → Prop} {cc : ByteArray} {pc : Nat} {ls : Array Slot} {rest : List Value} (hexec : p.tables.exec = Jvm.exec) (hb : c.code = cc) {k : Fin 4} {i nL : Nat} {x : Option Nat} {lv lv' : List (Nat × Value)} (hdg : decode cc pc = .ok (.astore_n k, 1)) (hi : (k : Nat) = i) (h : lv_has ls nL lv) (hn : i < nL) (hl : (i, va_rf x) :: lv.filter (fun q => !(q.1 == i) && !(q.1 + 1 == i && q.2.category == 2)) = lv') (kk : ∀ ls1 : Array Slot, lv_has ls1 nL lv' → W p l e R s m args below meth c H locs cells slots Q (F0 m (pc + 1) ls1 rest)) : W p l e R s m args below meth c H locs cells slots Q (F0 m pc ls (va_rf x :: rest)) := by
  cases x with
  | none => exact lv_astore_nN hexec hb hdg hi h hn hl kk
  | some x => exact lv_astore_n hexec hb hdg hi h hn hl kk
theorem qv_store {p : Program} {l : Launch} {e : Env} {R : Room} {s : State} {m : MethodId} {args : Array Value} {below : List Frame} {meth : Method} {c : Code} {H : Heap} {locs : List Loc} {cells slots : Nat} {Q : State → Prop} {cc : ByteArray} {pc : Nat} {ls : Array Slot} {rest : List Value} (hexec : p.tables.exec = Jvm.exec) (hb : c.code = cc) {i nL : Nat} {x : Option Nat} {lv lv' : List (Nat × Value)} (hdg : decode cc pc = .ok (.astore i, 2)) (h : lv_has ls nL lv) (hn : i < nL) (hl : (i, va_rf x) :: lv.filter (fun q => !(q.1 == i) && !(q.1 + 1 == i && q.2.category == 2)) = lv') (kk : ∀ ls1 : Array Slot, lv_has ls1 nL lv' → W p l e R s m args below meth c H locs cells slots Q (F0 m (pc + 2) ls1 rest)) : W p l e R s m args below meth c H locs cells slots Q (F0 m pc ls (va_rf x :: rest)) := by
  cases x with
  | none => exact lv_astoreN hexec hb hdg h hn hl kk
  | some x => exact lv_astore hexec hb hdg h hn hl kk
theorem qv_nn {p : Program} {l : Launch} {e : Env} {R : Room} {s : State} {m : MethodId} {args : Array Value} {below : List Frame} {meth : Method} {c : Code} {H : Heap} {locs : List Loc} {cells slots : Nat} {Q : State → Prop} {cc : ByteArray} {pc : Nat} {ls : Array Slot} {rest : List Value} (hexec : p.tables.exec = Jvm.exec) (hb : c.code = cc) {x : Option Nat} {off : Int} {tgt : Nat} (hdg : decode cc pc = .ok (.ifnonnull off, 3)) (ht : (pc : Int) + off = (tgt : Int)) (kt : ¬ x = none → W p l e R s m args below meth c H locs cells slots Q (F0 m tgt ls rest)) (kf : x = none → W p l e R s m args below meth c H locs cells slots Q (F0 m (pc + 3) ls rest)) : W p l e R s m args below meth c H locs cells slots Q (F0 m pc ls (va_rf x :: rest)) := by
  cases x with
  | none => exact lv_ifnonnullN hexec hb hdg (kf rfl)
  | some x => exact lv_ifnonnull hexec hb hdg ht (kt (by simp))
theorem qv_nl {p : Program} {l : Launch} {e : Env} {R : Room} {s : State} {m : MethodId} {args : Array Value} {below : List Frame} {meth : Method} {c : Code} {H : Heap} {locs : List Loc} {cells slots : Nat} {Q : State → Prop} {cc : ByteArray} {pc : Nat} {ls : Array Slot} {rest : List Value} (hexec : p.tables.exec = Jvm.exec) (hb : c.code = cc) {x : Option Nat} {off : Int} {tgt : Nat} (hdg : decode cc pc = .ok (.ifnull off, 3)) (ht : (pc : Int) + off = (tgt : Int)) (kt : x = none → W p l e R s m args below meth c H locs cells slots Q (F0 m tgt ls rest)) (kf : ¬ x = none → W p l e R s m args below meth c H locs cells slots Q (F0 m (pc + 3) ls rest)) : W p l e R s m args below meth c H locs cells slots Q (F0 m pc ls (va_rf x :: rest)) := by
  cases x with
  | none => exact lv_ifnullN hexec hb hdg ht (kt rfl)
  | some x => exact lv_ifnull hexec hb hdg (kf (by simp))
theorem z_hat {args : Array Value} {s : State} {L : List Cond} (h : ∀ w ∈ L, w ∈ lw_tbl ∧ (goodWord w || z_isN w) = true) (h1 : ∀ w ∈ z_T, w.before args s = true) (h2 : ∀ w ∈ z_NW, va_Nw w s) : ∀ w ∈ L, w.before args s = true := by
  intro w hw
  obtain ⟨a, b⟩ := h w hw
  cases hg : goodWord w with
  | true => exact h1 w (z_in a hg)
  | false =>
    rw [hg] at b
    have b : z_isN w = true := b
    exact va_Nw.use (z_tab b) (h2 w (z_inN a b))

section VXQ
variable {p : Program} {l : Launch} {e : Env} {R : Room} {s : State} {m : MethodId} {args : Array Value} {below : List Frame} {meth : Method} {c : Code} {H : Heap} {locs : List Loc} {cells slots : Nat} {Q : State → Prop}
variable {mc ms : Nat} {free : Addr → Prop} {A0 A1 : Nat → Prop} {H0 : Heap} {a : Array Value} {pc : Nat} {ls : Array Slot} {st0 rest : List Value}
theorem vx_callq {S SX : Type} {post : Option Nat → S → Prop} {px : SX → Prop} {B : S → State → Prop} {BX : String → SX → State → Prop} {AX : Nat → Prop} (hr : vx_Run p l e R s m args below meth c H locs cells slots mc ms (F0 m pc ls st0) rest (va_Qq post B A1 a) (vx_X px BX AX) free) (hS : va_S A0 H0 H locs) (hA : ∀ q, q < H.size → A1 q → A0 q) (hf : ∀ q, free q → A0 q) (hAX : ∀ q, q < H.size → AX q → A0 q)
    (kx : ∀ (E : String) (ce : Cell) (q9 : Addr) (u : SX) (t : State) (H1 : Heap) (locs1 : List Loc), t.heap = H1 → s.vm.Alike t.vm → px u → BX E u t → H.size ≤ H1.size → (∀ q : Nat, q < H.size → ¬ AX q → H1[q]? = H[q]?) → va_S A0 H0 H1 locs1 → H1[q9]? = some ce → ce.vm = .none → s.vm.findClass E = some ce.cls → vx_W p l e R s m args below meth c H1 locs1 (cells + mc) (slots + ms) Q (F0 m pc ls rest) q9)
    (kk : ∀ (r : Option Nat) (u : S) (t : State) (H1 : Heap) (locs1 : List Loc), t.heap = H1 → s.vm.Alike t.vm → post r u → B u t → H.size ≤ H1.size → (∀ q : Nat, q < H.size → ¬ A1 q → H1[q]? = H[q]?) → va_S A0 H0 H1 locs1 → W p l e R s m args below meth c H1 locs1 (cells + mc) (slots + ms) Q (F0 m (pc + 3) ls (va_rf r :: rest))) : W p l e R s m args below meth c H locs cells slots Q (F0 m pc ls st0) := by
  intro T hT X
  rcases hr T hT X with ⟨v, st₀, t, T', L, h0, X', hL, e1, e2, ⟨⟨r, u, hv, hp, hb⟩, hF⟩, st⟩ | ⟨q, st₀, t, T', L, E, ce, h0, X', hL, e1, e2, ⟨u, hp, hb, hF⟩, hce, hcv, hcl, st⟩
  · cases hv
    obtain ⟨k1, k2, k3⟩ := vx_keep h0 e1 hS hA hf hL hF
    obtain ⟨t2, a1, b1⟩ := kk r u t T'.heap (locs ++ L) e1.symm (by rw [← e2]; exact X'.warmed.alike) hp hb k1 k2 k3 T' rfl X'
    exact ⟨t2, st t2 a1, b1⟩
  · obtain ⟨k1, k2, k3⟩ := vx_keep h0 e1 hS hAX hf hL hF
    obtain ⟨t2, a1, b1⟩ := kx E ce q u t T'.heap (locs ++ L) e1.symm (by rw [← e2]; exact X'.warmed.alike) hp hb k1 k2 k3 (by rw [e1]; exact hce) hcv hcl T' rfl X'
    exact ⟨t2, st.trans a1, b1⟩
end VXQ
