-- contracts: what each method asks and gives
def z_rm (v mc ms : Nat) : Room := { frames := 8 + 2 * v, cells := mc, slots := ms, locals := 100 + 64 * v }
def z_Pc (dC : Nat → ClassId) (dI : Nat → Nat → Nat) (k : Nat → ClassId) (sz : Nat) (av : List Value) (ws : va_W) : Array Value → State → Prop := va_Pc av (fun U => U.heap.size = sz ∧ z_E (va_A ws sz) U ∧ va_P (dC, dI) classes ws U.heap ∧ va_K (dC, dI) classes (z_ty k) U ∧ va_D (fun _ => True) ws)
def z_B (dC : Nat → ClassId) (dI : Nat → Nat → Nat) (k : Nat → ClassId) (A : Nat → Prop) (ws : va_W) (t : State) : Prop := va_P (dC, dI) classes ws t.heap ∧ va_K (dC, dI) classes (z_ty k) t ∧ va_D A ws
theorem z_blind {dC : Nat → ClassId} {dI : Nat → Nat → Nat} {k : Nat → ClassId} {sz : Nat} {av : List Value} {ws : va_W} : FrameBlind (z_Pc dC dI k sz av ws) := by
  intro a U g mk q
  obtain ⟨q0, q1, qE, qP, qK, qD⟩ := q
  exact ⟨q0, q1, qE.blind, qP, va_K.moved (u := U) (U := U.calling g mk a) (Vm.Alike.refl U.vm) qK, qD⟩
theorem az_int : Cond.arrayClass .int ∈ z_T := z_in (z_mem 109 (by decide +kernel)) rfl
theorem az_long : Cond.arrayClass .long ∈ z_T := z_in (z_mem 875 (by decide +kernel)) rfl
theorem az_boolean : Cond.arrayClass .boolean ∈ z_T := z_in (z_mem 1107 (by decide +kernel)) rfl
theorem in_Obj : Cond.instanceMethod objectInit ∈ z_T := z_in (z_mem 78 (by decide +kernel)) rfl
theorem m_Obj : Cond.code objectInit ⟨#[0xb1]⟩ 1 none ∈ z_T := z_in (z_mem 79 (by decide +kernel)) rfl
-- the reference: its state is f (int fields) and g (arrays): f 0 thrown, 1 taped, 2 place, 3 editions, 4 chosen, 5 at, 6 wrong, 7 digits, 8 into, 9 kind, 10 now, 11 points, 12 many, g 0 tape, 1 is, 2 must, 3 low, 4 high, 5 length, 6 letter, 7 jumps, 8 jump, 9 begins, 10 base, 11 conditions, 12 condition, 13 toldQuestion, 14 toldKind, 15 asked, 16 answer, 17 mark,
def mw (k : Nat → ClassId) (a : Nat → Nat) (f : Nat → Int32) (g : Nat → Nat → Int32) : va_W := [(a 0, .inr (4, [.int (f 0), .int (f 1), .ref (a 1), .int (f 2), .int (f 3), .int (f 4), .ref (a 2), .ref (a 3), .ref (a 4), .ref (a 5), .ref (a 6), .ref (a 7), .ref (a 8), .ref (a 9), .ref (a 10), .ref (a 11), .ref (a 12), .ref (a 13), .int (f 5), .int (f 6), .int (f 7), .int (f 8), .ref (a 14), .ref (a 15), .int (f 9), .int (f 10), .int (f 11), .int (f 12), .ref (a 16), .ref (a 17), .ref (a 18)])), (a 1, .inl (k 0, 400, .inl (g 0))), (a 2, .inl (k 2, 610, .inl (g 1))), (a 3, .inl (k 2, 610, .inl (g 2))), (a 4, .inl (k 0, 610, .inl (g 3))), (a 5, .inl (k 0, 610, .inl (g 4))), (a 6, .inl (k 0, 1220, .inl (g 5))), (a 7, .inl (k 0, 14640, .inl (g 6))), (a 8, .inl (k 0, 610, .inl (g 7))), (a 9, .inl (k 0, 14640, .inl (g 8))), (a 10, .inl (k 0, 100, .inl (g 9))), (a 11, .inl (k 0, 100, .inl (g 10))), (a 12, .inl (k 0, 100, .inl (g 11))), (a 13, .inl (k 0, 8400, .inl (g 12))), (a 14, .inl (k 2, 61, .inl (g 13))), (a 15, .inl (k 2, 10, .inl (g 14))), (a 16, .inl (k 0, 40, .inl (g 15))), (a 17, .inl (k 0, 61, .inl (g 16))), (a 18, .inl (k 2, 61, .inl (g 17)))]
abbrev ST : Type := Launch × (Nat → ClassId) × (Nat → Nat → Nat) × (Nat → ClassId) × (Nat → Nat)
abbrev CT : Type := ST × Program × Env × State × MethodId × Array Value × List Frame × Method × Code × (Nat → Prop)
abbrev SM : Type := (Nat → Int32) × (Nat → Nat → Int32)
abbrev FT : Type := Nat → Int32
abbrev GT : Type := Nat → Nat → Int32
abbrev ad (T : ST) (j : Nat) : Nat := T.2.2.2.2 j
abbrev mM (T : ST) (f : FT) (g : GT) : va_W := mw T.2.2.2.1 T.2.2.2.2 f g
-- the machine at a place of a method, whatever heap holds the world ws
def zW (C : CT) (R : Room) (nL : Nat) (Q : State → Prop) (cells slots pc : Nat) (loc : List (Nat × Value)) (st : List Value) (ws : va_W) : Prop := match C with
  | ((l, dC, dI, _, _), p, e, s, m, args, below, meth, c, A) => ∀ (H : Heap) (locs : List Loc) (ls : Array Slot), lv_has ls nL loc → va_P (dC, dI) classes ws H → va_D A ws → va_S A s.heap H locs → W p l e R s m args below meth c H locs cells slots Q (F0 m pc ls st)
-- what stays true in a method's body
def cM (C : CT) (own : String) (b : ByteArray) (nL : Nat) (ret : Option FieldType) : Prop := match C with
  | ((_, dC, dI, k, _), p, _, s, m, args, _, meth, c, A) => p.tables.exec = Jvm.exec ∧ c.code = b ∧ meth.sig.returnType = ret ∧ (∀ w ∈ z_T, w.before args s = true) ∧ s.vm.findClass own = some m.cls ∧ meth.locks = false ∧ c.maxLocals = nL ∧ z_E A s ∧ va_K (dC, dI) classes (z_ty k) s ∧ (∀ q : Nat, s.heap.size ≤ q → A q)
def qI (C : CT) (Post : Int32 → FT → GT → Prop) : State → Prop := match C with
  | ((_, dC, dI, k, a), _, _, s, _, args, below, _, _, A) => MQ below (va_Qi (fun (r : Int32) (u : SM) => Post r u.1 u.2) (fun (u : SM) t => z_B dC dI k A (mw k a u.1 u.2) t) A) args s 0 0 A
def qV (C : CT) (Post : FT → GT → Prop) : State → Prop := match C with
  | ((_, dC, dI, k, a), _, _, s, _, args, below, _, _, A) => MQ below (va_Qv (fun (u : SM) => Post u.1 u.2) (fun (u : SM) t => z_B dC dI k A (mw k a u.1 u.2) t) A) args s 0 0 A
-- a method of the reference, from the state f, g
def mI (T : ST) (y : MethodName) (cw : Cond) (v : Nat) (av : List Value) (f : FT) (g : GT) (Post : Int32 → FT → GT → Prop) : Prop := match T with
  | (l, dC, dI, k, a) => ∀ sz : Nat, Met l y (cw :: z_T) (z_rm v 0 0) (z_Pc dC dI k sz av (mw k a f g)) (va_Qi (fun (r : Int32) (u : SM) => Post r u.1 u.2) (fun (u : SM) t => z_B dC dI k (va_A (mw k a f g) sz) (mw k a u.1 u.2) t) (va_A (mw k a f g) sz)) 0 0 (va_A (mw k a f g) sz)
def mV (T : ST) (y : MethodName) (cw : Cond) (v : Nat) (av : List Value) (f : FT) (g : GT) (Post : FT → GT → Prop) : Prop := match T with
  | (l, dC, dI, k, a) => ∀ sz : Nat, Met l y (cw :: z_T) (z_rm v 0 0) (z_Pc dC dI k sz av (mw k a f g)) (va_Qv (fun (u : SM) => Post u.1 u.2) (fun (u : SM) t => z_B dC dI k (va_A (mw k a f g) sz) (mw k a u.1 u.2) t) (va_A (mw k a f g) sz)) 0 0 (va_A (mw k a f g) sz)
