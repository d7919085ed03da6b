-- a method of the reference, in the form of the class's
theorem mI_uI {T : ST} {y : MethodName} {cw : Cond} {v : Nat} {av : List Value} {f : FT} {g : GT} {Post : Int32 → FT → GT → Prop} (h : mI T y cw v av f g Post) : uI T y cw v 0 0 av (mw T.2.2.2.1 T.2.2.2.2 f g) (fun r u => ∃ f' g', Post r f' g' ∧ u = mw T.2.2.2.1 T.2.2.2.2 f' g') := by
  obtain ⟨l, dC, dI, k, a⟩ := T
  intro sz
  refine MetFree.imp (h sz) ?_
  rintro q s o t ⟨⟨⟨r, u, h1, h2, h3⟩, h4⟩, h5⟩
  exact ⟨⟨⟨r, mw k a u.1 u.2, h1, ⟨u.1, u.2, h2, rfl⟩, h3⟩, h4⟩, h5⟩
theorem d_TRinit (T : ST) (q : Nat) (Post : va_W → Prop) (hq : ∀ w8 w16 w25, Post [(w25, .inl (T.2.2.2.1 4, 10, .inr (.inr (.inr (.inr (fun _ => none)))))), (w16, .inl (T.2.2.2.1 3, 61, .inr (.inr (.inr (.inr (fun _ => none)))))), (w8, .inl (T.2.2.2.1 0, 400, .inl (fun _ => 0))), (q, .inr (1, [.ref w8, .ref w16, .ref w25, .int 0, .int 0]))]) : uV T y_TR_init (Cond.code y_TR_init b_TR_init 1 none) 0 3 471 [.ref q] [(q, .inr (1, [.null, .null, .null, .int 0, .int 0]))] Post := by
  refine e_TR_init T Post q ?_
  rintro C rfl X
  exact k_TR_init_0 X Post q 0 0 ⟨by decide, by decide⟩ (fun _ => ⟨by decide, by decide⟩) (fun _ _ => ⟨by decide, by decide⟩) (fun _ _ _ => ⟨by decide, by decide⟩) hq
theorem d_Cainit (T : ST) (q : Nat) (Post : va_W → Prop) (hq : ∀ w7 w15, Post [(w15, .inl (T.2.2.2.1 0, 61, .inl (fun _ => 0))), (w7, .inl (T.2.2.2.1 0, 40, .inl (fun _ => 0))), (q, .inr (2, [.ref w7, .ref w15, .int 0, .int 0, .int 0, .int 0]))]) : uV T y_Ca_init (Cond.code y_Ca_init b_Ca_init 1 none) 0 2 101 [.ref q] [(q, .inr (2, [.null, .null, .int 0, .int 0, .int 0, .int 0]))] Post := by
  refine e_Ca_init T Post q ?_
  rintro C rfl X
  exact k_Ca_init_0 X Post q 0 0 ⟨by decide, by decide⟩ (fun _ => ⟨by decide, by decide⟩) (fun _ _ => ⟨by decide, by decide⟩) hq
-- the addresses of a new object's parts
def adr (q tr t1 t2 t3 ea ca c1 c2 : Nat) (a : Nat → Nat) : Nat → Nat := fun i => if i = 20 then tr else if i = 21 then t1 else if i = 22 then t2 else if i = 23 then t3 else if i = 24 then q else if i = 25 then ea else if i = 26 then ca else if i = 27 then c1 else if i = 28 then c2 else a i
def newQ (k : Nat → ClassId) (a : Nat → Nat) (q : Nat) (u : va_W) : Prop := ∃ tr t1 t2 t3 ea ca c1 c2 ed e1 e2, u.Perm (s_q k (adr q tr t1 t2 t3 ea ca c1 c2 a) (fun j => if j = 0 then 0 else -1) (fun _ => va_up (fun _ => none) 0 (some ed)) ed ++ (s_t k (adr q tr t1 t2 t3 ea ca c1 c2 a) (tsX 0 0) (fun _ _ => 0) ++ (s_r k (adr q tr t1 t2 t3 ea ca c1 c2 a) (fun _ _ => none) ++ (s_c k (adr q tr t1 t2 t3 ea ca c1 c2 a) (fun _ => 0) (fun _ _ => 0) ++ [(e2, .inl (k 4, 10, .inr (.inr (.inr (.inr (fun _ => none)))))), (e1, .inl (k 3, 61, .inr (.inr (.inr (.inr (fun _ => none)))))), (ed, .inr (3, [.ref e1, .ref e2, .int 0, .long 0, .long 0, .long 0]))]))))
theorem d_Qinit (T : ST) (q : Nat) : uV T y_Q_init (Cond.code y_Q_init b_Q_init 1 none) 1 11 669 [.ref q] [(q, .inr (0, [.null, .null, .null, .null, .int 0, .int 0]))] (newQ T.2.2.2.1 T.2.2.2.2 q) := by
  refine e_Q_init T _ [] q 0 0 0 0 0 0 0 0 0 ?_
  rintro C rfl X
  refine k_Q_init_0 X _ (P_9 := fun w u => ∃ t1 t2 t3, u = [(t3, .inl (C.1.2.2.2.1 4, 10, .inr (.inr (.inr (.inr (fun _ => none)))))), (t2, .inl (C.1.2.2.2.1 3, 61, .inr (.inr (.inr (.inr (fun _ => none)))))), (t1, .inl (C.1.2.2.2.1 0, 400, .inl (fun _ => 0))), (w, .inr (1, [.ref t1, .ref t2, .ref t3, .int 0, .int 0]))]) [] q 0 0 0 0 0 0 0 0 0 0 0 ⟨by decide, by decide⟩ (fun _ => ⟨by decide, by decide⟩) (fun w => d_TRinit _ w _ (fun t1 t2 t3 => ⟨t1, t2, t3, rfl⟩)) ?_
  rintro tr u ⟨t1, t2, t3, rfl⟩
  refine zW_perm (zp3 _ _ _) ?_
  refine k_Q_init_12 X _ (P_29 := fun _ w u => ∃ c1 c2, u = [(c2, .inl (C.1.2.2.2.1 0, 61, .inl (fun _ => 0))), (c1, .inl (C.1.2.2.2.1 0, 40, .inl (fun _ => 0))), (w, .inr (2, [.ref c1, .ref c2, .int 0, .int 0, .int 0, .int 0]))]) tr _ q 0 0 0 0 0 0 0 0 0 _ _ ⟨by decide, by decide⟩ (fun _ => ⟨by decide, by decide⟩) (fun _ _ => ⟨by decide, by decide⟩) (fun _ w => d_Cainit _ w _ (fun c1 c2 => ⟨c1, c2, rfl⟩)) ?_
  rintro ea ca u ⟨c1, c2, rfl⟩
  refine zW_perm (zp3 _ _ _) ?_
  refine k_Q_init_32 X _ (P_40 := fun w u => ∃ e1 e2, u = [(e2, .inl (C.1.2.2.2.1 4, 10, .inr (.inr (.inr (.inr (fun _ => none)))))), (e1, .inl (C.1.2.2.2.1 3, 61, .inr (.inr (.inr (.inr (fun _ => none)))))), (w, .inr (3, [.ref e1, .ref e2, .int 0, .long 0, .long 0, .long 0]))]) ca _ q tr ea 0 0 0 0 0 0 0 _ _ ⟨by decide, by decide⟩ (fun _ => ⟨by decide, by decide⟩) (fun w => d_Edinit _ w _ (fun e1 e2 => ⟨e1, e2, rfl⟩)) ?_
  rintro ed u ⟨e1, e2, rfl⟩
  refine zW_perm (zp3 _ _ _) ?_
  refine k_Q_init_43 X _ ed _ q tr ea ca e1 e2 0 0 0 0 2 _ _ rfl (by unfold vp_in; decide) ⟨by decide, by decide⟩ ?_
  refine ⟨tr, t1, t2, t3, ea, ca, c1, c2, ed, e1, e2, ?_⟩
  have h : [0, 1, 2, 3, 4, 5, 6, 7, 8, 9, 10, 11].Perm [1, 0, 11, 10, 9, 8, 7, 6, 5, 2, 3, 4] := by decide
  exact h.map (fun i => ([(ea, .inl (C.1.2.2.2.1 5, 9, .inr (.inr (.inr (.inr (va_up (fun _ => none) 0 (some ed))))))), (q, .inr (0, [.ref tr, .ref ea, .ref ca, .ref ed, .int 0, .int (-1)])), (e2, .inl (C.1.2.2.2.1 4, 10, .inr (.inr (.inr (.inr (fun _ => none)))))), (e1, .inl (C.1.2.2.2.1 3, 61, .inr (.inr (.inr (.inr (fun _ => none)))))), (ed, .inr (3, [.ref e1, .ref e2, .int 0, .long 0, .long 0, .long 0])), (c2, .inl (C.1.2.2.2.1 0, 61, .inl (fun _ => 0))), (c1, .inl (C.1.2.2.2.1 0, 40, .inl (fun _ => 0))), (ca, .inr (2, [.ref c1, .ref c2, .int 0, .int 0, .int 0, .int 0])), (t3, .inl (C.1.2.2.2.1 4, 10, .inr (.inr (.inr (.inr (fun _ => none)))))), (t2, .inl (C.1.2.2.2.1 3, 61, .inr (.inr (.inr (.inr (fun _ => none)))))), (t1, .inl (C.1.2.2.2.1 0, 400, .inl (fun _ => 0))), (tr, .inr (1, [.ref t1, .ref t2, .ref t3, .int 0, .int 0]))] : va_W).getD i (0, .inr (0, [])))
-- the reference's new object
def f0M : FT := fun j => if j = 2 then -1 else 0
def adm (x0 x1 x2 x3 x4 x5 x6 x7 x8 x9 x10 x11 x12 x13 x14 x15 x16 x17 x18 : Nat) (a : Nat → Nat) : Nat → Nat := fun i => if i < 19 then ([x0, x1, x2, x3, x4, x5, x6, x7, x8, x9, x10, x11, x12, x13, x14, x15, x16, x17, x18] : List Nat).getD i 0 else a i
theorem TI0 : TI (0, 0, 0, fun _ _ => 0) 0 f0M (fun _ _ => 0) := by
  have z : ∀ N, Bd N (0 : Int32) := Bd_0
  exact ⟨⟨nI_0.symm, rfl, rfl, rfl, fun _ _ => rfl⟩, by decide, z 8, z 8, z 9, ⟨z 60, rfl, rfl, rfl, rfl, rfl⟩, z 40, fun _ => z 12, fun _ => z 6, fun _ _ => z 60, fun _ => z 60, fun _ => z 6, fun _ => ⟨fun _ => z 4, fun _ => z 60⟩, fun _ => Or.inl rfl⟩
theorem d_Moinit (T : ST) (q : Nat) : uV T y_Mo_init (Cond.code y_Mo_init b_Mo_init 1 none) 0 18 42883 [.ref q] [(q, .inr (4, [.int 0, .int 0, .null, .int 0, .int 0, .int 0, .null, .null, .null, .null, .null, .null, .null, .null, .null, .null, .null, .null, .int 0, .int 0, .int 0, .int 0, .null, .null, .int 0, .int 0, .int 0, .int 0, .null, .null, .null]))] (fun u => ∃ x1 x2 x3 x4 x5 x6 x7 x8 x9 x10 x11 x12 x13 x14 x15 x16 x17 x18, u.Perm (mw T.2.2.2.1 (adm q x1 x2 x3 x4 x5 x6 x7 x8 x9 x10 x11 x12 x13 x14 x15 x16 x17 x18 T.2.2.2.2) f0M (fun _ _ => 0))) := by
  refine e_Mo_init T _ q ?_
  rintro C rfl X
  exact k_Mo_init_0 X _ q 0 0 ⟨by decide, by decide⟩ (by intros; exact ⟨by decide, by decide⟩) (by intros; exact ⟨by decide, by decide⟩) (by intros; exact ⟨by decide, by decide⟩) (by intros; exact ⟨by decide, by decide⟩) (by intros; exact ⟨by decide, by decide⟩) (by intros; exact ⟨by decide, by decide⟩) (by intros; exact ⟨by decide, by decide⟩) (by intros; exact ⟨by decide, by decide⟩) (by intros; exact ⟨by decide, by decide⟩) (by intros; exact ⟨by decide, by decide⟩) (by intros; exact ⟨by decide, by decide⟩) (by intros; exact ⟨by decide, by decide⟩) (by intros; exact ⟨by decide, by decide⟩) (by intros; exact ⟨by decide, by decide⟩) (by intros; exact ⟨by decide, by decide⟩) (by intros; exact ⟨by decide, by decide⟩) (by intros; exact ⟨by decide, by decide⟩) (by intros; exact ⟨by decide, by decide⟩) (fun x1 x2 x3 x4 x5 x6 x7 x8 x9 x10 x11 x12 x13 x14 x15 x16 x17 x18 => ⟨x1, x2, x3, x4, x5, x6, x7, x8, x9, x10, x11, x12, x13, x14, x15, x16, x17, x18, (List.reverse_perm _).symm⟩)
