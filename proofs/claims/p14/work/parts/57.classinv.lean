-- the object of the class: what stays true of it
def isEdn (k : Nat → ClassId) (P : va_W) (e : Nat) : Prop := ∃ (qa ka : Nat) (es : Int32) (e1 e2 e3 : Int64) (fq fk : Nat → Option Nat), (e, (.inr (3, [.ref qa, .ref ka, .int es, .long e1, .long e2, .long e3]) : va_E)) ∈ P ∧ (qa, (.inl (k 3, 61, .inr (.inr (.inr (.inr fq)))) : va_E)) ∈ P ∧ (ka, (.inl (k 4, 10, .inr (.inr (.inr (.inr fk)))) : va_E)) ∈ P ∧ allQ k P fq ∧ allK k P fk
theorem isEdn.mono {k : Nat → ClassId} {P P' : va_W} {e : Nat} (h : isEdn k P e) (hs : Sub P P') : isEdn k P' e := by
  obtain ⟨qa, ka, es, e1, e2, e3, fq, fk, h1, h2, h3, h4, h5⟩ := h
  exact ⟨qa, ka, es, e1, e2, e3, fq, fk, hs _ h1, hs _ h2, hs _ h3, h4.mono hs, h5.mono hs⟩
def EE (k : Nat → ClassId) (P : va_W) (fq fk : Nat → Option Nat) (R : RD) : Prop := (∀ j, 1 ≤ j → j < 61 → (fq j = none ∧ R.1 j = none) ∨ ∃ a d, fq j = some a ∧ R.1 j = some d ∧ eQu k P a d) ∧ (∀ j, 1 ≤ j → j < 10 → (fk j = none ∧ R.2 j = none) ∨ ∃ a d, fk j = some a ∧ R.2 j = some d ∧ eKi k P a d)
theorem EE.mono {k : Nat → ClassId} {P P' : va_W} {fq fk : Nat → Option Nat} {R : RD} (h : EE k P fq fk R) (hs : Sub P P') : EE k P' fq fk R := by
  refine ⟨fun j h1 hj => ?_, fun j h1 hj => ?_⟩
  · rcases h.1 j h1 hj with q | ⟨a, d, q1, q2, q3⟩
    · exact Or.inl q
    · exact Or.inr ⟨a, d, q1, q2, q3.mono hs⟩
  · rcases h.2 j h1 hj with q | ⟨a, d, q1, q2, q3⟩
    · exact Or.inl q
    · exact Or.inr ⟨a, d, q1, q2, q3.mono hs⟩
def eEdn (k : Nat → ClassId) (P : va_W) (e : Nat) (R : RD) : Prop := ∃ (qa ka : Nat) (es : Int32) (e1 e2 e3 : Int64) (fq fk : Nat → Option Nat), (e, (.inr (3, [.ref qa, .ref ka, .int es, .long e1, .long e2, .long e3]) : va_E)) ∈ P ∧ (qa, (.inl (k 3, 61, .inr (.inr (.inr (.inr fq)))) : va_E)) ∈ P ∧ (ka, (.inl (k 4, 10, .inr (.inr (.inr (.inr fk)))) : va_E)) ∈ P ∧ allQ k P fq ∧ allK k P fk ∧ EE k P fq fk R ∧ es = szL R.1 60 1 0 ∧ BE R e1 e2 e3
theorem eEdn.is {k : Nat → ClassId} {P : va_W} {e : Nat} {R : RD} (h : eEdn k P e R) : isEdn k P e := by
  obtain ⟨qa, ka, es, e1, e2, e3, fq, fk, h1, h2, h3, h4, h5, -⟩ := h
  exact ⟨qa, ka, es, e1, e2, e3, fq, fk, h1, h2, h3, h4, h5⟩
theorem eEdn.mono {k : Nat → ClassId} {P P' : va_W} {e : Nat} {R : RD} (h : eEdn k P e R) (hs : Sub P P') : eEdn k P' e R := by
  obtain ⟨qa, ka, es, e1, e2, e3, fq, fk, h1, h2, h3, h4, h5, h6⟩ := h
  exact ⟨qa, ka, es, e1, e2, e3, fq, fk, hs _ h1, hs _ h2, hs _ h3, h4.mono hs, h5.mono hs, h6.1.mono hs, h6.2⟩
-- what the class holds: its editions, how many, the chosen one, the call's kind, the tape
-- the call: its kind, how many were asked, the question asked now, the points, the questions asked, the latest answers
abbrev KC : Type := Int32 × Nat × Int32 × Int32 × (Nat → Int32) × (Nat → Int32)
def k00 : KC := (0, 0, 0, 0, fun _ => 0, fun _ => 0)
def KS (fc : FT) (gc : GT) (K : KC) : Prop := fc 3 = K.1 ∧ fc 0 = nI K.2.1 ∧ fc 1 = K.2.2.1 ∧ K.2.1 ≤ 40 ∧ (¬ K.1 = 0 → fc 2 = K.2.2.2.1 ∧ (∀ j, j < K.2.1 → gc 0 j = K.2.2.2.2.1 j) ∧ ∀ q, 1 ≤ q → q < 61 → gc 1 q = K.2.2.2.2.2 q)
theorem KS_00 {fc : FT} {gc : GT} (h3 : fc 3 = 0) (h0 : fc 0 = 0) (h1 : fc 1 = 0) : KS fc gc k00 := ⟨h3, h0.trans nI_0.symm, h1, by decide, fun n => absurd rfl n⟩
def kFs (v n : Int32) : KC := (v, if n = 0 then 0 else 1, n, 0, fun _ => n, fun _ => -1)
def kAn (K : KC) (v n p : Int32) : KC := (K.1, if n = 0 then K.2.1 else K.2.1 + 1, n, K.2.2.2.1 + p, if n = 0 then K.2.2.2.2.1 else upd K.2.2.2.2.1 K.2.1 n, upd K.2.2.2.2.2 K.2.2.1.toNatClampNeg v)
abbrev ES : Type := (Nat → RD) × Nat × Nat × KC × (Nat → Int32)
def CS (S : ES) (k : Nat → ClassId) (f : FT) (r : Nat → Nat → Option Nat) (c : Nat) (g : GT) (fc : FT) (gc : GT) (P : va_W) : Prop := f 0 = nI S.2.1 ∧ (∀ j, j ≤ S.2.1 → ∃ e, r 0 j = some e ∧ eEdn k P e (S.1 j)) ∧ S.2.2.1 ≤ S.2.1 ∧ r 0 S.2.2.1 = some c ∧ KS fc gc S.2.2.2.1 ∧ g 0 = S.2.2.2.2
theorem CS.ch {S : ES} {k : Nat → ClassId} {f : FT} {r : Nat → Nat → Option Nat} {c : Nat} {g : GT} {fc : FT} {gc : GT} {P : va_W} (h : CS S k f r c g fc gc P) : eEdn k P c (S.1 S.2.2.1) := by
  obtain ⟨e, h1, h2⟩ := h.2.1 _ h.2.2.1
  rw [h.2.2.2.1] at h1
  cases h1
  exact h2
abbrev WX (T : ST) (f : FT) (r : Nat → Nat → Option Nat) (c L : Nat) (x : Int32) (g : GT) (rr : Nat → Nat → Option Nat) (fc : FT) (gc : GT) (P : va_W) : va_W := s_q T.2.2.2.1 T.2.2.2.2 f r c ++ (TX T L x g ++ (RX T rr ++ (CX T fc gc ++ P)))
def CF (S : ES) (k : Nat → ClassId) (L : Nat) (f : FT) (r : Nat → Nat → Option Nat) (c : Nat) (g : GT) (rr : Nat → Nat → Option Nat) (fc : FT) (gc : GT) (P : va_W) : Prop := L ≤ 400 ∧ (∃ m, f 0 = nI m ∧ m ≤ 8 ∧ ∀ j, j ≤ m → ∃ e, r 0 j = some e ∧ isEdn k P e) ∧ isEdn k P c ∧ RI k rr P ∧ Bd 40 (fc 0) ∧ CS S k f r c g fc gc P
def CW (S : ES) (T : ST) (L : Nat) (u : va_W) : Prop := ∃ f r c x g rr fc gc P, u.Perm (WX T f r c L x g rr fc gc P) ∧ CF S T.2.2.2.1 L f r c g rr fc gc P
theorem CW.of {S : ES} {T : ST} {L : Nat} {f : FT} {r : Nat → Nat → Option Nat} {c : Nat} {x : Int32} {g : GT} {rr : Nat → Nat → Option Nat} {fc : FT} {gc : GT} {P : va_W} (h : CF S T.2.2.2.1 L f r c g rr fc gc P) : CW S T L (WX T f r c L x g rr fc gc P) := ⟨f, r, c, x, g, rr, fc, gc, P, List.Perm.refl _, h⟩
theorem CF.m8 {S : ES} {k : Nat → ClassId} {L : Nat} {f : FT} {r : Nat → Nat → Option Nat} {c : Nat} {g : GT} {rr : Nat → Nat → Option Nat} {fc : FT} {gc : GT} {P : va_W} (h : CF S k L f r c g rr fc gc P) (hb : S.2.1 < 100) : S.2.1 ≤ 8 := by
  obtain ⟨m, h1, h2, -⟩ := h.2.1
  have h3 := h.2.2.2.2.2.1
  rw [h1, nI_eq (by omega) (by omega)] at h3
  omega
theorem subW {Q X R K P : va_W} : Sub P (Q ++ (X ++ (R ++ (K ++ P)))) := fun _ h => List.mem_append_right _ (List.mem_append_right _ (List.mem_append_right _ (List.mem_append_right _ h)))
theorem wp1 (Q X R K P : va_W) : ((Q ++ (X ++ R)) ++ (K ++ P)).Perm (Q ++ (X ++ (R ++ (K ++ P)))) := by rw [List.append_assoc, List.append_assoc]
theorem wp2 (Q X R K P : va_W) : ((Q ++ K) ++ (X ++ (R ++ P))).Perm (Q ++ (X ++ (R ++ (K ++ P)))) := by
  rw [List.append_assoc]; exact (zp_ins X R K P).append_left Q
theorem wp3 (Q X R K P : va_W) : ((Q ++ (X ++ (R ++ K))) ++ P).Perm (Q ++ (X ++ (R ++ (K ++ P)))) := by rw [List.append_assoc, List.append_assoc, List.append_assoc]
theorem d_memberOf (T : ST) (x0 : Int64) (x2 : Int32) (Post : Int32 → va_W → Prop) (hq : ∀ y, Post y []) : uI T y_Q_memberOf (Cond.code y_Q_memberOf b_Q_memberOf 5 (some .int)) 1 0 0 [.long x0, .int x2] [] Post := by
  refine e_Q_memberOf T Post x0 x2 ?_
  rintro C rfl X
  have loop : ∀ k c x3, k + c = 61 → zc_Q_memberOf C Post 0 0 5 [(0, .long x0), (2, .int x2), (3, .int x3), (4, .int (nI c))] [] [] := by
    intro k
    induction k with
    | zero =>
      intro c x3 hk
      have z : (60 : Int32) < nI c := (nI_ltI (a := 60) (b := c) (by decide) (by omega)).mpr (by omega)
      exact k_Q_memberOf_5 X Post (P_15 := fun _ _ => True) x0 x2 x3 (nI c) 0 0 (fun _ => ⟨by decide, by decide⟩) (fun _ => hq 0) (fun n => absurd z n) (fun n => absurd z n) (fun n => absurd z n)
    | succ k ih =>
      intro c x3 hk
      have z : ¬ (60 : Int32) < nI c := fun n => absurd ((nI_ltI (a := 60) (b := c) (by decide) (by omega)).mp n) (by omega)
      have s32 : ∀ x3, zc_Q_memberOf C Post 0 0 32 [(0, .long x0), (2, .int x2), (3, .int x3), (4, .int (nI c))] [] [] := by
        intro x3
        refine k_Q_memberOf_32 X Post x0 x2 x3 (nI c) 0 0 ?_
        rw [nI_1]; exact ih (c + 1) x3 (by omega)
      refine k_Q_memberOf_5 X Post (P_15 := fun _ _ => True) x0 x2 x3 (nI c) 0 0 (fun n => absurd n z) (fun n => absurd n z) (fun _ => ⟨by decide, by decide⟩) (fun _ => d_hasMember _ _ _ _ (fun _ _ => trivial)) (fun _ y u _ => ?_)
      exact k_Q_memberOf_18 X Post x0 x2 x3 (nI c) y 0 0 (fun _ => s32 _) (fun _ _ => s32 _) (fun _ _ => ⟨by decide, by decide⟩) (fun _ _ => hq _)
  exact k_Q_memberOf_0 X Post x0 x2 0 0 (loop 60 1 0 rfl)
theorem d_place (T : ST) (S : ES) (f : FT) (r : Nat → Nat → Option Nat) (c L : Nat) (x : Int32) (g : GT) (rr : Nat → Nat → Option Nat) (fc : FT) (gc : GT) (P : va_W) (h : CF S T.2.2.2.1 L f r c g rr fc gc P) : uI T y_Q_place (Cond.code y_Q_place b_Q_place 1 (some .int)) 0 0 0 [.ref (ad T 24)] (WX T f r c L x g rr fc gc P) (fun _ u => CW S T L u) := by
  refine e_Q_place T _ f r c (tsX L x) g rr fc gc P ?_
  rintro C rfl X
  exact k_Q_place_0 X _ f r c (tsX L x) g rr fc gc P 0 0 ⟨by decide, by decide⟩ (CW.of h)
theorem d_kind (T : ST) (S : ES) (f : FT) (r : Nat → Nat → Option Nat) (c L : Nat) (x : Int32) (g : GT) (rr : Nat → Nat → Option Nat) (fc : FT) (gc : GT) (P : va_W) (h : CF S T.2.2.2.1 L f r c g rr fc gc P) : uI T y_Q_kind (Cond.code y_Q_kind b_Q_kind 1 (some .int)) 0 0 0 [.ref (ad T 24)] (WX T f r c L x g rr fc gc P) (fun y u => y = S.2.2.2.1.1 ∧ CW S T L u) := by
  refine e_Q_kind T _ f r c (tsX L x) g rr fc gc P ?_
  rintro C rfl X
  exact k_Q_kind_0 X _ f r c (tsX L x) g rr fc gc P 0 0 ⟨by decide, by decide⟩ ⟨h.2.2.2.2.2.2.2.2.2.1.1, CW.of h⟩
theorem d_points (T : ST) (S : ES) (f : FT) (r : Nat → Nat → Option Nat) (c L : Nat) (x : Int32) (g : GT) (rr : Nat → Nat → Option Nat) (fc : FT) (gc : GT) (P : va_W) (h : CF S T.2.2.2.1 L f r c g rr fc gc P) (hlt : T.1.stackTraces = false) : xI T y_Q_points (Cond.code y_Q_points b_Q_points 1 (some .int)) 0 1 6 [.ref (ad T 24)] (WX T f r c L x g rr fc gc P) (fun y u => (¬ S.2.2.2.1.1 = 0 ∧ y = S.2.2.2.1.2.2.2.1) ∧ CW S T L u) (fun E u => (E = ISE ∧ S.2.2.2.1.1 = 0) ∧ CW S T L u) := by
  -- d_points, exactly
  have hks := h.2.2.2.2.2.2.2.2.2.1
  refine e_Q_points T hlt _ _ f r c (tsX L x) g rr fc gc P ?_
  rintro C rfl X
  exact k_Q_points_0 X _ _ f r c (tsX L x) g rr fc gc P 0 0 (fun _ => ⟨by decide, by decide⟩) (fun z => by rw [hks.1] at z; exact ⟨⟨z, (hks.2.2.2.2 z).1⟩, CW.of h⟩) (fun _ => ⟨by decide, by decide⟩) (fun z => by rw [hks.1] at z; exact ⟨⟨rfl, z⟩, CW.of h⟩)
theorem d_asked (T : ST) (S : ES) (f : FT) (r : Nat → Nat → Option Nat) (c L : Nat) (x : Int32) (g : GT) (rr : Nat → Nat → Option Nat) (fc : FT) (gc : GT) (P : va_W) (h : CF S T.2.2.2.1 L f r c g rr fc gc P) (hlt : T.1.stackTraces = false) (v : Int32) : xI T y_Q_asked (Cond.code y_Q_asked b_Q_asked 2 (some .int)) 0 1 6 [.ref (ad T 24), .int v] (WX T f r c L x g rr fc gc P) (fun y u => (0 ≤ v ∧ (nI S.2.2.2.1.2.1 ≤ v → y = 0) ∧ (¬ S.2.2.2.1.1 = 0 → ¬ nI S.2.2.2.1.2.1 ≤ v → y = S.2.2.2.1.2.2.2.2.1 v.toNatClampNeg)) ∧ CW S T L u) (fun E u => (E = IAE ∧ ¬ 0 ≤ v) ∧ CW S T L u) := by
  refine e_Q_asked T hlt _ _ v f r c (tsX L x) g rr fc gc P ?_
  rintro C rfl X
  have hks := h.2.2.2.2.2.2.2.2.2.1
  have s38 : ∀ y, (0 ≤ v ∧ (nI S.2.2.2.1.2.1 ≤ v → y = 0) ∧ (¬ S.2.2.2.1.1 = 0 → ¬ nI S.2.2.2.1.2.1 ≤ v → y = S.2.2.2.1.2.2.2.2.1 v.toNatClampNeg)) → zc_Q_asked C (fun y u => (0 ≤ v ∧ (nI S.2.2.2.1.2.1 ≤ v → y = 0) ∧ (¬ S.2.2.2.1.1 = 0 → ¬ nI S.2.2.2.1.2.1 ≤ v → y = S.2.2.2.1.2.2.2.2.1 v.toNatClampNeg)) ∧ CW S C.1 L u) (fun E u => (E = IAE ∧ ¬ 0 ≤ v) ∧ CW S C.1 L u) 0 0 38 [(0, .ref (ad C.1 24)), (1, .int v)] [.int y] (WX C.1 f r c L x g rr fc gc P) := fun y hy => k_Q_asked_38 X _ _ v y f r c (tsX L x) g rr fc gc P 0 0 ⟨by decide, by decide⟩ ⟨hy, CW.of h⟩
  have lt : ∀ z1 : 0 ≤ v, ∃ j, v = nI j ∧ j < 2 ^ 31 := fun z1 => by
    obtain ⟨j, hj, ej⟩ := nI_of (x := v) (fun n => absurd z1 (by rw [Int32.not_le]; exact n))
    exact ⟨j, ej, hj⟩
  refine k_Q_asked_0 X _ _ v f r c (tsX L x) g rr fc gc P 0 0 (fun z1 z2 => s38 _ ⟨z1, fun _ => rfl, fun _ n => absurd (by rw [← hks.2.1]; exact z2) n⟩) (fun z1 z2 => ?_) (fun z1 z2 => s38 _ ⟨z1, fun n => absurd (by rw [hks.2.1]; exact n) z2, fun hk n => ?_⟩) (fun _ => ⟨by decide, by decide⟩) (fun z => ⟨⟨rfl, z⟩, CW.of h⟩)
  · obtain ⟨m, hm1, hm2⟩ := h.2.2.2.2.1
    obtain ⟨j, rfl, hj⟩ := lt z1
    rw [hm1, nI_leI (by omega) hj] at z2
    exact vi_n (by omega) (by decide)
  · obtain ⟨j, rfl, hj⟩ := lt z1
    rw [nI_leI (by have := hks.2.2.2.1; omega) hj] at n
    exact (hks.2.2.2.2 hk).2.1 _ (by rw [nI_clamp hj]; omega)
theorem zW_D {C : CT} {R : Room} {nL : Nat} {Q : State → Prop} {cells slots pc : Nat} {loc : List (Nat × Value)} {st : List Value} {ws : va_W} (h : (∀ (a : Nat) (e1 e2 : va_E), (a, e1) ∈ ws → (a, e2) ∈ ws → e1 = e2) → zW C R nL Q cells slots pc loc st ws) : zW C R nL Q cells slots pc loc st ws := by
  obtain ⟨⟨l, dC, dI, k, a⟩, p, e, s, m, args, below, meth, c, A⟩ := C
  intro H locs ls hl hP hD hS
  refine h (fun a e1 e2 h1 h2 => ?_) H locs ls hl hP hD hS
  obtain ⟨i, hi⟩ := List.getElem?_of_mem h1
  obtain ⟨j, hj⟩ := List.getElem?_of_mem h2
  have e : i = j := hD.1 i j _ _ hi hj rfl
  subst e
  rw [hi] at hj; cases hj; rfl
theorem d_edition (T : ST) (S : ES) (f : FT) (r : Nat → Nat → Option Nat) (c L : Nat) (x : Int32) (g : GT) (rr : Nat → Nat → Option Nat) (fc : FT) (gc : GT) (P : va_W) (h : CF S T.2.2.2.1 L f r c g rr fc gc P) (hlt : T.1.stackTraces = false) (v : Int32) : xI T y_Q_edition (Cond.code y_Q_edition b_Q_edition 2 (some .int)) 2 1 6 [.ref (ad T 24), .int v] (WX T f r c L x g rr fc gc P) (fun y u => ∃ j, v = nI j ∧ j ≤ S.2.1 ∧ j < 100 ∧ y = szL (S.1 j).1 60 1 0 ∧ CW (S.1, S.2.1, j, k00, S.2.2.2.2) T L u) (fun E u => (E = IAE ∧ (v < 0 ∨ ¬ v ≤ nI S.2.1)) ∧ CW S T L u) := by
  refine e_Q_edition T hlt _ _ v f r c (tsX L x) g rr fc gc P ?_
  rintro C rfl X
  have hf0 := h.2.2.2.2.2.1
  have s12 : (v < 0 ∨ ¬ v ≤ nI S.2.1) → zc_Q_edition C (fun y u => ∃ j, v = nI j ∧ j ≤ S.2.1 ∧ j < 100 ∧ y = szL (S.1 j).1 60 1 0 ∧ CW (S.1, S.2.1, j, k00, S.2.2.2.2) C.1 L u) (fun E u => (E = IAE ∧ (v < 0 ∨ ¬ v ≤ nI S.2.1)) ∧ CW S C.1 L u) 0 0 12 [(0, .ref (ad C.1 24)), (1, .int v)] [] (WX C.1 f r c L x g rr fc gc P) := fun z => k_Q_edition_12 X _ _ v f r c (tsX L x) g rr fc gc P 0 0 ⟨by decide, by decide⟩ ⟨⟨rfl, z⟩, CW.of h⟩
  refine k_Q_edition_0 X _ _ (P_26 := fun u => ∃ (f' : FT) (g' : GT), f' 0 = 0 ∧ f' 1 = 0 ∧ f' 3 = 0 ∧ u = CX C.1 f' g') v f r c (tsX L x) g rr fc gc P 0 0 (fun z => s12 (Or.inl z)) (fun _ _ => ⟨by decide, by decide⟩) (fun _ _ => d_clear _ fc gc _ (fun f' g' h0 h1 _ h3 _ _ => ⟨f', g', h0, h1, h3, rfl⟩)) ?_ (fun _ z => s12 (Or.inr (by rw [← hf0]; exact z)))
  rintro z1 z2 u ⟨f', g', h0, h01, h03, rfl⟩
  obtain ⟨hL, ⟨m, hm1, hm2, hm3⟩, hc, hri, -, hcs⟩ := h
  obtain ⟨j, hj, rfl⟩ := nI_of z1
  rw [hm1, nI_leI hj (by omega)] at z2
  obtain ⟨e, he1, he2⟩ := hm3 j z2
  refine zW_perm (wp1 _ _ _ _ _) ?_
  refine zW_D (fun hu => ?_)
  refine k_Q_edition_29 X _ _ (nI j) f r c (tsX L x) g rr f' g' P 0 0 (vi_n (by omega) (by decide)) ?_ (fun _ _ _ _ _ _ _ _ _ _ => ⟨by decide, by decide⟩) ?_
  · obtain ⟨qa, ka, es, e1, e2, e3, fq, fk, h1, -⟩ := he2
    obtain ⟨i, hi⟩ := List.getElem?_of_mem h1
    exact ⟨e, i, qa, ka, es, e1, e2, e3, by rw [nI_clamp hj]; exact he1, hi⟩
  · intro a i u0 u1 u2 u3 u4 u5 ea hia
    rw [nI_clamp hj, he1] at ea
    cases ea
    have hjm : j ≤ S.2.1 := by
      rcases Nat.lt_or_ge S.2.1 100 with hb | hb
      · rw [hm1, nI_eq (by omega) (by omega)] at hf0
        omega
      · omega
    obtain ⟨e9, q9, qa, ka, es, e1, e2, e3, fq, fk, k1, -, -, -, -, -, k2, -⟩ := hcs.2.1 j hjm
    rw [he1] at q9
    cases q9
    have ek := hu _ _ _ (subW _ (List.mem_of_getElem? hia)) (subW _ k1)
    have ek2 : u2 = szL (S.1 j).1 60 1 0 := by rw [← k2]; cases ek; rfl
    exact ⟨j, rfl, hjm, by omega, ek2, CW.of ⟨hL, ⟨m, hm1, hm2, hm3⟩, he2, hri, ⟨0, h0.trans nI_0.symm, by decide⟩, hf0, hcs.2.1, hjm, he1, KS_00 h03 h0 h01, hcs.2.2.2.2.2⟩⟩
def nxV (R : RD) (x : Int32) : Int32 := if x < 1 ∨ ¬ x ≤ 60 then 0 else if (R.1 x.toNatClampNeg).isSome = true then x else 0
theorem nxV_no {k : Nat → ClassId} {P : va_W} {fq fk : Nat → Option Nat} {R : RD} (h : EE k P fq fk R) {x : Int32} (hx : (x < 1 ∨ ¬ x ≤ 60) ∨ ∃ j, x = nI j ∧ 1 ≤ j ∧ j ≤ 60 ∧ fq j = none) : nxV R x = 0 := by
  unfold nxV
  by_cases c : x < 1 ∨ ¬ x ≤ 60
  · rw [if_pos c]
  · rw [if_neg c]
    rcases hx with q | ⟨j, rfl, q1, q2, q3⟩
    · exact absurd q c
    · rw [nI_clamp (by omega)]
      rcases h.1 j q1 (by omega) with q | ⟨a, d, q4, -⟩
      · rw [q.2]; rfl
      · rw [q3] at q4; cases q4
theorem nxV_yes {k : Nat → ClassId} {P : va_W} {fq fk : Nat → Option Nat} {R : RD} (h : EE k P fq fk R) {j : Nat} (q1 : 1 ≤ j) (q2 : j ≤ 60) (q3 : ¬ fq j = none) : nxV R (nI j) = nI j := by
  unfold nxV
  rw [if_neg, nI_clamp (by omega)]
  · rcases h.1 j q1 (by omega) with q | ⟨a, d, -, q5, -⟩
    · exact absurd q.1 q3
    · rw [q5]; rfl
  · rintro (q | q)
    · exact absurd q (nI_nlt (a := j) (b := 1) q1 (by omega))
    · exact q (nI_le (b := 60) q2 (by decide))
theorem KS_fs {f f2 : FT} {g g2 : GT} {v n : Int32} (h0 : f 0 = 0) (h2 : f 2 = 0) (hg : ∀ j, j < 61 → g 1 j = -1) (a1 : f2 1 = n) (a2 : f2 2 = f 2) (a3 : f2 3 = v) (a4 : g2 1 = g 1) (a5 : (n = 0 ∨ 40 ≤ f 0) → f2 0 = f 0 ∧ g2 0 = g 0) (a6 : ¬ n = 0 → ¬ 40 ≤ f 0 → f2 0 = f 0 + 1 ∧ g2 0 = upd (g 0) (f 0).toNatClampNeg n) : KS f2 g2 (kFs v n) ∧ Bd 40 (f2 0) := by
  have hl : ∀ q, 1 ≤ q → q < 61 → g2 1 q = -1 := fun q _ q2 => by rw [a4]; exact hg q q2
  by_cases c : n = 0
  · have e := (a5 (Or.inl c)).1.trans h0
    refine ⟨⟨a3, ?_, a1, ?_, fun _ => ⟨a2.trans h2, fun j hj => ?_, hl⟩⟩, ⟨0, e.trans nI_0.symm, by decide⟩⟩
    · show f2 0 = nI (if n = 0 then 0 else 1)
      rw [if_pos c, e]; exact nI_0.symm
    · show (if n = 0 then 0 else 1) ≤ 40
      rw [if_pos c]; decide
    · have hj : j < (if n = 0 then 0 else 1) := hj
      rw [if_pos c] at hj; omega
  · have z40 : ¬ (40 : Int32) ≤ f 0 := by rw [h0]; decide +kernel
    obtain ⟨e1, e2⟩ := a6 c z40
    have e : f2 0 = 1 := by rw [e1, h0]; rfl
    refine ⟨⟨a3, ?_, a1, ?_, fun _ => ⟨a2.trans h2, fun j hj => ?_, hl⟩⟩, ⟨1, e, by decide⟩⟩
    · show f2 0 = nI (if n = 0 then 0 else 1)
      rw [if_neg c, e]; rfl
    · show (if n = 0 then 0 else 1) ≤ 40
      rw [if_neg c]; decide
    · have hj : j < (if n = 0 then 0 else 1) := hj
      rw [if_neg c] at hj
      have ej : j = 0 := by omega
      subst ej
      show g2 0 0 = n
      rw [e2, h0]; rfl
theorem d_first (T : ST) (S : ES) (f : FT) (r : Nat → Nat → Option Nat) (c L : Nat) (x : Int32) (g : GT) (rr : Nat → Nat → Option Nat) (fc : FT) (gc : GT) (P : va_W) (h : CF S T.2.2.2.1 L f r c g rr fc gc P) (hlt : T.1.stackTraces = false) (v : Int32) : xI T y_Q_first (Cond.code y_Q_first b_Q_first 3 (some .int)) 2 1 6 [.ref (ad T 24), .int v] (WX T f r c L x g rr fc gc P) (fun y u => (∃ j d, v = nI j ∧ 1 ≤ j ∧ j ≤ 9 ∧ (S.1 S.2.2.1).2 j = some d ∧ y = nxV (S.1 S.2.2.1) d.1) ∧ CW (S.1, S.2.1, S.2.2.1, kFs v y, S.2.2.2.2) T L u) (fun E u => (E = IAE ∧ ((v < 1 ∨ ¬ v ≤ 9) ∨ ∃ j, v = nI j ∧ 1 ≤ j ∧ j ≤ 9 ∧ ((S.1 S.2.2.1).2 j) = none)) ∧ CW S T L u) := by
  obtain ⟨qa, ka, es, e1, e2, e3, fq, fk, h1, h2, h3, h4, h5, h6⟩ := h.2.2.2.2.2.ch
  obtain ⟨i1, hf⟩ := List.getElem?_of_mem h1
  refine e_Q_first T hlt _ _ v f r c (tsX L x) g rr fc gc P qa ka es e1 e2 e3 ?_
  rintro C rfl X
  refine k_Q_first_0 X _ _ (P_5 := fun y u => (∀ a, y = some a → isKi C.1.2.2.2.1 P a) ∧ (y = none → ((v < 1 ∨ ¬ v ≤ 9) ∨ ∃ j, v = nI j ∧ 1 ≤ j ∧ j ≤ 9 ∧ ((S.1 S.2.2.1).2 j) = none)) ∧ (¬ y = none → ∃ j d a, v = nI j ∧ 1 ≤ j ∧ j ≤ 9 ∧ (S.1 S.2.2.1).2 j = some d ∧ y = some a ∧ eKi C.1.2.2.2.1 P a d) ∧ u = WX C.1 f r c L x g rr fc gc P) v f r c (tsX L x) g rr fc gc P qa ka es e1 e2 e3 i1 0 0 hf ⟨by decide, by decide⟩ (d_kindAt _ c v _ fk ⟨qa, ka, es, e1, e2, e3, subW _ h1, subW _ h3⟩ _ (fun y hy => ⟨fun a ea => ?_, fun ey => ?_, fun ey => ?_, rfl⟩)) ?_
  · rcases hy with ⟨rfl, -⟩ | ⟨j, -, -, -, rfl⟩
    · cases ea
    · exact h5 j a ea
  · rcases hy with ⟨-, q⟩ | ⟨j, q1, q2, q3, rfl⟩
    · exact Or.inl q
    · rcases h6.1.2 j q2 (by omega) with q | ⟨a, d, q4, q5, -⟩
      · exact Or.inr ⟨j, q1, q2, q3, q.2⟩
      · rw [q4] at ey; cases ey
  · rcases hy with ⟨rfl, -⟩ | ⟨j, q1, q2, q3, rfl⟩
    · exact absurd rfl ey
    · rcases h6.1.2 j q2 (by omega) with q | ⟨a, d, q4, q5, q6⟩
      · exact absurd q.1 ey
      · exact ⟨j, d, a, q1, q2, q3, q5, q4, by assumption⟩
  rintro y u ⟨hy, hy0, hy1, rfl⟩
  refine k_Q_first_8 X _ _ (P_27 := fun u => ∃ (f' : FT) (g' : GT), f' 0 = 0 ∧ f' 2 = 0 ∧ (∀ j, j < 61 → g' 1 j = -1) ∧ u = CX C.1 f' g') v y f r c (tsX L x) g rr fc gc P qa ka es e1 e2 e3 i1 0 0 hf (fun _ => ⟨by decide, by decide⟩) (fun _ => d_clear _ fc gc _ (fun f' g' h0 _ h2 _ _ h4 => ⟨f', g', h0, h2, h4, rfl⟩)) ?_ (fun _ => ⟨by decide, by decide⟩) (fun z => ⟨⟨rfl, hy0 z⟩, CW.of h⟩)
  rintro hn u ⟨f', g', h0, h02, h04, rfl⟩
  obtain ⟨j, d, aK, ej, j1, j2, ed, ya, hek⟩ := hy1 hn
  refine zW_perm (wp1 _ _ _ _ _) ?_
  refine zW_D (fun hu => ?_)
  refine k_Q_first_30 X _ _ (P_50 := fun n u => n = nxV (S.1 S.2.2.1) d.1 ∧ u = WX C.1 f r c L x g rr (va_up f' 3 v) g' P) v y f r c (tsX L x) g rr f' g' P qa ka es e1 e2 e3 i1 0 0 hf ?_ (fun _ _ _ _ _ _ _ => ⟨by decide, by decide⟩) (fun a9 i9 u0 u1 u2 ea9 hi9 => ?_) ?_
  · cases y with
    | none => exact absurd rfl hn
    | some a =>
      obtain ⟨y1, y2, y3, xs, w9, g1, -⟩ := hy a rfl
      obtain ⟨i, hi⟩ := List.getElem?_of_mem g1
      exact ⟨a, i, y1, y2, y3, rfl, hi⟩
  · have eu : u0 = d.1 := by
      rw [ya] at ea9
      cases ea9
      obtain ⟨l9, xs9, w9, hm9, -⟩ := hek
      have := hu _ _ _ (subW _ (List.mem_of_getElem? hi9)) (subW _ hm9)
      cases this; rfl
    rw [eu]
    refine d_asNextX _ c _ _ fq ⟨qa, ka, es, e1, e2, e3, subW _ h1, subW _ h2⟩ _ (fun y9 hy9 => ⟨?_, rfl⟩)
    rcases hy9 with ⟨rfl, q⟩ | ⟨i, q1, q2, q3, q4, q5⟩
    · exact (nxV_no h6.1 q).symm
    · rw [q2, q1]; exact (nxV_yes h6.1 q3 q4 q5).symm
  · rintro a i u0 u1 u2 _ _ n u ⟨hn9, rfl⟩
    refine k_Q_first_53 X _ _ (P_53 := fun u => ∃ (f2 : FT) (g2 : GT), (KS f2 g2 (kFs v n) ∧ Bd 40 (f2 0)) ∧ f2 1 = n ∧ u = CX C.1 f2 g2) v y n f r c (tsX L x) g rr (va_up f' 3 v) g' P qa ka es e1 e2 e3 i1 0 0 hf ⟨by decide, by decide⟩ (d_askX _ n (va_up f' 3 v) g' ⟨0, h0.trans nI_0.symm, by decide⟩ _ (fun f2 g2 a1 a2 a3 a4 a5 a6 => ⟨f2, g2, KS_fs (f := va_up f' 3 v) h0 h02 h04 a1 a2 (a3.trans (up_same _ _ _)) a4 a5 a6, a1, rfl⟩)) ?_
    rintro u ⟨f2, g2, ⟨hks, hb⟩, hn1, rfl⟩
    refine zW_perm (wp1 _ _ _ _ _) ?_
    have hcs := h.2.2.2.2.2
    exact k_Q_first_56 X _ _ v y f r c (tsX L x) g rr f2 g2 P qa ka es e1 e2 e3 i1 0 0 hf ⟨by decide, by decide⟩ ⟨⟨j, d, ej, j1, j2, ed, hn1.trans hn9⟩, CW.of ⟨h.1, h.2.1, h.2.2.1, h.2.2.2.1, hb, hcs.1, hcs.2.1, hcs.2.2.1, hcs.2.2.2.1, by rw [hn1]; exact hks, hcs.2.2.2.2.2⟩⟩
