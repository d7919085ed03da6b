-- ways over the questions of an edition, and sets of numbers as bits
def Rc (E : Nat → Nat → Prop) (q x : Nat) : Prop := ∀ M : Nat → Prop, (∀ y, E q y → M y) → (∀ m y, M m → E m y → M y) → M x
def wsP (E : Nat → Nat → Prop) : Nat → Nat → Nat → Prop
  | 0, q, x => E q x
  | k + 1, q, x => wsP E k q x ∨ (wsP E k q (k + 1) ∧ wsP E k (k + 1) x)
theorem Rc_one {E : Nat → Nat → Prop} {q x : Nat} (h : E q x) : Rc E q x := fun _ h1 _ => h1 _ h
theorem Rc_step {E : Nat → Nat → Prop} {q m x : Nat} (h : Rc E q m) (h2 : E m x) : Rc E q x := fun M h1 h3 => h3 m x (h M h1 h3) h2
theorem Rc_trans {E : Nat → Nat → Prop} {q m x : Nat} (h : Rc E q m) (h2 : Rc E m x) : Rc E q x := fun M h1 h3 => h2 M (fun y hy => h3 m y (h M h1 h3) hy) h3
theorem ws_rc {E : Nat → Nat → Prop} : ∀ k q x, wsP E k q x → Rc E q x := by
  intro k
  induction k with
  | zero => intro q x h; exact Rc_one h
  | succ k ih =>
    intro q x h
    rcases h with h | ⟨h1, h2⟩
    · exact ih q x h
    · exact Rc_trans (ih _ _ h1) (ih _ _ h2)
theorem ws_up {E : Nat → Nat → Prop} {q x : Nat} (h : E q x) : ∀ k, wsP E k q x := by
  intro k
  induction k with
  | zero => exact h
  | succ k ih => exact Or.inl ih
theorem ws_tr {E : Nat → Nat → Prop} : ∀ k q m x, 1 ≤ m → m ≤ k → wsP E k q m → wsP E k m x → wsP E k q x := by
  intro k
  induction k with
  | zero => intro q m x h1 h2; omega
  | succ k ih =>
    intro q m x h1 h2 h3 h4
    by_cases c : m = k + 1
    · subst c
      have a : wsP E k q (k + 1) := by rcases h3 with h | ⟨h, -⟩ <;> exact h
      have b : wsP E k (k + 1) x := by rcases h4 with h | ⟨-, h⟩ <;> exact h
      exact Or.inr ⟨a, b⟩
    · have hm : m ≤ k := by omega
      rcases h3 with a | ⟨a1, a2⟩
      · rcases h4 with b | ⟨b1, b2⟩
        · exact Or.inl (ih q m x h1 hm a b)
        · exact Or.inr ⟨ih q m (k + 1) h1 hm a b1, b2⟩
      · rcases h4 with b | ⟨b1, b2⟩
        · exact Or.inr ⟨a1, ih (k + 1) m x h1 hm a2 b⟩
        · exact Or.inr ⟨a1, b2⟩
theorem ws_60 {E : Nat → Nat → Prop} (hE : ∀ q x, E q x → 1 ≤ q ∧ q ≤ 60) (q x : Nat) : wsP E 60 q x ↔ Rc E q x := by
  refine ⟨ws_rc 60 q x, fun h => h (wsP E 60 q) (fun y hy => ws_up hy 60) (fun m y h1 h2 => ?_)⟩
  exact ws_tr 60 q m y (hE m y h2).1 (hE m y h2).2 h1 (ws_up h2 60)
theorem ws_self {E : Nat → Nat → Prop} {k x : Nat} : wsP E (k + 1) (k + 1) x ↔ wsP E k (k + 1) x := ⟨fun h => by rcases h with h | ⟨-, h⟩ <;> exact h, Or.inl⟩
-- what spreads from marks: least and closed
def Spr (E : Nat → Nat → Prop) (I M : Nat → Prop) : Prop := (∀ x, I x → M x) ∧ (∀ m y, M m → E m y → ¬ y = 0 → M y) ∧ ∀ N : Nat → Prop, (∀ x, I x → N x) → (∀ m y, N m → E m y → N y) → ∀ x, M x → N x
theorem Spr.loop {E : Nat → Nat → Prop} {I M : Nat → Prop} (h : Spr E I M) {q : Nat} (hI : ∀ x, I x ↔ E q x ∧ ¬ x = 0) (hE : ∀ q x, E q x → 1 ≤ q) (hq : 1 ≤ q) : M q ↔ Rc E q q := by
  refine ⟨h.2.2 (Rc E q) (fun x hx => Rc_one ((hI x).mp hx).1) (fun m y h1 h2 => Rc_step h1 h2) q, fun hr => ?_⟩
  have := hr (fun x => x = 0 ∨ M x) (fun y hy => ?_) (fun m y h1 h2 => ?_)
  · rcases this with z | z
    · omega
    · exact z
  · by_cases c : y = 0
    · exact Or.inl c
    · exact Or.inr (h.1 y ((hI y).mpr ⟨hy, c⟩))
  · by_cases c : y = 0
    · exact Or.inl c
    · rcases h1 with z | z
      · have := hE m y h2; omega
      · exact Or.inr (h.2.1 m y z h2 c)
theorem Spr.never {E : Nat → Nat → Prop} {I M : Nat → Prop} (h : Spr E I M) (hE : ∀ q x, E q x → 1 ≤ q) (q : Nat) (hq : 1 ≤ q) : M q ↔ ∃ s, I s ∧ (s = q ∨ Rc E s q) := by
  refine ⟨h.2.2 (fun x => ∃ s, I s ∧ (s = x ∨ Rc E s x)) (fun x hx => ⟨x, hx, Or.inl rfl⟩) (fun m y h1 h2 => ?_) q, ?_⟩
  · obtain ⟨s, a, b⟩ := h1
    rcases b with b | b
    · subst b; exact ⟨s, a, Or.inr (Rc_one h2)⟩
    · exact ⟨s, a, Or.inr (Rc_step b h2)⟩
  · rintro ⟨s, a, b⟩
    rcases b with b | b
    · subst b; exact h.1 s a
    · have := b (fun x => x = 0 ∨ M x) (fun y hy => ?_) (fun m y h1 h2 => ?_)
      · rcases this with z | z
        · omega
        · exact z
      · by_cases c : y = 0
        · exact Or.inl c
        · exact Or.inr (h.2.1 s y (h.1 s a) hy c)
      · by_cases c : y = 0
        · exact Or.inl c
        · rcases h1 with z | z
          · have := hE m y h2; omega
          · exact Or.inr (h.2.1 m y z h2 c)
theorem Spr.ends {E : Nat → Nat → Prop} {I M : Nat → Prop} (h : Spr E I M) {s : Nat} (hI : ∀ x, I x ↔ x = s) (hE : ∀ q x, E q x → 1 ≤ q) : (∃ m, M m ∧ E m 0) ↔ Rc E s 0 := by
  have hs : M s := h.1 s ((hI s).mpr rfl)
  refine ⟨?_, fun hr => ?_⟩
  · rintro ⟨m, h1, h2⟩
    have := h.2.2 (fun x => x = s ∨ Rc E s x) (fun x hx => Or.inl ((hI x).mp hx)) (fun m y a b => ?_) m h1
    · rcases this with z | z
      · subst z; exact Rc_one h2
      · exact Rc_step z h2
    · rcases a with z | z
      · subst z; exact Or.inr (Rc_one b)
      · exact Or.inr (Rc_step z b)
  · have go : ∀ m y, M m → E m y → (¬ y = 0 ∧ M y) ∨ (y = 0 ∧ ∃ m, M m ∧ E m 0) := by
      intro m y a b
      by_cases c : y = 0
      · subst c; exact Or.inr ⟨rfl, m, a, b⟩
      · exact Or.inl ⟨c, h.2.1 m y a b c⟩
    have := hr (fun x => (¬ x = 0 ∧ M x) ∨ (x = 0 ∧ ∃ m, M m ∧ E m 0)) (fun y hy => go s y hs hy) (fun m y a b => ?_)
    · rcases this with z | z
      · exact absurd rfl z.1
      · exact z.2
    · rcases a with z | z
      · exact go m y z.2 b
      · have := hE m y b; omega
-- member n, from the smallest
def mbP (p : Nat → Prop) : Nat → Nat → Nat → Nat → Prop
  | 0, _, _, x => x = 0
  | k + 1, c, n, x => (p c ∧ n = 0 ∧ x = c) ∨ (p c ∧ ¬ n = 0 ∧ mbP p k (c + 1) (n - 1) x) ∨ (¬ p c ∧ mbP p k (c + 1) n x)
theorem mb_u {p q : Nat → Prop} : ∀ k c n x y, (∀ j, c ≤ j → j < c + k → (p j ↔ q j)) → mbP p k c n x → mbP q k c n y → x = y := by
  intro k
  induction k with
  | zero => intro c n x y _ h1 h2; exact Eq.trans h1 (Eq.symm h2)
  | succ k ih =>
    intro c n x y hp h1 h2
    have hc := hp c (Nat.le_refl _) (by omega)
    have hn : ∀ j, c + 1 ≤ j → j < c + 1 + k → (p j ↔ q j) := fun j a b => hp j (by omega) (by omega)
    rcases h1 with ⟨a1, a2, a3⟩ | ⟨a1, a2, a3⟩ | ⟨a1, a3⟩
    · rcases h2 with ⟨b1, b2, b3⟩ | ⟨b1, b2, b3⟩ | ⟨b1, b3⟩
      · exact a3.trans b3.symm
      · exact absurd a2 b2
      · exact absurd (hc.mp a1) b1
    · rcases h2 with ⟨b1, b2, b3⟩ | ⟨b1, b2, b3⟩ | ⟨b1, b3⟩
      · exact absurd b2 a2
      · exact ih (c + 1) (n - 1) x y hn a3 b3
      · exact absurd (hc.mp a1) b1
    · rcases h2 with ⟨b1, b2, b3⟩ | ⟨b1, b2, b3⟩ | ⟨b1, b3⟩
      · exact absurd (hc.mpr b1) a1
      · exact absurd (hc.mpr b1) a1
      · exact ih (c + 1) n x y hn a3 b3
theorem mb_none {p : Nat → Prop} : ∀ k c n, (∀ j, c ≤ j → ¬ p j) → mbP p k c n 0 := by
  intro k
  induction k with
  | zero => intro c n _; exact rfl
  | succ k ih => intro c n h; exact Or.inr (Or.inr ⟨h c (Nat.le_refl _), ih (c + 1) n (fun j hj => h j (by omega))⟩)
theorem mb_more {p : Nat → Prop} : ∀ k j c n x, (∀ i, c + k ≤ i → ¬ p i) → mbP p k c n x → mbP p (k + j) c n x := by
  intro k
  induction k with
  | zero =>
    intro j c n x h1 h2
    have h2 : x = 0 := h2
    rw [h2, Nat.zero_add]; exact mb_none j c n (fun i hi => h1 i (by omega))
  | succ k ih =>
    intro j c n x h1 h2
    rw [show k + 1 + j = (k + j) + 1 by omega]
    have hn : ∀ i, c + 1 + k ≤ i → ¬ p i := fun i hi => h1 i (by omega)
    rcases h2 with h | ⟨a1, a2, a3⟩ | ⟨a1, a3⟩
    · exact Or.inl h
    · exact Or.inr (Or.inl ⟨a1, a2, ih j (c + 1) (n - 1) x hn a3⟩)
    · exact Or.inr (Or.inr ⟨a1, ih j (c + 1) n x hn a3⟩)
theorem mb_c' {p q : Nat → Prop} : ∀ k c n x, (∀ j, c ≤ j → j < c + k → (p j ↔ q j)) → mbP p k c n x → mbP q k c n x := by
  intro k
  induction k with
  | zero => intro c n x _ h; exact h
  | succ k ih =>
    intro c n x hp h
    have hc := hp c (Nat.le_refl _) (by omega)
    have hn : ∀ j, c + 1 ≤ j → j < c + 1 + k → (p j ↔ q j) := fun j a b => hp j (by omega) (by omega)
    rcases h with ⟨a1, a2⟩ | ⟨a1, a2, a3⟩ | ⟨a1, a3⟩
    · exact Or.inl ⟨hc.mp a1, a2⟩
    · exact Or.inr (Or.inl ⟨hc.mp a1, a2, ih _ _ _ hn a3⟩)
    · exact Or.inr (Or.inr ⟨fun z => a1 (hc.mpr z), ih _ _ _ hn a3⟩)
theorem mb_c {p q : Nat → Prop} {n x : Nat} (hp : ∀ j, 1 ≤ j → j < 61 → (p j ↔ q j)) (h : mbP p 60 1 n x) : mbP q 60 1 n x := mb_c' 60 1 n x (fun j a b => hp j a (by omega)) h
-- bits
def bt (x : Int64) (n : Nat) : Prop := x.toBitVec.getLsbD n = true
theorem bt_0 (n : Nat) : ¬ bt 0 n := by
  unfold bt
  rw [show (0 : Int64).toBitVec = 0#64 from rfl, BitVec.getLsbD_zero]
  exact Bool.false_ne_true
theorem bt_or (x y : Int64) (n : Nat) : bt (x ||| y) n ↔ bt x n ∨ bt y n := by
  unfold bt
  rw [Int64.toBitVec_or, BitVec.getLsbD_or, Bool.or_eq_true]
theorem bt_one : ∀ (j : Fin 61) (n : Fin 61), decide (((1 : Int64) <<< ((nI j.1).toInt64 &&& 63)).toBitVec.getLsbD n.1 = true) = decide (n.1 = j.1) := by decide +kernel
theorem bt_sh {j n : Nat} (hj : j < 61) (hn : n < 61) : bt ((1 : Int64) <<< ((nI j).toInt64 &&& 63)) n ↔ n = j := decide_eq_decide.mp (bt_one ⟨j, hj⟩ ⟨n, hn⟩)
theorem sh_n : ∀ j : Fin 61, ((nI j.1).toInt64.toUInt64 &&& Int64.toUInt64 63).toBitVec = BitVec.ofNat 64 j.1 := by decide +kernel
theorem bt_has (x : Int64) {j : Nat} (hj : j < 61) : lg_cmp (((x.toUInt64 >>> ((nI j).toInt64.toUInt64 &&& Int64.toUInt64 63)).toInt64) &&& 1) 0 = 0 ↔ ¬ bt x j := by
  rw [lg_cmp_eq]
  have e1 : ((((x.toUInt64 >>> ((nI j).toInt64.toUInt64 &&& Int64.toUInt64 63)).toInt64) &&& 1).toBitVec) = (x.toBitVec >>> j) &&& 1#64 := by
    rw [Int64.toBitVec_and]
    show ((x.toUInt64 >>> ((nI j).toInt64.toUInt64 &&& Int64.toUInt64 63)).toBitVec) &&& 1#64 = _
    rw [UInt64.toBitVec_shiftRight, sh_n ⟨j, hj⟩]
    have m1 : (BitVec.ofNat 64 j % 64#64) = BitVec.ofNat 64 j := by
      apply BitVec.eq_of_toNat_eq
      rw [BitVec.toNat_umod, BitVec.toNat_ofNat]
      show j % 2 ^ 64 % 64 = j % 2 ^ 64
      omega
    show (x.toBitVec >>> (BitVec.ofNat 64 j % 64#64)) &&& 1#64 = _
    rw [m1, BitVec.ushiftRight_eq', BitVec.toNat_ofNat, Nat.mod_eq_of_lt (by omega)]
  have e2 : ∀ y : BitVec 64, y &&& 1#64 = 0#64 ↔ y.getLsbD 0 = false := by
    intro y
    constructor
    · intro h
      have := congrArg (fun z : BitVec 64 => z.getLsbD 0) h
      simpa using this
    · intro h
      apply BitVec.eq_of_getLsbD_eq
      intro i hi
      rw [BitVec.getLsbD_and, BitVec.getLsbD_zero]
      by_cases c : i = 0
      · subst c; rw [h]; rfl
      · have : (1#64).getLsbD i = false := by
          rw [BitVec.getLsbD_one]
          simp [c]
        rw [this, Bool.and_false]
  rw [← Int64.toBitVec_inj, e1, show (0 : Int64).toBitVec = 0#64 from rfl, e2, BitVec.getLsbD_ushiftRight, Nat.add_zero]
  unfold bt
  rw [Bool.not_eq_true]
-- where one comes from a question, what is on a loop, never asked, without an end
def nxR (R : RD) (x : Int32) : Int32 := if x < 1 ∨ ¬ x ≤ 60 then 0 else if (R.1 x.toNatClampNeg).isSome = true then x else 0
def tgB (R : RD) (d : QD) (n : Nat) : Prop := (∃ (i : Nat) (e : JD), d.2.2.2.2.1[i]? = some e ∧ nxR R e.2.2.1 = nI n) ∨ nxR R d.2.2.2.2.2.2.2.1 = nI n
def Eg (R : RD) (q x : Nat) : Prop := 1 ≤ q ∧ q ≤ 60 ∧ x ≤ 60 ∧ ∃ d, R.1 q = some d ∧ tgB R d x
def stE (R : RD) (k s : Nat) : Prop := 1 ≤ k ∧ k ≤ 9 ∧ 1 ≤ s ∧ s ≤ 60 ∧ ∃ d, R.2 k = some d ∧ nxR R d.1 = nI s
def loE (R : RD) (q : Nat) : Prop := ¬ R.1 q = none ∧ Rc (Eg R) q q
def neE (R : RD) (q : Nat) : Prop := ¬ R.1 q = none ∧ ¬ ∃ k s, stE R k s ∧ (s = q ∨ Rc (Eg R) s q)
def enE (R : RD) (k : Nat) : Prop := ∃ s, stE R k s ∧ ¬ Rc (Eg R) s 0
def BE (R : RD) (e1 e2 e3 : Int64) : Prop := ∀ n, 1 ≤ n → n < 61 → (bt e1 n ↔ loE R n) ∧ (bt e2 n ↔ neE R n) ∧ (bt e3 n ↔ enE R n)
theorem nxR_c (R : RD) (x : Int32) : ∃ n, n ≤ 60 ∧ nxR R x = nI n := by
  unfold nxR
  split
  · exact ⟨0, by decide, nI_0.symm⟩
  · rename_i c
    split
    · obtain ⟨j, e, j1, j2⟩ := x_rng (M := 60) (by decide) (fun q => c (Or.inl q)) (Classical.byContradiction (fun q => c (Or.inr q)))
      exact ⟨j, j2, e⟩
    · exact ⟨0, by decide, nI_0.symm⟩
theorem Eg_1 {R : RD} {q x : Nat} (h : Eg R q x) : 1 ≤ q := h.1
theorem Eg_60 (R : RD) (q x : Nat) (h : Eg R q x) : 1 ≤ q ∧ q ≤ 60 := ⟨h.1, h.2.1⟩
theorem stE_u {R : RD} {k s s' : Nat} (h : stE R k s) (h' : stE R k s') : s = s' := by
  obtain ⟨-, -, -, a4, d, a5, a6⟩ := h
  obtain ⟨-, -, -, b4, d', b5, b6⟩ := h'
  rw [a5] at b5
  cases b5
  exact (nI_eq (by omega) (by omega)).mp (a6.symm.trans b6)
theorem BE_0 : BE (fun _ => none, fun _ => none) 0 0 0 := by
  intro n h1 h2
  refine ⟨⟨fun h => absurd h (bt_0 n), fun h => absurd rfl h.1⟩, ⟨fun h => absurd h (bt_0 n), fun h => absurd rfl h.1⟩, ⟨fun h => absurd h (bt_0 n), fun h => ?_⟩⟩
  obtain ⟨s, ⟨-, -, -, -, d, z, -⟩, -⟩ := h
  cases z
-- member n of a set, as an int
def mbV (p : Nat → Prop) (v y : Int32) : Prop := ∃ n m, v = nI n ∧ n < 2 ^ 31 ∧ y = nI m ∧ mbP p 60 1 n m
theorem mbV_u {p q : Nat → Prop} {v y z : Int32} (h : mbV p v y) (h' : mbV q v z) (hp : ∀ j, 1 ≤ j → j < 61 → (p j ↔ q j)) : y = z := by
  obtain ⟨n, m, rfl, a2, rfl, a4⟩ := h
  obtain ⟨n', m', b1, b2, rfl, b4⟩ := h'
  have e : n = n' := (nI_eq a2 b2).mp b1
  subst e
  rw [mb_u 60 1 n m m' (fun j j1 j2 => hp j j1 (by omega)) a4 b4]
theorem nI_m1 {l : Nat} (h : 1 ≤ l) : nI l + (-1) = nI (l - 1) := by
  have e : nI l = nI (l - 1) + 1 := by rw [nI_1]; congr 1; omega
  rw [e, Int32.add_assoc, show (1 : Int32) + (-1) = 0 by decide +kernel, Int32.add_zero]
