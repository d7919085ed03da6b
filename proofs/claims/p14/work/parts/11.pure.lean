-- pure words for the reference's scanning: a place n, where the text is wrong (w), digits d; t bytes on the tape g0
theorem up_same {α : Type} (f : Nat → α) (k : Nat) (v : α) : va_up f k v k = v := if_pos rfl
theorem up_other {α : Type} (f : Nat → α) {k j : Nat} (v : α) (h : j ≠ k) : va_up f k v j = f j := if_neg h
def wI (w : Option Nat) : Int32 := match w with
  | none => -1
  | some p => nI p
def wok (w : Option Nat) : Prop := ∀ p, w = some p → p ≤ 1000
def ps (f : FT) (n : Nat) (w : Option Nat) (d : Int32) : FT := va_up (va_up (va_up f 5 (nI n)) 6 (wI w)) 7 d
theorem ps_at (f : FT) (n : Nat) (w : Option Nat) (d : Int32) : va_up (ps f n w d) 5 (nI n + 1) = ps f (n + 1) w d := by
  funext j
  rw [nI_1]
  unfold ps va_up
  by_cases h5 : j = 5
  · subst h5; rfl
  · simp only [h5, if_false]
theorem ps_wr (f : FT) (n : Nat) (w : Option Nat) (d : Int32) (p : Nat) : va_up (ps f n w d) 6 (nI p) = ps f n (some p) d := by
  funext j
  unfold ps va_up
  by_cases h6 : j = 6
  · subst h6; rfl
  · simp only [h6, if_false]
theorem ps_dg (f : FT) (n : Nat) (w : Option Nat) (d v : Int32) : va_up (ps f n w d) 7 v = ps f n w v := by
  funext j
  unfold ps va_up
  by_cases h6 : j = 7
  · subst h6; rfl
  · simp only [h6, if_false]
theorem ps_o (f : FT) (n : Nat) (w : Option Nat) (d : Int32) {j : Nat} (h : j ≠ 5 ∧ j ≠ 6 ∧ j ≠ 7) : ps f n w d j = f j := by
  unfold ps va_up
  simp only [h.1, h.2.1, h.2.2, if_false]
theorem ps_5 (f : FT) (n : Nat) (w : Option Nat) (d : Int32) : ps f n w d 5 = nI n := rfl
theorem ps_6 (f : FT) (n : Nat) (w : Option Nat) (d : Int32) : ps f n w d 6 = wI w := rfl
theorem ps_7 (f : FT) (n : Nat) (w : Option Nat) (d : Int32) : ps f n w d 7 = d := rfl
theorem ps_1 (f : FT) (n : Nat) (w : Option Nat) (d : Int32) : ps f n w d 1 = f 1 := rfl
theorem ps_8 (f : FT) (n : Nat) (w : Option Nat) (d : Int32) : ps f n w d 8 = f 8 := rfl
theorem wI_ge {w : Option Nat} (h : wok w) : 0 ≤ wI w ↔ w ≠ none := by
  cases w with
  | none => exact ⟨fun q => absurd q (by decide +kernel), fun q => absurd rfl q⟩
  | some p => exact ⟨fun _ => by simp, fun _ => nI_pos' (Nat.lt_of_le_of_lt (h p rfl) (by decide))⟩
theorem wI_lt {w : Option Nat} (h : wok w) : wI w < 0 ↔ w = none := by
  cases w with
  | none => exact ⟨fun _ => rfl, fun _ => by decide +kernel⟩
  | some p => exact ⟨fun q => absurd q (nI_pos (Nat.lt_of_le_of_lt (h p rfl) (by decide))), fun q => by cases q⟩
def fl (w : Option Nat) (p : Nat) : Option Nat := match w with
  | none => some p
  | some q => some q
theorem fl_ok {w : Option Nat} {p : Nat} (h : wok w) (hp : p ≤ 1000) : wok (fl w p) := by
  cases w with
  | none => intro q e; cases e; exact hp
  | some q => exact h
theorem fl_ne {w : Option Nat} {p : Nat} : fl w p ≠ none := by cases w <;> simp [fl]
def inV (x a b : Int32) : Int32 := if x < a then 0 else if b < x then 0 else 1
theorem inV_01 (x a b : Int32) : inV x a b = 0 ∨ inV x a b = 1 := by
  unfold inV
  split
  · exact Or.inl rfl
  · split
    · exact Or.inl rfl
    · exact Or.inr rfl
theorem inV_nz {x a b : Int32} (h : ¬ inV x a b = 0) : a ≤ x ∧ x ≤ b := by
  unfold inV at h
  split at h
  · exact absurd rfl h
  · rename_i h1
    split at h
    · exact absurd rfl h
    · rename_i h2
      exact ⟨Int32.not_lt.mp h1, Int32.not_lt.mp h2⟩
theorem nar01 {r : Int32} (h : r = 0 ∨ r = 1) : narrow .boolean (.int r) = .int r := by
  rcases h with h | h <;> (subst h; rfl)
def tp (g0 : Nat → Int32) (t n : Nat) : Int32 := if n < t then g0 n else -1
def dg (c : Int32) : Int32 := inV c 48 57
def sF (g0 : Nat → Int32) (t : Nat) : Nat → Nat → Nat
  | 0, n => n
  | k + 1, n => if n < t ∧ g0 n = 32 then sF g0 t k (n + 1) else n
def sN (g0 : Nat → Int32) (t n : Nat) : Nat := sF g0 t (t - n) n
theorem sF_ge (g0 : Nat → Int32) (t : Nat) : ∀ k n, n ≤ sF g0 t k n := by
  intro k
  induction k with
  | zero => intro n; exact Nat.le_refl n
  | succ k ih =>
    intro n
    unfold sF
    split
    · exact Nat.le_trans (Nat.le_succ n) (ih (n + 1))
    · exact Nat.le_refl n
theorem sF_le (g0 : Nat → Int32) (t : Nat) : ∀ k n, n ≤ t → sF g0 t k n ≤ t := by
  intro k
  induction k with
  | zero => intro n h; exact h
  | succ k ih =>
    intro n h
    unfold sF
    split
    · rename_i q; exact ih (n + 1) q.1
    · exact h
theorem sN_ge (g0 : Nat → Int32) (t n : Nat) : n ≤ sN g0 t n := sF_ge g0 t _ n
theorem sN_le (g0 : Nat → Int32) {t n : Nat} (h : n ≤ t) : sN g0 t n ≤ t := sF_le g0 t _ n h
theorem sN_big (g0 : Nat → Int32) {t n : Nat} (h : t ≤ n) : sN g0 t n = n := by unfold sN; rw [Nat.sub_eq_zero_of_le h]; rfl
theorem sN_step {g0 : Nat → Int32} {t n : Nat} (h : tp g0 t n = 32) : sN g0 t n = sN g0 t (n + 1) := by
  unfold tp at h
  split at h
  · rename_i h1
    unfold sN
    obtain ⟨k, hk⟩ : ∃ k, t - n = k + 1 := ⟨t - n - 1, by omega⟩
    rw [hk, show t - (n + 1) = k by omega]
    exact if_pos ⟨h1, h⟩
  · exact absurd h (by decide +kernel)
theorem sN_stop {g0 : Nat → Int32} {t n : Nat} (h : ¬ tp g0 t n = 32) : sN g0 t n = n := by
  unfold sN
  cases hk : t - n with
  | zero => rfl
  | succ k =>
    refine if_neg fun q => h ?_
    unfold tp
    rw [if_pos q.1]; exact q.2
theorem sN_lt {g0 : Nat → Int32} {t n : Nat} (h : tp g0 t n = 32) : n < t := by
  unfold tp at h
  split at h
  · assumption
  · exact absurd h (by decide +kernel)
theorem tp_lt {g0 : Nat → Int32} {t n : Nat} (h : ¬ tp g0 t n = -1) : n < t := by
  unfold tp at h
  split at h
  · assumption
  · exact absurd rfl h
theorem nI_inc {n : Nat} (h : n < 2 ^ 31) : (nI n).toNatClampNeg = n := nI_clamp h
theorem vi_n {e N : Nat} (h : e < N) (hN : N < 2 ^ 31) : vp_in (nI e) N := nI_in h hN
