-- the reference's scanning, exactly
theorem c_in (T : ST) (x a b : Int32) (f : FT) (g : GT) (Post : Int32 → FT → GT → Prop) (hq : Post (inV x a b) f g) : mI T y_Mo_in (Cond.code y_Mo_in b_Mo_in 3 (some .boolean)) 0 [.int x, .int a, .int b] f g Post := by
  refine e_Mo_in T Post x a b f g ?_
  rintro C rfl X
  have s15 : ∀ y, y = inV x a b → zn_in C Post 15 [(0, .int x), (1, .int a), (2, .int b)] [.int y] f g := fun y h => k_Mo_in_15 X Post x a b y f g (by rw [h]; exact hq) (nar01 (by rw [h]; exact inV_01 _ _ _))
  have s14 : inV x a b = 0 → zn_in C Post 14 [(0, .int x), (1, .int a), (2, .int b)] [] f g := fun h => k_Mo_in_14 X Post x a b f g (s15 0 h.symm)
  exact k_Mo_in_0 X Post x a b f g (fun h => s14 (if_pos h)) (fun h h2 => s14 ((if_neg h).trans (if_pos h2))) (fun h h2 => s15 1 ((if_neg h).trans (if_neg h2)).symm)
theorem c_here (T : ST) (f : FT) (g : GT) (t n : Nat) (h1 : f 1 = nI t) (h5 : f 5 = nI n) (ht : t ≤ 400) (hn : n ≤ 1000) (Post : Int32 → FT → GT → Prop) (hq : Post (tp (g 0) t n) f g) : mI T y_Mo_here (Cond.code y_Mo_here b_Mo_here 1 (some .int)) 0 [.ref (ad T 0)] f g Post := by
  refine e_Mo_here T Post f g ?_
  rintro C rfl X
  have s24 : ∀ y, y = tp (g 0) t n → zn_here C Post 24 [(0, .ref (ad C.1 0))] [.int y] f g := fun y h => k_Mo_here_24 X Post y f g (by rw [h]; exact hq)
  refine k_Mo_here_0 X Post f g (fun h => s24 _ ?_) (fun h => ?_) (fun h => s24 _ ?_)
  · rw [h1, h5, nI_leI (by omega) (by omega)] at h
    exact (if_neg (by omega)).symm
  · rw [h1, h5, nI_leI (by omega) (by omega)] at h
    rw [h5]; exact vi_n (by omega) (by decide)
  · rw [h1, h5, nI_leI (by omega) (by omega)] at h
    rw [h5, nI_clamp (by omega)]
    exact (if_pos (by omega)).symm
theorem c_isDigit (T : ST) (f : FT) (g : GT) (t n : Nat) (h1 : f 1 = nI t) (h5 : f 5 = nI n) (ht : t ≤ 400) (hn : n ≤ 1000) (Post : Int32 → FT → GT → Prop) (hq : Post (dg (tp (g 0) t n)) f g) : mI T y_Mo_isDigit (Cond.code y_Mo_isDigit b_Mo_isDigit 1 (some .boolean)) 1 [.ref (ad T 0)] f g Post := by
  refine e_Mo_isDigit T Post f g ?_
  rintro C rfl X
  refine k_Mo_isDigit_0 X Post (P_1 := fun r f' g' => r = tp (g 0) t n ∧ f' = f ∧ g' = g) f g (c_here _ f g t n h1 h5 ht hn _ ⟨rfl, rfl, rfl⟩) ?_
  rintro r f1 g1 ⟨rfl, rfl, rfl⟩
  refine k_Mo_isDigit_4 X Post (P_8 := fun r f' g' => r = dg (tp (g1 0) t n) ∧ f' = f1 ∧ g' = g1) _ f1 g1 (c_in _ _ _ _ f1 g1 _ ⟨rfl, rfl, rfl⟩) ?_
  rintro r f2 g2 ⟨rfl, rfl, rfl⟩
  exact k_Mo_isDigit_11 X Post _ _ _ hq (nar01 (inV_01 _ _ _))
theorem c_fail (T : ST) (x : Int32) (f : FT) (g : GT) (Post : FT → GT → Prop) (hq : Post (if 0 ≤ f 6 then f else va_up f 6 x) g) : mV T y_Mo_fail (Cond.code y_Mo_fail b_Mo_fail 2 none) 0 [.ref (ad T 0), .int x] f g Post := by
  refine e_Mo_fail T Post x f g ?_
  rintro C rfl X
  refine k_Mo_fail_0 X Post x f g (fun h => k_Mo_fail_12 X Post x _ _ ?_) (fun h => k_Mo_fail_12 X Post x _ _ ?_)
  · rw [if_pos h] at hq; exact hq
  · rw [if_neg h] at hq; exact hq
-- a fail at a place p of the tape
theorem c_failP (T : ST) (p : Nat) (f0 : FT) (n : Nat) (w : Option Nat) (d : Int32) (g : GT) (hw : wok w) (Post : FT → GT → Prop) (hq : Post (ps f0 n (fl w p) d) g) : mV T y_Mo_fail (Cond.code y_Mo_fail b_Mo_fail 2 none) 0 [.ref (ad T 0), .int (nI p)] (ps f0 n w d) g Post := by
  refine c_fail T (nI p) _ g Post ?_
  rw [ps_6]
  cases w with
  | none => rw [if_neg (fun h => absurd rfl ((wI_ge hw).mp h)), ps_wr]; exact hq
  | some q => rw [if_pos ((wI_ge hw).mpr (by simp))]; exact hq
theorem c_see (T : ST) (f0 : FT) (n : Nat) (w : Option Nat) (d : Int32) (g : GT) (t : Nat) (h1 : f0 1 = nI t) (ht : t ≤ 400) (hn : n ≤ 401) (Post : Int32 → FT → GT → Prop) (hq : Post (tp (g 0) t (sN (g 0) t n)) (ps f0 (sN (g 0) t n) w d) g) : mI T y_Mo_see (Cond.code y_Mo_see b_Mo_see 1 (some .int)) 1 [.ref (ad T 0)] (ps f0 n w d) g Post := by
  refine e_Mo_see T Post _ g ?_
  rintro C rfl X
  have loop : ∀ k n, k + n = 401 → sN (g 0) t n = sN (g 0) t n → Post (tp (g 0) t (sN (g 0) t n)) (ps f0 (sN (g 0) t n) w d) g → zn_see C Post 0 [(0, .ref (ad C.1 0))] [] (ps f0 n w d) g := by
    intro k
    induction k with
    | zero =>
      intro n hk _ hq
      refine k_Mo_see_0 X Post (P_1 := fun r f' g' => r = tp (g 0) t n ∧ f' = ps f0 n w d ∧ g' = g) (ps f0 n w d) g (c_here _ (ps f0 n w d) g t n h1 rfl ht (by omega) _ ⟨rfl, rfl, rfl⟩) ?_
      rintro r f1 g1 ⟨rfl, rfl, rfl⟩
      refine k_Mo_see_4 X Post (P_23 := fun r f' g' => r = tp (g1 0) t n ∧ f' = ps f0 n w d ∧ g' = g1) _ (ps f0 n w d) g1 (fun _ => c_here _ (ps f0 n w d) g1 t n h1 rfl ht (by omega) _ ⟨rfl, rfl, rfl⟩) ?_ ?_
      · rintro h r f2 g2 ⟨rfl, rfl, rfl⟩
        rw [sN_stop h] at hq
        exact k_Mo_see_26 X Post _ _ _ hq
      · intro h
        have := sN_lt h
        omega
    | succ k ih =>
      intro n hk _ hq
      refine k_Mo_see_0 X Post (P_1 := fun r f' g' => r = tp (g 0) t n ∧ f' = ps f0 n w d ∧ g' = g) (ps f0 n w d) g (c_here _ (ps f0 n w d) g t n h1 rfl ht (by omega) _ ⟨rfl, rfl, rfl⟩) ?_
      rintro r f1 g1 ⟨rfl, rfl, rfl⟩
      refine k_Mo_see_4 X Post (P_23 := fun r f' g' => r = tp (g1 0) t n ∧ f' = ps f0 n w d ∧ g' = g1) _ (ps f0 n w d) g1 (fun _ => c_here _ (ps f0 n w d) g1 t n h1 rfl ht (by omega) _ ⟨rfl, rfl, rfl⟩) ?_ ?_
      · rintro h r f2 g2 ⟨rfl, rfl, rfl⟩
        rw [sN_stop h] at hq
        exact k_Mo_see_26 X Post _ _ _ hq
      · intro h
        rw [sN_step h] at hq
        rw [ps_5, ps_at]
        exact ih (n + 1) (by omega) rfl hq
  exact loop (401 - n) n (by omega) rfl hq
-- take: the place and the wrong place behind it
def tkN (g0 : Nat → Int32) (t : Nat) (c : Int32) (n : Nat) (w : Option Nat) : Nat × Option Nat := match w with
  | some q => (n, some q)
  | none => if tp g0 t (sN g0 t n) = c then (sN g0 t n + 1, none) else (sN g0 t n, some (sN g0 t n))
theorem c_take (T : ST) (c : Int32) (f0 : FT) (n : Nat) (w : Option Nat) (d : Int32) (g : GT) (t : Nat) (h1 : f0 1 = nI t) (ht : t ≤ 400) (hn : n ≤ 401) (hw : wok w) (Post : FT → GT → Prop) (hq : Post (ps f0 (tkN (g 0) t c n w).1 (tkN (g 0) t c n w).2 d) g) : mV T y_Mo_take (Cond.code y_Mo_take b_Mo_take 2 none) 2 [.ref (ad T 0), .int c] (ps f0 n w d) g Post := by
  refine e_Mo_take T Post c _ g ?_
  rintro C rfl X
  have hs1 : sN (g 0) t n ≤ 401 := by
    by_cases h : n ≤ t
    · have := sN_le (g 0) h; omega
    · rw [sN_big (g 0) (by omega)]; exact hn
  cases w with
  | some q =>
    refine k_Mo_take_0 X Post (P_9 := fun _ _ _ => True) c _ g (fun h => ?_) (fun h => ?_) (fun _ => hq)
    · exact absurd ((wI_lt hw).mp h) (by simp)
    · exact absurd ((wI_lt hw).mp h) (by simp)
  | none =>
    refine k_Mo_take_0 X Post (P_9 := fun r f' g' => r = tp (g 0) t (sN (g 0) t n) ∧ f' = ps f0 (sN (g 0) t n) none d ∧ g' = g) c _ g (fun _ => c_see _ f0 n none d g t h1 ht hn _ ⟨rfl, rfl, rfl⟩) ?_ (fun h => absurd ((wI_lt hw).mpr rfl) h)
    rintro - r f1 g1 ⟨rfl, rfl, rfl⟩
    refine k_Mo_take_12 X Post (P_21 := fun f' g' => f' = ps f0 (sN (g1 0) t n) (some (sN (g1 0) t n)) d ∧ g' = g1) c _ _ _ (fun h => ?_) (fun h => c_failP _ _ f0 _ none d g1 hw _ ⟨rfl, rfl⟩) ?_
    · rw [ps_5, ps_at]
      refine k_Mo_take_37 X Post c _ _ ?_
      rw [show tkN (g1 0) t c n none = (sN (g1 0) t n + 1, none) from if_pos h] at hq
      exact hq
    · rintro h f2 g2 ⟨rfl, rfl⟩
      refine k_Mo_take_24 X Post c _ _ (k_Mo_take_37 X Post c _ _ ?_)
      rw [show tkN (g2 0) t c n none = (sN (g2 0) t n, some (sN (g2 0) t n)) from if_neg h] at hq
      exact hq
