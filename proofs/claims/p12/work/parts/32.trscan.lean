-- the class's scanning, exactly: L bytes on the tape, the place x
def tsX (L : Nat) (x : Int32) : FT := fun j => if j = 0 then nI L else x
def TX (T : ST) (L : Nat) (x : Int32) (g : GT) : va_W := s_t T.2.2.2.1 T.2.2.2.2 (tsX L x) g
theorem TX_at (T : ST) (L : Nat) (x v : Int32) (g : GT) : s_t T.2.2.2.1 T.2.2.2.2 (va_up (tsX L x) 1 v) g = TX T L v g := rfl
abbrev IAE : String := "java/lang/IllegalArgumentException"
abbrev ISE : String := "java/lang/IllegalStateException"
theorem d_isDigit (T : ST) (x : Int32) (Post : Int32 → va_W → Prop) (hq : Post (inV x 48 57) []) : uI T y_TR_isDigit (Cond.code y_TR_isDigit b_TR_isDigit 1 (some .boolean)) 0 0 0 [.int x] [] Post := by
  refine e_TR_isDigit T Post x ?_
  rintro C rfl X
  have s17 : ∀ y, y = inV x 48 57 → zc_TR_isDigit C Post 0 0 17 [(0, .int x)] [.int y] [] := fun y h => k_TR_isDigit_17 X Post x y 0 0 ⟨by decide, by decide⟩ (by rw [h]; exact hq) (nar01 (by rw [h]; exact inV_01 _ _ _))
  have s16 : inV x 48 57 = 0 → zc_TR_isDigit C Post 0 0 16 [(0, .int x)] [] [] := fun h => k_TR_isDigit_16 X Post x 0 0 (s17 0 h.symm)
  exact k_TR_isDigit_0 X Post x 0 0 (fun h => s16 (if_pos h)) (fun h h2 => s16 ((if_neg h).trans (if_pos h2))) (fun h h2 => s17 1 ((if_neg h).trans (if_neg h2)).symm)
def wbV (x : Int32) : Int32 := if x = 34 then 0 else inV x 32 126
theorem wbV_01 (x : Int32) : wbV x = 0 ∨ wbV x = 1 := by
  unfold wbV
  split
  · exact Or.inl rfl
  · exact inV_01 _ _ _
theorem d_isWordByte (T : ST) (x : Int32) (Post : Int32 → va_W → Prop) (hq : Post (wbV x) []) : uI T y_TR_isWordByte (Cond.code y_TR_isWordByte b_TR_isWordByte 1 (some .boolean)) 0 0 0 [.int x] [] Post := by
  refine e_TR_isWordByte T Post x ?_
  rintro C rfl X
  have s23 : ∀ y, y = wbV x → zc_TR_isWordByte C Post 0 0 23 [(0, .int x)] [.int y] [] := fun y h => k_TR_isWordByte_23 X Post x y 0 0 ⟨by decide, by decide⟩ (by rw [h]; exact hq) (nar01 (by rw [h]; exact wbV_01 _))
  have s22 : wbV x = 0 → zc_TR_isWordByte C Post 0 0 22 [(0, .int x)] [] [] := fun h => k_TR_isWordByte_22 X Post x 0 0 (s23 0 h.symm)
  have e0 : inV x 32 126 = 0 → wbV x = 0 := fun h => by unfold wbV; split; rfl; exact h
  refine k_TR_isWordByte_0 X Post x 0 0 (fun h => s22 (e0 (if_pos h))) (fun h h2 => s22 (e0 ((if_neg h).trans (if_pos h2)))) (fun h h2 h3 => s22 (if_pos h3)) (fun h h2 h3 => s23 1 ?_)
  exact ((if_neg h3).trans ((if_neg h).trans (if_neg h2))).symm
theorem d_nextSign (T : ST) (L n : Nat) (g : GT) (hL : L ≤ 400) (hn : n ≤ L) (Post : Int32 → va_W → Prop) (hq : Post (tp (g 0) L (sN (g 0) L n)) (TX T L (nI (sN (g 0) L n)) g)) : uI T y_TR_nextSign (Cond.code y_TR_nextSign b_TR_nextSign 1 (some .int)) 0 0 0 [.ref (ad T 20)] (TX T L (nI n) g) Post := by
  refine e_TR_nextSign T Post (tsX L (nI n)) g ?_
  rintro C rfl X
  have s62 : ∀ y n, Post y (TX C.1 L (nI n) g) → zc_TR_nextSign C Post 0 0 62 [(0, .ref (ad C.1 20))] [.int y] (TX C.1 L (nI n) g) := fun y n h => k_TR_nextSign_62 X Post y (tsX L (nI n)) g 0 0 ⟨by decide, by decide⟩ h
  have s38 : ∀ n, n ≤ L → Post (tp (g 0) L n) (TX C.1 L (nI n) g) → zc_TR_nextSign C Post 0 0 38 [(0, .ref (ad C.1 20))] [] (TX C.1 L (nI n) g) := by
    intro n hn h
    refine k_TR_nextSign_38 X Post (tsX L (nI n)) g 0 0 (fun z => ?_) (fun z => ?_) (fun z => ?_)
    · have z : nI L ≤ nI n := z
      rw [nI_leI (by omega) (by omega)] at z
      have e : tp (g 0) L n = -1 := if_neg (by omega)
      rw [e] at h
      exact s62 (-1) n h
    · have z : ¬ nI L ≤ nI n := z
      rw [nI_leI (by omega) (by omega)] at z
      exact vi_n (show n < 400 by omega) (by decide)
    · have z : ¬ nI L ≤ nI n := z
      rw [nI_leI (by omega) (by omega)] at z
      have e : tp (g 0) L n = g 0 n := if_pos (by omega)
      rw [e] at h
      rw [show (tsX L (nI n) 1).toNatClampNeg = n from nI_clamp (by omega)]
      exact s62 _ n h
  have loop : ∀ k n, k + n = L → Post (tp (g 0) L (sN (g 0) L n)) (TX C.1 L (nI (sN (g 0) L n)) g) → zc_TR_nextSign C Post 0 0 0 [(0, .ref (ad C.1 20))] [] (TX C.1 L (nI n) g) := by
    intro k
    induction k with
    | zero =>
      intro n hk hq
      have e : sN (g 0) L n = n := sN_big (g 0) (by omega)
      rw [e] at hq
      have hz : nI L ≤ nI n := (nI_leI (by omega) (by omega)).mpr (by omega)
      refine k_TR_nextSign_0 X Post (tsX L (nI n)) g 0 0 (fun _ => s38 n (by omega) hq) (fun z => absurd hz z) (fun z => absurd hz z) (fun z => absurd hz z)
    | succ k ih =>
      intro n hk hq
      have hnz : ¬ nI L ≤ nI n := fun z => absurd ((nI_leI (by omega) (by omega)).mp z) (by omega)
      have et : tp (g 0) L n = g 0 n := if_pos (by omega)
      have ec : (tsX L (nI n) 1).toNatClampNeg = n := nI_clamp (by omega)
      refine k_TR_nextSign_0 X Post (tsX L (nI n)) g 0 0 (fun z => absurd z hnz) (fun _ => vi_n (show n < 400 by omega) (by decide)) (fun _ z => ?_) (fun _ z => ?_)
      · rw [ec, ← et] at z
        rw [sN_stop z] at hq
        exact s38 n (by omega) hq
      · rw [ec, ← et] at z
        rw [sN_step z] at hq
        rw [show tsX L (nI n) 1 + 1 = nI (n + 1) from nI_1 n]
        exact ih (n + 1) (by omega) hq
  exact loop (L - n) n (by omega) hq
theorem d_fail (T : ST) (hlt : T.1.stackTraces = false) (x y : Int32) (L : Nat) (g : GT) (PX : String → va_W → Prop) (hx : PX IAE (TX T L x g)) : xV T y_TR_fail (Cond.code y_TR_fail b_TR_fail 2 none) 0 1 6 [.ref (ad T 20), .int x] (TX T L y g) (fun _ => False) PX := by
  refine e_TR_fail T hlt _ PX x (tsX L y) g ?_
  rintro C rfl X
  exact k_TR_fail_0 X _ PX x (tsX L y) g 0 0 ⟨by decide, by decide⟩ hx
theorem d_took (T : ST) (c : Int32) (L n : Nat) (g : GT) (hL : L ≤ 400) (hn : n ≤ L) (Post : Int32 → va_W → Prop) (hq : if tp (g 0) L (sN (g 0) L n) = c then Post 1 (TX T L (nI (sN (g 0) L n + 1)) g) else Post 0 (TX T L (nI (sN (g 0) L n)) g)) : uI T y_TR_took (Cond.code y_TR_took b_TR_took 2 (some .boolean)) 1 0 0 [.ref (ad T 20), .int c] (TX T L (nI n) g) Post := by
  refine e_TR_took T Post c (tsX L (nI n)) g ?_
  rintro C rfl X
  refine k_TR_took_0 X Post (P_1 := fun r u => r = tp (g 0) L (sN (g 0) L n) ∧ u = TX C.1 L (nI (sN (g 0) L n)) g) c (tsX L (nI n)) g 0 0 ⟨by decide, by decide⟩ ?_ ?_
  · exact d_nextSign _ L n g hL hn _ ⟨rfl, rfl⟩
  rintro r u ⟨rfl, rfl⟩
  refine k_TR_took_4 X Post c _ (tsX L (nI (sN (g 0) L n))) g 0 0 (fun _ => ⟨by decide, by decide⟩) (fun z => ?_) (fun _ => ⟨by decide, by decide⟩) (fun z => ?_)
  · rw [if_pos z] at hq
    rw [show tsX L (nI (sN (g 0) L n)) 1 + 1 = nI (sN (g 0) L n + 1) from nI_1 _]
    exact hq
  · rw [if_neg z] at hq; exact hq
theorem d_take (T : ST) (hlt : T.1.stackTraces = false) (c : Int32) (L n : Nat) (g : GT) (hL : L ≤ 400) (hn : n ≤ L) (Post : va_W → Prop) (PX : String → va_W → Prop) (hq : tp (g 0) L (sN (g 0) L n) = c → Post (TX T L (nI (sN (g 0) L n + 1)) g)) (hx : ¬ tp (g 0) L (sN (g 0) L n) = c → PX IAE (TX T L (nI (sN (g 0) L n)) g)) : xV T y_TR_take (Cond.code y_TR_take b_TR_take 2 none) 1 1 6 [.ref (ad T 20), .int c] (TX T L (nI n) g) Post PX := by
  refine e_TR_take T hlt Post PX c (tsX L (nI n)) g ?_
  rintro C rfl X
  refine k_TR_take_0 X Post PX (P_1 := fun r u => r = tp (g 0) L (sN (g 0) L n) ∧ u = TX C.1 L (nI (sN (g 0) L n)) g) c (tsX L (nI n)) g 0 0 ⟨by decide, by decide⟩ ?_ ?_
  · exact d_nextSign _ L n g hL hn _ ⟨rfl, rfl⟩
  rintro r u ⟨rfl, rfl⟩
  refine k_TR_take_4 X Post PX (P_13 := fun _ => False) (X_13 := fun E u => E = IAE ∧ u = TX C.1 L (nI (sN (g 0) L n)) g) c _ (tsX L (nI (sN (g 0) L n))) g 0 0 (fun z => ?_) (fun _ => ⟨by decide, by decide⟩) (fun z => ?_) (fun _ u h => h.elim) ?_
  · refine k_TR_take_16 X Post PX c (tsX L (nI (sN (g 0) L n))) g 0 0 ⟨by decide, by decide⟩ ?_
    rw [show tsX L (nI (sN (g 0) L n)) 1 + 1 = nI (sN (g 0) L n + 1) from nI_1 _]
    exact hq z
  · exact d_fail _ X.2.2 _ _ L g _ ⟨rfl, rfl⟩
  · rintro z E u ⟨rfl, rfl⟩
    exact hx z
theorem nI_prd {n : Nat} (h : 1 ≤ n) : nI n - 1 = nI (n - 1) := by
  obtain ⟨k, rfl⟩ : ∃ k, n = k + 1 := ⟨n - 1, by omega⟩
  rw [← nI_1]; exact Int32.add_sub_cancel _ _
def nOK (g0 : Nat → Int32) (L : Nat) (a b : Int32) (n : Nat) : Prop := ¬ dg (tp g0 L (sN g0 L n)) = 0 ∧ ¬ inV (nI (nR g0 L n).1) a b = 0
set_option maxHeartbeats 1000000 in
theorem d_readNumber (T : ST) (hlt : T.1.stackTraces = false) (a b : Int32) (L n : Nat) (g : GT) (hL : L ≤ 400) (hn : n ≤ L) (Post : Int32 → va_W → Prop) (PX : String → va_W → Prop) (hq : nOK (g 0) L a b n → Post (nI (nR (g 0) L n).1) (TX T L (nI (nR (g 0) L n).2.1) g)) (hx : ∀ m, m ≤ L → ¬ nOK (g 0) L a b n → PX IAE (TX T L (nI m) g)) : xI T y_TR_readNumber (Cond.code y_TR_readNumber b_TR_readNumber 6 (some .int)) 1 3 18 [.ref (ad T 20), .int a, .int b] (TX T L (nI n) g) Post PX := by
  refine e_TR_readNumber T hlt Post PX a b (tsX L (nI n)) g ?_
  rintro C rfl X
  have hs := sN_le (g 0) hn
  have hR := nR_le (g 0) hn
  have hv := nmL_v (g 0) L 4 0 (sN (g 0) L n) 0 rfl (by decide)
  -- the value is in its bounds
  have s112 : ∀ x3 x5, ¬ dg (tp (g 0) L (sN (g 0) L n)) = 0 → zc_TR_readNumber C Post PX 0 0 112 [(0, .ref (ad C.1 20)), (1, .int a), (2, .int b), (3, .int x3), (4, .int (nI (nR (g 0) L n).1)), (5, .int x5)] [] (TX C.1 L (nI (nR (g 0) L n).2.1) g) := by
    intro x3 x5 hd
    have bad : inV (nI (nR (g 0) L n).1) a b = 0 → zc_TR_readNumber C Post PX 0 0 124 [(0, .ref (ad C.1 20)), (1, .int a), (2, .int b), (3, .int x3), (4, .int (nI (nR (g 0) L n).1)), (5, .int x5)] [] (TX C.1 L (nI (nR (g 0) L n).2.1) g) := by
      intro z
      refine k_TR_readNumber_124 X Post PX (P_131 := fun _ => False) (X_131 := fun E u => E = IAE ∧ ∃ m, m ≤ L ∧ u = TX C.1 L (nI m) g) a b _ _ _ (tsX L (nI (nR (g 0) L n).2.1)) g 0 0 ⟨by decide, by decide⟩ ?_ (fun u h => h.elim) ?_
      · have e9 : tsX L (nI (nR (g 0) L n).2.1) 1 - 1 = nI ((nR (g 0) L n).2.1 - 1) := nI_prd (Nat.le_trans (Nat.succ_le_succ (Nat.zero_le _)) (nmL_one (g 0) L _ hd))
        exact d_fail _ X.2.2 _ _ L g _ ⟨rfl, (nR (g 0) L n).2.1 - 1, by omega, by rw [e9]⟩
      · rintro E u ⟨rfl, x, hx9, rfl⟩
        exact hx x hx9 (fun q => q.2 z)
    refine k_TR_readNumber_112 X Post PX a b _ _ _ (tsX L (nI (nR (g 0) L n).2.1)) g 0 0 (fun z => bad (if_pos z)) (fun z z2 => ?_) (fun z z2 => bad ((if_neg z).trans (if_pos (Int32.not_le.mp z2))))
    refine k_TR_readNumber_134 X Post PX a b _ _ _ (tsX L (nI (nR (g 0) L n).2.1)) g 0 0 ⟨by decide, by decide⟩ (hq ⟨hd, fun q => ?_⟩)
    rw [show inV (nI (nR (g 0) L n).1) a b = 1 from (if_neg z).trans (if_neg (Int32.not_lt.mpr z2))] at q
    exact absurd q (by decide +kernel)
  have loop : ∀ j v n1 k x3, j + k = 4 → 1 ≤ k → v < 10 ^ k → n1 ≤ L → nmL (g 0) L j v n1 k = nR (g 0) L n → ¬ dg (tp (g 0) L (sN (g 0) L n)) = 0 → zc_TR_readNumber C Post PX 0 0 39 [(0, .ref (ad C.1 20)), (1, .int a), (2, .int b), (3, .int x3), (4, .int (nI v)), (5, .int (nI k))] [] (TX C.1 L (nI n1) g) := by
    intro j
    induction j with
    | zero =>
      intro v n1 k x3 hj hk hv hn1 e hd
      have e1 : v = (nR (g 0) L n).1 := by rw [← e]; rfl
      have e2 : n1 = (nR (g 0) L n).2.1 := by rw [← e]; rfl
      have h4 : (4 : Int32) ≤ nI k := (nI_leI (a := 4) (b := k) (by decide) (by omega)).mpr (by omega)
      refine k_TR_readNumber_39 X Post PX (P_70 := fun _ _ => True) a b _ _ _ (tsX L (nI n1)) g 0 0 (fun _ => ?_) (fun z => absurd h4 z) (fun z => absurd h4 z) (fun z => absurd h4 z) (fun z => absurd h4 z) (fun z => absurd h4 z) (fun z => absurd h4 z)
      rw [e1, e2]; exact s112 _ _ hd
    | succ j ih =>
      intro v n1 k x3 hj hk hv hn1 e hd
      have hv4 : v < 10000 := Nat.lt_of_lt_of_le hv (Nat.pow_le_pow_right (by decide) (show k ≤ 4 by omega))
      have h4 : ¬ (4 : Int32) ≤ nI k := fun z => absurd ((nI_leI (a := 4) (b := k) (by decide) (by omega)).mp z) (by omega)
      have stop : ¬ ((¬ dg (tp (g 0) L n1) = 0) ∧ (k = 0 ∨ 0 < v)) → zc_TR_readNumber C Post PX 0 0 112 [(0, .ref (ad C.1 20)), (1, .int a), (2, .int b), (3, .int x3), (4, .int (nI v)), (5, .int (nI k))] [] (TX C.1 L (nI n1) g) := by
        intro q
        have e0 : nmL (g 0) L (j + 1) v n1 k = (v, n1, k) := if_neg q
        rw [e0] at e
        have e1 : v = (nR (g 0) L n).1 := by rw [← e]
        have e2 : n1 = (nR (g 0) L n).2.1 := by rw [← e]
        rw [e1, e2]; exact s112 _ _ hd
      have hc : (tsX L (nI n1) 1).toNatClampNeg = n1 := nI_clamp (by omega)
      refine k_TR_readNumber_39 X Post PX (P_70 := fun r u => r = dg (g 0 n1) ∧ u = []) a b _ _ _ (tsX L (nI n1)) g 0 0 (fun z => absurd z h4) (fun _ z => ?_) (fun _ z z2 => ?_) (fun _ z z2 => ?_) (fun _ _ _ => ⟨by decide, by decide⟩) (fun _ z z2 => ?_) ?_
      · rw [show (0 : Int32) = nI 0 from rfl, nI_eq (by omega) (by decide)] at z
        exact stop (fun q => by rcases q.2 with y | y <;> omega)
      · have z2 : nI L ≤ nI n1 := z2
        rw [nI_leI (by omega) (by omega)] at z2
        exact stop (fun q => absurd (dg_lt q.1) (by omega))
      · have z2 : ¬ nI L ≤ nI n1 := z2
        rw [nI_leI (by omega) (by omega)] at z2
        exact vi_n (show n1 < 400 by omega) (by decide)
      · rw [hc]; exact d_isDigit _ _ _ ⟨rfl, rfl⟩
      · rintro - z z2 r u ⟨rfl, rfl⟩
        have z2 : ¬ nI L ≤ nI n1 := z2
        rw [nI_leI (by omega) (by omega)] at z2
        have et : tp (g 0) L n1 = g 0 n1 := if_pos (by omega)
        refine k_TR_readNumber_73 X Post PX a b _ _ _ _ (tsX L (nI n1)) g 0 0 (fun y => ?_) (fun _ => vi_n (show n1 < 400 by omega) (by decide)) (fun y => ?_)
        · rw [← et] at y
          exact stop (fun q => q.1 y)
        · rw [← et] at y
          have hv0 : 0 < v := by
            rw [show (0 : Int32) = nI 0 from rfl, nI_eq (by omega) (by decide)] at z
            omega
          have e0 : nmL (g 0) L (j + 1) v n1 k = nmL (g 0) L j (10 * v + dv (tp (g 0) L n1)) (n1 + 1) (k + 1) := if_pos ⟨y, Or.inr hv0⟩
          rw [e0] at e
          rw [hc, ← et, show nI v * 10 = 10 * nI v from by rw [Int32.mul_comm], nm_step y, nI_1, show tsX L (nI n1) 1 + 1 = nI (n1 + 1) from nI_1 n1]
          refine ih _ _ _ _ (by omega) (by omega) ?_ (by omega) e hd
          obtain ⟨m, em, m1, m2⟩ := dg_n y
          unfold dv
          rw [em, nI_clamp (by omega), Nat.pow_succ]
          omega
  refine k_TR_readNumber_0 X Post PX (P_1 := fun r u => r = tp (g 0) L (sN (g 0) L n) ∧ u = TX C.1 L (nI (sN (g 0) L n)) g) a b (tsX L (nI n)) g 0 0 ⟨by decide, by decide⟩ ?_ ?_
  · exact d_nextSign _ L n g hL hn _ ⟨rfl, rfl⟩
  rintro r u ⟨rfl, rfl⟩
  refine k_TR_readNumber_4 X Post PX (P_6 := fun r u => r = dg (tp (g 0) L (sN (g 0) L n)) ∧ u = []) a b _ (tsX L (nI (sN (g 0) L n))) g 0 0 ⟨by decide, by decide⟩ ?_ ?_
  · exact d_isDigit _ _ _ ⟨rfl, rfl⟩
  rintro r u ⟨rfl, rfl⟩
  refine k_TR_readNumber_9 X Post PX (P_17 := fun _ => False) (X_17 := fun E u => E = IAE ∧ ∃ m, m ≤ L ∧ u = TX C.1 L (nI m) g) a b _ _ (tsX L (nI (sN (g 0) L n))) g 0 0 (fun z => ?_) (fun _ => ⟨by decide, by decide⟩) (fun _ => ?_) (fun _ u h => h.elim) ?_
  · refine k_TR_readNumber_20 X Post PX a b _ (tsX L (nI (sN (g 0) L n))) g 0 0 ?_
    have e0 : nmL (g 0) L 4 0 (sN (g 0) L n) 0 = nmL (g 0) L 3 (10 * 0 + dv (tp (g 0) L (sN (g 0) L n))) (sN (g 0) L n + 1) 1 := if_pos ⟨z, Or.inl rfl⟩
    have hlt' := dg_lt z
    have es := nm_step z 0
    rw [show (10 : Int32) * nI 0 = 0 from by decide +kernel, Int32.zero_add] at es
    rw [es, show tsX L (nI (sN (g 0) L n)) 1 + 1 = nI (sN (g 0) L n + 1) from nI_1 _]
    refine loop 3 _ _ 1 _ rfl (by decide) ?_ (by omega) e0.symm z
    obtain ⟨m, em, m1, m2⟩ := dg_n z
    unfold dv
    rw [em, nI_clamp (by omega)]
    omega
  · exact d_fail _ X.2.2 _ _ L g _ ⟨rfl, sN (g 0) L n, hs, rfl⟩
  · rintro z E u ⟨rfl, x, hx9, rfl⟩
    exact hx x hx9 (fun q => q.1 z)
theorem d_add (T : ST) (b : Int32) (L : Nat) (x : Int32) (g : GT) (hL : L < 400) (Post : va_W → Prop) (hq : Post (TX T (L + 1) x (va_up g 0 (upd (g 0) L b)))) : uV T y_TR_add (Cond.code y_TR_add b_TR_add 2 none) 0 0 0 [.ref (ad T 20), .int b] (TX T L x g) Post := by
  refine e_TR_add T Post b (tsX L x) g ?_
  rintro C rfl X
  have h4 : ¬ (400 : Int32) ≤ nI L := fun z => absurd ((nI_leI (a := 400) (b := L) (by decide) (by omega)).mp z) (by omega)
  refine k_TR_add_0 X Post b (tsX L x) g 0 0 (fun z => absurd z h4) (fun _ => vi_n hL (by decide)) (fun _ => ?_)
  refine k_TR_add_30 X Post b _ _ 0 0 ⟨by decide, by decide⟩ ?_
  rw [show tsX L x 0 + 1 = nI (L + 1) from nI_1 L, show (tsX L x 0).toNatClampNeg = L from nI_clamp (by omega)]
  exact hq
