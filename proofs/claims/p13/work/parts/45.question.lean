-- words, questions, forgetting the rows
theorem nIs {a b : Nat} (h : a ≤ b) : nI b - nI a = nI (b - a) := by
  rw [show nI b = nI (b - a) + nI a by rw [nI_add, Nat.sub_add_cancel h]]
  exact Int32.add_sub_cancel _ _
theorem d_checkLength (T : ST) (x y : Int32) (Post : va_W → Prop) (h : x ≤ y) (hq : Post []) : uV T y_Ar_checkLength (Cond.code y_Ar_checkLength b_Ar_checkLength 2 none) 0 0 0 [.int x, .int y] [] Post := by
  refine e_Ar_checkLength T Post x y ?_
  rintro C rfl X
  exact k_Ar_checkLength_0 X Post x y 0 0 (fun _ => ⟨by decide, by decide⟩) (fun _ => hq) (fun z => z h)
theorem d_copyOfRangeInt (T : ST) (s N : Nat) (f : FT) (g : GT) (P : va_W) (h : s + N ≤ 400) (Post : Option Nat → va_W → Prop) (hq : ∀ w, Post (some w) ([(w, .inl (T.2.2.2.1 0, N, .inl (va_cpy (g 0) (fun _ => 0) s 0 N)))] ++ (s_t T.2.2.2.1 T.2.2.2.2 f g ++ P))) : uR T y_Ar_copyOfRangeInt (Cond.code y_Ar_copyOfRangeInt b_Ar_copyOfRangeInt 5 (some (.array .int))) 1 1 N [.ref (ad T 21), .int (nI s), .int (nI (s + N))] (s_t T.2.2.2.1 T.2.2.2.2 f g ++ P) Post := by
  refine e_Ar_copyOfRangeInt T Post (nI s) (nI (s + N)) f g P N ?_
  rintro C rfl X
  refine k_Ar_copyOfRangeInt_0 X Post (P_2 := fun u => True) (nI s) (nI (s + N)) f g P N 0 0 ⟨by decide, Nat.zero_le _⟩ (d_checkLength _ _ _ _ (nI_le (by omega) (by omega)) trivial) ?_
  intro u _
  have e1 : nI (s + N) - nI s = nI N := by rw [nIs (by omega), Nat.add_sub_cancel_left]
  have e2 : (if nI (s + N) - nI s < (nI 400) - nI s then nI (s + N) - nI s else (nI 400) - nI s : Int32) = nI N := by
    rw [e1]
    split
    · rfl
    · rename_i z
      rw [nIs (by omega), nI_ltI (by omega) (by omega)] at z
      rw [nIs (by omega)]
      congr 1; omega
  refine k_Ar_copyOfRangeInt_5 X Post (nI s) (nI (s + N)) f g P N 0 0 ⟨by omega, by omega⟩ (by rw [e1]; exact nI_pos (by omega)) (by rw [e1]; exact nI_clamp (by omega)) (by omega) (fun _ => ⟨by omega, by omega⟩) (fun _ => nI_pos (by omega)) (fun _ => by decide) (fun _ => by rw [e2]; exact nI_pos (by omega)) (fun _ => by rw [e2, nI_clamp (by omega), nI_clamp (by omega)]; exact h) (fun _ => by rw [e2, nI_clamp (by omega)]; exact Nat.le_of_eq (Nat.zero_add N)) (fun _ => ⟨by omega, by omega⟩) ?_
  intro w
  rw [e2, nI_clamp (by omega), nI_clamp (by omega)]
  exact hq w
theorem d_copyOfRange (T : ST) (s N : Nat) (f : FT) (g : GT) (P : va_W) (h0 : 0 < s) (h : s + N ≤ 400) (Post : Option Nat → va_W → Prop) (hq : ∀ w, Post (some w) (s_t T.2.2.2.1 T.2.2.2.2 f g ++ ((w, .inl (T.2.2.2.1 0, N, .inl (va_cpy (g 0) (fun _ => 0) s 0 N))) :: P))) : uR T y_Ar_copyOfRange (Cond.code y_Ar_copyOfRange b_Ar_copyOfRange 3 (some (.array .int))) 2 1 N [.ref (ad T 21), .int (nI s), .int (nI (s + N))] (s_t T.2.2.2.1 T.2.2.2.2 f g ++ P) Post := by
  refine e_Ar_copyOfRange T Post (nI s) (nI (s + N)) f g P N ?_
  rintro C rfl X
  refine k_Ar_copyOfRange_0 X Post (P_13 := fun r u => ∃ w, r = some w ∧ u = [(w, .inl (C.1.2.2.2.1 0, N, .inl (va_cpy (g 0) (fun _ => 0) s 0 N)))] ++ (s_t C.1.2.2.2.1 C.1.2.2.2.2 f g ++ P)) (nI s) (nI (s + N)) f g P N 0 0 (fun _ => ⟨by omega, by omega⟩) (fun _ => d_copyOfRangeInt _ s N f g P h _ (fun w => ⟨w, rfl, rfl⟩)) ?_ (fun z => absurd z (nI_ne0 h0 (by omega)))
  rintro _ r u ⟨w, rfl, rfl⟩
  refine zW_perm (front_perm _ _ _) ?_
  exact k_Ar_copyOfRange_16 X Post (nI s) (nI (s + N)) w f g _ N _ _ ⟨by omega, by omega⟩ (hq w)
set_option maxHeartbeats 1000000 in
theorem d_readWords (T : ST) (hlt : T.1.stackTraces = false) (L n : Nat) (g : GT) (P : va_W) (hL : L ≤ 400) (hn : n ≤ L) (Post : Option Nat → va_W → Prop) (hq : ∀ d n' a P', kWords (g 0) L n = some (d, n') → n + 3 ≤ n' → n' ≤ L → Sub P P' → eWd T.2.2.2.1 P' a d → Post (some a) (TX T L (nI n') g ++ P')) : xR T y_TR_readWords (Cond.code y_TR_readWords b_TR_readWords 2 (some (.array .int))) 3 3 24 [.ref (ad T 20)] (TX T L (nI n) g ++ P) Post (XT T L g P (kWords (g 0) L n = none)) := by
  refine e_TR_readWords T hlt Post _ (tsX L (nI n)) g P 0 ?_
  rintro C rfl X
  have s94 : ∀ m x1, m ≤ L → kWords (g 0) L n = none → zc_TR_readWords C Post (XT C.1 L g P (kWords (g 0) L n = none)) 1 6 94 [(0, .ref (ad C.1 20)), (1, .int x1)] [] (TX C.1 L (nI m) g ++ P) := by
    intro m x1 hm hk
    refine k_TR_readWords_94 X Post _ (P_99 := fun _ => False) (X_99 := fun E u => E = IAE ∧ u = TX C.1 L (nI m) g) x1 (tsX L (nI m)) g P 0 1 6 ⟨by decide, by decide⟩ ?_ (fun u h => h.elim) ?_
    · exact d_fail _ X.2.2 _ _ L g _ ⟨rfl, rfl⟩
    · rintro E u ⟨rfl, rfl⟩
      exact XT.app hk hm Sub.rf
  have s102 : ∀ m i, kWords (g 0) L n = some ((i, fun j => g 0 (m + j)), m + i + 1) → n + 1 ≤ m → 1 ≤ i → i ≤ 12 → m + i < L → zc_TR_readWords C Post (XT C.1 L g P (kWords (g 0) L n = none)) 1 6 102 [(0, .ref (ad C.1 20)), (1, .int (nI m))] [] (TX C.1 L (nI (m + i)) g ++ P) := by
    intro m i hk hm h1 h2 h3
    refine k_TR_readWords_102 X Post _ (P_123 := fun r u => ∃ w, r = some w ∧ u = TX C.1 L (nI (m + i + 1)) g ++ ((w, .inl (C.1.2.2.2.1 0, i, .inl (va_cpy (g 0) (fun _ => 0) m 0 i))) :: P)) (nI m) (tsX L (nI (m + i))) g P i 1 6 ⟨by decide, by omega⟩ ?_ ?_
    · have e3 : tsX L (nI (m + i)) 1 + 1 - 1 = nI (m + i) := Int32.add_sub_cancel _ _
      rw [e3]
      refine d_copyOfRange _ m i _ g P (by omega) (by omega) _ (fun w => ⟨w, rfl, ?_⟩)
      rw [show tsX L (nI (m + i)) 1 + 1 = nI (m + i + 1) from nI_1 _]
      rfl
    · rintro r u ⟨w, rfl, rfl⟩
      exact k_TR_readWords_126 X Post _ (nI m) w (tsX L (nI (m + i + 1))) g _ 0 _ _ ⟨by decide, by omega⟩ (hq (i, fun j => g 0 (m + j)) (m + i + 1) w _ hk (by omega) (by omega) Sub.cons ⟨_, List.mem_cons_self, h1, h2, fun j hj => by
        show va_cpy (g 0) (fun _ => 0) m 0 i j = g 0 (m + j)
        unfold va_cpy
        rw [if_pos ⟨Nat.zero_le _, by rw [Nat.zero_add]; exact hj⟩, Nat.sub_zero]⟩)
  have s61 : ∀ m i, kWords (g 0) L n = kWend (g 0) L m i → n + 1 ≤ m → i ≤ 12 → m + i ≤ L → zc_TR_readWords C Post (XT C.1 L g P (kWords (g 0) L n = none)) 1 6 61 [(0, .ref (ad C.1 20)), (1, .int (nI m))] [] (TX C.1 L (nI (m + i)) g ++ P) := by
    intro m i hk hm h2 h3
    have hc : (tsX L (nI (m + i)) 1).toNatClampNeg = m + i := nI_clamp (by omega)
    refine k_TR_readWords_61 X Post _ (nI m) (tsX L (nI (m + i))) g P 0 1 6 (fun z => ?_) (fun _ z => ?_) (fun _ z => ?_) (fun z1 z z3 => ?_) (fun _ _ z3 => ?_)
    · have z : nI (m + i) = nI m := z
      rw [nI_eq (by omega) (by omega)] at z
      exact s94 _ _ h3 (by rw [hk]; exact if_pos (Or.inl (by omega)))
    · have z : nI L ≤ nI (m + i) := z
      rw [nI_leI (by omega) (by omega)] at z
      exact s94 _ _ h3 (by rw [hk]; exact if_pos (Or.inr (Or.inl (by omega))))
    · have z : ¬ nI L ≤ nI (m + i) := z
      rw [nI_leI (by omega) (by omega)] at z
      exact vi_n (show m + i < 400 by omega) (by decide)
    · have z : ¬ nI L ≤ nI (m + i) := z
      have z1 : ¬ nI (m + i) = nI m := z1
      rw [nI_leI (by omega) (by omega)] at z
      rw [nI_eq (by omega) (by omega)] at z1
      rw [hc] at z3
      exact s102 m i (by rw [hk]; exact if_neg (fun q => by rcases q with q | q | q; omega; omega; exact q z3)) hm (by omega) h2 (by omega)
    · rw [hc] at z3
      exact s94 _ _ h3 (by rw [hk]; exact if_pos (Or.inr (Or.inr z3)))
  have loop : ∀ k i m, kWords (g 0) L n = kWend (g 0) L m (wL (g 0) L k m i) → k + i = 12 → n + 1 ≤ m → m + i ≤ L → zc_TR_readWords C Post (XT C.1 L g P (kWords (g 0) L n = none)) 1 6 11 [(0, .ref (ad C.1 20)), (1, .int (nI m))] [] (TX C.1 L (nI (m + i)) g ++ P) := by
    intro k
    induction k with
    | zero =>
      intro i m hk0 hk hm h3
      have hz : nI m + 12 ≤ nI (m + i) := by
        rw [show nI m + 12 = nI (m + 12) from nI_add m 12]; exact nI_le (by omega) (by omega)
      exact k_TR_readWords_11 X Post _ (P_42 := fun _ _ => True) (nI m) (tsX L (nI (m + i))) g P 0 1 6 (fun _ => s61 m i hk0 hm (by omega) h3) (fun _ _ => s61 m i hk0 hm (by omega) h3) (fun _ z => absurd hz z) (fun _ z => absurd hz z) (fun _ z => absurd hz z) (fun _ z => absurd hz z)
    | succ k ih =>
      intro i m hk0 hk hm h3
      have hc : (tsX L (nI (m + i)) 1).toNatClampNeg = m + i := nI_clamp (by omega)
      refine k_TR_readWords_11 X Post _ (P_42 := fun r _ => r = wbV (g 0 (m + i))) (nI m) (tsX L (nI (m + i))) g P 0 1 6 (fun z => ?_) (fun _ z => ?_) (fun z _ => ?_) (fun _ _ => ⟨by decide, by decide⟩) (fun _ _ => ?_) (fun z _ y u hy => ?_)
      · have z : nI L ≤ nI (m + i) := z
        rw [nI_leI (by omega) (by omega)] at z
        refine s61 m i ?_ hm (by omega) h3
        rw [hk0, show wL (g 0) L (k + 1) m i = i from if_neg (fun q => absurd q.1 (by omega))]
      · have z : nI m + 12 ≤ nI (m + i) := z
        rw [show nI m + 12 = nI (m + 12) from nI_add m 12, nI_leI (by omega) (by omega)] at z
        omega
      · have z : ¬ nI L ≤ nI (m + i) := z
        rw [nI_leI (by omega) (by omega)] at z
        exact vi_n (show m + i < 400 by omega) (by decide)
      · rw [hc]; exact d_isWordByte _ _ _ rfl
      · have z : ¬ nI L ≤ nI (m + i) := z
        rw [nI_leI (by omega) (by omega)] at z
        subst hy
        refine k_TR_readWords_45 X Post _ (nI m) _ (tsX L (nI (m + i))) g P 0 1 6 (fun y0 => ?_) (fun y0 => ?_)
        · refine s61 m i ?_ hm (by omega) h3
          rw [hk0, show wL (g 0) L (k + 1) m i = i from if_neg (fun q => q.2 y0)]
        · rw [show tsX L (nI (m + i)) 1 + 1 = nI (m + (i + 1)) from nI_1 (m + i)]
          refine ih (i + 1) m ?_ (by omega) hm (by omega)
          rw [hk0, show wL (g 0) L (k + 1) m i = wL (g 0) L k m (i + 1) from if_pos ⟨by omega, y0⟩]
  refine k_TR_readWords_0 X Post _ (P_3 := fun u => ∃ m', kTake (g 0) L 34 n = some m' ∧ u = TX C.1 L (nI m') g) (X_3 := fun E u => kTake (g 0) L 34 n = none ∧ E = IAE ∧ ∃ m, m ≤ L ∧ u = TX C.1 L (nI m) g) (tsX L (nI n)) g P 0 0 0 ⟨by decide, by decide⟩ ?_ ?_ ?_
  · exact d_tak _ X.2.2 34 L n g hL hn _ _ (fun m h => ⟨m, h, rfl⟩) (fun m hm h => ⟨h, rfl, m, hm, rfl⟩)
  · rintro u ⟨m, h1, rfl⟩
    obtain ⟨hm1, hm2⟩ := kTake_lt h1 (by decide +kernel)
    exact k_TR_readWords_6 X Post _ (tsX L (nI m)) g P 0 _ _ (loop 12 0 m (by unfold kWords; rw [h1]; rfl) rfl hm1 hm2)
  · rintro E u ⟨h1, rfl, x, hx, rfl⟩
    exact XT.app (by unfold kWords; rw [h1]; rfl) hx Sub.rf
theorem d_Qu (T : ST) (q : Nat) (x1 : Int32) (x2 x3 x4 x5 x6 : Nat) (hx : x1 = 0 ∨ x1 = 1) (Post : va_W → Prop) (hq : Post [(q, .inr (6, [.int x1, .ref x2, .ref x3, .ref x4, .ref x5, .ref x6]))]) : uV T y_Qu_init (Cond.code y_Qu_init b_Qu_init 7 none) 0 0 0 [.ref q, .int x1, .ref x2, .ref x3, .ref x4, .ref x5, .ref x6] [(q, .inr (6, [.int 0, .null, .null, .null, .null, .null]))] Post := by
  refine e_Qu_init T Post x1 x2 x3 x4 x5 x6 q ?_
  rintro C rfl X
  rcases hx with rfl | rfl
  · exact k_Qu_init_0 X Post 0 x2 x3 x4 x5 x6 q 0 0 (by decide +kernel) (by decide +kernel) ⟨by decide, by decide⟩ hq
  · exact k_Qu_init_0 X Post 1 x2 x3 x4 x5 x6 q 0 0 (by decide +kernel) (by decide +kernel) ⟨by decide, by decide⟩ hq
theorem XK.in1 {T : ST} {L : Nat} {g : GT} {r : Nat → Nat → Option Nat} {P P1 : va_W} {F F1 : Prop} {E : String} {u : va_W} (h : XT T L g P1 F1 E u) (hF : F1 → F) (hs : Sub P P1) : XK T L g r P F E (RX T r ++ u) := by
  obtain ⟨f1, e, x, P', hx, h1, h2⟩ := h
  exact ⟨hF f1, e, x, P', hx, (h1.append_left (RX T r)).trans (zp3 _ _ _), hs.tr h2⟩
theorem front_perm3 (x : Nat × va_E) (X Y Z P : va_W) : ([x] ++ (X ++ (Y ++ (Z ++ P)))).Perm (X ++ (Y ++ (Z ++ (x :: P)))) := (front_perm2 x X Y (Z ++ P)).trans (((front_perm x Z P).append_left Y).append_left X)
def Qp (k : Nat → ClassId) (P : va_W) (x2 : Int32) (x3 x4 x5 : Nat) (sd : Int32 × Int32) (wa wb : WD) : Prop := (x2 = 0 ∨ x2 = 1) ∧ eSp P x3 sd.1 sd.2 ∧ eWd k P x4 wa ∧ eWd k P x5 wb
theorem Qp.mono {k : Nat → ClassId} {P P' : va_W} {x2 : Int32} {x3 x4 x5 : Nat} {sd : Int32 × Int32} {wa wb : WD} (h : Qp k P x2 x3 x4 x5 sd wa wb) (hs : Sub P P') : Qp k P' x2 x3 x4 x5 sd wa wb := ⟨h.1, h.2.1.mono hs, h.2.2.1.mono hs, h.2.2.2.mono hs⟩
set_option maxHeartbeats 1000000 in
theorem d_readQuestion (T : ST) (hlt : T.1.stackTraces = false) (L n : Nat) (g : GT) (r : Nat → Nat → Option Nat) (P : va_W) (hL : L ≤ 400) (hn : n ≤ L) (Post : va_W → Prop) (hq : ∀ j d n' a P', kQues false (g 0) L (fun j => (r 0 j).isSome) n = some (j, d, n') → j < 61 → n + 11 ≤ n' → n' ≤ L → Sub P P' → eQu T.2.2.2.1 P' a d → Post (TX T L (nI n') g ++ (RX T (va_up r 0 (va_up (r 0) j (some a))) ++ P'))) : xV T y_TR_readQuestion (Cond.code y_TR_readQuestion b_TR_readQuestion 8 none) 6 130 760 [.ref (ad T 20)] (TX T L (nI n) g ++ (RX T r ++ P)) Post (XK T L g r P (kQues false (g 0) L (fun j => (r 0 j).isSome) n = none)) := by
  refine e_TR_readQuestion T hlt Post _ (tsX L (nI n)) g r P ?_
  rintro C rfl X
  generalize hkk : kQues false (g 0) L (fun j => (r 0 j).isSome) n = KK at hq ⊢
  have s138 : ∀ j x2 x3 x4 x5 x6 x7 aw P1 xs ds sd wa wb m, KK = kQ4 false (g 0) L j x2 sd wa wb ds m → j < 61 → Qp C.1.2.2.2.1 P1 x2 x3 x4 x5 sd wa wb → isAL C.1.2.2.2.1 x6 xs aw → xs.length ≤ 5 → A2 (eJu P1) xs ds → Sub P P1 → n + 8 ≤ m → m ≤ L → zc_TR_readQuestion C Post (XK C.1 L g r P (KK = none)) 110 650 138 [(0, .ref (ad C.1 20)), (1, .int (nI j)), (2, .int x2), (3, .ref x3), (4, .ref x4), (5, .ref x5), (6, .ref x6), (7, .int x7)] [] (TX C.1 L (nI m) g ++ (RX C.1 r ++ (aw ++ P1))) := by
    intro j x2 x3 x4 x5 x6 x7 aw P1 xs ds sd wa wb m hk hj hQ hal hlen hju hsub hm1 hm2
    refine k_TR_readQuestion_138 X Post _ (P_147 := fun w u => u = [(w, .inr (7, [.int (-1), .int 9999]))]) (nI j) x2 x3 x4 x5 x6 x7 aw (tsX L (nI m)) g r P1 110 650 ⟨by decide, by decide⟩ (fun _ => ⟨by decide, by decide⟩) (fun w => d_Sp _ w _ _ _ rfl) ?_
    rintro w u rfl
    refine zW_perm (front_perm3 _ _ _ _ _) ?_
    refine k_TR_readQuestion_150 X Post _ (P_150 := fun y u => ∃ d n' a P2, y = some a ∧ kJump false (g 0) L m = some (d, n') ∧ m + 2 ≤ n' ∧ n' ≤ L ∧ Sub ((w, .inr (7, [.int (-1), .int 9999])) :: P1) P2 ∧ eJu P2 a (-1, 9999, d.1, d.2) ∧ u = TX C.1 L (nI n') g ++ P2) (X_150 := XT C.1 L g ((w, .inr (7, [.int (-1), .int 9999])) :: P1) (kJump false (g 0) L m = none)) (nI j) x2 x3 x4 x5 x6 x7 w aw (tsX L (nI m)) g r ((w, .inr (7, [.int (-1), .int 9999])) :: P1) _ _ ⟨by decide, by decide⟩ ?_ ?_ ?_
    · exact d_readJump _ X.2.2 w L m (-1) 9999 g _ hL hm2 List.mem_cons_self _ (fun d n' a P2 h0 h1 h2 h3 h4 => ⟨d, n', a, P2, rfl, h0, h1, h2, h3, h4, rfl⟩)
    · rintro y u ⟨d, m1, jx, P2, rfl, h0, hm3, hm4, hs2, hjx, rfl⟩
      have hs2 : Sub P1 P2 := Sub.cons.tr hs2
      have hsub2 : Sub P (aw ++ P2) := (hsub.tr hs2).tr Sub.app
      refine zW_perm (zp_back _ _ _ _) ?_
      refine k_TR_readQuestion_153 X Post _ (P_158 := fun u => ∃ m', kTake (g 0) L 59 m1 = some m' ∧ u = TX C.1 L (nI m') g) (X_158 := fun E u => kTake (g 0) L 59 m1 = none ∧ E = IAE ∧ ∃ m, m ≤ L ∧ u = TX C.1 L (nI m) g) (nI j) x2 x3 x4 x5 x6 x7 jx aw (tsX L (nI m1)) g r P2 _ _ ⟨by decide, by decide⟩ ?_ ?_ ?_
      · exact d_tak _ X.2.2 59 L m1 g hL hm4 _ _ (fun m h => ⟨m, h, rfl⟩) (fun m hm h => ⟨h, rfl, m, hm, rfl⟩)
      · rintro u ⟨m2, h1, rfl⟩
        obtain ⟨hm5, hm6⟩ := kTake_lt h1 (by decide +kernel)
        refine k_TR_readQuestion_161 X Post _ (P_180 := fun w u => u = [(w, .inr (6, [.int x2, .ref x3, .ref x4, .ref x5, .ref x6, .ref jx]))]) (nI j) x2 x3 x4 x5 x6 jx aw (tsX L (nI m2)) g r P2 _ _ ⟨by decide, by decide⟩ (fun _ => ⟨by decide, by decide⟩) (fun w => d_Qu _ w x2 x3 x4 x5 x6 jx hQ.1 _ rfl) ?_
        rintro w2 u rfl
        refine zW_perm (front_perm2 _ _ _ _) ?_
        refine k_TR_readQuestion_183 X Post _ (nI j) x2 x3 x4 x5 x6 jx w2 (nI j) (tsX L (nI m2)) g r ((w2, .inr (6, [.int x2, .ref x3, .ref x4, .ref x5, .ref x6, .ref jx])) :: (aw ++ P2)) _ 0 _ _ rfl (vi_n hj (by decide)) ⟨by decide, by decide⟩ ?_
        rw [nI_clamp (show j < 2 ^ 31 by omega)]
        have hs3 : Sub P2 ((w2, .inr (6, [.int x2, .ref x3, .ref x4, .ref x5, .ref x6, .ref jx])) :: (aw ++ P2)) := Sub.app.tr Sub.cons
        have hQ3 := hQ.mono (hs2.tr hs3)
        exact hq j (x2, sd, wa, wb, ds, (-1, 9999, d.1, d.2)) m2 w2 _ (by simp only [hk, kQ4, h0, h1, Option.bind_some]) hj (by omega) hm6 (hsub2.tr Sub.cons) ⟨x3, x4, x5, x6, jx, xs, aw, List.mem_cons_self, hQ3.1, hQ3.2.1, hQ3.2.2.1, hQ3.2.2.2, hjx.mono hs3, hal, fun q hq => List.mem_cons_of_mem _ (List.mem_append_left _ hq), hlen, hju.mono (fun _ _ q => q.mono (hs2.tr hs3))⟩
      · rintro E u ⟨h1, rfl, x, hx, rfl⟩
        exact XK.app (by simp only [hk, kQ4, h0, h1, Option.bind_some, Option.bind_none]) hx hsub2
    · intro E u h
      exact XK.in h (fun h0 => by simp only [hk, kQ4, h0, Option.bind_none]) (hsub.tr Sub.cons)
  have loop : ∀ i c j x2 x3 x4 x5 x6 aw P1 xs ds sd wa wb m, KK = ((kJumps false (g 0) L i m ds).bind fun js => kQ4 false (g 0) L j x2 sd wa wb js.1 js.2) → i + c = 5 → j < 61 → Qp C.1.2.2.2.1 P1 x2 x3 x4 x5 sd wa wb → isAL C.1.2.2.2.1 x6 xs aw → xs.length = c → A2 (eJu P1) xs ds → Sub P P1 → n + 8 ≤ m → m ≤ L → zc_TR_readQuestion C Post (XK C.1 L g r P (KK = none)) (20 + 18 * c) (125 + 105 * c) 93 [(0, .ref (ad C.1 20)), (1, .int (nI j)), (2, .int x2), (3, .ref x3), (4, .ref x4), (5, .ref x5), (6, .ref x6), (7, .int (nI (c + 1)))] [] (TX C.1 L (nI m) g ++ (RX C.1 r ++ (aw ++ P1))) := by
    intro i
    induction i with
    | zero =>
      intro c j x2 x3 x4 x5 x6 aw P1 xs ds sd wa wb m hk hi hj hQ hal hlen hju hsub hm1 hm2
      have h6 : (6 : Int32) ≤ nI (c + 1) := (nI_leI (a := 6) (b := c + 1) (by decide) (by omega)).mpr (by omega)
      exact k_TR_readQuestion_93 X Post _ (P_101 := fun _ _ => True) (nI j) x2 x3 x4 x5 x6 _ aw (tsX L (nI m)) g r P1 _ _ (fun _ => zW_wide (by omega) (by omega) (s138 j x2 x3 x4 x5 x6 _ aw P1 xs ds sd wa wb m hk hj hQ hal (by omega) hju hsub hm1 hm2)) (fun z => absurd h6 z) (fun z => absurd h6 z) (fun z => absurd h6 z)
    | succ i ih =>
      intro c j x2 x3 x4 x5 x6 aw P1 xs ds sd wa wb m hk hi hj hQ hal hlen hju hsub hm1 hm2
      have h6 : ¬ (6 : Int32) ≤ nI (c + 1) := fun z => absurd ((nI_leI (a := 6) (b := c + 1) (by decide) (by omega)).mp z) (by omega)
      have h7 := sN_ge (g 0) L m
      have hm4 := sN_le (g 0) hm2
      refine k_TR_readQuestion_93 X Post _ (P_101 := fun y u => y = tp (g 0) L (sN (g 0) L m) ∧ u = TX C.1 L (nI (sN (g 0) L m)) g) (nI j) x2 x3 x4 x5 x6 _ aw (tsX L (nI m)) g r P1 _ _ (fun z => absurd z h6) (fun _ => ⟨by omega, by omega⟩) (fun _ => d_nextSign _ L m g hL hm2 _ ⟨rfl, rfl⟩) ?_
      rintro _ y u ⟨rfl, rfl⟩
      refine k_TR_readQuestion_104 X Post _ (P_104 := fun y _ => y = dg (tp (g 0) L (sN (g 0) L m))) (nI j) x2 x3 x4 x5 x6 _ _ aw (tsX L (nI (sN (g 0) L m))) g r P1 _ _ ⟨by omega, by omega⟩ (d_isDigit _ _ _ rfl) ?_
      rintro y u rfl
      refine k_TR_readQuestion_107 X Post _ (P_114 := fun y u => ∃ d n' a P2, y = some a ∧ kSpan false (g 0) L (sN (g 0) L m) = some (d, n') ∧ sN (g 0) L m + 3 ≤ n' ∧ n' ≤ L ∧ Sub P1 P2 ∧ eSp P2 a d.1 d.2 ∧ u = TX C.1 L (nI n') g ++ P2) (X_114 := XT C.1 L g P1 (kSpan false (g 0) L (sN (g 0) L m) = none)) (nI j) x2 x3 x4 x5 x6 _ _ aw (tsX L (nI (sN (g 0) L m))) g r P1 _ _ (fun z => ?_) (fun _ => ⟨by omega, by omega⟩) (fun _ => ?_) ?_ (fun z E u h => XK.in h (fun h0 => by rw [hk, kJumps, if_pos z, h0]; rfl) hsub)
      · exact zW_wide (by omega) (by omega) (s138 j x2 x3 x4 x5 x6 _ aw P1 xs ds sd wa wb _ (by rw [hk, kJumps, if_neg (fun q => q z)]; rfl) hj hQ hal (by omega) hju hsub (by omega) hm4)
      · exact d_readSpan _ X.2.2 L _ g P1 hL hm4 _ (fun d n' a P2 h0 h1 h2 h3 h4 => ⟨d, n', a, P2, rfl, h0, h1, h2, h3, h4, rfl⟩)
      rintro z y u ⟨d, m2, sp, P2, rfl, h0, hm5, hm6, hs2, hsp, rfl⟩
      have hk2 : KK = (((kJump false (g 0) L m2).bind fun r => (kTake (g 0) L 44 r.2).bind fun m => kJumps false (g 0) L i m (ds ++ [(d.1, d.2, r.1.1, r.1.2)])).bind fun js => kQ4 false (g 0) L j x2 sd wa wb js.1 js.2) := by rw [hk, kJumps, if_pos z, h0]; rfl
      refine zW_perm (zp_back _ _ _ _) ?_
      refine k_TR_readQuestion_117 X Post _ (P_117 := fun y u => ∃ d3 n' a P3, y = some a ∧ kJump false (g 0) L m2 = some (d3, n') ∧ m2 + 2 ≤ n' ∧ n' ≤ L ∧ Sub P2 P3 ∧ eJu P3 a (d.1, d.2, d3.1, d3.2) ∧ u = TX C.1 L (nI n') g ++ P3) (X_117 := XT C.1 L g P2 (kJump false (g 0) L m2 = none)) (nI j) x2 x3 x4 x5 x6 _ sp x6 aw (tsX L (nI m2)) g r P2 _ _ ⟨by omega, by omega⟩ ?_ ?_ (fun E u h => XK.in h (fun h1 => by rw [hk2, h1]; rfl) (hsub.tr hs2))
      · exact d_readJump _ X.2.2 sp L m2 d.1 d.2 g P2 hL hm6 hsp _ (fun d3 n' a P3 h0 h1 h2 h3 h4 => ⟨d3, n', a, P3, rfl, h0, h1, h2, h3, h4, rfl⟩)
      rintro y u ⟨d3, m3, a, P3, rfl, h1, hm7, hm8, hs3, hta, rfl⟩
      refine zW_perm (zp_back _ _ _ _) ?_
      have hs13 : Sub P1 P3 := hs2.tr hs3
      obtain ⟨z1, hmem, -⟩ := id hta
      refine k_TR_readQuestion_120 X Post _ (P_120 := fun _ u => ∃ w', u.Perm (w' ++ P3) ∧ isAL C.1.2.2.2.1 x6 (xs ++ [a]) w') (nI j) x2 x3 x4 x5 x6 _ a x6 aw (tsX L (nI m3)) g r P3 _ _ ⟨by omega, by omega⟩ ?_ ?_ hal.recv
      · exact d_add_J _ x6 a xs _ aw P3 hmem hal (by omega)
      rintro y u ⟨w', hp, hal'⟩
      refine zW_perm (hp.append_left _) ?_
      refine zW_perm (ws' := TX C.1 L (nI m3) g ++ (RX C.1 r ++ (w' ++ P3))) (by rw [List.append_assoc]; exact List.Perm.refl _) ?_
      refine k_TR_readQuestion_125 X Post _ (P_129 := fun u => ∃ m', kTake (g 0) L 44 m3 = some m' ∧ u = TX C.1 L (nI m') g) (X_129 := fun E u => kTake (g 0) L 44 m3 = none ∧ E = IAE ∧ ∃ m, m ≤ L ∧ u = TX C.1 L (nI m) g) (nI j) x2 x3 x4 x5 x6 _ y w' (tsX L (nI m3)) g r P3 _ _ ⟨by omega, by omega⟩ ?_ ?_ ?_
      · exact d_tak _ X.2.2 44 L m3 g hL hm8 _ _ (fun m h => ⟨m, h, rfl⟩) (fun m hm h => ⟨h, rfl, m, hm, rfl⟩)
      · rintro u ⟨m4, h2, rfl⟩
        obtain ⟨hm9, hm10⟩ := kTake_lt h2 (by decide +kernel)
        refine k_TR_readQuestion_132 X Post _ (nI j) x2 x3 x4 x5 x6 _ w' (tsX L (nI m4)) g r P3 _ _ ?_
        rw [nI_1]
        exact zW_wide (by omega) (by omega) (ih (c + 1) j x2 x3 x4 x5 x6 w' P3 (xs ++ [a]) (ds ++ [(d.1, d.2, d3.1, d3.2)]) sd wa wb m4 (by simp only [hk2, h1, h2, Option.bind_some]) (by omega) hj (hQ.mono hs13) hal' (by simp [hlen]) (A2.snoc hta (hju.mono (fun _ _ q => q.mono hs13))) (hsub.tr hs13) (by omega) hm10)
      · rintro E u ⟨h2, rfl, x, hx, rfl⟩
        exact XK.app (by simp only [hk2, h1, h2, Option.bind_some, Option.bind_none]) hx ((hsub.tr hs13).tr Sub.app)
  have s73 : ∀ j x2 x3 x4 y0 P1 sd wa wb m, KK = kQ3 false (g 0) L j x2 sd wa wb m → j < 61 → Qp C.1.2.2.2.1 P1 x2 x3 x4 y0 sd wa wb → Sub P P1 → n + 7 ≤ m → m ≤ L → zc_TR_readQuestion C Post (XK C.1 L g r P (KK = none)) 18 116 73 [(0, .ref (ad C.1 20)), (1, .int (nI j)), (2, .int x2), (3, .ref x3), (4, .ref x4)] [.ref y0] (TX C.1 L (nI m) g ++ (RX C.1 r ++ P1)) := by
    intro j x2 x3 x4 y0 P1 sd wa wb m hk hj hQ hsub hm1 hm2
    refine k_TR_readQuestion_73 X Post _ (P_78 := fun u => ∃ m', kTake (g 0) L 58 m = some m' ∧ u = TX C.1 L (nI m') g) (X_78 := fun E u => kTake (g 0) L 58 m = none ∧ E = IAE ∧ ∃ m, m ≤ L ∧ u = TX C.1 L (nI m) g) (nI j) x2 x3 x4 y0 (tsX L (nI m)) g r P1 18 116 ⟨by decide, by decide⟩ ?_ ?_ ?_
    · exact d_tak _ X.2.2 58 L m g hL hm2 _ _ (fun m h => ⟨m, h, rfl⟩) (fun m hm h => ⟨h, rfl, m, hm, rfl⟩)
    · rintro u ⟨m4, h1, rfl⟩
      obtain ⟨hm9, hm10⟩ := kTake_lt h1 (by decide +kernel)
      refine k_TR_readQuestion_81 X Post _ (P_85 := fun w u => u = [(w, .inr (11, [.int 0, .ref (C.1.2.2.2.1 7), .int 0]))]) (nI j) x2 x3 x4 y0 (tsX L (nI m4)) g r P1 _ _ ⟨by decide, by decide⟩ (fun _ => ⟨by decide, by decide⟩) (fun w => d_ALinit _ w _ rfl) ?_
      rintro w u rfl
      refine zW_perm (zp_ins _ _ _ _) ?_
      refine k_TR_readQuestion_88 X Post _ (nI j) x2 x3 x4 y0 w _ (tsX L (nI m4)) g r P1 _ _ ?_
      have hal0 : isAL C.1.2.2.2.1 w [] [(w, .inr (11, [.int 0, .ref (C.1.2.2.2.1 7), .int 0]))] := Or.inl ⟨rfl, 0, rfl⟩
      exact zW_wide (by decide) (by decide) (loop 5 0 j x2 x3 x4 y0 w _ P1 [] [] sd wa wb m4 (by simp only [hk, kQ3, h1, Option.bind_some]) rfl hj hQ hal0 rfl trivial hsub (by omega) hm10)
    · rintro E u ⟨h1, rfl, x, hx, rfl⟩
      exact XK.app (by simp only [hk, kQ3, h1, Option.bind_none]) hx hsub
  have s44 : ∀ j x2 m, KK = kQ2 false (g 0) L j x2 m → j < 61 → (x2 = 0 ∨ x2 = 1) → n + 1 ≤ m → m ≤ L → zc_TR_readQuestion C Post (XK C.1 L g r P (KK = none)) 4 24 44 [(0, .ref (ad C.1 20)), (1, .int (nI j)), (2, .int x2)] [] (TX C.1 L (nI m) g ++ (RX C.1 r ++ P)) := by
    intro j x2 m hk hj hx2 hm1 hm2
    refine k_TR_readQuestion_44 X Post _ (P_45 := fun y u => ∃ d n' a P2, y = some a ∧ kSpan false (g 0) L m = some (d, n') ∧ m + 3 ≤ n' ∧ n' ≤ L ∧ Sub P P2 ∧ eSp P2 a d.1 d.2 ∧ u = TX C.1 L (nI n') g ++ P2) (X_45 := XT C.1 L g P (kSpan false (g 0) L m = none)) (nI j) x2 (tsX L (nI m)) g r P 4 24 ⟨by decide, by decide⟩ ?_ ?_ (fun E u h => XK.in1 h (fun h0 => by simp only [hk, kQ2, h0, Option.bind_none]) Sub.rf)
    · exact d_readSpan _ X.2.2 L m g P hL hm2 _ (fun d n' a P2 h0 h1 h2 h3 h4 => ⟨d, n', a, P2, rfl, h0, h1, h2, h3, h4, rfl⟩)
    rintro y u ⟨sd, m1, sp, P1, rfl, h0, hm3, hm4, hs1, hsp, rfl⟩
    refine zW_perm (zp3 _ _ _) ?_
    refine k_TR_readQuestion_48 X Post _ (P_50 := fun y u => ∃ d n' a P2, y = some a ∧ kWords (g 0) L m1 = some (d, n') ∧ m1 + 3 ≤ n' ∧ n' ≤ L ∧ Sub P1 P2 ∧ eWd C.1.2.2.2.1 P2 a d ∧ u = TX C.1 L (nI n') g ++ P2) (X_50 := XT C.1 L g P1 (kWords (g 0) L m1 = none)) (nI j) x2 sp (tsX L (nI m1)) g r P1 _ _ ⟨by decide, by decide⟩ ?_ ?_ (fun E u h => XK.in1 h (fun h1 => by simp only [hk, kQ2, h0, h1, Option.bind_some, Option.bind_none]) hs1)
    · exact d_readWords _ X.2.2 L m1 g P1 hL hm4 _ (fun d n' a P2 h0 h1 h2 h3 h4 => ⟨d, n', a, P2, rfl, h0, h1, h2, h3, h4, rfl⟩)
    rintro y u ⟨da, m2, wa, P2, rfl, h1, hm5, hm6, hs2, hwa, rfl⟩
    have h7 := sN_ge (g 0) L m2
    have hm8 := sN_le (g 0) hm6
    have hk2 : KK = ((kWb (g 0) L da m2).bind fun wb => kQ3 false (g 0) L j x2 sd da wb.1 wb.2) := by simp only [hk, kQ2, h0, h1, Option.bind_some]
    refine zW_perm (zp3 _ _ _) ?_
    refine k_TR_readQuestion_53 X Post _ (P_56 := fun y u => y = tp (g 0) L (sN (g 0) L m2) ∧ u = TX C.1 L (nI (sN (g 0) L m2)) g) (nI j) x2 sp wa (tsX L (nI m2)) g r P2 _ _ ⟨by decide, by decide⟩ (d_nextSign _ L m2 g hL hm6 _ ⟨rfl, rfl⟩) ?_
    rintro y u ⟨rfl, rfl⟩
    refine k_TR_readQuestion_59 X Post _ (P_65 := fun y u => ∃ d n' a P3, y = some a ∧ kWords (g 0) L (sN (g 0) L m2) = some (d, n') ∧ sN (g 0) L m2 + 3 ≤ n' ∧ n' ≤ L ∧ Sub P2 P3 ∧ eWd C.1.2.2.2.1 P3 a d ∧ u = TX C.1 L (nI n') g ++ P3) (X_65 := XT C.1 L g P2 (kWords (g 0) L (sN (g 0) L m2) = none)) (nI j) x2 sp wa _ (tsX L (nI (sN (g 0) L m2))) g r P2 _ _ (fun z => ?_) (fun _ => ⟨by decide, by decide⟩) (fun _ => ?_) ?_ (fun z E u h => XK.in1 h (fun h2 => by rw [hk2]; unfold kWb; rw [if_pos z, h2]; rfl) (hs1.tr hs2))
    · exact zW_wide (by decide) (by decide) (s73 j x2 sp wa wa P2 sd da da _ (by rw [hk2]; unfold kWb; rw [if_neg z]; rfl) hj ⟨hx2, hsp.mono hs2, hwa, hwa⟩ (hs1.tr hs2) (by omega) hm8)
    · exact d_readWords _ X.2.2 L _ g P2 hL hm8 _ (fun d n' a P3 h0 h1 h2 h3 h4 => ⟨d, n', a, P3, rfl, h0, h1, h2, h3, h4, rfl⟩)
    rintro z y u ⟨db, m4, wb, P3, rfl, h2, hm9, hm10, hs3, hwb, rfl⟩
    refine zW_perm (zp3 _ _ _) ?_
    refine k_TR_readQuestion_68 X Post _ (nI j) x2 sp wa wb (tsX L (nI m4)) g r P3 _ _ ?_
    exact zW_wide (by decide) (by decide) (s73 j x2 sp wa wb P3 sd da db m4 (by rw [hk2]; unfold kWb; rw [if_pos z, h2]; rfl) hj ⟨hx2, hsp.mono (hs2.tr hs3), hwa.mono hs3, hwb⟩ ((hs1.tr hs2).tr hs3) (by omega) hm10)
  have s27 : ∀ j m, KK = ((kMust (g 0) L m).bind fun mu => kQ2 false (g 0) L j mu.1 mu.2) → j < 61 → n + 1 ≤ m → m ≤ L → zc_TR_readQuestion C Post (XK C.1 L g r P (KK = none)) 3 18 27 [(0, .ref (ad C.1 20)), (1, .int (nI j))] [] (TX C.1 L (nI m) g ++ (RX C.1 r ++ P)) := by
    intro j m hk hj hm1 hm2
    have h7 := sN_ge (g 0) L m
    have hm4 := sN_le (g 0) hm2
    refine k_TR_readQuestion_27 X Post _ (P_30 := fun r u => (r = 1 ∧ tp (g 0) L (sN (g 0) L m) = 33 ∧ u = TX C.1 L (nI (sN (g 0) L m + 1)) g) ∨ (r = 0 ∧ ¬ tp (g 0) L (sN (g 0) L m) = 33 ∧ u = TX C.1 L (nI (sN (g 0) L m)) g)) (nI j) (tsX L (nI m)) g r P 3 18 ⟨by decide, by decide⟩ ?_ ?_
    · refine d_took _ 33 L m g hL hm2 _ ?_
      split
      · rename_i z; exact Or.inl ⟨rfl, z, rfl⟩
      · rename_i z; exact Or.inr ⟨rfl, z, rfl⟩
    rintro y u (⟨rfl, z, rfl⟩ | ⟨rfl, z, rfl⟩)
    · exact k_TR_readQuestion_33 X Post _ (P_41 := fun _ => True) (X_41 := fun _ _ => True) (nI j) 1 (tsX L (nI (sN (g 0) L m + 1))) g r P _ _ (fun _ => zW_wide (by decide) (by decide) (s44 j 1 _ (by rw [hk]; unfold kMust; rw [if_pos z]; rfl) hj (Or.inr rfl) (by omega) (tk_lt z (by decide +kernel)))) (fun y => absurd y (by decide +kernel)) (fun y => absurd y (by decide +kernel)) (fun y => absurd y (by decide +kernel)) (fun y => absurd y (by decide +kernel))
    · have hk2 : KK = (((kTake (g 0) L 63 (sN (g 0) L m)).bind fun m => some ((0 : Int32), m)).bind fun mu => kQ2 false (g 0) L j mu.1 mu.2) := by rw [hk]; unfold kMust; rw [if_neg z]
      refine k_TR_readQuestion_33 X Post _ (P_41 := fun u => ∃ m', kTake (g 0) L 63 (sN (g 0) L m) = some m' ∧ u = TX C.1 L (nI m') g) (X_41 := fun E u => kTake (g 0) L 63 (sN (g 0) L m) = none ∧ E = IAE ∧ ∃ m, m ≤ L ∧ u = TX C.1 L (nI m) g) (nI j) 0 (tsX L (nI (sN (g 0) L m))) g r P _ _ (fun y => absurd rfl y) (fun _ => ⟨by decide, by decide⟩) (fun _ => ?_) ?_ ?_
      · exact d_tak _ X.2.2 63 L _ g hL hm4 _ _ (fun m h => ⟨m, h, rfl⟩) (fun m hm h => ⟨h, rfl, m, hm, rfl⟩)
      · rintro _ u ⟨m2, h1, rfl⟩
        obtain ⟨hm5, hm6⟩ := kTake_lt h1 (by decide +kernel)
        exact s44 j 0 m2 (by rw [hk2, h1]; rfl) hj (Or.inl rfl) (by omega) hm6
      · rintro _ E u ⟨h1, rfl, x, hx, rfl⟩
        exact XK.app (by rw [hk2, h1]; rfl) hx Sub.rf
  refine k_TR_readQuestion_0 X Post _ (P_4 := fun v u => ∃ v' m', kNum false (g 0) L 1 60 n = some (v', m') ∧ v = nI v' ∧ u = TX C.1 L (nI m') g) (X_4 := fun E u => kNum false (g 0) L 1 60 n = none ∧ E = IAE ∧ ∃ m, m ≤ L ∧ u = TX C.1 L (nI m) g) (tsX L (nI n)) g r P 0 0 ⟨by decide, by decide⟩ ?_ ?_ ?_
  · exact d_num _ X.2.2 1 60 L n g hL hn _ _ (fun v m h => ⟨v, m, h, rfl, rfl⟩) (fun m hm h => ⟨h, rfl, m, hm, rfl⟩)
  · rintro _ u ⟨j, m, h1, rfl, rfl⟩
    obtain ⟨hm1, hm2, hv1, hv2⟩ := kNum_lt h1 hn
    have hj : j < 61 := by
      obtain ⟨i, e, hi⟩ := inV_bd (B := 60) hv2 hv1 (by decide)
      rw [nI_eq (by omega) (by omega)] at e
      omega
    refine k_TR_readQuestion_7 X Post _ (P_24 := fun _ => False) (X_24 := fun E u => E = IAE ∧ ∃ m, m ≤ L ∧ u = TX C.1 L (nI m) g) (nI j) (tsX L (nI m)) g r P _ _ (vi_n hj (by decide)) (fun z => ?_) (fun _ => ⟨by decide, by decide⟩) (fun _ => ?_) (fun _ u h => h.elim) ?_
    · rw [nI_clamp (show j < 2 ^ 31 by omega)] at z
      exact zW_wide (by decide) (by decide) (s27 j m (by rw [← hkk]; unfold kQues; rw [h1]; exact if_neg (isNone_not z)) hj hm1 hm2)
    · have e9 : tsX L (nI m) 1 - 1 = nI (m - 1) := nI_prd (by omega)
      exact d_fail _ X.2.2 _ _ L g _ ⟨rfl, m - 1, by omega, by rw [e9]⟩
    · rintro z E u ⟨rfl, x, hx, rfl⟩
      rw [nI_clamp (show j < 2 ^ 31 by omega)] at z
      exact XK.app (by rw [← hkk]; unfold kQues; rw [h1]; exact if_pos (isSome_of z)) hx Sub.rf
  · rintro E u ⟨h1, rfl, x, hx, rfl⟩
    exact XK.app (by rw [← hkk]; unfold kQues; rw [h1]; rfl) hx Sub.rf
set_option maxHeartbeats 1000000 in
theorem d_forgetRows (T : ST) (f : FT) (g : GT) (r : Nat → Nat → Option Nat) (Post : va_W → Prop) (hq : ∀ r' : Nat → Nat → Option Nat, (∀ j, j < 61 → r' 0 j = none) → (∀ j, j < 10 → r' 1 j = none) → (∀ i j a, r' i j = some a → r i j = some a) → Post (s_t T.2.2.2.1 T.2.2.2.2 f g ++ s_r T.2.2.2.1 T.2.2.2.2 r')) : uV T y_TR_forgetRows (Cond.code y_TR_forgetRows b_TR_forgetRows 2 none) 0 0 0 [.ref (ad T 20)] (s_t T.2.2.2.1 T.2.2.2.2 f g ++ s_r T.2.2.2.1 T.2.2.2.2 r) Post := by
  refine e_TR_forgetRows T Post f g r ?_
  rintro C rfl X
  have up2 : ∀ (r0 : Nat → Nat → Option Nat) (i c : Nat), (∀ i j a, r0 i j = some a → r i j = some a) → ∀ i' j a, va_up r0 i (va_up (r0 i) c none) i' j = some a → r i' j = some a := by
    intro r0 i c h i' j a e
    by_cases ci : i' = i
    · subst ci; rw [up_same] at e
      by_cases cj : j = c
      · subst cj; rw [up_same] at e; cases e
      · rw [up_other _ _ cj] at e; exact h _ _ _ e
    · rw [up_other _ _ ci] at e; exact h _ _ _ e
  have l2 : ∀ k c (r0 : Nat → Nat → Option Nat), k + c = 10 → (∀ j, j < 61 → r0 0 j = none) → (∀ j, j < c → r0 1 j = none) → (∀ i j a, r0 i j = some a → r i j = some a) → zc_TR_forgetRows C Post 0 0 23 [(0, .ref (ad C.1 20)), (1, .int (nI c))] [] (s_t C.1.2.2.2.1 C.1.2.2.2.2 f g ++ s_r C.1.2.2.2.1 C.1.2.2.2.2 r0) := by
    intro k
    induction k with
    | zero =>
      intro c r0 hk h0 h1 h2
      have h9 : (9 : Int32) < nI c := (nI_ltI (a := 9) (b := c) (by decide) (by omega)).mpr (by omega)
      exact k_TR_forgetRows_23 X Post (nI c) f g r0 0 0 (fun _ => ⟨by decide, by decide⟩) (fun _ => hq r0 h0 (fun j hj => h1 j (by omega)) h2) (fun z => absurd h9 z) (fun z => absurd h9 z)
    | succ k ih =>
      intro c r0 hk h0 h1 h2
      have h9 : ¬ (9 : Int32) < nI c := fun z => absurd ((nI_ltI (a := 9) (b := c) (by decide) (by omega)).mp z) (by omega)
      refine k_TR_forgetRows_23 X Post (nI c) f g r0 0 0 (fun z => absurd z h9) (fun z => absurd z h9) (fun _ => vi_n (show c < 10 by omega) (by decide)) (fun _ => ?_)
      rw [nI_1, nI_clamp (by omega)]
      refine ih (c + 1) _ (by omega) (fun j hj => ?_) (fun j hj => ?_) (up2 r0 1 c h2)
      · rw [up_other _ _ (by decide)]; exact h0 j hj
      · rw [up_same]
        by_cases cj : j = c
        · subst cj; rw [up_same]
        · rw [up_other _ _ cj]; exact h1 j (by omega)
  have l1 : ∀ k c (r0 : Nat → Nat → Option Nat), k + c = 61 → (∀ j, j < c → r0 0 j = none) → (∀ i j a, r0 i j = some a → r i j = some a) → zc_TR_forgetRows C Post 0 0 2 [(0, .ref (ad C.1 20)), (1, .int (nI c))] [] (s_t C.1.2.2.2.1 C.1.2.2.2.2 f g ++ s_r C.1.2.2.2.1 C.1.2.2.2.2 r0) := by
    intro k
    induction k with
    | zero =>
      intro c r0 hk h0 h2
      have h9 : (60 : Int32) < nI c := (nI_ltI (a := 60) (b := c) (by decide) (by omega)).mpr (by omega)
      exact k_TR_forgetRows_2 X Post (nI c) f g r0 0 0 (fun _ => l2 10 0 r0 rfl (fun j hj => h0 j (by omega)) (fun j hj => absurd hj (Nat.not_lt_zero _)) h2) (fun z => absurd h9 z) (fun z => absurd h9 z)
    | succ k ih =>
      intro c r0 hk h0 h2
      have h9 : ¬ (60 : Int32) < nI c := fun z => absurd ((nI_ltI (a := 60) (b := c) (by decide) (by omega)).mp z) (by omega)
      refine k_TR_forgetRows_2 X Post (nI c) f g r0 0 0 (fun z => absurd z h9) (fun _ => vi_n (show c < 61 by omega) (by decide)) (fun _ => ?_)
      rw [nI_1, nI_clamp (by omega)]
      refine ih (c + 1) _ (by omega) (fun j hj => ?_) (up2 r0 0 c h2)
      rw [up_same]
      by_cases cj : j = c
      · subst cj; rw [up_same]
      · rw [up_other _ _ cj]; exact h0 j (by omega)
  exact k_TR_forgetRows_0 X Post f g r 0 0 (l1 61 0 r rfl (fun j hj => absurd hj (Nat.not_lt_zero _)) (fun _ _ _ h => h))
