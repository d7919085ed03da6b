-- the law's loop
theorem lgc_self (x : Int64) : lg_cmp x x = 0 := by simp [lg_cmp]
theorem sgV {n : Nat} (h1 : 1 ≤ n) (h2 : n ≤ 8) : ¬ inV (nI n) 1 8 = 0 := by
  unfold inV
  rw [if_neg (show ¬ nI n < 1 from nI_nlt (a := n) (b := 1) h1 (by omega)), if_neg (show ¬ (8 : Int32) < nI n from nI_nlt (a := 8) (b := n) h2 (by decide))]
  decide
theorem sgY0 {n t : Nat} (h1 : 1 ≤ n) (h2 : n ≤ 8) (h3 : t + n ≤ 400) : sgY (nI n) t = 0 := by
  unfold sgY
  rw [if_neg (sgV h1 h2), if_pos (show nI t + nI n ≤ 400 by rw [nI_add]; exact nI_le (b := 400) h3 (by decide))]
theorem sgY2 {n t : Nat} (h1 : 1 ≤ n) (h2 : n ≤ 8) (h3 : ¬ t + n ≤ 400) (ht : t ≤ 400) : sgY (nI n) t = 2 := by
  unfold sgY
  rw [if_neg (sgV h1 h2), if_neg (show ¬ nI t + nI n ≤ 400 by rw [nI_add]; exact fun q => h3 ((nI_leI (b := 400) (by omega) (by decide)).mp q))]
theorem sgY1 {v : Int32} {t : Nat} (h : v < 1 ∨ ¬ v ≤ 8) : sgY v t = 1 := by
  unfold sgY
  rw [if_pos]
  unfold inV
  rcases h with h | h
  · rw [if_pos h]
  · by_cases q : v < 1
    · rw [if_pos q]
    · rw [if_neg q, if_pos (by rw [Int32.not_le] at h; exact h)]
theorem c_readW (T : ST) (t : Nat) (f : FT) (g : GT) (hT : TI t f g) : mI T y_Mo_read (Cond.code y_Mo_read b_Mo_read 2 (some .int)) 6 [.ref (ad T 0)] f g (fun _ f' g' => TI 0 f' g') := by
  obtain ⟨h1, ht, ⟨e, h3, he⟩, ⟨c, h4, hc⟩, h9, h10, h12, hg⟩ := hT
  refine c_read T f g t c e h1 ht h3 he h4 hc _ ?_
  have hG := GI_rdP (t := t) (d := f 7) hc he hg
  unfold rdQ
  split
  · split
    · exact ⟨nI_0.symm, by decide, ⟨e, h3, he⟩, ⟨c, h4, hc⟩, Bd_0 9, h10, h12, hG⟩
    · rename_i _ h8
      exact ⟨nI_0.symm, by decide, ⟨e + 1, rfl, by omega⟩, ⟨e + 1, rfl, by omega⟩, Bd_0 9, h10, h12, hG⟩
  · exact ⟨nI_0.symm, by decide, ⟨e, h3, he⟩, ⟨c, h4, hc⟩, Bd_0 9, h10, h12, hG⟩
abbrev lawW (T : ST) (ou : Nat) (of : Nat → Int64) (f : FT) (r : Nat → Nat → Option Nat) (c t : Nat) (x : Int32) (g : GT) (rr : Nat → Nat → Option Nat) (fc : FT) (gc : GT) (fm : FT) (gm : GT) (P : va_W) : va_W := [(ou, .inl (T.2.2.2.1 1, 1, .inr (.inl of)))] ++ (s_q T.2.2.2.1 T.2.2.2.2 f r c ++ (TX T t x g ++ (RX T rr ++ (CX T fc gc ++ (s_m T.2.2.2.1 T.2.2.2.2 fm gm ++ P)))))
theorem lwp1 (M O Q X R K P : va_W) : (M ++ (O ++ (Q ++ (X ++ (R ++ (K ++ P)))))).Perm (O ++ (Q ++ (X ++ (R ++ (K ++ (M ++ P)))))) := (zp3 M O _).trans ((wp4 M Q X R K P).append_left O)
theorem lwp2 (M O Q X R K P : va_W) : ((O ++ M) ++ (Q ++ (X ++ (R ++ (K ++ P))))).Perm (O ++ (Q ++ (X ++ (R ++ (K ++ (M ++ P)))))) := by
  rw [List.append_assoc]; exact (wp4 M Q X R K P).append_left O
theorem lwp3 (M O Q X R K P : va_W) : ((O ++ (Q ++ (X ++ (R ++ K)))) ++ (M ++ P)).Perm (O ++ (Q ++ (X ++ (R ++ (K ++ (M ++ P)))))) := by rw [List.append_assoc, List.append_assoc, List.append_assoc, List.append_assoc]
theorem lawEnd {L j : Nat} (hL : L ≤ 2048) (hj : j ≤ 3000) (h : ¬ (Int32.ofNat L) - 4 < nI j) : j + 4 ≤ L := by
  rcases Nat.lt_or_ge L 4 with h4 | h4
  · refine absurd ?_ h
    have h0 : (Int32.ofNat L) - 4 < 0 := by rcases (show L = 0 ∨ L = 1 ∨ L = 2 ∨ L = 3 by omega) with rfl | rfl | rfl | rfl <;> decide +kernel
    exact Int32.lt_of_lt_of_le h0 (nI_pos' (by omega))
  · have e : (Int32.ofNat L) - 4 = nI (L - 4) := nIs (a := 4) (b := L) h4
    rw [e, nI_ltI (by omega) (by omega)] at h
    omega
theorem TI_sg {t n : Nat} {f : FT} {g : GT} (h : TI t f g) (ht : t + n ≤ 400) (y : Nat → Int32) : TI (t + n) (sgS f (t + n)) (va_up g 0 y) := ⟨rfl, ht, h.2.2.1, h.2.2.2.1, h.2.2.2.2.1, h.2.2.2.2.2.1, h.2.2.2.2.2.2.1, GI_free h.2.2.2.2.2.2.2 (by decide) (by decide) (by decide) (by decide) (by decide) (by decide) (by decide)⟩
def pot (i t c0 s0 : Nat) : Prop := c0 + 44 * t ≤ 1000 + 353 * i ∧ s0 + 261 * t ≤ 50000 + 2094 * i
set_option maxHeartbeats 4000000 in
set_option maxRecDepth 100000 in
theorem law_loop {C : CT} {b_ L_ : Nat} {xs : Nat → Int32} (X : cL C "QuestionTextLaw" b_La_law 7 (some .boolean) b_ L_ xs) (Post : State → Prop) (ou : Nat) (hL : L_ ≤ 2048) (fin : ∀ (i : Nat) (c0 s0 : Nat) (of : Nat → Int64) (f : FT) (r : Nat → Nat → Option Nat) (c t : Nat) (x : Int32) (g : GT) (rr : Nat → Nat → Option Nat) (fc : FT) (gc : GT) (fm : FT) (gm : GT) (P : va_W), c0 ≤ 601024 → s0 ≤ 7293034 → zc_La_lawL C Post c0 s0 537 [(0, .ref b_), (1, .ref (ad C.1 24)), (2, .ref (ad C.1 0)), (3, .ref ou), (4, .int (nI (4 * i)))] [.int 1] (lawW C.1 ou of f r c t x g rr fc gc fm gm P)) : ∀ (k i : Nat) (c0 s0 : Nat) (of : Nat → Int64) (f : FT) (r : Nat → Nat → Option Nat) (c t : Nat) (x : Int32) (g : GT) (rr : Nat → Nat → Option Nat) (fc : FT) (gc : GT) (fm : FT) (gm : GT) (P : va_W), k + i = 513 → pot i t c0 s0 → CF C.1.2.2.2.1 t f r c rr fc P → TI t fm gm → zc_La_lawL C Post c0 s0 23 [(0, .ref b_), (1, .ref (ad C.1 24)), (2, .ref (ad C.1 0)), (3, .ref ou), (4, .int (nI (4 * i)))] [] (lawW C.1 ou of f r c t x g rr fc gc fm gm P) := by
  have hlt := X.2.2.2.2
  intro k
  induction k with
  | zero =>
    intro i c0 s0 of f r c t x g rr fc gc fm gm P hk hp hcf hti
    have z : (Int32.ofNat L_) - 4 < nI (4 * i) := Classical.byContradiction (fun n => by have := lawEnd hL (by omega) n; omega)
    exact k_La_lawL_23 X Post (P_138 := fun _ _ => True) (P_210 := fun _ _ => True) (P_225 := fun _ _ => True) (P_245 := fun _ _ => True) (P_273 := fun _ _ => True) (P_301 := fun _ _ => True) (P_322 := fun _ _ => True) (P_336 := fun _ _ => True) (P_352 := fun _ _ => True) (P_374 := fun _ _ => True) (P_402 := fun _ _ => True) (P_430 := fun _ _ => True) (P_458 := fun _ _ => True) (P_498 := fun _ _ => True) (nI (4 * i)) f r c (tsX t x) g rr fc gc fm gm P ou of (304 * (t / 7 + 1)) (1824 * (t / 7 + 1)) c0 s0 (fun _ => fin i c0 s0 of f r c t x g rr fc gc fm gm P (by have := hp.1; omega) (by have := hp.2; omega)) (fun n => absurd z n) (fun n => absurd z n) (fun n => absurd z n) (fun n => absurd z n) (fun n => absurd z n) (fun n => absurd z n) (fun n => absurd z n) (fun n => absurd z n) (fun n => absurd z n) (fun n => absurd z n) (fun n => absurd z n) (fun n => absurd z n) (fun n => absurd z n) (fun n => absurd z n) (fun n => absurd z n) (fun n => absurd z n) (fun n => absurd z n) (fun n => absurd z n) (fun n => absurd z n) (fun n => absurd z n) (fun n => absurd z n) (fun n => absurd z n) (fun n => absurd z n) (fun n => absurd z n) (fun n => absurd z n) (fun n => absurd z n) (fun n => absurd z n) (fun n => absurd z n) (fun n => absurd z n) (fun n => absurd z n) (fun n => absurd z n) (fun n => absurd z n) (fun n => absurd z n) (fun n => absurd z n) (fun n => absurd z n) (fun n => absurd z n) (fun n => absurd z n) (fun n => absurd z n) (fun n => absurd z n) (fun n => absurd z n) (fun n => absurd z n) (fun n => absurd z n) (fun n => absurd z n) (fun n => absurd z n) (fun n => absurd z n) (fun n => absurd z n) (fun n => absurd z n) (fun n => absurd z n) (fun n => absurd z n) (fun n => absurd z n) (fun n => absurd z n) (fun n => absurd z n) (fun n => absurd z n) (fun n => absurd z n) (fun n => absurd z n) (fun n => absurd z n) (fun n => absurd z n) (fun n => absurd z n)
  | succ k ih =>
    intro i c0 s0 of f r c t x g rr fc gc fm gm P hk hp hcf hti
    obtain ⟨hp1, hp2⟩ := hp
    have hend : ¬ (Int32.ofNat L_) - 4 < nI (4 * i) → 4 * i + 4 ≤ L_ := fun n => lawEnd hL (by omega) n
    have ix : ∀ d : Nat, d ≤ 3 → ¬ (Int32.ofNat L_) - 4 < nI (4 * i) → vp_in (nI (4 * i) + nI d) L_ := fun d hd n => by have := hend n; rw [nI_add]; exact vi_n (by omega) (by omega)
    have ix0 : ¬ (Int32.ofNat L_) - 4 < nI (4 * i) → vp_in (nI (4 * i)) L_ := fun n => by have := hend n; exact vi_n (by omega) (by omega)
    have s530 : ∀ (c0 s0 : Nat) (of : Nat → Int64) (f : FT) (r : Nat → Nat → Option Nat) (c t : Nat) (x : Int32) (g : GT) (rr : Nat → Nat → Option Nat) (fc : FT) (gc : GT) (fm : FT) (gm : GT) (P : va_W), pot (i + 1) t c0 s0 → CF C.1.2.2.2.1 t f r c rr fc P → TI t fm gm → zc_La_lawL C Post c0 s0 530 [(0, .ref b_), (1, .ref (ad C.1 24)), (2, .ref (ad C.1 0)), (3, .ref ou), (4, .int (nI (4 * i)))] [] (lawW C.1 ou of f r c t x g rr fc gc fm gm P) := by
      intro c0 s0 of f r c t x g rr fc gc fm gm P q1 q2 q3
      refine k_La_lawL_530 X Post (nI (4 * i)) f r c (tsX t x) g rr fc gc fm gm P ou of 0 0 c0 s0 ?_
      rw [show nI (4 * i) + 4 = nI (4 * (i + 1)) from nI_add (4 * i) 4]
      exact ih (i + 1) c0 s0 of f r c t x g rr fc gc fm gm P (by omega) q1 q2 q3
    have s213 : ¬ (Int32.ofNat L_) - 4 < nI (4 * i) → ∀ (c0 s0 : Nat) (of : Nat → Int64) (f : FT) (r : Nat → Nat → Option Nat) (c t : Nat) (x : Int32) (g : GT) (rr : Nat → Nat → Option Nat) (fc : FT) (gc : GT) (fm : FT) (gm : GT) (P : va_W) (y : Int32), pot (i + 1) 0 c0 s0 → CF C.1.2.2.2.1 0 f r c rr fc P → TI t fm gm → zc_La_lawL C Post c0 s0 213 [(0, .ref b_), (1, .ref (ad C.1 24)), (2, .ref (ad C.1 0)), (3, .ref ou), (4, .int (nI (4 * i)))] [.int y] (lawW C.1 ou of f r c 0 x g rr fc gc fm gm P) := by
      intro z c0 s0 of f r c t x g rr fc gc fm gm P y q1 q2 q3
      refine k_La_lawL_213 X Post (P_216 := fun _ u => ∃ f' g', TI 0 f' g' ∧ u = mw C.1.2.2.2.1 C.1.2.2.2.2 f' g') (nI (4 * i)) y f r c (tsX 0 x) g rr fc gc fm gm P ou of 0 0 c0 s0 ⟨by have := q1.1; omega, by have := q1.2; omega⟩ (mI_uI (c_readW C.1 t fm gm q3)) ?_
      rintro y2 u ⟨f', g', q4, rfl⟩
      refine zW_perm (lwp3 _ _ _ _ _ _ _) ?_
      exact k_La_lawL_219 X Post (nI (4 * i)) y y2 f r c (tsX 0 x) g rr fc gc f' g' P ou of 0 0 c0 s0 (s530 c0 s0 of f r c 0 x g rr fc gc f' g' P q1 q2 q4)
    have s228 : ¬ (Int32.ofNat L_) - 4 < nI (4 * i) → ∀ (c0 s0 : Nat) (of : Nat → Int64) (f : FT) (r : Nat → Nat → Option Nat) (c t : Nat) (x : Int32) (g : GT) (rr : Nat → Nat → Option Nat) (fc : FT) (gc : GT) (fm : FT) (gm : GT) (P : va_W) (y : Int32), pot (i + 1) t c0 s0 → CF C.1.2.2.2.1 t f r c rr fc P → TI t fm gm → zc_La_lawL C Post c0 s0 228 [(0, .ref b_), (1, .ref (ad C.1 24)), (2, .ref (ad C.1 0)), (3, .ref ou), (4, .int (nI (4 * i)))] [.int y] (lawW C.1 ou of f r c t x g rr fc gc fm gm P) := by
      intro z c0 s0 of f r c t x g rr fc gc fm gm P y q1 q2 q3
      refine k_La_lawL_228 X Post (P_230 := fun _ u => ∃ f' g', TI t f' g' ∧ u = mw C.1.2.2.2.1 C.1.2.2.2.2 f' g') (nI (4 * i)) y f r c (tsX t x) g rr fc gc fm gm P ou of 0 0 c0 s0 ⟨by have := q1.1; omega, by have := q1.2; omega⟩ (mI_uI (c_place C.1 fm gm (fun _ f' g' => TI t f' g') (TI_0 q3 _))) ?_
      rintro y2 u ⟨f', g', q4, rfl⟩
      refine zW_perm (lwp3 _ _ _ _ _ _ _) ?_
      exact k_La_lawL_233 X Post (nI (4 * i)) y2 f r c (tsX t x) g rr fc gc f' g' P ou of 0 0 c0 s0 (s530 c0 s0 of f r c t x g rr fc gc f' g' P q1 q2 q4)
    have s248 : ¬ (Int32.ofNat L_) - 4 < nI (4 * i) → ∀ (c0 s0 : Nat) (of : Nat → Int64) (f : FT) (r : Nat → Nat → Option Nat) (c t : Nat) (x : Int32) (g : GT) (rr : Nat → Nat → Option Nat) (fc : FT) (gc : GT) (fm : FT) (gm : GT) (P : va_W) (y : Int32), pot (i + 1) t c0 s0 → CF C.1.2.2.2.1 t f r c rr fc P → TI t fm gm → zc_La_lawL C Post c0 s0 248 [(0, .ref b_), (1, .ref (ad C.1 24)), (2, .ref (ad C.1 0)), (3, .ref ou), (4, .int (nI (4 * i)))] [.int y] (lawW C.1 ou of f r c t x g rr fc gc fm gm P) := by
      intro z c0 s0 of f r c t x g rr fc gc fm gm P y q1 q2 q3
      refine k_La_lawL_248 X Post (P_257 := fun _ u => ∃ f' g', TI t f' g' ∧ u = mw C.1.2.2.2.1 C.1.2.2.2.2 f' g') (nI (4 * i)) y f r c (tsX t x) g rr fc gc fm gm P ou of 0 0 c0 s0 (ix 1 (by decide) z) ⟨by have := q1.1; omega, by have := q1.2; omega⟩ (mI_uI (c_edition C.1 (xs (nI (4 * i) + 1 : Int32).toNatClampNeg) t fm gm q3 (fun _ f' g' => TI t f' g') (by obtain ⟨a1, a2, a3, a4, a5, a6, a7, a8⟩ := id q3; split; exact TI_0 q3 1; exact ⟨a1, a2, a3, by obtain ⟨m, e1, e2⟩ := a3; rename_i hz9; have := inV_nz hz9; obtain ⟨j, hj, ej⟩ := nI_of (x := (xs (nI (4 * i) + 1 : Int32).toNatClampNeg)) (fun n9 => absurd this.1 (by rw [Int32.not_le]; exact n9)); refine ⟨j, ej, ?_⟩; have h9 := this.2; rw [ej, e1, nI_leI hj (by omega)] at h9; omega, Bd_0 9, a6, a7, a8⟩))) ?_
      rintro y2 u ⟨f', g', q4, rfl⟩
      refine zW_perm (lwp3 _ _ _ _ _ _ _) ?_
      exact k_La_lawL_260 X Post (nI (4 * i)) y y2 f r c (tsX t x) g rr fc gc f' g' P ou of 0 0 c0 s0 (s530 c0 s0 of f r c t x g rr fc gc f' g' P q1 q2 q4)
    have s276 : ¬ (Int32.ofNat L_) - 4 < nI (4 * i) → ∀ (c0 s0 : Nat) (of : Nat → Int64) (f : FT) (r : Nat → Nat → Option Nat) (c t : Nat) (x : Int32) (g : GT) (rr : Nat → Nat → Option Nat) (fc : FT) (gc : GT) (fm : FT) (gm : GT) (P : va_W) (y : Int32), pot (i + 1) t c0 s0 → CF C.1.2.2.2.1 t f r c rr fc P → TI t fm gm → zc_La_lawL C Post c0 s0 276 [(0, .ref b_), (1, .ref (ad C.1 24)), (2, .ref (ad C.1 0)), (3, .ref ou), (4, .int (nI (4 * i)))] [.int y] (lawW C.1 ou of f r c t x g rr fc gc fm gm P) := by
      intro z c0 s0 of f r c t x g rr fc gc fm gm P y q1 q2 q3
      refine k_La_lawL_276 X Post (P_285 := fun _ u => ∃ f' g', TI t f' g' ∧ u = mw C.1.2.2.2.1 C.1.2.2.2.2 f' g') (nI (4 * i)) y f r c (tsX t x) g rr fc gc fm gm P ou of 0 0 c0 s0 (ix 1 (by decide) z) ⟨by have := q1.1; omega, by have := q1.2; omega⟩ (mI_uI (c_firstW C.1 (xs (nI (4 * i) + 1 : Int32).toNatClampNeg) t fm gm q3 (fun _ f' g' => TI t f' g') (fun _ _ _ q => q))) ?_
      rintro y2 u ⟨f', g', q4, rfl⟩
      refine zW_perm (lwp3 _ _ _ _ _ _ _) ?_
      exact k_La_lawL_288 X Post (nI (4 * i)) y y2 f r c (tsX t x) g rr fc gc f' g' P ou of 0 0 c0 s0 (s530 c0 s0 of f r c t x g rr fc gc f' g' P q1 q2 q4)
    have s304 : ¬ (Int32.ofNat L_) - 4 < nI (4 * i) → ∀ (c0 s0 : Nat) (of : Nat → Int64) (f : FT) (r : Nat → Nat → Option Nat) (c t : Nat) (x : Int32) (g : GT) (rr : Nat → Nat → Option Nat) (fc : FT) (gc : GT) (fm : FT) (gm : GT) (P : va_W) (y : Int32), pot (i + 1) t c0 s0 → CF C.1.2.2.2.1 t f r c rr fc P → TI t fm gm → zc_La_lawL C Post c0 s0 304 [(0, .ref b_), (1, .ref (ad C.1 24)), (2, .ref (ad C.1 0)), (3, .ref ou), (4, .int (nI (4 * i)))] [.int y] (lawW C.1 ou of f r c t x g rr fc gc fm gm P) := by
      intro z c0 s0 of f r c t x g rr fc gc fm gm P y q1 q2 q3
      refine k_La_lawL_304 X Post (P_313 := fun _ u => ∃ f' g', TI t f' g' ∧ u = mw C.1.2.2.2.1 C.1.2.2.2.2 f' g') (nI (4 * i)) y f r c (tsX t x) g rr fc gc fm gm P ou of 0 0 c0 s0 (ix 1 (by decide) z) ⟨by have := q1.1; omega, by have := q1.2; omega⟩ (mI_uI (c_answerW C.1 (xs (nI (4 * i) + 1 : Int32).toNatClampNeg) t fm gm q3 (fun _ f' g' => TI t f' g') (fun _ _ _ q => q))) ?_
      rintro y2 u ⟨f', g', q4, rfl⟩
      refine zW_perm (lwp3 _ _ _ _ _ _ _) ?_
      exact k_La_lawL_316 X Post (nI (4 * i)) y y2 f r c (tsX t x) g rr fc gc f' g' P ou of 0 0 c0 s0 (s530 c0 s0 of f r c t x g rr fc gc f' g' P q1 q2 q4)
    have s325 : ¬ (Int32.ofNat L_) - 4 < nI (4 * i) → ∀ (c0 s0 : Nat) (of : Nat → Int64) (f : FT) (r : Nat → Nat → Option Nat) (c t : Nat) (x : Int32) (g : GT) (rr : Nat → Nat → Option Nat) (fc : FT) (gc : GT) (fm : FT) (gm : GT) (P : va_W) (y : Int32), pot (i + 1) t c0 s0 → CF C.1.2.2.2.1 t f r c rr fc P → TI t fm gm → zc_La_lawL C Post c0 s0 325 [(0, .ref b_), (1, .ref (ad C.1 24)), (2, .ref (ad C.1 0)), (3, .ref ou), (4, .int (nI (4 * i)))] [.int y] (lawW C.1 ou of f r c t x g rr fc gc fm gm P) := by
      intro z c0 s0 of f r c t x g rr fc gc fm gm P y q1 q2 q3
      refine k_La_lawL_325 X Post (P_327 := fun _ u => ∃ f' g', TI t f' g' ∧ u = mw C.1.2.2.2.1 C.1.2.2.2.2 f' g') (nI (4 * i)) y f r c (tsX t x) g rr fc gc fm gm P ou of 0 0 c0 s0 ⟨by have := q1.1; omega, by have := q1.2; omega⟩ (mI_uI (c_kind C.1 fm gm (fun _ f' g' => TI t f' g') (TI_0 q3 _))) ?_
      rintro y2 u ⟨f', g', q4, rfl⟩
      refine zW_perm (lwp3 _ _ _ _ _ _ _) ?_
      exact k_La_lawL_330 X Post (nI (4 * i)) y2 f r c (tsX t x) g rr fc gc f' g' P ou of 0 0 c0 s0 (s530 c0 s0 of f r c t x g rr fc gc f' g' P q1 q2 q4)
    have s339 : ¬ (Int32.ofNat L_) - 4 < nI (4 * i) → ∀ (c0 s0 : Nat) (of : Nat → Int64) (f : FT) (r : Nat → Nat → Option Nat) (c t : Nat) (x : Int32) (g : GT) (rr : Nat → Nat → Option Nat) (fc : FT) (gc : GT) (fm : FT) (gm : GT) (P : va_W) (y : Int32), pot (i + 1) t c0 s0 → CF C.1.2.2.2.1 t f r c rr fc P → TI t fm gm → zc_La_lawL C Post c0 s0 339 [(0, .ref b_), (1, .ref (ad C.1 24)), (2, .ref (ad C.1 0)), (3, .ref ou), (4, .int (nI (4 * i)))] [.int y] (lawW C.1 ou of f r c t x g rr fc gc fm gm P) := by
      intro z c0 s0 of f r c t x g rr fc gc fm gm P y q1 q2 q3
      refine k_La_lawL_339 X Post (P_342 := fun _ u => ∃ f' g', TI t f' g' ∧ u = mw C.1.2.2.2.1 C.1.2.2.2.2 f' g') (nI (4 * i)) y f r c (tsX t x) g rr fc gc fm gm P ou of 0 0 c0 s0 ⟨by have := q1.1; omega, by have := q1.2; omega⟩ (mI_uI (c_priorityW C.1 t fm gm q3 (fun _ f' g' => TI t f' g') (fun _ _ q => q))) ?_
      rintro y2 u ⟨f', g', q4, rfl⟩
      refine zW_perm (lwp3 _ _ _ _ _ _ _) ?_
      exact k_La_lawL_345 X Post (nI (4 * i)) y y2 f r c (tsX t x) g rr fc gc f' g' P ou of 0 0 c0 s0 (s530 c0 s0 of f r c t x g rr fc gc f' g' P q1 q2 q4)
    have s355 : ¬ (Int32.ofNat L_) - 4 < nI (4 * i) → ∀ (c0 s0 : Nat) (of : Nat → Int64) (f : FT) (r : Nat → Nat → Option Nat) (c t : Nat) (x : Int32) (g : GT) (rr : Nat → Nat → Option Nat) (fc : FT) (gc : GT) (fm : FT) (gm : GT) (P : va_W) (y : Int32), pot (i + 1) t c0 s0 → CF C.1.2.2.2.1 t f r c rr fc P → TI t fm gm → zc_La_lawL C Post c0 s0 355 [(0, .ref b_), (1, .ref (ad C.1 24)), (2, .ref (ad C.1 0)), (3, .ref ou), (4, .int (nI (4 * i)))] [.int y] (lawW C.1 ou of f r c t x g rr fc gc fm gm P) := by
      intro z c0 s0 of f r c t x g rr fc gc fm gm P y q1 q2 q3
      refine k_La_lawL_355 X Post (P_358 := fun _ u => ∃ f' g', TI t f' g' ∧ u = mw C.1.2.2.2.1 C.1.2.2.2.2 f' g') (nI (4 * i)) y f r c (tsX t x) g rr fc gc fm gm P ou of 0 0 c0 s0 ⟨by have := q1.1; omega, by have := q1.2; omega⟩ (mI_uI (c_points C.1 fm gm (fun _ f' g' => TI t f' g') (TI_0 q3 _))) ?_
      rintro y2 u ⟨f', g', q4, rfl⟩
      refine zW_perm (lwp3 _ _ _ _ _ _ _) ?_
      exact k_La_lawL_361 X Post (nI (4 * i)) y y2 f r c (tsX t x) g rr fc gc f' g' P ou of 0 0 c0 s0 (s530 c0 s0 of f r c t x g rr fc gc f' g' P q1 q2 q4)
    have s377 : ¬ (Int32.ofNat L_) - 4 < nI (4 * i) → ∀ (c0 s0 : Nat) (of : Nat → Int64) (f : FT) (r : Nat → Nat → Option Nat) (c t : Nat) (x : Int32) (g : GT) (rr : Nat → Nat → Option Nat) (fc : FT) (gc : GT) (fm : FT) (gm : GT) (P : va_W) (y : Int32), pot (i + 1) t c0 s0 → CF C.1.2.2.2.1 t f r c rr fc P → TI t fm gm → zc_La_lawL C Post c0 s0 377 [(0, .ref b_), (1, .ref (ad C.1 24)), (2, .ref (ad C.1 0)), (3, .ref ou), (4, .int (nI (4 * i)))] [.int y] (lawW C.1 ou of f r c t x g rr fc gc fm gm P) := by
      intro z c0 s0 of f r c t x g rr fc gc fm gm P y q1 q2 q3
      refine k_La_lawL_377 X Post (P_386 := fun _ u => ∃ f' g', TI t f' g' ∧ u = mw C.1.2.2.2.1 C.1.2.2.2.2 f' g') (nI (4 * i)) y f r c (tsX t x) g rr fc gc fm gm P ou of 0 0 c0 s0 (ix 1 (by decide) z) ⟨by have := q1.1; omega, by have := q1.2; omega⟩ (mI_uI (c_asked C.1 (xs (nI (4 * i) + 1 : Int32).toNatClampNeg) t fm gm q3 (fun _ f' g' => TI t f' g') (by split; exact TI_0 q3 _; exact TI_0 q3 _))) ?_
      rintro y2 u ⟨f', g', q4, rfl⟩
      refine zW_perm (lwp3 _ _ _ _ _ _ _) ?_
      exact k_La_lawL_389 X Post (nI (4 * i)) y y2 f r c (tsX t x) g rr fc gc f' g' P ou of 0 0 c0 s0 (s530 c0 s0 of f r c t x g rr fc gc f' g' P q1 q2 q4)
    have s405 : ¬ (Int32.ofNat L_) - 4 < nI (4 * i) → ∀ (c0 s0 : Nat) (of : Nat → Int64) (f : FT) (r : Nat → Nat → Option Nat) (c t : Nat) (x : Int32) (g : GT) (rr : Nat → Nat → Option Nat) (fc : FT) (gc : GT) (fm : FT) (gm : GT) (P : va_W) (y : Int32), pot (i + 1) t c0 s0 → CF C.1.2.2.2.1 t f r c rr fc P → TI t fm gm → zc_La_lawL C Post c0 s0 405 [(0, .ref b_), (1, .ref (ad C.1 24)), (2, .ref (ad C.1 0)), (3, .ref ou), (4, .int (nI (4 * i)))] [.int y] (lawW C.1 ou of f r c t x g rr fc gc fm gm P) := by
      intro z c0 s0 of f r c t x g rr fc gc fm gm P y q1 q2 q3
      refine k_La_lawL_405 X Post (P_414 := fun _ u => ∃ f' g', TI t f' g' ∧ u = mw C.1.2.2.2.1 C.1.2.2.2.2 f' g') (nI (4 * i)) y f r c (tsX t x) g rr fc gc fm gm P ou of 0 0 c0 s0 (ix 1 (by decide) z) ⟨by have := q1.1; omega, by have := q1.2; omega⟩ (mI_uI (c_loopW C.1 (xs (nI (4 * i) + 1 : Int32).toNatClampNeg) t fm gm q3 (fun _ f' g' => TI t f' g') (fun _ _ _ q => q))) ?_
      rintro y2 u ⟨f', g', q4, rfl⟩
      refine zW_perm (lwp3 _ _ _ _ _ _ _) ?_
      exact k_La_lawL_417 X Post (nI (4 * i)) y y2 f r c (tsX t x) g rr fc gc f' g' P ou of 0 0 c0 s0 (s530 c0 s0 of f r c t x g rr fc gc f' g' P q1 q2 q4)
    have s433 : ¬ (Int32.ofNat L_) - 4 < nI (4 * i) → ∀ (c0 s0 : Nat) (of : Nat → Int64) (f : FT) (r : Nat → Nat → Option Nat) (c t : Nat) (x : Int32) (g : GT) (rr : Nat → Nat → Option Nat) (fc : FT) (gc : GT) (fm : FT) (gm : GT) (P : va_W) (y : Int32), pot (i + 1) t c0 s0 → CF C.1.2.2.2.1 t f r c rr fc P → TI t fm gm → zc_La_lawL C Post c0 s0 433 [(0, .ref b_), (1, .ref (ad C.1 24)), (2, .ref (ad C.1 0)), (3, .ref ou), (4, .int (nI (4 * i)))] [.int y] (lawW C.1 ou of f r c t x g rr fc gc fm gm P) := by
      intro z c0 s0 of f r c t x g rr fc gc fm gm P y q1 q2 q3
      refine k_La_lawL_433 X Post (P_442 := fun _ u => ∃ f' g', TI t f' g' ∧ u = mw C.1.2.2.2.1 C.1.2.2.2.2 f' g') (nI (4 * i)) y f r c (tsX t x) g rr fc gc fm gm P ou of 0 0 c0 s0 (ix 1 (by decide) z) ⟨by have := q1.1; omega, by have := q1.2; omega⟩ (mI_uI (c_neverW C.1 (xs (nI (4 * i) + 1 : Int32).toNatClampNeg) t fm gm q3 (fun _ f' g' => TI t f' g') (fun _ _ _ q => q))) ?_
      rintro y2 u ⟨f', g', q4, rfl⟩
      refine zW_perm (lwp3 _ _ _ _ _ _ _) ?_
      exact k_La_lawL_445 X Post (nI (4 * i)) y y2 f r c (tsX t x) g rr fc gc f' g' P ou of 0 0 c0 s0 (s530 c0 s0 of f r c t x g rr fc gc f' g' P q1 q2 q4)
    have s461 : ¬ (Int32.ofNat L_) - 4 < nI (4 * i) → ∀ (c0 s0 : Nat) (of : Nat → Int64) (f : FT) (r : Nat → Nat → Option Nat) (c t : Nat) (x : Int32) (g : GT) (rr : Nat → Nat → Option Nat) (fc : FT) (gc : GT) (fm : FT) (gm : GT) (P : va_W) (y : Int32), pot (i + 1) t c0 s0 → CF C.1.2.2.2.1 t f r c rr fc P → TI t fm gm → zc_La_lawL C Post c0 s0 461 [(0, .ref b_), (1, .ref (ad C.1 24)), (2, .ref (ad C.1 0)), (3, .ref ou), (4, .int (nI (4 * i)))] [.int y] (lawW C.1 ou of f r c t x g rr fc gc fm gm P) := by
      intro z c0 s0 of f r c t x g rr fc gc fm gm P y q1 q2 q3
      refine k_La_lawL_461 X Post (P_470 := fun _ u => ∃ f' g', TI t f' g' ∧ u = mw C.1.2.2.2.1 C.1.2.2.2.2 f' g') (nI (4 * i)) y f r c (tsX t x) g rr fc gc fm gm P ou of 0 0 c0 s0 (ix 1 (by decide) z) ⟨by have := q1.1; omega, by have := q1.2; omega⟩ (mI_uI (c_endlessW C.1 (xs (nI (4 * i) + 1 : Int32).toNatClampNeg) t fm gm q3 (fun _ f' g' => TI t f' g') (fun _ _ _ q => q))) ?_
      rintro y2 u ⟨f', g', q4, rfl⟩
      refine zW_perm (lwp3 _ _ _ _ _ _ _) ?_
      exact k_La_lawL_473 X Post (nI (4 * i)) y y2 f r c (tsX t x) g rr fc gc f' g' P ou of 0 0 c0 s0 (s530 c0 s0 of f r c t x g rr fc gc f' g' P q1 q2 q4)
    have s501 : ¬ (Int32.ofNat L_) - 4 < nI (4 * i) → ∀ (c0 s0 : Nat) (of : Nat → Int64) (f : FT) (r : Nat → Nat → Option Nat) (c t : Nat) (x : Int32) (g : GT) (rr : Nat → Nat → Option Nat) (fc : FT) (gc : GT) (fm : FT) (gm : GT) (P : va_W) (y : Int32), pot (i + 1) t c0 s0 → CF C.1.2.2.2.1 t f r c rr fc P → TI t fm gm → zc_La_lawL C Post c0 s0 501 [(0, .ref b_), (1, .ref (ad C.1 24)), (2, .ref (ad C.1 0)), (3, .ref ou), (4, .int (nI (4 * i)))] [.int y] (lawW C.1 ou of f r c t x g rr fc gc fm gm P) := by
      intro z c0 s0 of f r c t x g rr fc gc fm gm P y q1 q2 q3
      refine k_La_lawL_501 X Post (P_522 := fun _ u => ∃ f' g', TI t f' g' ∧ u = mw C.1.2.2.2.1 C.1.2.2.2.2 f' g') (nI (4 * i)) y f r c (tsX t x) g rr fc gc fm gm P ou of 0 0 c0 s0 (ix 1 (by decide) z) (ix 2 (by decide) z) (ix 3 (by decide) z) ⟨by have := q1.1; omega, by have := q1.2; omega⟩ (mI_uI (c_wordW C.1 (xs (nI (4 * i) + 1 : Int32).toNatClampNeg) (xs (nI (4 * i) + 2 : Int32).toNatClampNeg) (xs (nI (4 * i) + 3 : Int32).toNatClampNeg) t fm gm q3 (fun _ f' g' => TI t f' g') (fun _ _ q => q))) ?_
      rintro y2 u ⟨f', g', q4, rfl⟩
      refine zW_perm (lwp3 _ _ _ _ _ _ _) ?_
      exact k_La_lawL_525 X Post (nI (4 * i)) y y2 f r c (tsX t x) g rr fc gc f' g' P ou of 0 0 c0 s0 (s530 c0 s0 of f r c t x g rr fc gc f' g' P q1 q2 q4)
    refine k_La_lawL_23 X Post (P_138 := fun y u => ∃ (of' : Nat → Int64) (u' : va_W), u = ([(ou, .inl (C.1.2.2.2.1 1, 1, .inr (.inl of')))] : va_W) ++ u' ∧ ((y = 0 ∧ ∃ n, xs (nI (4 * i) + 3 : Int32).toNatClampNeg = nI n ∧ 1 ≤ n ∧ n ≤ 8 ∧ t + n ≤ 400 ∧ of' 0 = (nI (t + n)).toInt64 ∧ CW C.1 (t + n) u') ∨ (y = 1 ∧ (xs (nI (4 * i) + 3 : Int32).toNatClampNeg < 1 ∨ ¬ xs (nI (4 * i) + 3 : Int32).toNatClampNeg ≤ 8) ∧ CW C.1 t u') ∨ (y = 2 ∧ (∃ n, xs (nI (4 * i) + 3 : Int32).toNatClampNeg = nI n ∧ 1 ≤ n ∧ n ≤ 8 ∧ ¬ t + n ≤ 400) ∧ CW C.1 t u'))) (P_210 := fun _ u => ∃ (of' : Nat → Int64) (u' : va_W), u = ([(ou, .inl (C.1.2.2.2.1 1, 1, .inr (.inl of')))] : va_W) ++ u' ∧ CW C.1 0 u') (P_225 := fun _ u => CW C.1 t u) (P_245 := fun _ u => ∃ (of' : Nat → Int64) (u' : va_W), u = ([(ou, .inl (C.1.2.2.2.1 1, 1, .inr (.inl of')))] : va_W) ++ u' ∧ CW C.1 t u') (P_273 := fun _ u => ∃ (of' : Nat → Int64) (u' : va_W), u = ([(ou, .inl (C.1.2.2.2.1 1, 1, .inr (.inl of')))] : va_W) ++ u' ∧ CW C.1 t u') (P_301 := fun _ u => ∃ (of' : Nat → Int64) (u' : va_W), u = ([(ou, .inl (C.1.2.2.2.1 1, 1, .inr (.inl of')))] : va_W) ++ u' ∧ CW C.1 t u') (P_322 := fun _ u => CW C.1 t u) (P_336 := fun _ u => ∃ (of' : Nat → Int64) (u' : va_W), u = ([(ou, .inl (C.1.2.2.2.1 1, 1, .inr (.inl of')))] : va_W) ++ u' ∧ CW C.1 t u') (P_352 := fun _ u => ∃ (of' : Nat → Int64) (u' : va_W), u = ([(ou, .inl (C.1.2.2.2.1 1, 1, .inr (.inl of')))] : va_W) ++ u' ∧ CW C.1 t u') (P_374 := fun _ u => ∃ (of' : Nat → Int64) (u' : va_W), u = ([(ou, .inl (C.1.2.2.2.1 1, 1, .inr (.inl of')))] : va_W) ++ u' ∧ CW C.1 t u') (P_402 := fun _ u => ∃ (of' : Nat → Int64) (u' : va_W), u = ([(ou, .inl (C.1.2.2.2.1 1, 1, .inr (.inl of')))] : va_W) ++ u' ∧ CW C.1 t u') (P_430 := fun _ u => ∃ (of' : Nat → Int64) (u' : va_W), u = ([(ou, .inl (C.1.2.2.2.1 1, 1, .inr (.inl of')))] : va_W) ++ u' ∧ CW C.1 t u') (P_458 := fun _ u => ∃ (of' : Nat → Int64) (u' : va_W), u = ([(ou, .inl (C.1.2.2.2.1 1, 1, .inr (.inl of')))] : va_W) ++ u' ∧ CW C.1 t u') (P_498 := fun _ u => ∃ (of' : Nat → Int64) (u' : va_W), u = ([(ou, .inl (C.1.2.2.2.1 1, 1, .inr (.inl of')))] : va_W) ++ u' ∧ CW C.1 t u') (nI (4 * i)) f r c (tsX t x) g rr fc gc fm gm P ou of (304 * (t / 7 + 1)) (1824 * (t / 7 + 1)) c0 s0 (fun _ => fin i c0 s0 of f r c t x g rr fc gc fm gm P (by omega) (by omega)) ix0 (fun z _ => ix 1 (by decide) z) (fun z _ => ix 2 (by decide) z) (fun z _ => ix 3 (by decide) z) (fun _ _ => ⟨by omega, by omega⟩) (fun _ _ => h_sign C.1 f r c t x g rr fc gc P hcf hlt _ _ ou of) ?_ (fun _ _ _ => ⟨by omega, by omega⟩) (fun _ _ _ => h_read C.1 f r c t x g rr fc gc P hcf hlt  ou of) (fun z _ _ y u ⟨of', u', q0, f2, r2, c2, x2, g2, rr2, fc2, gc2, P2, q1, q2⟩ => by subst q0; exact zW_perm (((q1.append_left _).append_left _).trans (lwp1 _ _ _ _ _ _ _)) (s213 z _ _ of' f2 r2 c2 t x2 g2 rr2 fc2 gc2 fm gm P2 y ⟨by omega, by omega⟩ q2 hti)) (fun _ _ _ _ => ⟨by omega, by omega⟩) (fun _ _ _ _ => d_place C.1 f r c t x g rr fc gc P hcf) (fun z _ _ _ y u ⟨f2, r2, c2, x2, g2, rr2, fc2, gc2, P2, q1, q2⟩ => zW_perm ((q1.append_left _).trans (lwp2 _ _ _ _ _ _ _)) (s228 z c0 s0 of f2 r2 c2 t x2 g2 rr2 fc2 gc2 fm gm P2 y ⟨by omega, by omega⟩ q2 hti)) (fun z _ _ _ _ => ix 1 (by decide) z) (fun _ _ _ _ _ => ⟨by omega, by omega⟩) (fun _ _ _ _ _ => h_edition C.1 f r c t x g rr fc gc P hcf hlt (xs (nI (4 * i) + 1 : Int32).toNatClampNeg) ou of) (fun z _ _ _ _ y u ⟨of', u', q0, f2, r2, c2, x2, g2, rr2, fc2, gc2, P2, q1, q2⟩ => by subst q0; exact zW_perm (((q1.append_left _).append_left _).trans (lwp1 _ _ _ _ _ _ _)) (s248 z _ _ of' f2 r2 c2 t x2 g2 rr2 fc2 gc2 fm gm P2 y ⟨by omega, by omega⟩ q2 hti)) (fun z _ _ _ _ _ => ix 1 (by decide) z) (fun _ _ _ _ _ _ => ⟨by omega, by omega⟩) (fun _ _ _ _ _ _ => h_first C.1 f r c t x g rr fc gc P hcf hlt (xs (nI (4 * i) + 1 : Int32).toNatClampNeg) ou of) (fun z _ _ _ _ _ y u ⟨of', u', q0, f2, r2, c2, x2, g2, rr2, fc2, gc2, P2, q1, q2⟩ => by subst q0; exact zW_perm (((q1.append_left _).append_left _).trans (lwp1 _ _ _ _ _ _ _)) (s276 z _ _ of' f2 r2 c2 t x2 g2 rr2 fc2 gc2 fm gm P2 y ⟨by omega, by omega⟩ q2 hti)) (fun z _ _ _ _ _ _ => ix 1 (by decide) z) (fun _ _ _ _ _ _ _ => ⟨by omega, by omega⟩) (fun _ _ _ _ _ _ _ => h_answer C.1 f r c t x g rr fc gc P hcf hlt (xs (nI (4 * i) + 1 : Int32).toNatClampNeg) ou of) (fun z _ _ _ _ _ _ y u ⟨of', u', q0, f2, r2, c2, x2, g2, rr2, fc2, gc2, P2, q1, q2⟩ => by subst q0; exact zW_perm (((q1.append_left _).append_left _).trans (lwp1 _ _ _ _ _ _ _)) (s304 z _ _ of' f2 r2 c2 t x2 g2 rr2 fc2 gc2 fm gm P2 y ⟨by omega, by omega⟩ q2 hti)) (fun _ _ _ _ _ _ _ _ => ⟨by omega, by omega⟩) (fun _ _ _ _ _ _ _ _ => d_kind C.1 f r c t x g rr fc gc P hcf) (fun z _ _ _ _ _ _ _ y u ⟨f2, r2, c2, x2, g2, rr2, fc2, gc2, P2, q1, q2⟩ => zW_perm ((q1.append_left _).trans (lwp2 _ _ _ _ _ _ _)) (s325 z c0 s0 of f2 r2 c2 t x2 g2 rr2 fc2 gc2 fm gm P2 y ⟨by omega, by omega⟩ q2 hti)) (fun _ _ _ _ _ _ _ _ _ => ⟨by omega, by omega⟩) (fun _ _ _ _ _ _ _ _ _ => h_priority C.1 f r c t x g rr fc gc P hcf hlt  ou of) (fun z _ _ _ _ _ _ _ _ y u ⟨of', u', q0, f2, r2, c2, x2, g2, rr2, fc2, gc2, P2, q1, q2⟩ => by subst q0; exact zW_perm (((q1.append_left _).append_left _).trans (lwp1 _ _ _ _ _ _ _)) (s339 z _ _ of' f2 r2 c2 t x2 g2 rr2 fc2 gc2 fm gm P2 y ⟨by omega, by omega⟩ q2 hti)) (fun _ _ _ _ _ _ _ _ _ _ => ⟨by omega, by omega⟩) (fun _ _ _ _ _ _ _ _ _ _ => h_points C.1 f r c t x g rr fc gc P hcf hlt  ou of) (fun z _ _ _ _ _ _ _ _ _ y u ⟨of', u', q0, f2, r2, c2, x2, g2, rr2, fc2, gc2, P2, q1, q2⟩ => by subst q0; exact zW_perm (((q1.append_left _).append_left _).trans (lwp1 _ _ _ _ _ _ _)) (s355 z _ _ of' f2 r2 c2 t x2 g2 rr2 fc2 gc2 fm gm P2 y ⟨by omega, by omega⟩ q2 hti)) (fun z _ _ _ _ _ _ _ _ _ _ => ix 1 (by decide) z) (fun _ _ _ _ _ _ _ _ _ _ _ => ⟨by omega, by omega⟩) (fun _ _ _ _ _ _ _ _ _ _ _ => h_asked C.1 f r c t x g rr fc gc P hcf hlt (xs (nI (4 * i) + 1 : Int32).toNatClampNeg) ou of) (fun z _ _ _ _ _ _ _ _ _ _ y u ⟨of', u', q0, f2, r2, c2, x2, g2, rr2, fc2, gc2, P2, q1, q2⟩ => by subst q0; exact zW_perm (((q1.append_left _).append_left _).trans (lwp1 _ _ _ _ _ _ _)) (s377 z _ _ of' f2 r2 c2 t x2 g2 rr2 fc2 gc2 fm gm P2 y ⟨by omega, by omega⟩ q2 hti)) (fun z _ _ _ _ _ _ _ _ _ _ _ => ix 1 (by decide) z) (fun _ _ _ _ _ _ _ _ _ _ _ _ => ⟨by omega, by omega⟩) (fun _ _ _ _ _ _ _ _ _ _ _ _ => h_loop C.1 f r c t x g rr fc gc P hcf hlt (xs (nI (4 * i) + 1 : Int32).toNatClampNeg) ou of) (fun z _ _ _ _ _ _ _ _ _ _ _ y u ⟨of', u', q0, f2, r2, c2, x2, g2, rr2, fc2, gc2, P2, q1, q2⟩ => by subst q0; exact zW_perm (((q1.append_left _).append_left _).trans (lwp1 _ _ _ _ _ _ _)) (s405 z _ _ of' f2 r2 c2 t x2 g2 rr2 fc2 gc2 fm gm P2 y ⟨by omega, by omega⟩ q2 hti)) (fun z _ _ _ _ _ _ _ _ _ _ _ _ => ix 1 (by decide) z) (fun _ _ _ _ _ _ _ _ _ _ _ _ _ => ⟨by omega, by omega⟩) (fun _ _ _ _ _ _ _ _ _ _ _ _ _ => h_never C.1 f r c t x g rr fc gc P hcf hlt (xs (nI (4 * i) + 1 : Int32).toNatClampNeg) ou of) (fun z _ _ _ _ _ _ _ _ _ _ _ _ y u ⟨of', u', q0, f2, r2, c2, x2, g2, rr2, fc2, gc2, P2, q1, q2⟩ => by subst q0; exact zW_perm (((q1.append_left _).append_left _).trans (lwp1 _ _ _ _ _ _ _)) (s433 z _ _ of' f2 r2 c2 t x2 g2 rr2 fc2 gc2 fm gm P2 y ⟨by omega, by omega⟩ q2 hti)) (fun z _ _ _ _ _ _ _ _ _ _ _ _ _ => ix 1 (by decide) z) (fun _ _ _ _ _ _ _ _ _ _ _ _ _ _ => ⟨by omega, by omega⟩) (fun _ _ _ _ _ _ _ _ _ _ _ _ _ _ => h_endless C.1 f r c t x g rr fc gc P hcf hlt (xs (nI (4 * i) + 1 : Int32).toNatClampNeg) ou of) (fun z _ _ _ _ _ _ _ _ _ _ _ _ _ y u ⟨of', u', q0, f2, r2, c2, x2, g2, rr2, fc2, gc2, P2, q1, q2⟩ => by subst q0; exact zW_perm (((q1.append_left _).append_left _).trans (lwp1 _ _ _ _ _ _ _)) (s461 z _ _ of' f2 r2 c2 t x2 g2 rr2 fc2 gc2 fm gm P2 y ⟨by omega, by omega⟩ q2 hti)) (fun z _ _ _ _ _ _ _ _ _ _ _ _ _ _ => ix 1 (by decide) z) (fun z _ _ _ _ _ _ _ _ _ _ _ _ _ _ => ix 2 (by decide) z) (fun z _ _ _ _ _ _ _ _ _ _ _ _ _ _ => ix 3 (by decide) z) (fun _ _ _ _ _ _ _ _ _ _ _ _ _ _ _ => ⟨by omega, by omega⟩) (fun _ _ _ _ _ _ _ _ _ _ _ _ _ _ _ => h_word C.1 f r c t x g rr fc gc P hcf hlt (xs (nI (4 * i) + 1 : Int32).toNatClampNeg) (xs (nI (4 * i) + 2 : Int32).toNatClampNeg) (xs (nI (4 * i) + 3 : Int32).toNatClampNeg) ou of) (fun z _ _ _ _ _ _ _ _ _ _ _ _ _ _ y u ⟨of', u', q0, f2, r2, c2, x2, g2, rr2, fc2, gc2, P2, q1, q2⟩ => by subst q0; exact zW_perm (((q1.append_left _).append_left _).trans (lwp1 _ _ _ _ _ _ _)) (s501 z _ _ of' f2 r2 c2 t x2 g2 rr2 fc2 gc2 fm gm P2 y ⟨by omega, by omega⟩ q2 hti)) ?_ (fun _ _ _ _ _ _ _ _ _ _ _ _ _ _ _ => s530 c0 s0 of f r c t x g rr fc gc fm gm P ⟨by omega, by omega⟩ hcf hti)
    · rintro z _ y u ⟨of', u', rfl, hcase⟩
      have fill : ∀ (t' : Nat) (f2 : FT) (r2 : Nat → Nat → Option Nat) (c2 : Nat) (x2 : Int32) (g2 : GT) (rr2 : Nat → Nat → Option Nat) (fc2 : FT) (gc2 : GT) (P2 : va_W), pot (i + 1) t' (c0 + 1) (s0 + 6) → CF C.1.2.2.2.1 t' f2 r2 c2 rr2 fc2 P2 → sgY (xs (nI (4 * i) + 3 : Int32).toNatClampNeg) t = y → (y = 0 → ∀ m : Nat, xs (nI (4 * i) + 3 : Int32).toNatClampNeg = nI m → m ≤ 8 → t' = t + m ∧ of' 0 = (nI (t + m)).toInt64) → (¬ y = 0 → t' = t) → zc_La_lawL C Post (c0 + 1) (s0 + 6) 141 [(0, .ref b_), (1, .ref (ad C.1 24)), (2, .ref (ad C.1 0)), (3, .ref ou), (4, .int (nI (4 * i)))] [.int y] (lawW C.1 ou of' f2 r2 c2 t' x2 g2 rr2 fc2 gc2 fm gm P2) := by
        intro t' f2 r2 c2 x2 g2 rr2 fc2 gc2 P2 q1 q2 hy h0 h1
        refine k_La_lawL_141 X Post (P_172 := fun w u => ∃ f' g', (TI t' f' g' ∧ f' 0 = y ∧ (y = 0 → of' 0 = w.toInt64)) ∧ u = mw C.1.2.2.2.1 C.1.2.2.2.2 f' g') (nI (4 * i)) y f2 r2 c2 (tsX t' x2) g2 rr2 fc2 gc2 fm gm P2 ou of' 0 0 _ _ (ix 1 (by decide) z) (ix 2 (by decide) z) (ix 3 (by decide) z) ⟨by have := q1.1; omega, by have := q1.2; omega⟩ (mI_uI (c_sign C.1 _ _ t fm gm hti.1 hti.2.1 (fun w f' g' => TI t' f' g' ∧ f' 0 = y ∧ (y = 0 → of' 0 = w.toInt64)) ?_)) ?_
        · by_cases y0 : y = 0
          · rw [if_pos (hy.trans y0)]
            intro m e1 e2 e3 e4
            obtain ⟨rfl, e6⟩ := h0 y0 m e1 e3
            exact ⟨TI_sg hti e4 _, y0.symm, fun _ => e6⟩
          · rw [if_neg (fun e => y0 (hy.symm.trans e))]
            have e7 := h1 y0
            subst e7
            exact ⟨TI_0 hti _, hy, fun e => absurd e y0⟩
        · rintro w u ⟨f', g', ⟨w1, w2, w3⟩, rfl⟩
          refine zW_perm (lwp3 _ _ _ _ _ _ _) ?_
          refine k_La_lawL_175 X Post (P_178 := fun v u => ∃ f3 g3, (v = y ∧ f3 = f' ∧ g3 = g') ∧ u = mw C.1.2.2.2.1 C.1.2.2.2.2 f3 g3) (nI (4 * i)) y w f2 r2 c2 (tsX t' x2) g2 rr2 fc2 gc2 f' g' P2 ou of' 0 0 _ _ ⟨by have := q1.1; omega, by have := q1.2; omega⟩ (mI_uI (c_thrown C.1 f' g' (fun v f3 g3 => v = y ∧ f3 = f' ∧ g3 = g') ⟨w2, rfl, rfl⟩)) ?_
          rintro v u ⟨f3, g3, ⟨rfl, rfl, rfl⟩, rfl⟩
          refine zW_perm (lwp3 _ _ _ _ _ _ _) ?_
          have s205 : zc_La_lawL C Post (c0 + 1) (s0 + 6) 205 [(0, .ref b_), (1, .ref (ad C.1 24)), (2, .ref (ad C.1 0)), (3, .ref ou), (4, .int (nI (4 * i))), (5, .int v), (6, .int w)] [] (lawW C.1 ou of' f2 r2 c2 t' x2 g2 rr2 fc2 gc2 f3 g3 P2) := k_La_lawL_205 X Post (nI (4 * i)) v w f2 r2 c2 (tsX t' x2) g2 rr2 fc2 gc2 f3 g3 P2 ou of' 0 0 _ _ (s530 _ _ of' f2 r2 c2 t' x2 g2 rr2 fc2 gc2 f3 g3 P2 q1 q2 w1)
          exact k_La_lawL_181 X Post (nI (4 * i)) v w v f2 r2 c2 (tsX t' x2) g2 rr2 fc2 gc2 f3 g3 P2 ou of' 0 0 _ _ (fun _ _ => s205) (fun _ _ => by unfold vp_in; decide) (fun _ _ _ => s205) (fun _ e n => absurd (by rw [show of' (0 : Int32).toNatClampNeg = w.toInt64 from w3 e]; exact lgc_self _) n) (fun n => absurd rfl n)
      rcases hcase with ⟨rfl, n, e1, e2, e3, e4, e5, f2, r2, c2, x2, g2, rr2, fc2, gc2, P2, q1, q2⟩ | ⟨rfl, e1, f2, r2, c2, x2, g2, rr2, fc2, gc2, P2, q1, q2⟩ | ⟨rfl, ⟨n, e1, e2, e3, e4⟩, f2, r2, c2, x2, g2, rr2, fc2, gc2, P2, q1, q2⟩
      · refine zW_perm (((q1.append_left _).append_left _).trans (lwp1 _ _ _ _ _ _ _)) (fill (t + n) f2 r2 c2 x2 g2 rr2 fc2 gc2 P2 ⟨by omega, by omega⟩ q2 ?_ (fun _ m e6 e7 => ?_) (fun q => absurd rfl q))
        · rw [e1]; exact sgY0 e2 e3 e4
        · have e8 : n = m := (nI_eq (by omega) (by omega)).mp (e1.symm.trans e6)
          subst e8; exact ⟨rfl, e5⟩
      · exact zW_perm (((q1.append_left _).append_left _).trans (lwp1 _ _ _ _ _ _ _)) (fill t f2 r2 c2 x2 g2 rr2 fc2 gc2 P2 ⟨by omega, by omega⟩ q2 (sgY1 e1) (fun q => absurd q (by decide)) (fun _ => rfl))
      · refine zW_perm (((q1.append_left _).append_left _).trans (lwp1 _ _ _ _ _ _ _)) (fill t f2 r2 c2 x2 g2 rr2 fc2 gc2 P2 ⟨by omega, by omega⟩ q2 ?_ (fun q => absurd q (by decide)) (fun _ => rfl))
        rw [e1]; exact sgY2 e2 e3 e4 hti.2.1
    · rintro _ a0 a1 a2 a3 a4 a5 a6 a7 a8 a9 a10 a11 a12 a13
      obtain ⟨j, hj, ej⟩ := pk_andE (xs (nI (4 * i)).toNatClampNeg) (m := 15) 4 (by decide)
      right
      rw [ej, nI_toInt (by omega)]
      have n0 : j ≠ 0 := fun e => a0 (by rw [ej, e]; rfl)
      have n1 : j ≠ 1 := fun e => a1 (by rw [ej, e]; rfl)
      have n2 : j ≠ 2 := fun e => a2 (by rw [ej, e]; rfl)
      have n3 : j ≠ 3 := fun e => a3 (by rw [ej, e]; rfl)
      have n4 : j ≠ 4 := fun e => a4 (by rw [ej, e]; rfl)
      have n5 : j ≠ 5 := fun e => a5 (by rw [ej, e]; rfl)
      have n6 : j ≠ 6 := fun e => a6 (by rw [ej, e]; rfl)
      have n7 : j ≠ 7 := fun e => a7 (by rw [ej, e]; rfl)
      have n8 : j ≠ 8 := fun e => a8 (by rw [ej, e]; rfl)
      have n9 : j ≠ 9 := fun e => a9 (by rw [ej, e]; rfl)
      have n10 : j ≠ 10 := fun e => a10 (by rw [ej, e]; rfl)
      have n11 : j ≠ 11 := fun e => a11 (by rw [ej, e]; rfl)
      have n12 : j ≠ 12 := fun e => a12 (by rw [ej, e]; rfl)
      have n13 : j ≠ 13 := fun e => a13 (by rw [ej, e]; rfl)
      omega
