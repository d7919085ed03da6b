-- the law's own methods: calls of the class, their exceptions caught; the class's state
theorem h_sign (T : ST) (S : ES) (f : FT) (r : Nat → Nat → Option Nat) (c L : Nat) (x : Int32) (g : GT) (rr : Nat → Nat → Option Nat) (fc : FT) (gc : GT) (P : va_W) (h : CF S T.2.2.2.1 L f r c g rr fc gc P) (hlt : T.1.stackTraces = false) (v1 : Int64) (v3 : Int32) (ou : Nat) (of : Nat → Int64) : uI T y_La_sign (Cond.codeWith y_La_sign b_La_sign 6 (some .int) [(0, 11, 14, 13), (0, 11, 18, 15)]) 2 1 6 [.ref (ad T 24), .long v1, .int v3, .ref ou] ([(ou, .inl (T.2.2.2.1 1, 1, .inr (.inl of)))] ++ WX T f r c L x g rr fc gc P) (fun y u => ∃ (of' : Nat → Int64) (u' : va_W), u = [(ou, .inl (T.2.2.2.1 1, 1, .inr (.inl of')))] ++ u' ∧ ((y = 0 ∧ ∃ n, v3 = nI n ∧ 1 ≤ n ∧ n ≤ 8 ∧ L + n ≤ 400 ∧ of' 0 = (nI (L + n)).toInt64 ∧ CW (S.1, S.2.1, S.2.2.1, S.2.2.2.1, sgL v1 n L S.2.2.2.2) T (L + n) u') ∨ (y = 1 ∧ (v3 < 1 ∨ ¬ v3 ≤ 8) ∧ CW S T L u') ∨ (y = 2 ∧ (∃ n, v3 = nI n ∧ 1 ≤ n ∧ n ≤ 8 ∧ ¬ L + n ≤ 400) ∧ CW S T L u'))) := by
  refine e_La_sign T hlt _ v1 v3 f r c (tsX L x) g rr fc gc P ou of ?_
  rintro C rfl X
  refine k_La_sign_0 X _ (P_6 := fun y u => ∃ n, v3 = nI n ∧ 1 ≤ n ∧ n ≤ 8 ∧ L + n ≤ 400 ∧ y = nI (L + n) ∧ CW (S.1, S.2.1, S.2.2.1, S.2.2.2.1, sgL v1 n L S.2.2.2.2) C.1 (L + n) u) (X_6 := fun E u => (E = IAE ∧ (v3 < 1 ∨ ¬ v3 ≤ 8) ∨ E = ISE ∧ ∃ n, v3 = nI n ∧ 1 ≤ n ∧ n ≤ 8 ∧ ¬ L + n ≤ 400) ∧ CW S C.1 L u) v1 v3 f r c (tsX L x) g rr fc gc P ou of 0 0 ⟨by decide, by decide⟩ (d_sign _ S f r c L x g rr fc gc P h X.2.2 v1 v3) ?_ ?_
  · rintro y u ⟨n, rfl, h1, h2, h3, rfl, f2, r2, c2, x2, g2, rr2, fc2, gc2, P2, hp, hcf⟩
    refine zW_perm (hp.append_left _) ?_
    exact k_La_sign_9 X _ v1 (nI n) _ 0 f2 r2 c2 (tsX (L + n) x2) g2 rr2 fc2 gc2 P2 ou of _ _ (by unfold vp_in; decide) ⟨by decide, by decide⟩ ⟨_, _, rfl, Or.inl ⟨rfl, n, rfl, h1, h2, h3, if_pos rfl, CW.of hcf⟩⟩
  · rintro E u ⟨hE, f2, r2, c2, x2, g2, rr2, fc2, gc2, P2, hp, hcf⟩
    rcases hE with ⟨rfl, q⟩ | ⟨rfl, q⟩
    · exact Or.inl ⟨rfl, fun q9 => zW_perm (hp.append_left _) (k_La_sign_14 X _ v1 v3 q9 f2 r2 c2 (tsX L x2) g2 rr2 fc2 gc2 P2 ou of _ _ ⟨by decide, by decide⟩ ⟨_, _, rfl, Or.inr (Or.inl ⟨rfl, q, CW.of hcf⟩)⟩)⟩
    · exact Or.inr ⟨rfl, fun q9 => zW_perm (hp.append_left _) (k_La_sign_18 X _ v1 v3 q9 f2 r2 c2 (tsX L x2) g2 rr2 fc2 gc2 P2 ou of _ _ ⟨by decide, by decide⟩ ⟨_, _, rfl, Or.inr (Or.inr ⟨rfl, q, CW.of hcf⟩)⟩)⟩
theorem h_read (T : ST) (S : ES) (hS8 : S.2.1 ≤ 8) (f : FT) (r : Nat → Nat → Option Nat) (c L : Nat) (x : Int32) (g : GT) (rr : Nat → Nat → Option Nat) (fc : FT) (gc : GT) (P : va_W) (h : CF S T.2.2.2.1 L f r c g rr fc gc P) (hlt : T.1.stackTraces = false) (ou : Nat) (of : Nat → Int64) : uI T y_La_read (Cond.codeWith y_La_read b_La_read 3 (some .int) [(0, 8, 11, 13), (0, 8, 14, 15)]) 9 (304 * (L / 7 + 1) + 4) (1824 * (L / 7 + 1) + 138) [.ref (ad T 24), .ref ou] ([(ou, .inl (T.2.2.2.1 1, 1, .inr (.inl of)))] ++ WX T f r c L x g rr fc gc P) (fun y u => ∃ (of' : Nat → Int64) (u' : va_W), u = [(ou, .inl (T.2.2.2.1 1, 1, .inr (.inl of')))] ++ u' ∧ ((y = 0 ∧ ∃ R, kTape false S.2.2.2.2 L = some R ∧ S.2.1 < 8 ∧ of' 0 = (szL (mgR (S.1 S.2.2.1) R).1 60 1 0).toInt64 ∧ CW (rdS S R) T 0 u') ∨ (y = 1 ∧ kTape false S.2.2.2.2 L = none ∧ CW (clS S) T 0 u') ∨ (y = 2 ∧ (∃ R, kTape false S.2.2.2.2 L = some R) ∧ S.2.1 = 8 ∧ CW (clS S) T 0 u'))) := by
  refine e_La_read T hlt _  f r c (tsX L x) g rr fc gc P ou of (304 * (L / 7 + 1)) (1824 * (L / 7 + 1)) ?_
  rintro C rfl X
  refine k_La_read_0 X _ (P_3 := fun y u => ∃ R, kTape false S.2.2.2.2 L = some R ∧ S.2.1 < 8 ∧ y = szL (mgR (S.1 S.2.2.1) R).1 60 1 0 ∧ CW (rdS S R) C.1 0 u) (X_3 := fun E u => ((E = IAE ∧ kTape false S.2.2.2.2 L = none) ∨ (E = ISE ∧ (∃ R, kTape false S.2.2.2.2 L = some R) ∧ S.2.1 = 8)) ∧ CW (clS S) C.1 0 u)  f r c (tsX L x) g rr fc gc P ou of (304 * (L / 7 + 1)) (1824 * (L / 7 + 1)) 0 0 ⟨by omega, by omega⟩ (d_Qread _ S hS8 f r c L x g rr fc gc P h X.2.2 ) ?_ ?_
  · rintro y u ⟨R, q1, q2, rfl, f2, r2, c2, x2, g2, rr2, fc2, gc2, P2, hp, hcf⟩
    refine zW_perm (hp.append_left _) ?_
    exact k_La_read_6 X _ _ 0 f2 r2 c2 (tsX 0 x2) g2 rr2 fc2 gc2 P2 ou of (304 * (L / 7 + 1)) (1824 * (L / 7 + 1)) _ _ (by unfold vp_in; decide) ⟨by omega, by omega⟩ ⟨_, _, rfl, Or.inl ⟨rfl, R, q1, q2, if_pos rfl, CW.of hcf⟩⟩
  · rintro E u ⟨hE, f2, r2, c2, x2, g2, rr2, fc2, gc2, P2, hp, hcf⟩
    rcases hE with ⟨rfl, q⟩ | ⟨rfl, q⟩
    · exact Or.inl ⟨rfl, fun q9 => zW_perm (hp.append_left _) (k_La_read_11 X _  q9 f2 r2 c2 (tsX 0 x2) g2 rr2 fc2 gc2 P2 ou of (304 * (L / 7 + 1)) (1824 * (L / 7 + 1)) _ _ ⟨by omega, by omega⟩ ⟨_, _, rfl, Or.inr (Or.inl ⟨rfl, q, CW.of hcf⟩)⟩)⟩
    · exact Or.inr ⟨rfl, fun q9 => zW_perm (hp.append_left _) (k_La_read_14 X _  q9 f2 r2 c2 (tsX 0 x2) g2 rr2 fc2 gc2 P2 ou of (304 * (L / 7 + 1)) (1824 * (L / 7 + 1)) _ _ ⟨by omega, by omega⟩ ⟨_, _, rfl, Or.inr (Or.inr ⟨rfl, q.1, q.2, CW.of hcf⟩)⟩)⟩
theorem h_edition (T : ST) (S : ES) (f : FT) (r : Nat → Nat → Option Nat) (c L : Nat) (x : Int32) (g : GT) (rr : Nat → Nat → Option Nat) (fc : FT) (gc : GT) (P : va_W) (h : CF S T.2.2.2.1 L f r c g rr fc gc P) (hlt : T.1.stackTraces = false) (v1 : Int32) (ou : Nat) (of : Nat → Int64) : uI T y_La_edition (Cond.codeWith y_La_edition b_La_edition 4 (some .int) [(0, 9, 12, 13)]) 3 1 6 [.ref (ad T 24), .int v1, .ref ou] ([(ou, .inl (T.2.2.2.1 1, 1, .inr (.inl of)))] ++ WX T f r c L x g rr fc gc P) (fun y u => ∃ (of' : Nat → Int64) (u' : va_W), u = [(ou, .inl (T.2.2.2.1 1, 1, .inr (.inl of')))] ++ u' ∧ ((y = 0 ∧ ∃ j, v1 = nI j ∧ j ≤ S.2.1 ∧ j < 100 ∧ of' 0 = (szL (S.1 j).1 60 1 0).toInt64 ∧ CW (S.1, S.2.1, j, k00, S.2.2.2.2) T L u') ∨ (y = 1 ∧ (v1 < 0 ∨ ¬ v1 ≤ nI S.2.1) ∧ CW S T L u'))) := by
  refine e_La_edition T hlt _ v1 f r c (tsX L x) g rr fc gc P ou of ?_
  rintro C rfl X
  refine k_La_edition_0 X _ (P_4 := fun y u => ∃ j, v1 = nI j ∧ j ≤ S.2.1 ∧ j < 100 ∧ y = szL (S.1 j).1 60 1 0 ∧ CW (S.1, S.2.1, j, k00, S.2.2.2.2) C.1 L u) (X_4 := fun E u => (E = IAE ∧ (v1 < 0 ∨ ¬ v1 ≤ nI S.2.1)) ∧ CW S C.1 L u) v1 f r c (tsX L x) g rr fc gc P ou of 0 0 ⟨by decide, by decide⟩ (d_edition _ S f r c L x g rr fc gc P h X.2.2 v1) ?_ ?_
  · rintro y u ⟨j, q1, q2, q3, rfl, f2, r2, c2, x2, g2, rr2, fc2, gc2, P2, hp, hcf⟩
    refine zW_perm (hp.append_left _) ?_
    exact k_La_edition_7 X _ v1 _ 0 f2 r2 c2 (tsX L x2) g2 rr2 fc2 gc2 P2 ou of _ _ (by unfold vp_in; decide) ⟨by decide, by decide⟩ ⟨_, _, rfl, Or.inl ⟨rfl, j, q1, q2, q3, if_pos rfl, CW.of hcf⟩⟩
  · rintro E u ⟨⟨rfl, q⟩, f2, r2, c2, x2, g2, rr2, fc2, gc2, P2, hp, hcf⟩
    exact ⟨rfl, fun q9 => zW_perm (hp.append_left _) (k_La_edition_12 X _ v1 q9 f2 r2 c2 (tsX L x2) g2 rr2 fc2 gc2 P2 ou of _ _ ⟨by decide, by decide⟩ ⟨_, _, rfl, Or.inr ⟨rfl, q, CW.of hcf⟩⟩)⟩
theorem h_first (T : ST) (S : ES) (f : FT) (r : Nat → Nat → Option Nat) (c L : Nat) (x : Int32) (g : GT) (rr : Nat → Nat → Option Nat) (fc : FT) (gc : GT) (P : va_W) (h : CF S T.2.2.2.1 L f r c g rr fc gc P) (hlt : T.1.stackTraces = false) (v1 : Int32) (ou : Nat) (of : Nat → Int64) : uI T y_La_first (Cond.codeWith y_La_first b_La_first 4 (some .int) [(0, 9, 12, 13)]) 3 1 6 [.ref (ad T 24), .int v1, .ref ou] ([(ou, .inl (T.2.2.2.1 1, 1, .inr (.inl of)))] ++ WX T f r c L x g rr fc gc P) (fun y u => ∃ (of' : Nat → Int64) (u' : va_W), u = [(ou, .inl (T.2.2.2.1 1, 1, .inr (.inl of')))] ++ u' ∧ ((y = 0 ∧ ∃ j d, v1 = nI j ∧ 1 ≤ j ∧ j ≤ 9 ∧ (S.1 S.2.2.1).2 j = some d ∧ of' 0 = (nxV (S.1 S.2.2.1) d.1).toInt64 ∧ CW (S.1, S.2.1, S.2.2.1, kFs v1 (nxV (S.1 S.2.2.1) d.1), S.2.2.2.2) T L u') ∨ (y = 1 ∧ ((v1 < 1 ∨ ¬ v1 ≤ 9) ∨ ∃ j, v1 = nI j ∧ 1 ≤ j ∧ j ≤ 9 ∧ ((S.1 S.2.2.1).2 j) = none) ∧ CW S T L u'))) := by
  refine e_La_first T hlt _ v1 f r c (tsX L x) g rr fc gc P ou of ?_
  rintro C rfl X
  refine k_La_first_0 X _ (P_4 := fun y u => (∃ j d, v1 = nI j ∧ 1 ≤ j ∧ j ≤ 9 ∧ (S.1 S.2.2.1).2 j = some d ∧ y = nxV (S.1 S.2.2.1) d.1) ∧ CW (S.1, S.2.1, S.2.2.1, kFs v1 y, S.2.2.2.2) C.1 L u) (X_4 := fun E u => (E = IAE ∧ ((v1 < 1 ∨ ¬ v1 ≤ 9) ∨ ∃ j, v1 = nI j ∧ 1 ≤ j ∧ j ≤ 9 ∧ ((S.1 S.2.2.1).2 j) = none)) ∧ CW S C.1 L u) v1 f r c (tsX L x) g rr fc gc P ou of 0 0 ⟨by decide, by decide⟩ (d_first _ S f r c L x g rr fc gc P h X.2.2 v1) ?_ ?_
  · rintro y u ⟨⟨j, d, q1, q2, q3, q4, rfl⟩, f2, r2, c2, x2, g2, rr2, fc2, gc2, P2, hp, hcf⟩
    refine zW_perm (hp.append_left _) ?_
    exact k_La_first_7 X _ v1 _ 0 f2 r2 c2 (tsX L x2) g2 rr2 fc2 gc2 P2 ou of _ _ (by unfold vp_in; decide) ⟨by decide, by decide⟩ ⟨_, _, rfl, Or.inl ⟨rfl, j, d, q1, q2, q3, q4, if_pos rfl, CW.of hcf⟩⟩
  · rintro E u ⟨⟨rfl, q⟩, f2, r2, c2, x2, g2, rr2, fc2, gc2, P2, hp, hcf⟩
    exact ⟨rfl, fun q9 => zW_perm (hp.append_left _) (k_La_first_12 X _ v1 q9 f2 r2 c2 (tsX L x2) g2 rr2 fc2 gc2 P2 ou of _ _ ⟨by decide, by decide⟩ ⟨_, _, rfl, Or.inr ⟨rfl, q, CW.of hcf⟩⟩)⟩
theorem h_answer (T : ST) (S : ES) (f : FT) (r : Nat → Nat → Option Nat) (c L : Nat) (x : Int32) (g : GT) (rr : Nat → Nat → Option Nat) (fc : FT) (gc : GT) (P : va_W) (h : CF S T.2.2.2.1 L f r c g rr fc gc P) (hlt : T.1.stackTraces = false) (v1 : Int32) (ou : Nat) (of : Nat → Int64) : uI T y_La_answer (Cond.codeWith y_La_answer b_La_answer 4 (some .int) [(0, 9, 12, 13), (0, 9, 15, 15)]) 5 1 6 [.ref (ad T 24), .int v1, .ref ou] ([(ou, .inl (T.2.2.2.1 1, 1, .inr (.inl of)))] ++ WX T f r c L x g rr fc gc P) (fun y u => ∃ (of' : Nat → Int64) (u' : va_W), u = [(ou, .inl (T.2.2.2.1 1, 1, .inr (.inl of')))] ++ u' ∧ ((y = 0 ∧ ∃ q d, anQ S q d ∧ ¬ alV d v1 = 0 ∧ (¬ anN S d v1 = 0 → S.2.2.2.1.2.1 < 40) ∧ of' 0 = (anN S d v1).toInt64 ∧ CW (anS S d v1) T L u') ∨ (y = 1 ∧ (∃ q d, anQ S q d ∧ alV d v1 = 0) ∧ CW S T L u') ∨ (y = 2 ∧ (anNo S ∨ ∃ q d, anQ S q d ∧ ¬ alV d v1 = 0 ∧ ¬ anN S d v1 = 0 ∧ ¬ S.2.2.2.1.2.1 < 40) ∧ CW S T L u'))) := by
  refine e_La_answer T hlt _ v1 f r c (tsX L x) g rr fc gc P ou of ?_
  rintro C rfl X
  refine k_La_answer_0 X _ (P_4 := fun y u => ∃ q d, anQ S q d ∧ ¬ alV d v1 = 0 ∧ (¬ anN S d v1 = 0 → S.2.2.2.1.2.1 < 40) ∧ y = anN S d v1 ∧ CW (anS S d v1) C.1 L u) (X_4 := fun E u => ((E = ISE ∧ anNo S) ∨ (E = IAE ∧ ∃ q d, anQ S q d ∧ alV d v1 = 0) ∨ (E = ISE ∧ ∃ q d, anQ S q d ∧ ¬ alV d v1 = 0 ∧ ¬ anN S d v1 = 0 ∧ ¬ S.2.2.2.1.2.1 < 40)) ∧ CW S C.1 L u) v1 f r c (tsX L x) g rr fc gc P ou of 0 0 ⟨by decide, by decide⟩ (d_answer _ S f r c L x g rr fc gc P h X.2.2 v1) ?_ ?_
  · rintro y u ⟨q, d, q1, q2, q3, rfl, f2, r2, c2, x2, g2, rr2, fc2, gc2, P2, hp, hcf⟩
    refine zW_perm (hp.append_left _) ?_
    exact k_La_answer_7 X _ v1 _ 0 f2 r2 c2 (tsX L x2) g2 rr2 fc2 gc2 P2 ou of _ _ (by unfold vp_in; decide) ⟨by decide, by decide⟩ ⟨_, _, rfl, Or.inl ⟨rfl, q, d, q1, q2, q3, if_pos rfl, CW.of hcf⟩⟩
  · rintro E u ⟨hE, f2, r2, c2, x2, g2, rr2, fc2, gc2, P2, hp, hcf⟩
    rcases hE with ⟨rfl, q⟩ | ⟨rfl, q⟩ | ⟨rfl, q⟩
    · exact Or.inr ⟨rfl, fun q9 => zW_perm (hp.append_left _) (k_La_answer_15 X _ v1 q9 f2 r2 c2 (tsX L x2) g2 rr2 fc2 gc2 P2 ou of _ _ ⟨by decide, by decide⟩ ⟨_, _, rfl, Or.inr (Or.inr ⟨rfl, Or.inl q, CW.of hcf⟩)⟩)⟩
    · exact Or.inl ⟨rfl, fun q9 => zW_perm (hp.append_left _) (k_La_answer_12 X _ v1 q9 f2 r2 c2 (tsX L x2) g2 rr2 fc2 gc2 P2 ou of _ _ ⟨by decide, by decide⟩ ⟨_, _, rfl, Or.inr (Or.inl ⟨rfl, q, CW.of hcf⟩)⟩)⟩
    · exact Or.inr ⟨rfl, fun q9 => zW_perm (hp.append_left _) (k_La_answer_15 X _ v1 q9 f2 r2 c2 (tsX L x2) g2 rr2 fc2 gc2 P2 ou of _ _ ⟨by decide, by decide⟩ ⟨_, _, rfl, Or.inr (Or.inr ⟨rfl, Or.inr q, CW.of hcf⟩)⟩)⟩
theorem h_priority (T : ST) (S : ES) (f : FT) (r : Nat → Nat → Option Nat) (c L : Nat) (x : Int32) (g : GT) (rr : Nat → Nat → Option Nat) (fc : FT) (gc : GT) (P : va_W) (h : CF S T.2.2.2.1 L f r c g rr fc gc P) (hlt : T.1.stackTraces = false) (ou : Nat) (of : Nat → Int64) : uI T y_La_priority (Cond.codeWith y_La_priority b_La_priority 3 (some .int) [(0, 8, 11, 15)]) 6 1 6 [.ref (ad T 24), .ref ou] ([(ou, .inl (T.2.2.2.1 1, 1, .inr (.inl of)))] ++ WX T f r c L x g rr fc gc P) (fun _ u => ∃ (of' : Nat → Int64) (u' : va_W), u = [(ou, .inl (T.2.2.2.1 1, 1, .inr (.inl of')))] ++ u' ∧ CW S T L u') := by
  refine e_La_priority T hlt _  f r c (tsX L x) g rr fc gc P ou of ?_
  rintro C rfl X
  refine k_La_priority_0 X _ (P_3 := fun _ u => CW S C.1 L u) (X_3 := fun E u => E = ISE ∧ CW S C.1 L u)  f r c (tsX L x) g rr fc gc P ou of 0 0 ⟨by decide, by decide⟩ (d_priority _ S f r c L x g rr fc gc P h X.2.2 ) ?_ ?_
  · rintro y u ⟨f2, r2, c2, x2, g2, rr2, fc2, gc2, P2, hp, hcf⟩
    refine zW_perm (hp.append_left _) ?_
    exact k_La_priority_6 X _  y 0 f2 r2 c2 (tsX L x2) g2 rr2 fc2 gc2 P2 ou of _ _ (by unfold vp_in; decide) ⟨by decide, by decide⟩ ⟨_, _, rfl, CW.of hcf⟩
  · rintro E u ⟨rfl, f2, r2, c2, x2, g2, rr2, fc2, gc2, P2, hp, hcf⟩
    exact ⟨rfl, fun q9 => zW_perm (hp.append_left _) (k_La_priority_11 X _  q9 f2 r2 c2 (tsX L x2) g2 rr2 fc2 gc2 P2 ou of _ _ ⟨by decide, by decide⟩ ⟨_, _, rfl, CW.of hcf⟩)⟩
theorem h_points (T : ST) (S : ES) (f : FT) (r : Nat → Nat → Option Nat) (c L : Nat) (x : Int32) (g : GT) (rr : Nat → Nat → Option Nat) (fc : FT) (gc : GT) (P : va_W) (h : CF S T.2.2.2.1 L f r c g rr fc gc P) (hlt : T.1.stackTraces = false) (ou : Nat) (of : Nat → Int64) : uI T y_La_points (Cond.codeWith y_La_points b_La_points 3 (some .int) [(0, 8, 11, 15)]) 1 1 6 [.ref (ad T 24), .ref ou] ([(ou, .inl (T.2.2.2.1 1, 1, .inr (.inl of)))] ++ WX T f r c L x g rr fc gc P) (fun y u => ∃ (of' : Nat → Int64) (u' : va_W), u = [(ou, .inl (T.2.2.2.1 1, 1, .inr (.inl of')))] ++ u' ∧ ((y = 0 ∧ (¬ S.2.2.2.1.1 = 0 ∧ of' 0 = (S.2.2.2.1.2.2.2.1).toInt64) ∧ CW S T L u') ∨ (y = 1 ∧ S.2.2.2.1.1 = 0 ∧ CW S T L u'))) := by
  refine e_La_points T hlt _  f r c (tsX L x) g rr fc gc P ou of ?_
  rintro C rfl X
  refine k_La_points_0 X _ (P_3 := fun y u => (¬ S.2.2.2.1.1 = 0 ∧ y = S.2.2.2.1.2.2.2.1) ∧ CW S C.1 L u) (X_3 := fun E u => (E = ISE ∧ S.2.2.2.1.1 = 0) ∧ CW S C.1 L u)  f r c (tsX L x) g rr fc gc P ou of 0 0 ⟨by decide, by decide⟩ (d_points _ S f r c L x g rr fc gc P h X.2.2 ) ?_ ?_
  · rintro y u ⟨⟨q1, rfl⟩, f2, r2, c2, x2, g2, rr2, fc2, gc2, P2, hp, hcf⟩
    refine zW_perm (hp.append_left _) ?_
    exact k_La_points_6 X _  _ 0 f2 r2 c2 (tsX L x2) g2 rr2 fc2 gc2 P2 ou of _ _ (by unfold vp_in; decide) ⟨by decide, by decide⟩ ⟨_, _, rfl, Or.inl ⟨rfl, ⟨q1, if_pos rfl⟩, CW.of hcf⟩⟩
  · rintro E u ⟨⟨rfl, q⟩, f2, r2, c2, x2, g2, rr2, fc2, gc2, P2, hp, hcf⟩
    exact ⟨rfl, fun q9 => zW_perm (hp.append_left _) (k_La_points_11 X _  q9 f2 r2 c2 (tsX L x2) g2 rr2 fc2 gc2 P2 ou of _ _ ⟨by decide, by decide⟩ ⟨_, _, rfl, Or.inr ⟨rfl, q, CW.of hcf⟩⟩)⟩
theorem h_asked (T : ST) (S : ES) (f : FT) (r : Nat → Nat → Option Nat) (c L : Nat) (x : Int32) (g : GT) (rr : Nat → Nat → Option Nat) (fc : FT) (gc : GT) (P : va_W) (h : CF S T.2.2.2.1 L f r c g rr fc gc P) (hlt : T.1.stackTraces = false) (v1 : Int32) (ou : Nat) (of : Nat → Int64) : uI T y_La_asked (Cond.codeWith y_La_asked b_La_asked 4 (some .int) [(0, 9, 12, 13)]) 1 1 6 [.ref (ad T 24), .int v1, .ref ou] ([(ou, .inl (T.2.2.2.1 1, 1, .inr (.inl of)))] ++ WX T f r c L x g rr fc gc P) (fun y u => ∃ (of' : Nat → Int64) (u' : va_W), u = [(ou, .inl (T.2.2.2.1 1, 1, .inr (.inl of')))] ++ u' ∧ ((y = 0 ∧ (∃ n, (0 ≤ v1 ∧ (nI S.2.2.2.1.2.1 ≤ v1 → n = 0) ∧ (¬ S.2.2.2.1.1 = 0 → ¬ nI S.2.2.2.1.2.1 ≤ v1 → n = S.2.2.2.1.2.2.2.2.1 v1.toNatClampNeg)) ∧ of' 0 = n.toInt64) ∧ CW S T L u') ∨ (y = 1 ∧ ¬ 0 ≤ v1 ∧ CW S T L u'))) := by
  refine e_La_asked T hlt _ v1 f r c (tsX L x) g rr fc gc P ou of ?_
  rintro C rfl X
  refine k_La_asked_0 X _ (P_4 := fun y u => (0 ≤ v1 ∧ (nI S.2.2.2.1.2.1 ≤ v1 → y = 0) ∧ (¬ S.2.2.2.1.1 = 0 → ¬ nI S.2.2.2.1.2.1 ≤ v1 → y = S.2.2.2.1.2.2.2.2.1 v1.toNatClampNeg)) ∧ CW S C.1 L u) (X_4 := fun E u => (E = IAE ∧ ¬ 0 ≤ v1) ∧ CW S C.1 L u) v1 f r c (tsX L x) g rr fc gc P ou of 0 0 ⟨by decide, by decide⟩ (d_asked _ S f r c L x g rr fc gc P h X.2.2 v1) ?_ ?_
  · rintro y u ⟨q1, f2, r2, c2, x2, g2, rr2, fc2, gc2, P2, hp, hcf⟩
    refine zW_perm (hp.append_left _) ?_
    exact k_La_asked_7 X _ v1 y 0 f2 r2 c2 (tsX L x2) g2 rr2 fc2 gc2 P2 ou of _ _ (by unfold vp_in; decide) ⟨by decide, by decide⟩ ⟨_, _, rfl, Or.inl ⟨rfl, ⟨y, q1, if_pos rfl⟩, CW.of hcf⟩⟩
  · rintro E u ⟨⟨rfl, q⟩, f2, r2, c2, x2, g2, rr2, fc2, gc2, P2, hp, hcf⟩
    exact ⟨rfl, fun q9 => zW_perm (hp.append_left _) (k_La_asked_12 X _ v1 q9 f2 r2 c2 (tsX L x2) g2 rr2 fc2 gc2 P2 ou of _ _ ⟨by decide, by decide⟩ ⟨_, _, rfl, Or.inr ⟨rfl, q, CW.of hcf⟩⟩)⟩
theorem h_loop (T : ST) (S : ES) (f : FT) (r : Nat → Nat → Option Nat) (c L : Nat) (x : Int32) (g : GT) (rr : Nat → Nat → Option Nat) (fc : FT) (gc : GT) (P : va_W) (h : CF S T.2.2.2.1 L f r c g rr fc gc P) (hlt : T.1.stackTraces = false) (v1 : Int32) (ou : Nat) (of : Nat → Int64) : uI T y_La_loop (Cond.codeWith y_La_loop b_La_loop 4 (some .int) [(0, 9, 12, 13)]) 3 1 6 [.ref (ad T 24), .int v1, .ref ou] ([(ou, .inl (T.2.2.2.1 1, 1, .inr (.inl of)))] ++ WX T f r c L x g rr fc gc P) (fun y u => ∃ (of' : Nat → Int64) (u' : va_W), u = [(ou, .inl (T.2.2.2.1 1, 1, .inr (.inl of')))] ++ u' ∧ ((y = 0 ∧ (∃ n, mbV (loE (S.1 S.2.2.1)) v1 n ∧ of' 0 = n.toInt64) ∧ CW S T L u') ∨ (y = 1 ∧ ¬ 0 ≤ v1 ∧ CW S T L u'))) := by
  refine e_La_loop T hlt _ v1 f r c (tsX L x) g rr fc gc P ou of ?_
  rintro C rfl X
  refine k_La_loop_0 X _ (P_4 := fun y u => mbV (loE (S.1 S.2.2.1)) v1 y ∧ CW S C.1 L u) (X_4 := fun E u => (E = IAE ∧ ¬ 0 ≤ v1) ∧ CW S C.1 L u) v1 f r c (tsX L x) g rr fc gc P ou of 0 0 ⟨by decide, by decide⟩ (d_loop _ S f r c L x g rr fc gc P h X.2.2 v1) ?_ ?_
  · rintro y u ⟨q1, f2, r2, c2, x2, g2, rr2, fc2, gc2, P2, hp, hcf⟩
    refine zW_perm (hp.append_left _) ?_
    exact k_La_loop_7 X _ v1 y 0 f2 r2 c2 (tsX L x2) g2 rr2 fc2 gc2 P2 ou of _ _ (by unfold vp_in; decide) ⟨by decide, by decide⟩ ⟨_, _, rfl, Or.inl ⟨rfl, ⟨y, q1, if_pos rfl⟩, CW.of hcf⟩⟩
  · rintro E u ⟨⟨rfl, q⟩, f2, r2, c2, x2, g2, rr2, fc2, gc2, P2, hp, hcf⟩
    exact ⟨rfl, fun q9 => zW_perm (hp.append_left _) (k_La_loop_12 X _ v1 q9 f2 r2 c2 (tsX L x2) g2 rr2 fc2 gc2 P2 ou of _ _ ⟨by decide, by decide⟩ ⟨_, _, rfl, Or.inr ⟨rfl, q, CW.of hcf⟩⟩)⟩
theorem h_never (T : ST) (S : ES) (f : FT) (r : Nat → Nat → Option Nat) (c L : Nat) (x : Int32) (g : GT) (rr : Nat → Nat → Option Nat) (fc : FT) (gc : GT) (P : va_W) (h : CF S T.2.2.2.1 L f r c g rr fc gc P) (hlt : T.1.stackTraces = false) (v1 : Int32) (ou : Nat) (of : Nat → Int64) : uI T y_La_never (Cond.codeWith y_La_never b_La_never 4 (some .int) [(0, 9, 12, 13)]) 3 1 6 [.ref (ad T 24), .int v1, .ref ou] ([(ou, .inl (T.2.2.2.1 1, 1, .inr (.inl of)))] ++ WX T f r c L x g rr fc gc P) (fun y u => ∃ (of' : Nat → Int64) (u' : va_W), u = [(ou, .inl (T.2.2.2.1 1, 1, .inr (.inl of')))] ++ u' ∧ ((y = 0 ∧ (∃ n, mbV (neE (S.1 S.2.2.1)) v1 n ∧ of' 0 = n.toInt64) ∧ CW S T L u') ∨ (y = 1 ∧ ¬ 0 ≤ v1 ∧ CW S T L u'))) := by
  refine e_La_never T hlt _ v1 f r c (tsX L x) g rr fc gc P ou of ?_
  rintro C rfl X
  refine k_La_never_0 X _ (P_4 := fun y u => mbV (neE (S.1 S.2.2.1)) v1 y ∧ CW S C.1 L u) (X_4 := fun E u => (E = IAE ∧ ¬ 0 ≤ v1) ∧ CW S C.1 L u) v1 f r c (tsX L x) g rr fc gc P ou of 0 0 ⟨by decide, by decide⟩ (d_never _ S f r c L x g rr fc gc P h X.2.2 v1) ?_ ?_
  · rintro y u ⟨q1, f2, r2, c2, x2, g2, rr2, fc2, gc2, P2, hp, hcf⟩
    refine zW_perm (hp.append_left _) ?_
    exact k_La_never_7 X _ v1 y 0 f2 r2 c2 (tsX L x2) g2 rr2 fc2 gc2 P2 ou of _ _ (by unfold vp_in; decide) ⟨by decide, by decide⟩ ⟨_, _, rfl, Or.inl ⟨rfl, ⟨y, q1, if_pos rfl⟩, CW.of hcf⟩⟩
  · rintro E u ⟨⟨rfl, q⟩, f2, r2, c2, x2, g2, rr2, fc2, gc2, P2, hp, hcf⟩
    exact ⟨rfl, fun q9 => zW_perm (hp.append_left _) (k_La_never_12 X _ v1 q9 f2 r2 c2 (tsX L x2) g2 rr2 fc2 gc2 P2 ou of _ _ ⟨by decide, by decide⟩ ⟨_, _, rfl, Or.inr ⟨rfl, q, CW.of hcf⟩⟩)⟩
theorem h_endless (T : ST) (S : ES) (f : FT) (r : Nat → Nat → Option Nat) (c L : Nat) (x : Int32) (g : GT) (rr : Nat → Nat → Option Nat) (fc : FT) (gc : GT) (P : va_W) (h : CF S T.2.2.2.1 L f r c g rr fc gc P) (hlt : T.1.stackTraces = false) (v1 : Int32) (ou : Nat) (of : Nat → Int64) : uI T y_La_endless (Cond.codeWith y_La_endless b_La_endless 4 (some .int) [(0, 9, 12, 13)]) 3 1 6 [.ref (ad T 24), .int v1, .ref ou] ([(ou, .inl (T.2.2.2.1 1, 1, .inr (.inl of)))] ++ WX T f r c L x g rr fc gc P) (fun y u => ∃ (of' : Nat → Int64) (u' : va_W), u = [(ou, .inl (T.2.2.2.1 1, 1, .inr (.inl of')))] ++ u' ∧ ((y = 0 ∧ (∃ n, mbV (enE (S.1 S.2.2.1)) v1 n ∧ of' 0 = n.toInt64) ∧ CW S T L u') ∨ (y = 1 ∧ ¬ 0 ≤ v1 ∧ CW S T L u'))) := by
  refine e_La_endless T hlt _ v1 f r c (tsX L x) g rr fc gc P ou of ?_
  rintro C rfl X
  refine k_La_endless_0 X _ (P_4 := fun y u => mbV (enE (S.1 S.2.2.1)) v1 y ∧ CW S C.1 L u) (X_4 := fun E u => (E = IAE ∧ ¬ 0 ≤ v1) ∧ CW S C.1 L u) v1 f r c (tsX L x) g rr fc gc P ou of 0 0 ⟨by decide, by decide⟩ (d_endless _ S f r c L x g rr fc gc P h X.2.2 v1) ?_ ?_
  · rintro y u ⟨q1, f2, r2, c2, x2, g2, rr2, fc2, gc2, P2, hp, hcf⟩
    refine zW_perm (hp.append_left _) ?_
    exact k_La_endless_7 X _ v1 y 0 f2 r2 c2 (tsX L x2) g2 rr2 fc2 gc2 P2 ou of _ _ (by unfold vp_in; decide) ⟨by decide, by decide⟩ ⟨_, _, rfl, Or.inl ⟨rfl, ⟨y, q1, if_pos rfl⟩, CW.of hcf⟩⟩
  · rintro E u ⟨⟨rfl, q⟩, f2, r2, c2, x2, g2, rr2, fc2, gc2, P2, hp, hcf⟩
    exact ⟨rfl, fun q9 => zW_perm (hp.append_left _) (k_La_endless_12 X _ v1 q9 f2 r2 c2 (tsX L x2) g2 rr2 fc2 gc2 P2 ou of _ _ ⟨by decide, by decide⟩ ⟨_, _, rfl, Or.inr ⟨rfl, q, CW.of hcf⟩⟩)⟩
theorem h_word (T : ST) (S : ES) (f : FT) (r : Nat → Nat → Option Nat) (c L : Nat) (x : Int32) (g : GT) (rr : Nat → Nat → Option Nat) (fc : FT) (gc : GT) (P : va_W) (h : CF S T.2.2.2.1 L f r c g rr fc gc P) (hlt : T.1.stackTraces = false) (v1 : Int32) (v2 : Int32) (v3 : Int32) (ou : Nat) (of : Nat → Int64) : uI T y_La_word (Cond.codeWith y_La_word b_La_word 6 (some .int) [(0, 12, 15, 13)]) 2 1 6 [.ref (ad T 24), .int v1, .int v2, .int v3, .ref ou] ([(ou, .inl (T.2.2.2.1 1, 1, .inr (.inl of)))] ++ WX T f r c L x g rr fc gc P) (fun _ u => ∃ (of' : Nat → Int64) (u' : va_W), u = [(ou, .inl (T.2.2.2.1 1, 1, .inr (.inl of')))] ++ u' ∧ CW S T L u') := by
  refine e_La_word T hlt _ v1 v2 v3 f r c (tsX L x) g rr fc gc P ou of ?_
  rintro C rfl X
  refine k_La_word_0 X _ (P_7 := fun _ u => CW S C.1 L u) (X_7 := fun E u => E = IAE ∧ CW S C.1 L u) v1 v2 v3 f r c (tsX L x) g rr fc gc P ou of 0 0 ⟨by decide, by decide⟩ (d_word _ S f r c L x g rr fc gc P h X.2.2 v1 v2 v3) ?_ ?_
  · rintro y u ⟨f2, r2, c2, x2, g2, rr2, fc2, gc2, P2, hp, hcf⟩
    refine zW_perm (hp.append_left _) ?_
    exact k_La_word_10 X _ v1 v2 v3 y 0 f2 r2 c2 (tsX L x2) g2 rr2 fc2 gc2 P2 ou of _ _ (by unfold vp_in; decide) ⟨by decide, by decide⟩ ⟨_, _, rfl, CW.of hcf⟩
  · rintro E u ⟨rfl, f2, r2, c2, x2, g2, rr2, fc2, gc2, P2, hp, hcf⟩
    exact ⟨rfl, fun q9 => zW_perm (hp.append_left _) (k_La_word_15 X _ v1 v2 v3 q9 f2 r2 c2 (tsX L x2) g2 rr2 fc2 gc2 P2 ou of _ _ ⟨by decide, by decide⟩ ⟨_, _, rfl, CW.of hcf⟩)⟩
