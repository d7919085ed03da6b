-- read
theorem CS.mono {S : ES} {k : Nat → ClassId} {f : FT} {r : Nat → Nat → Option Nat} {c : Nat} {g g' : GT} {fc fc' : FT} {gc gc' : GT} {P P' : va_W} (h : CS S k f r c g fc gc P) (hs : Sub P P') (f' : FT) (hf : f' 0 = f 0) (hg : g' 0 = g 0) (v : KC) (hv : KS fc' gc' v) : CS (S.1, S.2.1, S.2.2.1, v, S.2.2.2.2) k f' r c g' fc' gc' P' := by
  refine ⟨hf.trans h.1, fun j hj => ?_, h.2.2.1, h.2.2.2.1, hv, hg.trans h.2.2.2.2.2⟩
  obtain ⟨e, g1, g2⟩ := h.2.1 j hj
  exact ⟨e, g1, g2.mono hs⟩
theorem CF.mono {S : ES} {k : Nat → ClassId} {L : Nat} {f : FT} {r : Nat → Nat → Option Nat} {c : Nat} {g g' : GT} {rr rr' : Nat → Nat → Option Nat} {fc fc' : FT} {gc gc' : GT} {P P' : va_W} (h : CF S k L f r c g rr fc gc P) (hs : Sub P P') (hr : RI k rr' P') (hc : Bd 40 (fc' 0)) (f' : FT) (hf : f' 0 = f 0) (L' : Nat) (hL : L' ≤ 400) (hg : g' 0 = g 0) (v : KC) (hv : KS fc' gc' v) : CF (S.1, S.2.1, S.2.2.1, v, S.2.2.2.2) k L' f' r c g' rr' fc' gc' P' := by
  obtain ⟨-, ⟨m, h1, h2, h3⟩, h4, -, -, h5⟩ := h
  refine ⟨hL, ⟨m, hf.trans h1, h2, fun j hj => ?_⟩, h4.mono hs, hr, hc, h5.mono hs f' hf hg v hv⟩
  obtain ⟨e, g1, g2⟩ := h3 j hj
  exact ⟨e, g1, g2.mono hs⟩
def mgR (A R : RD) : RD := (fun j => match R.1 j with | some d => some d | none => A.1 j, fun j => match R.2 j with | some d => some d | none => A.2 j)
theorem EE_mg {k : Nat → ClassId} {P : va_W} {fq fk : Nat → Option Nat} {r : Nat → Nat → Option Nat} {A R : RD} (h1 : EE k P fq fk A) (h2 : RE k r P R) : EE k P (mgF 61 1 (r 0) (mgF 61 1 fq (fun _ => none))) (mgF 10 1 (r 1) (mgF 10 1 fk (fun _ => none))) (mgR A R) := by
  refine ⟨fun j h3 h4 => ?_, fun j h3 h4 => ?_⟩
  · have e0 : mgF 61 1 fq (fun _ => none) j = fq j := by
      unfold mgF
      split
      · rfl
      · rename_i z
        cases e : fq j with
        | none => rfl
        | some a => exact absurd ⟨h3, h4, by rw [e]; exact fun q => nomatch q⟩ z
    rcases h2.1 j h4 with ⟨q1, q2⟩ | ⟨a, d, q1, q2, q3⟩
    · have e1 : mgF 61 1 (r 0) (mgF 61 1 fq (fun _ => none)) j = fq j := (if_neg (fun z => z.2.2 q1)).trans e0
      have e2 : (mgR A R).1 j = A.1 j := by unfold mgR; simp only [q2]
      rw [e1, e2]
      exact h1.1 j h3 h4
    · have e1 : mgF 61 1 (r 0) (mgF 61 1 fq (fun _ => none)) j = some a := (if_pos ⟨h3, h4, by rw [q1]; exact fun q => nomatch q⟩).trans q1
      have e2 : (mgR A R).1 j = some d := by unfold mgR; simp only [q2]
      exact Or.inr ⟨a, d, e1, e2, q3⟩
  · have e0 : mgF 10 1 fk (fun _ => none) j = fk j := by
      unfold mgF
      split
      · rfl
      · rename_i z
        cases e : fk j with
        | none => rfl
        | some a => exact absurd ⟨h3, h4, by rw [e]; exact fun q => nomatch q⟩ z
    rcases h2.2 j h4 with ⟨q1, q2⟩ | ⟨a, d, q1, q2, q3⟩
    · have e1 : mgF 10 1 (r 1) (mgF 10 1 fk (fun _ => none)) j = fk j := (if_neg (fun z => z.2.2 q1)).trans e0
      have e2 : (mgR A R).2 j = A.2 j := by unfold mgR; simp only [q2]
      rw [e1, e2]
      exact h1.2 j h3 h4
    · have e1 : mgF 10 1 (r 1) (mgF 10 1 fk (fun _ => none)) j = some a := (if_pos ⟨h3, h4, by rw [q1]; exact fun q => nomatch q⟩).trans q1
      have e2 : (mgR A R).2 j = some d := by unfold mgR; simp only [q2]
      exact Or.inr ⟨a, d, e1, e2, q3⟩
-- the class's state behind a read that makes an edition
def rdS (S : ES) (R : RD) : ES := (va_up S.1 (S.2.1 + 1) (mgR (S.1 S.2.2.1) R), S.2.1 + 1, S.2.1 + 1, k00, S.2.2.2.2)
def clS (S : ES) : ES := (S.1, S.2.1, S.2.2.1, k00, S.2.2.2.2)
theorem wp4 (A Q X R K P : va_W) : (A ++ (Q ++ (X ++ (R ++ (K ++ P))))).Perm (Q ++ (X ++ (R ++ (K ++ (A ++ P))))) := (zp3 A Q _).trans (((zp3 A X _).trans ((zp_ins R K A P).append_left X)).append_left Q)
set_option maxHeartbeats 1000000 in
theorem d_Qread (T : ST) (S : ES) (hS8 : S.2.1 ≤ 8) (f : FT) (r : Nat → Nat → Option Nat) (c L : Nat) (x : Int32) (g : GT) (rr : Nat → Nat → Option Nat) (fc : FT) (gc : GT) (P : va_W) (h : CF S T.2.2.2.1 L f r c g rr fc gc P) (hlt : T.1.stackTraces = false) : xI T y_Q_read (Cond.code y_Q_read b_Q_read 2 (some .int)) 8 (304 * (L / 7 + 1) + 4) (1824 * (L / 7 + 1) + 138) [.ref (ad T 24)] (WX T f r c L x g rr fc gc P) (fun y u => ∃ R, kTape false S.2.2.2.2 L = some R ∧ S.2.1 < 8 ∧ y = szL (mgR (S.1 S.2.2.1) R).1 60 1 0 ∧ CW (rdS S R) T 0 u) (fun E u => ((E = IAE ∧ kTape false S.2.2.2.2 L = none) ∨ (E = ISE ∧ (∃ R, kTape false S.2.2.2.2 L = some R) ∧ S.2.1 = 8)) ∧ CW (clS S) T 0 u) := by
  refine e_Q_read T hlt _ _ f r c (tsX L x) g rr fc gc P 0 0 0 0 0 0 0 0 0 0 0 0 (fun _ => none) (fun _ => none) (304 * (L / 7 + 1)) (1824 * (L / 7 + 1)) ?_
  rintro C rfl X
  generalize hMM : 304 * (L / 7 + 1) = MM
  generalize hSS : 1824 * (L / 7 + 1) = SS
  -- an edition is made
  have s103 : ∀ e f fc' gc x g rr P1 R, kTape false S.2.2.2.2 L = some R → CF (clS S) C.1.2.2.2.1 0 f r c g rr fc' gc P1 → f 0 < 8 → eEdn C.1.2.2.2.1 P1 e (mgR (S.1 S.2.2.1) R) → zc_Q_read C (fun y u => ∃ R, kTape false S.2.2.2.2 L = some R ∧ S.2.1 < 8 ∧ y = szL (mgR (S.1 S.2.2.1) R).1 60 1 0 ∧ CW (rdS S R) C.1 0 u) (fun E u => ((E = IAE ∧ kTape false S.2.2.2.2 L = none) ∨ (E = ISE ∧ (∃ R, kTape false S.2.2.2.2 L = some R) ∧ S.2.1 = 8)) ∧ CW (clS S) C.1 0 u) MM SS (MM + 4) (SS + 138) 103 [(0, .ref (ad C.1 24)), (1, .ref e)] [] (WX C.1 f r c 0 x g rr fc' gc P1) := by
    intro e f fc' gc x g rr P1 R hR hcf h8 hed
    obtain ⟨qa, ka, es, e1, e2, e3, fq, fk, g1, -, -, -, -, -, hes, -⟩ := id hed
    obtain ⟨i, hi⟩ := List.getElem?_of_mem g1
    obtain ⟨hL, ⟨m, hm1, hm2, hm3⟩, hc, hri, hb, hcs⟩ := hcf
    have hm8 : m < 8 := by rw [hm1] at h8; exact (nI_ltI (a := m) (b := 8) (by omega) (by decide)).mp h8
    have hmS : m = S.2.1 := by
      have q : f 0 = nI S.2.1 := hcs.1
      rw [hm1, nI_eq (by omega) (by omega)] at q
      exact q
    refine k_Q_read_103 X _ _ e f r c (tsX 0 x) g rr fc' gc P1 0 0 0 0 0 0 qa ka es e1 e2 e3 (fun _ => none) (fun _ => none) MM SS i _ _ hi ?_ ⟨by omega, by omega⟩ ?_
    · rw [hm1, nI_1]; exact vi_n (by omega) (by decide)
    · rw [hm1, nI_1, nI_clamp (by omega)]
      refine ⟨R, hR, by omega, hes, CW.of ⟨by decide, ⟨m + 1, rfl, by omega, fun j hj => ?_⟩, hed.is, hri, hb, ?_, fun j hj => ?_, Nat.le_refl _, ?_, hcs.2.2.2.2.1, hcs.2.2.2.2.2⟩⟩
      · rw [up_same]
        by_cases cj : j = m + 1
        · subst cj; exact ⟨e, up_same _ _ _, hed.is⟩
        · rw [up_other _ _ cj]; exact hm3 j (by omega)
      · show nI (m + 1) = nI (S.2.1 + 1); rw [hmS]
      · have hj : j ≤ S.2.1 + 1 := hj
        rw [up_same]
        by_cases cj : j = m + 1
        · subst cj
          exact ⟨e, up_same _ _ _, by show eEdn _ _ _ (va_up S.1 (S.2.1 + 1) _ (m + 1)); rw [hmS, up_same]; exact hed⟩
        · rw [up_other _ _ cj]
          obtain ⟨e9, q1, q2⟩ := hcs.2.1 j (show j ≤ S.2.1 by omega)
          exact ⟨e9, q1, by show eEdn _ _ _ (va_up S.1 (S.2.1 + 1) _ j); rw [up_other _ _ (by omega)]; exact q2⟩
      · show va_up r 0 (va_up (r 0) (m + 1) (some e)) 0 (S.2.1 + 1) = some e
        rw [up_same, ← hmS, up_same]
  -- behind the reader
  have s15 : ∀ y x g rr P1 fc' gc', rdT C.1.2.2.2.1 S.2.2.2.2 L y rr P1 → CF (clS S) C.1.2.2.2.1 0 f r c g rr fc' gc' P1 → zc_Q_read C (fun y u => ∃ R, kTape false S.2.2.2.2 L = some R ∧ S.2.1 < 8 ∧ y = szL (mgR (S.1 S.2.2.1) R).1 60 1 0 ∧ CW (rdS S R) C.1 0 u) (fun E u => ((E = IAE ∧ kTape false S.2.2.2.2 L = none) ∨ (E = ISE ∧ (∃ R, kTape false S.2.2.2.2 L = some R) ∧ S.2.1 = 8)) ∧ CW (clS S) C.1 0 u) MM SS MM SS 15 [(0, .ref (ad C.1 24))] [.int y, .ref (ad C.1 24)] (WX C.1 f r c 0 x g rr fc' gc' P1) := by
    intro y x g rr P1 fc' gc' hrd hcf
    have hcf1 : CF (clS S) C.1.2.2.2.1 0 (va_up f 1 y) r c g rr fc' gc' P1 := hcf
    have hf0 : f 0 = nI S.2.1 := hcf.2.2.2.2.2.1
    refine k_Q_read_15 X _ _ (P_59 := fun w u => ∃ w7 w16, u = [(w16, .inl (C.1.2.2.2.1 4, 10, .inr (.inr (.inr (.inr (fun _ => none)))))), (w7, .inl (C.1.2.2.2.1 3, 61, .inr (.inr (.inr (.inr (fun _ => none)))))), (w, .inr (3, [.ref w7, .ref w16, .int 0, .long 0, .long 0, .long 0]))]) y f r c (tsX 0 x) g rr fc' gc' P1 0 0 0 0 0 0 0 0 0 0 0 0 (fun _ => none) (fun _ => none) MM SS MM SS (fun _ _ => ⟨by omega, by omega⟩) (fun _ _ _ => ⟨by omega, by omega⟩) (fun _ _ w => d_Edinit _ w _ (fun w7 w16 => ⟨w7, w16, rfl⟩)) ?_ (fun _ _ => ⟨by omega, by omega⟩) (fun z1 z2 => ?_) (fun _ => ⟨by omega, by omega⟩) (fun z1 => ?_)
    rotate_left
    · rcases hrd with ⟨-, R, q1, -⟩ | ⟨q1, -⟩
      · refine ⟨Or.inr ⟨rfl, ⟨R, q1⟩, ?_⟩, CW.of hcf1⟩
        have z2 : ¬ f 0 < 8 := z2
        rw [hf0] at z2
        have z3 : ¬ S.2.1 < 8 := fun q => z2 ((nI_ltI (a := S.2.1) (b := 8) (by omega) (by decide)).mpr q)
        omega
      · exact absurd z1 q1
    · rcases hrd with ⟨q1, -⟩ | ⟨-, q1⟩
      · exact absurd q1 z1
      · exact ⟨Or.inl ⟨rfl, q1⟩, CW.of hcf1⟩
    rintro zy h8 w u ⟨w7, w16, rfl⟩
    obtain ⟨R, hR, hre⟩ : ∃ R, kTape false S.2.2.2.2 L = some R ∧ RE C.1.2.2.2.1 rr P1 R := by
      rcases hrd with ⟨-, q⟩ | ⟨q, -⟩
      · exact q
      · exact absurd zy q
    obtain ⟨qa, ka, es, e1, e2, e3, fq, fk, g1, g2, g3, g4, g5, g6⟩ := id hcf1.2.2.2.2.2.ch
    obtain ⟨i1, hf⟩ := List.getElem?_of_mem g1
    refine zW_perm (ws' := [(w, .inr (3, [.ref w7, .ref w16, .int 0, .long 0, .long 0, .long 0])), (w7, .inl (C.1.2.2.2.1 3, 61, .inr (.inr (.inr (.inr (fun _ => none)))))), (w16, .inl (C.1.2.2.2.1 4, 10, .inr (.inr (.inr (.inr (fun _ => none))))))] ++ WX C.1 (va_up f 1 y) r c 0 x g rr fc' gc' P1) (List.Perm.append_right _ ((List.Perm.swap _ _ _).trans ((List.Perm.cons _ (List.Perm.swap _ _ _)).trans (List.Perm.swap _ _ _)))) ?_
    have nQ : allS (isQu C.1.2.2.2.1 P1) (fun _ => none) := fun _ _ e => nomatch e
    have nK : allS (isKi C.1.2.2.2.1 P1) (fun _ => none) := fun _ _ e => nomatch e
    refine k_Q_read_62 X _ _ (P_78 := fun u => u = [(w, .inr (3, [.ref w7, .ref w16, .int 0, .long 0, .long 0, .long 0])), (w7, .inl (C.1.2.2.2.1 3, 61, .inr (.inr (.inr (.inr (mgF 61 1 fq (fun _ => none))))))), (w16, .inl (C.1.2.2.2.1 4, 10, .inr (.inr (.inr (.inr (mgF 10 1 fk (fun _ => none)))))))] ++ WX C.1 (va_up f 1 y) r c 0 x g rr fc' gc' P1) w (va_up f 1 y) r c (tsX 0 x) g rr fc' gc' P1 qa ka es e1 e2 e3 w7 w16 0 0 0 0 (fun _ => none) (fun _ => none) MM SS i1 _ _ hf ⟨by omega, by omega⟩ (d_putRows _ w w7 w16 0 0 0 0 _ _ fq fk qa ka _ (isQu C.1.2.2.2.1 P1) (isKi C.1.2.2.2.1 P1) (fun _ q => q.mono subW) (fun _ q => q.mono subW) (subW _ g2) (subW _ g3) g4 g5 _ rfl) ?_
    rintro u rfl
    have a1 : allS (isQu C.1.2.2.2.1 P1) (mgF 61 1 fq (fun _ => none)) := allS_mg g4 nQ
    have a2 : allS (isKi C.1.2.2.2.1 P1) (mgF 10 1 fk (fun _ => none)) := allS_mg g5 nK
    generalize hfq1 : mgF 61 1 fq (fun _ => none) = fq1 at a1 ⊢
    generalize hfk1 : mgF 10 1 fk (fun _ => none) = fk1 at a2 ⊢
    have hri := hcf1.2.2.2.1
    refine k_Q_read_81 X _ _ (P_96 := fun u => u = [(w, .inr (3, [.ref w7, .ref w16, .int 0, .long 0, .long 0, .long 0])), (w7, .inl (C.1.2.2.2.1 3, 61, .inr (.inr (.inr (.inr (mgF 61 1 (rr 0) fq1)))))), (w16, .inl (C.1.2.2.2.1 4, 10, .inr (.inr (.inr (.inr (mgF 10 1 (rr 1) fk1))))))] ++ WX C.1 (va_up f 1 y) r c 0 x g rr fc' gc' P1) w (va_up f 1 y) r c (tsX 0 x) g rr fc' gc' P1 qa ka es e1 e2 e3 w7 w16 0 0 0 0 fq1 fk1 MM SS _ _ ⟨by omega, by omega⟩ (d_putRows _ w w7 w16 0 0 0 0 fq1 fk1 (rr 0) (rr 1) _ _ _ (isQu C.1.2.2.2.1 P1) (isKi C.1.2.2.2.1 P1) (fun _ q => q.mono subW) (fun _ q => q.mono subW) ?_ ?_ hri.1 hri.2 _ rfl) ?_
    · exact List.mem_append_right _ (List.mem_append_right _ (List.mem_append_left _ List.mem_cons_self))
    · exact List.mem_append_right _ (List.mem_append_right _ (List.mem_append_left _ (List.mem_cons_of_mem _ List.mem_cons_self)))
    rintro u rfl
    have b1 : allS (isQu C.1.2.2.2.1 P1) (mgF 61 1 (rr 0) fq1) := allS_mg hri.1 a1
    have b2 : allS (isKi C.1.2.2.2.1 P1) (mgF 10 1 (rr 1) fk1) := allS_mg hri.2 a2
    have hee : EE C.1.2.2.2.1 P1 (mgF 61 1 (rr 0) fq1) (mgF 10 1 (rr 1) fk1) (mgR (S.1 S.2.2.1) R) := by
      rw [← hfq1, ← hfk1]; exact EE_mg g6.1 hre
    generalize hfq2 : mgF 61 1 (rr 0) fq1 = fq2 at b1 hee ⊢
    generalize hfk2 : mgF 10 1 (rr 1) fk1 = fk2 at b2 hee ⊢
    -- the arrays go to the rest of the world
    have hp1 : ([(w, (.inr (3, [.ref w7, .ref w16, .int 0, .long 0, .long 0, .long 0]) : va_E)), (w7, .inl (C.1.2.2.2.1 3, 61, .inr (.inr (.inr (.inr fq2))))), (w16, .inl (C.1.2.2.2.1 4, 10, .inr (.inr (.inr (.inr fk2)))))] ++ WX C.1 (va_up f 1 y) r c 0 x g rr fc' gc' P1).Perm ([(w, (.inr (3, [.ref w7, .ref w16, .int 0, .long 0, .long 0, .long 0]) : va_E))] ++ WX C.1 (va_up f 1 y) r c 0 x g rr fc' gc' ([(w7, .inl (C.1.2.2.2.1 3, 61, .inr (.inr (.inr (.inr fq2))))), (w16, .inl (C.1.2.2.2.1 4, 10, .inr (.inr (.inr (.inr fk2)))))] ++ P1)) := List.Perm.cons _ (wp4 _ _ _ _ _ _)
    refine zW_perm hp1 ?_
    have hs2 : Sub P1 ([(w7, (.inl (C.1.2.2.2.1 3, 61, .inr (.inr (.inr (.inr fq2)))) : va_E)), (w16, .inl (C.1.2.2.2.1 4, 10, .inr (.inr (.inr (.inr fk2)))))] ++ P1) := Sub.app
    refine k_Q_read_99 X _ _ (P_100 := fun u => ∃ (w9 : Nat) (lf : Nat → Int64) (e1 e2 e3 : Int64), BE (mgR (S.1 S.2.2.1) R) e1 e2 e3 ∧ u = [(w9, .inl (C.1.2.2.2.1 1, 61, .inr (.inl lf))), (w, .inr (3, [.ref w7, .ref w16, .int (szL fq2 60 1 0), .long e1, .long e2, .long e3]))] ++ WX C.1 (va_up f 1 y) r c 0 x g rr fc' gc' ([(w7, .inl (C.1.2.2.2.1 3, 61, .inr (.inr (.inr (.inr fq2))))), (w16, .inl (C.1.2.2.2.1 4, 10, .inr (.inr (.inr (.inr fk2)))))] ++ P1)) w (va_up f 1 y) r c (tsX 0 x) g rr fc' gc' _ qa ka es e1 e2 e3 w7 w16 0 0 0 0 fq2 fk2 MM SS _ _ ⟨by omega, by omega⟩ (d_studyX _ w w7 w16 fq2 fk2 _ (mgR (S.1 S.2.2.1) R) (subW _ List.mem_cons_self) (subW _ (List.mem_cons_of_mem _ List.mem_cons_self)) (hee.mono (hs2.tr subW)) _ (fun w9 lf e1 e2 e3 hbe => ⟨w9, lf, e1, e2, e3, hbe, rfl⟩)) ?_
    rintro u ⟨w9, lf, e1', e2', e3', hbe, rfl⟩
    refine zW_perm (wp4 _ _ _ _ _ _) ?_
    have hs3 : Sub P1 ([(w9, (.inl (C.1.2.2.2.1 1, 61, .inr (.inl lf)) : va_E)), (w, .inr (3, [.ref w7, .ref w16, .int (szL fq2 60 1 0), .long e1', .long e2', .long e3']))] ++ ([(w7, .inl (C.1.2.2.2.1 3, 61, .inr (.inr (.inr (.inr fq2))))), (w16, .inl (C.1.2.2.2.1 4, 10, .inr (.inr (.inr (.inr fk2)))))] ++ P1)) := hs2.tr Sub.app
    refine zW_wide (by omega) (by omega) (s103 w (va_up f 1 y) fc' gc' x g rr _ R hR (hcf1.mono hs3 (hri.mono hs3) hcf1.2.2.2.2.1 _ rfl 0 (by decide) rfl k00 hcf1.2.2.2.2.2.2.2.2.2.1) h8 ?_)
    exact ⟨w7, w16, _, e1', e2', e3', fq2, fk2, List.mem_cons_of_mem _ List.mem_cons_self, List.mem_cons_of_mem _ (List.mem_cons_of_mem _ List.mem_cons_self), List.mem_cons_of_mem _ (List.mem_cons_of_mem _ (List.mem_cons_of_mem _ List.mem_cons_self)), fun j a e => (b1 j a e).mono hs3, fun j a e => (b2 j a e).mono hs3, hee.mono hs3, szL_eq 60 1 0 (fun j j1 j2 => by rcases hee.1 j j1 (by omega) with q | ⟨a9, d9, q1, q2, -⟩; (rw [q.1, q.2]; rfl); (rw [q1, q2]; rfl)), hbe⟩
  refine k_Q_read_0 X _ _ (P_4 := fun u => ∃ (f' : FT) (g' : GT), f' 0 = 0 ∧ f' 1 = 0 ∧ f' 3 = 0 ∧ u = CX C.1 f' g') f r c (tsX L x) g rr fc gc P 0 0 0 0 0 0 0 0 0 0 0 0 (fun _ => none) (fun _ => none) MM SS 0 0 ⟨by omega, by omega⟩ (d_clear _ fc gc _ (fun f' g' h0 h1 _ h3 _ _ => ⟨f', g', h0, h1, h3, rfl⟩)) ?_
  rintro u ⟨f', g', h0, h01, h03, rfl⟩
  refine zW_perm (wp1 _ _ _ _ _) ?_
  refine k_Q_read_7 X _ _ (P_12 := fun y u => ∃ x' r' P', Sub P P' ∧ RI C.1.2.2.2.1 r' P' ∧ rdT C.1.2.2.2.1 (g 0) L y r' P' ∧ u = TX C.1 0 x' g ++ (RX C.1 r' ++ P')) f r c (tsX L x) g rr f' g' P 0 0 0 0 0 0 0 0 0 0 0 0 (fun _ => none) (fun _ => none) MM SS 0 0 ⟨by omega, by omega⟩ ?_ ?_
  · rw [← hMM, ← hSS]
    exact d_readTape _ X.2.2 L x g rr P h.1 h.2.2.2.1 _ (fun v x' r' P' h1 h2 h3 => ⟨x', r', P', h1, h2, h3, rfl⟩)
  rintro y u ⟨x', r', P', h1, h2, h3, rfl⟩
  refine zW_perm (wp2 _ _ _ _ _) ?_
  exact zW_wide (by omega) (by omega) (s15 y x' g r' P' f' g' (by rw [← h.2.2.2.2.2.2.2.2.2.2]; exact h3) (h.mono h1 h2 ⟨0, h0.trans nI_0.symm, by decide⟩ f rfl 0 (by decide) rfl k00 (KS_00 h03 h0 h01)))
