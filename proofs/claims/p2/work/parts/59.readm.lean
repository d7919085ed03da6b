-- read
theorem CF.mono {k : Nat → ClassId} {L : Nat} {f : FT} {r : Nat → Nat → Option Nat} {c : Nat} {rr rr' : Nat → Nat → Option Nat} {fc fc' : FT} {P P' : va_W} (h : CF k L f r c rr fc P) (hs : Sub P P') (hr : RI k rr' P') (hc : Bd 40 (fc' 0)) (f' : FT) (hf : f' 0 = f 0) (L' : Nat) (hL : L' ≤ 400) : CF k L' f' r c rr' fc' P' := by
  obtain ⟨-, ⟨m, h1, h2, h3⟩, h4, -, -⟩ := h
  refine ⟨hL, ⟨m, hf.trans h1, h2, fun j hj => ?_⟩, h4.mono hs, hr, hc⟩
  obtain ⟨e, g1, g2⟩ := h3 j hj
  exact ⟨e, g1, g2.mono hs⟩
theorem wp4 (A Q X R K P : va_W) : (A ++ (Q ++ (X ++ (R ++ (K ++ P))))).Perm (Q ++ (X ++ (R ++ (K ++ (A ++ P))))) := (zp3 A Q _).trans (((zp3 A X _).trans ((zp_ins R K A P).append_left X)).append_left Q)
set_option maxHeartbeats 1000000 in
theorem d_Qread (T : ST) (f : FT) (r : Nat → Nat → Option Nat) (c L : Nat) (x : Int32) (g : GT) (rr : Nat → Nat → Option Nat) (fc : FT) (gc : GT) (P : va_W) (h : CF T.2.2.2.1 L f r c rr fc P) (hlt : T.1.stackTraces = false) : xI T y_Q_read (Cond.code y_Q_read b_Q_read 2 (some .int)) 8 (304 * (L / 7 + 1) + 4) (1824 * (L / 7 + 1) + 138) [.ref (ad T 24)] (WX T f r c L x g rr fc gc P) (fun _ u => CW T 0 u) (fun E u => (E = IAE ∨ E = ISE) ∧ CW T 0 u) := by
  refine e_Q_read T hlt _ _ f r c (tsX L x) g rr fc gc P 0 0 0 0 0 0 0 0 0 0 0 0 (fun _ => none) (fun _ => none) (304 * (L / 7 + 1)) (1824 * (L / 7 + 1)) ?_
  rintro C rfl X
  generalize hMM : 304 * (L / 7 + 1) = MM
  generalize hSS : 1824 * (L / 7 + 1) = SS
  -- an edition is made
  have s103 : ∀ e f fc' gc x g rr P1, CF C.1.2.2.2.1 0 f r c rr fc' P1 → f 0 < 8 → isEdn C.1.2.2.2.1 P1 e → zc_Q_read C (fun _ u => CW C.1 0 u) (fun E u => (E = IAE ∨ E = ISE) ∧ CW C.1 0 u) MM SS (MM + 4) (SS + 138) 103 [(0, .ref (ad C.1 24)), (1, .ref e)] [] (WX C.1 f r c 0 x g rr fc' gc P1) := by
    intro e f fc' gc x g rr P1 hcf h8 hed
    obtain ⟨qa, ka, es, e1, e2, e3, fq, fk, g1, -⟩ := id hed
    obtain ⟨i, hi⟩ := List.getElem?_of_mem g1
    obtain ⟨hL, ⟨m, hm1, hm2, hm3⟩, hc, hri, hb⟩ := hcf
    have hm8 : m < 8 := by rw [hm1] at h8; exact (nI_ltI (a := m) (b := 8) (by omega) (by decide)).mp h8
    refine k_Q_read_103 X _ _ e f r c (tsX 0 x) g rr fc' gc P1 0 0 0 0 0 0 qa ka es e1 e2 e3 (fun _ => none) (fun _ => none) MM SS i _ _ hi ?_ ⟨by omega, by omega⟩ ?_
    · rw [hm1, nI_1]; exact vi_n (by omega) (by decide)
    · rw [hm1, nI_1, nI_clamp (by omega)]
      refine CW.of ⟨by decide, ⟨m + 1, rfl, by omega, fun j hj => ?_⟩, hed, hri, hb⟩
      rw [up_same]
      by_cases cj : j = m + 1
      · subst cj; exact ⟨e, up_same _ _ _, hed⟩
      · rw [up_other _ _ cj]; exact hm3 j (by omega)
  -- behind the reader
  have s15 : ∀ y x g rr P1 fc' gc', CF C.1.2.2.2.1 0 f r c rr fc' P1 → zc_Q_read C (fun _ u => CW C.1 0 u) (fun E u => (E = IAE ∨ E = ISE) ∧ CW C.1 0 u) MM SS MM SS 15 [(0, .ref (ad C.1 24))] [.int y, .ref (ad C.1 24)] (WX C.1 f r c 0 x g rr fc' gc' P1) := by
    intro y x g rr P1 fc' gc' hcf
    have hcf1 : CF C.1.2.2.2.1 0 (va_up f 1 y) r c rr fc' P1 := hcf
    refine k_Q_read_15 X _ _ (P_59 := fun w u => ∃ w7 w16, u = [(w16, .inl (C.1.2.2.2.1 4, 10, .inr (.inr (.inr (.inr (fun _ => none)))))), (w7, .inl (C.1.2.2.2.1 3, 61, .inr (.inr (.inr (.inr (fun _ => none)))))), (w, .inr (3, [.ref w7, .ref w16, .int 0, .long 0, .long 0, .long 0]))]) y f r c (tsX 0 x) g rr fc' gc' P1 0 0 0 0 0 0 0 0 0 0 0 0 (fun _ => none) (fun _ => none) MM SS MM SS (fun _ _ => ⟨by omega, by omega⟩) (fun _ _ _ => ⟨by omega, by omega⟩) (fun _ _ w => d_Edinit _ w _ (fun w7 w16 => ⟨w7, w16, rfl⟩)) ?_ (fun _ _ => ⟨by omega, by omega⟩) (fun _ _ => ⟨Or.inr rfl, CW.of hcf1⟩) (fun _ => ⟨by omega, by omega⟩) (fun _ => ⟨Or.inl rfl, CW.of hcf1⟩)
    rintro _ h8 w u ⟨w7, w16, rfl⟩
    obtain ⟨qa, ka, es, e1, e2, e3, fq, fk, g1, g2, g3, g4, g5⟩ := id hcf1.2.2.1
    obtain ⟨i1, hf⟩ := List.getElem?_of_mem g1
    refine zW_perm (ws' := [(w, .inr (3, [.ref w7, .ref w16, .int 0, .long 0, .long 0, .long 0])), (w7, .inl (C.1.2.2.2.1 3, 61, .inr (.inr (.inr (.inr (fun _ => none)))))), (w16, .inl (C.1.2.2.2.1 4, 10, .inr (.inr (.inr (.inr (fun _ => none))))))] ++ WX C.1 (va_up f 1 y) r c 0 x g rr fc' gc' P1) (List.Perm.append_right _ ((List.Perm.swap _ _ _).trans ((List.Perm.cons _ (List.Perm.swap _ _ _)).trans (List.Perm.swap _ _ _)))) ?_
    have nQ : allS (isQu C.1.2.2.2.1 P1) (fun _ => none) := fun _ _ e => nomatch e
    have nK : allS (isKi C.1.2.2.2.1 P1) (fun _ => none) := fun _ _ e => nomatch e
    refine k_Q_read_62 X _ _ (P_78 := fun u => ∃ fq' fk', allS (isQu C.1.2.2.2.1 P1) fq' ∧ allS (isKi C.1.2.2.2.1 P1) fk' ∧ u = [(w, .inr (3, [.ref w7, .ref w16, .int 0, .long 0, .long 0, .long 0])), (w7, .inl (C.1.2.2.2.1 3, 61, .inr (.inr (.inr (.inr fq'))))), (w16, .inl (C.1.2.2.2.1 4, 10, .inr (.inr (.inr (.inr fk')))))] ++ WX C.1 (va_up f 1 y) r c 0 x g rr fc' gc' P1) w (va_up f 1 y) r c (tsX 0 x) g rr fc' gc' P1 qa ka es e1 e2 e3 w7 w16 0 0 0 0 (fun _ => none) (fun _ => none) MM SS i1 _ _ hf ⟨by omega, by omega⟩ (d_putRows _ w w7 w16 0 0 0 0 _ _ fq fk qa ka _ (isQu C.1.2.2.2.1 P1) (isKi C.1.2.2.2.1 P1) (fun _ q => q.mono subW) (fun _ q => q.mono subW) (subW _ g2) (subW _ g3) g4 g5 nQ nK _ (fun fq' fk' a1 a2 => ⟨fq', fk', a1, a2, rfl⟩)) ?_
    rintro u ⟨fq1, fk1, a1, a2, rfl⟩
    have hri := hcf1.2.2.2.1
    refine k_Q_read_81 X _ _ (P_96 := fun u => ∃ fq' fk', allS (isQu C.1.2.2.2.1 P1) fq' ∧ allS (isKi C.1.2.2.2.1 P1) fk' ∧ u = [(w, .inr (3, [.ref w7, .ref w16, .int 0, .long 0, .long 0, .long 0])), (w7, .inl (C.1.2.2.2.1 3, 61, .inr (.inr (.inr (.inr fq'))))), (w16, .inl (C.1.2.2.2.1 4, 10, .inr (.inr (.inr (.inr fk')))))] ++ WX C.1 (va_up f 1 y) r c 0 x g rr fc' gc' P1) w (va_up f 1 y) r c (tsX 0 x) g rr fc' gc' P1 qa ka es e1 e2 e3 w7 w16 0 0 0 0 fq1 fk1 MM SS _ _ ⟨by omega, by omega⟩ (d_putRows _ w w7 w16 0 0 0 0 fq1 fk1 (rr 0) (rr 1) _ _ _ (isQu C.1.2.2.2.1 P1) (isKi C.1.2.2.2.1 P1) (fun _ q => q.mono subW) (fun _ q => q.mono subW) ?_ ?_ hri.1 hri.2 a1 a2 _ (fun fq' fk' b1 b2 => ⟨fq', fk', b1, b2, rfl⟩)) ?_
    · exact List.mem_append_right _ (List.mem_append_right _ (List.mem_append_left _ List.mem_cons_self))
    · exact List.mem_append_right _ (List.mem_append_right _ (List.mem_append_left _ (List.mem_cons_of_mem _ List.mem_cons_self)))
    rintro u ⟨fq2, fk2, b1, b2, rfl⟩
    -- the arrays go to the rest of the world
    have hp1 : ([(w, (.inr (3, [.ref w7, .ref w16, .int 0, .long 0, .long 0, .long 0]) : va_E)), (w7, .inl (C.1.2.2.2.1 3, 61, .inr (.inr (.inr (.inr fq2))))), (w16, .inl (C.1.2.2.2.1 4, 10, .inr (.inr (.inr (.inr fk2)))))] ++ WX C.1 (va_up f 1 y) r c 0 x g rr fc' gc' P1).Perm ([(w, (.inr (3, [.ref w7, .ref w16, .int 0, .long 0, .long 0, .long 0]) : va_E))] ++ WX C.1 (va_up f 1 y) r c 0 x g rr fc' gc' ([(w7, .inl (C.1.2.2.2.1 3, 61, .inr (.inr (.inr (.inr fq2))))), (w16, .inl (C.1.2.2.2.1 4, 10, .inr (.inr (.inr (.inr fk2)))))] ++ P1)) := List.Perm.cons _ (wp4 _ _ _ _ _ _)
    refine zW_perm hp1 ?_
    have hs2 : Sub P1 ([(w7, (.inl (C.1.2.2.2.1 3, 61, .inr (.inr (.inr (.inr fq2)))) : va_E)), (w16, .inl (C.1.2.2.2.1 4, 10, .inr (.inr (.inr (.inr fk2)))))] ++ P1) := Sub.app
    refine k_Q_read_99 X _ _ (P_100 := fun u => ∃ (w9 : Nat) (lf : Nat → Int64) (es : Int32) (e1 e2 e3 : Int64), u = [(w9, .inl (C.1.2.2.2.1 1, 61, .inr (.inl lf))), (w, .inr (3, [.ref w7, .ref w16, .int es, .long e1, .long e2, .long e3]))] ++ WX C.1 (va_up f 1 y) r c 0 x g rr fc' gc' ([(w7, .inl (C.1.2.2.2.1 3, 61, .inr (.inr (.inr (.inr fq2))))), (w16, .inl (C.1.2.2.2.1 4, 10, .inr (.inr (.inr (.inr fk2)))))] ++ P1)) w (va_up f 1 y) r c (tsX 0 x) g rr fc' gc' _ qa ka es e1 e2 e3 w7 w16 0 0 0 0 fq2 fk2 MM SS _ _ ⟨by omega, by omega⟩ (d_study _ w w7 w16 0 0 0 0 fq2 fk2 _ (subW _ List.mem_cons_self) (subW _ (List.mem_cons_of_mem _ List.mem_cons_self)) (fun j a e => (b1 j a e).mono (hs2.tr subW)) (fun j a e => (b2 j a e).mono (hs2.tr subW)) _ (fun w9 lf es e1 e2 e3 => ⟨w9, lf, es, e1, e2, e3, rfl⟩)) ?_
    rintro u ⟨w9, lf, es', e1', e2', e3', rfl⟩
    refine zW_perm (wp4 _ _ _ _ _ _) ?_
    have hs3 : Sub P1 ([(w9, (.inl (C.1.2.2.2.1 1, 61, .inr (.inl lf)) : va_E)), (w, .inr (3, [.ref w7, .ref w16, .int es', .long e1', .long e2', .long e3']))] ++ ([(w7, .inl (C.1.2.2.2.1 3, 61, .inr (.inr (.inr (.inr fq2))))), (w16, .inl (C.1.2.2.2.1 4, 10, .inr (.inr (.inr (.inr fk2)))))] ++ P1)) := hs2.tr Sub.app
    refine zW_wide (by omega) (by omega) (s103 w (va_up f 1 y) fc' gc' x g rr _ (hcf1.mono hs3 (hri.mono hs3) hcf1.2.2.2.2 _ rfl 0 (by decide)) h8 ?_)
    exact ⟨w7, w16, es', e1', e2', e3', fq2, fk2, List.mem_cons_of_mem _ List.mem_cons_self, List.mem_cons_of_mem _ (List.mem_cons_of_mem _ List.mem_cons_self), List.mem_cons_of_mem _ (List.mem_cons_of_mem _ (List.mem_cons_of_mem _ List.mem_cons_self)), fun j a e => (b1 j a e).mono hs3, fun j a e => (b2 j a e).mono hs3⟩
  refine k_Q_read_0 X _ _ (P_4 := fun u => ∃ (f' : FT) (g' : GT), f' 0 = 0 ∧ u = CX C.1 f' g') f r c (tsX L x) g rr fc gc P 0 0 0 0 0 0 0 0 0 0 0 0 (fun _ => none) (fun _ => none) MM SS 0 0 ⟨by omega, by omega⟩ (d_clear _ fc gc _ (fun f' g' h0 _ _ _ _ _ => ⟨f', g', h0, rfl⟩)) ?_
  rintro u ⟨f', g', h0, rfl⟩
  refine zW_perm (wp1 _ _ _ _ _) ?_
  refine k_Q_read_7 X _ _ (P_12 := fun y u => ∃ x' r' P', Sub P P' ∧ RI C.1.2.2.2.1 r' P' ∧ u = TX C.1 0 x' g ++ (RX C.1 r' ++ P')) f r c (tsX L x) g rr f' g' P 0 0 0 0 0 0 0 0 0 0 0 0 (fun _ => none) (fun _ => none) MM SS 0 0 ⟨by omega, by omega⟩ ?_ ?_
  · rw [← hMM, ← hSS]
    exact d_readTape _ X.2.2 L x g rr P h.1 h.2.2.2.1 _ (fun v x' r' P' h1 h2 => ⟨x', r', P', h1, h2, rfl⟩)
  rintro y u ⟨x', r', P', h1, h2, rfl⟩
  refine zW_perm (wp2 _ _ _ _ _) ?_
  exact zW_wide (by omega) (by omega) (s15 y x' g r' P' f' g' (h.mono h1 h2 ⟨0, h0.trans nI_0.symm, by decide⟩ f rfl 0 (by decide)))
