-- an answer's jump, both sides
theorem inV_m1 {e : JD} (h : okJ e) : inV (-1) e.1 e.2.1 = 0 := by
  obtain ⟨⟨m, hm, hb⟩, -⟩ := h
  unfold inV
  rw [hm, if_pos (Int32.lt_of_lt_of_le (show (-1 : Int32) < 0 by decide +kernel) (nI_pos' (by omega)))]
theorem abad_al {g : GT} {K : Nat} {d : QD} (h : QR g K d) (x : Int32) : abad g K x ↔ alV d x = 0 := by
  unfold abad alV
  rw [h.2.1, h.2.2.1, h.2.2.2.1]
  by_cases c : x = -1
  · rw [if_pos c, if_pos c]
    by_cases c1 : d.1 = 0
    · rw [if_pos c1]
      exact ⟨fun n => absurd c1 n, fun n => absurd n (by decide +kernel)⟩
    · rw [if_neg c1]
      exact ⟨fun _ => rfl, fun _ => c1⟩
  · rw [if_neg c, if_neg c]
theorem ajL_jmp {g : GT} {K : Nat} {js : List JD} {l : JD} (h : JR g K js (l.2.2.1, l.2.2.2)) (x : Int32) (hok : ∀ e ∈ js, okJ e) : ∀ j i, j + i = 6 → i ≤ js.length → g 8 ((K * 6 + ajL g K x j i) * 4 + 2) = (jmpL x (js.drop i) l).2.2.1 ∧ g 8 ((K * 6 + ajL g K x j i) * 4 + 3) = (jmpL x (js.drop i) l).2.2.2 := by
  obtain ⟨h1, h2, h3, h4, h5⟩ := h
  intro j
  induction j with
  | zero => intro i hj hi; omega
  | succ j ih =>
    intro i hj hi
    unfold ajL
    have e7 : g 7 K - 1 ≤ nI i ↔ js.length ≤ i := by
      rw [h1, nI_pred]
      exact nI_leI (by omega) (by omega)
    by_cases c : js.length ≤ i
    · rw [if_pos (e7.mpr c)]
      have ei : i = js.length := by omega
      rw [ei, List.drop_eq_nil_of_le (Nat.le_refl _)]
      exact ⟨h4, h5⟩
    · rw [if_neg (fun q => c (e7.mp q))]
      have hlt : i < js.length := by omega
      obtain ⟨j1, j2, j3, j4⟩ := h3 i js[i] (List.getElem?_eq_getElem hlt)
      rw [List.drop_eq_getElem_cons hlt, j1, j2]
      have hm : x = -1 → inV x (js[i]).1 (js[i]).2.1 = 0 := fun q => by rw [q]; exact inV_m1 (hok _ (List.getElem_mem hlt))
      by_cases c2 : inV x (js[i]).1 (js[i]).2.1 = 0
      · rw [if_pos (Or.inr c2), show jmpL x (js[i] :: js.drop (i + 1)) l = jmpL x (js.drop (i + 1)) l from if_pos c2]
        exact ih (i + 1) (by omega) (by omega)
      · rw [if_neg (fun q => q.elim (fun q => c2 (hm q)) c2), show jmpL x (js[i] :: js.drop (i + 1)) l = js[i] from if_neg c2]
        exact ⟨j3, j4⟩
theorem aJ_jmp {g : GT} {K : Nat} {d : QD} (h : QR g K d) (hok : okQ d) (x : Int32) : g 8 (aJ g K x + 2) = (jmpV d x).2.2.1 ∧ g 8 (aJ g K x + 3) = (jmpV d x).2.2.2 := ajL_jmp (l := d.2.2.2.2.2) h.2.2.2.2.2.2 x hok.1 6 0 rfl (Nat.zero_le _)
theorem jmpL_ok {x : Int32} {l : JD} (hl : ∃ p, l.2.2.2 = nI p ∧ p ≤ 999) : ∀ js : List JD, (∀ e ∈ js, okJ e) → ∃ p, (jmpL x js l).2.2.2 = nI p ∧ p ≤ 999
  | [], _ => hl
  | e :: js, h => by
    unfold jmpL
    split
    · exact jmpL_ok hl js (fun a ha => h a (List.mem_cons_of_mem _ ha))
    · exact (h e List.mem_cons_self).2
