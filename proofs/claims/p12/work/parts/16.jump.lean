-- a jump
def bI (b : Bool) : Int32 := if b then 1 else 0
theorem bI_01 (b : Bool) : bI b = 0 ∨ bI b = 1 := by cases b; exact Or.inl rfl; exact Or.inr rfl
def pJb (t i : Nat) (p : PS) : Bool := if dg (pC t (pSee t p)) = 0 then false else decide (i < 5)
def pJs (t : Nat) (J : Int32) (p : PS) : PS :=
  let p1 := pSet 8 J (pVal t 0 9999 p) (pNum t 0 9999 p)
  let p2 := pTake t 45 p1
  pSet 8 (J + 1) (pVal t (psG p2 8 J.toNatClampNeg) 9999 p2) (pNum t (psG p2 8 J.toNatClampNeg) 9999 p2)
def pJt (t : Nat) (J : Int32) (p : PS) : PS :=
  let p4 := pTake t 62 p
  let p6 := pSet 8 (J + 3) 0 (pSet 8 (J + 2) (pVal t 0 60 p4) (pNum t 0 60 p4))
  if p6.2.1 = none then (if pC t (pSee t p6) = 43 then pSet 8 (J + 3) (pVal t 0 999 (pAdv (pSee t p6))) (pNum t 0 999 (pAdv (pSee t p6))) else pSee t p6) else p6
def pJump (t i : Nat) (J : Int32) (p : PS) : PS := pJt t J (if pJb t i p then pJs t J (pSet 8 J (-1) (pSee t p)) else pSet 8 J (-1) (pSee t p))
theorem pok_Js {t : Nat} {J : Int32} {p : PS} (h : pok t p) (ht : t ≤ 400) : pok t (pJs t J p) := pok_set (pok_num (pok_take (pok_set (pok_num h ht)) ht (by decide +kernel)) ht)
theorem pok_plus {t : Nat} {c : Int32} {p : PS} (h : pok t p) (hc : pC t p = c) (hn : c ≠ -1) : pok t (pAdv p) := by
  have hl : p.1 < t := tp_lt (g0 := p.2.2.2 0) (by rw [show tp (p.2.2.2 0) t p.1 = c from hc]; exact hn)
  exact pok_adv h (by omega) (fun _ => hl)
theorem pok_Jt {t : Nat} {J : Int32} {p : PS} (h : pok t p) (ht : t ≤ 400) : pok t (pJt t J p) := by
  have h6 : pok t (pSet 8 (J + 3) 0 (pSet 8 (J + 2) (pVal t 0 60 (pTake t 62 p)) (pNum t 0 60 (pTake t 62 p)))) := pok_set (pok_set (pok_num (pok_take h ht (by decide +kernel)) ht))
  unfold pJt
  dsimp only
  split
  · split
    · rename_i h2
      exact pok_set (pok_num (pok_plus (pok_see h6) h2 (by decide +kernel)) ht)
    · exact pok_see h6
  · exact h6
theorem pok_Jump {t i : Nat} {J : Int32} {p : PS} (h : pok t p) (ht : t ≤ 400) : pok t (pJump t i J p) := by
  unfold pJump
  split
  · exact pok_Jt (pok_Js (pok_set (pok_see h)) ht) ht
  · exact pok_Jt (pok_set (pok_see h)) ht
theorem mo_Js {t : Nat} {J : Int32} {p : PS} : p.1 ≤ (pJs t J p).1 := Nat.le_trans (mo_num t 0 9999 p) (Nat.le_trans (mo_take t 45 (pSet 8 J (pVal t 0 9999 p) (pNum t 0 9999 p))) (mo_num t _ 9999 _))
theorem mo_Jt {t : Nat} {J : Int32} {p : PS} : p.1 ≤ (pJt t J p).1 := by
  have h6 : p.1 ≤ (pSet 8 (J + 3) 0 (pSet 8 (J + 2) (pVal t 0 60 (pTake t 62 p)) (pNum t 0 60 (pTake t 62 p)))).1 := Nat.le_trans (mo_take t 62 p) (mo_num t 0 60 (pTake t 62 p))
  unfold pJt
  dsimp only
  split
  · split
    · exact Nat.le_trans (Nat.le_trans h6 (mo_see t _)) (Nat.le_trans (Nat.le_succ _) (mo_num t 0 999 (pAdv (pSee t _))))
    · exact Nat.le_trans h6 (mo_see t _)
  · exact h6
theorem mo_Jump {t i : Nat} {J : Int32} {p : PS} : p.1 ≤ (pJump t i J p).1 := by
  unfold pJump
  split
  · exact Nat.le_trans (Nat.le_trans (mo_see t p) (mo_Js (t := t) (J := J) (p := pSet 8 J (-1) (pSee t p)))) (mo_Jt (t := t) (J := J) (p := pJs t J (pSet 8 J (-1) (pSee t p))))
  · exact Nat.le_trans (mo_see t p) (mo_Jt (t := t) (J := J) (p := pSet 8 J (-1) (pSee t p)))
set_option maxHeartbeats 1000000 in
theorem c_jump (T : ST) (k i : Nat) (f0 : FT) (p : PS) (t : Nat) (h1 : f0 1 = nI t) (ht : t ≤ 400) (hp : pok t p) (hk : k < 610) (hi : i < 6) (Post : Int32 → FT → GT → Prop) (hq : Post (bI (pJb t i p)) (psF f0 (pJump t i (nI ((k * 6 + i) * 4)) p)) (psG (pJump t i (nI ((k * 6 + i) * 4)) p))) : mI T y_Mo_jump (Cond.code y_Mo_jump b_Mo_jump 5 (some .boolean)) 3 [.ref (ad T 0), .int (nI k), .int (nI i)] (psF f0 p) (psG p) Post := by
  refine e_Mo_jump T Post _ _ _ _ ?_
  rintro C rfl X
  have hJ : (nI k * 6 + nI i) * 4 = nI ((k * 6 + i) * 4) := by rw [show (6 : Int32) = nI 6 from rfl, show (4 : Int32) = nI 4 from rfl, pk_mul, nI_add, pk_mul]
  have hb0 : vp_in (nI ((k * 6 + i) * 4)) 14640 := vi_n (by omega) (by decide)
  have hb1 : vp_in (nI ((k * 6 + i) * 4) + 1) 14640 := by rw [nI_1]; exact vi_n (by omega) (by decide)
  have hb2 : vp_in (nI ((k * 6 + i) * 4) + 2) 14640 := by rw [show (2 : Int32) = nI 2 from rfl, nI_add]; exact vi_n (by omega) (by decide)
  have hb3 : vp_in (nI ((k * 6 + i) * 4) + 3) 14640 := by rw [show (3 : Int32) = nI 3 from rfl, nI_add]; exact vi_n (by omega) (by decide)
  generalize nI ((k * 6 + i) * 4) = J at hq hJ hb0 hb1 hb2 hb3
  have s158 : ∀ b p, Post (bI b) (psF f0 p) (psG p) → zn_jump C Post 158 [(0, .ref (ad C.1 0)), (1, .int (nI k)), (2, .int (nI i)), (3, .int J), (4, .int (bI b))] [] (psF f0 p) (psG p) := fun b p hq => k_Mo_jump_158 X Post _ _ _ _ _ _ hq (nar01 (bI_01 b))
  have s86 : ∀ b p, pok t p → Post (bI b) (psF f0 (pJt t J p)) (psG (pJt t J p)) → zn_jump C Post 86 [(0, .ref (ad C.1 0)), (1, .int (nI k)), (2, .int (nI i)), (3, .int J), (4, .int (bI b))] [] (psF f0 p) (psG p) := by
    intro b p hp hq
    have hp4 : pok t (pTake t 62 p) := pok_take hp ht (by decide +kernel)
    refine k_Mo_jump_86 X Post (P_89 := fun f' g' => f' = psF f0 (pTake t 62 p) ∧ g' = psG (pTake t 62 p)) _ _ _ _ _ _ ?_ ?_
    · exact c_takeQ _ 62 f0 p t h1 ht hp _ ⟨rfl, rfl⟩
    rintro f1 g1 ⟨rfl, rfl⟩
    refine k_Mo_jump_92 X Post (P_103 := fun r f' g' => r = pVal t 0 60 (pTake t 62 p) ∧ f' = psF f0 (pNum t 0 60 (pTake t 62 p)) ∧ g' = psG (pNum t 0 60 (pTake t 62 p))) _ _ _ _ _ _ ?_ ?_
    · exact c_numQ _ 0 60 f0 _ t h1 ht hp4 _ ⟨rfl, rfl, rfl⟩
    rintro r f2 g2 ⟨rfl, rfl, rfl⟩
    have hp6 : pok t (pSet 8 (J + 3) 0 (pSet 8 (J + 2) (pVal t 0 60 (pTake t 62 p)) (pNum t 0 60 (pTake t 62 p)))) := pok_set (pok_set (pok_num hp4 ht))
    unfold pJt at hq
    dsimp only at hq
    generalize hp6e : pSet 8 (J + 3) 0 (pSet 8 (J + 2) (pVal t 0 60 (pTake t 62 p)) (pNum t 0 60 (pTake t 62 p))) = p6 at hq hp6
    refine k_Mo_jump_106 X Post (P_124 := fun r f' g' => r = pC t (pSee t p6) ∧ f' = psF f0 (pSee t p6) ∧ g' = psG (pSee t p6)) _ _ _ _ _ _ _ _ hb2 hb3 ?_ ?_ ?_
    · intro h
      have h6 : ¬ p6.2.1 = none := by rw [← hp6e]; exact (wI_ge (pok_num hp4 ht).1).mp h
      rw [if_neg h6] at hq
      have := s158 b p6 hq
      rw [← hp6e] at this
      exact this
    · intro h
      have := c_seeQ C.1 f0 p6 t h1 ht hp6 (fun r f' g' => r = pC t (pSee t p6) ∧ f' = psF f0 (pSee t p6) ∧ g' = psG (pSee t p6)) ⟨rfl, rfl, rfl⟩
      rw [← hp6e] at this ⊢
      exact this
    · rintro h r f3 g3 ⟨rfl, rfl, rfl⟩
      have h6 : p6.2.1 = none := by rw [← hp6e]; exact Classical.byContradiction fun z => h ((wI_ge (pok_num hp4 ht).1).mpr z)
      rw [if_pos h6] at hq
      refine k_Mo_jump_127 X Post (P_154 := fun r f' g' => r = pVal t 0 999 (pAdv (pSee t p6)) ∧ f' = psF f0 (pNum t 0 999 (pAdv (pSee t p6))) ∧ g' = psG (pNum t 0 999 (pAdv (pSee t p6)))) _ _ _ _ _ _ _ ?_ ?_ ?_
      · intro h2
        rw [if_neg h2] at hq
        exact s158 b _ hq
      · intro h2
        rw [psF_adv]
        exact c_numQ _ 0 999 f0 (pAdv (pSee t p6)) t h1 ht (pok_plus (pok_see hp6) h2 (by decide +kernel)) _ ⟨rfl, rfl, rfl⟩
      · rintro h2 r f4 g4 ⟨rfl, rfl, rfl⟩
        rw [if_pos h2] at hq
        refine k_Mo_jump_157 X Post _ _ _ _ _ _ _ _ hb3 ?_
        exact s158 b (pSet 8 (J + 3) (pVal t 0 999 (pAdv (pSee t p6))) (pNum t 0 999 (pAdv (pSee t p6)))) hq
  have s31 : ∀ b p, pok t p → Post (bI b) (psF f0 (pJt t J (if b then pJs t J (pSet 8 J (-1) p) else pSet 8 J (-1) p))) (psG (pJt t J (if b then pJs t J (pSet 8 J (-1) p) else pSet 8 J (-1) p))) → zn_jump C Post 31 [(0, .ref (ad C.1 0)), (1, .int (nI k)), (2, .int (nI i)), (3, .int J)] [.int (bI b)] (psF f0 p) (psG p) := by
    intro b p hp hq
    have hp2 : pok t (pSet 8 J (-1) p) := pok_set hp
    refine k_Mo_jump_31 X Post (P_55 := fun r f' g' => r = pVal t 0 9999 (pSet 8 J (-1) p) ∧ f' = psF f0 (pNum t 0 9999 (pSet 8 J (-1) p)) ∧ g' = psG (pNum t 0 9999 (pSet 8 J (-1) p))) _ _ _ _ _ _ hb0 ?_ ?_ ?_
    · intro h
      cases b with
      | false => exact s86 false (pSet 8 J (-1) p) hp2 hq
      | true => exact absurd h (by decide +kernel)
    · intro h
      exact c_numQ _ 0 9999 f0 (pSet 8 J (-1) p) t h1 ht hp2 _ ⟨rfl, rfl, rfl⟩
    · rintro h r f1 g1 ⟨rfl, rfl, rfl⟩
      cases b with
      | false => exact absurd rfl h
      | true =>
        generalize pSet 8 J (-1) p = p2 at hp2 hq ⊢
        have hp3 : pok t (pSet 8 J (pVal t 0 9999 p2) (pNum t 0 9999 p2)) := pok_set (pok_num hp2 ht)
        refine k_Mo_jump_58 X Post (P_62 := fun f' g' => f' = psF f0 (pTake t 45 (pSet 8 J (pVal t 0 9999 p2) (pNum t 0 9999 p2))) ∧ g' = psG (pTake t 45 (pSet 8 J (pVal t 0 9999 p2) (pNum t 0 9999 p2)))) _ _ _ _ _ _ _ _ hb0 ?_ ?_
        · exact c_takeQ _ 45 f0 (pSet 8 J (pVal t 0 9999 p2) (pNum t 0 9999 p2)) t h1 ht hp3 _ ⟨rfl, rfl⟩
        rintro f2 g2 ⟨rfl, rfl⟩
        replace hq : Post (bI true) (psF f0 (pJt t J (pJs t J p2))) (psG (pJt t J (pJs t J p2))) := hq
        unfold pJs at hq
        dsimp only at hq
        have hp4 := pok_take hp3 ht (c := 45) (by decide +kernel)
        generalize pTake t 45 (pSet 8 J (pVal t 0 9999 p2) (pNum t 0 9999 p2)) = p4 at hq hp4 ⊢
        refine k_Mo_jump_65 X Post (P_82 := fun r f' g' => r = pVal t (psG p4 8 J.toNatClampNeg) 9999 p4 ∧ f' = psF f0 (pNum t (psG p4 8 J.toNatClampNeg) 9999 p4) ∧ g' = psG (pNum t (psG p4 8 J.toNatClampNeg) 9999 p4)) _ _ _ _ _ _ hb0 ?_ ?_
        · exact c_numQ _ _ 9999 f0 p4 t h1 ht hp4 _ ⟨rfl, rfl, rfl⟩
        rintro r f3 g3 ⟨rfl, rfl, rfl⟩
        refine k_Mo_jump_85 X Post _ _ _ _ _ _ _ _ hb1 ?_
        exact s86 true (pSet 8 (J + 1) (pVal t (psG p4 8 J.toNatClampNeg) 9999 p4) (pNum t (psG p4 8 J.toNatClampNeg) 9999 p4)) (pok_set (pok_num hp4 ht)) hq
  refine k_Mo_jump_0 X Post (P_10 := fun r f' g' => r = pC t (pSee t p) ∧ f' = psF f0 (pSee t p) ∧ g' = psG (pSee t p)) _ _ _ _ ?_ ?_
  · exact c_seeQ _ f0 p t h1 ht hp _ ⟨rfl, rfl, rfl⟩
  rintro r f1 g1 ⟨rfl, rfl, rfl⟩
  rw [hJ]
  refine k_Mo_jump_13 X Post (P_15 := fun r f' g' => r = dg (pC t (pSee t p)) ∧ f' = psF f0 (pSee t p) ∧ g' = psG (pSee t p)) _ _ _ _ _ _ ?_ ?_
  · exact c_isDigitQ _ f0 (pSee t p) t h1 ht (pok_see hp) _ ⟨rfl, rfl, rfl⟩
  rintro r f2 g2 ⟨rfl, rfl, rfl⟩
  have go : ∀ b, pJb t i p = b → zn_jump C Post 31 [(0, .ref (ad C.1 0)), (1, .int (nI k)), (2, .int (nI i)), (3, .int J)] [.int (bI b)] (psF f0 (pSee t p)) (psG (pSee t p)) := by
    intro b e
    unfold pJump at hq
    rw [e] at hq
    exact s31 b (pSee t p) (pok_see hp) hq
  refine k_Mo_jump_18 X Post _ _ _ _ _ _ ?_ ?_ ?_
  · intro h
    exact k_Mo_jump_30 X Post _ _ _ _ _ (go false (if_pos h))
  · intro h h2
    rw [show (5 : Int32) = nI 5 from rfl, nI_leI (by decide) (by omega)] at h2
    refine k_Mo_jump_30 X Post _ _ _ _ _ (go false ?_)
    unfold pJb
    rw [if_neg h]
    exact decide_eq_false (by omega)
  · intro h h2
    rw [show (5 : Int32) = nI 5 from rfl, nI_leI (by decide) (by omega)] at h2
    refine go true ?_
    unfold pJb
    rw [if_neg h]
    exact decide_eq_true (by omega)
