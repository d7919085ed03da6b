-- the reference's steps against the pure words: live where they read, dead where they don't
theorem upd_same (f : Nat → Int32) (k : Nat) (v : Int32) : upd f k v k = v := if_pos rfl
theorem upd_other (f : Nat → Int32) {k j : Nat} (v : Int32) (h : j ≠ k) : upd f k v j = f j := if_neg h
def RK {α : Type} (q : PS) (o : Option α) (pos : α → Nat) : Prop := match o with
  | some r => q.2.1 = none ∧ q.1 = pos r
  | none => ¬ q.2.1 = none
theorem RK_bind {α β : Type} {q q' : PS} {o : Option α} {f : α → Option β} {pos : α → Nat} {pos' : β → Nat} (h : RK q o pos) (hl : q'.2.1 = none → q.2.1 = none) (hf : ∀ r, o = some r → q.2.1 = none → q.1 = pos r → RK q' (f r) pos') : RK q' (o.bind f) pos' := by
  cases o with
  | none => exact fun e => h (hl e)
  | some r => exact hf r rfl h.1 h.2
theorem RK_some {α : Type} {q : PS} {r : α} {pos : α → Nat} (h1 : q.2.1 = none) (h2 : q.1 = pos r) : RK q (some r) pos := ⟨h1, h2⟩
theorem liv_take {t : Nat} {c : Int32} {p : PS} (h : (pTake t c p).2.1 = none) : p.2.1 = none := by
  obtain ⟨n, w, d, g⟩ := p
  cases w with
  | none => rfl
  | some q => exact h
theorem liv_num {t : Nat} {a b : Int32} {p : PS} (h : (pNum t a b p).2.1 = none) : p.2.1 = none := by
  obtain ⟨n, w, d, g⟩ := p
  cases w with
  | none => rfl
  | some q => exact h
theorem liv_set {j : Nat} {i v : Int32} {p : PS} (h : (pSet j i v p).2.1 = none) : p.2.1 = none := h
theorem siv_set {j : Nat} {i v : Int32} {p : PS} (h : p.2.1 = none) : (pSet j i v p).2.1 = none := h
theorem siv_1 {j n : Nat} {i v : Int32} {p : PS} (h : p.1 = n) : (pSet j i v p).1 = n := h
theorem liv_fail {q : Nat} {p : PS} (h : (pFail q p).2.1 = none) : False := fl_ne h
theorem RK_take (t : Nat) (c : Int32) {p : PS} (h : p.2.1 = none) : RK (pTake t c p) (kTake (psG p 0) t c p.1) id := by
  obtain ⟨n, w, d, g⟩ := p
  have h : w = none := h
  subst h
  show RK ((tkN (g 0) t c n none).1, (tkN (g 0) t c n none).2, d, g) (kTake (g 0) t c n) id
  unfold kTake
  by_cases z : tp (g 0) t (sN (g 0) t n) = c
  · rw [show tkN (g 0) t c n none = (sN (g 0) t n + 1, none) from if_pos z, if_pos z]
    exact ⟨rfl, rfl⟩
  · rw [show tkN (g 0) t c n none = (sN (g 0) t n, some (sN (g 0) t n)) from if_neg z, if_neg z]
    exact fun e => nomatch e
theorem nW3_iff (g0 : Nat → Int32) (t n : Nat) (a b : Int32) : nW3 g0 t a b n = none ↔ (¬ dg (tp g0 t (sN g0 t n)) = 0 ∧ ¬ inV (nI (nR g0 t n).1) a b = 0) ∧ ¬ (true = true ∧ (nR g0 t n).2.2 = 4 ∧ ¬ dg (tp g0 t (nR g0 t n).2.1) = 0) := by
  unfold nW3 nW2 nW1
  constructor
  · intro h
    split at h
    · exact absurd h fl_ne
    · rename_i h1
      split at h
      · exact absurd h fl_ne
      · rename_i h2
        split at h
        · cases h
        · rename_i h3
          exact ⟨⟨h3, h1⟩, fun q => h2 q.2⟩
  · rintro ⟨⟨h1, h2⟩, h3⟩
    rw [if_neg h2, if_neg (fun q => h3 ⟨rfl, q⟩), if_neg h1]
theorem RK_num (t : Nat) (a b : Int32) {p : PS} (h : p.2.1 = none) : RK (pNum t a b p) (kNum true (psG p 0) t a b p.1) Prod.snd := by
  obtain ⟨n, w, d, g⟩ := p
  have h : w = none := h
  subst h
  show RK ((nR (g 0) t n).2.1, nW3 (g 0) t a b n, nI (nR (g 0) t n).2.2, g) (kNum true (g 0) t a b n) Prod.snd
  unfold kNum
  split
  · rename_i z
    exact ⟨(nW3_iff _ _ _ _ _).mpr z, rfl⟩
  · rename_i z
    exact fun e => z ((nW3_iff _ _ _ _ _).mp e)
theorem val_num {t v m : Nat} {a b : Int32} {p : PS} (h : p.2.1 = none) (e : kNum true (psG p 0) t a b p.1 = some (v, m)) : pVal t a b p = nI v := by
  obtain ⟨n, w, d, g⟩ := p
  have h : w = none := h
  subst h
  have e : kNum true (g 0) t a b n = some (v, m) := e
  show nV (g 0) t a b n = nI v
  unfold kNum at e
  split at e
  · rename_i z
    cases e
    exact if_pos ((nW3_iff _ _ _ _ _).mpr z)
  · cases e
theorem g_take (t : Nat) (c : Int32) (p : PS) : psG (pTake t c p) = psG p := rfl
theorem g_see (t : Nat) (p : PS) : psG (pSee t p) = psG p := rfl
theorem g_adv (p : PS) : psG (pAdv p) = psG p := rfl
theorem g_fail (q : Nat) (p : PS) : psG (pFail q p) = psG p := rfl
theorem c_see' (t : Nat) (p : PS) : pC t (pSee t p) = tp (psG p 0) t (sN (psG p 0) t p.1) := rfl
-- two numbers: a span, written into array j at i and j' at i'
theorem RK_span (t j : Nat) (i i' : Int32) (j' : Nat) (hj : j ≠ 0) (hj' : j' ≠ 0) {p : PS} (h : p.2.1 = none) : RK (pSet j' i' (pVal t (psG (pTake t 45 (pSet j i (pVal t 0 9999 p) (pNum t 0 9999 p))) j i.toNatClampNeg) 9999 (pTake t 45 (pSet j i (pVal t 0 9999 p) (pNum t 0 9999 p)))) (pNum t (psG (pTake t 45 (pSet j i (pVal t 0 9999 p) (pNum t 0 9999 p))) j i.toNatClampNeg) 9999 (pTake t 45 (pSet j i (pVal t 0 9999 p) (pNum t 0 9999 p))))) (kSpan true (psG p 0) t p.1) Prod.snd := by
  unfold kSpan
  refine RK_bind (RK_num t 0 9999 h) (fun e => liv_set (liv_take (liv_num (liv_set e)))) (fun r e h1 h2 => ?_)
  have hv : pVal t 0 9999 p = nI r.1 := val_num (m := r.2) h e
  generalize hp7 : pSet j i (pVal t 0 9999 p) (pNum t 0 9999 p) = p7
  have h7 : p7.2.1 = none := by rw [← hp7]; exact h1
  have h71 : p7.1 = r.2 := by rw [← hp7]; exact h2
  have g7 : psG p7 0 = psG p 0 := by rw [← hp7, psG_set, up_other _ _ hj.symm, pNum_g]
  have g7j : psG p7 j i.toNatClampNeg = nI r.1 := by rw [← hp7, psG_set, up_same, upd_same, hv]
  have h8 := RK_take t 45 h7
  rw [g7, h71] at h8
  refine RK_bind h8 (fun e => liv_num (liv_set e)) (fun m e2 h3 h4 => ?_)
  rw [show psG (pTake t 45 p7) j i.toNatClampNeg = nI r.1 from g7j]
  have h9 := RK_num t (nI r.1) 9999 h3
  rw [show psG (pTake t 45 p7) 0 = psG p 0 from g7, h4] at h9
  exact RK_bind h9 (fun e => e) (fun s e3 h5 h6 => ⟨h5, h6⟩)
theorem RK_Q4 (t : Nat) (k : Int32) {p : PS} (h : p.2.1 = none) : RK (pQ4 t k p) (kSpan true (psG p 0) t p.1) Prod.snd := RK_span t 3 k k 4 (by decide) (by decide) h
theorem RK_Js (t : Nat) (J : Int32) {p : PS} (h : p.2.1 = none) : RK (pJs t J p) (kSpan true (psG p 0) t p.1) Prod.snd := RK_span t 8 J (J + 1) 8 (by decide) (by decide) h
theorem liv_Q4 {t : Nat} {k : Int32} {p : PS} (h : (pQ4 t k p).2.1 = none) : p.2.1 = none := liv_num (liv_set (liv_take (liv_num (liv_set h))))
theorem liv_Js {t : Nat} {J : Int32} {p : PS} (h : (pJs t J p).2.1 = none) : p.2.1 = none := liv_num (liv_set (liv_take (liv_num (liv_set h))))
theorem liv_Jt {t : Nat} {J : Int32} {p : PS} (h : (pJt t J p).2.1 = none) : p.2.1 = none := by
  unfold pJt at h
  dsimp only at h
  split at h
  · rename_i z; exact liv_take (liv_num (liv_set (liv_set z)))
  · rename_i z; exact absurd h z
theorem RK_Jt (t : Nat) (J : Int32) {p : PS} (h : p.2.1 = none) : RK (pJt t J p) (kJump true (psG p 0) t p.1) Prod.snd := by
  unfold kJump
  refine RK_bind (RK_take t 62 h) (fun e => by
    unfold pJt at e
    dsimp only at e
    split at e
    · rename_i z; exact liv_num (liv_set (liv_set z))
    · rename_i z; exact absurd e z) (fun m e1 h1 h2 => ?_)
  have h4 := RK_num t 0 60 h1
  rw [show psG (pTake t 62 p) 0 = psG p 0 from rfl, h2] at h4
  refine RK_bind h4 (fun e => by
    unfold pJt at e
    dsimp only at e
    split at e
    · rename_i z; exact z
    · rename_i z; exact absurd e z) (fun r e2 h5 h6 => ?_)
  unfold pJt
  dsimp only
  generalize hp6 : pSet 8 (J + 3) 0 (pSet 8 (J + 2) (pVal t 0 60 (pTake t 62 p)) (pNum t 0 60 (pTake t 62 p))) = p6
  have h7 : p6.2.1 = none := by rw [← hp6]; exact h5
  have h71 : p6.1 = r.2 := by rw [← hp6]; exact h6
  have g6 : psG p6 0 = psG p 0 := by rw [← hp6, psG_set, up_other _ _ (by decide), psG_set, up_other _ _ (by decide), pNum_g]; rfl
  rw [if_pos h7, c_see', g6, h71]
  unfold kPts
  split
  · have h8 := RK_num t 0 999 (p := pAdv (pSee t p6)) h7
    rw [show psG (pAdv (pSee t p6)) 0 = psG p 0 from g6, show (pAdv (pSee t p6)).1 = sN (psG p 0) t r.2 + 1 from by show sN (psG p6 0) t p6.1 + 1 = _; rw [g6, h71]] at h8
    show RK _ (((kNum true (psG p 0) t 0 999 (sN (psG p 0) t r.2 + 1)).bind _).bind _) _
    rw [Option.bind_assoc]
    exact RK_bind h8 (fun e => e) (fun s e3 h9 h10 => ⟨h9, h10⟩)
  · exact ⟨h7, by show sN (psG p6 0) t p6.1 = _; rw [g6, h71]⟩
theorem kJump_sN (st : Bool) (g0 : Nat → Int32) (t n : Nat) : kJump st g0 t (sN g0 t n) = kJump st g0 t n := by
  unfold kJump kTake
  rw [sN_idem]
-- words
theorem wbV_34 : wbV 34 = 0 := if_pos rfl
theorem tp_in {g0 : Nat → Int32} {t n : Nat} (h : ¬ inV (tp g0 t n) 32 126 = 0) : n < t ∧ tp g0 t n = g0 n := by
  have h1 : n < t := tp_lt (g0 := g0) (fun q => h (by rw [q]; decide +kernel))
  exact ⟨h1, if_pos h1⟩
theorem liv_WL {t : Nat} {k : Int32} : ∀ (j m : Nat) (p : PS), (pWL t k j m p).2.1 = none → p.2.1 = none := by
  intro j
  induction j with
  | zero => intro m p h; exact h
  | succ j ih =>
    intro m p h
    unfold pWL at h
    split at h
    · rename_i z; exact z.1
    · unfold pWE at h
      dsimp only at h
      by_cases z : p.2.1 = none
      · exact z
      · exfalso
        by_cases y : m = 0
        · rw [if_pos y] at h
          have : ¬ (pFail p.1 p).2.1 = none := fl_ne
          rw [if_neg this] at h
          exact this h
        · rw [if_neg y, if_neg z] at h
          exact z h
theorem RK_WL (t s : Nat) (k : Int32) (g0 : Nat → Int32) : ∀ (j m : Nat) (p : PS), p.2.1 = none → psG p 0 = g0 → p.1 = s + m → j + m = 13 → m ≤ 12 → RK (pWL t k j m p) (kWend g0 t s (wL g0 t (12 - m) s m)) Prod.snd := by
  intro j
  induction j with
  | zero => intro m p h hg hn hj hm; omega
  | succ j ih =>
    intro m p h hg hn hj hm
    have hc : pC t p = tp g0 t (s + m) := by show tp (psG p 0) t p.1 = _; rw [hg, hn]
    unfold pWL
    rw [hc]
    by_cases z : tp g0 t (s + m) = 34
    · rw [if_neg (fun q => q.2 z)]
      have hlt : s + m < t := tp_lt (g0 := g0) (by rw [z]; decide +kernel)
      have e34 : g0 (s + m) = 34 := by rw [← z]; exact (if_pos hlt).symm
      have hw : wL g0 t (12 - m) s m = m := by
        cases 12 - m with
        | zero => rfl
        | succ i => exact if_neg (fun q => q.2 (by rw [e34]; exact wbV_34))
      rw [hw]
      by_cases y : m = 0
      · have ek : kWend g0 t s m = none := if_pos (Or.inl y)
        have hd : ¬ (pFail p.1 p).2.1 = none := fl_ne
        have ep : pWE k m p = pSet 5 k (nI m) (pFail p.1 p) := by unfold pWE; simp only [if_pos y, if_neg hd]
        rw [ek, ep]
        exact hd
      · have ek : kWend g0 t s m = some ((m, fun j => g0 (s + j)), s + m + 1) := if_neg (fun q => by rcases q with q | q | q; exact y q; exact q hlt; exact q e34)
        have ep : pWE k m p = pSet 5 k (nI m) (pAdv p) := by unfold pWE; simp only [if_neg y, if_pos h]
        rw [ek, ep]
        exact ⟨h, by show p.1 + 1 = _; rw [hn]⟩
    · rw [if_pos ⟨h, z⟩]
      by_cases y : inV (tp g0 t (s + m)) 32 126 = 0 ∨ m = 12
      · rw [if_pos y]
        have hw : wL g0 t (12 - m) s m = m := by
          rcases y with y | y
          · cases 12 - m with
            | zero => rfl
            | succ i =>
              refine if_neg (fun q => q.2 ?_)
              rw [show tp g0 t (s + m) = g0 (s + m) from if_pos q.1] at y z
              exact (if_neg z).trans y
          · subst y; rfl
        rw [hw]
        unfold kWend
        rw [if_pos]
        · exact fl_ne
        · by_cases x : s + m < t
          · exact Or.inr (Or.inr (fun q => z (by rw [← q]; exact if_pos x)))
          · exact Or.inr (Or.inl x)
      · rw [if_neg y]
        have y1 : ¬ inV (tp g0 t (s + m)) 32 126 = 0 := fun q => y (Or.inl q)
        have y2 : ¬ m = 12 := fun q => y (Or.inr q)
        obtain ⟨hlt, et⟩ := tp_in y1
        have hw : wL g0 t (12 - m) s m = wL g0 t (12 - (m + 1)) s (m + 1) := by
          rw [show 12 - m = (12 - (m + 1)) + 1 by omega]
          refine if_pos ⟨hlt, fun q => ?_⟩
          rw [et] at y1 z
          exact y1 ((if_neg z).symm.trans q)
        rw [hw]
        refine ih (m + 1) _ h ?_ ?_ (by omega) (by omega)
        · show psG (pSet 6 _ _ p) 0 = g0
          rw [psG_set, up_other _ _ (by decide)]; exact hg
        · show p.1 + 1 = _; omega
theorem liv_Words {t : Nat} {k : Int32} {p : PS} (h : (pWords t k p).2.1 = none) : p.2.1 = none := liv_take (liv_WL _ _ _ h)
theorem RK_Words (t : Nat) (k : Int32) {p : PS} (h : p.2.1 = none) : RK (pWords t k p) (kWords (psG p 0) t p.1) Prod.snd := by
  unfold kWords pWords
  refine RK_bind (RK_take t 34 h) (fun e => liv_WL _ _ _ e) (fun m e h1 h2 => ?_)
  have h9 := RK_WL t m k (psG p 0) 13 0 (pTake t 34 p) h1 rfl h2 rfl (by decide)
  exact h9
theorem g_WL (t : Nat) (k : Int32) {i : Nat} (h5 : i ≠ 5) (h6 : i ≠ 6) : ∀ (j m : Nat) (p : PS), psG (pWL t k j m p) i = psG p i := by
  intro j
  induction j with
  | zero => intro m p; rfl
  | succ j ih =>
    intro m p
    unfold pWL
    split
    · split
      · rfl
      · rw [ih, g_adv, psG_set, up_other _ _ h6]
    · unfold pWE
      dsimp only
      rw [psG_set, up_other _ _ h5]
      split <;> split <;> rfl
theorem g_Words (t : Nat) (k : Int32) (p : PS) {i : Nat} (h5 : i ≠ 5) (h6 : i ≠ 6) : psG (pWords t k p) i = psG p i := g_WL t k h5 h6 13 0 _
-- the jumps, and the last one
theorem liv_Jump {t i : Nat} {J : Int32} {p : PS} (h : (pJump t i J p).2.1 = none) : p.2.1 = none := by
  have h := liv_Jt h
  split at h
  · have h9 := liv_Js h
    exact h9
  · exact h
theorem liv_QL {t k : Nat} {j i : Nat} {p : PS} (h : (pQL t k j i p).2.1 = none) : p.2.1 = none := by
  cases j with
  | zero => exact h
  | succ j =>
    unfold pQL at h
    split at h
    · assumption
    · exact h
theorem RK_QL (t k : Nat) (g0 : Nat → Int32) : ∀ (j i : Nat) (acc : List JD) (p : PS), p.2.1 = none → psG p 0 = g0 → j + i = 6 → i ≤ 5 → RK (pQL t k j i p) ((kJumps true g0 t (5 - i) p.1 acc).bind fun js => (kJump true g0 t js.2).bind fun r => some (js, r)) (fun x => x.2.2) := by
  intro j
  induction j with
  | zero => intro i acc p h hg hj hi; omega
  | succ j ih =>
    intro i acc p h hg hj hi
    unfold pQL
    rw [if_pos h]
    generalize hJ : nI ((k * 6 + i) * 4) = J
    have hgs : psG (pSet 8 J (-1) (pSee t p)) 0 = g0 := by rw [psG_set, up_other _ _ (by decide)]; exact hg
    have hns : (pSet 8 J (-1) (pSee t p)).1 = sN g0 t p.1 := by show sN (psG p 0) t p.1 = _; rw [hg]
    have hc : pC t (pSee t p) = tp g0 t (sN g0 t p.1) := by rw [c_see', hg]
    by_cases z : dg (tp g0 t (sN g0 t p.1)) = 0
    · have hb : pJb t i p = false := by unfold pJb; rw [hc]; exact if_pos z
      rw [hb, if_neg (by decide)]
      have hkj : ∃ n', kJumps true g0 t (5 - i) p.1 acc = some (acc, n') ∧ kJump true g0 t n' = kJump true g0 t (sN g0 t p.1) := by
        cases 5 - i with
        | zero => exact ⟨p.1, rfl, (kJump_sN _ _ _ _).symm⟩
        | succ a => exact ⟨_, if_neg (fun q => q z), rfl⟩
      obtain ⟨n', e1, e2⟩ := hkj
      rw [e1]
      show RK _ ((kJump true g0 t n').bind _) _
      rw [e2]
      have h9 : RK (pJump t i J p) (kJump true g0 t (sN g0 t p.1)) Prod.snd := by
        unfold pJump
        rw [hb, if_neg (by decide)]
        have := RK_Jt t J (p := pSet 8 J (-1) (pSee t p)) h
        rw [hgs, hns] at this
        exact this
      refine RK_bind h9 (fun e => by unfold pQLs at e; rw [hJ] at e; exact e) (fun r e h1 h2 => ⟨?_, ?_⟩)
      · unfold pQLs; rw [hJ]; exact h1
      · unfold pQLs; rw [hJ]; exact h2
    · by_cases y : i < 5
      · have hb : pJb t i p = true := by unfold pJb; rw [hc, if_neg z]; exact decide_eq_true y
        rw [hb, if_pos rfl]
        have e1 : kJumps true g0 t (5 - i) p.1 acc = (kSpan true g0 t (sN g0 t p.1)).bind fun s => (kJump true g0 t s.2).bind fun r => (kTake g0 t 44 r.2).bind fun m => kJumps true g0 t (5 - (i + 1)) m (acc ++ [(s.1.1, s.1.2, r.1.1, r.1.2)]) := by
          rw [show 5 - i = (5 - (i + 1)) + 1 by omega]
          exact if_pos z
        rw [e1]
        have ep : pJump t i J p = pJt t J (pJs t J (pSet 8 J (-1) (pSee t p))) := by unfold pJump; rw [hb, if_pos rfl]
        have eq : pQLs t k i p = pSet 7 (nI k) (psG (pJump t i J p) 7 (nI k).toNatClampNeg + 1) (pJump t i J p) := by unfold pQLs; rw [hJ]
        have h3 := RK_Js t J (p := pSet 8 J (-1) (pSee t p)) h
        rw [hgs, hns] at h3
        rw [Option.bind_assoc]
        refine RK_bind h3 (fun e => by
          have e := liv_take (liv_QL e)
          rw [eq] at e
          have e : (pJump t i J p).2.1 = none := e
          rw [ep] at e
          exact liv_Jt e) (fun s e2 h4 h5 => ?_)
        have h6 := RK_Jt t J h4
        rw [pJs_g t J _ (by decide), hgs, h5] at h6
        rw [Option.bind_assoc, ← ep] at *
        refine RK_bind (ep ▸ h6) (fun e => by
          have e := liv_take (liv_QL e)
          rw [eq] at e
          exact e) (fun r e3 h7 h8 => ?_)
        rw [Option.bind_assoc]
        have h10 : (pQLs t k i p).2.1 = none := by rw [eq]; exact h7
        have h9 := RK_take t 44 h10
        have hg9 : psG (pQLs t k i p) 0 = g0 := by
          rw [eq, psG_set, up_other _ _ (by decide), pJump_g t i J p (by decide)]; exact hg
        rw [hg9, show (pQLs t k i p).1 = r.2 from by rw [eq]; exact h8] at h9
        refine RK_bind h9 (fun e => liv_QL e) (fun m e4 h11 h12 => ?_)
        have := ih (i + 1) (acc ++ [(s.1.1, s.1.2, r.1.1, r.1.2)]) (pTake t 44 (pQLs t k i p)) h11 hg9 (by omega) (by omega)
        rw [h12] at this
        exact this
      · have hi5 : i = 5 := by omega
        subst hi5
        have hb : pJb t 5 p = false := by unfold pJb; rw [hc, if_neg z]; rfl
        rw [hb, if_neg (by decide)]
        show RK _ ((kJump true g0 t p.1).bind _) _
        rw [← kJump_sN]
        have h9 : RK (pJump t 5 J p) (kJump true g0 t (sN g0 t p.1)) Prod.snd := by
          unfold pJump
          rw [hb, if_neg (by decide)]
          have := RK_Jt t J (p := pSet 8 J (-1) (pSee t p)) h
          rw [hgs, hns] at this
          exact this
        refine RK_bind h9 (fun e => by unfold pQLs at e; rw [hJ] at e; exact e) (fun r e h1 h2 => ⟨?_, ?_⟩)
        · unfold pQLs; rw [hJ]; exact h1
        · unfold pQLs; rw [hJ]; exact h2
