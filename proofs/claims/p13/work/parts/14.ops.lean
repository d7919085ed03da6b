-- a parser's state: place, wrong place, digits, arrays; what each small step makes of it
abbrev PS : Type := Nat × Option Nat × Int32 × GT
def psF (f0 : FT) (p : PS) : FT := ps f0 p.1 p.2.1 p.2.2.1
def psG (p : PS) : GT := p.2.2.2
def pok (t : Nat) (p : PS) : Prop := wok p.2.1 ∧ p.1 ≤ t + 1 ∧ (p.2.1 = none → p.1 ≤ t)
def pC (t : Nat) (p : PS) : Int32 := tp (p.2.2.2 0) t p.1
def pSee (t : Nat) (p : PS) : PS := (sN (p.2.2.2 0) t p.1, p.2)
def pTake (t : Nat) (c : Int32) (p : PS) : PS := ((tkN (p.2.2.2 0) t c p.1 p.2.1).1, (tkN (p.2.2.2 0) t c p.1 p.2.1).2, p.2.2)
def pNum (t : Nat) (a b : Int32) (p : PS) : PS := match p.2.1 with
  | some _ => p
  | none => ((nR (p.2.2.2 0) t p.1).2.1, nW3 (p.2.2.2 0) t a b p.1, nI (nR (p.2.2.2 0) t p.1).2.2, p.2.2.2)
def pVal (t : Nat) (a b : Int32) (p : PS) : Int32 := match p.2.1 with
  | some _ => a
  | none => nV (p.2.2.2 0) t a b p.1
def pFail (q : Nat) (p : PS) : PS := (p.1, fl p.2.1 q, p.2.2)
def pAdv (p : PS) : PS := (p.1 + 1, p.2)
def pSet (j : Nat) (i v : Int32) (p : PS) : PS := (p.1, p.2.1, p.2.2.1, va_up p.2.2.2 j (upd (p.2.2.2 j) i.toNatClampNeg v))
theorem psF_adv (f0 : FT) (p : PS) : va_up (psF f0 p) 5 (psF f0 p 5 + 1) = psF f0 (pAdv p) := ps_at f0 p.1 p.2.1 p.2.2.1
theorem psF_set (f0 : FT) (j : Nat) (i v : Int32) (p : PS) : psF f0 (pSet j i v p) = psF f0 p := by unfold psF pSet; rfl
theorem psG_set (j : Nat) (i v : Int32) (p : PS) : psG (pSet j i v p) = va_up (psG p) j (upd (psG p j) i.toNatClampNeg v) := by unfold psG pSet; rfl
theorem pok_n {t : Nat} {p : PS} (h : pok t p) (ht : t ≤ 400) : p.1 ≤ 401 := by have := h.2.1; omega
theorem pok_see {t : Nat} {p : PS} (h : pok t p) : pok t (pSee t p) := by
  obtain ⟨h1, h2, h3⟩ := h
  refine ⟨h1, ?_, fun e => sN_le _ (h3 e)⟩
  show sN _ t p.1 ≤ t + 1
  by_cases q : p.1 ≤ t
  · have := sN_le (p.2.2.2 0) q; omega
  · rw [sN_big _ (by omega)]; exact h2
theorem pok_fail {t q : Nat} {p : PS} (h : pok t p) (hq : q ≤ 1000) : pok t (pFail q p) := ⟨fl_ok h.1 hq, h.2.1, fun e => absurd e fl_ne⟩
theorem pok_set {t j : Nat} {i v : Int32} {p : PS} (h : pok t p) : pok t (pSet j i v p) := h
theorem pok_adv {t : Nat} {p : PS} (h : pok t p) (h2 : p.1 ≤ t) (h3 : p.2.1 = none → p.1 < t) : pok t (pAdv p) := ⟨h.1, Nat.succ_le_succ h2, fun e => h3 e⟩
theorem pok_take {t : Nat} {c : Int32} {p : PS} (h : pok t p) (ht : t ≤ 400) (hc : c ≠ -1) : pok t (pTake t c p) := by
  obtain ⟨n, w, d, g⟩ := p
  cases w with
  | some q => exact h
  | none =>
    have hs : sN (g 0) t n ≤ t := sN_le _ (h.2.2 rfl)
    by_cases e : tp (g 0) t (sN (g 0) t n) = c
    · have e2 : tkN (g 0) t c n none = (sN (g 0) t n + 1, none) := if_pos e
      have hl : sN (g 0) t n < t := tp_lt (g0 := g 0) (by rw [e]; exact hc)
      refine ⟨?_, ?_, ?_⟩
      · show wok (tkN (g 0) t c n none).2
        rw [e2]; intro p q; cases q
      · show (tkN (g 0) t c n none).1 ≤ t + 1
        rw [e2]; show sN (g 0) t n + 1 ≤ t + 1; omega
      · intro _
        show (tkN (g 0) t c n none).1 ≤ t
        rw [e2]; exact hl
    · have e2 : tkN (g 0) t c n none = (sN (g 0) t n, some (sN (g 0) t n)) := if_neg e
      refine ⟨?_, ?_, ?_⟩
      · show wok (tkN (g 0) t c n none).2
        rw [e2]; intro p q; cases q; omega
      · show (tkN (g 0) t c n none).1 ≤ t + 1
        rw [e2]; show sN (g 0) t n ≤ t + 1; omega
      · intro q
        have q : (tkN (g 0) t c n none).2 = none := q
        rw [e2] at q; cases q
theorem pok_num {t : Nat} {a b : Int32} {p : PS} (h : pok t p) (ht : t ≤ 400) : pok t (pNum t a b p) := by
  obtain ⟨n, w, d, g⟩ := p
  cases w with
  | some q => exact h
  | none =>
    have hn : n ≤ t := h.2.2 rfl
    have h2 : (nR (g 0) t n).2.1 ≤ t := nR_le (g 0) hn
    exact ⟨nW3_ok (g 0) ht (by omega), by show (nR (g 0) t n).2.1 ≤ t + 1; omega, fun _ => h2⟩
theorem mo_see (t : Nat) (p : PS) : p.1 ≤ (pSee t p).1 := sN_ge _ t p.1
theorem mo_take (t : Nat) (c : Int32) (p : PS) : p.1 ≤ (pTake t c p).1 := by
  obtain ⟨n, w, d, g⟩ := p
  cases w with
  | some q => exact Nat.le_refl n
  | none =>
    show n ≤ (tkN (g 0) t c n none).1
    unfold tkN
    dsimp only
    have := sN_ge (g 0) t n
    split
    · show n ≤ sN (g 0) t n + 1; omega
    · exact this
theorem mo_num (t : Nat) (a b : Int32) (p : PS) : p.1 ≤ (pNum t a b p).1 := by
  obtain ⟨n, w, d, g⟩ := p
  cases w with
  | some q => exact Nat.le_refl n
  | none => exact nR_ge (g 0) t n
theorem pG_take (t : Nat) (c : Int32) (p : PS) : (pTake t c p).2.2.2 = p.2.2.2 := rfl
theorem pG_num (t : Nat) (a b : Int32) (p : PS) : (pNum t a b p).2.2.2 = p.2.2.2 := by
  obtain ⟨n, w, d, g⟩ := p
  cases w <;> rfl
theorem pVal_in {t : Nat} {a b : Int32} {p : PS} (hab : a ≤ b) : a ≤ pVal t a b p ∧ pVal t a b p ≤ b := by
  obtain ⟨n, w, d, g⟩ := p
  cases w with
  | some q => exact ⟨Int32.le_refl a, hab⟩
  | none =>
    show a ≤ nV (g 0) t a b n ∧ nV (g 0) t a b n ≤ b
    unfold nV
    split
    · rename_i h
      exact inV_nz (nW3_none h).2
    · exact ⟨Int32.le_refl a, hab⟩
theorem pVal_n {t A B : Nat} {p : PS} (hab : A ≤ B) (hB : B < 2 ^ 31) : ∃ m, pVal t (nI A) (nI B) p = nI m ∧ A ≤ m ∧ m ≤ B := by
  have h := pVal_in (t := t) (p := p) (nI_le hab hB)
  obtain ⟨m, hm, e⟩ := nI_of2 (x := pVal t (nI A) (nI B) p) (M := nI B) (n := B) (by rw [nI_toInt hB]) (by
    intro q
    exact absurd (Int32.lt_of_lt_of_le q (nI_pos' (n := A) (by omega))) (Int32.not_lt.mpr h.1)) h.2
  refine ⟨m, e, ?_, hm⟩
  rw [e, nI_leI (by omega) (by omega)] at h
  exact h.1
section Q
theorem c_hereQ (T : ST) (f0 : FT) (p : PS) (t : Nat) (h1 : f0 1 = nI t) (ht : t ≤ 400) (hp : pok t p) (Post : Int32 → FT → GT → Prop) (hq : Post (pC t p) (psF f0 p) (psG p)) : mI T y_Mo_here (Cond.code y_Mo_here b_Mo_here 1 (some .int)) 0 [.ref (ad T 0)] (psF f0 p) (psG p) Post := c_hereP T f0 _ _ _ _ t h1 ht (by have := pok_n hp ht; omega) Post hq
theorem c_isDigitQ (T : ST) (f0 : FT) (p : PS) (t : Nat) (h1 : f0 1 = nI t) (ht : t ≤ 400) (hp : pok t p) (Post : Int32 → FT → GT → Prop) (hq : Post (dg (pC t p)) (psF f0 p) (psG p)) : mI T y_Mo_isDigit (Cond.code y_Mo_isDigit b_Mo_isDigit 1 (some .boolean)) 1 [.ref (ad T 0)] (psF f0 p) (psG p) Post := c_isDigitP T f0 _ _ _ _ t h1 ht (by have := pok_n hp ht; omega) Post hq
theorem c_seeQ (T : ST) (f0 : FT) (p : PS) (t : Nat) (h1 : f0 1 = nI t) (ht : t ≤ 400) (hp : pok t p) (Post : Int32 → FT → GT → Prop) (hq : Post (pC t (pSee t p)) (psF f0 (pSee t p)) (psG (pSee t p))) : mI T y_Mo_see (Cond.code y_Mo_see b_Mo_see 1 (some .int)) 1 [.ref (ad T 0)] (psF f0 p) (psG p) Post := c_see T f0 p.1 p.2.1 p.2.2.1 p.2.2.2 t h1 ht (pok_n hp ht) Post hq
theorem c_takeQ (T : ST) (c : Int32) (f0 : FT) (p : PS) (t : Nat) (h1 : f0 1 = nI t) (ht : t ≤ 400) (hp : pok t p) (Post : FT → GT → Prop) (hq : Post (psF f0 (pTake t c p)) (psG (pTake t c p))) : mV T y_Mo_take (Cond.code y_Mo_take b_Mo_take 2 none) 2 [.ref (ad T 0), .int c] (psF f0 p) (psG p) Post := c_take T c f0 p.1 p.2.1 p.2.2.1 p.2.2.2 t h1 ht (pok_n hp ht) hp.1 Post hq
theorem c_failQ (T : ST) (f0 : FT) (p : PS) (t : Nat) (hp : pok t p) (Post : FT → GT → Prop) (hq : Post (psF f0 (pFail p.1 p)) (psG (pFail p.1 p))) : mV T y_Mo_fail (Cond.code y_Mo_fail b_Mo_fail 2 none) 0 [.ref (ad T 0), .int (psF f0 p 5)] (psF f0 p) (psG p) Post := c_failP T p.1 f0 p.1 p.2.1 p.2.2.1 p.2.2.2 hp.1 Post hq
theorem c_numQ (T : ST) (a b : Int32) (f0 : FT) (p : PS) (t : Nat) (h1 : f0 1 = nI t) (ht : t ≤ 400) (hp : pok t p) (Post : Int32 → FT → GT → Prop) (hq : Post (pVal t a b p) (psF f0 (pNum t a b p)) (psG (pNum t a b p))) : mI T y_Mo_number (Cond.code y_Mo_number b_Mo_number 4 (some .int)) 2 [.ref (ad T 0), .int a, .int b] (psF f0 p) (psG p) Post := by
  obtain ⟨n, w, d, g⟩ := p
  cases w with
  | none => exact c_number T a b f0 n d g t h1 ht (pok_n hp ht) Post hq
  | some q =>
    refine e_Mo_number T Post a b _ _ ?_
    rintro C rfl X
    refine k_Mo_number_0 X Post (P_10 := fun _ _ _ => True) a b _ _ ?_ ?_ ?_
    · intro h; exact absurd ((wI_lt hp.1).mp h) (by simp)
    · intro h; exact absurd ((wI_lt hp.1).mp h) (by simp)
    · intro _; exact hq
end Q
