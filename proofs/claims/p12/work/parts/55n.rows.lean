-- loops that copy, one by one and in blocks
theorem cntU {a N A B : Nat} {V : Int32 → Int32} {body : Nat → GT → GT} (hAB : A = B ∨ A + N ≤ B ∨ B + N ≤ A) (hb : ∀ i g, i < N → body i g a = upd (g a) (B + i) (V (g a (A + i)))) : ∀ (j i : Nat) (g : GT), j + i = N → ∀ x, cnt body j i g a x = if B + i ≤ x ∧ x < B + N then V (g a (A + (x - B))) else g a x := by
  intro j
  induction j with
  | zero => intro i g h x; rw [if_neg (by omega)]; rfl
  | succ j ih =>
    intro i g h x
    show cnt body j (i + 1) (body i g) a x = _
    rw [ih (i + 1) _ (by omega), hb i g (by omega)]
    by_cases c1 : x = B + i
    · rw [if_neg (by omega), if_pos (by omega), c1, upd_same, show A + (B + i - B) = A + i by omega]
    · by_cases c2 : B + (i + 1) ≤ x ∧ x < B + N
      · rw [if_pos c2, if_pos (by omega), upd_other _ _ (by omega)]
      · rw [if_neg c2, if_neg (by omega), upd_other _ _ c1]
theorem cntB {a N w A B : Nat} {body : Nat → GT → GT} (hAB : A = B ∨ A + N * w ≤ B ∨ B + N * w ≤ A) (hb : ∀ i g, i < N → ∀ x, body i g a x = if B + i * w ≤ x ∧ x < B + i * w + w then g a (A + (x - B)) else g a x) : ∀ (j i : Nat) (g : GT), j + i = N → ∀ x, cnt body j i g a x = if B + i * w ≤ x ∧ x < B + N * w then g a (A + (x - B)) else g a x := by
  intro j
  induction j with
  | zero =>
    intro i g h x
    have e : i = N := by omega
    subst e
    rw [if_neg (by omega)]; rfl
  | succ j ih =>
    intro i g h x
    show cnt body j (i + 1) (body i g) a x = _
    have e1 : (i + 1) * w = i * w + w := Nat.succ_mul i w
    have e2 : (i + 1) * w ≤ N * w := Nat.mul_le_mul_right w (by omega)
    rw [ih (i + 1) _ (by omega)]
    by_cases c1 : B + i * w ≤ x ∧ x < B + i * w + w
    · rw [if_neg (by omega), hb i g (by omega), if_pos c1, if_pos (by omega)]
    · by_cases c2 : B + (i + 1) * w ≤ x ∧ x < B + N * w
      · rw [if_pos c2, if_pos (by omega), hb i g (by omega), if_neg]
        rintro ⟨z1, z2⟩
        rcases hAB with q | q | q
        · subst q; omega
        · omega
        · omega
      · rw [if_neg c2, if_neg (by omega), hb i g (by omega), if_neg c1]
theorem cpQ_n (x1 x2 : Int32) (q : Nat) (g : GT) {a : Nat} (ha : a = 2 ∨ a = 3 ∨ a = 4 ∨ a = 7) : cpQ x1 x2 q g a = cpA x1 x2 q g a := by
  unfold cpQ
  rw [cnt_frame (body := cpD _ _) (a := a) (fun i g => up_other _ _ (by omega)), cnt_frame (body := cpC _ _) (a := a) (fun i g => up_other _ _ (by omega)), cnt_frame (body := cpB _ _) (a := a) (fun i g => up_other _ _ (by omega))]
theorem dsj {a b N : Nat} : a * N = b * N ∨ a * N + N ≤ b * N ∨ b * N + N ≤ a * N := by
  rcases Nat.lt_trichotomy a b with c | c | c
  · have := Nat.mul_le_mul_right N (show a + 1 ≤ b from c)
    rw [Nat.succ_mul] at this
    exact Or.inr (Or.inl this)
  · exact Or.inl (by rw [c])
  · have := Nat.mul_le_mul_right N (show b + 1 ≤ a from c)
    rw [Nat.succ_mul] at this
    exact Or.inr (Or.inr this)
section CP
variable {a b : Nat}
theorem cp_2 (ha : a ≤ 9) (hb : b ≤ 9) (g : GT) (x : Nat) : cnt (cpQ (nI a) (nI b)) 61 0 g 2 x = if b * 61 ≤ x ∧ x < b * 61 + 61 then vp_nar .boolean (g 2 (a * 61 + (x - b * 61))) else g 2 x := by
  rw [cntU (A := a * 61) (B := b * 61) (N := 61) (V := vp_nar .boolean) dsj (fun i g hi => by
    rw [cpQ_n _ _ _ _ (by decide)]
    unfold cpA
    rw [up_other _ _ (by decide), up_other _ _ (by decide), up_other _ _ (by decide), up_same, nI_61 hb hi, nI_61 ha hi]) 61 0 g rfl x, Nat.add_zero]
theorem cp_3 (ha : a ≤ 9) (hb : b ≤ 9) (g : GT) (x : Nat) : cnt (cpQ (nI a) (nI b)) 61 0 g 3 x = if b * 61 ≤ x ∧ x < b * 61 + 61 then g 3 (a * 61 + (x - b * 61)) else g 3 x := by
  rw [cntU (A := a * 61) (B := b * 61) (N := 61) (V := id) dsj (fun i g hi => by
    rw [cpQ_n _ _ _ _ (by decide)]
    unfold cpA
    rw [up_other _ _ (by decide), up_other _ _ (by decide), up_same, nI_61 hb hi, nI_61 ha hi]; rfl) 61 0 g rfl x, Nat.add_zero]; rfl
theorem cp_4 (ha : a ≤ 9) (hb : b ≤ 9) (g : GT) (x : Nat) : cnt (cpQ (nI a) (nI b)) 61 0 g 4 x = if b * 61 ≤ x ∧ x < b * 61 + 61 then g 4 (a * 61 + (x - b * 61)) else g 4 x := by
  rw [cntU (A := a * 61) (B := b * 61) (N := 61) (V := id) dsj (fun i g hi => by
    rw [cpQ_n _ _ _ _ (by decide)]
    unfold cpA
    rw [up_other _ _ (by decide), up_same, nI_61 hb hi, nI_61 ha hi]; rfl) 61 0 g rfl x, Nat.add_zero]; rfl
theorem cp_7 (ha : a ≤ 9) (hb : b ≤ 9) (g : GT) (x : Nat) : cnt (cpQ (nI a) (nI b)) 61 0 g 7 x = if b * 61 ≤ x ∧ x < b * 61 + 61 then g 7 (a * 61 + (x - b * 61)) else g 7 x := by
  rw [cntU (A := a * 61) (B := b * 61) (N := 61) (V := id) dsj (fun i g hi => by
    rw [cpQ_n _ _ _ _ (by decide)]
    unfold cpA
    rw [up_same, nI_61 hb hi, nI_61 ha hi]; rfl) 61 0 g rfl x, Nat.add_zero]; rfl
theorem row61 {m q : Nat} (hm : m ≤ 9) (hq : q < 61) : nI m * 61 + nI q = nI (m * 61 + q) := by
  rw [show (61 : Int32) = nI 61 from rfl, pk_mul, nI_add]
theorem cp_5 (ha : a ≤ 9) (hb : b ≤ 9) (g : GT) (x : Nat) : cnt (cpQ (nI a) (nI b)) 61 0 g 5 x = if b * 122 ≤ x ∧ x < b * 122 + 122 then g 5 (a * 122 + (x - b * 122)) else g 5 x := by
  rw [cntB (A := a * 122) (B := b * 122) (N := 61) (w := 2) dsj (fun q g hq x => by
    have h0 : cpA (nI a) (nI b) q g 5 = g 5 := by
      unfold cpA
      rw [up_other _ _ (by decide), up_other _ _ (by decide), up_other _ _ (by decide), up_other _ _ (by decide), up_other _ _ (by decide)]
    unfold cpQ
    rw [cnt_frame (body := cpD _ _) (a := 5) (fun i g => up_other _ _ (by decide)), cnt_frame (body := cpC _ _) (a := 5) (fun i g => up_other _ _ (by decide)), row61 ha hq, row61 hb hq]
    rw [cntU (A := (a * 61 + q) * 2) (B := (b * 61 + q) * 2) (N := 2) (V := id) (by omega) (fun i g hi => by
      show va_up g 5 _ 5 = _
      rw [up_same, show (2 : Int32) = nI 2 from rfl, pk_mul, pk_mul, nI_add, nI_add, nI_clamp (by omega), nI_clamp (by omega), Nat.mul_comm 2, Nat.mul_comm 2]; rfl) 2 0 _ rfl x, h0]
    show (if _ then g 5 _ else g 5 x) = _
    by_cases c : b * 122 + q * 2 ≤ x ∧ x < b * 122 + q * 2 + 2
    · rw [if_pos (by omega), if_pos c, show (a * 61 + q) * 2 + (x - (b * 61 + q) * 2) = a * 122 + (x - b * 122) by omega]
    · rw [if_neg (by omega), if_neg c]) 61 0 g rfl x]
  rw [Nat.zero_mul, Nat.add_zero]
theorem cp_6 (ha : a ≤ 9) (hb : b ≤ 9) (g : GT) (x : Nat) : cnt (cpQ (nI a) (nI b)) 61 0 g 6 x = if b * 1464 ≤ x ∧ x < b * 1464 + 1464 then g 6 (a * 1464 + (x - b * 1464)) else g 6 x := by
  rw [cntB (A := a * 1464) (B := b * 1464) (N := 61) (w := 24) dsj (fun q g hq x => by
    have h0 : cnt (cpB (nI a * 61 + nI q) (nI b * 61 + nI q)) 2 0 (cpA (nI a) (nI b) q g) 6 = g 6 := by
      rw [cnt_frame (body := cpB _ _) (a := 6) (fun i g => up_other _ _ (by decide))]
      unfold cpA
      rw [up_other _ _ (by decide), up_other _ _ (by decide), up_other _ _ (by decide), up_other _ _ (by decide), up_other _ _ (by decide)]
    unfold cpQ
    rw [cnt_frame (body := cpD _ _) (a := 6) (fun i g => up_other _ _ (by decide))]
    rw [cntU (body := cpC (nI a * 61 + nI q) (nI b * 61 + nI q)) (A := (a * 61 + q) * 24) (B := (b * 61 + q) * 24) (N := 24) (V := id) (by omega) (fun i g hi => by
      show va_up g 6 _ 6 = _
      rw [up_same, row61 ha hq, row61 hb hq, show (2 : Int32) = nI 2 from rfl, show (12 : Int32) = nI 12 from rfl, pk_mul, pk_mul, pk_mul, pk_mul, nI_add, nI_add, nI_clamp (by omega), nI_clamp (by omega), show (b * 61 + q) * 2 * 12 = (b * 61 + q) * 24 by omega, show (a * 61 + q) * 2 * 12 = (a * 61 + q) * 24 by omega]; rfl) 24 0 _ rfl x, h0]
    show (if _ then g 6 _ else g 6 x) = _
    by_cases c : b * 1464 + q * 24 ≤ x ∧ x < b * 1464 + q * 24 + 24
    · rw [if_pos (by omega), if_pos c, show (a * 61 + q) * 24 + (x - (b * 61 + q) * 24) = a * 1464 + (x - b * 1464) by omega]
    · rw [if_neg (by omega), if_neg c]) 61 0 g rfl x]
  rw [Nat.zero_mul, Nat.add_zero]
theorem cp_8 (ha : a ≤ 9) (hb : b ≤ 9) (g : GT) (x : Nat) : cnt (cpQ (nI a) (nI b)) 61 0 g 8 x = if b * 1464 ≤ x ∧ x < b * 1464 + 1464 then g 8 (a * 1464 + (x - b * 1464)) else g 8 x := by
  rw [cntB (A := a * 1464) (B := b * 1464) (N := 61) (w := 24) dsj (fun q g hq x => by
    have h0 : cnt (cpC (nI a * 61 + nI q) (nI b * 61 + nI q)) 24 0 (cnt (cpB (nI a * 61 + nI q) (nI b * 61 + nI q)) 2 0 (cpA (nI a) (nI b) q g)) 8 = g 8 := by
      rw [cnt_frame (body := cpC _ _) (a := 8) (fun i g => up_other _ _ (by decide)), cnt_frame (body := cpB _ _) (a := 8) (fun i g => up_other _ _ (by decide))]
      unfold cpA
      rw [up_other _ _ (by decide), up_other _ _ (by decide), up_other _ _ (by decide), up_other _ _ (by decide), up_other _ _ (by decide)]
    unfold cpQ
    rw [cntU (body := cpD (nI a * 61 + nI q) (nI b * 61 + nI q)) (A := (a * 61 + q) * 24) (B := (b * 61 + q) * 24) (N := 24) (V := id) (by omega) (fun i g hi => by
      show va_up g 8 _ 8 = _
      rw [up_same, row61 ha hq, row61 hb hq, show (6 : Int32) = nI 6 from rfl, show (4 : Int32) = nI 4 from rfl, pk_mul, pk_mul, pk_mul, pk_mul, nI_add, nI_add, nI_clamp (by omega), nI_clamp (by omega), show (b * 61 + q) * 6 * 4 = (b * 61 + q) * 24 by omega, show (a * 61 + q) * 6 * 4 = (a * 61 + q) * 24 by omega]; rfl) 24 0 _ rfl x, h0]
    show (if _ then g 8 _ else g 8 x) = _
    by_cases c : b * 1464 + q * 24 ≤ x ∧ x < b * 1464 + q * 24 + 24
    · rw [if_pos (by omega), if_pos c, show (a * 61 + q) * 24 + (x - (b * 61 + q) * 24) = a * 1464 + (x - b * 1464) by omega]
    · rw [if_neg (by omega), if_neg c]) 61 0 g rfl x]
  rw [Nat.zero_mul, Nat.add_zero]
theorem cpK_n (x1 x2 : Int32) (q : Nat) (g : GT) {a : Nat} (ha : a = 10 ∨ a = 11) : cpK x1 x2 q g a = cpE x1 x2 q g a := by
  unfold cpK
  rw [cnt_frame (body := cpF _ _) (a := a) (fun i g => up_other _ _ (by omega))]
theorem cp_10 (ha : a ≤ 9) (hb : b ≤ 9) (g : GT) (x : Nat) : cnt (cpK (nI a) (nI b)) 10 0 g 10 x = if b * 10 ≤ x ∧ x < b * 10 + 10 then g 10 (a * 10 + (x - b * 10)) else g 10 x := by
  rw [cntU (A := a * 10) (B := b * 10) (N := 10) (V := id) dsj (fun i g hi => by
    rw [cpK_n _ _ _ _ (by decide)]
    unfold cpE
    rw [up_other _ _ (by decide), up_same, nI_10 hb hi, nI_10 ha hi]; rfl) 10 0 g rfl x, Nat.add_zero]; rfl
theorem cp_11 (ha : a ≤ 9) (hb : b ≤ 9) (g : GT) (x : Nat) : cnt (cpK (nI a) (nI b)) 10 0 g 11 x = if b * 10 ≤ x ∧ x < b * 10 + 10 then g 11 (a * 10 + (x - b * 10)) else g 11 x := by
  rw [cntU (A := a * 10) (B := b * 10) (N := 10) (V := id) dsj (fun i g hi => by
    rw [cpK_n _ _ _ _ (by decide)]
    unfold cpE
    rw [up_same, nI_10 hb hi, nI_10 ha hi]; rfl) 10 0 g rfl x, Nat.add_zero]; rfl
theorem row10 {m q : Nat} (hm : m ≤ 9) (hq : q < 10) : nI m * 10 + nI q = nI (m * 10 + q) := by
  rw [show (10 : Int32) = nI 10 from rfl, pk_mul, nI_add]
theorem cp_12 (ha : a ≤ 9) (hb : b ≤ 9) (g : GT) (x : Nat) : cnt (cpK (nI a) (nI b)) 10 0 g 12 x = if b * 840 ≤ x ∧ x < b * 840 + 840 then g 12 (a * 840 + (x - b * 840)) else g 12 x := by
  rw [cntB (A := a * 840) (B := b * 840) (N := 10) (w := 84) dsj (fun q g hq x => by
    have h0 : cpE (nI a) (nI b) q g 12 = g 12 := by
      unfold cpE
      rw [up_other _ _ (by decide), up_other _ _ (by decide), up_other _ _ (by decide)]
    unfold cpK
    rw [cntU (body := cpF (nI a * 10 + nI q) (nI b * 10 + nI q)) (A := (a * 10 + q) * 84) (B := (b * 10 + q) * 84) (N := 84) (V := id) (by omega) (fun i g hi => by
      show va_up g 12 _ 12 = _
      rw [up_same, row10 ha hq, row10 hb hq, show (84 : Int32) = nI 84 from rfl, pk_mul, pk_mul, nI_add, nI_add, nI_clamp (by omega), nI_clamp (by omega)]; rfl) 84 0 _ rfl x, h0]
    show (if _ then g 12 _ else g 12 x) = _
    by_cases c : b * 840 + q * 84 ≤ x ∧ x < b * 840 + q * 84 + 84
    · rw [if_pos (by omega), if_pos c, show (a * 10 + q) * 84 + (x - (b * 10 + q) * 84) = a * 840 + (x - b * 840) by omega]
    · rw [if_neg (by omega), if_neg c]) 10 0 g rfl x]
  rw [Nat.zero_mul, Nat.add_zero]
end CP
