-- what the class's parser reads, as pure words
abbrev TD : Type := Int32 × Int32 × Int32
abbrev CD : Type := List TD × Int32
abbrev KD : Type := Int32 × Int32 × List CD
abbrev JD : Type := Int32 × Int32 × Int32 × Int32
abbrev WD : Type := Nat × (Nat → Int32)
abbrev QD : Type := Int32 × (Int32 × Int32) × WD × WD × List JD × JD
abbrev RD : Type := (Nat → Option QD) × (Nat → Option KD)
section KP
variable (st : Bool) (g0 : Nat → Int32) (L : Nat)
def kNum (a b : Int32) (n : Nat) : Option (Nat × Nat) := if (¬ dg (tp g0 L (sN g0 L n)) = 0 ∧ ¬ inV (nI (nR g0 L n).1) a b = 0) ∧ ¬ (st = true ∧ (nR g0 L n).2.2 = 4 ∧ ¬ dg (tp g0 L (nR g0 L n).2.1) = 0) then some ((nR g0 L n).1, (nR g0 L n).2.1) else none
def kTake (c : Int32) (n : Nat) : Option Nat := if tp g0 L (sN g0 L n) = c then some (sN g0 L n + 1) else none
def kSpan (n : Nat) : Option ((Int32 × Int32) × Nat) := (kNum st g0 L 0 9999 n).bind fun r => (kTake g0 L 45 r.2).bind fun m => (kNum st g0 L (nI r.1) 9999 m).bind fun s => some ((nI r.1, nI s.1), s.2)
def kPts (n : Nat) : Option (Int32 × Nat) := if tp g0 L (sN g0 L n) = 43 then (kNum st g0 L 0 999 (sN g0 L n + 1)).bind fun p => some (nI p.1, p.2) else some (0, sN g0 L n)
def kJump (n : Nat) : Option ((Int32 × Int32) × Nat) := (kTake g0 L 62 n).bind fun m => (kNum st g0 L 0 60 m).bind fun t => (kPts st g0 L t.2).bind fun p => some ((nI t.1, p.1), p.2)
def kRel (ab : Int32) (n : Nat) : Option (TD × Nat) := if tp g0 L (sN g0 L n) = 60 ∨ tp g0 L (sN g0 L n) = 62 ∨ (tp g0 L (sN g0 L n) = 61 ∧ ¬ ab = 0) then (kNum st g0 L 0 9999 (sN g0 L n + 1)).bind fun v => some ((ab, tp g0 L (sN g0 L n), nI v.1), v.2) else none
def kTerm (n : Nat) : Option (TD × Nat) := if tp g0 L (sN g0 L n) = 112 then kRel st g0 L 0 (sN g0 L n + 1) else (kTake g0 L 113 (sN g0 L n)).bind fun m => (kNum st g0 L 1 60 m).bind fun v => kRel st g0 L (nI v.1) v.2
def kTerms : Nat → Nat → List TD → Option (List TD × Nat)
  | 0, n, xs => some (xs, n)
  | j + 1, n, xs => if tp g0 L (sN g0 L n) = 38 then (kTerm st g0 L (sN g0 L n + 1)).bind fun r => kTerms j r.2 (xs ++ [r.1]) else some (xs, sN g0 L n)
def kCend (xs : List TD) (n : Nat) : Option (CD × Nat) := (kTake g0 L 58 n).bind fun m => (kNum st g0 L 0 9 m).bind fun v => (kTake g0 L 41 v.2).bind fun m2 => some ((xs, nI v.1), m2)
def kCond (n : Nat) : Option (CD × Nat) := (kTerm st g0 L n).bind fun r => (kTerms st g0 L 3 r.2 [r.1]).bind fun s => kCend st g0 L s.1 s.2
def kConds : Nat → Nat → List CD → Option (List CD × Nat)
  | 0, n, xs => some (xs, n)
  | j + 1, n, xs => if tp g0 L (sN g0 L n) = 40 then (kCond st g0 L (sN g0 L n + 1)).bind fun r => kConds j r.2 (xs ++ [r.1]) else some (xs, sN g0 L n)
def kKind3 (j : Nat) (f p : Int32) (n : Nat) : Option (Nat × KD × Nat) := (kConds st g0 L 6 n []).bind fun cs => (kTake g0 L 59 cs.2).bind fun m3 => some (j, (f, p, cs.1), m3)
def kKind2 (j : Nat) (n : Nat) : Option (Nat × KD × Nat) := (kTake g0 L 61 n).bind fun m => (kNum st g0 L 1 60 m).bind fun f => (kTake g0 L 58 f.2).bind fun m2 => (kNum st g0 L 0 9 m2).bind fun p => kKind3 st g0 L j (nI f.1) (nI p.1) p.2
def kKind (told : Nat → Bool) (n : Nat) : Option (Nat × KD × Nat) := (kNum st g0 L 1 9 n).bind fun q => if told q.1 = true then none else kKind2 st g0 L q.1 q.2
def wL : Nat → Nat → Nat → Nat
  | 0, _, i => i
  | k + 1, m, i => if m + i < L ∧ ¬ wbV (g0 (m + i)) = 0 then wL k m (i + 1) else i
def kWend (m i : Nat) : Option (WD × Nat) := if i = 0 ∨ ¬ m + i < L ∨ ¬ g0 (m + i) = 34 then none else some ((i, fun j => g0 (m + j)), m + i + 1)
def kWords (n : Nat) : Option (WD × Nat) := (kTake g0 L 34 n).bind fun m => kWend g0 L m (wL g0 L 12 m 0)
def kJumps : Nat → Nat → List JD → Option (List JD × Nat)
  | 0, n, xs => some (xs, n)
  | j + 1, n, xs => if ¬ dg (tp g0 L (sN g0 L n)) = 0 then (kSpan st g0 L (sN g0 L n)).bind fun s => (kJump st g0 L s.2).bind fun r => (kTake g0 L 44 r.2).bind fun m => kJumps j m (xs ++ [(s.1.1, s.1.2, r.1.1, r.1.2)]) else some (xs, sN g0 L n)
def kMust (n : Nat) : Option (Int32 × Nat) := if tp g0 L (sN g0 L n) = 33 then some (1, sN g0 L n + 1) else (kTake g0 L 63 (sN g0 L n)).bind fun m => some (0, m)
def kWb (wa : WD) (n : Nat) : Option (WD × Nat) := if tp g0 L (sN g0 L n) = 34 then kWords g0 L (sN g0 L n) else some (wa, sN g0 L n)
def kQ4 (j : Nat) (mu : Int32) (sp : Int32 × Int32) (wa wb : WD) (js : List JD) (n : Nat) : Option (Nat × QD × Nat) := (kJump st g0 L n).bind fun r => (kTake g0 L 59 r.2).bind fun m => some (j, (mu, sp, wa, wb, js, (-1, 9999, r.1.1, r.1.2)), m)
def kQ3 (j : Nat) (mu : Int32) (sp : Int32 × Int32) (wa wb : WD) (n : Nat) : Option (Nat × QD × Nat) := (kTake g0 L 58 n).bind fun m => (kJumps st g0 L 5 m []).bind fun js => kQ4 st g0 L j mu sp wa wb js.1 js.2
def kQ2 (j : Nat) (mu : Int32) (n : Nat) : Option (Nat × QD × Nat) := (kSpan st g0 L n).bind fun sp => (kWords g0 L sp.2).bind fun wa => (kWb g0 L wa.1 wa.2).bind fun wb => kQ3 st g0 L j mu sp.1 wa.1 wb.1 wb.2
def kQues (told : Nat → Bool) (n : Nat) : Option (Nat × QD × Nat) := (kNum st g0 L 1 60 n).bind fun q => if told q.1 = true then none else (kMust g0 L q.2).bind fun mu => kQ2 st g0 L q.1 mu.1 mu.2
def kRow (R : RD) (n : Nat) : Option (RD × Nat) := if tp g0 L (sN g0 L n) = 113 then (kQues st g0 L (fun j => (R.1 j).isSome) (sN g0 L n + 1)).bind fun q => some ((va_up R.1 q.1 (some q.2.1), R.2), q.2.2) else (kTake g0 L 107 (sN g0 L n)).bind fun m => (kKind st g0 L (fun j => (R.2 j).isSome) m).bind fun q => some ((R.1, va_up R.2 q.1 (some q.2.1)), q.2.2)
def kRows : Nat → Nat → RD → Option RD
  | 0, _, R => some R
  | k + 1, n, R => if tp g0 L (sN g0 L n) = -1 then some R else (kRow st g0 L R (sN g0 L n)).bind fun q => kRows k q.2 q.1
def kTape : Option RD := kRows st g0 L 400 0 (fun _ => none, fun _ => none)
end KP
theorem kNum_lt {st : Bool} {g0 : Nat → Int32} {L n v m : Nat} {a b : Int32} (h : kNum st g0 L a b n = some (v, m)) (hn : n ≤ L) : n + 1 ≤ m ∧ m ≤ L ∧ v < 10000 ∧ ¬ inV (nI v) a b = 0 := by
  unfold kNum at h
  split at h
  · rename_i q
    cases h
    exact ⟨Nat.le_trans (Nat.succ_le_succ (sN_ge g0 L n)) (nmL_one g0 L _ q.1.1), nR_le _ hn, nmL_v g0 L 4 0 (sN g0 L n) 0 rfl (by decide), q.1.2⟩
  · cases h
theorem kTake_lt {g0 : Nat → Int32} {L n m : Nat} {c : Int32} (h : kTake g0 L c n = some m) (hc : c ≠ -1) : n + 1 ≤ m ∧ m ≤ L := by
  unfold kTake at h
  split at h
  · rename_i q
    cases h
    exact ⟨Nat.succ_le_succ (sN_ge g0 L n), tp_lt (g0 := g0) (by rw [q]; exact hc)⟩
  · cases h
