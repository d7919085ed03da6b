-- the reference's read: first questions of the kinds
theorem rd_tape9 {t c e : Nat} {d : Int32} {g : GT} (hc : c ≤ e) (he : e ≤ 8) (ht : t ≤ 400) (hb : ∀ n, ¬ g 0 n < 0) : ∀ R, kTape false (g 0) t = some R → ∀ k, k < 10 → (R.2 k = none → psG (rdP t c e d g) 9 ((e + 1) * 10 + k) = g 9 (c * 10 + k)) ∧ (∀ d9, R.2 k = some d9 → psG (rdP t c e d g) 9 ((e + 1) * 10 + k) = d9.1 ∧ ∃ m, d9.1 = nI m ∧ 1 ≤ m ∧ m ≤ 60) := by
  have g0 := rdG_0 c e g
  have h := RL t (e + 1) (rdG c e g) ht (by omega) (by rw [g0]; exact hb) 400 402 (fun _ => none, fun _ => none) (0, none, d, rdG c e g) rfl ⟨fun p q => (nomatch q), Nat.zero_le _, fun _ => Nat.zero_le _⟩ (by show t ≤ 0 + 400; omega) (by decide) (rdG_RG g)
  rw [← kTape_st]
  rw [g0] at h
  unfold rdP
  generalize hPP : pRL t (e + 1) 402 (0, none, d, rdG c e g) = PP at h ⊢
  intro R e1 k hk
  obtain ⟨-, h2⟩ := h.1 R e1
  rcases h2.2.2.1 k hk with ⟨q1, q2, q3⟩ | ⟨d9, q1, q2, q3, q4⟩
  · refine ⟨fun _ => ?_, fun d9 z => by rw [q1] at z; cases z⟩
    rw [q3, rdG_9 hc he, if_pos (by omega), show c * 10 + ((e + 1) * 10 + k - (e + 1) * 10) = c * 10 + k by omega]
  · refine ⟨fun z => (by rw [q1] at z; cases z), fun d8 z => ?_⟩
    rw [q1] at z
    cases z
    exact ⟨q3, q4⟩
