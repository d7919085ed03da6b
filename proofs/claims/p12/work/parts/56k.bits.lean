-- one byte of a sign, shifted with its sign or without
theorem b255 (i : Nat) (hi : i < 32) (h8 : ¬ i < 8) : (Int32.toBitVec 255).getLsbD i = false := by
  have h : ∀ i : Fin 32, ¬ i.1 < 8 → (Int32.toBitVec 255).getLsbD i.1 = false := by decide +kernel
  exact h ⟨i, hi⟩ h8
theorem sgB_bits (b : Int64) (s : UInt64) (s' : Int64) (n : Nat) (hs : s.toBitVec = BitVec.ofNat 64 n) (hs' : s'.toBitVec = BitVec.ofNat 64 n) (hn : n ≤ 56) : ((b.toUInt64 >>> s).toInt64.toInt32) &&& 255 = ((b >>> s').toInt32) &&& (255 : Int32) := by
  apply Int32.toBitVec_inj.mp
  rw [Int32.toBitVec_and, Int32.toBitVec_and, Int64.toBitVec_toInt32, Int64.toBitVec_toInt32]
  show BitVec.signExtend 32 ((b.toUInt64 >>> s).toBitVec) &&& _ = _
  rw [UInt64.toBitVec_shiftRight, Int64.toBitVec_shiftRight, hs, hs']
  have e1 : (BitVec.ofNat 64 n).toNat = n := by rw [BitVec.toNat_ofNat]; omega
  apply BitVec.eq_of_getLsbD_eq
  intro i hi
  rw [BitVec.getLsbD_and, BitVec.getLsbD_and]
  by_cases h8 : i < 8
  · congr 1
    rw [BitVec.getLsbD_signExtend, BitVec.getLsbD_signExtend]
    have hi64 : i < 64 := by omega
    simp only [hi, hi64, decide_true, Bool.true_and, if_true]
    have m1 : (BitVec.ofNat 64 n % 64#64) = BitVec.ofNat 64 n := by
      apply BitVec.eq_of_toNat_eq
      rw [BitVec.toNat_umod, e1]
      exact Nat.mod_eq_of_lt (by show n < 64; omega)
    have m2 : (BitVec.ofNat 64 n).smod 64#64 = BitVec.ofNat 64 n := by
      have h : ∀ n : Fin 57, (BitVec.ofNat 64 n.1).smod 64#64 = BitVec.ofNat 64 n.1 := by decide +kernel
      exact h ⟨n, by omega⟩
    show (b.toBitVec >>> (BitVec.ofNat 64 n % 64#64)).getLsbD i = (b.toBitVec.sshiftRight' ((BitVec.ofNat 64 n).smod 64#64)).getLsbD i
    rw [m1, m2, show b.toBitVec.sshiftRight' (BitVec.ofNat 64 n) = b.toBitVec.sshiftRight (BitVec.ofNat 64 n).toNat from rfl, e1, BitVec.getLsbD_sshiftRight, BitVec.ushiftRight_eq', e1, BitVec.getLsbD_ushiftRight]
    have h1 : ¬ 64 ≤ i := by omega
    have h2 : n + i < 64 := by omega
    simp [h1, h2]
  · rw [b255 i hi h8, Bool.and_false, Bool.and_false]

theorem sgB_eq (b : Int64) (j : Nat) (hj : j ≤ 7) : ((((b.toUInt64 >>> ((8 * nI j).toInt64.toUInt64 &&& Int64.toUInt64 63)).toInt64).toInt32) &&& 255) = sgB b j := by
  unfold sgB
  rcases (show j = 0 ∨ j = 1 ∨ j = 2 ∨ j = 3 ∨ j = 4 ∨ j = 5 ∨ j = 6 ∨ j = 7 by omega) with rfl | rfl | rfl | rfl | rfl | rfl | rfl | rfl
  · exact sgB_bits b _ _ 0 (by decide +kernel) (by decide +kernel) (by decide)
  · exact sgB_bits b _ _ 8 (by decide +kernel) (by decide +kernel) (by decide)
  · exact sgB_bits b _ _ 16 (by decide +kernel) (by decide +kernel) (by decide)
  · exact sgB_bits b _ _ 24 (by decide +kernel) (by decide +kernel) (by decide)
  · exact sgB_bits b _ _ 32 (by decide +kernel) (by decide +kernel) (by decide)
  · exact sgB_bits b _ _ 40 (by decide +kernel) (by decide +kernel) (by decide)
  · exact sgB_bits b _ _ 48 (by decide +kernel) (by decide +kernel) (by decide)
  · exact sgB_bits b _ _ 56 (by decide +kernel) (by decide +kernel) (by decide)
theorem and255 (x : Int32) : ¬ (x &&& 255) < 0 := by
  rw [Int32.not_lt]
  apply Int32.le_iff_toInt_le.mpr
  have e : (x &&& 255).toBitVec.msb = false := by
    rw [Int32.toBitVec_and, BitVec.msb_and]
    have : (Int32.toBitVec 255).msb = false := by decide +kernel
    rw [this, Bool.and_false]
  show (0 : Int32).toInt ≤ (x &&& 255).toBitVec.toInt
  rw [BitVec.toInt_eq_msb_cond, e]
  simp
