/-! ===== feed: a byte of a word ===== -/
theorem feed_b (w : Int64) {k : Nat} (hk : k < 8) : ∃ v, v < 256 ∧ (((w.toUInt64 >>> ((nI (8 * k)).toInt64.toUInt64 &&& Int64.toUInt64 63)).toInt64).toInt32).toInt8.toInt32 = (nI v).toInt8.toInt32 ∧ ((w >>> ((nI (8 * k)).toInt64 &&& 63)) &&& (255 : Int64)).toInt32 = nI v := by
  obtain ⟨n, hn, rfl⟩ := wb_of w
  have e1 : ((lN n).toUInt64 >>> ((nI (8 * k)).toInt64.toUInt64 &&& Int64.toUInt64 63)).toInt64 = lN (n / 2 ^ (8 * k)) := wb_shr hn (by omega)
  have e2 : ((lN n) >>> ((nI (8 * k)).toInt64 &&& 63)) &&& (255 : Int64) = lN (n / 2 ^ (8 * k) % 256) := by
    rw [wb_c (8 * k) (by omega)]
    apply wb_inj
    apply BitVec.eq_of_getLsbD_eq
    intro i hi
    have hs : ((BitVec.ofNat 64 (8 * k)).smod 64).toNat = 8 * k := by
      rw [wb_sm (8 * k) (by omega), BitVec.toNat_ofNat, Nat.mod_eq_of_lt (by omega)]
    rw [show ((lN n >>> lN (8 * k)) &&& (255 : Int64)).toBitVec = (lN n).toBitVec.sshiftRight ((BitVec.ofNat 64 (8 * k)).smod 64).toNat &&& (255 : BitVec 64) from rfl, hs, BitVec.getLsbD_and, BitVec.getLsbD_sshiftRight, wb_tb, wb_tb]
    simp only [BitVec.getLsbD_ofNat]
    have h255 : (255 : BitVec 64).getLsbD i = decide (i < 8) := by
      rw [show (255 : BitVec 64) = BitVec.ofNat 64 (2 ^ 8 - 1) from rfl, BitVec.getLsbD_ofNat, Nat.testBit_two_pow_sub_one]
      by_cases h : i < 8
      · simp [h, hi]
      · simp [h]
    rw [h255]
    by_cases h8 : i < 8
    · rw [if_pos (by omega), show (256 : Nat) = 2 ^ 8 from rfl, Nat.testBit_mod_two_pow, ← Nat.shiftRight_eq_div_pow, Nat.testBit_shiftRight]
      simp [h8, hi, show 8 * k + i < 64 by omega]
    · rw [show (256 : Nat) = 2 ^ 8 from rfl, Nat.testBit_mod_two_pow]
      simp [h8]
  refine ⟨n / 2 ^ (8 * k) % 256, Nat.mod_lt _ (by omega), ?_, ?_⟩
  · rw [e1, lN_i, ← fa_byte_low (nI (n / 2 ^ (8 * k))), show (255 : Int32) = nI (2 ^ 8 - 1) from rfl, fa_mask]
  · rw [e2, lN_i]
