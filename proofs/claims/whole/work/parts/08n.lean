/-! ===== allowed, holds, end, buyer, who, alike ===== -/
theorem all_l : ∀ m, m < 9 → ((256 : Int32) ||| (((1 : Int32) <<< (nI m &&& 31)) - (1 : Int32))) = nI (256 + (2 ^ m - 1)) := by decide +kernel
theorem bset_full {p : Nat → Bool} {n : Nat} : bset p n = 2 ^ n - 1 ↔ allB p n = true := by
  constructor
  · intro h
    apply allB_t
    intro k hk
    have := congrArg (fun z => z.testBit k) h
    simp only [bset_bit, Nat.testBit_two_pow_sub_one] at this
    simpa [hk] using this
  · intro h
    apply Nat.eq_of_testBit_eq
    intro i
    rw [bset_bit, Nat.testBit_two_pow_sub_one]
    by_cases hi : i < n
    · simp [hi, allB_iff.mp h i hi]
    · simp [hi]
theorem m_allLaws {d : Nat} {M : Mm} {B : Bk} (hG : Gd M) (hB : BK M B) : go (d + 1) 187 0 [.ref 171] [] M = some (some (.int (nI (256 + (2 ^ nlB B - 1)))), M) := by
  have hn := BK_nn hB
  have c4 : gI M 171 8 = nI (nlB B) := hB.1.2.2.2.1
  rw [q187_0, if_pos (ok_171 hG), c4, all_l _ (by omega)]
/-- the number of what holds of a kind -/
def hoB (B : Bk) (k : Nat) : Nat := bset (fun l => B.2.1 l k) (nlB B) + (if trB B k then 256 else 0)
theorem p8 {n : Nat} (h : n ≤ 8) : (2 : Nat) ^ n ≤ 256 ∧ 1 ≤ (2 : Nat) ^ n := ⟨Nat.pow_le_pow_right (by omega) h, Nat.one_le_two_pow⟩
theorem hoB_lt {B : Bk} (h : nlB B ≤ 8) (k : Nat) : hoB B k < 512 := by
  have := bset_lt (fun l => B.2.1 l k) (nlB B)
  have := p8 h
  unfold hoB
  split <;> omega
theorem hoB_all {B : Bk} (h : nlB B ≤ 8) {k : Nat} (hk : k < 2 ^ nmB B) : hoB B k = 256 + (2 ^ nlB B - 1) ↔ alB B k = true := by
  have h1 := bset_lt (fun l => B.2.1 l k) (nlB B)
  have h2 := p8 h
  have e := bset_full (p := fun l => B.2.1 l k) (n := nlB B)
  unfold hoB alB lwsB
  by_cases ht : trB B k = true
  · rw [if_pos ht, ht]
    simp only [hk, decide_true, Bool.true_and]
    rw [← e]; omega
  · rw [if_neg ht]
    simp only [ht, Bool.and_false, Bool.false_and, Bool.false_eq_true, iff_false]
    omega
theorem m_isAllowed {d : Nat} {M : Mm} {B : Bk} {k : Nat} (hG : Gd M) (hB : BK M B) (hk : k < 2 ^ nmB B) : go (d + 2) 188 0 [.ref 171, .int (nI k)] [] M = some (some (.int (b2i (alB B k))), M) := by
  have hn := BK_nn hB
  have hp := p10 hn.1
  have h2 := p8 hn.2.1
  have o := ok_171 hG
  have h5 : gI M 189 k = nI (hoB B k) := hB.2.2.2.1.2.2.2.2.1 k hk
  have hl := hoB_lt hn.2.1 k
  simp only [q188_0, o, if_true, gr_171_37 hG, rk_189 hG (show k < 1024 by omega), m_allLaws hG hB, bI_s, nI_clamp (show k < 2 ^ 31 by omega), h5]
  cases ha : alB B k with
  | true => rw [if_pos (congrArg nI ((hoB_all hn.2.1 hk).mpr ha))]; rfl
  | false =>
    rw [if_neg (fun z => ?_)]
    · rfl
    · rw [nI_eq (by omega) (by omega), hoB_all hn.2.1 hk, ha] at z
      cases z
theorem c_has_al {d : Nat} {M : Mm} {B : Bk} {k : Nat} (hG : Gd M) (hB : BK M B) (hk : k < 1024) : go (d + 1) 43 0 [.ref 127, .int (nI k)] [] M = some (some (.int (b2i (alB B k))), M) := by
  rw [ks_has (KS_allowed hG) hk, hB.2.2.2.1.2.1 k hk]
theorem b2i_r (b : Bool) {M : Mm} : (if b = false then (some (some (Value.int (0 : Int32)), M) : Oo) else some (some (Value.int (1 : Int32)), M)) = some (some (.int (b2i b)), M) := by
  cases b <;> rfl
theorem op_allowed {E M : Mm} {B : Bk} {d : Nat} (hI : Inv E M B) (x : Int32) : Alike E M (d + 3) 120 190 [.ref 1, .int x] [.ref 171, .int x] := by
  have hN := thr hI
  have hG := hI.1
  have hG' : Gd (sI M 171 0 0) := hG
  have hB := hI.2.2.2.2.2.2.1
  have hB' := hN.2.2.2.2.2.2.1
  have hn := BK_nn hB
  have hp := p10 hn.1
  have o := ok_171 hG'
  have o1 := ok_1 hG
  have r2 := gr_1_2 hG
  have o5 := ok_5 hG
  cases h : inR (2 ^ nmB B) x with
  | false =>
    refine Alike_q hI (-1000001) M (sI M 171 0 0) ?_ Sm_refl ?_ sm0
    · simp only [q120_0, o1, r2, o5, if_true, c_isKind hG (BK_c hB), bI_s, b2i0, h]
    · rw [q190_0, if_pos (ok_171 hG), bM_d, if_pos o, m_isKind hG' (BK_c hB'), bI_s]
      simp only [b2i0, h, if_true]
  | true =>
    obtain ⟨k, hk, rfl⟩ := inR_n (by omega) h
    refine Alike_q hI (b2i (alB B k)) M (sI M 171 0 0) ?_ Sm_refl ?_ sm0
    · simp only [q120_0, o1, r2, o5, if_true, c_isKind hG (BK_c hB), bI_s, b2i0, h, Bool.true_eq_false, if_false, gr_1_4 hG, ok_126 hG, gr_126_0 hG, ok_127 hG, c_has_al hG hB (show k < 1024 by omega), b2i_r]
    · rw [q190_0, if_pos (ok_171 hG), bM_d, if_pos o, m_isKind hG' (BK_c hB'), bI_s, h, if_neg (by decide), if_pos o, m_isAllowed hG' hB' hk, bI_s]
      simp only [b2i0, b2i_r]
theorem b2iN (b : Bool) : b2i b = nI b.toNat := by cases b <;> rfl
theorem hoB_bit {B : Bk} (h : nlB B ≤ 8) {k l : Nat} (hl : l < nlB B) : (hoB B k).testBit l = B.2.1 l k := by
  have h1 := bset_lt (fun l => B.2.1 l k) (nlB B)
  have h2 := p8 h
  unfold hoB
  by_cases ht : trB B k = true
  · rw [if_pos ht, show bset (fun l => B.2.1 l k) (nlB B) + 256 = 2 ^ 8 * 1 + bset (fun l => B.2.1 l k) (nlB B) by omega, Nat.testBit_two_pow_mul_add _ (by omega), if_pos (by omega), bset_bit]
    simp [hl]
  · rw [if_neg ht, Nat.add_zero, bset_bit]
    simp [hl]
theorem op_holds {E M : Mm} {B : Bk} {d : Nat} (hI : Inv E M B) (x y z : Int32) : Alike E M (d + 3) 121 191 [.ref 1, .int x, .int y, .int z] [.ref 171, .int x, .int y, .int z] := by
  have hN := thr hI
  have hG := hI.1
  have hG' : Gd (sI M 171 0 0) := hG
  have hB := hI.2.2.2.2.2.2.1
  have hB' := hN.2.2.2.2.2.2.1
  have hn := BK_nn hB
  have hp := p10 hn.1
  have h2 := p8 hn.2.1
  have o := ok_171 hG'
  have o1 := ok_1 hG
  have r2 := gr_1_2 hG
  have o5 := ok_5 hG
  have g37 : gR (sI M 171 0 0) 171 37 = 189 := gr_171_37 hG
  have g38 : gR (sI M 171 0 0) 171 38 = 190 := gr_171_38 hG
  have c3 : gI M 5 1 = nI (nlB B) := hB.1.2.2.1
  have c4 : gI (sI M 171 0 0) 171 8 = nI (nlB B) := hB'.1.2.2.2.1
  have c6 : gI (sI M 171 0 0) 171 9 = nI (nnB B) := hB'.1.2.2.2.2.2.1
  have i2 : go (d + 2) 154 0 [.long x.toInt64, .null, .long (0 : Int64), .null, .long (1 : Int64), .null] [] (sI M 171 0 0) = some (some (.int (b2i (inR 2 x))), sI M 171 0 0) := by
    rw [show (1 : Int64) = (1 : Int32).toInt64 from rfl, m_inR (n := 2) rfl]
  have il : go (d + 2) 154 0 [.long y.toInt64, .null, .long (0 : Int64), .null, .long ((nI (nlB B) - (1 : Int32)).toInt64), .null] [] (sI M 171 0 0) = some (some (.int (b2i (inR (nlB B) y))), sI M 171 0 0) := m_inR (subm1 (by omega))
  have ii : go (d + 2) 154 0 [.long y.toInt64, .null, .long (0 : Int64), .null, .long ((nI (nnB B) - (1 : Int32)).toInt64), .null] [] (sI M 171 0 0) = some (some (.int (b2i (inR (nnB B) y))), sI M 171 0 0) := m_inR (subm1 (by omega))
  have ik := m_isKind (d := d) hG' (BK_c hB') z
  have ck := c_isKind (d := d) hG (BK_c hB) z
  cases h : inR (2 ^ nmB B) z with
  | false =>
    refine Alike_q hI (-1000001) M (sI M 171 0 0) ?_ Sm_refl ?_ sm0
    · simp only [q121_0, o1, r2, o5, if_true, ck, bI_s, b2i0, h]
    · simp only [q191_0, ok_171 hG, o, if_true, bM_d, i2, il, ii, ik, bI_s, b2i0, h, c4, c6]
      repeat' split
      all_goals rfl
  | true =>
    obtain ⟨k, hk, rfl⟩ := inR_n (by omega) h
    have hl := hoB_lt hn.2.1 k
    have h5 : gI (sI M 171 0 0) 189 k = nI (hoB B k) := hB'.2.2.2.1.2.2.2.2.1 k hk
    have h6 : gI (sI M 171 0 0) 190 k = nI (bset (fun i => B.2.2 i k) (nnB B)) := hB'.2.2.2.1.2.2.2.2.2 k hk
    have ckk := nI_clamp (n := k) (by omega)
    have rk9 := rk_189 hG' (show k < 1024 by omega)
    have rk0 := rk_190 hG' (show k < 1024 by omega)
    by_cases a0 : x = 0
    · subst a0
      have e2 : inR 2 (0 : Int32) = true := by decide
      cases hy : inR (nlB B) y with
      | false =>
        refine Alike_q hI (-1000001) M (sI M 171 0 0) ?_ Sm_refl ?_ sm0
        · simp only [q121_0, o1, r2, o5, if_true, ck, bI_s, b2i0, h, Bool.true_eq_false, if_false, c3]
          rw [inR_c (n := nlB B) (by omega) rfl, hy]
          rw [cond_false, q121_55, if_neg (by decide)]
        · simp only [q191_0, ok_171 hG, o, if_true, bM_d, i2, il, ik, bI_s, b2i0, e2, hy, Bool.true_eq_false, if_false, c4]
      | true =>
        obtain ⟨l, hlt, rfl⟩ := inR_n (by omega) hy
        have hs := ks_has (d := d + 1) (KS_law hG (i := l) (by omega)) (show k < 1024 by omega)
        rw [hB.2.2.2.1.2.2.1 l hlt k (by omega)] at hs
        refine Alike_q hI (b2i (B.2.1 l k)) M (sI M 171 0 0) ?_ Sm_refl ?_ sm0
        · simp only [q121_0, o1, r2, o5, if_true, ck, bI_s, b2i0, h, Bool.true_eq_false, if_false, c3, nI_pos (show l < 2 ^ 31 by omega), nI_leI (show nlB B < 2 ^ 31 by omega) (show l < 2 ^ 31 by omega), show ¬ nlB B ≤ l by omega, gr_5_6 hG, rk_8 hG (show l < 8 by omega), nI_clamp (show l < 2 ^ 31 by omega), gr_law hG (show l < 8 by omega), ok_law hG (show l < 8 by omega), hs, b2i_r]
        · simp only [q191_0, ok_171 hG, o, if_true, bM_d, i2, il, ik, bI_s, b2i0, e2, hy, h, Bool.true_eq_false, if_false, c4, g37, rk9, ckk, h5, bitN (show hoB B k < 2 ^ 31 by omega) (show l < 31 by omega), hoB_bit hn.2.1 hlt, ← b2iN]
    · by_cases a1 : x = 1
      · subst a1
        have e2 : inR 2 (1 : Int32) = true := by decide
        have cl := c_isLine (d := d + 1) hG (BK_c hB) y
        cases hy : inR (nnB B) y with
        | false =>
          refine Alike_q hI (-1000001) M (sI M 171 0 0) ?_ Sm_refl ?_ sm0
          · simp only [q121_0, q121_55, o1, r2, o5, if_true, ck, bI_s, b2i0, h, Bool.true_eq_false, if_false, a0, cl, hy]
          · simp only [q191_0, ok_171 hG, o, if_true, bM_d, i2, ii, ik, bI_s, b2i0, e2, hy, Bool.true_eq_false, if_false, c6, a0]
        | true =>
          obtain ⟨i, hi, rfl⟩ := inR_n (by omega) hy
          have hs := ks_has (d := d + 1) (KS_line hG (i := i) (by omega)) (show k < 1024 by omega)
          rw [hB.2.2.2.1.2.2.2.1 i hi k (by omega)] at hs
          have hb : (bset (fun i => B.2.2 i k) (nnB B)).testBit i = B.2.2 i k := by rw [bset_bit]; simp [hi]
          refine Alike_q hI (b2i (B.2.2 i k)) M (sI M 171 0 0) ?_ Sm_refl ?_ sm0
          · simp only [q121_0, q121_55, o1, r2, o5, if_true, ck, bI_s, b2i0, h, Bool.true_eq_false, if_false, a0, cl, hy, gr_5_7 hG, rk_9 hG (show i < 24 by omega), nI_clamp (show i < 2 ^ 31 by omega), gr_line hG (show i < 24 by omega), ok_line hG (show i < 24 by omega), gr_lineS hG (show i < 24 by omega), ok_say hG (show i < 24 by omega), hs, b2i_r]
          · simp only [q191_0, ok_171 hG, o, if_true, bM_d, i2, ii, ik, bI_s, b2i0, e2, hy, h, Bool.true_eq_false, if_false, c6, a0, g38, rk0, ckk, h6, bitN (bs31 _ (show nnB B ≤ 31 by omega)) (show i < 31 by omega), hb, ← b2iN]
      · have e2 : inR 2 x = false := by
          cases e : inR 2 x
          · rfl
          · obtain ⟨j, hj, rfl⟩ := inR_n (by omega) e
            rcases (show j = 0 ∨ j = 1 by omega) with rfl | rfl
            · exact absurd rfl a0
            · exact absurd rfl a1
        refine Alike_q hI (-1000001) M (sI M 171 0 0) ?_ Sm_refl ?_ sm0
        · simp only [q121_0, q121_55, o1, r2, o5, if_true, ck, bI_s, b2i0, h, Bool.true_eq_false, if_false, a0, a1]
        · simp only [q191_0, ok_171 hG, o, if_true, bM_d, i2, bI_s, b2i0, e2]
