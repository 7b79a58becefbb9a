/-! ===== the law's loop: round and round ===== -/
theorem lt6 {L x : Nat} (hL : L ≤ 3072) (hx : x ≤ 4000) : (Int32.ofNat L - (6 : Int32) < nI x) ↔ L < x + 6 := by
  have e : (Int32.ofNat L - (6 : Int32)).toInt = (L : Int) - 6 := by
    rw [Int32.toInt_sub, show (Int32.ofNat L).toInt = (L : Int) from nI_toInt (by omega), show ((6 : Int32)).toInt = 6 from rfl]
    apply Int.bmod_eq_of_le <;> omega
  rw [Int32.lt_iff_toInt_lt, e, nI_toInt (by omega)]
  omega
theorem law_loop {E : Mm} {L : Nat} (hE : TXT E) (hL : gR E 4000 0 = L) (h31 : L ≤ 3072) : ∀ (m x : Nat) (M : Mm) (B : Bk), Inv E M B → L < x + 6 * m + 6 → x ≤ 3078 → ∃ M', gN M' = 197 ∧ go 60 249 18 [.ref 4000, .ref 1, .ref 171, .int (nI x)] [] M = some (some (.int 1), M') := by
  intro m
  induction m with
  | zero =>
    intro x M B hI hx hx2
    have e : aLen M 4000 = L := by
      show gR M 4000 0 = L
      rw [(hI.2.1 4000 (by omega)).2.2]; exact hL
    refine ⟨M, hI.1.1, ?_⟩
    rw [q249_18, if_pos (ok4 M), e, if_pos ((lt6 h31 (by omega)).mpr (by omega))]
  | succ m ih =>
    intro x M B hI hx hx2
    have e : aLen M 4000 = L := by
      show gR M 4000 0 = L
      rw [(hI.2.1 4000 (by omega)).2.2]; exact hL
    by_cases h6 : L < x + 6
    · refine ⟨M, hI.1.1, ?_⟩
      rw [q249_18, if_pos (ok4 M), e, if_pos ((lt6 h31 (by omega)).mpr h6)]
    · have K : ∀ pc, (∃ M2 B', go 60 249 pc [.ref 4000, .ref 1, .ref 171, .int (nI x)] [] M = go 60 249 18 [.ref 4000, .ref 1, .ref 171, .int (nI (x + 6))] [] M2 ∧ Inv E M2 B') → ∃ M', gN M' = 197 ∧ go 60 249 pc [.ref 4000, .ref 1, .ref 171, .int (nI x)] [] M = some (some (.int 1), M') := fun pc h => by
        obtain ⟨M2, B', h1, h2⟩ := h
        rw [h1]
        exact ih (x + 6) M2 B' h2 (by omega) (by omega)
      rw [q249_18, if_pos (ok4 M), e, if_neg (fun z => h6 ((lt6 h31 (by omega)).mp z)), if_pos (rd4 hI.2.1 hL (show x < L by omega) (by omega))]
      by_cases c0 : ((gI M 4000 (nI x).toNatClampNeg) &&& (63 : Int32)) = (0 : Int32)
      · rw [if_pos c0]; exact K 180 (law_180 hI hE hL (by omega) h31)
      rw [if_neg c0]
      by_cases c1 : ((gI M 4000 (nI x).toNatClampNeg) &&& (63 : Int32)) = (1 : Int32)
      · rw [if_pos c1]; exact K 223 (law_223 hI hE hL (by omega) h31)
      rw [if_neg c1]
      by_cases c2 : ((gI M 4000 (nI x).toNatClampNeg) &&& (63 : Int32)) = (2 : Int32)
      · rw [if_pos c2]; exact K 266 (law_266 hI hE hL (by omega) h31)
      rw [if_neg c2]
      by_cases c3 : ((gI M 4000 (nI x).toNatClampNeg) &&& (63 : Int32)) = (3 : Int32)
      · rw [if_pos c3]; exact K 329 (law_329 hI hE hL (by omega) h31)
      rw [if_neg c3]
      by_cases c4 : ((gI M 4000 (nI x).toNatClampNeg) &&& (63 : Int32)) = (4 : Int32)
      · rw [if_pos c4]; exact K 352 (law_352 hI hE hL (by omega) h31)
      rw [if_neg c4]
      by_cases c5 : ((gI M 4000 (nI x).toNatClampNeg) &&& (63 : Int32)) = (5 : Int32)
      · rw [if_pos c5]; exact K 415 (law_415 hI hE hL (by omega) h31)
      rw [if_neg c5]
      by_cases c6 : ((gI M 4000 (nI x).toNatClampNeg) &&& (63 : Int32)) = (6 : Int32)
      · rw [if_pos c6]; exact K 428 (law_428 hI hE hL (by omega) h31)
      rw [if_neg c6]
      by_cases c7 : ((gI M 4000 (nI x).toNatClampNeg) &&& (63 : Int32)) = (7 : Int32)
      · rw [if_pos c7]; exact K 441 (law_441 hI hE hL (by omega) h31)
      rw [if_neg c7]
      by_cases c8 : ((gI M 4000 (nI x).toNatClampNeg) &&& (63 : Int32)) = (8 : Int32)
      · rw [if_pos c8]; exact K 464 (law_464 hI hE hL (by omega) h31)
      rw [if_neg c8]
      by_cases c9 : ((gI M 4000 (nI x).toNatClampNeg) &&& (63 : Int32)) = (9 : Int32)
      · rw [if_pos c9]; exact K 507 (law_507 hI hE hL (by omega) h31)
      rw [if_neg c9]
      by_cases c10 : ((gI M 4000 (nI x).toNatClampNeg) &&& (63 : Int32)) = (10 : Int32)
      · rw [if_pos c10]; exact K 520 (law_520 hI hE hL (by omega) h31)
      rw [if_neg c10]
      by_cases c11 : ((gI M 4000 (nI x).toNatClampNeg) &&& (63 : Int32)) = (11 : Int32)
      · rw [if_pos c11]; exact K 543 (law_543 hI hE hL (by omega) h31)
      rw [if_neg c11]
      by_cases c12 : ((gI M 4000 (nI x).toNatClampNeg) &&& (63 : Int32)) = (12 : Int32)
      · rw [if_pos c12]; exact K 586 (law_586 hI hE hL (by omega) h31)
      rw [if_neg c12]
      by_cases c13 : ((gI M 4000 (nI x).toNatClampNeg) &&& (63 : Int32)) = (13 : Int32)
      · rw [if_pos c13]; exact K 609 (law_609 hI hE hL (by omega) h31)
      rw [if_neg c13]
      by_cases c14 : ((gI M 4000 (nI x).toNatClampNeg) &&& (63 : Int32)) = (14 : Int32)
      · rw [if_pos c14]; exact K 642 (law_642 hI hE hL (by omega) h31)
      rw [if_neg c14]
      by_cases c15 : ((gI M 4000 (nI x).toNatClampNeg) &&& (63 : Int32)) = (15 : Int32)
      · rw [if_pos c15]; exact K 665 (law_665 hI hE hL (by omega) h31)
      rw [if_neg c15]
      by_cases c16 : ((gI M 4000 (nI x).toNatClampNeg) &&& (63 : Int32)) = (16 : Int32)
      · rw [if_pos c16]; exact K 688 (law_688 hI hE hL (by omega) h31)
      rw [if_neg c16]
      by_cases c17 : ((gI M 4000 (nI x).toNatClampNeg) &&& (63 : Int32)) = (17 : Int32)
      · rw [if_pos c17]; exact K 721 (law_721 hI hE hL (by omega) h31)
      rw [if_neg c17]
      by_cases c18 : ((gI M 4000 (nI x).toNatClampNeg) &&& (63 : Int32)) = (18 : Int32)
      · rw [if_pos c18]; exact K 764 (law_764 hI hE hL (by omega) h31)
      rw [if_neg c18]
      by_cases c19 : ((gI M 4000 (nI x).toNatClampNeg) &&& (63 : Int32)) = (19 : Int32)
      · rw [if_pos c19]; exact K 817 (law_817 hI hE hL (by omega) h31)
      rw [if_neg c19]
      by_cases c20 : ((gI M 4000 (nI x).toNatClampNeg) &&& (63 : Int32)) = (20 : Int32)
      · rw [if_pos c20]; exact K 840 (law_840 hI hE hL (by omega) h31)
      rw [if_neg c20]
      by_cases c21 : ((gI M 4000 (nI x).toNatClampNeg) &&& (63 : Int32)) = (21 : Int32)
      · rw [if_pos c21]; exact K 873 (law_873 hI hE hL (by omega) h31)
      rw [if_neg c21]
      by_cases c22 : ((gI M 4000 (nI x).toNatClampNeg) &&& (63 : Int32)) = (22 : Int32)
      · rw [if_pos c22]; exact K 896 (law_896 hI hE hL (by omega) h31)
      rw [if_neg c22]
      by_cases c23 : ((gI M 4000 (nI x).toNatClampNeg) &&& (63 : Int32)) = (23 : Int32)
      · rw [if_pos c23]; exact K 929 (law_929 hI hE hL (by omega) h31)
      rw [if_neg c23]
      by_cases c24 : ((gI M 4000 (nI x).toNatClampNeg) &&& (63 : Int32)) = (24 : Int32)
      · rw [if_pos c24]; exact K 972 (law_972 hI hE hL (by omega) h31)
      rw [if_neg c24]
      by_cases c25 : ((gI M 4000 (nI x).toNatClampNeg) &&& (63 : Int32)) = (25 : Int32)
      · rw [if_pos c25]; exact K 1015 (law_1015 hI hE hL (by omega) h31)
      rw [if_neg c25]
      by_cases c26 : ((gI M 4000 (nI x).toNatClampNeg) &&& (63 : Int32)) = (26 : Int32)
      · rw [if_pos c26]; exact K 1038 (law_1038 hI hE hL (by omega) h31)
      rw [if_neg c26]
      by_cases c27 : ((gI M 4000 (nI x).toNatClampNeg) &&& (63 : Int32)) = (27 : Int32)
      · rw [if_pos c27]; exact K 1071 (law_1071 hI hE hL (by omega) h31)
      rw [if_neg c27]
      by_cases c28 : ((gI M 4000 (nI x).toNatClampNeg) &&& (63 : Int32)) = (28 : Int32)
      · rw [if_pos c28]; exact K 1094 (law_1094 hI hE hL (by omega) h31)
      rw [if_neg c28]
      by_cases c29 : ((gI M 4000 (nI x).toNatClampNeg) &&& (63 : Int32)) = (29 : Int32)
      · rw [if_pos c29]; exact K 1127 (law_1127 hI hE hL (by omega) h31)
      rw [if_neg c29]
      by_cases c30 : ((gI M 4000 (nI x).toNatClampNeg) &&& (63 : Int32)) = (30 : Int32)
      · rw [if_pos c30]; exact K 1160 (law_1160 hI hE hL (by omega) h31)
      rw [if_neg c30]
      by_cases c31 : ((gI M 4000 (nI x).toNatClampNeg) &&& (63 : Int32)) = (31 : Int32)
      · rw [if_pos c31]; exact K 1183 (law_1183 hI hE hL (by omega) h31)
      rw [if_neg c31]
      by_cases c32 : ((gI M 4000 (nI x).toNatClampNeg) &&& (63 : Int32)) = (32 : Int32)
      · rw [if_pos c32]; exact K 1206 (law_1206 hI hE hL (by omega) h31)
      rw [if_neg c32]
      exact K 1219 ⟨M, B, by rw [q249_1219, show nI x + (6 : Int32) = nI (x + 6) from nI_add x 6], hI⟩
