/-! ===== counts of bits, nearest ===== -/
def pcN (n : Nat) : Nat := fb_ct (fun i => n.testBit i) 10
theorem pcN_le (n : Nat) : pcN n ≤ 10 := fb_ct_le _ _
theorem pc_cut {n m : Nat} (h : n < 1024) (hm : 10 ≤ m) : fb_ct (fun i => n.testBit i) m = pcN n := ct_cut hm (fun i h1 _ => tb_big (n := 10) h (by omega))
theorem bcI {d : Nat} {M : Mm} {n : Nat} (h : n < 1024) : go (d + 1) 238 0 [.int (nI n)] [] M = some (some (.int (nI (pcN n))), M) := by
  rw [bitCountI n (by omega), pc_cut h (by omega)]
theorem m_bits {d : Nat} {M : Mm} {n : Nat} (h : n < 1024) : go (d + 1) 198 0 [.int (nI n), .null, .null] [] M = some (some (.int (nI (pcN n))), M) := by
  rw [q198_0, show (0 : Int32) = nI 0 from rfl]
  obtain ⟨s, s1, s2⟩ := loopI (σ := Int32) (fun k s => go (d + 1) 198 4 [.int (nI n), .int s, .int (nI k)] [] M) (fun k s => s = nI (fb_ct (fun i => n.testBit i) k)) 24 (fun k s hk hs => by
    subst hs
    refine ⟨_, ?_, rfl⟩
    try dsimp only
    rw [q198_4, if_neg (by rw [show (24 : Int32) = nI 24 from rfl, nI_leI (by omega) (by omega)]; omega), bitN (by omega) (by omega), nI_add, nI_1, fb_ct_succ]
    cases n.testBit k <;> rfl) 24 0 (nI 0) (by omega) rfl
  try dsimp only at s1
  rw [s1, q198_4, if_pos (by decide), s2, pc_cut h (by omega)]
theorem xor_lt {a b : Nat} (ha : a < 1024) (hb : b < 1024) : a ^^^ b < 1024 := Nat.xor_lt_two_pow (n := 10) ha hb
theorem optI_none' {n : Nat} (h : n ≤ 2 ^ 30) : optI n = -1000000 ↔ n = 0 := by
  unfold optI
  by_cases h0 : n = 0
  · simp [h0]
  · rw [if_neg h0]
    constructor
    · intro e
      have := congrArg Int32.toInt e
      rw [nI_toInt (by omega), show ((-1000000 : Int32)).toInt = -1000000 from rfl] at this
      omega
    · intro e; exact absurd e h0
theorem optI_s (n : Nat) : optI (n + 1) = nI n := by rw [optI, if_neg (by omega)]; rfl
/-- the nearest kind: 0 none, else the kind and 1 -/
def nrF (B : Bk) (x : Nat) : Nat → Nat
  | 0 => 0
  | k + 1 => if alB B k && (decide (nrF B x k = 0) || decide (pcN (k ^^^ x) < pcN ((nrF B x k - 1) ^^^ x))) then k + 1 else nrF B x k
theorem nrF_le (B : Bk) (x : Nat) : ∀ n, nrF B x n ≤ n
  | 0 => Nat.le_refl _
  | n + 1 => by
    have := nrF_le B x n
    simp only [nrF]
    split <;> omega
theorem c_nearestTo {d : Nat} {M : Mm} {B : Bk} {x : Nat} (hG : Gd M) (hB : BK M B) (hx : x < 2 ^ nmB B) : go (d + 2) 67 0 [.ref 126, .int (nI x), .null, .null, .null] [] M = some (some (.int (optI (nrF B x (2 ^ nmB B)))), M) := by
  have hn := BK_nn hB
  have hp := p10 hn.1
  have am := c_allMarks (d := d) hG (BK_c hB)
  rw [q67_0, show (0 : Int32) = nI 0 from rfl]
  obtain ⟨⟨s, t⟩, s1, s2, s3⟩ := loopI (σ := Int32 × Int32) (fun k s => go (d + 2) 67 9 [.ref 126, .int (nI x), .int s.1, .int s.2, .int (nI k)] [] M) (fun k s => s.1 = optI (nrF B x k) ∧ s.2 = nI (if nrF B x k = 0 then 11 else pcN ((nrF B x k - 1) ^^^ x))) (2 ^ nmB B) (fun k s hk hs => by
    obtain ⟨s, t⟩ := s
    obtain ⟨rfl, rfl⟩ := hs
    refine ⟨(optI (nrF B x (k + 1)), nI (if nrF B x (k + 1) = 0 then 11 else pcN ((nrF B x (k + 1) - 1) ^^^ x))), ?_, rfl, rfl⟩
    try dsimp only
    have hl := pcN_le (k ^^^ x)
    have hl2 := pcN_le ((nrF B x k - 1) ^^^ x)
    have hb : (if nrF B x k = 0 then 11 else pcN ((nrF B x k - 1) ^^^ x)) < 2 ^ 31 := by split <;> omega
    rw [q67_9, if_pos (ok_126 hG), gr_126_4 hG, if_pos (ok_5 hG), am, bI_s, if_neg (by rw [nI_ltI (by omega) (by omega)]; omega), if_pos (ok_126 hG), gr_126_0 hG, if_pos (ok_127 hG), c_has_al hG hB (by omega), bI_s, fb_xorI, bcI (xor_lt (by omega) (by omega))]
    simp only [b2i0, bI_s, nI_leI hb (show pcN (k ^^^ x) < 2 ^ 31 by omega), nI_1]
    have hd : nrF B x (k + 1) = if alB B k && (decide (nrF B x k = 0) || decide (pcN (k ^^^ x) < pcN ((nrF B x k - 1) ^^^ x))) then k + 1 else nrF B x k := rfl
    cases ha : alB B k with
    | false =>
      rw [if_pos rfl, hd, ha]
      simp
    | true =>
      rw [if_neg (by decide)]
      by_cases h0 : nrF B x k = 0
      · have e1 : nrF B x (k + 1) = k + 1 := by rw [hd, ha]; simp [h0]
        rw [if_neg (by rw [if_pos h0]; omega), e1, if_neg (by omega), optI_s, bcI (xor_lt (by omega) (by omega)), bI_s]
        rfl
      · by_cases h1 : pcN (k ^^^ x) < pcN ((nrF B x k - 1) ^^^ x)
        · have e1 : nrF B x (k + 1) = k + 1 := by rw [hd, ha]; simp [h1]
          rw [if_neg (by rw [if_neg h0]; omega), e1, if_neg (by omega), optI_s, bcI (xor_lt (by omega) (by omega)), bI_s]
          rfl
        · have e1 : nrF B x (k + 1) = nrF B x k := by rw [hd, ha]; simp [h0, h1]
          rw [if_pos (by rw [if_neg h0]; omega), e1]) (2 ^ nmB B) 0 (-1000000, 11) (by omega) ⟨rfl, rfl⟩
  try dsimp only at s1 s2 s3
  rw [s1, q67_9, if_pos (ok_126 hG), gr_126_4 hG, if_pos (ok_5 hG), am, bI_s, if_pos (by rw [nI_ltI (by omega) (by omega)]; omega), s2]
theorem m_nearest {d : Nat} {M : Mm} {B : Bk} {x : Nat} (hG : Gd M) (hB : BK M B) (hx : x < 2 ^ nmB B) : go (d + 3) 199 21 [.ref 171, .int (nI x), .int ((-1000000) : Int32), .int (0 : Int32)] [] M = some (some (.int (optI (nrF B x (2 ^ nmB B)))), M) := by
  have hn := BK_nn hB
  have hp := p10 hn.1
  have o := ok_171 hG
  have c9 : gI M 171 36 = nI (2 ^ nmB B) := hB.1.2.2.2.2.2.2.2.2.1
  rw [show (0 : Int32) = nI 0 from rfl]
  obtain ⟨s, s1, s2⟩ := loopI (σ := Int32) (fun k s => go (d + 3) 199 21 [.ref 171, .int (nI x), .int s, .int (nI k)] [] M) (fun k s => s = optI (nrF B x k)) (2 ^ nmB B) (fun k s hk hs => by
    subst hs
    refine ⟨_, ?_, rfl⟩
    try dsimp only
    have hl := pcN_le (k ^^^ x)
    have hl2 := pcN_le ((nrF B x k - 1) ^^^ x)
    have hle := nrF_le B x k
    have hd : nrF B x (k + 1) = if alB B k && (decide (nrF B x k = 0) || decide (pcN (k ^^^ x) < pcN ((nrF B x k - 1) ^^^ x))) then k + 1 else nrF B x k := rfl
    rw [q199_21, if_pos o, c9, if_neg (by rw [nI_leI (by omega) (by omega)]; omega), if_pos o, m_isAllowed hG hB hk, bI_s, nI_1]
    simp only [b2i0, optI_none' (show nrF B x k ≤ 2 ^ 30 by omega)]
    cases ha : alB B k with
    | false =>
      rw [if_pos rfl, hd, ha]
      simp
    | true =>
      rw [if_neg (by decide)]
      by_cases h0 : nrF B x k = 0
      · have e1 : nrF B x (k + 1) = k + 1 := by rw [hd, ha]; simp [h0]
        rw [if_pos h0, e1, optI_s]
      · rw [if_neg h0, optI_pos h0, fb_xorI, fb_xorI, m_bits (xor_lt (by omega) (by omega)), bI_s, m_bits (xor_lt (by omega) (by omega)), bI_s]
        simp only [nI_leI (show pcN ((nrF B x k - 1) ^^^ x) < 2 ^ 31 by omega) (show pcN (k ^^^ x) < 2 ^ 31 by omega)]
        by_cases h1 : pcN (k ^^^ x) < pcN ((nrF B x k - 1) ^^^ x)
        · have e1 : nrF B x (k + 1) = k + 1 := by rw [hd, ha]; simp [h1]
          rw [if_neg (by omega), e1, optI_s]
        · have e1 : nrF B x (k + 1) = nrF B x k := by rw [hd, ha]; simp [h0, h1]
          rw [if_pos (by omega), e1, optI_pos h0]) (2 ^ nmB B) 0 (-1000000) (by omega) rfl
  try dsimp only at s1
  rw [s1, q199_21, if_pos o, c9, if_pos (by rw [nI_leI (by omega) (by omega)]; omega), s2]
theorem op_nearest {E M : Mm} {B : Bk} {d : Nat} (hI : Inv E M B) (x : Int32) : Alike E M (d + 3) 125 199 [.ref 1, .int x] [.ref 171, .int x, .null, .null] := by
  have hG := hI.1
  have hB := hI.2.2.2.2.2.2.1
  have hB' := (thr hI).2.2.2.2.2.2.1
  have hn := BK_nn hB
  have hp := p10 hn.1
  have o1 := ok_1 hG
  have ik := m_isKind (d := d) (M := sI M 171 0 0) hG (BK_c hB') x
  have ck := c_isKind (d := d) hG (BK_c hB) x
  cases h : inR (2 ^ nmB B) x with
  | false =>
    refine Alike_q hI (-1000001) M (sI M 171 0 0) ?_ Sm_refl ?_ sm0
    · simp only [q125_0, o1, gr_1_2 hG, ok_5 hG, if_true, ck, bI_s, b2i0, h]
    · simp only [q199_0, ok_171 hG, okO_sI, if_true, bM_d, ik, bI_s, b2i0, h]
  | true =>
    obtain ⟨k, hk, rfl⟩ := inR_n (by omega) h
    refine Alike_q hI (optI (nrF B k (2 ^ nmB B))) M (sI M 171 0 0) ?_ Sm_refl ?_ sm0
    · simp only [q125_0, o1, gr_1_2 hG, ok_5 hG, if_true, ck, bI_s, b2i0, h, Bool.true_eq_false, if_false, gr_1_4 hG, ok_126 hG, c_nearestTo hG hB hk]
    · simp only [q199_0, ok_171 hG, okO_sI, if_true, bM_d, ik, bI_s, b2i0, h, Bool.true_eq_false, if_false]
      exact m_nearest (d := d) (M := sI M 171 0 0) hG hB' hk
