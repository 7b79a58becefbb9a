/-! ===== as, count ===== -/
def Ls (r k : Nat) : Prop := Qs r k ∨ (r = 1 ∧ k = 11) ∨ (r = 171 ∧ k = 1)
theorem Inv_l {E M N : Mm} {B : Bk} (hI : Inv E M B) (h : Sm Ls QL M N) (hL : gI N 1 11 = gI N 171 1) : Inv E N B := by
  obtain ⟨a1, a2, a3, a4, a5, a6, a7, ⟨bk, bv, a8⟩, a9, a10⟩ := hI
  have hT := h.2.2.1
  refine ⟨Gd_Sm h a1, EXT_Sm (fun r k z => by unfold Ls Qs at z; omega) (fun r z => by unfold QL at z; omega) h a2, SHT_cong (fun r k z => hT r k (by unfold rdS at z; unfold Ls Qs; omega)) a3, TAP_cong (fun r k z => hT r k (by unfold rdT at z; unfold Ls Qs; omega)) a4, ⟨?_, hL⟩, TRC_cong (fun r k z => hT r k (by unfold rdC at z; unfold Ls Qs; omega)) a6, BK_cong (fun r k z => hT r k (by unfold rdB at z; unfold Ls Qs; omega)) (fun r z => h.2.2.2 r (by unfold rdL at z; unfold QL; omega)) a7, ⟨bk, bv, BUY_cong (fun r k z => hT r k (by unfold rdU at z; unfold Ls Qs; omega)) a8⟩, EC_cong (fun r k z => hT r k (by unfold rdE at z; unfold Ls Qs; omega)) a9, HC_cong (fun r k z => hT r k (by unfold rdH at z; unfold Ls Qs; omega)) a10⟩
  rw [hT 1 10 (by unfold Ls Qs; omega), hT 171 22 (by unfold Ls Qs; omega)]
  exact a5.1
theorem Sm_L {M N : Mm} (h : Sm Qs QL M N) : Sm Ls QL M N := Sm_mono (fun _ _ z => Or.inl z) (fun _ z => z) h
def tkB (t y : Nat) : Bool := decide (y = 0) || decide (y = t) || ((decide (t = 3) || decide (t = 4)) && decide (2 ≤ y) && decide (y < t))
theorem c_isTakenAs {d : Nat} {M : Mm} {t y : Nat} (ht : t < 6) (hy : y < 6) : go (d + 1) 1 0 [.int (nI t), .int (nI y), .null] [] M = some (some (.int (b2i (tkB t y))), M) := by
  rw [q1_0]
  rcases (show t = 0 ∨ t = 1 ∨ t = 2 ∨ t = 3 ∨ t = 4 ∨ t = 5 by omega) with rfl | rfl | rfl | rfl | rfl | rfl <;> rcases (show y = 0 ∨ y = 1 ∨ y = 2 ∨ y = 3 ∨ y = 4 ∨ y = 5 by omega) with rfl | rfl | rfl | rfl | rfl | rfl <;> rfl
theorem m_isOf {d : Nat} {M : Mm} {t y : Nat} (ht : t < 6) (hy : y < 6) : go (d + 1) 228 0 [.int (nI t), .int (nI y)] [] M = some (some (.int (b2i (tkB t y))), M) := by
  rw [q228_0]
  rcases (show t = 0 ∨ t = 1 ∨ t = 2 ∨ t = 3 ∨ t = 4 ∨ t = 5 by omega) with rfl | rfl | rfl | rfl | rfl | rfl <;> rcases (show y = 0 ∨ y = 1 ∨ y = 2 ∨ y = 3 ∨ y = 4 ∨ y = 5 by omega) with rfl | rfl | rfl | rfl | rfl | rfl <;> rfl
theorem op_as {E M : Mm} {B : Bk} {d : Nat} (hI : Inv E M B) (x y : Int32) : Alike E M (d + 5) 141 230 [.ref 1, .int x, .int y] [.ref 171, .int x, .int y] := by
  have hG := hI.1
  have hB := hI.2.2.2.2.2.2.1
  have hn := BK_nn hB
  have cl := c_isLine (d := d + 3) hG (BK_c hB) x
  have hB' := (thr hI).2.2.2.2.2.2.1
  have le5 : ((5 : Int32) < y) = (nI 6 ≤ y) := propext (lt_le1 (n := 5) (by omega))
  cases h : inR (nnB B) x with
  | false =>
    refine Alike_q hI (-1000001) M (sI M 171 0 0) ?_ Sm_refl ?_ sm0
    · simp only [q141_0, ok_1 hG, gr_1_2 hG, ok_5 hG, if_true, cl, bI_s, b2i0, h]
    · simp only [q230_0, ok_171 hG, okO_sI, if_true, bM_d, m_isLine (M := sI M 171 0 0) hG (BK_c hB'), bI_s, b2i0, h]
  | true =>
    have i6 : ∀ N, go (d + 4) 154 0 [.long y.toInt64, .null, .long (0 : Int64), .null, .long (5 : Int64), .null] [] N = some (some (.int (b2i (inR 6 y))), N) := fun N => by
      rw [show (5 : Int64) = (5 : Int32).toInt64 from rfl, m_inR (n := 6) rfl]
    cases h6 : inR 6 y with
    | false =>
      refine Alike_q hI (-1000001) M (sI M 171 0 0) ?_ Sm_refl ?_ sm0
      · simp only [q141_0, ok_1 hG, gr_1_2 hG, ok_5 hG, if_true, cl, bI_s, b2i0, h, Bool.true_eq_false, if_false]
        by_cases y0 : y < 0
        · rw [if_pos y0]
        · rw [if_neg y0, if_neg (fun z => ?_)]
          obtain ⟨j, hj, rfl⟩ := nI_of2 (x := y) (M := 5) (n := 5) rfl y0 z
          rw [inR_nI (by omega) (by omega)] at h6; cases h6
      · simp only [q230_0, ok_171 hG, okO_sI, if_true, bM_d, m_isLine (M := sI M 171 0 0) hG (BK_c hB'), bI_s, b2i0, h, Bool.true_eq_false, if_false, i6, h6]
    | true =>
      obtain ⟨i, hi, rfl⟩ := inR_n (by omega) h
      obtain ⟨t, ht, rfl⟩ := inR_n (by omega) h6
      obtain ⟨N, g, s, k⟩ := c_kindOfLine (d := d) hG hB hi
      have hS : Sm Qs QL M N := KSet_Sm k (by unfold QL; omega)
      have hIN := Inv_q hI hS
      have hGN := hIN.1
      have hd := kdB_in B i
      have t0 : nI t ≤ (5 : Int32) := (nI_leI (a := t) (b := 5) (by omega) (by omega)).mpr (by omega)
      cases hk : tkB (kdB B i) t with
      | false =>
        have hB1 : BK (sI (sI N 1 11 3) 171 0 0) B := BK_cong (M := N) (fun r k z => by rw [gI_ne (by unfold rdB at z; omega), gI_ne (by unfold rdB at z; omega)]) (fun _ _ => rfl) hIN.2.2.2.2.2.2.1
        have hB2 : BK (sI (sI (sI N 1 11 3) 171 0 0) 171 1 0) B := BK_cong (M := sI (sI N 1 11 3) 171 0 0) (fun r k z => by rw [gI_ne (by unfold rdB at z; omega)]) (fun _ _ => rfl) hB1
        refine ⟨-1000010 - 3, sI N 1 11 3, sI (sI (sI (sI N 1 11 3) 171 0 0) 171 1 0) 171 1 3, B, ?_, ?_, ?_⟩
        · simp only [q141_0, ok_1 hG, gr_1_2 hG, ok_5 hG, if_true, cl, bI_s, b2i0, h, Bool.true_eq_false, if_false, nI_pos (show t < 2 ^ 31 by omega), t0, gr_1_4 hG, ok_126 hG, s, c_isTakenAs (show kdB B i < 6 by omega) ht, hk, ok_1 hGN, c_found hGN]
        · simp only [q230_0, ok_171 hGN, okO_sI, if_true, bM_d, m_isLine (M := sI (sI N 1 11 3) 171 0 0) hGN (BK_c hB1), bI_s, b2i0, h, Bool.true_eq_false, if_false, i6, h6, m_kindOf (M := sI (sI (sI N 1 11 3) 171 0 0) 171 1 0) hGN hB2 hi, m_isOf (show kdB B i < 6 by omega) ht, hk, m_finding (M := sI (sI (sI N 1 11 3) 171 0 0) 171 1 0) hGN]
        · exact Inv_l hI (Sm_trans (Sm_L hS) (Sm_trans (Sm_sI (by unfold Ls Qs; omega)) (Sm_trans (Sm_sI (by unfold Ls Qs; omega)) (Sm_trans (Sm_sI (by unfold Ls Qs; omega)) (Sm_sI (by unfold Ls Qs; omega)))))) rfl
      | true =>
        have hB1 : BK (sI (sI N 1 11 0) 171 0 0) B := BK_cong (M := N) (fun r k z => by rw [gI_ne (by unfold rdB at z; omega), gI_ne (by unfold rdB at z; omega)]) (fun _ _ => rfl) hIN.2.2.2.2.2.2.1
        have hB2 : BK (sI (sI (sI N 1 11 0) 171 0 0) 171 1 0) B := BK_cong (M := sI (sI N 1 11 0) 171 0 0) (fun r k z => by rw [gI_ne (by unfold rdB at z; omega)]) (fun _ _ => rfl) hB1
        refine ⟨nI i, sI N 1 11 0, sI (sI (sI N 1 11 0) 171 0 0) 171 1 0, B, ?_, ?_, ?_⟩
        · simp only [q141_0, ok_1 hG, gr_1_2 hG, ok_5 hG, if_true, cl, bI_s, b2i0, h, Bool.true_eq_false, if_false, nI_pos (show t < 2 ^ 31 by omega), t0, gr_1_4 hG, ok_126 hG, s, c_isTakenAs (show kdB B i < 6 by omega) ht, hk, ok_1 hGN, c_fine hGN]
        · simp only [q230_0, ok_171 hGN, okO_sI, if_true, bM_d, m_isLine (M := sI (sI N 1 11 0) 171 0 0) hGN (BK_c hB1), bI_s, b2i0, h, Bool.true_eq_false, if_false, i6, h6, m_kindOf (M := sI (sI (sI N 1 11 0) 171 0 0) 171 1 0) hGN hB2 hi, m_isOf (show kdB B i < 6 by omega) ht, hk]
        · exact Inv_l hI (Sm_trans (Sm_L hS) (Sm_trans (Sm_sI (by unfold Ls Qs; omega)) (Sm_trans (Sm_sI (by unfold Ls Qs; omega)) (Sm_sI (by unfold Ls Qs; omega))))) rfl
theorem KSet_trans {M N O : Mm} {w : Nat} {g g2 : Nat → Bool} (h : KSet M N w g) (h2 : KSet N O w g2) : KSet M O w g2 := by
  obtain ⟨f, rfl, hf⟩ := h2
  exact KSet_w h hf
/-- how many sheets are there -/
def shC (M : Mm) : Nat := fb_ct (fun s => decide (¬ gI M 172 s = -1)) 8
theorem lane_c {M : Mm} (hS : SHT M) {s : Nat} (hs : s < 8) : gI M 172 s < 0 ↔ gI M 172 s = -1 := by
  obtain ⟨-, ⟨t, ht, e⟩, -⟩ := hS s hs
  rw [e]
  rcases (show t = 0 ∨ t = 1 ∨ t = 2 ∨ t = 3 by omega) with rfl | rfl | rfl | rfl <;> decide
theorem c_sheetsThere {d : Nat} {M : Mm} (hG : Gd M) (hS : SHT M) : go (d + 2) 152 0 [.ref 1, .null, .null] [] M = some (some (.int (nI (shC M))), M) := by
  rw [q152_0, show (0 : Int32) = nI 0 from rfl]
  obtain ⟨s, s1, s2⟩ := loopI (σ := Int32) (fun k s => go (d + 2) 152 4 [.ref 1, .int s, .int (nI k)] [] M) (fun k s => s = nI (fb_ct (fun s => decide (¬ gI M 172 s = -1)) k)) 8 (fun k s hk hs => by
    subst hs
    refine ⟨_, ?_, rfl⟩
    try dsimp only
    have e := (hS k hk).1
    rw [q152_4, if_neg (by rw [show (8 : Int32) = nI 8 from rfl, nI_leI (by omega) (by omega)]; omega), if_pos (ok_1 hG), gr_1_0 hG, if_pos (rk_2 hG hk), nI_clamp (by omega), gr_sheet hG hk, if_pos (ok_sheet hG hk), q99_0, if_pos (ok_sheet hG hk), e, fb_ct_succ, nI_1]
    by_cases h : gI M 172 k = -1
    · simp [h, bI_s, nI_1]
    · simp [h, bI_s, nI_1]) 8 0 (nI 0) (by omega) rfl
  try dsimp only at s1
  rw [s1, q152_4, if_pos (by decide), s2]
  rfl
theorem m_sheetsThere {d : Nat} {M : Mm} {x : Int32} (hG : Gd M) (hS : SHT M) : go (d + 1) 236 58 [.ref 171, .int x, .int (0 : Int32), .int (0 : Int32)] [] M = some (some (.int (nI (shC M))), M) := by
  rw [show (0 : Int32) = nI 0 from rfl]
  obtain ⟨s, s1, s2⟩ := loopI (σ := Int32) (fun k s => go (d + 1) 236 58 [.ref 171, .int x, .int s, .int (nI k)] [] M) (fun k s => s = nI (fb_ct (fun s => decide (¬ gI M 172 s = -1)) k)) 8 (fun k s hk hs => by
    subst hs
    refine ⟨_, ?_, rfl⟩
    try dsimp only
    rw [q236_58, if_neg (by rw [show (8 : Int32) = nI 8 from rfl, nI_leI (by omega) (by omega)]; omega), if_pos (ok_171 hG), gr_171_2 hG, if_pos (rk_172 hG hk), nI_clamp (by omega), fb_ct_succ, nI_1]
    simp only [lane_c hS hk]
    by_cases h : gI M 172 k = -1
    · simp [h, nI_1]
    · simp [h, nI_1]) 8 0 (nI 0) (by omega) rfl
  try dsimp only at s1
  rw [s1, q236_58, if_pos (by decide), s2]
  rfl
theorem c_patches {d : Nat} {M : Mm} {B : Bk} (hG : Gd M) (hB : BK M B) : go (d + 1) 22 0 [.ref 5, .null, .null] [] M = some (some (.int (nI (fb_ct (fun i => decide (B.1 3 i = 2)) (nnB B)))), M) := by
  have hn := BK_nn hB
  have c5 : gI M 5 2 = nI (nnB B) := hB.1.2.2.2.2.1
  rw [q22_0, show (0 : Int32) = nI 0 from rfl]
  obtain ⟨s, s1, s2⟩ := loopI (σ := Int32) (fun k s => go (d + 1) 22 4 [.ref 5, .int s, .int (nI k)] [] M) (fun k s => s = nI (fb_ct (fun i => decide (B.1 3 i = 2)) k)) (nnB B) (fun k s hk hs => by
    subst hs
    refine ⟨_, ?_, rfl⟩
    try dsimp only
    have l1 := (hB.2.2.1 k hk).1
    have m0 := (hB.2.2.1 k hk).2.2.2.2.2.2.2.2.2.2.1
    have e2 : nI (B.1 3 k) = (2 : Int32) ↔ B.1 3 k = 2 := nI_eq (a := B.1 3 k) (b := 2) (by omega) (by omega)
    rw [q22_4, if_pos (ok_5 hG), c5, if_neg (by rw [nI_leI (by omega) (by omega)]; omega), if_pos (ok_5 hG), gr_5_7 hG, if_pos (rk_9 hG (by omega)), nI_clamp (by omega), gr_line hG (by omega), if_pos (ok_line hG (by omega)), m0, fb_ct_succ, nI_1]
    simp only [e2]
    by_cases h : B.1 3 k = 2
    · simp [h, nI_1]
    · simp [h, nI_1]) (nnB B) 0 (nI 0) (by omega) rfl
  try dsimp only at s1
  rw [s1, q22_4, if_pos (ok_5 hG), c5, if_pos (by rw [nI_leI (by omega) (by omega)]; omega), s2]
theorem c_idlers {d : Nat} {M : Mm} {B : Bk} (hG : Gd M) (hB : BK M B) : ∃ N g, go (d + 4) 72 0 [.ref 126, .null, .null] [] M = some (some (.int (nI (fb_ct (fun i => decide (siB B i = 0)) (nnB B)))), N) ∧ KSet M N 132 g := by
  have hn := BK_nn hB
  rw [q72_0, show (0 : Int32) = nI 0 from rfl]
  obtain ⟨⟨s, N⟩, s1, s2, g, s3⟩ := loopI (σ := Int32 × Mm) (fun k s => go (d + 4) 72 4 [.ref 126, .int s.1, .int (nI k)] [] s.2) (fun k s => s.1 = nI (fb_ct (fun i => decide (siB B i = 0)) k) ∧ ∃ g, KSet M s.2 132 g) (nnB B) (fun k s hk hs => by
    obtain ⟨s, N⟩ := s
    obtain ⟨e, g, kN⟩ := hs
    try dsimp only at e kN
    subst e
    have hGN := KSet_G kN hG
    have hBN : BK N B := BK_KSet kN (by unfold rdL; omega) hB
    have c5 : gI N 5 2 = nI (nnB B) := hBN.1.2.2.2.2.1
    obtain ⟨O, g2, s2, k2⟩ := c_bodiesWith (d := d) hGN hBN hk
    have e0 : nI (siB B k) = (0 : Int32) ↔ siB B k = 0 := nI_eq (a := siB B k) (b := 0) (Nat.lt_of_le_of_lt (siB_le hn.1 k) (by omega)) (by omega)
    refine ⟨(nI (fb_ct (fun i => decide (siB B i = 0)) (k + 1)), O), ?_, rfl, g2, KSet_trans kN k2⟩
    try dsimp only
    rw [q72_4, if_pos (ok_126 hGN), gr_126_4 hGN, if_pos (ok_5 hGN), c5, if_neg (by rw [nI_leI (by omega) (by omega)]; omega), if_pos (ok_126 hGN), s2, bI_s, fb_ct_succ, nI_1]
    simp only [e0]
    by_cases h : siB B k = 0
    · simp [h, nI_1]
    · simp [h, nI_1]) (nnB B) 0 (nI 0, M) (by omega) ⟨rfl, kb (gL M 132), KSet_self (fun _ _ => rfl)⟩
  try dsimp only at s1 s2 s3
  have hGN := KSet_G s3 hG
  have hBN : BK N B := BK_KSet s3 (by unfold rdL; omega) hB
  have c5 : gI N 5 2 = nI (nnB B) := hBN.1.2.2.2.2.1
  refine ⟨N, g, ?_, s3⟩
  rw [s1, q72_4, if_pos (ok_126 hGN), gr_126_4 hGN, if_pos (ok_5 hGN), c5, if_pos (by rw [nI_leI (by omega) (by omega)]; omega), s2]
theorem m_count4 {d : Nat} {M : Mm} {B : Bk} (hG : Gd M) (hB : BK M B) : go (d + 4) 236 106 [.ref 171, .int (4 : Int32), .int (0 : Int32), .int (0 : Int32)] [] M = some (some (.int (nI (fb_ct (fun i => decide (siB B i = 0)) (nnB B)))), M) := by
  have hn := BK_nn hB
  have c6 : gI M 171 9 = nI (nnB B) := hB.1.2.2.2.2.2.1
  rw [show (0 : Int32) = nI 0 from rfl]
  obtain ⟨s, s1, s2⟩ := loopI (σ := Int32) (fun k s => go (d + 4) 236 106 [.ref 171, .int (4 : Int32), .int s, .int (nI k)] [] M) (fun k s => s = nI (fb_ct (fun i => decide (siB B i = 0)) k)) (nnB B) (fun k s hk hs => by
    subst hs
    refine ⟨_, ?_, rfl⟩
    try dsimp only
    have e0 : nI (siB B k) = (0 : Int32) ↔ siB B k = 0 := nI_eq (a := siB B k) (b := 0) (Nat.lt_of_le_of_lt (siB_le hn.1 k) (by omega)) (by omega)
    rw [q236_106, if_pos (ok_171 hG), c6, if_neg (by rw [nI_leI (by omega) (by omega)]; omega), if_pos rfl, if_pos (ok_171 hG), m_standsIn hG hB hk, bI_s, fb_ct_succ, nI_1]
    simp only [e0]
    by_cases h : siB B k = 0
    · simp [h, nI_1]
    · simp [h, nI_1]) (nnB B) 0 (nI 0) (by omega) rfl
  try dsimp only at s1
  rw [s1, q236_106, if_pos (ok_171 hG), c6, if_pos (by rw [nI_leI (by omega) (by omega)]; omega), s2]
theorem m_count5 {d : Nat} {M : Mm} {B : Bk} (hG : Gd M) (hB : BK M B) : go (d + 4) 236 106 [.ref 171, .int (5 : Int32), .int (0 : Int32), .int (0 : Int32)] [] M = some (some (.int (nI (fb_ct (fun i => decide (B.1 3 i = 2)) (nnB B)))), M) := by
  have hn := BK_nn hB
  have c6 : gI M 171 9 = nI (nnB B) := hB.1.2.2.2.2.2.1
  rw [show (0 : Int32) = nI 0 from rfl]
  obtain ⟨s, s1, s2⟩ := loopI (σ := Int32) (fun k s => go (d + 4) 236 106 [.ref 171, .int (5 : Int32), .int s, .int (nI k)] [] M) (fun k s => s = nI (fb_ct (fun i => decide (B.1 3 i = 2)) k)) (nnB B) (fun k s hk hs => by
    subst hs
    refine ⟨_, ?_, rfl⟩
    try dsimp only
    have l1 := (hB.2.2.1 k hk).1
    have n0 : gI M 177 k = nI (B.1 3 k) := (hB.2.2.1 k hk).2.2.2.2.2.2.2.2.2.2.2.2.2.2.2.2.2.2.1
    have e2 : nI (B.1 3 k) = (2 : Int32) ↔ B.1 3 k = 2 := nI_eq (a := B.1 3 k) (b := 2) (by omega) (by omega)
    rw [q236_106, if_pos (ok_171 hG), c6, if_neg (by rw [nI_leI (by omega) (by omega)]; omega), if_neg (by decide), if_pos (ok_171 hG), gr_171_10 hG, if_pos (rk_177 hG (by omega)), nI_clamp (by omega), n0, fb_ct_succ, nI_1]
    simp only [e2]
    by_cases h : B.1 3 k = 2
    · simp [h, nI_1]
    · simp [h, nI_1]) (nnB B) 0 (nI 0) (by omega) rfl
  try dsimp only at s1
  rw [s1, q236_106, if_pos (ok_171 hG), c6, if_pos (by rw [nI_leI (by omega) (by omega)]; omega), s2]
theorem op_count {E M : Mm} {B : Bk} {d : Nat} (hI : Inv E M B) (x : Int32) : Alike E M (d + 5) 144 236 [.ref 1, .int x] [.ref 171, .int x, .null, .null] := by
  have hN := thr hI
  have hG := hI.1
  have hG' : Gd (sI M 171 0 0) := hG
  have hB := hI.2.2.2.2.2.2.1
  have hB' := hN.2.2.2.2.2.2.1
  have o := ok_171 hG
  have o1 := ok_1 hG
  obtain ⟨c1, c2, c3, c4, c5, c6, c7, c8, c9, c10, c11, c12, c13⟩ := hB.1
  obtain ⟨n, hn, t1, t2, -⟩ := hI.2.2.2.1
  by_cases h0 : x = 0
  · subst h0
    refine Alike_q hI (nI (shC M)) M (sI M 171 0 0) ?_ Sm_refl ?_ sm0
    · rw [q144_0, if_pos rfl, if_pos o1, c_sheetsThere hG hI.2.2.1, bI_s]
    · rw [q236_0, if_pos o, bM_d, if_pos rfl, m_sheetsThere hG' hN.2.2.1]; rfl
  by_cases h1 : x = 1
  · subst h1
    refine Alike_q hI (nI (nmB B)) M (sI M 171 0 0) ?_ Sm_refl ?_ sm0
    · simp only [q144_0, h0, if_true, if_false, o1, gr_1_2 hG, ok_5 hG, c1]
    · simp only [q236_0, h0, if_true, if_false, o, bM_d, okO_sI]; rw [show gI (sI M 171 0 0) 171 5 = nI (nmB B) from c2]
  by_cases h2 : x = 2
  · subst h2
    refine Alike_q hI (nI (nlB B)) M (sI M 171 0 0) ?_ Sm_refl ?_ sm0
    · simp only [q144_0, h0, h1, if_true, if_false, o1, gr_1_2 hG, ok_5 hG, c3]
    · simp only [q236_0, h0, h1, if_true, if_false, o, bM_d, okO_sI]; rw [show gI (sI M 171 0 0) 171 8 = nI (nlB B) from c4]
  by_cases h3 : x = 3
  · subst h3
    refine Alike_q hI (nI (nnB B)) M (sI M 171 0 0) ?_ Sm_refl ?_ sm0
    · simp only [q144_0, h0, h1, h2, if_true, if_false, o1, gr_1_2 hG, ok_5 hG, c5]
    · simp only [q236_0, h0, h1, h2, if_true, if_false, o, bM_d, okO_sI]; rw [show gI (sI M 171 0 0) 171 9 = nI (nnB B) from c6]
  by_cases h4 : x = 4
  · subst h4
    obtain ⟨N, g, s, k⟩ := c_idlers (d := d) hG hB
    have hS : Sm Qs QL M N := KSet_Sm k (by unfold QL; omega)
    have hIN := Inv_q hI hS
    refine Alike_q hI (nI (fb_ct (fun i => decide (siB B i = 0)) (nnB B))) N (sI N 171 0 0) ?_ hS ?_ sm0
    · simp only [q144_0, h0, h1, h2, h3, if_true, if_false, o1, gr_1_4 hG, ok_126 hG, s, bI_s]
    · rw [q236_0, if_pos (ok_171 hIN.1), bM_d, if_neg h0, if_neg h1, if_neg h2, if_neg h3, if_pos rfl, m_count4 (M := sI N 171 0 0) hIN.1 (thr hIN).2.2.2.2.2.2.1]
  by_cases h5 : x = 5
  · subst h5
    refine Alike_q hI (nI (fb_ct (fun i => decide (B.1 3 i = 2)) (nnB B))) M (sI M 171 0 0) ?_ Sm_refl ?_ sm0
    · simp only [q144_0, h0, h1, h2, h3, h4, if_true, if_false, o1, gr_1_2 hG, ok_5 hG, c_patches hG hB, bI_s]
    · rw [q236_0, if_pos o, bM_d, if_neg h0, if_neg h1, if_neg h2, if_neg h3, if_neg h4, if_pos rfl, m_count5 hG' hB']
  by_cases h6 : x = 6
  · subst h6
    refine Alike_q hI (nI n) M (sI M 171 0 0) ?_ Sm_refl ?_ sm0
    · simp only [q144_0, h0, h1, h2, h3, h4, h5, if_true, if_false, o1, gr_1_1 hG, ok_3 hG, t1]
    · simp only [q236_0, h0, h1, h2, h3, h4, h5, if_true, if_false, o, bM_d, okO_sI]; rw [show gI (sI M 171 0 0) 171 21 = nI n from t2]
  by_cases h7 : x = 7
  · subst h7
    refine Alike_q hI (nI (vrB B)) M (sI M 171 0 0) ?_ Sm_refl ?_ sm0
    · simp only [q144_0, h0, h1, h2, h3, h4, h5, h6, if_true, if_false, o1, gr_1_2 hG, ok_5 hG, c7]
    · simp only [q236_0, h0, h1, h2, h3, h4, h5, h6, if_true, if_false, o, bM_d, okO_sI]; rw [show gI (sI M 171 0 0) 171 40 = nI (vrB B) from c8]
  refine Alike_q hI (-1000001) M (sI M 171 0 0) ?_ Sm_refl ?_ sm0
  · simp only [q144_0, h0, h1, h2, h3, h4, h5, h6, h7, if_false]
  · simp only [q236_0, h0, h1, h2, h3, h4, h5, h6, h7, if_true, if_false, o, bM_d]
