/-! ===== idle ===== -/
theorem allB_s (p : Nat → Bool) (n : Nat) : allB p (n + 1) = (allB p n && p n) := rfl
def idB (B : Bk) (l : Nat) : Bool := decide (fb_ct (hsB B (fun i => decide (i ≠ l)) true) (2 ^ nmB B) = fb_ct (alB B) (2 ^ nmB B))
theorem c_idleLaws {d : Nat} {M : Mm} {B : Bk} (hG : Gd M) (hB : BK M B) : ∃ N g, go (d + 3) 65 0 [.ref 126, .null, .null, .null, .null] [] M = some (some (.int (nI (bset (idB B) (nlB B)))), N) ∧ KSet M N 132 g := by
  have hn := BK_nn hB
  have hp := p10 hn.1
  have hTr : ∀ k, k < 1024 → kb (gL M 130) k = (decide (k < 2 ^ nmB B) && trB B k) := hB.2.2.2.1.1
  have hLw : ∀ l, l < nlB B → ∀ k, k < 1024 → kb (gL M (11 + 2 * l)) k = B.2.1 l k := hB.2.2.2.1.2.2.1
  simp only [q65_0, ok_126 hG, gr_126_0 hG, ok_127 hG, if_true, c_manyA hG hB, bI_s]
  rw [show (0 : Int32) = nI 0 from rfl]
  have inner : ∀ (l : Nat) (x2 : Int32) (N : Mm), l < nlB B → KSet M N 132 (fun k => decide (k < 2 ^ nmB B) && trB B k) → ∃ N' g, go (d + 3) 65 37 [.ref 126, .int (nI (fb_ct (alB B) (2 ^ nmB B))), .int x2, .int (nI l), .int (nI 0)] [] N = go (d + 3) 65 37 [.ref 126, .int (nI (fb_ct (alB B) (2 ^ nmB B))), .int x2, .int (nI l), .int (nI (nlB B))] [] N' ∧ KSet M N' 132 g ∧ ∀ k, g k = ((decide (k < 2 ^ nmB B) && trB B k) && allB (fun i => decide (i = l) || B.2.1 i k) (nlB B)) := by
    intro l x2 N hl hN
    obtain ⟨N', s1, s2⟩ := loopI (σ := Mm) (fun j N => go (d + 3) 65 37 [.ref 126, .int (nI (fb_ct (alB B) (2 ^ nmB B))), .int x2, .int (nI l), .int (nI j)] [] N) (fun j N => KSet M N 132 (fun k => (decide (k < 2 ^ nmB B) && trB B k) && allB (fun i => decide (i = l) || B.2.1 i k) j)) (nlB B) (fun j N hj hN => by
      have hGN := KSet_G hN hG
      have hBN : BK N B := BK_KSet hN (by unfold rdL; omega) hB
      have c3 : gI N 5 1 = nI (nlB B) := hBN.1.2.2.1
      have ejl : nI j = nI l ↔ j = l := nI_eq (by omega) (by omega)
      try dsimp only
      rw [q65_37, if_pos (ok_126 hGN), gr_126_4 hGN, if_pos (ok_5 hGN), c3, if_neg (by rw [nI_leI (by omega) (by omega)]; omega)]
      by_cases h : j = l
      · refine ⟨N, ?_, KSet_c hN (fun k _ => by rw [allB_s]; simp [h])⟩
        rw [if_pos (ejl.mpr h), nI_1]
      · obtain ⟨N2, k1, k2⟩ := kt_keep (d := d + 1) hN (by omega : 11 + 2 * j ≠ 132) (KS_some hG) (KS_law hG (i := j) (by omega))
        refine ⟨N2, ?_, KSet_c k2 (fun k hk => by rw [hLw j hj k hk, allB_s]; simp [h, Bool.and_assoc])⟩
        rw [if_neg (fun z => h (ejl.mp z)), if_pos (ok_126 hGN), if_pos (ok_126 hGN), if_pos (ok_5 hGN), gr_5_6 hGN, if_pos (rk_8 hGN (by omega)), gr_126_2 hGN, if_pos (ok_131 hGN), nI_clamp (by omega), gr_law hGN (by omega), k1, bV_s, nI_1]) (nlB B) 0 N (by omega) (KSet_c hN (fun k _ => by simp [allB]))
    exact ⟨N', _, s1, s2, fun k => rfl⟩
  obtain ⟨⟨s, z, N⟩, s1, s2, g, s3⟩ := loopI (σ := Int32 × Value × Mm) (fun l s => go (d + 3) 65 12 [.ref 126, .int (nI (fb_ct (alB B) (2 ^ nmB B))), .int s.1, .int (nI l), s.2.1] [] s.2.2) (fun l s => s.1 = nI (bset (idB B) l) ∧ ∃ g, KSet M s.2.2 132 g) (nlB B) (fun l s hl hs => by
    obtain ⟨s, z, N⟩ := s
    obtain ⟨e, g, kN⟩ := hs
    try dsimp only at e kN
    subst e
    have hGN := KSet_G kN hG
    have hBN : BK N B := BK_KSet kN (by unfold rdL; omega) hB
    have c3 : gI N 5 1 = nI (nlB B) := hBN.1.2.2.1
    obtain ⟨N1, t1, t2⟩ := kt_takeN (d := d + 1) kN (by omega : (130 : Nat) ≠ 132) (KS_some hG) (KS_tree hG) rfl rfl
    obtain ⟨N2, g2, t3, t4, t5⟩ := inner l (nI (bset (idB B) l)) N1 hl (KSet_c t2 hTr)
    have hG2 := KSet_G t4 hG
    have hB2 : BK N2 B := BK_KSet t4 (by unfold rdL; omega) hB
    have c3' : gI N2 5 1 = nI (nlB B) := hB2.1.2.2.1
    have sz := kt_size (d := d) t4 (KS_some hG)
    have hct : fb_ct g2 1024 = fb_ct (hsB B (fun i => decide (i ≠ l)) true) (2 ^ nmB B) := by
      rw [ct_cut (p := g2) (n := 2 ^ nmB B) (by omega) (fun k h1 _ => by rw [t5]; simp [show ¬ k < 2 ^ nmB B by omega])]
      apply fb_ct_cong
      intro k hk
      rw [t5]
      unfold hsB
      simp [hk]
    have l1 := fb_ct_le (hsB B (fun i => decide (i ≠ l)) true) (2 ^ nmB B)
    have l2 := fb_ct_le (alB B) (2 ^ nmB B)
    have ee : nI (fb_ct g2 1024) = nI (fb_ct (alB B) (2 ^ nmB B)) ↔ idB B l = true := by
      rw [hct, nI_eq (by omega) (by omega), idB, decide_eq_true_eq]
    refine ⟨(nI (bset (idB B) (l + 1)), .int (nI (nlB B)), N2), ?_, rfl, g2, t4⟩
    try dsimp only
    rw [q65_12, if_pos (ok_126 hGN), gr_126_4 hGN, if_pos (ok_5 hGN), c3, if_neg (by rw [nI_leI (by omega) (by omega)]; omega), if_pos (ok_126 hGN), if_pos (ok_126 hGN), gr_126_2 hGN, if_pos (ok_131 hGN), gr_126_1 hGN, t1, bV_s, show (0 : Int32) = nI 0 from rfl, t3, q65_37, if_pos (ok_126 hG2), gr_126_4 hG2, if_pos (ok_5 hG2), c3', if_pos (by rw [nI_leI (by omega) (by omega)]; omega), if_pos (ok_126 hG2), gr_126_2 hG2, if_pos (ok_131 hG2), sz, bI_s]
    simp only [ee]
    cases hc : idB B l with
    | true => rw [if_pos rfl, nI_1, or_b (by omega) hc]
    | false => rw [if_neg (by decide), nI_1, no_b hc]) (nlB B) 0 (nI 0, .null, M) (by omega) ⟨rfl, kb (gL M 132), KSet_self (fun _ _ => rfl)⟩
  try dsimp only at s1 s2 s3
  have hGN := KSet_G s3 hG
  have hBN : BK N B := BK_KSet s3 (by unfold rdL; omega) hB
  have c3 : gI N 5 1 = nI (nlB B) := hBN.1.2.2.1
  refine ⟨N, g, ?_, s3⟩
  rw [s1, q65_12, if_pos (ok_126 hGN), gr_126_4 hGN, if_pos (ok_5 hGN), c3, if_pos (by rw [nI_leI (by omega) (by omega)]; omega), s2]
/-- ors and ands of the allowed kinds -/
def orA (B : Bk) (n : Nat) : Nat := bset (fun m => anyB (fun k => alB B k && k.testBit m) n) (nmB B)
def anA (B : Bk) (n : Nat) : Nat := bset (fun m => !anyB (fun k => alB B k && !k.testBit m) n) (nmB B)
theorem tb_big {k n m : Nat} (hk : k < 2 ^ n) (hm : ¬ m < n) : k.testBit m = false := Nat.testBit_lt_two_pow (Nat.lt_of_lt_of_le hk (Nat.pow_le_pow_right (by omega) (by omega)))
theorem orA_t {B : Bk} {n : Nat} (hn : n < 2 ^ nmB B) (h : alB B n = true) : orA B n ||| n = orA B (n + 1) := by
  apply Nat.eq_of_testBit_eq
  intro i
  unfold orA
  rw [Nat.testBit_or, bset_bit, bset_bit, anyB_s]
  by_cases hi : i < nmB B
  · simp [hi, h]
  · simp [hi, tb_big hn hi]
theorem orA_f {B : Bk} {n : Nat} (h : alB B n = false) : orA B (n + 1) = orA B n := bset_cong (fun m _ => by rw [anyB_s, h]; simp)
theorem anA_t {B : Bk} {n : Nat} (h : alB B n = true) : anA B n &&& n = anA B (n + 1) := by
  apply Nat.eq_of_testBit_eq
  intro i
  unfold anA
  rw [Nat.testBit_and, bset_bit, bset_bit, anyB_s]
  by_cases hi : i < nmB B
  · simp [hi, h]
  · simp [hi]
theorem anA_f {B : Bk} {n : Nat} (h : alB B n = false) : anA B n &&& (2 ^ nmB B - 1) = anA B (n + 1) := by
  apply Nat.eq_of_testBit_eq
  intro i
  unfold anA
  rw [Nat.testBit_and, bset_bit, bset_bit, anyB_s, Nat.testBit_two_pow_sub_one]
  by_cases hi : i < nmB B
  · simp [hi, h]
  · simp [hi]
theorem anA_0 (B : Bk) : anA B 0 = 2 ^ nmB B - 1 := bset_full.mpr (allB_t (fun _ _ => rfl))
theorem orA_0 (B : Bk) : orA B 0 = 0 := by
  apply Nat.eq_of_testBit_eq
  intro i
  unfold orA
  rw [bset_bit]
  simp [anyB, allB]
theorem m1k {n : Nat} (h : nI n - (1 : Int32) = nI (n - 1) ∨ n = 0) (h0 : 1 ≤ n) : nI n - (1 : Int32) = nI (n - 1) := by
  rcases h with h | h
  · exact h
  · omega
theorem sub1 {n : Nat} (h0 : 1 ≤ n) : nI n - (1 : Int32) = nI (n - 1) := by
  rw [show n = (n - 1) + 1 by omega, nI_pred]; simp
theorem m_idle {d : Nat} {M : Mm} {B : Bk} {w : Nat} (hG : Gd M) (hB : BK M B) (hw : w < 3) : go (d + 3) 194 32 [.ref 171, .int (nI w), .int (0 : Int32), .int (gI M 171 36 - (1 : Int32)), .int (0 : Int32), .null] [] M = some (some (.int (if w = 0 then nI (bset (fun m => !anyB (fun k => alB B k && k.testBit m) (2 ^ nmB B)) (nmB B)) else if w = 1 then nI (anA B (2 ^ nmB B)) else nI (bset (idB B) (nlB B)))), M) := by
  have hn := BK_nn hB
  have hp := p10 hn.1
  have o := ok_171 hG
  have c9 : gI M 171 36 = nI (2 ^ nmB B) := hB.1.2.2.2.2.2.2.2.2.1
  have c4 : gI M 171 8 = nI (nlB B) := hB.1.2.2.2.1
  have e1 := sub1 hp.2
  rw [c9, e1, show (0 : Int32) = nI 0 from rfl]
  obtain ⟨⟨s, t⟩, s1, s2, s3⟩ := loopI (σ := Int32 × Int32) (fun k s => go (d + 3) 194 32 [.ref 171, .int (nI w), .int s.1, .int s.2, .int (nI k), .null] [] M) (fun k s => s.1 = nI (orA B k) ∧ s.2 = nI (anA B k)) (2 ^ nmB B) (fun k s hk hs => by
    obtain ⟨s, t⟩ := s
    obtain ⟨rfl, rfl⟩ := hs
    refine ⟨(nI (orA B (k + 1)), nI (anA B (k + 1))), ?_, rfl, rfl⟩
    try dsimp only
    have ma := m_isAllowed (d := d) hG hB hk
    rw [q194_32, if_pos o, c9, if_neg (by rw [nI_leI (by omega) (by omega)]; omega)]
    simp only [o, if_true, ma, bI_s, b2i0, e1, nI_1]
    cases ha : alB B k with
    | false =>
      simp only [if_true, c9, e1, fa_and, anA_f ha, orA_f ha]
      simp
    | true =>
      simp only [Bool.true_eq_false, if_false, fa_and, fa_or, anA_t ha, orA_t hk ha]) (2 ^ nmB B) 0 (nI 0, nI (2 ^ nmB B - 1)) (by omega) ⟨by rw [orA_0], by rw [anA_0]⟩
  try dsimp only at s1 s2 s3
  rw [s1, q194_32, if_pos o, c9, if_pos (by rw [nI_leI (by omega) (by omega)]; omega), s2, s3]
  have dead : nI (2 ^ nmB B - 1) &&& (nI (orA B (2 ^ nmB B)) ^^^ ((-1) : Int32)) = nI (bset (fun m => !anyB (fun k => alB B k && k.testBit m) (2 ^ nmB B)) (nmB B)) := by
    rw [← anA_0 B, anA, orA, andnot_b (by omega)]
    exact congrArg nI (bset_cong (fun m _ => by simp [anyB, allB]))
  by_cases h2 : w = 2
  · subst h2
    rw [if_neg (by omega), if_neg (by omega), show (0 : Int32) = nI 0 from rfl]
    obtain ⟨x, x1, x2⟩ := loopI (σ := Int32) (fun l x => go (d + 3) 194 94 [.ref 171, .int (nI 2), .int (nI (orA B (2 ^ nmB B))), .int (nI (anA B (2 ^ nmB B))), .int x, .int (nI l)] [] M) (fun l x => x = nI (bset (idB B) l)) (nlB B) (fun l x hl hx => by
      subst hx
      refine ⟨_, ?_, rfl⟩
      try dsimp only
      have h1 := m_allLaws (d := d + 1) hG hB
      rw [all_setN] at h1
      have hx1 : nI (setN (fun _ => true) (nlB B) true) &&& (((1 : Int32) <<< (nI l &&& 31)) ^^^ ((-1) : Int32)) = nI (setN (fun i => decide (i ≠ l)) (nlB B) true) := by
        rw [shl1 l (by omega), show ((-1) : Int32) = nI (2 ^ 32 - 1) from rfl, fb_xorI, fa_and]
        congr 1
        apply Nat.eq_of_testBit_eq
        intro i
        rw [Nat.testBit_and, Nat.testBit_xor, Nat.testBit_two_pow_sub_one, Nat.testBit_two_pow, setN_tb hn.2.1, setN_tb hn.2.1]
        by_cases hi : i < nlB B
        · by_cases hil : i = l
          · subst hil; simp [hi, show i < 32 by omega, show ¬ i = 8 by omega]
          · simp [hi, hil, show i < 32 by omega, show ¬ l = i by omega]
        · by_cases h8 : i = 8
          · subst h8; simp [hi, show ¬ l = 8 by omega]
          · simp [hi, h8]
      have h3 := m_manyHold (d := d + 1) (p := fun _ => true) (t := true) hG hB
      have h4 := m_manyHold (d := d + 1) (p := fun i => decide (i ≠ l)) (t := true) hG hB
      rw [fb_ct_cong (fun k hk => hsB_all hk)] at h3
      have l1 := fb_ct_le (hsB B (fun i => decide (i ≠ l)) true) (2 ^ nmB B)
      have l2 := fb_ct_le (alB B) (2 ^ nmB B)
      have ee : nI (fb_ct (hsB B (fun i => decide (i ≠ l)) true) (2 ^ nmB B)) = nI (fb_ct (alB B) (2 ^ nmB B)) ↔ idB B l = true := by
        rw [nI_eq (by omega) (by omega), idB, decide_eq_true_eq]
      rw [q194_94, if_pos o, c4, if_neg (by rw [nI_leI (by omega) (by omega)]; omega), if_pos (show nI 2 = (2 : Int32) from rfl)]
      simp only [o, if_true, h1, bI_s, hx1, h4, h3, ee, nI_1]
      cases hc : idB B l with
      | true => rw [if_pos rfl, or_b (by omega) hc]
      | false =>
        rw [if_neg (by decide), no_b hc]
        simp) (nlB B) 0 (nI 0) (by omega) rfl
    try dsimp only at x1
    rw [x1, q194_94, if_pos o, c4, if_pos (by rw [nI_leI (by omega) (by omega)]; omega), if_neg (by decide), if_neg (by decide), x2]
  · have ew : ¬ nI w = (2 : Int32) := fun z => h2 ((nI_eq (a := w) (b := 2) (by omega) (by omega)).mp z)
    rw [q194_94]
    simp only [o, if_true, c4, c9, e1, dead, ew, if_false]
    rcases (show w = 0 ∨ w = 1 by omega) with rfl | rfl
    · simp only [show (nI 0 = (0 : Int32)) = True from by simp; rfl, if_true]
      split <;> rfl
    · rw [if_neg (show ¬ (1 : Nat) = 0 by omega), if_pos rfl]
      split
      · rw [if_neg (by decide), if_pos (show nI 1 = (1 : Int32) from rfl)]
      · rw [if_neg (by decide), if_pos (show nI 1 = (1 : Int32) from rfl)]
theorem op_idle {E M : Mm} {B : Bk} {d : Nat} (hI : Inv E M B) (x : Int32) : Alike E M (d + 4) 123 194 [.ref 1, .int x] [.ref 171, .int x, .null, .null, .null, .null] := by
  have hG := hI.1
  have hB := hI.2.2.2.2.2.2.1
  have hn := BK_nn hB
  have o1 := ok_1 hG
  have i3 : ∀ N, go (d + 3) 154 0 [.long x.toInt64, .null, .long (0 : Int64), .null, .long (2 : Int64), .null] [] N = some (some (.int (b2i (inR 3 x))), N) := fun N => by
    rw [show (2 : Int64) = (2 : Int32).toInt64 from rfl, m_inR (n := 3) rfl]
  cases h : inR 3 x with
  | false =>
    refine Alike_q hI (-1000001) M (sI M 171 0 0) ?_ Sm_refl ?_ sm0
    · rw [q123_0, if_neg (show ¬ x = 0 from inR_no (by omega) h (show 0 < 3 by omega)), if_neg (show ¬ x = 1 from inR_no (by omega) h (show 1 < 3 by omega)), if_neg (show ¬ x = 2 from inR_no (by omega) h (show 2 < 3 by omega))]
    · simp only [q194_0, ok_171 hG, if_true, bM_d, i3, bI_s, b2i0, h]
  | true =>
    obtain ⟨w, hw, rfl⟩ := inR_n (by omega) h
    have mo : ∀ N, Inv E N B → go (d + 4) 194 0 [.ref 171, .int (nI w), .null, .null, .null, .null] [] N = some (some (.int (if w = 0 then nI (bset (fun m => !anyB (fun k => alB B k && k.testBit m) (2 ^ nmB B)) (nmB B)) else if w = 1 then nI (anA B (2 ^ nmB B)) else nI (bset (idB B) (nlB B)))), sI N 171 0 0) := fun N hN => by
      have hGN := hN.1
      have hBN := (thr hN).2.2.2.2.2.2.1
      rw [q194_0, if_pos (ok_171 hGN), bM_d, i3, bI_s, h, if_neg (by decide), if_pos (show okO (sI N 171 0 0) 171 12 = true from ok_171 hGN), m_idle (d := d + 1) (M := sI N 171 0 0) hGN hBN hw]
    rcases (show w = 0 ∨ w = 1 ∨ w = 2 by omega) with rfl | rfl | rfl
    · refine Alike_q hI _ M (sI M 171 0 0) ?_ Sm_refl (mo M hI) sm0
      rw [q123_0, if_pos (show nI 0 = (0 : Int32) from rfl), if_pos o1, gr_1_4 hG, if_pos (ok_126 hG), c_deadMarks hG hB, bI_s]
      rfl
    · refine Alike_q hI _ M (sI M 171 0 0) ?_ Sm_refl (mo M hI) sm0
      rw [q123_0, if_neg (by decide), if_pos (show nI 1 = (1 : Int32) from rfl), if_pos o1, gr_1_4 hG, if_pos (ok_126 hG), c_sureMarks hG hB, bI_s]
      rfl
    · obtain ⟨N, g, s, k⟩ := c_idleLaws (d := d) hG hB
      have hS : Sm Qs QL M N := KSet_Sm k (by unfold QL; omega)
      refine Alike_q hI _ N (sI N 171 0 0) ?_ hS (mo N (Inv_q hI hS)) sm0
      rw [q123_0, if_neg (by decide), if_neg (by decide), if_pos (show nI 2 = (2 : Int32) from rfl), if_pos o1, gr_1_4 hG, if_pos (ok_126 hG), s, bI_s]
      rfl
