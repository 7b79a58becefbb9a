/-! ===== read ===== -/
theorem BK_make {F : Mm} {B : Bk} (hW : WB B) (c : CNT F (nmB B) (nlB B) (nnB B) (vrB B)) (tc : ∀ j, j < nmB B → gI F 6 j = nI (B.1 1 j) - 1 ∧ gI F 7 j = nI (B.1 2 j)) (tm : ∀ j, j < nmB B → gI F 175 j = optI (B.1 1 j) ∧ gI F 176 j = nI (B.1 2 j))
  (lc : ∀ i, i < nnB B → gI F (26 + 3 * i) 0 = nI (B.1 3 i) ∧ gI F (26 + 3 * i) 1 = optI (B.1 9 i) ∧ gI F (26 + 3 * i) 2 = nI (B.1 4 i) ∧ gI F (26 + 3 * i) 3 = nI (B.1 5 i) ∧ gI F (26 + 3 * i) 4 = nI (B.1 6 i) ∧ gI F (26 + 3 * i) 5 = nI (B.1 7 i) ∧ gI F (26 + 3 * i) 6 = nI (B.1 8 i) ∧ gI F (26 + 3 * i) 7 = optI (B.1 10 i))
  (lm : ∀ i, i < nnB B → gI F 177 i = nI (B.1 3 i) ∧ gI F 178 i = optI (B.1 9 i) ∧ gI F 179 i = nI (B.1 4 i) ∧ gI F 180 i = nI (B.1 5 i) ∧ gI F 181 i = nI (B.1 6 i) ∧ gI F 186 (8 + i) = nI (B.1 7 i) ∧ gI F 182 i = nI (B.1 8 i) ∧ gI F 183 i = optI (B.1 10 i))
  (hD : DRW F B) (sl : ∀ l, l < nlB B → SAI F l (B.2.1 l)) (sn : ∀ i, i < nnB B → SAI F (8 + i) (B.2.2 i)) (wd : Wd F) : BK F B := by
  obtain ⟨hP, w1, w2⟩ := hW
  refine ⟨c, fun j hj => ?_, fun i hi => ?_, hD, sl, sn, wd, fun i hi => ?_⟩
  · exact ⟨(w1 j hj).1, (w1 j hj).2, (tc j hj).1, (tm j hj).1, (tc j hj).2, (tm j hj).2⟩
  · obtain ⟨b1, b2, b3, b4, b5, b6, b7, b8, b9, b10⟩ := w2 i hi
    obtain ⟨c0, c1, c2, c3, c4, c5, c6, c7⟩ := lc i hi
    obtain ⟨m0, m1, m2, m3, m4, m5, m6, m7⟩ := lm i hi
    refine ⟨b1, b2, b3, b4, b5, b6, b7, fun z => ?_, fun z => ?_, ?_, c0, c1, c2, c3, c4, c5, c6, c7, m0, m1, m2, m3, m4, m5, m6, m7⟩
    · have := b8 z
      exact ⟨B.1 9 i - 1, by omega, optI_pos (by omega)⟩
    · show optI (B.1 9 i) = NONE
      rw [b9 z]; rfl
    · show optI (B.1 10 i) = NONE ∨ ∃ v, v ≤ 9 ∧ optI (B.1 10 i) = nI v
      by_cases h0 : B.1 10 i = 0
      · left; rw [h0]; rfl
      · right; exact ⟨B.1 10 i - 1, by omega, optI_pos h0⟩
  · obtain ⟨b1, b2, b3, b4, b5, b6, b7, b8, b9, b10⟩ := w2 i hi
    refine ⟨?_, b10⟩
    by_cases h2 : B.1 3 i = 2
    · exact (b8 h2).2
    · rw [b9 h2]; omega
/-- cells that a reading that fails may leave otherwise -/
def Rf (nm nl nn : Nat) (r k : Nat) : Prop := Rc nm nn r k ∨ Rm0 nm nl nn r k ∨ (r = 3 ∧ k = 1) ∨ (r = 1 ∧ k = 10) ∨ (r = 171 ∧ k = 22)
theorem BK_fine {M N : Mm} {B : Bk} (hB : BK M B) (hS : Sm (Rf (nmB B) (nlB B) (nnB B)) (Rl (nlB B) (nnB B)) M N) : BK N B := by
  have hn := BK_nn hB
  have q := hS.2.2.1
  have ql := hS.2.2.2
  obtain ⟨c, t, l, ⟨d1, d2, d3, d4, d5, d6⟩, sl, sn, wd, bd⟩ := hB
  refine ⟨?_, fun j hj => ?_, fun i hi => ?_, ⟨fun k hk => ?_, fun k hk => ?_, fun l hl k hk => ?_, fun i hi k hk => ?_, fun k hk => ?_, fun k hk => ?_⟩, fun l hl => ?_, fun i hi => ?_, fun j hj => ?_, bd⟩
  · unfold CNT at c ⊢
    rw [q 5 0 (by unfold Rf Rc Rm0 Rm; omega), q 5 1 (by unfold Rf Rc Rm0 Rm; omega), q 5 2 (by unfold Rf Rc Rm0 Rm; omega), q 5 3 (by unfold Rf Rc Rm0 Rm; omega), q 171 5 (by unfold Rf Rc Rm0 Rm; omega), q 171 8 (by unfold Rf Rc Rm0 Rm; omega), q 171 9 (by unfold Rf Rc Rm0 Rm; omega), q 171 40 (by unfold Rf Rc Rm0 Rm; omega), q 171 36 (by unfold Rf Rc Rm0 Rm; omega)]
    exact c
  · rw [q 6 j (by unfold Rf Rc Rm0 Rm; omega), q 7 j (by unfold Rf Rc Rm0 Rm; omega), q 175 j (by unfold Rf Rc Rm0 Rm; omega), q 176 j (by unfold Rf Rc Rm0 Rm; omega)]
    exact t j hj
  · have hq : ∀ k, gI N (26 + 3 * i) k = gI M (26 + 3 * i) k := fun k => q _ k (by unfold Rf Rc Rm0 Rm; omega)
    rw [hq 0, hq 1, hq 2, hq 3, hq 4, hq 5, hq 6, hq 7, q 177 i (by unfold Rf Rc Rm0 Rm; omega), q 178 i (by unfold Rf Rc Rm0 Rm; omega), q 179 i (by unfold Rf Rc Rm0 Rm; omega), q 180 i (by unfold Rf Rc Rm0 Rm; omega), q 181 i (by unfold Rf Rc Rm0 Rm; omega), q 186 (8 + i) (by unfold Rf Rc Rm0 Rm; omega), q 182 i (by unfold Rf Rc Rm0 Rm; omega), q 183 i (by unfold Rf Rc Rm0 Rm; omega)]
    exact l i hi
  · rw [ql 130 (by unfold Rl; omega)]; exact d1 k hk
  · rw [ql 128 (by unfold Rl; omega)]; exact d2 k hk
  · rw [ql (11 + 2 * l) (by unfold Rl; omega)]; exact d3 l hl k hk
  · rw [ql (28 + 3 * i) (by unfold Rl; omega)]; exact d4 i hi k hk
  · rw [q 189 k (by unfold Rf Rc Rm0 Rm; omega)]; exact d5 k hk
  · rw [q 190 k (by unfold Rf Rc Rm0 Rm; omega)]; exact d6 k hk
  · exact SAI_at (sl l hl) (q 185 l (by unfold Rf Rc Rm0 Rm; omega)) (fun i hi => q 184 _ (by unfold Rf Rc Rm0 Rm; omega))
  · exact SAI_at (sn i hi) (q 185 _ (by unfold Rf Rc Rm0 Rm; omega)) (fun j hj => q 184 _ (by unfold Rf Rc Rm0 Rm; omega))
  · rw [ql 3000 (by unfold Rl; omega)]; exact wd j hj
theorem op_read {E M : Mm} {B : Bk} {d : Nat} (hI : Inv E M B) (hE : TXT E) : Alike E M (d + 26) 118 181 [.ref 1, .null, .null] [.ref 171, .null, .null] := by
  obtain ⟨a1, a2, a3, a4, a5, a6, a7, ⟨bk, bv, a8⟩, a9, a10⟩ := hI
  obtain ⟨T, t1, t2, t3⟩ := TAP_T a4
  have hn := BK_nn a7
  obtain ⟨N1, b1, b2, b3, b4, b5⟩ := c_beginR (d := d + 21) a1 a2 hE t1 a7
  obtain ⟨x1, x2, N2, l1, l2, l3⟩ := c_loop (e := d) (E := E) (T := T) 500 0 N1 B (Nat.le_refl _) b3 (BK_WB a7) b4 (Nat.zero_le _) b5
  have S2 : Sm (Rc (nmB B) (nnB B)) (Rl (nlB B) (nnB B)) M N2 := Sm_trans b2 l2
  have hG2 := Gd_Sm S2 a1
  have st : go (d + 26) 118 0 [.ref 1, .null, .null] [] M = go (d + 26) 118 46 [.ref 1, .int x1, .int x2] [] N2 := by
    rw [q118_0, if_pos (ok_1 a1), gr_1_3 a1, if_pos (ok_98 a1), b1, bV_s]
    exact l1
  have ht : ∀ k, k < T.1 → T.2 k < 256 ∧ gI M 187 k = nI (T.2 k) := fun k hk => ⟨(t1.2.2 k hk).1, t3 k hk⟩
  have hG3 : Gd (sI N2 3 1 0) := hG2
  cases hr : rdF T 500 0 B with
  | inl x =>
    obtain ⟨f, pl⟩ := x
    rw [hr] at l3
    obtain ⟨y1, y2, y3⟩ := l3
    subst y1
    have hG4 : Gd (sI (sI N2 3 1 0) 1 10 (nI f)) := hG2
    have S4 : Sm (Rf (nmB B) (nlB B) (nnB B)) (Rl (nlB B) (nnB B)) M (sI (sI N2 3 1 0) 1 10 (nI f)) := Sm_trans (Sm_mono (fun r k z => Or.inl z) (fun w z => z) S2) (Sm_trans (Sm_sI (by unfold Rf; omega)) (Sm_sI (by unfold Rf; omega)))
    obtain ⟨v, N, m1, m2, m3, m4⟩ := m_begin (d := d + 19) (M := M) (M1 := sI (sI N2 3 1 0) 1 10 (nI f)) (T := T) hG4 a7 (fun r k h => by rw [gI_ne (by omega), gI_ne (by omega), S2.2.2.1 _ _ (by unfold Rc; omega)]) t1.1 t2 ht
    rw [hr] at m4
    have hGN := Gd_Sm m2 hG4
    have hGF : Gd (sI N 171 22 (nI f)) := hGN
    have hf : ¬ gI N 171 28 ≤ 0 := by
      rw [m4.1, show (0 : Int32) = nI 0 from rfl, nI_leI (by have := m4.2.2.2.1; omega) (by omega)]
      have := m4.2.2.1
      omega
    have S5 : Sm (Rf (nmB B) (nlB B) (nnB B)) (Rl (nlB B) (nnB B)) M (sI N 171 22 (nI f)) := Sm_trans S4 (Sm_trans (Sm_mono (fun r k z => Or.inr (Or.inl z)) (fun w z => absurd z (by unfold NoL; exact fun z => z)) m2) (Sm_sI (by unfold Rf; omega)))
    have q := S5.2.2.1
    refine ⟨-1000100 - nI pl, sI (sI N2 3 1 0) 1 10 (nI f), sI N 171 22 (nI f), B, ?_, ?_, ?_⟩
    · have e0 : gI (sI N2 3 1 0) 98 0 = nI f := (gI_ne (by omega)).trans y2
      have e1 : gI (sI (sI N2 3 1 0) 1 10 (nI f)) 98 1 = nI pl := by rw [gI_ne (by omega), gI_ne (by omega)]; exact y3
      rw [st, q118_46, if_pos (ok_1 hG2), gr_1_1 hG2, if_pos (ok_3 hG2), bM_d, if_pos rfl, if_pos (ok_1 hG3), gr_1_3 hG3, if_pos (ok_98 hG3), if_pos (ok_1 hG3), e0, bM_d, if_pos (ok_1 hG4), gr_1_3 hG4, if_pos (ok_98 hG4), e1]
    · have e1 : gI (sI N 171 22 (nI f)) 171 29 = nI pl := (gI_ne (by omega)).trans m4.2.1
      rw [m1, q181_56, if_pos (ok_171 hGN), if_neg (FtM_n m4), if_pos (ok_171 hGN), if_neg hf, if_pos (ok_171 hGN), if_pos (ok_171 hGN), m4.1, bM_d, if_pos (ok_171 hGF), e1]
    · refine ⟨hGF, EXT_Sm (fun r k z => by unfold Rf Rc Rm0 Rm at z; omega) (fun w z => by unfold Rl at z; omega) S5 a2, SHT_cong (fun r k z => q r k (by unfold rdS at z; unfold Rf Rc Rm0 Rm; omega)) a3, ⟨0, by omega, ?_, ?_, fun k hk => by omega⟩, ?_, TRC_cong (fun r k z => q r k (by unfold rdC at z; unfold Rf Rc Rm0 Rm; omega)) a6, BK_fine a7 S5, ⟨bk, bv, BUY_cong (fun r k z => q r k (by unfold rdU at z; unfold Rf Rc Rm0 Rm; omega)) a8⟩, EC_cong (fun r k z => q r k (by unfold rdE at z; unfold Rf Rc Rm0 Rm; omega)) a9, HC_cong (fun r k z => q r k (by unfold rdH at z; unfold Rf Rc Rm0 Rm; omega)) a10⟩
      · rw [gI_ne (by omega), m2.2.2.1 _ _ (by unfold Rm0 Rm; omega), gI_ne (by omega), gI_at]; rfl
      · rw [gI_ne (by omega), m3]; rfl
      · refine ⟨?_, ?_⟩
        · rw [gI_at, gI_ne (by omega), m2.2.2.1 _ _ (by unfold Rm0 Rm; omega), gI_at]
        · rw [q 1 11 (by unfold Rf Rc Rm0 Rm; omega), q 171 1 (by unfold Rf Rc Rm0 Rm; omega)]; exact a5.2
  | inr B' =>
    rw [hr] at l3
    obtain ⟨y1, y2, y3, y4⟩ := l3
    subst y1
    obtain ⟨n1, n2, n3, n4, n5, n6, n7⟩ := y2
    obtain ⟨⟨pb1, pb2, pb3, pb4⟩, pb5, pb6⟩ := id y3
    have A : ∃ N, N = sI (sI (sI (sI N2 3 1 0) 5 0 (nI (nmB B'))) 5 1 (nI (nlB B'))) 5 2 (nI (nnB B')) := ⟨_, rfl⟩
    obtain ⟨N4, e4⟩ := A
    have hG4 : Gd N4 := by rw [e4]; exact hG2
    have q4 : ∀ r k, r ≠ 3 → r ≠ 5 → gI N4 r k = gI N2 r k := fun r k z1 z2 => by rw [e4, gI_ne (by omega), gI_ne (by omega), gI_ne (by omega), gI_ne (by omega)]
    have l4 : gL N4 = gL N2 := by rw [e4]; rfl
    have c50 : gI N4 5 0 = nI (nmB B') := by rw [e4, gI_ne (by omega), gI_ne (by omega), gI_at]
    have c51 : gI N4 5 1 = nI (nlB B') := by rw [e4, gI_ne (by omega), gI_at]
    have c52 : gI N4 5 2 = nI (nnB B') := by rw [e4, gI_at]
    have c53 : gI N4 5 3 = nI (vrB B') := by
      rw [e4, gI_ne (by omega), gI_ne (by omega), gI_ne (by omega), gI_ne (by omega), S2.2.2.1 _ _ (by unfold Rc; omega), y4.2.2.2]
      exact (BK_c a7).2.2.2.2.2.2.1
    have hTC : TC N4 (nmB B') (B'.1 1) (B'.1 2) := ⟨c50, pb1, fun j hj => ⟨(pb5 j hj).1, (pb5 j hj).2, by rw [q4 _ _ (by omega) (by omega)]; exact (n4 j hj).1, by rw [q4 _ _ (by omega) (by omega)]; exact (n4 j hj).2⟩⟩
    obtain ⟨N5, r1, r2, r3, r4⟩ := c_refresh (d := d + 20) (g := B'.2.1) hG4 hTC c51 pb2 (fun l hl k hk => by rw [l4]; exact n6 l hl k hk)
    have hG5 := Gd_Sm r2 hG4
    have hG6 : Gd (sI N5 138 4 0) := hG5
    have hG7 : Gd (sI (sI N5 138 4 0) 148 2 0) := hG5
    have qc : ∀ r k, ¬ (r = 3 ∧ k = 1) → ¬ (r = 5 ∧ k ≤ 2) → ¬ Sg r k → ¬ (r = 138 ∧ k = 4) → ¬ (r = 148 ∧ k = 2) → gI (sI (sI N5 138 4 0) 148 2 0) r k = gI N2 r k := fun r k z1 z2 z3 z4 z5 => by
      rw [gI_ne z5, gI_ne z4, r2.2.2.1 _ _ z3, e4, gI_ne (by omega), gI_ne (by omega), gI_ne (by omega), gI_ne z1]
    have l7 : ∀ w, ¬ Sh w → gL (sI (sI N5 138 4 0) 148 2 0) w = gL N2 w := fun w hw => by
      show gL N5 w = _
      rw [r2.2.2.2 _ hw, l4]
    have k52 : gI (sI (sI N5 138 4 0) 148 2 0) 5 2 = nI (nnB B') := by rw [gI_ne (by omega), gI_ne (by omega), r2.2.2.1 _ _ (by unfold Sg; omega)]; exact c52
    obtain ⟨v, N, m1, m2, m3, m4⟩ := m_begin (d := d + 19) (M := M) (M1 := sI (sI N5 138 4 0) 148 2 0) (T := T) hG7 a7 (fun r k h => by rw [qc r k (by omega) (by omega) (by unfold Sg; omega) (by omega) (by omega), S2.2.2.1 _ _ (by unfold Rc; omega)]) t1.1 t2 ht
    rw [hr] at m4
    obtain ⟨u1, u2, u3, -, -⟩ := m4
    obtain ⟨p1, p2, p3, p4, p5, p6, p7⟩ := u3
    have hGN := Gd_Sm m2 hG7
    have A : ∃ N', N' = sI (sI (sI N 171 5 (nI (nmB B'))) 171 8 (nI (nlB B'))) 171 9 (nI (nnB B')) := ⟨_, rfl⟩
    obtain ⟨N8, e8⟩ := A
    have hG8 : Gd N8 := by rw [e8]; exact hGN
    have q8 : ∀ r k, ¬ (r = 171 ∧ (k = 5 ∨ k = 8 ∨ k = 9)) → gI N8 r k = gI N r k := fun r k z => by rw [e8, gI_ne (by omega), gI_ne (by omega), gI_ne (by omega)]
    have g5 : gI N8 171 5 = nI (nmB B') := by rw [e8, gI_ne (by omega), gI_ne (by omega), gI_at]
    have g8 : gI N8 171 8 = nI (nlB B') := by rw [e8, gI_ne (by omega), gI_at]
    have g9 : gI N8 171 9 = nI (nnB B') := by rw [e8, gI_at]
    have w : WM N8 (nmB B') (nlB B') (nnB B') (B'.1 1) (B'.1 2) B'.2.1 B'.2.2 := ⟨hG8, ⟨g5, pb1, fun j hj => ⟨(pb5 j hj).1, (pb5 j hj).2, by rw [q8 _ _ (by omega)]; exact (p4 j hj).1, by rw [q8 _ _ (by omega)]; exact (p4 j hj).2⟩⟩, ⟨g8, pb2⟩, ⟨g9, pb3⟩, fun l hl => SAI_at (p6 l hl) (q8 _ _ (by omega)) (fun i _ => q8 _ _ (by omega)), fun i hi => SAI_at (p7 i hi) (q8 _ _ (by omega)) (fun i _ => q8 _ _ (by omega))⟩
    obtain ⟨N9, o1, o2, o3, o4, o5⟩ := m_workOut (d := d + 22) w
    have hG9 := Gd_Sm o2 hG8
    have k9 : gI N9 171 9 = nI (nnB B') := (o2.2.2.1 _ _ (by unfold Sw So; omega)).trans g9
    -- what the last memory holds of the class, of the model
    have qF : ∀ r k, r < 171 → gI N9 r k = gI (sI (sI N5 138 4 0) 148 2 0) r k := fun r k h => by
      rw [o2.2.2.1 _ _ (by unfold Sw So; omega), q8 _ _ (by omega), m2.2.2.1 _ _ (by unfold Rm0 Rm; omega)]
    have lF : gL N9 = gL (sI (sI N5 138 4 0) 148 2 0) := by
      funext w
      rw [o2.2.2.2 _ (by unfold NoL; exact fun z => z), e8]
      show gL N w = _
      rw [m2.2.2.2 _ (by unfold NoL; exact fun z => z)]
    have qM : ∀ r k, ¬ (r = 171 ∧ (k = 5 ∨ k = 8 ∨ k = 9 ∨ k = 36)) → ¬ So r k → gI N9 r k = gI N r k := fun r k z1 z2 => by
      rw [o2.2.2.1 _ _ (fun z => z.elim z2 (fun y => z1 ⟨y.1, Or.inr (Or.inr (Or.inr y.2))⟩)), q8 _ _ (by omega)]
    have qO : ∀ r k, 171 ≤ r → ¬ Rm0 (nmB B) (nlB B) (nnB B) r k → ¬ (r = 171 ∧ (k = 5 ∨ k = 8 ∨ k = 9 ∨ k = 36)) → ¬ So r k → gI N9 r k = gI M r k := fun r k z0 z1 z2 z3 => by
      rw [qM r k z2 z3, m2.2.2.1 _ _ z1, qc r k (by omega) (by omega) (by unfold Sg; omega) (by omega) (by omega), S2.2.2.1 _ _ (by unfold Rc; omega)]
    have qP : ∀ r k, r < 171 → ¬ Rc (nmB B) (nnB B) r k → ¬ (r = 3 ∧ k = 1) → ¬ (r = 5 ∧ k ≤ 2) → ¬ Sg r k → ¬ (r = 138 ∧ k = 4) → ¬ (r = 148 ∧ k = 2) → gI N9 r k = gI M r k := fun r k z0 z1 z2 z3 z4 z5 z6 => by
      rw [qF r k z0, qc r k z2 z3 z4 z5 z6, S2.2.2.1 _ _ z1]
    have hBK : BK N9 B' := by
      refine BK_make y3 ⟨?_, ?_, ?_, ?_, ?_, k9, ?_, ?_, o3, pb1, pb2, pb3, pb4⟩ (fun j hj => ?_) (fun j hj => ?_) (fun i hi => ?_) (fun i hi => ?_) ⟨fun k hk => ?_, fun k hk => ?_, fun l hl k hk => ?_, fun i hi k hk => ?_, o4, o5⟩ (fun l hl => ?_) (fun i hi => ?_) (fun j hj => ?_)
      · rw [qF _ _ (by omega), gI_ne (by omega), gI_ne (by omega), r2.2.2.1 _ _ (by unfold Sg; omega)]; exact c50
      · exact (o2.2.2.1 _ _ (by unfold Sw So; omega)).trans g5
      · rw [qF _ _ (by omega), gI_ne (by omega), gI_ne (by omega), r2.2.2.1 _ _ (by unfold Sg; omega)]; exact c51
      · exact (o2.2.2.1 _ _ (by unfold Sw So; omega)).trans g8
      · rw [qF _ _ (by omega)]; exact k52
      · rw [qF _ _ (by omega), gI_ne (by omega), gI_ne (by omega), r2.2.2.1 _ _ (by unfold Sg; omega)]; exact c53
      · rw [qO _ _ (by omega) (by unfold Rm0 Rm; omega) (by omega) (by unfold So; omega), y4.2.2.2]; exact (BK_c a7).2.2.2.2.2.2.2.1
      · rw [qF _ _ (by omega), qF _ _ (by omega), qc _ _ (by omega) (by omega) (by unfold Sg; omega) (by omega) (by omega), qc _ _ (by omega) (by omega) (by unfold Sg; omega) (by omega) (by omega)]; exact n4 j hj
      · rw [qM _ _ (by omega) (by unfold So; omega), qM _ _ (by omega) (by unfold So; omega)]; exact p4 j hj
      · have h : ∀ k, gI N9 (26 + 3 * i) k = gI N2 (26 + 3 * i) k := fun k => by rw [qF _ _ (by omega), qc _ _ (by omega) (by omega) (by unfold Sg; omega) (by omega) (by omega)]
        rw [h, h, h, h, h, h, h, h]; exact n5 i hi
      · rw [qM 177 i (by omega) (by unfold So; omega), qM 178 i (by omega) (by unfold So; omega), qM 179 i (by omega) (by unfold So; omega), qM 180 i (by omega) (by unfold So; omega), qM 181 i (by omega) (by unfold So; omega), qM 186 (8 + i) (by omega) (by unfold So; omega), qM 182 i (by omega) (by unfold So; omega), qM 183 i (by omega) (by unfold So; omega)]; exact p5 i hi
      · rw [lF]; exact r3 k hk
      · rw [lF]; exact r4 k hk
      · rw [lF, l7 _ (by unfold Sh; omega)]; exact n6 l hl k hk
      · rw [lF, l7 _ (by unfold Sh; omega)]; exact n7 i hi k hk
      · exact SAI_at (p6 l hl) (qM _ _ (by omega) (by unfold So; omega)) (fun i _ => qM _ _ (by omega) (by unfold So; omega))
      · exact SAI_at (p7 i hi) (qM _ _ (by omega) (by unfold So; omega)) (fun i _ => qM _ _ (by omega) (by unfold So; omega))
      · rw [lF, l7 _ (by unfold Sh; omega), S2.2.2.2 _ (by unfold Rl; omega)]; exact a7.2.2.2.2.2.2.1 j hj
    have sO : ∀ r k, ¬ (r = 3) → ¬ (r = 5) → ¬ (r = 6) → ¬ (r = 7) → ¬ (26 ≤ r ∧ r ≤ 98) → ¬ (135 ≤ r ∧ r ≤ 137) → ¬ (r = 138 ∧ k = 4) → ¬ (r = 148 ∧ k = 2) → ¬ (r = 171 ∧ (k = 0 ∨ k = 5 ∨ k = 8 ∨ k = 9 ∨ k = 21 ∨ (23 ≤ k ∧ k ≤ 36))) → ¬ (175 ≤ r ∧ r ≤ 186) → ¬ (188 ≤ r ∧ r ≤ 191) → gI N9 r k = gI M r k := fun r k z1 z2 z3 z4 z5 z6 z7 z8 z9 z10 z11 => by
      by_cases h : r < 171
      · exact qP r k h (by unfold Rc; omega) (by omega) (by omega) (by unfold Sg; omega) z7 z8
      · exact qO r k (by omega) (by unfold Rm0 Rm; omega) (by omega) (by unfold So; omega)
    refine ⟨nI (nnB B'), sI (sI N5 138 4 0) 148 2 0, N9, B', ?_, ?_, ?_⟩
    · have hGa : Gd (sI (sI N2 3 1 0) 5 0 (nI (nmB B'))) := hG2
      have hGb : Gd (sI (sI (sI N2 3 1 0) 5 0 (nI (nmB B'))) 5 1 (nI (nlB B'))) := hG2
      have k0 : gI (sI N2 3 1 0) 98 5 = nI (nmB B') := (gI_ne (by omega)).trans n1
      have k1 : gI (sI (sI N2 3 1 0) 5 0 (nI (nmB B'))) 98 6 = nI (nlB B') := by rw [gI_ne (by omega), gI_ne (by omega)]; exact n2
      have k2 : gI (sI (sI (sI N2 3 1 0) 5 0 (nI (nmB B'))) 5 1 (nI (nlB B'))) 98 7 = nI (nnB B') := by rw [gI_ne (by omega), gI_ne (by omega), gI_ne (by omega)]; exact n3
      have ka : go (d + 25) 79 0 [.ref 98] [] (sI N2 3 1 0) = some (none, N4) := by
        rw [q79_0, if_pos (ok_98 hG3), if_pos (ok_98 hG3), gr_98_3 hG3, if_pos (ok_5 hG3), k0, bM_d, if_pos (ok_98 hGa), if_pos (ok_98 hGa), gr_98_3 hGa, if_pos (ok_5 hGa), k1, bM_d, if_pos (ok_98 hGb), if_pos (ok_98 hGb), gr_98_3 hGb, if_pos (ok_5 hGb), k2, bM_d, ← e4]
      rw [st, q118_46, if_pos (ok_1 hG2), gr_1_1 hG2, if_pos (ok_3 hG2), bM_d, if_neg (by decide), if_pos (ok_1 hG3), gr_1_3 hG3, if_pos (ok_98 hG3), ka, bV_s, if_pos (ok_1 hG4), gr_1_4 hG4, if_pos (ok_126 hG4), r1, bV_s, if_pos (ok_1 hG5), gr_1_5 hG5, if_pos (ok_138 hG5), bM_d, if_pos (ok_1 hG6), gr_1_6 hG6, if_pos (ok_148 hG6), bM_d, if_pos (ok_1 hG7), gr_1_2 hG7, if_pos (ok_5 hG7), k52]
    · have hGa : Gd (sI N 171 5 (nI (nmB B'))) := hGN
      have hGb : Gd (sI (sI N 171 5 (nI (nmB B'))) 171 8 (nI (nlB B'))) := hGN
      have k1 : gI (sI N 171 5 (nI (nmB B'))) 171 31 = nI (nlB B') := (gI_ne (by omega)).trans p2
      have k2 : gI (sI (sI N 171 5 (nI (nmB B'))) 171 8 (nI (nlB B'))) 171 32 = nI (nnB B') := by rw [gI_ne (by omega), gI_ne (by omega)]; exact p3
      rw [m1, q181_56, if_pos (ok_171 hGN), if_pos u1, if_pos (ok_171 hGN), if_pos u2, if_pos (ok_171 hGN), if_pos (by rw [u1]; decide), if_pos (ok_171 hGN), if_pos (ok_171 hGN), p1, bM_d, if_pos (ok_171 hGa), if_pos (ok_171 hGa), k1, bM_d, if_pos (ok_171 hGb), if_pos (ok_171 hGb), k2, bM_d, ← e8, if_pos (ok_171 hG8), o1, bV_s, if_pos (ok_171 hG9), k9]
    · refine ⟨hG9, ?_, SHT_cong (fun r k z => sO r k (by unfold rdS at z; omega) (by unfold rdS at z; omega) (by unfold rdS at z; omega) (by unfold rdS at z; omega) (by unfold rdS at z; omega) (by unfold rdS at z; omega) (by unfold rdS at z; omega) (by unfold rdS at z; omega) (by unfold rdS at z; omega) (by unfold rdS at z; omega) (by unfold rdS at z; omega)) a3, ⟨0, by omega, ?_, ?_, fun k hk => by omega⟩, ?_, TRC_cong (fun r k z => sO r k (by unfold rdC at z; omega) (by unfold rdC at z; omega) (by unfold rdC at z; omega) (by unfold rdC at z; omega) (by unfold rdC at z; omega) (by unfold rdC at z; omega) (by unfold rdC at z; omega) (by unfold rdC at z; omega) (by unfold rdC at z; omega) (by unfold rdC at z; omega) (by unfold rdC at z; omega)) a6, hBK, ⟨bk, bv, fun b hb => ?_⟩, Or.inl ?_, Or.inl ?_⟩
      · intro r hr1
        obtain ⟨x1, x2, x3⟩ := a2 r hr1
        refine ⟨?_, ?_, ?_⟩
        · rw [← x1]; funext k; exact sO r k (by omega) (by omega) (by omega) (by omega) (by omega) (by omega) (by omega) (by omega) (by omega) (by omega) (by omega)
        · rw [← x2, lF, l7 _ (by unfold Sh; omega), S2.2.2.2 _ (by unfold Rl; omega)]
        · rw [← x3]; funext k
          rw [o2.2.1 _ _ (by omega), e8]
          show gR N r k = _
          rw [m2.2.1 _ _ (by omega)]
          show gR N5 r k = _
          rw [r2.2.1 _ _ (by omega), e4]
          show gR N2 r k = _
          rw [S2.2.1 _ _ (by omega)]
      · rw [qF _ _ (by omega), gI_ne (by omega), gI_ne (by omega), r2.2.2.1 _ _ (by unfold Sg; omega), e4, gI_ne (by omega), gI_ne (by omega), gI_ne (by omega), gI_at]; rfl
      · rw [qM _ _ (by omega) (by unfold So; omega), m3]; rfl
      · unfold LAT at a5 ⊢
        rw [sO 1 10 (by omega) (by omega) (by omega) (by omega) (by omega) (by omega) (by omega) (by omega) (by omega) (by omega) (by omega), sO 1 11 (by omega) (by omega) (by omega) (by omega) (by omega) (by omega) (by omega) (by omega) (by omega) (by omega) (by omega), sO 171 22 (by omega) (by omega) (by omega) (by omega) (by omega) (by omega) (by omega) (by omega) (by omega) (by omega) (by omega), sO 171 1 (by omega) (by omega) (by omega) (by omega) (by omega) (by omega) (by omega) (by omega) (by omega) (by omega) (by omega)]
        exact a5
      · have h1 := a8 b hb
        rw [sO 153 b (by omega) (by omega) (by omega) (by omega) (by omega) (by omega) (by omega) (by omega) (by omega) (by omega) (by omega), sO 195 b (by omega) (by omega) (by omega) (by omega) (by omega) (by omega) (by omega) (by omega) (by omega) (by omega) (by omega), sO 154 b (by omega) (by omega) (by omega) (by omega) (by omega) (by omega) (by omega) (by omega) (by omega) (by omega) (by omega), sO 196 b (by omega) (by omega) (by omega) (by omega) (by omega) (by omega) (by omega) (by omega) (by omega) (by omega) (by omega)]
        exact ⟨Nat.lt_of_lt_of_le h1.1 (Nat.pow_le_pow_right (by omega) y4.1), h1.2⟩
      · rw [qF _ _ (by omega), gI_ne (by omega), gI_at]
      · rw [qF _ _ (by omega), gI_at]
