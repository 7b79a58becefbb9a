/-! ===== the class works out anew: all of it ===== -/
theorem c_treeHolds {d nm K : Nat} {M : Mm} {pa wy : Nat → Nat} (hG : Gd M) (hT : TC M nm pa wy) (h : BR M pa wy nm) (hK : K < 1024) : go (d + 3) 61 0 [.ref 126, .int (nI K), .null, .null] [] M = some (some (.int (b2i (treeB nm pa wy K))), M) := by
  have hT' := hT
  obtain ⟨c1, c2, c3⟩ := hT
  have o := ok_126 hG
  rw [tree_br (fun j hj => (c3 j hj).1), q61_0]
  refine loopX (σ := Value) (fun b v => go (d + 3) 61 2 [.ref 126, .int (nI K), .int (nI b), v] [] M) (fun b _ => allB (brT nm pa wy K) b = true) (fun r => r = some (some (.int (b2i (allB (brT nm pa wy K) (nm + 1)))), M)) (nm + 1) (fun b v hb hI => ?_) (fun v hI => ?_) (nm + 1) 0 .null (by omega) rfl
  · have l : ¬ nI nm < nI b := by rw [nI_ltI (by omega) (by omega)]; omega
    have hs : ∃ x : Int32, x = b2i (onB K b) ∧ go (d + 3) 61 2 [.ref 126, .int (nI K), .int (nI b), v] [] M = go (d + 3) 61 32 [.ref 126, .int (nI K), .int (nI b), v] [.int x] M := by
      refine ⟨_, rfl, ?_⟩
      unfold onB
      rw [q61_2, if_pos o, gr_126_4 hG, if_pos (ok_5 hG), c1, if_neg l]
      by_cases h0 : b = 0
      · subst h0
        rw [if_pos (show nI 0 = 0 from rfl), if_pos rfl]; rfl
      · have b0 : nI b = 0 ↔ b = 0 := nI_eq (a := b) (b := 0) (by omega) (by omega)
        have bm : nI b - (1 : Int32) = nI (b - 1) := pk_sub (show 1 ≤ b by omega)
        rw [if_neg (fun z => h0 (b0.mp z)), if_neg h0, bm, c_hasBit (d := d + 1) (show K < 2 ^ 31 by omega) (show b - 1 < 31 by omega), bI_s]
        cases K.testBit (b - 1)
        · rw [if_pos (by decide)]; rfl
        · rw [if_neg (by decide)]; rfl
    obtain ⟨x, hx, e1⟩ := hs
    have key : (brT nm pa wy K b = false → go (d + 3) 61 32 [.ref 126, .int (nI K), .int (nI b), v] [.int x] M = some (some (.int 0), M)) ∧ (brT nm pa wy K b = true → ∃ v', go (d + 3) 61 32 [.ref 126, .int (nI K), .int (nI b), v] [.int x] M = go (d + 3) 61 2 [.ref 126, .int (nI K), .int (nI (b + 1)), v'] [] M) := by
      unfold brT
      rw [q61_32, hx]
      cases ho : onB K b with
      | true =>
        have cb := c_branch (d := d) (K := K) hG c2 h (show b ≤ nm by omega)
        rw [if_pos rfl, if_neg (by decide), if_pos o, cb, bI_s]
        exact ⟨fun z => by rw [z, if_pos (by decide)], fun z => ⟨_, by rw [z, if_neg (by decide), nI_1]⟩⟩
      | false =>
        rw [if_neg (by decide), if_pos (by decide), if_pos o, gr_126_5 hG, if_pos (rk_135 hG (by omega)), nI_clamp (by omega), h.1 b (by omega), and_k]
        exact ⟨fun z => by rw [if_neg (fun y => by rw [(nI_b0 (by omega)).mp y] at z; cases z)], fun z => ⟨_, by rw [if_pos ((nI_b0 (by omega)).mpr z), nI_1]⟩⟩
    try dsimp only
    rw [e1]
    cases hz : brT nm pa wy K b with
    | false =>
      left
      rw [key.1 hz, allB_f (k := b) hb hz]; rfl
    | true =>
      right
      obtain ⟨v', e2⟩ := key.2 hz
      exact ⟨v', e2, by show (allB (brT nm pa wy K) b && brT nm pa wy K b) = true; rw [hI, hz]; rfl⟩
  · try dsimp only
    rw [q61_2, if_pos o, gr_126_4 hG, if_pos (ok_5 hG), c1, if_pos (by rw [nI_ltI (by omega) (by omega)]; omega), hI]; rfl
def Sh (w : Nat) : Prop := w = 128 ∨ w = 130
theorem c_refresh {d nm nl : Nat} {M : Mm} {pa wy : Nat → Nat} {g : Nat → Nat → Bool} (hG : Gd M) (hT : TC M nm pa wy) (hl : gI M 5 1 = nI nl) (hl8 : nl ≤ 8) (hg : ∀ l, l < nl → ∀ k, k < 1024 → kb (gL M (11 + 2 * l)) k = g l k) : ∃ N, go (d + 5) 59 0 [.ref 126, .null] [] M = some (none, N) ∧ Sm Sg Sh M N ∧ (∀ k, k < 1024 → kb (gL N 130) k = (decide (k < 2 ^ nm) && treeB nm pa wy k)) ∧ (∀ k, k < 1024 → kb (gL N 128) k = (decide (k < 2 ^ nm) && treeB nm pa wy k && allB (fun l => g l k) nl)) := by
  have hp := p10 hT.2.1
  obtain ⟨N1, a1, a2, a3⟩ := c_gatherB (d := d + 2) hG hT
  have hG1 := Gd_Sm a2 hG
  have hT1 : TC N1 nm pa wy := TC_S hT a2 (by unfold Sg; omega) (fun k => by unfold Sg; omega) (fun k => by unfold Sg; omega)
  obtain ⟨N2, b1, b2⟩ := kt_clear (d := d + 2) (KS_tree hG1)
  obtain ⟨N3, r1, r2⟩ := loopI (σ := Mm) (fun k N => go (d + 5) 59 13 [.ref 126, .int (nI k)] [] N) (fun k N => KSet N1 N 130 (fun j => decide (j < k) && treeB nm pa wy j)) (2 ^ nm) (fun k N hk hN => by
    have hGN := KSet_G hN hG1
    have eI := KSet_I hN
    have hTN : TC N nm pa wy := by unfold TC at hT1 ⊢; rw [eI]; exact hT1
    have hBN : BR N pa wy nm := by unfold BR at a3 ⊢; rw [eI]; exact a3
    have th := c_treeHolds (d := d + 1) (K := k) hGN hTN hBN (by omega)
    have l : ¬ nI (2 ^ nm - 1) < nI k := by rw [nI_ltI (by omega) (by omega)]; omega
    have st : go (d + 5) 59 13 [.ref 126, .int (nI k)] [] N = if b2i (treeB nm pa wy k) = 0 then go (d + 5) 59 13 [.ref 126, .int (nI (k + 1))] [] N else if okO N 126 5 = true then if okO N 129 4 = true then bV (go (d + 4) 42 0 [.ref 129, .int (nI k)] [] N) fun M6 => go (d + 5) 59 13 [.ref 126, .int (nI (k + 1))] [] M6 else none else none := by
      rw [q59_13, if_pos (ok_126 hGN), gr_126_4 hGN, if_pos (ok_5 hGN), q19_0, if_pos (ok_5 hGN), hTN.1, shl1m nm (by have := hT.2.1; omega), bI_s, if_neg l, if_pos (ok_126 hGN), th, bI_s, gr_126_1 hGN, nI_1]
    try dsimp only
    rw [st]
    cases hz : treeB nm pa wy k with
    | false =>
      refine ⟨N, by rw [if_pos (by decide)], KSet_c hN (fun j hj => ?_)⟩
      by_cases e : j = k
      · subst e; simp [hz]
      · have : decide (j < k + 1) = decide (j < k) := by apply decide_eq_decide.mpr; omega
        rw [this]
    | true =>
      obtain ⟨N', p1, p2⟩ := kt_put (d := d + 3) hN (KS_tree hG1) (show k < 1024 by omega)
      refine ⟨N', by rw [if_neg (by decide), if_pos (ok_126 hGN), if_pos (ok_129 hGN), p1, bV_s], KSet_c p2 (fun j hj => ?_)⟩
      by_cases e : j = k
      · subst e; simp [hz]
      · have : decide (j < k + 1) = decide (j < k) := by apply decide_eq_decide.mpr; omega
        rw [this, decide_eq_false e, Bool.or_false]) (2 ^ nm) 0 N2 (by omega) (KSet_c b2 (fun j hj => by simp))
  have hG3 := KSet_G r2 hG1
  have eI3 := KSet_I r2
  have hT3 : TC N3 nm pa wy := by unfold TC at hT1 ⊢; rw [eI3]; exact hT1
  have S3 : Sm Sg Sh M N3 := Sm_trans (Sm_mono (fun r k z => z) (fun r z => absurd z (by unfold NoL; exact fun z => z)) a2) (KSet_Sm r2 (Or.inr rfl))
  obtain ⟨N4, t1, t2⟩ := kt_take (d := d + 3) (KS_allowed hG3) (KS_tree hG3) rfl rfl
  have e51 : gI N3 5 1 = nI nl := (S3.2.2.1 _ _ (by unfold Sg; omega)).trans hl
  obtain ⟨N5, u1, u2⟩ := loopI (σ := Mm) (fun l N => go (d + 5) 59 59 [.ref 126, .int (nI l)] [] N) (fun l N => KSet N3 N 128 (fun k => kb (gL N3 130) k && allB (fun l => g l k) l)) nl (fun l N hl1 hN => by
    have hGN := KSet_G hN hG3
    have eI := KSet_I hN
    obtain ⟨N', k1, k2⟩ := kt_keep (d := d + 3) hN (show 11 + 2 * l ≠ 128 by omega) (KS_allowed hG3) (KS_law hG3 (show l < 8 by omega))
    refine ⟨N', ?_, KSet_c k2 (fun k hk => ?_)⟩
    · try dsimp only
      rw [q59_59, if_pos (ok_126 hGN), gr_126_4 hGN, if_pos (ok_5 hGN), eI, e51, if_neg (by rw [nI_leI (by omega) (by omega)]; omega), if_pos (ok_126 hGN), if_pos (ok_126 hGN), if_pos (ok_5 hGN), gr_5_6 hGN, if_pos (rk_8 hGN (by omega)), gr_126_0 hGN, if_pos (ok_127 hGN), nI_clamp (by omega), gr_law hGN (by omega), k1, bV_s, nI_1]
    · rw [S3.2.2.2 (11 + 2 * l) (by unfold Sh; omega), hg l hl1 k hk, Bool.and_assoc]; rfl) nl 0 N4 (by omega) (KSet_c t2 (fun k _ => by simp [allB]))
  have hG5 := KSet_G u2 hG3
  have eI5 := KSet_I u2
  have q3 := KSet_g r2
  refine ⟨N5, ?_, Sm_trans S3 (KSet_Sm u2 (Or.inl rfl)), fun k hk => ?_, fun k hk => ?_⟩
  · have r1' : go (d + 5) 59 13 [.ref 126, .int (0 : Int32)] [] N2 = go (d + 5) 59 13 [.ref 126, .int (nI (2 ^ nm))] [] N3 := r1
    have u1' : go (d + 5) 59 59 [.ref 126, .int (0 : Int32)] [] N4 = go (d + 5) 59 59 [.ref 126, .int (nI nl)] [] N5 := u1
    rw [q59_0, if_pos (ok_126 hG), a1, bV_s, if_pos (ok_126 hG1), gr_126_1 hG1, if_pos (ok_129 hG1), b1, bV_s, r1', q59_13, if_pos (ok_126 hG3), gr_126_4 hG3, if_pos (ok_5 hG3), q19_0, if_pos (ok_5 hG3), hT3.1, shl1m nm (by have := hT.2.1; omega), bI_s, if_pos (by rw [nI_ltI (by omega) (by omega)]; omega), if_pos (ok_126 hG3), if_pos (ok_126 hG3), gr_126_0 hG3, gr_126_1 hG3, if_pos (ok_127 hG3), t1, bV_s, u1', q59_59, if_pos (ok_126 hG5), gr_126_4 hG5, if_pos (ok_5 hG5), eI5, e51, if_pos (by rw [nI_leI (by omega) (by omega)]; omega)]
  · rw [KSet_o u2 (by omega)]; exact q3 k hk
  · rw [KSet_g u2 k hk, q3 k hk]
