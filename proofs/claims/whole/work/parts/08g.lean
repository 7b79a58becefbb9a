/-! ===== sheets ===== -/
def SHT (M : Mm) : Prop := ∀ s, s < 8 → gI M (155 + 2 * s) 0 = gI M 172 s ∧ (∃ t, t ≤ 3 ∧ gI M 172 s = nI t - 1) ∧ (∃ n, n ≤ 40 ∧ gI M (155 + 2 * s) 1 = nI n ∧ gI M 173 s = nI n) ∧ ∀ k, k < 40 → gI M (156 + 2 * s) k = gI M 174 (40 * s + k)
theorem c_found {d : Nat} {M : Mm} (hG : Gd M) (x : Int32) : go (d + 1) 146 0 [.ref 1, .int x] [] M = some (some (.int (-1000010 - x)), sI M 1 11 x) := by
  have o1 := ok_1 hG
  simp only [q146_0, bI_s, bL_s, bV_s, bM_d, bX_d, gI_sL, gI_sR, gL_sI, gL_sR, gR_sI, gR_sL, gR_sZ, gL_sZ, gR_cI, okO_sI, okO_sL, okO_sZ, okO_cI, okA_sI, okA_sL, okA_sZ, okA_cI, rOK_sI, rOK_sL, rOK_sZ, rOK_cI, wOK_sI, wOK_sL, wOK_sZ, wOK_cI, rB_sI, rB_sL, rB_sZ, rB_cI, wB_sI, wB_sL, wB_sZ, wB_cI, rQ_sI, rQ_sL, rQ_sZ, rQ_cI, okL_sI, okL_sL, okL_sZ, okL_cI, if_true, if_false, eq_self, ↓reduceIte, o1]
theorem c_fine {d : Nat} {M : Mm} (hG : Gd M) (x : Int32) : go (d + 1) 147 0 [.ref 1, .int x] [] M = some (some (.int x), sI M 1 11 0) := by
  have o1 := ok_1 hG
  simp only [q147_0, bI_s, bL_s, bV_s, bM_d, bX_d, gI_sL, gI_sR, gL_sI, gL_sR, gR_sI, gR_sL, gR_sZ, gL_sZ, gR_cI, okO_sI, okO_sL, okO_sZ, okO_cI, okA_sI, okA_sL, okA_sZ, okA_cI, rOK_sI, rOK_sL, rOK_sZ, rOK_cI, wOK_sI, wOK_sL, wOK_sZ, wOK_cI, rB_sI, rB_sL, rB_sZ, rB_cI, wB_sI, wB_sL, wB_sZ, wB_cI, rQ_sI, rQ_sL, rQ_sZ, rQ_cI, okL_sI, okL_sL, okL_sZ, okL_cI, if_true, if_false, eq_self, ↓reduceIte, o1]
theorem m_finding {d : Nat} {M : Mm} (hG : Gd M) (x : Int32) : go (d + 1) 155 0 [.ref 171, .int x] [] M = some (some (.int (-1000010 - x)), sI M 171 1 x) := by
  have o1 := ok_171 hG
  simp only [q155_0, bI_s, bL_s, bV_s, bM_d, bX_d, gI_sL, gI_sR, gL_sI, gL_sR, gR_sI, gR_sL, gR_sZ, gL_sZ, gR_cI, okO_sI, okO_sL, okO_sZ, okO_cI, okA_sI, okA_sL, okA_sZ, okA_cI, rOK_sI, rOK_sL, rOK_sZ, rOK_cI, wOK_sI, wOK_sL, wOK_sZ, wOK_cI, rB_sI, rB_sL, rB_sZ, rB_cI, wB_sI, wB_sL, wB_sZ, wB_cI, rQ_sI, rQ_sL, rQ_sZ, rQ_cI, okL_sI, okL_sL, okL_sZ, okL_cI, if_true, if_false, eq_self, ↓reduceIte, o1]
theorem fillI {d : Nat} {M : Mm} {w n : Nat} {x : Int32} (hw : ∀ j, j < n → wOK M w 0 (nI j) = true) (h3 : okA M w 0 = true) (h4 : w < 1000) (h5 : (SH w).2 = n) (hn : n < 2 ^ 31) : go (d + 1) 247 0 [.ref w, .int x, .null, .null] [] M = some (none, wI M w (fun i => if i < n then x else gI M w i)) := by
  rw [q247_0, if_pos (by simp [okL, h3]), show aLen M w = n by rw [aLen, if_neg (by omega), h5]]
  have h := loopM (fun j N => go (d + 1) 247 5 [.ref w, .int x, .int (nI j), .int (nI n)] [] N) n (fun k => wI M w (fun i => if i < k then x else gI M w i)) (fun j hj => by
    have k4 : wOK (wI M w (fun i => if i < j then x else gI M w i)) w 0 (nI j) = true := hw j hj
    try dsimp only
    rw [q247_5, if_neg (by rw [nI_leI (by omega) (by omega)]; omega), if_pos k4, bM_d, nI_clamp (by omega), sI_wI, nI_1]
    congr 2
    funext i
    by_cases h1 : i = j
    · subst h1; simp
    · by_cases h2 : i < j
      · simp [h1, h2, Nat.lt_succ_of_lt h2]
      · simp [h1, h2, show ¬ i < j + 1 by omega]) n (Nat.le_refl _)
  try dsimp only at h
  rw [show (fun i => if i < 0 then x else gI M w i) = gI M w from funext fun j => by simp, wI_self] at h
  rw [show (0 : Int32) = nI 0 from rfl, show Int32.ofNat n = nI n from rfl, h, q247_5, if_pos (by rw [nI_leI (by omega) (by omega)]; omega)]
