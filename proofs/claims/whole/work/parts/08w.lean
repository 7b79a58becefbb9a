/-! ===== sheets: set ===== -/
theorem c_hasPlaces1 {d : Nat} {M : Mm} {s n : Nat} {x : Int32} (hG : Gd M) (hs : s < 8) (hn : n ≤ 40) (e : gI M (155 + 2 * s) 1 = nI n) : go (d + 1) 101 0 [.ref (155 + 2 * s), .int x, .int (1 : Int32)] [] M = some (some (.int (b2i (inR n x))), M) := by
  rw [q101_0, if_neg (by decide), if_pos (ok_sheet hG hs), e]
  have hsub := subm1 (n := n) (by omega)
  cases h : inR n x with
  | true =>
    obtain ⟨k, hk, rfl⟩ := inR_n (by omega) h
    rw [if_neg (nI_pos (by omega)), if_neg (by rw [fa_lt, nI_toInt (by omega)]; omega)]; rfl
  | false =>
    by_cases h0 : x < 0
    · rw [if_pos h0]; rfl
    · obtain ⟨j, hj, rfl⟩ := nI_of h0
      rw [if_neg h0, if_pos ?_]
      · rfl
      · rw [fa_lt, nI_toInt hj]
        have : ¬ j < n := fun z => by rw [inR_nI (by omega) z] at h; cases h
        omega
def nvI (l v : Int32) : Int32 := if l = 0 then v.toInt8.toInt32 else if l = 1 then v.toInt16.toInt32 else v
theorem ix40 (s i : Nat) : ((40 : Int32) * nI s) + nI i = nI (40 * s + i) := by
  rw [show (40 : Int32) = nI 40 from rfl, pk_mul, nI_add]
theorem op_set {E M : Mm} {B : Bk} {d : Nat} (hI : Inv E M B) (x y v : Int32) : Alike E M (d + 3) 114 159 [.ref 1, .int x, .int y, .int v, .null] [.ref 171, .int x, .int y, .int v] := by
  have hG := hI.1
  have hS := hI.2.2.1
  have o1 := ok_1 hG
  have o := ok_171 hG
  cases h : inR 8 x with
  | false =>
    refine Alike_q hI (-1000001) M (sI M 171 0 0) ?_ Sm_refl ?_ sm0
    · simp only [q114_0, c_isSheet, bI_s, b2i0, h, if_true]
    · simp only [q159_0, o, if_true, bM_d, m_isSheet, bI_s, b2i0, h]
  | true =>
    obtain ⟨s, hs, rfl⟩ := inR_n (by omega) h
    have cl := nI_clamp (n := s) (by omega)
    obtain ⟨e1, ⟨t, ht, e2⟩, ⟨n, hn, e3, e4⟩, e5⟩ := hS s hs
    by_cases hm : gI M 172 s = -1
    · refine ⟨-1000010 - 1, sI M 1 11 1, sI (sI (sI (sI M 1 11 1) 171 0 0) 171 1 0) 171 1 1, B, ?_, ?_, ?_⟩
      · simp only [q114_0, c_isSheet, bI_s, b2i0, h, if_true, Bool.true_eq_false, if_false, o1, gr_1_0 hG, rk_2 hG hs, cl, gr_sheet hG hs, ok_sheet hG hs, c_isMissing hG hS hs, decide_eq_true hm, c_found hG]
      · have l0 : gI (sI (sI (sI M 1 11 1) 171 0 0) 171 1 0) 172 s = -1 := by
          rw [gI_ne (by omega), gI_ne (by omega), gI_ne (by omega)]; exact hm
        simp only [q159_0, o, okO_sI, if_true, bM_d, m_isSheet, bI_s, b2i0, h, Bool.true_eq_false, if_false, gR_sI, gr_171_2 hG, rOK_sI, rk_172 hG hs, cl, l0, show ¬ (0 : Int32) ≤ -1 by decide, m_finding (M := sI (sI (sI M 1 11 1) 171 0 0) 171 1 0) hG]
      · exact Inv_l hI (Sm_trans (Sm_sI (by unfold Ls Qs; omega)) (Sm_trans (Sm_sI (by unfold Ls Qs; omega)) (Sm_trans (Sm_sI (by unfold Ls Qs; omega)) (Sm_sI (by unfold Ls Qs; omega))))) rfl
    · have lp := (lane_p hS hs).mpr hm
      cases hy : inR n y with
      | false =>
        refine ⟨-1000010 - 2, sI M 1 11 2, sI (sI (sI (sI M 1 11 2) 171 0 0) 171 1 0) 171 1 2, B, ?_, ?_, ?_⟩
        · simp only [q114_0, c_isSheet, bI_s, b2i0, h, if_true, Bool.true_eq_false, if_false, o1, gr_1_0 hG, rk_2 hG hs, cl, gr_sheet hG hs, ok_sheet hG hs, c_isMissing hG hS hs, decide_eq_false hm, c_hasPlaces1 hG hs hn e3, hy, c_found hG]
        · have l0 : gI (sI (sI (sI M 1 11 2) 171 0 0) 171 1 0) 172 s = gI M 172 s := by
            rw [gI_ne (by omega), gI_ne (by omega), gI_ne (by omega)]
          have l1 : gI (sI (sI (sI M 1 11 2) 171 0 0) 171 1 0) 173 s = nI n := by
            rw [gI_ne (by omega), gI_ne (by omega), gI_ne (by omega)]; exact e4
          simp only [q159_0, o, okO_sI, if_true, bM_d, m_isSheet, bI_s, b2i0, h, Bool.true_eq_false, if_false, gR_sI, gr_171_2 hG, gr_171_3 hG, rOK_sI, rk_172 hG hs, rk_173 hG hs, cl, l0, lp, l1, m_inR (n := n) (x := y) (subm1 (show n < 2 ^ 30 by omega)), hy, m_finding (M := sI (sI (sI M 1 11 2) 171 0 0) 171 1 0) hG]
        · exact Inv_l hI (Sm_trans (Sm_sI (by unfold Ls Qs; omega)) (Sm_trans (Sm_sI (by unfold Ls Qs; omega)) (Sm_trans (Sm_sI (by unfold Ls Qs; omega)) (Sm_sI (by unfold Ls Qs; omega))))) rfl
      | true =>
        obtain ⟨i, hi, rfl⟩ := inR_n (by omega) hy
        have cli := nI_clamp (n := i) (by omega)
        have clx := nI_clamp (n := 40 * s + i) (by omega)
        have hnar : go (d + 2) 102 0 [.ref (155 + 2 * s), .int v] [] M = some (some (.int (nvI (gI M 172 s) v)), M) := by
          rw [q102_0, if_pos (ok_sheet hG hs), e1]
          unfold nvI
          split
          · rfl
          · split <;> rfl
        refine ⟨nvI (gI M 172 s) v, sI (sI M (156 + 2 * s) i (nvI (gI M 172 s) v)) 1 11 0, sI (sI (sI (sI (sI M (156 + 2 * s) i (nvI (gI M 172 s) v)) 1 11 0) 171 0 0) 171 1 0) 174 (40 * s + i) (nvI (gI M 172 s) v), B, ?_, ?_, ?_⟩
        · simp only [q114_0, c_isSheet, bI_s, b2i0, h, if_true, Bool.true_eq_false, if_false, o1, gr_1_0 hG, rk_2 hG hs, cl, gr_sheet hG hs, ok_sheet hG hs, c_isMissing hG hS hs, decide_eq_false hm, c_hasPlaces1 hG hs hn e3, hy, hnar, gr_items hG hs, wk_items hG hs (show i < 40 by omega), cli, bM_d, okO_sI, gR_sI, rOK_sI, rk_items hG hs (show i < 40 by omega), gI_at, c_fine (M := sI M (156 + 2 * s) i (nvI (gI M 172 s) v)) hG]
        · have l0 : gI (sI (sI (sI (sI M (156 + 2 * s) i (nvI (gI M 172 s) v)) 1 11 0) 171 0 0) 171 1 0) 172 s = gI M 172 s := by
            rw [gI_ne (by omega), gI_ne (by omega), gI_ne (by omega), gI_ne (by omega)]
          have l1 : gI (sI (sI (sI (sI M (156 + 2 * s) i (nvI (gI M 172 s) v)) 1 11 0) 171 0 0) 171 1 0) 173 s = nI n := by
            rw [gI_ne (by omega), gI_ne (by omega), gI_ne (by omega), gI_ne (by omega)]; exact e4
          simp only [q159_0, o, okO_sI, if_true, bM_d, m_isSheet, bI_s, b2i0, h, Bool.true_eq_false, if_false, gR_sI, gr_171_2 hG, gr_171_3 hG, gr_171_4 hG, rOK_sI, wOK_sI, rk_172 hG hs, rk_173 hG hs, cl, l0, lp, l1, m_inR (n := n) (x := nI i) (subm1 (show n < 2 ^ 30 by omega)), hy, ix40, clx, rk_174 hG (show 40 * s + i < 320 by omega), wk_174 hG (show 40 * s + i < 320 by omega), gI_at]
          unfold nvI
          split
          · rfl
          · split <;> rfl
        · generalize nvI (gI M 172 s) v = q
          have ne : ∀ r k, ¬ ((r = 156 + 2 * s ∧ k = i) ∨ (r = 1 ∧ k = 11) ∨ (r = 171 ∧ k = 0) ∨ (r = 171 ∧ k = 1) ∨ (r = 174 ∧ k = 40 * s + i)) → gI (sI (sI (sI (sI (sI M (156 + 2 * s) i q) 1 11 0) 171 0 0) 171 1 0) 174 (40 * s + i) q) r k = gI M r k := fun r k hh => by
            rw [gI_ne (by omega), gI_ne (by omega), gI_ne (by omega), gI_ne (by omega), gI_ne (by omega)]
          refine Inv_s hI (Sm_trans (Sm_sI (by unfold Ss rdS; omega)) (Sm_trans (Sm_sI (by unfold Ss Ls; omega)) (Sm_trans (Sm_sI (by unfold Ss Ls Qs; omega)) (Sm_trans (Sm_sI (by unfold Ss Ls; omega)) (Sm_sI (by unfold Ss rdS; omega)))))) ?_ ?_
          · intro u hu
            obtain ⟨f1, f2, f3, f5⟩ := hS u hu
            rw [ne _ _ (by omega), ne 172 u (by omega), ne _ _ (by omega), ne 173 u (by omega)]
            refine ⟨f1, f2, f3, fun k hk => ?_⟩
            by_cases hc : u = s ∧ k = i
            · obtain ⟨rfl, rfl⟩ := hc
              rw [gI_at, gI_ne (by omega), gI_ne (by omega), gI_ne (by omega), gI_ne (by omega), gI_at]
            · rw [ne _ _ (by omega), ne _ _ (by omega)]; exact f5 k hk
          · rw [gI_ne (by omega), gI_ne (by omega), gI_ne (by omega), gI_at, gI_ne (by omega), gI_at]
