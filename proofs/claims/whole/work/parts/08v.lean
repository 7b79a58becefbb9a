/-! ===== sheets: drop ===== -/
def Ss (r k : Nat) : Prop := Ls r k ∨ rdS r
theorem Inv_s {E M N : Mm} {B : Bk} (hI : Inv E M B) (h : Sm Ss QL M N) (hS : SHT N) (hL : gI N 1 11 = gI N 171 1) : Inv E N B := by
  obtain ⟨a1, a2, a3, a4, a5, a6, a7, ⟨bk, bv, a8⟩, a9, a10⟩ := hI
  have hT := h.2.2.1
  refine ⟨Gd_Sm h a1, EXT_Sm (fun r k z => by unfold Ss Ls Qs rdS at z; omega) (fun r z => by unfold QL at z; omega) h a2, hS, TAP_cong (fun r k z => hT r k (by unfold rdT at z; unfold Ss Ls Qs rdS; omega)) a4, ⟨?_, hL⟩, TRC_cong (fun r k z => hT r k (by unfold rdC at z; unfold Ss Ls Qs rdS; omega)) a6, BK_cong (fun r k z => hT r k (by unfold rdB at z; unfold Ss Ls Qs rdS; omega)) (fun r z => h.2.2.2 r (by unfold rdL at z; unfold QL; omega)) a7, ⟨bk, bv, BUY_cong (fun r k z => hT r k (by unfold rdU at z; unfold Ss Ls Qs rdS; omega)) a8⟩, EC_cong (fun r k z => hT r k (by unfold rdE at z; unfold Ss Ls Qs rdS; omega)) a9, HC_cong (fun r k z => hT r k (by unfold rdH at z; unfold Ss Ls Qs rdS; omega)) a10⟩
  rw [hT 1 10 (by unfold Ss Ls Qs rdS; omega), hT 171 22 (by unfold Ss Ls Qs rdS; omega)]
  exact a5.1
theorem c_isMissing {d : Nat} {M : Mm} {s : Nat} (hG : Gd M) (hS : SHT M) (hs : s < 8) : go (d + 1) 99 0 [.ref (155 + 2 * s)] [] M = some (some (.int (b2i (decide (gI M 172 s = -1)))), M) := by
  rw [q99_0, if_pos (ok_sheet hG hs), (hS s hs).1]
  by_cases h : gI M 172 s = -1 <;> simp [h, b2i]
theorem lane_p {M : Mm} (hS : SHT M) {s : Nat} (hs : s < 8) : (0 ≤ gI M 172 s) ↔ ¬ gI M 172 s = -1 := by
  rw [← lane_c hS hs]
  exact ⟨fun h z => (fa_of_lt z).2.1 h, fun h => fa_of_nlt h⟩
theorem op_drop {E M : Mm} {B : Bk} {d : Nat} (hI : Inv E M B) (x : Int32) : Alike E M (d + 3) 116 161 [.ref 1, .int x, .null] [.ref 171, .int x] := by
  have hG := hI.1
  have hS := hI.2.2.1
  have o1 := ok_1 hG
  have o := ok_171 hG
  cases h : inR 8 x with
  | false =>
    refine Alike_q hI (-1000001) M (sI M 171 0 0) ?_ Sm_refl ?_ sm0
    · simp only [q116_0, c_isSheet, bI_s, b2i0, h, if_true]
    · simp only [q161_0, o, if_true, bM_d, m_isSheet, bI_s, b2i0, h]
  | true =>
    obtain ⟨s, hs, rfl⟩ := inR_n (by omega) h
    have cl := nI_clamp (n := s) (by omega)
    obtain ⟨e1, ⟨t, ht, e2⟩, ⟨n, hn, e3, e4⟩, e5⟩ := hS s hs
    by_cases hm : gI M 172 s = -1
    · refine ⟨-1000010 - 1, sI M 1 11 1, sI (sI (sI (sI M 1 11 1) 171 0 0) 171 1 0) 171 1 1, B, ?_, ?_, ?_⟩
      · simp only [q116_0, c_isSheet, bI_s, b2i0, h, if_true, Bool.true_eq_false, if_false, o1, gr_1_0 hG, rk_2 hG hs, cl, gr_sheet hG hs, ok_sheet hG hs, c_isMissing hG hS hs, decide_eq_true hm, c_found hG]
      · have l0 : gI (sI (sI (sI M 1 11 1) 171 0 0) 171 1 0) 172 s = -1 := by
          rw [gI_ne (by omega), gI_ne (by omega), gI_ne (by omega)]; exact hm
        simp only [q161_0, o, okO_sI, if_true, bM_d, m_isSheet, bI_s, b2i0, h, Bool.true_eq_false, if_false, gR_sI, gr_171_2 hG, rOK_sI, rk_172 hG hs, cl, l0, show ¬ (0 : Int32) ≤ -1 by decide, m_finding (M := sI (sI (sI M 1 11 1) 171 0 0) 171 1 0) hG]
      · exact Inv_l hI (Sm_trans (Sm_sI (by unfold Ls Qs; omega)) (Sm_trans (Sm_sI (by unfold Ls Qs; omega)) (Sm_trans (Sm_sI (by unfold Ls Qs; omega)) (Sm_sI (by unfold Ls Qs; omega))))) rfl
    · refine ⟨nI n, sI (sI M (155 + 2 * s) 0 (-1)) 1 11 0, sI (sI (sI (sI (sI M (155 + 2 * s) 0 (-1)) 1 11 0) 171 0 0) 171 1 0) 172 s (-1), B, ?_, ?_, ?_⟩
      · have e3' : gI (sI M (155 + 2 * s) 0 (-1)) (155 + 2 * s) 1 = nI n := by rw [gI_ne (by omega)]; exact e3
        simp only [q116_0, c_isSheet, bI_s, b2i0, h, if_true, Bool.true_eq_false, if_false, o1, gr_1_0 hG, rk_2 hG hs, cl, gr_sheet hG hs, ok_sheet hG hs, c_isMissing hG hS hs, decide_eq_false hm, bM_d, okO_sI, e3', c_fine (M := sI M (155 + 2 * s) 0 (-1)) hG]
      · have l0 : gI (sI (sI (sI (sI M (155 + 2 * s) 0 (-1)) 1 11 0) 171 0 0) 171 1 0) 172 s = gI M 172 s := by
          rw [gI_ne (by omega), gI_ne (by omega), gI_ne (by omega), gI_ne (by omega)]
        have l1 : gI (sI (sI (sI (sI (sI M (155 + 2 * s) 0 (-1)) 1 11 0) 171 0 0) 171 1 0) 172 s (-1)) 173 s = nI n := by
          rw [gI_ne (by omega), gI_ne (by omega), gI_ne (by omega), gI_ne (by omega), gI_ne (by omega)]; exact e4
        have lp := (lane_p hS hs).mpr hm
        simp only [q161_0, o, okO_sI, if_true, bM_d, m_isSheet, bI_s, b2i0, h, Bool.true_eq_false, if_false, gR_sI, gr_171_2 hG, gr_171_3 hG, rOK_sI, wOK_sI, rk_172 hG hs, wk_172 hG hs, rk_173 hG hs, cl, l0, lp, l1]
      · have ne : ∀ r k, ¬ ((r = 155 + 2 * s ∧ k = 0) ∨ (r = 1 ∧ k = 11) ∨ (r = 171 ∧ k = 0) ∨ (r = 171 ∧ k = 1) ∨ (r = 172 ∧ k = s)) → gI (sI (sI (sI (sI (sI M (155 + 2 * s) 0 (-1)) 1 11 0) 171 0 0) 171 1 0) 172 s (-1)) r k = gI M r k := fun r k hh => by
          rw [gI_ne (by omega), gI_ne (by omega), gI_ne (by omega), gI_ne (by omega), gI_ne (by omega)]
        refine Inv_s hI (Sm_trans (Sm_sI (by unfold Ss rdS; omega)) (Sm_trans (Sm_sI (by unfold Ss Ls; omega)) (Sm_trans (Sm_sI (by unfold Ss Ls Qs; omega)) (Sm_trans (Sm_sI (by unfold Ss Ls; omega)) (Sm_sI (by unfold Ss rdS; omega)))))) ?_ ?_
        · intro u hu
          obtain ⟨f1, f2, f3, f5⟩ := hS u hu
          by_cases hus : u = s
          · subst hus
            have z1 : gI (sI (sI (sI (sI (sI M (155 + 2 * u) 0 (-1)) 1 11 0) 171 0 0) 171 1 0) 172 u (-1)) (155 + 2 * u) 0 = -1 := by
              rw [gI_ne (by omega), gI_ne (by omega), gI_ne (by omega), gI_ne (by omega), gI_at]
            rw [z1, gI_at, ne _ _ (by omega), ne 173 u (by omega)]
            refine ⟨rfl, ⟨0, by omega, rfl⟩, f3, fun k hk => ?_⟩
            rw [ne _ _ (by omega), ne _ _ (by omega)]; exact f5 k hk
          · rw [ne _ _ (by omega), ne 172 u (by omega), ne _ _ (by omega), ne 173 u (by omega)]
            refine ⟨f1, f2, f3, fun k hk => ?_⟩
            rw [ne _ _ (by omega), ne _ _ (by omega)]; exact f5 k hk
        · rw [gI_ne (by omega), gI_ne (by omega), gI_ne (by omega), gI_at, gI_ne (by omega), gI_at]
