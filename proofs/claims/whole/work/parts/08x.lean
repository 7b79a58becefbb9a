/-! ===== sheets: sheet ===== -/
theorem ar_items {M : Mm} (hG : Gd M) {s : Nat} (hs : s < 8) : okA M (156 + 2 * s) 0 = true := by
  have := wk_items hG hs (j := 0) (by omega)
  simp only [wOK, Bool.and_eq_true] at this
  exact this.1.1
theorem m_lay {d : Nat} {M : Mm} {s : Nat} {y z : Int32} (hG : Gd M) (hs : s < 8) : go (d + 1) 158 65 [.ref 171, .int (nI s), .int y, .int z, .int (0 : Int32)] [] M = some (some (.int z), wI M 174 (fun k => if 40 * s ≤ k ∧ k < 40 * s + 40 then 0 else gI M 174 k)) := by
  rw [show (0 : Int32) = nI 0 from rfl]
  have h := loopM (fun j N => go (d + 1) 158 65 [.ref 171, .int (nI s), .int y, .int z, .int (nI j)] [] N) 40 (fun j => wI M 174 (fun k => if 40 * s ≤ k ∧ k < 40 * s + j then nI 0 else gI M 174 k)) (fun j hj => by
    have hG' : Gd (wI M 174 (fun k => if 40 * s ≤ k ∧ k < 40 * s + j then nI 0 else gI M 174 k)) := hG
    try dsimp only
    rw [q158_65, if_neg (by rw [show (40 : Int32) = nI 40 from rfl, nI_leI (by omega) (by omega)]; omega), if_pos (ok_171 hG'), gr_171_4 hG', ix40, if_pos (wk_174 hG' (by omega)), bM_d, nI_clamp (by omega), sI_wI, nI_1]
    congr 2
    funext k
    by_cases h1 : k = 40 * s + j
    · subst h1
      rw [if_pos rfl, if_pos (by omega)]; rfl
    · rw [if_neg h1]
      by_cases h2 : 40 * s ≤ k ∧ k < 40 * s + j
      · rw [if_pos h2, if_pos (by omega)]
      · rw [if_neg h2, if_neg (by omega)]) 40 (Nat.le_refl _)
  try dsimp only at h
  rw [show (fun k => if 40 * s ≤ k ∧ k < 40 * s + 0 then nI 0 else gI M 174 k) = gI M 174 from funext fun k => if_neg (by omega), wI_self] at h
  rw [h, q158_65, if_pos (by decide)]
theorem op_sheet {E M : Mm} {B : Bk} {d : Nat} (hI : Inv E M B) (x y z : Int32) : Alike E M (d + 3) 113 158 [.ref 1, .int x, .int y, .int z] [.ref 171, .int x, .int y, .int z, .null] := by
  have hG := hI.1
  have hS := hI.2.2.1
  have o1 := ok_1 hG
  have o := ok_171 hG
  have i3 : ∀ N, go (d + 2) 154 0 [.long y.toInt64, .null, .long (0 : Int64), .null, .long (2 : Int64), .null] [] N = some (some (.int (b2i (inR 3 y))), N) := fun N => by
    rw [show (2 : Int64) = (2 : Int32).toInt64 from rfl, m_inR (n := 3) rfl]
  have e2 : ((2 : Int32) < y) = (nI 3 ≤ y) := propext (lt_le1 (n := 2) (by omega))
  cases h : inR 8 x with
  | false =>
    refine Alike_q hI (-1000001) M (sI M 171 0 0) ?_ Sm_refl ?_ sm0
    · simp only [q113_0, c_isSheet, bI_s, b2i0, h, if_true]
    · simp only [q158_0, o, if_true, bM_d, m_isSheet, bI_s, b2i0, h]
  | true =>
    cases h3 : inR 3 y with
    | false =>
      refine Alike_q hI (-1000001) M (sI M 171 0 0) ?_ Sm_refl ?_ sm0
      · simp only [q113_0, c_isSheet, bI_s, b2i0, h, if_true, Bool.true_eq_false, if_false, e2]
        rw [inR_c (n := 3) (by omega) rfl, h3]; rfl
      · simp only [q158_0, o, if_true, bM_d, m_isSheet, bI_s, b2i0, h, Bool.true_eq_false, if_false, i3, h3]
    | true =>
      obtain ⟨s, hs, rfl⟩ := inR_n (by omega) h
      obtain ⟨l, hl, rfl⟩ := inR_n (by omega) h3
      have cl := nI_clamp (n := s) (by omega)
      have n2 : ¬ (2 : Int32) < nI l := fun q => by
        have := (nI_ltI (a := 2) (b := l) (by omega) (by omega)).mp q; omega
      by_cases h40 : z ≤ 40
      · by_cases h0 : 0 ≤ z
        · obtain ⟨n, hn, rfl⟩ := nI_of2 (x := z) (M := 40) (n := 40) rfl (fun q => (fa_of_lt q).2.1 h0) h40
          have hf := fillI (d := d) (M := sI (sI M (155 + 2 * s) 0 (nI l)) (155 + 2 * s) 1 (nI n)) (w := 156 + 2 * s) (n := 40) (x := 0) (fun j hj => wk_items hG hs hj) (ar_items hG hs) (by omega) (k_items_t s hs).2 (by omega)
          refine ⟨nI n, sI (wI (sI (sI M (155 + 2 * s) 0 (nI l)) (155 + 2 * s) 1 (nI n)) (156 + 2 * s) (fun i => if i < 40 then 0 else gI (sI (sI M (155 + 2 * s) 0 (nI l)) (155 + 2 * s) 1 (nI n)) (156 + 2 * s) i)) 1 11 0, ?_⟩
          generalize hM1 : sI (wI (sI (sI M (155 + 2 * s) 0 (nI l)) (155 + 2 * s) 1 (nI n)) (156 + 2 * s) (fun i => if i < 40 then 0 else gI (sI (sI M (155 + 2 * s) 0 (nI l)) (155 + 2 * s) 1 (nI n)) (156 + 2 * s) i)) 1 11 0 = M1
          have hG1 : Gd M1 := by rw [← hM1]; exact hG
          have ml := m_lay (d := d + 2) (M := sI (sI (sI (sI M1 171 0 0) 171 1 0) 172 s (nI l)) 173 s (nI n)) (s := s) (y := nI l) (z := nI n) hG1 hs
          refine ⟨wI (sI (sI (sI (sI M1 171 0 0) 171 1 0) 172 s (nI l)) 173 s (nI n)) 174 (fun k => if 40 * s ≤ k ∧ k < 40 * s + 40 then 0 else gI (sI (sI (sI (sI M1 171 0 0) 171 1 0) 172 s (nI l)) 173 s (nI n)) 174 k), B, ?_, ?_, ?_⟩
          · simp only [q113_0, c_isSheet, bI_s, b2i0, h, if_true, Bool.true_eq_false, if_false, nI_pos (show l < 2 ^ 31 by omega), n2, h40, h0, o1, gr_1_0 hG, rk_2 hG hs, cl, gr_sheet hG hs, ok_sheet hG hs, q100_0, bM_d, okO_sI, gR_sI, gr_items hG hs, hf, bV_s]
            rw [if_pos (show okO (wI (sI (sI M (155 + 2 * s) 0 (nI l)) (155 + 2 * s) 1 (nI n)) (156 + 2 * s) (fun i => if i < 40 then 0 else gI (sI (sI M (155 + 2 * s) 0 (nI l)) (155 + 2 * s) 1 (nI n)) (156 + 2 * s) i)) 1 11 = true from o1), c_fine (M := wI (sI (sI M (155 + 2 * s) 0 (nI l)) (155 + 2 * s) 1 (nI n)) (156 + 2 * s) (fun i => if i < 40 then 0 else gI (sI (sI M (155 + 2 * s) 0 (nI l)) (155 + 2 * s) 1 (nI n)) (156 + 2 * s) i)) hG, bI_s, hM1]
          · simp only [q158_0, ok_171 hG1, okO_sI, if_true, bM_d, m_isSheet, bI_s, b2i0, h, Bool.true_eq_false, if_false, i3, h3, h40, h0, gR_sI, gr_171_2 hG1, gr_171_3 hG1, wOK_sI, wk_172 hG1 hs, wk_173 hG1 hs, cl]
            exact ml
          · have sm1 : Sm Ss QL M M1 := by
              rw [← hM1]
              exact Sm_trans (Sm_sI (by unfold Ss rdS; omega)) (Sm_trans (Sm_sI (by unfold Ss rdS; omega)) (Sm_trans (Sm_wI (fun _ => by unfold Ss rdS; omega)) (Sm_sI (by unfold Ss Ls; omega))))
            have i0 : gI M1 (155 + 2 * s) 0 = nI l := by
              rw [← hM1, gI_ne (by omega), gI_wI, if_neg (by omega), gI_ne (by omega), gI_at]
            have i1 : gI M1 (155 + 2 * s) 1 = nI n := by
              rw [← hM1, gI_ne (by omega), gI_wI, if_neg (by omega), gI_at]
            have i2 : ∀ k, k < 40 → gI M1 (156 + 2 * s) k = 0 := fun k hk => by
              rw [← hM1, gI_ne (by omega), gI_wI, if_pos rfl, if_pos hk]
            have i4 : gI M1 1 11 = 0 := by rw [← hM1, gI_at]
            have i5 : ∀ r k, r ≠ 155 + 2 * s → r ≠ 156 + 2 * s → ¬ (r = 1 ∧ k = 11) → gI M1 r k = gI M r k := fun r k a b c => by
              rw [← hM1, gI_ne c, gI_wI, if_neg b, gI_ne (by omega), gI_ne (by omega)]
            refine Inv_s hI (Sm_trans sm1 (Sm_trans (Sm_sI (by unfold Ss Ls Qs; omega)) (Sm_trans (Sm_sI (by unfold Ss Ls; omega)) (Sm_trans (Sm_sI (by unfold Ss rdS; omega)) (Sm_trans (Sm_sI (by unfold Ss rdS; omega)) (Sm_wI (fun _ => by unfold Ss rdS; omega))))))) ?_ ?_
            · have ne : ∀ r k, r ≠ 174 → ¬ ((r = 171 ∧ k = 0) ∨ (r = 171 ∧ k = 1) ∨ (r = 172 ∧ k = s) ∨ (r = 173 ∧ k = s)) → gI (wI (sI (sI (sI (sI M1 171 0 0) 171 1 0) 172 s (nI l)) 173 s (nI n)) 174 (fun k => if 40 * s ≤ k ∧ k < 40 * s + 40 then 0 else gI (sI (sI (sI (sI M1 171 0 0) 171 1 0) 172 s (nI l)) 173 s (nI n)) 174 k)) r k = gI M1 r k := fun r k a hh => by
                rw [gI_wI, if_neg a, gI_ne (by omega), gI_ne (by omega), gI_ne (by omega), gI_ne (by omega)]
              have nt : ∀ k, gI (wI (sI (sI (sI (sI M1 171 0 0) 171 1 0) 172 s (nI l)) 173 s (nI n)) 174 (fun k => if 40 * s ≤ k ∧ k < 40 * s + 40 then 0 else gI (sI (sI (sI (sI M1 171 0 0) 171 1 0) 172 s (nI l)) 173 s (nI n)) 174 k)) 174 k = if 40 * s ≤ k ∧ k < 40 * s + 40 then 0 else gI M1 174 k := fun k => by
                rw [gI_wI, if_pos rfl, gI_ne (by omega), gI_ne (by omega), gI_ne (by omega), gI_ne (by omega)]
              intro u hu
              obtain ⟨f1, f2, f3, f5⟩ := hS u hu
              by_cases hus : u = s
              · subst hus
                refine ⟨?_, ⟨l + 1, by omega, ?_⟩, ⟨n, hn, ?_, ?_⟩, fun k hk => ?_⟩
                · rw [ne _ _ (by omega) (by omega), i0, gI_wI, if_neg (by omega), gI_ne (by omega), gI_at]
                · rw [gI_wI, if_neg (by omega), gI_ne (by omega), gI_at, nI_pred]
                · rw [ne _ _ (by omega) (by omega), i1]
                · rw [gI_wI, if_neg (by omega), gI_at]
                · rw [ne _ _ (by omega) (by omega), i2 k hk, nt, if_pos (by omega)]
              · rw [ne _ _ (by omega) (by omega), ne 172 u (by omega) (by omega), ne _ _ (by omega) (by omega), ne 173 u (by omega) (by omega), i5 _ _ (by omega) (by omega) (by omega), i5 172 _ (by omega) (by omega) (by omega), i5 _ _ (by omega) (by omega) (by omega), i5 173 _ (by omega) (by omega) (by omega)]
                refine ⟨f1, f2, f3, fun k hk => ?_⟩
                rw [ne _ _ (by omega) (by omega), nt, if_neg (by omega), i5 _ _ (by omega) (by omega) (by omega), i5 174 _ (by omega) (by omega) (by omega)]
                exact f5 k hk
            · rw [gI_wI, gI_wI, if_neg (by omega), if_neg (by omega), gI_ne (by omega), gI_ne (by omega), gI_ne (by omega), gI_ne (by omega), i4, gI_ne (by omega), gI_ne (by omega), gI_at]
        · refine ⟨-1000010 - 4, sI M 1 11 4, sI (sI (sI (sI M 1 11 4) 171 0 0) 171 1 0) 171 1 4, B, ?_, ?_, ?_⟩
          · simp only [q113_0, c_isSheet, bI_s, b2i0, h, if_true, Bool.true_eq_false, if_false, nI_pos (show l < 2 ^ 31 by omega), n2, h40, h0, o1, c_found hG]
          · simp only [q158_0, o, okO_sI, if_true, bM_d, m_isSheet, bI_s, b2i0, h, Bool.true_eq_false, if_false, i3, h3, h40, h0, m_finding (M := sI (sI (sI M 1 11 4) 171 0 0) 171 1 0) hG]
          · exact Inv_l hI (Sm_trans (Sm_sI (by unfold Ls Qs; omega)) (Sm_trans (Sm_sI (by unfold Ls Qs; omega)) (Sm_trans (Sm_sI (by unfold Ls Qs; omega)) (Sm_sI (by unfold Ls Qs; omega))))) rfl
      · refine Alike_q hI (-1000001) M (sI M 171 0 0) ?_ Sm_refl ?_ sm0
        · simp only [q113_0, c_isSheet, bI_s, b2i0, h, if_true, Bool.true_eq_false, if_false, nI_pos (show l < 2 ^ 31 by omega), n2, h40]
        · simp only [q158_0, o, if_true, bM_d, m_isSheet, bI_s, b2i0, h, Bool.true_eq_false, if_false, i3, h3, h40]
