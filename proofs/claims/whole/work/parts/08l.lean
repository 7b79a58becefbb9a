/-! ===== calls: what only looks ===== -/
theorem thr {E M : Mm} {B : Bk} (hI : Inv E M B) : Inv E (sI M 171 0 0) B := Inv_q hI (Sm_sI (by unfold Qs; omega))
theorem sm0 {M : Mm} : Sm Qs QL M (sI M 171 0 0) := Sm_sI (by unfold Qs; omega)
theorem op_fault {E M : Mm} {B : Bk} {d : Nat} (hI : Inv E M B) : Alike E M (d + 1) 119 182 [.ref 1] [.ref 171] := by
  have hG := hI.1
  have hL := hI.2.2.2.2.1
  refine Alike_q hI (gI M 1 10) M (sI M 171 0 0) ?_ Sm_refl ?_ sm0
  · rw [q119_0, if_pos (ok_1 hG)]
  · rw [q182_0, if_pos (ok_171 hG), bM_d, if_pos (ok_171 (M := sI M 171 0 0) hG), hL.1]; rfl
theorem op_status {E M : Mm} {B : Bk} {d : Nat} (hI : Inv E M B) : Alike E M (d + 1) 145 237 [.ref 1] [.ref 171] := by
  have hG := hI.1
  have hL := hI.2.2.2.2.1
  refine Alike_q hI (gI M 1 11) M (sI M 171 0 0) ?_ Sm_refl ?_ sm0
  · rw [q145_0, if_pos (ok_1 hG)]
  · rw [q237_0, if_pos (ok_171 hG), bM_d, if_pos (ok_171 (M := sI M 171 0 0) hG), hL.2]; rfl
theorem op_trace {E M : Mm} {B : Bk} {d : Nat} (hI : Inv E M B) (x : Int32) : Alike E M (d + 2) 143 235 [.ref 1, .int x] [.ref 171, .int x] := by
  have hG := hI.1
  obtain ⟨n, hn, t1, t2, t3⟩ := hI.2.2.2.2.2.1
  have o := ok_171 hG
  have t2' : gI (sI M 171 0 0) 171 48 = nI n := t2
  refine Alike_q hI (bif inR n x then gI M 152 x.toNatClampNeg else -1000000) M (sI M 171 0 0) ?_ Sm_refl ?_ sm0
  · simp only [q143_0, ok_1 hG, gr_1_7 hG, ok_151 hG, t1, gr_151_0 hG, if_true]
    rw [inR_c (n := n) (by omega) rfl]
    cases h : inR n x with
    | false => rfl
    | true =>
      obtain ⟨k, hk, rfl⟩ := inR_n (by omega) h
      rw [if_pos (rk_152 hG (by omega))]; rfl
  · rw [q235_0, if_pos o, bM_d, if_pos (show okO (sI M 171 0 0) 171 12 = true from o), t2', m_inR (n := n) (subm1 (by omega)), bI_s]
    simp only [b2i0]
    cases h : inR n x with
    | false => rfl
    | true =>
      obtain ⟨k, hk, rfl⟩ := inR_n (by omega) h
      rw [if_neg (by decide), if_pos (show okO (sI M 171 0 0) 171 12 = true from o), show gR (sI M 171 0 0) 171 47 = 197 from gr_171_47 hG, if_pos (show rOK (sI M 171 0 0) 197 0 (nI k) = true from rk_197 hG (by omega)), nI_clamp (by omega)]
      show some (some (Value.int (gI M 197 k)), _) = some (some (Value.int (gI M 152 k)), _)
      rw [t3 k hk]
theorem inR_no {n j : Nat} (hn : n < 2 ^ 31) {x : Int32} (h : inR n x = false) (hj : j < n) : ¬ x = nI j := by
  rintro rfl
  rw [inR_nI hn hj] at h
  cases h
theorem op_line {E M : Mm} {B : Bk} {d : Nat} (hI : Inv E M B) (x y : Int32) : Alike E M (d + 3) 129 204 [.ref 1, .int x, .int y, .null] [.ref 171, .int x, .int y] := by
  have hN := thr hI
  have hG := hI.1
  have hG' : Gd (sI M 171 0 0) := hG
  have hB := hI.2.2.2.2.2.2.1
  have hB' := hN.2.2.2.2.2.2.1
  have hn := BK_nn hB
  have o := ok_171 hG'
  have r2 := gr_1_2 hG
  have o5 := ok_5 hG
  have o1 := ok_1 hG
  cases h : inR (nnB B) x with
  | false =>
    refine Alike_q hI (-1000001) M (sI M 171 0 0) ?_ Sm_refl ?_ sm0
    · simp only [q129_0, o1, r2, o5, if_true, c_isLine hG (BK_c hB), bI_s, b2i0, h]
    · rw [q204_0, if_pos (ok_171 hG), bM_d, if_pos o, m_isLine hG' (BK_c hB'), bI_s]
      simp only [b2i0, h, if_true]
  | true =>
    obtain ⟨i, hi, rfl⟩ := inR_n (by omega) h
    obtain ⟨-, -, -, -, -, -, -, -, -, -, m0, m1, m2, m3, m4, m5, m6, m7, n0, n1, n2, n3, n4, n5, n6, n7⟩ := hB.2.2.1 i hi
    have q1 := rk_9 hG (k := i) (by omega)
    have g1 := gr_line hG (k := i) (by omega)
    have g7 := gr_5_7 hG
    have ol := ok_line hG (k := i) (by omega)
    have cl := nI_clamp (n := i) (by omega)
    have hc : go (d + 3) 129 0 [.ref 1, .int (nI i), .int y, .null] [] M = some (some (.int (if y = (0 : Int32) then nI (B.1 3 i) else if y = (1 : Int32) then optI (B.1 9 i) else if y = (2 : Int32) then nI (B.1 8 i) else if y = (3 : Int32) then optI (B.1 10 i) else if y = (4 : Int32) then nI (B.1 7 i) else -1000001)), M) := by
      simp only [q129_0, o1, r2, o5, if_true, c_isLine hG (BK_c hB), bI_s, b2i0, h, g7, q1, cl, g1, ol, m0, m1, m5, m6, m7]
      rw [if_neg (by decide)]
      repeat' split
      all_goals rfl
    have hm : ∃ r, go (d + 3) 204 0 [.ref 171, .int (nI i), .int y] [] M = some (some (.int r), sI M 171 0 0) ∧ r = (if y = (0 : Int32) then nI (B.1 3 i) else if y = (1 : Int32) then optI (B.1 9 i) else if y = (2 : Int32) then nI (B.1 8 i) else if y = (3 : Int32) then optI (B.1 10 i) else if y = (4 : Int32) then nI (B.1 7 i) else -1000001) := by
      rw [q204_0, if_pos (ok_171 hG), bM_d, if_pos o, m_isLine hG' (BK_c hB'), bI_s, show (4 : Int64) = (4 : Int32).toInt64 from rfl, m_inR (n := 5) rfl, bI_s]
      simp only [b2i0, h]
      rw [if_neg (by decide)]
      cases h5 : inR 5 y with
      | false =>
        have z := fun j (hj : j < 5) => inR_no (by omega) h5 hj
        refine ⟨-1000001, if_pos rfl, ?_⟩
        rw [if_neg (show ¬ y = 0 from z 0 (by omega)), if_neg (show ¬ y = 1 from z 1 (by omega)), if_neg (show ¬ y = 2 from z 2 (by omega)), if_neg (show ¬ y = 3 from z 3 (by omega)), if_neg (show ¬ y = 4 from z 4 (by omega))]
      | true =>
        obtain ⟨j, hj, rfl⟩ := inR_n (by omega) h5
        have e8 : (8 : Int32) + nI i = nI (8 + i) := by rw [show (8 : Int32) = nI 8 from rfl, nI_add]
        rw [if_neg (by decide)]
        simp only [o, if_true, show gR (sI M 171 0 0) 171 10 = 177 from gr_171_10 hG, show gR (sI M 171 0 0) 171 11 = 178 from gr_171_11 hG, show gR (sI M 171 0 0) 171 15 = 182 from gr_171_15 hG, show gR (sI M 171 0 0) 171 16 = 183 from gr_171_16 hG, show gR (sI M 171 0 0) 171 19 = 186 from gr_171_19 hG, rk_177 hG' (k := i) (by omega), rk_178 hG' (k := i) (by omega), rk_182 hG' (k := i) (by omega), rk_183 hG' (k := i) (by omega), e8, rk_186 hG' (k := 8 + i) (by omega), cl, nI_clamp (n := 8 + i) (by omega), show gI (sI M 171 0 0) 177 i = nI (B.1 3 i) from n0, show gI (sI M 171 0 0) 178 i = optI (B.1 9 i) from n1, show gI (sI M 171 0 0) 182 i = nI (B.1 8 i) from n6, show gI (sI M 171 0 0) 183 i = optI (B.1 10 i) from n7, show gI (sI M 171 0 0) 186 (8 + i) = nI (B.1 7 i) from n5]
        rcases (show j = 0 ∨ j = 1 ∨ j = 2 ∨ j = 3 ∨ j = 4 by omega) with rfl | rfl | rfl | rfl | rfl
        · exact ⟨_, rfl, rfl⟩
        · exact ⟨_, rfl, rfl⟩
        · exact ⟨_, rfl, rfl⟩
        · exact ⟨_, rfl, rfl⟩
        · exact ⟨_, rfl, rfl⟩
    obtain ⟨r, hm1, rfl⟩ := hm
    exact Alike_q hI _ M (sI M 171 0 0) hc Sm_refl hm1 sm0
/-- a body -/
theorem op_body {E M : Mm} {B : Bk} {d : Nat} (hI : Inv E M B) (x y z : Int32) : Alike E M (d + 4) 130 209 [.ref 1, .int x, .int y, .int z] [.ref 171, .int x, .int y, .int z] := by
  have hN := thr hI
  have hG := hI.1
  have hG' : Gd (sI M 171 0 0) := hG
  have hB := hI.2.2.2.2.2.2.1
  have hB' := hN.2.2.2.2.2.2.1
  have hn := BK_nn hB
  have hp := p10 hn.1
  have o := ok_171 hG'
  have o1 := ok_1 hG
  have r2 := gr_1_2 hG
  have o5 := ok_5 hG
  cases h : isBd (nmB B) x y z with
  | false =>
    refine Alike_q hI (-1000001) M (sI M 171 0 0) ?_ Sm_refl ?_ sm0
    · simp only [q130_0, o1, if_true, c_isBody hG (BK_c hB), bI_s, b2i0, h]
    · rw [q209_0, if_pos (ok_171 hG), bM_d, if_pos o, m_isBody hG' (BK_c hB'), bI_s]
      simp only [b2i0, h, if_true]
  | true =>
    have h' := h
    simp only [isBd, Bool.and_eq_true] at h'
    obtain ⟨k, hk, rfl⟩ := inR_n (by omega) h'.1.1
    obtain ⟨v, hv, rfl⟩ := inR_n (by omega) h'.1.2
    refine Alike_q hI (nI (bodyB B k v z)) M (sI M 171 0 0) ?_ Sm_refl ?_ sm0
    · simp only [q130_0, o1, if_true, c_isBody hG (BK_c hB), bI_s, b2i0, h, r2, o5, c_standing hG hB (show k < 1024 by omega) (show v ≤ 9 by omega)]
      rfl
    · rw [q209_0, if_pos (ok_171 hG), bM_d, if_pos o, m_isBody hG' (BK_c hB'), bI_s, h, if_neg (by decide), if_pos o, m_bodyOf hG' hB' hk (by omega), bI_s]
