/-! ===== ask ===== -/
/-- N is M but for a trace: its length at r f, its numbers at w -/
def TrS (M N : Mm) (r f w : Nat) (L : List Int32) : Prop := Sm (fun a k => (a = r ∧ k = f) ∨ a = w) (fun _ => False) M N ∧ gR N = gR M ∧ gI N r f = nI L.length ∧ ∀ i, i < L.length → gI N w i = L.getD i 0
theorem TrS_add {M N : Mm} {r f w : Nat} {L : List Int32} {x : Int32} (h : TrS M N r f w L) (hr : r ≠ w) : TrS M (sI (sI N w L.length x) r f (nI (L.length + 1))) r f w (L ++ [x]) := by
  refine ⟨Sm_trans h.1 (Sm_trans (Sm_sI (Or.inr rfl)) (Sm_sI (Or.inl ⟨rfl, rfl⟩))), h.2.1, ?_, fun i hi => ?_⟩
  · rw [gI_at, List.length_append]; rfl
  · rw [List.length_append] at hi
    rw [gI_ne (fun z => hr z.1.symm), gI_sI]
    by_cases e : i = L.length
    · subst e
      rw [if_pos ⟨rfl, rfl⟩]
      simp [List.getD_eq_getElem?_getD]
    · have : i < L.length := by simp at hi; omega
      rw [if_neg (fun z => e z.2), h.2.2.2 i this]
      simp [List.getD_eq_getElem?_getD, List.getElem?_append_left this]
theorem c_leave {d : Nat} {M N : Mm} {L : List Int32} (hG : Gd M) (h : TrS M N 151 1 152 L) (hl : L.length < 16) (x : Int32) : ∃ N', go (d + 1) 5 0 [.ref 151, .int x] [] N = some (none, N') ∧ TrS M N' 151 1 152 (L ++ [x]) := by
  have hGN := Gd_Sm h.1 hG
  refine ⟨_, ?_, TrS_add h (by omega)⟩
  have e : ¬ (16 : Int32) ≤ nI L.length := by rw [show (16 : Int32) = nI 16 from rfl, nI_leI (by omega) (by omega)]; omega
  have e2 : ∀ v, gI (sI N 152 L.length v) 151 1 = nI L.length := fun v => by rw [gI_ne (by omega), h.2.2.1]
  simp only [q5_0, ok_151 hGN, if_true, h.2.2.1, e, if_false, gr_151_0 hGN, wk_152 hGN hl, bM_d, okO_sI, nI_clamp (show L.length < 2 ^ 31 by omega), e2, nI_1]
theorem m_began {d : Nat} {M N : Mm} {L : List Int32} (hG : Gd M) (h : TrS M N 171 48 197 L) (hl : L.length < 16) (x : Int32) : ∃ N', go (d + 1) 231 0 [.ref 171, .int x] [] N = some (none, N') ∧ TrS M N' 171 48 197 (L ++ [x]) := by
  have hGN := Gd_Sm h.1 hG
  refine ⟨_, ?_, TrS_add h (by omega)⟩
  have e : ¬ (16 : Int32) ≤ nI L.length := by rw [show (16 : Int32) = nI 16 from rfl, nI_leI (by omega) (by omega)]; omega
  have e2 : ∀ v, gI (sI N 197 L.length v) 171 48 = nI L.length := fun v => by rw [gI_ne (by omega), h.2.2.1]
  simp only [q231_0, ok_171 hGN, if_true, h.2.2.1, e, if_false, gr_171_47 hGN, wk_197 hGN hl, bM_d, okO_sI, nI_clamp (show L.length < 2 ^ 31 by omega), e2, nI_1]
theorem TrS_I {M N : Mm} {r f w : Nat} {L : List Int32} (h : TrS M N r f w L) {a k : Nat} (h1 : ¬ ((a = r ∧ k = f) ∨ a = w)) : gI N a k = gI M a k := h.1.2.2.1 a k h1
theorem len1 {L : List Int32} {x : Int32} : (L ++ [x]).length = L.length + 1 := by simp
theorem c_sizeLent {d : Nat} {M N : Mm} {L : List Int32} (hG : Gd M) (h : TrS M N 151 1 152 L) (hl : L.length < 16) : ∃ N', go (d + 2) 6 0 [.ref 151] [] N = some (some (.int (gI M 151 6)), N') ∧ TrS M N' 151 1 152 (L ++ [10]) := by
  obtain ⟨N', s, t⟩ := c_leave (d := d) hG h hl 10
  refine ⟨N', ?_, t⟩
  simp only [q6_0, ok_151 (Gd_Sm h.1 hG), if_true, s, bV_s, ok_151 (Gd_Sm t.1 hG), TrS_I t (a := 151) (k := 6) (by omega)]
theorem c_markLent {d : Nat} {M N : Mm} {L : List Int32} (hG : Gd M) (h : TrS M N 151 1 152 L) (hl : L.length < 16) : ∃ N', go (d + 2) 11 0 [.ref 151] [] N = some (some (.int (gI M 151 5)), N') ∧ TrS M N' 151 1 152 (L ++ [20]) := by
  obtain ⟨N', s, t⟩ := c_leave (d := d) hG h hl 20
  refine ⟨N', ?_, t⟩
  simp only [q11_0, ok_151 (Gd_Sm h.1 hG), if_true, s, bV_s, ok_151 (Gd_Sm t.1 hG), TrS_I t (a := 151) (k := 5) (by omega)]
theorem c_sizeOfWhen {d i : Nat} {M N : Mm} {L : List Int32} (hG : Gd M) (hi : i < 24) (h4 : gR M 151 4 = 26 + 3 * i) (h : TrS M N 151 1 152 L) (hl : L.length + 1 < 16) : ∃ N', go (d + 3) 7 0 [.ref 151] [] N = some (some (.int (gI M 151 6 + gI M (26 + 3 * i) 5)), N') ∧ TrS M N' 151 1 152 (L ++ [11] ++ [10]) := by
  obtain ⟨N1, s1, t1⟩ := c_leave (d := d + 1) hG h (by omega) 11
  obtain ⟨N2, s2, t2⟩ := c_sizeLent (d := d) hG t1 (by rw [len1]; omega)
  refine ⟨N2, ?_, t2⟩
  simp only [q7_0, ok_151 (Gd_Sm h.1 hG), if_true, s1, bV_s, ok_151 (Gd_Sm t1.1 hG), s2, bI_s, ok_151 (Gd_Sm t2.1 hG), t2.2.1, h4, ok_line (Gd_Sm t2.1 hG) hi, TrS_I t2 (a := 26 + 3 * i) (k := 5) (by omega)]
theorem c_sizeOfOther {d i : Nat} {M N : Mm} {L : List Int32} (hG : Gd M) (hi : i < 24) (h4 : gR M 151 4 = 26 + 3 * i) (h : TrS M N 151 1 152 L) (hl : L.length + 2 < 16) : ∃ N', go (d + 4) 8 0 [.ref 151] [] N = some (some (.int (2 * (gI M 151 6 + gI M (26 + 3 * i) 5))), N') ∧ TrS M N' 151 1 152 (L ++ [12] ++ [11] ++ [10]) := by
  obtain ⟨N1, s1, t1⟩ := c_leave (d := d + 2) hG h (by omega) 12
  obtain ⟨N2, s2, t2⟩ := c_sizeOfWhen (d := d) hG hi h4 t1 (by rw [len1]; omega)
  refine ⟨N2, ?_, t2⟩
  simp only [q8_0, ok_151 (Gd_Sm h.1 hG), if_true, s1, bV_s, ok_151 (Gd_Sm t1.1 hG), s2, bI_s]
theorem c_markOfOther {d : Nat} {M N : Mm} {L : List Int32} (hG : Gd M) (h : TrS M N 151 1 152 L) (hl : L.length + 1 < 16) : ∃ N', go (d + 3) 12 0 [.ref 151] [] N = some (some (.int (gI M 151 5 + 100)), N') ∧ TrS M N' 151 1 152 (L ++ [21] ++ [20]) := by
  obtain ⟨N1, s1, t1⟩ := c_leave (d := d + 1) hG h (by omega) 21
  obtain ⟨N2, s2, t2⟩ := c_markLent (d := d) hG t1 (by rw [len1]; omega)
  refine ⟨N2, ?_, t2⟩
  simp only [q12_0, ok_151 (Gd_Sm h.1 hG), if_true, s1, bV_s, ok_151 (Gd_Sm t1.1 hG), s2, bI_s]
theorem c_markOfPatch {d i : Nat} {M N : Mm} {L : List Int32} (hG : Gd M) (hi : i < 24) (h4 : gR M 151 4 = 26 + 3 * i) (h : TrS M N 151 1 152 L) (hl : L.length + 2 < 16) : ∃ N', go (d + 4) 13 0 [.ref 151] [] N = some (some (.int ((gI M 151 5 + 100) + gI M (26 + 3 * i) 1)), N') ∧ TrS M N' 151 1 152 (L ++ [22] ++ [21] ++ [20]) := by
  obtain ⟨N1, s1, t1⟩ := c_leave (d := d + 2) hG h (by omega) 22
  obtain ⟨N2, s2, t2⟩ := c_markOfOther (d := d) hG t1 (by rw [len1]; omega)
  refine ⟨N2, ?_, t2⟩
  simp only [q13_0, ok_151 (Gd_Sm h.1 hG), if_true, s1, bV_s, ok_151 (Gd_Sm t1.1 hG), s2, bI_s, ok_151 (Gd_Sm t2.1 hG), t2.2.1, h4, ok_line (Gd_Sm t2.1 hG) hi, TrS_I t2 (a := 26 + 3 * i) (k := 1) (by omega)]
theorem c_sizeOfPatch {d i : Nat} {M N : Mm} {L : List Int32} (hG : Gd M) (hi : i < 24) (h4 : gR M 151 4 = 26 + 3 * i) (h : TrS M N 151 1 152 L) (hl : L.length + 6 < 16) : ∃ N', go (d + 5) 9 0 [.ref 151] [] N = some (some (.int (2 * (gI M 151 6 + gI M (26 + 3 * i) 5) + ((gI M 151 5 + 100) + gI M (26 + 3 * i) 1))), N') ∧ TrS M N' 151 1 152 (L ++ [13] ++ [12] ++ [11] ++ [10] ++ [22] ++ [21] ++ [20]) := by
  obtain ⟨N1, s1, t1⟩ := c_leave (d := d + 3) hG h (by omega) 13
  obtain ⟨N2, s2, t2⟩ := c_sizeOfOther (d := d) hG hi h4 t1 (by rw [len1]; omega)
  obtain ⟨N3, s3, t3⟩ := c_markOfPatch (d := d) hG hi h4 t2 (by rw [len1, len1, len1, len1]; omega)
  refine ⟨N3, ?_, t3⟩
  simp only [q9_0, ok_151 (Gd_Sm h.1 hG), if_true, s1, bV_s, ok_151 (Gd_Sm t1.1 hG), s2, bI_s, ok_151 (Gd_Sm t2.1 hG), s3]
theorem c_sizeOfIdler {d : Nat} {M N : Mm} {L : List Int32} (hG : Gd M) (h : TrS M N 151 1 152 L) (hl : L.length + 1 < 16) : ∃ N', go (d + 3) 10 0 [.ref 151] [] N = some (some (.int (-gI M 151 5)), N') ∧ TrS M N' 151 1 152 (L ++ [14] ++ [20]) := by
  obtain ⟨N1, s1, t1⟩ := c_leave (d := d + 1) hG h (by omega) 14
  obtain ⟨N2, s2, t2⟩ := c_markLent (d := d) hG t1 (by rw [len1]; omega)
  refine ⟨N2, ?_, t2⟩
  simp only [q10_0, ok_151 (Gd_Sm h.1 hG), if_true, s1, bV_s, ok_151 (Gd_Sm t1.1 hG), s2, bI_s]
theorem c_markOfAlways {d : Nat} {M N : Mm} {L : List Int32} (hG : Gd M) (h : TrS M N 151 1 152 L) (hl : L.length + 2 < 16) : ∃ N', go (d + 3) 14 0 [.ref 151] [] N = some (some (.int (gI M 151 5 + gI M 151 6)), N') ∧ TrS M N' 151 1 152 (L ++ [23] ++ [20] ++ [10]) := by
  obtain ⟨N1, s1, t1⟩ := c_leave (d := d + 1) hG h (by omega) 23
  obtain ⟨N2, s2, t2⟩ := c_markLent (d := d) hG t1 (by rw [len1]; omega)
  obtain ⟨N3, s3, t3⟩ := c_sizeLent (d := d) hG t2 (by rw [len1, len1]; omega)
  refine ⟨N3, ?_, t3⟩
  simp only [q14_0, ok_151 (Gd_Sm h.1 hG), if_true, s1, bV_s, ok_151 (Gd_Sm t1.1 hG), s2, bI_s, ok_151 (Gd_Sm t2.1 hG), s3]
/-- what a line of a kind answers -/
def mkV (B : Bk) (i t : Nat) : Int32 := if t = 1 then nI i + nI (siB B i) else if t = 3 then nI i + 100 else if t = 4 then (nI i + 100) + optI (B.1 9 i) else nI i
def szV (B : Bk) (i t : Nat) : Int32 := if t = 2 then nI (siB B i) + nI (B.1 7 i) else if t = 3 then 2 * (nI (siB B i) + nI (B.1 7 i)) else if t = 4 then 2 * (nI (siB B i) + nI (B.1 7 i)) + mkV B i 4 else if t = 5 then -nI i else nI (siB B i)
def mkL (t : Nat) : List Int32 := if t = 1 then [23, 20, 10] else if t = 3 then [21, 20] else if t = 4 then [22, 21, 20] else [20]
def szL (t : Nat) : List Int32 := if t = 2 then [11, 10] else if t = 3 then [12, 11, 10] else if t = 4 then [13, 12, 11, 10, 22, 21, 20] else if t = 5 then [14, 20] else [10]
def AskS (M : Mm) (B : Bk) (i : Nat) : Prop := gI M 151 1 = nI 0 ∧ gI M 151 5 = nI i ∧ gI M 151 6 = nI (siB B i) ∧ gI M 151 7 = nI (kdB B i) ∧ gR M 151 4 = 26 + 3 * i ∧ gI M (26 + 3 * i) 5 = nI (B.1 7 i) ∧ gI M (26 + 3 * i) 1 = optI (B.1 9 i)
theorem kd5 (B : Bk) (i : Nat) : kdB B i = 1 ∨ kdB B i = 2 ∨ kdB B i = 3 ∨ kdB B i = 4 ∨ kdB B i = 5 := by
  have := kdB_in B i; omega
theorem c_askSize {d i : Nat} {M : Mm} {B : Bk} (hG : Gd M) (hi : i < 24) (h : AskS M B i) : ∃ N', go (d + 6) 3 0 [.ref 151] [] M = some (some (.int (szV B i (kdB B i))), N') ∧ TrS M N' 151 1 152 (szL (kdB B i)) := by
  obtain ⟨a1, a2, a3, a4, a5, a6, a7⟩ := h
  have h0 : TrS M M 151 1 152 [] := ⟨Sm_refl, rfl, a1, fun i hi => by cases hi⟩
  have hl : ([] : List Int32).length = 0 := rfl
  obtain ⟨N1, s1, t1⟩ := c_sizeLent (d := d + 3) hG h0 (by omega)
  obtain ⟨N2, s2, t2⟩ := c_sizeOfWhen (d := d + 2) hG hi a5 h0 (by omega)
  obtain ⟨N3, s3, t3⟩ := c_sizeOfOther (d := d + 1) hG hi a5 h0 (by omega)
  obtain ⟨N4, s4, t4⟩ := c_sizeOfPatch (d := d) hG hi a5 h0 (by omega)
  obtain ⟨N5, s5, t5⟩ := c_sizeOfIdler (d := d + 2) hG h0 (by omega)
  rw [a3] at s1; rw [a3, a6] at s2 s3; rw [a2, a3, a6, a7] at s4; rw [a2] at s5
  rcases kd5 B i with e | e | e | e | e
  · rw [e] at a4 ⊢
    refine ⟨N1, ?_, t1⟩
    rw [q3_0, if_pos (ok_151 hG), a4, if_neg (by decide), if_neg (by decide), if_neg (by decide), if_neg (by decide), if_pos (ok_151 hG), s1, bI_s]; rfl
  · rw [e] at a4 ⊢
    refine ⟨N2, ?_, t2⟩
    rw [q3_0, if_pos (ok_151 hG), a4, if_pos (by decide), if_pos (ok_151 hG), s2, bI_s]; rfl
  · rw [e] at a4 ⊢
    refine ⟨N3, ?_, t3⟩
    rw [q3_0, if_pos (ok_151 hG), a4, if_neg (by decide), if_pos (by decide), if_pos (ok_151 hG), s3, bI_s]; rfl
  · rw [e] at a4 ⊢
    refine ⟨N4, ?_, t4⟩
    rw [q3_0, if_pos (ok_151 hG), a4, if_neg (by decide), if_neg (by decide), if_pos (by decide), if_pos (ok_151 hG), s4, bI_s]; rfl
  · rw [e] at a4 ⊢
    refine ⟨N5, ?_, t5⟩
    rw [q3_0, if_pos (ok_151 hG), a4, if_neg (by decide), if_neg (by decide), if_neg (by decide), if_pos (by decide), if_pos (ok_151 hG), s5, bI_s]; rfl
theorem c_askMark {d i : Nat} {M : Mm} {B : Bk} (hG : Gd M) (hi : i < 24) (h : AskS M B i) : ∃ N', go (d + 6) 4 0 [.ref 151] [] M = some (some (.int (mkV B i (kdB B i))), N') ∧ TrS M N' 151 1 152 (mkL (kdB B i)) := by
  obtain ⟨a1, a2, a3, a4, a5, a6, a7⟩ := h
  have h0 : TrS M M 151 1 152 [] := ⟨Sm_refl, rfl, a1, fun i hi => by cases hi⟩
  have hl : ([] : List Int32).length = 0 := rfl
  obtain ⟨N1, s1, t1⟩ := c_markOfAlways (d := d + 2) hG h0 (by omega)
  obtain ⟨N2, s2, t2⟩ := c_markLent (d := d + 3) hG h0 (by omega)
  obtain ⟨N3, s3, t3⟩ := c_markOfOther (d := d + 2) hG h0 (by omega)
  obtain ⟨N4, s4, t4⟩ := c_markOfPatch (d := d + 1) hG hi a5 h0 (by omega)
  rw [a2, a3] at s1; rw [a2] at s2 s3; rw [a2, a7] at s4
  rcases kd5 B i with e | e | e | e | e
  · rw [e] at a4 ⊢
    refine ⟨N1, ?_, t1⟩
    rw [q4_0, if_pos (ok_151 hG), a4, if_pos (by decide), if_pos (ok_151 hG), s1, bI_s]; rfl
  · rw [e] at a4 ⊢
    refine ⟨N2, ?_, t2⟩
    rw [q4_0, if_pos (ok_151 hG), a4, if_neg (by decide), if_pos (by decide), if_pos (ok_151 hG), s2, bI_s]; rfl
  · rw [e] at a4 ⊢
    refine ⟨N3, ?_, t3⟩
    rw [q4_0, if_pos (ok_151 hG), a4, if_neg (by decide), if_neg (by decide), if_pos (by decide), if_pos (ok_151 hG), s3, bI_s]; rfl
  · rw [e] at a4 ⊢
    refine ⟨N4, ?_, t4⟩
    rw [q4_0, if_pos (ok_151 hG), a4, if_neg (by decide), if_neg (by decide), if_neg (by decide), if_pos (by decide), if_pos (ok_151 hG), s4, bI_s]; rfl
  · rw [e] at a4 ⊢
    refine ⟨N2, ?_, t2⟩
    rw [q4_0, if_pos (ok_151 hG), a4, if_neg (by decide), if_neg (by decide), if_neg (by decide), if_neg (by decide), if_pos (ok_151 hG), s2, bI_s]; rfl
/-- the model's side -/
theorem TrS_B {M N : Mm} {B : Bk} {L : List Int32} (h : TrS M N 171 48 197 L) (hB : BK M B) : BK N B :=
  BK_cong (M := M) (fun r k z => TrS_I h (by unfold rdB at z; omega)) (fun r _ => h.1.2.2.2 r (fun z => z)) hB
theorem m_markOf {d i t : Nat} {M N : Mm} {B : Bk} {L : List Int32} (hG : Gd M) (hB : BK M B) (hi : i < nnB B) (ht : t = 1 ∨ t = 2 ∨ t = 3 ∨ t = 4 ∨ t = 5) (h : TrS M N 171 48 197 L) (hl : L.length + 2 < 16) : ∃ N', go (d + 4) 232 0 [.ref 171, .int (nI i), .int (nI t), .null] [] N = some (some (.int (mkV B i t)), N') ∧ TrS M N' 171 48 197 (L ++ mkL t) := by
  have hn := BK_nn hB
  have iso : ∀ (y : Nat) (N : Mm), y < 6 → go (d + 3) 228 0 [.int (nI t), .int (nI y)] [] N = some (some (.int (b2i (tkB t y))), N) := fun y N hy => m_isOf (d := d + 2) (by omega) hy
  have iso3 : ∀ N, go (d + 3) 228 0 [.int (nI t), .int (3 : Int32)] [] N = some (some (.int (b2i (tkB t 3))), N) := fun N => iso 3 N (by omega)
  have ok : ∀ {N L}, TrS M N 171 48 197 L → okO N 171 12 = true := fun h => ok_171 (Gd_Sm h.1 hG)
  have st : ∀ {N L}, TrS M N 171 48 197 L → go (d + 3) 226 0 [.ref 171, .int (nI i), .null, .null] [] N = some (some (.int (nI (siB B i))), N) := fun h => m_standsIn (d := d) (Gd_Sm h.1 hG) (TrS_B h hB) hi
  rcases ht with rfl | rfl | rfl | rfl | rfl
  · obtain ⟨N1, s1, t1⟩ := m_began (d := d + 2) hG h (by omega) 23
    obtain ⟨N2, s2, t2⟩ := m_began (d := d + 2) hG t1 (by rw [len1]; omega) 20
    obtain ⟨N3, s3, t3⟩ := m_began (d := d + 2) hG t2 (by rw [len1, len1]; omega) 10
    refine ⟨N3, ?_, ?_⟩
    · rw [q232_0, if_neg (by decide), iso3, bI_s, if_pos (by decide), if_pos (by decide), if_pos (ok h), s1, bV_s, q232_36, if_pos (ok t1), s2, bV_s, if_pos (by decide), if_pos (ok t2), s3, bV_s, if_pos (ok t3), st t3, bI_s]; rfl
    · have : L ++ [23] ++ [20] ++ [10] = L ++ mkL 1 := by simp [mkL]
      rw [← this]; exact t3
  · obtain ⟨N1, s1, t1⟩ := m_began (d := d + 2) hG h (by omega) 20
    refine ⟨N1, ?_, t1⟩
    rw [q232_0, if_neg (by decide), iso3, bI_s, if_pos (by decide), if_neg (by decide), q232_36, if_pos (ok h), s1, bV_s, if_neg (by decide), iso3, bI_s, if_pos (by decide), if_neg (by decide), Int32.add_zero]; rfl
  · obtain ⟨N1, s1, t1⟩ := m_began (d := d + 2) hG h (by omega) 21
    obtain ⟨N2, s2, t2⟩ := m_began (d := d + 2) hG t1 (by rw [len1]; omega) 20
    refine ⟨N2, ?_, ?_⟩
    · rw [q232_0, if_neg (by decide), iso3, bI_s, if_neg (by decide), if_pos (ok h), s1, bV_s, if_neg (by decide), q232_36, if_pos (ok t1), s2, bV_s, if_neg (by decide), iso3, bI_s, if_neg (by decide), if_neg (by decide)]; rfl
    · have : L ++ [21] ++ [20] = L ++ mkL 3 := by simp [mkL]
      rw [← this]; exact t2
  · obtain ⟨N1, s1, t1⟩ := m_began (d := d + 2) hG h (by omega) 22
    obtain ⟨N2, s2, t2⟩ := m_began (d := d + 2) hG t1 (by rw [len1]; omega) 21
    obtain ⟨N3, s3, t3⟩ := m_began (d := d + 2) hG t2 (by rw [len1, len1]; omega) 20
    have hG3 := Gd_Sm t3.1 hG
    have n1 : gI N3 178 i = optI (B.1 9 i) := ((TrS_B t3 hB).2.2.1 i hi).2.2.2.2.2.2.2.2.2.2.2.2.2.2.2.2.2.2.2.1
    refine ⟨N3, ?_, ?_⟩
    · rw [q232_0, if_pos (by decide), if_pos (ok h), s1, bV_s, iso3, bI_s, if_neg (by decide), if_pos (ok t1), s2, bV_s, if_neg (by decide), q232_36, if_pos (ok t2), s3, bV_s, if_neg (by decide), iso3, bI_s, if_neg (by decide), if_pos (by decide), if_pos (ok t3), gr_171_11 hG3, if_pos (rk_178 hG3 (by omega)), nI_clamp (by omega), n1]; rfl
    · have : L ++ [22] ++ [21] ++ [20] = L ++ mkL 4 := by simp [mkL]
      rw [← this]; exact t3
  · obtain ⟨N1, s1, t1⟩ := m_began (d := d + 2) hG h (by omega) 20
    refine ⟨N1, ?_, t1⟩
    rw [q232_0, if_neg (by decide), iso3, bI_s, if_pos (by decide), if_neg (by decide), q232_36, if_pos (ok h), s1, bV_s, if_neg (by decide), iso3, bI_s, if_pos (by decide), if_neg (by decide), Int32.add_zero]; rfl
theorem m_sizeOf {d i t : Nat} {M : Mm} {B : Bk} (hG : Gd M) (hB : BK M B) (hi : i < nnB B) (ht : t = 1 ∨ t = 2 ∨ t = 3 ∨ t = 4 ∨ t = 5) (h : TrS M M 171 48 197 []) : ∃ N', go (d + 5) 233 0 [.ref 171, .int (nI i), .int (nI t), .null] [] M = some (some (.int (szV B i t)), N') ∧ TrS M N' 171 48 197 (szL t) := by
  have hn := BK_nn hB
  have iso : ∀ (y : Nat) (N : Mm), y < 6 → go (d + 4) 228 0 [.int (nI t), .int (nI y)] [] N = some (some (.int (b2i (tkB t y))), N) := fun y N hy => m_isOf (d := d + 3) (by omega) hy
  have iso3 : ∀ N, go (d + 4) 228 0 [.int (nI t), .int (3 : Int32)] [] N = some (some (.int (b2i (tkB t 3))), N) := fun N => iso 3 N (by omega)
  have iso2 : ∀ N, go (d + 4) 228 0 [.int (nI t), .int (2 : Int32)] [] N = some (some (.int (b2i (tkB t 2))), N) := fun N => iso 2 N (by omega)
  have ok : ∀ {N L}, TrS M N 171 48 197 L → okO N 171 12 = true := fun h => ok_171 (Gd_Sm h.1 hG)
  have st : ∀ {N L}, TrS M N 171 48 197 L → go (d + 4) 226 0 [.ref 171, .int (nI i), .null, .null] [] N = some (some (.int (nI (siB B i))), N) := fun h => m_standsIn (d := d + 1) (Gd_Sm h.1 hG) (TrS_B h hB) hi
  have e8 : (8 : Int32) + nI i = nI (8 + i) := by rw [show (8 : Int32) = nI 8 from rfl, nI_add]
  have mk : ∀ {N L}, TrS M N 171 48 197 L → rOK N (gR N 171 19) 0 ((8 : Int32) + nI i) = true ∧ gI N (gR N 171 19) ((8 : Int32) + nI i).toNatClampNeg = nI (B.1 7 i) := fun {N L} h => by
    have hGN := Gd_Sm h.1 hG
    have n5 : gI N 186 (8 + i) = nI (B.1 7 i) := ((TrS_B h hB).2.2.1 i hi).2.2.2.2.2.2.2.2.2.2.2.2.2.2.2.2.2.2.2.2.2.2.2.1
    rw [gr_171_19 hGN, e8, nI_clamp (show 8 + i < 2 ^ 31 by omega)]
    exact ⟨rk_186 hGN (show 8 + i < 32 by omega), n5⟩
  have hl : ([] : List Int32).length = 0 := rfl
  rcases ht with rfl | rfl | rfl | rfl | rfl
  · obtain ⟨N1, s1, t1⟩ := m_began (d := d + 3) hG h (by omega) 10
    refine ⟨N1, ?_, t1⟩
    rw [q233_0, if_neg (by decide), if_neg (by decide), iso3, bI_s, if_pos (by decide), iso2, bI_s, if_pos (by decide), q233_58, if_pos (ok h), s1, bV_s, if_pos (ok t1), st t1, bI_s, iso2, bI_s, if_pos (by decide), iso3, bI_s, if_pos (by decide), q233_107, if_neg (by decide), Int32.add_zero]; rfl
  · obtain ⟨N1, s1, t1⟩ := m_began (d := d + 3) hG h (by omega) 11
    obtain ⟨N2, s2, t2⟩ := m_began (d := d + 3) hG t1 (by rw [len1]; omega) 10
    obtain ⟨k1, k2⟩ := mk t2
    refine ⟨N2, ?_, t2⟩
    rw [q233_0, if_neg (by decide), if_neg (by decide), iso3, bI_s, if_pos (by decide), iso2, bI_s, if_neg (by decide), if_pos (ok h), s1, bV_s, q233_58, if_pos (ok t1), s2, bV_s, if_pos (ok t2), st t2, bI_s, iso2, bI_s, if_neg (by decide), if_pos (ok t2), if_pos k1, k2, iso3, bI_s, if_pos (by decide), q233_107, if_neg (by decide)]; rfl
  · obtain ⟨N1, s1, t1⟩ := m_began (d := d + 3) hG h (by omega) 12
    obtain ⟨N2, s2, t2⟩ := m_began (d := d + 3) hG t1 (by rw [len1]; omega) 11
    obtain ⟨N3, s3, t3⟩ := m_began (d := d + 3) hG t2 (by rw [len1, len1]; omega) 10
    obtain ⟨k1, k2⟩ := mk t3
    refine ⟨N3, ?_, t3⟩
    rw [q233_0, if_neg (by decide), if_neg (by decide), iso3, bI_s, if_neg (by decide), if_pos (ok h), s1, bV_s, iso2, bI_s, if_neg (by decide), if_pos (ok t1), s2, bV_s, q233_58, if_pos (ok t2), s3, bV_s, if_pos (ok t3), st t3, bI_s, iso2, bI_s, if_neg (by decide), if_pos (ok t3), if_pos k1, k2, iso3, bI_s, if_neg (by decide), q233_107, if_neg (by decide)]; rfl
  · obtain ⟨N1, s1, t1⟩ := m_began (d := d + 3) hG h (by omega) 13
    obtain ⟨N2, s2, t2⟩ := m_began (d := d + 3) hG t1 (by rw [len1]; omega) 12
    obtain ⟨N3, s3, t3⟩ := m_began (d := d + 3) hG t2 (by rw [len1, len1]; omega) 11
    obtain ⟨N4, s4, t4⟩ := m_began (d := d + 3) hG t3 (by rw [len1, len1, len1]; omega) 10
    obtain ⟨k1, k2⟩ := mk t4
    obtain ⟨N5, s5, t5⟩ := m_markOf (d := d) hG hB hi (Or.inr (Or.inr (Or.inr (Or.inl rfl)))) t4 (by rw [len1, len1, len1, len1]; omega)
    refine ⟨N5, ?_, t5⟩
    rw [q233_0, if_neg (by decide), if_pos (by decide), if_pos (ok h), s1, bV_s, iso3, bI_s, if_neg (by decide), if_pos (ok t1), s2, bV_s, iso2, bI_s, if_neg (by decide), if_pos (ok t2), s3, bV_s, q233_58, if_pos (ok t3), s4, bV_s, if_pos (ok t4), st t4, bI_s, iso2, bI_s, if_neg (by decide), if_pos (ok t4), if_pos k1, k2, iso3, bI_s, if_neg (by decide), q233_107, if_pos (by decide), if_pos (ok t4), s5, bI_s]; rfl
  · obtain ⟨N1, s1, t1⟩ := m_began (d := d + 3) hG h (by omega) 14
    obtain ⟨N2, s2, t2⟩ := m_markOf (d := d) hG hB hi (Or.inr (Or.inr (Or.inr (Or.inr rfl)))) t1 (by rw [len1]; omega)
    refine ⟨N2, ?_, t2⟩
    rw [q233_0, if_pos (by decide), if_pos (ok h), s1, bV_s, if_pos (ok t1), s2, bI_s]; rfl
def Ts (r k : Nat) : Prop := Qs r k ∨ (r = 151 ∧ k = 1) ∨ r = 152 ∨ (r = 171 ∧ k = 48) ∨ r = 197
theorem Inv_t {E M N : Mm} {B : Bk} (hI : Inv E M B) (h : Sm Ts QL M N) (hC : TRC N) : Inv E N B := by
  obtain ⟨a1, a2, a3, a4, a5, a6, a7, ⟨bk, bv, a8⟩, a9, a10⟩ := hI
  have hT := h.2.2.1
  exact ⟨Gd_Sm h a1, EXT_Sm (fun r k z => by unfold Ts Qs at z; omega) (fun r z => by unfold QL at z; omega) h a2, SHT_cong (fun r k z => hT r k (by unfold rdS at z; unfold Ts Qs; omega)) a3, TAP_cong (fun r k z => hT r k (by unfold rdT at z; unfold Ts Qs; omega)) a4, LAT_cong (hT _ _ (by unfold Ts Qs; omega)) (hT _ _ (by unfold Ts Qs; omega)) (hT _ _ (by unfold Ts Qs; omega)) (hT _ _ (by unfold Ts Qs; omega)) a5, hC, BK_cong (fun r k z => hT r k (by unfold rdB at z; unfold Ts Qs; omega)) (fun r z => h.2.2.2 r (by unfold rdL at z; unfold QL; omega)) a7, ⟨bk, bv, BUY_cong (fun r k z => hT r k (by unfold rdU at z; unfold Ts Qs; omega)) a8⟩, EC_cong (fun r k z => hT r k (by unfold rdE at z; unfold Ts Qs; omega)) a9, HC_cong (fun r k z => hT r k (by unfold rdH at z; unfold Ts Qs; omega)) a10⟩
theorem BK_t {M N : Mm} {B : Bk} (hB : BK M B) (h : Sm Ts QL M N) : BK N B := BK_cong (fun r k z => h.2.2.1 r k (by unfold rdB at z; unfold Ts Qs; omega)) (fun r z => h.2.2.2 r (by unfold rdL at z; unfold QL; omega)) hB
theorem c_begin {d i : Nat} {M : Mm} {B : Bk} (hG : Gd M) (hB : BK M B) (hi : i < nnB B) : ∃ N, go (d + 4) 2 0 [.ref 151, .int (nI i)] [] M = some (none, N) ∧ Sm Ts QL M N ∧ AskS N B i := by
  have hn := BK_nn hB
  have hG1 : Gd (sI (sI M 151 1 0) 151 5 (nI i)) := hG
  have S0 : Sm Ts QL M (sR (sI (sI M 151 1 0) 151 5 (nI i)) 151 4 (26 + 3 * i)) := Sm_trans (Sm_sI (by unfold Ts Qs; omega)) (Sm_trans (Sm_sI (by unfold Ts Qs; omega)) Sm_sR)
  have hG2 := Gd_Sm S0 hG
  have hB2 := BK_t hB S0
  obtain ⟨N, g, s, k⟩ := c_bodiesWith (d := d) hG2 hB2 hi
  have hG3 := KSet_G k hG2
  have S1 : Sm Ts QL M N := Sm_trans S0 (KSet_Sm k (by unfold QL; omega))
  have S2 : Sm Ts QL M (sI N 151 6 (nI (siB B i))) := Sm_trans S1 (Sm_sI (by unfold Ts Qs; omega))
  have S3 : ∀ v, Sm Ts QL M (sI (sI N 151 6 (nI (siB B i))) 151 7 v) := fun v => Sm_trans S2 (Sm_sI (by unfold Ts Qs; omega))
  have e1 : gI N 151 1 = nI 0 := by rw [KSet_I k]; rfl
  have e5 : gI N 151 5 = nI i := by rw [KSet_I k]; rfl
  have r4 : gR N 151 4 = 26 + 3 * i := by rw [KSet_R k]; rfl
  have hB3 := BK_t hB S2
  have hG4 : Gd (sI N 151 6 (nI (siB B i))) := hG3
  have kw := c_kindWhenUsed (d := d + 2) hG4 hB3 hi
  have m5 : ∀ v, gI (sI (sI N 151 6 (nI (siB B i))) 151 7 v) (26 + 3 * i) 5 = nI (B.1 7 i) := fun v => ((BK_t hB (S3 v)).2.2.1 i hi).2.2.2.2.2.2.2.2.2.2.2.2.2.2.2.1
  have m1 : ∀ v, gI (sI (sI N 151 6 (nI (siB B i))) 151 7 v) (26 + 3 * i) 1 = optI (B.1 9 i) := fun v => ((BK_t hB (S3 v)).2.2.1 i hi).2.2.2.2.2.2.2.2.2.2.2.1
  have fin : ∀ v, v = nI (kdB B i) → AskS (sI (sI N 151 6 (nI (siB B i))) 151 7 v) B i := fun v hv => ⟨by rw [gI_ne (by omega), gI_ne (by omega)]; exact e1, by rw [gI_ne (by omega), gI_ne (by omega)]; exact e5, by rw [gI_ne (by omega), gI_at], by rw [gI_at]; exact hv, r4, m5 v, m1 v⟩
  have z6 : gI (sI N 151 6 (nI (siB B i))) 151 6 = nI (siB B i) := gI_at
  have ez : nI (siB B i) = (0 : Int32) ↔ siB B i = 0 := nI_eq (a := siB B i) (b := 0) (Nat.lt_of_le_of_lt (siB_le hn.1 i) (by omega)) (by omega)
  have hb : Nat.blt (26 + 3 * i) 1000 = true := by rw [Nat.blt_eq]; omega
  have gr2 : gR (sI (sI M 151 1 0) 151 5 (nI i)) 151 2 = 5 := gr_151_2 hG
  have gr3 : gR (sR (sI (sI M 151 1 0) 151 5 (nI i)) 151 4 (26 + 3 * i)) 151 3 = 126 := gr_151_3 hG2
  have main : go (d + 4) 2 0 [.ref 151, .int (nI i)] [] M = if siB B i = 0 then some (none, sI (sI N 151 6 (nI (siB B i))) 151 7 5) else some (none, sI (sI N 151 6 (nI (siB B i))) 151 7 (nI (kwB B i))) := by
    simp only [q2_0, ok_151 hG, ok_151 hG1, if_true, bM_d, okO_sI, gr2, ok_5 hG1, ok_5 hG, gr_5_7 hG1, rk_9 hG1 (show i < 24 by omega), nI_clamp (show i < 2 ^ 31 by omega), gr_line hG1 (show i < 24 by omega), hb, ok_151 hG2, gr3, ok_126 hG2, s, bI_s, ok_151 hG3, z6, ez, show gR (sI N 151 6 (nI (siB B i))) 151 4 = 26 + 3 * i from r4, ok_line hG3 (show i < 24 by omega), kw]
  by_cases h0 : siB B i = 0
  · refine ⟨_, ?_, S3 5, fin 5 ?_⟩
    · rw [main, if_pos h0]
    · unfold kdB; rw [if_pos h0]; rfl
  · refine ⟨_, ?_, S3 (nI (kwB B i)), fin _ ?_⟩
    · rw [main, if_neg h0]
    · unfold kdB kwB; rw [if_neg h0]
theorem TrS_TRC {M N N' : Mm} {L : List Int32} (h1 : gI N' 151 1 = nI L.length) (h2 : ∀ i, i < L.length → gI N' 152 i = L.getD i 0) (h3 : gI N' 171 48 = nI L.length) (h4 : ∀ i, i < L.length → gI N' 197 i = L.getD i 0) (hl : L.length ≤ 16) : TRC N' :=
  ⟨L.length, hl, h1, h3, fun i hi => (h2 i hi).trans (h4 i hi).symm⟩
theorem op_ask {E M : Mm} {B : Bk} {d : Nat} (hI : Inv E M B) (x y : Int32) : Alike E M (d + 7) 142 234 [.ref 1, .int x, .int y] [.ref 171, .int x, .int y] := by
  have hG := hI.1
  have hB := hI.2.2.2.2.2.2.1
  have hn := BK_nn hB
  have cl := c_isLine (d := d + 5) hG (BK_c hB) x
  have hB' := (thr hI).2.2.2.2.2.2.1
  have i2 : ∀ N, go (d + 6) 154 0 [.long y.toInt64, .null, .long (0 : Int64), .null, .long (1 : Int64), .null] [] N = some (some (.int (b2i (inR 2 y))), N) := fun N => by
    rw [show (1 : Int64) = (1 : Int32).toInt64 from rfl, m_inR (n := 2) rfl]
  cases h : inR (nnB B) x with
  | false =>
    refine Alike_q hI (-1000001) M (sI M 171 0 0) ?_ Sm_refl ?_ sm0
    · simp only [q142_0, ok_1 hG, gr_1_2 hG, ok_5 hG, if_true, cl, bI_s, b2i0, h]
    · simp only [q234_0, ok_171 hG, okO_sI, if_true, bM_d, m_isLine (M := sI M 171 0 0) hG (BK_c hB'), bI_s, b2i0, h]
  | true =>
    cases h2 : inR 2 y with
    | false =>
      refine Alike_q hI (-1000001) M (sI M 171 0 0) ?_ Sm_refl ?_ sm0
      · simp only [q142_0, ok_1 hG, gr_1_2 hG, ok_5 hG, if_true, cl, bI_s, b2i0, h, Bool.true_eq_false, if_false]
        by_cases y0 : y < 0
        · rw [if_pos y0]
        · rw [if_neg y0, if_neg (fun q => ?_)]
          obtain ⟨j, hj, rfl⟩ := nI_of2 (x := y) (M := 1) (n := 1) rfl y0 q
          rw [inR_nI (by omega) (by omega)] at h2; cases h2
      · simp only [q234_0, ok_171 hG, okO_sI, if_true, bM_d, m_isLine (M := sI M 171 0 0) hG (BK_c hB'), bI_s, b2i0, h, Bool.true_eq_false, if_false, i2, h2]
    | true =>
      obtain ⟨i, hi, rfl⟩ := inR_n (by omega) h
      obtain ⟨w, hw, rfl⟩ := inR_n (by omega) h2
      obtain ⟨N, s, hS, hA⟩ := c_begin (d := d + 2) hG hB hi
      have hGN := Gd_Sm hS hG
      have fin : ∀ (N1 : Mm) (L : List Int32), TrS N N1 151 1 152 L → L.length ≤ 16 → Gd N1 ∧ BK (sI N1 171 0 0) B ∧ BK (sI (sI N1 171 0 0) 171 48 0) B ∧ TrS (sI (sI N1 171 0 0) 171 48 0) (sI (sI N1 171 0 0) 171 48 0) 171 48 197 [] ∧ ∀ N2, TrS (sI (sI N1 171 0 0) 171 48 0) N2 171 48 197 L → Inv E N2 B := by
        intro N1 L t1 hl
        have S1 : Sm Ts QL M N1 := Sm_trans hS (Sm_mono (fun r k z => by unfold Ts; omega) (fun r z => z.elim) t1.1)
        have S2 : Sm Ts QL M (sI N1 171 0 0) := Sm_trans S1 (Sm_sI (by unfold Ts Qs; omega))
        have S3 : Sm Ts QL M (sI (sI N1 171 0 0) 171 48 0) := Sm_trans S2 (Sm_sI (by unfold Ts Qs; omega))
        refine ⟨Gd_Sm S1 hG, BK_t hB S2, BK_t hB S3, ⟨Sm_refl, rfl, gI_at, fun i hi => by cases hi⟩, fun N2 t2 => ?_⟩
        refine Inv_t hI (Sm_trans S3 (Sm_mono (fun r k z => by unfold Ts; omega) (fun r z => z.elim) t2.1)) (TrS_TRC (M := M) (N := M) (L := L) ?_ (fun i hi => ?_) t2.2.2.1 t2.2.2.2 hl)
        · rw [TrS_I t2 (by omega), gI_ne (by omega), gI_ne (by omega)]; exact t1.2.2.1
        · rw [TrS_I t2 (by omega), gI_ne (by omega), gI_ne (by omega)]; exact t1.2.2.2 i hi
      have hlL : (szL (kdB B i)).length ≤ 16 ∧ (mkL (kdB B i)).length ≤ 16 := by
        rcases kd5 B i with e | e | e | e | e <;> rw [e] <;> decide
      have t0 : nI w ≤ (1 : Int32) := (nI_leI (a := w) (b := 1) (by omega) (by omega)).mpr (by omega)
      rcases (show w = 0 ∨ w = 1 by omega) with rfl | rfl
      · obtain ⟨N1, s1, t1⟩ := c_askSize (d := d) hGN (by omega) hA
        obtain ⟨hG1, hB1, hB2, h0, hfin⟩ := fin N1 _ t1 hlL.1
        obtain ⟨N2, s2, t2⟩ := m_sizeOf (d := d + 1) (M := sI (sI N1 171 0 0) 171 48 0) hG1 hB2 hi (kd5 B i) h0
        refine ⟨szV B i (kdB B i), N1, N2, B, ?_, ?_, hfin N2 t2⟩
        · simp only [q142_0, ok_1 hG, gr_1_2 hG, ok_5 hG, if_true, cl, bI_s, b2i0, h, Bool.true_eq_false, if_false, nI_pos (show 0 < 2 ^ 31 by omega), t0, gr_1_7 hG, ok_151 hG, s, bV_s]
          rw [if_pos (by decide), if_pos (ok_1 hGN), gr_1_7 hGN, if_pos (ok_151 hGN), s1, bI_s]
        · simp only [q234_0, ok_171 hG1, okO_sI, if_true, bM_d, m_isLine (M := sI N1 171 0 0) hG1 (BK_c hB1), bI_s, b2i0, h, Bool.true_eq_false, if_false, i2, h2]
          rw [if_pos (by decide), m_kindOf (M := sI (sI N1 171 0 0) 171 48 0) hG1 hB2 hi, bI_s, okO_sI, okO_sI, if_pos (ok_171 hG1), s2, bI_s]
      · obtain ⟨N1, s1, t1⟩ := c_askMark (d := d) hGN (by omega) hA
        obtain ⟨hG1, hB1, hB2, h0, hfin⟩ := fin N1 _ t1 hlL.2
        obtain ⟨N2, s2, t2⟩ := m_markOf (d := d + 2) (M := sI (sI N1 171 0 0) 171 48 0) hG1 hB2 hi (kd5 B i) h0 (by show 0 + 2 < 16; omega)
        refine ⟨mkV B i (kdB B i), N1, N2, B, ?_, ?_, hfin N2 t2⟩
        · simp only [q142_0, ok_1 hG, gr_1_2 hG, ok_5 hG, if_true, cl, bI_s, b2i0, h, Bool.true_eq_false, if_false, nI_pos (show 1 < 2 ^ 31 by omega), t0, gr_1_7 hG, ok_151 hG, s, bV_s]
          rw [if_neg (by decide), if_pos (ok_1 hGN), gr_1_7 hGN, if_pos (ok_151 hGN), s1, bI_s]
        · simp only [q234_0, ok_171 hG1, okO_sI, if_true, bM_d, m_isLine (M := sI N1 171 0 0) hG1 (BK_c hB1), bI_s, b2i0, h, Bool.true_eq_false, if_false, i2, h2]
          rw [if_neg (by decide), m_kindOf (M := sI (sI N1 171 0 0) 171 48 0) hG1 hB2 hi, bI_s, okO_sI, okO_sI, if_pos (ok_171 hG1), s2, bI_s]
