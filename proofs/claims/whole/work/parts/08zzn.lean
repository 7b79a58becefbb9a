/-! ===== the class's object (printed by program) ===== -/
def lkA : List (Nat × Nat) := [(1, 9), (1, 8), (1, 7), (151, 4), (151, 3), (151, 2), (151, 0), (1, 6), (148, 4), (148, 3), (148, 5), (148, 0), (1, 5), (138, 9), (138, 8), (138, 7), (146, 0), (138, 6), (138, 5), (138, 2), (138, 1), (141, 0), (138, 0), (139, 0), (1, 4), (126, 4), (126, 7), (126, 6), (126, 5), (126, 3), (133, 0), (126, 2), (131, 0), (126, 1), (129, 0), (126, 0), (127, 0), (1, 3), (99, 0), (100, 0), (99, 1), (102, 0), (99, 2), (104, 0), (99, 3), (106, 0), (99, 4), (108, 0), (99, 5), (110, 0), (99, 6), (112, 0), (99, 7), (114, 0), (99, 8), (116, 0), (99, 9), (118, 0), (99, 10), (120, 0), (99, 11), (122, 0), (99, 12), (124, 0), (98, 3), (98, 2), (98, 4), (1, 2), (9, 0), (26, 8), (27, 0), (9, 1), (29, 8), (30, 0), (9, 2), (32, 8), (33, 0), (9, 3), (35, 8), (36, 0), (9, 4), (38, 8), (39, 0), (9, 5), (41, 8), (42, 0), (9, 6), (44, 8), (45, 0), (9, 7), (47, 8), (48, 0), (9, 8), (50, 8), (51, 0), (9, 9), (53, 8), (54, 0), (9, 10), (56, 8), (57, 0), (9, 11), (59, 8), (60, 0), (9, 12), (62, 8), (63, 0), (9, 13), (65, 8), (66, 0), (9, 14), (68, 8), (69, 0), (9, 15), (71, 8), (72, 0), (9, 16), (74, 8), (75, 0), (9, 17), (77, 8), (78, 0), (9, 18), (80, 8), (81, 0), (9, 19), (83, 8), (84, 0), (9, 20), (86, 8), (87, 0), (9, 21), (89, 8), (90, 0), (9, 22), (92, 8), (93, 0), (9, 23), (95, 8), (96, 0), (8, 0), (10, 0), (8, 1), (12, 0), (8, 2), (14, 0), (8, 3), (16, 0), (8, 4), (18, 0), (8, 5), (20, 0), (8, 6), (22, 0), (8, 7), (24, 0), (5, 7), (5, 6), (5, 5), (5, 4), (1, 1), (3, 0), (1, 0)]
theorem k112 {d : Nat} {M : Mm} (s : Cn 1 [] M) : ∃ N, go (d + 4) 112 0 [.ref 1, .null] [] M = go (d + 4) 112 154 [.ref 1, .int (0 : Int32)] [] N ∧ Cn 154 lkA N := by
  rw [q112_0]
  simp only [s.1, Nat.reduceAdd]
  rw [if_pos (by decide +kernel)]
  rw [if_pos (nA s.1 (by decide +kernel))]
  rw [bM_d]
  replace s := (cn_N s : Cn 2 _ _)
  generalize sN M = N at s ⊢
  rw [if_pos (oO s.1 (by decide +kernel))]
  rw [if_pos (by decide +kernel)]
  rw [bM_d]
  replace s := cn_R (r := 1) (k := 0) (v := 2) s (by decide +kernel)
  generalize sR N 1 0 2 = N at s ⊢
  simp only [s.1, Nat.reduceAdd]
  rw [if_pos (nO s.1 (by decide +kernel))]
  rw [bM_d]
  replace s := (cn_N s : Cn 3 _ _)
  generalize sN N = N at s ⊢
  rw [if_pos (by decide +kernel)]
  obtain ⟨N, e, s⟩ := k103 (d := d + 2) s
  rw [e, bV_s]
  rw [if_pos (oO s.1 (by decide +kernel))]
  rw [if_pos (by decide +kernel)]
  rw [bM_d]
  replace s := cn_R (r := 1) (k := 1) (v := 3) s (by decide +kernel)
  generalize sR N 1 1 3 = N at s ⊢
  rw [q112_24]
  simp only [s.1, Nat.reduceAdd]
  rw [if_pos (nO s.1 (by decide +kernel))]
  rw [bM_d]
  replace s := (cn_N s : Cn 5 _ _)
  generalize sN N = N at s ⊢
  rw [if_pos (by decide +kernel)]
  obtain ⟨N, e, s⟩ := k15 (d := d) s
  rw [e, bV_s]
  rw [if_pos (oO s.1 (by decide +kernel))]
  rw [if_pos (by decide +kernel)]
  rw [bM_d]
  replace s := cn_R (r := 1) (k := 2) (v := 5) s (by decide +kernel)
  generalize sR N 1 2 5 = N at s ⊢
  simp only [s.1, Nat.reduceAdd]
  rw [if_pos (nO s.1 (by decide +kernel))]
  rw [bM_d]
  replace s := (cn_N s : Cn 98 _ _)
  generalize sN N = N at s ⊢
  rw [cn_r s (r := 1) (k := 1) (v := 3) (by decide +kernel) (by decide +kernel)]
  rw [cn_r s (r := 1) (k := 2) (v := 5) (by decide +kernel) (by decide +kernel)]
  rw [if_pos (oO s.1 (by decide +kernel))]
  rw [if_pos (oO s.1 (by decide +kernel))]
  rw [if_pos (by decide +kernel)]
  obtain ⟨N, e, s⟩ := k77 (d := d + 1) s
  rw [e, bV_s]
  rw [if_pos (oO s.1 (by decide +kernel))]
  rw [if_pos (by decide +kernel)]
  rw [bM_d]
  replace s := cn_R (r := 1) (k := 3) (v := 98) s (by decide +kernel)
  generalize sR N 1 3 98 = N at s ⊢
  rw [q112_54]
  simp only [s.1, Nat.reduceAdd]
  rw [if_pos (nO s.1 (by decide +kernel))]
  rw [bM_d]
  replace s := (cn_N s : Cn 126 _ _)
  generalize sN N = N at s ⊢
  rw [cn_r s (r := 1) (k := 2) (v := 5) (by decide +kernel) (by decide +kernel)]
  rw [if_pos (oO s.1 (by decide +kernel))]
  rw [if_pos (by decide +kernel)]
  obtain ⟨N, e, s⟩ := k58 (d := d + 1) s
  rw [e, bV_s]
  rw [if_pos (oO s.1 (by decide +kernel))]
  rw [if_pos (by decide +kernel)]
  rw [bM_d]
  replace s := cn_R (r := 1) (k := 4) (v := 126) s (by decide +kernel)
  generalize sR N 1 4 126 = N at s ⊢
  simp only [s.1, Nat.reduceAdd]
  rw [if_pos (nO s.1 (by decide +kernel))]
  rw [bM_d]
  replace s := (cn_N s : Cn 138 _ _)
  generalize sN N = N at s ⊢
  rw [cn_r s (r := 1) (k := 2) (v := 5) (by decide +kernel) (by decide +kernel)]
  rw [cn_r s (r := 1) (k := 4) (v := 126) (by decide +kernel) (by decide +kernel)]
  rw [if_pos (oO s.1 (by decide +kernel))]
  rw [if_pos (oO s.1 (by decide +kernel))]
  rw [if_pos (by decide +kernel)]
  obtain ⟨N, e, s⟩ := k24 (d := d + 1) s
  rw [e, bV_s]
  rw [if_pos (oO s.1 (by decide +kernel))]
  rw [if_pos (by decide +kernel)]
  rw [bM_d]
  replace s := cn_R (r := 1) (k := 5) (v := 138) s (by decide +kernel)
  generalize sR N 1 5 138 = N at s ⊢
  rw [q112_88]
  simp only [s.1, Nat.reduceAdd]
  rw [if_pos (nO s.1 (by decide +kernel))]
  rw [bM_d]
  replace s := (cn_N s : Cn 148 _ _)
  generalize sN N = N at s ⊢
  rw [cn_r s (r := 1) (k := 2) (v := 5) (by decide +kernel) (by decide +kernel)]
  rw [cn_r s (r := 1) (k := 4) (v := 126) (by decide +kernel) (by decide +kernel)]
  rw [if_pos (oO s.1 (by decide +kernel))]
  rw [if_pos (oO s.1 (by decide +kernel))]
  rw [if_pos (by decide +kernel)]
  obtain ⟨N, e, s⟩ := k32 (d := d + 2) s
  rw [e, bV_s]
  rw [if_pos (oO s.1 (by decide +kernel))]
  rw [if_pos (by decide +kernel)]
  rw [bM_d]
  replace s := cn_R (r := 1) (k := 6) (v := 148) s (by decide +kernel)
  generalize sR N 1 6 148 = N at s ⊢
  simp only [s.1, Nat.reduceAdd]
  rw [if_pos (nO s.1 (by decide +kernel))]
  rw [bM_d]
  replace s := (cn_N s : Cn 151 _ _)
  generalize sN N = N at s ⊢
  rw [cn_r s (r := 1) (k := 2) (v := 5) (by decide +kernel) (by decide +kernel)]
  rw [cn_r s (r := 1) (k := 4) (v := 126) (by decide +kernel) (by decide +kernel)]
  rw [if_pos (oO s.1 (by decide +kernel))]
  rw [if_pos (oO s.1 (by decide +kernel))]
  rw [if_pos (by decide +kernel)]
  obtain ⟨N, e, s⟩ := k0 (by decide +kernel) (by decide +kernel) (d := d + 2) s
  rw [e, bV_s]
  rw [if_pos (oO s.1 (by decide +kernel))]
  rw [if_pos (by decide +kernel)]
  rw [bM_d]
  replace s := cn_R (r := 1) (k := 7) (v := 151) s (by decide +kernel)
  generalize sR N 1 7 151 = N at s ⊢
  rw [q112_126]
  simp only [s.1, Nat.reduceAdd]
  rw [if_pos (nA s.1 (by decide +kernel))]
  rw [bM_d]
  replace s := (cn_N s : Cn 153 _ _)
  generalize sN N = N at s ⊢
  rw [if_pos (oO s.1 (by decide +kernel))]
  rw [if_pos (by decide +kernel)]
  rw [bM_d]
  replace s := cn_R (r := 1) (k := 8) (v := 153) s (by decide +kernel)
  generalize sR N 1 8 153 = N at s ⊢
  simp only [s.1, Nat.reduceAdd]
  rw [if_pos (nA s.1 (by decide +kernel))]
  rw [bM_d]
  replace s := (cn_N s : Cn 154 _ _)
  generalize sN N = N at s ⊢
  rw [if_pos (oO s.1 (by decide +kernel))]
  rw [if_pos (by decide +kernel)]
  rw [bM_d]
  replace s := cn_R (r := 1) (k := 9) (v := 154) s (by decide +kernel)
  generalize sR N 1 9 154 = N at s ⊢
  rw [q112_142]
  rw [if_pos (oO s.1 (by decide +kernel))]
  rw [bM_d]
  replace s := cn_I (r := 1) (k := 10) (v := 0) s (fun _ => rfl)
  generalize sI N 1 10 (0 : Int32) = N at s ⊢
  rw [if_pos (oO s.1 (by decide +kernel))]
  rw [bM_d]
  replace s := cn_I (r := 1) (k := 11) (v := 0) s (fun _ => rfl)
  generalize sI N 1 11 (0 : Int32) = N at s ⊢
  exact ⟨_, rfl, cn_sub s (by decide +kernel)⟩
