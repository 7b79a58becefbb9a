/-! ===== the model's object (printed by program) ===== -/
theorem v_sI {M : Mm} {k : Nat} : ∀ r j, r ≠ 172 → gI (sI M 172 k (-1)) r j = gI M r j := fun r j h => gI_ne (by omega)
theorem lanes {M : Mm} : ∃ N, N = sI (sI (sI (sI (sI (sI (sI (sI M 172 0 (-1)) 172 1 (-1)) 172 2 (-1)) 172 3 (-1)) 172 4 (-1)) 172 5 (-1)) 172 6 (-1)) 172 7 (-1) ∧ (∀ k, k < 8 → gI N 172 k = -1) ∧ (∀ r k, r ≠ 172 → gI N r k = gI M r k) ∧ gL N = gL M := by
  refine ⟨_, rfl, fun k hk => ?_, fun r k hr => ?_, rfl⟩
  · have h : k = 0 ∨ k = 1 ∨ k = 2 ∨ k = 3 ∨ k = 4 ∨ k = 5 ∨ k = 6 ∨ k = 7 := by omega
    rcases h with rfl | rfl | rfl | rfl | rfl | rfl | rfl | rfl
    · rw [gI_ne (by omega), gI_ne (by omega), gI_ne (by omega), gI_ne (by omega), gI_ne (by omega), gI_ne (by omega), gI_ne (by omega), gI_at]
    · rw [gI_ne (by omega), gI_ne (by omega), gI_ne (by omega), gI_ne (by omega), gI_ne (by omega), gI_ne (by omega), gI_at]
    · rw [gI_ne (by omega), gI_ne (by omega), gI_ne (by omega), gI_ne (by omega), gI_ne (by omega), gI_at]
    · rw [gI_ne (by omega), gI_ne (by omega), gI_ne (by omega), gI_ne (by omega), gI_at]
    · rw [gI_ne (by omega), gI_ne (by omega), gI_ne (by omega), gI_at]
    · rw [gI_ne (by omega), gI_ne (by omega), gI_at]
    · rw [gI_ne (by omega), gI_at]
    · rw [gI_at]
  · rw [gI_ne (by omega), gI_ne (by omega), gI_ne (by omega), gI_ne (by omega), gI_ne (by omega), gI_ne (by omega), gI_ne (by omega), gI_ne (by omega)]
theorem k156 {d : Nat} {L : List (Nat × Nat)} {M : Mm} (s : Cn 171 L M) : ∃ N, go (d + 4) 156 0 [.ref 171] [] M = go (d + 4) 156 252 [.ref 171] [] N ∧ Cn 197 ((171, 47) :: (171, 46) :: (171, 45) :: (171, 44) :: (171, 43) :: (171, 41) :: (171, 39) :: (171, 38) :: (171, 37) :: (171, 33) :: (171, 20) :: (171, 19) :: (171, 18) :: (171, 17) :: (171, 16) :: (171, 15) :: (171, 14) :: (171, 13) :: (171, 12) :: (171, 11) :: (171, 10) :: (171, 7) :: (171, 6) :: (171, 4) :: (171, 3) :: (171, 2) :: L) N ∧ (∀ k, k < 8 → gI N 172 k = -1) ∧ (∀ r k, r ≠ 172 → gI N r k = gI M r k) ∧ gL N = gL M := by
  rw [q156_0]
  simp only [s.1, Nat.reduceAdd, cl0, cl1, cl2, cl3, cl4, cl5, cl6, cl7]
  rw [if_pos (by decide +kernel), if_pos (nA s.1 (by decide +kernel)), bM_d]
  replace s := (cn_N s : Cn 172 _ _)
  obtain ⟨N9, e9, w, u, y9⟩ := lanes (M := sN M)
  rw [if_pos (wO s.1 (by decide +kernel)), bM_d]
  replace s := cn_I (r := 172) (k := 0) (v := -1) s (fun hz => absurd rfl hz.2.2.2.2.2)
  rw [if_pos (wO s.1 (by decide +kernel)), bM_d]
  replace s := cn_I (r := 172) (k := 1) (v := -1) s (fun hz => absurd rfl hz.2.2.2.2.2)
  rw [if_pos (wO s.1 (by decide +kernel)), bM_d]
  replace s := cn_I (r := 172) (k := 2) (v := -1) s (fun hz => absurd rfl hz.2.2.2.2.2)
  rw [if_pos (wO s.1 (by decide +kernel)), bM_d]
  replace s := cn_I (r := 172) (k := 3) (v := -1) s (fun hz => absurd rfl hz.2.2.2.2.2)
  rw [if_pos (wO s.1 (by decide +kernel)), bM_d]
  replace s := cn_I (r := 172) (k := 4) (v := -1) s (fun hz => absurd rfl hz.2.2.2.2.2)
  rw [if_pos (wO s.1 (by decide +kernel)), bM_d]
  replace s := cn_I (r := 172) (k := 5) (v := -1) s (fun hz => absurd rfl hz.2.2.2.2.2)
  rw [if_pos (wO s.1 (by decide +kernel)), bM_d]
  replace s := cn_I (r := 172) (k := 6) (v := -1) s (fun hz => absurd rfl hz.2.2.2.2.2)
  rw [if_pos (wO s.1 (by decide +kernel)), bM_d]
  replace s := cn_I (r := 172) (k := 7) (v := -1) s (fun hz => absurd rfl hz.2.2.2.2.2)
  rw [← e9] at s ⊢
  obtain ⟨N, eN⟩ : ∃ N, N = N9 := ⟨_, rfl⟩
  have v : gI N = gI N9 := by rw [eN]
  have y : gL N = gL N9 := by rw [eN]
  rw [← eN] at s ⊢
  clear eN e9
  rw [if_pos (oO s.1 (by decide +kernel))]
  rw [if_pos (by decide +kernel)]
  rw [bM_d]
  replace s := cn_R (r := 171) (k := 2) (v := 172) s (by decide +kernel)
  replace v : gI (sR N 171 2 172) = gI N9 := v
  replace y : gL (sR N 171 2 172) = gL N9 := y
  generalize sR N 171 2 172 = N at s v y ⊢
  simp only [s.1, Nat.reduceAdd]
  rw [if_pos (nA s.1 (by decide +kernel))]
  rw [bM_d]
  replace s := (cn_N s : Cn 173 _ _)
  replace v : gI (sN N) = gI N9 := v
  replace y : gL (sN N) = gL N9 := y
  generalize sN N = N at s v y ⊢
  rw [if_pos (oO s.1 (by decide +kernel))]
  rw [if_pos (by decide +kernel)]
  rw [bM_d]
  replace s := cn_R (r := 171) (k := 3) (v := 173) s (by decide +kernel)
  replace v : gI (sR N 171 3 173) = gI N9 := v
  replace y : gL (sR N 171 3 173) = gL N9 := y
  generalize sR N 171 3 173 = N at s v y ⊢
  rw [q156_54]
  simp only [s.1, Nat.reduceAdd]
  rw [if_pos (nA s.1 (by decide +kernel))]
  rw [bM_d]
  replace s := (cn_N s : Cn 174 _ _)
  replace v : gI (sN N) = gI N9 := v
  replace y : gL (sN N) = gL N9 := y
  generalize sN N = N at s v y ⊢
  rw [if_pos (oO s.1 (by decide +kernel))]
  rw [if_pos (by decide +kernel)]
  rw [bM_d]
  replace s := cn_R (r := 171) (k := 4) (v := 174) s (by decide +kernel)
  replace v : gI (sR N 171 4 174) = gI N9 := v
  replace y : gL (sR N 171 4 174) = gL N9 := y
  generalize sR N 171 4 174 = N at s v y ⊢
  simp only [s.1, Nat.reduceAdd]
  rw [if_pos (nA s.1 (by decide +kernel))]
  rw [bM_d]
  replace s := (cn_N s : Cn 175 _ _)
  replace v : gI (sN N) = gI N9 := v
  replace y : gL (sN N) = gL N9 := y
  generalize sN N = N at s v y ⊢
  rw [if_pos (oO s.1 (by decide +kernel))]
  rw [if_pos (by decide +kernel)]
  rw [bM_d]
  replace s := cn_R (r := 171) (k := 6) (v := 175) s (by decide +kernel)
  replace v : gI (sR N 171 6 175) = gI N9 := v
  replace y : gL (sR N 171 6 175) = gL N9 := y
  generalize sR N 171 6 175 = N at s v y ⊢
  rw [q156_71]
  simp only [s.1, Nat.reduceAdd]
  rw [if_pos (nA s.1 (by decide +kernel))]
  rw [bM_d]
  replace s := (cn_N s : Cn 176 _ _)
  replace v : gI (sN N) = gI N9 := v
  replace y : gL (sN N) = gL N9 := y
  generalize sN N = N at s v y ⊢
  rw [if_pos (oO s.1 (by decide +kernel))]
  rw [if_pos (by decide +kernel)]
  rw [bM_d]
  replace s := cn_R (r := 171) (k := 7) (v := 176) s (by decide +kernel)
  replace v : gI (sR N 171 7 176) = gI N9 := v
  replace y : gL (sR N 171 7 176) = gL N9 := y
  generalize sR N 171 7 176 = N at s v y ⊢
  simp only [s.1, Nat.reduceAdd]
  rw [if_pos (nA s.1 (by decide +kernel))]
  rw [bM_d]
  replace s := (cn_N s : Cn 177 _ _)
  replace v : gI (sN N) = gI N9 := v
  replace y : gL (sN N) = gL N9 := y
  generalize sN N = N at s v y ⊢
  rw [if_pos (oO s.1 (by decide +kernel))]
  rw [if_pos (by decide +kernel)]
  rw [bM_d]
  replace s := cn_R (r := 171) (k := 10) (v := 177) s (by decide +kernel)
  replace v : gI (sR N 171 10 177) = gI N9 := v
  replace y : gL (sR N 171 10 177) = gL N9 := y
  generalize sR N 171 10 177 = N at s v y ⊢
  rw [q156_87]
  simp only [s.1, Nat.reduceAdd]
  rw [if_pos (nA s.1 (by decide +kernel))]
  rw [bM_d]
  replace s := (cn_N s : Cn 178 _ _)
  replace v : gI (sN N) = gI N9 := v
  replace y : gL (sN N) = gL N9 := y
  generalize sN N = N at s v y ⊢
  rw [if_pos (oO s.1 (by decide +kernel))]
  rw [if_pos (by decide +kernel)]
  rw [bM_d]
  replace s := cn_R (r := 171) (k := 11) (v := 178) s (by decide +kernel)
  replace v : gI (sR N 171 11 178) = gI N9 := v
  replace y : gL (sR N 171 11 178) = gL N9 := y
  generalize sR N 171 11 178 = N at s v y ⊢
  simp only [s.1, Nat.reduceAdd]
  rw [if_pos (nA s.1 (by decide +kernel))]
  rw [bM_d]
  replace s := (cn_N s : Cn 179 _ _)
  replace v : gI (sN N) = gI N9 := v
  replace y : gL (sN N) = gL N9 := y
  generalize sN N = N at s v y ⊢
  rw [if_pos (oO s.1 (by decide +kernel))]
  rw [if_pos (by decide +kernel)]
  rw [bM_d]
  replace s := cn_R (r := 171) (k := 12) (v := 179) s (by decide +kernel)
  replace v : gI (sR N 171 12 179) = gI N9 := v
  replace y : gL (sR N 171 12 179) = gL N9 := y
  generalize sR N 171 12 179 = N at s v y ⊢
  rw [q156_103]
  simp only [s.1, Nat.reduceAdd]
  rw [if_pos (nA s.1 (by decide +kernel))]
  rw [bM_d]
  replace s := (cn_N s : Cn 180 _ _)
  replace v : gI (sN N) = gI N9 := v
  replace y : gL (sN N) = gL N9 := y
  generalize sN N = N at s v y ⊢
  rw [if_pos (oO s.1 (by decide +kernel))]
  rw [if_pos (by decide +kernel)]
  rw [bM_d]
  replace s := cn_R (r := 171) (k := 13) (v := 180) s (by decide +kernel)
  replace v : gI (sR N 171 13 180) = gI N9 := v
  replace y : gL (sR N 171 13 180) = gL N9 := y
  generalize sR N 171 13 180 = N at s v y ⊢
  simp only [s.1, Nat.reduceAdd]
  rw [if_pos (nA s.1 (by decide +kernel))]
  rw [bM_d]
  replace s := (cn_N s : Cn 181 _ _)
  replace v : gI (sN N) = gI N9 := v
  replace y : gL (sN N) = gL N9 := y
  generalize sN N = N at s v y ⊢
  rw [if_pos (oO s.1 (by decide +kernel))]
  rw [if_pos (by decide +kernel)]
  rw [bM_d]
  replace s := cn_R (r := 171) (k := 14) (v := 181) s (by decide +kernel)
  replace v : gI (sR N 171 14 181) = gI N9 := v
  replace y : gL (sR N 171 14 181) = gL N9 := y
  generalize sR N 171 14 181 = N at s v y ⊢
  rw [q156_119]
  simp only [s.1, Nat.reduceAdd]
  rw [if_pos (nA s.1 (by decide +kernel))]
  rw [bM_d]
  replace s := (cn_N s : Cn 182 _ _)
  replace v : gI (sN N) = gI N9 := v
  replace y : gL (sN N) = gL N9 := y
  generalize sN N = N at s v y ⊢
  rw [if_pos (oO s.1 (by decide +kernel))]
  rw [if_pos (by decide +kernel)]
  rw [bM_d]
  replace s := cn_R (r := 171) (k := 15) (v := 182) s (by decide +kernel)
  replace v : gI (sR N 171 15 182) = gI N9 := v
  replace y : gL (sR N 171 15 182) = gL N9 := y
  generalize sR N 171 15 182 = N at s v y ⊢
  simp only [s.1, Nat.reduceAdd]
  rw [if_pos (nA s.1 (by decide +kernel))]
  rw [bM_d]
  replace s := (cn_N s : Cn 183 _ _)
  replace v : gI (sN N) = gI N9 := v
  replace y : gL (sN N) = gL N9 := y
  generalize sN N = N at s v y ⊢
  rw [if_pos (oO s.1 (by decide +kernel))]
  rw [if_pos (by decide +kernel)]
  rw [bM_d]
  replace s := cn_R (r := 171) (k := 16) (v := 183) s (by decide +kernel)
  replace v : gI (sR N 171 16 183) = gI N9 := v
  replace y : gL (sR N 171 16 183) = gL N9 := y
  generalize sR N 171 16 183 = N at s v y ⊢
  rw [q156_135]
  simp only [s.1, Nat.reduceAdd]
  rw [if_pos (nA s.1 (by decide +kernel))]
  rw [bM_d]
  replace s := (cn_N s : Cn 184 _ _)
  replace v : gI (sN N) = gI N9 := v
  replace y : gL (sN N) = gL N9 := y
  generalize sN N = N at s v y ⊢
  rw [if_pos (oO s.1 (by decide +kernel))]
  rw [if_pos (by decide +kernel)]
  rw [bM_d]
  replace s := cn_R (r := 171) (k := 17) (v := 184) s (by decide +kernel)
  replace v : gI (sR N 171 17 184) = gI N9 := v
  replace y : gL (sR N 171 17 184) = gL N9 := y
  generalize sR N 171 17 184 = N at s v y ⊢
  simp only [s.1, Nat.reduceAdd]
  rw [if_pos (nA s.1 (by decide +kernel))]
  rw [bM_d]
  replace s := (cn_N s : Cn 185 _ _)
  replace v : gI (sN N) = gI N9 := v
  replace y : gL (sN N) = gL N9 := y
  generalize sN N = N at s v y ⊢
  rw [if_pos (oO s.1 (by decide +kernel))]
  rw [if_pos (by decide +kernel)]
  rw [bM_d]
  replace s := cn_R (r := 171) (k := 18) (v := 185) s (by decide +kernel)
  replace v : gI (sR N 171 18 185) = gI N9 := v
  replace y : gL (sR N 171 18 185) = gL N9 := y
  generalize sR N 171 18 185 = N at s v y ⊢
  rw [q156_152]
  simp only [s.1, Nat.reduceAdd]
  rw [if_pos (nA s.1 (by decide +kernel))]
  rw [bM_d]
  replace s := (cn_N s : Cn 186 _ _)
  replace v : gI (sN N) = gI N9 := v
  replace y : gL (sN N) = gL N9 := y
  generalize sN N = N at s v y ⊢
  rw [if_pos (oO s.1 (by decide +kernel))]
  rw [if_pos (by decide +kernel)]
  rw [bM_d]
  replace s := cn_R (r := 171) (k := 19) (v := 186) s (by decide +kernel)
  replace v : gI (sR N 171 19 186) = gI N9 := v
  replace y : gL (sR N 171 19 186) = gL N9 := y
  generalize sR N 171 19 186 = N at s v y ⊢
  simp only [s.1, Nat.reduceAdd]
  rw [if_pos (nA s.1 (by decide +kernel))]
  rw [bM_d]
  replace s := (cn_N s : Cn 187 _ _)
  replace v : gI (sN N) = gI N9 := v
  replace y : gL (sN N) = gL N9 := y
  generalize sN N = N at s v y ⊢
  rw [if_pos (oO s.1 (by decide +kernel))]
  rw [if_pos (by decide +kernel)]
  rw [bM_d]
  replace s := cn_R (r := 171) (k := 20) (v := 187) s (by decide +kernel)
  replace v : gI (sR N 171 20 187) = gI N9 := v
  replace y : gL (sR N 171 20 187) = gL N9 := y
  generalize sR N 171 20 187 = N at s v y ⊢
  rw [q156_169]
  simp only [s.1, Nat.reduceAdd]
  rw [if_pos (nA s.1 (by decide +kernel))]
  rw [bM_d]
  replace s := (cn_N s : Cn 188 _ _)
  replace v : gI (sN N) = gI N9 := v
  replace y : gL (sN N) = gL N9 := y
  generalize sN N = N at s v y ⊢
  rw [if_pos (oO s.1 (by decide +kernel))]
  rw [if_pos (by decide +kernel)]
  rw [bM_d]
  replace s := cn_R (r := 171) (k := 33) (v := 188) s (by decide +kernel)
  replace v : gI (sR N 171 33 188) = gI N9 := v
  replace y : gL (sR N 171 33 188) = gL N9 := y
  generalize sR N 171 33 188 = N at s v y ⊢
  simp only [s.1, Nat.reduceAdd]
  rw [if_pos (nA s.1 (by decide +kernel))]
  rw [bM_d]
  replace s := (cn_N s : Cn 189 _ _)
  replace v : gI (sN N) = gI N9 := v
  replace y : gL (sN N) = gL N9 := y
  generalize sN N = N at s v y ⊢
  rw [if_pos (oO s.1 (by decide +kernel))]
  rw [if_pos (by decide +kernel)]
  rw [bM_d]
  replace s := cn_R (r := 171) (k := 37) (v := 189) s (by decide +kernel)
  replace v : gI (sR N 171 37 189) = gI N9 := v
  replace y : gL (sR N 171 37 189) = gL N9 := y
  generalize sR N 171 37 189 = N at s v y ⊢
  rw [q156_186]
  simp only [s.1, Nat.reduceAdd]
  rw [if_pos (nA s.1 (by decide +kernel))]
  rw [bM_d]
  replace s := (cn_N s : Cn 190 _ _)
  replace v : gI (sN N) = gI N9 := v
  replace y : gL (sN N) = gL N9 := y
  generalize sN N = N at s v y ⊢
  rw [if_pos (oO s.1 (by decide +kernel))]
  rw [if_pos (by decide +kernel)]
  rw [bM_d]
  replace s := cn_R (r := 171) (k := 38) (v := 190) s (by decide +kernel)
  replace v : gI (sR N 171 38 190) = gI N9 := v
  replace y : gL (sR N 171 38 190) = gL N9 := y
  generalize sR N 171 38 190 = N at s v y ⊢
  simp only [s.1, Nat.reduceAdd]
  rw [if_pos (nA s.1 (by decide +kernel))]
  rw [bM_d]
  replace s := (cn_N s : Cn 191 _ _)
  replace v : gI (sN N) = gI N9 := v
  replace y : gL (sN N) = gL N9 := y
  generalize sN N = N at s v y ⊢
  rw [if_pos (oO s.1 (by decide +kernel))]
  rw [if_pos (by decide +kernel)]
  rw [bM_d]
  replace s := cn_R (r := 171) (k := 39) (v := 191) s (by decide +kernel)
  replace v : gI (sR N 171 39 191) = gI N9 := v
  replace y : gL (sR N 171 39 191) = gL N9 := y
  generalize sR N 171 39 191 = N at s v y ⊢
  rw [q156_203]
  simp only [s.1, Nat.reduceAdd]
  rw [if_pos (nA s.1 (by decide +kernel))]
  rw [bM_d]
  replace s := (cn_N s : Cn 192 _ _)
  replace v : gI (sN N) = gI N9 := v
  replace y : gL (sN N) = gL N9 := y
  generalize sN N = N at s v y ⊢
  rw [if_pos (oO s.1 (by decide +kernel))]
  rw [if_pos (by decide +kernel)]
  rw [bM_d]
  replace s := cn_R (r := 171) (k := 41) (v := 192) s (by decide +kernel)
  replace v : gI (sR N 171 41 192) = gI N9 := v
  replace y : gL (sR N 171 41 192) = gL N9 := y
  generalize sR N 171 41 192 = N at s v y ⊢
  simp only [s.1, Nat.reduceAdd]
  rw [if_pos (nA s.1 (by decide +kernel))]
  rw [bM_d]
  replace s := (cn_N s : Cn 193 _ _)
  replace v : gI (sN N) = gI N9 := v
  replace y : gL (sN N) = gL N9 := y
  generalize sN N = N at s v y ⊢
  rw [if_pos (oO s.1 (by decide +kernel))]
  rw [if_pos (by decide +kernel)]
  rw [bM_d]
  replace s := cn_R (r := 171) (k := 43) (v := 193) s (by decide +kernel)
  replace v : gI (sR N 171 43 193) = gI N9 := v
  replace y : gL (sR N 171 43 193) = gL N9 := y
  generalize sR N 171 43 193 = N at s v y ⊢
  rw [q156_219]
  simp only [s.1, Nat.reduceAdd]
  rw [if_pos (nA s.1 (by decide +kernel))]
  rw [bM_d]
  replace s := (cn_N s : Cn 194 _ _)
  replace v : gI (sN N) = gI N9 := v
  replace y : gL (sN N) = gL N9 := y
  generalize sN N = N at s v y ⊢
  rw [if_pos (oO s.1 (by decide +kernel))]
  rw [if_pos (by decide +kernel)]
  rw [bM_d]
  replace s := cn_R (r := 171) (k := 44) (v := 194) s (by decide +kernel)
  replace v : gI (sR N 171 44 194) = gI N9 := v
  replace y : gL (sR N 171 44 194) = gL N9 := y
  generalize sR N 171 44 194 = N at s v y ⊢
  simp only [s.1, Nat.reduceAdd]
  rw [if_pos (nA s.1 (by decide +kernel))]
  rw [bM_d]
  replace s := (cn_N s : Cn 195 _ _)
  replace v : gI (sN N) = gI N9 := v
  replace y : gL (sN N) = gL N9 := y
  generalize sN N = N at s v y ⊢
  rw [if_pos (oO s.1 (by decide +kernel))]
  rw [if_pos (by decide +kernel)]
  rw [bM_d]
  replace s := cn_R (r := 171) (k := 45) (v := 195) s (by decide +kernel)
  replace v : gI (sR N 171 45 195) = gI N9 := v
  replace y : gL (sR N 171 45 195) = gL N9 := y
  generalize sR N 171 45 195 = N at s v y ⊢
  rw [q156_236]
  simp only [s.1, Nat.reduceAdd]
  rw [if_pos (nA s.1 (by decide +kernel))]
  rw [bM_d]
  replace s := (cn_N s : Cn 196 _ _)
  replace v : gI (sN N) = gI N9 := v
  replace y : gL (sN N) = gL N9 := y
  generalize sN N = N at s v y ⊢
  rw [if_pos (oO s.1 (by decide +kernel))]
  rw [if_pos (by decide +kernel)]
  rw [bM_d]
  replace s := cn_R (r := 171) (k := 46) (v := 196) s (by decide +kernel)
  replace v : gI (sR N 171 46 196) = gI N9 := v
  replace y : gL (sR N 171 46 196) = gL N9 := y
  generalize sR N 171 46 196 = N at s v y ⊢
  simp only [s.1, Nat.reduceAdd]
  rw [if_pos (nA s.1 (by decide +kernel))]
  rw [bM_d]
  replace s := (cn_N s : Cn 197 _ _)
  replace v : gI (sN N) = gI N9 := v
  replace y : gL (sN N) = gL N9 := y
  generalize sN N = N at s v y ⊢
  rw [if_pos (oO s.1 (by decide +kernel))]
  rw [if_pos (by decide +kernel)]
  rw [bM_d]
  replace s := cn_R (r := 171) (k := 47) (v := 197) s (by decide +kernel)
  replace v : gI (sR N 171 47 197) = gI N9 := v
  replace y : gL (sR N 171 47 197) = gL N9 := y
  generalize sR N 171 47 197 = N at s v y ⊢
  exact ⟨_, rfl, s, fun k hk => by rw [v]; exact w k hk, fun r k hr => by rw [v]; exact u r k hr, y.trans y9⟩
def lkC : List (Nat × Nat) := (171, 47) :: (171, 46) :: (171, 45) :: (171, 44) :: (171, 43) :: (171, 41) :: (171, 39) :: (171, 38) :: (171, 37) :: (171, 33) :: (171, 20) :: (171, 19) :: (171, 18) :: (171, 17) :: (171, 16) :: (171, 15) :: (171, 14) :: (171, 13) :: (171, 12) :: (171, 11) :: (171, 10) :: (171, 7) :: (171, 6) :: (171, 4) :: (171, 3) :: (171, 2) :: lkB
theorem lkC_all : ((List.range 198).all fun r => (List.range (RCl r).length).all fun k => Nat.beq (RC r k) 0 || lkC.contains (r, k)) = true := by decide +kernel
theorem lkC_mem {r k : Nat} (h : RC r k ≠ 0) : (r, k) ∈ lkC := by
  have hr : r < 198 := Nat.lt_of_not_le fun hr => h (by
    rw [RC, RCl, show Nat.blt r 198 = false from by
      cases e : Nat.blt r 198
      · rfl
      · exact absurd (blt_lt e) (by omega)]
    rfl)
  have hk : k < (RCl r).length := Nat.lt_of_not_le fun hk => h (by rw [RC, List.getD_eq_getElem?_getD, List.getElem?_eq_none hk]; rfl)
  have a := List.all_eq_true.mp (List.all_eq_true.mp lkC_all r (List.mem_range.mpr hr)) k (List.mem_range.mpr hk)
  rw [Bool.or_eq_true] at a
  rcases a with a | a
  · exact absurd (Nat.eq_of_beq_eq_true a) h
  · exact List.contains_iff_mem.mp a
theorem cn_Gd {M : Mm} (s : Cn 197 lkC M) : Gd M := ⟨s.1, fun r k hr _ => by
  by_cases e : RC r k = 0
  · rcases s.2.2.1 r k hr with h | h
    · rw [h, e]
    · exact h
  · exact s.2.2.2 (r, k) (lkC_mem e)⟩
def Bk0 : Bk := (fun _ _ => 0, fun _ _ => false, fun _ _ => false)
theorem k156_all {d : Nat} {M : Mm} (s : Cn 171 lkB M) : ∃ N, go (d + 4) 156 0 [.ref 171] [] M = some (none, N) ∧ Gd N ∧ (∀ r k, Zc r k → ¬ Sw r k → gI N r k = 0) ∧ (∀ k, k < 8 → gI N 172 k = -1) ∧ (∀ r k, r ≠ 172 → ¬ Sw r k → gI N r k = gI M r k) ∧ gL N = gL M ∧ gI N 171 36 = nI 1 ∧ gI N 189 0 = nI (bset (fun l => Bk0.2.1 l 0) 0 + (if trB Bk0 0 then 256 else 0)) ∧ gI N 190 0 = nI (bset (fun i => Bk0.2.2 i 0) 0) := by
  obtain ⟨N1, e1, s1, w1, u1, y1⟩ := k156 (d := d) s
  have s1 : Cn 197 lkC N1 := s1
  have hG := cn_Gd s1
  have z : ∀ {k : Nat}, Zc 171 k := by unfold Zc; omega
  have w : WM N1 0 0 0 (Bk0.1 1) (Bk0.1 2) Bk0.2.1 Bk0.2.2 := ⟨hG, ⟨s1.2.1 _ _ z, by omega, fun j hj => absurd hj (by omega)⟩, ⟨s1.2.1 _ _ z, by omega⟩, ⟨s1.2.1 _ _ z, by omega⟩, fun l hl => absurd hl (by omega), fun i hi => absurd hi (by omega)⟩
  obtain ⟨N2, e2, S2, a1, a2, a3⟩ := m_workOut (d := d) w
  refine ⟨N2, ?_, Gd_Sm S2 hG, fun r k h1 h2 => (S2.2.2.1 r k h2).trans (s1.2.1 r k h1), fun k hk => ?_, fun r k h1 h2 => (S2.2.2.1 r k h2).trans (u1 r k h1), ?_, a1, a2 0 (by omega), a3 0 (by omega)⟩
  · rw [e1, q156_252, if_pos (oO s1.1 (by decide +kernel)), e2, bV_s]
  · rw [S2.2.2.1 172 k (by unfold Sw So; omega)]; exact w1 k hk
  · funext r
    rw [S2.2.2.2 r (fun h => h), y1]
theorem inv_0 {E M N : Mm} (hx : EXT E N) (hw : Wd E) (hG : Gd N) (h0 : ∀ r k, Zc r k → ¬ Sw r k → gI N r k = 0) (h1 : ∀ k, k < 8 → gI N 172 k = -1) (h2 : ∀ t, t < 8 → gI N (155 + 2 * t) 0 = -1) (h3 : ∀ k, k < 1024 → kb (gL N 130) k = decide (k = 0)) (h4 : ∀ k, k < 1024 → kb (gL N 128) k = decide (k = 0)) (h5 : gI N 171 36 = nI 1) (h6 : gI N 189 0 = nI (bset (fun l => Bk0.2.1 l 0) 0 + (if trB Bk0 0 then 256 else 0))) (h7 : gI N 190 0 = nI (bset (fun i => Bk0.2.2 i 0) 0)) : Inv E N Bk0 := by
  have z : ∀ r k, Zc r k → ¬ Sw r k → gI N r k = nI 0 := h0
  have t0 : trB Bk0 0 = true := by decide
  have one : ∀ {k : Nat}, k < 2 ^ nmB Bk0 → k = 0 := fun h => by have : 2 ^ nmB Bk0 = 1 := rfl; omega
  have b1 : ∀ k, (decide (k < 2 ^ nmB Bk0) && trB Bk0 k) = decide (k = 0) := fun k => by
    by_cases e : k = 0
    · rw [e]; decide
    · rw [decide_eq_false (fun h => e (one h)), decide_eq_false e]; rfl
  refine ⟨hG, hx, fun s hs => ⟨by rw [h1 s hs, h2 s hs], ⟨0, by omega, by rw [h1 s hs]; rfl⟩, ⟨0, by omega, z _ _ (by unfold Zc; omega) (by unfold Sw So; omega), z _ _ (by unfold Zc; omega) (by unfold Sw So; omega)⟩, fun k hk => by rw [z _ _ (by unfold Zc; omega) (by unfold Sw So; omega), z _ _ (by unfold Zc; omega) (by unfold Sw So; omega)]⟩, ⟨0, by omega, z _ _ (by unfold Zc; omega) (by unfold Sw So; omega), z _ _ (by unfold Zc; omega) (by unfold Sw So; omega), fun k hk => absurd hk (by omega)⟩, ⟨by rw [z _ _ (by unfold Zc; omega) (by unfold Sw So; omega), z _ _ (by unfold Zc; omega) (by unfold Sw So; omega)], by rw [z _ _ (by unfold Zc; omega) (by unfold Sw So; omega), z _ _ (by unfold Zc; omega) (by unfold Sw So; omega)]⟩, ⟨0, by omega, z _ _ (by unfold Zc; omega) (by unfold Sw So; omega), z _ _ (by unfold Zc; omega) (by unfold Sw So; omega), fun k hk => absurd hk (by omega)⟩, ?_, ⟨fun _ => 0, fun _ => 0, fun b hb => ⟨by show 0 < 1; omega, by show 0 ≤ 9; omega, z _ _ (by unfold Zc; omega) (by unfold Sw So; omega), z _ _ (by unfold Zc; omega) (by unfold Sw So; omega), z _ _ (by unfold Zc; omega) (by unfold Sw So; omega), z _ _ (by unfold Zc; omega) (by unfold Sw So; omega)⟩⟩, Or.inl (h0 _ _ (by unfold Zc; omega) (by unfold Sw So; omega)), Or.inl (h0 _ _ (by unfold Zc; omega) (by unfold Sw So; omega))⟩
  refine ⟨⟨z _ _ (by unfold Zc; omega) (by unfold Sw So; omega), z _ _ (by unfold Zc; omega) (by unfold Sw So; omega), z _ _ (by unfold Zc; omega) (by unfold Sw So; omega), z _ _ (by unfold Zc; omega) (by unfold Sw So; omega), z _ _ (by unfold Zc; omega) (by unfold Sw So; omega), z _ _ (by unfold Zc; omega) (by unfold Sw So; omega), z _ _ (by unfold Zc; omega) (by unfold Sw So; omega), z _ _ (by unfold Zc; omega) (by unfold Sw So; omega), h5, by decide, by decide, by decide, by decide⟩, fun j hj => absurd hj (Nat.not_lt_zero j), fun i hi => absurd hi (Nat.not_lt_zero i), ⟨fun k hk => by rw [h3 k hk]; exact (b1 k).symm, fun k hk => by rw [h4 k hk, alB, b1]; exact (Bool.and_true _).symm, fun l hl => absurd hl (Nat.not_lt_zero l), fun i hi => absurd hi (Nat.not_lt_zero i), fun k hk => by rw [one hk]; exact h6, fun k hk => by rw [one hk]; exact h7⟩, fun l hl => absurd hl (Nat.not_lt_zero l), fun i hi => absurd hi (Nat.not_lt_zero i), fun j hj => by rw [(hx 3000 (by omega)).2.1]; exact hw j hj, fun i hi => absurd hi (Nat.not_lt_zero i)⟩
theorem cn_M0 {L : Nat} {xs : Nat → Int32} : Cn 0 [] (M0 L xs) := ⟨rfl, fun r k hz => by
  have h := hz.1
  show (if r = 4000 then xs k else if 2000 ≤ r then stB (r - 2000) k else 0) = 0
  rw [if_neg (by omega), if_neg (by omega)], fun r k hr => Or.inl (by
  show (if r = 4000 ∧ k = 0 then L else 0) = 0
  rw [if_neg (by omega)]), fun p hp => absurd hp (by simp)⟩
theorem made {L : Nat} {xs : Nat → Int32} : ∃ N, go 60 249 0 [.ref 4000, .null, .null, .null] [] (M0 L xs) = go 60 249 18 [.ref 4000, .ref 1, .ref 171, .int (nI 0)] [] N ∧ Inv (M0 L xs) N Bk0 := by
  have s0 := cn_M0 (L := L) (xs := xs)
  obtain ⟨M, hM⟩ : ∃ M, M = M0 L xs := ⟨_, rfl⟩
  have hw : Wd M := fun j hj => by rw [hM]; rfl
  rw [← hM] at s0 ⊢
  have s1 : Cn 1 [] (sN M) := cn_N s0
  obtain ⟨N1, e1, s2, h2, h3, h4⟩ := k112_all (d := 54) s1
  have s3 : Cn 171 lkB (sN N1) := cn_N s2
  obtain ⟨N2, e2, hG, a0, a1, a2, a3, a5, a6, a7⟩ := k156_all (d := 55) s3
  have f1 : Fx (sN M) N1 := go_fx _ _ _ _ _ _ _ e1
  have f2 : Fx (sN N1) N2 := go_fx _ _ _ _ _ _ _ e2
  have f3 : Fx M N1 := f1
  have f4 : Fx N1 N2 := f2
  have hx : EXT M N2 := Fx_trans f3 f4
  refine ⟨N2, ?_, inv_0 (M := M) hx hw hG a0 a1 (fun t ht => (a2 _ _ (by omega) (by unfold Sw So; omega)).trans (h2 t ht)) (fun k hk => by rw [a3]; exact h3 k hk) (fun k hk => by rw [a3]; exact h4 k hk) a5 a6 a7⟩
  rw [q249_0, if_pos (nO s0.1 (by decide +kernel)), bM_d, s0.1, if_pos (by decide +kernel)]
  rw [show (0 + 1 : Nat) = 1 from rfl, e1, bV_s, if_pos (nO s2.1 (by decide +kernel)), bM_d, s2.1, if_pos (by decide +kernel)]
  rw [show (170 + 1 : Nat) = 171 from rfl, e2, bV_s]
  rfl
theorem txt_0 {L : Nat} {xs : Nat → Int32} : TXT (M0 L xs) := fun i j hi hj => by
  show (if 2000 + i = 4000 then xs j else if 2000 ≤ 2000 + i then stB (2000 + i - 2000) j else 0) = stB i j
  rw [if_neg (by omega), if_pos (by omega), Nat.add_sub_cancel_left]
theorem law_done (L : Nat) (xs : Nat → Int32) (hL : L ≤ 3072) : ∃ M', gN M' = 197 ∧ go 60 249 0 [.ref 4000, .null, .null, .null] [] (M0 L xs) = some (some (.int 1), M') := by
  obtain ⟨N, e, hI⟩ := made (L := L) (xs := xs)
  obtain ⟨M', h1, h2⟩ := law_loop (txt_0 (L := L) (xs := xs)) (L := L) rfl hL L 0 N Bk0 hI (by omega) (by omega)
  exact ⟨M', h1, e.trans h2⟩
