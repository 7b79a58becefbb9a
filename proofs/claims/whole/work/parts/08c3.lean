/-- join -/
theorem ks_join {d : Nat} {M : Mm} {a w b v : Nat} (hA : KS M a w) (hB : KS M b v) : go (d + 1) 46 0 [.ref a, .ref b, .null] [] M = some (none, wL M w (fun i => if i < 16 then gL M w i ||| gL M v i else gL M w i)) := by
  rw [q46_0]
  have h := loopM (fun j N => go (d + 1) 46 2 [.ref a, .ref b, .int (nI j)] [] N) 16 (fun k => wL M w (fun i => if i < k then gL M w i ||| gL M v i else gL M w i)) (fun j hj => by
    obtain ⟨k1, k2, k3, k4, -⟩ := id hA
    have k1 : okO (wL M w (fun i => if i < j then gL M w i ||| gL M v i else gL M w i)) a 4 = true := k1
    have k2 : gR (wL M w (fun i => if i < j then gL M w i ||| gL M v i else gL M w i)) a 0 = w := k2
    have k3 : rOK (wL M w (fun i => if i < j then gL M w i ||| gL M v i else gL M w i)) w 3 (nI j) = true := k3 j hj
    have k4 : wOK (wL M w (fun i => if i < j then gL M w i ||| gL M v i else gL M w i)) w 3 (nI j) = true := k4 j hj
    have kw : gL (wL M w (fun i => if i < j then gL M w i ||| gL M v i else gL M w i)) w j = gL M w j := by rw [gL_wL, if_pos rfl, if_neg (by omega)]
    obtain ⟨b1, b2, b3, -⟩ := id hB
    have b1 : okO (wL M w (fun i => if i < j then gL M w i ||| gL M v i else gL M w i)) b 4 = true := b1
    have b2 : gR (wL M w (fun i => if i < j then gL M w i ||| gL M v i else gL M w i)) b 0 = v := b2
    have b3 : rOK (wL M w (fun i => if i < j then gL M w i ||| gL M v i else gL M w i)) v 3 (nI j) = true := b3 j hj
    have bw : gL (wL M w (fun i => if i < j then gL M w i ||| gL M v i else gL M w i)) v j = gL M v j := by
      rw [gL_wL]
      split
      · rename_i e; subst e; exact if_neg (by omega)
      · rfl
    try dsimp only
    rw [q46_2, if_neg (by rw [l16 (by omega)]; omega), if_pos k1, k2, if_pos k3, if_pos b1, b2, if_pos b3, if_pos k4, bM_d, nI_clamp (by omega), kw, bw, sL_wL, nI_1]
    congr 2
    funext i
    by_cases h1 : i = j
    · subst h1; simp
    · by_cases h2 : i < j
      · simp [h1, h2, Nat.lt_succ_of_lt h2]
      · simp [h1, h2, show ¬ i < j + 1 by omega]) 16 (Nat.le_refl _)
  try dsimp only at h
  rw [show (fun i => if i < 0 then gL M w i ||| gL M v i else gL M w i) = gL M w from funext fun j => by simp, wL_self] at h
  rw [show (0 : Int32) = nI 0 from rfl, h, q46_2, if_pos (by rw [l16 (by omega)]; omega)]
/-- keep -/
theorem ks_keep {d : Nat} {M : Mm} {a w b v : Nat} (hA : KS M a w) (hB : KS M b v) : go (d + 1) 47 0 [.ref a, .ref b, .null] [] M = some (none, wL M w (fun i => if i < 16 then gL M w i &&& gL M v i else gL M w i)) := by
  rw [q47_0]
  have h := loopM (fun j N => go (d + 1) 47 2 [.ref a, .ref b, .int (nI j)] [] N) 16 (fun k => wL M w (fun i => if i < k then gL M w i &&& gL M v i else gL M w i)) (fun j hj => by
    obtain ⟨k1, k2, k3, k4, -⟩ := id hA
    have k1 : okO (wL M w (fun i => if i < j then gL M w i &&& gL M v i else gL M w i)) a 4 = true := k1
    have k2 : gR (wL M w (fun i => if i < j then gL M w i &&& gL M v i else gL M w i)) a 0 = w := k2
    have k3 : rOK (wL M w (fun i => if i < j then gL M w i &&& gL M v i else gL M w i)) w 3 (nI j) = true := k3 j hj
    have k4 : wOK (wL M w (fun i => if i < j then gL M w i &&& gL M v i else gL M w i)) w 3 (nI j) = true := k4 j hj
    have kw : gL (wL M w (fun i => if i < j then gL M w i &&& gL M v i else gL M w i)) w j = gL M w j := by rw [gL_wL, if_pos rfl, if_neg (by omega)]
    obtain ⟨b1, b2, b3, -⟩ := id hB
    have b1 : okO (wL M w (fun i => if i < j then gL M w i &&& gL M v i else gL M w i)) b 4 = true := b1
    have b2 : gR (wL M w (fun i => if i < j then gL M w i &&& gL M v i else gL M w i)) b 0 = v := b2
    have b3 : rOK (wL M w (fun i => if i < j then gL M w i &&& gL M v i else gL M w i)) v 3 (nI j) = true := b3 j hj
    have bw : gL (wL M w (fun i => if i < j then gL M w i &&& gL M v i else gL M w i)) v j = gL M v j := by
      rw [gL_wL]
      split
      · rename_i e; subst e; exact if_neg (by omega)
      · rfl
    try dsimp only
    rw [q47_2, if_neg (by rw [l16 (by omega)]; omega), if_pos k1, k2, if_pos k3, if_pos b1, b2, if_pos b3, if_pos k4, bM_d, nI_clamp (by omega), kw, bw, sL_wL, nI_1]
    congr 2
    funext i
    by_cases h1 : i = j
    · subst h1; simp
    · by_cases h2 : i < j
      · simp [h1, h2, Nat.lt_succ_of_lt h2]
      · simp [h1, h2, show ¬ i < j + 1 by omega]) 16 (Nat.le_refl _)
  try dsimp only at h
  rw [show (fun i => if i < 0 then gL M w i &&& gL M v i else gL M w i) = gL M w from funext fun j => by simp, wL_self] at h
  rw [show (0 : Int32) = nI 0 from rfl, h, q47_2, if_pos (by rw [l16 (by omega)]; omega)]
/-- leaveOut -/
theorem ks_leaveOut {d : Nat} {M : Mm} {a w b v : Nat} (hA : KS M a w) (hB : KS M b v) : go (d + 1) 48 0 [.ref a, .ref b, .null] [] M = some (none, wL M w (fun i => if i < 16 then gL M w i &&& (gL M v i ^^^ (-1)) else gL M w i)) := by
  rw [q48_0]
  have h := loopM (fun j N => go (d + 1) 48 2 [.ref a, .ref b, .int (nI j)] [] N) 16 (fun k => wL M w (fun i => if i < k then gL M w i &&& (gL M v i ^^^ (-1)) else gL M w i)) (fun j hj => by
    obtain ⟨k1, k2, k3, k4, -⟩ := id hA
    have k1 : okO (wL M w (fun i => if i < j then gL M w i &&& (gL M v i ^^^ (-1)) else gL M w i)) a 4 = true := k1
    have k2 : gR (wL M w (fun i => if i < j then gL M w i &&& (gL M v i ^^^ (-1)) else gL M w i)) a 0 = w := k2
    have k3 : rOK (wL M w (fun i => if i < j then gL M w i &&& (gL M v i ^^^ (-1)) else gL M w i)) w 3 (nI j) = true := k3 j hj
    have k4 : wOK (wL M w (fun i => if i < j then gL M w i &&& (gL M v i ^^^ (-1)) else gL M w i)) w 3 (nI j) = true := k4 j hj
    have kw : gL (wL M w (fun i => if i < j then gL M w i &&& (gL M v i ^^^ (-1)) else gL M w i)) w j = gL M w j := by rw [gL_wL, if_pos rfl, if_neg (by omega)]
    obtain ⟨b1, b2, b3, -⟩ := id hB
    have b1 : okO (wL M w (fun i => if i < j then gL M w i &&& (gL M v i ^^^ (-1)) else gL M w i)) b 4 = true := b1
    have b2 : gR (wL M w (fun i => if i < j then gL M w i &&& (gL M v i ^^^ (-1)) else gL M w i)) b 0 = v := b2
    have b3 : rOK (wL M w (fun i => if i < j then gL M w i &&& (gL M v i ^^^ (-1)) else gL M w i)) v 3 (nI j) = true := b3 j hj
    have bw : gL (wL M w (fun i => if i < j then gL M w i &&& (gL M v i ^^^ (-1)) else gL M w i)) v j = gL M v j := by
      rw [gL_wL]
      split
      · rename_i e; subst e; exact if_neg (by omega)
      · rfl
    try dsimp only
    rw [q48_2, if_neg (by rw [l16 (by omega)]; omega), if_pos k1, k2, if_pos k3, if_pos b1, b2, if_pos b3, if_pos k4, bM_d, nI_clamp (by omega), kw, bw, sL_wL, nI_1]
    congr 2
    funext i
    by_cases h1 : i = j
    · subst h1; simp
    · by_cases h2 : i < j
      · simp [h1, h2, Nat.lt_succ_of_lt h2]
      · simp [h1, h2, show ¬ i < j + 1 by omega]) 16 (Nat.le_refl _)
  try dsimp only at h
  rw [show (fun i => if i < 0 then gL M w i &&& (gL M v i ^^^ (-1)) else gL M w i) = gL M w from funext fun j => by simp, wL_self] at h
  rw [show (0 : Int32) = nI 0 from rfl, h, q48_2, if_pos (by rw [l16 (by omega)]; omega)]
/-- turn -/
theorem ks_turn {d : Nat} {M : Mm} {a w : Nat} (hA : KS M a w) : go (d + 1) 45 0 [.ref a, .null] [] M = some (none, wL M w (fun i => if i < 16 then gL M w i ^^^ (-1) else gL M w i)) := by
  rw [q45_0]
  have h := loopM (fun j N => go (d + 1) 45 2 [.ref a, .int (nI j)] [] N) 16 (fun k => wL M w (fun i => if i < k then gL M w i ^^^ (-1) else gL M w i)) (fun j hj => by
    obtain ⟨k1, k2, k3, k4, -⟩ := id hA
    have k1 : okO (wL M w (fun i => if i < j then gL M w i ^^^ (-1) else gL M w i)) a 4 = true := k1
    have k2 : gR (wL M w (fun i => if i < j then gL M w i ^^^ (-1) else gL M w i)) a 0 = w := k2
    have k3 : rOK (wL M w (fun i => if i < j then gL M w i ^^^ (-1) else gL M w i)) w 3 (nI j) = true := k3 j hj
    have k4 : wOK (wL M w (fun i => if i < j then gL M w i ^^^ (-1) else gL M w i)) w 3 (nI j) = true := k4 j hj
    have kw : gL (wL M w (fun i => if i < j then gL M w i ^^^ (-1) else gL M w i)) w j = gL M w j := by rw [gL_wL, if_pos rfl, if_neg (by omega)]
    try dsimp only
    rw [q45_2, if_neg (by rw [l16 (by omega)]; omega), if_pos k1, if_pos k1, k2, if_pos k3, if_pos k4, bM_d, nI_clamp (by omega), kw, sL_wL, nI_1]
    congr 2
    funext i
    by_cases h1 : i = j
    · subst h1; simp
    · by_cases h2 : i < j
      · simp [h1, h2, Nat.lt_succ_of_lt h2]
      · simp [h1, h2, show ¬ i < j + 1 by omega]) 16 (Nat.le_refl _)
  try dsimp only at h
  rw [show (fun i => if i < 0 then gL M w i ^^^ (-1) else gL M w i) = gL M w from funext fun j => by simp, wL_self] at h
  rw [show (0 : Int32) = nI 0 from rfl, h, q45_2, if_pos (by rw [l16 (by omega)]; omega)]
/-- keepOn -/
theorem ks_keepOn {d : Nat} {M : Mm} {a w m : Nat} (hA : KS M a w) (hw : w ≠ 3000) (hm : m < 10) (hX : Wd M) : go (d + 2) 49 0 [.ref a, .int (nI m), .null] [] M = some (none, wL M w (fun i => if i < 16 then gL M w i &&& ww m i else gL M w i)) := by
  rw [q49_0]
  have h := loopM (fun j N => go (d + 2) 49 2 [.ref a, .int (nI m), .int (nI j)] [] N) 16 (fun k => wL M w (fun i => if i < k then gL M w i &&& ww m i else gL M w i)) (fun j hj => by
    obtain ⟨k1, k2, k3, k4, -⟩ := id hA
    have k1 : okO (wL M w (fun i => if i < j then gL M w i &&& ww m i else gL M w i)) a 4 = true := k1
    have k2 : gR (wL M w (fun i => if i < j then gL M w i &&& ww m i else gL M w i)) a 0 = w := k2
    have k3 : rOK (wL M w (fun i => if i < j then gL M w i &&& ww m i else gL M w i)) w 3 (nI j) = true := k3 j hj
    have k4 : wOK (wL M w (fun i => if i < j then gL M w i &&& ww m i else gL M w i)) w 3 (nI j) = true := k4 j hj
    have kw : gL (wL M w (fun i => if i < j then gL M w i &&& ww m i else gL M w i)) w j = gL M w j := by rw [gL_wL, if_pos rfl, if_neg (by omega)]
    have hX2 : Wd (wL M w (fun i => if i < j then gL M w i &&& ww m i else gL M w i)) := fun z hz => by rw [gL_wL, if_neg (fun e => hw e.symm)]; exact hX z hz
    try dsimp only
    rw [q49_2, if_neg (by rw [l16 (by omega)]; omega), if_pos k1, k2, if_pos k3, wordWith_g hm hj hX2, bL_s, if_pos k4, bM_d, nI_clamp (by omega), kw, sL_wL, nI_1]
    congr 2
    funext i
    by_cases h1 : i = j
    · subst h1; simp
    · by_cases h2 : i < j
      · simp [h1, h2, Nat.lt_succ_of_lt h2]
      · simp [h1, h2, show ¬ i < j + 1 by omega]) 16 (Nat.le_refl _)
  try dsimp only at h
  rw [show (fun i => if i < 0 then gL M w i &&& ww m i else gL M w i) = gL M w from funext fun j => by simp, wL_self] at h
  rw [show (0 : Int32) = nI 0 from rfl, h, q49_2, if_pos (by rw [l16 (by omega)]; omega)]
/-- keepOff -/
theorem ks_keepOff {d : Nat} {M : Mm} {a w m : Nat} (hA : KS M a w) (hw : w ≠ 3000) (hm : m < 10) (hX : Wd M) : go (d + 2) 50 0 [.ref a, .int (nI m), .null] [] M = some (none, wL M w (fun i => if i < 16 then gL M w i &&& (ww m i ^^^ (-1)) else gL M w i)) := by
  rw [q50_0]
  have h := loopM (fun j N => go (d + 2) 50 2 [.ref a, .int (nI m), .int (nI j)] [] N) 16 (fun k => wL M w (fun i => if i < k then gL M w i &&& (ww m i ^^^ (-1)) else gL M w i)) (fun j hj => by
    obtain ⟨k1, k2, k3, k4, -⟩ := id hA
    have k1 : okO (wL M w (fun i => if i < j then gL M w i &&& (ww m i ^^^ (-1)) else gL M w i)) a 4 = true := k1
    have k2 : gR (wL M w (fun i => if i < j then gL M w i &&& (ww m i ^^^ (-1)) else gL M w i)) a 0 = w := k2
    have k3 : rOK (wL M w (fun i => if i < j then gL M w i &&& (ww m i ^^^ (-1)) else gL M w i)) w 3 (nI j) = true := k3 j hj
    have k4 : wOK (wL M w (fun i => if i < j then gL M w i &&& (ww m i ^^^ (-1)) else gL M w i)) w 3 (nI j) = true := k4 j hj
    have kw : gL (wL M w (fun i => if i < j then gL M w i &&& (ww m i ^^^ (-1)) else gL M w i)) w j = gL M w j := by rw [gL_wL, if_pos rfl, if_neg (by omega)]
    have hX2 : Wd (wL M w (fun i => if i < j then gL M w i &&& (ww m i ^^^ (-1)) else gL M w i)) := fun z hz => by rw [gL_wL, if_neg (fun e => hw e.symm)]; exact hX z hz
    try dsimp only
    rw [q50_2, if_neg (by rw [l16 (by omega)]; omega), if_pos k1, k2, if_pos k3, wordWith_g hm hj hX2, bL_s, if_pos k4, bM_d, nI_clamp (by omega), kw, sL_wL, nI_1]
    congr 2
    funext i
    by_cases h1 : i = j
    · subst h1; simp
    · by_cases h2 : i < j
      · simp [h1, h2, Nat.lt_succ_of_lt h2]
      · simp [h1, h2, show ¬ i < j + 1 by omega]) 16 (Nat.le_refl _)
  try dsimp only at h
  rw [show (fun i => if i < 0 then gL M w i &&& (ww m i ^^^ (-1)) else gL M w i) = gL M w from funext fun j => by simp, wL_self] at h
  rw [show (0 : Int32) = nI 0 from rfl, h, q50_2, if_pos (by rw [l16 (by omega)]; omega)]

