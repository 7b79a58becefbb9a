/-! ===== the objects made one by one (printed by program) ===== -/
def lawL (L : List (Nat × Nat)) : Nat → List (Nat × Nat)
  | 0 => L
  | i + 1 => (8, i) :: (9 + 2 * i + 1, 0) :: lawL L i
theorem lawL_mem {L : List (Nat × Nat)} {p : Nat × Nat} (h : p ∈ L) : ∀ i, p ∈ lawL L i
  | 0 => h
  | i + 1 => List.mem_cons_of_mem _ (List.mem_cons_of_mem _ (lawL_mem h i))
def lawC (i : Nat) : Bool := okOb (9 + 2 * i) 5 1 && nwOb (9 + 2 * i) 4 && okI (9 + 2 * i + 1) && c39 (9 + 2 * i + 1) && wQb (9 + 2 * i + 1 + 1) 8 (nI i) (9 + 2 * i + 1) && Nat.beq (9 + 2 * i + 1) (RC 8 i)
theorem law_ok : ∀ i, i < 8 → lawC i = true := by decide +kernel
theorem law_step {d i : Nat} {L : List (Nat × Nat)} {N : Mm} (hm : (5, 6) ∈ L) (hi : i < 8) (s : Cn (9 + 2 * i) (lawL L i) N) : ∃ N', go (d + 2) 15 60 [.ref 5, .int (nI i)] [] N = go (d + 2) 15 60 [.ref 5, .int (nI (i + 1))] [] N' ∧ Cn (9 + 2 * (i + 1)) (lawL L (i + 1)) N' := by
  have h := law_ok i hi
  simp only [lawC, Bool.and_eq_true] at h
  obtain ⟨⟨⟨⟨⟨h1, h2⟩, h3⟩, h4⟩, h5⟩, h6⟩ := h
  have l : ¬ ((8 : Int32) ≤ nI i) := fun z => by have := (nI_leI (a := 8) (b := i) (by omega) (by omega)).mp z; omega
  rw [q15_60, if_neg l, if_pos (oO s.1 h1), if_pos (nO s.1 h2), s.1, cn_r s (r := 5) (k := 6) (v := 8) (lawL_mem hm i) (by decide +kernel), bM_d, if_pos h3]
  have s1 := cn_N s
  obtain ⟨N1, e, s2⟩ := k39 (d := d) s1 h4
  rw [e, bV_s, if_pos (wQn s2.1 h5), bM_d, nI_clamp (show i < 2 ^ 31 by omega), nI_1]
  have s3 := cn_R s2 h6
  exact ⟨_, rfl, by rw [show 9 + 2 * (i + 1) = 9 + 2 * i + 1 + 1 by omega]; exact s3⟩
theorem law_all {d : Nat} {L : List (Nat × Nat)} {M : Mm} (hm : (5, 6) ∈ L) (s : Cn 9 L M) : ∃ N, go (d + 2) 15 60 [.ref 5, .int (0 : Int32)] [] M = go (d + 2) 15 60 [.ref 5, .int (nI 8)] [] N ∧ Cn 25 (lawL L 8) N := by
  exact loopI (fun i N => go (d + 2) 15 60 [.ref 5, .int (nI i)] [] N) (fun i N => Cn (9 + 2 * i) (lawL L i) N) 8 (fun i N hi s => law_step hm hi s) 8 0 M (by omega) s
def linL (L : List (Nat × Nat)) : Nat → List (Nat × Nat)
  | 0 => L
  | i + 1 => (9, i) :: (25 + 3 * i + 1, 8) :: (25 + 3 * i + 1 + 1, 0) :: linL L i
theorem linL_mem {L : List (Nat × Nat)} {p : Nat × Nat} (h : p ∈ L) : ∀ i, p ∈ linL L i
  | 0 => h
  | i + 1 => List.mem_cons_of_mem _ (List.mem_cons_of_mem _ (List.mem_cons_of_mem _ (linL_mem h i)))
def linC (i : Nat) : Bool := okOb (25 + 3 * i) 5 1 && nwOb (25 + 3 * i) 6 && okI (25 + 3 * i + 1) && c73 (25 + 3 * i + 1) && wQb (25 + 3 * i + 1 + 2) 9 (nI i) (25 + 3 * i + 1) && Nat.beq (25 + 3 * i + 1) (RC 9 i)
theorem lin_ok : ∀ i, i < 24 → linC i = true := by decide +kernel
theorem lin_step {d i : Nat} {L : List (Nat × Nat)} {N : Mm} (hm : (5, 7) ∈ L) (hi : i < 24) (s : Cn (25 + 3 * i) (linL L i) N) : ∃ N', go (d + 3) 15 87 [.ref 5, .int (nI i)] [] N = go (d + 3) 15 87 [.ref 5, .int (nI (i + 1))] [] N' ∧ Cn (25 + 3 * (i + 1)) (linL L (i + 1)) N' := by
  have h := lin_ok i hi
  simp only [linC, Bool.and_eq_true] at h
  obtain ⟨⟨⟨⟨⟨h1, h2⟩, h3⟩, h4⟩, h5⟩, h6⟩ := h
  have l : ¬ ((24 : Int32) ≤ nI i) := fun z => by have := (nI_leI (a := 24) (b := i) (by omega) (by omega)).mp z; omega
  rw [q15_87, if_neg l, if_pos (oO s.1 h1), if_pos (nO s.1 h2), s.1, cn_r s (r := 5) (k := 7) (v := 9) (linL_mem hm i) (by decide +kernel), bM_d, if_pos h3]
  have s1 := cn_N s
  obtain ⟨N1, e, s2⟩ := k73 (d := d) s1 h4
  rw [e, bV_s, if_pos (wQn s2.1 h5), bM_d, nI_clamp (show i < 2 ^ 31 by omega), nI_1]
  have s3 := cn_R s2 h6
  exact ⟨_, rfl, by rw [show 25 + 3 * (i + 1) = 25 + 3 * i + 1 + 2 by omega]; exact s3⟩
theorem lin_all {d : Nat} {L : List (Nat × Nat)} {M : Mm} (hm : (5, 7) ∈ L) (s : Cn 25 L M) : ∃ N, go (d + 3) 15 87 [.ref 5, .int (0 : Int32)] [] M = go (d + 3) 15 87 [.ref 5, .int (nI 24)] [] N ∧ Cn 97 (linL L 24) N := by
  exact loopI (fun i N => go (d + 3) 15 87 [.ref 5, .int (nI i)] [] N) (fun i N => Cn (25 + 3 * i) (linL L i) N) 24 (fun i N hi s => lin_step hm hi s) 24 0 M (by omega) s
def rowL (L : List (Nat × Nat)) : Nat → List (Nat × Nat)
  | 0 => L
  | i + 1 => (99, i) :: (99 + 2 * i + 1, 0) :: rowL L i
theorem rowL_mem {L : List (Nat × Nat)} {p : Nat × Nat} (h : p ∈ L) : ∀ i, p ∈ rowL L i
  | 0 => h
  | i + 1 => List.mem_cons_of_mem _ (List.mem_cons_of_mem _ (rowL_mem h i))
def rowC (i : Nat) : Bool := okOb (99 + 2 * i) 98 7 && nwOb (99 + 2 * i) 4 && okI (99 + 2 * i + 1) && c39 (99 + 2 * i + 1) && wQb (99 + 2 * i + 1 + 1) 99 (nI i) (99 + 2 * i + 1) && Nat.beq (99 + 2 * i + 1) (RC 99 i)
theorem row_ok : ∀ i, i < 13 → rowC i = true := by decide +kernel
theorem row_step {d i : Nat} {L : List (Nat × Nat)} {N : Mm} (hm : (98, 4) ∈ L) (hi : i < 13) (s : Cn (99 + 2 * i) (rowL L i) N) : ∃ N', go (d + 2) 77 55 [.ref 98, .ref 3, .ref 5, .int (nI i)] [] N = go (d + 2) 77 55 [.ref 98, .ref 3, .ref 5, .int (nI (i + 1))] [] N' ∧ Cn (99 + 2 * (i + 1)) (rowL L (i + 1)) N' := by
  have h := row_ok i hi
  simp only [rowC, Bool.and_eq_true] at h
  obtain ⟨⟨⟨⟨⟨h1, h2⟩, h3⟩, h4⟩, h5⟩, h6⟩ := h
  have l : ¬ ((13 : Int32) ≤ nI i) := fun z => by have := (nI_leI (a := 13) (b := i) (by omega) (by omega)).mp z; omega
  rw [q77_55, if_neg l, if_pos (oO s.1 h1), if_pos (nO s.1 h2), s.1, cn_r s (r := 98) (k := 4) (v := 99) (rowL_mem hm i) (by decide +kernel), bM_d, if_pos h3]
  have s1 := cn_N s
  obtain ⟨N1, e, s2⟩ := k39 (d := d) s1 h4
  rw [e, bV_s, if_pos (wQn s2.1 h5), bM_d, nI_clamp (show i < 2 ^ 31 by omega), nI_1]
  have s3 := cn_R s2 h6
  exact ⟨_, rfl, by rw [show 99 + 2 * (i + 1) = 99 + 2 * i + 1 + 1 by omega]; exact s3⟩
theorem row_all {d : Nat} {L : List (Nat × Nat)} {M : Mm} (hm : (98, 4) ∈ L) (s : Cn 99 L M) : ∃ N, go (d + 2) 77 55 [.ref 98, .ref 3, .ref 5, .int (0 : Int32)] [] M = go (d + 2) 77 55 [.ref 98, .ref 3, .ref 5, .int (nI 13)] [] N ∧ Cn 125 (rowL L 13) N := by
  exact loopI (fun i N => go (d + 2) 77 55 [.ref 98, .ref 3, .ref 5, .int (nI i)] [] N) (fun i N => Cn (99 + 2 * i) (rowL L i) N) 13 (fun i N hi s => row_step hm hi s) 13 0 M (by omega) s
def shsL (L : List (Nat × Nat)) : Nat → List (Nat × Nat)
  | 0 => L
  | i + 1 => (2, i) :: (154 + 2 * i + 1, 2) :: shsL L i
theorem shsL_mem {L : List (Nat × Nat)} {p : Nat × Nat} (h : p ∈ L) : ∀ i, p ∈ shsL L i
  | 0 => h
  | i + 1 => List.mem_cons_of_mem _ (List.mem_cons_of_mem _ (shsL_mem h i))
def shsC (i : Nat) : Bool := okOb (154 + 2 * i) 1 11 && nwOb (154 + 2 * i) 9 && okI (154 + 2 * i + 1) && c98 (154 + 2 * i + 1) && wQb (154 + 2 * i + 1 + 1) 2 (nI i) (154 + 2 * i + 1) && Nat.beq (154 + 2 * i + 1) (RC 2 i)
theorem shs_ok : ∀ i, i < 8 → shsC i = true := by decide +kernel
theorem shs_step {d i : Nat} {L : List (Nat × Nat)} {N : Mm} (hm : (1, 0) ∈ L) (hi : i < 8) (s : Cn (154 + 2 * i) (shsL L i) N ∧ ∀ t, t < i → gI N (155 + 2 * t) 0 = -1) : ∃ N', go (d + 2) 112 154 [.ref 1, .int (nI i)] [] N = go (d + 2) 112 154 [.ref 1, .int (nI (i + 1))] [] N' ∧ Cn (154 + 2 * (i + 1)) (shsL L (i + 1)) N' ∧ ∀ t, t < i + 1 → gI N' (155 + 2 * t) 0 = -1 := by
  have h := shs_ok i hi
  simp only [shsC, Bool.and_eq_true] at h
  obtain ⟨⟨⟨⟨⟨h1, h2⟩, h3⟩, h4⟩, h5⟩, h6⟩ := h
  have l : ¬ ((8 : Int32) ≤ nI i) := fun z => by have := (nI_leI (a := 8) (b := i) (by omega) (by omega)).mp z; omega
  obtain ⟨s, u⟩ := s
  rw [q112_154, if_neg l, if_pos (oO s.1 h1), if_pos (nO s.1 h2), s.1, cn_r s (r := 1) (k := 0) (v := 2) (shsL_mem hm i) (by decide +kernel), bM_d, if_pos h3]
  have s1 := cn_N s
  obtain ⟨N1, e, s2, g1, g2⟩ := k98 (d := d) s1 h4
  rw [e, bV_s, if_pos (wQn s2.1 h5), bM_d, nI_clamp (show i < 2 ^ 31 by omega), nI_1]
  have s3 := cn_R s2 h6
  refine ⟨_, rfl, by rw [show 154 + 2 * (i + 1) = 154 + 2 * i + 1 + 1 by omega]; exact s3, fun t ht => ?_⟩
  show gI N1 (155 + 2 * t) 0 = -1
  by_cases et : t = i
  · rw [et, show 155 + 2 * i = 154 + 2 * i + 1 by omega]; exact g1
  · rw [g2 _ _ (by omega)]; exact u t (by omega)
theorem shs_all {d : Nat} {L : List (Nat × Nat)} {M : Mm} (hm : (1, 0) ∈ L) (s : Cn 154 L M) : ∃ N, go (d + 2) 112 154 [.ref 1, .int (0 : Int32)] [] M = go (d + 2) 112 154 [.ref 1, .int (nI 8)] [] N ∧ Cn 170 (shsL L 8) N ∧ ∀ t, t < 8 → gI N (155 + 2 * t) 0 = -1 := by
  exact loopI (fun i N => go (d + 2) 112 154 [.ref 1, .int (nI i)] [] N) (fun i N => Cn (154 + 2 * i) (shsL L i) N ∧ ∀ t, t < i → gI N (155 + 2 * t) 0 = -1) 8 (fun i N hi s => shs_step hm hi s) 8 0 M (by omega) ⟨s, fun t ht => absurd ht (by omega)⟩
theorem k103 {d : Nat} {L : List (Nat × Nat)} {M : Mm} (s : Cn 3 L M) : ∃ N, go (d + 1) 103 0 [.ref 3] [] M = some (none, N) ∧ Cn 4 ((3, 0) :: L) N := by
  rw [q103_0]
  simp only [s.1, Nat.reduceAdd]
  rw [if_pos (by decide +kernel)]
  rw [if_pos (nA s.1 (by decide +kernel))]
  rw [bM_d]
  replace s := (cn_N s : Cn 4 _ _)
  generalize sN M = N at s ⊢
  rw [if_pos (oO s.1 (by decide +kernel))]
  rw [if_pos (by decide +kernel)]
  rw [bM_d]
  replace s := cn_R (r := 3) (k := 0) (v := 4) s (by decide +kernel)
  generalize sR N 3 0 4 = N at s ⊢
  rw [if_pos (oO s.1 (by decide +kernel))]
  rw [bM_d]
  replace s := cn_I (r := 3) (k := 1) (v := 0) s (fun _ => rfl)
  generalize sI N 3 1 (0 : Int32) = N at s ⊢
  rw [if_pos (oO s.1 (by decide +kernel))]
  rw [bM_d]
  replace s := cn_I (r := 3) (k := 2) (v := 0) s (fun _ => rfl)
  generalize sI N 3 2 (0 : Int32) = N at s ⊢
  rw [if_pos (oO s.1 (by decide +kernel))]
  rw [bM_d]
  replace s := cn_I (r := 3) (k := 3) (v := 0) s (fun _ => rfl)
  generalize sI N 3 3 (0 : Int32) = N at s ⊢
  rw [if_pos (oO s.1 (by decide +kernel))]
  rw [bM_d]
  replace s := cn_I (r := 3) (k := 4) (v := 0) s (fun _ => rfl)
  generalize sI N 3 4 (0 : Int32) = N at s ⊢
  rw [if_pos (oO s.1 (by decide +kernel))]
  rw [bM_d]
  replace s := cn_I (r := 3) (k := 5) (v := 0) s (fun _ => rfl)
  generalize sI N 3 5 (0 : Int32) = N at s ⊢
  exact ⟨_, rfl, s⟩
theorem k94 {d : Nat} {L : List (Nat × Nat)} {M : Mm} (s : Cn 139 L M) : ∃ N, go (d + 1) 94 0 [.ref 139] [] M = some (none, N) ∧ Cn 140 ((139, 0) :: L) N := by
  rw [q94_0]
  simp only [s.1, Nat.reduceAdd]
  rw [if_pos (by decide +kernel)]
  rw [if_pos (nA s.1 (by decide +kernel))]
  rw [bM_d]
  replace s := (cn_N s : Cn 140 _ _)
  generalize sN M = N at s ⊢
  rw [if_pos (oO s.1 (by decide +kernel))]
  rw [if_pos (by decide +kernel)]
  rw [bM_d]
  replace s := cn_R (r := 139) (k := 0) (v := 140) s (by decide +kernel)
  generalize sR N 139 0 140 = N at s ⊢
  rw [if_pos (oO s.1 (by decide +kernel))]
  rw [bM_d]
  replace s := cn_I (r := 139) (k := 1) (v := ((-1000000) : Int32)) s (fun hz => by have := hz.2; omega)
  generalize sI N 139 1 ((-1000000) : Int32) = N at s ⊢
  rw [if_pos (oO s.1 (by decide +kernel))]
  rw [bM_d]
  replace s := cn_I (r := 139) (k := 2) (v := 0) s (fun _ => rfl)
  generalize sI N 139 2 (0 : Int32) = N at s ⊢
  exact ⟨_, rfl, s⟩
theorem k58 {d : Nat} {L : List (Nat × Nat)} {M : Mm} (s : Cn 126 L M) : ∃ N, go (d + 2) 58 0 [.ref 126, .ref 5] [] M = some (none, N) ∧ Cn 137 ((126, 4) :: (126, 7) :: (126, 6) :: (126, 5) :: (126, 3) :: (133, 0) :: (126, 2) :: (131, 0) :: (126, 1) :: (129, 0) :: (126, 0) :: (127, 0) :: L) N := by
  rw [q58_0]
  simp only [s.1, Nat.reduceAdd]
  rw [if_pos (by decide +kernel)]
  rw [if_pos (nO s.1 (by decide +kernel))]
  rw [bM_d]
  replace s := (cn_N s : Cn 127 _ _)
  generalize sN M = N at s ⊢
  rw [if_pos (by decide +kernel)]
  obtain ⟨N, e, s⟩ := k39 (d := d) (n := 127) s (by decide +kernel)
  replace s : Cn 128 _ N := s
  rw [e, bV_s]
  rw [if_pos (oO s.1 (by decide +kernel))]
  rw [if_pos (by decide +kernel)]
  rw [bM_d]
  replace s := cn_R (r := 126) (k := 0) (v := 127) s (by decide +kernel)
  generalize sR N 126 0 127 = N at s ⊢
  simp only [s.1, Nat.reduceAdd]
  rw [if_pos (nO s.1 (by decide +kernel))]
  rw [bM_d]
  replace s := (cn_N s : Cn 129 _ _)
  generalize sN N = N at s ⊢
  rw [if_pos (by decide +kernel)]
  obtain ⟨N, e, s⟩ := k39 (d := d) (n := 129) s (by decide +kernel)
  replace s : Cn 130 _ N := s
  rw [e, bV_s]
  rw [if_pos (oO s.1 (by decide +kernel))]
  rw [if_pos (by decide +kernel)]
  rw [bM_d]
  replace s := cn_R (r := 126) (k := 1) (v := 129) s (by decide +kernel)
  generalize sR N 126 1 129 = N at s ⊢
  rw [q58_26]
  simp only [s.1, Nat.reduceAdd]
  rw [if_pos (nO s.1 (by decide +kernel))]
  rw [bM_d]
  replace s := (cn_N s : Cn 131 _ _)
  generalize sN N = N at s ⊢
  rw [if_pos (by decide +kernel)]
  obtain ⟨N, e, s⟩ := k39 (d := d) (n := 131) s (by decide +kernel)
  replace s : Cn 132 _ N := s
  rw [e, bV_s]
  rw [if_pos (oO s.1 (by decide +kernel))]
  rw [if_pos (by decide +kernel)]
  rw [bM_d]
  replace s := cn_R (r := 126) (k := 2) (v := 131) s (by decide +kernel)
  generalize sR N 126 2 131 = N at s ⊢
  simp only [s.1, Nat.reduceAdd]
  rw [if_pos (nO s.1 (by decide +kernel))]
  rw [bM_d]
  replace s := (cn_N s : Cn 133 _ _)
  generalize sN N = N at s ⊢
  rw [if_pos (by decide +kernel)]
  obtain ⟨N, e, s⟩ := k39 (d := d) (n := 133) s (by decide +kernel)
  replace s : Cn 134 _ N := s
  rw [e, bV_s]
  rw [if_pos (oO s.1 (by decide +kernel))]
  rw [if_pos (by decide +kernel)]
  rw [bM_d]
  replace s := cn_R (r := 126) (k := 3) (v := 133) s (by decide +kernel)
  generalize sR N 126 3 133 = N at s ⊢
  rw [q58_48]
  simp only [s.1, Nat.reduceAdd]
  rw [if_pos (nA s.1 (by decide +kernel))]
  rw [bM_d]
  replace s := (cn_N s : Cn 135 _ _)
  generalize sN N = N at s ⊢
  rw [if_pos (oO s.1 (by decide +kernel))]
  rw [if_pos (by decide +kernel)]
  rw [bM_d]
  replace s := cn_R (r := 126) (k := 5) (v := 135) s (by decide +kernel)
  generalize sR N 126 5 135 = N at s ⊢
  simp only [s.1, Nat.reduceAdd]
  rw [if_pos (nA s.1 (by decide +kernel))]
  rw [bM_d]
  replace s := (cn_N s : Cn 136 _ _)
  generalize sN N = N at s ⊢
  rw [if_pos (oO s.1 (by decide +kernel))]
  rw [if_pos (by decide +kernel)]
  rw [bM_d]
  replace s := cn_R (r := 126) (k := 6) (v := 136) s (by decide +kernel)
  generalize sR N 126 6 136 = N at s ⊢
  rw [q58_64]
  simp only [s.1, Nat.reduceAdd]
  rw [if_pos (nA s.1 (by decide +kernel))]
  rw [bM_d]
  replace s := (cn_N s : Cn 137 _ _)
  generalize sN N = N at s ⊢
  rw [if_pos (oO s.1 (by decide +kernel))]
  rw [if_pos (by decide +kernel)]
  rw [bM_d]
  replace s := cn_R (r := 126) (k := 7) (v := 137) s (by decide +kernel)
  generalize sR N 126 7 137 = N at s ⊢
  rw [if_pos (oO s.1 (by decide +kernel))]
  rw [if_pos (by decide +kernel)]
  rw [bM_d]
  replace s := cn_R (r := 126) (k := 4) (v := 5) s (by decide +kernel)
  generalize sR N 126 4 5 = N at s ⊢
  rw [q58_77]
  exact ⟨_, rfl, s⟩
theorem k24 {d : Nat} {L : List (Nat × Nat)} {M : Mm} (s : Cn 138 L M) : ∃ N, go (d + 2) 24 0 [.ref 138, .ref 5, .ref 126] [] M = some (none, N) ∧ Cn 147 ((138, 9) :: (138, 8) :: (138, 7) :: (146, 0) :: (138, 6) :: (138, 5) :: (138, 2) :: (138, 1) :: (141, 0) :: (138, 0) :: (139, 0) :: L) N := by
  rw [q24_0]
  simp only [s.1, Nat.reduceAdd]
  rw [if_pos (by decide +kernel)]
  rw [if_pos (nO s.1 (by decide +kernel))]
  rw [bM_d]
  replace s := (cn_N s : Cn 139 _ _)
  generalize sN M = N at s ⊢
  rw [if_pos (by decide +kernel)]
  obtain ⟨N, e, s⟩ := k94 (d := d) s
  rw [e, bV_s]
  rw [if_pos (oO s.1 (by decide +kernel))]
  rw [if_pos (by decide +kernel)]
  rw [bM_d]
  replace s := cn_R (r := 138) (k := 0) (v := 139) s (by decide +kernel)
  generalize sR N 138 0 139 = N at s ⊢
  simp only [s.1, Nat.reduceAdd]
  rw [if_pos (nO s.1 (by decide +kernel))]
  rw [bM_d]
  replace s := (cn_N s : Cn 141 _ _)
  generalize sN N = N at s ⊢
  rw [if_pos (by decide +kernel)]
  obtain ⟨N, e, s⟩ := k39 (d := d) (n := 141) s (by decide +kernel)
  replace s : Cn 142 _ N := s
  rw [e, bV_s]
  rw [if_pos (oO s.1 (by decide +kernel))]
  rw [if_pos (by decide +kernel)]
  rw [bM_d]
  replace s := cn_R (r := 138) (k := 1) (v := 141) s (by decide +kernel)
  generalize sR N 138 1 141 = N at s ⊢
  rw [q24_26]
  simp only [s.1, Nat.reduceAdd]
  rw [if_pos (nA s.1 (by decide +kernel))]
  rw [bM_d]
  replace s := (cn_N s : Cn 143 _ _)
  generalize sN N = N at s ⊢
  rw [if_pos (oO s.1 (by decide +kernel))]
  rw [if_pos (by decide +kernel)]
  rw [bM_d]
  replace s := cn_R (r := 138) (k := 2) (v := 143) s (by decide +kernel)
  generalize sR N 138 2 143 = N at s ⊢
  rw [if_pos (oO s.1 (by decide +kernel))]
  rw [bM_d]
  replace s := cn_I (r := 138) (k := 3) (v := 0) s (fun _ => rfl)
  generalize sI N 138 3 (0 : Int32) = N at s ⊢
  rw [if_pos (oO s.1 (by decide +kernel))]
  rw [bM_d]
  replace s := cn_I (r := 138) (k := 4) (v := 0) s (fun _ => rfl)
  generalize sI N 138 4 (0 : Int32) = N at s ⊢
  simp only [s.1, Nat.reduceAdd]
  rw [if_pos (nA s.1 (by decide +kernel))]
  rw [bM_d]
  replace s := (cn_N s : Cn 144 _ _)
  generalize sN N = N at s ⊢
  rw [if_pos (oO s.1 (by decide +kernel))]
  rw [if_pos (by decide +kernel)]
  rw [bM_d]
  replace s := cn_R (r := 138) (k := 5) (v := 144) s (by decide +kernel)
  generalize sR N 138 5 144 = N at s ⊢
  rw [q24_54]
  simp only [s.1, Nat.reduceAdd]
  rw [if_pos (nA s.1 (by decide +kernel))]
  rw [bM_d]
  replace s := (cn_N s : Cn 145 _ _)
  generalize sN N = N at s ⊢
  rw [if_pos (oO s.1 (by decide +kernel))]
  rw [if_pos (by decide +kernel)]
  rw [bM_d]
  replace s := cn_R (r := 138) (k := 6) (v := 145) s (by decide +kernel)
  generalize sR N 138 6 145 = N at s ⊢
  simp only [s.1, Nat.reduceAdd]
  rw [if_pos (nO s.1 (by decide +kernel))]
  rw [bM_d]
  replace s := (cn_N s : Cn 146 _ _)
  generalize sN N = N at s ⊢
  rw [if_pos (by decide +kernel)]
  obtain ⟨N, e, s⟩ := k39 (d := d) (n := 146) s (by decide +kernel)
  replace s : Cn 147 _ N := s
  rw [e, bV_s]
  rw [if_pos (oO s.1 (by decide +kernel))]
  rw [if_pos (by decide +kernel)]
  rw [bM_d]
  replace s := cn_R (r := 138) (k := 7) (v := 146) s (by decide +kernel)
  generalize sR N 138 7 146 = N at s ⊢
  rw [q24_74]
  rw [if_pos (oO s.1 (by decide +kernel))]
  rw [bM_d]
  replace s := cn_I (r := 138) (k := 10) (v := ((-1000000) : Int32)) s (fun hz => by have := hz.2; omega)
  generalize sI N 138 10 ((-1000000) : Int32) = N at s ⊢
  rw [if_pos (oO s.1 (by decide +kernel))]
  rw [bM_d]
  replace s := cn_I (r := 138) (k := 11) (v := 0) s (fun _ => rfl)
  generalize sI N 138 11 (0 : Int32) = N at s ⊢
  rw [if_pos (oO s.1 (by decide +kernel))]
  rw [if_pos (by decide +kernel)]
  rw [bM_d]
  replace s := cn_R (r := 138) (k := 8) (v := 5) s (by decide +kernel)
  generalize sR N 138 8 5 = N at s ⊢
  rw [if_pos (oO s.1 (by decide +kernel))]
  rw [if_pos (by decide +kernel)]
  rw [bM_d]
  replace s := cn_R (r := 138) (k := 9) (v := 126) s (by decide +kernel)
  generalize sR N 138 9 126 = N at s ⊢
  rw [q24_95]
  exact ⟨_, rfl, s⟩
theorem k32 {d : Nat} {L : List (Nat × Nat)} {M : Mm} (s : Cn 148 L M) : ∃ N, go (d + 1) 32 0 [.ref 148, .ref 5, .ref 126] [] M = some (none, N) ∧ Cn 150 ((148, 4) :: (148, 3) :: (148, 5) :: (148, 0) :: L) N := by
  rw [q32_0]
  simp only [s.1, Nat.reduceAdd]
  rw [if_pos (by decide +kernel)]
  rw [if_pos (nA s.1 (by decide +kernel))]
  rw [bM_d]
  replace s := (cn_N s : Cn 149 _ _)
  generalize sN M = N at s ⊢
  rw [if_pos (oO s.1 (by decide +kernel))]
  rw [if_pos (by decide +kernel)]
  rw [bM_d]
  replace s := cn_R (r := 148) (k := 0) (v := 149) s (by decide +kernel)
  generalize sR N 148 0 149 = N at s ⊢
  rw [if_pos (oO s.1 (by decide +kernel))]
  rw [bM_d]
  replace s := cn_I (r := 148) (k := 1) (v := 0) s (fun _ => rfl)
  generalize sI N 148 1 (0 : Int32) = N at s ⊢
  rw [if_pos (oO s.1 (by decide +kernel))]
  rw [bM_d]
  replace s := cn_I (r := 148) (k := 2) (v := 0) s (fun _ => rfl)
  generalize sI N 148 2 (0 : Int32) = N at s ⊢
  simp only [s.1, Nat.reduceAdd]
  rw [if_pos (nA s.1 (by decide +kernel))]
  rw [bM_d]
  replace s := (cn_N s : Cn 150 _ _)
  generalize sN N = N at s ⊢
  rw [if_pos (oO s.1 (by decide +kernel))]
  rw [if_pos (by decide +kernel)]
  rw [bM_d]
  replace s := cn_R (r := 148) (k := 5) (v := 150) s (by decide +kernel)
  generalize sR N 148 5 150 = N at s ⊢
  rw [if_pos (oO s.1 (by decide +kernel))]
  rw [if_pos (by decide +kernel)]
  rw [bM_d]
  replace s := cn_R (r := 148) (k := 3) (v := 5) s (by decide +kernel)
  generalize sR N 148 3 5 = N at s ⊢
  rw [if_pos (oO s.1 (by decide +kernel))]
  rw [if_pos (by decide +kernel)]
  rw [bM_d]
  replace s := cn_R (r := 148) (k := 4) (v := 126) s (by decide +kernel)
  generalize sR N 148 4 126 = N at s ⊢
  exact ⟨_, rfl, s⟩
theorem k15 {d : Nat} {L : List (Nat × Nat)} {M : Mm} (s : Cn 5 L M) : ∃ N, go (d + 3) 15 0 [.ref 5, .null] [] M = some (none, N) ∧ Cn 97 (linL (lawL ((5, 7) :: (5, 6) :: (5, 5) :: (5, 4) :: L) 8) 24) N := by
  rw [q15_0]
  rw [if_pos (by decide +kernel)]
  rw [if_pos (oO s.1 (by decide +kernel))]
  rw [bM_d]
  replace s := cn_I (r := 5) (k := 0) (v := 0) s (fun _ => rfl)
  generalize sI M 5 0 (0 : Int32) = N at s ⊢
  rw [if_pos (oO s.1 (by decide +kernel))]
  rw [bM_d]
  replace s := cn_I (r := 5) (k := 1) (v := 0) s (fun _ => rfl)
  generalize sI N 5 1 (0 : Int32) = N at s ⊢
  rw [if_pos (oO s.1 (by decide +kernel))]
  rw [bM_d]
  replace s := cn_I (r := 5) (k := 2) (v := 0) s (fun _ => rfl)
  generalize sI N 5 2 (0 : Int32) = N at s ⊢
  rw [if_pos (oO s.1 (by decide +kernel))]
  rw [bM_d]
  replace s := cn_I (r := 5) (k := 3) (v := 0) s (fun _ => rfl)
  generalize sI N 5 3 (0 : Int32) = N at s ⊢
  simp only [s.1, Nat.reduceAdd]
  rw [if_pos (nA s.1 (by decide +kernel))]
  rw [bM_d]
  replace s := (cn_N s : Cn 6 _ _)
  generalize sN N = N at s ⊢
  rw [if_pos (oO s.1 (by decide +kernel))]
  rw [if_pos (by decide +kernel)]
  rw [bM_d]
  replace s := cn_R (r := 5) (k := 4) (v := 6) s (by decide +kernel)
  generalize sR N 5 4 6 = N at s ⊢
  simp only [s.1, Nat.reduceAdd]
  rw [if_pos (nA s.1 (by decide +kernel))]
  rw [bM_d]
  replace s := (cn_N s : Cn 7 _ _)
  generalize sN N = N at s ⊢
  rw [if_pos (oO s.1 (by decide +kernel))]
  rw [if_pos (by decide +kernel)]
  rw [bM_d]
  replace s := cn_R (r := 5) (k := 5) (v := 7) s (by decide +kernel)
  generalize sR N 5 5 7 = N at s ⊢
  rw [q15_40]
  simp only [s.1, Nat.reduceAdd]
  rw [if_pos (nA s.1 (by decide +kernel))]
  rw [bM_d]
  replace s := (cn_N s : Cn 8 _ _)
  generalize sN N = N at s ⊢
  rw [if_pos (oO s.1 (by decide +kernel))]
  rw [if_pos (by decide +kernel)]
  rw [bM_d]
  replace s := cn_R (r := 5) (k := 6) (v := 8) s (by decide +kernel)
  generalize sR N 5 6 8 = N at s ⊢
  simp only [s.1, Nat.reduceAdd]
  rw [if_pos (nA s.1 (by decide +kernel))]
  rw [bM_d]
  replace s := (cn_N s : Cn 9 _ _)
  generalize sN N = N at s ⊢
  rw [if_pos (oO s.1 (by decide +kernel))]
  rw [if_pos (by decide +kernel)]
  rw [bM_d]
  replace s := cn_R (r := 5) (k := 7) (v := 9) s (by decide +kernel)
  generalize sR N 5 7 9 = N at s ⊢
  rw [q15_58]
  obtain ⟨N1, e, s⟩ := law_all (d := d + 1) (by simp) s
  rw [e, q15_60, if_pos (by decide +kernel)]
  obtain ⟨N2, e, s⟩ := lin_all (d := d) (lawL_mem (by simp) 8) s
  rw [e, q15_87, if_pos (by decide +kernel)]
  exact ⟨_, rfl, s⟩
theorem k77 {d : Nat} {L : List (Nat × Nat)} {M : Mm} (s : Cn 98 L M) : ∃ N, go (d + 2) 77 0 [.ref 98, .ref 3, .ref 5, .null] [] M = some (none, N) ∧ Cn 125 (rowL ((98, 3) :: (98, 2) :: (98, 4) :: L) 13) N := by
  rw [q77_0]
  rw [if_pos (by decide +kernel)]
  rw [if_pos (oO s.1 (by decide +kernel))]
  rw [bM_d]
  replace s := cn_I (r := 98) (k := 0) (v := 0) s (fun _ => rfl)
  generalize sI M 98 0 (0 : Int32) = N at s ⊢
  rw [if_pos (oO s.1 (by decide +kernel))]
  rw [bM_d]
  replace s := cn_I (r := 98) (k := 1) (v := 0) s (fun _ => rfl)
  generalize sI N 98 1 (0 : Int32) = N at s ⊢
  simp only [s.1, Nat.reduceAdd]
  rw [if_pos (nA s.1 (by decide +kernel))]
  rw [bM_d]
  replace s := (cn_N s : Cn 99 _ _)
  generalize sN N = N at s ⊢
  rw [if_pos (oO s.1 (by decide +kernel))]
  rw [if_pos (by decide +kernel)]
  rw [bM_d]
  replace s := cn_R (r := 98) (k := 4) (v := 99) s (by decide +kernel)
  generalize sR N 98 4 99 = N at s ⊢
  rw [if_pos (oO s.1 (by decide +kernel))]
  rw [bM_d]
  replace s := cn_I (r := 98) (k := 5) (v := 0) s (fun _ => rfl)
  generalize sI N 98 5 (0 : Int32) = N at s ⊢
  rw [if_pos (oO s.1 (by decide +kernel))]
  rw [bM_d]
  replace s := cn_I (r := 98) (k := 6) (v := 0) s (fun _ => rfl)
  generalize sI N 98 6 (0 : Int32) = N at s ⊢
  rw [if_pos (oO s.1 (by decide +kernel))]
  rw [bM_d]
  replace s := cn_I (r := 98) (k := 7) (v := 0) s (fun _ => rfl)
  generalize sI N 98 7 (0 : Int32) = N at s ⊢
  rw [if_pos (oO s.1 (by decide +kernel))]
  rw [bM_d]
  replace s := cn_I (r := 98) (k := 8) (v := 0) s (fun _ => rfl)
  generalize sI N 98 8 (0 : Int32) = N at s ⊢
  rw [if_pos (oO s.1 (by decide +kernel))]
  rw [if_pos (by decide +kernel)]
  rw [bM_d]
  replace s := cn_R (r := 98) (k := 2) (v := 3) s (by decide +kernel)
  generalize sR N 98 2 3 = N at s ⊢
  rw [if_pos (oO s.1 (by decide +kernel))]
  rw [if_pos (by decide +kernel)]
  rw [bM_d]
  replace s := cn_R (r := 98) (k := 3) (v := 5) s (by decide +kernel)
  generalize sR N 98 3 5 = N at s ⊢
  obtain ⟨N1, e, s⟩ := row_all (d := d) (by simp) s
  rw [e, q77_55, if_pos (by decide +kernel)]
  exact ⟨_, rfl, s⟩
theorem k0 {d : Nat} {L : List (Nat × Nat)} {M : Mm} (h57 : (5, 7) ∈ L) (h90 : (9, 0) ∈ L) (s : Cn 151 L M) : ∃ N, go (d + 1) 0 0 [.ref 151, .ref 5, .ref 126] [] M = some (none, N) ∧ Cn 152 ((151, 4) :: (151, 3) :: (151, 2) :: (151, 0) :: L) N := by
  rw [q0_0]
  simp only [s.1, Nat.reduceAdd]
  rw [if_pos (by decide +kernel)]
  rw [if_pos (nA s.1 (by decide +kernel))]
  rw [bM_d]
  replace s := (cn_N s : Cn 152 _ _)
  generalize sN M = N at s ⊢
  rw [if_pos (oO s.1 (by decide +kernel))]
  rw [if_pos (by decide +kernel)]
  rw [bM_d]
  replace s := cn_R (r := 151) (k := 0) (v := 152) s (by decide +kernel)
  generalize sR N 151 0 152 = N at s ⊢
  rw [if_pos (oO s.1 (by decide +kernel))]
  rw [bM_d]
  replace s := cn_I (r := 151) (k := 1) (v := 0) s (fun _ => rfl)
  generalize sI N 151 1 (0 : Int32) = N at s ⊢
  rw [if_pos (oO s.1 (by decide +kernel))]
  rw [bM_d]
  replace s := cn_I (r := 151) (k := 5) (v := 0) s (fun _ => rfl)
  generalize sI N 151 5 (0 : Int32) = N at s ⊢
  rw [if_pos (oO s.1 (by decide +kernel))]
  rw [bM_d]
  replace s := cn_I (r := 151) (k := 6) (v := 0) s (fun _ => rfl)
  generalize sI N 151 6 (0 : Int32) = N at s ⊢
  rw [if_pos (oO s.1 (by decide +kernel))]
  rw [bM_d]
  replace s := cn_I (r := 151) (k := 7) (v := 0) s (fun _ => rfl)
  generalize sI N 151 7 (0 : Int32) = N at s ⊢
  rw [if_pos (oO s.1 (by decide +kernel))]
  rw [if_pos (by decide +kernel)]
  rw [bM_d]
  replace s := cn_R (r := 151) (k := 2) (v := 5) s (by decide +kernel)
  generalize sR N 151 2 5 = N at s ⊢
  rw [if_pos (oO s.1 (by decide +kernel))]
  rw [if_pos (by decide +kernel)]
  rw [bM_d]
  replace s := cn_R (r := 151) (k := 3) (v := 126) s (by decide +kernel)
  generalize sR N 151 3 126 = N at s ⊢
  rw [cn_r s (r := 5) (k := 7) (v := 9) (by simp [h57]) (by decide +kernel)]
  simp only [cl0]
  rw [cn_r s (r := 9) (k := 0) (v := 26) (by simp [h90]) (by decide +kernel)]
  rw [if_pos (oO s.1 (by decide +kernel))]
  rw [if_pos (rQn s.1 (by decide +kernel))]
  rw [if_pos (oO s.1 (by decide +kernel))]
  rw [if_pos (by decide +kernel)]
  rw [bM_d]
  replace s := cn_R (r := 151) (k := 4) (v := 26) s (by decide +kernel)
  generalize sR N 151 4 26 = N at s ⊢
  exact ⟨_, rfl, s⟩
