/-! ===== the class works out for the first time: no mark, no law ===== -/
theorem cn_wI {n w : Nat} {f : Nat → Int32} {L : List (Nat × Nat)} {M : Mm} (s : Cn n L M) (h : ∀ k, Zc w k → f k = 0) : Cn n L (wI M w f) := ⟨s.1, fun a b hz => by
  rw [gI_wI]
  by_cases e : a = w
  · rw [if_pos e]; rw [e] at hz; exact h b hz
  · rw [if_neg e]; exact s.2.1 a b hz, s.2.2⟩
theorem cn_set {n w : Nat} {g : Nat → Bool} {L : List (Nat × Nat)} {M N : Mm} (s : Cn n L M) (h : KSet M N w g) : Cn n L N := by
  obtain ⟨f, rfl, -⟩ := h
  exact ⟨s.1, s.2⟩
def lkB : List (Nat × Nat) := shsL lkA 8
def ksC (a w : Nat) : Bool := okOb 170 a 4 && Nat.blt w 1000 && Nat.beq (SH w).2 16 && Nat.beq (RC a 0) w
theorem ks_n {a w : Nat} {M : Mm} (s : Cn 170 lkB M) (h : ksC a w = true) (hm : (a, 0) ∈ lkB) (hj : ∀ j, j < 16 → wOb 170 w 3 (nI j) = true) : KS M a w := by
  simp only [ksC, Bool.and_eq_true] at h
  obtain ⟨⟨⟨h1, h2⟩, h3⟩, h4⟩ := h
  exact KS_of (oO s.1 h1) (cn_r s hm h4) (fun j hj2 => rOe s.1 (hj j hj2)) (fun j hj2 => wO s.1 (hj j hj2)) (blt_lt h2) (Nat.eq_of_beq_eq_true h3)
theorem fill_n {d w : Nat} {M : Mm} (s : Cn 170 lkB M) (hw : w = 135 ∨ w = 136 ∨ w = 137) : ∃ N, go (d + 1) 247 0 [.ref w, .int (0 : Int32), .null, .null] [] M = some (none, N) ∧ Cn 170 lkB N ∧ (∀ r k, r ≠ w → gI N r k = gI M r k) ∧ gL N = gL M := by
  have h1 : ∀ j, j < 11 → wOb 170 w 0 (nI j) = true := by rcases hw with rfl | rfl | rfl <;> decide +kernel
  have h2 : okAb 170 w 0 = true := by rcases hw with rfl | rfl | rfl <;> decide +kernel
  have h3 : (SH w).2 = 11 := by rcases hw with rfl | rfl | rfl <;> decide +kernel
  refine ⟨_, fillI (n := 11) (fun j hj => wO s.1 (h1 j hj)) (oA s.1 h2) (by omega) h3 (by omega), cn_wI s (fun k hz => ?_), fun r k hr => by rw [gI_wI, if_neg hr], rfl⟩
  show (if k < 11 then (0 : Int32) else gI M w k) = 0
  by_cases e : k < 11
  · rw [if_pos e]
  · rw [if_neg e]; exact s.2.1 _ _ hz
theorem z_5 {k : Nat} : Zc 5 k := by unfold Zc; omega
theorem z_136 {k : Nat} : Zc 136 k := by unfold Zc; omega
theorem z_137 {k : Nat} : Zc 137 k := by unfold Zc; omega
theorem g60_n {d : Nat} {M : Mm} (s : Cn 170 lkB M) : ∃ N, go (d + 2) 60 0 [.ref 126, .null, .null] [] M = some (none, N) ∧ Cn 170 lkB N ∧ (∀ r k, ¬ (135 ≤ r ∧ r ≤ 137) → gI N r k = gI M r k) ∧ gL N = gL M := by
  obtain ⟨N1, e1, s1, u1, v1⟩ := fill_n (d := d) s (Or.inl rfl)
  obtain ⟨N2, e2, s2, u2, v2⟩ := fill_n (d := d) s1 (Or.inr (Or.inl rfl))
  obtain ⟨N3, e3, s3, u3, v3⟩ := fill_n (d := d) s2 (Or.inr (Or.inr rfl))
  refine ⟨N3, ?_, s3, fun r k hr => by rw [u3 r k (by omega), u2 r k (by omega), u1 r k (by omega)], by rw [v3, v2, v1]⟩
  rw [q60_0, if_pos (oO s.1 (by decide +kernel)), cn_r s (r := 126) (k := 5) (v := 135) (by decide +kernel) (by decide +kernel), e1, bV_s]
  rw [if_pos (oO s1.1 (by decide +kernel)), cn_r s1 (r := 126) (k := 6) (v := 136) (by decide +kernel) (by decide +kernel), e2, bV_s]
  rw [if_pos (oO s2.1 (by decide +kernel)), cn_r s2 (r := 126) (k := 7) (v := 137) (by decide +kernel) (by decide +kernel), e3, bV_s]
  rw [q60_26, if_pos (oO s3.1 (by decide +kernel)), cn_r s3 (r := 126) (k := 4) (v := 5) (by decide +kernel) (by decide +kernel), if_pos (oO s3.1 (by decide +kernel)), s3.2.1 5 0 z_5, if_pos (by decide)]
theorem g61_n {d : Nat} {M : Mm} (s : Cn 170 lkB M) : go (d + 2) 61 0 [.ref 126, .int (0 : Int32), .null, .null] [] M = some (some (.int (1 : Int32)), M) := by
  have o : okO M 126 5 = true := oO s.1 (by decide +kernel)
  have o5 : okO M 5 1 = true := oO s.1 (by decide +kernel)
  have r4 : gR M 126 4 = 5 := cn_r s (by decide +kernel) (by decide +kernel)
  have r6 : gR M 126 6 = 136 := cn_r s (by decide +kernel) (by decide +kernel)
  have r7 : gR M 126 7 = 137 := cn_r s (by decide +kernel) (by decide +kernel)
  have k6 : rOK M 136 0 (0 : Int32) = true := rOe s.1 (by decide +kernel)
  have k7 : rOK M 137 0 (0 : Int32) = true := rOe s.1 (by decide +kernel)
  have e62 : go (d + 1) 62 0 [.ref 126, .int (0 : Int32), .int (0 : Int32), .null] [] M = some (some (.int (1 : Int32)), M) := by
    rw [q62_0, if_pos o, r7, if_pos k7, cl0, s.2.1 137 0 z_137, if_pos rfl, if_neg (by decide), if_pos o, r6, if_pos k6, s.2.1 136 0 z_136, if_pos (by decide)]
  rw [q61_0, q61_2, if_pos o, r4, if_pos o5, s.2.1 5 0 z_5, if_neg (by decide), if_pos rfl, q61_32, if_neg (by decide), if_pos o, e62, bI_s, if_neg (by decide), q61_2, if_pos o, r4, if_pos o5, s.2.1 5 0 z_5, if_pos (by decide)]
theorem g59_n {d : Nat} {M : Mm} (s : Cn 170 lkB M) : ∃ N, go (d + 4) 59 0 [.ref 126, .null] [] M = some (none, N) ∧ Cn 170 lkB N ∧ (∀ r k, ¬ (135 ≤ r ∧ r ≤ 137) → gI N r k = gI M r k) ∧ (∀ r, r ≠ 128 → r ≠ 130 → gL N r = gL M r) ∧ (∀ k, k < 1024 → kb (gL N 130) k = decide (k = 0)) ∧ ∀ k, k < 1024 → kb (gL N 128) k = decide (k = 0) := by
  obtain ⟨N1, e1, s1, u1, v1⟩ := g60_n (d := d + 1) s
  have K30 : ∀ {X : Mm}, Cn 170 lkB X → KS X 129 130 := fun h => ks_n h (by decide +kernel) (by decide +kernel) (by decide +kernel)
  have K28 : ∀ {X : Mm}, Cn 170 lkB X → KS X 127 128 := fun h => ks_n h (by decide +kernel) (by decide +kernel) (by decide +kernel)
  have o : ∀ {X : Mm}, Cn 170 lkB X → okO X 126 5 = true := fun h => oO h.1 (by decide +kernel)
  have o5 : ∀ {X : Mm}, Cn 170 lkB X → okO X 5 1 = true := fun h => oO h.1 (by decide +kernel)
  have o27 : ∀ {X : Mm}, Cn 170 lkB X → okO X 127 4 = true := fun h => oO h.1 (by decide +kernel)
  have o29 : ∀ {X : Mm}, Cn 170 lkB X → okO X 129 4 = true := fun h => oO h.1 (by decide +kernel)
  have r0 : ∀ {X : Mm}, Cn 170 lkB X → gR X 126 0 = 127 := fun h => cn_r h (by decide +kernel) (by decide +kernel)
  have r1 : ∀ {X : Mm}, Cn 170 lkB X → gR X 126 1 = 129 := fun h => cn_r h (by decide +kernel) (by decide +kernel)
  have r4 : ∀ {X : Mm}, Cn 170 lkB X → gR X 126 4 = 5 := fun h => cn_r h (by decide +kernel) (by decide +kernel)
  have e19 : ∀ {X : Mm}, Cn 170 lkB X → go (d + 3) 19 0 [.ref 5] [] X = some (some (.int (0 : Int32)), X) := fun {X} h => by
    rw [q19_0, if_pos (o5 h), h.2.1 5 0 z_5]; rfl
  obtain ⟨N2, e2, c2⟩ := kt_clear (d := d + 1) (K30 s1)
  have s2 := cn_set s1 c2
  obtain ⟨N3, e3, c3⟩ := kt_put (d := d + 2) (k := 0) c2 (K30 s1) (by omega)
  have s3 := cn_set s1 c3
  obtain ⟨N4, e4, c4⟩ := kt_take (d := d + 2) (K28 s3) (K30 s3) (by decide +kernel) (by decide +kernel)
  have s4 := cn_set s3 c4
  have b3 : ∀ k, k < 1024 → kb (gL N3 130) k = decide (k = 0) := fun k hk => by rw [KSet_g c3 k hk]; simp
  refine ⟨N4, ?_, s4, fun r k hr => by rw [KSet_I c4, KSet_I c3]; exact u1 r k hr, fun r h1 h2 => by rw [KSet_o c4 h1, KSet_o c3 h2, v1], fun k hk => by rw [KSet_o c4 (by omega)]; exact b3 k hk, fun k hk => by rw [KSet_g c4 k hk]; exact b3 k hk⟩
  rw [q59_0, if_pos (o s), e1, bV_s, if_pos (o s1), r1 s1, if_pos (o29 s1), e2, bV_s]
  rw [q59_13, if_pos (o s2), r4 s2, if_pos (o5 s2), e19 s2, bI_s, if_neg (by decide), if_pos (o s2), g61_n (d := d + 1) s2, bI_s, if_neg (by decide), if_pos (o s2), r1 s2, if_pos (o29 s2)]
  rw [show (.int (0 : Int32) : Value) = .int (nI 0) from rfl, e3, bV_s, show (0 : Int32) + 1 = 1 from rfl]
  rw [q59_13, if_pos (o s3), r4 s3, if_pos (o5 s3), e19 s3, bI_s, if_pos (by decide), if_pos (o s3), if_pos (o s3), r0 s3, if_pos (o27 s3), r1 s3, e4, bV_s]
  rw [q59_59, if_pos (o s4), r4 s4, if_pos (o5 s4), s4.2.1 5 1 z_5, if_pos (by decide)]
theorem k112_all {d : Nat} {M : Mm} (s : Cn 1 [] M) : ∃ N, go (d + 5) 112 0 [.ref 1, .null] [] M = some (none, N) ∧ Cn 170 lkB N ∧ (∀ t, t < 8 → gI N (155 + 2 * t) 0 = -1) ∧ (∀ k, k < 1024 → kb (gL N 130) k = decide (k = 0)) ∧ ∀ k, k < 1024 → kb (gL N 128) k = decide (k = 0) := by
  obtain ⟨N1, e1, s1⟩ := k112 (d := d + 1) s
  obtain ⟨N2, e2, s2, u2⟩ := shs_all (d := d + 3) (L := lkA) (by decide +kernel) s1
  obtain ⟨N3, e3, s3, u3, -, h1, h2⟩ := g59_n (d := d) s2
  refine ⟨N3, ?_, s3, fun t ht => by rw [u3 _ _ (by omega)]; exact u2 t ht, h1, h2⟩
  rw [e1, e2, q112_154, if_pos (by decide +kernel), if_pos (oO s2.1 (by decide +kernel)), cn_r s2 (r := 1) (k := 4) (v := 126) (by decide +kernel) (by decide +kernel), if_pos (oO s2.1 (by decide +kernel)), e3, bV_s]
