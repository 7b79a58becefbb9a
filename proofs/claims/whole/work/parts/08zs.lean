/-! ===== sayings: the model, brackets, the whole ===== -/
theorem MS_bad {s p k : Nat} {T : Tp} {M N : Mm} {V P : List Nat} {F G x y : Int32} (h : MS T s M N p k V P F G) : MS T s M (sI (sI N 171 28 x) 171 29 y) p k V P x y := by
  obtain ⟨h0, h1, h2, h3, h4, h5, h6, h7, h8, h9⟩ := h
  have ne : ∀ r k, ¬ (r = 171 ∧ (k = 28 ∨ k = 29)) → gI (sI (sI N 171 28 x) 171 29 y) r k = gI N r k := fun r k a => by rw [gI_ne (by omega), gI_ne (by omega)]
  refine ⟨Sm_trans h0 (Sm_trans (Sm_sI (by unfold Sv; omega)) (Sm_sI (by unfold Sv; omega))), ?_, ?_, gI_at, ?_, ?_, fun i hi => ?_, ?_, fun i hi => ?_, ?_⟩
  · unfold TkM at h1 ⊢
    rw [ne _ _ (by omega), ne _ _ (by omega), ne _ _ (by omega), ne _ _ (by omega)]; exact h1
  · rw [gI_ne (by omega), gI_at]
  · rw [ne _ _ (by omega)]; exact h4
  · rw [ne _ _ (by omega)]; exact h5
  · rw [ne _ _ (by omega)]; exact h6 i hi
  · rw [ne _ _ (by omega)]; exact h7
  · rw [ne _ _ (by omega)]; exact h8 i hi
  · rw [ne _ _ (by omega)]; exact h9
theorem MS_drop {s p k t : Nat} {T : Tp} {M N : Mm} {V P : List Nat} {F G : Int32} (h : MS T s M N p k (V ++ [t]) P F G) : MS T s M (sI (sI N 171 34 (nI V.length)) 171 35 (nI (cntV V))) p k V P F G := by
  obtain ⟨h0, h1, h2, h3, h4, h5, h6, h7, h8, h9⟩ := h
  have ne : ∀ r k, ¬ (r = 171 ∧ (k = 34 ∨ k = 35)) → gI (sI (sI N 171 34 (nI V.length)) 171 35 (nI (cntV V))) r k = gI N r k := fun r k a => by rw [gI_ne (by omega), gI_ne (by omega)]
  refine ⟨Sm_trans h0 (Sm_trans (Sm_sI (by unfold Sv; omega)) (Sm_sI (by unfold Sv; omega))), ?_, ?_, ?_, ?_, gI_at, fun i hi => ?_, ?_, fun i hi => ?_, ?_⟩
  · unfold TkM at h1 ⊢
    rw [ne _ _ (by omega), ne _ _ (by omega), ne _ _ (by omega), ne _ _ (by omega)]; exact h1
  · rw [ne _ _ (by omega)]; exact h2
  · rw [ne _ _ (by omega)]; exact h3
  · rw [gI_ne (by omega), gI_at]
  · rw [ne _ _ (by omega), h6 i (by rw [len_s]; omega), getD_l hi]
  · rw [ne _ _ (by omega)]; exact h7
  · rw [ne _ _ (by omega)]; exact h8 i hi
  · rw [ne _ _ (by omega)]; exact h9
theorem m_must0' {d p : Nat} {M : Mm} {T : Tp} (hG : Gd M) (h : TkM M T p) (h0 : gI M 171 28 = 0) : go (d + 3) 168 0 [.ref 171, .int (0 : Int32)] [] M = some (none, sI (sI M 171 28 1) 171 29 (nI (tkS T p))) := by
  have o := ok_171 hG
  have b := m_bad (d := d + 1) (x := 1) hG h0 h.1
  have g : gI (sI (sI M 171 28 1) 171 29 (nI (tkS T p))) 171 28 = 1 := by rw [gI_ne (by omega), gI_at]
  rw [q168_0, if_pos rfl, if_pos o, b, bV_s, okO_sI, okO_sI, if_pos o, g, if_neg (by decide)]
/-- behind a saying in brackets -/
theorem m_close {d mk s p k j : Nat} {M N : Mm} {T : Tp} {V0 pend P c0 c : List Nat} {G : Int32} {v4 : Value} (hX : MX M T mk s) (h : MS T s M N p k ((V0 ++ List.replicate j 12) ++ [13] ++ pend) (P ++ c0) 0 G) (hp : p ≤ T.1) (hcc : c0 ++ pend.reverse = c) (hpd : ∀ t, t ∈ pend → t = 10 ∨ t = 11) (hpl : pend.length ≤ 2) (h7 : ¬ tkW T p = tx 7) (h8 : ¬ tkW T p = tx 8) (hst : StopV 12 V0) (hl : (V0 ++ List.replicate j 12).length ≤ 20) (hc : cntV (V0 ++ List.replicate j 12) ≤ 5) (hP : (P ++ c).length + j < 100) : (tkG T p 41 = true → ∃ N' v, go (d + 5) 178 28 [.ref 171, .int (nI s), .int (0 : Int32), .int (1 : Int32), v4] [] N = go (d + 5) 178 28 [.ref 171, .int (nI s), .int (0 : Int32), .int (1 : Int32), v] [] N' ∧ MS T s M N' (tkE T p) k V0 (P ++ c ++ List.replicate j 12) 0 G) ∧ (tkG T p 41 = false → ∃ N', go (d + 5) 178 28 [.ref 171, .int (nI s), .int (0 : Int32), .int (1 : Int32), v4] [] N = some (none, N') ∧ Sm (Sv s) NoL M N' ∧ FtM N' 1 (tkS T p)) := by
  obtain ⟨q1, q3⟩ := pend11 hpd
  have hcl : c.length = c0.length + pend.length := by rw [← hcc]; simp
  rw [List.length_append] at hP
  have hsb := tkS_b T hp
  have hn := hX.2.1.1
  obtain ⟨N1, a1, a2⟩ := m_come (d := d + 2) (x := 11) hX (by omega) (V := (V0 ++ List.replicate j 12) ++ [13]) (Or.inr ⟨_, 13, rfl, by omega, by omega, rfl⟩) pend.length pend (P ++ c0) N rfl q1 (by rw [List.length_append, len_s]; omega) (by rw [List.length_append]; omega) (by rw [cntV_app, cntV_s, if_pos (by omega)]; omega) h
  rw [List.append_assoc P c0, hcc] at a2
  have a1' : go (d + 4) 176 0 [.ref 171, .int (nI s), .int ((-2) : Int32)] [] N = some (none, N1) := a1
  obtain ⟨hG1, hT1, hm1, hmk, hs⟩ := MX_S hX a2.1
  have o1 := ok_171 hG1
  have e34 : gI N1 171 34 = nI ((V0 ++ List.replicate j 12).length + 1) := by rw [← len_s _ 13]; exact a2.2.2.2.2.1
  have ig : go (d + 4) 169 0 [.ref 171, .int (41 : Int32)] [] N1 = some (some (.int (b2i (tkG T p 41))), N1) := m_is (d := d + 2) (ch := 41) hG1 hT1 hp a2.2.1 (by omega)
  have st : go (d + 5) 178 28 [.ref 171, .int (nI s), .int (0 : Int32), .int (1 : Int32), v4] [] N = bV (go (d + 4) 168 0 [.ref 171, .int (b2i (tkG T p 41))] [] N1) fun M3 => if okO M3 171 12 = true then if okO M3 171 12 = true then bM (sI M3 171 34 ((gI M3 171 34) - (1 : Int32))) fun M4 => if okO M4 171 12 = true then if okO M4 171 12 = true then bM (sI M4 171 35 ((gI M4 171 35) - (1 : Int32))) fun M5 => if okO M5 171 12 = true then bV (go (d + 4) 176 0 [.ref 171, .int (nI s), .int ((-3) : Int32)] [] M5) fun M6 => go (d + 5) 178 28 [.ref 171, .int (nI s), .int (0 : Int32), .int (1 : Int32), v4] [] M6 else none else none else none else none else none := by
    rw [eq28_0 hX h hp, if_neg h7, if_neg h8, a1', bV_s, if_pos o1, e34, if_neg (by rw [show (0 : Int32) = nI 0 from rfl, nI_leI (by omega) (by omega)]; omega), q178_277, if_neg (by decide), if_pos o1, ig, bI_s, if_pos o1]
  -- behind must: the bracket goes, the nots behind it
  have tail : ∀ (N3 : Mm) (F G' : Int32) (p' : Nat), MS T s M N3 p' k ((V0 ++ List.replicate j 12) ++ [13]) (P ++ c) F G' → ∃ N6, (if okO N3 171 12 = true then if okO N3 171 12 = true then bM (sI N3 171 34 ((gI N3 171 34) - (1 : Int32))) fun M4 => if okO M4 171 12 = true then if okO M4 171 12 = true then bM (sI M4 171 35 ((gI M4 171 35) - (1 : Int32))) fun M5 => if okO M5 171 12 = true then bV (go (d + 4) 176 0 [.ref 171, .int (nI s), .int ((-3) : Int32)] [] M5) fun M6 => go (d + 5) 178 28 [.ref 171, .int (nI s), .int (0 : Int32), .int (1 : Int32), v4] [] M6 else none else none else none else none else none) = go (d + 5) 178 28 [.ref 171, .int (nI s), .int (0 : Int32), .int (1 : Int32), v4] [] N6 ∧ MS T s M N6 p' k V0 (P ++ c ++ List.replicate j 12) F G' := fun N3 F G' p' h3 => by
    obtain ⟨hG3, -⟩ := MX_S hX h3.1
    have o3 := ok_171 hG3
    have hd := MS_drop h3
    obtain ⟨N6, r1, r2⟩ := m_come (d := d + 2) (x := 12) hX (by omega) hst j (List.replicate j 12) (P ++ c) _ (by simp) (fun t ht => by rw [List.eq_of_mem_replicate ht]; exact ⟨by omega, by omega, rfl⟩) (by omega) (by rw [List.length_append]; simp; omega) (by omega) hd
    rw [List.reverse_replicate] at r2
    refine ⟨N6, ?_, r2⟩
    have g34 : gI N3 171 34 - (1 : Int32) = nI (V0 ++ List.replicate j 12).length := by
      have : gI N3 171 34 = nI ((V0 ++ List.replicate j 12).length + 1) := by rw [← len_s _ 13]; exact h3.2.2.2.2.1
      rw [this, nI_pred]
    have g35 : gI (sI N3 171 34 (nI (V0 ++ List.replicate j 12).length)) 171 35 - (1 : Int32) = nI (cntV (V0 ++ List.replicate j 12)) := by
      rw [gI_ne (by omega), h3.2.2.2.2.2.1, cntV_s, if_pos (by omega), nI_pred]
    have r1' : go (d + 4) 176 0 [.ref 171, .int (nI s), .int ((-3) : Int32)] [] (sI (sI N3 171 34 (nI (V0 ++ List.replicate j 12).length)) 171 35 (nI (cntV (V0 ++ List.replicate j 12)))) = some (none, N6) := r1
    rw [if_pos o3, if_pos o3, g34, bM_d, okO_sI, if_pos o3, if_pos o3, g35, bM_d, okO_sI, okO_sI, if_pos o3, r1', bV_s]
  constructor
  · intro h41
    rw [h41] at st
    obtain ⟨N3, c1, c2, c3, c4⟩ := m_must1 (d := d + 1) hG1 hT1 hp a2.2.1 a2.2.2.1
    obtain ⟨N6, t1, t2⟩ := tail N3 0 G (tkE T p) (MS_tk a2 c2 c3)
    refine ⟨N6, v4, ?_, t2⟩
    have c1' : go (d + 4) 168 0 [.ref 171, .int (b2i true)] [] N1 = some (none, N3) := c1
    rw [st, c1', bV_s]
    exact t1
  · intro h41
    rw [h41] at st
    have b := m_must0' (d := d + 1) hG1 a2.2.1 a2.2.2.1
    have b' : go (d + 4) 168 0 [.ref 171, .int (b2i false)] [] N1 = some (none, sI (sI N1 171 28 1) 171 29 (nI (tkS T p))) := b
    obtain ⟨N6, t1, t2⟩ := tail _ 1 (nI (tkS T p)) p (MS_bad (x := 1) (y := nI (tkS T p)) a2)
    obtain ⟨hG6, -⟩ := MX_S hX t2.1
    have ft : FtM N6 1 (tkS T p) := ⟨t2.2.2.1, t2.2.2.2.1, by omega, by omega, by omega⟩
    refine ⟨N6, ?_, t2.1, ft⟩
    rw [st, b', bV_s]
    exact t1.trans (eq28_F hG6 (FtM_n ft))
theorem m_atom {d mk s : Nat} {M : Mm} {T : Tp} {G : Int32} (hX : MX M T mk s) : ∀ (m : Nat), m ≤ 5 → ∀ (p k : Nat) (V0 : List Nat) (j : Nat) (P : List Nat) (N : Mm) (v4 : Value), MS T s M N p k (V0 ++ List.replicate j 12) P 0 G → StopV 12 V0 → cntV (V0 ++ List.replicate j 12) = 5 - m → (V0 ++ List.replicate j 12).length ≤ 3 * (5 - m) + 2 → P.length ≤ 7 * k → p ≤ T.1 → 1 ≤ p → k ≤ 12 → MO d s M (go (d + 5) 178 28 [.ref 171, .int (nI s), .int (1 : Int32), .int (1 : Int32), v4] [] N) (atF T mk m p k) (fun p' k' c N' => MS T s M N' p' k' V0 (P ++ c ++ List.replicate j 12) 0 G) := by
  have hmk := hX.2.2.2.1
  intro m
  induction m with
  | zero =>
    intro hm p k V0 j P N v4 h hst hc hl hP hp hp1 hk
    have hj : j ≤ 5 := by rw [cntV_app, cntV_rep] at hc; omega
    have e := eq28_1 (d := d) (v4 := v4) hX h hp
    rw [atF]
    by_cases h6 : tkW T p = tx 6
    · rw [if_pos (Or.inl h6)]
      rw [if_pos h6] at e
      obtain ⟨N', a1, a2, a3⟩ := m_goIn5 (d := d) (x := wtI 12) hX h hp hc
      have hG' := (MX_S hX a2).1
      exact ⟨N', by rw [e, a1, bV_s, eq28_F hG' (FtM_n a3)], a2, a3⟩
    · rw [if_neg h6] at e
      by_cases h40 : tkG T p 40 = true
      · rw [if_pos (Or.inr h40)]
        rw [if_pos h40] at e
        obtain ⟨N', a1, a2, a3⟩ := m_goIn5 (d := d) (x := wtI 13) hX h hp hc
        have hG' := (MX_S hX a2).1
        exact ⟨N', by rw [e, a1, bV_s, eq28_F hG' (FtM_n a3)], a2, a3⟩
      · rw [if_neg (fun z => z.elim h6 h40)]
        rw [if_neg h40] at e
        rw [e]
        exact m_operand hX h hp hk hst (by omega) hj (by omega) hP
  | succ m ih =>
    intro hm p k V0 j P N v4 h hst hc hl hP hp hp1 hk
    have hj : j ≤ 5 - (m + 1) := by rw [cntV_app, cntV_rep] at hc; omega
    have e := eq28_1 (d := d) (v4 := v4) hX h hp
    rw [atF]
    by_cases h6 : tkW T p = tx 6
    · rw [if_pos h6] at e ⊢
      have ge := tkE_gt hp (by rw [tkW_k h6 (by omega)]; omega)
      obtain ⟨N1, a1, a2⟩ := m_goIn (d := d) (t := 12) hX h hp (by omega) (by omega) (by omega)
      have er : V0 ++ List.replicate j 12 ++ [12] = V0 ++ List.replicate (j + 1) 12 := by rw [List.append_assoc, ← List.replicate_succ']
      have hl' := hl
      have hc' := hc
      rw [er] at a2
      have hat := ih (by omega) (tkE T p) k V0 (j + 1) P N1 v4 a2 hst (by rw [← er, cntV_s, if_pos (by omega)]; omega) (by rw [← er, len_s]; omega) hP ge.2 (by omega) hk
      rw [e, a1, bV_s]
      cases hr : atF T mk m (tkE T p) k with
      | inl x =>
        obtain ⟨fl, pl⟩ := x
        rw [hr] at hat
        exact hat
      | inr x =>
        obtain ⟨p2, k2, c⟩ := x
        rw [hr] at hat
        obtain ⟨N2, v, b1, b2⟩ := hat
        refine ⟨N2, v, b1, ?_⟩
        rw [List.replicate_succ] at b2
        simpa using b2
    · rw [if_neg h6] at e ⊢
      by_cases h40 : tkG T p 40 = true
      · rw [if_pos h40] at e ⊢
        have ge := tkE_gt hp (by rw [tkG_k h40]; omega)
        obtain ⟨N1, a1, a2⟩ := m_goIn (d := d) (t := 13) hX h hp (by omega) (by omega) (by omega)
        have hsy := m_saying (d := d) (m := m) (G := G) (by omega) hX (fun p k V P N v4 h hst hc hl hP hp hp1 hk => m_part (by omega) hX (ih (by omega)) p k V P N v4 h hst hc hl hP hp hp1 hk) (tkE T p) k (V0 ++ List.replicate j 12 ++ [13]) P N1 v4 a2 (Or.inr ⟨_, 13, rfl, by omega, by omega, rfl⟩) (by rw [cntV_s, if_pos (by omega)]; omega) (by rw [len_s]; omega) hP ge.2 (by omega) hk
        have hok := sa_ok (T := T) hmk m (tkE T p) k ge.2 hk
        unfold saF at hok
        rw [e, a1, bV_s]
        cases hr : seqF T (seqF T (atF T mk m) 7 10) 8 11 (tkE T p) k with
        | inl x =>
          obtain ⟨fl, pl⟩ := x
          rw [hr] at hsy
          exact hsy
        | inr x =>
          obtain ⟨p2, k2, c⟩ := x
          rw [hr] at hsy hok
          obtain ⟨N2, v, b1, pd, c0, b2, b3, b4, b5, b6, b7⟩ := hsy
          obtain ⟨s1, s2, s3, s4, s5, s6⟩ := hok
          have hlen := len7 (by omega) s5 s3 hP
          obtain ⟨cl1, cl2⟩ := m_close (d := d) (v4 := v) hX b2 s2 b3 b4 b5 b6 b7 hst (by omega) (by omega) (by rw [List.length_append]; omega)
          rw [b1]
          by_cases h41 : tkG T p2 41 = true
          · simp only [if_pos h41]
            exact cl1 h41
          · simp only [if_neg h41]
            exact cl2 (by simpa using h41)
      · rw [if_neg h40] at e ⊢
        rw [e]
        exact m_operand hX h hp hk hst (by omega) (by omega) (by omega) hP
/-- a whole saying -/
theorem m_readSaying {d mk s p : Nat} {M : Mm} {T : Tp} {G : Int32} (hX : MX M T mk s) (hp : p ≤ T.1) (hp1 : 1 ≤ p) (h : TkM M T p) (h28 : gI M 171 28 = 0) (h29 : gI M 171 29 = G) : ∃ N, go (d + 5) 178 0 [.ref 171, .int (nI s), .null, .null, .null] [] M = some (none, N) ∧ Sm (Sv s) NoL M N ∧ (match saF T mk 5 p 0 with
    | .inl (f, pl) => FtM N f pl
    | .inr (p', k', c) => MS T s M N p' k' [] c 0 G) := by
  obtain ⟨hG, hT, hm, hmk, hs⟩ := id hX
  have o := ok_171 hG
  have hG1 : Gd (sI M 185 s 0) := hG
  have hG2 : Gd (sI (sI M 185 s 0) 186 s 0) := hG
  have ne : ∀ r k, ¬ (r = 185 ∧ k = s) → ¬ (r = 186 ∧ k = s) → ¬ (r = 171 ∧ (k = 34 ∨ k = 35)) → gI (sI (sI (sI (sI M 185 s 0) 186 s 0) 171 34 0) 171 35 0) r k = gI M r k := fun r k a b c => by
    rw [gI_ne (by omega), gI_ne (by omega), gI_ne b, gI_ne a]
  have hM0 : MS T s M (sI (sI (sI (sI M 185 s 0) 186 s 0) 171 34 0) 171 35 0) p 0 [] [] 0 G := by
    refine ⟨Sm_trans (Sm_sI (by unfold Sv; omega)) (Sm_trans (Sm_sI (by unfold Sv; omega)) (Sm_trans (Sm_sI (by unfold Sv; omega)) (Sm_sI (by unfold Sv; omega)))), ?_, ?_, ?_, ?_, gI_at, fun i hi => (by cases hi), ?_, fun i hi => (by cases hi), ?_⟩
    · unfold TkM at h ⊢
      rw [ne _ _ (by omega) (by omega) (by omega), ne _ _ (by omega) (by omega) (by omega), ne _ _ (by omega) (by omega) (by omega), ne _ _ (by omega) (by omega) (by omega)]; exact h
    · rw [ne _ _ (by omega) (by omega) (by omega)]; exact h28
    · rw [ne _ _ (by omega) (by omega) (by omega)]; exact h29
    · rw [gI_ne (by omega), gI_at]; rfl
    · rw [gI_ne (by omega), gI_ne (by omega), gI_ne (by omega), gI_at]; rfl
    · rw [gI_ne (by omega), gI_ne (by omega), gI_at]; rfl
  have st : go (d + 5) 178 0 [.ref 171, .int (nI s), .null, .null, .null] [] M = go (d + 5) 178 28 [.ref 171, .int (nI s), .int (1 : Int32), .int (1 : Int32), .null] [] (sI (sI (sI (sI M 185 s 0) 186 s 0) 171 34 0) 171 35 0) := by
    rw [q178_0, if_pos o, gr_171_18 hG, if_pos (wk_185 hG hs), bM_d, nI_clamp (by omega), if_pos (ok_171 hG1), gr_171_19 hG1, if_pos (wk_186 hG1 hs), bM_d, if_pos (ok_171 hG2), bM_d, okO_sI, if_pos (ok_171 hG2), bM_d]
  have hsy := m_saying (d := d) (m := 5) (G := G) (by omega) hX (fun p k V P N v4 h hst hc hl hP hp hp1 hk => m_part (by omega) hX (m_atom hX 5 (by omega)) p k V P N v4 h hst hc hl hP hp hp1 hk) p 0 [] [] _ .null hM0 (Or.inl rfl) rfl (by simp) (by simp) hp hp1 (by omega)
  have hok := sa_ok (T := T) hmk 5 p 0 hp (by omega)
  rw [st]
  unfold saF at hok ⊢
  cases hr : seqF T (seqF T (atF T mk 5) 7 10) 8 11 p 0 with
  | inl x =>
    obtain ⟨fl, pl⟩ := x
    rw [hr] at hsy
    obtain ⟨N', b1, b2, b3⟩ := hsy
    exact ⟨N', b1, b2, b3⟩
  | inr x =>
    obtain ⟨p2, k2, c⟩ := x
    rw [hr] at hsy hok
    obtain ⟨N2, v, b1, pd, c0, b2, b3, b4, b5, b6, b7⟩ := hsy
    obtain ⟨s1, s2, s3, s4, s5, s6⟩ := hok
    rw [List.nil_append, List.nil_append] at b2
    obtain ⟨q1, q3⟩ := pend11 b4
    have hcl : c.length = c0.length + pd.length := by rw [← b3]; simp
    have hlen := len7 (q := 0) (by omega) s5 s3 (by omega)
    obtain ⟨N3, a1, a2⟩ := m_come (d := d + 2) (x := 11) hX (by omega) (V := []) (Or.inl rfl) pd.length pd c0 N2 rfl q1 (by simp; omega) (by omega) (by simp; omega) (by simpa using b2)
    rw [b3] at a2
    have a1' : go (d + 4) 176 0 [.ref 171, .int (nI s), .int ((-2) : Int32)] [] N2 = some (none, N3) := a1
    obtain ⟨hG3, -⟩ := MX_S hX a2.1
    have o3 := ok_171 hG3
    refine ⟨N3, ?_, a2.1, a2⟩
    rw [b1, eq28_0 hX b2 s2, if_neg b6, if_neg b7, a1', bV_s, if_pos o3, a2.2.2.2.2.1, if_pos (by decide), q178_277, if_pos rfl, q178_28, if_pos o3, a2.2.2.1, if_pos rfl, if_pos rfl]
