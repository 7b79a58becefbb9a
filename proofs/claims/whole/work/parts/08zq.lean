/-! ===== sayings: the model's way through one ===== -/
theorem MS_tk {s p p' k : Nat} {T : Tp} {M N N' : Mm} {V P : List Nat} {F G : Int32} (h : MS T s M N p k V P F G) (hS : Sm Sd NoL N N') (ht : TkM N' T p') : MS T s M N' p' k V P F G := by
  obtain ⟨h0, h1, h2, h3, h4, h5, h6, h7, h8, h9⟩ := h
  have ne : ∀ r k, ¬ (r = 171 ∧ 24 ≤ k ∧ k ≤ 27) → gI N' r k = gI N r k := fun r k a => hS.2.2.1 r k a
  refine ⟨Sm_trans h0 (Sm_mono (fun r k z => by unfold Sd at z; unfold Sv; omega) (fun r z => z) hS), ht, ?_, ?_, ?_, ?_, fun i hi => ?_, ?_, fun i hi => ?_, ?_⟩
  · rw [ne _ _ (by omega)]; exact h2
  · rw [ne _ _ (by omega)]; exact h3
  · rw [ne _ _ (by omega)]; exact h4
  · rw [ne _ _ (by omega)]; exact h5
  · rw [ne _ _ (by omega)]; exact h6 i hi
  · rw [ne _ _ (by omega)]; exact h7
  · rw [ne _ _ (by omega)]; exact h8 i hi
  · rw [ne _ _ (by omega)]; exact h9
theorem m_push {d mk s p k t : Nat} {M N : Mm} {T : Tp} {V P : List Nat} {F G y : Int32} (hX : MX M T mk s) (h : MS T s M N p k V P F G) (hl : V.length < 40) (hy : y = nI (cntV (V ++ [t]))) : ∃ N', go (d + 1) 174 0 [.ref 171, .int (wtI t)] [] (sI N 171 35 y) = some (none, N') ∧ MS T s M N' p k (V ++ [t]) P F G := by
  obtain ⟨hS, h1, h2, h3, h4, h5, h6, h7, h8, h9⟩ := h
  obtain ⟨hG, hT, hm, hmk, hs⟩ := MX_S hX hS
  have hG0 : Gd (sI N 171 35 y) := hG
  have o := ok_171 hG0
  have hG1 : Gd (sI (sI N 171 35 y) 188 V.length (wtI t)) := hG
  have g0 : gI (sI N 171 35 y) 171 34 = nI V.length := (gI_ne (by omega)).trans h4
  have g4 : gI (sI (sI N 171 35 y) 188 V.length (wtI t)) 171 34 = nI V.length := (gI_ne (by omega)).trans g0
  have ne : ∀ r k, ¬ (r = 188 ∧ k = V.length) → ¬ (r = 171 ∧ (k = 34 ∨ k = 35)) → gI (sI (sI (sI N 171 35 y) 188 V.length (wtI t)) 171 34 (nI (V.length + 1))) r k = gI N r k := fun r k a b => by rw [gI_ne (by omega), gI_ne a, gI_ne (by omega)]
  refine ⟨sI (sI (sI N 171 35 y) 188 V.length (wtI t)) 171 34 (nI (V.length + 1)), ?_, Sm_trans hS (Sm_trans (Sm_sI (by unfold Sv; omega)) (Sm_trans (Sm_sI (by unfold Sv; omega)) (Sm_sI (by unfold Sv; omega)))), ?_, ?_, ?_, ?_, ?_, fun i hi => ?_, ?_, fun i hi => ?_, ?_⟩
  · rw [q174_0, if_pos o, if_pos o, gr_171_33 hG0, g0, if_pos (wk_188 hG0 hl), bM_d, nI_clamp (by omega), if_pos (ok_171 hG1), if_pos (ok_171 hG1), bM_d, g4, nI_1]
  · unfold TkM at h1 ⊢
    rw [ne _ _ (by omega) (by omega), ne _ _ (by omega) (by omega), ne _ _ (by omega) (by omega), ne _ _ (by omega) (by omega)]; exact h1
  · rw [ne _ _ (by omega) (by omega)]; exact h2
  · rw [ne _ _ (by omega) (by omega)]; exact h3
  · rw [gI_at, len_s]
  · rw [gI_ne (by omega), gI_ne (by omega), gI_at]; exact hy
  · rw [len_s] at hi
    rw [gI_ne (by omega), gI_sI]
    by_cases e : i = V.length
    · subst e; rw [if_pos ⟨rfl, rfl⟩, getD_e]
    · rw [if_neg (fun z => e z.2), gI_ne (by omega), h6 i (by omega), getD_l (by omega)]
  · rw [ne _ _ (by omega) (by omega)]; exact h7
  · rw [ne _ _ (by omega) (by omega)]; exact h8 i hi
  · rw [ne _ _ (by omega) (by omega)]; exact h9
/-- not, a bracket: with no room -/
theorem m_goIn5 {d mk s p k : Nat} {M N : Mm} {T : Tp} {V P : List Nat} {G x : Int32} (hX : MX M T mk s) (h : MS T s M N p k V P 0 G) (hp : p ≤ T.1) (hc : cntV V = 5) : ∃ N', go (d + 4) 177 0 [.ref 171, .int x] [] N = some (none, N') ∧ Sm (Sv s) NoL M N' ∧ FtM N' 3 (tkS T p) := by
  obtain ⟨hS, h1, h2, h3, h4, h5, h6, h7, h8, h9⟩ := h
  obtain ⟨hG, hT, hm, hmk, hs⟩ := MX_S hX hS
  have o := ok_171 hG
  have hn := hT.1
  have hsb := tkS_b T hp
  have b := m_bad (d := d + 2) (x := 3) hG h2 h1.1
  have hG4 : Gd (sI (sI N 171 28 3) 171 29 (nI (tkS T p))) := hG
  have g28 : gI (sI (sI N 171 28 3) 171 29 (nI (tkS T p))) 171 28 = 3 := by rw [gI_ne (by omega), gI_at]
  have mf : go (d + 3) 168 0 [.ref 171, .int (1 : Int32)] [] (sI (sI N 171 28 3) 171 29 (nI (tkS T p))) = some (none, sI (sI N 171 28 3) 171 29 (nI (tkS T p))) := m_mustF (d := d) (b := true) hG4 (by rw [g28]; decide)
  refine ⟨sI (sI N 171 28 3) 171 29 (nI (tkS T p)), ?_, Sm_trans hS (Sm_trans (Sm_sI (by unfold Sv; omega)) (Sm_sI (by unfold Sv; omega))), g28, gI_at, by omega, by omega, by omega⟩
  rw [q177_0, if_pos o, h5, hc, if_pos (by rfl), if_pos o, b, bV_s, if_pos (ok_171 hG4), mf, bV_s, if_pos (ok_171 hG4), g28, if_neg (by decide)]
theorem m_goIn {d mk s p k t : Nat} {M N : Mm} {T : Tp} {V P : List Nat} {G : Int32} (hX : MX M T mk s) (h : MS T s M N p k V P 0 G) (hp : p ≤ T.1) (hc : cntV V < 5) (hl : V.length < 40) (ht : 12 ≤ t) : ∃ N', go (d + 4) 177 0 [.ref 171, .int (wtI t)] [] N = some (none, N') ∧ MS T s M N' (tkE T p) k (V ++ [t]) P 0 G := by
  obtain ⟨hG, hT, hm, hmk, hs⟩ := MX_S hX h.1
  have o := ok_171 hG
  have h5 := h.2.2.2.2.2.1
  obtain ⟨N1, a1, a2, a3, a4⟩ := m_must1 (d := d) hG hT hp h.2.1 h.2.2.1
  have h1 := MS_tk h a2 a3
  obtain ⟨hG1, -⟩ := MX_S hX h1.1
  have e35 : gI N1 171 35 = nI (cntV V) := h1.2.2.2.2.2.1
  obtain ⟨N', b1, b2⟩ := m_push (d := d + 2) (t := t) (y := nI (cntV V + 1)) hX h1 hl (by rw [cntV_s, if_pos ht])
  refine ⟨N', ?_, b2⟩
  rw [q177_0, if_pos o, h5, if_neg (by rw [show (5 : Int32) = nI 5 from rfl, nI_eq (by omega) (by omega)]; omega), if_pos o, a1, bV_s, if_pos (ok_171 hG1), a4, if_pos rfl, if_pos (ok_171 hG1), if_pos (ok_171 hG1), e35, bM_d, nI_1, okO_sI, if_pos (ok_171 hG1), b1, bV_s]
theorem eq28_F {d : Nat} {N : Mm} {x1 x2 x3 : Int32} {v4 : Value} (hG : Gd N) (h : gI N 171 28 ≠ 0) : go (d + 5) 178 28 [.ref 171, .int x1, .int x2, .int x3, v4] [] N = some (none, N) := by
  rw [q178_28, if_pos (ok_171 hG), if_neg h]
def StopV (x : Nat) (V : List Nat) : Prop := V = [] ∨ ∃ V' t, V = V' ++ [t] ∧ 10 ≤ t ∧ t ≤ 13 ∧ pops x t = false
theorem StopV_12 {x : Nat} {V : List Nat} (h : StopV x V) : StopV 12 V := by
  rcases h with h | ⟨V', t, h1, h2, h3, h4⟩
  · exact Or.inl h
  · refine Or.inr ⟨V', t, h1, h2, h3, ?_⟩
    unfold pops at h4 ⊢
    by_cases a : t = 13 <;> by_cases b : t = 12 <;> simp [a, b] at h4 ⊢
theorem StopV_10 {V : List Nat} (h : StopV 11 V) : StopV 10 V := by
  rcases h with h | ⟨V', t, h1, h2, h3, h4⟩
  · exact Or.inl h
  · refine Or.inr ⟨V', t, h1, h2, h3, ?_⟩
    unfold pops at h4 ⊢
    by_cases a : t = 13 <;> simp [a] at h4 ⊢
theorem cntV_app (V W : List Nat) : cntV (V ++ W) = cntV V + cntV W := by unfold cntV; rw [List.filter_append, List.length_append]
theorem cntV_rep (j : Nat) : cntV (List.replicate j 12) = j := by
  unfold cntV
  rw [List.filter_eq_self.mpr (fun t ht => by rw [List.eq_of_mem_replicate ht]; decide)]
  simp
/-- what comes of reading, in the model -/
def MO (d s : Nat) (M : Mm) (start : Oo) (r : Rr) (fin : Nat → Nat → List Nat → Mm → Prop) : Prop := match r with
  | .inl (f, pl) => ∃ N', start = some (none, N') ∧ Sm (Sv s) NoL M N' ∧ FtM N' f pl
  | .inr (p', k', c) => ∃ N' v4, start = go (d + 5) 178 28 [.ref 171, .int (nI s), .int (0 : Int32), .int (1 : Int32), v4] [] N' ∧ fin p' k' c N'
theorem tokm {t : Nat} (h : t < 10) : tok t = nI t := by unfold tok; rw [if_pos h]
/-- a mark -/
theorem m_operand {d mk s p k j : Nat} {M N : Mm} {T : Tp} {V0 P : List Nat} {G : Int32} {v4 : Value} (hX : MX M T mk s) (h : MS T s M N p k (V0 ++ List.replicate j 12) P 0 G) (hp : p ≤ T.1) (hk : k ≤ 12) (hst : StopV 12 V0) (hl : (V0 ++ List.replicate j 12).length < 39) (hj : j ≤ 5) (hc : cntV (V0 ++ List.replicate j 12) ≤ 5) (hP : P.length ≤ 7 * k) : MO d s M (go (d + 5) 178 85 [.ref 171, .int (nI s), .int (1 : Int32), .int (1 : Int32), v4] [] N) (markF T mk p k) (fun p' k' c N' => MS T s M N' p' k' V0 (P ++ c ++ List.replicate j 12) 0 G) := by
  obtain ⟨hG, hT, hm, hmk, hs⟩ := MX_S hX h.1
  obtain ⟨hS, h1, h2, h3, h4, h5, h6, h7, h8, h9⟩ := id h
  have o := ok_171 hG
  have hn := hT.1
  have hsb := tkS_b T hp
  have k25 := h1.2.2.2
  have nu := m_number (d := d + 3) hG hT hp h1
  have e3 : nI (mkd (tkK T p)) = (3 : Int32) ↔ tkK T p = 2 := em3
  have lt0 := tkN0_lt T p
  have em : nI (tkN0 T p) < nI mk ↔ tkN0 T p < mk := nI_ltI (by omega) (by omega)
  -- a fault once: it goes through
  have fault : ∀ (x : Int32) (f : Nat), x = nI f → 1 ≤ f → f ≤ 3 → ∃ N', N' = sI (sI N 171 28 x) 171 29 (nI (tkS T p)) ∧ Gd N' ∧ gI N' 171 28 ≠ 0 ∧ gI N' 171 25 = nI (mkd (tkK T p)) ∧ gI N' 186 s = nI k ∧ Sm (Sv s) NoL M N' ∧ FtM N' f (tkS T p) := fun x f hx hf1 hf3 => by
    have g28 : gI (sI (sI N 171 28 x) 171 29 (nI (tkS T p))) 171 28 = x := by rw [gI_ne (by omega), gI_at]
    have hft : FtM (sI (sI N 171 28 x) 171 29 (nI (tkS T p))) f (tkS T p) := ⟨by rw [g28]; exact hx, gI_at, hf1, hf3, by omega⟩
    exact ⟨_, rfl, hG, FtM_n hft, by rw [gI_ne (by omega), gI_ne (by omega)]; exact k25, by rw [gI_ne (by omega), gI_ne (by omega)]; exact h9, Sm_trans hS (Sm_trans (Sm_sI (by unfold Sv; omega)) (Sm_sI (by unfold Sv; omega))), hft⟩
  have go141 : ∀ (N' : Mm), Gd N' → gI N' 171 28 ≠ 0 → gI N' 171 25 = nI (mkd (tkK T p)) → go (d + 5) 178 141 [.ref 171, .int (nI s), .int (1 : Int32), .int (1 : Int32), .int (nI (tkN0 T p))] [] N' = some (none, N') := fun N' a b c => by
    have mt : go (d + 4) 168 0 [.ref 171, .int (1 : Int32)] [] N' = some (none, N') := m_mustF (d := d + 1) (b := true) a b
    have mf : go (d + 4) 168 0 [.ref 171, .int (0 : Int32)] [] N' = some (none, N') := m_mustF (d := d + 1) (b := false) a b
    rw [q178_141, if_pos (ok_171 a), c]
    by_cases z : tkK T p = 2
    · rw [if_pos (e3.mpr z), if_pos (ok_171 a), mt, bV_s, if_pos (ok_171 a), if_neg b, eq28_F a b]
    · rw [if_neg (fun y => z (e3.mp y)), if_pos (ok_171 a), mf, bV_s, if_pos (ok_171 a), if_neg b, eq28_F a b]
  unfold markF
  by_cases hk2 : tkK T p = 2
  · have eN : tkN0 T p = tkN T p := by unfold tkN0; rw [if_pos hk2]
    by_cases hmm : tkN T p < mk
    · rw [if_pos ⟨hk2, hmm⟩]
      have to117 : go (d + 5) 178 85 [.ref 171, .int (nI s), .int (1 : Int32), .int (1 : Int32), v4] [] N = go (d + 5) 178 117 [.ref 171, .int (nI s), .int (1 : Int32), .int (1 : Int32), .int (nI (tkN0 T p))] [] N := by
        rw [q178_85, if_neg (by decide), if_pos o, nu, bI_s, if_pos o, k25, if_pos (e3.mpr hk2), if_pos o, hm, if_pos (em.mpr (by rw [eN]; exact hmm))]
      by_cases h12 : k < 12
      · rw [if_pos h12]
        obtain ⟨N5, a1, a2, a3, a4⟩ := m_must1 (d := d + 1) hG hT hp h1 h2
        have hM5 := MS_tk h a2 a3
        obtain ⟨N6, b1, b2⟩ := m_say (d := d + 3) (t := tkN T p) hX hM5 (by omega)
        rw [tokm (by omega)] at b1
        obtain ⟨hG5, -⟩ := MX_S hX hM5.1
        obtain ⟨hG6, -⟩ := MX_S hX b2.1
        have g186 : gI N6 186 s = nI k := b2.2.2.2.2.2.2.2.2.2
        have ne7 : ∀ r k', ¬ (r = 186 ∧ k' = s) → gI (sI N6 186 s (nI (k + 1))) r k' = gI N6 r k' := fun r k' a => gI_ne a
        have hM7 : MS T s M (sI N6 186 s (nI (k + 1))) (tkE T p) (k + 1) (V0 ++ List.replicate j 12) (P ++ [tkN T p]) 0 G := by
          obtain ⟨q0, q1, q2, q3, q4, q5, q6, q7, q8, q9⟩ := b2
          refine ⟨Sm_trans q0 (Sm_sI (by unfold Sv; omega)), ?_, ?_, ?_, ?_, ?_, fun i hi => ?_, ?_, fun i hi => ?_, gI_at⟩
          · unfold TkM at q1 ⊢
            rw [ne7 _ _ (by omega), ne7 _ _ (by omega), ne7 _ _ (by omega), ne7 _ _ (by omega)]; exact q1
          · rw [ne7 _ _ (by omega)]; exact q2
          · rw [ne7 _ _ (by omega)]; exact q3
          · rw [ne7 _ _ (by omega)]; exact q4
          · rw [ne7 _ _ (by omega)]; exact q5
          · rw [ne7 _ _ (by omega)]; exact q6 i hi
          · rw [ne7 _ _ (by omega)]; exact q7
          · rw [ne7 _ _ (by omega)]; exact q8 i hi
        obtain ⟨N8, c1, c2⟩ := m_come (d := d + 2) (x := 12) hX (by omega) hst j (List.replicate j 12) (P ++ [tkN T p]) (sI N6 186 s (nI (k + 1))) (by simp) (fun t ht => by rw [List.eq_of_mem_replicate ht]; exact ⟨by omega, by omega, rfl⟩) hl (by rw [len_s]; simp; omega) (by omega) hM7
        have c1' : go (d + 4) 176 0 [.ref 171, .int (nI s), .int ((-3) : Int32)] [] (sI N6 186 s (nI (k + 1))) = some (none, N8) := c1
        rw [List.reverse_replicate] at c2
        refine ⟨N8, .int (nI (tkN0 T p)), ?_, c2⟩
        rw [to117, q178_117, if_pos o, k25, if_pos (e3.mpr hk2), if_pos o, gr_171_19 hG, if_pos (rk_186 hG hs), nI_clamp (by omega), h9, if_neg (by rw [show (12 : Int32) = nI 12 from rfl, nI_eq (by omega) (by omega)]; omega), q178_141, if_pos o, k25, if_pos (e3.mpr hk2), if_pos o, a1, bV_s, if_pos (ok_171 hG5), a4, if_pos rfl, if_pos (ok_171 hG5), eN, b1, bV_s, if_pos (ok_171 hG6), gr_171_19 hG6, if_pos (rk_186 hG6 hs), if_pos (wk_186 hG6 hs), bM_d, nI_clamp (by omega), g186, nI_1, okO_sI, if_pos (ok_171 hG6), c1', bV_s]
      · rw [if_neg h12]
        obtain ⟨N', rfl, f1, f2, f3, f4, f5, f6⟩ := fault 3 3 rfl (by omega) (by omega)
        refine ⟨_, ?_, f5, f6⟩
        have b := m_bad (d := d + 3) (x := 3) hG h2 h1.1
        rw [to117, q178_117, if_pos o, k25, if_pos (e3.mpr hk2), if_pos o, gr_171_19 hG, if_pos (rk_186 hG hs), nI_clamp (by omega), h9, if_pos (by rw [show (12 : Int32) = nI 12 from rfl, nI_eq (by omega) (by omega)]; omega), if_pos o, b, bV_s]
        exact go141 _ f1 f2 f3
    · rw [if_neg (fun z => hmm z.2), if_pos hk2]
      obtain ⟨N', rfl, f1, f2, f3, f4, f5, f6⟩ := fault 2 2 rfl (by omega) (by omega)
      refine ⟨_, ?_, f5, f6⟩
      have b := m_bad (d := d + 3) (x := 2) hG h2 h1.1
      have b3 := m_bad' (d := d + 3) (x := 3) f1 f2
      rw [q178_85, if_neg (by decide), if_pos o, nu, bI_s, if_pos o, k25, if_pos (e3.mpr hk2), if_pos o, hm, if_neg (fun z => hmm (by rw [← eN]; exact em.mp z)), if_pos o, b, bV_s, q178_117, if_pos (ok_171 f1), f3, if_pos (e3.mpr hk2), if_pos (ok_171 f1), gr_171_19 f1, if_pos (rk_186 f1 hs), nI_clamp (by omega), f4]
      by_cases z12 : nI k = (12 : Int32)
      · rw [if_pos z12, if_pos (ok_171 f1), b3, bV_s]; exact go141 _ f1 f2 f3
      · rw [if_neg z12]; exact go141 _ f1 f2 f3
  · rw [if_neg (fun z => hk2 z.1), if_neg hk2]
    obtain ⟨N', m1, m2, m3⟩ := m_must0 (d := d + 1) hG hp hn h1 h2
    have hGN' := Gd_Sm m2 hG
    refine ⟨N', ?_, Sm_trans hS (Sm_mono (fun r k z => by unfold Se at z; unfold Sv; omega) (fun r z => z) m2), m3⟩
    rw [q178_85, if_neg (by decide), if_pos o, nu, bI_s, if_pos o, k25, if_neg (fun z => hk2 (e3.mp z)), q178_117, if_pos o, k25, if_neg (fun z => hk2 (e3.mp z)), q178_141, if_pos o, k25, if_neg (fun z => hk2 (e3.mp z)), if_pos o, m1, bV_s, if_pos (ok_171 hGN'), if_neg (FtM_n m3), eq28_F hGN' (FtM_n m3)]
