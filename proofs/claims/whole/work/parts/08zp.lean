/-! ===== sayings: the model reads ===== -/
theorem getD_l {L : List Nat} {x i : Nat} (h : i < L.length) : (L ++ [x]).getD i 0 = L.getD i 0 := by
  simp [List.getD_eq_getElem?_getD, List.getElem?_append_left h]
theorem getD_e {L : List Nat} {x : Nat} : (L ++ [x]).getD L.length 0 = x := by
  simp [List.getD_eq_getElem?_getD]
def wtI (t : Nat) : Int32 := if t = 13 then -4 else tok t
def cntV (V : List Nat) : Nat := (V.filter (fun t => decide (12 ≤ t))).length
theorem cntV_s (V : List Nat) (t : Nat) : cntV (V ++ [t]) = cntV V + (if 12 ≤ t then 1 else 0) := by
  unfold cntV
  rw [List.filter_append, List.length_append]
  by_cases h : 12 ≤ t <;> simp [h]
theorem len_s (V : List Nat) (t : Nat) : (V ++ [t]).length = V.length + 1 := by simp
def Sv (s : Nat) (r k : Nat) : Prop := (r = 171 ∧ ((24 ≤ k ∧ k ≤ 29) ∨ k = 34 ∨ k = 35)) ∨ r = 188 ∨ (r = 184 ∧ 100 * s ≤ k ∧ k < 100 * s + 100) ∨ (r = 185 ∧ k = s) ∨ (r = 186 ∧ k = s)
def MS (T : Tp) (s : Nat) (M N : Mm) (p k : Nat) (V P : List Nat) (F G : Int32) : Prop := Sm (Sv s) NoL M N ∧ TkM N T p ∧ gI N 171 28 = F ∧ gI N 171 29 = G ∧ gI N 171 34 = nI V.length ∧ gI N 171 35 = nI (cntV V) ∧ (∀ i, i < V.length → gI N 188 i = wtI (V.getD i 0)) ∧ gI N 185 s = nI P.length ∧ (∀ i, i < P.length → gI N 184 (100 * s + i) = tok (P.getD i 0)) ∧ gI N 186 s = nI k
def MX (M : Mm) (T : Tp) (mk s : Nat) : Prop := Gd M ∧ TPM M T ∧ gI M 171 30 = nI mk ∧ mk ≤ 10 ∧ s < 32
theorem MX_S {M N : Mm} {T : Tp} {mk s : Nat} (h : MX M T mk s) (hS : Sm (Sv s) NoL M N) : MX N T mk s := by
  obtain ⟨h1, h2, h3, h4, h5⟩ := h
  refine ⟨Gd_Sm hS h1, ⟨h2.1, ?_, fun k hk => ?_⟩, ?_, h4, h5⟩
  · rw [hS.2.2.1 _ _ (by unfold Sv; omega)]; exact h2.2.1
  · rw [hS.2.2.1 _ _ (by unfold Sv; omega)]; exact h2.2.2 k hk
  · rw [hS.2.2.1 _ _ (by unfold Sv; omega)]; exact h3
theorem m_say {d mk s p k t : Nat} {M N : Mm} {T : Tp} {V P : List Nat} {F G : Int32} (hX : MX M T mk s) (h : MS T s M N p k V P F G) (hl : P.length < 100) : ∃ N', go (d + 1) 173 0 [.ref 171, .int (nI s), .int (tok t)] [] N = some (none, N') ∧ MS T s M N' p k V (P ++ [t]) F G := by
  obtain ⟨hS, h1, h2, h3, h4, h5, h6, h7, h8, h9⟩ := h
  obtain ⟨hG, hT, hm, hmk, hs⟩ := MX_S hX hS
  have o := ok_171 hG
  have e1 : ((100 : Int32) * nI s) + nI P.length = nI (100 * s + P.length) := by rw [show (100 : Int32) = nI 100 from rfl, pk_mul, nI_add]
  have hG1 : Gd (sI N 184 (100 * s + P.length) (tok t)) := hG
  have g7 : gI (sI N 184 (100 * s + P.length) (tok t)) 185 s = nI P.length := (gI_ne (by omega)).trans h7
  have ne : ∀ r k, ¬ (r = 184 ∧ k = 100 * s + P.length) → ¬ (r = 185 ∧ k = s) → gI (sI (sI N 184 (100 * s + P.length) (tok t)) 185 s (nI (P.length + 1))) r k = gI N r k := fun r k a b => by rw [gI_ne b, gI_ne a]
  refine ⟨sI (sI N 184 (100 * s + P.length) (tok t)) 185 s (nI (P.length + 1)), ?_, Sm_trans hS (Sm_trans (Sm_sI (by unfold Sv; omega)) (Sm_sI (by unfold Sv; omega))), ?_, ?_, ?_, ?_, ?_, fun i hi => ?_, ?_, fun i hi => ?_, ?_⟩
  · rw [q173_0, if_pos o, if_pos o, gr_171_18 hG, if_pos (rk_185 hG hs), nI_clamp (show s < 2 ^ 31 by omega), h7, e1, gr_171_17 hG, if_pos (wk_184 hG (by omega)), bM_d, nI_clamp (show 100 * s + P.length < 2 ^ 31 by omega), if_pos (ok_171 hG1), gr_171_18 hG1, if_pos (rk_185 hG1 hs), if_pos (wk_185 hG1 hs), bM_d, g7, nI_1]
  · unfold TkM at h1 ⊢
    rw [ne _ _ (by omega) (by omega), ne _ _ (by omega) (by omega), ne _ _ (by omega) (by omega), ne _ _ (by omega) (by omega)]; exact h1
  · rw [ne _ _ (by omega) (by omega)]; exact h2
  · rw [ne _ _ (by omega) (by omega)]; exact h3
  · rw [ne _ _ (by omega) (by omega)]; exact h4
  · rw [ne _ _ (by omega) (by omega)]; exact h5
  · rw [ne _ _ (by omega) (by omega)]; exact h6 i hi
  · rw [gI_at, len_s]
  · rw [len_s] at hi
    rw [gI_ne (by omega), gI_sI]
    by_cases e : i = P.length
    · subst e; rw [if_pos ⟨rfl, rfl⟩, getD_e]
    · rw [if_neg (fun z => e (by omega)), h8 i (by omega), getD_l (by omega)]
  · rw [ne _ _ (by omega) (by omega)]; exact h9
theorem m_putBy {d mk s p k t : Nat} {M N : Mm} {T : Tp} {V P : List Nat} {F G : Int32} (hX : MX M T mk s) (h : MS T s M N p k V P F G) (hl : V.length < 40) : ∃ N', go (d + 1) 174 0 [.ref 171, .int (wtI t)] [] N = some (none, N') ∧ gI N' 171 35 = gI N 171 35 ∧ (gI N 171 35 = nI (cntV (V ++ [t])) → MS T s M N' p k (V ++ [t]) P F G) ∧ (cntV (V ++ [t]) = cntV V → MS T s M N' p k (V ++ [t]) P F G) := by
  obtain ⟨hS, h1, h2, h3, h4, h5, h6, h7, h8, h9⟩ := h
  obtain ⟨hG, hT, hm, hmk, hs⟩ := MX_S hX hS
  have o := ok_171 hG
  have hG1 : Gd (sI N 188 V.length (wtI t)) := hG
  have g4 : gI (sI N 188 V.length (wtI t)) 171 34 = nI V.length := (gI_ne (by omega)).trans h4
  have ne : ∀ r k, ¬ (r = 188 ∧ k = V.length) → ¬ (r = 171 ∧ k = 34) → gI (sI (sI N 188 V.length (wtI t)) 171 34 (nI (V.length + 1))) r k = gI N r k := fun r k a b => by rw [gI_ne b, gI_ne a]
  have key : gI N 171 35 = nI (cntV (V ++ [t])) → MS T s M (sI (sI N 188 V.length (wtI t)) 171 34 (nI (V.length + 1))) p k (V ++ [t]) P F G := fun hc => by
    refine ⟨Sm_trans hS (Sm_trans (Sm_sI (by unfold Sv; omega)) (Sm_sI (by unfold Sv; omega))), ?_, ?_, ?_, ?_, ?_, fun i hi => ?_, ?_, fun i hi => ?_, ?_⟩
    · unfold TkM at h1 ⊢
      rw [ne _ _ (by omega) (by omega), ne _ _ (by omega) (by omega), ne _ _ (by omega) (by omega), ne _ _ (by omega) (by omega)]; exact h1
    · rw [ne _ _ (by omega) (by omega)]; exact h2
    · rw [ne _ _ (by omega) (by omega)]; exact h3
    · rw [gI_at, len_s]
    · rw [ne _ _ (by omega) (by omega)]; exact hc
    · rw [len_s] at hi
      rw [gI_ne (by omega), gI_sI]
      by_cases e : i = V.length
      · subst e; rw [if_pos ⟨rfl, rfl⟩, getD_e]
      · rw [if_neg (fun z => e z.2), h6 i (by omega), getD_l (by omega)]
    · rw [ne _ _ (by omega) (by omega)]; exact h7
    · rw [ne _ _ (by omega) (by omega)]; exact h8 i hi
    · rw [ne _ _ (by omega) (by omega)]; exact h9
  refine ⟨sI (sI N 188 V.length (wtI t)) 171 34 (nI (V.length + 1)), ?_, ?_, key, fun hc => key (by rw [hc]; exact h5)⟩
  · rw [q174_0, if_pos o, if_pos o, gr_171_33 hG, h4, if_pos (wk_188 hG hl), bM_d, nI_clamp (by omega), if_pos (ok_171 hG1), if_pos (ok_171 hG1), bM_d, g4, nI_1]
  · exact ne _ _ (by omega) (by omega)
theorem m_last {d mk s p k t : Nat} {M N : Mm} {T : Tp} {V P : List Nat} {F G : Int32} (hX : MX M T mk s) (h : MS T s M N p k (V ++ [t]) P F G) (hl : V.length < 40) : go (d + 1) 175 0 [.ref 171] [] N = some (some (.int (wtI t)), N) := by
  obtain ⟨hS, h1, h2, h3, h4, h5, h6, h7, h8, h9⟩ := h
  obtain ⟨hG, hT, hm, hmk, hs⟩ := MX_S hX hS
  have o := ok_171 hG
  have h6' := h6 V.length (by rw [len_s]; omega)
  rw [getD_e] at h6'
  rw [len_s] at h4
  rw [q175_0, if_pos o, h4, if_neg (by rw [show (0 : Int32) = nI 0 from rfl, nI_eq (by omega) (by omega)]; omega), if_pos o, if_pos o, gr_171_33 hG, sub1 (by omega), Nat.add_sub_cancel, if_pos (rk_188 hG hl), nI_clamp (by omega), h6']
/-- does an operator send the last one that waits -/
def pops (x t : Nat) : Bool := !decide (t = 13) && (decide (t = 12) || (decide (x = 10) && decide (t = 10)) || decide (x = 11))
theorem wt_f : ∀ t, t < 14 → 10 ≤ t → (wtI t = (-4) ↔ t = 13) ∧ (wtI t = (-3) ↔ t = 12) ∧ (wtI t = (-1) ↔ t = 10) ∧ (tok t = (-1) ↔ t = 10) ∧ (tok t = (-2) ↔ t = 11) := by decide +kernel
theorem m_come0 {d mk s p k x : Nat} {M N : Mm} {T : Tp} {V P : List Nat} {F G : Int32} (hX : MX M T mk s) (h : MS T s M N p k V P F G) (hl : V.length < 40) (hx : 10 ≤ x ∧ x ≤ 12) (hV : V = [] ∨ ∃ V' t, V = V' ++ [t] ∧ 10 ≤ t ∧ t ≤ 13 ∧ pops x t = false) : go (d + 2) 176 0 [.ref 171, .int (nI s), .int (tok x)] [] N = some (none, N) := by
  obtain ⟨hG, hT, hm, hmk, hs⟩ := MX_S hX h.1
  have o := ok_171 hG
  have h4 := h.2.2.2.2.1
  rcases hV with rfl | ⟨V', t, rfl, t1, t2, hp⟩
  · rw [q176_0, if_pos o, h4, if_pos (by decide)]
  · rw [len_s] at hl
    have la := m_last (d := d) hX h (by omega)
    rw [len_s] at h4
    obtain ⟨w1, w2, w3, w4, w5⟩ := wt_f t (by omega) t1
    obtain ⟨-, -, -, x4, x5⟩ := wt_f x (by omega) hx.1
    rw [q176_0, if_pos o, h4, if_neg (by rw [show (0 : Int32) = nI 0 from rfl, nI_leI (by omega) (by omega)]; omega), if_pos o, la, bI_s]
    unfold pops at hp
    by_cases e13 : t = 13
    · rw [if_pos (w1.mpr e13)]
    · rw [decide_eq_false e13] at hp
      simp only [Bool.not_false, Bool.true_and, Bool.or_eq_false_iff, Bool.and_eq_false_iff, decide_eq_false_iff_not] at hp
      obtain ⟨⟨p1, p2⟩, p3⟩ := hp
      rw [if_neg (fun z => e13 (w1.mp z)), if_pos o, la, bI_s, if_neg (fun z => p1 (w2.mp z))]
      by_cases ex : x = 10
      · rw [if_pos (x4.mpr ex), if_pos o, la, bI_s, if_neg (fun z => p2.elim (fun y => y ex) (fun y => y (w3.mp z))), if_neg (fun z => p3 (x5.mp z))]
      · rw [if_neg (fun z => ex (x4.mp z)), if_neg (fun z => p3 (x5.mp z))]
theorem m_come1 {d mk s p k x t : Nat} {M N : Mm} {T : Tp} {V P : List Nat} {F G : Int32} (hX : MX M T mk s) (h : MS T s M N p k (V ++ [t]) P F G) (hl : V.length < 39) (hP : P.length < 100) (hx : 10 ≤ x ∧ x ≤ 12) (ht : 10 ≤ t ∧ t ≤ 12) (hp : pops x t = true) (hc : cntV (V ++ [t]) ≤ 40) : ∃ N', go (d + 2) 176 0 [.ref 171, .int (nI s), .int (tok x)] [] N = go (d + 2) 176 0 [.ref 171, .int (nI s), .int (tok x)] [] N' ∧ MS T s M N' p k V (P ++ [t]) F G := by
  obtain ⟨hS, h1, h2, h3, h4, h5, h6, h7, h8, h9⟩ := id h
  obtain ⟨hG, hT, hm, hmk, hs⟩ := MX_S hX hS
  have o := ok_171 hG
  have la := m_last (d := d) hX h (by omega)
  have h4' : gI N 171 34 = nI (V.length + 1) := by rw [← len_s V t]; exact h4
  obtain ⟨w1, w2, w3, w4, w5⟩ := wt_f t (by omega) ht.1
  obtain ⟨-, -, -, x4, x5⟩ := wt_f x (by omega) hx.1
  have to44 : go (d + 2) 176 0 [.ref 171, .int (nI s), .int (tok x)] [] N = go (d + 2) 176 44 [.ref 171, .int (nI s), .int (tok x)] [] N := by
    rw [q176_0, if_pos o, h4', if_neg (by rw [show (0 : Int32) = nI 0 from rfl, nI_leI (by omega) (by omega)]; omega), if_pos o, la, bI_s, if_neg (fun z => by have := w1.mp z; omega), if_pos o, la, bI_s]
    unfold pops at hp
    simp only [Bool.and_eq_true, Bool.or_eq_true, Bool.not_eq_true', decide_eq_true_eq, decide_eq_false_iff_not] at hp
    obtain ⟨-, hp⟩ := hp
    by_cases e12 : t = 12
    · rw [if_pos (w2.mpr e12)]
    · rw [if_neg (fun z => e12 (w2.mp z))]
      by_cases ex : x = 10
      · rw [if_pos (x4.mpr ex), if_pos o, la, bI_s, if_pos (w3.mpr (by omega))]
      · rw [if_neg (fun z => ex (x4.mp z)), if_pos (x5.mpr (by omega))]
  have cs := cntV_s V t
  have base : ∀ y : Int32, y = nI (cntV V) → MS T s M (sI (sI N 171 35 y) 171 34 (nI V.length)) p k V P F G := fun y hy => by
    have ne : ∀ r k, ¬ (r = 171 ∧ (k = 34 ∨ k = 35)) → gI (sI (sI N 171 35 y) 171 34 (nI V.length)) r k = gI N r k := fun r k a => by rw [gI_ne (by omega), gI_ne (by omega)]
    refine ⟨Sm_trans hS (Sm_trans (Sm_sI (by unfold Sv; omega)) (Sm_sI (by unfold Sv; omega))), ?_, ?_, ?_, gI_at, ?_, fun i hi => ?_, ?_, fun i hi => ?_, ?_⟩
    · unfold TkM at h1 ⊢
      rw [ne _ _ (by omega), ne _ _ (by omega), ne _ _ (by omega), ne _ _ (by omega)]; exact h1
    · rw [ne _ _ (by omega)]; exact h2
    · rw [ne _ _ (by omega)]; exact h3
    · rw [gI_ne (by omega), gI_at]; exact hy
    · rw [ne _ _ (by omega), h6 i (by rw [len_s]; omega), getD_l hi]
    · rw [ne _ _ (by omega)]; exact h7
    · rw [ne _ _ (by omega)]; exact h8 i hi
    · rw [ne _ _ (by omega)]; exact h9
  have hw : gI N 188 V.length = tok t := by
    have := h6 V.length (by rw [len_s]; omega)
    rw [getD_e] at this
    rw [this]; unfold wtI; rw [if_neg (by omega)]
  by_cases e12 : t = 12
  · rw [if_pos (by omega)] at cs
    have ey : gI N 171 35 - (1 : Int32) = nI (cntV V) := by rw [h5, cs, nI_pred]
    have hb := base _ ey
    obtain ⟨N', s1, s2⟩ := m_say (d := d) (t := t) hX hb hP
    refine ⟨N', ?_, s2⟩
    have g34 : gI (sI N 171 35 (gI N 171 35 - 1)) 171 34 = nI (V.length + 1) := (gI_ne (by omega)).trans h4'
    have hG7 : Gd (sI (sI N 171 35 (gI N 171 35 - 1)) 171 34 (nI V.length)) := hG
    have g188 : gI (sI (sI N 171 35 (gI N 171 35 - 1)) 171 34 (nI V.length)) 188 V.length = tok t := by rw [gI_ne (by omega), gI_ne (by omega)]; exact hw
    rw [to44, q176_44, if_pos o, if_pos o, la, bI_s, if_pos (w2.mpr e12), if_pos o, bM_d, okO_sI, if_pos o, if_pos o, g34, nI_pred, bM_d, if_pos (ok_171 hG7), if_pos (ok_171 hG7), gr_171_33 hG7, gI_at, if_pos (rk_188 hG7 (by omega)), if_pos (ok_171 hG7), nI_clamp (by omega), g188, s1, bV_s]
  · rw [if_neg (by omega)] at cs
    have ey : gI N 171 35 - (0 : Int32) = nI (cntV V) := by rw [h5, cs]; simp
    have hb := base _ ey
    obtain ⟨N', s1, s2⟩ := m_say (d := d) (t := t) hX hb hP
    refine ⟨N', ?_, s2⟩
    have g34 : gI (sI N 171 35 (gI N 171 35 - 0)) 171 34 = nI (V.length + 1) := (gI_ne (by omega)).trans h4'
    have hG7 : Gd (sI (sI N 171 35 (gI N 171 35 - 0)) 171 34 (nI V.length)) := hG
    have g188 : gI (sI (sI N 171 35 (gI N 171 35 - 0)) 171 34 (nI V.length)) 188 V.length = tok t := by rw [gI_ne (by omega), gI_ne (by omega)]; exact hw
    rw [to44, q176_44, if_pos o, if_pos o, la, bI_s, if_neg (fun z => e12 (w2.mp z)), if_pos o, bM_d, okO_sI, if_pos o, if_pos o, g34, nI_pred, bM_d, if_pos (ok_171 hG7), if_pos (ok_171 hG7), gr_171_33 hG7, gI_at, if_pos (rk_188 hG7 (by omega)), if_pos (ok_171 hG7), nI_clamp (by omega), g188, s1, bV_s]
/-- the operators of Q go, V's last stays -/
theorem m_come {d mk s p k x : Nat} {M : Mm} {T : Tp} {V : List Nat} {F G : Int32} (hX : MX M T mk s) (hx : 10 ≤ x ∧ x ≤ 12) (hV : V = [] ∨ ∃ V' t, V = V' ++ [t] ∧ 10 ≤ t ∧ t ≤ 13 ∧ pops x t = false) : ∀ (n : Nat) (Q P : List Nat) (N : Mm), Q.length = n → (∀ t, t ∈ Q → 10 ≤ t ∧ t ≤ 12 ∧ pops x t = true) → (V ++ Q).length < 39 → P.length + Q.length < 100 → cntV (V ++ Q) ≤ 40 → MS T s M N p k (V ++ Q) P F G → ∃ N', go (d + 2) 176 0 [.ref 171, .int (nI s), .int (tok x)] [] N = some (none, N') ∧ MS T s M N' p k V (P ++ Q.reverse) F G
  | 0, Q, P, N, hn, hQ, hl, hP, hc, h => by
    have e : Q = [] := List.length_eq_zero_iff.mp hn
    subst e
    rw [List.append_nil] at h hl
    exact ⟨N, m_come0 hX h (by omega) hx hV, by simpa using h⟩
  | n + 1, Q, P, N, hn, hQ, hl, hP, hc, h => by
    rcases List.eq_nil_or_concat Q with e | ⟨Q', t, e⟩
    · rw [e] at hn; simp at hn
    · rw [List.concat_eq_append] at e
      subst e
      rw [← List.append_assoc] at h hl hc
      have ht := hQ t (by simp)
      rw [len_s] at hl
      rw [len_s] at hn hP
      obtain ⟨N1, a1, a2⟩ := m_come1 (d := d) hX h (by omega) (by omega) hx ⟨ht.1, ht.2.1⟩ ht.2.2 hc
      rw [cntV_s] at hc
      obtain ⟨N', r1, r2⟩ := m_come hX hx hV n Q' (P ++ [t]) N1 (by omega) (fun u hu => hQ u (by simp [hu])) (by omega) (by rw [len_s]; omega) (by omega) a2
      refine ⟨N', a1.trans r1, ?_⟩
      rw [List.reverse_append]
      simpa using r2
