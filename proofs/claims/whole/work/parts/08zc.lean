/-! ===== ends ===== -/
theorem b1sh : ∀ a, a < 64 → ∀ i, i < 64 → lb ((1 : Int64) <<< ((nI a).toInt64 &&& 63)) i = decide (i = a) := by decide +kernel
theorem kt_put {d : Nat} {M N : Mm} {a w k : Nat} {g : Nat → Bool} (h : KSet M N w g) (hA : KS M a w) (hk : k < 1024) : ∃ N', go (d + 1) 42 0 [.ref a, .int (nI k)] [] N = some (none, N') ∧ KSet M N' w (fun j => g j || decide (j = k)) := by
  obtain ⟨k1, k2, k3, k4, -⟩ := KSet_KS (v := w) h hA
  obtain ⟨f, rfl, hf⟩ := h
  have hj : k / 64 < 16 := by omega
  refine ⟨sL (wL M w f) w (k / 64) (gL (wL M w f) w (k / 64) ||| ((1 : Int64) <<< ((nI (k % 64)).toInt64 &&& 63))), ?_, _, sL_wL, fun j hj => ?_⟩
  · rw [q42_0, if_neg (nI_pos (by omega)), if_neg (by rw [show (1024 : Int32) = nI 1024 from rfl, nI_leI (by omega) (by omega)]; omega), if_pos k1, k2, sh6 k hk, if_pos (k3 _ hj), if_pos (k4 _ hj), bM_d, nI_clamp (by omega), an63]
  · show lb (if j / 64 = k / 64 then _ else f (j / 64)) (j % 64) = _
    by_cases e : j / 64 = k / 64
    · rw [if_pos e, gL_wL, if_pos rfl, lb_or, b1sh _ (by omega) _ (by omega), ← e, lbk, hf j hj]
      congr 1
      by_cases e2 : j = k
      · simp [e2]
      · simp [e2, show ¬ j % 64 = k % 64 by omega]
    · rw [if_neg e, lbk, hf j hj]
      simp [show ¬ j = k by intro z; rw [z] at e; exact e rfl]
theorem ct_mono {p : Nat → Bool} {a b : Nat} (h : a ≤ b) : fb_ct p a ≤ fb_ct p b := by
  rw [show b = a + (b - a) by omega, fb_ct_split]; omega
theorem ct_find {p : Nat → Bool} : ∀ {n j : Nat}, j < fb_ct p n → ∃ v, v < n ∧ p v = true ∧ fb_ct p v = j
  | 0, j, h => by simp [fb_ct] at h
  | n + 1, j, h => by
    by_cases h1 : j < fb_ct p n
    · obtain ⟨v, a, b, c⟩ := ct_find h1
      exact ⟨v, by omega, b, c⟩
    · rw [fb_ct_succ] at h
      cases hp : p n with
      | false => rw [hp] at h; simp at h; omega
      | true => rw [hp] at h; exact ⟨n, by omega, hp, by simp at h; omega⟩
def Le (r k : Nat) : Prop := (r = 138 ∧ (k = 3 ∨ k = 4)) ∨ r = 143 ∨ r = 144 ∨ r = 145 ∨ (r = 139 ∧ (k = 1 ∨ k = 2)) ∨ r = 140
abbrev NoL : Nat → Prop := fun _ => False
theorem BK_le {M N : Mm} {B : Bk} (hB : BK M B) (h : Sm Le NoL M N) : BK N B := BK_cong (M := M) (fun r k z => h.2.2.1 r k (by unfold rdB at z; unfold Le; omega)) (fun r _ => h.2.2.2 r (fun z => z)) hB
/-- the ends are known -/
def ECk (M : Mm) (B : Bk) : Prop := gI M 138 4 = 1 ∧ (∀ k, k < 2 ^ nmB B → alB B k = true → gI M 144 k = nI (endB B k)) ∧ gI M 138 3 = nI (fb_ct (isEndB B) 1000) ∧ ∀ v, v < 1000 → isEndB B v = true → gI M 143 (fb_ct (isEndB B) v) = nI v
theorem endB_lt {M : Mm} {B : Bk} (hB : BK M B) (k : Nat) : endB B k < 1000 := runB_RB hB (nnB B) (Nat.le_refl _) 0 (by omega)
theorem z145 (N : Mm) (j : Nat) : sZ N 145 j 0 = sI N 145 j 0 := rfl
theorem z145' (N : Mm) (j : Nat) : sZ N 145 j 1 = sI N 145 j 1 := rfl
theorem c_learn1 {d : Nat} {M : Mm} (hG : Gd M) : ∃ N, go (d + 1) 25 10 [.ref 138, .int (0 : Int32)] [] M = go (d + 1) 25 32 [.ref 138, .int (0 : Int32)] [] N ∧ Sm Le NoL M N ∧ ∀ v, v < 1000 → gI N 145 v = 0 := by
  rw [show (0 : Int32) = nI 0 from rfl]
  obtain ⟨N, s1, s2, s3⟩ := loopI (σ := Mm) (fun j N => go (d + 1) 25 10 [.ref 138, .int (nI j)] [] N) (fun j N => Sm Le NoL M N ∧ ∀ v, v < j → gI N 145 v = nI 0) 1000 (fun j N hj hN => by
    have hGN := Gd_Sm hN.1 hG
    refine ⟨sI N 145 j 0, ?_, Sm_trans hN.1 (Sm_sI (by unfold Le; omega)), fun v hv => ?_⟩
    · try dsimp only
      rw [q25_10, if_neg (by rw [show (1000 : Int32) = nI 1000 from rfl, nI_leI (by omega) (by omega)]; omega), if_pos (ok_138 hGN), gr_138_6 hGN, if_pos (wk_145 hGN hj), bM_d, nI_clamp (by omega), z145, nI_1]
    · rw [gI_sI]
      by_cases e : v = j
      · rw [if_pos ⟨rfl, e⟩]; rfl
      · rw [if_neg (fun z => e z.2)]; exact hN.2 v (by omega)) 1000 0 M (by omega) ⟨Sm_refl, fun v hv => by omega⟩
  try dsimp only at s1
  refine ⟨N, ?_, s2, s3⟩
  rw [s1, q25_10, if_pos (by decide)]
  rfl
theorem c_learn2 {d : Nat} {M N0 : Mm} {B : Bk} (hG : Gd M) (hB : BK M B) (h0 : Sm Le NoL M N0) (hz : ∀ v, v < 1000 → gI N0 145 v = 0) : ∃ N, go (d + 4) 25 32 [.ref 138, .int (0 : Int32)] [] N0 = go (d + 4) 25 128 [.ref 138, .int (0 : Int32)] [] (sI N 138 3 0) ∧ Sm Le NoL M N ∧ (∀ j, j < 2 ^ nmB B → alB B j = true → gI N 144 j = nI (endB B j)) ∧ ∀ v, v < 1000 → gI N 145 v = b2i (isEndB B v) := by
  have hn := BK_nn hB
  have hp := p10 hn.1
  rw [show (0 : Int32) = nI 0 from rfl]
  obtain ⟨N, s1, s2, s3, s4⟩ := loopI (σ := Mm) (fun k N => go (d + 4) 25 32 [.ref 138, .int (nI k)] [] N) (fun k N => Sm Le NoL M N ∧ (∀ j, j < k → alB B j = true → gI N 144 j = nI (endB B j)) ∧ ∀ v, v < 1000 → gI N 145 v = b2i (anyB (fun j => alB B j && decide (endB B j = v)) k)) (2 ^ nmB B) (fun k N hk hN => by
    obtain ⟨hS, h1, h2⟩ := hN
    have hGN := Gd_Sm hS hG
    have hBN := BK_le hB hS
    have am := c_allMarks (d := d + 2) hGN (BK_c hBN)
    have ha := c_has_al (d := d + 2) hGN hBN (show k < 1024 by omega)
    have c7 : gI N 5 3 = nI (vrB B) := hBN.1.2.2.2.2.2.2.1
    have nlt : ¬ nI (2 ^ nmB B - 1) < nI k := by rw [nI_ltI (by omega) (by omega)]; omega
    have o := ok_138 hGN
    have e0 := endB_lt hBN k
    try dsimp only
    cases hal : alB B k with
    | false =>
      rw [hal] at ha
      refine ⟨N, ?_, hS, fun j hj haj => ?_, fun v hv => ?_⟩
      · rw [q25_32]
        simp only [o, if_true, gr_138_8 hGN, ok_5 hGN, am, bI_s, nlt, if_false, gr_138_9 hGN, ok_126 hGN, gr_126_0 hGN, ok_127 hGN, ha, b2i0, nI_1]
      · have : j ≠ k := fun z => by rw [z, hal] at haj; cases haj
        exact h1 j (by omega) haj
      · rw [h2 v hv, anyB_s, hal]; simp
    | true =>
      rw [hal] at ha
      have st := c_standing (d := d + 1) (b := NONE) hGN hBN (show k < 1024 by omega) hn.2.2.2
      obtain ⟨N8, p1, p2⟩ := c_perform (d := d) hGN hBN (n := bodyB B k (vrB B) NONE) (bs31 _ (by omega))
      rw [run_body] at p2
      have hG8 := Gd_Sm p2.1 hGN
      have c0 : gI N8 140 0 = nI (endB B k) := p2.2.1 0 (by omega)
      have S8 : Sm Le NoL M N8 := Sm_trans hS (Sm_mono (fun r k z => by unfold Le; omega) (fun r z => z) p2.1)
      have c0' : gI (sI N8 144 k (nI (endB B k))) 140 0 = nI (endB B k) := (gI_ne (by omega)).trans c0
      have hG9 : Gd (sI N8 144 k (nI (endB B k))) := hG8
      have cz : (0 : Int32).toNatClampNeg = 0 := rfl
      refine ⟨sI (sI N8 144 k (nI (endB B k))) 145 (endB B k) 1, ?_, Sm_trans S8 (Sm_trans (Sm_sI (by unfold Le; omega)) (Sm_sI (by unfold Le; omega))), fun j hj haj => ?_, fun v hv => ?_⟩
      · rw [q25_32]
        simp only [o, if_true, gr_138_8 hGN, ok_5 hGN, am, bI_s, nlt, if_false, gr_138_9 hGN, ok_126 hGN, gr_126_0 hGN, ok_127 hGN, ha, b2i0, Bool.true_eq_false, c7, st, gr_138_0 hGN, ok_139 hGN, p1, bV_s, ok_138 hG8, gr_138_0 hG8, ok_139 hG8, gr_139_0 hG8, show rOK N8 140 0 (0 : Int32) = true from rk_140 hG8 (k := 0) (by omega), gr_138_5 hG8, wk_144 hG8 (show k < 1024 by omega), bM_d, cz, c0, nI_clamp (show k < 2 ^ 31 by omega), ok_138 hG9, gr_138_0 hG9, ok_139 hG9, gr_139_0 hG9, show rOK (sI N8 144 k (nI (endB B k))) 140 0 (0 : Int32) = true from rk_140 hG9 (k := 0) (by omega), gr_138_6 hG9, c0', wk_145 hG9 e0, nI_clamp (show endB B k < 2 ^ 31 by omega), z145', nI_1]
      · rw [gI_ne (by omega), gI_sI]
        by_cases e : j = k
        · subst e; rw [if_pos ⟨rfl, rfl⟩]
        · rw [if_neg (fun z => e z.2), p2.1.2.2.1 _ _ (by omega)]; exact h1 j (by omega) haj
      · rw [gI_sI, anyB_s, hal, Bool.true_and]
        by_cases e : v = endB B k
        · rw [if_pos ⟨rfl, e⟩, decide_eq_true e.symm, Bool.or_true]; rfl
        · rw [if_neg (fun z => e z.2), decide_eq_false (fun z => e z.symm), Bool.or_false, gI_ne (by omega), p2.1.2.2.1 _ _ (by omega)]; exact h2 v hv) (2 ^ nmB B) 0 N0 (by omega) ⟨h0, fun j hj => by omega, fun v hv => by rw [hz v hv]; rfl⟩
  try dsimp only at s1
  have hGN := Gd_Sm s2 hG
  have hBN := BK_le hB s2
  have am := c_allMarks (d := d + 2) hGN (BK_c hBN)
  refine ⟨N, ?_, s2, s3, s4⟩
  rw [s1, q25_32, if_pos (ok_138 hGN), gr_138_8 hGN, if_pos (ok_5 hGN), am, bI_s, if_pos (by rw [nI_ltI (by omega) (by omega)]; omega), if_pos (ok_138 hGN), bM_d]
  rfl
theorem c_learn3 {d : Nat} {M N0 : Mm} {B : Bk} (hG : Gd M) (h0 : Sm Le NoL M N0) (h1 : ∀ j, j < 2 ^ nmB B → alB B j = true → gI N0 144 j = nI (endB B j)) (h2 : ∀ v, v < 1000 → gI N0 145 v = b2i (isEndB B v)) : ∃ N, go (d + 1) 25 128 [.ref 138, .int (0 : Int32)] [] (sI N0 138 3 0) = some (none, N) ∧ Sm Le NoL M N ∧ ECk N B := by
  rw [show (0 : Int32) = nI 0 from rfl]
  obtain ⟨N, s1, s2, s3, s4, s5, s6⟩ := loopI (σ := Mm) (fun v N => go (d + 1) 25 128 [.ref 138, .int (nI v)] [] N) (fun v N => Sm Le NoL M N ∧ (∀ j, j < 2 ^ nmB B → alB B j = true → gI N 144 j = nI (endB B j)) ∧ (∀ v, v < 1000 → gI N 145 v = b2i (isEndB B v)) ∧ gI N 138 3 = nI (fb_ct (isEndB B) v) ∧ ∀ u, u < v → isEndB B u = true → gI N 143 (fb_ct (isEndB B) u) = nI u) 1000 (fun v N hv hN => by
    obtain ⟨hS, k1, k2, k3, k4⟩ := hN
    have hGN := Gd_Sm hS hG
    have hle := fb_ct_le (isEndB B) v
    try dsimp only
    rw [q25_128, if_neg (by rw [show (1000 : Int32) = nI 1000 from rfl, nI_leI (by omega) (by omega)]; omega), if_pos (ok_138 hGN), gr_138_6 hGN, if_pos (rk_145 hGN hv), nI_clamp (by omega), k2 v hv]
    simp only [b2i0, nI_1]
    cases he : isEndB B v with
    | false =>
      refine ⟨N, by rw [if_pos rfl], hS, k1, k2, ?_, fun u hu hue => ?_⟩
      · rw [fb_ct_succ, he]; exact k3
      · have : u ≠ v := fun z => by rw [z, he] at hue; cases hue
        exact k4 u (by omega) hue
    | true =>
      have hG2 : Gd (sI N 143 (fb_ct (isEndB B) v) (nI v)) := hGN
      have e3 : gI (sI N 143 (fb_ct (isEndB B) v) (nI v)) 138 3 = nI (fb_ct (isEndB B) v) := (gI_ne (by omega)).trans k3
      refine ⟨sI (sI N 143 (fb_ct (isEndB B) v) (nI v)) 138 3 (nI (fb_ct (isEndB B) v + 1)), ?_, Sm_trans hS (Sm_trans (Sm_sI (by unfold Le; omega)) (Sm_sI (by unfold Le; omega))), fun j hj ha => ?_, fun u hu => ?_, ?_, fun u hu hue => ?_⟩
      · rw [if_neg (by decide), if_pos (ok_138 hGN), if_pos (ok_138 hGN), gr_138_2 hGN, k3, if_pos (wk_143 hGN (by omega)), bM_d, nI_clamp (by omega), if_pos (ok_138 hG2), if_pos (ok_138 hG2), bM_d, e3, nI_1]
      · rw [gI_ne (by omega), gI_ne (by omega)]; exact k1 j hj ha
      · rw [gI_ne (by omega), gI_ne (by omega)]; exact k2 u hu
      · rw [gI_at, fb_ct_succ, he]; rfl
      · rw [gI_ne (by omega), gI_sI]
        by_cases e : u = v
        · subst e; rw [if_pos ⟨rfl, rfl⟩]
        · have hlt : fb_ct (isEndB B) u < fb_ct (isEndB B) v := by
            have h3 := ct_mono (p := isEndB B) (show u + 1 ≤ v by omega)
            rw [fb_ct_succ, hue] at h3
            simp at h3
            omega
          rw [if_neg (fun z => by omega)]; exact k4 u (by omega) hue) 1000 0 (sI N0 138 3 (nI 0)) (by omega) ⟨Sm_trans h0 (Sm_sI (by unfold Le; omega)), fun j hj ha => by rw [gI_ne (by omega)]; exact h1 j hj ha, fun v hv => by rw [gI_ne (by omega)]; exact h2 v hv, gI_at, fun u hu => by omega⟩
  try dsimp only at s1
  have hGN := Gd_Sm s2 hG
  refine ⟨sI N 138 4 1, ?_, Sm_trans s2 (Sm_sI (by unfold Le; omega)), gI_at, fun k hk ha => ?_, ?_, fun v hv he => ?_⟩
  · rw [s1, q25_128, if_pos (by decide), if_pos (ok_138 hGN), bM_d]
  · rw [gI_ne (by omega)]; exact s3 k hk ha
  · rw [gI_ne (by omega)]; exact s5
  · rw [gI_ne (by omega)]; exact s6 v hv he
theorem c_learn {d : Nat} {M : Mm} {B : Bk} (hG : Gd M) (hB : BK M B) (hE : EC M B) : ∃ N, go (d + 4) 25 0 [.ref 138, .null] [] M = some (none, N) ∧ Sm Le NoL M N ∧ ECk N B := by
  rcases hE with h | h
  · obtain ⟨N1, a1, a2, a3⟩ := c_learn1 (d := d + 3) hG
    obtain ⟨N2, b1, b2, b3, b4⟩ := c_learn2 (d := d) hG hB a2 a3
    obtain ⟨N3, c1, c2, c3⟩ := c_learn3 (d := d + 3) hG b2 b3 b4
    refine ⟨N3, ?_, c2, c3⟩
    rw [q25_0, if_pos (ok_138 hG), h, if_pos rfl, a1, b1, c1]
  · refine ⟨M, ?_, Sm_refl, h⟩
    rw [q25_0, if_pos (ok_138 hG), h.1, if_neg (by decide)]
/-- the model finds the ends -/
def Mf (r k : Nat) : Prop := (r = 171 ∧ k = 42) ∨ r = 192 ∨ r = 193
theorem BK_mf {M N : Mm} {B : Bk} (hB : BK M B) (h : Sm Mf NoL M N) : BK N B := BK_cong (M := M) (fun r k z => h.2.2.1 r k (by unfold rdB at z; unfold Mf; omega)) (fun r _ => h.2.2.2 r (fun z => z)) hB
def fnB (B : Bk) (k : Nat) : Int32 := if alB B k then nI (endB B k) else NONE
theorem m_findEnds {d : Nat} {M : Mm} {B : Bk} (hG : Gd M) (hB : BK M B) : ∃ N, go (d + 3) 212 0 [.ref 171, .null] [] M = some (none, N) ∧ Sm Mf NoL M N ∧ ∀ k, k < 2 ^ nmB B → gI N 193 k = fnB B k := by
  have hn := BK_nn hB
  have hp := p10 hn.1
  rw [q212_0, show (0 : Int32) = nI 0 from rfl]
  obtain ⟨N, s1, s2, s3⟩ := loopI (σ := Mm) (fun k N => go (d + 3) 212 2 [.ref 171, .int (nI k)] [] N) (fun k N => Sm Mf NoL M N ∧ ∀ j, j < k → gI N 193 j = fnB B j) (2 ^ nmB B) (fun k N hk hN => by
    obtain ⟨hS, h1⟩ := hN
    have S1 : Sm Mf NoL M (sI N 193 k NONE) := Sm_trans hS (Sm_sI (by unfold Mf; omega))
    have hGN := Gd_Sm hS hG
    have hG1 := Gd_Sm S1 hG
    have hBN := BK_mf hB hS
    have hB1 := BK_mf hB S1
    have c9 : gI N 171 36 = nI (2 ^ nmB B) := hBN.1.2.2.2.2.2.2.2.2.1
    have c8 : gI (sI N 193 k NONE) 171 40 = nI (vrB B) := hB1.1.2.2.2.2.2.2.2.1
    have ha := m_isAllowed (d := d) hG1 hB1 hk
    have nle : ¬ nI (2 ^ nmB B) ≤ nI k := by rw [nI_leI (by omega) (by omega)]; omega
    try dsimp only
    rw [q212_2, if_pos (ok_171 hGN), c9, if_neg nle, if_pos (ok_171 hGN), gr_171_43 hGN, if_pos (wk_193 hGN (by omega)), bM_d, nI_clamp (by omega), if_pos (ok_171 hG1), ha, bI_s]
    simp only [b2i0]
    cases hal : alB B k with
    | false =>
      refine ⟨sI N 193 k NONE, by rw [if_pos rfl, nI_1], S1, fun j hj => ?_⟩
      rw [gI_sI]
      by_cases e : j = k
      · subst e; rw [if_pos ⟨rfl, rfl⟩, fnB, if_neg (by rw [hal]; decide)]
      · rw [if_neg (fun z => e z.2)]; exact h1 j (by omega)
    | true =>
      have bo := m_bodyOf (d := d + 1) (b := NONE) hG1 hB1 hk hn.2.2.2
      obtain ⟨N2, x2, p1, p2⟩ := m_runBody (d := d + 1) (n := bodyB B k (vrB B) NONE) hG1 hB1 (bs31 _ (by omega))
      rw [run_body] at p2
      have hG2 := Gd_Sm p2.1 hG1
      have c0 : gI N2 192 0 = nI (endB B k) := p2.2.1 0 (by omega)
      have S2 : Sm Mf NoL M N2 := Sm_trans S1 (Sm_mono (fun r k z => by unfold Mf; omega) (fun r z => z) p2.1)
      have cz : (0 : Int32).toNatClampNeg = 0 := rfl
      refine ⟨sI N2 193 k (nI (endB B k)), ?_, Sm_trans S2 (Sm_sI (by unfold Mf; omega)), fun j hj => ?_⟩
      · rw [if_neg (by decide), if_pos (ok_171 hG1), if_pos (ok_171 hG1), c8, bo, bI_s, if_pos (ok_171 hG1), p1, bV_s, if_pos (ok_171 hG2), if_pos (ok_171 hG2), gr_171_41 hG2, if_pos (show rOK N2 192 0 (0 : Int32) = true from rk_192 hG2 (k := 0) (by omega)), gr_171_43 hG2, if_pos (wk_193 hG2 (by omega)), bM_d, cz, c0, nI_1]
      · rw [gI_sI]
        by_cases e : j = k
        · subst e; rw [if_pos ⟨rfl, rfl⟩, fnB, if_pos hal]
        · rw [if_neg (fun z => e z.2), p2.1.2.2.1 _ _ (by omega), gI_ne (by omega)]; exact h1 j (by omega)) (2 ^ nmB B) 0 M (by omega) ⟨Sm_refl, fun j hj => by omega⟩
  try dsimp only at s1
  have hGN := Gd_Sm s2 hG
  have c9 : gI N 171 36 = nI (2 ^ nmB B) := (BK_mf hB s2).1.2.2.2.2.2.2.2.2.1
  refine ⟨N, ?_, s2, s3⟩
  rw [s1, q212_2, if_pos (ok_171 hGN), c9, if_pos (by rw [nI_leI (by omega) (by omega)]; omega)]
theorem none_ne {n : Nat} (h : n < 2 ^ 31) : NONE ≠ nI n := fun e => by
  have := congrArg Int32.toInt e
  rw [nI_toInt h, show (NONE : Int32).toInt = -1000000 from rfl] at this
  omega
theorem fn_eq {M : Mm} {B : Bk} (hB : BK M B) {k v : Nat} (hv : v < 1000) : fnB B k = nI v ↔ (alB B k && decide (endB B k = v)) = true := by
  have e0 := endB_lt hB k
  unfold fnB
  cases alB B k with
  | false =>
    rw [if_neg (by decide), Bool.false_and]
    constructor
    · intro z; exact absurd z (none_ne (by omega))
    · intro z; cases z
  | true => rw [if_pos rfl, nI_eq (by omega) (by omega), Bool.true_and, decide_eq_true_eq]
/-- cells of the ends -/
def Es (r k : Nat) : Prop := Qs r k ∨ Le r k
theorem Inv_e {E M N : Mm} {B : Bk} (hI : Inv E M B) (h : Sm Es QL M N) (hC : EC N B) : Inv E N B := by
  obtain ⟨a1, a2, a3, a4, a5, a6, a7, ⟨bk, bv, a8⟩, a9, a10⟩ := hI
  have hT := h.2.2.1
  exact ⟨Gd_Sm h a1, EXT_Sm (fun r k z => by unfold Es Le Qs at z; omega) (fun r z => by unfold QL at z; omega) h a2, SHT_cong (fun r k z => hT r k (by unfold rdS at z; unfold Es Le Qs; omega)) a3, TAP_cong (fun r k z => hT r k (by unfold rdT at z; unfold Es Le Qs; omega)) a4, LAT_cong (hT _ _ (by unfold Es Le Qs; omega)) (hT _ _ (by unfold Es Le Qs; omega)) (hT _ _ (by unfold Es Le Qs; omega)) (hT _ _ (by unfold Es Le Qs; omega)) a5, TRC_cong (fun r k z => hT r k (by unfold rdC at z; unfold Es Le Qs; omega)) a6, BK_cong (fun r k z => hT r k (by unfold rdB at z; unfold Es Le Qs; omega)) (fun r z => h.2.2.2 r (by unfold rdL at z; unfold QL; omega)) a7, ⟨bk, bv, BUY_cong (fun r k z => hT r k (by unfold rdU at z; unfold Es Le Qs; omega)) a8⟩, hC, HC_cong (fun r k z => hT r k (by unfold rdH at z; unfold Es Le Qs; omega)) a10⟩
theorem Inv_learn {E M N : Mm} {B : Bk} (hI : Inv E M B) (h : Sm Le NoL M N) (hC : ECk N B) : Inv E N B := Inv_e hI (Sm_mono (fun r k z => Or.inr z) (fun r z => z.elim) h) (Or.inr hC)
theorem q_mf {M N : Mm} (h : Sm Mf NoL M N) : Sm Qs QL M N := Sm_mono (fun r k z => by unfold Mf at z; unfold Qs; omega) (fun r z => z.elim) h
theorem m_ends1 {d : Nat} {M : Mm} {B : Bk} {x : Int32} {v4 v5 : Value} {v : Nat} (hG : Gd M) (hB : BK M B) (hf : ∀ k, k < 2 ^ nmB B → gI M 193 k = fnB B k) (hv : v < 1000) : ∃ x4 x5 : Int32, go (d + 1) 213 21 [.ref 171, .int x, .int (nI (fb_ct (isEndB B) v)), .int (nI v), v4, v5] [] M = if isEndB B v = true ∧ nI (fb_ct (isEndB B) v) = x then some (some (.int (nI v)), M) else go (d + 1) 213 21 [.ref 171, .int x, .int (nI (fb_ct (isEndB B) (v + 1))), .int (nI (v + 1)), .int x4, .int x5] [] M := by
  have hn := BK_nn hB
  have hp := p10 hn.1
  have o := ok_171 hG
  have c9 : gI M 171 36 = nI (2 ^ nmB B) := hB.1.2.2.2.2.2.2.2.2.1
  have b0 : ∀ b : Bool, b2i b = 0 ↔ b = false := fun b => b2i0
  have fin : ∀ (b : Bool) (x5 : Int32), b = isEndB B v → (if b2i b = 0 then go (d + 1) 213 84 [.ref 171, .int x, .int (nI (fb_ct (isEndB B) v)), .int (nI v), .int (b2i b), .int x5] [] M else if nI (fb_ct (isEndB B) v) = x then some (some (.int (nI v)), M) else go (d + 1) 213 84 [.ref 171, .int x, .int (nI (fb_ct (isEndB B) v)), .int (nI v), .int (b2i b), .int x5] [] M) = if isEndB B v = true ∧ nI (fb_ct (isEndB B) v) = x then some (some (.int (nI v)), M) else go (d + 1) 213 21 [.ref 171, .int x, .int (nI (fb_ct (isEndB B) (v + 1))), .int (nI (v + 1)), .int (b2i b), .int x5] [] M := by
    intro b x5 hb
    rw [fb_ct_succ, ← hb]
    cases b with
    | false =>
      rw [if_pos (by decide), if_neg (by simp), q213_84, if_pos (by decide), nI_1, show (0 : Int32) = nI 0 from rfl, nI_add]
      rfl
    | true =>
      rw [if_neg (by decide)]
      by_cases e : nI (fb_ct (isEndB B) v) = x
      · rw [if_pos e, if_pos ⟨rfl, e⟩]
      · rw [if_neg e, if_neg (fun z => e z.2), q213_84, if_neg (by decide), nI_1, nI_1]
        rfl
  have hr := loopX (σ := Int32) (fun k s => go (d + 1) 213 34 [.ref 171, .int x, .int (nI (fb_ct (isEndB B) v)), .int (nI v), .int s, .int (nI k)] [] M) (fun k s => s = b2i (anyB (fun k => alB B k && decide (endB B k = v)) k)) (fun o => ∃ x4 x5 : Int32, o = if isEndB B v = true ∧ nI (fb_ct (isEndB B) v) = x then some (some (.int (nI v)), M) else go (d + 1) 213 21 [.ref 171, .int x, .int (nI (fb_ct (isEndB B) (v + 1))), .int (nI (v + 1)), .int x4, .int x5] [] M) (2 ^ nmB B) (fun k s hk hs => by
    subst hs
    try dsimp only
    cases ha : anyB (fun k => alB B k && decide (endB B k = v)) k with
    | true =>
      refine Or.inl ⟨b2i true, nI k, ?_⟩
      rw [q213_34, if_pos o, c9, if_neg (by rw [nI_leI (by omega) (by omega)]; omega), if_neg (by decide)]
      refine fin true (nI k) ?_
      obtain ⟨j, hj, hq⟩ := anyB_iff.mp ha
      exact (anyB_iff.mpr ⟨j, by omega, hq⟩).symm
    | false =>
      refine Or.inr ⟨_, ?_, rfl⟩
      rw [q213_34, if_pos o, c9, if_neg (by rw [nI_leI (by omega) (by omega)]; omega), if_pos (by decide), if_pos o, gr_171_43 hG, if_pos (rk_193 hG (by omega)), nI_clamp (by omega), hf k hk, nI_1, anyB_s, ha, Bool.false_or]
      simp only [fn_eq hB hv]
      cases (alB B k && decide (endB B k = v)) <;> rfl) (fun s hs => by
    subst hs
    try dsimp only
    refine ⟨b2i (anyB (fun k => alB B k && decide (endB B k = v)) (2 ^ nmB B)), nI (2 ^ nmB B), ?_⟩
    rw [q213_34, if_pos o, c9, if_pos (by rw [nI_leI (by omega) (by omega)]; omega)]
    exact fin _ _ rfl) (2 ^ nmB B) 0 0 (by omega) rfl
  try dsimp only at hr
  rw [q213_21, if_neg (by rw [show (1000 : Int32) = nI 1000 from rfl, nI_leI (by omega) (by omega)]; omega)]
  exact hr
/-- what ends answers -/
theorem m_ends {d : Nat} {M : Mm} {B : Bk} {x r : Int32} (hG : Gd M) (hB : BK M B) (hf : ∀ k, k < 2 ^ nmB B → gI M 193 k = fnB B k) (h1 : ∀ v, v < 1000 → isEndB B v = true → nI (fb_ct (isEndB B) v) = x → r = nI v) (h2 : (∀ v, v < 1000 → isEndB B v = true → nI (fb_ct (isEndB B) v) ≠ x) → r = if x = -1 then nI (fb_ct (isEndB B) 1000) else NONE) : go (d + 1) 213 21 [.ref 171, .int x, .int (0 : Int32), .int (0 : Int32), .null, .null] [] M = some (some (.int r), M) := by
  have hr := loopX (σ := Value × Value) (fun v s => go (d + 1) 213 21 [.ref 171, .int x, .int (nI (fb_ct (isEndB B) v)), .int (nI v), s.1, s.2] [] M) (fun v s => ∀ u, u < v → isEndB B u = true → nI (fb_ct (isEndB B) u) ≠ x) (fun o => o = some (some (.int r), M)) 1000 (fun v s hv hs => by
    obtain ⟨v4, v5⟩ := s
    obtain ⟨x4, x5, e⟩ := m_ends1 (d := d) (x := x) (v4 := v4) (v5 := v5) hG hB hf hv
    by_cases hc : isEndB B v = true ∧ nI (fb_ct (isEndB B) v) = x
    · left
      rw [if_pos hc] at e
      rw [h1 v hv hc.1 hc.2]
      exact e
    · right
      rw [if_neg hc] at e
      refine ⟨(.int x4, .int x5), e, fun u hu hue hux => ?_⟩
      by_cases huv : u = v
      · subst huv; exact hc ⟨hue, hux⟩
      · exact hs u (by omega) hue hux) (fun s hs => by
    try dsimp only
    rw [q213_21, if_pos (by decide), h2 hs]
    by_cases e : x = -1
    · rw [if_pos e, if_pos e]
    · rw [if_neg e, if_neg e]) 1000 0 (.null, .null) (by omega) (fun u hu => by omega)
  exact hr
theorem op_ends {E M : Mm} {B : Bk} {d : Nat} (hI : Inv E M B) (x : Int32) : Alike E M (d + 5) 132 213 [.ref 1, .int x] [.ref 171, .int x, .null, .null, .null, .null] := by
  have hG := hI.1
  have hB := hI.2.2.2.2.2.2.1
  have hE := hI.2.2.2.2.2.2.2.2.1
  by_cases hx : ((-1) : Int32) ≤ x
  · obtain ⟨N, s, hS, hC⟩ := c_learn (d := d) hG hB hE
    have hIN := Inv_learn hI hS hC
    have hGN := hIN.1
    have hB2 := (thr hIN).2.2.2.2.2.2.1
    obtain ⟨N2, t, hS2, hf⟩ := m_findEnds (d := d + 1) (M := sI N 171 0 0) hGN hB2
    have hG2 := Gd_Sm hS2 (show Gd (sI N 171 0 0) from hGN)
    have hB3 := BK_mf hB2 hS2
    obtain ⟨c1, c2, c3, c4⟩ := hC
    have hle := fb_ct_le (isEndB B) 1000
    have fin : ∀ r : Int32, go (d + 5) 132 0 [.ref 1, .int x] [] M = some (some (.int r), N) → (∀ v, v < 1000 → isEndB B v = true → nI (fb_ct (isEndB B) v) = x → r = nI v) → ((∀ v, v < 1000 → isEndB B v = true → nI (fb_ct (isEndB B) v) ≠ x) → r = if x = -1 then nI (fb_ct (isEndB B) 1000) else NONE) → Alike E M (d + 5) 132 213 [.ref 1, .int x] [.ref 171, .int x, .null, .null, .null, .null] := fun r h1 h2 h3 => by
      refine ⟨r, N, N2, B, h1, ?_, Inv_q (thr hIN) (q_mf hS2)⟩
      rw [q213_0, if_pos (ok_171 hGN), bM_d, if_pos hx, okO_sI, if_pos (ok_171 hGN), t, bV_s]
      exact m_ends (d := d + 4) hG2 hB3 hf h2 h3
    by_cases e1 : x = -1
    · subst e1
      refine fin (nI (fb_ct (isEndB B) 1000)) ?_ (fun v hv _ e => ?_) (fun _ => by rw [if_pos rfl])
      · rw [q132_0, if_pos hx, if_pos (ok_1 hG), gr_1_5 hG, if_pos (ok_138 hG), s, bV_s, if_pos rfl, if_pos (ok_1 hGN), gr_1_5 hGN, if_pos (ok_138 hGN), c3]
      · have := congrArg Int32.toInt e
        have h4 := fb_ct_le (isEndB B) v
        rw [nI_toInt (by omega), show ((-1) : Int32).toInt = -1 from rfl] at this
        omega
    · have h0 : ¬ x < 0 := fun z => e1 (by
        have h5 := (fa_lt _ _).mp z
        have h6 := (fa_le _ _).mp hx
        rw [show (0 : Int32).toInt = 0 from rfl] at h5
        rw [show ((-1) : Int32).toInt = -1 from rfl] at h6
        exact Int32.toInt_inj.mp (by rw [show ((-1) : Int32).toInt = -1 from rfl]; omega))
      obtain ⟨j, hj, rfl⟩ := nI_of h0
      by_cases h7 : j < fb_ct (isEndB B) 1000
      · obtain ⟨v, hv, hve, hvc⟩ := ct_find h7
        have g := c4 v hv hve
        rw [hvc] at g
        refine fin (nI v) ?_ (fun u hu hue e => ?_) (fun hno => absurd (by rw [hvc]) (hno v hv hve))
        · rw [q132_0, if_pos hx, if_pos (ok_1 hG), gr_1_5 hG, if_pos (ok_138 hG), s, bV_s, if_neg e1, if_pos (ok_1 hGN), gr_1_5 hGN, if_pos (ok_138 hGN), c3, if_neg (by rw [nI_leI (by omega) (by omega)]; omega), if_pos (ok_1 hGN), if_pos (ok_138 hGN), gr_138_2 hGN, if_pos (rk_143 hGN (by omega)), nI_clamp (by omega), g]
        · have h8 := fb_ct_le (isEndB B) u
          rw [nI_eq (by omega) (by omega)] at e
          have g2 := c4 u hu hue
          rw [e, g] at g2
          exact g2
      · refine fin NONE ?_ (fun u hu hue e => ?_) (fun _ => by rw [if_neg e1])
        · rw [q132_0, if_pos hx, if_pos (ok_1 hG), gr_1_5 hG, if_pos (ok_138 hG), s, bV_s, if_neg e1, if_pos (ok_1 hGN), gr_1_5 hGN, if_pos (ok_138 hGN), c3, if_pos (by rw [nI_leI (by omega) (by omega)]; omega)]
        · exfalso
          have h8 := fb_ct_le (isEndB B) u
          rw [nI_eq (by omega) (by omega)] at e
          have h9 := ct_mono (p := isEndB B) (show u + 1 ≤ 1000 by omega)
          rw [fb_ct_succ, hue] at h9
          simp at h9
          omega
  · refine Alike_q hI (-1000001) M (sI M 171 0 0) ?_ Sm_refl ?_ sm0
    · rw [q132_0, if_neg hx]
    · rw [q213_0, if_pos (ok_171 hG), bM_d, if_neg hx]
