/-! ===== the model: the tree ===== -/
def TM (M : Mm) (nm : Nat) (pa wy : Nat → Nat) : Prop := gI M 171 5 = nI nm ∧ nm ≤ 10 ∧ ∀ j, j < nm → pa j ≤ j ∧ wy j < 3 ∧ gI M 175 j = optI (pa j) ∧ gI M 176 j = nI (wy j)
theorem m_hasP {d K p : Nat} {M : Mm} (hK : K < 1024) (hp : p ≤ 10) : go (d + 1) 184 0 [.int (nI K), .int (optI p)] [] M = some (some (.int (b2i (onB K p))), M) := by
  cases p with
  | zero => rw [q184_0, if_pos (show optI 0 = -1000000 from rfl)]; rfl
  | succ q =>
    rw [optI_s, m_has hK (by omega)]
    simp [onB]
theorem optI_inj {a b : Nat} (ha : a ≤ 10) (hb : b ≤ 10) : optI a = optI b ↔ a = b := by
  constructor
  · intro h
    cases a with
    | zero =>
      cases b with
      | zero => rfl
      | succ b => rw [optI_s] at h; exact absurd h (none_ne (by omega))
    | succ a =>
      cases b with
      | zero => rw [optI_s] at h; exact absurd h.symm (none_ne (by omega))
      | succ b => rw [optI_s, optI_s] at h; rw [(nI_eq (by omega) (by omega)).mp h]
  · intro h; rw [h]
def trP (nm : Nat) (pa wy : Nat → Nat) (K j : Nat) : Bool := (!K.testBit j || onB K (pa j)) && (!decide (wy j = 0) || !onB K (pa j) || K.testBit j) && (!decide (wy j = 2) || !onB K (pa j) || decide (fb_ct (fun i => decide (wy i = 2) && decide (pa i = pa j) && K.testBit i) nm = 1))
theorem m102 {d nm K j : Nat} {M : Mm} {pa wy : Nat → Nat} {x : Bool} (hG : Gd M) (hT : TM M nm pa wy) (hK : K < 1024) (hj : j < nm) : ∃ v4 v5, go (d + 2) 185 102 [.ref 171, .int (nI K), .int (b2i x), .int (nI j), .int (0 : Int32), .int (0 : Int32)] [] M = go (d + 2) 185 4 [.ref 171, .int (nI K), .int (b2i (x && decide (fb_ct (fun i => decide (wy i = 2) && decide (pa i = pa j) && K.testBit i) nm = 1))), .int (nI (j + 1)), v4, v5] [] M := by
  obtain ⟨c1, c2, c3⟩ := hT
  have o := ok_171 hG
  obtain ⟨j1, j2, j3, j4⟩ := c3 j hj
  obtain ⟨-, r1, -⟩ := loopI (σ := Unit) (fun i _ => go (d + 2) 185 102 [.ref 171, .int (nI K), .int (b2i x), .int (nI j), .int (nI (fb_ct (fun i => decide (wy i = 2) && decide (pa i = pa j) && K.testBit i) i)), .int (nI i)] [] M) (fun _ _ => True) nm (fun i _ hi _ => by
    obtain ⟨i1, i2, i3, i4⟩ := c3 i hi
    have n2 : nI (wy i) = 2 ↔ wy i = 2 := nI_eq (a := wy i) (b := 2) (by omega) (by omega)
    have m := m_has (d := d) (M := M) hK (show i < 10 by omega)
    refine ⟨(), ?_, trivial⟩
    try dsimp only
    rw [q185_102, if_pos o, c1, if_neg (by rw [nI_leI (by omega) (by omega)]; omega), if_pos o, gr_171_7 hG, if_pos (rk_176 hG (by omega)), nI_clamp (show i < 2 ^ 31 by omega), i4, gr_171_6 hG, if_pos o, if_pos (rk_175 hG (by omega)), if_pos o, if_pos (rk_175 hG (by omega)), nI_clamp (show j < 2 ^ 31 by omega), i3, j3, m, bI_s, fb_ct_succ, nI_1, nI_1, show (0 : Int32) = nI 0 from rfl, nI_add, Nat.add_zero]
    by_cases h2 : wy i = 2
    · rw [if_pos (n2.mpr h2)]
      by_cases h3 : pa i = pa j
      · rw [if_pos ((optI_inj (by omega) (by omega)).mpr h3)]
        cases hb : K.testBit i
        · rw [if_pos (show b2i false = nI 0 from rfl)]; simp
        · rw [if_neg (show ¬ b2i true = nI 0 by decide)]; simp [h2, h3]
      · rw [if_neg (fun z => h3 ((optI_inj (by omega) (by omega)).mp z))]; simp [h3]
    · rw [if_neg (fun z => h2 (n2.mp z))]; simp [h2]) nm 0 () (by omega) trivial
  have r1' : go (d + 2) 185 102 [.ref 171, .int (nI K), .int (b2i x), .int (nI j), .int (0 : Int32), .int (0 : Int32)] [] M = _ := r1
  rw [r1']
  try dsimp only
  have lc : fb_ct (fun i => decide (wy i = 2) && decide (pa i = pa j) && K.testBit i) nm ≤ 10 := Nat.le_trans (fb_ct_le _ _) c2
  have x1 : nI (fb_ct (fun i => decide (wy i = 2) && decide (pa i = pa j) && K.testBit i) nm) = 1 ↔ fb_ct (fun i => decide (wy i = 2) && decide (pa i = pa j) && K.testBit i) nm = 1 := nI_eq (b := 1) (by omega) (by omega)
  refine ⟨.int (nI (fb_ct (fun i => decide (wy i = 2) && decide (pa i = pa j) && K.testBit i) nm)), .int (nI nm), ?_⟩
  rw [q185_102, if_pos o, c1, if_pos (by rw [nI_leI (by omega) (by omega)]; omega), nI_1]
  cases x with
  | false => rw [if_pos (by decide)]; rfl
  | true =>
    rw [if_neg (by decide)]
    by_cases h1 : fb_ct (fun i => decide (wy i = 2) && decide (pa i = pa j) && K.testBit i) nm = 1
    · rw [if_pos (x1.mpr h1), decide_eq_true h1]; rfl
    · rw [if_neg (fun z => h1 (x1.mp z)), decide_eq_false h1]; rfl
theorem m72 {d nm K j : Nat} {M : Mm} {pa wy : Nat → Nat} {y : Bool} {x2 : Int32} {v4 v5 : Value} (hG : Gd M) (hT : TM M nm pa wy) (hK : K < 1024) (hj : j < nm) : ∃ v4' v5', go (d + 2) 185 72 [.ref 171, .int (nI K), .int x2, .int (nI j), v4, v5] [.int (b2i y)] M = go (d + 2) 185 4 [.ref 171, .int (nI K), .int (b2i (y && (!decide (wy j = 2) || !onB K (pa j) || decide (fb_ct (fun i => decide (wy i = 2) && decide (pa i = pa j) && K.testBit i) nm = 1)))), .int (nI (j + 1)), v4', v5'] [] M := by
  have hT' := hT
  obtain ⟨c1, c2, c3⟩ := hT
  have o := ok_171 hG
  obtain ⟨j1, j2, j3, j4⟩ := c3 j hj
  have n2 : nI (wy j) = 2 ↔ wy j = 2 := nI_eq (a := wy j) (b := 2) (by omega) (by omega)
  have m := m_hasP (d := d) (M := M) hK (show pa j ≤ 10 by omega)
  rw [q185_72, if_pos o, gr_171_7 hG, if_pos (rk_176 hG (by omega)), nI_clamp (by omega), j4]
  by_cases h2 : wy j = 2
  · rw [if_pos (n2.mpr h2), if_pos o, gr_171_6 hG, if_pos (rk_175 hG (by omega)), j3, m, bI_s]
    cases ho : onB K (pa j) with
    | false =>
      refine ⟨v4, v5, ?_⟩
      rw [if_pos (by decide), nI_1]; simp
    | true =>
      rw [if_neg (by decide)]
      obtain ⟨a, b, e⟩ := m102 (d := d) (x := y) hG hT' hK hj
      refine ⟨a, b, ?_⟩
      rw [e]; simp [h2]
  · refine ⟨v4, v5, ?_⟩
    rw [if_neg (fun z => h2 (n2.mp z)), nI_1]; simp [h2]
theorem m_treeStep {d nm K j : Nat} {M : Mm} {pa wy : Nat → Nat} {x : Bool} {v4 v5 : Value} (hG : Gd M) (hT : TM M nm pa wy) (hK : K < 1024) (hj : j < nm) : ∃ v4' v5', go (d + 2) 185 4 [.ref 171, .int (nI K), .int (b2i x), .int (nI j), v4, v5] [] M = go (d + 2) 185 4 [.ref 171, .int (nI K), .int (b2i (x && trP nm pa wy K j)), .int (nI (j + 1)), v4', v5'] [] M := by
  have K72 := fun y => m72 (d := d) (y := y) (x2 := b2i x) (v4 := v4) (v5 := v5) hG hT hK hj
  obtain ⟨c1, c2, c3⟩ := hT
  have o := ok_171 hG
  obtain ⟨j1, j2, j3, j4⟩ := c3 j hj
  have n0 : nI (wy j) = 0 ↔ wy j = 0 := nI_eq (a := wy j) (b := 0) (by omega) (by omega)
  have mp := m_hasP (d := d) (M := M) hK (show pa j ≤ 10 by omega)
  have mj := m_has (d := d) (M := M) hK (show j < 10 by omega)
  have st : go (d + 2) 185 4 [.ref 171, .int (nI K), .int (b2i x), .int (nI j), v4, v5] [] M = go (d + 2) 185 72 [.ref 171, .int (nI K), .int (b2i x), .int (nI j), v4, v5] [.int (b2i (x && ((!K.testBit j || onB K (pa j)) && (!decide (wy j = 0) || !onB K (pa j) || K.testBit j))))] M := by
    rw [q185_4, if_pos o, c1, if_neg (by rw [nI_leI (by omega) (by omega)]; omega)]
    cases x with
    | false => rw [if_pos (by decide)]; rfl
    | true =>
      rw [if_neg (by decide), mj, bI_s, if_pos o, gr_171_7 hG, if_pos (rk_176 hG (by omega)), nI_clamp (by omega), j4, gr_171_6 hG, if_pos o, if_pos (rk_175 hG (by omega)), j3, mp, bI_s, mj, bI_s]
      cases hb : K.testBit j with
      | false =>
        rw [if_pos (by decide)]
        by_cases h0 : wy j = 0
        · rw [if_pos (n0.mpr h0)]
          cases onB K (pa j)
          · rw [if_pos (by decide)]; simp; rfl
          · rw [if_neg (by decide), if_pos (by decide)]; simp [h0]; rfl
        · rw [if_neg (fun z => h0 (n0.mp z))]; simp [h0]; rfl
      | true =>
        rw [hb] at mj
        rw [if_neg (by decide), if_pos o, if_pos (rk_175 hG (by omega)), bI_s]
        cases ho : onB K (pa j) with
        | false => rw [if_pos (by decide)]; simp; rfl
        | true =>
          rw [ho] at mp
          rw [if_neg (by decide), if_pos o, gr_171_7 hG, if_pos (rk_176 hG (by omega)), j4, gr_171_6 hG, if_pos o, if_pos (rk_175 hG (by omega)), j3, mp, bI_s, mj, bI_s]
          by_cases h0 : wy j = 0
          · rw [if_pos (n0.mpr h0), if_neg (by decide), if_neg (by decide)]; simp; rfl
          · rw [if_neg (fun z => h0 (n0.mp z))]; simp; rfl
  obtain ⟨a, b, e⟩ := K72 (x && ((!K.testBit j || onB K (pa j)) && (!decide (wy j = 0) || !onB K (pa j) || K.testBit j)))
  refine ⟨a, b, ?_⟩
  rw [st, e, Bool.and_assoc]
  rfl
theorem m_holdsTree {d nm K : Nat} {M : Mm} {pa wy : Nat → Nat} (hG : Gd M) (hT : TM M nm pa wy) (hK : K < 1024) : go (d + 2) 185 0 [.ref 171, .int (nI K), .null, .null, .null, .null] [] M = some (some (.int (b2i (treeB nm pa wy K))), M) := by
  obtain ⟨s, r1, -⟩ := loopI (σ := Value × Value) (fun j s => go (d + 2) 185 4 [.ref 171, .int (nI K), .int (b2i (allB (trP nm pa wy K) j)), .int (nI j), s.1, s.2] [] M) (fun _ _ => True) nm (fun j s hj _ => by
    obtain ⟨a, b, e⟩ := m_treeStep (d := d) (x := allB (trP nm pa wy K) j) (v4 := s.1) (v5 := s.2) hG hT hK hj
    exact ⟨(a, b), e, trivial⟩) nm 0 (.null, .null) (by omega) trivial
  have r1' : go (d + 2) 185 4 [.ref 171, .int (nI K), .int (1 : Int32), .int (0 : Int32), .null, .null] [] M = _ := r1
  rw [q185_0, r1']
  try dsimp only
  rw [q185_4, if_pos (ok_171 hG), hT.1, if_pos (by rw [nI_leI (by have := hT.2.1; omega) (by have := hT.2.1; omega)]; omega), if_pos (b2i01 _)]
  rfl
/-! ===== the model works out anew ===== -/
def So (r _k : Nat) : Prop := r = 189 ∨ r = 190 ∨ r = 191
theorem So_i {M N : Mm} (h : Sm Si NoL M N) : Sm So NoL M N := Sm_mono (fun r k z => Or.inr (Or.inr z)) (fun w z => z) h
theorem or256 {F : Nat → Bool} {n : Nat} (hn : n ≤ 8) (t : Bool) : nI (if t then 256 else 0) ||| nI (bset F n) = nI (bset F n + (if t then 256 else 0)) := by
  rw [fa_or]
  congr 1
  cases t
  · simp
  · have h := bset_lt F n
    have h8 : bset F n < 2 ^ 8 := Nat.lt_of_lt_of_le h (Nat.pow_le_pow_right (by omega) hn)
    have e := Nat.two_pow_add_eq_or_of_lt h8 1
    simp only [if_true]
    rw [show (256 : Nat) = 2 ^ 8 * 1 from rfl, ← e, Nat.add_comm]
def WM (M : Mm) (nm nl nn : Nat) (pa wy : Nat → Nat) (g h : Nat → Nat → Bool) : Prop := Gd M ∧ TM M nm pa wy ∧ (gI M 171 8 = nI nl ∧ nl ≤ 8) ∧ (gI M 171 9 = nI nn ∧ nn ≤ 24) ∧ (∀ l, l < nl → SAI M l (g l)) ∧ ∀ i, i < nn → SAI M (8 + i) (h i)
theorem WM.gd {M : Mm} {nm nl nn : Nat} {pa wy : Nat → Nat} {g h : Nat → Nat → Bool} (w : WM M nm nl nn pa wy g h) : Gd M := And.left w
theorem WM.tm {M : Mm} {nm nl nn : Nat} {pa wy : Nat → Nat} {g h : Nat → Nat → Bool} (w : WM M nm nl nn pa wy g h) : TM M nm pa wy := And.left (And.right w)
theorem WM.l8 {M : Mm} {nm nl nn : Nat} {pa wy : Nat → Nat} {g h : Nat → Nat → Bool} (w : WM M nm nl nn pa wy g h) : gI M 171 8 = nI nl ∧ nl ≤ 8 := And.left (And.right (And.right w))
theorem WM.l9 {M : Mm} {nm nl nn : Nat} {pa wy : Nat → Nat} {g h : Nat → Nat → Bool} (w : WM M nm nl nn pa wy g h) : gI M 171 9 = nI nn ∧ nn ≤ 24 := And.left (And.right (And.right (And.right w)))
theorem WM.ls {M : Mm} {nm nl nn : Nat} {pa wy : Nat → Nat} {g h : Nat → Nat → Bool} (w : WM M nm nl nn pa wy g h) : ∀ l, l < nl → SAI M l (g l) := And.left (And.right (And.right (And.right (And.right w))))
theorem WM.ns {M : Mm} {nm nl nn : Nat} {pa wy : Nat → Nat} {g h : Nat → Nat → Bool} (w : WM M nm nl nn pa wy g h) : ∀ i, i < nn → SAI M (8 + i) (h i) := And.right (And.right (And.right (And.right (And.right w))))
theorem WM_S {M N : Mm} {nm nl nn : Nat} {pa wy : Nat → Nat} {g h : Nat → Nat → Bool} (w : WM M nm nl nn pa wy g h) (hS : Sm So NoL M N) : WM N nm nl nn pa wy g h := by
  have q : ∀ r k, ¬ So r k → gI N r k = gI M r k := hS.2.2.1
  refine ⟨Gd_Sm hS w.gd, ⟨(q _ _ (by unfold So; omega)).trans w.tm.1, w.tm.2.1, fun j hj => ?_⟩, ⟨(q _ _ (by unfold So; omega)).trans w.l8.1, w.l8.2⟩, ⟨(q _ _ (by unfold So; omega)).trans w.l9.1, w.l9.2⟩, fun l hl => SAI_at (w.ls l hl) (q _ _ (by unfold So; omega)) (fun i _ => q _ _ (by unfold So; omega)), fun l hl => SAI_at (w.ns l hl) (q _ _ (by unfold So; omega)) (fun i _ => q _ _ (by unfold So; omega))⟩
  rw [q _ _ (by unfold So; omega), q _ _ (by unfold So; omega)]; exact w.tm.2.2 j hj
theorem w38 {d k nm nl nn : Nat} {M : Mm} {pa wy : Nat → Nat} {g h : Nat → Nat → Bool} {v4 : Value} {x2 : Int32} (t : Bool) (w : WM M nm nl nn pa wy g h) (hk : k < 1024) (hx : x2 = nI (if t then 256 else 0)) : ∃ N, go (d + 2) 186 38 [.ref 171, .int (nI k), .int x2, .int (0 : Int32), v4] [] M = go (d + 2) 186 83 [.ref 171, .int (nI k), .int (nI (bset (fun l => g l k) nl + (if t then 256 else 0))), .int (0 : Int32), .int (0 : Int32)] [] (sI N 189 k (nI (bset (fun l => g l k) nl + (if t then 256 else 0)))) ∧ Sm Si NoL M N := by
  obtain ⟨s, r1, r2, r3⟩ := loopI (σ := Int32 × Mm) (fun l s => go (d + 2) 186 38 [.ref 171, .int (nI k), .int s.1, .int (nI l), v4] [] s.2) (fun l s => Sm Si NoL M s.2 ∧ s.1 = nI (if t then 256 else 0) ||| nI (bset (fun l => g l k) l)) nl (fun l s hl hs => by
    obtain ⟨s1, s2⟩ := s
    obtain ⟨h1, h2⟩ := hs
    have h2' : s1 = nI (if t then 256 else 0) ||| nI (bset (fun l => g l k) l) := h2
    have wN := WM_S w (So_i h1)
    obtain ⟨N', a1, a2⟩ := m_isSaid (d := d) (K := k) wN.gd (show l < 32 by have := w.l8.2; omega) hk (wN.ls l hl)
    have ol := w.l8.2
    have o := ok_171 wN.gd
    refine ⟨(nI (if t then 256 else 0) ||| nI (bset (fun l => g l k) (l + 1)), N'), ?_, Sm_trans h1 a2, rfl⟩
    try dsimp only
    rw [q186_38, if_pos o, wN.l8.1, if_neg (by rw [nI_leI (by omega) (by omega)]; omega), if_pos o, a1, bI_s, nI_1, h2']
    cases hb : g l k with
    | false => rw [if_pos (by decide), Int32.or_zero, no_b (p := fun l => g l k) hb]
    | true => rw [if_neg (by decide), Int32.or_assoc, or_b (p := fun l => g l k) (by omega) hb]) nl 0 (x2, M) (by omega) ⟨Sm_refl, by
      show x2 = nI (if t then 256 else 0) ||| nI 0
      rw [fa_or, Nat.or_zero]; exact hx⟩
  obtain ⟨s1, N⟩ := s
  have wN := WM_S w (So_i r2)
  have ol := w.l8.2
  have r3' : s1 = nI (bset (fun l => g l k) nl + (if t then 256 else 0)) := by
    have : s1 = nI (if t then 256 else 0) ||| nI (bset (fun l => g l k) nl) := r3
    rw [this, or256 ol]
  refine ⟨N, ?_, r2⟩
  have r1' : go (d + 2) 186 38 [.ref 171, .int (nI k), .int x2, .int (0 : Int32), v4] [] M = go (d + 2) 186 38 [.ref 171, .int (nI k), .int s1, .int (nI nl), v4] [] N := r1
  rw [r1', q186_38, if_pos (ok_171 wN.gd), wN.l8.1, if_pos (by rw [nI_leI (by omega) (by omega)]; omega), if_pos (ok_171 wN.gd), gr_171_37 wN.gd, if_pos (wk_189 wN.gd hk), bM_d, nI_clamp (by omega), r3']
theorem w83 {d k nm nl nn : Nat} {M : Mm} {pa wy : Nat → Nat} {g h : Nat → Nat → Bool} {x2 : Int32} (w : WM M nm nl nn pa wy g h) (hk : k < 1024) : ∃ v2 v3 v4 N, go (d + 2) 186 83 [.ref 171, .int (nI k), .int x2, .int (0 : Int32), .int (0 : Int32)] [] M = go (d + 2) 186 12 [.ref 171, .int (nI (k + 1)), v2, v3, v4] [] (sI N 190 k (nI (bset (fun i => h i k) nn))) ∧ Sm Si NoL M N := by
  obtain ⟨N, r1, r2⟩ := loopI (σ := Mm) (fun i N => go (d + 2) 186 83 [.ref 171, .int (nI k), .int x2, .int (nI (bset (fun i => h i k) i)), .int (nI i)] [] N) (fun _ N => Sm Si NoL M N) nn (fun i N hi h1 => by
    have wN := WM_S w (So_i h1)
    have ol := w.l9.2
    obtain ⟨N', a1, a2⟩ := m_isSaid (d := d) (K := k) wN.gd (show 8 + i < 32 by omega) hk (wN.ns i hi)
    have o := ok_171 wN.gd
    refine ⟨N', ?_, Sm_trans h1 a2⟩
    try dsimp only
    rw [q186_83, if_pos o, wN.l9.1, if_neg (by rw [nI_leI (by omega) (by omega)]; omega), if_pos o, show (8 : Int32) + nI i = nI (8 + i) by rw [show (8 : Int32) = nI 8 from rfl, nI_add], a1, bI_s, nI_1]
    cases hb : h i k with
    | false => rw [if_pos (by decide), Int32.or_zero, no_b (p := fun i => h i k) hb]
    | true => rw [if_neg (by decide), or_b (p := fun i => h i k) (by omega) hb]) nn 0 M (by omega) Sm_refl
  have wN := WM_S w (So_i r2)
  have ol := w.l9.2
  refine ⟨.int x2, .int (nI (bset (fun i => h i k) nn)), .int (nI nn), N, ?_, r2⟩
  have r1' : go (d + 2) 186 83 [.ref 171, .int (nI k), .int x2, .int (0 : Int32), .int (0 : Int32)] [] M = go (d + 2) 186 83 [.ref 171, .int (nI k), .int x2, .int (nI (bset (fun i => h i k) nn)), .int (nI nn)] [] N := r1
  rw [r1', q186_83, if_pos (ok_171 wN.gd), wN.l9.1, if_pos (by rw [nI_leI (by omega) (by omega)]; omega), if_pos (ok_171 wN.gd), gr_171_38 wN.gd, if_pos (wk_190 wN.gd hk), bM_d, nI_clamp (by omega), nI_1]
def Sw (r k : Nat) : Prop := So r k ∨ (r = 171 ∧ k = 36)
theorem shl1p : ∀ m, m < 11 → ((1 : Int32) <<< (nI m &&& 31)) = nI (2 ^ m) := fun m hm => shl1 m (by omega)
theorem m_workOut {d nm nl nn : Nat} {M : Mm} {pa wy : Nat → Nat} {g h : Nat → Nat → Bool} (w : WM M nm nl nn pa wy g h) : ∃ N, go (d + 3) 186 0 [.ref 171, .null, .null, .null, .null] [] M = some (none, N) ∧ Sm Sw NoL M N ∧ gI N 171 36 = nI (2 ^ nm) ∧ (∀ k, k < 2 ^ nm → gI N 189 k = nI (bset (fun l => g l k) nl + (if treeB nm pa wy k then 256 else 0))) ∧ (∀ k, k < 2 ^ nm → gI N 190 k = nI (bset (fun i => h i k) nn)) := by
  have hp := p10 w.tm.2.1
  have A : ∃ N, N = sI M 171 36 (nI (2 ^ nm)) := ⟨_, rfl⟩
  obtain ⟨M1, e1⟩ := A
  have w1 : WM M1 nm nl nn pa wy g h := by
    rw [e1]
    have q : ∀ r k, ¬ (r = 171 ∧ k = 36) → gI (sI M 171 36 (nI (2 ^ nm))) r k = gI M r k := fun r k z => gI_ne z
    refine ⟨w.gd, ⟨(q _ _ (by omega)).trans w.tm.1, w.tm.2.1, fun j hj => ?_⟩, ⟨(q _ _ (by omega)).trans w.l8.1, w.l8.2⟩, ⟨(q _ _ (by omega)).trans w.l9.1, w.l9.2⟩, fun l hl => SAI_at (w.ls l hl) (q _ _ (by omega)) (fun i _ => q _ _ (by omega)), fun l hl => SAI_at (w.ns l hl) (q _ _ (by omega)) (fun i _ => q _ _ (by omega))⟩
    rw [q _ _ (by omega), q _ _ (by omega)]; exact w.tm.2.2 j hj
  have g36 : gI M1 171 36 = nI (2 ^ nm) := by rw [e1, gI_at]
  obtain ⟨s, r1, r2, r3, r4⟩ := loopI (σ := (Value × Value × Value) × Mm) (fun k s => go (d + 3) 186 12 [.ref 171, .int (nI k), s.1.1, s.1.2.1, s.1.2.2] [] s.2) (fun k s => Sm So NoL M1 s.2 ∧ (∀ j, j < k → gI s.2 189 j = nI (bset (fun l => g l j) nl + (if treeB nm pa wy j then 256 else 0))) ∧ (∀ j, j < k → gI s.2 190 j = nI (bset (fun i => h i j) nn))) (2 ^ nm) (fun k s hk hs => by
    obtain ⟨⟨v2, v3, v4⟩, N⟩ := s
    obtain ⟨h1, h2, h3⟩ := hs
    have wN := WM_S w1 h1
    have n36 : gI N 171 36 = nI (2 ^ nm) := (h1.2.2.1 _ _ (by unfold So; omega)).trans g36
    have th := m_holdsTree (d := d) (K := k) wN.gd wN.tm (by omega)
    obtain ⟨N1, a1, a2⟩ := w38 (d := d + 1) (k := k) (v4 := v4) (x2 := nI (if treeB nm pa wy k then 256 else 0)) (treeB nm pa wy k) wN (by omega) rfl
    have S1 : Sm So NoL N (sI N1 189 k (nI (bset (fun l => g l k) nl + (if treeB nm pa wy k then 256 else 0)))) := Sm_trans (So_i a2) (Sm_sI (Or.inl rfl))
    have wN1 := WM_S wN S1
    obtain ⟨u2, u3, u4, N2, b1, b2⟩ := w83 (d := d + 1) (k := k) (x2 := nI (bset (fun l => g l k) nl + (if treeB nm pa wy k then 256 else 0))) wN1 (by omega)
    refine ⟨((u2, u3, u4), sI N2 190 k (nI (bset (fun i => h i k) nn))), ?_, Sm_trans h1 (Sm_trans S1 (Sm_trans (So_i b2) (Sm_sI (Or.inr (Or.inl rfl))))), fun j hj => ?_, fun j hj => ?_⟩
    · try dsimp only
      rw [q186_12, if_pos (ok_171 wN.gd), n36, if_neg (by rw [nI_leI (by omega) (by omega)]; omega), if_pos (ok_171 wN.gd), th, bI_s, ← b1]
      cases hz : treeB nm pa wy k with
      | false =>
        rw [hz] at a1
        rw [if_pos (by decide)]; exact a1
      | true =>
        rw [hz] at a1
        rw [if_neg (by decide)]; exact a1
    · have q : gI (sI N2 190 k (nI (bset (fun i => h i k) nn))) 189 j = gI (sI N1 189 k (nI (bset (fun l => g l k) nl + (if treeB nm pa wy k then 256 else 0)))) 189 j := by
        rw [gI_ne (by omega), b2.2.2.1 _ _ (by unfold Si; omega)]
      try dsimp only
      rw [q]
      by_cases e : j = k
      · subst e; rw [gI_at]
      · rw [gI_ne (by omega), a2.2.2.1 _ _ (by unfold Si; omega)]; exact h2 j (by omega)
    · try dsimp only
      by_cases e : j = k
      · subst e; rw [gI_at]
      · rw [gI_ne (by omega), b2.2.2.1 _ _ (by unfold Si; omega), gI_ne (by omega), a2.2.2.1 _ _ (by unfold Si; omega)]; exact h3 j (by omega)) (2 ^ nm) 0 ((.null, .null, .null), M1) (by omega) ⟨Sm_refl, fun j hj => (by omega), fun j hj => (by omega)⟩
  obtain ⟨⟨v2, v3, v4⟩, N⟩ := s
  have wN := WM_S w1 r2
  have n36 : gI N 171 36 = nI (2 ^ nm) := (r2.2.2.1 _ _ (by unfold So; omega)).trans g36
  refine ⟨N, ?_, Sm_trans (N := M1) (by rw [e1]; exact Sm_sI (Or.inr ⟨rfl, rfl⟩)) (Sm_mono (fun r k z => Or.inl z) (fun w z => z) r2), n36, r3, r4⟩
  have r1' : go (d + 3) 186 12 [.ref 171, .int (0 : Int32), .null, .null, .null] [] M1 = go (d + 3) 186 12 [.ref 171, .int (nI (2 ^ nm)), v2, v3, v4] [] N := r1
  rw [q186_0, if_pos (ok_171 w.gd), if_pos (ok_171 w.gd), w.tm.1, shl1p nm (by have := w.tm.2.1; omega), bM_d, ← e1, r1', q186_12, if_pos (ok_171 wN.gd), n36, if_pos (by rw [nI_leI (by omega) (by omega)]; omega)]
