/-! ===== hold: the model's side ===== -/
def ix4 (a b : Nat) (x y : Bool) : Nat := 4 * (10 * a + b) + 2 * x.toNat + y.toNat
theorem ix4_lt {a b : Nat} {x y : Bool} (ha : a < 10) (hb : b < 10) : ix4 a b x y < 400 := by
  unfold ix4; cases x <;> cases y <;> simp <;> omega
theorem ix4_inj {a b a' b' : Nat} {x y x' y' : Bool} (hb : b < 10) (hb' : b' < 10) (h : ix4 a b x y = ix4 a' b' x' y') : a = a' ∧ b = b' ∧ x = x' ∧ y = y' := by
  unfold ix4 at h
  cases x <;> cases y <;> cases x' <;> cases y' <;> simp at h ⊢ <;> omega
theorem sI_self {M : Mm} {i k : Nat} {v : Int32} (h : gI M i k = v) : sI M i k v = M := by
  obtain ⟨n, a, l, r⟩ := M
  show (n, (fun x y => if x = i ∧ y = k then v else a x y), l, r) = (n, a, l, r)
  have : (fun x y => if x = i ∧ y = k then v else a x y) = a := by
    funext x y
    split
    · rename_i z; rw [z.1, z.2]; exact h.symm
    · rfl
  rw [this]
theorem z194 (N : Mm) (j : Nat) : sZ N 194 j 0 = sI N 194 j 0 := rfl
theorem z194' (N : Mm) (j : Nat) : sZ N 194 j 1 = sI N 194 j 1 := rfl
def anB (L : List Nat) (a b : Nat) (x y : Bool) : Bool := L.any (fun p => (p.testBit a == x) && (p.testBit b == y))
def HADM (N : Mm) (nm : Nat) (L : List Nat) : Prop := ∀ a, a < nm → ∀ b, b < a → ∀ x y : Bool, gI N 194 (ix4 a b x y) = b2i (anB L a b x y)
theorem z_ix {k a b : Nat} (hk : k < 1024) (ha : a < 10) (hb : b < 10) : (((4 : Int32) * (((10 : Int32) * nI a) + nI b)) + ((2 : Int32) * ((nI k >>> (nI a &&& 31)) &&& (1 : Int32)))) + ((nI k >>> (nI b &&& 31)) &&& (1 : Int32)) = nI (ix4 a b (k.testBit a) (k.testBit b)) := by
  rw [bitN (by omega) (by omega), bitN (by omega) (by omega), show (10 : Int32) = nI 10 from rfl, show (4 : Int32) = nI 4 from rfl, show (2 : Int32) = nI 2 from rfl, pk_mul, nI_add, pk_mul, pk_mul, nI_add, nI_add]
  rfl
theorem m_np0 {d k : Nat} {M : Mm} {B : Bk} {L : List Nat} (hG : Gd M) (hB : BK M B) (hH : HADM M (nmB B) L) (hk : k < 2 ^ nmB B) : go (d + 1) 216 0 [.ref 171, .int (nI k), .int (0 : Int32), .null, .null, .null, .null] [] M = some (some (.int (nI (npB (nmB B) L k))), M) := by
  have hn := BK_nn hB
  have hp := p10 hn.1
  have c2 : gI M 171 5 = nI (nmB B) := hB.1.2.1
  have o := ok_171 hG
  rw [q216_0]
  obtain ⟨⟨s, v5, v6⟩, s1, s2⟩ := loopI (σ := Int32 × Value × Value) (fun a s => go (d + 1) 216 5 [.ref 171, .int (nI k), .int (0 : Int32), .int s.1, .int (nI a), s.2.1, s.2.2] [] M) (fun a s => s.1 = nI (fb_sm (fun a => fb_ct (fun b => nwB L k a b) a) a)) (nmB B) (fun a s ha hs => by
    obtain ⟨s, v5, v6⟩ := s
    try dsimp only at hs
    subst hs
    obtain ⟨⟨t, w6⟩, t1, t2⟩ := loopI (σ := Int32 × Value) (fun b s => go (d + 1) 216 17 [.ref 171, .int (nI k), .int (0 : Int32), .int s.1, .int (nI a), .int (nI b), s.2] [] M) (fun b s => s.1 = nI (fb_sm (fun a => fb_ct (fun b => nwB L k a b) a) a + fb_ct (fun b => nwB L k a b) b)) a (fun b s hb hs => by
      obtain ⟨s, v6⟩ := s
      try dsimp only at hs
      subst hs
      have hz := z_ix (k := k) (a := a) (b := b) (by omega) (by omega) (by omega)
      have hl := ix4_lt (a := a) (b := b) (x := k.testBit a) (y := k.testBit b) (by omega) (by omega)
      have hv := hH a ha b hb (k.testBit a) (k.testBit b)
      have hnw : nwB L k a b = !anB L a b (k.testBit a) (k.testBit b) := rfl
      try dsimp only
      rw [q216_17, if_neg (by rw [nI_leI (by omega) (by omega)]; omega), bX_d, hz]
      simp only [o, if_true, gr_171_44 hG, rk_194 hG hl, wk_194 hG hl, nI_clamp (show ix4 a b (k.testBit a) (k.testBit b) < 2 ^ 31 by omega), hv, bM_d]
      refine ⟨(nI (fb_sm (fun a => fb_ct (fun b => nwB L k a b) a) a + fb_ct (fun b => nwB L k a b) (b + 1)), .int (nI (ix4 a b (k.testBit a) (k.testBit b)))), ?_, rfl⟩
      rw [fb_ct_succ, hnw]
      cases hc : anB L a b (k.testBit a) (k.testBit b) with
      | false =>
        rw [hc] at hv
        rw [if_pos (by decide), if_pos (by decide), z194, sI_self (v := 0) hv, nI_1, nI_1]; rfl
      | true =>
        rw [hc] at hv
        rw [if_neg (by decide), if_neg (by decide), z194', sI_self (v := 1) hv, nI_1, show (0 : Int32) = nI 0 from rfl, nI_add]; rfl) a 0 (nI (fb_sm (fun a => fb_ct (fun b => nwB L k a b) a) a), v6) (by omega) rfl
    try dsimp only at t1 t2
    refine ⟨(nI (fb_sm (fun a => fb_ct (fun b => nwB L k a b) a) (a + 1)), .int (nI a), w6), ?_, rfl⟩
    try dsimp only
    rw [q216_5, if_pos o, c2, if_neg (by rw [nI_leI (by omega) (by omega)]; omega)]
    refine Eq.trans t1 ?_
    rw [q216_17, if_pos (by rw [nI_leI (by omega) (by omega)]; omega), t2, nI_1, fb_sm_succ]) (nmB B) 0 (nI 0, .null, .null) (by omega) rfl
  try dsimp only at s1 s2
  refine Eq.trans s1 ?_
  rw [q216_5, if_pos o, c2, if_pos (by rw [nI_leI (by omega) (by omega)]; omega), s2, np_eq]
abbrev H4 : Nat → Nat → Prop := fun r _ => r = 194
theorem BK_h4 {M N : Mm} {B : Bk} (hB : BK M B) (h : Sm H4 NoL M N) : BK N B := BK_cong (M := M) (fun r k z => h.2.2.1 r k (by unfold rdB at z; show ¬ r = 194; omega)) (fun r _ => h.2.2.2 r (fun z => z)) hB
/-- so far: all pairs before a, and of a those before b -/
def HADP (N : Mm) (nm : Nat) (L : List Nat) (k a b : Nat) : Prop := ∀ c, c < nm → ∀ e, e < c → ∀ x y : Bool, gI N 194 (ix4 c e x y) = b2i (anB L c e x y || (decide (c < a ∨ (c = a ∧ e < b)) && ((k.testBit c == x) && (k.testBit e == y))))
theorem m_np1 {d k : Nat} {M : Mm} {B : Bk} {L : List Nat} (hG : Gd M) (hB : BK M B) (hH : HADM M (nmB B) L) (hk : k < 2 ^ nmB B) : ∃ y N, go (d + 1) 216 0 [.ref 171, .int (nI k), .int (1 : Int32), .null, .null, .null, .null] [] M = some (some (.int y), N) ∧ Sm H4 NoL M N ∧ HADM N (nmB B) (k :: L) := by
  have hn := BK_nn hB
  have hp := p10 hn.1
  rw [q216_0]
  obtain ⟨⟨s, v5, v6, N⟩, s1, s2, s3⟩ := loopI (σ := Int32 × Value × Value × Mm) (fun a s => go (d + 1) 216 5 [.ref 171, .int (nI k), .int (1 : Int32), .int s.1, .int (nI a), s.2.1, s.2.2.1] [] s.2.2.2) (fun a s => Sm H4 NoL M s.2.2.2 ∧ HADP s.2.2.2 (nmB B) L k a 0) (nmB B) (fun a s ha hs => by
    obtain ⟨s, v5, v6, N⟩ := s
    obtain ⟨hS, hP⟩ := hs
    try dsimp only at hS hP
    obtain ⟨⟨t, w6, N'⟩, t1, t2, t3⟩ := loopI (σ := Int32 × Value × Mm) (fun b s => go (d + 1) 216 17 [.ref 171, .int (nI k), .int (1 : Int32), .int s.1, .int (nI a), .int (nI b), s.2.1] [] s.2.2) (fun b s => Sm H4 NoL M s.2.2 ∧ HADP s.2.2 (nmB B) L k a b) a (fun b s hb hs => by
      obtain ⟨s, v6, N⟩ := s
      obtain ⟨hS, hP⟩ := hs
      try dsimp only at hS hP
      have hGN := Gd_Sm hS hG
      have o := ok_171 hGN
      have hz := z_ix (k := k) (a := a) (b := b) (by omega) (by omega) (by omega)
      have hl := ix4_lt (a := a) (b := b) (x := k.testBit a) (y := k.testBit b) (by omega) (by omega)
      obtain ⟨c, hv⟩ : ∃ c, gI N 194 (ix4 a b (k.testBit a) (k.testBit b)) = b2i c := ⟨_, hP a ha b hb (k.testBit a) (k.testBit b)⟩
      have hN : HADP (sI N 194 (ix4 a b (k.testBit a) (k.testBit b)) 1) (nmB B) L k a (b + 1) := by
        intro c hc e he x y
        rw [gI_sI]
        by_cases hi : ix4 c e x y = ix4 a b (k.testBit a) (k.testBit b)
        · obtain ⟨rfl, rfl, rfl, rfl⟩ := ix4_inj (by omega) (by omega) hi
          rw [if_pos ⟨rfl, rfl⟩]
          simp [b2i]
        · rw [if_neg (fun z => hi z.2), hP c hc e he x y]
          congr 2
          by_cases hce : c = a ∧ e = b
          · obtain ⟨rfl, rfl⟩ := hce
            have : ((k.testBit c == x) && (k.testBit e == y)) = false := by
              cases h1 : ((k.testBit c == x) && (k.testBit e == y)) with
              | false => rfl
              | true =>
                simp only [Bool.and_eq_true, beq_iff_eq] at h1
                exact absurd (by rw [h1.1, h1.2]) hi
            rw [this, Bool.and_false, Bool.and_false]
          · congr 1
            exact decide_eq_decide.mpr (by omega)
      try dsimp only
      rw [q216_17, if_neg (by rw [nI_leI (by omega) (by omega)]; omega), bX_d, hz]
      simp only [o, if_true, gr_171_44 hGN, rk_194 hGN hl, wk_194 hGN hl, nI_clamp (show ix4 a b (k.testBit a) (k.testBit b) < 2 ^ 31 by omega), hv, bM_d, z194', nI_1]
      cases c with
      | false =>
        refine ⟨(s + 1, .int (nI (ix4 a b (k.testBit a) (k.testBit b))), sI N 194 (ix4 a b (k.testBit a) (k.testBit b)) 1), ?_, Sm_trans hS (Sm_sI rfl), hN⟩
        rw [if_pos (by decide), if_pos (by decide), if_neg (by decide)]
      | true =>
        refine ⟨(s + 0, .int (nI (ix4 a b (k.testBit a) (k.testBit b))), sI N 194 (ix4 a b (k.testBit a) (k.testBit b)) 1), ?_, Sm_trans hS (Sm_sI rfl), hN⟩
        rw [if_neg (by decide), if_neg (by decide)]) a 0 (s, v6, N) (by omega) ⟨hS, hP⟩
    try dsimp only at t1 t2 t3
    have hGN := Gd_Sm hS hG
    have c2 : gI N 171 5 = nI (nmB B) := (BK_h4 hB hS).1.2.1
    refine ⟨(t, .int (nI a), w6, N'), ?_, t2, fun c hc e he x y => ?_⟩
    · try dsimp only
      rw [q216_5, if_pos (ok_171 hGN), c2, if_neg (by rw [nI_leI (by omega) (by omega)]; omega)]
      refine Eq.trans t1 ?_
      rw [q216_17, if_pos (by rw [nI_leI (by omega) (by omega)]; omega), nI_1]
    · try dsimp only
      rw [t3 c hc e he x y]
      congr 3
      exact decide_eq_decide.mpr (by omega)) (nmB B) 0 (0, .null, .null, M) (by omega) ⟨Sm_refl, fun c hc e he x y => by
        try dsimp only
        rw [hH c hc e he x y]; simp⟩
  try dsimp only at s1 s2 s3
  have hGN := Gd_Sm s2 hG
  have c2 : gI N 171 5 = nI (nmB B) := (BK_h4 hB s2).1.2.1
  refine ⟨s, N, ?_, s2, fun c hc e he x y => ?_⟩
  · refine Eq.trans s1 ?_
    rw [q216_5, if_pos (ok_171 hGN), c2, if_pos (by rw [nI_leI (by omega) (by omega)]; omega)]
  · rw [s3 c hc e he x y]
    unfold anB
    rw [List.any_cons, decide_eq_true (Or.inl hc), Bool.true_and, Bool.or_comm]
theorem m_best {d : Nat} {M : Mm} {B : Bk} {L : List Nat} {x x2 : Int32} (hG : Gd M) (hB : BK M B) (hH : HADM M (nmB B) L) : ∃ x5 : Int32, go (d + 3) 217 53 [.ref 171, .int x, .int x2, .int (1 : Int32), .int ((-1000000) : Int32), .int (0 : Int32), .int (0 : Int32)] [] M = go (d + 3) 217 53 [.ref 171, .int x, .int x2, .int (1 : Int32), .int (optI (bestB B L)), .int x5, .int (nI (2 ^ nmB B))] [] M := by
  have hn := BK_nn hB
  have hp := p10 hn.1
  have o := ok_171 hG
  have c9 : gI M 171 36 = nI (2 ^ nmB B) := hB.1.2.2.2.2.2.2.2.2.1
  obtain ⟨⟨s, t⟩, s1, s2, s3⟩ := loopI (σ := Int32 × Int32) (fun k s => go (d + 3) 217 53 [.ref 171, .int x, .int x2, .int (1 : Int32), .int s.1, .int s.2, .int (nI k)] [] M) (fun k s => s.1 = optI (bestF B L k).1 ∧ s.2 = nI (bestF B L k).2) (2 ^ nmB B) (fun k s hk hs => by
    obtain ⟨s, t⟩ := s
    obtain ⟨rfl, rfl⟩ := hs
    have ha := m_isAllowed (d := d) hG hB hk
    have hnp := m_np0 (d := d + 1) hG hB hH hk
    have l1 := np_le hn.1 L k
    have l2 : (bestF B L k).2 ≤ 100 := by
      by_cases e : (bestF B L k).1 = 0
      · rw [(bestF_2 B L k).1 e]; omega
      · rw [((bestF_2 B L k).2 e).1]; exact np_le hn.1 L _
    have hd : bestF B L (k + 1) = if alB B k && decide ((bestF B L k).2 < npB (nmB B) L k) then (k + 1, npB (nmB B) L k) else bestF B L k := rfl
    refine ⟨(optI (bestF B L (k + 1)).1, nI (bestF B L (k + 1)).2), ?_, rfl, rfl⟩
    try dsimp only
    rw [q217_53, if_pos o, c9, if_neg (by rw [nI_leI (by omega) (by omega)]; omega), if_pos o, ha, bI_s, if_pos o, hnp, bI_s, if_pos o, hnp, bI_s, nI_1]
    simp only [b2i0, nI_leI (show npB (nmB B) L k < 2 ^ 31 by omega) (show (bestF B L k).2 < 2 ^ 31 by omega)]
    cases hal : alB B k with
    | false => rw [if_pos rfl, hd, hal]; rfl
    | true =>
      rw [if_neg (by decide), hd, hal]
      by_cases hc : (bestF B L k).2 < npB (nmB B) L k
      · rw [if_neg (by omega), decide_eq_true hc, Bool.and_self, if_pos rfl, optI_s]
      · rw [if_pos (by omega), decide_eq_false hc, Bool.and_false, if_neg (by decide)]) (2 ^ nmB B) 0 (-1000000, 0) (by omega) ⟨rfl, rfl⟩
  try dsimp only at s1 s2 s3
  refine ⟨t, ?_⟩
  rw [show bestB B L = (bestF B L (2 ^ nmB B)).1 from rfl, ← s2]
  exact s1
theorem m_hold {d n : Nat} {M : Mm} {B : Bk} {x r : Int32} (hG : Gd M) (hB : BK M B) (h1 : ∀ i, i < n → bestB B (picks B i) ≠ 0) (h2 : bestB B (picks B n) = 0) (hr1 : ∀ i, i < n → nI i = x → r = nI (bestB B (picks B i) - 1)) (hr2 : (∀ i, i < n → nI i ≠ x) → r = if x = -1 then nI n else NONE) : ∃ N, go (d + 3) 217 15 [.ref 171, .int x, .int (0 : Int32), .null, .null, .null, .null] [] M = some (some (.int r), N) ∧ Sm H4 NoL M N := by
  have hn := BK_nn hB
  have hp := p10 hn.1
  obtain ⟨N0, s1, s2, s3⟩ := loopI (σ := Mm) (fun i N => go (d + 3) 217 15 [.ref 171, .int x, .int (nI i), .null, .null, .null, .null] [] N) (fun i N => Sm H4 NoL M N ∧ ∀ j, j < i → gI N 194 j = 0) 400 (fun i N hi hN => by
    have hGN := Gd_Sm hN.1 hG
    refine ⟨sI N 194 i 0, ?_, Sm_trans hN.1 (Sm_sI rfl), fun j hj => ?_⟩
    · try dsimp only
      rw [q217_15, if_neg (by rw [show (400 : Int32) = nI 400 from rfl, nI_leI (by omega) (by omega)]; omega), if_pos (ok_171 hGN), gr_171_44 hGN, if_pos (wk_194 hGN hi), bM_d, nI_clamp (by omega), z194, nI_1]
    · rw [gI_sI]
      by_cases e : j = i
      · rw [if_pos ⟨rfl, e⟩]
      · rw [if_neg (fun z => e z.2)]; exact hN.2 j (by omega)) 400 0 M (by omega) ⟨Sm_refl, fun j hj => by omega⟩
  try dsimp only at s1
  have hr := loopX (σ := Value × Value × Value × Mm) (fun i s => go (d + 3) 217 39 [.ref 171, .int x, .int (nI i), .int (1 : Int32), s.1, s.2.1, s.2.2.1] [] s.2.2.2) (fun i s => Sm H4 NoL M s.2.2.2 ∧ HADM s.2.2.2 (nmB B) (picks B i) ∧ ∀ j, j < i → nI j ≠ x) (fun o => ∃ N, o = some (some (.int r), N) ∧ Sm H4 NoL M N) n (fun i s hi hs => by
    obtain ⟨v4, v5, v6, N⟩ := s
    obtain ⟨hS, hH, hx⟩ := hs
    try dsimp only at hS hH
    have hGN := Gd_Sm hS hG
    have hBN := BK_h4 hB hS
    have o := ok_171 hGN
    have c9 : gI N 171 36 = nI (2 ^ nmB B) := hBN.1.2.2.2.2.2.2.2.2.1
    obtain ⟨x5, hb⟩ := m_best (d := d) (x := x) (x2 := nI i) hGN hBN hH
    have hle := bestB_le B (picks B i)
    have h0 := h1 i hi
    have hk : bestB B (picks B i) - 1 < 2 ^ nmB B := by omega
    have st : go (d + 3) 217 39 [.ref 171, .int x, .int (nI i), .int (1 : Int32), v4, v5, v6] [] N = if nI i = x then some (some (.int (optI (bestB B (picks B i)))), N) else bI (go (d + 2) 216 0 [.ref 171, .int (optI (bestB B (picks B i))), .int (1 : Int32), .null, .null, .null, .null] [] N) fun y4 M3 => go (d + 3) 217 39 [.ref 171, .int x, .int (nI i + (1 : Int32)), .int (1 : Int32), .int (optI (bestB B (picks B i))), .int y4, .int (nI (2 ^ nmB B))] [] M3 := by
      rw [q217_39, if_neg (by decide), hb, q217_53, if_pos o, c9, if_pos (by rw [nI_leI (by omega) (by omega)]; omega), if_neg (fun z => h0 ((optI_none' (by omega)).mp z)), if_neg (by decide), if_pos o]
    by_cases hix : nI i = x
    · left
      refine ⟨N, ?_, hS⟩
      try dsimp only
      rw [st, if_pos hix, optI_pos h0, hr1 i hi hix]
    · right
      obtain ⟨y, N', a1, a2, a3⟩ := m_np1 (d := d + 1) hGN hBN hH hk
      refine ⟨(.int (optI (bestB B (picks B i))), .int y, .int (nI (2 ^ nmB B)), N'), ?_, Sm_trans hS a2, a3, fun j hj => ?_⟩
      · try dsimp only
        rw [st, if_neg hix, optI_pos h0, a1, bI_s, nI_1]
      · by_cases e : j = i
        · rw [e]; exact hix
        · exact hx j (by omega)) (fun s hs => by
    obtain ⟨v4, v5, v6, N⟩ := s
    obtain ⟨hS, hH, hx⟩ := hs
    try dsimp only at hS hH
    have hGN := Gd_Sm hS hG
    have hBN := BK_h4 hB hS
    have o := ok_171 hGN
    have c9 : gI N 171 36 = nI (2 ^ nmB B) := hBN.1.2.2.2.2.2.2.2.2.1
    obtain ⟨x5, hb⟩ := m_best (d := d) (x := x) (x2 := nI n) hGN hBN hH
    refine ⟨N, ?_, hS⟩
    try dsimp only
    rw [q217_39, if_neg (by decide), hb, q217_53, if_pos o, c9, if_pos (by rw [nI_leI (by omega) (by omega)]; omega), h2, if_pos (show optI 0 = (-1000000 : Int32) from rfl), if_pos rfl, q217_39, if_pos rfl, hr2 hx]
    by_cases e : x = -1
    · rw [if_pos e, if_pos e]
    · rw [if_neg e, if_neg e]) n 0 (.null, .null, .null, N0) (by omega) ⟨s2, fun a ha b hb x y => by
      try dsimp only
      rw [s3 _ (ix4_lt (by omega) (by omega))]; rfl, fun j hj => by omega⟩
  obtain ⟨N, r1, r2⟩ := hr
  refine ⟨N, ?_, r2⟩
  refine Eq.trans s1 ?_
  rw [q217_15, if_pos (by decide)]
  exact r1
def Hq (r k : Nat) : Prop := Qs r k ∨ Hs r k
theorem Inv_h {E M N : Mm} {B : Bk} (hI : Inv E M B) (h : Sm Hq QL M N) (hC : HC N B) : Inv E N B := by
  obtain ⟨a1, a2, a3, a4, a5, a6, a7, ⟨bk, bv, a8⟩, a9, a10⟩ := hI
  have hT := h.2.2.1
  exact ⟨Gd_Sm h a1, EXT_Sm (fun r k z => by unfold Hq Hs Qs at z; omega) (fun r z => by unfold QL at z; omega) h a2, SHT_cong (fun r k z => hT r k (by unfold rdS at z; unfold Hq Hs Qs; omega)) a3, TAP_cong (fun r k z => hT r k (by unfold rdT at z; unfold Hq Hs Qs; omega)) a4, LAT_cong (hT _ _ (by unfold Hq Hs Qs; omega)) (hT _ _ (by unfold Hq Hs Qs; omega)) (hT _ _ (by unfold Hq Hs Qs; omega)) (hT _ _ (by unfold Hq Hs Qs; omega)) a5, TRC_cong (fun r k z => hT r k (by unfold rdC at z; unfold Hq Hs Qs; omega)) a6, BK_cong (fun r k z => hT r k (by unfold rdB at z; unfold Hq Hs Qs; omega)) (fun r z => h.2.2.2 r (by unfold rdL at z; unfold QL; omega)) a7, ⟨bk, bv, BUY_cong (fun r k z => hT r k (by unfold rdU at z; unfold Hq Hs Qs; omega)) a8⟩, EC_cong (fun r k z => hT r k (by unfold rdE at z; unfold Hq Hs Qs; omega)) a9, hC⟩
theorem op_hold {E M : Mm} {B : Bk} {d : Nat} (hI : Inv E M B) (x : Int32) : Alike E M (d + 6) 134 217 [.ref 1, .int x] [.ref 171, .int x, .null, .null, .null, .null, .null] := by
  have hG := hI.1
  have hB := hI.2.2.2.2.2.2.1
  have hH := hI.2.2.2.2.2.2.2.2.2
  by_cases hx : ((-1) : Int32) ≤ x
  · obtain ⟨N, s, hS, hC⟩ := c_holdLearn (d := d) hG hB hH
    have hIN := Inv_h hI (Sm_mono (fun r k z => Or.inr z) (fun r z => z.elim) hS) (Or.inr hC)
    have hGN := hIN.1
    have hB2 := (thr hIN).2.2.2.2.2.2.1
    obtain ⟨c1, n, hn, c2, c3, c4⟩ := hC
    have fin : ∀ r : Int32, go (d + 6) 134 0 [.ref 1, .int x] [] M = some (some (.int r), N) → (∀ i, i < n → nI i = x → r = nI (bestB B (picks B i) - 1)) → ((∀ i, i < n → nI i ≠ x) → r = if x = -1 then nI n else NONE) → Alike E M (d + 6) 134 217 [.ref 1, .int x] [.ref 171, .int x, .null, .null, .null, .null, .null] := fun r h1 h2 h3 => by
      obtain ⟨N2, t, hS2⟩ := m_hold (d := d + 3) (M := sI N 171 0 0) (x := x) (r := r) hGN hB2 (fun i hi => (c3 i hi).1) c4 h2 h3
      refine ⟨r, N, N2, B, h1, ?_, Inv_q (thr hIN) (Sm_mono (fun r k z => by unfold Qs; omega) (fun r z => z.elim) hS2)⟩
      rw [q217_0, if_pos (ok_171 hGN), bM_d, if_pos hx]
      exact t
    by_cases e1 : x = -1
    · subst e1
      refine fin (nI n) ?_ (fun i hi e => ?_) (fun _ => by rw [if_pos rfl])
      · rw [q134_0, if_pos hx, if_pos (ok_1 hG), gr_1_6 hG, if_pos (ok_148 hG), s, bV_s, if_pos rfl, if_pos (ok_1 hGN), gr_1_6 hGN, if_pos (ok_148 hGN), c2]
      · have := congrArg Int32.toInt e
        rw [nI_toInt (by omega), show ((-1) : Int32).toInt = -1 from rfl] at this
        omega
    · have h0 : ¬ x < 0 := fun z => e1 (by
        have h5 := (fa_lt _ _).mp z
        have h6 := (fa_le _ _).mp hx
        rw [show (0 : Int32).toInt = 0 from rfl] at h5
        rw [show ((-1) : Int32).toInt = -1 from rfl] at h6
        exact Int32.toInt_inj.mp (by rw [show ((-1) : Int32).toInt = -1 from rfl]; omega))
      obtain ⟨j, hj, rfl⟩ := nI_of h0
      by_cases h7 : j < n
      · refine fin (nI (bestB B (picks B j) - 1)) ?_ (fun i hi e => ?_) (fun hno => absurd rfl (hno j h7))
        · rw [q134_0, if_pos hx, if_pos (ok_1 hG), gr_1_6 hG, if_pos (ok_148 hG), s, bV_s, if_neg e1, if_pos (ok_1 hGN), gr_1_6 hGN, if_pos (ok_148 hGN), c2, if_neg (by rw [nI_leI (by omega) (by omega)]; omega), if_pos (ok_1 hGN), if_pos (ok_148 hGN), gr_148_0 hGN, if_pos (rk_149 hGN (by omega)), nI_clamp (by omega), (c3 j h7).2]
        · rw [nI_eq (by omega) (by omega)] at e; rw [e]
      · refine fin NONE ?_ (fun i hi e => ?_) (fun _ => by rw [if_neg e1])
        · rw [q134_0, if_pos hx, if_pos (ok_1 hG), gr_1_6 hG, if_pos (ok_148 hG), s, bV_s, if_neg e1, if_pos (ok_1 hGN), gr_1_6 hGN, if_pos (ok_148 hGN), c2, if_pos (by rw [nI_leI (by omega) (by omega)]; omega)]
        · rw [nI_eq (by omega) (by omega)] at e; omega
  · refine Alike_q hI (-1000001) M (sI M 171 0 0) ?_ Sm_refl ?_ sm0
    · rw [q134_0, if_neg hx]
    · rw [q217_0, if_pos (ok_171 hG), bM_d, if_neg hx]
