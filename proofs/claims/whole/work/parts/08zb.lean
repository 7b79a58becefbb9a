/-! ===== run ===== -/
def RB (s : RS) : Prop := ∀ j, j < 4 → s.1 j < 1000
theorem runB_cong {B : Bk} {p q : Nat → Bool} : ∀ {n : Nat}, (∀ i, i < n → p i = q i) → runB B p n = runB B q n
  | 0, _ => rfl
  | n + 1, h => by
    show (if p n then actB B n (runB B p n) else runB B p n) = (if q n then actB B n (runB B q n) else runB B q n)
    rw [runB_cong (fun i hi => h i (by omega)), h n (by omega)]
theorem act0 {B : Bk} {i : Nat} {s : RS} (h : B.1 4 i = 0) : actB B i s = (fun j => if j = B.1 5 i then B.1 6 i else s.1 j, fun j => s.2.1 j || decide (j = B.1 5 i), s.2.2) := by
  unfold actB; simp [h]
theorem act1 {B : Bk} {i : Nat} {s : RS} (h : B.1 4 i = 1) : actB B i s = (fun j => if j = B.1 5 i then (s.1 (B.1 5 i) + B.1 6 i) % 1000 else s.1 j, s.2.1, if !s.2.1 (B.1 5 i) && decide (s.2.2 = NONE) then nI i else s.2.2) := by
  unfold actB; simp [h]
theorem act2 {B : Bk} {i : Nat} {s : RS} (h : B.1 4 i = 2) : actB B i s = (fun j => if j = B.1 5 i then (s.1 (B.1 5 i) + s.1 (B.1 6 i)) % 1000 else s.1 j, s.2.1, if (!s.2.1 (B.1 5 i) || !s.2.1 (B.1 6 i)) && decide (s.2.2 = NONE) then nI i else s.2.2) := by
  unfold actB; simp [h]
theorem act3 {B : Bk} {i : Nat} {s : RS} (h : B.1 4 i = 3) : actB B i s = (fun j => if j = B.1 5 i then (s.1 (B.1 5 i) * s.1 (B.1 6 i)) % 1000 else s.1 j, s.2.1, if (!s.2.1 (B.1 5 i) || !s.2.1 (B.1 6 i)) && decide (s.2.2 = NONE) then nI i else s.2.2) := by
  unfold actB; simp [h]
theorem actB_RB {M : Mm} {B : Bk} {i : Nat} {s : RS} (hB : BK M B) (hi : i < nnB B) (h : RB s) : RB (actB B i s) := by
  obtain ⟨l1, l2, l3, l4, l5, -⟩ := hB.2.2.1 i hi
  intro j hj
  have hj' := h j hj
  rcases (show B.1 4 i = 0 ∨ B.1 4 i = 1 ∨ B.1 4 i = 2 ∨ B.1 4 i = 3 by omega) with e | e | e | e
  · rw [act0 e]
    show (if j = B.1 5 i then B.1 6 i else s.1 j) < 1000
    have := l4 (by omega)
    split <;> omega
  · rw [act1 e]
    show (if j = B.1 5 i then _ else s.1 j) < 1000
    split
    · exact Nat.mod_lt _ (by omega)
    · exact hj'
  · rw [act2 e]
    show (if j = B.1 5 i then _ else s.1 j) < 1000
    split
    · exact Nat.mod_lt _ (by omega)
    · exact hj'
  · rw [act3 e]
    show (if j = B.1 5 i then _ else s.1 j) < 1000
    split
    · exact Nat.mod_lt _ (by omega)
    · exact hj'
theorem runB_RB {M : Mm} {B : Bk} {p : Nat → Bool} (hB : BK M B) : ∀ n, n ≤ nnB B → RB (runB B p n)
  | 0, _ => fun j _ => by show 0 < 1000; omega
  | n + 1, h => by
    have ih := runB_RB (p := p) hB n (by omega)
    show RB (if p n then actB B n (runB B p n) else runB B p n)
    split
    · exact actB_RB hB (by omega) ih
    · exact ih
theorem bset_zero {p : Nat → Bool} {n : Nat} : bset p n = 0 ↔ anyB p n = false := by
  rw [anyB_f]
  constructor
  · intro h i hi
    have := congrArg (fun z => z.testBit i) h
    simp only [bset_bit, Nat.zero_testBit, decide_eq_true hi, Bool.true_and] at this
    exact this
  · intro h
    apply Nat.eq_of_testBit_eq
    intro i
    rw [bset_bit, Nat.zero_testBit]
    by_cases hi : i < n
    · rw [h i hi]; simp
    · simp [hi]
theorem need_b {p q : Nat → Bool} : (nI (bset q 4) &&& (nI (bset p 4) ^^^ ((-1) : Int32))) = 0 ↔ anyB (fun i => q i && !p i) 4 = false := by
  rw [andnot_b (by omega), ← bset_zero, show (0 : Int32) = nI 0 from rfl, nI_eq (bs31 _ (by omega)) (by omega)]
theorem any2 {p : Nat → Bool} {c y : Nat} (hc : c < 4) (hy : y < 4) : anyB (fun i => (decide (i = c) || decide (i = y)) && !p i) 4 = (!p c || !p y) := by
  cases h : (!p c || !p y) with
  | true =>
    simp only [Bool.or_eq_true, Bool.not_eq_true'] at h
    rcases h with h | h
    · exact anyB_iff.mpr ⟨c, hc, by simp [h]⟩
    · exact anyB_iff.mpr ⟨y, hy, by simp [h]⟩
  | false =>
    simp only [Bool.or_eq_false_iff, Bool.not_eq_false'] at h
    refine anyB_f.mpr (fun i hi => ?_)
    by_cases e1 : i = c
    · subst e1; simp [h.1]
    · by_cases e2 : i = y
      · subst e2; simp [h.2]
      · simp [e1, e2]
theorem any1 {p : Nat → Bool} {c : Nat} (hc : c < 4) : anyB (fun i => decide (i = c) && !p i) 4 = !p c := by
  have := any2 (p := p) hc hc
  simp only [Bool.or_self] at this
  exact this
theorem sh1 : ∀ c, c < 4 → (1 : Int32) <<< (nI c &&& 31) = nI (bset (fun i => decide (i = c)) 4) := by decide +kernel
theorem sh2 : ∀ c, c < 4 → ∀ y, y < 4 → ((1 : Int32) <<< (nI c &&& 31)) ||| ((1 : Int32) <<< (nI y &&& 31)) = nI (bset (fun i => decide (i = c) || decide (i = y)) 4) := by decide +kernel
/-- the class's run -/
def RunC (M N : Mm) (s : RS) : Prop := Sm (fun a k => (a = 139 ∧ (k = 1 ∨ k = 2)) ∨ a = 140) (fun _ => False) M N ∧ (∀ j, j < 4 → gI N 140 j = nI (s.1 j)) ∧ gI N 139 2 = nI (bset s.2.1 4) ∧ gI N 139 1 = s.2.2
theorem RunC_cell {M N : Mm} {s : RS} {c v : Nat} (h : RunC M N s) : RunC M (sI N 140 c (nI v)) (fun j => if j = c then v else s.1 j, s.2.1, s.2.2) := by
  refine ⟨Sm_trans h.1 (Sm_sI (Or.inr rfl)), fun j hj => ?_, ?_, ?_⟩
  · rw [gI_sI]
    show _ = nI (if j = c then v else s.1 j)
    by_cases e : j = c
    · rw [if_pos ⟨rfl, e⟩, if_pos e]
    · rw [if_neg (fun z => e z.2), if_neg e]; exact h.2.1 j hj
  · rw [gI_ne (by omega)]; exact h.2.2.1
  · rw [gI_ne (by omega)]; exact h.2.2.2
theorem c_need {d : Nat} {M N : Mm} {s : RS} {q : Nat → Bool} {i : Nat} (hG : Gd M) (h : RunC M N s) : ∃ N', go (d + 1) 97 0 [.ref 139, .int (nI (bset q 4)), .int (nI i)] [] N = some (none, N') ∧ RunC M N' (s.1, s.2.1, if anyB (fun i => q i && !s.2.1 i) 4 && decide (s.2.2 = NONE) then nI i else s.2.2) := by
  have hGN := Gd_Sm h.1 hG
  simp only [q97_0, ok_139 hGN, if_true, h.2.2.1, h.2.2.2, need_b, bM_d]
  by_cases e : s.2.2 = NONE
  · rw [if_pos e]
    cases ha : anyB (fun i => q i && !s.2.1 i) 4 with
    | false =>
      refine ⟨N, by rw [if_pos rfl], ?_⟩
      rw [Bool.false_and]; exact h
    | true =>
      refine ⟨_, by rw [if_neg (by decide)], Sm_trans h.1 (Sm_sI (Or.inl ⟨rfl, Or.inl rfl⟩)), fun j hj => ?_, ?_, ?_⟩
      · rw [gI_ne (by omega)]; exact h.2.1 j hj
      · rw [gI_ne (by omega)]; exact h.2.2.1
      · rw [gI_at]; simp [e]
  · refine ⟨N, by rw [if_neg e], ?_⟩
    simp only [e, decide_false, Bool.and_false]; exact h
theorem c_act {d : Nat} {M N : Mm} {B : Bk} {i : Nat} {s : RS} (hG : Gd M) (hB : BK M B) (hi : i < nnB B) (h : RunC M N s) (hb : RB s) : ∃ N', go (d + 2) 96 0 [.ref 139, .ref (26 + 3 * i), .int (nI i), .null] [] N = some (none, N') ∧ RunC M N' (actB B i s) := by
  have hn := BK_nn hB
  obtain ⟨l1, l2, l3, l4, l5, l6, l7, l8, l9, l10, m0, m1, m2, m3, m4, -⟩ := hB.2.2.1 i hi
  have hGN := Gd_Sm h.1 hG
  have ln : ∀ {N s k}, RunC M N s → gI N (26 + 3 * i) k = gI M (26 + 3 * i) k := fun h => h.1.2.2.1 _ _ (by omega)
  have i2 := (ln (k := 2) h).trans m2
  have i3 := (ln (k := 3) h).trans m3
  have i4 := (ln (k := 4) h).trans m4
  have hc := hb _ l3
  have o := ok_line hGN (show i < 24 by omega)
  rcases (show B.1 4 i = 0 ∨ B.1 4 i = 1 ∨ B.1 4 i = 2 ∨ B.1 4 i = 3 by omega) with e | e | e | e
  · rw [e] at i2
    refine ⟨sI (sI N 140 (B.1 5 i) (nI (B.1 6 i))) 139 2 (nI (bset (fun j => s.2.1 j || decide (j = B.1 5 i)) 4)), ?_, ?_⟩
    · rw [q96_0, if_pos o, if_pos o, i2, if_pos (by decide), if_pos (ok_139 hGN), if_pos o, i3, gr_139_0 hGN, if_pos (wk_140 hGN l3), bM_d, okO_sI, if_pos (ok_139 hGN), if_pos (ok_139 hGN), bM_d, gI_ne (by omega), h.2.2.1, i4, nI_clamp (by omega), or_at l3 (by omega)]
    · rw [act0 e]
      have h2 := RunC_cell (c := B.1 5 i) (v := B.1 6 i) h
      refine ⟨Sm_trans h2.1 (Sm_sI (Or.inl ⟨rfl, Or.inr rfl⟩)), fun j hj => ?_, gI_at, ?_⟩
      · rw [gI_ne (by omega)]; exact h2.2.1 j hj
      · rw [gI_ne (by omega)]; exact h2.2.2.2
  · rw [e] at i2
    obtain ⟨N1, s1, t1⟩ := c_need (d := d) (q := fun j => decide (j = B.1 5 i)) (i := i) hG h
    rw [any1 l3] at t1
    have hG1 := Gd_Sm t1.1 hG
    have j4 := (ln (k := 4) t1).trans m4
    have tc : ∀ j, j < 4 → gI N1 140 j = nI (s.1 j) := t1.2.1
    have h5 := l4 (by omega)
    refine ⟨sI N1 140 (B.1 5 i) (nI ((s.1 (B.1 5 i) + B.1 6 i) % 1000)), ?_, ?_⟩
    · rw [q96_0, if_pos o, if_pos o, i2, if_neg (by decide), if_pos (by decide), if_pos (ok_139 hGN), i3, sh1 _ l3, s1, bV_s, if_pos (ok_139 hG1), if_pos (ok_139 hG1), gr_139_0 hG1, if_pos (rk_140 hG1 l3), if_pos (ok_line hG1 (by omega)), if_pos (wk_140 hG1 l3), bM_d, nI_clamp (by omega), tc _ l3, j4, nI_add, show (1000 : Int32) = nI 1000 from rfl, pk_rem (by omega) (by omega) (by omega)]
    · rw [act1 e]; exact RunC_cell t1
  · rw [e] at i2
    have h5 := l5 (by omega)
    have hy := hb _ h5
    obtain ⟨N1, s1, t1⟩ := c_need (d := d) (q := fun j => decide (j = B.1 5 i) || decide (j = B.1 6 i)) (i := i) hG h
    rw [any2 l3 h5] at t1
    have hG1 := Gd_Sm t1.1 hG
    have j4 := (ln (k := 4) t1).trans m4
    have tc : ∀ j, j < 4 → gI N1 140 j = nI (s.1 j) := t1.2.1
    refine ⟨sI N1 140 (B.1 5 i) (nI ((s.1 (B.1 5 i) + s.1 (B.1 6 i)) % 1000)), ?_, ?_⟩
    · rw [q96_0, if_pos o, if_pos o, i2, if_neg (by decide), if_neg (by decide), if_pos (by decide), if_pos o, if_pos (ok_139 hGN), i3, i4, sh2 _ l3 _ h5, s1, bV_s, if_pos (ok_139 hG1), if_pos (ok_139 hG1), gr_139_0 hG1, if_pos (rk_140 hG1 l3), if_pos (ok_139 hG1), if_pos (ok_line hG1 (by omega)), j4, if_pos (rk_140 hG1 h5), if_pos (wk_140 hG1 l3), bM_d, nI_clamp (by omega), nI_clamp (by omega), tc _ l3, tc _ h5, nI_add, show (1000 : Int32) = nI 1000 from rfl, pk_rem (by omega) (by omega) (by omega)]
    · rw [act2 e]; exact RunC_cell t1
  · rw [e] at i2
    have h5 := l5 (by omega)
    have hy := hb _ h5
    obtain ⟨N1, s1, t1⟩ := c_need (d := d) (q := fun j => decide (j = B.1 5 i) || decide (j = B.1 6 i)) (i := i) hG h
    rw [any2 l3 h5] at t1
    have hG1 := Gd_Sm t1.1 hG
    have j4 := (ln (k := 4) t1).trans m4
    have tc : ∀ j, j < 4 → gI N1 140 j = nI (s.1 j) := t1.2.1
    have hm : s.1 (B.1 5 i) * s.1 (B.1 6 i) < 2 ^ 31 := Nat.lt_of_le_of_lt (Nat.mul_le_mul (Nat.le_of_lt hc) (Nat.le_of_lt hy)) (by omega)
    refine ⟨sI N1 140 (B.1 5 i) (nI ((s.1 (B.1 5 i) * s.1 (B.1 6 i)) % 1000)), ?_, ?_⟩
    · rw [q96_0, if_pos o, if_pos o, i2, if_neg (by decide), if_neg (by decide), if_neg (by decide), if_pos o, if_pos (ok_139 hGN), i3, i4, sh2 _ l3 _ h5, s1, bV_s, if_pos (ok_139 hG1), if_pos (ok_139 hG1), gr_139_0 hG1, if_pos (rk_140 hG1 l3), if_pos (ok_139 hG1), if_pos (ok_line hG1 (by omega)), j4, if_pos (rk_140 hG1 h5), if_pos (wk_140 hG1 l3), bM_d, nI_clamp (by omega), nI_clamp (by omega), tc _ l3, tc _ h5, pk_mul, show (1000 : Int32) = nI 1000 from rfl, pk_rem hm (by omega) (by omega)]
    · rw [act3 e]; exact RunC_cell t1
theorem RunC_B {M N : Mm} {B : Bk} {s : RS} (h : RunC M N s) (hB : BK M B) : BK N B := BK_cong (M := M) (fun r k z => h.1.2.2.1 r k (by unfold rdB at z; omega)) (fun r _ => h.1.2.2.2 r (fun z => z)) hB
theorem c_perform {d n : Nat} {M : Mm} {B : Bk} (hG : Gd M) (hB : BK M B) (hn31 : n < 2 ^ 31) : ∃ N, go (d + 3) 95 0 [.ref 139, .ref 5, .int (nI n), .null] [] M = some (none, N) ∧ RunC M N (runB B (fun i => n.testBit i) (nnB B)) := by
  have hn := BK_nn hB
  have fl := fillI (d := d + 1) (M := M) (w := 140) (n := 4) (x := 0) (fun j hj => wk_140 hG hj) (by
    have := wk_140 hG (k := 0) (by omega)
    simp only [wOK, Bool.and_eq_true] at this
    exact this.1.1) (by omega) rfl (by omega)
  have hG1 : Gd (wI M 140 (fun i => if i < 4 then 0 else gI M 140 i)) := hG
  have h0 : RunC M (sI (sI (wI M 140 (fun i => if i < 4 then 0 else gI M 140 i)) 139 2 0) 139 1 NONE) (runB B (fun i => n.testBit i) 0) := by
    refine ⟨Sm_trans (Sm_wI (fun k => Or.inr rfl)) (Sm_trans (Sm_sI (Or.inl ⟨rfl, Or.inr rfl⟩)) (Sm_sI (Or.inl ⟨rfl, Or.inl rfl⟩))), fun j hj => ?_, ?_, gI_at⟩
    · rw [gI_ne (by omega), gI_ne (by omega), gI_wI, if_pos rfl, if_pos hj]; rfl
    · rw [gI_ne (by omega), gI_at]; rfl
  obtain ⟨N, s1, s2⟩ := loopI (σ := Mm) (fun i N => go (d + 3) 95 21 [.ref 139, .ref 5, .int (nI n), .int (nI i)] [] N) (fun i N => RunC M N (runB B (fun i => n.testBit i) i)) (nnB B) (fun i N hi hN => by
    have hGN := Gd_Sm hN.1 hG
    have c5 : gI N 5 2 = nI (nnB B) := (RunC_B hN hB).1.2.2.2.2.1
    have hbt := c_hasBit (d := d + 1) (M := N) (n := n) (i := i) hn31 (by omega)
    have hs : runB B (fun i => n.testBit i) (i + 1) = if n.testBit i then actB B i (runB B (fun i => n.testBit i) i) else runB B (fun i => n.testBit i) i := rfl
    try dsimp only
    rw [q95_21, if_pos (ok_5 hGN), c5, if_neg (by rw [nI_leI (by omega) (by omega)]; omega), hbt, bI_s, hs, nI_1]
    simp only [b2i0]
    cases hx : n.testBit i with
    | false => exact ⟨N, by rw [if_pos rfl], by simpa using hN⟩
    | true =>
      obtain ⟨N', t1, t2⟩ := c_act (d := d) hG hB hi hN (runB_RB hB i (by omega))
      refine ⟨N', ?_, by simpa using t2⟩
      rw [if_neg (by decide), if_pos (ok_5 hGN), gr_5_7 hGN, if_pos (rk_9 hGN (by omega)), if_pos (ok_139 hGN), nI_clamp (by omega), gr_line hGN (by omega), t1, bV_s]) (nnB B) 0 _ (by omega) h0
  try dsimp only at s1
  have hGN := Gd_Sm s2.1 hG
  have c5 : gI N 5 2 = nI (nnB B) := (RunC_B s2 hB).1.2.2.2.2.1
  refine ⟨N, ?_, s2⟩
  rw [q95_0, if_pos (ok_139 hG), gr_139_0 hG, fl, bV_s, if_pos (ok_139 hG1), bM_d, okO_sI, if_pos (ok_139 hG1), bM_d, show (0 : Int32) = nI 0 from rfl]
  refine Eq.trans s1 ?_
  rw [q95_21, if_pos (ok_5 hGN), c5, if_pos (by rw [nI_leI (by omega) (by omega)]; omega)]
/-- the model's run -/
def RunM (M N : Mm) (s : RS) (x : Int32) : Prop := Sm (fun a k => (a = 171 ∧ k = 42) ∨ a = 192) (fun _ => False) M N ∧ (∀ j, j < 4 → gI N 192 j = nI (s.1 j)) ∧ x = nI (bset s.2.1 4) ∧ gI N 171 42 = s.2.2
theorem RunM_B {M N : Mm} {B : Bk} {s : RS} {x : Int32} (h : RunM M N s x) (hB : BK M B) : BK N B := BK_cong (M := M) (fun r k z => h.1.2.2.1 r k (by unfold rdB at z; omega)) (fun r _ => h.1.2.2.2 r (fun z => z)) hB
theorem m_act {d n : Nat} {M N : Mm} {B : Bk} {i : Nat} {s : RS} {x : Int32} {v4 v5 v6 : Value} (hG : Gd M) (hB : BK M B) (hi : i < nnB B) (h : RunM M N s x) (hb : RB s) (hn31 : n < 2 ^ 31) (hx : n.testBit i = true) : ∃ (N' : Mm) (x' : Int32) (v4' v5' v6' : Value), go (d + 1) 210 30 [.ref 171, .int (nI n), .int x, .int (nI i), v4, v5, v6] [] N = go (d + 1) 210 30 [.ref 171, .int (nI n), .int x', .int (nI (i + 1)), v4', v5', v6'] [] N' ∧ RunM M N' (actB B i s) x' := by
  have hn := BK_nn hB
  obtain ⟨l1, l2, l3, l4, l5, l6, l7, l8, l9, l10, m0, m1, m2, m3, m4, m5, m6, m7, n0, n1, n2, n3, n4, -⟩ := hB.2.2.1 i hi
  have hGN := Gd_Sm h.1 hG
  have o := ok_171 hGN
  have c5 : gI N 171 9 = nI (nnB B) := (RunM_B h hB).1.2.2.2.2.2.1
  have lnn : ∀ {r}, r = 179 ∨ r = 180 ∨ r = 181 → gI N r i = gI M r i := fun hr => h.1.2.2.1 _ _ (by omega)
  have i2 := (lnn (r := 179) (by omega)).trans n2
  have i3 := (lnn (r := 180) (by omega)).trans n3
  have i4 := (lnn (r := 181) (by omega)).trans n4
  have hc := hb _ l3
  have cl := nI_clamp (n := i) (by omega)
  have clc := nI_clamp (n := B.1 5 i) (by omega)
  have ri2 := rk_179 hGN (k := i) (by omega)
  have ri3 := rk_180 hGN (k := i) (by omega)
  have ri4 := rk_181 hGN (k := i) (by omega)
  obtain ⟨hS, hcell, rfl, hff⟩ := h
  have tb : ∀ c, c < 4 → (((nI (bset s.2.1 4) >>> (nI c &&& 31)) &&& (1 : Int32)) = 0 ↔ s.2.1 c = false) := fun c hc => by
    rw [bitN (bs31 _ (by omega)) (by omega), bset_bit, show (0 : Int32) = nI 0 from rfl, decide_eq_true hc, Bool.true_and]
    cases s.2.1 c <;> decide
  -- the end of a turn
  have fin : ∀ (lk : Bool) (y v : Nat) (bits : Int32) (p : Nat → Bool), (∀ N2, gI N2 179 i = nI (B.1 4 i) → (∀ j, j < 4 → gI N2 192 j = nI (s.1 j)) → Gd N2 → go (d + 1) 210 179 [.ref 171, .int (nI n), .int (nI (bset s.2.1 4)), .int (nI i), .int (nI (B.1 5 i)), .int (nI y), .int (b2i lk)] [.int bits, .int (nI (bset s.2.1 4))] N2 = go (d + 1) 210 30 [.ref 171, .int (nI n), .int (nI (bset s.2.1 4) ||| bits), .int (nI (i + 1)), .int (nI (B.1 5 i)), .int (nI y), .int (b2i lk)] [] (sI N2 192 (B.1 5 i) (nI v))) → bits = (if B.1 4 i = 0 then ((1 : Int32) <<< (nI (B.1 5 i) &&& 31)) else 0) → nI (bset s.2.1 4) ||| bits = nI (bset p 4) → ∃ (N' : Mm) (x' : Int32) (v4' v5' v6' : Value), go (d + 1) 210 133 [.ref 171, .int (nI n), .int (nI (bset s.2.1 4)), .int (nI i), .int (nI (B.1 5 i)), .int (nI y), v6] [.int (b2i lk)] N = go (d + 1) 210 30 [.ref 171, .int (nI n), .int x', .int (nI (i + 1)), v4', v5', v6'] [] N' ∧ RunM M N' (fun j => if j = B.1 5 i then v else s.1 j, p, if lk && decide (s.2.2 = NONE) then nI i else s.2.2) x' := by
    intro lk y v bits p h179 hbits hp
    have e0 : nI (B.1 4 i) = (0 : Int32) ↔ B.1 4 i = 0 := nI_eq (a := B.1 4 i) (b := 0) (by omega) (by omega)
    have fs : ∀ z : Int32, go (d + 1) 210 158 [.ref 171, .int (nI n), .int (nI (bset s.2.1 4)), .int (nI i), .int (nI (B.1 5 i)), .int (nI y), .int (b2i lk)] [.int z, .ref 171] N = go (d + 1) 210 30 [.ref 171, .int (nI n), .int (nI (bset p 4)), .int (nI (i + 1)), .int (nI (B.1 5 i)), .int (nI y), .int (b2i lk)] [] (sI (sI N 171 42 z) 192 (B.1 5 i) (nI v)) := by
      intro z
      have j2 : gI (sI N 171 42 z) 179 i = nI (B.1 4 i) := (gI_ne (by omega)).trans i2
      have hh := h179 (sI N 171 42 z) j2 (fun j hj => by rw [gI_ne (by omega)]; exact hcell j hj) hGN
      rw [hp] at hh
      rw [q210_158, if_pos o, bM_d, okO_sI, if_pos o, gR_sI, gr_171_12 hGN, if_pos (rk_179 (M := sI N 171 42 z) hGN (k := i) (by omega)), cl, j2]
      by_cases z0 : B.1 4 i = 0
      · rw [if_pos z0] at hbits
        rw [if_pos (e0.mpr z0), ← hbits, hh]
      · rw [if_neg z0] at hbits
        rw [if_neg (fun w => z0 (e0.mp w)), ← hbits, hh]
    have rm : ∀ z : Int32, z = (if lk && decide (s.2.2 = NONE) then nI i else s.2.2) → RunM M (sI (sI N 171 42 z) 192 (B.1 5 i) (nI v)) (fun j => if j = B.1 5 i then v else s.1 j, p, if lk && decide (s.2.2 = NONE) then nI i else s.2.2) (nI (bset p 4)) := fun z hz => by
      refine ⟨Sm_trans hS (Sm_trans (Sm_sI (Or.inl ⟨rfl, rfl⟩)) (Sm_sI (Or.inr rfl))), fun j hj => ?_, rfl, ?_⟩
      · rw [gI_sI]
        show _ = nI (if j = B.1 5 i then v else s.1 j)
        by_cases e : j = B.1 5 i
        · rw [if_pos ⟨rfl, e⟩, if_pos e]
        · rw [if_neg (fun w => e w.2), if_neg e, gI_ne (by omega)]; exact hcell j hj
      · rw [gI_ne (by omega), gI_at]; exact hz
    cases lk with
    | false =>
      refine ⟨_, _, .int (nI (B.1 5 i)), .int (nI y), .int (b2i false), ?_, rm s.2.2 (by simp)⟩
      rw [q210_133, if_pos (by decide), if_pos o, hff]
      exact fs _
    | true =>
      by_cases en : s.2.2 = NONE
      · refine ⟨_, _, .int (nI (B.1 5 i)), .int (nI y), .int (b2i true), ?_, rm (nI i) (by simp [en])⟩
        rw [q210_133, if_neg (by decide), if_pos o, hff, if_pos en]
        exact fs _
      · refine ⟨_, _, .int (nI (B.1 5 i)), .int (nI y), .int (b2i true), ?_, rm s.2.2 (by simp [en])⟩
        rw [q210_133, if_neg (by decide), if_pos o, hff, if_neg en, if_pos o]
        exact fs _
  have st0 : go (d + 1) 210 30 [.ref 171, .int (nI n), .int (nI (bset s.2.1 4)), .int (nI i), v4, v5, v6] [] N = if (2 : Int32) ≤ nI (B.1 4 i) then (if rOK N 192 0 (nI (B.1 6 i)) = true then go (d + 1) 210 85 [.ref 171, .int (nI n), .int (nI (bset s.2.1 4)), .int (nI i), .int (nI (B.1 5 i)), v5, v6] [.int (gI N 192 (nI (B.1 6 i)).toNatClampNeg)] N else none) else go (d + 1) 210 85 [.ref 171, .int (nI n), .int (nI (bset s.2.1 4)), .int (nI i), .int (nI (B.1 5 i)), v5, v6] [.int (nI (B.1 6 i))] N := by
    rw [q210_30, if_pos o, c5, if_neg (by rw [nI_leI (by omega) (by omega)]; omega), if_pos ((bit1 hn31 (by omega)).mpr hx)]
    simp only [o, if_true, gr_171_13 hGN, gr_171_12 hGN, gr_171_14 hGN, gr_171_41 hGN, ri2, ri3, ri4, cl, i2, i3, i4]
  have orz : nI (bset s.2.1 4) ||| (0 : Int32) = nI (bset s.2.1 4) := by rw [show (0 : Int32) = nI 0 from rfl, fa_or, Nat.or_zero]
  rcases (show B.1 4 i = 0 ∨ B.1 4 i = 1 ∨ B.1 4 i = 2 ∨ B.1 4 i = 3 by omega) with e | e | e | e
  · have h5 := l4 (by omega)
    obtain ⟨N', x', v4', v5', v6', f1, f2⟩ := fin false (B.1 6 i) (B.1 6 i) _ (fun j => s.2.1 j || decide (j = B.1 5 i)) (fun N2 k2 kc kG => by
      rw [e] at k2
      rw [q210_179, if_pos (ok_171 kG), if_pos (ok_171 kG), gr_171_12 kG, if_pos (rk_179 kG (show i < 24 by omega)), cl, k2, if_pos (by decide), gr_171_41 kG, if_pos (wk_192 kG l3), bM_d, clc, nI_1]) rfl (by rw [if_pos e]; exact or_at l3 (by omega))
    rw [act0 e]
    refine ⟨N', x', v4', v5', v6', ?_, by simpa using f2⟩
    rw [st0, e, if_neg (by decide), q210_85, if_pos o, gr_171_12 hGN, if_pos ri2, cl, i2, e, if_pos (by decide)]
    exact f1
  · have h5 := l4 (by omega)
    obtain ⟨N', x', v4', v5', v6', f1, f2⟩ := fin (!s.2.1 (B.1 5 i)) (B.1 6 i) ((s.1 (B.1 5 i) + B.1 6 i) % 1000) _ s.2.1 (fun N2 k2 kc kG => by
      rw [e] at k2
      rw [q210_179, if_pos (ok_171 kG), if_pos (ok_171 kG), gr_171_12 kG, if_pos (rk_179 kG (show i < 24 by omega)), cl, k2, if_neg (by decide), if_pos (ok_171 kG), if_pos (rk_179 kG (show i < 24 by omega)), if_neg (by decide), if_pos (ok_171 kG), gr_171_41 kG, if_pos (rk_192 kG l3), if_pos (wk_192 kG l3), bM_d, clc, kc _ l3, nI_1, nI_add, show (1000 : Int32) = nI 1000 from rfl, pk_rem (by omega) (by omega) (by omega)]) rfl (by rw [if_neg (by omega)]; exact orz)
    rw [act1 e]
    refine ⟨N', x', v4', v5', v6', ?_, f2⟩
    rw [st0, e, if_neg (by decide), q210_85, if_pos o, gr_171_12 hGN, if_pos ri2, cl, i2, e, if_neg (by decide)]
    simp only [tb _ l3]
    rw [← f1]
    cases hs : s.2.1 (B.1 5 i) with
    | false => rw [if_pos rfl]; rfl
    | true => rw [if_neg (by decide), if_pos o, if_pos ri2, if_pos (by decide)]; rfl
  · have h5 := l5 (by omega)
    have hy := hb _ h5
    have cly := nI_clamp (n := B.1 6 i) (by omega)
    obtain ⟨N', x', v4', v5', v6', f1, f2⟩ := fin (!s.2.1 (B.1 5 i) || !s.2.1 (B.1 6 i)) (s.1 (B.1 6 i)) ((s.1 (B.1 5 i) + s.1 (B.1 6 i)) % 1000) _ s.2.1 (fun N2 k2 kc kG => by
      rw [e] at k2
      rw [q210_179, if_pos (ok_171 kG), if_pos (ok_171 kG), gr_171_12 kG, if_pos (rk_179 kG (show i < 24 by omega)), cl, k2, if_neg (by decide), if_pos (ok_171 kG), if_pos (rk_179 kG (show i < 24 by omega)), if_neg (by decide), if_pos (ok_171 kG), gr_171_41 kG, if_pos (rk_192 kG l3), if_pos (wk_192 kG l3), bM_d, clc, kc _ l3, nI_1, nI_add, show (1000 : Int32) = nI 1000 from rfl, pk_rem (by omega) (by omega) (by omega)]) rfl (by rw [if_neg (by omega)]; exact orz)
    rw [act2 e]
    refine ⟨N', x', v4', v5', v6', ?_, f2⟩
    rw [st0, e, if_pos (by decide), if_pos (rk_192 hGN h5), cly, hcell _ h5, q210_85, if_pos o, gr_171_12 hGN, if_pos ri2, cl, i2, e, if_neg (by decide), gr_171_14 hGN, i4]
    simp only [tb _ l3, tb _ h5]
    rw [← f1]
    cases hs : s.2.1 (B.1 5 i) with
    | false => rw [if_pos rfl]; rfl
    | true =>
      rw [if_neg (by decide), if_pos o, if_pos ri2, if_neg (by decide), if_pos o, if_pos ri4]
      cases hs2 : s.2.1 (B.1 6 i) with
      | false => rw [if_pos rfl]; rfl
      | true => rw [if_neg (by decide)]; rfl
  · have h5 := l5 (by omega)
    have hy := hb _ h5
    have cly := nI_clamp (n := B.1 6 i) (by omega)
    have hm : s.1 (B.1 5 i) * s.1 (B.1 6 i) < 2 ^ 31 := Nat.lt_of_le_of_lt (Nat.mul_le_mul (Nat.le_of_lt hc) (Nat.le_of_lt hy)) (by omega)
    obtain ⟨N', x', v4', v5', v6', f1, f2⟩ := fin (!s.2.1 (B.1 5 i) || !s.2.1 (B.1 6 i)) (s.1 (B.1 6 i)) ((s.1 (B.1 5 i) * s.1 (B.1 6 i)) % 1000) _ s.2.1 (fun N2 k2 kc kG => by
      rw [e] at k2
      rw [q210_179, if_pos (ok_171 kG), if_pos (ok_171 kG), gr_171_12 kG, if_pos (rk_179 kG (show i < 24 by omega)), cl, k2, if_neg (by decide), if_pos (ok_171 kG), if_pos (rk_179 kG (show i < 24 by omega)), if_pos (by decide), if_pos (ok_171 kG), gr_171_41 kG, if_pos (rk_192 kG l3), if_pos (wk_192 kG l3), bM_d, clc, kc _ l3, nI_1, pk_mul, show (1000 : Int32) = nI 1000 from rfl, pk_rem hm (by omega) (by omega)]) rfl (by rw [if_neg (by omega)]; exact orz)
    rw [act3 e]
    refine ⟨N', x', v4', v5', v6', ?_, f2⟩
    rw [st0, e, if_pos (by decide), if_pos (rk_192 hGN h5), cly, hcell _ h5, q210_85, if_pos o, gr_171_12 hGN, if_pos ri2, cl, i2, e, if_neg (by decide), gr_171_14 hGN, i4]
    simp only [tb _ l3, tb _ h5]
    rw [← f1]
    cases hs : s.2.1 (B.1 5 i) with
    | false => rw [if_pos rfl]; rfl
    | true =>
      rw [if_neg (by decide), if_pos o, if_pos ri2, if_neg (by decide), if_pos o, if_pos ri4]
      cases hs2 : s.2.1 (B.1 6 i) with
      | false => rw [if_pos rfl]; rfl
      | true => rw [if_neg (by decide)]; rfl
theorem m_runBody {d n : Nat} {M : Mm} {B : Bk} (hG : Gd M) (hB : BK M B) (hn31 : n < 2 ^ 31) : ∃ N x, go (d + 1) 210 0 [.ref 171, .int (nI n), .null, .null, .null, .null, .null] [] M = some (none, N) ∧ RunM M N (runB B (fun i => n.testBit i) (nnB B)) x := by
  have hn := BK_nn hB
  rw [q210_0, if_pos (ok_171 hG), bM_d, show (0 : Int32) = nI 0 from rfl]
  have a1 := loopI (σ := Mm) (fun j N => go (d + 1) 210 10 [.ref 171, .int (nI n), .int (nI 0), .int (nI j), .null, .null, .null] [] N) (fun j N => Sm (fun a k => (a = 171 ∧ k = 42) ∨ a = 192) (fun _ => False) M N ∧ (∀ i, i < j → gI N 192 i = nI 0) ∧ gI N 171 42 = NONE) 4 (fun j N hj hN => by
    have hGN := Gd_Sm hN.1 hG
    refine ⟨sI N 192 j (nI 0), ?_, Sm_trans hN.1 (Sm_sI (Or.inr rfl)), fun i hi => ?_, ?_⟩
    · try dsimp only
      rw [q210_10, if_neg (by rw [show (4 : Int32) = nI 4 from rfl, nI_leI (by omega) (by omega)]; omega), if_pos (ok_171 hGN), gr_171_41 hGN, if_pos (wk_192 hGN hj), bM_d, nI_clamp (by omega), nI_1]
      rfl
    · rw [gI_sI]
      by_cases e : i = j
      · rw [if_pos ⟨rfl, e⟩]
      · rw [if_neg (fun z => e z.2)]; exact hN.2.1 i (by omega)
    · rw [gI_ne (by omega)]; exact hN.2.2) 4 0 (sI M 171 42 NONE) (by omega) ⟨Sm_sI (Or.inl ⟨rfl, rfl⟩), fun i hi => by omega, gI_at⟩
  obtain ⟨N0, s1, s2, s3, s4⟩ := a1
  try dsimp only at s1
  obtain ⟨⟨N, x, v4, v5, v6⟩, t1, t2⟩ := loopI (σ := Mm × Int32 × Value × Value × Value) (fun i s => go (d + 1) 210 30 [.ref 171, .int (nI n), .int s.2.1, .int (nI i), s.2.2.1, s.2.2.2.1, s.2.2.2.2] [] s.1) (fun i s => RunM M s.1 (runB B (fun i => n.testBit i) i) s.2.1) (nnB B) (fun i s hi hs => by
    obtain ⟨N, x, v4, v5, v6⟩ := s
    try dsimp only at hs
    have hGN := Gd_Sm hs.1 hG
    have c5 : gI N 171 9 = nI (nnB B) := (RunM_B hs hB).1.2.2.2.2.2.1
    have hr : runB B (fun i => n.testBit i) (i + 1) = if n.testBit i then actB B i (runB B (fun i => n.testBit i) i) else runB B (fun i => n.testBit i) i := rfl
    cases hx : n.testBit i with
    | false =>
      refine ⟨(N, x, v4, v5, v6), ?_, by rw [hr, hx]; exact hs⟩
      try dsimp only
      rw [q210_30, if_pos (ok_171 hGN), c5, if_neg (by rw [nI_leI (by omega) (by omega)]; omega), if_neg (fun z => by rw [(bit1 hn31 (by omega)).mp z] at hx; cases hx), nI_1]
    | true =>
      obtain ⟨N', x', v4', v5', v6', u1, u2⟩ := m_act (d := d) (v4 := v4) (v5 := v5) (v6 := v6) hG hB hi hs (runB_RB hB i (by omega)) hn31 hx
      exact ⟨(N', x', v4', v5', v6'), u1, by rw [hr, hx]; exact u2⟩) (nnB B) 0 (N0, nI 0, .null, .null, .null) (by omega) ⟨s2, s3, rfl, s4⟩
  try dsimp only at t1 t2
  have hGN := Gd_Sm t2.1 hG
  have c5 : gI N 171 9 = nI (nnB B) := (RunM_B t2 hB).1.2.2.2.2.2.1
  refine ⟨N, x, ?_, t2⟩
  refine Eq.trans s1 ?_
  rw [q210_10, if_pos (by decide), show (0 : Int32) = nI 0 from rfl, t1, q210_30, if_pos (ok_171 hGN), c5, if_pos (by rw [nI_leI (by omega) (by omega)]; omega)]
theorem run_body {B : Bk} {k v : Nat} {b : Int32} : runB B (fun i => (bodyB B k v b).testBit i) (nnB B) = runB B (sdB B k v b) (nnB B) := runB_cong (fun i hi => by rw [bodyB, bset_bit]; simp [hi])
theorem op_run {E M : Mm} {B : Bk} {d : Nat} (hI : Inv E M B) (x y z w : Int32) : Alike E M (d + 4) 131 211 [.ref 1, .int x, .int y, .int z, .int w, .null] [.ref 171, .int x, .int y, .int z, .int w] := by
  have hG := hI.1
  have hB := hI.2.2.2.2.2.2.1
  have hn := BK_nn hB
  have hp := p10 hn.1
  have o1 := ok_1 hG
  have cb := c_isBody (d := d) hG (BK_c hB) x y z
  have mb : ∀ N, Inv E N B → go (d + 3) 208 0 [.ref 171, .int x, .int y, .int z] [] (sI N 171 0 0) = some (some (.int (b2i (isBd (nmB B) x y z))), sI N 171 0 0) := fun N hN => m_isBody (d := d) (M := sI N 171 0 0) hN.1 (BK_c (thr hN).2.2.2.2.2.2.1) x y z
  have i5 : ∀ N, go (d + 3) 154 0 [.long w.toInt64, .null, .long (0 : Int64), .null, .long (4 : Int64), .null] [] N = some (some (.int (b2i (inR 5 w))), N) := fun N => by
    rw [show (4 : Int64) = (4 : Int32).toInt64 from rfl, m_inR (n := 5) rfl]
  cases h : isBd (nmB B) x y z with
  | false =>
    rw [h] at cb
    have mb' := mb M hI
    rw [h] at mb'
    refine Alike_q hI (-1000001) M (sI M 171 0 0) ?_ Sm_refl ?_ sm0
    · simp only [q131_0, o1, if_true, cb, bI_s, b2i0]
    · simp only [q211_0, ok_171 hG, okO_sI, if_true, bM_d, mb', bI_s, b2i0]
  | true =>
    rw [h] at cb
    cases h5 : inR 5 w with
    | false =>
      have mb' := mb M hI
      rw [h] at mb'
      refine Alike_q hI (-1000001) M (sI M 171 0 0) ?_ Sm_refl ?_ sm0
      · simp only [q131_0, o1, if_true, cb, bI_s, b2i0, Bool.true_eq_false, if_false]
        by_cases y0 : w < 0
        · rw [if_pos y0]
        · rw [if_neg y0, if_neg (fun q => ?_)]
          obtain ⟨j, hj, rfl⟩ := nI_of2 (x := w) (M := 4) (n := 4) rfl y0 q
          rw [inR_nI (by omega) (by omega)] at h5; cases h5
      · simp only [q211_0, ok_171 hG, okO_sI, if_true, bM_d, mb', bI_s, b2i0, Bool.true_eq_false, if_false, i5, h5]
    | true =>
      have h' := h
      simp only [isBd, Bool.and_eq_true] at h'
      obtain ⟨k, hk, rfl⟩ := inR_n (by omega) h'.1.1
      obtain ⟨v, hv, rfl⟩ := inR_n (by omega) h'.1.2
      obtain ⟨j, hj, rfl⟩ := inR_n (by omega) h5
      have hlt : bodyB B k v z < 2 ^ 31 := bs31 _ (by omega)
      obtain ⟨N, s, t⟩ := c_perform (d := d) hG hB hlt
      rw [run_body] at t
      have st := c_standing (d := d + 1) (b := z) hG hB (show k < 1024 by omega) (show v ≤ 9 by omega)
      have hS : Sm Qs QL M N := Sm_mono (fun r k z => by unfold Qs; omega) (fun r z => z.elim) t.1
      have hIN := Inv_q hI hS
      have hGN := hIN.1
      have mb' := mb N hIN
      rw [h] at mb'
      have hB2 := (thr hIN).2.2.2.2.2.2.1
      have bo := m_bodyOf (d := d + 2) (M := sI N 171 0 0) (b := z) hGN hB2 hk (show v ≤ 9 by omega)
      obtain ⟨N2, x2, s2, t2⟩ := m_runBody (d := d + 2) (M := sI N 171 0 0) (B := B) (n := bodyB B k v z) hGN hB2 hlt
      rw [run_body] at t2
      have hG2 := Gd_Sm t2.1 (show Gd (sI N 171 0 0) from hGN)
      have w0 : ¬ nI j < 0 := nI_pos (by omega)
      have w4 : nI j ≤ (4 : Int32) := (nI_leI (a := j) (b := 4) (by omega) (by omega)).mpr (by omega)
      have hS2 : Sm Qs QL N N2 := Sm_trans sm0 (Sm_mono (fun r k z => by unfold Qs; omega) (fun r z => z.elim) t2.1)
      by_cases e4 : j = 4
      · subst e4
        refine Alike_q hI (runB B (sdB B k v z) (nnB B)).2.2 N N2 ?_ hS ?_ hS2
        · simp only [q131_0, o1, if_true, cb, bI_s, b2i0, Bool.true_eq_false, if_false, w0, w4, gr_1_5 hG, ok_138 hG, gr_1_2 hG, ok_5 hG, st, gr_138_0 hG, ok_139 hG, s, bV_s]
          rw [if_pos (by decide), if_pos (ok_139 hGN), t.2.2.2]
        · simp only [q211_0, ok_171 hGN, okO_sI, if_true, bM_d, mb', bI_s, b2i0, Bool.true_eq_false, if_false, i5, h5, bo, s2, bV_s]
          rw [if_pos (by decide), if_pos (ok_171 hG2), t2.2.2.2]
      · have ne : ¬ nI j = (4 : Int32) := fun q => e4 ((nI_eq (a := j) (b := 4) (by omega) (by omega)).mp q)
        refine Alike_q hI (nI ((runB B (sdB B k v z) (nnB B)).1 j)) N N2 ?_ hS ?_ hS2
        · simp only [q131_0, o1, if_true, cb, bI_s, b2i0, Bool.true_eq_false, if_false, w0, w4, gr_1_5 hG, ok_138 hG, gr_1_2 hG, ok_5 hG, st, gr_138_0 hG, ok_139 hG, s, bV_s, ne, ok_139 hGN, gr_139_0 hGN, rk_140 hGN (show j < 4 by omega), nI_clamp (show j < 2 ^ 31 by omega), t.2.1 j (by omega)]
        · simp only [q211_0, ok_171 hGN, okO_sI, if_true, bM_d, mb', bI_s, b2i0, Bool.true_eq_false, if_false, i5, h5, bo, s2, bV_s, ne, ok_171 hG2, gr_171_41 hG2, rk_192 hG2 (show j < 4 by omega), nI_clamp (show j < 2 ^ 31 by omega), t2.2.1 j (by omega)]
