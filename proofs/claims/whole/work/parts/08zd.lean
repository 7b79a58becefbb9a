/-! ===== together ===== -/
/-- the first from k on, of m: 0 none, else it and 1 -/
def fr (p : Nat → Bool) : Nat → Nat → Nat
  | 0, _ => 0
  | m + 1, k => if p k then k + 1 else fr p m (k + 1)
theorem loopP {σ : Type} (F : Nat → σ → Oo) (p : Nat → Bool) (n : Nat) (e : Oo) (ans : Nat → Oo) (hs : ∀ k s, k < n → (p k = true → F k s = ans k) ∧ (p k = false → ∃ s', F k s = F (k + 1) s')) (he : ∀ s, F n s = e) : ∀ (m k : Nat) (s : σ), k + m = n → F k s = if fr p m k = 0 then e else ans (fr p m k - 1)
  | 0, k, s, h => by
    have e1 : k = n := by omega
    subst e1
    rw [he]; rfl
  | m + 1, k, s, h => by
    obtain ⟨h1, h2⟩ := hs k s (by omega)
    cases hp : p k with
    | true =>
      rw [h1 hp, fr, if_pos hp, if_neg (by omega)]; rfl
    | false =>
      obtain ⟨s', h3⟩ := h2 hp
      have e1 : fr p (m + 1) k = fr p m (k + 1) := by rw [fr, if_neg (by rw [hp]; decide)]
      rw [h3, loopP F p n e ans hs he m (k + 1) s' (by omega), e1]
theorem self_b {k n : Nat} (h : k < 2 ^ n) : bset (fun j => k.testBit j) n = k := by
  apply Nat.eq_of_testBit_eq
  intro i
  rw [bset_bit]
  by_cases hi : i < n
  · simp [hi]
  · simp [hi, tb_big h hi]
theorem sh10 : ∀ c, c < 10 → (1 : Int32) <<< (nI c &&& 31) = nI (bset (fun j => decide (j = c)) 10) := by decide +kernel
theorem sh10' : ∀ a, a < 10 → ∀ b, b < 10 → nI (bset (fun j => decide (j = a)) 10) ||| nI (bset (fun j => decide (j = b)) 10) = nI (bset (fun j => decide (j = a) || decide (j = b)) 10) := by decide +kernel
def kA (k a : Nat) : Nat := bset (fun j => k.testBit j && !decide (j = a)) 10
def kAB (k a b : Nat) : Nat := bset (fun j => k.testBit j && !(decide (j = a) || decide (j = b))) 10
theorem clr1 {k a : Nat} (hk : k < 1024) : nI k &&& (nI (bset (fun j => decide (j = a)) 10) ^^^ ((-1) : Int32)) = nI (kA k a) := by
  have := andnot_b (p := fun j => k.testBit j) (q := fun j => decide (j = a)) (n := 10) (by omega)
  rw [self_b (n := 10) hk] at this
  exact this
theorem clr2 {k a b : Nat} (hk : k < 1024) : nI k &&& (nI (bset (fun j => decide (j = a) || decide (j = b)) 10) ^^^ ((-1) : Int32)) = nI (kAB k a b) := by
  have := andnot_b (p := fun j => k.testBit j) (q := fun j => decide (j = a) || decide (j = b)) (n := 10) (by omega)
  rw [self_b (n := 10) hk] at this
  exact this
theorem clr3 {k a b : Nat} : nI (kA k a) &&& (nI (bset (fun j => decide (j = b)) 10) ^^^ ((-1) : Int32)) = nI (kAB k a b) := by
  unfold kA kAB
  rw [andnot_b (by omega)]
  exact congrArg nI (bset_cong (fun j _ => by simp [Bool.and_assoc]))
theorem kA_lt {k a n : Nat} (hk : k < 2 ^ n) : kA k a < 2 ^ n := by
  apply Nat.lt_pow_two_of_testBit
  intro i hi
  unfold kA
  rw [bset_bit, tb_big hk (by omega)]; simp
theorem kAB_lt {k a b n : Nat} (hk : k < 2 ^ n) : kAB k a b < 2 ^ n := by
  apply Nat.lt_pow_two_of_testBit
  intro i hi
  unfold kAB
  rw [bset_bit, tb_big hk (by omega)]; simp
theorem and_bit {k a : Nat} (hk : k < 1024) (ha : a < 10) : (nI k &&& nI (bset (fun j => decide (j = a)) 10)) = 0 ↔ k.testBit a = false := by
  rw [← sh10 a ha, shl1 a (by omega), fa_and, show (0 : Int32) = nI 0 from rfl, nI_eq (Nat.lt_of_le_of_lt Nat.and_le_left (by omega)) (by omega)]
  constructor
  · intro h
    have h2 := congrArg (fun z => z.testBit a) h
    simp only [Nat.testBit_and, Nat.testBit_two_pow_self, Nat.zero_testBit, Bool.and_true] at h2
    exact h2
  · intro h
    apply Nat.eq_of_testBit_eq
    intro i
    rw [Nat.testBit_and, Nat.testBit_two_pow, Nat.zero_testBit]
    by_cases e : a = i
    · subst e; rw [h]; rfl
    · simp [e]
def tgB (B : Bk) (a b k : Nat) : Bool := k.testBit a && k.testBit b && (alB B k && (alB B (kA k a) && (alB B (kA k b) && (alB B (kAB k a b) && !decide (endB B k + endB B (kAB k a b) = endB B (kA k a) + endB B (kA k b))))))
theorem c_actTogether {d : Nat} {M : Mm} {B : Bk} {a b k : Nat} (hG : Gd M) (hB : BK M B) (hC : ECk M B) (ha : a < 10) (hb : b < 10) (hk : k < 2 ^ nmB B) : go (d + 2) 27 0 [.ref 138, .int (nI k), .int (nI (bset (fun j => decide (j = a)) 10)), .int (nI (bset (fun j => decide (j = b)) 10)), .null, .null] [] M = some (some (.int (b2i (alB B k && (alB B (kA k a) && (alB B (kA k b) && (alB B (kAB k a b) && !decide (endB B k + endB B (kAB k a b) = endB B (kA k a) + endB B (kA k b)))))))), M) := by
  have hn := BK_nn hB
  have hp := p10 hn.1
  have l1 := kA_lt (a := a) hk
  have l2 := kA_lt (a := b) hk
  have l3 := kAB_lt (a := a) (b := b) hk
  have h0 := c_has_al (d := d) hG hB (show k < 1024 by omega)
  have h1 := c_has_al (d := d) hG hB (show kA k a < 1024 by omega)
  have h2 := c_has_al (d := d) hG hB (show kA k b < 1024 by omega)
  have h3 := c_has_al (d := d) hG hB (show kAB k a b < 1024 by omega)
  have e0 := endB_lt hB k
  have e1 := endB_lt hB (kA k a)
  have e2 := endB_lt hB (kA k b)
  have e3 := endB_lt hB (kAB k a b)
  rw [q27_0, sh10' a ha b hb, clr1 (by omega), clr1 (by omega), clr2 (by omega)]
  simp only [ok_138 hG, if_true, gr_138_9 hG, ok_126 hG, gr_126_0 hG, ok_127 hG, h0, h1, h2, h3, bI_s, b2i0, gr_138_5 hG, rk_144 hG (show k < 1024 by omega), rk_144 hG (show kA k a < 1024 by omega), rk_144 hG (show kA k b < 1024 by omega), rk_144 hG (show kAB k a b < 1024 by omega), nI_clamp (show k < 2 ^ 31 by omega), nI_clamp (show kA k a < 2 ^ 31 by omega), nI_clamp (show kA k b < 2 ^ 31 by omega), nI_clamp (show kAB k a b < 2 ^ 31 by omega)]
  cases x0 : alB B k with
  | false => rfl
  | true =>
    cases x1 : alB B (kA k a) with
    | false => rfl
    | true =>
      cases x2 : alB B (kA k b) with
      | false => rfl
      | true =>
        cases x3 : alB B (kAB k a b) with
        | false => rfl
        | true =>
          rw [if_neg (by decide), if_neg (by decide), if_neg (by decide), if_neg (by decide), hC.2.1 _ hk x0, hC.2.1 _ l1 x1, hC.2.1 _ l2 x2, hC.2.1 _ l3 x3, nI_add, nI_add]
          by_cases z : endB B k + endB B (kAB k a b) = endB B (kA k a) + endB B (kA k b)
          · rw [if_pos (by rw [z]), decide_eq_true z]; rfl
          · rw [if_neg (fun w => z ((nI_eq (by omega) (by omega)).mp w)), decide_eq_false z]; rfl
theorem c_leastTogether {d : Nat} {M : Mm} {B : Bk} {a b : Nat} (hG : Gd M) (hB : BK M B) (hC : ECk M B) (ha : a < 10) (hb : b < 10) : go (d + 3) 26 0 [.ref 138, .int (nI (bset (fun j => decide (j = a)) 10)), .int (nI (bset (fun j => decide (j = b)) 10)), .null] [] M = some (some (.int (optI (fr (tgB B a b) (2 ^ nmB B) 0))), M) := by
  have hn := BK_nn hB
  have hp := p10 hn.1
  have am := c_allMarks (d := d + 1) hG (BK_c hB)
  have o := ok_138 hG
  rw [q26_0, show (0 : Int32) = nI 0 from rfl]
  have hr := loopP (σ := Unit) (fun k _ => go (d + 3) 26 2 [.ref 138, .int (nI (bset (fun j => decide (j = a)) 10)), .int (nI (bset (fun j => decide (j = b)) 10)), .int (nI k)] [] M) (tgB B a b) (2 ^ nmB B) (some (some (.int NONE), M)) (fun k => some (some (.int (nI k)), M)) (fun k s hk => by
    have at' := c_actTogether (d := d) hG hB hC ha hb hk
    try dsimp only
    rw [q26_2, if_pos o, gr_138_8 hG, if_pos (ok_5 hG), am, bI_s, if_neg (by rw [nI_ltI (by omega) (by omega)]; omega), if_pos o, at', bI_s]
    simp only [and_bit (show k < 1024 by omega) ha, and_bit (show k < 1024 by omega) hb, b2i0, nI_1]
    unfold tgB
    cases k.testBit a with
    | false => exact ⟨fun z => by simp at z, fun _ => ⟨(), by rw [if_pos rfl]⟩⟩
    | true =>
      cases k.testBit b with
      | false => exact ⟨fun z => by simp at z, fun _ => ⟨(), by rw [if_neg (by decide), if_pos rfl]⟩⟩
      | true =>
        rw [if_neg (by decide), if_neg (by decide), Bool.true_and, Bool.true_and]
        exact ⟨fun z => by rw [if_neg (by rw [z]; decide)], fun z => ⟨(), by rw [if_pos z]⟩⟩) (fun s => by
    try dsimp only
    rw [q26_2, if_pos o, gr_138_8 hG, if_pos (ok_5 hG), am, bI_s, if_pos (by rw [nI_ltI (by omega) (by omega)]; omega)]) (2 ^ nmB B) 0 () (by omega)
  try dsimp only at hr
  rw [hr]
  unfold optI
  split <;> rfl
theorem m_has {d : Nat} {M : Mm} {k a : Nat} (hk : k < 1024) (ha : a < 10) : go (d + 1) 184 0 [.int (nI k), .int (nI a)] [] M = some (some (.int (b2i (k.testBit a))), M) := by
  rw [q184_0, if_neg (fun z => none_ne (n := a) (by omega) z.symm)]
  simp only [bit1 (show k < 2 ^ 31 by omega) (show a < 31 by omega)]
  cases k.testBit a <;> rfl
theorem fn_none {M : Mm} {B : Bk} (hB : BK M B) (k : Nat) : fnB B k = (-1000000 : Int32) ↔ alB B k = false := by
  have e0 := endB_lt hB k
  unfold fnB
  cases alB B k with
  | false => simp
  | true =>
    rw [if_pos rfl]
    exact ⟨fun z => absurd z.symm (none_ne (by omega)), fun z => by cases z⟩
theorem m_together {d : Nat} {M : Mm} {B : Bk} {a b : Nat} (hG : Gd M) (hB : BK M B) (hf : ∀ k, k < 2 ^ nmB B → gI M 193 k = fnB B k) (ha : a < 10) (hb : b < 10) : go (d + 2) 215 45 [.ref 171, .int (nI a), .int (nI b), .int ((1 : Int32) <<< (nI a &&& 31)), .int ((1 : Int32) <<< (nI b &&& 31)), .int (0 : Int32), .null, .null, .null, .null] [] M = some (some (.int (optI (fr (tgB B a b) (2 ^ nmB B) 0))), M) := by
  have hn := BK_nn hB
  have hp := p10 hn.1
  have o := ok_171 hG
  have c9 : gI M 171 36 = nI (2 ^ nmB B) := hB.1.2.2.2.2.2.2.2.2.1
  rw [sh10 a ha, sh10 b hb, show (0 : Int32) = nI 0 from rfl]
  have hr := loopP (σ := Value × Value × Value × Value) (fun k s => go (d + 2) 215 45 [.ref 171, .int (nI a), .int (nI b), .int (nI (bset (fun j => decide (j = a)) 10)), .int (nI (bset (fun j => decide (j = b)) 10)), .int (nI k), s.1, s.2.1, s.2.2.1, s.2.2.2] [] M) (tgB B a b) (2 ^ nmB B) (some (some (.int NONE), M)) (fun k => some (some (.int (nI k)), M)) (fun k s hk => by
    obtain ⟨v6, v7, v8, v9⟩ := s
    have l1 := kA_lt (a := a) hk
    have l2 := kA_lt (a := b) hk
    have l3 := kAB_lt (a := a) (b := b) hk
    try dsimp only
    rw [q215_45, if_pos o, c9, if_neg (by rw [nI_leI (by omega) (by omega)]; omega), m_has (by omega) ha, bI_s, m_has (by omega) hb, bI_s, clr1 (by omega), clr1 (by omega), clr3]
    simp only [b2i0, nI_1, o, if_true, gr_171_43 hG, rk_193 hG (show k < 1024 by omega), rk_193 hG (show kA k a < 1024 by omega), rk_193 hG (show kA k b < 1024 by omega), rk_193 hG (show kAB k a b < 1024 by omega), nI_clamp (show k < 2 ^ 31 by omega), nI_clamp (show kA k a < 2 ^ 31 by omega), nI_clamp (show kA k b < 2 ^ 31 by omega), nI_clamp (show kAB k a b < 2 ^ 31 by omega), hf k hk, hf _ l1, hf _ l2, hf _ l3, bX_d, fn_none hB]
    unfold tgB
    cases k.testBit a with
    | false => exact ⟨fun z => by simp at z, fun _ => ⟨(v6, v7, v8, v9), by rw [if_pos rfl]⟩⟩
    | true =>
      cases k.testBit b with
      | false => exact ⟨fun z => by simp at z, fun _ => ⟨(v6, v7, v8, v9), by rw [if_neg (by decide), if_pos rfl]⟩⟩
      | true =>
        rw [if_neg (by decide), if_neg (by decide), Bool.true_and, Bool.true_and]
        cases x0 : alB B k with
        | false => exact ⟨fun z => by simp at z, fun _ => ⟨(.int (fnB B k), .int (fnB B (kA k a)), .int (fnB B (kA k b)), .int (fnB B (kAB k a b))), by rw [if_pos rfl]⟩⟩
        | true =>
          cases x1 : alB B (kA k a) with
          | false => exact ⟨fun z => by simp at z, fun _ => ⟨(.int (fnB B k), .int (fnB B (kA k a)), .int (fnB B (kA k b)), .int (fnB B (kAB k a b))), by rw [if_neg (by decide), if_pos rfl]⟩⟩
          | true =>
            cases x2 : alB B (kA k b) with
            | false => exact ⟨fun z => by simp at z, fun _ => ⟨(.int (fnB B k), .int (fnB B (kA k a)), .int (fnB B (kA k b)), .int (fnB B (kAB k a b))), by rw [if_neg (by decide), if_neg (by decide), if_pos rfl]⟩⟩
            | true =>
              cases x3 : alB B (kAB k a b) with
              | false => exact ⟨fun z => by simp at z, fun _ => ⟨(.int (fnB B k), .int (fnB B (kA k a)), .int (fnB B (kA k b)), .int (fnB B (kAB k a b))), by rw [if_neg (by decide), if_neg (by decide), if_neg (by decide), if_pos rfl]⟩⟩
              | true =>
                have e0 := endB_lt hB k
                have e1 := endB_lt hB (kA k a)
                have e2 := endB_lt hB (kA k b)
                have e3 := endB_lt hB (kAB k a b)
                have f0 : fnB B k = nI (endB B k) := by unfold fnB; rw [x0]; rfl
                have f1 : fnB B (kA k a) = nI (endB B (kA k a)) := by unfold fnB; rw [x1]; rfl
                have f2 : fnB B (kA k b) = nI (endB B (kA k b)) := by unfold fnB; rw [x2]; rfl
                have f3 : fnB B (kAB k a b) = nI (endB B (kAB k a b)) := by unfold fnB; rw [x3]; rfl
                have ee : fnB B k + fnB B (kAB k a b) = fnB B (kA k a) + fnB B (kA k b) ↔ endB B k + endB B (kAB k a b) = endB B (kA k a) + endB B (kA k b) := by
                  rw [f0, f1, f2, f3, nI_add, nI_add, nI_eq (by omega) (by omega)]
                rw [if_neg (by decide), if_neg (by decide), if_neg (by decide), if_neg (by decide)]
                by_cases z : endB B k + endB B (kAB k a b) = endB B (kA k a) + endB B (kA k b)
                · exact ⟨fun w => (by rw [decide_eq_true z] at w; cases w), fun _ => ⟨(.int (fnB B k), .int (fnB B (kA k a)), .int (fnB B (kA k b)), .int (fnB B (kAB k a b))), by rw [if_pos (ee.mpr z)]⟩⟩
                · exact ⟨fun _ => by rw [if_neg (fun w => z (ee.mp w))], fun w => by rw [decide_eq_false z] at w; cases w⟩) (fun s => by
    try dsimp only
    rw [q215_45, if_pos o, c9, if_pos (by rw [nI_leI (by omega) (by omega)]; omega)]) (2 ^ nmB B) 0 (.null, .null, .null, .null) (by omega)
  try dsimp only at hr
  rw [hr]
  unfold optI
  split <;> rfl
theorem op_together {E M : Mm} {B : Bk} {d : Nat} (hI : Inv E M B) (x y : Int32) : Alike E M (d + 5) 133 215 [.ref 1, .int x, .int y] [.ref 171, .int x, .int y, .null, .null, .null, .null, .null, .null, .null] := by
  have hG := hI.1
  have hB := hI.2.2.2.2.2.2.1
  have hE := hI.2.2.2.2.2.2.2.2.1
  have hn := BK_nn hB
  have cx := c_isMark (d := d + 3) hG (BK_c hB) x
  have cy := c_isMark (d := d + 3) hG (BK_c hB) y
  have hB0 := (thr hI).2.2.2.2.2.2.1
  have mx := m_isMark (d := d + 2) (M := sI M 171 0 0) hG (BK_c hB0) x
  have my := m_isMark (d := d + 2) (M := sI M 171 0 0) hG (BK_c hB0) y
  cases h1 : inR (nmB B) x with
  | false =>
    refine Alike_q hI (-1000001) M (sI M 171 0 0) ?_ Sm_refl ?_ sm0
    · simp only [q133_0, ok_1 hG, gr_1_2 hG, ok_5 hG, if_true, cx, bI_s, b2i0, h1]
    · simp only [q215_0, ok_171 hG, okO_sI, if_true, bM_d, mx, bI_s, b2i0, h1]
  | true =>
    cases h2 : inR (nmB B) y with
    | false =>
      refine Alike_q hI (-1000001) M (sI M 171 0 0) ?_ Sm_refl ?_ sm0
      · simp only [q133_0, ok_1 hG, gr_1_2 hG, ok_5 hG, if_true, cx, cy, bI_s, b2i0, h1, h2, Bool.true_eq_false, if_false]
      · simp only [q215_0, ok_171 hG, okO_sI, if_true, bM_d, mx, my, bI_s, b2i0, h1, h2, Bool.true_eq_false, if_false]
    | true =>
      by_cases h3 : x = y
      · refine Alike_q hI (-1000001) M (sI M 171 0 0) ?_ Sm_refl ?_ sm0
        · simp only [q133_0, ok_1 hG, gr_1_2 hG, ok_5 hG, if_true, cx, cy, bI_s, b2i0, h1, h2, Bool.true_eq_false, if_false]
          rw [if_pos h3]
        · simp only [q215_0, ok_171 hG, okO_sI, if_true, bM_d, mx, my, bI_s, b2i0, h1, h2, Bool.true_eq_false, if_false]
          rw [if_pos h3]
      · obtain ⟨a, ha, rfl⟩ := inR_n (by omega) h1
        obtain ⟨b, hb, rfl⟩ := inR_n (by omega) h2
        obtain ⟨N, s, hS, hC⟩ := c_learn (d := d) hG hB hE
        have hIN := Inv_learn hI hS hC
        have hGN := hIN.1
        have hBN := hIN.2.2.2.2.2.2.1
        have hB2 := (thr hIN).2.2.2.2.2.2.1
        obtain ⟨N2, t, hS2, hf⟩ := m_findEnds (d := d + 1) (M := sI N 171 0 0) hGN hB2
        have hG2 := Gd_Sm hS2 (show Gd (sI N 171 0 0) from hGN)
        have hB3 := BK_mf hB2 hS2
        have ct := c_leastTogether (d := d + 1) (a := a) (b := b) hGN hBN hC (by omega) (by omega)
        have mt := m_together (d := d + 3) (a := a) (b := b) hG2 hB3 hf (by omega) (by omega)
        have mx := m_isMark (d := d + 2) (M := sI N 171 0 0) hGN (BK_c hB2) (nI a)
        have my := m_isMark (d := d + 2) (M := sI N 171 0 0) hGN (BK_c hB2) (nI b)
        refine ⟨optI (fr (tgB B a b) (2 ^ nmB B) 0), N, N2, B, ?_, ?_, Inv_q (thr hIN) (q_mf hS2)⟩
        · simp only [q133_0, ok_1 hG, gr_1_2 hG, ok_5 hG, if_true, cx, cy, bI_s, b2i0, h1, h2, Bool.true_eq_false, if_false, h3, gr_1_5 hG, ok_138 hG, s, bV_s, ok_1 hGN, gr_1_5 hGN, ok_138 hGN, sh10 a (by omega), sh10 b (by omega), ct]
        · simp only [q215_0, ok_171 hGN, okO_sI, if_true, bM_d, mx, my, bI_s, b2i0, h1, h2, Bool.true_eq_false, if_false, h3, t, bV_s]
          exact mt
