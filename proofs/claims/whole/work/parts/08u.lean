/-! ===== forced ===== -/
def gwB (on off k : Nat) : Bool := allB (fun m => (!on.testBit m || k.testBit m) && (!off.testBit m || !k.testBit m)) 10
theorem gw_iff {on off k : Nat} (h1 : on < 1024) (h2 : off < 1024) : gwB on off k = true ↔ (k &&& on = on ∧ k &&& off = 0) := by
  unfold gwB
  rw [allB_iff]
  constructor
  · intro h
    refine ⟨sub_iff.mpr (fun i hi => ?_), ?_⟩
    · have hi10 : i < 10 := by
        apply Classical.byContradiction
        intro z
        rw [tb_big (n := 10) h1 z] at hi; cases hi
      have := h i hi10
      simp [hi] at this
      exact this.1
    · apply Nat.eq_of_testBit_eq
      intro i
      rw [Nat.testBit_and, Nat.zero_testBit]
      by_cases hi10 : i < 10
      · have := h i hi10
        cases ho : off.testBit i
        · simp
        · simp [ho] at this; simp [this.2]
      · rw [tb_big (n := 10) h2 hi10]; simp
  · rintro ⟨ha, hb⟩ m hm
    have h3 := sub_iff.mp ha m
    have h4 := congrArg (fun z => z.testBit m) hb
    simp only [Nat.testBit_and, Nat.zero_testBit] at h4
    cases e1 : on.testBit m <;> cases e2 : off.testBit m <;> cases e3 : k.testBit m <;> simp_all
theorem kt_keepChoice {d : Nat} {M N : Mm} {a w on off : Nat} {g : Nat → Bool} (h : KSet M N w g) (hw : w ≠ 3000) (hX : Wd M) (hA : KS M a w) (h1 : on < 2 ^ 31) (h2 : off < 2 ^ 31) : ∃ N', go (d + 3) 51 0 [.ref a, .int (nI on), .int (nI off), .null] [] N = some (none, N') ∧ KSet M N' w (fun k => g k && gwB on off k) := by
  rw [q51_0, show (0 : Int32) = nI 0 from rfl]
  obtain ⟨N', s1, s2⟩ := loopI (σ := Mm) (fun m N => go (d + 3) 51 2 [.ref a, .int (nI on), .int (nI off), .int (nI m)] [] N) (fun m N => KSet M N w (fun k => g k && allB (fun m => (!on.testBit m || k.testBit m) && (!off.testBit m || !k.testBit m)) m)) 10 (fun m N hm hN => by
    have hk : KS N a w := KSet_KS (v := w) hN hA
    try dsimp only
    rw [q51_2, if_neg (by rw [show (10 : Int32) = nI 10 from rfl, nI_leI (by omega) (by omega)]; omega), c_hasBit h1 (by omega), bI_s]
    simp only [c_hasBit h2 (show m < 31 by omega), bI_s, b2i0, nI_1]
    obtain ⟨N1, k1, k2⟩ := kt_keepOn (d := d) hN hw hm hX hA
    obtain ⟨N2, k3, k4⟩ := kt_keepOff (d := d) hN hw hm hX hA
    obtain ⟨N3, k5, k6⟩ := kt_keepOff (d := d) k2 hw hm hX hA
    cases e1 : on.testBit m with
    | false =>
      cases e2 : off.testBit m with
      | false =>
        refine ⟨N, ?_, KSet_c hN (fun k _ => by rw [allB_s]; simp [e1, e2])⟩
        rw [if_pos rfl, if_pos rfl]
      | true =>
        refine ⟨N2, ?_, KSet_c k4 (fun k _ => by rw [allB_s]; simp [e1, e2, Bool.and_assoc])⟩
        rw [if_pos rfl, if_neg (by decide), if_pos hk.1, k3, bV_s]
    | true =>
      cases e2 : off.testBit m with
      | false =>
        refine ⟨N1, ?_, KSet_c k2 (fun k _ => by rw [allB_s]; simp [e1, e2, Bool.and_assoc])⟩
        rw [if_neg (by decide), if_pos hk.1, k1, bV_s, if_pos rfl]
      | true =>
        refine ⟨N3, ?_, KSet_c k6 (fun k _ => by rw [allB_s]; simp [e1, e2, Bool.and_assoc])⟩
        rw [if_neg (by decide), if_pos hk.1, k1, bV_s, if_neg (by decide), if_pos (KSet_KS (v := w) k2 hA).1, k5, bV_s]) 10 0 N (by omega) (KSet_c h (fun k _ => by simp [allB]))
  try dsimp only at s1
  exact ⟨N', by rw [s1, q51_2, if_pos (by decide)], s2⟩
theorem m_goesWith {d : Nat} {M : Mm} {k on off : Nat} (hk : k < 1024) (h1 : on < 1024) (h2 : off < 1024) : go (d + 1) 196 0 [.int (nI k), .int (nI on), .int (nI off)] [] M = some (some (.int (b2i (gwB on off k))), M) := by
  have e1 : nI (k &&& on) = nI on ↔ k &&& on = on := nI_eq (Nat.lt_of_le_of_lt Nat.and_le_left (by omega)) (by omega)
  have e2 : nI (k &&& off) = 0 ↔ k &&& off = 0 := nI_eq (b := 0) (Nat.lt_of_le_of_lt Nat.and_le_left (by omega)) (by omega)
  rw [q196_0, fa_and, fa_and]
  simp only [e1, e2]
  cases h : gwB on off k with
  | true =>
    obtain ⟨a, b⟩ := (gw_iff h1 h2).mp h
    rw [if_pos a, if_pos b]; rfl
  | false =>
    by_cases a : k &&& on = on
    · rw [if_pos a, if_neg (fun b => ?_)]
      · rfl
      · rw [(gw_iff h1 h2).mpr ⟨a, b⟩] at h; cases h
    · rw [if_neg a]; rfl
/-- ors and ands of kinds of a set -/
def orS (S : Nat → Bool) (nm n : Nat) : Nat := bset (fun m => anyB (fun k => S k && k.testBit m) n) nm
def anS (S : Nat → Bool) (nm n : Nat) : Nat := bset (fun m => !anyB (fun k => S k && !k.testBit m) n) nm
theorem orS_t {S : Nat → Bool} {nm n : Nat} (hn : n < 2 ^ nm) (h : S n = true) : orS S nm n ||| n = orS S nm (n + 1) := by
  apply Nat.eq_of_testBit_eq
  intro i
  unfold orS
  rw [Nat.testBit_or, bset_bit, bset_bit, anyB_s]
  by_cases hi : i < nm
  · simp [hi, h]
  · simp [hi, tb_big hn hi]
theorem orS_f {S : Nat → Bool} {nm n : Nat} (h : S n = false) : orS S nm (n + 1) = orS S nm n := bset_cong (fun m _ => by rw [anyB_s, h]; simp)
theorem anS_t {S : Nat → Bool} {nm n : Nat} (h : S n = true) : anS S nm n &&& n = anS S nm (n + 1) := by
  apply Nat.eq_of_testBit_eq
  intro i
  unfold anS
  rw [Nat.testBit_and, bset_bit, bset_bit, anyB_s]
  by_cases hi : i < nm
  · simp [hi, h]
  · simp [hi]
theorem anS_f {S : Nat → Bool} {nm n : Nat} (h : S n = false) : anS S nm (n + 1) = anS S nm n := bset_cong (fun m _ => by rw [anyB_s, h]; simp)
theorem anS_0 (S : Nat → Bool) (nm : Nat) : anS S nm 0 = 2 ^ nm - 1 := bset_full.mpr (allB_t (fun _ _ => rfl))
theorem orS_0 (S : Nat → Bool) (nm : Nat) : orS S nm 0 = 0 := by
  apply Nat.eq_of_testBit_eq
  intro i
  unfold orS
  rw [bset_bit]
  simp [anyB, allB]
def chB (B : Bk) (on off k : Nat) : Bool := alB B k && gwB on off k
/-- marks that are forced on (b) or off -/
def fcB (B : Bk) (on off : Nat) (b : Bool) (m : Nat) : Bool := !(on ||| off).testBit m && !anyB (fun k => chB B on off k && (if b then !k.testBit m else k.testBit m)) (2 ^ nmB B)
theorem c_forced {d : Nat} {M : Mm} {B : Bk} {on off : Nat} {b : Bool} (hG : Gd M) (hB : BK M B) (h1 : on < 1024) (h2 : off < 1024) : ∃ N g, go (d + 4) 66 0 [.ref 126, .int (nI on), .int (nI off), .int (b2i b), .null, .null, .null] [] M = some (some (.int (if anyB (chB B on off) (2 ^ nmB B) = true then nI (bset (fcB B on off b) (nmB B)) else -1000000)), N) ∧ KSet M N 132 g := by
  have hn := BK_nn hB
  have hp := p10 hn.1
  have hX : Wd M := hB.2.2.2.2.2.2.1
  obtain ⟨N1, s1, k1⟩ := kt_take (d := d + 2) (KS_some hG) (KS_allowed hG) rfl rfl
  obtain ⟨N2, s2, k2⟩ := kt_keepChoice (d := d) (on := on) (off := off) k1 (by omega) hX (KS_some hG) (by omega) (by omega)
  have k2 : KSet M N2 132 (chB B on off) := KSet_c k2 (fun k hk => by rw [hB.2.2.2.1.2.1 k hk]; rfl)
  have hG1 := KSet_G k1 hG
  have hG2 := KSet_G k2 hG
  have hB2 : BK N2 B := BK_KSet k2 (by unfold rdL; omega) hB
  have c1 : gI N2 5 0 = nI (nmB B) := hB2.1.1
  have em := kt_isEmpty (d := d + 2) k2 (KS_some hG)
  have out : ∀ k, 2 ^ nmB B ≤ k → chB B on off k = false := fun k h => by unfold chB; rw [alB_out h]; rfl
  rw [any_cut (n := 2 ^ nmB B) (by omega) (fun k h _ => out k h)] at em
  refine ⟨N2, _, ?_, k2⟩
  simp only [q66_0, ok_126 hG, gr_126_2 hG, ok_131 hG, gr_126_0 hG, if_true, s1, bV_s, ok_126 hG1, gr_126_2 hG1, ok_131 hG1, s2, ok_126 hG2, gr_126_2 hG2, ok_131 hG2, em, bI_s, b2i0]
  cases hc : anyB (chB B on off) (2 ^ nmB B) with
  | false => rfl
  | true =>
    rw [if_pos (show (!true) = false from rfl), if_pos rfl, show (0 : Int32) = nI 0 from rfl]
    obtain ⟨⟨s, z⟩, t1, t2⟩ := loopI (σ := Int32 × Value) (fun m s => go (d + 4) 66 39 [.ref 126, .int (nI on), .int (nI off), .int (b2i b), .int s.1, .int (nI m), s.2] [] N2) (fun m s => s.1 = nI (bset (fcB B on off b) m)) (nmB B) (fun m s hm hs => by
      obtain ⟨s, z⟩ := s
      try dsimp only at hs
      subst hs
      have hbt := c_hasBit (d := d + 2) (M := N2) (n := on ||| off) (i := m) (Nat.lt_of_lt_of_le (Nat.or_lt_two_pow (n := 10) h1 h2) (by omega)) (by omega)
      have ho := kt_hasOn (d := d + 1) (m := m) k2 (by omega) (by omega) hX (KS_some hG)
      have hf := kt_hasOff (d := d + 1) (m := m) k2 (by omega) (by omega) hX (KS_some hG)
      rw [any_cut (n := 2 ^ nmB B) (by omega) (fun k h _ => by rw [out k h]; rfl)] at ho
      rw [any_cut (n := 2 ^ nmB B) (by omega) (fun k h _ => by rw [out k h]; rfl)] at hf
      try dsimp only
      rw [q66_39, if_pos (ok_126 hG2), gr_126_4 hG2, if_pos (ok_5 hG2), c1, if_neg (by rw [nI_leI (by omega) (by omega)]; omega), fa_or, hbt, bI_s]
      simp only [b2i0]
      cases hb : (on ||| off).testBit m with
      | true =>
        refine ⟨(nI (bset (fcB B on off b) (m + 1)), .int 0), ?_, rfl⟩
        rw [if_neg (by decide), q66_67, if_pos rfl, nI_1, no_b (p := fcB B on off b) (by unfold fcB; rw [hb]; rfl)]
      | false =>
        refine ⟨(nI (bset (fcB B on off b) (m + 1)), .int 1), ?_, rfl⟩
        rw [if_pos rfl, q66_67, if_neg (by decide)]
        cases b with
        | false =>
          rw [if_pos (show b2i false = 0 from rfl), if_pos (ok_126 hG2), gr_126_2 hG2, if_pos (ok_131 hG2), ho, bI_s]
          simp only [b2i0]
          cases hq : anyB (fun k => chB B on off k && k.testBit m) (2 ^ nmB B) with
          | false => rw [if_pos rfl, nI_1, or_b (p := fcB B on off false) (by omega) (by unfold fcB; rw [hb]; simpa using hq)]
          | true => rw [if_neg (by decide), nI_1, no_b (p := fcB B on off false) (by unfold fcB; rw [hb]; simpa using hq)]
        | true =>
          rw [if_neg (by decide), if_pos (ok_126 hG2), gr_126_2 hG2, if_pos (ok_131 hG2), hf, bI_s]
          simp only [b2i0]
          cases hq : anyB (fun k => chB B on off k && !k.testBit m) (2 ^ nmB B) with
          | false => rw [if_pos rfl, nI_1, or_b (p := fcB B on off true) (by omega) (by unfold fcB; rw [hb]; simpa using hq)]
          | true => rw [if_neg (by decide), nI_1, no_b (p := fcB B on off true) (by unfold fcB; rw [hb]; simpa using hq)]) (nmB B) 0 (nI 0, .null) (by omega) rfl
    try dsimp only at t1 t2
    rw [t1, q66_39, if_pos (ok_126 hG2), gr_126_4 hG2, if_pos (ok_5 hG2), c1, if_pos (by rw [nI_leI (by omega) (by omega)]; omega), t2]
theorem m_forced {d : Nat} {M : Mm} {B : Bk} {on off w : Nat} (hG : Gd M) (hB : BK M B) (h1 : on < 2 ^ nmB B) (h2 : off < 2 ^ nmB B) (hw : w < 2) : go (d + 3) 197 44 [.ref 171, .int (nI on), .int (nI off), .int (nI w), .int (0 : Int32), .int (gI M 171 36 - (1 : Int32)), .int (0 : Int32), .int (0 : Int32)] [] M = some (some (.int (if anyB (chB B on off) (2 ^ nmB B) = true then nI (bset (fcB B on off (decide (w = 0))) (nmB B)) else -1000000)), M) := by
  have hn := BK_nn hB
  have hp := p10 hn.1
  have o := ok_171 hG
  have c9 : gI M 171 36 = nI (2 ^ nmB B) := hB.1.2.2.2.2.2.2.2.2.1
  have e1 := sub1 hp.2
  rw [c9, e1]
  obtain ⟨⟨s, t, u⟩, s1, s2, s3, s4⟩ := loopI (σ := Int32 × Int32 × Int32) (fun k s => go (d + 3) 197 44 [.ref 171, .int (nI on), .int (nI off), .int (nI w), .int s.1, .int s.2.1, .int s.2.2, .int (nI k)] [] M) (fun k s => s.1 = nI (orS (chB B on off) (nmB B) k) ∧ s.2.1 = nI (anS (chB B on off) (nmB B) k) ∧ s.2.2 = b2i (anyB (chB B on off) k)) (2 ^ nmB B) (fun k s hk hs => by
    obtain ⟨s, t, u⟩ := s
    obtain ⟨rfl, rfl, rfl⟩ := hs
    refine ⟨(nI (orS (chB B on off) (nmB B) (k + 1)), nI (anS (chB B on off) (nmB B) (k + 1)), b2i (anyB (chB B on off) (k + 1))), ?_, rfl, rfl, rfl⟩
    try dsimp only
    rw [q197_44, if_pos o, c9, if_neg (by rw [nI_leI (by omega) (by omega)]; omega), if_pos o, m_isAllowed hG hB hk, bI_s, m_goesWith (by omega) (by omega) (by omega)]
    simp only [bI_s, b2i0, nI_1]
    cases ha : alB B k with
    | false =>
      have hc : chB B on off k = false := by unfold chB; rw [ha]; rfl
      rw [if_pos rfl, orS_f hc, anS_f hc, anyB_s, hc, Bool.or_false]
    | true =>
      cases hg : gwB on off k with
      | false =>
        have hc : chB B on off k = false := by unfold chB; rw [ha, hg]; rfl
        rw [if_neg (by decide), if_pos rfl, orS_f hc, anS_f hc, anyB_s, hc, Bool.or_false]
      | true =>
        have hc : chB B on off k = true := by unfold chB; rw [ha, hg]; rfl
        rw [if_neg (by decide), if_neg (by decide), fa_or, fa_and, orS_t hk hc, anS_t hc, anyB_s, hc, Bool.or_true]
        rfl) (2 ^ nmB B) 0 (0, nI (2 ^ nmB B - 1), 0) (by omega) ⟨by rw [orS_0]; rfl, by rw [anS_0], rfl⟩
  try dsimp only at s1 s2 s3 s4
  rw [show (0 : Int32) = nI 0 from rfl] at s1 ⊢
  rw [s1, q197_44, if_pos o, c9, if_pos (by rw [nI_leI (by omega) (by omega)]; omega), if_pos o, bX_d, s2, s3, s4, e1]
  have bon : on = bset (fun m => on.testBit m) (nmB B) := by
    apply Nat.eq_of_testBit_eq
    intro i
    rw [bset_bit]
    by_cases hi : i < nmB B
    · simp [hi]
    · simp [hi, tb_big h1 hi]
  have bof : off = bset (fun m => off.testBit m) (nmB B) := by
    apply Nat.eq_of_testBit_eq
    intro i
    rw [bset_bit]
    by_cases hi : i < nmB B
    · simp [hi]
    · simp [hi, tb_big h2 hi]
  have bop : (nI (2 ^ nmB B - 1) &&& (nI on ^^^ ((-1) : Int32))) &&& (nI off ^^^ ((-1) : Int32)) = nI (bset (fun m => !(on ||| off).testBit m) (nmB B)) := by
    rw [show (2 ^ nmB B - 1) = bset (fun _ => true) (nmB B) from (bset_full.mpr (allB_t (fun _ _ => rfl))).symm]
    conv => lhs; rw [bon, bof]
    rw [andnot_b (by omega), andnot_b (by omega)]
    exact congrArg nI (bset_cong (fun m _ => by rw [Nat.testBit_or]; simp))
  rw [bop]
  have b0 : b2i (anyB (chB B on off) (2 ^ nmB B)) = 0 ↔ anyB (chB B on off) (2 ^ nmB B) = false := b2i0
  simp only [b0]
  cases hc : anyB (chB B on off) (2 ^ nmB B) with
  | false => rfl
  | true =>
    rw [if_neg (by decide), if_pos rfl]
    rcases (show w = 0 ∨ w = 1 by omega) with rfl | rfl
    · rw [if_pos (show nI 0 = 0 from rfl)]
      have : nI (anS (chB B on off) (nmB B) (2 ^ nmB B)) &&& nI (bset (fun m => !(on ||| off).testBit m) (nmB B)) = nI (bset (fcB B on off true) (nmB B)) := by
        rw [fa_and]
        refine congrArg nI (Nat.eq_of_testBit_eq (fun i => ?_))
        unfold anS
        rw [Nat.testBit_and, bset_bit, bset_bit, bset_bit]
        unfold fcB
        by_cases hi : i < nmB B
        · simp [hi, Bool.and_comm]
        · simp [hi]
      rw [this]; rfl
    · rw [if_neg (by decide)]
      have : nI (bset (fun m => !(on ||| off).testBit m) (nmB B)) &&& (nI (orS (chB B on off) (nmB B) (2 ^ nmB B)) ^^^ ((-1) : Int32)) = nI (bset (fcB B on off false) (nmB B)) := by
        unfold orS
        rw [andnot_b (by omega)]
        exact congrArg nI (bset_cong (fun m _ => by unfold fcB; simp))
      rw [this]; rfl
theorem op_forced {E M : Mm} {B : Bk} {d : Nat} (hI : Inv E M B) (x y z : Int32) : Alike E M (d + 5) 124 197 [.ref 1, .int x, .int y, .int z] [.ref 171, .int x, .int y, .int z, .null, .null, .null, .null] := by
  have hG := hI.1
  have hB := hI.2.2.2.2.2.2.1
  have hn := BK_nn hB
  have hp := p10 hn.1
  have o1 := ok_1 hG
  have ch := c_isChoice (d := d + 1) hG (BK_c hB) x y
  have mc : ∀ N, Inv E N B → go (d + 4) 195 0 [.ref 171, .int x, .int y] [] (sI N 171 0 0) = some (some (.int (b2i (inR (2 ^ nmB B) x && inR (2 ^ nmB B) y && decide (x &&& y = 0)))), sI N 171 0 0) := fun N hN => m_isChoice (d := d + 1) (M := sI N 171 0 0) hN.1 (BK_c (thr hN).2.2.2.2.2.2.1) x y
  have i2 : ∀ N, go (d + 4) 154 0 [.long z.toInt64, .null, .long (0 : Int64), .null, .long (1 : Int64), .null] [] N = some (some (.int (b2i (inR 2 z))), N) := fun N => by
    rw [show (1 : Int64) = (1 : Int32).toInt64 from rfl, m_inR (n := 2) rfl]
  cases h : (inR (2 ^ nmB B) x && inR (2 ^ nmB B) y && decide (x &&& y = 0)) with
  | false =>
    rw [h] at ch
    have mc' := mc M hI
    rw [h] at mc'
    refine Alike_q hI (-1000001) M (sI M 171 0 0) ?_ Sm_refl ?_ sm0
    · simp only [q124_0, o1, gr_1_2 hG, ok_5 hG, if_true, ch, bI_s, b2i0]
    · simp only [q197_0, ok_171 hG, okO_sI, if_true, bM_d, mc', bI_s, b2i0]
  | true =>
    rw [h] at ch
    cases hz : inR 2 z with
    | false =>
      have mc' := mc M hI
      rw [h] at mc'
      refine Alike_q hI (-1000001) M (sI M 171 0 0) ?_ Sm_refl ?_ sm0
      · simp only [q124_0, o1, gr_1_2 hG, ok_5 hG, if_true, ch, bI_s, b2i0, Bool.true_eq_false, if_false]
        by_cases y0 : z < 0
        · rw [if_pos y0]
        · rw [if_neg y0, if_neg (fun q => ?_)]
          obtain ⟨j, hj, rfl⟩ := nI_of2 (x := z) (M := 1) (n := 1) rfl y0 q
          rw [inR_nI (by omega) (by omega)] at hz; cases hz
      · simp only [q197_0, ok_171 hG, okO_sI, if_true, bM_d, mc', bI_s, b2i0, Bool.true_eq_false, if_false, i2, hz]
    | true =>
      have h' := h
      simp only [Bool.and_eq_true] at h'
      obtain ⟨on, hon, rfl⟩ := inR_n (by omega) h'.1.1
      obtain ⟨off, hof, rfl⟩ := inR_n (by omega) h'.1.2
      obtain ⟨w, hw, rfl⟩ := inR_n (by omega) hz
      obtain ⟨N, g, s, k⟩ := c_forced (d := d) (b := decide (w = 0)) hG hB (show on < 1024 by omega) (show off < 1024 by omega)
      have hS : Sm Qs QL M N := KSet_Sm k (by unfold QL; omega)
      have hIN := Inv_q hI hS
      have mc' := mc N hIN
      rw [h] at mc'
      refine Alike_q hI (if anyB (chB B on off) (2 ^ nmB B) = true then nI (bset (fcB B on off (decide (w = 0))) (nmB B)) else -1000000) N (sI N 171 0 0) ?_ hS ?_ sm0
      · have t0 : nI w ≤ (1 : Int32) := (nI_leI (a := w) (b := 1) (by omega) (by omega)).mpr (by omega)
        simp only [q124_0, o1, gr_1_2 hG, ok_5 hG, if_true, ch, bI_s, b2i0, Bool.true_eq_false, if_false, nI_pos (show w < 2 ^ 31 by omega), t0, gr_1_4 hG, ok_126 hG]
        rcases (show w = 0 ∨ w = 1 by omega) with rfl | rfl
        · rw [if_pos (show nI 0 = (0 : Int32) from rfl)]
          rw [show b2i (decide (0 = 0)) = (1 : Int32) from rfl] at s
          rw [s, bI_s]
        · rw [if_neg (by decide)]
          rw [show b2i (decide (1 = 0)) = (0 : Int32) from rfl] at s
          rw [s, bI_s]
      · simp only [q197_0, ok_171 hIN.1, okO_sI, if_true, bM_d, mc', bI_s, b2i0, Bool.true_eq_false, if_false, i2, hz]
        exact m_forced (d := d + 2) (M := sI N 171 0 0) hIN.1 (thr hIN).2.2.2.2.2.2.1 hon hof hw
