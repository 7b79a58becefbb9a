/-! ===== many, idle ===== -/
theorem anyB_s (p : Nat → Bool) (n : Nat) : anyB p (n + 1) = (anyB p n || p n) := by
  show (!(allB (fun k => !p k) n && !p n)) = _
  unfold anyB
  cases allB (fun k => !p k) n <;> cases p n <;> rfl
theorem sub_iff {a b : Nat} : a &&& b = b ↔ ∀ i, b.testBit i = true → a.testBit i = true := by
  constructor
  · intro h i hi
    have := congrArg (fun z => z.testBit i) h
    simp only [Nat.testBit_and, hi, Bool.and_true] at this
    exact this
  · intro h
    apply Nat.eq_of_testBit_eq
    intro i
    rw [Nat.testBit_and]
    cases hb : b.testBit i with
    | false => simp
    | true => rw [h i hb]; rfl
theorem hoB_tb {B : Bk} (h : nlB B ≤ 8) (k i : Nat) : (hoB B k).testBit i = ((decide (i < nlB B) && B.2.1 i k) || (decide (i = 8) && trB B k)) := by
  have h1 := bset_lt (fun l => B.2.1 l k) (nlB B)
  have h2 := p8 h
  unfold hoB
  by_cases ht : trB B k = true
  · rw [if_pos ht, show bset (fun l => B.2.1 l k) (nlB B) + 256 = 2 ^ 8 * 1 + bset (fun l => B.2.1 l k) (nlB B) by omega, Nat.testBit_two_pow_mul_add _ (by omega)]
    by_cases h8 : i < 8
    · rw [if_pos h8, bset_bit]; simp [show ¬ i = 8 by omega]
    · rw [if_neg h8, show (1 : Nat) = 2 ^ 0 from rfl, Nat.testBit_two_pow]
      by_cases e : i = 8
      · subst e; simp [ht, show ¬ 8 < nlB B by omega]
      · simp [e, show ¬ i < nlB B by omega, show ¬ 0 = i - 8 by omega]
  · rw [if_neg ht, Nat.add_zero, bset_bit]
    simp [ht]
/-- the tree and some laws, as a number -/
def setN (p : Nat → Bool) (n : Nat) (t : Bool) : Nat := bset p n + (if t then 256 else 0)
theorem setN_tb {p : Nat → Bool} {n : Nat} {t : Bool} (h : n ≤ 8) (i : Nat) : (setN p n t).testBit i = ((decide (i < n) && p i) || (decide (i = 8) && t)) := by
  have h1 := bset_lt p n
  have h2 := p8 h
  unfold setN
  by_cases ht : t = true
  · rw [if_pos ht, show bset p n + 256 = 2 ^ 8 * 1 + bset p n by omega, Nat.testBit_two_pow_mul_add _ (by omega)]
    by_cases h8 : i < 8
    · rw [if_pos h8, bset_bit]; simp [show ¬ i = 8 by omega]
    · rw [if_neg h8, show (1 : Nat) = 2 ^ 0 from rfl, Nat.testBit_two_pow]
      by_cases e : i = 8
      · subst e; simp [ht, show ¬ 8 < n by omega]
      · simp [e, show ¬ i < n by omega, show ¬ 0 = i - 8 by omega]
  · rw [if_neg ht, Nat.add_zero, bset_bit]
    simp at ht; simp [ht]
theorem setN_lt {p : Nat → Bool} {n : Nat} {t : Bool} (h : n ≤ 8) : setN p n t < 512 := by
  have h1 := bset_lt p n
  have h2 := p8 h
  unfold setN
  split <;> omega
/-- do the tree (if t) and the laws of p hold of a kind -/
def hsB (B : Bk) (p : Nat → Bool) (t : Bool) (k : Nat) : Bool := (!t || trB B k) && allB (fun l => !p l || B.2.1 l k) (nlB B)
theorem hsB_iff {B : Bk} (h : nlB B ≤ 8) (p : Nat → Bool) (t : Bool) (k : Nat) : (hoB B k &&& setN p (nlB B) t = setN p (nlB B) t) ↔ hsB B p t k = true := by
  rw [sub_iff]
  unfold hsB
  rw [Bool.and_eq_true, allB_iff]
  constructor
  · intro hh
    refine ⟨?_, fun l hl => ?_⟩
    · cases t with
      | false => rfl
      | true =>
        have := hh 8 (by rw [setN_tb h]; simp)
        rw [hoB_tb h] at this
        simp [show ¬ 8 < nlB B by omega] at this
        simp [this]
    · have := hh l
      rw [setN_tb h, hoB_tb h] at this
      cases hp : p l
      · rfl
      · simp [hl, hp, show ¬ l = 8 by omega] at this
        simp [this]
  · intro hh i hi
    rw [setN_tb h] at hi
    rw [hoB_tb h]
    by_cases hl : i < nlB B
    · have := hh.2 i hl
      simp [hl, show ¬ i = 8 by omega] at hi
      simp [hi] at this
      simp [hl, this]
    · simp [hl] at hi
      have := hh.1
      simp [hi.2] at this
      simp [hi.1, this]
theorem m_manyHold {d : Nat} {M : Mm} {B : Bk} {p : Nat → Bool} {t : Bool} (hG : Gd M) (hB : BK M B) : go (d + 1) 192 0 [.ref 171, .int (nI (setN p (nlB B) t)), .null, .null] [] M = some (some (.int (nI (fb_ct (hsB B p t) (2 ^ nmB B)))), M) := by
  have hn := BK_nn hB
  have hp := p10 hn.1
  have o := ok_171 hG
  have c9 : gI M 171 36 = nI (2 ^ nmB B) := hB.1.2.2.2.2.2.2.2.2.1
  have hs := setN_lt (p := p) (t := t) hn.2.1
  rw [q192_0, show (0 : Int32) = nI 0 from rfl]
  obtain ⟨s, s1, s2⟩ := loopI (σ := Int32) (fun k s => go (d + 1) 192 4 [.ref 171, .int (nI (setN p (nlB B) t)), .int s, .int (nI k)] [] M) (fun k s => s = nI (fb_ct (hsB B p t) k)) (2 ^ nmB B) (fun k s hk hs2 => by
    subst hs2
    refine ⟨_, ?_, rfl⟩
    try dsimp only
    have h5 : gI M 189 k = nI (hoB B k) := hB.2.2.2.1.2.2.2.2.1 k hk
    have hl := hoB_lt hn.2.1 k
    have hle : hoB B k &&& setN p (nlB B) t < 2 ^ 31 := Nat.lt_of_le_of_lt Nat.and_le_left (by omega)
    rw [q192_4, if_pos o, c9, if_neg (by rw [nI_leI (by omega) (by omega)]; omega), if_pos o, gr_171_37 hG, if_pos (rk_189 hG (by omega)), nI_clamp (by omega), h5, fa_and, fb_ct_succ]
    simp only [nI_eq hle (show setN p (nlB B) t < 2 ^ 31 by omega), hsB_iff hn.2.1]
    cases hsB B p t k <;> simp [nI_1]) (2 ^ nmB B) 0 (nI 0) (by omega) rfl
  try dsimp only at s1
  rw [s1, q192_4, if_pos o, c9, if_pos (by rw [nI_leI (by omega) (by omega)]; omega), s2]
theorem all_setN {B : Bk} : 256 + (2 ^ nlB B - 1) = setN (fun _ => true) (nlB B) true := by
  unfold setN
  rw [bset_full.mpr (allB_t (fun _ _ => rfl)), if_pos rfl]; omega
theorem hsB_all {B : Bk} {k : Nat} (hk : k < 2 ^ nmB B) : hsB B (fun _ => true) true k = alB B k := by
  unfold hsB alB lwsB
  simp [hk]
theorem ct_al {B : Bk} (h : nmB B ≤ 10) : fb_ct (alB B) 1024 = fb_ct (alB B) (2 ^ nmB B) := ct_cut (p10 h).1 (fun _ h1 _ => alB_out h1)
theorem c_manyA {d : Nat} {M : Mm} {B : Bk} (hG : Gd M) (hB : BK M B) : go (d + 2) 56 0 [.ref 127, .null, .null] [] M = some (some (.int (nI (fb_ct (alB B) (2 ^ nmB B)))), M) := by
  rw [kt_size (KSet_self hB.2.2.2.1.2.1) (KS_allowed hG), ct_al (BK_nn hB).1]
theorem op_many {E M : Mm} {B : Bk} {d : Nat} (hI : Inv E M B) : Alike E M (d + 3) 122 193 [.ref 1] [.ref 171] := by
  have hG := hI.1
  have hB := hI.2.2.2.2.2.2.1
  have hB' := (thr hI).2.2.2.2.2.2.1
  refine Alike_q hI (nI (fb_ct (alB B) (2 ^ nmB B))) M (sI M 171 0 0) ?_ Sm_refl ?_ sm0
  · simp only [q122_0, ok_1 hG, gr_1_4 hG, ok_126 hG, gr_126_0 hG, ok_127 hG, if_true, c_manyA hG hB, bI_s]
  · have h1 := m_allLaws (d := d + 1) (M := sI M 171 0 0) hG hB'
    rw [all_setN] at h1
    have h2 := m_manyHold (d := d + 1) (M := sI M 171 0 0) (p := fun _ => true) (t := true) hG hB'
    simp only [q193_0, ok_171 hG, okO_sI, if_true, bM_d, h1, bI_s, h2]
    rw [fb_ct_cong (fun k hk => hsB_all hk)]
theorem c_deadMarks {d : Nat} {M : Mm} {B : Bk} (hG : Gd M) (hB : BK M B) : go (d + 3) 63 0 [.ref 126, .null, .null] [] M = some (some (.int (nI (bset (fun m => !anyB (fun k => alB B k && k.testBit m) (2 ^ nmB B)) (nmB B)))), M) := by
  have hn := BK_nn hB
  have hp := p10 hn.1
  have hX : Wd M := hB.2.2.2.2.2.2.1
  have c1 : gI M 5 0 = nI (nmB B) := hB.1.1
  rw [q63_0, show (0 : Int32) = nI 0 from rfl]
  obtain ⟨s, s1, s2⟩ := loopI (σ := Int32) (fun k s => go (d + 3) 63 4 [.ref 126, .int s, .int (nI k)] [] M) (fun n s => s = nI (bset (fun m => !anyB (fun k => alB B k && k.testBit m) (2 ^ nmB B)) n)) (nmB B) (fun m s hm hs => by
    subst hs
    refine ⟨_, ?_, rfl⟩
    try dsimp only
    have ho := kt_hasOn (d := d) (m := m) (KSet_self hB.2.2.2.1.2.1) (by omega) (show m < 10 by omega) hX (KS_allowed hG)
    rw [any_cut (n := 2 ^ nmB B) (by omega) (fun k h1 _ => by rw [alB_out h1]; rfl)] at ho
    rw [q63_4, if_pos (ok_126 hG), gr_126_4 hG, if_pos (ok_5 hG), c1, if_neg (by rw [nI_leI (by omega) (by omega)]; omega), if_pos (ok_126 hG), gr_126_0 hG, if_pos (ok_127 hG), ho, bI_s]
    simp only [b2i0]
    cases hc : anyB (fun k => alB B k && k.testBit m) (2 ^ nmB B) with
    | false => rw [if_pos rfl, nI_1, or_b (p := fun m => !anyB (fun k => alB B k && k.testBit m) (2 ^ nmB B)) (by omega) (by rw [hc]; rfl)]
    | true => rw [if_neg (by decide), nI_1, no_b (p := fun m => !anyB (fun k => alB B k && k.testBit m) (2 ^ nmB B)) (by rw [hc]; rfl)]) (nmB B) 0 (nI 0) (by omega) rfl
  try dsimp only at s1
  rw [s1, q63_4, if_pos (ok_126 hG), gr_126_4 hG, if_pos (ok_5 hG), c1, if_pos (by rw [nI_leI (by omega) (by omega)]; omega), s2]
theorem c_sureMarks {d : Nat} {M : Mm} {B : Bk} (hG : Gd M) (hB : BK M B) : go (d + 3) 64 0 [.ref 126, .null, .null] [] M = some (some (.int (nI (bset (fun m => !anyB (fun k => alB B k && !k.testBit m) (2 ^ nmB B)) (nmB B)))), M) := by
  have hn := BK_nn hB
  have hp := p10 hn.1
  have hX : Wd M := hB.2.2.2.2.2.2.1
  have c1 : gI M 5 0 = nI (nmB B) := hB.1.1
  rw [q64_0, show (0 : Int32) = nI 0 from rfl]
  obtain ⟨s, s1, s2⟩ := loopI (σ := Int32) (fun k s => go (d + 3) 64 4 [.ref 126, .int s, .int (nI k)] [] M) (fun n s => s = nI (bset (fun m => !anyB (fun k => alB B k && !k.testBit m) (2 ^ nmB B)) n)) (nmB B) (fun m s hm hs => by
    subst hs
    refine ⟨_, ?_, rfl⟩
    try dsimp only
    have ho := kt_hasOff (d := d) (m := m) (KSet_self hB.2.2.2.1.2.1) (by omega) (show m < 10 by omega) hX (KS_allowed hG)
    rw [any_cut (n := 2 ^ nmB B) (by omega) (fun k h1 _ => by rw [alB_out h1]; rfl)] at ho
    rw [q64_4, if_pos (ok_126 hG), gr_126_4 hG, if_pos (ok_5 hG), c1, if_neg (by rw [nI_leI (by omega) (by omega)]; omega), if_pos (ok_126 hG), gr_126_0 hG, if_pos (ok_127 hG), ho, bI_s]
    simp only [b2i0]
    cases hc : anyB (fun k => alB B k && !k.testBit m) (2 ^ nmB B) with
    | false => rw [if_pos rfl, nI_1, or_b (p := fun m => !anyB (fun k => alB B k && !k.testBit m) (2 ^ nmB B)) (by omega) (by rw [hc]; rfl)]
    | true => rw [if_neg (by decide), nI_1, no_b (p := fun m => !anyB (fun k => alB B k && !k.testBit m) (2 ^ nmB B)) (by rw [hc]; rfl)]) (nmB B) 0 (nI 0) (by omega) rfl
  try dsimp only at s1
  rw [s1, q64_4, if_pos (ok_126 hG), gr_126_4 hG, if_pos (ok_5 hG), c1, if_pos (by rw [nI_leI (by omega) (by omega)]; omega), s2]
