/-! ===== hold ===== -/
/-- has p mark a as x, mark b as y -/
def nwB (L : List Nat) (k a b : Nat) : Bool := !L.any (fun p => (p.testBit a == k.testBit a) && (p.testBit b == k.testBit b))
theorem nwB_sym (L : List Nat) (k a b : Nat) : nwB L k a b = nwB L k b a := by
  unfold nwB
  congr 1
  induction L with
  | nil => rfl
  | cons p L ih => rw [List.any_cons, List.any_cons, ih, Bool.and_comm]
theorem np_eq (nm : Nat) (L : List Nat) (k : Nat) : npB nm L k = fb_sm (fun a => fb_ct (fun b => nwB L k a b) a) nm := rfl
theorem dbl {q : Nat → Nat → Bool} (hq : ∀ a b, q a b = q b a) : ∀ n, fb_sm (fun a => fb_ct (fun b => decide (b ≠ a) && q a b) n) n = 2 * fb_sm (fun a => fb_ct (fun b => q a b) a) n
  | 0 => rfl
  | n + 1 => by
    have ih := dbl hq n
    rw [fb_sm_succ, fb_sm_succ]
    have h1 : fb_sm (fun a => fb_ct (fun b => decide (b ≠ a) && q a b) (n + 1)) n = fb_sm (fun a => fb_ct (fun b => decide (b ≠ a) && q a b) n) n + fb_ct (fun b => q n b) n := by
      have h2 : ∀ m, m ≤ n → fb_sm (fun a => fb_ct (fun b => decide (b ≠ a) && q a b) (n + 1)) m = fb_sm (fun a => fb_ct (fun b => decide (b ≠ a) && q a b) n) m + fb_ct (fun b => q n b) m := by
        intro m
        induction m with
        | zero => intro _; rfl
        | succ m ihm =>
          intro hm
          rw [fb_sm_succ, fb_sm_succ, fb_ct_succ (fun b => q n b) m, ihm (by omega), fb_ct_succ _ n, hq n m]
          simp only [show n ≠ m by omega, ne_eq, not_false_eq_true, decide_true, Bool.true_and]
          omega
      exact h2 n (Nat.le_refl _)
    have h3 : fb_ct (fun b => decide (b ≠ n) && q n b) (n + 1) = fb_ct (fun b => q n b) n := by
      rw [fb_ct_succ, fb_ct_cong (q := fun b => q n b) (fun b hb => by simp [show b ≠ n by omega])]
      simp
    rw [h1, h3, ih]
    omega
/-- literals: below 10 a mark on, from 10 on a mark off -/
def ltB (nm p l : Nat) : Bool := if l < 10 then decide (l < nm) && p.testBit l else decide (l - 10 < nm) && !p.testBit (l - 10)
def ltN (k m : Nat) : Nat := if k.testBit m then m else m + 10
theorem lits_n : ∀ nm, nm < 11 → ∀ k, k < 2 ^ nm → nI k ||| ((nI (2 ^ nm - 1) &&& (nI k ^^^ ((-1) : Int32))) <<< ((10 : Int32) &&& 31)) = nI (bset (ltB nm k) 20) := by decide +kernel
theorem ltN_lt {k m : Nat} (h : m < 10) : ltN k m < 20 := by unfold ltN; split <;> omega
theorem lt_at {nm p k m : Nat} (hm : m < nm) (hn : nm ≤ 10) : ltB nm p (ltN k m) = (p.testBit m == k.testBit m) := by
  unfold ltB ltN
  cases hk : k.testBit m with
  | true => simp [hm, show m < 10 by omega]
  | false => simp [hm, show ¬ m + 10 < 10 by omega]
theorem cnt_lit {nm k m : Nat} {L : List Nat} (hm : m < nm) (hn : nm ≤ 10) : fb_ct (fun l => ltB nm k l && !(decide (l = ltN k m) || L.any (fun p => ltB nm p (ltN k m) && ltB nm p l))) 20 = fb_ct (fun j => decide (j ≠ m) && nwB L k m j) nm := by
  have e1 : ∀ l, L.any (fun p => ltB nm p (ltN k m) && ltB nm p l) = L.any (fun p => (p.testBit m == k.testBit m) && ltB nm p l) := fun l => by
    congr 1; funext p; rw [lt_at hm hn]
  simp only [e1]
  rw [show (20 : Nat) = 10 + 10 from rfl, fb_ct_split, ← fb_ct_or (fun j hj z => by
    have h1 : ltB nm k j = true := by have := z.1; simp only [Bool.and_eq_true] at this; exact this.1
    have h2 : ltB nm k (10 + j) = true := by have := z.2; simp only [Bool.and_eq_true] at this; exact this.1
    unfold ltB at h1 h2
    rw [if_pos hj] at h1
    rw [if_neg (by omega), show 10 + j - 10 = j by omega] at h2
    simp only [Bool.and_eq_true, Bool.not_eq_true'] at h1 h2
    rw [h1.2] at h2; cases h2.2)]
  have hcut := ct_cut (p := fun j => decide (j < nm) && (decide (j ≠ m) && nwB L k m j)) (n := nm) (m := 10) hn (fun j h1 _ => by simp [show ¬ j < nm by omega])
  have hc2 : fb_ct (fun j => decide (j < nm) && (decide (j ≠ m) && nwB L k m j)) nm = fb_ct (fun j => decide (j ≠ m) && nwB L k m j) nm := fb_ct_cong (fun j hj => by rw [decide_eq_true hj, Bool.true_and])
  rw [← hc2, ← hcut]
  apply fb_ct_cong
  intro j hj
  have u1 : ∀ p, ltB nm p j = (decide (j < nm) && p.testBit j) := fun p => by unfold ltB; rw [if_pos hj]
  have u2 : ∀ p, ltB nm p (10 + j) = (decide (j < nm) && !p.testBit j) := fun p => by unfold ltB; rw [if_neg (by omega), show 10 + j - 10 = j by omega]
  simp only [u1, u2]
  by_cases hjn : j < nm
  · simp only [decide_eq_true hjn, Bool.true_and]
    unfold nwB
    have n1 : k.testBit j = true → decide (j = ltN k m) = decide (j = m) := fun h => by
      unfold ltN
      by_cases e : j = m
      · subst e; rw [h]; simp
      · split
        · rfl
        · simp [e]; omega
    have n2 : k.testBit j = false → decide (10 + j = ltN k m) = decide (j = m) := fun h => by
      unfold ltN
      by_cases e : j = m
      · subst e; rw [h]; simp; omega
      · split
        · simp [e]; omega
        · simp [e]; omega
    cases hk : k.testBit j with
    | true =>
      rw [n1 hk]
      have : (fun p : Nat => (p.testBit m == k.testBit m) && p.testBit j) = (fun p : Nat => (p.testBit m == k.testBit m) && (p.testBit j == true)) := by
        funext p; cases p.testBit j <;> rfl
      rw [this]
      simp
    | false =>
      rw [n2 hk]
      have : (fun p : Nat => (p.testBit m == k.testBit m) && !p.testBit j) = (fun p : Nat => (p.testBit m == k.testBit m) && (p.testBit j == false)) := by
        funext p; cases p.testBit j <;> rfl
      rw [this]
      simp
  · simp [hjn]
/-- what is had: literals with literals -/
def HAD (N : Mm) (nm : Nat) (L : List Nat) : Prop := ∀ l, l < 20 → gI N 150 l = nI (bset (fun j => decide (j = l) || L.any (fun p => ltB nm p l && ltB nm p j)) 20)
theorem c_lits {d k : Nat} {M : Mm} {B : Bk} (hG : Gd M) (hB : BK M B) (hk : k < 2 ^ nmB B) : go (d + 2) 37 0 [.ref 148, .int (nI k)] [] M = some (some (.int (nI (bset (ltB (nmB B) k) 20))), M) := by
  have hn := BK_nn hB
  rw [q37_0, if_pos (ok_148 hG), gr_148_3 hG, if_pos (ok_5 hG), c_allMarks hG (BK_c hB), bI_s, lits_n (nmB B) (by omega) k hk]
theorem c_litOf {d k m : Nat} {M : Mm} (hk : k < 1024) (hm : m < 10) : go (d + 2) 38 0 [.int (nI k), .int (nI m)] [] M = some (some (.int (nI (ltN k m))), M) := by
  rw [q38_0, c_hasBit (by omega) (by omega), bI_s]
  simp only [b2i0]
  unfold ltN
  cases k.testBit m with
  | false => rw [if_pos rfl, show (10 : Int32) = nI 10 from rfl, nI_add]; rfl
  | true => rfl
theorem cnt32 (P : Nat → Bool) : fb_ct (fun i => (bset P 20).testBit i) 32 = fb_ct P 20 := by
  rw [ct_cut (n := 20) (by omega) (fun i h1 _ => by rw [bset_bit]; simp [show ¬ i < 20 by omega])]
  exact fb_ct_cong (fun i hi => by rw [bset_bit]; simp [hi])
theorem np_le {nm : Nat} (hn : nm ≤ 10) (L : List Nat) (k : Nat) : npB nm L k ≤ 100 := by
  rw [np_eq]
  have h1 : fb_sm (fun a => fb_ct (fun b => nwB L k a b) a) nm ≤ fb_sm (fun _ => 10) nm := fb_sm_le (fun a ha => Nat.le_trans (fb_ct_le _ _) (by omega))
  rw [fb_sm_const] at h1
  omega
theorem c_newPairs {d k : Nat} {M : Mm} {B : Bk} {L : List Nat} (hG : Gd M) (hB : BK M B) (hH : HAD M (nmB B) L) (hk : k < 2 ^ nmB B) : go (d + 3) 35 0 [.ref 148, .int (nI k), .null, .null, .null] [] M = some (some (.int (nI (2 * npB (nmB B) L k))), M) := by
  have hn := BK_nn hB
  have hp := p10 hn.1
  have c1 : gI M 5 0 = nI (nmB B) := hB.1.1
  have o := ok_148 hG
  rw [q35_0, if_pos o, c_lits hG hB hk, bI_s, show (0 : Int32) = nI 0 from rfl]
  obtain ⟨s, s1, s2⟩ := loopI (σ := Int32) (fun m s => go (d + 3) 35 11 [.ref 148, .int (nI k), .int (nI (bset (ltB (nmB B) k) 20)), .int s, .int (nI m)] [] M) (fun m s => s = nI (fb_sm (fun a => fb_ct (fun b => decide (b ≠ a) && nwB L k a b) (nmB B)) m)) (nmB B) (fun m s hm hs => by
    subst hs
    have hl := ltN_lt (k := k) (show m < 10 by omega)
    refine ⟨_, ?_, rfl⟩
    try dsimp only
    rw [q35_11, if_pos o, gr_148_3 hG, if_pos (ok_5 hG), c1, if_neg (by rw [nI_leI (by omega) (by omega)]; omega), if_pos o, c_litOf (by omega) (by omega), bI_s, gr_148_5 hG, if_pos (rk_150 hG hl), nI_clamp (by omega), hH _ hl, andnot_b (by omega), bitCountI _ (bs31 _ (by omega)), bI_s, cnt32, cnt_lit hm hn.1, nI_add, nI_1, fb_sm_succ]) (nmB B) 0 (nI 0) (by omega) rfl
  try dsimp only at s1
  rw [s1, q35_11, if_pos o, gr_148_3 hG, if_pos (ok_5 hG), c1, if_pos (by rw [nI_leI (by omega) (by omega)]; omega), s2, dbl (nwB_sym L k), np_eq]
theorem bestF_le (B : Bk) (L : List Nat) : ∀ n, (bestF B L n).1 ≤ n
  | 0 => Nat.le_refl _
  | n + 1 => by
    have := bestF_le B L n
    simp only [bestF]
    split
    · exact Nat.le_refl _
    · omega
theorem bestF_2 (B : Bk) (L : List Nat) : ∀ n, ((bestF B L n).1 = 0 → (bestF B L n).2 = 0) ∧ ((bestF B L n).1 ≠ 0 → (bestF B L n).2 = npB (nmB B) L ((bestF B L n).1 - 1) ∧ 0 < (bestF B L n).2)
  | 0 => ⟨fun _ => rfl, fun h => absurd rfl h⟩
  | n + 1 => by
    have ih := bestF_2 B L n
    simp only [bestF]
    by_cases hc : (alB B n && decide ((bestF B L n).2 < npB (nmB B) L n)) = true
    · rw [if_pos hc]
      refine ⟨fun h => by simp at h, fun _ => ⟨by simp, ?_⟩⟩
      simp only [Bool.and_eq_true, decide_eq_true_eq] at hc
      show 0 < npB (nmB B) L n
      omega
    · rw [if_neg hc]; exact ih
theorem c_bestKind {d : Nat} {M : Mm} {B : Bk} {L : List Nat} (hG : Gd M) (hB : BK M B) (hH : HAD M (nmB B) L) : go (d + 4) 34 0 [.ref 148, .null, .null, .null, .null] [] M = some (some (.int (optI (bestB B L))), M) := by
  have hn := BK_nn hB
  have hp := p10 hn.1
  have am := c_allMarks (d := d + 2) hG (BK_c hB)
  have o := ok_148 hG
  rw [q34_0, show (0 : Int32) = nI 0 from rfl]
  obtain ⟨⟨s, t, z⟩, s1, s2, s3⟩ := loopI (σ := Int32 × Int32 × Value) (fun k s => go (d + 4) 34 7 [.ref 148, .int s.1, .int s.2.1, .int (nI k), s.2.2] [] M) (fun k s => s.1 = optI (bestF B L k).1 ∧ s.2.1 = nI (2 * (bestF B L k).2)) (2 ^ nmB B) (fun k s hk hs => by
    obtain ⟨s, t, z⟩ := s
    obtain ⟨e1, e2⟩ := hs
    try dsimp only at e1 e2
    subst e1; subst e2
    have ha := c_has_al (d := d + 2) hG hB (show k < 1024 by omega)
    have hnp := c_newPairs (d := d) hG hB hH hk
    have l1 := np_le hn.1 L k
    have l2 : (bestF B L k).2 ≤ 100 := by
      by_cases e : (bestF B L k).1 = 0
      · rw [(bestF_2 B L k).1 e]; omega
      · rw [((bestF_2 B L k).2 e).1]; exact np_le hn.1 L _
    have hd : bestF B L (k + 1) = if alB B k && decide ((bestF B L k).2 < npB (nmB B) L k) then (k + 1, npB (nmB B) L k) else bestF B L k := rfl
    try dsimp only
    rw [q34_7, if_pos o, gr_148_3 hG, if_pos (ok_5 hG), am, bI_s, if_neg (by rw [nI_ltI (by omega) (by omega)]; omega), if_pos o, gr_148_4 hG, if_pos (ok_126 hG), gr_126_0 hG, if_pos (ok_127 hG), ha, bI_s, if_pos o, hnp, bI_s, nI_1]
    simp only [b2i0, nI_leI (show 2 * npB (nmB B) L k < 2 ^ 31 by omega) (show 2 * (bestF B L k).2 < 2 ^ 31 by omega)]
    cases hal : alB B k with
    | false =>
      refine ⟨(optI (bestF B L (k + 1)).1, nI (2 * (bestF B L (k + 1)).2), z), ?_, rfl, rfl⟩
      rw [if_pos rfl, hd, hal]; rfl
    | true =>
      refine ⟨(optI (bestF B L (k + 1)).1, nI (2 * (bestF B L (k + 1)).2), .int (nI (2 * npB (nmB B) L k))), ?_, rfl, rfl⟩
      rw [if_neg (by decide), hd, hal]
      by_cases hc : (bestF B L k).2 < npB (nmB B) L k
      · rw [if_neg (by omega), decide_eq_true hc, Bool.and_self, if_pos rfl, optI_s]
      · rw [if_pos (by omega), decide_eq_false hc, Bool.and_false, if_neg (by decide)]) (2 ^ nmB B) 0 (-1000000, nI 0, .null) (by omega) ⟨rfl, rfl⟩
  try dsimp only at s1 s2 s3
  rw [s1, q34_7, if_pos o, gr_148_3 hG, if_pos (ok_5 hG), am, bI_s, if_pos (by rw [nI_ltI (by omega) (by omega)]; omega), s2]
  rfl
def Hs (r k : Nat) : Prop := (r = 148 ∧ (k = 1 ∨ k = 2)) ∨ r = 149 ∨ r = 150
theorem BK_hs {M N : Mm} {B : Bk} (hB : BK M B) (h : Sm Hs NoL M N) : BK N B := BK_cong (M := M) (fun r k z => h.2.2.1 r k (by unfold rdB at z; unfold Hs; omega)) (fun r _ => h.2.2.2 r (fun z => z)) hB
theorem or_bb {p q : Nat → Bool} {n : Nat} : nI (bset p n) ||| nI (bset q n) = nI (bset (fun i => p i || q i) n) := by
  rw [fa_or]
  congr 1
  apply Nat.eq_of_testBit_eq
  intro i
  rw [Nat.testBit_or, bset_bit, bset_bit, bset_bit]
  by_cases h : i < n <;> simp [h]
theorem ltB_s {m k l : Nat} (hm : m < 10) (hl : l < 20) : ltB (m + 1) k l = (ltB m k l || decide (l = ltN k m)) := by
  unfold ltB ltN
  by_cases h10 : l < 10
  · rw [if_pos h10, if_pos h10]
    by_cases e : l = m
    · subst e
      cases hk : k.testBit l with
      | true => simp
      | false => simp
    · cases hk : k.testBit m with
      | true => simp [e, show (l < m + 1) ↔ (l < m) by omega]
      | false => simp [show (l < m + 1) ↔ (l < m) by omega, show ¬ l = m + 10 by omega]
  · rw [if_neg h10, if_neg h10]
    by_cases e : l = m + 10
    · subst e
      cases hk : k.testBit m with
      | true => simp [hk]
      | false => simp [hk]
    · cases hk : k.testBit m with
      | true => simp [show (l - 10 < m + 1) ↔ (l - 10 < m) by omega, show ¬ l = m by omega]
      | false => simp [e, show (l - 10 < m + 1) ↔ (l - 10 < m) by omega]
theorem c_addPairs {d k : Nat} {M : Mm} {B : Bk} {L : List Nat} (hG : Gd M) (hB : BK M B) (hH : HAD M (nmB B) L) (hk : k < 2 ^ nmB B) : ∃ N, go (d + 3) 36 0 [.ref 148, .int (nI k), .null, .null] [] M = some (none, N) ∧ Sm (fun r _ => r = 150) NoL M N ∧ HAD N (nmB B) (k :: L) := by
  have hn := BK_nn hB
  have hp := p10 hn.1
  have mono : ∀ {N}, Sm (fun r _ => r = 150) NoL M N → Sm Hs NoL M N := fun h => Sm_mono (fun r k z => by unfold Hs; omega) (fun r z => z) h
  rw [q36_0, if_pos (ok_148 hG), c_lits hG hB hk, bI_s, show (0 : Int32) = nI 0 from rfl]
  obtain ⟨N, s1, s2, s3⟩ := loopI (σ := Mm) (fun m N => go (d + 3) 36 8 [.ref 148, .int (nI k), .int (nI (bset (ltB (nmB B) k) 20)), .int (nI m)] [] N) (fun m N => Sm (fun r _ => r = 150) NoL M N ∧ ∀ l, l < 20 → gI N 150 l = nI (bset (fun j => (decide (j = l) || L.any (fun p => ltB (nmB B) p l && ltB (nmB B) p j)) || (ltB m k l && ltB (nmB B) k j)) 20)) (nmB B) (fun m N hm hN => by
    obtain ⟨hS, hA⟩ := hN
    have hGN := Gd_Sm hS hG
    have c1 : gI N 5 0 = nI (nmB B) := (BK_hs hB (mono hS)).1.1
    have hl := ltN_lt (k := k) (show m < 10 by omega)
    refine ⟨sI N 150 (ltN k m) (nI (bset (fun j => (decide (j = ltN k m) || L.any (fun p => ltB (nmB B) p (ltN k m) && ltB (nmB B) p j)) || (ltB (m + 1) k (ltN k m) && ltB (nmB B) k j)) 20)), ?_, Sm_trans hS (Sm_sI rfl), fun l hl2 => ?_⟩
    · try dsimp only
      rw [q36_8, if_pos (ok_148 hGN), gr_148_3 hGN, if_pos (ok_5 hGN), c1, if_neg (by rw [nI_leI (by omega) (by omega)]; omega), if_pos (ok_148 hGN), c_litOf (by omega) (by omega), bI_s, gr_148_5 hGN, if_pos (rk_150 hGN hl), if_pos (wk_150 hGN hl), bM_d, nI_clamp (by omega), hA _ hl, or_bb, nI_1]
      congr 3
      refine bset_cong (fun j _ => ?_)
      rw [ltB_s (by omega) hl, decide_eq_true rfl, Bool.or_true, Bool.true_and]
      cases ltB (nmB B) k j
      · simp
      · simp
    · rw [gI_sI]
      by_cases e : l = ltN k m
      · subst e; rw [if_pos ⟨rfl, rfl⟩]
      · rw [if_neg (fun z => e z.2), hA l hl2]
        refine congrArg nI (bset_cong (fun j _ => ?_))
        rw [ltB_s (by omega) hl2, decide_eq_false e, Bool.or_false]) (nmB B) 0 M (by omega) ⟨Sm_refl, fun l hl => by
          rw [hH l hl]
          refine congrArg nI (bset_cong (fun j _ => ?_))
          have : ltB 0 k l = false := by unfold ltB; split <;> simp
          rw [this]; simp⟩
  try dsimp only at s1
  have hGN := Gd_Sm s2 hG
  have c1 : gI N 5 0 = nI (nmB B) := (BK_hs hB (mono s2)).1.1
  refine ⟨N, ?_, s2, fun l hl => ?_⟩
  · rw [s1, q36_8, if_pos (ok_148 hGN), gr_148_3 hGN, if_pos (ok_5 hGN), c1, if_pos (by rw [nI_leI (by omega) (by omega)]; omega)]
  · rw [s3 l hl]
    refine congrArg nI (bset_cong (fun j _ => ?_))
    rw [List.any_cons]
    cases decide (j = l) <;> cases L.any (fun p => ltB (nmB B) p l && ltB (nmB B) p j) <;> simp
/-! no more than 180 picks -/
def hd1 (L : List Nat) (a b : Nat) (x y : Bool) : Nat := if L.any (fun p => (p.testBit a == x) && (p.testBit b == y)) then 1 else 0
def hd4 (L : List Nat) (a b : Nat) : Nat := hd1 L a b false false + hd1 L a b false true + hd1 L a b true false + hd1 L a b true true
def hdN (nm : Nat) (L : List Nat) : Nat := fb_sm (fun a => fb_sm (fun b => hd4 L a b) a) nm
theorem hd1_le (L : List Nat) (a b : Nat) (x y : Bool) : hd1 L a b x y ≤ 1 := by unfold hd1; split <;> omega
theorem hd1_cons (L : List Nat) (k a b : Nat) (x y : Bool) : hd1 (k :: L) a b x y = if ((k.testBit a == x) && (k.testBit b == y)) = true then 1 else hd1 L a b x y := by
  unfold hd1
  rw [List.any_cons]
  by_cases h : ((k.testBit a == x) && (k.testBit b == y)) = true
  · rw [if_pos h, h, Bool.true_or, if_pos rfl]
  · rw [if_neg h, Bool.eq_false_iff.mpr h, Bool.false_or]
theorem nwB_hd (L : List Nat) (k a b : Nat) : nwB L k a b = decide (hd1 L a b (k.testBit a) (k.testBit b) = 0) := by
  unfold nwB hd1
  cases L.any (fun p => (p.testBit a == k.testBit a) && (p.testBit b == k.testBit b)) <;> rfl
theorem hd4_cons (L : List Nat) (k a b : Nat) : hd4 (k :: L) a b = hd4 L a b + (if nwB L k a b then 1 else 0) := by
  unfold hd4
  rw [hd1_cons, hd1_cons, hd1_cons, hd1_cons, nwB_hd]
  generalize k.testBit a = x
  generalize k.testBit b = y
  have h1 := hd1_le L a b false false
  have h2 := hd1_le L a b false true
  have h3 := hd1_le L a b true false
  have h4 := hd1_le L a b true true
  cases x <;> cases y <;> simp <;> split <;> omega
theorem sm_ct (p : Nat → Bool) : ∀ n, fb_sm (fun b => if p b then 1 else 0) n = fb_ct p n
  | 0 => rfl
  | n + 1 => by rw [fb_sm_succ, fb_ct_succ, sm_ct p n]
theorem hdN_cons (nm : Nat) (L : List Nat) (k : Nat) : hdN nm (k :: L) = hdN nm L + npB nm L k := by
  unfold hdN
  rw [np_eq, ← fb_sm_add]
  apply fb_sm_cong
  intro a _
  show fb_sm (fun b => hd4 (k :: L) a b) a = fb_sm (fun b => hd4 L a b) a + fb_ct (fun b => nwB L k a b) a
  rw [← sm_ct, ← fb_sm_add]
  exact fb_sm_cong (fun b _ => hd4_cons L k a b)
theorem hdN_le {nm : Nat} (h : nm ≤ 10) (L : List Nat) : hdN nm L ≤ 180 := by
  unfold hdN
  have h1 : fb_sm (fun a => fb_sm (fun b => hd4 L a b) a) nm ≤ fb_sm (fun a => a * 4) nm := fb_sm_le (fun a _ => by
    have h2 : fb_sm (fun b => hd4 L a b) a ≤ fb_sm (fun _ => 4) a := fb_sm_le (fun b _ => by
      have := hd1_le L a b false false
      have := hd1_le L a b false true
      have := hd1_le L a b true false
      have := hd1_le L a b true true
      unfold hd4; omega)
    rw [fb_sm_const] at h2
    exact h2)
  have h3 : ∀ n, n < 11 → fb_sm (fun a => a * 4) n ≤ 180 := by decide
  have := h3 nm (by omega)
  omega
theorem picks_le {B : Bk} (h : nmB B ≤ 10) : ∀ n, (∀ i, i < n → bestB B (picks B i) ≠ 0) → n ≤ hdN (nmB B) (picks B n)
  | 0, _ => by omega
  | n + 1, hb => by
    have ih := picks_le h n (fun i hi => hb i (by omega))
    have h1 := (bestF_2 B (picks B n) (2 ^ nmB B)).2 (hb n (by omega))
    show n + 1 ≤ hdN (nmB B) ((bestB B (picks B n) - 1) :: picks B n)
    rw [hdN_cons]
    have : 0 < npB (nmB B) (picks B n) (bestB B (picks B n) - 1) := by
      have := h1.1
      have := h1.2
      unfold bestB
      omega
    omega
theorem picks_180 {B : Bk} (h : nmB B ≤ 10) {n : Nat} (hb : ∀ i, i < n → bestB B (picks B i) ≠ 0) : n ≤ 180 := Nat.le_trans (picks_le h n hb) (hdN_le h _)
/-- where the learning stands -/
def HS (M N : Mm) (B : Bk) (n : Nat) : Prop := Sm Hs NoL M N ∧ gI N 148 1 = nI n ∧ (∀ i, i < n → bestB B (picks B i) ≠ 0 ∧ gI N 149 i = nI (bestB B (picks B i) - 1)) ∧ HAD N (nmB B) (picks B n)
def HCk (M : Mm) (B : Bk) : Prop := gI M 148 2 = 1 ∧ ∃ n, n ≤ 180 ∧ gI M 148 1 = nI n ∧ (∀ i, i < n → bestB B (picks B i) ≠ 0 ∧ gI M 149 i = nI (bestB B (picks B i) - 1)) ∧ bestB B (picks B n) = 0
theorem bestB_le (B : Bk) (L : List Nat) : bestB B L ≤ 2 ^ nmB B := bestF_le B L _
theorem c_holdLoop {d : Nat} {M : Mm} {B : Bk} (hG : Gd M) (hB : BK M B) : ∀ (m n : Nat) (N : Mm), n + m = 181 → HS M N B n → ∃ N', go (d + 5) 33 44 [.ref 148, .int (optI (bestB B (picks B n)))] [] N = some (none, N') ∧ Sm Hs NoL M N' ∧ HCk N' B
  | 0, n, N, hm, hN => by
    have := picks_180 (BK_nn hB).1 (fun i hi => (hN.2.2.1 i hi).1)
    omega
  | m + 1, n, N, hm, hN => by
    have hn := BK_nn hB
    have hp := p10 hn.1
    obtain ⟨hS, h1, h2, h3⟩ := hN
    have hGN := Gd_Sm hS hG
    have o := ok_148 hGN
    have hle := bestB_le B (picks B n)
    by_cases h0 : bestB B (picks B n) = 0
    · refine ⟨sI N 148 2 1, ?_, Sm_trans hS (Sm_sI (by unfold Hs; omega)), gI_at, n, by omega, by rw [gI_ne (by omega)]; exact h1, fun i hi => ⟨(h2 i hi).1, by rw [gI_ne (by omega)]; exact (h2 i hi).2⟩, h0⟩
      rw [q33_44, h0, if_pos (show optI 0 = (-1000000 : Int32) from rfl), if_pos o, bM_d]
    · have hn1 : n + 1 ≤ 180 := picks_180 hn.1 (fun i hi => by
        by_cases e : i = n
        · rw [e]; exact h0
        · exact (h2 i (by omega)).1)
      have hk : bestB B (picks B n) - 1 < 2 ^ nmB B := by omega
      have hG4 : Gd (sI (sI N 149 n (nI (bestB B (picks B n) - 1))) 148 1 (nI (n + 1))) := hGN
      have S4 : Sm Hs NoL M (sI (sI N 149 n (nI (bestB B (picks B n) - 1))) 148 1 (nI (n + 1))) := Sm_trans hS (Sm_trans (Sm_sI (by unfold Hs; omega)) (Sm_sI (by unfold Hs; omega)))
      have hB4 := BK_hs hB S4
      have hH4 : HAD (sI (sI N 149 n (nI (bestB B (picks B n) - 1))) 148 1 (nI (n + 1))) (nmB B) (picks B n) := fun l hl => by
        rw [gI_ne (by omega), gI_ne (by omega)]; exact h3 l hl
      obtain ⟨N5, a1, a2, a3⟩ := c_addPairs (d := d + 1) hG4 hB4 hH4 hk
      have S5 : Sm Hs NoL M N5 := Sm_trans S4 (Sm_mono (fun r k z => by unfold Hs; omega) (fun r z => z) a2)
      have hG5 := Gd_Sm S5 hG
      have hB5 := BK_hs hB S5
      have bk := c_bestKind (d := d) hG5 hB5 a3
      have i1 : gI N5 148 1 = nI (n + 1) := by rw [a2.2.2.1 _ _ (by omega), gI_at]
      have hs5 : HS M N5 B (n + 1) := ⟨S5, i1, fun i hi => by
        by_cases e : i = n
        · subst e
          exact ⟨h0, by rw [a2.2.2.1 _ _ (by omega), gI_ne (by omega), gI_at]⟩
        · refine ⟨(h2 i (by omega)).1, ?_⟩
          rw [a2.2.2.1 _ _ (by omega), gI_ne (by omega), gI_ne (by omega)]; exact (h2 i (by omega)).2, a3⟩
      obtain ⟨N', r1, r2, r3⟩ := c_holdLoop hG hB m (n + 1) N5 (by omega) hs5
      refine ⟨N', ?_, r2, r3⟩
      have e1 : gI (sI N 149 n (nI (bestB B (picks B n) - 1))) 148 1 = nI n := (gI_ne (by omega)).trans h1
      rw [q33_44, if_neg (fun z => h0 ((optI_none' (by omega)).mp z)), if_pos o, h1, if_neg (by rw [show (180 : Int32) = nI 180 from rfl, nI_leI (by omega) (by omega)]; omega), if_pos o, if_pos o, gr_148_0 hGN, if_pos (wk_149 hGN (by omega)), bM_d, nI_clamp (by omega), optI_pos h0, okO_sI, if_pos o, if_pos o, e1, bM_d, nI_1, if_pos (ok_148 hG4), a1, bV_s, if_pos (ok_148 hG5), bk, bI_s]
      exact r1
theorem one_sh : ∀ i, i < 20 → (1 : Int32) <<< (nI i &&& 31) = nI (bset (fun j => decide (j = i)) 20) := by decide +kernel
theorem c_holdLearn {d : Nat} {M : Mm} {B : Bk} (hG : Gd M) (hB : BK M B) (hH : HC M B) : ∃ N, go (d + 5) 33 0 [.ref 148, .null] [] M = some (none, N) ∧ Sm Hs NoL M N ∧ HCk N B := by
  rcases hH with h | h
  · have al : aLen M 150 = 20 := rfl
    have oL : ∀ {N}, Gd N → okL N 150 = true := fun h => by
      have := wk_150 h (k := 0) (by omega)
      simp only [wOK, Bool.and_eq_true] at this
      unfold okL
      rw [this.1.1]; rfl
    obtain ⟨N, s1, s2, s3⟩ := loopI (σ := Mm) (fun i N => go (d + 5) 33 10 [.ref 148, .int (nI i)] [] N) (fun i N => Sm Hs NoL M N ∧ ∀ j, j < i → gI N 150 j = nI (bset (fun l => decide (l = j)) 20)) 20 (fun i N hi hN => by
      have hGN := Gd_Sm hN.1 hG
      refine ⟨sI N 150 i (nI (bset (fun j => decide (j = i)) 20)), ?_, Sm_trans hN.1 (Sm_sI (by unfold Hs; omega)), fun j hj => ?_⟩
      · try dsimp only
        rw [q33_10, if_pos (ok_148 hGN), gr_148_5 hGN, if_pos (oL hGN), show Int32.ofNat (aLen N 150) = nI 20 from rfl, if_neg (by rw [nI_leI (by omega) (by omega)]; omega), if_pos (ok_148 hGN), if_pos (wk_150 hGN hi), bM_d, nI_clamp (by omega), one_sh i hi, nI_1]
      · rw [gI_sI]
        by_cases e : j = i
        · subst e; rw [if_pos ⟨rfl, rfl⟩]
        · rw [if_neg (fun z => e z.2)]; exact hN.2 j (by omega)) 20 0 M (by omega) ⟨Sm_refl, fun j hj => by omega⟩
    try dsimp only at s1
    have hGN := Gd_Sm s2 hG
    have S1 : Sm Hs NoL M (sI N 148 1 0) := Sm_trans s2 (Sm_sI (by unfold Hs; omega))
    have hG1 : Gd (sI N 148 1 0) := hGN
    have hB1 := BK_hs hB S1
    have hs0 : HS M (sI N 148 1 0) B 0 := ⟨S1, gI_at, fun i hi => by omega, fun l hl => by
      rw [gI_ne (by omega), s3 l hl]
      exact congrArg nI (bset_cong (fun j _ => by simp [picks]))⟩
    have bk := c_bestKind (d := d) hG1 hB1 hs0.2.2.2
    obtain ⟨N', r1, r2, r3⟩ := c_holdLoop (d := d) hG hB 181 0 _ rfl hs0
    refine ⟨N', ?_, r2, r3⟩
    rw [q33_0, if_pos (ok_148 hG), h, if_pos rfl, show (0 : Int32) = nI 0 from rfl, s1, q33_10, if_pos (ok_148 hGN), gr_148_5 hGN, if_pos (oL hGN), show Int32.ofNat (aLen N 150) = nI 20 from rfl, if_pos (by decide), if_pos (ok_148 hGN), bM_d, if_pos (ok_148 hG1), bk, bI_s]
    exact r1
  · refine ⟨M, ?_, Sm_refl, h⟩
    rw [q33_0, if_pos (ok_148 hG), h.1, if_neg (by decide)]
