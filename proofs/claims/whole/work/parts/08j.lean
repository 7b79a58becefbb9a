/-! ===== the book as one thing: numbers, laws, sayings ===== -/
abbrev Bk := (Nat → Nat → Nat) × (Nat → Nat → Bool) × (Nat → Nat → Bool)
/-- marks, laws, lines, version -/
abbrev nmB (B : Bk) : Nat := B.1 0 0
abbrev nlB (B : Bk) : Nat := B.1 0 1
abbrev nnB (B : Bk) : Nat := B.1 0 2
abbrev vrB (B : Bk) : Nat := B.1 0 3
def optI (n : Nat) : Int32 := if n = 0 then NONE else nI (n - 1)
def trB (B : Bk) (k : Nat) : Bool := treeB (nmB B) (B.1 1) (B.1 2) k
def lwsB (B : Bk) (k : Nat) : Bool := allB (fun l => B.2.1 l k) (nlB B)
def alB (B : Bk) (k : Nat) : Bool := decide (k < 2 ^ nmB B) && trB B k && lwsB B k
/-- a postfix saying: below 10 a mark, 10 and, 11 or, 12 not -/
def tok (t : Nat) : Int32 := if t < 10 then nI t else if t = 10 then -1 else if t = 11 then -2 else -3
def rpn (k : Nat) : List Nat → List Bool → Option (List Bool)
  | [], st => some st
  | t :: ts, st =>
    if t < 10 then rpn k ts (k.testBit t :: st)
    else if t = 12 then (match st with | a :: st => rpn k ts ((!a) :: st) | [] => none)
    else (match st with | a :: b :: st => rpn k ts ((if t = 10 then b && a else b || a) :: st) | _ => none)
def SAI (M : Mm) (s : Nat) (g : Nat → Bool) : Prop := ∃ p : List Nat, p.length ≤ 100 ∧ gI M 185 s = nI p.length ∧ (∀ i, i < p.length → gI M 184 (100 * s + i) = tok (p.getD i 0)) ∧ (∀ t, t ∈ p → t ≤ 12) ∧ ((p = [] ∧ ∀ k, k < 1024 → g k = true) ∨ ∀ k, k < 1024 → rpn k p [] = some [g k])
def DRW (M : Mm) (B : Bk) : Prop :=
  (∀ k, k < 1024 → kb (gL M 130) k = (decide (k < 2 ^ nmB B) && trB B k)) ∧
  (∀ k, k < 1024 → kb (gL M 128) k = alB B k) ∧
  (∀ l, l < nlB B → ∀ k, k < 1024 → kb (gL M (11 + 2 * l)) k = B.2.1 l k) ∧
  (∀ i, i < nnB B → ∀ k, k < 1024 → kb (gL M (28 + 3 * i)) k = B.2.2 i k) ∧
  (∀ k, k < 2 ^ nmB B → gI M 189 k = nI (bset (fun l => B.2.1 l k) (nlB B) + (if trB B k then 256 else 0))) ∧
  (∀ k, k < 2 ^ nmB B → gI M 190 k = nI (bset (fun i => B.2.2 i k) (nnB B)))
def BK (M : Mm) (B : Bk) : Prop :=
  CNT M (nmB B) (nlB B) (nnB B) (vrB B) ∧ TRE M (nmB B) (B.1 1) (B.1 2) ∧
  LIN M (nnB B) (B.1 3) (B.1 4) (B.1 5) (B.1 6) (B.1 7) (B.1 8) (fun i => optI (B.1 9 i)) (fun i => optI (B.1 10 i)) ∧
  DRW M B ∧ (∀ l, l < nlB B → SAI M l (B.2.1 l)) ∧ (∀ i, i < nnB B → SAI M (8 + i) (B.2.2 i)) ∧ Wd M ∧
  (∀ i, i < nnB B → B.1 9 i ≤ 8 ∧ B.1 10 i ≤ 10)
theorem BK_nn {M : Mm} {B : Bk} (h : BK M B) : nmB B ≤ 10 ∧ nlB B ≤ 8 ∧ nnB B ≤ 24 ∧ vrB B ≤ 9 := by
  obtain ⟨⟨-, -, -, -, -, -, -, -, -, h1, h2, h3, h4⟩, -⟩ := h
  exact ⟨h1, h2, h3, h4⟩
theorem BK_c {M : Mm} {B : Bk} (h : BK M B) : CNT M (nmB B) (nlB B) (nnB B) (vrB B) := h.1
/-- a line that is there for a version and a buyer; that is meant; that stands -/
def forB (B : Bk) (v : Nat) (b : Int32) (i : Nat) : Bool := decide (B.1 8 i ≤ v) && (decide (B.1 10 i = 0) || decide (v < B.1 10 i - 1)) && (decide (B.1 3 i ≠ 2) || decide (optI (B.1 9 i) = b))
def mtB (B : Bk) (k v : Nat) (b : Int32) (i : Nat) : Bool := forB B v b i && B.2.2 i k
def rpB (B : Bk) (k v : Nat) (b : Int32) (i : Nat) : Bool := mtB B k v b i && decide (B.1 3 i ≠ 0)
def sdB (B : Bk) (k v : Nat) (b : Int32) (i : Nat) : Bool := mtB B k v b i && !(decide (i + 1 < nnB B) && rpB B k v b (i + 1))
def bodyB (B : Bk) (k v : Nat) (b : Int32) : Nat := bset (sdB B k v b) (nnB B)
theorem optI_none {n : Nat} (h : n ≤ 10) : optI n = -1000000 ↔ n = 0 := by
  unfold optI
  by_cases h0 : n = 0
  · simp [h0]
  · rw [if_neg h0]
    constructor
    · intro e
      have := congrArg Int32.toInt e
      rw [nI_toInt (by omega), show ((-1000000 : Int32)).toInt = -1000000 from rfl] at this
      omega
    · intro e; exact absurd e h0
theorem optI_pos {n : Nat} (h : n ≠ 0) : optI n = nI (n - 1) := if_neg h
theorem c_isFor {d : Nat} {M : Mm} {B : Bk} {i v : Nat} {b : Int32} (hG : Gd M) (hB : BK M B) (hi : i < nnB B) (hv : v ≤ 9) : go (d + 1) 75 0 [.ref (26 + 3 * i), .int (nI v), .int b, .null] [] M = some (some (.int (b2i (forB B v b i))), M) := by
  have hn := BK_nn hB
  obtain ⟨-, -, hL, -, -, -, -, hE⟩ := hB
  obtain ⟨l1, l2, l3, l4, l5, l6, l7, l8, l9, l10, m0, m1, m2, m3, m4, m5, m6, m7, -⟩ := hL i hi
  obtain ⟨e9, e10⟩ := hE i hi
  have o1 := ok_line hG (k := i) (by omega)
  have t2 : nI (B.1 3 i) = (2 : Int32) ↔ B.1 3 i = 2 := nI_eq (a := B.1 3 i) (b := 2) (by omega) (by omega)
  simp only [q75_0, q75_30, o1, m0, m1, m6, m7, if_true, t2, optI_none e10, nI_ltI (show v < 2 ^ 31 by omega) (show B.1 8 i < 2 ^ 31 by omega), forB]
  by_cases h1 : v < B.1 8 i
  · simp [h1, show ¬ B.1 8 i ≤ v by omega, b2i]
  · by_cases h2 : B.1 10 i = 0
    · by_cases h3 : B.1 3 i = 2 <;> by_cases h4 : optI (B.1 9 i) = b <;> simp [h1, h2, h3, h4, show B.1 8 i ≤ v by omega, b2i]
    · simp only [optI_pos h2, nI_leI (show B.1 10 i - 1 < 2 ^ 31 by omega) (show v < 2 ^ 31 by omega)]
      by_cases h5 : B.1 10 i - 1 ≤ v
      · simp [h1, h2, h5, show ¬ v < B.1 10 i - 1 by omega, b2i]
      · by_cases h3 : B.1 3 i = 2 <;> by_cases h4 : optI (B.1 9 i) = b <;> simp [h1, h2, h3, h4, h5, show B.1 8 i ≤ v by omega, show v < B.1 10 i - 1 by omega, b2i]
theorem KS_line {M : Mm} (hG : Gd M) {i : Nat} (hi : i < 24) : KS M (27 + 3 * i) (28 + 3 * i) := ⟨ok_say hG hi, gr_lineW hG hi, fun j hj => rk_lineW hG hi hj, fun j hj => wk_lineW hG hi hj, by omega, (k_lineW_t i hi).2, by
  have := wk_lineW hG hi (j := 0) (by omega)
  simp only [wOK, Bool.and_eq_true] at this
  exact this.1.1⟩
theorem KS_law {M : Mm} (hG : Gd M) {i : Nat} (hi : i < 8) : KS M (10 + 2 * i) (11 + 2 * i) := ⟨ok_law hG hi, gr_lawW hG hi, fun j hj => rk_lawW hG hi hj, fun j hj => wk_lawW hG hi hj, by omega, (k_lawW_t i hi).2, by
  have := wk_lawW hG hi (j := 0) (by omega)
  simp only [wOK, Bool.and_eq_true] at this
  exact this.1.1⟩
theorem KS_row {M : Mm} (hG : Gd M) {i : Nat} (hi : i < 13) : KS M (100 + 2 * i) (101 + 2 * i) := ⟨ok_row hG hi, gr_rowW hG hi, fun j hj => rk_rowW hG hi hj, fun j hj => wk_rowW hG hi hj, by omega, (k_rowW_t i hi).2, by
  have := wk_rowW hG hi (j := 0) (by omega)
  simp only [wOK, Bool.and_eq_true] at this
  exact this.1.1⟩
theorem KS_of {M : Mm} {a w : Nat} (h1 : okO M a 4 = true) (h2 : gR M a 0 = w) (h3 : ∀ j, j < 16 → rOK M w 3 (nI j) = true) (h4 : ∀ j, j < 16 → wOK M w 3 (nI j) = true) (h5 : w < 1000) (h6 : (SH w).2 = 16) : KS M a w := ⟨h1, h2, h3, h4, h5, h6, by
  have := h4 0 (by omega)
  simp only [wOK, Bool.and_eq_true] at this
  exact this.1.1⟩
theorem KS_allowed {M : Mm} (hG : Gd M) : KS M 127 128 := KS_of (ok_127 hG) (gr_127_0 hG) (fun _ h => rk_128 hG h) (fun _ h => wk_128 hG h) (by omega) rfl
theorem KS_tree {M : Mm} (hG : Gd M) : KS M 129 130 := KS_of (ok_129 hG) (gr_129_0 hG) (fun _ h => rk_130 hG h) (fun _ h => wk_130 hG h) (by omega) rfl
theorem KS_some {M : Mm} (hG : Gd M) : KS M 131 132 := KS_of (ok_131 hG) (gr_131_0 hG) (fun _ h => rk_132 hG h) (fun _ h => wk_132 hG h) (by omega) rfl
theorem KS_rest {M : Mm} (hG : Gd M) : KS M 133 134 := KS_of (ok_133 hG) (gr_133_0 hG) (fun _ h => rk_134 hG h) (fun _ h => wk_134 hG h) (by omega) rfl
theorem KS_failing {M : Mm} (hG : Gd M) : KS M 141 142 := KS_of (ok_141 hG) (gr_141_0 hG) (fun _ h => rk_142 hG h) (fun _ h => wk_142 hG h) (by omega) rfl
theorem KS_holding {M : Mm} (hG : Gd M) : KS M 146 147 := KS_of (ok_146 hG) (gr_146_0 hG) (fun _ h => rk_147 hG h) (fun _ h => wk_147 hG h) (by omega) rfl
theorem bset_s (p : Nat → Bool) (n : Nat) : bset p (n + 1) = bset p n + (if p n then 2 ^ n else 0) := rfl
/-- one bit more, or not -/
theorem or_b {p : Nat → Bool} {n : Nat} (hn : n < 31) (h : p n = true) : nI (bset p n) ||| ((1 : Int32) <<< (nI n &&& 31)) = nI (bset p (n + 1)) := by
  rw [or_bset hn, bset_s, if_pos h]
theorem no_b {p : Nat → Bool} {n : Nat} (h : p n = false) : bset p (n + 1) = bset p n := by
  rw [bset_s, if_neg (by rw [h]; decide), Nat.add_zero]
theorem or_at {p : Nat → Bool} {j n : Nat} (hj : j < n) (hn : n ≤ 31) : nI (bset p n) ||| ((1 : Int32) <<< (nI j &&& 31)) = nI (bset (fun i => p i || decide (i = j)) n) := by
  rw [shl1 j (by omega), fa_or]
  congr 1
  apply Nat.eq_of_testBit_eq
  intro i
  rw [Nat.testBit_or, bset_bit, bset_bit, Nat.testBit_two_pow]
  by_cases h : i < n <;> by_cases h2 : i = j <;> simp [h, h2] <;> omega
theorem bs31 (p : Nat → Bool) {n : Nat} (hn : n ≤ 31) : bset p n < 2 ^ 31 := Nat.lt_of_lt_of_le (bset_lt p n) (Nat.pow_le_pow_right (by omega) hn)
theorem andnot_b {p q : Nat → Bool} {n : Nat} (hn : n ≤ 31) : nI (bset p n) &&& (nI (bset q n) ^^^ ((-1) : Int32)) = nI (bset (fun i => p i && !q i) n) := by
  rw [show ((-1) : Int32) = nI (2 ^ 32 - 1) from rfl, fb_xorI, fa_and]
  congr 1
  apply Nat.eq_of_testBit_eq
  intro i
  rw [Nat.testBit_and, Nat.testBit_xor, Nat.testBit_two_pow_sub_one, bset_bit, bset_bit, bset_bit]
  by_cases h : i < n
  · simp [h, show i < 32 by omega]
  · simp [h]
theorem shr1_b {q : Nat → Bool} {n : Nat} (hn : n ≤ 31) : (nI (bset q n) >>> ((1 : Int32) &&& 31)) = nI (bset (fun i => decide (i + 1 < n) && q (i + 1)) n) := by
  rw [pk_shrN (bs31 q hn) ((1 : Int32) &&& 31) 1 (by decide)]
  congr 1
  apply Nat.eq_of_testBit_eq
  intro i
  rw [← Nat.shiftRight_eq_div_pow, Nat.testBit_shiftRight, bset_bit, bset_bit, Nat.add_comm 1 i]
  by_cases h : i + 1 < n
  · simp [h, show i < n by omega]
  · simp [h]
theorem c_standing {d : Nat} {M : Mm} {B : Bk} {k v : Nat} {b : Int32} (hG : Gd M) (hB : BK M B) (hk : k < 1024) (hv : v ≤ 9) : go (d + 2) 23 0 [.ref 5, .int (nI k), .int (nI v), .int b, .null, .null, .null] [] M = some (some (.int (nI (bodyB B k v b))), M) := by
  have hn := BK_nn hB
  have o1 := ok_5 hG
  have c5 : gI M 5 2 = nI (nnB B) := hB.1.2.2.2.2.1
  have r7 := gr_5_7 hG
  rw [q23_0, show (0 : Int32) = nI 0 from rfl]
  obtain ⟨s, h1, h2, h3⟩ := loopI (σ := Int32 × Int32) (fun i s => go (d + 2) 23 9 [.ref 5, .int (nI k), .int (nI v), .int b, .int s.1, .int s.2, .int (nI i)] [] M) (fun i s => s.1 = nI (bset (mtB B k v b) i) ∧ s.2 = nI (bset (rpB B k v b) i)) (nnB B) (fun i s hi hI => by
    obtain ⟨x, y⟩ := s
    obtain ⟨rfl, rfl⟩ := hI
    obtain ⟨-, -, hL, ⟨-, -, -, hS, -⟩, -⟩ := id hB
    have m0 := (hL i hi).2.2.2.2.2.2.2.2.2.2.1
    have l1 := (hL i hi).1
    have hs := ks_has (d := d) (KS_line hG (i := i) (by omega)) hk
    rw [hS i hi k hk] at hs
    have hf := c_isFor (d := d) (b := b) hG hB hi hv
    have q1 := rk_9 hG (k := i) (by omega)
    have g1 := gr_line hG (k := i) (by omega)
    have g2 := gr_lineS hG (k := i) (by omega)
    have o2 := ok_line hG (k := i) (by omega)
    have o3 := ok_say hG (k := i) (by omega)
    have cl := nI_clamp (n := i) (by omega)
    have e0 : nI (B.1 3 i) = (0 : Int32) ↔ B.1 3 i = 0 := nI_eq (a := B.1 3 i) (b := 0) (by omega) (by omega)
    try dsimp only
    rw [q23_9]
    simp only [o1, c5, r7, nI_leI (show nnB B < 2 ^ 31 by omega) (show i < 2 ^ 31 by omega), show ¬ nnB B ≤ i by omega, if_true, if_false, q1, cl, g1, g2, o2, o3, hf, hs, bI_s, m0, e0, b2i0, nI_1]
    by_cases f1 : forB B v b i = true
    · by_cases f2 : B.2.2 i k = true
      · have f3 : mtB B k v b i = true := by simp [mtB, f1, f2]
        by_cases f4 : B.1 3 i = 0
        · refine ⟨(nI (bset (mtB B k v b) (i + 1)), nI (bset (rpB B k v b) (i + 1))), ?_, rfl, rfl⟩
          simp only [f1, f2, f4, Bool.true_eq_false, if_true, if_false, or_b (show i < 31 by omega) f3, no_b (p := rpB B k v b) (n := i) (by simp [rpB, f4])]
        · refine ⟨(nI (bset (mtB B k v b) (i + 1)), nI (bset (rpB B k v b) (i + 1))), ?_, rfl, rfl⟩
          simp only [f1, f2, f4, Bool.true_eq_false, if_true, if_false, or_b (show i < 31 by omega) f3, or_b (p := rpB B k v b) (show i < 31 by omega) (by simp [rpB, f3, f4])]
      · have f2' : B.2.2 i k = false := by simpa using f2
        have f3 : mtB B k v b i = false := by simp [mtB, f2']
        refine ⟨(nI (bset (mtB B k v b) (i + 1)), nI (bset (rpB B k v b) (i + 1))), ?_, rfl, rfl⟩
        simp only [f1, f2', Bool.true_eq_false, if_true, if_false, no_b f3, no_b (p := rpB B k v b) (n := i) (by simp [rpB, f3])]
    · have f1' : forB B v b i = false := by simpa using f1
      have f3 : mtB B k v b i = false := by simp [mtB, f1']
      refine ⟨(nI (bset (mtB B k v b) (i + 1)), nI (bset (rpB B k v b) (i + 1))), ?_, rfl, rfl⟩
      simp only [f1', if_true, no_b f3, no_b (p := rpB B k v b) (n := i) (by simp [rpB, f3])]) (nnB B) 0 (nI 0, nI 0) (by omega) ⟨rfl, rfl⟩
  try dsimp only at h1
  rw [h1, q23_9, if_pos o1, c5, if_pos (by rw [nI_leI (by omega) (by omega)]; omega), h2, h3, shr1_b (by omega), andnot_b (by omega)]
  rfl
theorem bit1 {n i : Nat} (hn : n < 2 ^ 31) (hi : i < 31) : (((nI n >>> (nI i &&& 31)) &&& (1 : Int32)) = 1) ↔ n.testBit i = true := by
  rw [pk_shrN hn (nI i &&& 31) i (s_l i (by omega)), show (1 : Int32) = nI (2 ^ 1 - 1) from rfl, fa_mask, show nI (2 ^ 1 - 1) = nI 1 from rfl, nI_eq (by omega) (by omega), Nat.testBit_eq_decide_div_mod_eq]
  simp
theorem bitN {n i : Nat} (hn : n < 2 ^ 31) (hi : i < 31) : ((nI n >>> (nI i &&& 31)) &&& (1 : Int32)) = nI (n.testBit i).toNat := by
  rw [pk_shrN hn (nI i &&& 31) i (s_l i (by omega)), show (1 : Int32) = nI (2 ^ 1 - 1) from rfl, fa_mask, Nat.testBit_eq_decide_div_mod_eq]
  congr 1
  rcases (show n / 2 ^ i % 2 = 0 ∨ n / 2 ^ i % 2 = 1 by omega) with h | h <;> simp [h]
theorem m_bodyOf {d : Nat} {M : Mm} {B : Bk} {k v : Nat} {b : Int32} (hG : Gd M) (hB : BK M B) (hk : k < 2 ^ nmB B) (hv : v ≤ 9) : go (d + 1) 205 0 [.ref 171, .int (nI k), .int (nI v), .int b, .null, .null, .null, .null] [] M = some (some (.int (nI (bodyB B k v b))), M) := by
  have hn := BK_nn hB
  have hp := p10 hn.1
  have o1 := ok_171 hG
  have c5 : gI M 171 9 = nI (nnB B) := hB.1.2.2.2.2.2.1
  have ck := nI_clamp (n := k) (by omega)
  have hl : gI M 190 k = nI (bset (fun i => B.2.2 i k) (nnB B)) := hB.2.2.2.1.2.2.2.2.2 k hk
  have rl := rk_190 hG (k := k) (by omega)
  have g38 := gr_171_38 hG
  have g15 := gr_171_15 hG
  have g16 := gr_171_16 hG
  have g10 := gr_171_10 hG
  have g11 := gr_171_11 hG
  rw [q205_0, show (0 : Int32) = nI 0 from rfl]
  obtain ⟨s, h1, h2, h3⟩ := loopI (σ := Int32 × Int32 × Value) (fun i s => go (d + 1) 205 9 [.ref 171, .int (nI k), .int (nI v), .int b, .int s.1, .int s.2.1, .int (nI i), s.2.2] [] M) (fun i s => s.1 = nI (bset (mtB B k v b) i) ∧ s.2.1 = nI (bset (fun j => decide (j + 1 < i) && rpB B k v b (j + 1)) 24)) (nnB B) (fun i s hi hI => by
    obtain ⟨x, y, z⟩ := s
    obtain ⟨rfl, rfl⟩ := hI
    obtain ⟨-, -, hL, -, -, -, -, hE⟩ := id hB
    obtain ⟨l1, l2, l3, l4, l5, l6, l7, l8, l9, l10, m0, m1, m2, m3, m4, m5, m6, m7, n0, n1, n2, n3, n4, n5, n6, n7⟩ := hL i hi
    obtain ⟨e9, e10⟩ := hE i hi
    have cl := nI_clamp (n := i) (by omega)
    have r1 := rk_182 hG (k := i) (by omega)
    have r2 := rk_183 hG (k := i) (by omega)
    have r3 := rk_177 hG (k := i) (by omega)
    have r4 := rk_178 hG (k := i) (by omega)
    have hb : (((nI (bset (fun i => B.2.2 i k) (nnB B)) >>> (nI i &&& 31)) &&& (1 : Int32)) = 1) ↔ B.2.2 i k = true := by
      rw [bit1 (bs31 _ (by omega)) (by omega), bset_bit]; simp [hi]
    have e0 : nI (B.1 3 i) ≤ (0 : Int32) ↔ B.1 3 i ≤ 0 := nI_leI (a := B.1 3 i) (b := 0) (by omega) (by omega)
    have e2 : nI (B.1 3 i) < (2 : Int32) ↔ B.1 3 i < 2 := nI_ltI (a := B.1 3 i) (b := 2) (by omega) (by omega)
    have ei : nI i ≤ (0 : Int32) ↔ i ≤ 0 := nI_leI (a := i) (b := 0) (by omega) (by omega)
    have q94 : ∀ c : Bool, c = mtB B k v b i → ∃ s' : Int32 × Int32 × Value, go (d + 1) 205 94 [.ref 171, .int (nI k), .int (nI v), .int b, .int (nI (bset (mtB B k v b) i)), .int (nI (bset (fun j => decide (j + 1 < i) && rpB B k v b (j + 1)) 24)), .int (nI i), z] [.int (b2i c)] M = go (d + 1) 205 9 [.ref 171, .int (nI k), .int (nI v), .int b, .int s'.1, .int s'.2.1, .int (nI (i + 1)), s'.2.2] [] M ∧ s'.1 = nI (bset (mtB B k v b) (i + 1)) ∧ s'.2.1 = nI (bset (fun j => decide (j + 1 < i + 1) && rpB B k v b (j + 1)) 24) := by
      intro c hc
      refine ⟨(nI (bset (mtB B k v b) (i + 1)), nI (bset (fun j => decide (j + 1 < i + 1) && rpB B k v b (j + 1)) 24), .int (b2i c)), ?_, rfl, rfl⟩
      have z0 : ∀ x : Int32, x ||| 0 = x := fun x => by simp
      have same : rpB B k v b i = false ∨ i = 0 → bset (fun j => decide (j + 1 < i + 1) && rpB B k v b (j + 1)) 24 = bset (fun j => decide (j + 1 < i) && rpB B k v b (j + 1)) 24 := fun hh => bset_cong (fun j hj => by
        by_cases h1 : j + 1 < i
        · simp [h1, show j + 1 < i + 1 by omega]
        · by_cases h2 : j + 1 = i
          · rcases hh with hh | hh
            · simp [h1, h2, hh]
            · omega
          · simp [h1, show ¬ j + 1 < i + 1 by omega])
      simp only [q205_94, o1, g10, r3, cl, n0, e0, ei, if_true, nI_1, z0, b2i0]
      cases c with
      | false =>
        simp only [if_true, no_b hc.symm, same (Or.inl (by simp [rpB, ← hc]))]
      | true =>
        simp only [Bool.true_eq_false, if_false, or_b (p := mtB B k v b) (n := i) (by omega) hc.symm]
        by_cases f4 : B.1 3 i ≤ 0
        · simp only [f4, if_true, same (Or.inl (by simp [rpB, show B.1 3 i = 0 by omega]))]
        · by_cases f5 : i ≤ 0
          · simp only [f4, f5, if_true, if_false, same (Or.inr (by omega))]
          · simp only [f4, f5, if_false]
            have hbb : bset (fun j => (decide (j + 1 < i) && rpB B k v b (j + 1)) || decide (j = i - 1)) 24 = bset (fun j => decide (j + 1 < i + 1) && rpB B k v b (j + 1)) 24 := bset_cong (fun j hj => by
              by_cases h1 : j + 1 < i
              · simp [h1, show j + 1 < i + 1 by omega, show ¬ j = i - 1 by omega]
              · by_cases h2 : j = i - 1
                · subst h2
                  have : rpB B k v b (i - 1 + 1) = true := by rw [show i - 1 + 1 = i by omega]; simp [rpB, ← hc]; omega
                  simp [this, show i - 1 + 1 < i + 1 by omega]
                · simp [h1, h2, show ¬ j + 1 < i + 1 by omega])
            rw [show nI i - (1 : Int32) = nI (i - 1) by rw [show i = (i - 1) + 1 by omega, nI_pred]; simp, or_at (by omega) (by omega), hbb]
    have hstep : go (d + 1) 205 9 [.ref 171, .int (nI k), .int (nI v), .int b, .int (nI (bset (mtB B k v b) i)), .int (nI (bset (fun j => decide (j + 1 < i) && rpB B k v b (j + 1)) 24)), .int (nI i), z] [] M = go (d + 1) 205 94 [.ref 171, .int (nI k), .int (nI v), .int b, .int (nI (bset (mtB B k v b) i)), .int (nI (bset (fun j => decide (j + 1 < i) && rpB B k v b (j + 1)) 24)), .int (nI i), z] [.int (b2i (mtB B k v b i))] M := by
      rw [q205_9]
      simp only [o1, c5, nI_leI (show nnB B < 2 ^ 31 by omega) (show i < 2 ^ 31 by omega), show ¬ nnB B ≤ i by omega, if_true, if_false, g38, g15, g16, g10, g11, rl, ck, hl, hb, r1, r2, r3, r4, cl, n0, n1, n6, n7, nI_ltI (show v < 2 ^ 31 by omega) (show B.1 8 i < 2 ^ 31 by omega), optI_none e10, e2]
      by_cases f2 : B.2.2 i k = true
      · by_cases f3 : v < B.1 8 i
        · simp [mtB, forB, b2i, f2, f3, show ¬ B.1 8 i ≤ v by omega]
        · by_cases f4 : B.1 10 i = 0
          · by_cases f5 : B.1 3 i < 2
            · simp [mtB, forB, b2i, f2, f3, f4, f5, show B.1 8 i ≤ v by omega, show ¬ B.1 3 i = 2 by omega]
            · by_cases f6 : optI (B.1 9 i) = b
              · simp [mtB, forB, b2i, f2, f3, f4, f6, show B.1 8 i ≤ v by omega, show B.1 3 i = 2 by omega]
              · simp [mtB, forB, b2i, f2, f3, f4, f6, show B.1 8 i ≤ v by omega, show B.1 3 i = 2 by omega]
          · simp only [optI_pos f4, nI_leI (show B.1 10 i - 1 < 2 ^ 31 by omega) (show v < 2 ^ 31 by omega)]
            by_cases f7 : B.1 10 i - 1 ≤ v
            · simp [mtB, forB, b2i, f2, f3, f4, f7, show ¬ v < B.1 10 i - 1 by omega]
            · by_cases f5 : B.1 3 i < 2
              · simp [mtB, forB, b2i, f2, f3, f4, f5, f7, show v < B.1 10 i - 1 by omega, show B.1 8 i ≤ v by omega, show ¬ B.1 3 i = 2 by omega]
              · by_cases f6 : optI (B.1 9 i) = b
                · simp [mtB, forB, b2i, f2, f3, f4, f6, f7, show v < B.1 10 i - 1 by omega, show B.1 8 i ≤ v by omega, show B.1 3 i = 2 by omega]
                · simp [mtB, forB, b2i, f2, f3, f4, f6, f7, show v < B.1 10 i - 1 by omega, show B.1 8 i ≤ v by omega, show B.1 3 i = 2 by omega]
      · simp [mtB, b2i, f2]
    try dsimp only
    rw [hstep]
    exact q94 _ rfl) (nnB B) 0 (nI 0, nI 0, .null) (by omega) ⟨rfl, by
      rw [show nI 0 = nI (bset (fun _ => false) 24) from rfl]
      exact congrArg nI (bset_cong (fun j _ => by simp))⟩
  try dsimp only at h1
  rw [h1, q205_9, if_pos o1, c5, if_pos (by rw [nI_leI (by omega) (by omega)]; omega), h2, h3]
  have e : bset (mtB B k v b) (nnB B) = bset (fun j => decide (j < nnB B) && mtB B k v b j) 24 := by
    apply Nat.eq_of_testBit_eq
    intro i
    rw [bset_bit, bset_bit]
    by_cases h : i < nnB B
    · simp [h, show i < 24 by omega]
    · simp [h]
  rw [e, andnot_b (by omega)]
  congr 4
  refine congrArg nI ?_
  apply Nat.eq_of_testBit_eq
  intro i
  rw [bodyB, bset_bit, bset_bit]
  by_cases h : i < nnB B
  · simp [h, show i < 24 by omega, sdB]
  · simp [h]
