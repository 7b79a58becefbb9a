/-! ===== what holds between the calls ===== -/
abbrev NONE : Int32 := -1000000
/-- the tape -/
def TAP (M : Mm) : Prop := ∃ n, n ≤ 500 ∧ gI M 3 1 = nI n ∧ gI M 171 21 = nI n ∧ ∀ k, k < n → ∃ v, v < 256 ∧ gI M 4 k = (nI v).toInt8.toInt32 ∧ gI M 187 k = nI v
/-- the numbers of things -/
def CNT (M : Mm) (nm nl nn ver : Nat) : Prop := gI M 5 0 = nI nm ∧ gI M 171 5 = nI nm ∧ gI M 5 1 = nI nl ∧ gI M 171 8 = nI nl ∧ gI M 5 2 = nI nn ∧ gI M 171 9 = nI nn ∧ gI M 5 3 = nI ver ∧ gI M 171 40 = nI ver ∧ gI M 171 36 = nI (2 ^ nm) ∧ nm ≤ 10 ∧ nl ≤ 8 ∧ nn ≤ 24 ∧ ver ≤ 9
/-- the tree of marks: under (0 root, else a mark and 1), way -/
def TRE (M : Mm) (nm : Nat) (pa wy : Nat → Nat) : Prop := ∀ j, j < nm → pa j ≤ j ∧ wy j < 3 ∧ gI M 6 j = nI (pa j) - 1 ∧ gI M 175 j = (if pa j = 0 then NONE else nI (pa j - 1)) ∧ gI M 7 j = nI (wy j) ∧ gI M 176 j = nI (wy j)
/-- a line: sort, buyer, act, two numbers, marks, from, ended -/
def LIN (M : Mm) (nn : Nat) (so ac fi se mk fr : Nat → Nat) (bu en : Nat → Int32) : Prop := ∀ i, i < nn → so i < 3 ∧ ac i < 4 ∧ fi i < 4 ∧ (ac i < 2 → se i ≤ 99) ∧ (2 ≤ ac i → se i < 4) ∧ mk i ≤ 12 ∧ fr i ≤ 9 ∧ (so i = 2 → ∃ b, b < 8 ∧ bu i = nI b) ∧ (so i ≠ 2 → bu i = NONE) ∧ (en i = NONE ∨ ∃ v, v ≤ 9 ∧ en i = nI v) ∧
  gI M (26 + 3 * i) 0 = nI (so i) ∧ gI M (26 + 3 * i) 1 = bu i ∧ gI M (26 + 3 * i) 2 = nI (ac i) ∧ gI M (26 + 3 * i) 3 = nI (fi i) ∧ gI M (26 + 3 * i) 4 = nI (se i) ∧ gI M (26 + 3 * i) 5 = nI (mk i) ∧ gI M (26 + 3 * i) 6 = nI (fr i) ∧ gI M (26 + 3 * i) 7 = en i ∧
  gI M 177 i = nI (so i) ∧ gI M 178 i = bu i ∧ gI M 179 i = nI (ac i) ∧ gI M 180 i = nI (fi i) ∧ gI M 181 i = nI (se i) ∧ gI M 186 (8 + i) = nI (mk i) ∧ gI M 182 i = nI (fr i) ∧ gI M 183 i = en i
/-- buyers -/
def BUY (M : Mm) (nm : Nat) (bk bv : Nat → Nat) : Prop := ∀ b, b < 8 → bk b < 2 ^ nm ∧ bv b ≤ 9 ∧ gI M 153 b = nI (bk b) ∧ gI M 195 b = nI (bk b) ∧ gI M 154 b = nI (bv b) ∧ gI M 196 b = nI (bv b)
/-- the latest fault, the latest finding -/
def LAT (M : Mm) : Prop := gI M 1 10 = gI M 171 22 ∧ gI M 1 11 = gI M 171 1
/-- the trace -/
def TRC (M : Mm) : Prop := ∃ n, n ≤ 16 ∧ gI M 151 1 = nI n ∧ gI M 171 48 = nI n ∧ ∀ i, i < n → gI M 152 i = gI M 197 i
/-- is a tree held by a kind (under: 0 root) -/
def onB (k : Nat) (p : Nat) : Bool := if p = 0 then true else k.testBit (p - 1)
def treeB (nm : Nat) (pa wy : Nat → Nat) (k : Nat) : Bool :=
  allB (fun j => (!k.testBit j || onB k (pa j)) && (!decide (wy j = 0) || !onB k (pa j) || k.testBit j) && (!decide (wy j = 2) || !onB k (pa j) || decide (fb_ct (fun i => decide (wy i = 2) && decide (pa i = pa j) && k.testBit i) nm = 1))) nm
/-- numbers as sets of bits -/
def bset (p : Nat → Bool) : Nat → Nat
  | 0 => 0
  | n + 1 => bset p n + (if p n then 2 ^ n else 0)
theorem bset_lt (p : Nat → Bool) : ∀ n, bset p n < 2 ^ n
  | 0 => by simp [bset]
  | n + 1 => by
    have := bset_lt p n
    show bset p n + _ < _
    rw [Nat.pow_succ]
    split <;> omega
theorem bset_bit (p : Nat → Bool) : ∀ n i, (bset p n).testBit i = (decide (i < n) && p i)
  | 0, i => by simp [bset]
  | n + 1, i => by
    have ih := bset_bit p n i
    have hl := bset_lt p n
    show (bset p n + (if p n then 2 ^ n else 0)).testBit i = _
    by_cases hp : p n = true
    · rw [if_pos hp, show bset p n + 2 ^ n = 2 ^ n * 1 + bset p n by omega, Nat.testBit_two_pow_mul_add _ hl, ih]
      by_cases h : i < n
      · rw [if_pos h]; simp [h, Nat.lt_succ_of_lt h]
      · rw [if_neg h]
        by_cases h2 : i = n
        · subst h2; simp [hp]
        · rw [show (1 : Nat) = 2 ^ 0 from rfl, Nat.testBit_two_pow]
          simp [show ¬ i < n + 1 by omega, show ¬ (0 = i - n) by omega]
    · rw [if_neg hp, Nat.add_zero, ih]
      by_cases h : i < n
      · simp [h, Nat.lt_succ_of_lt h]
      · by_cases h2 : i = n
        · subst h2; simp at hp; simp [hp]
        · simp [h, show ¬ i < n + 1 by omega]
theorem bset_cong {p q : Nat → Bool} : ∀ {n : Nat}, (∀ k, k < n → p k = q k) → bset p n = bset q n
  | 0, _ => rfl
  | n + 1, h => by
    show bset p n + _ = bset q n + _
    rw [bset_cong (fun k hk => h k (by omega)), h n (by omega)]
theorem shl1 : ∀ m, m < 31 → ((1 : Int32) <<< (nI m &&& 31)) = nI (2 ^ m) := by decide +kernel
theorem or_bset {p : Nat → Bool} {n : Nat} (hn : n < 31) : nI (bset p n) ||| ((1 : Int32) <<< (nI n &&& 31)) = nI (bset p n + 2 ^ n) := by
  rw [shl1 n hn, fa_or, Nat.or_comm, show bset p n + 2 ^ n = 2 ^ n * 1 + bset p n by omega]
  have := Nat.two_pow_add_eq_or_of_lt (bset_lt p n) 1
  rw [Nat.mul_one] at this
  rw [Nat.mul_one, this]
theorem mask_k {nm : Nat} (hn : nm ≤ 10) (x : Int32) : (x &&& (nI (2 ^ nm - 1) ^^^ ((-1) : Int32))) = 0 ↔ inR (2 ^ nm) x = true := by
  obtain ⟨n, hx, rfl⟩ := wb_of32 x
  have hp : (2 : Nat) ^ nm ≤ 2 ^ 10 := Nat.pow_le_pow_right (by omega) hn
  have hp1 : 1 ≤ (2 : Nat) ^ nm := Nat.one_le_two_pow
  rw [show ((-1) : Int32) = nI (2 ^ 32 - 1) from rfl, fb_xorI, fa_and]
  have hz : ∀ m, m < 2 ^ 32 → (nI m = 0 ↔ m = 0) := fun m hm => by
    constructor
    · intro h
      have := congrArg (fun z : Int32 => z.toBitVec.toNat) h
      simp only [pk_tn hm] at this
      exact this
    · rintro rfl; rfl
  have hlt : n &&& ((2 ^ nm - 1) ^^^ (2 ^ 32 - 1)) < 2 ^ 32 := Nat.lt_of_le_of_lt Nat.and_le_left hx
  rw [hz _ hlt]
  constructor
  · intro h
    have hk : n < 2 ^ nm := by
      apply Nat.lt_pow_two_of_testBit
      intro i hi
      have h2 := congrArg (fun z => z.testBit i) h
      simp only [Nat.testBit_and, Nat.testBit_xor, Nat.testBit_two_pow_sub_one, Nat.zero_testBit] at h2
      by_cases h32 : i < 32
      · simpa [show ¬ i < nm by omega, h32] using h2
      · exact Nat.testBit_lt_two_pow (Nat.lt_of_lt_of_le hx (Nat.pow_le_pow_right (by omega) (by omega)))
    exact inR_nI (by omega) hk
  · intro h
    obtain ⟨k, hk, e⟩ := inR_n (by omega) h
    have : n = k := by
      have := congrArg (fun z : Int32 => z.toBitVec.toNat) e
      simp only [pk_tn hx, pk_tn (show k < 2 ^ 32 by omega)] at this
      exact this
    subst this
    apply Nat.eq_of_testBit_eq
    intro i
    rw [Nat.testBit_and, Nat.testBit_xor, Nat.testBit_two_pow_sub_one, Nat.testBit_two_pow_sub_one, Nat.zero_testBit]
    by_cases hi : i < nm
    · simp [hi, show i < 32 by omega]
    · have : n.testBit i = false := Nat.testBit_lt_two_pow (Nat.lt_of_lt_of_le hk (Nat.pow_le_pow_right (by omega) (by omega)))
      simp [this]
