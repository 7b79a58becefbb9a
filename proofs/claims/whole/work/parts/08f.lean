/-! ===== numbers that both sides ask ===== -/
theorem lg_neg {x y : Int64} : lg_cmp x y < 0 ↔ x < y := by
  unfold lg_cmp
  have t : ∀ a b : Int64, a < b ↔ a.toInt < b.toInt := fun a b => fa_lt64 a b
  have e : ∀ a b : Int64, a = b ↔ a.toInt = b.toInt := fun a b => fa_eq64 a b
  by_cases h1 : x > y
  · rw [if_pos h1]
    have : y.toInt < x.toInt := (t y x).mp h1
    constructor
    · intro h; exact absurd h (by decide)
    · intro h; have := (t x y).mp h; omega
  · rw [if_neg h1]
    have h1' : ¬ y.toInt < x.toInt := fun z => h1 ((t y x).mpr z)
    by_cases h2 : x = y
    · rw [if_pos h2]
      constructor
      · intro h; exact absurd h (by decide)
      · intro h; have := (t x y).mp h; rw [h2] at this; omega
    · rw [if_neg h2]
      have h2' : ¬ x.toInt = y.toInt := fun z => h2 ((e x y).mpr z)
      constructor
      · intro _; exact (t x y).mpr (by omega)
      · intro _; decide
theorem lg_pos {x y : Int64} : 0 < lg_cmp x y ↔ y < x := by
  unfold lg_cmp
  by_cases h1 : x > y
  · rw [if_pos h1]
    exact ⟨fun _ => h1, fun _ => by decide⟩
  · rw [if_neg h1]
    refine ⟨fun h => ?_, fun h => absurd h h1⟩
    split at h
    · exact absurd h (by decide)
    · exact absurd h (by decide)
/-- Model.in -/
theorem m_in {d : Nat} {M : Mm} (a b c : Int32) : go (d + 1) 154 0 [.long a.toInt64, .null, .long b.toInt64, .null, .long c.toInt64, .null] [] M = some (some (.int (b2i (decide (b ≤ a ∧ a ≤ c)))), M) := by
  have lt1 : lg_cmp a.toInt64 b.toInt64 < 0 ↔ a < b := by rw [lg_neg, fa_wide_lt]
  have lt2 : 0 < lg_cmp a.toInt64 c.toInt64 ↔ c < a := by rw [lg_pos, fa_wide_lt]
  rw [q154_0]
  by_cases h1 : a < b
  · rw [if_pos (lt1.mpr h1), decide_eq_false (fun h => (fa_of_lt h1).2.1 h.1)]; rfl
  · rw [if_neg (fun z => h1 (lt1.mp z))]
    by_cases h2 : c < a
    · rw [if_pos (lt2.mpr h2), decide_eq_false (fun h => (fa_of_lt h2).2.1 h.2)]; rfl
    · rw [if_neg (fun z => h2 (lt2.mp z)), decide_eq_true ⟨fa_of_nlt h1, fa_of_nlt h2⟩]; rfl
theorem b2i01 (b : Bool) : (b2i b == 0 || b2i b == 1) = true := by cases b <;> rfl
theorem b2i0 {b : Bool} : b2i b = 0 ↔ b = false := by cases b <;> decide
/-- from 0 on, below n -/
def inR (n : Nat) (x : Int32) : Bool := decide (0 ≤ x.toInt) && decide (x.toInt < n)
theorem inR_n {n : Nat} (hn : n < 2 ^ 31) {x : Int32} (h : inR n x = true) : ∃ k, k < n ∧ x = nI k := by
  simp only [inR, Bool.and_eq_true, decide_eq_true_eq] at h
  obtain ⟨j, hj, rfl⟩ := nI_of (x := x) (fun z => by have := (fa_lt _ _).mp z; rw [show (0 : Int32).toInt = 0 from rfl] at this; omega)
  rw [nI_toInt hj] at h
  exact ⟨j, by omega, rfl⟩
theorem inR_nI {n k : Nat} (hn : n < 2 ^ 31) (h : k < n) : inR n (nI k) = true := by
  simp only [inR, Bool.and_eq_true, decide_eq_true_eq, nI_toInt (show k < 2 ^ 31 by omega)]
  omega
theorem inR_c {n : Nat} (hn : n < 2 ^ 31) {x c : Int32} (hc : c = nI n) {o z : Oo} : (if x < 0 then z else if c ≤ x then z else o) = bif inR n x then o else z := by
  subst hc
  cases h : inR n x with
  | true =>
    obtain ⟨k, hk, rfl⟩ := inR_n hn h
    rw [if_neg (nI_pos (by omega)), if_neg (by rw [nI_leI hn (by omega)]; omega)]; rfl
  | false =>
    by_cases h0 : x < 0
    · rw [if_pos h0]; rfl
    · obtain ⟨j, hj, rfl⟩ := nI_of h0
      rw [if_neg h0, if_pos ?_]
      · rfl
      · rw [nI_leI hn hj]
        apply Nat.not_lt.mp
        intro hlt
        rw [inR_nI hn hlt] at h
        cases h
theorem m_inR {d : Nat} {M : Mm} {n : Nat} {x c : Int32} (hc : c.toInt + 1 = n) : go (d + 1) 154 0 [.long x.toInt64, .null, .long (0 : Int64), .null, .long c.toInt64, .null] [] M = some (some (.int (b2i (inR n x))), M) := by
  rw [show (0 : Int64) = (0 : Int32).toInt64 from rfl, m_in]
  congr 5
  unfold inR
  have e1 : (0 : Int32) ≤ x ↔ 0 ≤ x.toInt := fa_le _ _
  have e2 : x ≤ c ↔ x.toInt ≤ c.toInt := fa_le _ _
  by_cases h1 : 0 ≤ x.toInt
  · by_cases h2 : x.toInt < n
    · rw [decide_eq_true ⟨e1.mpr h1, e2.mpr (by omega)⟩]; simp [h1, h2]
    · rw [decide_eq_false (fun z => h2 (by have := e2.mp z.2; omega))]; simp [h2]
  · rw [decide_eq_false (fun z => h1 (e1.mp z.1))]; simp [h1]
theorem m_isSheet {d : Nat} {M : Mm} (x : Int32) : go (d + 2) 157 0 [.int x] [] M = some (some (.int (b2i (inR 8 x))), M) := by
  rw [q157_0, show (7 : Int64) = (7 : Int32).toInt64 from rfl, m_inR (n := 8) rfl, bI_s, if_pos (b2i01 _)]
theorem m_isVersion {d : Nat} {M : Mm} (x : Int32) : go (d + 2) 206 0 [.int x] [] M = some (some (.int (b2i (inR 10 x))), M) := by
  rw [q206_0, show (9 : Int64) = (9 : Int32).toInt64 from rfl, m_inR (n := 10) rfl, bI_s, if_pos (b2i01 _)]
theorem m_isBuyer {d : Nat} {M : Mm} (x : Int32) : go (d + 2) 207 0 [.int x] [] M = some (some (.int (b2i (inR 8 x))), M) := by
  rw [q207_0, show (7 : Int64) = (7 : Int32).toInt64 from rfl, m_inR (n := 8) rfl, bI_s, if_pos (b2i01 _)]
theorem c_isSheet {d : Nat} {M : Mm} (x : Int32) : go (d + 1) 148 0 [.int x] [] M = some (some (.int (b2i (inR 8 x))), M) := by
  rw [q148_0, inR_c (n := 8) (c := 8) (by omega) rfl]; cases inR 8 x <;> rfl
theorem c_isBuyer {d : Nat} {M : Mm} (x : Int32) : go (d + 1) 149 0 [.int x] [] M = some (some (.int (b2i (inR 8 x))), M) := by
  rw [q149_0, inR_c (n := 8) (c := 8) (by omega) rfl]; cases inR 8 x <;> rfl
theorem lt_le1 {x : Int32} {n : Nat} (hn : n + 1 < 2 ^ 31) : nI n < x ↔ nI (n + 1) ≤ x := by
  rw [fa_lt, fa_le, nI_toInt (by omega), nI_toInt hn]; omega
theorem c_isVersion {d : Nat} {M : Mm} (x : Int32) : go (d + 1) 150 0 [.int x] [] M = some (some (.int (b2i (inR 10 x))), M) := by
  have e : ((9 : Int32) < x) = (nI 10 ≤ x) := propext (lt_le1 (n := 9) (by omega))
  rw [q150_0]
  simp only [e]
  rw [inR_c (n := 10) (by omega) rfl]; cases inR 10 x <;> rfl
theorem subm1 {n : Nat} (hn : n < 2 ^ 30) : (nI n - (1 : Int32)).toInt + 1 = n := by
  rw [show (1 : Int32) = nI 1 from rfl, pk_sub_toInt hn (by omega)]; omega
