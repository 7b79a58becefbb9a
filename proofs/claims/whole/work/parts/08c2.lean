/-- the words of the marks' table -/
def Wd (M : Mm) : Prop := ∀ j, j < 6 → gL M 3000 j = wlm j
/-- the kinds of a word that have a mark -/
def ww (m j : Nat) : Int64 := if m < 6 then wlm m else if j.testBit (m - 6) then -1 else 0
theorem lit_lt0 {j : Nat} (hj : j < 2 ^ 31) : ¬ nI j < 0 := nI_pos hj
theorem shr_bit : ∀ m, m < 4 → ∀ j, j < 16 → (((nI j >>> ((nI (m + 6) - (6 : Int32)) &&& 31)) &&& (1 : Int32)) = 0 ↔ j.testBit m = false) := by decide +kernel
theorem wordWith_g {d : Nat} {M : Mm} {m j : Nat} (hm : m < 10) (hj : j < 16) (hX : Wd M) : go (d + 1) 57 0 [.int (nI m), .int (nI j)] [] M = some (some (.long (ww m j)), M) := by
  rw [q57_0, if_neg (lit_lt0 (by omega))]
  by_cases h6 : m < 6
  · rw [if_neg (by rw [show (6 : Int32) = nI 6 from rfl, nI_leI (by omega) (by omega)]; omega)]
    have h3 : rOK M 3000 3 (nI m) = true := by
      simp only [rOK, Bool.and_eq_true]
      refine ⟨?_, ?_⟩
      · simp only [okA, Bool.and_eq_true, Bool.or_eq_true, Nat.ble_eq]
        exact ⟨⟨by omega, Or.inr (by omega)⟩, rfl⟩
      · show inB (nI m) (aLen M 3000) = true
        rw [show aLen M 3000 = 6 from rfl]
        exact inB_n h6 (by omega)
    rw [if_pos h3, nI_clamp (by omega), hX m h6, ww, if_pos h6]
  · rw [if_pos (by rw [show (6 : Int32) = nI 6 from rfl, nI_leI (by omega) (by omega)]; omega)]
    have e := shr_bit (m - 6) (by omega) j hj
    rw [show m - 6 + 6 = m by omega] at e
    rw [ww, if_neg h6]
    by_cases hb : j.testBit (m - 6) = true
    · rw [if_neg (by rw [e, hb]; simp), if_pos hb]
    · rw [if_pos (by rw [e]; simpa using hb), if_neg hb]
/-- bits -/
def lb (x : Int64) (i : Nat) : Bool := x.toBitVec.getLsbD i
def kb (f : Nat → Int64) (k : Nat) : Bool := lb (f (k / 64)) (k % 64)
theorem lb_and (x y : Int64) (i : Nat) : lb (x &&& y) i = (lb x i && lb y i) := by simp [lb]
theorem lb_or (x y : Int64) (i : Nat) : lb (x ||| y) i = (lb x i || lb y i) := by simp [lb]
theorem lb_m1 : ∀ i, i < 64 → lb (-1) i = true := by decide +kernel
theorem lb_0 (i : Nat) : lb 0 i = false := by simp [lb]
theorem lb_xor (x y : Int64) (i : Nat) : lb (x ^^^ y) i = (lb x i ^^ lb y i) := by simp [lb]
theorem lb_not (x : Int64) {i : Nat} (h : i < 64) : lb (x ^^^ (-1)) i = !lb x i := by rw [lb_xor, lb_m1 i h]; simp
theorem wlm_bit : ∀ m, m < 6 → ∀ i, i < 64 → lb (wlm m) i = i.testBit m := by decide +kernel
theorem ww_bit {m k : Nat} (hm : m < 10) (hk : k < 1024) : lb (ww m (k / 64)) (k % 64) = k.testBit m := by
  unfold ww
  by_cases h6 : m < 6
  · rw [if_pos h6, wlm_bit m h6 _ (by omega), show (64 : Nat) = 2 ^ 6 from rfl, Nat.testBit_mod_two_pow]
    simp [h6]
  · rw [if_neg h6, show (64 : Nat) = 2 ^ 6 from rfl, ← Nat.shiftRight_eq_div_pow, Nat.testBit_shiftRight, show 6 + (m - 6) = m by omega]
    by_cases hb : k.testBit m = true
    · rw [if_pos hb, hb]; exact lb_m1 _ (by omega)
    · rw [if_neg hb, lb_0]; simp at hb; exact hb.symm
theorem kb_if {f g : Nat → Int64} {k : Nat} (hk : k < 1024) : kb (fun i => if i < 16 then g i else f i) k = lb (g (k / 64)) (k % 64) := by
  show lb (if k / 64 < 16 then g (k / 64) else f (k / 64)) (k % 64) = _
  rw [if_pos (by omega)]
