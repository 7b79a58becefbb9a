/-! ===== sets of kinds ===== -/
theorem loopM (F : Nat → Mm → Oo) (n : Nat) (S : Nat → Mm) (hs : ∀ j, j < n → F j (S j) = F (j + 1) (S (j + 1))) : ∀ k, k ≤ n → F 0 (S 0) = F k (S k) := by
  intro k
  induction k with
  | zero => intro _; rfl
  | succ k ih => intro h; exact (ih (by omega)).trans (hs k (by omega))
/-- a loop by an invariant -/
theorem loopI {σ : Type} (F : Nat → σ → Oo) (I : Nat → σ → Prop) (n : Nat) (hs : ∀ k s, k < n → I k s → ∃ s', F k s = F (k + 1) s' ∧ I (k + 1) s') : ∀ (m k : Nat) (s : σ), k + m = n → I k s → ∃ s', F k s = F n s' ∧ I n s'
  | 0, k, s, h, hi => ⟨s, by rw [show k = n by omega], by rw [show n = k by omega]; exact hi⟩
  | m + 1, k, s, h, hi => by
    obtain ⟨s1, e1, h1⟩ := hs k s (by omega) hi
    obtain ⟨s2, e2, h2⟩ := loopI F I n hs m (k + 1) s1 (by omega) h1
    exact ⟨s2, e1.trans e2, h2⟩
/-- a loop that may end early -/
theorem loopX {σ : Type} (F : Nat → σ → Oo) (I : Nat → σ → Prop) (P : Oo → Prop) (n : Nat) (hs : ∀ k s, k < n → I k s → P (F k s) ∨ ∃ s', F k s = F (k + 1) s' ∧ I (k + 1) s') (hx : ∀ s, I n s → P (F n s)) : ∀ (m k : Nat) (s : σ), k + m = n → I k s → P (F k s)
  | 0, k, s, h, hi => by
    have e : k = n := by omega
    subst e
    exact hx s hi
  | m + 1, k, s, h, hi => by
    rcases hs k s (by omega) hi with h1 | ⟨s1, e1, h1⟩
    · exact h1
    · rw [e1]; exact loopX F I P n hs hx m (k + 1) s1 (by omega) h1
def wL (M : Mm) (w : Nat) (f : Nat → Int64) : Mm := (M.1, M.2.1, fun r k => if r = w then f k else M.2.2.1 r k, M.2.2.2)
def wI (M : Mm) (w : Nat) (f : Nat → Int32) : Mm := (M.1, fun r k => if r = w then f k else M.2.1 r k, M.2.2.1, M.2.2.2)
theorem wL_self {M : Mm} {w : Nat} : wL M w (gL M w) = M := by
  obtain ⟨n, i, l, r⟩ := M
  show (n, i, (fun a k => if a = w then l w k else l a k), r) = (n, i, l, r)
  have : (fun a k => if a = w then l w k else l a k) = l := by
    funext a k
    split
    · rename_i h; rw [h]
    · rfl
  rw [this]
theorem wI_self {M : Mm} {w : Nat} : wI M w (gI M w) = M := by
  obtain ⟨n, i, l, r⟩ := M
  show (n, (fun a k => if a = w then i w k else i a k), l, r) = (n, i, l, r)
  have : (fun a k => if a = w then i w k else i a k) = i := by
    funext a k
    split
    · rename_i h; rw [h]
    · rfl
  rw [this]
theorem sL_wL {M : Mm} {w j : Nat} {f : Nat → Int64} {x : Int64} : sL (wL M w f) w j x = wL M w (fun k => if k = j then x else f k) := by
  have : (fun a b => if a = w ∧ b = j then x else if a = w then f b else M.2.2.1 a b) = (fun a b => if a = w then (if b = j then x else f b) else M.2.2.1 a b) := by
    funext a b
    by_cases h1 : a = w <;> by_cases h2 : b = j <;> simp [h1, h2]
  show (M.1, M.2.1, (fun a b => if a = w ∧ b = j then x else if a = w then f b else M.2.2.1 a b), M.2.2.2) = _
  rw [this]; rfl
theorem sI_wI {M : Mm} {w j : Nat} {f : Nat → Int32} {x : Int32} : sI (wI M w f) w j x = wI M w (fun k => if k = j then x else f k) := by
  have : (fun a b => if a = w ∧ b = j then x else if a = w then f b else M.2.1 a b) = (fun a b => if a = w then (if b = j then x else f b) else M.2.1 a b) := by
    funext a b
    by_cases h1 : a = w <;> by_cases h2 : b = j <;> simp [h1, h2]
  show (M.1, (fun a b => if a = w ∧ b = j then x else if a = w then f b else M.2.1 a b), M.2.2.1, M.2.2.2) = _
  rw [this]; rfl
theorem gL_wL {M : Mm} {w r : Nat} {f : Nat → Int64} : gL (wL M w f) r = if r = w then f else gL M r := by
  funext k
  show (if r = w then f k else gL M r k) = _
  split <;> rfl
theorem gI_wI {M : Mm} {w r : Nat} {f : Nat → Int32} : gI (wI M w f) r = if r = w then f else gI M r := by
  funext k
  show (if r = w then f k else gI M r k) = _
  split <;> rfl
theorem gI_wL {M : Mm} {w : Nat} {f : Nat → Int64} : gI (wL M w f) = gI M := rfl
theorem gR_wL {M : Mm} {w : Nat} {f : Nat → Int64} : gR (wL M w f) = gR M := rfl
theorem gL_wI {M : Mm} {w : Nat} {f : Nat → Int32} : gL (wI M w f) = gL M := rfl
theorem gR_wI {M : Mm} {w : Nat} {f : Nat → Int32} : gR (wI M w f) = gR M := rfl
theorem wL_wL {M : Mm} {w : Nat} {f g : Nat → Int64} : wL (wL M w f) w g = wL M w g := by
  have : (fun a k => if a = w then g k else if a = w then f k else M.2.2.1 a k) = (fun a k => if a = w then g k else M.2.2.1 a k) := by
    funext a k; by_cases h : a = w <;> simp [h]
  show (M.1, M.2.1, (fun a k => if a = w then g k else if a = w then f k else M.2.2.1 a k), M.2.2.2) = _
  rw [this]; rfl
theorem Gd_wL {M : Mm} {w : Nat} {f : Nat → Int64} : Gd (wL M w f) = Gd M := rfl
theorem Gd_wI {M : Mm} {w : Nat} {f : Nat → Int32} : Gd (wI M w f) = Gd M := rfl
/-- a set of kinds at cell a, its words at w -/
def KS (M : Mm) (a w : Nat) : Prop := okO M a 4 = true ∧ gR M a 0 = w ∧ (∀ j, j < 16 → rOK M w 3 (nI j) = true) ∧ (∀ j, j < 16 → wOK M w 3 (nI j) = true) ∧ w < 1000 ∧ (SH w).2 = 16 ∧ okA M w 3 = true
theorem KS_wL {M : Mm} {a w v : Nat} {f : Nat → Int64} : KS (wL M v f) a w = KS M a w := rfl
theorem KS_sI {M : Mm} {a w i k : Nat} {v : Int32} : KS (sI M i k v) a w = KS M a w := rfl
theorem KS_sL {M : Mm} {a w i k : Nat} {v : Int64} : KS (sL M i k v) a w = KS M a w := rfl
theorem KS_wI {M : Mm} {a w v : Nat} {f : Nat → Int32} : KS (wI M v f) a w = KS M a w := rfl
theorem le_lit {a : Int32} {n j : Nat} (ha : a = nI n) (hn : n < 2 ^ 31) (hj : j < 2 ^ 31) : a ≤ nI j ↔ n ≤ j := by rw [ha]; exact nI_leI hn hj
theorem l16 {j : Nat} (hj : j < 2 ^ 31) : (16 : Int32) ≤ nI j ↔ 16 ≤ j := le_lit rfl (by omega) hj
