/-! ===== sets of kinds: the rest ===== -/
def allB (p : Nat → Bool) : Nat → Bool
  | 0 => true
  | n + 1 => allB p n && p n
def anyB (p : Nat → Bool) (n : Nat) : Bool := !allB (fun k => !p k) n
theorem allB_iff {p : Nat → Bool} : ∀ {n : Nat}, allB p n = true ↔ ∀ k, k < n → p k = true
  | 0 => ⟨fun _ k hk => absurd hk (by omega), fun _ => rfl⟩
  | n + 1 => by
    show (allB p n && p n) = true ↔ _
    rw [Bool.and_eq_true, allB_iff]
    constructor
    · intro h k hk
      rcases Nat.lt_or_ge k n with h1 | h1
      · exact h.1 k h1
      · rw [show k = n by omega]; exact h.2
    · intro h
      exact ⟨fun k hk => h k (by omega), h n (by omega)⟩
theorem allB_t {p : Nat → Bool} {n : Nat} (h : ∀ k, k < n → p k = true) : allB p n = true := allB_iff.mpr h
theorem allB_f {p : Nat → Bool} {n k : Nat} (hk : k < n) (h : p k = false) : allB p n = false := by
  cases e : allB p n
  · rfl
  · have := allB_iff.mp e k hk; rw [h] at this; cases this
theorem allB_cong {p q : Nat → Bool} : ∀ {n : Nat}, (∀ k, k < n → p k = q k) → allB p n = allB q n
  | 0, _ => rfl
  | n + 1, h => by
    show (allB p n && p n) = (allB q n && q n)
    rw [allB_cong (fun k hk => h k (by omega)), h n (by omega)]
theorem anyB_iff {p : Nat → Bool} {n : Nat} : anyB p n = true ↔ ∃ k, k < n ∧ p k = true := by
  unfold anyB
  constructor
  · intro h
    apply Classical.byContradiction
    intro hn
    rw [allB_t (fun k hk => by cases e : p k with | false => rfl | true => exact absurd ⟨k, hk, e⟩ hn)] at h
    cases h
  · rintro ⟨k, hk, h⟩
    rw [allB_f hk (by rw [h]; rfl)]; rfl
theorem anyB_f {p : Nat → Bool} {n : Nat} : anyB p n = false ↔ ∀ k, k < n → p k = false := by
  unfold anyB
  constructor
  · intro h k hk
    have : allB (fun k => !p k) n = true := by simpa using h
    simpa using allB_iff.mp this k hk
  · intro h
    rw [allB_t (fun k hk => by rw [h k hk]; rfl)]; rfl
def b2i (b : Bool) : Int32 := bif b then 1 else 0
theorem lg0 {x : Int64} : lg_cmp x 0 = 0 ↔ x = 0 := by
  unfold lg_cmp
  constructor
  · intro h
    split at h
    · cases h
    · split at h
      · assumption
      · cases h
  · rintro rfl; decide
theorem fillL {d : Nat} {M : Mm} {w : Nat} {x : Int64} (hw : ∀ j, j < 16 → wOK M w 3 (nI j) = true) (h3 : okA M w 3 = true) (h4 : w < 1000) (h5 : (SH w).2 = 16) : go (d + 1) 246 0 [.ref w, .long x, .null, .null, .null] [] M = some (none, wL M w (fun i => if i < 16 then x else gL M w i)) := by
  rw [q246_0, if_pos (by simp [okL, h3]), show aLen M w = 16 by rw [aLen, if_neg (by omega), h5]]
  have h := loopM (fun j N => go (d + 1) 246 6 [.ref w, .long x, .null, .int (nI j), .int (nI 16)] [] N) 16 (fun k => wL M w (fun i => if i < k then x else gL M w i)) (fun j hj => by
    have k4 : wOK (wL M w (fun i => if i < j then x else gL M w i)) w 3 (nI j) = true := hw j hj
    try dsimp only
    rw [q246_6, if_neg (by rw [nI_leI (by omega) (by omega)]; omega), if_pos k4, bM_d, nI_clamp (by omega), sL_wL, nI_1]
    congr 2
    funext i
    by_cases h1 : i = j
    · subst h1; simp
    · by_cases h2 : i < j
      · simp [h1, h2, Nat.lt_succ_of_lt h2]
      · simp [h1, h2, show ¬ i < j + 1 by omega]) 16 (Nat.le_refl _)
  try dsimp only at h
  rw [show (fun i => if i < 0 then x else gL M w i) = gL M w from funext fun j => by simp, wL_self] at h
  rw [show (0 : Int32) = nI 0 from rfl, show Int32.ofNat 16 = nI 16 from rfl, h, q246_6, if_pos (by rw [nI_leI (by omega) (by omega)]; omega)]
theorem ks_clear {d : Nat} {M : Mm} {a w : Nat} (hA : KS M a w) : go (d + 2) 40 0 [.ref a] [] M = some (none, wL M w (fun i => if i < 16 then 0 else gL M w i)) := by
  obtain ⟨k1, k2, k3, k4, k5, k6, k7⟩ := hA
  rw [q40_0, if_pos k1, k2, fillL k4 k7 k5 k6, bV_s]
theorem ks_fill {d : Nat} {M : Mm} {a w : Nat} (hA : KS M a w) : go (d + 2) 41 0 [.ref a] [] M = some (none, wL M w (fun i => if i < 16 then -1 else gL M w i)) := by
  obtain ⟨k1, k2, k3, k4, k5, k6, k7⟩ := hA
  rw [q41_0, if_pos k1, k2, fillL k4 k7 k5 k6, bV_s]
theorem sh6 : ∀ k, k < 1024 → (nI k >>> ((6 : Int32) &&& 31)) = nI (k / 64) := fun k hk => by
  have := pk_shrN (n := k) (by omega) ((6 : Int32) &&& 31) 6 (by decide)
  exact this
theorem an63 (k : Nat) : nI k &&& (63 : Int32) = nI (k % 64) := by
  rw [show (63 : Int32) = nI (2 ^ 6 - 1) from rfl, fa_mask]
theorem ks_has {d : Nat} {M : Mm} {a w k : Nat} (hA : KS M a w) (hk : k < 1024) : go (d + 1) 43 0 [.ref a, .int (nI k)] [] M = some (some (.int (b2i (kb (gL M w) k))), M) := by
  obtain ⟨k1, k2, k3, k4, -⟩ := hA
  have hj : k / 64 < 16 := by omega
  rw [q43_0, if_neg (nI_pos (by omega)), if_neg (by rw [show (1024 : Int32) = nI 1024 from rfl, nI_leI (by omega) (by omega)]; omega), if_pos k1, k2, sh6 k hk, if_pos (k3 _ hj), nI_clamp (by omega), an63]
  have e : (lg_cmp (((gL M w (k / 64)).toUInt64 >>> ((nI (k % 64)).toInt64.toUInt64 &&& Int64.toUInt64 63)).toInt64 &&& (1 : Int64)) (0 : Int64) = 0) ↔ kb (gL M w) k = false := by
    rw [lg0]
    exact ts_bit (j := k % 64) (by omega) (by rw [sh64 _ (by omega), u_tn (by omega)])
  by_cases hb : kb (gL M w) k = true
  · rw [if_neg (by rw [e, hb]; simp), hb]; rfl
  · rw [Bool.not_eq_true] at hb
    rw [if_pos (e.mpr hb), hb]; rfl
theorem ks_hasX {d : Nat} {M : Mm} {a : Nat} {x : Int32} (h : x < 0 ∨ (1024 : Int32) ≤ x) : go (d + 1) 43 0 [.ref a, .int x] [] M = some (some (.int 0), M) := by
  rw [q43_0]
  rcases h with h | h
  · rw [if_pos h]
  · by_cases h0 : x < 0
    · rw [if_pos h0]
    · rw [if_neg h0, if_pos h]
theorem ks_take {d : Nat} {M : Mm} {a w b v : Nat} (hA : KS M a w) (hB : KS M b v) (hne : (SH w).1 = 103) (hne2 : (SH v).1 = 103) : go (d + 1) 44 0 [.ref a, .ref b] [] M = some (none, wL M w (fun i => if i < 16 then gL M v i else gL M w i)) := by
  obtain ⟨k1, k2, k3, k4, k5, k6, k7⟩ := hA
  obtain ⟨b1, b2, b3, b4, b5, b6, b7⟩ := hB
  rw [q44_0, if_pos b1, if_pos k1, k2, b2]
  have hc : cpB v w (0 : Int32) (0 : Int32) (16 : Int32) = true := by
    simp only [cpB, b6, k6, Bool.and_eq_true, Nat.blt_eq]
    exact ⟨⟨⟨b5, k5⟩, rfl⟩, rfl⟩
  have h0 : okA M v 0 = false := by
    cases h : okA M v 0
    · rfl
    · have := (okA_inv h).2.2; omega
  rw [if_pos hc, h0, Bool.false_and, if_neg (by simp), b7, k7, Bool.and_self, if_pos rfl, bM_d]
  have : cL M v (0 : Int32).toNatClampNeg w (0 : Int32).toNatClampNeg (16 : Int32).toNatClampNeg = wL M w (fun i => if i < 16 then gL M v i else gL M w i) := by
    show (M.1, M.2.1, (fun x => if x = w then va_cpy (M.2.2.1 v) (M.2.2.1 w) 0 0 16 else M.2.2.1 x), M.2.2.2) = _
    have : (fun x => if x = w then va_cpy (M.2.2.1 v) (M.2.2.1 w) 0 0 16 else M.2.2.1 x) = (fun x k => if x = w then (if k < 16 then gL M v k else gL M w k) else M.2.2.1 x k) := by
      funext x k
      by_cases h : x = w
      · subst h
        rw [if_pos rfl, if_pos rfl]
        unfold va_cpy
        by_cases hk : k < 16
        · rw [if_pos (by omega), if_pos hk]; rw [show 0 + (k - 0) = k by omega]; rfl
        · rw [if_neg (by omega), if_neg hk]; rfl
      · rw [if_neg h, if_neg h]
    rw [this]; rfl
  rw [this]
/-- one of sixteen words: a loop with an early end -/
theorem ks_isEmpty {d : Nat} {M : Mm} {a w : Nat} (hA : KS M a w) : go (d + 1) 52 0 [.ref a, .null] [] M = some (some (.int (b2i (allB (fun j => decide (gL M w j = 0)) 16))), M) := by
  obtain ⟨k1, k2, k3, k4, -⟩ := hA
  rw [q52_0, show (0 : Int32) = nI 0 from rfl]
  refine loopX (σ := Unit) (fun k _ => go (d + 1) 52 2 [.ref a, .int (nI k)] [] M) (fun k _ => ∀ j, j < k → gL M w j = 0) (fun o => o = some (some (.int (b2i (allB (fun j => decide (gL M w j = 0)) 16))), M)) 16 ?_ ?_ 16 0 () rfl (fun j hj => absurd hj (by omega))
  · intro k _ hk hI
    try dsimp only
    rw [q52_2, if_neg (by rw [l16 (by omega)]; omega), if_pos k1, k2, if_pos (k3 k hk), nI_clamp (by omega), nI_1]
    by_cases hz : gL M w k = 0
    · refine Or.inr ⟨(), by rw [if_pos (lg0.mpr hz)], fun j hj => ?_⟩
      rcases Nat.lt_or_ge j k with h | h
      · exact hI j h
      · rw [show j = k by omega]; exact hz
    · refine Or.inl ?_
      rw [if_neg (fun h => hz (lg0.mp h))]
      rw [show allB (fun j => decide (gL M w j = 0)) 16 = false from allB_f hk (decide_eq_false hz)]
      rfl
  · intro _ hI
    try dsimp only
    rw [q52_2, if_pos (by rw [l16 (by omega)]; omega), allB_t (fun j hj => decide_eq_true (hI j hj))]
    rfl
theorem ks_isWithin {d : Nat} {M : Mm} {a w b v : Nat} (hA : KS M a w) (hB : KS M b v) : go (d + 1) 53 0 [.ref a, .ref b, .null] [] M = some (some (.int (b2i (allB (fun j => decide (gL M w j &&& (gL M v j ^^^ (-1)) = 0)) 16))), M) := by
  obtain ⟨k1, k2, k3, k4, -⟩ := hA
  obtain ⟨b1, b2, b3, b4, -⟩ := hB
  rw [q53_0, show (0 : Int32) = nI 0 from rfl]
  refine loopX (σ := Unit) (fun k _ => go (d + 1) 53 2 [.ref a, .ref b, .int (nI k)] [] M) (fun k _ => ∀ j, j < k → gL M w j &&& (gL M v j ^^^ (-1)) = 0) (fun o => o = some (some (.int (b2i (allB (fun j => decide (gL M w j &&& (gL M v j ^^^ (-1)) = 0)) 16))), M)) 16 ?_ ?_ 16 0 () rfl (fun j hj => absurd hj (by omega))
  · intro k _ hk hI
    try dsimp only
    rw [q53_2, if_neg (by rw [l16 (by omega)]; omega), if_pos k1, k2, if_pos (k3 k hk), if_pos b1, b2, if_pos (b3 k hk), nI_clamp (by omega), nI_1]
    by_cases hz : gL M w k &&& (gL M v k ^^^ (-1)) = 0
    · refine Or.inr ⟨(), by rw [if_pos (lg0.mpr hz)], fun j hj => ?_⟩
      rcases Nat.lt_or_ge j k with h | h
      · exact hI j h
      · rw [show j = k by omega]; exact hz
    · refine Or.inl ?_
      rw [if_neg (fun h => hz (lg0.mp h))]
      rw [show allB (fun j => decide (gL M w j &&& (gL M v j ^^^ (-1)) = 0)) 16 = false from allB_f hk (decide_eq_false hz)]
      rfl
  · intro _ hI
    try dsimp only
    rw [q53_2, if_pos (by rw [l16 (by omega)]; omega), allB_t (fun j hj => decide_eq_true (hI j hj))]
    rfl
theorem ks_hasOn {d : Nat} {M : Mm} {a w m : Nat} (hA : KS M a w) (hm : m < 10) (hX : Wd M) : go (d + 2) 54 0 [.ref a, .int (nI m), .null] [] M = some (some (.int (b2i (!allB (fun j => decide (gL M w j &&& ww m j = 0)) 16))), M) := by
  obtain ⟨k1, k2, k3, k4, -⟩ := hA
  rw [q54_0, show (0 : Int32) = nI 0 from rfl]
  refine loopX (σ := Unit) (fun k _ => go (d + 2) 54 2 [.ref a, .int (nI m), .int (nI k)] [] M) (fun k _ => ∀ j, j < k → gL M w j &&& ww m j = 0) (fun o => o = some (some (.int (b2i (!allB (fun j => decide (gL M w j &&& ww m j = 0)) 16))), M)) 16 ?_ ?_ 16 0 () rfl (fun j hj => absurd hj (by omega))
  · intro k _ hk hI
    try dsimp only
    rw [q54_2, if_neg (by rw [l16 (by omega)]; omega), if_pos k1, k2, if_pos (k3 k hk), wordWith_g hm hk hX, bL_s, nI_clamp (by omega), nI_1]
    by_cases hz : gL M w k &&& ww m k = 0
    · refine Or.inr ⟨(), by rw [if_pos (lg0.mpr hz)], fun j hj => ?_⟩
      rcases Nat.lt_or_ge j k with h | h
      · exact hI j h
      · rw [show j = k by omega]; exact hz
    · refine Or.inl ?_
      rw [if_neg (fun h => hz (lg0.mp h))]
      rw [show allB (fun j => decide (gL M w j &&& ww m j = 0)) 16 = false from allB_f hk (decide_eq_false hz)]
      rfl
  · intro _ hI
    try dsimp only
    rw [q54_2, if_pos (by rw [l16 (by omega)]; omega), allB_t (fun j hj => decide_eq_true (hI j hj))]
    rfl
theorem ks_hasOff {d : Nat} {M : Mm} {a w m : Nat} (hA : KS M a w) (hm : m < 10) (hX : Wd M) : go (d + 2) 55 0 [.ref a, .int (nI m), .null] [] M = some (some (.int (b2i (!allB (fun j => decide (gL M w j &&& (ww m j ^^^ (-1)) = 0)) 16))), M) := by
  obtain ⟨k1, k2, k3, k4, -⟩ := hA
  rw [q55_0, show (0 : Int32) = nI 0 from rfl]
  refine loopX (σ := Unit) (fun k _ => go (d + 2) 55 2 [.ref a, .int (nI m), .int (nI k)] [] M) (fun k _ => ∀ j, j < k → gL M w j &&& (ww m j ^^^ (-1)) = 0) (fun o => o = some (some (.int (b2i (!allB (fun j => decide (gL M w j &&& (ww m j ^^^ (-1)) = 0)) 16))), M)) 16 ?_ ?_ 16 0 () rfl (fun j hj => absurd hj (by omega))
  · intro k _ hk hI
    try dsimp only
    rw [q55_2, if_neg (by rw [l16 (by omega)]; omega), if_pos k1, k2, if_pos (k3 k hk), wordWith_g hm hk hX, bL_s, nI_clamp (by omega), nI_1]
    by_cases hz : gL M w k &&& (ww m k ^^^ (-1)) = 0
    · refine Or.inr ⟨(), by rw [if_pos (lg0.mpr hz)], fun j hj => ?_⟩
      rcases Nat.lt_or_ge j k with h | h
      · exact hI j h
      · rw [show j = k by omega]; exact hz
    · refine Or.inl ?_
      rw [if_neg (fun h => hz (lg0.mp h))]
      rw [show allB (fun j => decide (gL M w j &&& (ww m j ^^^ (-1)) = 0)) 16 = false from allB_f hk (decide_eq_false hz)]
      rfl
  · intro _ hI
    try dsimp only
    rw [q55_2, if_pos (by rw [l16 (by omega)]; omega), allB_t (fun j hj => decide_eq_true (hI j hj))]
    rfl
/-- words and kinds -/
theorem kb_all {f : Nat → Int64} : (∀ j, j < 16 → f j = 0) ↔ ∀ k, k < 1024 → kb f k = false := by
  constructor
  · intro h k hk
    unfold kb
    rw [h _ (by omega), lb_0]
  · intro h j hj
    apply wb_inj
    apply BitVec.eq_of_getLsbD_eq
    intro i hi
    have := h (64 * j + i) (by omega)
    unfold kb at this
    rw [show (64 * j + i) / 64 = j by omega, show (64 * j + i) % 64 = i by omega] at this
    show lb (f j) i = _
    rw [this]
    simp
theorem lN_of (x : Int64) : lN x.toBitVec.toNat = x := by
  apply wb_inj
  rw [lN_bv]
  simp
theorem bitCount_g {d : Nat} {M : Mm} (x : Int64) : go (d + 1) 239 0 [.long x, .null] [] M = some (some (.int (nI (fb_ct (lb x) 64))), M) := by
  have h := bitCountL (d := d) (M := M) x.toBitVec.toNat x.toBitVec.isLt
  rw [lN_of] at h
  exact h
theorem kb_ct (f : Nat → Int64) : ∀ n, fb_sm (fun j => fb_ct (lb (f j)) 64) n = fb_ct (kb f) (64 * n)
  | 0 => rfl
  | n + 1 => by
    rw [fb_sm_succ, kb_ct f n, show 64 * (n + 1) = 64 * n + 64 by omega, fb_ct_split]
    congr 1
    apply fb_ct_cong
    intro k hk
    unfold kb
    rw [show (64 * n + k) / 64 = n by omega, show (64 * n + k) % 64 = k by omega]
theorem ks_size {d : Nat} {M : Mm} {a w : Nat} (hA : KS M a w) : go (d + 2) 56 0 [.ref a, .null, .null] [] M = some (some (.int (nI (fb_ct (kb (gL M w)) 1024))), M) := by
  obtain ⟨k1, k2, k3, k4, -⟩ := hA
  rw [q56_0, show (0 : Int32) = nI 0 from rfl]
  obtain ⟨s, h1, h2⟩ := loopI (σ := Int32) (fun k x => go (d + 2) 56 4 [.ref a, .int x, .int (nI k)] [] M) (fun k x => x = nI (fb_sm (fun j => fb_ct (lb (gL M w j)) 64) k)) 16 (fun k x hk hI => by
    refine ⟨nI (fb_sm (fun j => fb_ct (lb (gL M w j)) 64) (k + 1)), ?_, rfl⟩
    try dsimp only
    rw [q56_4, if_neg (by rw [l16 (by omega)]; omega), if_pos k1, k2, if_pos (k3 k hk), nI_clamp (by omega), bitCount_g, bI_s, nI_1, hI, nI_add]
    rfl) 16 0 (nI 0) rfl rfl
  try dsimp only at h1
  rw [h1, q56_4, if_pos (by rw [l16 (by omega)]; omega), h2, kb_ct]
