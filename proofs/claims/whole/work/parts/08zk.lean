/-! ===== the tape's pieces ===== -/
abbrev Tp := Nat × (Nat → Nat)
def wsB (b : Nat) : Bool := decide (b = 32) || decide (b = 10)
def soB (b : Nat) : Nat := if 97 ≤ b ∧ b ≤ 122 then 1 else if 48 ≤ b ∧ b ≤ 57 then 2 else if b = 59 ∨ b = 40 ∨ b = 41 then 3 else 4
def skF (T : Tp) : Nat → Nat → Nat
  | 0, p => p
  | f + 1, p => if wsB (T.2 p) then skF T f (p + 1) else p
def tkS (T : Tp) (p : Nat) : Nat := skF T (T.1 - p) p
def ruF (T : Tp) (s : Nat) : Nat → Nat → Nat
  | 0, p => p
  | f + 1, p => if soB (T.2 p) = s then ruF T s f (p + 1) else p
def ruE (T : Tp) (s p : Nat) : Nat := ruF T s (T.1 - p) p
def tkK0 (T : Tp) (p : Nat) : Nat := if tkS T p < T.1 then soB (T.2 (tkS T p)) else 0
def tkE (T : Tp) (p : Nat) : Nat := if tkK0 T p = 0 then tkS T p else if tkK0 T p = 1 ∨ tkK0 T p = 2 then ruE T (tkK0 T p) (tkS T p + 1) else tkS T p + 1
def tkK (T : Tp) (p : Nat) : Nat := if tkK0 T p = 2 ∧ 3 < tkE T p - tkS T p then 4 else tkK0 T p
def nuF (T : Tp) (s : Nat) : Nat → Nat
  | 0 => 0
  | i + 1 => 10 * nuF T s i + T.2 (s + i) - 48
def tkN (T : Tp) (p : Nat) : Nat := nuF T (tkS T p) (tkE T p - tkS T p)
def tkW (T : Tp) (p : Nat) : List Nat := if tkK T p = 1 then (List.range (tkE T p - tkS T p)).map (fun i => T.2 (tkS T p + i)) else []
theorem soB_r (b : Nat) : 1 ≤ soB b ∧ soB b ≤ 4 := by unfold soB; split <;> (try split) <;> (try split) <;> omega
theorem tkS_end {T : Tp} {p : Nat} (h : T.1 ≤ p) : tkS T p = p := by
  unfold tkS; rw [show T.1 - p = 0 by omega]; rfl
theorem tkS_ws {T : Tp} {p : Nat} (h : p < T.1) (hw : wsB (T.2 p) = true) : tkS T p = tkS T (p + 1) := by
  unfold tkS
  rw [show T.1 - p = (T.1 - (p + 1)) + 1 by omega, skF, if_pos hw]
theorem tkS_no {T : Tp} {p : Nat} (hw : wsB (T.2 p) = false) : tkS T p = p := by
  unfold tkS
  cases T.1 - p with
  | zero => rfl
  | succ f => rw [skF, if_neg (by rw [hw]; decide)]
theorem skF_b (T : Tp) : ∀ f p, p ≤ skF T f p ∧ skF T f p ≤ p + f
  | 0, p => ⟨Nat.le_refl _, Nat.le_refl _⟩
  | f + 1, p => by
    have := skF_b T f (p + 1)
    rw [skF]
    split <;> omega
theorem tkS_b (T : Tp) {p : Nat} (h : p ≤ T.1) : p ≤ tkS T p ∧ tkS T p ≤ T.1 := by
  have := skF_b T (T.1 - p) p
  unfold tkS; omega
theorem ruE_end {T : Tp} {s p : Nat} (h : T.1 ≤ p) : ruE T s p = p := by
  unfold ruE; rw [show T.1 - p = 0 by omega]; rfl
theorem ruE_go {T : Tp} {s p : Nat} (h : p < T.1) (hw : soB (T.2 p) = s) : ruE T s p = ruE T s (p + 1) := by
  unfold ruE
  rw [show T.1 - p = (T.1 - (p + 1)) + 1 by omega, ruF, if_pos hw]
theorem ruE_no {T : Tp} {s p : Nat} (hw : ¬ soB (T.2 p) = s) : ruE T s p = p := by
  unfold ruE
  cases T.1 - p with
  | zero => rfl
  | succ f => rw [ruF, if_neg hw]
theorem ruF_b (T : Tp) (s : Nat) : ∀ f p, p ≤ ruF T s f p ∧ ruF T s f p ≤ p + f
  | 0, p => ⟨Nat.le_refl _, Nat.le_refl _⟩
  | f + 1, p => by
    have := ruF_b T s f (p + 1)
    rw [ruF]
    split <;> omega
theorem ruE_b (T : Tp) {s p : Nat} (h : p ≤ T.1) : p ≤ ruE T s p ∧ ruE T s p ≤ T.1 := by
  have := ruF_b T s (T.1 - p) p
  unfold ruE; omega
theorem ruF_all (T : Tp) (s : Nat) : ∀ f p q, p ≤ q → q < ruF T s f p → soB (T.2 q) = s
  | 0, p, q, h1, h2 => by have : q < p := h2; omega
  | f + 1, p, q, h1, h2 => by
    rw [ruF] at h2
    split at h2
    · rename_i h
      by_cases e : q = p
      · rw [e]; exact h
      · exact ruF_all T s f (p + 1) q (by omega) h2
    · omega
theorem tkE_b (T : Tp) {p : Nat} (h : p ≤ T.1) : tkS T p ≤ tkE T p ∧ tkE T p ≤ T.1 ∧ (tkK0 T p ≠ 0 → tkS T p < tkE T p) := by
  have h1 := tkS_b T h
  have hk : tkK0 T p ≠ 0 → tkS T p < T.1 := fun z => by
    unfold tkK0 at z
    by_cases e : tkS T p < T.1
    · exact e
    · rw [if_neg e] at z; exact absurd rfl z
  unfold tkE
  by_cases e0 : tkK0 T p = 0
  · rw [if_pos e0]; exact ⟨Nat.le_refl _, h1.2, fun z => absurd e0 z⟩
  · rw [if_neg e0]
    have h2 := hk e0
    have h3 := ruE_b T (s := tkK0 T p) (p := tkS T p + 1) (by omega)
    split
    · omega
    · omega
theorem tkK_0 (T : Tp) (p : Nat) : tkK T p = 0 ↔ tkK0 T p = 0 := by
  unfold tkK
  split
  · rename_i h; omega
  · rfl
theorem tkK0_r (T : Tp) (p : Nat) : tkK0 T p ≤ 4 := by
  unfold tkK0
  split
  · exact (soB_r _).2
  · omega
/-! bytes -/
def byI (v : Nat) : Int32 := (nI v).toInt8.toInt32
def s28 (x : Int32) : Nat := if x = 59 then 3 else if x = 40 then 3 else if x = 41 then 3 else 4
def srI (x : Int32) : Nat := if x < 97 then (if x < 48 then s28 x else if 57 < x then s28 x else 2) else if 122 < x then (if x < 48 then s28 x else if 57 < x then s28 x else 2) else 1
theorem srI_b : ∀ v, v < 256 → srI (byI v) = soB v := by decide +kernel
theorem c_sort0 {d : Nat} {M : Mm} (x : Int32) : go (d + 1) 111 0 [.int x] [] M = some (some (.int (nI (srI x))), M) := by
  have h28 : go (d + 1) 111 28 [.int x] [] M = some (some (.int (nI (s28 x))), M) := by
    rw [q111_28]; unfold s28; repeat' split
    all_goals rfl
  rw [q111_0]
  unfold srI
  repeat' split
  all_goals first | rfl | exact h28
theorem c_sort {d v : Nat} {M : Mm} (h : v < 256) : go (d + 1) 111 0 [.int (byI v)] [] M = some (some (.int (nI (soB v))), M) := by
  rw [c_sort0, srI_b v h]
theorem byI_eq : ∀ v, v < 256 → ∀ c, c < 128 → (byI v = nI c ↔ v = c) := by decide +kernel
theorem byI_dig : ∀ v, v < 256 → 48 ≤ v → v ≤ 57 → byI v = nI v := by decide +kernel
def TPC (N : Mm) (T : Tp) : Prop := T.1 ≤ 500 ∧ gI N 3 1 = nI T.1 ∧ ∀ k, k < T.1 → T.2 k < 256 ∧ gI N 4 k = byI (T.2 k)
def Sc (r k : Nat) : Prop := r = 3 ∧ 2 ≤ k
theorem TPC_sc {M N : Mm} {T : Tp} (hT : TPC M T) (h : Sm Sc NoL M N) : TPC N T :=
  ⟨hT.1, by rw [h.2.2.1 _ _ (by unfold Sc; omega)]; exact hT.2.1, fun k hk => by rw [h.2.2.1 _ _ (by unfold Sc; omega)]; exact hT.2.2 k hk⟩
/-- the piece that stands here, as the class has it -/
def TkC (N : Mm) (T : Tp) (p : Nat) : Prop := gI N 3 2 = nI (tkS T p) ∧ gI N 3 4 = nI (tkK T p) ∧ gI N 3 5 = nI (tkE T p - tkS T p) ∧ (tkK T p = 2 → gI N 3 3 = nI (tkN T p))
theorem c_skip {d : Nat} {M : Mm} {T : Tp} (hG : Gd M) (hT : TPC M T) : ∀ (m q : Nat) (N : Mm), q + m = T.1 → Sm Sc NoL M N → gI N 3 2 = nI q → ∃ N', go (d + 2) 105 13 [.ref 3, .null, .null] [] N = go (d + 2) 105 93 [.ref 3, .null, .null] [.int (nI (tkK0 T q)), .ref 3] N' ∧ Sm Sc NoL M N' ∧ gI N' 3 2 = nI (tkS T q)
  | 0, q, N, hq, hS, h2 => by
    have hGN := Gd_Sm hS hG
    obtain ⟨t1, t2, t3⟩ := TPC_sc hT hS
    have o := ok_3 hGN
    have e : tkS T q = q := tkS_end (by omega)
    refine ⟨N, ?_, hS, by rw [e]; exact h2⟩
    rw [q105_13, if_pos o, if_pos o, t2, h2, if_pos (by rw [nI_leI (by omega) (by omega)]; omega), if_pos o, if_pos o, if_pos (by rw [nI_leI (by omega) (by omega)]; omega)]
    unfold tkK0
    rw [e, if_neg (by omega)]; rfl
  | m + 1, q, N, hq, hS, h2 => by
    have hGN := Gd_Sm hS hG
    obtain ⟨t1, t2, t3⟩ := TPC_sc hT hS
    have o := ok_3 hGN
    obtain ⟨v1, v2⟩ := t3 q (by omega)
    have nle : ¬ nI T.1 ≤ nI q := by rw [nI_leI (by omega) (by omega)]; omega
    have e32 : byI (T.2 q) = (32 : Int32) ↔ T.2 q = 32 := byI_eq _ v1 32 (by omega)
    have e10 : byI (T.2 q) = (10 : Int32) ↔ T.2 q = 10 := byI_eq _ v1 10 (by omega)
    have hd : go (d + 2) 105 13 [.ref 3, .null, .null] [] N = if T.2 q = 32 then go (d + 2) 105 13 [.ref 3, .null, .null] [] (sI N 3 2 (nI (q + 1))) else if T.2 q = 10 then go (d + 2) 105 13 [.ref 3, .null, .null] [] (sI N 3 2 (nI (q + 1))) else go (d + 2) 105 93 [.ref 3, .null, .null] [.int (nI (soB (T.2 q))), .ref 3] N := by
      rw [q105_13]
      simp only [o, if_true, t2, h2, nle, if_false, gr_3_0 hGN, rk_4 hGN (show q < 500 by omega), nI_clamp (show q < 2 ^ 31 by omega), v2, bM_d, nI_1, c_sort v1, bI_s, e32, e10]
    have S1 : Sm Sc NoL M (sI N 3 2 (nI (q + 1))) := Sm_trans hS (Sm_sI (by unfold Sc; omega))
    by_cases hw : wsB (T.2 q) = true
    · obtain ⟨N', r1, r2, r3⟩ := c_skip hG hT m (q + 1) (sI N 3 2 (nI (q + 1))) (by omega) S1 gI_at
      have e1 := tkS_ws (T := T) (p := q) (by omega) hw
      have e2 : tkK0 T q = tkK0 T (q + 1) := by unfold tkK0; rw [e1]
      refine ⟨N', ?_, r2, by rw [e1]; exact r3⟩
      rw [hd, e2, ← r1]
      unfold wsB at hw
      simp only [Bool.or_eq_true, decide_eq_true_eq] at hw
      by_cases z : T.2 q = 32
      · rw [if_pos z]
      · rw [if_neg z, if_pos (by omega)]
    · have hw' : wsB (T.2 q) = false := by simpa using hw
      have e1 := tkS_no (T := T) (p := q) hw'
      refine ⟨N, ?_, hS, by rw [e1]; exact h2⟩
      unfold wsB at hw'
      simp only [Bool.or_eq_false_iff, decide_eq_false_iff_not] at hw'
      rw [hd, if_neg hw'.1, if_neg hw'.2]
      unfold tkK0
      rw [e1, if_pos (by omega)]
theorem c_figs {d : Nat} {M N : Mm} {T : Tp} {s c : Nat} (hG : Gd M) (hT : TPC M T) (hS : Sm Sc NoL M N) (h2 : gI N 3 2 = nI s) (h5 : gI N 3 5 = nI c) (hsc : s + c ≤ T.1) (hd : ∀ i, i < c → soB (T.2 (s + i)) = 2) (hc3 : c ≤ 3) : ∃ N', go (d + 1) 106 21 [.ref 3, .int (0 : Int32)] [] (sI N 3 3 0) = some (none, N') ∧ Sm (fun r k => r = 3 ∧ k = 3) NoL N N' ∧ gI N' 3 3 = nI (nuF T s c) := by
  rw [show (0 : Int32) = nI 0 from rfl]
  obtain ⟨N', s1, s2, s3⟩ := loopI (σ := Mm) (fun i N' => go (d + 1) 106 21 [.ref 3, .int (nI i)] [] N') (fun i N' => Sm (fun r k => r = 3 ∧ k = 3) NoL N N' ∧ gI N' 3 3 = nI (nuF T s i)) c (fun i N' hi hN => by
    obtain ⟨hS', h3⟩ := hN
    have hGN := Gd_Sm hS' (Gd_Sm hS hG)
    have o := ok_3 hGN
    obtain ⟨t1, t2, t3⟩ := TPC_sc hT (Sm_trans hS (Sm_mono (fun r k z => by unfold Sc; omega) (fun r z => z) hS'))
    obtain ⟨v1, v2⟩ := t3 (s + i) (by omega)
    have e2 : gI N' 3 2 = nI s := (hS'.2.2.1 _ _ (by show ¬ _; omega)).trans h2
    have e5 : gI N' 3 5 = nI c := (hS'.2.2.1 _ _ (by show ¬ _; omega)).trans h5
    have hr : 48 ≤ T.2 (s + i) ∧ T.2 (s + i) ≤ 57 := by
      have := hd i hi
      unfold soB at this
      split at this
      · omega
      · split at this
        · assumption
        · split at this <;> omega
    refine ⟨sI N' 3 3 (nI (nuF T s (i + 1))), ?_, Sm_trans hS' (Sm_sI ⟨rfl, rfl⟩), gI_at⟩
    try dsimp only
    rw [q106_21, if_pos o, e5, if_neg (by rw [nI_leI (by omega) (by omega)]; omega), if_pos o, if_pos o, if_pos o, e2, nI_add, gr_3_0 hGN, if_pos (rk_4 hGN (by omega)), if_pos o, bM_d, nI_clamp (by omega), v2, byI_dig _ v1 hr.1 hr.2, h3, show (10 : Int32) = nI 10 from rfl, pk_mul, nI_add, show (48 : Int32) = nI 48 from rfl, pk_sub (by omega), nI_1]
    rfl) c 0 (sI N 3 3 (nI 0)) (by omega) ⟨Sm_sI ⟨rfl, rfl⟩, gI_at⟩
  try dsimp only at s1
  have hGN := Gd_Sm s2 (Gd_Sm hS hG)
  have e5 : gI N' 3 5 = nI c := (s2.2.2.1 _ _ (by show ¬ _; omega)).trans h5
  refine ⟨N', ?_, s2, s3⟩
  rw [s1, q106_21, if_pos (ok_3 hGN), e5, if_pos (by rw [nI_leI (by omega) (by omega)]; omega)]
/-- the end of a scan: the piece's end is known -/
theorem c_scanE {d : Nat} {M N : Mm} {T : Tp} {p : Nat} (hG : Gd M) (hT : TPC M T) (hp : p ≤ T.1) (hS : Sm Sc NoL M N) (h2 : gI N 3 2 = nI (tkS T p)) (h4 : gI N 3 4 = nI (tkK0 T p)) : ∃ N', (if okO N 3 10 = true then if okO N 3 10 = true then bM (sI N 3 5 (nI (tkE T p) - (gI N 3 2))) fun M1 => if okO M1 3 10 = true then if (gI M1 3 4) = (2 : Int32) then if okO M1 3 10 = true then bV (go (d + 1) 106 0 [.ref 3, .null] [] M1) fun M2 => some (none, M2) else none else some (none, M1) else none else none else none) = some (none, N') ∧ Sm Sc NoL M N' ∧ TkC N' T p := by
  have hGN := Gd_Sm hS hG
  have o := ok_3 hGN
  have hb := tkE_b T hp
  have hs := tkS_b T hp
  have hk := tkK0_r T p
  have hn5 := hT.1
  have S1 : Sm Sc NoL M (sI N 3 5 (nI (tkE T p - tkS T p))) := Sm_trans hS (Sm_sI (by unfold Sc; omega))
  have hG1 : Gd (sI N 3 5 (nI (tkE T p - tkS T p))) := hGN
  have g4 : gI (sI N 3 5 (nI (tkE T p - tkS T p))) 3 4 = nI (tkK0 T p) := (gI_ne (by omega)).trans h4
  have g2 : gI (sI N 3 5 (nI (tkE T p - tkS T p))) 3 2 = nI (tkS T p) := (gI_ne (by omega)).trans h2
  have e2 : nI (tkK0 T p) = (2 : Int32) ↔ tkK0 T p = 2 := nI_eq (a := tkK0 T p) (b := 2) (by omega) (by omega)
  rw [if_pos o, if_pos o, h2, pk_sub hb.1, bM_d, if_pos (ok_3 hG1), g4]
  simp only [e2]
  by_cases k2 : tkK0 T p = 2
  · rw [if_pos k2, if_pos (ok_3 hG1), q106_0, if_pos (ok_3 hG1), gI_at]
    by_cases h3 : tkE T p - tkS T p ≤ 3
    · have hdig : ∀ i, i < tkE T p - tkS T p → soB (T.2 (tkS T p + i)) = 2 := fun i hi => by
        by_cases e : i = 0
        · subst e
          unfold tkK0 at k2
          by_cases z : tkS T p < T.1
          · rw [if_pos z] at k2; exact k2
          · rw [if_neg z] at k2; omega
        · have he : tkE T p = ruE T 2 (tkS T p + 1) := by
            unfold tkE; rw [if_neg (by omega), if_pos (Or.inr k2), k2]
          rw [he] at hi
          exact ruF_all T 2 (T.1 - (tkS T p + 1)) (tkS T p + 1) (tkS T p + i) (by omega) (by unfold ruE at hi; omega)
      obtain ⟨N', a1, a2, a3⟩ := c_figs (d := d) hG hT S1 g2 gI_at (by omega) hdig h3
      refine ⟨N', ?_, Sm_trans S1 (Sm_mono (fun r k z => by unfold Sc; omega) (fun r z => z) a2), ?_, ?_, ?_, fun _ => a3⟩
      · rw [if_pos (by rw [show (3 : Int32) = nI 3 from rfl, nI_leI (by omega) (by omega)]; exact h3), if_pos (ok_3 hG1), bM_d, a1, bV_s]
      · rw [a2.2.2.1 _ _ (by show ¬ _; omega)]; exact g2
      · rw [a2.2.2.1 _ _ (by show ¬ _; omega), g4]
        unfold tkK; rw [if_neg (by omega)]
      · rw [a2.2.2.1 _ _ (by show ¬ _; omega), gI_at]
    · refine ⟨sI (sI N 3 5 (nI (tkE T p - tkS T p))) 3 4 4, ?_, Sm_trans S1 (Sm_sI (by unfold Sc; omega)), ?_, ?_, ?_, fun z => ?_⟩
      · rw [if_neg (by rw [show (3 : Int32) = nI 3 from rfl, nI_leI (by omega) (by omega)]; exact h3), if_pos (ok_3 hG1), bM_d, bV_s]
      · rw [gI_ne (by omega)]; exact g2
      · rw [gI_at]; unfold tkK; rw [if_pos (by omega)]; rfl
      · rw [gI_ne (by omega), gI_at]
      · unfold tkK at z; rw [if_pos (by omega)] at z; omega
  · refine ⟨sI N 3 5 (nI (tkE T p - tkS T p)), by rw [if_neg k2], S1, g2, ?_, gI_at, fun z => ?_⟩
    · rw [g4]; unfold tkK; rw [if_neg (by omega)]
    · unfold tkK at z
      rw [if_neg (by omega)] at z
      exact absurd z k2
theorem c_run {d : Nat} {M N : Mm} {T : Tp} {p : Nat} (hG : Gd M) (hT : TPC M T) (hp : p ≤ T.1) (hS : Sm Sc NoL M N) (h2 : gI N 3 2 = nI (tkS T p)) (h4 : gI N 3 4 = nI (tkK0 T p)) : ∀ (m q : Nat), q + m = T.1 → tkE T p = ruE T (tkK0 T p) q → ∃ N', go (d + 2) 105 139 [.ref 3, .int (nI q), .int (1 : Int32)] [] N = some (none, N') ∧ Sm Sc NoL M N' ∧ TkC N' T p
  | 0, q, hq, he => by
    have hGN := Gd_Sm hS hG
    have o := ok_3 hGN
    obtain ⟨t1, t2, t3⟩ := TPC_sc hT hS
    obtain ⟨N', a1, a2, a3⟩ := c_scanE (d := d) hG hT hp hS h2 h4
    rw [ruE_end (by omega)] at he
    refine ⟨N', ?_, a2, a3⟩
    rw [q105_139, if_neg (by decide), if_pos o, t2, if_pos (by rw [nI_leI (by omega) (by omega)]; omega), ← he]
    exact a1
  | m + 1, q, hq, he => by
    have hGN := Gd_Sm hS hG
    have o := ok_3 hGN
    have hk := tkK0_r T p
    obtain ⟨t1, t2, t3⟩ := TPC_sc hT hS
    obtain ⟨v1, v2⟩ := t3 q (by omega)
    have hsr := soB_r (T.2 q)
    have ee : nI (soB (T.2 q)) = nI (tkK0 T p) ↔ soB (T.2 q) = tkK0 T p := nI_eq (by omega) (by omega)
    have hd : go (d + 2) 105 139 [.ref 3, .int (nI q), .int (1 : Int32)] [] N = if soB (T.2 q) = tkK0 T p then go (d + 2) 105 139 [.ref 3, .int (nI (q + 1)), .int (1 : Int32)] [] N else (if okO N 3 10 = true then if okO N 3 10 = true then bM (sI N 3 5 (nI q - (gI N 3 2))) fun M1 => if okO M1 3 10 = true then if (gI M1 3 4) = (2 : Int32) then if okO M1 3 10 = true then bV (go (d + 1) 106 0 [.ref 3, .null] [] M1) fun M2 => some (none, M2) else none else some (none, M1) else none else none else none) := by
      rw [q105_139, if_neg (by decide), if_pos o, t2, if_neg (by rw [nI_leI (by omega) (by omega)]; omega), if_pos o, gr_3_0 hGN, if_pos (rk_4 hGN (by omega)), nI_clamp (by omega), v2, c_sort v1, bI_s, if_pos o, h4, nI_1]
      simp only [ee]
    by_cases hc : soB (T.2 q) = tkK0 T p
    · obtain ⟨N', r1, r2, r3⟩ := c_run hG hT hp hS h2 h4 m (q + 1) (by omega) (by rw [he, ruE_go (by omega) hc])
      exact ⟨N', by rw [hd, if_pos hc]; exact r1, r2, r3⟩
    · obtain ⟨N', a1, a2, a3⟩ := c_scanE (d := d) hG hT hp hS h2 h4
      rw [ruE_no hc] at he
      refine ⟨N', ?_, a2, a3⟩
      rw [hd, if_neg hc, ← he]
      exact a1
theorem c_scan {d : Nat} {M : Mm} {T : Tp} {p : Nat} (hG : Gd M) (hT : TPC M T) (hp : p ≤ T.1) (h : gI M 3 2 + gI M 3 5 = nI p) : ∃ N, go (d + 2) 105 0 [.ref 3, .null, .null] [] M = some (none, N) ∧ Sm Sc NoL M N ∧ TkC N T p := by
  have o := ok_3 hG
  have hs := tkS_b T hp
  have hk := tkK0_r T p
  obtain ⟨N1, a1, a2, a3⟩ := c_skip (d := d) hG hT (T.1 - p) p (sI M 3 2 (nI p)) (by omega) (Sm_sI (by unfold Sc; omega)) gI_at
  have hG1 := Gd_Sm a2 hG
  have S2 : Sm Sc NoL M (sI N1 3 4 (nI (tkK0 T p))) := Sm_trans a2 (Sm_sI (by unfold Sc; omega))
  have hG2 : Gd (sI N1 3 4 (nI (tkK0 T p))) := hG1
  have g2 : gI (sI N1 3 4 (nI (tkK0 T p))) 3 2 = nI (tkS T p) := (gI_ne (by omega)).trans a3
  have o2 := ok_3 hG2
  have st : go (d + 2) 105 0 [.ref 3, .null, .null] [] M = go (d + 2) 105 93 [.ref 3, .null, .null] [.int (nI (tkK0 T p)), .ref 3] N1 := by
    rw [q105_0, if_pos o, if_pos o, if_pos o, h, bM_d]; exact a1
  rw [st, q105_93, if_pos (ok_3 hG1), bM_d, if_pos o2, gI_at]
  rcases (show tkK0 T p = 0 ∨ tkK0 T p = 1 ∨ tkK0 T p = 2 ∨ tkK0 T p = 3 ∨ tkK0 T p = 4 by omega) with e | e | e | e | e
  · obtain ⟨N', b1, b2, b3⟩ := c_scanE (d := d) hG hT hp S2 g2 gI_at
    refine ⟨N', ?_, b2, b3⟩
    have he : tkE T p = tkS T p := by unfold tkE; rw [if_pos e]
    rw [he] at b1
    rw [if_pos (by rw [e]; rfl), if_pos o2, if_pos o2, if_neg (by rw [e]; decide), if_pos o2, if_neg (by rw [e]; decide), g2, q105_139, if_pos rfl]
    exact b1
  · obtain ⟨N', b1, b2, b3⟩ := c_run (d := d) hG hT hp S2 g2 gI_at (T.1 - (tkS T p + 1)) (tkS T p + 1) (by
        have : tkS T p < T.1 := by
          unfold tkK0 at e
          by_cases z : tkS T p < T.1
          · exact z
          · rw [if_neg z] at e; omega
        omega) (by unfold tkE; rw [if_neg (by omega), if_pos (by omega)])
    refine ⟨N', ?_, b2, b3⟩
    rw [if_neg (by rw [e]; decide), if_pos o2, if_pos o2, if_pos (by rw [e]; rfl), g2, nI_1]
    exact b1
  · obtain ⟨N', b1, b2, b3⟩ := c_run (d := d) hG hT hp S2 g2 gI_at (T.1 - (tkS T p + 1)) (tkS T p + 1) (by
        have : tkS T p < T.1 := by
          unfold tkK0 at e
          by_cases z : tkS T p < T.1
          · exact z
          · rw [if_neg z] at e; omega
        omega) (by unfold tkE; rw [if_neg (by omega), if_pos (by omega)])
    refine ⟨N', ?_, b2, b3⟩
    rw [if_neg (by rw [e]; decide), if_pos o2, if_pos o2, if_neg (by rw [e]; decide), if_pos o2, if_pos (by rw [e]; rfl), g2, nI_1]
    exact b1
  · obtain ⟨N', b1, b2, b3⟩ := c_scanE (d := d) hG hT hp S2 g2 gI_at
    refine ⟨N', ?_, b2, b3⟩
    have he : tkE T p = tkS T p + 1 := by unfold tkE; rw [if_neg (by omega), if_neg (by omega)]
    rw [he] at b1
    rw [if_neg (by rw [e]; decide), if_pos o2, if_pos o2, if_neg (by rw [e]; decide), if_pos o2, if_neg (by rw [e]; decide), g2, nI_1, q105_139, if_pos rfl]
    rw [g2] at b1 ⊢
    exact b1
  · obtain ⟨N', b1, b2, b3⟩ := c_scanE (d := d) hG hT hp S2 g2 gI_at
    refine ⟨N', ?_, b2, b3⟩
    have he : tkE T p = tkS T p + 1 := by unfold tkE; rw [if_neg (by omega), if_neg (by omega)]
    rw [he] at b1
    rw [if_neg (by rw [e]; decide), if_pos o2, if_pos o2, if_neg (by rw [e]; decide), if_pos o2, if_neg (by rw [e]; decide), g2, nI_1, q105_139, if_pos rfl]
    rw [g2] at b1 ⊢
    exact b1
/-- the next piece -/
theorem c_next {d : Nat} {M : Mm} {T : Tp} {p : Nat} (hG : Gd M) (hT : TPC M T) (hp : p ≤ T.1) (h : TkC M T p) : ∃ N, go (d + 2) 105 0 [.ref 3, .null, .null] [] M = some (none, N) ∧ Sm Sc NoL M N ∧ TkC N T (tkE T p) := by
  have hb := tkE_b T hp
  exact c_scan hG hT hb.2.1 (by rw [h.1, h.2.2.1, nI_add, show tkS T p + (tkE T p - tkS T p) = tkE T p by omega])
