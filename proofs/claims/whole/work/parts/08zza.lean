/-! ===== what is read keeps the book's bounds ===== -/
def LB (so ac fi se mk fr bu en : Nat) : Prop := so < 3 ∧ ac < 4 ∧ fi < 4 ∧ (ac < 2 → se ≤ 99) ∧ (2 ≤ ac → se < 4) ∧ mk ≤ 12 ∧ fr ≤ 9 ∧ (so = 2 → 1 ≤ bu ∧ bu ≤ 8) ∧ (so ≠ 2 → bu = 0) ∧ en ≤ 10
def WB (B : Bk) : Prop := PB B ∧ (∀ j, j < nmB B → B.1 1 j ≤ j ∧ B.1 2 j < 3) ∧ ∀ i, i < nnB B → LB (B.1 3 i) (B.1 4 i) (B.1 5 i) (B.1 6 i) (B.1 7 i) (B.1 8 i) (B.1 9 i) (B.1 10 i)
def GR (B B' : Bk) : Prop := nmB B ≤ nmB B' ∧ nlB B ≤ nlB B' ∧ nnB B ≤ nnB B' ∧ vrB B' = vrB B
theorem GR_refl (B : Bk) : GR B B := ⟨Nat.le_refl _, Nat.le_refl _, Nat.le_refl _, rfl⟩
theorem GR_trans {A B C : Bk} (h : GR A B) (g : GR B C) : GR A C := ⟨Nat.le_trans h.1 g.1, Nat.le_trans h.2.1 g.2.1, Nat.le_trans h.2.2.1 g.2.2.1, g.2.2.2.trans h.2.2.2⟩
theorem rbn_i {α β : Type} {r : Sum (Nat × Nat) α} {f : α → Sum (Nat × Nat) β} {b : β} (h : rbn r f = .inr b) : ∃ a, r = .inr a ∧ f a = .inr b := by
  cases r with
  | inl e => cases h
  | inr a => exact ⟨a, rfl, h⟩
theorem le_tkE {T : Tp} {p : Nat} (hp : p ≤ T.1) : p ≤ tkE T p := by
  have h1 := tkS_b T hp
  have h2 := tkE_b T hp
  omega
theorem mk_ok {T : Tp} {B B' : Bk} {q p' : Nat} (hW : WB B) (hq : q ≤ T.1) (hnm : nmB B < 10) (h : mk2 T B q = .inr (p', B')) : q ≤ p' ∧ p' ≤ T.1 ∧ WB B' ∧ GR B B' := by
  obtain ⟨pa, h1, h2⟩ := rbn_i h
  obtain ⟨wy, h3, h4⟩ := rbn_i h2
  cases h4
  have hwy := (cho_b h3 (by omega) (by omega) (by omega)).1
  have hpa : pa ≤ nmB B := by
    split at h1
    · cases h1; omega
    · obtain ⟨n, h5, h6⟩ := rbn_i h1
      cases h6
      have := (num_b h5).1
      omega
  obtain ⟨⟨w1, w2, w3, w4⟩, w5, w6⟩ := hW
  refine ⟨Nat.le_trans (le_tkE hq) (le_tkE (tkE_le hq)), tkE_le (tkE_le hq), ⟨⟨?_, w2, w3, w4⟩, fun j hj => ?_, fun i hi => ?_⟩, ?_, Nat.le_refl _, Nat.le_refl _, rfl⟩
  · show nmB B + 1 ≤ 10
    omega
  · rw [mkB_1, mkB_2]
    have hj' : j < nmB B + 1 := hj
    by_cases e : j = nmB B
    · rw [if_pos e, if_pos e]; omega
    · rw [if_neg e, if_neg e]; exact w5 j (by omega)
  · rw [mkB_x _ _ _ _ _ (by omega), mkB_x _ _ _ _ _ (by omega), mkB_x _ _ _ _ _ (by omega), mkB_x _ _ _ _ _ (by omega), mkB_x _ _ _ _ _ (by omega), mkB_x _ _ _ _ _ (by omega), mkB_x _ _ _ _ _ (by omega), mkB_x _ _ _ _ _ (by omega)]
    exact w6 i hi
  · show nmB B ≤ nmB B + 1
    omega
theorem lw_ok {T : Tp} {B B' : Bk} {q p' : Nat} (hW : WB B) (hq : q ≤ T.1) (hnl : nlB B < 8) (h : lw2 T B q = .inr (p', B')) : q ≤ p' ∧ p' ≤ T.1 ∧ WB B' ∧ GR B B' := by
  obtain ⟨⟨p1, k1, c⟩, h1, h2⟩ := rbn_i h
  cases h2
  obtain ⟨⟨w1, w2, w3, w4⟩, w5, w6⟩ := hW
  have hok := sa_ok (T := T) w1 5 q 0 hq (by omega)
  rw [h1] at hok
  obtain ⟨s1, s2, -⟩ := hok
  refine ⟨Nat.le_of_lt s1, s2, ⟨⟨w1, ?_, w3, w4⟩, fun j hj => ?_, fun i hi => ?_⟩, Nat.le_refl _, ?_, Nat.le_refl _, rfl⟩
  · show nlB B + 1 ≤ 8
    omega
  · rw [lwB_x _ _ _ _ (by omega), lwB_x _ _ _ _ (by omega)]; exact w5 j hj
  · rw [lwB_x _ _ _ _ (by omega), lwB_x _ _ _ _ (by omega), lwB_x _ _ _ _ (by omega), lwB_x _ _ _ _ (by omega), lwB_x _ _ _ _ (by omega), lwB_x _ _ _ _ (by omega), lwB_x _ _ _ _ (by omega), lwB_x _ _ _ _ (by omega)]; exact w6 i hi
  · show nlB B ≤ nlB B + 1
    omega
theorem sr_ok {T : Tp} {q : Nat} {a : Nat × Nat × Nat} (hq : q ≤ T.1) (h : srF T q = .inr a) : q ≤ a.2.2 ∧ a.2.2 ≤ T.1 ∧ a.1 < 3 ∧ (a.1 = 2 → 1 ≤ a.2.1 ∧ a.2.1 ≤ 8) ∧ (a.1 ≠ 2 → a.2.1 = 0) := by
  obtain ⟨so, h1, h2⟩ := rbn_i h
  have hso := (cho_b h1 (by omega) (by omega) (by omega)).1
  split at h2
  · rename_i e
    obtain ⟨n, h3, h4⟩ := rbn_i h2
    cases h4
    have := (num_b h3).1
    exact ⟨Nat.le_trans (le_tkE hq) (le_tkE (tkE_le hq)), tkE_le (tkE_le hq), hso, fun _ => ⟨by simp, by simp only; omega⟩, fun z => absurd e z⟩
  · rename_i e
    cases h2
    exact ⟨le_tkE hq, tkE_le hq, hso, fun z => absurd z e, fun _ => rfl⟩
theorem ac_ok {T : Tp} {q : Nat} {b : Nat × Nat × Nat × Nat} (hq : q ≤ T.1) (h : acF T q = .inr b) : q ≤ b.2.2.2 ∧ b.2.2.2 ≤ T.1 ∧ b.1 < 4 ∧ b.2.1 < 4 ∧ (b.1 < 2 → b.2.2.1 ≤ 99) ∧ (2 ≤ b.1 → b.2.2.1 < 4) := by
  obtain ⟨ac, h1, h2⟩ := rbn_i h
  obtain ⟨fi, h3, h4⟩ := rbn_i h2
  obtain ⟨se, h5, h6⟩ := rbn_i h4
  cases h6
  have hac : ac < 4 := by
    unfold acW at h1
    split at h1
    · cases h1; omega
    · have := (cho_b h1 (by omega) (by omega) (by omega)).1
      omega
  have h7 := (num_b h3).1
  have h8 := (num_b h5).1
  refine ⟨Nat.le_trans (le_tkE hq) (Nat.le_trans (le_tkE (tkE_le hq)) (le_tkE (tkE_le (tkE_le hq)))), tkE_le (tkE_le (tkE_le hq)), hac, h7, fun z => ?_, fun z => ?_⟩
  · have z' : ac < 2 := z
    rw [if_pos z'] at h8
    show se ≤ 99
    omega
  · have z' : 2 ≤ ac := z
    rw [if_neg (by omega)] at h8
    exact h8
theorem if_ok {T : Tp} {mk q : Nat} {c : Nat × (Nat → Bool) × Nat} (hq : q ≤ T.1) (hmk : mk ≤ 10) (h : ifF T mk q = .inr c) : q ≤ c.2.2 ∧ c.2.2 ≤ T.1 ∧ c.1 ≤ 12 := by
  unfold ifF at h
  split at h
  · obtain ⟨⟨p1, k1, cc⟩, h1, h2⟩ := rbn_i h
    cases h2
    have hok := sa_ok (T := T) hmk 5 (tkE T q) 0 (tkE_le hq) (by omega)
    rw [h1] at hok
    obtain ⟨s1, s2, s3, s4, -⟩ := hok
    have := le_tkE hq
    exact ⟨by simp only; omega, s2, s4⟩
  · cases h
    exact ⟨Nat.le_refl _, hq, by simp⟩
theorem ln_ok {T : Tp} {B B' : Bk} {q p' : Nat} (hW : WB B) (hq : q ≤ T.1) (hnn : nnB B < 24) (h : ln2 T B q = .inr (p', B')) : q ≤ p' ∧ p' ≤ T.1 ∧ WB B' ∧ GR B B' := by
  obtain ⟨a, h1, h2⟩ := rbn_i h
  obtain ⟨b, h3, h4⟩ := rbn_i h2
  obtain ⟨c, h5, h6⟩ := rbn_i h4
  cases h6
  obtain ⟨⟨w1, w2, w3, w4⟩, w5, w6⟩ := hW
  obtain ⟨s1, s2, s3, s4, s5⟩ := sr_ok hq h1
  obtain ⟨t1, t2, t3, t4, t5, t6⟩ := ac_ok s2 h3
  obtain ⟨u1, u2, u3⟩ := if_ok t2 w1 h5
  refine ⟨by omega, u2, ⟨⟨w1, w2, ?_, w4⟩, fun j hj => ?_, fun i hi => ?_⟩, Nat.le_refl _, Nat.le_refl _, ?_, rfl⟩
  · show nnB B + 1 ≤ 24
    omega
  · rw [lnB_l _ _ _ _ _ (by omega) (by omega), lnB_l _ _ _ _ _ (by omega) (by omega)]; exact w5 j hj
  · have hi' : i < nnB B + 1 := hi
    rw [lnB_x _ _ _ _ _ (by omega) (by omega), lnB_x _ _ _ _ _ (by omega) (by omega), lnB_x _ _ _ _ _ (by omega) (by omega), lnB_x _ _ _ _ _ (by omega) (by omega), lnB_x _ _ _ _ _ (by omega) (by omega), lnB_x _ _ _ _ _ (by omega) (by omega), lnB_x _ _ _ _ _ (by omega) (by omega), lnB_x _ _ _ _ _ (by omega) (by omega)]
    by_cases e : i = nnB B
    · simp only [if_pos e]
      exact ⟨s3, t3, t4, t5, t6, u3, w4, s4, s5, Nat.zero_le 10⟩
    · simp only [if_neg e]
      exact w6 i (by omega)
  · show nnB B ≤ nnB B + 1
    omega
theorem fin_ok {T : Tp} {r : Rb} {p p' : Nat} {B B' : Bk} (h : fin2 T r = .inr (p', B')) (hr : ∀ p1 B1, r = .inr (p1, B1) → p ≤ p1 ∧ p1 ≤ T.1 ∧ WB B1 ∧ GR B B1) : p < p' ∧ p' ≤ T.1 ∧ WB B' ∧ GR B B' := by
  obtain ⟨⟨p1, B1⟩, h1, h2⟩ := rbn_i h
  obtain ⟨p2, h3, h4⟩ := rbn_i h2
  cases h4
  obtain ⟨r1, r2, r3, r4⟩ := hr _ _ h1
  obtain ⟨z1, z2⟩ := sem_b h3 r2
  exact ⟨by simp only at z1; omega, z2, r3, r4⟩
theorem st_ok {T : Tp} {B B' : Bk} {p p' : Nat} (hW : WB B) (hp : p ≤ T.1) (h : stF T B p = .inr (p', B')) : p < p' ∧ p' ≤ T.1 ∧ WB B' ∧ GR B B' := by
  have e := le_tkE hp
  unfold stF at h
  split at h
  · by_cases hn : 10 ≤ nmB B
    · unfold mkF at h; rw [if_pos hn] at h; cases h
    · rw [mk_2 hn] at h
      exact fin_ok h (fun p1 B1 z => by obtain ⟨a1, a2⟩ := mk_ok hW (tkE_le hp) (by omega) z; exact ⟨by omega, a2⟩)
  · split at h
    · by_cases hn : 8 ≤ nlB B
      · unfold lwF at h; rw [if_pos hn] at h; cases h
      · rw [lw_2 hn] at h
        exact fin_ok h (fun p1 B1 z => by obtain ⟨a1, a2⟩ := lw_ok hW (tkE_le hp) (by omega) z; exact ⟨by omega, a2⟩)
    · split at h
      · by_cases hn : 24 ≤ nnB B
        · unfold lnF at h; rw [if_pos hn] at h; cases h
        · rw [ln_2 hn] at h
          exact fin_ok h (fun p1 B1 z => by obtain ⟨a1, a2⟩ := ln_ok hW (tkE_le hp) (by omega) z; exact ⟨by omega, a2⟩)
      · cases h
/-! ===== the model reads a statement ===== -/
theorem m234 {d : Nat} {M : Mm} {T : Tp} {B : Bk} {r : Rb} {w1 : Int64} (hG : Gd M) (hT : TPM M T) (h : MR T M r) (hr : ∀ p1 B1, r = .inr (p1, B1) → p1 ≤ T.1 ∧ PB B1) : ∃ N, go (d + 4) 181 234 [.ref 171, .long w1, .null] [] M = go (d + 4) 181 56 [.ref 171, .long w1, .null] [] N ∧ Sm Se NoL M N ∧ MR T N (fin2 T r) := by
  have o := ok_171 hG
  cases r with
  | inl e =>
    obtain ⟨f, pl⟩ := e
    exact ⟨M, by rw [q181_234, if_pos o, if_neg (FtM_n h)], Sm_refl, h⟩
  | inr x =>
    obtain ⟨p1, B1⟩ := x
    obtain ⟨hp, hP⟩ := hr _ _ rfl
    obtain ⟨h1, h2, h3⟩ := h
    have i := m_is (d := d + 1) (ch := 59) hG hT hp h1 (by omega)
    have i' : go (d + 3) 169 0 [.ref 171, .int (59 : Int32)] [] M = some (some (.int (b2i (tkG T p1 59))), M) := i
    show ∃ N, _ ∧ _ ∧ MR T N (rbn (semF T p1) fun p' => .inr (p', B1))
    unfold semF
    cases hg : tkG T p1 59 with
    | true =>
      rw [hg] at i'
      obtain ⟨N, a1, a2, a3, a4⟩ := m_must1 (d := d) hG hT hp h1 h2
      refine ⟨N, ?_, Sm_de a2, a3, a4, NM_d h3 a2 hP⟩
      have a1' : go (d + 3) 168 0 [.ref 171, .int (b2i true)] [] M = some (none, N) := a1
      rw [q181_234, if_pos o, if_pos h2, if_pos o, i', bI_s, if_pos o, a1', bV_s]
    | false =>
      rw [hg] at i'
      obtain ⟨N, a1, a2, a3⟩ := m_must0 (d := d) hG hp hT.1 h1 h2
      refine ⟨N, ?_, a2, a3⟩
      have a1' : go (d + 3) 168 0 [.ref 171, .int (b2i false)] [] M = some (none, N) := a1
      rw [q181_234, if_pos o, if_pos h2, if_pos o, i', bI_s, if_pos o, a1', bV_s]
/-- a fault before the step: nothing more is read -/
theorem m162F {d f pl : Nat} {M : Mm} {w1 : Int64} {b : Bool} (hG : Gd M) (h : FtM M f pl) : go (d + 4) 181 162 [.ref 171, .long w1, .null] [.int (b2i b), .ref 171] M = go (d + 4) 181 56 [.ref 171, .long w1, .null] [] M := by
  have o := ok_171 hG
  have n := FtM_n h
  rw [q181_162, if_pos o, m_mustF hG n, bV_s, if_pos o, if_neg n, if_pos o, if_neg n, if_pos o, if_neg n, q181_234, if_pos o, if_neg n]
theorem m132 {d : Nat} {M : Mm} {T : Tp} {p : Nat} (hp : p ≤ T.1) : ∃ b : Bool, (b = true ↔ (tkW T p = tx 0 ∨ tkW T p = tx 5 ∨ tkW T p = tx 9)) ∧ go (d + 1) 181 132 [.ref 171, .long (wvL (tkW T p)), .null] [] M = go (d + 1) 181 162 [.ref 171, .long (wvL (tkW T p)), .null] [.int (b2i b), .ref 171] M := by
  have e0 := wv_is (T := T) (p := p) (i := 0) (c := 1835102827) hp (by omega) rfl
  have e5 := wv_is (T := T) (p := p) (i := 5) (c := 7102839) hp (by omega) rfl
  have e9 := wv_is (T := T) (p := p) (i := 9) (c := 1818848869) hp (by omega) rfl
  rw [q181_132]
  by_cases h0 : tkW T p = tx 0
  · exact ⟨true, by simp [h0], by rw [if_pos (e0.mpr h0)]; rfl⟩
  · rw [if_neg (fun z => h0 (e0.mp z))]
    by_cases h5 : tkW T p = tx 5
    · exact ⟨true, by simp [h5], by rw [if_pos (e5.mpr h5)]; rfl⟩
    · rw [if_neg (fun z => h5 (e5.mp z))]
      by_cases h9 : tkW T p = tx 9
      · exact ⟨true, by simp [h9], by rw [if_pos (e9.mpr h9)]; rfl⟩
      · exact ⟨false, by simp [h0, h5, h9], by rw [if_neg (fun z => h9 (e9.mp z))]; rfl⟩
/-- too many: bad(3) -/
theorem m_full {d p : Nat} {M : Mm} {T : Tp} (hG : Gd M) (hT : TPM M T) (hp : p ≤ T.1) (h : TkM M T p) (h0 : gI M 171 28 = 0) : ∃ N, go (d + 3) 167 0 [.ref 171, .int (3 : Int32)] [] M = some (none, N) ∧ Sm Se NoL M N ∧ FtM N 3 (tkS T p) ∧ go (d + 4) 181 132 [.ref 171, .long (wvL (tkW T p)), .null] [] N = go (d + 4) 181 56 [.ref 171, .long (wvL (tkW T p)), .null] [] N := by
  have hn := hT.1
  have hsb := tkS_b T hp
  have b := m_bad (d := d + 2) (x := 3) hG h0 h.1
  have f : FtM (sI (sI M 171 28 3) 171 29 (nI (tkS T p))) 3 (tkS T p) := ⟨by rw [gI_ne (by omega), gI_at]; rfl, gI_at, by omega, by omega, by omega⟩
  have hG1 : Gd (sI (sI M 171 28 3) 171 29 (nI (tkS T p))) := hG
  obtain ⟨bb, -, e⟩ := m132 (d := d + 3) (M := sI (sI M 171 28 3) 171 29 (nI (tkS T p))) (T := T) hp
  exact ⟨_, b, Sm_trans (Sm_sI (by unfold Se; omega)) (Sm_sI (by unfold Se; omega)), f, e.trans (m162F hG1 f)⟩
