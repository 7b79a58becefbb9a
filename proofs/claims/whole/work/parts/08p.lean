/-! ===== sets of kinds, as sets ===== -/
/-- N is M but for the words at w, which are the set g -/
def KSet (M N : Mm) (w : Nat) (g : Nat → Bool) : Prop := ∃ f, N = wL M w f ∧ ∀ k, k < 1024 → kb f k = g k
theorem KSet_self {M : Mm} {w : Nat} {g : Nat → Bool} (h : ∀ k, k < 1024 → kb (gL M w) k = g k) : KSet M M w g := ⟨gL M w, wL_self.symm, h⟩
theorem KSet_g {M N : Mm} {w : Nat} {g : Nat → Bool} (h : KSet M N w g) : ∀ k, k < 1024 → kb (gL N w) k = g k := by
  obtain ⟨f, rfl, hf⟩ := h
  intro k hk
  rw [gL_wL, if_pos rfl]; exact hf k hk
theorem KSet_o {M N : Mm} {w r : Nat} {g : Nat → Bool} (h : KSet M N w g) (hr : r ≠ w) : gL N r = gL M r := by
  obtain ⟨f, rfl, hf⟩ := h
  rw [gL_wL, if_neg hr]
theorem KSet_KS {M N : Mm} {w a b v : Nat} {g : Nat → Bool} (h : KSet M N w g) (hA : KS M a b) : KS N a b := by
  obtain ⟨f, rfl, hf⟩ := h
  exact hA
theorem KSet_G {M N : Mm} {w : Nat} {g : Nat → Bool} (h : KSet M N w g) (hA : Gd M) : Gd N := by
  obtain ⟨f, rfl, hf⟩ := h
  exact hA
theorem KSet_W {M N : Mm} {w : Nat} {g : Nat → Bool} (h : KSet M N w g) (hw : w ≠ 3000) (hA : Wd M) : Wd N := fun j hj => by
  rw [KSet_o h (fun e => hw e.symm)]; exact hA j hj
theorem KSet_I {M N : Mm} {w : Nat} {g : Nat → Bool} (h : KSet M N w g) : gI N = gI M := by
  obtain ⟨f, rfl, hf⟩ := h; rfl
theorem KSet_R {M N : Mm} {w : Nat} {g : Nat → Bool} (h : KSet M N w g) : gR N = gR M := by
  obtain ⟨f, rfl, hf⟩ := h; rfl
theorem KSet_Sm {T : Nat → Nat → Prop} {U : Nat → Prop} {M N : Mm} {w : Nat} {g : Nat → Bool} (h : KSet M N w g) (hU : U w) : Sm T U M N := by
  obtain ⟨f, rfl, hf⟩ := h
  exact Sm_wL hU
theorem KSet_w {M N : Mm} {w : Nat} {g : Nat → Bool} {f : Nat → Int64} {g2 : Nat → Bool} (h : KSet M N w g) (hf : ∀ k, k < 1024 → kb f k = g2 k) : KSet M (wL N w f) w g2 := by
  obtain ⟨f0, rfl, -⟩ := h
  exact ⟨f, wL_wL, hf⟩
theorem KSet_c {M N : Mm} {w : Nat} {g g2 : Nat → Bool} (h : KSet M N w g) (hf : ∀ k, k < 1024 → g k = g2 k) : KSet M N w g2 := by
  obtain ⟨f0, rfl, hg⟩ := h
  exact ⟨f0, rfl, fun k hk => (hg k hk).trans (hf k hk)⟩
theorem lbk {f : Nat → Int64} {k : Nat} : lb (f (k / 64)) (k % 64) = kb f k := rfl
theorem kt_take {d : Nat} {M : Mm} {a w b v : Nat} (hA : KS M a w) (hB : KS M b v) (h1 : (SH w).1 = 103) (h2 : (SH v).1 = 103) : ∃ N, go (d + 1) 44 0 [.ref a, .ref b] [] M = some (none, N) ∧ KSet M N w (kb (gL M v)) :=
  ⟨_, ks_take hA hB h1 h2, _, rfl, fun k hk => by rw [kb_if hk]; rfl⟩
theorem kt_takeN {d : Nat} {M N : Mm} {a w b v : Nat} {g : Nat → Bool} (h : KSet M N w g) (hv : v ≠ w) (hA : KS M a w) (hB : KS M b v) (h1 : (SH w).1 = 103) (h2 : (SH v).1 = 103) : ∃ N', go (d + 1) 44 0 [.ref a, .ref b] [] N = some (none, N') ∧ KSet M N' w (kb (gL M v)) :=
  ⟨_, ks_take (KSet_KS (v := v) h hA) (KSet_KS (v := v) h hB) h1 h2, KSet_w h (fun k hk => by rw [kb_if hk, lbk, KSet_o h hv])⟩
theorem kt_keep {d : Nat} {M N : Mm} {a w b v : Nat} {g : Nat → Bool} (h : KSet M N w g) (hv : v ≠ w) (hA : KS M a w) (hB : KS M b v) : ∃ N', go (d + 1) 47 0 [.ref a, .ref b, .null] [] N = some (none, N') ∧ KSet M N' w (fun k => g k && kb (gL M v) k) :=
  ⟨_, ks_keep (KSet_KS (v := v) h hA) (KSet_KS (v := v) h hB), KSet_w h (fun k hk => by rw [kb_if hk, lb_and, lbk, lbk, KSet_o h hv, KSet_g h k hk])⟩
theorem kt_leaveOut {d : Nat} {M N : Mm} {a w b v : Nat} {g : Nat → Bool} (h : KSet M N w g) (hv : v ≠ w) (hA : KS M a w) (hB : KS M b v) : ∃ N', go (d + 1) 48 0 [.ref a, .ref b, .null] [] N = some (none, N') ∧ KSet M N' w (fun k => g k && !kb (gL M v) k) :=
  ⟨_, ks_leaveOut (KSet_KS (v := v) h hA) (KSet_KS (v := v) h hB), KSet_w h (fun k hk => by rw [kb_if hk, lb_and, lb_not _ (by omega), lbk, lbk, KSet_o h hv, KSet_g h k hk])⟩
theorem kt_keepOn {d : Nat} {M N : Mm} {a w m : Nat} {g : Nat → Bool} (h : KSet M N w g) (hw : w ≠ 3000) (hm : m < 10) (hX : Wd M) (hA : KS M a w) : ∃ N', go (d + 2) 49 0 [.ref a, .int (nI m), .null] [] N = some (none, N') ∧ KSet M N' w (fun k => g k && k.testBit m) :=
  ⟨_, ks_keepOn (KSet_KS (v := w) h hA) hw hm (KSet_W h hw hX), KSet_w h (fun k hk => by rw [kb_if hk, lb_and, lbk, ww_bit hm hk, KSet_g h k hk])⟩
theorem kt_keepOff {d : Nat} {M N : Mm} {a w m : Nat} {g : Nat → Bool} (h : KSet M N w g) (hw : w ≠ 3000) (hm : m < 10) (hX : Wd M) (hA : KS M a w) : ∃ N', go (d + 2) 50 0 [.ref a, .int (nI m), .null] [] N = some (none, N') ∧ KSet M N' w (fun k => g k && !k.testBit m) :=
  ⟨_, ks_keepOff (KSet_KS (v := w) h hA) hw hm (KSet_W h hw hX), KSet_w h (fun k hk => by rw [kb_if hk, lb_and, lb_not _ (by omega), lbk, ww_bit hm hk, KSet_g h k hk])⟩
theorem kt_fill {d : Nat} {M : Mm} {a w : Nat} (hA : KS M a w) : ∃ N, go (d + 2) 41 0 [.ref a] [] M = some (none, N) ∧ KSet M N w (fun _ => true) :=
  ⟨_, ks_fill hA, _, rfl, fun k hk => by rw [kb_if hk, lb_m1 _ (by omega)]⟩
theorem kt_clear {d : Nat} {M : Mm} {a w : Nat} (hA : KS M a w) : ∃ N, go (d + 2) 40 0 [.ref a] [] M = some (none, N) ∧ KSet M N w (fun _ => false) :=
  ⟨_, ks_clear hA, _, rfl, fun k hk => by rw [kb_if hk, lb_0]⟩
theorem kt_size {d : Nat} {M N : Mm} {a w : Nat} {g : Nat → Bool} (h : KSet M N w g) (hA : KS M a w) : go (d + 2) 56 0 [.ref a, .null, .null] [] N = some (some (.int (nI (fb_ct g 1024))), N) := by
  rw [ks_size (KSet_KS (v := w) h hA), fb_ct_cong (KSet_g h)]
theorem kt_has {d : Nat} {M N : Mm} {a w k : Nat} {g : Nat → Bool} (h : KSet M N w g) (hA : KS M a w) (hk : k < 1024) : go (d + 1) 43 0 [.ref a, .int (nI k)] [] N = some (some (.int (b2i (g k))), N) := by
  rw [ks_has (KSet_KS (v := w) h hA) hk, KSet_g h k hk]
theorem allW {f : Nat → Int64} {p : Nat → Bool} (h : ∀ k, k < 1024 → kb f k = p k) : allB (fun j => decide (f j = 0)) 16 = allB (fun k => !p k) 1024 := by
  have e := kb_all (f := f)
  cases h1 : allB (fun k => !p k) 1024 with
  | true =>
    apply allB_t
    intro j hj
    exact decide_eq_true (e.mpr (fun k hk => by rw [h k hk]; simpa using allB_iff.mp h1 k hk) j hj)
  | false =>
    cases h2 : allB (fun j => decide (f j = 0)) 16 with
    | false => rfl
    | true =>
      rw [allB_t (fun k hk => by rw [← h k hk, e.mp (fun j hj => of_decide_eq_true (allB_iff.mp h2 j hj)) k hk]; rfl)] at h1
      cases h1
theorem kt_isEmpty {d : Nat} {M N : Mm} {a w : Nat} {g : Nat → Bool} (h : KSet M N w g) (hA : KS M a w) : go (d + 1) 52 0 [.ref a, .null] [] N = some (some (.int (b2i (!anyB g 1024))), N) := by
  rw [ks_isEmpty (KSet_KS (v := w) h hA), allW (KSet_g h), anyB, Bool.not_not]
theorem kt_isWithin {d : Nat} {M N : Mm} {a w b v : Nat} {g g2 : Nat → Bool} (h : KSet M N w g) (hv : v ≠ w) (h2 : ∀ k, k < 1024 → kb (gL M v) k = g2 k) (hA : KS M a w) (hB : KS M b v) : go (d + 1) 53 0 [.ref a, .ref b, .null] [] N = some (some (.int (b2i (!anyB (fun k => g k && !g2 k) 1024))), N) := by
  rw [ks_isWithin (KSet_KS (v := w) h hA) (KSet_KS (v := w) h hB), allW (f := fun j => gL N w j &&& (gL N v j ^^^ (-1))) (p := fun k => g k && !g2 k) (fun k hk => by
    show lb (gL N w (k / 64) &&& (gL N v (k / 64) ^^^ (-1))) (k % 64) = _
    rw [lb_and, lb_not _ (by omega), lbk, lbk, KSet_o h hv, KSet_g h k hk, h2 k hk]), anyB, Bool.not_not]
theorem kt_hasOn {d : Nat} {M N : Mm} {a w m : Nat} {g : Nat → Bool} (h : KSet M N w g) (hw : w ≠ 3000) (hm : m < 10) (hX : Wd M) (hA : KS M a w) : go (d + 2) 54 0 [.ref a, .int (nI m), .null] [] N = some (some (.int (b2i (anyB (fun k => g k && k.testBit m) 1024))), N) := by
  rw [ks_hasOn (KSet_KS (v := w) h hA) hm (KSet_W h hw hX), allW (f := fun j => gL N w j &&& ww m j) (p := fun k => g k && k.testBit m) (fun k hk => by
    show lb (gL N w (k / 64) &&& ww m (k / 64)) (k % 64) = _
    rw [lb_and, lbk, ww_bit hm hk, KSet_g h k hk]), anyB]
theorem kt_hasOff {d : Nat} {M N : Mm} {a w m : Nat} {g : Nat → Bool} (h : KSet M N w g) (hw : w ≠ 3000) (hm : m < 10) (hX : Wd M) (hA : KS M a w) : go (d + 2) 55 0 [.ref a, .int (nI m), .null] [] N = some (some (.int (b2i (anyB (fun k => g k && !k.testBit m) 1024))), N) := by
  rw [ks_hasOff (KSet_KS (v := w) h hA) hm (KSet_W h hw hX), allW (f := fun j => gL N w j &&& (ww m j ^^^ (-1))) (p := fun k => g k && !k.testBit m) (fun k hk => by
    show lb (gL N w (k / 64) &&& (ww m (k / 64) ^^^ (-1))) (k % 64) = _
    rw [lb_and, lb_not _ (by omega), lbk, ww_bit hm hk, KSet_g h k hk]), anyB]
theorem ct_cut {p : Nat → Bool} {n m : Nat} (hn : n ≤ m) (h : ∀ k, n ≤ k → k < m → p k = false) : fb_ct p m = fb_ct p n := by
  rw [show m = n + (m - n) by omega, fb_ct_split, fb_ct_zero.mpr (fun k hk => h (n + k) (by omega) (by omega)), Nat.add_zero]
theorem any_cut {p : Nat → Bool} {n m : Nat} (hn : n ≤ m) (h : ∀ k, n ≤ k → k < m → p k = false) : anyB p m = anyB p n := by
  cases h1 : anyB p n with
  | true =>
    obtain ⟨k, hk, hp⟩ := anyB_iff.mp h1
    exact anyB_iff.mpr ⟨k, by omega, hp⟩
  | false =>
    apply anyB_f.mpr
    intro k hk
    rcases Nat.lt_or_ge k n with h2 | h2
    · exact anyB_f.mp h1 k h2
    · exact h k h2 hk
theorem alB_out {B : Bk} {k : Nat} (h : 2 ^ nmB B ≤ k) : alB B k = false := by
  unfold alB
  rw [decide_eq_false (by omega)]; rfl
/-! ===== in how many bodies a line stands ===== -/
def siB (B : Bk) (i : Nat) : Nat := fb_ct (fun k => alB B k && sdB B k (vrB B) (optI (B.1 9 i)) i) (2 ^ nmB B)
theorem siB_le {B : Bk} (h : nmB B ≤ 10) (i : Nat) : siB B i ≤ 1024 := Nat.le_trans (fb_ct_le _ _) (p10 h).1
theorem SHw_line : ∀ i, i < 24 → (SH (28 + 3 * i)).1 = 103 := by decide +kernel
theorem SHw_law : ∀ i, i < 8 → (SH (11 + 2 * i)).1 = 103 := by decide +kernel
theorem BK_KSet {M N : Mm} {B : Bk} {w : Nat} {g : Nat → Bool} (h : KSet M N w g) (hw : ¬ rdL w) (hB : BK M B) : BK N B :=
  BK_cong (fun r k _ => by rw [KSet_I h]) (fun r hr => KSet_o h (fun e => hw (e ▸ hr))) hB
theorem c_bodiesWith {d : Nat} {M : Mm} {B : Bk} {i : Nat} (hG : Gd M) (hB : BK M B) (hi : i < nnB B) : ∃ N g, go (d + 3) 70 0 [.ref 126, .int (nI i), .null, .null] [] M = some (some (.int (nI (siB B i))), N) ∧ KSet M N 132 g := by
  have hn := BK_nn hB
  have hp := p10 hn.1
  have hX : Wd M := hB.2.2.2.2.2.2.1
  have o6 := ok_126 hG
  have o5 := ok_5 hG
  have r4 := gr_126_4 hG
  have r2 := gr_126_2 hG
  have r0 := gr_126_0 hG
  have r7 := gr_5_7 hG
  have o131 := ok_131 hG
  have cl := nI_clamp (n := i) (by omega)
  have q1 := rk_9 hG (k := i) (by omega)
  have g1 := gr_line hG (k := i) (by omega)
  have g2 := gr_lineS hG (k := i) (by omega)
  have ol := ok_line hG (k := i) (by omega)
  have c7 : gI M 5 3 = nI (vrB B) := hB.1.2.2.2.2.2.2.1
  have m1 : gI M (26 + 3 * i) 1 = optI (B.1 9 i) := (hB.2.2.1 i hi).2.2.2.2.2.2.2.2.2.2.2.1
  have hf := c_isFor (d := d + 1) (b := optI (B.1 9 i)) hG hB hi hn.2.2.2
  have hAl : ∀ k, k < 1024 → kb (gL M 128) k = alB B k := hB.2.2.2.1.2.1
  have hSy : ∀ j, j < nnB B → ∀ k, k < 1024 → kb (gL M (28 + 3 * j)) k = B.2.2 j k := hB.2.2.2.1.2.2.2.1
  cases h1 : forB B (vrB B) (optI (B.1 9 i)) i with
  | false =>
    rw [h1] at hf
    refine ⟨M, kb (gL M 132), ?_, KSet_self (fun _ _ => rfl)⟩
    have e0 : siB B i = 0 := fb_ct_zero.mpr (fun k hk => by simp [sdB, mtB, h1])
    simp only [q70_0, o6, r4, o5, if_true, r7, q1, cl, g1, ol, c7, m1, hf, bI_s, b2i0, e0]
    rfl
  | true =>
    rw [h1] at hf
    obtain ⟨N1, s1, k1⟩ := kt_take (d := d + 1) (KS_some hG) (KS_allowed hG) rfl rfl
    obtain ⟨N2, s2, k2⟩ := kt_keep (d := d + 1) k1 (by omega : 28 + 3 * i ≠ 132) (KS_some hG) (KS_line hG (i := i) (by omega))
    have hG1 : Gd N1 := KSet_G k1 hG
    have hG2 : Gd N2 := KSet_G k2 hG
    have hB2 : BK N2 B := BK_KSet k2 (by unfold rdL; omega) hB
    have cli := c_isLine (d := d + 1) hG2 (BK_c hB2) (nI (i + 1))
    have z2 := kt_size (d := d) k2 (KS_some hG)
    have p1 := nI_1 i
    have gset : ∀ k, k < 1024 → (kb (gL M 128) k && kb (gL M (28 + 3 * i)) k) = (alB B k && B.2.2 i k) := fun k hk => by rw [hAl k hk, hSy i hi k hk]
    have fin : ∀ (p : Nat → Bool), (∀ k, k < 1024 → p k = (alB B k && sdB B k (vrB B) (optI (B.1 9 i)) i)) → fb_ct p 1024 = siB B i := fun p hpp => by
      rw [fb_ct_cong hpp, ct_cut (n := 2 ^ nmB B) (by omega) (fun k h1 h2 => by rw [alB_out h1]; rfl)]; rfl
    cases h2 : inR (nnB B) (nI (i + 1)) with
    | false =>
      rw [h2] at cli
      have hnn : ¬ i + 1 < nnB B := fun z => by rw [inR_nI (by omega) z] at h2; cases h2
      refine ⟨N2, _, ?_, k2⟩
      simp only [q70_0, o6, r4, o5, if_true, r7, q1, cl, g1, ol, c7, m1, hf, bI_s, b2i0, Bool.true_eq_false, if_false, r2, r0, o131, s1, bV_s, ok_126 hG1, gr_126_2 hG1, ok_131 hG1, ok_line hG1 (show i < 24 by omega), gr_lineS hG1 (show i < 24 by omega), s2, ok_126 hG2, gr_126_4 hG2, ok_5 hG2, p1, cli, gr_126_2 hG2, ok_131 hG2, z2]
      rw [fin _ (fun k hk => by rw [gset k hk]; simp [sdB, mtB, h1, hnn])]
    | true =>
      rw [h2] at cli
      have hnn : i + 1 < nnB B := by
        obtain ⟨j, hj, e⟩ := inR_n (by omega) h2
        rw [nI_eq (by omega) (by omega)] at e; omega
      have m0 : gI N2 (26 + 3 * (i + 1)) 0 = nI (B.1 3 (i + 1)) := (hB2.2.2.1 (i + 1) hnn).2.2.2.2.2.2.2.2.2.2.1
      have l0 := (hB2.2.2.1 (i + 1) hnn).1
      have e0 : nI (B.1 3 (i + 1)) = (0 : Int32) ↔ B.1 3 (i + 1) = 0 := nI_eq (a := B.1 3 (i + 1)) (b := 0) (by omega) (by omega)
      have m1' : gI N2 (26 + 3 * i) 1 = optI (B.1 9 i) := (hB2.2.2.1 i hi).2.2.2.2.2.2.2.2.2.2.2.1
      have c7' : gI N2 5 3 = nI (vrB B) := hB2.1.2.2.2.2.2.2.1
      have hf2 := c_isFor (d := d + 1) (b := optI (B.1 9 i)) hG2 hB2 hnn hn.2.2.2
      by_cases h3 : B.1 3 (i + 1) = 0
      · have m0' : gI N2 (26 + 3 * (i + 1)) 0 = 0 := m0.trans (e0.mpr h3)
        refine ⟨N2, _, ?_, k2⟩
        simp only [q70_0, o6, r4, o5, if_true, r7, q1, cl, g1, ol, c7, m1, hf, bI_s, b2i0, Bool.true_eq_false, if_false, r2, r0, o131, s1, bV_s, ok_126 hG1, gr_126_2 hG1, ok_131 hG1, ok_line hG1 (show i < 24 by omega), gr_lineS hG1 (show i < 24 by omega), s2, ok_126 hG2, gr_126_4 hG2, ok_5 hG2, p1, cli, gr_126_2 hG2, ok_131 hG2, z2, gr_5_7 hG2, rk_9 hG2 (show i + 1 < 24 by omega), nI_clamp (show i + 1 < 2 ^ 31 by omega), gr_line hG2 (show i + 1 < 24 by omega), ok_line hG2 (show i + 1 < 24 by omega), m0', eq_self]
        rw [fin _ (fun k hk => by rw [gset k hk]; simp [sdB, mtB, rpB, h1, h3])]
      · cases h4 : forB B (vrB B) (optI (B.1 9 i)) (i + 1) with
        | false =>
          rw [h4] at hf2
          refine ⟨N2, _, ?_, k2⟩
          simp only [q70_0, o6, r4, o5, if_true, r7, q1, cl, g1, ol, c7, m1, hf, bI_s, b2i0, Bool.true_eq_false, if_false, r2, r0, o131, s1, bV_s, ok_126 hG1, gr_126_2 hG1, ok_131 hG1, ok_line hG1 (show i < 24 by omega), gr_lineS hG1 (show i < 24 by omega), s2, ok_126 hG2, gr_126_4 hG2, ok_5 hG2, p1, cli, gr_126_2 hG2, ok_131 hG2, z2, gr_5_7 hG2, rk_9 hG2 (show i + 1 < 24 by omega), nI_clamp (show i + 1 < 2 ^ 31 by omega), gr_line hG2 (show i + 1 < 24 by omega), ok_line hG2 (show i + 1 < 24 by omega), ok_line hG2 (show i < 24 by omega), m0, e0, h3, c7', m1', hf2]
          rw [fin _ (fun k hk => by rw [gset k hk]; simp [sdB, mtB, rpB, h1, h4])]
        | true =>
          rw [h4] at hf2
          obtain ⟨N3, s3, k3⟩ := kt_leaveOut (d := d + 1) k2 (by omega : 28 + 3 * (i + 1) ≠ 132) (KS_some hG) (KS_line hG (i := i + 1) (by omega))
          have hG3 : Gd N3 := KSet_G k3 hG
          have z3 := kt_size (d := d) k3 (KS_some hG)
          refine ⟨N3, _, ?_, k3⟩
          simp only [q70_0, o6, r4, o5, if_true, r7, q1, cl, g1, ol, c7, m1, hf, bI_s, b2i0, Bool.true_eq_false, if_false, r2, r0, o131, s1, bV_s, ok_126 hG1, gr_126_2 hG1, ok_131 hG1, ok_line hG1 (show i < 24 by omega), gr_lineS hG1 (show i < 24 by omega), s2, ok_126 hG2, gr_126_4 hG2, ok_5 hG2, p1, cli, gr_126_2 hG2, ok_131 hG2, gr_5_7 hG2, rk_9 hG2 (show i + 1 < 24 by omega), nI_clamp (show i + 1 < 2 ^ 31 by omega), gr_line hG2 (show i + 1 < 24 by omega), ok_line hG2 (show i + 1 < 24 by omega), ok_line hG2 (show i < 24 by omega), gr_lineS hG2 (show i + 1 < 24 by omega), m0, e0, h3, c7', m1', hf2, s3, ok_126 hG3, gr_126_2 hG3, ok_131 hG3, z3]
          rw [fin _ (fun k hk => by
            rw [gset k hk, hSy (i + 1) hnn k hk]
            cases alB B k <;> cases hx : B.2.2 i k <;> cases hy : B.2.2 (i + 1) k <;> simp [sdB, mtB, rpB, h1, h3, h4, hnn, hx, hy])]
theorem m_standsIn {d : Nat} {M : Mm} {B : Bk} {i : Nat} (hG : Gd M) (hB : BK M B) (hi : i < nnB B) : go (d + 3) 226 0 [.ref 171, .int (nI i), .null, .null] [] M = some (some (.int (nI (siB B i))), M) := by
  have hn := BK_nn hB
  have hp := p10 hn.1
  have o := ok_171 hG
  have c9 : gI M 171 36 = nI (2 ^ nmB B) := hB.1.2.2.2.2.2.2.2.2.1
  have c8 : gI M 171 40 = nI (vrB B) := hB.1.2.2.2.2.2.2.2.1
  have n1 : gI M 178 i = optI (B.1 9 i) := (hB.2.2.1 i hi).2.2.2.2.2.2.2.2.2.2.2.2.2.2.2.2.2.2.2.1
  rw [q226_0, show (0 : Int32) = nI 0 from rfl]
  obtain ⟨s, s1, s2⟩ := loopI (σ := Int32) (fun k s => go (d + 3) 226 4 [.ref 171, .int (nI i), .int s, .int (nI k)] [] M) (fun k s => s = nI (fb_ct (fun k => alB B k && sdB B k (vrB B) (optI (B.1 9 i)) i) k)) (2 ^ nmB B) (fun k s hk hs => by
    subst hs
    refine ⟨_, ?_, rfl⟩
    try dsimp only
    rw [q226_4, if_pos o, c9, if_neg (by rw [nI_leI (by omega) (by omega)]; omega), if_pos o, m_isAllowed hG hB hk, bI_s, fb_ct_succ, ← nI_add, ← nI_add]
    simp only [b2i0]
    cases ha : alB B k with
    | false => rfl
    | true =>
      rw [if_neg (by decide), if_pos o, if_pos o, gr_171_11 hG, if_pos (rk_178 hG (show i < 24 by omega)), if_pos o, c8, nI_clamp (show i < 2 ^ 31 by omega), n1, m_bodyOf hG hB hk hn.2.2.2, bI_s, bitN (bodyB_lt (by omega)) (by omega), show (bodyB B k (vrB B) (optI (B.1 9 i))).testBit i = sdB B k (vrB B) (optI (B.1 9 i)) i by rw [bodyB, bset_bit]; simp [hi]]
      cases sdB B k (vrB B) (optI (B.1 9 i)) i <;> rfl) (2 ^ nmB B) 0 (nI 0) (by omega) rfl
  try dsimp only at s1
  rw [s1, q226_4, if_pos o, c9, if_pos (by rw [nI_leI (by omega) (by omega)]; omega), s2]
  rfl
/-- the kind of a line among lines -/
def kdB (B : Bk) (i : Nat) : Nat := if siB B i = 0 then 5 else if B.1 3 i = 2 then 4 else if B.1 3 i = 1 then 3 else if B.1 7 i = 0 then 1 else 2
theorem kdB_in (B : Bk) (i : Nat) : 1 ≤ kdB B i ∧ kdB B i ≤ 5 := by
  unfold kdB; repeat' split
  all_goals omega
/-- its kind as long as it is no idler -/
def kwB (B : Bk) (i : Nat) : Nat := if B.1 3 i = 2 then 4 else if B.1 3 i = 1 then 3 else if B.1 7 i = 0 then 1 else 2
theorem c_kindWhenUsed {d : Nat} {M : Mm} {B : Bk} {i : Nat} (hG : Gd M) (hB : BK M B) (hi : i < nnB B) : go (d + 1) 76 0 [.ref (26 + 3 * i)] [] M = some (some (.int (nI (kwB B i))), M) := by
  have hn := BK_nn hB
  obtain ⟨l1, l2, l3, l4, l5, l6, l7, l8, l9, l10, m0, m1, m2, m3, m4, m5, -⟩ := hB.2.2.1 i hi
  have e2 : nI (B.1 3 i) = (2 : Int32) ↔ B.1 3 i = 2 := nI_eq (a := B.1 3 i) (b := 2) (by omega) (by omega)
  have e1 : nI (B.1 3 i) = (1 : Int32) ↔ B.1 3 i = 1 := nI_eq (a := B.1 3 i) (b := 1) (by omega) (by omega)
  have e0 : nI (B.1 7 i) ≤ (0 : Int32) ↔ B.1 7 i = 0 := (nI_leI (a := B.1 7 i) (b := 0) (by omega) (by omega)).trans (by omega)
  simp only [q76_0, ok_line hG (show i < 24 by omega), if_true, m0, m5, e2, e1, e0, kwB]
  repeat' split
  all_goals rfl
theorem c_kindOfLine {d : Nat} {M : Mm} {B : Bk} {i : Nat} (hG : Gd M) (hB : BK M B) (hi : i < nnB B) : ∃ N g, go (d + 4) 71 0 [.ref 126, .int (nI i)] [] M = some (some (.int (nI (kdB B i))), N) ∧ KSet M N 132 g := by
  have hn := BK_nn hB
  obtain ⟨N, g, s, k⟩ := c_bodiesWith (d := d) hG hB hi
  have hGN := KSet_G k hG
  have hBN : BK N B := BK_KSet k (by unfold rdL; omega) hB
  have e0 : nI (siB B i) = (0 : Int32) ↔ siB B i = 0 := nI_eq (a := siB B i) (b := 0) (Nat.lt_of_le_of_lt (siB_le hn.1 i) (by omega)) (by omega)
  refine ⟨N, g, ?_, k⟩
  simp only [q71_0, ok_126 hG, if_true, s, bI_s, e0, ok_126 hGN, gr_126_4 hGN, ok_5 hGN, gr_5_7 hGN, rk_9 hGN (show i < 24 by omega), nI_clamp (show i < 2 ^ 31 by omega), gr_line hGN (show i < 24 by omega), ok_line hGN (show i < 24 by omega), c_kindWhenUsed hGN hBN hi]
  unfold kdB kwB
  by_cases h : siB B i = 0
  · rw [if_pos h, if_pos h]; rfl
  · rw [if_neg h, if_neg h]
theorem m_kindOf {d : Nat} {M : Mm} {B : Bk} {i : Nat} (hG : Gd M) (hB : BK M B) (hi : i < nnB B) : go (d + 4) 227 0 [.ref 171, .int (nI i)] [] M = some (some (.int (nI (kdB B i))), M) := by
  have hn := BK_nn hB
  obtain ⟨l1, l2, l3, l4, l5, l6, l7, l8, l9, l10, m0, m1, m2, m3, m4, m5, m6, m7, n0, n1, n2, n3, n4, n5, n6, n7⟩ := hB.2.2.1 i hi
  have e0 : nI (siB B i) = (0 : Int32) ↔ siB B i = 0 := nI_eq (a := siB B i) (b := 0) (Nat.lt_of_le_of_lt (siB_le hn.1 i) (by omega)) (by omega)
  have e2 : nI (B.1 3 i) = (2 : Int32) ↔ B.1 3 i = 2 := nI_eq (a := B.1 3 i) (b := 2) (by omega) (by omega)
  have e1 : nI (B.1 3 i) = (1 : Int32) ↔ B.1 3 i = 1 := nI_eq (a := B.1 3 i) (b := 1) (by omega) (by omega)
  have ez : nI (B.1 7 i) ≤ (0 : Int32) ↔ B.1 7 i = 0 := (nI_leI (a := B.1 7 i) (b := 0) (by omega) (by omega)).trans (by omega)
  have e8 : (8 : Int32) + nI i = nI (8 + i) := by rw [show (8 : Int32) = nI 8 from rfl, nI_add]
  simp only [q227_0, ok_171 hG, if_true, m_standsIn hG hB hi, bI_s, e0, gr_171_10 hG, rk_177 hG (show i < 24 by omega), nI_clamp (show i < 2 ^ 31 by omega), n0, e2, e1, gr_171_19 hG, e8, rk_186 hG (show 8 + i < 32 by omega), nI_clamp (show 8 + i < 2 ^ 31 by omega), n5, ez, kdB]
  repeat' split
  all_goals rfl
theorem op_kind {E M : Mm} {B : Bk} {d : Nat} (hI : Inv E M B) (x : Int32) : Alike E M (d + 5) 140 229 [.ref 1, .int x] [.ref 171, .int x] := by
  have hG := hI.1
  have hB := hI.2.2.2.2.2.2.1
  have hn := BK_nn hB
  have cl := c_isLine (d := d + 3) hG (BK_c hB) x
  cases h : inR (nnB B) x with
  | false =>
    have hB' := (thr hI).2.2.2.2.2.2.1
    refine Alike_q hI (-1000001) M (sI M 171 0 0) ?_ Sm_refl ?_ sm0
    · simp only [q140_0, ok_1 hG, gr_1_2 hG, ok_5 hG, if_true, cl, bI_s, b2i0, h]
    · simp only [q229_0, ok_171 hG, okO_sI, if_true, bM_d, m_isLine (M := sI M 171 0 0) hG (BK_c hB'), bI_s, b2i0, h]
  | true =>
    obtain ⟨i, hi, rfl⟩ := inR_n (by omega) h
    obtain ⟨N, g, s, k⟩ := c_kindOfLine (d := d) hG hB hi
    have hS : Sm Qs QL M N := KSet_Sm k (by unfold QL; omega)
    have hIN := Inv_q hI hS
    have hGN := hIN.1
    have hBN := (thr hIN).2.2.2.2.2.2.1
    refine Alike_q hI (nI (kdB B i)) N (sI N 171 0 0) ?_ hS ?_ sm0
    · simp only [q140_0, ok_1 hG, gr_1_2 hG, ok_5 hG, if_true, cl, bI_s, b2i0, h, Bool.true_eq_false, if_false, gr_1_4 hG, ok_126 hG, s]
    · simp only [q229_0, ok_171 hGN, okO_sI, if_true, bM_d, m_isLine (M := sI N 171 0 0) hGN (BK_c hBN), bI_s, b2i0, h, Bool.true_eq_false, if_false, m_kindOf (M := sI N 171 0 0) hGN hBN hi]
