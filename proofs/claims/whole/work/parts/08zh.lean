/-! ===== feed ===== -/
theorem in18 {x : Int32} (h1 : ¬ x < (1 : Int32)) (h2 : x ≤ (8 : Int32)) : ∃ c, 1 ≤ c ∧ c ≤ 8 ∧ x = nI c := by
  have a1 : ¬ x.toInt < 1 := fun z => h1 ((fa_lt _ _).mpr z)
  have a2 : x.toInt ≤ 8 := (fa_le _ _).mp h2
  obtain ⟨c, hc, rfl⟩ := nI_of2 (x := x) (M := 8) (n := 8) rfl (fun z => a1 (by have := (fa_lt _ _).mp z; rw [show (0 : Int32).toInt = 0 from rfl] at this; omega)) h2
  rw [nI_toInt (by omega)] at a1
  exact ⟨c, by omega, hc, rfl⟩
theorem m_in18 {d : Nat} {M : Mm} (x : Int32) : go (d + 1) 154 0 [.long x.toInt64, .null, .long (1 : Int64), .null, .long (8 : Int64), .null] [] M = some (some (.int (b2i (!decide (x < (1 : Int32)) && decide (x ≤ (8 : Int32))))), M) := by
  rw [show (1 : Int64) = (1 : Int32).toInt64 from rfl, show (8 : Int64) = (8 : Int32).toInt64 from rfl, m_in]
  congr 5
  have e : (1 : Int32) ≤ x ↔ ¬ x < 1 := ⟨fun h z => (fa_of_lt z).2.1 h, fun h => fa_of_nlt h⟩
  by_cases h1 : x < (1 : Int32) <;> by_cases h2 : x ≤ (8 : Int32) <;> simp [e, h1, h2]
def byC (w : Int64) (k : Nat) : Int32 := (((w.toUInt64 >>> ((nI (8 * k)).toInt64.toUInt64 &&& Int64.toUInt64 63)).toInt64).toInt32).toInt8.toInt32
def byM (w : Int64) (k : Nat) : Int32 := ((w >>> ((nI (8 * k)).toInt64 &&& 63)) &&& (255 : Int64)).toInt32
theorem z4 (N : Mm) (j : Nat) (x : Int32) : sZ N 4 j x.toInt8.toInt32 = sI N 4 j x.toInt8.toInt32 := by
  show sI N 4 j (vp_nar (zTy 4) x.toInt8.toInt32) = _
  rw [show zTy 4 = .byte from rfl, vp_nar_byte]
  simp
theorem i8 (k : Nat) : (8 : Int32) * nI k = nI (8 * k) := by rw [show (8 : Int32) = nI 8 from rfl, pk_mul]
theorem dn1 (x : Int32) : x + ((-1) : Int32) = x - 1 := by rw [Int32.sub_eq_add_neg]
abbrev T4 : Nat → Nat → Prop := fun r k => (r = 3 ∧ k = 1) ∨ r = 4
abbrev T187 : Nat → Nat → Prop := fun r k => (r = 171 ∧ k = 21) ∨ r = 187
theorem c_feed {d c n : Nat} {M : Mm} {w : Int64} (hG : Gd M) (h1 : gI M 3 1 = nI n) (hnc : n + c ≤ 500) : ∃ N, go (d + 1) 117 37 [.ref 1, .long w, .null, .int (nI c), .int (nI c - 1)] [] M = some (some (.int (nI (n + c))), N) ∧ Sm T4 NoL M N ∧ gI N 3 1 = nI (n + c) ∧ (∀ k, k < n → gI N 4 k = gI M 4 k) ∧ ∀ i, i < c → gI N 4 (n + i) = byC w (c - 1 - i) := by
  obtain ⟨N, s1, s2, s3, s4, s5⟩ := loopI (σ := Mm) (fun j N => go (d + 1) 117 37 [.ref 1, .long w, .null, .int (nI c), .int (nI (c - j) - 1)] [] N) (fun j N => Sm T4 NoL M N ∧ gI N 3 1 = nI (n + j) ∧ (∀ k, k < n → gI N 4 k = gI M 4 k) ∧ ∀ i, i < j → gI N 4 (n + i) = byC w (c - 1 - i)) c (fun j N hj hN => by
    obtain ⟨hS, k1, k2, k3⟩ := hN
    have hGN := Gd_Sm hS hG
    have hG1 : Gd (sI N 4 (n + j) (byC w (c - 1 - j))) := hGN
    have e1 : gI (sI N 4 (n + j) (byC w (c - 1 - j))) 3 1 = nI (n + j) := (gI_ne (by omega)).trans k1
    refine ⟨sI (sI N 4 (n + j) (byC w (c - 1 - j))) 3 1 (nI (n + (j + 1))), ?_, Sm_trans hS (Sm_trans (Sm_sI (Or.inr rfl)) (Sm_sI (Or.inl ⟨rfl, rfl⟩))), gI_at, fun k hk => ?_, fun i hi => ?_⟩
    · try dsimp only
      have z := z4 N (n + j) (((w.toUInt64 >>> ((nI (8 * (c - 1 - j))).toInt64.toUInt64 &&& Int64.toUInt64 63)).toInt64).toInt32)
      have z' : sI N 4 (n + j) (((w.toUInt64 >>> ((nI (8 * (c - 1 - j))).toInt64.toUInt64 &&& Int64.toUInt64 63)).toInt64).toInt32).toInt8.toInt32 = sI N 4 (n + j) (byC w (c - 1 - j)) := rfl
      rw [sub1 (by omega), show c - j - 1 = c - 1 - j by omega, q117_37, if_neg (nI_pos (by omega)), if_pos (ok_1 hGN), gr_1_1 hGN, if_pos (ok_3 hGN), if_pos (ok_1 hGN), if_pos (ok_3 hGN), gr_3_0 hGN, k1, if_pos (wk_4 hGN (by omega)), bM_d, i8, nI_clamp (by omega), z, z', if_pos (ok_1 hG1), gr_1_1 hG1, if_pos (ok_3 hG1), if_pos (ok_3 hG1), bM_d, e1, nI_1, dn1, show c - 1 - j = c - (j + 1) by omega]
      rfl
    · rw [gI_ne (by omega), gI_ne (by omega)]; exact k2 k hk
    · rw [gI_ne (by omega), gI_sI]
      by_cases e : i = j
      · subst e; rw [if_pos ⟨rfl, rfl⟩]
      · rw [if_neg (fun z => e (by omega))]; exact k3 i (by omega)) c 0 M (by omega) ⟨Sm_refl, h1, fun _ _ => rfl, fun i hi => by omega⟩
  try dsimp only at s1
  have hGN := Gd_Sm s2 hG
  refine ⟨N, ?_, s2, s3, s4, s5⟩
  rw [Nat.sub_zero] at s1
  rw [s1, Nat.sub_self, q117_37, if_pos (by decide), if_pos (ok_1 hGN), gr_1_1 hGN, if_pos (ok_3 hGN), s3]
theorem m_feed {d c n : Nat} {M : Mm} {w : Int64} (hG : Gd M) (h1 : gI M 171 21 = nI n) (hnc : n + c ≤ 500) : ∃ N, go (d + 1) 162 40 [.ref 171, .long w, .null, .int (nI c), .int (nI c - 1)] [] M = some (some (.int (nI (n + c))), N) ∧ Sm T187 NoL M N ∧ gI N 171 21 = nI (n + c) ∧ (∀ k, k < n → gI N 187 k = gI M 187 k) ∧ ∀ i, i < c → gI N 187 (n + i) = byM w (c - 1 - i) := by
  obtain ⟨N, s1, s2, s3, s4, s5⟩ := loopI (σ := Mm) (fun j N => go (d + 1) 162 40 [.ref 171, .long w, .null, .int (nI c), .int (nI (c - j) - 1)] [] N) (fun j N => Sm T187 NoL M N ∧ gI N 171 21 = nI (n + j) ∧ (∀ k, k < n → gI N 187 k = gI M 187 k) ∧ ∀ i, i < j → gI N 187 (n + i) = byM w (c - 1 - i)) c (fun j N hj hN => by
    obtain ⟨hS, k1, k2, k3⟩ := hN
    have hGN := Gd_Sm hS hG
    have hG1 : Gd (sI N 187 (n + j) (byM w (c - 1 - j))) := hGN
    have e1 : gI (sI N 187 (n + j) (byM w (c - 1 - j))) 171 21 = nI (n + j) := (gI_ne (by omega)).trans k1
    refine ⟨sI (sI N 187 (n + j) (byM w (c - 1 - j))) 171 21 (nI (n + (j + 1))), ?_, Sm_trans hS (Sm_trans (Sm_sI (Or.inr rfl)) (Sm_sI (Or.inl ⟨rfl, rfl⟩))), gI_at, fun k hk => ?_, fun i hi => ?_⟩
    · try dsimp only
      have z' : sI N 187 (n + j) (((w >>> ((nI (8 * (c - 1 - j))).toInt64 &&& 63)) &&& (255 : Int64)).toInt32) = sI N 187 (n + j) (byM w (c - 1 - j)) := rfl
      rw [sub1 (by omega), show c - j - 1 = c - 1 - j by omega, q162_40, if_neg (nI_pos (by omega)), if_pos (ok_171 hGN), if_pos (ok_171 hGN), gr_171_20 hGN, k1, if_pos (wk_187 hGN (by omega)), bM_d, i8, nI_clamp (by omega), z', if_pos (ok_171 hG1), if_pos (ok_171 hG1), bM_d, e1, nI_1, dn1, show c - 1 - j = c - (j + 1) by omega]
      rfl
    · rw [gI_ne (by omega), gI_ne (by omega)]; exact k2 k hk
    · rw [gI_ne (by omega), gI_sI]
      by_cases e : i = j
      · subst e; rw [if_pos ⟨rfl, rfl⟩]
      · rw [if_neg (fun z => e (by omega))]; exact k3 i (by omega)) c 0 M (by omega) ⟨Sm_refl, h1, fun _ _ => rfl, fun i hi => by omega⟩
  try dsimp only at s1
  have hGN := Gd_Sm s2 hG
  refine ⟨N, ?_, s2, s3, s4, s5⟩
  rw [Nat.sub_zero] at s1
  rw [s1, Nat.sub_self, q162_40, if_pos (by decide), if_pos (ok_171 hGN), s3]
def Fs (r k : Nat) : Prop := Qs r k ∨ rdT r k
theorem Inv_f {E M N : Mm} {B : Bk} (hI : Inv E M B) (h : Sm Fs QL M N) (hC : TAP N) : Inv E N B := by
  obtain ⟨a1, a2, a3, a4, a5, a6, a7, ⟨bk, bv, a8⟩, a9, a10⟩ := hI
  have hT := h.2.2.1
  exact ⟨Gd_Sm h a1, EXT_Sm (fun r k z => by unfold Fs rdT Qs at z; omega) (fun r z => by unfold QL at z; omega) h a2, SHT_cong (fun r k z => hT r k (by unfold rdS at z; unfold Fs rdT Qs; omega)) a3, hC, LAT_cong (hT _ _ (by unfold Fs rdT Qs; omega)) (hT _ _ (by unfold Fs rdT Qs; omega)) (hT _ _ (by unfold Fs rdT Qs; omega)) (hT _ _ (by unfold Fs rdT Qs; omega)) a5, TRC_cong (fun r k z => hT r k (by unfold rdC at z; unfold Fs rdT Qs; omega)) a6, BK_cong (fun r k z => hT r k (by unfold rdB at z; unfold Fs rdT Qs; omega)) (fun r z => h.2.2.2 r (by unfold rdL at z; unfold QL; omega)) a7, ⟨bk, bv, BUY_cong (fun r k z => hT r k (by unfold rdU at z; unfold Fs rdT Qs; omega)) a8⟩, EC_cong (fun r k z => hT r k (by unfold rdE at z; unfold Fs rdT Qs; omega)) a9, HC_cong (fun r k z => hT r k (by unfold rdH at z; unfold Fs rdT Qs; omega)) a10⟩
theorem op_feed {E M : Mm} {B : Bk} {d : Nat} (hI : Inv E M B) (w : Int64) (x : Int32) : Alike E M (d + 2) 117 162 [.ref 1, .long w, .null, .int x, .null] [.ref 171, .long w, .null, .int x, .null] := by
  have hG := hI.1
  have hT := hI.2.2.2.1
  by_cases h1 : x < (1 : Int32)
  · refine Alike_q hI (-1000001) M (sI M 171 0 0) ?_ Sm_refl ?_ sm0
    · rw [q117_0, if_pos h1]
    · rw [q162_0, if_pos (ok_171 hG), bM_d, m_in18, bI_s, decide_eq_true h1, if_pos (by rfl)]
  · by_cases h2 : x ≤ (8 : Int32)
    · obtain ⟨c, hc1, hc8, rfl⟩ := in18 h1 h2
      obtain ⟨n, hn, t1, t2, t3⟩ := hT
      have mi : ∀ N, go (d + 1) 154 0 [.long (nI c).toInt64, .null, .long (1 : Int64), .null, .long (8 : Int64), .null] [] N = some (some (.int 1), N) := fun N => by
        rw [m_in18, decide_eq_false h1, decide_eq_true h2]; rfl
      by_cases h5 : n + c ≤ 500
      · have le5 : nI (n + c) ≤ (500 : Int32) := (nI_leI (a := n + c) (b := 500) (by omega) (by omega)).mpr h5
        obtain ⟨N, s, hS, a1, a2, a3⟩ := c_feed (d := d + 1) (w := w) hG t1 h5
        have hGN := Gd_Sm hS hG
        have hG1 : Gd (sI N 171 0 0) := hGN
        have t2' : gI (sI N 171 0 0) 171 21 = nI n := by rw [gI_ne (by omega), hS.2.2.1 _ _ (by show ¬ _; omega)]; exact t2
        obtain ⟨N2, s2, hS2, b1, b2, b3⟩ := m_feed (d := d + 1) (w := w) hG1 t2' h5
        refine ⟨nI (n + c), N, N2, B, ?_, ?_, Inv_f hI (Sm_trans (Sm_mono (fun r k z => by unfold Fs rdT; omega) (fun r z => z.elim) hS) (Sm_trans (Sm_sI (by unfold Fs Qs; omega)) (Sm_mono (fun r k z => by unfold Fs rdT; omega) (fun r z => z.elim) hS2))) ⟨n + c, h5, ?_, b1, fun k hk => ?_⟩⟩
        · rw [q117_0, if_neg h1, if_pos h2, if_pos (ok_1 hG), gr_1_1 hG, if_pos (ok_3 hG), t1, nI_add, if_pos le5]
          exact s
        · rw [q162_0, if_pos (ok_171 hGN), bM_d, mi, bI_s, if_neg (by decide), if_pos (ok_171 hG1), t2', nI_add, if_pos le5]
          exact s2
        · rw [hS2.2.2.1 _ _ (by show ¬ _; omega), gI_ne (by omega)]; exact a1
        · have i4 : gI N2 4 k = gI N 4 k := by rw [hS2.2.2.1 _ _ (by show ¬ _; omega), gI_ne (by omega)]
          rw [i4]
          by_cases hkn : k < n
          · obtain ⟨v, hv, v1, v2⟩ := t3 k hkn
            refine ⟨v, hv, (a2 k hkn).trans v1, ?_⟩
            rw [b2 k hkn, gI_ne (by omega), hS.2.2.1 _ _ (by show ¬ _; omega)]; exact v2
          · obtain ⟨v, hv, v1, v2⟩ := feed_b w (k := c - 1 - (k - n)) (by omega)
            have e4 := a3 (k - n) (by omega)
            have e5 := b3 (k - n) (by omega)
            rw [show n + (k - n) = k by omega] at e4 e5
            exact ⟨v, hv, e4.trans v1, e5.trans v2⟩
      · have le5 : ¬ nI (n + c) ≤ (500 : Int32) := fun z => h5 ((nI_leI (a := n + c) (b := 500) (by omega) (by omega)).mp z)
        have t2' : gI (sI M 171 0 0) 171 21 = nI n := (gI_ne (by omega)).trans t2
        refine Alike_q hI (-1000003) M (sI M 171 0 0) ?_ Sm_refl ?_ sm0
        · rw [q117_0, if_neg h1, if_pos h2, if_pos (ok_1 hG), gr_1_1 hG, if_pos (ok_3 hG), t1, nI_add, if_neg le5]
        · rw [q162_0, if_pos (ok_171 hG), bM_d, mi, bI_s, if_neg (by decide), okO_sI, if_pos (ok_171 hG), t2', nI_add, if_neg le5]
    · refine Alike_q hI (-1000001) M (sI M 171 0 0) ?_ Sm_refl ?_ sm0
      · rw [q117_0, if_neg h1, if_neg h2]
      · rw [q162_0, if_pos (ok_171 hG), bM_d, m_in18, bI_s, decide_eq_false h1, decide_eq_false h2, if_pos (by rfl)]
/-! ===== places of a sheet ===== -/
def hpB (n : Nat) (x c : Int32) : Bool := decide (0 ≤ c.toInt) && decide (0 ≤ x.toInt) && decide (x.toInt + c.toInt ≤ n)
theorem t32 (x : Int32) : -2147483648 ≤ x.toInt ∧ x.toInt < 2147483648 := by
  have h1 := Int32.le_toInt x
  have h2 := Int32.toInt_lt x
  omega
theorem c_hasPlaces {d : Nat} {M : Mm} {s n : Nat} (hG : Gd M) (hs : s < 8) (hn : n ≤ 40) (e : gI M (155 + 2 * s) 1 = nI n) (x c : Int32) : go (d + 1) 101 0 [.ref (155 + 2 * s), .int x, .int c] [] M = some (some (.int (b2i (hpB n x c))), M) := by
  have b1 := t32 x
  have b2 := t32 c
  have z0 : (0 : Int32).toInt = 0 := rfl
  rw [q101_0, if_pos (ok_sheet hG hs), e]
  unfold hpB
  by_cases h1 : c < 0
  · have := (fa_lt _ _).mp h1
    rw [if_pos h1, decide_eq_false (show ¬ 0 ≤ c.toInt by omega)]; rfl
  · have h1' : 0 ≤ c.toInt := by
      apply Int.not_lt.mp; intro z; exact h1 ((fa_lt _ _).mpr z)
    by_cases h2 : x < 0
    · have := (fa_lt _ _).mp h2
      rw [if_neg h1, if_pos h2, decide_eq_false (show ¬ 0 ≤ x.toInt by omega), Bool.and_false]; rfl
    · have h2' : 0 ≤ x.toInt := by
        apply Int.not_lt.mp; intro z; exact h2 ((fa_lt _ _).mpr z)
      have hsub : (nI n - c).toInt = n - c.toInt := by
        rw [fb_subI (by rw [nI_toInt (by omega)]; omega) (by rw [nI_toInt (by omega)]; omega), nI_toInt (by omega)]
      rw [if_neg h1, if_neg h2, decide_eq_true h1', decide_eq_true h2']
      by_cases h3 : x.toInt + c.toInt ≤ n
      · rw [if_neg (fun z => by have := (fa_lt _ _).mp z; omega), decide_eq_true h3]; rfl
      · rw [if_pos ((fa_lt _ _).mpr (by omega)), decide_eq_false h3]; rfl
theorem wide (x : Int32) : x.toInt64.toInt = x.toInt := by simp
theorem lg_sum {x c : Int32} {n : Nat} (hn : n ≤ 40) : (lg_cmp (x.toInt64 + c.toInt64) ((nI n).toInt64) ≤ 0) ↔ x.toInt + c.toInt ≤ n := by
  have b1 := t32 x
  have b2 := t32 c
  have e1 : (x.toInt64 + c.toInt64).toInt = x.toInt + c.toInt := by
    rw [fb_addL (by rw [wide, wide]; omega) (by rw [wide, wide]; omega), wide, wide]
  have e2 : ((nI n).toInt64).toInt = n := by rw [wide, nI_toInt (by omega)]
  have e3 : lg_cmp (x.toInt64 + c.toInt64) ((nI n).toInt64) ≤ 0 ↔ ¬ 0 < lg_cmp (x.toInt64 + c.toInt64) ((nI n).toInt64) := ⟨fun h z => (fa_of_lt z).2.1 h, fun h => fa_of_nlt h⟩
  rw [e3, lg_pos, fa_lt64, e1, e2]
  omega
theorem lg_sum' {x c : Int32} {n : Nat} (hn : n ≤ 40) : (0 < lg_cmp (x.toInt64 + c.toInt64) ((nI n).toInt64)) ↔ ¬ x.toInt + c.toInt ≤ n := by
  rw [← lg_sum (x := x) (c := c) hn]
  exact ⟨fun z h => (fa_of_lt z).2.1 h, fun h => Classical.byContradiction (fun z => h (fa_of_nlt z))⟩
