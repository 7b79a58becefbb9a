/-! ===== failing ===== -/
def litB (l k : Nat) : Bool := if l % 2 = 0 then k.testBit (l / 2) else !k.testBit (l / 2)
def hl2 (B : Bk) (l m k : Nat) : Bool := alB B k && litB l k && litB m k
def flF (B : Bk) (v k : Nat) : Bool := alB B k && decide (endB B k = v)
def flB (B : Bk) (v l m : Nat) : Nat := if anyB (fun k => hl2 B l m k && !flF B v k) (2 ^ nmB B) then 0 else fb_ct (hl2 B l m) (2 ^ nmB B)
def stp (s : Int32 × Nat) (c : Nat) (x : Int32) : Int32 × Nat := if s.2 < c then (x, c) else s
def wk1 (B : Bk) (v : Nat) : Nat → Int32 × Nat
  | 0 => (NONE, 0)
  | l + 1 => stp (wk1 B v l) (flB B v l l) (nI l)
def wk2 (B : Bk) (v : Nat) (s : Int32 × Nat) (l st : Nat) : Nat → Int32 × Nat
  | 0 => s
  | j + 1 => stp (wk2 B v s l st j) (flB B v l (st + j)) (nI (20 + 20 * l + (st + j)))
def wk3 (B : Bk) (v : Nat) : Nat → Int32 × Nat
  | 0 => wk1 B v (2 * nmB B)
  | l + 1 => wk2 B v (wk3 B v l) l (2 * (l / 2) + 2) (2 * nmB B - (2 * (l / 2) + 2))
theorem flB_le {B : Bk} (h : nmB B ≤ 10) (v l m : Nat) : flB B v l m ≤ 1024 := by
  have h1 := p10 h
  have h2 := fb_ct_le (hl2 B l m) (2 ^ nmB B)
  unfold flB
  split <;> omega
theorem stp_le {s : Int32 × Nat} {c : Nat} {x : Int32} (h : s.2 ≤ 1024) (hc : c ≤ 1024) : (stp s c x).2 ≤ 1024 := by
  unfold stp
  split
  · exact hc
  · exact h
theorem wk1_le {B : Bk} (h : nmB B ≤ 10) (v : Nat) : ∀ l, (wk1 B v l).2 ≤ 1024
  | 0 => by show 0 ≤ 1024; omega
  | l + 1 => stp_le (wk1_le h v l) (flB_le h v l l)
theorem wk2_le {B : Bk} (h : nmB B ≤ 10) (v : Nat) {s : Int32 × Nat} (hs : s.2 ≤ 1024) (l st : Nat) : ∀ j, (wk2 B v s l st j).2 ≤ 1024
  | 0 => hs
  | j + 1 => stp_le (wk2_le h v hs l st j) (flB_le h v l (st + j))
theorem wk3_le {B : Bk} (h : nmB B ≤ 10) (v : Nat) : ∀ l, (wk3 B v l).2 ≤ 1024
  | 0 => wk1_le h v _
  | l + 1 => wk2_le h v (wk3_le h v l) l _ _
/-- the class gathers what fails -/
theorem c_gather {d : Nat} {M : Mm} {B : Bk} {v : Nat} (hG : Gd M) (hB : BK M B) (hC : ECk M B) (hv : v < 1000) : ∃ N, go (d + 3) 28 0 [.ref 138, .int (nI v), .null] [] M = some (none, N) ∧ KSet M N 142 (flF B v) := by
  have hn := BK_nn hB
  have hp := p10 hn.1
  obtain ⟨N0, s0, k0⟩ := kt_clear (d := d) (KS_failing hG)
  obtain ⟨N, s1, s2⟩ := loopI (σ := Mm) (fun k N => go (d + 3) 28 9 [.ref 138, .int (nI v), .int (nI k)] [] N) (fun k N => KSet M N 142 (fun j => decide (j < k) && flF B v j)) (2 ^ nmB B) (fun k N hk hN => by
    have hGN := KSet_G hN hG
    have hBN : BK N B := BK_KSet hN (by unfold rdL; omega) hB
    have am := c_allMarks (d := d + 1) hGN (BK_c hBN)
    have ha := c_has_al (d := d + 1) hGN hBN (show k < 1024 by omega)
    have o := ok_138 hGN
    have e0 := endB_lt hB k
    have g144 : alB B k = true → gI N 144 k = nI (endB B k) := fun h => by rw [KSet_I hN]; exact hC.2.1 k hk h
    try dsimp only
    rw [q28_9, if_pos o, gr_138_8 hGN, if_pos (ok_5 hGN), am, bI_s, if_neg (by rw [nI_ltI (by omega) (by omega)]; omega), if_pos o, gr_138_9 hGN, if_pos (ok_126 hGN), gr_126_0 hGN, if_pos (ok_127 hGN), ha, bI_s, nI_1]
    simp only [b2i0]
    cases hal : alB B k with
    | false =>
      refine ⟨N, by rw [if_pos rfl], KSet_c hN (fun j _ => ?_)⟩
      by_cases e : j = k
      · subst e; unfold flF; rw [hal]; simp
      · congr 1; exact decide_eq_decide.mpr (by omega)
    | true =>
      have eq : nI (endB B k) = nI v ↔ endB B k = v := nI_eq (by omega) (by omega)
      by_cases hv' : endB B k = v
      · obtain ⟨N', p1, p2⟩ := kt_put (d := d + 1) hN (KS_failing hG) (show k < 1024 by omega)
        refine ⟨N', ?_, KSet_c p2 (fun j _ => ?_)⟩
        · rw [if_neg (by decide), if_pos o, gr_138_5 hGN, if_pos (rk_144 hGN (by omega)), nI_clamp (by omega), g144 hal, if_pos (eq.mpr hv'), if_pos o, gr_138_1 hGN, if_pos (ok_141 hGN), p1, bV_s]
        · by_cases e : j = k
          · subst e; unfold flF; rw [hal, hv']; simp
          · rw [decide_eq_false e, Bool.or_false]; congr 1; exact decide_eq_decide.mpr (by omega)
      · refine ⟨N, ?_, KSet_c hN (fun j _ => ?_)⟩
        · rw [if_neg (by decide), if_pos o, gr_138_5 hGN, if_pos (rk_144 hGN (by omega)), nI_clamp (by omega), g144 hal, if_neg (fun z => hv' (eq.mp z))]
        · by_cases e : j = k
          · subst e; unfold flF; rw [decide_eq_false hv']; simp
          · congr 1; exact decide_eq_decide.mpr (by omega)) (2 ^ nmB B) 0 N0 (by omega) (KSet_c k0 (fun j _ => by simp))
  try dsimp only at s1
  have hGN := KSet_G s2 hG
  have hBN : BK N B := BK_KSet s2 (by unfold rdL; omega) hB
  have am := c_allMarks (d := d + 1) hGN (BK_c hBN)
  refine ⟨N, ?_, KSet_c s2 (fun j _ => ?_)⟩
  · rw [q28_0, if_pos (ok_138 hG), gr_138_1 hG, if_pos (ok_141 hG), s0, bV_s, show (0 : Int32) = nI 0 from rfl, s1, q28_9, if_pos (ok_138 hGN), gr_138_8 hGN, if_pos (ok_5 hGN), am, bI_s, if_pos (by rw [nI_ltI (by omega) (by omega)]; omega)]
  · by_cases e : j < 2 ^ nmB B
    · rw [decide_eq_true e, Bool.true_and]
    · unfold flF; rw [alB_out (by omega)]; simp
def Ws (r k : Nat) : Prop := r = 138 ∧ (k = 10 ∨ k = 11)
def WL (r : Nat) : Prop := r = 147
/-- where the weighing stands -/
def WgS (M N : Mm) (s : Int32 × Nat) : Prop := Sm Ws WL M N ∧ gI N 138 10 = s.1 ∧ gI N 138 11 = nI s.2
theorem c_keepLit {d l : Nat} {M N : Mm} {g : Nat → Bool} (hG : Gd M) (hX : Wd M) (h : KSet M N 147 g) (hl : l < 20) : ∃ N', go (d + 3) 30 0 [.ref 138, .int (nI l)] [] N = some (none, N') ∧ KSet M N' 147 (fun k => g k && litB l k) := by
  have hGN := KSet_G h hG
  have e1 : nI l &&& (1 : Int32) = nI (l % 2) := by rw [show (1 : Int32) = nI (2 ^ 1 - 1) from rfl, fa_mask]
  have e2 : nI l >>> ((1 : Int32) &&& 31) = nI (l / 2) := by rw [pk_shrN (n := l) (by omega) ((1 : Int32) &&& 31) 1 (by decide)]
  have e3 : nI (l % 2) = (0 : Int32) ↔ l % 2 = 0 := nI_eq (a := l % 2) (b := 0) (by omega) (by omega)
  rw [q30_0, e1, e2]
  by_cases h0 : l % 2 = 0
  · obtain ⟨N', p1, p2⟩ := kt_keepOn (d := d) (m := l / 2) h (by omega) (by omega) hX (KS_holding hG)
    refine ⟨N', ?_, KSet_c p2 (fun k _ => by unfold litB; rw [if_pos h0])⟩
    rw [if_pos (e3.mpr h0), if_pos (ok_138 hGN), gr_138_7 hGN, if_pos (ok_146 hGN), p1, bV_s]
  · obtain ⟨N', p1, p2⟩ := kt_keepOff (d := d) (m := l / 2) h (by omega) (by omega) hX (KS_holding hG)
    refine ⟨N', ?_, KSet_c p2 (fun k _ => by unfold litB; rw [if_neg h0])⟩
    rw [if_neg (fun z => h0 (e3.mp z)), if_pos (ok_138 hGN), gr_138_7 hGN, if_pos (ok_146 hGN), p1, bV_s]
theorem c_weigh {d v l m : Nat} {M N N1 : Mm} {B : Bk} {s : Int32 × Nat} {x : Int32} (hG : Gd M) (hB : BK M B) (hF : ∀ k, k < 1024 → kb (gL M 142) k = flF B v k) (hW : WgS M N s) (hs : s.2 ≤ 1024) (h : KSet N N1 147 (hl2 B l m)) : ∃ N', go (d + 3) 31 0 [.ref 138, .int x, .null] [] N1 = some (none, N') ∧ WgS M N' (stp s (flB B v l m) x) := by
  have hn := BK_nn hB
  have hp := p10 hn.1
  obtain ⟨hS, w1, w2⟩ := hW
  have hGN := Gd_Sm hS hG
  have hG1 := KSet_G h hGN
  have hF' : ∀ k, k < 1024 → kb (gL N 142) k = flF B v k := fun k hk => by rw [hS.2.2.2 142 (by unfold WL; omega)]; exact hF k hk
  have sz := kt_size (d := d) h (KS_holding hGN)
  have wi := kt_isWithin (d := d + 1) (b := 141) (v := 142) h (by omega) hF' (KS_holding hGN) (KS_failing hGN)
  have out : ∀ k, 2 ^ nmB B ≤ k → hl2 B l m k = false := fun k hk => by unfold hl2; rw [alB_out hk]; rfl
  rw [ct_cut (n := 2 ^ nmB B) (by omega) (fun k h _ => out k h)] at sz
  rw [any_cut (n := 2 ^ nmB B) (by omega) (fun k h _ => by rw [out k h]; rfl)] at wi
  have hc := fb_ct_le (hl2 B l m) (2 ^ nmB B)
  have i11 : gI N1 138 11 = nI s.2 := by rw [KSet_I h]; exact w2
  have i10 : gI N1 138 10 = s.1 := by rw [KSet_I h]; exact w1
  have S1 : Sm Ws WL M N1 := Sm_trans hS (KSet_Sm h rfl)
  have same : WgS M N1 s := ⟨S1, i10, i11⟩
  rw [q31_0, if_pos (ok_138 hG1), gr_138_7 hG1, if_pos (ok_146 hG1), sz, bI_s, if_pos (ok_138 hG1), i11]
  simp only [nI_leI (show fb_ct (hl2 B l m) (2 ^ nmB B) < 2 ^ 31 by omega) (show s.2 < 2 ^ 31 by omega)]
  by_cases h1 : fb_ct (hl2 B l m) (2 ^ nmB B) ≤ s.2
  · refine ⟨N1, by rw [if_pos h1], ?_⟩
    have : stp s (flB B v l m) x = s := by
      unfold stp flB
      rw [if_neg]
      split <;> omega
    rw [this]; exact same
  · rw [if_neg h1, if_pos (ok_138 hG1), if_pos (ok_138 hG1), gr_138_7 hG1, if_pos (ok_146 hG1), gr_138_1 hG1, wi, bI_s]
    simp only [b2i0]
    cases ha : anyB (fun k => hl2 B l m k && !flF B v k) (2 ^ nmB B) with
    | true =>
      refine ⟨N1, by rw [if_pos (by decide)], ?_⟩
      have : stp s (flB B v l m) x = s := by
        unfold stp flB
        rw [ha, if_pos rfl, if_neg (by omega)]
      rw [this]; exact same
    | false =>
      have : stp s (flB B v l m) x = (x, fb_ct (hl2 B l m) (2 ^ nmB B)) := by
        unfold stp flB
        rw [ha]
        simp only [Bool.false_eq_true, if_false]
        rw [if_pos (by omega)]
      rw [this]
      refine ⟨sI (sI N1 138 10 x) 138 11 (nI (fb_ct (hl2 B l m) (2 ^ nmB B))), ?_, Sm_trans S1 (Sm_trans (Sm_sI (by unfold Ws; omega)) (Sm_sI (by unfold Ws; omega))), ?_, gI_at⟩
      · rw [if_neg (by decide), if_pos (ok_138 hG1), bM_d, okO_sI, if_pos (ok_138 hG1), bM_d]
      · rw [gI_ne (by omega), gI_at]
theorem lit_st : ∀ l, l < 20 → (nI l ||| (1 : Int32)) + (1 : Int32) = nI (2 * (l / 2) + 2) := by decide +kernel
theorem lit_st' : ∀ l, l < 20 → ((2 : Int32) * (nI l / (2 : Int32))) + (2 : Int32) = nI (2 * (l / 2) + 2) := by decide +kernel
theorem BK_ws {M N : Mm} {B : Bk} (hB : BK M B) (h : Sm Ws WL M N) : BK N B := BK_cong (M := M) (fun r k z => h.2.2.1 r k (by unfold rdB at z; unfold Ws; omega)) (fun r z => h.2.2.2 r (by unfold rdL at z; unfold WL; omega)) hB
/-- all allowed kinds into the set -/
theorem c_hold0 {d : Nat} {M N : Mm} {B : Bk} {s : Int32 × Nat} (hG : Gd M) (hB : BK M B) (hW : WgS M N s) : ∃ N1, go (d + 1) 44 0 [.ref 146, .ref 127] [] N = some (none, N1) ∧ KSet N N1 147 (alB B) := by
  have hGN := Gd_Sm hW.1 hG
  have hBN := BK_ws hB hW.1
  obtain ⟨N1, p1, p2⟩ := kt_take (d := d) (KS_holding hGN) (KS_allowed hGN) rfl rfl
  exact ⟨N1, p1, KSet_c p2 (fun k hk => hBN.2.2.2.1.2.1 k hk)⟩
theorem c_weakest {d v : Nat} {M : Mm} {B : Bk} (hG : Gd M) (hB : BK M B) (hF : ∀ k, k < 1024 → kb (gL M 142) k = flF B v k) : ∃ N, go (d + 4) 29 0 [.ref 138, .null, .null, .null] [] M = some (some (.int (wk3 B v (2 * nmB B)).1), N) ∧ Sm Ws WL M N := by
  have hn := BK_nn hB
  have c1 : gI M 5 0 = nI (nmB B) := hB.1.1
  have W0 : WgS M (sI (sI M 138 10 NONE) 138 11 0) (wk1 B v 0) := ⟨Sm_trans (Sm_sI (by unfold Ws; omega)) (Sm_sI (by unfold Ws; omega)), by rw [gI_ne (by omega), gI_at]; rfl, gI_at⟩
  have c1' : gI (sI (sI M 138 10 NONE) 138 11 0) 5 0 = nI (nmB B) := by rw [gI_ne (by omega), gI_ne (by omega)]; exact c1
  have e2 : (2 : Int32) * nI (nmB B) = nI (2 * nmB B) := by rw [show (2 : Int32) = nI 2 from rfl, pk_mul]
  have hG0 : Gd (sI (sI M 138 10 NONE) 138 11 0) := hG
  obtain ⟨N1, s1, s2⟩ := loopI (σ := Mm) (fun l N => go (d + 4) 29 23 [.ref 138, .int (nI (2 * nmB B)), .int (nI l), .null] [] N) (fun l N => WgS M N (wk1 B v l)) (2 * nmB B) (fun l N hl hN => by
    have hGN := Gd_Sm hN.1 hG
    obtain ⟨A1, a1, a2⟩ := c_hold0 (d := d + 2) hG hB hN
    obtain ⟨A2, b1, b2⟩ := c_keepLit (d := d) (l := l) hGN (BK_ws hB hN.1).2.2.2.2.2.2.1 a2 (by omega)
    have b2 : KSet N A2 147 (hl2 B l l) := KSet_c b2 (fun k _ => by unfold hl2; rw [Bool.and_assoc, Bool.and_self])
    obtain ⟨A3, c1, c2⟩ := c_weigh (d := d) (x := nI l) hG hB hF hN (wk1_le hn.1 v l) b2
    have hGA1 := KSet_G a2 hGN
    have hGA2 := KSet_G b2 hGN
    refine ⟨A3, ?_, c2⟩
    try dsimp only
    rw [q29_23, if_neg (by rw [nI_leI (by omega) (by omega)]; omega), if_pos (ok_138 hGN), if_pos (ok_138 hGN), gr_138_9 hGN, if_pos (ok_126 hGN), gr_138_7 hGN, if_pos (ok_146 hGN), gr_126_0 hGN, a1, bV_s, if_pos (ok_138 hGA1), b1, bV_s, if_pos (ok_138 hGA2), c1, bV_s, nI_1]) (2 * nmB B) 0 (sI (sI M 138 10 NONE) 138 11 0) (by omega) W0
  try dsimp only at s1
  obtain ⟨⟨N2, z⟩, t1, t2⟩ := loopI (σ := Mm × Value) (fun l s => go (d + 4) 29 60 [.ref 138, .int (nI (2 * nmB B)), .int (nI l), s.2] [] s.1) (fun l s => WgS M s.1 (wk3 B v l)) (2 * nmB B) (fun l s hl hs => by
    obtain ⟨N, z⟩ := s
    try dsimp only at hs
    have hst : 2 * (l / 2) + 2 ≤ 2 * nmB B := by omega
    obtain ⟨N', u1, u2⟩ := loopI (σ := Mm) (fun j N => go (d + 4) 29 71 [.ref 138, .int (nI (2 * nmB B)), .int (nI l), .int (nI (2 * (l / 2) + 2 + j))] [] N) (fun j N => WgS M N (wk2 B v (wk3 B v l) l (2 * (l / 2) + 2) j)) (2 * nmB B - (2 * (l / 2) + 2)) (fun j N hj hN => by
      have hGN := Gd_Sm hN.1 hG
      have hWd : Wd N := (BK_ws hB hN.1).2.2.2.2.2.2.1
      obtain ⟨A1, a1, a2⟩ := c_hold0 (d := d + 2) hG hB hN
      obtain ⟨A2, b1, b2⟩ := c_keepLit (d := d) (l := l) hGN hWd a2 (by omega)
      obtain ⟨A3, d1, d2⟩ := c_keepLit (d := d) (l := 2 * (l / 2) + 2 + j) hGN hWd b2 (by omega)
      obtain ⟨A4, c1, c2⟩ := c_weigh (d := d) (x := nI (20 + 20 * l + (2 * (l / 2) + 2 + j))) hG hB hF hN (wk2_le hn.1 v (wk3_le hn.1 v l) l _ j) d2
      have hGA1 := KSet_G a2 hGN
      have hGA2 := KSet_G b2 hGN
      have hGA3 := KSet_G d2 hGN
      have en : ((20 : Int32) + ((20 : Int32) * nI l)) + nI (2 * (l / 2) + 2 + j) = nI (20 + 20 * l + (2 * (l / 2) + 2 + j)) := by
        rw [show (20 : Int32) = nI 20 from rfl, pk_mul, nI_add, nI_add]
      refine ⟨A4, ?_, c2⟩
      try dsimp only
      rw [q29_71, if_neg (by rw [nI_leI (by omega) (by omega)]; omega), if_pos (ok_138 hGN), if_pos (ok_138 hGN), gr_138_9 hGN, if_pos (ok_126 hGN), gr_138_7 hGN, if_pos (ok_146 hGN), gr_126_0 hGN, a1, bV_s, if_pos (ok_138 hGA1), b1, bV_s, if_pos (ok_138 hGA2), d1, bV_s, if_pos (ok_138 hGA3), en, c1, bV_s, nI_1]
      rfl) (2 * nmB B - (2 * (l / 2) + 2)) 0 N (by omega) hs
    try dsimp only at u1
    refine ⟨(N', .int (nI (2 * (l / 2) + 2 + (2 * nmB B - (2 * (l / 2) + 2))))), ?_, u2⟩
    try dsimp only
    rw [q29_60, if_neg (by rw [nI_leI (by omega) (by omega)]; omega), lit_st l (by omega)]
    refine Eq.trans u1 ?_
    rw [q29_71, if_pos (by rw [nI_leI (by omega) (by omega)]; omega), nI_1]) (2 * nmB B) 0 (N1, .null) (by omega) s2
  try dsimp only at t1 t2
  have hG2 := Gd_Sm t2.1 hG
  refine ⟨N2, ?_, t2.1⟩
  rw [q29_0, if_pos (ok_138 hG), bM_d, okO_sI, if_pos (ok_138 hG), bM_d, if_pos (ok_138 hG0), gr_138_8 hG0, if_pos (ok_5 hG0), c1', e2, show (0 : Int32) = nI 0 from rfl]
  refine Eq.trans s1 ?_
  rw [q29_23, if_pos (by rw [nI_leI (by omega) (by omega)]; omega), show (0 : Int32) = nI 0 from rfl, t1, q29_60, if_pos (by rw [nI_leI (by omega) (by omega)]; omega), if_pos (ok_138 hG2), t2.2.1]
/-- the model's side -/
theorem m_isLit {d k l : Nat} {M : Mm} (hk : k < 1024) (hl : l < 20) : go (d + 1) 218 0 [.int (nI k), .int (nI l)] [] M = some (some (.int (b2i (litB l k))), M) := by
  have e1 : nI l / (2 : Int32) = nI (l / 2) := pk_div (a := l) (d := 2) (by omega) (by omega) (by omega)
  have e2 : nI l - nI l / (2 : Int32) * (2 : Int32) = nI (l % 2) := pk_rem (a := l) (d := 2) (by omega) (by omega) (by omega)
  rw [q218_0, e2, e1, bitN (by omega) (by omega)]
  unfold litB
  rcases (show l % 2 = 0 ∨ l % 2 = 1 by omega) with h | h
  · rw [h]; cases k.testBit (l / 2) <;> rfl
  · rw [h]; cases k.testBit (l / 2) <;> rfl
theorem m_failsBy {d v l m : Nat} {M : Mm} {B : Bk} (hG : Gd M) (hB : BK M B) (hf : ∀ k, k < 2 ^ nmB B → gI M 193 k = fnB B k) (hv : v < 1000) (hl : l < 20) (hm : m < 20) : go (d + 2) 219 0 [.ref 171, .int (nI l), .int (nI m), .int (nI v), .null, .null] [] M = some (some (.int (nI (flB B v l m))), M) := by
  have hn := BK_nn hB
  have hp := p10 hn.1
  have o := ok_171 hG
  have c9 : gI M 171 36 = nI (2 ^ nmB B) := hB.1.2.2.2.2.2.2.2.2.1
  rw [q219_0, show (0 : Int32) = nI 0 from rfl]
  refine loopX (σ := Int32) (fun k s => go (d + 2) 219 6 [.ref 171, .int (nI l), .int (nI m), .int (nI v), .int s, .int (nI k)] [] M) (fun k s => s = nI (fb_ct (hl2 B l m) k) ∧ anyB (fun k => hl2 B l m k && !flF B v k) k = false) (fun o => o = some (some (.int (nI (flB B v l m))), M)) (2 ^ nmB B) (fun k s hk hs => ?_) (fun s hs => ?_) (2 ^ nmB B) 0 (nI 0) (by omega) ⟨rfl, rfl⟩
  · obtain ⟨rfl, h2⟩ := hs
    try dsimp only
    rw [q219_6, if_pos o, c9, if_neg (by rw [nI_leI (by omega) (by omega)]; omega), if_pos o, gr_171_43 hG, if_pos (rk_193 hG (by omega)), nI_clamp (by omega), hf k hk, m_isLit (by omega) hl, bI_s, m_isLit (by omega) hm, bI_s, if_pos o, gr_171_43 hG, if_pos (rk_193 hG (by omega)), hf k hk, nI_1]
    simp only [fn_none hB, b2i0, fn_eq hB hv]
    have nx : ∀ x : Int32, hl2 B l m k = false → x = nI (fb_ct (hl2 B l m) k) → (fun o => o = some (some (Value.int (nI (flB B v l m))), M)) (go (d + 2) 219 6 [.ref 171, .int (nI l), .int (nI m), .int (nI v), .int x, .int (nI (k + 1))] [] M) ∨ ∃ s', go (d + 2) 219 6 [.ref 171, .int (nI l), .int (nI m), .int (nI v), .int x, .int (nI (k + 1))] [] M = go (d + 2) 219 6 [.ref 171, .int (nI l), .int (nI m), .int (nI v), .int s', .int (nI (k + 1))] [] M ∧ s' = nI (fb_ct (hl2 B l m) (k + 1)) ∧ anyB (fun k => hl2 B l m k && !flF B v k) (k + 1) = false := fun x h0 hx => Or.inr ⟨x, rfl, by rw [fb_ct_succ, h0]; exact hx, by rw [anyB_s, h2, h0]; rfl⟩
    cases h3 : alB B k with
    | false =>
      rw [if_pos rfl]
      exact nx _ (by unfold hl2; rw [h3]; rfl) rfl
    | true =>
      rw [if_neg (by decide)]
      cases h4 : litB l k with
      | false =>
        rw [if_pos rfl]
        exact nx _ (by unfold hl2; rw [h4]; simp) rfl
      | true =>
        rw [if_neg (by decide)]
        cases h5 : litB m k with
        | false =>
          rw [if_pos rfl]
          exact nx _ (by unfold hl2; rw [h5]; simp) rfl
        | true =>
          have h6 : hl2 B l m k = true := by unfold hl2; rw [h3, h4, h5]; rfl
          rw [if_neg (by decide), nI_1]
          by_cases h7 : endB B k = v
          · right
            refine ⟨_, ?_, rfl, ?_⟩
            · rw [if_pos (by rw [decide_eq_true h7]; rfl), fb_ct_succ, h6]; rfl
            · rw [anyB_s, h2, h6]; unfold flF; rw [h3, decide_eq_true h7]; rfl
          · left
            have h8 : anyB (fun k => hl2 B l m k && !flF B v k) (2 ^ nmB B) = true := anyB_iff.mpr ⟨k, hk, by rw [h6]; unfold flF; rw [decide_eq_false h7]; simp⟩
            rw [if_neg (by rw [decide_eq_false h7]; simp)]
            unfold flB
            rw [h8]; rfl
  · obtain ⟨rfl, h2⟩ := hs
    try dsimp only
    rw [q219_6, if_pos o, c9, if_pos (by rw [nI_leI (by omega) (by omega)]; omega)]
    unfold flB
    rw [h2]; rfl
theorem m_failing {d v : Nat} {M : Mm} {B : Bk} (hG : Gd M) (hB : BK M B) (hf : ∀ k, k < 2 ^ nmB B → gI M 193 k = fnB B k) (hv : v < 1000) (w : Nat) (hw : w < 2) : go (d + 3) 220 39 [.ref 171, .int (nI v), .int (nI w), .int (0 : Int32), .int (0 : Int32), .null, .null, .null] [] M = some (some (.int (if w = 0 then nI (fb_ct (flF B v) (2 ^ nmB B)) else (wk3 B v (2 * nmB B)).1)), M) := by
  have hn := BK_nn hB
  have hp := p10 hn.1
  have o := ok_171 hG
  have c9 : gI M 171 36 = nI (2 ^ nmB B) := hB.1.2.2.2.2.2.2.2.2.1
  have c2 : gI M 171 5 = nI (nmB B) := hB.1.2.1
  have e2 : (2 : Int32) * nI (nmB B) = nI (2 * nmB B) := by rw [show (2 : Int32) = nI 2 from rfl, pk_mul]
  rw [show (0 : Int32) = nI 0 from rfl]
  obtain ⟨s, s1, s2⟩ := loopI (σ := Int32) (fun k s => go (d + 3) 220 39 [.ref 171, .int (nI v), .int (nI w), .int s, .int (nI k), .null, .null, .null] [] M) (fun k s => s = nI (fb_ct (flF B v) k)) (2 ^ nmB B) (fun k s hk hs => by
    subst hs
    refine ⟨_, ?_, rfl⟩
    try dsimp only
    rw [q220_39, if_pos o, c9, if_neg (by rw [nI_leI (by omega) (by omega)]; omega), if_pos o, gr_171_43 hG, if_pos (rk_193 hG (by omega)), nI_clamp (by omega), hf k hk, nI_1, nI_1, fb_ct_succ, Int32.add_zero]
    simp only [fn_eq hB hv]
    unfold flF
    cases (alB B k && decide (endB B k = v)) <;> rfl) (2 ^ nmB B) 0 (nI 0) (by omega) rfl
  try dsimp only at s1
  rw [s1, q220_39, if_pos o, c9, if_pos (by rw [nI_leI (by omega) (by omega)]; omega), s2]
  rcases (show w = 0 ∨ w = 1 by omega) with rfl | rfl
  · rw [if_pos (by decide), if_pos rfl]
  · rw [if_neg (by decide), if_neg (by omega)]
    have gt : ∀ {a b : Nat}, a ≤ 1024 → b ≤ 1024 → (nI a ≤ nI b ↔ a ≤ b) := fun ha hb => nI_leI (by omega) (by omega)
    obtain ⟨⟨a, b⟩, t1, t2, t3⟩ := loopI (σ := Int32 × Int32) (fun l s => go (d + 3) 220 89 [.ref 171, .int (nI v), .int (nI 1), .int (nI (fb_ct (flF B v) (2 ^ nmB B))), .int s.1, .int s.2, .int (nI l), .null] [] M) (fun l s => s.1 = (wk1 B v l).1 ∧ s.2 = nI (wk1 B v l).2) (2 * nmB B) (fun l s hl hs => by
      obtain ⟨a, b⟩ := s
      obtain ⟨rfl, rfl⟩ := hs
      have hfb := m_failsBy (d := d) (l := l) (m := l) hG hB hf hv (by omega) (by omega)
      have hw1 : wk1 B v (l + 1) = stp (wk1 B v l) (flB B v l l) (nI l) := rfl
      refine ⟨((wk1 B v (l + 1)).1, nI (wk1 B v (l + 1)).2), ?_, rfl, rfl⟩
      try dsimp only
      rw [q220_89, if_pos o, c2, e2, if_neg (by rw [nI_leI (by omega) (by omega)]; omega), if_pos o, hfb, bI_s, if_pos o, hfb, bI_s, nI_1, hw1]
      simp only [gt (flB_le hn.1 v l l) (wk1_le hn.1 v l)]
      unfold stp
      by_cases h : (wk1 B v l).2 < flB B v l l
      · rw [if_neg (by omega), if_pos h]
      · rw [if_pos (by omega), if_neg h]) (2 * nmB B) 0 (NONE, 0) (by omega) ⟨rfl, rfl⟩
    try dsimp only at t1 t2 t3
    obtain ⟨⟨a', b', z⟩, r1, r2, r3⟩ := loopI (σ := Int32 × Int32 × Value) (fun l s => go (d + 3) 220 138 [.ref 171, .int (nI v), .int (nI 1), .int (nI (fb_ct (flF B v) (2 ^ nmB B))), .int s.1, .int s.2.1, .int (nI l), s.2.2] [] M) (fun l s => s.1 = (wk3 B v l).1 ∧ s.2.1 = nI (wk3 B v l).2) (2 * nmB B) (fun l s hl hs => by
      obtain ⟨a, b, z⟩ := s
      obtain ⟨e1, e1'⟩ := hs
      try dsimp only at e1 e1'
      subst e1; subst e1'
      have hst : 2 * (l / 2) + 2 ≤ 2 * nmB B := by omega
      obtain ⟨⟨a', b'⟩, u1, u2, u3⟩ := loopI (σ := Int32 × Int32) (fun j s => go (d + 3) 220 159 [.ref 171, .int (nI v), .int (nI 1), .int (nI (fb_ct (flF B v) (2 ^ nmB B))), .int s.1, .int s.2, .int (nI l), .int (nI (2 * (l / 2) + 2 + j))] [] M) (fun j s => s.1 = (wk2 B v (wk3 B v l) l (2 * (l / 2) + 2) j).1 ∧ s.2 = nI (wk2 B v (wk3 B v l) l (2 * (l / 2) + 2) j).2) (2 * nmB B - (2 * (l / 2) + 2)) (fun j s hj hs => by
        obtain ⟨a, b⟩ := s
        obtain ⟨rfl, rfl⟩ := hs
        have hfb := m_failsBy (d := d) (l := l) (m := 2 * (l / 2) + 2 + j) hG hB hf hv (by omega) (by omega)
        have hw2 : wk2 B v (wk3 B v l) l (2 * (l / 2) + 2) (j + 1) = stp (wk2 B v (wk3 B v l) l (2 * (l / 2) + 2) j) (flB B v l (2 * (l / 2) + 2 + j)) (nI (20 + 20 * l + (2 * (l / 2) + 2 + j))) := rfl
        have en : ((20 : Int32) + ((20 : Int32) * nI l)) + nI (2 * (l / 2) + 2 + j) = nI (20 + 20 * l + (2 * (l / 2) + 2 + j)) := by
          rw [show (20 : Int32) = nI 20 from rfl, pk_mul, nI_add, nI_add]
        refine ⟨((wk2 B v (wk3 B v l) l (2 * (l / 2) + 2) (j + 1)).1, nI (wk2 B v (wk3 B v l) l (2 * (l / 2) + 2) (j + 1)).2), ?_, rfl, rfl⟩
        try dsimp only
        rw [q220_159, if_pos o, c2, e2, if_neg (by rw [nI_leI (by omega) (by omega)]; omega), if_pos o, hfb, bI_s, if_pos o, hfb, bI_s, nI_1, hw2, en]
        simp only [gt (flB_le hn.1 v l (2 * (l / 2) + 2 + j)) (wk2_le hn.1 v (wk3_le hn.1 v l) l (2 * (l / 2) + 2) j)]
        unfold stp
        by_cases h : (wk2 B v (wk3 B v l) l (2 * (l / 2) + 2) j).2 < flB B v l (2 * (l / 2) + 2 + j)
        · rw [if_neg (by omega), if_pos h]; rfl
        · rw [if_pos (by omega), if_neg h]; rfl) (2 * nmB B - (2 * (l / 2) + 2)) 0 ((wk3 B v l).1, nI (wk3 B v l).2) (by omega) ⟨rfl, rfl⟩
      try dsimp only at u1 u2 u3
      refine ⟨(a', b', .int (nI (2 * (l / 2) + 2 + (2 * nmB B - (2 * (l / 2) + 2))))), ?_, u2, u3⟩
      try dsimp only
      rw [q220_138, if_pos o, c2, e2, if_neg (by rw [nI_leI (by omega) (by omega)]; omega), lit_st' l (by omega)]
      refine Eq.trans u1 ?_
      rw [q220_159, if_pos o, c2, e2, if_pos (by rw [nI_leI (by omega) (by omega)]; omega), nI_1]) (2 * nmB B) 0 (a, b, .null) (by omega) ⟨t2, t3⟩
    try dsimp only at r1 r2 r3
    rw [show (0 : Int32) = nI 0 from rfl]
    refine Eq.trans t1 ?_
    rw [q220_89, if_pos o, c2, e2, if_pos (by rw [nI_leI (by omega) (by omega)]; omega), show (0 : Int32) = nI 0 from rfl, r1, q220_138, if_pos o, c2, e2, if_pos (by rw [nI_leI (by omega) (by omega)]; omega), r2]
theorem op_failing {E M : Mm} {B : Bk} {d : Nat} (hI : Inv E M B) (x y : Int32) : Alike E M (d + 5) 135 220 [.ref 1, .int x, .int y] [.ref 171, .int x, .int y, .null, .null, .null, .null, .null] := by
  have hG := hI.1
  have hB := hI.2.2.2.2.2.2.1
  have hE := hI.2.2.2.2.2.2.2.2.1
  have hn := BK_nn hB
  have hp := p10 hn.1
  have i1 : ∀ N, go (d + 4) 154 0 [.long x.toInt64, .null, .long (0 : Int64), .null, .long (999 : Int64), .null] [] N = some (some (.int (b2i (inR 1000 x))), N) := fun N => by
    rw [show (999 : Int64) = (999 : Int32).toInt64 from rfl, m_inR (n := 1000) rfl]
  have i2 : ∀ N, go (d + 4) 154 0 [.long y.toInt64, .null, .long (0 : Int64), .null, .long (1 : Int64), .null] [] N = some (some (.int (b2i (inR 2 y))), N) := fun N => by
    rw [show (1 : Int64) = (1 : Int32).toInt64 from rfl, m_inR (n := 2) rfl]
  cases h1 : inR 1000 x with
  | false =>
    refine Alike_q hI (-1000001) M (sI M 171 0 0) ?_ Sm_refl ?_ sm0
    · rw [q135_0, inR_c (n := 1000) (c := 1000) (by omega) rfl, h1]; rfl
    · rw [q220_0, if_pos (ok_171 hG), bM_d, i1, bI_s, h1, if_pos (by decide)]
  | true =>
    cases h2 : inR 2 y with
    | false =>
      refine Alike_q hI (-1000001) M (sI M 171 0 0) ?_ Sm_refl ?_ sm0
      · rw [q135_0, inR_c (n := 1000) (c := 1000) (by omega) rfl, h1, cond_true]
        by_cases y0 : y < 0
        · rw [if_pos y0]
        · rw [if_neg y0, if_neg (fun q => ?_)]
          obtain ⟨j, hj, rfl⟩ := nI_of2 (x := y) (M := 1) (n := 1) rfl y0 q
          rw [inR_nI (by omega) (by omega)] at h2; cases h2
      · rw [q220_0, if_pos (ok_171 hG), bM_d, i1, bI_s, h1, if_neg (by decide), i2, bI_s, h2, if_pos (by decide)]
    | true =>
      obtain ⟨v, hv, rfl⟩ := inR_n (by omega) h1
      obtain ⟨w, hw, rfl⟩ := inR_n (by omega) h2
      obtain ⟨N, s, hS, hC⟩ := c_learn (d := d) hG hB hE
      have hIN := Inv_learn hI hS hC
      have hGN := hIN.1
      have hBN := hIN.2.2.2.2.2.2.1
      obtain ⟨N1, s1, k1⟩ := c_gather (d := d + 1) hGN hBN hC hv
      have S1 : Sm Qs QL N N1 := KSet_Sm k1 (by unfold QL; omega)
      have hI1 := Inv_q hIN S1
      have hG1 := hI1.1
      have hB1 := hI1.2.2.2.2.2.2.1
      have fin : ∀ (r : Int32) (N2 : Mm), go (d + 5) 135 0 [.ref 1, .int (nI v), .int (nI w)] [] M = some (some (.int r), N2) → Sm Qs QL N1 N2 → r = (if w = 0 then nI (fb_ct (flF B v) (2 ^ nmB B)) else (wk3 B v (2 * nmB B)).1) → Alike E M (d + 5) 135 220 [.ref 1, .int (nI v), .int (nI w)] [.ref 171, .int (nI v), .int (nI w), .null, .null, .null, .null, .null] := fun r N2 hr S2 hrr => by
        have hI2 := Inv_q hI1 S2
        have hG2 := hI2.1
        have hB2 := (thr hI2).2.2.2.2.2.2.1
        obtain ⟨N3, t, hS3, hf⟩ := m_findEnds (d := d + 1) (M := sI N2 171 0 0) hG2 hB2
        have hG3 := Gd_Sm hS3 (show Gd (sI N2 171 0 0) from hG2)
        have hB3 := BK_mf hB2 hS3
        refine ⟨r, N2, N3, B, hr, ?_, Inv_q (thr hI2) (q_mf hS3)⟩
        rw [q220_0, if_pos (ok_171 hG2), bM_d, i1, bI_s, h1, if_neg (by decide), i2, bI_s, h2, if_neg (by decide), okO_sI, if_pos (ok_171 hG2), t, bV_s, hrr]
        exact m_failing (d := d + 2) hG3 hB3 hf hv w hw
      have t0 : nI w ≤ (1 : Int32) := (nI_leI (a := w) (b := 1) (by omega) (by omega)).mpr (by omega)
      rcases (show w = 0 ∨ w = 1 by omega) with rfl | rfl
      · refine fin _ N1 ?_ Sm_refl rfl
        have sz := kt_size (d := d + 2) k1 (KS_failing hGN)
        rw [ct_cut (n := 2 ^ nmB B) (by omega) (fun k h _ => by unfold flF; rw [alB_out h]; rfl)] at sz
        rw [q135_0, inR_c (n := 1000) (c := 1000) (by omega) rfl, h1, cond_true, if_neg (nI_pos (by omega)), if_pos t0, if_pos (ok_1 hG), gr_1_5 hG, if_pos (ok_138 hG), s, bV_s, if_pos (ok_1 hGN), gr_1_5 hGN, if_pos (ok_138 hGN), s1, bV_s, if_pos (by decide), if_pos (ok_1 hG1), gr_1_5 hG1, if_pos (ok_138 hG1), gr_138_1 hG1, if_pos (ok_141 hG1), sz, bI_s, if_pos rfl]
      · obtain ⟨N2, s2, S2⟩ := c_weakest (d := d) (v := v) hG1 hB1 (KSet_g k1)
        refine fin _ N2 ?_ (Sm_mono (fun r k z => by unfold Ws at z; unfold Qs; omega) (fun r z => by unfold WL at z; unfold QL; omega) S2) rfl
        rw [q135_0, inR_c (n := 1000) (c := 1000) (by omega) rfl, h1, cond_true, if_neg (nI_pos (by omega)), if_pos t0, if_pos (ok_1 hG), gr_1_5 hG, if_pos (ok_138 hG), s, bV_s, if_pos (ok_1 hGN), gr_1_5 hGN, if_pos (ok_138 hGN), s1, bV_s, if_neg (by decide), if_pos (ok_1 hG1), gr_1_5 hG1, if_pos (ok_138 hG1), s2, bI_s, if_neg (by omega)]
