/-! ===== buyers ===== -/
/-- two sheets' findings -/
theorem find_l {E M : Mm} {B : Bk} (hI : Inv E M B) (x : Int32) : Inv E (sI (sI (sI (sI M 1 11 x) 171 0 0) 171 1 0) 171 1 x) B := Inv_l hI (Sm_trans (Sm_sI (by unfold Ls Qs; omega)) (Sm_trans (Sm_sI (by unfold Ls Qs; omega)) (Sm_trans (Sm_sI (by unfold Ls Qs; omega)) (Sm_sI (by unfold Ls Qs; omega))))) rfl
theorem find_l' {E M : Mm} {B : Bk} (hI : Inv E M B) (x : Int32) : Inv E (sI (sI (sI M 1 11 x) 171 0 0) 171 1 x) B := Inv_l hI (Sm_trans (Sm_sI (by unfold Ls Qs; omega)) (Sm_trans (Sm_sI (by unfold Ls Qs; omega)) (Sm_sI (by unfold Ls Qs; omega)))) rfl
abbrev B1 : Nat → Nat → Prop := fun r _ => r = 153 ∨ r = 154
abbrev B2 : Nat → Nat → Prop := fun r _ => r = 195 ∨ r = 196
def itB (M : Mm) (s p j : Nat) : Int32 := gI M (156 + 2 * s) (p + j)
theorem c_bWrite {d s p c : Nat} {M : Mm} {B : Bk} (hG : Gd M) (hB : BK M B) (hs : s < 8) (hpc : p + c ≤ 40) (hc : c ≤ 8) : ∃ N, go (d + 2) 137 100 [.ref 1, .int (nI s), .int (nI p), .int (nI c), .ref (155 + 2 * s), .int (0 : Int32)] [] M = some (some (.int (nI c)), sI N 1 11 0) ∧ Sm B1 NoL M N ∧ (∀ b, b < c → gI N 153 b = itB M s p b ∧ gI N 154 b = nI (vrB B)) ∧ ∀ b, c ≤ b → gI N 153 b = gI M 153 b ∧ gI N 154 b = gI M 154 b := by
  rw [show (0 : Int32) = nI 0 from rfl]
  obtain ⟨N, s1, s2, s3, s4⟩ := loopI (σ := Mm) (fun j N => go (d + 2) 137 100 [.ref 1, .int (nI s), .int (nI p), .int (nI c), .ref (155 + 2 * s), .int (nI j)] [] N) (fun j N => Sm B1 NoL M N ∧ (∀ b, b < j → gI N 153 b = itB M s p b ∧ gI N 154 b = nI (vrB B)) ∧ ∀ b, j ≤ b → gI N 153 b = gI M 153 b ∧ gI N 154 b = gI M 154 b) c (fun j N hj hN => by
    obtain ⟨hS, k1, k2⟩ := hN
    have hGN := Gd_Sm hS hG
    have hBN : BK N B := BK_cong (M := M) (fun r k z => hS.2.2.1 r k (by unfold rdB at z; show ¬ (r = 153 ∨ r = 154); omega)) (fun r _ => hS.2.2.2 r (fun z => z)) hB
    have ei : gI N (156 + 2 * s) (p + j) = itB M s p j := hS.2.2.1 _ _ (by show ¬ _; omega)
    have hG1 : Gd (sI N 153 j (itB M s p j)) := hGN
    have c7 : gI (sI N 153 j (itB M s p j)) 5 3 = nI (vrB B) := (gI_ne (by omega)).trans hBN.1.2.2.2.2.2.2.1
    refine ⟨sI (sI N 153 j (itB M s p j)) 154 j (nI (vrB B)), ?_, Sm_trans hS (Sm_trans (Sm_sI (Or.inl rfl)) (Sm_sI (Or.inr rfl))), fun b hb => ?_, fun b hb => ?_⟩
    · try dsimp only
      rw [q137_100, if_neg (by rw [nI_leI (by omega) (by omega)]; omega), if_pos (ok_1 hGN), if_pos (ok_sheet hGN hs), nI_add, gr_items hGN hs, if_pos (rk_items hGN hs (by omega)), gr_1_8 hGN, if_pos (wk_153 hGN (by omega)), bM_d, nI_clamp (by omega), nI_clamp (by omega), ei, if_pos (ok_1 hG1), if_pos (ok_1 hG1), gr_1_2 hG1, if_pos (ok_5 hG1), gr_1_9 hG1, if_pos (wk_154 hG1 (by omega)), bM_d, c7, nI_1]
    · by_cases e : b = j
      · subst e
        exact ⟨by rw [gI_ne (by omega), gI_at], gI_at⟩
      · rw [gI_ne (by omega), gI_ne (by omega), gI_ne (by omega), gI_ne (by omega)]; exact k1 b (by omega)
    · rw [gI_ne (by omega), gI_ne (by omega), gI_ne (by omega), gI_ne (by omega)]; exact k2 b (by omega)) c 0 M (by omega) ⟨Sm_refl, fun b hb => by omega, fun b _ => ⟨rfl, rfl⟩⟩
  try dsimp only at s1
  have hGN := Gd_Sm s2 hG
  refine ⟨N, ?_, s2, s3, s4⟩
  rw [s1, q137_100, if_pos (by rw [nI_leI (by omega) (by omega)]; omega), if_pos (ok_1 hGN), c_fine hGN, bI_s]
  rfl
theorem m_bWrite {d s p c : Nat} {M : Mm} {B : Bk} (hG : Gd M) (hB : BK M B) (hs : s < 8) (hpc : p + c ≤ 40) (hc : c ≤ 8) : ∃ N, go (d + 1) 222 115 [.ref 171, .int (nI s), .int (nI p), .int (nI c), .int (0 : Int32)] [] M = some (some (.int (nI c)), N) ∧ Sm B2 NoL M N ∧ (∀ b, b < c → gI N 195 b = gI M 174 (40 * s + p + b) ∧ gI N 196 b = nI (vrB B)) ∧ ∀ b, c ≤ b → gI N 195 b = gI M 195 b ∧ gI N 196 b = gI M 196 b := by
  rw [show (0 : Int32) = nI 0 from rfl]
  obtain ⟨N, s1, s2, s3, s4⟩ := loopI (σ := Mm) (fun j N => go (d + 1) 222 115 [.ref 171, .int (nI s), .int (nI p), .int (nI c), .int (nI j)] [] N) (fun j N => Sm B2 NoL M N ∧ (∀ b, b < j → gI N 195 b = gI M 174 (40 * s + p + b) ∧ gI N 196 b = nI (vrB B)) ∧ ∀ b, j ≤ b → gI N 195 b = gI M 195 b ∧ gI N 196 b = gI M 196 b) c (fun j N hj hN => by
    obtain ⟨hS, k1, k2⟩ := hN
    have hGN := Gd_Sm hS hG
    have o := ok_171 hGN
    have hBN : BK N B := BK_cong (M := M) (fun r k z => hS.2.2.1 r k (by unfold rdB at z; show ¬ (r = 195 ∨ r = 196); omega)) (fun r _ => hS.2.2.2 r (fun z => z)) hB
    have ei : gI N 174 (40 * s + p + j) = gI M 174 (40 * s + p + j) := hS.2.2.1 _ _ (by show ¬ _; omega)
    have hG1 : Gd (sI N 195 j (gI M 174 (40 * s + p + j))) := hGN
    have c7 : gI (sI N 195 j (gI M 174 (40 * s + p + j))) 171 40 = nI (vrB B) := (gI_ne (by omega)).trans hBN.1.2.2.2.2.2.2.2.1
    refine ⟨sI (sI N 195 j (gI M 174 (40 * s + p + j))) 196 j (nI (vrB B)), ?_, Sm_trans hS (Sm_trans (Sm_sI (Or.inl rfl)) (Sm_sI (Or.inr rfl))), fun b hb => ?_, fun b hb => ?_⟩
    · try dsimp only
      rw [q222_115, if_neg (by rw [nI_leI (by omega) (by omega)]; omega), if_pos o, if_pos o, ix40, nI_add, gr_171_4 hGN, if_pos (rk_174 hGN (by omega)), gr_171_45 hGN, if_pos (wk_195 hGN (by omega)), bM_d, nI_clamp (by omega), nI_clamp (by omega), ei, if_pos (ok_171 hG1), if_pos (ok_171 hG1), gr_171_46 hG1, if_pos (wk_196 hG1 (by omega)), bM_d, c7, nI_1]
    · by_cases e : b = j
      · subst e
        exact ⟨by rw [gI_ne (by omega), gI_at], gI_at⟩
      · rw [gI_ne (by omega), gI_ne (by omega), gI_ne (by omega), gI_ne (by omega)]; exact k1 b (by omega)
    · rw [gI_ne (by omega), gI_ne (by omega), gI_ne (by omega), gI_ne (by omega)]; exact k2 b (by omega)) c 0 M (by omega) ⟨Sm_refl, fun b hb => by omega, fun b _ => ⟨rfl, rfl⟩⟩
  try dsimp only at s1
  refine ⟨N, ?_, s2, s3, s4⟩
  rw [s1, q222_115, if_pos (by rw [nI_leI (by omega) (by omega)]; omega)]
def Us (r k : Nat) : Prop := Ls r k ∨ rdU r
theorem Inv_u {E M N : Mm} {B : Bk} (hI : Inv E M B) (h : Sm Us QL M N) (hU : ∃ bk bv, BUY N (nmB B) bk bv) (hL : gI N 1 11 = gI N 171 1) : Inv E N B := by
  obtain ⟨a1, a2, a3, a4, a5, a6, a7, a8, a9, a10⟩ := hI
  have hT := h.2.2.1
  refine ⟨Gd_Sm h a1, EXT_Sm (fun r k z => by unfold Us Ls Qs rdU at z; omega) (fun r z => by unfold QL at z; omega) h a2, SHT_cong (fun r k z => hT r k (by unfold rdS at z; unfold Us Ls Qs rdU; omega)) a3, TAP_cong (fun r k z => hT r k (by unfold rdT at z; unfold Us Ls Qs rdU; omega)) a4, ⟨?_, hL⟩, TRC_cong (fun r k z => hT r k (by unfold rdC at z; unfold Us Ls Qs rdU; omega)) a6, BK_cong (fun r k z => hT r k (by unfold rdB at z; unfold Us Ls Qs rdU; omega)) (fun r z => h.2.2.2 r (by unfold rdL at z; unfold QL; omega)) a7, hU, EC_cong (fun r k z => hT r k (by unfold rdE at z; unfold Us Ls Qs rdU; omega)) a9, HC_cong (fun r k z => hT r k (by unfold rdH at z; unfold Us Ls Qs rdU; omega)) a10⟩
  rw [hT 1 10 (by unfold Us Ls Qs rdU; omega), hT 171 22 (by unfold Us Ls Qs rdU; omega)]
  exact a5.1
theorem op_buyers {E M : Mm} {B : Bk} {d : Nat} (hI : Inv E M B) (x y z : Int32) : Alike E M (d + 4) 137 222 [.ref 1, .int x, .int y, .int z, .null, .null] [.ref 171, .int x, .int y, .int z, .null] := by
  have hG := hI.1
  have hS := hI.2.2.1
  have hB := hI.2.2.2.2.2.2.1
  have hn := BK_nn hB
  have hp := p10 hn.1
  have o1 := ok_1 hG
  have o := ok_171 hG
  cases h : inR 8 x with
  | false =>
    refine Alike_q hI (-1000001) M (sI M 171 0 0) ?_ Sm_refl ?_ sm0
    · simp only [q137_0, c_isSheet, bI_s, b2i0, h, if_true]
    · simp only [q222_0, o, if_true, bM_d, m_isSheet, bI_s, b2i0, h]
  | true =>
    obtain ⟨s, hs, rfl⟩ := inR_n (by omega) h
    have cl := nI_clamp (n := s) (by omega)
    have mi := fun N => m_in18 (d := d + 2) (M := N) z
    by_cases h1 : z < (1 : Int32)
    · simp only [decide_eq_true h1] at mi
      refine Alike_q hI (-1000001) M (sI M 171 0 0) ?_ Sm_refl ?_ sm0
      · simp only [q137_0, c_isSheet, bI_s, b2i0, h, Bool.true_eq_false, if_false, h1, if_true]
      · simp only [q222_0, o, if_true, bM_d, m_isSheet, bI_s, b2i0, h, Bool.true_eq_false, if_false, mi]
        rfl
    · by_cases h2 : z ≤ (8 : Int32)
      · obtain ⟨c, hc1, hc8, rfl⟩ := in18 h1 h2
        simp only [decide_eq_false h1, decide_eq_true h2] at mi
        have mi : ∀ N, go (d + 3) 154 0 [.long (nI c).toInt64, .null, .long (1 : Int64), .null, .long (8 : Int64), .null] [] N = some (some (.int 1), N) := mi
        obtain ⟨e1, ⟨t, ht, e2⟩, ⟨n, hn40, e3, e4⟩, e5⟩ := hS s hs
        have cm := c_isMissing (d := d + 2) hG hS hs
        have l0 : gI (sI M 171 0 0) 172 s = gI M 172 s := gI_ne (by omega)
        have n01 : ¬ (1 : Int32) = 0 := by decide
        by_cases hm : gI M 172 s = -1
        · refine ⟨-1000010 - 1, sI M 1 11 1, sI (sI (sI M 1 11 1) 171 0 0) 171 1 1, B, ?_, ?_, find_l' hI 1⟩
          · simp only [q137_0, c_isSheet, bI_s, b2i0, h, if_true, Bool.true_eq_false, if_false, h1, h2, o1, gr_1_0 hG, rk_2 hG hs, cl, gr_sheet hG hs, ok_sheet hG hs, cm, decide_eq_true hm, c_found hG]
          · have l1 : gI (sI (sI M 1 11 1) 171 0 0) 172 s = -1 := by rw [gI_ne (by omega), gI_ne (by omega)]; exact hm
            simp only [q222_0, o, okO_sI, if_true, bM_d, m_isSheet, bI_s, b2i0, h, Bool.true_eq_false, if_false, mi, n01, gR_sI, gr_171_2 hG, rOK_sI, rk_172 hG hs, cl, l1, show ¬ (0 : Int32) ≤ -1 by decide, m_finding (M := sI (sI M 1 11 1) 171 0 0) hG]
        · have lp := (lane_p hS hs).mpr hm
          have hpl := c_hasPlaces (d := d + 2) hG hs hn40 e3 y (nI c)
          have ic : (nI c).toInt = c := nI_toInt (by omega)
          cases hy : hpB n y (nI c) with
          | false =>
            rw [hy] at hpl
            refine ⟨-1000010 - 2, sI M 1 11 2, sI (sI (sI M 1 11 2) 171 0 0) 171 1 2, B, ?_, ?_, find_l' hI 2⟩
            · simp only [q137_0, c_isSheet, bI_s, b2i0, h, if_true, Bool.true_eq_false, if_false, h1, h2, o1, gr_1_0 hG, rk_2 hG hs, cl, gr_sheet hG hs, ok_sheet hG hs, cm, decide_eq_false hm, hpl, c_found hG]
            · have l1 : gI (sI (sI M 1 11 2) 171 0 0) 172 s = gI M 172 s := by rw [gI_ne (by omega), gI_ne (by omega)]
              have l2 : gI (sI (sI M 1 11 2) 171 0 0) 173 s = nI n := by rw [gI_ne (by omega), gI_ne (by omega)]; exact e4
              simp only [q222_0, o, okO_sI, if_true, bM_d, m_isSheet, bI_s, b2i0, h, Bool.true_eq_false, if_false, mi, n01, gR_sI, gr_171_2 hG, gr_171_3 hG, rOK_sI, rk_172 hG hs, rk_173 hG hs, cl, l1, lp, l2, lg_sum hn40, m_finding (M := sI (sI M 1 11 2) 171 0 0) hG]
              by_cases y0 : y < 0
              · rw [if_pos y0]
              · have y0' : 0 ≤ y.toInt := by
                  apply Int.not_lt.mp; intro q; exact y0 ((fa_lt _ _).mpr q)
                rw [if_neg y0, if_neg (fun q => ?_)]
                unfold hpB at hy
                rw [decide_eq_true y0', decide_eq_true q, decide_eq_true (show 0 ≤ (nI c).toInt by omega)] at hy
                cases hy
          | true =>
            rw [hy] at hpl
            have hy' := hy
            simp only [hpB, Bool.and_eq_true, decide_eq_true_eq] at hy'
            have y0 : ¬ y < 0 := fun q => by have := (fa_lt _ _).mp q; rw [show (0 : Int32).toInt = 0 from rfl] at this; omega
            obtain ⟨p, hp31, rfl⟩ := nI_of y0
            rw [nI_toInt hp31, ic] at hy'
            have hpc : p + c ≤ n := by omega
            have hyle : (nI p).toInt + (nI c).toInt ≤ n := by rw [nI_toInt hp31, ic]; omega
            -- the check
            have cchk := loopP (σ := Unit) (fun j _ => go (d + 4) 137 62 [.ref 1, .int (nI s), .int (nI p), .int (nI c), .ref (155 + 2 * s), .int (nI j)] [] M) (fun j => !inR (2 ^ nmB B) (itB M s p j)) c (go (d + 4) 137 100 [.ref 1, .int (nI s), .int (nI p), .int (nI c), .ref (155 + 2 * s), .int (0 : Int32)] [] M) (fun _ => some (some (.int (-1000001)), M)) (fun j u hj => by
              have ck := c_isKind (d := d + 1) hG (BK_c hB) (itB M s p j)
              try dsimp only
              rw [q137_62, if_neg (by rw [nI_leI (by omega) (by omega)]; omega), if_pos o1, if_pos (ok_sheet hG hs), nI_add, gr_items hG hs, if_pos (rk_items hG hs (by omega)), gr_1_2 hG, if_pos (ok_5 hG), nI_clamp (by omega), show gI M (156 + 2 * s) (p + j) = itB M s p j from rfl, ck, bI_s, nI_1]
              simp only [b2i0]
              cases inR (2 ^ nmB B) (itB M s p j) with
              | false => exact ⟨fun _ => by rw [if_pos rfl], fun q => by cases q⟩
              | true => exact ⟨fun q => (by cases q), fun _ => ⟨(), by rw [if_neg (by decide)]⟩⟩) (fun u => by
              try dsimp only
              rw [q137_62, if_pos (by rw [nI_leI (by omega) (by omega)]; omega)]) c 0 () (by omega)
            have mchk : ∀ N, Gd N → BK N B → (∀ j, j < c → gI N 174 (40 * s + p + j) = itB M s p j) → go (d + 4) 222 71 [.ref 171, .int (nI s), .int (nI p), .int (nI c), .int (nI 0)] [] N = if fr (fun j => !inR (2 ^ nmB B) (itB M s p j)) c 0 = 0 then go (d + 4) 222 115 [.ref 171, .int (nI s), .int (nI p), .int (nI c), .int (0 : Int32)] [] (sI N 171 1 0) else some (some (.int (-1000001)), N) := fun N hGN hBN hit => loopP (σ := Unit) (fun j _ => go (d + 4) 222 71 [.ref 171, .int (nI s), .int (nI p), .int (nI c), .int (nI j)] [] N) (fun j => !inR (2 ^ nmB B) (itB M s p j)) c (go (d + 4) 222 115 [.ref 171, .int (nI s), .int (nI p), .int (nI c), .int (0 : Int32)] [] (sI N 171 1 0)) (fun _ => some (some (.int (-1000001)), N)) (fun j u hj => by
              have mk := m_isKind (d := d + 1) hGN (BK_c hBN) (itB M s p j)
              have oN := ok_171 hGN
              try dsimp only
              rw [q222_71, if_neg (by rw [nI_leI (by omega) (by omega)]; omega), if_pos oN, ix40, nI_add, gr_171_4 hGN, if_pos (rk_174 hGN (by omega)), if_pos oN, nI_clamp (by omega), hit j hj, mk, bI_s, nI_1]
              simp only [b2i0]
              cases inR (2 ^ nmB B) (itB M s p j) with
              | false => exact ⟨fun _ => by rw [if_pos rfl], fun q => by cases q⟩
              | true => exact ⟨fun q => (by cases q), fun _ => ⟨(), by rw [if_neg (by decide)]⟩⟩) (fun u => by
              try dsimp only
              rw [q222_71, if_pos (by rw [nI_leI (by omega) (by omega)]; omega), if_pos (ok_171 hGN), bM_d]) c 0 () (by omega)
            try dsimp only at cchk
            have cst : go (d + 4) 137 0 [.ref 1, .int (nI s), .int (nI p), .int (nI c), .null, .null] [] M = go (d + 4) 137 62 [.ref 1, .int (nI s), .int (nI p), .int (nI c), .ref (155 + 2 * s), .int (nI 0)] [] M := by
              simp only [q137_0, c_isSheet, bI_s, b2i0, h, if_true, Bool.true_eq_false, if_false, h1, h2, o1, gr_1_0 hG, rk_2 hG hs, cl, gr_sheet hG hs, ok_sheet hG hs, cm, decide_eq_false hm, hpl]
              rfl
            have mst : ∀ N, Gd N → gI N 172 s = gI M 172 s → gI N 173 s = nI n → go (d + 4) 222 0 [.ref 171, .int (nI s), .int (nI p), .int (nI c), .null] [] N = go (d + 4) 222 71 [.ref 171, .int (nI s), .int (nI p), .int (nI c), .int (nI 0)] [] (sI N 171 0 0) := fun N hGN g1 g2 => by
              have l1 : gI (sI N 171 0 0) 172 s = gI M 172 s := (gI_ne (by omega)).trans g1
              have l2 : gI (sI N 171 0 0) 173 s = nI n := (gI_ne (by omega)).trans g2
              simp only [q222_0, ok_171 hGN, okO_sI, if_true, bM_d, m_isSheet, bI_s, b2i0, h, Bool.true_eq_false, if_false, mi, n01, gR_sI, gr_171_2 hGN, gr_171_3 hGN, rOK_sI, rk_172 hGN hs, rk_173 hGN hs, cl, l1, lp, l2, lg_sum hn40, hyle, y0]
              rfl
            have it0 : ∀ j, j < c → gI M 174 (40 * s + p + j) = itB M s p j := fun j hj => by
              have := e5 (p + j) (by omega)
              unfold itB
              rw [this, show 40 * s + (p + j) = 40 * s + p + j by omega]
            by_cases hfr : fr (fun j => !inR (2 ^ nmB B) (itB M s p j)) c 0 = 0
            · rw [if_pos hfr] at cchk
              obtain ⟨N, w1, w2, w3, w4⟩ := c_bWrite (d := d + 2) (c := c) (p := p) hG hB hs (by omega) (by omega)
              have S1 : Sm Us QL M (sI N 1 11 0) := Sm_trans (Sm_mono (fun r k q => by unfold Us rdU; omega) (fun r q => q.elim) w2) (Sm_sI (by unfold Us Ls; omega))
              have S2 : Sm Us QL M (sI (sI N 1 11 0) 171 0 0) := Sm_trans S1 (Sm_sI (by unfold Us Ls Qs; omega))
              have S3 : Sm Us QL M (sI (sI (sI N 1 11 0) 171 0 0) 171 1 0) := Sm_trans S2 (Sm_sI (by unfold Us Ls; omega))
              have bk : ∀ {O}, Sm Us QL M O → BK O B := fun {O} hO => BK_cong (M := M) (fun r k q => hO.2.2.1 r k (by unfold rdB at q; unfold Us Ls Qs rdU; omega)) (fun r q => hO.2.2.2 r (by unfold rdL at q; unfold QL; omega)) hB
              have gO : ∀ {O r k}, Sm Us QL M O → (r = 172 ∨ r = 173 ∨ r = 174) → gI O r k = gI M r k := fun hO hr => hO.2.2.1 _ _ (by unfold Us Ls Qs rdU; omega)
              have hG1 := Gd_Sm S1 hG
              have hG2 := Gd_Sm S2 hG
              have hG3 := Gd_Sm S3 hG
              obtain ⟨N2, u1, u2, u3, u4⟩ := m_bWrite (d := d + 3) (c := c) (p := p) hG3 (bk S3) hs (by omega) (by omega)
              have hall : ∀ j, j < c → inR (2 ^ nmB B) (itB M s p j) = true := by
                have key : ∀ (m k : Nat), fr (fun j => !inR (2 ^ nmB B) (itB M s p j)) m k = 0 → ∀ j, k ≤ j → j < k + m → inR (2 ^ nmB B) (itB M s p j) = true := by
                  intro m
                  induction m with
                  | zero => intro k _ j h1 h2; omega
                  | succ m ih =>
                    intro k hk j h1 h2
                    rw [fr] at hk
                    cases hq : inR (2 ^ nmB B) (itB M s p k) with
                    | false => rw [hq, if_pos (show (!false) = true from rfl)] at hk; omega
                    | true =>
                      rw [hq, if_neg (by decide)] at hk
                      by_cases e : j = k
                      · rw [e]; exact hq
                      · exact ih (k + 1) hk j (by omega) (by omega)
                exact fun j hj => key c 0 hfr j (by omega) (by omega)
              obtain ⟨bk0, bv0, hU⟩ := hI.2.2.2.2.2.2.2.1
              refine ⟨nI c, sI N 1 11 0, N2, B, ?_, ?_, Inv_u hI (Sm_trans S3 (Sm_mono (fun r k q => by unfold Us rdU; omega) (fun r q => q.elim) u2)) ⟨fun b => if b < c then (itB M s p b).toNatClampNeg else bk0 b, fun b => if b < c then vrB B else bv0 b, fun b hb => ?_⟩ ?_⟩
              · rw [cst, cchk]; exact w1
              · rw [mst _ hG1 (gO S1 (by omega)) ((gO S1 (by omega)).trans e4), mchk _ hG2 (bk S2) (fun j hj => (gO S2 (by omega)).trans (it0 j hj)), if_pos hfr]
                exact u1
              · have v153 : gI N2 153 b = gI N 153 b := by rw [u2.2.2.1 _ _ (by show ¬ _; omega), gI_ne (by omega), gI_ne (by omega), gI_ne (by omega)]
                have v154 : gI N2 154 b = gI N 154 b := by rw [u2.2.2.1 _ _ (by show ¬ _; omega), gI_ne (by omega), gI_ne (by omega), gI_ne (by omega)]
                rw [v153, v154]
                by_cases hbc : b < c
                · simp only [if_pos hbc]
                  obtain ⟨k, hk, ek⟩ := inR_n (by omega) (hall b hbc)
                  have g174 : gI N2 195 b = itB M s p b := (u3 b hbc).1.trans ((gO S3 (by omega)).trans (it0 b hbc))
                  rw [(w3 b hbc).1, (w3 b hbc).2, g174, (u3 b hbc).2, ek, nI_clamp (by omega)]
                  exact ⟨hk, hn.2.2.2, rfl, rfl, rfl, rfl⟩
                · simp only [if_neg hbc]
                  obtain ⟨a1, a2, a3, a4, a5, a6⟩ := hU b hb
                  have o195 : gI N2 195 b = gI M 195 b := by
                    rw [(u4 b (by omega)).1, gI_ne (by omega), gI_ne (by omega), gI_ne (by omega), w2.2.2.1 _ _ (by show ¬ _; omega)]
                  have o196 : gI N2 196 b = gI M 196 b := by
                    rw [(u4 b (by omega)).2, gI_ne (by omega), gI_ne (by omega), gI_ne (by omega), w2.2.2.1 _ _ (by show ¬ _; omega)]
                  rw [(w4 b (by omega)).1, (w4 b (by omega)).2, o195, o196]
                  exact ⟨a1, a2, a3, a4, a5, a6⟩
              · rw [u2.2.2.1 _ _ (by show ¬ _; omega), u2.2.2.1 _ _ (by show ¬ _; omega), gI_ne (by omega), gI_ne (by omega), gI_at, gI_at]
            · rw [if_neg hfr] at cchk
              refine Alike_q hI (-1000001) M (sI M 171 0 0) ?_ Sm_refl ?_ sm0
              · rw [cst, cchk]
              · rw [mst M hG rfl e4, mchk (sI M 171 0 0) hG (thr hI).2.2.2.2.2.2.1 (fun j hj => (gI_ne (by omega)).trans (it0 j hj)), if_neg hfr]
      · simp only [decide_eq_false h2, Bool.and_false] at mi
        refine Alike_q hI (-1000001) M (sI M 171 0 0) ?_ Sm_refl ?_ sm0
        · simp only [q137_0, c_isSheet, bI_s, b2i0, h, Bool.true_eq_false, if_false, h1, h2]
        · simp only [q222_0, o, if_true, bM_d, m_isSheet, bI_s, b2i0, h, Bool.true_eq_false, if_false, mi]
