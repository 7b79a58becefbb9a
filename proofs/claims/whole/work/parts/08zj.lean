/-! ===== copy ===== -/
theorem nI_dif {a b : Nat} (h : b ≤ a) : nI a - nI b = nI (a - b) := by
  have e : nI a = nI (a - b) + nI b := by rw [nI_add, show a - b + b = a by omega]
  rw [e, Int32.add_sub_cancel]
theorem gI_cI {M : Mm} {a sp b dp n r k : Nat} : gI (cI M a sp b dp n) r k = if r = b then va_cpy (gI M a) (gI M b) sp dp n k else gI M r k := by
  show (if r = b then va_cpy (gI M a) (gI M b) sp dp n else gI M r) k = _
  split <;> rfl
theorem Sm_cI {T : Nat → Nat → Prop} {U : Nat → Prop} {M : Mm} {a sp b dp n : Nat} (h : ∀ k, T b k) : Sm T U M (cI M a sp b dp n) :=
  ⟨rfl, fun _ _ _ => rfl, fun r j hr => by rw [gI_cI, if_neg (fun z => hr (by rw [z]; exact h j))], fun _ _ => rfl⟩
abbrev T174 : Nat → Nat → Prop := fun r _ => r = 174
theorem m_copy {d s u sp dp c : Nat} {M : Mm} (hG : Gd M) (hs : s < 8) (hu : u < 8) (h1 : sp + c ≤ 40) (h2 : dp + c ≤ 40) (b : Bool) (hb : b = decide (dp ≤ sp)) : ∃ N, go (d + 1) 160 143 [.ref 171, .int (nI s), .int (nI sp), .int (nI u), .int (nI dp), .int (nI c), .int (b2i b), .int (0 : Int32), .null] [] M = some (some (.int (nI c)), N) ∧ Sm T174 NoL M N ∧ ∀ q, gI N 174 q = if 40 * u + dp ≤ q ∧ q < 40 * u + dp + c then gI M 174 (40 * s + sp + (q - (40 * u + dp))) else gI M 174 q := by
  rw [show (0 : Int32) = nI 0 from rfl]
  cases b with
  | true =>
    have hd : dp ≤ sp := of_decide_eq_true hb.symm
    obtain ⟨⟨N, z⟩, s1, s2, s3⟩ := loopI (σ := Mm × Value) (fun j s' => go (d + 1) 160 143 [.ref 171, .int (nI s), .int (nI sp), .int (nI u), .int (nI dp), .int (nI c), .int (b2i true), .int (nI j), s'.2] [] s'.1) (fun j s' => Sm T174 NoL M s'.1 ∧ ∀ q, gI s'.1 174 q = if 40 * u + dp ≤ q ∧ q < 40 * u + dp + j then gI M 174 (40 * s + sp + (q - (40 * u + dp))) else gI M 174 q) c (fun j s' hj hs' => by
      obtain ⟨N, z⟩ := s'
      obtain ⟨hS, hq⟩ := hs'
      try dsimp only at hS hq
      have hGN := Gd_Sm hS hG
      have rd : gI N 174 (40 * s + sp + j) = gI M 174 (40 * s + sp + j) := by rw [hq, if_neg (by omega)]
      refine ⟨(sI N 174 (40 * u + dp + j) (gI M 174 (40 * s + sp + j)), .int (nI j)), ?_, Sm_trans hS (Sm_sI rfl), fun q => ?_⟩
      · try dsimp only
        rw [q160_143, if_neg (by rw [nI_leI (by omega) (by omega)]; omega), if_neg (by decide), if_pos (ok_171 hGN), if_pos (ok_171 hGN), ix40, nI_add, ix40, nI_add, gr_171_4 hGN, if_pos (rk_174 hGN (by omega)), if_pos (wk_174 hGN (by omega)), bM_d, nI_clamp (by omega), nI_clamp (by omega), rd, nI_1]
      · try dsimp only
        rw [gI_sI]
        by_cases e : q = 40 * u + dp + j
        · subst e
          rw [if_pos ⟨rfl, rfl⟩, if_pos (by omega), show 40 * u + dp + j - (40 * u + dp) = j by omega]
        · rw [if_neg (fun w => e w.2), hq]
          by_cases e2 : 40 * u + dp ≤ q ∧ q < 40 * u + dp + j
          · rw [if_pos e2, if_pos (by omega)]
          · rw [if_neg e2, if_neg (by omega)]) c 0 (M, .null) (by omega) ⟨Sm_refl, fun q => by rw [if_neg (by omega)]⟩
    try dsimp only at s1 s2 s3
    refine ⟨N, ?_, s2, s3⟩
    rw [s1, q160_143, if_pos (by rw [nI_leI (by omega) (by omega)]; omega)]
  | false =>
    have hd : sp < dp := by have := of_decide_eq_false hb.symm; omega
    obtain ⟨⟨N, z⟩, s1, s2, s3⟩ := loopI (σ := Mm × Value) (fun j s' => go (d + 1) 160 143 [.ref 171, .int (nI s), .int (nI sp), .int (nI u), .int (nI dp), .int (nI c), .int (b2i false), .int (nI j), s'.2] [] s'.1) (fun j s' => Sm T174 NoL M s'.1 ∧ ∀ q, gI s'.1 174 q = if 40 * u + dp + (c - j) ≤ q ∧ q < 40 * u + dp + c then gI M 174 (40 * s + sp + (q - (40 * u + dp))) else gI M 174 q) c (fun j s' hj hs' => by
      obtain ⟨N, z⟩ := s'
      obtain ⟨hS, hq⟩ := hs'
      try dsimp only at hS hq
      have hGN := Gd_Sm hS hG
      have ei : (nI c - (1 : Int32)) - nI j = nI (c - 1 - j) := by rw [sub1 (by omega), nI_dif (by omega)]
      have rd : gI N 174 (40 * s + sp + (c - 1 - j)) = gI M 174 (40 * s + sp + (c - 1 - j)) := by rw [hq, if_neg (by omega)]
      refine ⟨(sI N 174 (40 * u + dp + (c - 1 - j)) (gI M 174 (40 * s + sp + (c - 1 - j))), .int (nI (c - 1 - j))), ?_, Sm_trans hS (Sm_sI rfl), fun q => ?_⟩
      · try dsimp only
        rw [q160_143, if_neg (by rw [nI_leI (by omega) (by omega)]; omega), if_pos (by decide), if_pos (ok_171 hGN), if_pos (ok_171 hGN), ei, ix40, nI_add, ix40, nI_add, gr_171_4 hGN, if_pos (rk_174 hGN (by omega)), if_pos (wk_174 hGN (by omega)), bM_d, nI_clamp (by omega), nI_clamp (by omega), rd, nI_1]
      · try dsimp only
        rw [gI_sI]
        by_cases e : q = 40 * u + dp + (c - 1 - j)
        · subst e
          rw [if_pos ⟨rfl, rfl⟩, if_pos (by omega), show 40 * u + dp + (c - 1 - j) - (40 * u + dp) = c - 1 - j by omega]
        · rw [if_neg (fun w => e w.2), hq]
          by_cases e2 : 40 * u + dp + (c - j) ≤ q ∧ q < 40 * u + dp + c
          · rw [if_pos e2, if_pos (by omega)]
          · rw [if_neg e2, if_neg (by omega)]) c 0 (M, .null) (by omega) ⟨Sm_refl, fun q => by rw [if_neg (by omega)]⟩
    try dsimp only at s1 s2 s3
    refine ⟨N, ?_, s2, fun q => ?_⟩
    · rw [s1, q160_143, if_pos (by rw [nI_leI (by omega) (by omega)]; omega)]
    · rw [s3 q, Nat.sub_self, Nat.add_zero]
theorem hp_out {n : Nat} {x c : Int32} (h : hpB n x c = false) (hc : ¬ c < 0) (hx : ¬ x < 0) : ¬ x.toInt + c.toInt ≤ n := fun z => by
  have a1 : 0 ≤ c.toInt := by apply Int.not_lt.mp; intro q; exact hc ((fa_lt _ _).mpr q)
  have a2 : 0 ≤ x.toInt := by apply Int.not_lt.mp; intro q; exact hx ((fa_lt _ _).mpr q)
  unfold hpB at h
  rw [decide_eq_true a1, decide_eq_true a2, decide_eq_true z] at h
  cases h
theorem hp_in {n : Nat} {x c : Int32} (h : hpB n x c = true) : ¬ c < 0 ∧ ¬ x < 0 ∧ x.toInt + c.toInt ≤ n := by
  simp only [hpB, Bool.and_eq_true, decide_eq_true_eq] at h
  exact ⟨fun q => by have := (fa_lt _ _).mp q; rw [show (0 : Int32).toInt = 0 from rfl] at this; omega, fun q => by have := (fa_lt _ _).mp q; rw [show (0 : Int32).toInt = 0 from rfl] at this; omega, h.2⟩
theorem op_copy {E M : Mm} {B : Bk} {d : Nat} (hI : Inv E M B) (x1 x2 x3 x4 x5 : Int32) : Alike E M (d + 3) 115 160 [.ref 1, .int x1, .int x2, .int x3, .int x4, .int x5, .null, .null] [.ref 171, .int x1, .int x2, .int x3, .int x4, .int x5, .null, .null, .null] := by
  have hG := hI.1
  have hS := hI.2.2.1
  have o1 := ok_1 hG
  have o := ok_171 hG
  cases h1 : inR 8 x1 with
  | false =>
    refine Alike_q hI (-1000001) M (sI M 171 0 0) ?_ Sm_refl ?_ sm0
    · simp only [q115_0, c_isSheet, bI_s, b2i0, h1, if_true]
    · simp only [q160_0, o, if_true, bM_d, m_isSheet, bI_s, b2i0, h1]
  | true =>
    cases h3 : inR 8 x3 with
    | false =>
      refine Alike_q hI (-1000001) M (sI M 171 0 0) ?_ Sm_refl ?_ sm0
      · simp only [q115_0, c_isSheet, bI_s, b2i0, h1, h3, Bool.true_eq_false, if_false, if_true]
      · simp only [q160_0, o, if_true, bM_d, m_isSheet, bI_s, b2i0, h1, h3, Bool.true_eq_false, if_false]
    | true =>
      obtain ⟨s, hs, rfl⟩ := inR_n (by omega) h1
      obtain ⟨u, hu, rfl⟩ := inR_n (by omega) h3
      have cls := nI_clamp (n := s) (by omega)
      have clu := nI_clamp (n := u) (by omega)
      obtain ⟨e1, ⟨t, ht, e2⟩, ⟨n, hn, e3, e4⟩, e5⟩ := hS s hs
      obtain ⟨f1, ⟨t', ht', f2⟩, ⟨m, hm, f3, f4⟩, f5⟩ := hS u hu
      have cs := c_isMissing (d := d + 1) hG hS hs
      have cu := c_isMissing (d := d + 1) hG hS hu
      have lcs := lane_c hS hs
      have lpu := lane_p hS hu
      -- the model's way up to the lanes
      have g2 : ∀ x r k, r ≠ 1 → r ≠ 171 → gI (sI (sI (sI M 1 11 x) 171 0 0) 171 1 0) r k = gI M r k := fun x r k a b => by
        rw [gI_ne (by omega), gI_ne (by omega), gI_ne (by omega)]
      have cst : go (d + 3) 115 0 [.ref 1, .int (nI s), .int x2, .int (nI u), .int x4, .int x5, .null, .null] [] M = (if gI M 172 s = -1 then some (some (.int (-1000010 - 1)), sI M 1 11 1) else if gI M 172 u = -1 then some (some (.int (-1000010 - 1)), sI M 1 11 1) else if gI M 172 s = gI M 172 u then (if hpB n x2 x5 = false then some (some (.int (-1000010 - 2)), sI M 1 11 2) else if hpB m x4 x5 = false then some (some (.int (-1000010 - 2)), sI M 1 11 2) else if cpB (156 + 2 * s) (156 + 2 * u) x2 x4 x5 = true then some (some (.int x5), sI (cI M (156 + 2 * s) x2.toNatClampNeg (156 + 2 * u) x4.toNatClampNeg x5.toNatClampNeg) 1 11 0) else none) else some (some (.int (-1000010 - 5)), sI M 1 11 5)) := by
        have aa : (okA M (156 + 2 * s) 0 && okA M (156 + 2 * u) 0) = true := by rw [ar_items hG hs, ar_items hG hu]; rfl
        have hGc : Gd (cI M (156 + 2 * s) x2.toNatClampNeg (156 + 2 * u) x4.toNatClampNeg x5.toNatClampNeg) := hG
        simp only [q115_0, c_isSheet, bI_s, b2i0, h1, h3, if_true, Bool.true_eq_false, if_false, o1, gr_1_0 hG, rk_2 hG hs, rk_2 hG hu, cls, clu, gr_sheet hG hs, gr_sheet hG hu, ok_sheet hG hs, ok_sheet hG hu, cs, cu, c_found hG, e1, f1, c_hasPlaces hG hs hn e3, c_hasPlaces hG hu hm f3, gr_items hG hs, gr_items hG hu, aa, bM_d, ok_1 hGc, c_fine hGc]
        by_cases a1 : gI M 172 s = -1
        · simp [a1]
        · by_cases a2 : gI M 172 u = -1
          · simp [a1, a2]
          · simp [a1, a2]
      have mst : ∀ N, Gd N → (∀ r k, r = 172 ∨ r = 173 → gI N r k = gI M r k) → go (d + 3) 160 0 [.ref 171, .int (nI s), .int x2, .int (nI u), .int x4, .int x5, .null, .null, .null] [] N = (if gI M 172 s = -1 then some (some (.int (-1000010 - 1)), sI (sI (sI N 171 0 0) 171 1 0) 171 1 1) else if gI M 172 u = -1 then some (some (.int (-1000010 - 1)), sI (sI (sI N 171 0 0) 171 1 0) 171 1 1) else if gI M 172 s = gI M 172 u then (if x2 < 0 then some (some (.int (-1000010 - 2)), sI (sI (sI N 171 0 0) 171 1 0) 171 1 2) else if x4 < 0 then some (some (.int (-1000010 - 2)), sI (sI (sI N 171 0 0) 171 1 0) 171 1 2) else if x5 < 0 then some (some (.int (-1000010 - 2)), sI (sI (sI N 171 0 0) 171 1 0) 171 1 2) else if ¬ x2.toInt + x5.toInt ≤ n then some (some (.int (-1000010 - 2)), sI (sI (sI N 171 0 0) 171 1 0) 171 1 2) else if x4.toInt + x5.toInt ≤ m then (if x2 < x4 then go (d + 3) 160 143 [.ref 171, .int (nI s), .int x2, .int (nI u), .int x4, .int x5, .int (0 : Int32), .int (0 : Int32), .null] [] (sI (sI N 171 0 0) 171 1 0) else go (d + 3) 160 143 [.ref 171, .int (nI s), .int x2, .int (nI u), .int x4, .int x5, .int (1 : Int32), .int (0 : Int32), .null] [] (sI (sI N 171 0 0) 171 1 0)) else some (some (.int (-1000010 - 2)), sI (sI (sI N 171 0 0) 171 1 0) 171 1 2)) else some (some (.int (-1000010 - 5)), sI (sI (sI N 171 0 0) 171 1 0) 171 1 5)) := fun N hGN hNr => by
        have hG2 : Gd (sI (sI N 171 0 0) 171 1 0) := hGN
        have r1 : gI (sI (sI N 171 0 0) 171 1 0) 172 s = gI M 172 s := by rw [gI_ne (by omega), gI_ne (by omega)]; exact hNr _ _ (by omega)
        have r2 : gI (sI (sI N 171 0 0) 171 1 0) 172 u = gI M 172 u := by rw [gI_ne (by omega), gI_ne (by omega)]; exact hNr _ _ (by omega)
        have r3 : gI (sI (sI N 171 0 0) 171 1 0) 173 s = nI n := by rw [gI_ne (by omega), gI_ne (by omega)]; exact (hNr _ _ (by omega)).trans e4
        have r4 : gI (sI (sI N 171 0 0) 171 1 0) 173 u = nI m := by rw [gI_ne (by omega), gI_ne (by omega)]; exact (hNr _ _ (by omega)).trans f4
        simp only [q160_0, ok_171 hGN, if_true, bM_d, m_isSheet, bI_s, b2i0, h1, h3, Bool.true_eq_false, if_false, okO_sI, gR_sI, gr_171_2 hGN, gr_171_3 hGN, rOK_sI, rk_172 hGN hs, rk_172 hGN hu, rk_173 hGN hs, rk_173 hGN hu, cls, clu, r1, r2, r3, r4, lcs, lpu, m_finding hG2, lg_sum' hn, lg_sum hm]
        by_cases a1 : gI M 172 s = -1
        · simp [a1]
        · by_cases a2 : gI M 172 u = -1
          · simp [a1, a2]
          · simp [a1, a2]
      have fnd : ∀ x, go (d + 3) 115 0 [.ref 1, .int (nI s), .int x2, .int (nI u), .int x4, .int x5, .null, .null] [] M = some (some (.int (-1000010 - x)), sI M 1 11 x) → (∀ N, Gd N → (∀ r k, r = 172 ∨ r = 173 → gI N r k = gI M r k) → go (d + 3) 160 0 [.ref 171, .int (nI s), .int x2, .int (nI u), .int x4, .int x5, .null, .null, .null] [] N = some (some (.int (-1000010 - x)), sI (sI (sI N 171 0 0) 171 1 0) 171 1 x)) → Alike E M (d + 3) 115 160 [.ref 1, .int (nI s), .int x2, .int (nI u), .int x4, .int x5, .null, .null] [.ref 171, .int (nI s), .int x2, .int (nI u), .int x4, .int x5, .null, .null, .null] := fun x a b =>
        ⟨-1000010 - x, _, _, B, a, b (sI M 1 11 x) hG (fun r k hr => gI_ne (by omega)), find_l hI x⟩
      by_cases a1 : gI M 172 s = -1
      · exact fnd 1 (by rw [cst, if_pos a1]) (fun N k1 k2 => by rw [mst N k1 k2, if_pos a1])
      · by_cases a2 : gI M 172 u = -1
        · exact fnd 1 (by rw [cst, if_neg a1, if_pos a2]) (fun N k1 k2 => by rw [mst N k1 k2, if_neg a1, if_pos a2])
        · by_cases a3 : gI M 172 s = gI M 172 u
          · rw [if_neg a1, if_neg a2, if_pos a3] at cst
            have mst' : ∀ N, Gd N → (∀ r k, r = 172 ∨ r = 173 → gI N r k = gI M r k) → _ := fun N k1 k2 => by
              have := mst N k1 k2
              rw [if_neg a1, if_neg a2, if_pos a3] at this
              exact this
            cases b1 : hpB n x2 x5 with
            | false =>
              refine fnd 2 (by rw [cst, if_pos b1]) (fun N k1 k2 => ?_)
              rw [mst' N k1 k2]
              by_cases c1 : x2 < 0
              · rw [if_pos c1]
              · by_cases c2 : x4 < 0
                · rw [if_neg c1, if_pos c2]
                · by_cases c3 : x5 < 0
                  · rw [if_neg c1, if_neg c2, if_pos c3]
                  · rw [if_neg c1, if_neg c2, if_neg c3, if_pos (hp_out b1 c3 c1)]
            | true =>
              obtain ⟨p1, p2, p3⟩ := hp_in b1
              rw [if_neg (by rw [b1]; decide)] at cst
              cases b2 : hpB m x4 x5 with
              | false =>
                refine fnd 2 (by rw [cst, if_pos b2]) (fun N k1 k2 => ?_)
                rw [mst' N k1 k2, if_neg p2]
                by_cases c2 : x4 < 0
                · rw [if_pos c2]
                · rw [if_neg c2, if_neg p1, if_neg (fun z => z p3), if_neg (hp_out b2 p1 c2)]
              | true =>
                obtain ⟨q1, q2, q3⟩ := hp_in b2
                rw [if_neg (by rw [b2]; decide)] at cst
                obtain ⟨c, hc, rfl⟩ := nI_of p1
                obtain ⟨sp, hsp, rfl⟩ := nI_of p2
                obtain ⟨dp, hdp, rfl⟩ := nI_of q2
                rw [nI_toInt hsp, nI_toInt hc] at p3
                rw [nI_toInt hdp, nI_toInt hc] at q3
                have cp : cpB (156 + 2 * s) (156 + 2 * u) (nI sp) (nI dp) (nI c) = true := by
                  unfold cpB spB
                  rw [(k_items_t s hs).2, (k_items_t u hu).2, nI_toInt hsp, nI_toInt hdp, nI_toInt hc]
                  simp only [Bool.and_eq_true, Nat.blt_eq, decide_eq_true_eq]
                  omega
                rw [if_pos cp, nI_clamp hsp, nI_clamp hdp, nI_clamp hc] at cst
                have S1 : Sm Ss QL M (cI M (156 + 2 * s) sp (156 + 2 * u) dp c) := Sm_cI (fun k => by unfold Ss rdS; omega)
                have S2 : Sm Ss QL M (sI (cI M (156 + 2 * s) sp (156 + 2 * u) dp c) 1 11 0) := Sm_trans S1 (Sm_sI (by unfold Ss Ls; omega))
                have S3 : Sm Ss QL M (sI (sI (sI (cI M (156 + 2 * s) sp (156 + 2 * u) dp c) 1 11 0) 171 0 0) 171 1 0) := Sm_trans S2 (Sm_trans (Sm_sI (by unfold Ss Ls Qs; omega)) (Sm_sI (by unfold Ss Ls; omega)))
                have hG3 := Gd_Sm S3 hG
                obtain ⟨N, m1, m2, m3⟩ := m_copy (d := d + 2) (s := s) (u := u) (sp := sp) (dp := dp) (c := c) hG3 hs hu (by omega) (by omega) (decide (dp ≤ sp)) rfl
                have base : ∀ r k, r ≠ 156 + 2 * u → ¬ (r = 1 ∧ k = 11) → ¬ (r = 171 ∧ (k = 0 ∨ k = 1)) → gI (sI (sI (sI (cI M (156 + 2 * s) sp (156 + 2 * u) dp c) 1 11 0) 171 0 0) 171 1 0) r k = gI M r k := fun r k w1 w2 w3 => by
                  rw [gI_ne (by omega), gI_ne (by omega), gI_ne (by omega), gI_cI, if_neg w1]
                have nN : ∀ r k, r ≠ 174 → r ≠ 156 + 2 * u → ¬ (r = 1 ∧ k = 11) → ¬ (r = 171 ∧ (k = 0 ∨ k = 1)) → gI N r k = gI M r k := fun r k w0 w1 w2 w3 => by
                  rw [m2.2.2.1 r k w0]; exact base r k w1 w2 w3
                refine ⟨nI c, _, N, B, cst, ?_, Inv_s hI (Sm_trans S3 (Sm_mono (fun r k z => by unfold Ss rdS; omega) (fun r z => z.elim) m2)) ?_ ?_⟩
                · have k2 : ∀ r k, r = 172 ∨ r = 173 → gI (sI (cI M (156 + 2 * s) sp (156 + 2 * u) dp c) 1 11 0) r k = gI M r k := fun r k hr => by rw [gI_ne (by omega), gI_cI, if_neg (by omega)]
                  rw [mst' _ (Gd_Sm S2 hG) k2, if_neg p2, if_neg q2, if_neg p1, if_neg (fun z => z (by rw [nI_toInt hsp, nI_toInt hc]; omega)), if_pos (by rw [nI_toInt hdp, nI_toInt hc]; omega)]
                  by_cases hlt : sp < dp
                  · rw [decide_eq_false (show ¬ dp ≤ sp by omega)] at m1
                    rw [if_pos ((nI_ltI hsp hdp).mpr hlt)]
                    exact m1
                  · rw [decide_eq_true (show dp ≤ sp by omega)] at m1
                    rw [if_neg (fun z => hlt ((nI_ltI hsp hdp).mp z))]
                    exact m1
                · intro v hv
                  obtain ⟨g1, g2', g3, g5⟩ := hS v hv
                  rw [nN _ _ (by omega) (by omega) (by omega) (by omega), nN 172 v (by omega) (by omega) (by omega) (by omega), nN _ _ (by omega) (by omega) (by omega) (by omega), nN 173 v (by omega) (by omega) (by omega) (by omega)]
                  refine ⟨g1, g2', g3, fun k hk => ?_⟩
                  have b174 : ∀ q, gI (sI (sI (sI (cI M (156 + 2 * s) sp (156 + 2 * u) dp c) 1 11 0) 171 0 0) 171 1 0) 174 q = gI M 174 q := fun q => base 174 q (by omega) (by omega) (by omega)
                  rw [m3, b174, b174]
                  by_cases hvu : v = u
                  · subst hvu
                    have e6 : gI N (156 + 2 * v) k = va_cpy (gI M (156 + 2 * s)) (gI M (156 + 2 * v)) sp dp c k := by
                      rw [m2.2.2.1 _ _ (by show ¬ _; omega), gI_ne (by omega), gI_ne (by omega), gI_ne (by omega), gI_cI, if_pos rfl]
                    rw [e6]
                    by_cases hin : dp ≤ k ∧ k < dp + c
                    · rw [pk_cpy_in hin.1 hin.2, if_pos (by omega), e5 _ (by omega), show 40 * s + (sp + (k - dp)) = 40 * s + sp + (40 * v + k - (40 * v + dp)) by omega]
                    · rw [pk_cpy_out (by omega), if_neg (by omega)]; exact g5 k hk
                  · rw [nN _ _ (by omega) (by omega) (by omega) (by omega), if_neg (by omega)]; exact g5 k hk
                · rw [m2.2.2.1 _ _ (by show ¬ _; omega), m2.2.2.1 _ _ (by show ¬ _; omega), gI_ne (by omega), gI_ne (by omega), gI_at, gI_at]
          · exact fnd 5 (by rw [cst, if_neg a1, if_neg a2, if_neg a3]) (fun N k1 k2 => by rw [mst N k1 k2, if_neg a1, if_neg a2, if_neg a3])
