/-! ===== end, buyer, who, alike ===== -/
theorem bodyB_lt {B : Bk} {k v : Nat} {b : Int32} (h : nnB B ≤ 24) : bodyB B k v b < 2 ^ 31 := bs31 _ (by omega)
theorem op_end {E M : Mm} {B : Bk} {d : Nat} (hI : Inv E M B) (x : Int32) : Alike E M (d + 3) 128 203 [.ref 1, .int x] [.ref 171, .int x] := by
  have hN := thr hI
  obtain ⟨hG, hX, hS, hT, hLA, hTR, hB, ⟨bk, bv, hU⟩, hE, hH⟩ := id hI
  have hG' : Gd (sI M 171 0 0) := hG
  have hB' := hN.2.2.2.2.2.2.1
  have hn := BK_nn hB
  obtain ⟨c1, c2, c3, c4, c5, c6, c7, c8, c9, c10, c11, c12, c13⟩ := hB.1
  have o1 := ok_1 hG
  have r2 := gr_1_2 hG
  have r5 := gr_1_5 hG
  have o5 := ok_5 hG
  have o8 := ok_138 hG
  have o := ok_171 hG
  have o' := ok_171 hG'
  have cl := c_isLine (d := d + 1) hG (BK_c hB) x
  cases h : inR (nnB B) x with
  | false =>
    refine Alike_q hI (-1000001) M (sI M 171 0 0) ?_ Sm_refl ?_ sm0
    · simp only [q128_0, o1, r2, o5, if_true, cl, bI_s, b2i0, h]
    · rw [q203_0, if_pos o, bM_d, if_pos o', m_isLine hG' (BK_c hB'), bI_s]
      simp only [b2i0, h, if_true]
  | true =>
    obtain ⟨i, hi, rfl⟩ := inR_n (by omega) h
    obtain ⟨l1, l2, l3, l4, l5, l6, l7, l8, l9, l10, m0, m1, m2, m3, m4, m5, m6, m7, n0, n1, n2, n3, n4, n5, n6, n7⟩ := hB.2.2.1 i hi
    have e10 := (hB.2.2.2.2.2.2.2 i hi).2
    have q1 := rk_9 hG (k := i) (by omega)
    have g1 := gr_line hG (k := i) (by omega)
    have g7 := gr_5_7 hG
    have ol := ok_line hG (k := i) (by omega)
    have cli := nI_clamp (n := i) (by omega)
    have on := optI_none e10
    by_cases he : B.1 10 i = 0
    · have on' : optI (B.1 10 i) = -1000000 := on.mpr he
      refine ⟨1, sI (sI M (26 + 3 * i) 7 (nI (vrB B))) 138 4 0, sI (sI (sI (sI M (26 + 3 * i) 7 (nI (vrB B))) 138 4 0) 171 0 0) 183 i (nI (vrB B)), upB B 10 i (vrB B + 1), ?_, ?_, ?_⟩
      · simp only [q128_0, o1, r2, o5, if_true, cl, bI_s, b2i0, h, Bool.true_eq_false, if_false, g7, q1, cli, g1, ol, m7, on', eq_self, if_true, c7, bM_d, okO_sI, gR_sI, r5, o8]
      · have hG2 : Gd (sI (sI (sI M (26 + 3 * i) 7 (nI (vrB B))) 138 4 0) 171 0 0) := hG
        have hC2 : CNT (sI (sI (sI M (26 + 3 * i) 7 (nI (vrB B))) 138 4 0) 171 0 0) (nmB B) (nlB B) (nnB B) (vrB B) := by
          have e3 : ∀ r k, ¬ ((r = 26 + 3 * i ∧ k = 7) ∨ (r = 138 ∧ k = 4) ∨ (r = 171 ∧ k = 0)) → gI (sI (sI (sI M (26 + 3 * i) 7 (nI (vrB B))) 138 4 0) 171 0 0) r k = gI M r k := fun r k hh => by
            rw [gI_ne (by omega), gI_ne (by omega), gI_ne (by omega)]
          exact ⟨(e3 _ _ (by omega)).trans c1, (e3 _ _ (by omega)).trans c2, (e3 _ _ (by omega)).trans c3, (e3 _ _ (by omega)).trans c4, (e3 _ _ (by omega)).trans c5, (e3 _ _ (by omega)).trans c6, (e3 _ _ (by omega)).trans c7, (e3 _ _ (by omega)).trans c8, (e3 _ _ (by omega)).trans c9, c10, c11, c12, c13⟩
        have n7' : gI (sI (sI (sI M (26 + 3 * i) 7 (nI (vrB B))) 138 4 0) 171 0 0) 183 i = optI (B.1 10 i) := by
          rw [gI_ne (by omega), gI_ne (by omega), gI_ne (by omega)]; exact n7
        have c8' : gI (sI (sI (sI M (26 + 3 * i) 7 (nI (vrB B))) 138 4 0) 171 0 0) 171 40 = nI (vrB B) := by
          rw [gI_ne (by omega), gI_ne (by omega), gI_ne (by omega)]; exact c8
        rw [q203_0]
        simp only [okO_sI, o, if_true, bM_d]
        rw [m_isLine hG2 hC2, bI_s, h]
        simp only [okO_sI, o, if_true, b2i0, Bool.true_eq_false, if_false, gR_sI, gr_171_16 hG, rOK_sI, wOK_sI, rk_183 hG (show i < 24 by omega), wk_183 hG (show i < 24 by omega), cli, n7', on', eq_self, c8']
      · have e1 : ∀ r k, ¬ ((r = 26 + 3 * i ∧ k = 7) ∨ (r = 138 ∧ k = 4) ∨ (r = 171 ∧ k = 0) ∨ (r = 183 ∧ k = i)) → gI (sI (sI (sI (sI M (26 + 3 * i) 7 (nI (vrB B))) 138 4 0) 171 0 0) 183 i (nI (vrB B))) r k = gI M r k := fun r k hh => by
          rw [gI_ne (by omega), gI_ne (by omega), gI_ne (by omega), gI_ne (by omega)]
        have z1 : gI (sI (sI (sI (sI M (26 + 3 * i) 7 (nI (vrB B))) 138 4 0) 171 0 0) 183 i (nI (vrB B))) (26 + 3 * i) 7 = nI (vrB B) := by
          rw [gI_ne (by omega), gI_ne (by omega), gI_ne (by omega), gI_at]
        have z2 : gI (sI (sI (sI (sI M (26 + 3 * i) 7 (nI (vrB B))) 138 4 0) 171 0 0) 183 i (nI (vrB B))) 183 i = nI (vrB B) := gI_at
        have z3 : gI (sI (sI (sI (sI M (26 + 3 * i) 7 (nI (vrB B))) 138 4 0) 171 0 0) 183 i (nI (vrB B))) 138 4 = 0 := by
          rw [gI_ne (by omega), gI_ne (by omega), gI_at]
        generalize hNN : sI (sI (sI (sI M (26 + 3 * i) 7 (nI (vrB B))) 138 4 0) 171 0 0) 183 i (nI (vrB B)) = N at e1 z1 z2 z3
        have hGN : Gd N := by rw [← hNN]; exact hG
        have hLN : gL N = gL M := by rw [← hNN]; rfl
        have hRN : gR N = gR M := by rw [← hNN]; rfl
        have f1 : ∀ a, a ≠ 10 → (upB B 10 i (vrB B + 1)).1 a = B.1 a := fun a ha => upB_f ha
        have f0 := f1 0 (by omega)
        have n1 : nmB (upB B 10 i (vrB B + 1)) = nmB B := congrFun f0 0
        have n2 : nlB (upB B 10 i (vrB B + 1)) = nlB B := congrFun f0 1
        have n3 : nnB (upB B 10 i (vrB B + 1)) = nnB B := congrFun f0 2
        have n4 : vrB (upB B 10 i (vrB B + 1)) = vrB B := congrFun f0 3
        have ha : ∀ k, alB (upB B 10 i (vrB B + 1)) k = alB B k := alB_eq n1 n2 (f1 1 (by omega)) (f1 2 (by omega)) rfl
        refine ⟨hGN, ?_, SHT_cong (fun r k z => e1 r k (by unfold rdS at z; omega)) hS, TAP_cong (fun r k z => e1 r k (by unfold rdT at z; omega)) hT, LAT_cong (e1 _ _ (by omega)) (e1 _ _ (by omega)) (e1 _ _ (by omega)) (e1 _ _ (by omega)) hLA, TRC_cong (fun r k z => e1 r k (by unfold rdC at z; omega)) hTR, ?_, ⟨bk, bv, ?_⟩, Or.inl z3, HC_eq n1 ha (HC_cong (fun r k z => e1 r k (by unfold rdH at z; omega)) hH)⟩
        · intro r hr
          obtain ⟨x1, x2, x3⟩ := hX r hr
          exact ⟨by rw [← x1]; funext k; exact e1 r k (by omega), by rw [hLN]; exact x2, by rw [hRN]; exact x3⟩
        · obtain ⟨a1, a2, a3, a4, a5, a6, a7, a8⟩ := hB
          refine ⟨?_, ?_, ?_, ?_, ?_, ?_, fun j hj => by rw [hLN]; exact a7 j hj, ?_⟩
          · rw [n1, n2, n3, n4]
            exact ⟨(e1 _ _ (by omega)).trans c1, (e1 _ _ (by omega)).trans c2, (e1 _ _ (by omega)).trans c3, (e1 _ _ (by omega)).trans c4, (e1 _ _ (by omega)).trans c5, (e1 _ _ (by omega)).trans c6, (e1 _ _ (by omega)).trans c7, (e1 _ _ (by omega)).trans c8, (e1 _ _ (by omega)).trans c9, c10, c11, c12, c13⟩
          · rw [n1, f1 1 (by omega), f1 2 (by omega)]
            intro j hj
            rw [e1 6 j (by omega), e1 7 j (by omega), e1 175 j (by omega), e1 176 j (by omega)]
            exact a2 j hj
          · rw [n3, f1 3 (by omega), f1 4 (by omega), f1 5 (by omega), f1 6 (by omega), f1 7 (by omega), f1 8 (by omega), f1 9 (by omega)]
            intro t ht
            have hq : ∀ k, k ≠ 7 → gI N (26 + 3 * t) k = gI M (26 + 3 * t) k := fun k hk => e1 _ k (by omega)
            rw [hq 0 (by omega), hq 1 (by omega), hq 2 (by omega), hq 3 (by omega), hq 4 (by omega), hq 5 (by omega), hq 6 (by omega), e1 177 t (by omega), e1 178 t (by omega), e1 179 t (by omega), e1 180 t (by omega), e1 181 t (by omega), e1 186 (8 + t) (by omega), e1 182 t (by omega)]
            obtain ⟨b1, b2, b3, b4, b5, b6, b7, b8, b9, b10, b11, b12, b13, b14, b15, b16, b17, b18, b19, b20, b21, b22, b23, b24, b25, b26⟩ := a3 t ht
            by_cases hti : t = i
            · subst hti
              have ev : optI ((upB B 10 t (vrB B + 1)).1 10 t) = nI (vrB B) := by rw [upB_e]; rfl
              exact ⟨b1, b2, b3, b4, b5, b6, b7, b8, b9, Or.inr ⟨vrB B, c13, ev⟩, b11, b12, b13, b14, b15, b16, b17, z1.trans ev.symm, b19, b20, b21, b22, b23, b24, b25, z2.trans ev.symm⟩
            · have ev : optI ((upB B 10 i (vrB B + 1)).1 10 t) = optI (B.1 10 t) := by rw [upB_n (by omega)]
              simp only [ev]
              exact ⟨b1, b2, b3, b4, b5, b6, b7, b8, b9, b10, b11, b12, b13, b14, b15, b16, b17, (e1 _ _ (by omega)).trans b18, b19, b20, b21, b22, b23, b24, b25, (e1 _ _ (by omega)).trans b26⟩
          · refine DRW_eq n1 n2 n3 (f1 1 (by omega)) (f1 2 (by omega)) rfl ?_
            obtain ⟨b1, b2, b3, b4, b5, b6⟩ := a4
            unfold DRW
            rw [hLN]
            exact ⟨b1, b2, b3, b4, fun k hk => by rw [e1 189 k (by omega)]; exact b5 k hk, fun k hk => by rw [e1 190 k (by omega)]; exact b6 k hk⟩
          · rw [n2]
            exact fun l hl => by
              obtain ⟨p, p1, p2, p3, p4, p5⟩ := a5 l hl
              exact ⟨p, p1, by rw [e1 _ _ (by omega)]; exact p2, fun i hi => by rw [e1 _ _ (by omega)]; exact p3 i hi, p4, p5⟩
          · rw [n3]
            exact fun l hl => by
              obtain ⟨p, p1, p2, p3, p4, p5⟩ := a6 l hl
              exact ⟨p, p1, by rw [e1 _ _ (by omega)]; exact p2, fun i hi => by rw [e1 _ _ (by omega)]; exact p3 i hi, p4, p5⟩
          · rw [n3, f1 9 (by omega)]
            intro t ht
            refine ⟨(a8 t ht).1, ?_⟩
            by_cases hti : t = i
            · subst hti; rw [upB_e]; omega
            · rw [upB_n (by omega)]; exact (a8 t ht).2
        · rw [n1]
          exact BUY_cong (fun r k z => e1 r k (by unfold rdU at z; omega)) hU
    · have on' : ¬ optI (B.1 10 i) = -1000000 := fun z => he (on.mp z)
      refine Alike_q hI (-1000002) M (sI M 171 0 0) ?_ Sm_refl ?_ sm0
      · simp only [q128_0, o1, r2, o5, if_true, cl, bI_s, b2i0, h, Bool.true_eq_false, if_false, g7, q1, cli, g1, ol, m7, on']
      · have n7' : gI (sI M 171 0 0) 183 i = optI (B.1 10 i) := n7
        rw [q203_0]
        simp only [okO_sI, o, if_true, bM_d]
        rw [m_isLine hG' (BK_c hB'), bI_s, h]
        simp only [okO_sI, o, if_true, b2i0, Bool.true_eq_false, if_false, gR_sI, gr_171_16 hG, rOK_sI, rk_183 hG (show i < 24 by omega), cli, n7', on']
theorem op_buyer {E M : Mm} {B : Bk} {d : Nat} (hI : Inv E M B) (x y z : Int32) : Alike E M (d + 3) 136 221 [.ref 1, .int x, .int y, .int z] [.ref 171, .int x, .int y, .int z] := by
  have hN := thr hI
  obtain ⟨hG, hX, hS, hT, hLA, hTR, hB, ⟨bk, bv, hU⟩, hE, hH⟩ := id hI
  have hG' : Gd (sI M 171 0 0) := hG
  have hB' := hN.2.2.2.2.2.2.1
  have hn := BK_nn hB
  have hp := p10 hn.1
  have o1 := ok_1 hG
  have r2 := gr_1_2 hG
  have o5 := ok_5 hG
  have o := ok_171 hG
  have ck := c_isKind (d := d) hG (BK_c hB) y
  have ik := m_isKind (d := d) hG' (BK_c hB') y
  cases h1 : inR 8 x with
  | false =>
    refine Alike_q hI (-1000001) M (sI M 171 0 0) ?_ Sm_refl ?_ sm0
    · simp only [q136_0, c_isBuyer, bI_s, b2i0, h1, if_true]
    · simp only [q221_0, o, if_true, bM_d, m_isBuyer, bI_s, b2i0, h1]
  | true =>
    cases h2 : inR (2 ^ nmB B) y with
    | false =>
      refine Alike_q hI (-1000001) M (sI M 171 0 0) ?_ Sm_refl ?_ sm0
      · simp only [q136_0, c_isBuyer, bI_s, b2i0, h1, if_true, Bool.true_eq_false, if_false, o1, r2, o5, ck, h2]
      · simp only [q221_0, o, okO_sI, if_true, bM_d, m_isBuyer, bI_s, b2i0, h1, Bool.true_eq_false, if_false, ik, h2]
    | true =>
      cases h3 : inR 10 z with
      | false =>
        refine Alike_q hI (-1000001) M (sI M 171 0 0) ?_ Sm_refl ?_ sm0
        · simp only [q136_0, c_isBuyer, bI_s, b2i0, h1, if_true, Bool.true_eq_false, if_false, o1, r2, o5, ck, h2, c_isVersion, h3]
        · simp only [q221_0, o, okO_sI, if_true, bM_d, m_isBuyer, bI_s, b2i0, h1, Bool.true_eq_false, if_false, ik, h2, m_isVersion, h3]
      | true =>
        obtain ⟨b, hb, rfl⟩ := inR_n (by omega) h1
        obtain ⟨k, hk, rfl⟩ := inR_n (by omega) h2
        obtain ⟨v, hv, rfl⟩ := inR_n (by omega) h3
        have hG2 : Gd (sI (sI (sI M 153 b (nI k)) 154 b (nI v)) 171 0 0) := hG
        have hB2 : BK (sI (sI (sI M 153 b (nI k)) 154 b (nI v)) 171 0 0) B := BK_cong (M := M) (fun r k z => by rw [gI_ne (by unfold rdB at z; omega), gI_ne (by unfold rdB at z; omega), gI_ne (by unfold rdB at z; omega)]) (fun _ _ => rfl) hB
        have ik2 := m_isKind (d := d) hG2 (BK_c hB2) (nI k)
        refine ⟨1, sI (sI M 153 b (nI k)) 154 b (nI v), sI (sI (sI (sI (sI M 153 b (nI k)) 154 b (nI v)) 171 0 0) 195 b (nI k)) 196 b (nI v), B, ?_, ?_, ?_⟩
        · simp only [q136_0, c_isBuyer, bI_s, b2i0, h1, if_true, Bool.true_eq_false, if_false, o1, r2, o5, ck, h2, c_isVersion, h3, gr_1_8 hG, gr_1_9 hG, wk_153 hG hb, wk_154 hG hb, bM_d, okO_sI, gR_sI, wOK_sI, nI_clamp (show b < 2 ^ 31 by omega)]
        · simp only [q221_0, o, okO_sI, if_true, bM_d, m_isBuyer, bI_s, b2i0, h1, Bool.true_eq_false, if_false, ik2, h2, m_isVersion, h3, gR_sI, gr_171_45 hG, gr_171_46 hG, wOK_sI, wk_195 hG hb, wk_196 hG hb, nI_clamp (show b < 2 ^ 31 by omega)]
        · have e1 : ∀ r k', ¬ ((r = 153 ∧ k' = b) ∨ (r = 154 ∧ k' = b) ∨ (r = 171 ∧ k' = 0) ∨ (r = 195 ∧ k' = b) ∨ (r = 196 ∧ k' = b)) → gI (sI (sI (sI (sI (sI M 153 b (nI k)) 154 b (nI v)) 171 0 0) 195 b (nI k)) 196 b (nI v)) r k' = gI M r k' := fun r k' hh => by
            rw [gI_ne (by omega), gI_ne (by omega), gI_ne (by omega), gI_ne (by omega), gI_ne (by omega)]
          refine ⟨hG, ?_, SHT_cong (fun r k z => e1 r k (by unfold rdS at z; omega)) hS, TAP_cong (fun r k z => e1 r k (by unfold rdT at z; omega)) hT, LAT_cong (e1 _ _ (by omega)) (e1 _ _ (by omega)) (e1 _ _ (by omega)) (e1 _ _ (by omega)) hLA, TRC_cong (fun r k z => e1 r k (by unfold rdC at z; omega)) hTR, BK_cong (fun r k z => e1 r k (by unfold rdB at z; omega)) (fun _ _ => rfl) hB, ⟨fun a => if a = b then k else bk a, fun a => if a = b then v else bv a, ?_⟩, EC_cong (fun r k z => e1 r k (by unfold rdE at z; omega)) hE, HC_cong (fun r k z => e1 r k (by unfold rdH at z; omega)) hH⟩
          · intro r hr
            obtain ⟨x1, x2, x3⟩ := hX r hr
            exact ⟨by rw [← x1]; funext k'; exact e1 r k' (by omega), x2, x3⟩
          · intro a ha
            by_cases hab : a = b
            · subst hab
              simp only [if_true]
              refine ⟨hk, by omega, ?_, ?_, ?_, ?_⟩
              · rw [gI_ne (by omega), gI_ne (by omega), gI_ne (by omega), gI_ne (by omega), gI_at]
              · rw [gI_ne (by omega), gI_at]
              · rw [gI_ne (by omega), gI_ne (by omega), gI_ne (by omega), gI_at]
              · rw [gI_at]
            · simp only [hab, if_false]
              rw [e1 _ _ (by omega), e1 _ _ (by omega), e1 _ _ (by omega), e1 _ _ (by omega)]
              exact hU a ha
theorem c_bob {d : Nat} {M : Mm} {B : Bk} {bk bv : Nat → Nat} {b : Nat} (hG : Gd M) (hB : BK M B) (hU : BUY M (nmB B) bk bv) (hb : b < 8) : go (d + 3) 153 0 [.ref 1, .int (nI b)] [] M = some (some (.int (nI (bodyB B (bk b) (bv b) (nI b)))), M) := by
  have hn := BK_nn hB
  have hp := p10 hn.1
  obtain ⟨u1, u2, u3, u4, u5, u6⟩ := hU b hb
  simp only [q153_0, ok_1 hG, if_true, gr_1_8 hG, gr_1_9 hG, rk_153 hG hb, rk_154 hG hb, gr_1_2 hG, ok_5 hG, nI_clamp (show b < 2 ^ 31 by omega), u3, u5, c_standing hG hB (show bk b < 1024 by omega) u2, bI_s]
theorem m_bob {d : Nat} {M : Mm} {B : Bk} {bk bv : Nat → Nat} {b : Nat} (hG : Gd M) (hB : BK M B) (hU : BUY M (nmB B) bk bv) (hb : b < 8) : go (d + 2) 223 0 [.ref 171, .int (nI b)] [] M = some (some (.int (nI (bodyB B (bk b) (bv b) (nI b)))), M) := by
  have hn := BK_nn hB
  obtain ⟨u1, u2, u3, u4, u5, u6⟩ := hU b hb
  simp only [q223_0, ok_171 hG, if_true, gr_171_45 hG, gr_171_46 hG, rk_195 hG hb, rk_196 hG hb, nI_clamp (show b < 2 ^ 31 by omega), u4, u6, m_bodyOf hG hB u1 u2, bI_s]
theorem op_alike {E M : Mm} {B : Bk} {d : Nat} (hI : Inv E M B) (x y : Int32) : Alike E M (d + 4) 139 225 [.ref 1, .int x, .int y] [.ref 171, .int x, .int y] := by
  have hN := thr hI
  obtain ⟨hG, hX, hS, hT, hLA, hTR, hB, ⟨bk, bv, hU⟩, hE, hH⟩ := id hI
  have hG' : Gd (sI M 171 0 0) := hG
  have hB' := hN.2.2.2.2.2.2.1
  have hU' : BUY (sI M 171 0 0) (nmB B) bk bv := BUY_cong (fun r k z => gI_ne (by unfold rdU at z; omega)) hU
  have o := ok_171 hG
  cases h1 : inR 8 x with
  | false =>
    refine Alike_q hI (-1000001) M (sI M 171 0 0) ?_ Sm_refl ?_ sm0
    · simp only [q139_0, c_isBuyer, bI_s, b2i0, h1, if_true]
    · simp only [q225_0, o, if_true, bM_d, m_isBuyer, bI_s, b2i0, h1]
  | true =>
    cases h2 : inR 8 y with
    | false =>
      refine Alike_q hI (-1000001) M (sI M 171 0 0) ?_ Sm_refl ?_ sm0
      · simp only [q139_0, c_isBuyer, bI_s, b2i0, h1, h2, if_true, Bool.true_eq_false, if_false]
      · simp only [q225_0, o, if_true, bM_d, m_isBuyer, bI_s, b2i0, h1, h2, Bool.true_eq_false, if_false]
    | true =>
      obtain ⟨a, ha, rfl⟩ := inR_n (by omega) h1
      obtain ⟨b, hb, rfl⟩ := inR_n (by omega) h2
      refine Alike_q hI (if nI (bodyB B (bk a) (bv a) (nI a)) = nI (bodyB B (bk b) (bv b) (nI b)) then 1 else 0) M (sI M 171 0 0) ?_ Sm_refl ?_ sm0
      · simp only [q139_0, c_isBuyer, bI_s, b2i0, h1, h2, if_true, Bool.true_eq_false, if_false, ok_1 hG, c_bob hG hB hU ha, c_bob hG hB hU hb]
        split <;> rfl
      · simp only [q225_0, o, okO_sI, if_true, bM_d, m_isBuyer, bI_s, b2i0, h1, h2, Bool.true_eq_false, if_false, m_bob hG' hB' hU' ha, m_bob hG' hB' hU' hb]
        split <;> rfl
theorem shl0 : ∀ m, m < 31 → (nI 0 <<< (nI m &&& 31)) = (0 : Int32) := by decide +kernel
theorem op_who {E M : Mm} {B : Bk} {d : Nat} (hI : Inv E M B) (x : Int32) : Alike E M (d + 4) 138 224 [.ref 1, .int x, .null, .null] [.ref 171, .int x, .null, .null] := by
  have hN := thr hI
  obtain ⟨hG, hX, hS, hT, hLA, hTR, hB, ⟨bk, bv, hU⟩, hE, hH⟩ := id hI
  have hG' : Gd (sI M 171 0 0) := hG
  have hB' := hN.2.2.2.2.2.2.1
  have hU' : BUY (sI M 171 0 0) (nmB B) bk bv := BUY_cong (fun r k z => gI_ne (by unfold rdU at z; omega)) hU
  have hn := BK_nn hB
  have o := ok_171 hG
  have o1 := ok_1 hG
  have cl := c_isLine (d := d + 2) hG (BK_c hB) x
  cases h : inR (nnB B) x with
  | false =>
    refine Alike_q hI (-1000001) M (sI M 171 0 0) ?_ Sm_refl ?_ sm0
    · simp only [q138_0, o1, gr_1_2 hG, ok_5 hG, if_true, cl, bI_s, b2i0, h]
    · simp only [q224_0, o, okO_sI, if_true, bM_d, m_isLine hG' (BK_c hB'), bI_s, b2i0, h]
  | true =>
    obtain ⟨i, hi, rfl⟩ := inR_n (by omega) h
    refine Alike_q hI (nI (bset (fun b => (bodyB B (bk b) (bv b) (nI b)).testBit i) 8)) M (sI M 171 0 0) ?_ Sm_refl ?_ sm0
    · simp only [q138_0, o1, gr_1_2 hG, ok_5 hG, if_true, cl, bI_s, b2i0, h, Bool.true_eq_false, if_false]
      rw [show (0 : Int32) = nI 0 from rfl]
      obtain ⟨s, s1, s2⟩ := loopI (σ := Int32) (fun b s => go (d + 4) 138 18 [.ref 1, .int (nI i), .int s, .int (nI b)] [] M) (fun b s => s = nI (bset (fun b => (bodyB B (bk b) (bv b) (nI b)).testBit i) b)) 8 (fun b s hb hs => by
        subst hs
        refine ⟨_, ?_, rfl⟩
        try dsimp only
        rw [q138_18, if_neg (by rw [show (8 : Int32) = nI 8 from rfl, nI_leI (by omega) (by omega)]; omega), if_pos o1, c_bob hG hB hU hb, bI_s, c_hasBit (bodyB_lt (by omega)) (by omega), bI_s, nI_1]
        simp only [b2i0]
        cases hc : (bodyB B (bk b) (bv b) (nI b)).testBit i with
        | false => rw [if_pos rfl, no_b (p := fun b => (bodyB B (bk b) (bv b) (nI b)).testBit i) hc]
        | true => rw [if_neg (by decide), or_b (p := fun b => (bodyB B (bk b) (bv b) (nI b)).testBit i) (by omega) hc]) 8 0 (nI 0) (by omega) rfl
      try dsimp only at s1
      rw [s1, q138_18, if_pos (by decide), s2]
    · simp only [q224_0, o, okO_sI, if_true, bM_d, m_isLine hG' (BK_c hB'), bI_s, b2i0, h, Bool.true_eq_false, if_false]
      rw [show (0 : Int32) = nI 0 from rfl]
      obtain ⟨s, s1, s2⟩ := loopI (σ := Int32) (fun b s => go (d + 4) 224 20 [.ref 171, .int (nI i), .int s, .int (nI b)] [] (sI M 171 0 (nI 0))) (fun b s => s = nI (bset (fun b => (bodyB B (bk b) (bv b) (nI b)).testBit i) b)) 8 (fun b s hb hs => by
        subst hs
        refine ⟨_, ?_, rfl⟩
        try dsimp only
        rw [q224_20, if_neg (by rw [show (8 : Int32) = nI 8 from rfl, nI_leI (by omega) (by omega)]; omega), if_pos (show okO (sI M 171 0 (nI 0)) 171 12 = true from o), m_bob (M := sI M 171 0 (nI 0)) hG' hB' hU' hb, bI_s, bX_d, bitN (bodyB_lt (by omega)) (by omega), nI_1]
        cases hc : (bodyB B (bk b) (bv b) (nI b)).testBit i with
        | false =>
          rw [show Bool.toNat false = 0 from rfl, shl0 b (by omega), no_b (p := fun b => (bodyB B (bk b) (bv b) (nI b)).testBit i) hc]
          simp
        | true => rw [show Bool.toNat true = 1 from rfl, show nI 1 = (1 : Int32) from rfl, or_b (p := fun b => (bodyB B (bk b) (bv b) (nI b)).testBit i) (by omega) hc]) 8 0 (nI 0) (by omega) rfl
      try dsimp only at s1
      rw [s1, q224_20, if_pos (by decide), s2]
