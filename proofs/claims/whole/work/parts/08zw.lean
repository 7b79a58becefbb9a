/-! ===== the class reads a line: the whole; statements ===== -/
theorem c_lineBegin {d : Nat} {E M : Mm} {T : Tp} {B : Bk} (hC : CS E M T B) (hN : NC M B) (hn : nnB B < 24) : ∃ N, go (d + 3) 74 0 [.ref (26 + 3 * nnB B), .int (nI (vrB B))] [] M = some (none, N) ∧ Sm (Rc (nmB B) (nnB B)) (Rl (nlB B) (nnB B)) M N ∧ NC N B ∧ LF N (nnB B) (vrB B) 0 0 0 (fun _ => true) ∧ ∀ k, gI N 3 k = gI M 3 k := by
  have hG := hC.1
  have hP := hC.2.2.2.2.2.2
  have o := ok_line hG hn
  have hG5 : Gd (sI (sI (sI (sI (sI M (26 + 3 * nnB B) 0 0) (26 + 3 * nnB B) 1 NONE) (26 + 3 * nnB B) 5 0) (26 + 3 * nnB B) 6 (nI (vrB B))) (26 + 3 * nnB B) 7 NONE) := hG
  obtain ⟨N, f1, f2⟩ := kt_fill (d := d) (KS_line hG5 hn)
  have S5 : Sm (Rc (nmB B) (nnB B)) (Rl (nlB B) (nnB B)) M (sI (sI (sI (sI (sI M (26 + 3 * nnB B) 0 0) (26 + 3 * nnB B) 1 NONE) (26 + 3 * nnB B) 5 0) (26 + 3 * nnB B) 6 (nI (vrB B))) (26 + 3 * nnB B) 7 NONE) := Sm_trans (Sm_sI (by unfold Rc; omega)) (Sm_trans (Sm_sI (by unfold Rc; omega)) (Sm_trans (Sm_sI (by unfold Rc; omega)) (Sm_trans (Sm_sI (by unfold Rc; omega)) (Sm_sI (by unfold Rc; omega)))))
  have q3 : ∀ k, gI N 3 k = gI M 3 k := fun k => by rw [KSet_I f2, gI_ne (by omega), gI_ne (by omega), gI_ne (by omega), gI_ne (by omega), gI_ne (by omega)]
  have q98 : ∀ k, gI N 98 k = gI M 98 k := fun k => by rw [KSet_I f2, gI_ne (by omega), gI_ne (by omega), gI_ne (by omega), gI_ne (by omega), gI_ne (by omega)]
  have S6 := Sm_trans S5 (KSet_Sm (T := Rc (nmB B) (nnB B)) (U := Rl (nlB B) (nnB B)) f2 (by unfold Rl; omega))
  refine ⟨N, ?_, S6, NC_R hN S6 hP.2.1 hP.2.2.1 (q98 5) (q98 6) (q98 7), ⟨?_, ?_, ?_, ?_, ?_, KSet_g f2⟩, q3⟩
  · rw [q74_0]
    simp only [o, if_true, bM_d, okO_sI, gR_sI, gr_lineS hG hn, ok_say hG hn, f1, bV_s]
  · rw [KSet_I f2, gI_ne (by omega), gI_ne (by omega), gI_ne (by omega), gI_ne (by omega), gI_at]; rfl
  · rw [KSet_I f2, gI_ne (by omega), gI_ne (by omega), gI_ne (by omega), gI_at]; rfl
  · rw [KSet_I f2, gI_ne (by omega), gI_ne (by omega), gI_at]; rfl
  · rw [KSet_I f2, gI_ne (by omega), gI_at]
  · rw [KSet_I f2, gI_at]
theorem c_lineEnd {d p so bu ac fi se mk : Nat} {E M : Mm} {T : Tp} {B : Bk} {g : Nat → Bool} (hC : CS E M T B) (hN : NC M B) (hn : nnB B < 24) (hp : p ≤ T.1) (h : TkC M T p) (hL : LF M (nnB B) (vrB B) so bu mk g) (hA : AF M (nnB B) ac fi se) : ∃ b N, (bI (go (d + 3) 89 0 [.ref 98] [] M) fun y10 M9 => if y10 = 0 then some (some (.int (0 : Int32)), M9) else if okO M9 98 7 = true then if okO M9 98 7 = true then bM (sI M9 98 7 ((gI M9 98 7) + (1 : Int32))) fun M11 => some (some (.int (1 : Int32)), M11) else none else none) = some (some (.int b), N) ∧ Sm (Rc (nmB B) (nnB B)) (Rl (nlB B) (nnB B)) M N ∧ CR T N b (rbn (semF T p) fun p' => .inr (p', lnB B (fldF so bu ac fi se mk (vrB B)) g)) := by
  have hP := hC.2.2.2.2.2.2
  obtain ⟨b, N1, a1, a2, a3⟩ := c_semi (d := d) (row := 20) hC hp h
  have hC1 := CS_p hC a2
  have hG1 := hC1.1
  have hN1 := NC_p hN a2 hP
  rw [a1, bI_s]
  cases hs : semF T p with
  | inl e =>
    obtain ⟨f, pl⟩ := e
    rw [hs] at a3
    obtain ⟨rfl, f1, f2⟩ := a3
    exact ⟨0, N1, by rw [if_pos rfl], Rc_p a2, rfl, f1, f2⟩
  | inr p' =>
    rw [hs] at a3
    obtain ⟨rfl, f1⟩ := a3
    have hL1 := LF_p hL a2 hn
    have hA1 := AF_p hA a2 hn
    obtain ⟨c1, c2, c3, c4, c5, c6, c7⟩ := hN1
    have ne : ∀ r k, ¬ (r = 98 ∧ k = 7) → gI (sI N1 98 7 (nI (nnB B + 1))) r k = gI N1 r k := fun r k a => gI_ne a
    refine ⟨1, sI N1 98 7 (nI (nnB B + 1)), by rw [if_neg (by decide), if_pos (ok_98 hG1), if_pos (ok_98 hG1), c3, bM_d, nI_1], Sm_trans (Rc_p a2) (Sm_sI (by unfold Rc; omega)), rfl, TkC_ne f1 (fun k => gI_ne (by omega)), ?_⟩
    refine ⟨by rw [ne _ _ (by omega)]; exact c1, by rw [ne _ _ (by omega)]; exact c2, gI_at, fun j hj => ?_, fun i hi => ?_, fun l hl k hk => c6 l hl k hk, fun i hi k hk => ?_⟩
    · rw [ne _ _ (by omega), ne _ _ (by omega), lnB_l _ _ _ _ _ (by omega) (by omega), lnB_l _ _ _ _ _ (by omega) (by omega)]; exact c4 j hj
    · have hi' : i < nnB B + 1 := hi
      rw [ne _ _ (by omega), ne _ _ (by omega), ne _ _ (by omega), ne _ _ (by omega), ne _ _ (by omega), ne _ _ (by omega), ne _ _ (by omega), ne _ _ (by omega), lnB_x _ _ _ _ _ (by omega) (by omega), lnB_x _ _ _ _ _ (by omega) (by omega), lnB_x _ _ _ _ _ (by omega) (by omega), lnB_x _ _ _ _ _ (by omega) (by omega), lnB_x _ _ _ _ _ (by omega) (by omega), lnB_x _ _ _ _ _ (by omega) (by omega), lnB_x _ _ _ _ _ (by omega) (by omega), lnB_x _ _ _ _ _ (by omega) (by omega)]
      by_cases e : i = nnB B
      · subst e
        simp only [if_true]
        obtain ⟨l1, l2, l3, l4, l5, l6⟩ := hL1
        obtain ⟨k1, k2, k3⟩ := hA1
        exact ⟨l1, l2, k1, k2, k3, l3, l4, l5⟩
      · simp only [if_neg e]
        exact c5 i (by omega)
    · show kb (gL N1 (28 + 3 * i)) k = (if i = nnB B then g else B.2.2 i) k
      have hi' : i < nnB B + 1 := hi
      by_cases e : i = nnB B
      · subst e
        rw [if_pos rfl]
        exact hL1.2.2.2.2.2 k hk
      · rw [if_neg e]
        exact c7 i (by omega) k hk
theorem CS_v {E N : Mm} {T : Tp} {B : Bk} (h : CS E N T B) : gI N 5 3 = nI (vrB B) := h.2.2.2.2.2.1
theorem c_readLine {e p : Nat} {E M : Mm} {T : Tp} {B : Bk} (hC : CS E M T B) (hN : NC M B) (hp : p ≤ T.1) (h : TkC M T p) : ∃ b N, go (e + 24) 84 0 [.ref 98, .null] [] M = some (some (.int b), N) ∧ Sm (Rc (nmB B) (nnB B)) (Rl (nlB B) (nnB B)) M N ∧ CR T N b (lnF T B p) := by
  have hG := hC.1
  have hP := hC.2.2.2.2.2.2
  have hnn := hP.2.2.1
  have o := ok_98 hG
  have e7 := hN.2.2.1
  have l24 : nI (nnB B) < (24 : Int32) ↔ nnB B < 24 := nI_ltI (a := nnB B) (b := 24) (by omega) (by omega)
  unfold lnF
  by_cases hn : nnB B < 24
  · rw [if_neg (by omega)]
    obtain ⟨N1, n1, n2, n3⟩ := c_next (d := e + 21) hG hC.2.1 hp h
    have S1 : Sm Sp (Sq 0) M N1 := Sp_sc n2
    have hC1 := CS_p hC S1
    have hG1 := hC1.1
    have hN1 := NC_p hN S1 hP
    obtain ⟨N2, b1, b2, b3, b4, b5⟩ := c_lineBegin (d := e + 20) hC1 hN1 hn
    have S2 : Sm (Rc (nmB B) (nnB B)) (Rl (nlB B) (nnB B)) M N2 := Sm_trans (Rc_p S1) b2
    have hC2 := CS_R hC S2 hnn
    have t2 := TkC_ne n3 b5
    obtain ⟨y4, N3, s1, s2, s3, s4⟩ := c_readSort (d := e + 16) hC2 b3 hn (tkE_le hp) t2 b4
    have S3 := Sm_trans S2 s2
    have hC3 := CS_R hC S3 hnn
    have hl : gR N1 9 (nI (nnB B)).toNatClampNeg = 26 + 3 * nnB B := by rw [nI_clamp (by omega)]; exact gr_line hG1 hn
    have st1 : go (e + 24) 84 0 [.ref 98, .null] [] M = if y4 = 0 then some (some (.int (0 : Int32)), N3) else bI (go (e + 23) 86 0 [.ref 98, .ref (26 + 3 * nnB B), .null, .null, .null] [] N3) fun y6 M5 => if y6 = 0 then some (some (.int (0 : Int32)), M5) else if okO M5 98 7 = true then if okO M5 (gR M5 98 2) 10 = true then bI (go (e + 23) 110 0 [.ref (gR M5 98 2), .ref 1017, .null] [] M5) fun y8 M7 => if y8 = 0 then if okO M7 98 7 = true then bI (go (e + 23) 89 0 [.ref 98] [] M7) fun y10 M9 => if y10 = 0 then some (some (.int (0 : Int32)), M9) else if okO M9 98 7 = true then if okO M9 98 7 = true then bM (sI M9 98 7 ((gI M9 98 7) + (1 : Int32))) fun M11 => some (some (.int (1 : Int32)), M11) else none else none else none else if okO M7 98 7 = true then if okO M7 (gR M7 98 2) 10 = true then bV (go (e + 23) 105 0 [.ref (gR M7 98 2), .null, .null] [] M7) fun M12 => if okO M12 98 7 = true then bM (sI M12 98 8 (0 : Int32)) fun M13 => if okO M13 98 7 = true then bI (go (e + 23) 90 0 [.ref 98, .int (0 : Int32), .int (0 : Int32), .null] [] M13) fun y15 M14 => if y15 = 0 then some (some (.int (0 : Int32)), M14) else if okO M14 (26 + 3 * nnB B) 6 = true then if okO M14 98 7 = true then if rQ M14 (gR M14 98 4) (0 : Int32) = true then if okO M14 (gR M14 (26 + 3 * nnB B) 8) 4 = true then bV (go (e + 23) 44 0 [.ref (gR M14 (26 + 3 * nnB B) 8), .ref (gR M14 (gR M14 98 4) (0 : Int32).toNatClampNeg)] [] M14) fun M16 => if okO M16 98 7 = true then if okO M16 (26 + 3 * nnB B) 6 = true then bM (sI M16 (26 + 3 * nnB B) 5 (gI M16 98 8)) fun M17 => if okO M17 98 7 = true then bI (go (e + 23) 89 0 [.ref 98] [] M17) fun y19 M18 => if y19 = 0 then some (some (.int (0 : Int32)), M18) else if okO M18 98 7 = true then if okO M18 98 7 = true then bM (sI M18 98 7 ((gI M18 98 7) + (1 : Int32))) fun M20 => some (some (.int (1 : Int32)), M20) else none else none else none else none else none else none else none else none else none else none else none else none else none else none else none := by
      rw [q84_0, if_pos o, e7, if_pos (l24.mpr hn), if_pos o, gr_98_2 hG, if_pos (ok_3 hG), n1, bV_s, if_pos (ok_98 hG1), gr_98_3 hG1, if_pos (ok_5 hG1), if_pos (ok_98 hG1), gr_5_7 hG1, hN1.2.2.1, if_pos (rk_9 hG1 hn), if_pos (ok_98 hG1), if_pos (ok_5 hG1), hl, if_pos (ok_line hG1 hn), CS_v hC1, b1, bV_s, if_pos (ok_98 hC2.1), s1, bI_s, if_pos (ok_98 hC3.1)]
    rw [st1]
    cases hr : srF T (tkE T p) with
    | inl x =>
      obtain ⟨f, pl⟩ := x
      rw [hr] at s4
      obtain ⟨rfl, f1, f2⟩ := s4
      exact ⟨0, N3, by rw [if_pos rfl], S3, rfl, f1, f2⟩
    | inr x =>
      obtain ⟨so, bu, p2⟩ := x
      rw [hr] at s4
      obtain ⟨rfl, t3, hL3, -, -, -, hp2⟩ := s4
      obtain ⟨y6, N5, a1, a2, a3, a4⟩ := c_readAct (d := e + 16) hC3 s3 hn hp2 t3 hL3
      have S5 := Sm_trans S3 a2
      have hC5 := CS_R hC S5 hnn
      have hG5 := hC5.1
      rw [if_neg (by decide), a1, bI_s, rbn_r]
      cases hq : acF T p2 with
      | inl x =>
        obtain ⟨f, pl⟩ := x
        rw [hq] at a4
        obtain ⟨rfl, f1, f2⟩ := a4
        exact ⟨0, N5, by rw [if_pos rfl], S5, rfl, f1, f2⟩
      | inr x =>
        obtain ⟨ac, fi, se, p3⟩ := x
        rw [hq] at a4
        obtain ⟨rfl, t5, hL5, hA5, -, -, -, -, hp3⟩ := a4
        have iw : go (e + 23) 110 0 [.ref 3, .ref 1017, .null] [] N5 = some (some (.int (b2i (decide (tkW T p3 = tx 17)))), N5) := c_isWord (d := e + 18) (i := 17) hG5 hC5.2.1 hp3 t5 hC5.2.2.2.1 hC5.2.2.1 (by omega)
        rw [if_neg (by decide), if_pos (ok_98 hG5), gr_98_2 hG5, if_pos (ok_3 hG5), iw, bI_s, rbn_r]
        show ∃ (b : Int32) (N : Mm), _ ∧ _ ∧ CR T N b (rbn (ifF T (nmB B) p3) fun c => rbn (semF T c.2.2) fun p' => .inr (p', lnB B (fldF so bu ac fi se c.1 (vrB B)) c.2.1))
        unfold ifF
        by_cases hw : tkW T p3 = tx 17
        · rw [decide_eq_true hw, if_neg (by decide), if_pos (ok_98 hG5), if_pos hw]
          obtain ⟨N6, m1, m2, m3⟩ := c_next (d := e + 21) hG5 hC5.2.1 hp3 t5
          have S6 : Sm Sp (Sq 0) N5 (sI N6 98 8 0) := Sm_trans (Sp_sc m2) (Sm_sI (by unfold Sp; omega))
          have hC6 := CS_p hC5 S6
          have hG6 : Gd N6 := hC6.1
          have hN6 := NC_p a3 S6 hP
          have t6 : TkC (sI N6 98 8 0) T (tkE T p3) := TkC_ne m3 (fun k => gI_ne (by omega))
          obtain ⟨b, N7, k1, k2, k3⟩ := c_saying0 (e := e) (CS_CX hC6 hN6.1) (tkE_le hp3) t6 gI_at
          have S7 : Sm Sp (Sq 0) N5 N7 := Sm_trans S6 k2
          have hC7 := CS_p hC5 S7
          have hG7 := hC7.1
          have hok := sa_ok (T := T) hP.1 5 (tkE T p3) 0 (tkE_le hp3) (by omega)
          rw [gr_98_2 hG5, if_pos (ok_3 hG5), m1, bV_s, if_pos (ok_98 hG6), bM_d, okO_sI, if_pos (ok_98 hG6), k1, bI_s]
          cases hz : saF T (nmB B) 5 (tkE T p3) 0 with
          | inl x =>
            obtain ⟨f, pl⟩ := x
            rw [hz] at k3
            obtain ⟨rfl, f1, f2⟩ := k3
            exact ⟨0, N7, by rw [if_pos rfl], Sm_trans S5 (Rc_p S7), rfl, f1, f2⟩
          | inr x =>
            obtain ⟨p4, k4, c⟩ := x
            rw [hz] at k3 hok
            obtain ⟨rfl, t7, e8, g, g1, g2⟩ := k3
            obtain ⟨w1, w2, w3, w4, w5, w6⟩ := hok
            have hN7 := NC_p a3 S7 hP
            have hL7 := LF_p hL5 S7 hn
            have hA7 := AF_p hA5 S7 hn
            obtain ⟨N8, u1, u2⟩ := kt_take (d := e + 22) (KS_line hG7 hn) (KS_row hG7 (i := 0) (by omega)) (SHw_line _ hn) rfl
            have hG8 := KSet_G u2 hG7
            have e88 : gI N8 98 8 = nI k4 := by rw [KSet_I u2]; exact e8
            have S9 : Sm (Rc (nmB B) (nnB B)) (Rl (nlB B) (nnB B)) N5 (sI N8 (26 + 3 * nnB B) 5 (nI k4)) := Sm_trans (Rc_p S7) (Sm_trans (KSet_Sm u2 (by unfold Rl; omega)) (Sm_sI (by unfold Rc; omega)))
            have hC9 := CS_R hC5 S9 hnn
            have ne : ∀ r k, ¬ (r = 26 + 3 * nnB B ∧ k = 5) → gI (sI N8 (26 + 3 * nnB B) 5 (nI k4)) r k = gI N7 r k := fun r k a => by rw [gI_ne a, KSet_I u2]
            have hN9 : NC (sI N8 (26 + 3 * nnB B) 5 (nI k4)) B := NC_R hN7 (Sm_trans (KSet_Sm u2 (by unfold Rl; omega)) (Sm_sI (by unfold Rc; omega))) hP.2.1 hnn (ne _ _ (by omega)) (ne _ _ (by omega)) (ne _ _ (by omega))
            have t9 : TkC (sI N8 (26 + 3 * nnB B) 5 (nI k4)) T p4 := TkC_ne t7 (fun k => ne _ _ (by omega))
            have hL9 : LF (sI N8 (26 + 3 * nnB B) 5 (nI k4)) (nnB B) (vrB B) so bu k4 (evC c) := by
              obtain ⟨l1, l2, l3, l4, l5, l6⟩ := hL7
              exact ⟨by rw [ne _ _ (by omega)]; exact l1, by rw [ne _ _ (by omega)]; exact l2, gI_at, by rw [ne _ _ (by omega)]; exact l4, by rw [ne _ _ (by omega)]; exact l5, fun k hk => by
                show kb (gL N8 (28 + 3 * nnB B)) k = evC c k
                rw [KSet_g u2 k hk]
                exact (g1 k hk).trans (Ev_evC g2 hk)⟩
            have hA9 : AF (sI N8 (26 + 3 * nnB B) 5 (nI k4)) (nnB B) ac fi se := by
              obtain ⟨l1, l2, l3⟩ := hA7
              exact ⟨by rw [ne _ _ (by omega)]; exact l1, by rw [ne _ _ (by omega)]; exact l2, by rw [ne _ _ (by omega)]; exact l3⟩
            obtain ⟨b, N10, z1, z2, z3⟩ := c_lineEnd (d := e + 20) hC9 hN9 hn w2 t9 hL9 hA9
            refine ⟨b, N10, ?_, Sm_trans S5 (Sm_trans S9 z2), z3⟩
            rw [if_neg (by decide), if_pos (ok_line hG7 hn), if_pos (ok_98 hG7), gr_98_4 hG7, if_pos (show rQ N7 99 (0 : Int32) = true from rk_99 hG7 (k := 0) (by omega)), gr_lineS hG7 hn, if_pos (ok_say hG7 hn), show gR N7 99 (0 : Int32).toNatClampNeg = 100 from gr_row hG7 (k := 0) (by omega), u1, bV_s, if_pos (ok_98 hG8), if_pos (ok_line hG8 hn), bM_d, e88, okO_sI, if_pos (ok_98 hG8)]
            exact z1
        · rw [decide_eq_false hw, if_pos (by decide), if_pos (ok_98 hG5), if_neg hw]
          obtain ⟨b, N10, z1, z2, z3⟩ := c_lineEnd (d := e + 20) hC5 a3 hn hp3 t5 hL5 hA5
          exact ⟨b, N10, z1, Sm_trans S5 z2, z3⟩
  · rw [if_pos (by omega)]
    obtain ⟨N, a1, a2, a3, a4⟩ := c_fail (d := e + 22) (f := 3) (row := 0) hG h
    have a1' : go (e + 23) 81 0 [.ref 98, .int (3 : Int32)] [] M = some (some (.int 0), N) := a1
    refine ⟨0, N, ?_, Rc_p a2, rfl, a3, a4⟩
    rw [q84_0, if_pos o, e7, if_neg (fun z => hn (l24.mp z)), if_pos o, a1', bI_s, if_pos (by decide)]
theorem CR_b {T : Tp} {N : Mm} {b : Int32} {r : Rb} (h : CR T N b r) : (b == 0 || b == 1) = true := by
  cases r with
  | inl e => obtain ⟨f, pl⟩ := e; obtain ⟨rfl, -⟩ := h; rfl
  | inr e => obtain ⟨p, B⟩ := e; obtain ⟨rfl, -⟩ := h; rfl
theorem c_stmt {e p : Nat} {E M : Mm} {T : Tp} {B : Bk} (hC : CS E M T B) (hN : NC M B) (hp : p ≤ T.1) (h : TkC M T p) : ∃ b N, go (e + 25) 80 0 [.ref 98] [] M = some (some (.int b), N) ∧ Sm (Rc (nmB B) (nnB B)) (Rl (nlB B) (nnB B)) M N ∧ CR T N b (stF T B p) := by
  have hG := hC.1
  have o := ok_98 hG
  have w0 : go (e + 24) 110 0 [.ref 3, .ref 1000, .null] [] M = some (some (.int (b2i (decide (tkW T p = tx 0)))), M) := c_isWord (d := e + 19) (i := 0) hG hC.2.1 hp h hC.2.2.2.1 hC.2.2.1 (by omega)
  have w5 : go (e + 24) 110 0 [.ref 3, .ref 1005, .null] [] M = some (some (.int (b2i (decide (tkW T p = tx 5)))), M) := c_isWord (d := e + 19) (i := 5) hG hC.2.1 hp h hC.2.2.2.1 hC.2.2.1 (by omega)
  have w9 : go (e + 24) 110 0 [.ref 3, .ref 1009, .null] [] M = some (some (.int (b2i (decide (tkW T p = tx 9)))), M) := c_isWord (d := e + 19) (i := 9) hG hC.2.1 hp h hC.2.2.2.1 hC.2.2.1 (by omega)
  rw [q80_0, if_pos o, gr_98_2 hG, if_pos (ok_3 hG), w0, bI_s]
  unfold stF
  by_cases h0 : tkW T p = tx 0
  · rw [if_pos h0, decide_eq_true h0, if_neg (by decide), if_pos o]
    obtain ⟨b, N, a1, a2, a3⟩ := c_readMark (d := e + 17) hC hN hp h
    exact ⟨b, N, by rw [a1, bI_s, if_pos (CR_b a3)], a2, a3⟩
  · rw [if_neg h0, decide_eq_false h0, if_pos (by decide), if_pos o, gr_98_2 hG, if_pos (ok_3 hG), w5, bI_s]
    by_cases h5 : tkW T p = tx 5
    · rw [if_pos h5, decide_eq_true h5, if_neg (by decide), if_pos o]
      obtain ⟨b, N, a1, a2, a3⟩ := c_readLaw (e := e) hC hN hp h
      exact ⟨b, N, by rw [a1, bI_s, if_pos (CR_b a3)], a2, a3⟩
    · rw [if_neg h5, decide_eq_false h5, if_pos (by decide), if_pos o, gr_98_2 hG, if_pos (ok_3 hG), w9, bI_s]
      by_cases h9 : tkW T p = tx 9
      · rw [if_pos h9, decide_eq_true h9, if_neg (by decide), if_pos o]
        obtain ⟨b, N, a1, a2, a3⟩ := c_readLine (e := e) hC hN hp h
        exact ⟨b, N, by rw [a1, bI_s, if_pos (CR_b a3)], a2, a3⟩
      · rw [if_neg h9, decide_eq_false h9, if_pos (by decide), if_pos o]
        obtain ⟨N, a1, a2, a3, a4⟩ := c_fail (d := e + 23) (f := 1) (row := 0) hG h
        have a1' : go (e + 24) 81 0 [.ref 98, .int (1 : Int32)] [] M = some (some (.int 0), N) := a1
        exact ⟨0, N, by rw [a1', bI_s, if_pos (by decide)], Rc_p a2, rfl, a3, a4⟩
