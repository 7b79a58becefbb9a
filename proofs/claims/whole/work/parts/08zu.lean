/-! ===== the class reads a mark, a law ===== -/
theorem mkB_c (B : Bk) (pa wy : Nat) : (mkB B pa wy).1 0 0 = nmB B + 1 ∧ (mkB B pa wy).1 0 1 = nlB B ∧ (mkB B pa wy).1 0 2 = nnB B ∧ (mkB B pa wy).1 0 3 = vrB B := ⟨rfl, rfl, rfl, rfl⟩
theorem mkB_1 (B : Bk) (pa wy j : Nat) : (mkB B pa wy).1 1 j = if j = nmB B then pa else B.1 1 j := by simp [mkB]
theorem mkB_2 (B : Bk) (pa wy j : Nat) : (mkB B pa wy).1 2 j = if j = nmB B then wy else B.1 2 j := by simp [mkB]
theorem mkB_x (B : Bk) (pa wy x j : Nat) (h : 3 ≤ x) : (mkB B pa wy).1 x j = B.1 x j := by
  show (if x = 0 ∧ j = 0 then _ else if x = 1 ∧ j = nmB B then _ else if x = 2 ∧ j = nmB B then _ else B.1 x j) = _
  rw [if_neg (by omega), if_neg (by omega), if_neg (by omega)]
theorem lwB_c (B : Bk) (g : Nat → Bool) : (lwB B g).1 0 0 = nmB B ∧ (lwB B g).1 0 1 = nlB B + 1 ∧ (lwB B g).1 0 2 = nnB B ∧ (lwB B g).1 0 3 = vrB B := ⟨rfl, rfl, rfl, rfl⟩
theorem lwB_x (B : Bk) (g : Nat → Bool) (x j : Nat) (h : 1 ≤ x) : (lwB B g).1 x j = B.1 x j := by
  show (if x = 0 ∧ j = 1 then _ else B.1 x j) = _
  rw [if_neg (by omega)]
theorem lnB_c (B : Bk) (fld : Nat → Nat) (g : Nat → Bool) : (lnB B fld g).1 0 0 = nmB B ∧ (lnB B fld g).1 0 1 = nlB B ∧ (lnB B fld g).1 0 2 = nnB B + 1 ∧ (lnB B fld g).1 0 3 = vrB B := ⟨rfl, rfl, rfl, rfl⟩
theorem lnB_x (B : Bk) (fld : Nat → Nat) (g : Nat → Bool) (x j : Nat) (h : 3 ≤ x) (h2 : x ≤ 10) : (lnB B fld g).1 x j = if j = nnB B then fld x else B.1 x j := by
  show (if x = 0 ∧ j = 2 then _ else if 3 ≤ x ∧ x ≤ 10 ∧ j = nnB B then fld x else B.1 x j) = _
  rw [if_neg (by omega)]
  by_cases e : j = nnB B
  · rw [if_pos ⟨h, h2, e⟩, if_pos e]
  · rw [if_neg (fun z => e z.2.2), if_neg e]
theorem lnB_l (B : Bk) (fld : Nat → Nat) (g : Nat → Bool) (x j : Nat) (h : 1 ≤ x) (h2 : x ≤ 2) : (lnB B fld g).1 x j = B.1 x j := by
  show (if x = 0 ∧ j = 2 then _ else if 3 ≤ x ∧ x ≤ 10 ∧ j = nnB B then fld x else B.1 x j) = _
  rw [if_neg (by omega), if_neg (by omega)]
/-- what comes of a statement, in the class -/
def CR (T : Tp) (N : Mm) (b : Int32) (r : Rb) : Prop := match r with
  | .inl (f, pl) => b = 0 ∧ gI N 98 0 = nI f ∧ gI N 98 1 = nI pl
  | .inr (p', B') => b = 1 ∧ TkC N T p' ∧ NC N B'
theorem tkE_le {T : Tp} {p : Nat} (hp : p ≤ T.1) : tkE T p ≤ T.1 := (tkE_b T hp).2.1
theorem c_mark2 {d p pa : Nat} {E M : Mm} {T : Tp} {B : Bk} (hC : CS E M T B) (hN : NC M B) (hp : p ≤ T.1) (h : TkC M T p) (hnm : nmB B < 10) : ∃ b N, go (d + 7) 82 60 [.ref 98, .int (nI pa - 1), .null] [] M = some (some (.int b), N) ∧ Sm (Rc (nmB B) (nnB B)) (Rl (nlB B) (nnB B)) M N ∧ CR T N b (rbn (choF T 2 3 4 p) fun wy => rbn (semF T (tkE T p)) fun p' => .inr (p', mkB B pa wy)) := by
  have hG := hC.1
  have hP := hC.2.2.2.2.2.2
  have o := ok_98 hG
  have ch := c_chosen (d := d) (i := 2) (j := 3) (k := 4) hC hp h (by omega) (by omega) (by omega)
  have ch' : go (d + 6) 87 0 [.ref 98, .ref 1002, .ref 1003, .ref 1004] [] M = some (some (.int (match choF T 2 3 4 p with
    | .inl _ => -1
    | .inr n => nI n)), M) := ch
  cases hr : choF T 2 3 4 p with
  | inl e =>
    have ch' : go (d + 6) 87 0 [.ref 98, .ref 1002, .ref 1003, .ref 1004] [] M = some (some (.int (-1)), M) := by rw [hr] at ch'; exact ch'
    have he := cho_l hr
    subst he
    obtain ⟨N, a1, a2, a3, a4⟩ := c_fail (d := d + 5) (f := 1) (row := 0) hG h
    have a1' : go (d + 6) 81 0 [.ref 98, .int (1 : Int32)] [] M = some (some (.int 0), N) := a1
    refine ⟨0, N, ?_, Rc_p a2, rfl, a3, a4⟩
    rw [q82_60, if_pos o, ch', bI_s, if_neg (by decide), if_pos o, a1', bI_s, if_pos (by decide)]
  | inr wy =>
    have ch' : go (d + 6) 87 0 [.ref 98, .ref 1002, .ref 1003, .ref 1004] [] M = some (some (.int (nI wy)), M) := by rw [hr] at ch'; exact ch'
    obtain ⟨hw3, hk1⟩ := cho_b hr (by omega) (by omega) (by omega)
    obtain ⟨N1, n1, n2, n3⟩ := c_next (d := d + 4) hG hC.2.1 hp h
    have S1 : Sm Sp (Sq 0) M N1 := Sp_sc n2
    have hC1 := CS_p hC S1
    obtain ⟨b, N2, s1, s2, s3⟩ := c_semi (d := d + 3) (row := 0) hC1 (tkE_le hp) n3
    have hC2 := CS_p hC1 s2
    have hG2 := hC2.1
    have S2 : Sm Sp (Sq 0) M N2 := Sm_trans S1 s2
    have hN2 := NC_p hN S2 hP
    have wp : 0 ≤ nI wy := nI_pos' (by omega)
    have st : go (d + 7) 82 60 [.ref 98, .int (nI pa - 1), .null] [] M = if b = 0 then some (some (.int (0 : Int32)), N2) else some (some (.int (1 : Int32)), sI (sI (sI N2 6 (nmB B) (nI pa - 1)) 7 (nmB B) (nI wy)) 98 5 (nI (nmB B + 1))) := by
      have e5 := hN2.1
      have hGa : Gd (sI N2 6 (nmB B) (nI pa - 1)) := hG2
      have e5a : gI (sI N2 6 (nmB B) (nI pa - 1)) 98 5 = nI (nmB B) := (gI_ne (by omega)).trans e5
      have hGb : Gd (sI (sI N2 6 (nmB B) (nI pa - 1)) 7 (nmB B) (nI wy)) := hG2
      have e5b : gI (sI (sI N2 6 (nmB B) (nI pa - 1)) 7 (nmB B) (nI wy)) 98 5 = nI (nmB B) := (gI_ne (by omega)).trans e5a
      rw [q82_60, if_pos o, ch', bI_s, if_pos wp, if_pos o, gr_98_2 hG, if_pos (ok_3 hG), n1, bV_s, if_pos (ok_98 hC1.1), s1, bI_s, if_pos (ok_98 hG2), gr_98_3 hG2, if_pos (ok_5 hG2), if_pos (ok_98 hG2), e5, gr_5_4 hG2, if_pos (wk_6 hG2 hnm), bM_d, nI_clamp (by omega), if_pos (ok_98 hGa), gr_98_3 hGa, if_pos (ok_5 hGa), if_pos (ok_98 hGa), e5a, gr_5_5 hGa, if_pos (wk_7 hGa hnm), bM_d, nI_clamp (by omega), if_pos (ok_98 hGb), if_pos (ok_98 hGb), e5b, bM_d, nI_1]
    rw [st]
    show ∃ b_1 N, _ ∧ _ ∧ CR T N b_1 (rbn (semF T (tkE T p)) fun p' => .inr (p', mkB B pa wy))
    cases hs : semF T (tkE T p) with
    | inl e =>
      obtain ⟨f, pl⟩ := e
      rw [hs] at s3
      obtain ⟨rfl, f1, f2⟩ := s3
      exact ⟨0, N2, by rw [if_pos rfl], Rc_p S2, rfl, f1, f2⟩
    | inr p' =>
      rw [hs] at s3
      obtain ⟨rfl, f1⟩ := s3
      have ne : ∀ r k, ¬ (r = 6 ∧ k = nmB B) → ¬ (r = 7 ∧ k = nmB B) → ¬ (r = 98 ∧ k = 5) → gI (sI (sI (sI N2 6 (nmB B) (nI pa - 1)) 7 (nmB B) (nI wy)) 98 5 (nI (nmB B + 1))) r k = gI N2 r k := fun r k a b c => by rw [gI_ne c, gI_ne b, gI_ne a]
      refine ⟨1, _, by rw [if_neg (by decide)], Sm_trans (Rc_p S2) (Sm_trans (Sm_sI (by unfold Rc; omega)) (Sm_trans (Sm_sI (by unfold Rc; omega)) (Sm_sI (by unfold Rc; omega)))), rfl, ?_, ?_⟩
      · unfold TkC at f1 ⊢
        rw [ne _ _ (by omega) (by omega) (by omega), ne _ _ (by omega) (by omega) (by omega), ne _ _ (by omega) (by omega) (by omega), ne _ _ (by omega) (by omega) (by omega)]; exact f1
      · obtain ⟨c1, c2, c3, c4⟩ := mkB_c B pa wy
        obtain ⟨a1, a2, a3, a4, a5, a6, a7⟩ := hN2
        refine ⟨by rw [gI_at]; exact congrArg nI c1.symm, by rw [ne _ _ (by omega) (by omega) (by omega)]; exact a2, by rw [ne _ _ (by omega) (by omega) (by omega)]; exact a3, fun j hj => ?_, fun i hi => ?_, fun l hl k hk => a6 l hl k hk, fun i hi k hk => a7 i hi k hk⟩
        · rw [mkB_1, mkB_2]
          by_cases e : j = nmB B
          · subst e
            rw [if_pos rfl, if_pos rfl]
            exact ⟨by rw [gI_ne (by omega), gI_ne (by omega), gI_at], by rw [gI_ne (by omega), gI_at]⟩
          · rw [if_neg e, if_neg e, ne _ _ (by omega) (by omega) (by omega), ne _ _ (by omega) (by omega) (by omega)]
            exact a4 j (by have : j < nmB B + 1 := hj; omega)
        · have q : ∀ k, gI (sI (sI (sI N2 6 (nmB B) (nI pa - 1)) 7 (nmB B) (nI wy)) 98 5 (nI (nmB B + 1))) (26 + 3 * i) k = gI N2 (26 + 3 * i) k := fun k => by
            have h24 := hP.2.2.1
            have hi' : i < nnB B := hi
            exact ne _ _ (by omega) (by omega) (by omega)
          rw [q, q, q, q, q, q, q, q, mkB_x _ _ _ _ _ (by omega), mkB_x _ _ _ _ _ (by omega), mkB_x _ _ _ _ _ (by omega), mkB_x _ _ _ _ _ (by omega), mkB_x _ _ _ _ _ (by omega), mkB_x _ _ _ _ _ (by omega), mkB_x _ _ _ _ _ (by omega), mkB_x _ _ _ _ _ (by omega)]
          exact a5 i hi
theorem le_m1 {nm : Nat} (h : nm ≤ 10) : ∀ n, n < 1000 → (nI n ≤ nI nm - 1 ↔ n < nm) := fun n hn => by
  have := subm1 (n := nm) (by omega)
  rw [fa_le, nI_toInt (by omega)]
  omega
theorem c_readMark {d p : Nat} {E M : Mm} {T : Tp} {B : Bk} (hC : CS E M T B) (hN : NC M B) (hp : p ≤ T.1) (h : TkC M T p) : ∃ b N, go (d + 7) 82 0 [.ref 98, .null, .null] [] M = some (some (.int b), N) ∧ Sm (Rc (nmB B) (nnB B)) (Rl (nlB B) (nnB B)) M N ∧ CR T N b (mkF T B p) := by
  have hG := hC.1
  have hP := hC.2.2.2.2.2.2
  have hnm := hP.1
  have o := ok_98 hG
  have e5 := hN.1
  have l10 : nI (nmB B) < (10 : Int32) ↔ nmB B < 10 := nI_ltI (a := nmB B) (b := 10) (by omega) (by omega)
  unfold mkF
  by_cases h10 : nmB B < 10
  · rw [if_neg (by omega)]
    obtain ⟨N1, n1, n2, n3⟩ := c_next (d := d + 4) hG hC.2.1 hp h
    have S1 : Sm Sp (Sq 0) M N1 := Sp_sc n2
    have hC1 := CS_p hC S1
    have hG1 := hC1.1
    have hN1 := NC_p hN S1 hP
    have hp1 := tkE_le hp
    have iw : go (d + 6) 110 0 [.ref 3, .ref 1001, .null] [] N1 = some (some (.int (b2i (decide (tkW T (tkE T p) = tx 1)))), N1) := c_isWord (d := d + 1) (i := 1) hG1 hC1.2.1 hp1 n3 hC1.2.2.2.1 hC1.2.2.1 (by omega)
    by_cases hw : tkW T (tkE T p) = tx 1
    · obtain ⟨N2, m1, m2, m3⟩ := c_next (d := d + 4) hG1 hC1.2.1 hp1 n3
      have S2 : Sm Sp (Sq 0) M N2 := Sm_trans S1 (Sp_sc m2)
      have hC2 := CS_p hC S2
      obtain ⟨b, N3, a1, a2, a3⟩ := c_mark2 (d := d) (pa := 0) hC2 (NC_p hN S2 hP) (tkE_le hp1) m3 h10
      have a1' : go (d + 7) 82 60 [.ref 98, .int ((-1) : Int32), .null] [] N2 = some (some (.int b), N3) := a1
      refine ⟨b, N3, ?_, Sm_trans (Rc_p S2) a2, ?_⟩
      · rw [q82_0, if_pos o, e5, if_pos (l10.mpr h10), if_pos o, gr_98_2 hG, if_pos (ok_3 hG), n1, bV_s, if_pos (ok_98 hG1), gr_98_2 hG1, if_pos (ok_3 hG1), iw, bI_s, decide_eq_true hw, if_neg (by decide), if_pos (ok_98 hG1), gr_98_2 hG1, if_pos (ok_3 hG1), m1, bV_s]
        exact a1'
      · rw [if_pos hw]; exact a3
    · rw [if_neg hw]
      obtain ⟨y, N2, m1, m2, m3⟩ := c_number (d := d + 3) (row := 0) hC1 hp1 n3 (le_m1 hnm)
      have S2 : Sm Sp (Sq 0) M N2 := Sm_trans S1 m2
      have hC2 := CS_p hC S2
      have st : go (d + 7) 82 0 [.ref 98, .null, .null] [] M = if 0 ≤ y then go (d + 7) 82 60 [.ref 98, .int y, .null] [] N2 else some (some (.int (0 : Int32)), N2) := by
        rw [q82_0, if_pos o, e5, if_pos (l10.mpr h10), if_pos o, gr_98_2 hG, if_pos (ok_3 hG), n1, bV_s, if_pos (ok_98 hG1), gr_98_2 hG1, if_pos (ok_3 hG1), iw, bI_s, decide_eq_false hw, if_pos (by decide), if_pos (ok_98 hG1), if_pos (ok_98 hG1), hN1.1, m1, bI_s]
      rw [st]
      cases hr : numF T (nmB B) (tkE T p) with
      | inl e =>
        obtain ⟨f, pl⟩ := e
        rw [hr] at m3
        obtain ⟨rfl, f1, f2⟩ := m3
        exact ⟨0, N2, by rw [if_neg (by decide)], Rc_p S2, rfl, f1, f2⟩
      | inr n =>
        rw [hr] at m3
        obtain ⟨rfl, f1⟩ := m3
        obtain ⟨hn1, hn2, hn3⟩ := num_b hr
        obtain ⟨b, N3, a1, a2, a3⟩ := c_mark2 (d := d) (pa := n + 1) hC2 (NC_p hN S2 hP) (tkE_le hp1) f1 h10
        rw [nI_pred] at a1
        exact ⟨b, N3, by rw [if_pos (nI_pos' (by omega))]; exact a1, Sm_trans (Rc_p S2) a2, a3⟩
  · rw [if_pos (by omega)]
    obtain ⟨N, a1, a2, a3, a4⟩ := c_fail (d := d + 5) (f := 3) (row := 0) hG h
    have a1' : go (d + 6) 81 0 [.ref 98, .int (3 : Int32)] [] M = some (some (.int 0), N) := a1
    refine ⟨0, N, ?_, Rc_p a2, rfl, a3, a4⟩
    rw [q82_0, if_pos o, e5, if_neg (fun z => h10 (l10.mp z)), if_pos o, a1', bI_s, if_pos (by decide)]
/-- a saying from the first row on -/
theorem c_saying0 {e p mk : Nat} {E M : Mm} {T : Tp} (hC : CX E M T mk) (hp : p ≤ T.1) (hT : TkC M T p) (h8 : gI M 98 8 = 0) : ∃ b N, go (e + 23) 90 0 [.ref 98, .int (0 : Int32), .int (0 : Int32), .null] [] M = some (some (.int b), N) ∧ PcR T 0 M N b (saF T mk 5 p 0) :=
  c_say (e := e + 15) (m := 5) (by omega) (fun p k row M hC hp hT h8 hk hrow => c_part (e := e + 15) (m := 5) (by omega) (c_atom 5 e (by omega)) p k row M hC hp hT h8 hk hrow) p 0 0 M hC hp hT h8 (by omega) (by omega)
theorem c_readLaw {e p : Nat} {E M : Mm} {T : Tp} {B : Bk} (hC : CS E M T B) (hN : NC M B) (hp : p ≤ T.1) (h : TkC M T p) : ∃ b N, go (e + 24) 83 0 [.ref 98] [] M = some (some (.int b), N) ∧ Sm (Rc (nmB B) (nnB B)) (Rl (nlB B) (nnB B)) M N ∧ CR T N b (lwF T B p) := by
  have hG := hC.1
  have hP := hC.2.2.2.2.2.2
  have hnl := hP.2.1
  have o := ok_98 hG
  have e6 := hN.2.1
  have l8 : nI (nlB B) < (8 : Int32) ↔ nlB B < 8 := nI_ltI (a := nlB B) (b := 8) (by omega) (by omega)
  unfold lwF
  by_cases h8 : nlB B < 8
  · rw [if_neg (by omega)]
    obtain ⟨N1, n1, n2, n3⟩ := c_next (d := e + 21) hG hC.2.1 hp h
    have S2 : Sm Sp (Sq 0) M (sI N1 98 8 0) := Sm_trans (Sp_sc n2) (Sm_sI (by unfold Sp; omega))
    have hC2 := CS_p hC S2
    have hG1 : Gd N1 := hC2.1
    have hG2 := hC2.1
    have t2 : TkC (sI N1 98 8 0) T (tkE T p) := by
      unfold TkC at n3 ⊢
      rw [gI_ne (by omega), gI_ne (by omega), gI_ne (by omega), gI_ne (by omega)]; exact n3
    have hN2 := NC_p hN S2 hP
    obtain ⟨b, N3, a1, a2, a3⟩ := c_saying0 (e := e) (CS_CX hC2 hN2.1) (tkE_le hp) t2 gI_at
    have S3 : Sm Sp (Sq 0) M N3 := Sm_trans S2 a2
    have hC3 := CS_p hC S3
    have hG3 := hC3.1
    have hok := sa_ok (T := T) hP.1 5 (tkE T p) 0 (tkE_le hp) (by omega)
    have st : go (e + 24) 83 0 [.ref 98] [] M = if b = 0 then some (some (.int (0 : Int32)), N3) else (bI (go (e + 23) 89 0 [.ref 98] [] N3) fun y6 M5 => if y6 = 0 then some (some (.int (0 : Int32)), M5) else if okO M5 98 7 = true then if okO M5 (gR M5 98 3) 1 = true then if okO M5 98 7 = true then if rQ M5 (gR M5 (gR M5 98 3) 6) (gI M5 98 6) = true then if okO M5 98 7 = true then if rQ M5 (gR M5 98 4) (0 : Int32) = true then if okO M5 (gR M5 (gR M5 (gR M5 98 3) 6) (gI M5 98 6).toNatClampNeg) 4 = true then bV (go (e + 23) 44 0 [.ref (gR M5 (gR M5 (gR M5 98 3) 6) (gI M5 98 6).toNatClampNeg), .ref (gR M5 (gR M5 98 4) (0 : Int32).toNatClampNeg)] [] M5) fun M7 => if okO M7 98 7 = true then if okO M7 98 7 = true then bM (sI M7 98 6 ((gI M7 98 6) + (1 : Int32))) fun M8 => some (some (.int (1 : Int32)), M8) else none else none else none else none else none else none else none else none else none) := by
      rw [q83_0, if_pos o, e6, if_pos (l8.mpr h8), if_pos o, gr_98_2 hG, if_pos (ok_3 hG), n1, bV_s, if_pos (ok_98 hG1), bM_d, if_pos (ok_98 hG2), a1, bI_s, if_pos (ok_98 hG3)]
    rw [st]
    cases hr : saF T (nmB B) 5 (tkE T p) 0 with
    | inl x =>
      obtain ⟨f, pl⟩ := x
      rw [hr] at a3
      obtain ⟨rfl, f1, f2⟩ := a3
      exact ⟨0, N3, by rw [if_pos rfl], Rc_p S3, rfl, f1, f2⟩
    | inr x =>
      obtain ⟨p2, k2, c⟩ := x
      rw [hr] at a3 hok
      obtain ⟨rfl, f1, f2, g, f3, f4⟩ := a3
      obtain ⟨s1, s2, s3, s4, s5, s6⟩ := hok
      obtain ⟨b, N4, m1, m2, m3⟩ := c_semi (d := e + 20) (row := 20) hC3 s2 f1
      have S4 : Sm Sp (Sq 0) M N4 := Sm_trans S3 (Sq_mono (by omega) m2)
      show ∃ b_1 N, _ ∧ _ ∧ CR T N b_1 (rbn (semF T p2) fun p' => .inr (p', lwB B (evC c)))
      rw [if_neg (by decide), m1, bI_s]
      cases hs : semF T p2 with
      | inl x =>
        obtain ⟨f, pl⟩ := x
        rw [hs] at m3
        obtain ⟨rfl, g1, g2⟩ := m3
        exact ⟨0, N4, by rw [if_pos rfl], Rc_p S4, rfl, g1, g2⟩
      | inr p' =>
        rw [hs] at m3
        obtain ⟨rfl, g1⟩ := m3
        have hC4 := CS_p hC S4
        have hG4 := hC4.1
        have hN4 := NC_p hN S4 hP
        have row0 : ∀ k, k < 1024 → kb (gL N4 101) k = evC c k := fun k hk => by
          rw [m2.2.2.2 101 (by unfold Sq; omega), f3 k hk, Ev_evC f4 hk]
        obtain ⟨N5, t1, t2⟩ := kt_take (d := e + 22) (KS_law hG4 (i := nlB B) h8) (KS_row hG4 (i := 0) (by omega)) (SHw_law _ h8) rfl
        have hG5 := KSet_G t2 hG4
        have e65 : gI N5 98 6 = nI (nlB B) := by rw [KSet_I t2]; exact hN4.2.1
        have ne : ∀ r k, ¬ (r = 98 ∧ k = 6) → gI (sI N5 98 6 (nI (nlB B + 1))) r k = gI N4 r k := fun r k a => by rw [gI_ne a, KSet_I t2]
        refine ⟨1, sI N5 98 6 (nI (nlB B + 1)), ?_, Sm_trans (Rc_p S4) (Sm_trans (KSet_Sm t2 (by unfold Rl; omega)) (Sm_sI (by unfold Rc; omega))), rfl, ?_, ?_⟩
        · rw [if_neg (by decide), if_pos (ok_98 hG4), gr_98_3 hG4, if_pos (ok_5 hG4), if_pos (ok_98 hG4), gr_5_6 hG4, hN4.2.1, if_pos (rk_8 hG4 h8), if_pos (ok_98 hG4), gr_98_4 hG4, if_pos (show rQ N4 99 (0 : Int32) = true from rk_99 hG4 (k := 0) (by omega)), nI_clamp (by omega), gr_law hG4 h8, if_pos (ok_law hG4 h8), show gR N4 99 (0 : Int32).toNatClampNeg = 100 from gr_row hG4 (k := 0) (by omega), t1, bV_s, if_pos (ok_98 hG5), if_pos (ok_98 hG5), e65, bM_d, nI_1]
        · unfold TkC at g1 ⊢
          rw [ne _ _ (by omega), ne _ _ (by omega), ne _ _ (by omega), ne _ _ (by omega)]; exact g1
        · obtain ⟨c1, c2, c3, c4⟩ := lwB_c B (evC c)
          obtain ⟨a1, a2, a3, a4, a5, a6, a7⟩ := hN4
          refine ⟨by rw [ne _ _ (by omega)]; exact a1, by rw [gI_at]; exact congrArg nI c2.symm, by rw [ne _ _ (by omega)]; exact a3, fun j hj => ?_, fun i hi => ?_, fun l hl k hk => ?_, fun i hi k hk => ?_⟩
          · rw [ne _ _ (by omega), ne _ _ (by omega), lwB_x _ _ _ _ (by omega), lwB_x _ _ _ _ (by omega)]; exact a4 j hj
          · have hi' : i < nnB B := hi
            have h24 := hP.2.2.1
            rw [ne _ _ (by omega), ne _ _ (by omega), ne _ _ (by omega), ne _ _ (by omega), ne _ _ (by omega), ne _ _ (by omega), ne _ _ (by omega), ne _ _ (by omega), lwB_x _ _ _ _ (by omega), lwB_x _ _ _ _ (by omega), lwB_x _ _ _ _ (by omega), lwB_x _ _ _ _ (by omega), lwB_x _ _ _ _ (by omega), lwB_x _ _ _ _ (by omega), lwB_x _ _ _ _ (by omega), lwB_x _ _ _ _ (by omega)]
            exact a5 i hi
          · show kb (gL N5 (11 + 2 * l)) k = (if l = nlB B then evC c else B.2.1 l) k
            by_cases el : l = nlB B
            · subst el
              rw [if_pos rfl, KSet_g t2 k hk]
              exact row0 k hk
            · have hl' : l < nlB B + 1 := hl
              rw [if_neg el, KSet_o t2 (by omega)]
              exact a6 l (by omega) k hk
          · show kb (gL N5 (28 + 3 * i)) k = B.2.2 i k
            rw [KSet_o t2 (by omega)]
            exact a7 i hi k hk
  · rw [if_pos (by omega)]
    obtain ⟨N, a1, a2, a3, a4⟩ := c_fail (d := e + 22) (f := 3) (row := 0) hG h
    have a1' : go (e + 23) 81 0 [.ref 98, .int (3 : Int32)] [] M = some (some (.int 0), N) := a1
    refine ⟨0, N, ?_, Rc_p a2, rfl, a3, a4⟩
    rw [q83_0, if_pos o, e6, if_neg (fun z => h8 (l8.mp z)), if_pos o, a1', bI_s, if_pos (by decide)]
