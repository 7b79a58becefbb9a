/-! ===== sayings: the class reads, part, saying, atom ===== -/
theorem seq_eq (T : Tp) (sub : Nat → Nat → Rr) (w op p k : Nat) : seqF T sub w op p k = (match sub p k with
  | .inl e => .inl e
  | .inr (p', k', c) => lpF T sub w op 500 p' k' c) := rfl
/-- the last of an atom: a mark, or a fault -/
theorem c_atomM {e k mk row p : Nat} {E M : Mm} {T : Tp} {x1 : Int32} (hC : CX E M T mk) (hp : p ≤ T.1) (hT : TkC M T p) (h8 : gI M 98 8 = nI k) (hk : k ≤ 12) (hrow : row ≤ 12) (h1 : ¬ tkW T p = tx 6) (h2 : ¬ tkG T p 40 = true) : ∃ b N, go (e + 6) 92 0 [.ref 98, .int x1, .int (nI row), .null, .null, .null] [] M = some (some (.int b), N) ∧ PcR T row M N b (markF T mk p k) := by
  obtain ⟨hG, hTP, hX, hE, hW, h5, hmk⟩ := id hC
  have o := ok_98 hG
  have iw : go (e + 5) 110 0 [.ref 3, .ref 1006, .null] [] M = some (some (.int (b2i (decide (tkW T p = tx 6)))), M) := c_isWord (d := e) (i := 6) hG hTP hp hT hE hX (by omega)
  have ig : go (e + 5) 109 0 [.ref 3, .int (40 : Int32)] [] M = some (some (.int (b2i (tkG T p 40))), M) := c_isSign (d := e + 4) (ch := 40) hG hTP hp hT (by omega)
  rw [decide_eq_false h1] at iw
  have h2' : tkG T p 40 = false := by simpa using h2
  rw [h2'] at ig
  obtain ⟨N1, y, m1, m2⟩ := c_markHere (d := e + 3) (row := row) hC hT h8 hk
  cases hr : markF T mk p k with
  | inl x =>
    obtain ⟨f, pl⟩ := x
    rw [hr] at m2
    obtain ⟨rfl, s1, s2, s3⟩ := m2
    refine ⟨0, N1, ?_, s1, rfl, s2, s3⟩
    rw [q92_0, if_pos o, gr_98_2 hG, if_pos (ok_3 hG), iw, bI_s, if_pos o, gr_98_2 hG, if_pos (ok_3 hG), ig, bI_s, if_pos (by decide), if_pos (by decide), if_pos o, m1, bI_s, if_neg (by decide)]
  | inr x =>
    rw [hr] at m2
    obtain ⟨rfl, rfl, s3, s4⟩ := m2
    have hE4 := s4
    rw [Sum.inr.injEq] at hE4
    subst hE4
    have hlt : tkN T p < 10 := by omega
    have hG7 : Gd (sI N1 98 8 (nI (k + 1))) := hG
    have hW7 : Wd (sI N1 98 8 (nI (k + 1))) := hW
    obtain ⟨A1, f1, f2⟩ := kt_fill (d := e + 3) (KS_row hG7 (i := row) (by omega))
    obtain ⟨A2, g1, g2⟩ := kt_keepOn (d := e + 3) (m := tkN T p) f2 (by omega) hlt hW7 (KS_row hG7 (i := row) (by omega))
    have SA : Sm Sp (Sq row) N1 A2 := Sm_trans (Sm_sI (by unfold Sp; omega)) (KSet_Sm g2 (by unfold Sq; omega))
    have hCA := CX_S hC SA
    have hGA1 := KSet_G f2 hG7
    have hGA := hCA.1
    have tA : TkC A2 T p := by
      unfold TkC at hT ⊢
      rw [KSet_I g2, gI_ne (by omega), gI_ne (by omega), gI_ne (by omega), gI_ne (by omega)]; exact hT
    obtain ⟨A3, n1, n2, n3⟩ := c_next (d := e + 3) hGA hCA.2.1 hp tA
    have kp : 0 ≤ nI (tkN T p) := nI_pos' (by omega)
    refine ⟨1, A3, ?_, Sm_trans SA (Sp_sc n2), rfl, n3, ?_, fun j => j.testBit (tkN T p), fun j hj => ?_, Ev_mark hlt⟩
    · rw [q92_0, if_pos o, gr_98_2 hG, if_pos (ok_3 hG), iw, bI_s, if_pos o, gr_98_2 hG, if_pos (ok_3 hG), ig, bI_s, if_pos (by decide), if_pos (by decide), if_pos o, m1, bI_s, if_pos kp, if_pos o, if_pos o, h8, bM_d, nI_1, if_pos (ok_98 hG7), gr_98_4 hG7, if_pos (rk_99 hG7 (by omega)), nI_clamp (by omega), gr_row hG7 (by omega), if_pos (ok_row hG7 (by omega)), f1, bV_s, if_pos (ok_98 hGA1), gr_98_4 hGA1, if_pos (rk_99 hGA1 (by omega)), gr_row hGA1 (by omega), if_pos (ok_row hGA1 (by omega)), g1, bV_s, if_pos (ok_98 hGA), gr_98_2 hGA, if_pos (ok_3 hGA), n1, bV_s]
    · rw [n2.2.2.1 _ _ (by unfold Sc; omega), KSet_I g2, gI_at]
    · rw [n2.2.2.2 _ (fun z => z), KSet_g g2 j hj]; simp
/-- not, or a bracket, with no room left -/
theorem c_atom1 {e m mk : Nat} {E : Mm} {T : Tp} (hm : m ≤ 5) (p k row : Nat) (M : Mm) (hC : CX E M T mk) (hp : p ≤ T.1) (hT : TkC M T p) (h8 : gI M 98 8 = nI k) (hk : k ≤ 12) (hrow : row ≤ 12 - 2 * m) (hr1 : (tkW T p = tx 6 ∨ tkG T p 40 = true) → atF T mk m p k = .inl (3, tkS T p) ∧ (m = 0 ∨ False)) (hr2 : ¬ tkW T p = tx 6 → ¬ tkG T p 40 = true → atF T mk m p k = markF T mk p k) : ∃ b N, go (e + 6) 92 0 [.ref 98, .int (nI (5 - m)), .int (nI row), .null, .null, .null] [] M = some (some (.int b), N) ∧ PcR T row M N b (atF T mk m p k) := by
  obtain ⟨hG, hTP, hX, hE, hW, h5, hmk⟩ := id hC
  have o := ok_98 hG
  have iw : go (e + 5) 110 0 [.ref 3, .ref 1006, .null] [] M = some (some (.int (b2i (decide (tkW T p = tx 6)))), M) := c_isWord (d := e) (i := 6) hG hTP hp hT hE hX (by omega)
  have ig : go (e + 5) 109 0 [.ref 3, .int (40 : Int32)] [] M = some (some (.int (b2i (tkG T p 40))), M) := c_isSign (d := e + 4) (ch := 40) hG hTP hp hT (by omega)
  by_cases h : tkW T p = tx 6 ∨ tkG T p 40 = true
  · obtain ⟨e1, e2⟩ := hr1 h
    have m0 : m = 0 := e2.elim id (fun z => z.elim)
    subst m0
    obtain ⟨N, f1, f2, f3, f4⟩ := c_fail (d := e + 4) (f := 3) (row := row) hG hT
    have f1' : go (e + 5) 81 0 [.ref 98, .int (3 : Int32)] [] M = some (some (.int 0), N) := f1
    rw [e1]
    refine ⟨0, N, ?_, f2, rfl, f3, f4⟩
    have fin : ∀ x3 x4 : Int32, go (e + 6) 92 82 [.ref 98, .int (nI (5 - 0)), .int (nI row), .int x3, .int x4, .null] [] M = some (some (.int 0), N) := fun x3 x4 => by
      rw [q92_82, if_neg (by decide), if_pos o, f1', bI_s, if_pos (by decide)]
    rw [q92_0, if_pos o, gr_98_2 hG, if_pos (ok_3 hG), iw, bI_s, if_pos o, gr_98_2 hG, if_pos (ok_3 hG), ig, bI_s]
    by_cases hw : tkW T p = tx 6
    · rw [decide_eq_true hw, if_neg (by decide)]; exact fin _ _
    · have hg : tkG T p 40 = true := h.elim (fun z => absurd z hw) id
      rw [decide_eq_false hw, if_pos (by decide), hg, if_neg (by decide)]; exact fin _ _
  · have h1 : ¬ tkW T p = tx 6 := fun z => h (Or.inl z)
    have h2 : ¬ tkG T p 40 = true := fun z => h (Or.inr z)
    rw [hr2 h1 h2]
    exact c_atomM hC hp hT h8 hk (by omega) h1 h2
theorem c_atom2 {e m mk : Nat} {E : Mm} {T : Tp} (hm : m + 1 ≤ 5) (p k row : Nat) (M : Mm) (hC : CX E M T mk) (hp : p ≤ T.1) (hT : TkC M T p) (h8 : gI M 98 8 = nI k) (hk : k ≤ 12) (hrow : row ≤ 12 - 2 * (m + 1))
    (ihN : ∀ (p k row : Nat) (M : Mm), CX E M T mk → p ≤ T.1 → TkC M T p → gI M 98 8 = nI k → k ≤ 12 → row ≤ 12 - 2 * m → ∃ b N, go (e + 8) 92 0 [.ref 98, .int (nI (5 - m)), .int (nI row), .null, .null, .null] [] M = some (some (.int b), N) ∧ PcR T row M N b (atF T mk m p k))
    (ihS : ∀ (p k row : Nat) (M : Mm), CX E M T mk → p ≤ T.1 → TkC M T p → gI M 98 8 = nI k → k ≤ 12 → row ≤ 10 - 2 * m → ∃ b N, go (e + 8) 90 0 [.ref 98, .int (nI (5 - m)), .int (nI row), .null] [] M = some (some (.int b), N) ∧ PcR T row M N b (seqF T (seqF T (atF T mk m) 7 10) 8 11 p k)) : ∃ b N, go (e + 9) 92 0 [.ref 98, .int (nI (5 - (m + 1))), .int (nI row), .null, .null, .null] [] M = some (some (.int b), N) ∧ PcR T row M N b (atF T mk (m + 1) p k) := by
  obtain ⟨hG, hTP, hX, hE, hW, h5, hmk⟩ := id hC
  have o := ok_98 hG
  have iw : go (e + 8) 110 0 [.ref 3, .ref 1006, .null] [] M = some (some (.int (b2i (decide (tkW T p = tx 6)))), M) := c_isWord (d := e + 3) (i := 6) hG hTP hp hT hE hX (by omega)
  have ig : go (e + 8) 109 0 [.ref 3, .int (40 : Int32)] [] M = some (some (.int (b2i (tkG T p 40))), M) := c_isSign (d := e + 7) (ch := 40) hG hTP hp hT (by omega)
  have lt5 : nI (5 - (m + 1)) < (5 : Int32) := (nI_ltI (a := 5 - (m + 1)) (b := 5) (by omega) (by omega)).mpr (by omega)
  have p1 : nI (5 - (m + 1)) + (1 : Int32) = nI (5 - m) := by rw [nI_1, show 5 - (m + 1) + 1 = 5 - m by omega]
  rw [atF]
  by_cases hw : tkW T p = tx 6
  · have ge := tkE_gt hp (by rw [tkW_k hw (by omega)]; omega)
    obtain ⟨N1, n1, n2, n3⟩ := c_next (d := e + 6) hG hTP hp hT
    have S1 : Sm Sp (Sq row) M N1 := Sp_sc n2
    have hC1 := CX_S hC S1
    have h81 : gI N1 98 8 = nI k := (n2.2.2.1 _ _ (by unfold Sc; omega)).trans h8
    obtain ⟨b, N2, a1, a2, a3⟩ := ihN (tkE T p) k row N1 hC1 ge.2 n3 h81 hk (by omega)
    have hC2 := CX_S hC1 a2
    have hG2 := hC2.1
    have S2 : Sm Sp (Sq row) M N2 := Sm_trans S1 a2
    have go1 : ∀ N3, go (e + 8) 45 0 [.ref (100 + 2 * row), .null] [] N2 = some (none, N3) → (b = 0 ∨ b = 1) → go (e + 9) 92 0 [.ref 98, .int (nI (5 - (m + 1))), .int (nI row), .null, .null, .null] [] M = some (some (.int b), N3) := fun N3 t1 hb => by
      have hb' : (b == 0 || b == 1) = true := by rcases hb with rfl | rfl <;> rfl
      rw [q92_0, if_pos o, gr_98_2 hG, if_pos (ok_3 hG), iw, bI_s, if_pos o, gr_98_2 hG, if_pos (ok_3 hG), ig, bI_s, decide_eq_true hw, if_neg (by decide), q92_82, if_pos lt5, if_pos o, gr_98_2 hG, if_pos (ok_3 hG), n1, bV_s, if_neg (by decide), if_pos (ok_98 hC1.1), p1, a1, bI_s, if_pos (ok_98 hG2), gr_98_4 hG2, if_pos (rk_99 hG2 (by omega)), nI_clamp (by omega), gr_row hG2 (by omega), if_pos (ok_row hG2 (by omega)), t1, bV_s, if_pos hb']
    rw [if_pos hw]
    cases hr : atF T mk m (tkE T p) k with
    | inl x =>
      obtain ⟨f, pl⟩ := x
      rw [hr] at a3
      obtain ⟨rfl, f1, f2⟩ := a3
      obtain ⟨N3, t1, t2⟩ := kt_turn (d := e + 7) (KSet_self (fun k _ => rfl)) (KS_row hG2 (i := row) (by omega))
      refine ⟨0, N3, go1 N3 t1 (Or.inl rfl), Sm_trans S2 (KSet_Sm t2 (by unfold Sq; omega)), rfl, ?_, ?_⟩
      · rw [KSet_I t2]; exact f1
      · rw [KSet_I t2]; exact f2
    | inr x =>
      obtain ⟨p', k', c⟩ := x
      rw [hr] at a3
      obtain ⟨rfl, f1, f2, g, f3, f4⟩ := a3
      obtain ⟨N3, t1, t2⟩ := kt_turn (d := e + 7) (KSet_self f3) (KS_row hG2 (i := row) (by omega))
      refine ⟨1, N3, go1 N3 t1 (Or.inr rfl), Sm_trans S2 (KSet_Sm t2 (by unfold Sq; omega)), rfl, ?_, ?_, _, KSet_g t2, Ev_not f4⟩
      · unfold TkC at f1 ⊢; rw [KSet_I t2]; exact f1
      · rw [KSet_I t2]; exact f2
  · by_cases hg : tkG T p 40 = true
    · have ge := tkE_gt hp (by rw [tkG_k hg]; omega)
      obtain ⟨N1, n1, n2, n3⟩ := c_next (d := e + 6) hG hTP hp hT
      have S1 : Sm Sp (Sq row) M N1 := Sp_sc n2
      have hC1 := CX_S hC S1
      have h81 : gI N1 98 8 = nI k := (n2.2.2.1 _ _ (by unfold Sc; omega)).trans h8
      obtain ⟨b, N2, a1, a2, a3⟩ := ihS (tkE T p) k row N1 hC1 ge.2 n3 h81 hk (by omega)
      have hC2 := CX_S hC1 a2
      have hG2 := hC2.1
      have S2 : Sm Sp (Sq row) M N2 := Sm_trans S1 a2
      have st : go (e + 9) 92 0 [.ref 98, .int (nI (5 - (m + 1))), .int (nI row), .null, .null, .null] [] M = if b = 0 then some (some (.int (0 : Int32)), N2) else (bI (go (e + 8) 109 0 [.ref 3, .int (41 : Int32)] [] N2) fun y5 M4 => if y5 = 0 then if okO M4 98 7 = true then bI (go (e + 8) 81 0 [.ref 98, .int (1 : Int32)] [] M4) fun y8 M7 => if (y8 == 0 || y8 == 1) = true then some (some (.int y8), M7) else none else none else if okO M4 98 7 = true then if okO M4 (gR M4 98 2) 10 = true then bV (go (e + 8) 105 0 [.ref (gR M4 98 2), .null, .null] [] M4) fun M6 => some (some (.int (1 : Int32)), M6) else none else none) := by
        rw [q92_0, if_pos o, gr_98_2 hG, if_pos (ok_3 hG), iw, bI_s, if_pos o, gr_98_2 hG, if_pos (ok_3 hG), ig, bI_s, decide_eq_false hw, if_pos (by decide), hg, if_neg (by decide), q92_82, if_pos lt5, if_pos o, gr_98_2 hG, if_pos (ok_3 hG), n1, bV_s, if_pos (by decide), if_pos (ok_98 hC1.1), p1, a1, bI_s, if_pos (ok_98 hG2), gr_98_2 hG2, if_pos (ok_3 hG2)]
      rw [if_neg hw, if_pos hg, st]
      have hok := sa_ok (T := T) hmk m (tkE T p) k ge.2 hk
      unfold saF at hok
      cases hr : seqF T (seqF T (atF T mk m) 7 10) 8 11 (tkE T p) k with
      | inl x =>
        obtain ⟨f, pl⟩ := x
        rw [hr] at a3
        obtain ⟨rfl, f1, f2⟩ := a3
        exact ⟨0, N2, by rw [if_pos rfl], S2, rfl, f1, f2⟩
      | inr x =>
        obtain ⟨p', k', c⟩ := x
        rw [hr] at a3 hok
        obtain ⟨rfl, f1, f2, g, f3, f4⟩ := a3
        obtain ⟨-, k2, -, k4, -, -⟩ := hok
        have ig2 : go (e + 8) 109 0 [.ref 3, .int (41 : Int32)] [] N2 = some (some (.int (b2i (tkG T p' 41))), N2) := c_isSign (d := e + 7) (ch := 41) hG2 hC2.2.1 k2 f1 (by omega)
        by_cases h41 : tkG T p' 41 = true
        · obtain ⟨N3, s1, s2, s3⟩ := c_next (d := e + 6) hG2 hC2.2.1 k2 f1
          simp only [if_pos h41]
          refine ⟨1, N3, ?_, Sm_trans S2 (Sp_sc s2), rfl, s3, ?_, g, fun j hj => ?_, f4⟩
          · rw [if_neg (by decide), ig2, bI_s, h41, if_neg (by decide), if_pos (ok_98 hG2), gr_98_2 hG2, if_pos (ok_3 hG2), s1, bV_s]
          · rw [s2.2.2.1 _ _ (by unfold Sc; omega)]; exact f2
          · rw [s2.2.2.2 _ (fun z => z)]; exact f3 j hj
        · obtain ⟨N3, s1, s2, s3, s4⟩ := c_fail (d := e + 7) (f := 1) (row := row) hG2 f1
          have s1' : go (e + 8) 81 0 [.ref 98, .int (1 : Int32)] [] N2 = some (some (.int 0), N3) := s1
          have h41' : tkG T p' 41 = false := by simpa using h41
          simp only [if_neg h41]
          refine ⟨0, N3, ?_, Sm_trans S2 s2, rfl, s3, s4⟩
          rw [if_neg (by decide), ig2, bI_s, h41', if_pos (by decide), if_pos (ok_98 hG2), s1', bI_s, if_pos (by decide)]
    · rw [if_neg hw, if_neg hg]
      exact c_atomM (e := e + 3) hC hp hT h8 hk (by omega) hw hg
theorem c_partLoop {e m mk row : Nat} {E M : Mm} {T : Tp} (hm : m ≤ 5) (hrow : row ≤ 11 - 2 * m) (hA : ∀ (p k row : Nat) (M : Mm), CX E M T mk → p ≤ T.1 → TkC M T p → gI M 98 8 = nI k → k ≤ 12 → row ≤ 12 - 2 * m → ∃ b N, go (e + 6) 92 0 [.ref 98, .int (nI (5 - m)), .int (nI row), .null, .null, .null] [] M = some (some (.int b), N) ∧ PcR T row M N b (atF T mk m p k)) : ∀ (f p k : Nat) (c : List Nat) (g : Nat → Bool) (N : Mm), f ≤ 500 → CX E M T mk → Sm Sp (Sq row) M N → p ≤ T.1 → k ≤ 12 → TkC N T p → gI N 98 8 = nI k → (∀ j, j < 1024 → kb (gL N (101 + 2 * row)) j = g j) → Ev c g → ∃ b N', go (e + 7) 91 13 [.ref 98, .int (nI (5 - m)), .int (nI row), .int (nI (500 - f))] [] N = some (some (.int b), N') ∧ PcR T row M N' b (lpF T (atF T mk m) 7 10 f p k c)
  | 0, p, k, c, g, N, hf, hC, hS, hp, hk, hT, h8, hg, he => by
    refine ⟨1, N, ?_, hS, rfl, hT, h8, g, hg, he⟩
    rw [q91_13, if_pos (by rw [show (500 : Int32) = nI 500 from rfl, nI_leI (by omega) (by omega)]; omega)]
  | f + 1, p, k, c, g, N, hf, hC, hS, hp, hk, hT, h8, hg, he => by
    have hCN := CX_S hC hS
    obtain ⟨hG, hTP, hX, hE, hW, h5, hmk⟩ := hCN
    have o := ok_98 hG
    have iw := c_isWord (d := e + 1) (i := 7) hG hTP hp hT hE hX (by omega)
    have iw' : go (e + 6) 110 0 [.ref 3, .ref 1007, .null] [] N = some (some (.int (b2i (decide (tkW T p = tx 7)))), N) := iw
    rw [lpF, q91_13, if_neg (by rw [show (500 : Int32) = nI 500 from rfl, nI_leI (by omega) (by omega)]; omega), if_pos o, gr_98_2 hG, if_pos (ok_3 hG), iw', bI_s]
    by_cases hc : tkW T p = tx 7
    · have ge := tkE_gt hp (by rw [tkW_k hc (by omega)]; omega)
      obtain ⟨N1, n1, n2, n3⟩ := c_next (d := e + 4) hG hTP hp hT
      have S1 : Sm Sp (Sq (row + 1)) N N1 := Sp_sc n2
      have hC1 := CX_S (CX_S hC hS) S1
      have hG1 := hC1.1
      have h81 : gI N1 98 8 = nI k := (n2.2.2.1 _ _ (by unfold Sc; omega)).trans h8
      obtain ⟨b, N2, a1, a2, a3⟩ := hA (tkE T p) k (row + 1) N1 hC1 ge.2 n3 h81 hk (by omega)
      have hC2 := CX_S hC1 a2
      have hG2 := hC2.1
      have S2 : Sm Sp (Sq (row + 1)) N N2 := Sm_trans S1 a2
      have S2' : Sm Sp (Sq row) M N2 := Sm_trans hS (Sq_mono (by omega) S2)
      rw [decide_eq_true hc, if_neg (by decide), if_pos o, gr_98_2 hG, if_pos (ok_3 hG), n1, bV_s, if_pos (ok_98 hG1), nI_1, a1, bI_s, if_pos hc]
      have hok := at_ok (T := T) hmk m (tkE T p) k ge.2 hk
      cases hr : (atF T mk m) (tkE T p) k with
      | inl x =>
        obtain ⟨fl, pl⟩ := x
        rw [hr] at a3
        obtain ⟨rfl, f1, f2⟩ := a3
        exact ⟨0, N2, by rw [if_pos rfl], S2', rfl, f1, f2⟩
      | inr x =>
        obtain ⟨p', k', c'⟩ := x
        rw [hr] at a3 hok
        obtain ⟨rfl, f1, f2, g', f3, f4⟩ := a3
        obtain ⟨-, k2, -, k4, -, -⟩ := hok
        have kr : ∀ j, j < 1024 → kb (gL N2 (101 + 2 * row)) j = g j := fun j hj => by
          rw [S2.2.2.2 _ (by unfold Sq; omega)]; exact hg j hj
        obtain ⟨N3, t1, t2⟩ := kt_keep (d := e + 5) (KSet_self kr) (by omega : 101 + 2 * (row + 1) ≠ 101 + 2 * row) (KS_row hG2 (by omega)) (KS_row hG2 (i := row + 1) (by omega))
        have S3 : Sm Sp (Sq row) M N3 := Sm_trans S2' (KSet_Sm t2 (by unfold Sq; omega))
        have tk3 : TkC N3 T p' := by unfold TkC at f1 ⊢; rw [KSet_I t2]; exact f1
        obtain ⟨b, N4, r1, r2⟩ := c_partLoop hm hrow hA f p' k' (c ++ c' ++ [10]) (fun j => g j && g' j) N3 (by omega) hC S3 k2 k4 tk3 (by rw [KSet_I t2]; exact f2) (fun j hj => by rw [KSet_g t2 j hj, f3 j hj]) (Ev_and he f4)
        refine ⟨b, N4, ?_, r2⟩
        rw [if_neg (by decide), if_pos (ok_98 hG2), gr_98_4 hG2, if_pos (rk_99 hG2 (by omega)), if_pos (ok_98 hG2), if_pos (rk_99 hG2 (by omega)), nI_clamp (by omega), gr_row hG2 (by omega), if_pos (ok_row hG2 (by omega)), nI_clamp (by omega), gr_row hG2 (by omega), t1, bV_s, nI_1, show 500 - (f + 1) + 1 = 500 - f by omega]
        exact r1
    · refine ⟨1, N, ?_, ?_⟩
      · rw [decide_eq_false hc, if_pos (by decide)]
      · rw [if_neg hc]; exact ⟨hS, rfl, hT, h8, g, hg, he⟩
theorem c_part {e m mk : Nat} {E : Mm} {T : Tp} (hm : m ≤ 5) (hA : ∀ (p k row : Nat) (M : Mm), CX E M T mk → p ≤ T.1 → TkC M T p → gI M 98 8 = nI k → k ≤ 12 → row ≤ 12 - 2 * m → ∃ b N, go (e + 6) 92 0 [.ref 98, .int (nI (5 - m)), .int (nI row), .null, .null, .null] [] M = some (some (.int b), N) ∧ PcR T row M N b (atF T mk m p k)) (p k row : Nat) (M : Mm) (hC : CX E M T mk) (hp : p ≤ T.1) (hT : TkC M T p) (h8 : gI M 98 8 = nI k) (hk : k ≤ 12) (hrow : row ≤ 11 - 2 * m) : ∃ b N, go (e + 7) 91 0 [.ref 98, .int (nI (5 - m)), .int (nI row), .null] [] M = some (some (.int b), N) ∧ PcR T row M N b (seqF T (atF T mk m) 7 10 p k) := by
  have hG := hC.1
  have hmk := hC.2.2.2.2.2.2
  obtain ⟨b, N, a1, a2, a3⟩ := hA p k row M hC hp hT h8 hk (by omega)
  have hok := at_ok (T := T) hmk m p k hp hk
  rw [seq_eq T (atF T mk m) 7 10 p k, q91_0, if_pos (ok_98 hG), a1, bI_s]
  cases hr : (atF T mk m) p k with
  | inl x =>
    obtain ⟨fl, pl⟩ := x
    rw [hr] at a3
    obtain ⟨rfl, f1, f2⟩ := a3
    exact ⟨0, N, by rw [if_pos rfl], a2, rfl, f1, f2⟩
  | inr x =>
    obtain ⟨p', k', c⟩ := x
    rw [hr] at a3 hok
    obtain ⟨rfl, f1, f2, g, f3, f4⟩ := a3
    obtain ⟨-, k2, -, k4, -, -⟩ := hok
    obtain ⟨b, N4, r1, r2⟩ := c_partLoop hm hrow hA 500 p' k' c g N (by omega) hC a2 k2 k4 f1 f2 f3 f4
    refine ⟨b, N4, ?_, r2⟩
    rw [if_neg (by decide)]
    exact r1
theorem c_sayLoop {e m mk row : Nat} {E M : Mm} {T : Tp} (hm : m ≤ 5) (hrow : row ≤ 10 - 2 * m) (hA : ∀ (p k row : Nat) (M : Mm), CX E M T mk → p ≤ T.1 → TkC M T p → gI M 98 8 = nI k → k ≤ 12 → row ≤ 11 - 2 * m → ∃ b N, go (e + 7) 91 0 [.ref 98, .int (nI (5 - m)), .int (nI row), .null] [] M = some (some (.int b), N) ∧ PcR T row M N b (seqF T (atF T mk m) 7 10 p k)) : ∀ (f p k : Nat) (c : List Nat) (g : Nat → Bool) (N : Mm), f ≤ 500 → CX E M T mk → Sm Sp (Sq row) M N → p ≤ T.1 → k ≤ 12 → TkC N T p → gI N 98 8 = nI k → (∀ j, j < 1024 → kb (gL N (101 + 2 * row)) j = g j) → Ev c g → ∃ b N', go (e + 8) 90 27 [.ref 98, .int (nI (5 - m)), .int (nI row), .int (nI (500 - f))] [] N = some (some (.int b), N') ∧ PcR T row M N' b (lpF T (seqF T (atF T mk m) 7 10) 8 11 f p k c)
  | 0, p, k, c, g, N, hf, hC, hS, hp, hk, hT, h8, hg, he => by
    refine ⟨1, N, ?_, hS, rfl, hT, h8, g, hg, he⟩
    rw [q90_27, if_pos (by rw [show (500 : Int32) = nI 500 from rfl, nI_leI (by omega) (by omega)]; omega)]
  | f + 1, p, k, c, g, N, hf, hC, hS, hp, hk, hT, h8, hg, he => by
    have hCN := CX_S hC hS
    obtain ⟨hG, hTP, hX, hE, hW, h5, hmk⟩ := hCN
    have o := ok_98 hG
    have iw := c_isWord (d := e + 2) (i := 8) hG hTP hp hT hE hX (by omega)
    have iw' : go (e + 7) 110 0 [.ref 3, .ref 1008, .null] [] N = some (some (.int (b2i (decide (tkW T p = tx 8)))), N) := iw
    rw [lpF, q90_27, if_neg (by rw [show (500 : Int32) = nI 500 from rfl, nI_leI (by omega) (by omega)]; omega), if_pos o, gr_98_2 hG, if_pos (ok_3 hG), iw', bI_s]
    by_cases hc : tkW T p = tx 8
    · have ge := tkE_gt hp (by rw [tkW_k hc (by omega)]; omega)
      obtain ⟨N1, n1, n2, n3⟩ := c_next (d := e + 5) hG hTP hp hT
      have S1 : Sm Sp (Sq (row + 1)) N N1 := Sp_sc n2
      have hC1 := CX_S (CX_S hC hS) S1
      have hG1 := hC1.1
      have h81 : gI N1 98 8 = nI k := (n2.2.2.1 _ _ (by unfold Sc; omega)).trans h8
      obtain ⟨b, N2, a1, a2, a3⟩ := hA (tkE T p) k (row + 1) N1 hC1 ge.2 n3 h81 hk (by omega)
      have hC2 := CX_S hC1 a2
      have hG2 := hC2.1
      have S2 : Sm Sp (Sq (row + 1)) N N2 := Sm_trans S1 a2
      have S2' : Sm Sp (Sq row) M N2 := Sm_trans hS (Sq_mono (by omega) S2)
      rw [decide_eq_true hc, if_neg (by decide), if_pos o, gr_98_2 hG, if_pos (ok_3 hG), n1, bV_s, if_pos (ok_98 hG1), nI_1, a1, bI_s, if_pos hc]
      have hok := pt_ok (T := T) hmk m (tkE T p) k ge.2 hk
      cases hr : (seqF T (atF T mk m) 7 10) (tkE T p) k with
      | inl x =>
        obtain ⟨fl, pl⟩ := x
        rw [hr] at a3
        obtain ⟨rfl, f1, f2⟩ := a3
        exact ⟨0, N2, by rw [if_pos rfl], S2', rfl, f1, f2⟩
      | inr x =>
        obtain ⟨p', k', c'⟩ := x
        rw [hr] at a3 hok
        obtain ⟨rfl, f1, f2, g', f3, f4⟩ := a3
        obtain ⟨-, k2, -, k4, -, -⟩ := hok
        have kr : ∀ j, j < 1024 → kb (gL N2 (101 + 2 * row)) j = g j := fun j hj => by
          rw [S2.2.2.2 _ (by unfold Sq; omega)]; exact hg j hj
        obtain ⟨N3, t1, t2⟩ := kt_join (d := e + 6) (KSet_self kr) (by omega : 101 + 2 * (row + 1) ≠ 101 + 2 * row) (KS_row hG2 (by omega)) (KS_row hG2 (i := row + 1) (by omega))
        have S3 : Sm Sp (Sq row) M N3 := Sm_trans S2' (KSet_Sm t2 (by unfold Sq; omega))
        have tk3 : TkC N3 T p' := by unfold TkC at f1 ⊢; rw [KSet_I t2]; exact f1
        obtain ⟨b, N4, r1, r2⟩ := c_sayLoop hm hrow hA f p' k' (c ++ c' ++ [11]) (fun j => g j || g' j) N3 (by omega) hC S3 k2 k4 tk3 (by rw [KSet_I t2]; exact f2) (fun j hj => by rw [KSet_g t2 j hj, f3 j hj]) (Ev_or he f4)
        refine ⟨b, N4, ?_, r2⟩
        rw [if_neg (by decide), if_pos (ok_98 hG2), gr_98_4 hG2, if_pos (rk_99 hG2 (by omega)), if_pos (ok_98 hG2), if_pos (rk_99 hG2 (by omega)), nI_clamp (by omega), gr_row hG2 (by omega), if_pos (ok_row hG2 (by omega)), nI_clamp (by omega), gr_row hG2 (by omega), t1, bV_s, nI_1, show 500 - (f + 1) + 1 = 500 - f by omega]
        exact r1
    · refine ⟨1, N, ?_, ?_⟩
      · rw [decide_eq_false hc, if_pos (by decide)]
      · rw [if_neg hc]; exact ⟨hS, rfl, hT, h8, g, hg, he⟩
theorem c_say {e m mk : Nat} {E : Mm} {T : Tp} (hm : m ≤ 5) (hA : ∀ (p k row : Nat) (M : Mm), CX E M T mk → p ≤ T.1 → TkC M T p → gI M 98 8 = nI k → k ≤ 12 → row ≤ 11 - 2 * m → ∃ b N, go (e + 7) 91 0 [.ref 98, .int (nI (5 - m)), .int (nI row), .null] [] M = some (some (.int b), N) ∧ PcR T row M N b (seqF T (atF T mk m) 7 10 p k)) (p k row : Nat) (M : Mm) (hC : CX E M T mk) (hp : p ≤ T.1) (hT : TkC M T p) (h8 : gI M 98 8 = nI k) (hk : k ≤ 12) (hrow : row ≤ 10 - 2 * m) : ∃ b N, go (e + 8) 90 0 [.ref 98, .int (nI (5 - m)), .int (nI row), .null] [] M = some (some (.int b), N) ∧ PcR T row M N b (seqF T (seqF T (atF T mk m) 7 10) 8 11 p k) := by
  have hG := hC.1
  have hmk := hC.2.2.2.2.2.2
  obtain ⟨b, N, a1, a2, a3⟩ := hA p k row M hC hp hT h8 hk (by omega)
  have hok := pt_ok (T := T) hmk m p k hp hk
  rw [seq_eq T (seqF T (atF T mk m) 7 10) 8 11 p k, q90_0, if_pos (by rw [show (2 : Int32) = nI 2 from rfl, nI_add, show (13 : Int32) = nI 13 from rfl, nI_ltI (by omega) (by omega)]; omega), if_pos (ok_98 hG), a1, bI_s]
  cases hr : (seqF T (atF T mk m) 7 10) p k with
  | inl x =>
    obtain ⟨fl, pl⟩ := x
    rw [hr] at a3
    obtain ⟨rfl, f1, f2⟩ := a3
    exact ⟨0, N, by rw [if_pos rfl], a2, rfl, f1, f2⟩
  | inr x =>
    obtain ⟨p', k', c⟩ := x
    rw [hr] at a3 hok
    obtain ⟨rfl, f1, f2, g, f3, f4⟩ := a3
    obtain ⟨-, k2, -, k4, -, -⟩ := hok
    obtain ⟨b, N4, r1, r2⟩ := c_sayLoop hm hrow hA 500 p' k' c g N (by omega) hC a2 k2 k4 f1 f2 f3 f4
    refine ⟨b, N4, ?_, r2⟩
    rw [if_neg (by decide)]
    exact r1
/-- an atom -/
theorem c_atom {mk : Nat} {E : Mm} {T : Tp} : ∀ (m e : Nat), m ≤ 5 → ∀ (p k row : Nat) (M : Mm), CX E M T mk → p ≤ T.1 → TkC M T p → gI M 98 8 = nI k → k ≤ 12 → row ≤ 12 - 2 * m → ∃ b N, go (e + 3 * m + 6) 92 0 [.ref 98, .int (nI (5 - m)), .int (nI row), .null, .null, .null] [] M = some (some (.int b), N) ∧ PcR T row M N b (atF T mk m p k) := by
  intro m
  induction m with
  | zero =>
    intro e hm p k row M hC hp hT h8 hk hrow
    exact c_atom1 (e := e) (m := 0) hm p k row M hC hp hT h8 hk hrow (fun h => by
      rw [atF, if_pos h]; exact ⟨rfl, Or.inl rfl⟩) (fun h1 h2 => by rw [atF, if_neg (fun z => z.elim h1 h2)])
  | succ m ih =>
    intro e hm p k row M hC hp hT h8 hk hrow
    have ihA := ih e (by omega)
    have ihP := fun p k row M hC hp hT h8 hk hrow => c_part (e := e + 3 * m) (m := m) (mk := mk) (E := E) (T := T) (by omega) ihA p k row M hC hp hT h8 hk hrow
    have ihS := fun p k row M hC hp hT h8 hk hrow => c_say (e := e + 3 * m) (m := m) (mk := mk) (E := E) (T := T) (by omega) ihP p k row M hC hp hT h8 hk hrow
    have ihN := ih (e + 2) (by omega)
    exact c_atom2 (e := e + 3 * m) (m := m) hm p k row M hC hp hT h8 hk hrow (fun p k row M hC hp hT h8 hk hrow => by
      have := ihN p k row M hC hp hT h8 hk hrow
      rw [show e + 2 + 3 * m + 6 = e + 3 * m + 8 by omega] at this
      exact this) ihS
