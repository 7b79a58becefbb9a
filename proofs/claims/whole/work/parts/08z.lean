/-! ===== why ===== -/
theorem sb_set {nl n : Nat} (hl : nl ≤ 8) (hn : n < 512) (h : (nI n &&& (nI (setN (fun _ => true) nl true) ^^^ ((-1) : Int32))) = 0) : setN (fun l => n.testBit l) nl (n.testBit 8) = n := by
  rw [show ((-1) : Int32) = nI (2 ^ 32 - 1) from rfl, fb_xorI, fa_and, show (0 : Int32) = nI 0 from rfl, nI_eq (Nat.lt_of_le_of_lt Nat.and_le_left (by omega)) (by omega)] at h
  apply Nat.eq_of_testBit_eq
  intro i
  have h2 := congrArg (fun z => z.testBit i) h
  simp only [Nat.testBit_and, Nat.testBit_xor, Nat.testBit_two_pow_sub_one, Nat.zero_testBit, setN_tb hl] at h2
  rw [setN_tb hl]
  by_cases h9 : i < 9
  · by_cases e8 : i = 8
    · subst e8; simp [show ¬ 8 < nl by omega]
    · by_cases el : i < nl
      · simp [el, e8]
      · simp [el, e8, show i < 32 by omega] at h2
        simp [el, e8, h2]
  · rw [tb_big (n := 9) hn h9]; simp [show ¬ i < nl by omega, show ¬ i = 8 by omega]
theorem all_or : ∀ n, n < 9 → (256 : Int32) ||| (((1 : Int32) <<< (nI n &&& 31)) - (1 : Int32)) = nI (256 + (2 ^ n - 1)) := by decide +kernel
theorem rest_m : ∀ n, n < 11 → (1023 : Int32) &&& (nI (2 ^ n - 1) ^^^ ((-1) : Int32)) = nI (1024 - 2 ^ n) := by decide +kernel
theorem gw_rest : ∀ n, n < 11 → ∀ k, k < 1024 → gwB 0 (1024 - 2 ^ n) k = decide (k < 2 ^ n) := by decide +kernel
/-- kinds that go with a choice -/
def wyS (B : Bk) (on off k : Nat) : Bool := decide (k < 2 ^ nmB B) && gwB on off k
/-- do these laws bar them all -/
def brB (B : Bk) (on off n : Nat) : Bool := !anyB (fun k => wyS B on off k && hsB B (fun l => n.testBit l) (n.testBit 8) k) (2 ^ nmB B)
def sbB (B : Bk) (n : Nat) : Bool := decide ((nI n &&& (nI (setN (fun _ => true) (nlB B) true) ^^^ ((-1) : Int32))) = 0)
def wyF (B : Bk) (on off : Nat) : Nat → Nat
  | 0 => 0
  | n + 1 => if sbB B n && (decide (wyF B on off n = 0) || decide (pcN n < pcN (wyF B on off n - 1))) && brB B on off n then n + 1 else wyF B on off n
theorem wyF_le (B : Bk) (on off : Nat) : ∀ n, wyF B on off n ≤ n
  | 0 => Nat.le_refl _
  | n + 1 => by
    have := wyF_le B on off n
    simp only [wyF]
    split <;> omega
theorem pcN_9 {n : Nat} (h : n < 512) : pcN n ≤ 9 := by
  unfold pcN
  rw [ct_cut (n := 9) (by omega) (fun i h1 _ => tb_big (n := 9) h (by omega))]
  exact fb_ct_le _ _
theorem c_barSome {d : Nat} {M N : Mm} {B : Bk} {on off n : Nat} {g : Nat → Bool} (hG : Gd M) (hB : BK M B) (hS : ∀ k, k < 1024 → kb (gL M 132) k = wyS B on off k) (hN : KSet M N 134 g) (hn5 : n < 512) : ∃ N' g', go (d + 2) 69 0 [.ref 126, .int (nI n), .null] [] N = some (some (.int (b2i (brB B on off n))), N') ∧ KSet M N' 134 g' := by
  have hn := BK_nn hB
  have hp := p10 hn.1
  have hTr : ∀ k, k < 1024 → kb (gL M 130) k = (decide (k < 2 ^ nmB B) && trB B k) := hB.2.2.2.1.1
  have hLw : ∀ l, l < nlB B → ∀ k, k < 1024 → kb (gL M (11 + 2 * l)) k = B.2.1 l k := hB.2.2.2.1.2.2.1
  have hGN := KSet_G hN hG
  obtain ⟨N1, s1, k1⟩ := kt_takeN (d := d) hN (by omega : (132 : Nat) ≠ 134) (KS_rest hG) (KS_some hG) rfl rfl
  have k1 := KSet_c k1 hS
  have hG1 := KSet_G k1 hG
  obtain ⟨N2, s2, k2⟩ := kt_keep (d := d) k1 (by omega : (130 : Nat) ≠ 134) (KS_rest hG) (KS_tree hG)
  have hb8 := c_hasBit (d := d) (M := N1) (n := n) (i := 8) (by omega) (by omega)
  have mid : ∃ N3, go (d + 2) 69 0 [.ref 126, .int (nI n), .null] [] N = go (d + 2) 69 33 [.ref 126, .int (nI n), .int (nI 0)] [] N3 ∧ KSet M N3 134 (fun k => wyS B on off k && (!n.testBit 8 || trB B k) && allB (fun l => !n.testBit l || B.2.1 l k) 0) := by
    cases h8 : n.testBit 8 with
    | false =>
      rw [h8] at hb8
      refine ⟨N1, ?_, KSet_c k1 (fun k _ => by simp [allB])⟩
      simp only [q69_0, ok_126 hGN, if_true, gr_126_3 hGN, ok_133 hGN, gr_126_2 hGN, s1, bV_s, hb8, show (8 : Int32) = nI 8 from rfl, bI_s, b2i0]
      rfl
    | true =>
      rw [h8] at hb8
      refine ⟨N2, ?_, KSet_c k2 (fun k hk => by rw [hTr k hk]; unfold wyS; cases decide (k < 2 ^ nmB B) <;> simp [allB])⟩
      simp only [q69_0, ok_126 hGN, if_true, gr_126_3 hGN, ok_133 hGN, gr_126_2 hGN, s1, bV_s, hb8, show (8 : Int32) = nI 8 from rfl, bI_s, b2i0, Bool.true_eq_false, if_false, ok_126 hG1, gr_126_3 hG1, ok_133 hG1, gr_126_1 hG1, s2]
      rfl
  obtain ⟨N3, t1, t2⟩ := mid
  obtain ⟨N', s1, s2⟩ := loopI (σ := Mm) (fun j N => go (d + 2) 69 33 [.ref 126, .int (nI n), .int (nI j)] [] N) (fun j N => KSet M N 134 (fun k => wyS B on off k && (!n.testBit 8 || trB B k) && allB (fun l => !n.testBit l || B.2.1 l k) j)) (nlB B) (fun j N hj hN => by
    have hGN := KSet_G hN hG
    have hBN : BK N B := BK_KSet hN (by unfold rdL; omega) hB
    have c3 : gI N 5 1 = nI (nlB B) := hBN.1.2.2.1
    have hb := c_hasBit (d := d) (M := N) (n := n) (i := j) (by omega) (by omega)
    try dsimp only
    rw [q69_33, if_pos (ok_126 hGN), gr_126_4 hGN, if_pos (ok_5 hGN), c3, if_neg (by rw [nI_leI (by omega) (by omega)]; omega), hb, bI_s]
    simp only [b2i0]
    cases hx : n.testBit j with
    | false =>
      refine ⟨N, ?_, KSet_c hN (fun k _ => by rw [allB_s]; simp [hx])⟩
      rw [if_pos rfl, nI_1]
    | true =>
      obtain ⟨N2, k1, k2⟩ := kt_keep (d := d) hN (by omega : 11 + 2 * j ≠ 134) (KS_rest hG) (KS_law hG (i := j) (by omega))
      refine ⟨N2, ?_, KSet_c k2 (fun k hk => by rw [hLw j hj k hk, allB_s]; simp [hx, Bool.and_assoc])⟩
      rw [if_neg (by decide), if_pos (ok_126 hGN), if_pos (ok_126 hGN), gr_126_4 hGN, if_pos (ok_5 hGN), gr_5_6 hGN, if_pos (rk_8 hGN (by omega)), gr_126_3 hGN, if_pos (ok_133 hGN), nI_clamp (by omega), gr_law hGN (by omega), k1, bV_s, nI_1]) (nlB B) 0 N3 (by omega) t2
  try dsimp only at s1
  have hG' := KSet_G s2 hG
  have hB' : BK N' B := BK_KSet s2 (by unfold rdL; omega) hB
  have c3 : gI N' 5 1 = nI (nlB B) := hB'.1.2.2.1
  have em := kt_isEmpty (d := d) s2 (KS_rest hG)
  rw [any_cut (n := 2 ^ nmB B) (by omega) (fun k h _ => by unfold wyS; simp [show ¬ k < 2 ^ nmB B by omega])] at em
  refine ⟨N', _, ?_, s2⟩
  rw [t1, s1, q69_33, if_pos (ok_126 hG'), gr_126_4 hG', if_pos (ok_5 hG'), c3, if_pos (by rw [nI_leI (by omega) (by omega)]; omega), if_pos (ok_126 hG'), gr_126_3 hG', if_pos (ok_133 hG'), em, bI_s, if_pos (b2i01 _)]
  have : (fun k => wyS B on off k && (!n.testBit 8 || trB B k) && allB (fun l => !n.testBit l || B.2.1 l k) (nlB B)) = (fun k => wyS B on off k && hsB B (fun l => n.testBit l) (n.testBit 8) k) := by
    funext k
    unfold hsB
    rw [Bool.and_assoc]
  unfold brB
  rw [this]
theorem c_fewestBars {d : Nat} {M : Mm} {B : Bk} {on off : Nat} (hG : Gd M) (hB : BK M B) (h1 : on < 1024) (h2 : off < 1024) : ∃ N, go (d + 4) 68 0 [.ref 126, .int (nI on), .int (nI off), .null, .null, .null, .null, .null] [] M = some (some (.int (optI (wyF B on off 512))), N) ∧ Sm Qs QL M N := by
  have hn := BK_nn hB
  have hp := p10 hn.1
  have hX : Wd M := hB.2.2.2.2.2.2.1
  obtain ⟨N1, s1, k1⟩ := kt_fill (d := d + 1) (KS_some hG)
  obtain ⟨N2, s2, k2⟩ := kt_keepChoice (d := d) (on := on) (off := off) k1 (by omega) hX (KS_some hG) (by omega) (by omega)
  obtain ⟨N3, s3, k3⟩ := kt_keepChoice (d := d) (on := 0) (off := 1024 - 2 ^ nmB B) k2 (by omega) hX (KS_some hG) (by omega) (by omega)
  have k3 : KSet M N3 132 (wyS B on off) := KSet_c k3 (fun k hk => by rw [gw_rest _ (by omega) k hk]; unfold wyS; rw [Bool.true_and, Bool.and_comm])
  have hG1 := KSet_G k1 hG
  have hG2 := KSet_G k2 hG
  have hG3 := KSet_G k3 hG
  have hB2 : BK N2 B := BK_KSet k2 (by unfold rdL; omega) hB
  have hB3 : BK N3 B := BK_KSet k3 (by unfold rdL; omega) hB
  have am := c_allMarks (d := d + 2) hG2 (BK_c hB2)
  have c3 : gI N3 5 1 = nI (nlB B) := hB3.1.2.2.1
  have e1 := rest_m (nmB B) (by omega)
  have s3' : go (d + 3) 51 0 [.ref 131, .int (0 : Int32), .int (nI (1024 - 2 ^ nmB B)), .null] [] N2 = some (none, N3) := s3
  have e2 : ((256 : Int32) ||| (((1 : Int32) <<< (nI (nlB B) &&& 31)) - (1 : Int32))) = nI (setN (fun _ => true) (nlB B) true) := by rw [all_or _ (by omega), all_setN]
  obtain ⟨⟨s, t, z, N⟩, t1, t2, t3, t4⟩ := loopI (σ := Int32 × Int32 × Value × Mm) (fun j s => go (d + 4) 68 64 [.ref 126, .int (nI on), .int (nI off), .int (nI (setN (fun _ => true) (nlB B) true)), .int s.1, .int s.2.1, .int (nI j), s.2.2.1] [] s.2.2.2) (fun j s => s.1 = optI (wyF B on off j) ∧ s.2.1 = nI (if wyF B on off j = 0 then 10 else pcN (wyF B on off j - 1)) ∧ ∃ g, KSet N3 s.2.2.2 134 g) 512 (fun j s hj hs => by
    obtain ⟨s, t, z, N⟩ := s
    obtain ⟨e, e', g, kN⟩ := hs
    try dsimp only at e e' kN
    subst e; subst e'
    have hGN := KSet_G kN hG3
    have hl := pcN_9 hj
    have hb : (if wyF B on off j = 0 then 10 else pcN (wyF B on off j - 1)) < 2 ^ 31 := by
      have := pcN_le (wyF B on off j - 1)
      split <;> omega
    obtain ⟨N', g', b1, b2⟩ := c_barSome (d := d + 1) (n := j) hG3 hB3 (KSet_g k3) kN hj
    have hd : wyF B on off (j + 1) = if sbB B j && (decide (wyF B on off j = 0) || decide (pcN j < pcN (wyF B on off j - 1))) && brB B on off j then j + 1 else wyF B on off j := rfl
    have esb : (nI j &&& (nI (setN (fun _ => true) (nlB B) true) ^^^ ((-1) : Int32))) = 0 ↔ sbB B j = true := by unfold sbB; rw [decide_eq_true_eq]
    try dsimp only
    rw [q68_64, if_neg (by rw [show (512 : Int32) = nI 512 from rfl, nI_leI (by omega) (by omega)]; omega), bcI (by omega), bI_s]
    simp only [esb, nI_leI hb (show pcN j < 2 ^ 31 by omega), nI_1]
    cases hs : sbB B j with
    | false =>
      refine ⟨(optI (wyF B on off (j + 1)), nI (if wyF B on off (j + 1) = 0 then 10 else pcN (wyF B on off (j + 1) - 1)), .int (nI (pcN j)), N), ?_, rfl, rfl, g, kN⟩
      rw [if_neg (by decide), hd, hs]; rfl
    | true =>
      rw [if_pos rfl]
      by_cases hc : (if wyF B on off j = 0 then 10 else pcN (wyF B on off j - 1)) ≤ pcN j
      · refine ⟨(optI (wyF B on off (j + 1)), nI (if wyF B on off (j + 1) = 0 then 10 else pcN (wyF B on off (j + 1) - 1)), .int (nI (pcN j)), N), ?_, rfl, rfl, g, kN⟩
        have h0 : wyF B on off j ≠ 0 := fun z => by rw [if_pos z] at hc; omega
        have h3 : ¬ pcN j < pcN (wyF B on off j - 1) := by rw [if_neg h0] at hc; omega
        have e3 : wyF B on off (j + 1) = wyF B on off j := by rw [hd]; simp [h0, h3]
        rw [if_pos hc, e3]
      · have h0 : (decide (wyF B on off j = 0) || decide (pcN j < pcN (wyF B on off j - 1))) = true := by
          by_cases z : wyF B on off j = 0
          · simp [z]
          · rw [if_neg z] at hc; simp; right; omega
        refine ⟨(optI (wyF B on off (j + 1)), nI (if wyF B on off (j + 1) = 0 then 10 else pcN (wyF B on off (j + 1) - 1)), .int (nI (pcN j)), N'), ?_, rfl, rfl, g', b2⟩
        rw [if_neg hc, if_pos (ok_126 hGN), b1, bI_s]
        simp only [b2i0]
        cases hbr : brB B on off j with
        | false =>
          have e3 : wyF B on off (j + 1) = wyF B on off j := by rw [hd, hbr]; simp
          rw [if_pos rfl, e3]
        | true =>
          have e3 : wyF B on off (j + 1) = j + 1 := by rw [hd, hbr, h0, hs]; rfl
          rw [if_neg (by decide), e3, optI_s, if_neg (by omega)]
          rfl) 512 0 (-1000000, 10, .null, N3) (by omega) ⟨rfl, rfl, kb (gL N3 134), KSet_self (fun _ _ => rfl)⟩
  obtain ⟨g, t4⟩ := t4
  try dsimp only at t1 t2 t3 t4
  refine ⟨N, ?_, Sm_trans (KSet_Sm k3 (by unfold QL; omega)) (KSet_Sm t4 (by unfold QL; omega))⟩
  simp only [q68_0, ok_126 hG, gr_126_2 hG, ok_131 hG, if_true, s1, bV_s, ok_126 hG1, gr_126_2 hG1, ok_131 hG1, s2, ok_126 hG2, gr_126_2 hG2, ok_131 hG2, gr_126_4 hG2, ok_5 hG2, am, bI_s, e1, s3', ok_126 hG3, gr_126_4 hG3, ok_5 hG3, c3, e2, bX_d]
  rw [show (0 : Int32) = nI 0 from rfl, t1, q68_64, if_pos (by decide), t2]
theorem m_why {d : Nat} {M : Mm} {B : Bk} {on off : Nat} (hG : Gd M) (hB : BK M B) (h1 : on < 2 ^ nmB B) (h2 : off < 2 ^ nmB B) : go (d + 2) 200 23 [.ref 171, .int (nI on), .int (nI off), .int ((-1000000) : Int32), .int (0 : Int32), .null, .null] [] M = some (some (.int (optI (wyF B on off 512))), M) := by
  have hn := BK_nn hB
  have hp := p10 hn.1
  have o := ok_171 hG
  have c9 : gI M 171 36 = nI (2 ^ nmB B) := hB.1.2.2.2.2.2.2.2.2.1
  have hl1 : ∀ k, k < 2 ^ nmB B → gI M 189 k = nI (hoB B k) := hB.2.2.2.1.2.2.2.2.1
  have al := m_allLaws (d := d) hG hB
  rw [all_setN] at al
  have inner : ∀ (j : Nat) (x3 : Int32), j < 512 → sbB B j = true → ∃ x5 x6 : Int32, go (d + 2) 200 67 [.ref 171, .int (nI on), .int (nI off), .int x3, .int (nI j), .int (1 : Int32), .int (0 : Int32)] [] M = go (d + 2) 200 23 [.ref 171, .int (nI on), .int (nI off), .int (if brB B on off j = true then nI j else x3), .int (nI (j + 1)), .int x5, .int x6] [] M := by
    intro j x3 hj hsb
    have hset := sb_set hn.2.1 hj (of_decide_eq_true hsb)
    have hr := loopX (σ := Int32) (fun k s => go (d + 2) 200 67 [.ref 171, .int (nI on), .int (nI off), .int x3, .int (nI j), .int s, .int (nI k)] [] M) (fun k s => s = b2i (!anyB (fun k => wyS B on off k && hsB B (fun l => j.testBit l) (j.testBit 8) k) k)) (fun o => ∃ x5 x6 : Int32, o = go (d + 2) 200 23 [.ref 171, .int (nI on), .int (nI off), .int (if brB B on off j = true then nI j else x3), .int (nI (j + 1)), .int x5, .int x6] [] M) (2 ^ nmB B) (fun k s hk hs => by
      subst hs
      try dsimp only
      have e8 : nI (hoB B k &&& j) = nI j ↔ hsB B (fun l => j.testBit l) (j.testBit 8) k = true := by
        have := hoB_lt hn.2.1 k
        rw [nI_eq (Nat.lt_of_le_of_lt Nat.and_le_left (by omega)) (by omega), ← hsB_iff hn.2.1, hset]
      cases ha : anyB (fun k => wyS B on off k && hsB B (fun l => j.testBit l) (j.testBit 8) k) k with
      | true =>
        refine Or.inl ⟨0, nI k, ?_⟩
        have hbr : brB B on off j = false := by
          obtain ⟨i, hi, hp⟩ := anyB_iff.mp ha
          unfold brB
          rw [anyB_iff.mpr ⟨i, by omega, hp⟩]; rfl
        rw [q200_67, if_pos o, c9, if_neg (by rw [nI_leI (by omega) (by omega)]; omega), if_pos (by decide), if_pos (by decide), hbr, nI_1]
        rfl
      | false =>
        refine Or.inr ⟨_, ?_, rfl⟩
        rw [q200_67, if_pos o, c9, if_neg (by rw [nI_leI (by omega) (by omega)]; omega), if_neg (by decide), m_goesWith (by omega) (by omega) (by omega), bI_s, if_pos o, gr_171_37 hG, if_pos (rk_189 hG (by omega)), nI_clamp (by omega), hl1 k hk, fa_and, nI_1]
        simp only [b2i0, e8]
        rw [anyB_s, ha, Bool.false_or]
        unfold wyS
        rw [decide_eq_true hk, Bool.true_and]
        cases gwB on off k <;> cases hsB B (fun l => j.testBit l) (j.testBit 8) k <;> rfl) (fun s hs => by
      subst hs
      try dsimp only
      refine ⟨b2i (!anyB (fun k => wyS B on off k && hsB B (fun l => j.testBit l) (j.testBit 8) k) (2 ^ nmB B)), nI (2 ^ nmB B), ?_⟩
      rw [q200_67, if_pos o, c9, if_pos (by rw [nI_leI (by omega) (by omega)]; omega)]
      unfold brB
      simp only [b2i0, nI_1]
      cases anyB (fun k => wyS B on off k && hsB B (fun l => j.testBit l) (j.testBit 8) k) (2 ^ nmB B) <;> rfl) (2 ^ nmB B) 0 1 (by omega) rfl
    exact hr
  rw [show (0 : Int32) = nI 0 from rfl]
  obtain ⟨⟨s, z, z'⟩, s1, s2⟩ := loopI (σ := Int32 × Value × Value) (fun j s => go (d + 2) 200 23 [.ref 171, .int (nI on), .int (nI off), .int s.1, .int (nI j), s.2.1, s.2.2] [] M) (fun j s => s.1 = optI (wyF B on off j)) 512 (fun j s hj hs => by
    obtain ⟨s, z, z'⟩ := s
    try dsimp only at hs
    subst hs
    have hle := wyF_le B on off j
    have hd : wyF B on off (j + 1) = if sbB B j && (decide (wyF B on off j = 0) || decide (pcN j < pcN (wyF B on off j - 1))) && brB B on off j then j + 1 else wyF B on off j := rfl
    have esb : (nI j &&& (nI (setN (fun _ => true) (nlB B) true) ^^^ ((-1) : Int32))) = 0 ↔ sbB B j = true := by unfold sbB; rw [decide_eq_true_eq]
    try dsimp only
    rw [q200_23, if_neg (by rw [show (512 : Int32) = nI 512 from rfl, nI_leI (by omega) (by omega)]; omega), if_pos o, al, bI_s]
    simp only [esb, optI_none' (show wyF B on off j ≤ 2 ^ 30 by omega)]
    cases hs : sbB B j with
    | false =>
      refine ⟨(optI (wyF B on off (j + 1)), z, z'), ?_, rfl⟩
      rw [if_neg (by decide), hd, hs, nI_1]; rfl
    | true =>
      rw [if_pos rfl]
      obtain ⟨x5, x6, hin⟩ := inner j (optI (wyF B on off j)) hj hs
      by_cases h0 : wyF B on off j = 0
      · refine ⟨(optI (wyF B on off (j + 1)), .int x5, .int x6), ?_, rfl⟩
        rw [if_pos h0, hin, hd, hs]
        simp only [h0]
        cases brB B on off j <;> simp [optI]
      · rw [if_neg h0, optI_pos h0, m_bits (by omega), bI_s, m_bits (by omega), bI_s]
        have hl := pcN_9 hj
        have hl2 := pcN_le (wyF B on off j - 1)
        simp only [nI_leI (show pcN (wyF B on off j - 1) < 2 ^ 31 by omega) (show pcN j < 2 ^ 31 by omega)]
        by_cases hc : pcN (wyF B on off j - 1) ≤ pcN j
        · refine ⟨(optI (wyF B on off (j + 1)), z, z'), ?_, rfl⟩
          have e3 : wyF B on off (j + 1) = wyF B on off j := by rw [hd]; simp [h0, show ¬ pcN j < pcN (wyF B on off j - 1) by omega]
          rw [if_pos hc, e3, optI_pos h0, nI_1]
        · refine ⟨(optI (wyF B on off (j + 1)), .int x5, .int x6), ?_, rfl⟩
          rw [optI_pos h0] at hin
          rw [if_neg hc, hin, hd, hs]
          simp only [h0, show pcN j < pcN (wyF B on off j - 1) by omega]
          cases brB B on off j <;> simp [optI, h0]) 512 0 (-1000000, .null, .null) (by omega) rfl
  try dsimp only at s1 s2
  rw [s1, q200_23, if_pos (by decide), s2]
theorem op_why {E M : Mm} {B : Bk} {d : Nat} (hI : Inv E M B) (x y : Int32) : Alike E M (d + 5) 126 200 [.ref 1, .int x, .int y] [.ref 171, .int x, .int y, .null, .null, .null, .null] := by
  have hG := hI.1
  have hB := hI.2.2.2.2.2.2.1
  have hn := BK_nn hB
  have hp := p10 hn.1
  have o1 := ok_1 hG
  have ch := c_isChoice (d := d + 1) hG (BK_c hB) x y
  have mc : ∀ N, Inv E N B → go (d + 4) 195 0 [.ref 171, .int x, .int y] [] (sI N 171 0 0) = some (some (.int (b2i (inR (2 ^ nmB B) x && inR (2 ^ nmB B) y && decide (x &&& y = 0)))), sI N 171 0 0) := fun N hN => m_isChoice (d := d + 1) (M := sI N 171 0 0) hN.1 (BK_c (thr hN).2.2.2.2.2.2.1) x y
  cases h : (inR (2 ^ nmB B) x && inR (2 ^ nmB B) y && decide (x &&& y = 0)) with
  | false =>
    rw [h] at ch
    have mc' := mc M hI
    rw [h] at mc'
    refine Alike_q hI (-1000001) M (sI M 171 0 0) ?_ Sm_refl ?_ sm0
    · simp only [q126_0, o1, gr_1_2 hG, ok_5 hG, if_true, ch, bI_s, b2i0]
    · simp only [q200_0, ok_171 hG, okO_sI, if_true, bM_d, mc', bI_s, b2i0]
  | true =>
    rw [h] at ch
    have h' := h
    simp only [Bool.and_eq_true] at h'
    obtain ⟨on, hon, rfl⟩ := inR_n (by omega) h'.1.1
    obtain ⟨off, hof, rfl⟩ := inR_n (by omega) h'.1.2
    obtain ⟨N, s, hS⟩ := c_fewestBars (d := d) hG hB (show on < 1024 by omega) (show off < 1024 by omega)
    have hIN := Inv_q hI hS
    have mc' := mc N hIN
    rw [h] at mc'
    refine Alike_q hI (optI (wyF B on off 512)) N (sI N 171 0 0) ?_ hS ?_ sm0
    · simp only [q126_0, o1, gr_1_2 hG, ok_5 hG, if_true, ch, bI_s, b2i0, Bool.true_eq_false, if_false, gr_1_4 hG, ok_126 hG, s]
    · simp only [q200_0, ok_171 hIN.1, okO_sI, if_true, bM_d, mc', bI_s, b2i0, Bool.true_eq_false, if_false]
      exact m_why (d := d + 3) (M := sI N 171 0 0) hIN.1 (thr hIN).2.2.2.2.2.2.1 hon hof
