/-! ===== the class works out anew: branches, tree, allowed ===== -/
def TC (M : Mm) (nm : Nat) (pa wy : Nat → Nat) : Prop := gI M 5 0 = nI nm ∧ nm ≤ 10 ∧ ∀ j, j < nm → pa j ≤ j ∧ wy j < 3 ∧ gI M 6 j = nI (pa j) - 1 ∧ gI M 7 j = nI (wy j)
def b0F (pa : Nat → Nat) (p i : Nat) : Bool := decide (pa i = p)
def b1F (pa wy : Nat → Nat) (p i : Nat) : Bool := decide (wy i = 0) && decide (pa i = p)
def b2F (pa wy : Nat → Nat) (p i : Nat) : Bool := decide (wy i = 2) && decide (pa i = p)
def BR (M : Mm) (pa wy : Nat → Nat) (j : Nat) : Prop := (∀ p, p < 11 → gI M 135 p = nI (bset (b0F pa p) j)) ∧ (∀ p, p < 11 → gI M 136 p = nI (bset (b1F pa wy p) j)) ∧ (∀ p, p < 11 → gI M 137 p = nI (bset (b2F pa wy p) j))
def Sg (r _k : Nat) : Prop := r = 135 ∨ r = 136 ∨ r = 137
theorem br_on {M : Mm} {w p0 j : Nat} {F : Nat → Nat → Bool} (hj : j < 31) (h : ∀ p, p < 11 → gI M w p = nI (bset (F p) j)) (h0 : p0 < 11) (h1 : F p0 j = true) (h2 : ∀ p, p ≠ p0 → F p j = false) : ∀ p, p < 11 → gI (sI M w p0 (gI M w p0 ||| ((1 : Int32) <<< (nI j &&& 31)))) w p = nI (bset (F p) (j + 1)) := fun p hp => by
  by_cases e : p = p0
  · subst e
    rw [gI_at, h p hp, or_b hj h1]
  · rw [gI_ne (by omega), h p hp, no_b (h2 p e)]
theorem br_off {M : Mm} {w j : Nat} {F : Nat → Nat → Bool} (h : ∀ p, p < 11 → gI M w p = nI (bset (F p) j)) (h2 : ∀ p, F p j = false) : ∀ p, p < 11 → gI M w p = nI (bset (F p) (j + 1)) := fun p hp => by
  rw [h p hp, no_b (h2 p)]
theorem br_ne {M : Mm} {w v p0 : Nat} {x : Int32} {G : Nat → Int32} (h : ∀ p, p < 11 → gI M w p = G p) (hw : w ≠ v) : ∀ p, p < 11 → gI (sI M v p0 x) w p = G p := fun p hp => by rw [gI_ne (by omega)]; exact h p hp
theorem m1p1 (n : Nat) : nI n - 1 + 1 = nI n := Int32.sub_add_cancel _ _
theorem TC_S {M N : Mm} {nm : Nat} {pa wy : Nat → Nat} {T : Nat → Nat → Prop} {U : Nat → Prop} (h : TC M nm pa wy) (hS : Sm T U M N) (h5 : ¬ T 5 0) (h6 : ∀ k, ¬ T 6 k) (h7 : ∀ k, ¬ T 7 k) : TC N nm pa wy := by
  obtain ⟨a1, a2, a3⟩ := h
  refine ⟨(hS.2.2.1 _ _ h5).trans a1, a2, fun j hj => ?_⟩
  rw [hS.2.2.1 _ _ (h6 j), hS.2.2.1 _ _ (h7 j)]; exact a3 j hj
theorem c_gatherStep {d j nm : Nat} {M : Mm} {pa wy : Nat → Nat} {v : Value} (hG : Gd M) (hT : TC M nm pa wy) (hj : j < nm) (h : BR M pa wy j) : ∃ v' N, go (d + 1) 60 26 [.ref 126, .int (nI j), v] [] M = go (d + 1) 60 26 [.ref 126, .int (nI (j + 1)), v'] [] N ∧ Sm Sg NoL M N ∧ BR N pa wy (j + 1) := by
  obtain ⟨c1, c2, c3⟩ := hT
  obtain ⟨p1, p2, p3, p4⟩ := c3 j hj
  have o := ok_126 hG
  have o5 := ok_5 hG
  obtain ⟨h1, h2, h3⟩ := h
  have l : ¬ nI nm ≤ nI j := by rw [nI_leI (by omega) (by omega)]; omega
  have pl : pa j < 11 := by omega
  have n0 : nI (wy j) = 0 ↔ wy j = 0 := nI_eq (a := wy j) (b := 0) (by omega) (by omega)
  have n2 : nI (wy j) = 2 ↔ wy j = 2 := nI_eq (a := wy j) (b := 2) (by omega) (by omega)
  have A : ∃ N, N = sI M 135 (pa j) (gI M 135 (pa j) ||| ((1 : Int32) <<< (nI j &&& 31))) := ⟨_, rfl⟩
  obtain ⟨M1, e1⟩ := A
  have hG1 : Gd M1 := by rw [e1]; exact hG
  have S1 : Sm Sg NoL M M1 := by rw [e1]; exact Sm_sI (Or.inl rfl)
  have i1 : ∀ p, p < 11 → gI M1 135 p = nI (bset (b0F pa p) (j + 1)) := by rw [e1]; exact br_on (by omega) h1 pl (by simp [b0F]) (fun p hp => by simp [b0F]; omega)
  have i2 : ∀ p, p < 11 → gI M1 136 p = nI (bset (b1F pa wy p) j) := by rw [e1]; exact br_ne h2 (by omega)
  have i3 : ∀ p, p < 11 → gI M1 137 p = nI (bset (b2F pa wy p) j) := by rw [e1]; exact br_ne h3 (by omega)
  have w1 : gI M1 7 j = nI (wy j) := by rw [e1, gI_ne (by omega)]; exact p4
  have st : go (d + 1) 60 26 [.ref 126, .int (nI j), v] [] M = if nI (wy j) = 0 then (if okO M1 126 5 = true then if rOK M1 136 0 (nI (pa j)) = true then if wOK M1 136 0 (nI (pa j)) = true then bM (sI M1 136 (pa j) ((gI M1 136 (pa j)) ||| ((1 : Int32) <<< (nI j &&& 31)))) fun M3 => if okO M3 126 5 = true then if okO M3 (gR M3 126 4) 1 = true then if rOK M3 (gR M3 (gR M3 126 4) 5) 0 (nI j) = true then if (gI M3 (gR M3 (gR M3 126 4) 5) (nI j).toNatClampNeg) = (2 : Int32) then if okO M3 126 5 = true then if rOK M3 (gR M3 126 7) 0 (nI (pa j)) = true then if wOK M3 (gR M3 126 7) 0 (nI (pa j)) = true then bM (sI M3 (gR M3 126 7) (pa j) ((gI M3 (gR M3 126 7) (pa j)) ||| ((1 : Int32) <<< (nI j &&& 31)))) fun M4 => go (d + 1) 60 26 [.ref 126, .int (nI j + (1 : Int32)), .int (nI (pa j))] [] M4 else none else none else none else go (d + 1) 60 26 [.ref 126, .int (nI j + (1 : Int32)), .int (nI (pa j))] [] M3 else none else none else none else none else none else none) else (if okO M1 126 5 = true then if okO M1 5 1 = true then if rOK M1 7 0 (nI j) = true then if nI (wy j) = (2 : Int32) then if okO M1 126 5 = true then if rOK M1 137 0 (nI (pa j)) = true then if wOK M1 137 0 (nI (pa j)) = true then bM (sI M1 137 (pa j) ((gI M1 137 (pa j)) ||| ((1 : Int32) <<< (nI j &&& 31)))) fun M2 => go (d + 1) 60 26 [.ref 126, .int (nI j + (1 : Int32)), .int (nI (pa j))] [] M2 else none else none else none else go (d + 1) 60 26 [.ref 126, .int (nI j + (1 : Int32)), .int (nI (pa j))] [] M1 else none else none else none) := by
    rw [q60_26, if_pos o, gr_126_4 hG, if_pos o5, c1, if_neg l, if_pos o, if_pos o5, gr_5_4 hG, if_pos (rk_6 hG (by omega)), if_pos o, gr_126_5 hG, nI_clamp (show j < 2 ^ 31 by omega), p3, m1p1, if_pos (rk_135 hG pl), if_pos (wk_135 hG pl), nI_clamp (show pa j < 2 ^ 31 by omega), bM_d, ← e1, if_pos (ok_126 hG1), gr_126_4 hG1, if_pos (ok_5 hG1), gr_5_5 hG1, if_pos (rk_7 hG1 (by omega)), w1, gr_126_6 hG1, gr_126_7 hG1]
  rw [st]
  by_cases hw0 : wy j = 0
  · have A : ∃ N, N = sI M1 136 (pa j) (gI M1 136 (pa j) ||| ((1 : Int32) <<< (nI j &&& 31))) := ⟨_, rfl⟩
    obtain ⟨M3, e3⟩ := A
    have hG3 : Gd M3 := by rw [e3]; exact hG1
    have w3 : gI M3 7 j = nI (wy j) := by rw [e3, gI_ne (by omega)]; exact w1
    refine ⟨.int (nI (pa j)), M3, ?_, Sm_trans S1 (by rw [e3]; exact Sm_sI (Or.inr (Or.inl rfl))), ?_, ?_, ?_⟩
    · rw [if_pos (n0.mpr hw0), if_pos (ok_126 hG1), if_pos (rk_136 hG1 pl), if_pos (wk_136 hG1 pl), bM_d, ← e3, if_pos (ok_126 hG3), gr_126_4 hG3, if_pos (ok_5 hG3), gr_5_5 hG3, if_pos (rk_7 hG3 (by omega)), nI_clamp (by omega), w3, if_neg (fun z => by have := n2.mp z; omega), nI_1]
    · rw [e3]; exact br_ne i1 (by omega)
    · rw [e3]; exact br_on (by omega) i2 pl (by simp [b1F, hw0]) (fun p hp => by simp [b1F]; omega)
    · rw [e3]; exact br_off (br_ne i3 (by omega)) (fun p => by simp [b2F, hw0])
  · rw [if_neg (fun z => hw0 (n0.mp z)), if_pos (ok_126 hG1), if_pos (ok_5 hG1), if_pos (rk_7 hG1 (by omega))]
    by_cases hw2 : wy j = 2
    · refine ⟨.int (nI (pa j)), sI M1 137 (pa j) (gI M1 137 (pa j) ||| ((1 : Int32) <<< (nI j &&& 31))), ?_, Sm_trans S1 (Sm_sI (Or.inr (Or.inr rfl))), br_ne i1 (by omega), br_off (br_ne i2 (by omega)) (fun p => by simp [b1F, hw2]), br_on (by omega) i3 pl (by simp [b2F, hw2]) (fun p hp => by simp [b2F]; omega)⟩
      rw [if_pos (n2.mpr hw2), if_pos (ok_126 hG1), if_pos (rk_137 hG1 pl), if_pos (wk_137 hG1 pl), bM_d, nI_1]
    · refine ⟨.int (nI (pa j)), M1, ?_, S1, i1, br_off i2 (fun p => by simp [b1F, hw0]), br_off i3 (fun p => by simp [b2F, hw2])⟩
      rw [if_neg (fun z => hw2 (n2.mp z)), nI_1]
theorem c_gatherB {d nm : Nat} {M : Mm} {pa wy : Nat → Nat} (hG : Gd M) (hT : TC M nm pa wy) : ∃ N, go (d + 2) 60 0 [.ref 126, .null, .null] [] M = some (none, N) ∧ Sm Sg NoL M N ∧ BR N pa wy nm := by
  have ar : ∀ {N : Mm} {w : Nat}, wOK N w 0 (nI 0) = true → okA N w 0 = true := fun h => by
    simp only [wOK, Bool.and_eq_true] at h
    exact h.1.1
  have f1 := fillI (d := d) (M := M) (w := 135) (n := 11) (x := 0) (fun j hj => wk_135 hG hj) (ar (wk_135 hG (k := 0) (by omega))) (by omega) rfl (by omega)
  have A : ∃ N, N = wI M 135 (fun i => if i < 11 then 0 else gI M 135 i) := ⟨_, rfl⟩
  obtain ⟨M1, e1⟩ := A
  have hG1 : Gd M1 := by rw [e1]; exact hG
  have f2 := fillI (d := d) (M := M1) (w := 136) (n := 11) (x := 0) (fun j hj => wk_136 hG1 hj) (ar (wk_136 hG1 (k := 0) (by omega))) (by omega) rfl (by omega)
  have A : ∃ N, N = wI M1 136 (fun i => if i < 11 then 0 else gI M1 136 i) := ⟨_, rfl⟩
  obtain ⟨M2, e2⟩ := A
  have hG2 : Gd M2 := by rw [e2]; exact hG1
  have f3 := fillI (d := d) (M := M2) (w := 137) (n := 11) (x := 0) (fun j hj => wk_137 hG2 hj) (ar (wk_137 hG2 (k := 0) (by omega))) (by omega) rfl (by omega)
  have A : ∃ N, N = wI M2 137 (fun i => if i < 11 then 0 else gI M2 137 i) := ⟨_, rfl⟩
  obtain ⟨M3, e3⟩ := A
  have hG3 : Gd M3 := by rw [e3]; exact hG2
  rw [← e1] at f1
  rw [← e2] at f2
  rw [← e3] at f3
  have S3 : Sm Sg NoL M M3 := by
    refine Sm_trans (N := M1) (by rw [e1]; exact Sm_wI (fun k => Or.inl rfl)) (Sm_trans (N := M2) (by rw [e2]; exact Sm_wI (fun k => Or.inr (Or.inl rfl))) (by rw [e3]; exact Sm_wI (fun k => Or.inr (Or.inr rfl))))
  have B0 : BR M3 pa wy 0 := by
    refine ⟨fun p hp => ?_, fun p hp => ?_, fun p hp => ?_⟩
    · rw [e3, gI_wI, if_neg (by omega), e2, gI_wI, if_neg (by omega), e1, gI_wI, if_pos rfl, if_pos hp]; rfl
    · rw [e3, gI_wI, if_neg (by omega), e2, gI_wI, if_pos rfl, if_pos hp]; rfl
    · rw [e3, gI_wI, if_pos rfl, if_pos hp]; rfl
  have nT : ∀ {N : Mm}, Sm Sg NoL M N → TC N nm pa wy := fun hS => TC_S hT hS (by unfold Sg; omega) (fun k => by unfold Sg; omega) (fun k => by unfold Sg; omega)
  obtain ⟨s, r1, r2, r3⟩ := loopI (σ := Mm × Value) (fun k s => go (d + 2) 60 26 [.ref 126, .int (nI k), s.2] [] s.1) (fun k s => Sm Sg NoL M s.1 ∧ BR s.1 pa wy k) nm (fun k s hk hs => by
    obtain ⟨v', N, a1, a2, a3⟩ := c_gatherStep (d := d + 1) (v := s.2) (Gd_Sm hs.1 hG) (nT hs.1) hk hs.2
    exact ⟨(N, v'), a1, Sm_trans hs.1 a2, a3⟩) nm 0 (M3, .null) (by omega) ⟨S3, B0⟩
  refine ⟨s.1, ?_, r2, r3⟩
  have hGs := Gd_Sm r2 hG
  have c := (nT r2).1
  rw [q60_0, if_pos (ok_126 hG), gr_126_5 hG, f1, bV_s, if_pos (ok_126 hG1), gr_126_6 hG1, f2, bV_s, if_pos (ok_126 hG2), gr_126_7 hG2, f3, bV_s]
  show go (d + 2) 60 26 [.ref 126, .int (nI 0), .null] [] M3 = _
  rw [r1]
  show go (d + 2) 60 26 [.ref 126, .int (nI nm), s.2] [] s.1 = _
  rw [q60_26, if_pos (ok_126 hGs), gr_126_4 hGs, if_pos (ok_5 hGs), c, if_pos (by rw [nI_leI (by have := hT.2.1; omega) (by have := hT.2.1; omega)]; omega)]
/-! the tree by branches -/
theorem nI_b0 {F : Nat → Bool} {n : Nat} (hn : n ≤ 31) : nI (bset F n) = 0 ↔ allB (fun i => !F i) n = true := by
  rw [show (0 : Int32) = nI 0 from rfl, nI_eq (bs31 F hn) (by omega), allB_iff]
  constructor
  · intro h k hk
    have := bset_bit F n k
    rw [h] at this
    simp [hk] at this
    simp [this]
  · intro h
    apply Nat.eq_of_testBit_eq
    intro i
    rw [bset_bit, Nat.zero_testBit]
    by_cases hi : i < n
    · have := h i hi
      simp at this
      simp [this]
    · simp [hi]
theorem and_k {F : Nat → Bool} {n K : Nat} : nI K &&& nI (bset F n) = nI (bset (fun i => F i && K.testBit i) n) := by
  rw [fa_and]
  congr 1
  apply Nat.eq_of_testBit_eq
  intro i
  rw [Nat.testBit_and, bset_bit, bset_bit]
  cases K.testBit i <;> cases decide (i < n) <;> cases F i <;> rfl
theorem andn_k {F : Nat → Bool} {n K : Nat} (hn : n ≤ 31) : nI (bset F n) &&& (nI K ^^^ ((-1) : Int32)) = nI (bset (fun i => F i && !K.testBit i) n) := by
  rw [show ((-1) : Int32) = nI (2 ^ 32 - 1) from rfl, fb_xorI, fa_and]
  congr 1
  apply Nat.eq_of_testBit_eq
  intro i
  rw [Nat.testBit_and, Nat.testBit_xor, Nat.testBit_two_pow_sub_one, bset_bit, bset_bit]
  by_cases h : i < n
  · simp [h, show i < 32 by omega]
  · simp [h]
theorem ct_bset {F : Nat → Bool} {n : Nat} (hn : n ≤ 31) : fb_ct (fun i => (bset F n).testBit i) 32 = fb_ct F n := by
  rw [ct_cut (n := n) (by omega) (fun k h1 h2 => by rw [bset_bit]; simp; omega)]
  exact fb_ct_cong (fun k hk => by rw [bset_bit]; simp [hk])
def brH (nm : Nat) (pa wy : Nat → Nat) (K b : Nat) : Bool := (allB (fun i => !b2F pa wy b i) nm || decide (fb_ct (fun i => b2F pa wy b i && K.testBit i) nm = 1)) && allB (fun i => !(b1F pa wy b i && !K.testBit i)) nm
def brT (nm : Nat) (pa wy : Nat → Nat) (K b : Nat) : Bool := if onB K b then brH nm pa wy K b else allB (fun i => !(b0F pa b i && K.testBit i)) nm
theorem c_branch {d nm K b : Nat} {M : Mm} {pa wy : Nat → Nat} (hG : Gd M) (hnm : nm ≤ 10) (h : BR M pa wy nm) (hb : b ≤ nm) : go (d + 2) 62 0 [.ref 126, .int (nI K), .int (nI b), .null] [] M = some (some (.int (b2i (brH nm pa wy K b))), M) := by
  obtain ⟨h1, h2, h3⟩ := h
  have o := ok_126 hG
  have hb' : b < 11 := by omega
  have bc := bitCountI (d := d) (M := M) (bset (fun i => b2F pa wy b i && K.testBit i) nm) (bs31 _ (by omega))
  rw [ct_bset (by omega)] at bc
  have x1 : ∀ n, n ≤ 10 → (nI n = (1 : Int32) ↔ n = 1) := fun n hn => nI_eq (a := n) (b := 1) (by omega) (by omega)
  have lc : fb_ct (fun i => b2F pa wy b i && K.testBit i) nm ≤ 10 := Nat.le_trans (fb_ct_le _ _) hnm
  have g6 := gr_126_6 hG
  have g7 := gr_126_7 hG
  have r6 := rk_136 hG hb'
  have r7 := rk_137 hG hb'
  have T : (if nI (bset (fun i => b1F pa wy b i && !K.testBit i) nm) = 0 then some (some (Value.int (1 : Int32)), M) else some (some (Value.int (0 : Int32)), M)) = some (some (Value.int (b2i (allB (fun i => !(b1F pa wy b i && !K.testBit i)) nm))), M) := by
    cases hz : allB (fun i => !(b1F pa wy b i && !K.testBit i)) nm with
    | true => rw [if_pos ((nI_b0 (by omega)).mpr hz)]; rfl
    | false => rw [if_neg (fun z => by rw [(nI_b0 (by omega)).mp z] at hz; cases hz)]; rfl
  unfold brH
  rw [q62_0, if_pos o, g7, if_pos r7, nI_clamp (by omega), h3 b hb', g6, h2 b hb', andn_k (by omega), and_k, if_neg (show ¬ ((1 : Int32) = 0) by decide), if_pos o, if_pos r6, T, if_pos o, if_pos r7, bc, bI_s, if_neg (show ¬ ((1 : Int32) = 0) by decide), if_pos o, g6, if_pos r6, h2 b hb', andn_k (by omega), T, if_pos rfl]
  cases hz : allB (fun i => !b2F pa wy b i) nm with
  | true => rw [if_pos ((nI_b0 (by omega)).mpr hz)]; rfl
  | false =>
    rw [if_neg (fun z => by rw [(nI_b0 (by omega)).mp z] at hz; cases hz)]
    by_cases h1 : fb_ct (fun i => b2F pa wy b i && K.testBit i) nm = 1
    · rw [if_pos ((x1 _ lc).mpr h1), decide_eq_true h1]; rfl
    · rw [if_neg (fun z => h1 ((x1 _ lc).mp z)), decide_eq_false h1]; rfl
theorem tree_br {nm K : Nat} {pa wy : Nat → Nat} (hp : ∀ j, j < nm → pa j ≤ j) : treeB nm pa wy K = allB (brT nm pa wy K) (nm + 1) := by
  apply Bool.eq_iff_iff.mpr
  unfold treeB
  rw [allB_iff, allB_iff]
  constructor
  · intro h b hb
    unfold brT brH
    cases ho : onB K b with
    | true =>
      rw [if_pos rfl, Bool.and_eq_true]
      constructor
      · cases hz : allB (fun i => !b2F pa wy b i) nm with
        | true => rfl
        | false =>
          have : ¬ ∀ i, i < nm → (!b2F pa wy b i) = true := fun z => by rw [allB_iff.mpr z] at hz; cases hz
          obtain ⟨i, hi⟩ := Classical.not_forall.mp this
          obtain ⟨hi1, hi2⟩ := Classical.not_imp.mp hi
          simp [b2F] at hi2
          have h3 := h i hi1
          simp only [Bool.and_eq_true] at h3
          obtain ⟨-, h4⟩ := h3
          rw [hi2.2, ho] at h4
          simp [hi2.1] at h4
          simp only [b2F, Bool.false_or]
          exact decide_eq_true h4
      · rw [allB_iff]
        intro i hi
        have h3 := h i hi
        simp only [Bool.and_eq_true] at h3
        obtain ⟨⟨-, h4⟩, -⟩ := h3
        by_cases e : wy i = 0 ∧ pa i = b
        · rw [e.2, ho] at h4
          simp [e.1] at h4
          simp [b1F, h4]
        · have : b1F pa wy b i = false := by
            unfold b1F
            by_cases e0 : wy i = 0
            · simp [show pa i ≠ b from fun z => e ⟨e0, z⟩]
            · simp [e0]
          simp [this]
    | false =>
      rw [if_neg (by decide), allB_iff]
      intro i hi
      have h3 := h i hi
      simp only [Bool.and_eq_true] at h3
      obtain ⟨⟨h4, -⟩, -⟩ := h3
      by_cases e : pa i = b
      · rw [e, ho] at h4
        simp at h4
        simp [h4]
      · simp [b0F, e]
  · intro h j hj
    have hb := h (pa j) (by have := hp j hj; omega)
    unfold brT brH at hb
    cases ho : onB K (pa j) with
    | true =>
      rw [ho, if_pos rfl, Bool.and_eq_true] at hb
      obtain ⟨h1, h2⟩ := hb
      have h2' := allB_iff.mp h2 j hj
      simp [b1F] at h2'
      have q1 : (!decide (wy j = 0) || K.testBit j) = true := by simpa using h2'
      have q2 : (!decide (wy j = 2) || decide (fb_ct (fun i => decide (wy i = 2) && decide (pa i = pa j) && K.testBit i) nm = 1)) = true := by
        by_cases e2 : wy j = 2
        · rw [Bool.or_eq_true] at h1
          rcases h1 with h1 | h1
          · have := allB_iff.mp h1 j hj
            simp [b2F, e2] at this
          · have h1' : fb_ct (fun i => decide (wy i = 2) && decide (pa i = pa j) && K.testBit i) nm = 1 := of_decide_eq_true h1
            simp [h1']
        · simp [e2]
      simp only [Bool.not_true, Bool.or_false, Bool.or_true, Bool.true_and, Bool.and_eq_true]
      exact ⟨q1, q2⟩
    | false =>
      rw [ho, if_neg (by decide)] at hb
      have := allB_iff.mp hb j hj
      simp [b0F] at this
      simp [this]
