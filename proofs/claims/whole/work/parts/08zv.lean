/-! ===== the class reads a line ===== -/
theorem rbn_r {α β : Type} (a : α) (f : α → Sum (Nat × Nat) β) : rbn (.inr a) f = f a := rfl
theorem rbn_l {α β : Type} (e : Nat × Nat) (f : α → Sum (Nat × Nat) β) : rbn (.inl e) f = .inl e := rfl
def LF (N : Mm) (i vr so bu mk : Nat) (g : Nat → Bool) : Prop := gI N (26 + 3 * i) 0 = nI so ∧ gI N (26 + 3 * i) 1 = optI bu ∧ gI N (26 + 3 * i) 5 = nI mk ∧ gI N (26 + 3 * i) 6 = nI vr ∧ gI N (26 + 3 * i) 7 = NONE ∧ ∀ k, k < 1024 → kb (gL N (28 + 3 * i)) k = g k
def AF (N : Mm) (i ac fi se : Nat) : Prop := gI N (26 + 3 * i) 2 = nI ac ∧ gI N (26 + 3 * i) 3 = nI fi ∧ gI N (26 + 3 * i) 4 = nI se
theorem LF_p {M N : Mm} {i vr so bu mk row : Nat} {g : Nat → Bool} (h : LF M i vr so bu mk g) (hS : Sm Sp (Sq row) M N) (hi : i < 24) : LF N i vr so bu mk g := by
  have q : ∀ k, gI N (26 + 3 * i) k = gI M (26 + 3 * i) k := fun k => hS.2.2.1 _ _ (by unfold Sp; omega)
  unfold LF at h ⊢
  rw [q, q, q, q, q, hS.2.2.2 _ (by unfold Sq; omega)]; exact h
theorem AF_p {M N : Mm} {i ac fi se row : Nat} (h : AF M i ac fi se) (hS : Sm Sp (Sq row) M N) (hi : i < 24) : AF N i ac fi se := by
  have q : ∀ k, gI N (26 + 3 * i) k = gI M (26 + 3 * i) k := fun k => hS.2.2.1 _ _ (by unfold Sp; omega)
  unfold AF at h ⊢
  rw [q, q, q]; exact h
theorem NC_l {M : Mm} {B : Bk} {k : Nat} {v : Int32} (h : NC M B) (hP : PB B) (hn : nnB B < 24) : NC (sI M (26 + 3 * nnB B) k v) B :=
  NC_R h (Sm_sI (by unfold Rc; omega)) hP.2.1 hP.2.2.1 (gI_ne (by omega)) (gI_ne (by omega)) (gI_ne (by omega))
theorem TkC_ne {M N : Mm} {T : Tp} {p : Nat} (h : TkC M T p) (hS : ∀ k, gI N 3 k = gI M 3 k) : TkC N T p := by
  unfold TkC at h ⊢
  rw [hS, hS, hS, hS]; exact h
theorem c_readSort {d p : Nat} {E M : Mm} {T : Tp} {B : Bk} (hC : CS E M T B) (hN : NC M B) (hn : nnB B < 24) (hp : p ≤ T.1) (h : TkC M T p) (hL : LF M (nnB B) (vrB B) 0 0 0 (fun _ => true)) : ∃ b N, go (d + 7) 85 0 [.ref 98, .ref (26 + 3 * nnB B), .null, .null] [] M = some (some (.int b), N) ∧ Sm (Rc (nmB B) (nnB B)) (Rl (nlB B) (nnB B)) M N ∧ NC N B ∧ (match srF T p with
    | .inl (f, pl) => b = 0 ∧ gI N 98 0 = nI f ∧ gI N 98 1 = nI pl
    | .inr (so, bu, p') => b = 1 ∧ TkC N T p' ∧ LF N (nnB B) (vrB B) so bu 0 (fun _ => true) ∧ so < 3 ∧ bu ≤ 8 ∧ (so = 2 ↔ bu ≠ 0) ∧ p' ≤ T.1) := by
  have hG := hC.1
  have hP := hC.2.2.2.2.2.2
  have o := ok_98 hG
  have ch : go (d + 6) 87 0 [.ref 98, .ref 1010, .ref 1011, .ref 1012] [] M = some (some (.int (match choF T 10 11 12 p with
    | .inl _ => -1
    | .inr n => nI n)), M) := c_chosen (d := d) (i := 10) (j := 11) (k := 12) hC hp h (by omega) (by omega) (by omega)
  unfold srF
  cases hr : choF T 10 11 12 p with
  | inl e =>
    have ch' : go (d + 6) 87 0 [.ref 98, .ref 1010, .ref 1011, .ref 1012] [] M = some (some (.int (-1)), M) := by rw [hr] at ch; exact ch
    have he := cho_l hr
    subst he
    obtain ⟨N, a1, a2, a3, a4⟩ := c_fail (d := d + 5) (f := 1) (row := 0) hG h
    have a1' : go (d + 6) 81 0 [.ref 98, .int (1 : Int32)] [] M = some (some (.int 0), N) := a1
    refine ⟨0, N, ?_, Rc_p a2, NC_p hN a2 hP, rfl, a3, a4⟩
    rw [q85_0, if_pos o, ch', bI_s, if_neg (by decide), if_pos o, a1', bI_s, if_pos (by decide)]
  | inr so =>
    have ch' : go (d + 6) 87 0 [.ref 98, .ref 1010, .ref 1011, .ref 1012] [] M = some (some (.int (nI so)), M) := by rw [hr] at ch; exact ch
    obtain ⟨hs3, hk1⟩ := cho_b hr (by omega) (by omega) (by omega)
    have sp : 0 ≤ nI so := nI_pos' (by omega)
    obtain ⟨N1, n1, n2, n3⟩ := c_next (d := d + 4) hG hC.2.1 hp h
    have S1 : Sm Sp (Sq 0) M N1 := Sp_sc n2
    have hG1 := (CS_p hC S1).1
    have S2 : Sm (Rc (nmB B) (nnB B)) (Rl (nlB B) (nnB B)) M (sI N1 (26 + 3 * nnB B) 0 (nI so)) := Sm_trans (Rc_p S1) (Sm_sI (by unfold Rc; omega))
    have hC2 := CS_R hC S2 hP.2.2.1
    have hG2 := hC2.1
    have hN2 : NC (sI N1 (26 + 3 * nnB B) 0 (nI so)) B := NC_l (NC_p hN S1 hP) hP hn
    have t2 : TkC (sI N1 (26 + 3 * nnB B) 0 (nI so)) T (tkE T p) := TkC_ne n3 (fun k => gI_ne (by omega))
    have hL2 : LF (sI N1 (26 + 3 * nnB B) 0 (nI so)) (nnB B) (vrB B) so 0 0 (fun _ => true) := by
      obtain ⟨l1, l2, l3, l4, l5, l6⟩ := LF_p hL S1 hn
      exact ⟨gI_at, by rw [gI_ne (by omega)]; exact l2, by rw [gI_ne (by omega)]; exact l3, by rw [gI_ne (by omega)]; exact l4, by rw [gI_ne (by omega)]; exact l5, l6⟩
    have e2 : nI so = (2 : Int32) ↔ so = 2 := nI_eq (a := so) (b := 2) (by omega) (by omega)
    by_cases h2 : so = 2
    · obtain ⟨y, N3, m1, m2, m3⟩ := c_number (d := d + 3) (row := 0) (lim := 8) (x := 7) hC2 (tkE_le hp) t2 (fun n hn => by rw [show (7 : Int32) = nI 7 from rfl, nI_leI (by omega) (by omega)]; omega)
      have S3 : Sm (Rc (nmB B) (nnB B)) (Rl (nlB B) (nnB B)) M N3 := Sm_trans S2 (Rc_p m2)
      have hG3 := (CS_R hC S3 hP.2.2.1).1
      have hN3 := NC_p hN2 m2 hP
      have st : go (d + 7) 85 0 [.ref 98, .ref (26 + 3 * nnB B), .null, .null] [] M = if 0 ≤ y then some (some (.int (1 : Int32)), sI N3 (26 + 3 * nnB B) 1 y) else some (some (.int (0 : Int32)), N3) := by
        rw [q85_0, if_pos o, ch', bI_s, if_pos sp, if_pos o, gr_98_2 hG, if_pos (ok_3 hG), n1, bV_s, if_pos (ok_line hG1 hn), bM_d, if_pos (e2.mpr h2), if_pos (ok_98 hG2), m1, bI_s, if_pos (ok_line hG3 hn), bM_d]
      rw [st]
      rw [rbn_r]
      rw [if_pos h2]
      cases hq : numF T 8 (tkE T p) with
      | inl e =>
        obtain ⟨f, pl⟩ := e
        rw [hq] at m3
        obtain ⟨rfl, f1, f2⟩ := m3
        exact ⟨0, N3, by rw [if_neg (by decide)], S3, hN3, rfl, f1, f2⟩
      | inr n =>
        rw [hq] at m3
        obtain ⟨rfl, f1⟩ := m3
        obtain ⟨hn1, hn2, hn3⟩ := num_b hq
        have hL3 := LF_p hL2 m2 hn
        refine ⟨1, sI N3 (26 + 3 * nnB B) 1 (nI n), by rw [if_pos (nI_pos' (by omega))], Sm_trans S3 (Sm_sI (by unfold Rc; omega)), NC_l hN3 hP hn, rfl, TkC_ne f1 (fun k => gI_ne (by omega)), ?_, hs3, by omega, ⟨fun _ => by omega, fun _ => h2⟩, tkE_le (tkE_le hp)⟩
        obtain ⟨l1, l2, l3, l4, l5, l6⟩ := hL3
        exact ⟨by rw [gI_ne (by omega)]; exact l1, by rw [gI_at, optI_s], by rw [gI_ne (by omega)]; exact l3, by rw [gI_ne (by omega)]; exact l4, by rw [gI_ne (by omega)]; exact l5, l6⟩
    · refine ⟨1, sI N1 (26 + 3 * nnB B) 0 (nI so), ?_, S2, hN2, ?_⟩
      · rw [q85_0, if_pos o, ch', bI_s, if_pos sp, if_pos o, gr_98_2 hG, if_pos (ok_3 hG), n1, bV_s, if_pos (ok_line hG1 hn), bM_d, if_neg (fun z => h2 (e2.mp z))]
      · rw [rbn_r]
        rw [if_neg h2]
        exact ⟨rfl, t2, hL2, hs3, by omega, ⟨fun z => absurd z h2, fun z => absurd rfl z⟩, tkE_le hp⟩
theorem c_readAct {d p so bu : Nat} {E M : Mm} {T : Tp} {B : Bk} (hC : CS E M T B) (hN : NC M B) (hn : nnB B < 24) (hp : p ≤ T.1) (h : TkC M T p) (hL : LF M (nnB B) (vrB B) so bu 0 (fun _ => true)) : ∃ b N, go (d + 7) 86 0 [.ref 98, .ref (26 + 3 * nnB B), .null, .null, .null] [] M = some (some (.int b), N) ∧ Sm (Rc (nmB B) (nnB B)) (Rl (nlB B) (nnB B)) M N ∧ NC N B ∧ (match acF T p with
    | .inl (f, pl) => b = 0 ∧ gI N 98 0 = nI f ∧ gI N 98 1 = nI pl
    | .inr (ac, fi, se, p') => b = 1 ∧ TkC N T p' ∧ LF N (nnB B) (vrB B) so bu 0 (fun _ => true) ∧ AF N (nnB B) ac fi se ∧ ac < 4 ∧ fi < 4 ∧ (ac < 2 → se ≤ 99) ∧ (2 ≤ ac → se < 4) ∧ p' ≤ T.1) := by
  have hG := hC.1
  have hP := hC.2.2.2.2.2.2
  have o := ok_98 hG
  have iw : go (d + 6) 110 0 [.ref 3, .ref 1013, .null] [] M = some (some (.int (b2i (decide (tkW T p = tx 13)))), M) := c_isWord (d := d + 1) (i := 13) hG hC.2.1 hp h hC.2.2.2.1 hC.2.2.1 (by omega)
  have ch : go (d + 6) 87 0 [.ref 98, .ref 1014, .ref 1015, .ref 1016] [] M = some (some (.int (match choF T 14 15 16 p with
    | .inl _ => -1
    | .inr n => nI n)), M) := c_chosen (d := d) (i := 14) (j := 15) (k := 16) hC hp h (by omega) (by omega) (by omega)
  unfold acF
  cases hr : acW T p with
  | inl e =>
    have hw : ¬ tkW T p = tx 13 := fun z => by unfold acW at hr; rw [if_pos z] at hr; cases hr
    unfold acW at hr
    rw [if_neg hw] at hr
    have ch' : go (d + 6) 87 0 [.ref 98, .ref 1014, .ref 1015, .ref 1016] [] M = some (some (.int (-1)), M) := by rw [hr] at ch; exact ch
    have he := cho_l hr
    subst he
    obtain ⟨N, a1, a2, a3, a4⟩ := c_fail (d := d + 5) (f := 1) (row := 0) hG h
    have a1' : go (d + 6) 81 0 [.ref 98, .int (1 : Int32)] [] M = some (some (.int 0), N) := a1
    refine ⟨0, N, ?_, Rc_p a2, NC_p hN a2 hP, rfl, a3, a4⟩
    rw [q86_0, if_pos o, gr_98_2 hG, if_pos (ok_3 hG), iw, bI_s, decide_eq_false hw, if_pos (by decide), if_pos o, ch', bI_s, if_neg (by decide), if_pos o, a1', bI_s, if_pos (by decide)]
  | inr ac =>
    obtain ⟨N1, n1, n2, n3⟩ := c_next (d := d + 4) hG hC.2.1 hp h
    have S1 : Sm Sp (Sq 0) M N1 := Sp_sc n2
    have hC1 := CS_p hC S1
    have hG1 := hC1.1
    have hac : ac < 4 := by
      unfold acW at hr
      by_cases hw : tkW T p = tx 13
      · rw [if_pos hw] at hr; cases hr; omega
      · rw [if_neg hw] at hr; have := (cho_b hr (by omega) (by omega) (by omega)).1; omega
    have st : go (d + 7) 86 0 [.ref 98, .ref (26 + 3 * nnB B), .null, .null, .null] [] M = bI (go (d + 6) 88 0 [.ref 98, .int (3 : Int32), .null] [] N1) fun y M6 => if 0 ≤ y then go (d + 7) 86 72 [.ref 98, .ref (26 + 3 * nnB B), .int (nI ac), .int y, .null] [.int (if ac < 2 then 99 else 3), .ref 98] M6 else some (some (.int (0 : Int32)), M6) := by
      unfold acW at hr
      by_cases hw : tkW T p = tx 13
      · rw [if_pos hw] at hr
        cases hr
        rw [q86_0, if_pos o, gr_98_2 hG, if_pos (ok_3 hG), iw, bI_s, decide_eq_true hw, if_neg (by decide), if_pos (by decide), if_pos o, gr_98_2 hG, if_pos (ok_3 hG), n1, bV_s, if_pos (ok_98 hG1)]
        rfl
      · rw [if_neg hw] at hr
        have ch' : go (d + 6) 87 0 [.ref 98, .ref 1014, .ref 1015, .ref 1016] [] M = some (some (.int (nI ac)), M) := by rw [hr] at ch; exact ch
        obtain ⟨ha3, -⟩ := cho_b hr (by omega) (by omega) (by omega)
        rw [q86_0, if_pos o, gr_98_2 hG, if_pos (ok_3 hG), iw, bI_s, decide_eq_false hw, if_pos (by decide), if_pos o, ch', bI_s, if_pos (nI_pos' (by omega)), if_pos o, gr_98_2 hG, if_pos (ok_3 hG), n1, bV_s, if_pos (ok_98 hG1)]
        rcases (show ac = 0 ∨ ac = 1 ∨ ac = 2 by omega) with rfl | rfl | rfl
        · rfl
        · rfl
        · rfl
    obtain ⟨y, N2, m1, m2, m3⟩ := c_number (d := d + 3) (row := 0) (lim := 4) (x := 3) hC1 (tkE_le hp) n3 (fun n hn => by rw [show (3 : Int32) = nI 3 from rfl, nI_leI (by omega) (by omega)]; omega)
    have S2 : Sm Sp (Sq 0) M N2 := Sm_trans S1 m2
    have hC2 := CS_p hC S2
    rw [rbn_r]
    rw [st, m1, bI_s]
    cases hq : numF T 4 (tkE T p) with
    | inl e =>
      obtain ⟨f, pl⟩ := e
      rw [hq] at m3
      obtain ⟨rfl, f1, f2⟩ := m3
      exact ⟨0, N2, by rw [if_neg (by decide)], Rc_p S2, NC_p hN S2 hP, rfl, f1, f2⟩
    | inr fi =>
      rw [hq] at m3
      obtain ⟨rfl, f1⟩ := m3
      obtain ⟨hf1, hf2, hf3⟩ := num_b hq
      have hx : ∀ n, n < 1000 → (nI n ≤ (if ac < 2 then (99 : Int32) else 3) ↔ n < (if ac < 2 then 100 else 4)) := fun n hn => by
        by_cases h2 : ac < 2
        · rw [if_pos h2, if_pos h2, show (99 : Int32) = nI 99 from rfl, nI_leI (by omega) (by omega)]; omega
        · rw [if_neg h2, if_neg h2, show (3 : Int32) = nI 3 from rfl, nI_leI (by omega) (by omega)]; omega
      obtain ⟨z, N3, k1, k2, k3⟩ := c_number (d := d + 3) (row := 0) hC2 (tkE_le (tkE_le hp)) f1 hx
      have S3 : Sm Sp (Sq 0) M N3 := Sm_trans S2 k2
      have hG3 := (CS_p hC S3).1
      have st2 : go (d + 7) 86 72 [.ref 98, .ref (26 + 3 * nnB B), .int (nI ac), .int (nI fi), .null] [.int (if ac < 2 then 99 else 3), .ref 98] N2 = if 0 ≤ z then some (some (.int (1 : Int32)), sI (sI (sI N3 (26 + 3 * nnB B) 2 (nI ac)) (26 + 3 * nnB B) 3 (nI fi)) (26 + 3 * nnB B) 4 z) else some (some (.int (0 : Int32)), N3) := by
        rw [q86_72, if_pos (ok_98 hC2.1), k1, bI_s, if_pos (ok_line hG3 hn), bM_d, okO_sI, if_pos (ok_line hG3 hn), bM_d, okO_sI, okO_sI, if_pos (ok_line hG3 hn), bM_d]
      rw [if_pos (nI_pos' (by omega)), st2]
      rw [rbn_r]
      cases hz : numF T (if ac < 2 then 100 else 4) (tkE T (tkE T p)) with
      | inl e =>
        obtain ⟨f, pl⟩ := e
        rw [hz] at k3
        obtain ⟨rfl, g1, g2⟩ := k3
        exact ⟨0, N3, by rw [if_neg (by decide)], Rc_p S3, NC_p hN S3 hP, rfl, g1, g2⟩
      | inr se =>
        rw [hz] at k3
        obtain ⟨rfl, g1⟩ := k3
        obtain ⟨hz1, hz2, hz3⟩ := num_b hz
        have hL3 := LF_p hL S3 hn
        refine ⟨1, _, by rw [if_pos (nI_pos' (by omega))], Sm_trans (Rc_p S3) (Sm_trans (Sm_sI (by unfold Rc; omega)) (Sm_trans (Sm_sI (by unfold Rc; omega)) (Sm_sI (by unfold Rc; omega)))), NC_l (NC_l (NC_l (NC_p hN S3 hP) hP hn) hP hn) hP hn, rfl, TkC_ne g1 (fun k => by rw [gI_ne (by omega), gI_ne (by omega), gI_ne (by omega)]), ?_, ⟨by rw [gI_ne (by omega), gI_ne (by omega), gI_at], by rw [gI_ne (by omega), gI_at], gI_at⟩, hac, hf1, fun h2 => ?_, fun h2 => ?_, tkE_le (tkE_le (tkE_le hp))⟩
        · obtain ⟨l1, l2, l3, l4, l5, l6⟩ := hL3
          have q : ∀ k, k = 0 ∨ k = 1 ∨ 5 ≤ k → gI (sI (sI (sI N3 (26 + 3 * nnB B) 2 (nI ac)) (26 + 3 * nnB B) 3 (nI fi)) (26 + 3 * nnB B) 4 (nI se)) (26 + 3 * nnB B) k = gI N3 (26 + 3 * nnB B) k := fun k hk => by rw [gI_ne (by omega), gI_ne (by omega), gI_ne (by omega)]
          exact ⟨by rw [q _ (by omega)]; exact l1, by rw [q _ (by omega)]; exact l2, by rw [q _ (by omega)]; exact l3, by rw [q _ (by omega)]; exact l4, by rw [q _ (by omega)]; exact l5, l6⟩
        · rw [if_pos h2] at hz1; omega
        · rw [if_neg (by omega)] at hz1; exact hz1
