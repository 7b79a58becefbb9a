/-! ===== the model reads a line ===== -/
theorem le_3 : ∀ n, n < 1000 → (nI n ≤ (3 : Int32) ↔ n < 4) := fun n hn => by rw [show (3 : Int32) = nI 3 from rfl, nI_leI (by omega) (by omega)]; omega
theorem le_99 : ∀ n, n < 1000 → (nI n ≤ (99 : Int32) ↔ n < 100) := fun n hn => by rw [show (99 : Int32) = nI 99 from rfl, nI_leI (by omega) (by omega)]; omega
theorem le_7 : ∀ n, n < 1000 → (nI n ≤ (7 : Int32) ↔ n < 8) := fun n hn => by rw [show (7 : Int32) = nI 7 from rfl, nI_leI (by omega) (by omega)]; omega
theorem st194 {d nn : Nat} {M M1 M4 : Mm} {w2 : Int64} {v4 : Value} {y2 y5 : Int32} (hG : Gd M) (hn : nn < 24) (h1 : go (d + 5) 172 0 [.ref 171, .int (3 : Int32), .null] [] M = some (some (.int y2), M1)) (hG1 : Gd M1) (h2 : go (d + 5) 172 0 [.ref 171, .int (if (2 : Int32) ≤ gI M1 179 nn then (3 : Int32) else 99), .null] [] (sI M1 180 nn y2) = some (some (.int y5), M4)) (hG4 : Gd M4) : go (d + 6) 180 194 [.ref 171, .int (nI nn), .long w2, .null, v4, .null] [] M = X6 d nn w2 v4 (sI M4 181 nn y5) := by
  have o := ok_171 hG
  have hG3 : Gd (sI M1 180 nn y2) := hG1
  have g : gI (sI M1 180 nn y2) 179 nn = gI M1 179 nn := gI_ne (by omega)
  rw [q180_194, if_pos o, if_pos o, h1, bI_s, gr_171_13 hG, if_pos (wk_180 hG1 hn), bM_d, nI_clamp (by omega), if_pos (ok_171 hG3), if_pos (ok_171 hG3), gr_171_12 hG3, if_pos (rk_179 hG3 hn), g]
  by_cases hc : (2 : Int32) ≤ gI M1 179 nn
  · rw [if_pos hc] at h2 ⊢
    rw [if_pos (ok_171 hG3), h2, bI_s, gr_171_14 hG3, if_pos (wk_181 hG4 hn), bM_d]
    rfl
  · rw [if_neg hc] at h2 ⊢
    rw [if_pos (ok_171 hG3), h2, bI_s, gr_171_14 hG3, if_pos (wk_181 hG4 hn), bM_d]
    rfl
theorem m194F {d f pl : Nat} {M : Mm} {T : Tp} {B : Bk} {w2 : Int64} {v4 : Value} (hC : MCx M T B) (h32 : gI M 171 32 = nI (nnB B)) (hn : nnB B < 24) (h : FtM M f pl) : ∃ N, go (d + 6) 180 194 [.ref 171, .int (nI (nnB B)), .long w2, .null, v4, .null] [] M = some (none, N) ∧ Sm (Rm (nmB B) (nlB B) (nnB B)) NoL M N ∧ FtM N f pl := by
  have hG := hC.1
  have n1 := m_numberF (d := d + 1) (x := 3) hG h
  have h3 : FtM (sI M 180 (nnB B) 0) f pl := FtM_ne h (gI_ne (by omega)) (gI_ne (by omega))
  have hG3 : Gd (sI M 180 (nnB B) 0) := hG
  have n2 := m_numberF (d := d + 1) (x := if (2 : Int32) ≤ gI M 179 (nnB B) then (3 : Int32) else 99) hG3 h3
  have S : Sm (Rm (nmB B) (nlB B) (nnB B)) NoL M (sI (sI M 180 (nnB B) 0) 181 (nnB B) 0) := Sm_trans (Sm_sI (by unfold Rm; omega)) (Sm_sI (by unfold Rm; omega))
  obtain ⟨N, a1, a2, a3⟩ := X6F (d := d) (w2 := w2) (v4 := v4) (MCx_R hC S) (by rw [gI_ne (by omega), gI_ne (by omega)]; exact h32) hn (FtM_ne h3 (gI_ne (by omega)) (gI_ne (by omega)))
  exact ⟨N, (st194 hG hn n1 hG n2 hG3).trans a1, Sm_trans S a2, a3⟩
def acT (T : Tp) (B : Bk) (so bu ac q : Nat) : Rb := rbn (numF T 4 q) fun fi => rbn (numF T (if ac < 2 then 100 else 4) (tkE T q)) fun se => rbn (ifF T (nmB B) (tkE T (tkE T q))) fun c => .inr (c.2.2, lnB B (fldF so bu ac fi se c.1 (vrB B)) c.2.1)
theorem ln_t (T : Tp) (B : Bk) (q : Nat) : ln2 T B q = rbn (srF T q) fun a => rbn (acW T a.2.2) fun ac => acT T B a.1 a.2.1 ac (tkE T a.2.2) := by
  unfold ln2 acF acT
  congr 1
  funext a
  rw [rbn_a]
  congr 1
  funext ac
  rw [rbn_a]
  congr 1
  funext fi
  rw [rbn_a]
  rfl
theorem m194N {d p so bu ac : Nat} {M : Mm} {T : Tp} {B : Bk} {w2 : Int64} {v4 : Value} (hC : MCx M T B) (hN : NM M B) (hn : nnB B < 24) (hp : p ≤ T.1) (h : TkM M T p) (h0 : gI M 171 28 = 0) (hac : ac < 4) (l1 : gI M 177 (nnB B) = nI so) (l2 : gI M 178 (nnB B) = optI bu) (l3 : gI M 179 (nnB B) = nI ac) : ∃ N, go (d + 6) 180 194 [.ref 171, .int (nI (nnB B)), .long w2, .null, v4, .null] [] M = some (none, N) ∧ Sm (Rm (nmB B) (nlB B) (nnB B)) NoL M N ∧ MR T N (acT T B so bu ac p) := by
  obtain ⟨hG, hT, hv, hP⟩ := id hC
  obtain ⟨M1, a1, a2, a3⟩ := m_numberTo (d := d + 1) hG hT hp h h0 le_3
  have hG1 := Gd_Sm a2 hG
  have S1 : Sm (Rm (nmB B) (nlB B) (nnB B)) NoL M (sI M1 180 (nnB B) (nI (tkN0 T p))) := Sm_trans (Rm_e a2) (Sm_sI (by unfold Rm; omega))
  have hG3 : Gd (sI M1 180 (nnB B) (nI (tkN0 T p))) := hG1
  have hC3 := MCx_R hC S1
  have hN1 := NM_e hN a2 hP
  have hN3 : NM (sI M1 180 (nnB B) (nI (tkN0 T p))) B := NM_R hN1 (Sm_sI (by unfold Rm; omega)) hP (gI_ne (by omega)) (gI_ne (by omega)) (gI_ne (by omega))
  have k3 : gI M1 179 (nnB B) = nI ac := (a2.2.2.1 _ _ (by unfold Se; omega)).trans l3
  unfold acT
  cases hr : numF T 4 p with
  | inl e =>
    obtain ⟨f, pl⟩ := e
    rw [hr] at a3
    have f3 : FtM (sI M1 180 (nnB B) (nI (tkN0 T p))) f pl := FtM_ne a3 (gI_ne (by omega)) (gI_ne (by omega))
    have n2 := m_numberF (d := d + 1) (x := if (2 : Int32) ≤ gI M1 179 (nnB B) then (3 : Int32) else 99) hG3 f3
    have S4 : Sm (Rm (nmB B) (nlB B) (nnB B)) NoL M (sI (sI M1 180 (nnB B) (nI (tkN0 T p))) 181 (nnB B) 0) := Sm_trans S1 (Sm_sI (by unfold Rm; omega))
    obtain ⟨N, b1, b2, b3⟩ := X6F (d := d) (w2 := w2) (v4 := v4) (MCx_R hC S4) (by rw [gI_ne (by omega)]; exact hN3.2.2.1) hn (FtM_ne f3 (gI_ne (by omega)) (gI_ne (by omega)))
    exact ⟨N, (st194 hG hn a1 hG1 n2 hG3).trans b1, Sm_trans S4 b2, b3⟩
  | inr fi =>
    rw [hr] at a3
    obtain ⟨en, t1, z1⟩ := a3
    subst en
    have t3 : TkM (sI M1 180 (nnB B) (nI (tkN0 T p))) T (tkE T p) := TkM_ne t1 (fun k _ _ => gI_ne (by omega))
    have z3 : gI (sI M1 180 (nnB B) (nI (tkN0 T p))) 171 28 = 0 := (gI_ne (by omega)).trans z1
    have hx : ∀ n, n < 1000 → (nI n ≤ (if (2 : Int32) ≤ gI M1 179 (nnB B) then (3 : Int32) else 99) ↔ n < (if ac < 2 then 100 else 4)) := by
      rw [k3]
      by_cases ha : ac < 2
      · rw [if_neg (by rw [show (2 : Int32) = nI 2 from rfl, nI_leI (by omega) (by omega)]; omega), if_pos ha]; exact le_99
      · rw [if_pos (by rw [show (2 : Int32) = nI 2 from rfl, nI_leI (by omega) (by omega)]; omega), if_neg ha]; exact le_3
    obtain ⟨M4, c1, c2, c3⟩ := m_numberTo (d := d + 1) hG3 hC3.2.1 (tkE_le hp) t3 z3 hx
    have hG4 := Gd_Sm c2 hG3
    have S4 : Sm (Rm (nmB B) (nlB B) (nnB B)) NoL M (sI M4 181 (nnB B) (nI (tkN0 T (tkE T p)))) := Sm_trans S1 (Sm_trans (Rm_e c2) (Sm_sI (by unfold Rm; omega)))
    have hN4 := NM_e hN3 c2 hP
    have hN6 : NM (sI M4 181 (nnB B) (nI (tkN0 T (tkE T p)))) B := NM_R hN4 (Sm_sI (by unfold Rm; omega)) hP (gI_ne (by omega)) (gI_ne (by omega)) (gI_ne (by omega))
    have st := st194 (d := d) (w2 := w2) (v4 := v4) hG hn a1 hG1 c1 hG4
    rw [rbn_r]
    cases hr2 : numF T (if ac < 2 then 100 else 4) (tkE T p) with
    | inl e =>
      obtain ⟨f, pl⟩ := e
      rw [hr2] at c3
      obtain ⟨N, b1, b2, b3⟩ := X6F (d := d) (w2 := w2) (v4 := v4) (MCx_R hC S4) hN6.2.2.1 hn (FtM_ne c3 (gI_ne (by omega)) (gI_ne (by omega)))
      exact ⟨N, st.trans b1, Sm_trans S4 b2, b3⟩
    | inr se =>
      rw [hr2] at c3
      obtain ⟨en, t4, z4⟩ := c3
      subst en
      have t6 : TkM (sI M4 181 (nnB B) (nI (tkN0 T (tkE T p)))) T (tkE T (tkE T p)) := TkM_ne t4 (fun k _ _ => gI_ne (by omega))
      have q : ∀ r, 177 ≤ r → r ≤ 179 → gI (sI M4 181 (nnB B) (nI (tkN0 T (tkE T p)))) r (nnB B) = gI M r (nnB B) := fun r r1 r2 => by rw [gI_ne (by omega), c2.2.2.1 _ _ (by unfold Se; omega), gI_ne (by omega), a2.2.2.1 _ _ (by unfold Se; omega)]
      have hL : LM (sI M4 181 (nnB B) (nI (tkN0 T (tkE T p)))) (nnB B) so bu ac (tkN0 T p) (tkN0 T (tkE T p)) := ⟨(q _ (by omega) (by omega)).trans l1, (q _ (by omega) (by omega)).trans l2, (q _ (by omega) (by omega)).trans l3, by rw [gI_ne (by omega), c2.2.2.1 _ _ (by unfold Se; omega), gI_at], gI_at⟩
      obtain ⟨N, b1, b2, b3⟩ := X6N (d := d) (w2 := w2) (v4 := v4) (MCx_R hC S4) hN6 hn (tkE_le (tkE_le hp)) t6 ((gI_ne (by omega)).trans z4) hL
      exact ⟨N, st.trans b1, Sm_trans S4 b2, b3⟩
theorem m173 {d p so bu : Nat} {M : Mm} {T : Tp} {B : Bk} {w2 w4 : Int64} {x : Int32} (hC : MCx M T B) (hN : NM M B) (hn : nnB B < 24) (hp : p ≤ T.1) (h : TkM M T p) (h0 : gI M 171 28 = 0) (l1 : gI M 177 (nnB B) = nI so) (l2 : gI M 178 (nnB B) = optI bu) (hx : x = match acW T p with
    | .inl _ => NONE
    | .inr n => nI n) : ∃ N, go (d + 6) 180 173 [.ref 171, .int (nI (nnB B)), .long w2, .null, .long w4, .null] [.int x, .int (nI (nnB B)), .ref 179] M = some (none, N) ∧ Sm (Rm (nmB B) (nlB B) (nnB B)) NoL M N ∧ MR T N (rbn (acW T p) fun ac => acT T B so bu ac (tkE T p)) := by
  obtain ⟨hG, hT, hv, hP⟩ := id hC
  have hG1 : Gd (sI M 179 (nnB B) x) := hG
  have S1 : Sm (Rm (nmB B) (nlB B) (nnB B)) NoL M (sI M 179 (nnB B) x) := Sm_sI (by unfold Rm; omega)
  have hC1 := MCx_R hC S1
  have hN1 : NM (sI M 179 (nnB B) x) B := NM_R hN S1 hP (gI_ne (by omega)) (gI_ne (by omega)) (gI_ne (by omega))
  have t1 : TkM (sI M 179 (nnB B) x) T p := TkM_ne h (fun k _ _ => gI_ne (by omega))
  have z1 : gI (sI M 179 (nnB B) x) 171 28 = 0 := (gI_ne (by omega)).trans h0
  rw [q180_173, if_pos (wk_179 hG hn), bM_d, nI_clamp (by omega), if_pos (ok_171 hG1), gr_171_12 hG1, if_pos (rk_179 hG1 hn), gI_at]
  cases hr : acW T p with
  | inl e =>
    rw [hr] at hx
    have he : e = (1, tkS T p) := by
      unfold acW at hr
      split at hr
      · cases hr
      · exact cho_l hr
    subst he
    obtain ⟨N2, a1, a2, a3⟩ := m_must0 (d := d + 2) hG1 hp hT.1 t1 z1
    obtain ⟨N3, b1, b2, b3⟩ := m194F (d := d) (w2 := w2) (v4 := .long w4) (MCx_e hC1 a2) ((a2.2.2.1 _ _ (by unfold Se; omega)).trans hN1.2.2.1) hn a3
    refine ⟨N3, ?_, Sm_trans S1 (Sm_trans (Rm_e a2) b2), b3⟩
    rw [if_pos hx, if_pos (ok_171 hG1), a1, bV_s]
    exact b1
  | inr ac =>
    rw [hr] at hx
    have hac : ac < 4 := by
      unfold acW at hr
      split at hr
      · cases hr; omega
      · have := (cho_b hr (by omega) (by omega) (by omega)).1
        omega
    obtain ⟨N2, a1, a2, a3, a4⟩ := m_must1 (d := d + 2) hG1 hC1.2.1 hp t1 z1
    obtain ⟨N3, b1, b2, b3⟩ := m194N (d := d) (so := so) (bu := bu) (ac := ac) (w2 := w2) (v4 := .long w4) (MCx_d hC1 a2) (NM_d hN1 a2 hP) hn (tkE_le hp) a3 a4 hac (by rw [a2.2.2.1 _ _ (by unfold Sd; omega), gI_ne (by omega)]; exact l1) (by rw [a2.2.2.1 _ _ (by unfold Sd; omega), gI_ne (by omega)]; exact l2) (by rw [a2.2.2.1 _ _ (by unfold Sd; omega), gI_at]; exact hx)
    refine ⟨N3, ?_, Sm_trans S1 (Sm_trans (Rm_d a2) b2), b3⟩
    rw [if_neg (by rw [hx]; exact fun z => none_ne (n := ac) (by omega) z.symm), if_pos (ok_171 hG1), a1, bV_s]
    exact b1
noncomputable def X7 (d nn : Nat) (w2 : Int64) (M7 : Mm) : Oo := if okO M7 171 12 = true then if (gI M7 171 28) = 0 then if okO M7 171 12 = true then bL (go (d + 5) 170 0 [.ref 171, .null, .null, .null] [] M7) fun y9 M8 => if okO M8 171 12 = true then if (lg_cmp y9 (7562612 : Int64)) = 0 then go (d + 6) 180 173 [.ref 171, .int (nI nn), .long w2, .null, .long y9, .null] [.int (0 : Int32), .int (nI nn), .ref (gR M8 171 12)] M8 else if (lg_cmp y9 (6382692 : Int64)) = 0 then go (d + 6) 180 173 [.ref 171, .int (nI nn), .long w2, .null, .long y9, .null] [.int (1 : Int32), .int (nI nn), .ref (gR M8 171 12)] M8 else if (lg_cmp y9 (7566701 : Int64)) = 0 then go (d + 6) 180 173 [.ref 171, .int (nI nn), .long w2, .null, .long y9, .null] [.int (2 : Int32), .int (nI nn), .ref (gR M8 171 12)] M8 else if (lg_cmp y9 (7173484 : Int64)) = 0 then go (d + 6) 180 173 [.ref 171, .int (nI nn), .long w2, .null, .long y9, .null] [.int (3 : Int32), .int (nI nn), .ref (gR M8 171 12)] M8 else go (d + 6) 180 173 [.ref 171, .int (nI nn), .long w2, .null, .long y9, .null] [.int ((-1000000) : Int32), .int (nI nn), .ref (gR M8 171 12)] M8 else none else none else go (d + 6) 180 194 [.ref 171, .int (nI nn), .long w2, .null, .null, .null] [] M7 else none
theorem X7F {d f pl : Nat} {M : Mm} {T : Tp} {B : Bk} {w2 : Int64} (hC : MCx M T B) (h32 : gI M 171 32 = nI (nnB B)) (hn : nnB B < 24) (h : FtM M f pl) : ∃ N, X7 d (nnB B) w2 M = some (none, N) ∧ Sm (Rm (nmB B) (nlB B) (nnB B)) NoL M N ∧ FtM N f pl := by
  obtain ⟨N, a1, a2, a3⟩ := m194F (d := d) (w2 := w2) (v4 := .null) hC h32 hn h
  refine ⟨N, ?_, a2, a3⟩
  unfold X7
  rw [if_pos (ok_171 hC.1), if_neg (FtM_n h)]
  exact a1
theorem X7N {d p so bu : Nat} {M : Mm} {T : Tp} {B : Bk} {w2 : Int64} (hC : MCx M T B) (hN : NM M B) (hn : nnB B < 24) (hp : p ≤ T.1) (h : TkM M T p) (h0 : gI M 171 28 = 0) (l1 : gI M 177 (nnB B) = nI so) (l2 : gI M 178 (nnB B) = optI bu) : ∃ N, X7 d (nnB B) w2 M = some (none, N) ∧ Sm (Rm (nmB B) (nlB B) (nnB B)) NoL M N ∧ MR T N (rbn (acW T p) fun ac => acT T B so bu ac (tkE T p)) := by
  obtain ⟨hG, hT, hv, hP⟩ := id hC
  have o := ok_171 hG
  have w := m_word (d := d + 4) hG hT hp h
  have e14 := wv_is (T := T) (p := p) (i := 14) (c := 7562612) hp (by omega) rfl
  have e15 := wv_is (T := T) (p := p) (i := 15) (c := 6382692) hp (by omega) rfl
  have e16 := wv_is (T := T) (p := p) (i := 16) (c := 7566701) hp (by omega) rfl
  have e13 := wv_is (T := T) (p := p) (i := 13) (c := 7173484) hp (by omega) rfl
  have g := gr_171_12 hG
  unfold X7
  rw [if_pos o, if_pos h0, if_pos o, w, bL_s, if_pos o, g]
  have K : ∀ x : Int32, (x = match acW T p with
    | .inl _ => NONE
    | .inr n => nI n) → _ := fun x hx => m173 (d := d) (so := so) (bu := bu) (w2 := w2) (w4 := wvL (tkW T p)) (x := x) hC hN hn hp h h0 l1 l2 hx
  by_cases h14 : tkW T p = tx 14
  · rw [if_pos (e14.mpr h14)]
    exact K 0 (by unfold acW choF; rw [if_neg (by rw [h14]; decide), if_pos h14]; rfl)
  · rw [if_neg (fun z => h14 (e14.mp z))]
    by_cases h15 : tkW T p = tx 15
    · rw [if_pos (e15.mpr h15)]
      exact K 1 (by unfold acW choF; rw [if_neg (by rw [h15]; decide), if_neg h14, if_pos h15]; rfl)
    · rw [if_neg (fun z => h15 (e15.mp z))]
      by_cases h16 : tkW T p = tx 16
      · rw [if_pos (e16.mpr h16)]
        exact K 2 (by unfold acW choF; rw [if_neg (by rw [h16]; decide), if_neg h14, if_neg h15, if_pos h16]; rfl)
      · rw [if_neg (fun z => h16 (e16.mp z))]
        by_cases h13 : tkW T p = tx 13
        · rw [if_pos (e13.mpr h13)]
          exact K 3 (by unfold acW; rw [if_pos h13]; rfl)
        · rw [if_neg (fun z => h13 (e13.mp z))]
          exact K NONE (by unfold acW choF; rw [if_neg h13, if_neg h14, if_neg h15, if_neg h16])
/-- sort known or not: 71 -/
theorem m71 {d p : Nat} {M : Mm} {T : Tp} {B : Bk} {w2 : Int64} {x : Int32} (hC : MCx M T B) (hN : NM M B) (hn : nnB B < 24) (hp : p ≤ T.1) (h : TkM M T p) (h0 : gI M 171 28 = 0) (hx : x = match choF T 10 11 12 p with
    | .inl _ => NONE
    | .inr n => nI n) (l1 : gI M 177 (nnB B) = x) : ∃ N, go (d + 6) 180 71 [.ref 171, .int (nI (nnB B)), .long w2, .null, .null, .null] [.int (if x = NONE then 0 else 1), .ref 171] M = some (none, N) ∧ Sm (Rm (nmB B) (nlB B) (nnB B)) NoL M N ∧ MR T N (ln2 T B p) := by
  obtain ⟨hG, hT, hv, hP⟩ := id hC
  have o := ok_171 hG
  rw [ln_t]
  unfold srF
  cases hr : choF T 10 11 12 p with
  | inl e =>
    rw [hr] at hx
    have hx' : x = NONE := hx
    subst hx'
    have he := cho_l hr
    subst he
    obtain ⟨N1, a1, a2, a3⟩ := m_must0 (d := d + 2) hG hp hT.1 h h0
    have hG1 := Gd_Sm a2 hG
    have k1 : gI N1 177 (nnB B) = NONE := (a2.2.2.1 _ _ (by unfold Se; omega)).trans l1
    have S2 : Sm (Rm (nmB B) (nlB B) (nnB B)) NoL M (sI N1 178 (nnB B) NONE) := Sm_trans (Rm_e a2) (Sm_sI (by unfold Rm; omega))
    obtain ⟨N, b1, b2, b3⟩ := X7F (d := d) (w2 := w2) (MCx_R hC S2) (by rw [gI_ne (by omega), a2.2.2.1 _ _ (by unfold Se; omega)]; exact hN.2.2.1) hn (FtM_ne a3 (gI_ne (by omega)) (gI_ne (by omega)))
    refine ⟨N, ?_, Sm_trans S2 b2, b3⟩
    rw [if_pos rfl, q180_71, if_pos o, a1, bV_s, if_pos (ok_171 hG1), if_pos (ok_171 hG1), gr_171_10 hG1, if_pos (rk_177 hG1 hn), nI_clamp (by omega), k1, if_neg (by decide), gr_171_11 hG1, if_pos (wk_178 hG1 hn), bM_d]
    exact b1
  | inr so =>
    rw [hr] at hx
    have hx' : x = nI so := hx
    subst hx'
    have hso := (cho_b hr (by omega) (by omega) (by omega)).1
    rw [if_neg (fun z => none_ne (n := so) (by omega) z.symm)]
    obtain ⟨N1, a1, a2, a3, a4⟩ := m_must1 (d := d + 2) hG hT hp h h0
    have hG1 := Gd_Sm a2 hG
    have hC1 := MCx_d hC a2
    have hN1 := NM_d hN a2 hP
    have k1 : gI N1 177 (nnB B) = nI so := (a2.2.2.1 _ _ (by unfold Sd; omega)).trans l1
    have e2 : nI so = (2 : Int32) ↔ so = 2 := by rw [show (2 : Int32) = nI 2 from rfl]; exact nI_eq (by omega) (by omega)
    rw [rbn_r]
    by_cases h2 : so = 2
    · rw [if_pos h2, rbn_a]
      obtain ⟨N2, c1, c2, c3⟩ := m_numberTo (d := d + 1) hG1 hC1.2.1 (tkE_le hp) a3 a4 le_7
      have hG2 := Gd_Sm c2 hG1
      have S2 : Sm (Rm (nmB B) (nlB B) (nnB B)) NoL M (sI N2 178 (nnB B) (nI (tkN0 T (tkE T p)))) := Sm_trans (Rm_d a2) (Sm_trans (Rm_e c2) (Sm_sI (by unfold Rm; omega)))
      have hN2 := NM_e hN1 c2 hP
      have hN3 : NM (sI N2 178 (nnB B) (nI (tkN0 T (tkE T p)))) B := NM_R hN2 (Sm_sI (by unfold Rm; omega)) hP (gI_ne (by omega)) (gI_ne (by omega)) (gI_ne (by omega))
      have st : go (d + 6) 180 71 [.ref 171, .int (nI (nnB B)), .long w2, .null, .null, .null] [.int 1, .ref 171] M = X7 d (nnB B) w2 (sI N2 178 (nnB B) (nI (tkN0 T (tkE T p)))) := by
        rw [q180_71, if_pos o, a1, bV_s, if_pos (ok_171 hG1), if_pos (ok_171 hG1), gr_171_10 hG1, if_pos (rk_177 hG1 hn), nI_clamp (by omega), k1, if_pos (e2.mpr h2), if_pos (ok_171 hG1), c1, bI_s, gr_171_11 hG1, if_pos (wk_178 hG2 hn), bM_d]
        rfl
      rw [st]
      cases hr2 : numF T 8 (tkE T p) with
      | inl e =>
        obtain ⟨f, pl⟩ := e
        rw [hr2] at c3
        obtain ⟨N, b1, b2, b3⟩ := X7F (d := d) (w2 := w2) (MCx_R hC S2) hN3.2.2.1 hn (FtM_ne c3 (gI_ne (by omega)) (gI_ne (by omega)))
        exact ⟨N, b1, Sm_trans S2 b2, b3⟩
      | inr n =>
        rw [hr2] at c3
        obtain ⟨en, t2, z2⟩ := c3
        subst en
        obtain ⟨N, b1, b2, b3⟩ := X7N (d := d) (so := so) (bu := tkN0 T (tkE T p) + 1) (w2 := w2) (MCx_R hC S2) hN3 hn (tkE_le (tkE_le hp)) (TkM_ne t2 (fun k _ _ => gI_ne (by omega))) ((gI_ne (by omega)).trans z2) (by rw [gI_ne (by omega), c2.2.2.1 _ _ (by unfold Se; omega)]; exact k1) (by rw [gI_at, optI_s])
        exact ⟨N, b1, Sm_trans S2 b2, b3⟩
    · rw [if_neg h2]
      have S2 : Sm (Rm (nmB B) (nlB B) (nnB B)) NoL M (sI N1 178 (nnB B) NONE) := Sm_trans (Rm_d a2) (Sm_sI (by unfold Rm; omega))
      have hN3 : NM (sI N1 178 (nnB B) NONE) B := NM_R hN1 (Sm_sI (by unfold Rm; omega)) hP (gI_ne (by omega)) (gI_ne (by omega)) (gI_ne (by omega))
      obtain ⟨N, b1, b2, b3⟩ := X7N (d := d) (so := so) (bu := 0) (w2 := w2) (MCx_R hC S2) hN3 hn (tkE_le hp) (TkM_ne a3 (fun k _ _ => gI_ne (by omega))) ((gI_ne (by omega)).trans a4) (by rw [gI_ne (by omega)]; exact k1) (by rw [gI_at]; rfl)
      refine ⟨N, ?_, Sm_trans S2 b2, b3⟩
      rw [q180_71, if_pos o, a1, bV_s, if_pos (ok_171 hG1), if_pos (ok_171 hG1), gr_171_10 hG1, if_pos (rk_177 hG1 hn), nI_clamp (by omega), k1, if_neg (fun z => h2 (e2.mp z)), gr_171_11 hG1, if_pos (wk_178 hG1 hn), bM_d]
      exact b1
theorem m_readLine {d p : Nat} {M : Mm} {T : Tp} {B : Bk} (hC : MCx M T B) (hN : NM M B) (hn : nnB B < 24) (hp : p ≤ T.1) (h : TkM M T p) (h0 : gI M 171 28 = 0) : ∃ N, go (d + 6) 180 0 [.ref 171, .null, .null, .null, .null, .null] [] M = some (none, N) ∧ Sm (Rm (nmB B) (nlB B) (nnB B)) NoL M N ∧ MR T N (ln2 T B p) := by
  obtain ⟨hG, hT, hv, hP⟩ := id hC
  have o := ok_171 hG
  have w := m_word (d := d + 4) hG hT hp h
  have e10 := wv_is (T := T) (p := p) (i := 10) (c := 482854660462) hp (by omega) rfl
  have e11 := wv_is (T := T) (p := p) (i := 11) (c := 478694368626) hp (by omega) rfl
  have e12 := wv_is (T := T) (p := p) (i := 12) (c := 482671354728) hp (by omega) rfl
  have K : ∀ x : Int32, (x = match choF T 10 11 12 p with
    | .inl _ => NONE
    | .inr n => nI n) → ∃ N, go (d + 6) 180 71 [.ref 171, .int (nI (nnB B)), .long (wvL (tkW T p)), .null, .null, .null] [.int (if x = NONE then 0 else 1), .ref 171] (sI M 177 (nnB B) x) = some (none, N) ∧ Sm (Rm (nmB B) (nlB B) (nnB B)) NoL M N ∧ MR T N (ln2 T B p) := fun x hx => by
    have S1 : Sm (Rm (nmB B) (nlB B) (nnB B)) NoL M (sI M 177 (nnB B) x) := Sm_sI (by unfold Rm; omega)
    obtain ⟨N, a1, a2, a3⟩ := m71 (d := d) (w2 := wvL (tkW T p)) (x := x) (MCx_R hC S1) (NM_R hN S1 hP (gI_ne (by omega)) (gI_ne (by omega)) (gI_ne (by omega))) hn hp (TkM_ne h (fun k _ _ => gI_ne (by omega))) ((gI_ne (by omega)).trans h0) hx gI_at
    exact ⟨N, a1, Sm_trans S1 a2, a3⟩
  have hG1 : ∀ x, Gd (sI M 177 (nnB B) x) := fun x => hG
  rw [q180_0, if_pos o, if_pos o, w, bL_s, if_pos o, hN.2.2.1, gr_171_10 hG]
  unfold choF at K
  by_cases h10 : tkW T p = tx 10
  · rw [if_pos (e10.mpr h10), if_pos (wk_177 hG hn), bM_d, nI_clamp (by omega), if_pos (ok_171 (hG1 _)), gr_171_10 (hG1 _), if_pos (rk_177 (hG1 _) hn), gI_at, if_neg (by decide)]
    exact K 0 (by rw [if_pos h10]; rfl)
  · rw [if_neg (fun z => h10 (e10.mp z))]
    by_cases h11 : tkW T p = tx 11
    · rw [if_pos (e11.mpr h11), if_pos (wk_177 hG hn), bM_d, nI_clamp (by omega), if_pos (ok_171 (hG1 _)), gr_171_10 (hG1 _), if_pos (rk_177 (hG1 _) hn), gI_at, if_neg (by decide)]
      exact K 1 (by rw [if_neg h10, if_pos h11]; rfl)
    · rw [if_neg (fun z => h11 (e11.mp z))]
      by_cases h12 : tkW T p = tx 12
      · rw [if_pos (e12.mpr h12), if_pos (wk_177 hG hn), bM_d, nI_clamp (by omega), if_pos (ok_171 (hG1 _)), gr_171_10 (hG1 _), if_pos (rk_177 (hG1 _) hn), gI_at, if_neg (by decide)]
        exact K 2 (by rw [if_neg h10, if_neg h11, if_pos h12]; rfl)
      · rw [if_neg (fun z => h12 (e12.mp z)), if_pos (wk_177 hG hn), bM_d, nI_clamp (by omega), if_pos (ok_171 (hG1 _)), gr_171_10 (hG1 _), if_pos (rk_177 (hG1 _) hn), gI_at, if_pos rfl]
        exact K NONE (by rw [if_neg h10, if_neg h11, if_neg h12])
