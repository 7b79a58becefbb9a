/-! ===== the model reads a mark, a line ===== -/
theorem TkM_ne {M N : Mm} {T : Tp} {p : Nat} (h : TkM M T p) (hS : ∀ k, 24 ≤ k → k ≤ 27 → gI N 171 k = gI M 171 k) : TkM N T p := by
  unfold TkM at h ⊢
  rw [hS 26 (by omega) (by omega), hS 27 (by omega) (by omega), hS 24 (by omega) (by omega), hS 25 (by omega) (by omega)]; exact h
theorem m_readMark {d p : Nat} {M : Mm} {T : Tp} {B : Bk} (hC : MCx M T B) (hN : NM M B) (hnm : nmB B < 10) (hp : p ≤ T.1) (h : TkM M T p) (h0 : gI M 171 28 = 0) : ∃ N, go (d + 5) 179 0 [.ref 171, .null, .null, .null] [] M = some (none, N) ∧ Sm (Rm (nmB B) (nlB B) (nnB B)) NoL M N ∧ MR T N (mk2 T B p) := by
  obtain ⟨hG, hT, hv, hP⟩ := id hC
  have o := ok_171 hG
  have w := m_word (d := d + 3) hG hT hp h
  have e1 := wv_is (T := T) (p := p) (i := 1) (c := 1919905652) hp (by omega) rfl
  have hG1 : Gd (sI M 175 (nmB B) NONE) := hG
  have S1 : Sm (Rm (nmB B) (nlB B) (nnB B)) NoL M (sI M 175 (nmB B) NONE) := Sm_sI (by unfold Rm; omega)
  have hC1 := MCx_R hC S1
  have t1 : TkM (sI M 175 (nmB B) NONE) T p := TkM_ne h (fun k _ _ => gI_ne (by omega))
  have z1 : gI (sI M 175 (nmB B) NONE) 171 28 = 0 := (gI_ne (by omega)).trans h0
  have hN1 : NM (sI M 175 (nmB B) NONE) B := NM_R hN S1 hP (gI_ne (by omega)) (gI_ne (by omega)) (gI_ne (by omega))
  unfold mk2
  by_cases hw : tkW T p = tx 1
  · rw [if_pos hw, rbn_r]
    obtain ⟨N2, a1, a2, a3⟩ := m_next (d := d + 2) hG1 hC1.2.1 hp t1
    obtain ⟨N3, b1, b2, b3⟩ := m_mark2 (d := d + 1) (x1 := 1) (pa := 0) (MCx_d hC1 a2) (NM_d hN1 a2 hP) hnm (tkE_le hp) a3 ((a2.2.2.1 _ _ (by unfold Sd; omega)).trans z1) (by rw [a2.2.2.1 _ _ (by unfold Sd; omega), gI_at]; rfl)
    refine ⟨N3, ?_, Sm_trans S1 (Sm_trans (Rm_d a2) b2), b3⟩
    rw [q179_0, if_pos o, w, bL_s, if_pos (e1.mpr hw), if_pos o, if_pos o, gr_171_6 hG, hN.1, if_pos (wk_175 hG hnm), bM_d, nI_clamp (by omega), if_neg (by decide), if_pos (ok_171 hG1), a1, bV_s]
    exact b1
  · rw [if_neg hw]
    obtain ⟨N2, a1, a2, a3⟩ := m_numberTo (d := d) hG1 hC1.2.1 hp t1 z1 (le_m1 hP.1)
    have hG2 := Gd_Sm a2 hG1
    have hN2 := NM_e hN1 a2 hP
    have st : go (d + 5) 179 0 [.ref 171, .null, .null, .null] [] M = go (d + 5) 179 58 [.ref 171, .int (0 : Int32), .null, .null] [] (sI N2 175 (nmB B) (nI (tkN0 T p))) := by
      rw [q179_0, if_pos o, w, bL_s, if_neg (fun z => hw (e1.mp z)), if_pos o, if_pos o, gr_171_6 hG, hN.1, if_pos (wk_175 hG hnm), bM_d, nI_clamp (by omega), if_pos rfl, if_pos (ok_171 hG1), if_pos (ok_171 hG1), if_pos (ok_171 hG1), if_pos (ok_171 hG1), hN1.1, a1, bI_s, gr_171_6 hG1, if_pos (wk_175 hG2 hnm), bM_d, nI_clamp (by omega)]
    have S3 : Sm (Rm (nmB B) (nlB B) (nnB B)) NoL M (sI N2 175 (nmB B) (nI (tkN0 T p))) := Sm_trans S1 (Sm_trans (Rm_e a2) (Sm_sI (by unfold Rm; omega)))
    have hG3 : Gd (sI N2 175 (nmB B) (nI (tkN0 T p))) := hG2
    have hN3 : NM (sI N2 175 (nmB B) (nI (tkN0 T p))) B := NM_R hN2 (Sm_sI (by unfold Rm; omega)) hP (gI_ne (by omega)) (gI_ne (by omega)) (gI_ne (by omega))
    rw [st]
    cases hr : numF T (nmB B) p with
    | inl e =>
      obtain ⟨f, pl⟩ := e
      rw [hr] at a3
      have ft : FtM (sI N2 175 (nmB B) (nI (tkN0 T p))) f pl := FtM_ne a3 (gI_ne (by omega)) (gI_ne (by omega))
      refine ⟨sI (sI N2 175 (nmB B) (nI (tkN0 T p))) 171 30 (nI (nmB B + 1)), ?_, Sm_trans S3 (Sm_sI (by unfold Rm; omega)), FtM_ne ft (gI_ne (by omega)) (gI_ne (by omega))⟩
      rw [q179_58, if_pos (ok_171 hG3), if_neg (FtM_n ft), if_pos (ok_171 hG3), if_pos (ok_171 hG3), hN3.1, bM_d, nI_1]
    | inr n =>
      rw [hr] at a3
      obtain ⟨en, a4, a5⟩ := a3
      subst en
      obtain ⟨N4, b1, b2, b3⟩ := m_mark2 (d := d + 1) (x1 := 0) (pa := tkN0 T p + 1) (MCx_R hC S3) hN3 hnm (tkE_le hp) (TkM_ne a4 (fun k _ _ => gI_ne (by omega))) ((gI_ne (by omega)).trans a5) (by rw [gI_at, optI_s])
      exact ⟨N4, b1, Sm_trans S3 b2, b3⟩
/-- behind a line's saying -/
theorem m281 {d : Nat} {M : Mm} {T : Tp} {B : Bk} {w2 : Int64} {v4 : Value} (hC : MCx M T B) (h32 : gI M 171 32 = nI (nnB B)) (hn : nnB B < 24) : go (d + 1) 180 281 [.ref 171, .int (nI (nnB B)), .long w2, .null, v4, .null] [] M = some (none, sI (sI (sI M 182 (nnB B) (nI (vrB B))) 183 (nnB B) NONE) 171 32 (nI (nnB B + 1))) := by
  obtain ⟨hG, hT, hv, hP⟩ := hC
  have o := ok_171 hG
  have hG1 : Gd (sI M 182 (nnB B) (nI (vrB B))) := hG
  have hG2 : Gd (sI (sI M 182 (nnB B) (nI (vrB B))) 183 (nnB B) NONE) := hG
  have g : gI (sI (sI M 182 (nnB B) (nI (vrB B))) 183 (nnB B) NONE) 171 32 = nI (nnB B) := by rw [gI_ne (by omega), gI_ne (by omega)]; exact h32
  rw [q180_281, if_pos o, if_pos o, gr_171_15 hG, if_pos (wk_182 hG hn), hv, bM_d, nI_clamp (by omega), if_pos (ok_171 hG1), gr_171_16 hG1, if_pos (wk_183 hG1 hn), bM_d, if_pos (ok_171 hG2), if_pos (ok_171 hG2), g, bM_d, nI_1]
def LM (N : Mm) (i so bu ac fi se : Nat) : Prop := gI N 177 i = nI so ∧ gI N 178 i = optI bu ∧ gI N 179 i = nI ac ∧ gI N 180 i = nI fi ∧ gI N 181 i = nI se
theorem m_lineEnd {d p so bu ac fi se mk : Nat} {M : Mm} {T : Tp} {B : Bk} {g : Nat → Bool} {w2 : Int64} {v4 : Value} (hC : MCx M T B) (hN : NM M B) (hn : nnB B < 24) (h : TkM M T p) (h0 : gI M 171 28 = 0) (hL : LM M (nnB B) so bu ac fi se) (hS : SAI M (8 + nnB B) g) (hm : gI M 186 (8 + nnB B) = nI mk) : ∃ N, go (d + 1) 180 281 [.ref 171, .int (nI (nnB B)), .long w2, .null, v4, .null] [] M = some (none, N) ∧ Sm (Rm (nmB B) (nlB B) (nnB B)) NoL M N ∧ MR T N (.inr (p, lnB B (fldF so bu ac fi se mk (vrB B)) g)) := by
  have hP := hC.2.2.2
  have ne : ∀ r k, ¬ (r = 182 ∧ k = nnB B) → ¬ (r = 183 ∧ k = nnB B) → ¬ (r = 171 ∧ k = 32) → gI (sI (sI (sI M 182 (nnB B) (nI (vrB B))) 183 (nnB B) NONE) 171 32 (nI (nnB B + 1))) r k = gI M r k := fun r k a b c => by rw [gI_ne c, gI_ne b, gI_ne a]
  refine ⟨_, m281 hC hN.2.2.1 hn, Sm_trans (Sm_sI (by unfold Rm; omega)) (Sm_trans (Sm_sI (by unfold Rm; omega)) (Sm_sI (by unfold Rm; omega))), TkM_ne h (fun k _ _ => ne _ _ (by omega) (by omega) (by omega)), by rw [ne _ _ (by omega) (by omega) (by omega)]; exact h0, ?_⟩
  obtain ⟨b1, b2, b3, b4, b5, b6, b7⟩ := hN
  obtain ⟨l1, l2, l3, l4, l5⟩ := hL
  refine ⟨by rw [ne _ _ (by omega) (by omega) (by omega)]; exact b1, by rw [ne _ _ (by omega) (by omega) (by omega)]; exact b2, gI_at, fun j hj => ?_, fun i hi => ?_, fun l hl => ?_, fun i hi => ?_⟩
  · rw [ne _ _ (by omega) (by omega) (by omega), ne _ _ (by omega) (by omega) (by omega), lnB_l _ _ _ _ _ (by omega) (by omega), lnB_l _ _ _ _ _ (by omega) (by omega)]; exact b4 j hj
  · have hi' : i < nnB B + 1 := hi
    rw [lnB_x _ _ _ _ _ (by omega) (by omega), lnB_x _ _ _ _ _ (by omega) (by omega), lnB_x _ _ _ _ _ (by omega) (by omega), lnB_x _ _ _ _ _ (by omega) (by omega), lnB_x _ _ _ _ _ (by omega) (by omega), lnB_x _ _ _ _ _ (by omega) (by omega), lnB_x _ _ _ _ _ (by omega) (by omega), lnB_x _ _ _ _ _ (by omega) (by omega)]
    rw [ne 177 i (by omega) (by omega) (by omega), ne 178 i (by omega) (by omega) (by omega), ne 179 i (by omega) (by omega) (by omega), ne 180 i (by omega) (by omega) (by omega), ne 181 i (by omega) (by omega) (by omega), ne 186 (8 + i) (by omega) (by omega) (by omega)]
    by_cases e : i = nnB B
    · subst e
      simp only [if_true]
      exact ⟨l1, l2, l3, l4, l5, hm, by rw [gI_ne (by omega), gI_ne (by omega), gI_at]; rfl, by rw [gI_ne (by omega), gI_at]; rfl⟩
    · simp only [if_neg e]
      rw [ne 182 i (by omega) (by omega) (by omega), ne 183 i (by omega) (by omega) (by omega)]
      exact b5 i (by omega)
  · exact SAI_at (b6 l hl) (ne _ _ (by omega) (by omega) (by omega)) (fun i _ => ne _ _ (by omega) (by omega) (by omega))
  · show SAI _ (8 + i) (if i = nnB B then g else B.2.2 i)
    have hi' : i < nnB B + 1 := hi
    by_cases e : i = nnB B
    · subst e
      rw [if_pos rfl]
      exact SAI_at hS (ne _ _ (by omega) (by omega) (by omega)) (fun i _ => ne _ _ (by omega) (by omega) (by omega))
    · rw [if_neg e]
      exact SAI_at (b7 i (by omega)) (ne _ _ (by omega) (by omega) (by omega)) (fun i _ => ne _ _ (by omega) (by omega) (by omega))
noncomputable def X6 (d nn : Nat) (w2 : Int64) (v4 : Value) (M6 : Mm) : Oo := if okO M6 171 12 = true then if wOK M6 (gR M6 171 18) 0 ((8 : Int32) + nI nn) = true then bM (sI M6 (gR M6 171 18) ((8 : Int32) + nI nn).toNatClampNeg (0 : Int32)) fun M7 => if okO M7 171 12 = true then if wOK M7 (gR M7 171 19) 0 ((8 : Int32) + nI nn) = true then bM (sI M7 (gR M7 171 19) ((8 : Int32) + nI nn).toNatClampNeg (0 : Int32)) fun M8 => if okO M8 171 12 = true then if (gI M8 171 28) = 0 then if okO M8 171 12 = true then bL (go (d + 5) 170 0 [.ref 171, .null, .null, .null] [] M8) fun y10 M9 => if (lg_cmp y10 (26982 : Int64)) = 0 then if okO M9 171 12 = true then bV (go (d + 5) 166 0 [.ref 171, .null] [] M9) fun M11 => if okO M11 171 12 = true then bV (go (d + 5) 178 0 [.ref 171, .int ((8 : Int32) + nI nn), .null, .null, .null] [] M11) fun M12 => go (d + 6) 180 281 [.ref 171, .int (nI nn), .long w2, .null, v4, .null] [] M12 else none else none else go (d + 6) 180 281 [.ref 171, .int (nI nn), .long w2, .null, v4, .null] [] M9 else none else go (d + 6) 180 281 [.ref 171, .int (nI nn), .long w2, .null, v4, .null] [] M8 else none else none else none else none else none
theorem FtM_R {M N : Mm} {T : Nat → Nat → Prop} {f pl : Nat} (h : FtM M f pl) (hS : Sm T NoL M N) (h1 : ¬ T 171 28) (h2 : ¬ T 171 29) : FtM N f pl := FtM_ne h (hS.2.2.1 _ _ h1) (hS.2.2.1 _ _ h2)
theorem X6F {d f pl : Nat} {M : Mm} {T : Tp} {B : Bk} {w2 : Int64} {v4 : Value} (hC : MCx M T B) (h32 : gI M 171 32 = nI (nnB B)) (hn : nnB B < 24) (h : FtM M f pl) : ∃ N, X6 d (nnB B) w2 v4 M = some (none, N) ∧ Sm (Rm (nmB B) (nlB B) (nnB B)) NoL M N ∧ FtM N f pl := by
  obtain ⟨hG, hT, hv, hP⟩ := id hC
  have o := ok_171 hG
  have e8 : (8 : Int32) + nI (nnB B) = nI (8 + nnB B) := by rw [show (8 : Int32) = nI 8 from rfl, nI_add]
  have hG7 : Gd (sI M 185 (8 + nnB B) 0) := hG
  have hG8 : Gd (sI (sI M 185 (8 + nnB B) 0) 186 (8 + nnB B) 0) := hG
  have S8 : Sm (Rm (nmB B) (nlB B) (nnB B)) NoL M (sI (sI M 185 (8 + nnB B) 0) 186 (8 + nnB B) 0) := Sm_trans (Sm_sI (by unfold Rm; omega)) (Sm_sI (by unfold Rm; omega))
  have f8 : FtM (sI (sI M 185 (8 + nnB B) 0) 186 (8 + nnB B) 0) f pl := FtM_ne h (by rw [gI_ne (by omega), gI_ne (by omega)]) (by rw [gI_ne (by omega), gI_ne (by omega)])
  have hC8 := MCx_R hC S8
  refine ⟨sI (sI (sI (sI (sI M 185 (8 + nnB B) 0) 186 (8 + nnB B) 0) 182 (nnB B) (nI (vrB B))) 183 (nnB B) NONE) 171 32 (nI (nnB B + 1)), ?_, Sm_trans S8 (Sm_trans (Sm_sI (by unfold Rm; omega)) (Sm_trans (Sm_sI (by unfold Rm; omega)) (Sm_sI (by unfold Rm; omega)))), FtM_ne f8 (by rw [gI_ne (by omega), gI_ne (by omega), gI_ne (by omega)]) (by rw [gI_ne (by omega), gI_ne (by omega), gI_ne (by omega)])⟩
  unfold X6
  rw [if_pos o, e8, gr_171_18 hG, if_pos (wk_185 hG (by omega)), bM_d, nI_clamp (by omega), if_pos (ok_171 hG7), gr_171_19 hG7, if_pos (wk_186 hG7 (by omega)), bM_d, if_pos (ok_171 hG8), if_neg (FtM_n f8)]
  exact m281 (d := d + 5) hC8 (by rw [gI_ne (by omega), gI_ne (by omega)]; exact h32) hn
theorem X6N {d p so bu ac fi se : Nat} {M : Mm} {T : Tp} {B : Bk} {w2 : Int64} {v4 : Value} (hC : MCx M T B) (hN : NM M B) (hn : nnB B < 24) (hp : p ≤ T.1) (h : TkM M T p) (h0 : gI M 171 28 = 0) (hL : LM M (nnB B) so bu ac fi se) : ∃ N, X6 d (nnB B) w2 v4 M = some (none, N) ∧ Sm (Rm (nmB B) (nlB B) (nnB B)) NoL M N ∧ MR T N (rbn (ifF T (nmB B) p) fun c => .inr (c.2.2, lnB B (fldF so bu ac fi se c.1 (vrB B)) c.2.1)) := by
  obtain ⟨hG, hT, hv, hP⟩ := id hC
  have o := ok_171 hG
  have e8 : (8 : Int32) + nI (nnB B) = nI (8 + nnB B) := by rw [show (8 : Int32) = nI 8 from rfl, nI_add]
  have hG7 : Gd (sI M 185 (8 + nnB B) 0) := hG
  have hG8 : Gd (sI (sI M 185 (8 + nnB B) 0) 186 (8 + nnB B) 0) := hG
  have S8 : Sm (Rm (nmB B) (nlB B) (nnB B)) NoL M (sI (sI M 185 (8 + nnB B) 0) 186 (8 + nnB B) 0) := Sm_trans (Sm_sI (by unfold Rm; omega)) (Sm_sI (by unfold Rm; omega))
  have hC8 := MCx_R hC S8
  have ne : ∀ r k, ¬ (r = 185 ∧ k = 8 + nnB B) → ¬ (r = 186 ∧ k = 8 + nnB B) → gI (sI (sI M 185 (8 + nnB B) 0) 186 (8 + nnB B) 0) r k = gI M r k := fun r k a b => by rw [gI_ne b, gI_ne a]
  have hN8 : NM (sI (sI M 185 (8 + nnB B) 0) 186 (8 + nnB B) 0) B := NM_R hN S8 hP (ne _ _ (by omega) (by omega)) (ne _ _ (by omega) (by omega)) (ne _ _ (by omega) (by omega))
  have t8 : TkM (sI (sI M 185 (8 + nnB B) 0) 186 (8 + nnB B) 0) T p := TkM_ne h (fun k _ _ => ne _ _ (by omega) (by omega))
  have z8 : gI (sI (sI M 185 (8 + nnB B) 0) 186 (8 + nnB B) 0) 171 28 = 0 := (ne _ _ (by omega) (by omega)).trans h0
  have w := m_word (d := d + 4) hG8 hC8.2.1 hp t8
  have e17 := wv_is (T := T) (p := p) (i := 17) (c := 26982) hp (by omega) rfl
  have hL8 : LM (sI (sI M 185 (8 + nnB B) 0) 186 (8 + nnB B) 0) (nnB B) so bu ac fi se := by
    obtain ⟨l1, l2, l3, l4, l5⟩ := hL
    exact ⟨by rw [ne _ _ (by omega) (by omega)]; exact l1, by rw [ne _ _ (by omega) (by omega)]; exact l2, by rw [ne _ _ (by omega) (by omega)]; exact l3, by rw [ne _ _ (by omega) (by omega)]; exact l4, by rw [ne _ _ (by omega) (by omega)]; exact l5⟩
  unfold ifF
  by_cases hw : tkW T p = tx 17
  · rw [if_pos hw]
    have ge := tkE_gt hp (by rw [tkW_k hw (by omega)]; omega)
    obtain ⟨N1, a1, a2, a3⟩ := m_next (d := d + 3) hG8 hC8.2.1 hp t8
    have hC1 := MCx_d hC8 a2
    have hN1 := NM_d hN8 a2 hP
    have z1 : gI N1 171 28 = 0 := (a2.2.2.1 _ _ (by unfold Sd; omega)).trans z8
    have hX : MX N1 T (nmB B) (8 + nnB B) := ⟨hC1.1, hC1.2.1, hN1.1, hP.1, by omega⟩
    obtain ⟨N2, b1, b2, b3⟩ := m_readSaying (d := d) (G := gI N1 171 29) hX ge.2 (by omega) a3 z1 rfl
    have S2 : Sm (Rm (nmB B) (nlB B) (nnB B)) NoL M N2 := Sm_trans S8 (Sm_trans (Rm_d a2) (Rm_v b2 (Or.inr rfl)))
    have hC2 := MCx_R hC S2
    have st : X6 d (nnB B) w2 v4 M = go (d + 6) 180 281 [.ref 171, .int (nI (nnB B)), .long w2, .null, v4, .null] [] N2 := by
      unfold X6
      rw [if_pos o, e8, gr_171_18 hG, if_pos (wk_185 hG (by omega)), bM_d, nI_clamp (by omega), if_pos (ok_171 hG7), gr_171_19 hG7, if_pos (wk_186 hG7 (by omega)), bM_d, if_pos (ok_171 hG8), z8, if_pos rfl, if_pos (ok_171 hG8), w, bL_s, if_pos (e17.mpr hw), if_pos (ok_171 hG8), a1, bV_s, if_pos (ok_171 hC1.1), b1, bV_s]
    have n32 : gI N2 171 32 = nI (nnB B) := (b2.2.2.1 _ _ (by unfold Sv; omega)).trans hN1.2.2.1
    rw [st]
    have hok := sa_ok (T := T) hP.1 5 (tkE T p) 0 ge.2 (by omega)
    cases hr : saF T (nmB B) 5 (tkE T p) 0 with
    | inl x =>
      obtain ⟨f, pl⟩ := x
      rw [hr] at b3
      refine ⟨_, m281 (d := d + 5) hC2 n32 hn, Sm_trans S2 (Sm_trans (Sm_sI (by unfold Rm; omega)) (Sm_trans (Sm_sI (by unfold Rm; omega)) (Sm_sI (by unfold Rm; omega)))), FtM_ne b3 (by rw [gI_ne (by omega), gI_ne (by omega), gI_ne (by omega)]) (by rw [gI_ne (by omega), gI_ne (by omega), gI_ne (by omega)])⟩
    | inr x =>
      obtain ⟨p', k', c⟩ := x
      rw [hr] at b3 hok
      obtain ⟨s1, s2, s3, s4, s5, s6⟩ := hok
      have hev := sa_ev hP.1 hr
      obtain ⟨q0, q1, q2, q3, q4, q5, q6, q7, q8, q9⟩ := b3
      have hlen : c.length ≤ 100 := by omega
      have hS2 : SAI N2 (8 + nnB B) (evC c) := ⟨c, hlen, q7, q8, s6, Or.inr hev⟩
      have hN2 : NM N2 B := NM_R hN1 (Rm_v b2 (Or.inr rfl)) hP (b2.2.2.1 _ _ (by unfold Sv; omega)) (b2.2.2.1 _ _ (by unfold Sv; omega)) (b2.2.2.1 _ _ (by unfold Sv; omega))
      have hL2 : LM N2 (nnB B) so bu ac fi se := by
        obtain ⟨l1, l2, l3, l4, l5⟩ := hL8
        have q : ∀ r, 177 ≤ r → r ≤ 181 → gI N2 r (nnB B) = gI (sI (sI M 185 (8 + nnB B) 0) 186 (8 + nnB B) 0) r (nnB B) := fun r hr1 hr2 => by rw [b2.2.2.1 _ _ (by unfold Sv; omega), a2.2.2.1 _ _ (by unfold Sd; omega)]
        exact ⟨by rw [q _ (by omega) (by omega)]; exact l1, by rw [q _ (by omega) (by omega)]; exact l2, by rw [q _ (by omega) (by omega)]; exact l3, by rw [q _ (by omega) (by omega)]; exact l4, by rw [q _ (by omega) (by omega)]; exact l5⟩
      obtain ⟨N3, c1, c2, c3⟩ := m_lineEnd (d := d + 5) (w2 := w2) (v4 := v4) hC2 hN2 hn q1 q2 hL2 hS2 q9
      exact ⟨N3, c1, Sm_trans S2 c2, c3⟩
  · rw [if_neg hw]
    have hS8 : SAI (sI (sI M 185 (8 + nnB B) 0) 186 (8 + nnB B) 0) (8 + nnB B) (fun _ => true) := ⟨[], by simp, by rw [gI_ne (by omega), gI_at]; rfl, fun i hi => (by cases hi), fun t ht => (by cases ht), Or.inl ⟨rfl, fun _ _ => rfl⟩⟩
    obtain ⟨N3, c1, c2, c3⟩ := m_lineEnd (d := d + 5) (mk := 0) (w2 := w2) (v4 := v4) hC8 hN8 hn t8 z8 hL8 hS8 gI_at
    refine ⟨N3, ?_, Sm_trans S8 c2, c3⟩
    unfold X6
    rw [if_pos o, e8, gr_171_18 hG, if_pos (wk_185 hG (by omega)), bM_d, nI_clamp (by omega), if_pos (ok_171 hG7), gr_171_19 hG7, if_pos (wk_186 hG7 (by omega)), bM_d, if_pos (ok_171 hG8), z8, if_pos rfl, if_pos (ok_171 hG8), w, bL_s, if_neg (fun z => hw (e17.mp z))]
    exact c1
