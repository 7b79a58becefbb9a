/-! ===== the model reads a statement: all of it ===== -/
theorem m162N {d p : Nat} {M : Mm} {T : Tp} {B : Bk} {b : Bool} (hC : MCx M T B) (hW : WB B) (hN : NM M B) (hp : p ≤ T.1) (h : TkM M T p) (h0 : gI M 171 28 = 0) (hb : b = true ↔ (tkW T p = tx 0 ∨ tkW T p = tx 5 ∨ tkW T p = tx 9)) (c1 : tkW T p = tx 0 → nmB B < 10) (c2 : tkW T p = tx 5 → nlB B < 8) (c3 : tkW T p = tx 9 → nnB B < 24) : ∃ N, go (d + 7) 181 162 [.ref 171, .long (wvL (tkW T p)), .null] [.int (b2i b), .ref 171] M = go (d + 7) 181 56 [.ref 171, .long (wvL (tkW T p)), .null] [] N ∧ Sm (Rm (nmB B) (nlB B) (nnB B)) NoL M N ∧ MR T N (stF T B p) := by
  obtain ⟨hG, hT, hv, hP⟩ := id hC
  have o := ok_171 hG
  have e0 := wv_is (T := T) (p := p) (i := 0) (c := 1835102827) hp (by omega) rfl
  have e5 := wv_is (T := T) (p := p) (i := 5) (c := 7102839) hp (by omega) rfl
  have e9 := wv_is (T := T) (p := p) (i := 9) (c := 1818848869) hp (by omega) rfl
  cases b with
  | false =>
    have nb : ¬ (tkW T p = tx 0 ∨ tkW T p = tx 5 ∨ tkW T p = tx 9) := fun z => by cases hb.mpr z
    have n0 : tkW T p ≠ tx 0 := fun z => nb (Or.inl z)
    have n5 : tkW T p ≠ tx 5 := fun z => nb (Or.inr (Or.inl z))
    have n9 : tkW T p ≠ tx 9 := fun z => nb (Or.inr (Or.inr z))
    obtain ⟨N, a1, a2, a3⟩ := m_must0 (d := d + 3) hG hp hT.1 h h0
    have o1 := ok_171 (Gd_Sm a2 hG)
    have n := FtM_n a3
    refine ⟨N, ?_, Rm_e a2, ?_⟩
    · have a1' : go (d + 6) 168 0 [.ref 171, .int (b2i false)] [] M = some (none, N) := a1
      rw [q181_162, if_pos o, a1', bV_s, if_pos o1, if_neg n, if_pos o1, if_neg n, if_pos o1, if_neg n, q181_234, if_pos o1, if_neg n]
    · unfold stF
      rw [if_neg n0, if_neg n5, if_neg n9]
      exact a3
  | true =>
    have hb' := hb.mp rfl
    have hk1 : tkK T p = 1 := by
      rcases hb' with z | z | z
      · exact tkW_k z (by omega)
      · exact tkW_k z (by omega)
      · exact tkW_k z (by omega)
    have ge := tkE_gt hp (by omega)
    obtain ⟨N1, a1, a2, a3, a4⟩ := m_must1 (d := d + 3) hG hT hp h h0
    have a1' : go (d + 6) 168 0 [.ref 171, .int (b2i true)] [] M = some (none, N1) := a1
    have hC1 := MCx_d hC a2
    have hN1 := NM_d hN a2 hP
    have o1 := ok_171 hC1.1
    by_cases h0w : tkW T p = tx 0
    · have hnm := c1 h0w
      obtain ⟨N2, b1, b2, b3⟩ := m_readMark (d := d + 1) hC1 hN1 hnm ge.2 a3 a4
      have hC2 := MCx_R hC1 b2
      obtain ⟨N3, g1, g2, g3⟩ := m234 (d := d + 3) (B := B) (w1 := wvL (tkW T p)) hC2.1 hC2.2.1 b3 (fun p1 B1 z => by obtain ⟨-, y2, y3, -⟩ := mk_ok hW ge.2 hnm z; exact ⟨y2, y3.1⟩)
      refine ⟨N3, ?_, Sm_trans (Rm_d a2) (Sm_trans b2 (Rm_e g2)), ?_⟩
      · rw [q181_162, if_pos o, a1', bV_s, if_pos o1, if_pos a4, if_pos (e0.mpr h0w), if_pos o1, b1, bV_s]
        exact g1
      · unfold stF
        rw [if_pos h0w, mk_2 (by omega)]
        exact g3
    · by_cases h5w : tkW T p = tx 5
      · have hnl := c2 h5w
        have hX : MX N1 T (nmB B) (nlB B) := ⟨hC1.1, hC1.2.1, hN1.1, hP.1, by omega⟩
        obtain ⟨N2, b1, b2, b3⟩ := m_readSaying (d := d + 1) (G := gI N1 171 29) hX ge.2 (by omega) a3 a4 rfl
        have S2 : Sm (Rm (nmB B) (nlB B) (nnB B)) NoL N1 N2 := Rm_v b2 (Or.inl ⟨rfl, hnl⟩)
        have hC2 := MCx_R hC1 S2
        have o2 := ok_171 hC2.1
        have n31 : gI N2 171 31 = nI (nlB B) := (b2.2.2.1 _ _ (by unfold Sv; omega)).trans hN1.2.1
        have hG3 : Gd (sI N2 171 31 (nI (nlB B + 1))) := hC2.1
        have S3 : Sm (Rm (nmB B) (nlB B) (nnB B)) NoL N1 (sI N2 171 31 (nI (nlB B + 1))) := Sm_trans S2 (Sm_sI (by unfold Rm; omega))
        have hC3 := MCx_R hC1 S3
        have hN2 : NM N2 B := NM_R hN1 S2 hP (b2.2.2.1 _ _ (by unfold Sv; omega)) (b2.2.2.1 _ _ (by unfold Sv; omega)) (b2.2.2.1 _ _ (by unfold Sv; omega))
        have hMR : MR T (sI N2 171 31 (nI (nlB B + 1))) (lw2 T B (tkE T p)) := by
          unfold lw2
          have hok := sa_ok (T := T) hP.1 5 (tkE T p) 0 ge.2 (by omega)
          cases hr : saF T (nmB B) 5 (tkE T p) 0 with
          | inl x =>
            obtain ⟨f, pl⟩ := x
            rw [hr] at b3
            exact FtM_ne b3 (gI_ne (by omega)) (gI_ne (by omega))
          | inr x =>
            obtain ⟨p', k', c⟩ := x
            rw [hr] at b3 hok
            obtain ⟨s1, s2, s3, s4, s5, s6⟩ := hok
            have hev := sa_ev hP.1 hr
            obtain ⟨q0, q1, q2, q3, q4, q5, q6, q7, q8, q9⟩ := b3
            have hlen : c.length ≤ 100 := by omega
            have hS2 : SAI N2 (nlB B) (evC c) := ⟨c, hlen, q7, q8, s6, Or.inr hev⟩
            refine ⟨TkM_ne q1 (fun k _ _ => gI_ne (by omega)), (gI_ne (by omega)).trans q2, ?_⟩
            obtain ⟨y1, y2, y3, y4, y5, y6, y7⟩ := hN2
            refine ⟨(gI_ne (by omega)).trans y1, gI_at, (gI_ne (by omega)).trans y3, fun j hj => ?_, fun i hi => ?_, fun l hl => ?_, fun i hi => ?_⟩
            · rw [gI_ne (by omega), gI_ne (by omega), lwB_x _ _ _ _ (by omega), lwB_x _ _ _ _ (by omega)]; exact y4 j hj
            · rw [gI_ne (by omega), gI_ne (by omega), gI_ne (by omega), gI_ne (by omega), gI_ne (by omega), gI_ne (by omega), gI_ne (by omega), gI_ne (by omega), lwB_x _ _ _ _ (by omega), lwB_x _ _ _ _ (by omega), lwB_x _ _ _ _ (by omega), lwB_x _ _ _ _ (by omega), lwB_x _ _ _ _ (by omega), lwB_x _ _ _ _ (by omega), lwB_x _ _ _ _ (by omega), lwB_x _ _ _ _ (by omega)]; exact y5 i hi
            · show SAI _ l (if l = nlB B then evC c else B.2.1 l)
              have hl' : l < nlB B + 1 := hl
              by_cases e : l = nlB B
              · subst e
                rw [if_pos rfl]
                exact SAI_at hS2 (gI_ne (by omega)) (fun i _ => gI_ne (by omega))
              · rw [if_neg e]
                exact SAI_at (y6 l (by omega)) (gI_ne (by omega)) (fun i _ => gI_ne (by omega))
            · exact SAI_at (y7 i hi) (gI_ne (by omega)) (fun i _ => gI_ne (by omega))
        obtain ⟨N3, g1, g2, g3⟩ := m234 (d := d + 3) (B := B) (w1 := wvL (tkW T p)) hG3 hC3.2.1 hMR (fun p1 B1 z => by obtain ⟨-, y2, y3, -⟩ := lw_ok hW ge.2 hnl z; exact ⟨y2, y3.1⟩)
        refine ⟨N3, ?_, Sm_trans (Rm_d a2) (Sm_trans S3 (Rm_e g2)), ?_⟩
        · rw [q181_162, if_pos o, a1', bV_s, if_pos o1, if_pos a4, if_neg (fun z => h0w (e0.mp z)), if_pos o1, if_pos a4, if_pos (e5.mpr h5w), if_pos o1, if_pos o1, hN1.2.1, b1, bV_s, if_pos o2, if_pos o2, n31, bM_d, nI_1]
          exact g1
        · unfold stF
          rw [if_neg h0w, if_pos h5w, lw_2 (by omega)]
          exact g3
      · have h9w : tkW T p = tx 9 := by
          rcases hb' with z | z | z
          · exact absurd z h0w
          · exact absurd z h5w
          · exact z
        have hnn := c3 h9w
        obtain ⟨N2, b1, b2, b3⟩ := m_readLine (d := d) hC1 hN1 hnn ge.2 a3 a4
        have hC2 := MCx_R hC1 b2
        obtain ⟨N3, g1, g2, g3⟩ := m234 (d := d + 3) (B := B) (w1 := wvL (tkW T p)) hC2.1 hC2.2.1 b3 (fun p1 B1 z => by obtain ⟨-, y2, y3, -⟩ := ln_ok hW ge.2 hnn z; exact ⟨y2, y3.1⟩)
        refine ⟨N3, ?_, Sm_trans (Rm_d a2) (Sm_trans b2 (Rm_e g2)), ?_⟩
        · rw [q181_162, if_pos o, a1', bV_s, if_pos o1, if_pos a4, if_neg (fun z => h0w (e0.mp z)), if_pos o1, if_pos a4, if_neg (fun z => h5w (e5.mp z)), if_pos o1, if_pos a4, if_pos o1, b1, bV_s]
          exact g1
        · unfold stF
          rw [if_neg h0w, if_neg h5w, if_pos h9w, ln_2 (by omega)]
          exact g3
theorem m_stmt {d p : Nat} {M : Mm} {T : Tp} {B : Bk} {v1 : Value} (hC : MCx M T B) (hW : WB B) (hN : NM M B) (hp : p ≤ T.1) (h : TkM M T p) (h0 : gI M 171 28 = 0) (hk : tkK T p ≠ 0) : ∃ v2 N, go (d + 7) 181 56 [.ref 171, v1, .null] [] M = go (d + 7) 181 56 [.ref 171, v2, .null] [] N ∧ Sm (Rm (nmB B) (nlB B) (nnB B)) NoL M N ∧ MR T N (stF T B p) := by
  obtain ⟨hG, hT, hv, hP⟩ := id hC
  have o := ok_171 hG
  have e0 := wv_is (T := T) (p := p) (i := 0) (c := 1835102827) hp (by omega) rfl
  have e5 := wv_is (T := T) (p := p) (i := 5) (c := 7102839) hp (by omega) rfl
  have e9 := wv_is (T := T) (p := p) (i := 9) (c := 1818848869) hp (by omega) rfl
  have w := m_word (d := d + 5) hG hT hp h
  have k25 := h.2.2.2
  have e1 : nI (mkd (tkK T p)) = (1 : Int32) ↔ tkK T p = 0 := em1
  have t10 : nI (nmB B) = (10 : Int32) ↔ nmB B = 10 := by rw [show (10 : Int32) = nI 10 from rfl]; exact nI_eq (by have := hP.1; omega) (by omega)
  have t8 : nI (nlB B) = (8 : Int32) ↔ nlB B = 8 := by rw [show (8 : Int32) = nI 8 from rfl]; exact nI_eq (by have := hP.2.1; omega) (by omega)
  have t24 : nI (nnB B) = (24 : Int32) ↔ nnB B = 24 := by rw [show (24 : Int32) = nI 24 from rfl]; exact nI_eq (by have := hP.2.2.1; omega) (by omega)
  obtain ⟨Nf, f1, f2, f3, f4⟩ := m_full (d := d + 3) hG hT hp h h0
  obtain ⟨b, hb, e⟩ := m132 (d := d + 6) (M := M) (T := T) hp
  have K := fun c1 c2 c3 => m162N (d := d) hC hW hN hp h h0 hb c1 c2 c3
  have go1 : (tkW T p = tx 0 → nmB B < 10) → (tkW T p = tx 5 → nlB B < 8) → (tkW T p = tx 9 → nnB B < 24) → ∃ v2 N, go (d + 7) 181 132 [.ref 171, .long (wvL (tkW T p)), .null] [] M = go (d + 7) 181 56 [.ref 171, v2, .null] [] N ∧ Sm (Rm (nmB B) (nlB B) (nnB B)) NoL M N ∧ MR T N (stF T B p) := fun c1 c2 c3 => by
    obtain ⟨N, a1, a2, a3⟩ := K c1 c2 c3
    exact ⟨_, N, e.trans a1, a2, a3⟩
  rw [q181_56, if_pos o, if_pos h0, if_pos o, k25, if_neg (fun z => hk (e1.mp z)), if_pos o, w, bL_s]
  by_cases h0w : tkW T p = tx 0
  · have n5 : tkW T p ≠ tx 5 := by rw [h0w]; decide
    have n9 : tkW T p ≠ tx 9 := by rw [h0w]; decide
    rw [if_pos (e0.mpr h0w), if_pos o, hN.1]
    by_cases c : nmB B = 10
    · rw [if_pos (t10.mpr c), if_pos o, f1, bV_s]
      refine ⟨_, Nf, f4, Rm_e f2, ?_⟩
      unfold stF mkF
      rw [if_pos h0w, if_pos (by omega)]
      exact f3
    · rw [if_neg (fun z => c (t10.mp z)), q181_93, if_neg (fun z => n5 (e5.mp z)), if_neg (fun z => n9 (e9.mp z))]
      exact go1 (fun _ => by have := hP.1; omega) (fun z => absurd z n5) (fun z => absurd z n9)
  · rw [if_neg (fun z => h0w (e0.mp z)), q181_93]
    by_cases h5w : tkW T p = tx 5
    · have n9 : tkW T p ≠ tx 9 := by rw [h5w]; decide
      rw [if_pos (e5.mpr h5w), if_pos o, hN.2.1]
      by_cases c : nlB B = 8
      · rw [if_pos (t8.mpr c), if_pos o, f1, bV_s]
        refine ⟨_, Nf, f4, Rm_e f2, ?_⟩
        unfold stF lwF
        rw [if_neg h0w, if_pos h5w, if_pos (by omega)]
        exact f3
      · rw [if_neg (fun z => c (t8.mp z)), if_neg (fun z => n9 (e9.mp z))]
        exact go1 (fun z => absurd z h0w) (fun _ => by have := hP.2.1; omega) (fun z => absurd z n9)
    · rw [if_neg (fun z => h5w (e5.mp z))]
      by_cases h9w : tkW T p = tx 9
      · rw [if_pos (e9.mpr h9w), if_pos o, hN.2.2.1]
        by_cases c : nnB B = 24
        · rw [if_pos (t24.mpr c), if_pos o, f1, bV_s]
          refine ⟨_, Nf, f4, Rm_e f2, ?_⟩
          unfold stF lnF
          rw [if_neg h0w, if_neg h5w, if_pos h9w, if_pos (by omega)]
          exact f3
        · rw [if_neg (fun z => c (t24.mp z))]
          exact go1 (fun z => absurd z h0w) (fun z => absurd z h5w) (fun _ => by have := hP.2.2.1; omega)
      · rw [if_neg (fun z => h9w (e9.mp z))]
        exact go1 (fun z => absurd z h0w) (fun z => absurd z h5w) (fun z => absurd z h9w)
