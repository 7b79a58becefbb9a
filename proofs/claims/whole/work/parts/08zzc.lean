/-! ===== reading to the end ===== -/
theorem TAP_T {M : Mm} (h : TAP M) : ∃ T : Tp, TPC M T ∧ gI M 171 21 = nI T.1 ∧ ∀ k, k < T.1 → gI M 187 k = nI (T.2 k) := by
  obtain ⟨n, h1, h2, h3, h4⟩ := h
  have e : ∀ k, k < n → ∃ v, v < 256 ∧ (gI M 187 k).toNatClampNeg = v ∧ gI M 4 k = byI v ∧ gI M 187 k = nI v := fun k hk => by
    obtain ⟨v, v1, v2, v3⟩ := h4 k hk
    exact ⟨v, v1, by rw [v3, nI_clamp (by omega)], v2, v3⟩
  refine ⟨(n, fun k => (gI M 187 k).toNatClampNeg), ⟨h1, h2, fun k hk => ?_⟩, h3, fun k hk => ?_⟩
  · obtain ⟨v, v1, v2, v3, v4⟩ := e k hk
    show (gI M 187 k).toNatClampNeg < 256 ∧ gI M 4 k = byI (gI M 187 k).toNatClampNeg
    rw [v2]; exact ⟨v1, v3⟩
  · obtain ⟨v, v1, v2, v3, v4⟩ := e k hk
    show gI M 187 k = nI (gI M 187 k).toNatClampNeg
    rw [v2]; exact v4
theorem BK_NC {M N : Mm} {B : Bk} (hB : BK M B) (hS : Sm (Rc (nmB B) (nnB B)) (Rl (nlB B) (nnB B)) M N) (h5 : gI N 98 5 = nI (nmB B)) (h6 : gI N 98 6 = nI (nlB B)) (h7 : gI N 98 7 = nI (nnB B)) : NC N B := by
  have hn := BK_nn hB
  obtain ⟨-, hT, hL, ⟨-, -, hD3, hD4, -, -⟩, -⟩ := hB
  refine ⟨h5, h6, h7, fun j hj => ?_, fun i hi => ?_, fun l hl k hk => ?_, fun i hi k hk => ?_⟩
  · obtain ⟨-, -, t1, -, t2, -⟩ := hT j hj
    rw [hS.2.2.1 _ _ (by unfold Rc; omega), hS.2.2.1 _ _ (by unfold Rc; omega)]; exact ⟨t1, t2⟩
  · have q : ∀ k, gI N (26 + 3 * i) k = gI M (26 + 3 * i) k := fun k => hS.2.2.1 _ _ (by unfold Rc; omega)
    obtain ⟨-, -, -, -, -, -, -, -, -, -, m0, m1, m2, m3, m4, m5, m6, m7, -⟩ := hL i hi
    rw [q, q, q, q, q, q, q, q]; exact ⟨m0, m1, m2, m3, m4, m5, m6, m7⟩
  · rw [hS.2.2.2 _ (by unfold Rl; omega)]; exact hD3 l hl k hk
  · rw [hS.2.2.2 _ (by unfold Rl; omega)]; exact hD4 i hi k hk
theorem BK_WB {M : Mm} {B : Bk} (hB : BK M B) : WB B := by
  have hn := BK_nn hB
  obtain ⟨-, hT, hL, -, -, -, -, hE⟩ := hB
  refine ⟨hn, fun j hj => ⟨(hT j hj).1, (hT j hj).2.1⟩, fun i hi => ?_⟩
  obtain ⟨l1, l2, l3, l4, l5, l6, l7, l8, l9, -⟩ := hL i hi
  obtain ⟨e1, e2⟩ := hE i hi
  refine ⟨l1, l2, l3, l4, l5, l6, l7, fun z => ⟨?_, e1⟩, fun z => (optI_none (by omega)).mp (l9 z), e2⟩
  obtain ⟨b, b1, b2⟩ := l8 z
  apply Nat.pos_of_ne_zero
  intro z0
  simp only at b2
  rw [z0] at b2
  exact none_ne (n := b) (by omega) b2
theorem c_beginR {d : Nat} {E M : Mm} {T : Tp} {B : Bk} (hG : Gd M) (hX : EXT E M) (hE : TXT E) (hT : TPC M T) (hB : BK M B) : ∃ N, go (d + 4) 78 0 [.ref 98] [] M = some (none, N) ∧ Sm (Rc (nmB B) (nnB B)) (Rl (nlB B) (nnB B)) M N ∧ CS E N T B ∧ NC N B ∧ TkC N T 0 := by
  have hn := BK_nn hB
  obtain ⟨c1, -, c2, -, c3, -, c4, -⟩ := BK_c hB
  have hW : Wd M := hB.2.2.2.2.2.2.1
  have o := ok_98 hG
  have o5 := ok_5 hG
  have S3 : Sm (Rc (nmB B) (nnB B)) (Rl (nlB B) (nnB B)) M (sI (sI (sI (sI (sI M 98 5 (nI (nmB B))) 98 6 (nI (nlB B))) 98 7 (nI (nnB B))) 3 2 0) 3 5 0) := Sm_trans (Sm_sI (by unfold Rc; omega)) (Sm_trans (Sm_sI (by unfold Rc; omega)) (Sm_trans (Sm_sI (by unfold Rc; omega)) (Sm_trans (Sm_sI (by unfold Rc; omega)) (Sm_sI (by unfold Rc; omega)))))
  have hG5 : Gd (sI (sI (sI (sI (sI M 98 5 (nI (nmB B))) 98 6 (nI (nlB B))) 98 7 (nI (nnB B))) 3 2 0) 3 5 0) := hG
  have hCS : CS E M T B := ⟨hG, hT, hX, hE, hW, c4, hn⟩
  have hC5 := CS_R hCS S3 hn.2.2.1
  obtain ⟨N, a1, a2, a3⟩ := c_scan (d := d) (p := 0) hG5 hC5.2.1 (Nat.zero_le _) (by rw [gI_ne (by omega), gI_at, gI_at]; decide)
  have S4 : Sm (Rc (nmB B) (nnB B)) (Rl (nlB B) (nnB B)) M N := Sm_trans S3 (Rc_p (row := 0) (Sp_sc a2))
  have q : ∀ k, 5 ≤ k → k ≤ 7 → gI N 98 k = gI (sI (sI (sI M 98 5 (nI (nmB B))) 98 6 (nI (nlB B))) 98 7 (nI (nnB B))) 98 k := fun k k1 k2 => by rw [a2.2.2.1 _ _ (by unfold Sc; omega), gI_ne (by omega), gI_ne (by omega)]
  refine ⟨N, ?_, S4, CS_R hCS S4 hn.2.2.1, BK_NC hB S4 (by rw [q _ (by omega) (by omega), gI_ne (by omega), gI_ne (by omega), gI_at]) (by rw [q _ (by omega) (by omega), gI_ne (by omega), gI_at]) (by rw [q _ (by omega) (by omega), gI_at]), a3⟩
  have hG1 : Gd (sI M 98 5 (nI (nmB B))) := hG
  have hG2 : Gd (sI (sI M 98 5 (nI (nmB B))) 98 6 (nI (nlB B))) := hG
  have hG3 : Gd (sI (sI (sI M 98 5 (nI (nmB B))) 98 6 (nI (nlB B))) 98 7 (nI (nnB B))) := hG
  have hG4 : Gd (sI (sI (sI (sI M 98 5 (nI (nmB B))) 98 6 (nI (nlB B))) 98 7 (nI (nnB B))) 3 2 0) := hG
  have k1 : gI (sI M 98 5 (nI (nmB B))) 5 1 = nI (nlB B) := (gI_ne (by omega)).trans c2
  have k2 : gI (sI (sI M 98 5 (nI (nmB B))) 98 6 (nI (nlB B))) 5 2 = nI (nnB B) := by rw [gI_ne (by omega), gI_ne (by omega)]; exact c3
  rw [q78_0, if_pos o, gr_98_3 hG, if_pos o5, if_pos o, c1, bM_d, if_pos (ok_98 hG1), gr_98_3 hG1, if_pos (ok_5 hG1), if_pos (ok_98 hG1), k1, bM_d, if_pos (ok_98 hG2), gr_98_3 hG2, if_pos (ok_5 hG2), if_pos (ok_98 hG2), k2, bM_d, if_pos (ok_98 hG3), gr_98_2 hG3, if_pos (ok_3 hG3), q104_0, if_pos (ok_3 hG3), bM_d, if_pos (ok_3 hG4), bM_d, if_pos (ok_3 hG5), a1, bV_s, bV_s]
theorem CS_B {E M : Mm} {T : Tp} {B B' : Bk} (h : CS E M T B) (hv : vrB B' = vrB B) (hP : PB B') : CS E M T B' := by
  obtain ⟨h1, h2, h3, h4, h5, h6, h7⟩ := h
  exact ⟨h1, h2, h3, h4, h5, by rw [hv]; exact h6, hP⟩
def CE (N : Mm) (x1 : Int32) (B : Bk) (r : Sum (Nat × Nat) Bk) : Prop := match r with
  | .inl (f, pl) => x1 = 0 ∧ gI N 98 0 = nI f ∧ gI N 98 1 = nI pl
  | .inr B' => x1 = 1 ∧ NC N B' ∧ WB B' ∧ GR B B'
theorem c_loop {e : Nat} {E : Mm} {T : Tp} : ∀ (f p : Nat) (M : Mm) (B : Bk), f ≤ 500 → CS E M T B → WB B → NC M B → p ≤ T.1 → TkC M T p → ∃ x1 x2 N, go (e + 26) 118 11 [.ref 1, .int 1, .int (nI (500 - f))] [] M = go (e + 26) 118 46 [.ref 1, .int x1, .int x2] [] N ∧ Sm (Rc (nmB B) (nnB B)) (Rl (nlB B) (nnB B)) M N ∧ CE N x1 B (rdF T f p B)
  | 0, p, M, B, hf, hC, hW, hN, hp, h => by
    refine ⟨1, nI 500, M, ?_, Sm_refl, rfl, hN, hW, GR_refl B⟩
    rw [q118_11, if_pos (by decide)]
  | f + 1, p, M, B, hf, hC, hW, hN, hp, h => by
    have hG := hC.1
    have o := ok_1 hG
    have ae := c_atEnd (d := e + 24) hG h
    have l5 : ¬ ((500 : Int32) ≤ nI (500 - (f + 1))) := by rw [show (500 : Int32) = nI 500 from rfl, nI_leI (by omega) (by omega)]; omega
    rw [rdF]
    by_cases hk : tkK T p = 0
    · rw [if_pos hk]
      rw [decide_eq_true hk] at ae
      refine ⟨1, nI (500 - (f + 1)), M, ?_, Sm_refl, rfl, hN, hW, GR_refl B⟩
      rw [q118_11, if_neg l5, if_neg (by decide), if_pos o, gr_1_1 hG, if_pos (ok_3 hG), ae, bI_s, if_neg (by decide)]
    · rw [if_neg hk]
      rw [decide_eq_false hk] at ae
      obtain ⟨b, N1, a1, a2, a3⟩ := c_stmt (e := e) hC hN hp h
      have hC1 := CS_R hC a2 hW.1.2.2.1
      have st : go (e + 26) 118 11 [.ref 1, .int 1, .int (nI (500 - (f + 1)))] [] M = go (e + 26) 118 11 [.ref 1, .int b, .int (nI (500 - (f + 1)) + 1)] [] N1 := by
        rw [q118_11, if_neg l5, if_neg (by decide), if_pos o, gr_1_1 hG, if_pos (ok_3 hG), ae, bI_s, if_pos (by decide), if_pos o, gr_1_3 hG, if_pos (ok_98 hG), a1, bI_s]
      have en : nI (500 - (f + 1)) + 1 = nI (500 - f) := by rw [nI_1, show 500 - (f + 1) + 1 = 500 - f by omega]
      rw [st, en]
      cases hr : stF T B p with
      | inl x =>
        obtain ⟨fa, pl⟩ := x
        rw [hr] at a3
        obtain ⟨b1, b2, b3⟩ := a3
        subst b1
        refine ⟨0, nI (500 - f), N1, ?_, a2, rfl, b2, b3⟩
        rw [q118_11]
        by_cases h5 : (500 : Int32) ≤ nI (500 - f)
        · rw [if_pos h5]
        · rw [if_neg h5, if_pos rfl]
      | inr x =>
        obtain ⟨p1, B1⟩ := x
        rw [hr] at a3
        obtain ⟨b1, b2, b3⟩ := a3
        subst b1
        obtain ⟨s1, s2, s3, s4⟩ := st_ok hW hp hr
        obtain ⟨x1, x2, N, c1, c2, c3⟩ := c_loop f p1 N1 B1 (by omega) (CS_B hC1 s4.2.2.2 s3.1) s3 b3 s2 b2
        refine ⟨x1, x2, N, c1, Sm_trans a2 (Rc_le c2 s4.1 s4.2.1 s4.2.2.1), ?_⟩
        show CE N x1 B (rdF T f p1 B1)
        cases hr2 : rdF T f p1 B1 with
        | inl y => rw [hr2] at c3; exact c3
        | inr B2 =>
          rw [hr2] at c3
          obtain ⟨d1, d2, d3, d4⟩ := c3
          exact ⟨d1, d2, d3, GR_trans s4 d4⟩
def ME (N : Mm) (B : Bk) (r : Sum (Nat × Nat) Bk) : Prop := match r with
  | .inl (f, pl) => FtM N f pl
  | .inr B' => gI N 171 28 = 0 ∧ gI N 171 25 = 1 ∧ NM N B' ∧ WB B' ∧ GR B B'
theorem Rm_le {nm nl nn nm' nl' nn' : Nat} {M N : Mm} (h : Sm (Rm nm' nl' nn') NoL M N) (h1 : nm ≤ nm') (h2 : nl ≤ nl') (h3 : nn ≤ nn') : Sm (Rm nm nl nn) NoL M N := Sm_mono (fun r k z => by unfold Rm at z ⊢; omega) (fun w z => z) h
theorem MCx_B {M : Mm} {T : Tp} {B B' : Bk} (h : MCx M T B) (hv : vrB B' = vrB B) (hP : PB B') : MCx M T B' := by
  obtain ⟨h1, h2, h3, h4⟩ := h
  exact ⟨h1, h2, by rw [hv]; exact h3, hP⟩
theorem m_loop {d : Nat} {T : Tp} : ∀ (f p : Nat) (M : Mm) (B : Bk) (v1 : Value), T.1 ≤ p + f → MCx M T B → WB B → NM M B → p ≤ T.1 → TkM M T p → gI M 171 28 = 0 → ∃ v2 N, go (d + 7) 181 56 [.ref 171, v1, .null] [] M = go (d + 7) 181 56 [.ref 171, v2, .null] [] N ∧ Sm (Rm (nmB B) (nlB B) (nnB B)) NoL M N ∧ ME N B (rdF T f p B)
  | 0, p, M, B, v1, hf, hC, hW, hN, hp, h, h0 => by
    have hk : tkK T p = 0 := by
      apply Classical.byContradiction
      intro z
      have := tkE_gt hp z
      omega
    exact ⟨v1, M, rfl, Sm_refl, h0, h.2.2.2.trans (em1.mpr hk), hN, hW, GR_refl B⟩
  | f + 1, p, M, B, v1, hf, hC, hW, hN, hp, h, h0 => by
    rw [rdF]
    by_cases hk : tkK T p = 0
    · rw [if_pos hk]
      exact ⟨v1, M, rfl, Sm_refl, h0, h.2.2.2.trans (em1.mpr hk), hN, hW, GR_refl B⟩
    · rw [if_neg hk]
      obtain ⟨v2, N1, a1, a2, a3⟩ := m_stmt (d := d) (v1 := v1) hC hW hN hp h h0 hk
      have hC1 := MCx_R hC a2
      rw [a1]
      cases hr : stF T B p with
      | inl x =>
        obtain ⟨fa, pl⟩ := x
        rw [hr] at a3
        exact ⟨v2, N1, rfl, a2, a3⟩
      | inr x =>
        obtain ⟨p1, B1⟩ := x
        rw [hr] at a3
        obtain ⟨b1, b2, b3⟩ := a3
        obtain ⟨s1, s2, s3, s4⟩ := st_ok hW hp hr
        obtain ⟨v3, N, c1, c2, c3⟩ := m_loop f p1 N1 B1 v2 (by omega) (MCx_B hC1 s4.2.2.2 s3.1) s3 b3 s2 b1 b2
        refine ⟨v3, N, c1, Sm_trans a2 (Rm_le c2 s4.1 s4.2.1 s4.2.2.1), ?_⟩
        show ME N B (rdF T f p1 B1)
        cases hr2 : rdF T f p1 B1 with
        | inl y => rw [hr2] at c3; exact c3
        | inr B2 =>
          rw [hr2] at c3
          obtain ⟨d1, d2, d3, d4, d5⟩ := c3
          exact ⟨d1, d2, d3, d4, GR_trans s4 d5⟩
theorem BK_NM {M N : Mm} {B : Bk} (hB : BK M B) (h : ∀ r k, 172 ≤ r → gI N r k = gI M r k) (h0 : gI N 171 30 = nI (nmB B)) (h1 : gI N 171 31 = nI (nlB B)) (h2 : gI N 171 32 = nI (nnB B)) : NM N B := by
  obtain ⟨-, hT, hL, -, hA, hS, -⟩ := hB
  refine ⟨h0, h1, h2, fun j hj => ?_, fun i hi => ?_, fun l hl => SAI_at (hA l hl) (h _ _ (by omega)) (fun i _ => h _ _ (by omega)), fun i hi => SAI_at (hS i hi) (h _ _ (by omega)) (fun i _ => h _ _ (by omega))⟩
  · obtain ⟨-, -, -, t1, -, t2⟩ := hT j hj
    rw [h _ _ (by omega), h _ _ (by omega)]; exact ⟨t1, t2⟩
  · obtain ⟨-, -, -, -, -, -, -, -, -, -, -, -, -, -, -, -, -, -, m0, m1, m2, m3, m4, m5, m6, m7⟩ := hL i hi
    rw [h _ _ (by omega), h _ _ (by omega), h _ _ (by omega), h _ _ (by omega), h _ _ (by omega), h _ _ (by omega), h _ _ (by omega), h _ _ (by omega)]
    exact ⟨m0, m1, m2, m3, m4, m5, m6, m7⟩
def Rm0 (nm nl nn : Nat) (r k : Nat) : Prop := Rm nm nl nn r k ∨ (r = 171 ∧ (k = 0 ∨ k = 21 ∨ k = 23))
theorem m_begin {d : Nat} {M M1 : Mm} {T : Tp} {B : Bk} (hG : Gd M1) (hB : BK M B) (hS : ∀ r k, 171 ≤ r → gI M1 r k = gI M r k) (hn : T.1 ≤ 500) (h21 : gI M 171 21 = nI T.1) (ht : ∀ k, k < T.1 → T.2 k < 256 ∧ gI M 187 k = nI (T.2 k)) : ∃ v N, go (d + 7) 181 0 [.ref 171, .null, .null] [] M1 = go (d + 7) 181 56 [.ref 171, v, .null] [] N ∧ Sm (Rm0 (nmB B) (nlB B) (nnB B)) NoL M1 N ∧ gI N 171 21 = 0 ∧ ME N B (rdF T 500 0 B) := by
  have hnn := BK_nn hB
  obtain ⟨-, c1, -, c2, -, c3, -, c4, -⟩ := BK_c hB
  have hW := BK_WB hB
  have A : ∃ N, N = sI (sI (sI (sI (sI (sI (sI (sI M1 171 0 0) 171 23 (nI T.1)) 171 21 0) 171 24 0) 171 28 0) 171 30 (nI (nmB B))) 171 31 (nI (nlB B))) 171 32 (nI (nnB B)) := ⟨_, rfl⟩
  obtain ⟨N8, e8⟩ := A
  have hG8 : Gd N8 := by rw [e8]; exact hG
  have S8 : Sm (Rm0 (nmB B) (nlB B) (nnB B)) NoL M1 N8 := by
    rw [e8]
    exact Sm_trans (Sm_sI (by unfold Rm0; omega)) (Sm_trans (Sm_sI (by unfold Rm0; omega)) (Sm_trans (Sm_sI (by unfold Rm0; omega)) (Sm_trans (Sm_sI (by unfold Rm0 Rm; omega)) (Sm_trans (Sm_sI (by unfold Rm0 Rm; omega)) (Sm_trans (Sm_sI (by unfold Rm0 Rm; omega)) (Sm_trans (Sm_sI (by unfold Rm0 Rm; omega)) (Sm_sI (by unfold Rm0 Rm; omega))))))))
  have q : ∀ r k, 172 ≤ r → gI N8 r k = gI M r k := fun r k hr => by
    rw [e8, gI_ne (by omega), gI_ne (by omega), gI_ne (by omega), gI_ne (by omega), gI_ne (by omega), gI_ne (by omega), gI_ne (by omega), gI_ne (by omega)]
    exact hS r k (by omega)
  have g40 : gI N8 171 40 = nI (vrB B) := by
    rw [e8, gI_ne (by omega), gI_ne (by omega), gI_ne (by omega), gI_ne (by omega), gI_ne (by omega), gI_ne (by omega), gI_ne (by omega), gI_ne (by omega), hS _ _ (by omega)]; exact c4
  have g23 : gI N8 171 23 = nI T.1 := by rw [e8, gI_ne (by omega), gI_ne (by omega), gI_ne (by omega), gI_ne (by omega), gI_ne (by omega), gI_ne (by omega), gI_at]
  have g24 : gI N8 171 24 = nI 0 := by rw [e8, gI_ne (by omega), gI_ne (by omega), gI_ne (by omega), gI_ne (by omega), gI_at]; rfl
  have g28 : gI N8 171 28 = 0 := by rw [e8, gI_ne (by omega), gI_ne (by omega), gI_ne (by omega), gI_at]
  have g21 : gI N8 171 21 = 0 := by rw [e8, gI_ne (by omega), gI_ne (by omega), gI_ne (by omega), gI_ne (by omega), gI_ne (by omega), gI_at]
  have hT8 : TPM N8 T := ⟨hn, g23, fun k hk => ⟨(ht k hk).1, (q _ _ (by omega)).trans (ht k hk).2⟩⟩
  have hC8 : MCx N8 T B := ⟨hG8, hT8, g40, hnn⟩
  have hN8 : NM N8 B := BK_NM hB q (by rw [e8, gI_ne (by omega), gI_ne (by omega), gI_at]) (by rw [e8, gI_ne (by omega), gI_at]) (by rw [e8, gI_at])
  obtain ⟨N9, a1, a2, a3⟩ := m_step (d := d + 4) hG8 hT8 T.1 0 N8 (by omega) Sm_refl g24
  have S9 : Sm (Rm0 (nmB B) (nlB B) (nnB B)) NoL N8 N9 := Sm_mono (fun r k z => Or.inl z) (fun w z => z) (Rm_d a2)
  obtain ⟨v, N, b1, b2, b3⟩ := m_loop (d := d) (T := T) 500 0 N9 B .null (by omega) (MCx_d hC8 a2) hW (NM_d hN8 a2 hnn) (Nat.zero_le _) a3 ((a2.2.2.1 _ _ (by unfold Sd; omega)).trans g28)
  refine ⟨v, N, ?_, Sm_trans S8 (Sm_trans S9 (Sm_mono (fun r k z => Or.inl z) (fun w z => z) b2)), ?_, b3⟩
  · have k5 : gI M1 171 5 = nI (nmB B) := (hS _ _ (by omega)).trans c1
    have k8 : gI M1 171 8 = nI (nlB B) := (hS _ _ (by omega)).trans c2
    have k9 : gI M1 171 9 = nI (nnB B) := (hS _ _ (by omega)).trans c3
    have k21 : gI M1 171 21 = nI T.1 := (hS _ _ (by omega)).trans h21
    have o : ∀ {N : Mm}, Gd N → okO N 171 12 = true := fun h => ok_171 h
    have hG1 : ∀ {N : Mm} {k : Nat} {v : Int32}, Gd N → Gd (sI N 171 k v) := fun h => h
    rw [q181_0, if_pos (o hG), bM_d, if_pos (o (hG1 hG)), if_pos (o (hG1 hG)), bM_d, if_pos (o (hG1 (hG1 hG))), bM_d, if_pos (o (hG1 (hG1 (hG1 hG)))), bM_d, if_pos (o (hG1 (hG1 (hG1 (hG1 hG))))), bM_d, if_pos (o (hG1 (hG1 (hG1 (hG1 (hG1 hG)))))), if_pos (o (hG1 (hG1 (hG1 (hG1 (hG1 hG)))))), bM_d, if_pos (o (hG1 (hG1 (hG1 (hG1 (hG1 (hG1 hG))))))), if_pos (o (hG1 (hG1 (hG1 (hG1 (hG1 (hG1 hG))))))), bM_d, if_pos (o (hG1 (hG1 (hG1 (hG1 (hG1 (hG1 (hG1 hG)))))))), if_pos (o (hG1 (hG1 (hG1 (hG1 (hG1 (hG1 (hG1 hG)))))))), bM_d]
    have e : sI (sI (sI (sI (sI (sI (sI (sI M1 171 0 0) 171 23 (gI (sI M1 171 0 0) 171 21)) 171 21 0) 171 24 0) 171 28 0) 171 30 (gI (sI (sI (sI (sI (sI M1 171 0 0) 171 23 (gI (sI M1 171 0 0) 171 21)) 171 21 0) 171 24 0) 171 28 0) 171 5)) 171 31 (gI (sI (sI (sI (sI (sI (sI M1 171 0 0) 171 23 (gI (sI M1 171 0 0) 171 21)) 171 21 0) 171 24 0) 171 28 0) 171 30 (gI (sI (sI (sI (sI (sI M1 171 0 0) 171 23 (gI (sI M1 171 0 0) 171 21)) 171 21 0) 171 24 0) 171 28 0) 171 5)) 171 8)) 171 32 (gI (sI (sI (sI (sI (sI (sI (sI M1 171 0 0) 171 23 (gI (sI M1 171 0 0) 171 21)) 171 21 0) 171 24 0) 171 28 0) 171 30 (gI (sI (sI (sI (sI (sI M1 171 0 0) 171 23 (gI (sI M1 171 0 0) 171 21)) 171 21 0) 171 24 0) 171 28 0) 171 5)) 171 31 (gI (sI (sI (sI (sI (sI (sI M1 171 0 0) 171 23 (gI (sI M1 171 0 0) 171 21)) 171 21 0) 171 24 0) 171 28 0) 171 30 (gI (sI (sI (sI (sI (sI M1 171 0 0) 171 23 (gI (sI M1 171 0 0) 171 21)) 171 21 0) 171 24 0) 171 28 0) 171 5)) 171 8)) 171 9) = N8 := by
      rw [e8]
      have x1 : gI (sI M1 171 0 0) 171 21 = nI T.1 := (gI_ne (by omega)).trans k21
      rw [x1]
      have x2 : gI (sI (sI (sI (sI (sI M1 171 0 0) 171 23 (nI T.1)) 171 21 0) 171 24 0) 171 28 0) 171 5 = nI (nmB B) := by
        rw [gI_ne (by omega), gI_ne (by omega), gI_ne (by omega), gI_ne (by omega), gI_ne (by omega)]; exact k5
      rw [x2]
      have x3 : gI (sI (sI (sI (sI (sI (sI M1 171 0 0) 171 23 (nI T.1)) 171 21 0) 171 24 0) 171 28 0) 171 30 (nI (nmB B))) 171 8 = nI (nlB B) := by
        rw [gI_ne (by omega), gI_ne (by omega), gI_ne (by omega), gI_ne (by omega), gI_ne (by omega), gI_ne (by omega)]; exact k8
      rw [x3]
      have x4 : gI (sI (sI (sI (sI (sI (sI (sI M1 171 0 0) 171 23 (nI T.1)) 171 21 0) 171 24 0) 171 28 0) 171 30 (nI (nmB B))) 171 31 (nI (nlB B))) 171 9 = nI (nnB B) := by
        rw [gI_ne (by omega), gI_ne (by omega), gI_ne (by omega), gI_ne (by omega), gI_ne (by omega), gI_ne (by omega), gI_ne (by omega)]; exact k9
      rw [x4]
    rw [e, if_pos (o hG8), a1, bV_s]
    exact b1
  · rw [b2.2.2.1 _ _ (by unfold Rm; omega), a2.2.2.1 _ _ (by unfold Sd; omega)]; exact g21
