/-! ===== version, end, buyer ===== -/
def upB (B : Bk) (a b v : Nat) : Bk := (fun i j => if i = a ∧ j = b then v else B.1 i j, B.2)
theorem upB_e {B : Bk} {a b v : Nat} : (upB B a b v).1 a b = v := if_pos ⟨rfl, rfl⟩
theorem upB_n {B : Bk} {a b v i j : Nat} (h : ¬ (i = a ∧ j = b)) : (upB B a b v).1 i j = B.1 i j := if_neg h
theorem upB_f {B : Bk} {a b v i : Nat} (h : i ≠ a) : (upB B a b v).1 i = B.1 i := funext fun _ => if_neg (fun z => h z.1)
theorem trB_eq {B C : Bk} (h1 : nmB C = nmB B) (h4 : C.1 1 = B.1 1) (h5 : C.1 2 = B.1 2) (k : Nat) : trB C k = trB B k := by
  unfold trB; rw [h1, h4, h5]
theorem alB_eq {B C : Bk} (h1 : nmB C = nmB B) (h2 : nlB C = nlB B) (h4 : C.1 1 = B.1 1) (h5 : C.1 2 = B.1 2) (h6 : C.2 = B.2) (k : Nat) : alB C k = alB B k := by
  unfold alB lwsB; rw [trB_eq h1 h4 h5, h1, h2, h6]
theorem DRW_eq {M : Mm} {B C : Bk} (h1 : nmB C = nmB B) (h2 : nlB C = nlB B) (h3 : nnB C = nnB B) (h4 : C.1 1 = B.1 1) (h5 : C.1 2 = B.1 2) (h6 : C.2 = B.2) (h : DRW M B) : DRW M C := by
  obtain ⟨b1, b2, b3, b4, b5, b6⟩ := h
  unfold DRW
  rw [h1, h2, h3, h6]
  refine ⟨fun k hk => ?_, fun k hk => ?_, b3, b4, fun k hk => ?_, b6⟩
  · rw [trB_eq h1 h4 h5]; exact b1 k hk
  · rw [alB_eq h1 h2 h4 h5 h6]; exact b2 k hk
  · rw [trB_eq h1 h4 h5]; exact b5 k hk
theorem bestF_eq {B C : Bk} (h1 : nmB C = nmB B) (ha : ∀ k, alB C k = alB B k) (L : List Nat) : ∀ n, bestF C L n = bestF B L n
  | 0 => rfl
  | n + 1 => by
    show (if alB C n && decide ((bestF C L n).2 < npB (nmB C) L n) then _ else _) = (if alB B n && decide ((bestF B L n).2 < npB (nmB B) L n) then _ else _)
    rw [bestF_eq h1 ha L n, ha, h1]
theorem bestB_eq {B C : Bk} (h1 : nmB C = nmB B) (ha : ∀ k, alB C k = alB B k) (L : List Nat) : bestB C L = bestB B L := by
  unfold bestB; rw [h1, bestF_eq h1 ha]
theorem picks_eq {B C : Bk} (h1 : nmB C = nmB B) (ha : ∀ k, alB C k = alB B k) : ∀ n, picks C n = picks B n
  | 0 => rfl
  | n + 1 => by
    show (bestB C (picks C n) - 1) :: picks C n = (bestB B (picks B n) - 1) :: picks B n
    rw [picks_eq h1 ha n, bestB_eq h1 ha]
theorem HC_eq {M : Mm} {B C : Bk} (h1 : nmB C = nmB B) (ha : ∀ k, alB C k = alB B k) (h : HC M B) : HC M C := by
  rcases h with h | ⟨a, n, a1, a2, a3, a4⟩
  · exact Or.inl h
  · refine Or.inr ⟨a, n, a1, a2, fun i hi => ?_, ?_⟩
    · rw [picks_eq h1 ha, bestB_eq h1 ha]; exact a3 i hi
    · rw [picks_eq h1 ha, bestB_eq h1 ha]; exact a4
theorem gI_ne {M : Mm} {i k : Nat} {v : Int32} {r j : Nat} (h : ¬ (r = i ∧ j = k)) : gI (sI M i k v) r j = gI M r j := if_neg h
theorem gI_at {M : Mm} {i k : Nat} {v : Int32} : gI (sI M i k v) i k = v := if_pos ⟨rfl, rfl⟩
theorem op_version {E M : Mm} {B : Bk} {d : Nat} (hI : Inv E M B) (x : Int32) : Alike E M (d + 2) 127 201 [.ref 1, .int x, .null] [.ref 171, .int x, .null] := by
  obtain ⟨hG, hX, hS, hT, hLA, hTR, hB, ⟨bk, bv, hU⟩, hE, hH⟩ := id hI
  have hn := BK_nn hB
  obtain ⟨c1, c2, c3, c4, c5, c6, c7, c8, c9, c10, c11, c12, c13⟩ := hB.1
  have o1 := ok_1 hG
  have r2 := gr_1_2 hG
  have r5 := gr_1_5 hG
  have o5 := ok_5 hG
  have o8 := ok_138 hG
  have o := ok_171 hG
  by_cases h : nI (vrB B) ≤ x ∧ x ≤ (9 : Int32)
  · obtain ⟨h1, h2⟩ := h
    obtain ⟨v, hv, rfl⟩ := nI_of2 (x := x) (M := 9) (n := 9) rfl (fun z => by
      rw [fa_le, nI_toInt (by omega)] at h1
      rw [fa_lt, show (0 : Int32).toInt = 0 from rfl] at z
      omega) h2
    rw [nI_leI (by omega) (by omega)] at h1
    refine ⟨nI (vrB B), sI (sI M 5 3 (nI v)) 138 4 0, sI (sI (sI (sI M 5 3 (nI v)) 138 4 0) 171 0 0) 171 40 (nI v), upB B 0 3 v, ?_, ?_, ?_⟩
    · rw [q127_0]
      simp only [o1, r2, o5, if_true, c7, nI_ltI (show v < 2 ^ 31 by omega) (show vrB B < 2 ^ 31 by omega), show ¬ v < vrB B by omega, if_false, h2, bM_d, okO_sI, gR_sI, r5, o8]
    · rw [q201_0]
      have c8' : gI (sI (sI (sI M 5 3 (nI v)) 138 4 0) 171 0 0) 171 40 = nI (vrB B) := c8
      simp only [okO_sI, o, if_true, bM_d, c8']
      rw [show (9 : Int64) = (9 : Int32).toInt64 from rfl, m_in, bI_s, decide_eq_true ⟨(nI_leI (by omega) (by omega)).mpr h1, h2⟩]
      simp only [b2i0, okO_sI, o, if_true, c8']
      rfl
    · have e1 : ∀ r k, ¬ ((r = 5 ∧ k = 3) ∨ (r = 138 ∧ k = 4) ∨ (r = 171 ∧ k = 0) ∨ (r = 171 ∧ k = 40)) → gI (sI (sI (sI (sI M 5 3 (nI v)) 138 4 0) 171 0 0) 171 40 (nI v)) r k = gI M r k := fun r k hh => by
        rw [gI_ne (by omega), gI_ne (by omega), gI_ne (by omega), gI_ne (by omega)]
      have n1 : nmB (upB B 0 3 v) = nmB B := upB_n (by omega)
      have n2 : nlB (upB B 0 3 v) = nlB B := upB_n (by omega)
      have n3 : nnB (upB B 0 3 v) = nnB B := upB_n (by omega)
      have n4 : vrB (upB B 0 3 v) = v := upB_e
      have f1 : ∀ i, i ≠ 0 → (upB B 0 3 v).1 i = B.1 i := fun i hi => upB_f hi
      have ha : ∀ k, alB (upB B 0 3 v) k = alB B k := alB_eq n1 n2 (f1 1 (by omega)) (f1 2 (by omega)) rfl
      refine ⟨hG, ?_, SHT_cong (fun r k z => e1 r k (by unfold rdS at z; omega)) hS, TAP_cong (fun r k z => e1 r k (by unfold rdT at z; omega)) hT, LAT_cong (e1 _ _ (by omega)) (e1 _ _ (by omega)) (e1 _ _ (by omega)) (e1 _ _ (by omega)) hLA, TRC_cong (fun r k z => e1 r k (by unfold rdC at z; omega)) hTR, ?_, ⟨bk, bv, ?_⟩, Or.inl ?_, HC_eq n1 ha (HC_cong (fun r k z => e1 r k (by unfold rdH at z; omega)) hH)⟩
      · intro r hr
        obtain ⟨x1, x2, x3⟩ := hX r hr
        exact ⟨by rw [← x1]; funext k; exact e1 r k (by omega), x2, x3⟩
      · obtain ⟨a1, a2, a3, a4, a5, a6, a7, a8⟩ := hB
        refine ⟨?_, ?_, ?_, ?_, ?_, ?_, a7, ?_⟩
        · rw [n1, n2, n3, n4]
          exact ⟨(e1 _ _ (by omega)).trans c1, (e1 _ _ (by omega)).trans c2, (e1 _ _ (by omega)).trans c3, (e1 _ _ (by omega)).trans c4, (e1 _ _ (by omega)).trans c5, (e1 _ _ (by omega)).trans c6, by rw [gI_ne (by omega), gI_ne (by omega), gI_ne (by omega), gI_at], gI_at, (e1 _ _ (by omega)).trans c9, c10, c11, c12, by omega⟩
        · rw [n1, f1 1 (by omega), f1 2 (by omega)]
          intro j hj
          rw [e1 6 j (by omega), e1 7 j (by omega), e1 175 j (by omega), e1 176 j (by omega)]
          exact a2 j hj
        · rw [n3, f1 3 (by omega), f1 4 (by omega), f1 5 (by omega), f1 6 (by omega), f1 7 (by omega), f1 8 (by omega), f1 9 (by omega), f1 10 (by omega)]
          intro i hi
          have hq : ∀ k, gI (sI (sI (sI (sI M 5 3 (nI v)) 138 4 0) 171 0 0) 171 40 (nI v)) (26 + 3 * i) k = gI M (26 + 3 * i) k := fun k => e1 _ k (by omega)
          rw [hq 0, hq 1, hq 2, hq 3, hq 4, hq 5, hq 6, hq 7, e1 177 i (by omega), e1 178 i (by omega), e1 179 i (by omega), e1 180 i (by omega), e1 181 i (by omega), e1 186 (8 + i) (by omega), e1 182 i (by omega), e1 183 i (by omega)]
          exact a3 i hi
        · refine DRW_eq n1 n2 n3 (f1 1 (by omega)) (f1 2 (by omega)) rfl ?_
          obtain ⟨b1, b2, b3, b4, b5, b6⟩ := a4
          exact ⟨b1, b2, b3, b4, fun k hk => by rw [e1 189 k (by omega)]; exact b5 k hk, fun k hk => by rw [e1 190 k (by omega)]; exact b6 k hk⟩
        · rw [n2]
          exact fun l hl => by
            obtain ⟨p, p1, p2, p3, p4, p5⟩ := a5 l hl
            exact ⟨p, p1, by rw [e1 _ _ (by omega)]; exact p2, fun i hi => by rw [e1 _ _ (by omega)]; exact p3 i hi, p4, p5⟩
        · rw [n3]
          exact fun l hl => by
            obtain ⟨p, p1, p2, p3, p4, p5⟩ := a6 l hl
            exact ⟨p, p1, by rw [e1 _ _ (by omega)]; exact p2, fun i hi => by rw [e1 _ _ (by omega)]; exact p3 i hi, p4, p5⟩
        · rw [n3, f1 9 (by omega), f1 10 (by omega)]; exact a8
      · rw [n1]
        exact BUY_cong (fun r k z => e1 r k (by unfold rdU at z; omega)) hU
      · rw [gI_ne (by omega), gI_ne (by omega), gI_at]
  · refine Alike_q hI (-1000001) M (sI M 171 0 0) ?_ Sm_refl ?_ sm0
    · rw [q127_0]
      simp only [o1, r2, o5, if_true, c7]
      by_cases h1 : x < nI (vrB B)
      · rw [if_pos h1]
      · rw [if_neg h1, if_neg (fun z => h ⟨fa_of_nlt h1, z⟩)]
    · rw [q201_0]
      have c8' : gI (sI M 171 0 0) 171 40 = nI (vrB B) := c8
      simp only [okO_sI, o, if_true, bM_d, c8']
      rw [show (9 : Int64) = (9 : Int32).toInt64 from rfl, m_in, bI_s, decide_eq_false h]
      simp only [b2i0, if_true]
