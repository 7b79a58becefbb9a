/-! ===== sayings: the model, part by part ===== -/
theorem eq28_1 {d mk s p k : Nat} {M N : Mm} {T : Tp} {V P : List Nat} {G : Int32} {v4 : Value} (hX : MX M T mk s) (h : MS T s M N p k V P 0 G) (hp : p ≤ T.1) : go (d + 5) 178 28 [.ref 171, .int (nI s), .int (1 : Int32), .int (1 : Int32), v4] [] N = if tkW T p = tx 6 then (bV (go (d + 4) 177 0 [.ref 171, .int (wtI 12)] [] N) fun M9 => go (d + 5) 178 28 [.ref 171, .int (nI s), .int (1 : Int32), .int (1 : Int32), v4] [] M9) else if tkG T p 40 = true then (bV (go (d + 4) 177 0 [.ref 171, .int (wtI 13)] [] N) fun M8 => go (d + 5) 178 28 [.ref 171, .int (nI s), .int (1 : Int32), .int (1 : Int32), v4] [] M8) else go (d + 5) 178 85 [.ref 171, .int (nI s), .int (1 : Int32), .int (1 : Int32), v4] [] N := by
  obtain ⟨hG, hT, hm, hmk, hs⟩ := MX_S hX h.1
  have o := ok_171 hG
  have w := m_word (d := d + 3) hG hT hp h.2.1
  have g : go (d + 4) 169 0 [.ref 171, .int (40 : Int32)] [] N = some (some (.int (b2i (tkG T p 40))), N) := m_is (d := d + 2) (ch := 40) hG hT hp h.2.1 (by omega)
  have e6 := wv_is (T := T) (p := p) (i := 6) (c := 7237492) hp (by omega) rfl
  rw [q178_28, if_pos o, h.2.2.1, if_pos rfl, if_neg (by decide), if_neg (by decide), if_pos o, w, bL_s]
  by_cases h6 : tkW T p = tx 6
  · rw [if_pos (e6.mpr h6), if_pos o, if_pos h6]; rfl
  · rw [if_neg (fun z => h6 (e6.mp z)), if_neg (show ¬ (1 : Int32) = 0 by decide), if_pos o, g, bI_s, if_neg h6]
    cases h40 : tkG T p 40 with
    | true => rw [if_neg (by decide), if_pos o, if_pos rfl]; rfl
    | false => rw [if_pos (by decide), if_neg (by decide)]
/-- behind an operand -/
theorem eq28_0 {d mk s p k : Nat} {M N : Mm} {T : Tp} {V P : List Nat} {G : Int32} {v4 : Value} (hX : MX M T mk s) (h : MS T s M N p k V P 0 G) (hp : p ≤ T.1) : go (d + 5) 178 28 [.ref 171, .int (nI s), .int (0 : Int32), .int (1 : Int32), v4] [] N = if tkW T p = tx 7 then go (d + 5) 178 233 [.ref 171, .int (nI s), .int (0 : Int32), .int (1 : Int32), v4] [.int ((-1) : Int32)] N else if tkW T p = tx 8 then go (d + 5) 178 233 [.ref 171, .int (nI s), .int (0 : Int32), .int (1 : Int32), v4] [.int ((-2) : Int32)] N else (bV (go (d + 4) 176 0 [.ref 171, .int (nI s), .int ((-2) : Int32)] [] N) fun M7 => if okO M7 171 12 = true then if (gI M7 171 34) ≤ 0 then go (d + 5) 178 277 [.ref 171, .int (nI s), .int (0 : Int32), .int (1 : Int32), v4] [.int (0 : Int32)] M7 else go (d + 5) 178 277 [.ref 171, .int (nI s), .int (0 : Int32), .int (1 : Int32), v4] [.int (1 : Int32)] M7 else none) := by
  obtain ⟨hG, hT, hm, hmk, hs⟩ := MX_S hX h.1
  have o := ok_171 hG
  have w := m_word (d := d + 3) hG hT hp h.2.1
  have e7 := wv_is (T := T) (p := p) (i := 7) (c := 6385252) hp (by omega) rfl
  have e8 := wv_is (T := T) (p := p) (i := 8) (c := 28530) hp (by omega) rfl
  rw [q178_28, if_pos o, h.2.2.1, if_pos rfl, if_neg (by decide), if_pos rfl, if_pos rfl, q178_85, if_pos rfl, if_pos o, w, bL_s]
  by_cases h7 : tkW T p = tx 7
  · rw [if_pos (e7.mpr h7), if_pos o, w, bL_s, if_pos (e7.mpr h7), if_pos h7]
  · rw [if_neg (fun z => h7 (e7.mp z)), if_pos o, w, bL_s, if_neg h7]
    by_cases h8 : tkW T p = tx 8
    · rw [if_pos (e8.mpr h8), if_pos o, w, bL_s, if_neg (fun z => h7 (e7.mp z)), if_pos h8]
    · rw [if_neg (fun z => h8 (e8.mp z)), if_pos o, if_neg h8]
theorem len7 {m k k0 l q : Nat} (hm : m ≤ 5) (h : l + 1 ≤ (2 + m) * (k - k0)) (hk : k0 < k) (hq : q ≤ 7 * k0) : q + l + 1 ≤ 7 * k := by
  have h1 : (2 + m) * (k - k0) ≤ 7 * (k - k0) := Nat.mul_le_mul_right _ (by omega)
  omega
/-- an operator comes: what it sends goes, it waits, the next piece -/
theorem m_oper {d mk s p k x : Nat} {M N : Mm} {T : Tp} {V pend P : List Nat} {G : Int32} {v4 : Value} (hX : MX M T mk s) (h : MS T s M N p k (V ++ pend) P 0 G) (hp : p ≤ T.1) (hx : x = 10 ∨ x = 11) (hst : StopV x V) (hpd : ∀ t, t ∈ pend → 10 ≤ t ∧ t ≤ 12 ∧ pops x t = true) (hl : (V ++ pend).length < 39) (hc : cntV (V ++ pend) ≤ 40) (hP : P.length + pend.length < 100) : ∃ N' v, go (d + 5) 178 233 [.ref 171, .int (nI s), .int (0 : Int32), .int (1 : Int32), v4] [.int (tok x)] N = go (d + 5) 178 28 [.ref 171, .int (nI s), .int (1 : Int32), .int (1 : Int32), v] [] N' ∧ MS T s M N' (tkE T p) k (V ++ [x]) (P ++ pend.reverse) 0 G := by
  obtain ⟨hG, hT, hm, hmk, hs⟩ := MX_S hX h.1
  have o := ok_171 hG
  obtain ⟨N1, a1, a2⟩ := m_come (d := d + 2) (x := x) hX (by omega) hst pend.length pend P N rfl hpd hl hP hc h
  obtain ⟨hG1, -⟩ := MX_S hX a2.1
  have hlV : V.length < 40 := by rw [List.length_append] at hl; omega
  have e35 : gI N1 171 35 = nI (cntV V) := a2.2.2.2.2.2.1
  obtain ⟨N2, b1, b2⟩ := m_push (d := d + 3) (t := x) (y := gI N1 171 35) hX a2 hlV (by rw [cntV_s, if_neg (by omega), Nat.add_zero]; exact e35)
  rw [sI_self rfl, show wtI x = tok x by unfold wtI; rw [if_neg (by omega)]] at b1
  obtain ⟨hG2, hT2, -⟩ := MX_S hX b2.1
  obtain ⟨N3, c1, c2, c3, c4⟩ := m_must1 (d := d + 1) hG2 hT2 hp b2.2.1 b2.2.2.1
  refine ⟨N3, .int (tok x), ?_, MS_tk b2 c2 c3⟩
  rw [q178_233, if_pos o, a1, bV_s, if_pos (ok_171 hG1), b1, bV_s, if_pos (ok_171 hG2), c1, bV_s]
theorem pend10 {pend : List Nat} (h : pend = [] ∨ pend = [10]) : (∀ t, t ∈ pend → 10 ≤ t ∧ t ≤ 12 ∧ pops 10 t = true) ∧ pend.length ≤ 1 ∧ cntV pend = 0 := by
  rcases h with rfl | rfl
  · exact ⟨fun t ht => (by cases ht), by simp, rfl⟩
  · exact ⟨fun t ht => by simp at ht; subst ht; exact ⟨by omega, by omega, rfl⟩, by simp, rfl⟩
theorem pend11 {pend : List Nat} (h : ∀ t, t ∈ pend → t = 10 ∨ t = 11) : (∀ t, t ∈ pend → 10 ≤ t ∧ t ≤ 12 ∧ pops 11 t = true) ∧ cntV pend = 0 := by
  refine ⟨fun t ht => ?_, ?_⟩
  · rcases h t ht with rfl | rfl
    · exact ⟨by omega, by omega, rfl⟩
    · exact ⟨by omega, by omega, rfl⟩
  · unfold cntV
    rw [List.filter_eq_nil_iff.mpr (fun t ht => by rcases h t ht with rfl | rfl <;> decide)]; rfl
theorem m_partLoop {d mk m s p0 k0 : Nat} {M : Mm} {T : Tp} {V P : List Nat} {G : Int32} (hm : m ≤ 5) (hX : MX M T mk s)
    (hA : ∀ (p k : Nat) (V0 : List Nat) (j : Nat) (P : List Nat) (N : Mm) (v4 : Value), MS T s M N p k (V0 ++ List.replicate j 12) P 0 G → StopV 12 V0 → cntV (V0 ++ List.replicate j 12) = 5 - m → (V0 ++ List.replicate j 12).length ≤ 3 * (5 - m) + 2 → P.length ≤ 7 * k → p ≤ T.1 → 1 ≤ p → k ≤ 12 → MO d s M (go (d + 5) 178 28 [.ref 171, .int (nI s), .int (1 : Int32), .int (1 : Int32), v4] [] N) (atF T mk m p k) (fun p' k' c N' => MS T s M N' p' k' V0 (P ++ c ++ List.replicate j 12) 0 G))
    (hst : StopV 10 V) (hc : cntV V = 5 - m) (hl : V.length ≤ 3 * (5 - m) + 1) (hP : P.length ≤ 7 * k0) (hp0 : 1 ≤ p0) : ∀ (f p k : Nat) (c pend c0 : List Nat) (N : Mm) (v4 : Value), T.1 < p + f → OkR T m p0 k0 (.inr (p, k, c)) → MS T s M N p k (V ++ pend) (P ++ c0) 0 G → c0 ++ pend.reverse = c → (pend = [] ∨ pend = [10]) → MO d s M (go (d + 5) 178 28 [.ref 171, .int (nI s), .int (0 : Int32), .int (1 : Int32), v4] [] N) (lpF T (atF T mk m) 7 10 f p k c) (fun p' k' c' N' => ∃ pend' c0', MS T s M N' p' k' (V ++ pend') (P ++ c0') 0 G ∧ c0' ++ pend'.reverse = c' ∧ (pend' = [] ∨ pend' = [10]) ∧ ¬ tkW T p' = tx 7)
  | 0, p, k, c, pend, c0, N, v4, hf, hok, h, hcc, hpd => by
    obtain ⟨-, k2, -⟩ := hok
    omega
  | f + 1, p, k, c, pend, c0, N, v4, hf, hok, h, hcc, hpd => by
    obtain ⟨k1, k2, k3, k4, k5, k6⟩ := id hok
    rw [lpF]
    by_cases h7 : tkW T p = tx 7
    · rw [if_pos h7]
      have ge := tkE_gt k2 (by rw [tkW_k h7 (by omega)]; omega)
      obtain ⟨q1, q2, q3⟩ := pend10 hpd
      have hlen := len7 hm k5 k3 hP
      have hcl : c.length = c0.length + pend.length := by rw [← hcc]; simp
      obtain ⟨N1, v, a1, a2⟩ := m_oper (d := d) (v4 := v4) hX h k2 (Or.inl rfl) hst q1 (by rw [List.length_append]; omega) (by rw [cntV_app]; omega) (by rw [List.length_append]; omega)
      have a1' : go (d + 5) 178 233 [.ref 171, .int (nI s), .int (0 : Int32), .int (1 : Int32), v4] [.int ((-1) : Int32)] N = go (d + 5) 178 28 [.ref 171, .int (nI s), .int (1 : Int32), .int (1 : Int32), v] [] N1 := a1
      rw [List.append_assoc, hcc] at a2
      have hat := hA (tkE T p) k (V ++ [10]) 0 (P ++ c) N1 v (by simpa using a2) (Or.inr ⟨V, 10, rfl, by omega, by omega, rfl⟩) (by simp only [List.replicate_zero, List.append_nil]; rw [cntV_s, if_neg (by omega)]; omega) (by simp only [List.replicate_zero, List.append_nil]; rw [len_s]; omega) (by rw [List.length_append]; omega) ge.2 (by omega) k4
      have hok2 := at_ok (T := T) hX.2.2.2.1 m (tkE T p) k ge.2 k4
      have st : go (d + 5) 178 28 [.ref 171, .int (nI s), .int (0 : Int32), .int (1 : Int32), v4] [] N = go (d + 5) 178 28 [.ref 171, .int (nI s), .int (1 : Int32), .int (1 : Int32), v] [] N1 := by
        rw [eq28_0 hX h k2, if_pos h7]; exact a1'
      rw [st]
      cases hr : atF T mk m (tkE T p) k with
      | inl x =>
        obtain ⟨fl, pl⟩ := x
        rw [hr] at hat
        exact hat
      | inr x =>
        obtain ⟨p2, k2', c2⟩ := x
        rw [hr] at hat hok2
        obtain ⟨N2, w, b1, b2⟩ := hat
        obtain ⟨s1, s2, s3, s4, s5, s6⟩ := hok2
        simp only [List.replicate_zero, List.append_nil] at b2
        have hlp := lp_ok (T := T) (sub := atF T mk m) (w := 7) (op := 10) (m := m) (p0 := p0) (k0 := k0) (by omega) (by omega) (at_ok hX.2.2.2.1 m) 1 p k c hok
        rw [lpF, if_pos h7, hr] at hlp
        have ih := m_partLoop hm hX hA hst hc hl hP hp0 f p2 k2' (c ++ c2 ++ [10]) [10] (c ++ c2) N2 w (by omega) hlp (by rw [← List.append_assoc]; exact b2) (by simp) (Or.inr rfl)
        rw [b1]
        exact ih
    · rw [if_neg h7]
      exact ⟨N, v4, rfl, pend, c0, h, hcc, hpd, h7⟩
theorem m_part {d mk m s : Nat} {M : Mm} {T : Tp} {G : Int32} (hm : m ≤ 5) (hX : MX M T mk s)
    (hA : ∀ (p k : Nat) (V0 : List Nat) (j : Nat) (P : List Nat) (N : Mm) (v4 : Value), MS T s M N p k (V0 ++ List.replicate j 12) P 0 G → StopV 12 V0 → cntV (V0 ++ List.replicate j 12) = 5 - m → (V0 ++ List.replicate j 12).length ≤ 3 * (5 - m) + 2 → P.length ≤ 7 * k → p ≤ T.1 → 1 ≤ p → k ≤ 12 → MO d s M (go (d + 5) 178 28 [.ref 171, .int (nI s), .int (1 : Int32), .int (1 : Int32), v4] [] N) (atF T mk m p k) (fun p' k' c N' => MS T s M N' p' k' V0 (P ++ c ++ List.replicate j 12) 0 G))
    (p k : Nat) (V P : List Nat) (N : Mm) (v4 : Value) (h : MS T s M N p k V P 0 G) (hst : StopV 10 V) (hc : cntV V = 5 - m) (hl : V.length ≤ 3 * (5 - m) + 1) (hP : P.length ≤ 7 * k) (hp : p ≤ T.1) (hp1 : 1 ≤ p) (hk : k ≤ 12) : MO d s M (go (d + 5) 178 28 [.ref 171, .int (nI s), .int (1 : Int32), .int (1 : Int32), v4] [] N) (seqF T (atF T mk m) 7 10 p k) (fun p' k' c' N' => ∃ pend' c0', MS T s M N' p' k' (V ++ pend') (P ++ c0') 0 G ∧ c0' ++ pend'.reverse = c' ∧ (pend' = [] ∨ pend' = [10]) ∧ ¬ tkW T p' = tx 7) := by
  have hat := hA p k V 0 P N v4 (by simpa using h) (StopV_12 hst) (by simpa using hc) (by simp; omega) hP hp hp1 hk
  have hok := at_ok (T := T) hX.2.2.2.1 m p k hp hk
  have hn := hX.2.1.1
  rw [seq_eq T (atF T mk m) 7 10 p k]
  cases hr : atF T mk m p k with
  | inl x =>
    obtain ⟨fl, pl⟩ := x
    rw [hr] at hat
    exact hat
  | inr x =>
    obtain ⟨p2, k2, c⟩ := x
    rw [hr] at hat hok
    obtain ⟨N2, w, b1, b2⟩ := hat
    simp only [List.replicate_zero, List.append_nil] at b2
    rw [b1]
    have hlt := hok.1
    exact m_partLoop hm hX hA hst hc hl hP hp1 500 p2 k2 c [] c N2 w (by omega) hok (by simpa using b2) (by simp) (Or.inl rfl)
theorem m_sayLoop {d mk m s p0 k0 : Nat} {M : Mm} {T : Tp} {V P : List Nat} {G : Int32} (hm : m ≤ 5) (hX : MX M T mk s)
    (hA : ∀ (p k : Nat) (V P : List Nat) (N : Mm) (v4 : Value), MS T s M N p k V P 0 G → StopV 10 V → cntV V = 5 - m → V.length ≤ 3 * (5 - m) + 1 → P.length ≤ 7 * k → p ≤ T.1 → 1 ≤ p → k ≤ 12 → MO d s M (go (d + 5) 178 28 [.ref 171, .int (nI s), .int (1 : Int32), .int (1 : Int32), v4] [] N) (seqF T (atF T mk m) 7 10 p k) (fun p' k' c' N' => ∃ pend' c0', MS T s M N' p' k' (V ++ pend') (P ++ c0') 0 G ∧ c0' ++ pend'.reverse = c' ∧ (pend' = [] ∨ pend' = [10]) ∧ ¬ tkW T p' = tx 7))
    (hst : StopV 11 V) (hc : cntV V = 5 - m) (hl : V.length ≤ 3 * (5 - m)) (hP : P.length ≤ 7 * k0) (hp0 : 1 ≤ p0) : ∀ (f p k : Nat) (c pend c0 : List Nat) (N : Mm) (v4 : Value), T.1 < p + f → OkR T m p0 k0 (.inr (p, k, c)) → MS T s M N p k (V ++ pend) (P ++ c0) 0 G → c0 ++ pend.reverse = c → (∀ t, t ∈ pend → t = 10 ∨ t = 11) → pend.length ≤ 2 → ¬ tkW T p = tx 7 → MO d s M (go (d + 5) 178 28 [.ref 171, .int (nI s), .int (0 : Int32), .int (1 : Int32), v4] [] N) (lpF T (seqF T (atF T mk m) 7 10) 8 11 f p k c) (fun p' k' c' N' => ∃ pend' c0', MS T s M N' p' k' (V ++ pend') (P ++ c0') 0 G ∧ c0' ++ pend'.reverse = c' ∧ (∀ t, t ∈ pend' → t = 10 ∨ t = 11) ∧ pend'.length ≤ 2 ∧ ¬ tkW T p' = tx 7 ∧ ¬ tkW T p' = tx 8)
  | 0, p, k, c, pend, c0, N, v4, hf, hok, h, hcc, hpd, hpl, hn7 => by
    obtain ⟨-, k2, -⟩ := hok
    omega
  | f + 1, p, k, c, pend, c0, N, v4, hf, hok, h, hcc, hpd, hpl, hn7 => by
    obtain ⟨k1, k2, k3, k4, k5, k6⟩ := id hok
    rw [lpF]
    by_cases h8 : tkW T p = tx 8
    · rw [if_pos h8]
      have ge := tkE_gt k2 (by rw [tkW_k h8 (by omega)]; omega)
      obtain ⟨q1, q3⟩ := pend11 hpd
      have hlen := len7 hm k5 k3 hP
      have hcl : c.length = c0.length + pend.length := by rw [← hcc]; simp
      obtain ⟨N1, v, a1, a2⟩ := m_oper (d := d) (v4 := v4) hX h k2 (Or.inr rfl) hst q1 (by rw [List.length_append]; omega) (by rw [cntV_app]; omega) (by rw [List.length_append]; omega)
      have a1' : go (d + 5) 178 233 [.ref 171, .int (nI s), .int (0 : Int32), .int (1 : Int32), v4] [.int ((-2) : Int32)] N = go (d + 5) 178 28 [.ref 171, .int (nI s), .int (1 : Int32), .int (1 : Int32), v] [] N1 := a1
      rw [List.append_assoc, hcc] at a2
      have hat := hA (tkE T p) k (V ++ [11]) (P ++ c) N1 v a2 (Or.inr ⟨V, 11, rfl, by omega, by omega, rfl⟩) (by rw [cntV_s, if_neg (by omega)]; omega) (by rw [len_s]; omega) (by rw [List.length_append]; omega) ge.2 (by omega) k4
      have hok2 := pt_ok (T := T) hX.2.2.2.1 m (tkE T p) k ge.2 k4
      have st : go (d + 5) 178 28 [.ref 171, .int (nI s), .int (0 : Int32), .int (1 : Int32), v4] [] N = go (d + 5) 178 28 [.ref 171, .int (nI s), .int (1 : Int32), .int (1 : Int32), v] [] N1 := by
        rw [eq28_0 hX h k2, if_neg hn7, if_pos h8]; exact a1'
      rw [st]
      cases hr : seqF T (atF T mk m) 7 10 (tkE T p) k with
      | inl x =>
        obtain ⟨fl, pl⟩ := x
        rw [hr] at hat
        exact hat
      | inr x =>
        obtain ⟨p2, k2', c2⟩ := x
        rw [hr] at hat hok2
        obtain ⟨N2, w, b1, pd2, c02, b2, b3, b4, b5⟩ := hat
        obtain ⟨s1, s2, s3, s4, s5, s6⟩ := hok2
        have hlp := lp_ok (T := T) (sub := seqF T (atF T mk m) 7 10) (w := 8) (op := 11) (m := m) (p0 := p0) (k0 := k0) (by omega) (by omega) (pt_ok hX.2.2.2.1 m) 1 p k c hok
        rw [lpF, if_pos h8, hr] at hlp
        have ih := m_sayLoop hm hX hA hst hc hl hP hp0 f p2 k2' (c ++ c2 ++ [11]) ([11] ++ pd2) (c ++ c02) N2 w (by omega) hlp (by rw [← List.append_assoc, ← List.append_assoc]; exact b2) (by rw [← b3]; simp) (fun t ht => by
          simp only [List.cons_append, List.nil_append, List.mem_cons] at ht
          rcases ht with ht | ht
          · exact Or.inr ht
          · rcases b4 with rfl | rfl
            · cases ht
            · simp at ht; exact Or.inl ht) (by have := (pend10 b4).2.1; simp; omega) b5
        rw [b1]
        exact ih
    · rw [if_neg h8]
      exact ⟨N, v4, rfl, pend, c0, h, hcc, hpd, hpl, hn7, h8⟩
theorem m_saying {d mk m s : Nat} {M : Mm} {T : Tp} {G : Int32} (hm : m ≤ 5) (hX : MX M T mk s)
    (hA : ∀ (p k : Nat) (V P : List Nat) (N : Mm) (v4 : Value), MS T s M N p k V P 0 G → StopV 10 V → cntV V = 5 - m → V.length ≤ 3 * (5 - m) + 1 → P.length ≤ 7 * k → p ≤ T.1 → 1 ≤ p → k ≤ 12 → MO d s M (go (d + 5) 178 28 [.ref 171, .int (nI s), .int (1 : Int32), .int (1 : Int32), v4] [] N) (seqF T (atF T mk m) 7 10 p k) (fun p' k' c' N' => ∃ pend' c0', MS T s M N' p' k' (V ++ pend') (P ++ c0') 0 G ∧ c0' ++ pend'.reverse = c' ∧ (pend' = [] ∨ pend' = [10]) ∧ ¬ tkW T p' = tx 7))
    (p k : Nat) (V P : List Nat) (N : Mm) (v4 : Value) (h : MS T s M N p k V P 0 G) (hst : StopV 11 V) (hc : cntV V = 5 - m) (hl : V.length ≤ 3 * (5 - m)) (hP : P.length ≤ 7 * k) (hp : p ≤ T.1) (hp1 : 1 ≤ p) (hk : k ≤ 12) : MO d s M (go (d + 5) 178 28 [.ref 171, .int (nI s), .int (1 : Int32), .int (1 : Int32), v4] [] N) (seqF T (seqF T (atF T mk m) 7 10) 8 11 p k) (fun p' k' c' N' => ∃ pend' c0', MS T s M N' p' k' (V ++ pend') (P ++ c0') 0 G ∧ c0' ++ pend'.reverse = c' ∧ (∀ t, t ∈ pend' → t = 10 ∨ t = 11) ∧ pend'.length ≤ 2 ∧ ¬ tkW T p' = tx 7 ∧ ¬ tkW T p' = tx 8) := by
  have hat := hA p k V P N v4 h (StopV_10 hst) hc (by omega) hP hp hp1 hk
  have hok := pt_ok (T := T) hX.2.2.2.1 m p k hp hk
  have hn := hX.2.1.1
  rw [seq_eq T (seqF T (atF T mk m) 7 10) 8 11 p k]
  cases hr : seqF T (atF T mk m) 7 10 p k with
  | inl x =>
    obtain ⟨fl, pl⟩ := x
    rw [hr] at hat
    exact hat
  | inr x =>
    obtain ⟨p2, k2, c⟩ := x
    rw [hr] at hat hok
    obtain ⟨N2, w, b1, pd, c0, b2, b3, b4, b5⟩ := hat
    rw [b1]
    have hlt := hok.1
    exact m_sayLoop hm hX hA hst hc hl hP hp1 500 p2 k2 c pd c0 N2 w (by omega) hok b2 b3 (fun t ht => by
      rcases b4 with rfl | rfl
      · cases ht
      · simp at ht; exact Or.inl ht) (by have := (pend10 b4).2.1; omega) b5
