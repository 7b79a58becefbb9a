/-! ===== sayings: what is read ===== -/
abbrev Rr := Sum (Nat × Nat) (Nat × Nat × List Nat)
def lpF (T : Tp) (sub : Nat → Nat → Rr) (w op : Nat) : Nat → Nat → Nat → List Nat → Rr
  | 0, p, k, c => .inr (p, k, c)
  | f + 1, p, k, c => if tkW T p = tx w then (match sub (tkE T p) k with
    | .inl e => .inl e
    | .inr (p', k', c') => lpF T sub w op f p' k' (c ++ c' ++ [op])) else .inr (p, k, c)
def seqF (T : Tp) (sub : Nat → Nat → Rr) (w op : Nat) (p k : Nat) : Rr := match sub p k with
  | .inl e => .inl e
  | .inr (p', k', c) => lpF T sub w op 500 p' k' c
def markF (T : Tp) (mk p k : Nat) : Rr := if tkK T p = 2 ∧ tkN T p < mk then (if k < 12 then .inr (tkE T p, k + 1, [tkN T p]) else .inl (3, tkS T p)) else if tkK T p = 2 then .inl (2, tkS T p) else .inl (1, tkS T p)
def atF (T : Tp) (mk : Nat) : Nat → Nat → Nat → Rr
  | 0, p, k => if tkW T p = tx 6 ∨ tkG T p 40 = true then .inl (3, tkS T p) else markF T mk p k
  | m + 1, p, k => if tkW T p = tx 6 then (match atF T mk m (tkE T p) k with
      | .inl e => .inl e
      | .inr (p', k', c) => .inr (p', k', c ++ [12]))
    else if tkG T p 40 = true then (match seqF T (seqF T (atF T mk m) 7 10) 8 11 (tkE T p) k with
      | .inl e => .inl e
      | .inr (p', k', c) => if tkG T p' 41 = true then .inr (tkE T p', k', c) else .inl (1, tkS T p'))
    else markF T mk p k
def saF (T : Tp) (mk m p k : Nat) : Rr := seqF T (seqF T (atF T mk m) 7 10) 8 11 p k
/-- what a piece of a saying says -/
def Ev (c : List Nat) (g : Nat → Bool) : Prop := ∀ k, k < 1024 → ∀ st, rpn k c st = some (g k :: st)
theorem rpn_app (k : Nat) : ∀ (c c' : List Nat) (st st' : List Bool), rpn k c st = some st' → rpn k (c ++ c') st = rpn k c' st'
  | [], c', st, st', h => by
    simp only [rpn, Option.some.injEq] at h
    rw [h]; rfl
  | t :: c, c', st, st', h => by
    simp only [List.cons_append, rpn] at h ⊢
    by_cases h1 : t < 10
    · rw [if_pos h1] at h ⊢; exact rpn_app k c c' _ _ h
    · rw [if_neg h1] at h ⊢
      by_cases h2 : t = 12
      · rw [if_pos h2] at h ⊢
        cases st with
        | nil => cases h
        | cons a st => exact rpn_app k c c' _ _ h
      · rw [if_neg h2] at h ⊢
        cases st with
        | nil => cases h
        | cons a st =>
          cases st with
          | nil => cases h
          | cons b st => exact rpn_app k c c' _ _ h
theorem Ev_mark {m : Nat} (h : m < 10) : Ev [m] (fun k => k.testBit m) := fun k _ st => by simp only [rpn, if_pos h]
theorem Ev_not {c : List Nat} {g : Nat → Bool} (h : Ev c g) : Ev (c ++ [12]) (fun k => !g k) := fun k hk st => by
  rw [rpn_app k _ _ _ _ (h k hk st)]
  simp [rpn]
theorem Ev_and {c c' : List Nat} {g g' : Nat → Bool} (h : Ev c g) (h' : Ev c' g') : Ev (c ++ c' ++ [10]) (fun k => g k && g' k) := fun k hk st => by
  rw [List.append_assoc, rpn_app k _ _ _ _ (h k hk st), rpn_app k _ _ _ _ (h' k hk _)]
  simp [rpn]
theorem Ev_or {c c' : List Nat} {g g' : Nat → Bool} (h : Ev c g) (h' : Ev c' g') : Ev (c ++ c' ++ [11]) (fun k => g k || g' k) := fun k hk st => by
  rw [List.append_assoc, rpn_app k _ _ _ _ (h k hk st), rpn_app k _ _ _ _ (h' k hk _)]
  simp [rpn]
/-! bounds -/
theorem tkW_k {T : Tp} {p i : Nat} (h : tkW T p = tx i) (hi : i < 18) : tkK T p = 1 := by
  unfold tkW at h
  by_cases hk : tkK T p = 1
  · exact hk
  · rw [if_neg hk] at h
    obtain ⟨l1, l2, -⟩ := tx_b i hi
    rw [← h] at l1
    simp at l1; omega
theorem tkE_gt {T : Tp} {p : Nat} (hp : p ≤ T.1) (h : tkK T p ≠ 0) : p < tkE T p ∧ tkE T p ≤ T.1 := by
  have h1 := tkE_b T hp
  have h2 := tkS_b T hp
  have h3 := h1.2.2 (fun z => h ((tkK_0 T p).mpr z))
  omega
theorem tkG_k {T : Tp} {p ch : Nat} (h : tkG T p ch = true) : tkK T p = 3 := by
  unfold tkG at h
  simp only [Bool.and_eq_true, decide_eq_true_eq] at h
  exact h.1
def OkR (T : Tp) (m p k : Nat) (r : Rr) : Prop := match r with
  | .inl (f, pl) => 1 ≤ f ∧ f ≤ 3 ∧ pl ≤ T.1
  | .inr (p', k', c) => p < p' ∧ p' ≤ T.1 ∧ k < k' ∧ k' ≤ 12 ∧ c.length + 1 ≤ (2 + m) * (k' - k) ∧ (∀ t, t ∈ c → t ≤ 12)
theorem lp_ok {T : Tp} {sub : Nat → Nat → Rr} {w op m p0 k0 : Nat} (hw : w < 18) (hop : op ≤ 12) (hs : ∀ p k, p ≤ T.1 → k ≤ 12 → OkR T m p k (sub p k)) : ∀ f p k c, OkR T m p0 k0 (.inr (p, k, c)) → OkR T m p0 k0 (lpF T sub w op f p k c)
  | 0, p, k, c, h => h
  | f + 1, p, k, c, h => by
    obtain ⟨h1, h2, h3, h4, h5, h6⟩ := h
    rw [lpF]
    by_cases hc : tkW T p = tx w
    · rw [if_pos hc]
      have g := tkE_gt h2 (by rw [tkW_k hc hw]; omega)
      have hsub := hs (tkE T p) k g.2 h4
      cases hr : sub (tkE T p) k with
      | inl e => rw [hr] at hsub; exact hsub
      | inr r =>
        obtain ⟨p', k', c'⟩ := r
        rw [hr] at hsub
        obtain ⟨s1, s2, s3, s4, s5, s6⟩ := hsub
        refine lp_ok hw hop hs f p' k' _ ⟨by omega, s2, by omega, s4, ?_, fun t ht => ?_⟩
        · simp only [List.length_append, List.length_cons, List.length_nil]
          have e : (2 + m) * (k' - k0) = (2 + m) * (k - k0) + (2 + m) * (k' - k) := by rw [← Nat.mul_add]; congr 1; omega
          omega
        · simp only [List.mem_append, List.mem_cons, List.not_mem_nil, or_false] at ht
          rcases ht with (ht | ht) | ht
          · exact h6 t ht
          · exact s6 t ht
          · omega
    · rw [if_neg hc]; exact ⟨h1, h2, h3, h4, h5, h6⟩
theorem seq_ok {T : Tp} {sub : Nat → Nat → Rr} {w op m : Nat} (hw : w < 18) (hop : op ≤ 12) (hs : ∀ p k, p ≤ T.1 → k ≤ 12 → OkR T m p k (sub p k)) (p k : Nat) (hp : p ≤ T.1) (hk : k ≤ 12) : OkR T m p k (seqF T sub w op p k) := by
  have h := hs p k hp hk
  unfold seqF
  cases hr : sub p k with
  | inl e => rw [hr] at h; exact h
  | inr r =>
    obtain ⟨p', k', c⟩ := r
    rw [hr] at h
    exact lp_ok hw hop hs 500 p' k' c h
theorem OkR_mono {T : Tp} {m p k : Nat} {r : Rr} (h : OkR T m p k r) : OkR T (m + 1) p k r := by
  cases r with
  | inl e => exact h
  | inr r =>
    obtain ⟨p', k', c⟩ := r
    obtain ⟨h1, h2, h3, h4, h5, h6⟩ := h
    refine ⟨h1, h2, h3, h4, ?_, h6⟩
    have e : (2 + (m + 1)) * (k' - k) = (2 + m) * (k' - k) + (k' - k) := by rw [show 2 + (m + 1) = (2 + m) + 1 by omega, Nat.succ_mul]
    omega
theorem mark_ok {T : Tp} {mk m p k : Nat} (hmk : mk ≤ 10) (hp : p ≤ T.1) (hk : k ≤ 12) : OkR T m p k (markF T mk p k) := by
  have hs := tkS_b T hp
  unfold markF
  by_cases h1 : tkK T p = 2 ∧ tkN T p < mk
  · rw [if_pos h1]
    by_cases h2 : k < 12
    · rw [if_pos h2]
      have g := tkE_gt hp (by rw [h1.1]; omega)
      refine ⟨g.1, g.2, by omega, by omega, ?_, fun t ht => ?_⟩
      · rw [show k + 1 - k = 1 by omega]; simp
      · simp at ht; omega
    · rw [if_neg h2]; exact ⟨by omega, by omega, hs.2⟩
  · rw [if_neg h1]
    by_cases h2 : tkK T p = 2
    · rw [if_pos h2]; exact ⟨by omega, by omega, hs.2⟩
    · rw [if_neg h2]; exact ⟨by omega, by omega, hs.2⟩
theorem at_ok {T : Tp} {mk : Nat} (hmk : mk ≤ 10) : ∀ m p k, p ≤ T.1 → k ≤ 12 → OkR T m p k (atF T mk m p k)
  | 0, p, k, hp, hk => by
    rw [atF]
    by_cases h : tkW T p = tx 6 ∨ tkG T p 40 = true
    · rw [if_pos h]; exact ⟨by omega, by omega, (tkS_b T hp).2⟩
    · rw [if_neg h]; exact mark_ok hmk hp hk
  | m + 1, p, k, hp, hk => by
    rw [atF]
    by_cases h1 : tkW T p = tx 6
    · rw [if_pos h1]
      have g := tkE_gt hp (by rw [tkW_k h1 (by omega)]; omega)
      have ih := at_ok hmk m (tkE T p) k g.2 hk
      cases hr : atF T mk m (tkE T p) k with
      | inl e => rw [hr] at ih; exact ih
      | inr r =>
        obtain ⟨p', k', c⟩ := r
        rw [hr] at ih
        obtain ⟨s1, s2, s3, s4, s5, s6⟩ := ih
        refine ⟨by omega, s2, s3, s4, ?_, fun t ht => ?_⟩
        · have e : (2 + (m + 1)) * (k' - k) = (2 + m) * (k' - k) + (k' - k) := by rw [show 2 + (m + 1) = (2 + m) + 1 by omega, Nat.succ_mul]
          simp only [List.length_append, List.length_cons, List.length_nil]
          omega
        · simp only [List.mem_append, List.mem_cons, List.not_mem_nil, or_false] at ht
          rcases ht with ht | ht
          · exact s6 t ht
          · omega
    · rw [if_neg h1]
      by_cases h2 : tkG T p 40 = true
      · rw [if_pos h2]
        have g := tkE_gt hp (by rw [tkG_k h2]; omega)
        have ih := seq_ok (w := 8) (op := 11) (by omega) (by omega) (fun p k hp hk => seq_ok (w := 7) (op := 10) (by omega) (by omega) (at_ok hmk m) p k hp hk) (tkE T p) k g.2 hk
        cases hr : seqF T (seqF T (atF T mk m) 7 10) 8 11 (tkE T p) k with
        | inl e => rw [hr] at ih; exact ih
        | inr r =>
          obtain ⟨p', k', c⟩ := r
          rw [hr] at ih
          obtain ⟨s1, s2, s3, s4, s5, s6⟩ := OkR_mono ih
          by_cases h3 : tkG T p' 41 = true
          · simp only [if_pos h3]
            have g' := tkE_gt s2 (by rw [tkG_k h3]; omega)
            exact ⟨by omega, g'.2, s3, s4, s5, s6⟩
          · simp only [if_neg h3]
            exact ⟨by omega, by omega, (tkS_b T s2).2⟩
      · rw [if_neg h2]; exact mark_ok hmk hp hk
theorem pt_ok {T : Tp} {mk : Nat} (hmk : mk ≤ 10) (m p k : Nat) (hp : p ≤ T.1) (hk : k ≤ 12) : OkR T m p k (seqF T (atF T mk m) 7 10 p k) := seq_ok (by omega) (by omega) (at_ok hmk m) p k hp hk
theorem sa_ok {T : Tp} {mk : Nat} (hmk : mk ≤ 10) (m p k : Nat) (hp : p ≤ T.1) (hk : k ≤ 12) : OkR T m p k (saF T mk m p k) := seq_ok (by omega) (by omega) (pt_ok hmk m) p k hp hk
/-! ===== sayings: the class reads ===== -/
theorem kt_join {d : Nat} {M N : Mm} {a w b v : Nat} {g : Nat → Bool} (h : KSet M N w g) (hv : v ≠ w) (hA : KS M a w) (hB : KS M b v) : ∃ N', go (d + 1) 46 0 [.ref a, .ref b, .null] [] N = some (none, N') ∧ KSet M N' w (fun k => g k || kb (gL M v) k) :=
  ⟨_, ks_join (KSet_KS (v := v) h hA) (KSet_KS (v := v) h hB), KSet_w h (fun k hk => by rw [kb_if hk, lb_or, lbk, lbk, KSet_o h hv, KSet_g h k hk])⟩
theorem kt_turn {d : Nat} {M N : Mm} {a w : Nat} {g : Nat → Bool} (h : KSet M N w g) (hA : KS M a w) : ∃ N', go (d + 1) 45 0 [.ref a, .null] [] N = some (none, N') ∧ KSet M N' w (fun k => !g k) :=
  ⟨_, ks_turn (KSet_KS (v := w) h hA), KSet_w h (fun k hk => by rw [kb_if hk, lb_not _ (by omega), lbk, KSet_g h k hk])⟩
/-- cells that the reader of a saying may leave otherwise -/
def Sp (r k : Nat) : Prop := (r = 3 ∧ 2 ≤ k) ∨ (r = 98 ∧ (k = 0 ∨ k = 1 ∨ k = 8))
def Sq (row : Nat) (w : Nat) : Prop := 101 + 2 * row ≤ w ∧ w ≤ 125
theorem Sq_mono {row row' : Nat} {M N : Mm} (h : row ≤ row') (hS : Sm Sp (Sq row') M N) : Sm Sp (Sq row) M N := Sm_mono (fun r k z => z) (fun w z => by unfold Sq at z ⊢; omega) hS
theorem Sp_sc {row : Nat} {M N : Mm} (h : Sm Sc NoL M N) : Sm Sp (Sq row) M N := Sm_mono (fun r k z => by unfold Sc at z; unfold Sp; omega) (fun w z => z.elim) h
def CX (E M : Mm) (T : Tp) (mk : Nat) : Prop := Gd M ∧ TPC M T ∧ EXT E M ∧ TXT E ∧ Wd M ∧ gI M 98 5 = nI mk ∧ mk ≤ 10
theorem CX_S {E M N : Mm} {T : Tp} {mk row : Nat} (h : CX E M T mk) (hS : Sm Sp (Sq row) M N) : CX E N T mk := by
  obtain ⟨h1, h2, h3, h4, h5, h6, h7⟩ := h
  refine ⟨Gd_Sm hS h1, ⟨h2.1, ?_, fun k hk => ?_⟩, EXT_Sm (fun r k z => by unfold Sp at z; omega) (fun w z => by unfold Sq at z; omega) hS h3, h4, fun j hj => ?_, ?_, h7⟩
  · rw [hS.2.2.1 _ _ (by unfold Sp; omega)]; exact h2.2.1
  · rw [hS.2.2.1 _ _ (by unfold Sp; omega)]; exact h2.2.2 k hk
  · rw [hS.2.2.2 _ (by unfold Sq; omega)]; exact h5 j hj
  · rw [hS.2.2.1 _ _ (by unfold Sp; omega)]; exact h6
/-- what comes of reading -/
def PcR (T : Tp) (row : Nat) (M N : Mm) (b : Int32) (r : Rr) : Prop := Sm Sp (Sq row) M N ∧ (match r with
  | .inl (f, pl) => b = 0 ∧ gI N 98 0 = nI f ∧ gI N 98 1 = nI pl
  | .inr (p', k', c) => b = 1 ∧ TkC N T p' ∧ gI N 98 8 = nI k' ∧ ∃ g, (∀ k, k < 1024 → kb (gL N (101 + 2 * row)) k = g k) ∧ Ev c g)
theorem c_fail {d p f row : Nat} {M : Mm} {T : Tp} (hG : Gd M) (h : TkC M T p) : ∃ N, go (d + 1) 81 0 [.ref 98, .int (nI f)] [] M = some (some (.int 0), N) ∧ Sm Sp (Sq row) M N ∧ gI N 98 0 = nI f ∧ gI N 98 1 = nI (tkS T p) := by
  have o := ok_98 hG
  have g : gI (sI M 98 0 (nI f)) 3 2 = nI (tkS T p) := (gI_ne (by omega)).trans h.1
  have hG1 : Gd (sI M 98 0 (nI f)) := hG
  refine ⟨sI (sI M 98 0 (nI f)) 98 1 (nI (tkS T p)), ?_, Sm_trans (Sm_sI (by unfold Sp; omega)) (Sm_sI (by unfold Sp; omega)), by rw [gI_ne (by omega), gI_at], gI_at⟩
  rw [q81_0, if_pos o, bM_d, if_pos (ok_98 hG1), gr_98_2 hG1, if_pos (ok_3 hG1), if_pos (ok_98 hG1), bM_d, g]
theorem KS_row' {M : Mm} (hG : Gd M) {i : Nat} (hi : i < 13) : KS M (100 + 2 * i) (101 + 2 * i) := KS_row hG hi
/-- the mark here, or its fault -/
theorem c_markHere {d p k mk row : Nat} {E M : Mm} {T : Tp} (hC : CX E M T mk) (h : TkC M T p) (h8 : gI M 98 8 = nI k) (hk : k ≤ 12) : ∃ N y, go (d + 2) 93 0 [.ref 98, .null] [] M = some (some (.int y), N) ∧ (match markF T mk p k with
    | .inl (f, pl) => y = -1 ∧ Sm Sp (Sq row) M N ∧ gI N 98 0 = nI f ∧ gI N 98 1 = nI pl
    | .inr _ => y = nI (tkN T p) ∧ N = M ∧ tkN T p < mk ∧ markF T mk p k = .inr (tkE T p, k + 1, [tkN T p])) := by
  obtain ⟨hG, hT, hX, hE, hW, h5, hmk⟩ := hC
  have o := ok_98 hG
  have o3 := ok_3 hG
  have g2 := gr_98_2 hG
  have isn := fun (d : Nat) => c_isNum (d := d) hG h
  obtain ⟨N1, a1, a2, a3, a4⟩ := c_fail (d := d) (f := 1) (row := row) hG h
  obtain ⟨N2, b1, b2, b3, b4⟩ := c_fail (d := d) (f := 2) (row := row) hG h
  obtain ⟨N3, c1, c2, c3, c4⟩ := c_fail (d := d) (f := 3) (row := row) hG h
  have a1' : go (d + 1) 81 0 [.ref 98, .int (1 : Int32)] [] M = some (some (.int 0), N1) := a1
  have b1' : go (d + 1) 81 0 [.ref 98, .int (2 : Int32)] [] M = some (some (.int 0), N2) := b1
  have c1' : go (d + 1) 81 0 [.ref 98, .int (3 : Int32)] [] M = some (some (.int 0), N3) := c1
  unfold markF
  by_cases hk2 : tkK T p = 2
  · have hlt := tkN_lt hk2
    have n3 := h.2.2.2 hk2
    have isn' := isn d
    rw [decide_eq_true hk2] at isn'
    by_cases hm : tkN T p < mk
    · rw [if_pos ⟨hk2, hm⟩]
      by_cases h12 : k < 12
      · refine ⟨M, nI (tkN T p), ?_, ?_⟩
        · rw [q93_0, if_pos o, g2, if_pos o3, isn', bI_s, if_neg (by decide), if_pos o, g2, if_pos o3, if_pos o, h5, n3, if_neg (by rw [nI_leI (by omega) (by omega)]; omega), if_neg (by decide), if_pos o, h8, if_neg (by rw [show (12 : Int32) = nI 12 from rfl, nI_leI (by omega) (by omega)]; omega), if_pos o, if_pos o3]
        · rw [if_pos h12]; exact ⟨rfl, rfl, hm, rfl⟩
      · refine ⟨N3, -1, ?_, ?_⟩
        · rw [q93_0, if_pos o, g2, if_pos o3, isn', bI_s, if_neg (by decide), if_pos o, g2, if_pos o3, if_pos o, h5, n3, if_neg (by rw [nI_leI (by omega) (by omega)]; omega), if_neg (by decide), if_pos o, h8, if_pos (by rw [show (12 : Int32) = nI 12 from rfl, nI_leI (by omega) (by omega)]; omega), q93_51, if_neg (by decide), if_pos o, c1', bI_s]
        · rw [if_neg h12]; exact ⟨rfl, c2, c3, c4⟩
    · refine ⟨N2, -1, ?_, ?_⟩
      · rw [q93_0, if_pos o, g2, if_pos o3, isn', bI_s, if_neg (by decide), if_pos o, g2, if_pos o3, if_pos o, h5, n3, if_pos (by rw [nI_leI (by omega) (by omega)]; omega), if_pos rfl, q93_51, if_pos rfl, if_pos o, g2, if_pos o3, isn', bI_s, if_neg (by decide), if_pos o, b1', bI_s]
      · rw [if_neg (fun z => hm z.2), if_pos hk2]; exact ⟨rfl, b2, b3, b4⟩
  · have isn' := isn d
    rw [decide_eq_false hk2] at isn'
    refine ⟨N1, -1, ?_, ?_⟩
    · rw [q93_0, if_pos o, g2, if_pos o3, isn', bI_s, if_pos (by decide), if_pos rfl, q93_51, if_pos rfl, if_pos o, g2, if_pos o3, isn', bI_s, if_pos (by decide), if_pos o, a1', bI_s]
    · rw [if_neg (fun z => hk2 z.1), if_neg hk2]; exact ⟨rfl, a2, a3, a4⟩
