/-! ===== what stands here: the class asks ===== -/
def txL : List (List Nat) := [[109, 97, 114, 107], [114, 111, 111, 116], [109, 117, 115, 116], [109, 97, 121], [111, 110, 101], [108, 97, 119], [110, 111, 116], [97, 110, 100], [111, 114], [108, 105, 110, 101], [112, 108, 97, 105, 110], [111, 116, 104, 101, 114], [112, 97, 116, 99, 104], [109, 117, 108], [115, 101, 116], [97, 100, 100], [115, 117, 109], [105, 102]]
def tx (i : Nat) : List Nat := txL.getD i []
def TXT (E : Mm) : Prop := ∀ i j, i < 18 → j < stL i → gI E (2000 + i) j = stB i j
theorem tx_b : ∀ i, i < 18 → (tx i).length = stL i ∧ 0 < stL i ∧ stL i < 8 ∧ okS (1000 + i) = true ∧ (SH (2000 + i)).1 = 101 ∧ (SH (2000 + i)).2 = stL i ∧ (Int32.ofNat (stL i)) >>> ((0 : Int32) &&& 31) = nI (stL i) := by decide +kernel
theorem tx_c : ∀ i, i < 18 → ∀ j, j < 5 → j < stL i → ((((stB i j) &&& (255 : Int32)).toUInt32 % 65536).toInt32) = nI ((tx i).getD j 0) ∧ 1 ≤ (tx i).getD j 0 ∧ (tx i).getD j 0 < 128 := by decide +kernel
theorem st5 : ∀ i, i < 18 → stL i ≤ 5 := by decide +kernel
theorem ext_A {M : Mm} {i : Nat} (hi : i < 18) : okA M (2000 + i) 1 = true ∧ aLen M (2000 + i) = stL i := by
  obtain ⟨-, -, -, -, h1, h2, -⟩ := tx_b i hi
  refine ⟨?_, ?_⟩
  · simp only [okA, Bool.and_eq_true, Bool.or_eq_true, Nat.ble_eq]
    exact ⟨⟨by omega, Or.inr (by omega)⟩, by rw [h1]; rfl⟩
  · unfold aLen
    rw [if_neg (by omega), h2]
theorem c_strlen {d i : Nat} {M : Mm} (hi : i < 18) : go (d + 2) 240 0 [.ref (1000 + i)] [] M = some (some (.int (nI (stL i))), M) := by
  obtain ⟨-, -, -, h1, -, -, h2⟩ := tx_b i hi
  obtain ⟨a1, a2⟩ := ext_A (M := M) hi
  have hL : okL M (1000 + i + 1000) = true := by
    rw [show 1000 + i + 1000 = 2000 + i by omega]
    unfold okL; rw [a1]; simp
  rw [q240_0, if_pos h1, if_pos hL, if_pos h1, q242_0, if_neg (by decide), if_pos h1, bI_s, show 1000 + i + 1000 = 2000 + i by omega, a2, h2]
theorem c_charAt {d i j : Nat} {E M : Mm} (hE : TXT E) (hX : EXT E M) (hi : i < 18) (hj : j < stL i) : go (d + 4) 241 0 [.ref (1000 + i), .int (nI j)] [] M = some (some (.int (nI ((tx i).getD j 0))), M) := by
  obtain ⟨-, -, h8, h1, -, -, -⟩ := tx_b i hi
  obtain ⟨a1, a2⟩ := ext_A (M := M) hi
  have h5 := st5 i hi
  obtain ⟨c1, -, -⟩ := tx_c i hi j (by omega) hj
  have g : gI M (2000 + i) j = stB i j := by rw [(hX (2000 + i) (by omega)).1]; exact hE i j hi hj
  have hL : okL M (2000 + i) = true := by unfold okL; rw [a1]; simp
  have hB : rB M (2000 + i) (nI j) = true := by
    unfold rB rOK
    rw [a1, a2, inB_n hj (by omega)]; rfl
  have h248 : go (d + 1) 248 0 [.int (nI j), .int (Int32.ofNat (stL i)), .ref 5000] [] M = some (some (.int (nI j)), M) := by
    rw [q248_0, if_neg (nI_pos (by omega)), if_pos (by rw [show Int32.ofNat (stL i) = nI (stL i) from rfl, nI_ltI (by omega) (by omega)]; omega)]
  rw [q241_0, if_pos h1, q243_0, if_neg (by decide), if_pos h1, if_pos rfl, bI_s, if_neg (by decide), if_pos h1, show 1000 + i + 1000 = 2000 + i by omega, q245_0, if_pos hL, a2, q244_0, h248, bI_s, bV_s, if_pos hB, if_pos (pk_nc _), bI_s, if_pos (pk_nc _), nI_clamp (by omega), g, c1]
theorem fr_zero {p : Nat → Bool} : ∀ {m k : Nat}, fr p m k = 0 ↔ ∀ j, k ≤ j → j < k + m → p j = false
  | 0, k => ⟨fun _ j h1 h2 => by omega, fun _ => rfl⟩
  | m + 1, k => by
    rw [fr]
    cases hp : p k with
    | true =>
      rw [if_pos rfl]
      exact ⟨fun h => by omega, fun h => by rw [h k (by omega) (by omega)] at hp; cases hp⟩
    | false =>
      rw [if_neg (by decide), fr_zero]
      constructor
      · intro h j h1 h2
        by_cases e : j = k
        · rw [e]; exact hp
        · exact h j (by omega) (by omega)
      · intro h j h1 h2
        exact h j (by omega) (by omega)
theorem map_eq {f : Nat → Nat} {l : List Nat} {c : Nat} (hl : l.length = c) : (List.range c).map f = l ↔ ∀ j, j < c → f j = l.getD j 0 := by
  constructor
  · intro h j hj
    rw [← h]
    simp [List.getD_eq_getElem?_getD, hj]
  · intro h
    apply List.ext_getElem
    · simp [hl]
    · intro j h1 h2
      have := h j (by omega)
      rw [List.getD_eq_getElem?_getD, List.getElem?_eq_getElem h2] at this
      simpa using this
theorem c_isWord {d i p : Nat} {E M : Mm} {T : Tp} (hG : Gd M) (hT : TPC M T) (hp : p ≤ T.1) (h : TkC M T p) (hE : TXT E) (hX : EXT E M) (hi : i < 18) : go (d + 5) 110 0 [.ref 3, .ref (1000 + i), .null] [] M = some (some (.int (b2i (decide (tkW T p = tx i)))), M) := by
  obtain ⟨l1, l2, l3, h1, -, -, -⟩ := tx_b i hi
  have h5' := st5 i hi
  have o := ok_3 hG
  obtain ⟨k2, k4, k5, -⟩ := h
  have hb := tkE_b T hp
  have hs := tkS_b T hp
  have hn := hT.1
  have hkr : tkK T p ≤ 4 := by
    have := tkK0_r T p
    unfold tkK; split <;> omega
  have e1 : nI (tkK T p) = (1 : Int32) ↔ tkK T p = 1 := nI_eq (a := tkK T p) (b := 1) (by omega) (by omega)
  rw [q110_0, if_pos o, k4]
  simp only [e1]
  by_cases hk : tkK T p = 1
  · rw [if_pos hk, if_pos o, if_pos h1, c_strlen hi, bI_s, k5]
    have ew : tkW T p = (List.range (tkE T p - tkS T p)).map (fun i => T.2 (tkS T p + i)) := by unfold tkW; rw [if_pos hk]
    have el : nI (tkE T p - tkS T p) = nI (stL i) ↔ tkE T p - tkS T p = stL i := nI_eq (by omega) (by omega)
    simp only [el]
    by_cases hl : tkE T p - tkS T p = stL i
    · rw [if_pos hl, show (0 : Int32) = nI 0 from rfl]
      have hr := loopP (σ := Unit) (fun j _ => go (d + 5) 110 23 [.ref 3, .ref (1000 + i), .int (nI j)] [] M) (fun j => !decide (T.2 (tkS T p + j) = (tx i).getD j 0)) (stL i) (some (some (.int 1), M)) (fun _ => some (some (.int 0), M)) (fun j u hj => by
        obtain ⟨v1, v2⟩ := hT.2.2 (tkS T p + j) (by omega)
        obtain ⟨-, -, c3⟩ := tx_c i hi j (by omega) hj
        have eb := byI_eq _ v1 _ c3
        try dsimp only
        rw [q110_23, if_pos o, k5, if_neg (by rw [nI_leI (by omega) (by omega)]; omega), if_pos o, if_pos o, k2, nI_add, gr_3_0 hG, if_pos (rk_4 hG (by omega)), if_pos h1, c_charAt hE hX hi hj, bI_s, nI_clamp (by omega), v2, nI_1]
        simp only [eb]
        by_cases e : T.2 (tkS T p + j) = (tx i).getD j 0
        · exact ⟨fun z => (by rw [decide_eq_true e] at z; cases z), fun _ => ⟨(), by rw [if_pos e]⟩⟩
        · exact ⟨fun _ => by rw [if_neg e], fun z => by rw [decide_eq_false e] at z; cases z⟩) (fun u => by
        try dsimp only
        rw [q110_23, if_pos o, k5, if_pos (by rw [nI_leI (by omega) (by omega)]; omega)]) (stL i) 0 () (by omega)
      try dsimp only at hr
      have hq : tkW T p = tx i ↔ fr (fun j => !decide (T.2 (tkS T p + j) = (tx i).getD j 0)) (stL i) 0 = 0 := by
        rw [ew, hl, map_eq l1, fr_zero]
        constructor
        · intro z j _ hj; rw [decide_eq_true (z j (by omega))]; rfl
        · intro z j hj
          have := z j (by omega) (by omega)
          simpa using this
      rw [hr]
      by_cases hf : fr (fun j => !decide (T.2 (tkS T p + j) = (tx i).getD j 0)) (stL i) 0 = 0
      · rw [if_pos hf, decide_eq_true (hq.mpr hf)]; rfl
      · rw [if_neg hf, decide_eq_false (fun z => hf (hq.mp z))]; rfl
    · rw [if_neg hl, decide_eq_false (fun z => hl (by have := congrArg List.length z; rw [ew] at this; simp at this; omega))]; rfl
  · rw [if_neg hk, decide_eq_false (fun z => by
      have e : tkW T p = [] := by unfold tkW; rw [if_neg hk]
      rw [e] at z
      rw [← z] at l1
      simp at l1; omega)]; rfl
def tkG (T : Tp) (p ch : Nat) : Bool := decide (tkK T p = 3) && decide (T.2 (tkS T p) = ch)
theorem tkS_lt {T : Tp} {p : Nat} (h : tkK0 T p ≠ 0) : tkS T p < T.1 := by
  unfold tkK0 at h
  by_cases z : tkS T p < T.1
  · exact z
  · rw [if_neg z] at h; exact absurd rfl h
theorem tkK_r (T : Tp) (p : Nat) : tkK T p ≤ 4 := by
  have := tkK0_r T p
  unfold tkK; split <;> omega
theorem c_isSign {d ch p : Nat} {M : Mm} {T : Tp} (hG : Gd M) (hT : TPC M T) (hp : p ≤ T.1) (h : TkC M T p) (hc : ch < 128) : go (d + 1) 109 0 [.ref 3, .int (nI ch)] [] M = some (some (.int (b2i (tkG T p ch))), M) := by
  have o := ok_3 hG
  have hkr := tkK_r T p
  have e3 : nI (tkK T p) = (3 : Int32) ↔ tkK T p = 3 := nI_eq (a := tkK T p) (b := 3) (by omega) (by omega)
  rw [q109_0, if_pos o, h.2.1]
  simp only [e3]
  unfold tkG
  by_cases hk : tkK T p = 3
  · have hlt : tkS T p < T.1 := tkS_lt (fun z => by rw [(tkK_0 T p).mpr z] at hk; omega)
    obtain ⟨v1, v2⟩ := hT.2.2 _ hlt
    have hn := hT.1
    rw [if_pos hk, if_pos o, if_pos o, h.1, gr_3_0 hG, if_pos (rk_4 hG (by omega)), nI_clamp (by omega), v2, decide_eq_true hk]
    simp only [byI_eq _ v1 _ hc]
    by_cases e : T.2 (tkS T p) = ch
    · rw [if_pos e, decide_eq_true e]; rfl
    · rw [if_neg e, decide_eq_false e]; rfl
  · rw [if_neg hk, decide_eq_false hk]; rfl
theorem c_isNum {d p : Nat} {M : Mm} {T : Tp} (hG : Gd M) (h : TkC M T p) : go (d + 1) 108 0 [.ref 3] [] M = some (some (.int (b2i (decide (tkK T p = 2)))), M) := by
  have hkr := tkK_r T p
  have e3 : nI (tkK T p) = (2 : Int32) ↔ tkK T p = 2 := nI_eq (a := tkK T p) (b := 2) (by omega) (by omega)
  rw [q108_0, if_pos (ok_3 hG), h.2.1]
  simp only [e3]
  by_cases hk : tkK T p = 2
  · rw [if_pos hk, decide_eq_true hk]; rfl
  · rw [if_neg hk, decide_eq_false hk]; rfl
theorem c_atEnd {d p : Nat} {M : Mm} {T : Tp} (hG : Gd M) (h : TkC M T p) : go (d + 1) 107 0 [.ref 3] [] M = some (some (.int (b2i (decide (tkK T p = 0)))), M) := by
  have hkr := tkK_r T p
  have e3 : nI (tkK T p) = (0 : Int32) ↔ tkK T p = 0 := nI_eq (a := tkK T p) (b := 0) (by omega) (by omega)
  rw [q107_0, if_pos (ok_3 hG), h.2.1]
  simp only [e3]
  by_cases hk : tkK T p = 0
  · rw [if_pos hk, decide_eq_true hk]; rfl
  · rw [if_neg hk, decide_eq_false hk]; rfl
/-! ===== the model's pieces ===== -/
def TPM (N : Mm) (T : Tp) : Prop := T.1 ≤ 500 ∧ gI N 171 23 = nI T.1 ∧ ∀ k, k < T.1 → T.2 k < 256 ∧ gI N 187 k = nI (T.2 k)
def Sd (r k : Nat) : Prop := r = 171 ∧ 24 ≤ k ∧ k ≤ 27
theorem TPM_sd {M N : Mm} {T : Tp} (hT : TPM M T) (h : Sm Sd NoL M N) : TPM N T :=
  ⟨hT.1, by rw [h.2.2.1 _ _ (by unfold Sd; omega)]; exact hT.2.1, fun k hk => by rw [h.2.2.1 _ _ (by unfold Sd; omega)]; exact hT.2.2 k hk⟩
/-- the model's number of a piece's kind -/
def mkd (k : Nat) : Nat := if k = 4 then 0 else k + 1
def TkM (N : Mm) (T : Tp) (p : Nat) : Prop := gI N 171 26 = nI (tkS T p) ∧ gI N 171 27 = nI (tkE T p) ∧ gI N 171 24 = nI (tkE T p) ∧ gI N 171 25 = nI (mkd (tkK T p))
def btI (T : Tp) (q : Nat) : Int32 := if q < T.1 then nI (T.2 q) else NONE
theorem m_byteAt {d q : Nat} {M : Mm} {T : Tp} (hG : Gd M) (hT : TPM M T) (hq : q ≤ 500) : go (d + 1) 163 0 [.ref 171, .int (nI q)] [] M = some (some (.int (btI T q)), M) := by
  have o := ok_171 hG
  have hn := hT.1
  rw [q163_0, if_pos o, hT.2.1]
  unfold btI
  by_cases h : q < T.1
  · rw [if_neg (by rw [nI_leI (by omega) (by omega)]; omega), if_pos o, gr_171_20 hG, if_pos (rk_187 hG (by omega)), nI_clamp (by omega), (hT.2.2 q h).2, if_pos h]
  · rw [if_pos (by rw [nI_leI (by omega) (by omega)]; omega), if_neg h]
def ltI (x : Int32) : Bool := !decide (x < 97) && !decide (122 < x)
def fgI (x : Int32) : Bool := !decide (x < 48) && !decide (57 < x)
theorem m_isLetter {d : Nat} {M : Mm} (x : Int32) : go (d + 1) 164 0 [.int x] [] M = some (some (.int (b2i (ltI x))), M) := by
  rw [q164_0]; unfold ltI
  by_cases h1 : x < 97 <;> by_cases h2 : 122 < x <;> simp [h1, h2, b2i]
theorem m_isFigure {d : Nat} {M : Mm} (x : Int32) : go (d + 1) 165 0 [.int x] [] M = some (some (.int (b2i (fgI x))), M) := by
  rw [q165_0]; unfold fgI
  by_cases h1 : x < 48 <;> by_cases h2 : 57 < x <;> simp [h1, h2, b2i]
theorem lt_n : ∀ v, v < 256 → ltI (nI v) = decide (soB v = 1) ∧ fgI (nI v) = decide (soB v = 2) ∧ (soB v = 3 ↔ (nI v = 59 ∨ nI v = 40 ∨ nI v = 41)) := by decide +kernel
theorem bt_sp {T : Tp} {q c : Nat} (hv : q < T.1 → T.2 q < 256) (hc : c < 256) : btI T q = nI c ↔ (q < T.1 ∧ T.2 q = c) := by
  unfold btI
  by_cases h : q < T.1
  · have := hv h
    rw [if_pos h, nI_eq (by omega) (by omega)]
    exact ⟨fun z => ⟨h, z⟩, fun z => z.2⟩
  · rw [if_neg h]
    exact ⟨fun z => absurd z (none_ne (by omega)), fun z => absurd z.1 h⟩
theorem bt_lt {T : Tp} {q : Nat} (hv : q < T.1 → T.2 q < 256) : ltI (btI T q) = decide (q < T.1 ∧ soB (T.2 q) = 1) := by
  unfold btI
  by_cases h : q < T.1
  · rw [if_pos h, (lt_n _ (hv h)).1]; exact decide_eq_decide.mpr ⟨fun z => ⟨h, z⟩, fun z => z.2⟩
  · rw [if_neg h, decide_eq_false (fun z => h z.1)]; rfl
theorem bt_fg {T : Tp} {q : Nat} (hv : q < T.1 → T.2 q < 256) : fgI (btI T q) = decide (q < T.1 ∧ soB (T.2 q) = 2) := by
  unfold btI
  by_cases h : q < T.1
  · rw [if_pos h, (lt_n _ (hv h)).2.1]; exact decide_eq_decide.mpr ⟨fun z => ⟨h, z⟩, fun z => z.2⟩
  · rw [if_neg h, decide_eq_false (fun z => h z.1)]; rfl
theorem m_letters {d : Nat} {M : Mm} {T : Tp} {x : Int32} (hG : Gd M) (hT : TPM M T) : ∀ (m q : Nat) (N : Mm), q + m = T.1 → Sm Sd NoL M N → gI N 171 24 = nI q → ∃ N', go (d + 2) 166 77 [.ref 171, .int x] [] N = some (none, sI (sI N' 171 25 2) 171 27 (nI (ruE T 1 q))) ∧ Sm (fun r k => r = 171 ∧ k = 24) NoL N N' ∧ gI N' 171 24 = nI (ruE T 1 q)
  | 0, q, N, hq, hS, h24 => by
    have hGN := Gd_Sm hS hG
    have hTN := TPM_sd hT hS
    have o := ok_171 hGN
    have hn := hT.1
    have e : ruE T 1 q = q := ruE_end (by omega)
    refine ⟨N, ?_, Sm_refl, by rw [e]; exact h24⟩
    have g : gI (sI N 171 25 2) 171 24 = nI q := (gI_ne (by omega)).trans h24
    rw [q166_77, if_pos o, if_pos o, h24, m_byteAt hGN hTN (by omega), bI_s, m_isLetter, bI_s, bt_lt (fun h => (hT.2.2 q h).1), decide_eq_false (by omega), if_pos (by rfl), if_pos o, bM_d, okO_sI, if_pos o, if_pos o, bM_d, g, e]
  | m + 1, q, N, hq, hS, h24 => by
    have hGN := Gd_Sm hS hG
    have hTN := TPM_sd hT hS
    have o := ok_171 hGN
    have hn := hT.1
    by_cases hc : soB (T.2 q) = 1
    · obtain ⟨N', r1, r2, r3⟩ := m_letters (d := d) (x := x) hG hT m (q + 1) (sI N 171 24 (nI (q + 1))) (by omega) (Sm_trans hS (Sm_sI (by unfold Sd; omega))) gI_at
      have e := ruE_go (T := T) (s := 1) (p := q) (by omega) hc
      refine ⟨N', ?_, Sm_trans (Sm_sI ⟨rfl, rfl⟩) r2, by rw [e]; exact r3⟩
      rw [q166_77, if_pos o, if_pos o, h24, m_byteAt hGN hTN (by omega), bI_s, m_isLetter, bI_s, bt_lt (fun h => (hT.2.2 q h).1), decide_eq_true ⟨by omega, hc⟩, if_neg (by decide), if_pos o, if_pos o, h24, bM_d, nI_1, e]
      exact r1
    · have e : ruE T 1 q = q := ruE_no hc
      refine ⟨N, ?_, Sm_refl, by rw [e]; exact h24⟩
      have g : gI (sI N 171 25 2) 171 24 = nI q := (gI_ne (by omega)).trans h24
      rw [q166_77, if_pos o, if_pos o, h24, m_byteAt hGN hTN (by omega), bI_s, m_isLetter, bI_s, bt_lt (fun h => (hT.2.2 q h).1), decide_eq_false (fun z => hc z.2), if_pos (by rfl), if_pos o, bM_d, okO_sI, if_pos o, if_pos o, bM_d, g, e]
theorem m_figures {d : Nat} {M : Mm} {T : Tp} {x : Int32} {s : Nat} (hG : Gd M) (hT : TPM M T) : ∀ (m q : Nat) (N : Mm), q + m = T.1 → Sm Sd NoL M N → gI N 171 24 = nI q → gI N 171 26 = nI s → s ≤ q → ∃ N', go (d + 2) 166 119 [.ref 171, .int x] [] N = some (none, sI (sI N' 171 25 (if ruE T 2 q - s ≤ 3 then 3 else 0)) 171 27 (nI (ruE T 2 q))) ∧ Sm (fun r k => r = 171 ∧ k = 24) NoL N N' ∧ gI N' 171 24 = nI (ruE T 2 q)
  | 0, q, N, hq, hS, h24, h26, hsq => by
    have hGN := Gd_Sm hS hG
    have hTN := TPM_sd hT hS
    have o := ok_171 hGN
    have hn := hT.1
    have e : ruE T 2 q = q := ruE_end (by omega)
    refine ⟨N, ?_, Sm_refl, by rw [e]; exact h24⟩
    have g : ∀ v, gI (sI N 171 25 v) 171 24 = nI q := fun v => (gI_ne (by omega)).trans h24
    rw [q166_119, if_pos o, if_pos o, h24, m_byteAt hGN hTN (by omega), bI_s, m_isFigure, bI_s, bt_fg (fun h => (hT.2.2 q h).1), decide_eq_false (by omega), if_pos (by rfl), if_pos o, if_pos o, h24, h26, pk_sub hsq]
    simp only [o, if_true, bM_d, okO_sI, g, e]
    by_cases h3 : q - s ≤ 3
    · rw [if_pos (by rw [show (3 : Int32) = nI 3 from rfl, nI_leI (by omega) (by omega)]; exact h3), if_pos h3]
    · rw [if_neg (by rw [show (3 : Int32) = nI 3 from rfl, nI_leI (by omega) (by omega)]; exact h3), if_neg h3]
  | m + 1, q, N, hq, hS, h24, h26, hsq => by
    have hGN := Gd_Sm hS hG
    have hTN := TPM_sd hT hS
    have o := ok_171 hGN
    have hn := hT.1
    by_cases hc : soB (T.2 q) = 2
    · obtain ⟨N', r1, r2, r3⟩ := m_figures (d := d) (x := x) hG hT m (q + 1) (sI N 171 24 (nI (q + 1))) (by omega) (Sm_trans hS (Sm_sI (by unfold Sd; omega))) gI_at ((gI_ne (by omega)).trans h26) (by omega)
      have e := ruE_go (T := T) (s := 2) (p := q) (by omega) hc
      refine ⟨N', ?_, Sm_trans (Sm_sI ⟨rfl, rfl⟩) r2, by rw [e]; exact r3⟩
      rw [q166_119, if_pos o, if_pos o, h24, m_byteAt hGN hTN (by omega), bI_s, m_isFigure, bI_s, bt_fg (fun h => (hT.2.2 q h).1), decide_eq_true ⟨by omega, hc⟩, if_neg (by decide), if_pos o, if_pos o, h24, bM_d, nI_1, e]
      exact r1
    · have e : ruE T 2 q = q := ruE_no hc
      refine ⟨N, ?_, Sm_refl, by rw [e]; exact h24⟩
      have g : ∀ v, gI (sI N 171 25 v) 171 24 = nI q := fun v => (gI_ne (by omega)).trans h24
      rw [q166_119, if_pos o, if_pos o, h24, m_byteAt hGN hTN (by omega), bI_s, m_isFigure, bI_s, bt_fg (fun h => (hT.2.2 q h).1), decide_eq_false (fun z => hc z.2), if_pos (by rfl), if_pos o, if_pos o, h24, h26, pk_sub hsq]
      simp only [o, if_true, bM_d, okO_sI, g, e]
      by_cases h3 : q - s ≤ 3
      · rw [if_pos (by rw [show (3 : Int32) = nI 3 from rfl, nI_leI (by omega) (by omega)]; exact h3), if_pos h3]
      · rw [if_neg (by rw [show (3 : Int32) = nI 3 from rfl, nI_leI (by omega) (by omega)]; exact h3), if_neg h3]
theorem m_step {d : Nat} {M : Mm} {T : Tp} (hG : Gd M) (hT : TPM M T) : ∀ (m q : Nat) (N : Mm), q + m = T.1 → Sm Sd NoL M N → gI N 171 24 = nI q → ∃ N', go (d + 2) 166 0 [.ref 171, .null] [] N = some (none, N') ∧ Sm Sd NoL M N' ∧ TkM N' T q
  | m, q, N, hq, hS, h24 => by
    have hGN := Gd_Sm hS hG
    have hTN := TPM_sd hT hS
    have o := ok_171 hGN
    have hn := hT.1
    have hv : q < T.1 → T.2 q < 256 := fun h => (hT.2.2 q h).1
    have b32 : btI T q = (32 : Int32) ↔ (q < T.1 ∧ T.2 q = 32) := bt_sp (c := 32) hv (by omega)
    have b10 : btI T q = (10 : Int32) ↔ (q < T.1 ∧ T.2 q = 10) := bt_sp (c := 10) hv (by omega)
    have ba := m_byteAt (d := d) (q := q) hGN hTN (by omega)
    by_cases hw : q < T.1 ∧ wsB (T.2 q) = true
    · have hw2 := hw.2
      unfold wsB at hw2
      simp only [Bool.or_eq_true, decide_eq_true_eq] at hw2
      match m, hq with
      | 0, hq => omega
      | m + 1, hq =>
        obtain ⟨N', r1, r2, r3⟩ := m_step (d := d) hG hT m (q + 1) (sI N 171 24 (nI (q + 1))) (by omega) (Sm_trans hS (Sm_sI (by unfold Sd; omega))) gI_at
        have e1 := tkS_ws (T := T) (p := q) hw.1 hw.2
        have k0 : tkK0 T q = tkK0 T (q + 1) := by unfold tkK0; rw [e1]
        have e2 : tkE T q = tkE T (q + 1) := by unfold tkE; rw [k0, e1]
        have e3 : tkK T q = tkK T (q + 1) := by unfold tkK; rw [k0, e1, e2]
        refine ⟨N', ?_, r2, ?_⟩
        · rw [q166_0, if_pos o, if_pos o, h24, ba, bI_s]
          by_cases z : T.2 q = 32
          · rw [if_pos (b32.mpr ⟨hw.1, z⟩), if_pos o, if_pos o, h24, bM_d, nI_1]
            exact r1
          · rw [if_neg (fun y => z (b32.mp y).2), if_pos o, if_pos o, h24, ba, bI_s, if_pos (b10.mpr ⟨hw.1, by omega⟩), if_pos o, if_pos o, h24, bM_d, nI_1]
            exact r1
        · unfold TkM at r3 ⊢
          rw [e1, e2, e3]; exact r3
    · have eS : tkS T q = q := by
        by_cases h : q < T.1
        · exact tkS_no (by
            cases hz : wsB (T.2 q) with
            | false => rfl
            | true => exact absurd ⟨h, hz⟩ hw)
        · exact tkS_end (by omega)
      have n32 : ¬ btI T q = (32 : Int32) := fun y => hw ⟨(b32.mp y).1, by unfold wsB; rw [(b32.mp y).2]; rfl⟩
      have n10 : ¬ btI T q = (10 : Int32) := fun y => hw ⟨(b10.mp y).1, by unfold wsB; rw [(b10.mp y).2]; rfl⟩
      have S6 : Sm Sd NoL M (sI N 171 26 (nI q)) := Sm_trans hS (Sm_sI (by unfold Sd; omega))
      have hG6 : Gd (sI N 171 26 (nI q)) := hGN
      have hT6 := TPM_sd hT S6
      have o6 := ok_171 hG6
      have g24 : gI (sI N 171 26 (nI q)) 171 24 = nI q := (gI_ne (by omega)).trans h24
      have ba6 := m_byteAt (d := d) (q := q) hG6 hT6 (by omega)
      have bn : btI T q = (-1000000 : Int32) ↔ ¬ q < T.1 := by
        unfold btI
        by_cases h : q < T.1
        · rw [if_pos h]; exact ⟨fun y => absurd y.symm (none_ne (by have := hv h; omega)), fun y => absurd h y⟩
        · rw [if_neg h]; exact ⟨fun _ => h, fun _ => rfl⟩
      rw [q166_0, if_pos o, if_pos o, h24, ba, bI_s, if_neg n32, if_pos o, if_pos o, h24, ba, bI_s, if_neg n10, if_pos o, if_pos o, bM_d, h24, if_pos o6, if_pos o6, g24, ba6, bI_s]
      by_cases h : q < T.1
      · have hv' := hv h
        have hsr := soB_r (T.2 q)
        have k0 : tkK0 T q = soB (T.2 q) := by unfold tkK0; rw [eS, if_pos h]
        rw [if_neg (fun y => (bn.mp y) h), m_isLetter, bI_s, bt_lt hv, m_isFigure, bI_s, bt_fg hv]
        have b2 : ∀ {P : Prop} [Decidable P], (b2i (decide P) = 0) ↔ ¬ P := fun {P} _ => by rw [b2i0, decide_eq_false_iff_not]
        by_cases h1 : soB (T.2 q) = 1
        · obtain ⟨N', r1, r2, r3⟩ := m_letters (d := d) (x := btI T q) hG hT (T.1 - q) q (sI N 171 26 (nI q)) (by omega) S6 g24
          have eE : tkE T q = ruE T 1 q := by
            unfold tkE; rw [k0, h1, if_neg (by omega), if_pos (Or.inl rfl), eS, ← ruE_go h h1]
          have eK : tkK T q = 1 := by unfold tkK; rw [k0, h1, if_neg (by omega)]
          rw [if_neg (fun y => (b2.mp y) ⟨h, h1⟩)]
          refine ⟨_, r1, Sm_trans S6 (Sm_trans (Sm_mono (fun r k z => by unfold Sd; omega) (fun r z => z) r2) (Sm_trans (Sm_sI (by unfold Sd; omega)) (Sm_sI (by unfold Sd; omega)))), ?_, ?_, ?_, ?_⟩
          · rw [gI_ne (by omega), gI_ne (by omega), r2.2.2.1 _ _ (by show ¬ _; omega), gI_at, eS]
          · rw [gI_at, eE]
          · rw [gI_ne (by omega), gI_ne (by omega), r3, eE]
          · rw [gI_ne (by omega), gI_at, eK]; rfl
        · rw [if_pos (b2.mpr (fun z => h1 z.2))]
          by_cases h2 : soB (T.2 q) = 2
          · obtain ⟨N', r1, r2, r3⟩ := m_figures (d := d) (x := btI T q) (s := q) hG hT (T.1 - q) q (sI N 171 26 (nI q)) (by omega) S6 g24 gI_at (Nat.le_refl _)
            have eE : tkE T q = ruE T 2 q := by
              unfold tkE; rw [k0, h2, if_neg (by omega), if_pos (Or.inr rfl), eS, ← ruE_go h h2]
            rw [if_neg (fun y => (b2.mp y) ⟨h, h2⟩)]
            refine ⟨_, r1, Sm_trans S6 (Sm_trans (Sm_mono (fun r k z => by unfold Sd; omega) (fun r z => z) r2) (Sm_trans (Sm_sI (by unfold Sd; omega)) (Sm_sI (by unfold Sd; omega)))), ?_, ?_, ?_, ?_⟩
            · rw [gI_ne (by omega), gI_ne (by omega), r2.2.2.1 _ _ (by show ¬ _; omega), gI_at, eS]
            · rw [gI_at, eE]
            · rw [gI_ne (by omega), gI_ne (by omega), r3, eE]
            · rw [gI_ne (by omega), gI_at]
              unfold tkK
              rw [k0, h2, eE, eS]
              by_cases h3 : ruE T 2 q - q ≤ 3
              · rw [if_pos h3, if_neg (by omega)]; rfl
              · rw [if_neg h3, if_pos (by omega)]; rfl
          · have eE : tkE T q = q + 1 := by unfold tkE; rw [k0, if_neg (by omega), if_neg (by omega), eS]
            have eK : tkK T q = soB (T.2 q) := by unfold tkK; rw [k0, if_neg (by omega)]
            have g13 : ∀ v, gI (sI (sI (sI N 171 26 (nI q)) 171 24 (nI (q + 1))) 171 25 v) 171 24 = nI (q + 1) := fun v => by rw [gI_ne (by omega), gI_at]
            have s3 := (lt_n _ hv').2.2
            have bt : btI T q = nI (T.2 q) := by unfold btI; rw [if_pos h]
            have fin : ∀ v : Int32, v = nI (mkd (tkK T q)) → ∃ N', some (none, sI (sI (sI (sI N 171 26 (nI q)) 171 24 (nI (q + 1))) 171 25 v) 171 27 (nI (q + 1))) = some ((none : Option Value), N') ∧ Sm Sd NoL M N' ∧ TkM N' T q := fun v hv => by
              refine ⟨_, rfl, Sm_trans S6 (Sm_trans (Sm_sI (by unfold Sd; omega)) (Sm_trans (Sm_sI (by unfold Sd; omega)) (Sm_sI (by unfold Sd; omega)))), ?_, ?_, ?_, ?_⟩
              · rw [gI_ne (by omega), gI_ne (by omega), gI_ne (by omega), gI_at, eS]
              · rw [gI_at, eE]
              · rw [gI_ne (by omega), g13, eE]
              · rw [gI_ne (by omega), gI_at, hv]
            rw [if_pos (b2.mpr (fun z => h2 z.2))]
            simp only [o6, if_true, g24, bM_d, nI_1, okO_sI, g13, bt, o]
            by_cases h3 : soB (T.2 q) = 3
            · have f4 := fin 4 (by rw [eK, h3]; rfl)
              rcases s3.mp h3 with z | z | z
              · rw [if_pos z]; exact f4
              · by_cases z1 : nI (T.2 q) = (59 : Int32)
                · rw [if_pos z1]; exact f4
                · rw [if_neg z1, if_pos z]; exact f4
              · by_cases z1 : nI (T.2 q) = (59 : Int32)
                · rw [if_pos z1]; exact f4
                · by_cases z2 : nI (T.2 q) = (40 : Int32)
                  · rw [if_neg z1, if_pos z2]; exact f4
                  · rw [if_neg z1, if_neg z2, if_pos z]; exact f4
            · rw [if_neg (fun z => h3 (s3.mpr (Or.inl z))), if_neg (fun z => h3 (s3.mpr (Or.inr (Or.inl z)))), if_neg (fun z => h3 (s3.mpr (Or.inr (Or.inr z))))]
              exact fin 0 (by rw [eK, show soB (T.2 q) = 4 by omega]; rfl)
      · have k0 : tkK0 T q = 0 := by unfold tkK0; rw [eS, if_neg h]
        have eE : tkE T q = q := by unfold tkE; rw [if_pos k0, eS]
        have eK : tkK T q = 0 := by unfold tkK; rw [k0, if_neg (by omega)]
        have g22 : gI (sI (sI N 171 26 (nI q)) 171 25 1) 171 24 = nI q := by rw [gI_ne (by omega)]; exact g24
        rw [if_pos (bn.mpr h), if_pos o6, bM_d, okO_sI, if_pos o6, if_pos o6, bM_d, g22]
        refine ⟨_, rfl, Sm_trans S6 (Sm_trans (Sm_sI (by unfold Sd; omega)) (Sm_sI (by unfold Sd; omega))), ?_, ?_, ?_, ?_⟩
        · rw [gI_ne (by omega), gI_ne (by omega), gI_at, eS]
        · rw [gI_at, eE]
        · rw [gI_ne (by omega), g22, eE]
        · rw [gI_ne (by omega), gI_at, eK]; rfl
