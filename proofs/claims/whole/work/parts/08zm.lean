/-! ===== what stands here: the model asks ===== -/
theorem m_next {d p : Nat} {M : Mm} {T : Tp} (hG : Gd M) (hT : TPM M T) (hp : p ≤ T.1) (h : TkM M T p) : ∃ N, go (d + 2) 166 0 [.ref 171, .null] [] M = some (none, N) ∧ Sm Sd NoL M N ∧ TkM N T (tkE T p) := by
  have hb := tkE_b T hp
  exact m_step hG hT (T.1 - tkE T p) (tkE T p) M (by omega) Sm_refl h.2.2.1
def valN (l : List Nat) : Nat := l.foldl (fun a b => 256 * a + b) 0
theorem valN_c (l : List Nat) (b : Nat) : valN (l ++ [b]) = 256 * valN l + b := by unfold valN; rw [List.foldl_append]; rfl
theorem valN_lt : ∀ (n : Nat) (l : List Nat), l.length = n → (∀ b, b ∈ l → b < 256) → valN l < 256 ^ n
  | 0, l, h, _ => by
    rw [List.length_eq_zero_iff.mp h]; decide
  | n + 1, l, h, hb => by
    rcases List.eq_nil_or_concat l with e | ⟨a, b, e⟩
    · rw [e] at h; simp at h
    · rw [List.concat_eq_append] at e
      subst e
      have ih := valN_lt n a (by simp at h; omega) (fun c hc => hb c (by simp [hc]))
      have := hb b (by simp)
      rw [valN_c, Nat.pow_succ]
      omega
theorem valN_inj : ∀ (n : Nat) (l l' : List Nat), l.length = n → (∀ b, b ∈ l → 1 ≤ b ∧ b < 256) → (∀ b, b ∈ l' → 1 ≤ b ∧ b < 256) → valN l = valN l' → l = l'
  | 0, l, l', h, _, hb', hv => by
    have e : l = [] := List.length_eq_zero_iff.mp h
    subst e
    rcases List.eq_nil_or_concat l' with e | ⟨a, b, e⟩
    · exact e.symm
    · rw [List.concat_eq_append] at e
      subst e
      have := hb' b (by simp)
      rw [valN_c] at hv
      have h0 : valN [] = 0 := rfl
      omega
  | n + 1, l, l', h, hb, hb', hv => by
    rcases List.eq_nil_or_concat l with e | ⟨a, b, e⟩
    · rw [e] at h; simp at h
    · rw [List.concat_eq_append] at e
      subst e
      have h1 := hb b (by simp)
      rcases List.eq_nil_or_concat l' with e' | ⟨a', b', e'⟩
      · subst e'
        rw [valN_c] at hv
        have h0 : valN [] = 0 := rfl
        omega
      · rw [List.concat_eq_append] at e'
        subst e'
        have h2 := hb' b' (by simp)
        rw [valN_c, valN_c] at hv
        have e1 : b = b' := by omega
        have e2 := valN_inj n a a' (by simp at h; omega) (fun c hc => hb c (by simp [hc])) (fun c hc => hb' c (by simp [hc])) (by omega)
        rw [e1, e2]
def wvL (l : List Nat) : Int64 := if l.length < 8 then lN (valN l) else 0
theorem tkW_in {T : Tp} {p : Nat} (hp : p ≤ T.1) : ∀ b, b ∈ tkW T p → 97 ≤ b ∧ b ≤ 122 := by
  intro b hb
  have h1 := tkE_b T hp
  unfold tkW at hb
  by_cases hk : tkK T p = 1
  · rw [if_pos hk] at hb
    simp only [List.mem_map, List.mem_range] at hb
    obtain ⟨i, hi, rfl⟩ := hb
    have k0 : tkK0 T p = 1 := by
      unfold tkK at hk
      by_cases z : tkK0 T p = 2 ∧ 3 < tkE T p - tkS T p
      · rw [if_pos z] at hk; omega
      · rw [if_neg z] at hk; exact hk
    have so : soB (T.2 (tkS T p + i)) = 1 := by
      by_cases e : i = 0
      · subst e
        have := tkS_lt (T := T) (p := p) (by omega)
        unfold tkK0 at k0
        rw [if_pos this] at k0
        exact k0
      · have he : tkE T p = ruE T 1 (tkS T p + 1) := by unfold tkE; rw [k0, if_neg (by omega), if_pos (Or.inl rfl)]
        rw [he] at hi
        exact ruF_all T 1 (T.1 - (tkS T p + 1)) (tkS T p + 1) (tkS T p + i) (by omega) (by unfold ruE at hi; omega)
    unfold soB at so
    split at so
    · assumption
    · split at so
      · omega
      · split at so <;> omega
  · rw [if_neg hk] at hb; cases hb
theorem lgE {x y : Int64} : lg_cmp x y = 0 ↔ x = y := by
  unfold lg_cmp
  by_cases h1 : x > y
  · rw [if_pos h1]
    refine ⟨fun h => absurd h (by decide), fun h => ?_⟩
    subst h
    have := (fa_lt64 _ _).mp h1
    omega
  · rw [if_neg h1]
    by_cases h2 : x = y
    · rw [if_pos h2]; exact ⟨fun _ => h2, fun _ => rfl⟩
    · rw [if_neg h2]; exact ⟨fun h => absurd h (by decide), fun h => absurd h h2⟩
theorem lN_inj {a b : Nat} (ha : a < 2 ^ 64) (hb : b < 2 ^ 64) (h : lN a = lN b) : a = b := by
  have := congrArg (fun z : Int64 => z.toBitVec.toNat) h
  simp only [wb_tb, BitVec.toNat_ofNat, Nat.mod_eq_of_lt ha, Nat.mod_eq_of_lt hb] at this
  exact this
theorem tx_in : ∀ i, i < 18 → ∀ b, b ∈ tx i → 1 ≤ b ∧ b < 256 := by decide +kernel
theorem wv_is {T : Tp} {p i : Nat} (hp : p ≤ T.1) (hi : i < 18) {c : Int64} (hc : c = lN (valN (tx i))) : lg_cmp (wvL (tkW T p)) c = 0 ↔ tkW T p = tx i := by
  obtain ⟨l1, l2, l3, -⟩ := tx_b i hi
  have hin := tkW_in hp
  have hti := tx_in i hi
  have tl : valN (tx i) < 256 ^ stL i := valN_lt _ _ l1 (fun b hb => (hti b hb).2)
  have tp : (256 : Nat) ^ stL i ≤ 256 ^ 7 := Nat.pow_le_pow_right (by omega) (by omega)
  rw [lgE, hc]
  unfold wvL
  by_cases h8 : (tkW T p).length < 8
  · rw [if_pos h8]
    have wl := valN_lt _ (tkW T p) rfl (fun b hb => by have := hin b hb; omega)
    have wp : (256 : Nat) ^ (tkW T p).length ≤ 256 ^ 7 := Nat.pow_le_pow_right (by omega) (by omega)
    constructor
    · intro h
      exact valN_inj _ _ _ rfl (fun b hb => by have := hin b hb; omega) hti (lN_inj (by omega) (by omega) h)
    · intro h; rw [h]
  · rw [if_neg h8]
    constructor
    · intro h
      exfalso
      have h0 : (0 : Nat) = valN (tx i) := lN_inj (by omega) (by omega) (show lN 0 = lN (valN (tx i)) from h)
      have : tx i = [] := valN_inj _ _ _ rfl hti (fun b hb => by cases hb) (by rw [← h0]; rfl)
      rw [this] at l1
      simp at l1; omega
    · intro h
      rw [h, l1] at h8
      omega
theorem sh8 {a v : Nat} (ha : a < 2 ^ 56) (hv : v < 256) : (lN a <<< ((8 : Int32).toInt64 &&& 63)) ||| (nI v).toInt64 = lN (256 * a + v) := by
  have e1 : lN a <<< ((8 : Int32).toInt64 &&& 63) = lN (a * 2 ^ 8) := wb_shl a (k := 8) (by omega)
  rw [e1, nI_l (by omega), wb_or (by omega) (by omega)]
  have := Nat.two_pow_add_eq_or_of_lt (i := 8) (b := v) (by omega) a
  rw [show a * 2 ^ 8 = 2 ^ 8 * a by omega, ← this]
theorem range_snoc (f : Nat → Nat) (n : Nat) : (List.range (n + 1)).map f = (List.range n).map f ++ [f n] := by
  rw [List.range_succ, List.map_append]; rfl
theorem m_word {d p : Nat} {M : Mm} {T : Tp} (hG : Gd M) (hT : TPM M T) (hp : p ≤ T.1) (h : TkM M T p) : go (d + 1) 170 0 [.ref 171, .null, .null, .null] [] M = some (some (.long (wvL (tkW T p))), M) := by
  have o := ok_171 hG
  have hn := hT.1
  have hb := tkE_b T hp
  have hs := tkS_b T hp
  obtain ⟨k26, k27, k24, k25⟩ := h
  have hkr := tkK_r T p
  have em : nI (mkd (tkK T p)) = (2 : Int32) ↔ tkK T p = 1 := by
    have h1 : mkd (tkK T p) < 2 ^ 31 := by unfold mkd; split <;> omega
    rw [show (2 : Int32) = nI 2 from rfl, nI_eq h1 (by omega)]
    unfold mkd; split <;> omega
  rw [q170_0, if_pos o, k26]
  by_cases hE : tkE T p ≤ tkS T p
  · rw [q170_7, if_pos o, k27, if_pos (by rw [nI_leI (by omega) (by omega)]; exact hE)]
    have e : tkW T p = [] := by
      unfold tkW
      split
      · rw [show tkE T p - tkS T p = 0 by omega]; rfl
      · rfl
    rw [e]; rfl
  · by_cases hk : tkK T p = 1
    · have ew : tkW T p = (List.range (tkE T p - tkS T p)).map (fun i => T.2 (tkS T p + i)) := by unfold tkW; rw [if_pos hk]
      have el : (tkW T p).length = tkE T p - tkS T p := by rw [ew]; simp
      by_cases h8 : tkE T p - tkS T p < 8
      · have n8 : ¬ (8 : Int32) ≤ nI (tkE T p) - nI (tkS T p) := by
          rw [pk_sub hb.1, show (8 : Int32) = nI 8 from rfl, nI_leI (by omega) (by omega)]; omega
        obtain ⟨s, s1, s2⟩ := loopI (σ := Int64) (fun j s => go (d + 1) 170 7 [.ref 171, .long s, .null, .int (nI (tkS T p + j))] [] M) (fun j s => s = lN (valN ((List.range j).map (fun i => T.2 (tkS T p + i))))) (tkE T p - tkS T p) (fun j s hj hs => by
          subst hs
          obtain ⟨v1, v2⟩ := hT.2.2 (tkS T p + j) (by omega)
          have hlt := valN_lt j ((List.range j).map (fun i => T.2 (tkS T p + i))) (by simp) (fun b hb => by
            simp only [List.mem_map, List.mem_range] at hb
            obtain ⟨i, hi, rfl⟩ := hb
            exact (hT.2.2 _ (by omega)).1)
          have hpw : (256 : Nat) ^ j ≤ 256 ^ 7 := Nat.pow_le_pow_right (by omega) (by omega)
          refine ⟨_, ?_, rfl⟩
          try dsimp only
          rw [q170_7, if_pos o, k27, if_neg (by rw [nI_leI (by omega) (by omega)]; omega), if_pos o, k25, if_pos (em.mpr hk), if_pos o, if_pos o, k26, if_neg n8, if_pos o, gr_171_20 hG, if_pos (rk_187 hG (by omega)), nI_clamp (by omega), v2, sh8 (by omega) v1, bX_d, nI_1, range_snoc, valN_c]
          rfl) (tkE T p - tkS T p) 0 (lN 0) (by omega) rfl
        try dsimp only at s1
        rw [show (0 : Int64) = lN 0 from rfl]
        refine Eq.trans s1 ?_
        rw [q170_7, if_pos o, k27, if_pos (by rw [nI_leI (by omega) (by omega)]; omega), s2, ← ew]
        unfold wvL
        rw [if_pos (by omega)]
      · have n8 : (8 : Int32) ≤ nI (tkE T p) - nI (tkS T p) := by
          rw [pk_sub hb.1, show (8 : Int32) = nI 8 from rfl, nI_leI (by omega) (by omega)]; omega
        rw [q170_7, if_pos o, k27, if_neg (by rw [nI_leI (by omega) (by omega)]; exact hE), if_pos o, k25, if_pos (em.mpr hk), if_pos o, if_pos o, k26, if_pos n8]
        unfold wvL
        rw [if_neg (by omega)]
    · rw [q170_7, if_pos o, k27, if_neg (by rw [nI_leI (by omega) (by omega)]; exact hE), if_pos o, k25, if_neg (fun z => hk (em.mp z))]
      have e : tkW T p = [] := by unfold tkW; rw [if_neg hk]
      rw [e]; rfl
/-- the number here, if there is one -/
def tkN0 (T : Tp) (p : Nat) : Nat := if tkK T p = 2 then tkN T p else 0
theorem em3 {T : Tp} {p : Nat} : nI (mkd (tkK T p)) = (3 : Int32) ↔ tkK T p = 2 := by
  have hkr := tkK_r T p
  have h1 : mkd (tkK T p) < 2 ^ 31 := by unfold mkd; split <;> omega
  rw [show (3 : Int32) = nI 3 from rfl, nI_eq h1 (by omega)]
  unfold mkd; split <;> omega
theorem em4 {T : Tp} {p : Nat} : nI (mkd (tkK T p)) = (4 : Int32) ↔ tkK T p = 3 := by
  have hkr := tkK_r T p
  have h1 : mkd (tkK T p) < 2 ^ 31 := by unfold mkd; split <;> omega
  rw [show (4 : Int32) = nI 4 from rfl, nI_eq h1 (by omega)]
  unfold mkd; split <;> omega
theorem em1 {T : Tp} {p : Nat} : nI (mkd (tkK T p)) = (1 : Int32) ↔ tkK T p = 0 := by
  have hkr := tkK_r T p
  have h1 : mkd (tkK T p) < 2 ^ 31 := by unfold mkd; split <;> omega
  rw [show (1 : Int32) = nI 1 from rfl, nI_eq h1 (by omega)]
  unfold mkd; split <;> omega
theorem num_dig {T : Tp} {p : Nat} (hk : tkK T p = 2) : tkE T p - tkS T p ≤ 3 ∧ ∀ i, i < tkE T p - tkS T p → soB (T.2 (tkS T p + i)) = 2 := by
  have k0 : tkK0 T p = 2 ∧ ¬ 3 < tkE T p - tkS T p := by
    unfold tkK at hk
    by_cases z : tkK0 T p = 2 ∧ 3 < tkE T p - tkS T p
    · rw [if_pos z] at hk; omega
    · rw [if_neg z] at hk
      exact ⟨hk, fun y => z ⟨hk, y⟩⟩
  refine ⟨by omega, fun i hi => ?_⟩
  by_cases e : i = 0
  · subst e
    have := tkS_lt (T := T) (p := p) (by omega)
    have h2 := k0.1
    unfold tkK0 at h2
    rw [if_pos this] at h2
    exact h2
  · have he : tkE T p = ruE T 2 (tkS T p + 1) := by unfold tkE; rw [k0.1, if_neg (by omega), if_pos (Or.inr rfl)]
    rw [he] at hi
    exact ruF_all T 2 (T.1 - (tkS T p + 1)) (tkS T p + 1) (tkS T p + i) (by omega) (by unfold ruE at hi; omega)
theorem so2 {b : Nat} (h : soB b = 2) : 48 ≤ b ∧ b ≤ 57 := by
  unfold soB at h
  split at h
  · omega
  · split at h
    · assumption
    · split at h <;> omega
theorem nuF_lt {T : Tp} {s : Nat} : ∀ {n : Nat}, n ≤ 3 → (∀ i, i < n → soB (T.2 (s + i)) = 2) → nuF T s n < 10 ^ n
  | 0, _, _ => by show 0 < 1; omega
  | n + 1, h, hd => by
    have ih := nuF_lt (T := T) (s := s) (n := n) (by omega) (fun i hi => hd i (by omega))
    have := so2 (hd n (by omega))
    show 10 * nuF T s n + T.2 (s + n) - 48 < _
    rw [Nat.pow_succ]
    omega
theorem tkN_lt {T : Tp} {p : Nat} (hk : tkK T p = 2) : tkN T p < 1000 := by
  obtain ⟨h1, h2⟩ := num_dig hk
  have := nuF_lt h1 h2
  have h3 : 10 ^ (tkE T p - tkS T p) ≤ 10 ^ 3 := Nat.pow_le_pow_right (by omega) h1
  unfold tkN
  omega
theorem tkN0_lt (T : Tp) (p : Nat) : tkN0 T p < 1000 := by
  unfold tkN0
  split
  · rename_i h; exact tkN_lt h
  · omega
theorem m_number {d p : Nat} {M : Mm} {T : Tp} (hG : Gd M) (hT : TPM M T) (hp : p ≤ T.1) (h : TkM M T p) : go (d + 1) 171 0 [.ref 171, .null, .null] [] M = some (some (.int (nI (tkN0 T p))), M) := by
  have o := ok_171 hG
  have hn := hT.1
  have hb := tkE_b T hp
  have hs := tkS_b T hp
  obtain ⟨k26, k27, k24, k25⟩ := h
  rw [q171_0, if_pos o, k26]
  by_cases hk : tkK T p = 2
  · obtain ⟨h3, hdig⟩ := num_dig hk
    obtain ⟨s, s1, s2⟩ := loopI (σ := Int32) (fun j s => go (d + 1) 171 7 [.ref 171, .int s, .int (nI (tkS T p + j))] [] M) (fun j s => s = nI (nuF T (tkS T p) j)) (tkE T p - tkS T p) (fun j s hj hs => by
      subst hs
      obtain ⟨v1, v2⟩ := hT.2.2 (tkS T p + j) (by omega)
      have hr := so2 (hdig j hj)
      refine ⟨_, ?_, rfl⟩
      try dsimp only
      rw [q171_7, if_pos o, k27, if_neg (by rw [nI_leI (by omega) (by omega)]; omega), if_pos o, k25, if_pos (em3.mpr hk), if_pos o, gr_171_20 hG, if_pos (rk_187 hG (by omega)), nI_clamp (by omega), v2, show (10 : Int32) = nI 10 from rfl, pk_mul, nI_add, show (48 : Int32) = nI 48 from rfl, pk_sub (by omega), bX_d, nI_1]
      rfl) (tkE T p - tkS T p) 0 (nI 0) (by omega) rfl
    try dsimp only at s1
    rw [show (0 : Int32) = nI 0 from rfl]
    refine Eq.trans s1 ?_
    rw [q171_7, if_pos o, k27, if_pos (by rw [nI_leI (by omega) (by omega)]; omega), s2]
    unfold tkN0 tkN
    rw [if_pos hk]
  · have e0 : tkN0 T p = 0 := by unfold tkN0; rw [if_neg hk]
    rw [q171_7, if_pos o, k27, e0]
    by_cases hE : tkE T p ≤ tkS T p
    · rw [if_pos (by rw [nI_leI (by omega) (by omega)]; exact hE)]; rfl
    · rw [if_neg (by rw [nI_leI (by omega) (by omega)]; exact hE), if_pos o, k25, if_neg (fun z => hk (em3.mp z))]; rfl
theorem m_is {d p ch : Nat} {M : Mm} {T : Tp} (hG : Gd M) (hT : TPM M T) (hp : p ≤ T.1) (h : TkM M T p) (hc : ch < 256) : go (d + 2) 169 0 [.ref 171, .int (nI ch)] [] M = some (some (.int (b2i (tkG T p ch))), M) := by
  have o := ok_171 hG
  have hs := tkS_b T hp
  have hn := hT.1
  rw [q169_0, if_pos o, h.2.2.2]
  unfold tkG
  by_cases hk : tkK T p = 3
  · have hlt : tkS T p < T.1 := tkS_lt (fun z => by rw [(tkK_0 T p).mpr z] at hk; omega)
    have eb := bt_sp (T := T) (q := tkS T p) (c := ch) (fun h => (hT.2.2 _ h).1) hc
    rw [if_pos (em4.mpr hk), if_pos o, if_pos o, h.1, m_byteAt hG hT (by omega), bI_s, decide_eq_true hk]
    by_cases e : T.2 (tkS T p) = ch
    · rw [if_pos (eb.mpr ⟨hlt, e⟩), decide_eq_true e]; rfl
    · rw [if_neg (fun z => e (eb.mp z).2), decide_eq_false e]; rfl
  · rw [if_neg (fun z => hk (em4.mp z)), decide_eq_false hk]; rfl
/-- bad: the first fault stays -/
theorem m_bad {d : Nat} {M : Mm} {x s : Int32} (hG : Gd M) (h0 : gI M 171 28 = 0) (h26 : gI M 171 26 = s) : go (d + 1) 167 0 [.ref 171, .int x] [] M = some (none, sI (sI M 171 28 x) 171 29 s) := by
  have o := ok_171 hG
  have g : gI (sI M 171 28 x) 171 26 = s := (gI_ne (by omega)).trans h26
  rw [q167_0, if_pos o, h0, if_pos rfl, if_pos o, bM_d, okO_sI, if_pos o, if_pos o, bM_d, g]
theorem m_bad' {d : Nat} {M : Mm} {x : Int32} (hG : Gd M) (h0 : gI M 171 28 ≠ 0) : go (d + 1) 167 0 [.ref 171, .int x] [] M = some (none, M) := by
  rw [q167_0, if_pos (ok_171 hG), if_neg h0]
/-- a fault is known: its number, its place -/
def FtM (N : Mm) (f pl : Nat) : Prop := gI N 171 28 = nI f ∧ gI N 171 29 = nI pl ∧ 1 ≤ f ∧ f ≤ 3 ∧ pl ≤ 500
theorem FtM_n {N : Mm} {f pl : Nat} (h : FtM N f pl) : gI N 171 28 ≠ 0 := fun z => by
  rw [h.1, show (0 : Int32) = nI 0 from rfl, nI_eq (by have := h.2.2.2.1; omega) (by omega)] at z
  have := h.2.2.1; omega
def Se (r k : Nat) : Prop := r = 171 ∧ 24 ≤ k ∧ k ≤ 29
theorem TPM_se {M N : Mm} {T : Tp} (hT : TPM M T) (h : Sm Se NoL M N) : TPM N T :=
  ⟨hT.1, by rw [h.2.2.1 _ _ (by unfold Se; omega)]; exact hT.2.1, fun k hk => by rw [h.2.2.1 _ _ (by unfold Se; omega)]; exact hT.2.2 k hk⟩
theorem Sm_de {M N : Mm} (h : Sm Sd NoL M N) : Sm Se NoL M N := Sm_mono (fun r k z => by unfold Sd at z; unfold Se; omega) (fun r z => z) h
/-- must, with no fault so far: what is wanted stands here -/
theorem m_must1 {d p : Nat} {M : Mm} {T : Tp} (hG : Gd M) (hT : TPM M T) (hp : p ≤ T.1) (h : TkM M T p) (h0 : gI M 171 28 = 0) : ∃ N, go (d + 3) 168 0 [.ref 171, .int (1 : Int32)] [] M = some (none, N) ∧ Sm Sd NoL M N ∧ TkM N T (tkE T p) ∧ gI N 171 28 = 0 := by
  have o := ok_171 hG
  obtain ⟨N, s1, s2, s3⟩ := m_next (d := d) hG hT hp h
  refine ⟨N, ?_, s2, s3, ?_⟩
  · rw [q168_0, if_neg (by decide), if_pos o, h0, if_pos rfl, if_pos o, s1, bV_s]
  · rw [s2.2.2.1 _ _ (by unfold Sd; omega)]; exact h0
theorem m_must0 {d p : Nat} {M : Mm} {T : Tp} (hG : Gd M) (hp : p ≤ T.1) (hn : T.1 ≤ 500) (h : TkM M T p) (h0 : gI M 171 28 = 0) : ∃ N, go (d + 3) 168 0 [.ref 171, .int (0 : Int32)] [] M = some (none, N) ∧ Sm Se NoL M N ∧ FtM N 1 (tkS T p) := by
  have o := ok_171 hG
  have hs := tkS_b T hp
  have b := m_bad (d := d + 1) (x := 1) hG h0 h.1
  have g : gI (sI (sI M 171 28 1) 171 29 (nI (tkS T p))) 171 28 = 1 := by rw [gI_ne (by omega), gI_at]
  refine ⟨sI (sI M 171 28 1) 171 29 (nI (tkS T p)), ?_, Sm_trans (Sm_sI (by unfold Se; omega)) (Sm_sI (by unfold Se; omega)), g, gI_at, by omega, by omega, by omega⟩
  rw [q168_0, if_pos rfl, if_pos o, b, bV_s, okO_sI, okO_sI, if_pos o, g, if_neg (by decide)]
theorem m_mustF {d : Nat} {M : Mm} {b : Bool} (hG : Gd M) (h0 : gI M 171 28 ≠ 0) : go (d + 3) 168 0 [.ref 171, .int (b2i b)] [] M = some (none, M) := by
  have o := ok_171 hG
  cases b with
  | true => rw [q168_0, if_neg (by decide), if_pos o, if_neg h0]
  | false => rw [q168_0, if_pos (by decide), if_pos o, m_bad' hG h0, bV_s, if_pos o, if_neg h0]
