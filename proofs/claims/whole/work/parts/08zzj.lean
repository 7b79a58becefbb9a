/-! ===== the law's loop ===== -/
theorem rd4 {E M : Mm} {L i : Nat} (hX : EXT E M) (hL : gR E 4000 0 = L) (hi : i < L) (h31 : i < 2 ^ 31) : rOK M 4000 0 (nI i) = true := by
  have e : aLen M 4000 = L := by
    show gR M 4000 0 = L
    rw [(hX 4000 (by omega)).2.2]; exact hL
  unfold rOK okA inB
  rw [e, nI_toInt (by omega)]
  have h1 : decide ((0 : Int) ≤ (i : Int)) = true := decide_eq_true (by omega)
  have h2 : decide ((i : Int) < (L : Int)) = true := decide_eq_true (by omega)
  rw [h1, h2]
  have h3 : (Nat.ble 4000 (gN M) || Nat.ble 1000 4000) = true := by rw [show Nat.ble 1000 4000 = true from rfl, Bool.or_true]
  rw [h3]
  rfl
theorem ok4 (M : Mm) : okL M 4000 = true := by
  unfold okL okA
  have h3 : (Nat.ble 4000 (gN M) || Nat.ble 1000 4000) = true := by rw [show Nat.ble 1000 4000 = true from rfl, Bool.or_true]
  rw [h3]
  rfl
/-- what both calls leave: the first one's memory too -/
theorem Alike_m {E M : Mm} {B : Bk} {d ci mi : Nat} {lc lm : List Value} (hI : Inv E M B) (h : Alike E M d ci mi lc lm) : ∃ (r : Int32) (M1 M2 : Mm) (B' : Bk), go d ci 0 lc [] M = some (some (.int r), M1) ∧ go d mi 0 lm [] M1 = some (some (.int r), M2) ∧ Inv E M2 B' ∧ gN M1 = 197 ∧ EXT E M1 := by
  obtain ⟨r, M1, M2, B', h1, h2, h3⟩ := h
  refine ⟨r, M1, M2, B', h1, h2, h3, ?_, fun k hk => ?_⟩
  · have a := go_mono _ _ _ _ _ _ _ h1
    have b := go_mono _ _ _ _ _ _ _ h2
    have c := hI.1.1
    have e := h3.1.1
    simp only at a b
    omega
  · obtain ⟨a1, a2, a3⟩ := go_fx _ _ _ _ _ _ _ h1 k hk
    obtain ⟨b1, b2, b3⟩ := hI.2.1 k hk
    exact ⟨a1.trans b1, a2.trans b2, a3.trans b3⟩
theorem o171 {M : Mm} (h : gN M = 197) : okO M 171 12 = true := by
  unfold okO
  rw [h]; rfl
theorem law_180 {E M : Mm} {B : Bk} {L x : Nat} (hI : Inv E M B) (hE : TXT E) (hL : gR E 4000 0 = L) (hx : x + 6 ≤ L) (h31 : L ≤ 3072) : ∃ M2 B', go 60 249 180 [.ref 4000, .ref 1, .ref 171, .int (nI x)] [] M = go 60 249 18 [.ref 4000, .ref 1, .ref 171, .int (nI (x + 6))] [] M2 ∧ Inv E M2 B' := by
  have A : Alike E M 59 113 158 [.ref 1, .int (gI M 4000 (x + 1)), .int (gI M 4000 (x + 2)), .int (gI M 4000 (x + 3))] [.ref 171, .int (gI M 4000 (x + 1)), .int (gI M 4000 (x + 2)), .int (gI M 4000 (x + 3)), .null] := op_sheet (d := 56) hI _ _ _
  obtain ⟨r, M1, M2, B', h1, h2, h3, h4, h5⟩ := Alike_m hI A
  have f4 : gI M1 4000 = gI M 4000 := ((h5 4000 (by omega)).1).trans ((hI.2.1 4000 (by omega)).1).symm
  refine ⟨M2, B', ?_, h3⟩
  rw [q249_180]
  simp only [show nI x + (1 : Int32) = nI (x + 1) from nI_add x 1, show nI x + (2 : Int32) = nI (x + 2) from nI_add x 2, show nI x + (3 : Int32) = nI (x + 3) from nI_add x 3]
  rw [if_pos (rd4 (i := x + 1) hI.2.1 hL (by omega) (by omega)), if_pos (rd4 (i := x + 2) hI.2.1 hL (by omega) (by omega)), if_pos (rd4 (i := x + 3) hI.2.1 hL (by omega) (by omega)), if_pos (ok_1 hI.1), nI_clamp (show x + 1 < 2 ^ 31 by omega), nI_clamp (show x + 2 < 2 ^ 31 by omega), nI_clamp (show x + 3 < 2 ^ 31 by omega), h1, bI_s, if_pos (rd4 (i := x + 1) h5 hL (by omega) (by omega)), if_pos (rd4 (i := x + 2) h5 hL (by omega) (by omega)), if_pos (rd4 (i := x + 3) h5 hL (by omega) (by omega)), if_pos (o171 h4)]
  simp only [f4, nI_clamp (show x + 1 < 2 ^ 31 by omega), nI_clamp (show x + 2 < 2 ^ 31 by omega), nI_clamp (show x + 3 < 2 ^ 31 by omega)]
  rw [h2, bI_s, if_pos rfl, q249_1219, show nI x + (6 : Int32) = nI (x + 6) from nI_add x 6]
theorem law_223 {E M : Mm} {B : Bk} {L x : Nat} (hI : Inv E M B) (hE : TXT E) (hL : gR E 4000 0 = L) (hx : x + 6 ≤ L) (h31 : L ≤ 3072) : ∃ M2 B', go 60 249 223 [.ref 4000, .ref 1, .ref 171, .int (nI x)] [] M = go 60 249 18 [.ref 4000, .ref 1, .ref 171, .int (nI (x + 6))] [] M2 ∧ Inv E M2 B' := by
  have A : Alike E M 59 114 159 [.ref 1, .int (gI M 4000 (x + 1)), .int (gI M 4000 (x + 2)), .int (gI M 4000 (x + 3)), .null] [.ref 171, .int (gI M 4000 (x + 1)), .int (gI M 4000 (x + 2)), .int (gI M 4000 (x + 3))] := op_set (d := 56) hI _ _ _
  obtain ⟨r, M1, M2, B', h1, h2, h3, h4, h5⟩ := Alike_m hI A
  have f4 : gI M1 4000 = gI M 4000 := ((h5 4000 (by omega)).1).trans ((hI.2.1 4000 (by omega)).1).symm
  refine ⟨M2, B', ?_, h3⟩
  rw [q249_223]
  simp only [show nI x + (1 : Int32) = nI (x + 1) from nI_add x 1, show nI x + (2 : Int32) = nI (x + 2) from nI_add x 2, show nI x + (3 : Int32) = nI (x + 3) from nI_add x 3]
  rw [if_pos (rd4 (i := x + 1) hI.2.1 hL (by omega) (by omega)), if_pos (rd4 (i := x + 2) hI.2.1 hL (by omega) (by omega)), if_pos (rd4 (i := x + 3) hI.2.1 hL (by omega) (by omega)), if_pos (ok_1 hI.1), nI_clamp (show x + 1 < 2 ^ 31 by omega), nI_clamp (show x + 2 < 2 ^ 31 by omega), nI_clamp (show x + 3 < 2 ^ 31 by omega), h1, bI_s, if_pos (rd4 (i := x + 1) h5 hL (by omega) (by omega)), if_pos (rd4 (i := x + 2) h5 hL (by omega) (by omega)), if_pos (rd4 (i := x + 3) h5 hL (by omega) (by omega)), if_pos (o171 h4)]
  simp only [f4, nI_clamp (show x + 1 < 2 ^ 31 by omega), nI_clamp (show x + 2 < 2 ^ 31 by omega), nI_clamp (show x + 3 < 2 ^ 31 by omega)]
  rw [h2, bI_s, if_pos rfl, q249_1219, show nI x + (6 : Int32) = nI (x + 6) from nI_add x 6]
theorem law_266 {E M : Mm} {B : Bk} {L x : Nat} (hI : Inv E M B) (hE : TXT E) (hL : gR E 4000 0 = L) (hx : x + 6 ≤ L) (h31 : L ≤ 3072) : ∃ M2 B', go 60 249 266 [.ref 4000, .ref 1, .ref 171, .int (nI x)] [] M = go 60 249 18 [.ref 4000, .ref 1, .ref 171, .int (nI (x + 6))] [] M2 ∧ Inv E M2 B' := by
  have A : Alike E M 59 115 160 [.ref 1, .int (gI M 4000 (x + 1)), .int (gI M 4000 (x + 2)), .int (gI M 4000 (x + 3)), .int (gI M 4000 (x + 4)), .int (gI M 4000 (x + 5)), .null, .null] [.ref 171, .int (gI M 4000 (x + 1)), .int (gI M 4000 (x + 2)), .int (gI M 4000 (x + 3)), .int (gI M 4000 (x + 4)), .int (gI M 4000 (x + 5)), .null, .null, .null] := op_copy (d := 56) hI _ _ _ _ _
  obtain ⟨r, M1, M2, B', h1, h2, h3, h4, h5⟩ := Alike_m hI A
  have f4 : gI M1 4000 = gI M 4000 := ((h5 4000 (by omega)).1).trans ((hI.2.1 4000 (by omega)).1).symm
  refine ⟨M2, B', ?_, h3⟩
  rw [q249_266]
  simp only [show nI x + (1 : Int32) = nI (x + 1) from nI_add x 1, show nI x + (2 : Int32) = nI (x + 2) from nI_add x 2, show nI x + (3 : Int32) = nI (x + 3) from nI_add x 3, show nI x + (4 : Int32) = nI (x + 4) from nI_add x 4, show nI x + (5 : Int32) = nI (x + 5) from nI_add x 5]
  rw [if_pos (rd4 (i := x + 1) hI.2.1 hL (by omega) (by omega)), if_pos (rd4 (i := x + 2) hI.2.1 hL (by omega) (by omega)), if_pos (rd4 (i := x + 3) hI.2.1 hL (by omega) (by omega)), if_pos (rd4 (i := x + 4) hI.2.1 hL (by omega) (by omega)), if_pos (rd4 (i := x + 5) hI.2.1 hL (by omega) (by omega)), if_pos (ok_1 hI.1), nI_clamp (show x + 1 < 2 ^ 31 by omega), nI_clamp (show x + 2 < 2 ^ 31 by omega), nI_clamp (show x + 3 < 2 ^ 31 by omega), nI_clamp (show x + 4 < 2 ^ 31 by omega), nI_clamp (show x + 5 < 2 ^ 31 by omega), h1, bI_s, if_pos (rd4 (i := x + 1) h5 hL (by omega) (by omega)), if_pos (rd4 (i := x + 2) h5 hL (by omega) (by omega)), if_pos (rd4 (i := x + 3) h5 hL (by omega) (by omega)), if_pos (rd4 (i := x + 4) h5 hL (by omega) (by omega)), if_pos (rd4 (i := x + 5) h5 hL (by omega) (by omega)), if_pos (o171 h4)]
  simp only [f4, nI_clamp (show x + 1 < 2 ^ 31 by omega), nI_clamp (show x + 2 < 2 ^ 31 by omega), nI_clamp (show x + 3 < 2 ^ 31 by omega), nI_clamp (show x + 4 < 2 ^ 31 by omega), nI_clamp (show x + 5 < 2 ^ 31 by omega)]
  rw [h2, bI_s, if_pos rfl, q249_1219, show nI x + (6 : Int32) = nI (x + 6) from nI_add x 6]
theorem law_329 {E M : Mm} {B : Bk} {L x : Nat} (hI : Inv E M B) (hE : TXT E) (hL : gR E 4000 0 = L) (hx : x + 6 ≤ L) (h31 : L ≤ 3072) : ∃ M2 B', go 60 249 329 [.ref 4000, .ref 1, .ref 171, .int (nI x)] [] M = go 60 249 18 [.ref 4000, .ref 1, .ref 171, .int (nI (x + 6))] [] M2 ∧ Inv E M2 B' := by
  have A : Alike E M 59 116 161 [.ref 1, .int (gI M 4000 (x + 1)), .null] [.ref 171, .int (gI M 4000 (x + 1))] := op_drop (d := 56) hI _
  obtain ⟨r, M1, M2, B', h1, h2, h3, h4, h5⟩ := Alike_m hI A
  have f4 : gI M1 4000 = gI M 4000 := ((h5 4000 (by omega)).1).trans ((hI.2.1 4000 (by omega)).1).symm
  refine ⟨M2, B', ?_, h3⟩
  rw [q249_329]
  simp only [show nI x + (1 : Int32) = nI (x + 1) from nI_add x 1]
  rw [if_pos (rd4 (i := x + 1) hI.2.1 hL (by omega) (by omega)), if_pos (ok_1 hI.1), nI_clamp (show x + 1 < 2 ^ 31 by omega), h1, bI_s, if_pos (rd4 (i := x + 1) h5 hL (by omega) (by omega)), if_pos (o171 h4)]
  simp only [f4, nI_clamp (show x + 1 < 2 ^ 31 by omega)]
  rw [h2, bI_s, if_pos rfl, q249_1219, show nI x + (6 : Int32) = nI (x + 6) from nI_add x 6]
theorem law_352 {E M : Mm} {B : Bk} {L x : Nat} (hI : Inv E M B) (hE : TXT E) (hL : gR E 4000 0 = L) (hx : x + 6 ≤ L) (h31 : L ≤ 3072) : ∃ M2 B', go 60 249 352 [.ref 4000, .ref 1, .ref 171, .int (nI x)] [] M = go 60 249 18 [.ref 4000, .ref 1, .ref 171, .int (nI (x + 6))] [] M2 ∧ Inv E M2 B' := by
  have A : Alike E M 59 117 162 [.ref 1, .long ((((gI M 4000 (x + 1)).toInt64) <<< ((32 : Int32).toInt64 &&& 63)) ||| (((gI M 4000 (x + 2)).toInt64) &&& (4294967295 : Int64))), .null, .int (gI M 4000 (x + 3)), .null] [.ref 171, .long ((((gI M 4000 (x + 1)).toInt64) <<< ((32 : Int32).toInt64 &&& 63)) ||| (((gI M 4000 (x + 2)).toInt64) &&& (4294967295 : Int64))), .null, .int (gI M 4000 (x + 3)), .null] := op_feed (d := 57) hI _ _
  obtain ⟨r, M1, M2, B', h1, h2, h3, h4, h5⟩ := Alike_m hI A
  have f4 : gI M1 4000 = gI M 4000 := ((h5 4000 (by omega)).1).trans ((hI.2.1 4000 (by omega)).1).symm
  refine ⟨M2, B', ?_, h3⟩
  rw [q249_352]
  simp only [show nI x + (1 : Int32) = nI (x + 1) from nI_add x 1, show nI x + (2 : Int32) = nI (x + 2) from nI_add x 2, show nI x + (3 : Int32) = nI (x + 3) from nI_add x 3]
  rw [if_pos (rd4 (i := x + 1) hI.2.1 hL (by omega) (by omega)), if_pos (rd4 (i := x + 2) hI.2.1 hL (by omega) (by omega)), if_pos (rd4 (i := x + 3) hI.2.1 hL (by omega) (by omega)), if_pos (ok_1 hI.1), nI_clamp (show x + 1 < 2 ^ 31 by omega), nI_clamp (show x + 2 < 2 ^ 31 by omega), nI_clamp (show x + 3 < 2 ^ 31 by omega), h1, bI_s, if_pos (rd4 (i := x + 1) h5 hL (by omega) (by omega)), if_pos (rd4 (i := x + 2) h5 hL (by omega) (by omega)), if_pos (rd4 (i := x + 3) h5 hL (by omega) (by omega)), if_pos (o171 h4)]
  simp only [f4, nI_clamp (show x + 1 < 2 ^ 31 by omega), nI_clamp (show x + 2 < 2 ^ 31 by omega), nI_clamp (show x + 3 < 2 ^ 31 by omega)]
  rw [h2, bI_s, if_pos rfl, q249_1219, show nI x + (6 : Int32) = nI (x + 6) from nI_add x 6]
theorem law_415 {E M : Mm} {B : Bk} {L x : Nat} (hI : Inv E M B) (hE : TXT E) (hL : gR E 4000 0 = L) (hx : x + 6 ≤ L) (h31 : L ≤ 3072) : ∃ M2 B', go 60 249 415 [.ref 4000, .ref 1, .ref 171, .int (nI x)] [] M = go 60 249 18 [.ref 4000, .ref 1, .ref 171, .int (nI (x + 6))] [] M2 ∧ Inv E M2 B' := by
  have A : Alike E M 59 118 181 [.ref 1, .null, .null] [.ref 171, .null, .null] := op_read (d := 33) hI hE
  obtain ⟨r, M1, M2, B', h1, h2, h3, h4, h5⟩ := Alike_m hI A
  have f4 : gI M1 4000 = gI M 4000 := ((h5 4000 (by omega)).1).trans ((hI.2.1 4000 (by omega)).1).symm
  refine ⟨M2, B', ?_, h3⟩
  rw [q249_415]
  rw [if_pos (ok_1 hI.1), h1, bI_s, if_pos (o171 h4)]
  rw [h2, bI_s, if_pos rfl, q249_1219, show nI x + (6 : Int32) = nI (x + 6) from nI_add x 6]
theorem law_428 {E M : Mm} {B : Bk} {L x : Nat} (hI : Inv E M B) (hE : TXT E) (hL : gR E 4000 0 = L) (hx : x + 6 ≤ L) (h31 : L ≤ 3072) : ∃ M2 B', go 60 249 428 [.ref 4000, .ref 1, .ref 171, .int (nI x)] [] M = go 60 249 18 [.ref 4000, .ref 1, .ref 171, .int (nI (x + 6))] [] M2 ∧ Inv E M2 B' := by
  have A : Alike E M 59 119 182 [.ref 1] [.ref 171] := op_fault (d := 58) hI
  obtain ⟨r, M1, M2, B', h1, h2, h3, h4, h5⟩ := Alike_m hI A
  have f4 : gI M1 4000 = gI M 4000 := ((h5 4000 (by omega)).1).trans ((hI.2.1 4000 (by omega)).1).symm
  refine ⟨M2, B', ?_, h3⟩
  rw [q249_428]
  rw [if_pos (ok_1 hI.1), h1, bI_s, if_pos (o171 h4)]
  rw [h2, bI_s, if_pos rfl, q249_1219, show nI x + (6 : Int32) = nI (x + 6) from nI_add x 6]
theorem law_441 {E M : Mm} {B : Bk} {L x : Nat} (hI : Inv E M B) (hE : TXT E) (hL : gR E 4000 0 = L) (hx : x + 6 ≤ L) (h31 : L ≤ 3072) : ∃ M2 B', go 60 249 441 [.ref 4000, .ref 1, .ref 171, .int (nI x)] [] M = go 60 249 18 [.ref 4000, .ref 1, .ref 171, .int (nI (x + 6))] [] M2 ∧ Inv E M2 B' := by
  have A : Alike E M 59 120 190 [.ref 1, .int (gI M 4000 (x + 1))] [.ref 171, .int (gI M 4000 (x + 1))] := op_allowed (d := 56) hI _
  obtain ⟨r, M1, M2, B', h1, h2, h3, h4, h5⟩ := Alike_m hI A
  have f4 : gI M1 4000 = gI M 4000 := ((h5 4000 (by omega)).1).trans ((hI.2.1 4000 (by omega)).1).symm
  refine ⟨M2, B', ?_, h3⟩
  rw [q249_441]
  simp only [show nI x + (1 : Int32) = nI (x + 1) from nI_add x 1]
  rw [if_pos (rd4 (i := x + 1) hI.2.1 hL (by omega) (by omega)), if_pos (ok_1 hI.1), nI_clamp (show x + 1 < 2 ^ 31 by omega), h1, bI_s, if_pos (rd4 (i := x + 1) h5 hL (by omega) (by omega)), if_pos (o171 h4)]
  simp only [f4, nI_clamp (show x + 1 < 2 ^ 31 by omega)]
  rw [h2, bI_s, if_pos rfl, q249_1219, show nI x + (6 : Int32) = nI (x + 6) from nI_add x 6]
theorem law_464 {E M : Mm} {B : Bk} {L x : Nat} (hI : Inv E M B) (hE : TXT E) (hL : gR E 4000 0 = L) (hx : x + 6 ≤ L) (h31 : L ≤ 3072) : ∃ M2 B', go 60 249 464 [.ref 4000, .ref 1, .ref 171, .int (nI x)] [] M = go 60 249 18 [.ref 4000, .ref 1, .ref 171, .int (nI (x + 6))] [] M2 ∧ Inv E M2 B' := by
  have A : Alike E M 59 121 191 [.ref 1, .int (gI M 4000 (x + 1)), .int (gI M 4000 (x + 2)), .int (gI M 4000 (x + 3))] [.ref 171, .int (gI M 4000 (x + 1)), .int (gI M 4000 (x + 2)), .int (gI M 4000 (x + 3))] := op_holds (d := 56) hI _ _ _
  obtain ⟨r, M1, M2, B', h1, h2, h3, h4, h5⟩ := Alike_m hI A
  have f4 : gI M1 4000 = gI M 4000 := ((h5 4000 (by omega)).1).trans ((hI.2.1 4000 (by omega)).1).symm
  refine ⟨M2, B', ?_, h3⟩
  rw [q249_464]
  simp only [show nI x + (1 : Int32) = nI (x + 1) from nI_add x 1, show nI x + (2 : Int32) = nI (x + 2) from nI_add x 2, show nI x + (3 : Int32) = nI (x + 3) from nI_add x 3]
  rw [if_pos (rd4 (i := x + 1) hI.2.1 hL (by omega) (by omega)), if_pos (rd4 (i := x + 2) hI.2.1 hL (by omega) (by omega)), if_pos (rd4 (i := x + 3) hI.2.1 hL (by omega) (by omega)), if_pos (ok_1 hI.1), nI_clamp (show x + 1 < 2 ^ 31 by omega), nI_clamp (show x + 2 < 2 ^ 31 by omega), nI_clamp (show x + 3 < 2 ^ 31 by omega), h1, bI_s, if_pos (rd4 (i := x + 1) h5 hL (by omega) (by omega)), if_pos (rd4 (i := x + 2) h5 hL (by omega) (by omega)), if_pos (rd4 (i := x + 3) h5 hL (by omega) (by omega)), if_pos (o171 h4)]
  simp only [f4, nI_clamp (show x + 1 < 2 ^ 31 by omega), nI_clamp (show x + 2 < 2 ^ 31 by omega), nI_clamp (show x + 3 < 2 ^ 31 by omega)]
  rw [h2, bI_s, if_pos rfl, q249_1219, show nI x + (6 : Int32) = nI (x + 6) from nI_add x 6]
theorem law_507 {E M : Mm} {B : Bk} {L x : Nat} (hI : Inv E M B) (hE : TXT E) (hL : gR E 4000 0 = L) (hx : x + 6 ≤ L) (h31 : L ≤ 3072) : ∃ M2 B', go 60 249 507 [.ref 4000, .ref 1, .ref 171, .int (nI x)] [] M = go 60 249 18 [.ref 4000, .ref 1, .ref 171, .int (nI (x + 6))] [] M2 ∧ Inv E M2 B' := by
  have A : Alike E M 59 122 193 [.ref 1] [.ref 171] := op_many (d := 56) hI
  obtain ⟨r, M1, M2, B', h1, h2, h3, h4, h5⟩ := Alike_m hI A
  have f4 : gI M1 4000 = gI M 4000 := ((h5 4000 (by omega)).1).trans ((hI.2.1 4000 (by omega)).1).symm
  refine ⟨M2, B', ?_, h3⟩
  rw [q249_507]
  rw [if_pos (ok_1 hI.1), h1, bI_s, if_pos (o171 h4)]
  rw [h2, bI_s, if_pos rfl, q249_1219, show nI x + (6 : Int32) = nI (x + 6) from nI_add x 6]
theorem law_520 {E M : Mm} {B : Bk} {L x : Nat} (hI : Inv E M B) (hE : TXT E) (hL : gR E 4000 0 = L) (hx : x + 6 ≤ L) (h31 : L ≤ 3072) : ∃ M2 B', go 60 249 520 [.ref 4000, .ref 1, .ref 171, .int (nI x)] [] M = go 60 249 18 [.ref 4000, .ref 1, .ref 171, .int (nI (x + 6))] [] M2 ∧ Inv E M2 B' := by
  have A : Alike E M 59 123 194 [.ref 1, .int (gI M 4000 (x + 1))] [.ref 171, .int (gI M 4000 (x + 1)), .null, .null, .null, .null] := op_idle (d := 55) hI _
  obtain ⟨r, M1, M2, B', h1, h2, h3, h4, h5⟩ := Alike_m hI A
  have f4 : gI M1 4000 = gI M 4000 := ((h5 4000 (by omega)).1).trans ((hI.2.1 4000 (by omega)).1).symm
  refine ⟨M2, B', ?_, h3⟩
  rw [q249_520]
  simp only [show nI x + (1 : Int32) = nI (x + 1) from nI_add x 1]
  rw [if_pos (rd4 (i := x + 1) hI.2.1 hL (by omega) (by omega)), if_pos (ok_1 hI.1), nI_clamp (show x + 1 < 2 ^ 31 by omega), h1, bI_s, if_pos (rd4 (i := x + 1) h5 hL (by omega) (by omega)), if_pos (o171 h4)]
  simp only [f4, nI_clamp (show x + 1 < 2 ^ 31 by omega)]
  rw [h2, bI_s, if_pos rfl, q249_1219, show nI x + (6 : Int32) = nI (x + 6) from nI_add x 6]
theorem law_543 {E M : Mm} {B : Bk} {L x : Nat} (hI : Inv E M B) (hE : TXT E) (hL : gR E 4000 0 = L) (hx : x + 6 ≤ L) (h31 : L ≤ 3072) : ∃ M2 B', go 60 249 543 [.ref 4000, .ref 1, .ref 171, .int (nI x)] [] M = go 60 249 18 [.ref 4000, .ref 1, .ref 171, .int (nI (x + 6))] [] M2 ∧ Inv E M2 B' := by
  have A : Alike E M 59 124 197 [.ref 1, .int (gI M 4000 (x + 1)), .int (gI M 4000 (x + 2)), .int (gI M 4000 (x + 3))] [.ref 171, .int (gI M 4000 (x + 1)), .int (gI M 4000 (x + 2)), .int (gI M 4000 (x + 3)), .null, .null, .null, .null] := op_forced (d := 54) hI _ _ _
  obtain ⟨r, M1, M2, B', h1, h2, h3, h4, h5⟩ := Alike_m hI A
  have f4 : gI M1 4000 = gI M 4000 := ((h5 4000 (by omega)).1).trans ((hI.2.1 4000 (by omega)).1).symm
  refine ⟨M2, B', ?_, h3⟩
  rw [q249_543]
  simp only [show nI x + (1 : Int32) = nI (x + 1) from nI_add x 1, show nI x + (2 : Int32) = nI (x + 2) from nI_add x 2, show nI x + (3 : Int32) = nI (x + 3) from nI_add x 3]
  rw [if_pos (rd4 (i := x + 1) hI.2.1 hL (by omega) (by omega)), if_pos (rd4 (i := x + 2) hI.2.1 hL (by omega) (by omega)), if_pos (rd4 (i := x + 3) hI.2.1 hL (by omega) (by omega)), if_pos (ok_1 hI.1), nI_clamp (show x + 1 < 2 ^ 31 by omega), nI_clamp (show x + 2 < 2 ^ 31 by omega), nI_clamp (show x + 3 < 2 ^ 31 by omega), h1, bI_s, if_pos (rd4 (i := x + 1) h5 hL (by omega) (by omega)), if_pos (rd4 (i := x + 2) h5 hL (by omega) (by omega)), if_pos (rd4 (i := x + 3) h5 hL (by omega) (by omega)), if_pos (o171 h4)]
  simp only [f4, nI_clamp (show x + 1 < 2 ^ 31 by omega), nI_clamp (show x + 2 < 2 ^ 31 by omega), nI_clamp (show x + 3 < 2 ^ 31 by omega)]
  rw [h2, bI_s, if_pos rfl, q249_1219, show nI x + (6 : Int32) = nI (x + 6) from nI_add x 6]
theorem law_586 {E M : Mm} {B : Bk} {L x : Nat} (hI : Inv E M B) (hE : TXT E) (hL : gR E 4000 0 = L) (hx : x + 6 ≤ L) (h31 : L ≤ 3072) : ∃ M2 B', go 60 249 586 [.ref 4000, .ref 1, .ref 171, .int (nI x)] [] M = go 60 249 18 [.ref 4000, .ref 1, .ref 171, .int (nI (x + 6))] [] M2 ∧ Inv E M2 B' := by
  have A : Alike E M 59 125 199 [.ref 1, .int (gI M 4000 (x + 1))] [.ref 171, .int (gI M 4000 (x + 1)), .null, .null] := op_nearest (d := 56) hI _
  obtain ⟨r, M1, M2, B', h1, h2, h3, h4, h5⟩ := Alike_m hI A
  have f4 : gI M1 4000 = gI M 4000 := ((h5 4000 (by omega)).1).trans ((hI.2.1 4000 (by omega)).1).symm
  refine ⟨M2, B', ?_, h3⟩
  rw [q249_586]
  simp only [show nI x + (1 : Int32) = nI (x + 1) from nI_add x 1]
  rw [if_pos (rd4 (i := x + 1) hI.2.1 hL (by omega) (by omega)), if_pos (ok_1 hI.1), nI_clamp (show x + 1 < 2 ^ 31 by omega), h1, bI_s, if_pos (rd4 (i := x + 1) h5 hL (by omega) (by omega)), if_pos (o171 h4)]
  simp only [f4, nI_clamp (show x + 1 < 2 ^ 31 by omega)]
  rw [h2, bI_s, if_pos rfl, q249_1219, show nI x + (6 : Int32) = nI (x + 6) from nI_add x 6]
theorem law_609 {E M : Mm} {B : Bk} {L x : Nat} (hI : Inv E M B) (hE : TXT E) (hL : gR E 4000 0 = L) (hx : x + 6 ≤ L) (h31 : L ≤ 3072) : ∃ M2 B', go 60 249 609 [.ref 4000, .ref 1, .ref 171, .int (nI x)] [] M = go 60 249 18 [.ref 4000, .ref 1, .ref 171, .int (nI (x + 6))] [] M2 ∧ Inv E M2 B' := by
  have A : Alike E M 59 126 200 [.ref 1, .int (gI M 4000 (x + 1)), .int (gI M 4000 (x + 2))] [.ref 171, .int (gI M 4000 (x + 1)), .int (gI M 4000 (x + 2)), .null, .null, .null, .null] := op_why (d := 54) hI _ _
  obtain ⟨r, M1, M2, B', h1, h2, h3, h4, h5⟩ := Alike_m hI A
  have f4 : gI M1 4000 = gI M 4000 := ((h5 4000 (by omega)).1).trans ((hI.2.1 4000 (by omega)).1).symm
  refine ⟨M2, B', ?_, h3⟩
  rw [q249_609]
  simp only [show nI x + (1 : Int32) = nI (x + 1) from nI_add x 1, show nI x + (2 : Int32) = nI (x + 2) from nI_add x 2]
  rw [if_pos (rd4 (i := x + 1) hI.2.1 hL (by omega) (by omega)), if_pos (rd4 (i := x + 2) hI.2.1 hL (by omega) (by omega)), if_pos (ok_1 hI.1), nI_clamp (show x + 1 < 2 ^ 31 by omega), nI_clamp (show x + 2 < 2 ^ 31 by omega), h1, bI_s, if_pos (rd4 (i := x + 1) h5 hL (by omega) (by omega)), if_pos (rd4 (i := x + 2) h5 hL (by omega) (by omega)), if_pos (o171 h4)]
  simp only [f4, nI_clamp (show x + 1 < 2 ^ 31 by omega), nI_clamp (show x + 2 < 2 ^ 31 by omega)]
  rw [h2, bI_s, if_pos rfl, q249_1219, show nI x + (6 : Int32) = nI (x + 6) from nI_add x 6]
theorem law_642 {E M : Mm} {B : Bk} {L x : Nat} (hI : Inv E M B) (hE : TXT E) (hL : gR E 4000 0 = L) (hx : x + 6 ≤ L) (h31 : L ≤ 3072) : ∃ M2 B', go 60 249 642 [.ref 4000, .ref 1, .ref 171, .int (nI x)] [] M = go 60 249 18 [.ref 4000, .ref 1, .ref 171, .int (nI (x + 6))] [] M2 ∧ Inv E M2 B' := by
  have A : Alike E M 59 127 201 [.ref 1, .int (gI M 4000 (x + 1)), .null] [.ref 171, .int (gI M 4000 (x + 1)), .null] := op_version (d := 57) hI _
  obtain ⟨r, M1, M2, B', h1, h2, h3, h4, h5⟩ := Alike_m hI A
  have f4 : gI M1 4000 = gI M 4000 := ((h5 4000 (by omega)).1).trans ((hI.2.1 4000 (by omega)).1).symm
  refine ⟨M2, B', ?_, h3⟩
  rw [q249_642]
  simp only [show nI x + (1 : Int32) = nI (x + 1) from nI_add x 1]
  rw [if_pos (rd4 (i := x + 1) hI.2.1 hL (by omega) (by omega)), if_pos (ok_1 hI.1), nI_clamp (show x + 1 < 2 ^ 31 by omega), h1, bI_s, if_pos (rd4 (i := x + 1) h5 hL (by omega) (by omega)), if_pos (o171 h4)]
  simp only [f4, nI_clamp (show x + 1 < 2 ^ 31 by omega)]
  rw [h2, bI_s, if_pos rfl, q249_1219, show nI x + (6 : Int32) = nI (x + 6) from nI_add x 6]
theorem law_665 {E M : Mm} {B : Bk} {L x : Nat} (hI : Inv E M B) (hE : TXT E) (hL : gR E 4000 0 = L) (hx : x + 6 ≤ L) (h31 : L ≤ 3072) : ∃ M2 B', go 60 249 665 [.ref 4000, .ref 1, .ref 171, .int (nI x)] [] M = go 60 249 18 [.ref 4000, .ref 1, .ref 171, .int (nI (x + 6))] [] M2 ∧ Inv E M2 B' := by
  have A : Alike E M 59 128 203 [.ref 1, .int (gI M 4000 (x + 1))] [.ref 171, .int (gI M 4000 (x + 1))] := op_end (d := 56) hI _
  obtain ⟨r, M1, M2, B', h1, h2, h3, h4, h5⟩ := Alike_m hI A
  have f4 : gI M1 4000 = gI M 4000 := ((h5 4000 (by omega)).1).trans ((hI.2.1 4000 (by omega)).1).symm
  refine ⟨M2, B', ?_, h3⟩
  rw [q249_665]
  simp only [show nI x + (1 : Int32) = nI (x + 1) from nI_add x 1]
  rw [if_pos (rd4 (i := x + 1) hI.2.1 hL (by omega) (by omega)), if_pos (ok_1 hI.1), nI_clamp (show x + 1 < 2 ^ 31 by omega), h1, bI_s, if_pos (rd4 (i := x + 1) h5 hL (by omega) (by omega)), if_pos (o171 h4)]
  simp only [f4, nI_clamp (show x + 1 < 2 ^ 31 by omega)]
  rw [h2, bI_s, if_pos rfl, q249_1219, show nI x + (6 : Int32) = nI (x + 6) from nI_add x 6]
theorem law_688 {E M : Mm} {B : Bk} {L x : Nat} (hI : Inv E M B) (hE : TXT E) (hL : gR E 4000 0 = L) (hx : x + 6 ≤ L) (h31 : L ≤ 3072) : ∃ M2 B', go 60 249 688 [.ref 4000, .ref 1, .ref 171, .int (nI x)] [] M = go 60 249 18 [.ref 4000, .ref 1, .ref 171, .int (nI (x + 6))] [] M2 ∧ Inv E M2 B' := by
  have A : Alike E M 59 129 204 [.ref 1, .int (gI M 4000 (x + 1)), .int (gI M 4000 (x + 2)), .null] [.ref 171, .int (gI M 4000 (x + 1)), .int (gI M 4000 (x + 2))] := op_line (d := 56) hI _ _
  obtain ⟨r, M1, M2, B', h1, h2, h3, h4, h5⟩ := Alike_m hI A
  have f4 : gI M1 4000 = gI M 4000 := ((h5 4000 (by omega)).1).trans ((hI.2.1 4000 (by omega)).1).symm
  refine ⟨M2, B', ?_, h3⟩
  rw [q249_688]
  simp only [show nI x + (1 : Int32) = nI (x + 1) from nI_add x 1, show nI x + (2 : Int32) = nI (x + 2) from nI_add x 2]
  rw [if_pos (rd4 (i := x + 1) hI.2.1 hL (by omega) (by omega)), if_pos (rd4 (i := x + 2) hI.2.1 hL (by omega) (by omega)), if_pos (ok_1 hI.1), nI_clamp (show x + 1 < 2 ^ 31 by omega), nI_clamp (show x + 2 < 2 ^ 31 by omega), h1, bI_s, if_pos (rd4 (i := x + 1) h5 hL (by omega) (by omega)), if_pos (rd4 (i := x + 2) h5 hL (by omega) (by omega)), if_pos (o171 h4)]
  simp only [f4, nI_clamp (show x + 1 < 2 ^ 31 by omega), nI_clamp (show x + 2 < 2 ^ 31 by omega)]
  rw [h2, bI_s, if_pos rfl, q249_1219, show nI x + (6 : Int32) = nI (x + 6) from nI_add x 6]
theorem law_721 {E M : Mm} {B : Bk} {L x : Nat} (hI : Inv E M B) (hE : TXT E) (hL : gR E 4000 0 = L) (hx : x + 6 ≤ L) (h31 : L ≤ 3072) : ∃ M2 B', go 60 249 721 [.ref 4000, .ref 1, .ref 171, .int (nI x)] [] M = go 60 249 18 [.ref 4000, .ref 1, .ref 171, .int (nI (x + 6))] [] M2 ∧ Inv E M2 B' := by
  have A : Alike E M 59 130 209 [.ref 1, .int (gI M 4000 (x + 1)), .int (gI M 4000 (x + 2)), .int (gI M 4000 (x + 3))] [.ref 171, .int (gI M 4000 (x + 1)), .int (gI M 4000 (x + 2)), .int (gI M 4000 (x + 3))] := op_body (d := 55) hI _ _ _
  obtain ⟨r, M1, M2, B', h1, h2, h3, h4, h5⟩ := Alike_m hI A
  have f4 : gI M1 4000 = gI M 4000 := ((h5 4000 (by omega)).1).trans ((hI.2.1 4000 (by omega)).1).symm
  refine ⟨M2, B', ?_, h3⟩
  rw [q249_721]
  simp only [show nI x + (1 : Int32) = nI (x + 1) from nI_add x 1, show nI x + (2 : Int32) = nI (x + 2) from nI_add x 2, show nI x + (3 : Int32) = nI (x + 3) from nI_add x 3]
  rw [if_pos (rd4 (i := x + 1) hI.2.1 hL (by omega) (by omega)), if_pos (rd4 (i := x + 2) hI.2.1 hL (by omega) (by omega)), if_pos (rd4 (i := x + 3) hI.2.1 hL (by omega) (by omega)), if_pos (ok_1 hI.1), nI_clamp (show x + 1 < 2 ^ 31 by omega), nI_clamp (show x + 2 < 2 ^ 31 by omega), nI_clamp (show x + 3 < 2 ^ 31 by omega), h1, bI_s, if_pos (rd4 (i := x + 1) h5 hL (by omega) (by omega)), if_pos (rd4 (i := x + 2) h5 hL (by omega) (by omega)), if_pos (rd4 (i := x + 3) h5 hL (by omega) (by omega)), if_pos (o171 h4)]
  simp only [f4, nI_clamp (show x + 1 < 2 ^ 31 by omega), nI_clamp (show x + 2 < 2 ^ 31 by omega), nI_clamp (show x + 3 < 2 ^ 31 by omega)]
  rw [h2, bI_s, if_pos rfl, q249_1219, show nI x + (6 : Int32) = nI (x + 6) from nI_add x 6]
theorem law_764 {E M : Mm} {B : Bk} {L x : Nat} (hI : Inv E M B) (hE : TXT E) (hL : gR E 4000 0 = L) (hx : x + 6 ≤ L) (h31 : L ≤ 3072) : ∃ M2 B', go 60 249 764 [.ref 4000, .ref 1, .ref 171, .int (nI x)] [] M = go 60 249 18 [.ref 4000, .ref 1, .ref 171, .int (nI (x + 6))] [] M2 ∧ Inv E M2 B' := by
  have A : Alike E M 59 131 211 [.ref 1, .int (gI M 4000 (x + 1)), .int (gI M 4000 (x + 2)), .int (gI M 4000 (x + 3)), .int (gI M 4000 (x + 4)), .null] [.ref 171, .int (gI M 4000 (x + 1)), .int (gI M 4000 (x + 2)), .int (gI M 4000 (x + 3)), .int (gI M 4000 (x + 4))] := op_run (d := 55) hI _ _ _ _
  obtain ⟨r, M1, M2, B', h1, h2, h3, h4, h5⟩ := Alike_m hI A
  have f4 : gI M1 4000 = gI M 4000 := ((h5 4000 (by omega)).1).trans ((hI.2.1 4000 (by omega)).1).symm
  refine ⟨M2, B', ?_, h3⟩
  rw [q249_764]
  simp only [show nI x + (1 : Int32) = nI (x + 1) from nI_add x 1, show nI x + (2 : Int32) = nI (x + 2) from nI_add x 2, show nI x + (3 : Int32) = nI (x + 3) from nI_add x 3, show nI x + (4 : Int32) = nI (x + 4) from nI_add x 4]
  rw [if_pos (rd4 (i := x + 1) hI.2.1 hL (by omega) (by omega)), if_pos (rd4 (i := x + 2) hI.2.1 hL (by omega) (by omega)), if_pos (rd4 (i := x + 3) hI.2.1 hL (by omega) (by omega)), if_pos (rd4 (i := x + 4) hI.2.1 hL (by omega) (by omega)), if_pos (ok_1 hI.1), nI_clamp (show x + 1 < 2 ^ 31 by omega), nI_clamp (show x + 2 < 2 ^ 31 by omega), nI_clamp (show x + 3 < 2 ^ 31 by omega), nI_clamp (show x + 4 < 2 ^ 31 by omega), h1, bI_s, if_pos (rd4 (i := x + 1) h5 hL (by omega) (by omega)), if_pos (rd4 (i := x + 2) h5 hL (by omega) (by omega)), if_pos (rd4 (i := x + 3) h5 hL (by omega) (by omega)), if_pos (rd4 (i := x + 4) h5 hL (by omega) (by omega)), if_pos (o171 h4)]
  simp only [f4, nI_clamp (show x + 1 < 2 ^ 31 by omega), nI_clamp (show x + 2 < 2 ^ 31 by omega), nI_clamp (show x + 3 < 2 ^ 31 by omega), nI_clamp (show x + 4 < 2 ^ 31 by omega)]
  rw [h2, bI_s, if_pos rfl, q249_1219, show nI x + (6 : Int32) = nI (x + 6) from nI_add x 6]
theorem law_817 {E M : Mm} {B : Bk} {L x : Nat} (hI : Inv E M B) (hE : TXT E) (hL : gR E 4000 0 = L) (hx : x + 6 ≤ L) (h31 : L ≤ 3072) : ∃ M2 B', go 60 249 817 [.ref 4000, .ref 1, .ref 171, .int (nI x)] [] M = go 60 249 18 [.ref 4000, .ref 1, .ref 171, .int (nI (x + 6))] [] M2 ∧ Inv E M2 B' := by
  have A : Alike E M 59 132 213 [.ref 1, .int (gI M 4000 (x + 1))] [.ref 171, .int (gI M 4000 (x + 1)), .null, .null, .null, .null] := op_ends (d := 54) hI _
  obtain ⟨r, M1, M2, B', h1, h2, h3, h4, h5⟩ := Alike_m hI A
  have f4 : gI M1 4000 = gI M 4000 := ((h5 4000 (by omega)).1).trans ((hI.2.1 4000 (by omega)).1).symm
  refine ⟨M2, B', ?_, h3⟩
  rw [q249_817]
  simp only [show nI x + (1 : Int32) = nI (x + 1) from nI_add x 1]
  rw [if_pos (rd4 (i := x + 1) hI.2.1 hL (by omega) (by omega)), if_pos (ok_1 hI.1), nI_clamp (show x + 1 < 2 ^ 31 by omega), h1, bI_s, if_pos (rd4 (i := x + 1) h5 hL (by omega) (by omega)), if_pos (o171 h4)]
  simp only [f4, nI_clamp (show x + 1 < 2 ^ 31 by omega)]
  rw [h2, bI_s, if_pos rfl, q249_1219, show nI x + (6 : Int32) = nI (x + 6) from nI_add x 6]
theorem law_840 {E M : Mm} {B : Bk} {L x : Nat} (hI : Inv E M B) (hE : TXT E) (hL : gR E 4000 0 = L) (hx : x + 6 ≤ L) (h31 : L ≤ 3072) : ∃ M2 B', go 60 249 840 [.ref 4000, .ref 1, .ref 171, .int (nI x)] [] M = go 60 249 18 [.ref 4000, .ref 1, .ref 171, .int (nI (x + 6))] [] M2 ∧ Inv E M2 B' := by
  have A : Alike E M 59 133 215 [.ref 1, .int (gI M 4000 (x + 1)), .int (gI M 4000 (x + 2))] [.ref 171, .int (gI M 4000 (x + 1)), .int (gI M 4000 (x + 2)), .null, .null, .null, .null, .null, .null, .null] := op_together (d := 54) hI _ _
  obtain ⟨r, M1, M2, B', h1, h2, h3, h4, h5⟩ := Alike_m hI A
  have f4 : gI M1 4000 = gI M 4000 := ((h5 4000 (by omega)).1).trans ((hI.2.1 4000 (by omega)).1).symm
  refine ⟨M2, B', ?_, h3⟩
  rw [q249_840]
  simp only [show nI x + (1 : Int32) = nI (x + 1) from nI_add x 1, show nI x + (2 : Int32) = nI (x + 2) from nI_add x 2]
  rw [if_pos (rd4 (i := x + 1) hI.2.1 hL (by omega) (by omega)), if_pos (rd4 (i := x + 2) hI.2.1 hL (by omega) (by omega)), if_pos (ok_1 hI.1), nI_clamp (show x + 1 < 2 ^ 31 by omega), nI_clamp (show x + 2 < 2 ^ 31 by omega), h1, bI_s, if_pos (rd4 (i := x + 1) h5 hL (by omega) (by omega)), if_pos (rd4 (i := x + 2) h5 hL (by omega) (by omega)), if_pos (o171 h4)]
  simp only [f4, nI_clamp (show x + 1 < 2 ^ 31 by omega), nI_clamp (show x + 2 < 2 ^ 31 by omega)]
  rw [h2, bI_s, if_pos rfl, q249_1219, show nI x + (6 : Int32) = nI (x + 6) from nI_add x 6]
theorem law_873 {E M : Mm} {B : Bk} {L x : Nat} (hI : Inv E M B) (hE : TXT E) (hL : gR E 4000 0 = L) (hx : x + 6 ≤ L) (h31 : L ≤ 3072) : ∃ M2 B', go 60 249 873 [.ref 4000, .ref 1, .ref 171, .int (nI x)] [] M = go 60 249 18 [.ref 4000, .ref 1, .ref 171, .int (nI (x + 6))] [] M2 ∧ Inv E M2 B' := by
  have A : Alike E M 59 134 217 [.ref 1, .int (gI M 4000 (x + 1))] [.ref 171, .int (gI M 4000 (x + 1)), .null, .null, .null, .null, .null] := op_hold (d := 53) hI _
  obtain ⟨r, M1, M2, B', h1, h2, h3, h4, h5⟩ := Alike_m hI A
  have f4 : gI M1 4000 = gI M 4000 := ((h5 4000 (by omega)).1).trans ((hI.2.1 4000 (by omega)).1).symm
  refine ⟨M2, B', ?_, h3⟩
  rw [q249_873]
  simp only [show nI x + (1 : Int32) = nI (x + 1) from nI_add x 1]
  rw [if_pos (rd4 (i := x + 1) hI.2.1 hL (by omega) (by omega)), if_pos (ok_1 hI.1), nI_clamp (show x + 1 < 2 ^ 31 by omega), h1, bI_s, if_pos (rd4 (i := x + 1) h5 hL (by omega) (by omega)), if_pos (o171 h4)]
  simp only [f4, nI_clamp (show x + 1 < 2 ^ 31 by omega)]
  rw [h2, bI_s, if_pos rfl, q249_1219, show nI x + (6 : Int32) = nI (x + 6) from nI_add x 6]
theorem law_896 {E M : Mm} {B : Bk} {L x : Nat} (hI : Inv E M B) (hE : TXT E) (hL : gR E 4000 0 = L) (hx : x + 6 ≤ L) (h31 : L ≤ 3072) : ∃ M2 B', go 60 249 896 [.ref 4000, .ref 1, .ref 171, .int (nI x)] [] M = go 60 249 18 [.ref 4000, .ref 1, .ref 171, .int (nI (x + 6))] [] M2 ∧ Inv E M2 B' := by
  have A : Alike E M 59 135 220 [.ref 1, .int (gI M 4000 (x + 1)), .int (gI M 4000 (x + 2))] [.ref 171, .int (gI M 4000 (x + 1)), .int (gI M 4000 (x + 2)), .null, .null, .null, .null, .null] := op_failing (d := 54) hI _ _
  obtain ⟨r, M1, M2, B', h1, h2, h3, h4, h5⟩ := Alike_m hI A
  have f4 : gI M1 4000 = gI M 4000 := ((h5 4000 (by omega)).1).trans ((hI.2.1 4000 (by omega)).1).symm
  refine ⟨M2, B', ?_, h3⟩
  rw [q249_896]
  simp only [show nI x + (1 : Int32) = nI (x + 1) from nI_add x 1, show nI x + (2 : Int32) = nI (x + 2) from nI_add x 2]
  rw [if_pos (rd4 (i := x + 1) hI.2.1 hL (by omega) (by omega)), if_pos (rd4 (i := x + 2) hI.2.1 hL (by omega) (by omega)), if_pos (ok_1 hI.1), nI_clamp (show x + 1 < 2 ^ 31 by omega), nI_clamp (show x + 2 < 2 ^ 31 by omega), h1, bI_s, if_pos (rd4 (i := x + 1) h5 hL (by omega) (by omega)), if_pos (rd4 (i := x + 2) h5 hL (by omega) (by omega)), if_pos (o171 h4)]
  simp only [f4, nI_clamp (show x + 1 < 2 ^ 31 by omega), nI_clamp (show x + 2 < 2 ^ 31 by omega)]
  rw [h2, bI_s, if_pos rfl, q249_1219, show nI x + (6 : Int32) = nI (x + 6) from nI_add x 6]
theorem law_929 {E M : Mm} {B : Bk} {L x : Nat} (hI : Inv E M B) (hE : TXT E) (hL : gR E 4000 0 = L) (hx : x + 6 ≤ L) (h31 : L ≤ 3072) : ∃ M2 B', go 60 249 929 [.ref 4000, .ref 1, .ref 171, .int (nI x)] [] M = go 60 249 18 [.ref 4000, .ref 1, .ref 171, .int (nI (x + 6))] [] M2 ∧ Inv E M2 B' := by
  have A : Alike E M 59 136 221 [.ref 1, .int (gI M 4000 (x + 1)), .int (gI M 4000 (x + 2)), .int (gI M 4000 (x + 3))] [.ref 171, .int (gI M 4000 (x + 1)), .int (gI M 4000 (x + 2)), .int (gI M 4000 (x + 3))] := op_buyer (d := 56) hI _ _ _
  obtain ⟨r, M1, M2, B', h1, h2, h3, h4, h5⟩ := Alike_m hI A
  have f4 : gI M1 4000 = gI M 4000 := ((h5 4000 (by omega)).1).trans ((hI.2.1 4000 (by omega)).1).symm
  refine ⟨M2, B', ?_, h3⟩
  rw [q249_929]
  simp only [show nI x + (1 : Int32) = nI (x + 1) from nI_add x 1, show nI x + (2 : Int32) = nI (x + 2) from nI_add x 2, show nI x + (3 : Int32) = nI (x + 3) from nI_add x 3]
  rw [if_pos (rd4 (i := x + 1) hI.2.1 hL (by omega) (by omega)), if_pos (rd4 (i := x + 2) hI.2.1 hL (by omega) (by omega)), if_pos (rd4 (i := x + 3) hI.2.1 hL (by omega) (by omega)), if_pos (ok_1 hI.1), nI_clamp (show x + 1 < 2 ^ 31 by omega), nI_clamp (show x + 2 < 2 ^ 31 by omega), nI_clamp (show x + 3 < 2 ^ 31 by omega), h1, bI_s, if_pos (rd4 (i := x + 1) h5 hL (by omega) (by omega)), if_pos (rd4 (i := x + 2) h5 hL (by omega) (by omega)), if_pos (rd4 (i := x + 3) h5 hL (by omega) (by omega)), if_pos (o171 h4)]
  simp only [f4, nI_clamp (show x + 1 < 2 ^ 31 by omega), nI_clamp (show x + 2 < 2 ^ 31 by omega), nI_clamp (show x + 3 < 2 ^ 31 by omega)]
  rw [h2, bI_s, if_pos rfl, q249_1219, show nI x + (6 : Int32) = nI (x + 6) from nI_add x 6]
theorem law_972 {E M : Mm} {B : Bk} {L x : Nat} (hI : Inv E M B) (hE : TXT E) (hL : gR E 4000 0 = L) (hx : x + 6 ≤ L) (h31 : L ≤ 3072) : ∃ M2 B', go 60 249 972 [.ref 4000, .ref 1, .ref 171, .int (nI x)] [] M = go 60 249 18 [.ref 4000, .ref 1, .ref 171, .int (nI (x + 6))] [] M2 ∧ Inv E M2 B' := by
  have A : Alike E M 59 137 222 [.ref 1, .int (gI M 4000 (x + 1)), .int (gI M 4000 (x + 2)), .int (gI M 4000 (x + 3)), .null, .null] [.ref 171, .int (gI M 4000 (x + 1)), .int (gI M 4000 (x + 2)), .int (gI M 4000 (x + 3)), .null] := op_buyers (d := 55) hI _ _ _
  obtain ⟨r, M1, M2, B', h1, h2, h3, h4, h5⟩ := Alike_m hI A
  have f4 : gI M1 4000 = gI M 4000 := ((h5 4000 (by omega)).1).trans ((hI.2.1 4000 (by omega)).1).symm
  refine ⟨M2, B', ?_, h3⟩
  rw [q249_972]
  simp only [show nI x + (1 : Int32) = nI (x + 1) from nI_add x 1, show nI x + (2 : Int32) = nI (x + 2) from nI_add x 2, show nI x + (3 : Int32) = nI (x + 3) from nI_add x 3]
  rw [if_pos (rd4 (i := x + 1) hI.2.1 hL (by omega) (by omega)), if_pos (rd4 (i := x + 2) hI.2.1 hL (by omega) (by omega)), if_pos (rd4 (i := x + 3) hI.2.1 hL (by omega) (by omega)), if_pos (ok_1 hI.1), nI_clamp (show x + 1 < 2 ^ 31 by omega), nI_clamp (show x + 2 < 2 ^ 31 by omega), nI_clamp (show x + 3 < 2 ^ 31 by omega), h1, bI_s, if_pos (rd4 (i := x + 1) h5 hL (by omega) (by omega)), if_pos (rd4 (i := x + 2) h5 hL (by omega) (by omega)), if_pos (rd4 (i := x + 3) h5 hL (by omega) (by omega)), if_pos (o171 h4)]
  simp only [f4, nI_clamp (show x + 1 < 2 ^ 31 by omega), nI_clamp (show x + 2 < 2 ^ 31 by omega), nI_clamp (show x + 3 < 2 ^ 31 by omega)]
  rw [h2, bI_s, if_pos rfl, q249_1219, show nI x + (6 : Int32) = nI (x + 6) from nI_add x 6]
theorem law_1015 {E M : Mm} {B : Bk} {L x : Nat} (hI : Inv E M B) (hE : TXT E) (hL : gR E 4000 0 = L) (hx : x + 6 ≤ L) (h31 : L ≤ 3072) : ∃ M2 B', go 60 249 1015 [.ref 4000, .ref 1, .ref 171, .int (nI x)] [] M = go 60 249 18 [.ref 4000, .ref 1, .ref 171, .int (nI (x + 6))] [] M2 ∧ Inv E M2 B' := by
  have A : Alike E M 59 138 224 [.ref 1, .int (gI M 4000 (x + 1)), .null, .null] [.ref 171, .int (gI M 4000 (x + 1)), .null, .null] := op_who (d := 55) hI _
  obtain ⟨r, M1, M2, B', h1, h2, h3, h4, h5⟩ := Alike_m hI A
  have f4 : gI M1 4000 = gI M 4000 := ((h5 4000 (by omega)).1).trans ((hI.2.1 4000 (by omega)).1).symm
  refine ⟨M2, B', ?_, h3⟩
  rw [q249_1015]
  simp only [show nI x + (1 : Int32) = nI (x + 1) from nI_add x 1]
  rw [if_pos (rd4 (i := x + 1) hI.2.1 hL (by omega) (by omega)), if_pos (ok_1 hI.1), nI_clamp (show x + 1 < 2 ^ 31 by omega), h1, bI_s, if_pos (rd4 (i := x + 1) h5 hL (by omega) (by omega)), if_pos (o171 h4)]
  simp only [f4, nI_clamp (show x + 1 < 2 ^ 31 by omega)]
  rw [h2, bI_s, if_pos rfl, q249_1219, show nI x + (6 : Int32) = nI (x + 6) from nI_add x 6]
theorem law_1038 {E M : Mm} {B : Bk} {L x : Nat} (hI : Inv E M B) (hE : TXT E) (hL : gR E 4000 0 = L) (hx : x + 6 ≤ L) (h31 : L ≤ 3072) : ∃ M2 B', go 60 249 1038 [.ref 4000, .ref 1, .ref 171, .int (nI x)] [] M = go 60 249 18 [.ref 4000, .ref 1, .ref 171, .int (nI (x + 6))] [] M2 ∧ Inv E M2 B' := by
  have A : Alike E M 59 139 225 [.ref 1, .int (gI M 4000 (x + 1)), .int (gI M 4000 (x + 2))] [.ref 171, .int (gI M 4000 (x + 1)), .int (gI M 4000 (x + 2))] := op_alike (d := 55) hI _ _
  obtain ⟨r, M1, M2, B', h1, h2, h3, h4, h5⟩ := Alike_m hI A
  have f4 : gI M1 4000 = gI M 4000 := ((h5 4000 (by omega)).1).trans ((hI.2.1 4000 (by omega)).1).symm
  refine ⟨M2, B', ?_, h3⟩
  rw [q249_1038]
  simp only [show nI x + (1 : Int32) = nI (x + 1) from nI_add x 1, show nI x + (2 : Int32) = nI (x + 2) from nI_add x 2]
  rw [if_pos (rd4 (i := x + 1) hI.2.1 hL (by omega) (by omega)), if_pos (rd4 (i := x + 2) hI.2.1 hL (by omega) (by omega)), if_pos (ok_1 hI.1), nI_clamp (show x + 1 < 2 ^ 31 by omega), nI_clamp (show x + 2 < 2 ^ 31 by omega), h1, bI_s, if_pos (rd4 (i := x + 1) h5 hL (by omega) (by omega)), if_pos (rd4 (i := x + 2) h5 hL (by omega) (by omega)), if_pos (o171 h4)]
  simp only [f4, nI_clamp (show x + 1 < 2 ^ 31 by omega), nI_clamp (show x + 2 < 2 ^ 31 by omega)]
  rw [h2, bI_s, if_pos rfl, q249_1219, show nI x + (6 : Int32) = nI (x + 6) from nI_add x 6]
theorem law_1071 {E M : Mm} {B : Bk} {L x : Nat} (hI : Inv E M B) (hE : TXT E) (hL : gR E 4000 0 = L) (hx : x + 6 ≤ L) (h31 : L ≤ 3072) : ∃ M2 B', go 60 249 1071 [.ref 4000, .ref 1, .ref 171, .int (nI x)] [] M = go 60 249 18 [.ref 4000, .ref 1, .ref 171, .int (nI (x + 6))] [] M2 ∧ Inv E M2 B' := by
  have A : Alike E M 59 140 229 [.ref 1, .int (gI M 4000 (x + 1))] [.ref 171, .int (gI M 4000 (x + 1))] := op_kind (d := 54) hI _
  obtain ⟨r, M1, M2, B', h1, h2, h3, h4, h5⟩ := Alike_m hI A
  have f4 : gI M1 4000 = gI M 4000 := ((h5 4000 (by omega)).1).trans ((hI.2.1 4000 (by omega)).1).symm
  refine ⟨M2, B', ?_, h3⟩
  rw [q249_1071]
  simp only [show nI x + (1 : Int32) = nI (x + 1) from nI_add x 1]
  rw [if_pos (rd4 (i := x + 1) hI.2.1 hL (by omega) (by omega)), if_pos (ok_1 hI.1), nI_clamp (show x + 1 < 2 ^ 31 by omega), h1, bI_s, if_pos (rd4 (i := x + 1) h5 hL (by omega) (by omega)), if_pos (o171 h4)]
  simp only [f4, nI_clamp (show x + 1 < 2 ^ 31 by omega)]
  rw [h2, bI_s, if_pos rfl, q249_1219, show nI x + (6 : Int32) = nI (x + 6) from nI_add x 6]
theorem law_1094 {E M : Mm} {B : Bk} {L x : Nat} (hI : Inv E M B) (hE : TXT E) (hL : gR E 4000 0 = L) (hx : x + 6 ≤ L) (h31 : L ≤ 3072) : ∃ M2 B', go 60 249 1094 [.ref 4000, .ref 1, .ref 171, .int (nI x)] [] M = go 60 249 18 [.ref 4000, .ref 1, .ref 171, .int (nI (x + 6))] [] M2 ∧ Inv E M2 B' := by
  have A : Alike E M 59 141 230 [.ref 1, .int (gI M 4000 (x + 1)), .int (gI M 4000 (x + 2))] [.ref 171, .int (gI M 4000 (x + 1)), .int (gI M 4000 (x + 2))] := op_as (d := 54) hI _ _
  obtain ⟨r, M1, M2, B', h1, h2, h3, h4, h5⟩ := Alike_m hI A
  have f4 : gI M1 4000 = gI M 4000 := ((h5 4000 (by omega)).1).trans ((hI.2.1 4000 (by omega)).1).symm
  refine ⟨M2, B', ?_, h3⟩
  rw [q249_1094]
  simp only [show nI x + (1 : Int32) = nI (x + 1) from nI_add x 1, show nI x + (2 : Int32) = nI (x + 2) from nI_add x 2]
  rw [if_pos (rd4 (i := x + 1) hI.2.1 hL (by omega) (by omega)), if_pos (rd4 (i := x + 2) hI.2.1 hL (by omega) (by omega)), if_pos (ok_1 hI.1), nI_clamp (show x + 1 < 2 ^ 31 by omega), nI_clamp (show x + 2 < 2 ^ 31 by omega), h1, bI_s, if_pos (rd4 (i := x + 1) h5 hL (by omega) (by omega)), if_pos (rd4 (i := x + 2) h5 hL (by omega) (by omega)), if_pos (o171 h4)]
  simp only [f4, nI_clamp (show x + 1 < 2 ^ 31 by omega), nI_clamp (show x + 2 < 2 ^ 31 by omega)]
  rw [h2, bI_s, if_pos rfl, q249_1219, show nI x + (6 : Int32) = nI (x + 6) from nI_add x 6]
theorem law_1127 {E M : Mm} {B : Bk} {L x : Nat} (hI : Inv E M B) (hE : TXT E) (hL : gR E 4000 0 = L) (hx : x + 6 ≤ L) (h31 : L ≤ 3072) : ∃ M2 B', go 60 249 1127 [.ref 4000, .ref 1, .ref 171, .int (nI x)] [] M = go 60 249 18 [.ref 4000, .ref 1, .ref 171, .int (nI (x + 6))] [] M2 ∧ Inv E M2 B' := by
  have A : Alike E M 59 142 234 [.ref 1, .int (gI M 4000 (x + 1)), .int (gI M 4000 (x + 2))] [.ref 171, .int (gI M 4000 (x + 1)), .int (gI M 4000 (x + 2))] := op_ask (d := 52) hI _ _
  obtain ⟨r, M1, M2, B', h1, h2, h3, h4, h5⟩ := Alike_m hI A
  have f4 : gI M1 4000 = gI M 4000 := ((h5 4000 (by omega)).1).trans ((hI.2.1 4000 (by omega)).1).symm
  refine ⟨M2, B', ?_, h3⟩
  rw [q249_1127]
  simp only [show nI x + (1 : Int32) = nI (x + 1) from nI_add x 1, show nI x + (2 : Int32) = nI (x + 2) from nI_add x 2]
  rw [if_pos (rd4 (i := x + 1) hI.2.1 hL (by omega) (by omega)), if_pos (rd4 (i := x + 2) hI.2.1 hL (by omega) (by omega)), if_pos (ok_1 hI.1), nI_clamp (show x + 1 < 2 ^ 31 by omega), nI_clamp (show x + 2 < 2 ^ 31 by omega), h1, bI_s, if_pos (rd4 (i := x + 1) h5 hL (by omega) (by omega)), if_pos (rd4 (i := x + 2) h5 hL (by omega) (by omega)), if_pos (o171 h4)]
  simp only [f4, nI_clamp (show x + 1 < 2 ^ 31 by omega), nI_clamp (show x + 2 < 2 ^ 31 by omega)]
  rw [h2, bI_s, if_pos rfl, q249_1219, show nI x + (6 : Int32) = nI (x + 6) from nI_add x 6]
theorem law_1160 {E M : Mm} {B : Bk} {L x : Nat} (hI : Inv E M B) (hE : TXT E) (hL : gR E 4000 0 = L) (hx : x + 6 ≤ L) (h31 : L ≤ 3072) : ∃ M2 B', go 60 249 1160 [.ref 4000, .ref 1, .ref 171, .int (nI x)] [] M = go 60 249 18 [.ref 4000, .ref 1, .ref 171, .int (nI (x + 6))] [] M2 ∧ Inv E M2 B' := by
  have A : Alike E M 59 143 235 [.ref 1, .int (gI M 4000 (x + 1))] [.ref 171, .int (gI M 4000 (x + 1))] := op_trace (d := 57) hI _
  obtain ⟨r, M1, M2, B', h1, h2, h3, h4, h5⟩ := Alike_m hI A
  have f4 : gI M1 4000 = gI M 4000 := ((h5 4000 (by omega)).1).trans ((hI.2.1 4000 (by omega)).1).symm
  refine ⟨M2, B', ?_, h3⟩
  rw [q249_1160]
  simp only [show nI x + (1 : Int32) = nI (x + 1) from nI_add x 1]
  rw [if_pos (rd4 (i := x + 1) hI.2.1 hL (by omega) (by omega)), if_pos (ok_1 hI.1), nI_clamp (show x + 1 < 2 ^ 31 by omega), h1, bI_s, if_pos (rd4 (i := x + 1) h5 hL (by omega) (by omega)), if_pos (o171 h4)]
  simp only [f4, nI_clamp (show x + 1 < 2 ^ 31 by omega)]
  rw [h2, bI_s, if_pos rfl, q249_1219, show nI x + (6 : Int32) = nI (x + 6) from nI_add x 6]
theorem law_1183 {E M : Mm} {B : Bk} {L x : Nat} (hI : Inv E M B) (hE : TXT E) (hL : gR E 4000 0 = L) (hx : x + 6 ≤ L) (h31 : L ≤ 3072) : ∃ M2 B', go 60 249 1183 [.ref 4000, .ref 1, .ref 171, .int (nI x)] [] M = go 60 249 18 [.ref 4000, .ref 1, .ref 171, .int (nI (x + 6))] [] M2 ∧ Inv E M2 B' := by
  have A : Alike E M 59 144 236 [.ref 1, .int (gI M 4000 (x + 1))] [.ref 171, .int (gI M 4000 (x + 1)), .null, .null] := op_count (d := 54) hI _
  obtain ⟨r, M1, M2, B', h1, h2, h3, h4, h5⟩ := Alike_m hI A
  have f4 : gI M1 4000 = gI M 4000 := ((h5 4000 (by omega)).1).trans ((hI.2.1 4000 (by omega)).1).symm
  refine ⟨M2, B', ?_, h3⟩
  rw [q249_1183]
  simp only [show nI x + (1 : Int32) = nI (x + 1) from nI_add x 1]
  rw [if_pos (rd4 (i := x + 1) hI.2.1 hL (by omega) (by omega)), if_pos (ok_1 hI.1), nI_clamp (show x + 1 < 2 ^ 31 by omega), h1, bI_s, if_pos (rd4 (i := x + 1) h5 hL (by omega) (by omega)), if_pos (o171 h4)]
  simp only [f4, nI_clamp (show x + 1 < 2 ^ 31 by omega)]
  rw [h2, bI_s, if_pos rfl, q249_1219, show nI x + (6 : Int32) = nI (x + 6) from nI_add x 6]
theorem law_1206 {E M : Mm} {B : Bk} {L x : Nat} (hI : Inv E M B) (hE : TXT E) (hL : gR E 4000 0 = L) (hx : x + 6 ≤ L) (h31 : L ≤ 3072) : ∃ M2 B', go 60 249 1206 [.ref 4000, .ref 1, .ref 171, .int (nI x)] [] M = go 60 249 18 [.ref 4000, .ref 1, .ref 171, .int (nI (x + 6))] [] M2 ∧ Inv E M2 B' := by
  have A : Alike E M 59 145 237 [.ref 1] [.ref 171] := op_status (d := 58) hI
  obtain ⟨r, M1, M2, B', h1, h2, h3, h4, h5⟩ := Alike_m hI A
  have f4 : gI M1 4000 = gI M 4000 := ((h5 4000 (by omega)).1).trans ((hI.2.1 4000 (by omega)).1).symm
  refine ⟨M2, B', ?_, h3⟩
  rw [q249_1206]
  rw [if_pos (ok_1 hI.1), h1, bI_s, if_pos (o171 h4)]
  rw [h2, bI_s, if_pos rfl, q249_1219, show nI x + (6 : Int32) = nI (x + 6) from nI_add x 6]
