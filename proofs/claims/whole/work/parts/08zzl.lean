/-! ===== the making of the objects: what is made, what is linked, what is still 0 ===== -/
def Zc (r k : Nat) : Prop := r < 1000 ∧ ¬ (26 ≤ r ∧ r ≤ 97) ∧ ¬ (r = 138 ∧ k = 10) ∧ r ≠ 139 ∧ ¬ (155 ≤ r ∧ r ≤ 170 ∧ r % 2 = 1 ∧ k = 0) ∧ r ≠ 172
def Cn (n : Nat) (L : List (Nat × Nat)) (M : Mm) : Prop := gN M = n ∧ (∀ r k, Zc r k → gI M r k = 0) ∧ (∀ r k, r < 1000 → gR M r k = 0 ∨ gR M r k = RC r k) ∧ ∀ p, p ∈ L → gR M p.1 p.2 = RC p.1 p.2
theorem cn_N {n : Nat} {L : List (Nat × Nat)} {M : Mm} (s : Cn n L M) : Cn (n + 1) L (sN M) := ⟨by show gN M + 1 = n + 1; rw [s.1], s.2⟩
theorem cn_I {n r k : Nat} {v : Int32} {L : List (Nat × Nat)} {M : Mm} (s : Cn n L M) (h : Zc r k → v = 0) : Cn n L (sI M r k v) := ⟨s.1, fun a b hz => by
  show (if a = r ∧ b = k then v else gI M a b) = 0
  by_cases e : a = r ∧ b = k
  · rw [if_pos e]; rw [e.1, e.2] at hz; exact h hz
  · rw [if_neg e]; exact s.2.1 a b hz, s.2.2⟩
theorem cn_R {n r k v : Nat} {L : List (Nat × Nat)} {M : Mm} (s : Cn n L M) (h : Nat.beq v (RC r k) = true) : Cn n ((r, k) :: L) (sR M r k v) := by
  have hv : v = RC r k := Nat.eq_of_beq_eq_true h
  refine ⟨s.1, s.2.1, fun a b hz => ?_, fun p hp => ?_⟩
  · show (if a = r ∧ b = k then v else gR M a b) = 0 ∨ (if a = r ∧ b = k then v else gR M a b) = RC a b
    by_cases e : a = r ∧ b = k
    · rw [if_pos e, e.1, e.2]; exact Or.inr hv
    · rw [if_neg e]; exact s.2.2.1 a b hz
  · show (if p.1 = r ∧ p.2 = k then v else gR M p.1 p.2) = RC p.1 p.2
    by_cases e : p.1 = r ∧ p.2 = k
    · rw [if_pos e, e.1, e.2]; exact hv
    · rw [if_neg e]
      rcases List.mem_cons.mp hp with h2 | h2
      · exact absurd ⟨congrArg Prod.fst h2, congrArg Prod.snd h2⟩ e
      · exact s.2.2.2 p h2
theorem cn_r {n r k v : Nat} {L : List (Nat × Nat)} {M : Mm} (s : Cn n L M) (h : (r, k) ∈ L) (hv : Nat.beq (RC r k) v = true) : gR M r k = v := (s.2.2.2 (r, k) h).trans (Nat.eq_of_beq_eq_true hv)
theorem cn_sub {n : Nat} {L K : List (Nat × Nat)} {M : Mm} (s : Cn n L M) (h : ∀ p, p ∈ K → p ∈ L) : Cn n K M := ⟨s.1, s.2.1, s.2.2.1, fun p hp => s.2.2.2 p (h p hp)⟩
def okOb (n r c : Nat) : Bool := Nat.ble 1 r && Nat.ble r n && Nat.blt r 1000 && Nat.beq (SH r).1 c
def okAb (n r t : Nat) : Bool := Nat.ble 1 r && (Nat.ble r n || Nat.ble 1000 r) && Nat.beq (SH r).1 (100 + t)
def nwAb (n t : Nat) (x : Int32) : Bool := Nat.beq (SH (n + 1)).1 (100 + t) && decide (0 ≤ x.toInt) && Nat.beq (SH (n + 1)).2 x.toNatClampNeg && Nat.blt (n + 1) 1000
def nwOb (n a : Nat) : Bool := Nat.blt a 13 && Nat.beq (SH (n + 1)).1 a && Nat.beq (SH (n + 1)).2 (NF a) && Nat.blt (n + 1) 1000
def wOb (n r t : Nat) (i : Int32) : Bool := okAb n r t && Nat.blt r 1000 && inB i (SH r).2
def wQb (n r : Nat) (i : Int32) (x : Nat) : Bool := wOb n r 4 i && okOb n x (elC 4) || wOb n r 5 i && okOb n x (elC 5) || wOb n r 6 i && okOb n x (elC 6)
theorem oO {n r c : Nat} {M : Mm} (h : gN M = n) (g : okOb n r c = true) : okO M r c = true := by rw [← h] at g; exact g
theorem oA {n r t : Nat} {M : Mm} (h : gN M = n) (g : okAb n r t = true) : okA M r t = true := by rw [← h] at g; exact g
theorem nA {n t : Nat} {x : Int32} {M : Mm} (h : gN M = n) (g : nwAb n t x = true) : nwA M t x = true := by rw [← h] at g; exact g
theorem nO {n a : Nat} {M : Mm} (h : gN M = n) (g : nwOb n a = true) : nwO M a = true := by rw [← h] at g; exact g
theorem wOe {n r t : Nat} {i : Int32} {M : Mm} (h : gN M = n) : wOK M r t i = wOb n r t i := by
  rw [wOK, wOb, aLen]
  show (okA M r t && Nat.blt r 1000 && inB i (if r = 4000 then gR M 4000 0 else (SH r).2)) = _
  by_cases e : r = 4000
  · subst e
    rw [show Nat.blt 4000 1000 = false from rfl, Bool.and_false, Bool.false_and, Bool.and_false, Bool.false_and]
  · rw [if_neg e, ← h]; rfl
theorem wO {n r t : Nat} {i : Int32} {M : Mm} (h : gN M = n) (g : wOb n r t i = true) : wOK M r t i = true := (wOe h).trans g
theorem wQn {n r x : Nat} {i : Int32} {M : Mm} (h : gN M = n) (g : wQb n r i x = true) : wQ M r i x = true := by
  rw [wQ, wOe h, wOe h, wOe h, ← g, wQb, ← h]; rfl
theorem rQn {n r : Nat} {i : Int32} {M : Mm} (h : gN M = n) (g : (wOb n r 4 i || wOb n r 5 i || wOb n r 6 i) = true) : rQ M r i = true := by
  rw [rQ, wOe h, wOe h, wOe h]; exact g
theorem rOe {n r t : Nat} {i : Int32} {M : Mm} (h : gN M = n) (g : wOb n r t i = true) : rOK M r t i = true := by
  have h1 := wO h g
  rw [wOK, Bool.and_eq_true, Bool.and_eq_true] at h1
  rw [rOK, h1.1.1, h1.2]; rfl
theorem cl0 : (0 : Int32).toNatClampNeg = 0 := rfl
theorem cl1 : (1 : Int32).toNatClampNeg = 1 := rfl
theorem cl2 : (2 : Int32).toNatClampNeg = 2 := rfl
theorem cl3 : (3 : Int32).toNatClampNeg = 3 := rfl
theorem cl4 : (4 : Int32).toNatClampNeg = 4 := rfl
theorem cl5 : (5 : Int32).toNatClampNeg = 5 := rfl
theorem cl6 : (6 : Int32).toNatClampNeg = 6 := rfl
theorem cl7 : (7 : Int32).toNatClampNeg = 7 := rfl
def c39 (n : Nat) : Bool := okI n && nwAb n 3 16 && okOb (n + 1) n 4 && Nat.blt (n + 1) 1000 && Nat.beq (n + 1) (RC n 0)
theorem k39 {d n : Nat} {L : List (Nat × Nat)} {M : Mm} (s : Cn n L M) (h : c39 n = true) : ∃ N, go (d + 1) 39 0 [.ref n] [] M = some (none, N) ∧ Cn (n + 1) ((n, 0) :: L) N := by
  simp only [c39, Bool.and_eq_true] at h
  obtain ⟨⟨⟨⟨h1, h2⟩, h3⟩, h4⟩, h5⟩ := h
  rw [q39_0, if_pos h1, if_pos (nA s.1 h2), s.1, bM_d]
  have s := cn_N s
  rw [if_pos (oO s.1 h3), if_pos h4, bM_d]
  exact ⟨_, rfl, cn_R s h5⟩
def c73 (n : Nat) : Bool := Nat.ble 26 n && Nat.ble n 97 && okI n && okOb n n 6 && nwOb n 4 && okI (n + 1) && c39 (n + 1) && okOb (n + 2) n 6 && Nat.blt (n + 1) 1000 && Nat.beq (n + 1) (RC n 8)
theorem k73 {d n : Nat} {L : List (Nat × Nat)} {M : Mm} (s : Cn n L M) (h : c73 n = true) : ∃ N, go (d + 2) 73 0 [.ref n] [] M = some (none, N) ∧ Cn (n + 2) ((n, 8) :: (n + 1, 0) :: L) N := by
  simp only [c73, Bool.and_eq_true] at h
  obtain ⟨⟨⟨⟨⟨⟨⟨⟨⟨ha, hb⟩, h1⟩, h2⟩, h3⟩, h4⟩, h5⟩, h6⟩, h7⟩, h8⟩ := h
  have ha := Nat.le_of_ble_eq_true ha
  have hb := Nat.le_of_ble_eq_true hb
  have z : ∀ {k : Nat} {v : Int32}, Zc n k → v = 0 := fun hz => absurd ⟨ha, hb⟩ hz.2.1
  rw [q73_0, if_pos h1, if_pos (oO s.1 h2), bM_d]
  have s := cn_I (r := n) (k := 0) (v := 0) s z
  rw [if_pos (oO s.1 h2), bM_d]
  have s := cn_I (r := n) (k := 1) (v := -1000000) s z
  rw [if_pos (oO s.1 h2), bM_d]
  have s := cn_I (r := n) (k := 2) (v := 0) s z
  rw [if_pos (oO s.1 h2), bM_d]
  have s := cn_I (r := n) (k := 3) (v := 0) s z
  rw [if_pos (oO s.1 h2), bM_d]
  have s := cn_I (r := n) (k := 4) (v := 0) s z
  rw [if_pos (oO s.1 h2), bM_d]
  have s := cn_I (r := n) (k := 5) (v := 0) s z
  rw [if_pos (oO s.1 h2), bM_d]
  have s := cn_I (r := n) (k := 6) (v := 0) s z
  rw [if_pos (oO s.1 h2), bM_d]
  have s := cn_I (r := n) (k := 7) (v := -1000000) s z
  rw [if_pos (nO s.1 h3), s.1, bM_d, if_pos h4]
  have s := cn_N s
  obtain ⟨N, e, s⟩ := k39 (d := d) s h5
  rw [e, bV_s, if_pos (oO s.1 h6), if_pos h7, bM_d]
  exact ⟨_, rfl, cn_R s h8⟩
def c98 (n : Nat) : Bool := Nat.ble 155 n && Nat.ble n 170 && Nat.beq (n % 2) 1 && okI n && okOb n n 9 && nwAb n 0 40 && okOb (n + 1) n 9 && Nat.blt (n + 1) 1000 && Nat.beq (n + 1) (RC n 2)
theorem k98 {d n : Nat} {L : List (Nat × Nat)} {M : Mm} (s : Cn n L M) (h : c98 n = true) : ∃ N, go (d + 1) 98 0 [.ref n] [] M = some (none, N) ∧ Cn (n + 1) ((n, 2) :: L) N ∧ gI N n 0 = -1 ∧ ∀ r k, r ≠ n → gI N r k = gI M r k := by
  simp only [c98, Bool.and_eq_true] at h
  obtain ⟨⟨⟨⟨⟨⟨⟨⟨ha, hb⟩, hc⟩, h1⟩, h2⟩, h3⟩, h4⟩, h5⟩, h6⟩ := h
  have ha := Nat.le_of_ble_eq_true ha
  have hb := Nat.le_of_ble_eq_true hb
  have hc : n % 2 = 1 := Nat.eq_of_beq_eq_true hc
  rw [q98_0, if_pos h1, if_pos (oO s.1 h2), bM_d]
  have s := cn_I (r := n) (k := 0) (v := -1) s (fun hz => absurd ⟨ha, hb, hc, rfl⟩ hz.2.2.2.2.1)
  rw [if_pos (oO s.1 h2), bM_d]
  have s := cn_I (r := n) (k := 1) (v := 0) s (fun _ => rfl)
  rw [if_pos (nA s.1 h3), s.1, bM_d]
  have s := cn_N s
  rw [if_pos (oO s.1 h4), if_pos h5, bM_d]
  refine ⟨_, rfl, cn_R s h6, ?_, fun r k hr => ?_⟩
  · show gI (sI (sI M n 0 (-1)) n 1 0) n 0 = -1
    rw [gI_ne (by omega), gI_at]
  · show gI (sI (sI M n 0 (-1)) n 1 0) r k = gI M r k
    rw [gI_ne (by omega), gI_ne (by omega)]
