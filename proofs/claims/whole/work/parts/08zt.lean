/-! ===== statements: what is read ===== -/
abbrev Rn := Sum (Nat × Nat) Nat
abbrev Rb := Sum (Nat × Nat) (Nat × Bk)
/-- bind -/
def rbn {α β : Type} (r : Sum (Nat × Nat) α) (f : α → Sum (Nat × Nat) β) : Sum (Nat × Nat) β := match r with
  | .inl e => .inl e
  | .inr a => f a
def numF (T : Tp) (lim p : Nat) : Rn := if tkK T p = 2 then (if tkN T p < lim then .inr (tkN T p) else .inl (2, tkS T p)) else .inl (1, tkS T p)
def semF (T : Tp) (p : Nat) : Rn := if tkG T p 59 = true then .inr (tkE T p) else .inl (1, tkS T p)
/-- one of three words -/
def choF (T : Tp) (i j k p : Nat) : Rn := if tkW T p = tx i then .inr 0 else if tkW T p = tx j then .inr 1 else if tkW T p = tx k then .inr 2 else .inl (1, tkS T p)
def mkB (B : Bk) (pa wy : Nat) : Bk := (fun x y => if x = 0 ∧ y = 0 then nmB B + 1 else if x = 1 ∧ y = nmB B then pa else if x = 2 ∧ y = nmB B then wy else B.1 x y, B.2)
def lwB (B : Bk) (g : Nat → Bool) : Bk := (fun x y => if x = 0 ∧ y = 1 then nlB B + 1 else B.1 x y, fun l => if l = nlB B then g else B.2.1 l, B.2.2)
def lnB (B : Bk) (fld : Nat → Nat) (g : Nat → Bool) : Bk := (fun x y => if x = 0 ∧ y = 2 then nnB B + 1 else if 3 ≤ x ∧ x ≤ 10 ∧ y = nnB B then fld x else B.1 x y, B.2.1, fun i => if i = nnB B then g else B.2.2 i)
def evC (c : List Nat) (k : Nat) : Bool := match rpn k c [] with
  | some (b :: _) => b
  | _ => false
theorem Ev_evC {c : List Nat} {g : Nat → Bool} (h : Ev c g) {k : Nat} (hk : k < 1024) : g k = evC c k := by
  unfold evC; rw [h k hk []]
def mkF (T : Tp) (B : Bk) (p : Nat) : Rb := if 10 ≤ nmB B then .inl (3, tkS T p) else
  rbn (if tkW T (tkE T p) = tx 1 then .inr 0 else rbn (numF T (nmB B) (tkE T p)) fun n => .inr (n + 1)) fun pa =>
  rbn (choF T 2 3 4 (tkE T (tkE T p))) fun wy =>
  rbn (semF T (tkE T (tkE T (tkE T p)))) fun p' => .inr (p', mkB B pa wy)
def lwF (T : Tp) (B : Bk) (p : Nat) : Rb := if 8 ≤ nlB B then .inl (3, tkS T p) else
  rbn (saF T (nmB B) 5 (tkE T p) 0) fun r => rbn (semF T r.1) fun p' => .inr (p', lwB B (evC r.2.2))
/-- sort and buyer; the piece behind -/
def srF (T : Tp) (p : Nat) : Sum (Nat × Nat) (Nat × Nat × Nat) := rbn (choF T 10 11 12 p) fun so => if so = 2 then rbn (numF T 8 (tkE T p)) fun n => .inr (so, n + 1, tkE T (tkE T p)) else .inr (so, 0, tkE T p)
def acW (T : Tp) (p : Nat) : Rn := if tkW T p = tx 13 then .inr 3 else choF T 14 15 16 p
def acF (T : Tp) (p : Nat) : Sum (Nat × Nat) (Nat × Nat × Nat × Nat) := rbn (acW T p) fun ac => rbn (numF T 4 (tkE T p)) fun fi => rbn (numF T (if ac < 2 then 100 else 4) (tkE T (tkE T p))) fun se => .inr (ac, fi, se, tkE T (tkE T (tkE T p)))
/-- a saying, if there is one: its marks, what it says, the piece behind -/
def ifF (T : Tp) (mk p : Nat) : Sum (Nat × Nat) (Nat × (Nat → Bool) × Nat) := if tkW T p = tx 17 then rbn (saF T mk 5 (tkE T p) 0) fun r => .inr (r.2.1, evC r.2.2, r.1) else .inr (0, fun _ => true, p)
def fldF (so bu ac fi se mk fr : Nat) (x : Nat) : Nat := if x = 3 then so else if x = 4 then ac else if x = 5 then fi else if x = 6 then se else if x = 7 then mk else if x = 8 then fr else if x = 9 then bu else 0
def lnF (T : Tp) (B : Bk) (p : Nat) : Rb := if 24 ≤ nnB B then .inl (3, tkS T p) else
  rbn (srF T (tkE T p)) fun a => rbn (acF T a.2.2) fun b => rbn (ifF T (nmB B) b.2.2.2) fun c => rbn (semF T c.2.2) fun p' => .inr (p', lnB B (fldF a.1 a.2.1 b.1 b.2.1 b.2.2.1 c.1 (vrB B)) c.2.1)
def stF (T : Tp) (B : Bk) (p : Nat) : Rb := if tkW T p = tx 0 then mkF T B p else if tkW T p = tx 5 then lwF T B p else if tkW T p = tx 9 then lnF T B p else .inl (1, tkS T p)
def rdF (T : Tp) : Nat → Nat → Bk → Sum (Nat × Nat) Bk
  | 0, _, B => .inr B
  | f + 1, p, B => if tkK T p = 0 then .inr B else rbn (stF T B p) fun r => rdF T f r.1 r.2
/-! ===== the class reads statements ===== -/
/-- the class's side of the book that grows -/
def NC (N : Mm) (B : Bk) : Prop := gI N 98 5 = nI (nmB B) ∧ gI N 98 6 = nI (nlB B) ∧ gI N 98 7 = nI (nnB B) ∧
  (∀ j, j < nmB B → gI N 6 j = nI (B.1 1 j) - 1 ∧ gI N 7 j = nI (B.1 2 j)) ∧
  (∀ i, i < nnB B → gI N (26 + 3 * i) 0 = nI (B.1 3 i) ∧ gI N (26 + 3 * i) 1 = optI (B.1 9 i) ∧ gI N (26 + 3 * i) 2 = nI (B.1 4 i) ∧ gI N (26 + 3 * i) 3 = nI (B.1 5 i) ∧ gI N (26 + 3 * i) 4 = nI (B.1 6 i) ∧ gI N (26 + 3 * i) 5 = nI (B.1 7 i) ∧ gI N (26 + 3 * i) 6 = nI (B.1 8 i) ∧ gI N (26 + 3 * i) 7 = optI (B.1 10 i)) ∧
  (∀ l, l < nlB B → ∀ k, k < 1024 → kb (gL N (11 + 2 * l)) k = B.2.1 l k) ∧ (∀ i, i < nnB B → ∀ k, k < 1024 → kb (gL N (28 + 3 * i)) k = B.2.2 i k)
def PB (B : Bk) : Prop := nmB B ≤ 10 ∧ nlB B ≤ 8 ∧ nnB B ≤ 24 ∧ vrB B ≤ 9
/-- cells of the class that reading may leave otherwise, behind what is there -/
def Rc (nm nn : Nat) (r k : Nat) : Prop := (r = 3 ∧ 2 ≤ k) ∨ r = 98 ∨ (r = 6 ∧ nm ≤ k) ∨ (r = 7 ∧ nm ≤ k) ∨ (26 + 3 * nn ≤ r ∧ r ≤ 97)
def Rl (nl nn : Nat) (r : Nat) : Prop := (101 ≤ r ∧ r ≤ 125) ∨ (11 + 2 * nl ≤ r ∧ r ≤ 25) ∨ (28 + 3 * nn ≤ r ∧ r ≤ 97)
theorem Rc_p {row nm nl nn : Nat} {M N : Mm} (h : Sm Sp (Sq row) M N) : Sm (Rc nm nn) (Rl nl nn) M N := Sm_mono (fun r k z => by unfold Sp at z; unfold Rc; omega) (fun w z => by unfold Sq at z; unfold Rl; omega) h
theorem Rc_le {nm nl nn nm' nl' nn' : Nat} {M N : Mm} (h : Sm (Rc nm' nn') (Rl nl' nn') M N) (h1 : nm ≤ nm') (h2 : nl ≤ nl') (h3 : nn ≤ nn') : Sm (Rc nm nn) (Rl nl nn) M N := Sm_mono (fun r k z => by unfold Rc at z ⊢; omega) (fun w z => by unfold Rl at z ⊢; omega) h
def CS (E N : Mm) (T : Tp) (B : Bk) : Prop := Gd N ∧ TPC N T ∧ EXT E N ∧ TXT E ∧ Wd N ∧ gI N 5 3 = nI (vrB B) ∧ PB B
theorem CS_R {E M N : Mm} {T : Tp} {B : Bk} {nm nl nn : Nat} (h : CS E M T B) (hS : Sm (Rc nm nn) (Rl nl nn) M N) (hnn : nn ≤ 24) : CS E N T B := by
  obtain ⟨h1, h2, h3, h4, h5, h6, h7⟩ := h
  refine ⟨Gd_Sm hS h1, ⟨h2.1, ?_, fun k hk => ?_⟩, EXT_Sm (fun r k z => by unfold Rc at z; omega) (fun w z => by unfold Rl at z; omega) hS h3, h4, fun j hj => ?_, ?_, h7⟩
  · rw [hS.2.2.1 _ _ (by unfold Rc; omega)]; exact h2.2.1
  · rw [hS.2.2.1 _ _ (by unfold Rc; omega)]; exact h2.2.2 k hk
  · rw [hS.2.2.2 _ (by unfold Rl; omega)]; exact h5 j hj
  · rw [hS.2.2.1 _ _ (by unfold Rc; omega)]; exact h6
/-- facts of the book are not touched behind it -/
theorem NC_R {M N : Mm} {B : Bk} (h : NC M B) (hS : Sm (Rc (nmB B) (nnB B)) (Rl (nlB B) (nnB B)) M N) (h8 : nlB B ≤ 8) (h24 : nnB B ≤ 24) (h5 : gI N 98 5 = gI M 98 5) (h6 : gI N 98 6 = gI M 98 6) (h7 : gI N 98 7 = gI M 98 7) : NC N B := by
  obtain ⟨a1, a2, a3, a4, a5, a6, a7⟩ := h
  refine ⟨h5.trans a1, h6.trans a2, h7.trans a3, fun j hj => ?_, fun i hi => ?_, fun l hl k hk => ?_, fun i hi k hk => ?_⟩
  · rw [hS.2.2.1 _ _ (by unfold Rc; omega), hS.2.2.1 _ _ (by unfold Rc; omega)]; exact a4 j hj
  · have q : ∀ k, gI N (26 + 3 * i) k = gI M (26 + 3 * i) k := fun k => hS.2.2.1 _ _ (by unfold Rc; omega)
    rw [q, q, q, q, q, q, q, q]; exact a5 i hi
  · rw [hS.2.2.2 _ (by unfold Rl; omega)]; exact a6 l hl k hk
  · rw [hS.2.2.2 _ (by unfold Rl; omega)]; exact a7 i hi k hk
theorem NC_p {row : Nat} {M N : Mm} {B : Bk} (h : NC M B) (hS : Sm Sp (Sq row) M N) (hP : PB B) : NC N B :=
  NC_R h (Rc_p hS) hP.2.1 hP.2.2.1 (hS.2.2.1 _ _ (by unfold Sp; omega)) (hS.2.2.1 _ _ (by unfold Sp; omega)) (hS.2.2.1 _ _ (by unfold Sp; omega))
theorem CS_CX {E N : Mm} {T : Tp} {B : Bk} (h : CS E N T B) (hN : gI N 98 5 = nI (nmB B)) : CX E N T (nmB B) := ⟨h.1, h.2.1, h.2.2.1, h.2.2.2.1, h.2.2.2.2.1, hN, h.2.2.2.2.2.2.1⟩
theorem CS_p {E M N : Mm} {T : Tp} {B : Bk} {row : Nat} (h : CS E M T B) (hS : Sm Sp (Sq row) M N) : CS E N T B := CS_R h (Rc_p (nm := 0) (nl := 0) (nn := 0) hS) (by omega)
/-- a number, not above -/
theorem c_number {d p lim row : Nat} {E M : Mm} {T : Tp} {B : Bk} {x : Int32} (hC : CS E M T B) (hp : p ≤ T.1) (h : TkC M T p) (hx : ∀ n, n < 1000 → (nI n ≤ x ↔ n < lim)) : ∃ y N, go (d + 3) 88 0 [.ref 98, .int x, .null] [] M = some (some (.int y), N) ∧ Sm Sp (Sq row) M N ∧ (match numF T lim p with
    | .inl (f, pl) => y = -1 ∧ gI N 98 0 = nI f ∧ gI N 98 1 = nI pl
    | .inr n => y = nI n ∧ TkC N T (tkE T p)) := by
  obtain ⟨hG, hT, -⟩ := hC
  have o := ok_98 hG
  have o3 := ok_3 hG
  have g2 := gr_98_2 hG
  have isn := c_isNum (d := d + 1) hG h
  unfold numF
  by_cases hk : tkK T p = 2
  · have n3 := h.2.2.2 hk
    have hlt := tkN_lt hk
    rw [if_pos hk]
    rw [decide_eq_true hk] at isn
    by_cases hl : tkN T p < lim
    · rw [if_pos hl]
      obtain ⟨N, a1, a2, a3⟩ := c_next (d := d) hG hT hp h
      refine ⟨nI (tkN T p), N, ?_, Sp_sc a2, rfl, a3⟩
      rw [q88_0, if_pos o, g2, if_pos o3, isn, bI_s, if_neg (by decide), if_pos o, g2, if_pos o3, n3, if_pos ((hx _ hlt).mpr hl), if_pos o, if_pos o3, a1, bV_s]
    · rw [if_neg hl]
      obtain ⟨N, a1, a2, a3, a4⟩ := c_fail (d := d + 1) (f := 2) (row := row) hG h
      have a1' : go (d + 2) 81 0 [.ref 98, .int (2 : Int32)] [] M = some (some (.int 0), N) := a1
      refine ⟨-1, N, ?_, a2, rfl, a3, a4⟩
      rw [q88_0, if_pos o, g2, if_pos o3, isn, bI_s, if_neg (by decide), if_pos o, g2, if_pos o3, n3, if_neg (fun z => hl ((hx _ hlt).mp z)), if_pos o, a1', bI_s]
  · rw [if_neg hk]
    rw [decide_eq_false hk] at isn
    obtain ⟨N, a1, a2, a3, a4⟩ := c_fail (d := d + 1) (f := 1) (row := row) hG h
    have a1' : go (d + 2) 81 0 [.ref 98, .int (1 : Int32)] [] M = some (some (.int 0), N) := a1
    refine ⟨-1, N, ?_, a2, rfl, a3, a4⟩
    rw [q88_0, if_pos o, g2, if_pos o3, isn, bI_s, if_pos (by decide), if_pos o, a1', bI_s]
theorem c_semi {d p row : Nat} {E M : Mm} {T : Tp} {B : Bk} (hC : CS E M T B) (hp : p ≤ T.1) (h : TkC M T p) : ∃ b N, go (d + 3) 89 0 [.ref 98] [] M = some (some (.int b), N) ∧ Sm Sp (Sq row) M N ∧ (match semF T p with
    | .inl (f, pl) => b = 0 ∧ gI N 98 0 = nI f ∧ gI N 98 1 = nI pl
    | .inr p' => b = 1 ∧ TkC N T p') := by
  obtain ⟨hG, hT, -⟩ := hC
  have o := ok_98 hG
  have o3 := ok_3 hG
  have g2 := gr_98_2 hG
  have ig : go (d + 2) 109 0 [.ref 3, .int (59 : Int32)] [] M = some (some (.int (b2i (tkG T p 59))), M) := c_isSign (d := d + 1) (ch := 59) hG hT hp h (by omega)
  unfold semF
  by_cases hk : tkG T p 59 = true
  · rw [if_pos hk]
    rw [hk] at ig
    obtain ⟨N, a1, a2, a3⟩ := c_next (d := d) hG hT hp h
    refine ⟨1, N, ?_, Sp_sc a2, rfl, a3⟩
    rw [q89_0, if_pos o, g2, if_pos o3, ig, bI_s, if_neg (by decide), if_pos o, g2, if_pos o3, a1, bV_s]
  · rw [if_neg hk]
    have hk' : tkG T p 59 = false := by simpa using hk
    rw [hk'] at ig
    obtain ⟨N, a1, a2, a3, a4⟩ := c_fail (d := d + 1) (f := 1) (row := row) hG h
    have a1' : go (d + 2) 81 0 [.ref 98, .int (1 : Int32)] [] M = some (some (.int 0), N) := a1
    refine ⟨0, N, ?_, a2, rfl, a3, a4⟩
    rw [q89_0, if_pos o, g2, if_pos o3, ig, bI_s, if_pos (by decide), if_pos o, a1', bI_s, if_pos (by decide)]
theorem c_chosen {d p i j k : Nat} {E M : Mm} {T : Tp} {B : Bk} (hC : CS E M T B) (hp : p ≤ T.1) (h : TkC M T p) (hi : i < 18) (hj : j < 18) (hk : k < 18) : go (d + 6) 87 0 [.ref 98, .ref (1000 + i), .ref (1000 + j), .ref (1000 + k)] [] M = some (some (.int (match choF T i j k p with
    | .inl _ => -1
    | .inr n => nI n)), M) := by
  obtain ⟨hG, hT, hX, hE, -⟩ := hC
  have o := ok_98 hG
  have o3 := ok_3 hG
  have g2 := gr_98_2 hG
  have w1 := c_isWord (d := d) hG hT hp h hE hX hi
  have w2 := c_isWord (d := d) hG hT hp h hE hX hj
  have w3 := c_isWord (d := d) hG hT hp h hE hX hk
  rw [q87_0, if_pos o, g2, if_pos o3, w1, bI_s]
  unfold choF
  by_cases e1 : tkW T p = tx i
  · rw [if_pos e1, decide_eq_true e1, if_neg (by decide)]; rfl
  · rw [if_neg e1, decide_eq_false e1, if_pos (by decide), if_pos o, g2, if_pos o3, w2, bI_s]
    by_cases e2 : tkW T p = tx j
    · rw [if_pos e2, decide_eq_true e2, if_neg (by decide)]; rfl
    · rw [if_neg e2, decide_eq_false e2, if_pos (by decide), if_pos o, g2, if_pos o3, w3, bI_s]
      by_cases e3 : tkW T p = tx k
      · rw [if_pos e3, decide_eq_true e3, if_neg (by decide)]; rfl
      · rw [if_neg e3, decide_eq_false e3, if_pos (by decide)]
theorem cho_b {T : Tp} {i j k p n : Nat} (h : choF T i j k p = .inr n) (hi : i < 18) (hj : j < 18) (hk : k < 18) : n < 3 ∧ tkK T p = 1 := by
  unfold choF at h
  split at h
  · rename_i e; cases h; exact ⟨by omega, tkW_k e hi⟩
  · split at h
    · rename_i e; cases h; exact ⟨by omega, tkW_k e hj⟩
    · split at h
      · rename_i e; cases h; exact ⟨by omega, tkW_k e hk⟩
      · cases h
theorem num_b {T : Tp} {lim p n : Nat} (h : numF T lim p = .inr n) : n < lim ∧ n < 1000 ∧ tkK T p = 2 := by
  unfold numF at h
  split at h
  · rename_i e
    split at h
    · rename_i e2; cases h; exact ⟨e2, tkN_lt e, e⟩
    · cases h
  · cases h
theorem cho_l {T : Tp} {i j k p : Nat} {e : Nat × Nat} (h : choF T i j k p = .inl e) : e = (1, tkS T p) := by
  unfold choF at h
  split at h
  · cases h
  · split at h
    · cases h
    · split at h
      · cases h
      · cases h; rfl
theorem sem_b {T : Tp} {p p' : Nat} (h : semF T p = .inr p') (hp : p ≤ T.1) : p < p' ∧ p' ≤ T.1 := by
  unfold semF at h
  split at h
  · rename_i e; cases h; exact tkE_gt hp (by rw [tkG_k e]; omega)
  · cases h
