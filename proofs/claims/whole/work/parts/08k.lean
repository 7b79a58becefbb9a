/-! ===== what a run of lines does ===== -/
/-- cells, cells set, first fault -/
abbrev RS := (Nat → Nat) × (Nat → Bool) × Int32
def actB (B : Bk) (i : Nat) (s : RS) : RS :=
  let c := B.1 5 i
  let y := B.1 6 i
  let lacks : Bool := decide (B.1 4 i ≠ 0) && (!s.2.1 c || (decide (2 ≤ B.1 4 i) && !s.2.1 y))
  let by' : Nat := if B.1 4 i < 2 then y else s.1 y
  let val : Nat := if B.1 4 i = 0 then y else if B.1 4 i = 3 then s.1 c * by' % 1000 else (s.1 c + by') % 1000
  (fun j => if j = c then val else s.1 j, fun j => s.2.1 j || (decide (B.1 4 i = 0) && decide (j = c)), if lacks && decide (s.2.2 = NONE) then nI i else s.2.2)
def runB (B : Bk) (body : Nat → Bool) : Nat → RS
  | 0 => (fun _ => 0, fun _ => false, NONE)
  | i + 1 => if body i then actB B i (runB B body i) else runB B body i
def endB (B : Bk) (k : Nat) : Nat := (runB B (sdB B k (vrB B) NONE) (nnB B)).1 0
def isEndB (B : Bk) (v : Nat) : Bool := anyB (fun k => alB B k && decide (endB B k = v)) (2 ^ nmB B)
/-- the ends, if known -/
def EC (M : Mm) (B : Bk) : Prop := gI M 138 4 = 0 ∨ (gI M 138 4 = 1 ∧ (∀ k, k < 2 ^ nmB B → alB B k = true → gI M 144 k = nI (endB B k)) ∧ gI M 138 3 = nI (fb_ct (isEndB B) 1000) ∧ ∀ v, v < 1000 → isEndB B v = true → gI M 143 (fb_ct (isEndB B) v) = nI v)
/-! ===== the few kinds that have all pairs ===== -/
def npB (nm : Nat) (L : List Nat) (k : Nat) : Nat := fb_sm (fun a => fb_ct (fun b => !L.any (fun p => (p.testBit a == k.testBit a) && (p.testBit b == k.testBit b))) a) nm
def bestF (B : Bk) (L : List Nat) : Nat → Nat × Nat
  | 0 => (0, 0)
  | k + 1 => if alB B k && decide ((bestF B L k).2 < npB (nmB B) L k) then (k + 1, npB (nmB B) L k) else bestF B L k
def bestB (B : Bk) (L : List Nat) : Nat := (bestF B L (2 ^ nmB B)).1
def picks (B : Bk) : Nat → List Nat
  | 0 => []
  | i + 1 => (bestB B (picks B i) - 1) :: picks B i
def HC (M : Mm) (B : Bk) : Prop := gI M 148 2 = 0 ∨ (gI M 148 2 = 1 ∧ ∃ n, n ≤ 180 ∧ gI M 148 1 = nI n ∧ (∀ i, i < n → bestB B (picks B i) ≠ 0 ∧ gI M 149 i = nI (bestB B (picks B i) - 1)) ∧ bestB B (picks B n) = 0)
/-! ===== what holds between the calls ===== -/
def EXT (E M : Mm) : Prop := ∀ r, 1000 ≤ r → gI M r = gI E r ∧ gL M r = gL E r ∧ gR M r = gR E r
def Inv (E M : Mm) (B : Bk) : Prop := Gd M ∧ EXT E M ∧ SHT M ∧ TAP M ∧ LAT M ∧ TRC M ∧ BK M B ∧ (∃ bk bv, BUY M (nmB B) bk bv) ∧ EC M B ∧ HC M B
/-- cells that the book's facts read -/
def rdB (r k : Nat) : Prop := r = 5 ∨ r = 6 ∨ r = 7 ∨ (26 ≤ r ∧ r ≤ 97) ∨ (r = 171 ∧ (k = 5 ∨ k = 8 ∨ k = 9 ∨ k = 36 ∨ k = 40)) ∨ (175 ≤ r ∧ r ≤ 186) ∨ r = 189 ∨ r = 190
def rdL (r : Nat) : Prop := (11 ≤ r ∧ r ≤ 97) ∨ r = 128 ∨ r = 130 ∨ r = 3000
theorem SAI_cong {M N : Mm} {s : Nat} {g : Nat → Bool} (h : ∀ r k, rdB r k → gI N r k = gI M r k) (hS : SAI M s g) : SAI N s g := by
  obtain ⟨p, h1, h2, h3, h4, h5⟩ := hS
  exact ⟨p, h1, by rw [h 185 s (by unfold rdB; omega)]; exact h2, fun i hi => by rw [h 184 _ (by unfold rdB; omega)]; exact h3 i hi, h4, h5⟩
theorem BK_cong {M N : Mm} {B : Bk} (h : ∀ r k, rdB r k → gI N r k = gI M r k) (hl : ∀ r, rdL r → gL N r = gL M r) (hB : BK M B) : BK N B := by
  have hn := BK_nn hB
  obtain ⟨a1, a2, a3, a4, a5, a6, a7, a8⟩ := hB
  refine ⟨?_, ?_, ?_, ?_, ?_, ?_, ?_, a8⟩
  · unfold CNT at a1 ⊢
    rw [h 5 0 (by unfold rdB; omega), h 5 1 (by unfold rdB; omega), h 5 2 (by unfold rdB; omega), h 5 3 (by unfold rdB; omega), h 171 5 (by unfold rdB; omega), h 171 8 (by unfold rdB; omega), h 171 9 (by unfold rdB; omega), h 171 40 (by unfold rdB; omega), h 171 36 (by unfold rdB; omega)]
    exact a1
  · intro j hj
    rw [h 6 j (by unfold rdB; omega), h 7 j (by unfold rdB; omega), h 175 j (by unfold rdB; omega), h 176 j (by unfold rdB; omega)]
    exact a2 j hj
  · intro i hi
    have hq : ∀ k, gI N (26 + 3 * i) k = gI M (26 + 3 * i) k := fun k => h _ k (by unfold rdB; omega)
    rw [hq 0, hq 1, hq 2, hq 3, hq 4, hq 5, hq 6, hq 7, h 177 i (by unfold rdB; omega), h 178 i (by unfold rdB; omega), h 179 i (by unfold rdB; omega), h 180 i (by unfold rdB; omega), h 181 i (by unfold rdB; omega), h 186 (8 + i) (by unfold rdB; omega), h 182 i (by unfold rdB; omega), h 183 i (by unfold rdB; omega)]
    exact a3 i hi
  · obtain ⟨b1, b2, b3, b4, b5, b6⟩ := a4
    refine ⟨fun k hk => ?_, fun k hk => ?_, fun l hl1 k hk => ?_, fun i hi k hk => ?_, fun k hk => ?_, fun k hk => ?_⟩
    · rw [hl 130 (by unfold rdL; omega)]; exact b1 k hk
    · rw [hl 128 (by unfold rdL; omega)]; exact b2 k hk
    · rw [hl _ (by unfold rdL; omega)]; exact b3 l hl1 k hk
    · rw [hl _ (by unfold rdL; omega)]; exact b4 i hi k hk
    · rw [h 189 k (by unfold rdB; omega)]; exact b5 k hk
    · rw [h 190 k (by unfold rdB; omega)]; exact b6 k hk
  · exact fun l hl1 => SAI_cong h (a5 l hl1)
  · exact fun i hi => SAI_cong h (a6 i hi)
  · intro j hj
    rw [hl 3000 (by unfold rdL; omega)]; exact a7 j hj
def rdS (r : Nat) : Prop := (155 ≤ r ∧ r ≤ 170) ∨ (172 ≤ r ∧ r ≤ 174)
theorem SHT_cong {M N : Mm} (h : ∀ r k, rdS r → gI N r k = gI M r k) (hS : SHT M) : SHT N := by
  intro s hs
  have := hS s hs
  rw [h (155 + 2 * s) 0 (by unfold rdS; omega), h (155 + 2 * s) 1 (by unfold rdS; omega), h 172 s (by unfold rdS; omega), h 173 s (by unfold rdS; omega)]
  refine ⟨this.1, this.2.1, this.2.2.1, fun k hk => ?_⟩
  rw [h _ _ (by unfold rdS; omega), h _ _ (by unfold rdS; omega)]
  exact this.2.2.2 k hk
def rdT (r k : Nat) : Prop := (r = 3 ∧ k = 1) ∨ (r = 171 ∧ k = 21) ∨ r = 4 ∨ r = 187
theorem TAP_cong {M N : Mm} (h : ∀ r k, rdT r k → gI N r k = gI M r k) (hS : TAP M) : TAP N := by
  obtain ⟨n, h1, h2, h3, h4⟩ := hS
  refine ⟨n, h1, ?_, ?_, fun k hk => ?_⟩
  · rw [h 3 1 (by unfold rdT; omega)]; exact h2
  · rw [h 171 21 (by unfold rdT; omega)]; exact h3
  · rw [h 4 k (by unfold rdT; omega), h 187 k (by unfold rdT; omega)]; exact h4 k hk
def rdC (r k : Nat) : Prop := (r = 151 ∧ k = 1) ∨ (r = 171 ∧ k = 48) ∨ r = 152 ∨ r = 197
theorem TRC_cong {M N : Mm} (h : ∀ r k, rdC r k → gI N r k = gI M r k) (hS : TRC M) : TRC N := by
  obtain ⟨n, h1, h2, h3, h4⟩ := hS
  refine ⟨n, h1, ?_, ?_, fun k hk => ?_⟩
  · rw [h 151 1 (by unfold rdC; omega)]; exact h2
  · rw [h 171 48 (by unfold rdC; omega)]; exact h3
  · rw [h 152 k (by unfold rdC; omega), h 197 k (by unfold rdC; omega)]; exact h4 k hk
def rdU (r : Nat) : Prop := r = 153 ∨ r = 154 ∨ r = 195 ∨ r = 196
theorem BUY_cong {M N : Mm} {nm : Nat} {bk bv : Nat → Nat} (h : ∀ r k, rdU r → gI N r k = gI M r k) (hS : BUY M nm bk bv) : BUY N nm bk bv := by
  intro b hb
  rw [h 153 b (by unfold rdU; omega), h 154 b (by unfold rdU; omega), h 195 b (by unfold rdU; omega), h 196 b (by unfold rdU; omega)]
  exact hS b hb
def rdE (r k : Nat) : Prop := (r = 138 ∧ (k = 3 ∨ k = 4)) ∨ r = 143 ∨ r = 144
theorem EC_cong {M N : Mm} {B : Bk} (h : ∀ r k, rdE r k → gI N r k = gI M r k) (hS : EC M B) : EC N B := by
  rcases hS with h1 | ⟨h1, h2, h3, h4⟩
  · exact Or.inl (by rw [h 138 4 (by unfold rdE; omega)]; exact h1)
  · refine Or.inr ⟨by rw [h 138 4 (by unfold rdE; omega)]; exact h1, fun k hk ha => ?_, by rw [h 138 3 (by unfold rdE; omega)]; exact h3, fun v hv hi => ?_⟩
    · rw [h 144 k (by unfold rdE; omega)]; exact h2 k hk ha
    · rw [h 143 _ (by unfold rdE; omega)]; exact h4 v hv hi
def rdH (r k : Nat) : Prop := (r = 148 ∧ (k = 1 ∨ k = 2)) ∨ r = 149
theorem HC_cong {M N : Mm} {B : Bk} (h : ∀ r k, rdH r k → gI N r k = gI M r k) (hS : HC M B) : HC N B := by
  rcases hS with h1 | ⟨h1, n, h2, h3, h4, h5⟩
  · exact Or.inl (by rw [h 148 2 (by unfold rdH; omega)]; exact h1)
  · refine Or.inr ⟨by rw [h 148 2 (by unfold rdH; omega)]; exact h1, n, h2, by rw [h 148 1 (by unfold rdH; omega)]; exact h3, fun i hi => ?_, h5⟩
    rw [h 149 i (by unfold rdH; omega)]; exact h4 i hi
theorem LAT_cong {M N : Mm} (h1 : gI N 1 10 = gI M 1 10) (h2 : gI N 1 11 = gI M 1 11) (h3 : gI N 171 22 = gI M 171 22) (h4 : gI N 171 1 = gI M 171 1) (hS : LAT M) : LAT N := by
  unfold LAT at hS ⊢
  rw [h1, h2, h3, h4]; exact hS
/-- only the cells of T and U may differ -/
def Sm (T : Nat → Nat → Prop) (U : Nat → Prop) (M N : Mm) : Prop := gN N = gN M ∧ (∀ r k, ¬ (r = 151 ∧ k = 4) → gR N r k = gR M r k) ∧ (∀ r k, ¬ T r k → gI N r k = gI M r k) ∧ ∀ r, ¬ U r → gL N r = gL M r
theorem Sm_refl {T : Nat → Nat → Prop} {U : Nat → Prop} {M : Mm} : Sm T U M M := ⟨rfl, fun _ _ _ => rfl, fun _ _ _ => rfl, fun _ _ => rfl⟩
theorem Sm_trans {T : Nat → Nat → Prop} {U : Nat → Prop} {M N O : Mm} (h : Sm T U M N) (g : Sm T U N O) : Sm T U M O :=
  ⟨g.1.trans h.1, fun r k hr => (g.2.1 r k hr).trans (h.2.1 r k hr), fun r k hr => (g.2.2.1 r k hr).trans (h.2.2.1 r k hr), fun r hr => (g.2.2.2 r hr).trans (h.2.2.2 r hr)⟩
theorem Sm_mono {T T' : Nat → Nat → Prop} {U U' : Nat → Prop} {M N : Mm} (hT : ∀ r k, T r k → T' r k) (hU : ∀ r, U r → U' r) (h : Sm T U M N) : Sm T' U' M N :=
  ⟨h.1, h.2.1, fun r k hr => h.2.2.1 r k (fun z => hr (hT r k z)), fun r hr => h.2.2.2 r (fun z => hr (hU r z))⟩
theorem Sm_sI {T : Nat → Nat → Prop} {U : Nat → Prop} {M : Mm} {i k : Nat} {v : Int32} (h : T i k) : Sm T U M (sI M i k v) :=
  ⟨rfl, fun _ _ _ => rfl, fun r j hr => by rw [gI_sI, if_neg (fun z => hr (by rw [z.1, z.2]; exact h))], fun _ _ => rfl⟩
theorem Sm_wL {T : Nat → Nat → Prop} {U : Nat → Prop} {M : Mm} {w : Nat} {f : Nat → Int64} (h : U w) : Sm T U M (wL M w f) :=
  ⟨rfl, fun _ _ _ => rfl, fun _ _ _ => rfl, fun r hr => by rw [gL_wL, if_neg (fun z => hr (by rw [z]; exact h))]⟩
theorem Sm_wI {T : Nat → Nat → Prop} {U : Nat → Prop} {M : Mm} {w : Nat} {f : Nat → Int32} (h : ∀ k, T w k) : Sm T U M (wI M w f) :=
  ⟨rfl, fun _ _ _ => rfl, fun r j hr => by rw [gI_wI, if_neg (fun z => hr (by rw [z]; exact h j))], fun _ _ => rfl⟩
theorem Sm_sR {T : Nat → Nat → Prop} {U : Nat → Prop} {M : Mm} {v : Nat} : Sm T U M (sR M 151 4 v) :=
  ⟨rfl, fun r k hr => by rw [gR_sR, if_neg hr], fun _ _ _ => rfl, fun _ _ => rfl⟩
theorem Gd_Sm {T : Nat → Nat → Prop} {U : Nat → Prop} {M N : Mm} (h : Sm T U M N) (hG : Gd M) : Gd N :=
  ⟨h.1.trans hG.1, fun r k hr hn => (h.2.1 r k hn).trans (hG.2 r k hr hn)⟩
theorem EXT_Sm {E : Mm} {T : Nat → Nat → Prop} {U : Nat → Prop} {M N : Mm} (hT : ∀ r k, T r k → r < 1000) (hU : ∀ r, U r → r < 1000) (h : Sm T U M N) (hE : EXT E M) : EXT E N := by
  intro r hr
  obtain ⟨e1, e2, e3⟩ := hE r hr
  refine ⟨?_, ?_, ?_⟩
  · rw [← e1]; funext k; exact h.2.2.1 r k (fun z => by have := hT r k z; omega)
  · rw [← e2]; exact h.2.2.2 r (fun z => by have := hU r z; omega)
  · rw [← e3]; funext k; exact h.2.1 r k (by omega)
/-- the cells that a question may leave otherwise -/
def Qs (r k : Nat) : Prop := (r = 171 ∧ (k = 0 ∨ k = 42)) ∨ r = 139 ∨ r = 140 ∨ r = 192 ∨ r = 193 ∨ r = 194 ∨ r = 191 ∨ (r = 151 ∧ 5 ≤ k) ∨ (r = 138 ∧ 10 ≤ k) ∨ r = 145 ∨ r = 150
def QL (r : Nat) : Prop := r = 132 ∨ r = 134 ∨ r = 142 ∨ r = 147
theorem Inv_q {E M N : Mm} {B : Bk} (hI : Inv E M B) (h : Sm Qs QL M N) : Inv E N B := by
  obtain ⟨a1, a2, a3, a4, a5, a6, a7, ⟨bk, bv, a8⟩, a9, a10⟩ := hI
  have hT := h.2.2.1
  refine ⟨Gd_Sm h a1, EXT_Sm (fun r k z => by unfold Qs at z; omega) (fun r z => by unfold QL at z; omega) h a2, SHT_cong (fun r k z => hT r k (by unfold rdS at z; unfold Qs; omega)) a3, TAP_cong (fun r k z => hT r k (by unfold rdT at z; unfold Qs; omega)) a4, LAT_cong (hT _ _ (by unfold Qs; omega)) (hT _ _ (by unfold Qs; omega)) (hT _ _ (by unfold Qs; omega)) (hT _ _ (by unfold Qs; omega)) a5, TRC_cong (fun r k z => hT r k (by unfold rdC at z; unfold Qs; omega)) a6, BK_cong (fun r k z => hT r k (by unfold rdB at z; unfold Qs; omega)) (fun r z => h.2.2.2 r (by unfold rdL at z; unfold QL; omega)) a7, ⟨bk, bv, BUY_cong (fun r k z => hT r k (by unfold rdU at z; unfold Qs; omega)) a8⟩, EC_cong (fun r k z => hT r k (by unfold rdE at z; unfold Qs; omega)) a9, HC_cong (fun r k z => hT r k (by unfold rdH at z; unfold Qs; omega)) a10⟩
/-- a call of both answers alike, and what holds still holds -/
def Alike (E M : Mm) (d ci mi : Nat) (lc lm : List Value) : Prop := ∃ (r : Int32) (M1 M2 : Mm) (B' : Bk), go d ci 0 lc [] M = some (some (.int r), M1) ∧ go d mi 0 lm [] M1 = some (some (.int r), M2) ∧ Inv E M2 B'
/-- a question: the answers, and nothing but scratch differs -/
theorem Alike_q {E M : Mm} {B : Bk} {d ci mi : Nat} {lc lm : List Value} (hI : Inv E M B) (r : Int32) (M1 M2 : Mm) (h1 : go d ci 0 lc [] M = some (some (.int r), M1)) (s1 : Sm Qs QL M M1) (h2 : go d mi 0 lm [] M1 = some (some (.int r), M2)) (s2 : Sm Qs QL M1 M2) : Alike E M d ci mi lc lm :=
  ⟨r, M1, M2, B, h1, h2, Inv_q hI (Sm_trans s1 s2)⟩
