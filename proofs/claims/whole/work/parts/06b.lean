/-! ===== what stands around: constants, texts, the script; the state of a walk ===== -/
def GT : List Cond := lw_tbl.filter goodWord
theorem inG {w : Cond} (h : w ∈ lw_tbl) (hg : goodWord w = true) : w ∈ GT := List.mem_filter.mpr ⟨h, hg⟩
def aB (b : Nat) : Nat → Prop := fun q => b ≤ q
def Ext (b : Nat) (X : Nat → Value) (L : Nat) (xs : Nat → Int32) (U : State) (H : Heap) : Prop :=
  (∃ adK adV : Nat → Nat, (∀ i, i < nStr → X (1000 + i) = .ref (adK i) ∧ X (2000 + i) = .ref (adV i)) ∧ vk_S nStr stLs stBs adK adV (aB b) U H ∧ ∀ i, i < nStr → vk_R stO (stI i) (stT i) (adK i) U) ∧
  (∃ t : Nat, X 3000 = .ref t ∧ va_Z "MarkedBody$KindSet" "WITH_LOW_MARK" "[J" (.ref t) (aB b) U H ∧ va_T .long t 6 (fun j => .long (wlm j)) (aB b) U H) ∧
  va_Z "java/lang/String" "COMPACT_STRINGS" "Z" (.int 1) (aB b) U H ∧
  va_Z "jdk/internal/util/Preconditions" "SIOOBE_FORMATTER" "Ljava/util/function/BiFunction;" (X 5000) (aB b) U H ∧
  (∃ t : Nat, X 4000 = .ref t ∧ va_X t L xs U H ∧ t < H.size ∧ ¬ aB b t) ∧
  (∀ r, X r = .null ∨ ∃ t, X r = .ref t) ∧
  (∀ (o : String) (i : Nat) (y : MethodName) (h : String), Cond.methodLinkNest o i y h ∈ lw_tbl → va_Nw (.methodLinkNest o i y h) U) ∧
  (∀ C : String, Cond.arrayOver (.object C) ∈ lw_tbl → va_AO C U)
theorem Ext.to {b : Nat} {X : Nat → Value} {L : Nat} {xs : Nat → Int32} {s U : State} {H : Heap} {locs : List Loc} (h : Ext b X L xs s s.heap) (hW : s.WarmedH U.vm) (hS : va_S (aB b) s.heap H locs) (hU : U.heap = H) : Ext b X L xs U U.heap := by
  subst hU
  obtain ⟨⟨adK, adV, k1, k2, k3⟩, ⟨t, z1, z2, z3⟩, c1, c2, ⟨q, x1, x2, x3, x4⟩, n1, n2, n3⟩ := h
  have hv := hW.alike
  refine ⟨⟨adK, adV, k1, (k2.kept hS.2.1).moved hv, fun i hi => (k3 i hi).warm hW⟩, ⟨t, z1, (z2.kept hS.2.1).moved hv, (z3.kept hS.2.1).moved hv⟩, (c1.kept hS.2.1).moved hv, (c2.kept hS.2.1).moved hv, ⟨q, x1, (x2.kept (hS.2.1 q x3 x4)).moved hv, Nat.lt_of_lt_of_le x3 hS.1, x4⟩, n1, fun o i y h hm => va_Nw.warmM hW (n2 o i y h hm), fun C hC => (n3 C hC).moved hv⟩
theorem Ext.blind {b : Nat} {X : Nat → Value} {L : Nat} {xs : Nat → Int32} {U : State} {g : JFrame} {mk : MethodId} {a : Array Value} (h : Ext b X L xs U U.heap) : Ext b X L xs (U.calling g mk a) (U.calling g mk a).heap := by
  obtain ⟨⟨adK, adV, k1, k2, k3⟩, ⟨t, z1, z2, z3⟩, c1, c2, ⟨q, x1, x2, x3, x4⟩, n1, n2, n3⟩ := h
  have hv : U.vm.Alike (U.calling g mk a).vm := Vm.Alike.refl U.vm
  exact ⟨⟨adK, adV, k1, vk_S.moved hv k2, fun i hi => vk_R.same rfl (k3 i hi)⟩, ⟨t, z1, va_Z.moved hv z2, va_T.moved hv z3⟩, va_Z.moved hv c1, va_Z.moved hv c2, ⟨q, x1, va_X.moved hv x2, x3, x4⟩, n1, fun o i y h hm => va_Nw.same rfl rfl (n2 o i y h hm), fun C hC => va_AO.moved hv (n3 C hC)⟩
/-- how many words the first n cells have -/
def ssz : Nat → Nat
  | 0 => 0
  | n + 1 => ssz n + (SH (n + 1)).2
theorem ssz_le {n n' : Nat} (h : n ≤ n') : ssz n ≤ ssz n' := by
  induction h with
  | refl => exact Nat.le_refl _
  | step _ ih => exact Nat.le_trans ih (Nat.le_add_right _ _)
def stB (i j : Nat) : Int32 := (stBs.getD i []).getD j 0
/-- what holds of a memory by itself -/
def StM (L : Nat) (xs : Nat → Int32) (M : Mm) : Prop :=
  gN M < 1000 ∧ (∀ r k, gN M < r → r < 1000 → gI M r k = 0 ∧ gL M r k = 0 ∧ gR M r k = 0) ∧ (∀ r k, r < 1000 → gR M r k < 1000) ∧
  (∀ i j, i < nStr → j < stL i → gI M (2000 + i) j = stB i j) ∧ (∀ j, j < 6 → gL M 3000 j = wlm j) ∧ (∀ j, j < L → gI M 4000 j = xs j) ∧ gR M 4000 0 = L
theorem StM.sI {L : Nat} {xs : Nat → Int32} {M : Mm} (h : StM L xs M) {r k : Nat} {v : Int32} (hr : r ≤ gN M) : StM L xs (sI M r k v) := by
  obtain ⟨h1, h2, h3, h4, h5, h6, h7⟩ := h
  have hn : gN M < 1000 := h1
  refine ⟨h1, fun q j hq hq2 => ?_, h3, fun i j hi hj => ?_, h5, fun j hj => ?_, h7⟩
  · have hq : gN M < q := hq
    have := h2 q j hq hq2
    rw [gI_sIn (by omega)]
    exact this
  · rw [gI_sIn (by omega)]; exact h4 i j hi hj
  · rw [gI_sIn (by omega)]; exact h6 j hj
theorem StM.sL {L : Nat} {xs : Nat → Int32} {M : Mm} (h : StM L xs M) {r k : Nat} {v : Int64} (hr : r ≤ gN M) : StM L xs (sL M r k v) := by
  obtain ⟨h1, h2, h3, h4, h5, h6, h7⟩ := h
  have hn : gN M < 1000 := h1
  refine ⟨h1, fun q j hq hq2 => ?_, h3, h4, fun j hj => ?_, h6, h7⟩
  · have hq : gN M < q := hq
    have := h2 q j hq hq2
    rw [gL_sLn (by omega)]
    exact this
  · rw [gL_sLn (by omega)]; exact h5 j hj
theorem StM.sR {L : Nat} {xs : Nat → Int32} {M : Mm} (h : StM L xs M) {r k v : Nat} (hr : r ≤ gN M) (hv : v < 1000) : StM L xs (sR M r k v) := by
  obtain ⟨h1, h2, h3, h4, h5, h6, h7⟩ := h
  have hn : gN M < 1000 := h1
  refine ⟨h1, fun q j hq hq2 => ?_, fun q j hq => ?_, h4, h5, h6, ?_⟩
  · have hq : gN M < q := hq
    have := h2 q j hq hq2
    rw [gR_sRn (by omega)]
    exact this
  · show (if q = r ∧ j = k then v else gR M q j) < 1000
    split
    · exact hv
    · exact h3 q j hq
  · rw [gR_sRn (by omega)]; exact h7
theorem StM.cI {L : Nat} {xs : Nat → Int32} {M : Mm} (h : StM L xs M) {a sp r dp n : Nat} (hr : r ≤ gN M) : StM L xs (cI M a sp r dp n) := by
  obtain ⟨h1, h2, h3, h4, h5, h6, h7⟩ := h
  have hn : gN M < 1000 := h1
  refine ⟨h1, fun q j hq hq2 => ?_, h3, fun i j hi hj => ?_, h5, fun j hj => ?_, h7⟩
  · have hq : gN M < q := hq
    have := h2 q j hq hq2
    rw [gI_cIn (by omega)]
    exact this
  · rw [gI_cIn (by omega)]; exact h4 i j hi hj
  · rw [gI_cIn (by omega)]; exact h6 j hj
theorem StM.cL {L : Nat} {xs : Nat → Int32} {M : Mm} (h : StM L xs M) {a sp r dp n : Nat} (hr : r ≤ gN M) : StM L xs (cL M a sp r dp n) := by
  obtain ⟨h1, h2, h3, h4, h5, h6, h7⟩ := h
  have hn : gN M < 1000 := h1
  refine ⟨h1, fun q j hq hq2 => ?_, h3, h4, fun j hj => ?_, h6, h7⟩
  · have hq : gN M < q := hq
    have := h2 q j hq hq2
    rw [gL_cLn (by omega)]
    exact this
  · rw [gL_cLn (by omega)]; exact h5 j hj
theorem StM.sN {L : Nat} {xs : Nat → Int32} {M : Mm} (h : StM L xs M) (hn : gN M + 1 < 1000) : StM L xs (sN M) := by
  obtain ⟨h1, h2, h3, h4, h5, h6, h7⟩ := h
  exact ⟨hn, fun q j hq hq2 => h2 q j (Nat.lt_of_succ_lt hq) hq2, h3, h4, h5, h6, h7⟩
/-- the heap holds the memory -/
def Sx (D : va_G) (cA : Nat → ClassId) (b L : Nat) (xs : Nat → Int32) (n0 : Nat) (s : State) (M : Mm) (H : Heap) (locs : List Loc) : Prop :=
  n0 ≤ gN M ∧ StM L xs M ∧ va_P D vwCl (wsM b cA M) H ∧ va_S (aB b) s.heap H locs
/-- the locals hold the values -/
def LR (b : Nat) (X : Nat → Value) (lsr : Array Slot) (nL : Nat) (ls : List Value) : Prop :=
  lsr.size = nL ∧ lv_wf lsr ∧ ls.length = nL ∧ ∀ (i : Nat) (v : Value), ls[i]? = some v → v ≠ .null → lsr[i]? = some (.val (vr b X v))
def lvs (b : Nat) (X : Nat → Value) (ls : List Value) : List (Nat × Value) := (List.range ls.length).filterMap fun i => match ls[i]? with
  | some v => if v = .null then none else some (i, vr b X v)
  | none => none
theorem lvs_mem {b : Nat} {X : Nat → Value} {ls : List Value} {i : Nat} {w : Value} : (i, w) ∈ lvs b X ls ↔ ∃ v, ls[i]? = some v ∧ v ≠ .null ∧ w = vr b X v := by
  unfold lvs
  rw [List.mem_filterMap]
  constructor
  · rintro ⟨j, hj, h⟩
    split at h
    · rename_i v hv
      split at h
      · cases h
      · rename_i hn
        cases h
        exact ⟨v, hv, hn, rfl⟩
    · cases h
  · rintro ⟨v, hv, hn, rfl⟩
    refine ⟨i, List.mem_range.mpr (List.getElem?_eq_some_iff.mp hv).1, ?_⟩
    simp [hv, hn]
theorem LR.has {b : Nat} {X : Nat → Value} {lsr : Array Slot} {nL : Nat} {ls : List Value} (h : LR b X lsr nL ls) : lv_has lsr nL (lvs b X ls) := by
  refine ⟨h.1, h.2.1, fun q hq => ?_⟩
  obtain ⟨v, h1, h2, h3⟩ := lvs_mem.mp hq
  rw [h3]
  exact h.2.2.2 _ _ h1 h2
theorem LR.ld {b : Nat} {X : Nat → Value} {lsr : Array Slot} {nL : Nat} {ls : List Value} (h : LR b X lsr nL ls) {i : Nat} {v : Value} (hv : ldv ls i = v) (hn : v ≠ .null) : lsr[i]? = some (.val (vr b X v)) := by
  refine h.2.2.2 i v ?_ hn
  unfold ldv at hv
  rw [List.getD_eq_getElem?_getD] at hv
  cases hg : ls[i]? with
  | none => rw [hg] at hv; exact absurd hv.symm hn
  | some w => rw [hg] at hv; simp at hv; rw [hv]
theorem vr_cat {b : Nat} {X : Nat → Value} (hX : ∀ r, X r = .null ∨ ∃ t, X r = .ref t) (v : Value) : (vr b X v).category = v.category := by
  cases v with
  | ref r =>
    cases r with
    | zero => rfl
    | succ j =>
      show (bif Nat.blt (j + 1) 1000 then Value.ref (b + j) else X (j + 1)).category = 1
      cases Nat.blt (j + 1) 1000
      · rcases hX (j + 1) with h | ⟨t, h⟩ <;> simp [h, Value.category]
      · rfl
  | _ => rfl
theorem nkl_get {ls : List Value} {i j : Nat} {w : Value} (h : ls[j]? = some w) (hk : nkl ls i = true) : ¬ (j + 1 = i ∧ w.category = 2) := by
  rintro ⟨rfl, hc⟩
  have e : ldv ls j = w := by unfold ldv; rw [List.getD_eq_getElem?_getD, h]; rfl
  simp only [nkl, e, hc] at hk
  cases hk
theorem LR.sto1 {b : Nat} {X : Nat → Value} {lsr lsr' : Array Slot} {nL : Nat} {ls : List Value} (hX : ∀ r, X r = .null ∨ ∃ t, X r = .ref t) (h : LR b X lsr nL ls) {i : Nat} {v : Value} (hk : nkl ls i = true) (hl : lv_has lsr' nL ((i, vr b X v) :: (lvs b X ls).filter (fun q => !(q.1 == i) && !(q.1 + 1 == i && q.2.category == 2)))) : LR b X lsr' nL (st1 ls i v) := by
  refine ⟨hl.1, hl.2.1, by unfold st1; rw [List.length_set]; exact h.2.2.1, fun j w hj hn => ?_⟩
  unfold st1 at hj
  rw [List.getElem?_set] at hj
  by_cases e : i = j
  · rw [if_pos e] at hj
    split at hj
    · cases hj
      subst e
      exact hl.2.2 (i, vr b X v) List.mem_cons_self
    · cases hj
  · rw [if_neg e] at hj
    have h1 := hj
    have h2 := nkl_get h1 hk
    refine hl.2.2 (j, vr b X w) (List.mem_cons_of_mem _ (List.mem_filter.mpr ⟨lvs_mem.mpr ⟨w, h1, hn, rfl⟩, ?_⟩))
    simp only [vr_cat hX, Bool.and_eq_true, Bool.not_eq_true', beq_eq_false_iff_ne, ne_eq, Bool.and_eq_false_iff]
    refine ⟨fun z => e z.symm, ?_⟩
    by_cases z : j + 1 = i
    · exact Or.inr fun y => h2 ⟨z, y⟩
    · exact Or.inl z
theorem LR.sto2 {b : Nat} {X : Nat → Value} {lsr lsr' : Array Slot} {nL : Nat} {ls : List Value} (hX : ∀ r, X r = .null ∨ ∃ t, X r = .ref t) (h : LR b X lsr nL ls) {i : Nat} {v : Value} (hk : nkl ls i = true) (hl : lv_has lsr' nL ((i, vr b X v) :: (lvs b X ls).filter (fun q => !(q.1 == i) && (!(q.1 == i + 1) && !(q.1 + 1 == i && q.2.category == 2))))) : LR b X lsr' nL (st2 ls i v) := by
  refine ⟨hl.1, hl.2.1, by unfold st2; rw [List.length_set, List.length_set]; exact h.2.2.1, fun j w hj hn => ?_⟩
  unfold st2 at hj
  rw [List.getElem?_set] at hj
  by_cases e0 : i + 1 = j
  · rw [if_pos e0] at hj
    split at hj
    · cases hj; exact absurd rfl hn
    · cases hj
  rw [if_neg e0, List.getElem?_set] at hj
  by_cases e : i = j
  · rw [if_pos e] at hj
    split at hj
    · cases hj
      subst e
      exact hl.2.2 (i, vr b X v) List.mem_cons_self
    · cases hj
  · rw [if_neg e] at hj
    have h1 := hj
    have h2 := nkl_get h1 hk
    refine hl.2.2 (j, vr b X w) (List.mem_cons_of_mem _ (List.mem_filter.mpr ⟨lvs_mem.mpr ⟨w, h1, hn, rfl⟩, ?_⟩))
    simp only [vr_cat hX, Bool.and_eq_true, Bool.not_eq_true', beq_eq_false_iff_ne, ne_eq, Bool.and_eq_false_iff]
    refine ⟨fun z => e z.symm, fun z => e0 z.symm, ?_⟩
    by_cases z : j + 1 = i
    · exact Or.inr fun y => h2 ⟨z, y⟩
    · exact Or.inl z
