/-! ===== methods by contract ===== -/
theorem lg_len {b : Nat} {X : Nat → Value} (hX : ∀ r, X r = .null ∨ ∃ t, X r = .ref t) : ∀ as : List Value, (lg_sl (as.map (vr b X))).length = (padv as).length
  | [] => rfl
  | v :: as => by
    have ih := lg_len (b := b) hX as
    have e1 : lg_sl ((v :: as).map (vr b X)) = (if (vr b X v).category = 2 then [Slot.val (vr b X v), .second] else [.val (vr b X v)]) ++ lg_sl (as.map (vr b X)) := rfl
    have e2 : padv (v :: as) = bif Nat.beq v.category 2 then v :: .null :: padv as else v :: padv as := rfl
    rw [e1, e2, vr_cat hX, List.length_append, ih]
    by_cases hc : v.category = 2
    · rw [if_pos hc, hc]
      show _ = (v :: Value.null :: padv as).length
      simp only [List.length_cons, List.length_nil]; omega
    · have hb : Nat.beq v.category 2 = false := by
        cases hb : Nat.beq v.category 2
        · rfl
        · rw [Nat.beq_eq] at hb; exact absurd hb hc
      rw [if_neg hc, hb]
      show _ = (v :: padv as).length
      simp only [List.length_cons, List.length_nil]; omega
theorem args_mem {b : Nat} {X : Nat → Value} (hX : ∀ r, X r = .null ∨ ∃ t, X r = .ref t) : ∀ (as : List Value) (off i : Nat) (v : Value), (padv as)[i]? = some v → v ≠ .null → (off + i, vr b X v) ∈ lv_args off (as.map (vr b X))
  | [], off, i, v, h, _ => by simp [padv] at h
  | u :: as, off, i, v, h, hn => by
    have e2 : padv (u :: as) = bif Nat.beq u.category 2 then u :: .null :: padv as else u :: padv as := rfl
    rw [e2] at h
    have e1 : lv_args off ((u :: as).map (vr b X)) = (off, vr b X u) :: lv_args (if (vr b X u).category = 2 then off + 2 else off + 1) (as.map (vr b X)) := rfl
    rw [e1, vr_cat hX]
    by_cases hc : u.category = 2
    · rw [hc] at h
      have h : (u :: Value.null :: padv as)[i]? = some v := h
      rw [if_pos hc]
      match i, h with
      | 0, h => simp at h; subst h; exact List.mem_cons_self
      | 1, h => simp at h; exact absurd h.symm hn
      | i + 2, h =>
        simp at h
        have := args_mem (b := b) hX as (off + 2) i v h hn
        rw [show off + (i + 2) = off + 2 + i by omega]
        exact List.mem_cons_of_mem _ this
    · have hb : Nat.beq u.category 2 = false := by
        cases hb : Nat.beq u.category 2
        · rfl
        · rw [Nat.beq_eq] at hb; exact absurd hb hc
      rw [hb] at h
      have h : (u :: padv as)[i]? = some v := h
      rw [if_neg hc]
      match i, h with
      | 0, h => simp at h; subst h; exact List.mem_cons_self
      | i + 1, h =>
        simp at h
        have := args_mem (b := b) hX as (off + 1) i v h hn
        rw [show off + (i + 1) = off + 1 + i by omega]
        exact List.mem_cons_of_mem _ this
theorem LR.entry {b : Nat} {X : Nat → Value} (hX : ∀ r, X r = .null ∨ ∃ t, X r = .ref t) {as : List Value} {n : Nat} (h : (padv as).length ≤ n) : LR b X ((lg_sl (as.map (vr b X)) ++ List.replicate (n - (lg_sl (as.map (vr b X))).length) Slot.unset).toArray) n (pad n as) := by
  have hl := lv_entry (as.map (vr b X)) (n := n) (by rw [lg_len hX]; exact h)
  refine ⟨hl.1, hl.2.1, by unfold pad; rw [List.length_append, List.length_replicate]; omega, fun i v hi hn => ?_⟩
  unfold pad at hi
  by_cases hc : i < (padv as).length
  · rw [List.getElem?_append_left hc] at hi
    have := args_mem (b := b) hX as 0 i v hi hn
    rw [Nat.zero_add] at this
    exact hl.2.2 _ this
  · rw [List.getElem?_append_right (by omega), List.getElem?_replicate] at hi
    split at hi
    · cases hi; exact absurd rfl hn
    · cases hi
section SNI
variable {p : Program} {l : Launch} {e : Env} {R : Room} {s : State} {m : MethodId} {args : Array Value} {below : List Frame} {meth : Method} {c : Code} {mi : Nat} {D : va_G} {cA : Nat → ClassId} {b : Nat} {X : Nat → Value} {L : Nat} {xs : Nat → Int32} {n0 : Nat}
theorem rtn_snd (C0 : Cxt p s m args meth c mi D cA b X L xs n0) (hlocks : meth.locks = false) (hr : meth.sig.returnType = rtF (RT mi)) {i : Instr} {pc : Nat} {st : List Value} {M : Mm} {H : Heap} {locs : List Loc} {lsr : Array Slot} {r : Option Value × Mm} (hd : decode (cdN mi) pc = .ok (i, 1)) (h : rtn (RT mi) i st M = some r) (hS : Sx D cA b L xs n0 s M H locs) :
    W p l e R s m args below meth c H locs (gN M - n0) (ssz (gN M) - ssz n0) (MQ below (QcO D cA b X L xs r) args s (gN r.2 - n0) (ssz (gN r.2) - ssz n0) (aB b)) (F0 m pc lsr (st.map (vr b X))) := by
  obtain ⟨hx, hb, hml, hown, hts, hK, hE, hbs, hnm⟩ := id C0
  obtain ⟨hn, hM, hP, hSS⟩ := hS
  unfold rtn at h
  cases i
  case return_ =>
    dsimp only at h
    obtain ⟨h0, h⟩ := cond_inv h
    rw [Nat.beq_eq] at h0
    rw [h0] at hr
    split at h
    · cases h
      exact W.vret (Qc := QcO D cA b X L xs (none, M)) hx hb hr (fun t ht _ => ⟨rfl, hM, by rw [ht]; exact hP, hSS.F ht⟩) hSS.2.2 hd hlocks
    · cases h
  case ireturn =>
    dsimp only at h
    split at h
    · rename_i x
      split at h
      · rename_i h0
        rw [h0] at hr
        cases h
        exact W.iret (Qc := QcO D cA b X L xs (some (.int x), M)) hx hb hr (fun t ht _ => ⟨rfl, hM, by rw [ht]; exact hP, hSS.F ht⟩) hSS.2.2 hd hlocks
      · rename_i h0
        rw [h0] at hr
        obtain ⟨hz, h⟩ := ite_inv h
        cases h
        simp only [Bool.or_eq_true, beq_iff_eq] at hz
        exact W.zret (Qc := QcO D cA b X L xs (some (.int x), M)) hx hb hr (by rcases hz with rfl | rfl <;> rfl) (fun t ht _ => ⟨rfl, hM, by rw [ht]; exact hP, hSS.F ht⟩) hSS.2.2 hd hlocks
      · rename_i h0
        rw [h0] at hr
        obtain ⟨hz, h⟩ := ite_inv h
        cases h
        exact W.zret (Qc := QcO D cA b X L xs (some (.int x), M)) hx hb hr hz (fun t ht _ => ⟨rfl, hM, by rw [ht]; exact hP, hSS.F ht⟩) hSS.2.2 hd hlocks
      · rename_i h0
        rw [h0] at hr
        obtain ⟨hz, h⟩ := ite_inv h
        cases h
        exact W.zret (Qc := QcO D cA b X L xs (some (.int x), M)) hx hb hr hz (fun t ht _ => ⟨rfl, hM, by rw [ht]; exact hP, hSS.F ht⟩) hSS.2.2 hd hlocks
      · cases h
    · cases h
  case lreturn =>
    dsimp only at h
    split at h
    · rename_i x
      obtain ⟨h0, h⟩ := cond_inv h
      rw [Nat.beq_eq] at h0
      rw [h0] at hr
      cases h
      exact W.lret (Qc := QcO D cA b X L xs (some (.long x), M)) hx hb hr (fun t ht _ => ⟨rfl, hM, by rw [ht]; exact hP, hSS.F ht⟩) hSS.2.2 hd hlocks
    · cases h
  all_goals (dsimp only at h; cases h)
end SNI
theorem met_snd (l : Launch) (D : va_G) (cA : Nat → ClassId) (b : Nat) (X : Nat → Value) (L : Nat) (xs : Nat → Int32) : ∀ (d mi : Nat) (as : List Value) (M : Mm) (r : Option Value × Mm), mi < nMt → (padv as).length ≤ ML mi → go d mi 0 (pad (ML mi) as) [] M = some r → MetO l D cA b X L xs d mi as M r := by
  intro d
  induction d with
  | zero => intro mi as M r _ _ h; cases h
  | succ d ih =>
    intro mi as M r hmi hpad h
    have hmi2 : mi < 250 := by have : nMt = 249 := rfl; omega
    obtain ⟨m1, m2, m3, m4, m5, m6, m7, m8, m9⟩ := md_ok mi hmi2
    obtain ⟨n, hn⟩ := go_it.mp h
    refine Met.ofW (cc := cdN mi) (maxL := ML mi) (ret := rtN mi) m1 rfl ?_
    intro p e s m args below meth c s₁ B hml hv
    obtain ⟨rfl, hsz, hM, hP, hK, hE⟩ := hv
    have hX : ∀ r, X r = .null ∨ ∃ t, X r = .ref t := hE.2.2.2.2.2.1
    have hts := atoms_spec (ws := wsO mi) B.pre
    have hown : s.vm.findClass (owN mi) = some m.cls := by rw [← m2]; exact findClass_of_methodNamed B.named
    have C0 : Cxt p s m ((as.map (vr b X)).toArray) meth c mi D cA b X L xs (gN M) := ⟨B.exec, B.bytes, hml, hown, fun w hw => hts w (List.mem_cons_of_mem _ hw), hK, hE, hsz, fun z => (name_of_methodNamed B.named B.method).1.trans z⟩
    have hR : RmOK (headSpec (wsO mi) (rmO (d + 1) (gN r.2 - gN M) (ssz (gN r.2) - ssz (gN M)))).room (d + 1) (gN M) (gN r.2) := ⟨Nat.le_refl _, Nat.le_refl _, Nat.le_refl _, Nat.le_refl _⟩
    have hKm : ∀ a as M r, (fun a as M => go d a 0 as [] M) a as M = some r → gN M ≤ gN r.2 := fun a as M r h => go_mono d a 0 as [] M r h
    have key : ∀ (n pc : Nat) (ls st : List Value) (M' : Mm), itK (fun a as M => go d a 0 as [] M) n mi pc ls st M' = some r → WW p l e (headSpec (wsO mi) (rmO (d + 1) (gN r.2 - gN M) (ssz (gN r.2) - ssz (gN M)))).room s m ((as.map (vr b X)).toArray) below meth c (MQ below (QcO D cA b X L xs r) ((as.map (vr b X)).toArray) s (gN r.2 - gN M) (ssz (gN r.2) - ssz (gN M)) (aB b)) mi D cA b X L xs (gN M) pc ls st M' := by
      intro n
      induction n with
      | zero => intro pc ls st M' h; cases h
      | succ n ihn =>
        intro pc ls st M' h
        refine ev_snd C0 hmi2 hR hKm (fun a as' M1 r1 ha hp hg => ⟨ih a as' M1 r1 ha hp hg, go_mono d a 0 _ [] M1 r1 hg⟩) (G := itK (fun a as M => go d a 0 as [] M) n mi) (fun t ls st M2 h => it_mono _ hKm n mi t ls st M2 r h) (fun t ls st M2 h => ihn t ls st M2 h) ?_ 300 pc ls st M' h
        intro i pc st M2 H locs lsr hd hrt hS
        exact rtn_snd C0 B.notSynchronized (B.returns.trans m8) hd hrt hS
    have hg := key n 0 _ _ _ hn s.heap [] _ ⟨Nat.le_refl _, hM, hP, va_S.rf⟩ (LR.entry hX hpad)
    rw [lg_entry_eq]
    rw [Nat.sub_self, Nat.sub_self] at hg
    exact hg
