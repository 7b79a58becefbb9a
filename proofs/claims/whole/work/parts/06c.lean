/-! ===== constants, locals, stack, numbers ===== -/
theorem p1i_inv {st : List Value} {f : Int32 → List Value → Oo} {r : Option Value × Mm} (h : p1i st f = some r) : ∃ x t, st = .int x :: t ∧ f x t = some r := by
  unfold p1i at h
  split at h
  · exact ⟨_, _, rfl, h⟩
  · cases h
theorem p1l_inv {st : List Value} {f : Int64 → List Value → Oo} {r : Option Value × Mm} (h : p1l st f = some r) : ∃ x t, st = .long x :: t ∧ f x t = some r := by
  unfold p1l at h
  split at h
  · exact ⟨_, _, rfl, h⟩
  · cases h
theorem p1r_inv {st : List Value} {f : Nat → List Value → Oo} {r : Option Value × Mm} (h : p1r st f = some r) : ∃ x t, st = .ref x :: t ∧ f x t = some r := by
  unfold p1r at h
  split at h
  · exact ⟨_, _, rfl, h⟩
  · cases h
theorem p2i_inv {st : List Value} {f : Int32 → Int32 → List Value → Oo} {r : Option Value × Mm} (h : p2i st f = some r) : ∃ x y t, st = .int y :: .int x :: t ∧ f x y t = some r := by
  obtain ⟨y, t, rfl, h1⟩ := p1i_inv h
  obtain ⟨x, t, rfl, h2⟩ := p1i_inv h1
  exact ⟨x, y, t, rfl, h2⟩
theorem p2l_inv {st : List Value} {f : Int64 → Int64 → List Value → Oo} {r : Option Value × Mm} (h : p2l st f = some r) : ∃ x y t, st = .long y :: .long x :: t ∧ f x y t = some r := by
  obtain ⟨y, t, rfl, h1⟩ := p1l_inv h
  obtain ⟨x, t, rfl, h2⟩ := p1l_inv h1
  exact ⟨x, y, t, rfl, h2⟩
theorem pli_inv {st : List Value} {f : Int64 → Int32 → List Value → Oo} {r : Option Value × Mm} (h : pli st f = some r) : ∃ x y t, st = .int y :: .long x :: t ∧ f x y t = some r := by
  obtain ⟨y, t, rfl, h1⟩ := p1i_inv h
  obtain ⟨x, t, rfl, h2⟩ := p1l_inv h1
  exact ⟨x, y, t, rfl, h2⟩
theorem pri_inv {st : List Value} {f : Nat → Int32 → List Value → Oo} {r : Option Value × Mm} (h : pri st f = some r) : ∃ x y t, st = .int y :: .ref x :: t ∧ f x y t = some r := by
  obtain ⟨y, t, rfl, h1⟩ := p1i_inv h
  obtain ⟨x, t, rfl, h2⟩ := p1r_inv h1
  exact ⟨x, y, t, rfl, h2⟩
theorem lvi_inv {ls : List Value} {i : Nat} {f : Int32 → Oo} {r : Option Value × Mm} (h : lvi ls i f = some r) : ∃ x, ldv ls i = .int x ∧ f x = some r := by
  unfold lvi at h
  split at h
  · rename_i x hx; exact ⟨x, hx, h⟩
  · cases h
theorem lvl_inv {ls : List Value} {i : Nat} {f : Int64 → Oo} {r : Option Value × Mm} (h : lvl ls i f = some r) : ∃ x, ldv ls i = .long x ∧ f x = some r := by
  unfold lvl at h
  split at h
  · rename_i x hx; exact ⟨x, hx, h⟩
  · cases h
theorem lvr_inv {ls : List Value} {i : Nat} {f : Nat → Oo} {r : Option Value × Mm} (h : lvr ls i f = some r) : ∃ x, ldv ls i = .ref x ∧ f x = some r := by
  unfold lvr at h
  split at h
  · rename_i x hx; exact ⟨x, hx, h⟩
  · cases h
theorem cond_inv {c : Bool} {x : Oo} {r : Option Value × Mm} (h : (bif c then x else none) = some r) : c = true ∧ x = some r := by
  cases c
  · cases h
  · exact ⟨rfl, h⟩
theorem ite_inv {c : Prop} [Decidable c] {x : Oo} {r : Option Value × Mm} (h : (if c then x else none) = some r) : c ∧ x = some r := by
  by_cases hc : c
  · rw [if_pos hc] at h; exact ⟨hc, h⟩
  · rw [if_neg hc] at h; cases h
theorem vr_ref {b : Nat} {X : Nat → Value} (hX : ∀ r, X r = .null ∨ ∃ t, X r = .ref t) (x : Nat) : vr b X (.ref x) = .null ∨ ∃ t, vr b X (.ref x) = .ref t := by
  cases x with
  | zero => exact Or.inl rfl
  | succ j =>
    show (bif Nat.blt (j + 1) 1000 then Value.ref (b + j) else X (j + 1)) = .null ∨ ∃ t, (bif Nat.blt (j + 1) 1000 then Value.ref (b + j) else X (j + 1)) = .ref t
    cases Nat.blt (j + 1) 1000
    · exact hX (j + 1)
    · exact Or.inr ⟨_, rfl⟩
/-- what holds all through a method -/
def Cxt (p : Program) (s : State) (m : MethodId) (args : Array Value) (meth : Method) (c : Code) (mi : Nat) (D : va_G) (cA : Nat → ClassId) (b : Nat) (X : Nat → Value) (L : Nat) (xs : Nat → Int32) (n0 : Nat) : Prop :=
  p.tables.exec = Jvm.exec ∧ c.code = cdN mi ∧ c.maxLocals = ML mi ∧ s.vm.findClass (owN mi) = some m.cls ∧ (∀ w ∈ GT, w.before args s = true) ∧ va_K D vwCl (tysL cA) s ∧ Ext b X L xs s s.heap ∧ s.heap.size = b + n0 ∧ ((yyN mi).name = "<init>" → meth.name = "<init>")
section SND
variable {p : Program} {l : Launch} {e : Env} {R : Room} {s : State} {m : MethodId} {args : Array Value} {below : List Frame} {meth : Method} {c : Code} {Q : State → Prop} {mi : Nat} {D : va_G} {cA : Nat → ClassId} {b : Nat} {X : Nat → Value} {L : Nat} {xs : Nat → Int32} {n0 : Nat}
/-- from here the machine comes to Q -/
def WW (p : Program) (l : Launch) (e : Env) (R : Room) (s : State) (m : MethodId) (args : Array Value) (below : List Frame) (meth : Method) (c : Code) (Q : State → Prop) (mi : Nat) (D : va_G) (cA : Nat → ClassId) (b : Nat) (X : Nat → Value) (L : Nat) (xs : Nat → Int32) (n0 : Nat) (pc : Nat) (ls st : List Value) (M : Mm) : Prop :=
  ∀ (H : Heap) (locs : List Loc) (lsr : Array Slot), Sx D cA b L xs n0 s M H locs → LR b X lsr (ML mi) ls → W p l e R s m args below meth c H locs (gN M - n0) (ssz (gN M) - ssz n0) Q (F0 m pc lsr (st.map (vr b X)))
theorem sA_snd (C0 : Cxt p s m args meth c mi D cA b X L xs n0) {i : Instr} {len a b' c' pc : Nat} {ls st : List Value} {M : Mm} {k : Ct} {r : Option Value × Mm} (hd : decode (cdN mi) pc = .ok (i, len)) (hlen : len = ilen i) (hw : ∀ w ∈ lnkE (owN mi) (i, len, a, b', c'), w ∈ lw_tbl) (hpf : pfE mi (i, len, a, b', c') = true)
    (h : sA i a b' c' ls st M k = some r) (hk : ∀ ls' st' M', k ls' st' M' = some r → WW p l e R s m args below meth c Q mi D cA b X L xs n0 (pc + len) ls' st' M') : WW p l e R s m args below meth c Q mi D cA b X L xs n0 pc ls st M := by
  obtain ⟨hx, hb, hml, hown, hts, hK, hE, hbs, hnm⟩ := id C0
  have hX : ∀ r, X r = .null ∨ ∃ t, X r = .ref t := hE.2.2.2.2.2.1
  intro H locs lsr hS hl
  have nn : ∀ x, (Value.int x) ≠ .null := fun _ z => by cases z
  have nl : ∀ x, (Value.long x) ≠ .null := fun _ z => by cases z
  have nr : ∀ x, (Value.ref x) ≠ .null := fun _ z => by cases z
  have hlen2 : ls.length = ML mi := hl.2.2.1
  subst hlen
  cases i
  case iconst n => exact lv_iconst hx hb hd rfl (hk _ _ _ h H locs lsr hS hl)
  case bipush n => exact lv_bipush hx hb hd rfl (hk _ _ _ h H locs lsr hS hl)
  case sipush n => exact lv_sipush hx hb hd rfl (hk _ _ _ h H locs lsr hS hl)
  case lconst n => exact lv_lconst hx hb hd rfl (hk _ _ _ h H locs lsr hS hl)
  case ldc n =>
    cases b' with
    | zero => exact lv_ldc hx hb hown (hts _ (inG (hw _ List.mem_cons_self) rfl)) hd (hk _ _ _ h H locs lsr hS hl)
    | succ z =>
      simp only [pfE, Bool.or_eq_true, Bool.and_eq_true, Nat.beq_eq, Nat.blt_eq, decide_eq_true_eq] at hpf
      obtain hpf | ⟨⟨h1, h2⟩, h3⟩ := hpf
      · cases hpf
      · obtain ⟨⟨adK, adV, k1, k2, k3⟩, -⟩ := id hE
        have hz := k3 a h1
        rw [h2, ← h3] at hz
        refine va_ldcS hx hb hown hz hd ?_
        have hg := hk _ _ _ h H locs lsr hS hl
        have e1 : vr b X (.ref (1000 + a)) = .ref (adK a) := by
          show vrf b X (1000 + a) = _
          rw [vrf_hi (by omega)]
          exact (k1 a h1).1
        rw [List.map_cons, e1] at hg
        exact hg
  case ldc_w n => exact lv_ldcw hx hb hown (hts _ (inG (hw _ List.mem_cons_self) rfl)) hd (hk _ _ _ h H locs lsr hS hl)
  case ldc2_w n => exact lv_ldc2 hx hb hown (hts _ (inG (hw _ List.mem_cons_self) rfl)) hd (hk _ _ _ h H locs lsr hS hl)
  case iload_n j =>
    obtain ⟨x, hv, h⟩ := lvi_inv h
    exact lv_iload_n hx hb hd rfl (hl.ld hv (nn _)) (hk _ _ _ h H locs lsr hS hl)
  case iload j =>
    obtain ⟨x, hv, h⟩ := lvi_inv h
    exact lv_iload hx hb hd (hl.ld hv (nn _)) (hk _ _ _ h H locs lsr hS hl)
  case lload_n j =>
    obtain ⟨x, hv, h⟩ := lvl_inv h
    exact lv_lload_n hx hb hd rfl (hl.ld hv (nl _)) (hk _ _ _ h H locs lsr hS hl)
  case lload j =>
    obtain ⟨x, hv, h⟩ := lvl_inv h
    exact lv_lload hx hb hd (hl.ld hv (nl _)) (hk _ _ _ h H locs lsr hS hl)
  case aload_n j =>
    obtain ⟨x, hv, h⟩ := lvr_inv h
    have hg := hk _ _ _ h H locs lsr hS hl
    have hlv := hl.ld hv (nr _)
    rw [List.map_cons] at hg
    rcases vr_ref hX x with e1 | ⟨t, e1⟩
    · rw [e1] at hg hlv
      exact lv_aload_nN hx hb hd rfl hlv hg
    · rw [e1] at hg hlv
      exact lv_aload_n hx hb hd rfl hlv hg
  case aload j =>
    obtain ⟨x, hv, h⟩ := lvr_inv h
    have hg := hk _ _ _ h H locs lsr hS hl
    have hlv := hl.ld hv (nr _)
    rw [List.map_cons] at hg
    rcases vr_ref hX x with e1 | ⟨t, e1⟩
    · rw [e1] at hg hlv
      exact lv_aloadN hx hb hd hlv hg
    · rw [e1] at hg hlv
      exact lv_aload hx hb hd hlv hg
  case istore_n j =>
    obtain ⟨x, t, rfl, h⟩ := p1i_inv h
    obtain ⟨hj, h⟩ := cond_inv h
    rw [Bool.and_eq_true, Nat.blt_eq] at hj
    obtain ⟨hj, hkl⟩ := hj
    exact lv_istore_n hx hb hd rfl hl.has (by omega) rfl fun ls' hl' => hk _ _ _ h H locs ls' hS (hl.sto1 hX hkl hl')
  case istore j =>
    obtain ⟨x, t, rfl, h⟩ := p1i_inv h
    obtain ⟨hj, h⟩ := cond_inv h
    rw [Bool.and_eq_true, Nat.blt_eq] at hj
    obtain ⟨hj, hkl⟩ := hj
    exact lv_istore hx hb hd hl.has (by omega) rfl fun ls' hl' => hk _ _ _ h H locs ls' hS (hl.sto1 hX hkl hl')
  case lstore_n j =>
    obtain ⟨x, t, rfl, h⟩ := p1l_inv h
    obtain ⟨hj, h⟩ := cond_inv h
    rw [Bool.and_eq_true, Nat.blt_eq] at hj
    obtain ⟨hj, hkl⟩ := hj
    exact lv_lstore_n hx hb hd rfl hl.has (by omega) rfl fun ls' hl' => hk _ _ _ h H locs ls' hS (hl.sto2 hX hkl hl')
  case lstore j =>
    obtain ⟨x, t, rfl, h⟩ := p1l_inv h
    obtain ⟨hj, h⟩ := cond_inv h
    rw [Bool.and_eq_true, Nat.blt_eq] at hj
    obtain ⟨hj, hkl⟩ := hj
    exact lv_lstore hx hb hd hl.has (by omega) rfl fun ls' hl' => hk _ _ _ h H locs ls' hS (hl.sto2 hX hkl hl')
  case astore_n j =>
    obtain ⟨x, t, rfl, h⟩ := p1r_inv h
    obtain ⟨hj, h⟩ := cond_inv h
    rw [Bool.and_eq_true, Nat.blt_eq] at hj
    obtain ⟨hj, hkl⟩ := hj
    have hg := fun ls' hl' => hk _ _ _ h H locs ls' hS (hl.sto1 (v := .ref x) hX hkl hl')
    rw [List.map_cons]
    rcases vr_ref hX x with e1 | ⟨z, e1⟩
    · rw [e1] at hg ⊢
      exact lv_astore_nN hx hb hd rfl hl.has (by omega) rfl hg
    · rw [e1] at hg ⊢
      exact lv_astore_n hx hb hd rfl hl.has (by omega) rfl hg
  case astore j =>
    obtain ⟨x, t, rfl, h⟩ := p1r_inv h
    obtain ⟨hj, h⟩ := cond_inv h
    rw [Bool.and_eq_true, Nat.blt_eq] at hj
    obtain ⟨hj, hkl⟩ := hj
    have hg := fun ls' hl' => hk _ _ _ h H locs ls' hS (hl.sto1 (v := .ref x) hX hkl hl')
    rw [List.map_cons]
    rcases vr_ref hX x with e1 | ⟨z, e1⟩
    · rw [e1] at hg ⊢
      exact lv_astoreN hx hb hd hl.has (by omega) rfl hg
    · rw [e1] at hg ⊢
      exact lv_astore hx hb hd hl.has (by omega) rfl hg
  case iinc j n =>
    obtain ⟨x, hv, h⟩ := lvi_inv h
    obtain ⟨hj, h⟩ := cond_inv h
    rw [Bool.and_eq_true, Nat.blt_eq] at hj
    obtain ⟨hj, hkl⟩ := hj
    have hm : (j, Value.int x) ∈ lvs b X ls := lvs_mem.mpr ⟨.int x, by
      unfold ldv at hv
      rw [List.getD_eq_getElem?_getD] at hv
      cases hg : ls[j]? with
      | none => rw [hg] at hv; cases hv
      | some w => rw [hg] at hv; simp at hv; rw [hv], nn _, rfl⟩
    obtain ⟨q, hq⟩ := List.mem_iff_getElem?.mp hm
    exact lv_iinc hx hb hd hl.has hq rfl (by omega) rfl fun ls' hl' => hk _ _ _ h H locs ls' hS (hl.sto1 hX hkl hl')
  case dup =>
    cases st with
    | nil => cases h
    | cons v t =>
      obtain ⟨hj, h⟩ := cond_inv h
      rw [Nat.beq_eq] at hj
      exact lv_dup hx hb hd (by rw [vr_cat hX]; exact hj) (hk _ _ _ h H locs lsr hS hl)
  case dup2 =>
    cases st with
    | nil => cases h
    | cons v t =>
      cases t with
      | nil => cases h
      | cons w t =>
        obtain ⟨hj, h⟩ := cond_inv h
        rw [Bool.and_eq_true, Nat.beq_eq, Nat.beq_eq] at hj
        exact lv_dup2_11 hx hb hd (by rw [vr_cat hX]; exact hj.1) (by rw [vr_cat hX]; exact hj.2) (hk _ _ _ h H locs lsr hS hl)
  case pop =>
    cases st with
    | nil => cases h
    | cons v t =>
      obtain ⟨hj, h⟩ := cond_inv h
      rw [Nat.beq_eq] at hj
      exact lv_pop hx hb hd (by rw [vr_cat hX]; exact hj) (hk _ _ _ h H locs lsr hS hl)
  all_goals (simp only [sA, reduceCtorEq] at h)
theorem sB_snd (C0 : Cxt p s m args meth c mi D cA b X L xs n0) {i : Instr} {len pc : Nat} {ls st : List Value} {M : Mm} {k : Ct} {r : Option Value × Mm} (hd : decode (cdN mi) pc = .ok (i, len)) (hlen : len = ilen i)
    (h : sB i ls st M k = some r) (hk : ∀ ls' st' M', k ls' st' M' = some r → WW p l e R s m args below meth c Q mi D cA b X L xs n0 (pc + len) ls' st' M') : WW p l e R s m args below meth c Q mi D cA b X L xs n0 pc ls st M := by
  obtain ⟨hx, hb, hml, hown, hts, hK, hE, hbs, hnm⟩ := id C0
  intro H locs lsr hS hl
  subst hlen
  cases i
  case iadd => obtain ⟨x, y, t, rfl, h⟩ := p2i_inv h; exact lv_iadd hx hb hd (hk _ _ _ h H locs lsr hS hl)
  case isub => obtain ⟨x, y, t, rfl, h⟩ := p2i_inv h; exact lv_isub hx hb hd (hk _ _ _ h H locs lsr hS hl)
  case imul => obtain ⟨x, y, t, rfl, h⟩ := p2i_inv h; exact lv_imul hx hb hd (hk _ _ _ h H locs lsr hS hl)
  case iand => obtain ⟨x, y, t, rfl, h⟩ := p2i_inv h; exact lv_iand hx hb hd (hk _ _ _ h H locs lsr hS hl)
  case ior => obtain ⟨x, y, t, rfl, h⟩ := p2i_inv h; exact lv_ior hx hb hd (hk _ _ _ h H locs lsr hS hl)
  case ixor => obtain ⟨x, y, t, rfl, h⟩ := p2i_inv h; exact lv_ixor hx hb hd (hk _ _ _ h H locs lsr hS hl)
  case idiv =>
    obtain ⟨x, y, t, rfl, h2⟩ := p2i_inv h
    by_cases hy : y = 0
    · rw [if_pos hy] at h2; cases h2
    · rw [if_neg hy] at h2; exact lv_idiv hx hb hd hy (hk _ _ _ h2 H locs lsr hS hl)
  case irem =>
    obtain ⟨x, y, t, rfl, h2⟩ := p2i_inv h
    by_cases hy : y = 0
    · rw [if_pos hy] at h2; cases h2
    · rw [if_neg hy] at h2; exact lv_irem hx hb hd hy (hk _ _ _ h2 H locs lsr hS hl)
  case ineg => obtain ⟨x, t, rfl, h⟩ := p1i_inv h; exact lv_ineg hx hb hd (hk _ _ _ h H locs lsr hS hl)
  case ishl => obtain ⟨x, y, t, rfl, h⟩ := p2i_inv h; exact lv_ishl hx hb hd (hk _ _ _ h H locs lsr hS hl)
  case ishr => obtain ⟨x, y, t, rfl, h⟩ := p2i_inv h; exact lv_ishr hx hb hd (hk _ _ _ h H locs lsr hS hl)
  case iushr => obtain ⟨x, y, t, rfl, h⟩ := p2i_inv h; exact lv_iushr hx hb hd rfl (hk _ _ _ h H locs lsr hS hl)
  case ladd => obtain ⟨x, y, t, rfl, h⟩ := p2l_inv h; exact lv_ladd hx hb hd (hk _ _ _ h H locs lsr hS hl)
  case lsub => obtain ⟨x, y, t, rfl, h⟩ := p2l_inv h; exact lv_lsub hx hb hd (hk _ _ _ h H locs lsr hS hl)
  case land => obtain ⟨x, y, t, rfl, h⟩ := p2l_inv h; exact lv_land hx hb hd (hk _ _ _ h H locs lsr hS hl)
  case lor => obtain ⟨x, y, t, rfl, h⟩ := p2l_inv h; exact lv_lor hx hb hd (hk _ _ _ h H locs lsr hS hl)
  case lxor => obtain ⟨x, y, t, rfl, h⟩ := p2l_inv h; exact lv_lxor hx hb hd (hk _ _ _ h H locs lsr hS hl)
  case lshl => obtain ⟨x, y, t, rfl, h⟩ := pli_inv h; exact lv_lshl hx hb hd rfl (hk _ _ _ h H locs lsr hS hl)
  case lshr => obtain ⟨x, y, t, rfl, h⟩ := pli_inv h; exact lv_lshr hx hb hd rfl (hk _ _ _ h H locs lsr hS hl)
  case lushr => obtain ⟨x, y, t, rfl, h⟩ := pli_inv h; exact lv_lushr hx hb hd rfl (hk _ _ _ h H locs lsr hS hl)
  case i2l => obtain ⟨x, t, rfl, h⟩ := p1i_inv h; exact lv_i2l hx hb hd rfl (hk _ _ _ h H locs lsr hS hl)
  case l2i => obtain ⟨x, t, rfl, h⟩ := p1l_inv h; exact lv_l2i hx hb hd rfl (hk _ _ _ h H locs lsr hS hl)
  case i2b => obtain ⟨x, t, rfl, h⟩ := p1i_inv h; exact lv_i2b hx hb hd rfl (hk _ _ _ h H locs lsr hS hl)
  case i2s => obtain ⟨x, t, rfl, h⟩ := p1i_inv h; exact lv_i2s hx hb hd rfl (hk _ _ _ h H locs lsr hS hl)
  case i2c => obtain ⟨x, t, rfl, h⟩ := p1i_inv h; exact lv_i2c hx hb hd rfl (hk _ _ _ h H locs lsr hS hl)
  case lcmp => obtain ⟨x, y, t, rfl, h⟩ := p2l_inv h; exact W.lcmp hx hb hd (hk _ _ _ h H locs lsr hS hl)
  all_goals (simp only [sB, reduceCtorEq] at h)
end SND
