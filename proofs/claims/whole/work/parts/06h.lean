/-! ===== branches, the end, a method, the whole machine ===== -/
theorem gon_inv {k : Nat → Oo} {o : Int} {r : Option Value × Mm} (h : gon k o = some r) : ∃ t : Nat, o = (t : Int) ∧ k t = some r := by
  unfold gon at h
  split at h
  · exact ⟨_, rfl, h⟩
  · cases h
theorem i32_of {x : Int32} {v : Int} (h1 : -2147483648 ≤ v) (h2 : v ≤ 2147483647) : x = Int32.ofInt v ↔ x.toInt = v := by
  constructor
  · rintro rfl
    exact Int32.toInt_ofInt_of_le (by omega) (by omega)
  · intro h
    rw [← h, Int32.ofInt_toInt]
theorem swt_table {x : Int32} {kd : Oo} {kt : Int → Oo} {r : Option Value × Mm} : ∀ (l : List Int) (lo : Int), -2147483648 ≤ lo → lo + l.length ≤ 2147483648 → swt x kd kt (swl lo l) = some r → ((x.toInt < lo ∨ lo + l.length ≤ x.toInt) ∧ kd = some r) ∨ (lo ≤ x.toInt ∧ ∃ o, l[(x.toInt - lo).toNat]? = some o ∧ kt o = some r)
  | [], lo, h1, h2, h => Or.inl ⟨by simp; omega, h⟩
  | o :: l, lo, h1, h2, h => by
    simp only [List.length_cons] at h2 ⊢
    have h : (if x = Int32.ofInt lo then kt o else swt x kd kt (swl (lo + 1) l)) = some r := h
    by_cases hx : x = Int32.ofInt lo
    · rw [if_pos hx] at h
      have hx := (i32_of h1 (by omega)).mp hx
      refine Or.inr ⟨by omega, o, ?_, h⟩
      rw [hx]
      simp
    · rw [if_neg hx] at h
      have hx : ¬ x.toInt = lo := fun z => hx ((i32_of h1 (by omega)).mpr z)
      rcases swt_table l (lo + 1) (by omega) (by omega) h with ⟨h3, h4⟩ | ⟨h3, o', h4, h5⟩
      · exact Or.inl ⟨by omega, h4⟩
      · refine Or.inr ⟨by omega, o', ?_, h5⟩
        rw [show (x.toInt - lo).toNat = (x.toInt - (lo + 1)).toNat + 1 by omega]
        exact h4
theorem swt_look {x : Int32} {kd : Oo} {kt : Int → Oo} {d : Int} {r : Option Value × Mm} : ∀ l : List (Int × Int), (∀ q ∈ l, -2147483648 ≤ q.1 ∧ q.1 ≤ 2147483647) → swt x kd kt l = some r → (Op.lookupswitch.offset l d x.toInt = d ∧ kd = some r) ∨ kt (Op.lookupswitch.offset l d x.toInt) = some r
  | [], _, h => Or.inl ⟨rfl, h⟩
  | (v, o) :: l, hl, h => by
    have h : (if x = Int32.ofInt v then kt o else swt x kd kt l) = some r := h
    have hv := hl (v, o) List.mem_cons_self
    rw [Op.lookupswitch.offset_cons]
    by_cases hx : x = Int32.ofInt v
    · rw [if_pos hx] at h
      have hx := (i32_of hv.1 hv.2).mp hx
      rw [if_pos hx.symm]
      exact Or.inr h
    · rw [if_neg hx] at h
      have hx : ¬ v = x.toInt := fun z => hx ((i32_of hv.1 hv.2).mpr z.symm)
      rw [if_neg hx]
      exact swt_look l (fun q hq => hl q (List.mem_cons_of_mem _ hq)) h
theorem lk_mem : ∀ (tb : List (Nat × En)) (pc : Nat) (e : En), lkT tb pc = some e → (pc, e) ∈ tb
  | [], pc, e, h => by cases h
  | (q, x) :: tb, pc, e, h => by
    have h : (if Nat.beq q pc then some x else lkT tb pc) = some e := h
    by_cases hq : Nat.beq q pc = true
    · rw [if_pos hq] at h
      rw [Nat.beq_eq] at hq
      cases h
      subst hq
      exact List.mem_cons_self
    · rw [if_neg hq] at h
      exact List.mem_cons_of_mem _ (lk_mem tb pc e h)
section SNH
variable {p : Program} {l : Launch} {e : Env} {R : Room} {s : State} {m : MethodId} {args : Array Value} {below : List Frame} {meth : Method} {c : Code} {Q : State → Prop} {mi : Nat} {D : va_G} {cA : Nat → ClassId} {b : Nat} {X : Nat → Value} {L : Nat} {xs : Nat → Int32} {n0 nE : Nat}
theorem brn_snd (C0 : Cxt p s m args meth c mi D cA b X L xs n0) {i : Instr} {len a b' c' pc : Nat} {ls st : List Value} {M : Mm} {k : Nat → Ct} {r : Option Value × Mm} (hd : decode (cdN mi) pc = .ok (i, len)) (hlen : (swi i || Nat.beq len (ilen i)) = true) (hpf : pfE mi (i, len, a, b', c') = true)
    (h : brn i pc ls st M k = some r) (hk : ∀ t ls' st' M', k t ls' st' M' = some r → WW p l e R s m args below meth c Q mi D cA b X L xs n0 t ls' st' M') : WW p l e R s m args below meth c Q mi D cA b X L xs n0 pc ls st M := by
  obtain ⟨hx, hb, hml, hown, hts, hK, hE, hbs, hnm⟩ := id C0
  intro H locs lsr hS hl
  cases i
  case goto o =>
    have hlen : Nat.beq len 3 = true := hlen
    rw [Nat.beq_eq] at hlen
    subst hlen
    obtain ⟨t, e1, h⟩ := gon_inv h
    exact lv_goto hx hb hd e1 (hk _ _ _ _ h H locs lsr hS hl)
  case ifCond cd o =>
    have hlen : Nat.beq len 3 = true := hlen
    rw [Nat.beq_eq] at hlen
    subst hlen
    obtain ⟨tgt, e1, h1⟩ := gon_inv h
    obtain ⟨x, t, rfl, h2⟩ := p1i_inv h1
    have go1 : k tgt ls t M = some r → W p l e R s m args below meth c H locs (gN M - n0) (ssz (gN M) - ssz n0) Q (F0 m tgt lsr (t.map (vr b X))) := fun h => hk _ _ _ _ h H locs lsr hS hl
    have go2 : k (pc + 3) ls t M = some r → W p l e R s m args below meth c H locs (gN M - n0) (ssz (gN M) - ssz n0) Q (F0 m (pc + 3) lsr (t.map (vr b X))) := fun h => hk _ _ _ _ h H locs lsr hS hl
    unfold cz at h2
    cases cd <;> dsimp only at h2
    · exact lv_if_eq hx hb hd e1 (fun z => go1 (by rwa [if_pos z] at h2)) (fun z => go2 (by rwa [if_neg z] at h2))
    · exact lv_if_ne hx hb hd e1 (fun z => go1 (by rwa [if_neg z] at h2)) (fun z => go2 (by rwa [if_pos z] at h2))
    · exact lv_if_lt hx hb hd e1 (fun z => go1 (by rwa [if_pos z] at h2)) (fun z => go2 (by rwa [if_neg z] at h2))
    · exact lv_if_ge hx hb hd e1 (fun z => go1 (by rwa [if_pos z] at h2)) (fun z => go2 (by rwa [if_neg z] at h2))
    · exact lv_if_gt hx hb hd e1 (fun z => go1 (by rwa [if_pos z] at h2)) (fun z => go2 (by rwa [if_neg z] at h2))
    · exact lv_if_le hx hb hd e1 (fun z => go1 (by rwa [if_pos z] at h2)) (fun z => go2 (by rwa [if_neg z] at h2))
  case if_icmp cd o =>
    have hlen : Nat.beq len 3 = true := hlen
    rw [Nat.beq_eq] at hlen
    subst hlen
    obtain ⟨tgt, e1, h1⟩ := gon_inv h
    obtain ⟨x, y, t, rfl, h2⟩ := p2i_inv h1
    have go1 : k tgt ls t M = some r → W p l e R s m args below meth c H locs (gN M - n0) (ssz (gN M) - ssz n0) Q (F0 m tgt lsr (t.map (vr b X))) := fun h => hk _ _ _ _ h H locs lsr hS hl
    have go2 : k (pc + 3) ls t M = some r → W p l e R s m args below meth c H locs (gN M - n0) (ssz (gN M) - ssz n0) Q (F0 m (pc + 3) lsr (t.map (vr b X))) := fun h => hk _ _ _ _ h H locs lsr hS hl
    unfold cc2 at h2
    cases cd <;> dsimp only at h2
    · exact lv_icmp_eq hx hb hd e1 (fun z => go1 (by rwa [if_pos z] at h2)) (fun z => go2 (by rwa [if_neg z] at h2))
    · exact lv_icmp_ne hx hb hd e1 (fun z => go1 (by rwa [if_neg z] at h2)) (fun z => go2 (by rwa [if_pos z] at h2))
    · exact lv_icmp_lt hx hb hd e1 (fun z => go1 (by rwa [if_pos z] at h2)) (fun z => go2 (by rwa [if_neg z] at h2))
    · exact lv_icmp_ge hx hb hd e1 (fun z => go1 (by rwa [if_pos z] at h2)) (fun z => go2 (by rwa [if_neg z] at h2))
    · exact lv_icmp_gt hx hb hd e1 (fun z => go1 (by rwa [if_pos z] at h2)) (fun z => go2 (by rwa [if_neg z] at h2))
    · exact lv_icmp_le hx hb hd e1 (fun z => go1 (by rwa [if_pos z] at h2)) (fun z => go2 (by rwa [if_neg z] at h2))
  case tableswitch d lo hi os =>
    obtain ⟨x, t, rfl, h1⟩ := p1i_inv h
    simp only [pfE, Bool.and_eq_true, decide_eq_true_eq] at hpf
    obtain ⟨⟨⟨f1, f2⟩, f3⟩, f4⟩ := hpf
    have hlen2 : os.toList.length = os.size := rfl
    rcases swt_table os.toList lo f3 (by omega) h1 with ⟨h3, h4⟩ | ⟨h3, o, h4, h5⟩
    · obtain ⟨tgt, e1, h6⟩ := gon_inv h4
      exact lv_tableOut hx hb hd (by omega) e1 (hk _ _ _ _ h6 H locs lsr hS hl)
    · obtain ⟨tgt, e1, h6⟩ := gon_inv h5
      have hlt := (List.getElem?_eq_some_iff.mp h4).1
      exact lv_tableIn hx hb hd (by omega) (by omega) (by rw [← Array.getElem?_toList]; exact h4) e1 (hk _ _ _ _ h6 H locs lsr hS hl)
  case lookupswitch d ps =>
    obtain ⟨x, t, rfl, h1⟩ := p1i_inv h
    simp only [pfE, Bool.and_eq_true] at hpf
    obtain ⟨f1, f2⟩ := hpf
    have f2 : ∀ q ∈ ps.toList, -2147483648 ≤ q.1 ∧ q.1 ≤ 2147483647 := fun q hq => by
      have := List.all_eq_true.mp f2 q hq
      simp only [Bool.and_eq_true, decide_eq_true_eq] at this
      exact this
    rcases swt_look (d := d) ps.toList f2 h1 with ⟨h3, h4⟩ | h4
    · obtain ⟨tgt, e1, h6⟩ := gon_inv h4
      exact lv_lookup hx hb hd f1 h3 e1 (hk _ _ _ _ h6 H locs lsr hS hl)
    · obtain ⟨tgt, e1, h6⟩ := gon_inv h4
      exact lv_lookup hx hb hd f1 rfl e1 (hk _ _ _ _ h6 H locs lsr hS hl)
  all_goals (simp only [brn, reduceCtorEq] at h)
/-- a stretch -/
theorem ev_snd (C0 : Cxt p s m args meth c mi D cA b X L xs n0) (hmi : mi < 250) {d : Nat} {r : Option Value × Mm} (hR : RmOK R (d + 1) n0 (gN r.2)) {K : Kk} (hKm : ∀ a as M r, K a as M = some r → gN M ≤ gN r.2) (hKs : ∀ a as M1 r1, a < nMt → (padv as).length ≤ ML a → K a (pad (ML a) as) M1 = some r1 → MetO l D cA b X L xs d a as M1 r1 ∧ gN M1 ≤ gN r1.2)
    {G : Gg} (hGm : ∀ t ls st M, G t ls st M = some r → gN M ≤ gN r.2) (hG : ∀ t ls st M, G t ls st M = some r → WW p l e R s m args below meth c Q mi D cA b X L xs n0 t ls st M)
    (hret : ∀ (i : Instr) (pc : Nat) (st : List Value) (M : Mm) (H : Heap) (locs : List Loc) (lsr : Array Slot), decode (cdN mi) pc = .ok (i, 1) → rtn (RT mi) i st M = some r → Sx D cA b L xs n0 s M H locs → W p l e R s m args below meth c H locs (gN M - n0) (ssz (gN M) - ssz n0) Q (F0 m pc lsr (st.map (vr b X)))) :
    ∀ (f pc : Nat) (ls st : List Value) (M : Mm), ev K G (RT mi) (CU mi) (TB mi) f pc ls st M = some r → WW p l e R s m args below meth c Q mi D cA b X L xs n0 pc ls st M := by
  intro f
  induction f with
  | zero => intro pc ls st M h; cases h
  | succ f ih =>
    intro pc ls st M h
    have nx : ∀ t ls st M, (bif mem (CU mi) t then G t ls st M else ev K G (RT mi) (CU mi) (TB mi) f t ls st M) = some r → WW p l e R s m args below meth c Q mi D cA b X L xs n0 t ls st M := by
      intro t ls st M h
      cases hc : mem (CU mi) t
      · rw [hc] at h; exact ih _ _ _ _ h
      · rw [hc] at h; exact hG _ _ _ _ h
    have nm : ∀ t ls st M, (bif mem (CU mi) t then G t ls st M else ev K G (RT mi) (CU mi) (TB mi) f t ls st M) = some r → gN M ≤ gN r.2 := by
      intro t ls st M h
      cases hc : mem (CU mi) t
      · rw [hc] at h; exact ev_mono K hKm G r hGm (RT mi) (CU mi) (TB mi) f t ls st M h
      · rw [hc] at h; exact hGm _ _ _ _ h
    unfold ev at h
    split at h
    · cases h
    · rename_i i len a b' c' hlk
      have hmem : (pc, i, len, a, b', c') ∈ TB mi := lk_mem _ _ _ hlk
      obtain ⟨k1, k2, k3⟩ := mc_ok mi hmi
      have hd := k1 (pc, i, len, a, b', c') hmem
      dsimp only at hd
      obtain ⟨hpf, hln⟩ := k2 (pc, i, len, a, b', c') hmem
      dsimp only at hpf hln
      have hw : ∀ w ∈ lnkE (owN mi) (i, len, a, b', c'), w ∈ lw_tbl := fun w hw => k3 w (List.mem_flatMap.mpr ⟨_, hmem, hw⟩)
      have hlen : ∀ g, grp i = g → g < 5 → len = ilen i := by
        intro g hg h5
        have hsw : swi i = false := by cases i <;> first | rfl | (simp [grp] at hg; omega)
        simp only [hsw, Bool.false_or, Nat.beq_eq] at hln
        exact hln
      split at h
      · rename_i hg; exact sA_snd C0 hd (hlen _ hg (by omega)) hw hpf h (fun ls' st' M' => nx _ ls' st' M')
      · rename_i hg; exact sB_snd C0 hd (hlen _ hg (by omega)) h (fun ls' st' M' => nx _ ls' st' M')
      · rename_i hg; exact sC_snd C0 hR hd (hlen _ hg (by omega)) hw hpf h (fun ls' st' M' => nm _ ls' st' M') (fun ls' st' M' => nx _ ls' st' M')
      · rename_i hg; exact cll_snd C0 hR hKs hd (hlen _ hg (by omega)) hw hpf h (fun ls' st' M' => nm _ ls' st' M') (fun ls' st' M' => nx _ ls' st' M')
      · rename_i hg
        have h1 : len = 1 := by
          rw [hlen _ hg (by omega)]
          cases i <;> first | rfl | (simp [grp] at hg)
        subst h1
        intro H locs lsr hS hl
        exact hret i pc st M H locs lsr hd h hS
      · exact brn_snd C0 hd hln hpf h (fun t ls' st' M' => nx t ls' st' M')
end SNH
