/-! ===== cells ===== -/
theorem okO_inv {M : Mm} {r ci : Nat} (h : okO M r ci = true) : ∃ j, r = j + 1 ∧ j < gN M ∧ j + 1 < 1000 ∧ (SH (j + 1)).1 = ci := by
  simp only [okO, Bool.and_eq_true, Nat.ble_eq, Nat.blt_eq, Nat.beq_eq] at h
  obtain ⟨⟨⟨h1, h2⟩, h3⟩, h4⟩ := h
  obtain ⟨j, rfl⟩ : ∃ j, r = j + 1 := ⟨r - 1, by omega⟩
  exact ⟨j, rfl, by omega, h3, h4⟩
theorem okS_inv {r : Nat} (h : okS r = true) : ∃ i, r = 1000 + i ∧ i < nStr := by
  simp only [okS, Bool.and_eq_true, Nat.ble_eq, Nat.blt_eq] at h
  exact ⟨r - 1000, by omega, by omega⟩
theorem okA_inv {M : Mm} {r t : Nat} (h : okA M r t = true) : 1 ≤ r ∧ (r ≤ gN M ∨ 1000 ≤ r) ∧ (SH r).1 = 100 + t := by
  simp only [okA, Bool.and_eq_true, Bool.or_eq_true, Nat.ble_eq, Nat.beq_eq] at h
  exact ⟨h.1.1, h.1.2, h.2⟩
theorem inB_inv {i : Int32} {n : Nat} (h : inB i n = true) : vp_in i n := by
  simp only [inB, Bool.and_eq_true, decide_eq_true_eq] at h
  exact vp_in_iff.mpr h
theorem rOK_inv {M : Mm} {r t : Nat} {i : Int32} (h : rOK M r t i = true) : 1 ≤ r ∧ (r ≤ gN M ∨ 1000 ≤ r) ∧ (SH r).1 = 100 + t ∧ vp_in i (aLen M r) := by
  simp only [rOK, Bool.and_eq_true] at h
  obtain ⟨h1, h2, h3⟩ := okA_inv h.1
  exact ⟨h1, h2, h3, inB_inv h.2⟩
theorem wOK_inv {M : Mm} {r t : Nat} {i : Int32} (h : wOK M r t i = true) (hN : gN M < 1000) : ∃ j, r = j + 1 ∧ j < gN M ∧ j + 1 < 1000 ∧ (SH (j + 1)).1 = 100 + t ∧ vp_in i (SH (j + 1)).2 := by
  simp only [wOK, Bool.and_eq_true, Nat.blt_eq] at h
  obtain ⟨h1, h2, h3⟩ := okA_inv h.1.1
  obtain ⟨j, rfl⟩ : ∃ j, r = j + 1 := ⟨r - 1, by omega⟩
  refine ⟨j, rfl, by omega, h.1.2, h3, ?_⟩
  have := inB_inv h.2
  rwa [aLen, if_neg (by omega)] at this
theorem SH_ext {r t : Nat} (h : 1000 ≤ r) (ht : t < 7) (hs : (SH r).1 = 100 + t) : (t = 1 ∧ ∃ i, r = 2000 + i ∧ i < nStr ∧ (SH r).2 = stL i) ∨ (t = 3 ∧ r = 3000 ∧ (SH r).2 = 6) ∨ (t = 0 ∧ r = 4000) := by
  have bl : ∀ a c : Nat, Nat.blt a c = true → a < c := fun a c hb => by rwa [Nat.blt_eq] at hb
  have nb : ∀ a c : Nat, Nat.blt a c = false → c ≤ a := fun a c hb => by
    rcases Nat.lt_or_ge a c with q | q
    · rw [← Nat.blt_eq, hb] at q; cases q
    · exact q
  have ne : ∀ a c : Nat, Nat.beq a c = true → a = c := fun a c hb => by rwa [Nat.beq_eq] at hb
  unfold SH at hs ⊢
  cases c1 : Nat.blt r 1000
  · rw [c1] at hs
    simp only [cond_false] at hs ⊢
    cases c2 : Nat.blt r 2000
    · rw [c2] at hs
      simp only [cond_false] at hs ⊢
      have := nb _ _ c2
      cases c3 : Nat.blt r (2000 + nStr)
      · rw [c3] at hs
        simp only [cond_false] at hs ⊢
        cases c4 : Nat.beq r 3000
        · rw [c4] at hs
          simp only [cond_false] at hs ⊢
          cases c5 : Nat.beq r 4000
          · rw [c5] at hs
            simp only [cond_false] at hs
            omega
          · rw [c5] at hs
            simp only [cond_true] at hs
            exact Or.inr (Or.inr ⟨by omega, ne _ _ c5⟩)
        · rw [c4] at hs
          simp only [cond_true] at hs ⊢
          exact Or.inr (Or.inl ⟨by omega, ne _ _ c4, trivial⟩)
      · rw [c3] at hs
        simp only [cond_true] at hs ⊢
        have := bl _ _ c3
        exact Or.inl ⟨by omega, r - 2000, by omega, by omega, rfl⟩
    · rw [c2] at hs
      simp only [cond_true] at hs
      omega
  · have := bl _ _ c1
    omega
theorem NF_lt {a k : Nat} (h : k < NF a) : a < 13 := by
  rcases Nat.lt_or_ge a 13 with q | q
  · exact q
  · exfalso
    have : NF a = 0 := by
      unfold NF
      rw [List.getD_eq_getElem?_getD, List.getElem?_eq_none (by simpa using q)]
      rfl
    omega
theorem u_good {C : String} {T : u_T} {N : Nat} (h : ∀ w ∈ u_ws C T N, w ∈ lw_tbl) : ∀ w ∈ u_ws C T N, w ∈ GT := by
  intro w hw
  refine inG (h w hw) ?_
  unfold u_ws at hw
  obtain ⟨k, -, rfl⟩ := List.mem_map.mp hw
  unfold u_lay
  split <;> rfl
theorem fit_ref {ty : FieldType} (h : refKind ty = true) (o : Option Nat) : narrow ty (va_rf o) = va_rf o ∧ fits ty (va_rf o) = true := by
  cases ty <;> cases o <;> first | exact ⟨rfl, rfl⟩ | (simp [refKind] at h)
section SNC
variable {p : Program} {l : Launch} {e : Env} {R : Room} {s : State} {m : MethodId} {args : Array Value} {below : List Frame} {meth : Method} {c : Code} {Q : State → Prop} {mi : Nat} {D : va_G} {cA : Nat → ClassId} {b : Nat} {X : Nat → Value} {L : Nat} {xs : Nat → Int32} {n0 : Nat}
theorem W.sized {H : Heap} {locs : List Loc} {cells slots : Nat} {g : JFrame} (h : H.size ≤ s.heap.size + cells → W p l e R s m args below meth c H locs cells slots Q g) : W p l e R s m args below meth c H locs cells slots Q g :=
  fun T hT X => h (by rw [← hT]; exact X.heapSize) T hT X
theorem Sx.size {M : Mm} {H : Heap} {locs : List Loc} (hS : Sx D cA b L xs n0 s M H locs) (h0 : s.heap.size = b + n0) (h1 : H.size ≤ s.heap.size + (gN M - n0)) : H.size = b + gN M := by
  obtain ⟨hn, -, hP, hS⟩ := hS
  have hz := hS.1
  rcases Nat.lt_or_ge n0 (gN M) with q | q
  · have := (hP (gN M - 1) _ (wsM_get b cA M (by omega))).lt
    simp only at this
    omega
  · omega
theorem getfield_snd (C0 : Cxt p s m args meth c mi D cA b X L xs n0) {x len a b' c' pc : Nat} {ls st : List Value} {M : Mm} {k : Ct} {r : Option Value × Mm} (hd : decode (cdN mi) pc = .ok (.getfield x, 3)) (hw : ∀ w ∈ lnkE (owN mi) (.getfield x, len, a, b', c'), w ∈ lw_tbl)
    (h : sC (.getfield x) a b' ls st M k = some r) (hk : ∀ ls' st' M', k ls' st' M' = some r → WW p l e R s m args below meth c Q mi D cA b X L xs n0 (pc + 3) ls' st' M') : WW p l e R s m args below meth c Q mi D cA b X L xs n0 pc ls st M := by
  obtain ⟨hx, hb, hml, hown, hts, hK, hE, hbs, hnm⟩ := id C0
  intro H locs lsr hS hl
  obtain ⟨hn, hM, hP, hSS⟩ := id hS
  obtain ⟨q, t, rfl, h2⟩ := p1r_inv h
  cases hc50 : Nat.beq a 50 with
  | true =>
    rw [hc50] at h2
    simp only [cond_true] at h2
    obtain ⟨hq, h2⟩ := ite_inv h2
    obtain ⟨i, rfl, hi⟩ := okS_inv hq
    obtain ⟨⟨adK, adV, k1, k2, k3⟩, -⟩ := id hE
    have e1 : vr b X (.ref (1000 + i)) = .ref (adK i) := by
      show vrf b X (1000 + i) = _
      rw [vrf_hi (by omega)]
      exact (k1 i hi).1
    have e2 : vr b X (.ref (1000 + i + 1000)) = .ref (adV i) := by
      show vrf b X (1000 + i + 1000) = _
      rw [vrf_hi (by omega), show 1000 + i + 1000 = 2000 + i by omega]
      exact (k1 i hi).2
    have hw2 := hw
    simp only [lnkE, hc50, cond_true] at hw2
    rw [List.map_cons, e1]
    cases hb0 : Nat.beq b' 0 with
    | true =>
      rw [hb0] at h2 hw2
      simp only [cond_true] at h2 hw2
      exact vk_getf hx hb (k2.1 i hi).2.1 hSS hown (hts _ (inG (hw2 _ List.mem_cons_self) rfl)) (fun _ z => z) hd (hk _ _ _ h2 H locs lsr hS hl)
    | false =>
      rw [hb0] at h2 hw2
      simp only [cond_false] at h2 hw2
      have hg := hk _ _ _ h2 H locs lsr hS hl
      rw [List.map_cons, e2] at hg
      exact vk_getf hx hb (k2.1 i hi).2.2.1 hSS hown (hts _ (inG (hw2 _ List.mem_cons_self) rfl)) (fun _ z => z) hd hg
  | false =>
    rw [hc50] at h2
    simp only [cond_false] at h2
    obtain ⟨hbN, h2⟩ := cond_inv h2
    rw [Nat.blt_eq] at hbN
    have ha : a < 13 := NF_lt hbN
    obtain ⟨hq, h2⟩ := ite_inv h2
    obtain ⟨j, rfl, hj, hj2, hsh⟩ := okO_inv hq
    obtain ⟨o1, o2, o3, o4, o5, o6⟩ := cl_ok a ha
    have hw2 := hw
    simp only [lnkE, hc50, cond_false] at hw2
    have he : (wsM b cA M)[j]? = some (b + j, .inr (a, (List.range (NF a)).map (fvl b M (j + 1) a))) := by rw [wsM_get b cA M hj, ent_obj hsh ha]
    have e1 : vr b X (.ref (j + 1)) = .ref (b + j) := vrf_id hj2
    rw [List.map_cons, e1]
    refine va_get (ref := clC a) hx hb hts (u_good o2) hown hK hP j he o1 b' hbN (hts _ (inG (hw2 _ List.mem_cons_self) rfl)) (by rw [o5 b' hbN]; exact fun _ z => z) (v := fvl b M (j + 1) a b') (by simp [hbN]) hd ?_
    cases hf : Nat.beq (FT a b') 2 with
    | true =>
      rw [hf] at h2
      simp only [cond_true] at h2
      have hg := hk _ _ _ h2 H locs lsr hS hl
      rw [List.map_cons] at hg
      have e3 : vr b X (.ref (gR M (j + 1) b')) = fvl b M (j + 1) a b' := by
        show vrf b X _ = _
        rw [vrf_lo (hM.2.2.1 _ _ hj2)]
        simp [fvl, hf]
      rw [e3] at hg
      exact hg
    | false =>
      rw [hf] at h2
      simp only [cond_false] at h2
      have hg := hk _ _ _ h2 H locs lsr hS hl
      have e3 : fvl b M (j + 1) a b' = .int (gI M (j + 1) b') := by simp [fvl, hf]
      rw [e3]
      exact hg
theorem put_snd (C0 : Cxt p s m args meth c mi D cA b X L xs n0) {x len a b' c' pc : Nat} {t ls : List Value} {M M' : Mm} {j : Nat} (hd : decode (cdN mi) pc = .ok (.putfield x, 3)) (hw : ∀ w ∈ lnkE (owN mi) (.putfield x, len, a, b', c'), w ∈ lw_tbl) (hpf : pfE mi (.putfield x, len, a, b', c') = true) (ha : a < 13) (hbN : b' < NF a) (hj : j < gN M) (hj2 : j + 1 < 1000) (hsh : (SH (j + 1)).1 = a)
    {v : Value} (hnar : narrow (clY a b') v = v) (hfit : fits (clY a b') v = true) (hN : gN M' = gN M) (hM' : StM L xs M') (hothers : ∀ r, r ≠ j + 1 → entA b cA M' r = entA b cA M r) (hset : ((List.range (NF a)).map (fvl b M (j + 1) a)).set b' v = (List.range (NF a)).map (fvl b M' (j + 1) a))
    (hk : WW p l e R s m args below meth c Q mi D cA b X L xs n0 (pc + 3) ls t M') {H : Heap} {locs : List Loc} {lsr : Array Slot} (hS : Sx D cA b L xs n0 s M H locs) (hl : LR b X lsr (ML mi) ls) :
    W p l e R s m args below meth c H locs (gN M - n0) (ssz (gN M) - ssz n0) Q (F0 m pc lsr (v :: vr b X (.ref (j + 1)) :: t.map (vr b X))) := by
  obtain ⟨hx, hb, hml, hown, hts, hK, hE, hbs, hnm⟩ := id C0
  obtain ⟨hn, hM, hP, hSS⟩ := id hS
  obtain ⟨o1, o2, o3, o4, o5, o6⟩ := cl_ok a ha
  have he : (wsM b cA M)[j]? = some (b + j, .inr (a, (List.range (NF a)).map (fvl b M (j + 1) a))) := by rw [wsM_get b cA M hj, ent_obj hsh ha]
  have e1 : vr b X (.ref (j + 1)) = .ref (b + j) := vrf_id hj2
  have hw2 : ∀ w ∈ [Cond.fieldLink (owN mi) x (clC a) (clT a b').2.1 (clT a b').2.2.1], w ∈ lw_tbl := hw
  have hu : (wsM b cA M).set j (b + j, .inr (a, ((List.range (NF a)).map (fvl b M (j + 1) a)).set b' v)) = wsM b cA M' := wsM_upd hN hj hothers (by rw [ent_obj hsh ha, hset])
  have go_on : ∀ (H1 : Heap) (locs1 : List Loc), va_P D vwCl ((wsM b cA M).set j (b + j, .inr (a, ((List.range (NF a)).map (fvl b M (j + 1) a)).set b' v))) H1 → va_D (aB b) ((wsM b cA M).set j (b + j, .inr (a, ((List.range (NF a)).map (fvl b M (j + 1) a)).set b' v))) → va_S (aB b) s.heap H1 locs1 → W p l e R s m args below meth c H1 locs1 (gN M - n0) (ssz (gN M) - ssz n0) Q (F0 m (pc + 3) lsr (t.map (vr b X))) := by
    intro H1 locs1 p1 _ s1
    rw [hu] at p1
    have hg := hk H1 locs1 lsr ⟨by omega, hM', p1, s1⟩ hl
    rw [hN] at hg
    exact hg
  rw [e1]
  cases hfin : (clT a b').2.2.2 with
  | false => exact va_put (ref := clC a) hx hb hts (u_good o2) (clY a) o3 o4 hown hK hP (wsM_D b cA M) hSS j he o1 b' hbN (hts _ (inG (hw2 _ List.mem_cons_self) rfl)) (by rw [o5 b' hbN]; exact fun _ z => z) hfin (o3 b' hbN) hnar hfit (by simp [hbN]) hd go_on
  | true =>
    simp only [pfE, hfin, Bool.not_true, Bool.false_or, Bool.and_eq_true, decide_eq_true_eq] at hpf
    exact va_putF (ref := clC a) hx hb hts (u_good o2) (clY a) o3 o4 hown hK hP (wsM_D b cA M) hSS j he o1 b' hbN (hts _ (inG (hw2 _ List.mem_cons_self) rfl)) (by rw [o5 b' hbN]; exact fun _ z => z) hfin (hnm hpf.1) ((o5 b' hbN).trans hpf.2) (o3 b' hbN) hnar hfit (by simp [hbN]) hd go_on
theorem putfield_snd (C0 : Cxt p s m args meth c mi D cA b X L xs n0) {x len a b' c' pc : Nat} {ls st : List Value} {M : Mm} {k : Ct} {r : Option Value × Mm} (hd : decode (cdN mi) pc = .ok (.putfield x, 3)) (hw : ∀ w ∈ lnkE (owN mi) (.putfield x, len, a, b', c'), w ∈ lw_tbl) (hpf : pfE mi (.putfield x, len, a, b', c') = true)
    (h : sC (.putfield x) a b' ls st M k = some r) (hk : ∀ ls' st' M', k ls' st' M' = some r → WW p l e R s m args below meth c Q mi D cA b X L xs n0 (pc + 3) ls' st' M') : WW p l e R s m args below meth c Q mi D cA b X L xs n0 pc ls st M := by
  intro H locs lsr hS hl
  obtain ⟨hn, hM, hP, hSS⟩ := id hS
  simp only [sC] at h
  split at h
  · rename_i v q t
    obtain ⟨hbN, h2⟩ := cond_inv h
    rw [Nat.blt_eq] at hbN
    have ha : a < 13 := NF_lt hbN
    obtain ⟨hq, h2⟩ := ite_inv h2
    obtain ⟨j, rfl, hj, hj2, hsh⟩ := okO_inv hq
    obtain ⟨o1, o2, o3, o4, o5, o6⟩ := cl_ok a ha
    obtain ⟨f0, f1, f2, f3⟩ := o6 b' hbN
    have key : FT a b' ≠ 2 → narrow (clY a b') (.int v) = .int v → fits (clY a b') (.int v) = true → k ls t (sI M (j + 1) b' v) = some r → W p l e R s m args below meth c H locs (gN M - n0) (ssz (gN M) - ssz n0) Q (F0 m pc lsr (List.map (vr b X) (.int v :: .ref (j + 1) :: t))) := by
      intro hf hnar hfit h3
      exact put_snd (M' := sI M (j + 1) b' v) C0 hd hw hpf ha hbN hj hj2 hsh hnar hfit rfl (hM.sI (by omega)) (fun r hr => ent_eq (gI_sIn hr) rfl rfl) (fvl_setI hf _) (hk _ _ _ h3) hS hl
    split at h2
    · rename_i hf
      exact key (by omega) (by rw [f0 hf]; rfl) (by rw [f0 hf]; rfl) h2
    · rename_i hf
      obtain ⟨h3, h2⟩ := ite_inv h2
      simp only [Bool.or_eq_true, beq_iff_eq] at h3
      refine key (by omega) ?_ ?_ h2
      · rw [f1 hf]; rcases h3 with rfl | rfl <;> rfl
      · rw [f1 hf]; rcases h3 with rfl | rfl <;> rfl
    · cases h2
  · rename_i v q t
    obtain ⟨hbN, h2⟩ := cond_inv h
    rw [Nat.blt_eq] at hbN
    have ha : a < 13 := NF_lt hbN
    obtain ⟨hq, h2⟩ := ite_inv h2
    obtain ⟨j, rfl, hj, hj2, hsh⟩ := okO_inv hq
    obtain ⟨o1, o2, o3, o4, o5, o6⟩ := cl_ok a ha
    obtain ⟨f0, f1, f2, f3⟩ := o6 b' hbN
    split at h2
    · rename_i hf
      obtain ⟨h3, h2⟩ := ite_inv h2
      rw [Nat.blt_eq] at h3
      have ev : vr b X (.ref v) = va_rf (adr b v) := vrf_lo h3
      have hfr := fit_ref (f2 hf) (adr b v)
      rw [List.map_cons, ev]
      exact put_snd (M' := sR M (j + 1) b' v) C0 hd hw hpf ha hbN hj hj2 hsh hfr.1 hfr.2 rfl (hM.sR (by omega) h3) (fun r hr => ent_eq rfl rfl (gR_sRn hr)) (fvl_setR hf _) (hk _ _ _ h2) hS hl
    · cases h2
  · cases h
end SNC
