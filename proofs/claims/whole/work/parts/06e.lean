/-! ===== rows, and what is made ===== -/
section SNA
variable {p : Program} {l : Launch} {e : Env} {R : Room} {s : State} {m : MethodId} {args : Array Value} {below : List Frame} {meth : Method} {c : Code} {Q : State → Prop} {mi : Nat} {D : va_G} {cA : Nat → ClassId} {b : Nat} {X : Nat → Value} {L : Nat} {xs : Nat → Int32} {n0 : Nat}
theorem in_clamp {i : Int32} {n : Nat} (h : vp_in i n) : i.toNatClampNeg < n := Nat.not_le.mp fun q => h (Or.inr q)
/-- a read of ints -/
theorem iaload_snd (C0 : Cxt p s m args meth c mi D cA b X L xs n0) {pc : Nat} {ls t : List Value} {M : Mm} {q : Nat} {i : Int32} (hd : decode (cdN mi) pc = .ok (.iaload, 1)) (hq : rOK M q 0 i = true)
    (hk : WW p l e R s m args below meth c Q mi D cA b X L xs n0 (pc + 1) ls (.int (gI M q i.toNatClampNeg) :: t) M) : WW p l e R s m args below meth c Q mi D cA b X L xs n0 pc ls (.int i :: .ref q :: t) M := by
  obtain ⟨hx, hb, hml, hown, hts, hK, hE, hbs, hnm⟩ := id C0
  intro H locs lsr hS hl
  obtain ⟨hn, hM, hP, hSS⟩ := id hS
  have hg := hk H locs lsr hS hl
  obtain ⟨g1, g2, g3, g4⟩ := rOK_inv hq
  have hN := hM.1
  rcases Nat.lt_or_ge q 1000 with hlo | hhi
  · obtain ⟨j, rfl⟩ : ∃ j, q = j + 1 := ⟨q - 1, by omega⟩
    rw [aLen, if_neg (by omega)] at g4
    have he : (wsM b cA M)[j]? = some (b + j, .inl (cA 0, (SH (j + 1)).2, .inl (gI M (j + 1)))) := by rw [wsM_get b cA M (by omega), ent_int g3 (by omega)]
    have e1 : vr b X (.ref (j + 1)) = .ref (b + j) := vrf_id hlo
    rw [List.map_cons, List.map_cons, e1]
    exact va_iald hx hb hK hP j 0 he (tysL_get cA 0 (by omega)) g4 hd hg
  · rcases SH_ext hhi (by omega) g3 with ⟨z, -⟩ | ⟨z, -⟩ | ⟨-, rfl⟩
    · omega
    · omega
    · obtain ⟨-, -, -, -, ⟨tt, x1, x2, x3, x4⟩, -⟩ := id hE
      rw [aLen, if_pos rfl, hM.2.2.2.2.2.2] at g4
      have e1 : vr b X (.ref 4000) = .ref tt := by
        show vrf b X 4000 = _
        rw [vrf_hi (by omega)]
        exact x1
      have e2 : gI M 4000 i.toNatClampNeg = xs i.toNatClampNeg := hM.2.2.2.2.2.1 _ (in_clamp g4)
      rw [e2] at hg
      rw [List.map_cons, List.map_cons, e1]
      exact va_sld hx hb x2 x3 x4 hSS g4 hd hg
theorem baload_snd (C0 : Cxt p s m args meth c mi D cA b X L xs n0) {pc : Nat} {ls t : List Value} {M : Mm} {q : Nat} {i : Int32} (hd : decode (cdN mi) pc = .ok (.baload, 1)) (hq : rB M q i = true)
    (hk : WW p l e R s m args below meth c Q mi D cA b X L xs n0 (pc + 1) ls (.int (gI M q i.toNatClampNeg) :: t) M) : WW p l e R s m args below meth c Q mi D cA b X L xs n0 pc ls (.int i :: .ref q :: t) M := by
  obtain ⟨hx, hb, hml, hown, hts, hK, hE, hbs, hnm⟩ := id C0
  intro H locs lsr hS hl
  obtain ⟨hn, hM, hP, hSS⟩ := id hS
  have hg := hk H locs lsr hS hl
  have hN := hM.1
  simp only [rB, Bool.or_eq_true] at hq
  rcases hq with hq | hq
  · obtain ⟨g1, g2, g3, g4⟩ := rOK_inv hq
    rcases Nat.lt_or_ge q 1000 with hlo | hhi
    · obtain ⟨j, rfl⟩ : ∃ j, q = j + 1 := ⟨q - 1, by omega⟩
      rw [aLen, if_neg (by omega)] at g4
      have he : (wsM b cA M)[j]? = some (b + j, .inl (cA 1, (SH (j + 1)).2, .inl (gI M (j + 1)))) := by rw [wsM_get b cA M (by omega), ent_int g3 (by omega)]
      have e1 : vr b X (.ref (j + 1)) = .ref (b + j) := vrf_id hlo
      rw [List.map_cons, List.map_cons, e1]
      exact va_bald hx hb hK hP j 1 he (tysL_get cA 1 (by omega)) g4 hd hg
    · rcases SH_ext hhi (by omega) g3 with ⟨-, z, rfl, hz, hz2⟩ | ⟨z, -⟩ | ⟨z, -⟩
      · obtain ⟨⟨adK, adV, k1, k2, k3⟩, -⟩ := id hE
        have hz18 : z < 18 := hz
        rw [aLen, if_neg (by omega), hz2] at g4
        have e1 : vr b X (.ref (2000 + z)) = .ref (adV z) := by
          show vrf b X (2000 + z) = _
          rw [vrf_hi (by omega)]
          exact (k1 z hz).2
        have e2 : gI M (2000 + z) i.toNatClampNeg = stB z i.toNatClampNeg := hM.2.2.2.1 _ _ hz (in_clamp g4)
        rw [e2] at hg
        rw [List.map_cons, List.map_cons, e1]
        exact va_tb hx hb (k2.1 z hz).2.2.2 hSS g4 rfl hd hg
      · omega
      · omega
  · obtain ⟨g1, g2, g3, g4⟩ := rOK_inv hq
    rcases Nat.lt_or_ge q 1000 with hlo | hhi
    · obtain ⟨j, rfl⟩ : ∃ j, q = j + 1 := ⟨q - 1, by omega⟩
      rw [aLen, if_neg (by omega)] at g4
      have he : (wsM b cA M)[j]? = some (b + j, .inl (cA 2, (SH (j + 1)).2, .inl (gI M (j + 1)))) := by rw [wsM_get b cA M (by omega), ent_int g3 (by omega)]
      have e1 : vr b X (.ref (j + 1)) = .ref (b + j) := vrf_id hlo
      rw [List.map_cons, List.map_cons, e1]
      exact va_zald hx hb hK hP j 2 he (tysL_get cA 2 (by omega)) g4 hd hg
    · rcases SH_ext hhi (by omega) g3 with ⟨z, -⟩ | ⟨z, -⟩ | ⟨z, -⟩ <;> omega
theorem laload_snd (C0 : Cxt p s m args meth c mi D cA b X L xs n0) {pc : Nat} {ls t : List Value} {M : Mm} {q : Nat} {i : Int32} (hd : decode (cdN mi) pc = .ok (.laload, 1)) (hq : rOK M q 3 i = true)
    (hk : WW p l e R s m args below meth c Q mi D cA b X L xs n0 (pc + 1) ls (.long (gL M q i.toNatClampNeg) :: t) M) : WW p l e R s m args below meth c Q mi D cA b X L xs n0 pc ls (.int i :: .ref q :: t) M := by
  obtain ⟨hx, hb, hml, hown, hts, hK, hE, hbs, hnm⟩ := id C0
  intro H locs lsr hS hl
  obtain ⟨hn, hM, hP, hSS⟩ := id hS
  have hg := hk H locs lsr hS hl
  obtain ⟨g1, g2, g3, g4⟩ := rOK_inv hq
  have hN := hM.1
  rcases Nat.lt_or_ge q 1000 with hlo | hhi
  · obtain ⟨j, rfl⟩ : ∃ j, q = j + 1 := ⟨q - 1, by omega⟩
    rw [aLen, if_neg (by omega)] at g4
    have he : (wsM b cA M)[j]? = some (b + j, .inl (cA 3, (SH (j + 1)).2, .inr (.inl (gL M (j + 1))))) := by rw [wsM_get b cA M (by omega), ent_long g3]
    have e1 : vr b X (.ref (j + 1)) = .ref (b + j) := vrf_id hlo
    rw [List.map_cons, List.map_cons, e1]
    exact va_lald hx hb hK hP j 3 he (tysL_get cA 3 (by omega)) g4 hd hg
  · rcases SH_ext hhi (by omega) g3 with ⟨z, -⟩ | ⟨-, rfl, hz2⟩ | ⟨z, -⟩
    · omega
    · obtain ⟨-, ⟨tt, z1, z2, z3⟩, -⟩ := id hE
      rw [aLen, if_neg (by omega), hz2] at g4
      have e1 : vr b X (.ref 3000) = .ref tt := by
        show vrf b X 3000 = _
        rw [vrf_hi (by omega)]
        exact z1
      have e2 : gL M 3000 i.toNatClampNeg = wlm i.toNatClampNeg := hM.2.2.2.2.1 _ (in_clamp g4)
      rw [e2] at hg
      rw [List.map_cons, List.map_cons, e1]
      exact va_tl hx hb z3 hSS g4 rfl hd hg
    · omega
theorem aTy_obj : ∀ t : Nat, 4 ≤ t → t < 7 → aTy t = .object (clC (elC t)) ∧ elC t < 13
  | 0, h, _ => absurd h (by omega)
  | 1, h, _ => absurd h (by omega)
  | 2, h, _ => absurd h (by omega)
  | 3, h, _ => absurd h (by omega)
  | 4, _, _ => ⟨rfl, by decide⟩
  | 5, _, _ => ⟨rfl, by decide⟩
  | 6, _, _ => ⟨rfl, by decide⟩
  | n + 7, _, h => absurd h (by omega)
theorem aaload_snd (C0 : Cxt p s m args meth c mi D cA b X L xs n0) {pc : Nat} {ls tl : List Value} {M : Mm} {q : Nat} {i : Int32} (hd : decode (cdN mi) pc = .ok (.aaload, 1)) (hq : rQ M q i = true)
    (hk : WW p l e R s m args below meth c Q mi D cA b X L xs n0 (pc + 1) ls (.ref (gR M q i.toNatClampNeg) :: tl) M) : WW p l e R s m args below meth c Q mi D cA b X L xs n0 pc ls (.int i :: .ref q :: tl) M := by
  obtain ⟨hx, hb, hml, hown, hts, hK, hE, hbs, hnm⟩ := id C0
  intro H locs lsr hS hl
  obtain ⟨hn, hM, hP, hSS⟩ := id hS
  have hg := hk H locs lsr hS hl
  have key : ∀ t, 4 ≤ t → t < 7 → wOK M q t i = true → W p l e R s m args below meth c H locs (gN M - n0) (ssz (gN M) - ssz n0) Q (F0 m pc lsr (List.map (vr b X) (.int i :: .ref q :: tl))) := by
    intro t h4 h7 hq
    obtain ⟨j, rfl, hj, hj2, hsh, hin⟩ := wOK_inv hq hM.1
    have he : (wsM b cA M)[j]? = some (b + j, .inl (cA t, (SH (j + 1)).2, .inr (.inr (.inr (.inr (fun k => adr b (gR M (j + 1) k))))))) := by rw [wsM_get b cA M hj, ent_ref hsh h4]
    have e1 : vr b X (.ref (j + 1)) = .ref (b + j) := vrf_id hj2
    have e2 : vr b X (.ref (gR M (j + 1) i.toNatClampNeg)) = va_rf (adr b (gR M (j + 1) i.toNatClampNeg)) := vrf_lo (hM.2.2.1 _ _ hj2)
    rw [List.map_cons, e2] at hg
    rw [List.map_cons, List.map_cons, e1]
    exact va_aldq (C := clC (elC t)) hx hb hK hP j t he (by rw [tysL_get cA t h7, (aTy_obj t h4 h7).1]) hin hd hg
  simp only [rQ, Bool.or_eq_true] at hq
  rcases hq with (hq | hq) | hq
  · exact key 4 (by omega) (by omega) hq
  · exact key 5 (by omega) (by omega) hq
  · exact key 6 (by omega) (by omega) hq
/-- a write: the rest of it -/
theorem wr_snd {pc len : Nat} {ls t : List Value} {M M' : Mm} {j : Nat} {x : va_E} (hn : n0 ≤ gN M) (hj : j < gN M) (hN : gN M' = gN M) (hM' : StM L xs M') (hothers : ∀ r, r ≠ j + 1 → entA b cA M' r = entA b cA M r) (hent : entA b cA M' (j + 1) = x)
    (hk : WW p l e R s m args below meth c Q mi D cA b X L xs n0 (pc + len) ls t M') {lsr : Array Slot} (hl : LR b X lsr (ML mi) ls) (H1 : Heap) (locs1 : List Loc) (p1 : va_P D vwCl ((wsM b cA M).set j (b + j, x)) H1) (s1 : va_S (aB b) s.heap H1 locs1) :
    W p l e R s m args below meth c H1 locs1 (gN M - n0) (ssz (gN M) - ssz n0) Q (F0 m (pc + len) lsr (t.map (vr b X))) := by
  rw [wsM_upd hN hj hothers hent] at p1
  have hg := hk H1 locs1 lsr ⟨by omega, hM', p1, s1⟩ hl
  rw [hN] at hg
  exact hg
theorem iastore_snd (C0 : Cxt p s m args meth c mi D cA b X L xs n0) {pc : Nat} {ls t : List Value} {M : Mm} {q : Nat} {i x : Int32} (hd : decode (cdN mi) pc = .ok (.iastore, 1)) (hq : wOK M q 0 i = true)
    (hk : WW p l e R s m args below meth c Q mi D cA b X L xs n0 (pc + 1) ls t (sI M q i.toNatClampNeg x)) : WW p l e R s m args below meth c Q mi D cA b X L xs n0 pc ls (.int x :: .int i :: .ref q :: t) M := by
  obtain ⟨hx, hb, hml, hown, hts, hK, hE, hbs, hnm⟩ := id C0
  intro H locs lsr hS hl
  obtain ⟨hn, hM, hP, hSS⟩ := id hS
  obtain ⟨j, rfl, hj, hj2, hsh, hin⟩ := wOK_inv hq hM.1
  have he : (wsM b cA M)[j]? = some (b + j, .inl (cA 0, (SH (j + 1)).2, .inl (gI M (j + 1)))) := by rw [wsM_get b cA M hj, ent_int hsh (by omega)]
  have e1 : vr b X (.ref (j + 1)) = .ref (b + j) := vrf_id hj2
  rw [List.map_cons, List.map_cons, List.map_cons, e1]
  exact va_iast hx hb hK hP (wsM_D b cA M) hSS j 0 he (tysL_get cA 0 (by omega)) hin hd fun H1 locs1 p1 _ s1 =>
    wr_snd (len := 1) (M' := sI M (j + 1) i.toNatClampNeg x) hn hj rfl (hM.sI (by omega)) (fun r hr => ent_eq (gI_sIn hr) rfl rfl) (by rw [ent_int hsh (by omega), gI_sIe]) hk hl H1 locs1 p1 s1
theorem bastore_snd (C0 : Cxt p s m args meth c mi D cA b X L xs n0) {pc : Nat} {ls t : List Value} {M : Mm} {q : Nat} {i x : Int32} (hd : decode (cdN mi) pc = .ok (.bastore, 1)) (hq : wB M q i = true)
    (hk : WW p l e R s m args below meth c Q mi D cA b X L xs n0 (pc + 1) ls t (sZ M q i.toNatClampNeg x)) : WW p l e R s m args below meth c Q mi D cA b X L xs n0 pc ls (.int x :: .int i :: .ref q :: t) M := by
  obtain ⟨hx, hb, hml, hown, hts, hK, hE, hbs, hnm⟩ := id C0
  intro H locs lsr hS hl
  obtain ⟨hn, hM, hP, hSS⟩ := id hS
  simp only [wB, Bool.or_eq_true] at hq
  rcases hq with hq | hq
  · obtain ⟨j, rfl, hj, hj2, hsh, hin⟩ := wOK_inv hq hM.1
    have hz : zTy (j + 1) = .byte := by unfold zTy; rw [hsh]; rfl
    have he : (wsM b cA M)[j]? = some (b + j, .inl (cA 1, (SH (j + 1)).2, .inl (gI M (j + 1)))) := by rw [wsM_get b cA M hj, ent_int hsh (by omega)]
    have e1 : vr b X (.ref (j + 1)) = .ref (b + j) := vrf_id hj2
    rw [sZ, hz] at hk
    rw [List.map_cons, List.map_cons, List.map_cons, e1]
    exact va_bast hx hb hK hP (wsM_D b cA M) hSS j 1 he (tysL_get cA 1 (by omega)) hin hd fun H1 locs1 p1 _ s1 =>
      wr_snd (len := 1) (M' := sI M (j + 1) i.toNatClampNeg (vp_nar .byte x)) hn hj rfl (hM.sI (by omega)) (fun r hr => ent_eq (gI_sIn hr) rfl rfl) (by rw [ent_int hsh (by omega), gI_sIe]) hk hl H1 locs1 p1 s1
  · obtain ⟨j, rfl, hj, hj2, hsh, hin⟩ := wOK_inv hq hM.1
    have hz : zTy (j + 1) = .boolean := by unfold zTy; rw [hsh]; rfl
    have he : (wsM b cA M)[j]? = some (b + j, .inl (cA 2, (SH (j + 1)).2, .inl (gI M (j + 1)))) := by rw [wsM_get b cA M hj, ent_int hsh (by omega)]
    have e1 : vr b X (.ref (j + 1)) = .ref (b + j) := vrf_id hj2
    rw [sZ, hz] at hk
    rw [List.map_cons, List.map_cons, List.map_cons, e1]
    exact va_zast hx hb hK hP (wsM_D b cA M) hSS j 2 he (tysL_get cA 2 (by omega)) hin hd fun H1 locs1 p1 _ s1 =>
      wr_snd (len := 1) (M' := sI M (j + 1) i.toNatClampNeg (vp_nar .boolean x)) hn hj rfl (hM.sI (by omega)) (fun r hr => ent_eq (gI_sIn hr) rfl rfl) (by rw [ent_int hsh (by omega), gI_sIe]) hk hl H1 locs1 p1 s1
theorem lastore_snd (C0 : Cxt p s m args meth c mi D cA b X L xs n0) {pc : Nat} {ls t : List Value} {M : Mm} {q : Nat} {i : Int32} {x : Int64} (hd : decode (cdN mi) pc = .ok (.lastore, 1)) (hq : wOK M q 3 i = true)
    (hk : WW p l e R s m args below meth c Q mi D cA b X L xs n0 (pc + 1) ls t (sL M q i.toNatClampNeg x)) : WW p l e R s m args below meth c Q mi D cA b X L xs n0 pc ls (.long x :: .int i :: .ref q :: t) M := by
  obtain ⟨hx, hb, hml, hown, hts, hK, hE, hbs, hnm⟩ := id C0
  intro H locs lsr hS hl
  obtain ⟨hn, hM, hP, hSS⟩ := id hS
  obtain ⟨j, rfl, hj, hj2, hsh, hin⟩ := wOK_inv hq hM.1
  have he : (wsM b cA M)[j]? = some (b + j, .inl (cA 3, (SH (j + 1)).2, .inr (.inl (gL M (j + 1))))) := by rw [wsM_get b cA M hj, ent_long hsh]
  have e1 : vr b X (.ref (j + 1)) = .ref (b + j) := vrf_id hj2
  rw [List.map_cons, List.map_cons, List.map_cons, e1]
  exact va_last hx hb hK hP (wsM_D b cA M) hSS j 3 he (tysL_get cA 3 (by omega)) hin hd fun H1 locs1 p1 _ s1 =>
    wr_snd (len := 1) (M' := sL M (j + 1) i.toNatClampNeg x) hn hj rfl (hM.sL (by omega)) (fun r hr => ent_eq rfl (gL_sLn hr) rfl) (by rw [ent_long hsh, gL_sLe]) hk hl H1 locs1 p1 s1
theorem aastore_snd (C0 : Cxt p s m args meth c mi D cA b X L xs n0) {pc : Nat} {ls tl : List Value} {M : Mm} {q x : Nat} {i : Int32} (hd : decode (cdN mi) pc = .ok (.aastore, 1)) (hq : wQ M q i x = true)
    (hk : WW p l e R s m args below meth c Q mi D cA b X L xs n0 (pc + 1) ls tl (sR M q i.toNatClampNeg x)) : WW p l e R s m args below meth c Q mi D cA b X L xs n0 pc ls (.ref x :: .int i :: .ref q :: tl) M := by
  obtain ⟨hx, hb, hml, hown, hts, hK, hE, hbs, hnm⟩ := id C0
  intro H locs lsr hS hl
  obtain ⟨hn, hM, hP, hSS⟩ := id hS
  have key : ∀ t, 4 ≤ t → t < 7 → wOK M q t i = true → okO M x (elC t) = true → W p l e R s m args below meth c H locs (gN M - n0) (ssz (gN M) - ssz n0) Q (F0 m pc lsr (List.map (vr b X) (.ref x :: .int i :: .ref q :: tl))) := by
    intro t h4 h7 hq hxo
    obtain ⟨j, rfl, hj, hj2, hsh, hin⟩ := wOK_inv hq hM.1
    obtain ⟨y, rfl, hy, hy2, hsy⟩ := okO_inv hxo
    obtain ⟨a1, a2⟩ := aTy_obj t h4 h7
    have he : (wsM b cA M)[j]? = some (b + j, .inl (cA t, (SH (j + 1)).2, .inr (.inr (.inr (.inr (fun k => adr b (gR M (j + 1) k))))))) := by rw [wsM_get b cA M hj, ent_ref hsh h4]
    have hv : (wsM b cA M)[y]? = some (b + y, .inr (elC t, (List.range (NF (elC t))).map (fvl b M (y + 1) (elC t)))) := by rw [wsM_get b cA M hy, ent_obj hsy a2]
    have e1 : vr b X (.ref (j + 1)) = .ref (b + j) := vrf_id hj2
    have e2 : vr b X (.ref (y + 1)) = .ref (b + y) := vrf_id hy2
    rw [List.map_cons, List.map_cons, List.map_cons, e1, e2]
    refine va_astq (r := (clC (elC t), clT (elC t), NF (elC t))) hx hb hK hP (wsM_D b cA M) hSS j t y (elC t) he (by rw [tysL_get cA t h7, a1]) hv (cl_ok (elC t) a2).1 hin hd fun H1 locs1 p1 _ s1 => ?_
    refine wr_snd (len := 1) (M' := sR M (j + 1) i.toNatClampNeg (y + 1)) hn hj rfl (hM.sR (by omega) hy2) (fun r hr => ent_eq rfl rfl (gR_sRn hr)) ?_ hk hl H1 locs1 p1 s1
    rw [ent_ref hsh h4, gR_sRe]
    congr 7
    funext z
    simp only [va_up]
    split <;> rfl
  simp only [wQ, Bool.or_eq_true, Bool.and_eq_true] at hq
  rcases hq with (hq | hq) | hq
  · exact key 4 (by omega) (by omega) hq.1 hq.2
  · exact key 5 (by omega) (by omega) hq.1 hq.2
  · exact key 6 (by omega) (by omega) hq.1 hq.2
theorem arraylength_snd (C0 : Cxt p s m args meth c mi D cA b X L xs n0) {pc : Nat} {ls tl : List Value} {M : Mm} {q : Nat} (hd : decode (cdN mi) pc = .ok (.arraylength, 1)) (hq : okL M q = true)
    (hk : WW p l e R s m args below meth c Q mi D cA b X L xs n0 (pc + 1) ls (.int (Int32.ofNat (aLen M q)) :: tl) M) : WW p l e R s m args below meth c Q mi D cA b X L xs n0 pc ls (.ref q :: tl) M := by
  obtain ⟨hx, hb, hml, hown, hts, hK, hE, hbs, hnm⟩ := id C0
  intro H locs lsr hS hl
  obtain ⟨hn, hM, hP, hSS⟩ := id hS
  have hg := hk H locs lsr hS hl
  have hN := hM.1
  have alenT : ∀ {ty : FieldType} {t N : Nat} {f : Nat → Value}, va_T ty t N f (aB b) s s.heap → vr b X (.ref q) = .ref t → aLen M q = N → W p l e R s m args below meth c H locs (gN M - n0) (ssz (gN M) - ssz n0) Q (F0 m pc lsr (List.map (vr b X) (.ref q :: tl))) := by
    intro ty t N f hT e1 e2
    obtain ⟨cell, h1, h2, h3, h4, h5, h6, h7⟩ := hT.kept hSS.2.1
    rw [List.map_cons, e1]
    rw [e2] at hg
    exact W.alen (n := Int32.ofNat N) hx hb h1 h2 h5 rfl rfl hd hg
  have key : ∀ t, t < 4 → okA M q t = true → W p l e R s m args below meth c H locs (gN M - n0) (ssz (gN M) - ssz n0) Q (F0 m pc lsr (List.map (vr b X) (.ref q :: tl))) := by
    intro t h4 hq
    obtain ⟨g1, g2, g3⟩ := okA_inv hq
    rcases Nat.lt_or_ge q 1000 with hlo | hhi
    · obtain ⟨j, rfl⟩ : ∃ j, q = j + 1 := ⟨q - 1, by omega⟩
      have e1 : vr b X (.ref (j + 1)) = .ref (b + j) := vrf_id hlo
      have e2 : aLen M (j + 1) = (SH (j + 1)).2 := by rw [aLen, if_neg (by omega)]
      rw [e2] at hg
      rw [List.map_cons, e1]
      rcases Nat.lt_or_ge t 3 with h3 | h3
      · have he : (wsM b cA M)[j]? = some (b + j, .inl (cA t, (SH (j + 1)).2, .inl (gI M (j + 1)))) := by rw [wsM_get b cA M (by omega), ent_int g3 h3]
        exact va_alen hx hb hK hP j t he (tysL_get cA t (by omega)) rfl hd hg
      · have : t = 3 := by omega
        subst this
        have he : (wsM b cA M)[j]? = some (b + j, .inl (cA 3, (SH (j + 1)).2, .inr (.inl (gL M (j + 1))))) := by rw [wsM_get b cA M (by omega), ent_long g3]
        exact va_alen hx hb hK hP j 3 he (tysL_get cA 3 (by omega)) rfl hd hg
    · rcases SH_ext hhi (by omega) g3 with ⟨-, z, rfl, hz, hz2⟩ | ⟨-, rfl, hz2⟩ | ⟨-, rfl⟩
      · obtain ⟨⟨adK, adV, k1, k2, k3⟩, -⟩ := id hE
        refine alenT (k2.1 z hz).2.2.2 ?_ ?_
        · show vrf b X (2000 + z) = _
          rw [vrf_hi (by omega)]
          exact (k1 z hz).2
        · have hz18 : z < 18 := hz
          rw [aLen, if_neg (by omega), hz2]; rfl
      · obtain ⟨-, ⟨tt, z1, z2, z3⟩, -⟩ := id hE
        refine alenT z3 ?_ ?_
        · show vrf b X 3000 = _
          rw [vrf_hi (by omega)]
          exact z1
        · rw [aLen, if_neg (by omega), hz2]
      · obtain ⟨-, -, -, -, ⟨tt, x1, x2, x3, x4⟩, -⟩ := id hE
        have e1 : vr b X (.ref 4000) = .ref tt := by
          show vrf b X 4000 = _
          rw [vrf_hi (by omega)]
          exact x1
        rw [aLen, if_pos rfl, hM.2.2.2.2.2.2] at hg
        rw [List.map_cons, e1]
        exact va_slen hx hb x2 x3 x4 hSS hd hg
  simp only [okL, Bool.or_eq_true] at hq
  rcases hq with ((hq | hq) | hq) | hq
  · exact key 0 (by omega) hq
  · exact key 1 (by omega) hq
  · exact key 2 (by omega) hq
  · exact key 3 (by omega) hq
end SNA
