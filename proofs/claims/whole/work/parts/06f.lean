/-! ===== what is made ===== -/
section SNN
variable {p : Program} {l : Launch} {e : Env} {R : Room} {s : State} {m : MethodId} {args : Array Value} {below : List Frame} {meth : Method} {c : Code} {Q : State → Prop} {mi : Nat} {D : va_G} {cA : Nat → ClassId} {b : Nat} {X : Nat → Value} {L : Nat} {xs : Nat → Int32} {n0 nE : Nat}
/-- the room: up to nE cells, d frames -/
def RmOK (R : Room) (d n0 nE : Nat) : Prop := d ≤ R.frames ∧ 64 * d ≤ R.locals ∧ nE - n0 ≤ R.cells ∧ ssz nE - ssz n0 ≤ R.slots
theorem made_snd {pc : Nat} {ls t : List Value} {M : Mm} {H H1 : Heap} {locs : List Loc} {lsr : Array Slot} (hS : Sx D cA b L xs n0 s M H locs) (hz : H.size = b + gN M) (hn1 : gN M + 1 < 1000) (hat : va_at D vwCl (b + gN M, entA b cA M (gN M + 1)) H1) (z1 : H1.size = H.size + 1) (o1 : ∀ q, q < H.size → H1[q]? = H[q]?)
    (hk : WW p l e R s m args below meth c Q mi D cA b X L xs n0 pc ls (.ref (gN M + 1) :: t) (sN M)) (hl : LR b X lsr (ML mi) ls) :
    W p l e R s m args below meth c H1 locs (gN M - n0 + 1) (ssz (gN M) - ssz n0 + (SH (gN M + 1)).2) Q (F0 m pc lsr (.ref H.size :: t.map (vr b X))) := by
  obtain ⟨hn, hM, hP, hSS⟩ := hS
  have hP1 : va_P D vwCl (wsM b cA (sN M)) H1 := by
    rw [← wsM_new rfl]
    refine (hP.kept (fun k x hx => o1 x.1 (hP k x hx).lt)).app fun k x hx => ?_
    have hz0 : k < 1 := (List.getElem?_eq_some_iff.mp hx).1
    rw [show k = 0 by omega] at hx
    cases hx
    exact hat
  have hS1 : va_S (aB b) s.heap H1 locs := ⟨Nat.le_trans hSS.1 (by omega), fun x h1 h2 => (o1 x (Nat.lt_of_lt_of_le h1 hSS.1)).trans (hSS.2.1 x h1 h2), hSS.2.2⟩
  have hg := hk H1 locs lsr ⟨Nat.le_succ_of_le hn, hM.sN hn1, hP1, hS1⟩ hl
  have e1 : vr b X (.ref (gN M + 1)) = .ref H.size := by rw [hz]; exact vrf_id hn1
  have e2 : gN (sN M) - n0 = gN M - n0 + 1 := by show gN M + 1 - n0 = _; omega
  have e3 : ssz (gN (sN M)) - ssz n0 = ssz (gN M) - ssz n0 + (SH (gN M + 1)).2 := by
    show ssz (gN M) + (SH (gN M + 1)).2 - ssz n0 = _
    have := ssz_le hn
    omega
  rw [List.map_cons, e1, e2, e3] at hg
  exact hg
theorem room_of {d : Nat} {M : Mm} (hR : RmOK R d n0 nE) (hn : n0 ≤ gN M) (h : gN M + 1 ≤ nE) : gN M - n0 + 1 ≤ R.cells ∧ ssz (gN M) - ssz n0 + (SH (gN M + 1)).2 ≤ R.slots := by
  obtain ⟨-, -, h1, h2⟩ := hR
  refine ⟨by omega, ?_⟩
  have e1 : ssz (gN M + 1) = ssz (gN M) + (SH (gN M + 1)).2 := rfl
  have e2 := ssz_le h
  have e3 := ssz_le hn
  omega
theorem nwA_inv {M : Mm} {t : Nat} {n : Int32} (h : nwA M t n = true) : (SH (gN M + 1)).1 = 100 + t ∧ ¬ n < 0 ∧ n.toNatClampNeg = (SH (gN M + 1)).2 ∧ gN M + 1 < 1000 := by
  simp only [nwA, Bool.and_eq_true, decide_eq_true_eq, Nat.beq_eq, Nat.blt_eq] at h
  obtain ⟨⟨⟨h1, h2⟩, h3⟩, h4⟩ := h
  refine ⟨h1, fun hlt => ?_, h3.symm, h4⟩
  have := Int32.lt_iff_toInt_lt.mp hlt
  simp at this
  omega
theorem SH_small : ∀ r, r < 1000 → (SH r).2 ≤ 5000 := by decide +kernel
theorem SH_k199 : ∀ r, r < 1000 → (SH r).1 ≠ 199 := by decide +kernel
theorem aTy_def : ∀ t : Nat, t < 3 → defaultValue (aTy t) = .int 0 ∧ componentBytes (aTy t) ≤ 8
  | 0, _ => ⟨rfl, by decide⟩
  | 1, _ => ⟨rfl, by decide⟩
  | 2, _ => ⟨rfl, by decide⟩
  | n + 3, h => absurd h (by omega)
theorem newarr_aux (C0 : Cxt p s m args meth c mi D cA b X L xs n0) {d : Nat} (hR : RmOK R d n0 nE) {ty : ArrayType} {len a b' c' pc t : Nat} {ls tl : List Value} {M : Mm} {n : Int32} (hd : decode (cdN mi) pc = .ok (.newarray ty, 2)) (hw : ∀ w ∈ lnkE (owN mi) (.newarray ty, len, a, b', c'), w ∈ lw_tbl) (hq : nwA M t n = true) (hE : gN M + 1 ≤ nE) (h4 : t < 4) (hty : newarray.typeOf ty = aTy t)
    (hk : WW p l e R s m args below meth c Q mi D cA b X L xs n0 (pc + 2) ls (.ref (gN M + 1) :: tl) (sN M)) : WW p l e R s m args below meth c Q mi D cA b X L xs n0 pc ls (.int n :: tl) M := by
  obtain ⟨hx, hb, hml, hown, hts, hK, hEx, hbs, hnm⟩ := id C0
  intro H locs lsr hS hl
  obtain ⟨hn, hM, hP, hSS⟩ := id hS
  obtain ⟨g1, g2, g3, g4⟩ := nwA_inv hq
  obtain ⟨r1, r2⟩ := room_of hR hn hE
  refine W.sized fun hsz => ?_
  have hz := hS.size hbs hsz
  have hs5 := SH_small (gN M + 1) g4
  have hcb : componentBytes (aTy t) ≤ 8 := by
    rcases Nat.lt_or_ge t 3 with q | q
    · exact (aTy_def t q).2
    · rw [show t = 3 by omega]; decide
  have hw2 : Cond.arrayClass (newarray.typeOf ty) ∈ lw_tbl := hw _ List.mem_cons_self
  refine va_newaK hx hb (hts _ (inG hw2 rfl)) rfl hd rfl g2 g3 ?_ r1 r2 rfl fun H1 cA' e1 z1 o1 hAr hNm => ?_
  · rw [hty]
    have := Nat.mul_le_mul hs5 hcb
    omega
  · have hRA := (hK.2 t _ (tysL_get cA t (by omega))).2
    have hfc : s.vm.findClass ("[" ++ (aTy t).toString) = some (cA t) := by
      match t, h4 with
      | 0, _ => exact hRA
      | 1, _ => exact hRA
      | 2, _ => exact hRA
      | 3, _ => exact hRA
    rw [hty] at hNm e1
    cases hNm.symm.trans hfc
    refine made_snd hS hz g4 ?_ z1 o1 hk hl
    have hz0 := fun k => hM.2.1 (gN M + 1) k (by omega) g4
    rcases Nat.lt_or_ge t 3 with q | q
    · rw [ent_int g1 q]
      show H1[b + gN M]? = some (vp_cell _ _)
      rw [← hz, e1, vp_cell_i, (aTy_def t q).1]
      congr 2
      funext k
      rw [(hz0 k).1]
    · have : t = 3 := by omega
      subst this
      rw [ent_long g1]
      show H1[b + gN M]? = some (vp_cell _ _)
      rw [← hz, e1, vp_cell_l]
      congr 2
      funext k
      rw [(hz0 k).2.1]
      rfl
theorem newarray_snd (C0 : Cxt p s m args meth c mi D cA b X L xs n0) {d : Nat} (hR : RmOK R d n0 nE) {ty : ArrayType} {len a b' c' pc : Nat} {ls tl : List Value} {M : Mm} {n : Int32} (hd : decode (cdN mi) pc = .ok (.newarray ty, 2)) (hw : ∀ w ∈ lnkE (owN mi) (.newarray ty, len, a, b', c'), w ∈ lw_tbl) (hq : nwA M (atC ty) n = true) (hE : gN M + 1 ≤ nE)
    (hk : WW p l e R s m args below meth c Q mi D cA b X L xs n0 (pc + 2) ls (.ref (gN M + 1) :: tl) (sN M)) : WW p l e R s m args below meth c Q mi D cA b X L xs n0 pc ls (.int n :: tl) M := by
  obtain ⟨g1, g2, g3, g4⟩ := nwA_inv hq
  cases ty
  case int => exact newarr_aux (t := 0) C0 hR hd hw hq hE (by omega) rfl hk
  case byte => exact newarr_aux (t := 1) C0 hR hd hw hq hE (by omega) rfl hk
  case boolean => exact newarr_aux (t := 2) C0 hR hd hw hq hE (by omega) rfl hk
  case long => exact newarr_aux (t := 3) C0 hR hd hw hq hE (by omega) rfl hk
  all_goals exact absurd g1 (SH_k199 _ g4)
theorem anewarray_snd (C0 : Cxt p s m args meth c mi D cA b X L xs n0) {d : Nat} (hR : RmOK R d n0 nE) {x len t b' c' pc : Nat} {ls tl : List Value} {M : Mm} {n : Int32} (hd : decode (cdN mi) pc = .ok (.anewarray x, 3)) (hw : ∀ w ∈ lnkE (owN mi) (.anewarray x, len, t, b', c'), w ∈ lw_tbl) (hq : nwA M t n = true) (h4 : 4 ≤ t) (h7 : t < 7) (hE : gN M + 1 ≤ nE)
    (hk : WW p l e R s m args below meth c Q mi D cA b X L xs n0 (pc + 3) ls (.ref (gN M + 1) :: tl) (sN M)) : WW p l e R s m args below meth c Q mi D cA b X L xs n0 pc ls (.int n :: tl) M := by
  obtain ⟨hx, hb, hml, hown, hts, hK, hEx, hbs, hnm⟩ := id C0
  intro H locs lsr hS hl
  obtain ⟨hn, hM, hP, hSS⟩ := id hS
  obtain ⟨g1, g2, g3, g4⟩ := nwA_inv hq
  obtain ⟨r1, r2⟩ := room_of hR hn hE
  refine W.sized fun hsz => ?_
  have hz := hS.size hbs hsz
  have hs5 := SH_small (gN M + 1) g4
  have hw1 : Cond.classLink (owN mi) x (clC (elC t)) ∈ lw_tbl := hw _ List.mem_cons_self
  have hw2 : Cond.arrayOver (.object (clC (elC t))) ∈ lw_tbl := hw _ (List.mem_cons_of_mem _ List.mem_cons_self)
  have hov := hEx.2.2.2.2.2.2.2 _ hw2
  rw [← g3] at r2
  refine W.anew hx hb hown (hts _ (inG hw1 rfl)) (va_AO.use hov) rfl hd rfl g2 (by rw [g3]; omega) r1 r2 fun cA' kA comp f1 f2 f3 f4 => ?_
  obtain ⟨a1, a2⟩ := aTy_obj t h4 h7
  have hRA := (hK.2 t _ (tysL_get cA t h7)).2
  rw [a1] at hRA
  obtain ⟨kA', comp', q1, q2, q3, q4⟩ := hRA
  cases f1.symm.trans q4
  generalize hH1 : H.push ({ cls := cA t, slots := Array.replicate n.toNatClampNeg .null, vm := .none } : Cell) = H1
  have z1 : H1.size = H.size + 1 := by rw [← hH1, Array.size_push]
  have e1 : H1[H.size]? = some (arrV (cA t) n.toNatClampNeg (fun _ => .null)) := by rw [← hH1, Array.getElem?_push_size, ← arrV_new]
  have o1 : ∀ q : Nat, q < H.size → H1[q]? = H[q]? := fun q hq => by rw [← hH1, Array.getElem?_push, if_neg (Nat.ne_of_lt hq)]
  rw [g3]
  refine made_snd hS hz g4 ?_ z1 o1 hk hl
  have hz0 := fun k => hM.2.1 (gN M + 1) k (by omega) g4
  rw [ent_ref g1 h4]
  show H1[b + gN M]? = some (vp_cell _ _)
  rw [← hz, e1, vp_cell_q, g3]
  congr 2
  funext k
  rw [(hz0 k).2.2]
  rfl
theorem nwO_inv {M : Mm} {a : Nat} (h : nwO M a = true) : a < 13 ∧ (SH (gN M + 1)).1 = a ∧ (SH (gN M + 1)).2 = NF a ∧ gN M + 1 < 1000 := by
  simp only [nwO, Bool.and_eq_true, Nat.beq_eq, Nat.blt_eq] at h
  exact ⟨h.1.1.1, h.1.1.2, h.1.2, h.2⟩
theorem new_snd (C0 : Cxt p s m args meth c mi D cA b X L xs n0) {d : Nat} (hR : RmOK R d n0 nE) {x len a b' c' pc : Nat} {ls tl : List Value} {M : Mm} (hd : decode (cdN mi) pc = .ok (.new x, 3)) (hw : ∀ w ∈ lnkE (owN mi) (.new x, len, a, b', c'), w ∈ lw_tbl) (hq : nwO M a = true) (hE : gN M + 1 ≤ nE)
    (hk : WW p l e R s m args below meth c Q mi D cA b X L xs n0 (pc + 3) ls (.ref (gN M + 1) :: tl) (sN M)) : WW p l e R s m args below meth c Q mi D cA b X L xs n0 pc ls tl M := by
  obtain ⟨hx, hb, hml, hown, hts, hK, hEx, hbs, hnm⟩ := id C0
  intro H locs lsr hS hl
  obtain ⟨hn, hM, hP, hSS⟩ := id hS
  obtain ⟨g0, g1, g2, g4⟩ := nwO_inv hq
  obtain ⟨r1, r2⟩ := room_of hR hn hE
  refine W.sized fun hsz => ?_
  have hz := hS.size hbs hsz
  have hw1 : Cond.classLink (owN mi) x (clC a) ∈ lw_tbl := hw _ List.mem_cons_self
  have hw2 : Cond.instantiable (clC a) (NF a) ∈ lw_tbl := hw _ (List.mem_cons_of_mem _ List.mem_cons_self)
  have hw3 : Cond.initialized (clC a) ∈ lw_tbl := hw _ (List.mem_cons_of_mem _ (List.mem_cons_of_mem _ List.mem_cons_self))
  obtain ⟨q1, q2, q3, q4, q5, q6⟩ := cl_ok a g0
  have hKn := hK.1 a _ q1
  rw [g2] at r2
  refine W.newcK hx hb hown (hts _ (inG hw1 rfl)) (hts _ (inG hw2 rfl)) (hts _ (inG hw3 rfl)) rfl hd r1 r2 hKn.2.1 rfl fun H1 kC hkC e1 z1 o1 => ?_
  rw [← g2]
  refine made_snd hS hz g4 ?_ z1 o1 hk hl
  have hz0 := fun k => hM.2.1 (gN M + 1) k (by omega) g4
  rw [ent_obj g1 g0]
  refine ⟨_, q1, ?_⟩
  have hbn := u_born (clY a) hts (u_good q2) hKn hkC (by rw [hz] at e1; exact e1) q3
  refine hbn.to fun k hk => ?_
  have e5 : vp_V ((List.range (NF a)).map (fvl b M (gN M + 1) a)) k = fvl b M (gN M + 1) a k := by
    simp [vp_V, hk]
  obtain ⟨f0, f1, f2, f3⟩ := q6 k hk
  rw [e5]
  unfold fvl
  rw [(hz0 k).1, (hz0 k).2.2]
  rcases (show FT a k = 0 ∨ FT a k = 1 ∨ FT a k = 2 by omega) with hf | hf | hf
  · rw [f0 hf, hf]; rfl
  · rw [f1 hf, hf]; rfl
  · have := f2 hf
    rw [hf]
    cases hy : clY a k <;> rw [hy] at this <;> first | rfl | (simp [refKind] at this)
/-- the cells' group -/
theorem sC_snd (C0 : Cxt p s m args meth c mi D cA b X L xs n0) {d : Nat} (hR : RmOK R d n0 nE) {i : Instr} {len a b' c' pc : Nat} {ls st : List Value} {M : Mm} {k : Ct} {r : Option Value × Mm} (hd : decode (cdN mi) pc = .ok (i, len)) (hlen : len = ilen i) (hw : ∀ w ∈ lnkE (owN mi) (i, len, a, b', c'), w ∈ lw_tbl) (hpf : pfE mi (i, len, a, b', c') = true)
    (h : sC i a b' ls st M k = some r) (hmono : ∀ ls' st' M', k ls' st' M' = some r → gN M' ≤ nE) (hk : ∀ ls' st' M', k ls' st' M' = some r → WW p l e R s m args below meth c Q mi D cA b X L xs n0 (pc + len) ls' st' M') : WW p l e R s m args below meth c Q mi D cA b X L xs n0 pc ls st M := by
  subst hlen
  cases i
  case getfield x => exact getfield_snd C0 hd hw h hk
  case putfield x => exact putfield_snd C0 hd hw hpf h hk
  case getstatic x =>
    obtain ⟨hx, hb, hml, hown, hts, hK, hEx, hbs, hnm⟩ := id C0
    intro H locs lsr hS hl
    obtain ⟨hn, hM, hP, hSS⟩ := id hS
    obtain ⟨-, ⟨tt, z1, z2, z3⟩, c1, c2, -⟩ := id hEx
    match a, h, hw with
    | 0, h, hw =>
      have hg := hk _ _ _ h H locs lsr hS hl
      have e1 : vr b X (.ref 3000) = .ref tt := by
        show vrf b X 3000 = _
        rw [vrf_hi (by omega)]
        exact z1
      rw [List.map_cons, e1] at hg
      exact va_gets hx hb z2 hSS hown (hts _ (inG (hw _ List.mem_cons_self) rfl)) (fun _ z => z) hd hg
    | 1, h, hw => exact va_gets hx hb c1 hSS hown (hts _ (inG (hw _ List.mem_cons_self) rfl)) (fun _ z => z) hd (hk _ _ _ h H locs lsr hS hl)
    | z + 2, h, hw =>
      have hg := hk _ _ _ h H locs lsr hS hl
      have e1 : vr b X (.ref 5000) = X 5000 := by
        show vrf b X 5000 = _
        exact vrf_hi (by omega)
      rw [List.map_cons, e1] at hg
      exact va_gets hx hb c2 hSS hown (hts _ (inG (hw _ List.mem_cons_self) rfl)) (fun _ z => z) hd hg
  case iaload => obtain ⟨q, j, t, rfl, h2⟩ := pri_inv h; obtain ⟨hq, h2⟩ := ite_inv h2; exact iaload_snd C0 hd hq (hk _ _ _ h2)
  case baload => obtain ⟨q, j, t, rfl, h2⟩ := pri_inv h; obtain ⟨hq, h2⟩ := ite_inv h2; exact baload_snd C0 hd hq (hk _ _ _ h2)
  case laload => obtain ⟨q, j, t, rfl, h2⟩ := pri_inv h; obtain ⟨hq, h2⟩ := ite_inv h2; exact laload_snd C0 hd hq (hk _ _ _ h2)
  case aaload => obtain ⟨q, j, t, rfl, h2⟩ := pri_inv h; obtain ⟨hq, h2⟩ := ite_inv h2; exact aaload_snd C0 hd hq (hk _ _ _ h2)
  case iastore => obtain ⟨x, t, rfl, h1⟩ := p1i_inv h; obtain ⟨q, j, t, rfl, h2⟩ := pri_inv h1; obtain ⟨hq, h2⟩ := ite_inv h2; exact iastore_snd C0 hd hq (hk _ _ _ h2)
  case bastore => obtain ⟨x, t, rfl, h1⟩ := p1i_inv h; obtain ⟨q, j, t, rfl, h2⟩ := pri_inv h1; obtain ⟨hq, h2⟩ := ite_inv h2; exact bastore_snd C0 hd hq (hk _ _ _ h2)
  case lastore => obtain ⟨x, t, rfl, h1⟩ := p1l_inv h; obtain ⟨q, j, t, rfl, h2⟩ := pri_inv h1; obtain ⟨hq, h2⟩ := ite_inv h2; exact lastore_snd C0 hd hq (hk _ _ _ h2)
  case aastore => obtain ⟨x, t, rfl, h1⟩ := p1r_inv h; obtain ⟨q, j, t, rfl, h2⟩ := pri_inv h1; obtain ⟨hq, h2⟩ := ite_inv h2; exact aastore_snd C0 hd hq (hk _ _ _ h2)
  case arraylength => obtain ⟨q, t, rfl, h2⟩ := p1r_inv h; obtain ⟨hq, h2⟩ := ite_inv h2; exact arraylength_snd C0 hd hq (hk _ _ _ h2)
  case newarray ty => obtain ⟨n, t, rfl, h2⟩ := p1i_inv h; obtain ⟨hq, h2⟩ := ite_inv h2; exact newarray_snd C0 hR hd hw hq (hmono _ _ _ h2) (hk _ _ _ h2)
  case anewarray x =>
    obtain ⟨n, t, rfl, h2⟩ := p1i_inv h
    obtain ⟨ha, h2⟩ := cond_inv h2
    obtain ⟨hq, h2⟩ := ite_inv h2
    rw [Bool.and_eq_true, Nat.ble_eq, Nat.ble_eq] at ha
    exact anewarray_snd C0 hR hd hw hq ha.1 (by omega) (hmono _ _ _ h2) (hk _ _ _ h2)
  case new x => obtain ⟨hq, h2⟩ := ite_inv h; exact new_snd C0 hR hd hw hq (hmono _ _ _ h2) (hk _ _ _ h2)
  all_goals (simp only [sC, reduceCtorEq] at h)
end SNN
