/-! ===== calls, branches, the end; the whole machine ===== -/
def rmO (d mc ms : Nat) : Room := { frames := d, cells := mc, slots := ms, locals := 64 * d }
def wsO (mi : Nat) : List Cond := Cond.code (yyN mi) (cdN mi) (ML mi) (rtN mi) :: GT
def PcO (D : va_G) (cA : Nat → ClassId) (b : Nat) (X : Nat → Value) (L : Nat) (xs : Nat → Int32) (as : List Value) (M : Mm) : Array Value → State → Prop := fun v U =>
  v = (as.map (vr b X)).toArray ∧ U.heap.size = b + gN M ∧ StM L xs M ∧ va_P D vwCl (wsM b cA M) U.heap ∧ va_K D vwCl (tysL cA) U ∧ Ext b X L xs U U.heap
def QcO (D : va_G) (cA : Nat → ClassId) (b : Nat) (X : Nat → Value) (L : Nat) (xs : Nat → Int32) (r : Option Value × Mm) : Array Value → State → Outcome → State → Prop := fun _ st oc t =>
  oc = .returned (r.1.map (vr b X)) ∧ StM L xs r.2 ∧ va_P D vwCl (wsM b cA r.2) t.heap ∧ va_F (aB b) st t
def MetO (l : Launch) (D : va_G) (cA : Nat → ClassId) (b : Nat) (X : Nat → Value) (L : Nat) (xs : Nat → Int32) (d mi : Nat) (as : List Value) (M : Mm) (r : Option Value × Mm) : Prop :=
  Met l (yyN mi) (wsO mi) (rmO d (gN r.2 - gN M) (ssz (gN r.2) - ssz (gN M))) (PcO D cA b X L xs as M) (QcO D cA b X L xs r) (gN r.2 - gN M) (ssz (gN r.2) - ssz (gN M)) (aB b)
theorem PcO.blind {D : va_G} {cA : Nat → ClassId} {b : Nat} {X : Nat → Value} {L : Nat} {xs : Nat → Int32} {as : List Value} {M : Mm} : FrameBlind (PcO D cA b X L xs as M) := by
  intro a U g mk ⟨h1, h2, h3, h4, h5, h6⟩
  exact ⟨h1, h2, h3, h4, va_K.moved (u := U) (U := U.calling g mk a) (Vm.Alike.refl U.vm) h5, h6.blind⟩
theorem wsO_good {a : Nat} (ha : a < nMt) : GoodIn GT (wsO a) := by
  intro w hw
  rcases List.mem_cons.mp hw with rfl | hw
  · exact ⟨inG (cw_ok a ha) rfl, good_of_word rfl⟩
  · exact ⟨hw, good_of_word (List.mem_filter.mp hw).2⟩
theorem tkn_inv : ∀ (n : Nat) (acc st as t : List Value), tkn n acc st = some (as, t) → ∃ q, as = q ++ acc ∧ st = q.reverse ++ t ∧ q.length = n
  | 0, acc, st, as, t, h => by cases h; exact ⟨[], rfl, rfl, rfl⟩
  | n + 1, acc, v :: st, as, t, h => by
    obtain ⟨q, h1, h2, h3⟩ := tkn_inv n (v :: acc) st as t h
    refine ⟨q ++ [v], by rw [h1]; simp, by rw [h2]; simp, by simp [h3]⟩
  | n + 1, acc, [], as, t, h => by cases h
theorem dep_vr {b : Nat} {X : Nat → Value} (hX : ∀ r, X r = .null ∨ ∃ t, X r = .ref t) (t : List Value) : ((t.map (vr b X)).map fun v => v.category).sum = dep t := by
  unfold dep
  rw [List.map_map]
  congr 1
  apply List.map_congr_left
  intro v _
  exact vr_cat hX v
theorem pos_ex {n : Nat} (h : 1 ≤ n) : ∃ j : Nat, n = j + 1 := ⟨n - 1, by omega⟩
section SNG
variable {p : Program} {l : Launch} {e : Env} {R : Room} {s : State} {m : MethodId} {args : Array Value} {below : List Frame} {meth : Method} {c : Code} {Q : State → Prop} {mi : Nat} {D : va_G} {cA : Nat → ClassId} {b : Nat} {X : Nat → Value} {L : Nat} {xs : Nat → Int32} {n0 nE : Nat}
theorem call_next {M : Mm} {r1 : Option Value × Mm} {H : Heap} {locs : List Loc} {lsr : Array Slot} {pc : Nat} {st0 t ls st' : List Value} {a : Array Value} (hrun : va_Run p l e R s m args below meth c H locs (gN M - n0) (ssz (gN M) - ssz n0) (gN r1.2 - gN M) (ssz (gN r1.2) - ssz (gN M)) (F0 m pc lsr st0) (t.map (vr b X)) (QcO D cA b X L xs r1 a) (aB b)) (hS : Sx D cA b L xs n0 s M H locs) (hmon : gN M ≤ gN r1.2)
    (hst : st' = r1.1.toList ++ t) (hk : WW p l e R s m args below meth c Q mi D cA b X L xs n0 (pc + 3) ls st' r1.2) (hl : LR b X lsr (ML mi) ls) : W p l e R s m args below meth c H locs (gN M - n0) (ssz (gN M) - ssz n0) Q (F0 m pc lsr st0) := by
  intro T hT XX
  obtain ⟨v, st₀, u, T', L', h0, X', hL, e1, e2, ⟨hv, hM1, hP1, hz, hf⟩, st⟩ := hrun T hT XX
  obtain ⟨hn, hM, hP, hSS⟩ := hS
  rw [h0] at hz hf
  have hv : v = r1.1.map (vr b X) := by cases hv; rfl
  have hle := ssz_le hmon
  have hle2 := ssz_le hn
  have c1 : gN M - n0 + (gN r1.2 - gN M) = gN r1.2 - n0 := by omega
  have c2 : ssz (gN M) - ssz n0 + (ssz (gN r1.2) - ssz (gN M)) = ssz (gN r1.2) - ssz n0 := by omega
  rw [c1, c2] at X'
  obtain ⟨t2, a1, b1⟩ := hk T'.heap (locs ++ L') lsr ⟨by omega, hM1, by rw [e1]; exact hP1, Nat.le_trans hSS.1 (by rw [e1]; exact hz), fun q h1 h2 => by rw [e1, hf q (Nat.lt_of_lt_of_le h1 hSS.1) h2]; exact hSS.2.1 q h1 h2, fun q hq => by
      rcases List.mem_append.mp hq with h | h
      · exact hSS.2.2 q h
      · exact hL q h⟩ hl T' rfl X'
  refine ⟨t2, st t2 ?_, b1⟩
  have e3 : (v.toList ++ t.map (vr b X)) = st'.map (vr b X) := by rw [hv, hst, List.map_append]; cases r1.1 <;> rfl
  rw [e3]
  exact a1
/-- what a call wants -/
theorem call_pre (C0 : Cxt p s m args meth c mi D cA b X L xs n0) {M : Mm} {H : Heap} {locs : List Loc} (hS : Sx D cA b L xs n0 s M H locs) (hz : H.size = b + gN M) (as : List Value) : ∀ U : State, U.heap = H → s.WarmedH U.vm → PcO D cA b X L xs as M ((as.map (vr b X)).toArray) U := by
  obtain ⟨hx, hb, hml, hown, hts, hK, hE, hbs, hnm⟩ := id C0
  obtain ⟨hn, hM, hP, hSS⟩ := hS
  intro U hU hW
  exact ⟨rfl, by rw [hU]; exact hz, hM, by rw [hU]; exact hP, va_K.moved hW.alike hK, hE.to hW hSS hU⟩
theorem clK_inv {K : Kk} {a : Nat} {as ls t : List Value} {M : Mm} {k : Ct} {r : Option Value × Mm} (h : clK K a as ls t M k = some r) : a < nMt ∧ (padv as).length ≤ ML a ∧ ∃ r1, K a (pad (ML a) as) M = some r1 ∧ k ls (r1.1.toList ++ t) r1.2 = some r := by
  unfold clK at h
  obtain ⟨hc, h⟩ := cond_inv h
  rw [Bool.and_eq_true, Nat.blt_eq, Nat.ble_eq] at hc
  refine ⟨hc.1, hc.2, ?_⟩
  split at h
  · unfold bV at h
    split at h
    · rename_i M1 h1; exact ⟨_, h1, h⟩
    · cases h
  · unfold bL at h
    split at h
    · rename_i x M1 h1; exact ⟨_, h1, h⟩
    · cases h
  · unfold bI at h
    split at h
    · rename_i x M1 h1; exact ⟨_, h1, h⟩
    · cases h
theorem spB_inv {q n : Int32} {len : Nat} (h : spB q n len = true) : ¬ q < 0 ∧ ¬ n < 0 ∧ q.toNatClampNeg + n.toNatClampNeg ≤ len := by
  simp only [spB, Bool.and_eq_true, decide_eq_true_eq] at h
  obtain ⟨⟨h1, h2⟩, h3⟩ := h
  refine ⟨fun z => ?_, fun z => ?_, ?_⟩
  · have := Int32.lt_iff_toInt_lt.mp z; simp at this; omega
  · have := Int32.lt_iff_toInt_lt.mp z; simp at this; omega
  · have e1 : q.toNatClampNeg = q.toInt.toNat := rfl
    have e2 : n.toNatClampNeg = n.toInt.toNat := rfl
    omega
theorem SH_obj : ∀ r, r < 1000 → (SH r).1 < 13 ∨ 100 ≤ (SH r).1 := by decide +kernel
theorem MC_ok : ∀ a, a < 250 → MC a ≤ 99 := by decide +kernel
theorem acopy_fw : nativeFrameWords "java/lang/System" "arraycopy" 5 + 11 ≤ 56 := by decide +kernel
theorem cll_snd (C0 : Cxt p s m args meth c mi D cA b X L xs n0) {d : Nat} (hR : RmOK R (d + 1) n0 nE) {K : Kk} (hKs : ∀ a as M1 r1, a < nMt → (padv as).length ≤ ML a → K a (pad (ML a) as) M1 = some r1 → MetO l D cA b X L xs d a as M1 r1 ∧ gN M1 ≤ gN r1.2)
    {i : Instr} {len a b' c' pc : Nat} {ls st : List Value} {M : Mm} {k : Ct} {r : Option Value × Mm} (hd : decode (cdN mi) pc = .ok (i, len)) (hlen : len = ilen i) (hw : ∀ w ∈ lnkE (owN mi) (i, len, a, b', c'), w ∈ lw_tbl) (hpf : pfE mi (i, len, a, b', c') = true)
    (h : cll K i a ls st M k = some r) (hmono : ∀ ls' st' M', k ls' st' M' = some r → gN M' ≤ nE) (hk : ∀ ls' st' M', k ls' st' M' = some r → WW p l e R s m args below meth c Q mi D cA b X L xs n0 (pc + len) ls' st' M') : WW p l e R s m args below meth c Q mi D cA b X L xs n0 pc ls st M := by
  obtain ⟨hx, hb, hml, hown, hts, hK, hE, hbs, hnm⟩ := id C0
  have hX : ∀ r, X r = .null ∨ ∃ t, X r = .ref t := hE.2.2.2.2.2.1
  intro H locs lsr hS hl
  obtain ⟨hn, hM, hP, hSS⟩ := id hS
  subst hlen
  unfold cll at h
  split at h
  · cases h
  rename_i as t htk
  obtain ⟨q, h1', h2, h3⟩ := tkn_inv _ _ _ _ _ htk
  have h1 : as = q := by rw [h1']; simp
  clear h1' htk
  subst h1
  have hci := cond_inv h
  clear h
  obtain ⟨hdep, h⟩ := hci
  rw [Nat.ble_eq] at hdep
  have hrm : ∀ pc lsr rest, 2 * (F0 m pc lsr rest).monitorRoom + ((t.map (vr b X)).map fun v => v.category).sum ≤ 8 := fun pc lsr rest => lv_room (by rw [dep_vr hX]; exact hdep)
  refine W.sized fun hsz => ?_
  have hz := hS.size hbs hsz
  obtain ⟨R1, R2, R3, R4⟩ := id hR
  have CF : CallFix p m c (cdN mi) (ML mi) s args GT (owN mi) := ⟨hx, hb, hml, hown, hts⟩
  -- a method of ours
  have mk : ∀ {a : Nat}, clK K a as ls t M k = some r → a < nMt ∧ MdOK a ∧ ∃ r1, MetO l D cA b X L xs d a as M r1 ∧ gN M ≤ gN r1.2 ∧ k ls (r1.1.toList ++ t) r1.2 = some r ∧ (rmO d (gN r1.2 - gN M) (ssz (gN r1.2) - ssz (gN M))).frames + 1 ≤ R.frames ∧ 8 + (ML a + 11) + (rmO d (gN r1.2 - gN M) (ssz (gN r1.2) - ssz (gN M))).locals ≤ R.locals ∧ (gN M - n0 + (gN r1.2 - gN M) ≤ R.cells ∧ ssz (gN M) - ssz n0 + (ssz (gN r1.2) - ssz (gN M)) ≤ R.slots) := by
    intro a h
    obtain ⟨g1, g2, r1, g3, g4⟩ := clK_inv h
    have gm := md_ok a (by have : nMt = 249 := rfl; omega)
    obtain ⟨g5, g6⟩ := hKs a as M r1 g1 g2 g3
    have g7 := hmono _ _ _ g4
    have hmlA : ML a ≤ 40 := gm.2.2.2.2.2.2.2.2
    have z1 := ssz_le hn
    have z2 := ssz_le g6
    have z3 := ssz_le g7
    refine ⟨g1, gm, r1, g5, g6, g4, R1, ?_, ?_, ?_⟩
    · show 8 + (ML a + 11) + 64 * d ≤ R.locals; omega
    · omega
    · omega
  cases i
  case invokestatic x =>
    dsimp only at h
    cases hs : isS a with
    | false => rw [hs] at h; cases h
    | true =>
      rw [hs] at h
      simp only [cond_true] at h
      cases h9 : Nat.beq a 900 with
      | true =>
        rw [h9] at h
        simp only [cond_true] at h
        simp only [lnkE, h9, cond_true] at hw
        unfold cpy at h
        split at h
        · rename_i s1 sp t1 dp nn
          obtain ⟨hcp, h⟩ := ite_inv h
          simp only [cpB, Bool.and_eq_true, Nat.blt_eq] at hcp
          obtain ⟨⟨⟨w1, w2⟩, w3⟩, w4⟩ := hcp
          obtain ⟨v1, v2, v3⟩ := spB_inv w3
          obtain ⟨v4, v5, v6⟩ := spB_inv w4
          have hl1 : (Cond.methodLink (owN mi) x arraycopyName).before args s = true := hts _ (inG (hw _ (by simp)) rfl)
          have hl2 : (Cond.native arraycopyName).before args s = true := hts _ (inG (hw _ (by simp)) rfl)
          have hl3 : (Cond.static arraycopyName).before args s = true := hts _ (inG (hw _ (by simp)) rfl)
          have hl4 : (Cond.initialized "java/lang/System").before args s = true := hts _ (inG (hw _ (by simp)) rfl)
          have hlo : ((t.map (vr b X)).map fun v => v.category).sum + (nativeFrameWords "java/lang/System" "arraycopy" 5 + 11) ≤ R.locals := by
            rw [dep_vr hX]
            have := acopy_fw
            omega
          have hst : st.map (vr b X) = .int nn :: .int dp :: vr b X (.ref t1) :: .int sp :: vr b X (.ref s1) :: t.map (vr b X) := by rw [h2]; rfl
          have hN := hM.1
          rw [hst]
          by_cases hi : (okA M s1 0 && okA M t1 0) = true
          · rw [if_pos hi] at h
            rw [Bool.and_eq_true] at hi
            obtain ⟨a1, a2, a3⟩ := okA_inv hi.1
            obtain ⟨b1, b2, b3⟩ := okA_inv hi.2
            obtain ⟨j, rfl⟩ := pos_ex a1
            obtain ⟨j', rfl⟩ := pos_ex b1
            have e1 : vr b X (.ref (j + 1)) = .ref (b + j) := vrf_id w1
            have e2 : vr b X (.ref (j' + 1)) = .ref (b + j') := vrf_id w2
            have he : (wsM b cA M)[j]? = some (b + j, .inl (cA 0, (SH (j + 1)).2, .inl (gI M (j + 1)))) := by rw [wsM_get b cA M (by omega), ent_int a3 (by omega)]
            have he' : (wsM b cA M)[j']? = some (b + j', .inl (cA 0, (SH (j' + 1)).2, .inl (gI M (j' + 1)))) := by rw [wsM_get b cA M (by omega), ent_int b3 (by omega)]
            rw [e1, e2]
            exact va_copyi hx hb (hml.trans hl.1.symm) hown hl1 hl2 hl3 hl4 hK hP (wsM_D b cA M) hSS j j' 0 0 he he' (tysL_get cA 0 (by omega)) (tysL_get cA 0 (by omega)) rfl v1 v4 v2 v3 v6 (fun _ _ => rfl) (by omega) hlo hd fun H1 locs1 p1 _ s1 =>
              wr_snd (len := 3) (M' := cI M (j + 1) sp.toNatClampNeg (j' + 1) dp.toNatClampNeg nn.toNatClampNeg) hn (by omega) rfl (hM.cI (by omega)) (fun r hr => ent_eq (gI_cIn hr) rfl rfl) (by rw [ent_int b3 (by omega), gI_cIe]) (hk _ _ _ h) hl H1 locs1 p1 s1
          · rw [if_neg hi] at h
            obtain ⟨hi, h⟩ := ite_inv h
            rw [Bool.and_eq_true] at hi
            obtain ⟨a1, a2, a3⟩ := okA_inv hi.1
            obtain ⟨b1, b2, b3⟩ := okA_inv hi.2
            obtain ⟨j, rfl⟩ := pos_ex a1
            obtain ⟨j', rfl⟩ := pos_ex b1
            have e1 : vr b X (.ref (j + 1)) = .ref (b + j) := vrf_id w1
            have e2 : vr b X (.ref (j' + 1)) = .ref (b + j') := vrf_id w2
            have he : (wsM b cA M)[j]? = some (b + j, .inl (cA 3, (SH (j + 1)).2, .inr (.inl (gL M (j + 1))))) := by rw [wsM_get b cA M (by omega), ent_long a3]
            have he' : (wsM b cA M)[j']? = some (b + j', .inl (cA 3, (SH (j' + 1)).2, .inr (.inl (gL M (j' + 1))))) := by rw [wsM_get b cA M (by omega), ent_long b3]
            rw [e1, e2]
            exact va_copyl hx hb (hml.trans hl.1.symm) hown hl1 hl2 hl3 hl4 hK hP (wsM_D b cA M) hSS j j' 3 3 he he' (tysL_get cA 3 (by omega)) (tysL_get cA 3 (by omega)) rfl v1 v4 v2 v3 v6 (fun _ _ => rfl) (by omega) hlo hd fun H1 locs1 p1 _ s1 =>
              wr_snd (len := 3) (M' := cL M (j + 1) sp.toNatClampNeg (j' + 1) dp.toNatClampNeg nn.toNatClampNeg) hn (by omega) rfl (hM.cL (by omega)) (fun r hr => ent_eq rfl (gL_cLn hr) rfl) (by rw [ent_long b3, gL_cLe]) (hk _ _ _ h) hl H1 locs1 p1 s1
        · cases h
      | false =>
        rw [h9] at h
        simp only [cond_false] at h
        simp only [lnkE, h9, cond_false] at hw
        obtain ⟨g1, ⟨m1, m2, m3, m4, m5, m6, m7, m8, m9⟩, r1, g2, g3, g4, g5, g6, g7⟩ := mk h
        rw [hs] at m5
        simp only [cond_true] at m5
        have hcb : CallB R s args (owN mi) x (yyN a) (cdN a) (ML a) (rtN a) (wsO a) (rmO d (gN r1.2 - gN M) (ssz (gN r1.2) - ssz (gN M))) (gN r1.2 - gN M) (ssz (gN r1.2) - ssz (gN M)) (NP a) :=
          callB_of (NP a) hts (wsO_good g1) rfl rfl rfl (hts _ (inG (hw _ (by simp)) rfl)) (hts _ (inG (hw _ (by simp)) rfl)) ⟨m3.1, m3.2, m4⟩ ⟨g5, g6⟩
        have hst : st.map (vr b X) = (as.map (vr b X)).reverse ++ t.map (vr b X) := by rw [h2, List.map_append, List.map_reverse]
        rw [hst]
        exact call_next (va_runS CF g2 ⟨hcb, hts _ (inG (hw _ (by simp)) rfl)⟩ ⟨PcO.blind, call_pre C0 hS hz as⟩ rfl (by rw [List.length_map]; omega) hl.1 rfl (hrm _ _ _) hd g7) hS g3 rfl (hk _ _ _ g4) hl
  case invokevirtual x =>
    dsimp only at h
    cases hs : isS a with
    | true => rw [hs] at h; cases h
    | false =>
      rw [hs] at h
      simp only [cond_false] at h
      simp only [lnkE] at hw
      split at h
      · rename_i r0 as'
        have fin : clK K a (.ref r0 :: as') ls t M k = some r → (∀ ra, vr b X (.ref r0) = .ref ra → (∃ cellB : Cell, H[ra]? = some cellB ∧ cellB.vm.isStatics = false ∧ s.vm.findClass (yyN a).cls = some cellB.cls) → W p l e R s m args below meth c H locs (gN M - n0) (ssz (gN M) - ssz n0) Q (F0 m pc lsr (st.map (vr b X)))) := by
          intro h ra hra hcell
          obtain ⟨g1, ⟨m1, m2, m3, m4, m5, m6, m7, m8, m9⟩, r1, g2, g3, g4, g5, g6, g7⟩ := mk h
          rw [hs] at m5
          simp only [cond_false] at m5
          have hcb : CallB R s args (owN mi) x (yyN a) (cdN a) (ML a) (rtN a) (wsO a) (rmO d (gN r1.2 - gN M) (ssz (gN r1.2) - ssz (gN M))) (gN r1.2 - gN M) (ssz (gN r1.2) - ssz (gN M)) (NP a) :=
            callB_of (NP a) hts (wsO_good g1) rfl rfl rfl (hts _ (inG (hw _ (by simp)) rfl)) (hts _ (inG (hw _ (by simp)) rfl)) ⟨m3.1, m3.2, m4⟩ ⟨g5, g6⟩
          have hst : st.map (vr b X) = (as'.map (vr b X)).reverse ++ .ref ra :: t.map (vr b X) := by
            rw [h2, List.map_append, List.map_reverse, List.map_cons, hra]; simp
          have hpre := call_pre C0 hS hz (.ref r0 :: as')
          rw [List.map_cons, hra] at hpre
          rw [hst]
          simp only [List.length_cons] at h3
          exact call_next (va_runV CF g2 ⟨hcb, hts _ (inG (hw _ (by simp)) rfl), hts _ (inG (hw _ (by simp)) rfl)⟩ ⟨PcO.blind, hcell, hpre⟩ rfl (by rw [List.length_map]; omega) hl.1 rfl (hrm _ _ _) hd g7) hS g3 rfl (hk _ _ _ g4) hl
        cases h5 : Nat.beq (MC a) 50 with
        | true =>
          rw [h5] at h
          simp only [cond_true] at h
          obtain ⟨hq, h⟩ := ite_inv h
          obtain ⟨i, rfl, hi⟩ := okS_inv hq
          obtain ⟨g1, ⟨m1, m2, m3, m4, m5, m6, m7, m8, m9⟩, -⟩ := mk h
          obtain ⟨⟨adK, adV, k1, k2, k3⟩, -⟩ := id hE
          refine fin h (adK i) ?_ ?_
          · show vrf b X (1000 + i) = _
            rw [vrf_hi (by omega)]
            exact (k1 i hi).1
          · rw [m7 (by rwa [Nat.beq_eq] at h5)]
            exact vk_recv k2 hi hSS
        | false =>
          rw [h5] at h
          simp only [cond_false] at h
          obtain ⟨hq, h⟩ := ite_inv h
          obtain ⟨j, rfl, hj, hj2, hsh⟩ := okO_inv hq
          obtain ⟨g1, ⟨m1, m2, m3, m4, m5, m6, m7, m8, m9⟩, -⟩ := mk h
          have hci : MC a < 13 := by
            have q1 := SH_obj (j + 1) hj2
            have q2 := MC_ok a (by have : nMt = 249 := rfl; omega)
            omega
          have he : (wsM b cA M)[j]? = some (b + j, .inr (MC a, (List.range (NF (MC a))).map (fvl b M (j + 1) (MC a)))) := by rw [wsM_get b cA M hj, ent_obj hsh hci]
          refine fin h (b + j) (vrf_id hj2) ?_
          rw [← m6 hci]
          exact va_recv (q := (clC (MC a), clT (MC a), NF (MC a))) hK hP (cl_ok (MC a) hci).1 he
      · cases h
  case invokespecial x =>
    dsimp only at h
    cases hs : isS a with
    | true => rw [hs] at h; cases h
    | false =>
      rw [hs] at h
      simp only [cond_false] at h
      split at h
      · rename_i r0 as'
        obtain ⟨hq, h4⟩ := ite_inv h
        clear h
        simp only [okI, Bool.and_eq_true, Nat.ble_eq, Nat.blt_eq] at hq
        obtain ⟨j, rfl⟩ := pos_ex hq.1
        have hra : vr b X (.ref (j + 1)) = .ref (b + j) := vrf_id hq.2
        have hst : st.map (vr b X) = (as'.map (vr b X)).reverse ++ .ref (b + j) :: t.map (vr b X) := by
          rw [h2, List.map_append, List.map_reverse, List.map_cons, hra]; simp
        rw [hst]
        cases h9 : Nat.beq a 901 with
        | true =>
          rw [h9] at h4
          simp only [cond_true] at h4
          simp only [lnkE, h9, cond_true] at hw
          rw [Nat.beq_eq] at h9
          subst h9
          have h3 : as'.length + 1 = 1 := h3
          have : as' = [] := List.eq_nil_of_length_eq_zero (by omega)
          subst this
          refine W.objInit hx hb hown (hts _ (inG (hw _ (by simp)) rfl)) (hts _ (inG (hw _ (by simp)) rfl)) (hts _ (inG obj_code rfl)) rfl (hl.1.trans hml.symm) rfl hd (by omega) ?_ (hk _ _ _ h4 H locs lsr hS hl)
          have := hrm pc lsr (vr b X (.ref (j + 1)) :: t.map (vr b X))
          show 2 * (F0 m pc lsr _).monitorRoom + _ + 12 ≤ R.locals
          have e0 : ∀ z, (F0 m pc lsr z).monitorRoom = 0 := fun z => rfl
          rw [e0] at this ⊢
          omega
        | false =>
          rw [h9] at h4
          simp only [cond_false] at h4
          simp only [lnkE, h9, cond_false] at hw
          obtain ⟨g1, ⟨m1, m2, m3, m4, m5, m6, m7, m8, m9⟩, r1, g2, g3, g4, g5, g6, g7⟩ := mk h4
          rw [hs] at m5
          simp only [cond_false] at m5
          simp only [List.length_cons] at h3
          simp only [pfE, h9, Bool.false_or, Bool.and_eq_true, decide_eq_true_eq, Nat.beq_eq] at hpf
          obtain ⟨i1, i3⟩ := hpf
          have i2 : rtN a = none := by rw [m8, i3]; rfl
          have hpre := call_pre C0 hS hz (.ref (j + 1) :: as')
          rw [List.map_cons, hra] at hpre
          cases hc0 : Nat.beq c' 0 with
          | true =>
            rw [hc0] at hw
            simp only [cond_true] at hw
            have hcb : CallB R s args (owN mi) x (yyN a) (cdN a) (ML a) none (wsO a) (rmO d (gN r1.2 - gN M) (ssz (gN r1.2) - ssz (gN M))) (gN r1.2 - gN M) (ssz (gN r1.2) - ssz (gN M)) (NP a) :=
              callB_of (NP a) hts (wsO_good g1) (by rw [wsO, i2]) rfl rfl (hts _ (inG (hw _ (by simp)) rfl)) (hts _ (inG (hw _ (by simp)) rfl)) ⟨m3.1, m3.2, m4⟩ ⟨g5, g6⟩
            exact call_next (va_runI CF g2 ⟨hcb, i1, hts _ (inG (hw _ (by simp)) rfl)⟩ ⟨PcO.blind, hpre⟩ rfl (by rw [List.length_map]; omega) hl.1 rfl (hrm _ _ _) hd g7) hS g3 rfl (hk _ _ _ g4) hl
          | false =>
            rw [hc0] at hw
            simp only [cond_false] at hw
            have hcb := va_cnB (R := R) (args := args) (bytes := cdN a) (maxL := ML a) (ret := none) (rm := rmO d (gN r1.2 - gN M) (ssz (gN r1.2) - ssz (gN M))) (NP a) hts (wsO_good g1) (by rw [wsO, i2]) rfl rfl (hE.2.2.2.2.2.2.1 _ _ _ _ (hw _ List.mem_cons_self)) (hts _ (inG (hw _ (by simp)) rfl)) ⟨m3.1, m3.2, m4⟩ ⟨g5, g6⟩
            exact call_next (va_runIN CF g2 ⟨hcb, i1, hts _ (inG (hw _ (by simp)) rfl)⟩ ⟨PcO.blind, hpre⟩ rfl (by rw [List.length_map]; omega) hl.1 rfl (hrm _ _ _) hd g7) hS g3 rfl (hk _ _ _ g4) hl
      · cases h
  all_goals (dsimp only at h; cases h)
end SNG
