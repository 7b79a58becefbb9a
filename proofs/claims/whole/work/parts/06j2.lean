/-- the memory at the start -/
def M0 (L : Nat) (xs : Nat → Int32) : Mm :=
  (0, fun r k => if r = 4000 then xs k else if 2000 ≤ r then stB (r - 2000) k else 0, fun r k => if r = 3000 then wlm k else 0, fun r k => if r = 4000 ∧ k = 0 then L else 0)
theorem M0_ok (L : Nat) (xs : Nat → Int32) : StM L xs (M0 L xs) := by
  refine ⟨by show (0 : Nat) < 1000; omega, fun r k h1 h2 => ⟨?_, ?_, ?_⟩, fun r k h => ?_, fun i j hi hj => ?_, fun j hj => ?_, fun j hj => ?_, ?_⟩
  · show (if r = 4000 then xs k else if 2000 ≤ r then stB (r - 2000) k else 0) = 0
    rw [if_neg (by omega), if_neg (by omega)]
  · show (if r = 3000 then wlm k else 0) = 0
    rw [if_neg (by omega)]
  · show (if r = 4000 ∧ k = 0 then L else 0) = 0
    rw [if_neg (by omega)]
  · show (if r = 4000 ∧ k = 0 then L else 0) < 1000
    rw [if_neg (by omega)]; omega
  · have : i < 18 := hi
    show (if 2000 + i = 4000 then xs j else if 2000 ≤ 2000 + i then stB (2000 + i - 2000) j else 0) = _
    rw [if_neg (by omega), if_pos (by omega), Nat.add_sub_cancel_left]
  · rfl
  · rfl
  · rfl
theorem mem_rng {f : Nat → Cond} {n i : Nat} (h : i < n) : f i ∈ (List.range n).map f := List.mem_map.mpr ⟨i, List.mem_range.mpr h, rfl⟩
theorem ext_start {s : State} {b L : Nat} {xs : Nat → Int32} (hts : ∀ w ∈ lw_tbl, w.before #[Value.ref b] s = true) (hX : va_X b L xs s s.heap) (hbl : b < s.heap.size) (hgv : (Jvm.Cond.and given_1 narrow_1).before #[Value.ref b] s = true) : ∃ X : Nat → Value, X 4000 = .ref b ∧ Ext s.heap.size X L xs s s.heap := by
  have hs : ∀ w ∈ flS, w.before #[Value.ref b] s = true := flat_of_before _ hgv
  have hA : ∀ a : Nat, a < s.heap.size → ¬ aB s.heap.size a := fun a h z => by unfold aB at z; omega
  obtain ⟨adK, adV, hS, hev⟩ := vk_Sof (args := #[Value.ref b]) (s := s) (N := 18) (tm := tmS) (len := stLs) (byt := stBs) (A := aB s.heap.size) (by decide) (fun i hi => hs _ (fs_ex _ (mem_rng hi))) (fun i hi => hs _ (fs_co _ (mem_rng (f := fun i => Cond.eq (.field (tmS i) "java/lang/String" "coder" "B") (.int 0)) hi))) (fun i hi => hs _ (fs_ar _ (mem_rng (f := fun i => Cond.arrayOf (.field (tmS i) "java/lang/String" "value" "[B") .byte) hi))) (fun i hi => hs _ (fs_le _ (mem_rng (f := fun i => Cond.eq (.length (.field (tmS i) "java/lang/String" "value" "[B")) (.int (Int32.ofNat (stLs.getD i 0)))) hi)))
    (fun i hi j hj => hs _ (fs_el _ (List.mem_flatMap.mpr ⟨i, List.mem_range.mpr hi, mem_rng (f := fun j => Cond.eq (.elem (.field (tmS i) "java/lang/String" "value" "[B") (.int (Int32.ofNat j))) (.int ((stBs.getD i []).getD j 0))) hj⟩)))
    (fun i j hi hj hij => (pr_all i hi j hj hij).elim (fun z => Or.inl (hs _ (fs_ne _ (List.mem_map.mpr ⟨(i, j), z, rfl⟩)))) (fun z => Or.inr (hs _ (fs_ne _ (List.mem_map.mpr ⟨(j, i), z, rfl⟩))))) hA
  obtain ⟨t, ht, hT⟩ := va_Tof (args := #[Value.ref b]) (s := s) (tm := .static "MarkedBody$KindSet" "WITH_LOW_MARK" "[J") (ty := .long) (N := 6) (f := fun j => .long (wlm j)) (A := aB s.heap.size) (by decide) (hs _ (fs_w _ (by simp))) (va_eqt (hs _ (fs_w _ (by simp)))) (fun j hj => va_eqtl (hs _ (fs_wl _ (mem_rng (f := fun j => Cond.eq (.elem (.static "MarkedBody$KindSet" "WITH_LOW_MARK" "[J") (.int (Int32.ofNat j))) (.long (wlm j))) hj)))) hA
  have hZ1 := va_Zof (A := aB s.heap.size) (hts _ (tb_ls (.laysStatic "MarkedBody$KindSet" "WITH_LOW_MARK" "[J") (by simp))) (hts _ (tb_ls _ (by simp))) ht hA
  have hZ2 := va_Zof (A := aB s.heap.size) (hts _ (tb_ls (.laysStatic "java/lang/String" "COMPACT_STRINGS" "Z") (by simp))) (hts _ (tb_ls _ (by simp))) (va_eqi (z := 1) (hs _ (fs_w _ (by simp)))) hA
  have hZ3 := va_Zqof (A := aB s.heap.size) (hts _ (tb_ls (.laysStatic "jdk/internal/util/Preconditions" "SIOOBE_FORMATTER" "Ljava/util/function/BiFunction;") (by simp))) (hts _ (tb_ls _ (by simp))) (hs _ (fs_w _ (by simp))) hA
  obtain ⟨v5, hv5, hZ3⟩ : ∃ v : Value, (v = .null ∨ ∃ t, v = .ref t) ∧ va_Z "jdk/internal/util/Preconditions" "SIOOBE_FORMATTER" "Ljava/util/function/BiFunction;" v (aB s.heap.size) s s.heap := by
    rcases hZ3 with h | ⟨t, h⟩
    · exact ⟨_, Or.inl rfl, h⟩
    · exact ⟨_, Or.inr ⟨t, rfl⟩, h⟩
  refine ⟨fun r => if r = 3000 then .ref t else if r = 4000 then .ref b else if r = 5000 then v5 else if r < 2000 then .ref (adK (r - 1000)) else .ref (adV (r - 2000)), rfl, ⟨adK, adV, fun i hi => ?_, hS, fun i hi => ?_⟩, ⟨t, rfl, hZ1, hT⟩, hZ2, hZ3, ⟨b, rfl, hX, hbl, hA b hbl⟩, fun r => ?_, fun o i y h hm => va_Nw.of rfl (hts _ hm), fun C hC => va_AO.of (hts _ hC)⟩
  · have : i < 18 := hi
    refine ⟨?_, ?_⟩
    · show (if 1000 + i = 3000 then Value.ref t else if 1000 + i = 4000 then .ref b else if 1000 + i = 5000 then v5 else if 1000 + i < 2000 then .ref (adK (1000 + i - 1000)) else .ref (adV (1000 + i - 2000))) = _
      rw [if_neg (by omega), if_neg (by omega), if_neg (by omega), if_pos (by omega), Nat.add_sub_cancel_left]
    · show (if 2000 + i = 3000 then Value.ref t else if 2000 + i = 4000 then .ref b else if 2000 + i = 5000 then v5 else if 2000 + i < 2000 then .ref (adK (2000 + i - 1000)) else .ref (adV (2000 + i - 2000))) = _
      rw [if_neg (by omega), if_neg (by omega), if_neg (by omega), if_neg (by omega), Nat.add_sub_cancel_left]
  · exact vk_R.of (hts _ (tb_st _ (mem_rng (f := fun i => Cond.stringRef stO (stI i) (stT i)) hi))) (hev i hi)
  · dsimp only
    split
    · exact Or.inr ⟨_, rfl⟩
    · split
      · exact Or.inr ⟨_, rfl⟩
      · split
        · exact hv5
        · split
          · exact Or.inr ⟨_, rfl⟩
          · exact Or.inr ⟨_, rfl⟩
theorem known_start {s : State} {args : Array Value} (hts : ∀ w ∈ lw_tbl, w.before args s = true) : ∃ (D : va_G) (cA : Nat → ClassId), va_K D vwCl (tysL cA) s := by
  have h1 : ∀ ci, ∃ q : ClassId × (Nat → Nat), ci < 13 → u_Kn s (clC ci) (clT ci) (NF ci) q.1 q.2 := by
    intro ci
    by_cases hc : ci < 13
    · obtain ⟨cC, iS, h⟩ := u_known hts (cl_ok ci hc).2.1 (hts _ (tb_in _ (mem_rng (f := fun i => Cond.instantiable (clC i) (NF i)) hc)))
      exact ⟨(cC, iS), fun _ => h⟩
    · exact ⟨(0, fun _ => 0), fun h => absurd h hc⟩
  obtain ⟨f, hf⟩ := Classical.axiomOfChoice h1
  have ha : ∀ ty, Cond.arrayClass ty ∈ lw_tbl → ∃ cA, ArrOfT s cA ty ∧ s.vm.findClass ("[" ++ ty.toString) = some cA := by
    intro ty hm
    obtain ⟨cA, kA, comp, q1, q2, q3⟩ := Cond.arrayClass_spec (hts _ hm)
    exact ⟨cA, fun n z => ⟨fun k h => (by cases h), kA, q2, comp, q3⟩, q1⟩
  have ho : ∀ C, Cond.arrayOver (.object C) ∈ lw_tbl → ∃ cA, ArrOfT s cA (.object C) ∧ va_RA s cA (.object C) := by
    intro C hm
    obtain ⟨comp, cA, kA, q1, -, q2, q3, q4⟩ := Cond.arrayOver_spec (hts _ hm)
    exact ⟨cA, fun n z => ⟨fun k h => (by cases h), kA, q2, comp, q3⟩, kA, comp, q2, q3, q1, q4⟩
  obtain ⟨c0, a0, b0⟩ := ha .int (tb_ac _ (by simp))
  obtain ⟨c1, a1, b1⟩ := ha .byte (tb_ac _ (by simp))
  obtain ⟨c2, a2, b2⟩ := ha .boolean (tb_ac _ (by simp))
  obtain ⟨c3, a3, b3⟩ := ha .long (tb_ac _ (by simp))
  obtain ⟨c4, a4, b4⟩ := ho "MarkedBody$Sheet" (tb_ao _ (by simp))
  obtain ⟨c5, a5, b5⟩ := ho "MarkedBody$KindSet" (tb_ao _ (by simp))
  obtain ⟨c6, a6, b6⟩ := ho "MarkedBody$Line" (tb_ao _ (by simp))
  refine ⟨(fun k => (f k).1, fun k => (f k).2), fun t => match t with
    | 0 => c0
    | 1 => c1
    | 2 => c2
    | 3 => c3
    | 4 => c4
    | 5 => c5
    | _ => c6, fun ci q hq => ?_, fun t q hq => ?_⟩
  · have hc : ci < 13 := (List.getElem?_eq_some_iff.mp hq).1
    have hv := (cl_ok ci hc).1
    rw [hv] at hq
    cases hq
    exact hf ci hc
  · have ht : t < 7 := (List.getElem?_eq_some_iff.mp hq).1
    match t, ht, hq with
    | 0, _, hq => cases hq; exact ⟨a0, b0⟩
    | 1, _, hq => cases hq; exact ⟨a1, b1⟩
    | 2, _, hq => cases hq; exact ⟨a2, b2⟩
    | 3, _, hq => cases hq; exact ⟨a3, b3⟩
    | 4, _, hq => cases hq; exact ⟨a4, b4⟩
    | 5, _, hq => cases hq; exact ⟨a5, b5⟩
    | 6, _, hq => cases hq; exact ⟨a6, b6⟩
theorem law_snd {p : Program} {e : Env} {s : State} {m : MethodId} {below : List Frame} {meth : Method} {c : Code} (l : Launch) {b L : Nat} {xs : Nat → Int32} (C0 : lw_At p s m meth c b L xs) {d : Nat} {M' : Mm} (hd50 : d < 1000) (hN : gN M' = 197) (h : go (d + 1) 249 0 [.ref 4000, .null, .null, .null] [] (M0 L xs) = some (some (.int 1), M')) : W p l e room_1 s m #[Value.ref b] below meth c s.heap [] 0 0 (lw_Z below #[Value.ref b] s) (entryFrame m ([Value.ref b] : List Value).toArray 4) := by
  obtain ⟨hx, hb, hr, hml, hown, hts, hX, hbl, hlocks, hgv⟩ := id C0
  obtain ⟨X, hX4, hE⟩ := ext_start hts hX hbl hgv
  obtain ⟨D, cA, hK⟩ := known_start hts
  have hXok : ∀ r, X r = .null ∨ ∃ t, X r = .ref t := hE.2.2.2.2.2.1
  have C1 : Cxt p s m #[Value.ref b] meth c 249 D cA s.heap.size X L xs 0 := ⟨hx, hb, hml, hown, fun w hw => hts w (List.mem_filter.mp hw).1, hK, hE, rfl, fun z => absurd z (by decide +kernel)⟩
  have hR : RmOK room_1 (d + 1) 0 (gN ((some (Value.int 1), M') : Option Value × Mm).2) := by
    show d + 1 ≤ 2048 ∧ 64 * (d + 1) ≤ 84000 ∧ gN M' - 0 ≤ 600000 ∧ ssz (gN M') - ssz 0 ≤ 7302250
    rw [hN]
    refine ⟨by omega, by omega, by omega, by decide +kernel⟩
  obtain ⟨n, hn⟩ := go_it.mp h
  have hKm : ∀ a as M r, (fun a as M => go d a 0 as [] M) a as M = some r → gN M ≤ gN r.2 := fun a as M r h => go_mono d a 0 as [] M r h
  have key : ∀ (n pc : Nat) (ls st : List Value) (M1 : Mm), itK (fun a as M => go d a 0 as [] M) n 249 pc ls st M1 = some (some (.int 1), M') → WW p l e room_1 s m #[Value.ref b] below meth c (lw_Z below #[Value.ref b] s) 249 D cA s.heap.size X L xs 0 pc ls st M1 := by
    intro n
    induction n with
    | zero => intro pc ls st M' h; cases h
    | succ n ihn =>
      intro pc ls st M1 h
      refine ev_snd C1 (by omega) hR hKm (fun a as' M1 r1 ha hp hg => ⟨met_snd l D cA s.heap.size X L xs d a as' M1 r1 ha hp hg, go_mono d a 0 _ [] M1 r1 hg⟩) (G := itK (fun a as M => go d a 0 as [] M) n 249) (fun t ls st M2 h => it_mono _ hKm n 249 t ls st M2 _ h) (fun t ls st M2 h => ihn t ls st M2 h) ?_ 300 pc ls st M1 h
      intro i pc st M2 H locs lsr hd hrt hS
      unfold rtn at hrt
      cases i
      case ireturn =>
        dsimp only at hrt
        split at hrt
        · rename_i x
          have h3 : (if x == 0 || x == 1 then some (some (Value.int x), M2) else none) = some (some (.int 1), M') := hrt
          obtain ⟨-, h3⟩ := ite_inv h3
          cases h3
          refine va_forget (fun q hq => hS.2.2.2.2.2 q hq) ?_
          refine W.widen (k := 600000) (n := 7302250) ?_ ?_ ?_
          · rw [hN]; omega
          · rw [hN]; decide +kernel
          · exact lw_ret hx hb hr hlocks hd
        · cases hrt
      all_goals (dsimp only at hrt; first | (cases hrt; done) | (have z : (bif Nat.beq (RT 249) 0 then (match st with | [] => some ((none : Option Value), M2) | _ => none) else none) = some (some (.int 1), M') := hrt; cases z) | (split at hrt <;> cases hrt))
  have hP : va_P D vwCl (wsM s.heap.size cA (M0 L xs)) s.heap := fun k q h => by
    have : wsM s.heap.size cA (M0 L xs) = [] := rfl
    rw [this] at h; simp at h
  have hlr := LR.entry (b := s.heap.size) hXok (as := [.ref 4000]) (n := 4) (by decide)
  have hg := key n 0 _ _ _ hn s.heap [] _ ⟨Nat.zero_le _, M0_ok L xs, hP, va_S.rf⟩ hlr
  have e1 : [Value.ref 4000].map (vr s.heap.size X) = [.ref b] := by
    show [vrf s.heap.size X 4000] = _
    rw [vrf_hi (by omega), hX4]
  rw [e1] at hg
  rw [lg_entry_eq]
  exact hg
