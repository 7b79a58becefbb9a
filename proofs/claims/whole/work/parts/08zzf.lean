/-! ===== the model: is it said ===== -/
def PS (N : Mm) : List Bool → Prop
  | [] => True
  | b :: st => gI N 191 st.length = b2i b ∧ PS N st
theorem PS_w {N : Mm} {j : Nat} {v : Int32} : ∀ {st : List Bool}, PS N st → st.length ≤ j → PS (sI N 191 j v) st
  | [], _, _ => trivial
  | b :: st, h, hj => by
    have hj' : st.length + 1 ≤ j := hj
    exact ⟨by rw [gI_ne (by omega)]; exact h.1, PS_w h.2 (by omega)⟩
def Si (r _k : Nat) : Prop := r = 191
theorem z191 (N : Mm) (j : Nat) : sZ N 191 j 0 = sI N 191 j (b2i false) := rfl
theorem z191' (N : Mm) (j : Nat) : sZ N 191 j 1 = sI N 191 j (b2i true) := rfl
theorem nI_m1 (n : Nat) : nI (n + 1) + ((-1) : Int32) = nI n := by
  have : nI (n + 1) = nI n + 1 := by rw [nI_1]
  rw [this, Int32.add_assoc, show (1 : Int32) + (-1) = 0 from by decide, Int32.add_zero]
theorem nI_s1 (n : Nat) : nI (n + 1) - (1 : Int32) = nI n := pk_sub (show 1 ≤ n + 1 by omega)
theorem tok_10 : tok 10 = -1 := rfl
theorem tok_11 : tok 11 = -2 := rfl
theorem tok_12 : tok 12 = -3 := rfl
theorem m_said {d s K : Nat} {r : Bool} (hs : s < 32) (hK : K < 1024) : ∀ (ts : List Nat) (i : Nat) (st : List Bool) (N : Mm) (v5 : Value), Gd N → (∀ j, j < ts.length → gI N 184 (100 * s + i + j) = tok (ts.getD j 0)) → gI N 185 s = nI (i + ts.length) → i + ts.length ≤ 100 → st.length ≤ i → (∀ t, t ∈ ts → t ≤ 12) → rpn K ts st = some [r] → PS N st → ∃ N', go (d + 1) 183 8 [.ref 171, .int (nI s), .int (nI K), .int (nI st.length), .int (nI (100 * s + i)), v5] [] N = some (some (.int (b2i r)), N') ∧ Sm Si NoL N N'
  | [], i, st, N, v5, hG, hp, he, hl, hst, ht, hr, hP => by
    have o := ok_171 hG
    have e : st = [r] := by
      have : some st = some [r] := hr
      exact Option.some.inj this
    subst e
    refine ⟨N, ?_, Sm_refl⟩
    have h0 : gI N 191 0 = b2i r := hP.1
    have he' : gI N 185 s = nI i := he
    rw [q183_8, if_pos o, gr_171_18 hG, if_pos (rk_185 hG hs), nI_clamp (by omega), he', show (100 : Int32) * nI s + nI i = nI (100 * s + i) by rw [show (100 : Int32) = nI 100 from rfl, pk_mul, nI_add], if_pos (by rw [nI_leI (by omega) (by omega)]; omega), if_neg (show ¬ nI [r].length = 0 from (by decide : ¬ nI 1 = 0)), if_pos o, gr_171_39 hG, if_pos (show rB N 191 (0 : Int32) = true from rk_191 hG (k := 0) (by omega)), show (0 : Int32).toNatClampNeg = 0 from rfl, h0]
    cases r <;> rfl
  | t :: ts, i, st, N, v5, hG, hp, he, hl, hst, ht, hr, hP => by
    have o := ok_171 hG
    have hl' : i + (ts.length + 1) ≤ 100 := hl
    have he' : gI N 185 s = nI (i + (ts.length + 1)) := he
    have hc : gI N 184 (100 * s + i) = tok t := by
      have := hp 0 (by show 0 < ts.length + 1; omega)
      exact this
    have hp' : ∀ (N' : Mm), Sm Si NoL N N' → ∀ j, j < ts.length → gI N' 184 (100 * s + (i + 1) + j) = tok (ts.getD j 0) := fun N' hS j hj => by
      rw [hS.2.2.1 _ _ (by unfold Si; omega)]
      have := hp (j + 1) (by show j + 1 < ts.length + 1; omega)
      rw [show 100 * s + (i + 1) + j = 100 * s + i + (j + 1) by omega]
      exact this
    have he2 : ∀ (N' : Mm), Sm Si NoL N N' → gI N' 185 s = nI (i + 1 + ts.length) := fun N' hS => by
      rw [hS.2.2.1 _ _ (by unfold Si; omega), he', show i + (ts.length + 1) = i + 1 + ts.length by omega]
    have ht' : ∀ u, u ∈ ts → u ≤ 12 := fun u hu => ht u (List.mem_cons_of_mem _ hu)
    have t12 : t ≤ 12 := ht t List.mem_cons_self
    have hle : ¬ ((100 : Int32) * nI s + nI (i + (ts.length + 1)) ≤ nI (100 * s + i)) := by
      rw [show (100 : Int32) = nI 100 from rfl, pk_mul, nI_add, nI_leI (by omega) (by omega)]; omega
    have K1 : ∀ (st' : List Bool) (N' : Mm) (v' : Value), Sm Si NoL N N' → st'.length ≤ i + 1 → rpn K ts st' = some [r] → PS N' st' → ∃ N'', go (d + 1) 183 8 [.ref 171, .int (nI s), .int (nI K), .int (nI st'.length), .int (nI (100 * s + i + 1)), v'] [] N' = some (some (.int (b2i r)), N'') ∧ Sm Si NoL N N'' := fun st' N' v' hS h1 h2 h3 => by
      obtain ⟨N'', a1, a2⟩ := m_said (d := d) hs hK ts (i + 1) st' N' v' (Gd_Sm hS hG) (hp' N' hS) (he2 N' hS) (by omega) h1 ht' h2 h3
      exact ⟨N'', a1, Sm_trans hS a2⟩
    have pre := q183_8 d 171 (nI s) (nI K) (nI st.length) (nI (100 * s + i)) v5 N
    rw [if_pos o, gr_171_18 hG, if_pos (rk_185 hG hs), nI_clamp (show s < 2 ^ 31 by omega), he', if_neg hle, gr_171_17 hG, if_pos (rk_184 hG (show 100 * s + i < 3200 by omega)), nI_clamp (show 100 * s + i < 2 ^ 31 by omega), hc, gr_171_39 hG, if_pos o, nI_1] at pre
    rw [pre]
    by_cases h10 : t < 10
    · have et : tok t = nI t := by unfold tok; rw [if_pos h10]
      have hr' : rpn K ts (K.testBit t :: st) = some [r] := by
        unfold rpn at hr; rw [if_pos h10] at hr; exact hr
      rw [et, if_neg (nI_pos (by omega)), if_pos o]
      have wk := wk_191 hG (show st.length < 100 by omega)
      have b := bit1 (show K < 2 ^ 31 by omega) (show t < 31 by omega)
      cases hb : K.testBit t with
      | true =>
        rw [hb] at hr' b
        rw [if_pos (b.mpr rfl), if_pos wk, bM_d, nI_clamp (by omega), z191', nI_1]
        exact K1 (true :: st) (sI N 191 st.length (b2i true)) _ (Sm_sI rfl) (by show st.length + 1 ≤ i + 1; omega) hr' ⟨gI_at, PS_w hP (Nat.le_refl _)⟩
      | false =>
        rw [hb] at hr' b
        rw [if_neg (fun z => by cases b.mp z), if_pos wk, bM_d, nI_clamp (by omega), z191, nI_1]
        exact K1 (false :: st) (sI N 191 st.length (b2i false)) _ (Sm_sI rfl) (by show st.length + 1 ≤ i + 1; omega) hr' ⟨gI_at, PS_w hP (Nat.le_refl _)⟩
    · by_cases h12 : t = 12
      · subst h12
        rw [tok_12, if_pos (by decide), if_pos rfl, if_pos o, if_pos o]
        cases st with
        | nil => exact absurd hr (by unfold rpn; rw [if_neg (by decide), if_pos rfl]; exact fun z => by cases z)
        | cons a st' =>
          have hr' : rpn K ts ((!a) :: st') = some [r] := by
            unfold rpn at hr; rw [if_neg (by decide), if_pos rfl] at hr; exact hr
          have hst' : st'.length + 1 ≤ i := hst
          have ei : nI (a :: st').length - (1 : Int32) = nI st'.length := nI_s1 _
          have ha : gI N 191 st'.length = b2i a := hP.1
          rw [ei, if_pos (rk_191 hG (by omega)), nI_clamp (by omega), ha]
          cases a with
          | false =>
            rw [if_pos (by decide), if_pos (wk_191 hG (by omega)), bM_d, z191']
            exact K1 (true :: st') (sI N 191 st'.length (b2i true)) _ (Sm_sI rfl) (by show st'.length + 1 ≤ i + 1; omega) hr' ⟨gI_at, PS_w hP.2 (Nat.le_refl _)⟩
          | true =>
            rw [if_neg (by decide), if_pos (wk_191 hG (by omega)), bM_d, z191]
            exact K1 (false :: st') (sI N 191 st'.length (b2i false)) _ (Sm_sI rfl) (by show st'.length + 1 ≤ i + 1; omega) hr' ⟨gI_at, PS_w hP.2 (Nat.le_refl _)⟩
      · have hneg : (tok t < 0) ∧ tok t ≠ -3 := by
          have : t = 10 ∨ t = 11 := by omega
          rcases this with z | z <;> rw [z] <;> decide
        rw [if_pos hneg.1, if_neg hneg.2, if_pos o]
        cases st with
        | nil => exact absurd hr (by unfold rpn; rw [if_neg h10, if_neg h12]; exact fun z => by cases z)
        | cons a st1 =>
          cases st1 with
          | nil => exact absurd hr (by unfold rpn; rw [if_neg h10, if_neg h12]; exact fun z => by cases z)
          | cons b st' =>
            have hr' : rpn K ts ((if t = 10 then b && a else b || a) :: st') = some [r] := by
              unfold rpn at hr; rw [if_neg h10, if_neg h12] at hr; exact hr
            have hst' : st'.length + 1 + 1 ≤ i := hst
            have ei : nI (a :: b :: st').length + ((-1) : Int32) = nI (st'.length + 1) := nI_m1 _
            have ej : nI (st'.length + 1) - (1 : Int32) = nI st'.length := nI_s1 _
            have ha : gI N 191 (st'.length + 1) = b2i a := hP.1
            have hb : gI N 191 st'.length = b2i b := hP.2.1
            have rk1 := rk_191 hG (show st'.length + 1 < 100 by omega)
            have rk0 := rk_191 hG (show st'.length < 100 by omega)
            have wk0 := wk_191 hG (show st'.length < 100 by omega)
            have F : ∀ (y : Bool) (v' : Value), (if t = 10 then b && a else b || a) = y → ∃ N'', go (d + 1) 183 8 [.ref 171, .int (nI s), .int (nI K), .int (nI (st'.length + 1)), .int (nI (100 * s + i + 1)), v'] [] (sI N 191 st'.length (b2i y)) = some (some (.int (b2i r)), N'') ∧ Sm Si NoL N N'' := fun y v' hy => by
              rw [hy] at hr'
              exact K1 (y :: st') (sI N 191 st'.length (b2i y)) v' (Sm_sI rfl) (by show st'.length + 1 ≤ i + 1; omega) hr' ⟨gI_at, PS_w hP.2.2 (Nat.le_refl _)⟩
            simp only [ei, ej, nI_clamp (show st'.length < 2 ^ 31 by omega), nI_clamp (show st'.length + 1 < 2 ^ 31 by omega), ha, hb, o, rk0, wk0, rk1, bM_d, z191, z191', eq_self, if_true]
            have : t = 10 ∨ t = 11 := by omega
            rcases this with z | z
            · subst z
              rw [tok_10, if_pos rfl]
              cases b with
              | false => rw [if_pos (by decide)]; exact F false _ rfl
              | true =>
                rw [if_neg (by decide)]
                cases a with
                | false => rw [if_pos (by decide)]; exact F false _ rfl
                | true => rw [if_neg (by decide)]; exact F true _ rfl
            · subst z
              rw [tok_11, if_neg (by decide)]
              cases b with
              | false =>
                rw [if_pos (by decide)]
                cases a with
                | false => rw [if_pos (by decide)]; exact F false _ rfl
                | true => rw [if_neg (by decide)]; exact F true _ rfl
              | true => rw [if_neg (by decide)]; exact F true _ rfl
theorem m_isSaid {d s K : Nat} {M : Mm} {g : Nat → Bool} (hG : Gd M) (hs : s < 32) (hK : K < 1024) (h : SAI M s g) : ∃ N, go (d + 1) 183 0 [.ref 171, .int (nI s), .int (nI K), .null, .null, .null] [] M = some (some (.int (b2i (g K))), N) ∧ Sm Si NoL M N := by
  obtain ⟨p, h1, h2, h3, h4, h5⟩ := h
  have e : (100 : Int32) * nI s = nI (100 * s) := by rw [show (100 : Int32) = nI 100 from rfl, pk_mul]
  rw [q183_0, e]
  rcases h5 with ⟨h5, h6⟩ | h5
  · subst h5
    have h2' : gI M 185 s = nI 0 := h2
    refine ⟨M, ?_, Sm_refl⟩
    rw [q183_8, if_pos (ok_171 hG), gr_171_18 hG, if_pos (rk_185 hG hs), nI_clamp (by omega), h2', e, nI_add, if_pos (by rw [nI_leI (by omega) (by omega)]; omega), if_pos rfl, h6 K hK]; rfl
  · exact m_said (d := d) hs hK p 0 [] M .null hG (fun j hj => h3 j hj) (by rw [Nat.zero_add]; exact h2) (by omega) (Nat.le_refl _) h4 (h5 K hK) trivial
