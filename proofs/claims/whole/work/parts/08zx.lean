/-! ===== the model reads statements ===== -/
def EvR (r : Rr) : Prop := match r with
  | .inl _ => True
  | .inr (_, _, c) => ∃ g, Ev c g
theorem lp_ev {T : Tp} {sub : Nat → Nat → Rr} {w op : Nat} (hop : op = 10 ∨ op = 11) (hs : ∀ p k, EvR (sub p k)) : ∀ f p k c, (∃ g, Ev c g) → EvR (lpF T sub w op f p k c)
  | 0, p, k, c, h => h
  | f + 1, p, k, c, h => by
    rw [lpF]
    by_cases hc : tkW T p = tx w
    · rw [if_pos hc]
      have hsub := hs (tkE T p) k
      cases hr : sub (tkE T p) k with
      | inl e => trivial
      | inr r =>
        obtain ⟨p', k', c'⟩ := r
        rw [hr] at hsub
        obtain ⟨g, hg⟩ := h
        obtain ⟨g', hg'⟩ := hsub
        refine lp_ev hop hs f p' k' _ ?_
        rcases hop with rfl | rfl
        · exact ⟨_, Ev_and hg hg'⟩
        · exact ⟨_, Ev_or hg hg'⟩
    · rw [if_neg hc]; exact h
theorem seq_ev {T : Tp} {sub : Nat → Nat → Rr} {w op : Nat} (hop : op = 10 ∨ op = 11) (hs : ∀ p k, EvR (sub p k)) (p k : Nat) : EvR (seqF T sub w op p k) := by
  have h := hs p k
  rw [seq_eq]
  cases hr : sub p k with
  | inl e => trivial
  | inr r =>
    obtain ⟨p', k', c⟩ := r
    rw [hr] at h
    exact lp_ev hop hs 500 p' k' c h
theorem mark_ev {T : Tp} {mk : Nat} (hmk : mk ≤ 10) (p k : Nat) : EvR (markF T mk p k) := by
  unfold markF
  by_cases h1 : tkK T p = 2 ∧ tkN T p < mk
  · rw [if_pos h1]
    by_cases h2 : k < 12
    · rw [if_pos h2]; exact ⟨_, Ev_mark (by omega)⟩
    · rw [if_neg h2]; trivial
  · rw [if_neg h1]
    by_cases h2 : tkK T p = 2
    · rw [if_pos h2]; trivial
    · rw [if_neg h2]; trivial
theorem at_ev {T : Tp} {mk : Nat} (hmk : mk ≤ 10) : ∀ m p k, EvR (atF T mk m p k)
  | 0, p, k => by
    rw [atF]
    by_cases h : tkW T p = tx 6 ∨ tkG T p 40 = true
    · rw [if_pos h]; trivial
    · rw [if_neg h]; exact mark_ev hmk p k
  | m + 1, p, k => by
    rw [atF]
    by_cases h1 : tkW T p = tx 6
    · rw [if_pos h1]
      have ih := at_ev (T := T) hmk m (tkE T p) k
      cases hr : atF T mk m (tkE T p) k with
      | inl e => trivial
      | inr r =>
        obtain ⟨p', k', c⟩ := r
        rw [hr] at ih
        obtain ⟨g, hg⟩ := ih
        exact ⟨_, Ev_not hg⟩
    · rw [if_neg h1]
      by_cases h2 : tkG T p 40 = true
      · rw [if_pos h2]
        have ih := seq_ev (T := T) (w := 8) (op := 11) (Or.inr rfl) (fun p k => seq_ev (T := T) (w := 7) (op := 10) (Or.inl rfl) (at_ev (T := T) hmk m) p k) (tkE T p) k
        cases hr : seqF T (seqF T (atF T mk m) 7 10) 8 11 (tkE T p) k with
        | inl e => trivial
        | inr r =>
          obtain ⟨p', k', c⟩ := r
          rw [hr] at ih
          by_cases h3 : tkG T p' 41 = true
          · simp only [if_pos h3]; exact ih
          · simp only [if_neg h3]; trivial
      · rw [if_neg h2]; exact mark_ev hmk p k
theorem sa_ev {T : Tp} {mk m p k p' k' : Nat} {c : List Nat} (hmk : mk ≤ 10) (h : saF T mk m p k = .inr (p', k', c)) : ∀ j, j < 1024 → rpn j c [] = some [evC c j] := by
  have := seq_ev (T := T) (w := 8) (op := 11) (Or.inr rfl) (fun p k => seq_ev (T := T) (w := 7) (op := 10) (Or.inl rfl) (at_ev (T := T) hmk m) p k) p k
  unfold saF at h
  rw [h] at this
  obtain ⟨g, hg⟩ := this
  intro j hj
  rw [hg j hj [], Ev_evC hg hj]
def NM (N : Mm) (B : Bk) : Prop := gI N 171 30 = nI (nmB B) ∧ gI N 171 31 = nI (nlB B) ∧ gI N 171 32 = nI (nnB B) ∧
  (∀ j, j < nmB B → gI N 175 j = optI (B.1 1 j) ∧ gI N 176 j = nI (B.1 2 j)) ∧
  (∀ i, i < nnB B → gI N 177 i = nI (B.1 3 i) ∧ gI N 178 i = optI (B.1 9 i) ∧ gI N 179 i = nI (B.1 4 i) ∧ gI N 180 i = nI (B.1 5 i) ∧ gI N 181 i = nI (B.1 6 i) ∧ gI N 186 (8 + i) = nI (B.1 7 i) ∧ gI N 182 i = nI (B.1 8 i) ∧ gI N 183 i = optI (B.1 10 i)) ∧
  (∀ l, l < nlB B → SAI N l (B.2.1 l)) ∧ (∀ i, i < nnB B → SAI N (8 + i) (B.2.2 i))
def Rm (nm nl nn : Nat) (r k : Nat) : Prop := (r = 171 ∧ 24 ≤ k ∧ k ≤ 35) ∨ ((r = 175 ∨ r = 176) ∧ nm ≤ k) ∨ (177 ≤ r ∧ r ≤ 183 ∧ nn ≤ k) ∨ (r = 184 ∧ ((100 * nl ≤ k ∧ k < 800) ∨ 800 + 100 * nn ≤ k)) ∨ ((r = 185 ∨ r = 186) ∧ ((nl ≤ k ∧ k < 8) ∨ 8 + nn ≤ k)) ∨ r = 188
theorem SAI_at {M N : Mm} {s : Nat} {g : Nat → Bool} (h : SAI M s g) (h1 : gI N 185 s = gI M 185 s) (h2 : ∀ i, i < 100 → gI N 184 (100 * s + i) = gI M 184 (100 * s + i)) : SAI N s g := by
  obtain ⟨p, a1, a2, a3, a4, a5⟩ := h
  exact ⟨p, a1, h1.trans a2, fun i hi => (h2 i (by omega)).trans (a3 i hi), a4, a5⟩
theorem NM_R {M N : Mm} {B : Bk} (h : NM M B) (hS : Sm (Rm (nmB B) (nlB B) (nnB B)) NoL M N) (hP : PB B) (h0 : gI N 171 30 = gI M 171 30) (h1 : gI N 171 31 = gI M 171 31) (h2 : gI N 171 32 = gI M 171 32) : NM N B := by
  obtain ⟨a1, a2, a3, a4, a5, a6, a7⟩ := h
  have hl8 := hP.2.1
  refine ⟨h0.trans a1, h1.trans a2, h2.trans a3, fun j hj => ?_, fun i hi => ?_, fun l hl => ?_, fun i hi => ?_⟩
  · rw [hS.2.2.1 _ _ (by unfold Rm; omega), hS.2.2.1 _ _ (by unfold Rm; omega)]; exact a4 j hj
  · rw [hS.2.2.1 177 i (by unfold Rm; omega), hS.2.2.1 178 i (by unfold Rm; omega), hS.2.2.1 179 i (by unfold Rm; omega), hS.2.2.1 180 i (by unfold Rm; omega), hS.2.2.1 181 i (by unfold Rm; omega), hS.2.2.1 186 (8 + i) (by unfold Rm; omega), hS.2.2.1 182 i (by unfold Rm; omega), hS.2.2.1 183 i (by unfold Rm; omega)]; exact a5 i hi
  · exact SAI_at (a6 l hl) (hS.2.2.1 _ _ (by unfold Rm; omega)) (fun i hi => hS.2.2.1 _ _ (by unfold Rm; omega))
  · exact SAI_at (a7 i hi) (hS.2.2.1 _ _ (by unfold Rm; omega)) (fun j hj => hS.2.2.1 _ _ (by unfold Rm; omega))
theorem Rm_e {nm nl nn : Nat} {M N : Mm} (h : Sm Se NoL M N) : Sm (Rm nm nl nn) NoL M N := Sm_mono (fun r k z => by unfold Se at z; unfold Rm; omega) (fun r z => z) h
theorem Rm_d {nm nl nn : Nat} {M N : Mm} (h : Sm Sd NoL M N) : Sm (Rm nm nl nn) NoL M N := Sm_mono (fun r k z => by unfold Sd at z; unfold Rm; omega) (fun r z => z) h
theorem Rm_v {nm nl nn s : Nat} {M N : Mm} (h : Sm (Sv s) NoL M N) (hs : (s = nl ∧ nl < 8) ∨ s = 8 + nn) : Sm (Rm nm nl nn) NoL M N := Sm_mono (fun r k z => by unfold Sv at z; unfold Rm; omega) (fun r z => z) h
theorem NM_e {M N : Mm} {B : Bk} (h : NM M B) (hS : Sm Se NoL M N) (hP : PB B) : NM N B := NM_R h (Rm_e hS) hP (hS.2.2.1 _ _ (by unfold Se; omega)) (hS.2.2.1 _ _ (by unfold Se; omega)) (hS.2.2.1 _ _ (by unfold Se; omega))
theorem NM_d {M N : Mm} {B : Bk} (h : NM M B) (hS : Sm Sd NoL M N) (hP : PB B) : NM N B := NM_e h (Sm_de hS) hP
def MCx (N : Mm) (T : Tp) (B : Bk) : Prop := Gd N ∧ TPM N T ∧ gI N 171 40 = nI (vrB B) ∧ PB B
theorem MCx_R {M N : Mm} {T : Tp} {B : Bk} {nm nl nn : Nat} (h : MCx M T B) (hS : Sm (Rm nm nl nn) NoL M N) : MCx N T B := by
  obtain ⟨h1, h2, h3, h4⟩ := h
  refine ⟨Gd_Sm hS h1, ⟨h2.1, ?_, fun k hk => ?_⟩, ?_, h4⟩
  · rw [hS.2.2.1 _ _ (by unfold Rm; omega)]; exact h2.2.1
  · rw [hS.2.2.1 _ _ (by unfold Rm; omega)]; exact h2.2.2 k hk
  · rw [hS.2.2.1 _ _ (by unfold Rm; omega)]; exact h3
theorem MCx_d {M N : Mm} {T : Tp} {B : Bk} (h : MCx M T B) (hS : Sm Sd NoL M N) : MCx N T B := MCx_R h (Rm_d (nm := 0) (nl := 0) (nn := 0) hS)
theorem MCx_e {M N : Mm} {T : Tp} {B : Bk} (h : MCx M T B) (hS : Sm Se NoL M N) : MCx N T B := MCx_R h (Rm_e (nm := 0) (nl := 0) (nn := 0) hS)
theorem FtM_ne {M N : Mm} {f pl : Nat} (h : FtM M f pl) (h1 : gI N 171 28 = gI M 171 28) (h2 : gI N 171 29 = gI M 171 29) : FtM N f pl := by
  unfold FtM at h ⊢
  rw [h1, h2]; exact h
theorem m_numberTo {d p lim : Nat} {M : Mm} {T : Tp} {x : Int32} (hG : Gd M) (hT : TPM M T) (hp : p ≤ T.1) (h : TkM M T p) (h0 : gI M 171 28 = 0) (hx : ∀ n, n < 1000 → (nI n ≤ x ↔ n < lim)) : ∃ N, go (d + 4) 172 0 [.ref 171, .int x, .null] [] M = some (some (.int (nI (tkN0 T p))), N) ∧ Sm Se NoL M N ∧ (match numF T lim p with
    | .inl (f, pl) => FtM N f pl
    | .inr n => tkN0 T p = n ∧ TkM N T (tkE T p) ∧ gI N 171 28 = 0) := by
  have o := ok_171 hG
  have hn := hT.1
  have hsb := tkS_b T hp
  have nu := m_number (d := d + 2) hG hT hp h
  have k25 := h.2.2.2
  have e3 : nI (mkd (tkK T p)) = (3 : Int32) ↔ tkK T p = 2 := em3
  have lt0 := tkN0_lt T p
  have le0 : gI M 171 28 ≤ 0 := by rw [h0]; decide
  unfold numF
  by_cases hk : tkK T p = 2
  · have eN : tkN0 T p = tkN T p := by unfold tkN0; rw [if_pos hk]
    rw [if_pos hk]
    by_cases hl : tkN T p < lim
    · rw [if_pos hl]
      obtain ⟨N, a1, a2, a3, a4⟩ := m_must1 (d := d) hG hT hp h h0
      refine ⟨N, ?_, Sm_de a2, eN, a3, a4⟩
      rw [q172_0, if_pos o, if_pos le0, if_pos o, nu, bI_s, if_pos o, k25, if_pos (e3.mpr hk), if_pos ((hx _ lt0).mpr (by rw [eN]; exact hl)), if_pos o, if_pos (e3.mpr hk), if_pos o, a1, bV_s]
    · rw [if_neg hl]
      have b := m_bad (d := d + 2) (x := 2) hG h0 h.1
      have hG7 : Gd (sI (sI M 171 28 2) 171 29 (nI (tkS T p))) := hG
      have g28 : gI (sI (sI M 171 28 2) 171 29 (nI (tkS T p))) 171 28 = 2 := by rw [gI_ne (by omega), gI_at]
      have g25 : gI (sI (sI M 171 28 2) 171 29 (nI (tkS T p))) 171 25 = nI (mkd (tkK T p)) := by rw [gI_ne (by omega), gI_ne (by omega)]; exact k25
      have mf : go (d + 3) 168 0 [.ref 171, .int (1 : Int32)] [] (sI (sI M 171 28 2) 171 29 (nI (tkS T p))) = some (none, sI (sI M 171 28 2) 171 29 (nI (tkS T p))) := m_mustF (d := d) (b := true) hG7 (by rw [g28]; decide)
      refine ⟨sI (sI M 171 28 2) 171 29 (nI (tkS T p)), ?_, Sm_trans (Sm_sI (by unfold Se; omega)) (Sm_sI (by unfold Se; omega)), g28, gI_at, by omega, by omega, by omega⟩
      rw [q172_0, if_pos o, if_pos le0, if_pos o, nu, bI_s, if_pos o, k25, if_pos (e3.mpr hk), if_neg (fun z => hl (by rw [← eN]; exact (hx _ lt0).mp z)), if_pos o, b, bV_s, if_pos (ok_171 hG7), g25, if_pos (e3.mpr hk), if_pos (ok_171 hG7), mf, bV_s]
  · rw [if_neg hk]
    obtain ⟨N, a1, a2, a3⟩ := m_must0 (d := d) hG hp hn h h0
    refine ⟨N, ?_, a2, a3⟩
    rw [q172_0, if_pos o, if_pos le0, if_pos o, nu, bI_s, if_pos o, k25, if_neg (fun z => hk (e3.mp z)), if_pos o, if_neg (fun z => hk (e3.mp z)), if_pos o, a1, bV_s]
theorem m_numberF {d : Nat} {M : Mm} {x : Int32} {f pl : Nat} (hG : Gd M) (h : FtM M f pl) : go (d + 4) 172 0 [.ref 171, .int x, .null] [] M = some (some (.int 0), M) := by
  have h1 := h.2.2.1
  have h3 := h.2.2.2.1
  rw [q172_0, if_pos (ok_171 hG), h.1, if_neg (by rw [show (0 : Int32) = nI 0 from rfl, nI_leI (by omega) (by omega)]; omega)]
/-- what comes of a statement, in the model -/
def MR (T : Tp) (N : Mm) (r : Rb) : Prop := match r with
  | .inl (f, pl) => FtM N f pl
  | .inr (p', B') => TkM N T p' ∧ gI N 171 28 = 0 ∧ NM N B'
def mk2 (T : Tp) (B : Bk) (q : Nat) : Rb := rbn (if tkW T q = tx 1 then .inr 0 else rbn (numF T (nmB B) q) fun n => .inr (n + 1)) fun pa => rbn (choF T 2 3 4 (tkE T q)) fun wy => .inr (tkE T (tkE T q), mkB B pa wy)
def lw2 (T : Tp) (B : Bk) (q : Nat) : Rb := rbn (saF T (nmB B) 5 q 0) fun r => .inr (r.1, lwB B (evC r.2.2))
def ln2 (T : Tp) (B : Bk) (q : Nat) : Rb := rbn (srF T q) fun a => rbn (acF T a.2.2) fun b => rbn (ifF T (nmB B) b.2.2.2) fun c => .inr (c.2.2, lnB B (fldF a.1 a.2.1 b.1 b.2.1 b.2.2.1 c.1 (vrB B)) c.2.1)
def fin2 (T : Tp) (r : Rb) : Rb := rbn r fun x => rbn (semF T x.1) fun p' => .inr (p', x.2)
theorem rbn_a {α β γ : Type} (r : Sum (Nat × Nat) α) (f : α → Sum (Nat × Nat) β) (g : β → Sum (Nat × Nat) γ) : rbn (rbn r f) g = rbn r (fun a => rbn (f a) g) := by cases r <;> rfl
theorem mk_2 {T : Tp} {B : Bk} {p : Nat} (h : ¬ 10 ≤ nmB B) : mkF T B p = fin2 T (mk2 T B (tkE T p)) := by
  unfold mkF fin2 mk2
  rw [if_neg h, rbn_a]
  congr 1
  funext pa
  rw [rbn_a]
  rfl
theorem lw_2 {T : Tp} {B : Bk} {p : Nat} (h : ¬ 8 ≤ nlB B) : lwF T B p = fin2 T (lw2 T B (tkE T p)) := by
  unfold lwF fin2 lw2
  rw [if_neg h, rbn_a]
  rfl
theorem ln_2 {T : Tp} {B : Bk} {p : Nat} (h : ¬ 24 ≤ nnB B) : lnF T B p = fin2 T (ln2 T B (tkE T p)) := by
  unfold lnF fin2 ln2
  rw [if_neg h, rbn_a]
  congr 1
  funext a
  rw [rbn_a]
  congr 1
  funext b
  rw [rbn_a]
  rfl
/-- the way of a mark -/
theorem m_mark2 {d p pa : Nat} {M : Mm} {T : Tp} {B : Bk} {x1 : Int32} (hC : MCx M T B) (hN : NM M B) (hnm : nmB B < 10) (hp : p ≤ T.1) (h : TkM M T p) (h0 : gI M 171 28 = 0) (hpa : gI M 175 (nmB B) = optI pa) : ∃ N, go (d + 4) 179 58 [.ref 171, .int x1, .null, .null] [] M = some (none, N) ∧ Sm (Rm (nmB B) (nlB B) (nnB B)) NoL M N ∧ MR T N (rbn (choF T 2 3 4 p) fun wy => .inr (tkE T p, mkB B pa wy)) := by
  obtain ⟨hG, hT, hv, hP⟩ := id hC
  have o := ok_171 hG
  have hn := hT.1
  have hsb := tkS_b T hp
  have w := m_word (d := d + 2) hG hT hp h
  have e2 := wv_is (T := T) (p := p) (i := 2) (c := 1836413812) hp (by omega) rfl
  have e3 := wv_is (T := T) (p := p) (i := 3) (c := 7168377) hp (by omega) rfl
  have e4 := wv_is (T := T) (p := p) (i := 4) (c := 7302757) hp (by omega) rfl
  have st : go (d + 4) 179 58 [.ref 171, .int x1, .null, .null] [] M = go (d + 4) 179 116 [.ref 171, .int x1, .long (wvL (tkW T p)), .null] [.int (match choF T 2 3 4 p with
      | .inl _ => NONE
      | .inr n => nI n), .int (nI (nmB B)), .ref 176] M := by
    rw [q179_58, if_pos o, h0, if_pos rfl, if_pos o, w, bL_s, if_pos o, if_pos o, hN.1, gr_171_7 hG]
    unfold choF
    by_cases h2 : tkW T p = tx 2
    · rw [if_pos (e2.mpr h2), if_pos h2]; rfl
    · rw [if_neg (fun z => h2 (e2.mp z)), if_neg h2]
      by_cases h3 : tkW T p = tx 3
      · rw [if_pos (e3.mpr h3), if_pos h3]; rfl
      · rw [if_neg (fun z => h3 (e3.mp z)), if_neg h3]
        by_cases h4 : tkW T p = tx 4
        · rw [if_pos (e4.mpr h4), if_pos h4]; rfl
        · rw [if_neg (fun z => h4 (e4.mp z)), if_neg h4]
  have hG1 : ∀ v, Gd (sI M 176 (nmB B) v) := fun v => hG
  have t1 : ∀ v, TkM (sI M 176 (nmB B) v) T p := fun v => by
    unfold TkM at h ⊢
    rw [gI_ne (by omega), gI_ne (by omega), gI_ne (by omega), gI_ne (by omega)]; exact h
  have z1 : ∀ v, gI (sI M 176 (nmB B) v) 171 28 = 0 := fun v => (gI_ne (by omega)).trans h0
  have n1 : ∀ v, gI (sI M 176 (nmB B) v) 171 30 = nI (nmB B) := fun v => (gI_ne (by omega)).trans hN.1
  have S1 : ∀ v, Sm (Rm (nmB B) (nlB B) (nnB B)) NoL M (sI M 176 (nmB B) v) := fun v => Sm_sI (by unfold Rm; omega)
  have T1 : ∀ v, TPM (sI M 176 (nmB B) v) T := fun v => (MCx_R hC (S1 v)).2.1
  rw [st]
  cases hr : choF T 2 3 4 p with
  | inl e =>
    have he := cho_l hr
    subst he
    obtain ⟨N, a1, a2, a3⟩ := m_must0 (d := d) (hG1 NONE) hp hn (t1 NONE) (z1 NONE)
    have hGN := Gd_Sm a2 (hG1 NONE)
    have n30 : gI N 171 30 = nI (nmB B) := (a2.2.2.1 _ _ (by unfold Se; omega)).trans (n1 NONE)
    refine ⟨sI N 171 30 (nI (nmB B + 1)), ?_, Sm_trans (S1 NONE) (Sm_trans (Rm_e a2) (Sm_sI (by unfold Rm; omega))), FtM_ne a3 (gI_ne (by omega)) (gI_ne (by omega))⟩
    rw [q179_116, if_pos (wk_176 hG hnm), bM_d, nI_clamp (by omega), if_pos (ok_171 (hG1 _)), if_pos (ok_171 (hG1 _)), gr_171_7 (hG1 _), n1, if_pos (rk_176 (hG1 _) hnm), nI_clamp (by omega), gI_at, if_pos rfl, if_pos (ok_171 (hG1 _)), a1, bV_s, if_pos (ok_171 hGN), if_pos (ok_171 hGN), n30, bM_d, nI_1]
  | inr wy =>
    obtain ⟨hw3, -⟩ := cho_b hr (by omega) (by omega) (by omega)
    obtain ⟨N, a1, a2, a3, a4⟩ := m_must1 (d := d) (hG1 (nI wy)) (T1 (nI wy)) hp (t1 (nI wy)) (z1 (nI wy))
    have hGN := Gd_Sm a2 (hG1 (nI wy))
    have n30 : gI N 171 30 = nI (nmB B) := (a2.2.2.1 _ _ (by unfold Sd; omega)).trans (n1 (nI wy))
    have ne : ∀ r k, ¬ (r = 176 ∧ k = nmB B) → ¬ (r = 171 ∧ k = 30) → ¬ Sd r k → gI (sI N 171 30 (nI (nmB B + 1))) r k = gI M r k := fun r k a b c => by rw [gI_ne b, a2.2.2.1 _ _ c, gI_ne a]
    refine ⟨sI N 171 30 (nI (nmB B + 1)), ?_, Sm_trans (S1 (nI wy)) (Sm_trans (Rm_d a2) (Sm_sI (by unfold Rm; omega))), ?_, ?_, ?_⟩
    · rw [q179_116, if_pos (wk_176 hG hnm), bM_d, nI_clamp (by omega), if_pos (ok_171 (hG1 _)), if_pos (ok_171 (hG1 _)), gr_171_7 (hG1 _), n1, if_pos (rk_176 (hG1 _) hnm), nI_clamp (by omega), gI_at, if_neg (fun z => none_ne (n := wy) (by omega) z.symm), if_pos (ok_171 (hG1 _)), a1, bV_s, if_pos (ok_171 hGN), if_pos (ok_171 hGN), n30, bM_d, nI_1]
    · unfold TkM at a3 ⊢
      rw [gI_ne (by omega), gI_ne (by omega), gI_ne (by omega), gI_ne (by omega)]; exact a3
    · rw [gI_ne (by omega)]; exact a4
    · obtain ⟨c1, c2, c3, c4⟩ := mkB_c B pa wy
      obtain ⟨b1, b2, b3, b4, b5, b6, b7⟩ := hN
      refine ⟨by rw [gI_at]; exact congrArg nI c1.symm, by rw [ne _ _ (by omega) (by omega) (by unfold Sd; omega)]; exact b2, by rw [ne _ _ (by omega) (by omega) (by unfold Sd; omega)]; exact b3, fun j hj => ?_, fun i hi => ?_, fun l hl => ?_, fun i hi => ?_⟩
      · rw [mkB_1, mkB_2]
        have hj' : j < nmB B + 1 := hj
        by_cases e : j = nmB B
        · subst e
          rw [if_pos rfl, if_pos rfl]
          exact ⟨by rw [ne _ _ (by omega) (by omega) (by unfold Sd; omega)]; exact hpa, by rw [gI_ne (by omega), a2.2.2.1 _ _ (by unfold Sd; omega), gI_at]⟩
        · rw [if_neg e, if_neg e, ne _ _ (by omega) (by omega) (by unfold Sd; omega), ne _ _ (by omega) (by omega) (by unfold Sd; omega)]
          exact b4 j (by omega)
      · rw [ne 177 i (by omega) (by omega) (by unfold Sd; omega), ne 178 i (by omega) (by omega) (by unfold Sd; omega), ne 179 i (by omega) (by omega) (by unfold Sd; omega), ne 180 i (by omega) (by omega) (by unfold Sd; omega), ne 181 i (by omega) (by omega) (by unfold Sd; omega), ne 186 _ (by omega) (by omega) (by unfold Sd; omega), ne 182 i (by omega) (by omega) (by unfold Sd; omega), ne 183 i (by omega) (by omega) (by unfold Sd; omega), mkB_x _ _ _ _ _ (by omega), mkB_x _ _ _ _ _ (by omega), mkB_x _ _ _ _ _ (by omega), mkB_x _ _ _ _ _ (by omega), mkB_x _ _ _ _ _ (by omega), mkB_x _ _ _ _ _ (by omega), mkB_x _ _ _ _ _ (by omega), mkB_x _ _ _ _ _ (by omega)]
        exact b5 i hi
      · exact SAI_at (b6 l hl) (ne _ _ (by omega) (by omega) (by unfold Sd; omega)) (fun i _ => ne _ _ (by omega) (by omega) (by unfold Sd; omega))
      · exact SAI_at (b7 i hi) (ne _ _ (by omega) (by omega) (by unfold Sd; omega)) (fun i _ => ne _ _ (by omega) (by omega) (by unfold Sd; omega))
