/-! ===== the machine's equation ===== -/
def Cps (n : Nat) (f : Ct → Oo) : Prop := (∀ k, f k = none) ∨ ∃ ls st M, n ≤ gN M ∧ ∀ k : Ct, f k = k ls st M
def Cpb (N : Mm) (f : (Nat → Ct) → Oo) : Prop := (∀ k, f k = none) ∨ ∃ t ls st, ∀ k : Nat → Ct, f k = k t ls st N
theorem cps_none {n : Nat} : Cps n (fun _ => none) := Or.inl fun _ => rfl
theorem cps_k {n : Nat} (ls st : List Value) (M : Mm) (h : n ≤ gN M) : Cps n (fun k => k ls st M) := Or.inr ⟨ls, st, M, h, fun _ => rfl⟩
theorem cps_w {n : Nat} {f : Ct → Oo} (h : Cps n f) : Cps 0 f := h.elim Or.inl fun ⟨ls, st, M, _, hk⟩ => Or.inr ⟨ls, st, M, Nat.zero_le _, hk⟩
theorem cps_ite {n : Nat} {c : Prop} [Decidable c] {f g : Ct → Oo} (hf : Cps n f) (hg : Cps n g) : Cps n (fun k => if c then f k else g k) := by
  by_cases h : c
  · rw [show (fun k => if c then f k else g k) = f from funext fun k => if_pos h]; exact hf
  · rw [show (fun k => if c then f k else g k) = g from funext fun k => if_neg h]; exact hg
theorem cps_cond {n : Nat} {c : Bool} {f g : Ct → Oo} (hf : Cps n f) (hg : Cps n g) : Cps n (fun k => bif c then f k else g k) := by
  cases c
  · exact hg
  · exact hf
theorem cps_p1i {n : Nat} {st : List Value} {f : Int32 → List Value → Ct → Oo} (h : ∀ x t, Cps n (f x t)) : Cps n (fun k => p1i st fun x t => f x t k) := by
  unfold p1i
  split
  · exact h _ _
  · exact cps_none
theorem cps_p1l {n : Nat} {st : List Value} {f : Int64 → List Value → Ct → Oo} (h : ∀ x t, Cps n (f x t)) : Cps n (fun k => p1l st fun x t => f x t k) := by
  unfold p1l
  split
  · exact h _ _
  · exact cps_none
theorem cps_p1r {n : Nat} {st : List Value} {f : Nat → List Value → Ct → Oo} (h : ∀ x t, Cps n (f x t)) : Cps n (fun k => p1r st fun x t => f x t k) := by
  unfold p1r
  split
  · exact h _ _
  · exact cps_none
theorem cps_lvi {n : Nat} {ls : List Value} {i : Nat} {f : Int32 → Ct → Oo} (h : ∀ x, Cps n (f x)) : Cps n (fun k => lvi ls i fun x => f x k) := by
  unfold lvi
  split
  · exact h _
  · exact cps_none
theorem cps_lvl {n : Nat} {ls : List Value} {i : Nat} {f : Int64 → Ct → Oo} (h : ∀ x, Cps n (f x)) : Cps n (fun k => lvl ls i fun x => f x k) := by
  unfold lvl
  split
  · exact h _
  · exact cps_none
theorem cps_lvr {n : Nat} {ls : List Value} {i : Nat} {f : Nat → Ct → Oo} (h : ∀ x, Cps n (f x)) : Cps n (fun k => lvr ls i fun x => f x k) := by
  unfold lvr
  split
  · exact h _
  · exact cps_none
theorem cps_bV {n : Nat} {o : Oo} {f : Mm → Ct → Oo} (h : ∀ M, o = some (none, M) → Cps n (f M)) : Cps n (fun k => bV o fun M => f M k) := by
  unfold bV
  split
  · exact h _ rfl
  · exact cps_none
theorem cps_bI {n : Nat} {o : Oo} {f : Int32 → Mm → Ct → Oo} (h : ∀ x M, o = some (some (.int x), M) → Cps n (f x M)) : Cps n (fun k => bI o fun x M => f x M k) := by
  unfold bI
  split
  · exact h _ _ rfl
  · exact cps_none
theorem cps_bL {n : Nat} {o : Oo} {f : Int64 → Mm → Ct → Oo} (h : ∀ x M, o = some (some (.long x), M) → Cps n (f x M)) : Cps n (fun k => bL o fun x M => f x M k) := by
  unfold bL
  split
  · exact h _ _ rfl
  · exact cps_none
theorem sA_cps (i : Instr) (a b c : Nat) (ls st : List Value) (M : Mm) : Cps (gN M) (fun k => sA i a b c ls st M k) := by
  unfold sA
  split <;> (try split) <;> repeat (first
    | exact cps_none
    | exact cps_k _ _ _ (Nat.le_refl _)
    | exact cps_k _ _ _ (Nat.le_succ _)
    | apply cps_ite
    | apply cps_cond
    | (apply cps_p1i; intro x t)
    | (apply cps_p1l; intro x t)
    | (apply cps_p1r; intro x t)
    | (apply cps_lvi; intro x)
    | (apply cps_lvl; intro x)
    | (apply cps_lvr; intro x))
theorem sB_cps (i : Instr) (ls st : List Value) (M : Mm) : Cps (gN M) (fun k => sB i ls st M k) := by
  unfold sB
  simp only [p2i, p2l, pli]
  split <;> repeat (first
    | exact cps_none
    | exact cps_k _ _ _ (Nat.le_refl _)
    | exact cps_k _ _ _ (Nat.le_succ _)
    | apply cps_ite
    | apply cps_cond
    | (apply cps_p1i; intro x t)
    | (apply cps_p1l; intro x t))
theorem sC_cps (i : Instr) (a b : Nat) (ls st : List Value) (M : Mm) : Cps (gN M) (fun k => sC i a b ls st M k) := by
  unfold sC
  simp only [pri]
  split <;> (try split) <;> repeat (first
    | exact cps_none
    | exact cps_k _ _ _ (Nat.le_refl _)
    | exact cps_k _ _ _ (Nat.le_succ _)
    | apply cps_ite
    | apply cps_cond
    | (apply cps_p1i; intro x t)
    | (apply cps_p1l; intro x t)
    | (apply cps_p1r; intro x t)
    | split)
theorem clK_cps (K : Kk) {n : Nat} (a : Nat) (as ls t : List Value) (M : Mm) (hK : ∀ a as r, K a as M = some r → n ≤ gN r.2) : Cps n (fun k => clK K a as ls t M k) := by
  unfold clK
  apply cps_cond
  · split
    · apply cps_bV; intro M1 h1; exact cps_k _ _ _ (hK _ _ _ h1)
    · apply cps_bL; intro x M1 h1; exact cps_k _ _ _ (hK _ _ _ h1)
    · apply cps_bI; intro x M1 h1; exact cps_k _ _ _ (hK _ _ _ h1)
  · exact cps_none
theorem cpy_cps {n : Nat} (as ls t : List Value) (M : Mm) (hn : n ≤ gN M) : Cps n (fun k => cpy as M fun M1 => k ls t M1) := by
  unfold cpy
  split
  · apply cps_ite
    · apply cps_ite
      · exact cps_k _ _ _ hn
      · apply cps_ite
        · exact cps_k _ _ _ hn
        · exact cps_none
    · exact cps_none
  · exact cps_none
theorem cll_cps (K : Kk) {n : Nat} (i : Instr) (a : Nat) (ls st : List Value) (M : Mm) (hn : n ≤ gN M) (hK : ∀ a as r, K a as M = some r → n ≤ gN r.2) : Cps n (fun k => cll K i a ls st M k) := by
  unfold cll
  split
  · exact cps_none
  · apply cps_cond
    · split
      · apply cps_cond
        · apply cps_cond
          · exact cpy_cps _ _ _ _ hn
          · exact clK_cps _ _ _ _ _ _ hK
        · exact cps_none
      · apply cps_cond
        · exact cps_none
        · split
          · apply cps_cond
            · exact cps_ite (clK_cps _ _ _ _ _ _ hK) cps_none
            · exact cps_ite (clK_cps _ _ _ _ _ _ hK) cps_none
          · exact cps_none
      · apply cps_cond
        · exact cps_none
        · split
          · apply cps_ite
            · apply cps_cond
              · exact cps_k _ _ _ hn
              · exact clK_cps _ _ _ _ _ _ hK
            · exact cps_none
          · exact cps_none
      · exact cps_none
    · exact cps_none
theorem cpb_none {N : Mm} : Cpb N (fun _ => none) := Or.inl fun _ => rfl
theorem cpb_gon (o : Int) (ls st : List Value) (M : Mm) : Cpb M (fun k => gon (fun t => k t ls st M) o) := by
  unfold gon
  split
  · exact Or.inr ⟨_, ls, st, fun _ => rfl⟩
  · exact cpb_none
theorem cpb_gonf {N : Mm} {o : Int} {f : Nat → (Nat → Ct) → Oo} (h : ∀ t, Cpb N (f t)) : Cpb N (fun k => gon (fun t => f t k) o) := by
  unfold gon
  split
  · exact h _
  · exact cpb_none
theorem cpb_k (t : Nat) (ls st : List Value) (M : Mm) : Cpb M (fun k => k t ls st M) := Or.inr ⟨t, ls, st, fun _ => rfl⟩
theorem cpb_ite {N : Mm} {c : Prop} [Decidable c] {f g : (Nat → Ct) → Oo} (hf : Cpb N f) (hg : Cpb N g) : Cpb N (fun k => if c then f k else g k) := by
  by_cases h : c
  · rw [show (fun k => if c then f k else g k) = f from funext fun k => if_pos h]; exact hf
  · rw [show (fun k => if c then f k else g k) = g from funext fun k => if_neg h]; exact hg
theorem cpb_p1i {N : Mm} {st : List Value} {f : Int32 → List Value → (Nat → Ct) → Oo} (h : ∀ x t, Cpb N (f x t)) : Cpb N (fun k => p1i st fun x t => f x t k) := by
  unfold p1i
  split
  · exact h _ _
  · exact cpb_none
theorem cpb_cz {N : Mm} {cd : Jvm.ClassFile.Cond} {x : Int32} {f g : (Nat → Ct) → Oo} (hf : Cpb N f) (hg : Cpb N g) : Cpb N (fun k => cz cd x (f k) (g k)) := by
  unfold cz
  split <;> apply cpb_ite <;> assumption
theorem cpb_cc2 {N : Mm} {cd : Jvm.ClassFile.Cond} {x y : Int32} {f g : (Nat → Ct) → Oo} (hf : Cpb N f) (hg : Cpb N g) : Cpb N (fun k => cc2 cd x y (f k) (g k)) := by
  unfold cc2
  split <;> apply cpb_ite <;> assumption
theorem cpb_swt {N : Mm} {x : Int32} {f : (Nat → Ct) → Oo} {g : Int → (Nat → Ct) → Oo} (hf : Cpb N f) (hg : ∀ o, Cpb N (g o)) : ∀ l : List (Int × Int), Cpb N (fun k => swt x (f k) (fun o => g o k) l)
  | [] => hf
  | (v, o) :: r => by
    show Cpb N (fun k => if x = Int32.ofInt v then g o k else swt x (f k) (fun o => g o k) r)
    exact cpb_ite (hg o) (cpb_swt hf hg r)
theorem brn_cps (i : Instr) (pc : Nat) (ls st : List Value) (M : Mm) : Cpb M (fun k => brn i pc ls st M k) := by
  unfold brn
  simp only [p2i]
  split
  · exact cpb_gon _ _ _ _
  · apply cpb_gonf; intro z; apply cpb_p1i; intro x t; exact cpb_cz (cpb_k _ _ _ _) (cpb_k _ _ _ _)
  · apply cpb_gonf; intro z; apply cpb_p1i; intro x t; apply cpb_p1i; intro y u; exact cpb_cc2 (cpb_k _ _ _ _) (cpb_k _ _ _ _)
  · apply cpb_p1i; intro x t; exact cpb_swt (cpb_gon _ _ _ _) (fun o => cpb_gon _ _ _ _) _
  · apply cpb_p1i; intro x t; exact cpb_swt (cpb_gon _ _ _ _) (fun o => cpb_gon _ _ _ _) _
  · exact cpb_none
/-- a stretch has a fixed answer, or goes on at a fixed cut -/
def Tail (f : Gg → Oo) : Prop := (∃ o, ∀ G, f G = o) ∨ ∃ t ls st M, ∀ G : Gg, f G = G t ls st M
theorem tail_of {cu : List Nat} {e : Gg → Nat → Ct} (he : ∀ t ls st M, Tail (fun G => e G t ls st M)) (t : Nat) (ls st : List Value) (M : Mm) : Tail (fun G => bif mem cu t then G t ls st M else e G t ls st M) := by
  cases h : mem cu t
  · exact he t ls st M
  · exact Or.inr ⟨t, ls, st, M, fun G => rfl⟩
theorem tail_cps {cu : List Nat} {e : Gg → Nat → Ct} (he : ∀ t ls st M, Tail (fun G => e G t ls st M)) (t : Nat) {f : Ct → Oo} (hf : Cps 0 f) : Tail (fun G => f fun ls st M => bif mem cu t then G t ls st M else e G t ls st M) := by
  rcases hf with hn | ⟨ls, st, M, -, hk⟩
  · exact Or.inl ⟨none, fun G => hn _⟩
  · have h := tail_of (cu := cu) he t ls st M
    simp only [hk]
    exact h
theorem tail_cpb {cu : List Nat} {e : Gg → Nat → Ct} (he : ∀ t ls st M, Tail (fun G => e G t ls st M)) {N : Mm} {f : (Nat → Ct) → Oo} (hf : Cpb N f) : Tail (fun G => f fun t ls st M => bif mem cu t then G t ls st M else e G t ls st M) := by
  rcases hf with hn | ⟨t, ls, st, hk⟩
  · exact Or.inl ⟨none, fun G => hn _⟩
  · have h := tail_of (cu := cu) he t ls st N
    simp only [hk]
    exact h
theorem ev_tail (K : Kk) (rt : Nat) (cu : List Nat) (tb : List (Nat × En)) : ∀ (f pc : Nat) (ls st : List Value) (M : Mm), Tail (fun G => ev K G rt cu tb f pc ls st M) := by
  intro f
  induction f with
  | zero => intro pc ls st M; exact Or.inl ⟨none, fun _ => rfl⟩
  | succ f ih =>
    intro pc ls st M
    unfold ev
    split
    · exact Or.inl ⟨none, fun _ => rfl⟩
    · split
      · exact tail_cps (e := fun G t ls st M => ev K G rt cu tb f t ls st M) ih _ (cps_w (sA_cps _ _ _ _ _ _ _))
      · exact tail_cps (e := fun G t ls st M => ev K G rt cu tb f t ls st M) ih _ (cps_w (sB_cps _ _ _ _))
      · exact tail_cps (e := fun G t ls st M => ev K G rt cu tb f t ls st M) ih _ (cps_w (sC_cps _ _ _ _ _ _))
      · exact tail_cps (e := fun G t ls st M => ev K G rt cu tb f t ls st M) ih _ (cll_cps K _ _ _ _ _ (Nat.zero_le _) (fun _ _ _ _ => Nat.zero_le _))
      · exact Or.inl ⟨_, fun _ => rfl⟩
      · exact tail_cpb (e := fun G t ls st M => ev K G rt cu tb f t ls st M) ih (brn_cps _ _ _ _ _)
theorem it_up (K : Kk) : ∀ (n mi pc : Nat) (ls st : List Value) (M : Mm) (r : Option Value × Mm), itK K n mi pc ls st M = some r → itK K (n + 1) mi pc ls st M = some r := by
  intro n
  induction n with
  | zero => intro mi pc ls st M r h; cases h
  | succ n ih =>
    intro mi pc ls st M r h
    show ev K (itK K (n + 1) mi) (RT mi) (CU mi) (TB mi) 300 pc ls st M = some r
    have h : ev K (itK K n mi) (RT mi) (CU mi) (TB mi) 300 pc ls st M = some r := h
    rcases ev_tail K (RT mi) (CU mi) (TB mi) 300 pc ls st M with ⟨o, ho⟩ | ⟨t, ls', st', M', ho⟩
    · dsimp only at ho; rw [ho] at h ⊢; exact h
    · dsimp only at ho; rw [ho] at h ⊢; exact ih _ _ _ _ _ _ h
theorem it_le (K : Kk) {n n' mi pc : Nat} {ls st : List Value} {M : Mm} {r : Option Value × Mm} (hn : n ≤ n') (h : itK K n mi pc ls st M = some r) : itK K n' mi pc ls st M = some r := by
  induction hn with
  | refl => exact h
  | step _ ih => exact it_up K _ _ _ _ _ _ _ ih
theorem lm_inv {f : Nat → Oo} {r : Option Value × Mm} (h : lmO f = some r) : ∃ n, f n = some r := by
  unfold lmO at h
  split at h
  · exact ⟨_, h⟩
  · cases h
theorem lm_some {f : Nat → Oo} (hf : ∀ n n' r, n ≤ n' → f n = some r → f n' = some r) {n : Nat} {r : Option Value × Mm} (h : f n = some r) : lmO f = some r := by
  have hx : ∃ n r, f n = some r := ⟨n, r, h⟩
  unfold lmO
  rw [dif_pos hx]
  obtain ⟨r', h'⟩ := Classical.choose_spec hx
  have h1 := hf _ _ _ (Nat.le_max_left n (Classical.choose hx)) h
  have h2 := hf _ _ _ (Nat.le_max_right n (Classical.choose hx)) h'
  rw [h1] at h2
  rw [h', h2]
theorem go_it {d mi pc : Nat} {ls st : List Value} {M : Mm} {r : Option Value × Mm} : go (d + 1) mi pc ls st M = some r ↔ ∃ n, itK (fun a as M => go d a 0 as [] M) n mi pc ls st M = some r :=
  ⟨fun h => lm_inv h, fun ⟨_, h⟩ => lm_some (fun _ _ _ hn h => it_le _ hn h) h⟩
theorem go_eq (d mi pc : Nat) (ls st : List Value) (M : Mm) : go (d + 1) mi pc ls st M = ev (fun a as M => go d a 0 as [] M) (go (d + 1) mi) (RT mi) (CU mi) (TB mi) 300 pc ls st M := by
  apply Option.ext
  intro r
  rw [go_it]
  constructor
  · rintro ⟨n, h⟩
    cases n with
    | zero => cases h
    | succ n =>
      have h : ev (fun a as M => go d a 0 as [] M) (itK (fun a as M => go d a 0 as [] M) n mi) (RT mi) (CU mi) (TB mi) 300 pc ls st M = some r := h
      rcases ev_tail (fun a as M => go d a 0 as [] M) (RT mi) (CU mi) (TB mi) 300 pc ls st M with ⟨o, ho⟩ | ⟨t, ls', st', M', ho⟩
      · dsimp only at ho; rw [ho] at h ⊢; exact h
      · dsimp only at ho; rw [ho] at h ⊢; exact go_it.mpr ⟨n, h⟩
  · intro h
    rcases ev_tail (fun a as M => go d a 0 as [] M) (RT mi) (CU mi) (TB mi) 300 pc ls st M with ⟨o, ho⟩ | ⟨t, ls', st', M', ho⟩
    · dsimp only at ho
      refine ⟨1, ?_⟩
      show ev _ (itK _ 0 mi) (RT mi) (CU mi) (TB mi) 300 pc ls st M = some r
      rw [ho] at h ⊢; exact h
    · dsimp only at ho
      rw [ho] at h
      obtain ⟨n, hn⟩ := go_it.mp h
      refine ⟨n + 1, ?_⟩
      show ev _ (itK _ n mi) (RT mi) (CU mi) (TB mi) 300 pc ls st M = some r
      rw [ho]; exact hn
theorem cond_inv0 {c : Bool} {x : Oo} {r : Option Value × Mm} (h : (bif c then x else none) = some r) : c = true ∧ x = some r := by
  cases c
  · cases h
  · exact ⟨rfl, h⟩
/-- nothing is taken away -/
theorem ev_mono (K : Kk) (hK : ∀ a as M r, K a as M = some r → gN M ≤ gN r.2) (G : Gg) (r : Option Value × Mm) (hG : ∀ t ls st M, G t ls st M = some r → gN M ≤ gN r.2) (rt : Nat) (cu : List Nat) (tb : List (Nat × En)) : ∀ (f pc : Nat) (ls st : List Value) (M : Mm), ev K G rt cu tb f pc ls st M = some r → gN M ≤ gN r.2 := by
  intro f
  induction f with
  | zero => intro pc ls st M h; cases h
  | succ f ih =>
    intro pc ls st M h
    have nx : ∀ t ls st M, (bif mem cu t then G t ls st M else ev K G rt cu tb f t ls st M) = some r → gN M ≤ gN r.2 := by
      intro t ls st M h
      cases hc : mem cu t
      · rw [hc] at h; exact ih _ _ _ _ h
      · rw [hc] at h; exact hG _ _ _ _ h
    have cp : ∀ {g : Ct → Oo} {t : Nat}, Cps (gN M) g → g (fun ls st M => bif mem cu t then G t ls st M else ev K G rt cu tb f t ls st M) = some r → gN M ≤ gN r.2 := by
      intro g t hg h
      rcases hg with hn | ⟨ls', st', M', hle, hk⟩
      · rw [hn] at h; cases h
      · rw [hk] at h; exact Nat.le_trans hle (nx _ _ _ _ h)
    have cpb : ∀ {g : (Nat → Ct) → Oo}, Cpb M g → g (fun t ls st M => bif mem cu t then G t ls st M else ev K G rt cu tb f t ls st M) = some r → gN M ≤ gN r.2 := by
      intro g hg h
      rcases hg with hn | ⟨t, ls', st', hk⟩
      · rw [hn] at h; cases h
      · rw [hk] at h; exact nx _ _ _ _ h
    unfold ev at h
    split at h
    · cases h
    · split at h
      · exact cp (sA_cps _ _ _ _ _ _ _) h
      · exact cp (sB_cps _ _ _ _) h
      · exact cp (sC_cps _ _ _ _ _ _) h
      · exact cp (cll_cps K _ _ _ _ _ (Nat.le_refl _) (fun a as r h => hK a as M r h)) h
      · unfold rtn at h
        repeat' (first
          | (cases h; done)
          | (cases h; exact Nat.le_refl _)
          | split at h
          | (obtain ⟨-, h⟩ := cond_inv0 h))
      · exact cpb (brn_cps _ _ _ _ _) h
theorem it_mono (K : Kk) (hK : ∀ a as M r, K a as M = some r → gN M ≤ gN r.2) : ∀ (n mi pc : Nat) (ls st : List Value) (M : Mm) (r : Option Value × Mm), itK K n mi pc ls st M = some r → gN M ≤ gN r.2 := by
  intro n
  induction n with
  | zero => intro mi pc ls st M r h; cases h
  | succ n ih => intro mi pc ls st M r h; exact ev_mono K hK (itK K n mi) r (fun t ls st M h => ih mi t ls st M r h) (RT mi) (CU mi) (TB mi) 300 pc ls st M h
theorem go_mono : ∀ (d mi pc : Nat) (ls st : List Value) (M : Mm) (r : Option Value × Mm), go d mi pc ls st M = some r → gN M ≤ gN r.2 := by
  intro d
  induction d with
  | zero => intro mi pc ls st M r h; cases h
  | succ d ih =>
    intro mi pc ls st M r h
    obtain ⟨n, hn⟩ := go_it.mp h
    exact it_mono _ (fun a as M r h => ih a 0 as [] M r h) n mi pc ls st M r hn
