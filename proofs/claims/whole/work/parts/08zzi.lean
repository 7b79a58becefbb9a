/-! ===== what lies outside is not touched ===== -/
def Fx (M N : Mm) : Prop := ∀ r, 1000 ≤ r → gI N r = gI M r ∧ gL N r = gL M r ∧ gR N r = gR M r
theorem Fx_refl (M : Mm) : Fx M M := fun _ _ => ⟨rfl, rfl, rfl⟩
theorem Fx_trans {M N O : Mm} (h : Fx M N) (g : Fx N O) : Fx M O := fun r hr => ⟨(g r hr).1.trans (h r hr).1, (g r hr).2.1.trans (h r hr).2.1, (g r hr).2.2.trans (h r hr).2.2⟩
theorem Fx_sN (M : Mm) : Fx M (sN M) := fun _ _ => ⟨rfl, rfl, rfl⟩
theorem Fx_sI {M : Mm} {a k : Nat} {v : Int32} (h : a < 1000) : Fx M (sI M a k v) := fun r hr => ⟨by funext j; show (if r = a ∧ j = k then v else gI M r j) = gI M r j; rw [if_neg (by omega)], rfl, rfl⟩
theorem Fx_sZ {M : Mm} {a k : Nat} {v : Int32} (h : a < 1000) : Fx M (sZ M a k v) := Fx_sI h
theorem Fx_sL {M : Mm} {a k : Nat} {v : Int64} (h : a < 1000) : Fx M (sL M a k v) := fun r hr => ⟨rfl, by funext j; show (if r = a ∧ j = k then v else gL M r j) = gL M r j; rw [if_neg (by omega)], rfl⟩
theorem Fx_sR {M : Mm} {a k v : Nat} (h : a < 1000) : Fx M (sR M a k v) := fun r hr => ⟨rfl, rfl, by funext j; show (if r = a ∧ j = k then v else gR M r j) = gR M r j; rw [if_neg (by omega)]⟩
theorem Fx_cI {M : Mm} {a sp b dp n : Nat} (h : b < 1000) : Fx M (cI M a sp b dp n) := fun r hr => ⟨by show (if r = b then va_cpy (M.2.1 a) (M.2.1 b) sp dp n else M.2.1 r) = gI M r; rw [if_neg (by omega)]; rfl, rfl, rfl⟩
theorem Fx_cL {M : Mm} {a sp b dp n : Nat} (h : b < 1000) : Fx M (cL M a sp b dp n) := fun r hr => ⟨rfl, by show (if r = b then va_cpy (M.2.2.1 a) (M.2.2.1 b) sp dp n else M.2.2.1 r) = gL M r; rw [if_neg (by omega)]; rfl, rfl⟩
theorem blt_lt {a b : Nat} (h : Nat.blt a b = true) : a < b := Nat.le_of_ble_eq_true h
theorem okO_lt {M : Mm} {r c : Nat} (h : okO M r c = true) : r < 1000 := by
  simp only [okO, Bool.and_eq_true] at h
  exact blt_lt h.1.2
theorem wOK_lt {M : Mm} {r t : Nat} {i : Int32} (h : wOK M r t i = true) : r < 1000 := by
  simp only [wOK, Bool.and_eq_true] at h
  exact blt_lt h.1.2
theorem wB_lt {M : Mm} {r : Nat} {i : Int32} (h : wB M r i = true) : r < 1000 := by
  simp only [wB, Bool.or_eq_true] at h
  exact h.elim wOK_lt wOK_lt
theorem wQ_lt {M : Mm} {r x : Nat} {i : Int32} (h : wQ M r i x = true) : r < 1000 := by
  simp only [wQ, Bool.or_eq_true, Bool.and_eq_true] at h
  exact h.elim (fun z => z.elim (fun y => wOK_lt y.1) (fun y => wOK_lt y.1)) (fun y => wOK_lt y.1)
theorem cpB_lt {s t : Nat} {sp dp n : Int32} (h : cpB s t sp dp n = true) : t < 1000 := by
  simp only [cpB, Bool.and_eq_true] at h
  exact blt_lt h.1.1.2
def Cpf (M : Mm) (f : Ct → Oo) : Prop := (∀ k, f k = none) ∨ ∃ ls st N, Fx M N ∧ ∀ k : Ct, f k = k ls st N
theorem cpf_none {M : Mm} : Cpf M (fun _ => none) := Or.inl fun _ => rfl
theorem cpf_k {M : Mm} (ls st : List Value) (N : Mm) (h : Fx M N) : Cpf M (fun k => k ls st N) := Or.inr ⟨ls, st, N, h, fun _ => rfl⟩
theorem cpf_ite {M : Mm} {c : Prop} [Decidable c] {f g : Ct → Oo} (hf : c → Cpf M f) (hg : Cpf M g) : Cpf M (fun k => if c then f k else g k) := by
  by_cases h : c
  · rw [show (fun k => if c then f k else g k) = f from funext fun k => if_pos h]; exact hf h
  · rw [show (fun k => if c then f k else g k) = g from funext fun k => if_neg h]; exact hg
theorem cpf_cond {M : Mm} {c : Bool} {f g : Ct → Oo} (hf : Cpf M f) (hg : Cpf M g) : Cpf M (fun k => bif c then f k else g k) := by
  cases c
  · exact hg
  · exact hf
theorem cpf_p1i {M : Mm} {st : List Value} {f : Int32 → List Value → Ct → Oo} (h : ∀ x t, Cpf M (f x t)) : Cpf M (fun k => p1i st fun x t => f x t k) := by
  unfold p1i
  split
  · exact h _ _
  · exact cpf_none
theorem cpf_p1l {M : Mm} {st : List Value} {f : Int64 → List Value → Ct → Oo} (h : ∀ x t, Cpf M (f x t)) : Cpf M (fun k => p1l st fun x t => f x t k) := by
  unfold p1l
  split
  · exact h _ _
  · exact cpf_none
theorem cpf_p1r {M : Mm} {st : List Value} {f : Nat → List Value → Ct → Oo} (h : ∀ x t, Cpf M (f x t)) : Cpf M (fun k => p1r st fun x t => f x t k) := by
  unfold p1r
  split
  · exact h _ _
  · exact cpf_none
theorem cpf_lvi {M : Mm} {ls : List Value} {i : Nat} {f : Int32 → Ct → Oo} (h : ∀ x, Cpf M (f x)) : Cpf M (fun k => lvi ls i fun x => f x k) := by
  unfold lvi
  split
  · exact h _
  · exact cpf_none
theorem cpf_lvl {M : Mm} {ls : List Value} {i : Nat} {f : Int64 → Ct → Oo} (h : ∀ x, Cpf M (f x)) : Cpf M (fun k => lvl ls i fun x => f x k) := by
  unfold lvl
  split
  · exact h _
  · exact cpf_none
theorem cpf_lvr {M : Mm} {ls : List Value} {i : Nat} {f : Nat → Ct → Oo} (h : ∀ x, Cpf M (f x)) : Cpf M (fun k => lvr ls i fun x => f x k) := by
  unfold lvr
  split
  · exact h _
  · exact cpf_none
theorem sA_cpf (i : Instr) (a b c : Nat) (ls st : List Value) (M : Mm) : Cpf M (fun k => sA i a b c ls st M k) := by
  unfold sA
  split <;> (try split) <;> repeat (first
    | exact cpf_none
    | exact cpf_k _ _ _ (Fx_refl _)
    | refine cpf_ite (fun _ => ?_) ?_
    | apply cpf_cond
    | (apply cpf_p1i; intro x t)
    | (apply cpf_p1l; intro x t)
    | (apply cpf_p1r; intro x t)
    | (apply cpf_lvi; intro x)
    | (apply cpf_lvl; intro x)
    | (apply cpf_lvr; intro x))
theorem sB_cpf (i : Instr) (ls st : List Value) (M : Mm) : Cpf M (fun k => sB i ls st M k) := by
  unfold sB
  simp only [p2i, p2l, pli]
  split <;> repeat (first
    | exact cpf_none
    | exact cpf_k _ _ _ (Fx_refl _)
    | refine cpf_ite (fun _ => ?_) ?_
    | apply cpf_cond
    | (apply cpf_p1i; intro x t)
    | (apply cpf_p1l; intro x t))
theorem sC_cpf (i : Instr) (a b : Nat) (ls st : List Value) (M : Mm) : Cpf M (fun k => sC i a b ls st M k) := by
  unfold sC
  simp only [pri]
  split <;> (try split) <;> repeat (first
    | exact cpf_none
    | exact cpf_k _ _ _ (Fx_refl _)
    | exact cpf_k _ _ _ (Fx_sN _)
    | exact cpf_k _ _ _ (Fx_sI (okO_lt (by assumption)))
    | exact cpf_k _ _ _ (Fx_sI (wOK_lt (by assumption)))
    | exact cpf_k _ _ _ (Fx_sZ (wB_lt (by assumption)))
    | exact cpf_k _ _ _ (Fx_sL (wOK_lt (by assumption)))
    | exact cpf_k _ _ _ (Fx_sR (okO_lt (by assumption)))
    | exact cpf_k _ _ _ (Fx_sR (wQ_lt (by assumption)))
    | refine cpf_ite (fun hc => ?_) ?_
    | apply cpf_cond
    | (apply cpf_p1i; intro x t)
    | (apply cpf_p1l; intro x t)
    | (apply cpf_p1r; intro x t)
    | split)
theorem clK_cpf (K : Kk) (a : Nat) (as ls t : List Value) (M : Mm) (hK : ∀ a as r, K a as M = some r → Fx M r.2) : Cpf M (fun k => clK K a as ls t M k) := by
  unfold clK
  apply cpf_cond
  · split
    · unfold bV
      split
      · rename_i h1; exact cpf_k _ _ _ (hK _ _ _ h1)
      · exact cpf_none
    · unfold bL
      split
      · rename_i h1; exact cpf_k _ _ _ (hK _ _ _ h1)
      · exact cpf_none
    · unfold bI
      split
      · rename_i h1; exact cpf_k _ _ _ (hK _ _ _ h1)
      · exact cpf_none
  · exact cpf_none
theorem cpy_cpf (as ls t : List Value) (M : Mm) : Cpf M (fun k => cpy as M fun M1 => k ls t M1) := by
  unfold cpy
  split
  · refine cpf_ite (fun hc => ?_) cpf_none
    refine cpf_ite (fun _ => cpf_k _ _ _ (Fx_cI (cpB_lt hc))) ?_
    exact cpf_ite (fun _ => cpf_k _ _ _ (Fx_cL (cpB_lt hc))) cpf_none
  · exact cpf_none
theorem cll_cpf (K : Kk) (i : Instr) (a : Nat) (ls st : List Value) (M : Mm) (hK : ∀ a as r, K a as M = some r → Fx M r.2) : Cpf M (fun k => cll K i a ls st M k) := by
  unfold cll
  split
  · exact cpf_none
  · apply cpf_cond
    · split
      · apply cpf_cond
        · apply cpf_cond
          · exact cpy_cpf _ _ _ _
          · exact clK_cpf _ _ _ _ _ _ hK
        · exact cpf_none
      · apply cpf_cond
        · exact cpf_none
        · split
          · apply cpf_cond
            · exact cpf_ite (fun _ => clK_cpf _ _ _ _ _ _ hK) cpf_none
            · exact cpf_ite (fun _ => clK_cpf _ _ _ _ _ _ hK) cpf_none
          · exact cpf_none
      · apply cpf_cond
        · exact cpf_none
        · split
          · refine cpf_ite (fun _ => ?_) cpf_none
            apply cpf_cond
            · exact cpf_k _ _ _ (Fx_refl _)
            · exact clK_cpf _ _ _ _ _ _ hK
          · exact cpf_none
      · exact cpf_none
    · exact cpf_none
theorem ev_fx (K : Kk) (hK : ∀ a as M r, K a as M = some r → Fx M r.2) (G : Gg) (r : Option Value × Mm) (hG : ∀ t ls st M, G t ls st M = some r → Fx M r.2) (rt : Nat) (cu : List Nat) (tb : List (Nat × En)) : ∀ (f pc : Nat) (ls st : List Value) (M : Mm), ev K G rt cu tb f pc ls st M = some r → Fx M r.2 := by
  intro f
  induction f with
  | zero => intro pc ls st M h; cases h
  | succ f ih =>
    intro pc ls st M h
    have nx : ∀ t ls st M, (bif mem cu t then G t ls st M else ev K G rt cu tb f t ls st M) = some r → Fx M r.2 := by
      intro t ls st M h
      cases hc : mem cu t
      · rw [hc] at h; exact ih _ _ _ _ h
      · rw [hc] at h; exact hG _ _ _ _ h
    have cp : ∀ {g : Ct → Oo} {t : Nat}, Cpf M g → g (fun ls st M => bif mem cu t then G t ls st M else ev K G rt cu tb f t ls st M) = some r → Fx M r.2 := by
      intro g t hg h
      rcases hg with hn | ⟨ls', st', M', hle, hk⟩
      · rw [hn] at h; cases h
      · rw [hk] at h; exact Fx_trans hle (nx _ _ _ _ h)
    have cpb : ∀ {g : (Nat → Ct) → Oo}, Cpb M g → g (fun t ls st M => bif mem cu t then G t ls st M else ev K G rt cu tb f t ls st M) = some r → Fx M r.2 := by
      intro g hg h
      rcases hg with hn | ⟨t, ls', st', hk⟩
      · rw [hn] at h; cases h
      · rw [hk] at h; exact nx _ _ _ _ h
    unfold ev at h
    split at h
    · cases h
    · split at h
      · exact cp (sA_cpf _ _ _ _ _ _ _) h
      · exact cp (sB_cpf _ _ _ _) h
      · exact cp (sC_cpf _ _ _ _ _ _) h
      · exact cp (cll_cpf K _ _ _ _ _ (fun a as r h => hK a as M r h)) h
      · unfold rtn at h
        repeat' (first
          | (cases h; done)
          | (cases h; exact Fx_refl _)
          | split at h
          | (obtain ⟨-, h⟩ := cond_inv0 h))
      · exact cpb (brn_cps _ _ _ _ _) h
theorem it_fx (K : Kk) (hK : ∀ a as M r, K a as M = some r → Fx M r.2) : ∀ (n mi pc : Nat) (ls st : List Value) (M : Mm) (r : Option Value × Mm), itK K n mi pc ls st M = some r → Fx M r.2 := by
  intro n
  induction n with
  | zero => intro mi pc ls st M r h; cases h
  | succ n ih => intro mi pc ls st M r h; exact ev_fx K hK (itK K n mi) r (fun t ls st M h => ih mi t ls st M r h) (RT mi) (CU mi) (TB mi) 300 pc ls st M h
theorem go_fx : ∀ (d mi pc : Nat) (ls st : List Value) (M : Mm) (r : Option Value × Mm), go d mi pc ls st M = some r → Fx M r.2 := by
  intro d
  induction d with
  | zero => intro mi pc ls st M r h; cases h
  | succ d ih =>
    intro mi pc ls st M r h
    obtain ⟨n, hn⟩ := go_it.mp h
    exact it_fx _ (fun a as M r h => ih a 0 as [] M r h) n mi pc ls st M r hn
