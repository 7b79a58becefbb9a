/-! ===== the little machine's memory as a world ===== -/
def aTy (t : Nat) : FieldType := match t with
  | 0 => .int
  | 1 => .byte
  | 2 => .boolean
  | 3 => .long
  | 4 => .object "MarkedBody$Sheet"
  | 5 => .object "MarkedBody$KindSet"
  | _ => .object "MarkedBody$Line"
def tysL (cA : Nat → ClassId) : List (ClassId × FieldType) := [(cA 0, aTy 0), (cA 1, aTy 1), (cA 2, aTy 2), (cA 3, aTy 3), (cA 4, aTy 4), (cA 5, aTy 5), (cA 6, aTy 6)]
theorem tysL_get (cA : Nat → ClassId) : ∀ t : Nat, t < 7 → (tysL cA)[t]? = some (cA t, aTy t)
  | 0, _ => rfl
  | 1, _ => rfl
  | 2, _ => rfl
  | 3, _ => rfl
  | 4, _ => rfl
  | 5, _ => rfl
  | 6, _ => rfl
  | n + 7, h => absurd h (by omega)
def adr (b : Nat) : Nat → Option Nat
  | 0 => none
  | j + 1 => some (b + j)
def vrf (b : Nat) (X : Nat → Value) : Nat → Value
  | 0 => .null
  | j + 1 => bif Nat.blt (j + 1) 1000 then .ref (b + j) else X (j + 1)
def vr (b : Nat) (X : Nat → Value) : Value → Value
  | .ref r => vrf b X r
  | v => v
theorem vrf_lo {b : Nat} {X : Nat → Value} {r : Nat} (h : r < 1000) : vrf b X r = va_rf (adr b r) := by
  cases r with
  | zero => rfl
  | succ j =>
    have : Nat.blt (j + 1) 1000 = true := by rw [Nat.blt_eq]; exact h
    simp [vrf, adr, va_rf, this]
theorem vrf_id {b : Nat} {X : Nat → Value} {j : Nat} (h : j + 1 < 1000) : vrf b X (j + 1) = .ref (b + j) := vrf_lo h
theorem vrf_hi {b : Nat} {X : Nat → Value} {r : Nat} (h : 1000 ≤ r) : vrf b X r = X r := by
  cases r with
  | zero => omega
  | succ j =>
    have : Nat.blt (j + 1) 1000 = false := by
      cases hb : Nat.blt (j + 1) 1000
      · rfl
      · rw [Nat.blt_eq] at hb; omega
    simp [vrf, this]
def fvl (b : Nat) (M : Mm) (r ci k : Nat) : Value := bif Nat.beq (FT ci k) 2 then va_rf (adr b (gR M r k)) else .int (gI M r k)
def arrC (b : Nat) (M : Mm) (r t : Nat) : (Nat → Int32) ⊕ (Nat → Int64) ⊕ (Nat → UInt32) ⊕ (Nat → UInt64) ⊕ (Nat → Option Nat) :=
  bif Nat.beq t 3 then .inr (.inl (gL M r)) else bif Nat.ble 4 t then .inr (.inr (.inr (.inr (fun k => adr b (gR M r k))))) else .inl (gI M r)
def entA (b : Nat) (cA : Nat → ClassId) (M : Mm) (r : Nat) : va_E :=
  bif Nat.blt (SH r).1 100 then .inr ((SH r).1, (List.range (NF (SH r).1)).map (fvl b M r (SH r).1)) else .inl (cA ((SH r).1 - 100), (SH r).2, arrC b M r ((SH r).1 - 100))
def wsM (b : Nat) (cA : Nat → ClassId) (M : Mm) : va_W := (List.range (gN M)).map (fun j => (b + j, entA b cA M (j + 1)))
theorem ent_obj {b : Nat} {cA : Nat → ClassId} {M : Mm} {r ci : Nat} (h : (SH r).1 = ci) (hc : ci < 13) : entA b cA M r = .inr (ci, (List.range (NF ci)).map (fvl b M r ci)) := by
  subst h
  have : Nat.blt (SH r).1 100 = true := by rw [Nat.blt_eq]; omega
  simp [entA, this]
theorem ent_int {b : Nat} {cA : Nat → ClassId} {M : Mm} {r t : Nat} (h : (SH r).1 = 100 + t) (ht : t < 3) : entA b cA M r = .inl (cA t, (SH r).2, .inl (gI M r)) := by
  have h1 : Nat.blt (SH r).1 100 = false := by
    cases hb : Nat.blt (SH r).1 100
    · rfl
    · rw [Nat.blt_eq] at hb; omega
  have h2 : (SH r).1 - 100 = t := by omega
  have h3 : Nat.beq t 3 = false := by
    cases hb : Nat.beq t 3
    · rfl
    · rw [Nat.beq_eq] at hb; omega
  have h4 : Nat.ble 4 t = false := by
    cases hb : Nat.ble 4 t
    · rfl
    · rw [Nat.ble_eq] at hb; omega
  simp [entA, h1, h2, arrC, h3, h4]
theorem ent_long {b : Nat} {cA : Nat → ClassId} {M : Mm} {r : Nat} (h : (SH r).1 = 100 + 3) : entA b cA M r = .inl (cA 3, (SH r).2, .inr (.inl (gL M r))) := by
  have h1 : Nat.blt (SH r).1 100 = false := by
    cases hb : Nat.blt (SH r).1 100
    · rfl
    · rw [Nat.blt_eq] at hb; omega
  have h2 : (SH r).1 - 100 = 3 := by omega
  simp [entA, h1, h2, arrC]
theorem ent_ref {b : Nat} {cA : Nat → ClassId} {M : Mm} {r t : Nat} (h : (SH r).1 = 100 + t) (ht : 4 ≤ t) : entA b cA M r = .inl (cA t, (SH r).2, .inr (.inr (.inr (.inr (fun k => adr b (gR M r k)))))) := by
  have h1 : Nat.blt (SH r).1 100 = false := by
    cases hb : Nat.blt (SH r).1 100
    · rfl
    · rw [Nat.blt_eq] at hb; omega
  have h2 : (SH r).1 - 100 = t := by omega
  have h3 : Nat.beq t 3 = false := by
    cases hb : Nat.beq t 3
    · rfl
    · rw [Nat.beq_eq] at hb; omega
  have h4 : Nat.ble 4 t = true := by rw [Nat.ble_eq]; exact ht
  simp [entA, h1, h2, arrC, h3, h4]
theorem wsM_get (b : Nat) (cA : Nat → ClassId) (M : Mm) {j : Nat} (h : j < gN M) : (wsM b cA M)[j]? = some (b + j, entA b cA M (j + 1)) := by
  simp [wsM, h]
theorem rng_get {n i j : Nat} (h : (List.range n)[i]? = some j) : i = j ∧ i < n := by
  obtain ⟨h1, h2⟩ := List.getElem?_eq_some_iff.mp h
  simp at h1 h2
  exact ⟨h2, h1⟩
theorem wsM_D (b : Nat) (cA : Nat → ClassId) (M : Mm) : va_D (fun q => b ≤ q) (wsM b cA M) := by
  refine ⟨fun i j p q hi hj e => ?_, fun k q hk => ?_⟩
  · simp only [wsM, List.getElem?_map, Option.map_eq_some_iff] at hi hj
    obtain ⟨i', hi1, hi2⟩ := hi
    obtain ⟨j', hj1, hj2⟩ := hj
    have hi3 := rng_get hi1
    have hj3 := rng_get hj1
    subst hi2; subst hj2
    simp only at e
    omega
  · simp only [wsM, List.getElem?_map, Option.map_eq_some_iff] at hk
    obtain ⟨i', hi1, hi2⟩ := hk
    subst hi2
    simp
theorem wsM_upd {b : Nat} {cA : Nat → ClassId} {M M' : Mm} {j : Nat} (hn : gN M' = gN M) (hj : j < gN M) (ho : ∀ r, r ≠ j + 1 → entA b cA M' r = entA b cA M r) {x : va_E} (hx : entA b cA M' (j + 1) = x) : (wsM b cA M).set j (b + j, x) = wsM b cA M' := by
  apply List.ext_getElem?
  intro i
  rw [List.getElem?_set]
  by_cases h : j = i
  · subst h
    rw [if_pos rfl, wsM_get b cA M' (by omega), hx]
    simp [wsM, hj]
  · rw [if_neg h]
    by_cases hi : i < gN M
    · rw [wsM_get b cA M hi, wsM_get b cA M' (by omega), ho (i + 1) (by omega)]
    · simp [wsM, hn, hi]
theorem wsM_new {b : Nat} {cA : Nat → ClassId} {M : Mm} {x : va_E} (hx : entA b cA M (gN M + 1) = x) : wsM b cA M ++ [(b + gN M, x)] = wsM b cA (sN M) := by
  have e : ∀ r, entA b cA (sN M) r = entA b cA M r := fun r => rfl
  show _ = (List.range (gN M + 1)).map _
  rw [List.range_succ, List.map_append]
  subst hx
  rfl
/-- reads behind writes -/
theorem gI_sIn {M : Mm} {i k : Nat} {v : Int32} {r : Nat} (h : r ≠ i) : gI (sI M i k v) r = gI M r := by
  funext j; simp [gI, sI, h]
theorem gI_sIe {M : Mm} {i k : Nat} {v : Int32} : gI (sI M i k v) i = upd (gI M i) k v := by
  funext j; simp [gI, sI, upd]
theorem gL_sLn {M : Mm} {i k : Nat} {v : Int64} {r : Nat} (h : r ≠ i) : gL (sL M i k v) r = gL M r := by
  funext j; simp [gL, sL, h]
theorem gL_sLe {M : Mm} {i k : Nat} {v : Int64} : gL (sL M i k v) i = vp_updL (gL M i) k v := by
  funext j; simp [gL, sL, vp_updL]
theorem gR_sRn {M : Mm} {i k v : Nat} {r : Nat} (h : r ≠ i) : gR (sR M i k v) r = gR M r := by
  funext j; simp [gR, sR, h]
theorem gR_sRe {M : Mm} {i k v : Nat} : gR (sR M i k v) i = va_up (gR M i) k v := by
  funext j; simp [gR, sR, va_up]
theorem gI_cIn {M : Mm} {a sp c dp n : Nat} {r : Nat} (h : r ≠ c) : gI (cI M a sp c dp n) r = gI M r := by
  simp [gI, cI, h]
theorem gI_cIe {M : Mm} {a sp c dp n : Nat} : gI (cI M a sp c dp n) c = va_cpy (gI M a) (gI M c) sp dp n := by
  simp [gI, cI]
theorem gL_cLn {M : Mm} {a sp c dp n : Nat} {r : Nat} (h : r ≠ c) : gL (cL M a sp c dp n) r = gL M r := by
  simp [gL, cL, h]
theorem gL_cLe {M : Mm} {a sp c dp n : Nat} : gL (cL M a sp c dp n) c = va_cpy (gL M a) (gL M c) sp dp n := by
  simp [gL, cL]
theorem ent_eq {b : Nat} {cA : Nat → ClassId} {M M' : Mm} {r : Nat} (h1 : gI M' r = gI M r) (h2 : gL M' r = gL M r) (h3 : gR M' r = gR M r) : entA b cA M' r = entA b cA M r := by
  have hf : ∀ ci, fvl b M' r ci = fvl b M r ci := fun ci => by funext k; simp only [fvl, h1, h3]
  simp only [entA, hf, arrC, h1, h2, h3]
theorem fvl_setI {b : Nat} {M : Mm} {r ci k : Nat} {v : Int32} (hf : FT ci k ≠ 2) (n : Nat) : ((List.range n).map (fvl b M r ci)).set k (.int v) = (List.range n).map (fvl b (sI M r k v) r ci) := by
  have h2 : Nat.beq (FT ci k) 2 = false := by
    cases hb : Nat.beq (FT ci k) 2
    · rfl
    · rw [Nat.beq_eq] at hb; exact absurd hb hf
  apply List.ext_getElem?
  intro i
  rw [List.getElem?_set]
  by_cases h : k = i
  · subst h
    rw [if_pos rfl]
    by_cases hi : k < n
    · simp [hi, fvl, h2, gI, sI]
    · simp [hi]
  · rw [if_neg h]
    by_cases hi : i < n
    · have hk : ¬ i = k := fun e => h e.symm
      simp [hi, fvl, gI, sI, gR, hk]
    · simp [hi]
theorem fvl_setR {b : Nat} {M : Mm} {r ci k x : Nat} (hf : FT ci k = 2) (n : Nat) : ((List.range n).map (fvl b M r ci)).set k (va_rf (adr b x)) = (List.range n).map (fvl b (sR M r k x) r ci) := by
  have h2 : Nat.beq (FT ci k) 2 = true := by rw [Nat.beq_eq]; exact hf
  apply List.ext_getElem?
  intro i
  rw [List.getElem?_set]
  by_cases h : k = i
  · subst h
    rw [if_pos rfl]
    by_cases hi : k < n
    · simp [hi, fvl, h2, gR, sR]
    · simp [hi]
  · rw [if_neg h]
    by_cases hi : i < n
    · have hk : ¬ i = k := fun e => h e.symm
      simp [hi, fvl, gI, sR, gR, hk]
    · simp [hi]
