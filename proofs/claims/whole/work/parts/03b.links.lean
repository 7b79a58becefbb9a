/-- the methods: what the tables say -/
def rtF : Nat → Option FieldType
  | 0 => none
  | 1 => some .int
  | 2 => some .long
  | 3 => some .boolean
  | 4 => some .char
  | _ => some .byte
def MdOK (mi : Nat) : Prop := plainName (yyN mi).cls = true ∧ (yyN mi).cls = owN mi ∧ ((yyN mi).cls ≠ "java/lang/invoke/MethodHandle" ∧ (yyN mi).cls ≠ "java/lang/invoke/VarHandle") ∧ (parseMethodDescriptor (yyN mi).desc).map (fun d => d.parameters.length) = some (NP mi) ∧ NA mi = NP mi + (bif isS mi then 0 else 1) ∧ (MC mi < 13 → clC (MC mi) = (yyN mi).cls) ∧ (MC mi = 50 → (yyN mi).cls = "java/lang/String") ∧ rtN mi = rtF (RT mi) ∧ ML mi ≤ 40
def McOK (mi : Nat) : Prop := (∀ q ∈ TB mi, decode (cdN mi) q.1 = .ok (q.2.1, q.2.2.1)) ∧ (∀ q ∈ TB mi, pfE mi q.2 = true ∧ (swi q.2.1 || Nat.beq q.2.2.1 (ilen q.2.1)) = true) ∧ ∀ w ∈ (TB mi).flatMap (fun q => lnkE (owN mi) q.2), w ∈ lw_tbl
set_option maxRecDepth 100000 in
theorem obj_code : Cond.code objectInit ⟨#[0xb1]⟩ 1 none ∈ lw_tbl := List.mem_of_getElem? (i := 110) rfl
