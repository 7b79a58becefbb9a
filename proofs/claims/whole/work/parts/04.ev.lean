/-! ===== the little machine: numbered cells, typed words ===== -/
/-- memory: how many cells are made; ints; longs; references (0 is null, else the number of a cell) -/
abbrev Mm : Type := Nat × (Nat → Nat → Int32) × (Nat → Nat → Int64) × (Nat → Nat → Nat)
abbrev Oo : Type := Option (Option Value × Mm)
abbrev Kk : Type := Nat → List Value → Mm → Oo
abbrev Gg : Type := Nat → List Value → List Value → Mm → Oo
def gN (M : Mm) : Nat := M.1
def gI (M : Mm) : Nat → Nat → Int32 := M.2.1
def gL (M : Mm) : Nat → Nat → Int64 := M.2.2.1
def gR (M : Mm) : Nat → Nat → Nat := M.2.2.2
def sI (M : Mm) (i k : Nat) (v : Int32) : Mm := (M.1, fun a b => if a = i ∧ b = k then v else M.2.1 a b, M.2.2.1, M.2.2.2)
def sL (M : Mm) (i k : Nat) (v : Int64) : Mm := (M.1, M.2.1, fun a b => if a = i ∧ b = k then v else M.2.2.1 a b, M.2.2.2)
def sR (M : Mm) (i k : Nat) (v : Nat) : Mm := (M.1, M.2.1, M.2.2.1, fun a b => if a = i ∧ b = k then v else M.2.2.2 a b)
def sN (M : Mm) : Mm := (M.1 + 1, M.2.1, M.2.2.1, M.2.2.2)
def cI (M : Mm) (a sp b dp n : Nat) : Mm := (M.1, fun x => if x = b then va_cpy (M.2.1 a) (M.2.1 b) sp dp n else M.2.1 x, M.2.2.1, M.2.2.2)
def cL (M : Mm) (a sp b dp n : Nat) : Mm := (M.1, M.2.1, fun x => if x = b then va_cpy (M.2.2.1 a) (M.2.2.1 b) sp dp n else M.2.2.1 x, M.2.2.2)
/-- an object of a class; an array of a type that may be read; its length -/
def okO (M : Mm) (r ci : Nat) : Bool := Nat.ble 1 r && Nat.ble r (gN M) && Nat.blt r 1000 && Nat.beq (SH r).1 ci
def okS (r : Nat) : Bool := Nat.ble 1000 r && Nat.blt r (1000 + nStr)
def okA (M : Mm) (r t : Nat) : Bool := Nat.ble 1 r && (Nat.ble r (gN M) || Nat.ble 1000 r) && Nat.beq (SH r).1 (100 + t)
def aLen (M : Mm) (r : Nat) : Nat := if r = 4000 then gR M 4000 0 else (SH r).2
def inB (i : Int32) (n : Nat) : Bool := decide (0 ≤ i.toInt) && decide (i.toInt < n)
def rOK (M : Mm) (r t : Nat) (i : Int32) : Bool := okA M r t && inB i (aLen M r)
def wOK (M : Mm) (r t : Nat) (i : Int32) : Bool := okA M r t && Nat.blt r 1000 && inB i (aLen M r)
/-- may n words from p on lie within a row of so many -/
def spB (p n : Int32) (len : Nat) : Bool := decide (0 ≤ p.toInt) && decide (0 ≤ n.toInt) && decide (p.toInt + n.toInt ≤ len)
def rB (M : Mm) (r : Nat) (i : Int32) : Bool := rOK M r 1 i || rOK M r 2 i
def wB (M : Mm) (r : Nat) (i : Int32) : Bool := wOK M r 1 i || wOK M r 2 i
def rQ (M : Mm) (r : Nat) (i : Int32) : Bool := wOK M r 4 i || wOK M r 5 i || wOK M r 6 i
def wQ (M : Mm) (r : Nat) (i : Int32) (x : Nat) : Bool := wOK M r 4 i && okO M x (elC 4) || wOK M r 5 i && okO M x (elC 5) || wOK M r 6 i && okO M x (elC 6)
def okL (M : Mm) (r : Nat) : Bool := okA M r 0 || okA M r 1 || okA M r 2 || okA M r 3
def nwA (M : Mm) (t : Nat) (n : Int32) : Bool := Nat.beq (SH (gN M + 1)).1 (100 + t) && decide (0 ≤ n.toInt) && Nat.beq (SH (gN M + 1)).2 n.toNatClampNeg && Nat.blt (gN M + 1) 1000
def nwO (M : Mm) (a : Nat) : Bool := Nat.blt a 13 && Nat.beq (SH (gN M + 1)).1 a && Nat.beq (SH (gN M + 1)).2 (NF a) && Nat.blt (gN M + 1) 1000
def okI (r : Nat) : Bool := Nat.ble 1 r && Nat.blt r 1000
def cpB (s t : Nat) (sp dp n : Int32) : Bool := Nat.blt s 1000 && Nat.blt t 1000 && spB sp n (SH s).2 && spB dp n (SH t).2
def zTy (r : Nat) : FieldType := bif Nat.beq (SH r).1 101 then .byte else .boolean
def sZ (M : Mm) (r j : Nat) (x : Int32) : Mm := sI M r j (vp_nar (zTy r) x)
/-- a name for a memory, for a number -/
def bM {α : Type} (M : Mm) (k : Mm → α) : α := k M
def bX {β α : Type} (x : β) (k : β → α) : α := k x
/-- locals -/
def ldv (ls : List Value) (i : Nat) : Value := ls.getD i .null
/-- no long ends where this one begins -/
def nkl (ls : List Value) : Nat → Bool
  | 0 => true
  | j + 1 => !(Nat.beq (ldv ls j).category 2)
def st1 (ls : List Value) (i : Nat) (v : Value) : List Value := ls.set i v
def st2 (ls : List Value) (i : Nat) (v : Value) : List Value := (ls.set i v).set (i + 1) .null
def padv : List Value → List Value
  | [] => []
  | v :: t => bif Nat.beq v.category 2 then v :: .null :: padv t else v :: padv t
def pad (n : Nat) (as : List Value) : List Value := padv as ++ List.replicate (n - (padv as).length) .null
/-- what stands on the stack -/
def p1i (st : List Value) (k : Int32 → List Value → Oo) : Oo := match st with
  | .int x :: t => k x t
  | _ => none
def p1l (st : List Value) (k : Int64 → List Value → Oo) : Oo := match st with
  | .long x :: t => k x t
  | _ => none
def p1r (st : List Value) (k : Nat → List Value → Oo) : Oo := match st with
  | .ref x :: t => k x t
  | _ => none
def p2i (st : List Value) (k : Int32 → Int32 → List Value → Oo) : Oo := p1i st fun y t => p1i t fun x u => k x y u
def p2l (st : List Value) (k : Int64 → Int64 → List Value → Oo) : Oo := p1l st fun y t => p1l t fun x u => k x y u
def pli (st : List Value) (k : Int64 → Int32 → List Value → Oo) : Oo := p1i st fun y t => p1l t fun x u => k x y u
def pri (st : List Value) (k : Nat → Int32 → List Value → Oo) : Oo := p1i st fun y t => p1r t fun x u => k x y u
def bV (o : Oo) (k : Mm → Oo) : Oo := match o with
  | some (none, M) => k M
  | _ => none
def bI (o : Oo) (k : Int32 → Mm → Oo) : Oo := match o with
  | some (some (.int x), M) => k x M
  | _ => none
def bL (o : Oo) (k : Int64 → Mm → Oo) : Oo := match o with
  | some (some (.long x), M) => k x M
  | _ => none
def lvi (ls : List Value) (i : Nat) (k : Int32 → Oo) : Oo := match ldv ls i with
  | .int x => k x
  | _ => none
def lvl (ls : List Value) (i : Nat) (k : Int64 → Oo) : Oo := match ldv ls i with
  | .long x => k x
  | _ => none
def lvr (ls : List Value) (i : Nat) (k : Nat → Oo) : Oo := match ldv ls i with
  | .ref x => k x
  | _ => none
abbrev Ct : Type := List Value → List Value → Mm → Oo
/-- constants, locals, stack, numbers -/
def sA (i : Instr) (a b c : Nat) (ls st : List Value) (M : Mm) (k : Ct) : Oo :=
  match i with
  | .iconst n => k ls (.int (Int32.ofInt n) :: st) M
  | .bipush n => k ls (.int ((Int8.ofInt n).toInt32) :: st) M
  | .sipush n => k ls (.int ((Int16.ofInt n).toInt32) :: st) M
  | .lconst n => k ls (.long (Int64.ofNat (n : Nat)) :: st) M
  | .ldc _ => match b with
    | 0 => k ls (.int (Int32.ofInt (if c = 0 then (a : Int) else -(a : Int))) :: st) M
    | _ => k ls (.ref (1000 + a) :: st) M
  | .ldc_w _ => k ls (.int (Int32.ofInt (if c = 0 then (a : Int) else -(a : Int))) :: st) M
  | .ldc2_w _ => k ls (.long (Int64.ofInt (if c = 0 then (a : Int) else -(a : Int))) :: st) M
  | .iload_n j => lvi ls j fun x => k ls (.int x :: st) M
  | .iload j => lvi ls j fun x => k ls (.int x :: st) M
  | .lload_n j => lvl ls j fun x => k ls (.long x :: st) M
  | .lload j => lvl ls j fun x => k ls (.long x :: st) M
  | .aload_n j => lvr ls j fun x => k ls (.ref x :: st) M
  | .aload j => lvr ls j fun x => k ls (.ref x :: st) M
  | .istore_n j => p1i st fun x st => bif Nat.blt j ls.length && nkl ls j then k (st1 ls j (.int x)) st M else none
  | .istore j => p1i st fun x st => bif Nat.blt j ls.length && nkl ls j then k (st1 ls j (.int x)) st M else none
  | .lstore_n j => p1l st fun x st => bif Nat.blt (j + 1) ls.length && nkl ls j then k (st2 ls j (.long x)) st M else none
  | .lstore j => p1l st fun x st => bif Nat.blt (j + 1) ls.length && nkl ls j then k (st2 ls j (.long x)) st M else none
  | .astore_n j => p1r st fun x st => bif Nat.blt j ls.length && nkl ls j then k (st1 ls j (.ref x)) st M else none
  | .astore j => p1r st fun x st => bif Nat.blt j ls.length && nkl ls j then k (st1 ls j (.ref x)) st M else none
  | .iinc j n => lvi ls j fun x => bif Nat.blt j ls.length && nkl ls j then k (st1 ls j (.int (x + Int32.ofInt n))) st M else none
  | .dup => match st with
    | v :: t => bif Nat.beq v.category 1 then k ls (v :: v :: t) M else none
    | _ => none
  | .dup2 => match st with
    | v :: w :: t => bif Nat.beq v.category 1 && Nat.beq w.category 1 then k ls (v :: w :: v :: w :: t) M else none
    | _ => none
  | .pop => match st with
    | v :: t => bif Nat.beq v.category 1 then k ls t M else none
    | _ => none
  | _ => none
def sB (i : Instr) (ls st : List Value) (M : Mm) (k : Ct) : Oo :=
  match i with
  | .iadd => p2i st fun x y t => k ls (.int (x + y) :: t) M
  | .isub => p2i st fun x y t => k ls (.int (x - y) :: t) M
  | .imul => p2i st fun x y t => k ls (.int (x * y) :: t) M
  | .iand => p2i st fun x y t => k ls (.int (x &&& y) :: t) M
  | .ior => p2i st fun x y t => k ls (.int (x ||| y) :: t) M
  | .ixor => p2i st fun x y t => k ls (.int (x ^^^ y) :: t) M
  | .idiv => p2i st fun x y t => if y = 0 then none else k ls (.int (x / y) :: t) M
  | .irem => p2i st fun x y t => if y = 0 then none else k ls (.int (x - x / y * y) :: t) M
  | .ineg => p1i st fun x t => k ls (.int (-x) :: t) M
  | .ishl => p2i st fun x y t => k ls (.int (x <<< (y &&& 31)) :: t) M
  | .ishr => p2i st fun x y t => k ls (.int (x >>> (y &&& 31)) :: t) M
  | .iushr => p2i st fun x y t => k ls (.int (x.toUInt32 >>> (y.toUInt32 &&& Int32.toUInt32 31)).toInt32 :: t) M
  | .ladd => p2l st fun x y t => k ls (.long (x + y) :: t) M
  | .lsub => p2l st fun x y t => k ls (.long (x - y) :: t) M
  | .land => p2l st fun x y t => k ls (.long (x &&& y) :: t) M
  | .lor => p2l st fun x y t => k ls (.long (x ||| y) :: t) M
  | .lxor => p2l st fun x y t => k ls (.long (x ^^^ y) :: t) M
  | .lshl => pli st fun x y t => k ls (.long (x <<< (y.toInt64 &&& 63)) :: t) M
  | .lshr => pli st fun x y t => k ls (.long (x >>> (y.toInt64 &&& 63)) :: t) M
  | .lushr => pli st fun x y t => k ls (.long (x.toUInt64 >>> (y.toInt64.toUInt64 &&& Int64.toUInt64 63)).toInt64 :: t) M
  | .i2l => p1i st fun x t => k ls (.long x.toInt64 :: t) M
  | .l2i => p1l st fun x t => k ls (.int x.toInt32 :: t) M
  | .i2b => p1i st fun x t => k ls (.int x.toInt8.toInt32 :: t) M
  | .i2s => p1i st fun x t => k ls (.int x.toInt16.toInt32 :: t) M
  | .i2c => p1i st fun x t => k ls (.int (x.toUInt32 % 65536).toInt32 :: t) M
  | .lcmp => p2l st fun x y t => k ls (.int (lg_cmp x y) :: t) M
  | _ => none
def atC : ArrayType → Nat
  | .int => 0
  | .byte => 1
  | .boolean => 2
  | .long => 3
  | _ => 99
/-- cells -/
def sC (i : Instr) (a b : Nat) (ls st : List Value) (M : Mm) (k : Ct) : Oo :=
  match i with
  | .getfield _ => p1r st fun r t =>
      bif Nat.beq a 50 then (if okS r then (bif Nat.beq b 0 then k ls (.int 0 :: t) M else k ls (.ref (r + 1000) :: t) M) else none)
      else bif Nat.blt b (NF a) then (if okO M r a then (bif Nat.beq (FT a b) 2 then k ls (.ref (gR M r b) :: t) M else k ls (.int (gI M r b) :: t) M) else none) else none
  | .putfield _ => match st with
    | .int x :: .ref r :: t => bif Nat.blt b (NF a) then (if okO M r a then (match FT a b with
      | 0 => k ls t (sI M r b x)
      | 1 => if x == 0 || x == 1 then k ls t (sI M r b x) else none
      | _ => none) else none) else none
    | .ref x :: .ref r :: t => bif Nat.blt b (NF a) then (if okO M r a then (match FT a b with
      | 2 => if Nat.blt x 1000 then k ls t (sR M r b x) else none
      | _ => none) else none) else none
    | _ => none
  | .getstatic _ => match a with
    | 0 => k ls (.ref 3000 :: st) M
    | 1 => k ls (.int 1 :: st) M
    | _ => k ls (.ref 5000 :: st) M
  | .iaload => pri st fun r j t => if rOK M r 0 j then k ls (.int (gI M r j.toNatClampNeg) :: t) M else none
  | .baload => pri st fun r j t => if rB M r j then k ls (.int (gI M r j.toNatClampNeg) :: t) M else none
  | .laload => pri st fun r j t => if rOK M r 3 j then k ls (.long (gL M r j.toNatClampNeg) :: t) M else none
  | .aaload => pri st fun r j t => if rQ M r j then k ls (.ref (gR M r j.toNatClampNeg) :: t) M else none
  | .iastore => p1i st fun x st => pri st fun r j t => if wOK M r 0 j then k ls t (sI M r j.toNatClampNeg x) else none
  | .bastore => p1i st fun x st => pri st fun r j t => if wB M r j then k ls t (sZ M r j.toNatClampNeg x) else none
  | .lastore => p1l st fun x st => pri st fun r j t => if wOK M r 3 j then k ls t (sL M r j.toNatClampNeg x) else none
  | .aastore => p1r st fun x st => pri st fun r j t =>
      if wQ M r j x then k ls t (sR M r j.toNatClampNeg x) else none
  | .arraylength => p1r st fun r t => if okL M r then k ls (.int (Int32.ofNat (aLen M r)) :: t) M else none
  | .newarray ty => p1i st fun n t => if nwA M (atC ty) n then k ls (.ref (gN M + 1) :: t) (sN M) else none
  | .anewarray _ => p1i st fun n t => bif Nat.ble 4 a && Nat.ble a 6 then (if nwA M a n then k ls (.ref (gN M + 1) :: t) (sN M) else none) else none
  | .new _ => if nwO M a then k ls (.ref (gN M + 1) :: st) (sN M) else none
  | _ => none
/-- branches: cases of a switch -/
def cz (cd : Jvm.ClassFile.Cond) (x : Int32) (k1 k2 : Oo) : Oo := match cd with
  | .eq => if x = 0 then k1 else k2
  | .ne => if x = 0 then k2 else k1
  | .lt => if x < 0 then k1 else k2
  | .ge => if 0 ≤ x then k1 else k2
  | .gt => if 0 < x then k1 else k2
  | .le => if x ≤ 0 then k1 else k2
def cc2 (cd : Jvm.ClassFile.Cond) (x y : Int32) (k1 k2 : Oo) : Oo := match cd with
  | .eq => if x = y then k1 else k2
  | .ne => if x = y then k2 else k1
  | .lt => if x < y then k1 else k2
  | .ge => if y ≤ x then k1 else k2
  | .gt => if y < x then k1 else k2
  | .le => if x ≤ y then k1 else k2
def swt (x : Int32) (kd : Oo) (kt : Int → Oo) : List (Int × Int) → Oo
  | [] => kd
  | (v, o) :: r => if x = Int32.ofInt v then kt o else swt x kd kt r
def swl (lo : Int) : List Int → List (Int × Int)
  | [] => []
  | o :: r => (lo, o) :: swl (lo + 1) r
def lkT (tb : List (Nat × En)) (pc : Nat) : Option En := match tb with
  | [] => none
  | (q, e) :: r => if Nat.beq q pc then some e else lkT r pc
def mem (l : List Nat) (x : Nat) : Bool := match l with
  | [] => false
  | y :: r => Nat.beq y x || mem r x
def dep (st : List Value) : Nat := (st.map fun v => v.category).sum
/-- n values off the stack, the lowest first -/
def tkn : Nat → List Value → List Value → Option (List Value × List Value)
  | 0, acc, st => some (acc, st)
  | n + 1, acc, v :: st => tkn n (v :: acc) st
  | _ + 1, _, [] => none
def cpy (as : List Value) (M : Mm) (k : Mm → Oo) : Oo := match as with
  | [.ref s, .int sp, .ref t, .int dp, .int n] =>
    if cpB s t sp dp n then
      (if okA M s 0 && okA M t 0 then k (cI M s sp.toNatClampNeg t dp.toNatClampNeg n.toNatClampNeg)
       else if okA M s 3 && okA M t 3 then k (cL M s sp.toNatClampNeg t dp.toNatClampNeg n.toNatClampNeg) else none) else none
  | _ => none
/-- the call itself -/
def clK (K : Kk) (a : Nat) (as ls t : List Value) (M : Mm) (k : Ct) : Oo :=
  bif Nat.blt a nMt && Nat.ble (padv as).length (ML a) then (match RT a with
    | 0 => bV (K a (pad (ML a) as) M) fun M1 => k ls t M1
    | 2 => bL (K a (pad (ML a) as) M) fun x M1 => k ls (.long x :: t) M1
    | _ => bI (K a (pad (ML a) as) M) fun x M1 => k ls (.int x :: t) M1) else none
def cll (K : Kk) (i : Instr) (a : Nat) (ls st : List Value) (M : Mm) (k : Ct) : Oo :=
  match tkn (NA a) [] st with
  | none => none
  | some (as, t) =>
    bif Nat.ble (dep t) 8 then (match i with
      | .invokestatic _ => bif isS a then (bif Nat.beq a 900 then cpy as M (fun M1 => k ls t M1) else clK K a as ls t M k) else none
      | .invokevirtual _ => bif isS a then none else (match as with
        | .ref r :: _ => bif Nat.beq (MC a) 50 then (if okS r then clK K a as ls t M k else none) else (if okO M r (MC a) then clK K a as ls t M k else none)
        | _ => none)
      | .invokespecial _ => bif isS a then none else (match as with
        | .ref r :: _ => if okI r then (bif Nat.beq a 901 then k ls t M else clK K a as ls t M k) else none
        | _ => none)
      | _ => none) else none
def gon (k : Nat → Oo) (o : Int) : Oo := match o with
  | .ofNat t => k t
  | _ => none
/-- at the end: 0 void, 1 int, 2 long, 3 boolean -/
def rtn (rt : Nat) (i : Instr) (st : List Value) (M : Mm) : Oo := match i with
  | .return_ => bif Nat.beq rt 0 then (match st with
    | [] => some (none, M)
    | _ => none) else none
  | .ireturn => (match st with
    | [.int x] => (match rt with
      | 1 => some (some (.int x), M)
      | 3 => if x == 0 || x == 1 then some (some (.int x), M) else none
      | 4 => if narrow .char (.int x) = .int x then some (some (.int x), M) else none
      | 5 => if narrow .byte (.int x) = .int x then some (some (.int x), M) else none
      | _ => none)
    | _ => none)
  | .lreturn => (match st with
    | [.long x] => bif Nat.beq rt 2 then some (some (.long x), M) else none
    | _ => none)
  | _ => none
/-- which group an instruction is of -/
def grp : Instr → Nat
  | .iconst _ | .bipush _ | .sipush _ | .lconst _ | .ldc _ | .ldc_w _ | .ldc2_w _ | .iload_n _ | .iload _ | .lload_n _ | .lload _ | .aload_n _ | .aload _ | .istore_n _ | .istore _ | .lstore_n _ | .lstore _ | .astore_n _ | .astore _ | .iinc _ _ | .dup | .dup2 | .pop => 0
  | .iadd | .isub | .imul | .iand | .ior | .ixor | .idiv | .irem | .ineg | .ishl | .ishr | .iushr | .ladd | .lsub | .land | .lor | .lxor | .lshl | .lshr | .lushr | .i2l | .l2i | .i2b | .i2s | .i2c | .lcmp => 1
  | .getfield _ | .putfield _ | .getstatic _ | .iaload | .baload | .laload | .aaload | .iastore | .bastore | .lastore | .aastore | .arraylength | .newarray _ | .anewarray _ | .new _ => 2
  | .invokevirtual _ | .invokestatic _ | .invokespecial _ => 3
  | .ireturn | .lreturn | .return_ => 4
  | _ => 5
def brn (i : Instr) (pc : Nat) (ls st : List Value) (M : Mm) (k : Nat → Ct) : Oo := match i with
  | .goto o => gon (fun t => k t ls st M) (pc + o)
  | .ifCond cd o => gon (fun t => p1i st fun x st => cz cd x (k t ls st M) (k (pc + 3) ls st M)) (pc + o)
  | .if_icmp cd o => gon (fun t => p2i st fun x y st => cc2 cd x y (k t ls st M) (k (pc + 3) ls st M)) (pc + o)
  | .tableswitch d lo _ os => p1i st fun x st => swt x (gon (fun t => k t ls st M) (pc + d)) (fun o => gon (fun t => k t ls st M) (pc + o)) (swl lo os.toList)
  | .lookupswitch d ps => p1i st fun x st => swt x (gon (fun t => k t ls st M) (pc + d)) (fun o => gon (fun t => k t ls st M) (pc + o)) ps.toList
  | _ => none
/-- a stretch from pc on, up to the cuts -/
def ev (K : Kk) (G : Gg) (rt : Nat) (cu : List Nat) (tb : List (Nat × En)) : Nat → Nat → List Value → List Value → Mm → Oo
  | 0, _, _, _, _ => none
  | f + 1, pc, ls, st, M => match lkT tb pc with
    | none => none
    | some (i, len, a, b, c) => match grp i with
      | 0 => sA i a b c ls st M fun ls st M => bif mem cu (pc + len) then G (pc + len) ls st M else ev K G rt cu tb f (pc + len) ls st M
      | 1 => sB i ls st M fun ls st M => bif mem cu (pc + len) then G (pc + len) ls st M else ev K G rt cu tb f (pc + len) ls st M
      | 2 => sC i a b ls st M fun ls st M => bif mem cu (pc + len) then G (pc + len) ls st M else ev K G rt cu tb f (pc + len) ls st M
      | 3 => cll K i a ls st M fun ls st M => bif mem cu (pc + len) then G (pc + len) ls st M else ev K G rt cu tb f (pc + len) ls st M
      | 4 => rtn rt i st M
      | _ => brn i pc ls st M fun t ls st M => bif mem cu t then G t ls st M else ev K G rt cu tb f t ls st M
/-- one method: steps from cut to cut -/
def itK (K : Kk) : Nat → Nat → Nat → List Value → List Value → Mm → Oo
  | 0, _, _, _, _, _ => none
  | n + 1, mi, pc, ls, st, M => ev K (itK K n mi) (RT mi) (CU mi) (TB mi) 300 pc ls st M
/-- what some number of steps gives -/
noncomputable def lmO (f : Nat → Oo) : Oo := @dite Oo (∃ n r, f n = some r) (Classical.propDecidable _) (fun h => f (Classical.choose h)) (fun _ => none)
/-- the machine: d frames deep at most -/
noncomputable def go : Nat → Nat → Nat → List Value → List Value → Mm → Oo
  | 0, _, _, _, _, _ => none
  | d + 1, mi, pc, ls, st, M => lmO fun n => itK (fun a as M => go d a 0 as [] M) n mi pc ls st M
