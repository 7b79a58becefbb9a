/-! ===== printed by program (gen3.py): classes, methods, links ===== -/
def RX0 : String := "MarkedBody$Asks"
def TX0 : u_T := fun k => match k with
  | 0 => ("MarkedBody$Asks", "numbers", "[I", true)
  | 1 => ("MarkedBody$Asks", "length", "I", false)
  | 2 => ("MarkedBody$Asks", "book", "LMarkedBody$Book;", true)
  | 3 => ("MarkedBody$Asks", "kinds", "LMarkedBody$Kinds;", true)
  | 4 => ("MarkedBody$Asks", "line", "LMarkedBody$Line;", false)
  | 5 => ("MarkedBody$Asks", "number", "I", false)
  | 6 => ("MarkedBody$Asks", "bodies", "I", false)
  | _ => ("MarkedBody$Asks", "kindNow", "I", false)
def tyX0 : Nat → FieldType := fun k => match k with
  | 0 => .array .int
  | 1 => .int
  | 2 => .object "MarkedBody$Book"
  | 3 => .object "MarkedBody$Kinds"
  | 4 => .object "MarkedBody$Line"
  | 5 => .int
  | 6 => .int
  | _ => .int
abbrev wsX00 : List Cond := u_ws RX0 TX0 8
theorem nmX0 : ∀ a, a < 8 → ∀ b, b < 8 → a ≠ b → (TX0 a).2.1 ≠ (TX0 b).2.1 := by decide +kernel
theorem tyX0_ok : ∀ k, k < 8 → parseFieldDescriptor (TX0 k).2.2.1 = some (tyX0 k) := by decide +kernel
def RX1 : String := "MarkedBody$Book"
def TX1 : u_T := fun k => match k with
  | 0 => ("MarkedBody$Book", "marks", "I", false)
  | 1 => ("MarkedBody$Book", "laws", "I", false)
  | 2 => ("MarkedBody$Book", "lines", "I", false)
  | 3 => ("MarkedBody$Book", "version", "I", false)
  | 4 => ("MarkedBody$Book", "under", "[I", true)
  | 5 => ("MarkedBody$Book", "way", "[I", true)
  | 6 => ("MarkedBody$Book", "law", "[LMarkedBody$KindSet;", true)
  | _ => ("MarkedBody$Book", "line", "[LMarkedBody$Line;", true)
def tyX1 : Nat → FieldType := fun k => match k with
  | 0 => .int
  | 1 => .int
  | 2 => .int
  | 3 => .int
  | 4 => .array .int
  | 5 => .array .int
  | 6 => .array (.object "MarkedBody$KindSet")
  | _ => .array (.object "MarkedBody$Line")
abbrev wsX10 : List Cond := u_ws RX1 TX1 8
theorem nmX1 : ∀ a, a < 8 → ∀ b, b < 8 → a ≠ b → (TX1 a).2.1 ≠ (TX1 b).2.1 := by decide +kernel
theorem tyX1_ok : ∀ k, k < 8 → parseFieldDescriptor (TX1 k).2.2.1 = some (tyX1 k) := by decide +kernel
def RX2 : String := "MarkedBody$Ends"
def TX2 : u_T := fun k => match k with
  | 0 => ("MarkedBody$Ends", "run", "LMarkedBody$Run;", true)
  | 1 => ("MarkedBody$Ends", "failing", "LMarkedBody$KindSet;", true)
  | 2 => ("MarkedBody$Ends", "rising", "[I", true)
  | 3 => ("MarkedBody$Ends", "unlike", "I", false)
  | 4 => ("MarkedBody$Ends", "known", "Z", false)
  | 5 => ("MarkedBody$Ends", "endOf", "[I", true)
  | 6 => ("MarkedBody$Ends", "isEnd", "[Z", true)
  | 7 => ("MarkedBody$Ends", "holding", "LMarkedBody$KindSet;", true)
  | 8 => ("MarkedBody$Ends", "book", "LMarkedBody$Book;", true)
  | 9 => ("MarkedBody$Ends", "kinds", "LMarkedBody$Kinds;", true)
  | 10 => ("MarkedBody$Ends", "weakest", "I", false)
  | _ => ("MarkedBody$Ends", "most", "I", false)
def tyX2 : Nat → FieldType := fun k => match k with
  | 0 => .object "MarkedBody$Run"
  | 1 => .object "MarkedBody$KindSet"
  | 2 => .array .int
  | 3 => .int
  | 4 => .boolean
  | 5 => .array .int
  | 6 => .array .boolean
  | 7 => .object "MarkedBody$KindSet"
  | 8 => .object "MarkedBody$Book"
  | 9 => .object "MarkedBody$Kinds"
  | 10 => .int
  | _ => .int
abbrev wsX20 : List Cond := u_ws RX2 TX2 12
theorem nmX2 : ∀ a, a < 12 → ∀ b, b < 12 → a ≠ b → (TX2 a).2.1 ≠ (TX2 b).2.1 := by decide +kernel
theorem tyX2_ok : ∀ k, k < 12 → parseFieldDescriptor (TX2 k).2.2.1 = some (tyX2 k) := by decide +kernel
def RX3 : String := "MarkedBody$Hold"
def TX3 : u_T := fun k => match k with
  | 0 => ("MarkedBody$Hold", "picked", "[I", true)
  | 1 => ("MarkedBody$Hold", "length", "I", false)
  | 2 => ("MarkedBody$Hold", "known", "Z", false)
  | 3 => ("MarkedBody$Hold", "book", "LMarkedBody$Book;", true)
  | 4 => ("MarkedBody$Hold", "kinds", "LMarkedBody$Kinds;", true)
  | _ => ("MarkedBody$Hold", "had", "[I", true)
def tyX3 : Nat → FieldType := fun k => match k with
  | 0 => .array .int
  | 1 => .int
  | 2 => .boolean
  | 3 => .object "MarkedBody$Book"
  | 4 => .object "MarkedBody$Kinds"
  | _ => .array .int
abbrev wsX30 : List Cond := u_ws RX3 TX3 6
theorem nmX3 : ∀ a, a < 6 → ∀ b, b < 6 → a ≠ b → (TX3 a).2.1 ≠ (TX3 b).2.1 := by decide +kernel
theorem tyX3_ok : ∀ k, k < 6 → parseFieldDescriptor (TX3 k).2.2.1 = some (tyX3 k) := by decide +kernel
def RX4 : String := "MarkedBody$KindSet"
def TX4 : u_T := fun k => match k with
  | _ => ("MarkedBody$KindSet", "words", "[J", true)
def tyX4 : Nat → FieldType := fun k => match k with
  | _ => .array .long
abbrev wsX40 : List Cond := u_ws RX4 TX4 1
theorem nmX4 : ∀ a, a < 1 → ∀ b, b < 1 → a ≠ b → (TX4 a).2.1 ≠ (TX4 b).2.1 := by decide +kernel
theorem tyX4_ok : ∀ k, k < 1 → parseFieldDescriptor (TX4 k).2.2.1 = some (tyX4 k) := by decide +kernel
def RX5 : String := "MarkedBody$Kinds"
def TX5 : u_T := fun k => match k with
  | 0 => ("MarkedBody$Kinds", "allowed", "LMarkedBody$KindSet;", true)
  | 1 => ("MarkedBody$Kinds", "tree", "LMarkedBody$KindSet;", true)
  | 2 => ("MarkedBody$Kinds", "some", "LMarkedBody$KindSet;", true)
  | 3 => ("MarkedBody$Kinds", "rest", "LMarkedBody$KindSet;", true)
  | 4 => ("MarkedBody$Kinds", "book", "LMarkedBody$Book;", true)
  | 5 => ("MarkedBody$Kinds", "below", "[I", true)
  | 6 => ("MarkedBody$Kinds", "musts", "[I", true)
  | _ => ("MarkedBody$Kinds", "ones", "[I", true)
def tyX5 : Nat → FieldType := fun k => match k with
  | 0 => .object "MarkedBody$KindSet"
  | 1 => .object "MarkedBody$KindSet"
  | 2 => .object "MarkedBody$KindSet"
  | 3 => .object "MarkedBody$KindSet"
  | 4 => .object "MarkedBody$Book"
  | 5 => .array .int
  | 6 => .array .int
  | _ => .array .int
abbrev wsX50 : List Cond := u_ws RX5 TX5 8
theorem nmX5 : ∀ a, a < 8 → ∀ b, b < 8 → a ≠ b → (TX5 a).2.1 ≠ (TX5 b).2.1 := by decide +kernel
theorem tyX5_ok : ∀ k, k < 8 → parseFieldDescriptor (TX5 k).2.2.1 = some (tyX5 k) := by decide +kernel
def RX6 : String := "MarkedBody$Line"
def TX6 : u_T := fun k => match k with
  | 0 => ("MarkedBody$Line", "sort", "I", false)
  | 1 => ("MarkedBody$Line", "buyer", "I", false)
  | 2 => ("MarkedBody$Line", "act", "I", false)
  | 3 => ("MarkedBody$Line", "first", "I", false)
  | 4 => ("MarkedBody$Line", "second", "I", false)
  | 5 => ("MarkedBody$Line", "marks", "I", false)
  | 6 => ("MarkedBody$Line", "from", "I", false)
  | 7 => ("MarkedBody$Line", "ended", "I", false)
  | _ => ("MarkedBody$Line", "saying", "LMarkedBody$KindSet;", true)
def tyX6 : Nat → FieldType := fun k => match k with
  | 0 => .int
  | 1 => .int
  | 2 => .int
  | 3 => .int
  | 4 => .int
  | 5 => .int
  | 6 => .int
  | 7 => .int
  | _ => .object "MarkedBody$KindSet"
abbrev wsX60 : List Cond := u_ws RX6 TX6 9
theorem nmX6 : ∀ a, a < 9 → ∀ b, b < 9 → a ≠ b → (TX6 a).2.1 ≠ (TX6 b).2.1 := by decide +kernel
theorem tyX6_ok : ∀ k, k < 9 → parseFieldDescriptor (TX6 k).2.2.1 = some (tyX6 k) := by decide +kernel
def RX7 : String := "MarkedBody$Reader"
def TX7 : u_T := fun k => match k with
  | 0 => ("MarkedBody$Reader", "fault", "I", false)
  | 1 => ("MarkedBody$Reader", "place", "I", false)
  | 2 => ("MarkedBody$Reader", "tape", "LMarkedBody$Tape;", true)
  | 3 => ("MarkedBody$Reader", "book", "LMarkedBody$Book;", true)
  | 4 => ("MarkedBody$Reader", "rows", "[LMarkedBody$KindSet;", true)
  | 5 => ("MarkedBody$Reader", "marks", "I", false)
  | 6 => ("MarkedBody$Reader", "laws", "I", false)
  | 7 => ("MarkedBody$Reader", "lines", "I", false)
  | _ => ("MarkedBody$Reader", "sayingMarks", "I", false)
def tyX7 : Nat → FieldType := fun k => match k with
  | 0 => .int
  | 1 => .int
  | 2 => .object "MarkedBody$Tape"
  | 3 => .object "MarkedBody$Book"
  | 4 => .array (.object "MarkedBody$KindSet")
  | 5 => .int
  | 6 => .int
  | 7 => .int
  | _ => .int
abbrev wsX70 : List Cond := u_ws RX7 TX7 9
theorem nmX7 : ∀ a, a < 9 → ∀ b, b < 9 → a ≠ b → (TX7 a).2.1 ≠ (TX7 b).2.1 := by decide +kernel
theorem tyX7_ok : ∀ k, k < 9 → parseFieldDescriptor (TX7 k).2.2.1 = some (tyX7 k) := by decide +kernel
def RX8 : String := "MarkedBody$Run"
def TX8 : u_T := fun k => match k with
  | 0 => ("MarkedBody$Run", "cells", "[I", true)
  | 1 => ("MarkedBody$Run", "fault", "I", false)
  | _ => ("MarkedBody$Run", "cellsSet", "I", false)
def tyX8 : Nat → FieldType := fun k => match k with
  | 0 => .array .int
  | 1 => .int
  | _ => .int
abbrev wsX80 : List Cond := u_ws RX8 TX8 3
theorem nmX8 : ∀ a, a < 3 → ∀ b, b < 3 → a ≠ b → (TX8 a).2.1 ≠ (TX8 b).2.1 := by decide +kernel
theorem tyX8_ok : ∀ k, k < 3 → parseFieldDescriptor (TX8 k).2.2.1 = some (tyX8 k) := by decide +kernel
def RX9 : String := "MarkedBody$Sheet"
def TX9 : u_T := fun k => match k with
  | 0 => ("MarkedBody$Sheet", "lane", "I", false)
  | 1 => ("MarkedBody$Sheet", "length", "I", false)
  | _ => ("MarkedBody$Sheet", "items", "[I", true)
def tyX9 : Nat → FieldType := fun k => match k with
  | 0 => .int
  | 1 => .int
  | _ => .array .int
abbrev wsX90 : List Cond := u_ws RX9 TX9 3
theorem nmX9 : ∀ a, a < 3 → ∀ b, b < 3 → a ≠ b → (TX9 a).2.1 ≠ (TX9 b).2.1 := by decide +kernel
theorem tyX9_ok : ∀ k, k < 3 → parseFieldDescriptor (TX9 k).2.2.1 = some (tyX9 k) := by decide +kernel
def RX10 : String := "MarkedBody$Tape"
def TX10 : u_T := fun k => match k with
  | 0 => ("MarkedBody$Tape", "bytes", "[B", true)
  | 1 => ("MarkedBody$Tape", "length", "I", false)
  | 2 => ("MarkedBody$Tape", "start", "I", false)
  | 3 => ("MarkedBody$Tape", "number", "I", false)
  | 4 => ("MarkedBody$Tape", "sort", "I", false)
  | _ => ("MarkedBody$Tape", "size", "I", false)
def tyX10 : Nat → FieldType := fun k => match k with
  | 0 => .array .byte
  | 1 => .int
  | 2 => .int
  | 3 => .int
  | 4 => .int
  | _ => .int
abbrev wsX100 : List Cond := u_ws RX10 TX10 6
theorem nmX10 : ∀ a, a < 6 → ∀ b, b < 6 → a ≠ b → (TX10 a).2.1 ≠ (TX10 b).2.1 := by decide +kernel
theorem tyX10_ok : ∀ k, k < 6 → parseFieldDescriptor (TX10 k).2.2.1 = some (tyX10 k) := by decide +kernel
def RX11 : String := "MarkedBody"
def TX11 : u_T := fun k => match k with
  | 0 => ("MarkedBody", "sheets", "[LMarkedBody$Sheet;", true)
  | 1 => ("MarkedBody", "tape", "LMarkedBody$Tape;", true)
  | 2 => ("MarkedBody", "book", "LMarkedBody$Book;", true)
  | 3 => ("MarkedBody", "reader", "LMarkedBody$Reader;", true)
  | 4 => ("MarkedBody", "kinds", "LMarkedBody$Kinds;", true)
  | 5 => ("MarkedBody", "ends", "LMarkedBody$Ends;", true)
  | 6 => ("MarkedBody", "hold", "LMarkedBody$Hold;", true)
  | 7 => ("MarkedBody", "asks", "LMarkedBody$Asks;", true)
  | 8 => ("MarkedBody", "buyerKinds", "[I", true)
  | 9 => ("MarkedBody", "buyerVersions", "[I", true)
  | 10 => ("MarkedBody", "latestFault", "I", false)
  | _ => ("MarkedBody", "latestFinding", "I", false)
def tyX11 : Nat → FieldType := fun k => match k with
  | 0 => .array (.object "MarkedBody$Sheet")
  | 1 => .object "MarkedBody$Tape"
  | 2 => .object "MarkedBody$Book"
  | 3 => .object "MarkedBody$Reader"
  | 4 => .object "MarkedBody$Kinds"
  | 5 => .object "MarkedBody$Ends"
  | 6 => .object "MarkedBody$Hold"
  | 7 => .object "MarkedBody$Asks"
  | 8 => .array .int
  | 9 => .array .int
  | 10 => .int
  | _ => .int
abbrev wsX110 : List Cond := u_ws RX11 TX11 12
theorem nmX11 : ∀ a, a < 12 → ∀ b, b < 12 → a ≠ b → (TX11 a).2.1 ≠ (TX11 b).2.1 := by decide +kernel
theorem tyX11_ok : ∀ k, k < 12 → parseFieldDescriptor (TX11 k).2.2.1 = some (tyX11 k) := by decide +kernel
def RX12 : String := "MarkedBodyModel"
def TX12 : u_T := fun k => match k with
  | 0 => ("MarkedBodyModel", "thrown", "I", false)
  | 1 => ("MarkedBodyModel", "status", "I", false)
  | 2 => ("MarkedBodyModel", "lane", "[I", true)
  | 3 => ("MarkedBodyModel", "itemsOf", "[I", true)
  | 4 => ("MarkedBodyModel", "item", "[I", true)
  | 5 => ("MarkedBodyModel", "marks", "I", false)
  | 6 => ("MarkedBodyModel", "parent", "[I", true)
  | 7 => ("MarkedBodyModel", "way", "[I", true)
  | 8 => ("MarkedBodyModel", "laws", "I", false)
  | 9 => ("MarkedBodyModel", "lines", "I", false)
  | 10 => ("MarkedBodyModel", "sort", "[I", true)
  | 11 => ("MarkedBodyModel", "buyerOf", "[I", true)
  | 12 => ("MarkedBodyModel", "act", "[I", true)
  | 13 => ("MarkedBodyModel", "actOf", "[I", true)
  | 14 => ("MarkedBodyModel", "actBy", "[I", true)
  | 15 => ("MarkedBodyModel", "fromVersion", "[I", true)
  | 16 => ("MarkedBodyModel", "endVersion", "[I", true)
  | 17 => ("MarkedBodyModel", "said", "[I", true)
  | 18 => ("MarkedBodyModel", "saidMany", "[I", true)
  | 19 => ("MarkedBodyModel", "saidMarks", "[I", true)
  | 20 => ("MarkedBodyModel", "tape", "[I", true)
  | 21 => ("MarkedBodyModel", "taped", "I", false)
  | 22 => ("MarkedBodyModel", "latest", "I", false)
  | 23 => ("MarkedBodyModel", "length", "I", false)
  | 24 => ("MarkedBodyModel", "cursor", "I", false)
  | 25 => ("MarkedBodyModel", "token", "I", false)
  | 26 => ("MarkedBodyModel", "from", "I", false)
  | 27 => ("MarkedBodyModel", "till", "I", false)
  | 28 => ("MarkedBodyModel", "fault", "I", false)
  | 29 => ("MarkedBodyModel", "faultAt", "I", false)
  | 30 => ("MarkedBodyModel", "newMarks", "I", false)
  | 31 => ("MarkedBodyModel", "newLaws", "I", false)
  | 32 => ("MarkedBodyModel", "newLines", "I", false)
  | 33 => ("MarkedBodyModel", "waits", "[I", true)
  | 34 => ("MarkedBodyModel", "waiting", "I", false)
  | 35 => ("MarkedBodyModel", "within", "I", false)
  | 36 => ("MarkedBodyModel", "kinds", "I", false)
  | 37 => ("MarkedBodyModel", "holdsOf", "[I", true)
  | 38 => ("MarkedBodyModel", "linesOf", "[I", true)
  | 39 => ("MarkedBodyModel", "pile", "[Z", true)
  | 40 => ("MarkedBodyModel", "version", "I", false)
  | 41 => ("MarkedBodyModel", "cells", "[I", true)
  | 42 => ("MarkedBodyModel", "firstFault", "I", false)
  | 43 => ("MarkedBodyModel", "endOf", "[I", true)
  | 44 => ("MarkedBodyModel", "isHad", "[Z", true)
  | 45 => ("MarkedBodyModel", "buyerKind", "[I", true)
  | 46 => ("MarkedBodyModel", "buyerVersion", "[I", true)
  | 47 => ("MarkedBodyModel", "trace", "[I", true)
  | _ => ("MarkedBodyModel", "traced", "I", false)
def tyX12 : Nat → FieldType := fun k => match k with
  | 0 => .int
  | 1 => .int
  | 2 => .array .int
  | 3 => .array .int
  | 4 => .array .int
  | 5 => .int
  | 6 => .array .int
  | 7 => .array .int
  | 8 => .int
  | 9 => .int
  | 10 => .array .int
  | 11 => .array .int
  | 12 => .array .int
  | 13 => .array .int
  | 14 => .array .int
  | 15 => .array .int
  | 16 => .array .int
  | 17 => .array .int
  | 18 => .array .int
  | 19 => .array .int
  | 20 => .array .int
  | 21 => .int
  | 22 => .int
  | 23 => .int
  | 24 => .int
  | 25 => .int
  | 26 => .int
  | 27 => .int
  | 28 => .int
  | 29 => .int
  | 30 => .int
  | 31 => .int
  | 32 => .int
  | 33 => .array .int
  | 34 => .int
  | 35 => .int
  | 36 => .int
  | 37 => .array .int
  | 38 => .array .int
  | 39 => .array .boolean
  | 40 => .int
  | 41 => .array .int
  | 42 => .int
  | 43 => .array .int
  | 44 => .array .boolean
  | 45 => .array .int
  | 46 => .array .int
  | 47 => .array .int
  | _ => .int
abbrev wsX120 : List Cond := u_ws RX12 TX12 49
theorem nmX12 : ∀ a, a < 49 → ∀ b, b < 49 → a ≠ b → (TX12 a).2.1 ≠ (TX12 b).2.1 := by decide +kernel
theorem tyX12_ok : ∀ k, k < 49 → parseFieldDescriptor (TX12 k).2.2.1 = some (tyX12 k) := by decide +kernel
abbrev vwCl : List vw_C := [(RX0, TX0, 8), (RX1, TX1, 8), (RX2, TX2, 12), (RX3, TX3, 6), (RX4, TX4, 1), (RX5, TX5, 8), (RX6, TX6, 9), (RX7, TX7, 9), (RX8, TX8, 3), (RX9, TX9, 3), (RX10, TX10, 6), (RX11, TX11, 12), (RX12, TX12, 49)]
def owN (mi : Nat) : String := bif Nat.blt mi 250 then (bif Nat.blt mi 125 then (bif Nat.blt mi 62 then (bif Nat.blt mi 31 then (bif Nat.blt mi 15 then (bif Nat.blt mi 7 then (bif Nat.blt mi 3 then (bif Nat.blt mi 1 then "MarkedBody$Asks" else (bif Nat.blt mi 2 then "MarkedBody$Asks" else "MarkedBody$Asks")) else (bif Nat.blt mi 5 then (bif Nat.blt mi 4 then "MarkedBody$Asks" else "MarkedBody$Asks") else (bif Nat.blt mi 6 then "MarkedBody$Asks" else "MarkedBody$Asks"))) else (bif Nat.blt mi 11 then (bif Nat.blt mi 9 then (bif Nat.blt mi 8 then "MarkedBody$Asks" else "MarkedBody$Asks") else (bif Nat.blt mi 10 then "MarkedBody$Asks" else "MarkedBody$Asks")) else (bif Nat.blt mi 13 then (bif Nat.blt mi 12 then "MarkedBody$Asks" else "MarkedBody$Asks") else (bif Nat.blt mi 14 then "MarkedBody$Asks" else "MarkedBody$Asks")))) else (bif Nat.blt mi 23 then (bif Nat.blt mi 19 then (bif Nat.blt mi 17 then (bif Nat.blt mi 16 then "MarkedBody$Book" else "MarkedBody$Book") else (bif Nat.blt mi 18 then "MarkedBody$Book" else "MarkedBody$Book")) else (bif Nat.blt mi 21 then (bif Nat.blt mi 20 then "MarkedBody$Book" else "MarkedBody$Book") else (bif Nat.blt mi 22 then "MarkedBody$Book" else "MarkedBody$Book"))) else (bif Nat.blt mi 27 then (bif Nat.blt mi 25 then (bif Nat.blt mi 24 then "MarkedBody$Book" else "MarkedBody$Ends") else (bif Nat.blt mi 26 then "MarkedBody$Ends" else "MarkedBody$Ends")) else (bif Nat.blt mi 29 then (bif Nat.blt mi 28 then "MarkedBody$Ends" else "MarkedBody$Ends") else (bif Nat.blt mi 30 then "MarkedBody$Ends" else "MarkedBody$Ends"))))) else (bif Nat.blt mi 46 then (bif Nat.blt mi 38 then (bif Nat.blt mi 34 then (bif Nat.blt mi 32 then "MarkedBody$Ends" else (bif Nat.blt mi 33 then "MarkedBody$Hold" else "MarkedBody$Hold")) else (bif Nat.blt mi 36 then (bif Nat.blt mi 35 then "MarkedBody$Hold" else "MarkedBody$Hold") else (bif Nat.blt mi 37 then "MarkedBody$Hold" else "MarkedBody$Hold"))) else (bif Nat.blt mi 42 then (bif Nat.blt mi 40 then (bif Nat.blt mi 39 then "MarkedBody$Hold" else "MarkedBody$KindSet") else (bif Nat.blt mi 41 then "MarkedBody$KindSet" else "MarkedBody$KindSet")) else (bif Nat.blt mi 44 then (bif Nat.blt mi 43 then "MarkedBody$KindSet" else "MarkedBody$KindSet") else (bif Nat.blt mi 45 then "MarkedBody$KindSet" else "MarkedBody$KindSet")))) else (bif Nat.blt mi 54 then (bif Nat.blt mi 50 then (bif Nat.blt mi 48 then (bif Nat.blt mi 47 then "MarkedBody$KindSet" else "MarkedBody$KindSet") else (bif Nat.blt mi 49 then "MarkedBody$KindSet" else "MarkedBody$KindSet")) else (bif Nat.blt mi 52 then (bif Nat.blt mi 51 then "MarkedBody$KindSet" else "MarkedBody$KindSet") else (bif Nat.blt mi 53 then "MarkedBody$KindSet" else "MarkedBody$KindSet"))) else (bif Nat.blt mi 58 then (bif Nat.blt mi 56 then (bif Nat.blt mi 55 then "MarkedBody$KindSet" else "MarkedBody$KindSet") else (bif Nat.blt mi 57 then "MarkedBody$KindSet" else "MarkedBody$KindSet")) else (bif Nat.blt mi 60 then (bif Nat.blt mi 59 then "MarkedBody$Kinds" else "MarkedBody$Kinds") else (bif Nat.blt mi 61 then "MarkedBody$Kinds" else "MarkedBody$Kinds")))))) else (bif Nat.blt mi 93 then (bif Nat.blt mi 77 then (bif Nat.blt mi 69 then (bif Nat.blt mi 65 then (bif Nat.blt mi 63 then "MarkedBody$Kinds" else (bif Nat.blt mi 64 then "MarkedBody$Kinds" else "MarkedBody$Kinds")) else (bif Nat.blt mi 67 then (bif Nat.blt mi 66 then "MarkedBody$Kinds" else "MarkedBody$Kinds") else (bif Nat.blt mi 68 then "MarkedBody$Kinds" else "MarkedBody$Kinds"))) else (bif Nat.blt mi 73 then (bif Nat.blt mi 71 then (bif Nat.blt mi 70 then "MarkedBody$Kinds" else "MarkedBody$Kinds") else (bif Nat.blt mi 72 then "MarkedBody$Kinds" else "MarkedBody$Kinds")) else (bif Nat.blt mi 75 then (bif Nat.blt mi 74 then "MarkedBody$Line" else "MarkedBody$Line") else (bif Nat.blt mi 76 then "MarkedBody$Line" else "MarkedBody$Line")))) else (bif Nat.blt mi 85 then (bif Nat.blt mi 81 then (bif Nat.blt mi 79 then (bif Nat.blt mi 78 then "MarkedBody$Reader" else "MarkedBody$Reader") else (bif Nat.blt mi 80 then "MarkedBody$Reader" else "MarkedBody$Reader")) else (bif Nat.blt mi 83 then (bif Nat.blt mi 82 then "MarkedBody$Reader" else "MarkedBody$Reader") else (bif Nat.blt mi 84 then "MarkedBody$Reader" else "MarkedBody$Reader"))) else (bif Nat.blt mi 89 then (bif Nat.blt mi 87 then (bif Nat.blt mi 86 then "MarkedBody$Reader" else "MarkedBody$Reader") else (bif Nat.blt mi 88 then "MarkedBody$Reader" else "MarkedBody$Reader")) else (bif Nat.blt mi 91 then (bif Nat.blt mi 90 then "MarkedBody$Reader" else "MarkedBody$Reader") else (bif Nat.blt mi 92 then "MarkedBody$Reader" else "MarkedBody$Reader"))))) else (bif Nat.blt mi 109 then (bif Nat.blt mi 101 then (bif Nat.blt mi 97 then (bif Nat.blt mi 95 then (bif Nat.blt mi 94 then "MarkedBody$Reader" else "MarkedBody$Run") else (bif Nat.blt mi 96 then "MarkedBody$Run" else "MarkedBody$Run")) else (bif Nat.blt mi 99 then (bif Nat.blt mi 98 then "MarkedBody$Run" else "MarkedBody$Sheet") else (bif Nat.blt mi 100 then "MarkedBody$Sheet" else "MarkedBody$Sheet"))) else (bif Nat.blt mi 105 then (bif Nat.blt mi 103 then (bif Nat.blt mi 102 then "MarkedBody$Sheet" else "MarkedBody$Sheet") else (bif Nat.blt mi 104 then "MarkedBody$Tape" else "MarkedBody$Tape")) else (bif Nat.blt mi 107 then (bif Nat.blt mi 106 then "MarkedBody$Tape" else "MarkedBody$Tape") else (bif Nat.blt mi 108 then "MarkedBody$Tape" else "MarkedBody$Tape")))) else (bif Nat.blt mi 117 then (bif Nat.blt mi 113 then (bif Nat.blt mi 111 then (bif Nat.blt mi 110 then "MarkedBody$Tape" else "MarkedBody$Tape") else (bif Nat.blt mi 112 then "MarkedBody$Tape" else "MarkedBody")) else (bif Nat.blt mi 115 then (bif Nat.blt mi 114 then "MarkedBody" else "MarkedBody") else (bif Nat.blt mi 116 then "MarkedBody" else "MarkedBody"))) else (bif Nat.blt mi 121 then (bif Nat.blt mi 119 then (bif Nat.blt mi 118 then "MarkedBody" else "MarkedBody") else (bif Nat.blt mi 120 then "MarkedBody" else "MarkedBody")) else (bif Nat.blt mi 123 then (bif Nat.blt mi 122 then "MarkedBody" else "MarkedBody") else (bif Nat.blt mi 124 then "MarkedBody" else "MarkedBody"))))))) else (bif Nat.blt mi 187 then (bif Nat.blt mi 156 then (bif Nat.blt mi 140 then (bif Nat.blt mi 132 then (bif Nat.blt mi 128 then (bif Nat.blt mi 126 then "MarkedBody" else (bif Nat.blt mi 127 then "MarkedBody" else "MarkedBody")) else (bif Nat.blt mi 130 then (bif Nat.blt mi 129 then "MarkedBody" else "MarkedBody") else (bif Nat.blt mi 131 then "MarkedBody" else "MarkedBody"))) else (bif Nat.blt mi 136 then (bif Nat.blt mi 134 then (bif Nat.blt mi 133 then "MarkedBody" else "MarkedBody") else (bif Nat.blt mi 135 then "MarkedBody" else "MarkedBody")) else (bif Nat.blt mi 138 then (bif Nat.blt mi 137 then "MarkedBody" else "MarkedBody") else (bif Nat.blt mi 139 then "MarkedBody" else "MarkedBody")))) else (bif Nat.blt mi 148 then (bif Nat.blt mi 144 then (bif Nat.blt mi 142 then (bif Nat.blt mi 141 then "MarkedBody" else "MarkedBody") else (bif Nat.blt mi 143 then "MarkedBody" else "MarkedBody")) else (bif Nat.blt mi 146 then (bif Nat.blt mi 145 then "MarkedBody" else "MarkedBody") else (bif Nat.blt mi 147 then "MarkedBody" else "MarkedBody"))) else (bif Nat.blt mi 152 then (bif Nat.blt mi 150 then (bif Nat.blt mi 149 then "MarkedBody" else "MarkedBody") else (bif Nat.blt mi 151 then "MarkedBody" else "MarkedBody")) else (bif Nat.blt mi 154 then (bif Nat.blt mi 153 then "MarkedBody" else "MarkedBody") else (bif Nat.blt mi 155 then "MarkedBodyModel" else "MarkedBodyModel"))))) else (bif Nat.blt mi 171 then (bif Nat.blt mi 163 then (bif Nat.blt mi 159 then (bif Nat.blt mi 157 then "MarkedBodyModel" else (bif Nat.blt mi 158 then "MarkedBodyModel" else "MarkedBodyModel")) else (bif Nat.blt mi 161 then (bif Nat.blt mi 160 then "MarkedBodyModel" else "MarkedBodyModel") else (bif Nat.blt mi 162 then "MarkedBodyModel" else "MarkedBodyModel"))) else (bif Nat.blt mi 167 then (bif Nat.blt mi 165 then (bif Nat.blt mi 164 then "MarkedBodyModel" else "MarkedBodyModel") else (bif Nat.blt mi 166 then "MarkedBodyModel" else "MarkedBodyModel")) else (bif Nat.blt mi 169 then (bif Nat.blt mi 168 then "MarkedBodyModel" else "MarkedBodyModel") else (bif Nat.blt mi 170 then "MarkedBodyModel" else "MarkedBodyModel")))) else (bif Nat.blt mi 179 then (bif Nat.blt mi 175 then (bif Nat.blt mi 173 then (bif Nat.blt mi 172 then "MarkedBodyModel" else "MarkedBodyModel") else (bif Nat.blt mi 174 then "MarkedBodyModel" else "MarkedBodyModel")) else (bif Nat.blt mi 177 then (bif Nat.blt mi 176 then "MarkedBodyModel" else "MarkedBodyModel") else (bif Nat.blt mi 178 then "MarkedBodyModel" else "MarkedBodyModel"))) else (bif Nat.blt mi 183 then (bif Nat.blt mi 181 then (bif Nat.blt mi 180 then "MarkedBodyModel" else "MarkedBodyModel") else (bif Nat.blt mi 182 then "MarkedBodyModel" else "MarkedBodyModel")) else (bif Nat.blt mi 185 then (bif Nat.blt mi 184 then "MarkedBodyModel" else "MarkedBodyModel") else (bif Nat.blt mi 186 then "MarkedBodyModel" else "MarkedBodyModel")))))) else (bif Nat.blt mi 218 then (bif Nat.blt mi 202 then (bif Nat.blt mi 194 then (bif Nat.blt mi 190 then (bif Nat.blt mi 188 then "MarkedBodyModel" else (bif Nat.blt mi 189 then "MarkedBodyModel" else "MarkedBodyModel")) else (bif Nat.blt mi 192 then (bif Nat.blt mi 191 then "MarkedBodyModel" else "MarkedBodyModel") else (bif Nat.blt mi 193 then "MarkedBodyModel" else "MarkedBodyModel"))) else (bif Nat.blt mi 198 then (bif Nat.blt mi 196 then (bif Nat.blt mi 195 then "MarkedBodyModel" else "MarkedBodyModel") else (bif Nat.blt mi 197 then "MarkedBodyModel" else "MarkedBodyModel")) else (bif Nat.blt mi 200 then (bif Nat.blt mi 199 then "MarkedBodyModel" else "MarkedBodyModel") else (bif Nat.blt mi 201 then "MarkedBodyModel" else "MarkedBodyModel")))) else (bif Nat.blt mi 210 then (bif Nat.blt mi 206 then (bif Nat.blt mi 204 then (bif Nat.blt mi 203 then "MarkedBodyModel" else "MarkedBodyModel") else (bif Nat.blt mi 205 then "MarkedBodyModel" else "MarkedBodyModel")) else (bif Nat.blt mi 208 then (bif Nat.blt mi 207 then "MarkedBodyModel" else "MarkedBodyModel") else (bif Nat.blt mi 209 then "MarkedBodyModel" else "MarkedBodyModel"))) else (bif Nat.blt mi 214 then (bif Nat.blt mi 212 then (bif Nat.blt mi 211 then "MarkedBodyModel" else "MarkedBodyModel") else (bif Nat.blt mi 213 then "MarkedBodyModel" else "MarkedBodyModel")) else (bif Nat.blt mi 216 then (bif Nat.blt mi 215 then "MarkedBodyModel" else "MarkedBodyModel") else (bif Nat.blt mi 217 then "MarkedBodyModel" else "MarkedBodyModel"))))) else (bif Nat.blt mi 234 then (bif Nat.blt mi 226 then (bif Nat.blt mi 222 then (bif Nat.blt mi 220 then (bif Nat.blt mi 219 then "MarkedBodyModel" else "MarkedBodyModel") else (bif Nat.blt mi 221 then "MarkedBodyModel" else "MarkedBodyModel")) else (bif Nat.blt mi 224 then (bif Nat.blt mi 223 then "MarkedBodyModel" else "MarkedBodyModel") else (bif Nat.blt mi 225 then "MarkedBodyModel" else "MarkedBodyModel"))) else (bif Nat.blt mi 230 then (bif Nat.blt mi 228 then (bif Nat.blt mi 227 then "MarkedBodyModel" else "MarkedBodyModel") else (bif Nat.blt mi 229 then "MarkedBodyModel" else "MarkedBodyModel")) else (bif Nat.blt mi 232 then (bif Nat.blt mi 231 then "MarkedBodyModel" else "MarkedBodyModel") else (bif Nat.blt mi 233 then "MarkedBodyModel" else "MarkedBodyModel")))) else (bif Nat.blt mi 242 then (bif Nat.blt mi 238 then (bif Nat.blt mi 236 then (bif Nat.blt mi 235 then "MarkedBodyModel" else "MarkedBodyModel") else (bif Nat.blt mi 237 then "MarkedBodyModel" else "MarkedBodyModel")) else (bif Nat.blt mi 240 then (bif Nat.blt mi 239 then "java/lang/Integer" else "java/lang/Long") else (bif Nat.blt mi 241 then "java/lang/String" else "java/lang/String"))) else (bif Nat.blt mi 246 then (bif Nat.blt mi 244 then (bif Nat.blt mi 243 then "java/lang/String" else "java/lang/String") else (bif Nat.blt mi 245 then "java/lang/String" else "java/lang/StringLatin1")) else (bif Nat.blt mi 248 then (bif Nat.blt mi 247 then "java/util/Arrays" else "java/util/Arrays") else (bif Nat.blt mi 249 then "jdk/internal/util/Preconditions" else "MarkedBodyLaw")))))))) else ""
def yyN (mi : Nat) : MethodName := bif Nat.blt mi 250 then (bif Nat.blt mi 125 then (bif Nat.blt mi 62 then (bif Nat.blt mi 31 then (bif Nat.blt mi 15 then (bif Nat.blt mi 7 then (bif Nat.blt mi 3 then (bif Nat.blt mi 1 then (⟨"MarkedBody$Asks", "<init>", "(LMarkedBody$Book;LMarkedBody$Kinds;)V"⟩ : MethodName) else (bif Nat.blt mi 2 then (⟨"MarkedBody$Asks", "isTakenAs", "(II)Z"⟩ : MethodName) else (⟨"MarkedBody$Asks", "begin", "(I)V"⟩ : MethodName))) else (bif Nat.blt mi 5 then (bif Nat.blt mi 4 then (⟨"MarkedBody$Asks", "askSize", "()I"⟩ : MethodName) else (⟨"MarkedBody$Asks", "askMark", "()I"⟩ : MethodName)) else (bif Nat.blt mi 6 then (⟨"MarkedBody$Asks", "leave", "(I)V"⟩ : MethodName) else (⟨"MarkedBody$Asks", "sizeLent", "()I"⟩ : MethodName)))) else (bif Nat.blt mi 11 then (bif Nat.blt mi 9 then (bif Nat.blt mi 8 then (⟨"MarkedBody$Asks", "sizeOfWhen", "()I"⟩ : MethodName) else (⟨"MarkedBody$Asks", "sizeOfOther", "()I"⟩ : MethodName)) else (bif Nat.blt mi 10 then (⟨"MarkedBody$Asks", "sizeOfPatch", "()I"⟩ : MethodName) else (⟨"MarkedBody$Asks", "sizeOfIdler", "()I"⟩ : MethodName))) else (bif Nat.blt mi 13 then (bif Nat.blt mi 12 then (⟨"MarkedBody$Asks", "markLent", "()I"⟩ : MethodName) else (⟨"MarkedBody$Asks", "markOfOther", "()I"⟩ : MethodName)) else (bif Nat.blt mi 14 then (⟨"MarkedBody$Asks", "markOfPatch", "()I"⟩ : MethodName) else (⟨"MarkedBody$Asks", "markOfAlways", "()I"⟩ : MethodName))))) else (bif Nat.blt mi 23 then (bif Nat.blt mi 19 then (bif Nat.blt mi 17 then (bif Nat.blt mi 16 then (⟨"MarkedBody$Book", "<init>", "()V"⟩ : MethodName) else (⟨"MarkedBody$Book", "hasBit", "(II)Z"⟩ : MethodName)) else (bif Nat.blt mi 18 then (⟨"MarkedBody$Book", "isMark", "(I)Z"⟩ : MethodName) else (⟨"MarkedBody$Book", "isLine", "(I)Z"⟩ : MethodName))) else (bif Nat.blt mi 21 then (bif Nat.blt mi 20 then (⟨"MarkedBody$Book", "allMarks", "()I"⟩ : MethodName) else (⟨"MarkedBody$Book", "isKind", "(I)Z"⟩ : MethodName)) else (bif Nat.blt mi 22 then (⟨"MarkedBody$Book", "isChoice", "(II)Z"⟩ : MethodName) else (⟨"MarkedBody$Book", "patches", "()I"⟩ : MethodName)))) else (bif Nat.blt mi 27 then (bif Nat.blt mi 25 then (bif Nat.blt mi 24 then (⟨"MarkedBody$Book", "standing", "(III)I"⟩ : MethodName) else (⟨"MarkedBody$Ends", "<init>", "(LMarkedBody$Book;LMarkedBody$Kinds;)V"⟩ : MethodName)) else (bif Nat.blt mi 26 then (⟨"MarkedBody$Ends", "learn", "()V"⟩ : MethodName) else (⟨"MarkedBody$Ends", "leastTogether", "(II)I"⟩ : MethodName))) else (bif Nat.blt mi 29 then (bif Nat.blt mi 28 then (⟨"MarkedBody$Ends", "actTogether", "(III)Z"⟩ : MethodName) else (⟨"MarkedBody$Ends", "gatherFailing", "(I)V"⟩ : MethodName)) else (bif Nat.blt mi 30 then (⟨"MarkedBody$Ends", "weakestSaying", "()I"⟩ : MethodName) else (⟨"MarkedBody$Ends", "keepLiteral", "(I)V"⟩ : MethodName)))))) else (bif Nat.blt mi 46 then (bif Nat.blt mi 38 then (bif Nat.blt mi 34 then (bif Nat.blt mi 32 then (⟨"MarkedBody$Ends", "weigh", "(I)V"⟩ : MethodName) else (bif Nat.blt mi 33 then (⟨"MarkedBody$Hold", "<init>", "(LMarkedBody$Book;LMarkedBody$Kinds;)V"⟩ : MethodName) else (⟨"MarkedBody$Hold", "learn", "()V"⟩ : MethodName))) else (bif Nat.blt mi 36 then (bif Nat.blt mi 35 then (⟨"MarkedBody$Hold", "bestKind", "()I"⟩ : MethodName) else (⟨"MarkedBody$Hold", "newPairs", "(I)I"⟩ : MethodName)) else (bif Nat.blt mi 37 then (⟨"MarkedBody$Hold", "addPairs", "(I)V"⟩ : MethodName) else (⟨"MarkedBody$Hold", "literalsOf", "(I)I"⟩ : MethodName)))) else (bif Nat.blt mi 42 then (bif Nat.blt mi 40 then (bif Nat.blt mi 39 then (⟨"MarkedBody$Hold", "literalOf", "(II)I"⟩ : MethodName) else (⟨"MarkedBody$KindSet", "<init>", "()V"⟩ : MethodName)) else (bif Nat.blt mi 41 then (⟨"MarkedBody$KindSet", "clear", "()V"⟩ : MethodName) else (⟨"MarkedBody$KindSet", "fill", "()V"⟩ : MethodName))) else (bif Nat.blt mi 44 then (bif Nat.blt mi 43 then (⟨"MarkedBody$KindSet", "put", "(I)V"⟩ : MethodName) else (⟨"MarkedBody$KindSet", "has", "(I)Z"⟩ : MethodName)) else (bif Nat.blt mi 45 then (⟨"MarkedBody$KindSet", "take", "(LMarkedBody$KindSet;)V"⟩ : MethodName) else (⟨"MarkedBody$KindSet", "turn", "()V"⟩ : MethodName))))) else (bif Nat.blt mi 54 then (bif Nat.blt mi 50 then (bif Nat.blt mi 48 then (bif Nat.blt mi 47 then (⟨"MarkedBody$KindSet", "join", "(LMarkedBody$KindSet;)V"⟩ : MethodName) else (⟨"MarkedBody$KindSet", "keep", "(LMarkedBody$KindSet;)V"⟩ : MethodName)) else (bif Nat.blt mi 49 then (⟨"MarkedBody$KindSet", "leaveOut", "(LMarkedBody$KindSet;)V"⟩ : MethodName) else (⟨"MarkedBody$KindSet", "keepOn", "(I)V"⟩ : MethodName))) else (bif Nat.blt mi 52 then (bif Nat.blt mi 51 then (⟨"MarkedBody$KindSet", "keepOff", "(I)V"⟩ : MethodName) else (⟨"MarkedBody$KindSet", "keepChoice", "(II)V"⟩ : MethodName)) else (bif Nat.blt mi 53 then (⟨"MarkedBody$KindSet", "isEmpty", "()Z"⟩ : MethodName) else (⟨"MarkedBody$KindSet", "isWithin", "(LMarkedBody$KindSet;)Z"⟩ : MethodName)))) else (bif Nat.blt mi 58 then (bif Nat.blt mi 56 then (bif Nat.blt mi 55 then (⟨"MarkedBody$KindSet", "hasOn", "(I)Z"⟩ : MethodName) else (⟨"MarkedBody$KindSet", "hasOff", "(I)Z"⟩ : MethodName)) else (bif Nat.blt mi 57 then (⟨"MarkedBody$KindSet", "size", "()I"⟩ : MethodName) else (⟨"MarkedBody$KindSet", "wordWith", "(II)J"⟩ : MethodName))) else (bif Nat.blt mi 60 then (bif Nat.blt mi 59 then (⟨"MarkedBody$Kinds", "<init>", "(LMarkedBody$Book;)V"⟩ : MethodName) else (⟨"MarkedBody$Kinds", "refresh", "()V"⟩ : MethodName)) else (bif Nat.blt mi 61 then (⟨"MarkedBody$Kinds", "gatherBranches", "()V"⟩ : MethodName) else (⟨"MarkedBody$Kinds", "treeHolds", "(I)Z"⟩ : MethodName))))))) else (bif Nat.blt mi 93 then (bif Nat.blt mi 77 then (bif Nat.blt mi 69 then (bif Nat.blt mi 65 then (bif Nat.blt mi 63 then (⟨"MarkedBody$Kinds", "branchHolds", "(II)Z"⟩ : MethodName) else (bif Nat.blt mi 64 then (⟨"MarkedBody$Kinds", "deadMarks", "()I"⟩ : MethodName) else (⟨"MarkedBody$Kinds", "sureMarks", "()I"⟩ : MethodName))) else (bif Nat.blt mi 67 then (bif Nat.blt mi 66 then (⟨"MarkedBody$Kinds", "idleLaws", "()I"⟩ : MethodName) else (⟨"MarkedBody$Kinds", "forcedMarks", "(IIZ)I"⟩ : MethodName)) else (bif Nat.blt mi 68 then (⟨"MarkedBody$Kinds", "nearestTo", "(I)I"⟩ : MethodName) else (⟨"MarkedBody$Kinds", "fewestBars", "(II)I"⟩ : MethodName)))) else (bif Nat.blt mi 73 then (bif Nat.blt mi 71 then (bif Nat.blt mi 70 then (⟨"MarkedBody$Kinds", "barSome", "(I)Z"⟩ : MethodName) else (⟨"MarkedBody$Kinds", "bodiesWith", "(I)I"⟩ : MethodName)) else (bif Nat.blt mi 72 then (⟨"MarkedBody$Kinds", "kindOfLine", "(I)I"⟩ : MethodName) else (⟨"MarkedBody$Kinds", "idlers", "()I"⟩ : MethodName))) else (bif Nat.blt mi 75 then (bif Nat.blt mi 74 then (⟨"MarkedBody$Line", "<init>", "()V"⟩ : MethodName) else (⟨"MarkedBody$Line", "begin", "(I)V"⟩ : MethodName)) else (bif Nat.blt mi 76 then (⟨"MarkedBody$Line", "isFor", "(II)Z"⟩ : MethodName) else (⟨"MarkedBody$Line", "kindWhenUsed", "()I"⟩ : MethodName))))) else (bif Nat.blt mi 85 then (bif Nat.blt mi 81 then (bif Nat.blt mi 79 then (bif Nat.blt mi 78 then (⟨"MarkedBody$Reader", "<init>", "(LMarkedBody$Tape;LMarkedBody$Book;)V"⟩ : MethodName) else (⟨"MarkedBody$Reader", "begin", "()V"⟩ : MethodName)) else (bif Nat.blt mi 80 then (⟨"MarkedBody$Reader", "keepAll", "()V"⟩ : MethodName) else (⟨"MarkedBody$Reader", "readStatement", "()Z"⟩ : MethodName))) else (bif Nat.blt mi 83 then (bif Nat.blt mi 82 then (⟨"MarkedBody$Reader", "fail", "(I)Z"⟩ : MethodName) else (⟨"MarkedBody$Reader", "readMark", "()Z"⟩ : MethodName)) else (bif Nat.blt mi 84 then (⟨"MarkedBody$Reader", "readLaw", "()Z"⟩ : MethodName) else (⟨"MarkedBody$Reader", "readLine", "()Z"⟩ : MethodName)))) else (bif Nat.blt mi 89 then (bif Nat.blt mi 87 then (bif Nat.blt mi 86 then (⟨"MarkedBody$Reader", "readSort", "(LMarkedBody$Line;)Z"⟩ : MethodName) else (⟨"MarkedBody$Reader", "readAct", "(LMarkedBody$Line;)Z"⟩ : MethodName)) else (bif Nat.blt mi 88 then (⟨"MarkedBody$Reader", "chosen", "(Ljava/lang/String;Ljava/lang/String;Ljava/lang/String;)I"⟩ : MethodName) else (⟨"MarkedBody$Reader", "readNumber", "(I)I"⟩ : MethodName))) else (bif Nat.blt mi 91 then (bif Nat.blt mi 90 then (⟨"MarkedBody$Reader", "readSemicolon", "()Z"⟩ : MethodName) else (⟨"MarkedBody$Reader", "readSaying", "(II)Z"⟩ : MethodName)) else (bif Nat.blt mi 92 then (⟨"MarkedBody$Reader", "readPart", "(II)Z"⟩ : MethodName) else (⟨"MarkedBody$Reader", "readAtom", "(II)Z"⟩ : MethodName)))))) else (bif Nat.blt mi 109 then (bif Nat.blt mi 101 then (bif Nat.blt mi 97 then (bif Nat.blt mi 95 then (bif Nat.blt mi 94 then (⟨"MarkedBody$Reader", "markHere", "()I"⟩ : MethodName) else (⟨"MarkedBody$Run", "<init>", "()V"⟩ : MethodName)) else (bif Nat.blt mi 96 then (⟨"MarkedBody$Run", "perform", "(LMarkedBody$Book;I)V"⟩ : MethodName) else (⟨"MarkedBody$Run", "act", "(LMarkedBody$Line;I)V"⟩ : MethodName))) else (bif Nat.blt mi 99 then (bif Nat.blt mi 98 then (⟨"MarkedBody$Run", "need", "(II)V"⟩ : MethodName) else (⟨"MarkedBody$Sheet", "<init>", "()V"⟩ : MethodName)) else (bif Nat.blt mi 100 then (⟨"MarkedBody$Sheet", "isMissing", "()Z"⟩ : MethodName) else (⟨"MarkedBody$Sheet", "lay", "(II)V"⟩ : MethodName)))) else (bif Nat.blt mi 105 then (bif Nat.blt mi 103 then (bif Nat.blt mi 102 then (⟨"MarkedBody$Sheet", "hasPlaces", "(II)Z"⟩ : MethodName) else (⟨"MarkedBody$Sheet", "narrowed", "(I)I"⟩ : MethodName)) else (bif Nat.blt mi 104 then (⟨"MarkedBody$Tape", "<init>", "()V"⟩ : MethodName) else (⟨"MarkedBody$Tape", "rewind", "()V"⟩ : MethodName))) else (bif Nat.blt mi 107 then (bif Nat.blt mi 106 then (⟨"MarkedBody$Tape", "scan", "()V"⟩ : MethodName) else (⟨"MarkedBody$Tape", "takeFigures", "()V"⟩ : MethodName)) else (bif Nat.blt mi 108 then (⟨"MarkedBody$Tape", "isAtEnd", "()Z"⟩ : MethodName) else (⟨"MarkedBody$Tape", "isNumber", "()Z"⟩ : MethodName))))) else (bif Nat.blt mi 117 then (bif Nat.blt mi 113 then (bif Nat.blt mi 111 then (bif Nat.blt mi 110 then (⟨"MarkedBody$Tape", "isSign", "(C)Z"⟩ : MethodName) else (⟨"MarkedBody$Tape", "isWord", "(Ljava/lang/String;)Z"⟩ : MethodName)) else (bif Nat.blt mi 112 then (⟨"MarkedBody$Tape", "sortOf", "(B)I"⟩ : MethodName) else (⟨"MarkedBody", "<init>", "()V"⟩ : MethodName))) else (bif Nat.blt mi 115 then (bif Nat.blt mi 114 then (⟨"MarkedBody", "sheet", "(III)I"⟩ : MethodName) else (⟨"MarkedBody", "set", "(III)I"⟩ : MethodName)) else (bif Nat.blt mi 116 then (⟨"MarkedBody", "copy", "(IIIII)I"⟩ : MethodName) else (⟨"MarkedBody", "drop", "(I)I"⟩ : MethodName)))) else (bif Nat.blt mi 121 then (bif Nat.blt mi 119 then (bif Nat.blt mi 118 then (⟨"MarkedBody", "feed", "(JI)I"⟩ : MethodName) else (⟨"MarkedBody", "read", "()I"⟩ : MethodName)) else (bif Nat.blt mi 120 then (⟨"MarkedBody", "fault", "()I"⟩ : MethodName) else (⟨"MarkedBody", "allowed", "(I)I"⟩ : MethodName))) else (bif Nat.blt mi 123 then (bif Nat.blt mi 122 then (⟨"MarkedBody", "holds", "(III)I"⟩ : MethodName) else (⟨"MarkedBody", "many", "()I"⟩ : MethodName)) else (bif Nat.blt mi 124 then (⟨"MarkedBody", "idle", "(I)I"⟩ : MethodName) else (⟨"MarkedBody", "forced", "(III)I"⟩ : MethodName)))))))) else (bif Nat.blt mi 187 then (bif Nat.blt mi 156 then (bif Nat.blt mi 140 then (bif Nat.blt mi 132 then (bif Nat.blt mi 128 then (bif Nat.blt mi 126 then (⟨"MarkedBody", "nearest", "(I)I"⟩ : MethodName) else (bif Nat.blt mi 127 then (⟨"MarkedBody", "why", "(II)I"⟩ : MethodName) else (⟨"MarkedBody", "version", "(I)I"⟩ : MethodName))) else (bif Nat.blt mi 130 then (bif Nat.blt mi 129 then (⟨"MarkedBody", "end", "(I)I"⟩ : MethodName) else (⟨"MarkedBody", "line", "(II)I"⟩ : MethodName)) else (bif Nat.blt mi 131 then (⟨"MarkedBody", "body", "(III)I"⟩ : MethodName) else (⟨"MarkedBody", "run", "(IIII)I"⟩ : MethodName)))) else (bif Nat.blt mi 136 then (bif Nat.blt mi 134 then (bif Nat.blt mi 133 then (⟨"MarkedBody", "ends", "(I)I"⟩ : MethodName) else (⟨"MarkedBody", "together", "(II)I"⟩ : MethodName)) else (bif Nat.blt mi 135 then (⟨"MarkedBody", "hold", "(I)I"⟩ : MethodName) else (⟨"MarkedBody", "failing", "(II)I"⟩ : MethodName))) else (bif Nat.blt mi 138 then (bif Nat.blt mi 137 then (⟨"MarkedBody", "buyer", "(III)I"⟩ : MethodName) else (⟨"MarkedBody", "buyers", "(III)I"⟩ : MethodName)) else (bif Nat.blt mi 139 then (⟨"MarkedBody", "who", "(I)I"⟩ : MethodName) else (⟨"MarkedBody", "alike", "(II)I"⟩ : MethodName))))) else (bif Nat.blt mi 148 then (bif Nat.blt mi 144 then (bif Nat.blt mi 142 then (bif Nat.blt mi 141 then (⟨"MarkedBody", "kind", "(I)I"⟩ : MethodName) else (⟨"MarkedBody", "as", "(II)I"⟩ : MethodName)) else (bif Nat.blt mi 143 then (⟨"MarkedBody", "ask", "(II)I"⟩ : MethodName) else (⟨"MarkedBody", "trace", "(I)I"⟩ : MethodName))) else (bif Nat.blt mi 146 then (bif Nat.blt mi 145 then (⟨"MarkedBody", "count", "(I)I"⟩ : MethodName) else (⟨"MarkedBody", "status", "()I"⟩ : MethodName)) else (bif Nat.blt mi 147 then (⟨"MarkedBody", "found", "(I)I"⟩ : MethodName) else (⟨"MarkedBody", "fine", "(I)I"⟩ : MethodName)))) else (bif Nat.blt mi 152 then (bif Nat.blt mi 150 then (bif Nat.blt mi 149 then (⟨"MarkedBody", "isSheet", "(I)Z"⟩ : MethodName) else (⟨"MarkedBody", "isBuyer", "(I)Z"⟩ : MethodName)) else (bif Nat.blt mi 151 then (⟨"MarkedBody", "isVersion", "(I)Z"⟩ : MethodName) else (⟨"MarkedBody", "isBody", "(III)Z"⟩ : MethodName))) else (bif Nat.blt mi 154 then (bif Nat.blt mi 153 then (⟨"MarkedBody", "sheetsThere", "()I"⟩ : MethodName) else (⟨"MarkedBody", "bodyOfBuyer", "(I)I"⟩ : MethodName)) else (bif Nat.blt mi 155 then (⟨"MarkedBodyModel", "in", "(JJJ)Z"⟩ : MethodName) else (⟨"MarkedBodyModel", "finding", "(I)I"⟩ : MethodName)))))) else (bif Nat.blt mi 171 then (bif Nat.blt mi 163 then (bif Nat.blt mi 159 then (bif Nat.blt mi 157 then (⟨"MarkedBodyModel", "<init>", "()V"⟩ : MethodName) else (bif Nat.blt mi 158 then (⟨"MarkedBodyModel", "isSheet", "(I)Z"⟩ : MethodName) else (⟨"MarkedBodyModel", "sheet", "(III)I"⟩ : MethodName))) else (bif Nat.blt mi 161 then (bif Nat.blt mi 160 then (⟨"MarkedBodyModel", "set", "(III)I"⟩ : MethodName) else (⟨"MarkedBodyModel", "copy", "(IIIII)I"⟩ : MethodName)) else (bif Nat.blt mi 162 then (⟨"MarkedBodyModel", "drop", "(I)I"⟩ : MethodName) else (⟨"MarkedBodyModel", "feed", "(JI)I"⟩ : MethodName)))) else (bif Nat.blt mi 167 then (bif Nat.blt mi 165 then (bif Nat.blt mi 164 then (⟨"MarkedBodyModel", "byteAt", "(I)I"⟩ : MethodName) else (⟨"MarkedBodyModel", "isLetter", "(I)Z"⟩ : MethodName)) else (bif Nat.blt mi 166 then (⟨"MarkedBodyModel", "isFigure", "(I)Z"⟩ : MethodName) else (⟨"MarkedBodyModel", "step", "()V"⟩ : MethodName))) else (bif Nat.blt mi 169 then (bif Nat.blt mi 168 then (⟨"MarkedBodyModel", "bad", "(I)V"⟩ : MethodName) else (⟨"MarkedBodyModel", "must", "(Z)V"⟩ : MethodName)) else (bif Nat.blt mi 170 then (⟨"MarkedBodyModel", "is", "(I)Z"⟩ : MethodName) else (⟨"MarkedBodyModel", "word", "()J"⟩ : MethodName))))) else (bif Nat.blt mi 179 then (bif Nat.blt mi 175 then (bif Nat.blt mi 173 then (bif Nat.blt mi 172 then (⟨"MarkedBodyModel", "numberHere", "()I"⟩ : MethodName) else (⟨"MarkedBodyModel", "numberTo", "(I)I"⟩ : MethodName)) else (bif Nat.blt mi 174 then (⟨"MarkedBodyModel", "say", "(II)V"⟩ : MethodName) else (⟨"MarkedBodyModel", "putBy", "(I)V"⟩ : MethodName))) else (bif Nat.blt mi 177 then (bif Nat.blt mi 176 then (⟨"MarkedBodyModel", "lastWaiting", "()I"⟩ : MethodName) else (⟨"MarkedBodyModel", "come", "(II)V"⟩ : MethodName)) else (bif Nat.blt mi 178 then (⟨"MarkedBodyModel", "goIn", "(I)V"⟩ : MethodName) else (⟨"MarkedBodyModel", "readSaying", "(I)V"⟩ : MethodName)))) else (bif Nat.blt mi 183 then (bif Nat.blt mi 181 then (bif Nat.blt mi 180 then (⟨"MarkedBodyModel", "readMark", "()V"⟩ : MethodName) else (⟨"MarkedBodyModel", "readLine", "()V"⟩ : MethodName)) else (bif Nat.blt mi 182 then (⟨"MarkedBodyModel", "read", "()I"⟩ : MethodName) else (⟨"MarkedBodyModel", "fault", "()I"⟩ : MethodName))) else (bif Nat.blt mi 185 then (bif Nat.blt mi 184 then (⟨"MarkedBodyModel", "isSaid", "(II)Z"⟩ : MethodName) else (⟨"MarkedBodyModel", "has", "(II)Z"⟩ : MethodName)) else (bif Nat.blt mi 186 then (⟨"MarkedBodyModel", "holdsTree", "(I)Z"⟩ : MethodName) else (⟨"MarkedBodyModel", "workOut", "()V"⟩ : MethodName))))))) else (bif Nat.blt mi 218 then (bif Nat.blt mi 202 then (bif Nat.blt mi 194 then (bif Nat.blt mi 190 then (bif Nat.blt mi 188 then (⟨"MarkedBodyModel", "allLaws", "()I"⟩ : MethodName) else (bif Nat.blt mi 189 then (⟨"MarkedBodyModel", "isAllowed", "(I)Z"⟩ : MethodName) else (⟨"MarkedBodyModel", "isKind", "(I)Z"⟩ : MethodName))) else (bif Nat.blt mi 192 then (bif Nat.blt mi 191 then (⟨"MarkedBodyModel", "allowed", "(I)I"⟩ : MethodName) else (⟨"MarkedBodyModel", "holds", "(III)I"⟩ : MethodName)) else (bif Nat.blt mi 193 then (⟨"MarkedBodyModel", "manyHold", "(I)I"⟩ : MethodName) else (⟨"MarkedBodyModel", "many", "()I"⟩ : MethodName)))) else (bif Nat.blt mi 198 then (bif Nat.blt mi 196 then (bif Nat.blt mi 195 then (⟨"MarkedBodyModel", "idle", "(I)I"⟩ : MethodName) else (⟨"MarkedBodyModel", "isChoice", "(II)Z"⟩ : MethodName)) else (bif Nat.blt mi 197 then (⟨"MarkedBodyModel", "goesWith", "(III)Z"⟩ : MethodName) else (⟨"MarkedBodyModel", "forced", "(III)I"⟩ : MethodName))) else (bif Nat.blt mi 200 then (bif Nat.blt mi 199 then (⟨"MarkedBodyModel", "bits", "(I)I"⟩ : MethodName) else (⟨"MarkedBodyModel", "nearest", "(I)I"⟩ : MethodName)) else (bif Nat.blt mi 201 then (⟨"MarkedBodyModel", "why", "(II)I"⟩ : MethodName) else (⟨"MarkedBodyModel", "version", "(I)I"⟩ : MethodName))))) else (bif Nat.blt mi 210 then (bif Nat.blt mi 206 then (bif Nat.blt mi 204 then (bif Nat.blt mi 203 then (⟨"MarkedBodyModel", "isLine", "(I)Z"⟩ : MethodName) else (⟨"MarkedBodyModel", "end", "(I)I"⟩ : MethodName)) else (bif Nat.blt mi 205 then (⟨"MarkedBodyModel", "line", "(II)I"⟩ : MethodName) else (⟨"MarkedBodyModel", "bodyOf", "(III)I"⟩ : MethodName))) else (bif Nat.blt mi 208 then (bif Nat.blt mi 207 then (⟨"MarkedBodyModel", "isVersion", "(I)Z"⟩ : MethodName) else (⟨"MarkedBodyModel", "isBuyer", "(I)Z"⟩ : MethodName)) else (bif Nat.blt mi 209 then (⟨"MarkedBodyModel", "isBody", "(III)Z"⟩ : MethodName) else (⟨"MarkedBodyModel", "body", "(III)I"⟩ : MethodName)))) else (bif Nat.blt mi 214 then (bif Nat.blt mi 212 then (bif Nat.blt mi 211 then (⟨"MarkedBodyModel", "runBody", "(I)V"⟩ : MethodName) else (⟨"MarkedBodyModel", "run", "(IIII)I"⟩ : MethodName)) else (bif Nat.blt mi 213 then (⟨"MarkedBodyModel", "findEnds", "()V"⟩ : MethodName) else (⟨"MarkedBodyModel", "ends", "(I)I"⟩ : MethodName))) else (bif Nat.blt mi 216 then (bif Nat.blt mi 215 then (⟨"MarkedBodyModel", "isMark", "(I)Z"⟩ : MethodName) else (⟨"MarkedBodyModel", "together", "(II)I"⟩ : MethodName)) else (bif Nat.blt mi 217 then (⟨"MarkedBodyModel", "newPairs", "(IZ)I"⟩ : MethodName) else (⟨"MarkedBodyModel", "hold", "(I)I"⟩ : MethodName)))))) else (bif Nat.blt mi 234 then (bif Nat.blt mi 226 then (bif Nat.blt mi 222 then (bif Nat.blt mi 220 then (bif Nat.blt mi 219 then (⟨"MarkedBodyModel", "isLiteral", "(II)Z"⟩ : MethodName) else (⟨"MarkedBodyModel", "failsBy", "(III)I"⟩ : MethodName)) else (bif Nat.blt mi 221 then (⟨"MarkedBodyModel", "failing", "(II)I"⟩ : MethodName) else (⟨"MarkedBodyModel", "buyer", "(III)I"⟩ : MethodName))) else (bif Nat.blt mi 224 then (bif Nat.blt mi 223 then (⟨"MarkedBodyModel", "buyers", "(III)I"⟩ : MethodName) else (⟨"MarkedBodyModel", "bodyOfBuyer", "(I)I"⟩ : MethodName)) else (bif Nat.blt mi 225 then (⟨"MarkedBodyModel", "who", "(I)I"⟩ : MethodName) else (⟨"MarkedBodyModel", "alike", "(II)I"⟩ : MethodName)))) else (bif Nat.blt mi 230 then (bif Nat.blt mi 228 then (bif Nat.blt mi 227 then (⟨"MarkedBodyModel", "standsIn", "(I)I"⟩ : MethodName) else (⟨"MarkedBodyModel", "kindOf", "(I)I"⟩ : MethodName)) else (bif Nat.blt mi 229 then (⟨"MarkedBodyModel", "isOf", "(II)Z"⟩ : MethodName) else (⟨"MarkedBodyModel", "kind", "(I)I"⟩ : MethodName))) else (bif Nat.blt mi 232 then (bif Nat.blt mi 231 then (⟨"MarkedBodyModel", "as", "(II)I"⟩ : MethodName) else (⟨"MarkedBodyModel", "began", "(I)V"⟩ : MethodName)) else (bif Nat.blt mi 233 then (⟨"MarkedBodyModel", "markOf", "(II)I"⟩ : MethodName) else (⟨"MarkedBodyModel", "sizeOf", "(II)I"⟩ : MethodName))))) else (bif Nat.blt mi 242 then (bif Nat.blt mi 238 then (bif Nat.blt mi 236 then (bif Nat.blt mi 235 then (⟨"MarkedBodyModel", "ask", "(II)I"⟩ : MethodName) else (⟨"MarkedBodyModel", "trace", "(I)I"⟩ : MethodName)) else (bif Nat.blt mi 237 then (⟨"MarkedBodyModel", "count", "(I)I"⟩ : MethodName) else (⟨"MarkedBodyModel", "status", "()I"⟩ : MethodName))) else (bif Nat.blt mi 240 then (bif Nat.blt mi 239 then (⟨"java/lang/Integer", "bitCount", "(I)I"⟩ : MethodName) else (⟨"java/lang/Long", "bitCount", "(J)I"⟩ : MethodName)) else (bif Nat.blt mi 241 then (⟨"java/lang/String", "length", "()I"⟩ : MethodName) else (⟨"java/lang/String", "charAt", "(I)C"⟩ : MethodName)))) else (bif Nat.blt mi 246 then (bif Nat.blt mi 244 then (bif Nat.blt mi 243 then (⟨"java/lang/String", "coder", "()B"⟩ : MethodName) else (⟨"java/lang/String", "isLatin1", "()Z"⟩ : MethodName)) else (bif Nat.blt mi 245 then (⟨"java/lang/String", "checkIndex", "(II)V"⟩ : MethodName) else (⟨"java/lang/StringLatin1", "charAt", "([BI)C"⟩ : MethodName))) else (bif Nat.blt mi 248 then (bif Nat.blt mi 247 then (⟨"java/util/Arrays", "fill", "([JJ)V"⟩ : MethodName) else (⟨"java/util/Arrays", "fill", "([II)V"⟩ : MethodName)) else (bif Nat.blt mi 249 then (⟨"jdk/internal/util/Preconditions", "checkIndex", "(IILjava/util/function/BiFunction;)I"⟩ : MethodName) else (⟨"MarkedBodyLaw", "law", "([I)Z"⟩ : MethodName))))))))) else (⟨"", "", ""⟩ : MethodName)
def cdN (mi : Nat) : ByteArray := bif Nat.blt mi 250 then (bif Nat.blt mi 125 then (bif Nat.blt mi 62 then (bif Nat.blt mi 31 then (bif Nat.blt mi 15 then (bif Nat.blt mi 7 then (bif Nat.blt mi 3 then (bif Nat.blt mi 1 then prog_2_method_1_code else (bif Nat.blt mi 2 then prog_2_method_2_code else prog_2_method_3_code)) else (bif Nat.blt mi 5 then (bif Nat.blt mi 4 then prog_2_method_4_code else prog_2_method_5_code) else (bif Nat.blt mi 6 then prog_2_method_6_code else prog_2_method_7_code))) else (bif Nat.blt mi 11 then (bif Nat.blt mi 9 then (bif Nat.blt mi 8 then prog_2_method_8_code else prog_2_method_9_code) else (bif Nat.blt mi 10 then prog_2_method_10_code else prog_2_method_11_code)) else (bif Nat.blt mi 13 then (bif Nat.blt mi 12 then prog_2_method_12_code else prog_2_method_13_code) else (bif Nat.blt mi 14 then prog_2_method_14_code else prog_2_method_15_code)))) else (bif Nat.blt mi 23 then (bif Nat.blt mi 19 then (bif Nat.blt mi 17 then (bif Nat.blt mi 16 then prog_3_method_1_code else prog_3_method_2_code) else (bif Nat.blt mi 18 then prog_3_method_3_code else prog_3_method_4_code)) else (bif Nat.blt mi 21 then (bif Nat.blt mi 20 then prog_3_method_5_code else prog_3_method_6_code) else (bif Nat.blt mi 22 then prog_3_method_7_code else prog_3_method_8_code))) else (bif Nat.blt mi 27 then (bif Nat.blt mi 25 then (bif Nat.blt mi 24 then prog_3_method_9_code else prog_4_method_1_code) else (bif Nat.blt mi 26 then prog_4_method_2_code else prog_4_method_3_code)) else (bif Nat.blt mi 29 then (bif Nat.blt mi 28 then prog_4_method_4_code else prog_4_method_5_code) else (bif Nat.blt mi 30 then prog_4_method_6_code else prog_4_method_7_code))))) else (bif Nat.blt mi 46 then (bif Nat.blt mi 38 then (bif Nat.blt mi 34 then (bif Nat.blt mi 32 then prog_4_method_8_code else (bif Nat.blt mi 33 then prog_5_method_1_code else prog_5_method_2_code)) else (bif Nat.blt mi 36 then (bif Nat.blt mi 35 then prog_5_method_3_code else prog_5_method_4_code) else (bif Nat.blt mi 37 then prog_5_method_5_code else prog_5_method_6_code))) else (bif Nat.blt mi 42 then (bif Nat.blt mi 40 then (bif Nat.blt mi 39 then prog_5_method_7_code else prog_6_method_1_code) else (bif Nat.blt mi 41 then prog_6_method_2_code else prog_6_method_3_code)) else (bif Nat.blt mi 44 then (bif Nat.blt mi 43 then prog_6_method_4_code else prog_6_method_5_code) else (bif Nat.blt mi 45 then prog_6_method_6_code else prog_6_method_7_code)))) else (bif Nat.blt mi 54 then (bif Nat.blt mi 50 then (bif Nat.blt mi 48 then (bif Nat.blt mi 47 then prog_6_method_8_code else prog_6_method_9_code) else (bif Nat.blt mi 49 then prog_6_method_10_code else prog_6_method_11_code)) else (bif Nat.blt mi 52 then (bif Nat.blt mi 51 then prog_6_method_12_code else prog_6_method_13_code) else (bif Nat.blt mi 53 then prog_6_method_14_code else prog_6_method_15_code))) else (bif Nat.blt mi 58 then (bif Nat.blt mi 56 then (bif Nat.blt mi 55 then prog_6_method_16_code else prog_6_method_17_code) else (bif Nat.blt mi 57 then prog_6_method_18_code else prog_6_method_19_code)) else (bif Nat.blt mi 60 then (bif Nat.blt mi 59 then prog_7_method_1_code else prog_7_method_2_code) else (bif Nat.blt mi 61 then prog_7_method_3_code else prog_7_method_4_code)))))) else (bif Nat.blt mi 93 then (bif Nat.blt mi 77 then (bif Nat.blt mi 69 then (bif Nat.blt mi 65 then (bif Nat.blt mi 63 then prog_7_method_5_code else (bif Nat.blt mi 64 then prog_7_method_6_code else prog_7_method_7_code)) else (bif Nat.blt mi 67 then (bif Nat.blt mi 66 then prog_7_method_8_code else prog_7_method_9_code) else (bif Nat.blt mi 68 then prog_7_method_10_code else prog_7_method_11_code))) else (bif Nat.blt mi 73 then (bif Nat.blt mi 71 then (bif Nat.blt mi 70 then prog_7_method_12_code else prog_7_method_13_code) else (bif Nat.blt mi 72 then prog_7_method_14_code else prog_7_method_15_code)) else (bif Nat.blt mi 75 then (bif Nat.blt mi 74 then prog_8_method_1_code else prog_8_method_2_code) else (bif Nat.blt mi 76 then prog_8_method_3_code else prog_8_method_4_code)))) else (bif Nat.blt mi 85 then (bif Nat.blt mi 81 then (bif Nat.blt mi 79 then (bif Nat.blt mi 78 then prog_9_method_1_code else prog_9_method_2_code) else (bif Nat.blt mi 80 then prog_9_method_3_code else prog_9_method_4_code)) else (bif Nat.blt mi 83 then (bif Nat.blt mi 82 then prog_9_method_5_code else prog_9_method_6_code) else (bif Nat.blt mi 84 then prog_9_method_7_code else prog_9_method_8_code))) else (bif Nat.blt mi 89 then (bif Nat.blt mi 87 then (bif Nat.blt mi 86 then prog_9_method_9_code else prog_9_method_10_code) else (bif Nat.blt mi 88 then prog_9_method_11_code else prog_9_method_12_code)) else (bif Nat.blt mi 91 then (bif Nat.blt mi 90 then prog_9_method_13_code else prog_9_method_14_code) else (bif Nat.blt mi 92 then prog_9_method_15_code else prog_9_method_16_code))))) else (bif Nat.blt mi 109 then (bif Nat.blt mi 101 then (bif Nat.blt mi 97 then (bif Nat.blt mi 95 then (bif Nat.blt mi 94 then prog_9_method_17_code else prog_10_method_1_code) else (bif Nat.blt mi 96 then prog_10_method_2_code else prog_10_method_3_code)) else (bif Nat.blt mi 99 then (bif Nat.blt mi 98 then prog_10_method_4_code else prog_11_method_1_code) else (bif Nat.blt mi 100 then prog_11_method_2_code else prog_11_method_3_code))) else (bif Nat.blt mi 105 then (bif Nat.blt mi 103 then (bif Nat.blt mi 102 then prog_11_method_4_code else prog_11_method_5_code) else (bif Nat.blt mi 104 then prog_12_method_1_code else prog_12_method_2_code)) else (bif Nat.blt mi 107 then (bif Nat.blt mi 106 then prog_12_method_3_code else prog_12_method_4_code) else (bif Nat.blt mi 108 then prog_12_method_5_code else prog_12_method_6_code)))) else (bif Nat.blt mi 117 then (bif Nat.blt mi 113 then (bif Nat.blt mi 111 then (bif Nat.blt mi 110 then prog_12_method_7_code else prog_12_method_8_code) else (bif Nat.blt mi 112 then prog_12_method_9_code else prog_1_method_1_code)) else (bif Nat.blt mi 115 then (bif Nat.blt mi 114 then prog_1_method_2_code else prog_1_method_3_code) else (bif Nat.blt mi 116 then prog_1_method_4_code else prog_1_method_5_code))) else (bif Nat.blt mi 121 then (bif Nat.blt mi 119 then (bif Nat.blt mi 118 then prog_1_method_6_code else prog_1_method_7_code) else (bif Nat.blt mi 120 then prog_1_method_8_code else prog_1_method_9_code)) else (bif Nat.blt mi 123 then (bif Nat.blt mi 122 then prog_1_method_10_code else prog_1_method_11_code) else (bif Nat.blt mi 124 then prog_1_method_12_code else prog_1_method_13_code))))))) else (bif Nat.blt mi 187 then (bif Nat.blt mi 156 then (bif Nat.blt mi 140 then (bif Nat.blt mi 132 then (bif Nat.blt mi 128 then (bif Nat.blt mi 126 then prog_1_method_14_code else (bif Nat.blt mi 127 then prog_1_method_15_code else prog_1_method_16_code)) else (bif Nat.blt mi 130 then (bif Nat.blt mi 129 then prog_1_method_17_code else prog_1_method_18_code) else (bif Nat.blt mi 131 then prog_1_method_19_code else prog_1_method_20_code))) else (bif Nat.blt mi 136 then (bif Nat.blt mi 134 then (bif Nat.blt mi 133 then prog_1_method_21_code else prog_1_method_22_code) else (bif Nat.blt mi 135 then prog_1_method_23_code else prog_1_method_24_code)) else (bif Nat.blt mi 138 then (bif Nat.blt mi 137 then prog_1_method_25_code else prog_1_method_26_code) else (bif Nat.blt mi 139 then prog_1_method_27_code else prog_1_method_28_code)))) else (bif Nat.blt mi 148 then (bif Nat.blt mi 144 then (bif Nat.blt mi 142 then (bif Nat.blt mi 141 then prog_1_method_29_code else prog_1_method_30_code) else (bif Nat.blt mi 143 then prog_1_method_31_code else prog_1_method_32_code)) else (bif Nat.blt mi 146 then (bif Nat.blt mi 145 then prog_1_method_33_code else prog_1_method_34_code) else (bif Nat.blt mi 147 then prog_1_method_35_code else prog_1_method_36_code))) else (bif Nat.blt mi 152 then (bif Nat.blt mi 150 then (bif Nat.blt mi 149 then prog_1_method_37_code else prog_1_method_38_code) else (bif Nat.blt mi 151 then prog_1_method_39_code else prog_1_method_40_code)) else (bif Nat.blt mi 154 then (bif Nat.blt mi 153 then prog_1_method_41_code else prog_1_method_42_code) else (bif Nat.blt mi 155 then prog_14_method_2_code else prog_14_method_3_code))))) else (bif Nat.blt mi 171 then (bif Nat.blt mi 163 then (bif Nat.blt mi 159 then (bif Nat.blt mi 157 then prog_14_method_4_code else (bif Nat.blt mi 158 then prog_14_method_5_code else prog_14_method_6_code)) else (bif Nat.blt mi 161 then (bif Nat.blt mi 160 then prog_14_method_7_code else prog_14_method_8_code) else (bif Nat.blt mi 162 then prog_14_method_9_code else prog_14_method_10_code))) else (bif Nat.blt mi 167 then (bif Nat.blt mi 165 then (bif Nat.blt mi 164 then prog_14_method_11_code else prog_14_method_12_code) else (bif Nat.blt mi 166 then prog_14_method_13_code else prog_14_method_14_code)) else (bif Nat.blt mi 169 then (bif Nat.blt mi 168 then prog_14_method_15_code else prog_14_method_16_code) else (bif Nat.blt mi 170 then prog_14_method_17_code else prog_14_method_18_code)))) else (bif Nat.blt mi 179 then (bif Nat.blt mi 175 then (bif Nat.blt mi 173 then (bif Nat.blt mi 172 then prog_14_method_19_code else prog_14_method_20_code) else (bif Nat.blt mi 174 then prog_14_method_21_code else prog_14_method_22_code)) else (bif Nat.blt mi 177 then (bif Nat.blt mi 176 then prog_14_method_23_code else prog_14_method_24_code) else (bif Nat.blt mi 178 then prog_14_method_25_code else prog_14_method_26_code))) else (bif Nat.blt mi 183 then (bif Nat.blt mi 181 then (bif Nat.blt mi 180 then prog_14_method_27_code else prog_14_method_28_code) else (bif Nat.blt mi 182 then prog_14_method_29_code else prog_14_method_30_code)) else (bif Nat.blt mi 185 then (bif Nat.blt mi 184 then prog_14_method_31_code else prog_14_method_32_code) else (bif Nat.blt mi 186 then prog_14_method_33_code else prog_14_method_34_code)))))) else (bif Nat.blt mi 218 then (bif Nat.blt mi 202 then (bif Nat.blt mi 194 then (bif Nat.blt mi 190 then (bif Nat.blt mi 188 then prog_14_method_35_code else (bif Nat.blt mi 189 then prog_14_method_36_code else prog_14_method_37_code)) else (bif Nat.blt mi 192 then (bif Nat.blt mi 191 then prog_14_method_38_code else prog_14_method_39_code) else (bif Nat.blt mi 193 then prog_14_method_40_code else prog_14_method_41_code))) else (bif Nat.blt mi 198 then (bif Nat.blt mi 196 then (bif Nat.blt mi 195 then prog_14_method_42_code else prog_14_method_43_code) else (bif Nat.blt mi 197 then prog_14_method_44_code else prog_14_method_45_code)) else (bif Nat.blt mi 200 then (bif Nat.blt mi 199 then prog_14_method_46_code else prog_14_method_47_code) else (bif Nat.blt mi 201 then prog_14_method_48_code else prog_14_method_49_code)))) else (bif Nat.blt mi 210 then (bif Nat.blt mi 206 then (bif Nat.blt mi 204 then (bif Nat.blt mi 203 then prog_14_method_50_code else prog_14_method_51_code) else (bif Nat.blt mi 205 then prog_14_method_52_code else prog_14_method_53_code)) else (bif Nat.blt mi 208 then (bif Nat.blt mi 207 then prog_14_method_54_code else prog_14_method_55_code) else (bif Nat.blt mi 209 then prog_14_method_56_code else prog_14_method_57_code))) else (bif Nat.blt mi 214 then (bif Nat.blt mi 212 then (bif Nat.blt mi 211 then prog_14_method_58_code else prog_14_method_59_code) else (bif Nat.blt mi 213 then prog_14_method_60_code else prog_14_method_61_code)) else (bif Nat.blt mi 216 then (bif Nat.blt mi 215 then prog_14_method_62_code else prog_14_method_63_code) else (bif Nat.blt mi 217 then prog_14_method_64_code else prog_14_method_65_code))))) else (bif Nat.blt mi 234 then (bif Nat.blt mi 226 then (bif Nat.blt mi 222 then (bif Nat.blt mi 220 then (bif Nat.blt mi 219 then prog_14_method_66_code else prog_14_method_67_code) else (bif Nat.blt mi 221 then prog_14_method_68_code else prog_14_method_69_code)) else (bif Nat.blt mi 224 then (bif Nat.blt mi 223 then prog_14_method_70_code else prog_14_method_71_code) else (bif Nat.blt mi 225 then prog_14_method_72_code else prog_14_method_73_code))) else (bif Nat.blt mi 230 then (bif Nat.blt mi 228 then (bif Nat.blt mi 227 then prog_14_method_74_code else prog_14_method_75_code) else (bif Nat.blt mi 229 then prog_14_method_76_code else prog_14_method_77_code)) else (bif Nat.blt mi 232 then (bif Nat.blt mi 231 then prog_14_method_78_code else prog_14_method_79_code) else (bif Nat.blt mi 233 then prog_14_method_80_code else prog_14_method_81_code)))) else (bif Nat.blt mi 242 then (bif Nat.blt mi 238 then (bif Nat.blt mi 236 then (bif Nat.blt mi 235 then prog_14_method_82_code else prog_14_method_83_code) else (bif Nat.blt mi 237 then prog_14_method_84_code else prog_14_method_85_code)) else (bif Nat.blt mi 240 then (bif Nat.blt mi 239 then prog_15_method_49_code else prog_16_method_50_code) else (bif Nat.blt mi 241 then prog_17_method_54_code else prog_17_method_56_code))) else (bif Nat.blt mi 246 then (bif Nat.blt mi 244 then (bif Nat.blt mi 243 then prog_17_method_152_code else prog_17_method_154_code) else (bif Nat.blt mi 245 then prog_17_method_155_code else prog_18_method_2_code)) else (bif Nat.blt mi 248 then (bif Nat.blt mi 247 then prog_21_method_101_code else prog_21_method_103_code) else (bif Nat.blt mi 249 then prog_22_method_11_code else code)))))))) else code
def rtN (mi : Nat) : Option FieldType := bif Nat.blt mi 250 then (bif Nat.blt mi 125 then (bif Nat.blt mi 62 then (bif Nat.blt mi 31 then (bif Nat.blt mi 15 then (bif Nat.blt mi 7 then (bif Nat.blt mi 3 then (bif Nat.blt mi 1 then none else (bif Nat.blt mi 2 then (some .boolean) else none)) else (bif Nat.blt mi 5 then (bif Nat.blt mi 4 then (some .int) else (some .int)) else (bif Nat.blt mi 6 then none else (some .int)))) else (bif Nat.blt mi 11 then (bif Nat.blt mi 9 then (bif Nat.blt mi 8 then (some .int) else (some .int)) else (bif Nat.blt mi 10 then (some .int) else (some .int))) else (bif Nat.blt mi 13 then (bif Nat.blt mi 12 then (some .int) else (some .int)) else (bif Nat.blt mi 14 then (some .int) else (some .int))))) else (bif Nat.blt mi 23 then (bif Nat.blt mi 19 then (bif Nat.blt mi 17 then (bif Nat.blt mi 16 then none else (some .boolean)) else (bif Nat.blt mi 18 then (some .boolean) else (some .boolean))) else (bif Nat.blt mi 21 then (bif Nat.blt mi 20 then (some .int) else (some .boolean)) else (bif Nat.blt mi 22 then (some .boolean) else (some .int)))) else (bif Nat.blt mi 27 then (bif Nat.blt mi 25 then (bif Nat.blt mi 24 then (some .int) else none) else (bif Nat.blt mi 26 then none else (some .int))) else (bif Nat.blt mi 29 then (bif Nat.blt mi 28 then (some .boolean) else none) else (bif Nat.blt mi 30 then (some .int) else none))))) else (bif Nat.blt mi 46 then (bif Nat.blt mi 38 then (bif Nat.blt mi 34 then (bif Nat.blt mi 32 then none else (bif Nat.blt mi 33 then none else none)) else (bif Nat.blt mi 36 then (bif Nat.blt mi 35 then (some .int) else (some .int)) else (bif Nat.blt mi 37 then none else (some .int)))) else (bif Nat.blt mi 42 then (bif Nat.blt mi 40 then (bif Nat.blt mi 39 then (some .int) else none) else (bif Nat.blt mi 41 then none else none)) else (bif Nat.blt mi 44 then (bif Nat.blt mi 43 then none else (some .boolean)) else (bif Nat.blt mi 45 then none else none)))) else (bif Nat.blt mi 54 then (bif Nat.blt mi 50 then (bif Nat.blt mi 48 then (bif Nat.blt mi 47 then none else none) else (bif Nat.blt mi 49 then none else none)) else (bif Nat.blt mi 52 then (bif Nat.blt mi 51 then none else none) else (bif Nat.blt mi 53 then (some .boolean) else (some .boolean)))) else (bif Nat.blt mi 58 then (bif Nat.blt mi 56 then (bif Nat.blt mi 55 then (some .boolean) else (some .boolean)) else (bif Nat.blt mi 57 then (some .int) else (some .long))) else (bif Nat.blt mi 60 then (bif Nat.blt mi 59 then none else none) else (bif Nat.blt mi 61 then none else (some .boolean))))))) else (bif Nat.blt mi 93 then (bif Nat.blt mi 77 then (bif Nat.blt mi 69 then (bif Nat.blt mi 65 then (bif Nat.blt mi 63 then (some .boolean) else (bif Nat.blt mi 64 then (some .int) else (some .int))) else (bif Nat.blt mi 67 then (bif Nat.blt mi 66 then (some .int) else (some .int)) else (bif Nat.blt mi 68 then (some .int) else (some .int)))) else (bif Nat.blt mi 73 then (bif Nat.blt mi 71 then (bif Nat.blt mi 70 then (some .boolean) else (some .int)) else (bif Nat.blt mi 72 then (some .int) else (some .int))) else (bif Nat.blt mi 75 then (bif Nat.blt mi 74 then none else none) else (bif Nat.blt mi 76 then (some .boolean) else (some .int))))) else (bif Nat.blt mi 85 then (bif Nat.blt mi 81 then (bif Nat.blt mi 79 then (bif Nat.blt mi 78 then none else none) else (bif Nat.blt mi 80 then none else (some .boolean))) else (bif Nat.blt mi 83 then (bif Nat.blt mi 82 then (some .boolean) else (some .boolean)) else (bif Nat.blt mi 84 then (some .boolean) else (some .boolean)))) else (bif Nat.blt mi 89 then (bif Nat.blt mi 87 then (bif Nat.blt mi 86 then (some .boolean) else (some .boolean)) else (bif Nat.blt mi 88 then (some .int) else (some .int))) else (bif Nat.blt mi 91 then (bif Nat.blt mi 90 then (some .boolean) else (some .boolean)) else (bif Nat.blt mi 92 then (some .boolean) else (some .boolean)))))) else (bif Nat.blt mi 109 then (bif Nat.blt mi 101 then (bif Nat.blt mi 97 then (bif Nat.blt mi 95 then (bif Nat.blt mi 94 then (some .int) else none) else (bif Nat.blt mi 96 then none else none)) else (bif Nat.blt mi 99 then (bif Nat.blt mi 98 then none else none) else (bif Nat.blt mi 100 then (some .boolean) else none))) else (bif Nat.blt mi 105 then (bif Nat.blt mi 103 then (bif Nat.blt mi 102 then (some .boolean) else (some .int)) else (bif Nat.blt mi 104 then none else none)) else (bif Nat.blt mi 107 then (bif Nat.blt mi 106 then none else none) else (bif Nat.blt mi 108 then (some .boolean) else (some .boolean))))) else (bif Nat.blt mi 117 then (bif Nat.blt mi 113 then (bif Nat.blt mi 111 then (bif Nat.blt mi 110 then (some .boolean) else (some .boolean)) else (bif Nat.blt mi 112 then (some .int) else none)) else (bif Nat.blt mi 115 then (bif Nat.blt mi 114 then (some .int) else (some .int)) else (bif Nat.blt mi 116 then (some .int) else (some .int)))) else (bif Nat.blt mi 121 then (bif Nat.blt mi 119 then (bif Nat.blt mi 118 then (some .int) else (some .int)) else (bif Nat.blt mi 120 then (some .int) else (some .int))) else (bif Nat.blt mi 123 then (bif Nat.blt mi 122 then (some .int) else (some .int)) else (bif Nat.blt mi 124 then (some .int) else (some .int)))))))) else (bif Nat.blt mi 187 then (bif Nat.blt mi 156 then (bif Nat.blt mi 140 then (bif Nat.blt mi 132 then (bif Nat.blt mi 128 then (bif Nat.blt mi 126 then (some .int) else (bif Nat.blt mi 127 then (some .int) else (some .int))) else (bif Nat.blt mi 130 then (bif Nat.blt mi 129 then (some .int) else (some .int)) else (bif Nat.blt mi 131 then (some .int) else (some .int)))) else (bif Nat.blt mi 136 then (bif Nat.blt mi 134 then (bif Nat.blt mi 133 then (some .int) else (some .int)) else (bif Nat.blt mi 135 then (some .int) else (some .int))) else (bif Nat.blt mi 138 then (bif Nat.blt mi 137 then (some .int) else (some .int)) else (bif Nat.blt mi 139 then (some .int) else (some .int))))) else (bif Nat.blt mi 148 then (bif Nat.blt mi 144 then (bif Nat.blt mi 142 then (bif Nat.blt mi 141 then (some .int) else (some .int)) else (bif Nat.blt mi 143 then (some .int) else (some .int))) else (bif Nat.blt mi 146 then (bif Nat.blt mi 145 then (some .int) else (some .int)) else (bif Nat.blt mi 147 then (some .int) else (some .int)))) else (bif Nat.blt mi 152 then (bif Nat.blt mi 150 then (bif Nat.blt mi 149 then (some .boolean) else (some .boolean)) else (bif Nat.blt mi 151 then (some .boolean) else (some .boolean))) else (bif Nat.blt mi 154 then (bif Nat.blt mi 153 then (some .int) else (some .int)) else (bif Nat.blt mi 155 then (some .boolean) else (some .int)))))) else (bif Nat.blt mi 171 then (bif Nat.blt mi 163 then (bif Nat.blt mi 159 then (bif Nat.blt mi 157 then none else (bif Nat.blt mi 158 then (some .boolean) else (some .int))) else (bif Nat.blt mi 161 then (bif Nat.blt mi 160 then (some .int) else (some .int)) else (bif Nat.blt mi 162 then (some .int) else (some .int)))) else (bif Nat.blt mi 167 then (bif Nat.blt mi 165 then (bif Nat.blt mi 164 then (some .int) else (some .boolean)) else (bif Nat.blt mi 166 then (some .boolean) else none)) else (bif Nat.blt mi 169 then (bif Nat.blt mi 168 then none else none) else (bif Nat.blt mi 170 then (some .boolean) else (some .long))))) else (bif Nat.blt mi 179 then (bif Nat.blt mi 175 then (bif Nat.blt mi 173 then (bif Nat.blt mi 172 then (some .int) else (some .int)) else (bif Nat.blt mi 174 then none else none)) else (bif Nat.blt mi 177 then (bif Nat.blt mi 176 then (some .int) else none) else (bif Nat.blt mi 178 then none else none))) else (bif Nat.blt mi 183 then (bif Nat.blt mi 181 then (bif Nat.blt mi 180 then none else none) else (bif Nat.blt mi 182 then (some .int) else (some .int))) else (bif Nat.blt mi 185 then (bif Nat.blt mi 184 then (some .boolean) else (some .boolean)) else (bif Nat.blt mi 186 then (some .boolean) else none)))))) else (bif Nat.blt mi 218 then (bif Nat.blt mi 202 then (bif Nat.blt mi 194 then (bif Nat.blt mi 190 then (bif Nat.blt mi 188 then (some .int) else (bif Nat.blt mi 189 then (some .boolean) else (some .boolean))) else (bif Nat.blt mi 192 then (bif Nat.blt mi 191 then (some .int) else (some .int)) else (bif Nat.blt mi 193 then (some .int) else (some .int)))) else (bif Nat.blt mi 198 then (bif Nat.blt mi 196 then (bif Nat.blt mi 195 then (some .int) else (some .boolean)) else (bif Nat.blt mi 197 then (some .boolean) else (some .int))) else (bif Nat.blt mi 200 then (bif Nat.blt mi 199 then (some .int) else (some .int)) else (bif Nat.blt mi 201 then (some .int) else (some .int))))) else (bif Nat.blt mi 210 then (bif Nat.blt mi 206 then (bif Nat.blt mi 204 then (bif Nat.blt mi 203 then (some .boolean) else (some .int)) else (bif Nat.blt mi 205 then (some .int) else (some .int))) else (bif Nat.blt mi 208 then (bif Nat.blt mi 207 then (some .boolean) else (some .boolean)) else (bif Nat.blt mi 209 then (some .boolean) else (some .int)))) else (bif Nat.blt mi 214 then (bif Nat.blt mi 212 then (bif Nat.blt mi 211 then none else (some .int)) else (bif Nat.blt mi 213 then none else (some .int))) else (bif Nat.blt mi 216 then (bif Nat.blt mi 215 then (some .boolean) else (some .int)) else (bif Nat.blt mi 217 then (some .int) else (some .int)))))) else (bif Nat.blt mi 234 then (bif Nat.blt mi 226 then (bif Nat.blt mi 222 then (bif Nat.blt mi 220 then (bif Nat.blt mi 219 then (some .boolean) else (some .int)) else (bif Nat.blt mi 221 then (some .int) else (some .int))) else (bif Nat.blt mi 224 then (bif Nat.blt mi 223 then (some .int) else (some .int)) else (bif Nat.blt mi 225 then (some .int) else (some .int)))) else (bif Nat.blt mi 230 then (bif Nat.blt mi 228 then (bif Nat.blt mi 227 then (some .int) else (some .int)) else (bif Nat.blt mi 229 then (some .boolean) else (some .int))) else (bif Nat.blt mi 232 then (bif Nat.blt mi 231 then (some .int) else none) else (bif Nat.blt mi 233 then (some .int) else (some .int))))) else (bif Nat.blt mi 242 then (bif Nat.blt mi 238 then (bif Nat.blt mi 236 then (bif Nat.blt mi 235 then (some .int) else (some .int)) else (bif Nat.blt mi 237 then (some .int) else (some .int))) else (bif Nat.blt mi 240 then (bif Nat.blt mi 239 then (some .int) else (some .int)) else (bif Nat.blt mi 241 then (some .int) else (some .char)))) else (bif Nat.blt mi 246 then (bif Nat.blt mi 244 then (bif Nat.blt mi 243 then (some .byte) else (some .boolean)) else (bif Nat.blt mi 245 then none else (some .char))) else (bif Nat.blt mi 248 then (bif Nat.blt mi 247 then none else none) else (bif Nat.blt mi 249 then (some .int) else (some .boolean))))))))) else none
def NP (mi : Nat) : Nat := bif Nat.blt mi 250 then (bif Nat.blt mi 125 then (bif Nat.blt mi 62 then (bif Nat.blt mi 31 then (bif Nat.blt mi 15 then (bif Nat.blt mi 7 then (bif Nat.blt mi 3 then (bif Nat.blt mi 1 then 2 else (bif Nat.blt mi 2 then 2 else 1)) else (bif Nat.blt mi 5 then (bif Nat.blt mi 4 then 0 else 0) else (bif Nat.blt mi 6 then 1 else 0))) else (bif Nat.blt mi 11 then (bif Nat.blt mi 9 then (bif Nat.blt mi 8 then 0 else 0) else (bif Nat.blt mi 10 then 0 else 0)) else (bif Nat.blt mi 13 then (bif Nat.blt mi 12 then 0 else 0) else (bif Nat.blt mi 14 then 0 else 0)))) else (bif Nat.blt mi 23 then (bif Nat.blt mi 19 then (bif Nat.blt mi 17 then (bif Nat.blt mi 16 then 0 else 2) else (bif Nat.blt mi 18 then 1 else 1)) else (bif Nat.blt mi 21 then (bif Nat.blt mi 20 then 0 else 1) else (bif Nat.blt mi 22 then 2 else 0))) else (bif Nat.blt mi 27 then (bif Nat.blt mi 25 then (bif Nat.blt mi 24 then 3 else 2) else (bif Nat.blt mi 26 then 0 else 2)) else (bif Nat.blt mi 29 then (bif Nat.blt mi 28 then 3 else 1) else (bif Nat.blt mi 30 then 0 else 1))))) else (bif Nat.blt mi 46 then (bif Nat.blt mi 38 then (bif Nat.blt mi 34 then (bif Nat.blt mi 32 then 1 else (bif Nat.blt mi 33 then 2 else 0)) else (bif Nat.blt mi 36 then (bif Nat.blt mi 35 then 0 else 1) else (bif Nat.blt mi 37 then 1 else 1))) else (bif Nat.blt mi 42 then (bif Nat.blt mi 40 then (bif Nat.blt mi 39 then 2 else 0) else (bif Nat.blt mi 41 then 0 else 0)) else (bif Nat.blt mi 44 then (bif Nat.blt mi 43 then 1 else 1) else (bif Nat.blt mi 45 then 1 else 0)))) else (bif Nat.blt mi 54 then (bif Nat.blt mi 50 then (bif Nat.blt mi 48 then (bif Nat.blt mi 47 then 1 else 1) else (bif Nat.blt mi 49 then 1 else 1)) else (bif Nat.blt mi 52 then (bif Nat.blt mi 51 then 1 else 2) else (bif Nat.blt mi 53 then 0 else 1))) else (bif Nat.blt mi 58 then (bif Nat.blt mi 56 then (bif Nat.blt mi 55 then 1 else 1) else (bif Nat.blt mi 57 then 0 else 2)) else (bif Nat.blt mi 60 then (bif Nat.blt mi 59 then 1 else 0) else (bif Nat.blt mi 61 then 0 else 1)))))) else (bif Nat.blt mi 93 then (bif Nat.blt mi 77 then (bif Nat.blt mi 69 then (bif Nat.blt mi 65 then (bif Nat.blt mi 63 then 2 else (bif Nat.blt mi 64 then 0 else 0)) else (bif Nat.blt mi 67 then (bif Nat.blt mi 66 then 0 else 3) else (bif Nat.blt mi 68 then 1 else 2))) else (bif Nat.blt mi 73 then (bif Nat.blt mi 71 then (bif Nat.blt mi 70 then 1 else 1) else (bif Nat.blt mi 72 then 1 else 0)) else (bif Nat.blt mi 75 then (bif Nat.blt mi 74 then 0 else 1) else (bif Nat.blt mi 76 then 2 else 0)))) else (bif Nat.blt mi 85 then (bif Nat.blt mi 81 then (bif Nat.blt mi 79 then (bif Nat.blt mi 78 then 2 else 0) else (bif Nat.blt mi 80 then 0 else 0)) else (bif Nat.blt mi 83 then (bif Nat.blt mi 82 then 1 else 0) else (bif Nat.blt mi 84 then 0 else 0))) else (bif Nat.blt mi 89 then (bif Nat.blt mi 87 then (bif Nat.blt mi 86 then 1 else 1) else (bif Nat.blt mi 88 then 3 else 1)) else (bif Nat.blt mi 91 then (bif Nat.blt mi 90 then 0 else 2) else (bif Nat.blt mi 92 then 2 else 2))))) else (bif Nat.blt mi 109 then (bif Nat.blt mi 101 then (bif Nat.blt mi 97 then (bif Nat.blt mi 95 then (bif Nat.blt mi 94 then 0 else 0) else (bif Nat.blt mi 96 then 2 else 2)) else (bif Nat.blt mi 99 then (bif Nat.blt mi 98 then 2 else 0) else (bif Nat.blt mi 100 then 0 else 2))) else (bif Nat.blt mi 105 then (bif Nat.blt mi 103 then (bif Nat.blt mi 102 then 2 else 1) else (bif Nat.blt mi 104 then 0 else 0)) else (bif Nat.blt mi 107 then (bif Nat.blt mi 106 then 0 else 0) else (bif Nat.blt mi 108 then 0 else 0)))) else (bif Nat.blt mi 117 then (bif Nat.blt mi 113 then (bif Nat.blt mi 111 then (bif Nat.blt mi 110 then 1 else 1) else (bif Nat.blt mi 112 then 1 else 0)) else (bif Nat.blt mi 115 then (bif Nat.blt mi 114 then 3 else 3) else (bif Nat.blt mi 116 then 5 else 1))) else (bif Nat.blt mi 121 then (bif Nat.blt mi 119 then (bif Nat.blt mi 118 then 2 else 0) else (bif Nat.blt mi 120 then 0 else 1)) else (bif Nat.blt mi 123 then (bif Nat.blt mi 122 then 3 else 0) else (bif Nat.blt mi 124 then 1 else 3))))))) else (bif Nat.blt mi 187 then (bif Nat.blt mi 156 then (bif Nat.blt mi 140 then (bif Nat.blt mi 132 then (bif Nat.blt mi 128 then (bif Nat.blt mi 126 then 1 else (bif Nat.blt mi 127 then 2 else 1)) else (bif Nat.blt mi 130 then (bif Nat.blt mi 129 then 1 else 2) else (bif Nat.blt mi 131 then 3 else 4))) else (bif Nat.blt mi 136 then (bif Nat.blt mi 134 then (bif Nat.blt mi 133 then 1 else 2) else (bif Nat.blt mi 135 then 1 else 2)) else (bif Nat.blt mi 138 then (bif Nat.blt mi 137 then 3 else 3) else (bif Nat.blt mi 139 then 1 else 2)))) else (bif Nat.blt mi 148 then (bif Nat.blt mi 144 then (bif Nat.blt mi 142 then (bif Nat.blt mi 141 then 1 else 2) else (bif Nat.blt mi 143 then 2 else 1)) else (bif Nat.blt mi 146 then (bif Nat.blt mi 145 then 1 else 0) else (bif Nat.blt mi 147 then 1 else 1))) else (bif Nat.blt mi 152 then (bif Nat.blt mi 150 then (bif Nat.blt mi 149 then 1 else 1) else (bif Nat.blt mi 151 then 1 else 3)) else (bif Nat.blt mi 154 then (bif Nat.blt mi 153 then 0 else 1) else (bif Nat.blt mi 155 then 3 else 1))))) else (bif Nat.blt mi 171 then (bif Nat.blt mi 163 then (bif Nat.blt mi 159 then (bif Nat.blt mi 157 then 0 else (bif Nat.blt mi 158 then 1 else 3)) else (bif Nat.blt mi 161 then (bif Nat.blt mi 160 then 3 else 5) else (bif Nat.blt mi 162 then 1 else 2))) else (bif Nat.blt mi 167 then (bif Nat.blt mi 165 then (bif Nat.blt mi 164 then 1 else 1) else (bif Nat.blt mi 166 then 1 else 0)) else (bif Nat.blt mi 169 then (bif Nat.blt mi 168 then 1 else 1) else (bif Nat.blt mi 170 then 1 else 0)))) else (bif Nat.blt mi 179 then (bif Nat.blt mi 175 then (bif Nat.blt mi 173 then (bif Nat.blt mi 172 then 0 else 1) else (bif Nat.blt mi 174 then 2 else 1)) else (bif Nat.blt mi 177 then (bif Nat.blt mi 176 then 0 else 2) else (bif Nat.blt mi 178 then 1 else 1))) else (bif Nat.blt mi 183 then (bif Nat.blt mi 181 then (bif Nat.blt mi 180 then 0 else 0) else (bif Nat.blt mi 182 then 0 else 0)) else (bif Nat.blt mi 185 then (bif Nat.blt mi 184 then 2 else 2) else (bif Nat.blt mi 186 then 1 else 0)))))) else (bif Nat.blt mi 218 then (bif Nat.blt mi 202 then (bif Nat.blt mi 194 then (bif Nat.blt mi 190 then (bif Nat.blt mi 188 then 0 else (bif Nat.blt mi 189 then 1 else 1)) else (bif Nat.blt mi 192 then (bif Nat.blt mi 191 then 1 else 3) else (bif Nat.blt mi 193 then 1 else 0))) else (bif Nat.blt mi 198 then (bif Nat.blt mi 196 then (bif Nat.blt mi 195 then 1 else 2) else (bif Nat.blt mi 197 then 3 else 3)) else (bif Nat.blt mi 200 then (bif Nat.blt mi 199 then 1 else 1) else (bif Nat.blt mi 201 then 2 else 1)))) else (bif Nat.blt mi 210 then (bif Nat.blt mi 206 then (bif Nat.blt mi 204 then (bif Nat.blt mi 203 then 1 else 1) else (bif Nat.blt mi 205 then 2 else 3)) else (bif Nat.blt mi 208 then (bif Nat.blt mi 207 then 1 else 1) else (bif Nat.blt mi 209 then 3 else 3))) else (bif Nat.blt mi 214 then (bif Nat.blt mi 212 then (bif Nat.blt mi 211 then 1 else 4) else (bif Nat.blt mi 213 then 0 else 1)) else (bif Nat.blt mi 216 then (bif Nat.blt mi 215 then 1 else 2) else (bif Nat.blt mi 217 then 2 else 1))))) else (bif Nat.blt mi 234 then (bif Nat.blt mi 226 then (bif Nat.blt mi 222 then (bif Nat.blt mi 220 then (bif Nat.blt mi 219 then 2 else 3) else (bif Nat.blt mi 221 then 2 else 3)) else (bif Nat.blt mi 224 then (bif Nat.blt mi 223 then 3 else 1) else (bif Nat.blt mi 225 then 1 else 2))) else (bif Nat.blt mi 230 then (bif Nat.blt mi 228 then (bif Nat.blt mi 227 then 1 else 1) else (bif Nat.blt mi 229 then 2 else 1)) else (bif Nat.blt mi 232 then (bif Nat.blt mi 231 then 2 else 1) else (bif Nat.blt mi 233 then 2 else 2)))) else (bif Nat.blt mi 242 then (bif Nat.blt mi 238 then (bif Nat.blt mi 236 then (bif Nat.blt mi 235 then 2 else 1) else (bif Nat.blt mi 237 then 1 else 0)) else (bif Nat.blt mi 240 then (bif Nat.blt mi 239 then 1 else 1) else (bif Nat.blt mi 241 then 0 else 1))) else (bif Nat.blt mi 246 then (bif Nat.blt mi 244 then (bif Nat.blt mi 243 then 0 else 0) else (bif Nat.blt mi 245 then 2 else 2)) else (bif Nat.blt mi 248 then (bif Nat.blt mi 247 then 2 else 2) else (bif Nat.blt mi 249 then 3 else 1)))))))) else 0
def clE (ci : Nat) : vw_C := vwCl.getD ci ("", TX0, 0)
def clC (ci : Nat) : String := (clE ci).1
def clT (ci : Nat) : u_T := (clE ci).2.1
def clY (ci : Nat) : Nat → FieldType := bif Nat.blt ci 13 then (bif Nat.blt ci 6 then (bif Nat.blt ci 3 then (bif Nat.blt ci 1 then tyX0 else (bif Nat.blt ci 2 then tyX1 else tyX2)) else (bif Nat.blt ci 4 then tyX3 else (bif Nat.blt ci 5 then tyX4 else tyX5))) else (bif Nat.blt ci 9 then (bif Nat.blt ci 7 then tyX6 else (bif Nat.blt ci 8 then tyX7 else tyX8)) else (bif Nat.blt ci 11 then (bif Nat.blt ci 10 then tyX9 else tyX10) else (bif Nat.blt ci 12 then tyX11 else tyX12)))) else tyX0
def stI (k : Nat) : Nat := [55, 85, 91, 93, 95, 65, 202, 197, 189, 70, 147, 149, 151, 159, 161, 163, 165, 140].getD k 0
def stT (k : Nat) : String := ["mark", "root", "must", "may", "one", "law", "not", "and", "or", "line", "plain", "other", "patch", "mul", "set", "add", "sum", "if"].getD k ""
def stBs : List (List Int32) := [[109, 97, 114, 107], [114, 111, 111, 116], [109, 117, 115, 116], [109, 97, 121], [111, 110, 101], [108, 97, 119], [110, 111, 116], [97, 110, 100], [111, 114], [108, 105, 110, 101], [112, 108, 97, 105, 110], [111, 116, 104, 101, 114], [112, 97, 116, 99, 104], [109, 117, 108], [115, 101, 116], [97, 100, 100], [115, 117, 109], [105, 102]]
def stLs : List Nat := [4, 4, 4, 3, 3, 3, 3, 3, 2, 4, 5, 5, 5, 3, 3, 3, 3, 2]
def stO : String := "MarkedBody$Reader"
def wlm (k : Nat) : Int64 := [(-6148914691236517206), (-3689348814741910324), (-1085102592571150096), (-71777214294589696), (-281470681808896), (-4294967296)].getD k 0
def kInt (a c : Nat) : Int := if c = 0 then (a : Int) else -(a : Int)
def ynE : MethodName := ⟨"java/lang/System", "arraycopy", "(Ljava/lang/Object;ILjava/lang/Object;II)V"⟩
/-- what an instruction links -/
def lnkE (own : String) (e : En) : List Cond := match e with
  | (.getfield x, _, a, b, _) => bif Nat.beq a 50 then [.fieldLink own x "java/lang/String" (bif Nat.beq b 0 then "coder" else "value") (bif Nat.beq b 0 then "B" else "[B")] else [.fieldLink own x (clC a) (clT a b).2.1 (clT a b).2.2.1]
  | (.putfield x, _, a, b, _) => [.fieldLink own x (clC a) (clT a b).2.1 (clT a b).2.2.1]
  | (.getstatic x, _, a, _, _) => match a with
    | 0 => [.fieldLink own x "MarkedBody$KindSet" "WITH_LOW_MARK" "[J"]
    | 1 => [.fieldLink own x "java/lang/String" "COMPACT_STRINGS" "Z"]
    | _ => [.fieldLink own x "jdk/internal/util/Preconditions" "SIOOBE_FORMATTER" "Ljava/util/function/BiFunction;"]
  | (.ldc x, _, a, b, c) => match b with
    | 0 => [.constant own x (Int32.ofInt (kInt a c))]
    | _ => []
  | (.ldc_w x, _, a, _, c) => [.constant own x (Int32.ofInt (kInt a c))]
  | (.ldc2_w x, _, a, _, c) => [.constantLong own x (Int64.ofInt (kInt a c))]
  | (.new x, _, a, _, _) => [.classLink own x (clC a), .instantiable (clC a) (NF a), .initialized (clC a)]
  | (.anewarray x, _, a, _, _) => [.classLink own x (clC (elC a)), .arrayOver (.object (clC (elC a)))]
  | (.newarray ty, _, _, _, _) => [.arrayClass (newarray.typeOf ty)]
  | (.invokestatic x, _, a, _, _) => bif Nat.beq a 900 then [.methodLink own x arraycopyName, .native arraycopyName, .static arraycopyName, .initialized "java/lang/System"] else [.methodLink own x (yyN a), .static (yyN a), .initialized (yyN a).cls]
  | (.invokevirtual x, _, a, _, _) => [.methodLink own x (yyN a), .instanceMethod (yyN a), .initialized (yyN a).cls, .selects (yyN a).cls (yyN a) (yyN a)]
  | (.invokespecial x, _, a, _, c) => bif Nat.beq a 901 then [.methodLink own x objectInit, .instanceMethod objectInit] else [bif Nat.beq c 0 then .methodLink own x (yyN a) else .methodLinkNest own x (yyN a) "MarkedBody", .instanceMethod (yyN a), .initialized (yyN a).cls]
  | _ => []
/-- how long an instruction is -/
def ilen : Instr → Nat
  | .bipush _ | .ldc _ | .iload _ | .lload _ | .aload _ | .istore _ | .lstore _ | .astore _ | .newarray _ => 2
  | .sipush _ | .ldc_w _ | .ldc2_w _ | .iinc _ _ | .getfield _ | .putfield _ | .getstatic _ | .anewarray _ | .new _ | .invokevirtual _ | .invokestatic _ | .invokespecial _ | .goto _ | .ifCond _ _ | .if_icmp _ _ => 3
  | _ => 1
def swi : Instr → Bool
  | .tableswitch _ _ _ _ => true
  | .lookupswitch _ _ => true
  | _ => false
/-- what else is wanted of an instruction -/
def pfE (mi : Nat) (e : En) : Bool := match e with
  | (.putfield _, _, a, b, _) => !(clT a b).2.2.2 || (decide ((yyN mi).name = "<init>") && decide (clC a = owN mi))
  | (.invokespecial _, _, a, _, _) => Nat.beq a 901 || (decide ((yyN a).name = "<init>") && Nat.beq (RT a) 0)
  | (.ldc x, _, a, b, _) => Nat.beq b 0 || (Nat.blt a nStr && Nat.beq (stI a) x && decide (owN mi = stO))
  | (.tableswitch d lo hi os, _, _, _, _) => decide (hi = lo + os.size - 1) && decide (0 < os.size) && decide (-2147483648 ≤ lo) && decide (hi ≤ 2147483647)
  | (.lookupswitch d ps, _, _, _, _) => (ps.toList.zip (ps.toList.drop 1)).all (fun (a, next) => a.1 < next.1) && ps.toList.all (fun q => decide (-2147483648 ≤ q.1) && decide (q.1 ≤ 2147483647))
  | _ => true
theorem mem_pos {big ws : List Cond} (ps : List Nat) (hp : ws = ps.filterMap (fun i => big[i]?)) : ∀ w ∈ ws, w ∈ big := by
  intro w hw
  rw [hp] at hw
  obtain ⟨i, -, hi⟩ := List.mem_filterMap.mp hw
  exact List.mem_of_getElem? hi
set_option maxRecDepth 100000 in
theorem inX0 : ∀ w ∈ u_ws RX0 TX0 8, w ∈ lw_tbl := mem_pos [466, 468, 470, 472, 474, 476, 478, 480] rfl
set_option maxRecDepth 100000 in
theorem inX1 : ∀ w ∈ u_ws RX1 TX1 8, w ∈ lw_tbl := mem_pos [259, 261, 263, 265, 267, 269, 271, 273] rfl
set_option maxRecDepth 100000 in
theorem inX2 : ∀ w ∈ u_ws RX2 TX2 12, w ∈ lw_tbl := mem_pos [396, 398, 400, 402, 404, 406, 408, 410, 412, 414, 416, 418] rfl
set_option maxRecDepth 100000 in
theorem inX3 : ∀ w ∈ u_ws RX3 TX3 6, w ∈ lw_tbl := mem_pos [437, 439, 441, 443, 445, 447] rfl
set_option maxRecDepth 100000 in
theorem inX4 : ∀ w ∈ u_ws RX4 TX4 1, w ∈ lw_tbl := mem_pos [159] rfl
set_option maxRecDepth 100000 in
theorem inX5 : ∀ w ∈ u_ws RX5 TX5 8, w ∈ lw_tbl := mem_pos [333, 335, 337, 339, 341, 343, 345, 347] rfl
set_option maxRecDepth 100000 in
theorem inX6 : ∀ w ∈ u_ws RX6 TX6 9, w ∈ lw_tbl := mem_pos [204, 206, 208, 210, 212, 214, 216, 218, 220] rfl
set_option maxRecDepth 100000 in
theorem inX7 : ∀ w ∈ u_ws RX7 TX7 9, w ∈ lw_tbl := mem_pos [295, 297, 299, 301, 303, 305, 307, 309, 311] rfl
set_option maxRecDepth 100000 in
theorem inX8 : ∀ w ∈ u_ws RX8 TX8 3, w ∈ lw_tbl := mem_pos [369, 371, 373] rfl
set_option maxRecDepth 100000 in
theorem inX9 : ∀ w ∈ u_ws RX9 TX9 3, w ∈ lw_tbl := mem_pos [494, 496, 498] rfl
set_option maxRecDepth 100000 in
theorem inX10 : ∀ w ∈ u_ws RX10 TX10 6, w ∈ lw_tbl := mem_pos [129, 131, 133, 135, 137, 139] rfl
set_option maxRecDepth 100000 in
theorem inX11 : ∀ w ∈ u_ws RX11 TX11 12, w ∈ lw_tbl := mem_pos [567, 569, 571, 573, 575, 577, 579, 581, 583, 585, 587, 589] rfl
set_option maxRecDepth 100000 in
theorem inX12 : ∀ w ∈ u_ws RX12 TX12 49, w ∈ lw_tbl := mem_pos [1302, 1304, 1306, 1308, 1310, 1312, 1314, 1316, 1318, 1320, 1322, 1324, 1326, 1328, 1330, 1332, 1334, 1336, 1338, 1340, 1342, 1344, 1346, 1348, 1350, 1352, 1354, 1356, 1358, 1360, 1362, 1364, 1366, 1368, 1370, 1372, 1374, 1376, 1378, 1380, 1382, 1384, 1386, 1388, 1390, 1392, 1394, 1396, 1398] rfl
/-- the classes -/
def ClOK (ci : Nat) : Prop := vwCl[ci]? = some (clC ci, clT ci, NF ci) ∧ (∀ w ∈ u_ws (clC ci) (clT ci) (NF ci), w ∈ lw_tbl) ∧ (∀ k, k < NF ci → parseFieldDescriptor (clT ci k).2.2.1 = some (clY ci k)) ∧ (∀ a, a < NF ci → ∀ b, b < NF ci → a ≠ b → (clT ci a).2.1 ≠ (clT ci b).2.1) ∧ (∀ k, k < NF ci → (clT ci k).1 = clC ci) ∧ (∀ k, k < NF ci → (FT ci k = 0 → clY ci k = .int) ∧ (FT ci k = 1 → clY ci k = .boolean) ∧ (FT ci k = 2 → refKind (clY ci k) = true) ∧ FT ci k < 3)
theorem clok0 : ClOK 0 := ⟨rfl, inX0, tyX0_ok, nmX0, by decide +kernel, by decide +kernel⟩
theorem clok1 : ClOK 1 := ⟨rfl, inX1, tyX1_ok, nmX1, by decide +kernel, by decide +kernel⟩
theorem clok2 : ClOK 2 := ⟨rfl, inX2, tyX2_ok, nmX2, by decide +kernel, by decide +kernel⟩
theorem clok3 : ClOK 3 := ⟨rfl, inX3, tyX3_ok, nmX3, by decide +kernel, by decide +kernel⟩
theorem clok4 : ClOK 4 := ⟨rfl, inX4, tyX4_ok, nmX4, by decide +kernel, by decide +kernel⟩
theorem clok5 : ClOK 5 := ⟨rfl, inX5, tyX5_ok, nmX5, by decide +kernel, by decide +kernel⟩
theorem clok6 : ClOK 6 := ⟨rfl, inX6, tyX6_ok, nmX6, by decide +kernel, by decide +kernel⟩
theorem clok7 : ClOK 7 := ⟨rfl, inX7, tyX7_ok, nmX7, by decide +kernel, by decide +kernel⟩
theorem clok8 : ClOK 8 := ⟨rfl, inX8, tyX8_ok, nmX8, by decide +kernel, by decide +kernel⟩
theorem clok9 : ClOK 9 := ⟨rfl, inX9, tyX9_ok, nmX9, by decide +kernel, by decide +kernel⟩
theorem clok10 : ClOK 10 := ⟨rfl, inX10, tyX10_ok, nmX10, by decide +kernel, by decide +kernel⟩
theorem clok11 : ClOK 11 := ⟨rfl, inX11, tyX11_ok, nmX11, by decide +kernel, by decide +kernel⟩
theorem clok12 : ClOK 12 := ⟨rfl, inX12, tyX12_ok, nmX12, by decide +kernel, by decide +kernel⟩
theorem cl_ok : ∀ ci, ci < 13 → ClOK ci
  | 0, _ => clok0
  | 1, _ => clok1
  | 2, _ => clok2
  | 3, _ => clok3
  | 4, _ => clok4
  | 5, _ => clok5
  | 6, _ => clok6
  | 7, _ => clok7
  | 8, _ => clok8
  | 9, _ => clok9
  | 10, _ => clok10
  | 11, _ => clok11
  | 12, _ => clok12
  | n + 13, h => absurd h (by omega)
