/-! ===== printed by program (gen4.py): what the Statement gives of texts and constants ===== -/
def flS : List Cond := flatC (Jvm.Cond.and given_1 narrow_1)
def tmS (i : Nat) : Term := .string stO (stI i)
set_option maxRecDepth 100000 in
theorem fs_ex : ∀ w ∈ (List.range 18).map (fun i => Cond.exactly (tmS i) "java/lang/String"), w ∈ flS := mem_pos [18, 26, 35, 45, 55, 66, 78, 91, 105, 119, 136, 155, 175, 196, 216, 237, 259, 282] rfl
set_option maxRecDepth 100000 in
theorem fs_co : ∀ w ∈ (List.range 18).map (fun i => Cond.eq (.field (tmS i) "java/lang/String" "coder" "B") (.int 0)), w ∈ flS := mem_pos [19, 27, 36, 46, 56, 67, 79, 92, 106, 120, 137, 156, 176, 197, 217, 238, 260, 283] rfl
set_option maxRecDepth 100000 in
theorem fs_ar : ∀ w ∈ (List.range 18).map (fun i => Cond.arrayOf (.field (tmS i) "java/lang/String" "value" "[B") .byte), w ∈ flS := mem_pos [20, 28, 37, 47, 57, 68, 80, 93, 107, 121, 138, 157, 177, 198, 218, 239, 261, 284] rfl
set_option maxRecDepth 100000 in
theorem fs_le : ∀ w ∈ (List.range 18).map (fun i => Cond.eq (.length (.field (tmS i) "java/lang/String" "value" "[B")) (.int (Int32.ofNat (stLs.getD i 0)))), w ∈ flS := mem_pos [21, 29, 38, 48, 58, 69, 81, 94, 108, 122, 139, 158, 178, 199, 219, 240, 262, 285] rfl
set_option maxRecDepth 100000 in
theorem fs_el : ∀ w ∈ (List.range 18).flatMap (fun i => (List.range (stLs.getD i 0)).map (fun j => Cond.eq (.elem (.field (tmS i) "java/lang/String" "value" "[B") (.int (Int32.ofNat j))) (.int ((stBs.getD i []).getD j 0)))), w ∈ flS := mem_pos [22, 23, 24, 25, 30, 31, 32, 33, 39, 40, 41, 42, 49, 50, 51, 59, 60, 61, 70, 71, 72, 82, 83, 84, 95, 96, 97, 109, 110, 123, 124, 125, 126, 140, 141, 142, 143, 144, 159, 160, 161, 162, 163, 179, 180, 181, 182, 183, 200, 201, 202, 220, 221, 222, 241, 242, 243, 263, 264, 265, 286, 287] rfl
def prS : List (Nat × Nat) := [(0, 1), (0, 2), (0, 3), (0, 4), (0, 5), (0, 6), (0, 7), (0, 8), (0, 9), (0, 10), (0, 11), (0, 12), (0, 13), (0, 14), (0, 15), (0, 16), (0, 17), (1, 2), (1, 3), (1, 4), (1, 5), (1, 6), (1, 7), (1, 8), (1, 9), (1, 10), (1, 11), (1, 12), (1, 13), (1, 14), (1, 15), (1, 16), (1, 17), (2, 3), (2, 4), (2, 5), (2, 6), (2, 7), (2, 8), (2, 9), (2, 10), (2, 11), (2, 12), (2, 13), (2, 14), (2, 15), (2, 16), (2, 17), (3, 4), (3, 5), (3, 6), (3, 7), (3, 8), (3, 9), (3, 10), (3, 11), (3, 12), (3, 13), (3, 14), (3, 15), (3, 16), (3, 17), (4, 5), (4, 6), (4, 7), (4, 8), (4, 9), (4, 10), (4, 11), (4, 12), (4, 13), (4, 14), (4, 15), (4, 16), (4, 17), (5, 6), (5, 7), (5, 8), (5, 9), (5, 10), (5, 11), (5, 12), (5, 13), (5, 14), (5, 15), (5, 16), (5, 17), (6, 7), (6, 8), (6, 9), (6, 10), (6, 11), (6, 12), (6, 13), (6, 14), (6, 15), (6, 16), (6, 17), (7, 8), (7, 9), (7, 10), (7, 11), (7, 12), (7, 13), (7, 14), (7, 15), (7, 16), (7, 17), (8, 9), (8, 10), (8, 11), (8, 12), (8, 13), (8, 14), (8, 15), (8, 16), (8, 17), (9, 10), (9, 11), (9, 12), (9, 13), (9, 14), (9, 15), (9, 16), (9, 17), (10, 11), (10, 12), (10, 13), (10, 14), (10, 15), (10, 16), (10, 17), (11, 12), (11, 13), (11, 14), (11, 15), (11, 16), (11, 17), (12, 13), (12, 14), (12, 15), (12, 16), (12, 17), (13, 14), (13, 15), (13, 16), (13, 17), (14, 15), (14, 16), (14, 17), (15, 16), (15, 17), (16, 17)]
set_option maxRecDepth 100000 in
theorem fs_ne : ∀ w ∈ prS.map (fun q => Cond.not (Cond.eq (tmS q.1) (tmS q.2))), w ∈ flS := mem_pos [34, 43, 52, 62, 73, 85, 98, 111, 127, 145, 164, 184, 203, 223, 244, 266, 288, 44, 53, 63, 74, 86, 99, 112, 128, 146, 165, 185, 204, 224, 245, 267, 289, 54, 64, 75, 87, 100, 113, 129, 147, 166, 186, 205, 225, 246, 268, 290, 65, 76, 88, 101, 114, 130, 148, 167, 187, 206, 226, 247, 269, 291, 77, 89, 102, 115, 131, 149, 168, 188, 207, 227, 248, 270, 292, 90, 103, 116, 132, 150, 169, 189, 208, 228, 249, 271, 293, 104, 117, 133, 151, 170, 190, 209, 229, 250, 272, 294, 118, 134, 152, 171, 191, 210, 230, 251, 273, 295, 135, 153, 172, 192, 211, 231, 252, 274, 296, 154, 173, 193, 212, 232, 253, 275, 297, 174, 194, 213, 233, 254, 276, 298, 195, 214, 234, 255, 277, 299, 215, 235, 256, 278, 300, 236, 257, 279, 301, 258, 280, 302, 281, 303, 304] rfl
theorem pr_all0 : ∀ i, i < 18 → ∀ j, j < 18 → i ≠ j → (prS.contains (i, j) || prS.contains (j, i)) = true := by decide +kernel
theorem pr_all (i : Nat) (hi : i < 18) (j : Nat) (hj : j < 18) (h : i ≠ j) : (i, j) ∈ prS ∨ (j, i) ∈ prS := by
  have := pr_all0 i hi j hj h
  simp only [Bool.or_eq_true, List.contains_iff_mem] at this
  exact this
set_option maxRecDepth 100000 in
theorem fs_w : ∀ w ∈ [Cond.arrayOf (.static "MarkedBody$KindSet" "WITH_LOW_MARK" "[J") .long, Cond.eq (.length (.static "MarkedBody$KindSet" "WITH_LOW_MARK" "[J")) (.int (Int32.ofNat 6)), Cond.eq (.static "java/lang/String" "COMPACT_STRINGS" "Z") (.int 1), Cond.isRef (.static "jdk/internal/util/Preconditions" "SIOOBE_FORMATTER" "Ljava/util/function/BiFunction;")], w ∈ flS := mem_pos [10, 11, 4, 5] rfl
set_option maxRecDepth 100000 in
theorem fs_wl : ∀ w ∈ (List.range 6).map (fun j => Cond.eq (.elem (.static "MarkedBody$KindSet" "WITH_LOW_MARK" "[J") (.int (Int32.ofNat j))) (.long (wlm j))), w ∈ flS := mem_pos [12, 13, 14, 15, 16, 17] rfl
set_option maxRecDepth 100000 in
theorem tb_st : ∀ w ∈ (List.range 18).map (fun i => Cond.stringRef stO (stI i) (stT i)), w ∈ lw_tbl := mem_pos [675, 737, 746, 747, 748, 761, 778, 801, 803, 809, 823, 824, 825, 830, 831, 832, 833, 834] rfl
set_option maxRecDepth 100000 in
theorem tb_ls : ∀ w ∈ [Cond.laysStatic "MarkedBody$KindSet" "WITH_LOW_MARK" "[J", Cond.initialized "MarkedBody$KindSet", Cond.laysStatic "java/lang/String" "COMPACT_STRINGS" "Z", Cond.initialized "java/lang/String", Cond.laysStatic "jdk/internal/util/Preconditions" "SIOOBE_FORMATTER" "Ljava/util/function/BiFunction;", Cond.initialized "jdk/internal/util/Preconditions"], w ∈ lw_tbl := mem_pos [796, 85, 689, 98, 705, 100] rfl
set_option maxRecDepth 100000 in
theorem tb_ac : ∀ w ∈ [Cond.arrayClass .int, .arrayClass .byte, .arrayClass .boolean, .arrayClass .long], w ∈ lw_tbl := mem_pos [162, 142, 421, 163] rfl
set_option maxRecDepth 100000 in
theorem tb_ao : ∀ w ∈ [Cond.arrayOver (.object "MarkedBody$Sheet"), Cond.arrayOver (.object "MarkedBody$KindSet"), Cond.arrayOver (.object "MarkedBody$Line")], w ∈ lw_tbl := mem_pos [112, 150, 152] rfl
set_option maxRecDepth 100000 in
theorem tb_in : ∀ w ∈ (List.range 13).map (fun i => Cond.instantiable (clC i) (NF i)), w ∈ lw_tbl := mem_pos [451, 144, 351, 423, 153, 315, 164, 277, 357, 483, 114, 104, 1232] rfl
