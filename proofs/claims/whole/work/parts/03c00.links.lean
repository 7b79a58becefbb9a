theorem md0 : MdOK 0 := by unfold MdOK; decide +kernel
set_option maxRecDepth 100000 in
theorem mc0 : McOK 0 := ⟨by decide +kernel, by decide +kernel, mem_pos [455, 109, 162, 456, 458, 463, 464, 465, 460, 461, 253, 462] rfl⟩
set_option maxRecDepth 100000 in
theorem cw0 : Cond.code (yyN 0) (cdN 0) (ML 0) (rtN 0) ∈ lw_tbl := List.mem_of_getElem? (i := 454) rfl
theorem md1 : MdOK 1 := by unfold MdOK; decide +kernel
set_option maxRecDepth 100000 in
theorem mc1 : McOK 1 := ⟨by decide +kernel, by decide +kernel, mem_pos [] rfl⟩
set_option maxRecDepth 100000 in
theorem cw1 : Cond.code (yyN 1) (cdN 1) (ML 1) (rtN 1) ∈ lw_tbl := List.mem_of_getElem? (i := 1148) rfl
theorem md2 : MdOK 2 := by unfold MdOK; decide +kernel
set_option maxRecDepth 100000 in
theorem mc2 : McOK 2 := ⟨by decide +kernel, by decide +kernel, mem_pos [458, 463, 460, 253, 462, 461, 1157, 1129, 88, 1130, 464, 464, 462, 1158, 1139, 86, 1140, 465] rfl⟩
set_option maxRecDepth 100000 in
theorem cw2 : Cond.code (yyN 2) (cdN 2) (ML 2) (rtN 2) ∈ lw_tbl := List.mem_of_getElem? (i := 1156) rfl
theorem md3 : MdOK 3 := by unfold MdOK; decide +kernel
set_option maxRecDepth 100000 in
theorem mc3 : McOK 3 := ⟨by decide +kernel, by decide +kernel, mem_pos [465, 1163, 1165, 92, 31, 1175, 1177, 92, 34, 1179, 1181, 92, 35, 1183, 1185, 92, 36, 1187, 1189, 92, 37] rfl⟩
set_option maxRecDepth 100000 in
theorem cw3 : Cond.code (yyN 3) (cdN 3) (ML 3) (rtN 3) ∈ lw_tbl := List.mem_of_getElem? (i := 1162) rfl
theorem md4 : MdOK 4 := by unfold MdOK; decide +kernel
set_option maxRecDepth 100000 in
theorem mc4 : McOK 4 := ⟨by decide +kernel, by decide +kernel, mem_pos [465, 1191, 1193, 92, 38, 1195, 1197, 92, 39, 1203, 1205, 92, 40, 1171, 1173, 92, 33] rfl⟩
set_option maxRecDepth 100000 in
theorem cw4 : Cond.code (yyN 4) (cdN 4) (ML 4) (rtN 4) ∈ lw_tbl := List.mem_of_getElem? (i := 1202) rfl
theorem md5 : MdOK 5 := by unfold MdOK; decide +kernel
set_option maxRecDepth 100000 in
theorem mc5 : McOK 5 := ⟨by decide +kernel, by decide +kernel, mem_pos [458, 456, 458, 458, 458] rfl⟩
set_option maxRecDepth 100000 in
theorem cw5 : Cond.code (yyN 5) (cdN 5) (ML 5) (rtN 5) ∈ lw_tbl := List.mem_of_getElem? (i := 1170) rfl
theorem md6 : MdOK 6 := by unfold MdOK; decide +kernel
set_option maxRecDepth 100000 in
theorem mc6 : McOK 6 := ⟨by decide +kernel, by decide +kernel, mem_pos [1167, 1169, 92, 32, 464] rfl⟩
set_option maxRecDepth 100000 in
theorem cw6 : Cond.code (yyN 6) (cdN 6) (ML 6) (rtN 6) ∈ lw_tbl := List.mem_of_getElem? (i := 1190) rfl
theorem md7 : MdOK 7 := by unfold MdOK; decide +kernel
set_option maxRecDepth 100000 in
theorem mc7 : McOK 7 := ⟨by decide +kernel, by decide +kernel, mem_pos [1167, 1169, 92, 32, 1187, 1189, 92, 37, 462, 192] rfl⟩
set_option maxRecDepth 100000 in
theorem cw7 : Cond.code (yyN 7) (cdN 7) (ML 7) (rtN 7) ∈ lw_tbl := List.mem_of_getElem? (i := 1186) rfl
theorem md8 : MdOK 8 := by unfold MdOK; decide +kernel
set_option maxRecDepth 100000 in
theorem mc8 : McOK 8 := ⟨by decide +kernel, by decide +kernel, mem_pos [1167, 1169, 92, 32, 1183, 1185, 92, 36] rfl⟩
set_option maxRecDepth 100000 in
theorem cw8 : Cond.code (yyN 8) (cdN 8) (ML 8) (rtN 8) ∈ lw_tbl := List.mem_of_getElem? (i := 1182) rfl
theorem md9 : MdOK 9 := by unfold MdOK; decide +kernel
set_option maxRecDepth 100000 in
theorem mc9 : McOK 9 := ⟨by decide +kernel, by decide +kernel, mem_pos [1167, 1169, 92, 32, 1179, 1181, 92, 35, 1191, 1193, 92, 38] rfl⟩
set_option maxRecDepth 100000 in
theorem cw9 : Cond.code (yyN 9) (cdN 9) (ML 9) (rtN 9) ∈ lw_tbl := List.mem_of_getElem? (i := 1178) rfl
theorem md10 : MdOK 10 := by unfold MdOK; decide +kernel
set_option maxRecDepth 100000 in
theorem mc10 : McOK 10 := ⟨by decide +kernel, by decide +kernel, mem_pos [1167, 1169, 92, 32, 1171, 1173, 92, 33] rfl⟩
set_option maxRecDepth 100000 in
theorem cw10 : Cond.code (yyN 10) (cdN 10) (ML 10) (rtN 10) ∈ lw_tbl := List.mem_of_getElem? (i := 1166) rfl
theorem md11 : MdOK 11 := by unfold MdOK; decide +kernel
set_option maxRecDepth 100000 in
theorem mc11 : McOK 11 := ⟨by decide +kernel, by decide +kernel, mem_pos [1167, 1169, 92, 32, 463] rfl⟩
set_option maxRecDepth 100000 in
theorem cw11 : Cond.code (yyN 11) (cdN 11) (ML 11) (rtN 11) ∈ lw_tbl := List.mem_of_getElem? (i := 1174) rfl
theorem md12 : MdOK 12 := by unfold MdOK; decide +kernel
set_option maxRecDepth 100000 in
theorem mc12 : McOK 12 := ⟨by decide +kernel, by decide +kernel, mem_pos [1167, 1169, 92, 32, 1171, 1173, 92, 33] rfl⟩
set_option maxRecDepth 100000 in
theorem cw12 : Cond.code (yyN 12) (cdN 12) (ML 12) (rtN 12) ∈ lw_tbl := List.mem_of_getElem? (i := 1198) rfl
theorem md13 : MdOK 13 := by unfold MdOK; decide +kernel
set_option maxRecDepth 100000 in
theorem mc13 : McOK 13 := ⟨by decide +kernel, by decide +kernel, mem_pos [1167, 1169, 92, 32, 1195, 1197, 92, 39, 462, 180] rfl⟩
set_option maxRecDepth 100000 in
theorem cw13 : Cond.code (yyN 13) (cdN 13) (ML 13) (rtN 13) ∈ lw_tbl := List.mem_of_getElem? (i := 1194) rfl
theorem md14 : MdOK 14 := by unfold MdOK; decide +kernel
set_option maxRecDepth 100000 in
theorem mc14 : McOK 14 := ⟨by decide +kernel, by decide +kernel, mem_pos [1167, 1169, 92, 32, 1171, 1173, 92, 33, 1187, 1189, 92, 37] rfl⟩
set_option maxRecDepth 100000 in
theorem cw14 : Cond.code (yyN 14) (cdN 14) (ML 14) (rtN 14) ∈ lw_tbl := List.mem_of_getElem? (i := 1206) rfl
theorem md15 : MdOK 15 := by unfold MdOK; decide +kernel
set_option maxRecDepth 100000 in
theorem mc15 : McOK 15 := ⟨by decide +kernel, by decide +kernel, mem_pos [148, 109, 223, 229, 233, 238, 162, 243, 162, 246, 149, 150, 249, 151, 152, 254, 249, 149, 153, 85, 154, 155, 85, 254, 151, 164, 86, 165, 166, 86] rfl⟩
set_option maxRecDepth 100000 in
theorem cw15 : Cond.code (yyN 15) (cdN 15) (ML 15) (rtN 15) ∈ lw_tbl := List.mem_of_getElem? (i := 147) rfl
theorem md16 : MdOK 16 := by unfold MdOK; decide +kernel
set_option maxRecDepth 100000 in
theorem mc16 : McOK 16 := ⟨by decide +kernel, by decide +kernel, mem_pos [] rfl⟩
set_option maxRecDepth 100000 in
theorem cw16 : Cond.code (yyN 16) (cdN 16) (ML 16) (rtN 16) ∈ lw_tbl := List.mem_of_getElem? (i := 529) rfl
theorem md17 : MdOK 17 := by unfold MdOK; decide +kernel
set_option maxRecDepth 100000 in
theorem mc17 : McOK 17 := ⟨by decide +kernel, by decide +kernel, mem_pos [223] rfl⟩
set_option maxRecDepth 100000 in
theorem cw17 : Cond.code (yyN 17) (cdN 17) (ML 17) (rtN 17) ∈ lw_tbl := List.mem_of_getElem? (i := 1028) rfl
theorem md18 : MdOK 18 := by unfold MdOK; decide +kernel
set_option maxRecDepth 100000 in
theorem mc18 : McOK 18 := ⟨by decide +kernel, by decide +kernel, mem_pos [233] rfl⟩
set_option maxRecDepth 100000 in
theorem cw18 : Cond.code (yyN 18) (cdN 18) (ML 18) (rtN 18) ∈ lw_tbl := List.mem_of_getElem? (i := 864) rfl
theorem md19 : MdOK 19 := by unfold MdOK; decide +kernel
set_option maxRecDepth 100000 in
theorem mc19 : McOK 19 := ⟨by decide +kernel, by decide +kernel, mem_pos [223] rfl⟩
set_option maxRecDepth 100000 in
theorem cw19 : Cond.code (yyN 19) (cdN 19) (ML 19) (rtN 19) ∈ lw_tbl := List.mem_of_getElem? (i := 522) rfl
theorem md20 : MdOK 20 := by unfold MdOK; decide +kernel
set_option maxRecDepth 100000 in
theorem mc20 : McOK 20 := ⟨by decide +kernel, by decide +kernel, mem_pos [852, 520, 84, 521] rfl⟩
set_option maxRecDepth 100000 in
theorem cw20 : Cond.code (yyN 20) (cdN 20) (ML 20) (rtN 20) ∈ lw_tbl := List.mem_of_getElem? (i := 851) rfl
theorem md21 : MdOK 21 := by unfold MdOK; decide +kernel
set_option maxRecDepth 100000 in
theorem mc21 : McOK 21 := ⟨by decide +kernel, by decide +kernel, mem_pos [912, 849, 84, 850, 912, 849, 84, 850] rfl⟩
set_option maxRecDepth 100000 in
theorem cw21 : Cond.code (yyN 21) (cdN 21) (ML 21) (rtN 21) ∈ lw_tbl := List.mem_of_getElem? (i := 911) rfl
theorem md22 : MdOK 22 := by unfold MdOK; decide +kernel
set_option maxRecDepth 100000 in
theorem mc22 : McOK 22 := ⟨by decide +kernel, by decide +kernel, mem_pos [233, 254, 173] rfl⟩
set_option maxRecDepth 100000 in
theorem cw22 : Cond.code (yyN 22) (cdN 22) (ML 22) (rtN 22) ∈ lw_tbl := List.mem_of_getElem? (i := 1226) rfl
theorem md23 : MdOK 23 := by unfold MdOK; decide +kernel
set_option maxRecDepth 100000 in
theorem mc23 : McOK 23 := ⟨by decide +kernel, by decide +kernel, mem_pos [233, 254, 986, 987, 86, 988, 254, 201, 990, 854, 85, 855, 254, 173] rfl⟩
set_option maxRecDepth 100000 in
theorem cw23 : Cond.code (yyN 23) (cdN 23) (ML 23) (rtN 23) ∈ lw_tbl := List.mem_of_getElem? (i := 985) rfl
theorem md24 : MdOK 24 := by unfold MdOK; decide +kernel
set_option maxRecDepth 100000 in
theorem mc24 : McOK 24 := ⟨by decide +kernel, by decide +kernel, mem_pos [355, 109, 356, 357, 90, 358, 359, 90, 379, 376, 153, 85, 377, 155, 85, 381, 162, 383, 385, 387, 162, 389, 421, 390, 376, 153, 85, 377, 155, 85, 391, 378, 394, 395, 392, 393] rfl⟩
set_option maxRecDepth 100000 in
theorem cw24 : Cond.code (yyN 24) (cdN 24) (ML 24) (rtN 24) ∈ lw_tbl := List.mem_of_getElem? (i := 354) rfl
