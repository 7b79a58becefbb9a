theorem md50 : MdOK 50 := by unfold MdOK; decide +kernel
set_option maxRecDepth 100000 in
theorem mc50 : McOK 50 := ⟨by decide +kernel, by decide +kernel, mem_pos [158, 792, 793, 85, 787] rfl⟩
set_option maxRecDepth 100000 in
theorem cw50 : Cond.code (yyN 50) (cdN 50) (ML 50) (rtN 50) ∈ lw_tbl := List.mem_of_getElem? (i := 926) rfl
theorem md51 : MdOK 51 := by unfold MdOK; decide +kernel
set_option maxRecDepth 100000 in
theorem mc51 : McOK 51 := ⟨by decide +kernel, by decide +kernel, mem_pos [921, 528, 84, 922, 789, 85, 790, 921, 528, 84, 923, 924, 85, 925] rfl⟩
set_option maxRecDepth 100000 in
theorem cw51 : Cond.code (yyN 51) (cdN 51) (ML 51) (rtN 51) ∈ lw_tbl := List.mem_of_getElem? (i := 920) rfl
theorem md52 : MdOK 52 := by unfold MdOK; decide +kernel
set_option maxRecDepth 100000 in
theorem mc52 : McOK 52 := ⟨by decide +kernel, by decide +kernel, mem_pos [158] rfl⟩
set_option maxRecDepth 100000 in
theorem cw52 : Cond.code (yyN 52) (cdN 52) (ML 52) (rtN 52) ∈ lw_tbl := List.mem_of_getElem? (i := 930) rfl
theorem md53 : MdOK 53 := by unfold MdOK; decide +kernel
set_option maxRecDepth 100000 in
theorem mc53 : McOK 53 := ⟨by decide +kernel, by decide +kernel, mem_pos [158, 158, 787] rfl⟩
set_option maxRecDepth 100000 in
theorem cw53 : Cond.code (yyN 53) (cdN 53) (ML 53) (rtN 53) ∈ lw_tbl := List.mem_of_getElem? (i := 1098) rfl
theorem md54 : MdOK 54 := by unfold MdOK; decide +kernel
set_option maxRecDepth 100000 in
theorem mc54 : McOK 54 := ⟨by decide +kernel, by decide +kernel, mem_pos [158, 792, 793, 85] rfl⟩
set_option maxRecDepth 100000 in
theorem cw54 : Cond.code (yyN 54) (cdN 54) (ML 54) (rtN 54) ∈ lw_tbl := List.mem_of_getElem? (i := 890) rfl
theorem md55 : MdOK 55 := by unfold MdOK; decide +kernel
set_option maxRecDepth 100000 in
theorem mc55 : McOK 55 := ⟨by decide +kernel, by decide +kernel, mem_pos [158, 792, 793, 85, 787] rfl⟩
set_option maxRecDepth 100000 in
theorem cw55 : Cond.code (yyN 55) (cdN 55) (ML 55) (rtN 55) ∈ lw_tbl := List.mem_of_getElem? (i := 898) rfl
theorem md56 : MdOK 56 := by unfold MdOK; decide +kernel
set_option maxRecDepth 100000 in
theorem mc56 : McOK 56 := ⟨by decide +kernel, by decide +kernel, mem_pos [158, 873, 874, 102] rfl⟩
set_option maxRecDepth 100000 in
theorem cw56 : Cond.code (yyN 56) (cdN 56) (ML 56) (rtN 56) ∈ lw_tbl := List.mem_of_getElem? (i := 872) rfl
theorem md57 : MdOK 57 := by unfold MdOK; decide +kernel
set_option maxRecDepth 100000 in
theorem mc57 : McOK 57 := ⟨by decide +kernel, by decide +kernel, mem_pos [795, 787] rfl⟩
set_option maxRecDepth 100000 in
theorem cw57 : Cond.code (yyN 57) (cdN 57) (ML 57) (rtN 57) ∈ lw_tbl := List.mem_of_getElem? (i := 794) rfl
theorem md58 : MdOK 58 := by unfold MdOK; decide +kernel
set_option maxRecDepth 100000 in
theorem mc58 : McOK 58 := ⟨by decide +kernel, by decide +kernel, mem_pos [319, 109, 320, 153, 85, 321, 155, 85, 322, 320, 153, 85, 321, 155, 85, 326, 320, 153, 85, 321, 155, 85, 327, 320, 153, 85, 321, 155, 85, 328, 162, 330, 162, 331, 162, 332, 329] rfl⟩
set_option maxRecDepth 100000 in
theorem cw58 : Cond.code (yyN 58) (cdN 58) (ML 58) (rtN 58) ∈ lw_tbl := List.mem_of_getElem? (i := 318) rfl
theorem md59 : MdOK 59 := by unfold MdOK; decide +kernel
set_option maxRecDepth 100000 in
theorem mc59 : McOK 59 := ⟨by decide +kernel, by decide +kernel, mem_pos [505, 507, 88, 0, 326, 512, 513, 85, 514, 329, 519, 520, 84, 521, 523, 525, 88, 1, 326, 540, 541, 85, 542, 322, 326, 544, 545, 85, 546, 329, 231, 322, 329, 250, 551, 552, 85, 553] rfl⟩
set_option maxRecDepth 100000 in
theorem cw59 : Cond.code (yyN 59) (cdN 59) (ML 59) (rtN 59) ∈ lw_tbl := List.mem_of_getElem? (i := 504) rfl
theorem md60 : MdOK 60 := by unfold MdOK; decide +kernel
set_option maxRecDepth 100000 in
theorem mc60 : McOK 60 := ⟨by decide +kernel, by decide +kernel, mem_pos [330, 509, 510, 94, 331, 509, 510, 94, 332, 509, 510, 94, 329, 225, 329, 244, 330, 329, 247, 331, 329, 247, 332] rfl⟩
set_option maxRecDepth 100000 in
theorem cw60 : Cond.code (yyN 60) (cdN 60) (ML 60) (rtN 60) ∈ lw_tbl := List.mem_of_getElem? (i := 508) rfl
theorem md61 : MdOK 61 := by unfold MdOK; decide +kernel
set_option maxRecDepth 100000 in
theorem mc61 : McOK 61 := ⟨by decide +kernel, by decide +kernel, mem_pos [329, 225, 527, 528, 84, 530, 532, 88, 2, 330] rfl⟩
set_option maxRecDepth 100000 in
theorem cw61 : Cond.code (yyN 61) (cdN 61) (ML 61) (rtN 61) ∈ lw_tbl := List.mem_of_getElem? (i := 526) rfl
theorem md62 : MdOK 62 := by unfold MdOK; decide +kernel
set_option maxRecDepth 100000 in
theorem mc62 : McOK 62 := ⟨by decide +kernel, by decide +kernel, mem_pos [332, 332, 534, 535, 95, 331] rfl⟩
set_option maxRecDepth 100000 in
theorem cw62 : Cond.code (yyN 62) (cdN 62) (ML 62) (rtN 62) ∈ lw_tbl := List.mem_of_getElem? (i := 533) rfl
theorem md63 : MdOK 63 := by unfold MdOK; decide +kernel
set_option maxRecDepth 100000 in
theorem mc63 : McOK 63 := ⟨by decide +kernel, by decide +kernel, mem_pos [329, 225, 322, 887, 888, 85, 889] rfl⟩
set_option maxRecDepth 100000 in
theorem cw63 : Cond.code (yyN 63) (cdN 63) (ML 63) (rtN 63) ∈ lw_tbl := List.mem_of_getElem? (i := 886) rfl
theorem md64 : MdOK 64 := by unfold MdOK; decide +kernel
set_option maxRecDepth 100000 in
theorem mc64 : McOK 64 := ⟨by decide +kernel, by decide +kernel, mem_pos [329, 225, 322, 895, 896, 85, 897] rfl⟩
set_option maxRecDepth 100000 in
theorem cw64 : Cond.code (yyN 64) (cdN 64) (ML 64) (rtN 64) ∈ lw_tbl := List.mem_of_getElem? (i := 894) rfl
theorem md65 : MdOK 65 := by unfold MdOK; decide +kernel
set_option maxRecDepth 100000 in
theorem mc65 : McOK 65 := ⟨by decide +kernel, by decide +kernel, mem_pos [322, 903, 870, 85, 871, 329, 231, 327, 326, 544, 545, 85, 546, 329, 231, 327, 329, 250, 551, 552, 85, 553, 327, 903, 870, 85, 871] rfl⟩
set_option maxRecDepth 100000 in
theorem cw65 : Cond.code (yyN 65) (cdN 65) (ML 65) (rtN 65) ∈ lw_tbl := List.mem_of_getElem? (i := 902) rfl
theorem md66 : MdOK 66 := by unfold MdOK; decide +kernel
set_option maxRecDepth 100000 in
theorem mc66 : McOK 66 := ⟨by decide +kernel, by decide +kernel, mem_pos [327, 322, 544, 545, 85, 546, 327, 917, 918, 85, 919, 327, 927, 928, 85, 929, 931, 329, 225, 527, 528, 84, 327, 895, 896, 85, 897, 327, 887, 888, 85, 889] rfl⟩
set_option maxRecDepth 100000 in
theorem cw66 : Cond.code (yyN 66) (cdN 66) (ML 66) (rtN 66) ∈ lw_tbl := List.mem_of_getElem? (i := 916) rfl
theorem md67 : MdOK 67 := by unfold MdOK; decide +kernel
set_option maxRecDepth 100000 in
theorem mc67 : McOK 67 := ⟨by decide +kernel, by decide +kernel, mem_pos [931, 329, 519, 520, 84, 521, 322, 940, 854, 85, 855, 534, 535, 95, 534, 535, 95] rfl⟩
set_option maxRecDepth 100000 in
theorem cw67 : Cond.code (yyN 67) (cdN 67) (ML 67) (rtN 67) ∈ lw_tbl := List.mem_of_getElem? (i := 939) rfl
theorem md68 : MdOK 68 := by unfold MdOK; decide +kernel
set_option maxRecDepth 100000 in
theorem mc68 : McOK 68 := ⟨by decide +kernel, by decide +kernel, mem_pos [327, 949, 784, 85, 785, 327, 917, 918, 85, 919, 327, 329, 519, 520, 84, 521, 917, 918, 85, 919, 329, 231, 931, 534, 535, 95, 950, 952, 88, 19] rfl⟩
set_option maxRecDepth 100000 in
theorem cw68 : Cond.code (yyN 68) (cdN 68) (ML 68) (rtN 68) ∈ lw_tbl := List.mem_of_getElem? (i := 948) rfl
theorem md69 : MdOK 69 := by unfold MdOK; decide +kernel
set_option maxRecDepth 100000 in
theorem mc69 : McOK 69 := ⟨by decide +kernel, by decide +kernel, mem_pos [328, 327, 544, 545, 85, 546, 527, 528, 84, 328, 326, 551, 552, 85, 553, 329, 231, 527, 528, 84, 328, 329, 250, 551, 552, 85, 553, 328, 927, 928, 85, 929] rfl⟩
set_option maxRecDepth 100000 in
theorem cw69 : Cond.code (yyN 69) (cdN 69) (ML 69) (rtN 69) ∈ lw_tbl := List.mem_of_getElem? (i := 953) rfl
theorem md70 : MdOK 70 := by unfold MdOK; decide +kernel
set_option maxRecDepth 100000 in
theorem mc70 : McOK 70 := ⟨by decide +kernel, by decide +kernel, mem_pos [329, 258, 329, 241, 179, 1132, 987, 86, 988, 327, 322, 544, 545, 85, 546, 327, 203, 551, 552, 85, 553, 329, 1133, 862, 84, 863, 329, 258, 175, 329, 241, 179, 1132, 987, 86, 988, 327, 203, 1134, 1135, 85, 1136, 327, 903, 870, 85, 871] rfl⟩
set_option maxRecDepth 100000 in
theorem cw70 : Cond.code (yyN 70) (cdN 70) (ML 70) (rtN 70) ∈ lw_tbl := List.mem_of_getElem? (i := 1131) rfl
theorem md71 : MdOK 71 := by unfold MdOK; decide +kernel
set_option maxRecDepth 100000 in
theorem mc71 : McOK 71 := ⟨by decide +kernel, by decide +kernel, mem_pos [1128, 1129, 88, 1130, 329, 258, 1138, 1139, 86, 1140] rfl⟩
set_option maxRecDepth 100000 in
theorem cw71 : Cond.code (yyN 71) (cdN 71) (ML 71) (rtN 71) ∈ lw_tbl := List.mem_of_getElem? (i := 1127) rfl
theorem md72 : MdOK 72 := by unfold MdOK; decide +kernel
set_option maxRecDepth 100000 in
theorem mc72 : McOK 72 := ⟨by decide +kernel, by decide +kernel, mem_pos [329, 237, 1128, 1129, 88, 1130] rfl⟩
set_option maxRecDepth 100000 in
theorem cw72 : Cond.code (yyN 72) (cdN 72) (ML 72) (rtN 72) ∈ lw_tbl := List.mem_of_getElem? (i := 1222) rfl
theorem md73 : MdOK 73 := by unfold MdOK; decide +kernel
set_option maxRecDepth 100000 in
theorem mc73 : McOK 73 := ⟨by decide +kernel, by decide +kernel, mem_pos [168, 109, 172, 169, 177, 182, 185, 188, 191, 195, 169, 197, 170, 153, 85, 171, 155, 85, 199] rfl⟩
set_option maxRecDepth 100000 in
theorem cw73 : Cond.code (yyN 73) (cdN 73) (ML 73) (rtN 73) ∈ lw_tbl := List.mem_of_getElem? (i := 167) rfl
theorem md74 : MdOK 74 := by unfold MdOK; decide +kernel
set_option maxRecDepth 100000 in
theorem mc74 : McOK 74 := ⟨by decide +kernel, by decide +kernel, mem_pos [172, 169, 177, 191, 195, 169, 197, 199, 818, 784, 85, 785] rfl⟩
set_option maxRecDepth 100000 in
theorem cw74 : Cond.code (yyN 74) (cdN 74) (ML 74) (rtN 74) ∈ lw_tbl := List.mem_of_getElem? (i := 817) rfl
