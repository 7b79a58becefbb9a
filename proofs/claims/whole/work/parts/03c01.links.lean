theorem md25 : MdOK 25 := by unfold MdOK; decide +kernel
set_option maxRecDepth 100000 in
theorem mc25 : McOK 25 := ⟨by decide +kernel, by decide +kernel, mem_pos [387, 390, 392, 1017, 520, 84, 521, 393, 323, 1018, 854, 85, 855, 379, 392, 392, 392, 239, 378, 1019, 983, 84, 984, 1020, 996, 90, 997, 389, 379, 364, 390, 379, 364, 385, 390, 383, 385, 385, 385, 387] rfl⟩
set_option maxRecDepth 100000 in
theorem cw25 : Cond.code (yyN 25) (cdN 25) (ML 25) (rtN 25) ∈ lw_tbl := List.mem_of_getElem? (i := 1016) rfl
theorem md26 : MdOK 26 := by unfold MdOK; decide +kernel
set_option maxRecDepth 100000 in
theorem mc26 : McOK 26 := ⟨by decide +kernel, by decide +kernel, mem_pos [392, 1017, 520, 84, 521, 1033, 1035, 89, 23, 378] rfl⟩
set_option maxRecDepth 100000 in
theorem cw26 : Cond.code (yyN 26) (cdN 26) (ML 26) (rtN 26) ∈ lw_tbl := List.mem_of_getElem? (i := 1032) rfl
theorem md27 : MdOK 27 := by unfold MdOK; decide +kernel
set_option maxRecDepth 100000 in
theorem mc27 : McOK 27 := ⟨by decide +kernel, by decide +kernel, mem_pos [393, 323, 1018, 854, 85, 855, 1018, 854, 85, 855, 1018, 854, 85, 855, 1018, 854, 85, 855, 389, 389, 389, 389] rfl⟩
set_option maxRecDepth 100000 in
theorem cw27 : Cond.code (yyN 27) (cdN 27) (ML 27) (rtN 27) ∈ lw_tbl := List.mem_of_getElem? (i := 1036) rfl
theorem md28 : MdOK 28 := by unfold MdOK; decide +kernel
set_option maxRecDepth 100000 in
theorem mc28 : McOK 28 := ⟨by decide +kernel, by decide +kernel, mem_pos [381, 1077, 513, 85, 514, 392, 1017, 520, 84, 521, 393, 323, 1018, 854, 85, 855, 389, 381, 1078, 541, 85, 542] rfl⟩
set_option maxRecDepth 100000 in
theorem cw28 : Cond.code (yyN 28) (cdN 28) (ML 28) (rtN 28) ∈ lw_tbl := List.mem_of_getElem? (i := 1076) rfl
theorem md29 : MdOK 29 := by unfold MdOK; decide +kernel
set_option maxRecDepth 100000 in
theorem mc29 : McOK 29 := ⟨by decide +kernel, by decide +kernel, mem_pos [378, 394, 395, 392, 227, 391, 393, 323, 1083, 545, 85, 546, 1084, 1086, 89, 28, 1090, 1092, 89, 29, 391, 393, 323, 1083, 545, 85, 546, 1084, 1086, 89, 28, 1084, 1086, 89, 28, 1090, 1092, 89, 29, 394] rfl⟩
set_option maxRecDepth 100000 in
theorem cw29 : Cond.code (yyN 29) (cdN 29) (ML 29) (rtN 29) ∈ lw_tbl := List.mem_of_getElem? (i := 1082) rfl
theorem md30 : MdOK 30 := by unfold MdOK; decide +kernel
set_option maxRecDepth 100000 in
theorem mc30 : McOK 30 := ⟨by decide +kernel, by decide +kernel, mem_pos [391, 1088, 789, 85, 790, 391, 1089, 924, 85, 925] rfl⟩
set_option maxRecDepth 100000 in
theorem cw30 : Cond.code (yyN 30) (cdN 30) (ML 30) (rtN 30) ∈ lw_tbl := List.mem_of_getElem? (i := 1087) rfl
theorem md31 : MdOK 31 := by unfold MdOK; decide +kernel
set_option maxRecDepth 100000 in
theorem mc31 : McOK 31 := ⟨by decide +kernel, by decide +kernel, mem_pos [391, 1094, 870, 85, 871, 395, 391, 381, 1095, 1096, 85, 1097, 394, 395] rfl⟩
set_option maxRecDepth 100000 in
theorem cw31 : Cond.code (yyN 31) (cdN 31) (ML 31) (rtN 31) ∈ lw_tbl := List.mem_of_getElem? (i := 1093) rfl
theorem md32 : MdOK 32 := by unfold MdOK; decide +kernel
set_option maxRecDepth 100000 in
theorem mc32 : McOK 32 := ⟨by decide +kernel, by decide +kernel, mem_pos [427, 109, 162, 428, 430, 432, 162, 436, 434, 435] rfl⟩
set_option maxRecDepth 100000 in
theorem cw32 : Cond.code (yyN 32) (cdN 32) (ML 32) (rtN 32) ∈ lw_tbl := List.mem_of_getElem? (i := 426) rfl
theorem md33 : MdOK 33 := by unfold MdOK; decide +kernel
set_option maxRecDepth 100000 in
theorem mc33 : McOK 33 := ⟨by decide +kernel, by decide +kernel, mem_pos [432, 436, 436, 430, 1045, 1047, 91, 24, 1049, 430, 428, 430, 430, 430, 1065, 1067, 91, 27, 1045, 1047, 91, 24, 432] rfl⟩
set_option maxRecDepth 100000 in
theorem cw33 : Cond.code (yyN 33) (cdN 33) (ML 33) (rtN 33) ∈ lw_tbl := List.mem_of_getElem? (i := 1044) rfl
theorem md34 : MdOK 34 := by unfold MdOK; decide +kernel
set_option maxRecDepth 100000 in
theorem mc34 : McOK 34 := ⟨by decide +kernel, by decide +kernel, mem_pos [1049, 434, 1050, 520, 84, 521, 435, 324, 1051, 854, 85, 855, 1052, 1054, 91, 25] rfl⟩
set_option maxRecDepth 100000 in
theorem cw34 : Cond.code (yyN 34) (cdN 34) (ML 34) (rtN 34) ∈ lw_tbl := List.mem_of_getElem? (i := 1048) rfl
theorem md35 : MdOK 35 := by unfold MdOK; decide +kernel
set_option maxRecDepth 100000 in
theorem mc35 : McOK 35 := ⟨by decide +kernel, by decide +kernel, mem_pos [1056, 1058, 91, 26, 434, 226, 436, 1060, 1061, 91, 1064, 535, 95] rfl⟩
set_option maxRecDepth 100000 in
theorem cw35 : Cond.code (yyN 35) (cdN 35) (ML 35) (rtN 35) ∈ lw_tbl := List.mem_of_getElem? (i := 1055) rfl
theorem md36 : MdOK 36 := by unfold MdOK; decide +kernel
set_option maxRecDepth 100000 in
theorem mc36 : McOK 36 := ⟨by decide +kernel, by decide +kernel, mem_pos [1056, 1058, 91, 26, 434, 226, 436, 1060, 1061, 91] rfl⟩
set_option maxRecDepth 100000 in
theorem cw36 : Cond.code (yyN 36) (cdN 36) (ML 36) (rtN 36) ∈ lw_tbl := List.mem_of_getElem? (i := 1068) rfl
theorem md37 : MdOK 37 := by unfold MdOK; decide +kernel
set_option maxRecDepth 100000 in
theorem mc37 : McOK 37 := ⟨by decide +kernel, by decide +kernel, mem_pos [434, 1050, 520, 84, 521] rfl⟩
set_option maxRecDepth 100000 in
theorem cw37 : Cond.code (yyN 37) (cdN 37) (ML 37) (rtN 37) ∈ lw_tbl := List.mem_of_getElem? (i := 1059) rfl
theorem md38 : MdOK 38 := by unfold MdOK; decide +kernel
set_option maxRecDepth 100000 in
theorem mc38 : McOK 38 := ⟨by decide +kernel, by decide +kernel, mem_pos [1063, 528, 84] rfl⟩
set_option maxRecDepth 100000 in
theorem cw38 : Cond.code (yyN 38) (cdN 38) (ML 38) (rtN 38) ∈ lw_tbl := List.mem_of_getElem? (i := 1062) rfl
theorem md39 : MdOK 39 := by unfold MdOK; decide +kernel
set_option maxRecDepth 100000 in
theorem mc39 : McOK 39 := ⟨by decide +kernel, by decide +kernel, mem_pos [157, 109, 163, 158] rfl⟩
set_option maxRecDepth 100000 in
theorem cw39 : Cond.code (yyN 39) (cdN 39) (ML 39) (rtN 39) ∈ lw_tbl := List.mem_of_getElem? (i := 156) rfl
theorem md40 : MdOK 40 := by unfold MdOK; decide +kernel
set_option maxRecDepth 100000 in
theorem mc40 : McOK 40 := ⟨by decide +kernel, by decide +kernel, mem_pos [158, 516, 517, 94] rfl⟩
set_option maxRecDepth 100000 in
theorem cw40 : Cond.code (yyN 40) (cdN 40) (ML 40) (rtN 40) ∈ lw_tbl := List.mem_of_getElem? (i := 515) rfl
theorem md41 : MdOK 41 := by unfold MdOK; decide +kernel
set_option maxRecDepth 100000 in
theorem mc41 : McOK 41 := ⟨by decide +kernel, by decide +kernel, mem_pos [158, 787, 516, 517, 94] rfl⟩
set_option maxRecDepth 100000 in
theorem cw41 : Cond.code (yyN 41) (cdN 41) (ML 41) (rtN 41) ∈ lw_tbl := List.mem_of_getElem? (i := 786) rfl
theorem md42 : MdOK 42 := by unfold MdOK; decide +kernel
set_option maxRecDepth 100000 in
theorem mc42 : McOK 42 := ⟨by decide +kernel, by decide +kernel, mem_pos [158] rfl⟩
set_option maxRecDepth 100000 in
theorem cw42 : Cond.code (yyN 42) (cdN 42) (ML 42) (rtN 42) ∈ lw_tbl := List.mem_of_getElem? (i := 543) rfl
theorem md43 : MdOK 43 := by unfold MdOK; decide +kernel
set_option maxRecDepth 100000 in
theorem mc43 : McOK 43 := ⟨by decide +kernel, by decide +kernel, mem_pos [158] rfl⟩
set_option maxRecDepth 100000 in
theorem cw43 : Cond.code (yyN 43) (cdN 43) (ML 43) (rtN 43) ∈ lw_tbl := List.mem_of_getElem? (i := 856) rfl
theorem md44 : MdOK 44 := by unfold MdOK; decide +kernel
set_option maxRecDepth 100000 in
theorem mc44 : McOK 44 := ⟨by decide +kernel, by decide +kernel, mem_pos [158, 158, 548, 550, 549, 96] rfl⟩
set_option maxRecDepth 100000 in
theorem cw44 : Cond.code (yyN 44) (cdN 44) (ML 44) (rtN 44) ∈ lw_tbl := List.mem_of_getElem? (i := 547) rfl
theorem md45 : MdOK 45 := by unfold MdOK; decide +kernel
set_option maxRecDepth 100000 in
theorem mc45 : McOK 45 := ⟨by decide +kernel, by decide +kernel, mem_pos [158, 158, 787] rfl⟩
set_option maxRecDepth 100000 in
theorem cw45 : Cond.code (yyN 45) (cdN 45) (ML 45) (rtN 45) ∈ lw_tbl := List.mem_of_getElem? (i := 800) rfl
theorem md46 : MdOK 46 := by unfold MdOK; decide +kernel
set_option maxRecDepth 100000 in
theorem mc46 : McOK 46 := ⟨by decide +kernel, by decide +kernel, mem_pos [158, 158] rfl⟩
set_option maxRecDepth 100000 in
theorem cw46 : Cond.code (yyN 46) (cdN 46) (ML 46) (rtN 46) ∈ lw_tbl := List.mem_of_getElem? (i := 807) rfl
theorem md47 : MdOK 47 := by unfold MdOK; decide +kernel
set_option maxRecDepth 100000 in
theorem mc47 : McOK 47 := ⟨by decide +kernel, by decide +kernel, mem_pos [158, 158] rfl⟩
set_option maxRecDepth 100000 in
theorem cw47 : Cond.code (yyN 47) (cdN 47) (ML 47) (rtN 47) ∈ lw_tbl := List.mem_of_getElem? (i := 554) rfl
theorem md48 : MdOK 48 := by unfold MdOK; decide +kernel
set_option maxRecDepth 100000 in
theorem mc48 : McOK 48 := ⟨by decide +kernel, by decide +kernel, mem_pos [158, 158, 787] rfl⟩
set_option maxRecDepth 100000 in
theorem cw48 : Cond.code (yyN 48) (cdN 48) (ML 48) (rtN 48) ∈ lw_tbl := List.mem_of_getElem? (i := 1137) rfl
theorem md49 : MdOK 49 := by unfold MdOK; decide +kernel
set_option maxRecDepth 100000 in
theorem mc49 : McOK 49 := ⟨by decide +kernel, by decide +kernel, mem_pos [158, 792, 793, 85] rfl⟩
set_option maxRecDepth 100000 in
theorem cw49 : Cond.code (yyN 49) (cdN 49) (ML 49) (rtN 49) ∈ lw_tbl := List.mem_of_getElem? (i := 791) rfl
