theorem md125 : MdOK 125 := by unfold MdOK; decide +kernel
set_option maxRecDepth 100000 in
theorem mc125 : McOK 125 := ⟨by decide +kernel, by decide +kernel, mem_pos [557, 848, 849, 84, 850, 599, 559, 936, 937, 88, 938] rfl⟩
set_option maxRecDepth 100000 in
theorem cw125 : Cond.code (yyN 125) (cdN 125) (ML 125) (rtN 125) ∈ lw_tbl := List.mem_of_getElem? (i := 935) rfl
theorem md126 : MdOK 126 := by unfold MdOK; decide +kernel
set_option maxRecDepth 100000 in
theorem mc126 : McOK 126 := ⟨by decide +kernel, by decide +kernel, mem_pos [557, 908, 909, 84, 910, 599, 559, 945, 946, 88, 947] rfl⟩
set_option maxRecDepth 100000 in
theorem cw126 : Cond.code (yyN 126) (cdN 126) (ML 126) (rtN 126) ∈ lw_tbl := List.mem_of_getElem? (i := 944) rfl
theorem md127 : MdOK 127 := by unfold MdOK; decide +kernel
set_option maxRecDepth 100000 in
theorem mc127 : McOK 127 := ⟨by decide +kernel, by decide +kernel, mem_pos [557, 242, 599, 557, 242, 557, 242, 560, 388] rfl⟩
set_option maxRecDepth 100000 in
theorem cw127 : Cond.code (yyN 127) (cdN 127) (ML 127) (rtN 127) ∈ lw_tbl := List.mem_of_getElem? (i := 957) rfl
theorem md128 : MdOK 128 := by unfold MdOK; decide +kernel
set_option maxRecDepth 100000 in
theorem mc128 : McOK 128 := ⟨by decide +kernel, by decide +kernel, mem_pos [557, 861, 862, 84, 863, 599, 557, 257, 198, 962, 963, 557, 257, 557, 242, 198, 560, 388] rfl⟩
set_option maxRecDepth 100000 in
theorem cw128 : Cond.code (yyN 128) (cdN 128) (ML 128) (rtN 128) ∈ lw_tbl := List.mem_of_getElem? (i := 961) rfl
theorem md129 : MdOK 129 := by unfold MdOK; decide +kernel
set_option maxRecDepth 100000 in
theorem mc129 : McOK 129 := ⟨by decide +kernel, by decide +kernel, mem_pos [557, 861, 862, 84, 863, 599, 557, 257, 176, 181, 196, 198, 194, 599] rfl⟩
set_option maxRecDepth 100000 in
theorem cw129 : Cond.code (yyN 129) (cdN 129) (ML 129) (rtN 129) ∈ lw_tbl := List.mem_of_getElem? (i := 967) rfl
theorem md130 : MdOK 130 := by unfold MdOK; decide +kernel
set_option maxRecDepth 100000 in
theorem mc130 : McOK 130 := ⟨by decide +kernel, by decide +kernel, mem_pos [972, 974, 82, 20, 599, 557, 982, 983, 84, 984] rfl⟩
set_option maxRecDepth 100000 in
theorem cw130 : Cond.code (yyN 130) (cdN 130) (ML 130) (rtN 130) ∈ lw_tbl := List.mem_of_getElem? (i := 971) rfl
theorem md131 : MdOK 131 := by unfold MdOK; decide +kernel
set_option maxRecDepth 100000 in
theorem mc131 : McOK 131 := ⟨by decide +kernel, by decide +kernel, mem_pos [972, 974, 82, 20, 599, 560, 380, 557, 557, 982, 983, 84, 984, 995, 996, 90, 997, 367, 365] rfl⟩
set_option maxRecDepth 100000 in
theorem cw131 : Cond.code (yyN 131) (cdN 131) (ML 131) (rtN 131) ∈ lw_tbl := List.mem_of_getElem? (i := 994) rfl
theorem md132 : MdOK 132 := by unfold MdOK; decide +kernel
set_option maxRecDepth 100000 in
theorem mc132 : McOK 132 := ⟨by decide +kernel, by decide +kernel, mem_pos [599, 560, 1013, 1014, 89, 1015, 560, 386, 560, 386, 560, 384, 962] rfl⟩
set_option maxRecDepth 100000 in
theorem cw132 : Cond.code (yyN 132) (cdN 132) (ML 132) (rtN 132) ∈ lw_tbl := List.mem_of_getElem? (i := 1012) rfl
theorem md133 : MdOK 133 := by unfold MdOK; decide +kernel
set_option maxRecDepth 100000 in
theorem mc133 : McOK 133 := ⟨by decide +kernel, by decide +kernel, mem_pos [557, 1025, 1026, 84, 1027, 557, 1025, 1026, 84, 1027, 599, 560, 1013, 1014, 89, 1015, 560, 1029, 1030, 89, 1031] rfl⟩
set_option maxRecDepth 100000 in
theorem cw133 : Cond.code (yyN 133) (cdN 133) (ML 133) (rtN 133) ∈ lw_tbl := List.mem_of_getElem? (i := 1024) rfl
theorem md134 : MdOK 134 := by unfold MdOK; decide +kernel
set_option maxRecDepth 100000 in
theorem mc134 : McOK 134 := ⟨by decide +kernel, by decide +kernel, mem_pos [599, 561, 1041, 1042, 91, 1043, 561, 431, 561, 431, 561, 429, 962] rfl⟩
set_option maxRecDepth 100000 in
theorem cw134 : Cond.code (yyN 134) (cdN 134) (ML 134) (rtN 134) ∈ lw_tbl := List.mem_of_getElem? (i := 1040) rfl
theorem md135 : MdOK 135 := by unfold MdOK; decide +kernel
set_option maxRecDepth 100000 in
theorem mc135 : McOK 135 := ⟨by decide +kernel, by decide +kernel, mem_pos [599, 560, 1013, 1014, 89, 1015, 560, 1073, 1074, 89, 1075, 560, 382, 869, 870, 85, 871, 560, 1079, 1080, 89, 1081] rfl⟩
set_option maxRecDepth 100000 in
theorem cw135 : Cond.code (yyN 135) (cdN 135) (ML 135) (rtN 135) ∈ lw_tbl := List.mem_of_getElem? (i := 1072) rfl
theorem md136 : MdOK 136 := by unfold MdOK; decide +kernel
set_option maxRecDepth 100000 in
theorem mc136 : McOK 136 := ⟨by decide +kernel, by decide +kernel, mem_pos [979, 980, 82, 557, 848, 849, 84, 850, 976, 977, 82, 599, 563, 564] rfl⟩
set_option maxRecDepth 100000 in
theorem cw136 : Cond.code (yyN 136) (cdN 136) (ML 136) (rtN 136) ∈ lw_tbl := List.mem_of_getElem? (i := 1102) rfl
theorem md137 : MdOK 137 := by unfold MdOK; decide +kernel
set_option maxRecDepth 100000 in
theorem mc137 : McOK 137 := ⟨by decide +kernel, by decide +kernel, mem_pos [596, 597, 82, 599, 555, 618, 619, 93, 620, 600, 602, 82, 3, 622, 623, 93, 624, 600, 602, 82, 3, 557, 493, 848, 849, 84, 850, 599, 563, 493, 564, 557, 242, 610, 612, 82, 4] rfl⟩
set_option maxRecDepth 100000 in
theorem cw137 : Cond.code (yyN 137) (cdN 137) (ML 137) (rtN 137) ∈ lw_tbl := List.mem_of_getElem? (i := 1106) rfl
theorem md138 : MdOK 138 := by unfold MdOK; decide +kernel
set_option maxRecDepth 100000 in
theorem mc138 : McOK 138 := ⟨by decide +kernel, by decide +kernel, mem_pos [557, 861, 862, 84, 863, 599, 1111, 1113, 82, 30, 1115, 528, 84] rfl⟩
set_option maxRecDepth 100000 in
theorem cw138 : Cond.code (yyN 138) (cdN 138) (ML 138) (rtN 138) ∈ lw_tbl := List.mem_of_getElem? (i := 1110) rfl
theorem md139 : MdOK 139 := by unfold MdOK; decide +kernel
set_option maxRecDepth 100000 in
theorem mc139 : McOK 139 := ⟨by decide +kernel, by decide +kernel, mem_pos [979, 980, 82, 979, 980, 82, 599, 1111, 1113, 82, 30, 1111, 1113, 82, 30] rfl⟩
set_option maxRecDepth 100000 in
theorem cw139 : Cond.code (yyN 139) (cdN 139) (ML 139) (rtN 139) ∈ lw_tbl := List.mem_of_getElem? (i := 1119) rfl
theorem md140 : MdOK 140 := by unfold MdOK; decide +kernel
set_option maxRecDepth 100000 in
theorem mc140 : McOK 140 := ⟨by decide +kernel, by decide +kernel, mem_pos [557, 861, 862, 84, 863, 599, 559, 1124, 1125, 88, 1126] rfl⟩
set_option maxRecDepth 100000 in
theorem cw140 : Cond.code (yyN 140) (cdN 140) (ML 140) (rtN 140) ∈ lw_tbl := List.mem_of_getElem? (i := 1123) rfl
theorem md141 : MdOK 141 := by unfold MdOK; decide +kernel
set_option maxRecDepth 100000 in
theorem mc141 : McOK 141 := ⟨by decide +kernel, by decide +kernel, mem_pos [557, 861, 862, 84, 863, 599, 559, 1124, 1125, 88, 1126, 1146, 1147, 92, 600, 602, 82, 3, 610, 612, 82, 4] rfl⟩
set_option maxRecDepth 100000 in
theorem cw141 : Cond.code (yyN 141) (cdN 141) (ML 141) (rtN 141) ∈ lw_tbl := List.mem_of_getElem? (i := 1145) rfl
theorem md142 : MdOK 142 := by unfold MdOK; decide +kernel
set_option maxRecDepth 100000 in
theorem mc142 : McOK 142 := ⟨by decide +kernel, by decide +kernel, mem_pos [557, 861, 862, 84, 863, 599, 562, 1153, 1154, 92, 1155, 562, 1159, 1160, 92, 1161, 562, 1199, 1200, 92, 1201] rfl⟩
set_option maxRecDepth 100000 in
theorem cw142 : Cond.code (yyN 142) (cdN 142) (ML 142) (rtN 142) ∈ lw_tbl := List.mem_of_getElem? (i := 1152) rfl
theorem md143 : MdOK 143 := by unfold MdOK; decide +kernel
set_option maxRecDepth 100000 in
theorem mc143 : McOK 143 := ⟨by decide +kernel, by decide +kernel, mem_pos [562, 459, 562, 457, 962] rfl⟩
set_option maxRecDepth 100000 in
theorem cw143 : Cond.code (yyN 143) (cdN 143) (ML 143) (rtN 143) ∈ lw_tbl := List.mem_of_getElem? (i := 1210) rfl
theorem md144 : MdOK 144 := by unfold MdOK; decide +kernel
set_option maxRecDepth 100000 in
theorem mc144 : McOK 144 := ⟨by decide +kernel, by decide +kernel, mem_pos [1215, 1217, 82, 41, 557, 228, 557, 232, 557, 236, 559, 1219, 1220, 88, 1221, 557, 1223, 1224, 84, 1225, 556, 122, 557, 242, 599] rfl⟩
set_option maxRecDepth 100000 in
theorem cw144 : Cond.code (yyN 144) (cdN 144) (ML 144) (rtN 144) ∈ lw_tbl := List.mem_of_getElem? (i := 1214) rfl
theorem md145 : MdOK 145 := by unfold MdOK; decide +kernel
set_option maxRecDepth 100000 in
theorem mc145 : McOK 145 := ⟨by decide +kernel, by decide +kernel, mem_pos [566] rfl⟩
set_option maxRecDepth 100000 in
theorem cw145 : Cond.code (yyN 145) (cdN 145) (ML 145) (rtN 145) ∈ lw_tbl := List.mem_of_getElem? (i := 1230) rfl
theorem md146 : MdOK 146 := by unfold MdOK; decide +kernel
set_option maxRecDepth 100000 in
theorem mc146 : McOK 146 := ⟨by decide +kernel, by decide +kernel, mem_pos [566, 604] rfl⟩
set_option maxRecDepth 100000 in
theorem cw146 : Cond.code (yyN 146) (cdN 146) (ML 146) (rtN 146) ∈ lw_tbl := List.mem_of_getElem? (i := 603) rfl
theorem md147 : MdOK 147 := by unfold MdOK; decide +kernel
set_option maxRecDepth 100000 in
theorem mc147 : McOK 147 := ⟨by decide +kernel, by decide +kernel, mem_pos [566] rfl⟩
set_option maxRecDepth 100000 in
theorem cw147 : Cond.code (yyN 147) (cdN 147) (ML 147) (rtN 147) ∈ lw_tbl := List.mem_of_getElem? (i := 613) rfl
theorem md148 : MdOK 148 := by unfold MdOK; decide +kernel
set_option maxRecDepth 100000 in
theorem mc148 : McOK 148 := ⟨by decide +kernel, by decide +kernel, mem_pos [] rfl⟩
set_option maxRecDepth 100000 in
theorem cw148 : Cond.code (yyN 148) (cdN 148) (ML 148) (rtN 148) ∈ lw_tbl := List.mem_of_getElem? (i := 598) rfl
theorem md149 : MdOK 149 := by unfold MdOK; decide +kernel
set_option maxRecDepth 100000 in
theorem mc149 : McOK 149 := ⟨by decide +kernel, by decide +kernel, mem_pos [] rfl⟩
set_option maxRecDepth 100000 in
theorem cw149 : Cond.code (yyN 149) (cdN 149) (ML 149) (rtN 149) ∈ lw_tbl := List.mem_of_getElem? (i := 981) rfl
