theorem md75 : MdOK 75 := by unfold MdOK; decide +kernel
set_option maxRecDepth 100000 in
theorem mc75 : McOK 75 := ⟨by decide +kernel, by decide +kernel, mem_pos [195, 197, 169, 197, 172, 177] rfl⟩
set_option maxRecDepth 100000 in
theorem cw75 : Cond.code (yyN 75) (cdN 75) (ML 75) (rtN 75) ∈ lw_tbl := List.mem_of_getElem? (i := 989) rfl
theorem md76 : MdOK 76 := by unfold MdOK; decide +kernel
set_option maxRecDepth 100000 in
theorem mc76 : McOK 76 := ⟨by decide +kernel, by decide +kernel, mem_pos [172, 172, 191] rfl⟩
set_option maxRecDepth 100000 in
theorem cw76 : Cond.code (yyN 76) (cdN 76) (ML 76) (rtN 76) ∈ lw_tbl := List.mem_of_getElem? (i := 1141) rfl
theorem md77 : MdOK 77 := by unfold MdOK; decide +kernel
set_option maxRecDepth 100000 in
theorem mc77 : McOK 77 := ⟨by decide +kernel, by decide +kernel, mem_pos [281, 109, 284, 286, 282, 150, 290, 291, 292, 293, 294, 288, 289, 290, 282, 153, 85, 283, 155, 85] rfl⟩
set_option maxRecDepth 100000 in
theorem cw77 : Cond.code (yyN 77) (cdN 77) (ML 77) (rtN 77) ∈ lw_tbl := List.mem_of_getElem? (i := 280) rfl
theorem md78 : MdOK 78 := by unfold MdOK; decide +kernel
set_option maxRecDepth 100000 in
theorem mc78 : McOK 78 := ⟨by decide +kernel, by decide +kernel, mem_pos [289, 224, 291, 289, 230, 292, 289, 235, 293, 288, 652, 653, 83, 654] rfl⟩
set_option maxRecDepth 100000 in
theorem cw78 : Cond.code (yyN 78) (cdN 78) (ML 78) (rtN 78) ∈ lw_tbl := List.mem_of_getElem? (i := 651) rfl
theorem md79 : MdOK 79 := by unfold MdOK; decide +kernel
set_option maxRecDepth 100000 in
theorem mc79 : McOK 79 := ⟨by decide +kernel, by decide +kernel, mem_pos [289, 291, 224, 289, 292, 230, 289, 293, 235] rfl⟩
set_option maxRecDepth 100000 in
theorem cw79 : Cond.code (yyN 79) (cdN 79) (ML 79) (rtN 79) ∈ lw_tbl := List.mem_of_getElem? (i := 839) rfl
theorem md80 : MdOK 80 := by unfold MdOK; decide +kernel
set_option maxRecDepth 100000 in
theorem mc80 : McOK 80 := ⟨by decide +kernel, by decide +kernel, mem_pos [288, 676, 677, 83, 678, 728, 730, 87, 6, 288, 676, 677, 83, 678, 762, 764, 87, 11, 288, 676, 677, 83, 678, 810, 812, 87, 16, 732, 734, 87, 7] rfl⟩
set_option maxRecDepth 100000 in
theorem cw80 : Cond.code (yyN 80) (cdN 80) (ML 80) (rtN 80) ∈ lw_tbl := List.mem_of_getElem? (i := 674) rfl
theorem md81 : MdOK 81 := by unfold MdOK; decide +kernel
set_option maxRecDepth 100000 in
theorem mc81 : McOK 81 := ⟨by decide +kernel, by decide +kernel, mem_pos [284, 288, 124, 286] rfl⟩
set_option maxRecDepth 100000 in
theorem cw81 : Cond.code (yyN 81) (cdN 81) (ML 81) (rtN 81) ∈ lw_tbl := List.mem_of_getElem? (i := 735) rfl
theorem md82 : MdOK 82 := by unfold MdOK; decide +kernel
set_option maxRecDepth 100000 in
theorem mc82 : McOK 82 := ⟨by decide +kernel, by decide +kernel, mem_pos [291, 732, 734, 87, 7, 288, 736, 657, 83, 658, 288, 676, 677, 83, 678, 291, 738, 740, 87, 8, 288, 736, 657, 83, 658, 749, 751, 87, 9, 732, 734, 87, 7, 288, 736, 657, 83, 658, 753, 755, 87, 10, 289, 245, 291, 289, 248, 291, 291, 291] rfl⟩
set_option maxRecDepth 100000 in
theorem cw82 : Cond.code (yyN 82) (cdN 82) (ML 82) (rtN 82) ∈ lw_tbl := List.mem_of_getElem? (i := 731) rfl
theorem md83 : MdOK 83 := by unfold MdOK; decide +kernel
set_option maxRecDepth 100000 in
theorem mc83 : McOK 83 := ⟨by decide +kernel, by decide +kernel, mem_pos [292, 732, 734, 87, 7, 288, 736, 657, 83, 658, 294, 766, 768, 87, 12, 753, 755, 87, 10, 289, 251, 292, 290, 808, 545, 85, 546, 292, 292] rfl⟩
set_option maxRecDepth 100000 in
theorem cw83 : Cond.code (yyN 83) (cdN 83) (ML 83) (rtN 83) ∈ lw_tbl := List.mem_of_getElem? (i := 765) rfl
theorem md84 : MdOK 84 := by unfold MdOK; decide +kernel
set_option maxRecDepth 100000 in
theorem mc84 : McOK 84 := ⟨by decide +kernel, by decide +kernel, mem_pos [293, 732, 734, 87, 7, 288, 736, 657, 83, 658, 289, 256, 293, 289, 240, 814, 815, 86, 816, 819, 821, 87, 17, 826, 828, 87, 18, 288, 676, 677, 83, 678, 288, 736, 657, 83, 658, 294, 766, 768, 87, 12, 200, 290, 808, 545, 85, 546, 294, 193, 753, 755, 87, 10, 293, 293] rfl⟩
set_option maxRecDepth 100000 in
theorem cw84 : Cond.code (yyN 84) (cdN 84) (ML 84) (rtN 84) ∈ lw_tbl := List.mem_of_getElem? (i := 813) rfl
theorem md85 : MdOK 85 := by unfold MdOK; decide +kernel
set_option maxRecDepth 100000 in
theorem mc85 : McOK 85 := ⟨by decide +kernel, by decide +kernel, mem_pos [749, 751, 87, 9, 732, 734, 87, 7, 288, 736, 657, 83, 658, 174, 738, 740, 87, 8, 178] rfl⟩
set_option maxRecDepth 100000 in
theorem cw85 : Cond.code (yyN 85) (cdN 85) (ML 85) (rtN 85) ∈ lw_tbl := List.mem_of_getElem? (i := 822) rfl
theorem md86 : MdOK 86 := by unfold MdOK; decide +kernel
set_option maxRecDepth 100000 in
theorem mc86 : McOK 86 := ⟨by decide +kernel, by decide +kernel, mem_pos [288, 676, 677, 83, 678, 749, 751, 87, 9, 732, 734, 87, 7, 288, 736, 657, 83, 658, 738, 740, 87, 8, 738, 740, 87, 8, 184, 187, 190] rfl⟩
set_option maxRecDepth 100000 in
theorem cw86 : Cond.code (yyN 86) (cdN 86) (ML 86) (rtN 86) ∈ lw_tbl := List.mem_of_getElem? (i := 829) rfl
theorem md87 : MdOK 87 := by unfold MdOK; decide +kernel
set_option maxRecDepth 100000 in
theorem mc87 : McOK 87 := ⟨by decide +kernel, by decide +kernel, mem_pos [288, 676, 677, 83, 678, 288, 676, 677, 83, 678, 288, 676, 677, 83, 678] rfl⟩
set_option maxRecDepth 100000 in
theorem cw87 : Cond.code (yyN 87) (cdN 87) (ML 87) (rtN 87) ∈ lw_tbl := List.mem_of_getElem? (i := 752) rfl
theorem md88 : MdOK 88 := by unfold MdOK; decide +kernel
set_option maxRecDepth 100000 in
theorem mc88 : McOK 88 := ⟨by decide +kernel, by decide +kernel, mem_pos [288, 742, 743, 83, 744, 732, 734, 87, 7, 288, 126, 732, 734, 87, 7, 288, 736, 657, 83, 658] rfl⟩
set_option maxRecDepth 100000 in
theorem cw88 : Cond.code (yyN 88) (cdN 88) (ML 88) (rtN 88) ∈ lw_tbl := List.mem_of_getElem? (i := 741) rfl
theorem md89 : MdOK 89 := by unfold MdOK; decide +kernel
set_option maxRecDepth 100000 in
theorem mc89 : McOK 89 := ⟨by decide +kernel, by decide +kernel, mem_pos [288, 757, 758, 83, 759, 732, 734, 87, 7, 288, 736, 657, 83, 658] rfl⟩
set_option maxRecDepth 100000 in
theorem cw89 : Cond.code (yyN 89) (cdN 89) (ML 89) (rtN 89) ∈ lw_tbl := List.mem_of_getElem? (i := 756) rfl
theorem md90 : MdOK 90 := by unfold MdOK; decide +kernel
set_option maxRecDepth 100000 in
theorem mc90 : McOK 90 := ⟨by decide +kernel, by decide +kernel, mem_pos [732, 734, 87, 7, 770, 772, 87, 13, 288, 676, 677, 83, 678, 288, 736, 657, 83, 658, 770, 772, 87, 13, 290, 290, 804, 805, 85, 806] rfl⟩
set_option maxRecDepth 100000 in
theorem cw90 : Cond.code (yyN 90) (cdN 90) (ML 90) (rtN 90) ∈ lw_tbl := List.mem_of_getElem? (i := 769) rfl
theorem md91 : MdOK 91 := by unfold MdOK; decide +kernel
set_option maxRecDepth 100000 in
theorem mc91 : McOK 91 := ⟨by decide +kernel, by decide +kernel, mem_pos [774, 776, 87, 14, 288, 676, 677, 83, 678, 288, 736, 657, 83, 658, 774, 776, 87, 14, 290, 290, 802, 552, 85, 553] rfl⟩
set_option maxRecDepth 100000 in
theorem cw91 : Cond.code (yyN 91) (cdN 91) (ML 91) (rtN 91) ∈ lw_tbl := List.mem_of_getElem? (i := 773) rfl
theorem md92 : MdOK 92 := by unfold MdOK; decide +kernel
set_option maxRecDepth 100000 in
theorem mc92 : McOK 92 := ⟨by decide +kernel, by decide +kernel, mem_pos [288, 676, 677, 83, 678, 288, 757, 758, 83, 759, 779, 781, 87, 15, 294, 294, 290, 783, 784, 85, 785, 290, 788, 789, 85, 790, 288, 736, 657, 83, 658, 732, 734, 87, 7, 288, 736, 657, 83, 658, 774, 776, 87, 14, 290, 797, 798, 85, 799, 766, 768, 87, 12, 288, 757, 758, 83, 759, 732, 734, 87, 7, 288, 736, 657, 83, 658] rfl⟩
set_option maxRecDepth 100000 in
theorem cw92 : Cond.code (yyN 92) (cdN 92) (ML 92) (rtN 92) ∈ lw_tbl := List.mem_of_getElem? (i := 777) rfl
theorem md93 : MdOK 93 := by unfold MdOK; decide +kernel
set_option maxRecDepth 100000 in
theorem mc93 : McOK 93 := ⟨by decide +kernel, by decide +kernel, mem_pos [288, 742, 743, 83, 744, 288, 126, 291, 294, 288, 126, 732, 734, 87, 7, 288, 742, 743, 83, 744, 732, 734, 87, 7] rfl⟩
set_option maxRecDepth 100000 in
theorem cw93 : Cond.code (yyN 93) (cdN 93) (ML 93) (rtN 93) ∈ lw_tbl := List.mem_of_getElem? (i := 782) rfl
theorem md94 : MdOK 94 := by unfold MdOK; decide +kernel
set_option maxRecDepth 100000 in
theorem mc94 : McOK 94 := ⟨by decide +kernel, by decide +kernel, mem_pos [361, 109, 162, 363, 362, 366, 368] rfl⟩
set_option maxRecDepth 100000 in
theorem cw94 : Cond.code (yyN 94) (cdN 94) (ML 94) (rtN 94) ∈ lw_tbl := List.mem_of_getElem? (i := 360) rfl
theorem md95 : MdOK 95 := by unfold MdOK; decide +kernel
set_option maxRecDepth 100000 in
theorem mc95 : McOK 95 := ⟨by decide +kernel, by decide +kernel, mem_pos [363, 999, 510, 94, 368, 362, 366, 234, 1000, 528, 84, 255, 1001, 1003, 90, 21] rfl⟩
set_option maxRecDepth 100000 in
theorem cw95 : Cond.code (yyN 95) (cdN 95) (ML 95) (rtN 95) ∈ lw_tbl := List.mem_of_getElem? (i := 998) rfl
theorem md96 : MdOK 96 := by unfold MdOK; decide +kernel
set_option maxRecDepth 100000 in
theorem mc96 : McOK 96 := ⟨by decide +kernel, by decide +kernel, mem_pos [186, 183, 363, 189, 368, 368, 1005, 1007, 90, 22, 363, 363, 189, 189, 1005, 1007, 90, 22, 363, 363, 363, 189, 189, 1005, 1007, 90, 22, 363, 363, 363, 189] rfl⟩
set_option maxRecDepth 100000 in
theorem cw96 : Cond.code (yyN 96) (cdN 96) (ML 96) (rtN 96) ∈ lw_tbl := List.mem_of_getElem? (i := 1004) rfl
theorem md97 : MdOK 97 := by unfold MdOK; decide +kernel
set_option maxRecDepth 100000 in
theorem mc97 : McOK 97 := ⟨by decide +kernel, by decide +kernel, mem_pos [366, 362, 368, 366] rfl⟩
set_option maxRecDepth 100000 in
theorem cw97 : Cond.code (yyN 97) (cdN 97) (ML 97) (rtN 97) ∈ lw_tbl := List.mem_of_getElem? (i := 1008) rfl
theorem md98 : MdOK 98 := by unfold MdOK; decide +kernel
set_option maxRecDepth 100000 in
theorem mc98 : McOK 98 := ⟨by decide +kernel, by decide +kernel, mem_pos [487, 109, 488, 490, 162, 492] rfl⟩
set_option maxRecDepth 100000 in
theorem cw98 : Cond.code (yyN 98) (cdN 98) (ML 98) (rtN 98) ∈ lw_tbl := List.mem_of_getElem? (i := 486) rfl
theorem md99 : MdOK 99 := by unfold MdOK; decide +kernel
set_option maxRecDepth 100000 in
theorem mc99 : McOK 99 := ⟨by decide +kernel, by decide +kernel, mem_pos [488] rfl⟩
set_option maxRecDepth 100000 in
theorem cw99 : Cond.code (yyN 99) (cdN 99) (ML 99) (rtN 99) ∈ lw_tbl := List.mem_of_getElem? (i := 621) rfl
