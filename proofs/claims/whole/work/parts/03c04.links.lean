theorem md100 : MdOK 100 := by unfold MdOK; decide +kernel
set_option maxRecDepth 100000 in
theorem mc100 : McOK 100 := ⟨by decide +kernel, by decide +kernel, mem_pos [488, 490, 492, 609, 510, 94] rfl⟩
set_option maxRecDepth 100000 in
theorem cw100 : Cond.code (yyN 100) (cdN 100) (ML 100) (rtN 100) ∈ lw_tbl := List.mem_of_getElem? (i := 608) rfl
theorem md101 : MdOK 101 := by unfold MdOK; decide +kernel
set_option maxRecDepth 100000 in
theorem mc101 : McOK 101 := ⟨by decide +kernel, by decide +kernel, mem_pos [490] rfl⟩
set_option maxRecDepth 100000 in
theorem cw101 : Cond.code (yyN 101) (cdN 101) (ML 101) (rtN 101) ∈ lw_tbl := List.mem_of_getElem? (i := 625) rfl
theorem md102 : MdOK 102 := by unfold MdOK; decide +kernel
set_option maxRecDepth 100000 in
theorem mc102 : McOK 102 := ⟨by decide +kernel, by decide +kernel, mem_pos [488] rfl⟩
set_option maxRecDepth 100000 in
theorem cw102 : Cond.code (yyN 102) (cdN 102) (ML 102) (rtN 102) ∈ lw_tbl := List.mem_of_getElem? (i := 629) rfl
theorem md103 : MdOK 103 := by unfold MdOK; decide +kernel
set_option maxRecDepth 100000 in
theorem mc103 : McOK 103 := ⟨by decide +kernel, by decide +kernel, mem_pos [118, 109, 142, 119, 121, 123, 125, 127, 128] rfl⟩
set_option maxRecDepth 100000 in
theorem cw103 : Cond.code (yyN 103) (cdN 103) (ML 103) (rtN 103) ∈ lw_tbl := List.mem_of_getElem? (i := 117) rfl
theorem md104 : MdOK 104 := by unfold MdOK; decide +kernel
set_option maxRecDepth 100000 in
theorem mc104 : McOK 104 := ⟨by decide +kernel, by decide +kernel, mem_pos [123, 128, 656, 657, 83, 658] rfl⟩
set_option maxRecDepth 100000 in
theorem cw104 : Cond.code (yyN 104) (cdN 104) (ML 104) (rtN 104) ∈ lw_tbl := List.mem_of_getElem? (i := 655) rfl
theorem md105 : MdOK 105 := by unfold MdOK; decide +kernel
set_option maxRecDepth 100000 in
theorem mc105 : McOK 105 := ⟨by decide +kernel, by decide +kernel, mem_pos [123, 128, 123, 123, 121, 119, 123, 119, 123, 123, 123, 123, 121, 119, 123, 660, 661, 83, 127, 127, 123, 123, 127, 127, 121, 119, 660, 661, 83, 127, 123, 128, 127, 663, 665, 83, 5] rfl⟩
set_option maxRecDepth 100000 in
theorem cw105 : Cond.code (yyN 105) (cdN 105) (ML 105) (rtN 105) ∈ lw_tbl := List.mem_of_getElem? (i := 659) rfl
theorem md106 : MdOK 106 := by unfold MdOK; decide +kernel
set_option maxRecDepth 100000 in
theorem mc106 : McOK 106 := ⟨by decide +kernel, by decide +kernel, mem_pos [128, 127, 125, 128, 125, 119, 123, 125] rfl⟩
set_option maxRecDepth 100000 in
theorem cw106 : Cond.code (yyN 106) (cdN 106) (ML 106) (rtN 106) ∈ lw_tbl := List.mem_of_getElem? (i := 666) rfl
theorem md107 : MdOK 107 := by unfold MdOK; decide +kernel
set_option maxRecDepth 100000 in
theorem mc107 : McOK 107 := ⟨by decide +kernel, by decide +kernel, mem_pos [127] rfl⟩
set_option maxRecDepth 100000 in
theorem cw107 : Cond.code (yyN 107) (cdN 107) (ML 107) (rtN 107) ∈ lw_tbl := List.mem_of_getElem? (i := 670) rfl
theorem md108 : MdOK 108 := by unfold MdOK; decide +kernel
set_option maxRecDepth 100000 in
theorem mc108 : McOK 108 := ⟨by decide +kernel, by decide +kernel, mem_pos [127] rfl⟩
set_option maxRecDepth 100000 in
theorem cw108 : Cond.code (yyN 108) (cdN 108) (ML 108) (rtN 108) ∈ lw_tbl := List.mem_of_getElem? (i := 745) rfl
theorem md109 : MdOK 109 := by unfold MdOK; decide +kernel
set_option maxRecDepth 100000 in
theorem mc109 : McOK 109 := ⟨by decide +kernel, by decide +kernel, mem_pos [127, 119, 123] rfl⟩
set_option maxRecDepth 100000 in
theorem cw109 : Cond.code (yyN 109) (cdN 109) (ML 109) (rtN 109) ∈ lw_tbl := List.mem_of_getElem? (i := 760) rfl
theorem md110 : MdOK 110 := by unfold MdOK; decide +kernel
set_option maxRecDepth 100000 in
theorem mc110 : McOK 110 := ⟨by decide +kernel, by decide +kernel, mem_pos [127, 128, 680, 681, 98, 682, 128, 119, 123, 690, 691, 98, 692] rfl⟩
set_option maxRecDepth 100000 in
theorem cw110 : Cond.code (yyN 110) (cdN 110) (ML 110) (rtN 110) ∈ lw_tbl := List.mem_of_getElem? (i := 679) rfl
theorem md111 : MdOK 111 := by unfold MdOK; decide +kernel
set_option maxRecDepth 100000 in
theorem mc111 : McOK 111 := ⟨by decide +kernel, by decide +kernel, mem_pos [] rfl⟩
set_option maxRecDepth 100000 in
theorem cw111 : Cond.code (yyN 111) (cdN 111) (ML 111) (rtN 111) ∈ lw_tbl := List.mem_of_getElem? (i := 662) rfl
theorem md112 : MdOK 112 := by unfold MdOK; decide +kernel
set_option maxRecDepth 100000 in
theorem mc112 : McOK 112 := ⟨by decide +kernel, by decide +kernel, mem_pos [108, 109, 111, 112, 555, 113, 114, 83, 115, 116, 83, 556, 143, 144, 84, 145, 146, 84, 557, 276, 277, 87, 556, 557, 278, 279, 87, 558, 314, 315, 88, 557, 316, 317, 88, 559, 350, 351, 89, 557, 559, 352, 353, 89, 560, 422, 423, 91, 557, 559, 424, 425, 91, 561, 450, 451, 92, 557, 559, 452, 453, 92, 562, 162, 563, 162, 564, 565, 566, 555, 111, 483, 93, 484, 485, 93, 559, 501, 502, 88, 503] rfl⟩
set_option maxRecDepth 100000 in
theorem cw112 : Cond.code (yyN 112) (cdN 112) (ML 112) (rtN 112) ∈ lw_tbl := List.mem_of_getElem? (i := 107) rfl
theorem md113 : MdOK 113 := by unfold MdOK; decide +kernel
set_option maxRecDepth 100000 in
theorem mc113 : McOK 113 := ⟨by decide +kernel, by decide +kernel, mem_pos [596, 597, 82, 599, 600, 602, 82, 3, 555, 605, 606, 93, 607, 610, 612, 82, 4] rfl⟩
set_option maxRecDepth 100000 in
theorem cw113 : Cond.code (yyN 113) (cdN 113) (ML 113) (rtN 113) ∈ lw_tbl := List.mem_of_getElem? (i := 595) rfl
theorem md114 : MdOK 114 := by unfold MdOK; decide +kernel
set_option maxRecDepth 100000 in
theorem mc114 : McOK 114 := ⟨by decide +kernel, by decide +kernel, mem_pos [596, 597, 82, 599, 555, 618, 619, 93, 620, 600, 602, 82, 3, 622, 623, 93, 624, 600, 602, 82, 3, 493, 626, 627, 93, 628, 493, 610, 612, 82, 4] rfl⟩
set_option maxRecDepth 100000 in
theorem cw114 : Cond.code (yyN 114) (cdN 114) (ML 114) (rtN 114) ∈ lw_tbl := List.mem_of_getElem? (i := 617) rfl
theorem md115 : MdOK 115 := by unfold MdOK; decide +kernel
set_option maxRecDepth 100000 in
theorem mc115 : McOK 115 := ⟨by decide +kernel, by decide +kernel, mem_pos [596, 597, 82, 596, 597, 82, 599, 555, 555, 618, 619, 93, 620, 618, 619, 93, 620, 600, 602, 82, 3, 489, 489, 600, 602, 82, 3, 622, 623, 93, 624, 622, 623, 93, 624, 600, 602, 82, 3, 493, 493, 634, 550, 549, 96, 610, 612, 82, 4] rfl⟩
set_option maxRecDepth 100000 in
theorem cw115 : Cond.code (yyN 115) (cdN 115) (ML 115) (rtN 115) ∈ lw_tbl := List.mem_of_getElem? (i := 633) rfl
theorem md116 : MdOK 116 := by unfold MdOK; decide +kernel
set_option maxRecDepth 100000 in
theorem mc116 : McOK 116 := ⟨by decide +kernel, by decide +kernel, mem_pos [596, 597, 82, 599, 555, 618, 619, 93, 620, 600, 602, 82, 3, 489, 491, 610, 612, 82, 4] rfl⟩
set_option maxRecDepth 100000 in
theorem cw116 : Cond.code (yyN 116) (cdN 116) (ML 116) (rtN 116) ∈ lw_tbl := List.mem_of_getElem? (i := 638) rfl
theorem md117 : MdOK 117 := by unfold MdOK; decide +kernel
set_option maxRecDepth 100000 in
theorem mc117 : McOK 117 := ⟨by decide +kernel, by decide +kernel, mem_pos [599, 556, 122, 643, 556, 120, 556, 122, 556, 122, 122, 556, 122] rfl⟩
set_option maxRecDepth 100000 in
theorem cw117 : Cond.code (yyN 117) (cdN 117) (ML 117) (rtN 117) ∈ lw_tbl := List.mem_of_getElem? (i := 642) rfl
theorem md118 : MdOK 118 := by unfold MdOK; decide +kernel
set_option maxRecDepth 100000 in
theorem mc118 : McOK 118 := ⟨by decide +kernel, by decide +kernel, mem_pos [558, 648, 649, 87, 650, 556, 667, 668, 83, 669, 558, 671, 672, 87, 673, 556, 122, 558, 285, 565, 835, 558, 287, 558, 836, 837, 87, 838, 559, 501, 502, 88, 503, 560, 388, 561, 433, 557, 236] rfl⟩
set_option maxRecDepth 100000 in
theorem cw118 : Cond.code (yyN 118) (cdN 118) (ML 118) (rtN 118) ∈ lw_tbl := List.mem_of_getElem? (i := 647) rfl
theorem md119 : MdOK 119 := by unfold MdOK; decide +kernel
set_option maxRecDepth 100000 in
theorem mc119 : McOK 119 := ⟨by decide +kernel, by decide +kernel, mem_pos [565] rfl⟩
set_option maxRecDepth 100000 in
theorem cw119 : Cond.code (yyN 119) (cdN 119) (ML 119) (rtN 119) ∈ lw_tbl := List.mem_of_getElem? (i := 843) rfl
theorem md120 : MdOK 120 := by unfold MdOK; decide +kernel
set_option maxRecDepth 100000 in
theorem mc120 : McOK 120 := ⟨by decide +kernel, by decide +kernel, mem_pos [557, 848, 849, 84, 850, 599, 559, 325, 853, 854, 85, 855] rfl⟩
set_option maxRecDepth 100000 in
theorem cw120 : Cond.code (yyN 120) (cdN 120) (ML 120) (rtN 120) ∈ lw_tbl := List.mem_of_getElem? (i := 847) rfl
theorem md121 : MdOK 121 := by unfold MdOK; decide +kernel
set_option maxRecDepth 100000 in
theorem mc121 : McOK 121 := ⟨by decide +kernel, by decide +kernel, mem_pos [557, 848, 849, 84, 850, 599, 557, 232, 557, 252, 853, 854, 85, 855, 557, 861, 862, 84, 863, 557, 257, 202, 853, 854, 85, 855, 599] rfl⟩
set_option maxRecDepth 100000 in
theorem cw121 : Cond.code (yyN 121) (cdN 121) (ML 121) (rtN 121) ∈ lw_tbl := List.mem_of_getElem? (i := 860) rfl
theorem md122 : MdOK 122 := by unfold MdOK; decide +kernel
set_option maxRecDepth 100000 in
theorem mc122 : McOK 122 := ⟨by decide +kernel, by decide +kernel, mem_pos [559, 325, 869, 870, 85, 871] rfl⟩
set_option maxRecDepth 100000 in
theorem cw122 : Cond.code (yyN 122) (cdN 122) (ML 122) (rtN 122) ∈ lw_tbl := List.mem_of_getElem? (i := 868) rfl
theorem md123 : MdOK 123 := by unfold MdOK; decide +kernel
set_option maxRecDepth 100000 in
theorem mc123 : McOK 123 := ⟨by decide +kernel, by decide +kernel, mem_pos [559, 883, 884, 88, 885, 559, 891, 892, 88, 893, 559, 899, 900, 88, 901, 599] rfl⟩
set_option maxRecDepth 100000 in
theorem cw123 : Cond.code (yyN 123) (cdN 123) (ML 123) (rtN 123) ∈ lw_tbl := List.mem_of_getElem? (i := 882) rfl
theorem md124 : MdOK 124 := by unfold MdOK; decide +kernel
set_option maxRecDepth 100000 in
theorem mc124 : McOK 124 := ⟨by decide +kernel, by decide +kernel, mem_pos [557, 908, 909, 84, 910, 599, 559, 913, 914, 88, 915] rfl⟩
set_option maxRecDepth 100000 in
theorem cw124 : Cond.code (yyN 124) (cdN 124) (ML 124) (rtN 124) ∈ lw_tbl := List.mem_of_getElem? (i := 907) rfl
