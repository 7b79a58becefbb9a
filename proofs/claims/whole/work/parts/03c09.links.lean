theorem md225 : MdOK 225 := by unfold MdOK; decide +kernel
set_option maxRecDepth 100000 in
theorem mc225 : McOK 225 := ⟨by decide +kernel, by decide +kernel, mem_pos [1253, 1619, 1620, 97, 1619, 1620, 97, 1413, 1682, 1684, 97, 75, 1682, 1684, 97, 75] rfl⟩
set_option maxRecDepth 100000 in
theorem cw225 : Cond.code (yyN 225) (cdN 225) (ML 225) (rtN 225) ∈ lw_tbl := List.mem_of_getElem? (i := 1689) rfl
theorem md226 : MdOK 226 := by unfold MdOK; decide +kernel
set_option maxRecDepth 100000 in
theorem mc226 : McOK 226 := ⟨by decide +kernel, by decide +kernel, mem_pos [1289, 1543, 1545, 97, 63, 1293, 1264, 1622, 1624, 97, 69] rfl⟩
set_option maxRecDepth 100000 in
theorem cw226 : Cond.code (yyN 226) (cdN 226) (ML 226) (rtN 226) ∈ lw_tbl := List.mem_of_getElem? (i := 1701) rfl
theorem md227 : MdOK 227 := by unfold MdOK; decide +kernel
set_option maxRecDepth 100000 in
theorem mc227 : McOK 227 := ⟨by decide +kernel, by decide +kernel, mem_pos [1698, 1700, 97, 77, 1263, 1263, 1272] rfl⟩
set_option maxRecDepth 100000 in
theorem cw227 : Cond.code (yyN 227) (cdN 227) (ML 227) (rtN 227) ∈ lw_tbl := List.mem_of_getElem? (i := 1697) rfl
theorem md228 : MdOK 228 := by unfold MdOK; decide +kernel
set_option maxRecDepth 100000 in
theorem mc228 : McOK 228 := ⟨by decide +kernel, by decide +kernel, mem_pos [] rfl⟩
set_option maxRecDepth 100000 in
theorem cw228 : Cond.code (yyN 228) (cdN 228) (ML 228) (rtN 228) ∈ lw_tbl := List.mem_of_getElem? (i := 1709) rfl
theorem md229 : MdOK 229 := by unfold MdOK; decide +kernel
set_option maxRecDepth 100000 in
theorem mc229 : McOK 229 := ⟨by decide +kernel, by decide +kernel, mem_pos [1253, 1598, 1600, 97, 67, 1694, 1696, 97, 76, 1413] rfl⟩
set_option maxRecDepth 100000 in
theorem cw229 : Cond.code (yyN 229) (cdN 229) (ML 229) (rtN 229) ∈ lw_tbl := List.mem_of_getElem? (i := 1693) rfl
theorem md230 : MdOK 230 := by unfold MdOK; decide +kernel
set_option maxRecDepth 100000 in
theorem mc230 : McOK 230 := ⟨by decide +kernel, by decide +kernel, mem_pos [1253, 1598, 1600, 97, 67, 1706, 1409, 1410, 97, 1413, 1254, 1694, 1696, 97, 76, 1707, 1708, 97, 1414, 1416, 97, 45] rfl⟩
set_option maxRecDepth 100000 in
theorem cw230 : Cond.code (yyN 230) (cdN 230) (ML 230) (rtN 230) ∈ lw_tbl := List.mem_of_getElem? (i := 1705) rfl
theorem md231 : MdOK 231 := by unfold MdOK; decide +kernel
set_option maxRecDepth 100000 in
theorem mc231 : McOK 231 := ⟨by decide +kernel, by decide +kernel, mem_pos [1301, 1300, 1301, 1301, 1301] rfl⟩
set_option maxRecDepth 100000 in
theorem cw231 : Cond.code (yyN 231) (cdN 231) (ML 231) (rtN 231) ∈ lw_tbl := List.mem_of_getElem? (i := 1721) rfl
theorem md232 : MdOK 232 := by unfold MdOK; decide +kernel
set_option maxRecDepth 100000 in
theorem mc232 : McOK 232 := ⟨by decide +kernel, by decide +kernel, mem_pos [1718, 1720, 97, 79, 1707, 1708, 97, 1718, 1720, 97, 79, 1718, 1720, 97, 79, 1718, 1720, 97, 79, 1718, 1720, 97, 79, 1698, 1700, 97, 77, 1707, 1708, 97, 1264] rfl⟩
set_option maxRecDepth 100000 in
theorem cw232 : Cond.code (yyN 232) (cdN 232) (ML 232) (rtN 232) ∈ lw_tbl := List.mem_of_getElem? (i := 1725) rfl
theorem md233 : MdOK 233 := by unfold MdOK; decide +kernel
set_option maxRecDepth 100000 in
theorem mc233 : McOK 233 := ⟨by decide +kernel, by decide +kernel, mem_pos [1718, 1720, 97, 79, 1722, 1724, 97, 80, 1718, 1720, 97, 79, 1707, 1708, 97, 1718, 1720, 97, 79, 1707, 1708, 97, 1718, 1720, 97, 79, 1718, 1720, 97, 79, 1698, 1700, 97, 77, 1707, 1708, 97, 1272, 1707, 1708, 97, 1722, 1724, 97, 80] rfl⟩
set_option maxRecDepth 100000 in
theorem cw233 : Cond.code (yyN 233) (cdN 233) (ML 233) (rtN 233) ∈ lw_tbl := List.mem_of_getElem? (i := 1717) rfl
theorem md234 : MdOK 234 := by unfold MdOK; decide +kernel
set_option maxRecDepth 100000 in
theorem mc234 : McOK 234 := ⟨by decide +kernel, by decide +kernel, mem_pos [1253, 1598, 1600, 97, 67, 1409, 1410, 97, 1413, 1301, 1694, 1696, 97, 76, 1714, 1716, 97, 78, 1694, 1696, 97, 76, 1722, 1724, 97, 80] rfl⟩
set_option maxRecDepth 100000 in
theorem cw234 : Cond.code (yyN 234) (cdN 234) (ML 234) (rtN 234) ∈ lw_tbl := List.mem_of_getElem? (i := 1713) rfl
theorem md235 : MdOK 235 := by unfold MdOK; decide +kernel
set_option maxRecDepth 100000 in
theorem mc235 : McOK 235 := ⟨by decide +kernel, by decide +kernel, mem_pos [1253, 1301, 1409, 1410, 97, 1300, 1248] rfl⟩
set_option maxRecDepth 100000 in
theorem cw235 : Cond.code (yyN 235) (cdN 235) (ML 235) (rtN 235) ∈ lw_tbl := List.mem_of_getElem? (i := 1729) rfl
theorem md236 : MdOK 236 := by unfold MdOK; decide +kernel
set_option maxRecDepth 100000 in
theorem mc236 : McOK 236 := ⟨by decide +kernel, by decide +kernel, mem_pos [1253, 1255, 1258, 1261, 1262, 1262, 1698, 1700, 97, 77, 1263, 1274, 1293, 1413] rfl⟩
set_option maxRecDepth 100000 in
theorem cw236 : Cond.code (yyN 236) (cdN 236) (ML 236) (rtN 236) ∈ lw_tbl := List.mem_of_getElem? (i := 1733) rfl
theorem md237 : MdOK 237 := by unfold MdOK; decide +kernel
set_option maxRecDepth 100000 in
theorem mc237 : McOK 237 := ⟨by decide +kernel, by decide +kernel, mem_pos [1253, 1254] rfl⟩
set_option maxRecDepth 100000 in
theorem cw237 : Cond.code (yyN 237) (cdN 237) (ML 237) (rtN 237) ∈ lw_tbl := List.mem_of_getElem? (i := 1737) rfl
theorem md238 : MdOK 238 := by unfold MdOK; decide +kernel
set_option maxRecDepth 100000 in
theorem mc238 : McOK 238 := ⟨by decide +kernel, by decide +kernel, mem_pos [537, 538, 538, 539] rfl⟩
set_option maxRecDepth 100000 in
theorem cw238 : Cond.code (yyN 238) (cdN 238) (ML 238) (rtN 238) ∈ lw_tbl := List.mem_of_getElem? (i := 536) rfl
theorem md239 : MdOK 239 := by unfold MdOK; decide +kernel
set_option maxRecDepth 100000 in
theorem mc239 : McOK 239 := ⟨by decide +kernel, by decide +kernel, mem_pos [876, 877, 877, 878] rfl⟩
set_option maxRecDepth 100000 in
theorem cw239 : Cond.code (yyN 239) (cdN 239) (ML 239) (rtN 239) ∈ lw_tbl := List.mem_of_getElem? (i := 875) rfl
theorem md240 : MdOK 240 := by unfold MdOK; decide +kernel
set_option maxRecDepth 100000 in
theorem mc240 : McOK 240 := ⟨by decide +kernel, by decide +kernel, mem_pos [1739, 684, 685, 98, 686] rfl⟩
set_option maxRecDepth 100000 in
theorem cw240 : Cond.code (yyN 240) (cdN 240) (ML 240) (rtN 240) ∈ lw_tbl := List.mem_of_getElem? (i := 683) rfl
theorem md241 : MdOK 241 := by unfold MdOK; decide +kernel
set_option maxRecDepth 100000 in
theorem mc241 : McOK 241 := ⟨by decide +kernel, by decide +kernel, mem_pos [694, 695, 98, 696, 1739, 698, 699, 99, 1739] rfl⟩
set_option maxRecDepth 100000 in
theorem cw241 : Cond.code (yyN 241) (cdN 241) (ML 241) (rtN 241) ∈ lw_tbl := List.mem_of_getElem? (i := 693) rfl
theorem md242 : MdOK 242 := by unfold MdOK; decide +kernel
set_option maxRecDepth 100000 in
theorem mc242 : McOK 242 := ⟨by decide +kernel, by decide +kernel, mem_pos [688, 1740] rfl⟩
set_option maxRecDepth 100000 in
theorem cw242 : Cond.code (yyN 242) (cdN 242) (ML 242) (rtN 242) ∈ lw_tbl := List.mem_of_getElem? (i := 687) rfl
theorem md243 : MdOK 243 := by unfold MdOK; decide +kernel
set_option maxRecDepth 100000 in
theorem mc243 : McOK 243 := ⟨by decide +kernel, by decide +kernel, mem_pos [688, 1740] rfl⟩
set_option maxRecDepth 100000 in
theorem cw243 : Cond.code (yyN 243) (cdN 243) (ML 243) (rtN 243) ∈ lw_tbl := List.mem_of_getElem? (i := 697) rfl
theorem md244 : MdOK 244 := by unfold MdOK; decide +kernel
set_option maxRecDepth 100000 in
theorem mc244 : McOK 244 := ⟨by decide +kernel, by decide +kernel, mem_pos [704, 706, 707, 100] rfl⟩
set_option maxRecDepth 100000 in
theorem cw244 : Cond.code (yyN 244) (cdN 244) (ML 244) (rtN 244) ∈ lw_tbl := List.mem_of_getElem? (i := 703) rfl
theorem md245 : MdOK 245 := by unfold MdOK; decide +kernel
set_option maxRecDepth 100000 in
theorem mc245 : McOK 245 := ⟨by decide +kernel, by decide +kernel, mem_pos [701, 702, 98] rfl⟩
set_option maxRecDepth 100000 in
theorem cw245 : Cond.code (yyN 245) (cdN 245) (ML 245) (rtN 245) ∈ lw_tbl := List.mem_of_getElem? (i := 700) rfl
theorem md246 : MdOK 246 := by unfold MdOK; decide +kernel
set_option maxRecDepth 100000 in
theorem mc246 : McOK 246 := ⟨by decide +kernel, by decide +kernel, mem_pos [] rfl⟩
set_option maxRecDepth 100000 in
theorem cw246 : Cond.code (yyN 246) (cdN 246) (ML 246) (rtN 246) ∈ lw_tbl := List.mem_of_getElem? (i := 518) rfl
theorem md247 : MdOK 247 := by unfold MdOK; decide +kernel
set_option maxRecDepth 100000 in
theorem mc247 : McOK 247 := ⟨by decide +kernel, by decide +kernel, mem_pos [] rfl⟩
set_option maxRecDepth 100000 in
theorem cw247 : Cond.code (yyN 247) (cdN 247) (ML 247) (rtN 247) ∈ lw_tbl := List.mem_of_getElem? (i := 511) rfl
theorem md248 : MdOK 248 := by unfold MdOK; decide +kernel
set_option maxRecDepth 100000 in
theorem mc248 : McOK 248 := ⟨by decide +kernel, by decide +kernel, mem_pos [] rfl⟩
set_option maxRecDepth 100000 in
theorem cw248 : Cond.code (yyN 248) (cdN 248) (ML 248) (rtN 248) ∈ lw_tbl := List.mem_of_getElem? (i := 708) rfl
