theorem md200 : MdOK 200 := by unfold MdOK; decide +kernel
set_option maxRecDepth 100000 in
theorem mc200 : McOK 200 := ⟨by decide +kernel, by decide +kernel, mem_pos [1253, 1571, 1573, 97, 66, 1413, 1248, 1547, 1549, 97, 64, 1248, 1582, 1583, 97, 1582, 1583, 97, 1289, 1575, 1576, 97, 1290] rfl⟩
set_option maxRecDepth 100000 in
theorem cw200 : Cond.code (yyN 200) (cdN 200) (ML 200) (rtN 200) ∈ lw_tbl := List.mem_of_getElem? (i := 1588) rfl
theorem md201 : MdOK 201 := by unfold MdOK; decide +kernel
set_option maxRecDepth 100000 in
theorem mc201 : McOK 201 := ⟨by decide +kernel, by decide +kernel, mem_pos [1253, 1293, 1593, 1409, 1410, 97, 1413, 1293, 1293] rfl⟩
set_option maxRecDepth 100000 in
theorem cw201 : Cond.code (yyN 201) (cdN 201) (ML 201) (rtN 201) ∈ lw_tbl := List.mem_of_getElem? (i := 1592) rfl
theorem md202 : MdOK 202 := by unfold MdOK; decide +kernel
set_option maxRecDepth 100000 in
theorem mc202 : McOK 202 := ⟨by decide +kernel, by decide +kernel, mem_pos [1262, 1409, 1410, 97] rfl⟩
set_option maxRecDepth 100000 in
theorem cw202 : Cond.code (yyN 202) (cdN 202) (ML 202) (rtN 202) ∈ lw_tbl := List.mem_of_getElem? (i := 1601) rfl
theorem md203 : MdOK 203 := by unfold MdOK; decide +kernel
set_option maxRecDepth 100000 in
theorem mc203 : McOK 203 := ⟨by decide +kernel, by decide +kernel, mem_pos [1253, 1598, 1600, 97, 67, 1413, 1269, 1248, 1602, 1269, 1293] rfl⟩
set_option maxRecDepth 100000 in
theorem cw203 : Cond.code (yyN 203) (cdN 203) (ML 203) (rtN 203) ∈ lw_tbl := List.mem_of_getElem? (i := 1597) rfl
theorem md204 : MdOK 204 := by unfold MdOK; decide +kernel
set_option maxRecDepth 100000 in
theorem mc204 : McOK 204 := ⟨by decide +kernel, by decide +kernel, mem_pos [1253, 1598, 1600, 97, 67, 1607, 1409, 1410, 97, 1413, 1263, 1264, 1268, 1269, 1272] rfl⟩
set_option maxRecDepth 100000 in
theorem cw204 : Cond.code (yyN 204) (cdN 204) (ML 204) (rtN 204) ∈ lw_tbl := List.mem_of_getElem? (i := 1606) rfl
theorem md205 : MdOK 205 := by unfold MdOK; decide +kernel
set_option maxRecDepth 100000 in
theorem mc205 : McOK 205 := ⟨by decide +kernel, by decide +kernel, mem_pos [1262, 1291, 1268, 1269, 1248, 1269, 1263, 1264, 1263] rfl⟩
set_option maxRecDepth 100000 in
theorem cw205 : Cond.code (yyN 205) (cdN 205) (ML 205) (rtN 205) ∈ lw_tbl := List.mem_of_getElem? (i := 1625) rfl
theorem md206 : MdOK 206 := by unfold MdOK; decide +kernel
set_option maxRecDepth 100000 in
theorem mc206 : McOK 206 := ⟨by decide +kernel, by decide +kernel, mem_pos [1593, 1409, 1410, 97] rfl⟩
set_option maxRecDepth 100000 in
theorem cw206 : Cond.code (yyN 206) (cdN 206) (ML 206) (rtN 206) ∈ lw_tbl := List.mem_of_getElem? (i := 1618) rfl
theorem md207 : MdOK 207 := by unfold MdOK; decide +kernel
set_option maxRecDepth 100000 in
theorem mc207 : McOK 207 := ⟨by decide +kernel, by decide +kernel, mem_pos [1408, 1409, 1410, 97] rfl⟩
set_option maxRecDepth 100000 in
theorem cw207 : Cond.code (yyN 207) (cdN 207) (ML 207) (rtN 207) ∈ lw_tbl := List.mem_of_getElem? (i := 1621) rfl
theorem md208 : MdOK 208 := by unfold MdOK; decide +kernel
set_option maxRecDepth 100000 in
theorem mc208 : McOK 208 := ⟨by decide +kernel, by decide +kernel, mem_pos [1539, 1541, 97, 62, 1616, 1617, 97, 1248, 1619, 1620, 97] rfl⟩
set_option maxRecDepth 100000 in
theorem cw208 : Cond.code (yyN 208) (cdN 208) (ML 208) (rtN 208) ∈ lw_tbl := List.mem_of_getElem? (i := 1615) rfl
theorem md209 : MdOK 209 := by unfold MdOK; decide +kernel
set_option maxRecDepth 100000 in
theorem mc209 : McOK 209 := ⟨by decide +kernel, by decide +kernel, mem_pos [1253, 1612, 1614, 97, 68, 1622, 1624, 97, 69, 1413] rfl⟩
set_option maxRecDepth 100000 in
theorem cw209 : Cond.code (yyN 209) (cdN 209) (ML 209) (rtN 209) ∈ lw_tbl := List.mem_of_getElem? (i := 1611) rfl
theorem md210 : MdOK 210 := by unfold MdOK; decide +kernel
set_option maxRecDepth 100000 in
theorem mc210 : McOK 210 := ⟨by decide +kernel, by decide +kernel, mem_pos [1248, 1295, 1294, 1262, 1266, 1265, 1267, 1294, 1267, 1265, 1265, 1267, 1295, 1248, 1295, 1295, 1265, 1294, 1265, 1265, 1294, 1294] rfl⟩
set_option maxRecDepth 100000 in
theorem cw210 : Cond.code (yyN 210) (cdN 210) (ML 210) (rtN 210) ∈ lw_tbl := List.mem_of_getElem? (i := 1633) rfl
theorem md211 : MdOK 211 := by unfold MdOK; decide +kernel
set_option maxRecDepth 100000 in
theorem mc211 : McOK 211 := ⟨by decide +kernel, by decide +kernel, mem_pos [1253, 1612, 1614, 97, 68, 1607, 1409, 1410, 97, 1413, 1622, 1624, 97, 69, 1630, 1632, 97, 70, 1295, 1294] rfl⟩
set_option maxRecDepth 100000 in
theorem cw211 : Cond.code (yyN 211) (cdN 211) (ML 211) (rtN 211) ∈ lw_tbl := List.mem_of_getElem? (i := 1629) rfl
theorem md212 : MdOK 212 := by unfold MdOK; decide +kernel
set_option maxRecDepth 100000 in
theorem mc212 : McOK 212 := ⟨by decide +kernel, by decide +kernel, mem_pos [1289, 1296, 1248, 1543, 1545, 97, 63, 1293, 1248, 1622, 1624, 97, 69, 1630, 1632, 97, 70, 1296, 1294] rfl⟩
set_option maxRecDepth 100000 in
theorem cw212 : Cond.code (yyN 212) (cdN 212) (ML 212) (rtN 212) ∈ lw_tbl := List.mem_of_getElem? (i := 1641) rfl
theorem md213 : MdOK 213 := by unfold MdOK; decide +kernel
set_option maxRecDepth 100000 in
theorem mc213 : McOK 213 := ⟨by decide +kernel, by decide +kernel, mem_pos [1253, 1413, 1638, 1640, 97, 71, 1289, 1296, 1248] rfl⟩
set_option maxRecDepth 100000 in
theorem cw213 : Cond.code (yyN 213) (cdN 213) (ML 213) (rtN 213) ∈ lw_tbl := List.mem_of_getElem? (i := 1637) rfl
theorem md214 : MdOK 214 := by unfold MdOK; decide +kernel
set_option maxRecDepth 100000 in
theorem mc214 : McOK 214 := ⟨by decide +kernel, by decide +kernel, mem_pos [1258, 1409, 1410, 97] rfl⟩
set_option maxRecDepth 100000 in
theorem cw214 : Cond.code (yyN 214) (cdN 214) (ML 214) (rtN 214) ∈ lw_tbl := List.mem_of_getElem? (i := 1649) rfl
theorem md215 : MdOK 215 := by unfold MdOK; decide +kernel
set_option maxRecDepth 100000 in
theorem mc215 : McOK 215 := ⟨by decide +kernel, by decide +kernel, mem_pos [1253, 1646, 1648, 97, 72, 1646, 1648, 97, 72, 1413, 1638, 1640, 97, 71, 1289, 1245, 1246, 97, 1245, 1246, 97, 1296, 1296, 1296, 1296, 1248, 1248, 1248, 1248, 1248] rfl⟩
set_option maxRecDepth 100000 in
theorem cw215 : Cond.code (yyN 215) (cdN 215) (ML 215) (rtN 215) ∈ lw_tbl := List.mem_of_getElem? (i := 1645) rfl
theorem md216 : MdOK 216 := by unfold MdOK; decide +kernel
set_option maxRecDepth 100000 in
theorem mc216 : McOK 216 := ⟨by decide +kernel, by decide +kernel, mem_pos [1258, 1297, 1297, 1297] rfl⟩
set_option maxRecDepth 100000 in
theorem cw216 : Cond.code (yyN 216) (cdN 216) (ML 216) (rtN 216) ∈ lw_tbl := List.mem_of_getElem? (i := 1657) rfl
theorem md217 : MdOK 217 := by unfold MdOK; decide +kernel
set_option maxRecDepth 100000 in
theorem mc217 : McOK 217 := ⟨by decide +kernel, by decide +kernel, mem_pos [1253, 1413, 1297, 1248, 1289, 1543, 1545, 97, 63, 1654, 1656, 97, 73, 1654, 1656, 97, 73, 1248, 1654, 1656, 97, 73, 1248] rfl⟩
set_option maxRecDepth 100000 in
theorem cw217 : Cond.code (yyN 217) (cdN 217) (ML 217) (rtN 217) ∈ lw_tbl := List.mem_of_getElem? (i := 1653) rfl
theorem md218 : MdOK 218 := by unfold MdOK; decide +kernel
set_option maxRecDepth 100000 in
theorem mc218 : McOK 218 := ⟨by decide +kernel, by decide +kernel, mem_pos [] rfl⟩
set_option maxRecDepth 100000 in
theorem cw218 : Cond.code (yyN 218) (cdN 218) (ML 218) (rtN 218) ∈ lw_tbl := List.mem_of_getElem? (i := 1669) rfl
theorem md219 : MdOK 219 := by unfold MdOK; decide +kernel
set_option maxRecDepth 100000 in
theorem mc219 : McOK 219 := ⟨by decide +kernel, by decide +kernel, mem_pos [1289, 1296, 1248, 1667, 1668, 97, 1667, 1668, 97, 1296] rfl⟩
set_option maxRecDepth 100000 in
theorem cw219 : Cond.code (yyN 219) (cdN 219) (ML 219) (rtN 219) ∈ lw_tbl := List.mem_of_getElem? (i := 1666) rfl
theorem md220 : MdOK 220 := by unfold MdOK; decide +kernel
set_option maxRecDepth 100000 in
theorem mc220 : McOK 220 := ⟨by decide +kernel, by decide +kernel, mem_pos [1253, 1662, 1409, 1410, 97, 1409, 1410, 97, 1413, 1638, 1640, 97, 71, 1289, 1296, 1248, 1258, 1663, 1665, 97, 74, 1663, 1665, 97, 74, 1258, 1258, 1663, 1665, 97, 74, 1663, 1665, 97, 74] rfl⟩
set_option maxRecDepth 100000 in
theorem cw220 : Cond.code (yyN 220) (cdN 220) (ML 220) (rtN 220) ∈ lw_tbl := List.mem_of_getElem? (i := 1661) rfl
theorem md221 : MdOK 221 := by unfold MdOK; decide +kernel
set_option maxRecDepth 100000 in
theorem mc221 : McOK 221 := ⟨by decide +kernel, by decide +kernel, mem_pos [1253, 1619, 1620, 97, 1539, 1541, 97, 62, 1616, 1617, 97, 1413, 1298, 1299] rfl⟩
set_option maxRecDepth 100000 in
theorem cw221 : Cond.code (yyN 221) (cdN 221) (ML 221) (rtN 221) ∈ lw_tbl := List.mem_of_getElem? (i := 1673) rfl
theorem md222 : MdOK 222 := by unfold MdOK; decide +kernel
set_option maxRecDepth 100000 in
theorem mc222 : McOK 222 := ⟨by decide +kernel, by decide +kernel, mem_pos [1253, 1405, 1406, 97, 1435, 1409, 1410, 97, 1413, 1255, 1414, 1416, 97, 45, 1256, 1414, 1416, 97, 45, 1257, 1539, 1541, 97, 62, 1413, 1254, 1298, 1257, 1299, 1293] rfl⟩
set_option maxRecDepth 100000 in
theorem cw222 : Cond.code (yyN 222) (cdN 222) (ML 222) (rtN 222) ∈ lw_tbl := List.mem_of_getElem? (i := 1677) rfl
theorem md223 : MdOK 223 := by unfold MdOK; decide +kernel
set_option maxRecDepth 100000 in
theorem mc223 : McOK 223 := ⟨by decide +kernel, by decide +kernel, mem_pos [1298, 1299, 1622, 1624, 97, 69] rfl⟩
set_option maxRecDepth 100000 in
theorem cw223 : Cond.code (yyN 223) (cdN 223) (ML 223) (rtN 223) ∈ lw_tbl := List.mem_of_getElem? (i := 1685) rfl
theorem md224 : MdOK 224 := by unfold MdOK; decide +kernel
set_option maxRecDepth 100000 in
theorem mc224 : McOK 224 := ⟨by decide +kernel, by decide +kernel, mem_pos [1253, 1598, 1600, 97, 67, 1413, 1682, 1684, 97, 75] rfl⟩
set_option maxRecDepth 100000 in
theorem cw224 : Cond.code (yyN 224) (cdN 224) (ML 224) (rtN 224) ∈ lw_tbl := List.mem_of_getElem? (i := 1681) rfl
