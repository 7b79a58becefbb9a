theorem md175 : MdOK 175 := by unfold MdOK; decide +kernel
set_option maxRecDepth 100000 in
theorem mc175 : McOK 175 := ⟨by decide +kernel, by decide +kernel, mem_pos [1287, 1286, 1287] rfl⟩
set_option maxRecDepth 100000 in
theorem cw175 : Cond.code (yyN 175) (cdN 175) (ML 175) (rtN 175) ∈ lw_tbl := List.mem_of_getElem? (i := 1515) rfl
theorem md176 : MdOK 176 := by unfold MdOK; decide +kernel
set_option maxRecDepth 100000 in
theorem mc176 : McOK 176 := ⟨by decide +kernel, by decide +kernel, mem_pos [1287, 1512, 1514, 97, 60, 1512, 1514, 97, 60, 1512, 1514, 97, 60, 1288, 1512, 1514, 97, 60, 1288, 1287, 1287, 1286, 1287, 1504, 1506, 97, 58] rfl⟩
set_option maxRecDepth 100000 in
theorem cw176 : Cond.code (yyN 176) (cdN 176) (ML 176) (rtN 176) ∈ lw_tbl := List.mem_of_getElem? (i := 1511) rfl
theorem md177 : MdOK 177 := by unfold MdOK; decide +kernel
set_option maxRecDepth 100000 in
theorem mc177 : McOK 177 := ⟨by decide +kernel, by decide +kernel, mem_pos [1288, 1463, 1465, 97, 49, 1467, 1469, 97, 50, 1281, 1288, 1288, 1496, 1498, 97, 56] rfl⟩
set_option maxRecDepth 100000 in
theorem cw177 : Cond.code (yyN 177) (cdN 177) (ML 177) (rtN 177) ∈ lw_tbl := List.mem_of_getElem? (i := 1495) rfl
theorem md178 : MdOK 178 := by unfold MdOK; decide +kernel
set_option maxRecDepth 100000 in
theorem mc178 : McOK 178 := ⟨by decide +kernel, by decide +kernel, mem_pos [1271, 1272, 1287, 1288, 1281, 1456, 1458, 97, 48, 1491, 1492, 1494, 97, 55, 1500, 1502, 97, 57, 1492, 1494, 97, 55, 1480, 1482, 97, 53, 1278, 1283, 1463, 1465, 97, 49, 1278, 1272, 1463, 1465, 97, 49, 1278, 1467, 1469, 97, 50, 1281, 1504, 1506, 97, 58, 1272, 1508, 1510, 97, 59, 1456, 1458, 97, 48, 1516, 1456, 1458, 97, 48, 1517, 1456, 1458, 97, 48, 1516, 1508, 1510, 97, 59, 1496, 1498, 97, 56, 1467, 1469, 97, 50, 1508, 1510, 97, 59, 1287, 1500, 1502, 97, 57, 1467, 1469, 97, 50, 1287, 1287, 1288, 1288, 1508, 1510, 97, 59] rfl⟩
set_option maxRecDepth 100000 in
theorem cw178 : Cond.code (yyN 178) (cdN 178) (ML 178) (rtN 178) ∈ lw_tbl := List.mem_of_getElem? (i := 1490) rfl
theorem md179 : MdOK 179 := by unfold MdOK; decide +kernel
set_option maxRecDepth 100000 in
theorem mc179 : McOK 179 := ⟨by decide +kernel, by decide +kernel, mem_pos [1456, 1458, 97, 48, 1475, 1259, 1283, 1248, 1442, 1444, 97, 46, 1259, 1283, 1283, 1476, 1478, 97, 52, 1281, 1456, 1458, 97, 48, 1260, 1283, 1484, 1485, 1486, 1248, 1260, 1283, 1248, 1467, 1469, 97, 50, 1283, 1283] rfl⟩
set_option maxRecDepth 100000 in
theorem cw179 : Cond.code (yyN 179) (cdN 179) (ML 179) (rtN 179) ∈ lw_tbl := List.mem_of_getElem? (i := 1474) rfl
theorem md180 : MdOK 180 := by unfold MdOK; decide +kernel
set_option maxRecDepth 100000 in
theorem mc180 : McOK 180 := ⟨by decide +kernel, by decide +kernel, mem_pos [1285, 1456, 1458, 97, 48, 1263, 1522, 1523, 1524, 1248, 1263, 1248, 1467, 1469, 97, 50, 1264, 1263, 1476, 1478, 97, 52, 1248, 1281, 1456, 1458, 97, 48, 1265, 1525, 1526, 1527, 1528, 1248, 1265, 1248, 1467, 1469, 97, 50, 1266, 1476, 1478, 97, 52, 1267, 1265, 1476, 1478, 97, 52, 1271, 1272, 1281, 1456, 1458, 97, 48, 1529, 1442, 1444, 97, 46, 1487, 1489, 97, 54, 1268, 1293, 1269, 1248, 1285, 1285] rfl⟩
set_option maxRecDepth 100000 in
theorem cw180 : Cond.code (yyN 180) (cdN 180) (ML 180) (rtN 180) ∈ lw_tbl := List.mem_of_getElem? (i := 1521) rfl
theorem md181 : MdOK 181 := by unfold MdOK; decide +kernel
set_option maxRecDepth 100000 in
theorem mc181 : McOK 181 := ⟨by decide +kernel, by decide +kernel, mem_pos [1253, 1274, 1276, 1274, 1277, 1281, 1258, 1283, 1261, 1284, 1262, 1285, 1442, 1444, 97, 46, 1281, 1278, 1456, 1458, 97, 48, 1460, 1283, 1461, 1284, 1462, 1285, 1463, 1465, 97, 49, 1460, 1461, 1462, 1467, 1469, 97, 50, 1281, 1460, 1471, 1473, 97, 51, 1281, 1461, 1284, 1487, 1489, 97, 54, 1284, 1284, 1281, 1518, 1520, 97, 61, 1281, 1500, 1502, 97, 57, 1467, 1469, 97, 50, 1281, 1281, 1275, 1530, 1282, 1283, 1258, 1284, 1261, 1285, 1262, 1237, 1239, 97, 42, 1262] rfl⟩
set_option maxRecDepth 100000 in
theorem cw181 : Cond.code (yyN 181) (cdN 181) (ML 181) (rtN 181) ∈ lw_tbl := List.mem_of_getElem? (i := 1441) rfl
theorem md182 : MdOK 182 := by unfold MdOK; decide +kernel
set_option maxRecDepth 100000 in
theorem mc182 : McOK 182 := ⟨by decide +kernel, by decide +kernel, mem_pos [1253, 1275] rfl⟩
set_option maxRecDepth 100000 in
theorem cw182 : Cond.code (yyN 182) (cdN 182) (ML 182) (rtN 182) ∈ lw_tbl := List.mem_of_getElem? (i := 1534) rfl
theorem md183 : MdOK 183 := by unfold MdOK; decide +kernel
set_option maxRecDepth 100000 in
theorem mc183 : McOK 183 := ⟨by decide +kernel, by decide +kernel, mem_pos [1271, 1270, 1292, 1292, 1292, 1292, 1292, 1292, 1292, 1292, 1292] rfl⟩
set_option maxRecDepth 100000 in
theorem cw183 : Cond.code (yyN 183) (cdN 183) (ML 183) (rtN 183) ∈ lw_tbl := List.mem_of_getElem? (i := 1252) rfl
theorem md184 : MdOK 184 := by unfold MdOK; decide +kernel
set_option maxRecDepth 100000 in
theorem mc184 : McOK 184 := ⟨by decide +kernel, by decide +kernel, mem_pos [1248] rfl⟩
set_option maxRecDepth 100000 in
theorem cw184 : Cond.code (yyN 184) (cdN 184) (ML 184) (rtN 184) ∈ lw_tbl := List.mem_of_getElem? (i := 1247) rfl
theorem md185 : MdOK 185 := by unfold MdOK; decide +kernel
set_option maxRecDepth 100000 in
theorem mc185 : McOK 185 := ⟨by decide +kernel, by decide +kernel, mem_pos [1258, 1245, 1246, 97, 1259, 1245, 1246, 97, 1260, 1259, 1245, 1246, 97, 1245, 1246, 97, 1260, 1259, 1245, 1246, 97, 1258, 1260, 1259, 1259, 1245, 1246, 97] rfl⟩
set_option maxRecDepth 100000 in
theorem cw185 : Cond.code (yyN 185) (cdN 185) (ML 185) (rtN 185) ∈ lw_tbl := List.mem_of_getElem? (i := 1244) rfl
theorem md186 : MdOK 186 := by unfold MdOK; decide +kernel
set_option maxRecDepth 100000 in
theorem mc186 : McOK 186 := ⟨by decide +kernel, by decide +kernel, mem_pos [1258, 1289, 1289, 1241, 1243, 97, 43, 1261, 1249, 1251, 97, 44, 1290, 1262, 1249, 1251, 97, 44, 1291] rfl⟩
set_option maxRecDepth 100000 in
theorem cw186 : Cond.code (yyN 186) (cdN 186) (ML 186) (rtN 186) ∈ lw_tbl := List.mem_of_getElem? (i := 1240) rfl
theorem md187 : MdOK 187 := by unfold MdOK; decide +kernel
set_option maxRecDepth 100000 in
theorem mc187 : McOK 187 := ⟨by decide +kernel, by decide +kernel, mem_pos [1261] rfl⟩
set_option maxRecDepth 100000 in
theorem cw187 : Cond.code (yyN 187) (cdN 187) (ML 187) (rtN 187) ∈ lw_tbl := List.mem_of_getElem? (i := 1550) rfl
theorem md188 : MdOK 188 := by unfold MdOK; decide +kernel
set_option maxRecDepth 100000 in
theorem mc188 : McOK 188 := ⟨by decide +kernel, by decide +kernel, mem_pos [1290, 1547, 1549, 97, 64] rfl⟩
set_option maxRecDepth 100000 in
theorem cw188 : Cond.code (yyN 188) (cdN 188) (ML 188) (rtN 188) ∈ lw_tbl := List.mem_of_getElem? (i := 1546) rfl
theorem md189 : MdOK 189 := by unfold MdOK; decide +kernel
set_option maxRecDepth 100000 in
theorem mc189 : McOK 189 := ⟨by decide +kernel, by decide +kernel, mem_pos [1289, 1409, 1410, 97] rfl⟩
set_option maxRecDepth 100000 in
theorem cw189 : Cond.code (yyN 189) (cdN 189) (ML 189) (rtN 189) ∈ lw_tbl := List.mem_of_getElem? (i := 1542) rfl
theorem md190 : MdOK 190 := by unfold MdOK; decide +kernel
set_option maxRecDepth 100000 in
theorem mc190 : McOK 190 := ⟨by decide +kernel, by decide +kernel, mem_pos [1253, 1539, 1541, 97, 62, 1543, 1545, 97, 63, 1413] rfl⟩
set_option maxRecDepth 100000 in
theorem cw190 : Cond.code (yyN 190) (cdN 190) (ML 190) (rtN 190) ∈ lw_tbl := List.mem_of_getElem? (i := 1538) rfl
theorem md191 : MdOK 191 := by unfold MdOK; decide +kernel
set_option maxRecDepth 100000 in
theorem mc191 : McOK 191 := ⟨by decide +kernel, by decide +kernel, mem_pos [1253, 1409, 1410, 97, 1261, 1262, 1409, 1410, 97, 1539, 1541, 97, 62, 1413, 1290, 1291] rfl⟩
set_option maxRecDepth 100000 in
theorem cw191 : Cond.code (yyN 191) (cdN 191) (ML 191) (rtN 191) ∈ lw_tbl := List.mem_of_getElem? (i := 1554) rfl
theorem md192 : MdOK 192 := by unfold MdOK; decide +kernel
set_option maxRecDepth 100000 in
theorem mc192 : McOK 192 := ⟨by decide +kernel, by decide +kernel, mem_pos [1289, 1290] rfl⟩
set_option maxRecDepth 100000 in
theorem cw192 : Cond.code (yyN 192) (cdN 192) (ML 192) (rtN 192) ∈ lw_tbl := List.mem_of_getElem? (i := 1562) rfl
theorem md193 : MdOK 193 := by unfold MdOK; decide +kernel
set_option maxRecDepth 100000 in
theorem mc193 : McOK 193 := ⟨by decide +kernel, by decide +kernel, mem_pos [1253, 1547, 1549, 97, 64, 1559, 1561, 97, 65] rfl⟩
set_option maxRecDepth 100000 in
theorem cw193 : Cond.code (yyN 193) (cdN 193) (ML 193) (rtN 193) ∈ lw_tbl := List.mem_of_getElem? (i := 1558) rfl
theorem md194 : MdOK 194 := by unfold MdOK; decide +kernel
set_option maxRecDepth 100000 in
theorem mc194 : McOK 194 := ⟨by decide +kernel, by decide +kernel, mem_pos [1253, 1412, 1409, 1410, 97, 1413, 1289, 1289, 1543, 1545, 97, 63, 1543, 1545, 97, 63, 1289, 1261, 1547, 1549, 97, 64, 1559, 1561, 97, 65, 1547, 1549, 97, 64, 1559, 1561, 97, 65, 1289] rfl⟩
set_option maxRecDepth 100000 in
theorem cw194 : Cond.code (yyN 194) (cdN 194) (ML 194) (rtN 194) ∈ lw_tbl := List.mem_of_getElem? (i := 1566) rfl
theorem md195 : MdOK 195 := by unfold MdOK; decide +kernel
set_option maxRecDepth 100000 in
theorem mc195 : McOK 195 := ⟨by decide +kernel, by decide +kernel, mem_pos [1539, 1541, 97, 62, 1539, 1541, 97, 62] rfl⟩
set_option maxRecDepth 100000 in
theorem cw195 : Cond.code (yyN 195) (cdN 195) (ML 195) (rtN 195) ∈ lw_tbl := List.mem_of_getElem? (i := 1574) rfl
theorem md196 : MdOK 196 := by unfold MdOK; decide +kernel
set_option maxRecDepth 100000 in
theorem mc196 : McOK 196 := ⟨by decide +kernel, by decide +kernel, mem_pos [] rfl⟩
set_option maxRecDepth 100000 in
theorem cw196 : Cond.code (yyN 196) (cdN 196) (ML 196) (rtN 196) ∈ lw_tbl := List.mem_of_getElem? (i := 1577) rfl
theorem md197 : MdOK 197 := by unfold MdOK; decide +kernel
set_option maxRecDepth 100000 in
theorem mc197 : McOK 197 := ⟨by decide +kernel, by decide +kernel, mem_pos [1253, 1571, 1573, 97, 66, 1409, 1410, 97, 1413, 1289, 1289, 1543, 1545, 97, 63, 1575, 1576, 97, 1289, 1248] rfl⟩
set_option maxRecDepth 100000 in
theorem cw197 : Cond.code (yyN 197) (cdN 197) (ML 197) (rtN 197) ∈ lw_tbl := List.mem_of_getElem? (i := 1570) rfl
theorem md198 : MdOK 198 := by unfold MdOK; decide +kernel
set_option maxRecDepth 100000 in
theorem mc198 : McOK 198 := ⟨by decide +kernel, by decide +kernel, mem_pos [] rfl⟩
set_option maxRecDepth 100000 in
theorem cw198 : Cond.code (yyN 198) (cdN 198) (ML 198) (rtN 198) ∈ lw_tbl := List.mem_of_getElem? (i := 1584) rfl
theorem md199 : MdOK 199 := by unfold MdOK; decide +kernel
set_option maxRecDepth 100000 in
theorem mc199 : McOK 199 := ⟨by decide +kernel, by decide +kernel, mem_pos [1253, 1539, 1541, 97, 62, 1413, 1248, 1289, 1543, 1545, 97, 63, 1248, 1582, 1583, 97, 1582, 1583, 97] rfl⟩
set_option maxRecDepth 100000 in
theorem cw199 : Cond.code (yyN 199) (cdN 199) (ML 199) (rtN 199) ∈ lw_tbl := List.mem_of_getElem? (i := 1581) rfl
