theorem md150 : MdOK 150 := by unfold MdOK; decide +kernel
set_option maxRecDepth 100000 in
theorem mc150 : McOK 150 := ⟨by decide +kernel, by decide +kernel, mem_pos [] rfl⟩
set_option maxRecDepth 100000 in
theorem cw150 : Cond.code (yyN 150) (cdN 150) (ML 150) (rtN 150) ∈ lw_tbl := List.mem_of_getElem? (i := 978) rfl
theorem md151 : MdOK 151 := by unfold MdOK; decide +kernel
set_option maxRecDepth 100000 in
theorem mc151 : McOK 151 := ⟨by decide +kernel, by decide +kernel, mem_pos [557, 848, 849, 84, 850, 976, 977, 82, 962, 979, 980, 82] rfl⟩
set_option maxRecDepth 100000 in
theorem cw151 : Cond.code (yyN 151) (cdN 151) (ML 151) (rtN 151) ∈ lw_tbl := List.mem_of_getElem? (i := 975) rfl
theorem md152 : MdOK 152 := by unfold MdOK; decide +kernel
set_option maxRecDepth 100000 in
theorem mc152 : McOK 152 := ⟨by decide +kernel, by decide +kernel, mem_pos [555, 618, 619, 93, 620] rfl⟩
set_option maxRecDepth 100000 in
theorem cw152 : Cond.code (yyN 152) (cdN 152) (ML 152) (rtN 152) ∈ lw_tbl := List.mem_of_getElem? (i := 1218) rfl
theorem md153 : MdOK 153 := by unfold MdOK; decide +kernel
set_option maxRecDepth 100000 in
theorem mc153 : McOK 153 := ⟨by decide +kernel, by decide +kernel, mem_pos [557, 563, 564, 982, 983, 84, 984] rfl⟩
set_option maxRecDepth 100000 in
theorem cw153 : Cond.code (yyN 153) (cdN 153) (ML 153) (rtN 153) ∈ lw_tbl := List.mem_of_getElem? (i := 1114) rfl
theorem md154 : MdOK 154 := by unfold MdOK; decide +kernel
set_option maxRecDepth 100000 in
theorem mc154 : McOK 154 := ⟨by decide +kernel, by decide +kernel, mem_pos [] rfl⟩
set_option maxRecDepth 100000 in
theorem cw154 : Cond.code (yyN 154) (cdN 154) (ML 154) (rtN 154) ∈ lw_tbl := List.mem_of_getElem? (i := 1411) rfl
theorem md155 : MdOK 155 := by unfold MdOK; decide +kernel
set_option maxRecDepth 100000 in
theorem mc155 : McOK 155 := ⟨by decide +kernel, by decide +kernel, mem_pos [1254, 1418] rfl⟩
set_option maxRecDepth 100000 in
theorem cw155 : Cond.code (yyN 155) (cdN 155) (ML 155) (rtN 155) ∈ lw_tbl := List.mem_of_getElem? (i := 1417) rfl
theorem md156 : MdOK 156 := by unfold MdOK; decide +kernel
set_option maxRecDepth 100000 in
theorem mc156 : McOK 156 := ⟨by decide +kernel, by decide +kernel, mem_pos [1236, 109, 162, 1255, 162, 1256, 162, 1257, 162, 1259, 162, 1260, 162, 1263, 162, 1264, 162, 1265, 162, 1266, 162, 1267, 162, 1268, 162, 1269, 162, 1270, 162, 1271, 162, 1272, 162, 1273, 162, 1286, 162, 1290, 162, 1291, 421, 1292, 162, 1294, 162, 1296, 421, 1297, 162, 1298, 162, 1299, 162, 1300, 1237, 1239, 97, 42] rfl⟩
set_option maxRecDepth 100000 in
theorem cw156 : Cond.code (yyN 156) (cdN 156) (ML 156) (rtN 156) ∈ lw_tbl := List.mem_of_getElem? (i := 1235) rfl
theorem md157 : MdOK 157 := by unfold MdOK; decide +kernel
set_option maxRecDepth 100000 in
theorem mc157 : McOK 157 := ⟨by decide +kernel, by decide +kernel, mem_pos [1408, 1409, 1410, 97] rfl⟩
set_option maxRecDepth 100000 in
theorem cw157 : Cond.code (yyN 157) (cdN 157) (ML 157) (rtN 157) ∈ lw_tbl := List.mem_of_getElem? (i := 1407) rfl
theorem md158 : MdOK 158 := by unfold MdOK; decide +kernel
set_option maxRecDepth 100000 in
theorem mc158 : McOK 158 := ⟨by decide +kernel, by decide +kernel, mem_pos [1253, 1405, 1406, 97, 1412, 1409, 1410, 97, 1413, 1254, 1414, 1416, 97, 45, 1255, 1256, 1257] rfl⟩
set_option maxRecDepth 100000 in
theorem cw158 : Cond.code (yyN 158) (cdN 158) (ML 158) (rtN 158) ∈ lw_tbl := List.mem_of_getElem? (i := 1404) rfl
theorem md159 : MdOK 159 := by unfold MdOK; decide +kernel
set_option maxRecDepth 100000 in
theorem mc159 : McOK 159 := ⟨by decide +kernel, by decide +kernel, mem_pos [1253, 1405, 1406, 97, 1413, 1254, 1255, 1414, 1416, 97, 45, 1256, 1409, 1410, 97, 1414, 1416, 97, 45, 1257, 1255, 1255, 1257] rfl⟩
set_option maxRecDepth 100000 in
theorem cw159 : Cond.code (yyN 159) (cdN 159) (ML 159) (rtN 159) ∈ lw_tbl := List.mem_of_getElem? (i := 1422) rfl
theorem md160 : MdOK 160 := by unfold MdOK; decide +kernel
set_option maxRecDepth 100000 in
theorem mc160 : McOK 160 := ⟨by decide +kernel, by decide +kernel, mem_pos [1253, 1405, 1406, 97, 1405, 1406, 97, 1413, 1254, 1255, 1255, 1414, 1416, 97, 45, 1255, 1255, 1414, 1416, 97, 45, 1256, 1256, 1414, 1416, 97, 45, 1257, 1257] rfl⟩
set_option maxRecDepth 100000 in
theorem cw160 : Cond.code (yyN 160) (cdN 160) (ML 160) (rtN 160) ∈ lw_tbl := List.mem_of_getElem? (i := 1426) rfl
theorem md161 : MdOK 161 := by unfold MdOK; decide +kernel
set_option maxRecDepth 100000 in
theorem mc161 : McOK 161 := ⟨by decide +kernel, by decide +kernel, mem_pos [1253, 1405, 1406, 97, 1413, 1254, 1255, 1414, 1416, 97, 45, 1255, 1256] rfl⟩
set_option maxRecDepth 100000 in
theorem cw161 : Cond.code (yyN 161) (cdN 161) (ML 161) (rtN 161) ∈ lw_tbl := List.mem_of_getElem? (i := 1430) rfl
theorem md162 : MdOK 162 := by unfold MdOK; decide +kernel
set_option maxRecDepth 100000 in
theorem mc162 : McOK 162 := ⟨by decide +kernel, by decide +kernel, mem_pos [1253, 1435, 1409, 1410, 97, 1413, 1274, 1436, 1273, 1274, 1437, 1274, 1274, 1274] rfl⟩
set_option maxRecDepth 100000 in
theorem cw162 : Cond.code (yyN 162) (cdN 162) (ML 162) (rtN 162) ∈ lw_tbl := List.mem_of_getElem? (i := 1434) rfl
theorem md163 : MdOK 163 := by unfold MdOK; decide +kernel
set_option maxRecDepth 100000 in
theorem mc163 : McOK 163 := ⟨by decide +kernel, by decide +kernel, mem_pos [1276, 1273, 1248] rfl⟩
set_option maxRecDepth 100000 in
theorem cw163 : Cond.code (yyN 163) (cdN 163) (ML 163) (rtN 163) ∈ lw_tbl := List.mem_of_getElem? (i := 1449) rfl
theorem md164 : MdOK 164 := by unfold MdOK; decide +kernel
set_option maxRecDepth 100000 in
theorem mc164 : McOK 164 := ⟨by decide +kernel, by decide +kernel, mem_pos [] rfl⟩
set_option maxRecDepth 100000 in
theorem cw164 : Cond.code (yyN 164) (cdN 164) (ML 164) (rtN 164) ∈ lw_tbl := List.mem_of_getElem? (i := 1452) rfl
theorem md165 : MdOK 165 := by unfold MdOK; decide +kernel
set_option maxRecDepth 100000 in
theorem mc165 : McOK 165 := ⟨by decide +kernel, by decide +kernel, mem_pos [] rfl⟩
set_option maxRecDepth 100000 in
theorem cw165 : Cond.code (yyN 165) (cdN 165) (ML 165) (rtN 165) ∈ lw_tbl := List.mem_of_getElem? (i := 1455) rfl
theorem md166 : MdOK 166 := by unfold MdOK; decide +kernel
set_option maxRecDepth 100000 in
theorem mc166 : McOK 166 := ⟨by decide +kernel, by decide +kernel, mem_pos [1277, 1446, 1448, 97, 47, 1277, 1446, 1448, 97, 47, 1277, 1277, 1277, 1279, 1277, 1446, 1448, 97, 47, 1248, 1278, 1450, 1451, 97, 1277, 1446, 1448, 97, 47, 1450, 1451, 97, 1277, 1277, 1278, 1453, 1454, 97, 1277, 1446, 1448, 97, 47, 1453, 1454, 97, 1277, 1277, 1277, 1279, 1278, 1277, 1277, 1278, 1277, 1280] rfl⟩
set_option maxRecDepth 100000 in
theorem cw166 : Cond.code (yyN 166) (cdN 166) (ML 166) (rtN 166) ∈ lw_tbl := List.mem_of_getElem? (i := 1445) rfl
theorem md167 : MdOK 167 := by unfold MdOK; decide +kernel
set_option maxRecDepth 100000 in
theorem mc167 : McOK 167 := ⟨by decide +kernel, by decide +kernel, mem_pos [1281, 1281, 1279, 1282] rfl⟩
set_option maxRecDepth 100000 in
theorem cw167 : Cond.code (yyN 167) (cdN 167) (ML 167) (rtN 167) ∈ lw_tbl := List.mem_of_getElem? (i := 1466) rfl
theorem md168 : MdOK 168 := by unfold MdOK; decide +kernel
set_option maxRecDepth 100000 in
theorem mc168 : McOK 168 := ⟨by decide +kernel, by decide +kernel, mem_pos [1463, 1465, 97, 49, 1281, 1442, 1444, 97, 46] rfl⟩
set_option maxRecDepth 100000 in
theorem cw168 : Cond.code (yyN 168) (cdN 168) (ML 168) (rtN 168) ∈ lw_tbl := List.mem_of_getElem? (i := 1470) rfl
theorem md169 : MdOK 169 := by unfold MdOK; decide +kernel
set_option maxRecDepth 100000 in
theorem mc169 : McOK 169 := ⟨by decide +kernel, by decide +kernel, mem_pos [1278, 1279, 1446, 1448, 97, 47] rfl⟩
set_option maxRecDepth 100000 in
theorem cw169 : Cond.code (yyN 169) (cdN 169) (ML 169) (rtN 169) ∈ lw_tbl := List.mem_of_getElem? (i := 1503) rfl
theorem md170 : MdOK 170 := by unfold MdOK; decide +kernel
set_option maxRecDepth 100000 in
theorem mc170 : McOK 170 := ⟨by decide +kernel, by decide +kernel, mem_pos [1279, 1280, 1278, 1280, 1279, 1273] rfl⟩
set_option maxRecDepth 100000 in
theorem cw170 : Cond.code (yyN 170) (cdN 170) (ML 170) (rtN 170) ∈ lw_tbl := List.mem_of_getElem? (i := 1459) rfl
theorem md171 : MdOK 171 := by unfold MdOK; decide +kernel
set_option maxRecDepth 100000 in
theorem mc171 : McOK 171 := ⟨by decide +kernel, by decide +kernel, mem_pos [1279, 1280, 1278, 1273] rfl⟩
set_option maxRecDepth 100000 in
theorem cw171 : Cond.code (yyN 171) (cdN 171) (ML 171) (rtN 171) ∈ lw_tbl := List.mem_of_getElem? (i := 1483) rfl
theorem md172 : MdOK 172 := by unfold MdOK; decide +kernel
set_option maxRecDepth 100000 in
theorem mc172 : McOK 172 := ⟨by decide +kernel, by decide +kernel, mem_pos [1281, 1480, 1482, 97, 53, 1278, 1463, 1465, 97, 49, 1278, 1467, 1469, 97, 50] rfl⟩
set_option maxRecDepth 100000 in
theorem cw172 : Cond.code (yyN 172) (cdN 172) (ML 172) (rtN 172) ∈ lw_tbl := List.mem_of_getElem? (i := 1479) rfl
theorem md173 : MdOK 173 := by unfold MdOK; decide +kernel
set_option maxRecDepth 100000 in
theorem mc173 : McOK 173 := ⟨by decide +kernel, by decide +kernel, mem_pos [1270, 1271, 1271] rfl⟩
set_option maxRecDepth 100000 in
theorem cw173 : Cond.code (yyN 173) (cdN 173) (ML 173) (rtN 173) ∈ lw_tbl := List.mem_of_getElem? (i := 1507) rfl
theorem md174 : MdOK 174 := by unfold MdOK; decide +kernel
set_option maxRecDepth 100000 in
theorem mc174 : McOK 174 := ⟨by decide +kernel, by decide +kernel, mem_pos [1286, 1287, 1287, 1287] rfl⟩
set_option maxRecDepth 100000 in
theorem cw174 : Cond.code (yyN 174) (cdN 174) (ML 174) (rtN 174) ∈ lw_tbl := List.mem_of_getElem? (i := 1499) rfl
