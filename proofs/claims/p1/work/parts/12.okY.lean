theorem okT11 : mv_Tchk RX11 tT11 sysY [1161, 1162, 1163, 1164, 1165, 1166, 1167, 1168, 1169, 1170, 1171, 1172, 1173, 1174, 1175, 1176, 1177, 1178, 1179, 1180, 1181, 1182, 1183, 1184, 1185, 1186, 1187, 1188, 1189, 1190, 1191, 1192, 1193, 1194, 1195, 1196, 1197, 1198, 1199, 1200, 1201, 1202, 1203, 1204, 1205, 1206, 1207, 1208, 1209, 1210, 1211, 1212, 1213, 1214, 1215, 1216, 1217, 1218, 1219, 1220, 1221, 1222, 1223, 1224, 1225, 1226] [1582, 1583, 1584] [] [1365, 1368, 1372, 1384, 1388, 1392, 1396, 1400, 1404, 1408, 1412, 1416, 1420, 1424, 1428, 1432, 1436, 1440, 1444, 1448, 1452, 1456, 1460, 1464, 1468, 1488, 1492, 1496, 1500, 1504, 1508, 1512, 1516, 1520, 1524, 1528, 1532, 1536, 1539, 1543, 1547, 1551, 1555, 1559, 1563, 1567, 1571, 1575, 1579, 1585, 1589, 1593, 1597, 1601, 1605, 1609, 1613, 1617, 1621, 1625, 1629] = true := by decide +kernel
theorem okD_mX11_in : mv_dchk mX11_in = true := by decide +kernel
theorem ok_mX11_in : mv_mok sysY mX11_in := mv_mok_of (hc := 1367) (h2 := 1366) (h3 := 0) (hi := 125) okD_mX11_in (mv_Tok_of okT11) (by decide +kernel)
theorem okD_mX11_init_ : mv_dchk mX11_init_ = true := by decide +kernel
theorem ok_mX11_init_ : mv_mok sysY mX11_init_ := mv_mok_of (hc := 1364) (h2 := 1362) (h3 := 1363) (hi := 125) okD_mX11_init_ (mv_Tok_of okT11) (by decide +kernel)
theorem okD_mX11_feed : mv_dchk mX11_feed = true := by decide +kernel
theorem ok_mX11_feed : mv_mok sysY mX11_feed := mv_mok_of (hc := 1379) (h2 := 1377) (h3 := 1378) (hi := 125) okD_mX11_feed (mv_Tok_of okT11) (by decide +kernel)
theorem okD_mX11_token : mv_dchk mX11_token = true := by decide +kernel
theorem ok_mX11_token : mv_mok sysY mX11_token := mv_mok_of (hc := 1387) (h2 := 1386) (h3 := 60) (hi := 125) okD_mX11_token (mv_Tok_of okT11) (by decide +kernel)
theorem okD_mX11_wrong : mv_dchk mX11_wrong = true := by decide +kernel
theorem ok_mX11_wrong : mv_mok sysY mX11_wrong := mv_mok_of (hc := 1395) (h2 := 1394) (h3 := 62) (hi := 125) okD_mX11_wrong (mv_Tok_of okT11) (by decide +kernel)
theorem okD_mX11_number : mv_dchk mX11_number = true := by decide +kernel
theorem ok_mX11_number : mv_mok sysY mX11_number := mv_mok_of (hc := 1399) (h2 := 1398) (h3 := 63) (hi := 125) okD_mX11_number (mv_Tok_of okT11) (by decide +kernel)
theorem okD_mX11_known : mv_dchk mX11_known = true := by decide +kernel
theorem ok_mX11_known : mv_mok sysY mX11_known := mv_mok_of (hc := 1455) (h2 := 1454) (h3 := 77) (hi := 125) okD_mX11_known (mv_Tok_of okT11) (by decide +kernel)
theorem okD_mX11_later : mv_dchk mX11_later = true := by decide +kernel
theorem ok_mX11_later : mv_mok sysY mX11_later := mv_mok_of (hc := 1403) (h2 := 1402) (h3 := 64) (hi := 125) okD_mX11_later (mv_Tok_of okT11) (by decide +kernel)
theorem okD_mX11_lay : mv_dchk mX11_lay = true := by decide +kernel
theorem ok_mX11_lay : mv_mok sysY mX11_lay := mv_mok_of (hc := 1423) (h2 := 1422) (h3 := 69) (hi := 125) okD_mX11_lay (mv_Tok_of okT11) (by decide +kernel)
theorem okD_mX11_mark : mv_dchk mX11_mark = true := by decide +kernel
theorem ok_mX11_mark : mv_mok sysY mX11_mark := mv_mok_of (hc := 1435) (h2 := 1434) (h3 := 72) (hi := 125) okD_mX11_mark (mv_Tok_of okT11) (by decide +kernel)
theorem okD_mX11_newHole : mv_dchk mX11_newHole = true := by decide +kernel
theorem ok_mX11_newHole : mv_mok sysY mX11_newHole := mv_mok_of (hc := 1419) (h2 := 1418) (h3 := 68) (hi := 125) okD_mX11_newHole (mv_Tok_of okT11) (by decide +kernel)
theorem okD_mX11_layHole : mv_dchk mX11_layHole = true := by decide +kernel
theorem ok_mX11_layHole : mv_mok sysY mX11_layHole := mv_mok_of (hc := 1427) (h2 := 1426) (h3 := 70) (hi := 125) okD_mX11_layHole (mv_Tok_of okT11) (by decide +kernel)
theorem okD_mX11_fill : mv_dchk mX11_fill = true := by decide +kernel
theorem ok_mX11_fill : mv_mok sysY mX11_fill := mv_mok_of (hc := 1415) (h2 := 1414) (h3 := 67) (hi := 125) okD_mX11_fill (mv_Tok_of okT11) (by decide +kernel)
theorem okD_mX11_layBack : mv_dchk mX11_layBack = true := by decide +kernel
theorem ok_mX11_layBack : mv_mok sysY mX11_layBack := mv_mok_of (hc := 1471) (h2 := 1470) (h3 := 81) (hi := 125) okD_mX11_layBack (mv_Tok_of okT11) (by decide +kernel)
theorem okD_mX11_remember : mv_dchk mX11_remember = true := by decide +kernel
theorem ok_mX11_remember : mv_mok sysY mX11_remember := mv_mok_of (hc := 1443) (h2 := 1442) (h3 := 74) (hi := 125) okD_mX11_remember (mv_Tok_of okT11) (by decide +kernel)
theorem okD_mX11_readAll : mv_dchk mX11_readAll = true := by decide +kernel
theorem ok_mX11_readAll : mv_mok sysY mX11_readAll := mv_mok_of (hc := 1407) (h2 := 1406) (h3 := 65) (hi := 125) okD_mX11_readAll (mv_Tok_of okT11) (by decide +kernel)
theorem okD_mX11_isDeep : mv_dchk mX11_isDeep = true := by decide +kernel
theorem ok_mX11_isDeep : mv_mok sysY mX11_isDeep := mv_mok_of (hc := 1431) (h2 := 1430) (h3 := 71) (hi := 125) okD_mX11_isDeep (mv_Tok_of okT11) (by decide +kernel)
theorem okD_mX11_readStatements : mv_dchk mX11_readStatements = true := by decide +kernel
theorem ok_mX11_readStatements : mv_mok sysY mX11_readStatements := mv_mok_of (hc := 1411) (h2 := 1410) (h3 := 66) (hi := 125) okD_mX11_readStatements (mv_Tok_of okT11) (by decide +kernel)
theorem okD_mX11_readStatement : mv_dchk mX11_readStatement = true := by decide +kernel
theorem ok_mX11_readStatement : mv_mok sysY mX11_readStatement := mv_mok_of (hc := 1439) (h2 := 1438) (h3 := 73) (hi := 125) okD_mX11_readStatement (mv_Tok_of okT11) (by decide +kernel)
theorem okD_mX11_readOver : mv_dchk mX11_readOver = true := by decide +kernel
theorem ok_mX11_readOver : mv_mok sysY mX11_readOver := mv_mok_of (hc := 1447) (h2 := 1446) (h3 := 75) (hi := 125) okD_mX11_readOver (mv_Tok_of okT11) (by decide +kernel)
theorem okD_mX11_readCall : mv_dchk mX11_readCall = true := by decide +kernel
theorem ok_mX11_readCall : mv_mok sysY mX11_readCall := mv_mok_of (hc := 1451) (h2 := 1450) (h3 := 76) (hi := 125) okD_mX11_readCall (mv_Tok_of okT11) (by decide +kernel)
theorem okD_mX11_readExpression : mv_dchk mX11_readExpression = true := by decide +kernel
theorem ok_mX11_readExpression : mv_mok sysY mX11_readExpression := mv_mok_of (hc := 1459) (h2 := 1458) (h3 := 78) (hi := 125) okD_mX11_readExpression (mv_Tok_of okT11) (by decide +kernel)
theorem okD_mX11_readEither : mv_dchk mX11_readEither = true := by decide +kernel
theorem ok_mX11_readEither : mv_mok sysY mX11_readEither := mv_mok_of (hc := 1463) (h2 := 1462) (h3 := 79) (hi := 125) okD_mX11_readEither (mv_Tok_of okT11) (by decide +kernel)
theorem okD_mX11_readMap : mv_dchk mX11_readMap = true := by decide +kernel
theorem ok_mX11_readMap : mv_mok sysY mX11_readMap := mv_mok_of (hc := 1467) (h2 := 1466) (h3 := 80) (hi := 125) okD_mX11_readMap (mv_Tok_of okT11) (by decide +kernel)
theorem okD_mX11_readFunction : mv_dchk mX11_readFunction = true := by decide +kernel
theorem ok_mX11_readFunction : mv_mok sysY mX11_readFunction := mv_mok_of (hc := 1391) (h2 := 1390) (h3 := 61) (hi := 125) okD_mX11_readFunction (mv_Tok_of okT11) (by decide +kernel)
theorem okD_mX11_compile : mv_dchk mX11_compile = true := by decide +kernel
theorem ok_mX11_compile : mv_mok sysY mX11_compile := mv_mok_of (hc := 1383) (h2 := 1381) (h3 := 1382) (hi := 125) okD_mX11_compile (mv_Tok_of okT11) (by decide +kernel)
theorem okD_mX11_place : mv_dchk mX11_place = true := by decide +kernel
theorem ok_mX11_place : mv_mok sysY mX11_place := mv_mok_of (hc := 1475) (h2 := 1473) (h3 := 1474) (hi := 125) okD_mX11_place (mv_Tok_of okT11) (by decide +kernel)
theorem okD_mX11_code : mv_dchk mX11_code = true := by decide +kernel
theorem ok_mX11_code : mv_mok sysY mX11_code := mv_mok_of (hc := 1479) (h2 := 1477) (h3 := 1478) (hi := 125) okD_mX11_code (mv_Tok_of okT11) (by decide +kernel)
theorem okD_mX11_rank : mv_dchk mX11_rank = true := by decide +kernel
theorem ok_mX11_rank : mv_mok sysY mX11_rank := mv_mok_of (hc := 1581) (h2 := 1580) (h3 := 0) (hi := 125) okD_mX11_rank (mv_Tok_of okT11) (by decide +kernel)
theorem okD_mX11_rankOf : mv_dchk mX11_rankOf = true := by decide +kernel
theorem ok_mX11_rankOf : mv_mok sysY mX11_rankOf := mv_mok_of (hc := 1588) (h2 := 1587) (h3 := 104) (hi := 125) okD_mX11_rankOf (mv_Tok_of okT11) (by decide +kernel)
theorem okD_mX11_markTree : mv_dchk mX11_markTree = true := by decide +kernel
theorem ok_mX11_markTree : mv_mok sysY mX11_markTree := mv_mok_of (hc := 1574) (h2 := 1573) (h3 := 102) (hi := 125) okD_mX11_markTree (mv_Tok_of okT11) (by decide +kernel)
theorem okD_mX11_findLive : mv_dchk mX11_findLive = true := by decide +kernel
theorem ok_mX11_findLive : mv_mok sysY mX11_findLive := mv_mok_of (hc := 1570) (h2 := 1569) (h3 := 101) (hi := 125) okD_mX11_findLive (mv_Tok_of okT11) (by decide +kernel)
theorem okD_mX11_beginMaking : mv_dchk mX11_beginMaking = true := by decide +kernel
theorem ok_mX11_beginMaking : mv_mok sysY mX11_beginMaking := mv_mok_of (hc := 1566) (h2 := 1565) (h3 := 100) (hi := 125) okD_mX11_beginMaking (mv_Tok_of okT11) (by decide +kernel)
theorem okD_mX11_cell : mv_dchk mX11_cell = true := by decide +kernel
theorem ok_mX11_cell : mv_mok sysY mX11_cell := mv_mok_of (hc := 1592) (h2 := 1591) (h3 := 105) (hi := 125) okD_mX11_cell (mv_Tok_of okT11) (by decide +kernel)
theorem okD_mX11_split : mv_dchk mX11_split = true := by decide +kernel
theorem ok_mX11_split : mv_mok sysY mX11_split := mv_mok_of (hc := 1596) (h2 := 1595) (h3 := 106) (hi := 125) okD_mX11_split (mv_Tok_of okT11) (by decide +kernel)
theorem okD_mX11_climb : mv_dchk mX11_climb = true := by decide +kernel
theorem ok_mX11_climb : mv_mok sysY mX11_climb := mv_mok_of (hc := 1600) (h2 := 1599) (h3 := 107) (hi := 125) okD_mX11_climb (mv_Tok_of okT11) (by decide +kernel)
theorem okD_mX11_put : mv_dchk mX11_put = true := by decide +kernel
theorem ok_mX11_put : mv_mok sysY mX11_put := mv_mok_of (hc := 1578) (h2 := 1577) (h3 := 103) (hi := 125) okD_mX11_put (mv_Tok_of okT11) (by decide +kernel)
theorem okD_mX11_find : mv_dchk mX11_find = true := by decide +kernel
theorem ok_mX11_find : mv_mok sysY mX11_find := mv_mok_of (hc := 1608) (h2 := 1607) (h3 := 109) (hi := 125) okD_mX11_find (mv_Tok_of okT11) (by decide +kernel)
theorem okD_mX11_without : mv_dchk mX11_without = true := by decide +kernel
theorem ok_mX11_without : mv_mok sysY mX11_without := mv_mok_of (hc := 1604) (h2 := 1603) (h3 := 108) (hi := 125) okD_mX11_without (mv_Tok_of okT11) (by decide +kernel)
theorem okD_mX11_union : mv_dchk mX11_union = true := by decide +kernel
theorem ok_mX11_union : mv_mok sysY mX11_union := mv_mok_of (hc := 1612) (h2 := 1611) (h3 := 110) (hi := 125) okD_mX11_union (mv_Tok_of okT11) (by decide +kernel)
theorem okD_mX11_isMade : mv_dchk mX11_isMade = true := by decide +kernel
theorem ok_mX11_isMade : mv_mok sysY mX11_isMade := mv_mok_of (hc := 1616) (h2 := 1615) (h3 := 111) (hi := 125) okD_mX11_isMade (mv_Tok_of okT11) (by decide +kernel)
theorem okD_mX11_sizeOf : mv_dchk mX11_sizeOf = true := by decide +kernel
theorem ok_mX11_sizeOf : mv_mok sysY mX11_sizeOf := mv_mok_of (hc := 1628) (h2 := 1627) (h3 := 114) (hi := 125) okD_mX11_sizeOf (mv_Tok_of okT11) (by decide +kernel)
theorem okD_mX11_above : mv_dchk mX11_above = true := by decide +kernel
theorem ok_mX11_above : mv_mok sysY mX11_above := mv_mok_of (hc := 1507) (h2 := 1506) (h3 := 86) (hi := 125) okD_mX11_above (mv_Tok_of okT11) (by decide +kernel)
theorem okD_mX11_floor : mv_dchk mX11_floor = true := by decide +kernel
theorem ok_mX11_floor : mv_mok sysY mX11_floor := mv_mok_of (hc := 1632) (h2 := 1631) (h3 := 115) (hi := 125) okD_mX11_floor (mv_Tok_of okT11) (by decide +kernel)
theorem okD_mX11_clear : mv_dchk mX11_clear = true := by decide +kernel
theorem ok_mX11_clear : mv_mok sysY mX11_clear := mv_mok_of (hc := 1371) (h2 := 1370) (h3 := 58) (hi := 125) okD_mX11_clear (mv_Tok_of okT11) (by decide +kernel)
theorem okD_mX11_clearOwn : mv_dchk mX11_clearOwn = true := by decide +kernel
theorem ok_mX11_clearOwn : mv_mok sysY mX11_clearOwn := mv_mok_of (hc := 1375) (h2 := 1374) (h3 := 59) (hi := 125) okD_mX11_clearOwn (mv_Tok_of okT11) (by decide +kernel)
theorem okD_mX11_start : mv_dchk mX11_start = true := by decide +kernel
theorem ok_mX11_start : mv_mok sysY mX11_start := mv_mok_of (hc := 1483) (h2 := 1481) (h3 := 1482) (hi := 125) okD_mX11_start (mv_Tok_of okT11) (by decide +kernel)
theorem okD_mX11_run : mv_dchk mX11_run = true := by decide +kernel
theorem ok_mX11_run : mv_mok sysY mX11_run := mv_mok_of (hc := 1487) (h2 := 1485) (h3 := 1486) (hi := 125) okD_mX11_run (mv_Tok_of okT11) (by decide +kernel)
theorem okD_mX11_interpret : mv_dchk mX11_interpret = true := by decide +kernel
theorem ok_mX11_interpret : mv_mok sysY mX11_interpret := mv_mok_of (hc := 1636) (h2 := 1634) (h3 := 1635) (hi := 125) okD_mX11_interpret (mv_Tok_of okT11) (by decide +kernel)
theorem okD_mX11_word : mv_dchk mX11_word = true := by decide +kernel
theorem ok_mX11_word : mv_mok sysY mX11_word := mv_mok_of (hc := 1499) (h2 := 1498) (h3 := 84) (hi := 125) okD_mX11_word (mv_Tok_of okT11) (by decide +kernel)
theorem okD_mX11_isStep : mv_dchk mX11_isStep = true := by decide +kernel
theorem ok_mX11_isStep : mv_mok sysY mX11_isStep := mv_mok_of (hc := 1495) (h2 := 1494) (h3 := 83) (hi := 125) okD_mX11_isStep (mv_Tok_of okT11) (by decide +kernel)
theorem okD_mX11_nextKey : mv_dchk mX11_nextKey = true := by decide +kernel
theorem ok_mX11_nextKey : mv_mok sysY mX11_nextKey := mv_mok_of (hc := 1503) (h2 := 1502) (h3 := 85) (hi := 125) okD_mX11_nextKey (mv_Tok_of okT11) (by decide +kernel)
theorem okD_mX11_go : mv_dchk mX11_go = true := by decide +kernel
theorem ok_mX11_go : mv_mok sysY mX11_go := mv_mok_of (hc := 1491) (h2 := 1490) (h3 := 82) (hi := 125) okD_mX11_go (mv_Tok_of okT11) (by decide +kernel)
theorem okD_mX11_push : mv_dchk mX11_push = true := by decide +kernel
theorem ok_mX11_push : mv_mok sysY mX11_push := mv_mok_of (hc := 1523) (h2 := 1522) (h3 := 90) (hi := 125) okD_mX11_push (mv_Tok_of okT11) (by decide +kernel)
theorem okD_mX11_pushMap : mv_dchk mX11_pushMap = true := by decide +kernel
theorem ok_mX11_pushMap : mv_mok sysY mX11_pushMap := mv_mok_of (hc := 1558) (h2 := 1557) (h3 := 98) (hi := 125) okD_mX11_pushMap (mv_Tok_of okT11) (by decide +kernel)
theorem okD_mX11_pop : mv_dchk mX11_pop = true := by decide +kernel
theorem ok_mX11_pop : mv_mok sysY mX11_pop := mv_mok_of (hc := 1531) (h2 := 1530) (h3 := 92) (hi := 125) okD_mX11_pop (mv_Tok_of okT11) (by decide +kernel)
theorem okD_mX11_variable : mv_dchk mX11_variable = true := by decide +kernel
theorem ok_mX11_variable : mv_mok sysY mX11_variable := mv_mok_of (hc := 1527) (h2 := 1526) (h3 := 91) (hi := 125) okD_mX11_variable (mv_Tok_of okT11) (by decide +kernel)
theorem okD_mX11_setVariable : mv_dchk mX11_setVariable = true := by decide +kernel
theorem ok_mX11_setVariable : mv_mok sysY mX11_setVariable := mv_mok_of (hc := 1535) (h2 := 1534) (h3 := 93) (hi := 125) okD_mX11_setVariable (mv_Tok_of okT11) (by decide +kernel)
theorem okD_mX11_perform : mv_dchk mX11_perform = true := by decide +kernel
theorem ok_mX11_perform : mv_mok sysY mX11_perform := mv_mok_of (hc := 1511) (h2 := 1510) (h3 := 87) (hi := 125) okD_mX11_perform (mv_Tok_of okT11) (by decide +kernel)
theorem okD_mX11_end : mv_dchk mX11_end = true := by decide +kernel
theorem ok_mX11_end : mv_mok sysY mX11_end := mv_mok_of (hc := 1519) (h2 := 1518) (h3 := 89) (hi := 125) okD_mX11_end (mv_Tok_of okT11) (by decide +kernel)
theorem okD_mX11_reckon : mv_dchk mX11_reckon = true := by decide +kernel
theorem ok_mX11_reckon : mv_mok sysY mX11_reckon := mv_mok_of (hc := 1515) (h2 := 1514) (h3 := 88) (hi := 125) okD_mX11_reckon (mv_Tok_of okT11) (by decide +kernel)
theorem okD_mX11_of : mv_dchk mX11_of = true := by decide +kernel
theorem ok_mX11_of : mv_mok sysY mX11_of := mv_mok_of (hc := 1538) (h2 := 1537) (h3 := 0) (hi := 125) okD_mX11_of (mv_Tok_of okT11) (by decide +kernel)
theorem okD_mX11_turn : mv_dchk mX11_turn = true := by decide +kernel
theorem ok_mX11_turn : mv_mok sysY mX11_turn := mv_mok_of (hc := 1542) (h2 := 1541) (h3 := 94) (hi := 125) okD_mX11_turn (mv_Tok_of okT11) (by decide +kernel)
theorem okD_mX11_call : mv_dchk mX11_call = true := by decide +kernel
theorem ok_mX11_call : mv_mok sysY mX11_call := mv_mok_of (hc := 1546) (h2 := 1545) (h3 := 95) (hi := 125) okD_mX11_call (mv_Tok_of okT11) (by decide +kernel)
theorem okD_mX11_mapOf : mv_dchk mX11_mapOf = true := by decide +kernel
theorem ok_mX11_mapOf : mv_mok sysY mX11_mapOf := mv_mok_of (hc := 1554) (h2 := 1553) (h3 := 97) (hi := 125) okD_mX11_mapOf (mv_Tok_of okT11) (by decide +kernel)
theorem okD_mX11_withMaps : mv_dchk mX11_withMaps = true := by decide +kernel
theorem ok_mX11_withMaps : mv_mok sysY mX11_withMaps := mv_mok_of (hc := 1550) (h2 := 1549) (h3 := 96) (hi := 125) okD_mX11_withMaps (mv_Tok_of okT11) (by decide +kernel)
theorem okD_mX11_make : mv_dchk mX11_make = true := by decide +kernel
theorem ok_mX11_make : mv_mok sysY mX11_make := mv_mok_of (hc := 1562) (h2 := 1561) (h3 := 99) (hi := 125) okD_mX11_make (mv_Tok_of okT11) (by decide +kernel)
theorem okD_mX11_look : mv_dchk mX11_look = true := by decide +kernel
theorem ok_mX11_look : mv_mok sysY mX11_look := mv_mok_of (hc := 1624) (h2 := 1623) (h3 := 113) (hi := 125) okD_mX11_look (mv_Tok_of okT11) (by decide +kernel)
theorem okD_mX11_goOver : mv_dchk mX11_goOver = true := by decide +kernel
theorem ok_mX11_goOver : mv_mok sysY mX11_goOver := mv_mok_of (hc := 1620) (h2 := 1619) (h3 := 112) (hi := 125) okD_mX11_goOver (mv_Tok_of okT11) (by decide +kernel)
theorem okD_mX11_outSize : mv_dchk mX11_outSize = true := by decide +kernel
theorem ok_mX11_outSize : mv_mok sysY mX11_outSize := mv_mok_of (hc := 1640) (h2 := 1638) (h3 := 1639) (hi := 125) okD_mX11_outSize (mv_Tok_of okT11) (by decide +kernel)
theorem okD_mX11_out : mv_dchk mX11_out = true := by decide +kernel
theorem ok_mX11_out : mv_mok sysY mX11_out := mv_mok_of (hc := 1644) (h2 := 1642) (h3 := 1643) (hi := 125) okD_mX11_out (mv_Tok_of okT11) (by decide +kernel)
theorem okD_mX11_variable_ : mv_dchk mX11_variable_ = true := by decide +kernel
theorem ok_mX11_variable_ : mv_mok sysY mX11_variable_ := mv_mok_of (hc := 1648) (h2 := 1646) (h3 := 1647) (hi := 125) okD_mX11_variable_ (mv_Tok_of okT11) (by decide +kernel)
theorem okD_mX11_map : mv_dchk mX11_map = true := by decide +kernel
theorem ok_mX11_map : mv_mok sysY mX11_map := mv_mok_of (hc := 1652) (h2 := 1650) (h3 := 1651) (hi := 125) okD_mX11_map (mv_Tok_of okT11) (by decide +kernel)
theorem okD_mX11_count : mv_dchk mX11_count = true := by decide +kernel
theorem ok_mX11_count : mv_mok sysY mX11_count := mv_mok_of (hc := 1656) (h2 := 1654) (h3 := 1655) (hi := 125) okD_mX11_count (mv_Tok_of okT11) (by decide +kernel)
