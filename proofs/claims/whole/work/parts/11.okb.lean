set_option maxRecDepth 100000 in
theorem oX11_ring : i_mok mX11_ring (996, 91, 994, 995, 0) = true := by decide +kernel
set_option maxRecDepth 100000 in
theorem oX11_note : i_mok mX11_note (1008, 91, 1006, 1007, 0) = true := by decide +kernel
set_option maxRecDepth 100000 in
theorem oX11_ruled : i_mok mX11_ruled (1012, 91, 1010, 1011, 0) = true := by decide +kernel
set_option maxRecDepth 100000 in
theorem oX11_look : i_mok mX11_look (1034, 91, 1032, 1033, 0) = true := by decide +kernel
set_option maxRecDepth 100000 in
theorem oX11_seed : i_mok mX11_seed (1048, 91, 1046, 1047, 0) = true := by decide +kernel
set_option maxRecDepth 100000 in
theorem oX11_years : i_mok mX11_years (1052, 91, 1050, 1051, 0) = true := by decide +kernel
set_option maxRecDepth 100000 in
theorem oX11_count : i_mok mX11_count (1066, 91, 1064, 1065, 0) = true := by decide +kernel
set_option maxRecDepth 100000 in
theorem oX11_image : i_mok mX11_image (1071, 91, 1069, 1070, 0) = true := by decide +kernel
set_option maxRecDepth 100000 in
theorem oX11_back : i_mok mX11_back (1081, 91, 1079, 1080, 0) = true := by decide +kernel
set_option maxRecDepth 100000 in
theorem oX11_isWithin : i_mok mX11_isWithin (849, 91, 848, 0, 1) = true := by decide +kernel
set_option maxRecDepth 100000 in
theorem oX12_init : i_mok mX12_init (1086, 101, 1085, 0, 0) = true := by decide +kernel
set_option maxRecDepth 100000 in
theorem oX12_in : i_mok mX12_in (1326, 101, 1325, 0, 1) = true := by decide +kernel
set_option maxRecDepth 100000 in
theorem oX12_bits : i_mok mX12_bits (1499, 101, 1498, 0, 1) = true := by decide +kernel
set_option maxRecDepth 100000 in
theorem oX12_has : i_mok mX12_has (1456, 101, 1455, 0, 1) = true := by decide +kernel
set_option maxRecDepth 100000 in
theorem oX12_isCourt : i_mok mX12_isCourt (1441, 101, 1440, 61, 0) = true := by decide +kernel
set_option maxRecDepth 100000 in
theorem oX12_isThing : i_mok mX12_isThing (1429, 101, 1428, 59, 0) = true := by decide +kernel
set_option maxRecDepth 100000 in
theorem oX12_isPerson : i_mok mX12_isPerson (1449, 101, 1448, 62, 0) = true := by decide +kernel
set_option maxRecDepth 100000 in
theorem oX12_feed : i_mok mX12_feed (1250, 101, 1248, 1249, 0) = true := by decide +kernel
set_option maxRecDepth 100000 in
theorem oX12_put : i_mok mX12_put (1254, 101, 1253, 30, 0) = true := by decide +kernel
set_option maxRecDepth 100000 in
theorem oX12_end : i_mok mX12_end (1258, 101, 1256, 1257, 0) = true := by decide +kernel
set_option maxRecDepth 100000 in
theorem oX12_wordOf : i_mok mX12_wordOf (1373, 101, 1372, 0, 1) = true := by decide +kernel
set_option maxRecDepth 100000 in
theorem oX12_fails : i_mok mX12_fails (1300, 101, 1299, 37, 0) = true := by decide +kernel
set_option maxRecDepth 100000 in
theorem oX12_sign : i_mok mX12_sign (1282, 101, 1281, 35, 0) = true := by decide +kernel
set_option maxRecDepth 100000 in
theorem oX12_blanks : i_mok mX12_blanks (1278, 101, 1277, 34, 0) = true := by decide +kernel
set_option maxRecDepth 100000 in
theorem oX12_isDigit : i_mok mX12_isDigit (1321, 101, 1320, 42, 0) = true := by decide +kernel
set_option maxRecDepth 100000 in
theorem oX12_stood : i_mok mX12_stood (1294, 101, 1293, 36, 0) = true := by decide +kernel
set_option maxRecDepth 100000 in
theorem oX12_takes : i_mok mX12_takes (1389, 101, 1388, 52, 0) = true := by decide +kernel
set_option maxRecDepth 100000 in
theorem oX12_entry : i_mok mX12_entry (1370, 101, 1369, 51, 0) = true := by decide +kernel
set_option maxRecDepth 100000 in
theorem oX12_isCounted : i_mok mX12_isCounted (1366, 101, 1365, 50, 0) = true := by decide +kernel
set_option maxRecDepth 100000 in
theorem oX12_digits : i_mok mX12_digits (1317, 101, 1316, 41, 0) = true := by decide +kernel
set_option maxRecDepth 100000 in
theorem oX12_value : i_mok mX12_value (1362, 101, 1361, 49, 0) = true := by decide +kernel
set_option maxRecDepth 100000 in
theorem oX12_term : i_mok mX12_term (1358, 101, 1357, 48, 0) = true := by decide +kernel
set_option maxRecDepth 100000 in
theorem oX12_sum : i_mok mX12_sum (1354, 101, 1353, 47, 0) = true := by decide +kernel
set_option maxRecDepth 100000 in
theorem oX12_compared : i_mok mX12_compared (1406, 101, 1405, 56, 0) = true := by decide +kernel
set_option maxRecDepth 100000 in
theorem oX12_top : i_mok mX12_top (1414, 101, 1413, 58, 0) = true := by decide +kernel
set_option maxRecDepth 100000 in
theorem oX12_opens : i_mok mX12_opens (1402, 101, 1401, 55, 0) = true := by decide +kernel
set_option maxRecDepth 100000 in
theorem oX12_answers : i_mok mX12_answers (1410, 101, 1409, 57, 0) = true := by decide +kernel
set_option maxRecDepth 100000 in
theorem oX12_fact : i_mok mX12_fact (1397, 101, 1396, 54, 0) = true := by decide +kernel
set_option maxRecDepth 100000 in
theorem oX12_test : i_mok mX12_test (1393, 101, 1392, 53, 0) = true := by decide +kernel
set_option maxRecDepth 100000 in
theorem oX12_amount : i_mok mX12_amount (1312, 101, 1311, 40, 0) = true := by decide +kernel
set_option maxRecDepth 100000 in
theorem oX12_courtWord : i_mok mX12_courtWord (1285, 101, 1284, 0, 1) = true := by decide +kernel
set_option maxRecDepth 100000 in
theorem oX12_quarrelPart : i_mok mX12_quarrelPart (1330, 101, 1329, 43, 0) = true := by decide +kernel
set_option maxRecDepth 100000 in
theorem oX12_courtPart : i_mok mX12_courtPart (1308, 101, 1307, 39, 0) = true := by decide +kernel
set_option maxRecDepth 100000 in
theorem oX12_isFull : i_mok mX12_isFull (1304, 101, 1303, 38, 0) = true := by decide +kernel
set_option maxRecDepth 100000 in
theorem oX12_courtClause : i_mok mX12_courtClause (1274, 101, 1273, 33, 0) = true := by decide +kernel
set_option maxRecDepth 100000 in
theorem oX12_copies : i_mok mX12_copies (1337, 101, 1336, 0, 1) = true := by decide +kernel
set_option maxRecDepth 100000 in
theorem oX12_goesOn : i_mok mX12_goesOn (1334, 101, 1333, 44, 0) = true := by decide +kernel
set_option maxRecDepth 100000 in
theorem oX12_starts : i_mok mX12_starts (1270, 101, 1269, 32, 0) = true := by decide +kernel
set_option maxRecDepth 100000 in
theorem oX12_readsAll : i_mok mX12_readsAll (1266, 101, 1265, 31, 0) = true := by decide +kernel
set_option maxRecDepth 100000 in
theorem oX12_begins : i_mok mX12_begins (1341, 101, 1340, 45, 0) = true := by decide +kernel
set_option maxRecDepth 100000 in
theorem oX12_court : i_mok mX12_court (1262, 101, 1260, 1261, 0) = true := by decide +kernel
set_option maxRecDepth 100000 in
theorem oX12_ruleClause : i_mok mX12_ruleClause (1349, 101, 1348, 46, 0) = true := by decide +kernel
set_option maxRecDepth 100000 in
theorem oX12_rule : i_mok mX12_rule (1345, 101, 1343, 1344, 0) = true := by decide +kernel
set_option maxRecDepth 100000 in
theorem oX12_force : i_mok mX12_force (1420, 101, 1418, 1419, 0) = true := by decide +kernel
set_option maxRecDepth 100000 in
theorem oX12_wanted : i_mok mX12_wanted (1503, 101, 1502, 72, 0) = true := by decide +kernel
set_option maxRecDepth 100000 in
theorem oX12_truth : i_mok mX12_truth (1513, 101, 1512, 0, 1) = true := by decide +kernel
set_option maxRecDepth 100000 in
theorem oX12_both : i_mok mX12_both (1510, 101, 1509, 0, 1) = true := by decide +kernel
set_option maxRecDepth 100000 in
theorem oX12_answer : i_mok mX12_answer (1507, 101, 1506, 73, 0) = true := by decide +kernel
set_option maxRecDepth 100000 in
theorem oX12_knightsOf : i_mok mX12_knightsOf (1433, 101, 1432, 60, 0) = true := by decide +kernel
set_option maxRecDepth 100000 in
theorem oX12_thing : i_mok mX12_thing (1425, 101, 1423, 1424, 0) = true := by decide +kernel
set_option maxRecDepth 100000 in
theorem oX12_usual : i_mok mX12_usual (1437, 101, 1435, 1436, 0) = true := by decide +kernel
set_option maxRecDepth 100000 in
theorem oX12_rankOf : i_mok mX12_rankOf (1453, 101, 1452, 63, 0) = true := by decide +kernel
set_option maxRecDepth 100000 in
theorem oX12_person : i_mok mX12_person (1445, 101, 1443, 1444, 0) = true := by decide +kernel
set_option maxRecDepth 100000 in
theorem oX12_knights : i_mok mX12_knights (1496, 101, 1495, 71, 0) = true := by decide +kernel
set_option maxRecDepth 100000 in
theorem oX12_sumOf : i_mok mX12_sumOf (1492, 101, 1491, 70, 0) = true := by decide +kernel
set_option maxRecDepth 100000 in
theorem oX12_holds : i_mok mX12_holds (1488, 101, 1487, 69, 0) = true := by decide +kernel
set_option maxRecDepth 100000 in
theorem oX12_upTo : i_mok mX12_upTo (1516, 101, 1515, 0, 1) = true := by decide +kernel
set_option maxRecDepth 100000 in
theorem oX12_goes : i_mok mX12_goes (1484, 101, 1483, 68, 0) = true := by decide +kernel
set_option maxRecDepth 100000 in
theorem oX12_goFor : i_mok mX12_goFor (1560, 101, 1559, 77, 0) = true := by decide +kernel
set_option maxRecDepth 100000 in
theorem oX12_moves : i_mok mX12_moves (1468, 101, 1467, 65, 0) = true := by decide +kernel
set_option maxRecDepth 100000 in
theorem oX12_movesRow : i_mok mX12_movesRow (1472, 101, 1471, 66, 0) = true := by decide +kernel
set_option maxRecDepth 100000 in
theorem oX12_movesAll : i_mok mX12_movesAll (1464, 101, 1463, 64, 0) = true := by decide +kernel
set_option maxRecDepth 100000 in
theorem oX12_keepsAct : i_mok mX12_keepsAct (1480, 101, 1479, 67, 0) = true := by decide +kernel
set_option maxRecDepth 100000 in
theorem oX12_undo : i_mok mX12_undo (1460, 101, 1458, 1459, 0) = true := by decide +kernel
set_option maxRecDepth 100000 in
theorem oX12_hour : i_mok mX12_hour (1476, 101, 1474, 1475, 0) = true := by decide +kernel
set_option maxRecDepth 100000 in
theorem oX12_deed : i_mok mX12_deed (1520, 101, 1518, 1519, 0) = true := by decide +kernel
set_option maxRecDepth 100000 in
theorem oX12_slight : i_mok mX12_slight (1525, 101, 1523, 1524, 0) = true := by decide +kernel
set_option maxRecDepth 100000 in
theorem oX12_tray : i_mok mX12_tray (1529, 101, 1527, 1528, 0) = true := by decide +kernel
set_option maxRecDepth 100000 in
theorem oX12_gloves : i_mok mX12_gloves (1533, 101, 1531, 1532, 0) = true := by decide +kernel
set_option maxRecDepth 100000 in
theorem oX12_strip : i_mok mX12_strip (1538, 101, 1536, 1537, 0) = true := by decide +kernel
set_option maxRecDepth 100000 in
theorem oX12_keepsAll : i_mok mX12_keepsAll (1548, 101, 1547, 74, 0) = true := by decide +kernel
set_option maxRecDepth 100000 in
theorem oX12_laysBack : i_mok mX12_laysBack (1564, 101, 1563, 78, 0) = true := by decide +kernel
set_option maxRecDepth 100000 in
theorem oX12_ahead : i_mok mX12_ahead (1542, 101, 1540, 1541, 0) = true := by decide +kernel
set_option maxRecDepth 100000 in
theorem oX12_dubbed : i_mok mX12_dubbed (1568, 101, 1566, 1567, 0) = true := by decide +kernel
set_option maxRecDepth 100000 in
theorem oX12_least : i_mok mX12_least (1572, 101, 1570, 1571, 0) = true := by decide +kernel
set_option maxRecDepth 100000 in
theorem oX12_isSpared : i_mok mX12_isSpared (1582, 101, 1581, 79, 0) = true := by decide +kernel
set_option maxRecDepth 100000 in
theorem oX12_spare : i_mok mX12_spare (1577, 101, 1575, 1576, 0) = true := by decide +kernel
set_option maxRecDepth 100000 in
theorem oX12_lay : i_mok mX12_lay (1586, 101, 1584, 1585, 0) = true := by decide +kernel
set_option maxRecDepth 100000 in
theorem oX12_held : i_mok mX12_held (1590, 101, 1588, 1589, 0) = true := by decide +kernel
set_option maxRecDepth 100000 in
theorem oX12_place : i_mok mX12_place (1594, 101, 1592, 1593, 0) = true := by decide +kernel
set_option maxRecDepth 100000 in
theorem oX12_quarrel : i_mok mX12_quarrel (1606, 101, 1605, 81, 0) = true := by decide +kernel
set_option maxRecDepth 100000 in
theorem oX12_isPeace : i_mok mX12_isPeace (1602, 101, 1601, 80, 0) = true := by decide +kernel
set_option maxRecDepth 100000 in
theorem oX12_stripped : i_mok mX12_stripped (1598, 101, 1596, 1597, 0) = true := by decide +kernel
set_option maxRecDepth 100000 in
theorem oX12_gold : i_mok mX12_gold (1610, 101, 1608, 1609, 0) = true := by decide +kernel
set_option maxRecDepth 100000 in
theorem oX12_laysDeeds : i_mok mX12_laysDeeds (1620, 101, 1619, 82, 0) = true := by decide +kernel
set_option maxRecDepth 100000 in
theorem oX12_isRest : i_mok mX12_isRest (1624, 101, 1623, 83, 0) = true := by decide +kernel
set_option maxRecDepth 100000 in
theorem oX12_rests : i_mok mX12_rests (1615, 101, 1613, 1614, 0) = true := by decide +kernel
set_option maxRecDepth 100000 in
theorem oX12_laysCourse : i_mok mX12_laysCourse (1632, 101, 1631, 84, 0) = true := by decide +kernel
set_option maxRecDepth 100000 in
theorem oX12_areAlike : i_mok mX12_areAlike (1636, 101, 1635, 85, 0) = true := by decide +kernel
set_option maxRecDepth 100000 in
theorem oX12_ring : i_mok mX12_ring (1628, 101, 1626, 1627, 0) = true := by decide +kernel
set_option maxRecDepth 100000 in
theorem oX12_note : i_mok mX12_note (1640, 101, 1638, 1639, 0) = true := by decide +kernel
set_option maxRecDepth 100000 in
theorem oX12_couldRule : i_mok mX12_couldRule (1648, 101, 1647, 86, 0) = true := by decide +kernel
set_option maxRecDepth 100000 in
theorem oX12_ruled : i_mok mX12_ruled (1644, 101, 1642, 1643, 0) = true := by decide +kernel
set_option maxRecDepth 100000 in
theorem oX12_mostAlike : i_mok mX12_mostAlike (1656, 101, 1655, 87, 0) = true := by decide +kernel
set_option maxRecDepth 100000 in
theorem oX12_look : i_mok mX12_look (1652, 101, 1650, 1651, 0) = true := by decide +kernel
set_option maxRecDepth 100000 in
theorem oX12_seed : i_mok mX12_seed (1660, 101, 1658, 1659, 0) = true := by decide +kernel
set_option maxRecDepth 100000 in
theorem oX12_draws : i_mok mX12_draws (1669, 101, 1668, 88, 0) = true := by decide +kernel
set_option maxRecDepth 100000 in
theorem oX12_allRank : i_mok mX12_allRank (1677, 101, 1676, 89, 0) = true := by decide +kernel
set_option maxRecDepth 100000 in
theorem oX12_years : i_mok mX12_years (1664, 101, 1662, 1663, 0) = true := by decide +kernel
set_option maxRecDepth 100000 in
theorem oX12_count : i_mok mX12_count (1681, 101, 1679, 1680, 0) = true := by decide +kernel
set_option maxRecDepth 100000 in
theorem oX12_carryRow : i_mok mX12_carryRow (1556, 101, 1555, 76, 0) = true := by decide +kernel
set_option maxRecDepth 100000 in
theorem oX12_carriesAll : i_mok mX12_carriesAll (1552, 101, 1551, 75, 0) = true := by decide +kernel
set_option maxRecDepth 100000 in
theorem oX12_image : i_mok mX12_image (1685, 101, 1683, 1684, 0) = true := by decide +kernel
set_option maxRecDepth 100000 in
theorem oX12_back : i_mok mX12_back (1690, 101, 1688, 1689, 0) = true := by decide +kernel
set_option maxRecDepth 100000 in
theorem oJ6_bitCount_0f7a4 : i_mok mJ6_bitCount_0f7a4 (818, 110, 817, 0, 1) = true := by decide +kernel
set_option maxRecDepth 100000 in
theorem oJ7_fill_53178 : i_mok mJ7_fill_53178 (518, 102, 517, 0, 1) = true := by decide +kernel
set_option maxRecDepth 100000 in
theorem oJ7_copyOf_59c91 : i_mok mJ7_copyOf_59c91 (720, 102, 719, 0, 1) = true := by decide +kernel
