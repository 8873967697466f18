set_option maxRecDepth 100000 in
theorem ok_X11_isTray : OkM (mQ 160) := okm_of (by decide +kernel) (need_ok (own := RX11) [] (by decide +kernel) (by decide +kernel)) (by decide +kernel)
set_option maxRecDepth 100000 in
theorem ok_X11_isSlice : OkM (mQ 161) := okm_of (by decide +kernel) (need_ok (own := RX11) [] (by decide +kernel) (by decide +kernel)) (by decide +kernel)
set_option maxRecDepth 100000 in
theorem ok_X11_isShare : OkM (mQ 162) := okm_of (by decide +kernel) (need_ok (own := RX11) [] (by decide +kernel) (by decide +kernel)) (by decide +kernel)
set_option maxRecDepth 100000 in
theorem ok_X11_isRowSize : OkM (mQ 163) := okm_of (by decide +kernel) (need_ok (own := RX11) [] (by decide +kernel) (by decide +kernel)) (by decide +kernel)
set_option maxRecDepth 100000 in
theorem ok_X11_isPlateSet : OkM (mQ 164) := okm_of (by decide +kernel) (need_ok (own := RX11) [1170, 872, 873, 141] (by decide +kernel) (by decide +kernel)) (by decide +kernel)
set_option maxRecDepth 100000 in
theorem ok_X11_bit : OkM (mQ 165) := okm_of (by decide +kernel) (need_ok (own := RX11) [] (by decide +kernel) (by decide +kernel)) (by decide +kernel)
set_option maxRecDepth 100000 in
theorem ok_X11_isIn : OkM (mQ 166) := okm_of (by decide +kernel) (need_ok (own := RX11) [] (by decide +kernel) (by decide +kernel)) (by decide +kernel)
set_option maxRecDepth 100000 in
theorem ok_X11_crumbs : OkM (mQ 167) := okm_of (by decide +kernel) (need_ok (own := RX11) [889] (by decide +kernel) (by decide +kernel)) (by decide +kernel)
set_option maxRecDepth 100000 in
theorem ok_X11_commonDivisor : OkM (mQ 168) := okm_of (by decide +kernel) (need_ok (own := RX11) [] (by decide +kernel) (by decide +kernel)) (by decide +kernel)
set_option maxRecDepth 100000 in
theorem ok_X11_power : OkM (mQ 169) := okm_of (by decide +kernel) (need_ok (own := RX11) [] (by decide +kernel) (by decide +kernel)) (by decide +kernel)
set_option maxRecDepth 100000 in
theorem ok_X11_choices : OkM (mQ 170) := okm_of (by decide +kernel) (need_ok (own := RX11) [] (by decide +kernel) (by decide +kernel)) (by decide +kernel)
set_option maxRecDepth 100000 in
theorem ok_X11_greedyNumber : OkM (mQ 171) := okm_of (by decide +kernel) (need_ok (own := RX11) [917, 918, 121] (by decide +kernel) (by decide +kernel)) (by decide +kernel)
set_option maxRecDepth 100000 in
theorem ok_X12_init : OkM (mQ 172) := okm_of (by decide +kernel) (need_ok (own := RX12) [1309, 148, 1318, 291, 1319, 291, 1320, 261, 1321, 260, 1322, 1325, 1326, 291, 1335, 291, 1336, 261, 1337, 291, 1343, 291, 1344, 291, 1345, 291, 1350, 291, 1351, 291, 1352, 261, 1353, 291, 1354, 1320, 1310, 1312, 38, 137] (by decide +kernel) (by decide +kernel)) (by decide +kernel)
set_option maxRecDepth 100000 in
theorem ok_X12_status : OkM (mQ 173) := okm_of (by decide +kernel) (need_ok (own := RX12) [1316, 1315] (by decide +kernel) (by decide +kernel)) (by decide +kernel)
set_option maxRecDepth 100000 in
theorem ok_X12_top : OkM (mQ 174) := okm_of (by decide +kernel) (need_ok (own := RX12) [1316, 1317] (by decide +kernel) (by decide +kernel)) (by decide +kernel)
set_option maxRecDepth 100000 in
theorem ok_X12_bottom : OkM (mQ 175) := okm_of (by decide +kernel) (need_ok (own := RX12) [1316, 1318] (by decide +kernel) (by decide +kernel)) (by decide +kernel)
set_option maxRecDepth 100000 in
theorem ok_X12_refuse : OkM (mQ 176) := okm_of (by decide +kernel) (need_ok (own := RX12) [1315] (by decide +kernel) (by decide +kernel)) (by decide +kernel)
set_option maxRecDepth 100000 in
theorem ok_X12_no : OkM (mQ 177) := okm_of (by decide +kernel) (need_ok (own := RX12) [1315] (by decide +kernel) (by decide +kernel)) (by decide +kernel)
set_option maxRecDepth 100000 in
theorem ok_X12_isIn : OkM (mQ 178) := okm_of (by decide +kernel) (need_ok (own := RX12) [] (by decide +kernel) (by decide +kernel)) (by decide +kernel)
set_option maxRecDepth 100000 in
theorem ok_X12_fraction : OkM (mQ 179) := okm_of (by decide +kernel) (need_ok (own := RX12) [1764, 915, 140, 1317, 1318] (by decide +kernel) (by decide +kernel)) (by decide +kernel)
set_option maxRecDepth 100000 in
theorem ok_X12_trims : OkM (mQ 180) := okm_of (by decide +kernel) (need_ok (own := RX12) [] (by decide +kernel) (by decide +kernel)) (by decide +kernel)
set_option maxRecDepth 100000 in
theorem ok_X12_tray : OkM (mQ 181) := okm_of (by decide +kernel) (need_ok (own := RX12) [1316, 1315, 1479, 1481, 39, 137, 1479, 1481, 39, 137, 1479, 1481, 39, 137, 1319, 1320, 1321] (by decide +kernel) (by decide +kernel)) (by decide +kernel)
set_option maxRecDepth 100000 in
theorem ok_X12_trayed : OkM (mQ 182) := okm_of (by decide +kernel) (need_ok (own := RX12) [1320] (by decide +kernel) (by decide +kernel)) (by decide +kernel)
set_option maxRecDepth 100000 in
theorem ok_X12_placed : OkM (mQ 183) := okm_of (by decide +kernel) (need_ok (own := RX12) [1491, 1493, 41, 137, 1320] (by decide +kernel) (by decide +kernel)) (by decide +kernel)
set_option maxRecDepth 100000 in
theorem ok_X12_write : OkM (mQ 184) := okm_of (by decide +kernel) (need_ok (own := RX12) [1316, 1487, 1489, 40, 137, 1315, 1315, 1321, 1319, 1495, 1496, 137] (by decide +kernel) (by decide +kernel)) (by decide +kernel)
set_option maxRecDepth 100000 in
theorem ok_X12_read : OkM (mQ 185) := okm_of (by decide +kernel) (need_ok (own := RX12) [1316, 1487, 1489, 40, 137, 1315, 1315, 1502, 1321] (by decide +kernel) (by decide +kernel)) (by decide +kernel)
set_option maxRecDepth 100000 in
theorem ok_X12_pour : OkM (mQ 186) := okm_of (by decide +kernel) (need_ok (own := RX12) [1316, 1315, 1479, 1481, 39, 137, 1320, 1320, 1479, 1481, 39, 137, 1319, 1319, 1479, 1481, 39, 137, 1479, 1481, 39, 137, 1320, 1320, 1479, 1481, 39, 137, 1321, 1321] (by decide +kernel) (by decide +kernel)) (by decide +kernel)
set_option maxRecDepth 100000 in
theorem ok_X12_numberOf : OkM (mQ 187) := okm_of (by decide +kernel) (need_ok (own := RX12) [1321] (by decide +kernel) (by decide +kernel)) (by decide +kernel)
set_option maxRecDepth 100000 in
theorem ok_X12_isTray : OkM (mQ 188) := okm_of (by decide +kernel) (need_ok (own := RX12) [1781, 1586, 1587, 137] (by decide +kernel) (by decide +kernel)) (by decide +kernel)
set_option maxRecDepth 100000 in
theorem ok_X12_isOf : OkM (mQ 189) := okm_of (by decide +kernel) (need_ok (own := RX12) [] (by decide +kernel) (by decide +kernel)) (by decide +kernel)
set_option maxRecDepth 100000 in
theorem ok_X12_sizeOf : OkM (mQ 190) := okm_of (by decide +kernel) (need_ok (own := RX12) [1597, 1598, 137] (by decide +kernel) (by decide +kernel)) (by decide +kernel)
set_option maxRecDepth 100000 in
theorem ok_X12_look2 : OkM (mQ 191) := okm_of (by decide +kernel) (need_ok (own := RX12) [1324, 1322] (by decide +kernel) (by decide +kernel)) (by decide +kernel)
set_option maxRecDepth 100000 in
theorem ok_X12_isLetter : OkM (mQ 192) := okm_of (by decide +kernel) (need_ok (own := RX12) [] (by decide +kernel) (by decide +kernel)) (by decide +kernel)
set_option maxRecDepth 100000 in
theorem ok_X12_isDigit : OkM (mQ 193) := okm_of (by decide +kernel) (need_ok (own := RX12) [] (by decide +kernel) (by decide +kernel)) (by decide +kernel)
set_option maxRecDepth 100000 in
theorem ok_X12_isSignByte : OkM (mQ 194) := okm_of (by decide +kernel) (need_ok (own := RX12) [] (by decide +kernel) (by decide +kernel)) (by decide +kernel)
set_option maxRecDepth 100000 in
theorem ok_X12_advance : OkM (mQ 195) := okm_of (by decide +kernel) (need_ok (own := RX12) [1331, 1330, 1330, 1324, 1330, 1531, 1533, 45, 137, 1330, 1531, 1533, 45, 137, 1330, 1330, 1330, 1331, 1330, 1324, 1329, 1330, 1531, 1533, 45, 137, 1535, 1536, 137, 1329, 1334, 1331, 1531, 1533, 45, 137, 1535, 1536, 137, 1331, 1330, 1334, 1538, 1331, 1531, 1533, 45, 137, 1539, 1502, 1334, 1331, 1331, 1331, 1330, 1333, 1540, 1541, 137, 1332, 1331, 1531, 1533, 45, 137, 1540, 1541, 137, 1331, 1330, 1332, 1331, 1531, 1533, 45, 137, 1332, 1331, 1331, 1331, 1330, 1329, 1330, 1331, 1332, 1543, 1545, 46, 137, 1329] (by decide +kernel) (by decide +kernel)) (by decide +kernel)
set_option maxRecDepth 100000 in
theorem ok_X12_isSign : OkM (mQ 196) := okm_of (by decide +kernel) (need_ok (own := RX12) [1329, 1332] (by decide +kernel) (by decide +kernel)) (by decide +kernel)
set_option maxRecDepth 100000 in
theorem ok_X12_spelled : OkM (mQ 197) := okm_of (by decide +kernel) (need_ok (own := RX12) [1539, 1538, 1539, 1538, 1539, 1538, 1539, 1538, 1539] (by decide +kernel) (by decide +kernel)) (by decide +kernel)
set_option maxRecDepth 100000 in
theorem ok_X12_isWord : OkM (mQ 198) := okm_of (by decide +kernel) (need_ok (own := RX12) [1329, 1334] (by decide +kernel) (by decide +kernel)) (by decide +kernel)
set_option maxRecDepth 100000 in
theorem ok_X12_isOdds : OkM (mQ 199) := okm_of (by decide +kernel) (need_ok (own := RX12) [1555, 1556, 137, 1558, 1560, 49, 137] (by decide +kernel) (by decide +kernel)) (by decide +kernel)
set_option maxRecDepth 100000 in
theorem ok_X12_isStore : OkM (mQ 200) := okm_of (by decide +kernel) (need_ok (own := RX12) [1555, 1556, 137, 1558, 1560, 49, 137] (by decide +kernel) (by decide +kernel)) (by decide +kernel)
set_option maxRecDepth 100000 in
theorem ok_X12_isTimes : OkM (mQ 201) := okm_of (by decide +kernel) (need_ok (own := RX12) [1555, 1556, 137, 1558, 1560, 49, 137] (by decide +kernel) (by decide +kernel)) (by decide +kernel)
set_option maxRecDepth 100000 in
theorem ok_X12_isMan : OkM (mQ 202) := okm_of (by decide +kernel) (need_ok (own := RX12) [1555, 1556, 137, 1558, 1560, 49, 137] (by decide +kernel) (by decide +kernel)) (by decide +kernel)
set_option maxRecDepth 100000 in
theorem ok_X12_isDue : OkM (mQ 203) := okm_of (by decide +kernel) (need_ok (own := RX12) [1555, 1556, 137, 1558, 1560, 49, 137] (by decide +kernel) (by decide +kernel)) (by decide +kernel)
set_option maxRecDepth 100000 in
theorem ok_X12_isBy : OkM (mQ 204) := okm_of (by decide +kernel) (need_ok (own := RX12) [1555, 1556, 137, 1558, 1560, 49, 137] (by decide +kernel) (by decide +kernel)) (by decide +kernel)
set_option maxRecDepth 100000 in
theorem ok_X12_isHas : OkM (mQ 205) := okm_of (by decide +kernel) (need_ok (own := RX12) [1555, 1556, 137, 1558, 1560, 49, 137] (by decide +kernel) (by decide +kernel)) (by decide +kernel)
set_option maxRecDepth 100000 in
theorem ok_X12_isKnown : OkM (mQ 206) := okm_of (by decide +kernel) (need_ok (own := RX12) [1555, 1556, 137, 1558, 1560, 49, 137] (by decide +kernel) (by decide +kernel)) (by decide +kernel)
set_option maxRecDepth 100000 in
theorem ok_X12_stepWord : OkM (mQ 207) := okm_of (by decide +kernel) (need_ok (own := RX12) [1555, 1556, 137, 1558, 1560, 49, 137, 1555, 1556, 137, 1558, 1560, 49, 137, 1555, 1556, 137, 1558, 1560, 49, 137, 1555, 1556, 137, 1558, 1560, 49, 137, 1555, 1556, 137, 1558, 1560, 49, 137, 1555, 1556, 137, 1558, 1560, 49, 137, 1555, 1556, 137, 1558, 1560, 49, 137, 1555, 1556, 137, 1558, 1560, 49, 137, 1555, 1556, 137, 1558, 1560, 49, 137] (by decide +kernel) (by decide +kernel)) (by decide +kernel)
set_option maxRecDepth 100000 in
theorem ok_X12_testWord : OkM (mQ 208) := okm_of (by decide +kernel) (need_ok (own := RX12) [1555, 1556, 137, 1558, 1560, 49, 137, 1555, 1556, 137, 1558, 1560, 49, 137, 1555, 1556, 137, 1558, 1560, 49, 137] (by decide +kernel) (by decide +kernel)) (by decide +kernel)
set_option maxRecDepth 100000 in
theorem ok_X12_isEnd : OkM (mQ 209) := okm_of (by decide +kernel) (need_ok (own := RX12) [1555, 1556, 137, 1558, 1560, 49, 137] (by decide +kernel) (by decide +kernel)) (by decide +kernel)
set_option maxRecDepth 100000 in
theorem ok_X12_isKept : OkM (mQ 210) := okm_of (by decide +kernel) (need_ok (own := RX12) [1551, 1553, 48, 137, 1589, 1591, 56, 137, 1600, 1602, 58, 137, 1608, 1610, 60, 137, 1624, 1626, 64, 137, 1628, 1630, 65, 137, 1632, 1634, 66, 137, 1636, 1638, 67, 137, 1640, 1642, 68, 137, 1644, 1646, 69, 137, 1648, 1650, 70, 137] (by decide +kernel) (by decide +kernel)) (by decide +kernel)
set_option maxRecDepth 100000 in
theorem ok_X12_isName : OkM (mQ 211) := okm_of (by decide +kernel) (need_ok (own := RX12) [1329, 1333, 1620, 1622, 63, 137] (by decide +kernel) (by decide +kernel)) (by decide +kernel)
set_option maxRecDepth 100000 in
theorem ok_X12_fail : OkM (mQ 212) := okm_of (by decide +kernel) (need_ok (own := RX12) [1327, 1327, 1328] (by decide +kernel) (by decide +kernel)) (by decide +kernel)
set_option maxRecDepth 100000 in
theorem ok_X12_amiss : OkM (mQ 213) := okm_of (by decide +kernel) (need_ok (own := RX12) [1329, 1330, 1566, 1568, 51, 137] (by decide +kernel) (by decide +kernel)) (by decide +kernel)
set_option maxRecDepth 100000 in
theorem ok_X12_must : OkM (mQ 214) := okm_of (by decide +kernel) (need_ok (own := RX12) [1327, 1527, 1529, 44, 137, 1574, 1576, 53, 137] (by decide +kernel) (by decide +kernel)) (by decide +kernel)
set_option maxRecDepth 100000 in
theorem ok_X12_mayBe : OkM (mQ 215) := okm_of (by decide +kernel) (need_ok (own := RX12) [1327, 1329, 1574, 1576, 53, 137, 1327, 1332, 1586, 1587, 137, 1330, 1566, 1568, 51, 137] (by decide +kernel) (by decide +kernel)) (by decide +kernel)
set_option maxRecDepth 100000 in
theorem ok_X12_count : OkM (mQ 216) := okm_of (by decide +kernel) (need_ok (own := RX12) [1582, 1584, 55, 137, 1327, 1332, 1527, 1529, 44, 137] (by decide +kernel) (by decide +kernel)) (by decide +kernel)
set_option maxRecDepth 100000 in
theorem ok_X12_behindWord : OkM (mQ 217) := okm_of (by decide +kernel) (need_ok (own := RX12) [1570, 1572, 52, 137, 1578, 1580, 54, 137] (by decide +kernel) (by decide +kernel)) (by decide +kernel)
set_option maxRecDepth 100000 in
theorem ok_X12_perhaps : OkM (mQ 218) := okm_of (by decide +kernel) (need_ok (own := RX12) [1327, 1527, 1529, 44, 137] (by decide +kernel) (by decide +kernel)) (by decide +kernel)
set_option maxRecDepth 100000 in
theorem ok_X12_readSlices : OkM (mQ 219) := okm_of (by decide +kernel) (need_ok (own := RX12) [1327, 1329, 1582, 1584, 55, 137, 1327, 1332, 1597, 1598, 137, 1330, 1566, 1568, 51, 137, 1578, 1580, 54, 137, 1327] (by decide +kernel) (by decide +kernel)) (by decide +kernel)
set_option maxRecDepth 100000 in
theorem ok_X12_feed : OkM (mQ 220) := okm_of (by decide +kernel) (need_ok (own := RX12) [1316, 1323, 1511, 1513, 42, 137, 1511, 1513, 42, 137, 1511, 1513, 42, 137, 1511, 1513, 42, 137, 1511, 1513, 42, 137, 1323] (by decide +kernel) (by decide +kernel)) (by decide +kernel)
set_option maxRecDepth 100000 in
theorem ok_X12_lay : OkM (mQ 221) := okm_of (by decide +kernel) (need_ok (own := RX12) [1322, 1323, 1323, 1323] (by decide +kernel) (by decide +kernel)) (by decide +kernel)
set_option maxRecDepth 100000 in
theorem ok_X12_starts : OkM (mQ 222) := okm_of (by decide +kernel) (need_ok (own := RX12) [1323, 1479, 1481, 39, 137, 1324, 1323, 1331, 1327, 1527, 1529, 44, 137] (by decide +kernel) (by decide +kernel)) (by decide +kernel)
set_option maxRecDepth 100000 in
theorem ok_X12_isWell : OkM (mQ 223) := okm_of (by decide +kernel) (need_ok (own := RX12) [1327, 1325, 1327, 1328, 1326, 1327, 1479, 1481, 39, 137] (by decide +kernel) (by decide +kernel)) (by decide +kernel)
set_option maxRecDepth 100000 in
theorem ok_X12_fault : OkM (mQ 224) := okm_of (by decide +kernel) (need_ok (own := RX12) [1316, 1325, 1326] (by decide +kernel) (by decide +kernel)) (by decide +kernel)
set_option maxRecDepth 100000 in
theorem ok_X12_empties : OkM (mQ 225) := okm_of (by decide +kernel) (need_ok (own := RX12) [1335, 1335, 1335, 1314] (by decide +kernel) (by decide +kernel)) (by decide +kernel)
set_option maxRecDepth 100000 in
theorem ok_X12_named : OkM (mQ 226) := okm_of (by decide +kernel) (need_ok (own := RX12) [1335, 1337, 1334] (by decide +kernel) (by decide +kernel)) (by decide +kernel)
set_option maxRecDepth 100000 in
theorem ok_X12_readTold : OkM (mQ 227) := okm_of (by decide +kernel) (need_ok (own := RX12) [1327, 1616, 1618, 62, 137, 1574, 1576, 53, 137, 1327, 1652, 1654, 71, 137, 1330, 1566, 1568, 51, 137, 1570, 1572, 52, 137, 1696, 700, 140] (by decide +kernel) (by decide +kernel)) (by decide +kernel)
set_option maxRecDepth 100000 in
theorem ok_X12_readOdds : OkM (mQ 228) := okm_of (by decide +kernel) (need_ok (own := RX12) [1339, 1330, 1566, 1568, 51, 137, 1339, 1570, 1572, 52, 137, 1578, 1580, 54, 137, 1327, 1335] (by decide +kernel) (by decide +kernel)) (by decide +kernel)
set_option maxRecDepth 100000 in
theorem ok_X12_readKnown : OkM (mQ 229) := okm_of (by decide +kernel) (need_ok (own := RX12) [1340, 1330, 1566, 1568, 51, 137, 1340, 1570, 1572, 52, 137, 1660, 1662, 73, 137, 1327, 1335] (by decide +kernel) (by decide +kernel)) (by decide +kernel)
set_option maxRecDepth 100000 in
theorem ok_X12_readStore : OkM (mQ 230) := okm_of (by decide +kernel) (need_ok (own := RX12) [1570, 1572, 52, 137, 1582, 1584, 55, 137, 1327, 1341, 1332, 1597, 1598, 137, 1330, 1566, 1568, 51, 137, 1578, 1580, 54, 137, 1600, 1602, 58, 137, 1604, 1606, 59, 137, 1578, 1580, 54, 137, 1327, 1341, 1341, 1335] (by decide +kernel) (by decide +kernel)) (by decide +kernel)
set_option maxRecDepth 100000 in
theorem ok_X12_readMan : OkM (mQ 231) := okm_of (by decide +kernel) (need_ok (own := RX12) [1335, 1330, 1566, 1568, 51, 137, 1570, 1572, 52, 137, 1327, 1616, 1618, 62, 137, 1574, 1576, 53, 137, 1327, 1652, 1654, 71, 137, 1330, 1566, 1568, 51, 137, 1327, 1337, 1334, 1570, 1572, 52, 137, 1624, 1626, 64, 137, 1656, 1658, 72, 137, 1628, 1630, 65, 137, 1656, 1658, 72, 137, 1632, 1634, 66, 137, 1604, 1606, 59, 137, 1660, 1662, 73, 137, 1327, 1335, 1335, 1335, 1335] (by decide +kernel) (by decide +kernel)) (by decide +kernel)
set_option maxRecDepth 100000 in
theorem ok_X12_readPart : OkM (mQ 232) := okm_of (by decide +kernel) (need_ok (own := RX12) [1551, 1553, 48, 137, 1562, 1564, 50, 137, 1589, 1591, 56, 137, 1593, 1595, 57, 137, 1608, 1610, 60, 137, 1612, 1614, 61, 137, 1636, 1638, 67, 137, 1664, 1666, 74, 137, 1574, 1576, 53, 137] (by decide +kernel) (by decide +kernel)) (by decide +kernel)
set_option maxRecDepth 100000 in
theorem ok_X12_bakery : OkM (mQ 233) := okm_of (by decide +kernel) (need_ok (own := RX12) [1316, 1315, 1523, 1525, 43, 137, 1310, 1312, 38, 137, 1339, 1340, 1341, 1327, 1329, 1547, 1549, 47, 137, 1668, 1670, 75, 137, 1570, 1572, 52, 137, 1672, 1674, 76, 137, 1676, 1678, 77, 137, 1335] (by decide +kernel) (by decide +kernel)) (by decide +kernel)
set_option maxRecDepth 100000 in
theorem ok_X12_readTest : OkM (mQ 234) := okm_of (by decide +kernel) (need_ok (own := RX12) [1644, 1646, 69, 137, 1570, 1572, 52, 137, 1335, 1335, 1578, 1580, 54, 137, 1692, 1694, 80, 137, 1327, 1335, 1329, 1332, 1668, 1670, 75, 137, 1668, 1670, 75, 137, 1668, 1670, 75, 137, 1570, 1572, 52, 137, 1335, 1578, 1580, 54, 137] (by decide +kernel) (by decide +kernel)) (by decide +kernel)
set_option maxRecDepth 100000 in
theorem ok_X12_readRest : OkM (mQ 235) := okm_of (by decide +kernel) (need_ok (own := RX12) [1335, 1335, 1578, 1580, 54, 137, 1335, 1578, 1580, 54, 137, 1335, 1578, 1580, 54, 137, 1335, 1692, 1694, 80, 137, 1335, 1578, 1580, 54, 137, 1335, 1578, 1580, 54, 137, 1335, 1578, 1580, 54, 137, 1697, 1699, 81, 137] (by decide +kernel) (by decide +kernel)) (by decide +kernel)
set_option maxRecDepth 100000 in
theorem ok_X12_readStep : OkM (mQ 236) := okm_of (by decide +kernel) (need_ok (own := RX12) [1640, 1642, 68, 137, 1574, 1576, 53, 137, 1327, 1342, 1330, 1566, 1568, 51, 137, 1327, 1330, 1566, 1568, 51, 137, 1327, 1342, 1342, 1342, 1527, 1529, 44, 137, 1335, 1688, 1690, 79, 137, 1668, 1670, 75, 137, 1570, 1572, 52, 137, 1327, 1648, 1650, 70, 137, 1684, 1686, 78, 137, 1648, 1650, 70, 137, 1570, 1572, 52, 137, 1668, 1670, 75, 137, 1570, 1572, 52, 137, 1335, 1342] (by decide +kernel) (by decide +kernel)) (by decide +kernel)
set_option maxRecDepth 100000 in
theorem ok_X12_days : OkM (mQ 237) := okm_of (by decide +kernel) (need_ok (own := RX12) [1316, 1315, 1523, 1525, 43, 137, 1342, 1327, 1329, 1684, 1686, 78, 137, 1672, 1674, 76, 137, 1335, 1335, 1342, 1342, 1335, 1335, 1342] (by decide +kernel) (by decide +kernel)) (by decide +kernel)
set_option maxRecDepth 100000 in
theorem ok_X12_isSlice : OkM (mQ 238) := okm_of (by decide +kernel) (need_ok (own := RX12) [1746, 1586, 1587, 137] (by decide +kernel) (by decide +kernel)) (by decide +kernel)
set_option maxRecDepth 100000 in
theorem ok_X12_isManAt : OkM (mQ 239) := okm_of (by decide +kernel) (need_ok (own := RX12) [1335, 1586, 1587, 137] (by decide +kernel) (by decide +kernel)) (by decide +kernel)
