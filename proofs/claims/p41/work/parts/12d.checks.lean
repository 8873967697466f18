set_option maxRecDepth 100000 in
theorem gp_3 : (ck9 RX12 (mQ 240) [1732] && (ck9 RX12 (mQ 241) [1732] && (ck9 RX12 (mQ 242) [1811, 1586, 1587, 137, 1746, 1586, 1587, 137] && (ck9 RX12 (mQ 243) [1597, 1598, 137, 1736, 1737, 137] && (ck9 RX12 (mQ 244) [1335, 1335, 1729, 1730, 137, 1335, 1733, 1734, 137] && (ck9 RX12 (mQ 245) [1335] && (ck9 RX12 (mQ 246) [1335] && (ck9 RX12 (mQ 247) [1335, 1725, 1727, 86, 137] && (ck9 RX12 (mQ 248) [1316, 1315, 1705, 1586, 1587, 137, 1706, 1708, 82, 137, 1335, 1710, 1712, 83, 137, 1714, 1716, 84, 137, 1718, 1719, 137, 1335, 1335, 1335, 1721, 1723, 85, 137] && (ck9 RX12 (mQ 249) [1316, 1315, 1743, 1744, 137, 1335, 1706, 1708, 82, 137] && (ck9 RX12 (mQ 250) [1316, 1315, 1751, 1753, 87, 137, 1706, 1708, 82, 137, 1755, 1586, 1587, 137, 1335, 1706, 1708, 82, 137] && (ck9 RX12 (mQ 251) [1316, 1315, 1751, 1753, 87, 137, 1335, 1733, 1734, 137, 1732, 1760, 1762, 88, 137, 1479, 1481, 39, 137] && (ck9 RX12 (mQ 252) [1316, 1315, 1751, 1753, 87, 137, 1725, 1727, 86, 137, 1732, 1760, 1762, 88, 137, 1479, 1481, 39, 137] && (ck9 RX12 (mQ 253) [1316, 1315, 1335, 1736, 1737, 137, 1732, 1760, 1762, 88, 137] && (ck9 RX12 (mQ 254) [1316, 1315, 1777, 1779, 89, 137, 1706, 1708, 82, 137, 1320, 1706, 1708, 82, 137, 1320, 1706, 1708, 82, 137, 1746, 1586, 1587, 137, 1706, 1708, 82, 137, 1335, 1782, 1484, 1485, 137] && (ck9 RX12 (mQ 255) [1335] && (ck9 RX12 (mQ 256) [1335, 1335] && (ck9 RX12 (mQ 257) [1335, 1736, 1737, 137, 1736, 1737, 137, 1736, 1737, 137, 1787, 1789, 90, 137, 1335, 1335, 1335, 1335] && (ck9 RX12 (mQ 258) [1316, 1315, 1743, 1744, 137, 1743, 1744, 137, 1743, 1744, 137, 1706, 1708, 82, 137, 1787, 1789, 90, 137, 1706, 1708, 82, 137, 1791, 1793, 91, 137, 1710, 1712, 83, 137, 1706, 1708, 82, 137] && (ck9 RX12 (mQ 259) [1335, 1799, 1801, 92, 137, 1335, 1335, 1335] && (ck9 RX12 (mQ 260) [1316, 1315, 1743, 1744, 137, 1706, 1708, 82, 137, 1755, 1746, 1586, 1587, 137, 1706, 1708, 82, 137, 1799, 1801, 92, 137, 1706, 1708, 82, 137, 1803, 1805, 93, 137, 1710, 1712, 83, 137, 1706, 1708, 82, 137] && (ck9 RX12 (mQ 261) [1335, 1335] && (ck9 RX12 (mQ 262) [1316, 1315, 1811, 1586, 1587, 137, 1706, 1708, 82, 137, 1812, 1814, 94, 137, 1335, 1706, 1708, 82, 137] && (ck9 RX12 (mQ 263) [1335, 1335, 1597, 1598, 137, 1335, 1335] && (ck9 RX12 (mQ 264) [1316, 1315, 1751, 1753, 87, 137, 1743, 1744, 137, 1706, 1708, 82, 137, 1820, 1822, 95, 137, 1335, 1718, 1719, 137, 1706, 1708, 82, 137] && (ck9 RX12 (mQ 265) [1335, 1335, 1597, 1598, 137, 1335, 1335] && (ck9 RX12 (mQ 266) [1316, 1315, 1751, 1753, 87, 137, 1743, 1744, 137, 1706, 1708, 82, 137, 1335, 1706, 1708, 82, 137, 1828, 1830, 96, 137, 1335, 1718, 1719, 137, 1706, 1708, 82, 137] && (ck9 RX12 (mQ 267) [1316, 1315, 1751, 1753, 87, 137, 1479, 1481, 39, 137, 1836, 1837, 137, 1479, 1481, 39, 137, 1335, 1335] && (ck9 RX12 (mQ 268) [1316, 1315, 1836, 1837, 137, 1706, 1708, 82, 137, 1335, 1706, 1708, 82, 137, 1337, 1335, 1335, 1335, 1335] && (ck9 RX12 (mQ 269) [1316, 1315, 1743, 1744, 137, 1479, 1481, 39, 137, 1335, 1597, 1598, 137, 1479, 1481, 39, 137, 1335] && (ck9 RX12 (mQ 270) [1316, 1315, 1851, 1586, 1587, 137, 1479, 1481, 39, 137, 1335] && (ck9 RX12 (mQ 271) [1346, 1344, 1343, 1346, 1346, 1345, 1343, 1736, 1737, 137, 1597, 1598, 137, 1736, 1737, 137, 1343, 1736, 1737, 137, 1864, 1866, 99, 137] && (ck9 RX12 (mQ 272) [1346, 1345, 1864, 1866, 99, 137, 1346] && (ck9 RX12 (mQ 273) [1860, 1862, 98, 137] && (ck9 RX12 (mQ 274) [1706, 1708, 82, 137] && (ck9 RX12 (mQ 275) [1316, 1315, 1836, 1837, 137, 1729, 1730, 137, 1335, 1856, 1858, 97, 137, 1868, 1870, 100, 137, 1706, 1708, 82, 137] && (ck9 RX12 (mQ 276) [1316, 1315, 1836, 1837, 137, 1706, 1708, 82, 137, 1729, 1730, 137, 1335, 1856, 1858, 97, 137, 1586, 1587, 137, 1344, 1706, 1708, 82, 137] && (ck9 RX12 (mQ 277) [1316, 1315, 1836, 1837, 137, 1880, 1586, 1587, 137, 1706, 1708, 82, 137, 1729, 1730, 137, 1335, 1860, 1862, 98, 137, 1346] && (ck9 RX12 (mQ 278) [1316, 1315, 1743, 1744, 137, 1479, 1481, 39, 137, 1836, 1837, 137, 1880, 1586, 1587, 137, 1479, 1481, 39, 137, 1729, 1730, 137, 1335, 1860, 1862, 98, 137, 1345, 1346, 1760, 1762, 88, 137, 1479, 1481, 39, 137] && (ck9 RX12 (mQ 279) [1316, 1315, 1836, 1837, 137, 1880, 1586, 1587, 137, 1706, 1708, 82, 137, 1729, 1730, 137, 1335, 1860, 1862, 98, 137, 1346, 1706, 1708, 82, 137, 1345, 1346, 1345, 1696, 700, 140, 1335, 1597, 1598, 137] && (ck9 RX12 (mQ 280) [1335, 1597, 1598, 137, 1736, 1737, 137, 1335, 1860, 1862, 98, 137, 1344] && (ck9 RX12 (mQ 281) [1316, 1315, 1836, 1837, 137, 1706, 1708, 82, 137, 1729, 1730, 137, 1893, 1895, 101, 137, 1586, 1587, 137, 1344, 1706, 1708, 82, 137] && (ck9 RX12 (mQ 282) [1316, 1315, 1836, 1837, 137, 1706, 1708, 82, 137, 1901, 1706, 1708, 82, 137, 1706, 1708, 82, 137] && (ck9 RX12 (mQ 283) [1777, 1779, 89, 137, 1320, 1320, 1910, 1586, 1587, 137, 1836, 1837, 137, 1911, 1913, 103, 137, 1746, 1586, 1587, 137] && (ck9 RX12 (mQ 284) [1911, 1913, 103, 137, 1597, 1598, 137, 1335, 1597, 1598, 137, 1736, 1737, 137] && (ck9 RX12 (mQ 285) [1347, 1919, 1921, 105, 137, 1919, 1921, 105, 137, 1347, 1348, 1349, 1347, 1347] && (ck9 RX12 (mQ 286) [1316, 1906, 1908, 102, 137, 1315, 1315, 1729, 1730, 137, 1915, 1917, 104, 137, 1347] && (ck9 RX12 (mQ 287) [1316, 1906, 1908, 102, 137, 1315, 1315, 1586, 1587, 137, 1315, 1315, 1729, 1730, 137, 1915, 1917, 104, 137, 1347, 1586, 1587, 137, 1706, 1708, 82, 137, 1348, 1349] && (ck9 RX12 (mQ 288) [1736, 1737, 137, 1736, 1737, 137, 1736, 1737, 137] && (ck9 RX12 (mQ 289) [1350, 1350, 1350, 1939, 1940, 137, 1350] && (ck9 RX12 (mQ 290) [1935, 1937, 107, 137, 1335, 1350, 1350, 1350] && (ck9 RX12 (mQ 291) [1316, 1315, 1743, 1744, 137, 1706, 1708, 82, 137, 1931, 1933, 106, 137, 1706, 1708, 82, 137, 1350] && (ck9 RX12 (mQ 292) [1316, 1315, 1743, 1744, 137, 1706, 1708, 82, 137, 1931, 1933, 106, 137, 1350, 1586, 1587, 137, 1706, 1708, 82, 137, 1350, 1350, 1939, 1940, 137] && (ck9 RX12 (mQ 293) [1725, 1727, 86, 137, 1714, 1716, 84, 137, 1335, 1856, 1858, 97, 137] && (ck9 RX12 (mQ 294) [1316, 1315, 1751, 1753, 87, 137, 1950, 1952, 108, 137, 1868, 1870, 100, 137, 1706, 1708, 82, 137] && (ck9 RX12 (mQ 295) [1316, 1315, 1751, 1753, 87, 137, 1706, 1708, 82, 137, 1950, 1952, 108, 137, 1586, 1587, 137, 1344, 1706, 1708, 82, 137] && (ck9 RX12 (mQ 296) [1965, 1586, 1587, 137, 1718, 1719, 137] && (ck9 RX12 (mQ 297) [1316, 1315, 1962, 1963, 137, 1706, 1708, 82, 137, 1966, 1968, 109, 137] && (ck9 RX12 (mQ 298) [1316, 1315, 1962, 1963, 137, 1966, 1968, 109, 137, 1868, 1870, 100, 137, 1706, 1708, 82, 137] && (ck9 RX12 (mQ 299) [1597, 1598, 137, 1351, 1732, 1597, 1598, 137, 1351, 1736, 1737, 137, 1352, 1597, 1598, 137, 1351, 1736, 1737, 137, 1352, 1352, 1351, 1352] && (ck9 RX12 (mQ 300) [1597, 1598, 137, 1736, 1737, 137, 1979, 1981, 110, 137] && (ck9 RX12 (mQ 301) [] && (ck9 RX12 (mQ 302) [1316, 1315, 1962, 1963, 137, 1978, 1586, 1587, 137, 1836, 1837, 137, 1479, 1481, 39, 137, 1718, 1719, 137, 1479, 1481, 39, 137, 1729, 1730, 137, 1979, 1981, 110, 137, 1718, 1719, 137, 1983, 1984, 137, 1760, 1762, 88, 137] && (ck9 RX12 (mQ 303) [1316, 1315, 1978, 1586, 1587, 137, 1978, 1586, 1587, 137, 1479, 1481, 39, 137, 1353, 1353, 1353, 1335, 1353, 1335, 1851, 1353, 1760, 1762, 88, 137] && (ck9 RX12 (mQ 304) [1357, 2027, 1357, 1357] && (ck9 RX12 (mQ 305) [1820, 1822, 95, 137, 1361, 1361] && (ck9 RX12 (mQ 306) [1812, 1814, 94, 137, 1362, 1362] && (ck9 RX12 (mQ 307) [1335, 1335, 2023, 2025, 118, 137, 2023, 2025, 118, 137, 2023, 2025, 118, 137, 1335, 1803, 1805, 93, 137, 2011, 2013, 115, 137] && (ck9 RX12 (mQ 308) [1335, 1335, 1335, 1335, 1791, 1793, 91, 137, 1335, 1803, 1805, 93, 137, 1335, 2011, 2013, 115, 137, 1335, 1828, 1830, 96, 137, 2015, 2017, 116, 137, 2019, 2021, 117, 137] && (ck9 RX12 (mQ 309) [1335, 1335, 1725, 1727, 86, 137, 1335, 1725, 1727, 86, 137, 1335, 1335, 1732, 1335, 1335] && (ck9 RX12 (mQ 310) [1358, 1356, 1363, 1358, 1358, 1335, 1359, 2007, 2009, 114, 137, 1359, 2028, 2030, 119, 137, 1335, 1999, 2001, 112, 137, 1335, 1356, 1335, 1999, 2001, 112, 137, 1356] && (ck9 RX12 (mQ 311) [1356, 2003, 2005, 113, 137, 1335] && (ck9 RX12 (mQ 312) [1357, 1358, 1359, 1335, 1360, 1361, 1362, 1363, 1356, 1335, 1999, 2001, 112, 137] && (ck9 RX12 (mQ 313) [1316, 1315, 1994, 1586, 1587, 137, 1706, 1708, 82, 137, 1335, 1706, 1708, 82, 137, 1995, 1997, 111, 137, 1354, 1359, 1354, 1335, 1360, 1354, 1361, 1354, 1362, 1354, 1363, 1355, 1358] && (ck9 RX12 (mQ 314) [1316, 1315, 2036, 1586, 1587, 137, 1706, 1708, 82, 137, 1355, 1354, 1706, 1708, 82, 137] && (ck9 RX12 (mQ 315) [1316, 1315, 2041, 1586, 1587, 137, 1586, 1587, 137, 1479, 1481, 39, 137, 1335, 1479, 1481, 39, 137, 1336, 1335, 1995, 1997, 111, 137, 1335, 1335, 1733, 1734, 137, 1335, 1336, 1732, 1760, 1762, 88, 137] && (ck9 RX12 (mQ 316) [1335, 1335, 1337, 1337] && (ck9 RX12 (mQ 317) [1316, 1315, 1338, 1706, 1708, 82, 137, 1338, 1338, 1338, 1676, 1678, 77, 137, 1338] && (ck9 RX12 (mQ 318) [1316, 1315, 1338, 1706, 1708, 82, 137, 1338, 1676, 1678, 77, 137, 1338, 1338, 1338] && (ck9 RJ6 (mQ 319) [875, 876, 876, 877] && (ck9 RJ7 (mQ 320) [] && (ck9 RJ7 (mQ 321) [])))))))))))))))))))))))))))))))))))))))))))))))))))))))))))))))))))))))))))))))))) = true := by decide +kernel
set_option maxRecDepth 100000 in
theorem ok_X12_partsOf : OkM (mQ 240) := okm_c (and_l9 gp_3)
set_option maxRecDepth 100000 in
theorem ok_X12_shareOf : OkM (mQ 241) := okm_c (and_l9 (and_r9 gp_3))
set_option maxRecDepth 100000 in
theorem ok_X12_isShare : OkM (mQ 242) := okm_c (and_l9 (and_r9 (and_r9 gp_3)))
set_option maxRecDepth 100000 in
theorem ok_X12_sumOf : OkM (mQ 243) := okm_c (and_l9 (and_r9 (and_r9 (and_r9 gp_3))))
set_option maxRecDepth 100000 in
theorem ok_X12_lackOf : OkM (mQ 244) := okm_c (and_l9 (and_r9 (and_r9 (and_r9 (and_r9 gp_3)))))
set_option maxRecDepth 100000 in
theorem ok_X12_held : OkM (mQ 245) := okm_c (and_l9 (and_r9 (and_r9 (and_r9 (and_r9 (and_r9 gp_3))))))
set_option maxRecDepth 100000 in
theorem ok_X12_heldSet : OkM (mQ 246) := okm_c (and_l9 (and_r9 (and_r9 (and_r9 (and_r9 (and_r9 (and_r9 gp_3)))))))
set_option maxRecDepth 100000 in
theorem ok_X12_evenOnes : OkM (mQ 247) := okm_c (and_l9 (and_r9 (and_r9 (and_r9 (and_r9 (and_r9 (and_r9 (and_r9 gp_3))))))))
set_option maxRecDepth 100000 in
theorem ok_X12_many : OkM (mQ 248) := okm_c (and_l9 (and_r9 (and_r9 (and_r9 (and_r9 (and_r9 (and_r9 (and_r9 (and_r9 gp_3)))))))))
set_option maxRecDepth 100000 in
theorem ok_X12_store : OkM (mQ 249) := okm_c (and_l9 (and_r9 (and_r9 (and_r9 (and_r9 (and_r9 (and_r9 (and_r9 (and_r9 (and_r9 gp_3))))))))))
set_option maxRecDepth 100000 in
theorem ok_X12_man : OkM (mQ 250) := okm_c (and_l9 (and_r9 (and_r9 (and_r9 (and_r9 (and_r9 (and_r9 (and_r9 (and_r9 (and_r9 (and_r9 gp_3)))))))))))
set_option maxRecDepth 100000 in
theorem ok_X12_has : OkM (mQ 251) := okm_c (and_l9 (and_r9 (and_r9 (and_r9 (and_r9 (and_r9 (and_r9 (and_r9 (and_r9 (and_r9 (and_r9 (and_r9 gp_3))))))))))))
set_option maxRecDepth 100000 in
theorem ok_X12_lacks : OkM (mQ 252) := okm_c (and_l9 (and_r9 (and_r9 (and_r9 (and_r9 (and_r9 (and_r9 (and_r9 (and_r9 (and_r9 (and_r9 (and_r9 (and_r9 gp_3)))))))))))))
set_option maxRecDepth 100000 in
theorem ok_X12_worth : OkM (mQ 253) := okm_c (and_l9 (and_r9 (and_r9 (and_r9 (and_r9 (and_r9 (and_r9 (and_r9 (and_r9 (and_r9 (and_r9 (and_r9 (and_r9 (and_r9 gp_3))))))))))))))
set_option maxRecDepth 100000 in
theorem ok_X12_copyStore : OkM (mQ 254) := okm_c (and_l9 (and_r9 (and_r9 (and_r9 (and_r9 (and_r9 (and_r9 (and_r9 (and_r9 (and_r9 (and_r9 (and_r9 (and_r9 (and_r9 (and_r9 gp_3)))))))))))))))
set_option maxRecDepth 100000 in
theorem ok_X12_areMore : OkM (mQ 255) := okm_c (and_l9 (and_r9 (and_r9 (and_r9 (and_r9 (and_r9 (and_r9 (and_r9 (and_r9 (and_r9 (and_r9 (and_r9 (and_r9 (and_r9 (and_r9 (and_r9 gp_3))))))))))))))))
set_option maxRecDepth 100000 in
theorem ok_X12_isOver : OkM (mQ 256) := okm_c (and_l9 (and_r9 (and_r9 (and_r9 (and_r9 (and_r9 (and_r9 (and_r9 (and_r9 (and_r9 (and_r9 (and_r9 (and_r9 (and_r9 (and_r9 (and_r9 (and_r9 gp_3)))))))))))))))))
set_option maxRecDepth 100000 in
theorem ok_X12_cuts : OkM (mQ 257) := okm_c (and_l9 (and_r9 (and_r9 (and_r9 (and_r9 (and_r9 (and_r9 (and_r9 (and_r9 (and_r9 (and_r9 (and_r9 (and_r9 (and_r9 (and_r9 (and_r9 (and_r9 (and_r9 gp_3))))))))))))))))))
set_option maxRecDepth 100000 in
theorem ok_X12_cut : OkM (mQ 258) := okm_c (and_l9 (and_r9 (and_r9 (and_r9 (and_r9 (and_r9 (and_r9 (and_r9 (and_r9 (and_r9 (and_r9 (and_r9 (and_r9 (and_r9 (and_r9 (and_r9 (and_r9 (and_r9 (and_r9 gp_3)))))))))))))))))))
set_option maxRecDepth 100000 in
theorem ok_X12_splits : OkM (mQ 259) := okm_c (and_l9 (and_r9 (and_r9 (and_r9 (and_r9 (and_r9 (and_r9 (and_r9 (and_r9 (and_r9 (and_r9 (and_r9 (and_r9 (and_r9 (and_r9 (and_r9 (and_r9 (and_r9 (and_r9 (and_r9 gp_3))))))))))))))))))))
set_option maxRecDepth 100000 in
theorem ok_X12_split : OkM (mQ 260) := okm_c (and_l9 (and_r9 (and_r9 (and_r9 (and_r9 (and_r9 (and_r9 (and_r9 (and_r9 (and_r9 (and_r9 (and_r9 (and_r9 (and_r9 (and_r9 (and_r9 (and_r9 (and_r9 (and_r9 (and_r9 (and_r9 gp_3)))))))))))))))))))))
set_option maxRecDepth 100000 in
theorem ok_X12_bakes : OkM (mQ 261) := okm_c (and_l9 (and_r9 (and_r9 (and_r9 (and_r9 (and_r9 (and_r9 (and_r9 (and_r9 (and_r9 (and_r9 (and_r9 (and_r9 (and_r9 (and_r9 (and_r9 (and_r9 (and_r9 (and_r9 (and_r9 (and_r9 (and_r9 gp_3))))))))))))))))))))))
set_option maxRecDepth 100000 in
theorem ok_X12_bake : OkM (mQ 262) := okm_c (and_l9 (and_r9 (and_r9 (and_r9 (and_r9 (and_r9 (and_r9 (and_r9 (and_r9 (and_r9 (and_r9 (and_r9 (and_r9 (and_r9 (and_r9 (and_r9 (and_r9 (and_r9 (and_r9 (and_r9 (and_r9 (and_r9 (and_r9 gp_3)))))))))))))))))))))))
set_option maxRecDepth 100000 in
theorem ok_X12_gives : OkM (mQ 263) := okm_c (and_l9 (and_r9 (and_r9 (and_r9 (and_r9 (and_r9 (and_r9 (and_r9 (and_r9 (and_r9 (and_r9 (and_r9 (and_r9 (and_r9 (and_r9 (and_r9 (and_r9 (and_r9 (and_r9 (and_r9 (and_r9 (and_r9 (and_r9 (and_r9 gp_3))))))))))))))))))))))))
set_option maxRecDepth 100000 in
theorem ok_X12_give : OkM (mQ 264) := okm_c (and_l9 (and_r9 (and_r9 (and_r9 (and_r9 (and_r9 (and_r9 (and_r9 (and_r9 (and_r9 (and_r9 (and_r9 (and_r9 (and_r9 (and_r9 (and_r9 (and_r9 (and_r9 (and_r9 (and_r9 (and_r9 (and_r9 (and_r9 (and_r9 (and_r9 gp_3)))))))))))))))))))))))))
set_option maxRecDepth 100000 in
theorem ok_X12_takes : OkM (mQ 265) := okm_c (and_l9 (and_r9 (and_r9 (and_r9 (and_r9 (and_r9 (and_r9 (and_r9 (and_r9 (and_r9 (and_r9 (and_r9 (and_r9 (and_r9 (and_r9 (and_r9 (and_r9 (and_r9 (and_r9 (and_r9 (and_r9 (and_r9 (and_r9 (and_r9 (and_r9 (and_r9 gp_3))))))))))))))))))))))))))
set_option maxRecDepth 100000 in
theorem ok_X12_take : OkM (mQ 266) := okm_c (and_l9 (and_r9 (and_r9 (and_r9 (and_r9 (and_r9 (and_r9 (and_r9 (and_r9 (and_r9 (and_r9 (and_r9 (and_r9 (and_r9 (and_r9 (and_r9 (and_r9 (and_r9 (and_r9 (and_r9 (and_r9 (and_r9 (and_r9 (and_r9 (and_r9 (and_r9 (and_r9 gp_3)))))))))))))))))))))))))))
set_option maxRecDepth 100000 in
theorem ok_X12_owe : OkM (mQ 267) := okm_c (and_l9 (and_r9 (and_r9 (and_r9 (and_r9 (and_r9 (and_r9 (and_r9 (and_r9 (and_r9 (and_r9 (and_r9 (and_r9 (and_r9 (and_r9 (and_r9 (and_r9 (and_r9 (and_r9 (and_r9 (and_r9 (and_r9 (and_r9 (and_r9 (and_r9 (and_r9 (and_r9 (and_r9 gp_3))))))))))))))))))))))))))))
set_option maxRecDepth 100000 in
theorem ok_X12_come : OkM (mQ 268) := okm_c (and_l9 (and_r9 (and_r9 (and_r9 (and_r9 (and_r9 (and_r9 (and_r9 (and_r9 (and_r9 (and_r9 (and_r9 (and_r9 (and_r9 (and_r9 (and_r9 (and_r9 (and_r9 (and_r9 (and_r9 (and_r9 (and_r9 (and_r9 (and_r9 (and_r9 (and_r9 (and_r9 (and_r9 (and_r9 gp_3)))))))))))))))))))))))))))))
set_option maxRecDepth 100000 in
theorem ok_X12_learn : OkM (mQ 269) := okm_c (and_l9 (and_r9 (and_r9 (and_r9 (and_r9 (and_r9 (and_r9 (and_r9 (and_r9 (and_r9 (and_r9 (and_r9 (and_r9 (and_r9 (and_r9 (and_r9 (and_r9 (and_r9 (and_r9 (and_r9 (and_r9 (and_r9 (and_r9 (and_r9 (and_r9 (and_r9 (and_r9 (and_r9 (and_r9 (and_r9 gp_3))))))))))))))))))))))))))))))
set_option maxRecDepth 100000 in
theorem ok_X12_rule : OkM (mQ 270) := okm_c (and_l9 (and_r9 (and_r9 (and_r9 (and_r9 (and_r9 (and_r9 (and_r9 (and_r9 (and_r9 (and_r9 (and_r9 (and_r9 (and_r9 (and_r9 (and_r9 (and_r9 (and_r9 (and_r9 (and_r9 (and_r9 (and_r9 (and_r9 (and_r9 (and_r9 (and_r9 (and_r9 (and_r9 (and_r9 (and_r9 (and_r9 gp_3)))))))))))))))))))))))))))))))
set_option maxRecDepth 100000 in
theorem ok_X12_rows : OkM (mQ 271) := okm_c (and_l9 (and_r9 (and_r9 (and_r9 (and_r9 (and_r9 (and_r9 (and_r9 (and_r9 (and_r9 (and_r9 (and_r9 (and_r9 (and_r9 (and_r9 (and_r9 (and_r9 (and_r9 (and_r9 (and_r9 (and_r9 (and_r9 (and_r9 (and_r9 (and_r9 (and_r9 (and_r9 (and_r9 (and_r9 (and_r9 (and_r9 (and_r9 gp_3))))))))))))))))))))))))))))))))
set_option maxRecDepth 100000 in
theorem ok_X12_laysRows : OkM (mQ 272) := okm_c (and_l9 (and_r9 (and_r9 (and_r9 (and_r9 (and_r9 (and_r9 (and_r9 (and_r9 (and_r9 (and_r9 (and_r9 (and_r9 (and_r9 (and_r9 (and_r9 (and_r9 (and_r9 (and_r9 (and_r9 (and_r9 (and_r9 (and_r9 (and_r9 (and_r9 (and_r9 (and_r9 (and_r9 (and_r9 (and_r9 (and_r9 (and_r9 (and_r9 gp_3)))))))))))))))))))))))))))))))))
set_option maxRecDepth 100000 in
theorem ok_X12_fewestOf : OkM (mQ 273) := okm_c (and_l9 (and_r9 (and_r9 (and_r9 (and_r9 (and_r9 (and_r9 (and_r9 (and_r9 (and_r9 (and_r9 (and_r9 (and_r9 (and_r9 (and_r9 (and_r9 (and_r9 (and_r9 (and_r9 (and_r9 (and_r9 (and_r9 (and_r9 (and_r9 (and_r9 (and_r9 (and_r9 (and_r9 (and_r9 (and_r9 (and_r9 (and_r9 (and_r9 (and_r9 gp_3))))))))))))))))))))))))))))))))))
set_option maxRecDepth 100000 in
theorem ok_X12_answer : OkM (mQ 274) := okm_c (and_l9 (and_r9 (and_r9 (and_r9 (and_r9 (and_r9 (and_r9 (and_r9 (and_r9 (and_r9 (and_r9 (and_r9 (and_r9 (and_r9 (and_r9 (and_r9 (and_r9 (and_r9 (and_r9 (and_r9 (and_r9 (and_r9 (and_r9 (and_r9 (and_r9 (and_r9 (and_r9 (and_r9 (and_r9 (and_r9 (and_r9 (and_r9 (and_r9 (and_r9 (and_r9 gp_3)))))))))))))))))))))))))))))))))))
set_option maxRecDepth 100000 in
theorem ok_X12_fewest : OkM (mQ 275) := okm_c (and_l9 (and_r9 (and_r9 (and_r9 (and_r9 (and_r9 (and_r9 (and_r9 (and_r9 (and_r9 (and_r9 (and_r9 (and_r9 (and_r9 (and_r9 (and_r9 (and_r9 (and_r9 (and_r9 (and_r9 (and_r9 (and_r9 (and_r9 (and_r9 (and_r9 (and_r9 (and_r9 (and_r9 (and_r9 (and_r9 (and_r9 (and_r9 (and_r9 (and_r9 (and_r9 (and_r9 gp_3))))))))))))))))))))))))))))))))))))
set_option maxRecDepth 100000 in
theorem ok_X12_fewestAt : OkM (mQ 276) := okm_c (and_l9 (and_r9 (and_r9 (and_r9 (and_r9 (and_r9 (and_r9 (and_r9 (and_r9 (and_r9 (and_r9 (and_r9 (and_r9 (and_r9 (and_r9 (and_r9 (and_r9 (and_r9 (and_r9 (and_r9 (and_r9 (and_r9 (and_r9 (and_r9 (and_r9 (and_r9 (and_r9 (and_r9 (and_r9 (and_r9 (and_r9 (and_r9 (and_r9 (and_r9 (and_r9 (and_r9 (and_r9 gp_3)))))))))))))))))))))))))))))))))))))
set_option maxRecDepth 100000 in
theorem ok_X12_ways : OkM (mQ 277) := okm_c (and_l9 (and_r9 (and_r9 (and_r9 (and_r9 (and_r9 (and_r9 (and_r9 (and_r9 (and_r9 (and_r9 (and_r9 (and_r9 (and_r9 (and_r9 (and_r9 (and_r9 (and_r9 (and_r9 (and_r9 (and_r9 (and_r9 (and_r9 (and_r9 (and_r9 (and_r9 (and_r9 (and_r9 (and_r9 (and_r9 (and_r9 (and_r9 (and_r9 (and_r9 (and_r9 (and_r9 (and_r9 (and_r9 gp_3))))))))))))))))))))))))))))))))))))))
set_option maxRecDepth 100000 in
theorem ok_X12_oddsThat : OkM (mQ 278) := okm_c (and_l9 (and_r9 (and_r9 (and_r9 (and_r9 (and_r9 (and_r9 (and_r9 (and_r9 (and_r9 (and_r9 (and_r9 (and_r9 (and_r9 (and_r9 (and_r9 (and_r9 (and_r9 (and_r9 (and_r9 (and_r9 (and_r9 (and_r9 (and_r9 (and_r9 (and_r9 (and_r9 (and_r9 (and_r9 (and_r9 (and_r9 (and_r9 (and_r9 (and_r9 (and_r9 (and_r9 (and_r9 (and_r9 (and_r9 gp_3)))))))))))))))))))))))))))))))))))))))
set_option maxRecDepth 100000 in
theorem ok_X12_ask : OkM (mQ 279) := okm_c (and_l9 (and_r9 (and_r9 (and_r9 (and_r9 (and_r9 (and_r9 (and_r9 (and_r9 (and_r9 (and_r9 (and_r9 (and_r9 (and_r9 (and_r9 (and_r9 (and_r9 (and_r9 (and_r9 (and_r9 (and_r9 (and_r9 (and_r9 (and_r9 (and_r9 (and_r9 (and_r9 (and_r9 (and_r9 (and_r9 (and_r9 (and_r9 (and_r9 (and_r9 (and_r9 (and_r9 (and_r9 (and_r9 (and_r9 (and_r9 gp_3))))))))))))))))))))))))))))))))))))))))
set_option maxRecDepth 100000 in
theorem ok_X12_kindestOf : OkM (mQ 280) := okm_c (and_l9 (and_r9 (and_r9 (and_r9 (and_r9 (and_r9 (and_r9 (and_r9 (and_r9 (and_r9 (and_r9 (and_r9 (and_r9 (and_r9 (and_r9 (and_r9 (and_r9 (and_r9 (and_r9 (and_r9 (and_r9 (and_r9 (and_r9 (and_r9 (and_r9 (and_r9 (and_r9 (and_r9 (and_r9 (and_r9 (and_r9 (and_r9 (and_r9 (and_r9 (and_r9 (and_r9 (and_r9 (and_r9 (and_r9 (and_r9 (and_r9 gp_3)))))))))))))))))))))))))))))))))))))))))
set_option maxRecDepth 100000 in
theorem ok_X12_kindestAt : OkM (mQ 281) := okm_c (and_l9 (and_r9 (and_r9 (and_r9 (and_r9 (and_r9 (and_r9 (and_r9 (and_r9 (and_r9 (and_r9 (and_r9 (and_r9 (and_r9 (and_r9 (and_r9 (and_r9 (and_r9 (and_r9 (and_r9 (and_r9 (and_r9 (and_r9 (and_r9 (and_r9 (and_r9 (and_r9 (and_r9 (and_r9 (and_r9 (and_r9 (and_r9 (and_r9 (and_r9 (and_r9 (and_r9 (and_r9 (and_r9 (and_r9 (and_r9 (and_r9 (and_r9 gp_3))))))))))))))))))))))))))))))))))))))))))
set_option maxRecDepth 100000 in
theorem ok_X12_greedyAt : OkM (mQ 282) := okm_c (and_l9 (and_r9 (and_r9 (and_r9 (and_r9 (and_r9 (and_r9 (and_r9 (and_r9 (and_r9 (and_r9 (and_r9 (and_r9 (and_r9 (and_r9 (and_r9 (and_r9 (and_r9 (and_r9 (and_r9 (and_r9 (and_r9 (and_r9 (and_r9 (and_r9 (and_r9 (and_r9 (and_r9 (and_r9 (and_r9 (and_r9 (and_r9 (and_r9 (and_r9 (and_r9 (and_r9 (and_r9 (and_r9 (and_r9 (and_r9 (and_r9 (and_r9 (and_r9 gp_3)))))))))))))))))))))))))))))))))))))))))))
set_option maxRecDepth 100000 in
theorem ok_X12_whyNoRow : OkM (mQ 283) := okm_c (and_l9 (and_r9 (and_r9 (and_r9 (and_r9 (and_r9 (and_r9 (and_r9 (and_r9 (and_r9 (and_r9 (and_r9 (and_r9 (and_r9 (and_r9 (and_r9 (and_r9 (and_r9 (and_r9 (and_r9 (and_r9 (and_r9 (and_r9 (and_r9 (and_r9 (and_r9 (and_r9 (and_r9 (and_r9 (and_r9 (and_r9 (and_r9 (and_r9 (and_r9 (and_r9 (and_r9 (and_r9 (and_r9 (and_r9 (and_r9 (and_r9 (and_r9 (and_r9 (and_r9 gp_3))))))))))))))))))))))))))))))))))))))))))))
set_option maxRecDepth 100000 in
theorem ok_X12_isRow : OkM (mQ 284) := okm_c (and_l9 (and_r9 (and_r9 (and_r9 (and_r9 (and_r9 (and_r9 (and_r9 (and_r9 (and_r9 (and_r9 (and_r9 (and_r9 (and_r9 (and_r9 (and_r9 (and_r9 (and_r9 (and_r9 (and_r9 (and_r9 (and_r9 (and_r9 (and_r9 (and_r9 (and_r9 (and_r9 (and_r9 (and_r9 (and_r9 (and_r9 (and_r9 (and_r9 (and_r9 (and_r9 (and_r9 (and_r9 (and_r9 (and_r9 (and_r9 (and_r9 (and_r9 (and_r9 (and_r9 (and_r9 gp_3)))))))))))))))))))))))))))))))))))))))))))))
set_option maxRecDepth 100000 in
theorem ok_X12_laysSlips : OkM (mQ 285) := okm_c (and_l9 (and_r9 (and_r9 (and_r9 (and_r9 (and_r9 (and_r9 (and_r9 (and_r9 (and_r9 (and_r9 (and_r9 (and_r9 (and_r9 (and_r9 (and_r9 (and_r9 (and_r9 (and_r9 (and_r9 (and_r9 (and_r9 (and_r9 (and_r9 (and_r9 (and_r9 (and_r9 (and_r9 (and_r9 (and_r9 (and_r9 (and_r9 (and_r9 (and_r9 (and_r9 (and_r9 (and_r9 (and_r9 (and_r9 (and_r9 (and_r9 (and_r9 (and_r9 (and_r9 (and_r9 (and_r9 gp_3))))))))))))))))))))))))))))))))))))))))))))))
set_option maxRecDepth 100000 in
theorem ok_X12_slips : OkM (mQ 286) := okm_c (and_l9 (and_r9 (and_r9 (and_r9 (and_r9 (and_r9 (and_r9 (and_r9 (and_r9 (and_r9 (and_r9 (and_r9 (and_r9 (and_r9 (and_r9 (and_r9 (and_r9 (and_r9 (and_r9 (and_r9 (and_r9 (and_r9 (and_r9 (and_r9 (and_r9 (and_r9 (and_r9 (and_r9 (and_r9 (and_r9 (and_r9 (and_r9 (and_r9 (and_r9 (and_r9 (and_r9 (and_r9 (and_r9 (and_r9 (and_r9 (and_r9 (and_r9 (and_r9 (and_r9 (and_r9 (and_r9 (and_r9 gp_3)))))))))))))))))))))))))))))))))))))))))))))))
set_option maxRecDepth 100000 in
theorem ok_X12_slipAt : OkM (mQ 287) := okm_c (and_l9 (and_r9 (and_r9 (and_r9 (and_r9 (and_r9 (and_r9 (and_r9 (and_r9 (and_r9 (and_r9 (and_r9 (and_r9 (and_r9 (and_r9 (and_r9 (and_r9 (and_r9 (and_r9 (and_r9 (and_r9 (and_r9 (and_r9 (and_r9 (and_r9 (and_r9 (and_r9 (and_r9 (and_r9 (and_r9 (and_r9 (and_r9 (and_r9 (and_r9 (and_r9 (and_r9 (and_r9 (and_r9 (and_r9 (and_r9 (and_r9 (and_r9 (and_r9 (and_r9 (and_r9 (and_r9 (and_r9 (and_r9 gp_3))))))))))))))))))))))))))))))))))))))))))))))))
set_option maxRecDepth 100000 in
theorem ok_X12_comesOf : OkM (mQ 288) := okm_c (and_l9 (and_r9 (and_r9 (and_r9 (and_r9 (and_r9 (and_r9 (and_r9 (and_r9 (and_r9 (and_r9 (and_r9 (and_r9 (and_r9 (and_r9 (and_r9 (and_r9 (and_r9 (and_r9 (and_r9 (and_r9 (and_r9 (and_r9 (and_r9 (and_r9 (and_r9 (and_r9 (and_r9 (and_r9 (and_r9 (and_r9 (and_r9 (and_r9 (and_r9 (and_r9 (and_r9 (and_r9 (and_r9 (and_r9 (and_r9 (and_r9 (and_r9 (and_r9 (and_r9 (and_r9 (and_r9 (and_r9 (and_r9 (and_r9 gp_3)))))))))))))))))))))))))))))))))))))))))))))))))
set_option maxRecDepth 100000 in
theorem ok_X12_laysReach : OkM (mQ 289) := okm_c (and_l9 (and_r9 (and_r9 (and_r9 (and_r9 (and_r9 (and_r9 (and_r9 (and_r9 (and_r9 (and_r9 (and_r9 (and_r9 (and_r9 (and_r9 (and_r9 (and_r9 (and_r9 (and_r9 (and_r9 (and_r9 (and_r9 (and_r9 (and_r9 (and_r9 (and_r9 (and_r9 (and_r9 (and_r9 (and_r9 (and_r9 (and_r9 (and_r9 (and_r9 (and_r9 (and_r9 (and_r9 (and_r9 (and_r9 (and_r9 (and_r9 (and_r9 (and_r9 (and_r9 (and_r9 (and_r9 (and_r9 (and_r9 (and_r9 (and_r9 gp_3))))))))))))))))))))))))))))))))))))))))))))))))))
set_option maxRecDepth 100000 in
theorem ok_X12_reachFrom : OkM (mQ 290) := okm_c (and_l9 (and_r9 (and_r9 (and_r9 (and_r9 (and_r9 (and_r9 (and_r9 (and_r9 (and_r9 (and_r9 (and_r9 (and_r9 (and_r9 (and_r9 (and_r9 (and_r9 (and_r9 (and_r9 (and_r9 (and_r9 (and_r9 (and_r9 (and_r9 (and_r9 (and_r9 (and_r9 (and_r9 (and_r9 (and_r9 (and_r9 (and_r9 (and_r9 (and_r9 (and_r9 (and_r9 (and_r9 (and_r9 (and_r9 (and_r9 (and_r9 (and_r9 (and_r9 (and_r9 (and_r9 (and_r9 (and_r9 (and_r9 (and_r9 (and_r9 (and_r9 gp_3)))))))))))))))))))))))))))))))))))))))))))))))))))
set_option maxRecDepth 100000 in
theorem ok_X12_reach : OkM (mQ 291) := okm_c (and_l9 (and_r9 (and_r9 (and_r9 (and_r9 (and_r9 (and_r9 (and_r9 (and_r9 (and_r9 (and_r9 (and_r9 (and_r9 (and_r9 (and_r9 (and_r9 (and_r9 (and_r9 (and_r9 (and_r9 (and_r9 (and_r9 (and_r9 (and_r9 (and_r9 (and_r9 (and_r9 (and_r9 (and_r9 (and_r9 (and_r9 (and_r9 (and_r9 (and_r9 (and_r9 (and_r9 (and_r9 (and_r9 (and_r9 (and_r9 (and_r9 (and_r9 (and_r9 (and_r9 (and_r9 (and_r9 (and_r9 (and_r9 (and_r9 (and_r9 (and_r9 (and_r9 gp_3))))))))))))))))))))))))))))))))))))))))))))))))))))
set_option maxRecDepth 100000 in
theorem ok_X12_reachAt : OkM (mQ 292) := okm_c (and_l9 (and_r9 (and_r9 (and_r9 (and_r9 (and_r9 (and_r9 (and_r9 (and_r9 (and_r9 (and_r9 (and_r9 (and_r9 (and_r9 (and_r9 (and_r9 (and_r9 (and_r9 (and_r9 (and_r9 (and_r9 (and_r9 (and_r9 (and_r9 (and_r9 (and_r9 (and_r9 (and_r9 (and_r9 (and_r9 (and_r9 (and_r9 (and_r9 (and_r9 (and_r9 (and_r9 (and_r9 (and_r9 (and_r9 (and_r9 (and_r9 (and_r9 (and_r9 (and_r9 (and_r9 (and_r9 (and_r9 (and_r9 (and_r9 (and_r9 (and_r9 (and_r9 (and_r9 gp_3)))))))))))))))))))))))))))))))))))))))))))))))))))))
set_option maxRecDepth 100000 in
theorem ok_X12_fillOf : OkM (mQ 293) := okm_c (and_l9 (and_r9 (and_r9 (and_r9 (and_r9 (and_r9 (and_r9 (and_r9 (and_r9 (and_r9 (and_r9 (and_r9 (and_r9 (and_r9 (and_r9 (and_r9 (and_r9 (and_r9 (and_r9 (and_r9 (and_r9 (and_r9 (and_r9 (and_r9 (and_r9 (and_r9 (and_r9 (and_r9 (and_r9 (and_r9 (and_r9 (and_r9 (and_r9 (and_r9 (and_r9 (and_r9 (and_r9 (and_r9 (and_r9 (and_r9 (and_r9 (and_r9 (and_r9 (and_r9 (and_r9 (and_r9 (and_r9 (and_r9 (and_r9 (and_r9 (and_r9 (and_r9 (and_r9 (and_r9 gp_3))))))))))))))))))))))))))))))))))))))))))))))))))))))
set_option maxRecDepth 100000 in
theorem ok_X12_fill : OkM (mQ 294) := okm_c (and_l9 (and_r9 (and_r9 (and_r9 (and_r9 (and_r9 (and_r9 (and_r9 (and_r9 (and_r9 (and_r9 (and_r9 (and_r9 (and_r9 (and_r9 (and_r9 (and_r9 (and_r9 (and_r9 (and_r9 (and_r9 (and_r9 (and_r9 (and_r9 (and_r9 (and_r9 (and_r9 (and_r9 (and_r9 (and_r9 (and_r9 (and_r9 (and_r9 (and_r9 (and_r9 (and_r9 (and_r9 (and_r9 (and_r9 (and_r9 (and_r9 (and_r9 (and_r9 (and_r9 (and_r9 (and_r9 (and_r9 (and_r9 (and_r9 (and_r9 (and_r9 (and_r9 (and_r9 (and_r9 (and_r9 gp_3)))))))))))))))))))))))))))))))))))))))))))))))))))))))
set_option maxRecDepth 100000 in
theorem ok_X12_fillAt : OkM (mQ 295) := okm_c (and_l9 (and_r9 (and_r9 (and_r9 (and_r9 (and_r9 (and_r9 (and_r9 (and_r9 (and_r9 (and_r9 (and_r9 (and_r9 (and_r9 (and_r9 (and_r9 (and_r9 (and_r9 (and_r9 (and_r9 (and_r9 (and_r9 (and_r9 (and_r9 (and_r9 (and_r9 (and_r9 (and_r9 (and_r9 (and_r9 (and_r9 (and_r9 (and_r9 (and_r9 (and_r9 (and_r9 (and_r9 (and_r9 (and_r9 (and_r9 (and_r9 (and_r9 (and_r9 (and_r9 (and_r9 (and_r9 (and_r9 (and_r9 (and_r9 (and_r9 (and_r9 (and_r9 (and_r9 (and_r9 (and_r9 (and_r9 gp_3))))))))))))))))))))))))))))))))))))))))))))))))))))))))
set_option maxRecDepth 100000 in
theorem ok_X12_isSet : OkM (mQ 296) := okm_c (and_l9 (and_r9 (and_r9 (and_r9 (and_r9 (and_r9 (and_r9 (and_r9 (and_r9 (and_r9 (and_r9 (and_r9 (and_r9 (and_r9 (and_r9 (and_r9 (and_r9 (and_r9 (and_r9 (and_r9 (and_r9 (and_r9 (and_r9 (and_r9 (and_r9 (and_r9 (and_r9 (and_r9 (and_r9 (and_r9 (and_r9 (and_r9 (and_r9 (and_r9 (and_r9 (and_r9 (and_r9 (and_r9 (and_r9 (and_r9 (and_r9 (and_r9 (and_r9 (and_r9 (and_r9 (and_r9 (and_r9 (and_r9 (and_r9 (and_r9 (and_r9 (and_r9 (and_r9 (and_r9 (and_r9 (and_r9 (and_r9 gp_3)))))))))))))))))))))))))))))))))))))))))))))))))))))))))
set_option maxRecDepth 100000 in
theorem ok_X12_plate : OkM (mQ 297) := okm_c (and_l9 (and_r9 (and_r9 (and_r9 (and_r9 (and_r9 (and_r9 (and_r9 (and_r9 (and_r9 (and_r9 (and_r9 (and_r9 (and_r9 (and_r9 (and_r9 (and_r9 (and_r9 (and_r9 (and_r9 (and_r9 (and_r9 (and_r9 (and_r9 (and_r9 (and_r9 (and_r9 (and_r9 (and_r9 (and_r9 (and_r9 (and_r9 (and_r9 (and_r9 (and_r9 (and_r9 (and_r9 (and_r9 (and_r9 (and_r9 (and_r9 (and_r9 (and_r9 (and_r9 (and_r9 (and_r9 (and_r9 (and_r9 (and_r9 (and_r9 (and_r9 (and_r9 (and_r9 (and_r9 (and_r9 (and_r9 (and_r9 (and_r9 gp_3))))))))))))))))))))))))))))))))))))))))))))))))))))))))))
set_option maxRecDepth 100000 in
theorem ok_X12_plateMove : OkM (mQ 298) := okm_c (and_l9 (and_r9 (and_r9 (and_r9 (and_r9 (and_r9 (and_r9 (and_r9 (and_r9 (and_r9 (and_r9 (and_r9 (and_r9 (and_r9 (and_r9 (and_r9 (and_r9 (and_r9 (and_r9 (and_r9 (and_r9 (and_r9 (and_r9 (and_r9 (and_r9 (and_r9 (and_r9 (and_r9 (and_r9 (and_r9 (and_r9 (and_r9 (and_r9 (and_r9 (and_r9 (and_r9 (and_r9 (and_r9 (and_r9 (and_r9 (and_r9 (and_r9 (and_r9 (and_r9 (and_r9 (and_r9 (and_r9 (and_r9 (and_r9 (and_r9 (and_r9 (and_r9 (and_r9 (and_r9 (and_r9 (and_r9 (and_r9 (and_r9 (and_r9 gp_3)))))))))))))))))))))))))))))))))))))))))))))))))))))))))))
set_option maxRecDepth 100000 in
theorem ok_X12_plates : OkM (mQ 299) := okm_c (and_l9 (and_r9 (and_r9 (and_r9 (and_r9 (and_r9 (and_r9 (and_r9 (and_r9 (and_r9 (and_r9 (and_r9 (and_r9 (and_r9 (and_r9 (and_r9 (and_r9 (and_r9 (and_r9 (and_r9 (and_r9 (and_r9 (and_r9 (and_r9 (and_r9 (and_r9 (and_r9 (and_r9 (and_r9 (and_r9 (and_r9 (and_r9 (and_r9 (and_r9 (and_r9 (and_r9 (and_r9 (and_r9 (and_r9 (and_r9 (and_r9 (and_r9 (and_r9 (and_r9 (and_r9 (and_r9 (and_r9 (and_r9 (and_r9 (and_r9 (and_r9 (and_r9 (and_r9 (and_r9 (and_r9 (and_r9 (and_r9 (and_r9 (and_r9 (and_r9 gp_3))))))))))))))))))))))))))))))))))))))))))))))))))))))))))))
set_option maxRecDepth 100000 in
theorem ok_X12_lucks : OkM (mQ 300) := okm_c (and_l9 (and_r9 (and_r9 (and_r9 (and_r9 (and_r9 (and_r9 (and_r9 (and_r9 (and_r9 (and_r9 (and_r9 (and_r9 (and_r9 (and_r9 (and_r9 (and_r9 (and_r9 (and_r9 (and_r9 (and_r9 (and_r9 (and_r9 (and_r9 (and_r9 (and_r9 (and_r9 (and_r9 (and_r9 (and_r9 (and_r9 (and_r9 (and_r9 (and_r9 (and_r9 (and_r9 (and_r9 (and_r9 (and_r9 (and_r9 (and_r9 (and_r9 (and_r9 (and_r9 (and_r9 (and_r9 (and_r9 (and_r9 (and_r9 (and_r9 (and_r9 (and_r9 (and_r9 (and_r9 (and_r9 (and_r9 (and_r9 (and_r9 (and_r9 (and_r9 (and_r9 gp_3)))))))))))))))))))))))))))))))))))))))))))))))))))))))))))))
set_option maxRecDepth 100000 in
theorem ok_X12_choices : OkM (mQ 301) := okm_c (and_l9 (and_r9 (and_r9 (and_r9 (and_r9 (and_r9 (and_r9 (and_r9 (and_r9 (and_r9 (and_r9 (and_r9 (and_r9 (and_r9 (and_r9 (and_r9 (and_r9 (and_r9 (and_r9 (and_r9 (and_r9 (and_r9 (and_r9 (and_r9 (and_r9 (and_r9 (and_r9 (and_r9 (and_r9 (and_r9 (and_r9 (and_r9 (and_r9 (and_r9 (and_r9 (and_r9 (and_r9 (and_r9 (and_r9 (and_r9 (and_r9 (and_r9 (and_r9 (and_r9 (and_r9 (and_r9 (and_r9 (and_r9 (and_r9 (and_r9 (and_r9 (and_r9 (and_r9 (and_r9 (and_r9 (and_r9 (and_r9 (and_r9 (and_r9 (and_r9 (and_r9 (and_r9 gp_3))))))))))))))))))))))))))))))))))))))))))))))))))))))))))))))
set_option maxRecDepth 100000 in
theorem ok_X12_luck : OkM (mQ 302) := okm_c (and_l9 (and_r9 (and_r9 (and_r9 (and_r9 (and_r9 (and_r9 (and_r9 (and_r9 (and_r9 (and_r9 (and_r9 (and_r9 (and_r9 (and_r9 (and_r9 (and_r9 (and_r9 (and_r9 (and_r9 (and_r9 (and_r9 (and_r9 (and_r9 (and_r9 (and_r9 (and_r9 (and_r9 (and_r9 (and_r9 (and_r9 (and_r9 (and_r9 (and_r9 (and_r9 (and_r9 (and_r9 (and_r9 (and_r9 (and_r9 (and_r9 (and_r9 (and_r9 (and_r9 (and_r9 (and_r9 (and_r9 (and_r9 (and_r9 (and_r9 (and_r9 (and_r9 (and_r9 (and_r9 (and_r9 (and_r9 (and_r9 (and_r9 (and_r9 (and_r9 (and_r9 (and_r9 (and_r9 gp_3)))))))))))))))))))))))))))))))))))))))))))))))))))))))))))))))
set_option maxRecDepth 100000 in
theorem ok_X12_burnt : OkM (mQ 303) := okm_c (and_l9 (and_r9 (and_r9 (and_r9 (and_r9 (and_r9 (and_r9 (and_r9 (and_r9 (and_r9 (and_r9 (and_r9 (and_r9 (and_r9 (and_r9 (and_r9 (and_r9 (and_r9 (and_r9 (and_r9 (and_r9 (and_r9 (and_r9 (and_r9 (and_r9 (and_r9 (and_r9 (and_r9 (and_r9 (and_r9 (and_r9 (and_r9 (and_r9 (and_r9 (and_r9 (and_r9 (and_r9 (and_r9 (and_r9 (and_r9 (and_r9 (and_r9 (and_r9 (and_r9 (and_r9 (and_r9 (and_r9 (and_r9 (and_r9 (and_r9 (and_r9 (and_r9 (and_r9 (and_r9 (and_r9 (and_r9 (and_r9 (and_r9 (and_r9 (and_r9 (and_r9 (and_r9 (and_r9 (and_r9 gp_3))))))))))))))))))))))))))))))))))))))))))))))))))))))))))))))))
set_option maxRecDepth 100000 in
theorem ok_X12_draw : OkM (mQ 304) := okm_c (and_l9 (and_r9 (and_r9 (and_r9 (and_r9 (and_r9 (and_r9 (and_r9 (and_r9 (and_r9 (and_r9 (and_r9 (and_r9 (and_r9 (and_r9 (and_r9 (and_r9 (and_r9 (and_r9 (and_r9 (and_r9 (and_r9 (and_r9 (and_r9 (and_r9 (and_r9 (and_r9 (and_r9 (and_r9 (and_r9 (and_r9 (and_r9 (and_r9 (and_r9 (and_r9 (and_r9 (and_r9 (and_r9 (and_r9 (and_r9 (and_r9 (and_r9 (and_r9 (and_r9 (and_r9 (and_r9 (and_r9 (and_r9 (and_r9 (and_r9 (and_r9 (and_r9 (and_r9 (and_r9 (and_r9 (and_r9 (and_r9 (and_r9 (and_r9 (and_r9 (and_r9 (and_r9 (and_r9 (and_r9 (and_r9 gp_3)))))))))))))))))))))))))))))))))))))))))))))))))))))))))))))))))
set_option maxRecDepth 100000 in
theorem ok_X12_isGiven : OkM (mQ 305) := okm_c (and_l9 (and_r9 (and_r9 (and_r9 (and_r9 (and_r9 (and_r9 (and_r9 (and_r9 (and_r9 (and_r9 (and_r9 (and_r9 (and_r9 (and_r9 (and_r9 (and_r9 (and_r9 (and_r9 (and_r9 (and_r9 (and_r9 (and_r9 (and_r9 (and_r9 (and_r9 (and_r9 (and_r9 (and_r9 (and_r9 (and_r9 (and_r9 (and_r9 (and_r9 (and_r9 (and_r9 (and_r9 (and_r9 (and_r9 (and_r9 (and_r9 (and_r9 (and_r9 (and_r9 (and_r9 (and_r9 (and_r9 (and_r9 (and_r9 (and_r9 (and_r9 (and_r9 (and_r9 (and_r9 (and_r9 (and_r9 (and_r9 (and_r9 (and_r9 (and_r9 (and_r9 (and_r9 (and_r9 (and_r9 (and_r9 (and_r9 gp_3))))))))))))))))))))))))))))))))))))))))))))))))))))))))))))))))))
set_option maxRecDepth 100000 in
theorem ok_X12_isBaked : OkM (mQ 306) := okm_c (and_l9 (and_r9 (and_r9 (and_r9 (and_r9 (and_r9 (and_r9 (and_r9 (and_r9 (and_r9 (and_r9 (and_r9 (and_r9 (and_r9 (and_r9 (and_r9 (and_r9 (and_r9 (and_r9 (and_r9 (and_r9 (and_r9 (and_r9 (and_r9 (and_r9 (and_r9 (and_r9 (and_r9 (and_r9 (and_r9 (and_r9 (and_r9 (and_r9 (and_r9 (and_r9 (and_r9 (and_r9 (and_r9 (and_r9 (and_r9 (and_r9 (and_r9 (and_r9 (and_r9 (and_r9 (and_r9 (and_r9 (and_r9 (and_r9 (and_r9 (and_r9 (and_r9 (and_r9 (and_r9 (and_r9 (and_r9 (and_r9 (and_r9 (and_r9 (and_r9 (and_r9 (and_r9 (and_r9 (and_r9 (and_r9 (and_r9 (and_r9 gp_3)))))))))))))))))))))))))))))))))))))))))))))))))))))))))))))))))))
set_option maxRecDepth 100000 in
theorem ok_X12_isAny : OkM (mQ 307) := okm_c (and_l9 (and_r9 (and_r9 (and_r9 (and_r9 (and_r9 (and_r9 (and_r9 (and_r9 (and_r9 (and_r9 (and_r9 (and_r9 (and_r9 (and_r9 (and_r9 (and_r9 (and_r9 (and_r9 (and_r9 (and_r9 (and_r9 (and_r9 (and_r9 (and_r9 (and_r9 (and_r9 (and_r9 (and_r9 (and_r9 (and_r9 (and_r9 (and_r9 (and_r9 (and_r9 (and_r9 (and_r9 (and_r9 (and_r9 (and_r9 (and_r9 (and_r9 (and_r9 (and_r9 (and_r9 (and_r9 (and_r9 (and_r9 (and_r9 (and_r9 (and_r9 (and_r9 (and_r9 (and_r9 (and_r9 (and_r9 (and_r9 (and_r9 (and_r9 (and_r9 (and_r9 (and_r9 (and_r9 (and_r9 (and_r9 (and_r9 (and_r9 (and_r9 gp_3))))))))))))))))))))))))))))))))))))))))))))))))))))))))))))))))))))
set_option maxRecDepth 100000 in
theorem ok_X12_does : OkM (mQ 308) := okm_c (and_l9 (and_r9 (and_r9 (and_r9 (and_r9 (and_r9 (and_r9 (and_r9 (and_r9 (and_r9 (and_r9 (and_r9 (and_r9 (and_r9 (and_r9 (and_r9 (and_r9 (and_r9 (and_r9 (and_r9 (and_r9 (and_r9 (and_r9 (and_r9 (and_r9 (and_r9 (and_r9 (and_r9 (and_r9 (and_r9 (and_r9 (and_r9 (and_r9 (and_r9 (and_r9 (and_r9 (and_r9 (and_r9 (and_r9 (and_r9 (and_r9 (and_r9 (and_r9 (and_r9 (and_r9 (and_r9 (and_r9 (and_r9 (and_r9 (and_r9 (and_r9 (and_r9 (and_r9 (and_r9 (and_r9 (and_r9 (and_r9 (and_r9 (and_r9 (and_r9 (and_r9 (and_r9 (and_r9 (and_r9 (and_r9 (and_r9 (and_r9 (and_r9 (and_r9 gp_3)))))))))))))))))))))))))))))))))))))))))))))))))))))))))))))))))))))
set_option maxRecDepth 100000 in
theorem ok_X12_holds : OkM (mQ 309) := okm_c (and_l9 (and_r9 (and_r9 (and_r9 (and_r9 (and_r9 (and_r9 (and_r9 (and_r9 (and_r9 (and_r9 (and_r9 (and_r9 (and_r9 (and_r9 (and_r9 (and_r9 (and_r9 (and_r9 (and_r9 (and_r9 (and_r9 (and_r9 (and_r9 (and_r9 (and_r9 (and_r9 (and_r9 (and_r9 (and_r9 (and_r9 (and_r9 (and_r9 (and_r9 (and_r9 (and_r9 (and_r9 (and_r9 (and_r9 (and_r9 (and_r9 (and_r9 (and_r9 (and_r9 (and_r9 (and_r9 (and_r9 (and_r9 (and_r9 (and_r9 (and_r9 (and_r9 (and_r9 (and_r9 (and_r9 (and_r9 (and_r9 (and_r9 (and_r9 (and_r9 (and_r9 (and_r9 (and_r9 (and_r9 (and_r9 (and_r9 (and_r9 (and_r9 (and_r9 (and_r9 gp_3))))))))))))))))))))))))))))))))))))))))))))))))))))))))))))))))))))))
set_option maxRecDepth 100000 in
theorem ok_X12_doOne : OkM (mQ 310) := okm_c (and_l9 (and_r9 (and_r9 (and_r9 (and_r9 (and_r9 (and_r9 (and_r9 (and_r9 (and_r9 (and_r9 (and_r9 (and_r9 (and_r9 (and_r9 (and_r9 (and_r9 (and_r9 (and_r9 (and_r9 (and_r9 (and_r9 (and_r9 (and_r9 (and_r9 (and_r9 (and_r9 (and_r9 (and_r9 (and_r9 (and_r9 (and_r9 (and_r9 (and_r9 (and_r9 (and_r9 (and_r9 (and_r9 (and_r9 (and_r9 (and_r9 (and_r9 (and_r9 (and_r9 (and_r9 (and_r9 (and_r9 (and_r9 (and_r9 (and_r9 (and_r9 (and_r9 (and_r9 (and_r9 (and_r9 (and_r9 (and_r9 (and_r9 (and_r9 (and_r9 (and_r9 (and_r9 (and_r9 (and_r9 (and_r9 (and_r9 (and_r9 (and_r9 (and_r9 (and_r9 (and_r9 gp_3)))))))))))))))))))))))))))))))))))))))))))))))))))))))))))))))))))))))
set_option maxRecDepth 100000 in
theorem ok_X12_doAll : OkM (mQ 311) := okm_c (and_l9 (and_r9 (and_r9 (and_r9 (and_r9 (and_r9 (and_r9 (and_r9 (and_r9 (and_r9 (and_r9 (and_r9 (and_r9 (and_r9 (and_r9 (and_r9 (and_r9 (and_r9 (and_r9 (and_r9 (and_r9 (and_r9 (and_r9 (and_r9 (and_r9 (and_r9 (and_r9 (and_r9 (and_r9 (and_r9 (and_r9 (and_r9 (and_r9 (and_r9 (and_r9 (and_r9 (and_r9 (and_r9 (and_r9 (and_r9 (and_r9 (and_r9 (and_r9 (and_r9 (and_r9 (and_r9 (and_r9 (and_r9 (and_r9 (and_r9 (and_r9 (and_r9 (and_r9 (and_r9 (and_r9 (and_r9 (and_r9 (and_r9 (and_r9 (and_r9 (and_r9 (and_r9 (and_r9 (and_r9 (and_r9 (and_r9 (and_r9 (and_r9 (and_r9 (and_r9 (and_r9 (and_r9 gp_3))))))))))))))))))))))))))))))))))))))))))))))))))))))))))))))))))))))))
set_option maxRecDepth 100000 in
theorem ok_X12_runsDays : OkM (mQ 312) := okm_c (and_l9 (and_r9 (and_r9 (and_r9 (and_r9 (and_r9 (and_r9 (and_r9 (and_r9 (and_r9 (and_r9 (and_r9 (and_r9 (and_r9 (and_r9 (and_r9 (and_r9 (and_r9 (and_r9 (and_r9 (and_r9 (and_r9 (and_r9 (and_r9 (and_r9 (and_r9 (and_r9 (and_r9 (and_r9 (and_r9 (and_r9 (and_r9 (and_r9 (and_r9 (and_r9 (and_r9 (and_r9 (and_r9 (and_r9 (and_r9 (and_r9 (and_r9 (and_r9 (and_r9 (and_r9 (and_r9 (and_r9 (and_r9 (and_r9 (and_r9 (and_r9 (and_r9 (and_r9 (and_r9 (and_r9 (and_r9 (and_r9 (and_r9 (and_r9 (and_r9 (and_r9 (and_r9 (and_r9 (and_r9 (and_r9 (and_r9 (and_r9 (and_r9 (and_r9 (and_r9 (and_r9 (and_r9 (and_r9 gp_3)))))))))))))))))))))))))))))))))))))))))))))))))))))))))))))))))))))))))
set_option maxRecDepth 100000 in
theorem ok_X12_live : OkM (mQ 313) := okm_c (and_l9 (and_r9 (and_r9 (and_r9 (and_r9 (and_r9 (and_r9 (and_r9 (and_r9 (and_r9 (and_r9 (and_r9 (and_r9 (and_r9 (and_r9 (and_r9 (and_r9 (and_r9 (and_r9 (and_r9 (and_r9 (and_r9 (and_r9 (and_r9 (and_r9 (and_r9 (and_r9 (and_r9 (and_r9 (and_r9 (and_r9 (and_r9 (and_r9 (and_r9 (and_r9 (and_r9 (and_r9 (and_r9 (and_r9 (and_r9 (and_r9 (and_r9 (and_r9 (and_r9 (and_r9 (and_r9 (and_r9 (and_r9 (and_r9 (and_r9 (and_r9 (and_r9 (and_r9 (and_r9 (and_r9 (and_r9 (and_r9 (and_r9 (and_r9 (and_r9 (and_r9 (and_r9 (and_r9 (and_r9 (and_r9 (and_r9 (and_r9 (and_r9 (and_r9 (and_r9 (and_r9 (and_r9 (and_r9 (and_r9 gp_3))))))))))))))))))))))))))))))))))))))))))))))))))))))))))))))))))))))))))
set_option maxRecDepth 100000 in
theorem ok_X12_lived : OkM (mQ 314) := okm_c (and_l9 (and_r9 (and_r9 (and_r9 (and_r9 (and_r9 (and_r9 (and_r9 (and_r9 (and_r9 (and_r9 (and_r9 (and_r9 (and_r9 (and_r9 (and_r9 (and_r9 (and_r9 (and_r9 (and_r9 (and_r9 (and_r9 (and_r9 (and_r9 (and_r9 (and_r9 (and_r9 (and_r9 (and_r9 (and_r9 (and_r9 (and_r9 (and_r9 (and_r9 (and_r9 (and_r9 (and_r9 (and_r9 (and_r9 (and_r9 (and_r9 (and_r9 (and_r9 (and_r9 (and_r9 (and_r9 (and_r9 (and_r9 (and_r9 (and_r9 (and_r9 (and_r9 (and_r9 (and_r9 (and_r9 (and_r9 (and_r9 (and_r9 (and_r9 (and_r9 (and_r9 (and_r9 (and_r9 (and_r9 (and_r9 (and_r9 (and_r9 (and_r9 (and_r9 (and_r9 (and_r9 (and_r9 (and_r9 (and_r9 (and_r9 gp_3)))))))))))))))))))))))))))))))))))))))))))))))))))))))))))))))))))))))))))
set_option maxRecDepth 100000 in
theorem ok_X12_mean : OkM (mQ 315) := okm_c (and_l9 (and_r9 (and_r9 (and_r9 (and_r9 (and_r9 (and_r9 (and_r9 (and_r9 (and_r9 (and_r9 (and_r9 (and_r9 (and_r9 (and_r9 (and_r9 (and_r9 (and_r9 (and_r9 (and_r9 (and_r9 (and_r9 (and_r9 (and_r9 (and_r9 (and_r9 (and_r9 (and_r9 (and_r9 (and_r9 (and_r9 (and_r9 (and_r9 (and_r9 (and_r9 (and_r9 (and_r9 (and_r9 (and_r9 (and_r9 (and_r9 (and_r9 (and_r9 (and_r9 (and_r9 (and_r9 (and_r9 (and_r9 (and_r9 (and_r9 (and_r9 (and_r9 (and_r9 (and_r9 (and_r9 (and_r9 (and_r9 (and_r9 (and_r9 (and_r9 (and_r9 (and_r9 (and_r9 (and_r9 (and_r9 (and_r9 (and_r9 (and_r9 (and_r9 (and_r9 (and_r9 (and_r9 (and_r9 (and_r9 (and_r9 (and_r9 gp_3))))))))))))))))))))))))))))))))))))))))))))))))))))))))))))))))))))))))))))
set_option maxRecDepth 100000 in
theorem ok_X12_copy : OkM (mQ 316) := okm_c (and_l9 (and_r9 (and_r9 (and_r9 (and_r9 (and_r9 (and_r9 (and_r9 (and_r9 (and_r9 (and_r9 (and_r9 (and_r9 (and_r9 (and_r9 (and_r9 (and_r9 (and_r9 (and_r9 (and_r9 (and_r9 (and_r9 (and_r9 (and_r9 (and_r9 (and_r9 (and_r9 (and_r9 (and_r9 (and_r9 (and_r9 (and_r9 (and_r9 (and_r9 (and_r9 (and_r9 (and_r9 (and_r9 (and_r9 (and_r9 (and_r9 (and_r9 (and_r9 (and_r9 (and_r9 (and_r9 (and_r9 (and_r9 (and_r9 (and_r9 (and_r9 (and_r9 (and_r9 (and_r9 (and_r9 (and_r9 (and_r9 (and_r9 (and_r9 (and_r9 (and_r9 (and_r9 (and_r9 (and_r9 (and_r9 (and_r9 (and_r9 (and_r9 (and_r9 (and_r9 (and_r9 (and_r9 (and_r9 (and_r9 (and_r9 (and_r9 (and_r9 gp_3)))))))))))))))))))))))))))))))))))))))))))))))))))))))))))))))))))))))))))))
set_option maxRecDepth 100000 in
theorem ok_X12_mark : OkM (mQ 317) := okm_c (and_l9 (and_r9 (and_r9 (and_r9 (and_r9 (and_r9 (and_r9 (and_r9 (and_r9 (and_r9 (and_r9 (and_r9 (and_r9 (and_r9 (and_r9 (and_r9 (and_r9 (and_r9 (and_r9 (and_r9 (and_r9 (and_r9 (and_r9 (and_r9 (and_r9 (and_r9 (and_r9 (and_r9 (and_r9 (and_r9 (and_r9 (and_r9 (and_r9 (and_r9 (and_r9 (and_r9 (and_r9 (and_r9 (and_r9 (and_r9 (and_r9 (and_r9 (and_r9 (and_r9 (and_r9 (and_r9 (and_r9 (and_r9 (and_r9 (and_r9 (and_r9 (and_r9 (and_r9 (and_r9 (and_r9 (and_r9 (and_r9 (and_r9 (and_r9 (and_r9 (and_r9 (and_r9 (and_r9 (and_r9 (and_r9 (and_r9 (and_r9 (and_r9 (and_r9 (and_r9 (and_r9 (and_r9 (and_r9 (and_r9 (and_r9 (and_r9 (and_r9 (and_r9 gp_3))))))))))))))))))))))))))))))))))))))))))))))))))))))))))))))))))))))))))))))
set_option maxRecDepth 100000 in
theorem ok_X12_back : OkM (mQ 318) := okm_c (and_l9 (and_r9 (and_r9 (and_r9 (and_r9 (and_r9 (and_r9 (and_r9 (and_r9 (and_r9 (and_r9 (and_r9 (and_r9 (and_r9 (and_r9 (and_r9 (and_r9 (and_r9 (and_r9 (and_r9 (and_r9 (and_r9 (and_r9 (and_r9 (and_r9 (and_r9 (and_r9 (and_r9 (and_r9 (and_r9 (and_r9 (and_r9 (and_r9 (and_r9 (and_r9 (and_r9 (and_r9 (and_r9 (and_r9 (and_r9 (and_r9 (and_r9 (and_r9 (and_r9 (and_r9 (and_r9 (and_r9 (and_r9 (and_r9 (and_r9 (and_r9 (and_r9 (and_r9 (and_r9 (and_r9 (and_r9 (and_r9 (and_r9 (and_r9 (and_r9 (and_r9 (and_r9 (and_r9 (and_r9 (and_r9 (and_r9 (and_r9 (and_r9 (and_r9 (and_r9 (and_r9 (and_r9 (and_r9 (and_r9 (and_r9 (and_r9 (and_r9 (and_r9 (and_r9 gp_3)))))))))))))))))))))))))))))))))))))))))))))))))))))))))))))))))))))))))))))))
set_option maxRecDepth 100000 in
theorem ok_J6_bitCount_0f7a4 : OkM (mQ 319) := okm_c (and_l9 (and_r9 (and_r9 (and_r9 (and_r9 (and_r9 (and_r9 (and_r9 (and_r9 (and_r9 (and_r9 (and_r9 (and_r9 (and_r9 (and_r9 (and_r9 (and_r9 (and_r9 (and_r9 (and_r9 (and_r9 (and_r9 (and_r9 (and_r9 (and_r9 (and_r9 (and_r9 (and_r9 (and_r9 (and_r9 (and_r9 (and_r9 (and_r9 (and_r9 (and_r9 (and_r9 (and_r9 (and_r9 (and_r9 (and_r9 (and_r9 (and_r9 (and_r9 (and_r9 (and_r9 (and_r9 (and_r9 (and_r9 (and_r9 (and_r9 (and_r9 (and_r9 (and_r9 (and_r9 (and_r9 (and_r9 (and_r9 (and_r9 (and_r9 (and_r9 (and_r9 (and_r9 (and_r9 (and_r9 (and_r9 (and_r9 (and_r9 (and_r9 (and_r9 (and_r9 (and_r9 (and_r9 (and_r9 (and_r9 (and_r9 (and_r9 (and_r9 (and_r9 (and_r9 (and_r9 gp_3))))))))))))))))))))))))))))))))))))))))))))))))))))))))))))))))))))))))))))))))
set_option maxRecDepth 100000 in
theorem ok_J7_fill_d0a16 : OkM (mQ 320) := okm_c (and_l9 (and_r9 (and_r9 (and_r9 (and_r9 (and_r9 (and_r9 (and_r9 (and_r9 (and_r9 (and_r9 (and_r9 (and_r9 (and_r9 (and_r9 (and_r9 (and_r9 (and_r9 (and_r9 (and_r9 (and_r9 (and_r9 (and_r9 (and_r9 (and_r9 (and_r9 (and_r9 (and_r9 (and_r9 (and_r9 (and_r9 (and_r9 (and_r9 (and_r9 (and_r9 (and_r9 (and_r9 (and_r9 (and_r9 (and_r9 (and_r9 (and_r9 (and_r9 (and_r9 (and_r9 (and_r9 (and_r9 (and_r9 (and_r9 (and_r9 (and_r9 (and_r9 (and_r9 (and_r9 (and_r9 (and_r9 (and_r9 (and_r9 (and_r9 (and_r9 (and_r9 (and_r9 (and_r9 (and_r9 (and_r9 (and_r9 (and_r9 (and_r9 (and_r9 (and_r9 (and_r9 (and_r9 (and_r9 (and_r9 (and_r9 (and_r9 (and_r9 (and_r9 (and_r9 (and_r9 (and_r9 gp_3)))))))))))))))))))))))))))))))))))))))))))))))))))))))))))))))))))))))))))))))))
set_option maxRecDepth 100000 in
theorem ok_J7_fill_53178 : OkM (mQ 321) := okm_c (and_r9 (and_r9 (and_r9 (and_r9 (and_r9 (and_r9 (and_r9 (and_r9 (and_r9 (and_r9 (and_r9 (and_r9 (and_r9 (and_r9 (and_r9 (and_r9 (and_r9 (and_r9 (and_r9 (and_r9 (and_r9 (and_r9 (and_r9 (and_r9 (and_r9 (and_r9 (and_r9 (and_r9 (and_r9 (and_r9 (and_r9 (and_r9 (and_r9 (and_r9 (and_r9 (and_r9 (and_r9 (and_r9 (and_r9 (and_r9 (and_r9 (and_r9 (and_r9 (and_r9 (and_r9 (and_r9 (and_r9 (and_r9 (and_r9 (and_r9 (and_r9 (and_r9 (and_r9 (and_r9 (and_r9 (and_r9 (and_r9 (and_r9 (and_r9 (and_r9 (and_r9 (and_r9 (and_r9 (and_r9 (and_r9 (and_r9 (and_r9 (and_r9 (and_r9 (and_r9 (and_r9 (and_r9 (and_r9 (and_r9 (and_r9 (and_r9 (and_r9 (and_r9 (and_r9 (and_r9 (and_r9 gp_3)))))))))))))))))))))))))))))))))))))))))))))))))))))))))))))))))))))))))))))))))
theorem ok_all : ∀ mi, mi < nMth → OkM (mQ mi)
  | 0, _ => ok_X0_init
  | 1, _ => ok_X0_forget
  | 2, _ => ok_X0_copyFrom
  | 3, _ => ok_X0_isMan
  | 4, _ => ok_X0_addMan
  | 5, _ => ok_X0_manNamed
  | 6, _ => ok_X0_pieces
  | 7, _ => ok_X0_stockSet
  | 8, _ => ok_X0_stockCrumbs
  | 9, _ => ok_X0_holding
  | 10, _ => ok_X0_allHoldings
  | 11, _ => ok_X0_lacking
  | 12, _ => ok_X0_evenMen
  | 13, _ => ok_X0_giftsFor
  | 14, _ => ok_X0_addLoaves
  | 15, _ => ok_X0_cutUp
  | 16, _ => ok_X0_stockAfterCut
  | 17, _ => ok_X0_splitUp
  | 18, _ => ok_X0_handOver
  | 19, _ => ok_X0_handBack
  | 20, _ => ok_X1_init
  | 21, _ => ok_X1_readInto
  | 22, _ => ok_X1_readOdds
  | 23, _ => ok_X1_readStore
  | 24, _ => ok_X1_readMan
  | 25, _ => ok_X1_readKnown
  | 26, _ => ok_X1_takeSlices
  | 27, _ => ok_X2_init
  | 28, _ => ok_X2_forget
  | 29, _ => ok_X2_copyFrom
  | 30, _ => ok_X2_add
  | 31, _ => ok_X2_pair
  | 32, _ => ok_X3_init
  | 33, _ => ok_X3_readInto
  | 34, _ => ok_X3_readEnd
  | 35, _ => ok_X3_readStep
  | 36, _ => ok_X3_readAct
  | 37, _ => ok_X3_readCut
  | 38, _ => ok_X3_readTest
  | 39, _ => ok_X3_takeMan
  | 40, _ => ok_X4_init
  | 41, _ => ok_X4_run
  | 42, _ => ok_X4_behindEnd
  | 43, _ => ok_X4_behindStep
  | 44, _ => ok_X4_holdsTrue
  | 45, _ => ok_X4_compares
  | 46, _ => ok_X4_act
  | 47, _ => ok_X4_doAny
  | 48, _ => ok_X4_cutUp
  | 49, _ => ok_X4_splitUp
  | 50, _ => ok_X4_handOver
  | 51, _ => ok_X4_addLoaves
  | 52, _ => ok_X4_draw
  | 53, _ => ok_X5_init
  | 54, _ => ok_X5_find
  | 55, _ => ok_X5_countSteps
  | 56, _ => ok_X5_follow
  | 57, _ => ok_X5_comesOf
  | 58, _ => ok_X6_init
  | 59, _ => ok_X6_hasRoom
  | 60, _ => ok_X6_append
  | 61, _ => ok_X6_open
  | 62, _ => ok_X6_advance
  | 63, _ => ok_X6_readWord
  | 64, _ => ok_X6_readNumber
  | 65, _ => ok_X6_wrong
  | 66, _ => ok_X6_misplaced
  | 67, _ => ok_X6_wrongTaken
  | 68, _ => ok_X6_takeAny
  | 69, _ => ok_X6_takeWord
  | 70, _ => ok_X6_takeSemicolon
  | 71, _ => ok_X6_takeCompares
  | 72, _ => ok_X6_takeNumber
  | 73, _ => ok_X6_takeName
  | 74, _ => ok_X7_init
  | 75, _ => ok_X7_begin
  | 76, _ => ok_X7_findFewest
  | 77, _ => ok_X7_findKindest
  | 78, _ => ok_X7_countAll
  | 79, _ => ok_X7_seekRowsOf
  | 80, _ => ok_X7_hasBest
  | 81, _ => ok_X7_bestQuestion
  | 82, _ => ok_X7_seek
  | 83, _ => ok_X7_putLast
  | 84, _ => ok_X7_meet
  | 85, _ => ok_X8_init
  | 86, _ => ok_X8_findAll
  | 87, _ => ok_X8_fixAt
  | 88, _ => ok_X9_init
  | 89, _ => ok_X9_lay
  | 90, _ => ok_X9_addSlice
  | 91, _ => ok_X9_firstWinning
  | 92, _ => ok_X9_winningPlace
  | 93, _ => ok_X9_countWithin
  | 94, _ => ok_X10_init
  | 95, _ => ok_X10_isMissing
  | 96, _ => ok_X10_lay
  | 97, _ => ok_X10_hasPlaces
  | 98, _ => ok_X10_put
  | 99, _ => ok_X11_init
  | 100, _ => ok_X11_status
  | 101, _ => ok_X11_top
  | 102, _ => ok_X11_bottom
  | 103, _ => ok_X11_tray
  | 104, _ => ok_X11_write
  | 105, _ => ok_X11_read
  | 106, _ => ok_X11_pour
  | 107, _ => ok_X11_feed
  | 108, _ => ok_X11_bakery
  | 109, _ => ok_X11_days
  | 110, _ => ok_X11_fault
  | 111, _ => ok_X11_many
  | 112, _ => ok_X11_store
  | 113, _ => ok_X11_man
  | 114, _ => ok_X11_has
  | 115, _ => ok_X11_lacks
  | 116, _ => ok_X11_worth
  | 117, _ => ok_X11_copyStore
  | 118, _ => ok_X11_bake
  | 119, _ => ok_X11_cut
  | 120, _ => ok_X11_split
  | 121, _ => ok_X11_give
  | 122, _ => ok_X11_take
  | 123, _ => ok_X11_owe
  | 124, _ => ok_X11_come
  | 125, _ => ok_X11_learn
  | 126, _ => ok_X11_rule
  | 127, _ => ok_X11_fewest
  | 128, _ => ok_X11_fewestAt
  | 129, _ => ok_X11_ways
  | 130, _ => ok_X11_oddsThat
  | 131, _ => ok_X11_ask
  | 132, _ => ok_X11_kindestAt
  | 133, _ => ok_X11_greedyAt
  | 134, _ => ok_X11_slips
  | 135, _ => ok_X11_slipAt
  | 136, _ => ok_X11_reach
  | 137, _ => ok_X11_reachAt
  | 138, _ => ok_X11_fill
  | 139, _ => ok_X11_fillAt
  | 140, _ => ok_X11_plate
  | 141, _ => ok_X11_plateMove
  | 142, _ => ok_X11_luck
  | 143, _ => ok_X11_burnt
  | 144, _ => ok_X11_live
  | 145, _ => ok_X11_lived
  | 146, _ => ok_X11_mean
  | 147, _ => ok_X11_mark
  | 148, _ => ok_X11_back
  | 149, _ => ok_X11_refuse
  | 150, _ => ok_X11_deny
  | 151, _ => ok_X11_answer
  | 152, _ => ok_X11_allow
  | 153, _ => ok_X11_answerSize
  | 154, _ => ok_X11_answerSlice
  | 155, _ => ok_X11_tell
  | 156, _ => ok_X11_trayStatus
  | 157, _ => ok_X11_placeStatus
  | 158, _ => ok_X11_placesStatus
  | 159, _ => ok_X11_slipStatus
  | 160, _ => ok_X11_isTray
  | 161, _ => ok_X11_isSlice
  | 162, _ => ok_X11_isShare
  | 163, _ => ok_X11_isRowSize
  | 164, _ => ok_X11_isPlateSet
  | 165, _ => ok_X11_bit
  | 166, _ => ok_X11_isIn
  | 167, _ => ok_X11_crumbs
  | 168, _ => ok_X11_commonDivisor
  | 169, _ => ok_X11_power
  | 170, _ => ok_X11_choices
  | 171, _ => ok_X11_greedyNumber
  | 172, _ => ok_X12_init
  | 173, _ => ok_X12_status
  | 174, _ => ok_X12_top
  | 175, _ => ok_X12_bottom
  | 176, _ => ok_X12_refuse
  | 177, _ => ok_X12_no
  | 178, _ => ok_X12_isIn
  | 179, _ => ok_X12_fraction
  | 180, _ => ok_X12_trims
  | 181, _ => ok_X12_tray
  | 182, _ => ok_X12_trayed
  | 183, _ => ok_X12_placed
  | 184, _ => ok_X12_write
  | 185, _ => ok_X12_read
  | 186, _ => ok_X12_pour
  | 187, _ => ok_X12_numberOf
  | 188, _ => ok_X12_isTray
  | 189, _ => ok_X12_isOf
  | 190, _ => ok_X12_sizeOf
  | 191, _ => ok_X12_look2
  | 192, _ => ok_X12_isLetter
  | 193, _ => ok_X12_isDigit
  | 194, _ => ok_X12_isSignByte
  | 195, _ => ok_X12_advance
  | 196, _ => ok_X12_isSign
  | 197, _ => ok_X12_spelled
  | 198, _ => ok_X12_isWord
  | 199, _ => ok_X12_isOdds
  | 200, _ => ok_X12_isStore
  | 201, _ => ok_X12_isTimes
  | 202, _ => ok_X12_isMan
  | 203, _ => ok_X12_isDue
  | 204, _ => ok_X12_isBy
  | 205, _ => ok_X12_isHas
  | 206, _ => ok_X12_isKnown
  | 207, _ => ok_X12_stepWord
  | 208, _ => ok_X12_testWord
  | 209, _ => ok_X12_isEnd
  | 210, _ => ok_X12_isKept
  | 211, _ => ok_X12_isName
  | 212, _ => ok_X12_fail
  | 213, _ => ok_X12_amiss
  | 214, _ => ok_X12_must
  | 215, _ => ok_X12_mayBe
  | 216, _ => ok_X12_count
  | 217, _ => ok_X12_behindWord
  | 218, _ => ok_X12_perhaps
  | 219, _ => ok_X12_readSlices
  | 220, _ => ok_X12_feed
  | 221, _ => ok_X12_lay
  | 222, _ => ok_X12_starts
  | 223, _ => ok_X12_isWell
  | 224, _ => ok_X12_fault
  | 225, _ => ok_X12_empties
  | 226, _ => ok_X12_named
  | 227, _ => ok_X12_readTold
  | 228, _ => ok_X12_readOdds
  | 229, _ => ok_X12_readKnown
  | 230, _ => ok_X12_readStore
  | 231, _ => ok_X12_readMan
  | 232, _ => ok_X12_readPart
  | 233, _ => ok_X12_bakery
  | 234, _ => ok_X12_readTest
  | 235, _ => ok_X12_readRest
  | 236, _ => ok_X12_readStep
  | 237, _ => ok_X12_days
  | 238, _ => ok_X12_isSlice
  | 239, _ => ok_X12_isManAt
  | 240, _ => ok_X12_partsOf
  | 241, _ => ok_X12_shareOf
  | 242, _ => ok_X12_isShare
  | 243, _ => ok_X12_sumOf
  | 244, _ => ok_X12_lackOf
  | 245, _ => ok_X12_held
  | 246, _ => ok_X12_heldSet
  | 247, _ => ok_X12_evenOnes
  | 248, _ => ok_X12_many
  | 249, _ => ok_X12_store
  | 250, _ => ok_X12_man
  | 251, _ => ok_X12_has
  | 252, _ => ok_X12_lacks
  | 253, _ => ok_X12_worth
  | 254, _ => ok_X12_copyStore
  | 255, _ => ok_X12_areMore
  | 256, _ => ok_X12_isOver
  | 257, _ => ok_X12_cuts
  | 258, _ => ok_X12_cut
  | 259, _ => ok_X12_splits
  | 260, _ => ok_X12_split
  | 261, _ => ok_X12_bakes
  | 262, _ => ok_X12_bake
  | 263, _ => ok_X12_gives
  | 264, _ => ok_X12_give
  | 265, _ => ok_X12_takes
  | 266, _ => ok_X12_take
  | 267, _ => ok_X12_owe
  | 268, _ => ok_X12_come
  | 269, _ => ok_X12_learn
  | 270, _ => ok_X12_rule
  | 271, _ => ok_X12_rows
  | 272, _ => ok_X12_laysRows
  | 273, _ => ok_X12_fewestOf
  | 274, _ => ok_X12_answer
  | 275, _ => ok_X12_fewest
  | 276, _ => ok_X12_fewestAt
  | 277, _ => ok_X12_ways
  | 278, _ => ok_X12_oddsThat
  | 279, _ => ok_X12_ask
  | 280, _ => ok_X12_kindestOf
  | 281, _ => ok_X12_kindestAt
  | 282, _ => ok_X12_greedyAt
  | 283, _ => ok_X12_whyNoRow
  | 284, _ => ok_X12_isRow
  | 285, _ => ok_X12_laysSlips
  | 286, _ => ok_X12_slips
  | 287, _ => ok_X12_slipAt
  | 288, _ => ok_X12_comesOf
  | 289, _ => ok_X12_laysReach
  | 290, _ => ok_X12_reachFrom
  | 291, _ => ok_X12_reach
  | 292, _ => ok_X12_reachAt
  | 293, _ => ok_X12_fillOf
  | 294, _ => ok_X12_fill
  | 295, _ => ok_X12_fillAt
  | 296, _ => ok_X12_isSet
  | 297, _ => ok_X12_plate
  | 298, _ => ok_X12_plateMove
  | 299, _ => ok_X12_plates
  | 300, _ => ok_X12_lucks
  | 301, _ => ok_X12_choices
  | 302, _ => ok_X12_luck
  | 303, _ => ok_X12_burnt
  | 304, _ => ok_X12_draw
  | 305, _ => ok_X12_isGiven
  | 306, _ => ok_X12_isBaked
  | 307, _ => ok_X12_isAny
  | 308, _ => ok_X12_does
  | 309, _ => ok_X12_holds
  | 310, _ => ok_X12_doOne
  | 311, _ => ok_X12_doAll
  | 312, _ => ok_X12_runsDays
  | 313, _ => ok_X12_live
  | 314, _ => ok_X12_lived
  | 315, _ => ok_X12_mean
  | 316, _ => ok_X12_copy
  | 317, _ => ok_X12_mark
  | 318, _ => ok_X12_back
  | 319, _ => ok_J6_bitCount_0f7a4
  | 320, _ => ok_J7_fill_d0a16
  | 321, _ => ok_J7_fill_53178
  | k + 322, h => absurd (show k + 322 < 322 from h) (by omega)
