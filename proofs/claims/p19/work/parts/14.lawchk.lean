/-! printed by chk.py: the law's code held against its bytes and the words; words for the start -/
set_option maxRecDepth 100000 in
theorem lok_0 : ∀ e ∈ kL_law_0, okE RL code 4 0 e = true := List.all_eq_true.mp (by decide +kernel)
set_option maxRecDepth 100000 in
theorem lnd_0 : ∀ e ∈ kL_law_0, ∀ w ∈ needE RL e, w ∈ wsG := need_ok [142, 143, 121, 144, 145, 121, 1304, 1305, 137, 1306, 1307, 137, 601, 602, 603, 121, 1463, 1464, 1465, 137, 605, 606, 607, 121, 1467, 1468, 1469, 137, 609, 610, 611, 121, 1471, 1472, 1473, 137, 613, 614, 615, 121, 1475, 1476, 1477, 137] (by decide +kernel) (by decide +kernel)
set_option maxRecDepth 100000 in
theorem lok_1 : ∀ e ∈ kL_law_1, okE RL code 4 0 e = true := List.all_eq_true.mp (by decide +kernel)
set_option maxRecDepth 100000 in
theorem lnd_1 : ∀ e ∈ kL_law_1, ∀ w ∈ needE RL e, w ∈ wsG := need_ok [2050, 635, 636, 637, 121, 2050, 1483, 1484, 1485, 137, 660, 661, 662, 121, 1498, 1499, 1500, 137, 668, 669, 670, 121] (by decide +kernel) (by decide +kernel)
set_option maxRecDepth 100000 in
theorem lok_2 : ∀ e ∈ kL_law_2, okE RL code 4 0 e = true := List.all_eq_true.mp (by decide +kernel)
set_option maxRecDepth 100000 in
theorem lnd_2 : ∀ e ∈ kL_law_2, ∀ w ∈ needE RL e, w ∈ wsG := need_ok [1503, 1504, 1505, 137, 675, 676, 677, 121, 1507, 1508, 1509, 137, 688, 689, 690, 121, 1519, 1520, 1521, 137] (by decide +kernel) (by decide +kernel)
set_option maxRecDepth 100000 in
theorem lok_3 : ∀ e ∈ kL_law_3, okE RL code 4 0 e = true := List.all_eq_true.mp (by decide +kernel)
set_option maxRecDepth 100000 in
theorem lnd_3 : ∀ e ∈ kL_law_3, ∀ w ∈ needE RL e, w ∈ wsG := need_ok [807, 808, 809, 121, 1680, 1681, 1682, 137, 855, 856, 857, 121, 1515, 1516, 1517, 137, 859, 860, 861, 121, 1701, 1702, 1703, 137, 895, 896, 897, 121, 1739, 1740, 1741, 137, 900, 901, 902, 121, 1747, 1748, 1749, 137] (by decide +kernel) (by decide +kernel)
set_option maxRecDepth 100000 in
theorem lok_4 : ∀ e ∈ kL_law_4, okE RL code 4 0 e = true := List.all_eq_true.mp (by decide +kernel)
set_option maxRecDepth 100000 in
theorem lnd_4 : ∀ e ∈ kL_law_4, ∀ w ∈ needE RL e, w ∈ wsG := need_ok [905, 906, 907, 121, 1756, 1757, 1758, 137, 920, 921, 922, 121, 1765, 1766, 1767, 137, 925, 926, 927, 121, 1769, 1770, 1771, 137, 933, 934, 935, 121, 1773, 1774, 1775, 137, 941, 942, 943, 121, 1807, 1808, 1809, 137, 949, 950, 951, 121] (by decide +kernel) (by decide +kernel)
set_option maxRecDepth 100000 in
theorem lok_5 : ∀ e ∈ kL_law_5, okE RL code 4 0 e = true := List.all_eq_true.mp (by decide +kernel)
set_option maxRecDepth 100000 in
theorem lnd_5 : ∀ e ∈ kL_law_5, ∀ w ∈ needE RL e, w ∈ wsG := need_ok [1783, 1784, 1785, 137, 962, 963, 964, 121, 1795, 1796, 1797, 137, 970, 971, 972, 121, 1816, 1817, 1818, 137, 979, 980, 981, 121, 1824, 1825, 1826, 137] (by decide +kernel) (by decide +kernel)
set_option maxRecDepth 100000 in
theorem lok_6 : ∀ e ∈ kL_law_6, okE RL code 4 0 e = true := List.all_eq_true.mp (by decide +kernel)
set_option maxRecDepth 100000 in
theorem lnd_6 : ∀ e ∈ kL_law_6, ∀ w ∈ needE RL e, w ∈ wsG := need_ok [987, 988, 989, 121, 1832, 1833, 1834, 137, 994, 995, 996, 121, 1839, 1840, 1841, 137, 999, 1000, 1001, 121, 1843, 1844, 1845, 137] (by decide +kernel) (by decide +kernel)
set_option maxRecDepth 100000 in
theorem lok_7 : ∀ e ∈ kL_law_7, okE RL code 4 0 e = true := List.all_eq_true.mp (by decide +kernel)
set_option maxRecDepth 100000 in
theorem lnd_7 : ∀ e ∈ kL_law_7, ∀ w ∈ needE RL e, w ∈ wsG := need_ok [1005, 1006, 1007, 121, 1847, 1848, 1849, 137, 1009, 1010, 1011, 121, 1852, 1853, 1854, 137, 1048, 1049, 1050, 121, 1872, 1873, 1874, 137, 1060, 1061, 1062, 121] (by decide +kernel) (by decide +kernel)
set_option maxRecDepth 100000 in
theorem lok_8 : ∀ e ∈ kL_law_8, okE RL code 4 0 e = true := List.all_eq_true.mp (by decide +kernel)
set_option maxRecDepth 100000 in
theorem lnd_8 : ∀ e ∈ kL_law_8, ∀ w ∈ needE RL e, w ∈ wsG := need_ok [1876, 1877, 1878, 137, 1071, 1072, 1073, 121, 1881, 1882, 1883, 137, 1075, 1076, 1077, 121, 1885, 1886, 1887, 137] (by decide +kernel) (by decide +kernel)
set_option maxRecDepth 100000 in
theorem lok_9 : ∀ e ∈ kL_law_9, okE RL code 4 0 e = true := List.all_eq_true.mp (by decide +kernel)
set_option maxRecDepth 100000 in
theorem lnd_9 : ∀ e ∈ kL_law_9, ∀ w ∈ needE RL e, w ∈ wsG := need_ok [1084, 1085, 1086, 121, 1889, 1890, 1891, 137, 1092, 1093, 1094, 121, 1897, 1898, 1899, 137, 1100, 1101, 1102, 121] (by decide +kernel) (by decide +kernel)
set_option maxRecDepth 100000 in
theorem lok_10 : ∀ e ∈ kL_law_10, okE RL code 4 0 e = true := List.all_eq_true.mp (by decide +kernel)
set_option maxRecDepth 100000 in
theorem lnd_10 : ∀ e ∈ kL_law_10, ∀ w ∈ needE RL e, w ∈ wsG := need_ok [1902, 1903, 1904, 137, 1121, 1122, 1123, 121, 1923, 1924, 1925, 137, 1125, 1126, 1127, 121] (by decide +kernel) (by decide +kernel)
set_option maxRecDepth 100000 in
theorem lok_11 : ∀ e ∈ kL_law_11, okE RL code 4 0 e = true := List.all_eq_true.mp (by decide +kernel)
set_option maxRecDepth 100000 in
theorem lnd_11 : ∀ e ∈ kL_law_11, ∀ w ∈ needE RL e, w ∈ wsG := need_ok [1927, 1928, 1929, 137, 1146, 1147, 1148, 121, 1942, 1943, 1944, 137, 1150, 1151, 1152, 121, 1946, 1947, 1948, 137, 1159, 1160, 1161, 121, 1954, 1955, 1956, 137, 1163, 1164, 1165, 121, 1958, 1959, 1960, 137, 1190, 1191, 1192, 121] (by decide +kernel) (by decide +kernel)
set_option maxRecDepth 100000 in
theorem lok_12 : ∀ e ∈ kL_law_12, okE RL code 4 0 e = true := List.all_eq_true.mp (by decide +kernel)
set_option maxRecDepth 100000 in
theorem lnd_12 : ∀ e ∈ kL_law_12, ∀ w ∈ needE RL e, w ∈ wsG := need_ok [1970, 1971, 1972, 137, 1194, 1195, 1196, 121, 1974, 1975, 1976, 137, 1206, 1207, 1208, 121, 1986, 1987, 1988, 137, 1213, 1214, 1215, 121, 1990, 1991, 1992, 137] (by decide +kernel) (by decide +kernel)
set_option maxRecDepth 100000 in
theorem lok_13 : ∀ e ∈ kL_law_13, okE RL code 4 0 e = true := List.all_eq_true.mp (by decide +kernel)
set_option maxRecDepth 100000 in
theorem lnd_13 : ∀ e ∈ kL_law_13, ∀ w ∈ needE RL e, w ∈ wsG := need_ok [1274, 1275, 1276, 121, 2032, 2033, 2034, 137, 1278, 1279, 1280, 121, 2037, 2038, 2039, 137, 1291, 1292, 1293, 121, 2042, 2043, 2044, 137, 1300, 1301, 1302, 121, 2046, 2047, 2048, 137] (by decide +kernel) (by decide +kernel)
theorem law_okE : ∀ e ∈ kL_law, okE RL code 4 0 e = true := List.forall_mem_append.mpr ⟨lok_0, List.forall_mem_append.mpr ⟨lok_1, List.forall_mem_append.mpr ⟨lok_2, List.forall_mem_append.mpr ⟨lok_3, List.forall_mem_append.mpr ⟨lok_4, List.forall_mem_append.mpr ⟨lok_5, List.forall_mem_append.mpr ⟨lok_6, List.forall_mem_append.mpr ⟨lok_7, List.forall_mem_append.mpr ⟨lok_8, List.forall_mem_append.mpr ⟨lok_9, List.forall_mem_append.mpr ⟨lok_10, List.forall_mem_append.mpr ⟨lok_11, List.forall_mem_append.mpr ⟨lok_12, lok_13⟩⟩⟩⟩⟩⟩⟩⟩⟩⟩⟩⟩⟩
theorem law_need : ∀ e ∈ kL_law, ∀ w ∈ needE RL e, w ∈ wsG := List.forall_mem_append.mpr ⟨lnd_0, List.forall_mem_append.mpr ⟨lnd_1, List.forall_mem_append.mpr ⟨lnd_2, List.forall_mem_append.mpr ⟨lnd_3, List.forall_mem_append.mpr ⟨lnd_4, List.forall_mem_append.mpr ⟨lnd_5, List.forall_mem_append.mpr ⟨lnd_6, List.forall_mem_append.mpr ⟨lnd_7, List.forall_mem_append.mpr ⟨lnd_8, List.forall_mem_append.mpr ⟨lnd_9, List.forall_mem_append.mpr ⟨lnd_10, List.forall_mem_append.mpr ⟨lnd_11, List.forall_mem_append.mpr ⟨lnd_12, lnd_13⟩⟩⟩⟩⟩⟩⟩⟩⟩⟩⟩⟩⟩
theorem inst_all : ∀ k, k < 13 → Cond.instantiable (clC k) (clN k) ∈ lw_tbl
  | 0, _ => List.mem_of_getElem? (i := 293) (by decide +kernel)
  | 1, _ => List.mem_of_getElem? (i := 263) (by decide +kernel)
  | 2, _ => List.mem_of_getElem? (i := 344) (by decide +kernel)
  | 3, _ => List.mem_of_getElem? (i := 279) (by decide +kernel)
  | 4, _ => List.mem_of_getElem? (i := 481) (by decide +kernel)
  | 5, _ => List.mem_of_getElem? (i := 442) (by decide +kernel)
  | 6, _ => List.mem_of_getElem? (i := 153) (by decide +kernel)
  | 7, _ => List.mem_of_getElem? (i := 388) (by decide +kernel)
  | 8, _ => List.mem_of_getElem? (i := 423) (by decide +kernel)
  | 9, _ => List.mem_of_getElem? (i := 460) (by decide +kernel)
  | 10, _ => List.mem_of_getElem? (i := 521) (by decide +kernel)
  | 11, _ => List.mem_of_getElem? (i := 143) (by decide +kernel)
  | 12, _ => List.mem_of_getElem? (i := 1305) (by decide +kernel)
theorem nest_mem : ∀ q ∈ nestW, Cond.methodLinkNest q.1 q.2.1 q.2.2 "BreadScribes" ∈ lw_tbl := by
  have h : nestW.map (fun q => Cond.methodLinkNest q.1 q.2.1 q.2.2 "BreadScribes") = [264, 280, 294, 345, 389, 424, 443, 461, 482, 522, 759, 762, 765, 871, 886, 894, 957, 1036, 1042, 1043, 1116, 1117, 1118, 1141, 1175, 1180, 1235].filterMap (fun i => lw_tbl[i]?) := by decide +kernel
  intro q hq
  have h1 := List.mem_map_of_mem (f := fun q : String × Nat × MethodName => Cond.methodLinkNest q.1 q.2.1 q.2.2 "BreadScribes") hq
  rw [h] at h1
  obtain ⟨i, -, hi⟩ := List.mem_filterMap.mp h1
  exact List.mem_of_getElem? hi
theorem acm_int : Cond.arrayClass .int ∈ lw_tbl := List.mem_of_getElem? (i := 291) (by decide +kernel)
theorem acm_long : Cond.arrayClass .long ∈ lw_tbl := List.mem_of_getElem? (i := 261) (by decide +kernel)
theorem acm_byte : Cond.arrayClass .byte ∈ lw_tbl := List.mem_of_getElem? (i := 260) (by decide +kernel)
theorem aom_0 : Cond.arrayOver (.object (elC 0)) ∈ lw_tbl := List.mem_of_getElem? (i := 151) (by decide +kernel)
theorem aom_1 : Cond.arrayOver (.object (elC 1)) ∈ lw_tbl := List.mem_of_getElem? (i := 385) (by decide +kernel)
theorem aom_2 : Cond.arrayOver (.object (elC 2)) ∈ lw_tbl := List.mem_of_getElem? (i := 386) (by decide +kernel)
