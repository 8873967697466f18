set_option maxRecDepth 100000 in
theorem cw_obj : Cond.code objectInit ⟨#[0xb1]⟩ 1 none ∈ wsG := tb_mc 0 29 rfl rfl
set_option maxRecDepth 100000 in
theorem cw_max : Cond.code Lib.Math.max.name Lib.Math.max.code 2 (some .int) ∈ wsG := tb_mc 2 101 rfl rfl
set_option maxRecDepth 100000 in
theorem cw_min : Cond.code Lib.Math.min.name Lib.Math.min.code 2 (some .int) ∈ wsG := tb_mc 2 98 rfl rfl
set_option maxRecDepth 100000 in
theorem cw_abs : Cond.code Lib.MathLoose.abs_long.x Lib.MathLoose.abs_long.code 2 (some .long) ∈ wsG := tb_mc 3 76 rfl rfl
theorem clw_0 : ∀ w ∈ u_ws RX0 TX0 9, w ∈ wsG := tb_list [324, 326, 328, 330, 332, 334, 336, 338, 340] (by decide +kernel) (by decide +kernel)
theorem clw_1 : ∀ w ∈ u_ws RX1 TX1 3, w ∈ wsG := tb_list [271, 273, 275] (by decide +kernel) (by decide +kernel)
theorem clw_2 : ∀ w ∈ u_ws RX2 TX2 8, w ∈ wsG := tb_list [368, 370, 372, 374, 376, 378, 380, 382] (by decide +kernel) (by decide +kernel)
theorem clw_3 : ∀ w ∈ u_ws RX3 TX3 2, w ∈ wsG := tb_list [286, 288] (by decide +kernel) (by decide +kernel)
theorem clw_4 : ∀ w ∈ u_ws RX4 TX4 9, w ∈ wsG := tb_list [502, 504, 506, 508, 510, 512, 514, 516, 518] (by decide +kernel) (by decide +kernel)
theorem clw_5 : ∀ w ∈ u_ws RX5 TX5 3, w ∈ wsG := tb_list [452, 454, 456] (by decide +kernel) (by decide +kernel)
theorem clw_6 : ∀ w ∈ u_ws RX6 TX6 14, w ∈ wsG := tb_list [231, 233, 235, 237, 239, 241, 243, 245, 247, 249, 251, 253, 255, 257] (by decide +kernel) (by decide +kernel)
theorem clw_7 : ∀ w ∈ u_ws RX7 TX7 8, w ∈ wsG := tb_list [405, 407, 409, 411, 413, 415, 417, 419] (by decide +kernel) (by decide +kernel)
theorem clw_8 : ∀ w ∈ u_ws RX8 TX8 3, w ∈ wsG := tb_list [434, 436, 438] (by decide +kernel) (by decide +kernel)
theorem clw_9 : ∀ w ∈ u_ws RX9 TX9 4, w ∈ wsG := tb_list [471, 473, 475, 477] (by decide +kernel) (by decide +kernel)
theorem clw_10 : ∀ w ∈ u_ws RX10 TX10 3, w ∈ wsG := tb_list [533, 535, 537] (by decide +kernel) (by decide +kernel)
theorem clw_11 : ∀ w ∈ u_ws RX11 TX11 20, w ∈ wsG := tb_list [560, 562, 564, 566, 568, 570, 572, 574, 576, 578, 580, 582, 584, 586, 588, 590, 592, 594, 596, 598] (by decide +kernel) (by decide +kernel)
theorem clw_12 : ∀ w ∈ u_ws RX12 TX12 49, w ∈ wsG := tb_list [1364, 1366, 1368, 1370, 1372, 1374, 1376, 1378, 1380, 1382, 1384, 1386, 1388, 1390, 1392, 1394, 1396, 1398, 1400, 1402, 1404, 1406, 1408, 1410, 1412, 1414, 1416, 1418, 1420, 1422, 1424, 1426, 1428, 1430, 1432, 1434, 1436, 1438, 1440, 1442, 1444, 1446, 1448, 1450, 1452, 1454, 1456, 1458, 1460] (by decide +kernel) (by decide +kernel)
