set_option maxRecDepth 100000 in
theorem cw_X6_takeSemicolon : qW (mQ 70) ∈ wsG := tb_mc 2 153 rfl rfl
set_option maxRecDepth 100000 in
theorem cw_X6_takeCompares : qW (mQ 71) ∈ wsG := tb_mc 3 8 rfl rfl
set_option maxRecDepth 100000 in
theorem cw_X6_takeNumber : qW (mQ 72) ∈ wsG := tb_mc 2 144 rfl rfl
set_option maxRecDepth 100000 in
theorem cw_X6_takeName : qW (mQ 73) ∈ wsG := tb_mc 2 174 rfl rfl
set_option maxRecDepth 100000 in
theorem cw_X7_init : qW (mQ 74) ∈ wsG := tb_mc 1 31 rfl rfl
set_option maxRecDepth 100000 in
theorem cw_X7_begin : qW (mQ 75) ∈ wsG := tb_mc 3 181 rfl rfl
set_option maxRecDepth 100000 in
theorem cw_X7_findFewest : qW (mQ 76) ∈ wsG := tb_mc 3 177 rfl rfl
set_option maxRecDepth 100000 in
theorem cw_X7_findKindest : qW (mQ 77) ∈ wsG := tb_mc 4 11 rfl rfl
set_option maxRecDepth 100000 in
theorem cw_X7_countAll : qW (mQ 78) ∈ wsG := tb_mc 3 230 rfl rfl
set_option maxRecDepth 100000 in
theorem cw_X7_seekRowsOf : qW (mQ 79) ∈ wsG := tb_mc 3 186 rfl rfl
set_option maxRecDepth 100000 in
theorem cw_X7_hasBest : qW (mQ 80) ∈ wsG := tb_mc 3 219 rfl rfl
set_option maxRecDepth 100000 in
theorem cw_X7_bestQuestion : qW (mQ 81) ∈ wsG := tb_mc 4 2 rfl rfl
set_option maxRecDepth 100000 in
theorem cw_X7_seek : qW (mQ 82) ∈ wsG := tb_mc 3 189 rfl rfl
set_option maxRecDepth 100000 in
theorem cw_X7_putLast : qW (mQ 83) ∈ wsG := tb_mc 3 193 rfl rfl
set_option maxRecDepth 100000 in
theorem cw_X7_meet : qW (mQ 84) ∈ wsG := tb_mc 3 200 rfl rfl
set_option maxRecDepth 100000 in
theorem cw_X8_init : qW (mQ 85) ∈ wsG := tb_mc 1 66 rfl rfl
set_option maxRecDepth 100000 in
theorem cw_X8_findAll : qW (mQ 86) ∈ wsG := tb_mc 4 32 rfl rfl
set_option maxRecDepth 100000 in
theorem cw_X8_fixAt : qW (mQ 87) ∈ wsG := tb_mc 4 35 rfl rfl
set_option maxRecDepth 100000 in
theorem cw_X9_init : qW (mQ 88) ∈ wsG := tb_mc 1 103 rfl rfl
set_option maxRecDepth 100000 in
theorem cw_X9_lay : qW (mQ 89) ∈ wsG := tb_mc 4 94 rfl rfl
set_option maxRecDepth 100000 in
theorem cw_X9_addSlice : qW (mQ 90) ∈ wsG := tb_mc 4 99 rfl rfl
set_option maxRecDepth 100000 in
theorem cw_X9_firstWinning : qW (mQ 91) ∈ wsG := tb_mc 4 104 rfl rfl
set_option maxRecDepth 100000 in
theorem cw_X9_winningPlace : qW (mQ 92) ∈ wsG := tb_mc 4 109 rfl rfl
set_option maxRecDepth 100000 in
theorem cw_X9_countWithin : qW (mQ 93) ∈ wsG := tb_mc 4 121 rfl rfl
set_option maxRecDepth 100000 in
theorem cw_X10_init : qW (mQ 94) ∈ wsG := tb_mc 1 164 rfl rfl
set_option maxRecDepth 100000 in
theorem cw_X10_isMissing : qW (mQ 95) ∈ wsG := tb_mc 2 50 rfl rfl
set_option maxRecDepth 100000 in
theorem cw_X10_lay : qW (mQ 96) ∈ wsG := tb_mc 2 27 rfl rfl
set_option maxRecDepth 100000 in
theorem cw_X10_hasPlaces : qW (mQ 97) ∈ wsG := tb_mc 2 54 rfl rfl
set_option maxRecDepth 100000 in
theorem cw_X10_put : qW (mQ 98) ∈ wsG := tb_mc 2 58 rfl rfl
set_option maxRecDepth 100000 in
theorem cw_X11_init : qW (mQ 99) ∈ wsG := tb_mc 0 26 rfl rfl
set_option maxRecDepth 100000 in
theorem cw_X11_status : qW (mQ 100) ∈ wsG := tb_mc 2 4 rfl rfl
set_option maxRecDepth 100000 in
theorem cw_X11_top : qW (mQ 101) ∈ wsG := tb_mc 2 8 rfl rfl
set_option maxRecDepth 100000 in
theorem cw_X11_bottom : qW (mQ 102) ∈ wsG := tb_mc 2 12 rfl rfl
set_option maxRecDepth 100000 in
theorem cw_X11_tray : qW (mQ 103) ∈ wsG := tb_mc 2 16 rfl rfl
set_option maxRecDepth 100000 in
theorem cw_X11_write : qW (mQ 104) ∈ wsG := tb_mc 2 38 rfl rfl
set_option maxRecDepth 100000 in
theorem cw_X11_read : qW (mQ 105) ∈ wsG := tb_mc 2 63 rfl rfl
set_option maxRecDepth 100000 in
theorem cw_X11_pour : qW (mQ 106) ∈ wsG := tb_mc 2 71 rfl rfl
set_option maxRecDepth 100000 in
theorem cw_X11_feed : qW (mQ 107) ∈ wsG := tb_mc 2 78 rfl rfl
set_option maxRecDepth 100000 in
theorem cw_X11_bakery : qW (mQ 108) ∈ wsG := tb_mc 2 91 rfl rfl
set_option maxRecDepth 100000 in
theorem cw_X11_days : qW (mQ 109) ∈ wsG := tb_mc 2 210 rfl rfl
set_option maxRecDepth 100000 in
theorem cw_X11_fault : qW (mQ 110) ∈ wsG := tb_mc 3 18 rfl rfl
set_option maxRecDepth 100000 in
theorem cw_X11_many : qW (mQ 111) ∈ wsG := tb_mc 3 22 rfl rfl
set_option maxRecDepth 100000 in
theorem cw_X11_store : qW (mQ 112) ∈ wsG := tb_mc 3 58 rfl rfl
set_option maxRecDepth 100000 in
theorem cw_X11_man : qW (mQ 113) ∈ wsG := tb_mc 3 63 rfl rfl
set_option maxRecDepth 100000 in
theorem cw_X11_has : qW (mQ 114) ∈ wsG := tb_mc 3 68 rfl rfl
set_option maxRecDepth 100000 in
theorem cw_X11_lacks : qW (mQ 115) ∈ wsG := tb_mc 3 83 rfl rfl
set_option maxRecDepth 100000 in
theorem cw_X11_worth : qW (mQ 116) ∈ wsG := tb_mc 3 88 rfl rfl
set_option maxRecDepth 100000 in
theorem cw_X11_copyStore : qW (mQ 117) ∈ wsG := tb_mc 3 96 rfl rfl
set_option maxRecDepth 100000 in
theorem cw_X11_bake : qW (mQ 118) ∈ wsG := tb_mc 3 104 rfl rfl
set_option maxRecDepth 100000 in
theorem cw_X11_cut : qW (mQ 119) ∈ wsG := tb_mc 3 112 rfl rfl
set_option maxRecDepth 100000 in
theorem cw_X11_split : qW (mQ 120) ∈ wsG := tb_mc 3 125 rfl rfl
set_option maxRecDepth 100000 in
theorem cw_X11_give : qW (mQ 121) ∈ wsG := tb_mc 3 133 rfl rfl
set_option maxRecDepth 100000 in
theorem cw_X11_take : qW (mQ 122) ∈ wsG := tb_mc 3 142 rfl rfl
set_option maxRecDepth 100000 in
theorem cw_X11_owe : qW (mQ 123) ∈ wsG := tb_mc 3 150 rfl rfl
set_option maxRecDepth 100000 in
theorem cw_X11_come : qW (mQ 124) ∈ wsG := tb_mc 3 157 rfl rfl
set_option maxRecDepth 100000 in
theorem cw_X11_learn : qW (mQ 125) ∈ wsG := tb_mc 3 162 rfl rfl
set_option maxRecDepth 100000 in
theorem cw_X11_rule : qW (mQ 126) ∈ wsG := tb_mc 3 168 rfl rfl
set_option maxRecDepth 100000 in
theorem cw_X11_fewest : qW (mQ 127) ∈ wsG := tb_mc 3 172 rfl rfl
set_option maxRecDepth 100000 in
theorem cw_X11_fewestAt : qW (mQ 128) ∈ wsG := tb_mc 3 211 rfl rfl
set_option maxRecDepth 100000 in
theorem cw_X11_ways : qW (mQ 129) ∈ wsG := tb_mc 3 223 rfl rfl
set_option maxRecDepth 100000 in
theorem cw_X11_oddsThat : qW (mQ 130) ∈ wsG := tb_mc 3 234 rfl rfl
set_option maxRecDepth 100000 in
theorem cw_X11_ask : qW (mQ 131) ∈ wsG := tb_mc 3 238 rfl rfl
set_option maxRecDepth 100000 in
theorem cw_X11_kindestAt : qW (mQ 132) ∈ wsG := tb_mc 4 7 rfl rfl
set_option maxRecDepth 100000 in
theorem cw_X11_greedyAt : qW (mQ 133) ∈ wsG := tb_mc 4 15 rfl rfl
set_option maxRecDepth 100000 in
theorem cw_X11_slips : qW (mQ 134) ∈ wsG := tb_mc 4 23 rfl rfl
set_option maxRecDepth 100000 in
theorem cw_X11_slipAt : qW (mQ 135) ∈ wsG := tb_mc 4 44 rfl rfl
set_option maxRecDepth 100000 in
theorem cw_X11_reach : qW (mQ 136) ∈ wsG := tb_mc 4 48 rfl rfl
set_option maxRecDepth 100000 in
theorem cw_X11_reachAt : qW (mQ 137) ∈ wsG := tb_mc 4 69 rfl rfl
set_option maxRecDepth 100000 in
theorem cw_X11_fill : qW (mQ 138) ∈ wsG := tb_mc 4 73 rfl rfl
set_option maxRecDepth 100000 in
theorem cw_X11_fillAt : qW (mQ 139) ∈ wsG := tb_mc 4 82 rfl rfl
set_option maxRecDepth 100000 in
theorem cw_X11_plate : qW (mQ 140) ∈ wsG := tb_mc 4 86 rfl rfl
set_option maxRecDepth 100000 in
theorem cw_X11_plateMove : qW (mQ 141) ∈ wsG := tb_mc 4 113 rfl rfl
set_option maxRecDepth 100000 in
theorem cw_X11_luck : qW (mQ 142) ∈ wsG := tb_mc 4 117 rfl rfl
set_option maxRecDepth 100000 in
theorem cw_X11_burnt : qW (mQ 143) ∈ wsG := tb_mc 4 129 rfl rfl
set_option maxRecDepth 100000 in
theorem cw_X11_live : qW (mQ 144) ∈ wsG := tb_mc 4 136 rfl rfl
set_option maxRecDepth 100000 in
theorem cw_X11_lived : qW (mQ 145) ∈ wsG := tb_mc 4 197 rfl rfl
