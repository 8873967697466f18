set_option maxRecDepth 100000 in
theorem cw_X12_lay : qW (mQ 221) ∈ wsG := tb_mc 5 194 rfl rfl
set_option maxRecDepth 100000 in
theorem cw_X12_starts : qW (mQ 222) ∈ wsG := tb_mc 5 206 rfl rfl
set_option maxRecDepth 100000 in
theorem cw_X12_isWell : qW (mQ 223) ∈ wsG := tb_mc 6 115 rfl rfl
set_option maxRecDepth 100000 in
theorem cw_X12_fault : qW (mQ 224) ∈ wsG := tb_mc 5 198 rfl rfl
set_option maxRecDepth 100000 in
theorem cw_X12_empties : qW (mQ 225) ∈ wsG := tb_mc 4 233 rfl rfl
set_option maxRecDepth 100000 in
theorem cw_X12_named : qW (mQ 226) ∈ wsG := tb_mc 6 95 rfl rfl
set_option maxRecDepth 100000 in
theorem cw_X12_readTold : qW (mQ 227) ∈ wsG := tb_mc 6 135 rfl rfl
set_option maxRecDepth 100000 in
theorem cw_X12_readOdds : qW (mQ 228) ∈ wsG := tb_mc 6 5 rfl rfl
set_option maxRecDepth 100000 in
theorem cw_X12_readKnown : qW (mQ 229) ∈ wsG := tb_mc 6 107 rfl rfl
set_option maxRecDepth 100000 in
theorem cw_X12_readStore : qW (mQ 230) ∈ wsG := tb_mc 6 36 rfl rfl
set_option maxRecDepth 100000 in
theorem cw_X12_readMan : qW (mQ 231) ∈ wsG := tb_mc 6 55 rfl rfl
set_option maxRecDepth 100000 in
theorem cw_X12_readPart : qW (mQ 232) ∈ wsG := tb_mc 5 230 rfl rfl
set_option maxRecDepth 100000 in
theorem cw_X12_bakery : qW (mQ 233) ∈ wsG := tb_mc 5 202 rfl rfl
set_option maxRecDepth 100000 in
theorem cw_X12_readTest : qW (mQ 234) ∈ wsG := tb_mc 6 140 rfl rfl
set_option maxRecDepth 100000 in
theorem cw_X12_readRest : qW (mQ 235) ∈ wsG := tb_mc 6 131 rfl rfl
set_option maxRecDepth 100000 in
theorem cw_X12_readStep : qW (mQ 236) ∈ wsG := tb_mc 6 127 rfl rfl
set_option maxRecDepth 100000 in
theorem cw_X12_days : qW (mQ 237) ∈ wsG := tb_mc 6 123 rfl rfl
set_option maxRecDepth 100000 in
theorem cw_X12_isSlice : qW (mQ 238) ∈ wsG := tb_mc 6 185 rfl rfl
set_option maxRecDepth 100000 in
theorem cw_X12_isManAt : qW (mQ 239) ∈ wsG := tb_mc 6 194 rfl rfl
set_option maxRecDepth 100000 in
theorem cw_X12_partsOf : qW (mQ 240) ∈ wsG := tb_mc 6 178 rfl rfl
set_option maxRecDepth 100000 in
theorem cw_X12_shareOf : qW (mQ 241) ∈ wsG := tb_mc 6 171 rfl rfl
set_option maxRecDepth 100000 in
theorem cw_X12_isShare : qW (mQ 242) ∈ wsG := tb_mc 7 38 rfl rfl
set_option maxRecDepth 100000 in
theorem cw_X12_sumOf : qW (mQ 243) ∈ wsG := tb_mc 6 175 rfl rfl
set_option maxRecDepth 100000 in
theorem cw_X12_lackOf : qW (mQ 244) ∈ wsG := tb_mc 6 168 rfl rfl
set_option maxRecDepth 100000 in
theorem cw_X12_held : qW (mQ 245) ∈ wsG := tb_mc 6 153 rfl rfl
set_option maxRecDepth 100000 in
theorem cw_X12_heldSet : qW (mQ 246) ∈ wsG := tb_mc 6 157 rfl rfl
set_option maxRecDepth 100000 in
theorem cw_X12_evenOnes : qW (mQ 247) ∈ wsG := tb_mc 6 164 rfl rfl
set_option maxRecDepth 100000 in
theorem cw_X12_many : qW (mQ 248) ∈ wsG := tb_mc 6 144 rfl rfl
set_option maxRecDepth 100000 in
theorem cw_X12_store : qW (mQ 249) ∈ wsG := tb_mc 6 182 rfl rfl
set_option maxRecDepth 100000 in
theorem cw_X12_man : qW (mQ 250) ∈ wsG := tb_mc 6 190 rfl rfl
set_option maxRecDepth 100000 in
theorem cw_X12_has : qW (mQ 251) ∈ wsG := tb_mc 6 199 rfl rfl
set_option maxRecDepth 100000 in
theorem cw_X12_lacks : qW (mQ 252) ∈ wsG := tb_mc 6 208 rfl rfl
set_option maxRecDepth 100000 in
theorem cw_X12_worth : qW (mQ 253) ∈ wsG := tb_mc 6 212 rfl rfl
set_option maxRecDepth 100000 in
theorem cw_X12_copyStore : qW (mQ 254) ∈ wsG := tb_mc 6 216 rfl rfl
set_option maxRecDepth 100000 in
theorem cw_X12_areMore : qW (mQ 255) ∈ wsG := tb_mc 7 2 rfl rfl
set_option maxRecDepth 100000 in
theorem cw_X12_isOver : qW (mQ 256) ∈ wsG := tb_mc 6 230 rfl rfl
set_option maxRecDepth 100000 in
theorem cw_X12_cuts : qW (mQ 257) ∈ wsG := tb_mc 6 234 rfl rfl
set_option maxRecDepth 100000 in
theorem cw_X12_cut : qW (mQ 258) ∈ wsG := tb_mc 6 226 rfl rfl
set_option maxRecDepth 100000 in
theorem cw_X12_splits : qW (mQ 259) ∈ wsG := tb_mc 7 6 rfl rfl
set_option maxRecDepth 100000 in
theorem cw_X12_split : qW (mQ 260) ∈ wsG := tb_mc 6 238 rfl rfl
set_option maxRecDepth 100000 in
theorem cw_X12_bakes : qW (mQ 261) ∈ wsG := tb_mc 7 15 rfl rfl
set_option maxRecDepth 100000 in
theorem cw_X12_bake : qW (mQ 262) ∈ wsG := tb_mc 7 10 rfl rfl
set_option maxRecDepth 100000 in
theorem cw_X12_gives : qW (mQ 263) ∈ wsG := tb_mc 7 23 rfl rfl
set_option maxRecDepth 100000 in
theorem cw_X12_give : qW (mQ 264) ∈ wsG := tb_mc 7 19 rfl rfl
set_option maxRecDepth 100000 in
theorem cw_X12_takes : qW (mQ 265) ∈ wsG := tb_mc 7 31 rfl rfl
set_option maxRecDepth 100000 in
theorem cw_X12_take : qW (mQ 266) ∈ wsG := tb_mc 7 27 rfl rfl
set_option maxRecDepth 100000 in
theorem cw_X12_owe : qW (mQ 267) ∈ wsG := tb_mc 7 35 rfl rfl
set_option maxRecDepth 100000 in
theorem cw_X12_come : qW (mQ 268) ∈ wsG := tb_mc 7 42 rfl rfl
set_option maxRecDepth 100000 in
theorem cw_X12_learn : qW (mQ 269) ∈ wsG := tb_mc 7 46 rfl rfl
set_option maxRecDepth 100000 in
theorem cw_X12_rule : qW (mQ 270) ∈ wsG := tb_mc 7 50 rfl rfl
set_option maxRecDepth 100000 in
theorem cw_X12_rows : qW (mQ 271) ∈ wsG := tb_mc 7 67 rfl rfl
set_option maxRecDepth 100000 in
theorem cw_X12_laysRows : qW (mQ 272) ∈ wsG := tb_mc 7 63 rfl rfl
set_option maxRecDepth 100000 in
theorem cw_X12_fewestOf : qW (mQ 273) ∈ wsG := tb_mc 7 59 rfl rfl
set_option maxRecDepth 100000 in
theorem cw_X12_answer : qW (mQ 274) ∈ wsG := tb_mc 7 71 rfl rfl
set_option maxRecDepth 100000 in
theorem cw_X12_fewest : qW (mQ 275) ∈ wsG := tb_mc 7 55 rfl rfl
set_option maxRecDepth 100000 in
theorem cw_X12_fewestAt : qW (mQ 276) ∈ wsG := tb_mc 7 75 rfl rfl
set_option maxRecDepth 100000 in
theorem cw_X12_ways : qW (mQ 277) ∈ wsG := tb_mc 7 79 rfl rfl
set_option maxRecDepth 100000 in
theorem cw_X12_oddsThat : qW (mQ 278) ∈ wsG := tb_mc 7 84 rfl rfl
set_option maxRecDepth 100000 in
theorem cw_X12_ask : qW (mQ 279) ∈ wsG := tb_mc 7 88 rfl rfl
set_option maxRecDepth 100000 in
theorem cw_X12_kindestOf : qW (mQ 280) ∈ wsG := tb_mc 7 96 rfl rfl
set_option maxRecDepth 100000 in
theorem cw_X12_kindestAt : qW (mQ 281) ∈ wsG := tb_mc 7 92 rfl rfl
set_option maxRecDepth 100000 in
theorem cw_X12_greedyAt : qW (mQ 282) ∈ wsG := tb_mc 7 100 rfl rfl
set_option maxRecDepth 100000 in
theorem cw_X12_whyNoRow : qW (mQ 283) ∈ wsG := tb_mc 7 109 rfl rfl
set_option maxRecDepth 100000 in
theorem cw_X12_isRow : qW (mQ 284) ∈ wsG := tb_mc 7 122 rfl rfl
set_option maxRecDepth 100000 in
theorem cw_X12_laysSlips : qW (mQ 285) ∈ wsG := tb_mc 7 118 rfl rfl
set_option maxRecDepth 100000 in
theorem cw_X12_slips : qW (mQ 286) ∈ wsG := tb_mc 7 105 rfl rfl
set_option maxRecDepth 100000 in
theorem cw_X12_slipAt : qW (mQ 287) ∈ wsG := tb_mc 7 126 rfl rfl
set_option maxRecDepth 100000 in
theorem cw_X12_comesOf : qW (mQ 288) ∈ wsG := tb_mc 7 141 rfl rfl
set_option maxRecDepth 100000 in
theorem cw_X12_laysReach : qW (mQ 289) ∈ wsG := tb_mc 7 138 rfl rfl
set_option maxRecDepth 100000 in
theorem cw_X12_reachFrom : qW (mQ 290) ∈ wsG := tb_mc 7 134 rfl rfl
set_option maxRecDepth 100000 in
theorem cw_X12_reach : qW (mQ 291) ∈ wsG := tb_mc 7 130 rfl rfl
set_option maxRecDepth 100000 in
theorem cw_X12_reachAt : qW (mQ 292) ∈ wsG := tb_mc 7 145 rfl rfl
set_option maxRecDepth 100000 in
theorem cw_X12_fillOf : qW (mQ 293) ∈ wsG := tb_mc 7 153 rfl rfl
set_option maxRecDepth 100000 in
theorem cw_X12_fill : qW (mQ 294) ∈ wsG := tb_mc 7 149 rfl rfl
set_option maxRecDepth 100000 in
theorem cw_X12_fillAt : qW (mQ 295) ∈ wsG := tb_mc 7 157 rfl rfl
