/-! each method passes the check -/
theorem wX4_bringDown : mx_cw mX4_bringDown ∈ mx_Ts := mx_inTs 8 28 rfl rfl
set_option maxRecDepth 100000 in
theorem kX4_bringDown : mx_okX (mX4_bringDown, bX4_bringDown, [(8, 28), (1, 12), (8, 26), (8, 27)]) = true := by decide +kernel
theorem wX4_wealthOf : mx_cw mX4_wealthOf ∈ mx_Ts := mx_inTs 8 44 rfl rfl
set_option maxRecDepth 100000 in
theorem kX4_wealthOf : mx_okX (mX4_wealthOf, bX4_wealthOf, [(8, 44), (1, 12), (8, 42), (8, 43)]) = true := by decide +kernel
theorem wX4_measureWealth : mx_cw mX4_measureWealth ∈ mx_Ts := mx_inTs 8 32 rfl rfl
set_option maxRecDepth 100000 in
theorem kX4_measureWealth : mx_okX (mX4_measureWealth, bX4_measureWealth, [(8, 32), (1, 12), (8, 31), (0, 72)]) = true := by decide +kernel
theorem wX4_comers : mx_cw mX4_comers ∈ mx_Ts := mx_inTs 8 55 rfl rfl
set_option maxRecDepth 100000 in
theorem kX4_comers : mx_okX (mX4_comers, bX4_comers, [(8, 55), (1, 12), (8, 53), (8, 54)]) = true := by decide +kernel
theorem wX4_firstUnpaid : mx_cw mX4_firstUnpaid ∈ mx_Ts := mx_inTs 8 61 rfl rfl
set_option maxRecDepth 100000 in
theorem kX4_firstUnpaid : mx_okX (mX4_firstUnpaid, bX4_firstUnpaid, [(8, 61), (1, 12), (8, 59), (8, 60)]) = true := by decide +kernel
theorem wX5_init : mx_cw mX5_init ∈ mx_Ts := mx_inTs 1 42 rfl rfl
set_option maxRecDepth 100000 in
theorem kX5_init : mx_okX (mX5_init, bX5_init, [(1, 42), (1, 2), (1, 41), (0, 0)]) = true := by decide +kernel
theorem wX5_goOn : mx_cw mX5_goOn ∈ mx_Ts := mx_inTs 4 36 rfl rfl
set_option maxRecDepth 100000 in
theorem kX5_goOn : mx_okX (mX5_goOn, bX5_goOn, [(4, 36), (1, 2), (4, 34), (4, 35)]) = true := by decide +kernel
theorem wX5_addTown : mx_cw mX5_addTown ∈ mx_Ts := mx_inTs 3 145 rfl rfl
set_option maxRecDepth 100000 in
theorem kX5_addTown : mx_okX (mX5_addTown, bX5_addTown, [(3, 145), (1, 2), (3, 143), (3, 144)]) = true := by decide +kernel
theorem wX5_setRoad : mx_cw mX5_setRoad ∈ mx_Ts := mx_inTs 4 70 rfl rfl
set_option maxRecDepth 100000 in
theorem kX5_setRoad : mx_okX (mX5_setRoad, bX5_setRoad, [(4, 70), (1, 2), (4, 68), (4, 69)]) = true := by decide +kernel
theorem wX5_measureLags : mx_cw mX5_measureLags ∈ mx_Ts := mx_inTs 4 74 rfl rfl
set_option maxRecDepth 100000 in
theorem kX5_measureLags : mx_okX (mX5_measureLags, bX5_measureLags, [(4, 74), (1, 2), (4, 73), (0, 2)]) = true := by decide +kernel
theorem wX5_shortenFrom : mx_cw mX5_shortenFrom ∈ mx_Ts := mx_inTs 4 81 rfl rfl
set_option maxRecDepth 100000 in
theorem kX5_shortenFrom : mx_okX (mX5_shortenFrom, bX5_shortenFrom, [(4, 81), (1, 2), (4, 80), (0, 3)]) = true := by decide +kernel
theorem wX5_lagOf : mx_cw mX5_lagOf ∈ mx_Ts := mx_inTs 4 85 rfl rfl
set_option maxRecDepth 100000 in
theorem kX5_lagOf : mx_okX (mX5_lagOf, bX5_lagOf, [(4, 85), (1, 2), (4, 83), (4, 84)]) = true := by decide +kernel
theorem wX5_isHeard : mx_cw mX5_isHeard ∈ mx_Ts := mx_inTs 6 105 rfl rfl
set_option maxRecDepth 100000 in
theorem kX5_isHeard : mx_okX (mX5_isHeard, bX5_isHeard, [(6, 105), (1, 2), (6, 103), (6, 104)]) = true := by decide +kernel
theorem wX5_addRate : mx_cw mX5_addRate ∈ mx_Ts := mx_inTs 4 104 rfl rfl
set_option maxRecDepth 100000 in
theorem kX5_addRate : mx_okX (mX5_addRate, bX5_addRate, [(4, 104), (1, 2), (4, 102), (4, 103)]) = true := by decide +kernel
theorem wX5_rateHeard : mx_cw mX5_rateHeard ∈ mx_Ts := mx_inTs 4 121 rfl rfl
set_option maxRecDepth 100000 in
theorem kX5_rateHeard : mx_okX (mX5_rateHeard, bX5_rateHeard, [(4, 121), (1, 2), (4, 119), (4, 120)]) = true := by decide +kernel
theorem wX5_worthNow : mx_cw mX5_worthNow ∈ mx_Ts := mx_inTs 6 30 rfl rfl
set_option maxRecDepth 100000 in
theorem kX5_worthNow : mx_okX (mX5_worthNow, bX5_worthNow, [(6, 30), (1, 2), (6, 28), (6, 29)]) = true := by decide +kernel
theorem wX6_init : mx_cw mX6_init ∈ mx_Ts := mx_inTs 1 135 rfl rfl
set_option maxRecDepth 100000 in
theorem kX6_init : mx_okX (mX6_init, bX6_init, [(1, 135), (1, 5), (1, 134), (0, 0)]) = true := by decide +kernel
theorem wX6_hasRoom : mx_cw mX6_hasRoom ∈ mx_Ts := mx_inTs 6 69 rfl rfl
set_option maxRecDepth 100000 in
theorem kX6_hasRoom : mx_okX (mX6_hasRoom, bX6_hasRoom, [(6, 69), (1, 5), (6, 67), (6, 68)]) = true := by decide +kernel
theorem wX6_record : mx_cw mX6_record ∈ mx_Ts := mx_inTs 6 86 rfl rfl
set_option maxRecDepth 100000 in
theorem kX6_record : mx_okX (mX6_record, bX6_record, [(6, 86), (1, 5), (6, 84), (6, 85)]) = true := by decide +kernel
theorem wX6_detail : mx_cw mX6_detail ∈ mx_Ts := mx_inTs 7 72 rfl rfl
set_option maxRecDepth 100000 in
theorem kX6_detail : mx_okX (mX6_detail, bX6_detail, [(7, 72), (1, 5), (7, 70), (7, 71)]) = true := by decide +kernel
theorem wX6_netPlace : mx_cw mX6_netPlace ∈ mx_Ts := mx_inTs 6 26 rfl rfl
set_option maxRecDepth 100000 in
theorem kX6_netPlace : mx_okX (mX6_netPlace, bX6_netPlace, [(6, 26), (1, 5), (6, 25), (0, 0)]) = true := by decide +kernel
theorem wX6_net : mx_cw mX6_net ∈ mx_Ts := mx_inTs 6 23 rfl rfl
set_option maxRecDepth 100000 in
theorem kX6_net : mx_okX (mX6_net, bX6_net, [(6, 23), (1, 5), (6, 21), (6, 22)]) = true := by decide +kernel
theorem wX6_netHeard : mx_cw mX6_netHeard ∈ mx_Ts := mx_inTs 6 158 rfl rfl
set_option maxRecDepth 100000 in
theorem kX6_netHeard : mx_okX (mX6_netHeard, bX6_netHeard, [(6, 158), (1, 5), (6, 156), (6, 157)]) = true := by decide +kernel
theorem wX6_netWorth : mx_cw mX6_netWorth ∈ mx_Ts := mx_inTs 6 19 rfl rfl
set_option maxRecDepth 100000 in
theorem kX6_netWorth : mx_okX (mX6_netWorth, bX6_netWorth, [(6, 19), (1, 5), (6, 17), (6, 18)]) = true := by decide +kernel
theorem wX6_claimOn : mx_cw mX6_claimOn ∈ mx_Ts := mx_inTs 6 170 rfl rfl
set_option maxRecDepth 100000 in
theorem kX6_claimOn : mx_okX (mX6_claimOn, bX6_claimOn, [(6, 170), (1, 5), (6, 168), (6, 169)]) = true := by decide +kernel
theorem wX6_setMarket : mx_cw mX6_setMarket ∈ mx_Ts := mx_inTs 6 191 rfl rfl
set_option maxRecDepth 100000 in
theorem kX6_setMarket : mx_okX (mX6_setMarket, bX6_setMarket, [(6, 191), (1, 5), (6, 189), (6, 190)]) = true := by decide +kernel
theorem wX6_sendGoods : mx_cw mX6_sendGoods ∈ mx_Ts := mx_inTs 6 202 rfl rfl
set_option maxRecDepth 100000 in
theorem kX6_sendGoods : mx_okX (mX6_sendGoods, bX6_sendGoods, [(6, 202), (1, 5), (6, 200), (6, 201)]) = true := by decide +kernel
theorem wX7_init : mx_cw mX7_init ∈ mx_Ts := mx_inTs 1 214 rfl rfl
set_option maxRecDepth 100000 in
theorem kX7_init : mx_okX (mX7_init, bX7_init, [(1, 214), (1, 7), (1, 213), (0, 0)]) = true := by decide +kernel
theorem wX7_readText : mx_cw mX7_readText ∈ mx_Ts := mx_inTs 4 180 rfl rfl
set_option maxRecDepth 100000 in
theorem kX7_readText : mx_okX (mX7_readText, bX7_readText, [(4, 180), (1, 7), (4, 178), (4, 179)]) = true := by decide +kernel
theorem wX7_kind : mx_cw mX7_kind ∈ mx_Ts := mx_inTs 5 85 rfl rfl
set_option maxRecDepth 100000 in
theorem kX7_kind : mx_okX (mX7_kind, bX7_kind, [(5, 85), (1, 7), (5, 84), (0, 10)]) = true := by decide +kernel
theorem wX7_fail : mx_cw mX7_fail ∈ mx_Ts := mx_inTs 5 97 rfl rfl
set_option maxRecDepth 100000 in
theorem kX7_fail : mx_okX (mX7_fail, bX7_fail, [(5, 97), (1, 7), (5, 96), (0, 12)]) = true := by decide +kernel
theorem wX7_take : mx_cw mX7_take ∈ mx_Ts := mx_inTs 5 105 rfl rfl
set_option maxRecDepth 100000 in
theorem kX7_take : mx_okX (mX7_take, bX7_take, [(5, 105), (1, 7), (5, 104), (0, 14)]) = true := by decide +kernel
theorem wX7_isSaying : mx_cw mX7_isSaying ∈ mx_Ts := mx_inTs 5 92 rfl rfl
set_option maxRecDepth 100000 in
theorem kX7_isSaying : mx_okX (mX7_isSaying, bX7_isSaying, [(5, 92), (1, 7), (5, 91), (0, 0)]) = true := by decide +kernel
theorem wX7_readLine : mx_cw mX7_readLine ∈ mx_Ts := mx_inTs 5 89 rfl rfl
set_option maxRecDepth 100000 in
theorem kX7_readLine : mx_okX (mX7_readLine, bX7_readLine, [(5, 89), (1, 7), (5, 88), (0, 11)]) = true := by decide +kernel
theorem wX7_readNumber : mx_cw mX7_readNumber ∈ mx_Ts := mx_inTs 5 101 rfl rfl
set_option maxRecDepth 100000 in
theorem kX7_readNumber : mx_okX (mX7_readNumber, bX7_readNumber, [(5, 101), (1, 7), (5, 100), (0, 13)]) = true := by decide +kernel
theorem wX7_readSaying : mx_cw mX7_readSaying ∈ mx_Ts := mx_inTs 5 109 rfl rfl
set_option maxRecDepth 100000 in
theorem kX7_readSaying : mx_okX (mX7_readSaying, bX7_readSaying, [(5, 109), (1, 7), (5, 108), (0, 15)]) = true := by decide +kernel
theorem wX7_readChoice : mx_cw mX7_readChoice ∈ mx_Ts := mx_inTs 5 117 rfl rfl
set_option maxRecDepth 100000 in
theorem kX7_readChoice : mx_okX (mX7_readChoice, bX7_readChoice, [(5, 117), (1, 7), (5, 116), (0, 17)]) = true := by decide +kernel
theorem wX7_readTest : mx_cw mX7_readTest ∈ mx_Ts := mx_inTs 5 137 rfl rfl
set_option maxRecDepth 100000 in
theorem kX7_readTest : mx_okX (mX7_readTest, bX7_readTest, [(5, 137), (1, 7), (5, 136), (0, 22)]) = true := by decide +kernel
