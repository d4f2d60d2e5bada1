/-! each method passes the check -/
theorem wX11_ruin : mx_cw mX11_ruin ∈ mx_Ts := mx_inTs 8 24 rfl rfl
set_option maxRecDepth 100000 in
theorem kX11_ruin : mx_okX (mX11_ruin, bX11_ruin, [(8, 24), (1, 1), (8, 22), (8, 23)]) = true := by decide +kernel
theorem wX11_wealth : mx_cw mX11_wealth ∈ mx_Ts := mx_inTs 8 40 rfl rfl
set_option maxRecDepth 100000 in
theorem kX11_wealth : mx_okX (mX11_wealth, bX11_wealth, [(8, 40), (1, 1), (8, 38), (8, 39)]) = true := by decide +kernel
theorem wX11_run : mx_cw mX11_run ∈ mx_Ts := mx_inTs 8 51 rfl rfl
set_option maxRecDepth 100000 in
theorem kX11_run : mx_okX (mX11_run, bX11_run, [(8, 51), (1, 1), (8, 49), (8, 50)]) = true := by decide +kernel
theorem wX11_tray : mx_cw mX11_tray ∈ mx_Ts := mx_inTs 8 69 rfl rfl
set_option maxRecDepth 100000 in
theorem kX11_tray : mx_okX (mX11_tray, bX11_tray, [(8, 69), (1, 1), (8, 67), (8, 68)]) = true := by decide +kernel
theorem wX11_write : mx_cw mX11_write ∈ mx_Ts := mx_inTs 8 84 rfl rfl
set_option maxRecDepth 100000 in
theorem kX11_write : mx_okX (mX11_write, bX11_write, [(8, 84), (1, 1), (8, 82), (8, 83)]) = true := by decide +kernel
theorem wX11_read : mx_cw mX11_read ∈ mx_Ts := mx_inTs 8 124 rfl rfl
set_option maxRecDepth 100000 in
theorem kX11_read : mx_okX (mX11_read, bX11_read, [(8, 124), (1, 1), (8, 122), (8, 123)]) = true := by decide +kernel
theorem wX11_pour : mx_cw mX11_pour ∈ mx_Ts := mx_inTs 8 131 rfl rfl
set_option maxRecDepth 100000 in
theorem kX11_pour : mx_okX (mX11_pour, bX11_pour, [(8, 131), (1, 1), (8, 129), (8, 130)]) = true := by decide +kernel
theorem wX11_book : mx_cw mX11_book ∈ mx_Ts := mx_inTs 8 143 rfl rfl
set_option maxRecDepth 100000 in
theorem kX11_book : mx_okX (mX11_book, bX11_book, [(8, 143), (1, 1), (8, 141), (8, 142)]) = true := by decide +kernel
theorem wX11_bookNumber : mx_cw mX11_bookNumber ∈ mx_Ts := mx_inTs 8 148 rfl rfl
set_option maxRecDepth 100000 in
theorem kX11_bookNumber : mx_okX (mX11_bookNumber, bX11_bookNumber, [(8, 148), (1, 1), (8, 147), (0, 73)]) = true := by decide +kernel
theorem wX11_count : mx_cw mX11_count ∈ mx_Ts := mx_inTs 3 161 rfl rfl
set_option maxRecDepth 100000 in
theorem kX11_count : mx_okX (mX11_count, bX11_count, [(3, 161), (1, 1), (3, 159), (3, 160)]) = true := by decide +kernel
set_option maxRecDepth 100000 in
theorem kX12_init_r0 : ((bX12_init).take 40).all (fun e => mx_okB (mx_my mX12_init).cls (mx_mb mX12_init) (mx_ml mX12_init) (mx_mr mX12_init) (decide (mx_mk mX12_init = 2)) mx_mT e) = true := by decide +kernel
set_option maxRecDepth 100000 in
theorem kX12_init_r1 : (((bX12_init).drop 40).take 40).all (fun e => mx_okB (mx_my mX12_init).cls (mx_mb mX12_init) (mx_ml mX12_init) (mx_mr mX12_init) (decide (mx_mk mX12_init = 2)) mx_mT e) = true := by decide +kernel
set_option maxRecDepth 100000 in
theorem kX12_init_r2 : ((((bX12_init).drop 40).drop 40).take 40).all (fun e => mx_okB (mx_my mX12_init).cls (mx_mb mX12_init) (mx_ml mX12_init) (mx_mr mX12_init) (decide (mx_mk mX12_init = 2)) mx_mT e) = true := by decide +kernel
set_option maxRecDepth 100000 in
theorem kX12_init_r3 : (((((bX12_init).drop 40).drop 40).drop 40).take 40).all (fun e => mx_okB (mx_my mX12_init).cls (mx_mb mX12_init) (mx_ml mX12_init) (mx_mr mX12_init) (decide (mx_mk mX12_init = 2)) mx_mT e) = true := by decide +kernel
set_option maxRecDepth 100000 in
theorem kX12_init_r4 : ((((((bX12_init).drop 40).drop 40).drop 40).drop 40).take 40).all (fun e => mx_okB (mx_my mX12_init).cls (mx_mb mX12_init) (mx_ml mX12_init) (mx_mr mX12_init) (decide (mx_mk mX12_init = 2)) mx_mT e) = true := by decide +kernel
set_option maxRecDepth 100000 in
theorem kX12_init_r5 : (((((((bX12_init).drop 40).drop 40).drop 40).drop 40).drop 40).take 40).all (fun e => mx_okB (mx_my mX12_init).cls (mx_mb mX12_init) (mx_ml mX12_init) (mx_mr mX12_init) (decide (mx_mk mX12_init = 2)) mx_mT e) = true := by decide +kernel
set_option maxRecDepth 100000 in
theorem kX12_init_r6 : ((((((((bX12_init).drop 40).drop 40).drop 40).drop 40).drop 40).drop 40).take 40).all (fun e => mx_okB (mx_my mX12_init).cls (mx_mb mX12_init) (mx_ml mX12_init) (mx_mr mX12_init) (decide (mx_mk mX12_init = 2)) mx_mT e) = true := by decide +kernel
set_option maxRecDepth 100000 in
theorem kX12_init_r7 : (((((((((bX12_init).drop 40).drop 40).drop 40).drop 40).drop 40).drop 40).drop 40).take 40).all (fun e => mx_okB (mx_my mX12_init).cls (mx_mb mX12_init) (mx_ml mX12_init) (mx_mr mX12_init) (decide (mx_mk mX12_init = 2)) mx_mT e) = true := by decide +kernel
set_option maxRecDepth 100000 in
theorem kX12_init_r8 : (((((((((bX12_init).drop 40).drop 40).drop 40).drop 40).drop 40).drop 40).drop 40).drop 40).all (fun e => mx_okB (mx_my mX12_init).cls (mx_mb mX12_init) (mx_ml mX12_init) (mx_mr mX12_init) (decide (mx_mk mX12_init = 2)) mx_mT e) = true := by decide +kernel
theorem wX12_init : mx_cw mX12_init ∈ mx_Ts := mx_inTs 8 153 rfl rfl
set_option maxRecDepth 100000 in
theorem kX12_init_m : mx_okM mX12_init [(8, 153), (1, 14), (8, 152), (0, 0)] = true := by decide +kernel
set_option maxRecDepth 100000 in
theorem kX12_init_c : mx_ch bX12_init = true := by decide +kernel
theorem kX12_init : mx_okX (mX12_init, bX12_init, [(8, 153), (1, 14), (8, 152), (0, 0)]) = true := mx_okX_of kX12_init_m kX12_init_c (mx_allc 40 kX12_init_r0 (mx_allc 40 kX12_init_r1 (mx_allc 40 kX12_init_r2 (mx_allc 40 kX12_init_r3 (mx_allc 40 kX12_init_r4 (mx_allc 40 kX12_init_r5 (mx_allc 40 kX12_init_r6 (mx_allc 40 kX12_init_r7 (kX12_init_r8)))))))))
theorem wX12_thrown : mx_cw mX12_thrown ∈ mx_Ts := mx_inTs 9 237 rfl rfl
set_option maxRecDepth 100000 in
theorem kX12_thrown : mx_okX (mX12_thrown, bX12_thrown, [(9, 237), (1, 14), (9, 235), (9, 236)]) = true := by decide +kernel
theorem wX12_fails : mx_cw mX12_fails ∈ mx_Ts := mx_inTs 10 9 rfl rfl
set_option maxRecDepth 100000 in
theorem kX12_fails : mx_okX (mX12_fails, bX12_fails, [(10, 9), (1, 14), (10, 8), (0, 74)]) = true := by decide +kernel
theorem wX12_within : mx_cw mX12_within ∈ mx_Ts := mx_inTs 10 5 rfl rfl
set_option maxRecDepth 100000 in
theorem kX12_within : mx_okX (mX12_within, bX12_within, [(10, 5), (1, 14), (10, 4), (0, 0)]) = true := by decide +kernel
theorem wX12_go : mx_cw mX12_go ∈ mx_Ts := mx_inTs 10 1 rfl rfl
set_option maxRecDepth 100000 in
theorem kX12_go : mx_okX (mX12_go, bX12_go, [(10, 1), (1, 14), (9, 239), (10, 0)]) = true := by decide +kernel
theorem wX12_measure : mx_cw mX12_measure ∈ mx_Ts := mx_inTs 10 17 rfl rfl
set_option maxRecDepth 100000 in
theorem kX12_measure : mx_okX (mX12_measure, bX12_measure, [(10, 17), (1, 14), (10, 16), (0, 75)]) = true := by decide +kernel
theorem wX12_town : mx_cw mX12_town ∈ mx_Ts := mx_inTs 10 13 rfl rfl
set_option maxRecDepth 100000 in
theorem kX12_town : mx_okX (mX12_town, bX12_town, [(10, 13), (1, 14), (10, 11), (10, 12)]) = true := by decide +kernel
theorem wX12_isTown : mx_cw mX12_isTown ∈ mx_Ts := mx_inTs 10 27 rfl rfl
set_option maxRecDepth 100000 in
theorem kX12_isTown : mx_okX (mX12_isTown, bX12_isTown, [(10, 27), (1, 14), (10, 26), (0, 76)]) = true := by decide +kernel
theorem wX12_road : mx_cw mX12_road ∈ mx_Ts := mx_inTs 10 23 rfl rfl
set_option maxRecDepth 100000 in
theorem kX12_road : mx_okX (mX12_road, bX12_road, [(10, 23), (1, 14), (10, 21), (10, 22)]) = true := by decide +kernel
theorem wX12_lagOf : mx_cw mX12_lagOf ∈ mx_Ts := mx_inTs 10 36 rfl rfl
set_option maxRecDepth 100000 in
theorem kX12_lagOf : mx_okX (mX12_lagOf, bX12_lagOf, [(10, 36), (1, 14), (10, 35), (0, 77)]) = true := by decide +kernel
theorem wX12_lag : mx_cw mX12_lag ∈ mx_Ts := mx_inTs 10 32 rfl rfl
set_option maxRecDepth 100000 in
theorem kX12_lag : mx_okX (mX12_lag, bX12_lag, [(10, 32), (1, 14), (10, 30), (10, 31)]) = true := by decide +kernel
theorem wX12_heardOn : mx_cw mX12_heardOn ∈ mx_Ts := mx_inTs 10 61 rfl rfl
set_option maxRecDepth 100000 in
theorem kX12_heardOn : mx_okX (mX12_heardOn, bX12_heardOn, [(10, 61), (1, 14), (10, 60), (0, 79)]) = true := by decide +kernel
theorem wX12_isCoin : mx_cw mX12_isCoin ∈ mx_Ts := mx_inTs 10 49 rfl rfl
set_option maxRecDepth 100000 in
theorem kX12_isCoin : mx_okX (mX12_isCoin, bX12_isCoin, [(10, 49), (1, 14), (10, 48), (0, 0)]) = true := by decide +kernel
theorem wX12_isDay : mx_cw mX12_isDay ∈ mx_Ts := mx_inTs 10 52 rfl rfl
set_option maxRecDepth 100000 in
theorem kX12_isDay : mx_okX (mX12_isDay, bX12_isDay, [(10, 52), (1, 14), (10, 51), (0, 0)]) = true := by decide +kernel
theorem wX12_rate : mx_cw mX12_rate ∈ mx_Ts := mx_inTs 10 40 rfl rfl
set_option maxRecDepth 100000 in
theorem kX12_rate : mx_okX (mX12_rate, bX12_rate, [(10, 40), (1, 14), (10, 38), (10, 39)]) = true := by decide +kernel
theorem wX12_rateOf : mx_cw mX12_rateOf ∈ mx_Ts := mx_inTs 10 57 rfl rfl
set_option maxRecDepth 100000 in
theorem kX12_rateOf : mx_okX (mX12_rateOf, bX12_rateOf, [(10, 57), (1, 14), (10, 56), (0, 78)]) = true := by decide +kernel
theorem wX12_rateAt : mx_cw mX12_rateAt ∈ mx_Ts := mx_inTs 10 46 rfl rfl
set_option maxRecDepth 100000 in
theorem kX12_rateAt : mx_okX (mX12_rateAt, bX12_rateAt, [(10, 46), (1, 14), (10, 44), (10, 45)]) = true := by decide +kernel
theorem wX12_worth : mx_cw mX12_worth ∈ mx_Ts := mx_inTs 10 115 rfl rfl
set_option maxRecDepth 100000 in
theorem kX12_worth : mx_okX (mX12_worth, bX12_worth, [(10, 115), (1, 14), (10, 114), (0, 86)]) = true := by decide +kernel
theorem wX12_broker : mx_cw mX12_broker ∈ mx_Ts := mx_inTs 10 65 rfl rfl
set_option maxRecDepth 100000 in
theorem kX12_broker : mx_okX (mX12_broker, bX12_broker, [(10, 65), (1, 14), (10, 63), (10, 64)]) = true := by decide +kernel
theorem wX12_isBroker : mx_cw mX12_isBroker ∈ mx_Ts := mx_inTs 10 74 rfl rfl
set_option maxRecDepth 100000 in
theorem kX12_isBroker : mx_okX (mX12_isBroker, bX12_isBroker, [(10, 74), (1, 14), (10, 73), (0, 80)]) = true := by decide +kernel
theorem wX12_hasFallen : mx_cw mX12_hasFallen ∈ mx_Ts := mx_inTs 10 78 rfl rfl
set_option maxRecDepth 100000 in
theorem kX12_hasFallen : mx_okX (mX12_hasFallen, bX12_hasFallen, [(10, 78), (1, 14), (10, 77), (0, 81)]) = true := by decide +kernel
theorem wX12_gets : mx_cw mX12_gets ∈ mx_Ts := mx_inTs 11 62 rfl rfl
set_option maxRecDepth 100000 in
theorem kX12_gets : mx_okX (mX12_gets, bX12_gets, [(11, 62), (1, 14), (11, 61), (0, 113)]) = true := by decide +kernel
theorem wX12_put : mx_cw mX12_put ∈ mx_Ts := mx_inTs 10 70 rfl rfl
set_option maxRecDepth 100000 in
theorem kX12_put : mx_okX (mX12_put, bX12_put, [(10, 70), (1, 14), (10, 68), (10, 69)]) = true := by decide +kernel
theorem wX12_drawer : mx_cw mX12_drawer ∈ mx_Ts := mx_inTs 10 83 rfl rfl
set_option maxRecDepth 100000 in
theorem kX12_drawer : mx_okX (mX12_drawer, bX12_drawer, [(10, 83), (1, 14), (10, 81), (10, 82)]) = true := by decide +kernel
theorem wX12_enter : mx_cw mX12_enter ∈ mx_Ts := mx_inTs 11 78 rfl rfl
set_option maxRecDepth 100000 in
theorem kX12_enter : mx_okX (mX12_enter, bX12_enter, [(11, 78), (1, 14), (11, 77), (0, 116)]) = true := by decide +kernel
theorem wX12_part : mx_cw mX12_part ∈ mx_Ts := mx_inTs 10 95 rfl rfl
set_option maxRecDepth 100000 in
theorem kX12_part : mx_okX (mX12_part, bX12_part, [(10, 95), (1, 14), (10, 94), (0, 83)]) = true := by decide +kernel
theorem wX12_net : mx_cw mX12_net ∈ mx_Ts := mx_inTs 10 91 rfl rfl
set_option maxRecDepth 100000 in
theorem kX12_net : mx_okX (mX12_net, bX12_net, [(10, 91), (1, 14), (10, 90), (0, 82)]) = true := by decide +kernel
