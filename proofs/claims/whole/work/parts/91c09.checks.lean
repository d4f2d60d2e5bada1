/-! each method passes the check -/
set_option maxRecDepth 100000 in
theorem kX12_plan_r0 : ((bX12_plan).take 40).all (fun e => mx_okB (mx_my mX12_plan).cls (mx_mb mX12_plan) (mx_ml mX12_plan) (mx_mr mX12_plan) (decide (mx_mk mX12_plan = 2)) mx_mT e) = true := by decide +kernel
set_option maxRecDepth 100000 in
theorem kX12_plan_r1 : (((bX12_plan).drop 40).take 40).all (fun e => mx_okB (mx_my mX12_plan).cls (mx_mb mX12_plan) (mx_ml mX12_plan) (mx_mr mX12_plan) (decide (mx_mk mX12_plan = 2)) mx_mT e) = true := by decide +kernel
set_option maxRecDepth 100000 in
theorem kX12_plan_r2 : ((((bX12_plan).drop 40).drop 40).take 40).all (fun e => mx_okB (mx_my mX12_plan).cls (mx_mb mX12_plan) (mx_ml mX12_plan) (mx_mr mX12_plan) (decide (mx_mk mX12_plan = 2)) mx_mT e) = true := by decide +kernel
set_option maxRecDepth 100000 in
theorem kX12_plan_r3 : (((((bX12_plan).drop 40).drop 40).drop 40).take 40).all (fun e => mx_okB (mx_my mX12_plan).cls (mx_mb mX12_plan) (mx_ml mX12_plan) (mx_mr mX12_plan) (decide (mx_mk mX12_plan = 2)) mx_mT e) = true := by decide +kernel
set_option maxRecDepth 100000 in
theorem kX12_plan_r4 : ((((((bX12_plan).drop 40).drop 40).drop 40).drop 40).take 40).all (fun e => mx_okB (mx_my mX12_plan).cls (mx_mb mX12_plan) (mx_ml mX12_plan) (mx_mr mX12_plan) (decide (mx_mk mX12_plan = 2)) mx_mT e) = true := by decide +kernel
set_option maxRecDepth 100000 in
theorem kX12_plan_r5 : (((((((bX12_plan).drop 40).drop 40).drop 40).drop 40).drop 40).take 40).all (fun e => mx_okB (mx_my mX12_plan).cls (mx_mb mX12_plan) (mx_ml mX12_plan) (mx_mr mX12_plan) (decide (mx_mk mX12_plan = 2)) mx_mT e) = true := by decide +kernel
set_option maxRecDepth 100000 in
theorem kX12_plan_r6 : (((((((bX12_plan).drop 40).drop 40).drop 40).drop 40).drop 40).drop 40).all (fun e => mx_okB (mx_my mX12_plan).cls (mx_mb mX12_plan) (mx_ml mX12_plan) (mx_mr mX12_plan) (decide (mx_mk mX12_plan = 2)) mx_mT e) = true := by decide +kernel
theorem wX12_plan : mx_cw mX12_plan ∈ mx_Ts := mx_inTs 11 199 rfl rfl
set_option maxRecDepth 100000 in
theorem kX12_plan_m : mx_okM mX12_plan [(11, 199), (1, 14), (11, 197), (11, 198)] = true := by decide +kernel
set_option maxRecDepth 100000 in
theorem kX12_plan_c : mx_ch bX12_plan = true := by decide +kernel
theorem kX12_plan : mx_okX (mX12_plan, bX12_plan, [(11, 199), (1, 14), (11, 197), (11, 198)]) = true := mx_okX_of kX12_plan_m kX12_plan_c (mx_allc 40 kX12_plan_r0 (mx_allc 40 kX12_plan_r1 (mx_allc 40 kX12_plan_r2 (mx_allc 40 kX12_plan_r3 (mx_allc 40 kX12_plan_r4 (mx_allc 40 kX12_plan_r5 (kX12_plan_r6)))))))
theorem wX12_split : mx_cw mX12_split ∈ mx_Ts := mx_inTs 11 230 rfl rfl
set_option maxRecDepth 100000 in
theorem kX12_split : mx_okX (mX12_split, bX12_split, [(11, 230), (1, 14), (11, 229), (0, 135)]) = true := by decide +kernel
theorem wX12_estateOf : mx_cw mX12_estateOf ∈ mx_Ts := mx_inTs 11 226 rfl rfl
set_option maxRecDepth 100000 in
theorem kX12_estateOf : mx_okX (mX12_estateOf, bX12_estateOf, [(11, 226), (1, 14), (11, 225), (0, 134)]) = true := by decide +kernel
theorem wX12_creditors : mx_cw mX12_creditors ∈ mx_Ts := mx_inTs 11 218 rfl rfl
set_option maxRecDepth 100000 in
theorem kX12_creditors : mx_okX (mX12_creditors, bX12_creditors, [(11, 218), (1, 14), (11, 217), (0, 132)]) = true := by decide +kernel
set_option maxRecDepth 100000 in
theorem kX12_parts_r0 : ((bX12_parts).take 40).all (fun e => mx_okB (mx_my mX12_parts).cls (mx_mb mX12_parts) (mx_ml mX12_parts) (mx_mr mX12_parts) (decide (mx_mk mX12_parts = 2)) mx_mT e) = true := by decide +kernel
set_option maxRecDepth 100000 in
theorem kX12_parts_r1 : (((bX12_parts).drop 40).take 40).all (fun e => mx_okB (mx_my mX12_parts).cls (mx_mb mX12_parts) (mx_ml mX12_parts) (mx_mr mX12_parts) (decide (mx_mk mX12_parts = 2)) mx_mT e) = true := by decide +kernel
set_option maxRecDepth 100000 in
theorem kX12_parts_r2 : ((((bX12_parts).drop 40).drop 40).take 40).all (fun e => mx_okB (mx_my mX12_parts).cls (mx_mb mX12_parts) (mx_ml mX12_parts) (mx_mr mX12_parts) (decide (mx_mk mX12_parts = 2)) mx_mT e) = true := by decide +kernel
set_option maxRecDepth 100000 in
theorem kX12_parts_r3 : (((((bX12_parts).drop 40).drop 40).drop 40).take 40).all (fun e => mx_okB (mx_my mX12_parts).cls (mx_mb mX12_parts) (mx_ml mX12_parts) (mx_mr mX12_parts) (decide (mx_mk mX12_parts = 2)) mx_mT e) = true := by decide +kernel
set_option maxRecDepth 100000 in
theorem kX12_parts_r4 : (((((bX12_parts).drop 40).drop 40).drop 40).drop 40).all (fun e => mx_okB (mx_my mX12_parts).cls (mx_mb mX12_parts) (mx_ml mX12_parts) (mx_mr mX12_parts) (decide (mx_mk mX12_parts = 2)) mx_mT e) = true := by decide +kernel
theorem wX12_parts : mx_cw mX12_parts ∈ mx_Ts := mx_inTs 11 222 rfl rfl
set_option maxRecDepth 100000 in
theorem kX12_parts_m : mx_okM mX12_parts [(11, 222), (1, 14), (11, 221), (0, 133)] = true := by decide +kernel
set_option maxRecDepth 100000 in
theorem kX12_parts_c : mx_ch bX12_parts = true := by decide +kernel
theorem kX12_parts : mx_okX (mX12_parts, bX12_parts, [(11, 222), (1, 14), (11, 221), (0, 133)]) = true := mx_okX_of kX12_parts_m kX12_parts_c (mx_allc 40 kX12_parts_r0 (mx_allc 40 kX12_parts_r1 (mx_allc 40 kX12_parts_r2 (mx_allc 40 kX12_parts_r3 (kX12_parts_r4)))))
theorem wX12_standingOnes : mx_cw mX12_standingOnes ∈ mx_Ts := mx_inTs 11 214 rfl rfl
set_option maxRecDepth 100000 in
theorem kX12_standingOnes : mx_okX (mX12_standingOnes, bX12_standingOnes, [(11, 214), (1, 14), (11, 213), (0, 131)]) = true := by decide +kernel
set_option maxRecDepth 100000 in
theorem kX12_falls_r0 : ((bX12_falls).take 40).all (fun e => mx_okB (mx_my mX12_falls).cls (mx_mb mX12_falls) (mx_ml mX12_falls) (mx_mr mX12_falls) (decide (mx_mk mX12_falls = 2)) mx_mT e) = true := by decide +kernel
set_option maxRecDepth 100000 in
theorem kX12_falls_r1 : (((bX12_falls).drop 40).take 40).all (fun e => mx_okB (mx_my mX12_falls).cls (mx_mb mX12_falls) (mx_ml mX12_falls) (mx_mr mX12_falls) (decide (mx_mk mX12_falls = 2)) mx_mT e) = true := by decide +kernel
set_option maxRecDepth 100000 in
theorem kX12_falls_r2 : ((((bX12_falls).drop 40).drop 40).take 40).all (fun e => mx_okB (mx_my mX12_falls).cls (mx_mb mX12_falls) (mx_ml mX12_falls) (mx_mr mX12_falls) (decide (mx_mk mX12_falls = 2)) mx_mT e) = true := by decide +kernel
set_option maxRecDepth 100000 in
theorem kX12_falls_r3 : (((((bX12_falls).drop 40).drop 40).drop 40).take 40).all (fun e => mx_okB (mx_my mX12_falls).cls (mx_mb mX12_falls) (mx_ml mX12_falls) (mx_mr mX12_falls) (decide (mx_mk mX12_falls = 2)) mx_mT e) = true := by decide +kernel
set_option maxRecDepth 100000 in
theorem kX12_falls_r4 : ((((((bX12_falls).drop 40).drop 40).drop 40).drop 40).take 40).all (fun e => mx_okB (mx_my mX12_falls).cls (mx_mb mX12_falls) (mx_ml mX12_falls) (mx_mr mX12_falls) (decide (mx_mk mX12_falls = 2)) mx_mT e) = true := by decide +kernel
set_option maxRecDepth 100000 in
theorem kX12_falls_r5 : (((((((bX12_falls).drop 40).drop 40).drop 40).drop 40).drop 40).take 40).all (fun e => mx_okB (mx_my mX12_falls).cls (mx_mb mX12_falls) (mx_ml mX12_falls) (mx_mr mX12_falls) (decide (mx_mk mX12_falls = 2)) mx_mT e) = true := by decide +kernel
set_option maxRecDepth 100000 in
theorem kX12_falls_r6 : (((((((bX12_falls).drop 40).drop 40).drop 40).drop 40).drop 40).drop 40).all (fun e => mx_okB (mx_my mX12_falls).cls (mx_mb mX12_falls) (mx_ml mX12_falls) (mx_mr mX12_falls) (decide (mx_mk mX12_falls = 2)) mx_mT e) = true := by decide +kernel
theorem wX12_falls : mx_cw mX12_falls ∈ mx_Ts := mx_inTs 11 210 rfl rfl
set_option maxRecDepth 100000 in
theorem kX12_falls_m : mx_okM mX12_falls [(11, 210), (1, 14), (11, 208), (11, 209)] = true := by decide +kernel
set_option maxRecDepth 100000 in
theorem kX12_falls_c : mx_ch bX12_falls = true := by decide +kernel
theorem kX12_falls : mx_okX (mX12_falls, bX12_falls, [(11, 210), (1, 14), (11, 208), (11, 209)]) = true := mx_okX_of kX12_falls_m kX12_falls_c (mx_allc 40 kX12_falls_r0 (mx_allc 40 kX12_falls_r1 (mx_allc 40 kX12_falls_r2 (mx_allc 40 kX12_falls_r3 (mx_allc 40 kX12_falls_r4 (mx_allc 40 kX12_falls_r5 (kX12_falls_r6)))))))
theorem wX12_fallen : mx_cw mX12_fallen ∈ mx_Ts := mx_inTs 11 234 rfl rfl
set_option maxRecDepth 100000 in
theorem kX12_fallen : mx_okX (mX12_fallen, bX12_fallen, [(11, 234), (1, 14), (11, 233), (0, 136)]) = true := by decide +kernel
theorem wX12_comesTo : mx_cw mX12_comesTo ∈ mx_Ts := mx_inTs 11 238 rfl rfl
set_option maxRecDepth 100000 in
theorem kX12_comesTo : mx_okX (mX12_comesTo, bX12_comesTo, [(11, 238), (1, 14), (11, 237), (0, 137)]) = true := by decide +kernel
theorem wX12_fell : mx_cw mX12_fell ∈ mx_Ts := mx_inTs 12 2 rfl rfl
set_option maxRecDepth 100000 in
theorem kX12_fell : mx_okX (mX12_fell, bX12_fell, [(12, 2), (1, 14), (12, 0), (12, 1)]) = true := by decide +kernel
theorem wX12_wealthOf : mx_cw mX12_wealthOf ∈ mx_Ts := mx_inTs 12 10 rfl rfl
set_option maxRecDepth 100000 in
theorem kX12_wealthOf : mx_okX (mX12_wealthOf, bX12_wealthOf, [(12, 10), (1, 14), (12, 9), (0, 138)]) = true := by decide +kernel
theorem wX12_ruin : mx_cw mX12_ruin ∈ mx_Ts := mx_inTs 12 6 rfl rfl
set_option maxRecDepth 100000 in
theorem kX12_ruin : mx_okX (mX12_ruin, bX12_ruin, [(12, 6), (1, 14), (12, 4), (12, 5)]) = true := by decide +kernel
theorem wX12_wealth : mx_cw mX12_wealth ∈ mx_Ts := mx_inTs 12 14 rfl rfl
set_option maxRecDepth 100000 in
theorem kX12_wealth : mx_okX (mX12_wealth, bX12_wealth, [(12, 14), (1, 14), (12, 12), (12, 13)]) = true := by decide +kernel
set_option maxRecDepth 100000 in
theorem kX12_run_r0 : ((bX12_run).take 40).all (fun e => mx_okB (mx_my mX12_run).cls (mx_mb mX12_run) (mx_ml mX12_run) (mx_mr mX12_run) (decide (mx_mk mX12_run = 2)) mx_mT e) = true := by decide +kernel
set_option maxRecDepth 100000 in
theorem kX12_run_r1 : (((bX12_run).drop 40).take 40).all (fun e => mx_okB (mx_my mX12_run).cls (mx_mb mX12_run) (mx_ml mX12_run) (mx_mr mX12_run) (decide (mx_mk mX12_run = 2)) mx_mT e) = true := by decide +kernel
set_option maxRecDepth 100000 in
theorem kX12_run_r2 : ((((bX12_run).drop 40).drop 40).take 40).all (fun e => mx_okB (mx_my mX12_run).cls (mx_mb mX12_run) (mx_ml mX12_run) (mx_mr mX12_run) (decide (mx_mk mX12_run = 2)) mx_mT e) = true := by decide +kernel
set_option maxRecDepth 100000 in
theorem kX12_run_r3 : ((((bX12_run).drop 40).drop 40).drop 40).all (fun e => mx_okB (mx_my mX12_run).cls (mx_mb mX12_run) (mx_ml mX12_run) (mx_mr mX12_run) (decide (mx_mk mX12_run = 2)) mx_mT e) = true := by decide +kernel
theorem wX12_run : mx_cw mX12_run ∈ mx_Ts := mx_inTs 12 18 rfl rfl
set_option maxRecDepth 100000 in
theorem kX12_run_m : mx_okM mX12_run [(12, 18), (1, 14), (12, 16), (12, 17)] = true := by decide +kernel
set_option maxRecDepth 100000 in
theorem kX12_run_c : mx_ch bX12_run = true := by decide +kernel
theorem kX12_run : mx_okX (mX12_run, bX12_run, [(12, 18), (1, 14), (12, 16), (12, 17)]) = true := mx_okX_of kX12_run_m kX12_run_c (mx_allc 40 kX12_run_r0 (mx_allc 40 kX12_run_r1 (mx_allc 40 kX12_run_r2 (kX12_run_r3))))
theorem wX12_isTray : mx_cw mX12_isTray ∈ mx_Ts := mx_inTs 12 25 rfl rfl
set_option maxRecDepth 100000 in
theorem kX12_isTray : mx_okX (mX12_isTray, bX12_isTray, [(12, 25), (1, 14), (12, 24), (0, 0)]) = true := by decide +kernel
theorem wX12_tray : mx_cw mX12_tray ∈ mx_Ts := mx_inTs 12 22 rfl rfl
set_option maxRecDepth 100000 in
theorem kX12_tray : mx_okX (mX12_tray, bX12_tray, [(12, 22), (1, 14), (12, 20), (12, 21)]) = true := by decide +kernel
