/-! each method passes the check -/
theorem wX12_lines : mx_cw mX12_lines ∈ mx_Ts := mx_inTs 11 14 rfl rfl
set_option maxRecDepth 100000 in
theorem kX12_lines : mx_okX (mX12_lines, bX12_lines, [(11, 14), (1, 14), (11, 12), (11, 13)]) = true := by decide +kernel
theorem wX12_two : mx_cw mX12_two ∈ mx_Ts := mx_inTs 11 41 rfl rfl
set_option maxRecDepth 100000 in
theorem kX12_two : mx_okX (mX12_two, bX12_two, [(11, 41), (1, 14), (11, 40), (0, 111)]) = true := by decide +kernel
theorem wX12_worked : mx_cw mX12_worked ∈ mx_Ts := mx_inTs 11 37 rfl rfl
set_option maxRecDepth 100000 in
theorem kX12_worked : mx_okX (mX12_worked, bX12_worked, [(11, 37), (1, 14), (11, 36), (0, 110)]) = true := by decide +kernel
theorem wX12_cut : mx_cw mX12_cut ∈ mx_Ts := mx_inTs 11 44 rfl rfl
set_option maxRecDepth 100000 in
theorem kX12_cut : mx_okX (mX12_cut, bX12_cut, [(11, 44), (1, 14), (11, 43), (0, 0)]) = true := by decide +kernel
set_option maxRecDepth 100000 in
theorem kX12_asks_r0 : ((bX12_asks).take 40).all (fun e => mx_okB (mx_my mX12_asks).cls (mx_mb mX12_asks) (mx_ml mX12_asks) (mx_mr mX12_asks) (decide (mx_mk mX12_asks = 2)) mx_mT e) = true := by decide +kernel
set_option maxRecDepth 100000 in
theorem kX12_asks_r1 : (((bX12_asks).drop 40).take 40).all (fun e => mx_okB (mx_my mX12_asks).cls (mx_mb mX12_asks) (mx_ml mX12_asks) (mx_mr mX12_asks) (decide (mx_mk mX12_asks = 2)) mx_mT e) = true := by decide +kernel
set_option maxRecDepth 100000 in
theorem kX12_asks_r2 : ((((bX12_asks).drop 40).drop 40).take 40).all (fun e => mx_okB (mx_my mX12_asks).cls (mx_mb mX12_asks) (mx_ml mX12_asks) (mx_mr mX12_asks) (decide (mx_mk mX12_asks = 2)) mx_mT e) = true := by decide +kernel
set_option maxRecDepth 100000 in
theorem kX12_asks_r3 : (((((bX12_asks).drop 40).drop 40).drop 40).take 40).all (fun e => mx_okB (mx_my mX12_asks).cls (mx_mb mX12_asks) (mx_ml mX12_asks) (mx_mr mX12_asks) (decide (mx_mk mX12_asks = 2)) mx_mT e) = true := by decide +kernel
set_option maxRecDepth 100000 in
theorem kX12_asks_r4 : ((((((bX12_asks).drop 40).drop 40).drop 40).drop 40).take 40).all (fun e => mx_okB (mx_my mX12_asks).cls (mx_mb mX12_asks) (mx_ml mX12_asks) (mx_mr mX12_asks) (decide (mx_mk mX12_asks = 2)) mx_mT e) = true := by decide +kernel
set_option maxRecDepth 100000 in
theorem kX12_asks_r5 : ((((((bX12_asks).drop 40).drop 40).drop 40).drop 40).drop 40).all (fun e => mx_okB (mx_my mX12_asks).cls (mx_mb mX12_asks) (mx_ml mX12_asks) (mx_mr mX12_asks) (decide (mx_mk mX12_asks = 2)) mx_mT e) = true := by decide +kernel
theorem wX12_asks : mx_cw mX12_asks ∈ mx_Ts := mx_inTs 11 31 rfl rfl
set_option maxRecDepth 100000 in
theorem kX12_asks_m : mx_okM mX12_asks [(11, 31), (1, 14), (11, 30), (0, 109)] = true := by decide +kernel
set_option maxRecDepth 100000 in
theorem kX12_asks_c : mx_ch bX12_asks = true := by decide +kernel
theorem kX12_asks : mx_okX (mX12_asks, bX12_asks, [(11, 31), (1, 14), (11, 30), (0, 109)]) = true := mx_okX_of kX12_asks_m kX12_asks_c (mx_allc 40 kX12_asks_r0 (mx_allc 40 kX12_asks_r1 (mx_allc 40 kX12_asks_r2 (mx_allc 40 kX12_asks_r3 (mx_allc 40 kX12_asks_r4 (kX12_asks_r5))))))
theorem wX12_said : mx_cw mX12_said ∈ mx_Ts := mx_inTs 11 26 rfl rfl
set_option maxRecDepth 100000 in
theorem kX12_said : mx_okX (mX12_said, bX12_said, [(11, 26), (1, 14), (11, 24), (11, 25)]) = true := by decide +kernel
theorem wX12_comes : mx_cw mX12_comes ∈ mx_Ts := mx_inTs 11 58 rfl rfl
set_option maxRecDepth 100000 in
theorem kX12_comes : mx_okX (mX12_comes, bX12_comes, [(11, 58), (1, 14), (11, 57), (0, 112)]) = true := by decide +kernel
theorem wX12_tell : mx_cw mX12_tell ∈ mx_Ts := mx_inTs 11 53 rfl rfl
set_option maxRecDepth 100000 in
theorem kX12_tell : mx_okX (mX12_tell, bX12_tell, [(11, 53), (1, 14), (11, 51), (11, 52)]) = true := by decide +kernel
theorem wX12_isWord : mx_cw mX12_isWord ∈ mx_Ts := mx_inTs 11 70 rfl rfl
set_option maxRecDepth 100000 in
theorem kX12_isWord : mx_okX (mX12_isWord, bX12_isWord, [(11, 70), (1, 14), (11, 69), (0, 114)]) = true := by decide +kernel
theorem wX12_isPaid : mx_cw mX12_isPaid ∈ mx_Ts := mx_inTs 11 74 rfl rfl
set_option maxRecDepth 100000 in
theorem kX12_isPaid : mx_okX (mX12_isPaid, bX12_isPaid, [(11, 74), (1, 14), (11, 73), (0, 115)]) = true := by decide +kernel
theorem wX12_isPaidAt : mx_cw mX12_isPaidAt ∈ mx_Ts := mx_inTs 11 90 rfl rfl
set_option maxRecDepth 100000 in
theorem kX12_isPaidAt : mx_okX (mX12_isPaidAt, bX12_isPaidAt, [(11, 90), (1, 14), (11, 89), (0, 118)]) = true := by decide +kernel
theorem wX12_stops : mx_cw mX12_stops ∈ mx_Ts := mx_inTs 11 82 rfl rfl
set_option maxRecDepth 100000 in
theorem kX12_stops : mx_okX (mX12_stops, bX12_stops, [(11, 82), (1, 14), (11, 81), (0, 117)]) = true := by decide +kernel
set_option maxRecDepth 100000 in
theorem kX12_pay_r0 : ((bX12_pay).take 40).all (fun e => mx_okB (mx_my mX12_pay).cls (mx_mb mX12_pay) (mx_ml mX12_pay) (mx_mr mX12_pay) (decide (mx_mk mX12_pay = 2)) mx_mT e) = true := by decide +kernel
set_option maxRecDepth 100000 in
theorem kX12_pay_r1 : (((bX12_pay).drop 40).take 40).all (fun e => mx_okB (mx_my mX12_pay).cls (mx_mb mX12_pay) (mx_ml mX12_pay) (mx_mr mX12_pay) (decide (mx_mk mX12_pay = 2)) mx_mT e) = true := by decide +kernel
set_option maxRecDepth 100000 in
theorem kX12_pay_r2 : ((((bX12_pay).drop 40).drop 40).take 40).all (fun e => mx_okB (mx_my mX12_pay).cls (mx_mb mX12_pay) (mx_ml mX12_pay) (mx_mr mX12_pay) (decide (mx_mk mX12_pay = 2)) mx_mT e) = true := by decide +kernel
set_option maxRecDepth 100000 in
theorem kX12_pay_r3 : (((((bX12_pay).drop 40).drop 40).drop 40).take 40).all (fun e => mx_okB (mx_my mX12_pay).cls (mx_mb mX12_pay) (mx_ml mX12_pay) (mx_mr mX12_pay) (decide (mx_mk mX12_pay = 2)) mx_mT e) = true := by decide +kernel
set_option maxRecDepth 100000 in
theorem kX12_pay_r4 : (((((bX12_pay).drop 40).drop 40).drop 40).drop 40).all (fun e => mx_okB (mx_my mX12_pay).cls (mx_mb mX12_pay) (mx_ml mX12_pay) (mx_mr mX12_pay) (decide (mx_mk mX12_pay = 2)) mx_mT e) = true := by decide +kernel
theorem wX12_pay : mx_cw mX12_pay ∈ mx_Ts := mx_inTs 11 66 rfl rfl
set_option maxRecDepth 100000 in
theorem kX12_pay_m : mx_okM mX12_pay [(11, 66), (1, 14), (11, 64), (11, 65)] = true := by decide +kernel
set_option maxRecDepth 100000 in
theorem kX12_pay_c : mx_ch bX12_pay = true := by decide +kernel
theorem kX12_pay : mx_okX (mX12_pay, bX12_pay, [(11, 66), (1, 14), (11, 64), (11, 65)]) = true := mx_okX_of kX12_pay_m kX12_pay_c (mx_allc 40 kX12_pay_r0 (mx_allc 40 kX12_pay_r1 (mx_allc 40 kX12_pay_r2 (mx_allc 40 kX12_pay_r3 (kX12_pay_r4)))))
theorem wX12_back : mx_cw mX12_back ∈ mx_Ts := mx_inTs 11 86 rfl rfl
set_option maxRecDepth 100000 in
theorem kX12_back : mx_okX (mX12_back, bX12_back, [(11, 86), (1, 14), (11, 84), (11, 85)]) = true := by decide +kernel
set_option maxRecDepth 100000 in
theorem kX12_twin_r0 : ((bX12_twin).take 40).all (fun e => mx_okB (mx_my mX12_twin).cls (mx_mb mX12_twin) (mx_ml mX12_twin) (mx_mr mX12_twin) (decide (mx_mk mX12_twin = 2)) mx_mT e) = true := by decide +kernel
set_option maxRecDepth 100000 in
theorem kX12_twin_r1 : (((bX12_twin).drop 40).take 40).all (fun e => mx_okB (mx_my mX12_twin).cls (mx_mb mX12_twin) (mx_ml mX12_twin) (mx_mr mX12_twin) (decide (mx_mk mX12_twin = 2)) mx_mT e) = true := by decide +kernel
set_option maxRecDepth 100000 in
theorem kX12_twin_r2 : ((((bX12_twin).drop 40).drop 40).take 40).all (fun e => mx_okB (mx_my mX12_twin).cls (mx_mb mX12_twin) (mx_ml mX12_twin) (mx_mr mX12_twin) (decide (mx_mk mX12_twin = 2)) mx_mT e) = true := by decide +kernel
set_option maxRecDepth 100000 in
theorem kX12_twin_r3 : ((((bX12_twin).drop 40).drop 40).drop 40).all (fun e => mx_okB (mx_my mX12_twin).cls (mx_mb mX12_twin) (mx_ml mX12_twin) (mx_mr mX12_twin) (decide (mx_mk mX12_twin = 2)) mx_mT e) = true := by decide +kernel
theorem wX12_twin : mx_cw mX12_twin ∈ mx_Ts := mx_inTs 11 94 rfl rfl
set_option maxRecDepth 100000 in
theorem kX12_twin_m : mx_okM mX12_twin [(11, 94), (1, 14), (11, 92), (11, 93)] = true := by decide +kernel
set_option maxRecDepth 100000 in
theorem kX12_twin_c : mx_ch bX12_twin = true := by decide +kernel
theorem kX12_twin : mx_okX (mX12_twin, bX12_twin, [(11, 94), (1, 14), (11, 92), (11, 93)]) = true := mx_okX_of kX12_twin_m kX12_twin_c (mx_allc 40 kX12_twin_r0 (mx_allc 40 kX12_twin_r1 (mx_allc 40 kX12_twin_r2 (kX12_twin_r3))))
theorem wX12_stateOf : mx_cw mX12_stateOf ∈ mx_Ts := mx_inTs 11 102 rfl rfl
set_option maxRecDepth 100000 in
theorem kX12_stateOf : mx_okX (mX12_stateOf, bX12_stateOf, [(11, 102), (1, 14), (11, 101), (0, 119)]) = true := by decide +kernel
theorem wX12_word : mx_cw mX12_word ∈ mx_Ts := mx_inTs 11 98 rfl rfl
set_option maxRecDepth 100000 in
theorem kX12_word : mx_okX (mX12_word, bX12_word, [(11, 98), (1, 14), (11, 96), (11, 97)]) = true := by decide +kernel
