/-! each method passes the check -/
theorem wX12_settle : mx_cw mX12_settle ∈ mx_Ts := mx_inTs 11 106 rfl rfl
set_option maxRecDepth 100000 in
theorem kX12_settle : mx_okX (mX12_settle, bX12_settle, [(11, 106), (1, 14), (11, 104), (11, 105)]) = true := by decide +kernel
theorem wX12_market : mx_cw mX12_market ∈ mx_Ts := mx_inTs 11 110 rfl rfl
set_option maxRecDepth 100000 in
theorem kX12_market : mx_okX (mX12_market, bX12_market, [(11, 110), (1, 14), (11, 108), (11, 109)]) = true := by decide +kernel
theorem wX12_goods : mx_cw mX12_goods ∈ mx_Ts := mx_inTs 11 115 rfl rfl
set_option maxRecDepth 100000 in
theorem kX12_goods : mx_okX (mX12_goods, bX12_goods, [(11, 115), (1, 14), (11, 113), (11, 114)]) = true := by decide +kernel
theorem wX12_hidden : mx_cw mX12_hidden ∈ mx_Ts := mx_inTs 11 119 rfl rfl
set_option maxRecDepth 100000 in
theorem kX12_hidden : mx_okX (mX12_hidden, bX12_hidden, [(11, 119), (1, 14), (11, 117), (11, 118)]) = true := by decide +kernel
theorem wX12_layNets : mx_cw mX12_layNets ∈ mx_Ts := mx_inTs 11 133 rfl rfl
set_option maxRecDepth 100000 in
theorem kX12_layNets : mx_okX (mX12_layNets, bX12_layNets, [(11, 133), (1, 14), (11, 132), (0, 121)]) = true := by decide +kernel
theorem wX12_rounds : mx_cw mX12_rounds ∈ mx_Ts := mx_inTs 11 138 rfl rfl
set_option maxRecDepth 100000 in
theorem kX12_rounds : mx_okX (mX12_rounds, bX12_rounds, [(11, 138), (1, 14), (11, 137), (0, 122)]) = true := by decide +kernel
theorem wX12_seekRing : mx_cw mX12_seekRing ∈ mx_Ts := mx_inTs 11 129 rfl rfl
set_option maxRecDepth 100000 in
theorem kX12_seekRing : mx_okX (mX12_seekRing, bX12_seekRing, [(11, 129), (1, 14), (11, 128), (0, 120)]) = true := by decide +kernel
theorem wX12_ring : mx_cw mX12_ring ∈ mx_Ts := mx_inTs 11 123 rfl rfl
set_option maxRecDepth 100000 in
theorem kX12_ring : mx_okX (mX12_ring, bX12_ring, [(11, 123), (1, 14), (11, 121), (11, 122)]) = true := by decide +kernel
theorem wX12_cross : mx_cw mX12_cross ∈ mx_Ts := mx_inTs 11 142 rfl rfl
set_option maxRecDepth 100000 in
theorem kX12_cross : mx_okX (mX12_cross, bX12_cross, [(11, 142), (1, 14), (11, 140), (11, 141)]) = true := by decide +kernel
theorem wX12_ones : mx_cw mX12_ones ∈ mx_Ts := mx_inTs 11 153 rfl rfl
set_option maxRecDepth 100000 in
theorem kX12_ones : mx_okX (mX12_ones, bX12_ones, [(11, 153), (1, 14), (11, 152), (0, 0)]) = true := by decide +kernel
theorem wX12_parted : mx_cw mX12_parted ∈ mx_Ts := mx_inTs 11 161 rfl rfl
set_option maxRecDepth 100000 in
theorem kX12_parted : mx_okX (mX12_parted, bX12_parted, [(11, 161), (1, 14), (11, 160), (0, 125)]) = true := by decide +kernel
theorem wX12_pays : mx_cw mX12_pays ∈ mx_Ts := mx_inTs 11 173 rfl rfl
set_option maxRecDepth 100000 in
theorem kX12_pays : mx_okX (mX12_pays, bX12_pays, [(11, 173), (1, 14), (11, 172), (0, 127)]) = true := by decide +kernel
set_option maxRecDepth 100000 in
theorem kX12_seekFewest_r0 : ((bX12_seekFewest).take 40).all (fun e => mx_okB (mx_my mX12_seekFewest).cls (mx_mb mX12_seekFewest) (mx_ml mX12_seekFewest) (mx_mr mX12_seekFewest) (decide (mx_mk mX12_seekFewest = 2)) mx_mT e) = true := by decide +kernel
set_option maxRecDepth 100000 in
theorem kX12_seekFewest_r1 : (((bX12_seekFewest).drop 40).take 40).all (fun e => mx_okB (mx_my mX12_seekFewest).cls (mx_mb mX12_seekFewest) (mx_ml mX12_seekFewest) (mx_mr mX12_seekFewest) (decide (mx_mk mX12_seekFewest = 2)) mx_mT e) = true := by decide +kernel
set_option maxRecDepth 100000 in
theorem kX12_seekFewest_r2 : ((((bX12_seekFewest).drop 40).drop 40).take 40).all (fun e => mx_okB (mx_my mX12_seekFewest).cls (mx_mb mX12_seekFewest) (mx_ml mX12_seekFewest) (mx_mr mX12_seekFewest) (decide (mx_mk mX12_seekFewest = 2)) mx_mT e) = true := by decide +kernel
set_option maxRecDepth 100000 in
theorem kX12_seekFewest_r3 : ((((bX12_seekFewest).drop 40).drop 40).drop 40).all (fun e => mx_okB (mx_my mX12_seekFewest).cls (mx_mb mX12_seekFewest) (mx_ml mX12_seekFewest) (mx_mr mX12_seekFewest) (decide (mx_mk mX12_seekFewest = 2)) mx_mT e) = true := by decide +kernel
theorem wX12_seekFewest : mx_cw mX12_seekFewest ∈ mx_Ts := mx_inTs 11 157 rfl rfl
set_option maxRecDepth 100000 in
theorem kX12_seekFewest_m : mx_okM mX12_seekFewest [(11, 157), (1, 14), (11, 156), (0, 124)] = true := by decide +kernel
set_option maxRecDepth 100000 in
theorem kX12_seekFewest_c : mx_ch bX12_seekFewest = true := by decide +kernel
theorem kX12_seekFewest : mx_okX (mX12_seekFewest, bX12_seekFewest, [(11, 157), (1, 14), (11, 156), (0, 124)]) = true := mx_okX_of kX12_seekFewest_m kX12_seekFewest_c (mx_allc 40 kX12_seekFewest_r0 (mx_allc 40 kX12_seekFewest_r1 (mx_allc 40 kX12_seekFewest_r2 (kX12_seekFewest_r3))))
theorem wX12_isGroup : mx_cw mX12_isGroup ∈ mx_Ts := mx_inTs 11 166 rfl rfl
set_option maxRecDepth 100000 in
theorem kX12_isGroup : mx_okX (mX12_isGroup, bX12_isGroup, [(11, 166), (1, 14), (11, 165), (0, 126)]) = true := by decide +kernel
theorem wX12_next : mx_cw mX12_next ∈ mx_Ts := mx_inTs 11 169 rfl rfl
set_option maxRecDepth 100000 in
theorem kX12_next : mx_okX (mX12_next, bX12_next, [(11, 169), (1, 14), (11, 168), (0, 0)]) = true := by decide +kernel
theorem wX12_isSet : mx_cw mX12_isSet ∈ mx_Ts := mx_inTs 11 150 rfl rfl
set_option maxRecDepth 100000 in
theorem kX12_isSet : mx_okX (mX12_isSet, bX12_isSet, [(11, 150), (1, 14), (11, 149), (0, 123)]) = true := by decide +kernel
theorem wX12_fewest : mx_cw mX12_fewest ∈ mx_Ts := mx_inTs 11 146 rfl rfl
set_option maxRecDepth 100000 in
theorem kX12_fewest : mx_okX (mX12_fewest, bX12_fewest, [(11, 146), (1, 14), (11, 144), (11, 145)]) = true := by decide +kernel
theorem wX12_step : mx_cw mX12_step ∈ mx_Ts := mx_inTs 11 177 rfl rfl
set_option maxRecDepth 100000 in
theorem kX12_step : mx_okX (mX12_step, bX12_step, [(11, 177), (1, 14), (11, 175), (11, 176)]) = true := by decide +kernel
theorem wX12_expect : mx_cw mX12_expect ∈ mx_Ts := mx_inTs 11 182 rfl rfl
set_option maxRecDepth 100000 in
theorem kX12_expect : mx_okX (mX12_expect, bX12_expect, [(11, 182), (1, 14), (11, 180), (11, 181)]) = true := by decide +kernel
theorem wX12_has : mx_cw mX12_has ∈ mx_Ts := mx_inTs 11 191 rfl rfl
set_option maxRecDepth 100000 in
theorem kX12_has : mx_okX (mX12_has, bX12_has, [(11, 191), (1, 14), (11, 190), (0, 128)]) = true := by decide +kernel
theorem wX12_asked : mx_cw mX12_asked ∈ mx_Ts := mx_inTs 11 195 rfl rfl
set_option maxRecDepth 100000 in
theorem kX12_asked : mx_okX (mX12_asked, bX12_asked, [(11, 195), (1, 14), (11, 194), (0, 129)]) = true := by decide +kernel
theorem wX12_dry : mx_cw mX12_dry ∈ mx_Ts := mx_inTs 11 187 rfl rfl
set_option maxRecDepth 100000 in
theorem kX12_dry : mx_okX (mX12_dry, bX12_dry, [(11, 187), (1, 14), (11, 185), (11, 186)]) = true := by decide +kernel
theorem wX12_isRight : mx_cw mX12_isRight ∈ mx_Ts := mx_inTs 11 206 rfl rfl
set_option maxRecDepth 100000 in
theorem kX12_isRight : mx_okX (mX12_isRight, bX12_isRight, [(11, 206), (1, 14), (11, 205), (0, 130)]) = true := by decide +kernel
