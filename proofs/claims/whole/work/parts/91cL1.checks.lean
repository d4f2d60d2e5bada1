/-! the law's rows, 1 -/
set_option maxRecDepth 100000 in
theorem kL_law_r7 : (((((((((bL_law).drop 100).drop 100).drop 100).drop 100).drop 100).drop 100).drop 100).take 100).all (fun e => mx_okB R_law code 8 (some .boolean) false mx_mT e) = true := by decide +kernel
set_option maxRecDepth 100000 in
theorem kL_law_r8 : ((((((((((bL_law).drop 100).drop 100).drop 100).drop 100).drop 100).drop 100).drop 100).drop 100).take 100).all (fun e => mx_okB R_law code 8 (some .boolean) false mx_mT e) = true := by decide +kernel
set_option maxRecDepth 100000 in
theorem kL_law_r9 : (((((((((((bL_law).drop 100).drop 100).drop 100).drop 100).drop 100).drop 100).drop 100).drop 100).drop 100).take 100).all (fun e => mx_okB R_law code 8 (some .boolean) false mx_mT e) = true := by decide +kernel
set_option maxRecDepth 100000 in
theorem kL_law_r10 : ((((((((((((bL_law).drop 100).drop 100).drop 100).drop 100).drop 100).drop 100).drop 100).drop 100).drop 100).drop 100).take 100).all (fun e => mx_okB R_law code 8 (some .boolean) false mx_mT e) = true := by decide +kernel
set_option maxRecDepth 100000 in
theorem kL_law_r11 : (((((((((((((bL_law).drop 100).drop 100).drop 100).drop 100).drop 100).drop 100).drop 100).drop 100).drop 100).drop 100).drop 100).take 100).all (fun e => mx_okB R_law code 8 (some .boolean) false mx_mT e) = true := by decide +kernel
set_option maxRecDepth 100000 in
theorem kL_law_r12 : ((((((((((((((bL_law).drop 100).drop 100).drop 100).drop 100).drop 100).drop 100).drop 100).drop 100).drop 100).drop 100).drop 100).drop 100).take 100).all (fun e => mx_okB R_law code 8 (some .boolean) false mx_mT e) = true := by decide +kernel
