/-! the law's rows pass the check -/
set_option maxRecDepth 100000 in
theorem kL_law_r0 : ((bL_law).take 100).all (fun e => mx_okB R_law code 8 (some .boolean) false mx_mT e) = true := by decide +kernel
set_option maxRecDepth 100000 in
theorem kL_law_r1 : (((bL_law).drop 100).take 100).all (fun e => mx_okB R_law code 8 (some .boolean) false mx_mT e) = true := by decide +kernel
set_option maxRecDepth 100000 in
theorem kL_law_r2 : ((((bL_law).drop 100).drop 100).take 100).all (fun e => mx_okB R_law code 8 (some .boolean) false mx_mT e) = true := by decide +kernel
set_option maxRecDepth 100000 in
theorem kL_law_r3 : (((((bL_law).drop 100).drop 100).drop 100).take 100).all (fun e => mx_okB R_law code 8 (some .boolean) false mx_mT e) = true := by decide +kernel
set_option maxRecDepth 100000 in
theorem kL_law_r4 : ((((((bL_law).drop 100).drop 100).drop 100).drop 100).take 100).all (fun e => mx_okB R_law code 8 (some .boolean) false mx_mT e) = true := by decide +kernel
set_option maxRecDepth 100000 in
theorem kL_law_r5 : (((((((bL_law).drop 100).drop 100).drop 100).drop 100).drop 100).take 100).all (fun e => mx_okB R_law code 8 (some .boolean) false mx_mT e) = true := by decide +kernel
set_option maxRecDepth 100000 in
theorem kL_law_r6 : ((((((((bL_law).drop 100).drop 100).drop 100).drop 100).drop 100).drop 100).take 100).all (fun e => mx_okB R_law code 8 (some .boolean) false mx_mT e) = true := by decide +kernel
