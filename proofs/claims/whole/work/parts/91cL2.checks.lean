/-! the law's rows, 2 -/
set_option maxRecDepth 100000 in
theorem kL_law_r13 : (((((((((((((((bL_law).drop 100).drop 100).drop 100).drop 100).drop 100).drop 100).drop 100).drop 100).drop 100).drop 100).drop 100).drop 100).drop 100).take 100).all (fun e => mx_okB R_law code 8 (some .boolean) false mx_mT e) = true := by decide +kernel
set_option maxRecDepth 100000 in
theorem kL_law_r14 : ((((((((((((((((bL_law).drop 100).drop 100).drop 100).drop 100).drop 100).drop 100).drop 100).drop 100).drop 100).drop 100).drop 100).drop 100).drop 100).drop 100).take 40).all (fun e => mx_okB R_law code 8 (some .boolean) false mx_mT e) = true := by decide +kernel
set_option maxRecDepth 100000 in
theorem kL_law_r15 : (((((((((((((((((bL_law).drop 100).drop 100).drop 100).drop 100).drop 100).drop 100).drop 100).drop 100).drop 100).drop 100).drop 100).drop 100).drop 100).drop 100).drop 40).take 40).all (fun e => mx_okB R_law code 8 (some .boolean) false mx_mT e) = true := by decide +kernel
set_option maxRecDepth 100000 in
theorem kL_law_r16 : ((((((((((((((((((bL_law).drop 100).drop 100).drop 100).drop 100).drop 100).drop 100).drop 100).drop 100).drop 100).drop 100).drop 100).drop 100).drop 100).drop 100).drop 40).drop 40).take 40).all (fun e => mx_okB R_law code 8 (some .boolean) false mx_mT e) = true := by decide +kernel
set_option maxRecDepth 100000 in
theorem kL_law_r17 : (((((((((((((((((((bL_law).drop 100).drop 100).drop 100).drop 100).drop 100).drop 100).drop 100).drop 100).drop 100).drop 100).drop 100).drop 100).drop 100).drop 100).drop 40).drop 40).drop 40).take 40).all (fun e => mx_okB R_law code 8 (some .boolean) false mx_mT e) = true := by decide +kernel
set_option maxRecDepth 100000 in
theorem kL_law_r18 : ((((((((((((((((((((bL_law).drop 100).drop 100).drop 100).drop 100).drop 100).drop 100).drop 100).drop 100).drop 100).drop 100).drop 100).drop 100).drop 100).drop 100).drop 40).drop 40).drop 40).drop 40).take 40).all (fun e => mx_okB R_law code 8 (some .boolean) false mx_mT e) = true := by decide +kernel
set_option maxRecDepth 100000 in
theorem kL_law_r19 : (((((((((((((((((((((bL_law).drop 100).drop 100).drop 100).drop 100).drop 100).drop 100).drop 100).drop 100).drop 100).drop 100).drop 100).drop 100).drop 100).drop 100).drop 40).drop 40).drop 40).drop 40).drop 40).take 40).all (fun e => mx_okB R_law code 8 (some .boolean) false mx_mT e) = true := by decide +kernel
