/-! the law's rows, 3 -/
set_option maxRecDepth 100000 in
theorem kL_law_r20 : ((((((((((((((((((((((bL_law).drop 100).drop 100).drop 100).drop 100).drop 100).drop 100).drop 100).drop 100).drop 100).drop 100).drop 100).drop 100).drop 100).drop 100).drop 40).drop 40).drop 40).drop 40).drop 40).drop 40).take 40).all (fun e => mx_okB R_law code 8 (some .boolean) false mx_mT e) = true := by decide +kernel
set_option maxRecDepth 100000 in
theorem kL_law_r21 : (((((((((((((((((((((((bL_law).drop 100).drop 100).drop 100).drop 100).drop 100).drop 100).drop 100).drop 100).drop 100).drop 100).drop 100).drop 100).drop 100).drop 100).drop 40).drop 40).drop 40).drop 40).drop 40).drop 40).drop 40).take 40).all (fun e => mx_okB R_law code 8 (some .boolean) false mx_mT e) = true := by decide +kernel
set_option maxRecDepth 100000 in
theorem kL_law_r22 : ((((((((((((((((((((((((bL_law).drop 100).drop 100).drop 100).drop 100).drop 100).drop 100).drop 100).drop 100).drop 100).drop 100).drop 100).drop 100).drop 100).drop 100).drop 40).drop 40).drop 40).drop 40).drop 40).drop 40).drop 40).drop 40).take 40).all (fun e => mx_okB R_law code 8 (some .boolean) false mx_mT e) = true := by decide +kernel
set_option maxRecDepth 100000 in
theorem kL_law_r23 : (((((((((((((((((((((((((bL_law).drop 100).drop 100).drop 100).drop 100).drop 100).drop 100).drop 100).drop 100).drop 100).drop 100).drop 100).drop 100).drop 100).drop 100).drop 40).drop 40).drop 40).drop 40).drop 40).drop 40).drop 40).drop 40).drop 40).take 40).all (fun e => mx_okB R_law code 8 (some .boolean) false mx_mT e) = true := by decide +kernel
set_option maxRecDepth 100000 in
theorem kL_law_r24 : ((((((((((((((((((((((((((bL_law).drop 100).drop 100).drop 100).drop 100).drop 100).drop 100).drop 100).drop 100).drop 100).drop 100).drop 100).drop 100).drop 100).drop 100).drop 40).drop 40).drop 40).drop 40).drop 40).drop 40).drop 40).drop 40).drop 40).drop 40).take 40).all (fun e => mx_okB R_law code 8 (some .boolean) false mx_mT e) = true := by decide +kernel
set_option maxRecDepth 100000 in
theorem kL_law_r25 : (((((((((((((((((((((((((((bL_law).drop 100).drop 100).drop 100).drop 100).drop 100).drop 100).drop 100).drop 100).drop 100).drop 100).drop 100).drop 100).drop 100).drop 100).drop 40).drop 40).drop 40).drop 40).drop 40).drop 40).drop 40).drop 40).drop 40).drop 40).drop 40).take 40).all (fun e => mx_okB R_law code 8 (some .boolean) false mx_mT e) = true := by decide +kernel
set_option maxRecDepth 100000 in
theorem kL_law_r26 : ((((((((((((((((((((((((((((bL_law).drop 100).drop 100).drop 100).drop 100).drop 100).drop 100).drop 100).drop 100).drop 100).drop 100).drop 100).drop 100).drop 100).drop 100).drop 40).drop 40).drop 40).drop 40).drop 40).drop 40).drop 40).drop 40).drop 40).drop 40).drop 40).drop 40).take 40).all (fun e => mx_okB R_law code 8 (some .boolean) false mx_mT e) = true := by decide +kernel
