set_option maxRecDepth 100000 in
theorem ckL_5 : ((k_L_law_0.drop 250).take 50).all (ckE M_L_law) = true := by decide +kernel
set_option maxRecDepth 100000 in
theorem ckL_6 : ((k_L_law_0.drop 300).take 50).all (ckE M_L_law) = true := by decide +kernel
set_option maxRecDepth 100000 in
theorem ckL_7 : ((k_L_law_0.drop 350).take 50).all (ckE M_L_law) = true := by decide +kernel
set_option maxRecDepth 100000 in
theorem ckL_8 : ((k_L_law_0.drop 400).take 50).all (ckE M_L_law) = true := by decide +kernel
set_option maxRecDepth 100000 in
theorem ckL_9 : ((k_L_law_0.drop 450).take 50).all (ckE M_L_law) = true := by decide +kernel
