set_option maxRecDepth 100000 in
theorem ckL_15 : ((k_L_law_0.drop 750).take 50).all (ckE M_L_law) = true := by decide +kernel
set_option maxRecDepth 100000 in
theorem ckL_16 : ((k_L_law_0.drop 800).take 50).all (ckE M_L_law) = true := by decide +kernel
set_option maxRecDepth 100000 in
theorem ckL_n : ckN k_L_law_0 = true := by decide +kernel
