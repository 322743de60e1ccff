set_option maxRecDepth 100000 in
theorem ckL_10 : ((k_L_law_0.drop 500).take 50).all (ckE M_L_law) = true := by decide +kernel
set_option maxRecDepth 100000 in
theorem ckL_11 : ((k_L_law_0.drop 550).take 50).all (ckE M_L_law) = true := by decide +kernel
set_option maxRecDepth 100000 in
theorem ckL_12 : ((k_L_law_0.drop 600).take 50).all (ckE M_L_law) = true := by decide +kernel
set_option maxRecDepth 100000 in
theorem ckL_13 : ((k_L_law_0.drop 650).take 50).all (ckE M_L_law) = true := by decide +kernel
set_option maxRecDepth 100000 in
theorem ckL_14 : ((k_L_law_0.drop 700).take 50).all (ckE M_L_law) = true := by decide +kernel
