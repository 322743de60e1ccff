set_option maxRecDepth 100000 in
theorem ckL_0 : ((k_L_law_0.drop 0).take 50).all (ckE M_L_law) = true := by decide +kernel
set_option maxRecDepth 100000 in
theorem ckL_1 : ((k_L_law_0.drop 50).take 50).all (ckE M_L_law) = true := by decide +kernel
set_option maxRecDepth 100000 in
theorem ckL_2 : ((k_L_law_0.drop 100).take 50).all (ckE M_L_law) = true := by decide +kernel
set_option maxRecDepth 100000 in
theorem ckL_3 : ((k_L_law_0.drop 150).take 50).all (ckE M_L_law) = true := by decide +kernel
set_option maxRecDepth 100000 in
theorem ckL_4 : ((k_L_law_0.drop 200).take 50).all (ckE M_L_law) = true := by decide +kernel
