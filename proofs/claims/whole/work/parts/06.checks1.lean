set_option maxRecDepth 100000 in
theorem ck_X0_init : ckM M_X0_init = true := by decide +kernel
set_option maxRecDepth 100000 in
theorem ck_X2_init : ckM M_X2_init = true := by decide +kernel
set_option maxRecDepth 100000 in
theorem ck_X4_hasGreaterMarkThan : ckM M_X4_hasGreaterMarkThan = true := by decide +kernel
set_option maxRecDepth 100000 in
theorem ck_X5_ownClock : ckM M_X5_ownClock = true := by decide +kernel
set_option maxRecDepth 100000 in
theorem ck_X5_isWaiting : ckM M_X5_isWaiting = true := by decide +kernel
set_option maxRecDepth 100000 in
theorem ck_X5_finish : ckM M_X5_finish = true := by decide +kernel
set_option maxRecDepth 100000 in
theorem ck_X5_isDoneEverywhere : ckM M_X5_isDoneEverywhere = true := by decide +kernel
set_option maxRecDepth 100000 in
theorem ck_X6_lettersThere : ckM M_X6_lettersThere = true := by decide +kernel
set_option maxRecDepth 100000 in
theorem ck_X6_letterOf : ckM M_X6_letterOf = true := by decide +kernel
set_option maxRecDepth 100000 in
theorem ck_X8_init : ckM M_X8_init = true := by decide +kernel
set_option maxRecDepth 100000 in
theorem ck_X8_write : ckM M_X8_write = true := by decide +kernel
set_option maxRecDepth 100000 in
theorem ck_X8_copy : ckM M_X8_copy = true := by decide +kernel
set_option maxRecDepth 100000 in
theorem ck_X8_power : ckM M_X8_power = true := by decide +kernel
set_option maxRecDepth 100000 in
theorem ck_X8_register : ckM M_X8_register = true := by decide +kernel
set_option maxRecDepth 100000 in
theorem ck_X8_knows : ckM M_X8_knows = true := by decide +kernel
set_option maxRecDepth 100000 in
theorem ck_X8_isReplica : ckM M_X8_isReplica = true := by decide +kernel
set_option maxRecDepth 100000 in
theorem ck_X8_isWay : ckM M_X8_isWay = true := by decide +kernel
set_option maxRecDepth 100000 in
theorem ck_X8_operate : ckM M_X8_operate = true := by decide +kernel
set_option maxRecDepth 100000 in
theorem ck_X9_in : ckM M_X9_in = true := by decide +kernel
set_option maxRecDepth 100000 in
theorem ck_X9_numberOf : ckM M_X9_numberOf = true := by decide +kernel
set_option maxRecDepth 100000 in
theorem ck_X9_doOperation : ckM M_X9_doOperation = true := by decide +kernel
set_option maxRecDepth 100000 in
theorem ck_X9_put : ckM M_X9_put = true := by decide +kernel
set_option maxRecDepth 100000 in
theorem ck_X9_remove : ckM M_X9_remove = true := by decide +kernel
set_option maxRecDepth 100000 in
theorem ck_X9_size : ckM M_X9_size = true := by decide +kernel
set_option maxRecDepth 100000 in
theorem ck_X9_lay : ckM M_X9_lay = true := by decide +kernel
set_option maxRecDepth 100000 in
theorem ck_X9_isMessage : ckM M_X9_isMessage = true := by decide +kernel
set_option maxRecDepth 100000 in
theorem ck_X9_drop : ckM M_X9_drop = true := by decide +kernel
set_option maxRecDepth 100000 in
theorem ck_X9_firstReady : ckM M_X9_firstReady = true := by decide +kernel
set_option maxRecDepth 100000 in
theorem ck_X9_deliver : ckM M_X9_deliver = true := by decide +kernel
set_option maxRecDepth 100000 in
theorem ck_X9_ask : ckM M_X9_ask = true := by decide +kernel
set_option maxRecDepth 100000 in
theorem ck_X9_knows : ckM M_X9_knows = true := by decide +kernel
set_option maxRecDepth 100000 in
theorem ck_X9_way : ckM M_X9_way = true := by decide +kernel
set_option maxRecDepth 100000 in
theorem ck_AL_init_da8c8 : ckM M_AL_init_da8c8 = true := by decide +kernel
set_option maxRecDepth 100000 in
theorem ck_AL_isEmpty_aae02 : ckM M_AL_isEmpty_aae02 = true := by decide +kernel
set_option maxRecDepth 100000 in
theorem ck_AL_add_9ea2d : ckM M_AL_add_9ea2d = true := by decide +kernel
set_option maxRecDepth 100000 in
theorem ck_J7_copyOf_6403c : ckM M_J7_copyOf_6403c = true := by decide +kernel
set_option maxRecDepth 100000 in
theorem ck_J3_checkIndex_8e157 : ckM M_J3_checkIndex_8e157 = true := by decide +kernel
