set_option maxRecDepth 100000 in
theorem ck_X1_init : ckM M_X1_init = true := by decide +kernel
set_option maxRecDepth 100000 in
theorem ck_X3_init : ckM M_X3_init = true := by decide +kernel
set_option maxRecDepth 100000 in
theorem ck_X4_isOfSameElementAs : ckM M_X4_isOfSameElementAs = true := by decide +kernel
set_option maxRecDepth 100000 in
theorem ck_X5_elementBits : ckM M_X5_elementBits = true := by decide +kernel
set_option maxRecDepth 100000 in
theorem ck_X5_finishWaiting : ckM M_X5_finishWaiting = true := by decide +kernel
set_option maxRecDepth 100000 in
theorem ck_X5_apply : ckM M_X5_apply = true := by decide +kernel
set_option maxRecDepth 100000 in
theorem ck_X5_shortenLog : ckM M_X5_shortenLog = true := by decide +kernel
set_option maxRecDepth 100000 in
theorem ck_X6_letterAt : ckM M_X6_letterAt = true := by decide +kernel
set_option maxRecDepth 100000 in
theorem ck_X7_init : ckM M_X7_init = true := by decide +kernel
set_option maxRecDepth 100000 in
theorem ck_X8_add : ckM M_X8_add = true := by decide +kernel
set_option maxRecDepth 100000 in
theorem ck_X8_insert : ckM M_X8_insert = true := by decide +kernel
set_option maxRecDepth 100000 in
theorem ck_X8_lose : ckM M_X8_lose = true := by decide +kernel
set_option maxRecDepth 100000 in
theorem ck_X8_counter : ckM M_X8_counter = true := by decide +kernel
set_option maxRecDepth 100000 in
theorem ck_X8_length : ckM M_X8_length = true := by decide +kernel
set_option maxRecDepth 100000 in
theorem ck_X8_count : ckM M_X8_count = true := by decide +kernel
set_option maxRecDepth 100000 in
theorem ck_X8_isOfPair : ckM M_X8_isOfPair = true := by decide +kernel
set_option maxRecDepth 100000 in
theorem ck_X8_oneIf : ckM M_X8_oneIf = true := by decide +kernel
set_option maxRecDepth 100000 in
theorem ck_X8_sendClock : ckM M_X8_sendClock = true := by decide +kernel
set_option maxRecDepth 100000 in
theorem ck_X9_isReplica : ckM M_X9_isReplica = true := by decide +kernel
set_option maxRecDepth 100000 in
theorem ck_X9_isBefore : ckM M_X9_isBefore = true := by decide +kernel
set_option maxRecDepth 100000 in
theorem ck_X9_newOperation : ckM M_X9_newOperation = true := by decide +kernel
set_option maxRecDepth 100000 in
theorem ck_X9_take : ckM M_X9_take = true := by decide +kernel
set_option maxRecDepth 100000 in
theorem ck_X9_counter : ckM M_X9_counter = true := by decide +kernel
set_option maxRecDepth 100000 in
theorem ck_X9_register : ckM M_X9_register = true := by decide +kernel
set_option maxRecDepth 100000 in
theorem ck_X9_length : ckM M_X9_length = true := by decide +kernel
set_option maxRecDepth 100000 in
theorem ck_X9_send : ckM M_X9_send = true := by decide +kernel
set_option maxRecDepth 100000 in
theorem ck_X9_knowsOf : ckM M_X9_knowsOf = true := by decide +kernel
set_option maxRecDepth 100000 in
theorem ck_X9_isWaiting : ckM M_X9_isWaiting = true := by decide +kernel
set_option maxRecDepth 100000 in
theorem ck_X9_copy : ckM M_X9_copy = true := by decide +kernel
set_option maxRecDepth 100000 in
theorem ck_X9_tell : ckM M_X9_tell = true := by decide +kernel
set_option maxRecDepth 100000 in
theorem ck_X9_charactersOf : ckM M_X9_charactersOf = true := by decide +kernel
set_option maxRecDepth 100000 in
theorem ck_J6_bitCount_0f7a4 : ckM M_J6_bitCount_0f7a4 = true := by decide +kernel
set_option maxRecDepth 100000 in
theorem ck_AL_grow_92f84 : ckM M_AL_grow_92f84 = true := by decide +kernel
set_option maxRecDepth 100000 in
theorem ck_AL_elementData_915e3 : ckM M_AL_elementData_915e3 = true := by decide +kernel
set_option maxRecDepth 100000 in
theorem ck_AL_remove_915e3 : ckM M_AL_remove_915e3 = true := by decide +kernel
set_option maxRecDepth 100000 in
theorem ck_J15_checkIndex_7cf53 : ckM M_J15_checkIndex_7cf53 = true := by decide +kernel
