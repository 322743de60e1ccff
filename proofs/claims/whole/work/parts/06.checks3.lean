set_option maxRecDepth 100000 in
theorem ck_X1_covers : ckM M_X1_covers = true := by decide +kernel
set_option maxRecDepth 100000 in
theorem ck_X3_init_ : ckM M_X3_init_ = true := by decide +kernel
set_option maxRecDepth 100000 in
theorem ck_X5_init : ckM M_X5_init = true := by decide +kernel
set_option maxRecDepth 100000 in
theorem ck_X5_begin : ckM M_X5_begin = true := by decide +kernel
set_option maxRecDepth 100000 in
theorem ck_X5_firstReady : ckM M_X5_firstReady = true := by decide +kernel
set_option maxRecDepth 100000 in
theorem ck_X5_dropPutsBefore : ckM M_X5_dropPutsBefore = true := by decide +kernel
set_option maxRecDepth 100000 in
theorem ck_X6_init : ckM M_X6_init = true := by decide +kernel
set_option maxRecDepth 100000 in
theorem ck_X6_bringIn : ckM M_X6_bringIn = true := by decide +kernel
set_option maxRecDepth 100000 in
theorem ck_X7_isFull : ckM M_X7_isFull = true := by decide +kernel
set_option maxRecDepth 100000 in
theorem ck_X8_put : ckM M_X8_put = true := by decide +kernel
set_option maxRecDepth 100000 in
theorem ck_X8_remove : ckM M_X8_remove = true := by decide +kernel
set_option maxRecDepth 100000 in
theorem ck_X8_ask : ckM M_X8_ask = true := by decide +kernel
set_option maxRecDepth 100000 in
theorem ck_X8_has : ckM M_X8_has = true := by decide +kernel
set_option maxRecDepth 100000 in
theorem ck_X8_character : ckM M_X8_character = true := by decide +kernel
set_option maxRecDepth 100000 in
theorem ck_X8_message : ckM M_X8_message = true := by decide +kernel
set_option maxRecDepth 100000 in
theorem ck_X8_isElement : ckM M_X8_isElement = true := by decide +kernel
set_option maxRecDepth 100000 in
theorem ck_X8_isOnWay : ckM M_X8_isOnWay = true := by decide +kernel
set_option maxRecDepth 100000 in
theorem ck_X8_answer : ckM M_X8_answer = true := by decide +kernel
set_option maxRecDepth 100000 in
theorem ck_X9_isTwo : ckM M_X9_isTwo = true := by decide +kernel
set_option maxRecDepth 100000 in
theorem ck_X9_hasGreaterMark : ckM M_X9_hasGreaterMark = true := by decide +kernel
set_option maxRecDepth 100000 in
theorem ck_X9_add : ckM M_X9_add = true := by decide +kernel
set_option maxRecDepth 100000 in
theorem ck_X9_write : ckM M_X9_write = true := by decide +kernel
set_option maxRecDepth 100000 in
theorem ck_X9_isTaken : ckM M_X9_isTaken = true := by decide +kernel
set_option maxRecDepth 100000 in
theorem ck_X9_isRemoved : ckM M_X9_isRemoved = true := by decide +kernel
set_option maxRecDepth 100000 in
theorem ck_X9_character : ckM M_X9_character = true := by decide +kernel
set_option maxRecDepth 100000 in
theorem ck_X9_sendOperation : ckM M_X9_sendOperation = true := by decide +kernel
set_option maxRecDepth 100000 in
theorem ck_X9_isLogged : ckM M_X9_isLogged = true := by decide +kernel
set_option maxRecDepth 100000 in
theorem ck_X9_take_ : ckM M_X9_take_ = true := by decide +kernel
set_option maxRecDepth 100000 in
theorem ck_X9_lose : ckM M_X9_lose = true := by decide +kernel
set_option maxRecDepth 100000 in
theorem ck_X9_power : ckM M_X9_power = true := by decide +kernel
set_option maxRecDepth 100000 in
theorem ck_X9_count : ckM M_X9_count = true := by decide +kernel
set_option maxRecDepth 100000 in
theorem ck_Jxa1e45_init_da8c8 : ckM M_Jxa1e45_init_da8c8 = true := by decide +kernel
set_option maxRecDepth 100000 in
theorem ck_AL_grow_d5877 : ckM M_AL_grow_d5877 = true := by decide +kernel
set_option maxRecDepth 100000 in
theorem ck_AL_get_915e3 : ckM M_AL_get_915e3 = true := by decide +kernel
set_option maxRecDepth 100000 in
theorem ck_AL_fastRemove_b59b0 : ckM M_AL_fastRemove_b59b0 = true := by decide +kernel
set_option maxRecDepth 100000 in
theorem ck_J8_newLength_cabcc : ckM M_J8_newLength_cabcc = true := by decide +kernel
