set_option maxRecDepth 100000 in
theorem ck_X1_raiseTo : ckM M_X1_raiseTo = true := by decide +kernel
set_option maxRecDepth 100000 in
theorem ck_X4_init : ckM M_X4_init = true := by decide +kernel
set_option maxRecDepth 100000 in
theorem ck_X5_hasMostOperations : ckM M_X5_hasMostOperations = true := by decide +kernel
set_option maxRecDepth 100000 in
theorem ck_X5_receive : ckM M_X5_receive = true := by decide +kernel
set_option maxRecDepth 100000 in
theorem ck_X5_isReady : ckM M_X5_isReady = true := by decide +kernel
set_option maxRecDepth 100000 in
theorem ck_X5_keepGreaterMark : ckM M_X5_keepGreaterMark = true := by decide +kernel
set_option maxRecDepth 100000 in
theorem ck_X6_lettersEver : ckM M_X6_lettersEver = true := by decide +kernel
set_option maxRecDepth 100000 in
theorem ck_X6_bringOut : ckM M_X6_bringOut = true := by decide +kernel
set_option maxRecDepth 100000 in
theorem ck_X7_send : ckM M_X7_send = true := by decide +kernel
set_option maxRecDepth 100000 in
theorem ck_X8_take : ckM M_X8_take = true := by decide +kernel
set_option maxRecDepth 100000 in
theorem ck_X8_deliver : ckM M_X8_deliver = true := by decide +kernel
set_option maxRecDepth 100000 in
theorem ck_X8_tell : ckM M_X8_tell = true := by decide +kernel
set_option maxRecDepth 100000 in
theorem ck_X8_size : ckM M_X8_size = true := by decide +kernel
set_option maxRecDepth 100000 in
theorem ck_X8_clock : ckM M_X8_clock = true := by decide +kernel
set_option maxRecDepth 100000 in
theorem ck_X8_way : ckM M_X8_way = true := by decide +kernel
set_option maxRecDepth 100000 in
theorem ck_X8_isCharacter : ckM M_X8_isCharacter = true := by decide +kernel
set_option maxRecDepth 100000 in
theorem ck_X8_wayBetween : ckM M_X8_wayBetween = true := by decide +kernel
set_option maxRecDepth 100000 in
theorem ck_X9_init : ckM M_X9_init = true := by decide +kernel
set_option maxRecDepth 100000 in
theorem ck_X9_ownerOf : ckM M_X9_ownerOf = true := by decide +kernel
set_option maxRecDepth 100000 in
theorem ck_X9_was : ckM M_X9_was = true := by decide +kernel
set_option maxRecDepth 100000 in
theorem ck_X9_isElement : ckM M_X9_isElement = true := by decide +kernel
set_option maxRecDepth 100000 in
theorem ck_X9_insert : ckM M_X9_insert = true := by decide +kernel
set_option maxRecDepth 100000 in
theorem ck_X9_has : ckM M_X9_has = true := by decide +kernel
set_option maxRecDepth 100000 in
theorem ck_X9_pileUp : ckM M_X9_pileUp = true := by decide +kernel
set_option maxRecDepth 100000 in
theorem ck_X9_isWay : ckM M_X9_isWay = true := by decide +kernel
set_option maxRecDepth 100000 in
theorem ck_X9_moveMessage : ckM M_X9_moveMessage = true := by decide +kernel
set_option maxRecDepth 100000 in
theorem ck_X9_isReady : ckM M_X9_isReady = true := by decide +kernel
set_option maxRecDepth 100000 in
theorem ck_X9_answer : ckM M_X9_answer = true := by decide +kernel
set_option maxRecDepth 100000 in
theorem ck_X9_speak : ckM M_X9_speak = true := by decide +kernel
set_option maxRecDepth 100000 in
theorem ck_X9_clock : ckM M_X9_clock = true := by decide +kernel
set_option maxRecDepth 100000 in
theorem ck_X9_message : ckM M_X9_message = true := by decide +kernel
set_option maxRecDepth 100000 in
theorem ck_Jxc12de_init_da8c8 : ckM M_Jxc12de_init_da8c8 = true := by decide +kernel
set_option maxRecDepth 100000 in
theorem ck_AL_size_8abf5 : ckM M_AL_size_8abf5 = true := by decide +kernel
set_option maxRecDepth 100000 in
theorem ck_AL_add_72be8 : ckM M_AL_add_72be8 = true := by decide +kernel
set_option maxRecDepth 100000 in
theorem ck_J7_copyOf_1904c : ckM M_J7_copyOf_1904c = true := by decide +kernel
set_option maxRecDepth 100000 in
theorem ck_J8_hugeLength_7cf53 : ckM M_J8_hugeLength_7cf53 = true := by decide +kernel
