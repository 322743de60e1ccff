def k_X8_power_10 : List Ent := (10, .aload_n 0, 1, 0, 0, 0) :: (11, .getfield 11, 3, 9, 256, 1) :: (14, .iload_n 1, 1, 0, 0, 0) :: (15, .aaload, 1, 0, 0, 0) :: (16, .getfield 67, 3, 6, 169, 2) :: (19, .invokestatic 122, 3, 65, 0, 2) :: (22, .istore_n 3, 1, 0, 0, 0) :: (23, .aload_n 0, 1, 0, 0, 0) :: (24, .getfield 11, 3, 9, 256, 1) :: (27, .iload_n 1, 1, 0, 0, 0) :: (28, .aaload, 1, 0, 0, 0) :: (29, .iload_n 2, 1, 0, 0, 0) :: (30, .putfield 67, 3, 6, 169, 2) :: (33, .iload_n 3, 1, 0, 0, 0) :: (34, .ireturn, 1, 0, 0, 0) :: []
def k_X8_power_0 : List Ent := (0, .iload_n 1, 1, 0, 0, 0) :: (1, .invokestatic 25, 3, 60, 0, 2) :: (4, .ifCond .ne 6, 3, 10, 0, 0) :: (7, .bipush (-2), 2, 2, 1, 0) :: (9, .ireturn, 1, 0, 0, 0) :: k_X8_power_10
def M_X8_power : MI := (yX8_power, cX8_power, 4, (some .int), 1, 20, 8, 3, 10, k_X8_power_0)
theorem sk_X8_power_10 : sm_seek (mP M_X8_power) 10 = k_X8_power_10 := rfl
def k_X8_counter_16 : List Ent := (16, .aload_n 0, 1, 0, 0, 0) :: (17, .getfield 11, 3, 9, 256, 1) :: (20, .iload_n 1, 1, 0, 0, 0) :: (21, .aaload, 1, 0, 0, 0) :: (22, .getfield 126, 3, 6, 162, 1) :: (25, .iload_n 2, 1, 0, 0, 0) :: (26, .iaload, 1, 0, 0, 0) :: (27, .ireturn, 1, 0, 0, 0) :: []
def k_X8_counter_14 : List Ent := (14, .iconst 0, 1, 0, 0, 0) :: (15, .ireturn, 1, 0, 0, 0) :: k_X8_counter_16
def k_X8_counter_0 : List Ent := (0, .iload_n 1, 1, 0, 0, 0) :: (1, .invokestatic 25, 3, 60, 0, 2) :: (4, .ifCond .eq 10, 3, 14, 0, 0) :: (7, .iload_n 2, 1, 0, 0, 0) :: (8, .invokestatic 29, 3, 61, 0, 2) :: (11, .ifCond .ne 5, 3, 16, 0, 0) :: k_X8_counter_14
def M_X8_counter : MI := (yX8_counter, cX8_counter, 3, (some .int), 1, 20, 8, 3, 10, k_X8_counter_0)
theorem sk_X8_counter_14 : sm_seek (mP M_X8_counter) 14 = k_X8_counter_14 := rfl
theorem sk_X8_counter_16 : sm_seek (mP M_X8_counter) 16 = k_X8_counter_16 := rfl
def k_X8_has_24 : List Ent := (24, .aload_n 0, 1, 0, 0, 0) :: (25, .getfield 11, 3, 9, 256, 1) :: (28, .iload_n 1, 1, 0, 0, 0) :: (29, .aaload, 1, 0, 0, 0) :: (30, .iload_n 2, 1, 0, 0, 0) :: (31, .invokevirtual 130, 3, 13, 0, 0) :: (34, .iload_n 3, 1, 0, 0, 0) :: (35, .iushr, 1, 0, 0, 0) :: (36, .iconst 1, 1, 1, 0, 0) :: (37, .iand, 1, 0, 0, 0) :: (38, .ireturn, 1, 0, 0, 0) :: []
def k_X8_has_21 : List Ent := (21, .bipush (-2), 2, 2, 1, 0) :: (23, .ireturn, 1, 0, 0, 0) :: k_X8_has_24
def k_X8_has_0 : List Ent := (0, .iload_n 1, 1, 0, 0, 0) :: (1, .invokestatic 25, 3, 60, 0, 2) :: (4, .ifCond .eq 17, 3, 21, 0, 0) :: (7, .iload_n 2, 1, 0, 0, 0) :: (8, .invokestatic 29, 3, 61, 0, 2) :: (11, .ifCond .eq 10, 3, 21, 0, 0) :: (14, .iload_n 3, 1, 0, 0, 0) :: (15, .invokestatic 41, 3, 62, 0, 2) :: (18, .ifCond .ne 6, 3, 24, 0, 0) :: k_X8_has_21
def M_X8_has : MI := (yX8_has, cX8_has, 4, (some .int), 5, 116, 8, 4, 10, k_X8_has_0)
theorem sk_X8_has_21 : sm_seek (mP M_X8_has) 21 = k_X8_has_21 := rfl
theorem sk_X8_has_24 : sm_seek (mP M_X8_has) 24 = k_X8_has_24 := rfl
def k_X8_size_17 : List Ent := (17, .aload_n 0, 1, 0, 0, 0) :: (18, .getfield 11, 3, 9, 256, 1) :: (21, .iload_n 1, 1, 0, 0, 0) :: (22, .aaload, 1, 0, 0, 0) :: (23, .iload_n 2, 1, 0, 0, 0) :: (24, .invokevirtual 130, 3, 13, 0, 0) :: (27, .invokestatic 134, 3, 125, 0, 2) :: (30, .ireturn, 1, 0, 0, 0) :: []
def k_X8_size_14 : List Ent := (14, .bipush (-2), 2, 2, 1, 0) :: (16, .ireturn, 1, 0, 0, 0) :: k_X8_size_17
def k_X8_size_0 : List Ent := (0, .iload_n 1, 1, 0, 0, 0) :: (1, .invokestatic 25, 3, 60, 0, 2) :: (4, .ifCond .eq 10, 3, 14, 0, 0) :: (7, .iload_n 2, 1, 0, 0, 0) :: (8, .invokestatic 29, 3, 61, 0, 2) :: (11, .ifCond .ne 6, 3, 17, 0, 0) :: k_X8_size_14
def M_X8_size : MI := (yX8_size, cX8_size, 3, (some .int), 5, 116, 8, 3, 10, k_X8_size_0)
theorem sk_X8_size_14 : sm_seek (mP M_X8_size) 14 = k_X8_size_14 := rfl
theorem sk_X8_size_17 : sm_seek (mP M_X8_size) 17 = k_X8_size_17 := rfl
def k_X8_register_43 : List Ent := (43, .ireturn, 1, 0, 0, 0) :: []
def k_X8_register_36 : List Ent := (36, .aload_n 3, 1, 0, 0, 0) :: (37, .getfield 143, 3, 5, 128, 1) :: (40, .getfield 149, 3, 1, 2, 0) :: k_X8_register_43
def k_X8_register_16 : List Ent := (16, .aload_n 0, 1, 0, 0, 0) :: (17, .getfield 11, 3, 9, 256, 1) :: (20, .iload_n 1, 1, 0, 0, 0) :: (21, .aaload, 1, 0, 0, 0) :: (22, .getfield 139, 3, 6, 164, 1) :: (25, .iload_n 2, 1, 0, 0, 0) :: (26, .aaload, 1, 0, 0, 0) :: (27, .astore_n 3, 1, 0, 0, 0) :: (28, .aload_n 3, 1, 0, 0, 0) :: (29, .ifnonnull 7, 3, 36, 0, 0) :: (32, .iconst 0, 1, 0, 0, 0) :: (33, .goto 10, 3, 43, 0, 0) :: k_X8_register_36
def k_X8_register_14 : List Ent := (14, .iconst 0, 1, 0, 0, 0) :: (15, .ireturn, 1, 0, 0, 0) :: k_X8_register_16
def k_X8_register_0 : List Ent := (0, .iload_n 1, 1, 0, 0, 0) :: (1, .invokestatic 25, 3, 60, 0, 2) :: (4, .ifCond .eq 10, 3, 14, 0, 0) :: (7, .iload_n 2, 1, 0, 0, 0) :: (8, .invokestatic 29, 3, 61, 0, 2) :: (11, .ifCond .ne 5, 3, 16, 0, 0) :: k_X8_register_14
def M_X8_register : MI := (yX8_register, cX8_register, 4, (some .int), 1, 20, 8, 3, 10, k_X8_register_0)
theorem sk_X8_register_14 : sm_seek (mP M_X8_register) 14 = k_X8_register_14 := rfl
theorem sk_X8_register_16 : sm_seek (mP M_X8_register) 16 = k_X8_register_16 := rfl
theorem sk_X8_register_36 : sm_seek (mP M_X8_register) 36 = k_X8_register_36 := rfl
theorem sk_X8_register_43 : sm_seek (mP M_X8_register) 43 = k_X8_register_43 := rfl
def k_X8_length_17 : List Ent := (17, .aload_n 0, 1, 0, 0, 0) :: (18, .getfield 11, 3, 9, 256, 1) :: (21, .iload_n 1, 1, 0, 0, 0) :: (22, .aaload, 1, 0, 0, 0) :: (23, .getfield 47, 3, 6, 165, 1) :: (26, .iload_n 2, 1, 0, 0, 0) :: (27, .aaload, 1, 0, 0, 0) :: (28, .invokevirtual 152, 3, 28, 0, 0) :: (31, .ireturn, 1, 0, 0, 0) :: []
def k_X8_length_14 : List Ent := (14, .bipush (-2), 2, 2, 1, 0) :: (16, .ireturn, 1, 0, 0, 0) :: k_X8_length_17
def k_X8_length_0 : List Ent := (0, .iload_n 1, 1, 0, 0, 0) :: (1, .invokestatic 25, 3, 60, 0, 2) :: (4, .ifCond .eq 10, 3, 14, 0, 0) :: (7, .iload_n 2, 1, 0, 0, 0) :: (8, .invokestatic 29, 3, 61, 0, 2) :: (11, .ifCond .ne 6, 3, 17, 0, 0) :: k_X8_length_14
def M_X8_length : MI := (yX8_length, cX8_length, 3, (some .int), 1, 22, 8, 3, 10, k_X8_length_0)
theorem sk_X8_length_14 : sm_seek (mP M_X8_length) 14 = k_X8_length_14 := rfl
theorem sk_X8_length_17 : sm_seek (mP M_X8_length) 17 = k_X8_length_17 := rfl
def k_X8_character_53 : List Ent := (53, .ireturn, 1, 0, 0, 0) :: []
def k_X8_character_42 : List Ent := (42, .aload 4, 2, 0, 0, 0) :: (44, .getfield 57, 3, 3, 64, 1) :: (47, .getfield 143, 3, 5, 128, 1) :: (50, .getfield 149, 3, 1, 2, 0) :: k_X8_character_53
def k_X8_character_16 : List Ent := (16, .aload_n 0, 1, 0, 0, 0) :: (17, .getfield 11, 3, 9, 256, 1) :: (20, .iload_n 1, 1, 0, 0, 0) :: (21, .aaload, 1, 0, 0, 0) :: (22, .getfield 47, 3, 6, 165, 1) :: (25, .iload_n 2, 1, 0, 0, 0) :: (26, .aaload, 1, 0, 0, 0) :: (27, .iload_n 3, 1, 0, 0, 0) :: (28, .invokevirtual 51, 3, 29, 0, 0) :: (31, .astore 4, 2, 0, 0, 0) :: (33, .aload 4, 2, 0, 0, 0) :: (35, .ifnonnull 7, 3, 42, 0, 0) :: (38, .iconst (-1), 1, 1, 1, 0) :: (39, .goto 14, 3, 53, 0, 0) :: k_X8_character_42
def k_X8_character_14 : List Ent := (14, .iconst (-1), 1, 1, 1, 0) :: (15, .ireturn, 1, 0, 0, 0) :: k_X8_character_16
def k_X8_character_0 : List Ent := (0, .iload_n 1, 1, 0, 0, 0) :: (1, .invokestatic 25, 3, 60, 0, 2) :: (4, .ifCond .eq 10, 3, 14, 0, 0) :: (7, .iload_n 2, 1, 0, 0, 0) :: (8, .invokestatic 29, 3, 61, 0, 2) :: (11, .ifCond .ne 5, 3, 16, 0, 0) :: k_X8_character_14
def M_X8_character : MI := (yX8_character, cX8_character, 5, (some .int), 1, 23, 8, 4, 10, k_X8_character_0)
theorem sk_X8_character_14 : sm_seek (mP M_X8_character) 14 = k_X8_character_14 := rfl
theorem sk_X8_character_16 : sm_seek (mP M_X8_character) 16 = k_X8_character_16 := rfl
theorem sk_X8_character_42 : sm_seek (mP M_X8_character) 42 = k_X8_character_42 := rfl
theorem sk_X8_character_53 : sm_seek (mP M_X8_character) 53 = k_X8_character_53 := rfl
def k_X8_clock_0 : List Ent := (0, .aload_n 0, 1, 0, 0, 0) :: (1, .iload_n 1, 1, 0, 0, 0) :: (2, .iload_n 1, 1, 0, 0, 0) :: (3, .iload_n 2, 1, 0, 0, 0) :: (4, .invokevirtual 155, 3, 56, 0, 0) :: (7, .ireturn, 1, 0, 0, 0) :: []
def M_X8_clock : MI := (yX8_clock, cX8_clock, 3, (some .int), 2, 43, 8, 3, 10, k_X8_clock_0)
def k_X8_knows_24 : List Ent := (24, .aload_n 0, 1, 0, 0, 0) :: (25, .getfield 11, 3, 9, 256, 1) :: (28, .iload_n 1, 1, 0, 0, 0) :: (29, .aaload, 1, 0, 0, 0) :: (30, .getfield 158, 3, 6, 161, 1) :: (33, .iload_n 2, 1, 0, 0, 0) :: (34, .aaload, 1, 0, 0, 0) :: (35, .getfield 162, 3, 2, 32, 1) :: (38, .iload_n 3, 1, 0, 0, 0) :: (39, .iaload, 1, 0, 0, 0) :: (40, .ireturn, 1, 0, 0, 0) :: []
def k_X8_knows_21 : List Ent := (21, .bipush (-2), 2, 2, 1, 0) :: (23, .ireturn, 1, 0, 0, 0) :: k_X8_knows_24
def k_X8_knows_0 : List Ent := (0, .iload_n 1, 1, 0, 0, 0) :: (1, .invokestatic 25, 3, 60, 0, 2) :: (4, .ifCond .eq 17, 3, 21, 0, 0) :: (7, .iload_n 2, 1, 0, 0, 0) :: (8, .invokestatic 25, 3, 60, 0, 2) :: (11, .ifCond .eq 10, 3, 21, 0, 0) :: (14, .iload_n 3, 1, 0, 0, 0) :: (15, .invokestatic 25, 3, 60, 0, 2) :: (18, .ifCond .ne 6, 3, 24, 0, 0) :: k_X8_knows_21
def M_X8_knows : MI := (yX8_knows, cX8_knows, 4, (some .int), 1, 20, 8, 4, 10, k_X8_knows_0)
theorem sk_X8_knows_21 : sm_seek (mP M_X8_knows) 21 = k_X8_knows_21 := rfl
theorem sk_X8_knows_24 : sm_seek (mP M_X8_knows) 24 = k_X8_knows_24 := rfl
def k_X8_count_174 : List Ent := (174, .ireturn, 1, 0, 0, 0) :: []
def k_X8_count_160 : List Ent := (160, .aload_n 3, 1, 0, 0, 0) :: (161, .getfield 170, 3, 6, 166, 1) :: (164, .iconst 0, 1, 0, 0, 0) :: (165, .invokevirtual 107, 3, 134, 0, 0) :: (168, .checkcast 144, 3, 5, 0, 0) :: (171, .getfield 185, 3, 5, 130, 0) :: k_X8_count_174
def k_X8_count_146 : List Ent := (146, .aload_n 3, 1, 0, 0, 0) :: (147, .getfield 170, 3, 6, 166, 1) :: (150, .invokevirtual 179, 3, 132, 0, 0) :: (153, .ifCond .eq 7, 3, 160, 0, 0) :: (156, .iconst (-1), 1, 1, 1, 0) :: (157, .goto 17, 3, 174, 0, 0) :: k_X8_count_160
def k_X8_count_145 : List Ent := (145, .ireturn, 1, 0, 0, 0) :: k_X8_count_146
def k_X8_count_131 : List Ent := (131, .aload_n 3, 1, 0, 0, 0) :: (132, .getfield 170, 3, 6, 166, 1) :: (135, .iconst 0, 1, 0, 0, 0) :: (136, .invokevirtual 107, 3, 134, 0, 0) :: (139, .checkcast 144, 3, 5, 0, 0) :: (142, .getfield 182, 3, 5, 129, 0) :: k_X8_count_145
def k_X8_count_117 : List Ent := (117, .aload_n 3, 1, 0, 0, 0) :: (118, .getfield 170, 3, 6, 166, 1) :: (121, .invokevirtual 179, 3, 132, 0, 0) :: (124, .ifCond .eq 7, 3, 131, 0, 0) :: (127, .iconst (-1), 1, 1, 1, 0) :: (128, .goto 17, 3, 145, 0, 0) :: k_X8_count_131
def k_X8_count_97 : List Ent := (97, .aload_n 3, 1, 0, 0, 0) :: (98, .getfield 47, 3, 6, 165, 1) :: (101, .iconst 0, 1, 0, 0, 0) :: (102, .aaload, 1, 0, 0, 0) :: (103, .invokevirtual 176, 3, 27, 0, 0) :: (106, .aload_n 3, 1, 0, 0, 0) :: (107, .getfield 47, 3, 6, 165, 1) :: (110, .iconst 1, 1, 1, 0, 0) :: (111, .aaload, 1, 0, 0, 0) :: (112, .invokevirtual 176, 3, 27, 0, 0) :: (115, .iadd, 1, 0, 0, 0) :: (116, .ireturn, 1, 0, 0, 0) :: k_X8_count_117
def k_X8_count_89 : List Ent := (89, .aload_n 3, 1, 0, 0, 0) :: (90, .getfield 67, 3, 6, 169, 2) :: (93, .invokestatic 122, 3, 65, 0, 2) :: (96, .ireturn, 1, 0, 0, 0) :: k_X8_count_97
def k_X8_count_81 : List Ent := (81, .aload_n 3, 1, 0, 0, 0) :: (82, .getfield 173, 3, 6, 167, 1) :: (85, .invokevirtual 114, 3, 131, 0, 0) :: (88, .ireturn, 1, 0, 0, 0) :: k_X8_count_89
def k_X8_count_73 : List Ent := (73, .aload_n 3, 1, 0, 0, 0) :: (74, .getfield 170, 3, 6, 166, 1) :: (77, .invokevirtual 114, 3, 131, 0, 0) :: (80, .ireturn, 1, 0, 0, 0) :: k_X8_count_81
def k_X8_count_68 : List Ent := (68, .aload_n 3, 1, 0, 0, 0) :: (69, .getfield 167, 3, 6, 168, 0) :: (72, .ireturn, 1, 0, 0, 0) :: k_X8_count_73
def k_X8_count_20 : List Ent := (20, .aload_n 0, 1, 0, 0, 0) :: (21, .getfield 11, 3, 9, 256, 1) :: (24, .iload_n 1, 1, 0, 0, 0) :: (25, .aaload, 1, 0, 0, 0) :: (26, .astore_n 3, 1, 0, 0, 0) :: (27, .iload_n 2, 1, 0, 0, 0) :: (28, .tableswitch 118 0 5 #[40, 45, 53, 61, 69, 89], 40, 0, 0, 0) :: k_X8_count_68
def k_X8_count_17 : List Ent := (17, .bipush (-2), 2, 2, 1, 0) :: (19, .ireturn, 1, 0, 0, 0) :: k_X8_count_20
def k_X8_count_0 : List Ent := (0, .iload_n 1, 1, 0, 0, 0) :: (1, .invokestatic 25, 3, 60, 0, 2) :: (4, .ifCond .eq 13, 3, 17, 0, 0) :: (7, .iload_n 2, 1, 0, 0, 0) :: (8, .ifCond .lt 9, 3, 17, 0, 0) :: (11, .iload_n 2, 1, 0, 0, 0) :: (12, .bipush 6, 2, 6, 0, 0) :: (14, .if_icmp .le 6, 3, 20, 0, 0) :: k_X8_count_17
def M_X8_count : MI := (yX8_count, cX8_count, 4, (some .int), 4, 92, 8, 3, 10, k_X8_count_0)
theorem sk_X8_count_17 : sm_seek (mP M_X8_count) 17 = k_X8_count_17 := rfl
theorem sk_X8_count_20 : sm_seek (mP M_X8_count) 20 = k_X8_count_20 := rfl
theorem sk_X8_count_68 : sm_seek (mP M_X8_count) 68 = k_X8_count_68 := rfl
theorem sk_X8_count_73 : sm_seek (mP M_X8_count) 73 = k_X8_count_73 := rfl
theorem sk_X8_count_81 : sm_seek (mP M_X8_count) 81 = k_X8_count_81 := rfl
theorem sk_X8_count_89 : sm_seek (mP M_X8_count) 89 = k_X8_count_89 := rfl
theorem sk_X8_count_97 : sm_seek (mP M_X8_count) 97 = k_X8_count_97 := rfl
theorem sk_X8_count_117 : sm_seek (mP M_X8_count) 117 = k_X8_count_117 := rfl
theorem sk_X8_count_131 : sm_seek (mP M_X8_count) 131 = k_X8_count_131 := rfl
theorem sk_X8_count_145 : sm_seek (mP M_X8_count) 145 = k_X8_count_145 := rfl
theorem sk_X8_count_146 : sm_seek (mP M_X8_count) 146 = k_X8_count_146 := rfl
theorem sk_X8_count_160 : sm_seek (mP M_X8_count) 160 = k_X8_count_160 := rfl
theorem sk_X8_count_174 : sm_seek (mP M_X8_count) 174 = k_X8_count_174 := rfl
def k_X8_message_153 : List Ent := (153, .ireturn, 1, 0, 0, 0) :: []
def k_X8_message_145 : List Ent := (145, .aload 5, 2, 0, 0, 0) :: (147, .getfield 195, 3, 4, 99, 1) :: (150, .getfield 198, 3, 5, 131, 0) :: k_X8_message_153
def k_X8_message_133 : List Ent := (133, .aload 5, 2, 0, 0, 0) :: (135, .getfield 195, 3, 4, 99, 1) :: (138, .ifnonnull 7, 3, 145, 0, 0) :: (141, .iconst 0, 1, 0, 0, 0) :: (142, .goto 11, 3, 153, 0, 0) :: k_X8_message_145
def k_X8_message_132 : List Ent := (132, .ireturn, 1, 0, 0, 0) :: k_X8_message_133
def k_X8_message_124 : List Ent := (124, .aload 5, 2, 0, 0, 0) :: (126, .getfield 195, 3, 4, 99, 1) :: (129, .getfield 185, 3, 5, 130, 0) :: k_X8_message_132
def k_X8_message_112 : List Ent := (112, .aload 5, 2, 0, 0, 0) :: (114, .getfield 195, 3, 4, 99, 1) :: (117, .ifnonnull 7, 3, 124, 0, 0) :: (120, .iconst 0, 1, 0, 0, 0) :: (121, .goto 11, 3, 132, 0, 0) :: k_X8_message_124
def k_X8_message_106 : List Ent := (106, .aload 5, 2, 0, 0, 0) :: (108, .getfield 192, 3, 4, 97, 0) :: (111, .ireturn, 1, 0, 0, 0) :: k_X8_message_112
def k_X8_message_100 : List Ent := (100, .aload 5, 2, 0, 0, 0) :: (102, .getfield 91, 3, 4, 96, 0) :: (105, .ireturn, 1, 0, 0, 0) :: k_X8_message_106
def k_X8_message_73 : List Ent := (73, .iload 4, 2, 0, 0, 0) :: (75, .tableswitch 58 0 2 #[25, 31, 37], 25, 0, 0, 0) :: k_X8_message_100
def k_X8_message_35 : List Ent := (35, .aload_n 0, 1, 0, 0, 0) :: (36, .iload_n 1, 1, 0, 0, 0) :: (37, .iload_n 2, 1, 0, 0, 0) :: (38, .invokevirtual 71, 3, 67, 0, 0) :: (41, .getfield 75, 3, 8, 224, 1) :: (44, .iload_n 3, 1, 0, 0, 0) :: (45, .invokevirtual 107, 3, 134, 0, 0) :: (48, .checkcast 85, 3, 4, 0, 0) :: (51, .astore 5, 2, 0, 0, 0) :: (53, .iload 4, 2, 0, 0, 0) :: (55, .iconst 4, 1, 4, 0, 0) :: (56, .if_icmp .lt 17, 3, 73, 0, 0) :: (59, .aload 5, 2, 0, 0, 0) :: (61, .getfield 95, 3, 4, 98, 1) :: (64, .getfield 162, 3, 2, 32, 1) :: (67, .iload 4, 2, 0, 0, 0) :: (69, .iconst 4, 1, 4, 0, 0) :: (70, .isub, 1, 0, 0, 0) :: (71, .iaload, 1, 0, 0, 0) :: (72, .ireturn, 1, 0, 0, 0) :: k_X8_message_73
def k_X8_message_23 : List Ent := (23, .aload_n 0, 1, 0, 0, 0) :: (24, .iload_n 1, 1, 0, 0, 0) :: (25, .iload_n 2, 1, 0, 0, 0) :: (26, .iload_n 3, 1, 0, 0, 0) :: (27, .invokevirtual 63, 3, 66, 0, 0) :: (30, .ifCond .ne 5, 3, 35, 0, 0) :: (33, .iconst (-1), 1, 1, 1, 0) :: (34, .ireturn, 1, 0, 0, 0) :: k_X8_message_35
def k_X8_message_20 : List Ent := (20, .bipush (-2), 2, 2, 1, 0) :: (22, .ireturn, 1, 0, 0, 0) :: k_X8_message_23
def k_X8_message_0 : List Ent := (0, .iload_n 1, 1, 0, 0, 0) :: (1, .iload_n 2, 1, 0, 0, 0) :: (2, .invokestatic 188, 3, 64, 0, 2) :: (5, .ifCond .eq 15, 3, 20, 0, 0) :: (8, .iload 4, 2, 0, 0, 0) :: (10, .ifCond .lt 10, 3, 20, 0, 0) :: (13, .iload 4, 2, 0, 0, 0) :: (15, .bipush 7, 2, 7, 0, 0) :: (17, .if_icmp .le 6, 3, 23, 0, 0) :: k_X8_message_20
def M_X8_message : MI := (yX8_message, cX8_message, 6, (some .int), 4, 92, 8, 5, 10, k_X8_message_0)
theorem sk_X8_message_20 : sm_seek (mP M_X8_message) 20 = k_X8_message_20 := rfl
theorem sk_X8_message_23 : sm_seek (mP M_X8_message) 23 = k_X8_message_23 := rfl
theorem sk_X8_message_35 : sm_seek (mP M_X8_message) 35 = k_X8_message_35 := rfl
theorem sk_X8_message_73 : sm_seek (mP M_X8_message) 73 = k_X8_message_73 := rfl
theorem sk_X8_message_100 : sm_seek (mP M_X8_message) 100 = k_X8_message_100 := rfl
theorem sk_X8_message_106 : sm_seek (mP M_X8_message) 106 = k_X8_message_106 := rfl
theorem sk_X8_message_112 : sm_seek (mP M_X8_message) 112 = k_X8_message_112 := rfl
theorem sk_X8_message_124 : sm_seek (mP M_X8_message) 124 = k_X8_message_124 := rfl
theorem sk_X8_message_132 : sm_seek (mP M_X8_message) 132 = k_X8_message_132 := rfl
theorem sk_X8_message_133 : sm_seek (mP M_X8_message) 133 = k_X8_message_133 := rfl
theorem sk_X8_message_145 : sm_seek (mP M_X8_message) 145 = k_X8_message_145 := rfl
theorem sk_X8_message_153 : sm_seek (mP M_X8_message) 153 = k_X8_message_153 := rfl
def k_X8_way_11 : List Ent := (11, .aload_n 0, 1, 0, 0, 0) :: (12, .iload_n 1, 1, 0, 0, 0) :: (13, .iload_n 2, 1, 0, 0, 0) :: (14, .invokevirtual 71, 3, 67, 0, 0) :: (17, .getfield 75, 3, 8, 224, 1) :: (20, .invokevirtual 114, 3, 131, 0, 0) :: (23, .ireturn, 1, 0, 0, 0) :: []
def k_X8_way_0 : List Ent := (0, .iload_n 1, 1, 0, 0, 0) :: (1, .iload_n 2, 1, 0, 0, 0) :: (2, .invokestatic 188, 3, 64, 0, 2) :: (5, .ifCond .ne 6, 3, 11, 0, 0) :: (8, .bipush (-2), 2, 2, 1, 0) :: (10, .ireturn, 1, 0, 0, 0) :: k_X8_way_11
def M_X8_way : MI := (yX8_way, cX8_way, 3, (some .int), 2, 41, 8, 3, 10, k_X8_way_0)
theorem sk_X8_way_11 : sm_seek (mP M_X8_way) 11 = k_X8_way_11 := rfl
def k_X8_isReplica_14 : List Ent := (14, .ireturn, 1, 0, 0, 0) :: []
def k_X8_isReplica_13 : List Ent := (13, .iconst 0, 1, 0, 0, 0) :: k_X8_isReplica_14
def k_X8_isReplica_0 : List Ent := (0, .iload_n 0, 1, 0, 0, 0) :: (1, .ifCond .lt 12, 3, 13, 0, 0) :: (4, .iload_n 0, 1, 0, 0, 0) :: (5, .iconst 4, 1, 4, 0, 0) :: (6, .if_icmp .ge 7, 3, 13, 0, 0) :: (9, .iconst 1, 1, 1, 0, 0) :: (10, .goto 4, 3, 14, 0, 0) :: k_X8_isReplica_13
def M_X8_isReplica : MI := (yX8_isReplica, cX8_isReplica, 1, (some .boolean), 0, 0, 8, 1, 0, k_X8_isReplica_0)
theorem sk_X8_isReplica_13 : sm_seek (mP M_X8_isReplica) 13 = k_X8_isReplica_13 := rfl
theorem sk_X8_isReplica_14 : sm_seek (mP M_X8_isReplica) 14 = k_X8_isReplica_14 := rfl
def k_X8_isOfPair_14 : List Ent := (14, .ireturn, 1, 0, 0, 0) :: []
def k_X8_isOfPair_13 : List Ent := (13, .iconst 0, 1, 0, 0, 0) :: k_X8_isOfPair_14
def k_X8_isOfPair_0 : List Ent := (0, .iload_n 0, 1, 0, 0, 0) :: (1, .ifCond .lt 12, 3, 13, 0, 0) :: (4, .iload_n 0, 1, 0, 0, 0) :: (5, .iconst 2, 1, 2, 0, 0) :: (6, .if_icmp .ge 7, 3, 13, 0, 0) :: (9, .iconst 1, 1, 1, 0, 0) :: (10, .goto 4, 3, 14, 0, 0) :: k_X8_isOfPair_13
def M_X8_isOfPair : MI := (yX8_isOfPair, cX8_isOfPair, 1, (some .boolean), 0, 0, 8, 1, 0, k_X8_isOfPair_0)
theorem sk_X8_isOfPair_13 : sm_seek (mP M_X8_isOfPair) 13 = k_X8_isOfPair_13 := rfl
theorem sk_X8_isOfPair_14 : sm_seek (mP M_X8_isOfPair) 14 = k_X8_isOfPair_14 := rfl
def k_X8_isElement_15 : List Ent := (15, .ireturn, 1, 0, 0, 0) :: []
def k_X8_isElement_14 : List Ent := (14, .iconst 0, 1, 0, 0, 0) :: k_X8_isElement_15
def k_X8_isElement_0 : List Ent := (0, .iload_n 0, 1, 0, 0, 0) :: (1, .ifCond .lt 13, 3, 14, 0, 0) :: (4, .iload_n 0, 1, 0, 0, 0) :: (5, .bipush 32, 2, 32, 0, 0) :: (7, .if_icmp .ge 7, 3, 14, 0, 0) :: (10, .iconst 1, 1, 1, 0, 0) :: (11, .goto 4, 3, 15, 0, 0) :: k_X8_isElement_14
def M_X8_isElement : MI := (yX8_isElement, cX8_isElement, 1, (some .boolean), 0, 0, 8, 1, 0, k_X8_isElement_0)
theorem sk_X8_isElement_14 : sm_seek (mP M_X8_isElement) 14 = k_X8_isElement_14 := rfl
theorem sk_X8_isElement_15 : sm_seek (mP M_X8_isElement) 15 = k_X8_isElement_15 := rfl
def k_X8_isCharacter_16 : List Ent := (16, .ireturn, 1, 0, 0, 0) :: []
def k_X8_isCharacter_15 : List Ent := (15, .iconst 0, 1, 0, 0, 0) :: k_X8_isCharacter_16
def k_X8_isCharacter_0 : List Ent := (0, .iload_n 0, 1, 0, 0, 0) :: (1, .iconst 1, 1, 1, 0, 0) :: (2, .if_icmp .lt 13, 3, 15, 0, 0) :: (5, .iload_n 0, 1, 0, 0, 0) :: (6, .bipush 127, 2, 127, 0, 0) :: (8, .if_icmp .gt 7, 3, 15, 0, 0) :: (11, .iconst 1, 1, 1, 0, 0) :: (12, .goto 4, 3, 16, 0, 0) :: k_X8_isCharacter_15
def M_X8_isCharacter : MI := (yX8_isCharacter, cX8_isCharacter, 1, (some .boolean), 0, 0, 8, 1, 0, k_X8_isCharacter_0)
theorem sk_X8_isCharacter_15 : sm_seek (mP M_X8_isCharacter) 15 = k_X8_isCharacter_15 := rfl
theorem sk_X8_isCharacter_16 : sm_seek (mP M_X8_isCharacter) 16 = k_X8_isCharacter_16 := rfl
def k_X8_isWay_24 : List Ent := (24, .ireturn, 1, 0, 0, 0) :: []
def k_X8_isWay_23 : List Ent := (23, .iconst 0, 1, 0, 0, 0) :: k_X8_isWay_24
def k_X8_isWay_0 : List Ent := (0, .iload_n 0, 1, 0, 0, 0) :: (1, .invokestatic 25, 3, 60, 0, 2) :: (4, .ifCond .eq 19, 3, 23, 0, 0) :: (7, .iload_n 1, 1, 0, 0, 0) :: (8, .invokestatic 25, 3, 60, 0, 2) :: (11, .ifCond .eq 12, 3, 23, 0, 0) :: (14, .iload_n 0, 1, 0, 0, 0) :: (15, .iload_n 1, 1, 0, 0, 0) :: (16, .if_icmp .eq 7, 3, 23, 0, 0) :: (19, .iconst 1, 1, 1, 0, 0) :: (20, .goto 4, 3, 24, 0, 0) :: k_X8_isWay_23
def M_X8_isWay : MI := (yX8_isWay, cX8_isWay, 2, (some .boolean), 1, 20, 8, 2, 0, k_X8_isWay_0)
theorem sk_X8_isWay_23 : sm_seek (mP M_X8_isWay) 23 = k_X8_isWay_23 := rfl
theorem sk_X8_isWay_24 : sm_seek (mP M_X8_isWay) 24 = k_X8_isWay_24 := rfl
def k_X8_oneIf_9 : List Ent := (9, .ireturn, 1, 0, 0, 0) :: []
def k_X8_oneIf_8 : List Ent := (8, .iconst 0, 1, 0, 0, 0) :: k_X8_oneIf_9
def k_X8_oneIf_0 : List Ent := (0, .iload_n 0, 1, 0, 0, 0) :: (1, .ifCond .eq 7, 3, 8, 0, 0) :: (4, .iconst 1, 1, 1, 0, 0) :: (5, .goto 4, 3, 9, 0, 0) :: k_X8_oneIf_8
def M_X8_oneIf : MI := (yX8_oneIf, cX8_oneIf, 1, (some .int), 0, 0, 8, 1, 0, k_X8_oneIf_0)
theorem sk_X8_oneIf_8 : sm_seek (mP M_X8_oneIf) 8 = k_X8_oneIf_8 := rfl
theorem sk_X8_oneIf_9 : sm_seek (mP M_X8_oneIf) 9 = k_X8_oneIf_9 := rfl
def k_X8_isOnWay_33 : List Ent := (33, .ireturn, 1, 0, 0, 0) :: []
def k_X8_isOnWay_32 : List Ent := (32, .iconst 0, 1, 0, 0, 0) :: k_X8_isOnWay_33
def k_X8_isOnWay_0 : List Ent := (0, .iload_n 1, 1, 0, 0, 0) :: (1, .iload_n 2, 1, 0, 0, 0) :: (2, .invokestatic 188, 3, 64, 0, 2) :: (5, .ifCond .eq 27, 3, 32, 0, 0) :: (8, .iload_n 3, 1, 0, 0, 0) :: (9, .ifCond .lt 23, 3, 32, 0, 0) :: (12, .iload_n 3, 1, 0, 0, 0) :: (13, .aload_n 0, 1, 0, 0, 0) :: (14, .iload_n 1, 1, 0, 0, 0) :: (15, .iload_n 2, 1, 0, 0, 0) :: (16, .invokevirtual 71, 3, 67, 0, 0) :: (19, .getfield 75, 3, 8, 224, 1) :: (22, .invokevirtual 114, 3, 131, 0, 0) :: (25, .if_icmp .ge 7, 3, 32, 0, 0) :: (28, .iconst 1, 1, 1, 0, 0) :: (29, .goto 4, 3, 33, 0, 0) :: k_X8_isOnWay_32
def M_X8_isOnWay : MI := (yX8_isOnWay, cX8_isOnWay, 4, (some .boolean), 2, 41, 8, 4, 10, k_X8_isOnWay_0)
theorem sk_X8_isOnWay_32 : sm_seek (mP M_X8_isOnWay) 32 = k_X8_isOnWay_32 := rfl
theorem sk_X8_isOnWay_33 : sm_seek (mP M_X8_isOnWay) 33 = k_X8_isOnWay_33 := rfl
def k_X8_wayBetween_0 : List Ent := (0, .aload_n 0, 1, 0, 0, 0) :: (1, .getfield 17, 3, 9, 257, 1) :: (4, .iload_n 1, 1, 0, 0, 0) :: (5, .iconst 4, 1, 4, 0, 0) :: (6, .imul, 1, 0, 0, 0) :: (7, .iload_n 2, 1, 0, 0, 0) :: (8, .iadd, 1, 0, 0, 0) :: (9, .aaload, 1, 0, 0, 0) :: (10, .areturn, 1, 0, 0, 0) :: []
def M_X8_wayBetween : MI := (yX8_wayBetween, cX8_wayBetween, 3, (some (.object "ReplicaStore$Way")), 0, 0, 8, 3, 10, k_X8_wayBetween_0)
def k_X8_operate_78 : List Ent := (78, .aload 4, 2, 0, 0, 0) :: (80, .getfield 185, 3, 5, 130, 0) :: (83, .ireturn, 1, 0, 0, 0) :: []
def k_X8_operate_72 : List Ent := (72, .iinc 6 1, 3, 1, 0, 0) :: (75, .goto (-27), 3, 48, 0, 0) :: k_X8_operate_78
def k_X8_operate_48 : List Ent := (48, .iload 6, 2, 0, 0, 0) :: (50, .iconst 4, 1, 4, 0, 0) :: (51, .if_icmp .ge 27, 3, 78, 0, 0) :: (54, .iload 6, 2, 0, 0, 0) :: (56, .iload_n 1, 1, 0, 0, 0) :: (57, .if_icmp .eq 15, 3, 72, 0, 0) :: (60, .aload_n 0, 1, 0, 0, 0) :: (61, .iload_n 1, 1, 0, 0, 0) :: (62, .iload 6, 2, 0, 0, 0) :: (64, .invokevirtual 71, 3, 67, 0, 0) :: (67, .aload 5, 2, 0, 0, 0) :: (69, .invokevirtual 110, 3, 35, 0, 0) :: k_X8_operate_72
def k_X8_operate_27 : List Ent := (27, .aload_n 3, 1, 0, 0, 0) :: (28, .aload_n 2, 1, 0, 0, 0) :: (29, .invokevirtual 202, 3, 14, 0, 0) :: (32, .astore 4, 2, 0, 0, 0) :: (34, .new 85, 3, 4, 4, 0) :: (37, .dup, 1, 0, 0, 0) :: (38, .aload 4, 2, 0, 0, 0) :: (40, .invokespecial 206, 3, 5, 0, 1) :: (43, .astore 5, 2, 0, 0, 0) :: (45, .iconst 0, 1, 0, 0, 0) :: (46, .istore 6, 2, 0, 0, 0) :: k_X8_operate_48
def k_X8_operate_17 : List Ent := (17, .aload_n 3, 1, 0, 0, 0) :: (18, .invokevirtual 199, 3, 11, 0, 0) :: (21, .ifCond .eq 6, 3, 27, 0, 0) :: (24, .bipush (-3), 2, 3, 1, 0) :: (26, .ireturn, 1, 0, 0, 0) :: k_X8_operate_27
def k_X8_operate_0 : List Ent := (0, .aload_n 0, 1, 0, 0, 0) :: (1, .getfield 11, 3, 9, 256, 1) :: (4, .iload_n 1, 1, 0, 0, 0) :: (5, .aaload, 1, 0, 0, 0) :: (6, .astore_n 3, 1, 0, 0, 0) :: (7, .aload_n 3, 1, 0, 0, 0) :: (8, .getfield 67, 3, 6, 169, 2) :: (11, .ifCond .ne 6, 3, 17, 0, 0) :: (14, .bipush (-4), 2, 4, 1, 0) :: (16, .ireturn, 1, 0, 0, 0) :: k_X8_operate_17
def M_X8_operate : MI := (yX8_operate, cX8_operate, 7, (some .int), 10, 226, 8, 3, 10, k_X8_operate_0)
theorem sk_X8_operate_17 : sm_seek (mP M_X8_operate) 17 = k_X8_operate_17 := rfl
theorem sk_X8_operate_27 : sm_seek (mP M_X8_operate) 27 = k_X8_operate_27 := rfl
theorem sk_X8_operate_48 : sm_seek (mP M_X8_operate) 48 = k_X8_operate_48 := rfl
theorem sk_X8_operate_72 : sm_seek (mP M_X8_operate) 72 = k_X8_operate_72 := rfl
theorem sk_X8_operate_78 : sm_seek (mP M_X8_operate) 78 = k_X8_operate_78 := rfl
def k_X8_sendClock_45 : List Ent := (45, .aload 4, 2, 0, 0, 0) :: (47, .new 85, 3, 4, 4, 0) :: (50, .dup, 1, 0, 0, 0) :: (51, .iload_n 3, 1, 0, 0, 0) :: (52, .iload_n 1, 1, 0, 0, 0) :: (53, .aload_n 0, 1, 0, 0, 0) :: (54, .getfield 11, 3, 9, 256, 1) :: (57, .iload_n 1, 1, 0, 0, 0) :: (58, .aaload, 1, 0, 0, 0) :: (59, .invokevirtual 209, 3, 12, 0, 0) :: (62, .invokespecial 213, 3, 6, 0, 1) :: (65, .invokevirtual 110, 3, 35, 0, 0) :: (68, .aload 4, 2, 0, 0, 0) :: (70, .getfield 75, 3, 8, 224, 1) :: (73, .invokevirtual 114, 3, 131, 0, 0) :: (76, .ireturn, 1, 0, 0, 0) :: []
def k_X8_sendClock_26 : List Ent := (26, .aload_n 0, 1, 0, 0, 0) :: (27, .iload_n 1, 1, 0, 0, 0) :: (28, .iload_n 2, 1, 0, 0, 0) :: (29, .invokevirtual 71, 3, 67, 0, 0) :: (32, .astore 4, 2, 0, 0, 0) :: (34, .aload 4, 2, 0, 0, 0) :: (36, .invokevirtual 103, 3, 34, 0, 0) :: (39, .ifCond .eq 6, 3, 45, 0, 0) :: (42, .bipush (-3), 2, 3, 1, 0) :: (44, .ireturn, 1, 0, 0, 0) :: k_X8_sendClock_45
def k_X8_sendClock_11 : List Ent := (11, .aload_n 0, 1, 0, 0, 0) :: (12, .getfield 11, 3, 9, 256, 1) :: (15, .iload_n 1, 1, 0, 0, 0) :: (16, .aaload, 1, 0, 0, 0) :: (17, .getfield 67, 3, 6, 169, 2) :: (20, .ifCond .ne 6, 3, 26, 0, 0) :: (23, .bipush (-4), 2, 4, 1, 0) :: (25, .ireturn, 1, 0, 0, 0) :: k_X8_sendClock_26
def k_X8_sendClock_0 : List Ent := (0, .iload_n 1, 1, 0, 0, 0) :: (1, .iload_n 2, 1, 0, 0, 0) :: (2, .invokestatic 188, 3, 64, 0, 2) :: (5, .ifCond .ne 6, 3, 11, 0, 0) :: (8, .bipush (-2), 2, 2, 1, 0) :: (10, .ireturn, 1, 0, 0, 0) :: k_X8_sendClock_11
def M_X8_sendClock : MI := (yX8_sendClock, cX8_sendClock, 5, (some .int), 8, 181, 8, 4, 10, k_X8_sendClock_0)
theorem sk_X8_sendClock_11 : sm_seek (mP M_X8_sendClock) 11 = k_X8_sendClock_11 := rfl
theorem sk_X8_sendClock_26 : sm_seek (mP M_X8_sendClock) 26 = k_X8_sendClock_26 := rfl
theorem sk_X8_sendClock_45 : sm_seek (mP M_X8_sendClock) 45 = k_X8_sendClock_45 := rfl
def k_X8_answer_84 : List Ent := (84, .aload 5, 2, 0, 0, 0) :: (86, .new 85, 3, 4, 4, 0) :: (89, .dup, 1, 0, 0, 0) :: (90, .iconst 1, 1, 1, 0, 0) :: (91, .iload_n 1, 1, 0, 0, 0) :: (92, .aload 4, 2, 0, 0, 0) :: (94, .invokevirtual 209, 3, 12, 0, 0) :: (97, .invokespecial 213, 3, 6, 0, 1) :: (100, .invokevirtual 110, 3, 35, 0, 0) :: (103, .return_, 1, 0, 0, 0) :: []
def k_X8_answer_78 : List Ent := (78, .iinc 6 1, 3, 1, 0, 0) :: (81, .goto (-62), 3, 19, 0, 0) :: k_X8_answer_84
def k_X8_answer_19 : List Ent := (19, .iload 6, 2, 0, 0, 0) :: (21, .aload 4, 2, 0, 0, 0) :: (23, .getfield 170, 3, 6, 166, 1) :: (26, .invokevirtual 114, 3, 131, 0, 0) :: (29, .if_icmp .ge 55, 3, 84, 0, 0) :: (32, .aload 5, 2, 0, 0, 0) :: (34, .invokevirtual 103, 3, 34, 0, 0) :: (37, .ifCond .ne 47, 3, 84, 0, 0) :: (40, .aload 4, 2, 0, 0, 0) :: (42, .getfield 170, 3, 6, 166, 1) :: (45, .iload 6, 2, 0, 0, 0) :: (47, .invokevirtual 107, 3, 134, 0, 0) :: (50, .checkcast 144, 3, 5, 0, 0) :: (53, .astore 7, 2, 0, 0, 0) :: (55, .aload_n 3, 1, 0, 0, 0) :: (56, .aload 7, 2, 0, 0, 0) :: (58, .invokevirtual 215, 3, 2, 0, 0) :: (61, .ifCond .ne 17, 3, 78, 0, 0) :: (64, .aload 5, 2, 0, 0, 0) :: (66, .new 85, 3, 4, 4, 0) :: (69, .dup, 1, 0, 0, 0) :: (70, .aload 7, 2, 0, 0, 0) :: (72, .invokespecial 206, 3, 5, 0, 1) :: (75, .invokevirtual 110, 3, 35, 0, 0) :: k_X8_answer_78
def k_X8_answer_0 : List Ent := (0, .aload_n 0, 1, 0, 0, 0) :: (1, .getfield 11, 3, 9, 256, 1) :: (4, .iload_n 1, 1, 0, 0, 0) :: (5, .aaload, 1, 0, 0, 0) :: (6, .astore 4, 2, 0, 0, 0) :: (8, .aload_n 0, 1, 0, 0, 0) :: (9, .iload_n 1, 1, 0, 0, 0) :: (10, .iload_n 2, 1, 0, 0, 0) :: (11, .invokevirtual 71, 3, 67, 0, 0) :: (14, .astore 5, 2, 0, 0, 0) :: (16, .iconst 0, 1, 0, 0, 0) :: (17, .istore 6, 2, 0, 0, 0) :: k_X8_answer_19
def M_X8_answer : MI := (yX8_answer, cX8_answer, 8, none, 8, 181, 8, 4, 10, k_X8_answer_0)
theorem sk_X8_answer_19 : sm_seek (mP M_X8_answer) 19 = k_X8_answer_19 := rfl
theorem sk_X8_answer_78 : sm_seek (mP M_X8_answer) 78 = k_X8_answer_78 := rfl
theorem sk_X8_answer_84 : sm_seek (mP M_X8_answer) 84 = k_X8_answer_84 := rfl
def k_X9_init_0 : List Ent := (0, .aload_n 0, 1, 0, 0, 0) :: (1, .invokespecial 1, 3, 1000, 0, 1) :: (4, .aload_n 0, 1, 0, 0, 0) :: (5, .iconst 4, 1, 4, 0, 0) :: (6, .newarray .int, 2, 20, 0, 0) :: (8, .putfield 7, 3, 10, 288, 1) :: (11, .aload_n 0, 1, 0, 0, 0) :: (12, .sipush 240, 3, 240, 0, 0) :: (15, .newarray .int, 2, 20, 0, 0) :: (17, .putfield 13, 3, 10, 289, 1) :: (20, .aload_n 0, 1, 0, 0, 0) :: (21, .sipush 240, 3, 240, 0, 0) :: (24, .newarray .int, 2, 20, 0, 0) :: (26, .putfield 16, 3, 10, 290, 1) :: (29, .aload_n 0, 1, 0, 0, 0) :: (30, .sipush 240, 3, 240, 0, 0) :: (33, .newarray .int, 2, 20, 0, 0) :: (35, .putfield 19, 3, 10, 291, 1) :: (38, .aload_n 0, 1, 0, 0, 0) :: (39, .sipush 240, 3, 240, 0, 0) :: (42, .newarray .int, 2, 20, 0, 0) :: (44, .putfield 22, 3, 10, 292, 1) :: (47, .aload_n 0, 1, 0, 0, 0) :: (48, .sipush 240, 3, 240, 0, 0) :: (51, .newarray .int, 2, 20, 0, 0) :: (53, .putfield 25, 3, 10, 293, 1) :: (56, .aload_n 0, 1, 0, 0, 0) :: (57, .sipush 960, 3, 960, 0, 0) :: (60, .newarray .int, 2, 20, 0, 0) :: (62, .putfield 28, 3, 10, 294, 1) :: (65, .aload_n 0, 1, 0, 0, 0) :: (66, .iconst 4, 1, 4, 0, 0) :: (67, .newarray .boolean, 2, 21, 0, 0) :: (69, .dup, 1, 0, 0, 0) :: (70, .iconst 0, 1, 0, 0, 0) :: (71, .iconst 1, 1, 1, 0, 0) :: (72, .bastore, 1, 0, 0, 0) :: (73, .dup, 1, 0, 0, 0) :: (74, .iconst 1, 1, 1, 0, 0) :: (75, .iconst 1, 1, 1, 0, 0) :: (76, .bastore, 1, 0, 0, 0) :: (77, .dup, 1, 0, 0, 0) :: (78, .iconst 2, 1, 2, 0, 0) :: (79, .iconst 1, 1, 1, 0, 0) :: (80, .bastore, 1, 0, 0, 0) :: (81, .dup, 1, 0, 0, 0) :: (82, .iconst 3, 1, 3, 0, 0) :: (83, .iconst 1, 1, 1, 0, 0) :: (84, .bastore, 1, 0, 0, 0) :: (85, .putfield 31, 3, 10, 295, 1) :: (88, .aload_n 0, 1, 0, 0, 0) :: (89, .bipush 16, 2, 16, 0, 0) :: (91, .newarray .int, 2, 20, 0, 0) :: (93, .putfield 35, 3, 10, 296, 1) :: (96, .aload_n 0, 1, 0, 0, 0) :: (97, .iconst 4, 1, 4, 0, 0) :: (98, .newarray .int, 2, 20, 0, 0) :: (100, .putfield 38, 3, 10, 297, 1) :: (103, .aload_n 0, 1, 0, 0, 0) :: (104, .iconst 4, 1, 4, 0, 0) :: (105, .newarray .int, 2, 20, 0, 0) :: (107, .putfield 41, 3, 10, 298, 1) :: (110, .aload_n 0, 1, 0, 0, 0) :: (111, .sipush 960, 3, 960, 0, 0) :: (114, .newarray .int, 2, 20, 0, 0) :: (116, .putfield 44, 3, 10, 299, 1) :: (119, .aload_n 0, 1, 0, 0, 0) :: (120, .sipush 960, 3, 960, 0, 0) :: (123, .newarray .boolean, 2, 21, 0, 0) :: (125, .putfield 47, 3, 10, 300, 1) :: (128, .aload_n 0, 1, 0, 0, 0) :: (129, .iconst 4, 1, 4, 0, 0) :: (130, .newarray .int, 2, 20, 0, 0) :: (132, .putfield 50, 3, 10, 301, 1) :: (135, .aload_n 0, 1, 0, 0, 0) :: (136, .sipush 960, 3, 960, 0, 0) :: (139, .newarray .int, 2, 20, 0, 0) :: (141, .putfield 53, 3, 10, 302, 1) :: (144, .aload_n 0, 1, 0, 0, 0) :: (145, .bipush 64, 2, 64, 0, 0) :: (147, .newarray .int, 2, 20, 0, 0) :: (149, .putfield 56, 3, 10, 303, 1) :: (152, .aload_n 0, 1, 0, 0, 0) :: (153, .bipush 16, 2, 16, 0, 0) :: (155, .newarray .int, 2, 20, 0, 0) :: (157, .putfield 59, 3, 10, 304, 1) :: (160, .aload_n 0, 1, 0, 0, 0) :: (161, .sipush 480, 3, 480, 0, 0) :: (164, .newarray .int, 2, 20, 0, 0) :: (166, .putfield 62, 3, 10, 305, 1) :: (169, .aload_n 0, 1, 0, 0, 0) :: (170, .sipush 480, 3, 480, 0, 0) :: (173, .newarray .int, 2, 20, 0, 0) :: (175, .putfield 65, 3, 10, 306, 1) :: (178, .aload_n 0, 1, 0, 0, 0) :: (179, .sipush 1920, 3, 1920, 0, 0) :: (182, .newarray .int, 2, 20, 0, 0) :: (184, .putfield 68, 3, 10, 307, 1) :: (187, .aload_n 0, 1, 0, 0, 0) :: (188, .sipush 240, 3, 240, 0, 0) :: (191, .newarray .int, 2, 20, 0, 0) :: (193, .putfield 71, 3, 10, 308, 1) :: (196, .aload_n 0, 1, 0, 0, 0) :: (197, .sipush 480, 3, 480, 0, 0) :: (200, .newarray .int, 2, 20, 0, 0) :: (202, .putfield 74, 3, 10, 310, 1) :: (205, .aload_n 0, 1, 0, 0, 0) :: (206, .iconst 4, 1, 4, 0, 0) :: (207, .newarray .int, 2, 20, 0, 0) :: (209, .putfield 77, 3, 10, 311, 1) :: (212, .aload_n 0, 1, 0, 0, 0) :: (213, .iconst 0, 1, 0, 0, 0) :: (214, .putfield 80, 3, 10, 309, 0) :: (217, .return_, 1, 0, 0, 0) :: []
def M_X9_init : MI := (yX9_init, cX9_init, 1, none, 1, 28, 9, 1, 1, k_X9_init_0)
def k_X9_in_15 : List Ent := (15, .ireturn, 1, 0, 0, 0) :: []
def k_X9_in_14 : List Ent := (14, .iconst 0, 1, 0, 0, 0) :: k_X9_in_15
def k_X9_in_0 : List Ent := (0, .iload_n 0, 1, 0, 0, 0) :: (1, .iload_n 1, 1, 0, 0, 0) :: (2, .if_icmp .lt 12, 3, 14, 0, 0) :: (5, .iload_n 0, 1, 0, 0, 0) :: (6, .iload_n 2, 1, 0, 0, 0) :: (7, .if_icmp .gt 7, 3, 14, 0, 0) :: (10, .iconst 1, 1, 1, 0, 0) :: (11, .goto 4, 3, 15, 0, 0) :: k_X9_in_14
def M_X9_in : MI := (yX9_in, cX9_in, 3, (some .boolean), 0, 0, 9, 3, 0, k_X9_in_0)
theorem sk_X9_in_14 : sm_seek (mP M_X9_in) 14 = k_X9_in_14 := rfl
theorem sk_X9_in_15 : sm_seek (mP M_X9_in) 15 = k_X9_in_15 := rfl
def k_X9_isReplica_0 : List Ent := (0, .iload_n 0, 1, 0, 0, 0) :: (1, .iconst 0, 1, 0, 0, 0) :: (2, .iconst 3, 1, 3, 0, 0) :: (3, .invokestatic 84, 3, 72, 0, 2) :: (6, .ireturn, 1, 0, 0, 0) :: []
def M_X9_isReplica : MI := (yX9_isReplica, cX9_isReplica, 1, (some .boolean), 1, 22, 9, 1, 0, k_X9_isReplica_0)
def k_X9_isTwo_0 : List Ent := (0, .iload_n 0, 1, 0, 0, 0) :: (1, .iconst 0, 1, 0, 0, 0) :: (2, .iconst 1, 1, 1, 0, 0) :: (3, .invokestatic 84, 3, 72, 0, 2) :: (6, .ireturn, 1, 0, 0, 0) :: []
def M_X9_isTwo : MI := (yX9_isTwo, cX9_isTwo, 1, (some .boolean), 1, 22, 9, 1, 0, k_X9_isTwo_0)
def k_X9_ownerOf_0 : List Ent := (0, .iload_n 0, 1, 0, 0, 0) :: (1, .bipush 60, 2, 60, 0, 0) :: (3, .idiv, 1, 0, 0, 0) :: (4, .ireturn, 1, 0, 0, 0) :: []
def M_X9_ownerOf : MI := (yX9_ownerOf, cX9_ownerOf, 1, (some .int), 0, 0, 9, 1, 0, k_X9_ownerOf_0)
def k_X9_numberOf_0 : List Ent := (0, .iload_n 0, 1, 0, 0, 0) :: (1, .bipush 60, 2, 60, 0, 0) :: (3, .irem, 1, 0, 0, 0) :: (4, .iconst 1, 1, 1, 0, 0) :: (5, .iadd, 1, 0, 0, 0) :: (6, .ireturn, 1, 0, 0, 0) :: []
def M_X9_numberOf : MI := (yX9_numberOf, cX9_numberOf, 1, (some .int), 0, 0, 9, 1, 0, k_X9_numberOf_0)
def k_X9_isBefore_30 : List Ent := (30, .ireturn, 1, 0, 0, 0) :: []
def k_X9_isBefore_29 : List Ent := (29, .iconst 0, 1, 0, 0, 0) :: k_X9_isBefore_30
def k_X9_isBefore_0 : List Ent := (0, .iload_n 1, 1, 0, 0, 0) :: (1, .iload_n 2, 1, 0, 0, 0) :: (2, .if_icmp .eq 27, 3, 29, 0, 0) :: (5, .aload_n 0, 1, 0, 0, 0) :: (6, .getfield 28, 3, 10, 294, 1) :: (9, .iconst 4, 1, 4, 0, 0) :: (10, .iload_n 2, 1, 0, 0, 0) :: (11, .imul, 1, 0, 0, 0) :: (12, .iload_n 1, 1, 0, 0, 0) :: (13, .invokestatic 88, 3, 75, 0, 2) :: (16, .iadd, 1, 0, 0, 0) :: (17, .iaload, 1, 0, 0, 0) :: (18, .iload_n 1, 1, 0, 0, 0) :: (19, .invokestatic 92, 3, 76, 0, 2) :: (22, .if_icmp .lt 7, 3, 29, 0, 0) :: (25, .iconst 1, 1, 1, 0, 0) :: (26, .goto 4, 3, 30, 0, 0) :: k_X9_isBefore_29
def M_X9_isBefore : MI := (yX9_isBefore, cX9_isBefore, 3, (some .boolean), 1, 20, 9, 3, 11, k_X9_isBefore_0)
theorem sk_X9_isBefore_29 : sm_seek (mP M_X9_isBefore) 29 = k_X9_isBefore_29 := rfl
theorem sk_X9_isBefore_30 : sm_seek (mP M_X9_isBefore) 30 = k_X9_isBefore_30 := rfl
def k_X9_hasGreaterMark_54 : List Ent := (54, .ireturn, 1, 0, 0, 0) :: []
def k_X9_hasGreaterMark_53 : List Ent := (53, .iconst 0, 1, 0, 0, 0) :: k_X9_hasGreaterMark_54
def k_X9_hasGreaterMark_38 : List Ent := (38, .iload_n 1, 1, 0, 0, 0) :: (39, .invokestatic 88, 3, 75, 0, 2) :: (42, .iload_n 2, 1, 0, 0, 0) :: (43, .invokestatic 88, 3, 75, 0, 2) :: (46, .if_icmp .le 7, 3, 53, 0, 0) :: (49, .iconst 1, 1, 1, 0, 0) :: (50, .goto 4, 3, 54, 0, 0) :: k_X9_hasGreaterMark_53
def k_X9_hasGreaterMark_34 : List Ent := (34, .iconst 0, 1, 0, 0, 0) :: (35, .goto 19, 3, 54, 0, 0) :: k_X9_hasGreaterMark_38
def k_X9_hasGreaterMark_0 : List Ent := (0, .aload_n 0, 1, 0, 0, 0) :: (1, .getfield 25, 3, 10, 293, 1) :: (4, .iload_n 1, 1, 0, 0, 0) :: (5, .iaload, 1, 0, 0, 0) :: (6, .aload_n 0, 1, 0, 0, 0) :: (7, .getfield 25, 3, 10, 293, 1) :: (10, .iload_n 2, 1, 0, 0, 0) :: (11, .iaload, 1, 0, 0, 0) :: (12, .if_icmp .eq 26, 3, 38, 0, 0) :: (15, .aload_n 0, 1, 0, 0, 0) :: (16, .getfield 25, 3, 10, 293, 1) :: (19, .iload_n 1, 1, 0, 0, 0) :: (20, .iaload, 1, 0, 0, 0) :: (21, .aload_n 0, 1, 0, 0, 0) :: (22, .getfield 25, 3, 10, 293, 1) :: (25, .iload_n 2, 1, 0, 0, 0) :: (26, .iaload, 1, 0, 0, 0) :: (27, .if_icmp .le 7, 3, 34, 0, 0) :: (30, .iconst 1, 1, 1, 0, 0) :: (31, .goto 23, 3, 54, 0, 0) :: k_X9_hasGreaterMark_34
def M_X9_hasGreaterMark : MI := (yX9_hasGreaterMark, cX9_hasGreaterMark, 3, (some .boolean), 1, 20, 9, 3, 11, k_X9_hasGreaterMark_0)
theorem sk_X9_hasGreaterMark_34 : sm_seek (mP M_X9_hasGreaterMark) 34 = k_X9_hasGreaterMark_34 := rfl
theorem sk_X9_hasGreaterMark_38 : sm_seek (mP M_X9_hasGreaterMark) 38 = k_X9_hasGreaterMark_38 := rfl
theorem sk_X9_hasGreaterMark_53 : sm_seek (mP M_X9_hasGreaterMark) 53 = k_X9_hasGreaterMark_53 := rfl
theorem sk_X9_hasGreaterMark_54 : sm_seek (mP M_X9_hasGreaterMark) 54 = k_X9_hasGreaterMark_54 := rfl
def k_X9_was_0 : List Ent := (0, .aload_n 0, 1, 0, 0, 0) :: (1, .getfield 47, 3, 10, 300, 1) :: (4, .sipush 240, 3, 240, 0, 0) :: (7, .iload_n 1, 1, 0, 0, 0) :: (8, .imul, 1, 0, 0, 0) :: (9, .iload_n 2, 1, 0, 0, 0) :: (10, .iadd, 1, 0, 0, 0) :: (11, .baload, 1, 0, 0, 0) :: (12, .ireturn, 1, 0, 0, 0) :: []
def M_X9_was : MI := (yX9_was, cX9_was, 3, (some .boolean), 0, 0, 9, 3, 11, k_X9_was_0)
def k_X9_doOperation_93 : List Ent := (93, .iastore, 1, 0, 0, 0) :: (94, .return_, 1, 0, 0, 0) :: []
def k_X9_doOperation_87 : List Ent := (87, .aload_n 0, 1, 0, 0, 0) :: (88, .getfield 38, 3, 10, 297, 1) :: (91, .iload_n 1, 1, 0, 0, 0) :: (92, .iaload, 1, 0, 0, 0) :: k_X9_doOperation_93
def k_X9_doOperation_0 : List Ent := (0, .aload_n 0, 1, 0, 0, 0) :: (1, .getfield 47, 3, 10, 300, 1) :: (4, .sipush 240, 3, 240, 0, 0) :: (7, .iload_n 1, 1, 0, 0, 0) :: (8, .imul, 1, 0, 0, 0) :: (9, .iload_n 2, 1, 0, 0, 0) :: (10, .iadd, 1, 0, 0, 0) :: (11, .iconst 1, 1, 1, 0, 0) :: (12, .bastore, 1, 0, 0, 0) :: (13, .aload_n 0, 1, 0, 0, 0) :: (14, .getfield 44, 3, 10, 299, 1) :: (17, .sipush 240, 3, 240, 0, 0) :: (20, .iload_n 1, 1, 0, 0, 0) :: (21, .imul, 1, 0, 0, 0) :: (22, .aload_n 0, 1, 0, 0, 0) :: (23, .getfield 41, 3, 10, 298, 1) :: (26, .iload_n 1, 1, 0, 0, 0) :: (27, .iaload, 1, 0, 0, 0) :: (28, .iadd, 1, 0, 0, 0) :: (29, .iload_n 2, 1, 0, 0, 0) :: (30, .iastore, 1, 0, 0, 0) :: (31, .aload_n 0, 1, 0, 0, 0) :: (32, .getfield 41, 3, 10, 298, 1) :: (35, .iload_n 1, 1, 0, 0, 0) :: (36, .dup2, 1, 0, 0, 0) :: (37, .iaload, 1, 0, 0, 0) :: (38, .iconst 1, 1, 1, 0, 0) :: (39, .iadd, 1, 0, 0, 0) :: (40, .iastore, 1, 0, 0, 0) :: (41, .aload_n 0, 1, 0, 0, 0) :: (42, .getfield 35, 3, 10, 296, 1) :: (45, .iconst 4, 1, 4, 0, 0) :: (46, .iload_n 1, 1, 0, 0, 0) :: (47, .imul, 1, 0, 0, 0) :: (48, .iload_n 2, 1, 0, 0, 0) :: (49, .invokestatic 88, 3, 75, 0, 2) :: (52, .iadd, 1, 0, 0, 0) :: (53, .dup2, 1, 0, 0, 0) :: (54, .iaload, 1, 0, 0, 0) :: (55, .iconst 1, 1, 1, 0, 0) :: (56, .iadd, 1, 0, 0, 0) :: (57, .iastore, 1, 0, 0, 0) :: (58, .aload_n 0, 1, 0, 0, 0) :: (59, .getfield 38, 3, 10, 297, 1) :: (62, .iload_n 1, 1, 0, 0, 0) :: (63, .aload_n 0, 1, 0, 0, 0) :: (64, .getfield 25, 3, 10, 293, 1) :: (67, .iload_n 2, 1, 0, 0, 0) :: (68, .iaload, 1, 0, 0, 0) :: (69, .aload_n 0, 1, 0, 0, 0) :: (70, .getfield 38, 3, 10, 297, 1) :: (73, .iload_n 1, 1, 0, 0, 0) :: (74, .iaload, 1, 0, 0, 0) :: (75, .if_icmp .le 12, 3, 87, 0, 0) :: (78, .aload_n 0, 1, 0, 0, 0) :: (79, .getfield 25, 3, 10, 293, 1) :: (82, .iload_n 2, 1, 0, 0, 0) :: (83, .iaload, 1, 0, 0, 0) :: (84, .goto 9, 3, 93, 0, 0) :: k_X9_doOperation_87
def M_X9_doOperation : MI := (yX9_doOperation, cX9_doOperation, 3, none, 1, 20, 9, 3, 11, k_X9_doOperation_0)
theorem sk_X9_doOperation_87 : sm_seek (mP M_X9_doOperation) 87 = k_X9_doOperation_87 := rfl
theorem sk_X9_doOperation_93 : sm_seek (mP M_X9_doOperation) 93 = k_X9_doOperation_93 := rfl
def k_X9_newOperation_173 : List Ent := (173, .aload_n 0, 1, 0, 0, 0) :: (174, .getfield 7, 3, 10, 288, 1) :: (177, .iload_n 1, 1, 0, 0, 0) :: (178, .iaload, 1, 0, 0, 0) :: (179, .ireturn, 1, 0, 0, 0) :: []
def k_X9_newOperation_167 : List Ent := (167, .iinc 7 1, 3, 1, 0, 0) :: (170, .goto (-24), 3, 146, 0, 0) :: k_X9_newOperation_173
def k_X9_newOperation_146 : List Ent := (146, .iload 7, 2, 0, 0, 0) :: (148, .iconst 4, 1, 4, 0, 0) :: (149, .if_icmp .ge 24, 3, 173, 0, 0) :: (152, .iload 7, 2, 0, 0, 0) :: (154, .iload_n 1, 1, 0, 0, 0) :: (155, .if_icmp .eq 12, 3, 167, 0, 0) :: (158, .aload_n 0, 1, 0, 0, 0) :: (159, .iload_n 1, 1, 0, 0, 0) :: (160, .iload 7, 2, 0, 0, 0) :: (162, .iload 6, 2, 0, 0, 0) :: (164, .invokevirtual 99, 3, 102, 0, 0) :: k_X9_newOperation_167
def k_X9_newOperation_143 : List Ent := (143, .iconst 0, 1, 0, 0, 0) :: (144, .istore 7, 2, 0, 0, 0) :: k_X9_newOperation_146
def k_X9_newOperation_108 : List Ent := (108, .iload 7, 2, 0, 0, 0) :: (110, .iconst 4, 1, 4, 0, 0) :: (111, .if_icmp .ge 32, 3, 143, 0, 0) :: (114, .aload_n 0, 1, 0, 0, 0) :: (115, .getfield 28, 3, 10, 294, 1) :: (118, .iconst 4, 1, 4, 0, 0) :: (119, .iload 6, 2, 0, 0, 0) :: (121, .imul, 1, 0, 0, 0) :: (122, .iload 7, 2, 0, 0, 0) :: (124, .iadd, 1, 0, 0, 0) :: (125, .aload_n 0, 1, 0, 0, 0) :: (126, .getfield 35, 3, 10, 296, 1) :: (129, .iconst 4, 1, 4, 0, 0) :: (130, .iload_n 1, 1, 0, 0, 0) :: (131, .imul, 1, 0, 0, 0) :: (132, .iload 7, 2, 0, 0, 0) :: (134, .iadd, 1, 0, 0, 0) :: (135, .iaload, 1, 0, 0, 0) :: (136, .iastore, 1, 0, 0, 0) :: (137, .iinc 7 1, 3, 1, 0, 0) :: (140, .goto (-32), 3, 108, 0, 0) :: k_X9_newOperation_143
def k_X9_newOperation_26 : List Ent := (26, .bipush 60, 2, 60, 0, 0) :: (28, .iload_n 1, 1, 0, 0, 0) :: (29, .imul, 1, 0, 0, 0) :: (30, .aload_n 0, 1, 0, 0, 0) :: (31, .getfield 7, 3, 10, 288, 1) :: (34, .iload_n 1, 1, 0, 0, 0) :: (35, .iaload, 1, 0, 0, 0) :: (36, .iadd, 1, 0, 0, 0) :: (37, .istore 6, 2, 0, 0, 0) :: (39, .aload_n 0, 1, 0, 0, 0) :: (40, .getfield 7, 3, 10, 288, 1) :: (43, .iload_n 1, 1, 0, 0, 0) :: (44, .dup2, 1, 0, 0, 0) :: (45, .iaload, 1, 0, 0, 0) :: (46, .iconst 1, 1, 1, 0, 0) :: (47, .iadd, 1, 0, 0, 0) :: (48, .iastore, 1, 0, 0, 0) :: (49, .aload_n 0, 1, 0, 0, 0) :: (50, .getfield 13, 3, 10, 289, 1) :: (53, .iload 6, 2, 0, 0, 0) :: (55, .iload_n 2, 1, 0, 0, 0) :: (56, .iastore, 1, 0, 0, 0) :: (57, .aload_n 0, 1, 0, 0, 0) :: (58, .getfield 16, 3, 10, 290, 1) :: (61, .iload 6, 2, 0, 0, 0) :: (63, .iload_n 3, 1, 0, 0, 0) :: (64, .iastore, 1, 0, 0, 0) :: (65, .aload_n 0, 1, 0, 0, 0) :: (66, .getfield 19, 3, 10, 291, 1) :: (69, .iload 6, 2, 0, 0, 0) :: (71, .iload 4, 2, 0, 0, 0) :: (73, .iastore, 1, 0, 0, 0) :: (74, .aload_n 0, 1, 0, 0, 0) :: (75, .getfield 22, 3, 10, 292, 1) :: (78, .iload 6, 2, 0, 0, 0) :: (80, .iload 5, 2, 0, 0, 0) :: (82, .iastore, 1, 0, 0, 0) :: (83, .aload_n 0, 1, 0, 0, 0) :: (84, .getfield 25, 3, 10, 293, 1) :: (87, .iload 6, 2, 0, 0, 0) :: (89, .aload_n 0, 1, 0, 0, 0) :: (90, .getfield 38, 3, 10, 297, 1) :: (93, .iload_n 1, 1, 0, 0, 0) :: (94, .iaload, 1, 0, 0, 0) :: (95, .iconst 1, 1, 1, 0, 0) :: (96, .iadd, 1, 0, 0, 0) :: (97, .iastore, 1, 0, 0, 0) :: (98, .aload_n 0, 1, 0, 0, 0) :: (99, .iload_n 1, 1, 0, 0, 0) :: (100, .iload 6, 2, 0, 0, 0) :: (102, .invokevirtual 95, 3, 80, 0, 0) :: (105, .iconst 0, 1, 0, 0, 0) :: (106, .istore 7, 2, 0, 0, 0) :: k_X9_newOperation_108
def k_X9_newOperation_12 : List Ent := (12, .aload_n 0, 1, 0, 0, 0) :: (13, .getfield 7, 3, 10, 288, 1) :: (16, .iload_n 1, 1, 0, 0, 0) :: (17, .iaload, 1, 0, 0, 0) :: (18, .bipush 60, 2, 60, 0, 0) :: (20, .if_icmp .ne 6, 3, 26, 0, 0) :: (23, .bipush (-3), 2, 3, 1, 0) :: (25, .ireturn, 1, 0, 0, 0) :: k_X9_newOperation_26
def k_X9_newOperation_0 : List Ent := (0, .aload_n 0, 1, 0, 0, 0) :: (1, .getfield 31, 3, 10, 295, 1) :: (4, .iload_n 1, 1, 0, 0, 0) :: (5, .baload, 1, 0, 0, 0) :: (6, .ifCond .ne 6, 3, 12, 0, 0) :: (9, .bipush (-4), 2, 4, 1, 0) :: (11, .ireturn, 1, 0, 0, 0) :: k_X9_newOperation_12
def M_X9_newOperation : MI := (yX9_newOperation, cX9_newOperation, 8, (some .int), 2, 52, 9, 6, 11, k_X9_newOperation_0)
theorem sk_X9_newOperation_12 : sm_seek (mP M_X9_newOperation) 12 = k_X9_newOperation_12 := rfl
theorem sk_X9_newOperation_26 : sm_seek (mP M_X9_newOperation) 26 = k_X9_newOperation_26 := rfl
theorem sk_X9_newOperation_108 : sm_seek (mP M_X9_newOperation) 108 = k_X9_newOperation_108 := rfl
theorem sk_X9_newOperation_143 : sm_seek (mP M_X9_newOperation) 143 = k_X9_newOperation_143 := rfl
theorem sk_X9_newOperation_146 : sm_seek (mP M_X9_newOperation) 146 = k_X9_newOperation_146 := rfl
theorem sk_X9_newOperation_167 : sm_seek (mP M_X9_newOperation) 167 = k_X9_newOperation_167 := rfl
theorem sk_X9_newOperation_173 : sm_seek (mP M_X9_newOperation) 173 = k_X9_newOperation_173 := rfl
def k_X9_add_28 : List Ent := (28, .ireturn, 1, 0, 0, 0) :: []
def k_X9_add_26 : List Ent := (26, .bipush (-2), 2, 2, 1, 0) :: k_X9_add_28
def k_X9_add_0 : List Ent := (0, .iload_n 1, 1, 0, 0, 0) :: (1, .invokestatic 103, 3, 73, 0, 2) :: (4, .ifCond .eq 22, 3, 26, 0, 0) :: (7, .iload_n 2, 1, 0, 0, 0) :: (8, .invokestatic 107, 3, 74, 0, 2) :: (11, .ifCond .eq 15, 3, 26, 0, 0) :: (14, .aload_n 0, 1, 0, 0, 0) :: (15, .iload_n 1, 1, 0, 0, 0) :: (16, .iconst 0, 1, 0, 0, 0) :: (17, .iload_n 2, 1, 0, 0, 0) :: (18, .iload_n 3, 1, 0, 0, 0) :: (19, .iconst (-1), 1, 1, 1, 0) :: (20, .invokevirtual 110, 3, 81, 0, 0) :: (23, .goto 5, 3, 28, 0, 0) :: k_X9_add_26
def M_X9_add : MI := (yX9_add, cX9_add, 4, (some .int), 3, 79, 9, 4, 11, k_X9_add_0)
theorem sk_X9_add_26 : sm_seek (mP M_X9_add) 26 = k_X9_add_26 := rfl
theorem sk_X9_add_28 : sm_seek (mP M_X9_add) 28 = k_X9_add_28 := rfl
def k_X9_isElement_29 : List Ent := (29, .ireturn, 1, 0, 0, 0) :: []
def k_X9_isElement_28 : List Ent := (28, .iconst 0, 1, 0, 0, 0) :: k_X9_isElement_29
def k_X9_isElement_0 : List Ent := (0, .iload_n 0, 1, 0, 0, 0) :: (1, .invokestatic 103, 3, 73, 0, 2) :: (4, .ifCond .eq 24, 3, 28, 0, 0) :: (7, .iload_n 1, 1, 0, 0, 0) :: (8, .invokestatic 107, 3, 74, 0, 2) :: (11, .ifCond .eq 17, 3, 28, 0, 0) :: (14, .iload_n 2, 1, 0, 0, 0) :: (15, .iconst 0, 1, 0, 0, 0) :: (16, .bipush 31, 2, 31, 0, 0) :: (18, .invokestatic 84, 3, 72, 0, 2) :: (21, .ifCond .eq 7, 3, 28, 0, 0) :: (24, .iconst 1, 1, 1, 0, 0) :: (25, .goto 4, 3, 29, 0, 0) :: k_X9_isElement_28
def M_X9_isElement : MI := (yX9_isElement, cX9_isElement, 3, (some .boolean), 2, 42, 9, 3, 0, k_X9_isElement_0)
theorem sk_X9_isElement_28 : sm_seek (mP M_X9_isElement) 28 = k_X9_isElement_28 := rfl
theorem sk_X9_isElement_29 : sm_seek (mP M_X9_isElement) 29 = k_X9_isElement_29 := rfl
def k_X9_put_23 : List Ent := (23, .ireturn, 1, 0, 0, 0) :: []
def k_X9_put_21 : List Ent := (21, .bipush (-2), 2, 2, 1, 0) :: k_X9_put_23
def k_X9_put_0 : List Ent := (0, .iload_n 1, 1, 0, 0, 0) :: (1, .iload_n 2, 1, 0, 0, 0) :: (2, .iload_n 3, 1, 0, 0, 0) :: (3, .invokestatic 114, 3, 83, 0, 2) :: (6, .ifCond .eq 15, 3, 21, 0, 0) :: (9, .aload_n 0, 1, 0, 0, 0) :: (10, .iload_n 1, 1, 0, 0, 0) :: (11, .iconst 1, 1, 1, 0, 0) :: (12, .iload_n 2, 1, 0, 0, 0) :: (13, .iload_n 3, 1, 0, 0, 0) :: (14, .iconst (-1), 1, 1, 1, 0) :: (15, .invokevirtual 110, 3, 81, 0, 0) :: (18, .goto 5, 3, 23, 0, 0) :: k_X9_put_21
def M_X9_put : MI := (yX9_put, cX9_put, 4, (some .int), 3, 79, 9, 4, 11, k_X9_put_0)
theorem sk_X9_put_21 : sm_seek (mP M_X9_put) 21 = k_X9_put_21 := rfl
theorem sk_X9_put_23 : sm_seek (mP M_X9_put) 23 = k_X9_put_23 := rfl
def k_X9_take_23 : List Ent := (23, .ireturn, 1, 0, 0, 0) :: []
def k_X9_take_21 : List Ent := (21, .bipush (-2), 2, 2, 1, 0) :: k_X9_take_23
def k_X9_take_0 : List Ent := (0, .iload_n 1, 1, 0, 0, 0) :: (1, .iload_n 2, 1, 0, 0, 0) :: (2, .iload_n 3, 1, 0, 0, 0) :: (3, .invokestatic 114, 3, 83, 0, 2) :: (6, .ifCond .eq 15, 3, 21, 0, 0) :: (9, .aload_n 0, 1, 0, 0, 0) :: (10, .iload_n 1, 1, 0, 0, 0) :: (11, .iconst 2, 1, 2, 0, 0) :: (12, .iload_n 2, 1, 0, 0, 0) :: (13, .iload_n 3, 1, 0, 0, 0) :: (14, .iconst (-1), 1, 1, 1, 0) :: (15, .invokevirtual 110, 3, 81, 0, 0) :: (18, .goto 5, 3, 23, 0, 0) :: k_X9_take_21
def M_X9_take : MI := (yX9_take, cX9_take, 4, (some .int), 3, 79, 9, 4, 11, k_X9_take_0)
theorem sk_X9_take_21 : sm_seek (mP M_X9_take) 21 = k_X9_take_21 := rfl
theorem sk_X9_take_23 : sm_seek (mP M_X9_take) 23 = k_X9_take_23 := rfl
def k_X9_write_28 : List Ent := (28, .ireturn, 1, 0, 0, 0) :: []
def k_X9_write_26 : List Ent := (26, .bipush (-2), 2, 2, 1, 0) :: k_X9_write_28
def k_X9_write_0 : List Ent := (0, .iload_n 1, 1, 0, 0, 0) :: (1, .invokestatic 103, 3, 73, 0, 2) :: (4, .ifCond .eq 22, 3, 26, 0, 0) :: (7, .iload_n 2, 1, 0, 0, 0) :: (8, .invokestatic 107, 3, 74, 0, 2) :: (11, .ifCond .eq 15, 3, 26, 0, 0) :: (14, .aload_n 0, 1, 0, 0, 0) :: (15, .iload_n 1, 1, 0, 0, 0) :: (16, .iconst 3, 1, 3, 0, 0) :: (17, .iload_n 2, 1, 0, 0, 0) :: (18, .iload_n 3, 1, 0, 0, 0) :: (19, .iconst (-1), 1, 1, 1, 0) :: (20, .invokevirtual 110, 3, 81, 0, 0) :: (23, .goto 5, 3, 28, 0, 0) :: k_X9_write_26
def M_X9_write : MI := (yX9_write, cX9_write, 4, (some .int), 3, 79, 9, 4, 11, k_X9_write_0)
theorem sk_X9_write_26 : sm_seek (mP M_X9_write) 26 = k_X9_write_26 := rfl
theorem sk_X9_write_28 : sm_seek (mP M_X9_write) 28 = k_X9_write_28 := rfl
def k_X9_insert_72 : List Ent := (72, .invokevirtual 110, 3, 81, 0, 0) :: (75, .ireturn, 1, 0, 0, 0) :: []
def k_X9_insert_64 : List Ent := (64, .aload_n 0, 1, 0, 0, 0) :: (65, .getfield 71, 3, 10, 308, 1) :: (68, .iload_n 3, 1, 0, 0, 0) :: (69, .iconst 1, 1, 1, 0, 0) :: (70, .isub, 1, 0, 0, 0) :: (71, .iaload, 1, 0, 0, 0) :: k_X9_insert_72
def k_X9_insert_50 : List Ent := (50, .aload_n 0, 1, 0, 0, 0) :: (51, .iload_n 1, 1, 0, 0, 0) :: (52, .iconst 4, 1, 4, 0, 0) :: (53, .iload_n 2, 1, 0, 0, 0) :: (54, .iload 4, 2, 0, 0, 0) :: (56, .iload_n 3, 1, 0, 0, 0) :: (57, .ifCond .ne 7, 3, 64, 0, 0) :: (60, .iconst (-1), 1, 1, 1, 0) :: (61, .goto 11, 3, 72, 0, 0) :: k_X9_insert_64
def k_X9_insert_28 : List Ent := (28, .aload_n 0, 1, 0, 0, 0) :: (29, .iload_n 1, 1, 0, 0, 0) :: (30, .iload_n 2, 1, 0, 0, 0) :: (31, .iconst 0, 1, 0, 0, 0) :: (32, .invokevirtual 117, 3, 96, 0, 0) :: (35, .iload_n 3, 1, 0, 0, 0) :: (36, .iconst 0, 1, 0, 0, 0) :: (37, .aload_n 0, 1, 0, 0, 0) :: (38, .getfield 80, 3, 10, 309, 0) :: (41, .invokestatic 84, 3, 72, 0, 2) :: (44, .ifCond .ne 6, 3, 50, 0, 0) :: (47, .bipush (-2), 2, 2, 1, 0) :: (49, .ireturn, 1, 0, 0, 0) :: k_X9_insert_50
def k_X9_insert_25 : List Ent := (25, .bipush (-2), 2, 2, 1, 0) :: (27, .ireturn, 1, 0, 0, 0) :: k_X9_insert_28
def k_X9_insert_0 : List Ent := (0, .iload_n 1, 1, 0, 0, 0) :: (1, .invokestatic 103, 3, 73, 0, 2) :: (4, .ifCond .eq 21, 3, 25, 0, 0) :: (7, .iload_n 2, 1, 0, 0, 0) :: (8, .invokestatic 107, 3, 74, 0, 2) :: (11, .ifCond .eq 14, 3, 25, 0, 0) :: (14, .iload 4, 2, 0, 0, 0) :: (16, .iconst 1, 1, 1, 0, 0) :: (17, .bipush 127, 2, 127, 0, 0) :: (19, .invokestatic 84, 3, 72, 0, 2) :: (22, .ifCond .ne 6, 3, 28, 0, 0) :: k_X9_insert_25
def M_X9_insert : MI := (yX9_insert, cX9_insert, 5, (some .int), 4, 94, 9, 5, 11, k_X9_insert_0)
theorem sk_X9_insert_25 : sm_seek (mP M_X9_insert) 25 = k_X9_insert_25 := rfl
theorem sk_X9_insert_28 : sm_seek (mP M_X9_insert) 28 = k_X9_insert_28 := rfl
theorem sk_X9_insert_50 : sm_seek (mP M_X9_insert) 50 = k_X9_insert_50 := rfl
theorem sk_X9_insert_64 : sm_seek (mP M_X9_insert) 64 = k_X9_insert_64 := rfl
theorem sk_X9_insert_72 : sm_seek (mP M_X9_insert) 72 = k_X9_insert_72 := rfl
def k_X9_remove_41 : List Ent := (41, .aload_n 0, 1, 0, 0, 0) :: (42, .iload_n 1, 1, 0, 0, 0) :: (43, .iconst 5, 1, 5, 0, 0) :: (44, .iload_n 2, 1, 0, 0, 0) :: (45, .iconst 0, 1, 0, 0, 0) :: (46, .aload_n 0, 1, 0, 0, 0) :: (47, .getfield 71, 3, 10, 308, 1) :: (50, .iload_n 3, 1, 0, 0, 0) :: (51, .iaload, 1, 0, 0, 0) :: (52, .invokevirtual 110, 3, 81, 0, 0) :: (55, .ireturn, 1, 0, 0, 0) :: []
def k_X9_remove_17 : List Ent := (17, .aload_n 0, 1, 0, 0, 0) :: (18, .iload_n 1, 1, 0, 0, 0) :: (19, .iload_n 2, 1, 0, 0, 0) :: (20, .iconst 0, 1, 0, 0, 0) :: (21, .invokevirtual 117, 3, 96, 0, 0) :: (24, .iload_n 3, 1, 0, 0, 0) :: (25, .iconst 0, 1, 0, 0, 0) :: (26, .aload_n 0, 1, 0, 0, 0) :: (27, .getfield 80, 3, 10, 309, 0) :: (30, .iconst 1, 1, 1, 0, 0) :: (31, .isub, 1, 0, 0, 0) :: (32, .invokestatic 84, 3, 72, 0, 2) :: (35, .ifCond .ne 6, 3, 41, 0, 0) :: (38, .bipush (-2), 2, 2, 1, 0) :: (40, .ireturn, 1, 0, 0, 0) :: k_X9_remove_41
def k_X9_remove_14 : List Ent := (14, .bipush (-2), 2, 2, 1, 0) :: (16, .ireturn, 1, 0, 0, 0) :: k_X9_remove_17
def k_X9_remove_0 : List Ent := (0, .iload_n 1, 1, 0, 0, 0) :: (1, .invokestatic 103, 3, 73, 0, 2) :: (4, .ifCond .eq 10, 3, 14, 0, 0) :: (7, .iload_n 2, 1, 0, 0, 0) :: (8, .invokestatic 107, 3, 74, 0, 2) :: (11, .ifCond .ne 6, 3, 17, 0, 0) :: k_X9_remove_14
def M_X9_remove : MI := (yX9_remove, cX9_remove, 4, (some .int), 4, 94, 9, 4, 11, k_X9_remove_0)
theorem sk_X9_remove_14 : sm_seek (mP M_X9_remove) 14 = k_X9_remove_14 := rfl
theorem sk_X9_remove_17 : sm_seek (mP M_X9_remove) 17 = k_X9_remove_17 := rfl
theorem sk_X9_remove_41 : sm_seek (mP M_X9_remove) 41 = k_X9_remove_41 := rfl
def k_X9_counter_71 : List Ent := (71, .iload_n 3, 1, 0, 0, 0) :: (72, .ireturn, 1, 0, 0, 0) :: []
def k_X9_counter_64 : List Ent := (64, .istore_n 3, 1, 0, 0, 0) :: (65, .iinc 4 1, 3, 1, 0, 0) :: (68, .goto (-63), 3, 5, 0, 0) :: k_X9_counter_71
def k_X9_counter_63 : List Ent := (63, .iload_n 3, 1, 0, 0, 0) :: k_X9_counter_64
def k_X9_counter_5 : List Ent := (5, .iload 4, 2, 0, 0, 0) :: (7, .sipush 240, 3, 240, 0, 0) :: (10, .if_icmp .ge 61, 3, 71, 0, 0) :: (13, .iload_n 1, 1, 0, 0, 0) :: (14, .invokestatic 103, 3, 73, 0, 2) :: (17, .ifCond .eq 54, 3, 71, 0, 0) :: (20, .aload_n 0, 1, 0, 0, 0) :: (21, .iload_n 1, 1, 0, 0, 0) :: (22, .iload 4, 2, 0, 0, 0) :: (24, .invokevirtual 121, 3, 79, 0, 0) :: (27, .ifCond .eq 36, 3, 63, 0, 0) :: (30, .aload_n 0, 1, 0, 0, 0) :: (31, .getfield 13, 3, 10, 289, 1) :: (34, .iload 4, 2, 0, 0, 0) :: (36, .iaload, 1, 0, 0, 0) :: (37, .ifCond .ne 26, 3, 63, 0, 0) :: (40, .aload_n 0, 1, 0, 0, 0) :: (41, .getfield 16, 3, 10, 290, 1) :: (44, .iload 4, 2, 0, 0, 0) :: (46, .iaload, 1, 0, 0, 0) :: (47, .iload_n 2, 1, 0, 0, 0) :: (48, .if_icmp .ne 15, 3, 63, 0, 0) :: (51, .iload_n 3, 1, 0, 0, 0) :: (52, .aload_n 0, 1, 0, 0, 0) :: (53, .getfield 19, 3, 10, 291, 1) :: (56, .iload 4, 2, 0, 0, 0) :: (58, .iaload, 1, 0, 0, 0) :: (59, .iadd, 1, 0, 0, 0) :: (60, .goto 4, 3, 64, 0, 0) :: k_X9_counter_63
def k_X9_counter_0 : List Ent := (0, .iconst 0, 1, 0, 0, 0) :: (1, .istore_n 3, 1, 0, 0, 0) :: (2, .iconst 0, 1, 0, 0, 0) :: (3, .istore 4, 2, 0, 0, 0) :: k_X9_counter_5
def M_X9_counter : MI := (yX9_counter, cX9_counter, 5, (some .int), 2, 42, 9, 3, 11, k_X9_counter_0)
theorem sk_X9_counter_5 : sm_seek (mP M_X9_counter) 5 = k_X9_counter_5 := rfl
theorem sk_X9_counter_63 : sm_seek (mP M_X9_counter) 63 = k_X9_counter_63 := rfl
theorem sk_X9_counter_64 : sm_seek (mP M_X9_counter) 64 = k_X9_counter_64 := rfl
theorem sk_X9_counter_71 : sm_seek (mP M_X9_counter) 71 = k_X9_counter_71 := rfl
def k_X9_isTaken_87 : List Ent := (87, .iconst 0, 1, 0, 0, 0) :: (88, .ireturn, 1, 0, 0, 0) :: []
def k_X9_isTaken_81 : List Ent := (81, .iinc 3 1, 3, 1, 0, 0) :: (84, .goto (-82), 3, 2, 0, 0) :: k_X9_isTaken_87
def k_X9_isTaken_63 : List Ent := (63, .istore 4, 2, 0, 0, 0) :: (65, .iload 4, 2, 0, 0, 0) :: (67, .ifCond .eq 14, 3, 81, 0, 0) :: (70, .aload_n 0, 1, 0, 0, 0) :: (71, .iload_n 2, 1, 0, 0, 0) :: (72, .iload_n 3, 1, 0, 0, 0) :: (73, .invokevirtual 125, 3, 77, 0, 0) :: (76, .ifCond .eq 5, 3, 81, 0, 0) :: (79, .iconst 1, 1, 1, 0, 0) :: (80, .ireturn, 1, 0, 0, 0) :: k_X9_isTaken_81
def k_X9_isTaken_62 : List Ent := (62, .iconst 0, 1, 0, 0, 0) :: k_X9_isTaken_63
def k_X9_isTaken_2 : List Ent := (2, .iload_n 3, 1, 0, 0, 0) :: (3, .sipush 240, 3, 240, 0, 0) :: (6, .if_icmp .ge 81, 3, 87, 0, 0) :: (9, .aload_n 0, 1, 0, 0, 0) :: (10, .iload_n 1, 1, 0, 0, 0) :: (11, .iload_n 3, 1, 0, 0, 0) :: (12, .invokevirtual 121, 3, 79, 0, 0) :: (15, .ifCond .eq 47, 3, 62, 0, 0) :: (18, .aload_n 0, 1, 0, 0, 0) :: (19, .getfield 13, 3, 10, 289, 1) :: (22, .iload_n 3, 1, 0, 0, 0) :: (23, .iaload, 1, 0, 0, 0) :: (24, .iconst 2, 1, 2, 0, 0) :: (25, .if_icmp .ne 37, 3, 62, 0, 0) :: (28, .aload_n 0, 1, 0, 0, 0) :: (29, .getfield 16, 3, 10, 290, 1) :: (32, .iload_n 3, 1, 0, 0, 0) :: (33, .iaload, 1, 0, 0, 0) :: (34, .aload_n 0, 1, 0, 0, 0) :: (35, .getfield 16, 3, 10, 290, 1) :: (38, .iload_n 2, 1, 0, 0, 0) :: (39, .iaload, 1, 0, 0, 0) :: (40, .if_icmp .ne 22, 3, 62, 0, 0) :: (43, .aload_n 0, 1, 0, 0, 0) :: (44, .getfield 19, 3, 10, 291, 1) :: (47, .iload_n 3, 1, 0, 0, 0) :: (48, .iaload, 1, 0, 0, 0) :: (49, .aload_n 0, 1, 0, 0, 0) :: (50, .getfield 19, 3, 10, 291, 1) :: (53, .iload_n 2, 1, 0, 0, 0) :: (54, .iaload, 1, 0, 0, 0) :: (55, .if_icmp .ne 7, 3, 62, 0, 0) :: (58, .iconst 1, 1, 1, 0, 0) :: (59, .goto 4, 3, 63, 0, 0) :: k_X9_isTaken_62
def k_X9_isTaken_0 : List Ent := (0, .iconst 0, 1, 0, 0, 0) :: (1, .istore_n 3, 1, 0, 0, 0) :: k_X9_isTaken_2
def M_X9_isTaken : MI := (yX9_isTaken, cX9_isTaken, 5, (some .boolean), 2, 42, 9, 3, 11, k_X9_isTaken_0)
theorem sk_X9_isTaken_2 : sm_seek (mP M_X9_isTaken) 2 = k_X9_isTaken_2 := rfl
theorem sk_X9_isTaken_62 : sm_seek (mP M_X9_isTaken) 62 = k_X9_isTaken_62 := rfl
theorem sk_X9_isTaken_63 : sm_seek (mP M_X9_isTaken) 63 = k_X9_isTaken_63 := rfl
theorem sk_X9_isTaken_81 : sm_seek (mP M_X9_isTaken) 81 = k_X9_isTaken_81 := rfl
theorem sk_X9_isTaken_87 : sm_seek (mP M_X9_isTaken) 87 = k_X9_isTaken_87 := rfl
def k_X9_has_96 : List Ent := (96, .iconst 0, 1, 0, 0, 0) :: (97, .ireturn, 1, 0, 0, 0) :: []
def k_X9_has_90 : List Ent := (90, .iinc 4 1, 3, 1, 0, 0) :: (93, .goto (-78), 3, 15, 0, 0) :: k_X9_has_96
def k_X9_has_71 : List Ent := (71, .istore 5, 2, 0, 0, 0) :: (73, .iload 5, 2, 0, 0, 0) :: (75, .ifCond .eq 15, 3, 90, 0, 0) :: (78, .aload_n 0, 1, 0, 0, 0) :: (79, .iload_n 1, 1, 0, 0, 0) :: (80, .iload 4, 2, 0, 0, 0) :: (82, .invokevirtual 128, 3, 90, 0, 0) :: (85, .ifCond .ne 5, 3, 90, 0, 0) :: (88, .iconst 1, 1, 1, 0, 0) :: (89, .ireturn, 1, 0, 0, 0) :: k_X9_has_90
def k_X9_has_70 : List Ent := (70, .iconst 0, 1, 0, 0, 0) :: k_X9_has_71
def k_X9_has_15 : List Ent := (15, .iload 4, 2, 0, 0, 0) :: (17, .sipush 240, 3, 240, 0, 0) :: (20, .if_icmp .ge 76, 3, 96, 0, 0) :: (23, .aload_n 0, 1, 0, 0, 0) :: (24, .iload_n 1, 1, 0, 0, 0) :: (25, .iload 4, 2, 0, 0, 0) :: (27, .invokevirtual 121, 3, 79, 0, 0) :: (30, .ifCond .eq 40, 3, 70, 0, 0) :: (33, .aload_n 0, 1, 0, 0, 0) :: (34, .getfield 13, 3, 10, 289, 1) :: (37, .iload 4, 2, 0, 0, 0) :: (39, .iaload, 1, 0, 0, 0) :: (40, .iconst 1, 1, 1, 0, 0) :: (41, .if_icmp .ne 29, 3, 70, 0, 0) :: (44, .aload_n 0, 1, 0, 0, 0) :: (45, .getfield 16, 3, 10, 290, 1) :: (48, .iload 4, 2, 0, 0, 0) :: (50, .iaload, 1, 0, 0, 0) :: (51, .iload_n 2, 1, 0, 0, 0) :: (52, .if_icmp .ne 18, 3, 70, 0, 0) :: (55, .aload_n 0, 1, 0, 0, 0) :: (56, .getfield 19, 3, 10, 291, 1) :: (59, .iload 4, 2, 0, 0, 0) :: (61, .iaload, 1, 0, 0, 0) :: (62, .iload_n 3, 1, 0, 0, 0) :: (63, .if_icmp .ne 7, 3, 70, 0, 0) :: (66, .iconst 1, 1, 1, 0, 0) :: (67, .goto 4, 3, 71, 0, 0) :: k_X9_has_70
def k_X9_has_12 : List Ent := (12, .iconst 0, 1, 0, 0, 0) :: (13, .istore 4, 2, 0, 0, 0) :: k_X9_has_15
def k_X9_has_0 : List Ent := (0, .iload_n 1, 1, 0, 0, 0) :: (1, .iload_n 2, 1, 0, 0, 0) :: (2, .iload_n 3, 1, 0, 0, 0) :: (3, .invokestatic 114, 3, 83, 0, 2) :: (6, .ifCond .ne 6, 3, 12, 0, 0) :: (9, .bipush (-2), 2, 2, 1, 0) :: (11, .ireturn, 1, 0, 0, 0) :: k_X9_has_12
def M_X9_has : MI := (yX9_has, cX9_has, 6, (some .int), 3, 66, 9, 4, 11, k_X9_has_0)
theorem sk_X9_has_12 : sm_seek (mP M_X9_has) 12 = k_X9_has_12 := rfl
theorem sk_X9_has_15 : sm_seek (mP M_X9_has) 15 = k_X9_has_15 := rfl
theorem sk_X9_has_70 : sm_seek (mP M_X9_has) 70 = k_X9_has_70 := rfl
theorem sk_X9_has_71 : sm_seek (mP M_X9_has) 71 = k_X9_has_71 := rfl
theorem sk_X9_has_90 : sm_seek (mP M_X9_has) 90 = k_X9_has_90 := rfl
theorem sk_X9_has_96 : sm_seek (mP M_X9_has) 96 = k_X9_has_96 := rfl
def k_X9_size_46 : List Ent := (46, .iload_n 3, 1, 0, 0, 0) :: (47, .ireturn, 1, 0, 0, 0) :: []
def k_X9_size_22 : List Ent := (22, .iload 4, 2, 0, 0, 0) :: (24, .bipush 32, 2, 32, 0, 0) :: (26, .if_icmp .ge 20, 3, 46, 0, 0) :: (29, .iload_n 3, 1, 0, 0, 0) :: (30, .aload_n 0, 1, 0, 0, 0) :: (31, .iload_n 1, 1, 0, 0, 0) :: (32, .iload_n 2, 1, 0, 0, 0) :: (33, .iload 4, 2, 0, 0, 0) :: (35, .invokevirtual 131, 3, 91, 0, 0) :: (38, .iadd, 1, 0, 0, 0) :: (39, .istore_n 3, 1, 0, 0, 0) :: (40, .iinc 4 1, 3, 1, 0, 0) :: (43, .goto (-21), 3, 22, 0, 0) :: k_X9_size_46
def k_X9_size_17 : List Ent := (17, .iconst 0, 1, 0, 0, 0) :: (18, .istore_n 3, 1, 0, 0, 0) :: (19, .iconst 0, 1, 0, 0, 0) :: (20, .istore 4, 2, 0, 0, 0) :: k_X9_size_22
def k_X9_size_14 : List Ent := (14, .bipush (-2), 2, 2, 1, 0) :: (16, .ireturn, 1, 0, 0, 0) :: k_X9_size_17
def k_X9_size_0 : List Ent := (0, .iload_n 1, 1, 0, 0, 0) :: (1, .invokestatic 103, 3, 73, 0, 2) :: (4, .ifCond .eq 10, 3, 14, 0, 0) :: (7, .iload_n 2, 1, 0, 0, 0) :: (8, .invokestatic 107, 3, 74, 0, 2) :: (11, .ifCond .ne 6, 3, 17, 0, 0) :: k_X9_size_14
def M_X9_size : MI := (yX9_size, cX9_size, 5, (some .int), 4, 91, 9, 3, 11, k_X9_size_0)
theorem sk_X9_size_14 : sm_seek (mP M_X9_size) 14 = k_X9_size_14 := rfl
theorem sk_X9_size_17 : sm_seek (mP M_X9_size) 17 = k_X9_size_17 := rfl
theorem sk_X9_size_22 : sm_seek (mP M_X9_size) 22 = k_X9_size_22 := rfl
theorem sk_X9_size_46 : sm_seek (mP M_X9_size) 46 = k_X9_size_46 := rfl
def k_X9_register_105 : List Ent := (105, .ireturn, 1, 0, 0, 0) :: []
def k_X9_register_99 : List Ent := (99, .aload_n 0, 1, 0, 0, 0) :: (100, .getfield 19, 3, 10, 291, 1) :: (103, .iload_n 3, 1, 0, 0, 0) :: (104, .iaload, 1, 0, 0, 0) :: k_X9_register_105
def k_X9_register_91 : List Ent := (91, .iload_n 3, 1, 0, 0, 0) :: (92, .ifCond .ge 7, 3, 99, 0, 0) :: (95, .iconst 0, 1, 0, 0, 0) :: (96, .goto 9, 3, 105, 0, 0) :: k_X9_register_99
def k_X9_register_84 : List Ent := (84, .istore_n 3, 1, 0, 0, 0) :: (85, .iinc 4 1, 3, 1, 0, 0) :: (88, .goto (-83), 3, 5, 0, 0) :: k_X9_register_91
def k_X9_register_83 : List Ent := (83, .iload_n 3, 1, 0, 0, 0) :: k_X9_register_84
def k_X9_register_78 : List Ent := (78, .iload 4, 2, 0, 0, 0) :: (80, .goto 4, 3, 84, 0, 0) :: k_X9_register_83
def k_X9_register_57 : List Ent := (57, .istore 5, 2, 0, 0, 0) :: (59, .iload 5, 2, 0, 0, 0) :: (61, .ifCond .eq 22, 3, 83, 0, 0) :: (64, .iload_n 3, 1, 0, 0, 0) :: (65, .ifCond .lt 13, 3, 78, 0, 0) :: (68, .aload_n 0, 1, 0, 0, 0) :: (69, .iload 4, 2, 0, 0, 0) :: (71, .iload_n 3, 1, 0, 0, 0) :: (72, .invokevirtual 135, 3, 78, 0, 0) :: (75, .ifCond .eq 8, 3, 83, 0, 0) :: k_X9_register_78
def k_X9_register_56 : List Ent := (56, .iconst 0, 1, 0, 0, 0) :: k_X9_register_57
def k_X9_register_5 : List Ent := (5, .iload 4, 2, 0, 0, 0) :: (7, .sipush 240, 3, 240, 0, 0) :: (10, .if_icmp .ge 81, 3, 91, 0, 0) :: (13, .iload_n 1, 1, 0, 0, 0) :: (14, .invokestatic 103, 3, 73, 0, 2) :: (17, .ifCond .eq 74, 3, 91, 0, 0) :: (20, .aload_n 0, 1, 0, 0, 0) :: (21, .iload_n 1, 1, 0, 0, 0) :: (22, .iload 4, 2, 0, 0, 0) :: (24, .invokevirtual 121, 3, 79, 0, 0) :: (27, .ifCond .eq 29, 3, 56, 0, 0) :: (30, .aload_n 0, 1, 0, 0, 0) :: (31, .getfield 13, 3, 10, 289, 1) :: (34, .iload 4, 2, 0, 0, 0) :: (36, .iaload, 1, 0, 0, 0) :: (37, .iconst 3, 1, 3, 0, 0) :: (38, .if_icmp .ne 18, 3, 56, 0, 0) :: (41, .aload_n 0, 1, 0, 0, 0) :: (42, .getfield 16, 3, 10, 290, 1) :: (45, .iload 4, 2, 0, 0, 0) :: (47, .iaload, 1, 0, 0, 0) :: (48, .iload_n 2, 1, 0, 0, 0) :: (49, .if_icmp .ne 7, 3, 56, 0, 0) :: (52, .iconst 1, 1, 1, 0, 0) :: (53, .goto 4, 3, 57, 0, 0) :: k_X9_register_56
def k_X9_register_0 : List Ent := (0, .iconst (-1), 1, 1, 1, 0) :: (1, .istore_n 3, 1, 0, 0, 0) :: (2, .iconst 0, 1, 0, 0, 0) :: (3, .istore 4, 2, 0, 0, 0) :: k_X9_register_5
def M_X9_register : MI := (yX9_register, cX9_register, 6, (some .int), 2, 42, 9, 3, 11, k_X9_register_0)
theorem sk_X9_register_5 : sm_seek (mP M_X9_register) 5 = k_X9_register_5 := rfl
theorem sk_X9_register_56 : sm_seek (mP M_X9_register) 56 = k_X9_register_56 := rfl
theorem sk_X9_register_57 : sm_seek (mP M_X9_register) 57 = k_X9_register_57 := rfl
theorem sk_X9_register_78 : sm_seek (mP M_X9_register) 78 = k_X9_register_78 := rfl
theorem sk_X9_register_83 : sm_seek (mP M_X9_register) 83 = k_X9_register_83 := rfl
theorem sk_X9_register_84 : sm_seek (mP M_X9_register) 84 = k_X9_register_84 := rfl
theorem sk_X9_register_91 : sm_seek (mP M_X9_register) 91 = k_X9_register_91 := rfl
theorem sk_X9_register_99 : sm_seek (mP M_X9_register) 99 = k_X9_register_99 := rfl
theorem sk_X9_register_105 : sm_seek (mP M_X9_register) 105 = k_X9_register_105 := rfl
def k_X9_isRemoved_46 : List Ent := (46, .iconst 0, 1, 0, 0, 0) :: (47, .ireturn, 1, 0, 0, 0) :: []
def k_X9_isRemoved_40 : List Ent := (40, .iinc 3 1, 3, 1, 0, 0) :: (43, .goto (-41), 3, 2, 0, 0) :: k_X9_isRemoved_46
def k_X9_isRemoved_2 : List Ent := (2, .iload_n 3, 1, 0, 0, 0) :: (3, .sipush 240, 3, 240, 0, 0) :: (6, .if_icmp .ge 40, 3, 46, 0, 0) :: (9, .aload_n 0, 1, 0, 0, 0) :: (10, .iload_n 1, 1, 0, 0, 0) :: (11, .iload_n 3, 1, 0, 0, 0) :: (12, .invokevirtual 121, 3, 79, 0, 0) :: (15, .ifCond .eq 25, 3, 40, 0, 0) :: (18, .aload_n 0, 1, 0, 0, 0) :: (19, .getfield 13, 3, 10, 289, 1) :: (22, .iload_n 3, 1, 0, 0, 0) :: (23, .iaload, 1, 0, 0, 0) :: (24, .iconst 5, 1, 5, 0, 0) :: (25, .if_icmp .ne 15, 3, 40, 0, 0) :: (28, .aload_n 0, 1, 0, 0, 0) :: (29, .getfield 22, 3, 10, 292, 1) :: (32, .iload_n 3, 1, 0, 0, 0) :: (33, .iaload, 1, 0, 0, 0) :: (34, .iload_n 2, 1, 0, 0, 0) :: (35, .if_icmp .ne 5, 3, 40, 0, 0) :: (38, .iconst 1, 1, 1, 0, 0) :: (39, .ireturn, 1, 0, 0, 0) :: k_X9_isRemoved_40
def k_X9_isRemoved_0 : List Ent := (0, .iconst 0, 1, 0, 0, 0) :: (1, .istore_n 3, 1, 0, 0, 0) :: k_X9_isRemoved_2
def M_X9_isRemoved : MI := (yX9_isRemoved, cX9_isRemoved, 4, (some .boolean), 1, 22, 9, 3, 11, k_X9_isRemoved_0)
theorem sk_X9_isRemoved_2 : sm_seek (mP M_X9_isRemoved) 2 = k_X9_isRemoved_2 := rfl
theorem sk_X9_isRemoved_40 : sm_seek (mP M_X9_isRemoved) 40 = k_X9_isRemoved_40 := rfl
theorem sk_X9_isRemoved_46 : sm_seek (mP M_X9_isRemoved) 46 = k_X9_isRemoved_46 := rfl
def k_X9_pileUp_127 : List Ent := (127, .iload 5, 2, 0, 0, 0) :: (129, .ireturn, 1, 0, 0, 0) :: []
def k_X9_pileUp_121 : List Ent := (121, .iinc 6 1, 3, 1, 0, 0) :: (124, .goto (-117), 3, 7, 0, 0) :: k_X9_pileUp_127
def k_X9_pileUp_109 : List Ent := (109, .aload_n 0, 1, 0, 0, 0) :: (110, .getfield 74, 3, 10, 310, 1) :: (113, .iload 7, 2, 0, 0, 0) :: (115, .iload 6, 2, 0, 0, 0) :: (117, .iastore, 1, 0, 0, 0) :: (118, .iinc 5 1, 3, 1, 0, 0) :: k_X9_pileUp_121
def k_X9_pileUp_62 : List Ent := (62, .iload 7, 2, 0, 0, 0) :: (64, .iload 4, 2, 0, 0, 0) :: (66, .if_icmp .le 43, 3, 109, 0, 0) :: (69, .aload_n 0, 1, 0, 0, 0) :: (70, .aload_n 0, 1, 0, 0, 0) :: (71, .getfield 74, 3, 10, 310, 1) :: (74, .iload 7, 2, 0, 0, 0) :: (76, .iconst 1, 1, 1, 0, 0) :: (77, .isub, 1, 0, 0, 0) :: (78, .iaload, 1, 0, 0, 0) :: (79, .iload 6, 2, 0, 0, 0) :: (81, .invokevirtual 135, 3, 78, 0, 0) :: (84, .ifCond .eq 25, 3, 109, 0, 0) :: (87, .aload_n 0, 1, 0, 0, 0) :: (88, .getfield 74, 3, 10, 310, 1) :: (91, .iload 7, 2, 0, 0, 0) :: (93, .aload_n 0, 1, 0, 0, 0) :: (94, .getfield 74, 3, 10, 310, 1) :: (97, .iload 7, 2, 0, 0, 0) :: (99, .iconst 1, 1, 1, 0, 0) :: (100, .isub, 1, 0, 0, 0) :: (101, .iaload, 1, 0, 0, 0) :: (102, .iastore, 1, 0, 0, 0) :: (103, .iinc 7 (-1), 3, 1, 1, 0) :: (106, .goto (-44), 3, 62, 0, 0) :: k_X9_pileUp_109
def k_X9_pileUp_7 : List Ent := (7, .iload 6, 2, 0, 0, 0) :: (9, .sipush 240, 3, 240, 0, 0) :: (12, .if_icmp .ge 115, 3, 127, 0, 0) :: (15, .aload_n 0, 1, 0, 0, 0) :: (16, .iload_n 1, 1, 0, 0, 0) :: (17, .iload 6, 2, 0, 0, 0) :: (19, .invokevirtual 121, 3, 79, 0, 0) :: (22, .ifCond .eq 99, 3, 121, 0, 0) :: (25, .aload_n 0, 1, 0, 0, 0) :: (26, .getfield 13, 3, 10, 289, 1) :: (29, .iload 6, 2, 0, 0, 0) :: (31, .iaload, 1, 0, 0, 0) :: (32, .iconst 4, 1, 4, 0, 0) :: (33, .if_icmp .ne 88, 3, 121, 0, 0) :: (36, .aload_n 0, 1, 0, 0, 0) :: (37, .getfield 16, 3, 10, 290, 1) :: (40, .iload 6, 2, 0, 0, 0) :: (42, .iaload, 1, 0, 0, 0) :: (43, .iload_n 2, 1, 0, 0, 0) :: (44, .if_icmp .ne 77, 3, 121, 0, 0) :: (47, .aload_n 0, 1, 0, 0, 0) :: (48, .getfield 22, 3, 10, 292, 1) :: (51, .iload 6, 2, 0, 0, 0) :: (53, .iaload, 1, 0, 0, 0) :: (54, .iload_n 3, 1, 0, 0, 0) :: (55, .if_icmp .ne 66, 3, 121, 0, 0) :: (58, .iload 5, 2, 0, 0, 0) :: (60, .istore 7, 2, 0, 0, 0) :: k_X9_pileUp_62
def k_X9_pileUp_0 : List Ent := (0, .iload 4, 2, 0, 0, 0) :: (2, .istore 5, 2, 0, 0, 0) :: (4, .iconst 0, 1, 0, 0, 0) :: (5, .istore 6, 2, 0, 0, 0) :: k_X9_pileUp_7
def M_X9_pileUp : MI := (yX9_pileUp, cX9_pileUp, 8, (some .int), 2, 42, 9, 5, 11, k_X9_pileUp_0)
theorem sk_X9_pileUp_7 : sm_seek (mP M_X9_pileUp) 7 = k_X9_pileUp_7 := rfl
theorem sk_X9_pileUp_62 : sm_seek (mP M_X9_pileUp) 62 = k_X9_pileUp_62 := rfl
theorem sk_X9_pileUp_109 : sm_seek (mP M_X9_pileUp) 109 = k_X9_pileUp_109 := rfl
theorem sk_X9_pileUp_121 : sm_seek (mP M_X9_pileUp) 121 = k_X9_pileUp_121 := rfl
theorem sk_X9_pileUp_127 : sm_seek (mP M_X9_pileUp) 127 = k_X9_pileUp_127 := rfl
def k_X9_lay_82 : List Ent := (82, .return_, 1, 0, 0, 0) :: []
def k_X9_lay_67 : List Ent := (67, .aload_n 0, 1, 0, 0, 0) :: (68, .iload_n 1, 1, 0, 0, 0) :: (69, .iload_n 2, 1, 0, 0, 0) :: (70, .iload 5, 2, 0, 0, 0) :: (72, .iload 4, 2, 0, 0, 0) :: (74, .invokevirtual 138, 3, 95, 0, 0) :: (77, .istore 4, 2, 0, 0, 0) :: (79, .goto (-64), 3, 15, 0, 0) :: k_X9_lay_82
def k_X9_lay_46 : List Ent := (46, .aload_n 0, 1, 0, 0, 0) :: (47, .getfield 71, 3, 10, 308, 1) :: (50, .aload_n 0, 1, 0, 0, 0) :: (51, .getfield 80, 3, 10, 309, 0) :: (54, .iload 5, 2, 0, 0, 0) :: (56, .iastore, 1, 0, 0, 0) :: (57, .aload_n 0, 1, 0, 0, 0) :: (58, .dup, 1, 0, 0, 0) :: (59, .getfield 80, 3, 10, 309, 0) :: (62, .iconst 1, 1, 1, 0, 0) :: (63, .iadd, 1, 0, 0, 0) :: (64, .putfield 80, 3, 10, 309, 0) :: k_X9_lay_67
def k_X9_lay_15 : List Ent := (15, .iload 4, 2, 0, 0, 0) :: (17, .ifCond .le 65, 3, 82, 0, 0) :: (20, .iinc 4 (-1), 3, 1, 1, 0) :: (23, .aload_n 0, 1, 0, 0, 0) :: (24, .getfield 74, 3, 10, 310, 1) :: (27, .iload 4, 2, 0, 0, 0) :: (29, .iaload, 1, 0, 0, 0) :: (30, .istore 5, 2, 0, 0, 0) :: (32, .iload_n 3, 1, 0, 0, 0) :: (33, .ifCond .ne 13, 3, 46, 0, 0) :: (36, .aload_n 0, 1, 0, 0, 0) :: (37, .iload_n 1, 1, 0, 0, 0) :: (38, .iload 5, 2, 0, 0, 0) :: (40, .invokevirtual 142, 3, 94, 0, 0) :: (43, .ifCond .ne 24, 3, 67, 0, 0) :: k_X9_lay_46
def k_X9_lay_0 : List Ent := (0, .aload_n 0, 1, 0, 0, 0) :: (1, .iconst 0, 1, 0, 0, 0) :: (2, .putfield 80, 3, 10, 309, 0) :: (5, .aload_n 0, 1, 0, 0, 0) :: (6, .iload_n 1, 1, 0, 0, 0) :: (7, .iload_n 2, 1, 0, 0, 0) :: (8, .iconst (-1), 1, 1, 1, 0) :: (9, .iconst 0, 1, 0, 0, 0) :: (10, .invokevirtual 138, 3, 95, 0, 0) :: (13, .istore 4, 2, 0, 0, 0) :: k_X9_lay_15
def M_X9_lay : MI := (yX9_lay, cX9_lay, 6, none, 3, 69, 9, 4, 11, k_X9_lay_0)
theorem sk_X9_lay_15 : sm_seek (mP M_X9_lay) 15 = k_X9_lay_15 := rfl
theorem sk_X9_lay_46 : sm_seek (mP M_X9_lay) 46 = k_X9_lay_46 := rfl
theorem sk_X9_lay_67 : sm_seek (mP M_X9_lay) 67 = k_X9_lay_67 := rfl
theorem sk_X9_lay_82 : sm_seek (mP M_X9_lay) 82 = k_X9_lay_82 := rfl
