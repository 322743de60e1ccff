def k_X0_init_0 : List Ent := (0, .aload_n 0, 1, 0, 0, 0) :: (1, .invokespecial 1, 3, 1000, 0, 1) :: (4, .aload_n 0, 1, 0, 0, 0) :: (5, .iload_n 1, 1, 0, 0, 0) :: (6, .putfield 7, 3, 1, 0, 0) :: (9, .aload_n 0, 1, 0, 0, 0) :: (10, .iload_n 2, 1, 0, 0, 0) :: (11, .putfield 13, 3, 1, 1, 0) :: (14, .aload_n 0, 1, 0, 0, 0) :: (15, .iload_n 3, 1, 0, 0, 0) :: (16, .putfield 16, 3, 1, 2, 0) :: (19, .aload_n 0, 1, 0, 0, 0) :: (20, .aload 4, 2, 0, 0, 0) :: (22, .putfield 19, 3, 1, 3, 1) :: (25, .return_, 1, 0, 0, 0) :: []
def M_X0_init : MI := (yX0_init, cX0_init, 5, none, 1, 28, 0, 5, 1, k_X0_init_0)
def k_X1_init_0 : List Ent := (0, .aload_n 0, 1, 0, 0, 0) :: (1, .invokespecial 3, 3, 1000, 0, 1) :: (4, .aload_n 0, 1, 0, 0, 0) :: (5, .aload_n 1, 1, 0, 0, 0) :: (6, .putfield 9, 3, 2, 32, 1) :: (9, .return_, 1, 0, 0, 0) :: []
def M_X1_init : MI := (yX1_init, cX1_init, 2, none, 1, 28, 1, 2, 1, k_X1_init_0)
def k_X1_covers_21 : List Ent := (21, .ireturn, 1, 0, 0, 0) :: []
def k_X1_covers_20 : List Ent := (20, .iconst 0, 1, 0, 0, 0) :: k_X1_covers_21
def k_X1_covers_0 : List Ent := (0, .aload_n 0, 1, 0, 0, 0) :: (1, .getfield 9, 3, 2, 32, 1) :: (4, .aload_n 1, 1, 0, 0, 0) :: (5, .getfield 15, 3, 5, 129, 0) :: (8, .iaload, 1, 0, 0, 0) :: (9, .aload_n 1, 1, 0, 0, 0) :: (10, .getfield 21, 3, 5, 130, 0) :: (13, .if_icmp .lt 7, 3, 20, 0, 0) :: (16, .iconst 1, 1, 1, 0, 0) :: (17, .goto 4, 3, 21, 0, 0) :: k_X1_covers_20
def M_X1_covers : MI := (yX1_covers, cX1_covers, 2, (some .boolean), 0, 0, 1, 2, 3, k_X1_covers_0)
theorem sk_X1_covers_20 : sm_seek (mP M_X1_covers) 20 = k_X1_covers_20 := rfl
theorem sk_X1_covers_21 : sm_seek (mP M_X1_covers) 21 = k_X1_covers_21 := rfl
def k_X1_raiseTo_34 : List Ent := (34, .return_, 1, 0, 0, 0) :: []
def k_X1_raiseTo_2 : List Ent := (2, .iload_n 2, 1, 0, 0, 0) :: (3, .iconst 4, 1, 4, 0, 0) :: (4, .if_icmp .ge 30, 3, 34, 0, 0) :: (7, .aload_n 0, 1, 0, 0, 0) :: (8, .getfield 9, 3, 2, 32, 1) :: (11, .iload_n 2, 1, 0, 0, 0) :: (12, .aload_n 0, 1, 0, 0, 0) :: (13, .getfield 9, 3, 2, 32, 1) :: (16, .iload_n 2, 1, 0, 0, 0) :: (17, .iaload, 1, 0, 0, 0) :: (18, .aload_n 1, 1, 0, 0, 0) :: (19, .getfield 9, 3, 2, 32, 1) :: (22, .iload_n 2, 1, 0, 0, 0) :: (23, .iaload, 1, 0, 0, 0) :: (24, .invokestatic 24, 3, 1004, 0, 2) :: (27, .iastore, 1, 0, 0, 0) :: (28, .iinc 2 1, 3, 1, 0, 0) :: (31, .goto (-29), 3, 2, 0, 0) :: k_X1_raiseTo_34
def k_X1_raiseTo_0 : List Ent := (0, .iconst 0, 1, 0, 0, 0) :: (1, .istore_n 2, 1, 0, 0, 0) :: k_X1_raiseTo_2
def M_X1_raiseTo : MI := (yX1_raiseTo, cX1_raiseTo, 3, none, 1, 28, 1, 2, 3, k_X1_raiseTo_0)
theorem sk_X1_raiseTo_2 : sm_seek (mP M_X1_raiseTo) 2 = k_X1_raiseTo_2 := rfl
theorem sk_X1_raiseTo_34 : sm_seek (mP M_X1_raiseTo) 34 = k_X1_raiseTo_34 := rfl
def k_X2_init_0 : List Ent := (0, .aload_n 0, 1, 0, 0, 0) :: (1, .invokespecial 1, 3, 1000, 0, 1) :: (4, .aload_n 0, 1, 0, 0, 0) :: (5, .aload_n 1, 1, 0, 0, 0) :: (6, .putfield 7, 3, 3, 64, 1) :: (9, .return_, 1, 0, 0, 0) :: []
def M_X2_init : MI := (yX2_init, cX2_init, 2, none, 1, 28, 2, 2, 1, k_X2_init_0)
def k_X3_init_0 : List Ent := (0, .aload_n 0, 1, 0, 0, 0) :: (1, .invokespecial 3, 3, 1000, 0, 1) :: (4, .aload_n 0, 1, 0, 0, 0) :: (5, .iconst 0, 1, 0, 0, 0) :: (6, .putfield 9, 3, 4, 96, 0) :: (9, .aload_n 0, 1, 0, 0, 0) :: (10, .aload_n 1, 1, 0, 0, 0) :: (11, .getfield 15, 3, 5, 129, 0) :: (14, .putfield 20, 3, 4, 97, 0) :: (17, .aload_n 0, 1, 0, 0, 0) :: (18, .aload_n 1, 1, 0, 0, 0) :: (19, .getfield 23, 3, 5, 132, 1) :: (22, .putfield 27, 3, 4, 98, 1) :: (25, .aload_n 0, 1, 0, 0, 0) :: (26, .aload_n 1, 1, 0, 0, 0) :: (27, .putfield 28, 3, 4, 99, 1) :: (30, .return_, 1, 0, 0, 0) :: []
def M_X3_init : MI := (yX3_init, cX3_init, 2, none, 1, 28, 3, 2, 1, k_X3_init_0)
def k_X3_init__0 : List Ent := (0, .aload_n 0, 1, 0, 0, 0) :: (1, .invokespecial 3, 3, 1000, 0, 1) :: (4, .aload_n 0, 1, 0, 0, 0) :: (5, .iload_n 1, 1, 0, 0, 0) :: (6, .putfield 9, 3, 4, 96, 0) :: (9, .aload_n 0, 1, 0, 0, 0) :: (10, .iload_n 2, 1, 0, 0, 0) :: (11, .putfield 20, 3, 4, 97, 0) :: (14, .aload_n 0, 1, 0, 0, 0) :: (15, .aload_n 3, 1, 0, 0, 0) :: (16, .putfield 27, 3, 4, 98, 1) :: (19, .aload_n 0, 1, 0, 0, 0) :: (20, .aconst_null, 1, 0, 0, 0) :: (21, .putfield 28, 3, 4, 99, 1) :: (24, .return_, 1, 0, 0, 0) :: []
def M_X3_init_ : MI := (yX3_init_, cX3_init_, 4, none, 1, 28, 3, 4, 1, k_X3_init__0)
def k_X4_init_0 : List Ent := (0, .aload_n 0, 1, 0, 0, 0) :: (1, .invokespecial 1, 3, 1000, 0, 1) :: (4, .aload_n 0, 1, 0, 0, 0) :: (5, .aload_n 1, 1, 0, 0, 0) :: (6, .putfield 7, 3, 5, 128, 1) :: (9, .aload_n 0, 1, 0, 0, 0) :: (10, .iload_n 2, 1, 0, 0, 0) :: (11, .putfield 13, 3, 5, 129, 0) :: (14, .aload_n 0, 1, 0, 0, 0) :: (15, .aload 4, 2, 0, 0, 0) :: (17, .getfield 17, 3, 2, 32, 1) :: (20, .iload_n 2, 1, 0, 0, 0) :: (21, .iaload, 1, 0, 0, 0) :: (22, .putfield 23, 3, 5, 130, 0) :: (25, .aload_n 0, 1, 0, 0, 0) :: (26, .iload_n 3, 1, 0, 0, 0) :: (27, .putfield 26, 3, 5, 131, 0) :: (30, .aload_n 0, 1, 0, 0, 0) :: (31, .aload 4, 2, 0, 0, 0) :: (33, .putfield 29, 3, 5, 132, 1) :: (36, .return_, 1, 0, 0, 0) :: []
def M_X4_init : MI := (yX4_init, cX4_init, 5, none, 1, 28, 4, 5, 1, k_X4_init_0)
def k_X4_hasGreaterMarkThan_38 : List Ent := (38, .ireturn, 1, 0, 0, 0) :: []
def k_X4_hasGreaterMarkThan_37 : List Ent := (37, .iconst 0, 1, 0, 0, 0) :: k_X4_hasGreaterMarkThan_38
def k_X4_hasGreaterMarkThan_33 : List Ent := (33, .iconst 1, 1, 1, 0, 0) :: (34, .goto 4, 3, 38, 0, 0) :: k_X4_hasGreaterMarkThan_37
def k_X4_hasGreaterMarkThan_0 : List Ent := (0, .aload_n 0, 1, 0, 0, 0) :: (1, .getfield 26, 3, 5, 131, 0) :: (4, .aload_n 1, 1, 0, 0, 0) :: (5, .getfield 26, 3, 5, 131, 0) :: (8, .if_icmp .gt 25, 3, 33, 0, 0) :: (11, .aload_n 0, 1, 0, 0, 0) :: (12, .getfield 26, 3, 5, 131, 0) :: (15, .aload_n 1, 1, 0, 0, 0) :: (16, .getfield 26, 3, 5, 131, 0) :: (19, .if_icmp .ne 18, 3, 37, 0, 0) :: (22, .aload_n 0, 1, 0, 0, 0) :: (23, .getfield 13, 3, 5, 129, 0) :: (26, .aload_n 1, 1, 0, 0, 0) :: (27, .getfield 13, 3, 5, 129, 0) :: (30, .if_icmp .le 7, 3, 37, 0, 0) :: k_X4_hasGreaterMarkThan_33
def M_X4_hasGreaterMarkThan : MI := (yX4_hasGreaterMarkThan, cX4_hasGreaterMarkThan, 2, (some .boolean), 0, 0, 4, 2, 6, k_X4_hasGreaterMarkThan_0)
theorem sk_X4_hasGreaterMarkThan_33 : sm_seek (mP M_X4_hasGreaterMarkThan) 33 = k_X4_hasGreaterMarkThan_33 := rfl
theorem sk_X4_hasGreaterMarkThan_37 : sm_seek (mP M_X4_hasGreaterMarkThan) 37 = k_X4_hasGreaterMarkThan_37 := rfl
theorem sk_X4_hasGreaterMarkThan_38 : sm_seek (mP M_X4_hasGreaterMarkThan) 38 = k_X4_hasGreaterMarkThan_38 := rfl
def k_X4_isOfSameElementAs_39 : List Ent := (39, .ireturn, 1, 0, 0, 0) :: []
def k_X4_isOfSameElementAs_38 : List Ent := (38, .iconst 0, 1, 0, 0, 0) :: k_X4_isOfSameElementAs_39
def k_X4_isOfSameElementAs_0 : List Ent := (0, .aload_n 0, 1, 0, 0, 0) :: (1, .getfield 7, 3, 5, 128, 1) :: (4, .getfield 33, 3, 1, 1, 0) :: (7, .aload_n 1, 1, 0, 0, 0) :: (8, .getfield 7, 3, 5, 128, 1) :: (11, .getfield 33, 3, 1, 1, 0) :: (14, .if_icmp .ne 24, 3, 38, 0, 0) :: (17, .aload_n 0, 1, 0, 0, 0) :: (18, .getfield 7, 3, 5, 128, 1) :: (21, .getfield 38, 3, 1, 2, 0) :: (24, .aload_n 1, 1, 0, 0, 0) :: (25, .getfield 7, 3, 5, 128, 1) :: (28, .getfield 38, 3, 1, 2, 0) :: (31, .if_icmp .ne 7, 3, 38, 0, 0) :: (34, .iconst 1, 1, 1, 0, 0) :: (35, .goto 4, 3, 39, 0, 0) :: k_X4_isOfSameElementAs_38
def M_X4_isOfSameElementAs : MI := (yX4_isOfSameElementAs, cX4_isOfSameElementAs, 2, (some .boolean), 0, 0, 4, 2, 6, k_X4_isOfSameElementAs_0)
theorem sk_X4_isOfSameElementAs_38 : sm_seek (mP M_X4_isOfSameElementAs) 38 = k_X4_isOfSameElementAs_38 := rfl
theorem sk_X4_isOfSameElementAs_39 : sm_seek (mP M_X4_isOfSameElementAs) 39 = k_X4_isOfSameElementAs_39 := rfl
def k_X5_init_146 : List Ent := (146, .return_, 1, 0, 0, 0) :: []
def k_X5_init_118 : List Ent := (118, .iload_n 2, 1, 0, 0, 0) :: (119, .aload_n 0, 1, 0, 0, 0) :: (120, .getfield 36, 3, 6, 165, 1) :: (123, .arraylength, 1, 0, 0, 0) :: (124, .if_icmp .ge 22, 3, 146, 0, 0) :: (127, .aload_n 0, 1, 0, 0, 0) :: (128, .getfield 36, 3, 6, 165, 1) :: (131, .iload_n 2, 1, 0, 0, 0) :: (132, .new 34, 3, 7, 1, 0) :: (135, .dup, 1, 0, 0, 0) :: (136, .invokespecial 60, 3, 26, 0, 3) :: (139, .aastore, 1, 0, 0, 0) :: (140, .iinc 2 1, 3, 1, 0, 0) :: (143, .goto (-25), 3, 118, 0, 0) :: k_X5_init_146
def k_X5_init_116 : List Ent := (116, .iconst 0, 1, 0, 0, 0) :: (117, .istore_n 2, 1, 0, 0, 0) :: k_X5_init_118
def k_X5_init_85 : List Ent := (85, .iload_n 2, 1, 0, 0, 0) :: (86, .aload_n 0, 1, 0, 0, 0) :: (87, .getfield 11, 3, 6, 161, 1) :: (90, .arraylength, 1, 0, 0, 0) :: (91, .if_icmp .ge 25, 3, 116, 0, 0) :: (94, .aload_n 0, 1, 0, 0, 0) :: (95, .getfield 11, 3, 6, 161, 1) :: (98, .iload_n 2, 1, 0, 0, 0) :: (99, .new 9, 3, 2, 1, 0) :: (102, .dup, 1, 0, 0, 0) :: (103, .iconst 4, 1, 4, 0, 0) :: (104, .newarray .int, 2, 20, 0, 0) :: (106, .invokespecial 57, 3, 1, 0, 1) :: (109, .aastore, 1, 0, 0, 0) :: (110, .iinc 2 1, 3, 1, 0, 0) :: (113, .goto (-28), 3, 85, 0, 0) :: k_X5_init_116
def k_X5_init_0 : List Ent := (0, .aload_n 0, 1, 0, 0, 0) :: (1, .invokespecial 3, 3, 1000, 0, 1) :: (4, .aload_n 0, 1, 0, 0, 0) :: (5, .iconst 4, 1, 4, 0, 0) :: (6, .anewarray 9, 3, 25, 0, 0) :: (9, .putfield 11, 3, 6, 161, 1) :: (12, .aload_n 0, 1, 0, 0, 0) :: (13, .iconst 2, 1, 2, 0, 0) :: (14, .newarray .int, 2, 20, 0, 0) :: (16, .putfield 17, 3, 6, 162, 1) :: (19, .aload_n 0, 1, 0, 0, 0) :: (20, .new 21, 3, 11, 3, 0) :: (23, .dup, 1, 0, 0, 0) :: (24, .invokespecial 23, 3, 128, 0, 1) :: (27, .putfield 24, 3, 6, 163, 1) :: (30, .aload_n 0, 1, 0, 0, 0) :: (31, .iconst 2, 1, 2, 0, 0) :: (32, .anewarray 28, 3, 26, 0, 0) :: (35, .putfield 30, 3, 6, 164, 1) :: (38, .aload_n 0, 1, 0, 0, 0) :: (39, .iconst 2, 1, 2, 0, 0) :: (40, .anewarray 34, 3, 27, 0, 0) :: (43, .putfield 36, 3, 6, 165, 1) :: (46, .aload_n 0, 1, 0, 0, 0) :: (47, .new 21, 3, 11, 3, 0) :: (50, .dup, 1, 0, 0, 0) :: (51, .invokespecial 23, 3, 128, 0, 1) :: (54, .putfield 40, 3, 6, 166, 1) :: (57, .aload_n 0, 1, 0, 0, 0) :: (58, .new 21, 3, 11, 3, 0) :: (61, .dup, 1, 0, 0, 0) :: (62, .invokespecial 23, 3, 128, 0, 1) :: (65, .putfield 43, 3, 6, 167, 1) :: (68, .aload_n 0, 1, 0, 0, 0) :: (69, .iconst 0, 1, 0, 0, 0) :: (70, .putfield 46, 3, 6, 168, 0) :: (73, .aload_n 0, 1, 0, 0, 0) :: (74, .iconst 1, 1, 1, 0, 0) :: (75, .putfield 50, 3, 6, 169, 2) :: (78, .aload_n 0, 1, 0, 0, 0) :: (79, .iload_n 1, 1, 0, 0, 0) :: (80, .putfield 54, 3, 6, 160, 0) :: (83, .iconst 0, 1, 0, 0, 0) :: (84, .istore_n 2, 1, 0, 0, 0) :: k_X5_init_85
def M_X5_init : MI := (yX5_init, cX5_init, 3, none, 4, 88, 5, 2, 1, k_X5_init_0)
theorem sk_X5_init_85 : sm_seek (mP M_X5_init) 85 = k_X5_init_85 := rfl
theorem sk_X5_init_116 : sm_seek (mP M_X5_init) 116 = k_X5_init_116 := rfl
theorem sk_X5_init_118 : sm_seek (mP M_X5_init) 118 = k_X5_init_118 := rfl
theorem sk_X5_init_146 : sm_seek (mP M_X5_init) 146 = k_X5_init_146 := rfl
def k_X5_hasMostOperations_27 : List Ent := (27, .ireturn, 1, 0, 0, 0) :: []
def k_X5_hasMostOperations_26 : List Ent := (26, .iconst 0, 1, 0, 0, 0) :: k_X5_hasMostOperations_27
def k_X5_hasMostOperations_0 : List Ent := (0, .aload_n 0, 1, 0, 0, 0) :: (1, .getfield 11, 3, 6, 161, 1) :: (4, .aload_n 0, 1, 0, 0, 0) :: (5, .getfield 54, 3, 6, 160, 0) :: (8, .aaload, 1, 0, 0, 0) :: (9, .getfield 61, 3, 2, 32, 1) :: (12, .aload_n 0, 1, 0, 0, 0) :: (13, .getfield 54, 3, 6, 160, 0) :: (16, .iaload, 1, 0, 0, 0) :: (17, .bipush 60, 2, 60, 0, 0) :: (19, .if_icmp .lt 7, 3, 26, 0, 0) :: (22, .iconst 1, 1, 1, 0, 0) :: (23, .goto 4, 3, 27, 0, 0) :: k_X5_hasMostOperations_26
def M_X5_hasMostOperations : MI := (yX5_hasMostOperations, cX5_hasMostOperations, 1, (some .boolean), 0, 0, 5, 1, 7, k_X5_hasMostOperations_0)
theorem sk_X5_hasMostOperations_26 : sm_seek (mP M_X5_hasMostOperations) 26 = k_X5_hasMostOperations_26 := rfl
theorem sk_X5_hasMostOperations_27 : sm_seek (mP M_X5_hasMostOperations) 27 = k_X5_hasMostOperations_27 := rfl
def k_X5_ownClock_0 : List Ent := (0, .new 9, 3, 2, 1, 0) :: (3, .dup, 1, 0, 0, 0) :: (4, .aload_n 0, 1, 0, 0, 0) :: (5, .getfield 11, 3, 6, 161, 1) :: (8, .aload_n 0, 1, 0, 0, 0) :: (9, .getfield 54, 3, 6, 160, 0) :: (12, .aaload, 1, 0, 0, 0) :: (13, .getfield 61, 3, 2, 32, 1) :: (16, .invokevirtual 64, 3, 1001, 0, 0) :: (19, .checkcast 65, 3, 20, 0, 0) :: (22, .invokespecial 57, 3, 1, 0, 1) :: (25, .areturn, 1, 0, 0, 0) :: []
def M_X5_ownClock : MI := (yX5_ownClock, cX5_ownClock, 1, (some (.object "ReplicaStore$Clock")), 2, 49, 5, 1, 7, k_X5_ownClock_0)
def k_X5_elementBits_56 : List Ent := (56, .iload_n 2, 1, 0, 0, 0) :: (57, .ireturn, 1, 0, 0, 0) :: []
def k_X5_elementBits_50 : List Ent := (50, .iinc 3 1, 3, 1, 0, 0) :: (53, .goto (-49), 3, 4, 0, 0) :: k_X5_elementBits_56
def k_X5_elementBits_4 : List Ent := (4, .iload_n 3, 1, 0, 0, 0) :: (5, .aload_n 0, 1, 0, 0, 0) :: (6, .getfield 24, 3, 6, 163, 1) :: (9, .invokevirtual 69, 3, 131, 0, 0) :: (12, .if_icmp .ge 44, 3, 56, 0, 0) :: (15, .aload_n 0, 1, 0, 0, 0) :: (16, .getfield 24, 3, 6, 163, 1) :: (19, .iload_n 3, 1, 0, 0, 0) :: (20, .invokevirtual 73, 3, 134, 0, 0) :: (23, .checkcast 28, 3, 5, 0, 0) :: (26, .getfield 77, 3, 5, 128, 1) :: (29, .astore 4, 2, 0, 0, 0) :: (31, .aload 4, 2, 0, 0, 0) :: (33, .getfield 81, 3, 1, 1, 0) :: (36, .iload_n 1, 1, 0, 0, 0) :: (37, .if_icmp .ne 13, 3, 50, 0, 0) :: (40, .iload_n 2, 1, 0, 0, 0) :: (41, .iconst 1, 1, 1, 0, 0) :: (42, .aload 4, 2, 0, 0, 0) :: (44, .getfield 86, 3, 1, 2, 0) :: (47, .ishl, 1, 0, 0, 0) :: (48, .ior, 1, 0, 0, 0) :: (49, .istore_n 2, 1, 0, 0, 0) :: k_X5_elementBits_50
def k_X5_elementBits_0 : List Ent := (0, .iconst 0, 1, 0, 0, 0) :: (1, .istore_n 2, 1, 0, 0, 0) :: (2, .iconst 0, 1, 0, 0, 0) :: (3, .istore_n 3, 1, 0, 0, 0) :: k_X5_elementBits_4
def M_X5_elementBits : MI := (yX5_elementBits, cX5_elementBits, 5, (some .int), 4, 92, 5, 2, 7, k_X5_elementBits_0)
theorem sk_X5_elementBits_4 : sm_seek (mP M_X5_elementBits) 4 = k_X5_elementBits_4 := rfl
theorem sk_X5_elementBits_50 : sm_seek (mP M_X5_elementBits) 50 = k_X5_elementBits_50 := rfl
theorem sk_X5_elementBits_56 : sm_seek (mP M_X5_elementBits) 56 = k_X5_elementBits_56 := rfl
def k_X5_begin_0 : List Ent := (0, .aload_n 0, 1, 0, 0, 0) :: (1, .invokevirtual 89, 3, 12, 0, 0) :: (4, .astore_n 2, 1, 0, 0, 0) :: (5, .aload_n 2, 1, 0, 0, 0) :: (6, .getfield 61, 3, 2, 32, 1) :: (9, .aload_n 0, 1, 0, 0, 0) :: (10, .getfield 54, 3, 6, 160, 0) :: (13, .dup2, 1, 0, 0, 0) :: (14, .iaload, 1, 0, 0, 0) :: (15, .iconst 1, 1, 1, 0, 0) :: (16, .iadd, 1, 0, 0, 0) :: (17, .iastore, 1, 0, 0, 0) :: (18, .new 28, 3, 5, 5, 0) :: (21, .dup, 1, 0, 0, 0) :: (22, .aload_n 1, 1, 0, 0, 0) :: (23, .aload_n 0, 1, 0, 0, 0) :: (24, .getfield 54, 3, 6, 160, 0) :: (27, .aload_n 0, 1, 0, 0, 0) :: (28, .getfield 46, 3, 6, 168, 0) :: (31, .iconst 1, 1, 1, 0, 0) :: (32, .iadd, 1, 0, 0, 0) :: (33, .aload_n 2, 1, 0, 0, 0) :: (34, .invokespecial 93, 3, 7, 0, 1) :: (37, .astore_n 3, 1, 0, 0, 0) :: (38, .aload_n 0, 1, 0, 0, 0) :: (39, .aload_n 3, 1, 0, 0, 0) :: (40, .invokevirtual 96, 3, 20, 0, 0) :: (43, .aload_n 3, 1, 0, 0, 0) :: (44, .areturn, 1, 0, 0, 0) :: []
def M_X5_begin : MI := (yX5_begin, cX5_begin, 4, (some (.object "ReplicaStore$Operation")), 9, 203, 5, 2, 7, k_X5_begin_0)
def k_X5_receive_66 : List Ent := (66, .aload_n 0, 1, 0, 0, 0) :: (67, .getfield 43, 3, 6, 167, 1) :: (70, .aload_n 2, 1, 0, 0, 0) :: (71, .invokevirtual 127, 3, 136, 0, 0) :: (74, .pop, 1, 0, 0, 0) :: (75, .aload_n 0, 1, 0, 0, 0) :: (76, .invokevirtual 131, 3, 17, 0, 0) :: (79, .ireturn, 1, 0, 0, 0) :: []
def k_X5_receive_64 : List Ent := (64, .iconst 0, 1, 0, 0, 0) :: (65, .ireturn, 1, 0, 0, 0) :: k_X5_receive_66
def k_X5_receive_31 : List Ent := (31, .aload_n 1, 1, 0, 0, 0) :: (32, .getfield 116, 3, 4, 99, 1) :: (35, .astore_n 2, 1, 0, 0, 0) :: (36, .aload_n 2, 1, 0, 0, 0) :: (37, .ifnull 27, 3, 64, 0, 0) :: (40, .aload_n 0, 1, 0, 0, 0) :: (41, .getfield 11, 3, 6, 161, 1) :: (44, .aload_n 0, 1, 0, 0, 0) :: (45, .getfield 54, 3, 6, 160, 0) :: (48, .aaload, 1, 0, 0, 0) :: (49, .aload_n 2, 1, 0, 0, 0) :: (50, .invokevirtual 120, 3, 2, 0, 0) :: (53, .ifCond .ne 11, 3, 64, 0, 0) :: (56, .aload_n 0, 1, 0, 0, 0) :: (57, .aload_n 2, 1, 0, 0, 0) :: (58, .invokevirtual 124, 3, 16, 0, 0) :: (61, .ifCond .eq 5, 3, 66, 0, 0) :: k_X5_receive_64
def k_X5_receive_0 : List Ent := (0, .aload_n 1, 1, 0, 0, 0) :: (1, .getfield 100, 3, 4, 97, 0) :: (4, .aload_n 0, 1, 0, 0, 0) :: (5, .getfield 54, 3, 6, 160, 0) :: (8, .if_icmp .eq 23, 3, 31, 0, 0) :: (11, .aload_n 0, 1, 0, 0, 0) :: (12, .getfield 11, 3, 6, 161, 1) :: (15, .aload_n 1, 1, 0, 0, 0) :: (16, .getfield 100, 3, 4, 97, 0) :: (19, .aaload, 1, 0, 0, 0) :: (20, .aload_n 1, 1, 0, 0, 0) :: (21, .getfield 105, 3, 4, 98, 1) :: (24, .invokevirtual 109, 3, 3, 0, 0) :: (27, .aload_n 0, 1, 0, 0, 0) :: (28, .invokevirtual 113, 3, 25, 0, 0) :: k_X5_receive_31
def M_X5_receive : MI := (yX5_receive, cX5_receive, 3, (some .int), 10, 226, 5, 2, 7, k_X5_receive_0)
theorem sk_X5_receive_31 : sm_seek (mP M_X5_receive) 31 = k_X5_receive_31 := rfl
theorem sk_X5_receive_64 : sm_seek (mP M_X5_receive) 64 = k_X5_receive_64 := rfl
theorem sk_X5_receive_66 : sm_seek (mP M_X5_receive) 66 = k_X5_receive_66 := rfl
def k_X5_isWaiting_33 : List Ent := (33, .iconst 0, 1, 0, 0, 0) :: (34, .ireturn, 1, 0, 0, 0) :: []
def k_X5_isWaiting_27 : List Ent := (27, .iinc 2 1, 3, 1, 0, 0) :: (30, .goto (-28), 3, 2, 0, 0) :: k_X5_isWaiting_33
def k_X5_isWaiting_2 : List Ent := (2, .iload_n 2, 1, 0, 0, 0) :: (3, .aload_n 0, 1, 0, 0, 0) :: (4, .getfield 43, 3, 6, 167, 1) :: (7, .invokevirtual 69, 3, 131, 0, 0) :: (10, .if_icmp .ge 23, 3, 33, 0, 0) :: (13, .aload_n 0, 1, 0, 0, 0) :: (14, .getfield 43, 3, 6, 167, 1) :: (17, .iload_n 2, 1, 0, 0, 0) :: (18, .invokevirtual 73, 3, 134, 0, 0) :: (21, .aload_n 1, 1, 0, 0, 0) :: (22, .if_acmp .ne 5, 3, 27, 0, 0) :: (25, .iconst 1, 1, 1, 0, 0) :: (26, .ireturn, 1, 0, 0, 0) :: k_X5_isWaiting_27
def k_X5_isWaiting_0 : List Ent := (0, .iconst 0, 1, 0, 0, 0) :: (1, .istore_n 2, 1, 0, 0, 0) :: k_X5_isWaiting_2
def M_X5_isWaiting : MI := (yX5_isWaiting, cX5_isWaiting, 3, (some .boolean), 4, 92, 5, 2, 7, k_X5_isWaiting_0)
theorem sk_X5_isWaiting_2 : sm_seek (mP M_X5_isWaiting) 2 = k_X5_isWaiting_2 := rfl
theorem sk_X5_isWaiting_27 : sm_seek (mP M_X5_isWaiting) 27 = k_X5_isWaiting_27 := rfl
theorem sk_X5_isWaiting_33 : sm_seek (mP M_X5_isWaiting) 33 = k_X5_isWaiting_33 := rfl
def k_X5_finishWaiting_48 : List Ent := (48, .iload_n 1, 1, 0, 0, 0) :: (49, .ireturn, 1, 0, 0, 0) :: []
def k_X5_finishWaiting_27 : List Ent := (27, .aload_n 0, 1, 0, 0, 0) :: (28, .aload_n 0, 1, 0, 0, 0) :: (29, .getfield 43, 3, 6, 167, 1) :: (32, .iload_n 3, 1, 0, 0, 0) :: (33, .invokevirtual 137, 3, 137, 0, 0) :: (36, .checkcast 28, 3, 5, 0, 0) :: (39, .invokevirtual 96, 3, 20, 0, 0) :: (42, .iinc 2 1, 3, 1, 0, 0) :: (45, .goto (-35), 3, 10, 0, 0) :: k_X5_finishWaiting_48
def k_X5_finishWaiting_10 : List Ent := (10, .iload_n 2, 1, 0, 0, 0) :: (11, .iload_n 1, 1, 0, 0, 0) :: (12, .if_icmp .ge 36, 3, 48, 0, 0) :: (15, .aload_n 0, 1, 0, 0, 0) :: (16, .invokevirtual 134, 3, 18, 0, 0) :: (19, .istore_n 3, 1, 0, 0, 0) :: (20, .iload_n 3, 1, 0, 0, 0) :: (21, .iconst (-1), 1, 1, 1, 0) :: (22, .if_icmp .ne 5, 3, 27, 0, 0) :: (25, .iload_n 2, 1, 0, 0, 0) :: (26, .ireturn, 1, 0, 0, 0) :: k_X5_finishWaiting_27
def k_X5_finishWaiting_0 : List Ent := (0, .aload_n 0, 1, 0, 0, 0) :: (1, .getfield 43, 3, 6, 167, 1) :: (4, .invokevirtual 69, 3, 131, 0, 0) :: (7, .istore_n 1, 1, 0, 0, 0) :: (8, .iconst 0, 1, 0, 0, 0) :: (9, .istore_n 2, 1, 0, 0, 0) :: k_X5_finishWaiting_10
def M_X5_finishWaiting : MI := (yX5_finishWaiting, cX5_finishWaiting, 4, (some .int), 9, 203, 5, 1, 7, k_X5_finishWaiting_0)
theorem sk_X5_finishWaiting_10 : sm_seek (mP M_X5_finishWaiting) 10 = k_X5_finishWaiting_10 := rfl
theorem sk_X5_finishWaiting_27 : sm_seek (mP M_X5_finishWaiting) 27 = k_X5_finishWaiting_27 := rfl
theorem sk_X5_finishWaiting_48 : sm_seek (mP M_X5_finishWaiting) 48 = k_X5_finishWaiting_48 := rfl
def k_X5_firstReady_39 : List Ent := (39, .iconst (-1), 1, 1, 1, 0) :: (40, .ireturn, 1, 0, 0, 0) :: []
def k_X5_firstReady_33 : List Ent := (33, .iinc 1 1, 3, 1, 0, 0) :: (36, .goto (-34), 3, 2, 0, 0) :: k_X5_firstReady_39
def k_X5_firstReady_2 : List Ent := (2, .iload_n 1, 1, 0, 0, 0) :: (3, .aload_n 0, 1, 0, 0, 0) :: (4, .getfield 43, 3, 6, 167, 1) :: (7, .invokevirtual 69, 3, 131, 0, 0) :: (10, .if_icmp .ge 29, 3, 39, 0, 0) :: (13, .aload_n 0, 1, 0, 0, 0) :: (14, .aload_n 0, 1, 0, 0, 0) :: (15, .getfield 43, 3, 6, 167, 1) :: (18, .iload_n 1, 1, 0, 0, 0) :: (19, .invokevirtual 73, 3, 134, 0, 0) :: (22, .checkcast 28, 3, 5, 0, 0) :: (25, .invokevirtual 140, 3, 19, 0, 0) :: (28, .ifCond .eq 5, 3, 33, 0, 0) :: (31, .iload_n 1, 1, 0, 0, 0) :: (32, .ireturn, 1, 0, 0, 0) :: k_X5_firstReady_33
def k_X5_firstReady_0 : List Ent := (0, .iconst 0, 1, 0, 0, 0) :: (1, .istore_n 1, 1, 0, 0, 0) :: k_X5_firstReady_2
def M_X5_firstReady : MI := (yX5_firstReady, cX5_firstReady, 2, (some .int), 4, 92, 5, 1, 7, k_X5_firstReady_0)
theorem sk_X5_firstReady_2 : sm_seek (mP M_X5_firstReady) 2 = k_X5_firstReady_2 := rfl
theorem sk_X5_firstReady_33 : sm_seek (mP M_X5_firstReady) 33 = k_X5_firstReady_33 := rfl
theorem sk_X5_firstReady_39 : sm_seek (mP M_X5_firstReady) 39 = k_X5_firstReady_39 := rfl
def k_X5_isReady_66 : List Ent := (66, .iconst 1, 1, 1, 0, 0) :: (67, .ireturn, 1, 0, 0, 0) :: []
def k_X5_isReady_60 : List Ent := (60, .iinc 2 1, 3, 1, 0, 0) :: (63, .goto (-61), 3, 2, 0, 0) :: k_X5_isReady_66
def k_X5_isReady_58 : List Ent := (58, .iconst 0, 1, 0, 0, 0) :: (59, .ireturn, 1, 0, 0, 0) :: k_X5_isReady_60
def k_X5_isReady_52 : List Ent := (52, .iload 4, 2, 0, 0, 0) :: (54, .iload_n 3, 1, 0, 0, 0) :: (55, .if_icmp .le 5, 3, 60, 0, 0) :: k_X5_isReady_58
def k_X5_isReady_2 : List Ent := (2, .iload_n 2, 1, 0, 0, 0) :: (3, .iconst 4, 1, 4, 0, 0) :: (4, .if_icmp .ge 62, 3, 66, 0, 0) :: (7, .aload_n 0, 1, 0, 0, 0) :: (8, .getfield 11, 3, 6, 161, 1) :: (11, .aload_n 0, 1, 0, 0, 0) :: (12, .getfield 54, 3, 6, 160, 0) :: (15, .aaload, 1, 0, 0, 0) :: (16, .getfield 61, 3, 2, 32, 1) :: (19, .iload_n 2, 1, 0, 0, 0) :: (20, .iaload, 1, 0, 0, 0) :: (21, .istore_n 3, 1, 0, 0, 0) :: (22, .aload_n 1, 1, 0, 0, 0) :: (23, .getfield 143, 3, 5, 132, 1) :: (26, .getfield 61, 3, 2, 32, 1) :: (29, .iload_n 2, 1, 0, 0, 0) :: (30, .iaload, 1, 0, 0, 0) :: (31, .istore 4, 2, 0, 0, 0) :: (33, .iload_n 2, 1, 0, 0, 0) :: (34, .aload_n 1, 1, 0, 0, 0) :: (35, .getfield 144, 3, 5, 129, 0) :: (38, .if_icmp .ne 14, 3, 52, 0, 0) :: (41, .iload 4, 2, 0, 0, 0) :: (43, .iload_n 3, 1, 0, 0, 0) :: (44, .iconst 1, 1, 1, 0, 0) :: (45, .iadd, 1, 0, 0, 0) :: (46, .if_icmp .eq 14, 3, 60, 0, 0) :: (49, .goto 9, 3, 58, 0, 0) :: k_X5_isReady_52
def k_X5_isReady_0 : List Ent := (0, .iconst 0, 1, 0, 0, 0) :: (1, .istore_n 2, 1, 0, 0, 0) :: k_X5_isReady_2
def M_X5_isReady : MI := (yX5_isReady, cX5_isReady, 5, (some .boolean), 0, 0, 5, 2, 7, k_X5_isReady_0)
theorem sk_X5_isReady_2 : sm_seek (mP M_X5_isReady) 2 = k_X5_isReady_2 := rfl
theorem sk_X5_isReady_52 : sm_seek (mP M_X5_isReady) 52 = k_X5_isReady_52 := rfl
theorem sk_X5_isReady_58 : sm_seek (mP M_X5_isReady) 58 = k_X5_isReady_58 := rfl
theorem sk_X5_isReady_60 : sm_seek (mP M_X5_isReady) 60 = k_X5_isReady_60 := rfl
theorem sk_X5_isReady_66 : sm_seek (mP M_X5_isReady) 66 = k_X5_isReady_66 := rfl
def k_X5_finish_58 : List Ent := (58, .return_, 1, 0, 0, 0) :: []
def k_X5_finish_0 : List Ent := (0, .aload_n 0, 1, 0, 0, 0) :: (1, .getfield 11, 3, 6, 161, 1) :: (4, .aload_n 0, 1, 0, 0, 0) :: (5, .getfield 54, 3, 6, 160, 0) :: (8, .aaload, 1, 0, 0, 0) :: (9, .getfield 61, 3, 2, 32, 1) :: (12, .aload_n 1, 1, 0, 0, 0) :: (13, .getfield 144, 3, 5, 129, 0) :: (16, .aload_n 1, 1, 0, 0, 0) :: (17, .getfield 147, 3, 5, 130, 0) :: (20, .iastore, 1, 0, 0, 0) :: (21, .aload_n 0, 1, 0, 0, 0) :: (22, .aload_n 0, 1, 0, 0, 0) :: (23, .getfield 46, 3, 6, 168, 0) :: (26, .aload_n 1, 1, 0, 0, 0) :: (27, .getfield 150, 3, 5, 131, 0) :: (30, .invokestatic 151, 3, 1004, 0, 2) :: (33, .putfield 46, 3, 6, 168, 0) :: (36, .aload_n 0, 1, 0, 0, 0) :: (37, .aload_n 1, 1, 0, 0, 0) :: (38, .invokevirtual 157, 3, 21, 0, 0) :: (41, .aload_n 0, 1, 0, 0, 0) :: (42, .aload_n 1, 1, 0, 0, 0) :: (43, .invokevirtual 160, 3, 24, 0, 0) :: (46, .ifCond .ne 12, 3, 58, 0, 0) :: (49, .aload_n 0, 1, 0, 0, 0) :: (50, .getfield 40, 3, 6, 166, 1) :: (53, .aload_n 1, 1, 0, 0, 0) :: (54, .invokevirtual 127, 3, 136, 0, 0) :: (57, .pop, 1, 0, 0, 0) :: k_X5_finish_58
def M_X5_finish : MI := (yX5_finish, cX5_finish, 2, none, 8, 182, 5, 2, 7, k_X5_finish_0)
theorem sk_X5_finish_58 : sm_seek (mP M_X5_finish) 58 = k_X5_finish_58 := rfl
def k_X5_apply_120 : List Ent := (120, .return_, 1, 0, 0, 0) :: []
def k_X5_apply_107 : List Ent := (107, .aload_n 0, 1, 0, 0, 0) :: (108, .getfield 36, 3, 6, 165, 1) :: (111, .aload_n 2, 1, 0, 0, 0) :: (112, .getfield 81, 3, 1, 1, 0) :: (115, .aaload, 1, 0, 0, 0) :: (116, .aload_n 1, 1, 0, 0, 0) :: (117, .invokevirtual 175, 3, 31, 0, 0) :: k_X5_apply_120
def k_X5_apply_91 : List Ent := (91, .aload_n 0, 1, 0, 0, 0) :: (92, .getfield 36, 3, 6, 165, 1) :: (95, .aload_n 2, 1, 0, 0, 0) :: (96, .getfield 81, 3, 1, 1, 0) :: (99, .aaload, 1, 0, 0, 0) :: (100, .aload_n 1, 1, 0, 0, 0) :: (101, .invokevirtual 172, 3, 30, 0, 0) :: (104, .goto 16, 3, 120, 0, 0) :: k_X5_apply_107
def k_X5_apply_83 : List Ent := (83, .aload_n 0, 1, 0, 0, 0) :: (84, .aload_n 1, 1, 0, 0, 0) :: (85, .invokevirtual 169, 3, 23, 0, 0) :: (88, .goto 32, 3, 120, 0, 0) :: k_X5_apply_91
def k_X5_apply_75 : List Ent := (75, .aload_n 0, 1, 0, 0, 0) :: (76, .aload_n 1, 1, 0, 0, 0) :: (77, .invokevirtual 166, 3, 22, 0, 0) :: (80, .goto 40, 3, 120, 0, 0) :: k_X5_apply_83
def k_X5_apply_63 : List Ent := (63, .aload_n 0, 1, 0, 0, 0) :: (64, .getfield 24, 3, 6, 163, 1) :: (67, .aload_n 1, 1, 0, 0, 0) :: (68, .invokevirtual 127, 3, 136, 0, 0) :: (71, .pop, 1, 0, 0, 0) :: (72, .goto 48, 3, 120, 0, 0) :: k_X5_apply_75
def k_X5_apply_44 : List Ent := (44, .aload_n 0, 1, 0, 0, 0) :: (45, .getfield 17, 3, 6, 162, 1) :: (48, .aload_n 2, 1, 0, 0, 0) :: (49, .getfield 81, 3, 1, 1, 0) :: (52, .dup2, 1, 0, 0, 0) :: (53, .iaload, 1, 0, 0, 0) :: (54, .aload_n 2, 1, 0, 0, 0) :: (55, .getfield 86, 3, 1, 2, 0) :: (58, .iadd, 1, 0, 0, 0) :: (59, .iastore, 1, 0, 0, 0) :: (60, .goto 60, 3, 120, 0, 0) :: k_X5_apply_63
def k_X5_apply_0 : List Ent := (0, .aload_n 1, 1, 0, 0, 0) :: (1, .getfield 77, 3, 5, 128, 1) :: (4, .astore_n 2, 1, 0, 0, 0) :: (5, .aload_n 2, 1, 0, 0, 0) :: (6, .getfield 163, 3, 1, 0, 0) :: (9, .tableswitch 98 0 4 #[35, 54, 66, 74, 82], 35, 0, 0, 0) :: k_X5_apply_44
def M_X5_apply : MI := (yX5_apply, cX5_apply, 3, none, 7, 160, 5, 2, 7, k_X5_apply_0)
theorem sk_X5_apply_44 : sm_seek (mP M_X5_apply) 44 = k_X5_apply_44 := rfl
theorem sk_X5_apply_63 : sm_seek (mP M_X5_apply) 63 = k_X5_apply_63 := rfl
theorem sk_X5_apply_75 : sm_seek (mP M_X5_apply) 75 = k_X5_apply_75 := rfl
theorem sk_X5_apply_83 : sm_seek (mP M_X5_apply) 83 = k_X5_apply_83 := rfl
theorem sk_X5_apply_91 : sm_seek (mP M_X5_apply) 91 = k_X5_apply_91 := rfl
theorem sk_X5_apply_107 : sm_seek (mP M_X5_apply) 107 = k_X5_apply_107 := rfl
theorem sk_X5_apply_120 : sm_seek (mP M_X5_apply) 120 = k_X5_apply_120 := rfl
def k_X5_dropPutsBefore_60 : List Ent := (60, .return_, 1, 0, 0, 0) :: []
def k_X5_dropPutsBefore_54 : List Ent := (54, .iinc 2 (-1), 3, 1, 1, 0) :: (57, .goto (-47), 3, 10, 0, 0) :: k_X5_dropPutsBefore_60
def k_X5_dropPutsBefore_10 : List Ent := (10, .iload_n 2, 1, 0, 0, 0) :: (11, .ifCond .lt 49, 3, 60, 0, 0) :: (14, .aload_n 0, 1, 0, 0, 0) :: (15, .getfield 24, 3, 6, 163, 1) :: (18, .iload_n 2, 1, 0, 0, 0) :: (19, .invokevirtual 73, 3, 134, 0, 0) :: (22, .checkcast 28, 3, 5, 0, 0) :: (25, .astore_n 3, 1, 0, 0, 0) :: (26, .aload_n 3, 1, 0, 0, 0) :: (27, .aload_n 1, 1, 0, 0, 0) :: (28, .invokevirtual 178, 3, 9, 0, 0) :: (31, .ifCond .eq 23, 3, 54, 0, 0) :: (34, .aload_n 1, 1, 0, 0, 0) :: (35, .getfield 143, 3, 5, 132, 1) :: (38, .aload_n 3, 1, 0, 0, 0) :: (39, .invokevirtual 120, 3, 2, 0, 0) :: (42, .ifCond .eq 12, 3, 54, 0, 0) :: (45, .aload_n 0, 1, 0, 0, 0) :: (46, .getfield 24, 3, 6, 163, 1) :: (49, .iload_n 2, 1, 0, 0, 0) :: (50, .invokevirtual 137, 3, 137, 0, 0) :: (53, .pop, 1, 0, 0, 0) :: k_X5_dropPutsBefore_54
def k_X5_dropPutsBefore_0 : List Ent := (0, .aload_n 0, 1, 0, 0, 0) :: (1, .getfield 24, 3, 6, 163, 1) :: (4, .invokevirtual 69, 3, 131, 0, 0) :: (7, .iconst 1, 1, 1, 0, 0) :: (8, .isub, 1, 0, 0, 0) :: (9, .istore_n 2, 1, 0, 0, 0) :: k_X5_dropPutsBefore_10
def M_X5_dropPutsBefore : MI := (yX5_dropPutsBefore, cX5_dropPutsBefore, 4, none, 4, 94, 5, 2, 7, k_X5_dropPutsBefore_0)
theorem sk_X5_dropPutsBefore_10 : sm_seek (mP M_X5_dropPutsBefore) 10 = k_X5_dropPutsBefore_10 := rfl
theorem sk_X5_dropPutsBefore_54 : sm_seek (mP M_X5_dropPutsBefore) 54 = k_X5_dropPutsBefore_54 := rfl
theorem sk_X5_dropPutsBefore_60 : sm_seek (mP M_X5_dropPutsBefore) 60 = k_X5_dropPutsBefore_60 := rfl
def k_X5_keepGreaterMark_37 : List Ent := (37, .return_, 1, 0, 0, 0) :: []
def k_X5_keepGreaterMark_30 : List Ent := (30, .aload_n 0, 1, 0, 0, 0) :: (31, .getfield 30, 3, 6, 164, 1) :: (34, .iload_n 2, 1, 0, 0, 0) :: (35, .aload_n 1, 1, 0, 0, 0) :: (36, .aastore, 1, 0, 0, 0) :: k_X5_keepGreaterMark_37
def k_X5_keepGreaterMark_0 : List Ent := (0, .aload_n 1, 1, 0, 0, 0) :: (1, .getfield 77, 3, 5, 128, 1) :: (4, .getfield 81, 3, 1, 1, 0) :: (7, .istore_n 2, 1, 0, 0, 0) :: (8, .aload_n 0, 1, 0, 0, 0) :: (9, .getfield 30, 3, 6, 164, 1) :: (12, .iload_n 2, 1, 0, 0, 0) :: (13, .aaload, 1, 0, 0, 0) :: (14, .ifnull 16, 3, 30, 0, 0) :: (17, .aload_n 1, 1, 0, 0, 0) :: (18, .aload_n 0, 1, 0, 0, 0) :: (19, .getfield 30, 3, 6, 164, 1) :: (22, .iload_n 2, 1, 0, 0, 0) :: (23, .aaload, 1, 0, 0, 0) :: (24, .invokevirtual 181, 3, 8, 0, 0) :: (27, .ifCond .eq 10, 3, 37, 0, 0) :: k_X5_keepGreaterMark_30
def M_X5_keepGreaterMark : MI := (yX5_keepGreaterMark, cX5_keepGreaterMark, 3, none, 1, 21, 5, 2, 7, k_X5_keepGreaterMark_0)
theorem sk_X5_keepGreaterMark_30 : sm_seek (mP M_X5_keepGreaterMark) 30 = k_X5_keepGreaterMark_30 := rfl
theorem sk_X5_keepGreaterMark_37 : sm_seek (mP M_X5_keepGreaterMark) 37 = k_X5_keepGreaterMark_37 := rfl
def k_X5_isDoneEverywhere_28 : List Ent := (28, .iconst 1, 1, 1, 0, 0) :: (29, .ireturn, 1, 0, 0, 0) :: []
def k_X5_isDoneEverywhere_22 : List Ent := (22, .iinc 2 1, 3, 1, 0, 0) :: (25, .goto (-23), 3, 2, 0, 0) :: k_X5_isDoneEverywhere_28
def k_X5_isDoneEverywhere_2 : List Ent := (2, .iload_n 2, 1, 0, 0, 0) :: (3, .iconst 4, 1, 4, 0, 0) :: (4, .if_icmp .ge 24, 3, 28, 0, 0) :: (7, .aload_n 0, 1, 0, 0, 0) :: (8, .getfield 11, 3, 6, 161, 1) :: (11, .iload_n 2, 1, 0, 0, 0) :: (12, .aaload, 1, 0, 0, 0) :: (13, .aload_n 1, 1, 0, 0, 0) :: (14, .invokevirtual 120, 3, 2, 0, 0) :: (17, .ifCond .ne 5, 3, 22, 0, 0) :: (20, .iconst 0, 1, 0, 0, 0) :: (21, .ireturn, 1, 0, 0, 0) :: k_X5_isDoneEverywhere_22
def k_X5_isDoneEverywhere_0 : List Ent := (0, .iconst 0, 1, 0, 0, 0) :: (1, .istore_n 2, 1, 0, 0, 0) :: k_X5_isDoneEverywhere_2
def M_X5_isDoneEverywhere : MI := (yX5_isDoneEverywhere, cX5_isDoneEverywhere, 3, (some .boolean), 1, 21, 5, 2, 7, k_X5_isDoneEverywhere_0)
theorem sk_X5_isDoneEverywhere_2 : sm_seek (mP M_X5_isDoneEverywhere) 2 = k_X5_isDoneEverywhere_2 := rfl
theorem sk_X5_isDoneEverywhere_22 : sm_seek (mP M_X5_isDoneEverywhere) 22 = k_X5_isDoneEverywhere_22 := rfl
theorem sk_X5_isDoneEverywhere_28 : sm_seek (mP M_X5_isDoneEverywhere) 28 = k_X5_isDoneEverywhere_28 := rfl
def k_X5_shortenLog_47 : List Ent := (47, .return_, 1, 0, 0, 0) :: []
def k_X5_shortenLog_41 : List Ent := (41, .iinc 1 (-1), 3, 1, 1, 0) :: (44, .goto (-34), 3, 10, 0, 0) :: k_X5_shortenLog_47
def k_X5_shortenLog_10 : List Ent := (10, .iload_n 1, 1, 0, 0, 0) :: (11, .ifCond .lt 36, 3, 47, 0, 0) :: (14, .aload_n 0, 1, 0, 0, 0) :: (15, .aload_n 0, 1, 0, 0, 0) :: (16, .getfield 40, 3, 6, 166, 1) :: (19, .iload_n 1, 1, 0, 0, 0) :: (20, .invokevirtual 73, 3, 134, 0, 0) :: (23, .checkcast 28, 3, 5, 0, 0) :: (26, .invokevirtual 160, 3, 24, 0, 0) :: (29, .ifCond .eq 12, 3, 41, 0, 0) :: (32, .aload_n 0, 1, 0, 0, 0) :: (33, .getfield 40, 3, 6, 166, 1) :: (36, .iload_n 1, 1, 0, 0, 0) :: (37, .invokevirtual 137, 3, 137, 0, 0) :: (40, .pop, 1, 0, 0, 0) :: k_X5_shortenLog_41
def k_X5_shortenLog_0 : List Ent := (0, .aload_n 0, 1, 0, 0, 0) :: (1, .getfield 40, 3, 6, 166, 1) :: (4, .invokevirtual 69, 3, 131, 0, 0) :: (7, .iconst 1, 1, 1, 0, 0) :: (8, .isub, 1, 0, 0, 0) :: (9, .istore_n 1, 1, 0, 0, 0) :: k_X5_shortenLog_10
def M_X5_shortenLog : MI := (yX5_shortenLog, cX5_shortenLog, 2, none, 4, 94, 5, 1, 7, k_X5_shortenLog_0)
theorem sk_X5_shortenLog_10 : sm_seek (mP M_X5_shortenLog) 10 = k_X5_shortenLog_10 := rfl
theorem sk_X5_shortenLog_41 : sm_seek (mP M_X5_shortenLog) 41 = k_X5_shortenLog_41 := rfl
theorem sk_X5_shortenLog_47 : sm_seek (mP M_X5_shortenLog) 47 = k_X5_shortenLog_47 := rfl
def k_X6_init_0 : List Ent := (0, .aload_n 0, 1, 0, 0, 0) :: (1, .invokespecial 1, 3, 1000, 0, 1) :: (4, .aload_n 0, 1, 0, 0, 0) :: (5, .new 7, 3, 3, 3, 0) :: (8, .dup, 1, 0, 0, 0) :: (9, .aconst_null, 1, 0, 0, 0) :: (10, .invokespecial 9, 3, 4, 0, 1) :: (13, .putfield 12, 3, 7, 192, 1) :: (16, .return_, 1, 0, 0, 0) :: []
def M_X6_init : MI := (yX6_init, cX6_init, 1, none, 2, 49, 6, 1, 1, k_X6_init_0)
def k_X6_lettersEver_25 : List Ent := (25, .iload_n 1, 1, 0, 0, 0) :: (26, .ireturn, 1, 0, 0, 0) :: []
def k_X6_lettersEver_10 : List Ent := (10, .aload_n 2, 1, 0, 0, 0) :: (11, .ifnull 14, 3, 25, 0, 0) :: (14, .iinc 1 1, 3, 1, 0, 0) :: (17, .aload_n 2, 1, 0, 0, 0) :: (18, .getfield 18, 3, 3, 66, 1) :: (21, .astore_n 2, 1, 0, 0, 0) :: (22, .goto (-12), 3, 10, 0, 0) :: k_X6_lettersEver_25
def k_X6_lettersEver_0 : List Ent := (0, .iconst 0, 1, 0, 0, 0) :: (1, .istore_n 1, 1, 0, 0, 0) :: (2, .aload_n 0, 1, 0, 0, 0) :: (3, .getfield 12, 3, 7, 192, 1) :: (6, .getfield 18, 3, 3, 66, 1) :: (9, .astore_n 2, 1, 0, 0, 0) :: k_X6_lettersEver_10
def M_X6_lettersEver : MI := (yX6_lettersEver, cX6_lettersEver, 3, (some .int), 0, 0, 6, 1, 8, k_X6_lettersEver_0)
theorem sk_X6_lettersEver_10 : sm_seek (mP M_X6_lettersEver) 10 = k_X6_lettersEver_10 := rfl
theorem sk_X6_lettersEver_25 : sm_seek (mP M_X6_lettersEver) 25 = k_X6_lettersEver_25 := rfl
def k_X6_lettersThere_32 : List Ent := (32, .iload_n 1, 1, 0, 0, 0) :: (33, .ireturn, 1, 0, 0, 0) :: []
def k_X6_lettersThere_24 : List Ent := (24, .aload_n 2, 1, 0, 0, 0) :: (25, .getfield 18, 3, 3, 66, 1) :: (28, .astore_n 2, 1, 0, 0, 0) :: (29, .goto (-19), 3, 10, 0, 0) :: k_X6_lettersThere_32
def k_X6_lettersThere_10 : List Ent := (10, .aload_n 2, 1, 0, 0, 0) :: (11, .ifnull 21, 3, 32, 0, 0) :: (14, .aload_n 2, 1, 0, 0, 0) :: (15, .getfield 21, 3, 3, 65, 2) :: (18, .ifCond .ne 6, 3, 24, 0, 0) :: (21, .iinc 1 1, 3, 1, 0, 0) :: k_X6_lettersThere_24
def k_X6_lettersThere_0 : List Ent := (0, .iconst 0, 1, 0, 0, 0) :: (1, .istore_n 1, 1, 0, 0, 0) :: (2, .aload_n 0, 1, 0, 0, 0) :: (3, .getfield 12, 3, 7, 192, 1) :: (6, .getfield 18, 3, 3, 66, 1) :: (9, .astore_n 2, 1, 0, 0, 0) :: k_X6_lettersThere_10
def M_X6_lettersThere : MI := (yX6_lettersThere, cX6_lettersThere, 3, (some .int), 0, 0, 6, 1, 8, k_X6_lettersThere_0)
theorem sk_X6_lettersThere_10 : sm_seek (mP M_X6_lettersThere) 10 = k_X6_lettersThere_10 := rfl
theorem sk_X6_lettersThere_24 : sm_seek (mP M_X6_lettersThere) 24 = k_X6_lettersThere_24 := rfl
theorem sk_X6_lettersThere_32 : sm_seek (mP M_X6_lettersThere) 32 = k_X6_lettersThere_32 := rfl
def k_X6_letterAt_39 : List Ent := (39, .aconst_null, 1, 0, 0, 0) :: (40, .areturn, 1, 0, 0, 0) :: []
def k_X6_letterAt_31 : List Ent := (31, .aload_n 3, 1, 0, 0, 0) :: (32, .getfield 18, 3, 3, 66, 1) :: (35, .astore_n 3, 1, 0, 0, 0) :: (36, .goto (-26), 3, 10, 0, 0) :: k_X6_letterAt_39
def k_X6_letterAt_28 : List Ent := (28, .iinc 2 1, 3, 1, 0, 0) :: k_X6_letterAt_31
def k_X6_letterAt_10 : List Ent := (10, .aload_n 3, 1, 0, 0, 0) :: (11, .ifnull 28, 3, 39, 0, 0) :: (14, .aload_n 3, 1, 0, 0, 0) :: (15, .getfield 21, 3, 3, 65, 2) :: (18, .ifCond .ne 13, 3, 31, 0, 0) :: (21, .iload_n 2, 1, 0, 0, 0) :: (22, .iload_n 1, 1, 0, 0, 0) :: (23, .if_icmp .ne 5, 3, 28, 0, 0) :: (26, .aload_n 3, 1, 0, 0, 0) :: (27, .areturn, 1, 0, 0, 0) :: k_X6_letterAt_28
def k_X6_letterAt_0 : List Ent := (0, .iconst 0, 1, 0, 0, 0) :: (1, .istore_n 2, 1, 0, 0, 0) :: (2, .aload_n 0, 1, 0, 0, 0) :: (3, .getfield 12, 3, 7, 192, 1) :: (6, .getfield 18, 3, 3, 66, 1) :: (9, .astore_n 3, 1, 0, 0, 0) :: k_X6_letterAt_10
def M_X6_letterAt : MI := (yX6_letterAt, cX6_letterAt, 4, (some (.object "ReplicaStore$Letter")), 0, 0, 6, 2, 8, k_X6_letterAt_0)
theorem sk_X6_letterAt_10 : sm_seek (mP M_X6_letterAt) 10 = k_X6_letterAt_10 := rfl
theorem sk_X6_letterAt_28 : sm_seek (mP M_X6_letterAt) 28 = k_X6_letterAt_28 := rfl
theorem sk_X6_letterAt_31 : sm_seek (mP M_X6_letterAt) 31 = k_X6_letterAt_31 := rfl
theorem sk_X6_letterAt_39 : sm_seek (mP M_X6_letterAt) 39 = k_X6_letterAt_39 := rfl
def k_X6_bringIn_46 : List Ent := (46, .new 7, 3, 3, 3, 0) :: (49, .dup, 1, 0, 0, 0) :: (50, .aload_n 1, 1, 0, 0, 0) :: (51, .invokespecial 9, 3, 4, 0, 1) :: (54, .astore_n 3, 1, 0, 0, 0) :: (55, .aload_n 3, 1, 0, 0, 0) :: (56, .aload_n 2, 1, 0, 0, 0) :: (57, .getfield 18, 3, 3, 66, 1) :: (60, .putfield 18, 3, 3, 66, 1) :: (63, .aload_n 2, 1, 0, 0, 0) :: (64, .aload_n 3, 1, 0, 0, 0) :: (65, .putfield 18, 3, 3, 66, 1) :: (68, .return_, 1, 0, 0, 0) :: []
def k_X6_bringIn_17 : List Ent := (17, .aload_n 2, 1, 0, 0, 0) :: (18, .getfield 18, 3, 3, 66, 1) :: (21, .ifnull 25, 3, 46, 0, 0) :: (24, .aload_n 2, 1, 0, 0, 0) :: (25, .getfield 18, 3, 3, 66, 1) :: (28, .getfield 41, 3, 3, 64, 1) :: (31, .aload_n 1, 1, 0, 0, 0) :: (32, .invokevirtual 44, 3, 8, 0, 0) :: (35, .ifCond .eq 11, 3, 46, 0, 0) :: (38, .aload_n 2, 1, 0, 0, 0) :: (39, .getfield 18, 3, 3, 66, 1) :: (42, .astore_n 2, 1, 0, 0, 0) :: (43, .goto (-26), 3, 17, 0, 0) :: k_X6_bringIn_46
def k_X6_bringIn_0 : List Ent := (0, .aload_n 0, 1, 0, 0, 0) :: (1, .aload_n 1, 1, 0, 0, 0) :: (2, .getfield 25, 3, 5, 128, 1) :: (5, .getfield 31, 3, 1, 3, 1) :: (8, .invokevirtual 37, 3, 32, 0, 0) :: (11, .astore_n 2, 1, 0, 0, 0) :: (12, .aload_n 2, 1, 0, 0, 0) :: (13, .ifnonnull 4, 3, 17, 0, 0) :: (16, .return_, 1, 0, 0, 0) :: k_X6_bringIn_17
def M_X6_bringIn : MI := (yX6_bringIn, cX6_bringIn, 4, none, 2, 49, 6, 2, 8, k_X6_bringIn_0)
theorem sk_X6_bringIn_17 : sm_seek (mP M_X6_bringIn) 17 = k_X6_bringIn_17 := rfl
theorem sk_X6_bringIn_46 : sm_seek (mP M_X6_bringIn) 46 = k_X6_bringIn_46 := rfl
def k_X6_bringOut_21 : List Ent := (21, .return_, 1, 0, 0, 0) :: []
def k_X6_bringOut_0 : List Ent := (0, .aload_n 0, 1, 0, 0, 0) :: (1, .aload_n 1, 1, 0, 0, 0) :: (2, .getfield 25, 3, 5, 128, 1) :: (5, .getfield 31, 3, 1, 3, 1) :: (8, .invokevirtual 37, 3, 32, 0, 0) :: (11, .astore_n 2, 1, 0, 0, 0) :: (12, .aload_n 2, 1, 0, 0, 0) :: (13, .ifnull 8, 3, 21, 0, 0) :: (16, .aload_n 2, 1, 0, 0, 0) :: (17, .iconst 1, 1, 1, 0, 0) :: (18, .putfield 21, 3, 3, 65, 2) :: k_X6_bringOut_21
def M_X6_bringOut : MI := (yX6_bringOut, cX6_bringOut, 3, none, 1, 22, 6, 2, 8, k_X6_bringOut_0)
theorem sk_X6_bringOut_21 : sm_seek (mP M_X6_bringOut) 21 = k_X6_bringOut_21 := rfl
def k_X6_letterOf_27 : List Ent := (27, .aconst_null, 1, 0, 0, 0) :: (28, .areturn, 1, 0, 0, 0) :: []
def k_X6_letterOf_19 : List Ent := (19, .aload_n 2, 1, 0, 0, 0) :: (20, .getfield 18, 3, 3, 66, 1) :: (23, .astore_n 2, 1, 0, 0, 0) :: (24, .goto (-19), 3, 5, 0, 0) :: k_X6_letterOf_27
def k_X6_letterOf_5 : List Ent := (5, .aload_n 2, 1, 0, 0, 0) :: (6, .ifnull 21, 3, 27, 0, 0) :: (9, .aload_n 2, 1, 0, 0, 0) :: (10, .getfield 41, 3, 3, 64, 1) :: (13, .aload_n 1, 1, 0, 0, 0) :: (14, .if_acmp .ne 5, 3, 19, 0, 0) :: (17, .aload_n 2, 1, 0, 0, 0) :: (18, .areturn, 1, 0, 0, 0) :: k_X6_letterOf_19
def k_X6_letterOf_0 : List Ent := (0, .aload_n 0, 1, 0, 0, 0) :: (1, .getfield 12, 3, 7, 192, 1) :: (4, .astore_n 2, 1, 0, 0, 0) :: k_X6_letterOf_5
def M_X6_letterOf : MI := (yX6_letterOf, cX6_letterOf, 3, (some (.object "ReplicaStore$Letter")), 0, 0, 6, 2, 8, k_X6_letterOf_0)
theorem sk_X6_letterOf_5 : sm_seek (mP M_X6_letterOf) 5 = k_X6_letterOf_5 := rfl
theorem sk_X6_letterOf_19 : sm_seek (mP M_X6_letterOf) 19 = k_X6_letterOf_19 := rfl
theorem sk_X6_letterOf_27 : sm_seek (mP M_X6_letterOf) 27 = k_X6_letterOf_27 := rfl
def k_X7_init_0 : List Ent := (0, .aload_n 0, 1, 0, 0, 0) :: (1, .invokespecial 3, 3, 1000, 0, 1) :: (4, .aload_n 0, 1, 0, 0, 0) :: (5, .new 9, 3, 11, 3, 0) :: (8, .dup, 1, 0, 0, 0) :: (9, .invokespecial 11, 3, 128, 0, 1) :: (12, .putfield 12, 3, 8, 224, 1) :: (15, .return_, 1, 0, 0, 0) :: []
def M_X7_init : MI := (yX7_init, cX7_init, 1, none, 4, 88, 7, 1, 1, k_X7_init_0)
def k_X7_isFull_17 : List Ent := (17, .ireturn, 1, 0, 0, 0) :: []
def k_X7_isFull_16 : List Ent := (16, .iconst 0, 1, 0, 0, 0) :: k_X7_isFull_17
def k_X7_isFull_0 : List Ent := (0, .aload_n 0, 1, 0, 0, 0) :: (1, .getfield 12, 3, 8, 224, 1) :: (4, .invokevirtual 18, 3, 131, 0, 0) :: (7, .bipush 30, 2, 30, 0, 0) :: (9, .if_icmp .lt 7, 3, 16, 0, 0) :: (12, .iconst 1, 1, 1, 0, 0) :: (13, .goto 4, 3, 17, 0, 0) :: k_X7_isFull_16
def M_X7_isFull : MI := (yX7_isFull, cX7_isFull, 1, (some .boolean), 1, 20, 7, 1, 9, k_X7_isFull_0)
theorem sk_X7_isFull_16 : sm_seek (mP M_X7_isFull) 16 = k_X7_isFull_16 := rfl
theorem sk_X7_isFull_17 : sm_seek (mP M_X7_isFull) 17 = k_X7_isFull_17 := rfl
def k_X7_send_16 : List Ent := (16, .return_, 1, 0, 0, 0) :: []
def k_X7_send_0 : List Ent := (0, .aload_n 0, 1, 0, 0, 0) :: (1, .invokevirtual 22, 3, 34, 0, 0) :: (4, .ifCond .ne 12, 3, 16, 0, 0) :: (7, .aload_n 0, 1, 0, 0, 0) :: (8, .getfield 12, 3, 8, 224, 1) :: (11, .aload_n 1, 1, 0, 0, 0) :: (12, .invokevirtual 26, 3, 136, 0, 0) :: (15, .pop, 1, 0, 0, 0) :: k_X7_send_16
def M_X7_send : MI := (yX7_send, cX7_send, 2, none, 7, 160, 7, 2, 9, k_X7_send_0)
theorem sk_X7_send_16 : sm_seek (mP M_X7_send) 16 = k_X7_send_16 := rfl
def k_X8_init_82 : List Ent := (82, .return_, 1, 0, 0, 0) :: []
def k_X8_init_54 : List Ent := (54, .iload_n 1, 1, 0, 0, 0) :: (55, .aload_n 0, 1, 0, 0, 0) :: (56, .getfield 17, 3, 9, 257, 1) :: (59, .arraylength, 1, 0, 0, 0) :: (60, .if_icmp .ge 22, 3, 82, 0, 0) :: (63, .aload_n 0, 1, 0, 0, 0) :: (64, .getfield 17, 3, 9, 257, 1) :: (67, .iload_n 1, 1, 0, 0, 0) :: (68, .new 15, 3, 8, 1, 0) :: (71, .dup, 1, 0, 0, 0) :: (72, .invokespecial 24, 3, 33, 0, 3) :: (75, .aastore, 1, 0, 0, 0) :: (76, .iinc 1 1, 3, 1, 0, 0) :: (79, .goto (-25), 3, 54, 0, 0) :: k_X8_init_82
def k_X8_init_52 : List Ent := (52, .iconst 0, 1, 0, 0, 0) :: (53, .istore_n 1, 1, 0, 0, 0) :: k_X8_init_54
def k_X8_init_23 : List Ent := (23, .iload_n 1, 1, 0, 0, 0) :: (24, .aload_n 0, 1, 0, 0, 0) :: (25, .getfield 11, 3, 9, 256, 1) :: (28, .arraylength, 1, 0, 0, 0) :: (29, .if_icmp .ge 23, 3, 52, 0, 0) :: (32, .aload_n 0, 1, 0, 0, 0) :: (33, .getfield 11, 3, 9, 256, 1) :: (36, .iload_n 1, 1, 0, 0, 0) :: (37, .new 9, 3, 6, 10, 0) :: (40, .dup, 1, 0, 0, 0) :: (41, .iload_n 1, 1, 0, 0, 0) :: (42, .invokespecial 21, 3, 10, 0, 1) :: (45, .aastore, 1, 0, 0, 0) :: (46, .iinc 1 1, 3, 1, 0, 0) :: (49, .goto (-26), 3, 23, 0, 0) :: k_X8_init_52
def k_X8_init_0 : List Ent := (0, .aload_n 0, 1, 0, 0, 0) :: (1, .invokespecial 3, 3, 1000, 0, 1) :: (4, .aload_n 0, 1, 0, 0, 0) :: (5, .iconst 4, 1, 4, 0, 0) :: (6, .anewarray 9, 3, 23, 0, 0) :: (9, .putfield 11, 3, 9, 256, 1) :: (12, .aload_n 0, 1, 0, 0, 0) :: (13, .bipush 16, 2, 16, 0, 0) :: (15, .anewarray 15, 3, 24, 0, 0) :: (18, .putfield 17, 3, 9, 257, 1) :: (21, .iconst 0, 1, 0, 0, 0) :: (22, .istore_n 1, 1, 0, 0, 0) :: k_X8_init_23
def M_X8_init : MI := (yX8_init, cX8_init, 2, none, 5, 110, 8, 1, 1, k_X8_init_0)
theorem sk_X8_init_23 : sm_seek (mP M_X8_init) 23 = k_X8_init_23 := rfl
theorem sk_X8_init_52 : sm_seek (mP M_X8_init) 52 = k_X8_init_52 := rfl
theorem sk_X8_init_54 : sm_seek (mP M_X8_init) 54 = k_X8_init_54 := rfl
theorem sk_X8_init_82 : sm_seek (mP M_X8_init) 82 = k_X8_init_82 := rfl
def k_X8_add_17 : List Ent := (17, .aload_n 0, 1, 0, 0, 0) :: (18, .iload_n 1, 1, 0, 0, 0) :: (19, .new 32, 3, 1, 4, 0) :: (22, .dup, 1, 0, 0, 0) :: (23, .iconst 0, 1, 0, 0, 0) :: (24, .iload_n 2, 1, 0, 0, 0) :: (25, .iload_n 3, 1, 0, 0, 0) :: (26, .aconst_null, 1, 0, 0, 0) :: (27, .invokespecial 34, 3, 0, 0, 1) :: (30, .invokevirtual 37, 3, 68, 0, 0) :: (33, .ireturn, 1, 0, 0, 0) :: []
def k_X8_add_14 : List Ent := (14, .bipush (-2), 2, 2, 1, 0) :: (16, .ireturn, 1, 0, 0, 0) :: k_X8_add_17
def k_X8_add_0 : List Ent := (0, .iload_n 1, 1, 0, 0, 0) :: (1, .invokestatic 25, 3, 60, 0, 2) :: (4, .ifCond .eq 10, 3, 14, 0, 0) :: (7, .iload_n 2, 1, 0, 0, 0) :: (8, .invokestatic 29, 3, 61, 0, 2) :: (11, .ifCond .ne 6, 3, 17, 0, 0) :: k_X8_add_14
def M_X8_add : MI := (yX8_add, cX8_add, 4, (some .int), 11, 252, 8, 4, 10, k_X8_add_0)
theorem sk_X8_add_14 : sm_seek (mP M_X8_add) 14 = k_X8_add_14 := rfl
theorem sk_X8_add_17 : sm_seek (mP M_X8_add) 17 = k_X8_add_17 := rfl
def k_X8_put_24 : List Ent := (24, .aload_n 0, 1, 0, 0, 0) :: (25, .iload_n 1, 1, 0, 0, 0) :: (26, .new 32, 3, 1, 4, 0) :: (29, .dup, 1, 0, 0, 0) :: (30, .iconst 1, 1, 1, 0, 0) :: (31, .iload_n 2, 1, 0, 0, 0) :: (32, .iload_n 3, 1, 0, 0, 0) :: (33, .aconst_null, 1, 0, 0, 0) :: (34, .invokespecial 34, 3, 0, 0, 1) :: (37, .invokevirtual 37, 3, 68, 0, 0) :: (40, .ireturn, 1, 0, 0, 0) :: []
def k_X8_put_21 : List Ent := (21, .bipush (-2), 2, 2, 1, 0) :: (23, .ireturn, 1, 0, 0, 0) :: k_X8_put_24
def k_X8_put_0 : List Ent := (0, .iload_n 1, 1, 0, 0, 0) :: (1, .invokestatic 25, 3, 60, 0, 2) :: (4, .ifCond .eq 17, 3, 21, 0, 0) :: (7, .iload_n 2, 1, 0, 0, 0) :: (8, .invokestatic 29, 3, 61, 0, 2) :: (11, .ifCond .eq 10, 3, 21, 0, 0) :: (14, .iload_n 3, 1, 0, 0, 0) :: (15, .invokestatic 41, 3, 62, 0, 2) :: (18, .ifCond .ne 6, 3, 24, 0, 0) :: k_X8_put_21
def M_X8_put : MI := (yX8_put, cX8_put, 4, (some .int), 11, 252, 8, 4, 10, k_X8_put_0)
theorem sk_X8_put_21 : sm_seek (mP M_X8_put) 21 = k_X8_put_21 := rfl
theorem sk_X8_put_24 : sm_seek (mP M_X8_put) 24 = k_X8_put_24 := rfl
def k_X8_take_24 : List Ent := (24, .aload_n 0, 1, 0, 0, 0) :: (25, .iload_n 1, 1, 0, 0, 0) :: (26, .new 32, 3, 1, 4, 0) :: (29, .dup, 1, 0, 0, 0) :: (30, .iconst 2, 1, 2, 0, 0) :: (31, .iload_n 2, 1, 0, 0, 0) :: (32, .iload_n 3, 1, 0, 0, 0) :: (33, .aconst_null, 1, 0, 0, 0) :: (34, .invokespecial 34, 3, 0, 0, 1) :: (37, .invokevirtual 37, 3, 68, 0, 0) :: (40, .ireturn, 1, 0, 0, 0) :: []
def k_X8_take_21 : List Ent := (21, .bipush (-2), 2, 2, 1, 0) :: (23, .ireturn, 1, 0, 0, 0) :: k_X8_take_24
def k_X8_take_0 : List Ent := (0, .iload_n 1, 1, 0, 0, 0) :: (1, .invokestatic 25, 3, 60, 0, 2) :: (4, .ifCond .eq 17, 3, 21, 0, 0) :: (7, .iload_n 2, 1, 0, 0, 0) :: (8, .invokestatic 29, 3, 61, 0, 2) :: (11, .ifCond .eq 10, 3, 21, 0, 0) :: (14, .iload_n 3, 1, 0, 0, 0) :: (15, .invokestatic 41, 3, 62, 0, 2) :: (18, .ifCond .ne 6, 3, 24, 0, 0) :: k_X8_take_21
def M_X8_take : MI := (yX8_take, cX8_take, 4, (some .int), 11, 252, 8, 4, 10, k_X8_take_0)
theorem sk_X8_take_21 : sm_seek (mP M_X8_take) 21 = k_X8_take_21 := rfl
theorem sk_X8_take_24 : sm_seek (mP M_X8_take) 24 = k_X8_take_24 := rfl
def k_X8_write_17 : List Ent := (17, .aload_n 0, 1, 0, 0, 0) :: (18, .iload_n 1, 1, 0, 0, 0) :: (19, .new 32, 3, 1, 4, 0) :: (22, .dup, 1, 0, 0, 0) :: (23, .iconst 3, 1, 3, 0, 0) :: (24, .iload_n 2, 1, 0, 0, 0) :: (25, .iload_n 3, 1, 0, 0, 0) :: (26, .aconst_null, 1, 0, 0, 0) :: (27, .invokespecial 34, 3, 0, 0, 1) :: (30, .invokevirtual 37, 3, 68, 0, 0) :: (33, .ireturn, 1, 0, 0, 0) :: []
def k_X8_write_14 : List Ent := (14, .bipush (-2), 2, 2, 1, 0) :: (16, .ireturn, 1, 0, 0, 0) :: k_X8_write_17
def k_X8_write_0 : List Ent := (0, .iload_n 1, 1, 0, 0, 0) :: (1, .invokestatic 25, 3, 60, 0, 2) :: (4, .ifCond .eq 10, 3, 14, 0, 0) :: (7, .iload_n 2, 1, 0, 0, 0) :: (8, .invokestatic 29, 3, 61, 0, 2) :: (11, .ifCond .ne 6, 3, 17, 0, 0) :: k_X8_write_14
def M_X8_write : MI := (yX8_write, cX8_write, 4, (some .int), 11, 252, 8, 4, 10, k_X8_write_0)
theorem sk_X8_write_14 : sm_seek (mP M_X8_write) 14 = k_X8_write_14 := rfl
theorem sk_X8_write_17 : sm_seek (mP M_X8_write) 17 = k_X8_write_17 := rfl
def k_X8_insert_78 : List Ent := (78, .aload_n 0, 1, 0, 0, 0) :: (79, .iload_n 1, 1, 0, 0, 0) :: (80, .new 32, 3, 1, 4, 0) :: (83, .dup, 1, 0, 0, 0) :: (84, .iconst 4, 1, 4, 0, 0) :: (85, .iload_n 2, 1, 0, 0, 0) :: (86, .iload 4, 2, 0, 0, 0) :: (88, .aload 5, 2, 0, 0, 0) :: (90, .getfield 57, 3, 3, 64, 1) :: (93, .invokespecial 34, 3, 0, 0, 1) :: (96, .invokevirtual 37, 3, 68, 0, 0) :: (99, .ireturn, 1, 0, 0, 0) :: []
def k_X8_insert_51 : List Ent := (51, .aload_n 0, 1, 0, 0, 0) :: (52, .getfield 11, 3, 9, 256, 1) :: (55, .iload_n 1, 1, 0, 0, 0) :: (56, .aaload, 1, 0, 0, 0) :: (57, .getfield 47, 3, 6, 165, 1) :: (60, .iload_n 2, 1, 0, 0, 0) :: (61, .aaload, 1, 0, 0, 0) :: (62, .iload_n 3, 1, 0, 0, 0) :: (63, .iconst 1, 1, 1, 0, 0) :: (64, .isub, 1, 0, 0, 0) :: (65, .invokevirtual 51, 3, 29, 0, 0) :: (68, .astore 5, 2, 0, 0, 0) :: (70, .aload 5, 2, 0, 0, 0) :: (72, .ifnonnull 6, 3, 78, 0, 0) :: (75, .bipush (-2), 2, 2, 1, 0) :: (77, .ireturn, 1, 0, 0, 0) :: k_X8_insert_78
def k_X8_insert_29 : List Ent := (29, .iload_n 3, 1, 0, 0, 0) :: (30, .ifCond .ne 21, 3, 51, 0, 0) :: (33, .aload_n 0, 1, 0, 0, 0) :: (34, .iload_n 1, 1, 0, 0, 0) :: (35, .new 32, 3, 1, 4, 0) :: (38, .dup, 1, 0, 0, 0) :: (39, .iconst 4, 1, 4, 0, 0) :: (40, .iload_n 2, 1, 0, 0, 0) :: (41, .iload 4, 2, 0, 0, 0) :: (43, .aconst_null, 1, 0, 0, 0) :: (44, .invokespecial 34, 3, 0, 0, 1) :: (47, .invokevirtual 37, 3, 68, 0, 0) :: (50, .ireturn, 1, 0, 0, 0) :: k_X8_insert_51
def k_X8_insert_26 : List Ent := (26, .bipush (-2), 2, 2, 1, 0) :: (28, .ireturn, 1, 0, 0, 0) :: k_X8_insert_29
def k_X8_insert_0 : List Ent := (0, .iload_n 1, 1, 0, 0, 0) :: (1, .invokestatic 25, 3, 60, 0, 2) :: (4, .ifCond .eq 22, 3, 26, 0, 0) :: (7, .iload_n 2, 1, 0, 0, 0) :: (8, .invokestatic 29, 3, 61, 0, 2) :: (11, .ifCond .eq 15, 3, 26, 0, 0) :: (14, .iload_n 3, 1, 0, 0, 0) :: (15, .ifCond .lt 11, 3, 26, 0, 0) :: (18, .iload 4, 2, 0, 0, 0) :: (20, .invokestatic 44, 3, 63, 0, 2) :: (23, .ifCond .ne 6, 3, 29, 0, 0) :: k_X8_insert_26
def M_X8_insert : MI := (yX8_insert, cX8_insert, 6, (some .int), 11, 252, 8, 5, 10, k_X8_insert_0)
theorem sk_X8_insert_26 : sm_seek (mP M_X8_insert) 26 = k_X8_insert_26 := rfl
theorem sk_X8_insert_29 : sm_seek (mP M_X8_insert) 29 = k_X8_insert_29 := rfl
theorem sk_X8_insert_51 : sm_seek (mP M_X8_insert) 51 = k_X8_insert_51 := rfl
theorem sk_X8_insert_78 : sm_seek (mP M_X8_insert) 78 = k_X8_insert_78 := rfl
def k_X8_remove_42 : List Ent := (42, .aload_n 0, 1, 0, 0, 0) :: (43, .iload_n 1, 1, 0, 0, 0) :: (44, .new 32, 3, 1, 4, 0) :: (47, .dup, 1, 0, 0, 0) :: (48, .iconst 5, 1, 5, 0, 0) :: (49, .iload_n 2, 1, 0, 0, 0) :: (50, .iconst 0, 1, 0, 0, 0) :: (51, .aload 4, 2, 0, 0, 0) :: (53, .getfield 57, 3, 3, 64, 1) :: (56, .invokespecial 34, 3, 0, 0, 1) :: (59, .invokevirtual 37, 3, 68, 0, 0) :: (62, .ireturn, 1, 0, 0, 0) :: []
def k_X8_remove_17 : List Ent := (17, .aload_n 0, 1, 0, 0, 0) :: (18, .getfield 11, 3, 9, 256, 1) :: (21, .iload_n 1, 1, 0, 0, 0) :: (22, .aaload, 1, 0, 0, 0) :: (23, .getfield 47, 3, 6, 165, 1) :: (26, .iload_n 2, 1, 0, 0, 0) :: (27, .aaload, 1, 0, 0, 0) :: (28, .iload_n 3, 1, 0, 0, 0) :: (29, .invokevirtual 51, 3, 29, 0, 0) :: (32, .astore 4, 2, 0, 0, 0) :: (34, .aload 4, 2, 0, 0, 0) :: (36, .ifnonnull 6, 3, 42, 0, 0) :: (39, .bipush (-2), 2, 2, 1, 0) :: (41, .ireturn, 1, 0, 0, 0) :: k_X8_remove_42
def k_X8_remove_14 : List Ent := (14, .bipush (-2), 2, 2, 1, 0) :: (16, .ireturn, 1, 0, 0, 0) :: k_X8_remove_17
def k_X8_remove_0 : List Ent := (0, .iload_n 1, 1, 0, 0, 0) :: (1, .invokestatic 25, 3, 60, 0, 2) :: (4, .ifCond .eq 10, 3, 14, 0, 0) :: (7, .iload_n 2, 1, 0, 0, 0) :: (8, .invokestatic 29, 3, 61, 0, 2) :: (11, .ifCond .ne 6, 3, 17, 0, 0) :: k_X8_remove_14
def M_X8_remove : MI := (yX8_remove, cX8_remove, 5, (some .int), 11, 252, 8, 4, 10, k_X8_remove_0)
theorem sk_X8_remove_14 : sm_seek (mP M_X8_remove) 14 = k_X8_remove_14 := rfl
theorem sk_X8_remove_17 : sm_seek (mP M_X8_remove) 17 = k_X8_remove_17 := rfl
theorem sk_X8_remove_42 : sm_seek (mP M_X8_remove) 42 = k_X8_remove_42 := rfl
def k_X8_deliver_79 : List Ent := (79, .iload 6, 2, 0, 0, 0) :: (81, .ireturn, 1, 0, 0, 0) :: []
def k_X8_deliver_32 : List Ent := (32, .aload_n 0, 1, 0, 0, 0) :: (33, .iload_n 1, 1, 0, 0, 0) :: (34, .iload_n 2, 1, 0, 0, 0) :: (35, .invokevirtual 71, 3, 67, 0, 0) :: (38, .getfield 75, 3, 8, 224, 1) :: (41, .iload_n 3, 1, 0, 0, 0) :: (42, .invokevirtual 79, 3, 137, 0, 0) :: (45, .checkcast 85, 3, 4, 0, 0) :: (48, .astore 5, 2, 0, 0, 0) :: (50, .aload 4, 2, 0, 0, 0) :: (52, .aload 5, 2, 0, 0, 0) :: (54, .invokevirtual 87, 3, 15, 0, 0) :: (57, .istore 6, 2, 0, 0, 0) :: (59, .aload 5, 2, 0, 0, 0) :: (61, .getfield 91, 3, 4, 96, 0) :: (64, .iconst 2, 1, 2, 0, 0) :: (65, .if_icmp .ne 14, 3, 79, 0, 0) :: (68, .aload_n 0, 1, 0, 0, 0) :: (69, .iload_n 2, 1, 0, 0, 0) :: (70, .iload_n 1, 1, 0, 0, 0) :: (71, .aload 5, 2, 0, 0, 0) :: (73, .getfield 95, 3, 4, 98, 1) :: (76, .invokevirtual 99, 3, 70, 0, 0) :: k_X8_deliver_79
def k_X8_deliver_13 : List Ent := (13, .aload_n 0, 1, 0, 0, 0) :: (14, .getfield 11, 3, 9, 256, 1) :: (17, .iload_n 2, 1, 0, 0, 0) :: (18, .aaload, 1, 0, 0, 0) :: (19, .astore 4, 2, 0, 0, 0) :: (21, .aload 4, 2, 0, 0, 0) :: (23, .getfield 67, 3, 6, 169, 2) :: (26, .ifCond .ne 6, 3, 32, 0, 0) :: (29, .bipush (-4), 2, 4, 1, 0) :: (31, .ireturn, 1, 0, 0, 0) :: k_X8_deliver_32
def k_X8_deliver_0 : List Ent := (0, .aload_n 0, 1, 0, 0, 0) :: (1, .iload_n 1, 1, 0, 0, 0) :: (2, .iload_n 2, 1, 0, 0, 0) :: (3, .iload_n 3, 1, 0, 0, 0) :: (4, .invokevirtual 63, 3, 66, 0, 0) :: (7, .ifCond .ne 6, 3, 13, 0, 0) :: (10, .bipush (-2), 2, 2, 1, 0) :: (12, .ireturn, 1, 0, 0, 0) :: k_X8_deliver_13
def M_X8_deliver : MI := (yX8_deliver, cX8_deliver, 7, (some .int), 11, 248, 8, 4, 10, k_X8_deliver_0)
theorem sk_X8_deliver_13 : sm_seek (mP M_X8_deliver) 13 = k_X8_deliver_13 := rfl
theorem sk_X8_deliver_32 : sm_seek (mP M_X8_deliver) 32 = k_X8_deliver_32 := rfl
theorem sk_X8_deliver_79 : sm_seek (mP M_X8_deliver) 79 = k_X8_deliver_79 := rfl
def k_X8_copy_32 : List Ent := (32, .aload 4, 2, 0, 0, 0) :: (34, .aload 4, 2, 0, 0, 0) :: (36, .getfield 75, 3, 8, 224, 1) :: (39, .iload_n 3, 1, 0, 0, 0) :: (40, .invokevirtual 107, 3, 134, 0, 0) :: (43, .checkcast 85, 3, 4, 0, 0) :: (46, .invokevirtual 110, 3, 35, 0, 0) :: (49, .aload 4, 2, 0, 0, 0) :: (51, .getfield 75, 3, 8, 224, 1) :: (54, .invokevirtual 114, 3, 131, 0, 0) :: (57, .ireturn, 1, 0, 0, 0) :: []
def k_X8_copy_13 : List Ent := (13, .aload_n 0, 1, 0, 0, 0) :: (14, .iload_n 1, 1, 0, 0, 0) :: (15, .iload_n 2, 1, 0, 0, 0) :: (16, .invokevirtual 71, 3, 67, 0, 0) :: (19, .astore 4, 2, 0, 0, 0) :: (21, .aload 4, 2, 0, 0, 0) :: (23, .invokevirtual 103, 3, 34, 0, 0) :: (26, .ifCond .eq 6, 3, 32, 0, 0) :: (29, .bipush (-3), 2, 3, 1, 0) :: (31, .ireturn, 1, 0, 0, 0) :: k_X8_copy_32
def k_X8_copy_0 : List Ent := (0, .aload_n 0, 1, 0, 0, 0) :: (1, .iload_n 1, 1, 0, 0, 0) :: (2, .iload_n 2, 1, 0, 0, 0) :: (3, .iload_n 3, 1, 0, 0, 0) :: (4, .invokevirtual 63, 3, 66, 0, 0) :: (7, .ifCond .ne 6, 3, 13, 0, 0) :: (10, .bipush (-2), 2, 2, 1, 0) :: (12, .ireturn, 1, 0, 0, 0) :: k_X8_copy_13
def M_X8_copy : MI := (yX8_copy, cX8_copy, 5, (some .int), 8, 181, 8, 4, 10, k_X8_copy_0)
theorem sk_X8_copy_13 : sm_seek (mP M_X8_copy) 13 = k_X8_copy_13 := rfl
theorem sk_X8_copy_32 : sm_seek (mP M_X8_copy) 32 = k_X8_copy_32 := rfl
def k_X8_lose_13 : List Ent := (13, .aload_n 0, 1, 0, 0, 0) :: (14, .iload_n 1, 1, 0, 0, 0) :: (15, .iload_n 2, 1, 0, 0, 0) :: (16, .invokevirtual 71, 3, 67, 0, 0) :: (19, .astore 4, 2, 0, 0, 0) :: (21, .aload 4, 2, 0, 0, 0) :: (23, .getfield 75, 3, 8, 224, 1) :: (26, .iload_n 3, 1, 0, 0, 0) :: (27, .invokevirtual 79, 3, 137, 0, 0) :: (30, .pop, 1, 0, 0, 0) :: (31, .aload 4, 2, 0, 0, 0) :: (33, .getfield 75, 3, 8, 224, 1) :: (36, .invokevirtual 114, 3, 131, 0, 0) :: (39, .ireturn, 1, 0, 0, 0) :: []
def k_X8_lose_0 : List Ent := (0, .aload_n 0, 1, 0, 0, 0) :: (1, .iload_n 1, 1, 0, 0, 0) :: (2, .iload_n 2, 1, 0, 0, 0) :: (3, .iload_n 3, 1, 0, 0, 0) :: (4, .invokevirtual 63, 3, 66, 0, 0) :: (7, .ifCond .ne 6, 3, 13, 0, 0) :: (10, .bipush (-2), 2, 2, 1, 0) :: (12, .ireturn, 1, 0, 0, 0) :: k_X8_lose_13
def M_X8_lose : MI := (yX8_lose, cX8_lose, 5, (some .int), 4, 94, 8, 4, 10, k_X8_lose_0)
theorem sk_X8_lose_13 : sm_seek (mP M_X8_lose) 13 = k_X8_lose_13 := rfl
def k_X8_ask_0 : List Ent := (0, .aload_n 0, 1, 0, 0, 0) :: (1, .iload_n 1, 1, 0, 0, 0) :: (2, .iload_n 2, 1, 0, 0, 0) :: (3, .iconst 2, 1, 2, 0, 0) :: (4, .invokevirtual 118, 3, 69, 0, 0) :: (7, .ireturn, 1, 0, 0, 0) :: []
def M_X8_ask : MI := (yX8_ask, cX8_ask, 3, (some .int), 9, 205, 8, 3, 10, k_X8_ask_0)
def k_X8_tell_0 : List Ent := (0, .aload_n 0, 1, 0, 0, 0) :: (1, .iload_n 1, 1, 0, 0, 0) :: (2, .iload_n 2, 1, 0, 0, 0) :: (3, .iconst 1, 1, 1, 0, 0) :: (4, .invokevirtual 118, 3, 69, 0, 0) :: (7, .ireturn, 1, 0, 0, 0) :: []
def M_X8_tell : MI := (yX8_tell, cX8_tell, 3, (some .int), 9, 205, 8, 3, 10, k_X8_tell_0)
