/-! 14: the code of M, block by block -/
def bM_tune_24 : List Item := [(24, 1, .iload_n 1, [], 0, mi0), (25, 1, .iconst 2, [], 0, mi0), (26, 3, .if_icmp .ne 8, [34], 0, mi0), (29, 2, .bipush 30, [], 0, mi0), (31, 3, .goto 6, [37], 0, mi0)]
theorem oM_tune_24 : okB mM_tune 24 bM_tune_24 34 = true := by decide +kernel
def bM_tune_34 : List Item := [(34, 3, .sipush 4095, [], 0, mi0)]
theorem oM_tune_34 : okB mM_tune 34 bM_tune_34 37 = true := by decide +kernel
def bM_tune_37 : List Item := [(37, 1, .istore_n 3, [], 0, mi0), (38, 1, .iload_n 1, [], 0, mi0), (39, 1, .iconst 0, [], 0, mi0), (40, 1, .iconst 4, [], 0, mi0), (41, 3, .invokestatic 105, [3, 0, 0, 8, 0, 5004, 5005, 0, 5006, 1011], 0, mM_in), (44, 3, .ifCond .eq 25, [69], 0, mi0), (47, 1, .iload_n 2, [], 0, mi0), (48, 1, .iload_n 1, [], 0, mi0), (49, 3, .ifCond .eq 8, [57], 0, mi0), (52, 1, .iload_n 1, [], 0, mi0), (53, 1, .iconst 3, [], 0, mi0), (54, 3, .if_icmp .ne 7, [61], 0, mi0)]
theorem oM_tune_37 : okB mM_tune 37 bM_tune_37 57 = true := by decide +kernel
def bM_tune_57 : List Item := [(57, 1, .iconst 1, [], 0, mi0), (58, 3, .goto 4, [62], 0, mi0)]
theorem oM_tune_57 : okB mM_tune 57 bM_tune_57 61 = true := by decide +kernel
def bM_tune_61 : List Item := [(61, 1, .iconst 0, [], 0, mi0)]
theorem oM_tune_61 : okB mM_tune 61 bM_tune_61 62 = true := by decide +kernel
def bM_tune_62 : List Item := [(62, 1, .iload_n 3, [], 0, mi0), (63, 3, .invokestatic 105, [3, 0, 0, 8, 0, 5004, 5005, 0, 5006, 1011], 0, mM_in), (66, 3, .ifCond .ne 5, [71], 0, mi0)]
theorem oM_tune_62 : okB mM_tune 62 bM_tune_62 69 = true := by decide +kernel
def bM_tune_69 : List Item := [(69, 1, .iconst (-1), [], 0, mi0), (70, 1, .ireturn, [], 0, mi0)]
theorem oM_tune_69 : okB mM_tune 69 bM_tune_69 71 = true := by decide +kernel
def bM_tune_71 : List Item := [(71, 1, .aload_n 0, [], 0, mi0), (72, 3, .getfield 62, [8, 19, 4131], 0, mi0), (75, 1, .iload_n 1, [], 0, mi0), (76, 1, .iaload, [], 0, mi0), (77, 2, .istore 4, [], 0, mi0), (79, 1, .aload_n 0, [], 0, mi0), (80, 3, .getfield 62, [8, 19, 4131], 0, mi0), (83, 1, .iload_n 1, [], 0, mi0), (84, 1, .iload_n 1, [], 0, mi0), (85, 1, .iconst 4, [], 0, mi0), (86, 3, .if_icmp .ne 12, [98], 0, mi0), (89, 1, .iload_n 2, [], 0, mi0), (90, 1, .aload_n 0, [], 0, mi0), (91, 3, .invokevirtual 172, [1, 0, 0, 8, 0, 5072, 5074, 14010, 5075, 1011], 0, mM_allDoors), (94, 1, .iand, [], 0, mi0), (95, 3, .goto 4, [99], 0, mi0)]
theorem oM_tune_71 : okB mM_tune 71 bM_tune_71 98 = true := by decide +kernel
def bM_tune_98 : List Item := [(98, 1, .iload_n 2, [], 0, mi0)]
theorem oM_tune_98 : okB mM_tune 98 bM_tune_98 99 = true := by decide +kernel
def bM_tune_99 : List Item := [(99, 1, .iastore, [], 0, mi0), (100, 2, .iload 4, [], 0, mi0), (102, 1, .ireturn, [], 0, mi0)]
theorem oM_tune_99 : okB mM_tune 99 bM_tune_99 103 = true := by decide +kernel
def bM_allDoors_0 : List Item := [(0, 1, .iconst 0, [], 0, mi0), (1, 1, .istore_n 1, [], 0, mi0), (2, 1, .iconst 0, [], 0, mi0), (3, 1, .istore_n 2, [], 0, mi0)]
theorem oM_allDoors_0 : okB mM_allDoors 0 bM_allDoors_0 4 = true := by decide +kernel
def bM_allDoors_4 : List Item := [(4, 1, .iload_n 2, [], 0, mi0), (5, 1, .aload_n 0, [], 0, mi0), (6, 3, .getfield 17, [8, 4, 4116], 0, mi0), (9, 1, .iconst 0, [], 0, mi0), (10, 1, .iaload, [], 0, mi0), (11, 3, .if_icmp .ge 20, [31], 0, mi0), (14, 1, .iload_n 1, [], 0, mi0), (15, 1, .aload_n 0, [], 0, mi0), (16, 3, .getfield 29, [8, 8, 4120], 0, mi0), (19, 1, .iload_n 2, [], 0, mi0), (20, 1, .iaload, [], 0, mi0), (21, 1, .iload_n 2, [], 0, mi0), (22, 1, .ishl, [], 0, mi0), (23, 1, .ior, [], 0, mi0), (24, 1, .istore_n 1, [], 0, mi0), (25, 3, .iinc 2 1, [], 0, mi0), (28, 3, .goto (-24), [4], 0, mi0)]
theorem oM_allDoors_4 : okB mM_allDoors 4 bM_allDoors_4 31 = true := by decide +kernel
def bM_allDoors_31 : List Item := [(31, 1, .iload_n 1, [], 0, mi0), (32, 1, .ireturn, [], 0, mi0)]
theorem oM_allDoors_31 : okB mM_allDoors 31 bM_allDoors_31 33 = true := by decide +kernel
def bM_room_0 : List Item := [(0, 1, .aload_n 0, [], 0, mi0), (1, 1, .iload_n 1, [], 0, mi0), (2, 3, .invokevirtual 180, [2, 0, 0, 8, 0, 5080, 5082, 14011, 5083, 1011], 0, mM_isRoom), (5, 3, .ifCond .eq 12, [17], 0, mi0), (8, 1, .iload_n 2, [], 0, mi0), (9, 1, .iconst 0, [], 0, mi0), (10, 1, .iconst 3, [], 0, mi0), (11, 3, .invokestatic 105, [3, 0, 0, 8, 0, 5004, 5005, 0, 5006, 1011], 0, mM_in), (14, 3, .ifCond .ne 5, [19], 0, mi0)]
theorem oM_room_0 : okB mM_room 0 bM_room_0 17 = true := by decide +kernel
def bM_room_17 : List Item := [(17, 1, .iconst (-1), [], 0, mi0), (18, 1, .ireturn, [], 0, mi0)]
theorem oM_room_17 : okB mM_room 17 bM_room_17 19 = true := by decide +kernel
def bM_room_19 : List Item := [(19, 1, .aload_n 0, [], 0, mi0), (20, 3, .invokevirtual 183, [1, 0, 0, 8, 0, 5084, 5086, 14012, 5087, 1011], 0, mM_look), (23, 1, .iload_n 2, [], 0, mi0), (24, 3, .ifCond .ne 12, [36], 0, mi0), (27, 1, .aload_n 0, [], 0, mi0), (28, 3, .getfield 68, [8, 27, 4139], 0, mi0), (31, 1, .iload_n 1, [], 0, mi0), (32, 1, .iaload, [], 0, mi0), (33, 3, .goto 37, [70], 0, mi0)]
theorem oM_room_19 : okB mM_room 19 bM_room_19 36 = true := by decide +kernel
def bM_room_36 : List Item := [(36, 1, .iload_n 2, [], 0, mi0), (37, 1, .iconst 1, [], 0, mi0), (38, 3, .if_icmp .ne 12, [50], 0, mi0), (41, 1, .aload_n 0, [], 0, mi0), (42, 3, .getfield 71, [8, 28, 4140], 0, mi0), (45, 1, .iload_n 1, [], 0, mi0), (46, 1, .iaload, [], 0, mi0), (47, 3, .goto 23, [70], 0, mi0)]
theorem oM_room_36 : okB mM_room 36 bM_room_36 50 = true := by decide +kernel
def bM_room_50 : List Item := [(50, 1, .iload_n 2, [], 0, mi0), (51, 1, .iconst 2, [], 0, mi0), (52, 3, .if_icmp .ne 12, [64], 0, mi0), (55, 1, .aload_n 0, [], 0, mi0), (56, 3, .getfield 74, [8, 29, 4141], 0, mi0), (59, 1, .iload_n 1, [], 0, mi0), (60, 1, .iaload, [], 0, mi0), (61, 3, .goto 9, [70], 0, mi0)]
theorem oM_room_50 : okB mM_room 50 bM_room_50 64 = true := by decide +kernel
def bM_room_64 : List Item := [(64, 1, .aload_n 0, [], 0, mi0), (65, 1, .iload_n 1, [], 0, mi0), (66, 1, .iconst 0, [], 0, mi0), (67, 3, .invokevirtual 186, [3, 0, 0, 8, 0, 5093, 5095, 14014, 5096, 1011], 0, mM_leaveOf)]
theorem oM_room_64 : okB mM_room 64 bM_room_64 70 = true := by decide +kernel
def bM_room_70 : List Item := [(70, 1, .istore_n 3, [], 0, mi0), (71, 1, .iload_n 3, [], 0, mi0), (72, 2, .ldc 175, [0, 0, 5088], 1000000, mi0), (74, 3, .if_icmp .lt 8, [82], 0, mi0), (77, 2, .bipush (-9), [], 0, mi0), (79, 3, .goto 4, [83], 0, mi0)]
theorem oM_room_70 : okB mM_room 70 bM_room_70 82 = true := by decide +kernel
def bM_room_82 : List Item := [(82, 1, .iload_n 3, [], 0, mi0)]
theorem oM_room_82 : okB mM_room 82 bM_room_82 83 = true := by decide +kernel
def bM_room_83 : List Item := [(83, 1, .ireturn, [], 0, mi0)]
theorem oM_room_83 : okB mM_room 83 bM_room_83 84 = true := by decide +kernel
def bM_isRoom_0 : List Item := [(0, 1, .iload_n 1, [], 0, mi0), (1, 1, .iconst 0, [], 0, mi0), (2, 1, .aload_n 0, [], 0, mi0), (3, 3, .getfield 13, [8, 3, 4115], 0, mi0), (6, 1, .iconst 0, [], 0, mi0), (7, 1, .iaload, [], 0, mi0), (8, 1, .iconst 1, [], 0, mi0), (9, 1, .isub, [], 0, mi0), (10, 3, .invokestatic 105, [3, 0, 0, 8, 0, 5004, 5005, 0, 5006, 1011], 0, mM_in), (13, 1, .ireturn, [], 0, mi0)]
theorem oM_isRoom_0 : okB mM_isRoom 0 bM_isRoom_0 14 = true := by decide +kernel
def bM_look_0 : List Item := [(0, 1, .iconst 0, [], 0, mi0), (1, 1, .istore_n 1, [], 0, mi0)]
theorem oM_look_0 : okB mM_look 0 bM_look_0 2 = true := by decide +kernel
def bM_look_2 : List Item := [(2, 1, .iload_n 1, [], 0, mi0), (3, 2, .bipush 8, [], 0, mi0), (5, 3, .if_icmp .ge 41, [46], 0, mi0), (8, 1, .aload_n 0, [], 0, mi0), (9, 3, .getfield 68, [8, 27, 4139], 0, mi0), (12, 1, .iload_n 1, [], 0, mi0), (13, 1, .iload_n 1, [], 0, mi0), (14, 3, .ifCond .ne 7, [21], 0, mi0), (17, 1, .iconst 0, [], 0, mi0), (18, 3, .goto 5, [23], 0, mi0)]
theorem oM_look_2 : okB mM_look 2 bM_look_2 21 = true := by decide +kernel
def bM_look_21 : List Item := [(21, 2, .ldc 175, [0, 0, 5088], 1000000, mi0)]
theorem oM_look_21 : okB mM_look 21 bM_look_21 23 = true := by decide +kernel
def bM_look_23 : List Item := [(23, 1, .iastore, [], 0, mi0), (24, 1, .aload_n 0, [], 0, mi0), (25, 3, .getfield 74, [8, 29, 4141], 0, mi0), (28, 1, .iload_n 1, [], 0, mi0), (29, 2, .ldc 175, [0, 0, 5088], 1000000, mi0), (31, 1, .iastore, [], 0, mi0), (32, 1, .aload_n 0, [], 0, mi0), (33, 3, .getfield 71, [8, 28, 4140], 0, mi0), (36, 1, .iload_n 1, [], 0, mi0), (37, 2, .bipush (-9), [], 0, mi0), (39, 1, .iastore, [], 0, mi0), (40, 3, .iinc 1 1, [], 0, mi0), (43, 3, .goto (-41), [2], 0, mi0)]
theorem oM_look_23 : okB mM_look 23 bM_look_23 46 = true := by decide +kernel
def bM_look_46 : List Item := [(46, 1, .iconst 0, [], 0, mi0), (47, 1, .istore_n 1, [], 0, mi0)]
theorem oM_look_46 : okB mM_look 46 bM_look_46 48 = true := by decide +kernel
def bM_look_48 : List Item := [(48, 1, .iload_n 1, [], 0, mi0), (49, 1, .aload_n 0, [], 0, mi0), (50, 3, .getfield 53, [8, 16, 4128], 0, mi0), (53, 1, .iconst 0, [], 0, mi0), (54, 1, .iaload, [], 0, mi0), (55, 3, .if_icmp .ge 60, [115], 0, mi0), (58, 1, .aload_n 0, [], 0, mi0), (59, 3, .getfield 74, [8, 29, 4141], 0, mi0), (62, 1, .aload_n 0, [], 0, mi0), (63, 3, .getfield 56, [8, 17, 4129], 0, mi0), (66, 1, .iload_n 1, [], 0, mi0), (67, 1, .iaload, [], 0, mi0), (68, 1, .aload_n 0, [], 0, mi0), (69, 3, .getfield 59, [8, 18, 4130], 0, mi0), (72, 1, .iload_n 1, [], 0, mi0), (73, 1, .iaload, [], 0, mi0), (74, 1, .aload_n 0, [], 0, mi0), (75, 3, .getfield 74, [8, 29, 4141], 0, mi0), (78, 1, .aload_n 0, [], 0, mi0), (79, 3, .getfield 56, [8, 17, 4129], 0, mi0), (82, 1, .iload_n 1, [], 0, mi0), (83, 1, .iaload, [], 0, mi0), (84, 1, .iaload, [], 0, mi0), (85, 3, .if_icmp .ge 12, [97], 0, mi0), (88, 1, .aload_n 0, [], 0, mi0), (89, 3, .getfield 59, [8, 18, 4130], 0, mi0), (92, 1, .iload_n 1, [], 0, mi0), (93, 1, .iaload, [], 0, mi0), (94, 3, .goto 14, [108], 0, mi0)]
theorem oM_look_48 : okB mM_look 48 bM_look_48 97 = true := by decide +kernel
def bM_look_97 : List Item := [(97, 1, .aload_n 0, [], 0, mi0), (98, 3, .getfield 74, [8, 29, 4141], 0, mi0), (101, 1, .aload_n 0, [], 0, mi0), (102, 3, .getfield 56, [8, 17, 4129], 0, mi0), (105, 1, .iload_n 1, [], 0, mi0), (106, 1, .iaload, [], 0, mi0), (107, 1, .iaload, [], 0, mi0)]
theorem oM_look_97 : okB mM_look 97 bM_look_97 108 = true := by decide +kernel
def bM_look_108 : List Item := [(108, 1, .iastore, [], 0, mi0), (109, 3, .iinc 1 1, [], 0, mi0), (112, 3, .goto (-64), [48], 0, mi0)]
theorem oM_look_108 : okB mM_look 108 bM_look_108 115 = true := by decide +kernel
def bM_look_115 : List Item := [(115, 1, .iconst 0, [], 0, mi0), (116, 1, .istore_n 1, [], 0, mi0)]
theorem oM_look_115 : okB mM_look 115 bM_look_115 117 = true := by decide +kernel
def bM_look_117 : List Item := [(117, 1, .iload_n 1, [], 0, mi0), (118, 2, .bipush 8, [], 0, mi0), (120, 3, .if_icmp .ge 278, [398], 0, mi0), (123, 1, .iconst 0, [], 0, mi0), (124, 1, .istore_n 2, [], 0, mi0)]
theorem oM_look_117 : okB mM_look 117 bM_look_117 125 = true := by decide +kernel
def bM_look_125 : List Item := [(125, 1, .iload_n 2, [], 0, mi0), (126, 1, .aload_n 0, [], 0, mi0), (127, 3, .getfield 17, [8, 4, 4116], 0, mi0), (130, 1, .iconst 0, [], 0, mi0), (131, 1, .iaload, [], 0, mi0), (132, 3, .if_icmp .ge 260, [392], 0, mi0), (135, 1, .aload_n 0, [], 0, mi0), (136, 3, .getfield 20, [8, 5, 4117], 0, mi0), (139, 1, .iload_n 2, [], 0, mi0), (140, 1, .iaload, [], 0, mi0), (141, 1, .istore_n 3, [], 0, mi0), (142, 1, .aload_n 0, [], 0, mi0), (143, 3, .getfield 23, [8, 6, 4118], 0, mi0), (146, 1, .iload_n 2, [], 0, mi0), (147, 1, .iaload, [], 0, mi0), (148, 2, .istore 4, [], 0, mi0), (150, 1, .aload_n 0, [], 0, mi0), (151, 3, .getfield 62, [8, 19, 4131], 0, mi0), (154, 1, .iconst 0, [], 0, mi0), (155, 1, .iaload, [], 0, mi0), (156, 1, .aload_n 0, [], 0, mi0), (157, 3, .getfield 26, [8, 7, 4119], 0, mi0), (160, 1, .iload_n 2, [], 0, mi0), (161, 1, .iaload, [], 0, mi0), (162, 1, .imul, [], 0, mi0), (163, 1, .aload_n 0, [], 0, mi0), (164, 1, .iload_n 2, [], 0, mi0), (165, 3, .invokevirtual 165, [2, 0, 0, 8, 0, 5056, 5058, 14008, 5059, 1011], 0, mM_isShut), (168, 3, .ifCond .eq 12, [180], 0, mi0), (171, 1, .aload_n 0, [], 0, mi0), (172, 3, .getfield 62, [8, 19, 4131], 0, mi0), (175, 1, .iconst 1, [], 0, mi0), (176, 1, .iaload, [], 0, mi0), (177, 3, .goto 4, [181], 0, mi0)]
theorem oM_look_125 : okB mM_look 125 bM_look_125 180 = true := by decide +kernel
def bM_look_180 : List Item := [(180, 1, .iconst 0, [], 0, mi0)]
theorem oM_look_180 : okB mM_look 180 bM_look_180 181 = true := by decide +kernel
def bM_look_181 : List Item := [(181, 1, .iadd, [], 0, mi0), (182, 2, .istore 5, [], 0, mi0), (184, 1, .aload_n 0, [], 0, mi0), (185, 3, .getfield 74, [8, 29, 4141], 0, mi0), (188, 2, .iload 4, [], 0, mi0), (190, 1, .aload_n 0, [], 0, mi0), (191, 3, .getfield 74, [8, 29, 4141], 0, mi0), (194, 1, .iload_n 3, [], 0, mi0), (195, 1, .iaload, [], 0, mi0), (196, 2, .iload 5, [], 0, mi0), (198, 1, .iadd, [], 0, mi0), (199, 1, .aload_n 0, [], 0, mi0), (200, 3, .getfield 74, [8, 29, 4141], 0, mi0), (203, 2, .iload 4, [], 0, mi0), (205, 1, .iaload, [], 0, mi0), (206, 3, .if_icmp .ge 15, [221], 0, mi0), (209, 1, .aload_n 0, [], 0, mi0), (210, 3, .getfield 74, [8, 29, 4141], 0, mi0), (213, 1, .iload_n 3, [], 0, mi0), (214, 1, .iaload, [], 0, mi0), (215, 2, .iload 5, [], 0, mi0), (217, 1, .iadd, [], 0, mi0), (218, 3, .goto 10, [228], 0, mi0)]
theorem oM_look_181 : okB mM_look 181 bM_look_181 221 = true := by decide +kernel
def bM_look_221 : List Item := [(221, 1, .aload_n 0, [], 0, mi0), (222, 3, .getfield 74, [8, 29, 4141], 0, mi0), (225, 2, .iload 4, [], 0, mi0), (227, 1, .iaload, [], 0, mi0)]
theorem oM_look_221 : okB mM_look 221 bM_look_221 228 = true := by decide +kernel
def bM_look_228 : List Item := [(228, 1, .iastore, [], 0, mi0), (229, 1, .aload_n 0, [], 0, mi0), (230, 3, .getfield 74, [8, 29, 4141], 0, mi0), (233, 1, .iload_n 3, [], 0, mi0), (234, 1, .aload_n 0, [], 0, mi0), (235, 3, .getfield 74, [8, 29, 4141], 0, mi0), (238, 2, .iload 4, [], 0, mi0), (240, 1, .iaload, [], 0, mi0), (241, 2, .iload 5, [], 0, mi0), (243, 1, .iadd, [], 0, mi0), (244, 1, .aload_n 0, [], 0, mi0), (245, 3, .getfield 74, [8, 29, 4141], 0, mi0), (248, 1, .iload_n 3, [], 0, mi0), (249, 1, .iaload, [], 0, mi0), (250, 3, .if_icmp .ge 16, [266], 0, mi0), (253, 1, .aload_n 0, [], 0, mi0), (254, 3, .getfield 74, [8, 29, 4141], 0, mi0), (257, 2, .iload 4, [], 0, mi0), (259, 1, .iaload, [], 0, mi0), (260, 2, .iload 5, [], 0, mi0), (262, 1, .iadd, [], 0, mi0), (263, 3, .goto 9, [272], 0, mi0)]
theorem oM_look_228 : okB mM_look 228 bM_look_228 266 = true := by decide +kernel
def bM_look_266 : List Item := [(266, 1, .aload_n 0, [], 0, mi0), (267, 3, .getfield 74, [8, 29, 4141], 0, mi0), (270, 1, .iload_n 3, [], 0, mi0), (271, 1, .iaload, [], 0, mi0)]
theorem oM_look_266 : okB mM_look 266 bM_look_266 272 = true := by decide +kernel
def bM_look_272 : List Item := [(272, 1, .iastore, [], 0, mi0), (273, 1, .aload_n 0, [], 0, mi0), (274, 1, .iload_n 2, [], 0, mi0), (275, 3, .invokevirtual 165, [2, 0, 0, 8, 0, 5056, 5058, 14008, 5059, 1011], 0, mM_isShut), (278, 3, .ifCond .ne 108, [386], 0, mi0), (281, 1, .aload_n 0, [], 0, mi0), (282, 3, .getfield 68, [8, 27, 4139], 0, mi0), (285, 2, .iload 4, [], 0, mi0), (287, 1, .aload_n 0, [], 0, mi0), (288, 3, .getfield 68, [8, 27, 4139], 0, mi0), (291, 1, .iload_n 3, [], 0, mi0), (292, 1, .iaload, [], 0, mi0), (293, 1, .aload_n 0, [], 0, mi0), (294, 3, .getfield 26, [8, 7, 4119], 0, mi0), (297, 1, .iload_n 2, [], 0, mi0), (298, 1, .iaload, [], 0, mi0), (299, 1, .iadd, [], 0, mi0), (300, 1, .aload_n 0, [], 0, mi0), (301, 3, .getfield 68, [8, 27, 4139], 0, mi0), (304, 2, .iload 4, [], 0, mi0), (306, 1, .iaload, [], 0, mi0), (307, 3, .if_icmp .ge 19, [326], 0, mi0), (310, 1, .aload_n 0, [], 0, mi0), (311, 3, .getfield 68, [8, 27, 4139], 0, mi0), (314, 1, .iload_n 3, [], 0, mi0), (315, 1, .iaload, [], 0, mi0), (316, 1, .aload_n 0, [], 0, mi0), (317, 3, .getfield 26, [8, 7, 4119], 0, mi0), (320, 1, .iload_n 2, [], 0, mi0), (321, 1, .iaload, [], 0, mi0), (322, 1, .iadd, [], 0, mi0), (323, 3, .goto 10, [333], 0, mi0)]
theorem oM_look_272 : okB mM_look 272 bM_look_272 326 = true := by decide +kernel
def bM_look_326 : List Item := [(326, 1, .aload_n 0, [], 0, mi0), (327, 3, .getfield 68, [8, 27, 4139], 0, mi0), (330, 2, .iload 4, [], 0, mi0), (332, 1, .iaload, [], 0, mi0)]
theorem oM_look_326 : okB mM_look 326 bM_look_326 333 = true := by decide +kernel
def bM_look_333 : List Item := [(333, 1, .iastore, [], 0, mi0), (334, 1, .aload_n 0, [], 0, mi0), (335, 3, .getfield 68, [8, 27, 4139], 0, mi0), (338, 1, .iload_n 3, [], 0, mi0), (339, 1, .aload_n 0, [], 0, mi0), (340, 3, .getfield 68, [8, 27, 4139], 0, mi0), (343, 2, .iload 4, [], 0, mi0), (345, 1, .iaload, [], 0, mi0), (346, 1, .aload_n 0, [], 0, mi0), (347, 3, .getfield 26, [8, 7, 4119], 0, mi0), (350, 1, .iload_n 2, [], 0, mi0), (351, 1, .iaload, [], 0, mi0), (352, 1, .iadd, [], 0, mi0), (353, 1, .aload_n 0, [], 0, mi0), (354, 3, .getfield 68, [8, 27, 4139], 0, mi0), (357, 1, .iload_n 3, [], 0, mi0), (358, 1, .iaload, [], 0, mi0), (359, 3, .if_icmp .ge 20, [379], 0, mi0), (362, 1, .aload_n 0, [], 0, mi0), (363, 3, .getfield 68, [8, 27, 4139], 0, mi0), (366, 2, .iload 4, [], 0, mi0), (368, 1, .iaload, [], 0, mi0), (369, 1, .aload_n 0, [], 0, mi0), (370, 3, .getfield 26, [8, 7, 4119], 0, mi0), (373, 1, .iload_n 2, [], 0, mi0), (374, 1, .iaload, [], 0, mi0), (375, 1, .iadd, [], 0, mi0), (376, 3, .goto 9, [385], 0, mi0)]
theorem oM_look_333 : okB mM_look 333 bM_look_333 379 = true := by decide +kernel
def bM_look_379 : List Item := [(379, 1, .aload_n 0, [], 0, mi0), (380, 3, .getfield 68, [8, 27, 4139], 0, mi0), (383, 1, .iload_n 3, [], 0, mi0), (384, 1, .iaload, [], 0, mi0)]
theorem oM_look_379 : okB mM_look 379 bM_look_379 385 = true := by decide +kernel
def bM_look_385 : List Item := [(385, 1, .iastore, [], 0, mi0)]
theorem oM_look_385 : okB mM_look 385 bM_look_385 386 = true := by decide +kernel
def bM_look_386 : List Item := [(386, 3, .iinc 2 1, [], 0, mi0), (389, 3, .goto (-264), [125], 0, mi0)]
theorem oM_look_386 : okB mM_look 386 bM_look_386 392 = true := by decide +kernel
def bM_look_392 : List Item := [(392, 3, .iinc 1 1, [], 0, mi0), (395, 3, .goto (-278), [117], 0, mi0)]
theorem oM_look_392 : okB mM_look 392 bM_look_392 398 = true := by decide +kernel
def bM_look_398 : List Item := [(398, 1, .iconst 0, [], 0, mi0), (399, 1, .istore_n 1, [], 0, mi0)]
theorem oM_look_398 : okB mM_look 398 bM_look_398 400 = true := by decide +kernel
def bM_look_400 : List Item := [(400, 1, .iload_n 1, [], 0, mi0), (401, 1, .aload_n 0, [], 0, mi0), (402, 3, .getfield 17, [8, 4, 4116], 0, mi0), (405, 1, .iconst 0, [], 0, mi0), (406, 1, .iaload, [], 0, mi0), (407, 3, .if_icmp .ge 61, [468], 0, mi0), (410, 1, .aload_n 0, [], 0, mi0), (411, 1, .iload_n 1, [], 0, mi0), (412, 3, .invokevirtual 165, [2, 0, 0, 8, 0, 5056, 5058, 14008, 5059, 1011], 0, mM_isShut), (415, 3, .ifCond .ne 47, [462], 0, mi0), (418, 1, .aload_n 0, [], 0, mi0), (419, 1, .aload_n 0, [], 0, mi0), (420, 3, .getfield 20, [8, 5, 4117], 0, mi0), (423, 1, .iload_n 1, [], 0, mi0), (424, 1, .iaload, [], 0, mi0), (425, 1, .aload_n 0, [], 0, mi0), (426, 3, .getfield 23, [8, 6, 4118], 0, mi0), (429, 1, .iload_n 1, [], 0, mi0), (430, 1, .iaload, [], 0, mi0), (431, 1, .aload_n 0, [], 0, mi0), (432, 3, .getfield 26, [8, 7, 4119], 0, mi0), (435, 1, .iload_n 1, [], 0, mi0), (436, 1, .iaload, [], 0, mi0), (437, 3, .invokevirtual 176, [4, 0, 0, 8, 0, 5089, 5091, 14013, 5092, 1011], 0, mM_seeAhead), (440, 1, .aload_n 0, [], 0, mi0), (441, 1, .aload_n 0, [], 0, mi0), (442, 3, .getfield 23, [8, 6, 4118], 0, mi0), (445, 1, .iload_n 1, [], 0, mi0), (446, 1, .iaload, [], 0, mi0), (447, 1, .aload_n 0, [], 0, mi0), (448, 3, .getfield 20, [8, 5, 4117], 0, mi0), (451, 1, .iload_n 1, [], 0, mi0), (452, 1, .iaload, [], 0, mi0), (453, 1, .aload_n 0, [], 0, mi0), (454, 3, .getfield 26, [8, 7, 4119], 0, mi0), (457, 1, .iload_n 1, [], 0, mi0), (458, 1, .iaload, [], 0, mi0), (459, 3, .invokevirtual 176, [4, 0, 0, 8, 0, 5089, 5091, 14013, 5092, 1011], 0, mM_seeAhead)]
theorem oM_look_400 : okB mM_look 400 bM_look_400 462 = true := by decide +kernel
def bM_look_462 : List Item := [(462, 3, .iinc 1 1, [], 0, mi0), (465, 3, .goto (-65), [400], 0, mi0)]
theorem oM_look_462 : okB mM_look 462 bM_look_462 468 = true := by decide +kernel
def bM_look_468 : List Item := [(468, 1, .return_, [], 0, mi0)]
theorem oM_look_468 : okB mM_look 468 bM_look_468 469 = true := by decide +kernel
def bM_seeAhead_0 : List Item := [(0, 1, .aload_n 0, [], 0, mi0), (1, 3, .getfield 68, [8, 27, 4139], 0, mi0), (4, 1, .iload_n 1, [], 0, mi0), (5, 1, .iaload, [], 0, mi0), (6, 2, .ldc 175, [0, 0, 5088], 1000000, mi0), (8, 3, .if_icmp .ge 48, [56], 0, mi0), (11, 1, .aload_n 0, [], 0, mi0), (12, 3, .getfield 68, [8, 27, 4139], 0, mi0), (15, 1, .iload_n 1, [], 0, mi0), (16, 1, .iaload, [], 0, mi0), (17, 1, .iload_n 3, [], 0, mi0), (18, 1, .iadd, [], 0, mi0), (19, 1, .aload_n 0, [], 0, mi0), (20, 3, .getfield 68, [8, 27, 4139], 0, mi0), (23, 1, .iload_n 2, [], 0, mi0), (24, 1, .iaload, [], 0, mi0), (25, 3, .if_icmp .ne 31, [56], 0, mi0), (28, 1, .aload_n 0, [], 0, mi0), (29, 3, .getfield 71, [8, 28, 4140], 0, mi0), (32, 1, .iload_n 2, [], 0, mi0), (33, 1, .iaload, [], 0, mi0), (34, 2, .bipush (-9), [], 0, mi0), (36, 3, .if_icmp .eq 13, [49], 0, mi0), (39, 1, .iload_n 1, [], 0, mi0), (40, 1, .aload_n 0, [], 0, mi0), (41, 3, .getfield 71, [8, 28, 4140], 0, mi0), (44, 1, .iload_n 2, [], 0, mi0), (45, 1, .iaload, [], 0, mi0), (46, 3, .if_icmp .ge 10, [56], 0, mi0)]
theorem oM_seeAhead_0 : okB mM_seeAhead 0 bM_seeAhead_0 49 = true := by decide +kernel
def bM_seeAhead_49 : List Item := [(49, 1, .aload_n 0, [], 0, mi0), (50, 3, .getfield 71, [8, 28, 4140], 0, mi0), (53, 1, .iload_n 2, [], 0, mi0), (54, 1, .iload_n 1, [], 0, mi0), (55, 1, .iastore, [], 0, mi0)]
theorem oM_seeAhead_49 : okB mM_seeAhead 49 bM_seeAhead_49 56 = true := by decide +kernel
def bM_seeAhead_56 : List Item := [(56, 1, .return_, [], 0, mi0)]
theorem oM_seeAhead_56 : okB mM_seeAhead 56 bM_seeAhead_56 57 = true := by decide +kernel
def bM_leaveOf_0 : List Item := [(0, 1, .aload_n 0, [], 0, mi0), (1, 3, .getfield 74, [8, 29, 4141], 0, mi0), (4, 1, .iload_n 1, [], 0, mi0), (5, 1, .iaload, [], 0, mi0), (6, 1, .iload_n 2, [], 0, mi0), (7, 1, .isub, [], 0, mi0), (8, 1, .aload_n 0, [], 0, mi0), (9, 3, .getfield 62, [8, 19, 4131], 0, mi0), (12, 1, .iconst 2, [], 0, mi0), (13, 1, .iaload, [], 0, mi0), (14, 1, .isub, [], 0, mi0), (15, 1, .istore_n 3, [], 0, mi0), (16, 1, .aload_n 0, [], 0, mi0), (17, 3, .getfield 74, [8, 29, 4141], 0, mi0), (20, 1, .iload_n 1, [], 0, mi0), (21, 1, .iaload, [], 0, mi0), (22, 2, .ldc 175, [0, 0, 5088], 1000000, mi0), (24, 3, .if_icmp .lt 8, [32], 0, mi0), (27, 2, .ldc 175, [0, 0, 5088], 1000000, mi0), (29, 3, .goto 12, [41], 0, mi0)]
theorem oM_leaveOf_0 : okB mM_leaveOf 0 bM_leaveOf_0 32 = true := by decide +kernel
def bM_leaveOf_32 : List Item := [(32, 1, .iload_n 3, [], 0, mi0), (33, 3, .ifCond .ge 7, [40], 0, mi0), (36, 1, .iconst 0, [], 0, mi0), (37, 3, .goto 4, [41], 0, mi0)]
theorem oM_leaveOf_32 : okB mM_leaveOf 32 bM_leaveOf_32 40 = true := by decide +kernel
def bM_leaveOf_40 : List Item := [(40, 1, .iload_n 3, [], 0, mi0)]
theorem oM_leaveOf_40 : okB mM_leaveOf 40 bM_leaveOf_40 41 = true := by decide +kernel
def bM_leaveOf_41 : List Item := [(41, 1, .ireturn, [], 0, mi0)]
theorem oM_leaveOf_41 : okB mM_leaveOf 41 bM_leaveOf_41 42 = true := by decide +kernel
def bM_why_0 : List Item := [(0, 1, .aload_n 0, [], 0, mi0), (1, 1, .iload_n 1, [], 0, mi0), (2, 3, .invokevirtual 196, [2, 0, 0, 8, 0, 5101, 5103, 14015, 5104, 1011], 0, mM_isMan), (5, 3, .ifCond .eq 11, [16], 0, mi0), (8, 1, .aload_n 0, [], 0, mi0), (9, 1, .iload_n 2, [], 0, mi0), (10, 3, .invokevirtual 199, [2, 0, 0, 8, 0, 5105, 5107, 15000, 5108, 1011], 0, mM_isSet), (13, 3, .ifCond .ne 5, [18], 0, mi0)]
theorem oM_why_0 : okB mM_why 0 bM_why_0 16 = true := by decide +kernel
def bM_why_16 : List Item := [(16, 1, .iconst (-1), [], 0, mi0), (17, 1, .ireturn, [], 0, mi0)]
theorem oM_why_16 : okB mM_why 16 bM_why_16 18 = true := by decide +kernel
def bM_why_18 : List Item := [(18, 1, .aload_n 0, [], 0, mi0), (19, 3, .invokevirtual 183, [1, 0, 0, 8, 0, 5084, 5086, 14012, 5087, 1011], 0, mM_look), (22, 1, .aload_n 0, [], 0, mi0), (23, 1, .iload_n 1, [], 0, mi0), (24, 1, .iload_n 2, [], 0, mi0), (25, 3, .invokevirtual 202, [3, 0, 0, 8, 0, 5109, 5111, 15001, 5112, 1011], 0, mM_hinders), (28, 1, .istore_n 3, [], 0, mi0), (29, 1, .iload_n 3, [], 0, mi0), (30, 3, .ifCond .ne 26, [56], 0, mi0), (33, 1, .aload_n 0, [], 0, mi0), (34, 1, .aload_n 0, [], 0, mi0), (35, 1, .iload_n 2, [], 0, mi0), (36, 3, .invokevirtual 189, [2, 0, 0, 8, 0, 5113, 5115, 15002, 5116, 1011], 0, mM_roomOf), (39, 1, .aload_n 0, [], 0, mi0), (40, 3, .getfield 77, [8, 30, 4142], 0, mi0), (43, 1, .iload_n 1, [], 0, mi0), (44, 1, .iaload, [], 0, mi0), (45, 1, .iconst 0, [], 0, mi0), (46, 3, .invokevirtual 205, [4, 0, 0, 8, 0, 5121, 5123, 15004, 5124, 1011], 0, mM_isSafe), (49, 3, .ifCond .ne 7, [56], 0, mi0), (52, 1, .iconst 5, [], 0, mi0), (53, 3, .goto 4, [57], 0, mi0)]
theorem oM_why_18 : okB mM_why 18 bM_why_18 56 = true := by decide +kernel
def bM_why_56 : List Item := [(56, 1, .iload_n 3, [], 0, mi0)]
theorem oM_why_56 : okB mM_why 56 bM_why_56 57 = true := by decide +kernel
def bM_why_57 : List Item := [(57, 1, .ireturn, [], 0, mi0)]
theorem oM_why_57 : okB mM_why 57 bM_why_57 58 = true := by decide +kernel
def bM_isMan_0 : List Item := [(0, 1, .iload_n 1, [], 0, mi0), (1, 1, .iconst 0, [], 0, mi0), (2, 1, .aload_n 0, [], 0, mi0), (3, 3, .getfield 47, [8, 14, 4126], 0, mi0), (6, 1, .iconst 0, [], 0, mi0), (7, 1, .iaload, [], 0, mi0), (8, 1, .iconst 1, [], 0, mi0), (9, 1, .isub, [], 0, mi0), (10, 3, .invokestatic 105, [3, 0, 0, 8, 0, 5004, 5005, 0, 5006, 1011], 0, mM_in), (13, 1, .ireturn, [], 0, mi0)]
theorem oM_isMan_0 : okB mM_isMan 0 bM_isMan_0 14 = true := by decide +kernel
def bM_isSet_0 : List Item := [(0, 1, .iload_n 1, [], 0, mi0), (1, 1, .iconst 1, [], 0, mi0), (2, 1, .iconst 1, [], 0, mi0), (3, 1, .aload_n 0, [], 0, mi0), (4, 3, .getfield 32, [8, 9, 4121], 0, mi0), (7, 1, .iconst 0, [], 0, mi0), (8, 1, .iaload, [], 0, mi0), (9, 1, .ishl, [], 0, mi0), (10, 1, .iconst 1, [], 0, mi0), (11, 1, .isub, [], 0, mi0), (12, 3, .invokestatic 105, [3, 0, 0, 8, 0, 5004, 5005, 0, 5006, 1011], 0, mM_in), (15, 1, .ireturn, [], 0, mi0)]
theorem oM_isSet_0 : okB mM_isSet 0 bM_isSet_0 16 = true := by decide +kernel
def bM_hinders_0 : List Item := [(0, 1, .aload_n 0, [], 0, mi0), (1, 1, .iload_n 2, [], 0, mi0), (2, 3, .invokevirtual 189, [2, 0, 0, 8, 0, 5113, 5115, 15002, 5116, 1011], 0, mM_roomOf), (5, 1, .istore_n 3, [], 0, mi0), (6, 1, .aload_n 0, [], 0, mi0), (7, 1, .iload_n 2, [], 0, mi0), (8, 3, .invokevirtual 193, [2, 0, 0, 8, 0, 5117, 5119, 15003, 5120, 1011], 0, mM_weightOf), (11, 1, .aload_n 0, [], 0, mi0), (12, 3, .getfield 50, [8, 15, 4127], 0, mi0), (15, 1, .iload_n 1, [], 0, mi0), (16, 1, .iaload, [], 0, mi0), (17, 3, .if_icmp .le 7, [24], 0, mi0), (20, 1, .iconst 1, [], 0, mi0), (21, 3, .goto 44, [65], 0, mi0)]
theorem oM_hinders_0 : okB mM_hinders 0 bM_hinders_0 24 = true := by decide +kernel
def bM_hinders_24 : List Item := [(24, 1, .iload_n 3, [], 0, mi0), (25, 2, .bipush (-9), [], 0, mi0), (27, 3, .if_icmp .ne 7, [34], 0, mi0), (30, 1, .iconst 2, [], 0, mi0), (31, 3, .goto 34, [65], 0, mi0)]
theorem oM_hinders_24 : okB mM_hinders 24 bM_hinders_24 34 = true := by decide +kernel
def bM_hinders_34 : List Item := [(34, 1, .iload_n 2, [], 0, mi0), (35, 1, .aload_n 0, [], 0, mi0), (36, 3, .getfield 80, [8, 31, 4143], 0, mi0), (39, 1, .iconst 0, [], 0, mi0), (40, 1, .iaload, [], 0, mi0), (41, 1, .iand, [], 0, mi0), (42, 3, .ifCond .eq 7, [49], 0, mi0), (45, 1, .iconst 3, [], 0, mi0), (46, 3, .goto 19, [65], 0, mi0)]
theorem oM_hinders_34 : okB mM_hinders 34 bM_hinders_34 49 = true := by decide +kernel
def bM_hinders_49 : List Item := [(49, 1, .aload_n 0, [], 0, mi0), (50, 3, .getfield 68, [8, 27, 4139], 0, mi0), (53, 1, .iload_n 3, [], 0, mi0), (54, 1, .iaload, [], 0, mi0), (55, 2, .ldc 175, [0, 0, 5088], 1000000, mi0), (57, 3, .if_icmp .ne 7, [64], 0, mi0), (60, 1, .iconst 4, [], 0, mi0), (61, 3, .goto 4, [65], 0, mi0)]
theorem oM_hinders_49 : okB mM_hinders 49 bM_hinders_49 64 = true := by decide +kernel
def bM_hinders_64 : List Item := [(64, 1, .iconst 0, [], 0, mi0)]
theorem oM_hinders_64 : okB mM_hinders 64 bM_hinders_64 65 = true := by decide +kernel
def bM_hinders_65 : List Item := [(65, 1, .ireturn, [], 0, mi0)]
theorem oM_hinders_65 : okB mM_hinders 65 bM_hinders_65 66 = true := by decide +kernel
def bM_roomOf_0 : List Item := [(0, 2, .bipush (-9), [], 0, mi0), (2, 1, .istore_n 2, [], 0, mi0), (3, 1, .iconst 0, [], 0, mi0), (4, 1, .istore_n 3, [], 0, mi0)]
theorem oM_roomOf_0 : okB mM_roomOf 0 bM_roomOf_0 5 = true := by decide +kernel
def bM_roomOf_5 : List Item := [(5, 1, .iload_n 3, [], 0, mi0), (6, 1, .aload_n 0, [], 0, mi0), (7, 3, .getfield 32, [8, 9, 4121], 0, mi0), (10, 1, .iconst 0, [], 0, mi0), (11, 1, .iaload, [], 0, mi0), (12, 3, .if_icmp .ge 44, [56], 0, mi0), (15, 1, .iload_n 1, [], 0, mi0), (16, 1, .iload_n 3, [], 0, mi0), (17, 1, .ishr, [], 0, mi0), (18, 1, .iconst 1, [], 0, mi0), (19, 1, .iand, [], 0, mi0), (20, 1, .iconst 1, [], 0, mi0), (21, 3, .if_icmp .ne 29, [50], 0, mi0), (24, 1, .iload_n 2, [], 0, mi0), (25, 2, .bipush (-9), [], 0, mi0), (27, 3, .if_icmp .eq 16, [43], 0, mi0), (30, 1, .iload_n 2, [], 0, mi0), (31, 1, .aload_n 0, [], 0, mi0), (32, 3, .getfield 35, [8, 10, 4122], 0, mi0), (35, 1, .iload_n 3, [], 0, mi0), (36, 1, .iaload, [], 0, mi0), (37, 3, .if_icmp .eq 6, [43], 0, mi0), (40, 2, .bipush (-9), [], 0, mi0), (42, 1, .ireturn, [], 0, mi0)]
theorem oM_roomOf_5 : okB mM_roomOf 5 bM_roomOf_5 43 = true := by decide +kernel
def bM_roomOf_43 : List Item := [(43, 1, .aload_n 0, [], 0, mi0), (44, 3, .getfield 35, [8, 10, 4122], 0, mi0), (47, 1, .iload_n 3, [], 0, mi0), (48, 1, .iaload, [], 0, mi0), (49, 1, .istore_n 2, [], 0, mi0)]
theorem oM_roomOf_43 : okB mM_roomOf 43 bM_roomOf_43 50 = true := by decide +kernel
def bM_roomOf_50 : List Item := [(50, 3, .iinc 3 1, [], 0, mi0), (53, 3, .goto (-48), [5], 0, mi0)]
theorem oM_roomOf_50 : okB mM_roomOf 50 bM_roomOf_50 56 = true := by decide +kernel
def bM_roomOf_56 : List Item := [(56, 1, .iload_n 2, [], 0, mi0), (57, 1, .ireturn, [], 0, mi0)]
theorem oM_roomOf_56 : okB mM_roomOf 56 bM_roomOf_56 58 = true := by decide +kernel
def bM_weightOf_0 : List Item := [(0, 1, .iconst 0, [], 0, mi0), (1, 1, .istore_n 2, [], 0, mi0), (2, 1, .iconst 0, [], 0, mi0), (3, 1, .istore_n 3, [], 0, mi0)]
theorem oM_weightOf_0 : okB mM_weightOf 0 bM_weightOf_0 4 = true := by decide +kernel
def bM_weightOf_4 : List Item := [(4, 1, .iload_n 3, [], 0, mi0), (5, 1, .aload_n 0, [], 0, mi0), (6, 3, .getfield 32, [8, 9, 4121], 0, mi0), (9, 1, .iconst 0, [], 0, mi0), (10, 1, .iaload, [], 0, mi0), (11, 3, .if_icmp .ge 24, [35], 0, mi0), (14, 1, .iload_n 2, [], 0, mi0), (15, 1, .iload_n 1, [], 0, mi0), (16, 1, .iload_n 3, [], 0, mi0), (17, 1, .ishr, [], 0, mi0), (18, 1, .iconst 1, [], 0, mi0), (19, 1, .iand, [], 0, mi0), (20, 1, .aload_n 0, [], 0, mi0), (21, 3, .getfield 38, [8, 11, 4123], 0, mi0), (24, 1, .iload_n 3, [], 0, mi0), (25, 1, .iaload, [], 0, mi0), (26, 1, .imul, [], 0, mi0), (27, 1, .iadd, [], 0, mi0), (28, 1, .istore_n 2, [], 0, mi0), (29, 3, .iinc 3 1, [], 0, mi0), (32, 3, .goto (-28), [4], 0, mi0)]
theorem oM_weightOf_4 : okB mM_weightOf 4 bM_weightOf_4 35 = true := by decide +kernel
def bM_weightOf_35 : List Item := [(35, 1, .iload_n 2, [], 0, mi0), (36, 1, .ireturn, [], 0, mi0)]
theorem oM_weightOf_35 : okB mM_weightOf 35 bM_weightOf_35 37 = true := by decide +kernel
def bM_isSafe_0 : List Item := [(0, 1, .iload_n 1, [], 0, mi0), (1, 2, .istore 4, [], 0, mi0), (3, 1, .iconst 1, [], 0, mi0), (4, 2, .istore 5, [], 0, mi0)]
theorem oM_isSafe_0 : okB mM_isSafe 0 bM_isSafe_0 6 = true := by decide +kernel
def bM_isSafe_6 : List Item := [(6, 2, .iload 5, [], 0, mi0), (8, 3, .ifCond .eq 67, [75], 0, mi0), (11, 2, .iload 4, [], 0, mi0), (13, 2, .bipush (-9), [], 0, mi0), (15, 3, .if_icmp .eq 60, [75], 0, mi0), (18, 1, .iload_n 2, [], 0, mi0), (19, 1, .iconst 2, [], 0, mi0), (20, 1, .aload_n 0, [], 0, mi0), (21, 3, .getfield 68, [8, 27, 4139], 0, mi0), (24, 1, .iload_n 1, [], 0, mi0), (25, 1, .iaload, [], 0, mi0), (26, 1, .imul, [], 0, mi0), (27, 1, .iadd, [], 0, mi0), (28, 1, .aload_n 0, [], 0, mi0), (29, 3, .getfield 68, [8, 27, 4139], 0, mi0), (32, 2, .iload 4, [], 0, mi0), (34, 1, .iaload, [], 0, mi0), (35, 1, .isub, [], 0, mi0), (36, 1, .aload_n 0, [], 0, mi0), (37, 2, .iload 4, [], 0, mi0), (39, 1, .iload_n 3, [], 0, mi0), (40, 3, .invokevirtual 186, [3, 0, 0, 8, 0, 5093, 5095, 14014, 5096, 1011], 0, mM_leaveOf), (43, 3, .if_icmp .ge 7, [50], 0, mi0), (46, 1, .iconst 1, [], 0, mi0), (47, 3, .goto 4, [51], 0, mi0)]
theorem oM_isSafe_6 : okB mM_isSafe 6 bM_isSafe_6 50 = true := by decide +kernel
def bM_isSafe_50 : List Item := [(50, 1, .iconst 0, [], 0, mi0)]
theorem oM_isSafe_50 : okB mM_isSafe 50 bM_isSafe_50 51 = true := by decide +kernel
def bM_isSafe_51 : List Item := [(51, 2, .istore 5, [], 0, mi0), (53, 2, .iload 4, [], 0, mi0), (55, 3, .ifCond .ne 8, [63], 0, mi0), (58, 2, .bipush (-9), [], 0, mi0), (60, 3, .goto 10, [70], 0, mi0)]
theorem oM_isSafe_51 : okB mM_isSafe 51 bM_isSafe_51 63 = true := by decide +kernel
def bM_isSafe_63 : List Item := [(63, 1, .aload_n 0, [], 0, mi0), (64, 3, .getfield 71, [8, 28, 4140], 0, mi0), (67, 2, .iload 4, [], 0, mi0), (69, 1, .iaload, [], 0, mi0)]
theorem oM_isSafe_63 : okB mM_isSafe 63 bM_isSafe_63 70 = true := by decide +kernel
def bM_isSafe_70 : List Item := [(70, 2, .istore 4, [], 0, mi0), (72, 3, .goto (-66), [6], 0, mi0)]
theorem oM_isSafe_70 : okB mM_isSafe 70 bM_isSafe_70 75 = true := by decide +kernel
def bM_isSafe_75 : List Item := [(75, 2, .iload 5, [], 0, mi0), (77, 1, .ireturn, [], 0, mi0)]
theorem oM_isSafe_75 : okB mM_isSafe 75 bM_isSafe_75 78 = true := by decide +kernel
def bM_fetch_0 : List Item := [(0, 1, .aload_n 0, [], 0, mi0), (1, 1, .iload_n 1, [], 0, mi0), (2, 1, .iload_n 2, [], 0, mi0), (3, 3, .invokevirtual 208, [3, 0, 0, 8, 0, 5129, 5098, 5099, 5100, 1011], 0, mM_why), (6, 1, .istore_n 3, [], 0, mi0), (7, 1, .iload_n 3, [], 0, mi0), (8, 3, .ifCond .eq 15, [23], 0, mi0), (11, 1, .iload_n 3, [], 0, mi0), (12, 1, .iconst (-1), [], 0, mi0), (13, 3, .if_icmp .ne 7, [20], 0, mi0), (16, 1, .iconst (-1), [], 0, mi0), (17, 3, .goto 5, [22], 0, mi0)]
theorem oM_fetch_0 : okB mM_fetch 0 bM_fetch_0 20 = true := by decide +kernel
def bM_fetch_20 : List Item := [(20, 2, .bipush (-2), [], 0, mi0)]
theorem oM_fetch_20 : okB mM_fetch 20 bM_fetch_20 22 = true := by decide +kernel
def bM_fetch_22 : List Item := [(22, 1, .ireturn, [], 0, mi0)]
theorem oM_fetch_22 : okB mM_fetch 22 bM_fetch_22 23 = true := by decide +kernel
def bM_fetch_23 : List Item := [(23, 1, .aload_n 0, [], 0, mi0), (24, 3, .getfield 77, [8, 30, 4142], 0, mi0), (27, 1, .iload_n 1, [], 0, mi0), (28, 1, .dup2, [], 0, mi0), (29, 1, .iaload, [], 0, mi0), (30, 1, .iconst 2, [], 0, mi0), (31, 1, .aload_n 0, [], 0, mi0), (32, 3, .getfield 68, [8, 27, 4139], 0, mi0), (35, 1, .aload_n 0, [], 0, mi0), (36, 1, .iload_n 2, [], 0, mi0), (37, 3, .invokevirtual 189, [2, 0, 0, 8, 0, 5113, 5115, 15002, 5116, 1011], 0, mM_roomOf), (40, 1, .iaload, [], 0, mi0), (41, 1, .imul, [], 0, mi0), (42, 1, .iadd, [], 0, mi0), (43, 1, .iastore, [], 0, mi0), (44, 1, .aload_n 0, [], 0, mi0), (45, 3, .getfield 80, [8, 31, 4143], 0, mi0), (48, 1, .iconst 0, [], 0, mi0), (49, 1, .dup2, [], 0, mi0), (50, 1, .iaload, [], 0, mi0), (51, 1, .iload_n 2, [], 0, mi0), (52, 1, .ior, [], 0, mi0), (53, 1, .iastore, [], 0, mi0), (54, 1, .aload_n 0, [], 0, mi0), (55, 3, .getfield 77, [8, 30, 4142], 0, mi0), (58, 1, .iload_n 1, [], 0, mi0), (59, 1, .iaload, [], 0, mi0), (60, 1, .ireturn, [], 0, mi0)]
theorem oM_fetch_23 : okB mM_fetch 23 bM_fetch_23 61 = true := by decide +kernel
def bM_man_0 : List Item := [(0, 1, .aload_n 0, [], 0, mi0), (1, 1, .iload_n 1, [], 0, mi0), (2, 3, .invokevirtual 196, [2, 0, 0, 8, 0, 5101, 5103, 14015, 5104, 1011], 0, mM_isMan), (5, 3, .ifCond .eq 34, [39], 0, mi0), (8, 1, .iload_n 2, [], 0, mi0), (9, 1, .iconst 0, [], 0, mi0), (10, 1, .iconst 1, [], 0, mi0), (11, 3, .invokestatic 105, [3, 0, 0, 8, 0, 5004, 5005, 0, 5006, 1011], 0, mM_in), (14, 3, .ifCond .eq 25, [39], 0, mi0), (17, 1, .iload_n 2, [], 0, mi0), (18, 3, .ifCond .ne 12, [30], 0, mi0), (21, 1, .aload_n 0, [], 0, mi0), (22, 3, .getfield 50, [8, 15, 4127], 0, mi0), (25, 1, .iload_n 1, [], 0, mi0), (26, 1, .iaload, [], 0, mi0), (27, 3, .goto 13, [40], 0, mi0)]
theorem oM_man_0 : okB mM_man 0 bM_man_0 30 = true := by decide +kernel
def bM_man_30 : List Item := [(30, 1, .aload_n 0, [], 0, mi0), (31, 3, .getfield 77, [8, 30, 4142], 0, mi0), (34, 1, .iload_n 1, [], 0, mi0), (35, 1, .iaload, [], 0, mi0), (36, 3, .goto 4, [40], 0, mi0)]
theorem oM_man_30 : okB mM_man 30 bM_man_30 39 = true := by decide +kernel
def bM_man_39 : List Item := [(39, 1, .iconst (-1), [], 0, mi0)]
theorem oM_man_39 : okB mM_man 39 bM_man_39 40 = true := by decide +kernel
def bM_man_40 : List Item := [(40, 1, .ireturn, [], 0, mi0)]
theorem oM_man_40 : okB mM_man 40 bM_man_40 41 = true := by decide +kernel
def bM_anew_0 : List Item := [(0, 1, .aload_n 0, [], 0, mi0), (1, 3, .getfield 80, [8, 31, 4143], 0, mi0), (4, 1, .iconst 0, [], 0, mi0), (5, 1, .iaload, [], 0, mi0), (6, 3, .invokestatic 211, [1, 0, 0, 8, 0, 5138, 5139, 0, 5140, 1011], 0, mM_bitsIn), (9, 1, .istore_n 1, [], 0, mi0), (10, 1, .aload_n 0, [], 0, mi0), (11, 3, .invokevirtual 162, [1, 0, 0, 8, 0, 5048, 5050, 14007, 5051, 1011], 0, mM_begin), (14, 1, .iload_n 1, [], 0, mi0), (15, 1, .ireturn, [], 0, mi0)]
theorem oM_anew_0 : okB mM_anew 0 bM_anew_0 16 = true := by decide +kernel
def bM_bitsIn_0 : List Item := [(0, 1, .iconst 0, [], 0, mi0), (1, 1, .istore_n 1, [], 0, mi0), (2, 1, .iconst 0, [], 0, mi0), (3, 1, .istore_n 2, [], 0, mi0)]
theorem oM_bitsIn_0 : okB mM_bitsIn 0 bM_bitsIn_0 4 = true := by decide +kernel
def bM_bitsIn_4 : List Item := [(4, 1, .iload_n 2, [], 0, mi0), (5, 2, .bipush 12, [], 0, mi0), (7, 3, .if_icmp .ge 17, [24], 0, mi0), (10, 1, .iload_n 1, [], 0, mi0), (11, 1, .iload_n 0, [], 0, mi0), (12, 1, .iload_n 2, [], 0, mi0), (13, 1, .ishr, [], 0, mi0), (14, 1, .iconst 1, [], 0, mi0), (15, 1, .iand, [], 0, mi0), (16, 1, .iadd, [], 0, mi0), (17, 1, .istore_n 1, [], 0, mi0), (18, 3, .iinc 2 1, [], 0, mi0), (21, 3, .goto (-17), [4], 0, mi0)]
theorem oM_bitsIn_4 : okB mM_bitsIn 4 bM_bitsIn_4 24 = true := by decide +kernel
def bM_bitsIn_24 : List Item := [(24, 1, .iload_n 1, [], 0, mi0), (25, 1, .ireturn, [], 0, mi0)]
theorem oM_bitsIn_24 : okB mM_bitsIn 24 bM_bitsIn_24 26 = true := by decide +kernel
def bM_saved_0 : List Item := [(0, 1, .iconst 0, [], 0, mi0), (1, 1, .istore_n 2, [], 0, mi0), (2, 1, .iconst 0, [], 0, mi0), (3, 1, .istore_n 3, [], 0, mi0)]
theorem oM_saved_0 : okB mM_saved 0 bM_saved_0 4 = true := by decide +kernel
def bM_saved_4 : List Item := [(4, 1, .iload_n 3, [], 0, mi0), (5, 1, .aload_n 0, [], 0, mi0), (6, 3, .getfield 47, [8, 14, 4126], 0, mi0), (9, 1, .iconst 0, [], 0, mi0), (10, 1, .iaload, [], 0, mi0), (11, 3, .if_icmp .ge 30, [41], 0, mi0), (14, 1, .aload_n 0, [], 0, mi0), (15, 3, .getfield 77, [8, 30, 4142], 0, mi0), (18, 1, .iload_n 3, [], 0, mi0), (19, 1, .iaload, [], 0, mi0), (20, 1, .iload_n 2, [], 0, mi0), (21, 3, .if_icmp .le 12, [33], 0, mi0), (24, 1, .aload_n 0, [], 0, mi0), (25, 3, .getfield 77, [8, 30, 4142], 0, mi0), (28, 1, .iload_n 3, [], 0, mi0), (29, 1, .iaload, [], 0, mi0), (30, 3, .goto 4, [34], 0, mi0)]
theorem oM_saved_4 : okB mM_saved 4 bM_saved_4 33 = true := by decide +kernel
def bM_saved_33 : List Item := [(33, 1, .iload_n 2, [], 0, mi0)]
theorem oM_saved_33 : okB mM_saved 33 bM_saved_33 34 = true := by decide +kernel
def bM_saved_34 : List Item := [(34, 1, .istore_n 2, [], 0, mi0), (35, 3, .iinc 3 1, [], 0, mi0), (38, 3, .goto (-34), [4], 0, mi0)]
theorem oM_saved_34 : okB mM_saved 34 bM_saved_34 41 = true := by decide +kernel
def bM_saved_41 : List Item := [(41, 1, .iload_n 1, [], 0, mi0), (42, 3, .ifCond .ne 16, [58], 0, mi0), (45, 1, .aload_n 0, [], 0, mi0), (46, 1, .aload_n 0, [], 0, mi0), (47, 3, .getfield 80, [8, 31, 4143], 0, mi0), (50, 1, .iconst 0, [], 0, mi0), (51, 1, .iaload, [], 0, mi0), (52, 3, .invokevirtual 214, [2, 0, 0, 8, 0, 5145, 5147, 15005, 5148, 1011], 0, mM_worthOf), (55, 3, .goto 27, [82], 0, mi0)]
theorem oM_saved_41 : okB mM_saved 41 bM_saved_41 58 = true := by decide +kernel
def bM_saved_58 : List Item := [(58, 1, .iload_n 1, [], 0, mi0), (59, 1, .iconst 1, [], 0, mi0), (60, 3, .if_icmp .ne 12, [72], 0, mi0), (63, 1, .aload_n 0, [], 0, mi0), (64, 3, .getfield 80, [8, 31, 4143], 0, mi0), (67, 1, .iconst 0, [], 0, mi0), (68, 1, .iaload, [], 0, mi0), (69, 3, .goto 13, [82], 0, mi0)]
theorem oM_saved_58 : okB mM_saved 58 bM_saved_58 72 = true := by decide +kernel
def bM_saved_72 : List Item := [(72, 1, .iload_n 1, [], 0, mi0), (73, 1, .iconst 2, [], 0, mi0), (74, 3, .if_icmp .ne 7, [81], 0, mi0), (77, 1, .iload_n 2, [], 0, mi0), (78, 3, .goto 4, [82], 0, mi0)]
theorem oM_saved_72 : okB mM_saved 72 bM_saved_72 81 = true := by decide +kernel
def bM_saved_81 : List Item := [(81, 1, .iconst (-1), [], 0, mi0)]
theorem oM_saved_81 : okB mM_saved 81 bM_saved_81 82 = true := by decide +kernel
def bM_saved_82 : List Item := [(82, 1, .ireturn, [], 0, mi0)]
theorem oM_saved_82 : okB mM_saved 82 bM_saved_82 83 = true := by decide +kernel
def bM_worthOf_0 : List Item := [(0, 1, .iconst 0, [], 0, mi0), (1, 1, .istore_n 2, [], 0, mi0), (2, 1, .iconst 0, [], 0, mi0), (3, 1, .istore_n 3, [], 0, mi0)]
theorem oM_worthOf_0 : okB mM_worthOf 0 bM_worthOf_0 4 = true := by decide +kernel
def bM_worthOf_4 : List Item := [(4, 1, .iload_n 3, [], 0, mi0), (5, 1, .aload_n 0, [], 0, mi0), (6, 3, .getfield 32, [8, 9, 4121], 0, mi0), (9, 1, .iconst 0, [], 0, mi0), (10, 1, .iaload, [], 0, mi0), (11, 3, .if_icmp .ge 24, [35], 0, mi0), (14, 1, .iload_n 2, [], 0, mi0), (15, 1, .iload_n 1, [], 0, mi0), (16, 1, .iload_n 3, [], 0, mi0), (17, 1, .ishr, [], 0, mi0), (18, 1, .iconst 1, [], 0, mi0), (19, 1, .iand, [], 0, mi0), (20, 1, .aload_n 0, [], 0, mi0), (21, 3, .getfield 41, [8, 12, 4124], 0, mi0), (24, 1, .iload_n 3, [], 0, mi0), (25, 1, .iaload, [], 0, mi0), (26, 1, .imul, [], 0, mi0), (27, 1, .iadd, [], 0, mi0), (28, 1, .istore_n 2, [], 0, mi0), (29, 3, .iinc 3 1, [], 0, mi0), (32, 3, .goto (-28), [4], 0, mi0)]
theorem oM_worthOf_4 : okB mM_worthOf 4 bM_worthOf_4 35 = true := by decide +kernel
def bM_worthOf_35 : List Item := [(35, 1, .iload_n 2, [], 0, mi0), (36, 1, .ireturn, [], 0, mi0)]
theorem oM_worthOf_35 : okB mM_worthOf 35 bM_worthOf_35 37 = true := by decide +kernel
def bM_one_0 : List Item := [(0, 1, .aload_n 0, [], 0, mi0), (1, 1, .iload_n 1, [], 0, mi0), (2, 3, .invokevirtual 196, [2, 0, 0, 8, 0, 5101, 5103, 14015, 5104, 1011], 0, mM_isMan), (5, 3, .ifCond .eq 12, [17], 0, mi0), (8, 1, .iload_n 2, [], 0, mi0), (9, 1, .iconst 0, [], 0, mi0), (10, 1, .iconst 3, [], 0, mi0), (11, 3, .invokestatic 105, [3, 0, 0, 8, 0, 5004, 5005, 0, 5006, 1011], 0, mM_in), (14, 3, .ifCond .ne 5, [19], 0, mi0)]
theorem oM_one_0 : okB mM_one 0 bM_one_0 17 = true := by decide +kernel
def bM_one_17 : List Item := [(17, 1, .iconst (-1), [], 0, mi0), (18, 1, .ireturn, [], 0, mi0)]
theorem oM_one_17 : okB mM_one 17 bM_one_17 19 = true := by decide +kernel
