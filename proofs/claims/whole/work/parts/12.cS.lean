/-! 12: the code of S, block by block -/
def bS_init_0 : List Item := [(0, 1, .aload_n 0, [], 0, mi0), (1, 3, .invokespecial 3, [0, 0, 0, 0, 0, 1228, 1022, 0, 1023], 0, mi0), (4, 1, .aload_n 0, [], 0, mi0), (5, 1, .iconst 0, [], 0, mi0), (6, 3, .putfield 9, [6, 1, 1231, 0], 0, mi0), (9, 1, .aload_n 0, [], 0, mi0), (10, 1, .iconst 0, [], 0, mi0), (11, 3, .putfield 15, [6, 2, 1232, 0], 0, mi0), (14, 1, .aload_n 0, [], 0, mi0), (15, 3, .sipush 1024, [], 0, mi0), (18, 2, .newarray .int, [0, 0, 0, 0, 0, 1052], 0, mi0), (20, 3, .putfield 18, [6, 3, 1233, 2], 0, mi0), (23, 1, .aload_n 0, [], 0, mi0), (24, 1, .iconst 3, [], 0, mi0), (25, 3, .sipush 1024, [], 0, mi0), (28, 4, .multianewarray 22 2, [0, 0, 0, 0, 0, 1229, 1052], 0, mi0), (32, 3, .putfield 24, [6, 4, 1234, 2], 0, mi0), (35, 1, .aload_n 0, [], 0, mi0), (36, 1, .aload_n 1, [], 0, mi0), (37, 3, .putfield 27, [6, 0, 1230, 2], 0, mi0), (40, 1, .return_, [], 0, mi0)]
theorem oS_init_0 : okB mS_init 0 bS_init_0 41 = true := by decide +kernel
def bS_weigh_0 : List Item := [(0, 1, .aload_n 0, [], 0, mi0), (1, 1, .iload_n 3, [], 0, mi0), (2, 3, .putfield 9, [6, 1, 1231, 0], 0, mi0), (5, 1, .aload_n 0, [], 0, mi0), (6, 2, .iload 4, [], 0, mi0), (8, 3, .putfield 15, [6, 2, 1232, 0], 0, mi0), (11, 1, .iconst 0, [], 0, mi0), (12, 2, .istore 5, [], 0, mi0)]
theorem oS_weigh_0 : okB mS_weigh 0 bS_weigh_0 14 = true := by decide +kernel
def bS_weigh_14 : List Item := [(14, 2, .iload 5, [], 0, mi0), (16, 1, .aload_n 0, [], 0, mi0), (17, 3, .getfield 15, [6, 2, 1232], 0, mi0), (20, 3, .if_icmp .gt 85, [105], 0, mi0), (23, 2, .iload 5, [], 0, mi0), (25, 1, .aload_n 0, [], 0, mi0), (26, 3, .getfield 15, [6, 2, 1232], 0, mi0), (29, 1, .iconst (-1), [], 0, mi0), (30, 1, .ixor, [], 0, mi0), (31, 1, .iand, [], 0, mi0), (32, 3, .ifCond .eq 6, [38], 0, mi0), (35, 3, .goto 64, [99], 0, mi0)]
theorem oS_weigh_14 : okB mS_weigh 14 bS_weigh_14 38 = true := by decide +kernel
def bS_weigh_38 : List Item := [(38, 1, .aload_n 0, [], 0, mi0), (39, 3, .getfield 18, [6, 3, 1233], 0, mi0), (42, 2, .iload 5, [], 0, mi0), (44, 1, .iconst 0, [], 0, mi0), (45, 1, .iastore, [], 0, mi0), (46, 1, .iconst 0, [], 0, mi0), (47, 2, .istore 6, [], 0, mi0)]
theorem oS_weigh_38 : okB mS_weigh 38 bS_weigh_38 49 = true := by decide +kernel
def bS_weigh_49 : List Item := [(49, 2, .iload 6, [], 0, mi0), (51, 1, .aload_n 0, [], 0, mi0), (52, 3, .getfield 9, [6, 1, 1231], 0, mi0), (55, 3, .if_icmp .ge 44, [99], 0, mi0), (58, 1, .aload_n 0, [], 0, mi0), (59, 3, .getfield 27, [6, 0, 1230], 0, mi0), (62, 1, .aload_n 1, [], 0, mi0), (63, 2, .iload 6, [], 0, mi0), (65, 2, .iload 5, [], 0, mi0), (67, 1, .aload_n 2, [], 0, mi0), (68, 2, .iload 6, [], 0, mi0), (70, 1, .iaload, [], 0, mi0), (71, 3, .invokevirtual 31, [5, 0, 0, 1, 0, 3153, 3135, 3136, 3137, 1005], 0, mB_finish), (74, 2, .bipush (-9), [], 0, mi0), (76, 3, .if_icmp .eq 17, [93], 0, mi0), (79, 1, .aload_n 0, [], 0, mi0), (80, 3, .getfield 18, [6, 3, 1233], 0, mi0), (83, 2, .iload 5, [], 0, mi0), (85, 1, .dup2, [], 0, mi0), (86, 1, .iaload, [], 0, mi0), (87, 1, .iconst 1, [], 0, mi0), (88, 2, .iload 6, [], 0, mi0), (90, 1, .ishl, [], 0, mi0), (91, 1, .ior, [], 0, mi0), (92, 1, .iastore, [], 0, mi0)]
theorem oS_weigh_49 : okB mS_weigh 49 bS_weigh_49 93 = true := by decide +kernel
def bS_weigh_93 : List Item := [(93, 3, .iinc 6 1, [], 0, mi0), (96, 3, .goto (-47), [49], 0, mi0)]
theorem oS_weigh_93 : okB mS_weigh 93 bS_weigh_93 99 = true := by decide +kernel
def bS_weigh_99 : List Item := [(99, 3, .iinc 5 1, [], 0, mi0), (102, 3, .goto (-88), [14], 0, mi0)]
theorem oS_weigh_99 : okB mS_weigh 99 bS_weigh_99 105 = true := by decide +kernel
def bS_weigh_105 : List Item := [(105, 1, .aload_n 0, [], 0, mi0), (106, 3, .getfield 9, [6, 1, 1231], 0, mi0), (109, 1, .iconst 1, [], 0, mi0), (110, 1, .isub, [], 0, mi0), (111, 2, .istore 5, [], 0, mi0)]
theorem oS_weigh_105 : okB mS_weigh 105 bS_weigh_105 113 = true := by decide +kernel
def bS_weigh_113 : List Item := [(113, 2, .iload 5, [], 0, mi0), (115, 3, .ifCond .lt 57, [172], 0, mi0), (118, 1, .iconst 0, [], 0, mi0), (119, 2, .istore 6, [], 0, mi0)]
theorem oS_weigh_113 : okB mS_weigh 113 bS_weigh_113 121 = true := by decide +kernel
def bS_weigh_121 : List Item := [(121, 2, .iload 6, [], 0, mi0), (123, 1, .aload_n 0, [], 0, mi0), (124, 3, .getfield 15, [6, 2, 1232], 0, mi0), (127, 3, .if_icmp .gt 39, [166], 0, mi0), (130, 2, .iload 6, [], 0, mi0), (132, 1, .aload_n 0, [], 0, mi0), (133, 3, .getfield 15, [6, 2, 1232], 0, mi0), (136, 1, .iconst (-1), [], 0, mi0), (137, 1, .ixor, [], 0, mi0), (138, 1, .iand, [], 0, mi0), (139, 3, .ifCond .ne 21, [160], 0, mi0), (142, 1, .aload_n 0, [], 0, mi0), (143, 3, .getfield 24, [6, 4, 1234], 0, mi0), (146, 2, .iload 5, [], 0, mi0), (148, 1, .aaload, [], 0, mi0), (149, 2, .iload 6, [], 0, mi0), (151, 1, .aload_n 0, [], 0, mi0), (152, 2, .iload 5, [], 0, mi0), (154, 2, .iload 6, [], 0, mi0), (156, 3, .invokevirtual 37, [3, 0, 0, 6, 0, 3154, 3156, 12010, 3157, 1007], 0, mS_gain), (159, 1, .iastore, [], 0, mi0)]
theorem oS_weigh_121 : okB mS_weigh 121 bS_weigh_121 160 = true := by decide +kernel
def bS_weigh_160 : List Item := [(160, 3, .iinc 6 1, [], 0, mi0), (163, 3, .goto (-42), [121], 0, mi0)]
theorem oS_weigh_160 : okB mS_weigh 160 bS_weigh_160 166 = true := by decide +kernel
def bS_weigh_166 : List Item := [(166, 3, .iinc 5 (-1), [], 0, mi0), (169, 3, .goto (-56), [113], 0, mi0)]
theorem oS_weigh_166 : okB mS_weigh 166 bS_weigh_166 172 = true := by decide +kernel
def bS_weigh_172 : List Item := [(172, 1, .return_, [], 0, mi0)]
theorem oS_weigh_172 : okB mS_weigh 172 bS_weigh_172 173 = true := by decide +kernel
def bS_gain_0 : List Item := [(0, 1, .iconst 0, [], 0, mi0), (1, 1, .istore_n 3, [], 0, mi0), (2, 1, .iconst 1, [], 0, mi0), (3, 2, .istore 4, [], 0, mi0), (5, 1, .iconst 0, [], 0, mi0), (6, 2, .istore 5, [], 0, mi0)]
theorem oS_gain_0 : okB mS_gain 0 bS_gain_0 8 = true := by decide +kernel
def bS_gain_8 : List Item := [(8, 2, .iload 5, [], 0, mi0), (10, 2, .bipush 10, [], 0, mi0), (12, 3, .if_icmp .ge 65, [77], 0, mi0), (15, 1, .iconst 1, [], 0, mi0), (16, 2, .iload 5, [], 0, mi0), (18, 1, .ishl, [], 0, mi0), (19, 2, .istore 6, [], 0, mi0), (21, 1, .iload_n 2, [], 0, mi0), (22, 2, .iload 6, [], 0, mi0), (24, 1, .iand, [], 0, mi0), (25, 3, .ifCond .ne 6, [31], 0, mi0), (28, 3, .goto 43, [71], 0, mi0)]
theorem oS_gain_8 : okB mS_gain 8 bS_gain_8 31 = true := by decide +kernel
def bS_gain_31 : List Item := [(31, 1, .aload_n 0, [], 0, mi0), (32, 3, .getfield 24, [6, 4, 1234], 0, mi0), (35, 1, .iload_n 1, [], 0, mi0), (36, 1, .aaload, [], 0, mi0), (37, 1, .iload_n 2, [], 0, mi0), (38, 2, .iload 6, [], 0, mi0), (40, 1, .ixor, [], 0, mi0), (41, 1, .iaload, [], 0, mi0), (42, 2, .istore 7, [], 0, mi0), (44, 1, .iload_n 3, [], 0, mi0), (45, 2, .iload 7, [], 0, mi0), (47, 3, .invokestatic 47, [2, 0, 0, 0, 2, 3158, 2088, 0, 2089, 1010], 0, mi0), (50, 1, .istore_n 3, [], 0, mi0), (51, 2, .iload 7, [], 0, mi0), (53, 1, .aload_n 0, [], 0, mi0), (54, 3, .getfield 27, [6, 0, 1230], 0, mi0), (57, 3, .getfield 52, [1, 2, 1156], 0, mi0), (60, 1, .iload_n 2, [], 0, mi0), (61, 2, .iload 6, [], 0, mi0), (63, 1, .ixor, [], 0, mi0), (64, 1, .iaload, [], 0, mi0), (65, 3, .if_icmp .ge 6, [71], 0, mi0), (68, 1, .iconst 0, [], 0, mi0), (69, 2, .istore 4, [], 0, mi0)]
theorem oS_gain_31 : okB mS_gain 31 bS_gain_31 71 = true := by decide +kernel
def bS_gain_71 : List Item := [(71, 3, .iinc 5 1, [], 0, mi0), (74, 3, .goto (-66), [8], 0, mi0)]
theorem oS_gain_71 : okB mS_gain 71 bS_gain_71 77 = true := by decide +kernel
def bS_gain_77 : List Item := [(77, 2, .iload 4, [], 0, mi0), (79, 3, .ifCond .eq 24, [103], 0, mi0), (82, 1, .aload_n 0, [], 0, mi0), (83, 1, .iload_n 1, [], 0, mi0), (84, 1, .iload_n 2, [], 0, mi0), (85, 3, .invokevirtual 55, [3, 0, 0, 6, 0, 3159, 3161, 12011, 3162, 1007], 0, mS_savesAll), (88, 3, .ifCond .eq 15, [103], 0, mi0), (91, 1, .aload_n 0, [], 0, mi0), (92, 3, .getfield 27, [6, 0, 1230], 0, mi0), (95, 3, .getfield 52, [1, 2, 1156], 0, mi0), (98, 1, .iload_n 2, [], 0, mi0), (99, 1, .iaload, [], 0, mi0), (100, 3, .goto 4, [104], 0, mi0)]
theorem oS_gain_77 : okB mS_gain 77 bS_gain_77 103 = true := by decide +kernel
def bS_gain_103 : List Item := [(103, 1, .iload_n 3, [], 0, mi0)]
theorem oS_gain_103 : okB mS_gain 103 bS_gain_103 104 = true := by decide +kernel
def bS_gain_104 : List Item := [(104, 1, .ireturn, [], 0, mi0)]
theorem oS_gain_104 : okB mS_gain 104 bS_gain_104 105 = true := by decide +kernel
def bS_savesAll_0 : List Item := [(0, 1, .iconst 0, [], 0, mi0), (1, 1, .istore_n 3, [], 0, mi0), (2, 1, .iload_n 2, [], 0, mi0), (3, 2, .istore 4, [], 0, mi0)]
theorem oS_savesAll_0 : okB mS_savesAll 0 bS_savesAll_0 5 = true := by decide +kernel
def bS_savesAll_5 : List Item := [(5, 1, .iload_n 3, [], 0, mi0), (6, 1, .iload_n 2, [], 0, mi0), (7, 3, .if_icmp .gt 39, [46], 0, mi0), (10, 1, .aload_n 0, [], 0, mi0), (11, 1, .iload_n 1, [], 0, mi0), (12, 2, .iload 4, [], 0, mi0), (14, 1, .iload_n 2, [], 0, mi0), (15, 3, .invokevirtual 59, [4, 0, 0, 6, 0, 3163, 3165, 12012, 3166, 1007], 0, mS_gainWith), (18, 1, .aload_n 0, [], 0, mi0), (19, 3, .getfield 27, [6, 0, 1230], 0, mi0), (22, 3, .getfield 52, [1, 2, 1156], 0, mi0), (25, 1, .iload_n 2, [], 0, mi0), (26, 1, .iaload, [], 0, mi0), (27, 3, .if_icmp .ne 5, [32], 0, mi0), (30, 1, .iconst 1, [], 0, mi0), (31, 1, .ireturn, [], 0, mi0)]
theorem oS_savesAll_5 : okB mS_savesAll 5 bS_savesAll_5 32 = true := by decide +kernel
def bS_savesAll_32 : List Item := [(32, 3, .iinc 3 1, [], 0, mi0), (35, 2, .iload 4, [], 0, mi0), (37, 1, .iconst 1, [], 0, mi0), (38, 1, .isub, [], 0, mi0), (39, 1, .iload_n 2, [], 0, mi0), (40, 1, .iand, [], 0, mi0), (41, 2, .istore 4, [], 0, mi0), (43, 3, .goto (-38), [5], 0, mi0)]
theorem oS_savesAll_32 : okB mS_savesAll 32 bS_savesAll_32 46 = true := by decide +kernel
def bS_savesAll_46 : List Item := [(46, 1, .iconst 0, [], 0, mi0), (47, 1, .ireturn, [], 0, mi0)]
theorem oS_savesAll_46 : okB mS_savesAll 46 bS_savesAll_46 48 = true := by decide +kernel
def bS_gainWith_0 : List Item := [(0, 1, .aload_n 0, [], 0, mi0), (1, 3, .getfield 18, [6, 3, 1233], 0, mi0), (4, 1, .iload_n 2, [], 0, mi0), (5, 1, .iaload, [], 0, mi0), (6, 1, .iload_n 1, [], 0, mi0), (7, 1, .ishr, [], 0, mi0), (8, 1, .iconst 1, [], 0, mi0), (9, 1, .iand, [], 0, mi0), (10, 3, .ifCond .ne 6, [16], 0, mi0), (13, 2, .bipush (-9), [], 0, mi0), (15, 1, .ireturn, [], 0, mi0)]
theorem oS_gainWith_0 : okB mS_gainWith 0 bS_gainWith_0 16 = true := by decide +kernel
def bS_gainWith_16 : List Item := [(16, 1, .aload_n 0, [], 0, mi0), (17, 3, .getfield 27, [6, 0, 1230], 0, mi0), (20, 3, .getfield 52, [1, 2, 1156], 0, mi0), (23, 1, .iload_n 2, [], 0, mi0), (24, 1, .iaload, [], 0, mi0), (25, 1, .aload_n 0, [], 0, mi0), (26, 1, .iload_n 1, [], 0, mi0), (27, 1, .iconst 1, [], 0, mi0), (28, 1, .iadd, [], 0, mi0), (29, 1, .iload_n 3, [], 0, mi0), (30, 1, .iload_n 2, [], 0, mi0), (31, 1, .ixor, [], 0, mi0), (32, 3, .invokevirtual 41, [3, 0, 0, 6, 0, 3167, 3169, 12013, 3170, 1007], 0, mS_gainOf), (35, 1, .iadd, [], 0, mi0), (36, 1, .ireturn, [], 0, mi0)]
theorem oS_gainWith_16 : okB mS_gainWith 16 bS_gainWith_16 37 = true := by decide +kernel
def bS_gainOf_0 : List Item := [(0, 1, .iload_n 1, [], 0, mi0), (1, 1, .aload_n 0, [], 0, mi0), (2, 3, .getfield 9, [6, 1, 1231], 0, mi0), (5, 3, .if_icmp .ge 14, [19], 0, mi0), (8, 1, .aload_n 0, [], 0, mi0), (9, 3, .getfield 24, [6, 4, 1234], 0, mi0), (12, 1, .iload_n 1, [], 0, mi0), (13, 1, .aaload, [], 0, mi0), (14, 1, .iload_n 2, [], 0, mi0), (15, 1, .iaload, [], 0, mi0), (16, 3, .goto 4, [20], 0, mi0)]
theorem oS_gainOf_0 : okB mS_gainOf 0 bS_gainOf_0 19 = true := by decide +kernel
def bS_gainOf_19 : List Item := [(19, 1, .iconst 0, [], 0, mi0)]
theorem oS_gainOf_19 : okB mS_gainOf 19 bS_gainOf_19 20 = true := by decide +kernel
def bS_gainOf_20 : List Item := [(20, 1, .ireturn, [], 0, mi0)]
theorem oS_gainOf_20 : okB mS_gainOf 20 bS_gainOf_20 21 = true := by decide +kernel
def bS_most_0 : List Item := [(0, 1, .aload_n 0, [], 0, mi0), (1, 1, .iconst 0, [], 0, mi0), (2, 1, .aload_n 0, [], 0, mi0), (3, 3, .getfield 15, [6, 2, 1232], 0, mi0), (6, 3, .invokevirtual 41, [3, 0, 0, 6, 0, 3167, 3169, 12013, 3170, 1007], 0, mS_gainOf), (9, 1, .ireturn, [], 0, mi0)]
theorem oS_most_0 : okB mS_most 0 bS_most_0 10 = true := by decide +kernel
def bS_setOf_0 : List Item := [(0, 1, .aload_n 0, [], 0, mi0), (1, 3, .getfield 15, [6, 2, 1232], 0, mi0), (4, 1, .istore_n 2, [], 0, mi0), (5, 1, .iconst 0, [], 0, mi0), (6, 1, .istore_n 3, [], 0, mi0), (7, 1, .iconst 0, [], 0, mi0), (8, 2, .istore 4, [], 0, mi0)]
theorem oS_setOf_0 : okB mS_setOf 0 bS_setOf_0 10 = true := by decide +kernel
def bS_setOf_10 : List Item := [(10, 2, .iload 4, [], 0, mi0), (12, 1, .iload_n 1, [], 0, mi0), (13, 3, .if_icmp .gt 21, [34], 0, mi0), (16, 1, .iload_n 2, [], 0, mi0), (17, 1, .iload_n 3, [], 0, mi0), (18, 1, .ixor, [], 0, mi0), (19, 1, .istore_n 2, [], 0, mi0), (20, 1, .aload_n 0, [], 0, mi0), (21, 2, .iload 4, [], 0, mi0), (23, 1, .iload_n 2, [], 0, mi0), (24, 3, .invokevirtual 44, [3, 0, 0, 6, 0, 3179, 3181, 12014, 3182, 1007], 0, mS_choose), (27, 1, .istore_n 3, [], 0, mi0), (28, 3, .iinc 4 1, [], 0, mi0), (31, 3, .goto (-21), [10], 0, mi0)]
theorem oS_setOf_10 : okB mS_setOf 10 bS_setOf_10 34 = true := by decide +kernel
def bS_setOf_34 : List Item := [(34, 1, .iload_n 3, [], 0, mi0), (35, 1, .ireturn, [], 0, mi0)]
theorem oS_setOf_34 : okB mS_setOf 34 bS_setOf_34 36 = true := by decide +kernel
def bS_choose_0 : List Item := [(0, 1, .iconst 0, [], 0, mi0), (1, 1, .istore_n 3, [], 0, mi0)]
theorem oS_choose_0 : okB mS_choose 0 bS_choose_0 2 = true := by decide +kernel
def bS_choose_2 : List Item := [(2, 1, .iload_n 3, [], 0, mi0), (3, 1, .iload_n 2, [], 0, mi0), (4, 3, .if_icmp .ge 35, [39], 0, mi0), (7, 1, .iload_n 3, [], 0, mi0), (8, 1, .iload_n 2, [], 0, mi0), (9, 1, .iconst (-1), [], 0, mi0), (10, 1, .ixor, [], 0, mi0), (11, 1, .iand, [], 0, mi0), (12, 3, .ifCond .ne 21, [33], 0, mi0), (15, 1, .aload_n 0, [], 0, mi0), (16, 1, .iload_n 1, [], 0, mi0), (17, 1, .iload_n 3, [], 0, mi0), (18, 1, .iload_n 2, [], 0, mi0), (19, 3, .invokevirtual 59, [4, 0, 0, 6, 0, 3163, 3165, 12012, 3166, 1007], 0, mS_gainWith), (22, 1, .aload_n 0, [], 0, mi0), (23, 1, .iload_n 1, [], 0, mi0), (24, 1, .iload_n 2, [], 0, mi0), (25, 3, .invokevirtual 41, [3, 0, 0, 6, 0, 3167, 3169, 12013, 3170, 1007], 0, mS_gainOf), (28, 3, .if_icmp .ne 5, [33], 0, mi0), (31, 1, .iload_n 3, [], 0, mi0), (32, 1, .ireturn, [], 0, mi0)]
theorem oS_choose_2 : okB mS_choose 2 bS_choose_2 33 = true := by decide +kernel
def bS_choose_33 : List Item := [(33, 3, .iinc 3 1, [], 0, mi0), (36, 3, .goto (-34), [2], 0, mi0)]
theorem oS_choose_33 : okB mS_choose 33 bS_choose_33 39 = true := by decide +kernel
def bS_choose_39 : List Item := [(39, 1, .iload_n 2, [], 0, mi0), (40, 1, .ireturn, [], 0, mi0)]
theorem oS_choose_39 : okB mS_choose 39 bS_choose_39 41 = true := by decide +kernel
