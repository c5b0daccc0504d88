/-! 13: the code of F, block by block -/
def bF_chance_34 : List Item := [(34, 1, .iconst (-1), [], 0, mi0), (35, 1, .ireturn, [], 0, mi0)]
theorem oF_chance_34 : okB mF_chance 34 bF_chance_34 36 = true := by decide +kernel
def bF_chance_36 : List Item := [(36, 1, .aload_n 0, [], 0, mi0), (37, 3, .getfield 85, [7, 14, 2114], 0, mi0), (40, 1, .iload_n 1, [], 0, mi0), (41, 1, .dup2, [], 0, mi0), (42, 1, .iaload, [], 0, mi0), (43, 1, .iload_n 3, [], 0, mi0), (44, 1, .isub, [], 0, mi0), (45, 1, .iastore, [], 0, mi0), (46, 1, .aload_n 0, [], 0, mi0), (47, 3, .getfield 85, [7, 14, 2114], 0, mi0), (50, 1, .iload_n 2, [], 0, mi0), (51, 1, .dup2, [], 0, mi0), (52, 1, .iaload, [], 0, mi0), (53, 1, .iload_n 3, [], 0, mi0), (54, 1, .iadd, [], 0, mi0), (55, 1, .iastore, [], 0, mi0), (56, 1, .aload_n 0, [], 0, mi0), (57, 3, .getfield 85, [7, 14, 2114], 0, mi0), (60, 1, .iload_n 2, [], 0, mi0), (61, 1, .iaload, [], 0, mi0), (62, 1, .ireturn, [], 0, mi0)]
theorem oF_chance_36 : okB mF_chance 36 bF_chance_36 63 = true := by decide +kernel
def bF_sure_0 : List Item := [(0, 1, .aload_n 0, [], 0, mi0), (1, 1, .iload_n 1, [], 0, mi0), (2, 1, .iload_n 2, [], 0, mi0), (3, 3, .invokevirtual 180, [3, 0, 0, 7, 0, 3077, 3079, 12006, 3080, 1001], 0, mF_isLoad), (6, 3, .ifCond .eq 10, [16], 0, mi0), (9, 1, .iload_n 3, [], 0, mi0), (10, 3, .invokestatic 247, [1, 0, 0, 7, 0, 4006, 4007, 0, 4008, 1001], 0, mF_isMinute), (13, 3, .ifCond .ne 5, [18], 0, mi0)]
theorem oF_sure_0 : okB mF_sure 0 bF_sure_0 16 = true := by decide +kernel
def bF_sure_16 : List Item := [(16, 1, .iconst (-1), [], 0, mi0), (17, 1, .ireturn, [], 0, mi0)]
theorem oF_sure_16 : okB mF_sure 16 bF_sure_16 18 = true := by decide +kernel
def bF_sure_18 : List Item := [(18, 1, .aload_n 0, [], 0, mi0), (19, 1, .iload_n 1, [], 0, mi0), (20, 1, .iload_n 2, [], 0, mi0), (21, 1, .iload_n 3, [], 0, mi0), (22, 3, .invokevirtual 250, [4, 0, 0, 7, 0, 4009, 4011, 13007, 4012, 1001], 0, mF_sureness), (25, 1, .ireturn, [], 0, mi0)]
theorem oF_sure_18 : okB mF_sure 18 bF_sure_18 26 = true := by decide +kernel
def bF_isMinute_0 : List Item := [(0, 1, .iload_n 0, [], 0, mi0), (1, 3, .ifCond .lt 14, [15], 0, mi0), (4, 1, .iload_n 0, [], 0, mi0), (5, 3, .sipush 999, [], 0, mi0), (8, 3, .if_icmp .gt 7, [15], 0, mi0), (11, 1, .iconst 1, [], 0, mi0), (12, 3, .goto 4, [16], 0, mi0)]
theorem oF_isMinute_0 : okB mF_isMinute 0 bF_isMinute_0 15 = true := by decide +kernel
def bF_isMinute_15 : List Item := [(15, 1, .iconst 0, [], 0, mi0)]
theorem oF_isMinute_15 : okB mF_isMinute 15 bF_isMinute_15 16 = true := by decide +kernel
def bF_isMinute_16 : List Item := [(16, 1, .ireturn, [], 0, mi0)]
theorem oF_isMinute_16 : okB mF_isMinute 16 bF_isMinute_16 17 = true := by decide +kernel
def bF_sureness_0 : List Item := [(0, 1, .aload_n 0, [], 0, mi0), (1, 1, .iload_n 1, [], 0, mi0), (2, 1, .iload_n 2, [], 0, mi0), (3, 3, .invokevirtual 184, [3, 0, 0, 7, 0, 3089, 3091, 12008, 3092, 1001], 0, mF_bar), (6, 3, .ifCond .eq 5, [11], 0, mi0), (9, 1, .iconst 0, [], 0, mi0), (10, 1, .ireturn, [], 0, mi0)]
theorem oF_sureness_0 : okB mF_sureness 0 bF_sureness_0 11 = true := by decide +kernel
def bF_sureness_11 : List Item := [(11, 1, .aload_n 0, [], 0, mi0), (12, 3, .getfield 55, [7, 9, 2109], 0, mi0), (15, 1, .iload_n 2, [], 0, mi0), (16, 3, .invokevirtual 173, [2, 0, 0, 1, 0, 3093, 2050, 2051, 2052, 1005], 0, mB_roomOf), (19, 2, .istore 4, [], 0, mi0), (21, 1, .iconst 0, [], 0, mi0), (22, 2, .istore 5, [], 0, mi0), (24, 1, .iconst 0, [], 0, mi0), (25, 2, .istore 6, [], 0, mi0)]
theorem oF_sureness_11 : okB mF_sureness 11 bF_sureness_11 27 = true := by decide +kernel
def bF_sureness_27 : List Item := [(27, 2, .iload 6, [], 0, mi0), (29, 1, .iconst 5, [], 0, mi0), (30, 3, .if_icmp .ge 37, [67], 0, mi0), (33, 1, .aload_n 0, [], 0, mi0), (34, 3, .getfield 62, [7, 10, 2110], 0, mi0), (37, 2, .iload 4, [], 0, mi0), (39, 1, .iload_n 3, [], 0, mi0), (40, 2, .iload 6, [], 0, mi0), (42, 1, .iadd, [], 0, mi0), (43, 3, .invokevirtual 187, [3, 0, 0, 0, 0, 3094, 3095, 3096, 3097, 1006], 0, mA_isSafe), (46, 3, .ifCond .eq 15, [61], 0, mi0), (49, 2, .iload 5, [], 0, mi0), (51, 1, .aload_n 0, [], 0, mi0), (52, 3, .getfield 85, [7, 14, 2114], 0, mi0), (55, 2, .iload 6, [], 0, mi0), (57, 1, .iaload, [], 0, mi0), (58, 1, .iadd, [], 0, mi0), (59, 2, .istore 5, [], 0, mi0)]
theorem oF_sureness_27 : okB mF_sureness 27 bF_sureness_27 61 = true := by decide +kernel
def bF_sureness_61 : List Item := [(61, 3, .iinc 6 1, [], 0, mi0), (64, 3, .goto (-37), [27], 0, mi0)]
theorem oF_sureness_61 : okB mF_sureness 61 bF_sureness_61 67 = true := by decide +kernel
def bF_sureness_67 : List Item := [(67, 2, .iload 5, [], 0, mi0), (69, 1, .ireturn, [], 0, mi0)]
theorem oF_sureness_67 : okB mF_sureness 67 bF_sureness_67 70 = true := by decide +kernel
def bF_last_0 : List Item := [(0, 1, .aload_n 0, [], 0, mi0), (1, 1, .iload_n 1, [], 0, mi0), (2, 1, .iload_n 2, [], 0, mi0), (3, 3, .invokevirtual 180, [3, 0, 0, 7, 0, 3077, 3079, 12006, 3080, 1001], 0, mF_isLoad), (6, 3, .ifCond .eq 14, [20], 0, mi0), (9, 1, .iload_n 3, [], 0, mi0), (10, 1, .iconst 1, [], 0, mi0), (11, 3, .if_icmp .lt 9, [20], 0, mi0), (14, 1, .iload_n 3, [], 0, mi0), (15, 2, .bipush 10, [], 0, mi0), (17, 3, .if_icmp .le 5, [22], 0, mi0)]
theorem oF_last_0 : okB mF_last 0 bF_last_0 20 = true := by decide +kernel
def bF_last_20 : List Item := [(20, 1, .iconst (-1), [], 0, mi0), (21, 1, .ireturn, [], 0, mi0)]
theorem oF_last_20 : okB mF_last 20 bF_last_20 22 = true := by decide +kernel
def bF_last_22 : List Item := [(22, 3, .sipush 200, [], 0, mi0), (25, 2, .istore 4, [], 0, mi0)]
theorem oF_last_22 : okB mF_last 22 bF_last_22 27 = true := by decide +kernel
def bF_last_27 : List Item := [(27, 2, .iload 4, [], 0, mi0), (29, 3, .ifCond .lt 24, [53], 0, mi0), (32, 1, .aload_n 0, [], 0, mi0), (33, 1, .iload_n 1, [], 0, mi0), (34, 1, .iload_n 2, [], 0, mi0), (35, 2, .iload 4, [], 0, mi0), (37, 3, .invokevirtual 250, [4, 0, 0, 7, 0, 4009, 4011, 13007, 4012, 1001], 0, mF_sureness), (40, 1, .iload_n 3, [], 0, mi0), (41, 3, .if_icmp .lt 6, [47], 0, mi0), (44, 2, .iload 4, [], 0, mi0), (46, 1, .ireturn, [], 0, mi0)]
theorem oF_last_27 : okB mF_last 27 bF_last_27 47 = true := by decide +kernel
def bF_last_47 : List Item := [(47, 3, .iinc 4 (-1), [], 0, mi0), (50, 3, .goto (-23), [27], 0, mi0)]
theorem oF_last_47 : okB mF_last 47 bF_last_47 53 = true := by decide +kernel
def bF_last_53 : List Item := [(53, 2, .bipush (-9), [], 0, mi0), (55, 1, .ireturn, [], 0, mi0)]
theorem oF_last_53 : okB mF_last 53 bF_last_53 56 = true := by decide +kernel
def bF_lost_0 : List Item := [(0, 1, .iload_n 1, [], 0, mi0), (1, 3, .invokestatic 247, [1, 0, 0, 7, 0, 4006, 4007, 0, 4008, 1001], 0, mF_isMinute), (4, 3, .ifCond .eq 12, [16], 0, mi0), (7, 1, .iload_n 2, [], 0, mi0), (8, 3, .ifCond .lt 8, [16], 0, mi0), (11, 1, .iload_n 2, [], 0, mi0), (12, 1, .iconst 1, [], 0, mi0), (13, 3, .if_icmp .le 5, [18], 0, mi0)]
theorem oF_lost_0 : okB mF_lost 0 bF_lost_0 16 = true := by decide +kernel
def bF_lost_16 : List Item := [(16, 1, .iconst (-1), [], 0, mi0), (17, 1, .ireturn, [], 0, mi0)]
theorem oF_lost_16 : okB mF_lost 16 bF_lost_16 18 = true := by decide +kernel
def bF_lost_18 : List Item := [(18, 1, .iconst 0, [], 0, mi0), (19, 1, .istore_n 3, [], 0, mi0), (20, 1, .iconst 0, [], 0, mi0), (21, 2, .istore 4, [], 0, mi0)]
theorem oF_lost_18 : okB mF_lost 18 bF_lost_18 23 = true := by decide +kernel
def bF_lost_23 : List Item := [(23, 2, .iload 4, [], 0, mi0), (25, 1, .aload_n 0, [], 0, mi0), (26, 3, .getfield 29, [7, 3, 2103], 0, mi0), (29, 3, .getfield 160, [3, 6, 1087], 0, mi0), (32, 3, .if_icmp .ge 114, [146], 0, mi0), (35, 1, .aload_n 0, [], 0, mi0), (36, 3, .getfield 42, [7, 6, 2106], 0, mi0), (39, 3, .getfield 127, [4, 1, 1129], 0, mi0), (42, 2, .iload 4, [], 0, mi0), (44, 1, .ishr, [], 0, mi0), (45, 1, .iconst 1, [], 0, mi0), (46, 1, .iand, [], 0, mi0), (47, 3, .ifCond .eq 6, [53], 0, mi0), (50, 3, .goto 90, [140], 0, mi0)]
theorem oF_lost_23 : okB mF_lost 23 bF_lost_23 53 = true := by decide +kernel
def bF_lost_53 : List Item := [(53, 1, .aload_n 0, [], 0, mi0), (54, 3, .getfield 29, [7, 3, 2103], 0, mi0), (57, 3, .getfield 130, [3, 1, 1068], 0, mi0), (60, 2, .iload 4, [], 0, mi0), (62, 1, .aaload, [], 0, mi0), (63, 2, .astore 5, [], 0, mi0), (65, 1, .aload_n 0, [], 0, mi0), (66, 3, .getfield 62, [7, 10, 2110], 0, mi0), (69, 3, .getfield 151, [0, 3, 1200], 0, mi0), (72, 2, .aload 5, [], 0, mi0), (74, 1, .iconst 0, [], 0, mi0), (75, 1, .iaload, [], 0, mi0), (76, 1, .iaload, [], 0, mi0), (77, 2, .istore 6, [], 0, mi0), (79, 2, .iload 6, [], 0, mi0), (81, 2, .bipush (-9), [], 0, mi0), (83, 3, .if_icmp .eq 13, [96], 0, mi0), (86, 2, .iload 6, [], 0, mi0), (88, 1, .iload_n 1, [], 0, mi0), (89, 3, .if_icmp .gt 7, [96], 0, mi0), (92, 1, .iconst 1, [], 0, mi0), (93, 3, .goto 4, [97], 0, mi0)]
theorem oF_lost_53 : okB mF_lost 53 bF_lost_53 96 = true := by decide +kernel
def bF_lost_96 : List Item := [(96, 1, .iconst 0, [], 0, mi0)]
theorem oF_lost_96 : okB mF_lost 96 bF_lost_96 97 = true := by decide +kernel
def bF_lost_97 : List Item := [(97, 2, .istore 7, [], 0, mi0), (99, 2, .iload 7, [], 0, mi0), (101, 3, .ifCond .eq 14, [115], 0, mi0), (104, 1, .iload_n 2, [], 0, mi0), (105, 3, .ifCond .ne 10, [115], 0, mi0), (108, 1, .iload_n 3, [], 0, mi0), (109, 2, .aload 5, [], 0, mi0), (111, 1, .iconst 2, [], 0, mi0), (112, 1, .iaload, [], 0, mi0), (113, 1, .iadd, [], 0, mi0), (114, 1, .istore_n 3, [], 0, mi0)]
theorem oF_lost_97 : okB mF_lost 97 bF_lost_97 115 = true := by decide +kernel
def bF_lost_115 : List Item := [(115, 2, .iload 7, [], 0, mi0), (117, 3, .ifCond .ne 23, [140], 0, mi0), (120, 1, .iload_n 2, [], 0, mi0), (121, 1, .iconst 1, [], 0, mi0), (122, 3, .if_icmp .ne 18, [140], 0, mi0), (125, 1, .iload_n 3, [], 0, mi0), (126, 2, .aload 5, [], 0, mi0), (128, 1, .iconst 2, [], 0, mi0), (129, 1, .iaload, [], 0, mi0), (130, 2, .aload 5, [], 0, mi0), (132, 1, .iconst 3, [], 0, mi0), (133, 1, .iaload, [], 0, mi0), (134, 1, .imul, [], 0, mi0), (135, 2, .bipush 10, [], 0, mi0), (137, 1, .idiv, [], 0, mi0), (138, 1, .iadd, [], 0, mi0), (139, 1, .istore_n 3, [], 0, mi0)]
theorem oF_lost_115 : okB mF_lost 115 bF_lost_115 140 = true := by decide +kernel
def bF_lost_140 : List Item := [(140, 3, .iinc 4 1, [], 0, mi0), (143, 3, .goto (-120), [23], 0, mi0)]
theorem oF_lost_140 : okB mF_lost 140 bF_lost_140 146 = true := by decide +kernel
def bF_lost_146 : List Item := [(146, 1, .iload_n 3, [], 0, mi0), (147, 1, .ireturn, [], 0, mi0)]
theorem oF_lost_146 : okB mF_lost 146 bF_lost_146 148 = true := by decide +kernel
def bF_loads_0 : List Item := [(0, 1, .aload_n 0, [], 0, mi0), (1, 1, .iload_n 1, [], 0, mi0), (2, 3, .invokevirtual 142, [2, 0, 0, 7, 0, 3065, 3067, 12005, 3068, 1001], 0, mF_isRoom), (5, 3, .ifCond .eq 32, [37], 0, mi0), (8, 1, .iload_n 2, [], 0, mi0), (9, 1, .iconst 1, [], 0, mi0), (10, 3, .if_icmp .lt 27, [37], 0, mi0), (13, 1, .iload_n 2, [], 0, mi0), (14, 2, .bipush 40, [], 0, mi0), (16, 3, .if_icmp .gt 21, [37], 0, mi0), (19, 1, .iload_n 3, [], 0, mi0), (20, 3, .invokestatic 247, [1, 0, 0, 7, 0, 4006, 4007, 0, 4008, 1001], 0, mF_isMinute), (23, 3, .ifCond .eq 14, [37], 0, mi0), (26, 2, .iload 4, [], 0, mi0), (28, 3, .ifCond .lt 9, [37], 0, mi0), (31, 2, .iload 4, [], 0, mi0), (33, 1, .iconst 1, [], 0, mi0), (34, 3, .if_icmp .le 5, [39], 0, mi0)]
theorem oF_loads_0 : okB mF_loads 0 bF_loads_0 37 = true := by decide +kernel
def bF_loads_37 : List Item := [(37, 1, .iconst (-1), [], 0, mi0), (38, 1, .ireturn, [], 0, mi0)]
theorem oF_loads_37 : okB mF_loads 37 bF_loads_37 39 = true := by decide +kernel
def bF_loads_39 : List Item := [(39, 1, .aload_n 0, [], 0, mi0), (40, 3, .getfield 62, [7, 10, 2110], 0, mi0), (43, 3, .getfield 145, [0, 1, 1196], 0, mi0), (46, 1, .iload_n 1, [], 0, mi0), (47, 1, .iaload, [], 0, mi0), (48, 2, .bipush (-9), [], 0, mi0), (50, 3, .if_icmp .ne 6, [56], 0, mi0), (53, 2, .bipush (-2), [], 0, mi0), (55, 1, .ireturn, [], 0, mi0)]
theorem oF_loads_39 : okB mF_loads 39 bF_loads_39 56 = true := by decide +kernel
def bF_loads_56 : List Item := [(56, 2, .iload 4, [], 0, mi0), (58, 3, .ifCond .ne 20, [78], 0, mi0), (61, 1, .aload_n 0, [], 0, mi0), (62, 3, .getfield 62, [7, 10, 2110], 0, mi0), (65, 3, .getfield 145, [0, 1, 1196], 0, mi0), (68, 1, .iload_n 1, [], 0, mi0), (69, 1, .iaload, [], 0, mi0), (70, 1, .iload_n 2, [], 0, mi0), (71, 1, .iload_n 3, [], 0, mi0), (72, 3, .invokestatic 254, [3, 0, 0, 7, 0, 4025, 4026, 0, 4027, 1001], 0, mF_byChain), (75, 3, .goto 17, [92], 0, mi0)]
theorem oF_loads_56 : okB mF_loads 56 bF_loads_56 78 = true := by decide +kernel
def bF_loads_78 : List Item := [(78, 1, .aload_n 0, [], 0, mi0), (79, 3, .getfield 62, [7, 10, 2110], 0, mi0), (82, 3, .getfield 145, [0, 1, 1196], 0, mi0), (85, 1, .iload_n 1, [], 0, mi0), (86, 1, .iaload, [], 0, mi0), (87, 1, .iload_n 2, [], 0, mi0), (88, 1, .iload_n 3, [], 0, mi0), (89, 3, .invokestatic 257, [3, 0, 0, 7, 0, 4029, 4030, 0, 4031, 1001], 0, mF_byRunners)]
theorem oF_loads_78 : okB mF_loads 78 bF_loads_78 92 = true := by decide +kernel
def bF_loads_92 : List Item := [(92, 1, .ireturn, [], 0, mi0)]
theorem oF_loads_92 : okB mF_loads 92 bF_loads_92 93 = true := by decide +kernel
def bF_byChain_0 : List Item := [(0, 1, .iload_n 1, [], 0, mi0), (1, 1, .iload_n 0, [], 0, mi0), (2, 1, .iconst 1, [], 0, mi0), (3, 1, .iadd, [], 0, mi0), (4, 1, .idiv, [], 0, mi0), (5, 1, .iconst 0, [], 0, mi0), (6, 1, .iload_n 2, [], 0, mi0), (7, 1, .iload_n 0, [], 0, mi0), (8, 1, .isub, [], 0, mi0), (9, 3, .invokestatic 266, [2, 0, 0, 0, 2, 4028, 2088, 0, 2089, 1010], 0, mi0), (12, 1, .imul, [], 0, mi0), (13, 1, .ireturn, [], 0, mi0)]
theorem oF_byChain_0 : okB mF_byChain 0 bF_byChain_0 14 = true := by decide +kernel
def bF_byRunners_0 : List Item := [(0, 1, .iload_n 1, [], 0, mi0), (1, 1, .iload_n 2, [], 0, mi0), (2, 1, .iconst 1, [], 0, mi0), (3, 1, .iconst 2, [], 0, mi0), (4, 1, .iload_n 0, [], 0, mi0), (5, 1, .imul, [], 0, mi0), (6, 3, .invokestatic 266, [2, 0, 0, 0, 2, 4028, 2088, 0, 2089, 1010], 0, mi0), (9, 1, .idiv, [], 0, mi0), (10, 1, .imul, [], 0, mi0), (11, 1, .ireturn, [], 0, mi0)]
theorem oF_byRunners_0 : okB mF_byRunners 0 bF_byRunners_0 12 = true := by decide +kernel
def bF_edge_0 : List Item := [(0, 1, .aload_n 0, [], 0, mi0), (1, 1, .iload_n 1, [], 0, mi0), (2, 3, .invokevirtual 142, [2, 0, 0, 7, 0, 3065, 3067, 12005, 3068, 1001], 0, mF_isRoom), (5, 3, .ifCond .eq 10, [15], 0, mi0), (8, 1, .iload_n 2, [], 0, mi0), (9, 3, .invokestatic 247, [1, 0, 0, 7, 0, 4006, 4007, 0, 4008, 1001], 0, mF_isMinute), (12, 3, .ifCond .ne 5, [17], 0, mi0)]
theorem oF_edge_0 : okB mF_edge 0 bF_edge_0 15 = true := by decide +kernel
def bF_edge_15 : List Item := [(15, 1, .iconst (-1), [], 0, mi0), (16, 1, .ireturn, [], 0, mi0)]
theorem oF_edge_15 : okB mF_edge 15 bF_edge_15 17 = true := by decide +kernel
def bF_edge_17 : List Item := [(17, 1, .aload_n 0, [], 0, mi0), (18, 3, .getfield 62, [7, 10, 2110], 0, mi0), (21, 3, .getfield 145, [0, 1, 1196], 0, mi0), (24, 1, .iload_n 1, [], 0, mi0), (25, 1, .iaload, [], 0, mi0), (26, 1, .istore_n 3, [], 0, mi0), (27, 1, .iload_n 3, [], 0, mi0), (28, 2, .bipush (-9), [], 0, mi0), (30, 3, .if_icmp .ne 6, [36], 0, mi0), (33, 2, .bipush (-2), [], 0, mi0), (35, 1, .ireturn, [], 0, mi0)]
theorem oF_edge_17 : okB mF_edge 17 bF_edge_17 36 = true := by decide +kernel
def bF_edge_36 : List Item := [(36, 1, .iconst 1, [], 0, mi0), (37, 2, .istore 4, [], 0, mi0)]
theorem oF_edge_36 : okB mF_edge 36 bF_edge_36 39 = true := by decide +kernel
def bF_edge_39 : List Item := [(39, 2, .iload 4, [], 0, mi0), (41, 2, .bipush 40, [], 0, mi0), (43, 3, .if_icmp .gt 29, [72], 0, mi0), (46, 1, .iload_n 3, [], 0, mi0), (47, 2, .iload 4, [], 0, mi0), (49, 1, .iload_n 2, [], 0, mi0), (50, 3, .invokestatic 254, [3, 0, 0, 7, 0, 4025, 4026, 0, 4027, 1001], 0, mF_byChain), (53, 1, .iload_n 3, [], 0, mi0), (54, 2, .iload 4, [], 0, mi0), (56, 1, .iload_n 2, [], 0, mi0), (57, 3, .invokestatic 257, [3, 0, 0, 7, 0, 4029, 4030, 0, 4031, 1001], 0, mF_byRunners), (60, 3, .if_icmp .le 6, [66], 0, mi0), (63, 2, .iload 4, [], 0, mi0), (65, 1, .ireturn, [], 0, mi0)]
theorem oF_edge_39 : okB mF_edge 39 bF_edge_39 66 = true := by decide +kernel
def bF_edge_66 : List Item := [(66, 3, .iinc 4 1, [], 0, mi0), (69, 3, .goto (-30), [39], 0, mi0)]
theorem oF_edge_66 : okB mF_edge 66 bF_edge_66 72 = true := by decide +kernel
def bF_edge_72 : List Item := [(72, 2, .bipush (-9), [], 0, mi0), (74, 1, .ireturn, [], 0, mi0)]
theorem oF_edge_72 : okB mF_edge 72 bF_edge_72 75 = true := by decide +kernel
def bF_place_0 : List Item := [(0, 1, .aload_n 0, [], 0, mi0), (1, 1, .iload_n 1, [], 0, mi0), (2, 3, .invokevirtual 123, [2, 0, 0, 7, 0, 3049, 3051, 12004, 3052, 1001], 0, mF_isBundle), (5, 3, .ifCond .eq 14, [19], 0, mi0), (8, 1, .iload_n 2, [], 0, mi0), (9, 1, .iconst 1, [], 0, mi0), (10, 3, .if_icmp .lt 9, [19], 0, mi0), (13, 1, .iload_n 2, [], 0, mi0), (14, 2, .bipush 9, [], 0, mi0), (16, 3, .if_icmp .le 5, [21], 0, mi0)]
theorem oF_place_0 : okB mF_place 0 bF_place_0 19 = true := by decide +kernel
def bF_place_19 : List Item := [(19, 1, .iconst (-1), [], 0, mi0), (20, 1, .ireturn, [], 0, mi0)]
theorem oF_place_19 : okB mF_place 19 bF_place_19 21 = true := by decide +kernel
def bF_place_21 : List Item := [(21, 1, .iconst 0, [], 0, mi0), (22, 1, .istore_n 3, [], 0, mi0), (23, 1, .iconst 0, [], 0, mi0), (24, 2, .istore 4, [], 0, mi0)]
theorem oF_place_21 : okB mF_place 21 bF_place_21 26 = true := by decide +kernel
def bF_place_26 : List Item := [(26, 2, .iload 4, [], 0, mi0), (28, 1, .aload_n 0, [], 0, mi0), (29, 3, .getfield 29, [7, 3, 2103], 0, mi0), (32, 3, .getfield 160, [3, 6, 1087], 0, mi0), (35, 3, .if_icmp .ge 26, [61], 0, mi0), (38, 1, .aload_n 0, [], 0, mi0), (39, 3, .getfield 55, [7, 9, 2109], 0, mi0), (42, 3, .getfield 260, [1, 5, 1164], 0, mi0), (45, 2, .iload 4, [], 0, mi0), (47, 1, .iaload, [], 0, mi0), (48, 1, .iload_n 1, [], 0, mi0), (49, 3, .if_icmp .eq 12, [61], 0, mi0), (52, 3, .iinc 3 1, [], 0, mi0), (55, 3, .iinc 4 1, [], 0, mi0), (58, 3, .goto (-32), [26], 0, mi0)]
theorem oF_place_26 : okB mF_place 26 bF_place_26 61 = true := by decide +kernel
def bF_place_61 : List Item := [(61, 1, .iload_n 3, [], 0, mi0), (62, 1, .iload_n 2, [], 0, mi0), (63, 1, .idiv, [], 0, mi0), (64, 2, .istore 4, [], 0, mi0), (66, 1, .iconst 0, [], 0, mi0), (67, 2, .istore 5, [], 0, mi0)]
theorem oF_place_61 : okB mF_place 61 bF_place_61 69 = true := by decide +kernel
def bF_place_69 : List Item := [(69, 2, .iload 5, [], 0, mi0), (71, 1, .aload_n 0, [], 0, mi0), (72, 3, .getfield 29, [7, 3, 2103], 0, mi0), (75, 3, .getfield 157, [3, 4, 1079], 0, mi0), (78, 3, .if_icmp .ge 23, [101], 0, mi0), (81, 1, .aload_n 0, [], 0, mi0), (82, 2, .iload 5, [], 0, mi0), (84, 3, .invokevirtual 263, [2, 0, 0, 7, 0, 4040, 4042, 13008, 4043, 1001], 0, mF_roomsBetterThan), (87, 2, .iload 4, [], 0, mi0), (89, 3, .if_icmp .ne 6, [95], 0, mi0), (92, 2, .iload 5, [], 0, mi0), (94, 1, .ireturn, [], 0, mi0)]
theorem oF_place_69 : okB mF_place 69 bF_place_69 95 = true := by decide +kernel
def bF_place_95 : List Item := [(95, 3, .iinc 5 1, [], 0, mi0), (98, 3, .goto (-29), [69], 0, mi0)]
theorem oF_place_95 : okB mF_place 95 bF_place_95 101 = true := by decide +kernel
def bF_place_101 : List Item := [(101, 2, .bipush (-9), [], 0, mi0), (103, 1, .ireturn, [], 0, mi0)]
theorem oF_place_101 : okB mF_place 101 bF_place_101 104 = true := by decide +kernel
def bF_roomsBetterThan_0 : List Item := [(0, 1, .iconst 0, [], 0, mi0), (1, 1, .istore_n 2, [], 0, mi0), (2, 1, .iconst 0, [], 0, mi0), (3, 1, .istore_n 3, [], 0, mi0)]
theorem oF_roomsBetterThan_0 : okB mF_roomsBetterThan 0 bF_roomsBetterThan_0 4 = true := by decide +kernel
def bF_roomsBetterThan_4 : List Item := [(4, 1, .iload_n 3, [], 0, mi0), (5, 1, .aload_n 0, [], 0, mi0), (6, 3, .getfield 29, [7, 3, 2103], 0, mi0), (9, 3, .getfield 157, [3, 4, 1079], 0, mi0), (12, 3, .if_icmp .ge 26, [38], 0, mi0), (15, 1, .iload_n 3, [], 0, mi0), (16, 1, .iload_n 1, [], 0, mi0), (17, 3, .if_icmp .eq 15, [32], 0, mi0), (20, 1, .aload_n 0, [], 0, mi0), (21, 1, .iload_n 3, [], 0, mi0), (22, 1, .iload_n 1, [], 0, mi0), (23, 3, .invokevirtual 271, [3, 0, 0, 7, 0, 4044, 4046, 13009, 4047, 1001], 0, mF_isBetterPlace), (26, 3, .ifCond .eq 6, [32], 0, mi0), (29, 3, .iinc 2 1, [], 0, mi0)]
theorem oF_roomsBetterThan_4 : okB mF_roomsBetterThan 4 bF_roomsBetterThan_4 32 = true := by decide +kernel
def bF_roomsBetterThan_32 : List Item := [(32, 3, .iinc 3 1, [], 0, mi0), (35, 3, .goto (-31), [4], 0, mi0)]
theorem oF_roomsBetterThan_32 : okB mF_roomsBetterThan 32 bF_roomsBetterThan_32 38 = true := by decide +kernel
def bF_roomsBetterThan_38 : List Item := [(38, 1, .iload_n 2, [], 0, mi0), (39, 1, .ireturn, [], 0, mi0)]
theorem oF_roomsBetterThan_38 : okB mF_roomsBetterThan 38 bF_roomsBetterThan_38 40 = true := by decide +kernel
def bF_isBetterPlace_0 : List Item := [(0, 1, .aload_n 0, [], 0, mi0), (1, 3, .getfield 62, [7, 10, 2110], 0, mi0), (4, 3, .getfield 154, [0, 4, 1203], 0, mi0), (7, 1, .iload_n 1, [], 0, mi0), (8, 1, .iaload, [], 0, mi0), (9, 3, .invokestatic 274, [1, 0, 0, 7, 0, 4048, 3209, 0, 3210, 1001], 0, mF_orNever), (12, 1, .istore_n 3, [], 0, mi0), (13, 1, .aload_n 0, [], 0, mi0), (14, 3, .getfield 62, [7, 10, 2110], 0, mi0), (17, 3, .getfield 154, [0, 4, 1203], 0, mi0), (20, 1, .iload_n 2, [], 0, mi0), (21, 1, .iaload, [], 0, mi0), (22, 3, .invokestatic 274, [1, 0, 0, 7, 0, 4048, 3209, 0, 3210, 1001], 0, mF_orNever), (25, 2, .istore 4, [], 0, mi0), (27, 1, .iload_n 3, [], 0, mi0), (28, 2, .iload 4, [], 0, mi0), (30, 3, .if_icmp .eq 15, [45], 0, mi0), (33, 1, .iload_n 3, [], 0, mi0), (34, 2, .iload 4, [], 0, mi0), (36, 3, .if_icmp .le 7, [43], 0, mi0), (39, 1, .iconst 1, [], 0, mi0), (40, 3, .goto 4, [44], 0, mi0)]
theorem oF_isBetterPlace_0 : okB mF_isBetterPlace 0 bF_isBetterPlace_0 43 = true := by decide +kernel
def bF_isBetterPlace_43 : List Item := [(43, 1, .iconst 0, [], 0, mi0)]
theorem oF_isBetterPlace_43 : okB mF_isBetterPlace 43 bF_isBetterPlace_43 44 = true := by decide +kernel
def bF_isBetterPlace_44 : List Item := [(44, 1, .ireturn, [], 0, mi0)]
theorem oF_isBetterPlace_44 : okB mF_isBetterPlace 44 bF_isBetterPlace_44 45 = true := by decide +kernel
def bF_isBetterPlace_45 : List Item := [(45, 1, .aload_n 0, [], 0, mi0), (46, 3, .getfield 62, [7, 10, 2110], 0, mi0), (49, 3, .getfield 145, [0, 1, 1196], 0, mi0), (52, 1, .iload_n 1, [], 0, mi0), (53, 1, .iaload, [], 0, mi0), (54, 3, .invokestatic 274, [1, 0, 0, 7, 0, 4048, 3209, 0, 3210, 1001], 0, mF_orNever), (57, 2, .istore 5, [], 0, mi0), (59, 1, .aload_n 0, [], 0, mi0), (60, 3, .getfield 62, [7, 10, 2110], 0, mi0), (63, 3, .getfield 145, [0, 1, 1196], 0, mi0), (66, 1, .iload_n 2, [], 0, mi0), (67, 1, .iaload, [], 0, mi0), (68, 3, .invokestatic 274, [1, 0, 0, 7, 0, 4048, 3209, 0, 3210, 1001], 0, mF_orNever), (71, 2, .istore 6, [], 0, mi0), (73, 2, .iload 5, [], 0, mi0), (75, 2, .iload 6, [], 0, mi0), (77, 3, .if_icmp .eq 18, [95], 0, mi0), (80, 2, .iload 5, [], 0, mi0), (82, 2, .iload 6, [], 0, mi0), (84, 3, .if_icmp .ge 7, [91], 0, mi0), (87, 1, .iconst 1, [], 0, mi0), (88, 3, .goto 17, [105], 0, mi0)]
theorem oF_isBetterPlace_45 : okB mF_isBetterPlace 45 bF_isBetterPlace_45 91 = true := by decide +kernel
def bF_isBetterPlace_91 : List Item := [(91, 1, .iconst 0, [], 0, mi0), (92, 3, .goto 13, [105], 0, mi0)]
theorem oF_isBetterPlace_91 : okB mF_isBetterPlace 91 bF_isBetterPlace_91 95 = true := by decide +kernel
def bF_isBetterPlace_95 : List Item := [(95, 1, .iload_n 1, [], 0, mi0), (96, 1, .iload_n 2, [], 0, mi0), (97, 3, .if_icmp .ge 7, [104], 0, mi0), (100, 1, .iconst 1, [], 0, mi0), (101, 3, .goto 4, [105], 0, mi0)]
theorem oF_isBetterPlace_95 : okB mF_isBetterPlace 95 bF_isBetterPlace_95 104 = true := by decide +kernel
def bF_isBetterPlace_104 : List Item := [(104, 1, .iconst 0, [], 0, mi0)]
theorem oF_isBetterPlace_104 : okB mF_isBetterPlace 104 bF_isBetterPlace_104 105 = true := by decide +kernel
def bF_isBetterPlace_105 : List Item := [(105, 1, .ireturn, [], 0, mi0)]
theorem oF_isBetterPlace_105 : okB mF_isBetterPlace 105 bF_isBetterPlace_105 106 = true := by decide +kernel
def bF_price_0 : List Item := [(0, 1, .aload_n 0, [], 0, mi0), (1, 1, .iload_n 2, [], 0, mi0), (2, 3, .invokevirtual 123, [2, 0, 0, 7, 0, 3049, 3051, 12004, 3052, 1001], 0, mF_isBundle), (5, 3, .ifCond .ne 7, [12], 0, mi0), (8, 3, .ldc_w 278, [0, 0, 4053], (-1000000), mi0), (11, 1, .ireturn, [], 0, mi0)]
theorem oF_price_0 : okB mF_price 0 bF_price_0 12 = true := by decide +kernel
def bF_price_12 : List Item := [(12, 1, .iload_n 1, [], 0, mi0), (13, 39, .tableswitch 75 0 5 #[39, 45, 51, 57, 63, 69], [88, 52, 58, 64, 70, 76, 82], 0, mi0)]
theorem oF_price_12 : okB mF_price 12 bF_price_12 52 = true := by decide +kernel
def bF_price_52 : List Item := [(52, 1, .aload_n 0, [], 0, mi0), (53, 1, .iload_n 2, [], 0, mi0), (54, 3, .invokevirtual 279, [2, 0, 0, 7, 0, 4054, 4056, 13010, 4057, 1001], 0, mF_planPrice), (57, 1, .ireturn, [], 0, mi0)]
theorem oF_price_52 : okB mF_price 52 bF_price_52 58 = true := by decide +kernel
def bF_price_58 : List Item := [(58, 1, .aload_n 0, [], 0, mi0), (59, 1, .iload_n 2, [], 0, mi0), (60, 3, .invokevirtual 282, [2, 0, 0, 7, 0, 4058, 4060, 13011, 4061, 1001], 0, mF_nearPrice), (63, 1, .ireturn, [], 0, mi0)]
theorem oF_price_58 : okB mF_price 58 bF_price_58 64 = true := by decide +kernel
def bF_price_64 : List Item := [(64, 1, .aload_n 0, [], 0, mi0), (65, 1, .iload_n 2, [], 0, mi0), (66, 3, .invokevirtual 285, [2, 0, 0, 7, 0, 4066, 4068, 13012, 4069, 1001], 0, mF_worthPrice), (69, 1, .ireturn, [], 0, mi0)]
theorem oF_price_64 : okB mF_price 64 bF_price_64 70 = true := by decide +kernel
def bF_price_70 : List Item := [(70, 1, .aload_n 0, [], 0, mi0), (71, 1, .iload_n 2, [], 0, mi0), (72, 3, .invokevirtual 288, [2, 0, 0, 7, 0, 4071, 4073, 13013, 4074, 1001], 0, mF_chainPrice), (75, 1, .ireturn, [], 0, mi0)]
theorem oF_price_70 : okB mF_price 70 bF_price_70 76 = true := by decide +kernel
def bF_price_76 : List Item := [(76, 1, .aload_n 0, [], 0, mi0), (77, 1, .iload_n 2, [], 0, mi0), (78, 3, .invokevirtual 291, [2, 0, 0, 7, 0, 4076, 4078, 13014, 4079, 1001], 0, mF_bestPrice), (81, 1, .ireturn, [], 0, mi0)]
theorem oF_price_76 : okB mF_price 76 bF_price_76 82 = true := by decide +kernel
def bF_price_82 : List Item := [(82, 1, .aload_n 0, [], 0, mi0), (83, 1, .iload_n 2, [], 0, mi0), (84, 3, .invokevirtual 294, [2, 0, 0, 7, 0, 4081, 4083, 13015, 4084, 1001], 0, mF_shutPrice), (87, 1, .ireturn, [], 0, mi0)]
theorem oF_price_82 : okB mF_price 82 bF_price_82 88 = true := by decide +kernel
def bF_price_88 : List Item := [(88, 3, .ldc_w 278, [0, 0, 4053], (-1000000), mi0), (91, 1, .ireturn, [], 0, mi0)]
theorem oF_price_88 : okB mF_price 88 bF_price_88 92 = true := by decide +kernel
def bF_planPrice_0 : List Item := [(0, 1, .aload_n 0, [], 0, mi0), (1, 1, .dup, [], 0, mi0), (2, 3, .getfield 88, [7, 15, 2115], 0, mi0), (5, 1, .lconst 1, [], 0, mi0), (6, 1, .ladd, [], 0, mi0), (7, 3, .putfield 88, [7, 15, 2115, 1], 0, mi0), (10, 1, .aload_n 0, [], 0, mi0), (11, 3, .getfield 29, [7, 3, 2103], 0, mi0), (14, 3, .getfield 130, [3, 1, 1068], 0, mi0), (17, 1, .iload_n 1, [], 0, mi0), (18, 1, .aaload, [], 0, mi0), (19, 1, .iconst 1, [], 0, mi0), (20, 1, .iaload, [], 0, mi0), (21, 1, .ireturn, [], 0, mi0)]
theorem oF_planPrice_0 : okB mF_planPrice 0 bF_planPrice_0 22 = true := by decide +kernel
def bF_nearPrice_0 : List Item := [(0, 1, .aload_n 0, [], 0, mi0), (1, 1, .dup, [], 0, mi0), (2, 3, .getfield 88, [7, 15, 2115], 0, mi0), (5, 3, .ldc2_w 304, [0, 0, 4062], 10, mi0), (8, 1, .ladd, [], 0, mi0), (9, 3, .putfield 88, [7, 15, 2115, 1], 0, mi0), (12, 1, .aload_n 0, [], 0, mi0), (13, 1, .iload_n 1, [], 0, mi0), (14, 3, .invokevirtual 279, [2, 0, 0, 7, 0, 4054, 4056, 13010, 4057, 1001], 0, mF_planPrice), (17, 1, .aload_n 0, [], 0, mi0), (18, 3, .getfield 62, [7, 10, 2110], 0, mi0), (21, 3, .getfield 154, [0, 4, 1203], 0, mi0), (24, 1, .aload_n 0, [], 0, mi0), (25, 3, .getfield 29, [7, 3, 2103], 0, mi0), (28, 3, .getfield 130, [3, 1, 1068], 0, mi0), (31, 1, .iload_n 1, [], 0, mi0), (32, 1, .aaload, [], 0, mi0), (33, 1, .iconst 0, [], 0, mi0), (34, 1, .iaload, [], 0, mi0), (35, 1, .iaload, [], 0, mi0), (36, 3, .invokestatic 306, [1, 0, 0, 7, 0, 4063, 4064, 0, 4065, 1001], 0, mF_orZero), (39, 1, .iadd, [], 0, mi0), (40, 1, .ireturn, [], 0, mi0)]
theorem oF_nearPrice_0 : okB mF_nearPrice 0 bF_nearPrice_0 41 = true := by decide +kernel
def bF_orZero_0 : List Item := [(0, 1, .iload_n 0, [], 0, mi0), (1, 2, .bipush (-9), [], 0, mi0), (3, 3, .if_icmp .ne 7, [10], 0, mi0), (6, 1, .iconst 0, [], 0, mi0), (7, 3, .goto 4, [11], 0, mi0)]
theorem oF_orZero_0 : okB mF_orZero 0 bF_orZero_0 10 = true := by decide +kernel
def bF_orZero_10 : List Item := [(10, 1, .iload_n 0, [], 0, mi0)]
theorem oF_orZero_10 : okB mF_orZero 10 bF_orZero_10 11 = true := by decide +kernel
def bF_orZero_11 : List Item := [(11, 1, .ireturn, [], 0, mi0)]
theorem oF_orZero_11 : okB mF_orZero 11 bF_orZero_11 12 = true := by decide +kernel
def bF_worthPrice_0 : List Item := [(0, 1, .aload_n 0, [], 0, mi0), (1, 1, .dup, [], 0, mi0), (2, 3, .getfield 88, [7, 15, 2115], 0, mi0), (5, 3, .ldc2_w 309, [0, 0, 4070], 100, mi0), (8, 1, .ladd, [], 0, mi0), (9, 3, .putfield 88, [7, 15, 2115, 1], 0, mi0), (12, 1, .aload_n 0, [], 0, mi0), (13, 1, .iload_n 1, [], 0, mi0), (14, 3, .invokevirtual 279, [2, 0, 0, 7, 0, 4054, 4056, 13010, 4057, 1001], 0, mF_planPrice), (17, 1, .aload_n 0, [], 0, mi0), (18, 3, .getfield 29, [7, 3, 2103], 0, mi0), (21, 3, .getfield 130, [3, 1, 1068], 0, mi0), (24, 1, .iload_n 1, [], 0, mi0), (25, 1, .aaload, [], 0, mi0), (26, 1, .iconst 2, [], 0, mi0), (27, 1, .iaload, [], 0, mi0), (28, 1, .imul, [], 0, mi0), (29, 1, .ireturn, [], 0, mi0)]
theorem oF_worthPrice_0 : okB mF_worthPrice 0 bF_worthPrice_0 30 = true := by decide +kernel
def bF_chainPrice_0 : List Item := [(0, 1, .aload_n 0, [], 0, mi0), (1, 1, .dup, [], 0, mi0), (2, 3, .getfield 88, [7, 15, 2115], 0, mi0), (5, 3, .ldc2_w 311, [0, 0, 4075], 1000, mi0), (8, 1, .ladd, [], 0, mi0), (9, 3, .putfield 88, [7, 15, 2115, 1], 0, mi0), (12, 1, .aload_n 0, [], 0, mi0), (13, 1, .iload_n 1, [], 0, mi0), (14, 3, .invokevirtual 282, [2, 0, 0, 7, 0, 4058, 4060, 13011, 4061, 1001], 0, mF_nearPrice), (17, 1, .aload_n 0, [], 0, mi0), (18, 3, .getfield 62, [7, 10, 2110], 0, mi0), (21, 3, .getfield 145, [0, 1, 1196], 0, mi0), (24, 1, .aload_n 0, [], 0, mi0), (25, 3, .getfield 29, [7, 3, 2103], 0, mi0), (28, 3, .getfield 130, [3, 1, 1068], 0, mi0), (31, 1, .iload_n 1, [], 0, mi0), (32, 1, .aaload, [], 0, mi0), (33, 1, .iconst 0, [], 0, mi0), (34, 1, .iaload, [], 0, mi0), (35, 1, .iaload, [], 0, mi0), (36, 3, .invokestatic 306, [1, 0, 0, 7, 0, 4063, 4064, 0, 4065, 1001], 0, mF_orZero), (39, 1, .iadd, [], 0, mi0), (40, 1, .ireturn, [], 0, mi0)]
theorem oF_chainPrice_0 : okB mF_chainPrice 0 bF_chainPrice_0 41 = true := by decide +kernel
def bF_bestPrice_0 : List Item := [(0, 1, .aload_n 0, [], 0, mi0), (1, 1, .dup, [], 0, mi0), (2, 3, .getfield 88, [7, 15, 2115], 0, mi0), (5, 3, .ldc2_w 313, [0, 0, 4080], 10000, mi0), (8, 1, .ladd, [], 0, mi0), (9, 3, .putfield 88, [7, 15, 2115, 1], 0, mi0), (12, 1, .aload_n 0, [], 0, mi0), (13, 1, .iload_n 1, [], 0, mi0), (14, 3, .invokevirtual 285, [2, 0, 0, 7, 0, 4066, 4068, 13012, 4069, 1001], 0, mF_worthPrice), (17, 1, .aload_n 0, [], 0, mi0), (18, 3, .getfield 29, [7, 3, 2103], 0, mi0), (21, 3, .getfield 130, [3, 1, 1068], 0, mi0), (24, 1, .iload_n 1, [], 0, mi0), (25, 1, .aaload, [], 0, mi0), (26, 1, .iconst 3, [], 0, mi0), (27, 1, .iaload, [], 0, mi0), (28, 1, .isub, [], 0, mi0), (29, 1, .ireturn, [], 0, mi0)]
theorem oF_bestPrice_0 : okB mF_bestPrice 0 bF_bestPrice_0 30 = true := by decide +kernel
def bF_shutPrice_0 : List Item := [(0, 1, .aload_n 0, [], 0, mi0), (1, 1, .dup, [], 0, mi0), (2, 3, .getfield 88, [7, 15, 2115], 0, mi0), (5, 3, .ldc2_w 315, [0, 0, 4085], 100000, mi0), (8, 1, .ladd, [], 0, mi0), (9, 3, .putfield 88, [7, 15, 2115, 1], 0, mi0), (12, 1, .aload_n 0, [], 0, mi0), (13, 1, .iload_n 1, [], 0, mi0), (14, 3, .invokevirtual 279, [2, 0, 0, 7, 0, 4054, 4056, 13010, 4057, 1001], 0, mF_planPrice), (17, 1, .aload_n 0, [], 0, mi0), (18, 3, .getfield 42, [7, 6, 2106], 0, mi0), (21, 3, .getfield 109, [4, 2, 1131], 0, mi0), (24, 3, .invokestatic 196, [1, 0, 0, 0, 0, 3112, 2037, 0, 2038, 1009], 0, mjI_bitCount), (27, 1, .iadd, [], 0, mi0), (28, 1, .ireturn, [], 0, mi0)]
theorem oF_shutPrice_0 : okB mF_shutPrice 0 bF_shutPrice_0 29 = true := by decide +kernel
def bF_keep_0 : List Item := [(0, 1, .iload_n 1, [], 0, mi0), (1, 3, .ifCond .lt 8, [9], 0, mi0), (4, 1, .iload_n 1, [], 0, mi0), (5, 1, .iconst 1, [], 0, mi0), (6, 3, .if_icmp .le 5, [11], 0, mi0)]
theorem oF_keep_0 : okB mF_keep 0 bF_keep_0 9 = true := by decide +kernel
def bF_keep_9 : List Item := [(9, 1, .iconst (-1), [], 0, mi0), (10, 1, .ireturn, [], 0, mi0)]
theorem oF_keep_9 : okB mF_keep 9 bF_keep_9 11 = true := by decide +kernel
def bF_keep_11 : List Item := [(11, 1, .iload_n 1, [], 0, mi0), (12, 3, .ifCond .ne 10, [22], 0, mi0), (15, 1, .aload_n 0, [], 0, mi0), (16, 3, .getfield 46, [7, 7, 2107], 0, mi0), (19, 3, .goto 7, [26], 0, mi0)]
theorem oF_keep_11 : okB mF_keep 11 bF_keep_11 22 = true := by decide +kernel
def bF_keep_22 : List Item := [(22, 1, .aload_n 0, [], 0, mi0), (23, 3, .getfield 49, [7, 8, 2108], 0, mi0)]
theorem oF_keep_22 : okB mF_keep 22 bF_keep_22 26 = true := by decide +kernel
def bF_keep_26 : List Item := [(26, 1, .astore_n 2, [], 0, mi0), (27, 1, .aload_n 2, [], 0, mi0), (28, 1, .aload_n 0, [], 0, mi0), (29, 3, .getfield 42, [7, 6, 2106], 0, mi0), (32, 3, .invokevirtual 297, [2, 0, 0, 4, 0, 4090, 4091, 4092, 4093, 1004], 0, mP_copy), (35, 1, .aload_n 2, [], 0, mi0), (36, 1, .iconst 1, [], 0, mi0), (37, 3, .putfield 112, [4, 3, 1133, 3], 0, mi0), (40, 1, .aload_n 0, [], 0, mi0), (41, 3, .getfield 42, [7, 6, 2106], 0, mi0), (44, 3, .getfield 127, [4, 1, 1129], 0, mi0), (47, 3, .invokestatic 196, [1, 0, 0, 0, 0, 3112, 2037, 0, 2038, 1009], 0, mjI_bitCount), (50, 1, .ireturn, [], 0, mi0)]
theorem oF_keep_26 : okB mF_keep 26 bF_keep_26 51 = true := by decide +kernel
def bF_back_0 : List Item := [(0, 1, .iload_n 1, [], 0, mi0), (1, 3, .ifCond .lt 8, [9], 0, mi0), (4, 1, .iload_n 1, [], 0, mi0), (5, 1, .iconst 1, [], 0, mi0), (6, 3, .if_icmp .le 5, [11], 0, mi0)]
theorem oF_back_0 : okB mF_back 0 bF_back_0 9 = true := by decide +kernel
def bF_back_9 : List Item := [(9, 1, .iconst (-1), [], 0, mi0), (10, 1, .ireturn, [], 0, mi0)]
theorem oF_back_9 : okB mF_back 9 bF_back_9 11 = true := by decide +kernel
def bF_back_11 : List Item := [(11, 1, .iload_n 1, [], 0, mi0), (12, 3, .ifCond .ne 10, [22], 0, mi0), (15, 1, .aload_n 0, [], 0, mi0), (16, 3, .getfield 46, [7, 7, 2107], 0, mi0), (19, 3, .goto 7, [26], 0, mi0)]
theorem oF_back_11 : okB mF_back 11 bF_back_11 22 = true := by decide +kernel
def bF_back_22 : List Item := [(22, 1, .aload_n 0, [], 0, mi0), (23, 3, .getfield 49, [7, 8, 2108], 0, mi0)]
theorem oF_back_22 : okB mF_back 22 bF_back_22 26 = true := by decide +kernel
def bF_back_26 : List Item := [(26, 1, .astore_n 2, [], 0, mi0), (27, 1, .aload_n 2, [], 0, mi0), (28, 3, .getfield 112, [4, 3, 1133], 0, mi0), (31, 3, .ifCond .ne 6, [37], 0, mi0), (34, 2, .bipush (-2), [], 0, mi0), (36, 1, .ireturn, [], 0, mi0)]
theorem oF_back_26 : okB mF_back 26 bF_back_26 37 = true := by decide +kernel
def bF_back_37 : List Item := [(37, 1, .aload_n 0, [], 0, mi0), (38, 3, .getfield 42, [7, 6, 2106], 0, mi0), (41, 1, .aload_n 2, [], 0, mi0), (42, 3, .invokevirtual 297, [2, 0, 0, 4, 0, 4090, 4091, 4092, 4093, 1004], 0, mP_copy), (45, 1, .aload_n 0, [], 0, mi0), (46, 3, .getfield 62, [7, 10, 2110], 0, mi0), (49, 1, .aload_n 0, [], 0, mi0), (50, 3, .getfield 29, [7, 3, 2103], 0, mi0), (53, 1, .aload_n 0, [], 0, mi0), (54, 3, .getfield 36, [7, 5, 2105], 0, mi0), (57, 1, .aload_n 0, [], 0, mi0), (58, 3, .getfield 42, [7, 6, 2106], 0, mi0), (61, 3, .getfield 109, [4, 2, 1131], 0, mi0), (64, 3, .invokevirtual 96, [4, 0, 0, 0, 0, 2057, 2058, 2059, 2060, 1006], 0, mA_draw), (67, 1, .aload_n 0, [], 0, mi0), (68, 3, .getfield 42, [7, 6, 2106], 0, mi0), (71, 3, .getfield 127, [4, 1, 1129], 0, mi0), (74, 3, .invokestatic 196, [1, 0, 0, 0, 0, 3112, 2037, 0, 2038, 1009], 0, mjI_bitCount), (77, 1, .ireturn, [], 0, mi0)]
theorem oF_back_37 : okB mF_back 37 bF_back_37 78 = true := by decide +kernel
def bF_count_0 : List Item := [(0, 1, .iload_n 1, [], 0, mi0), (1, 39, .tableswitch 84 0 5 #[39, 47, 55, 63, 71, 79], [85, 40, 48, 56, 64, 72, 80], 0, mi0)]
theorem oF_count_0 : okB mF_count 0 bF_count_0 40 = true := by decide +kernel
def bF_count_40 : List Item := [(40, 1, .aload_n 0, [], 0, mi0), (41, 3, .getfield 29, [7, 3, 2103], 0, mi0), (44, 3, .getfield 157, [3, 4, 1079], 0, mi0), (47, 1, .ireturn, [], 0, mi0)]
theorem oF_count_40 : okB mF_count 40 bF_count_40 48 = true := by decide +kernel
def bF_count_48 : List Item := [(48, 1, .aload_n 0, [], 0, mi0), (49, 3, .getfield 29, [7, 3, 2103], 0, mi0), (52, 3, .getfield 116, [3, 5, 1083], 0, mi0), (55, 1, .ireturn, [], 0, mi0)]
theorem oF_count_48 : okB mF_count 48 bF_count_48 56 = true := by decide +kernel
def bF_count_56 : List Item := [(56, 1, .aload_n 0, [], 0, mi0), (57, 3, .getfield 29, [7, 3, 2103], 0, mi0), (60, 3, .getfield 160, [3, 6, 1087], 0, mi0), (63, 1, .ireturn, [], 0, mi0)]
theorem oF_count_56 : okB mF_count 56 bF_count_56 64 = true := by decide +kernel
def bF_count_64 : List Item := [(64, 1, .aload_n 0, [], 0, mi0), (65, 3, .getfield 29, [7, 3, 2103], 0, mi0), (68, 3, .getfield 163, [3, 7, 1091], 0, mi0), (71, 1, .ireturn, [], 0, mi0)]
theorem oF_count_64 : okB mF_count 64 bF_count_64 72 = true := by decide +kernel
def bF_count_72 : List Item := [(72, 1, .aload_n 0, [], 0, mi0), (73, 3, .getfield 29, [7, 3, 2103], 0, mi0), (76, 3, .getfield 301, [3, 8, 1095], 0, mi0), (79, 1, .ireturn, [], 0, mi0)]
theorem oF_count_72 : okB mF_count 72 bF_count_72 80 = true := by decide +kernel
def bF_count_80 : List Item := [(80, 1, .aload_n 0, [], 0, mi0), (81, 3, .getfield 13, [7, 1, 2101], 0, mi0), (84, 1, .ireturn, [], 0, mi0)]
theorem oF_count_80 : okB mF_count 80 bF_count_80 85 = true := by decide +kernel
def bF_count_85 : List Item := [(85, 1, .iconst (-1), [], 0, mi0), (86, 1, .ireturn, [], 0, mi0)]
theorem oF_count_85 : okB mF_count 85 bF_count_85 87 = true := by decide +kernel
def bF_trace_0 : List Item := [(0, 1, .aload_n 0, [], 0, mi0), (1, 3, .getfield 88, [7, 15, 2115], 0, mi0), (4, 1, .lreturn, [], 0, mi0)]
theorem oF_trace_0 : okB mF_trace 0 bF_trace_0 5 = true := by decide +kernel
