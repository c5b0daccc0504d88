/-! 14: the code of M, block by block -/
def bM_doors_131 : List Item := [(131, 3, .iinc 6 1, [], 0, mi0), (134, 3, .goto (-89), [45], 0, mi0)]
theorem oM_doors_131 : okB mM_doors 131 bM_doors_131 137 = true := by decide +kernel
def bM_doors_137 : List Item := [(137, 1, .aload_n 0, [], 0, mi0), (138, 3, .getfield 62, [8, 19, 4131], 0, mi0), (141, 1, .iconst 4, [], 0, mi0), (142, 1, .iload_n 2, [], 0, mi0), (143, 1, .iastore, [], 0, mi0), (144, 1, .iload_n 1, [], 0, mi0), (145, 3, .ifCond .ne 8, [153], 0, mi0), (148, 2, .iload 4, [], 0, mi0), (150, 3, .goto 5, [155], 0, mi0)]
theorem oM_doors_137 : okB mM_doors 137 bM_doors_137 153 = true := by decide +kernel
def bM_doors_153 : List Item := [(153, 2, .iload 5, [], 0, mi0)]
theorem oM_doors_153 : okB mM_doors 153 bM_doors_153 155 = true := by decide +kernel
def bM_doors_155 : List Item := [(155, 1, .ireturn, [], 0, mi0)]
theorem oM_doors_155 : okB mM_doors 155 bM_doors_155 156 = true := by decide +kernel
def bM_chance_0 : List Item := [(0, 1, .iload_n 1, [], 0, mi0), (1, 1, .iconst 0, [], 0, mi0), (2, 1, .iconst 4, [], 0, mi0), (3, 3, .invokestatic 105, [3, 0, 0, 8, 0, 5004, 5005, 0, 5006, 1011], 0, mM_in), (6, 3, .ifCond .eq 26, [32], 0, mi0), (9, 1, .iload_n 2, [], 0, mi0), (10, 1, .iconst 0, [], 0, mi0), (11, 1, .iconst 4, [], 0, mi0), (12, 3, .invokestatic 105, [3, 0, 0, 8, 0, 5004, 5005, 0, 5006, 1011], 0, mM_in), (15, 3, .ifCond .eq 17, [32], 0, mi0), (18, 1, .iload_n 3, [], 0, mi0), (19, 1, .iconst 0, [], 0, mi0), (20, 1, .aload_n 0, [], 0, mi0), (21, 3, .getfield 65, [8, 20, 4132], 0, mi0), (24, 1, .iload_n 1, [], 0, mi0), (25, 1, .iaload, [], 0, mi0), (26, 3, .invokestatic 105, [3, 0, 0, 8, 0, 5004, 5005, 0, 5006, 1011], 0, mM_in), (29, 3, .ifCond .ne 5, [34], 0, mi0)]
theorem oM_chance_0 : okB mM_chance 0 bM_chance_0 32 = true := by decide +kernel
def bM_chance_32 : List Item := [(32, 1, .iconst (-1), [], 0, mi0), (33, 1, .ireturn, [], 0, mi0)]
theorem oM_chance_32 : okB mM_chance 32 bM_chance_32 34 = true := by decide +kernel
def bM_chance_34 : List Item := [(34, 1, .aload_n 0, [], 0, mi0), (35, 3, .getfield 65, [8, 20, 4132], 0, mi0), (38, 1, .iload_n 1, [], 0, mi0), (39, 1, .dup2, [], 0, mi0), (40, 1, .iaload, [], 0, mi0), (41, 1, .iload_n 3, [], 0, mi0), (42, 1, .isub, [], 0, mi0), (43, 1, .iastore, [], 0, mi0), (44, 1, .aload_n 0, [], 0, mi0), (45, 3, .getfield 65, [8, 20, 4132], 0, mi0), (48, 1, .iload_n 2, [], 0, mi0), (49, 1, .dup2, [], 0, mi0), (50, 1, .iaload, [], 0, mi0), (51, 1, .iload_n 3, [], 0, mi0), (52, 1, .iadd, [], 0, mi0), (53, 1, .iastore, [], 0, mi0), (54, 1, .aload_n 0, [], 0, mi0), (55, 3, .getfield 65, [8, 20, 4132], 0, mi0), (58, 1, .iload_n 2, [], 0, mi0), (59, 1, .iaload, [], 0, mi0), (60, 1, .ireturn, [], 0, mi0)]
theorem oM_chance_34 : okB mM_chance 34 bM_chance_34 61 = true := by decide +kernel
def bM_sure_0 : List Item := [(0, 1, .aload_n 0, [], 0, mi0), (1, 1, .iload_n 1, [], 0, mi0), (2, 3, .invokevirtual 196, [2, 0, 0, 8, 0, 5101, 5103, 14015, 5104, 1011], 0, mM_isMan), (5, 3, .ifCond .eq 22, [27], 0, mi0), (8, 1, .aload_n 0, [], 0, mi0), (9, 1, .iload_n 2, [], 0, mi0), (10, 3, .invokevirtual 199, [2, 0, 0, 8, 0, 5105, 5107, 15000, 5108, 1011], 0, mM_isSet), (13, 3, .ifCond .eq 14, [27], 0, mi0), (16, 1, .iload_n 3, [], 0, mi0), (17, 1, .iconst 0, [], 0, mi0), (18, 3, .sipush 999, [], 0, mi0), (21, 3, .invokestatic 105, [3, 0, 0, 8, 0, 5004, 5005, 0, 5006, 1011], 0, mM_in), (24, 3, .ifCond .ne 5, [29], 0, mi0)]
theorem oM_sure_0 : okB mM_sure 0 bM_sure_0 27 = true := by decide +kernel
def bM_sure_27 : List Item := [(27, 1, .iconst (-1), [], 0, mi0), (28, 1, .ireturn, [], 0, mi0)]
theorem oM_sure_27 : okB mM_sure 27 bM_sure_27 29 = true := by decide +kernel
def bM_sure_29 : List Item := [(29, 1, .aload_n 0, [], 0, mi0), (30, 3, .invokevirtual 183, [1, 0, 0, 8, 0, 5084, 5086, 14012, 5087, 1011], 0, mM_look), (33, 1, .aload_n 0, [], 0, mi0), (34, 1, .iload_n 1, [], 0, mi0), (35, 1, .iload_n 2, [], 0, mi0), (36, 1, .iload_n 3, [], 0, mi0), (37, 3, .invokevirtual 258, [4, 0, 0, 8, 0, 5211, 5213, 15015, 5214, 1011], 0, mM_sureOf), (40, 1, .ireturn, [], 0, mi0)]
theorem oM_sure_29 : okB mM_sure 29 bM_sure_29 41 = true := by decide +kernel
def bM_sureOf_0 : List Item := [(0, 1, .aload_n 0, [], 0, mi0), (1, 1, .iload_n 1, [], 0, mi0), (2, 1, .iload_n 2, [], 0, mi0), (3, 3, .invokevirtual 202, [3, 0, 0, 8, 0, 5109, 5111, 15001, 5112, 1011], 0, mM_hinders), (6, 3, .ifCond .eq 5, [11], 0, mi0), (9, 1, .iconst 0, [], 0, mi0), (10, 1, .ireturn, [], 0, mi0)]
theorem oM_sureOf_0 : okB mM_sureOf 0 bM_sureOf_0 11 = true := by decide +kernel
def bM_sureOf_11 : List Item := [(11, 1, .iconst 0, [], 0, mi0), (12, 2, .istore 4, [], 0, mi0), (14, 1, .iconst 0, [], 0, mi0), (15, 2, .istore 5, [], 0, mi0)]
theorem oM_sureOf_11 : okB mM_sureOf 11 bM_sureOf_11 17 = true := by decide +kernel
def bM_sureOf_17 : List Item := [(17, 2, .iload 5, [], 0, mi0), (19, 1, .iconst 5, [], 0, mi0), (20, 3, .if_icmp .ge 40, [60], 0, mi0), (23, 2, .iload 4, [], 0, mi0), (25, 1, .aload_n 0, [], 0, mi0), (26, 1, .aload_n 0, [], 0, mi0), (27, 1, .iload_n 2, [], 0, mi0), (28, 3, .invokevirtual 189, [2, 0, 0, 8, 0, 5113, 5115, 15002, 5116, 1011], 0, mM_roomOf), (31, 1, .iload_n 3, [], 0, mi0), (32, 2, .iload 5, [], 0, mi0), (34, 3, .invokevirtual 205, [4, 0, 0, 8, 0, 5121, 5123, 15004, 5124, 1011], 0, mM_isSafe), (37, 3, .ifCond .eq 13, [50], 0, mi0), (40, 1, .aload_n 0, [], 0, mi0), (41, 3, .getfield 65, [8, 20, 4132], 0, mi0), (44, 2, .iload 5, [], 0, mi0), (46, 1, .iaload, [], 0, mi0), (47, 3, .goto 4, [51], 0, mi0)]
theorem oM_sureOf_17 : okB mM_sureOf 17 bM_sureOf_17 50 = true := by decide +kernel
def bM_sureOf_50 : List Item := [(50, 1, .iconst 0, [], 0, mi0)]
theorem oM_sureOf_50 : okB mM_sureOf 50 bM_sureOf_50 51 = true := by decide +kernel
def bM_sureOf_51 : List Item := [(51, 1, .iadd, [], 0, mi0), (52, 2, .istore 4, [], 0, mi0), (54, 3, .iinc 5 1, [], 0, mi0), (57, 3, .goto (-40), [17], 0, mi0)]
theorem oM_sureOf_51 : okB mM_sureOf 51 bM_sureOf_51 60 = true := by decide +kernel
def bM_sureOf_60 : List Item := [(60, 2, .iload 4, [], 0, mi0), (62, 1, .ireturn, [], 0, mi0)]
theorem oM_sureOf_60 : okB mM_sureOf 60 bM_sureOf_60 63 = true := by decide +kernel
def bM_last_0 : List Item := [(0, 1, .aload_n 0, [], 0, mi0), (1, 1, .iload_n 1, [], 0, mi0), (2, 3, .invokevirtual 196, [2, 0, 0, 8, 0, 5101, 5103, 14015, 5104, 1011], 0, mM_isMan), (5, 3, .ifCond .eq 21, [26], 0, mi0), (8, 1, .aload_n 0, [], 0, mi0), (9, 1, .iload_n 2, [], 0, mi0), (10, 3, .invokevirtual 199, [2, 0, 0, 8, 0, 5105, 5107, 15000, 5108, 1011], 0, mM_isSet), (13, 3, .ifCond .eq 13, [26], 0, mi0), (16, 1, .iload_n 3, [], 0, mi0), (17, 1, .iconst 1, [], 0, mi0), (18, 2, .bipush 10, [], 0, mi0), (20, 3, .invokestatic 105, [3, 0, 0, 8, 0, 5004, 5005, 0, 5006, 1011], 0, mM_in), (23, 3, .ifCond .ne 5, [28], 0, mi0)]
theorem oM_last_0 : okB mM_last 0 bM_last_0 26 = true := by decide +kernel
def bM_last_26 : List Item := [(26, 1, .iconst (-1), [], 0, mi0), (27, 1, .ireturn, [], 0, mi0)]
theorem oM_last_26 : okB mM_last 26 bM_last_26 28 = true := by decide +kernel
def bM_last_28 : List Item := [(28, 1, .aload_n 0, [], 0, mi0), (29, 3, .invokevirtual 183, [1, 0, 0, 8, 0, 5084, 5086, 14012, 5087, 1011], 0, mM_look), (32, 2, .bipush (-9), [], 0, mi0), (34, 2, .istore 4, [], 0, mi0), (36, 1, .iconst 0, [], 0, mi0), (37, 2, .istore 5, [], 0, mi0)]
theorem oM_last_28 : okB mM_last 28 bM_last_28 39 = true := by decide +kernel
def bM_last_39 : List Item := [(39, 2, .iload 5, [], 0, mi0), (41, 3, .sipush 200, [], 0, mi0), (44, 3, .if_icmp .gt 30, [74], 0, mi0), (47, 1, .aload_n 0, [], 0, mi0), (48, 1, .iload_n 1, [], 0, mi0), (49, 1, .iload_n 2, [], 0, mi0), (50, 2, .iload 5, [], 0, mi0), (52, 3, .invokevirtual 258, [4, 0, 0, 8, 0, 5211, 5213, 15015, 5214, 1011], 0, mM_sureOf), (55, 1, .iload_n 3, [], 0, mi0), (56, 3, .if_icmp .lt 8, [64], 0, mi0), (59, 2, .iload 5, [], 0, mi0), (61, 3, .goto 5, [66], 0, mi0)]
theorem oM_last_39 : okB mM_last 39 bM_last_39 64 = true := by decide +kernel
def bM_last_64 : List Item := [(64, 2, .iload 4, [], 0, mi0)]
theorem oM_last_64 : okB mM_last 64 bM_last_64 66 = true := by decide +kernel
def bM_last_66 : List Item := [(66, 2, .istore 4, [], 0, mi0), (68, 3, .iinc 5 1, [], 0, mi0), (71, 3, .goto (-32), [39], 0, mi0)]
theorem oM_last_66 : okB mM_last 66 bM_last_66 74 = true := by decide +kernel
def bM_last_74 : List Item := [(74, 2, .iload 4, [], 0, mi0), (76, 1, .ireturn, [], 0, mi0)]
theorem oM_last_74 : okB mM_last 74 bM_last_74 77 = true := by decide +kernel
def bM_lost_0 : List Item := [(0, 1, .iload_n 1, [], 0, mi0), (1, 1, .iconst 0, [], 0, mi0), (2, 3, .sipush 999, [], 0, mi0), (5, 3, .invokestatic 105, [3, 0, 0, 8, 0, 5004, 5005, 0, 5006, 1011], 0, mM_in), (8, 3, .ifCond .eq 12, [20], 0, mi0), (11, 1, .iload_n 2, [], 0, mi0), (12, 1, .iconst 0, [], 0, mi0), (13, 1, .iconst 1, [], 0, mi0), (14, 3, .invokestatic 105, [3, 0, 0, 8, 0, 5004, 5005, 0, 5006, 1011], 0, mM_in), (17, 3, .ifCond .ne 5, [22], 0, mi0)]
theorem oM_lost_0 : okB mM_lost 0 bM_lost_0 20 = true := by decide +kernel
def bM_lost_20 : List Item := [(20, 1, .iconst (-1), [], 0, mi0), (21, 1, .ireturn, [], 0, mi0)]
theorem oM_lost_20 : okB mM_lost 20 bM_lost_20 22 = true := by decide +kernel
def bM_lost_22 : List Item := [(22, 1, .aload_n 0, [], 0, mi0), (23, 3, .invokevirtual 183, [1, 0, 0, 8, 0, 5084, 5086, 14012, 5087, 1011], 0, mM_look), (26, 1, .iconst 0, [], 0, mi0), (27, 1, .istore_n 3, [], 0, mi0), (28, 1, .iconst 0, [], 0, mi0), (29, 2, .istore 4, [], 0, mi0), (31, 1, .iconst 0, [], 0, mi0), (32, 2, .istore 5, [], 0, mi0)]
theorem oM_lost_22 : okB mM_lost 22 bM_lost_22 34 = true := by decide +kernel
def bM_lost_34 : List Item := [(34, 2, .iload 5, [], 0, mi0), (36, 1, .aload_n 0, [], 0, mi0), (37, 3, .getfield 32, [8, 9, 4121], 0, mi0), (40, 1, .iconst 0, [], 0, mi0), (41, 1, .iaload, [], 0, mi0), (42, 3, .if_icmp .ge 114, [156], 0, mi0), (45, 1, .aload_n 0, [], 0, mi0), (46, 3, .getfield 80, [8, 31, 4143], 0, mi0), (49, 1, .iconst 0, [], 0, mi0), (50, 1, .iaload, [], 0, mi0), (51, 2, .iload 5, [], 0, mi0), (53, 1, .ishr, [], 0, mi0), (54, 1, .iconst 1, [], 0, mi0), (55, 1, .iand, [], 0, mi0), (56, 3, .ifCond .ne 7, [63], 0, mi0), (59, 1, .iconst 1, [], 0, mi0), (60, 3, .goto 4, [64], 0, mi0)]
theorem oM_lost_34 : okB mM_lost 34 bM_lost_34 63 = true := by decide +kernel
def bM_lost_63 : List Item := [(63, 1, .iconst 0, [], 0, mi0)]
theorem oM_lost_63 : okB mM_lost 63 bM_lost_63 64 = true := by decide +kernel
def bM_lost_64 : List Item := [(64, 2, .istore 6, [], 0, mi0), (66, 1, .aload_n 0, [], 0, mi0), (67, 3, .getfield 74, [8, 29, 4141], 0, mi0), (70, 1, .aload_n 0, [], 0, mi0), (71, 3, .getfield 35, [8, 10, 4122], 0, mi0), (74, 2, .iload 5, [], 0, mi0), (76, 1, .iaload, [], 0, mi0), (77, 1, .iaload, [], 0, mi0), (78, 1, .iload_n 1, [], 0, mi0), (79, 3, .if_icmp .gt 7, [86], 0, mi0), (82, 1, .iconst 1, [], 0, mi0), (83, 3, .goto 4, [87], 0, mi0)]
theorem oM_lost_64 : okB mM_lost 64 bM_lost_64 86 = true := by decide +kernel
def bM_lost_86 : List Item := [(86, 1, .iconst 0, [], 0, mi0)]
theorem oM_lost_86 : okB mM_lost 86 bM_lost_86 87 = true := by decide +kernel
def bM_lost_87 : List Item := [(87, 2, .istore 7, [], 0, mi0), (89, 1, .iload_n 3, [], 0, mi0), (90, 2, .iload 6, [], 0, mi0), (92, 3, .ifCond .eq 18, [110], 0, mi0), (95, 2, .iload 7, [], 0, mi0), (97, 3, .ifCond .eq 13, [110], 0, mi0), (100, 1, .aload_n 0, [], 0, mi0), (101, 3, .getfield 41, [8, 12, 4124], 0, mi0), (104, 2, .iload 5, [], 0, mi0), (106, 1, .iaload, [], 0, mi0), (107, 3, .goto 4, [111], 0, mi0)]
theorem oM_lost_87 : okB mM_lost 87 bM_lost_87 110 = true := by decide +kernel
def bM_lost_110 : List Item := [(110, 1, .iconst 0, [], 0, mi0)]
theorem oM_lost_110 : okB mM_lost 110 bM_lost_110 111 = true := by decide +kernel
def bM_lost_111 : List Item := [(111, 1, .iadd, [], 0, mi0), (112, 1, .istore_n 3, [], 0, mi0), (113, 2, .iload 4, [], 0, mi0), (115, 2, .iload 6, [], 0, mi0), (117, 3, .ifCond .eq 29, [146], 0, mi0), (120, 2, .iload 7, [], 0, mi0), (122, 3, .ifCond .ne 24, [146], 0, mi0), (125, 1, .aload_n 0, [], 0, mi0), (126, 3, .getfield 41, [8, 12, 4124], 0, mi0), (129, 2, .iload 5, [], 0, mi0), (131, 1, .iaload, [], 0, mi0), (132, 1, .aload_n 0, [], 0, mi0), (133, 3, .getfield 44, [8, 13, 4125], 0, mi0), (136, 2, .iload 5, [], 0, mi0), (138, 1, .iaload, [], 0, mi0), (139, 1, .imul, [], 0, mi0), (140, 2, .bipush 10, [], 0, mi0), (142, 1, .idiv, [], 0, mi0), (143, 3, .goto 4, [147], 0, mi0)]
theorem oM_lost_111 : okB mM_lost 111 bM_lost_111 146 = true := by decide +kernel
def bM_lost_146 : List Item := [(146, 1, .iconst 0, [], 0, mi0)]
theorem oM_lost_146 : okB mM_lost 146 bM_lost_146 147 = true := by decide +kernel
def bM_lost_147 : List Item := [(147, 1, .iadd, [], 0, mi0), (148, 2, .istore 4, [], 0, mi0), (150, 3, .iinc 5 1, [], 0, mi0), (153, 3, .goto (-119), [34], 0, mi0)]
theorem oM_lost_147 : okB mM_lost 147 bM_lost_147 156 = true := by decide +kernel
def bM_lost_156 : List Item := [(156, 1, .iload_n 2, [], 0, mi0), (157, 3, .ifCond .ne 7, [164], 0, mi0), (160, 1, .iload_n 3, [], 0, mi0), (161, 3, .goto 5, [166], 0, mi0)]
theorem oM_lost_156 : okB mM_lost 156 bM_lost_156 164 = true := by decide +kernel
def bM_lost_164 : List Item := [(164, 2, .iload 4, [], 0, mi0)]
theorem oM_lost_164 : okB mM_lost 164 bM_lost_164 166 = true := by decide +kernel
def bM_lost_166 : List Item := [(166, 1, .ireturn, [], 0, mi0)]
theorem oM_lost_166 : okB mM_lost 166 bM_lost_166 167 = true := by decide +kernel
def bM_loads_0 : List Item := [(0, 1, .aload_n 0, [], 0, mi0), (1, 1, .iload_n 1, [], 0, mi0), (2, 3, .invokevirtual 180, [2, 0, 0, 8, 0, 5080, 5082, 14011, 5083, 1011], 0, mM_isRoom), (5, 3, .ifCond .eq 34, [39], 0, mi0), (8, 1, .iload_n 2, [], 0, mi0), (9, 1, .iconst 1, [], 0, mi0), (10, 2, .bipush 40, [], 0, mi0), (12, 3, .invokestatic 105, [3, 0, 0, 8, 0, 5004, 5005, 0, 5006, 1011], 0, mM_in), (15, 3, .ifCond .eq 24, [39], 0, mi0), (18, 1, .iload_n 3, [], 0, mi0), (19, 1, .iconst 0, [], 0, mi0), (20, 3, .sipush 999, [], 0, mi0), (23, 3, .invokestatic 105, [3, 0, 0, 8, 0, 5004, 5005, 0, 5006, 1011], 0, mM_in), (26, 3, .ifCond .eq 13, [39], 0, mi0), (29, 2, .iload 4, [], 0, mi0), (31, 1, .iconst 0, [], 0, mi0), (32, 1, .iconst 1, [], 0, mi0), (33, 3, .invokestatic 105, [3, 0, 0, 8, 0, 5004, 5005, 0, 5006, 1011], 0, mM_in), (36, 3, .ifCond .ne 5, [41], 0, mi0)]
theorem oM_loads_0 : okB mM_loads 0 bM_loads_0 39 = true := by decide +kernel
def bM_loads_39 : List Item := [(39, 1, .iconst (-1), [], 0, mi0), (40, 1, .ireturn, [], 0, mi0)]
theorem oM_loads_39 : okB mM_loads 39 bM_loads_39 41 = true := by decide +kernel
def bM_loads_41 : List Item := [(41, 1, .aload_n 0, [], 0, mi0), (42, 3, .invokevirtual 183, [1, 0, 0, 8, 0, 5084, 5086, 14012, 5087, 1011], 0, mM_look), (45, 1, .aload_n 0, [], 0, mi0), (46, 3, .getfield 68, [8, 27, 4139], 0, mi0), (49, 1, .iload_n 1, [], 0, mi0), (50, 1, .iaload, [], 0, mi0), (51, 2, .ldc 175, [0, 0, 5088], 1000000, mi0), (53, 3, .if_icmp .ne 8, [61], 0, mi0), (56, 2, .bipush (-2), [], 0, mi0), (58, 3, .goto 25, [83], 0, mi0)]
theorem oM_loads_41 : okB mM_loads 41 bM_loads_41 61 = true := by decide +kernel
def bM_loads_61 : List Item := [(61, 2, .iload 4, [], 0, mi0), (63, 3, .ifCond .ne 13, [76], 0, mi0), (66, 1, .aload_n 0, [], 0, mi0), (67, 1, .iload_n 1, [], 0, mi0), (68, 1, .iload_n 2, [], 0, mi0), (69, 1, .iload_n 3, [], 0, mi0), (70, 3, .invokevirtual 261, [4, 0, 0, 8, 0, 5227, 5229, 16000, 5230, 1011], 0, mM_chainOf), (73, 3, .goto 10, [83], 0, mi0)]
theorem oM_loads_61 : okB mM_loads 61 bM_loads_61 76 = true := by decide +kernel
def bM_loads_76 : List Item := [(76, 1, .aload_n 0, [], 0, mi0), (77, 1, .iload_n 1, [], 0, mi0), (78, 1, .iload_n 2, [], 0, mi0), (79, 1, .iload_n 3, [], 0, mi0), (80, 3, .invokevirtual 264, [4, 0, 0, 8, 0, 5231, 5233, 16001, 5234, 1011], 0, mM_runnersOf)]
theorem oM_loads_76 : okB mM_loads 76 bM_loads_76 83 = true := by decide +kernel
def bM_loads_83 : List Item := [(83, 1, .ireturn, [], 0, mi0)]
theorem oM_loads_83 : okB mM_loads 83 bM_loads_83 84 = true := by decide +kernel
def bM_chainOf_0 : List Item := [(0, 1, .iload_n 2, [], 0, mi0), (1, 1, .aload_n 0, [], 0, mi0), (2, 3, .getfield 68, [8, 27, 4139], 0, mi0), (5, 1, .iload_n 1, [], 0, mi0), (6, 1, .iaload, [], 0, mi0), (7, 1, .iconst 1, [], 0, mi0), (8, 1, .iadd, [], 0, mi0), (9, 1, .idiv, [], 0, mi0), (10, 2, .istore 4, [], 0, mi0), (12, 1, .iload_n 3, [], 0, mi0), (13, 1, .aload_n 0, [], 0, mi0), (14, 3, .getfield 68, [8, 27, 4139], 0, mi0), (17, 1, .iload_n 1, [], 0, mi0), (18, 1, .iaload, [], 0, mi0), (19, 3, .if_icmp .le 17, [36], 0, mi0), (22, 2, .iload 4, [], 0, mi0), (24, 1, .iload_n 3, [], 0, mi0), (25, 1, .aload_n 0, [], 0, mi0), (26, 3, .getfield 68, [8, 27, 4139], 0, mi0), (29, 1, .iload_n 1, [], 0, mi0), (30, 1, .iaload, [], 0, mi0), (31, 1, .isub, [], 0, mi0), (32, 1, .imul, [], 0, mi0), (33, 3, .goto 4, [37], 0, mi0)]
theorem oM_chainOf_0 : okB mM_chainOf 0 bM_chainOf_0 36 = true := by decide +kernel
def bM_chainOf_36 : List Item := [(36, 1, .iconst 0, [], 0, mi0)]
theorem oM_chainOf_36 : okB mM_chainOf 36 bM_chainOf_36 37 = true := by decide +kernel
def bM_chainOf_37 : List Item := [(37, 1, .ireturn, [], 0, mi0)]
theorem oM_chainOf_37 : okB mM_chainOf 37 bM_chainOf_37 38 = true := by decide +kernel
def bM_runnersOf_0 : List Item := [(0, 1, .iload_n 2, [], 0, mi0), (1, 1, .iload_n 3, [], 0, mi0), (2, 1, .aload_n 0, [], 0, mi0), (3, 3, .getfield 68, [8, 27, 4139], 0, mi0), (6, 1, .iload_n 1, [], 0, mi0), (7, 1, .iaload, [], 0, mi0), (8, 3, .ifCond .ne 7, [15], 0, mi0), (11, 1, .iconst 1, [], 0, mi0), (12, 3, .goto 11, [23], 0, mi0)]
theorem oM_runnersOf_0 : okB mM_runnersOf 0 bM_runnersOf_0 15 = true := by decide +kernel
def bM_runnersOf_15 : List Item := [(15, 1, .iconst 2, [], 0, mi0), (16, 1, .aload_n 0, [], 0, mi0), (17, 3, .getfield 68, [8, 27, 4139], 0, mi0), (20, 1, .iload_n 1, [], 0, mi0), (21, 1, .iaload, [], 0, mi0), (22, 1, .imul, [], 0, mi0)]
theorem oM_runnersOf_15 : okB mM_runnersOf 15 bM_runnersOf_15 23 = true := by decide +kernel
def bM_runnersOf_23 : List Item := [(23, 1, .idiv, [], 0, mi0), (24, 1, .imul, [], 0, mi0), (25, 1, .ireturn, [], 0, mi0)]
theorem oM_runnersOf_23 : okB mM_runnersOf 23 bM_runnersOf_23 26 = true := by decide +kernel
def bM_edge_0 : List Item := [(0, 1, .aload_n 0, [], 0, mi0), (1, 1, .iload_n 1, [], 0, mi0), (2, 3, .invokevirtual 180, [2, 0, 0, 8, 0, 5080, 5082, 14011, 5083, 1011], 0, mM_isRoom), (5, 3, .ifCond .eq 14, [19], 0, mi0), (8, 1, .iload_n 2, [], 0, mi0), (9, 1, .iconst 0, [], 0, mi0), (10, 3, .sipush 999, [], 0, mi0), (13, 3, .invokestatic 105, [3, 0, 0, 8, 0, 5004, 5005, 0, 5006, 1011], 0, mM_in), (16, 3, .ifCond .ne 5, [21], 0, mi0)]
theorem oM_edge_0 : okB mM_edge 0 bM_edge_0 19 = true := by decide +kernel
def bM_edge_19 : List Item := [(19, 1, .iconst (-1), [], 0, mi0), (20, 1, .ireturn, [], 0, mi0)]
theorem oM_edge_19 : okB mM_edge 19 bM_edge_19 21 = true := by decide +kernel
def bM_edge_21 : List Item := [(21, 1, .aload_n 0, [], 0, mi0), (22, 3, .invokevirtual 183, [1, 0, 0, 8, 0, 5084, 5086, 14012, 5087, 1011], 0, mM_look), (25, 1, .aload_n 0, [], 0, mi0), (26, 3, .getfield 68, [8, 27, 4139], 0, mi0), (29, 1, .iload_n 1, [], 0, mi0), (30, 1, .iaload, [], 0, mi0), (31, 2, .ldc 175, [0, 0, 5088], 1000000, mi0), (33, 3, .if_icmp .ne 6, [39], 0, mi0), (36, 2, .bipush (-2), [], 0, mi0), (38, 1, .ireturn, [], 0, mi0)]
theorem oM_edge_21 : okB mM_edge 21 bM_edge_21 39 = true := by decide +kernel
def bM_edge_39 : List Item := [(39, 1, .iconst 1, [], 0, mi0), (40, 1, .istore_n 3, [], 0, mi0)]
theorem oM_edge_39 : okB mM_edge 39 bM_edge_39 41 = true := by decide +kernel
def bM_edge_41 : List Item := [(41, 1, .iload_n 3, [], 0, mi0), (42, 2, .bipush 40, [], 0, mi0), (44, 3, .if_icmp .gt 28, [72], 0, mi0), (47, 1, .aload_n 0, [], 0, mi0), (48, 1, .iload_n 1, [], 0, mi0), (49, 1, .iload_n 3, [], 0, mi0), (50, 1, .iload_n 2, [], 0, mi0), (51, 3, .invokevirtual 261, [4, 0, 0, 8, 0, 5227, 5229, 16000, 5230, 1011], 0, mM_chainOf), (54, 1, .aload_n 0, [], 0, mi0), (55, 1, .iload_n 1, [], 0, mi0), (56, 1, .iload_n 3, [], 0, mi0), (57, 1, .iload_n 2, [], 0, mi0), (58, 3, .invokevirtual 264, [4, 0, 0, 8, 0, 5231, 5233, 16001, 5234, 1011], 0, mM_runnersOf), (61, 3, .if_icmp .le 5, [66], 0, mi0), (64, 1, .iload_n 3, [], 0, mi0), (65, 1, .ireturn, [], 0, mi0)]
theorem oM_edge_41 : okB mM_edge 41 bM_edge_41 66 = true := by decide +kernel
def bM_edge_66 : List Item := [(66, 3, .iinc 3 1, [], 0, mi0), (69, 3, .goto (-28), [41], 0, mi0)]
theorem oM_edge_66 : okB mM_edge 66 bM_edge_66 72 = true := by decide +kernel
def bM_edge_72 : List Item := [(72, 2, .bipush (-9), [], 0, mi0), (74, 1, .ireturn, [], 0, mi0)]
theorem oM_edge_72 : okB mM_edge 72 bM_edge_72 75 = true := by decide +kernel
def bM_place_0 : List Item := [(0, 1, .aload_n 0, [], 0, mi0), (1, 1, .iload_n 1, [], 0, mi0), (2, 3, .invokevirtual 169, [2, 0, 0, 8, 0, 5064, 5066, 14009, 5067, 1011], 0, mM_isBundle), (5, 3, .ifCond .eq 13, [18], 0, mi0), (8, 1, .iload_n 2, [], 0, mi0), (9, 1, .iconst 1, [], 0, mi0), (10, 2, .bipush 9, [], 0, mi0), (12, 3, .invokestatic 105, [3, 0, 0, 8, 0, 5004, 5005, 0, 5006, 1011], 0, mM_in), (15, 3, .ifCond .ne 5, [20], 0, mi0)]
theorem oM_place_0 : okB mM_place 0 bM_place_0 18 = true := by decide +kernel
def bM_place_18 : List Item := [(18, 1, .iconst (-1), [], 0, mi0), (19, 1, .ireturn, [], 0, mi0)]
theorem oM_place_18 : okB mM_place 18 bM_place_18 20 = true := by decide +kernel
def bM_place_20 : List Item := [(20, 1, .aload_n 0, [], 0, mi0), (21, 3, .invokevirtual 183, [1, 0, 0, 8, 0, 5084, 5086, 14012, 5087, 1011], 0, mM_look), (24, 1, .iconst 0, [], 0, mi0), (25, 1, .istore_n 3, [], 0, mi0), (26, 1, .iconst 0, [], 0, mi0), (27, 2, .istore 4, [], 0, mi0)]
theorem oM_place_20 : okB mM_place 20 bM_place_20 29 = true := by decide +kernel
def bM_place_29 : List Item := [(29, 2, .iload 4, [], 0, mi0), (31, 1, .aload_n 0, [], 0, mi0), (32, 3, .getfield 32, [8, 9, 4121], 0, mi0), (35, 1, .iconst 0, [], 0, mi0), (36, 1, .iaload, [], 0, mi0), (37, 3, .if_icmp .ge 55, [92], 0, mi0), (40, 1, .iload_n 3, [], 0, mi0), (41, 1, .aload_n 0, [], 0, mi0), (42, 3, .getfield 41, [8, 12, 4124], 0, mi0), (45, 2, .iload 4, [], 0, mi0), (47, 1, .iaload, [], 0, mi0), (48, 1, .aload_n 0, [], 0, mi0), (49, 3, .getfield 41, [8, 12, 4124], 0, mi0), (52, 1, .iload_n 1, [], 0, mi0), (53, 1, .iaload, [], 0, mi0), (54, 3, .if_icmp .gt 25, [79], 0, mi0), (57, 1, .aload_n 0, [], 0, mi0), (58, 3, .getfield 41, [8, 12, 4124], 0, mi0), (61, 2, .iload 4, [], 0, mi0), (63, 1, .iaload, [], 0, mi0), (64, 1, .aload_n 0, [], 0, mi0), (65, 3, .getfield 41, [8, 12, 4124], 0, mi0), (68, 1, .iload_n 1, [], 0, mi0), (69, 1, .iaload, [], 0, mi0), (70, 3, .if_icmp .ne 13, [83], 0, mi0), (73, 2, .iload 4, [], 0, mi0), (75, 1, .iload_n 1, [], 0, mi0), (76, 3, .if_icmp .ge 7, [83], 0, mi0)]
theorem oM_place_29 : okB mM_place 29 bM_place_29 79 = true := by decide +kernel
def bM_place_79 : List Item := [(79, 1, .iconst 1, [], 0, mi0), (80, 3, .goto 4, [84], 0, mi0)]
theorem oM_place_79 : okB mM_place 79 bM_place_79 83 = true := by decide +kernel
def bM_place_83 : List Item := [(83, 1, .iconst 0, [], 0, mi0)]
theorem oM_place_83 : okB mM_place 83 bM_place_83 84 = true := by decide +kernel
def bM_place_84 : List Item := [(84, 1, .iadd, [], 0, mi0), (85, 1, .istore_n 3, [], 0, mi0), (86, 3, .iinc 4 1, [], 0, mi0), (89, 3, .goto (-60), [29], 0, mi0)]
theorem oM_place_84 : okB mM_place 84 bM_place_84 92 = true := by decide +kernel
def bM_place_92 : List Item := [(92, 1, .iconst 0, [], 0, mi0), (93, 2, .istore 4, [], 0, mi0)]
theorem oM_place_92 : okB mM_place 92 bM_place_92 95 = true := by decide +kernel
def bM_place_95 : List Item := [(95, 2, .iload 4, [], 0, mi0), (97, 1, .aload_n 0, [], 0, mi0), (98, 3, .getfield 13, [8, 3, 4115], 0, mi0), (101, 1, .iconst 0, [], 0, mi0), (102, 1, .iaload, [], 0, mi0), (103, 3, .if_icmp .ge 64, [167], 0, mi0), (106, 1, .iconst 0, [], 0, mi0), (107, 2, .istore 5, [], 0, mi0), (109, 1, .iconst 0, [], 0, mi0), (110, 2, .istore 6, [], 0, mi0)]
theorem oM_place_95 : okB mM_place 95 bM_place_95 112 = true := by decide +kernel
def bM_place_112 : List Item := [(112, 2, .iload 6, [], 0, mi0), (114, 1, .aload_n 0, [], 0, mi0), (115, 3, .getfield 13, [8, 3, 4115], 0, mi0), (118, 1, .iconst 0, [], 0, mi0), (119, 1, .iaload, [], 0, mi0), (120, 3, .if_icmp .ge 30, [150], 0, mi0), (123, 2, .iload 5, [], 0, mi0), (125, 1, .aload_n 0, [], 0, mi0), (126, 2, .iload 6, [], 0, mi0), (128, 2, .iload 4, [], 0, mi0), (130, 3, .invokevirtual 267, [3, 0, 0, 8, 0, 6003, 6005, 16002, 6006, 1011], 0, mM_isBetter), (133, 3, .ifCond .eq 7, [140], 0, mi0), (136, 1, .iconst 1, [], 0, mi0), (137, 3, .goto 4, [141], 0, mi0)]
theorem oM_place_112 : okB mM_place 112 bM_place_112 140 = true := by decide +kernel
def bM_place_140 : List Item := [(140, 1, .iconst 0, [], 0, mi0)]
theorem oM_place_140 : okB mM_place 140 bM_place_140 141 = true := by decide +kernel
def bM_place_141 : List Item := [(141, 1, .iadd, [], 0, mi0), (142, 2, .istore 5, [], 0, mi0), (144, 3, .iinc 6 1, [], 0, mi0), (147, 3, .goto (-35), [112], 0, mi0)]
theorem oM_place_141 : okB mM_place 141 bM_place_141 150 = true := by decide +kernel
def bM_place_150 : List Item := [(150, 2, .iload 5, [], 0, mi0), (152, 1, .iload_n 3, [], 0, mi0), (153, 1, .iload_n 2, [], 0, mi0), (154, 1, .idiv, [], 0, mi0), (155, 3, .if_icmp .ne 6, [161], 0, mi0), (158, 2, .iload 4, [], 0, mi0), (160, 1, .ireturn, [], 0, mi0)]
theorem oM_place_150 : okB mM_place 150 bM_place_150 161 = true := by decide +kernel
def bM_place_161 : List Item := [(161, 3, .iinc 4 1, [], 0, mi0), (164, 3, .goto (-69), [95], 0, mi0)]
theorem oM_place_161 : okB mM_place 161 bM_place_161 167 = true := by decide +kernel
def bM_place_167 : List Item := [(167, 2, .bipush (-9), [], 0, mi0), (169, 1, .ireturn, [], 0, mi0)]
theorem oM_place_167 : okB mM_place 167 bM_place_167 170 = true := by decide +kernel
def bM_isBetter_0 : List Item := [(0, 1, .aload_n 0, [], 0, mi0), (1, 1, .iload_n 1, [], 0, mi0), (2, 1, .iconst 0, [], 0, mi0), (3, 3, .invokevirtual 186, [3, 0, 0, 8, 0, 5093, 5095, 14014, 5096, 1011], 0, mM_leaveOf), (6, 1, .aload_n 0, [], 0, mi0), (7, 1, .iload_n 2, [], 0, mi0), (8, 1, .iconst 0, [], 0, mi0), (9, 3, .invokevirtual 186, [3, 0, 0, 8, 0, 5093, 5095, 14014, 5096, 1011], 0, mM_leaveOf), (12, 1, .isub, [], 0, mi0), (13, 1, .istore_n 3, [], 0, mi0), (14, 1, .iload_n 3, [], 0, mi0), (15, 3, .ifCond .eq 15, [30], 0, mi0), (18, 1, .iload_n 3, [], 0, mi0), (19, 3, .ifCond .le 7, [26], 0, mi0), (22, 1, .iconst 1, [], 0, mi0), (23, 3, .goto 55, [78], 0, mi0)]
theorem oM_isBetter_0 : okB mM_isBetter 0 bM_isBetter_0 26 = true := by decide +kernel
def bM_isBetter_26 : List Item := [(26, 1, .iconst 0, [], 0, mi0), (27, 3, .goto 51, [78], 0, mi0)]
theorem oM_isBetter_26 : okB mM_isBetter 26 bM_isBetter_26 30 = true := by decide +kernel
def bM_isBetter_30 : List Item := [(30, 1, .aload_n 0, [], 0, mi0), (31, 3, .getfield 68, [8, 27, 4139], 0, mi0), (34, 1, .iload_n 1, [], 0, mi0), (35, 1, .iaload, [], 0, mi0), (36, 1, .aload_n 0, [], 0, mi0), (37, 3, .getfield 68, [8, 27, 4139], 0, mi0), (40, 1, .iload_n 2, [], 0, mi0), (41, 1, .iaload, [], 0, mi0), (42, 3, .if_icmp .eq 26, [68], 0, mi0), (45, 1, .aload_n 0, [], 0, mi0), (46, 3, .getfield 68, [8, 27, 4139], 0, mi0), (49, 1, .iload_n 1, [], 0, mi0), (50, 1, .iaload, [], 0, mi0), (51, 1, .aload_n 0, [], 0, mi0), (52, 3, .getfield 68, [8, 27, 4139], 0, mi0), (55, 1, .iload_n 2, [], 0, mi0), (56, 1, .iaload, [], 0, mi0), (57, 3, .if_icmp .ge 7, [64], 0, mi0), (60, 1, .iconst 1, [], 0, mi0), (61, 3, .goto 17, [78], 0, mi0)]
theorem oM_isBetter_30 : okB mM_isBetter 30 bM_isBetter_30 64 = true := by decide +kernel
def bM_isBetter_64 : List Item := [(64, 1, .iconst 0, [], 0, mi0), (65, 3, .goto 13, [78], 0, mi0)]
theorem oM_isBetter_64 : okB mM_isBetter 64 bM_isBetter_64 68 = true := by decide +kernel
def bM_isBetter_68 : List Item := [(68, 1, .iload_n 1, [], 0, mi0), (69, 1, .iload_n 2, [], 0, mi0), (70, 3, .if_icmp .ge 7, [77], 0, mi0), (73, 1, .iconst 1, [], 0, mi0), (74, 3, .goto 4, [78], 0, mi0)]
theorem oM_isBetter_68 : okB mM_isBetter 68 bM_isBetter_68 77 = true := by decide +kernel
def bM_isBetter_77 : List Item := [(77, 1, .iconst 0, [], 0, mi0)]
theorem oM_isBetter_77 : okB mM_isBetter 77 bM_isBetter_77 78 = true := by decide +kernel
def bM_isBetter_78 : List Item := [(78, 1, .ireturn, [], 0, mi0)]
theorem oM_isBetter_78 : okB mM_isBetter 78 bM_isBetter_78 79 = true := by decide +kernel
def bM_price_0 : List Item := [(0, 1, .iload_n 1, [], 0, mi0), (1, 1, .iconst 0, [], 0, mi0), (2, 1, .iconst 5, [], 0, mi0), (3, 3, .invokestatic 105, [3, 0, 0, 8, 0, 5004, 5005, 0, 5006, 1011], 0, mM_in), (6, 3, .ifCond .eq 11, [17], 0, mi0), (9, 1, .aload_n 0, [], 0, mi0), (10, 1, .iload_n 2, [], 0, mi0), (11, 3, .invokevirtual 169, [2, 0, 0, 8, 0, 5064, 5066, 14009, 5067, 1011], 0, mM_isBundle), (14, 3, .ifCond .ne 6, [20], 0, mi0)]
theorem oM_price_0 : okB mM_price 0 bM_price_0 17 = true := by decide +kernel
def bM_price_17 : List Item := [(17, 2, .ldc 227, [0, 0, 5173], (-1000000), mi0), (19, 1, .ireturn, [], 0, mi0)]
theorem oM_price_17 : okB mM_price 17 bM_price_17 20 = true := by decide +kernel
def bM_price_20 : List Item := [(20, 1, .aload_n 0, [], 0, mi0), (21, 3, .invokevirtual 183, [1, 0, 0, 8, 0, 5084, 5086, 14012, 5087, 1011], 0, mM_look), (24, 1, .aload_n 0, [], 0, mi0), (25, 1, .aload_n 0, [], 0, mi0), (26, 3, .getfield 35, [8, 10, 4122], 0, mi0), (29, 1, .iload_n 2, [], 0, mi0), (30, 1, .iaload, [], 0, mi0), (31, 1, .iconst 0, [], 0, mi0), (32, 3, .invokevirtual 186, [3, 0, 0, 8, 0, 5093, 5095, 14014, 5096, 1011], 0, mM_leaveOf), (35, 1, .istore_n 3, [], 0, mi0), (36, 1, .aload_n 0, [], 0, mi0), (37, 3, .getfield 38, [8, 11, 4123], 0, mi0), (40, 1, .iload_n 2, [], 0, mi0), (41, 1, .iaload, [], 0, mi0), (42, 1, .iload_n 3, [], 0, mi0), (43, 2, .ldc 175, [0, 0, 5088], 1000000, mi0), (45, 3, .if_icmp .lt 7, [52], 0, mi0), (48, 1, .iconst 0, [], 0, mi0), (49, 3, .goto 4, [53], 0, mi0)]
theorem oM_price_20 : okB mM_price 20 bM_price_20 52 = true := by decide +kernel
def bM_price_52 : List Item := [(52, 1, .iload_n 3, [], 0, mi0)]
theorem oM_price_52 : okB mM_price 52 bM_price_52 53 = true := by decide +kernel
def bM_price_53 : List Item := [(53, 1, .iadd, [], 0, mi0), (54, 2, .istore 4, [], 0, mi0), (56, 1, .iload_n 1, [], 0, mi0), (57, 35, .tableswitch 173 0 4 #[35, 52, 67, 93, 140], [230, 92, 109, 124, 150, 197], 0, mi0)]
theorem oM_price_53 : okB mM_price 53 bM_price_53 92 = true := by decide +kernel
def bM_price_92 : List Item := [(92, 1, .aload_n 0, [], 0, mi0), (93, 1, .dup, [], 0, mi0), (94, 3, .getfield 271, [8, 0, 4112], 0, mi0), (97, 1, .lconst 1, [], 0, mi0), (98, 1, .ladd, [], 0, mi0), (99, 3, .putfield 271, [8, 0, 4112, 1], 0, mi0), (102, 1, .aload_n 0, [], 0, mi0), (103, 3, .getfield 38, [8, 11, 4123], 0, mi0), (106, 1, .iload_n 2, [], 0, mi0), (107, 1, .iaload, [], 0, mi0), (108, 1, .ireturn, [], 0, mi0)]
theorem oM_price_92 : okB mM_price 92 bM_price_92 109 = true := by decide +kernel
def bM_price_109 : List Item := [(109, 1, .aload_n 0, [], 0, mi0), (110, 1, .dup, [], 0, mi0), (111, 3, .getfield 271, [8, 0, 4112], 0, mi0), (114, 3, .ldc2_w 275, [0, 0, 6011], 11, mi0), (117, 1, .ladd, [], 0, mi0), (118, 3, .putfield 271, [8, 0, 4112, 1], 0, mi0), (121, 2, .iload 4, [], 0, mi0), (123, 1, .ireturn, [], 0, mi0)]
theorem oM_price_109 : okB mM_price 109 bM_price_109 124 = true := by decide +kernel
def bM_price_124 : List Item := [(124, 1, .aload_n 0, [], 0, mi0), (125, 1, .dup, [], 0, mi0), (126, 3, .getfield 271, [8, 0, 4112], 0, mi0), (129, 3, .ldc2_w 277, [0, 0, 6012], 101, mi0), (132, 1, .ladd, [], 0, mi0), (133, 3, .putfield 271, [8, 0, 4112, 1], 0, mi0), (136, 1, .aload_n 0, [], 0, mi0), (137, 3, .getfield 38, [8, 11, 4123], 0, mi0), (140, 1, .iload_n 2, [], 0, mi0), (141, 1, .iaload, [], 0, mi0), (142, 1, .aload_n 0, [], 0, mi0), (143, 3, .getfield 41, [8, 12, 4124], 0, mi0), (146, 1, .iload_n 2, [], 0, mi0), (147, 1, .iaload, [], 0, mi0), (148, 1, .imul, [], 0, mi0), (149, 1, .ireturn, [], 0, mi0)]
theorem oM_price_124 : okB mM_price 124 bM_price_124 150 = true := by decide +kernel
def bM_price_150 : List Item := [(150, 1, .aload_n 0, [], 0, mi0), (151, 1, .dup, [], 0, mi0), (152, 3, .getfield 271, [8, 0, 4112], 0, mi0), (155, 3, .ldc2_w 279, [0, 0, 6013], 1011, mi0), (158, 1, .ladd, [], 0, mi0), (159, 3, .putfield 271, [8, 0, 4112, 1], 0, mi0), (162, 2, .iload 4, [], 0, mi0), (164, 1, .aload_n 0, [], 0, mi0), (165, 3, .getfield 68, [8, 27, 4139], 0, mi0), (168, 1, .aload_n 0, [], 0, mi0), (169, 3, .getfield 35, [8, 10, 4122], 0, mi0), (172, 1, .iload_n 2, [], 0, mi0), (173, 1, .iaload, [], 0, mi0), (174, 1, .iaload, [], 0, mi0), (175, 2, .ldc 175, [0, 0, 5088], 1000000, mi0), (177, 3, .if_icmp .ne 7, [184], 0, mi0), (180, 1, .iconst 0, [], 0, mi0), (181, 3, .goto 14, [195], 0, mi0)]
theorem oM_price_150 : okB mM_price 150 bM_price_150 184 = true := by decide +kernel
def bM_price_184 : List Item := [(184, 1, .aload_n 0, [], 0, mi0), (185, 3, .getfield 68, [8, 27, 4139], 0, mi0), (188, 1, .aload_n 0, [], 0, mi0), (189, 3, .getfield 35, [8, 10, 4122], 0, mi0), (192, 1, .iload_n 2, [], 0, mi0), (193, 1, .iaload, [], 0, mi0), (194, 1, .iaload, [], 0, mi0)]
theorem oM_price_184 : okB mM_price 184 bM_price_184 195 = true := by decide +kernel
def bM_price_195 : List Item := [(195, 1, .iadd, [], 0, mi0), (196, 1, .ireturn, [], 0, mi0)]
theorem oM_price_195 : okB mM_price 195 bM_price_195 197 = true := by decide +kernel
def bM_price_197 : List Item := [(197, 1, .aload_n 0, [], 0, mi0), (198, 1, .dup, [], 0, mi0), (199, 3, .getfield 271, [8, 0, 4112], 0, mi0), (202, 3, .ldc2_w 281, [0, 0, 6014], 10101, mi0), (205, 1, .ladd, [], 0, mi0), (206, 3, .putfield 271, [8, 0, 4112, 1], 0, mi0), (209, 1, .aload_n 0, [], 0, mi0), (210, 3, .getfield 38, [8, 11, 4123], 0, mi0), (213, 1, .iload_n 2, [], 0, mi0), (214, 1, .iaload, [], 0, mi0), (215, 1, .aload_n 0, [], 0, mi0), (216, 3, .getfield 41, [8, 12, 4124], 0, mi0), (219, 1, .iload_n 2, [], 0, mi0), (220, 1, .iaload, [], 0, mi0), (221, 1, .imul, [], 0, mi0), (222, 1, .aload_n 0, [], 0, mi0), (223, 3, .getfield 44, [8, 13, 4125], 0, mi0), (226, 1, .iload_n 2, [], 0, mi0), (227, 1, .iaload, [], 0, mi0), (228, 1, .isub, [], 0, mi0), (229, 1, .ireturn, [], 0, mi0)]
theorem oM_price_197 : okB mM_price 197 bM_price_197 230 = true := by decide +kernel
def bM_price_230 : List Item := [(230, 1, .aload_n 0, [], 0, mi0), (231, 1, .dup, [], 0, mi0), (232, 3, .getfield 271, [8, 0, 4112], 0, mi0), (235, 3, .ldc2_w 283, [0, 0, 6015], 100001, mi0), (238, 1, .ladd, [], 0, mi0), (239, 3, .putfield 271, [8, 0, 4112, 1], 0, mi0), (242, 1, .aload_n 0, [], 0, mi0), (243, 3, .getfield 38, [8, 11, 4123], 0, mi0), (246, 1, .iload_n 2, [], 0, mi0), (247, 1, .iaload, [], 0, mi0), (248, 1, .aload_n 0, [], 0, mi0), (249, 3, .getfield 62, [8, 19, 4131], 0, mi0), (252, 1, .iconst 4, [], 0, mi0), (253, 1, .iaload, [], 0, mi0), (254, 3, .invokestatic 211, [1, 0, 0, 8, 0, 5138, 5139, 0, 5140, 1011], 0, mM_bitsIn), (257, 1, .iadd, [], 0, mi0), (258, 1, .ireturn, [], 0, mi0)]
theorem oM_price_230 : okB mM_price 230 bM_price_230 259 = true := by decide +kernel
def bM_keep_0 : List Item := [(0, 1, .iload_n 1, [], 0, mi0), (1, 1, .iconst 0, [], 0, mi0), (2, 1, .iconst 1, [], 0, mi0), (3, 3, .invokestatic 105, [3, 0, 0, 8, 0, 5004, 5005, 0, 5006, 1011], 0, mM_in), (6, 3, .ifCond .ne 5, [11], 0, mi0), (9, 1, .iconst (-1), [], 0, mi0), (10, 1, .ireturn, [], 0, mi0)]
theorem oM_keep_0 : okB mM_keep 0 bM_keep_0 11 = true := by decide +kernel
def bM_keep_11 : List Item := [(11, 1, .iconst 0, [], 0, mi0), (12, 1, .istore_n 2, [], 0, mi0)]
theorem oM_keep_11 : okB mM_keep 11 bM_keep_11 13 = true := by decide +kernel
def bM_keep_13 : List Item := [(13, 1, .iload_n 2, [], 0, mi0), (14, 1, .iconst 3, [], 0, mi0), (15, 3, .if_icmp .ge 27, [42], 0, mi0), (18, 1, .aload_n 0, [], 0, mi0), (19, 3, .getfield 77, [8, 30, 4142], 0, mi0), (22, 1, .iconst 3, [], 0, mi0), (23, 1, .iconst 1, [], 0, mi0), (24, 1, .iload_n 1, [], 0, mi0), (25, 1, .iadd, [], 0, mi0), (26, 1, .imul, [], 0, mi0), (27, 1, .iload_n 2, [], 0, mi0), (28, 1, .iadd, [], 0, mi0), (29, 1, .aload_n 0, [], 0, mi0), (30, 3, .getfield 77, [8, 30, 4142], 0, mi0), (33, 1, .iload_n 2, [], 0, mi0), (34, 1, .iaload, [], 0, mi0), (35, 1, .iastore, [], 0, mi0), (36, 3, .iinc 2 1, [], 0, mi0), (39, 3, .goto (-26), [13], 0, mi0)]
theorem oM_keep_13 : okB mM_keep 13 bM_keep_13 42 = true := by decide +kernel
def bM_keep_42 : List Item := [(42, 1, .aload_n 0, [], 0, mi0), (43, 3, .getfield 80, [8, 31, 4143], 0, mi0), (46, 1, .iconst 1, [], 0, mi0), (47, 1, .iload_n 1, [], 0, mi0), (48, 1, .iadd, [], 0, mi0), (49, 1, .aload_n 0, [], 0, mi0), (50, 3, .getfield 80, [8, 31, 4143], 0, mi0), (53, 1, .iconst 0, [], 0, mi0), (54, 1, .iaload, [], 0, mi0), (55, 1, .iastore, [], 0, mi0), (56, 1, .aload_n 0, [], 0, mi0), (57, 3, .getfield 83, [8, 32, 4144], 0, mi0), (60, 1, .iload_n 1, [], 0, mi0), (61, 1, .aload_n 0, [], 0, mi0), (62, 3, .getfield 62, [8, 19, 4131], 0, mi0), (65, 1, .iconst 4, [], 0, mi0), (66, 1, .iaload, [], 0, mi0), (67, 1, .iastore, [], 0, mi0), (68, 1, .aload_n 0, [], 0, mi0), (69, 3, .getfield 86, [8, 33, 4145], 0, mi0), (72, 1, .iload_n 1, [], 0, mi0), (73, 1, .iconst 1, [], 0, mi0), (74, 1, .bastore, [2], 0, mi0), (75, 1, .aload_n 0, [], 0, mi0), (76, 3, .getfield 80, [8, 31, 4143], 0, mi0), (79, 1, .iconst 0, [], 0, mi0), (80, 1, .iaload, [], 0, mi0), (81, 3, .invokestatic 211, [1, 0, 0, 8, 0, 5138, 5139, 0, 5140, 1011], 0, mM_bitsIn), (84, 1, .ireturn, [], 0, mi0)]
theorem oM_keep_42 : okB mM_keep 42 bM_keep_42 85 = true := by decide +kernel
def bM_back_0 : List Item := [(0, 1, .iload_n 1, [], 0, mi0), (1, 1, .iconst 0, [], 0, mi0), (2, 1, .iconst 1, [], 0, mi0), (3, 3, .invokestatic 105, [3, 0, 0, 8, 0, 5004, 5005, 0, 5006, 1011], 0, mM_in), (6, 3, .ifCond .ne 5, [11], 0, mi0), (9, 1, .iconst (-1), [], 0, mi0), (10, 1, .ireturn, [], 0, mi0)]
theorem oM_back_0 : okB mM_back 0 bM_back_0 11 = true := by decide +kernel
def bM_back_11 : List Item := [(11, 1, .aload_n 0, [], 0, mi0), (12, 3, .getfield 86, [8, 33, 4145], 0, mi0), (15, 1, .iload_n 1, [], 0, mi0), (16, 1, .baload, [2], 0, mi0), (17, 3, .ifCond .ne 6, [23], 0, mi0), (20, 2, .bipush (-2), [], 0, mi0), (22, 1, .ireturn, [], 0, mi0)]
theorem oM_back_11 : okB mM_back 11 bM_back_11 23 = true := by decide +kernel
def bM_back_23 : List Item := [(23, 1, .iconst 0, [], 0, mi0), (24, 1, .istore_n 2, [], 0, mi0)]
theorem oM_back_23 : okB mM_back 23 bM_back_23 25 = true := by decide +kernel
def bM_back_25 : List Item := [(25, 1, .iload_n 2, [], 0, mi0), (26, 1, .iconst 3, [], 0, mi0), (27, 3, .if_icmp .ge 27, [54], 0, mi0), (30, 1, .aload_n 0, [], 0, mi0), (31, 3, .getfield 77, [8, 30, 4142], 0, mi0), (34, 1, .iload_n 2, [], 0, mi0), (35, 1, .aload_n 0, [], 0, mi0), (36, 3, .getfield 77, [8, 30, 4142], 0, mi0), (39, 1, .iconst 3, [], 0, mi0), (40, 1, .iconst 1, [], 0, mi0), (41, 1, .iload_n 1, [], 0, mi0), (42, 1, .iadd, [], 0, mi0), (43, 1, .imul, [], 0, mi0), (44, 1, .iload_n 2, [], 0, mi0), (45, 1, .iadd, [], 0, mi0), (46, 1, .iaload, [], 0, mi0), (47, 1, .iastore, [], 0, mi0), (48, 3, .iinc 2 1, [], 0, mi0), (51, 3, .goto (-26), [25], 0, mi0)]
theorem oM_back_25 : okB mM_back 25 bM_back_25 54 = true := by decide +kernel
def bM_back_54 : List Item := [(54, 1, .aload_n 0, [], 0, mi0), (55, 3, .getfield 80, [8, 31, 4143], 0, mi0), (58, 1, .iconst 0, [], 0, mi0), (59, 1, .aload_n 0, [], 0, mi0), (60, 3, .getfield 80, [8, 31, 4143], 0, mi0), (63, 1, .iconst 1, [], 0, mi0), (64, 1, .iload_n 1, [], 0, mi0), (65, 1, .iadd, [], 0, mi0), (66, 1, .iaload, [], 0, mi0), (67, 1, .iastore, [], 0, mi0), (68, 1, .aload_n 0, [], 0, mi0), (69, 3, .getfield 62, [8, 19, 4131], 0, mi0), (72, 1, .iconst 4, [], 0, mi0), (73, 1, .aload_n 0, [], 0, mi0), (74, 3, .getfield 83, [8, 32, 4144], 0, mi0), (77, 1, .iload_n 1, [], 0, mi0), (78, 1, .iaload, [], 0, mi0), (79, 1, .iastore, [], 0, mi0), (80, 1, .aload_n 0, [], 0, mi0), (81, 3, .getfield 80, [8, 31, 4143], 0, mi0), (84, 1, .iconst 0, [], 0, mi0), (85, 1, .iaload, [], 0, mi0), (86, 3, .invokestatic 211, [1, 0, 0, 8, 0, 5138, 5139, 0, 5140, 1011], 0, mM_bitsIn), (89, 1, .ireturn, [], 0, mi0)]
theorem oM_back_54 : okB mM_back 54 bM_back_54 90 = true := by decide +kernel
def bM_count_0 : List Item := [(0, 1, .iload_n 1, [], 0, mi0), (1, 39, .tableswitch 79 0 5 #[39, 46, 53, 60, 67, 74], [80, 40, 47, 54, 61, 68, 75], 0, mi0)]
theorem oM_count_0 : okB mM_count 0 bM_count_0 40 = true := by decide +kernel
def bM_count_40 : List Item := [(40, 1, .aload_n 0, [], 0, mi0), (41, 3, .getfield 13, [8, 3, 4115], 0, mi0), (44, 1, .iconst 0, [], 0, mi0), (45, 1, .iaload, [], 0, mi0), (46, 1, .ireturn, [], 0, mi0)]
theorem oM_count_40 : okB mM_count 40 bM_count_40 47 = true := by decide +kernel
def bM_count_47 : List Item := [(47, 1, .aload_n 0, [], 0, mi0), (48, 3, .getfield 17, [8, 4, 4116], 0, mi0), (51, 1, .iconst 0, [], 0, mi0), (52, 1, .iaload, [], 0, mi0), (53, 1, .ireturn, [], 0, mi0)]
theorem oM_count_47 : okB mM_count 47 bM_count_47 54 = true := by decide +kernel
def bM_count_54 : List Item := [(54, 1, .aload_n 0, [], 0, mi0), (55, 3, .getfield 32, [8, 9, 4121], 0, mi0), (58, 1, .iconst 0, [], 0, mi0), (59, 1, .iaload, [], 0, mi0), (60, 1, .ireturn, [], 0, mi0)]
theorem oM_count_54 : okB mM_count 54 bM_count_54 61 = true := by decide +kernel
def bM_count_61 : List Item := [(61, 1, .aload_n 0, [], 0, mi0), (62, 3, .getfield 47, [8, 14, 4126], 0, mi0), (65, 1, .iconst 0, [], 0, mi0), (66, 1, .iaload, [], 0, mi0), (67, 1, .ireturn, [], 0, mi0)]
theorem oM_count_61 : okB mM_count 61 bM_count_61 68 = true := by decide +kernel
def bM_count_68 : List Item := [(68, 1, .aload_n 0, [], 0, mi0), (69, 3, .getfield 53, [8, 16, 4128], 0, mi0), (72, 1, .iconst 0, [], 0, mi0), (73, 1, .iaload, [], 0, mi0), (74, 1, .ireturn, [], 0, mi0)]
theorem oM_count_68 : okB mM_count 68 bM_count_68 75 = true := by decide +kernel
def bM_count_75 : List Item := [(75, 1, .aload_n 0, [], 0, mi0), (76, 3, .getfield 109, [8, 2, 4114], 0, mi0), (79, 1, .ireturn, [], 0, mi0)]
theorem oM_count_75 : okB mM_count 75 bM_count_75 80 = true := by decide +kernel
def bM_count_80 : List Item := [(80, 1, .iconst (-1), [], 0, mi0), (81, 1, .ireturn, [], 0, mi0)]
theorem oM_count_80 : okB mM_count 80 bM_count_80 82 = true := by decide +kernel
def bM_trace_0 : List Item := [(0, 1, .aload_n 0, [], 0, mi0), (1, 3, .getfield 271, [8, 0, 4112], 0, mi0), (4, 1, .lreturn, [], 0, mi0)]
theorem oM_trace_0 : okB mM_trace 0 bM_trace_0 5 = true := by decide +kernel
