/-! 5: the code of j, block by block -/
def bjI_bitCount_0 : List Item := [(0, 1, .iload_n 0, [], 0, mi0), (1, 1, .iload_n 0, [], 0, mi0), (2, 1, .iconst 1, [], 0, mi0), (3, 1, .iushr, [], 0, mi0), (4, 3, .ldc_w 265, [0, 0, 2039], 1431655765, mi0), (7, 1, .iand, [], 0, mi0), (8, 1, .isub, [], 0, mi0), (9, 1, .istore_n 0, [], 0, mi0), (10, 1, .iload_n 0, [], 0, mi0), (11, 3, .ldc_w 266, [0, 0, 2040], 858993459, mi0), (14, 1, .iand, [], 0, mi0), (15, 1, .iload_n 0, [], 0, mi0), (16, 1, .iconst 2, [], 0, mi0), (17, 1, .iushr, [], 0, mi0), (18, 3, .ldc_w 266, [0, 0, 2040], 858993459, mi0), (21, 1, .iand, [], 0, mi0), (22, 1, .iadd, [], 0, mi0), (23, 1, .istore_n 0, [], 0, mi0), (24, 1, .iload_n 0, [], 0, mi0), (25, 1, .iload_n 0, [], 0, mi0), (26, 1, .iconst 4, [], 0, mi0), (27, 1, .iushr, [], 0, mi0), (28, 1, .iadd, [], 0, mi0), (29, 3, .ldc_w 267, [0, 0, 2041], 252645135, mi0), (32, 1, .iand, [], 0, mi0), (33, 1, .istore_n 0, [], 0, mi0), (34, 1, .iload_n 0, [], 0, mi0), (35, 1, .iload_n 0, [], 0, mi0), (36, 2, .bipush 8, [], 0, mi0), (38, 1, .iushr, [], 0, mi0), (39, 1, .iadd, [], 0, mi0), (40, 1, .istore_n 0, [], 0, mi0), (41, 1, .iload_n 0, [], 0, mi0), (42, 1, .iload_n 0, [], 0, mi0), (43, 2, .bipush 16, [], 0, mi0), (45, 1, .iushr, [], 0, mi0), (46, 1, .iadd, [], 0, mi0), (47, 1, .istore_n 0, [], 0, mi0), (48, 1, .iload_n 0, [], 0, mi0), (49, 2, .bipush 63, [], 0, mi0), (51, 1, .iand, [], 0, mi0), (52, 1, .ireturn, [], 0, mi0)]
theorem ojI_bitCount_0 : okB mjI_bitCount 0 bjI_bitCount_0 53 = true := by decide +kernel
def bjM_min_0 : List Item := [(0, 1, .iload_n 0, [], 0, mi0), (1, 1, .iload_n 1, [], 0, mi0), (2, 3, .if_icmp .gt 7, [9], 0, mi0), (5, 1, .iload_n 0, [], 0, mi0), (6, 3, .goto 4, [10], 0, mi0)]
theorem ojM_min_0 : okB mjM_min 0 bjM_min_0 9 = true := by decide +kernel
def bjM_min_9 : List Item := [(9, 1, .iload_n 1, [], 0, mi0)]
theorem ojM_min_9 : okB mjM_min 9 bjM_min_9 10 = true := by decide +kernel
def bjM_min_10 : List Item := [(10, 1, .ireturn, [], 0, mi0)]
theorem ojM_min_10 : okB mjM_min 10 bjM_min_10 11 = true := by decide +kernel
def bjM_max_0 : List Item := [(0, 1, .iload_n 0, [], 0, mi0), (1, 1, .iload_n 1, [], 0, mi0), (2, 3, .if_icmp .lt 7, [9], 0, mi0), (5, 1, .iload_n 0, [], 0, mi0), (6, 3, .goto 4, [10], 0, mi0)]
theorem ojM_max_0 : okB mjM_max 0 bjM_max_0 9 = true := by decide +kernel
def bjM_max_9 : List Item := [(9, 1, .iload_n 1, [], 0, mi0)]
theorem ojM_max_9 : okB mjM_max 9 bjM_max_9 10 = true := by decide +kernel
def bjM_max_10 : List Item := [(10, 1, .ireturn, [], 0, mi0)]
theorem ojM_max_10 : okB mjM_max 10 bjM_max_10 11 = true := by decide +kernel
def bjS_length_0 : List Item := [(0, 1, .aload_n 0, [], 0, mi0), (1, 3, .getfield 9, [9, 0, 6033], 0, mi0), (4, 1, .arraylength, [], 0, mi0), (5, 1, .aload_n 0, [], 0, mi0), (6, 3, .invokevirtual 335, [1, 0, 0, 9, 0, 2191, 2192, 2193, 2194, 1012], 0, mjS_coder), (9, 1, .ishr, [], 0, mi0), (10, 1, .ireturn, [], 0, mi0)]
theorem ojS_length_0 : okB mjS_length 0 bjS_length_0 11 = true := by decide +kernel
def bjS_coder_0 : List Item := [(0, 3, .getstatic 38, [3, 0, 2195], 0, mi0), (3, 3, .ifCond .eq 10, [13], 0, mi0), (6, 1, .aload_n 0, [], 0, mi0), (7, 3, .getfield 15, [9, 1, 6034], 0, mi0), (10, 3, .goto 4, [14], 0, mi0)]
theorem ojS_coder_0 : okB mjS_coder 0 bjS_coder_0 13 = true := by decide +kernel
def bjS_coder_13 : List Item := [(13, 1, .iconst 1, [], 0, mi0)]
theorem ojS_coder_13 : okB mjS_coder 13 bjS_coder_13 14 = true := by decide +kernel
def bjS_coder_14 : List Item := [(14, 1, .ireturn, [], 0, mi0)]
theorem ojS_coder_14 : okB mjS_coder 14 bjS_coder_14 15 = true := by decide +kernel
def bjS_charAt_0 : List Item := [(0, 1, .aload_n 0, [], 0, mi0), (1, 3, .invokevirtual 492, [1, 0, 0, 9, 0, 2201, 2202, 2203, 2204, 1012], 0, mjS_isLatin1), (4, 3, .ifCond .eq 12, [16], 0, mi0), (7, 1, .aload_n 0, [], 0, mi0), (8, 3, .getfield 9, [9, 0, 6033], 0, mi0), (11, 1, .iload_n 1, [], 0, mi0), (12, 3, .invokestatic 495, [2, 0, 0, 0, 0, 2205, 2206, 0, 2207, 1013], 0, mjL_charAt), (15, 1, .ireturn, [], 0, mi0)]
theorem ojS_charAt_0 : okB mjS_charAt 0 bjS_charAt_0 16 = true := by decide +kernel
def bjS_charAt_16 : List Item := [(16, 1, .aload_n 0, [], 0, mi0), (17, 3, .getfield 9, [9, 0, 6033], 0, mi0), (20, 1, .iload_n 1, [], 0, mi0), (21, 3, .invokestatic 498, [2, 0, 0, 0, 0, 2216, 2217, 0, 2218, 1015], 0, mjU_charAt), (24, 1, .ireturn, [], 0, mi0)]
theorem ojS_charAt_16 : okB mjS_charAt 16 bjS_charAt_16 25 = true := by decide +kernel
def bjS_isLatin1_0 : List Item := [(0, 3, .getstatic 38, [3, 0, 2195], 0, mi0), (3, 3, .ifCond .eq 14, [17], 0, mi0), (6, 1, .aload_n 0, [], 0, mi0), (7, 3, .getfield 15, [9, 1, 6034], 0, mi0), (10, 3, .ifCond .ne 7, [17], 0, mi0), (13, 1, .iconst 1, [], 0, mi0), (14, 3, .goto 4, [18], 0, mi0)]
theorem ojS_isLatin1_0 : okB mjS_isLatin1 0 bjS_isLatin1_0 17 = true := by decide +kernel
def bjS_isLatin1_17 : List Item := [(17, 1, .iconst 0, [], 0, mi0)]
theorem ojS_isLatin1_17 : okB mjS_isLatin1 17 bjS_isLatin1_17 18 = true := by decide +kernel
def bjS_isLatin1_18 : List Item := [(18, 1, .ireturn, [], 0, mi0)]
theorem ojS_isLatin1_18 : okB mjS_isLatin1 18 bjS_isLatin1_18 19 = true := by decide +kernel
def bjL_charAt_0 : List Item := [(0, 1, .iload_n 1, [], 0, mi0), (1, 1, .aload_n 0, [], 0, mi0), (2, 1, .arraylength, [], 0, mi0), (3, 3, .invokestatic 9, [2, 0, 0, 9, 0, 2208, 2209, 0, 2210, 1012], 0, mjS_checkIndex), (6, 1, .aload_n 0, [], 0, mi0), (7, 1, .iload_n 1, [], 0, mi0), (8, 1, .baload, [1], 0, mi0), (9, 3, .sipush 255, [], 0, mi0), (12, 1, .iand, [], 0, mi0), (13, 1, .i2c, [], 0, mi0), (14, 1, .ireturn, [], 0, mi0)]
theorem ojL_charAt_0 : okB mjL_charAt 0 bjL_charAt_0 15 = true := by decide +kernel
def bjS_checkIndex_0 : List Item := [(0, 1, .iload_n 0, [], 0, mi0), (1, 1, .iload_n 1, [], 0, mi0), (2, 3, .getstatic 1053, [15, 0, 2211], 0, mi0), (5, 3, .invokestatic 1059, [3, 0, 0, 0, 0, 2213, 2214, 0, 2215, 1014], 0, mjP_checkIndex), (8, 1, .pop, [], 0, mi0), (9, 1, .return_, [], 0, mi0)]
theorem ojS_checkIndex_0 : okB mjS_checkIndex 0 bjS_checkIndex_0 10 = true := by decide +kernel
def bjP_checkIndex_0 : List Item := [(0, 1, .iload_n 0, [], 0, mi0), (1, 3, .ifCond .lt 8, [9], 0, mi0), (4, 1, .iload_n 0, [], 0, mi0), (5, 1, .iload_n 1, [], 0, mi0), (6, 3, .if_icmp .lt 10, [16], 0, mi0)]
theorem ojP_checkIndex_0 : okB mjP_checkIndex 0 bjP_checkIndex_0 9 = true := by decide +kernel
def bjP_checkIndex_16 : List Item := [(16, 1, .iload_n 0, [], 0, mi0), (17, 1, .ireturn, [], 0, mi0)]
theorem ojP_checkIndex_16 : okB mjP_checkIndex 16 bjP_checkIndex_16 18 = true := by decide +kernel
def bjU_charAt_0 : List Item := [(0, 1, .iload_n 1, [], 0, mi0), (1, 1, .aload_n 0, [], 0, mi0), (2, 3, .invokestatic 67, [2, 0, 0, 0, 0, 2219, 2220, 0, 2221, 1015], 0, mjU_checkIndex), (5, 1, .aload_n 0, [], 0, mi0), (6, 1, .iload_n 1, [], 0, mi0), (7, 3, .invokestatic 71, [2, 0, 0, 0, 0, 2226, 2227, 0, 2228, 1015], 0, mjU_getChar), (10, 1, .ireturn, [], 0, mi0)]
theorem ojU_charAt_0 : okB mjU_charAt 0 bjU_charAt_0 11 = true := by decide +kernel
def bjU_checkIndex_0 : List Item := [(0, 1, .iload_n 0, [], 0, mi0), (1, 1, .aload_n 1, [], 0, mi0), (2, 3, .invokestatic 48, [1, 0, 0, 0, 0, 2222, 2223, 0, 2224, 1015], 0, mjU_length), (5, 3, .invokestatic 414, [2, 0, 0, 9, 0, 2225, 2209, 0, 2210, 1012], 0, mjS_checkIndex), (8, 1, .return_, [], 0, mi0)]
theorem ojU_checkIndex_0 : okB mjU_checkIndex 0 bjU_checkIndex_0 9 = true := by decide +kernel
def bjU_length_0 : List Item := [(0, 1, .aload_n 0, [], 0, mi0), (1, 1, .arraylength, [], 0, mi0), (2, 1, .iconst 1, [], 0, mi0), (3, 1, .ishr, [], 0, mi0), (4, 1, .ireturn, [], 0, mi0)]
theorem ojU_length_0 : okB mjU_length 0 bjU_length_0 5 = true := by decide +kernel
