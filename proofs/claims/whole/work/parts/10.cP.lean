/-! 10: the code of P, block by block -/
def bP_init_0 : List Item := [(0, 1, .aload_n 0, [], 0, mi0), (1, 3, .invokespecial 3, [0, 0, 0, 0, 0, 1125, 1022, 0, 1023], 0, mi0), (4, 1, .aload_n 0, [], 0, mi0), (5, 1, .iconst 3, [], 0, mi0), (6, 2, .newarray .int, [0, 0, 0, 0, 0, 1052], 0, mi0), (8, 3, .putfield 9, [4, 0, 1126, 2], 0, mi0), (11, 1, .aload_n 0, [], 0, mi0), (12, 1, .iconst 0, [], 0, mi0), (13, 3, .putfield 15, [4, 1, 1128, 0], 0, mi0), (16, 1, .aload_n 0, [], 0, mi0), (17, 1, .iconst 0, [], 0, mi0), (18, 3, .putfield 19, [4, 2, 1130, 0], 0, mi0), (21, 1, .aload_n 0, [], 0, mi0), (22, 1, .iconst 0, [], 0, mi0), (23, 3, .putfield 22, [4, 3, 1132, 3], 0, mi0), (26, 1, .return_, [], 0, mi0)]
theorem oP_init_0 : okB mP_init 0 bP_init_0 27 = true := by decide +kernel
def bP_begin_0 : List Item := [(0, 1, .iconst 0, [], 0, mi0), (1, 1, .istore_n 1, [], 0, mi0)]
theorem oP_begin_0 : okB mP_begin 0 bP_begin_0 2 = true := by decide +kernel
def bP_begin_2 : List Item := [(2, 1, .iload_n 1, [], 0, mi0), (3, 1, .iconst 3, [], 0, mi0), (4, 3, .if_icmp .ge 16, [20], 0, mi0), (7, 1, .aload_n 0, [], 0, mi0), (8, 3, .getfield 9, [4, 0, 1126], 0, mi0), (11, 1, .iload_n 1, [], 0, mi0), (12, 1, .iconst 0, [], 0, mi0), (13, 1, .iastore, [], 0, mi0), (14, 3, .iinc 1 1, [], 0, mi0), (17, 3, .goto (-15), [2], 0, mi0)]
theorem oP_begin_2 : okB mP_begin 2 bP_begin_2 20 = true := by decide +kernel
def bP_begin_20 : List Item := [(20, 1, .aload_n 0, [], 0, mi0), (21, 1, .iconst 0, [], 0, mi0), (22, 3, .putfield 15, [4, 1, 1128, 0], 0, mi0), (25, 1, .return_, [], 0, mi0)]
theorem oP_begin_20 : okB mP_begin 20 bP_begin_20 26 = true := by decide +kernel
def bP_latest_0 : List Item := [(0, 1, .iconst 0, [], 0, mi0), (1, 1, .istore_n 1, [], 0, mi0), (2, 1, .iconst 0, [], 0, mi0), (3, 1, .istore_n 2, [], 0, mi0)]
theorem oP_latest_0 : okB mP_latest 0 bP_latest_0 4 = true := by decide +kernel
def bP_latest_4 : List Item := [(4, 1, .iload_n 2, [], 0, mi0), (5, 1, .iconst 3, [], 0, mi0), (6, 3, .if_icmp .ge 20, [26], 0, mi0), (9, 1, .iload_n 1, [], 0, mi0), (10, 1, .aload_n 0, [], 0, mi0), (11, 3, .getfield 9, [4, 0, 1126], 0, mi0), (14, 1, .iload_n 2, [], 0, mi0), (15, 1, .iaload, [], 0, mi0), (16, 3, .invokestatic 26, [2, 0, 0, 0, 2, 3121, 2088, 0, 2089, 1010], 0, mi0), (19, 1, .istore_n 1, [], 0, mi0), (20, 3, .iinc 2 1, [], 0, mi0), (23, 3, .goto (-19), [4], 0, mi0)]
theorem oP_latest_4 : okB mP_latest 4 bP_latest_4 26 = true := by decide +kernel
def bP_latest_26 : List Item := [(26, 1, .iload_n 1, [], 0, mi0), (27, 1, .ireturn, [], 0, mi0)]
theorem oP_latest_26 : okB mP_latest 26 bP_latest_26 28 = true := by decide +kernel
def bP_copy_0 : List Item := [(0, 1, .iconst 0, [], 0, mi0), (1, 1, .istore_n 2, [], 0, mi0)]
theorem oP_copy_0 : okB mP_copy 0 bP_copy_0 2 = true := by decide +kernel
def bP_copy_2 : List Item := [(2, 1, .iload_n 2, [], 0, mi0), (3, 1, .iconst 3, [], 0, mi0), (4, 3, .if_icmp .ge 21, [25], 0, mi0), (7, 1, .aload_n 0, [], 0, mi0), (8, 3, .getfield 9, [4, 0, 1126], 0, mi0), (11, 1, .iload_n 2, [], 0, mi0), (12, 1, .aload_n 1, [], 0, mi0), (13, 3, .getfield 9, [4, 0, 1126], 0, mi0), (16, 1, .iload_n 2, [], 0, mi0), (17, 1, .iaload, [], 0, mi0), (18, 1, .iastore, [], 0, mi0), (19, 3, .iinc 2 1, [], 0, mi0), (22, 3, .goto (-20), [2], 0, mi0)]
theorem oP_copy_2 : okB mP_copy 2 bP_copy_2 25 = true := by decide +kernel
def bP_copy_25 : List Item := [(25, 1, .aload_n 0, [], 0, mi0), (26, 1, .aload_n 1, [], 0, mi0), (27, 3, .getfield 15, [4, 1, 1128], 0, mi0), (30, 3, .putfield 15, [4, 1, 1128, 0], 0, mi0), (33, 1, .aload_n 0, [], 0, mi0), (34, 1, .aload_n 1, [], 0, mi0), (35, 3, .getfield 19, [4, 2, 1130], 0, mi0), (38, 3, .putfield 19, [4, 2, 1130, 0], 0, mi0), (41, 1, .return_, [], 0, mi0)]
theorem oP_copy_25 : okB mP_copy 25 bP_copy_25 42 = true := by decide +kernel
