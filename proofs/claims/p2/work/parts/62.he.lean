/-! ===== rows of the bodies that are walked by hand; written by wip/box/genhe.py ===== -/
theorem h_131_0 : mFind (mTab 131) 0 = some (0, 1, .aload_n 0, .aload 0, 0, 0, 0, 0) := by decide +kernel
theorem h_131_1 : mFind (mTab 131) 1 = some (1, 3, .getfield 7, .getfield 7, 0, 8, 1, 972) := by decide +kernel
theorem h_131_4 : mFind (mTab 131) 4 = some (4, 1, .iload_n 1, .iload 1, 0, 0, 0, 0) := by decide +kernel
theorem h_131_5 : mFind (mTab 131) 5 = some (5, 1, .aload_n 0, .aload 0, 0, 0, 0, 0) := by decide +kernel
theorem h_131_6 : mFind (mTab 131) 6 = some (6, 3, .getfield 7, .getfield 7, 0, 8, 1, 972) := by decide +kernel
theorem h_131_9 : mFind (mTab 131) 9 = some (9, 1, .iload_n 1, .iload 1, 0, 0, 0, 0) := by decide +kernel
theorem h_131_10 : mFind (mTab 131) 10 = some (10, 1, .iaload, .iaload, 0, 0, 0, 0) := by decide +kernel
theorem h_131_11 : mFind (mTab 131) 11 = some (11, 1, .iload_n 2, .iload 2, 0, 0, 0, 0) := by decide +kernel
theorem h_131_12 : mFind (mTab 131) 12 = some (12, 1, .iadd, .iadd, 0, 0, 0, 0) := by decide +kernel
theorem h_131_13 : mFind (mTab 131) 13 = some (13, 1, .iastore, .iastore, 0, 0, 0, 0) := by decide +kernel
theorem h_131_14 : mFind (mTab 131) 14 = some (14, 1, .return_, .return_, 0, 0, 0, 0) := by decide +kernel
theorem h_164_0 : mFind (mTab 164) 0 = some (0, 3, .sipush 710, .iconst 0, 710, 0, 0, 0) := by decide +kernel
theorem h_164_3 : mFind (mTab 164) 3 = some (3, 2, .bipush 7, .iconst 0, 7, 0, 0, 0) := by decide +kernel
theorem h_164_5 : mFind (mTab 164) 5 = some (5, 1, .iload_n 1, .iload 1, 0, 0, 0, 0) := by decide +kernel
theorem h_164_6 : mFind (mTab 164) 6 = some (6, 1, .imul, .imul, 0, 0, 0, 0) := by decide +kernel
theorem h_164_7 : mFind (mTab 164) 7 = some (7, 1, .iadd, .iadd, 0, 0, 0, 0) := by decide +kernel
theorem h_164_8 : mFind (mTab 164) 8 = some (8, 1, .ireturn, .ireturn, 0, 0, 0, 0) := by decide +kernel
theorem h_165_0 : mFind (mTab 165) 0 = some (0, 1, .aload_n 0, .aload 0, 0, 0, 0, 0) := by decide +kernel
theorem h_165_1 : mFind (mTab 165) 1 = some (1, 2, .bipush 9, .iconst 0, 9, 0, 0, 0) := by decide +kernel
theorem h_165_3 : mFind (mTab 165) 3 = some (3, 1, .iconst (-1), .iconst 0, (-1), 0, 0, 0) := by decide +kernel
theorem h_165_4 : mFind (mTab 165) 4 = some (4, 3, .invokevirtual 27, .invokevirtual 27, 0, 131, 8, 1117) := by decide +kernel
theorem h_165_7 : mFind (mTab 165) 7 = some (7, 1, .aload_n 0, .aload 0, 0, 0, 0, 0) := by decide +kernel
theorem h_165_8 : mFind (mTab 165) 8 = some (8, 1, .iload_n 1, .iload 1, 0, 0, 0, 0) := by decide +kernel
theorem h_165_9 : mFind (mTab 165) 9 = some (9, 3, .invokevirtual 110, .invokevirtual 110, 0, 164, 8, 1129) := by decide +kernel
theorem h_165_12 : mFind (mTab 165) 12 = some (12, 1, .istore_n 2, .istore 2, 0, 0, 0, 0) := by decide +kernel
theorem h_165_13 : mFind (mTab 165) 13 = some (13, 1, .iload_n 2, .iload 2, 0, 0, 0, 0) := by decide +kernel
theorem h_165_14 : mFind (mTab 165) 14 = some (14, 1, .aload_n 0, .aload 0, 0, 0, 0, 0) := by decide +kernel
theorem h_165_15 : mFind (mTab 165) 15 = some (15, 1, .aload_n 0, .aload 0, 0, 0, 0, 0) := by decide +kernel
theorem h_165_16 : mFind (mTab 165) 16 = some (16, 3, .getfield 7, .getfield 7, 0, 8, 1, 972) := by decide +kernel
theorem h_165_19 : mFind (mTab 165) 19 = some (19, 2, .bipush 9, .iconst 0, 9, 0, 0, 0) := by decide +kernel
theorem h_165_21 : mFind (mTab 165) 21 = some (21, 1, .iaload, .iaload, 0, 0, 0, 0) := by decide +kernel
theorem h_165_22 : mFind (mTab 165) 22 = some (22, 3, .invokevirtual 110, .invokevirtual 110, 0, 164, 8, 1129) := by decide +kernel
theorem h_165_25 : mFind (mTab 165) 25 = some (25, 3, .if_icmp .ge 24, .if_icmp .ge 24, 0, 49, 0, 0) := by decide +kernel
theorem h_165_28 : mFind (mTab 165) 28 = some (28, 1, .aload_n 0, .aload 0, 0, 0, 0, 0) := by decide +kernel
theorem h_165_29 : mFind (mTab 165) 29 = some (29, 3, .getfield 7, .getfield 7, 0, 8, 1, 972) := by decide +kernel
theorem h_165_32 : mFind (mTab 165) 32 = some (32, 1, .iload_n 2, .iload 2, 0, 0, 0, 0) := by decide +kernel
theorem h_165_33 : mFind (mTab 165) 33 = some (33, 1, .aload_n 0, .aload 0, 0, 0, 0, 0) := by decide +kernel
theorem h_165_34 : mFind (mTab 165) 34 = some (34, 3, .getfield 7, .getfield 7, 0, 8, 1, 972) := by decide +kernel
theorem h_165_37 : mFind (mTab 165) 37 = some (37, 1, .iload_n 2, .iload 2, 0, 0, 0, 0) := by decide +kernel
theorem h_165_38 : mFind (mTab 165) 38 = some (38, 2, .bipush 7, .iconst 0, 7, 0, 0, 0) := by decide +kernel
theorem h_165_40 : mFind (mTab 165) 40 = some (40, 1, .iadd, .iadd, 0, 0, 0, 0) := by decide +kernel
theorem h_165_41 : mFind (mTab 165) 41 = some (41, 1, .iaload, .iaload, 0, 0, 0, 0) := by decide +kernel
theorem h_165_42 : mFind (mTab 165) 42 = some (42, 1, .iastore, .iastore, 0, 0, 0, 0) := by decide +kernel
theorem h_165_43 : mFind (mTab 165) 43 = some (43, 3, .iinc 2 1, .iinc 2 1, 1, 0, 0, 0) := by decide +kernel
theorem h_165_46 : mFind (mTab 165) 46 = some (46, 3, .goto (-33), .goto (-33), 0, 13, 0, 0) := by decide +kernel
theorem h_165_49 : mFind (mTab 165) 49 = some (49, 1, .return_, .return_, 0, 0, 0, 0) := by decide +kernel
theorem h_226_0 : mFind (mTab 226) 0 = some (0, 1, .iconst 0, .iconst 0, 0, 0, 0, 0) := by decide +kernel
theorem h_226_1 : mFind (mTab 226) 1 = some (1, 1, .istore_n 1, .istore 1, 0, 0, 0, 0) := by decide +kernel
theorem h_226_2 : mFind (mTab 226) 2 = some (2, 1, .iload_n 1, .iload 1, 0, 0, 0, 0) := by decide +kernel
theorem h_226_3 : mFind (mTab 226) 3 = some (3, 3, .sipush 1850, .iconst 0, 1850, 0, 0, 0) := by decide +kernel
theorem h_226_6 : mFind (mTab 226) 6 = some (6, 3, .if_icmp .ge 21, .if_icmp .ge 21, 0, 27, 0, 0) := by decide +kernel
theorem h_226_9 : mFind (mTab 226) 9 = some (9, 1, .aload_n 0, .aload 0, 0, 0, 0, 0) := by decide +kernel
theorem h_226_10 : mFind (mTab 226) 10 = some (10, 3, .getfield 13, .getfield 13, 0, 8, 2, 973) := by decide +kernel
theorem h_226_13 : mFind (mTab 226) 13 = some (13, 1, .iload_n 1, .iload 1, 0, 0, 0, 0) := by decide +kernel
theorem h_226_14 : mFind (mTab 226) 14 = some (14, 1, .aload_n 0, .aload 0, 0, 0, 0, 0) := by decide +kernel
theorem h_226_15 : mFind (mTab 226) 15 = some (15, 3, .getfield 7, .getfield 7, 0, 8, 1, 972) := by decide +kernel
theorem h_226_18 : mFind (mTab 226) 18 = some (18, 1, .iload_n 1, .iload 1, 0, 0, 0, 0) := by decide +kernel
theorem h_226_19 : mFind (mTab 226) 19 = some (19, 1, .iaload, .iaload, 0, 0, 0, 0) := by decide +kernel
theorem h_226_20 : mFind (mTab 226) 20 = some (20, 1, .iastore, .iastore, 0, 0, 0, 0) := by decide +kernel
theorem h_226_21 : mFind (mTab 226) 21 = some (21, 3, .iinc 1 1, .iinc 1 1, 1, 0, 0, 0) := by decide +kernel
theorem h_226_24 : mFind (mTab 226) 24 = some (24, 3, .goto (-22), .goto (-22), 0, 2, 0, 0) := by decide +kernel
theorem h_226_27 : mFind (mTab 226) 27 = some (27, 1, .return_, .return_, 0, 0, 0, 0) := by decide +kernel
theorem h_227_0 : mFind (mTab 227) 0 = some (0, 1, .iconst 0, .iconst 0, 0, 0, 0, 0) := by decide +kernel
theorem h_227_1 : mFind (mTab 227) 1 = some (1, 1, .istore_n 1, .istore 1, 0, 0, 0, 0) := by decide +kernel
theorem h_227_2 : mFind (mTab 227) 2 = some (2, 1, .iload_n 1, .iload 1, 0, 0, 0, 0) := by decide +kernel
theorem h_227_3 : mFind (mTab 227) 3 = some (3, 3, .sipush 1850, .iconst 0, 1850, 0, 0, 0) := by decide +kernel
theorem h_227_6 : mFind (mTab 227) 6 = some (6, 3, .if_icmp .ge 21, .if_icmp .ge 21, 0, 27, 0, 0) := by decide +kernel
theorem h_227_9 : mFind (mTab 227) 9 = some (9, 1, .aload_n 0, .aload 0, 0, 0, 0, 0) := by decide +kernel
theorem h_227_10 : mFind (mTab 227) 10 = some (10, 3, .getfield 7, .getfield 7, 0, 8, 1, 972) := by decide +kernel
theorem h_227_13 : mFind (mTab 227) 13 = some (13, 1, .iload_n 1, .iload 1, 0, 0, 0, 0) := by decide +kernel
theorem h_227_14 : mFind (mTab 227) 14 = some (14, 1, .aload_n 0, .aload 0, 0, 0, 0, 0) := by decide +kernel
theorem h_227_15 : mFind (mTab 227) 15 = some (15, 3, .getfield 13, .getfield 13, 0, 8, 2, 973) := by decide +kernel
theorem h_227_18 : mFind (mTab 227) 18 = some (18, 1, .iload_n 1, .iload 1, 0, 0, 0, 0) := by decide +kernel
theorem h_227_19 : mFind (mTab 227) 19 = some (19, 1, .iaload, .iaload, 0, 0, 0, 0) := by decide +kernel
theorem h_227_20 : mFind (mTab 227) 20 = some (20, 1, .iastore, .iastore, 0, 0, 0, 0) := by decide +kernel
theorem h_227_21 : mFind (mTab 227) 21 = some (21, 3, .iinc 1 1, .iinc 1 1, 1, 0, 0, 0) := by decide +kernel
theorem h_227_24 : mFind (mTab 227) 24 = some (24, 3, .goto (-22), .goto (-22), 0, 2, 0, 0) := by decide +kernel
theorem h_227_27 : mFind (mTab 227) 27 = some (27, 1, .return_, .return_, 0, 0, 0, 0) := by decide +kernel
theorem h_148_0 : mFind (mTab 148) 0 = some (0, 1, .aload_n 0, .aload 0, 0, 0, 0, 0) := by decide +kernel
theorem h_148_1 : mFind (mTab 148) 1 = some (1, 1, .iconst 0, .iconst 0, 0, 0, 0, 0) := by decide +kernel
theorem h_148_2 : mFind (mTab 148) 2 = some (2, 3, .putfield 19, .putfield 19, 0, 8, 0, 971) := by decide +kernel
theorem h_148_5 : mFind (mTab 148) 5 = some (5, 1, .aload_n 0, .aload 0, 0, 0, 0, 0) := by decide +kernel
theorem h_148_6 : mFind (mTab 148) 6 = some (6, 1, .iload_n 1, .iload 1, 0, 0, 0, 0) := by decide +kernel
theorem h_148_7 : mFind (mTab 148) 7 = some (7, 1, .iconst 2, .iconst 0, 2, 0, 0, 0) := by decide +kernel
theorem h_148_8 : mFind (mTab 148) 8 = some (8, 2, .bipush 8, .iconst 0, 8, 0, 0, 0) := by decide +kernel
theorem h_148_10 : mFind (mTab 148) 10 = some (10, 3, .invokevirtual 71, .invokevirtual 71, 0, 126, 8, 997) := by decide +kernel
theorem h_148_13 : mFind (mTab 148) 13 = some (13, 3, .ifCond .ne 5, .ifCond .ne 5, 0, 18, 0, 0) := by decide +kernel
theorem h_148_16 : mFind (mTab 148) 16 = some (16, 1, .iconst 0, .iconst 0, 0, 0, 0, 0) := by decide +kernel
theorem h_148_17 : mFind (mTab 148) 17 = some (17, 1, .ireturn, .ireturn, 0, 0, 0, 0) := by decide +kernel
theorem h_148_18 : mFind (mTab 148) 18 = some (18, 1, .iconst 0, .iconst 0, 0, 0, 0, 0) := by decide +kernel
theorem h_148_19 : mFind (mTab 148) 19 = some (19, 1, .istore_n 2, .istore 2, 0, 0, 0, 0) := by decide +kernel
theorem h_148_20 : mFind (mTab 148) 20 = some (20, 1, .iload_n 2, .iload 2, 0, 0, 0, 0) := by decide +kernel
theorem h_148_21 : mFind (mTab 148) 21 = some (21, 3, .sipush 1850, .iconst 0, 1850, 0, 0, 0) := by decide +kernel
theorem h_148_24 : mFind (mTab 148) 24 = some (24, 3, .if_icmp .ge 16, .if_icmp .ge 16, 0, 40, 0, 0) := by decide +kernel
theorem h_148_27 : mFind (mTab 148) 27 = some (27, 1, .aload_n 0, .aload 0, 0, 0, 0, 0) := by decide +kernel
theorem h_148_28 : mFind (mTab 148) 28 = some (28, 3, .getfield 7, .getfield 7, 0, 8, 1, 972) := by decide +kernel
theorem h_148_31 : mFind (mTab 148) 31 = some (31, 1, .iload_n 2, .iload 2, 0, 0, 0, 0) := by decide +kernel
theorem h_148_32 : mFind (mTab 148) 32 = some (32, 1, .iconst 0, .iconst 0, 0, 0, 0, 0) := by decide +kernel
theorem h_148_33 : mFind (mTab 148) 33 = some (33, 1, .iastore, .iastore, 0, 0, 0, 0) := by decide +kernel
theorem h_148_34 : mFind (mTab 148) 34 = some (34, 3, .iinc 2 1, .iinc 2 1, 1, 0, 0, 0) := by decide +kernel
theorem h_148_37 : mFind (mTab 148) 37 = some (37, 3, .goto (-17), .goto (-17), 0, 20, 0, 0) := by decide +kernel
theorem h_148_40 : mFind (mTab 148) 40 = some (40, 1, .aload_n 0, .aload 0, 0, 0, 0, 0) := by decide +kernel
theorem h_148_41 : mFind (mTab 148) 41 = some (41, 3, .getfield 7, .getfield 7, 0, 8, 1, 972) := by decide +kernel
theorem h_148_44 : mFind (mTab 148) 44 = some (44, 2, .bipush 6, .iconst 0, 6, 0, 0, 0) := by decide +kernel
theorem h_148_46 : mFind (mTab 148) 46 = some (46, 1, .iload_n 1, .iload 1, 0, 0, 0, 0) := by decide +kernel
theorem h_148_47 : mFind (mTab 148) 47 = some (47, 1, .iconst 3, .iconst 0, 3, 0, 0, 0) := by decide +kernel
theorem h_148_48 : mFind (mTab 148) 48 = some (48, 1, .isub, .isub, 0, 0, 0, 0) := by decide +kernel
theorem h_148_49 : mFind (mTab 148) 49 = some (49, 1, .iastore, .iastore, 0, 0, 0, 0) := by decide +kernel
theorem h_148_50 : mFind (mTab 148) 50 = some (50, 1, .iconst 1, .iconst 0, 1, 0, 0, 0) := by decide +kernel
theorem h_148_51 : mFind (mTab 148) 51 = some (51, 1, .ireturn, .ireturn, 0, 0, 0, 0) := by decide +kernel
theorem h_246_0 : mFind (mTab 246) 0 = some (0, 1, .aload_n 0, .aload 0, 0, 0, 0, 0) := by decide +kernel
theorem h_246_1 : mFind (mTab 246) 1 = some (1, 1, .iconst 0, .iconst 0, 0, 0, 0, 0) := by decide +kernel
theorem h_246_2 : mFind (mTab 246) 2 = some (2, 3, .putfield 19, .putfield 19, 0, 8, 0, 971) := by decide +kernel
theorem h_246_5 : mFind (mTab 246) 5 = some (5, 1, .iload_n 1, .iload 1, 0, 0, 0, 0) := by decide +kernel
theorem h_246_6 : mFind (mTab 246) 6 = some (6, 3, .ifCond .ne 12, .ifCond .ne 12, 0, 18, 0, 0) := by decide +kernel
theorem h_246_9 : mFind (mTab 246) 9 = some (9, 1, .aload_n 0, .aload 0, 0, 0, 0, 0) := by decide +kernel
theorem h_246_10 : mFind (mTab 246) 10 = some (10, 3, .getfield 320, .getfield 320, 0, 8, 5, 976) := by decide +kernel
theorem h_246_13 : mFind (mTab 246) 13 = some (13, 3, .ifCond .ne 5, .ifCond .ne 5, 0, 18, 0, 0) := by decide +kernel
theorem h_246_16 : mFind (mTab 246) 16 = some (16, 1, .iconst 0, .iconst 0, 0, 0, 0, 0) := by decide +kernel
theorem h_246_17 : mFind (mTab 246) 17 = some (17, 1, .ireturn, .ireturn, 0, 0, 0, 0) := by decide +kernel
theorem h_246_18 : mFind (mTab 246) 18 = some (18, 1, .aload_n 0, .aload 0, 0, 0, 0, 0) := by decide +kernel
theorem h_246_19 : mFind (mTab 246) 19 = some (19, 1, .iconst 1, .iconst 0, 1, 0, 0, 0) := by decide +kernel
theorem h_246_20 : mFind (mTab 246) 20 = some (20, 3, .putfield 320, .putfield 320, 0, 8, 5, 976) := by decide +kernel
theorem h_246_23 : mFind (mTab 246) 23 = some (23, 1, .iconst 0, .iconst 0, 0, 0, 0, 0) := by decide +kernel
theorem h_246_24 : mFind (mTab 246) 24 = some (24, 1, .istore_n 2, .istore 2, 0, 0, 0, 0) := by decide +kernel
theorem h_246_25 : mFind (mTab 246) 25 = some (25, 1, .iload_n 2, .iload 2, 0, 0, 0, 0) := by decide +kernel
theorem h_246_26 : mFind (mTab 246) 26 = some (26, 3, .sipush 1850, .iconst 0, 1850, 0, 0, 0) := by decide +kernel
theorem h_246_29 : mFind (mTab 246) 29 = some (29, 3, .if_icmp .ge 40, .if_icmp .ge 40, 0, 69, 0, 0) := by decide +kernel
theorem h_246_32 : mFind (mTab 246) 32 = some (32, 1, .iload_n 1, .iload 1, 0, 0, 0, 0) := by decide +kernel
theorem h_246_33 : mFind (mTab 246) 33 = some (33, 3, .ifCond .eq 18, .ifCond .eq 18, 0, 51, 0, 0) := by decide +kernel
theorem h_246_36 : mFind (mTab 246) 36 = some (36, 1, .aload_n 0, .aload 0, 0, 0, 0, 0) := by decide +kernel
theorem h_246_37 : mFind (mTab 246) 37 = some (37, 3, .getfield 16, .getfield 16, 0, 8, 6, 977) := by decide +kernel
theorem h_246_40 : mFind (mTab 246) 40 = some (40, 1, .iload_n 2, .iload 2, 0, 0, 0, 0) := by decide +kernel
theorem h_246_41 : mFind (mTab 246) 41 = some (41, 1, .aload_n 0, .aload 0, 0, 0, 0, 0) := by decide +kernel
theorem h_246_42 : mFind (mTab 246) 42 = some (42, 3, .getfield 7, .getfield 7, 0, 8, 1, 972) := by decide +kernel
theorem h_246_45 : mFind (mTab 246) 45 = some (45, 1, .iload_n 2, .iload 2, 0, 0, 0, 0) := by decide +kernel
theorem h_246_46 : mFind (mTab 246) 46 = some (46, 1, .iaload, .iaload, 0, 0, 0, 0) := by decide +kernel
theorem h_246_47 : mFind (mTab 246) 47 = some (47, 1, .iastore, .iastore, 0, 0, 0, 0) := by decide +kernel
theorem h_246_48 : mFind (mTab 246) 48 = some (48, 3, .goto 15, .goto 15, 0, 63, 0, 0) := by decide +kernel
theorem h_246_51 : mFind (mTab 246) 51 = some (51, 1, .aload_n 0, .aload 0, 0, 0, 0, 0) := by decide +kernel
theorem h_246_52 : mFind (mTab 246) 52 = some (52, 3, .getfield 7, .getfield 7, 0, 8, 1, 972) := by decide +kernel
theorem h_246_55 : mFind (mTab 246) 55 = some (55, 1, .iload_n 2, .iload 2, 0, 0, 0, 0) := by decide +kernel
theorem h_246_56 : mFind (mTab 246) 56 = some (56, 1, .aload_n 0, .aload 0, 0, 0, 0, 0) := by decide +kernel
theorem h_246_57 : mFind (mTab 246) 57 = some (57, 3, .getfield 16, .getfield 16, 0, 8, 6, 977) := by decide +kernel
theorem h_246_60 : mFind (mTab 246) 60 = some (60, 1, .iload_n 2, .iload 2, 0, 0, 0, 0) := by decide +kernel
theorem h_246_61 : mFind (mTab 246) 61 = some (61, 1, .iaload, .iaload, 0, 0, 0, 0) := by decide +kernel
theorem h_246_62 : mFind (mTab 246) 62 = some (62, 1, .iastore, .iastore, 0, 0, 0, 0) := by decide +kernel
theorem h_246_63 : mFind (mTab 246) 63 = some (63, 3, .iinc 2 1, .iinc 2 1, 1, 0, 0, 0) := by decide +kernel
theorem h_246_66 : mFind (mTab 246) 66 = some (66, 3, .goto (-41), .goto (-41), 0, 25, 0, 0) := by decide +kernel
theorem h_246_69 : mFind (mTab 246) 69 = some (69, 1, .iconst 1, .iconst 0, 1, 0, 0, 0) := by decide +kernel
theorem h_246_70 : mFind (mTab 246) 70 = some (70, 1, .ireturn, .ireturn, 0, 0, 0, 0) := by decide +kernel
