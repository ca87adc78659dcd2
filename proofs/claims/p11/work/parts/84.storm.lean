/-! ===== state and storm: STATE exactly; written by wip/box/gen84f.py ===== -/
theorem h_126_0 : mFind (mTab 126) 0 = some (0, 1, .iload_n 1, .iload 1, 0, 0, 0, 0) := mFb_eq (by decide +kernel)
theorem h_126_1 : mFind (mTab 126) 1 = some (1, 1, .iload_n 2, .iload 2, 0, 0, 0, 0) := mFb_eq (by decide +kernel)
theorem h_126_2 : mFind (mTab 126) 2 = some (2, 3, .if_icmp .lt 12, .if_icmp .lt 12, 0, 14, 0, 0) := mFb_eq (by decide +kernel)
theorem h_126_5 : mFind (mTab 126) 5 = some (5, 1, .iload_n 1, .iload 1, 0, 0, 0, 0) := mFb_eq (by decide +kernel)
theorem h_126_6 : mFind (mTab 126) 6 = some (6, 1, .iload_n 3, .iload 3, 0, 0, 0, 0) := mFb_eq (by decide +kernel)
theorem h_126_7 : mFind (mTab 126) 7 = some (7, 3, .if_icmp .gt 7, .if_icmp .gt 7, 0, 14, 0, 0) := mFb_eq (by decide +kernel)
theorem h_126_10 : mFind (mTab 126) 10 = some (10, 1, .iconst 1, .iconst 0, 1, 0, 0, 0) := mFb_eq (by decide +kernel)
theorem h_126_11 : mFind (mTab 126) 11 = some (11, 3, .goto 4, .goto 4, 0, 15, 0, 0) := mFb_eq (by decide +kernel)
theorem h_126_14 : mFind (mTab 126) 14 = some (14, 1, .iconst 0, .iconst 0, 0, 0, 0, 0) := mFb_eq (by decide +kernel)
theorem h_126_15 : mFind (mTab 126) 15 = some (15, 1, .ireturn, .ireturn, 0, 0, 0, 0) := mFb_eq (by decide +kernel)
theorem h_41_0 : mFind (mTab 41) 0 = some (0, 1, .aload_n 0, .aload 0, 0, 0, 0, 0) := mFb_eq (by decide +kernel)
theorem h_41_1 : mFind (mTab 41) 1 = some (1, 2, .ldc 207, .iconst 0, 1664525, 0, 0, 606) := mFb_eq (by decide +kernel)
theorem h_41_3 : mFind (mTab 41) 3 = some (3, 1, .aload_n 0, .aload 0, 0, 0, 0, 0) := mFb_eq (by decide +kernel)
theorem h_41_4 : mFind (mTab 41) 4 = some (4, 3, .getfield 75, .getfield 75, 0, 3, 2, 379) := mFb_eq (by decide +kernel)
theorem h_41_7 : mFind (mTab 41) 7 = some (7, 1, .imul, .imul, 0, 0, 0, 0) := mFb_eq (by decide +kernel)
theorem h_41_8 : mFind (mTab 41) 8 = some (8, 2, .ldc 208, .iconst 0, 1013904223, 0, 0, 607) := mFb_eq (by decide +kernel)
theorem h_41_10 : mFind (mTab 41) 10 = some (10, 1, .iadd, .iadd, 0, 0, 0, 0) := mFb_eq (by decide +kernel)
theorem h_41_11 : mFind (mTab 41) 11 = some (11, 3, .putfield 75, .putfield 75, 0, 3, 2, 379) := mFb_eq (by decide +kernel)
theorem h_41_14 : mFind (mTab 41) 14 = some (14, 1, .iload_n 1, .iload 1, 0, 0, 0, 0) := mFb_eq (by decide +kernel)
theorem h_41_15 : mFind (mTab 41) 15 = some (15, 3, .ifCond .le 15, .ifCond .le 15, 0, 30, 0, 0) := mFb_eq (by decide +kernel)
theorem h_41_18 : mFind (mTab 41) 18 = some (18, 1, .aload_n 0, .aload 0, 0, 0, 0, 0) := mFb_eq (by decide +kernel)
theorem h_41_19 : mFind (mTab 41) 19 = some (19, 3, .getfield 75, .getfield 75, 0, 3, 2, 379) := mFb_eq (by decide +kernel)
theorem h_41_22 : mFind (mTab 41) 22 = some (22, 2, .bipush 8, .iconst 0, 8, 0, 0, 0) := mFb_eq (by decide +kernel)
theorem h_41_24 : mFind (mTab 41) 24 = some (24, 1, .iushr, .iushr, 0, 0, 0, 0) := mFb_eq (by decide +kernel)
theorem h_41_25 : mFind (mTab 41) 25 = some (25, 1, .iload_n 1, .iload 1, 0, 0, 0, 0) := mFb_eq (by decide +kernel)
theorem h_41_26 : mFind (mTab 41) 26 = some (26, 1, .irem, .irem, 0, 0, 0, 0) := mFb_eq (by decide +kernel)
theorem h_41_27 : mFind (mTab 41) 27 = some (27, 3, .goto 4, .goto 4, 0, 31, 0, 0) := mFb_eq (by decide +kernel)
theorem h_41_30 : mFind (mTab 41) 30 = some (30, 1, .iconst 0, .iconst 0, 0, 0, 0, 0) := mFb_eq (by decide +kernel)
theorem h_41_31 : mFind (mTab 41) 31 = some (31, 1, .ireturn, .ireturn, 0, 0, 0, 0) := mFb_eq (by decide +kernel)
theorem h_210_0 : mFind (mTab 210) 0 = some (0, 1, .aload_n 0, .aload 0, 0, 0, 0, 0) := mFb_eq (by decide +kernel)
theorem h_210_1 : mFind (mTab 210) 1 = some (1, 3, .getfield 7, .getfield 7, 0, 8, 1, 972) := mFb_eq (by decide +kernel)
theorem h_210_4 : mFind (mTab 210) 4 = some (4, 2, .bipush 8, .iconst 0, 8, 0, 0, 0) := mFb_eq (by decide +kernel)
theorem h_210_6 : mFind (mTab 210) 6 = some (6, 2, .ldc 254, .iconst 0, 1664525, 0, 0, 1337) := mFb_eq (by decide +kernel)
theorem h_210_8 : mFind (mTab 210) 8 = some (8, 1, .aload_n 0, .aload 0, 0, 0, 0, 0) := mFb_eq (by decide +kernel)
theorem h_210_9 : mFind (mTab 210) 9 = some (9, 3, .getfield 7, .getfield 7, 0, 8, 1, 972) := mFb_eq (by decide +kernel)
theorem h_210_12 : mFind (mTab 210) 12 = some (12, 2, .bipush 8, .iconst 0, 8, 0, 0, 0) := mFb_eq (by decide +kernel)
theorem h_210_14 : mFind (mTab 210) 14 = some (14, 1, .iaload, .iaload, 0, 0, 0, 0) := mFb_eq (by decide +kernel)
theorem h_210_15 : mFind (mTab 210) 15 = some (15, 1, .imul, .imul, 0, 0, 0, 0) := mFb_eq (by decide +kernel)
theorem h_210_16 : mFind (mTab 210) 16 = some (16, 2, .ldc 255, .iconst 0, 1013904223, 0, 0, 1338) := mFb_eq (by decide +kernel)
theorem h_210_18 : mFind (mTab 210) 18 = some (18, 1, .iadd, .iadd, 0, 0, 0, 0) := mFb_eq (by decide +kernel)
theorem h_210_19 : mFind (mTab 210) 19 = some (19, 1, .iastore, .iastore, 0, 0, 0, 0) := mFb_eq (by decide +kernel)
theorem h_210_20 : mFind (mTab 210) 20 = some (20, 1, .aload_n 0, .aload 0, 0, 0, 0, 0) := mFb_eq (by decide +kernel)
theorem h_210_21 : mFind (mTab 210) 21 = some (21, 3, .getfield 7, .getfield 7, 0, 8, 1, 972) := mFb_eq (by decide +kernel)
theorem h_210_24 : mFind (mTab 210) 24 = some (24, 2, .bipush 8, .iconst 0, 8, 0, 0, 0) := mFb_eq (by decide +kernel)
theorem h_210_26 : mFind (mTab 210) 26 = some (26, 1, .iaload, .iaload, 0, 0, 0, 0) := mFb_eq (by decide +kernel)
theorem h_210_27 : mFind (mTab 210) 27 = some (27, 2, .bipush 8, .iconst 0, 8, 0, 0, 0) := mFb_eq (by decide +kernel)
theorem h_210_29 : mFind (mTab 210) 29 = some (29, 1, .iushr, .iushr, 0, 0, 0, 0) := mFb_eq (by decide +kernel)
theorem h_210_30 : mFind (mTab 210) 30 = some (30, 1, .iload_n 1, .iload 1, 0, 0, 0, 0) := mFb_eq (by decide +kernel)
theorem h_210_31 : mFind (mTab 210) 31 = some (31, 1, .irem, .irem, 0, 0, 0, 0) := mFb_eq (by decide +kernel)
theorem h_210_32 : mFind (mTab 210) 32 = some (32, 1, .ireturn, .ireturn, 0, 0, 0, 0) := mFb_eq (by decide +kernel)
theorem h_99_0 : mFind (mTab 99) 0 = some (0, 1, .aload_n 0, .aload 0, 0, 0, 0, 0) := mFb_eq (by decide +kernel)
theorem h_99_1 : mFind (mTab 99) 1 = some (1, 3, .getfield 12, .getfield 12, 0, 7, 0, 427) := mFb_eq (by decide +kernel)
theorem h_99_4 : mFind (mTab 99) 4 = some (4, 3, .getfield 140, .getfield 140, 0, 3, 2, 380) := mFb_eq (by decide +kernel)
theorem h_99_7 : mFind (mTab 99) 7 = some (7, 1, .istore_n 2, .istore 2, 0, 0, 0, 0) := mFb_eq (by decide +kernel)
theorem h_99_8 : mFind (mTab 99) 8 = some (8, 1, .aload_n 0, .aload 0, 0, 0, 0, 0) := mFb_eq (by decide +kernel)
theorem h_99_9 : mFind (mTab 99) 9 = some (9, 3, .getfield 12, .getfield 12, 0, 7, 0, 427) := mFb_eq (by decide +kernel)
theorem h_99_12 : mFind (mTab 99) 12 = some (12, 1, .iload_n 1, .iload 1, 0, 0, 0, 0) := mFb_eq (by decide +kernel)
theorem h_99_13 : mFind (mTab 99) 13 = some (13, 3, .putfield 140, .putfield 140, 0, 3, 2, 380) := mFb_eq (by decide +kernel)
theorem h_99_16 : mFind (mTab 99) 16 = some (16, 1, .iload_n 2, .iload 2, 0, 0, 0, 0) := mFb_eq (by decide +kernel)
theorem h_99_17 : mFind (mTab 99) 17 = some (17, 1, .ireturn, .ireturn, 0, 0, 0, 0) := mFb_eq (by decide +kernel)
theorem h_209_0 : mFind (mTab 209) 0 = some (0, 1, .aload_n 0, .aload 0, 0, 0, 0, 0) := mFb_eq (by decide +kernel)
theorem h_209_1 : mFind (mTab 209) 1 = some (1, 1, .iconst 0, .iconst 0, 0, 0, 0, 0) := mFb_eq (by decide +kernel)
theorem h_209_2 : mFind (mTab 209) 2 = some (2, 3, .putfield 19, .putfield 19, 0, 8, 0, 971) := mFb_eq (by decide +kernel)
theorem h_209_5 : mFind (mTab 209) 5 = some (5, 1, .aload_n 0, .aload 0, 0, 0, 0, 0) := mFb_eq (by decide +kernel)
theorem h_209_6 : mFind (mTab 209) 6 = some (6, 3, .getfield 7, .getfield 7, 0, 8, 1, 972) := mFb_eq (by decide +kernel)
theorem h_209_9 : mFind (mTab 209) 9 = some (9, 2, .bipush 8, .iconst 0, 8, 0, 0, 0) := mFb_eq (by decide +kernel)
theorem h_209_11 : mFind (mTab 209) 11 = some (11, 1, .iaload, .iaload, 0, 0, 0, 0) := mFb_eq (by decide +kernel)
theorem h_209_12 : mFind (mTab 209) 12 = some (12, 1, .istore_n 2, .istore 2, 0, 0, 0, 0) := mFb_eq (by decide +kernel)
theorem h_209_13 : mFind (mTab 209) 13 = some (13, 1, .aload_n 0, .aload 0, 0, 0, 0, 0) := mFb_eq (by decide +kernel)
theorem h_209_14 : mFind (mTab 209) 14 = some (14, 3, .getfield 7, .getfield 7, 0, 8, 1, 972) := mFb_eq (by decide +kernel)
theorem h_209_17 : mFind (mTab 209) 17 = some (17, 2, .bipush 8, .iconst 0, 8, 0, 0, 0) := mFb_eq (by decide +kernel)
theorem h_209_19 : mFind (mTab 209) 19 = some (19, 1, .iload_n 1, .iload 1, 0, 0, 0, 0) := mFb_eq (by decide +kernel)
theorem h_209_20 : mFind (mTab 209) 20 = some (20, 1, .iastore, .iastore, 0, 0, 0, 0) := mFb_eq (by decide +kernel)
theorem h_209_21 : mFind (mTab 209) 21 = some (21, 1, .iload_n 2, .iload 2, 0, 0, 0, 0) := mFb_eq (by decide +kernel)
theorem h_209_22 : mFind (mTab 209) 22 = some (22, 1, .ireturn, .ireturn, 0, 0, 0, 0) := mFb_eq (by decide +kernel)
theorem h_100_0 : mFind (mTab 100) 0 = some (0, 1, .iload_n 1, .iload 1, 0, 0, 0, 0) := mFb_eq (by decide +kernel)
theorem h_100_1 : mFind (mTab 100) 1 = some (1, 1, .iconst 1, .iconst 0, 1, 0, 0, 0) := mFb_eq (by decide +kernel)
theorem h_100_2 : mFind (mTab 100) 2 = some (2, 3, .if_icmp .lt 9, .if_icmp .lt 9, 0, 11, 0, 0) := mFb_eq (by decide +kernel)
theorem h_100_5 : mFind (mTab 100) 5 = some (5, 1, .iload_n 1, .iload 1, 0, 0, 0, 0) := mFb_eq (by decide +kernel)
theorem h_100_6 : mFind (mTab 100) 6 = some (6, 2, .bipush 30, .iconst 0, 30, 0, 0, 0) := mFb_eq (by decide +kernel)
theorem h_100_8 : mFind (mTab 100) 8 = some (8, 3, .if_icmp .le 5, .if_icmp .le 5, 0, 13, 0, 0) := mFb_eq (by decide +kernel)
theorem h_100_11 : mFind (mTab 100) 11 = some (11, 1, .iconst (-1), .iconst 0, (-1), 0, 0, 0) := mFb_eq (by decide +kernel)
theorem h_100_12 : mFind (mTab 100) 12 = some (12, 1, .ireturn, .ireturn, 0, 0, 0, 0) := mFb_eq (by decide +kernel)
theorem h_100_13 : mFind (mTab 100) 13 = some (13, 1, .iconst 0, .iconst 0, 0, 0, 0, 0) := mFb_eq (by decide +kernel)
theorem h_100_14 : mFind (mTab 100) 14 = some (14, 1, .istore_n 2, .istore 2, 0, 0, 0, 0) := mFb_eq (by decide +kernel)
theorem h_100_15 : mFind (mTab 100) 15 = some (15, 1, .iconst 0, .iconst 0, 0, 0, 0, 0) := mFb_eq (by decide +kernel)
theorem h_100_16 : mFind (mTab 100) 16 = some (16, 1, .istore_n 3, .istore 3, 0, 0, 0, 0) := mFb_eq (by decide +kernel)
theorem h_100_17 : mFind (mTab 100) 17 = some (17, 1, .iload_n 3, .iload 3, 0, 0, 0, 0) := mFb_eq (by decide +kernel)
theorem h_100_18 : mFind (mTab 100) 18 = some (18, 1, .iload_n 1, .iload 1, 0, 0, 0, 0) := mFb_eq (by decide +kernel)
theorem h_100_19 : mFind (mTab 100) 19 = some (19, 3, .if_icmp .ge 130, .if_icmp .ge 130, 0, 149, 0, 0) := mFb_eq (by decide +kernel)
theorem h_100_33 : mFind (mTab 100) 33 = some (33, 3, .invokevirtual 143, .invokevirtual 143, 0, 41, 3, 602) := mFb_eq (by decide +kernel)
theorem h_100_51 : mFind (mTab 100) 51 = some (51, 3, .invokevirtual 143, .invokevirtual 143, 0, 41, 3, 602) := mFb_eq (by decide +kernel)
theorem h_100_79 : mFind (mTab 100) 79 = some (79, 3, .invokevirtual 143, .invokevirtual 143, 0, 41, 3, 602) := mFb_eq (by decide +kernel)
theorem h_100_99 : mFind (mTab 100) 99 = some (99, 3, .invokevirtual 143, .invokevirtual 143, 0, 41, 3, 602) := mFb_eq (by decide +kernel)
theorem h_100_143 : mFind (mTab 100) 143 = some (143, 3, .iinc 3 1, .iinc 3 1, 1, 0, 0, 0) := mFb_eq (by decide +kernel)
theorem h_100_146 : mFind (mTab 100) 146 = some (146, 3, .goto (-129), .goto (-129), 0, 17, 0, 0) := mFb_eq (by decide +kernel)
theorem h_100_149 : mFind (mTab 100) 149 = some (149, 1, .iload_n 2, .iload 2, 0, 0, 0, 0) := mFb_eq (by decide +kernel)
theorem h_100_150 : mFind (mTab 100) 150 = some (150, 1, .ireturn, .ireturn, 0, 0, 0, 0) := mFb_eq (by decide +kernel)
theorem h_211_0 : mFind (mTab 211) 0 = some (0, 1, .aload_n 0, .aload 0, 0, 0, 0, 0) := mFb_eq (by decide +kernel)
theorem h_211_1 : mFind (mTab 211) 1 = some (1, 1, .iconst 0, .iconst 0, 0, 0, 0, 0) := mFb_eq (by decide +kernel)
theorem h_211_2 : mFind (mTab 211) 2 = some (2, 3, .putfield 19, .putfield 19, 0, 8, 0, 971) := mFb_eq (by decide +kernel)
theorem h_211_5 : mFind (mTab 211) 5 = some (5, 1, .aload_n 0, .aload 0, 0, 0, 0, 0) := mFb_eq (by decide +kernel)
theorem h_211_6 : mFind (mTab 211) 6 = some (6, 1, .iload_n 1, .iload 1, 0, 0, 0, 0) := mFb_eq (by decide +kernel)
theorem h_211_7 : mFind (mTab 211) 7 = some (7, 1, .iconst 1, .iconst 0, 1, 0, 0, 0) := mFb_eq (by decide +kernel)
theorem h_211_8 : mFind (mTab 211) 8 = some (8, 2, .bipush 30, .iconst 0, 30, 0, 0, 0) := mFb_eq (by decide +kernel)
theorem h_211_10 : mFind (mTab 211) 10 = some (10, 3, .invokevirtual 71, .invokevirtual 71, 0, 126, 8, 997) := mFb_eq (by decide +kernel)
theorem h_211_13 : mFind (mTab 211) 13 = some (13, 3, .ifCond .ne 5, .ifCond .ne 5, 0, 18, 0, 0) := mFb_eq (by decide +kernel)
theorem h_211_16 : mFind (mTab 211) 16 = some (16, 1, .iconst (-1), .iconst 0, (-1), 0, 0, 0) := mFb_eq (by decide +kernel)
theorem h_211_17 : mFind (mTab 211) 17 = some (17, 1, .ireturn, .ireturn, 0, 0, 0, 0) := mFb_eq (by decide +kernel)
theorem h_211_18 : mFind (mTab 211) 18 = some (18, 1, .iconst 0, .iconst 0, 0, 0, 0, 0) := mFb_eq (by decide +kernel)
theorem h_211_19 : mFind (mTab 211) 19 = some (19, 1, .istore_n 2, .istore 2, 0, 0, 0, 0) := mFb_eq (by decide +kernel)
theorem h_211_20 : mFind (mTab 211) 20 = some (20, 1, .iconst 0, .iconst 0, 0, 0, 0, 0) := mFb_eq (by decide +kernel)
theorem h_211_21 : mFind (mTab 211) 21 = some (21, 1, .istore_n 3, .istore 3, 0, 0, 0, 0) := mFb_eq (by decide +kernel)
theorem h_211_22 : mFind (mTab 211) 22 = some (22, 1, .iload_n 3, .iload 3, 0, 0, 0, 0) := mFb_eq (by decide +kernel)
theorem h_211_23 : mFind (mTab 211) 23 = some (23, 1, .iload_n 1, .iload 1, 0, 0, 0, 0) := mFb_eq (by decide +kernel)
theorem h_211_24 : mFind (mTab 211) 24 = some (24, 3, .if_icmp .ge 87, .if_icmp .ge 87, 0, 111, 0, 0) := mFb_eq (by decide +kernel)
theorem h_211_32 : mFind (mTab 211) 32 = some (32, 3, .invokevirtual 256, .invokevirtual 256, 0, 210, 8, 1333) := mFb_eq (by decide +kernel)
theorem h_211_44 : mFind (mTab 211) 44 = some (44, 3, .invokevirtual 256, .invokevirtual 256, 0, 210, 8, 1333) := mFb_eq (by decide +kernel)
theorem h_211_52 : mFind (mTab 211) 52 = some (52, 3, .invokevirtual 256, .invokevirtual 256, 0, 210, 8, 1333) := mFb_eq (by decide +kernel)
theorem h_211_65 : mFind (mTab 211) 65 = some (65, 3, .invokevirtual 256, .invokevirtual 256, 0, 210, 8, 1333) := mFb_eq (by decide +kernel)
theorem h_211_105 : mFind (mTab 211) 105 = some (105, 3, .iinc 3 1, .iinc 3 1, 1, 0, 0, 0) := mFb_eq (by decide +kernel)
theorem h_211_108 : mFind (mTab 211) 108 = some (108, 3, .goto (-86), .goto (-86), 0, 22, 0, 0) := mFb_eq (by decide +kernel)
theorem h_211_111 : mFind (mTab 211) 111 = some (111, 1, .iload_n 2, .iload 2, 0, 0, 0, 0) := mFb_eq (by decide +kernel)
theorem h_211_112 : mFind (mTab 211) 112 = some (112, 1, .ireturn, .ireturn, 0, 0, 0, 0) := mFb_eq (by decide +kernel)
noncomputable def sLcg (s : Int32) : Int32 := Int32.ofInt 1664525 * s + Int32.ofInt 1013904223
noncomputable def sIter {α : Type} (f : α → α) : Nat → α → α
  | 0, s => s
  | d + 1, s => sIter f d (f s)
theorem sIter_0 {α : Type} (f : α → α) (s : α) : sIter f 0 s = s := by rw [sIter]
theorem sIter_s {α : Type} (f : α → α) (d : Nat) (s : α) : sIter f (d + 1) s = sIter f d (f s) := by rw [sIter]
noncomputable def sTurn (s : Int32) : Int32 := sLcg (sLcg (sLcg (sLcg s)))
theorem sTurn_eq (s : Int32) : sTurn s = sLcg (sLcg (sLcg (sLcg s))) := by unfold sTurn; rfl
section YS0
variable {T : Nat → List mE} {I : Nat → mI} {XN : Nat → Nat} {XF : Nat → Nat → Int32} {fr lo mi pc len : Nat} {ri : ClassFile.Instr} {v : Int} {r1 r2 wi : Nat} {L : List (Nat × Value)} {S : List Value} {M : mMem} {r : Option Value × mMem}
theorem st_iushr {x y : Int32} (he : mFind (T mi) pc = some (pc, len, ri, .iushr, v, r1, r2, wi)) (k : mRuns T I XN XF fr lo mi (pc + len, L, .int ((x.toUInt32 >>> (y.toUInt32 &&& Int32.toUInt32 31)).toInt32) :: S, M) r) : mRuns T I XN XF fr lo mi (pc, L, .int y :: .int x :: S, M) r := st_0 he (fun _ => rfl) k
theorem st_irem {x y : Int32} (he : mFind (T mi) pc = some (pc, len, ri, .irem, v, r1, r2, wi)) (h : (!decide (y = 0)) = true) (k : mRuns T I XN XF fr lo mi (pc + len, L, .int (x - x / y * y) :: S, M) r) : mRuns T I XN XF fr lo mi (pc, L, .int y :: .int x :: S, M) r := st_0 he (fun _ => (mWhen_t h).trans rfl) k
end YS0
noncomputable def tK (k : Nat) : Int × Int := ((k : Int), (k : Int))
noncomputable def tV : zW := zRw zRx fun _ => []
noncomputable def tQ : zW := zRw zRx zQt
theorem zGood_room {N : mMem} (hg : zGood zR9 N) : zRoom zR9 0 N := fun key hk hw => by
  obtain ⟨q, hq⟩ := (zRw_ok zRx (fun _ => [])).2.2.2.1 key hw
  obtain ⟨x, hx, -, -⟩ := hg.2.1 key hk _ hq
  have := x.toInt_lt
  exact ⟨x, hx, by omega⟩
noncomputable def tA : zA := (0, (0, zR32))
noncomputable def tR1 : zA := (2, (1, (0, 0)))
noncomputable def tL0 (v : zL) (rest : List (Nat × zL)) : List (Nat × zL) := [(0, v), (1, (0, (0, zR32))), (2, (0, (0, zR32))), (3, (0, (0, zR32)))] ++ rest
noncomputable def tN (q : Nat) : Int × Int := (0, (q : Int))
noncomputable def tL7 : zL := (2, (0, (0, 0)))
theorem lb_stormS : zClB 100 [(2, (0, (0, 0))), tA] (some (false, zR32)) 3 = true := by decide +kernel
theorem lm_stormS : (List.range 8).all (zPubB 211 [z525, tA] (some (false, zR32)) 3) = true := by decide +kernel
theorem lb_stateS : zClB 99 [(2, (0, (0, 0))), tA] (some (false, zR32)) 3 = true := by decide +kernel
theorem lm_stateS : (List.range 8).all (zPubB 209 [z525, tA] (some (false, zR32)) 3) = true := by decide +kernel
set_option maxRecDepth 100000 in
theorem y41_B : (List.range 8).all (fun q => zSeg zC0 (3, (0, false)) 41 9 200 0 [(0, (2, (1, (0, 0)))), (1, (0, (0, tK (q + 1))))] [] [] [] (some (some (false, tN q), []))) = true := by decide +kernel
noncomputable def tMs : List (Int × Int) := [(1, 1), (2, 2), (3, 3), (4, 4), (5, 5), (6, 6), (7, 7), (8, 8), (1, 50)]
set_option maxRecDepth 100000 in
theorem y210_B : tMs.all (fun m => zSeg tV (3, (0, false)) 210 9 200 0 [(0, z525), (1, (0, (0, m)))] [] [] [] (some (some (false, (0, m.2 - 1)), []))) = true := by decide +kernel
set_option maxRecDepth 100000 in
theorem y100_A : (List.range 7).all (fun q => zSeg zCQ (0, (0, false)) 100 10 300 22 (tL0 tL7 []) [] [(2048, (0, (0, tK (q + 2))))] [(33, ([(0, tL7)], ([(0, (0, tK (q + 2))), tR1], ([1, 2, 3], []))))] none &&
  (zSeg zCQ (0, (0, false)) 100 10 300 36 (tL0 tL7 []) [(0, (0, tN (q + 1)))] [(2048, (0, (0, tK (q + 2))))] [(51, ([(0, tL7), (4, (0, (0, tN (q + 1))))], ([(0, (0, tK (q + 1))), tR1], ([1, 2, 3], []))))] none &&
  (zSeg zCQ (0, (0, false)) 100 10 300 54 (tL0 tL7 [(4, (0, (0, tN (q + 1))))]) [(0, (0, tN q))] [(2048, (0, (0, tK (q + 2))))] [(79, ([(0, tL7), (4, (0, (0, tN (q + 1)))), (6, (0, (0, tN (q + 1))))], ([(0, (0, (3, 3))), tR1], ([1, 2, 3], []))))] none &&
  (zSeg zCQ (0, (0, false)) 100 10 300 82 (tL0 tL7 [(4, (0, (0, tN (q + 1)))), (6, (0, (0, tN (q + 1))))]) [tA] [(2048, (0, (0, tK (q + 2))))] [(99, ([(0, tL7), (4, (0, (0, tN (q + 1)))), (6, (0, (0, tN (q + 1)))), (7, (0, (0, zR32)))], ([tA, tR1], ([1, 2, 3], []))))] none &&
  zSeg zCQ (0, (0, false)) 100 10 300 102 (tL0 tL7 [(4, (0, (0, tN (q + 1)))), (6, (0, (0, tN (q + 1)))), (7, (0, (0, zR32)))]) [tA] [(2048, (0, (0, tK (q + 2))))] [(143, ([(0, tL7), (2, (0, (0, zR32)))], ([], ([1, 3], []))))] none)))) = true := by decide +kernel
set_option maxRecDepth 100000 in
theorem y211_A : (List.range 7).all (fun q => zSeg tQ (0, (0, false)) 211 10 300 27 (tL0 z525 []) [] [(1077254, (0, (0, ((q : Int) - 1, (q : Int) - 1))))] [(32, ([(0, z525)], ([(0, (0, tK (q + 2))), z525], ([1, 2, 3], []))))] none &&
  (zSeg tQ (0, (0, false)) 211 10 300 35 (tL0 z525 []) [(0, (0, tN (q + 1)))] [(1077254, (0, (0, ((q : Int) - 1, (q : Int) - 1))))] [(44, ([(0, z525), (4, (0, (0, tN (q + 1))))], ([(0, (0, tK (q + 1))), z525], ([1, 2, 3], []))))] none &&
  (zSeg tQ (0, (0, false)) 211 10 300 47 (tL0 z525 [(4, (0, (0, tN (q + 1))))]) [(0, (0, tN q))] [(1077254, (0, (0, ((q : Int) - 1, (q : Int) - 1))))] [(52, ([(0, z525), (4, (0, (0, tN (q + 1)))), (5, (0, (0, tN q)))], ([(0, (0, (3, 3))), z525, (0, (0, (1, 1)))], ([1, 2, 3], []))))] none &&
  (zSeg tQ (0, (0, false)) 211 10 300 55 (tL0 z525 [(4, (0, (0, tN (q + 1)))), (5, (0, (0, tN q)))]) [tA, (0, (0, (1, 1)))] [(1077254, (0, (0, ((q : Int) - 1, (q : Int) - 1))))] [(65, ([(0, z525), (4, (0, (0, tN (q + 1)))), (5, (0, (0, tN q))), (6, (0, (0, zR32)))], ([(0, (0, (1, 50))), z525, (0, (0, (1, 1)))], ([1, 2, 3], []))))] none &&
  zSeg tQ (0, (0, false)) 211 10 300 68 (tL0 z525 [(4, (0, (0, tN (q + 1)))), (5, (0, (0, tN q))), (6, (0, (0, zR32)))]) [tA, (0, (0, (1, 1)))] [(1077254, (0, (0, ((q : Int) - 1, (q : Int) - 1))))] [(105, ([(0, z525), (2, (0, (0, zR32)))], ([], ([1, 3], []))))] none)))) = true := by decide +kernel
section YSM
variable {xs : Nat → Int32} {L : Nat}
/-- a straight piece of the class -/
theorem cSg {mi pc : Nat} {ls cs : List (Nat × zL)} {ss : List zA} {p : zQs} {N : mMem} {Nl : List (Nat × Value)} {V : List Value} (HC : ∀ mi, ∀ i ∈ zCt mi, zVal zC0 zXt mTab mInf (sXNl L) (sXF xs) mi i) (w : zSeg zCQ (0, (0, false)) mi 10 300 pc ls ss cs [p] none = true) (hg : zGood zC0 N) (hl : ∀ q ∈ ls, ∃ v, mLk Nl q.1 = some v ∧ zLv [] q.2 v) (hs : sAll zArV ss V) (hc : ∀ q ∈ cs, zLv [] q.2 (mAtk N q.1)) :
    ∃ Nl2 V2 N2, zPost zCQ zXt (0, (0, false)) Nl N p Nl2 V2 N2 ∧ ∀ z, mRuns mTab mInf (sXNl L) (sXF xs) 10 300 mi (p.1, Nl2, V2, N2) z → mRuns mTab mInf (sXNl L) (sXF xs) 10 300 mi (pc, Nl, V, N) z := by
  rcases zSeg_snd (R := (0, (0, false))) (X := zXt) (N := N) (V := V) (Nl := Nl) (XN := sXNl L) (XF := sXF xs) w (zCw_ok _) (zXt_ok _ _) HC (zSx_x xs L) trivial hg (fun key _ h => by cases h) hl hs hc with ⟨p', hpm, Nl2, V2, N2, h1, h2⟩ | ⟨rt, hrt, -⟩
  · obtain rfl := List.mem_singleton.mp hpm
    exact ⟨Nl2, V2, N2, h1, h2⟩
  · cases hrt
theorem mSg {mi pc : Nat} {ls cs : List (Nat × zL)} {ss : List zA} {p : zQs} {N : mMem} {Nl : List (Nat × Value)} {V : List Value} (H : ∀ mi, ∀ i ∈ zQt mi, zVal zR9 zXp mTab mInf (sXNl L) (sXF xs) mi i) (w : zSeg tQ (0, (0, false)) mi 10 300 pc ls ss cs [p] none = true) (hg : zGood zR9 N) (hp : zPm N) (hl : ∀ q ∈ ls, ∃ v, mLk Nl q.1 = some v ∧ zLv [] q.2 v) (hs : sAll zArV ss V) (hc : ∀ q ∈ cs, zLv [] q.2 (mAtk N q.1)) :
    ∃ Nl2 V2 N2, zPost tQ zXp (0, (0, false)) Nl N p Nl2 V2 N2 ∧ ∀ z, mRuns mTab mInf (sXNl L) (sXF xs) 10 300 mi (p.1, Nl2, V2, N2) z → mRuns mTab mInf (sXNl L) (sXF xs) 10 300 mi (pc, Nl, V, N) z := by
  rcases zSeg_snd (R := (0, (0, false))) (X := zXp) (N := N) (V := V) (Nl := Nl) (XN := sXNl L) (XF := sXF xs) w (zRw_ok _ _) zXp_ok (fun mi i hi => H mi i hi) (zSx_x xs L) ⟨hp, hp⟩ hg (zGood_room hg) hl hs hc with ⟨p', hpm, Nl2, V2, N2, h1, h2⟩ | ⟨rt, hrt, -⟩
  · obtain rfl := List.mem_singleton.mp hpm
    exact ⟨Nl2, V2, N2, h1, h2⟩
  · cases hrt
/-- a draw of the class -/
theorem y41 {N : mMem} (hg : zGood zC0 N) {s : Int32} (hs : mAtk N 2050 = .int s) (m : Int32) :
    ∃ v N1, mRuns mTab mInf (sXNl L) (sXF xs) 9 200 41 (0, lv_args 0 [.ref 1, .int m], [], N) (some (.int v), N1) ∧ zGood zC0 N1 ∧ mAtk N1 2050 = .int (sLcg s) ∧ (∀ key, key < 2097152 → key ≠ 2050 → mAtk N1 key = mAtk N key) ∧ ∀ q, q < 8 → m.toInt = ((q + 1 : Nat) : Int) → 0 ≤ v.toInt ∧ v.toInt ≤ (q : Int) := by
  have c1 := cRing hg (o := 1) (.inl rfl)
  have hs2 := hs
  rw [show 2050 = 1 * 2048 + 2 by decide, mAtk_key N (by omega)] at hs2
  obtain ⟨N1, e1⟩ : ∃ N1, N1 = mPut N 1 (mCset (mObj N 1) 2 (.int (sLcg s))) := ⟨_, rfl⟩
  have g1 : zGood zC0 N1 := by rw [e1]; exact cGood_put hg (.inl rfl) (by omega) (fun h => by omega)
  have u1 : mAtk N1 2050 = .int (sLcg s) := by
    rw [e1, mAtk_put (by omega) (by omega) (by decide)]
    exact if_pos (by decide)
  have u2 := u1
  rw [show 2050 = 1 * 2048 + 2 by decide, mAtk_key N1 (by omega)] at u2
  have d1 := cRing g1 (o := 1) (.inl rfl)
  have run : ∃ v, mRuns mTab mInf (sXNl L) (sXF xs) 9 200 41 (0, lv_args 0 [.ref 1, .int m], [], N) (some (.int v), N1) := by
    have front : ∀ z, mRuns mTab mInf (sXNl L) (sXF xs) 9 200 41 (14, lv_args 0 [.ref 1, .int m], [], N1) z → mRuns mTab mInf (sXNl L) (sXF xs) 9 200 41 (0, lv_args 0 [.ref 1, .int m], [], N) z := fun z hz => by
      refine st_aload h_41_0 (by rfl) ?_
      refine st_iconst h_41_1 ?_
      refine st_aload h_41_3 (by rfl) ?_
      refine st_getfield h_41_4 c1.1 c1.2.1 (by rw [c1.2.2]; rfl) hs2 ?_
      refine st_imul h_41_7 ?_
      refine st_iconst h_41_8 ?_
      refine st_iadd h_41_10 ?_
      refine st_putfield h_41_11 c1.1 c1.2.1 (by rw [c1.2.2]; rfl) (by rw [c1.2.2]; rfl) (by rfl) ?_
      rw [show Int32.ofInt 1664525 * s + Int32.ofInt 1013904223 = sLcg s from rfl, ← e1]
      exact hz
    by_cases c : m.toInt ≤ 0
    · refine ⟨Int32.ofInt 0, front _ ?_⟩
      refine st_iload h_41_14 (by rfl) ?_
      refine st_if h_41_15 ?_
      rw [show mIf .le m 0 = true from decide_eq_true (by rw [Int32.le_iff_toInt_le]; exact c), cond_true]
      refine st_iconst h_41_30 ?_
      exact st_ireturn h_41_31 (ty := .int) rfl rfl
    · apply Exists.intro
      refine front _ ?_
      refine st_iload h_41_14 (by rfl) ?_
      refine st_if h_41_15 ?_
      rw [show mIf .le m 0 = false from decide_eq_false (by rw [Int32.le_iff_toInt_le]; exact c), cond_false]
      refine st_aload h_41_18 (by rfl) ?_
      refine st_getfield h_41_19 d1.1 d1.2.1 (by rw [d1.2.2]; rfl) u2 ?_
      refine st_iconst h_41_22 ?_
      refine st_iushr h_41_24 ?_
      refine st_iload h_41_25 (by rfl) ?_
      refine st_irem h_41_26 (by
        rw [decide_eq_false (fun e => c (by rw [e]; decide))]
        rfl) ?_
      refine st_goto h_41_27 ?_
      exact st_ireturn h_41_31 (ty := .int) rfl rfl
  obtain ⟨v, hv⟩ := run
  refine ⟨v, N1, hv, g1, u1, fun key a d => by rw [e1, mAtk_put (by omega) (by omega) a, if_neg (by omega)], fun q hq hm => ?_⟩
  rcases zSeg_snd (R := (3, (0, false))) (X := zXt) (N := N) (V := []) (Nl := lv_args 0 [.ref 1, .int m]) (XN := sXNl L) (XF := sXF xs) (List.all_eq_true.mp y41_B q (List.mem_range.mpr hq)) (zCw_ok _) (zXt_ok _ _) (fun _ _ h => by cases h) (zSx_x xs L) trivial hg (fun key _ h => by cases h) (fun p hp => by
      simp only [List.mem_cons, List.not_mem_nil, or_false] at hp
      rcases hp with rfl | rfl
      · exact ⟨.ref 1, rfl, rfl⟩
      · exact ⟨.int m, rfl, m, rfl, by show ((q + 1 : Nat) : Int) ≤ _; omega, by show _ ≤ ((q + 1 : Nat) : Int); omega⟩) trivial (fun q hq => by cases hq) with ⟨p, hpm, -⟩ | ⟨rt, hrt, z, z1, z2, z3, z4, -⟩
  · cases hpm
  · cases hrt
    have ez := mRuns_one z1 hv
    obtain ⟨x, hx, q1, q2⟩ := z4
    rw [ez] at hx
    have hx : some (Value.int v) = some (.int x) := hx
    have ex : v = x := Value.int.inj (Option.some.inj hx)
    subst ex
    exact ⟨q1, q2⟩
/-- a draw of the check -/
theorem y210 {N : mMem} (hg : zGood zR9 N) (hp : zPm N) {s : Int32} (hs : mAtk N 1077256 = .int s) (m : Int32) {q : Int × Int} (hq : q ∈ tMs) (h1 : q.1 ≤ m.toInt) (h2 : m.toInt ≤ q.2) :
    ∃ v N1, mRuns mTab mInf (sXNl L) (sXF xs) 9 200 210 (0, lv_args 0 [.ref 525, .int m], [], N) (some (.int v), N1) ∧ zGood zR9 N1 ∧ zPm N1 ∧ mAtk N1 1077256 = .int (sLcg s) ∧ mAtk N1 1077254 = mAtk N 1077254 ∧ 0 ≤ v.toInt ∧ v.toInt ≤ q.2 - 1 := by
  have hN := yMod_good hg
  have h0 := yRw_0 N 526 (fun _ => Value.null) 0
  have m1 : 1 ≤ m.toInt := by
    have : 1 ≤ q.1 := by
      unfold tMs at hq
      simp only [List.mem_cons, List.not_mem_nil, or_false] at hq
      rcases hq with rfl | rfl | rfl | rfl | rfl | rfl | rfl | rfl | rfl <;> decide
    omega
  have hs2 := hs
  rw [show 1077256 = 1077248 + 8 by decide, y_at N (by omega)] at hs2
  rcases zSeg_snd (R := (3, (0, false))) (X := zXp) (N := N) (V := []) (Nl := lv_args 0 [.ref 525, .int m]) (XN := sXNl L) (XF := sXF xs) (List.all_eq_true.mp y210_B q hq) (zRw_ok _ _) zXp_ok (fun _ _ h => by cases h) (zSx_x xs L) ⟨hp, hp⟩ hg (zGood_room hg) (fun p hp => by
      simp only [List.mem_cons, List.not_mem_nil, or_false] at hp
      rcases hp with rfl | rfl
      · exact ⟨.ref 525, rfl, rfl⟩
      · exact ⟨.int m, rfl, m, rfl, h1, h2⟩) trivial (fun q hq => by cases hq) with ⟨p, hpm, -⟩ | ⟨rt, hrt, z, z1, z2, z3, z4, -⟩
  · cases hpm
  · cases hrt
    have w := yRw_s (x := sLcg s) (yRw_0 N 526 (fun _ => Value.int (sLcg s)) 8) (by omega) (by omega) (by omega) rfl
    obtain ⟨M, eM⟩ : ∃ M, M = mPut N 526 (mCset (mObj N 526) 8 (.int (sLcg s))) := ⟨_, rfl⟩
    rw [← eM] at w
    have sl : mSlot (mObj M 526) 8 = .int (sLcg s) := by rw [w.2.2.2 526 8 (by omega) (by omega), if_pos (by omega)]
    have run : ∃ v, mRuns mTab mInf (sXNl L) (sXF xs) 9 200 210 (0, lv_args 0 [.ref 525, .int m], [], N) (some (.int v), M) := by
      apply Exists.intro
      refine st_aload h_210_0 (by rfl) ?_
      refine st_getfield h_210_1 (yM_lt hN h0 525 (by omega)) (yM_k hN h0) (yM_n hN h0 1 (by omega)) (yM_f h0 (by omega) 1 (by omega) hN.2.2.1.1) ?_
      refine st_iconst h_210_4 ?_
      refine st_iconst h_210_6 ?_
      refine st_aload h_210_8 (by rfl) ?_
      refine st_getfield h_210_9 (yM_lt hN h0 525 (by omega)) (yM_k hN h0) (yM_n hN h0 1 (by omega)) (yM_f h0 (by omega) 1 (by omega) hN.2.2.1.1) ?_
      refine st_iconst h_210_12 ?_
      refine st_iaload (i := yI 8) (x := s) h_210_14 rfl (yM_lt hN h0 526 (by omega)) (yR_k hN h0 526 (by omega) (by omega)) (yR_i hN h0 526 (by omega) (by omega) (by omega)) (by rw [yI_nat (by omega)]; exact hs2) ?_
      refine st_imul h_210_15 ?_
      refine st_iconst h_210_16 ?_
      refine st_iadd h_210_18 ?_
      refine st_iastore (i := yI 8) h_210_19 (yM_lt hN h0 526 (by omega)) (yR_k hN h0 526 (by omega) (by omega)) (yR_i hN h0 526 (by omega) (by omega) (by omega)) ?_
      rw [yI_nat (by omega), show Int32.ofInt 1664525 * s + Int32.ofInt 1013904223 = sLcg s from rfl, ← eM]
      refine st_aload h_210_20 (by rfl) ?_
      refine st_getfield h_210_21 (yM_lt hN w 525 (by omega)) (yM_k hN w) (yM_n hN w 1 (by omega)) (yM_f w (by omega) 1 (by omega) hN.2.2.1.1) ?_
      refine st_iconst h_210_24 ?_
      refine st_iaload (i := yI 8) (x := sLcg s) h_210_26 rfl (yM_lt hN w 526 (by omega)) (yR_k hN w 526 (by omega) (by omega)) (yR_i hN w 526 (by omega) (by omega) (by omega)) (by rw [yI_nat (by omega)]; exact sl) ?_
      refine st_iconst h_210_27 ?_
      refine st_iushr h_210_29 ?_
      refine st_iload h_210_30 (by rfl) ?_
      refine st_irem h_210_31 (by
        rw [decide_eq_false (fun e => by rw [e] at m1; exact absurd m1 (by decide))]
        rfl) ?_
      exact st_ireturn h_210_32 (ty := .int) rfl rfl
    obtain ⟨v, hv⟩ := run
    have ez := mRuns_one z1 hv
    obtain ⟨x, hx, q1, q2⟩ := z4
    rw [ez] at hx z2 z3
    have hx : some (Value.int v) = some (.int x) := hx
    have ex : v = x := Value.int.inj (Option.some.inj hx)
    subst ex
    refine ⟨v, M, hv, z2, z3.2.2.2.2.2.2, ?_, (zRk_k (.inr (.inr (.inl rfl))) z3).1.2.1, q1, q2⟩
    rw [show 1077256 = 1077248 + 8 by decide, y_at M (by omega)]
    exact sl
theorem keepL {Nl Nl2 : List (Nat × Value)} {is : List Nat} (h : ∀ i ∈ is, ∃ x : Int32, mLk Nl i = some (.int x) ∧ mLk Nl2 i = some (.int x)) {i : Nat} (hi : i ∈ is) {x : Int32} (hx : mLk Nl i = some (.int x)) : mLk Nl2 i = some (.int x) := by
  obtain ⟨y, a, b⟩ := h i hi
  rw [hx] at a
  have e : x = y := Value.int.inj (Option.some.inj a)
  rw [e]
  exact b
theorem tL0_ok {v : zL} {o : Nat} {rest : List (Nat × zL)} {Nl : List (Nat × Value)} {a b c : Int32} (hv : zLv [] v (.ref o)) (l0 : mLk Nl 0 = some (.ref o)) (l1 : mLk Nl 1 = some (.int a)) (l2 : mLk Nl 2 = some (.int b)) (l3 : mLk Nl 3 = some (.int c)) (hr : ∀ q ∈ rest, ∃ w, mLk Nl q.1 = some w ∧ zLv [] q.2 w) : ∀ q ∈ tL0 v rest, ∃ w, mLk Nl q.1 = some w ∧ zLv [] q.2 w := fun q hq => by
  rcases List.mem_append.mp hq with h | h
  · simp only [List.mem_cons, List.not_mem_nil, or_false] at h
    rcases h with rfl | rfl | rfl | rfl
    · exact ⟨_, l0, hv⟩
    · exact ⟨_, l1, a, rfl, z32 a⟩
    · exact ⟨_, l2, b, rfl, z32 b⟩
    · exact ⟨_, l3, c, rfl, z32 c⟩
  · exact hr q h
theorem tN_ok {x : Int32} {q : Nat} (h0 : 0 ≤ x.toInt) (h1 : x.toInt ≤ (q : Int)) : zLv [] (0, (0, tN q)) (.int x) := ⟨x, rfl, h0, h1⟩
/-- one turn of the class's storm -/
theorem y100_turn (HC : ∀ mi, ∀ i ∈ zCt mi, zVal zC0 zXt mTab mInf (sXNl L) (sXF xs) mi i) {N : mMem} {Nl : List (Nat × Value)} {s k j c : Int32} (l0 : mLk Nl 0 = some (.ref 0)) (l1 : mLk Nl 1 = some (.int k)) (l2 : mLk Nl 2 = some (.int c)) (l3 : mLk Nl 3 = some (.int j)) (hg : zGood zC0 N) (hs : mAtk N 2050 = .int s) :
    ∃ Nl2 N2 c2, mLk Nl2 0 = some (.ref 0) ∧ mLk Nl2 1 = some (.int k) ∧ mLk Nl2 2 = some (.int c2) ∧ mLk Nl2 3 = some (.int j) ∧ zGood zC0 N2 ∧ mAtk N2 2050 = .int (sLcg (sLcg (sLcg (sLcg s)))) ∧ ∀ z, mRuns mTab mInf (sXNl L) (sXF xs) 10 300 100 (143, Nl2, [], N2) z → mRuns mTab mInf (sXNl L) (sXF xs) 10 300 100 (22, Nl, [], N) z := by
  obtain ⟨n, e1, e2⟩ := cCell hg (o := 1) (k := 0) (.inl rfl) (by omega)
  obtain ⟨e2, e3⟩ := e2 rfl
  have e1 : mAtk N 2048 = .int n := e1
  obtain ⟨m, hm⟩ : ∃ m : Nat, n.toInt = ((m + 2 : Nat) : Int) := ⟨(n.toInt - 2).toNat, by omega⟩
  obtain ⟨wA, w⟩ := and_inv (List.all_eq_true.mp y100_A m (List.mem_range.mpr (by omega)))
  obtain ⟨wB, w⟩ := and_inv w
  obtain ⟨wC, w⟩ := and_inv w
  obtain ⟨wD, wE⟩ := and_inv w
  have hcell : ∀ M, mAtk M 2048 = .int n → ∀ q ∈ ([(2048, (0, (0, tK (m + 2))))] : List (Nat × zL)), zLv [] q.2 (mAtk M q.1) := fun M hM q hq => by
    obtain rfl := List.mem_singleton.mp hq
    exact ⟨n, hM, by show ((m + 2 : Nat) : Int) ≤ _; omega, by show _ ≤ ((m + 2 : Nat) : Int); omega⟩
  have k0 : ∀ key, zTrk key = true → zKc 0 key = true := fun key h => by
    unfold zKc
    rw [h]
    cases Nat.ble 1075200 key <;> rfl
  have kp : ∀ {Nq Mq : mMem}, zRl zCQ zXt 0 0 Nq Mq → mAtk Mq 2048 = mAtk Nq 2048 ∧ mAtk Mq 2050 = mAtk Nq 2050 := fun h => ⟨h.2.2.2.1 2048 (by decide) (k0 2048 (by decide +kernel)), h.2.2.2.1 2050 (by decide) (k0 2050 (by decide +kernel))⟩
  -- n STATIONS
  obtain ⟨NlA, VA, NA, ⟨a1, a2, a3, -, a5, a6⟩, a7⟩ := cSg (xs := xs) (L := L) (V := []) HC wA hg (tL0_ok rfl l0 l1 l2 l3 (fun q h => by cases h)) trivial (hcell N e1)
  have a5 : zGood zC0 NA := a5
  obtain ⟨x0, xA0, xA1⟩ := a1 (0, tL7) List.mem_cons_self
  have xA1 : x0 = .ref 0 := xA1
  subst xA1
  have a2 : sAll zArV [(0, (0, tK (m + 2))), tR1] VA := a2
  obtain ⟨u0, r0, f0, ⟨mA, f1, f2, f3⟩, f4⟩ := sAll_cons a2
  obtain ⟨u1, r1, f5, f6, f7⟩ := sAll_cons f4
  have f6 : u1 = .ref 1 := f6
  obtain rfl := sAll_nil f7
  subst f6 f5 f1 f0
  have f2 : ((m + 2 : Nat) : Int) ≤ mA.toInt := f2
  have f3 : mA.toInt ≤ ((m + 2 : Nat) : Int) := f3
  have lA1 := keepL (is := [1, 2, 3]) a3 (i := 1) (by decide) l1
  have lA2 := keepL (is := [1, 2, 3]) a3 (i := 2) (by decide) l2
  have lA3 := keepL (is := [1, 2, 3]) a3 (i := 3) (by decide) l3
  obtain ⟨v1, N1, g1, g2, g3, g4, g5⟩ := y41 (xs := xs) (L := L) a5 ((kp a6).2.trans hs) mA
  obtain ⟨b1, b2⟩ := g5 (m + 1) (by omega) (by omega)
  have n1 := (g4 2048 (by decide) (by decide)).trans ((kp a6).1.trans e1)
  -- n - 1
  obtain ⟨NlB, VB, NB, ⟨p1, p2, p3, -, p5, p6⟩, p7⟩ := cSg (xs := xs) (L := L) (V := [.int v1]) HC wB g2 (tL0_ok rfl xA0 lA1 lA2 lA3 (fun q h => by cases h)) ⟨tN_ok b1 b2, trivial⟩ (hcell N1 n1)
  have p5 : zGood zC0 NB := p5
  obtain ⟨y0, xB0, xB1⟩ := p1 (0, tL7) List.mem_cons_self
  have xB1 : y0 = .ref 0 := xB1
  subst xB1
  obtain ⟨w4, xB4, xB5⟩ := p1 (4, (0, (0, tN (m + 1)))) (List.mem_cons_of_mem _ List.mem_cons_self)
  have p2 : sAll zArV [(0, (0, tK (m + 1))), tR1] VB := p2
  obtain ⟨u0, r0, f0, ⟨mB, f1, h2, h3⟩, f4⟩ := sAll_cons p2
  obtain ⟨u1, r1, f5, f6, f7⟩ := sAll_cons f4
  have f6 : u1 = .ref 1 := f6
  obtain rfl := sAll_nil f7
  subst f6 f5 f1 f0
  have h2 : ((m + 1 : Nat) : Int) ≤ mB.toInt := h2
  have h3 : mB.toInt ≤ ((m + 1 : Nat) : Int) := h3
  have lB1 := keepL (is := [1, 2, 3]) p3 (i := 1) (by decide) lA1
  have lB2 := keepL (is := [1, 2, 3]) p3 (i := 2) (by decide) lA2
  have lB3 := keepL (is := [1, 2, 3]) p3 (i := 3) (by decide) lA3
  obtain ⟨v2, N2, i1, i2, i3, i4, i5⟩ := y41 (xs := xs) (L := L) p5 ((kp p6).2.trans g3) mB
  obtain ⟨c1, c2⟩ := i5 m (by omega) (by omega)
  have n2 := (i4 2048 (by decide) (by decide)).trans ((kp p6).1.trans n1)
  -- PRIORITY
  obtain ⟨NlC, VC, NC, ⟨o1, o2, o3, -, o5, o6⟩, o7⟩ := cSg (xs := xs) (L := L) (V := [.int v2]) HC wC i2 (tL0_ok rfl xB0 lB1 lB2 lB3 (fun q h => by
    obtain rfl := List.mem_singleton.mp h
    exact ⟨w4, xB4, xB5⟩)) ⟨tN_ok c1 c2, trivial⟩ (hcell N2 n2)
  have o5 : zGood zC0 NC := o5
  obtain ⟨y0, xC0, xC1⟩ := o1 (0, tL7) List.mem_cons_self
  have xC1 : y0 = .ref 0 := xC1
  subst xC1
  obtain ⟨z4, xC4, xC5⟩ := o1 (4, (0, (0, tN (m + 1)))) (List.mem_cons_of_mem _ List.mem_cons_self)
  obtain ⟨z6, xC6, xC7⟩ := o1 (6, (0, (0, tN (m + 1)))) (List.mem_cons_of_mem _ (List.mem_cons_of_mem _ List.mem_cons_self))
  have o2 : sAll zArV [(0, (0, (3, 3))), tR1] VC := o2
  obtain ⟨u0, r0, f0, ⟨mC, f1, -, -⟩, f4⟩ := sAll_cons o2
  obtain ⟨u1, r1, f5, f6, f7⟩ := sAll_cons f4
  have f6 : u1 = .ref 1 := f6
  obtain rfl := sAll_nil f7
  subst f6 f5 f1 f0
  have lC1 := keepL (is := [1, 2, 3]) o3 (i := 1) (by decide) lB1
  have lC2 := keepL (is := [1, 2, 3]) o3 (i := 2) (by decide) lB2
  have lC3 := keepL (is := [1, 2, 3]) o3 (i := 3) (by decide) lB3
  obtain ⟨v3, N3, j1, j2, j3, j4, -⟩ := y41 (xs := xs) (L := L) o5 ((kp o6).2.trans i3) mC
  have n3 := (j4 2048 (by decide) (by decide)).trans ((kp o6).1.trans n2)
  -- LENGTH
  obtain ⟨NlD, VD, ND, ⟨q1, q2, q3, -, q5, q6⟩, q7⟩ := cSg (xs := xs) (L := L) (V := [.int v3]) HC wD j2 (tL0_ok rfl xC0 lC1 lC2 lC3 (fun q h => by
    simp only [List.mem_cons, List.not_mem_nil, or_false] at h
    rcases h with rfl | rfl
    · exact ⟨z4, xC4, xC5⟩
    · exact ⟨z6, xC6, xC7⟩)) ⟨⟨v3, rfl, z32 v3⟩, trivial⟩ (hcell N3 n3)
  have q5 : zGood zC0 ND := q5
  obtain ⟨y0, xD0, xD1⟩ := q1 (0, tL7) List.mem_cons_self
  have xD1 : y0 = .ref 0 := xD1
  subst xD1
  obtain ⟨t4, xD4, xD5⟩ := q1 (4, (0, (0, tN (m + 1)))) (List.mem_cons_of_mem _ List.mem_cons_self)
  obtain ⟨t6, xD6, xD7⟩ := q1 (6, (0, (0, tN (m + 1)))) (List.mem_cons_of_mem _ (List.mem_cons_of_mem _ List.mem_cons_self))
  obtain ⟨t7, xD8, xD9⟩ := q1 (7, (0, (0, zR32))) (List.mem_cons_of_mem _ (List.mem_cons_of_mem _ (List.mem_cons_of_mem _ List.mem_cons_self)))
  have q2 : sAll zArV [tA, tR1] VD := q2
  obtain ⟨u0, r0, f0, ⟨mD, f1, -, -⟩, f4⟩ := sAll_cons q2
  obtain ⟨u1, r1, f5, f6, f7⟩ := sAll_cons f4
  have f6 : u1 = .ref 1 := f6
  obtain rfl := sAll_nil f7
  subst f6 f5 f1 f0
  have lD1 := keepL (is := [1, 2, 3]) q3 (i := 1) (by decide) lC1
  have lD2 := keepL (is := [1, 2, 3]) q3 (i := 2) (by decide) lC2
  have lD3 := keepL (is := [1, 2, 3]) q3 (i := 3) (by decide) lC3
  obtain ⟨v4, N4, k1, k2, k3, k4, -⟩ := y41 (xs := xs) (L := L) q5 ((kp q6).2.trans j3) mD
  have n4 := (k4 2048 (by decide) (by decide)).trans ((kp q6).1.trans n3)
  -- a frame comes, or not
  obtain ⟨NlE, VE, NE, ⟨d1, d2, d3, -, d5, d6⟩, d7⟩ := cSg (xs := xs) (L := L) (V := [.int v4]) HC wE k2 (tL0_ok rfl xD0 lD1 lD2 lD3 (fun q h => by
    simp only [List.mem_cons, List.not_mem_nil, or_false] at h
    rcases h with rfl | rfl | rfl
    · exact ⟨t4, xD4, xD5⟩
    · exact ⟨t6, xD6, xD7⟩
    · exact ⟨t7, xD8, xD9⟩)) ⟨⟨v4, rfl, z32 v4⟩, trivial⟩ (hcell N4 n4)
  have d5 : zGood zC0 NE := d5
  obtain ⟨y0, xE0, xE1⟩ := d1 (0, tL7) List.mem_cons_self
  have xE1 : y0 = .ref 0 := xE1
  subst xE1
  obtain ⟨y2, xE2, ⟨c3, xE3, -, -⟩⟩ := d1 (2, (0, (0, zR32))) (List.mem_cons_of_mem _ List.mem_cons_self)
  subst xE3
  have d2 : sAll zArV [] VE := d2
  obtain rfl := sAll_nil d2
  have lE1 := keepL (is := [1, 3]) d3 (i := 1) (by decide) lD1
  have lE3 := keepL (is := [1, 3]) d3 (i := 3) (by decide) lD3
  have rg := fun (M : mMem) (h : zGood zC0 M) => cRing h (o := 1) (.inl rfl)
  refine ⟨NlE, NE, c3, xE0, lE1, xE2, lE3, d5, (kp d6).2.trans k3, fun z hz => a7 z ?_⟩
  refine st_call (o := 1) (as := [.int mA]) (S := []) (w := some (.int v1)) (M1 := N1) h_100_33 rfl rfl rfl (rg NA a5).1 (rg NA a5).2.1 rfl rfl rfl rfl (mRuns_more g1 (by decide) (by decide)) rfl (p7 z ?_)
  refine st_call (o := 1) (as := [.int mB]) (S := []) (w := some (.int v2)) (M1 := N2) h_100_51 rfl rfl rfl (rg NB p5).1 (rg NB p5).2.1 rfl rfl rfl rfl (mRuns_more i1 (by decide) (by decide)) rfl (o7 z ?_)
  refine st_call (o := 1) (as := [.int mC]) (S := []) (w := some (.int v3)) (M1 := N3) h_100_79 rfl rfl rfl (rg NC o5).1 (rg NC o5).2.1 rfl rfl rfl rfl (mRuns_more j1 (by decide) (by decide)) rfl (q7 z ?_)
  exact st_call (o := 1) (as := [.int mD]) (S := []) (w := some (.int v4)) (M1 := N4) h_100_99 rfl rfl rfl (rg ND q5).1 (rg ND q5).2.1 rfl rfl rfl rfl (mRuns_more k1 (by decide) (by decide)) rfl (d7 z hz)
theorem y100_loop (HC : ∀ mi, ∀ i ∈ zCt mi, zVal zC0 zXt mTab mInf (sXNl L) (sXF xs) mi i) {n : Nat} (hn : n ≤ 30) : ∀ (d j : Nat) (N : mMem) (Nl : List (Nat × Value)) (s c : Int32), j + d = n → mLk Nl 0 = some (.ref 0) → mLk Nl 1 = some (.int (yI n)) → mLk Nl 2 = some (.int c) → mLk Nl 3 = some (.int (yI j)) → zGood zC0 N → mAtk N 2050 = .int s →
    ∃ M Nl2 c2, mLk Nl2 2 = some (.int c2) ∧ zGood zC0 M ∧ mAtk M 2050 = .int (sIter sTurn d s) ∧ ∀ z, mRuns mTab mInf (sXNl L) (sXF xs) 10 300 100 (149, Nl2, [], M) z → mRuns mTab mInf (sXNl L) (sXF xs) 10 300 100 (17, Nl, [], N) z := fun d => by
  induction d with
  | zero =>
    intro j N Nl s c hj l0 l1 l2 l3 hg hs
    refine ⟨N, Nl, c, l2, hg, by rw [sIter_0]; exact hs, fun z hz => ?_⟩
    refine st_iload h_100_17 l3 ?_
    refine st_iload h_100_18 l1 ?_
    refine st_icmp h_100_19 ?_
    rw [yI_le (by omega) (by omega) (by omega), cond_true]
    exact hz
  | succ d ih =>
    intro j N Nl s c hj l0 l1 l2 l3 hg hs
    obtain ⟨Nl1, N1, c1, a0, a1, a2, a3, a4, a5, a6⟩ := y100_turn (xs := xs) (L := L) HC l0 l1 l2 l3 hg hs
    obtain ⟨M, Nl2, c2, m0, m1, m2, m3⟩ := ih (j + 1) N1 (mSt1 Nl1 3 (.int (yI (j + 1)))) _ c1 (by omega) (mLk_ne a0 (by omega) rfl) (mLk_ne a1 (by omega) rfl) (mLk_ne a2 (by omega) rfl) mLk_same a4 a5
    refine ⟨M, Nl2, c2, m0, m1, by rw [sIter_s, sTurn_eq]; exact m2, fun z hz => ?_⟩
    refine st_iload h_100_17 l3 ?_
    refine st_iload h_100_18 l1 ?_
    refine st_icmp h_100_19 ?_
    rw [yI_lt (by omega) (by omega) (by omega), cond_false]
    refine a6 z ?_
    refine st_iinc h_100_143 a3 (by rfl) ?_
    refine st_goto h_100_146 ?_
    rw [show yI j + Int32.ofInt 1 = yI (j + 1) from yI_succ]
    exact m3 z hz
noncomputable def sStorm (k s : Int32) : Int32 := if 1 ≤ k.toInt ∧ k.toInt ≤ 30 then sIter sTurn k.toInt.toNat s else s
/-- the class's storm: what the table says, and STATE -/
theorem y100S (HC : ∀ mi, ∀ i ∈ zCt mi, zVal zC0 zXt mTab mInf (sXNl L) (sXF xs) mi i) {b : Nat} {N : mMem} (hI : zAll b N) {s : Int32} (hs : mAtk N 2050 = .int s) (k : Int32) :
    ∃ v N1 kk, mRuns mTab mInf (sXNl L) (sXF xs) 10 300 100 (0, lv_args 0 [.ref 0, .int k], [], N) (some (.int v), N1) ∧ zAll b N1 ∧ zRl zC0 zXt 3 kk N N1 ∧ mAtk N1 2050 = .int (sStorm k s) := by
  obtain ⟨v, N1, kk, r1, r2, r3, r4, rl⟩ := zClass lb_stormS HC hI (bs := [.ref 0, .int k]) ⟨rfl, ⟨k, rfl, z32 k⟩, trivial⟩
  obtain ⟨x, hx, -, -⟩ := r3
  have hx : v = some (.int x) := hx
  subst hx
  refine ⟨x, N1, kk, r1, r2, rl, ?_⟩
  have hg := hI.1
  have hand : ∃ w M, mRuns mTab mInf (sXNl L) (sXF xs) 10 300 100 (0, lv_args 0 [.ref 0, .int k], [], N) (w, M) ∧ mAtk M 2050 = .int (sStorm k s) := by
    by_cases c : 1 ≤ k.toInt ∧ k.toInt ≤ 30
    · obtain ⟨n, hn⟩ : ∃ n : Nat, k.toInt = (n : Int) := ⟨k.toInt.toNat, by omega⟩
      have en : k = yI n := yI_of hn
      subst en
      obtain ⟨M, Nl2, c2, m0, m1, m2, m3⟩ := y100_loop (xs := xs) (L := L) HC (n := n) (by omega) n 0 N [(3, .int (yI 0)), (2, .int (yI 0)), (0, .ref 0), (1, .int (yI n))] s (yI 0) (by omega) rfl rfl rfl rfl hg hs
      refine ⟨some (.int c2), M, ?_, by rw [m2]; unfold sStorm; rw [if_pos c, hn, Int.toNat_natCast]⟩
      refine st_iload h_100_0 (by rfl) ?_
      refine st_iconst h_100_1 ?_
      refine st_icmp h_100_2 ?_
      rw [show mIf .lt (yI n) (Int32.ofInt 1) = false from decide_eq_false (by rw [Int32.lt_iff_toInt_lt, show (Int32.ofInt 1).toInt = 1 by decide]; omega), cond_false]
      refine st_iload h_100_5 (by rfl) ?_
      refine st_iconst h_100_6 ?_
      refine st_icmp h_100_8 ?_
      rw [show mIf .le (yI n) (Int32.ofInt 30) = true from decide_eq_true (by rw [Int32.le_iff_toInt_le, show (Int32.ofInt 30).toInt = 30 by decide]; omega), cond_true]
      refine st_iconst h_100_13 ?_
      refine st_istore h_100_14 (by rfl) ?_
      refine st_iconst h_100_15 ?_
      refine st_istore h_100_16 (by rfl) ?_
      refine m3 _ ?_
      refine st_iload h_100_149 m0 ?_
      exact st_ireturn h_100_150 (ty := .int) rfl rfl
    · refine ⟨some (.int (Int32.ofInt (-1))), N, ?_, by unfold sStorm; rw [if_neg c]; exact hs⟩
      have fin : mRuns mTab mInf (sXNl L) (sXF xs) 10 300 100 (11, lv_args 0 [.ref 0, .int k], [], N) (some (.int (Int32.ofInt (-1))), N) := by
        refine st_iconst h_100_11 ?_
        exact st_ireturn h_100_12 (ty := .int) rfl rfl
      refine st_iload h_100_0 (by rfl) ?_
      refine st_iconst h_100_1 ?_
      refine st_icmp h_100_2 ?_
      by_cases d : k.toInt < 1
      · rw [show mIf .lt k (Int32.ofInt 1) = true from decide_eq_true (by rw [Int32.lt_iff_toInt_lt, show (Int32.ofInt 1).toInt = 1 by decide]; exact d), cond_true]
        exact fin
      · rw [show mIf .lt k (Int32.ofInt 1) = false from decide_eq_false (by rw [Int32.lt_iff_toInt_lt, show (Int32.ofInt 1).toInt = 1 by decide]; exact d), cond_false]
        refine st_iload h_100_5 (by rfl) ?_
        refine st_iconst h_100_6 ?_
        refine st_icmp h_100_8 ?_
        rw [show mIf .le k (Int32.ofInt 30) = false from decide_eq_false (by rw [Int32.le_iff_toInt_le, show (Int32.ofInt 30).toInt = 30 by decide]; omega), cond_false]
        exact fin
  obtain ⟨w, M, h1, h2⟩ := hand
  have ez := mRuns_one r1 h1
  have e2 : N1 = M := congrArg Prod.snd ez
  rw [e2]
  exact h2
/-- one turn of the check's storm -/
theorem y211_turn (H : ∀ mi, ∀ i ∈ zQt mi, zVal zR9 zXp mTab mInf (sXNl L) (sXF xs) mi i) {N : mMem} {Nl : List (Nat × Value)} {s k j c : Int32} (l0 : mLk Nl 0 = some (.ref 525)) (l1 : mLk Nl 1 = some (.int k)) (l2 : mLk Nl 2 = some (.int c)) (l3 : mLk Nl 3 = some (.int j)) (hg : zGood zR9 N) (hp : zPm N) (hs : mAtk N 1077256 = .int s) :
    ∃ Nl2 N2 c2, mLk Nl2 0 = some (.ref 525) ∧ mLk Nl2 1 = some (.int k) ∧ mLk Nl2 2 = some (.int c2) ∧ mLk Nl2 3 = some (.int j) ∧ zGood zR9 N2 ∧ zPm N2 ∧ mAtk N2 1077256 = .int (sLcg (sLcg (sLcg (sLcg s)))) ∧ ∀ z, mRuns mTab mInf (sXNl L) (sXF xs) 10 300 211 (105, Nl2, [], N2) z → mRuns mTab mInf (sXNl L) (sXF xs) 10 300 211 (27, Nl, [], N) z := by
  obtain ⟨n, e1, e2, e3⟩ := zGood_int hg (k := 6) (by omega)
  have e2 : -1 ≤ n.toInt := e2
  have e3 : n.toInt ≤ 5 := e3
  rw [← y_at N (by omega)] at e1
  have e1 : mAtk N 1077254 = .int n := e1
  obtain ⟨m, hm⟩ : ∃ m : Nat, n.toInt = (m : Int) - 1 := ⟨(n.toInt + 1).toNat, by omega⟩
  obtain ⟨wA, w⟩ := and_inv (List.all_eq_true.mp y211_A m (List.mem_range.mpr (by omega)))
  obtain ⟨wB, w⟩ := and_inv w
  obtain ⟨wC, w⟩ := and_inv w
  obtain ⟨wD, wE⟩ := and_inv w
  have hcell : ∀ M, mAtk M 1077254 = .int n → ∀ q ∈ ([(1077254, (0, (0, ((m : Int) - 1, (m : Int) - 1))))] : List (Nat × zL)), zLv [] q.2 (mAtk M q.1) := fun M hM q hq => by
    obtain rfl := List.mem_singleton.mp hq
    exact ⟨n, hM, by show (m : Int) - 1 ≤ _; omega, by show _ ≤ (m : Int) - 1; omega⟩
  have kp : ∀ {Nq Mq : mMem}, zRl tQ zXp 0 0 Nq Mq → mAtk Mq 1077254 = mAtk Nq 1077254 ∧ mAtk Mq 1077256 = mAtk Nq 1077256 := fun h => ⟨(zRk_k (.inl rfl) h).1.2.1, (zRk_k (.inl rfl) h).1.2.2.2.1 (by omega)⟩
  have px : ∀ {Nq Mq : mMem}, zRl tQ zXp 0 0 Nq Mq → zPm Mq := fun h => h.2.2.2.2.2.2
  have ms : ∀ q, q < 8 → tK (q + 1) ∈ tMs := fun q hq => by
    obtain rfl | rfl | rfl | rfl | rfl | rfl | rfl | rfl := (by omega : q = 0 ∨ q = 1 ∨ q = 2 ∨ q = 3 ∨ q = 4 ∨ q = 5 ∨ q = 6 ∨ q = 7) <;> decide +kernel
  obtain ⟨NlA, VA, NA, ⟨a1, a2, a3, -, a5, a6⟩, a7⟩ := mSg (xs := xs) (L := L) (V := []) H wA hg hp (tL0_ok rfl l0 l1 l2 l3 (fun q h => by cases h)) trivial (hcell N e1)
  have a5 : zGood zR9 NA := a5
  obtain ⟨x0, xA0, xA1⟩ := a1 (0, z525) List.mem_cons_self
  have xA1 : x0 = .ref 525 := xA1
  subst xA1
  have a2 : sAll zArV [(0, (0, tK (m + 2))), z525] VA := a2
  obtain ⟨u0, r0, f0, ⟨mA, f1, f2, f3⟩, f4⟩ := sAll_cons a2
  obtain ⟨u1, r1, f5, f6, f7⟩ := sAll_cons f4
  have f6 : u1 = .ref 525 := f6
  obtain rfl := sAll_nil f7
  subst f6 f5 f1 f0
  have lA1 := keepL (is := [1, 2, 3]) a3 (i := 1) (by decide) l1
  have lA2 := keepL (is := [1, 2, 3]) a3 (i := 2) (by decide) l2
  have lA3 := keepL (is := [1, 2, 3]) a3 (i := 3) (by decide) l3
  obtain ⟨v1, N1, g1, g2, g6, g3, g4, b1, b2⟩ := y210 (xs := xs) (L := L) a5 (px a6) ((kp a6).2.trans hs) mA (ms (m + 1) (by omega)) f2 f3
  have b2 : v1.toInt ≤ ((m + 2 : Nat) : Int) - 1 := b2
  have n1 := g4.trans ((kp a6).1.trans e1)
  obtain ⟨NlB, VB, NB, ⟨p1, p2, p3, -, p5, p6⟩, p7⟩ := mSg (xs := xs) (L := L) (V := [.int v1]) H wB g2 g6 (tL0_ok rfl xA0 lA1 lA2 lA3 (fun q h => by cases h)) ⟨⟨v1, rfl, b1, by show v1.toInt ≤ ((m + 1 : Nat) : Int); omega⟩, trivial⟩ (hcell N1 n1)
  have p5 : zGood zR9 NB := p5
  obtain ⟨y0, xB0, xB1⟩ := p1 (0, z525) List.mem_cons_self
  have xB1 : y0 = .ref 525 := xB1
  subst xB1
  obtain ⟨w4, xB4, xB5⟩ := p1 (4, (0, (0, tN (m + 1)))) (List.mem_cons_of_mem _ List.mem_cons_self)
  have p2 : sAll zArV [(0, (0, tK (m + 1))), z525] VB := p2
  obtain ⟨u0, r0, f0, ⟨mB, f1, h2, h3⟩, f4⟩ := sAll_cons p2
  obtain ⟨u1, r1, f5, f6, f7⟩ := sAll_cons f4
  have f6 : u1 = .ref 525 := f6
  obtain rfl := sAll_nil f7
  subst f6 f5 f1 f0
  have lB1 := keepL (is := [1, 2, 3]) p3 (i := 1) (by decide) lA1
  have lB2 := keepL (is := [1, 2, 3]) p3 (i := 2) (by decide) lA2
  have lB3 := keepL (is := [1, 2, 3]) p3 (i := 3) (by decide) lA3
  obtain ⟨v2, N2, i1, i2, i6, i3, i4, c1, c2⟩ := y210 (xs := xs) (L := L) p5 (px p6) ((kp p6).2.trans g3) mB (ms m (by omega)) h2 h3
  have c2 : v2.toInt ≤ ((m + 1 : Nat) : Int) - 1 := c2
  have n2 := i4.trans ((kp p6).1.trans n1)
  obtain ⟨NlC, VC, NC, ⟨o1, o2, o3, -, o5, o6⟩, o7⟩ := mSg (xs := xs) (L := L) (V := [.int v2]) H wC i2 i6 (tL0_ok rfl xB0 lB1 lB2 lB3 (fun q h => by
    obtain rfl := List.mem_singleton.mp h
    exact ⟨w4, xB4, xB5⟩)) ⟨⟨v2, rfl, c1, by show v2.toInt ≤ ((m : Nat) : Int); omega⟩, trivial⟩ (hcell N2 n2)
  have o5 : zGood zR9 NC := o5
  obtain ⟨y0, xC0, xC1⟩ := o1 (0, z525) List.mem_cons_self
  have xC1 : y0 = .ref 525 := xC1
  subst xC1
  obtain ⟨z4, xC4, xC5⟩ := o1 (4, (0, (0, tN (m + 1)))) (List.mem_cons_of_mem _ List.mem_cons_self)
  obtain ⟨z5, xC6, xC7⟩ := o1 (5, (0, (0, tN m))) (List.mem_cons_of_mem _ (List.mem_cons_of_mem _ List.mem_cons_self))
  have o2 : sAll zArV [(0, (0, (3, 3))), z525, (0, (0, (1, 1)))] VC := o2
  obtain ⟨u0, r0, f0, ⟨mC, f1, t1, t2⟩, f4⟩ := sAll_cons o2
  obtain ⟨u1, r1, f5, f6, f7⟩ := sAll_cons f4
  obtain ⟨u2, r2, f8, ⟨oC, f9, t3, t4⟩, f10⟩ := sAll_cons f7
  have f6 : u1 = .ref 525 := f6
  obtain rfl := sAll_nil f10
  subst f9 f8 f6 f5 f1 f0
  have lC1 := keepL (is := [1, 2, 3]) o3 (i := 1) (by decide) lB1
  have lC2 := keepL (is := [1, 2, 3]) o3 (i := 2) (by decide) lB2
  have lC3 := keepL (is := [1, 2, 3]) o3 (i := 3) (by decide) lB3
  obtain ⟨v3, N3, j1, j2, j6, j3, j4, -, -⟩ := y210 (xs := xs) (L := L) o5 (px o6) ((kp o6).2.trans i3) mC (ms 2 (by omega)) t1 t2
  have n3 := j4.trans ((kp o6).1.trans n2)
  obtain ⟨NlD, VD, ND, ⟨q1, q2, q3, -, q5, q6⟩, q7⟩ := mSg (xs := xs) (L := L) (V := [.int v3, .int oC]) H wD j2 j6 (tL0_ok rfl xC0 lC1 lC2 lC3 (fun q h => by
    simp only [List.mem_cons, List.not_mem_nil, or_false] at h
    rcases h with rfl | rfl
    · exact ⟨z4, xC4, xC5⟩
    · exact ⟨z5, xC6, xC7⟩)) ⟨⟨v3, rfl, z32 v3⟩, ⟨oC, rfl, t3, t4⟩, trivial⟩ (hcell N3 n3)
  have q5 : zGood zR9 ND := q5
  obtain ⟨y0, xD0, xD1⟩ := q1 (0, z525) List.mem_cons_self
  have xD1 : y0 = .ref 525 := xD1
  subst xD1
  obtain ⟨t4', xD4, xD5⟩ := q1 (4, (0, (0, tN (m + 1)))) (List.mem_cons_of_mem _ List.mem_cons_self)
  obtain ⟨t5', xD6, xD7⟩ := q1 (5, (0, (0, tN m))) (List.mem_cons_of_mem _ (List.mem_cons_of_mem _ List.mem_cons_self))
  obtain ⟨t6', xD8, xD9⟩ := q1 (6, (0, (0, zR32))) (List.mem_cons_of_mem _ (List.mem_cons_of_mem _ (List.mem_cons_of_mem _ List.mem_cons_self)))
  have q2 : sAll zArV [(0, (0, (1, 50))), z525, (0, (0, (1, 1)))] VD := q2
  obtain ⟨u0, r0, f0, ⟨mD, f1, s1, s2⟩, f4⟩ := sAll_cons q2
  obtain ⟨u1, r1, f5, f6, f7⟩ := sAll_cons f4
  obtain ⟨u2, r2, f8, ⟨oD, f9, s3, s4⟩, f10⟩ := sAll_cons f7
  have f6 : u1 = .ref 525 := f6
  obtain rfl := sAll_nil f10
  subst f9 f8 f6 f5 f1 f0
  have lD1 := keepL (is := [1, 2, 3]) q3 (i := 1) (by decide) lC1
  have lD2 := keepL (is := [1, 2, 3]) q3 (i := 2) (by decide) lC2
  have lD3 := keepL (is := [1, 2, 3]) q3 (i := 3) (by decide) lC3
  obtain ⟨v4, N4, k1, k2, k6, k3, k4, -, -⟩ := y210 (xs := xs) (L := L) q5 (px q6) ((kp q6).2.trans j3) mD (q := (1, 50)) (by decide +kernel) s1 s2
  have n4 := k4.trans ((kp q6).1.trans n3)
  obtain ⟨NlE, VE, NE, ⟨d1, d2, d3, -, d5, d6⟩, d7⟩ := mSg (xs := xs) (L := L) (V := [.int v4, .int oD]) H wE k2 k6 (tL0_ok rfl xD0 lD1 lD2 lD3 (fun q h => by
    simp only [List.mem_cons, List.not_mem_nil, or_false] at h
    rcases h with rfl | rfl | rfl
    · exact ⟨t4', xD4, xD5⟩
    · exact ⟨t5', xD6, xD7⟩
    · exact ⟨t6', xD8, xD9⟩)) ⟨⟨v4, rfl, z32 v4⟩, ⟨oD, rfl, s3, s4⟩, trivial⟩ (hcell N4 n4)
  have d5 : zGood zR9 NE := d5
  obtain ⟨y0, xE0, xE1⟩ := d1 (0, z525) List.mem_cons_self
  have xE1 : y0 = .ref 525 := xE1
  subst xE1
  obtain ⟨y2, xE2, ⟨c3, xE3, -, -⟩⟩ := d1 (2, (0, (0, zR32))) (List.mem_cons_of_mem _ List.mem_cons_self)
  subst xE3
  have d2 : sAll zArV [] VE := d2
  obtain rfl := sAll_nil d2
  have lE1 := keepL (is := [1, 3]) d3 (i := 1) (by decide) lD1
  have lE3 := keepL (is := [1, 3]) d3 (i := 3) (by decide) lD3
  refine ⟨NlE, NE, c3, xE0, lE1, xE2, lE3, d5, px d6, (kp d6).2.trans k3, fun z hz => a7 z ?_⟩
  refine st_call (o := 525) (as := [.int mA]) (S := []) (w := some (.int v1)) (M1 := N1) h_211_32 rfl rfl rfl (yM_b (yMod_good a5)) (yM_c (yMod_good a5)) rfl rfl rfl rfl (mRuns_more g1 (by decide) (by decide)) rfl (p7 z ?_)
  refine st_call (o := 525) (as := [.int mB]) (S := []) (w := some (.int v2)) (M1 := N2) h_211_44 rfl rfl rfl (yM_b (yMod_good p5)) (yM_c (yMod_good p5)) rfl rfl rfl rfl (mRuns_more i1 (by decide) (by decide)) rfl (o7 z ?_)
  refine st_call (o := 525) (as := [.int mC]) (S := [.int oC]) (w := some (.int v3)) (M1 := N3) h_211_52 rfl rfl rfl (yM_b (yMod_good o5)) (yM_c (yMod_good o5)) rfl rfl rfl rfl (mRuns_more j1 (by decide) (by decide)) rfl (q7 z ?_)
  exact st_call (o := 525) (as := [.int mD]) (S := [.int oD]) (w := some (.int v4)) (M1 := N4) h_211_65 rfl rfl rfl (yM_b (yMod_good q5)) (yM_c (yMod_good q5)) rfl rfl rfl rfl (mRuns_more k1 (by decide) (by decide)) rfl (d7 z hz)
theorem y211_loop (H : ∀ mi, ∀ i ∈ zQt mi, zVal zR9 zXp mTab mInf (sXNl L) (sXF xs) mi i) {n : Nat} (hn : n ≤ 30) : ∀ (d j : Nat) (N : mMem) (Nl : List (Nat × Value)) (s c : Int32), j + d = n → mLk Nl 0 = some (.ref 525) → mLk Nl 1 = some (.int (yI n)) → mLk Nl 2 = some (.int c) → mLk Nl 3 = some (.int (yI j)) → zGood zR9 N → zPm N → mAtk N 1077256 = .int s →
    ∃ M Nl2 c2, mLk Nl2 2 = some (.int c2) ∧ mAtk M 1077256 = .int (sIter sTurn d s) ∧ ∀ z, mRuns mTab mInf (sXNl L) (sXF xs) 10 300 211 (111, Nl2, [], M) z → mRuns mTab mInf (sXNl L) (sXF xs) 10 300 211 (22, Nl, [], N) z := fun d => by
  induction d with
  | zero =>
    intro j N Nl s c hj l0 l1 l2 l3 hg hp hs
    refine ⟨N, Nl, c, l2, by rw [sIter_0]; exact hs, fun z hz => ?_⟩
    refine st_iload h_211_22 l3 ?_
    refine st_iload h_211_23 l1 ?_
    refine st_icmp h_211_24 ?_
    rw [yI_le (by omega) (by omega) (by omega), cond_true]
    exact hz
  | succ d ih =>
    intro j N Nl s c hj l0 l1 l2 l3 hg hp hs
    obtain ⟨Nl1, N1, c1, a0, a1, a2, a3, a4, a7, a5, a6⟩ := y211_turn (xs := xs) (L := L) H l0 l1 l2 l3 hg hp hs
    obtain ⟨M, Nl2, c2, m0, m2, m3⟩ := ih (j + 1) N1 (mSt1 Nl1 3 (.int (yI (j + 1)))) _ c1 (by omega) (mLk_ne a0 (by omega) rfl) (mLk_ne a1 (by omega) rfl) (mLk_ne a2 (by omega) rfl) mLk_same a4 a7 a5
    refine ⟨M, Nl2, c2, m0, by rw [sIter_s, sTurn_eq]; exact m2, fun z hz => ?_⟩
    refine st_iload h_211_22 l3 ?_
    refine st_iload h_211_23 l1 ?_
    refine st_icmp h_211_24 ?_
    rw [yI_lt (by omega) (by omega) (by omega), cond_false]
    refine a6 z ?_
    refine st_iinc h_211_105 a3 (by rfl) ?_
    refine st_goto h_211_108 ?_
    rw [show yI j + Int32.ofInt 1 = yI (j + 1) from yI_succ]
    exact m3 z hz
theorem y126_run {fr lo : Nat} {N : mMem} (v a b : Int32) : mRuns mTab mInf (sXNl L) (sXF xs) fr lo 126 (0, lv_args 0 [.ref 525, .int v, .int a, .int b], [], N) (some (.int (if a.toInt ≤ v.toInt ∧ v.toInt ≤ b.toInt then Int32.ofInt 1 else Int32.ofInt 0)), N) := by
  have no : ∀ (h : ¬ (a.toInt ≤ v.toInt ∧ v.toInt ≤ b.toInt)), mRuns mTab mInf (sXNl L) (sXF xs) fr lo 126 (14, lv_args 0 [.ref 525, .int v, .int a, .int b], [], N) (some (.int (if a.toInt ≤ v.toInt ∧ v.toInt ≤ b.toInt then Int32.ofInt 1 else Int32.ofInt 0)), N) := fun h => by
    rw [if_neg h]
    refine st_iconst h_126_14 ?_
    exact st_ireturn h_126_15 (ty := .boolean) rfl rfl
  refine st_iload h_126_0 (by rfl) ?_
  refine st_iload h_126_1 (by rfl) ?_
  refine st_icmp h_126_2 ?_
  by_cases c : v.toInt < a.toInt
  · rw [show mIf .lt v a = true from decide_eq_true (by rw [Int32.lt_iff_toInt_lt]; exact c), cond_true]
    exact no (by omega)
  rw [show mIf .lt v a = false from decide_eq_false (by rw [Int32.lt_iff_toInt_lt]; exact c), cond_false]
  refine st_iload h_126_5 (by rfl) ?_
  refine st_iload h_126_6 (by rfl) ?_
  refine st_icmp h_126_7 ?_
  by_cases d : b.toInt < v.toInt
  · rw [show mIf .gt v b = true from decide_eq_true (by rw [Int32.lt_iff_toInt_lt]; exact d), cond_true]
    exact no (by omega)
  rw [show mIf .gt v b = false from decide_eq_false (by rw [Int32.lt_iff_toInt_lt]; exact d), cond_false, if_pos (by omega)]
  refine st_iconst h_126_10 ?_
  refine st_goto h_126_11 ?_
  exact st_ireturn h_126_15 (ty := .boolean) rfl rfl
/-- the check's storm -/
theorem y211S (H : ∀ mi, ∀ i ∈ zQt mi, zVal zR9 zXp mTab mInf (sXNl L) (sXF xs) mi i) {b : Nat} {N : mMem} (hI : zAll b N) (hb : b ≤ 2147000000) {s : Int32} (hs : mAtk N 1077256 = .int s) (k : Int32) :
    ∃ v N1, mRuns mTab mInf (sXNl L) (sXF xs) 10 300 211 (0, lv_args 0 [.ref 525, .int k], [], N) (some (.int v), N1) ∧ zAll (b + 1) N1 ∧ zRl zR9 zXp 3 1 N N1 ∧ mAtk N1 1077256 = .int (sStorm k s) := by
  obtain ⟨v, N1, r1, r2, r3, r4, rl⟩ := zCheck lm_stormS (.inr (.inr rfl)) H hI hb (bs := [.ref 525, .int k]) ⟨rfl, ⟨k, rfl, z32 k⟩, trivial⟩
  obtain ⟨x, hx, -, -⟩ := r3
  have hx : v = some (.int x) := hx
  subst hx
  refine ⟨x, N1, r1, r2, rl, ?_⟩
  have hg := hI.2.1
  have hp := zInv_pm hI.2
  have hN := yMod_good hg
  have h0 := yRw_0 N 526 (fun _ => Value.null) 0
  obtain ⟨N0, e0⟩ : ∃ N0, N0 = mPut N 525 (mCset (mObj N 525) 0 (.int (Int32.ofInt 0))) := ⟨_, rfl⟩
  have g0 : zGood zR9 N0 := by rw [e0]; exact zGood_put hg (.inl rfl)
  have s0 : ∀ key, key < 2097152 → key ≠ 1075200 → mAtk N0 key = mAtk N key := fun key a e => by rw [e0]; exact zPut_at (by omega) a e
  have p0 : zPm N0 := zPm_eq (fun j hj => zN_eq (s0 _ (by omega) (by omega))) hp
  have hM0 := yMod_good g0
  have front : ∀ z, mRuns mTab mInf (sXNl L) (sXF xs) 10 300 211 (bif mIf .ne (if 1 ≤ k.toInt ∧ k.toInt ≤ 30 then Int32.ofInt 1 else Int32.ofInt 0) 0 then 18 else 16, lv_args 0 [.ref 525, .int k], [], N0) z → mRuns mTab mInf (sXNl L) (sXF xs) 10 300 211 (0, lv_args 0 [.ref 525, .int k], [], N) z := fun z hz => by
    refine st_aload h_211_0 (by rfl) ?_
    refine st_iconst h_211_1 ?_
    refine st_putfield h_211_2 (yM_lt hN h0 525 (by omega)) (yM_k hN h0) (yM_n hN h0 0 (by omega)) (by rw [hN.2.1.2]; rfl) rfl ?_
    rw [← e0]
    refine st_aload h_211_5 (by rfl) ?_
    refine st_iload h_211_6 (by rfl) ?_
    refine st_iconst h_211_7 ?_
    refine st_iconst h_211_8 ?_
    refine st_call (o := 525) (as := [.int k, .int (Int32.ofInt 1), .int (Int32.ofInt 30)]) (S := []) (w := some (.int (if 1 ≤ k.toInt ∧ k.toInt ≤ 30 then Int32.ofInt 1 else Int32.ofInt 0))) (M1 := N0) h_211_10 rfl rfl rfl (yM_b hM0) (yM_c hM0) rfl rfl rfl rfl (y126_run k (Int32.ofInt 1) (Int32.ofInt 30)) rfl ?_
    exact st_if h_211_13 hz
  have hand : ∃ w M, mRuns mTab mInf (sXNl L) (sXF xs) 10 300 211 (0, lv_args 0 [.ref 525, .int k], [], N) (w, M) ∧ mAtk M 1077256 = .int (sStorm k s) := by
    by_cases c : 1 ≤ k.toInt ∧ k.toInt ≤ 30
    · obtain ⟨n, hn⟩ : ∃ n : Nat, k.toInt = (n : Int) := ⟨k.toInt.toNat, by omega⟩
      have en : k = yI n := yI_of hn
      obtain ⟨M, Nl2, c2, m0, m2, m3⟩ := y211_loop (xs := xs) (L := L) H (n := n) (by omega) n 0 N0 [(3, .int (yI 0)), (2, .int (yI 0)), (0, .ref 525), (1, .int k)] s (yI 0) (by omega) rfl (by rw [en]; rfl) rfl rfl g0 p0 ((s0 _ (by decide) (by decide)).trans hs)
      refine ⟨some (.int c2), M, front _ ?_, by rw [m2]; unfold sStorm; rw [if_pos c, hn, Int.toNat_natCast]⟩
      rw [if_pos c, show mIf .ne (Int32.ofInt 1) 0 = true from by decide, cond_true]
      refine st_iconst h_211_18 ?_
      refine st_istore h_211_19 (by rfl) ?_
      refine st_iconst h_211_20 ?_
      refine st_istore h_211_21 (by rfl) ?_
      refine m3 _ ?_
      refine st_iload h_211_111 m0 ?_
      exact st_ireturn h_211_112 (ty := .int) rfl rfl
    · refine ⟨some (.int (Int32.ofInt (-1))), N0, front _ ?_, by unfold sStorm; rw [if_neg c]; exact (s0 _ (by decide) (by decide)).trans hs⟩
      rw [if_neg c, show mIf .ne (Int32.ofInt 0) 0 = false from by decide, cond_false]
      refine st_iconst h_211_16 ?_
      exact st_ireturn h_211_17 (ty := .int) rfl rfl
  obtain ⟨w, M, h1, h2⟩ := hand
  have ez := mRuns_one r1 h1
  have e2 : N1 = M := congrArg Prod.snd ez
  rw [e2]
  exact h2
/-- state of the class -/
theorem y99S (HC : ∀ mi, ∀ i ∈ zCt mi, zVal zC0 zXt mTab mInf (sXNl L) (sXF xs) mi i) {b : Nat} {N : mMem} (hI : zAll b N) {s : Int32} (hs : mAtk N 2050 = .int s) (k : Int32) :
    ∃ N1 kk, mRuns mTab mInf (sXNl L) (sXF xs) 10 300 99 (0, lv_args 0 [.ref 0, .int k], [], N) (some (.int s), N1) ∧ zAll b N1 ∧ zRl zC0 zXt 3 kk N N1 ∧ mAtk N1 2050 = .int k := by
  obtain ⟨v, N1, kk, r1, r2, r3, r4, rl⟩ := zClass lb_stateS HC hI (bs := [.ref 0, .int k]) ⟨rfl, ⟨k, rfl, z32 k⟩, trivial⟩
  have hg := hI.1
  have c0 := cMain hg
  have c1 := cRing hg (o := 1) (.inl rfl)
  have hs2 := hs
  rw [show 2050 = 1 * 2048 + 2 by decide, mAtk_key N (by omega)] at hs2
  have hand : mRuns mTab mInf (sXNl L) (sXF xs) 10 300 99 (0, lv_args 0 [.ref 0, .int k], [], N) (some (.int s), mPut N 1 (mCset (mObj N 1) 2 (.int k))) := by
    refine st_aload h_99_0 (by rfl) ?_
    refine st_getfield h_99_1 c0.1 c0.2.1 (by rw [c0.2.2]; rfl) (cRef hg (k := 0) (by omega)) ?_
    refine st_getfield h_99_4 c1.1 c1.2.1 (by rw [c1.2.2]; rfl) hs2 ?_
    refine st_istore h_99_7 (by rfl) ?_
    refine st_aload h_99_8 (by rfl) ?_
    refine st_getfield h_99_9 c0.1 c0.2.1 (by rw [c0.2.2]; rfl) (cRef hg (k := 0) (by omega)) ?_
    refine st_iload h_99_12 (by rfl) ?_
    refine st_putfield h_99_13 c1.1 c1.2.1 (by rw [c1.2.2]; rfl) (by rw [c1.2.2]; rfl) (by rfl) ?_
    refine st_iload h_99_16 (by rfl) ?_
    exact st_ireturn h_99_17 (ty := .int) rfl rfl
  have ez := mRuns_one r1 hand
  have e1 : v = some (.int s) := congrArg Prod.fst ez
  have e2 : N1 = mPut N 1 (mCset (mObj N 1) 2 (.int k)) := congrArg Prod.snd ez
  subst e1
  refine ⟨N1, kk, r1, r2, rl, ?_⟩
  rw [e2, mAtk_put (by omega) (by omega) (by decide)]
  exact if_pos (by decide)
/-- state of the check -/
theorem y209S (H : ∀ mi, ∀ i ∈ zQt mi, zVal zR9 zXp mTab mInf (sXNl L) (sXF xs) mi i) {b : Nat} {N : mMem} (hI : zAll b N) (hb : b ≤ 2147000000) {s : Int32} (hs : mAtk N 1077256 = .int s) (k : Int32) :
    ∃ N1, mRuns mTab mInf (sXNl L) (sXF xs) 10 300 209 (0, lv_args 0 [.ref 525, .int k], [], N) (some (.int s), N1) ∧ zAll (b + 1) N1 ∧ zRl zR9 zXp 3 1 N N1 ∧ mAtk N1 1077256 = .int k := by
  obtain ⟨v, N1, r1, r2, r3, r4, rl⟩ := zCheck lm_stateS (.inr (.inr rfl)) H hI hb (bs := [.ref 525, .int k]) ⟨rfl, ⟨k, rfl, z32 k⟩, trivial⟩
  have hg := hI.2.1
  have hN := yMod_good hg
  have h0 := yRw_0 N 526 (fun _ => Value.null) 0
  obtain ⟨N0, e0⟩ : ∃ N0, N0 = mPut N 525 (mCset (mObj N 525) 0 (.int (Int32.ofInt 0))) := ⟨_, rfl⟩
  have g0 : zGood zR9 N0 := by rw [e0]; exact zGood_put hg (.inl rfl)
  have s0 : ∀ key, key < 2097152 → key ≠ 1075200 → mAtk N0 key = mAtk N key := fun key a e => by rw [e0]; exact zPut_at (by omega) a e
  have hM0 := yMod_good g0
  have h00 := yRw_0 N0 526 (fun _ => Value.null) 0
  have hs2 := (s0 1077256 (by decide) (by decide)).trans hs
  rw [show 1077256 = 1077248 + 8 by decide, y_at N0 (by omega)] at hs2
  have hand : mRuns mTab mInf (sXNl L) (sXF xs) 10 300 209 (0, lv_args 0 [.ref 525, .int k], [], N) (some (.int s), mPut N0 526 (mCset (mObj N0 526) 8 (.int k))) := by
    refine st_aload h_209_0 (by rfl) ?_
    refine st_iconst h_209_1 ?_
    refine st_putfield h_209_2 (yM_lt hN h0 525 (by omega)) (yM_k hN h0) (yM_n hN h0 0 (by omega)) (by rw [hN.2.1.2]; rfl) rfl ?_
    rw [← e0]
    refine st_aload h_209_5 (by rfl) ?_
    refine st_getfield h_209_6 (yM_lt hM0 h00 525 (by omega)) (yM_k hM0 h00) (yM_n hM0 h00 1 (by omega)) (yM_f h00 (by omega) 1 (by omega) hM0.2.2.1.1) ?_
    refine st_iconst h_209_9 ?_
    refine st_iaload (i := yI 8) (x := s) h_209_11 rfl (yM_lt hM0 h00 526 (by omega)) (yR_k hM0 h00 526 (by omega) (by omega)) (yR_i hM0 h00 526 (by omega) (by omega) (by omega)) (by rw [yI_nat (by omega)]; exact hs2) ?_
    refine st_istore h_209_12 (by rfl) ?_
    refine st_aload h_209_13 (by rfl) ?_
    refine st_getfield h_209_14 (yM_lt hM0 h00 525 (by omega)) (yM_k hM0 h00) (yM_n hM0 h00 1 (by omega)) (yM_f h00 (by omega) 1 (by omega) hM0.2.2.1.1) ?_
    refine st_iconst h_209_17 ?_
    refine st_iload h_209_19 (by rfl) ?_
    refine st_iastore (i := yI 8) h_209_20 (yM_lt hM0 h00 526 (by omega)) (yR_k hM0 h00 526 (by omega) (by omega)) (yR_i hM0 h00 526 (by omega) (by omega) (by omega)) ?_
    rw [yI_nat (by omega)]
    refine st_iload h_209_21 (by rfl) ?_
    exact st_ireturn h_209_22 (ty := .int) rfl rfl
  have ez := mRuns_one r1 hand
  have e1 : v = some (.int s) := congrArg Prod.fst ez
  have e2 : N1 = mPut N0 526 (mCset (mObj N0 526) 8 (.int k)) := congrArg Prod.snd ez
  subst e1
  refine ⟨N1, r1, r2, rl, ?_⟩
  rw [e2, mAtk_put (by omega) (by omega) (by decide)]
  exact if_pos (by decide)
/-- the relation through state and storm -/
theorem lRel_st {N N1 N2 : mMem} {k1 k2 : Nat} {u : Int32} (hr : lRel N) (h1 : zRl zC0 zXt 3 k1 N N1) (e1 : mAtk N1 2050 = .int u) (h2 : zRl zR9 zXp 3 k2 N1 N2) (e2 : mAtk N2 1077256 = .int u) : lRel N2 := by
  have mv := zMv_rl h2
  have hf := (zRk_k (.inr (.inr (.inl rfl))) h2).1
  obtain ⟨f5, f6, fa, -, fc, f8⟩ := hf
  have fa := fa (by omega)
  have fc := fc (by omega)
  have lo := fun key (h : key < 1075200) => mv.2.2 key h
  have k3 : ∀ key, key < 2097152 → zKc 3 key = true → mAtk N1 key = mAtk N key := fun key a b => h1.2.2.2.1 key a b
  have lo2 : ∀ key, key < 1075200 → zKc 3 key = true → mAtk N2 key = mAtk N key := fun key a b => (lo key a).trans (k3 key (by omega) b)
  have hi2 : ∀ key, 1075200 ≤ key → key < 2097152 → mAtk N1 key = mAtk N key := fun key a b => k3 key b (by
    unfold zKc
    rw [Nat.ble_eq.mpr a]
    rfl)
  obtain ⟨r1, r2, r3, r4⟩ := hr
  refine ⟨f5.trans ((hi2 _ (by decide) (by decide)).trans (r1.trans (lo2 4 (by decide) (by decide +kernel)).symm)), fun k u v => ?_, ?_, fun e => ?_⟩
  · obtain rfl | rfl | rfl := (by omega : k = 1 ∨ k = 2 ∨ k = 3)
    · exact (lo2 270337 (by decide) (by decide +kernel)).trans (r2 1 u v)
    · exact (lo2 270338 (by decide) (by decide +kernel)).trans (r2 2 u v)
    · exact (lo2 270339 (by decide) (by decide +kernel)).trans (r2 3 u v)
  · obtain ⟨⟨n', x', d1, d2, d3⟩, g1, g2, g3⟩ := r3
    refine ⟨⟨n', x', (lo2 2048 (by decide) (by decide +kernel)).trans d1, f6.trans ((hi2 _ (by decide) (by decide)).trans d2), d3⟩, fun q => ?_, fun _ => ⟨u, (lo _ (by decide)).trans e1, e2⟩, fun q => ?_⟩
    · obtain ⟨s, s1, s2⟩ := g1 q
      exact ⟨s, (lo2 2049 (by decide) (by decide +kernel)).trans s1, fa.trans ((hi2 _ (by decide) (by decide)).trans s2)⟩
    · obtain ⟨w, u0, u1, u2, u3⟩ := g3 q
      refine ⟨w, u0, u1, (lo2 2051 (by decide) (by decide +kernel)).trans u2, fun j hj => ?_⟩
      have e := fc j hj
      show mAtk N2 (1077248 + (30 + j)) = _
      rw [show 1077248 + (30 + j) = 1077278 + j by omega, e, hi2 _ (by omega) (by omega)]
      have w := u3 j hj
      have w : mAtk N (1077248 + (30 + j)) = _ := w
      rw [show 1077248 + (30 + j) = 1077278 + j by omega] at w
      exact w
  · rw [lo2 4 (by decide) (by decide +kernel)] at e
    refine lSide_all (fun k hk => ?_) (fun k hk => (f8 k hk).trans (hi2 _ (by omega) (by omega))) (r4 e)
    obtain rfl | rfl | rfl | rfl := (by omega : k = 0 ∨ k = 1 ∨ k = 2 ∨ k = 3)
    · exact lo2 806912 (by decide) (by decide +kernel)
    · exact lo2 806913 (by decide) (by decide +kernel)
    · exact lo2 806914 (by decide) (by decide +kernel)
    · exact lo2 806915 (by decide) (by decide +kernel)
end YSM
