/-! Pieces of methods, by program out of the tables: 145 to 171. -/
theorem f_35_0 : ftc (PT 35) 0 = some (0, .aload_n 2, 1, 0, 0, 0) := by decide +kernel
theorem f_35_1 : ftc (PT 35) 1 = some (1, .aload_n 0, 1, 0, 0, 0) := by decide +kernel
theorem f_35_2 : ftc (PT 35) 2 = some (2, .getfield 17, 3, 4, 2, 356) := by decide +kernel
theorem f_35_5 : ftc (PT 35) 5 = some (5, .aload_n 0, 1, 0, 0, 0) := by decide +kernel
theorem f_35_6 : ftc (PT 35) 6 = some (6, .getfield 33, 3, 4, 7, 361) := by decide +kernel
theorem f_35_9 : ftc (PT 35) 9 = some (9, .lmul, 1, 0, 0, 0) := by decide +kernel
theorem f_35_10 : ftc (PT 35) 10 = some (10, .aload_n 0, 1, 0, 0, 0) := by decide +kernel
theorem f_35_11 : ftc (PT 35) 11 = some (11, .iload_n 1, 1, 0, 0, 0) := by decide +kernel
theorem f_35_12 : ftc (PT 35) 12 = some (12, .invokevirtual 57, 3, 36, 2084, 1275) := by decide +kernel
theorem f_35_15 : ftc (PT 35) 15 = some (15, .ladd, 1, 0, 0, 0) := by decide +kernel
theorem f_35_16 : ftc (PT 35) 16 = some (16, .aload_n 0, 1, 0, 0, 0) := by decide +kernel
theorem f_35_17 : ftc (PT 35) 17 = some (17, .getfield 17, 3, 4, 2, 356) := by decide +kernel
theorem f_35_20 : ftc (PT 35) 20 = some (20, .aload_n 0, 1, 0, 0, 0) := by decide +kernel
theorem f_35_21 : ftc (PT 35) 21 = some (21, .getfield 30, 3, 4, 6, 360) := by decide +kernel
theorem f_35_24 : ftc (PT 35) 24 = some (24, .lmul, 1, 0, 0, 0) := by decide +kernel
theorem f_35_25 : ftc (PT 35) 25 = some (25, .invokevirtual 60, 3, 25, 9283, 1279) := by decide +kernel
theorem f_36_0 : ftc (PT 36) 0 = some (0, .iload_n 1, 1, 0, 0, 0) := by decide +kernel
theorem f_36_1 : ftc (PT 36) 1 = some (1, .ifCond .ne 7, 3, 8, 0, 0) := by decide +kernel
theorem f_36_4 : ftc (PT 36) 4 = some (4, .iconst 1, 1, 0, 0, 0) := by decide +kernel
theorem f_36_5 : ftc (PT 36) 5 = some (5, .goto 4, 3, 9, 0, 0) := by decide +kernel
theorem f_36_8 : ftc (PT 36) 8 = some (8, .iconst 0, 1, 0, 0, 0) := by decide +kernel
theorem f_36_9 : ftc (PT 36) 9 = some (9, .aload_n 0, 1, 0, 0, 0) := by decide +kernel
theorem f_36_10 : ftc (PT 36) 10 = some (10, .getfield 30, 3, 4, 6, 360) := by decide +kernel
theorem f_36_13 : ftc (PT 36) 13 = some (13, .lconst 0, 1, 0, 0, 0) := by decide +kernel
theorem f_36_14 : ftc (PT 36) 14 = some (14, .lcmp, 1, 0, 0, 0) := by decide +kernel
theorem f_36_15 : ftc (PT 36) 15 = some (15, .ifCond .le 7, 3, 22, 0, 0) := by decide +kernel
theorem f_36_18 : ftc (PT 36) 18 = some (18, .iconst 1, 1, 0, 0, 0) := by decide +kernel
theorem f_36_19 : ftc (PT 36) 19 = some (19, .goto 4, 3, 23, 0, 0) := by decide +kernel
theorem f_36_22 : ftc (PT 36) 22 = some (22, .iconst 0, 1, 0, 0, 0) := by decide +kernel
theorem f_36_23 : ftc (PT 36) 23 = some (23, .if_icmp .ne 11, 3, 34, 0, 0) := by decide +kernel
theorem f_36_26 : ftc (PT 36) 26 = some (26, .aload_n 0, 1, 0, 0, 0) := by decide +kernel
theorem f_36_27 : ftc (PT 36) 27 = some (27, .getfield 27, 3, 4, 5, 359) := by decide +kernel
theorem f_36_30 : ftc (PT 36) 30 = some (30, .lneg, 1, 0, 0, 0) := by decide +kernel
theorem f_36_31 : ftc (PT 36) 31 = some (31, .goto 7, 3, 38, 0, 0) := by decide +kernel
theorem f_36_34 : ftc (PT 36) 34 = some (34, .aload_n 0, 1, 0, 0, 0) := by decide +kernel
theorem f_36_35 : ftc (PT 36) 35 = some (35, .getfield 27, 3, 4, 5, 359) := by decide +kernel
theorem f_36_38 : ftc (PT 36) 38 = some (38, .lreturn, 1, 0, 0, 0) := by decide +kernel
theorem f_37_0 : ftc (PT 37) 0 = some (0, .aload_n 2, 1, 0, 0, 0) := by decide +kernel
theorem f_37_1 : ftc (PT 37) 1 = some (1, .aload_n 0, 1, 0, 0, 0) := by decide +kernel
theorem f_37_2 : ftc (PT 37) 2 = some (2, .getfield 21, 3, 4, 3, 357) := by decide +kernel
theorem f_37_5 : ftc (PT 37) 5 = some (5, .aload_n 0, 1, 0, 0, 0) := by decide +kernel
theorem f_37_6 : ftc (PT 37) 6 = some (6, .getfield 33, 3, 4, 7, 361) := by decide +kernel
theorem f_37_9 : ftc (PT 37) 9 = some (9, .lmul, 1, 0, 0, 0) := by decide +kernel
theorem f_37_10 : ftc (PT 37) 10 = some (10, .aload_n 0, 1, 0, 0, 0) := by decide +kernel
theorem f_37_11 : ftc (PT 37) 11 = some (11, .iload_n 1, 1, 0, 0, 0) := by decide +kernel
theorem f_37_12 : ftc (PT 37) 12 = some (12, .invokevirtual 57, 3, 36, 2084, 1275) := by decide +kernel
theorem f_37_15 : ftc (PT 37) 15 = some (15, .ladd, 1, 0, 0, 0) := by decide +kernel
theorem f_37_16 : ftc (PT 37) 16 = some (16, .aload_n 0, 1, 0, 0, 0) := by decide +kernel
theorem f_37_17 : ftc (PT 37) 17 = some (17, .getfield 24, 3, 4, 4, 358) := by decide +kernel
theorem f_37_20 : ftc (PT 37) 20 = some (20, .aload_n 0, 1, 0, 0, 0) := by decide +kernel
theorem f_37_21 : ftc (PT 37) 21 = some (21, .getfield 30, 3, 4, 6, 360) := by decide +kernel
theorem f_37_24 : ftc (PT 37) 24 = some (24, .lmul, 1, 0, 0, 0) := by decide +kernel
theorem f_37_25 : ftc (PT 37) 25 = some (25, .lsub, 1, 0, 0, 0) := by decide +kernel
theorem f_37_26 : ftc (PT 37) 26 = some (26, .aload_n 0, 1, 0, 0, 0) := by decide +kernel
theorem f_37_27 : ftc (PT 37) 27 = some (27, .getfield 21, 3, 4, 3, 357) := by decide +kernel
theorem f_37_30 : ftc (PT 37) 30 = some (30, .aload_n 0, 1, 0, 0, 0) := by decide +kernel
theorem f_37_31 : ftc (PT 37) 31 = some (31, .getfield 30, 3, 4, 6, 360) := by decide +kernel
theorem f_37_34 : ftc (PT 37) 34 = some (34, .lmul, 1, 0, 0, 0) := by decide +kernel
theorem f_37_35 : ftc (PT 37) 35 = some (35, .invokevirtual 60, 3, 25, 9283, 1279) := by decide +kernel
theorem f_56_0 : ftc (PT 56) 0 = some (0, .aload_n 0, 1, 0, 0, 0) := by decide +kernel
theorem f_56_1 : ftc (PT 56) 1 = some (1, .getfield 7, 3, 6, 0, 271) := by decide +kernel
theorem f_56_4 : ftc (PT 56) 4 = some (4, .lconst 0, 1, 0, 0, 0) := by decide +kernel
theorem f_56_5 : ftc (PT 56) 5 = some (5, .lcmp, 1, 0, 0, 0) := by decide +kernel
theorem f_56_6 : ftc (PT 56) 6 = some (6, .ifCond .ne 16, 3, 22, 0, 0) := by decide +kernel
theorem f_56_9 : ftc (PT 56) 9 = some (9, .aload_n 0, 1, 0, 0, 0) := by decide +kernel
theorem f_56_10 : ftc (PT 56) 10 = some (10, .getfield 13, 3, 6, 1, 275) := by decide +kernel
theorem f_56_13 : ftc (PT 56) 13 = some (13, .lconst 0, 1, 0, 0, 0) := by decide +kernel
theorem f_56_14 : ftc (PT 56) 14 = some (14, .lcmp, 1, 0, 0, 0) := by decide +kernel
theorem f_56_15 : ftc (PT 56) 15 = some (15, .ifCond .ne 7, 3, 22, 0, 0) := by decide +kernel
theorem f_56_18 : ftc (PT 56) 18 = some (18, .iconst 1, 1, 0, 0, 0) := by decide +kernel
theorem f_56_19 : ftc (PT 56) 19 = some (19, .goto 4, 3, 23, 0, 0) := by decide +kernel
theorem f_56_22 : ftc (PT 56) 22 = some (22, .iconst 0, 1, 0, 0, 0) := by decide +kernel
theorem f_56_23 : ftc (PT 56) 23 = some (23, .ireturn, 1, 1, 0, 0) := by decide +kernel
theorem f_57_0 : ftc (PT 57) 0 = some (0, .iload_n 1, 1, 0, 0, 0) := by decide +kernel
theorem f_57_1 : ftc (PT 57) 1 = some (1, .ifCond .eq 18, 3, 19, 0, 0) := by decide +kernel
theorem f_57_4 : ftc (PT 57) 4 = some (4, .aload_n 2, 1, 0, 0, 0) := by decide +kernel
theorem f_57_5 : ftc (PT 57) 5 = some (5, .aload_n 0, 1, 0, 0, 0) := by decide +kernel
theorem f_57_6 : ftc (PT 57) 6 = some (6, .getfield 7, 3, 6, 0, 271) := by decide +kernel
theorem f_57_9 : ftc (PT 57) 9 = some (9, .aload_n 0, 1, 0, 0, 0) := by decide +kernel
theorem f_57_10 : ftc (PT 57) 10 = some (10, .getfield 16, 3, 6, 2, 279) := by decide +kernel
theorem f_57_13 : ftc (PT 57) 13 = some (13, .invokevirtual 45, 3, 25, 9283, 1234) := by decide +kernel
theorem f_57_19 : ftc (PT 57) 19 = some (19, .aload_n 2, 1, 0, 0, 0) := by decide +kernel
theorem f_57_20 : ftc (PT 57) 20 = some (20, .aload_n 0, 1, 0, 0, 0) := by decide +kernel
theorem f_57_21 : ftc (PT 57) 21 = some (21, .getfield 7, 3, 6, 0, 271) := by decide +kernel
theorem f_57_24 : ftc (PT 57) 24 = some (24, .aload_n 0, 1, 0, 0, 0) := by decide +kernel
theorem f_57_25 : ftc (PT 57) 25 = some (25, .getfield 16, 3, 6, 2, 279) := by decide +kernel
theorem f_57_28 : ftc (PT 57) 28 = some (28, .lmul, 1, 0, 0, 0) := by decide +kernel
theorem f_57_29 : ftc (PT 57) 29 = some (29, .aload_n 0, 1, 0, 0, 0) := by decide +kernel
theorem f_57_30 : ftc (PT 57) 30 = some (30, .invokevirtual 48, 3, 55, 1030, 1235) := by decide +kernel
theorem f_57_33 : ftc (PT 57) 33 = some (33, .invokevirtual 45, 3, 25, 9283, 1234) := by decide +kernel
theorem f_84_0 : ftc (PT 84) 0 = some (0, .aload_n 0, 1, 0, 0, 0) := by decide +kernel
theorem f_84_1 : ftc (PT 84) 1 = some (1, .aload_n 1, 1, 0, 0, 0) := by decide +kernel
theorem f_84_2 : ftc (PT 84) 2 = some (2, .getfield 9, 3, 10, 0, 248) := by decide +kernel
theorem f_84_5 : ftc (PT 84) 5 = some (5, .putfield 9, 3, 10, 0, 248) := by decide +kernel
theorem f_84_8 : ftc (PT 84) 8 = some (8, .aload_n 0, 1, 0, 0, 0) := by decide +kernel
theorem f_84_9 : ftc (PT 84) 9 = some (9, .aload_n 1, 1, 0, 0, 0) := by decide +kernel
theorem f_84_10 : ftc (PT 84) 10 = some (10, .getfield 15, 3, 10, 1, 250) := by decide +kernel
theorem f_84_13 : ftc (PT 84) 13 = some (13, .putfield 15, 3, 10, 1, 250) := by decide +kernel
theorem f_84_16 : ftc (PT 84) 16 = some (16, .aload_n 0, 1, 0, 0, 0) := by decide +kernel
theorem f_84_17 : ftc (PT 84) 17 = some (17, .aload_n 1, 1, 0, 0, 0) := by decide +kernel
theorem f_84_18 : ftc (PT 84) 18 = some (18, .getfield 18, 3, 10, 2, 252) := by decide +kernel
theorem f_84_21 : ftc (PT 84) 21 = some (21, .putfield 18, 3, 10, 2, 252) := by decide +kernel
theorem f_84_24 : ftc (PT 84) 24 = some (24, .aload_n 0, 1, 0, 0, 0) := by decide +kernel
theorem f_84_25 : ftc (PT 84) 25 = some (25, .aload_n 1, 1, 0, 0, 0) := by decide +kernel
theorem f_84_26 : ftc (PT 84) 26 = some (26, .getfield 21, 3, 10, 3, 254) := by decide +kernel
theorem f_84_29 : ftc (PT 84) 29 = some (29, .putfield 21, 3, 10, 3, 254) := by decide +kernel
theorem f_84_32 : ftc (PT 84) 32 = some (32, .return_, 1, 0, 0, 0) := by decide +kernel
theorem f_85_0 : ftc (PT 85) 0 = some (0, .iload_n 1, 1, 0, 0, 0) := by decide +kernel
theorem f_85_1 : ftc (PT 85) 1 = some (1, .ifCond .eq 10, 3, 11, 0, 0) := by decide +kernel
theorem f_85_4 : ftc (PT 85) 4 = some (4, .aload_n 0, 1, 0, 0, 0) := by decide +kernel
theorem f_85_5 : ftc (PT 85) 5 = some (5, .invokevirtual 32, 3, 83, 1034, 1320) := by decide +kernel
theorem f_85_8 : ftc (PT 85) 8 = some (8, .goto 7, 3, 15, 0, 0) := by decide +kernel
theorem f_85_11 : ftc (PT 85) 11 = some (11, .aload_n 0, 1, 0, 0, 0) := by decide +kernel
theorem f_85_12 : ftc (PT 85) 12 = some (12, .invokevirtual 36, 3, 86, 1034, 1321) := by decide +kernel
theorem f_85_15 : ftc (PT 85) 15 = some (15, .lreturn, 1, 0, 0, 0) := by decide +kernel
theorem f_86_0 : ftc (PT 86) 0 = some (0, .aload_n 0, 1, 0, 0, 0) := by decide +kernel
theorem f_86_1 : ftc (PT 86) 1 = some (1, .getfield 9, 3, 10, 0, 248) := by decide +kernel
theorem f_86_4 : ftc (PT 86) 4 = some (4, .aload_n 0, 1, 0, 0, 0) := by decide +kernel
theorem f_86_5 : ftc (PT 86) 5 = some (5, .getfield 9, 3, 10, 0, 248) := by decide +kernel
theorem f_86_8 : ftc (PT 86) 8 = some (8, .lmul, 1, 0, 0, 0) := by decide +kernel
theorem f_86_9 : ftc (PT 86) 9 = some (9, .aload_n 0, 1, 0, 0, 0) := by decide +kernel
theorem f_86_10 : ftc (PT 86) 10 = some (10, .getfield 15, 3, 10, 1, 250) := by decide +kernel
theorem f_86_13 : ftc (PT 86) 13 = some (13, .aload_n 0, 1, 0, 0, 0) := by decide +kernel
theorem f_86_14 : ftc (PT 86) 14 = some (14, .getfield 15, 3, 10, 1, 250) := by decide +kernel
theorem f_86_17 : ftc (PT 86) 17 = some (17, .lmul, 1, 0, 0, 0) := by decide +kernel
theorem f_86_18 : ftc (PT 86) 18 = some (18, .ladd, 1, 0, 0, 0) := by decide +kernel
theorem f_86_19 : ftc (PT 86) 19 = some (19, .lreturn, 1, 0, 0, 0) := by decide +kernel
theorem f_145_132 : ftc (PT 145) 132 = some (132, .ifCond .ne 11, 3, 143, 0, 0) := by decide +kernel
theorem f_145_143 : ftc (PT 145) 143 = some (143, .aload_n 0, 1, 0, 0, 0) := by decide +kernel
theorem f_145_144 : ftc (PT 145) 144 = some (144, .getfield 19, 3, 11, 1, 469) := by decide +kernel
theorem f_145_147 : ftc (PT 145) 147 = some (147, .iconst 0, 1, 0, 0, 0) := by decide +kernel
theorem f_145_148 : ftc (PT 145) 148 = some (148, .lload 4, 2, 0, 0, 0) := by decide +kernel
theorem f_145_150 : ftc (PT 145) 150 = some (150, .l2i, 1, 0, 0, 0) := by decide +kernel
theorem f_145_151 : ftc (PT 145) 151 = some (151, .lload 6, 2, 0, 0, 0) := by decide +kernel
theorem f_145_153 : ftc (PT 145) 153 = some (153, .l2i, 1, 0, 0, 0) := by decide +kernel
theorem f_145_154 : ftc (PT 145) 154 = some (154, .invokevirtual 133, 3, 19, 4194, 871) := by decide +kernel
theorem f_145_157 : ftc (PT 145) 157 = some (157, .aload_n 0, 1, 0, 0, 0) := by decide +kernel
theorem f_145_158 : ftc (PT 145) 158 = some (158, .getfield 19, 3, 11, 1, 469) := by decide +kernel
theorem f_145_161 : ftc (PT 145) 161 = some (161, .iload_n 1, 1, 0, 0, 0) := by decide +kernel
theorem f_145_162 : ftc (PT 145) 162 = some (162, .iload_n 3, 1, 0, 0, 0) := by decide +kernel
theorem f_145_163 : ftc (PT 145) 163 = some (163, .invokestatic 301, 3, 146, 2050, 1208) := by decide +kernel
theorem f_145_166 : ftc (PT 145) 166 = some (166, .aload_n 0, 1, 0, 0, 0) := by decide +kernel
theorem f_145_167 : ftc (PT 145) 167 = some (167, .getfield 62, 3, 11, 10, 478) := by decide +kernel
theorem f_145_170 : ftc (PT 145) 170 = some (170, .getfield 291, 3, 3, 0, 298) := by decide +kernel
theorem f_145_173 : ftc (PT 145) 173 = some (173, .l2i, 1, 0, 0, 0) := by decide +kernel
theorem f_145_174 : ftc (PT 145) 174 = some (174, .aload_n 0, 1, 0, 0, 0) := by decide +kernel
theorem f_145_175 : ftc (PT 145) 175 = some (175, .getfield 62, 3, 11, 10, 478) := by decide +kernel
theorem f_145_178 : ftc (PT 145) 178 = some (178, .getfield 294, 3, 3, 1, 301) := by decide +kernel
theorem f_145_181 : ftc (PT 145) 181 = some (181, .l2i, 1, 0, 0, 0) := by decide +kernel
theorem f_145_182 : ftc (PT 145) 182 = some (182, .invokevirtual 133, 3, 19, 4194, 871) := by decide +kernel
theorem f_145_185 : ftc (PT 145) 185 = some (185, .aload_n 0, 1, 0, 0, 0) := by decide +kernel
theorem f_145_186 : ftc (PT 145) 186 = some (186, .getfield 19, 3, 11, 1, 469) := by decide +kernel
theorem f_145_189 : ftc (PT 145) 189 = some (189, .getfield 127, 3, 2, 3, 221) := by decide +kernel
theorem f_145_192 : ftc (PT 145) 192 = some (192, .ireturn, 1, 0, 0, 0) := by decide +kernel
theorem f_146_0 : ftc (PT 146) 0 = some (0, .iload_n 0, 1, 0, 0, 0) := by decide +kernel
theorem f_146_1 : ftc (PT 146) 1 = some (1, .ifCond .eq 13, 3, 14, 0, 0) := by decide +kernel
theorem f_146_4 : ftc (PT 146) 4 = some (4, .iload_n 1, 1, 0, 0, 0) := by decide +kernel
theorem f_146_5 : ftc (PT 146) 5 = some (5, .ifCond .eq 7, 3, 12, 0, 0) := by decide +kernel
theorem f_146_8 : ftc (PT 146) 8 = some (8, .iconst 3, 1, 0, 0, 0) := by decide +kernel
theorem f_146_9 : ftc (PT 146) 9 = some (9, .goto 4, 3, 13, 0, 0) := by decide +kernel
theorem f_146_12 : ftc (PT 146) 12 = some (12, .iconst 4, 1, 0, 0, 0) := by decide +kernel
theorem f_146_13 : ftc (PT 146) 13 = some (13, .ireturn, 1, 0, 0, 0) := by decide +kernel
theorem f_146_14 : ftc (PT 146) 14 = some (14, .iload_n 1, 1, 0, 0, 0) := by decide +kernel
theorem f_146_15 : ftc (PT 146) 15 = some (15, .ifCond .eq 7, 3, 22, 0, 0) := by decide +kernel
theorem f_146_18 : ftc (PT 146) 18 = some (18, .iconst 1, 1, 0, 0, 0) := by decide +kernel
theorem f_146_19 : ftc (PT 146) 19 = some (19, .goto 4, 3, 23, 0, 0) := by decide +kernel
theorem f_146_22 : ftc (PT 146) 22 = some (22, .iconst 2, 1, 0, 0, 0) := by decide +kernel
theorem f_146_23 : ftc (PT 146) 23 = some (23, .ireturn, 1, 0, 0, 0) := by decide +kernel
theorem f_147_11 : ftc (PT 147) 11 = some (11, .aload_n 0, 1, 0, 0, 0) := by decide +kernel
theorem f_147_12 : ftc (PT 147) 12 = some (12, .getfield 55, 3, 11, 9, 477) := by decide +kernel
theorem f_147_15 : ftc (PT 147) 15 = some (15, .iload_n 2, 1, 0, 0, 0) := by decide +kernel
theorem f_147_16 : ftc (PT 147) 16 = some (16, .aload_n 0, 1, 0, 0, 0) := by decide +kernel
theorem f_147_17 : ftc (PT 147) 17 = some (17, .getfield 62, 3, 11, 10, 478) := by decide +kernel
theorem f_147_20 : ftc (PT 147) 20 = some (20, .invokevirtual 308, 3, 57, 3142, 1230) := by decide +kernel
theorem f_147_23 : ftc (PT 147) 23 = some (23, .aload_n 0, 1, 0, 0, 0) := by decide +kernel
theorem f_147_24 : ftc (PT 147) 24 = some (24, .getfield 62, 3, 11, 10, 478) := by decide +kernel
theorem f_147_27 : ftc (PT 147) 27 = some (27, .iload_n 3, 1, 0, 0, 0) := by decide +kernel
theorem f_147_28 : ftc (PT 147) 28 = some (28, .invokevirtual 218, 3, 31, 2083, 974) := by decide +kernel
theorem f_147_31 : ftc (PT 147) 31 = some (31, .lreturn, 1, 0, 0, 0) := by decide +kernel
theorem f_148_0 : ftc (PT 148) 0 = some (0, .aload_n 0, 1, 0, 0, 0) := by decide +kernel
theorem f_148_1 : ftc (PT 148) 1 = some (1, .iload_n 1, 1, 0, 0, 0) := by decide +kernel
theorem f_148_2 : ftc (PT 148) 2 = some (2, .invokevirtual 353, 3, 136, 2091, 1066) := by decide +kernel
theorem f_148_5 : ftc (PT 148) 5 = some (5, .aload_n 0, 1, 0, 0, 0) := by decide +kernel
theorem f_148_6 : ftc (PT 148) 6 = some (6, .iload_n 2, 1, 0, 0, 0) := by decide +kernel
theorem f_148_7 : ftc (PT 148) 7 = some (7, .invokevirtual 478, 3, 149, 2091, 1222) := by decide +kernel
theorem f_148_10 : ftc (PT 148) 10 = some (10, .return_, 1, 0, 0, 0) := by decide +kernel
theorem f_149_0 : ftc (PT 149) 0 = some (0, .iload_n 1, 1, 0, 0, 0) := by decide +kernel
theorem f_149_1 : ftc (PT 149) 1 = some (1, .ifCond .ne 21, 3, 22, 0, 0) := by decide +kernel
theorem f_149_4 : ftc (PT 149) 4 = some (4, .aload_n 0, 1, 0, 0, 0) := by decide +kernel
theorem f_149_5 : ftc (PT 149) 5 = some (5, .getfield 55, 3, 11, 9, 477) := by decide +kernel
theorem f_149_8 : ftc (PT 149) 8 = some (8, .invokevirtual 481, 3, 56, 1030, 1226) := by decide +kernel
theorem f_149_11 : ftc (PT 149) 11 = some (11, .ifCond .eq 11, 3, 22, 0, 0) := by decide +kernel
theorem f_149_14 : ftc (PT 149) 14 = some (14, .new 130, 3, 102, 6, 856) := by decide +kernel
theorem f_149_22 : ftc (PT 149) 22 = some (22, .return_, 1, 0, 0, 0) := by decide +kernel
theorem f_150_6 : ftc (PT 150) 6 = some (6, .aload_n 0, 1, 0, 0, 0) := by decide +kernel
theorem f_150_7 : ftc (PT 150) 7 = some (7, .getfield 62, 3, 11, 10, 478) := by decide +kernel
theorem f_150_10 : ftc (PT 150) 10 = some (10, .iload_n 1, 1, 0, 0, 0) := by decide +kernel
theorem f_150_11 : ftc (PT 150) 11 = some (11, .i2l, 1, 0, 0, 0) := by decide +kernel
theorem f_150_12 : ftc (PT 150) 12 = some (12, .iload_n 1, 1, 0, 0, 0) := by decide +kernel
theorem f_150_13 : ftc (PT 150) 13 = some (13, .i2l, 1, 0, 0, 0) := by decide +kernel
theorem f_150_14 : ftc (PT 150) 14 = some (14, .lmul, 1, 0, 0, 0) := by decide +kernel
theorem f_150_15 : ftc (PT 150) 15 = some (15, .iload_n 2, 1, 0, 0, 0) := by decide +kernel
theorem f_150_16 : ftc (PT 150) 16 = some (16, .i2l, 1, 0, 0, 0) := by decide +kernel
theorem f_150_17 : ftc (PT 150) 17 = some (17, .iload_n 2, 1, 0, 0, 0) := by decide +kernel
theorem f_150_18 : ftc (PT 150) 18 = some (18, .i2l, 1, 0, 0, 0) := by decide +kernel
theorem f_150_19 : ftc (PT 150) 19 = some (19, .lmul, 1, 0, 0, 0) := by decide +kernel
theorem f_150_20 : ftc (PT 150) 20 = some (20, .ladd, 1, 0, 0, 0) := by decide +kernel
theorem f_150_21 : ftc (PT 150) 21 = some (21, .iload_n 1, 1, 0, 0, 0) := by decide +kernel
theorem f_150_22 : ftc (PT 150) 22 = some (22, .i2l, 1, 0, 0, 0) := by decide +kernel
theorem f_150_23 : ftc (PT 150) 23 = some (23, .iload_n 1, 1, 0, 0, 0) := by decide +kernel
theorem f_150_24 : ftc (PT 150) 24 = some (24, .i2l, 1, 0, 0, 0) := by decide +kernel
theorem f_150_25 : ftc (PT 150) 25 = some (25, .lmul, 1, 0, 0, 0) := by decide +kernel
theorem f_150_26 : ftc (PT 150) 26 = some (26, .invokevirtual 214, 3, 25, 9283, 652) := by decide +kernel
theorem f_150_29 : ftc (PT 150) 29 = some (29, .aload_n 0, 1, 0, 0, 0) := by decide +kernel
theorem f_150_30 : ftc (PT 150) 30 = some (30, .getfield 62, 3, 11, 10, 478) := by decide +kernel
theorem f_150_33 : ftc (PT 150) 33 = some (33, .iload_n 3, 1, 0, 0, 0) := by decide +kernel
theorem f_150_34 : ftc (PT 150) 34 = some (34, .invokevirtual 218, 3, 31, 2083, 974) := by decide +kernel
theorem f_150_37 : ftc (PT 150) 37 = some (37, .l2i, 1, 0, 0, 0) := by decide +kernel
theorem f_150_38 : ftc (PT 150) 38 = some (38, .ireturn, 1, 0, 0, 0) := by decide +kernel
theorem f_151_7 : ftc (PT 151) 7 = some (7, .ifCond .eq 7, 3, 14, 0, 0) := by decide +kernel
theorem f_151_10 : ftc (PT 151) 10 = some (10, .iload_n 1, 1, 0, 0, 0) := by decide +kernel
theorem f_151_11 : ftc (PT 151) 11 = some (11, .ifCond .ne 11, 3, 22, 0, 0) := by decide +kernel
theorem f_151_14 : ftc (PT 151) 14 = some (14, .new 116, 3, 101, 6, 773) := by decide +kernel
theorem f_151_22 : ftc (PT 151) 22 = some (22, .return_, 1, 0, 0, 0) := by decide +kernel
theorem f_152_12 : ftc (PT 152) 12 = some (12, .aload_n 0, 1, 0, 0, 0) := by decide +kernel
theorem f_152_13 : ftc (PT 152) 13 = some (13, .iload_n 1, 1, 0, 0, 0) := by decide +kernel
theorem f_152_14 : ftc (PT 152) 14 = some (14, .iload_n 2, 1, 0, 0, 0) := by decide +kernel
theorem f_152_15 : ftc (PT 152) 15 = some (15, .invokevirtual 305, 3, 148, 3147, 1218) := by decide +kernel
theorem f_152_18 : ftc (PT 152) 18 = some (18, .aload_n 0, 1, 0, 0, 0) := by decide +kernel
theorem f_152_19 : ftc (PT 152) 19 = some (19, .getfield 76, 3, 11, 12, 480) := by decide +kernel
theorem f_152_22 : ftc (PT 152) 22 = some (22, .aload_n 0, 1, 0, 0, 0) := by decide +kernel
theorem f_152_23 : ftc (PT 152) 23 = some (23, .getfield 55, 3, 11, 9, 477) := by decide +kernel
theorem f_152_26 : ftc (PT 152) 26 = some (26, .iload_n 2, 1, 0, 0, 0) := by decide +kernel
theorem f_152_27 : ftc (PT 152) 27 = some (27, .iload_n 3, 1, 0, 0, 0) := by decide +kernel
theorem f_152_28 : ftc (PT 152) 28 = some (28, .iload 4, 2, 0, 0, 0) := by decide +kernel
theorem f_152_30 : ftc (PT 152) 30 = some (30, .invokevirtual 315, 3, 34, 7300, 1254) := by decide +kernel
theorem f_152_33 : ftc (PT 152) 33 = some (33, .aload_n 0, 1, 0, 0, 0) := by decide +kernel
theorem f_152_34 : ftc (PT 152) 34 = some (34, .getfield 76, 3, 11, 12, 480) := by decide +kernel
theorem f_152_37 : ftc (PT 152) 37 = some (37, .getfield 319, 3, 4, 0, 353) := by decide +kernel
theorem f_152_40 : ftc (PT 152) 40 = some (40, .ireturn, 1, 0, 0, 0) := by decide +kernel
theorem f_153_12 : ftc (PT 153) 12 = some (12, .aload_n 0, 1, 0, 0, 0) := by decide +kernel
theorem f_153_13 : ftc (PT 153) 13 = some (13, .iload_n 1, 1, 0, 0, 0) := by decide +kernel
theorem f_153_14 : ftc (PT 153) 14 = some (14, .iload_n 2, 1, 0, 0, 0) := by decide +kernel
theorem f_153_15 : ftc (PT 153) 15 = some (15, .invokevirtual 305, 3, 148, 3147, 1218) := by decide +kernel
theorem f_153_18 : ftc (PT 153) 18 = some (18, .aload_n 0, 1, 0, 0, 0) := by decide +kernel
theorem f_153_19 : ftc (PT 153) 19 = some (19, .getfield 76, 3, 11, 12, 480) := by decide +kernel
theorem f_153_22 : ftc (PT 153) 22 = some (22, .aload_n 0, 1, 0, 0, 0) := by decide +kernel
theorem f_153_23 : ftc (PT 153) 23 = some (23, .getfield 55, 3, 11, 9, 477) := by decide +kernel
theorem f_153_26 : ftc (PT 153) 26 = some (26, .iload_n 2, 1, 0, 0, 0) := by decide +kernel
theorem f_153_27 : ftc (PT 153) 27 = some (27, .iload_n 3, 1, 0, 0, 0) := by decide +kernel
theorem f_153_28 : ftc (PT 153) 28 = some (28, .iload 4, 2, 0, 0, 0) := by decide +kernel
theorem f_153_30 : ftc (PT 153) 30 = some (30, .invokevirtual 315, 3, 34, 7300, 1254) := by decide +kernel
theorem f_153_33 : ftc (PT 153) 33 = some (33, .aload_n 0, 1, 0, 0, 0) := by decide +kernel
theorem f_153_34 : ftc (PT 153) 34 = some (34, .iload 5, 2, 0, 0, 0) := by decide +kernel
theorem f_153_36 : ftc (PT 153) 36 = some (36, .iload 6, 2, 0, 0, 0) := by decide +kernel
theorem f_153_38 : ftc (PT 153) 38 = some (38, .iload 7, 2, 0, 0, 0) := by decide +kernel
theorem f_153_40 : ftc (PT 153) 40 = some (40, .invokevirtual 320, 3, 154, 4203, 1267) := by decide +kernel
theorem f_153_43 : ftc (PT 153) 43 = some (43, .lreturn, 1, 0, 0, 0) := by decide +kernel
theorem f_154_0 : ftc (PT 154) 0 = some (0, .iload_n 1, 1, 0, 0, 0) := by decide +kernel
theorem f_154_1 : ftc (PT 154) 1 = some (1, .ifCond .lt 24, 3, 25, 0, 0) := by decide +kernel
theorem f_154_4 : ftc (PT 154) 4 = some (4, .iload_n 1, 1, 0, 0, 0) := by decide +kernel
theorem f_154_5 : ftc (PT 154) 5 = some (5, .aload_n 0, 1, 0, 0, 0) := by decide +kernel
theorem f_154_6 : ftc (PT 154) 6 = some (6, .getfield 76, 3, 11, 12, 480) := by decide +kernel
theorem f_154_9 : ftc (PT 154) 9 = some (9, .getfield 319, 3, 4, 0, 353) := by decide +kernel
theorem f_154_12 : ftc (PT 154) 12 = some (12, .if_icmp .ge 13, 3, 25, 0, 0) := by decide +kernel
theorem f_154_15 : ftc (PT 154) 15 = some (15, .aload_n 0, 1, 0, 0, 0) := by decide +kernel
theorem f_154_16 : ftc (PT 154) 16 = some (16, .getfield 76, 3, 11, 12, 480) := by decide +kernel
theorem f_154_19 : ftc (PT 154) 19 = some (19, .getfield 545, 3, 4, 1, 355) := by decide +kernel
theorem f_154_22 : ftc (PT 154) 22 = some (22, .ifCond .ne 11, 3, 33, 0, 0) := by decide +kernel
theorem f_154_25 : ftc (PT 154) 25 = some (25, .new 130, 3, 102, 6, 856) := by decide +kernel
theorem f_154_33 : ftc (PT 154) 33 = some (33, .iload_n 2, 1, 0, 0, 0) := by decide +kernel
theorem f_154_34 : ftc (PT 154) 34 = some (34, .ifCond .eq 18, 3, 52, 0, 0) := by decide +kernel
theorem f_154_37 : ftc (PT 154) 37 = some (37, .aload_n 0, 1, 0, 0, 0) := by decide +kernel
theorem f_154_38 : ftc (PT 154) 38 = some (38, .getfield 76, 3, 11, 12, 480) := by decide +kernel
theorem f_154_41 : ftc (PT 154) 41 = some (41, .iload_n 1, 1, 0, 0, 0) := by decide +kernel
theorem f_154_42 : ftc (PT 154) 42 = some (42, .aload_n 0, 1, 0, 0, 0) := by decide +kernel
theorem f_154_43 : ftc (PT 154) 43 = some (43, .getfield 62, 3, 11, 10, 478) := by decide +kernel
theorem f_154_46 : ftc (PT 154) 46 = some (46, .invokevirtual 546, 3, 35, 3140, 1271) := by decide +kernel
theorem f_154_49 : ftc (PT 154) 49 = some (49, .goto 15, 3, 64, 0, 0) := by decide +kernel
theorem f_154_52 : ftc (PT 154) 52 = some (52, .aload_n 0, 1, 0, 0, 0) := by decide +kernel
theorem f_154_53 : ftc (PT 154) 53 = some (53, .getfield 76, 3, 11, 12, 480) := by decide +kernel
theorem f_154_56 : ftc (PT 154) 56 = some (56, .iload_n 1, 1, 0, 0, 0) := by decide +kernel
theorem f_154_57 : ftc (PT 154) 57 = some (57, .aload_n 0, 1, 0, 0, 0) := by decide +kernel
theorem f_154_58 : ftc (PT 154) 58 = some (58, .getfield 62, 3, 11, 10, 478) := by decide +kernel
theorem f_154_61 : ftc (PT 154) 61 = some (61, .invokevirtual 549, 3, 37, 3140, 1280) := by decide +kernel
theorem f_154_64 : ftc (PT 154) 64 = some (64, .aload_n 0, 1, 0, 0, 0) := by decide +kernel
theorem f_154_65 : ftc (PT 154) 65 = some (65, .getfield 62, 3, 11, 10, 478) := by decide +kernel
theorem f_154_68 : ftc (PT 154) 68 = some (68, .iload_n 3, 1, 0, 0, 0) := by decide +kernel
theorem f_154_69 : ftc (PT 154) 69 = some (69, .invokevirtual 218, 3, 31, 2083, 974) := by decide +kernel
theorem f_154_72 : ftc (PT 154) 72 = some (72, .lreturn, 1, 0, 0, 0) := by decide +kernel
theorem f_155_12 : ftc (PT 155) 12 = some (12, .aload_n 0, 1, 0, 0, 0) := by decide +kernel
theorem f_155_13 : ftc (PT 155) 13 = some (13, .iload_n 1, 1, 0, 0, 0) := by decide +kernel
theorem f_155_14 : ftc (PT 155) 14 = some (14, .iload_n 2, 1, 0, 0, 0) := by decide +kernel
theorem f_155_15 : ftc (PT 155) 15 = some (15, .invokevirtual 305, 3, 148, 3147, 1218) := by decide +kernel
theorem f_155_18 : ftc (PT 155) 18 = some (18, .aload_n 0, 1, 0, 0, 0) := by decide +kernel
theorem f_155_19 : ftc (PT 155) 19 = some (19, .iload_n 2, 1, 0, 0, 0) := by decide +kernel
theorem f_155_20 : ftc (PT 155) 20 = some (20, .iload_n 3, 1, 0, 0, 0) := by decide +kernel
theorem f_155_21 : ftc (PT 155) 21 = some (21, .iload 4, 2, 0, 0, 0) := by decide +kernel
theorem f_155_23 : ftc (PT 155) 23 = some (23, .invokevirtual 324, 3, 156, 5227, 1291) := by decide +kernel
theorem f_155_26 : ftc (PT 155) 26 = some (26, .istore 6, 2, 0, 0, 0) := by decide +kernel
theorem f_155_28 : ftc (PT 155) 28 = some (28, .iload 6, 2, 0, 0, 0) := by decide +kernel
theorem f_155_30 : ftc (PT 155) 30 = some (30, .ifCond .ge 11, 3, 41, 0, 0) := by decide +kernel
theorem f_155_33 : ftc (PT 155) 33 = some (33, .new 130, 3, 102, 6, 856) := by decide +kernel
theorem f_155_41 : ftc (PT 155) 41 = some (41, .iload 5, 2, 0, 0, 0) := by decide +kernel
theorem f_155_43 : ftc (PT 155) 43 = some (43, .ifCond .eq 15, 3, 58, 0, 0) := by decide +kernel
theorem f_155_46 : ftc (PT 155) 46 = some (46, .aload_n 0, 1, 0, 0, 0) := by decide +kernel
theorem f_155_47 : ftc (PT 155) 47 = some (47, .getfield 10, 3, 11, 0, 468) := by decide +kernel
theorem f_155_50 : ftc (PT 155) 50 = some (50, .iload 6, 2, 0, 0, 0) := by decide +kernel
theorem f_155_52 : ftc (PT 155) 52 = some (52, .invokevirtual 328, 3, 70, 2089, 1307) := by decide +kernel
theorem f_155_55 : ftc (PT 155) 55 = some (55, .goto 12, 3, 67, 0, 0) := by decide +kernel
theorem f_155_58 : ftc (PT 155) 58 = some (58, .aload_n 0, 1, 0, 0, 0) := by decide +kernel
theorem f_155_59 : ftc (PT 155) 59 = some (59, .getfield 10, 3, 11, 0, 468) := by decide +kernel
theorem f_155_62 : ftc (PT 155) 62 = some (62, .iload 6, 2, 0, 0, 0) := by decide +kernel
theorem f_155_64 : ftc (PT 155) 64 = some (64, .invokevirtual 331, 3, 69, 2089, 1303) := by decide +kernel
theorem f_155_67 : ftc (PT 155) 67 = some (67, .ireturn, 1, 0, 0, 0) := by decide +kernel
theorem f_156_0 : ftc (PT 156) 0 = some (0, .aload_n 0, 1, 0, 0, 0) := by decide +kernel
theorem f_156_1 : ftc (PT 156) 1 = some (1, .aload_n 0, 1, 0, 0, 0) := by decide +kernel
theorem f_156_2 : ftc (PT 156) 2 = some (2, .getfield 46, 3, 11, 7, 475) := by decide +kernel
theorem f_156_5 : ftc (PT 156) 5 = some (5, .invokevirtual 552, 3, 157, 2091, 1295) := by decide +kernel
theorem f_156_8 : ftc (PT 156) 8 = some (8, .iconst 0, 1, 0, 0, 0) := by decide +kernel
theorem f_156_9 : ftc (PT 156) 9 = some (9, .istore 4, 2, 0, 0, 0) := by decide +kernel
theorem f_156_11 : ftc (PT 156) 11 = some (11, .iload 4, 2, 0, 0, 0) := by decide +kernel
theorem f_156_13 : ftc (PT 156) 13 = some (13, .sipush 184, 3, 0, 0, 0) := by decide +kernel
theorem f_156_16 : ftc (PT 156) 16 = some (16, .if_icmp .ge 64, 3, 80, 0, 0) := by decide +kernel
theorem f_156_19 : ftc (PT 156) 19 = some (19, .aload_n 0, 1, 0, 0, 0) := by decide +kernel
theorem f_156_20 : ftc (PT 156) 20 = some (20, .getfield 49, 3, 11, 8, 476) := by decide +kernel
theorem f_156_23 : ftc (PT 156) 23 = some (23, .aload_n 0, 1, 0, 0, 0) := by decide +kernel
theorem f_156_24 : ftc (PT 156) 24 = some (24, .getfield 46, 3, 11, 7, 475) := by decide +kernel
theorem f_156_27 : ftc (PT 156) 27 = some (27, .invokevirtual 569, 3, 84, 2090, 1299) := by decide +kernel
theorem f_156_30 : ftc (PT 156) 30 = some (30, .aload_n 0, 1, 0, 0, 0) := by decide +kernel
theorem f_156_31 : ftc (PT 156) 31 = some (31, .getfield 49, 3, 11, 8, 476) := by decide +kernel
theorem f_156_34 : ftc (PT 156) 34 = some (34, .aload_n 0, 1, 0, 0, 0) := by decide +kernel
theorem f_156_35 : ftc (PT 156) 35 = some (35, .getfield 10, 3, 11, 0, 468) := by decide +kernel
theorem f_156_38 : ftc (PT 156) 38 = some (38, .iload 4, 2, 0, 0, 0) := by decide +kernel
theorem f_156_40 : ftc (PT 156) 40 = some (40, .invokevirtual 331, 3, 69, 2089, 1303) := by decide +kernel
theorem f_156_43 : ftc (PT 156) 43 = some (43, .i2l, 1, 0, 0, 0) := by decide +kernel
theorem f_156_44 : ftc (PT 156) 44 = some (44, .aload_n 0, 1, 0, 0, 0) := by decide +kernel
theorem f_156_45 : ftc (PT 156) 45 = some (45, .getfield 10, 3, 11, 0, 468) := by decide +kernel
theorem f_156_48 : ftc (PT 156) 48 = some (48, .iload 4, 2, 0, 0, 0) := by decide +kernel
theorem f_156_50 : ftc (PT 156) 50 = some (50, .invokevirtual 328, 3, 70, 2089, 1307) := by decide +kernel
theorem f_156_53 : ftc (PT 156) 53 = some (53, .i2l, 1, 0, 0, 0) := by decide +kernel
theorem f_156_54 : ftc (PT 156) 54 = some (54, .invokevirtual 560, 3, 76, 11338, 1311) := by decide +kernel
theorem f_156_57 : ftc (PT 156) 57 = some (57, .aload_n 0, 1, 0, 0, 0) := by decide +kernel
theorem f_156_58 : ftc (PT 156) 58 = some (58, .aload_n 0, 1, 0, 0, 0) := by decide +kernel
theorem f_156_59 : ftc (PT 156) 59 = some (59, .getfield 49, 3, 11, 8, 476) := by decide +kernel
theorem f_156_62 : ftc (PT 156) 62 = some (62, .iload_n 1, 1, 0, 0, 0) := by decide +kernel
theorem f_156_63 : ftc (PT 156) 63 = some (63, .iload_n 2, 1, 0, 0, 0) := by decide +kernel
theorem f_156_64 : ftc (PT 156) 64 = some (64, .iload_n 3, 1, 0, 0, 0) := by decide +kernel
theorem f_156_65 : ftc (PT 156) 65 = some (65, .invokevirtual 571, 3, 158, 9355, 1312) := by decide +kernel
theorem f_156_68 : ftc (PT 156) 68 = some (68, .ifCond .ne 6, 3, 74, 0, 0) := by decide +kernel
theorem f_156_71 : ftc (PT 156) 71 = some (71, .iload 4, 2, 0, 0, 0) := by decide +kernel
theorem f_156_73 : ftc (PT 156) 73 = some (73, .ireturn, 1, 0, 0, 0) := by decide +kernel
theorem f_156_74 : ftc (PT 156) 74 = some (74, .iinc 4 1, 3, 0, 0, 0) := by decide +kernel
theorem f_156_77 : ftc (PT 156) 77 = some (77, .goto (-66), 3, 11, 0, 0) := by decide +kernel
theorem f_156_80 : ftc (PT 156) 80 = some (80, .iconst (-1), 1, 0, 0, 0) := by decide +kernel
theorem f_156_81 : ftc (PT 156) 81 = some (81, .ireturn, 1, 0, 0, 0) := by decide +kernel
theorem f_157_0 : ftc (PT 157) 0 = some (0, .aload_n 1, 1, 0, 0, 0) := by decide +kernel
theorem f_157_1 : ftc (PT 157) 1 = some (1, .aload_n 0, 1, 0, 0, 0) := by decide +kernel
theorem f_157_2 : ftc (PT 157) 2 = some (2, .getfield 55, 3, 11, 9, 477) := by decide +kernel
theorem f_157_5 : ftc (PT 157) 5 = some (5, .getfield 169, 3, 6, 0, 274) := by decide +kernel
theorem f_157_8 : ftc (PT 157) 8 = some (8, .aload_n 0, 1, 0, 0, 0) := by decide +kernel
theorem f_157_9 : ftc (PT 157) 9 = some (9, .getfield 55, 3, 11, 9, 477) := by decide +kernel
theorem f_157_12 : ftc (PT 157) 12 = some (12, .getfield 172, 3, 6, 1, 278) := by decide +kernel
theorem f_157_15 : ftc (PT 157) 15 = some (15, .aload_n 0, 1, 0, 0, 0) := by decide +kernel
theorem f_157_16 : ftc (PT 157) 16 = some (16, .getfield 55, 3, 11, 9, 477) := by decide +kernel
theorem f_157_19 : ftc (PT 157) 19 = some (19, .getfield 174, 3, 6, 2, 282) := by decide +kernel
theorem f_157_22 : ftc (PT 157) 22 = some (22, .invokevirtual 487, 3, 74, 7274, 545) := by decide +kernel
theorem f_157_25 : ftc (PT 157) 25 = some (25, .return_, 1, 0, 0, 0) := by decide +kernel
theorem f_158_0 : ftc (PT 158) 0 = some (0, .aload_n 1, 1, 0, 0, 0) := by decide +kernel
theorem f_158_1 : ftc (PT 158) 1 = some (1, .invokevirtual 208, 3, 82, 1034, 966) := by decide +kernel
theorem f_158_4 : ftc (PT 158) 4 = some (4, .lstore 5, 2, 0, 0, 0) := by decide +kernel
theorem f_158_6 : ftc (PT 158) 6 = some (6, .aload_n 1, 1, 0, 0, 0) := by decide +kernel
theorem f_158_7 : ftc (PT 158) 7 = some (7, .iload_n 2, 1, 0, 0, 0) := by decide +kernel
theorem f_158_8 : ftc (PT 158) 8 = some (8, .invokevirtual 563, 3, 85, 2090, 1316) := by decide +kernel
theorem f_158_11 : ftc (PT 158) 11 = some (11, .lstore 7, 2, 0, 0, 0) := by decide +kernel
theorem f_158_13 : ftc (PT 158) 13 = some (13, .lload 5, 2, 0, 0, 0) := by decide +kernel
theorem f_158_15 : ftc (PT 158) 15 = some (15, .lconst 0, 1, 0, 0, 0) := by decide +kernel
theorem f_158_16 : ftc (PT 158) 16 = some (16, .lcmp, 1, 0, 0, 0) := by decide +kernel
theorem f_158_17 : ftc (PT 158) 17 = some (17, .ifCond .le 10, 3, 27, 0, 0) := by decide +kernel
theorem f_158_20 : ftc (PT 158) 20 = some (20, .lload 7, 2, 0, 0, 0) := by decide +kernel
theorem f_158_22 : ftc (PT 158) 22 = some (22, .lconst 0, 1, 0, 0, 0) := by decide +kernel
theorem f_158_23 : ftc (PT 158) 23 = some (23, .lcmp, 1, 0, 0, 0) := by decide +kernel
theorem f_158_24 : ftc (PT 158) 24 = some (24, .ifCond .gt 5, 3, 29, 0, 0) := by decide +kernel
theorem f_158_27 : ftc (PT 158) 27 = some (27, .iconst 1, 1, 0, 0, 0) := by decide +kernel
theorem f_158_28 : ftc (PT 158) 28 = some (28, .ireturn, 1, 1, 0, 0) := by decide +kernel
theorem f_158_29 : ftc (PT 158) 29 = some (29, .lload 5, 2, 0, 0, 0) := by decide +kernel
theorem f_158_31 : ftc (PT 158) 31 = some (31, .lload 7, 2, 0, 0, 0) := by decide +kernel
theorem f_158_33 : ftc (PT 158) 33 = some (33, .iload_n 3, 1, 0, 0, 0) := by decide +kernel
theorem f_158_34 : ftc (PT 158) 34 = some (34, .i2l, 1, 0, 0, 0) := by decide +kernel
theorem f_158_35 : ftc (PT 158) 35 = some (35, .iload_n 3, 1, 0, 0, 0) := by decide +kernel
theorem f_158_36 : ftc (PT 158) 36 = some (36, .i2l, 1, 0, 0, 0) := by decide +kernel
theorem f_158_37 : ftc (PT 158) 37 = some (37, .lmul, 1, 0, 0, 0) := by decide +kernel
theorem f_158_38 : ftc (PT 158) 38 = some (38, .iload 4, 2, 0, 0, 0) := by decide +kernel
theorem f_158_40 : ftc (PT 158) 40 = some (40, .i2l, 1, 0, 0, 0) := by decide +kernel
theorem f_158_41 : ftc (PT 158) 41 = some (41, .iload 4, 2, 0, 0, 0) := by decide +kernel
theorem f_158_43 : ftc (PT 158) 43 = some (43, .i2l, 1, 0, 0, 0) := by decide +kernel
theorem f_158_44 : ftc (PT 158) 44 = some (44, .lmul, 1, 0, 0, 0) := by decide +kernel
theorem f_158_45 : ftc (PT 158) 45 = some (45, .ladd, 1, 0, 0, 0) := by decide +kernel
theorem f_158_46 : ftc (PT 158) 46 = some (46, .iload_n 3, 1, 0, 0, 0) := by decide +kernel
theorem f_158_47 : ftc (PT 158) 47 = some (47, .i2l, 1, 0, 0, 0) := by decide +kernel
theorem f_158_48 : ftc (PT 158) 48 = some (48, .iload_n 3, 1, 0, 0, 0) := by decide +kernel
theorem f_158_49 : ftc (PT 158) 49 = some (49, .i2l, 1, 0, 0, 0) := by decide +kernel
theorem f_158_50 : ftc (PT 158) 50 = some (50, .lmul, 1, 0, 0, 0) := by decide +kernel
theorem f_158_51 : ftc (PT 158) 51 = some (51, .invokestatic 566, 3, 23, 18436, 1325) := by decide +kernel
theorem f_158_54 : ftc (PT 158) 54 = some (54, .ifCond .le 7, 3, 61, 0, 0) := by decide +kernel
theorem f_158_57 : ftc (PT 158) 57 = some (57, .iconst 1, 1, 0, 0, 0) := by decide +kernel
theorem f_158_58 : ftc (PT 158) 58 = some (58, .goto 4, 3, 62, 0, 0) := by decide +kernel
theorem f_158_61 : ftc (PT 158) 61 = some (61, .iconst 0, 1, 0, 0, 0) := by decide +kernel
theorem f_158_62 : ftc (PT 158) 62 = some (62, .ireturn, 1, 1, 0, 0) := by decide +kernel
theorem f_159_19 : ftc (PT 159) 19 = some (19, .aload_n 0, 1, 0, 0, 0) := by decide +kernel
theorem f_159_20 : ftc (PT 159) 20 = some (20, .iload_n 1, 1, 0, 0, 0) := by decide +kernel
theorem f_159_21 : ftc (PT 159) 21 = some (21, .iload_n 2, 1, 0, 0, 0) := by decide +kernel
theorem f_159_22 : ftc (PT 159) 22 = some (22, .invokevirtual 305, 3, 148, 3147, 1218) := by decide +kernel
theorem f_159_25 : ftc (PT 159) 25 = some (25, .aload_n 0, 1, 0, 0, 0) := by decide +kernel
theorem f_159_26 : ftc (PT 159) 26 = some (26, .iload_n 2, 1, 0, 0, 0) := by decide +kernel
theorem f_159_27 : ftc (PT 159) 27 = some (27, .iload_n 3, 1, 0, 0, 0) := by decide +kernel
theorem f_159_28 : ftc (PT 159) 28 = some (28, .iload 4, 2, 0, 0, 0) := by decide +kernel
theorem f_159_30 : ftc (PT 159) 30 = some (30, .invokevirtual 334, 3, 160, 6251, 1333) := by decide +kernel
theorem f_159_33 : ftc (PT 159) 33 = some (33, .ifCond .ne 11, 3, 44, 0, 0) := by decide +kernel
theorem f_159_36 : ftc (PT 159) 36 = some (36, .new 130, 3, 102, 6, 856) := by decide +kernel
theorem f_159_44 : ftc (PT 159) 44 = some (44, .aload_n 0, 1, 0, 0, 0) := by decide +kernel
theorem f_159_45 : ftc (PT 159) 45 = some (45, .iload 5, 2, 0, 0, 0) := by decide +kernel
theorem f_159_47 : ftc (PT 159) 47 = some (47, .invokevirtual 338, 3, 161, 2091, 1337) := by decide +kernel
theorem f_159_50 : ftc (PT 159) 50 = some (50, .ireturn, 1, 0, 0, 0) := by decide +kernel
theorem f_160_0 : ftc (PT 160) 0 = some (0, .aload_n 0, 1, 0, 0, 0) := by decide +kernel
theorem f_160_1 : ftc (PT 160) 1 = some (1, .aload_n 0, 1, 0, 0, 0) := by decide +kernel
theorem f_160_2 : ftc (PT 160) 2 = some (2, .getfield 46, 3, 11, 7, 475) := by decide +kernel
theorem f_160_5 : ftc (PT 160) 5 = some (5, .invokevirtual 552, 3, 157, 2091, 1295) := by decide +kernel
theorem f_160_8 : ftc (PT 160) 8 = some (8, .iconst 0, 1, 0, 0, 0) := by decide +kernel
theorem f_160_9 : ftc (PT 160) 9 = some (9, .istore 4, 2, 0, 0, 0) := by decide +kernel
theorem f_160_11 : ftc (PT 160) 11 = some (11, .iload 4, 2, 0, 0, 0) := by decide +kernel
theorem f_160_13 : ftc (PT 160) 13 = some (13, .sipush 184, 3, 0, 0, 0) := by decide +kernel
theorem f_160_16 : ftc (PT 160) 16 = some (16, .if_icmp .ge 129, 3, 145, 0, 0) := by decide +kernel
theorem f_160_19 : ftc (PT 160) 19 = some (19, .iconst 0, 1, 0, 0, 0) := by decide +kernel
theorem f_160_20 : ftc (PT 160) 20 = some (20, .istore 5, 2, 0, 0, 0) := by decide +kernel
theorem f_160_22 : ftc (PT 160) 22 = some (22, .iload 5, 2, 0, 0, 0) := by decide +kernel
theorem f_160_24 : ftc (PT 160) 24 = some (24, .iconst 2, 1, 0, 0, 0) := by decide +kernel
theorem f_160_25 : ftc (PT 160) 25 = some (25, .if_icmp .ge 114, 3, 139, 0, 0) := by decide +kernel
theorem f_160_28 : ftc (PT 160) 28 = some (28, .aload_n 0, 1, 0, 0, 0) := by decide +kernel
theorem f_160_29 : ftc (PT 160) 29 = some (29, .getfield 49, 3, 11, 8, 476) := by decide +kernel
theorem f_160_32 : ftc (PT 160) 32 = some (32, .aload_n 0, 1, 0, 0, 0) := by decide +kernel
theorem f_160_33 : ftc (PT 160) 33 = some (33, .getfield 46, 3, 11, 7, 475) := by decide +kernel
theorem f_160_36 : ftc (PT 160) 36 = some (36, .invokevirtual 569, 3, 84, 2090, 1299) := by decide +kernel
theorem f_160_39 : ftc (PT 160) 39 = some (39, .aload_n 0, 1, 0, 0, 0) := by decide +kernel
theorem f_160_40 : ftc (PT 160) 40 = some (40, .getfield 49, 3, 11, 8, 476) := by decide +kernel
theorem f_160_43 : ftc (PT 160) 43 = some (43, .iload_n 1, 1, 0, 0, 0) := by decide +kernel
theorem f_160_44 : ftc (PT 160) 44 = some (44, .iload 5, 2, 0, 0, 0) := by decide +kernel
theorem f_160_46 : ftc (PT 160) 46 = some (46, .ifCond .ne 7, 3, 53, 0, 0) := by decide +kernel
theorem f_160_49 : ftc (PT 160) 49 = some (49, .iconst 1, 1, 0, 0, 0) := by decide +kernel
theorem f_160_50 : ftc (PT 160) 50 = some (50, .goto 4, 3, 54, 0, 0) := by decide +kernel
theorem f_160_53 : ftc (PT 160) 53 = some (53, .iconst 0, 1, 0, 0, 0) := by decide +kernel
theorem f_160_54 : ftc (PT 160) 54 = some (54, .invokestatic 301, 3, 146, 2050, 1208) := by decide +kernel
theorem f_160_57 : ftc (PT 160) 57 = some (57, .aload_n 0, 1, 0, 0, 0) := by decide +kernel
theorem f_160_58 : ftc (PT 160) 58 = some (58, .getfield 10, 3, 11, 0, 468) := by decide +kernel
theorem f_160_61 : ftc (PT 160) 61 = some (61, .iload 4, 2, 0, 0, 0) := by decide +kernel
theorem f_160_63 : ftc (PT 160) 63 = some (63, .invokevirtual 331, 3, 69, 2089, 1303) := by decide +kernel
theorem f_160_66 : ftc (PT 160) 66 = some (66, .i2l, 1, 0, 0, 0) := by decide +kernel
theorem f_160_67 : ftc (PT 160) 67 = some (67, .aload_n 0, 1, 0, 0, 0) := by decide +kernel
theorem f_160_68 : ftc (PT 160) 68 = some (68, .getfield 10, 3, 11, 0, 468) := by decide +kernel
theorem f_160_71 : ftc (PT 160) 71 = some (71, .iload 4, 2, 0, 0, 0) := by decide +kernel
theorem f_160_73 : ftc (PT 160) 73 = some (73, .invokevirtual 328, 3, 70, 2089, 1307) := by decide +kernel
theorem f_160_76 : ftc (PT 160) 76 = some (76, .i2l, 1, 0, 0, 0) := by decide +kernel
theorem f_160_77 : ftc (PT 160) 77 = some (77, .invokevirtual 491, 3, 75, 6250, 565) := by decide +kernel
theorem f_160_80 : ftc (PT 160) 80 = some (80, .aload_n 0, 1, 0, 0, 0) := by decide +kernel
theorem f_160_81 : ftc (PT 160) 81 = some (81, .getfield 49, 3, 11, 8, 476) := by decide +kernel
theorem f_160_84 : ftc (PT 160) 84 = some (84, .iload_n 2, 1, 0, 0, 0) := by decide +kernel
theorem f_160_85 : ftc (PT 160) 85 = some (85, .i2l, 1, 0, 0, 0) := by decide +kernel
theorem f_160_86 : ftc (PT 160) 86 = some (86, .iload_n 3, 1, 0, 0, 0) := by decide +kernel
theorem f_160_87 : ftc (PT 160) 87 = some (87, .i2l, 1, 0, 0, 0) := by decide +kernel
theorem f_160_88 : ftc (PT 160) 88 = some (88, .invokevirtual 560, 3, 76, 11338, 1311) := by decide +kernel
theorem f_160_91 : ftc (PT 160) 91 = some (91, .aload_n 0, 1, 0, 0, 0) := by decide +kernel
theorem f_160_92 : ftc (PT 160) 92 = some (92, .aload_n 0, 1, 0, 0, 0) := by decide +kernel
theorem f_160_93 : ftc (PT 160) 93 = some (93, .getfield 49, 3, 11, 8, 476) := by decide +kernel
theorem f_160_96 : ftc (PT 160) 96 = some (96, .iload_n 1, 1, 0, 0, 0) := by decide +kernel
theorem f_160_97 : ftc (PT 160) 97 = some (97, .iload_n 2, 1, 0, 0, 0) := by decide +kernel
theorem f_160_98 : ftc (PT 160) 98 = some (98, .iload_n 3, 1, 0, 0, 0) := by decide +kernel
theorem f_160_99 : ftc (PT 160) 99 = some (99, .invokevirtual 571, 3, 158, 9355, 1312) := by decide +kernel
theorem f_160_102 : ftc (PT 160) 102 = some (102, .ifCond .ne 31, 3, 133, 0, 0) := by decide +kernel
theorem f_160_105 : ftc (PT 160) 105 = some (105, .aload_n 0, 1, 0, 0, 0) := by decide +kernel
theorem f_160_106 : ftc (PT 160) 106 = some (106, .getfield 83, 3, 11, 13, 481) := by decide +kernel
theorem f_160_109 : ftc (PT 160) 109 = some (109, .iload 4, 2, 0, 0, 0) := by decide +kernel
theorem f_160_111 : ftc (PT 160) 111 = some (111, .putfield 386, 3, 0, 5, 396) := by decide +kernel
theorem f_160_114 : ftc (PT 160) 114 = some (114, .aload_n 0, 1, 0, 0, 0) := by decide +kernel
theorem f_160_115 : ftc (PT 160) 115 = some (115, .getfield 83, 3, 11, 13, 481) := by decide +kernel
theorem f_160_118 : ftc (PT 160) 118 = some (118, .iload 5, 2, 0, 0, 0) := by decide +kernel
theorem f_160_120 : ftc (PT 160) 120 = some (120, .ifCond .ne 7, 3, 127, 0, 0) := by decide +kernel
theorem f_160_123 : ftc (PT 160) 123 = some (123, .iconst 1, 1, 0, 0, 0) := by decide +kernel
theorem f_160_124 : ftc (PT 160) 124 = some (124, .goto 4, 3, 128, 0, 0) := by decide +kernel
theorem f_160_127 : ftc (PT 160) 127 = some (127, .iconst 0, 1, 0, 0, 0) := by decide +kernel
theorem f_160_128 : ftc (PT 160) 128 = some (128, .putfield 575, 3, 0, 6, 398) := by decide +kernel
theorem f_160_131 : ftc (PT 160) 131 = some (131, .iconst 1, 1, 0, 0, 0) := by decide +kernel
theorem f_160_132 : ftc (PT 160) 132 = some (132, .ireturn, 1, 1, 0, 0) := by decide +kernel
theorem f_160_133 : ftc (PT 160) 133 = some (133, .iinc 5 1, 3, 0, 0, 0) := by decide +kernel
theorem f_160_136 : ftc (PT 160) 136 = some (136, .goto (-114), 3, 22, 0, 0) := by decide +kernel
theorem f_160_139 : ftc (PT 160) 139 = some (139, .iinc 4 1, 3, 0, 0, 0) := by decide +kernel
theorem f_160_142 : ftc (PT 160) 142 = some (142, .goto (-131), 3, 11, 0, 0) := by decide +kernel
theorem f_160_145 : ftc (PT 160) 145 = some (145, .iconst 0, 1, 0, 0, 0) := by decide +kernel
theorem f_160_146 : ftc (PT 160) 146 = some (146, .ireturn, 1, 1, 0, 0) := by decide +kernel
theorem f_161_0 : ftc (PT 161) 0 = some (0, .iload_n 1, 1, 0, 0, 0) := by decide +kernel
theorem f_161_1 : ftc (PT 161) 1 = some (1, .lookupswitch 57 #[(0, 27), (1, 42)], 27, 0, 0, 0) := by decide +kernel
theorem f_161_28 : ftc (PT 161) 28 = some (28, .aload_n 0, 1, 0, 0, 0) := by decide +kernel
theorem f_161_29 : ftc (PT 161) 29 = some (29, .getfield 10, 3, 11, 0, 468) := by decide +kernel
theorem f_161_32 : ftc (PT 161) 32 = some (32, .aload_n 0, 1, 0, 0, 0) := by decide +kernel
theorem f_161_33 : ftc (PT 161) 33 = some (33, .getfield 83, 3, 11, 13, 481) := by decide +kernel
theorem f_161_36 : ftc (PT 161) 36 = some (36, .getfield 386, 3, 0, 5, 396) := by decide +kernel
theorem f_161_39 : ftc (PT 161) 39 = some (39, .invokevirtual 331, 3, 69, 2089, 1303) := by decide +kernel
theorem f_161_42 : ftc (PT 161) 42 = some (42, .ireturn, 1, 0, 0, 0) := by decide +kernel
theorem f_161_43 : ftc (PT 161) 43 = some (43, .aload_n 0, 1, 0, 0, 0) := by decide +kernel
theorem f_161_44 : ftc (PT 161) 44 = some (44, .getfield 10, 3, 11, 0, 468) := by decide +kernel
theorem f_161_47 : ftc (PT 161) 47 = some (47, .aload_n 0, 1, 0, 0, 0) := by decide +kernel
theorem f_161_48 : ftc (PT 161) 48 = some (48, .getfield 83, 3, 11, 13, 481) := by decide +kernel
theorem f_161_51 : ftc (PT 161) 51 = some (51, .getfield 386, 3, 0, 5, 396) := by decide +kernel
theorem f_161_54 : ftc (PT 161) 54 = some (54, .invokevirtual 328, 3, 70, 2089, 1307) := by decide +kernel
theorem f_161_57 : ftc (PT 161) 57 = some (57, .ireturn, 1, 0, 0, 0) := by decide +kernel
theorem f_161_58 : ftc (PT 161) 58 = some (58, .aload_n 0, 1, 0, 0, 0) := by decide +kernel
theorem f_161_59 : ftc (PT 161) 59 = some (59, .getfield 83, 3, 11, 13, 481) := by decide +kernel
theorem f_161_62 : ftc (PT 161) 62 = some (62, .getfield 575, 3, 0, 6, 398) := by decide +kernel
theorem f_161_65 : ftc (PT 161) 65 = some (65, .ifCond .eq 7, 3, 72, 0, 0) := by decide +kernel
theorem f_161_68 : ftc (PT 161) 68 = some (68, .iconst 1, 1, 0, 0, 0) := by decide +kernel
theorem f_161_69 : ftc (PT 161) 69 = some (69, .goto 4, 3, 73, 0, 0) := by decide +kernel
theorem f_161_72 : ftc (PT 161) 72 = some (72, .iconst 0, 1, 0, 0, 0) := by decide +kernel
theorem f_161_73 : ftc (PT 161) 73 = some (73, .ireturn, 1, 0, 0, 0) := by decide +kernel
theorem f_162_11 : ftc (PT 162) 11 = some (11, .aload_n 0, 1, 0, 0, 0) := by decide +kernel
theorem f_162_12 : ftc (PT 162) 12 = some (12, .iload_n 2, 1, 0, 0, 0) := by decide +kernel
theorem f_162_13 : ftc (PT 162) 13 = some (13, .invokevirtual 341, 3, 163, 2091, 1348) := by decide +kernel
theorem f_162_16 : ftc (PT 162) 16 = some (16, .aload_n 0, 1, 0, 0, 0) := by decide +kernel
theorem f_162_17 : ftc (PT 162) 17 = some (17, .getfield 76, 3, 11, 12, 480) := by decide +kernel
theorem f_162_20 : ftc (PT 162) 20 = some (20, .getfield 319, 3, 4, 0, 353) := by decide +kernel
theorem f_162_23 : ftc (PT 162) 23 = some (23, .ireturn, 1, 0, 0, 0) := by decide +kernel
theorem f_163_0 : ftc (PT 163) 0 = some (0, .aload_n 0, 1, 0, 0, 0) := by decide +kernel
theorem f_163_1 : ftc (PT 163) 1 = some (1, .getfield 76, 3, 11, 12, 480) := by decide +kernel
theorem f_163_4 : ftc (PT 163) 4 = some (4, .aload_n 0, 1, 0, 0, 0) := by decide +kernel
theorem f_163_5 : ftc (PT 163) 5 = some (5, .getfield 55, 3, 11, 9, 477) := by decide +kernel
theorem f_163_8 : ftc (PT 163) 8 = some (8, .iload_n 1, 1, 0, 0, 0) := by decide +kernel
theorem f_163_9 : ftc (PT 163) 9 = some (9, .iconst 1, 1, 0, 0, 0) := by decide +kernel
theorem f_163_10 : ftc (PT 163) 10 = some (10, .iconst 0, 1, 0, 0, 0) := by decide +kernel
theorem f_163_11 : ftc (PT 163) 11 = some (11, .invokevirtual 315, 3, 34, 7300, 1254) := by decide +kernel
theorem f_163_14 : ftc (PT 163) 14 = some (14, .return_, 1, 0, 0, 0) := by decide +kernel
theorem f_164_11 : ftc (PT 164) 11 = some (11, .aload_n 0, 1, 0, 0, 0) := by decide +kernel
theorem f_164_12 : ftc (PT 164) 12 = some (12, .iload_n 2, 1, 0, 0, 0) := by decide +kernel
theorem f_164_13 : ftc (PT 164) 13 = some (13, .invokevirtual 341, 3, 163, 2091, 1348) := by decide +kernel
theorem f_164_16 : ftc (PT 164) 16 = some (16, .aload_n 0, 1, 0, 0, 0) := by decide +kernel
theorem f_164_17 : ftc (PT 164) 17 = some (17, .iload_n 3, 1, 0, 0, 0) := by decide +kernel
theorem f_164_18 : ftc (PT 164) 18 = some (18, .iload 4, 2, 0, 0, 0) := by decide +kernel
theorem f_164_20 : ftc (PT 164) 20 = some (20, .iload 5, 2, 0, 0, 0) := by decide +kernel
theorem f_164_22 : ftc (PT 164) 22 = some (22, .invokevirtual 320, 3, 154, 4203, 1267) := by decide +kernel
theorem f_164_25 : ftc (PT 164) 25 = some (25, .lreturn, 1, 0, 0, 0) := by decide +kernel
theorem f_165_10 : ftc (PT 165) 10 = some (10, .aload_n 0, 1, 0, 0, 0) := by decide +kernel
theorem f_165_11 : ftc (PT 165) 11 = some (11, .getfield 55, 3, 11, 9, 477) := by decide +kernel
theorem f_165_14 : ftc (PT 165) 14 = some (14, .invokevirtual 356, 3, 54, 1030, 1366) := by decide +kernel
theorem f_165_17 : ftc (PT 165) 17 = some (17, .ifCond .ne 18, 3, 35, 0, 0) := by decide +kernel
theorem f_165_20 : ftc (PT 165) 20 = some (20, .aload_n 0, 1, 0, 0, 0) := by decide +kernel
theorem f_165_21 : ftc (PT 165) 21 = some (21, .getfield 55, 3, 11, 9, 477) := by decide +kernel
theorem f_165_24 : ftc (PT 165) 24 = some (24, .iload_n 2, 1, 0, 0, 0) := by decide +kernel
theorem f_165_25 : ftc (PT 165) 25 = some (25, .aload_n 0, 1, 0, 0, 0) := by decide +kernel
theorem f_165_26 : ftc (PT 165) 26 = some (26, .getfield 62, 3, 11, 10, 478) := by decide +kernel
theorem f_165_29 : ftc (PT 165) 29 = some (29, .invokevirtual 359, 3, 58, 9286, 1367) := by decide +kernel
theorem f_165_32 : ftc (PT 165) 32 = some (32, .ifCond .ne 11, 3, 43, 0, 0) := by decide +kernel
theorem f_165_35 : ftc (PT 165) 35 = some (35, .new 130, 3, 102, 6, 856) := by decide +kernel
theorem f_165_43 : ftc (PT 165) 43 = some (43, .aload_n 0, 1, 0, 0, 0) := by decide +kernel
theorem f_165_44 : ftc (PT 165) 44 = some (44, .getfield 62, 3, 11, 10, 478) := by decide +kernel
theorem f_165_47 : ftc (PT 165) 47 = some (47, .iload_n 3, 1, 0, 0, 0) := by decide +kernel
theorem f_165_48 : ftc (PT 165) 48 = some (48, .invokevirtual 218, 3, 31, 2083, 974) := by decide +kernel
theorem f_165_51 : ftc (PT 165) 51 = some (51, .lreturn, 1, 0, 0, 0) := by decide +kernel
theorem f_166_10 : ftc (PT 166) 10 = some (10, .aload_n 0, 1, 0, 0, 0) := by decide +kernel
theorem f_166_11 : ftc (PT 166) 11 = some (11, .getfield 55, 3, 11, 9, 477) := by decide +kernel
theorem f_166_14 : ftc (PT 166) 14 = some (14, .aload_n 0, 1, 0, 0, 0) := by decide +kernel
theorem f_166_15 : ftc (PT 166) 15 = some (15, .getfield 62, 3, 11, 10, 478) := by decide +kernel
theorem f_166_18 : ftc (PT 166) 18 = some (18, .invokevirtual 363, 3, 60, 6182, 1386) := by decide +kernel
theorem f_166_21 : ftc (PT 166) 21 = some (21, .ifCond .ne 11, 3, 32, 0, 0) := by decide +kernel
theorem f_166_24 : ftc (PT 166) 24 = some (24, .new 130, 3, 102, 6, 856) := by decide +kernel
theorem f_166_32 : ftc (PT 166) 32 = some (32, .aload_n 0, 1, 0, 0, 0) := by decide +kernel
theorem f_166_33 : ftc (PT 166) 33 = some (33, .getfield 62, 3, 11, 10, 478) := by decide +kernel
theorem f_166_36 : ftc (PT 166) 36 = some (36, .iload_n 2, 1, 0, 0, 0) := by decide +kernel
theorem f_166_37 : ftc (PT 166) 37 = some (37, .invokevirtual 218, 3, 31, 2083, 974) := by decide +kernel
theorem f_166_40 : ftc (PT 166) 40 = some (40, .lreturn, 1, 0, 0, 0) := by decide +kernel
theorem f_167_10 : ftc (PT 167) 10 = some (10, .aload_n 0, 1, 0, 0, 0) := by decide +kernel
theorem f_167_11 : ftc (PT 167) 11 = some (11, .getfield 55, 3, 11, 9, 477) := by decide +kernel
theorem f_167_14 : ftc (PT 167) 14 = some (14, .invokevirtual 356, 3, 54, 1030, 1366) := by decide +kernel
theorem f_167_17 : ftc (PT 167) 17 = some (17, .ifCond .eq 11, 3, 28, 0, 0) := by decide +kernel
theorem f_167_20 : ftc (PT 167) 20 = some (20, .new 130, 3, 102, 6, 856) := by decide +kernel
theorem f_167_28 : ftc (PT 167) 28 = some (28, .aload_n 0, 1, 0, 0, 0) := by decide +kernel
theorem f_167_29 : ftc (PT 167) 29 = some (29, .getfield 55, 3, 11, 9, 477) := by decide +kernel
theorem f_167_32 : ftc (PT 167) 32 = some (32, .getfield 172, 3, 6, 1, 278) := by decide +kernel
theorem f_167_35 : ftc (PT 167) 35 = some (35, .lconst 0, 1, 0, 0, 0) := by decide +kernel
theorem f_167_36 : ftc (PT 167) 36 = some (36, .lcmp, 1, 0, 0, 0) := by decide +kernel
theorem f_167_37 : ftc (PT 167) 37 = some (37, .ifCond .gt 33, 3, 70, 0, 0) := by decide +kernel
theorem f_167_40 : ftc (PT 167) 40 = some (40, .aload_n 0, 1, 0, 0, 0) := by decide +kernel
theorem f_167_41 : ftc (PT 167) 41 = some (41, .getfield 55, 3, 11, 9, 477) := by decide +kernel
theorem f_167_44 : ftc (PT 167) 44 = some (44, .getfield 172, 3, 6, 1, 278) := by decide +kernel
theorem f_167_47 : ftc (PT 167) 47 = some (47, .lconst 0, 1, 0, 0, 0) := by decide +kernel
theorem f_167_48 : ftc (PT 167) 48 = some (48, .lcmp, 1, 0, 0, 0) := by decide +kernel
theorem f_167_49 : ftc (PT 167) 49 = some (49, .ifCond .ne 25, 3, 74, 0, 0) := by decide +kernel
theorem f_167_52 : ftc (PT 167) 52 = some (52, .aload_n 0, 1, 0, 0, 0) := by decide +kernel
theorem f_167_53 : ftc (PT 167) 53 = some (53, .getfield 55, 3, 11, 9, 477) := by decide +kernel
theorem f_167_56 : ftc (PT 167) 56 = some (56, .getfield 169, 3, 6, 0, 274) := by decide +kernel
theorem f_167_59 : ftc (PT 167) 59 = some (59, .aload_n 0, 1, 0, 0, 0) := by decide +kernel
theorem f_167_60 : ftc (PT 167) 60 = some (60, .getfield 55, 3, 11, 9, 477) := by decide +kernel
theorem f_167_63 : ftc (PT 167) 63 = some (63, .getfield 174, 3, 6, 2, 282) := by decide +kernel
theorem f_167_66 : ftc (PT 167) 66 = some (66, .lcmp, 1, 0, 0, 0) := by decide +kernel
theorem f_167_67 : ftc (PT 167) 67 = some (67, .ifCond .le 7, 3, 74, 0, 0) := by decide +kernel
theorem f_167_70 : ftc (PT 167) 70 = some (70, .iconst 1, 1, 0, 0, 0) := by decide +kernel
theorem f_167_71 : ftc (PT 167) 71 = some (71, .goto 4, 3, 75, 0, 0) := by decide +kernel
theorem f_167_74 : ftc (PT 167) 74 = some (74, .iconst 0, 1, 0, 0, 0) := by decide +kernel
theorem f_167_75 : ftc (PT 167) 75 = some (75, .ireturn, 1, 1, 0, 0) := by decide +kernel
theorem f_168_23 : ftc (PT 168) 23 = some (23, .istore 4, 2, 0, 0, 0) := by decide +kernel
theorem f_168_25 : ftc (PT 168) 25 = some (25, .iload_n 2, 1, 0, 0, 0) := by decide +kernel
theorem f_168_26 : ftc (PT 168) 26 = some (26, .iconst (-1), 1, 0, 0, 0) := by decide +kernel
theorem f_168_27 : ftc (PT 168) 27 = some (27, .if_icmp .ne 6, 3, 33, 0, 0) := by decide +kernel
theorem f_168_30 : ftc (PT 168) 30 = some (30, .iload 4, 2, 0, 0, 0) := by decide +kernel
theorem f_168_32 : ftc (PT 168) 32 = some (32, .ireturn, 1, 0, 0, 0) := by decide +kernel
theorem f_168_33 : ftc (PT 168) 33 = some (33, .iload_n 2, 1, 0, 0, 0) := by decide +kernel
theorem f_168_34 : ftc (PT 168) 34 = some (34, .ifCond .lt 9, 3, 43, 0, 0) := by decide +kernel
theorem f_168_37 : ftc (PT 168) 37 = some (37, .iload_n 2, 1, 0, 0, 0) := by decide +kernel
theorem f_168_38 : ftc (PT 168) 38 = some (38, .iload 4, 2, 0, 0, 0) := by decide +kernel
theorem f_168_40 : ftc (PT 168) 40 = some (40, .if_icmp .lt 7, 3, 47, 0, 0) := by decide +kernel
theorem f_168_43 : ftc (PT 168) 43 = some (43, .iconst (-1), 1, 0, 0, 0) := by decide +kernel
theorem f_168_44 : ftc (PT 168) 44 = some (44, .goto 8, 3, 52, 0, 0) := by decide +kernel
theorem f_168_47 : ftc (PT 168) 47 = some (47, .aload_n 0, 1, 0, 0, 0) := by decide +kernel
theorem f_168_48 : ftc (PT 168) 48 = some (48, .iload_n 3, 1, 0, 0, 0) := by decide +kernel
theorem f_168_49 : ftc (PT 168) 49 = some (49, .invokevirtual 377, 3, 174, 2091, 1438) := by decide +kernel
theorem f_168_52 : ftc (PT 168) 52 = some (52, .ireturn, 1, 0, 0, 0) := by decide +kernel
theorem f_171_0 : ftc (PT 171) 0 = some (0, .iconst 0, 1, 0, 0, 0) := by decide +kernel
theorem f_171_1 : ftc (PT 171) 1 = some (1, .istore_n 3, 1, 0, 0, 0) := by decide +kernel
theorem f_171_2 : ftc (PT 171) 2 = some (2, .aload_n 0, 1, 0, 0, 0) := by decide +kernel
theorem f_171_3 : ftc (PT 171) 3 = some (3, .getfield 19, 3, 11, 1, 469) := by decide +kernel
theorem f_171_6 : ftc (PT 171) 6 = some (6, .aload_n 0, 1, 0, 0, 0) := by decide +kernel
theorem f_171_7 : ftc (PT 171) 7 = some (7, .getfield 19, 3, 11, 1, 469) := by decide +kernel
theorem f_171_10 : ftc (PT 171) 10 = some (10, .getfield 127, 3, 2, 3, 221) := by decide +kernel
theorem f_171_13 : ftc (PT 171) 13 = some (13, .aload_n 0, 1, 0, 0, 0) := by decide +kernel
theorem f_171_14 : ftc (PT 171) 14 = some (14, .getfield 46, 3, 11, 7, 475) := by decide +kernel
theorem f_171_17 : ftc (PT 171) 17 = some (17, .invokestatic 196, 3, 106, 4099, 742) := by decide +kernel
theorem f_174_0 : ftc (PT 174) 0 = some (0, .iload_n 1, 1, 0, 0, 0) := by decide +kernel
theorem f_174_1 : ftc (PT 174) 1 = some (1, .tableswitch 92 0 3 #[31, 46, 61, 77], 31, 0, 0, 0) := by decide +kernel
theorem f_174_32 : ftc (PT 174) 32 = some (32, .aload_n 0, 1, 0, 0, 0) := by decide +kernel
theorem f_174_33 : ftc (PT 174) 33 = some (33, .getfield 10, 3, 11, 0, 468) := by decide +kernel
theorem f_174_36 : ftc (PT 174) 36 = some (36, .aload_n 0, 1, 0, 0, 0) := by decide +kernel
theorem f_174_37 : ftc (PT 174) 37 = some (37, .getfield 83, 3, 11, 13, 481) := by decide +kernel
theorem f_174_40 : ftc (PT 174) 40 = some (40, .getfield 403, 3, 0, 4, 394) := by decide +kernel
theorem f_174_43 : ftc (PT 174) 43 = some (43, .invokevirtual 331, 3, 69, 2089, 1303) := by decide +kernel
theorem f_174_47 : ftc (PT 174) 47 = some (47, .aload_n 0, 1, 0, 0, 0) := by decide +kernel
theorem f_174_48 : ftc (PT 174) 48 = some (48, .getfield 10, 3, 11, 0, 468) := by decide +kernel
theorem f_174_51 : ftc (PT 174) 51 = some (51, .aload_n 0, 1, 0, 0, 0) := by decide +kernel
theorem f_174_52 : ftc (PT 174) 52 = some (52, .getfield 83, 3, 11, 13, 481) := by decide +kernel
theorem f_174_55 : ftc (PT 174) 55 = some (55, .getfield 403, 3, 0, 4, 394) := by decide +kernel
theorem f_174_58 : ftc (PT 174) 58 = some (58, .invokevirtual 328, 3, 70, 2089, 1307) := by decide +kernel
theorem f_174_62 : ftc (PT 174) 62 = some (62, .aload_n 0, 1, 0, 0, 0) := by decide +kernel
theorem f_174_63 : ftc (PT 174) 63 = some (63, .getfield 83, 3, 11, 13, 481) := by decide +kernel
theorem f_174_66 : ftc (PT 174) 66 = some (66, .getfield 575, 3, 0, 6, 398) := by decide +kernel
theorem f_174_69 : ftc (PT 174) 69 = some (69, .ifCond .eq 7, 3, 76, 0, 0) := by decide +kernel
theorem f_174_72 : ftc (PT 174) 72 = some (72, .iconst 1, 1, 0, 0, 0) := by decide +kernel
theorem f_174_73 : ftc (PT 174) 73 = some (73, .goto 4, 3, 77, 0, 0) := by decide +kernel
theorem f_174_76 : ftc (PT 174) 76 = some (76, .iconst 0, 1, 0, 0, 0) := by decide +kernel
theorem f_174_77 : ftc (PT 174) 77 = some (77, .ireturn, 1, 0, 0, 0) := by decide +kernel
theorem f_174_78 : ftc (PT 174) 78 = some (78, .aload_n 0, 1, 0, 0, 0) := by decide +kernel
theorem f_174_79 : ftc (PT 174) 79 = some (79, .getfield 10, 3, 11, 0, 468) := by decide +kernel
theorem f_174_82 : ftc (PT 174) 82 = some (82, .aload_n 0, 1, 0, 0, 0) := by decide +kernel
theorem f_174_83 : ftc (PT 174) 83 = some (83, .getfield 83, 3, 11, 13, 481) := by decide +kernel
theorem f_174_86 : ftc (PT 174) 86 = some (86, .getfield 386, 3, 0, 5, 396) := by decide +kernel
theorem f_174_89 : ftc (PT 174) 89 = some (89, .invokevirtual 331, 3, 69, 2089, 1303) := by decide +kernel
theorem f_174_93 : ftc (PT 174) 93 = some (93, .aload_n 0, 1, 0, 0, 0) := by decide +kernel
theorem f_174_94 : ftc (PT 174) 94 = some (94, .getfield 10, 3, 11, 0, 468) := by decide +kernel
theorem f_174_97 : ftc (PT 174) 97 = some (97, .aload_n 0, 1, 0, 0, 0) := by decide +kernel
theorem f_174_98 : ftc (PT 174) 98 = some (98, .getfield 83, 3, 11, 13, 481) := by decide +kernel
theorem f_174_101 : ftc (PT 174) 101 = some (101, .getfield 386, 3, 0, 5, 396) := by decide +kernel
theorem f_174_104 : ftc (PT 174) 104 = some (104, .invokevirtual 328, 3, 70, 2089, 1307) := by decide +kernel
set_option maxRecDepth 10000 in
set_option maxHeartbeats 4000000 in
theorem s_145_132 {Lx : Nat} {I : Mi} {L : Ml} {e : Nat} {Q : Kq} {x1 : Int32} {x3 : Int32} {y4 : Int64} {y6 : Int64} {r : Int32} (h :
    (if r = 0 then
     Q (.inr 102) (gE Lx) I L (e + 1)
    else
     (if (I 5 3) < 0 then
      (if x1 = 0 then
       (if x3 = 0 then
        (if (I 5 3) < 0 then
         Q (.inl (some (.int (I 5 3)))) (gE Lx) I L e
        else
         (if (I 5 3) < (Int32.ofInt 4) then
          (inb (I 5 3) 4 (
           (inb (I 5 3) 4 (
            (inb (I 5 3) 4 (
             Q (.inl (some (.int ((I 5 3) + (Int32.ofInt 1))))) (gE Lx) (ui (ui (ui (ui I 6 ((I 5 3).toNatClampNeg) (Int32.ofInt 2)) 7 ((I 5 3).toNatClampNeg) ((L 18 0).toInt32)) 8 ((I 5 3).toNatClampNeg) ((L 18 1).toInt32)) 5 3 ((I 5 3) + (Int32.ofInt 1))) L e)
            False))
           False))
          False)
         else
          Q (.inl (some (.int (I 5 3)))) (gE Lx) I L e))
       else
        (if (I 5 3) < 0 then
         Q (.inl (some (.int (I 5 3)))) (gE Lx) I L e
        else
         (if (I 5 3) < (Int32.ofInt 4) then
          (inb (I 5 3) 4 (
           (inb (I 5 3) 4 (
            (inb (I 5 3) 4 (
             Q (.inl (some (.int ((I 5 3) + (Int32.ofInt 1))))) (gE Lx) (ui (ui (ui (ui I 6 ((I 5 3).toNatClampNeg) (Int32.ofInt 1)) 7 ((I 5 3).toNatClampNeg) ((L 18 0).toInt32)) 8 ((I 5 3).toNatClampNeg) ((L 18 1).toInt32)) 5 3 ((I 5 3) + (Int32.ofInt 1))) L e)
            False))
           False))
          False)
         else
          Q (.inl (some (.int (I 5 3)))) (gE Lx) I L e)))
      else
       (if x3 = 0 then
        (if (I 5 3) < 0 then
         Q (.inl (some (.int (I 5 3)))) (gE Lx) I L e
        else
         (if (I 5 3) < (Int32.ofInt 4) then
          (inb (I 5 3) 4 (
           (inb (I 5 3) 4 (
            (inb (I 5 3) 4 (
             Q (.inl (some (.int ((I 5 3) + (Int32.ofInt 1))))) (gE Lx) (ui (ui (ui (ui I 6 ((I 5 3).toNatClampNeg) (Int32.ofInt 4)) 7 ((I 5 3).toNatClampNeg) ((L 18 0).toInt32)) 8 ((I 5 3).toNatClampNeg) ((L 18 1).toInt32)) 5 3 ((I 5 3) + (Int32.ofInt 1))) L e)
            False))
           False))
          False)
         else
          Q (.inl (some (.int (I 5 3)))) (gE Lx) I L e))
       else
        (if (I 5 3) < 0 then
         Q (.inl (some (.int (I 5 3)))) (gE Lx) I L e
        else
         (if (I 5 3) < (Int32.ofInt 4) then
          (inb (I 5 3) 4 (
           (inb (I 5 3) 4 (
            (inb (I 5 3) 4 (
             Q (.inl (some (.int ((I 5 3) + (Int32.ofInt 1))))) (gE Lx) (ui (ui (ui (ui I 6 ((I 5 3).toNatClampNeg) (Int32.ofInt 3)) 7 ((I 5 3).toNatClampNeg) ((L 18 0).toInt32)) 8 ((I 5 3).toNatClampNeg) ((L 18 1).toInt32)) 5 3 ((I 5 3) + (Int32.ofInt 1))) L e)
            False))
           False))
          False)
         else
          Q (.inl (some (.int (I 5 3)))) (gE Lx) I L e))))
     else
      (if (I 5 3) < (Int32.ofInt 4) then
       (inb (I 5 3) 4 (
        (inb (I 5 3) 4 (
         (inb (I 5 3) 4 (
          (if x1 = 0 then
           (if x3 = 0 then
            (if ((I 5 3) + (Int32.ofInt 1)) < 0 then
             Q (.inl (some (.int ((I 5 3) + (Int32.ofInt 1))))) (gE Lx) (ui (ui (ui (ui I 6 ((I 5 3).toNatClampNeg) (Int32.ofInt 0)) 7 ((I 5 3).toNatClampNeg) y4.toInt32) 8 ((I 5 3).toNatClampNeg) y6.toInt32) 5 3 ((I 5 3) + (Int32.ofInt 1))) L e
            else
             (if ((I 5 3) + (Int32.ofInt 1)) < (Int32.ofInt 4) then
              (inb ((I 5 3) + (Int32.ofInt 1)) 4 (
               (inb ((I 5 3) + (Int32.ofInt 1)) 4 (
                (inb ((I 5 3) + (Int32.ofInt 1)) 4 (
                 Q (.inl (some (.int (((I 5 3) + (Int32.ofInt 1)) + (Int32.ofInt 1))))) (gE Lx) (ui (ui (ui (ui (ui (ui (ui (ui I 6 ((I 5 3).toNatClampNeg) (Int32.ofInt 0)) 7 ((I 5 3).toNatClampNeg) y4.toInt32) 8 ((I 5 3).toNatClampNeg) y6.toInt32) 5 3 ((I 5 3) + (Int32.ofInt 1))) 6 (((I 5 3) + (Int32.ofInt 1)).toNatClampNeg) (Int32.ofInt 2)) 7 (((I 5 3) + (Int32.ofInt 1)).toNatClampNeg) ((L 18 0).toInt32)) 8 (((I 5 3) + (Int32.ofInt 1)).toNatClampNeg) ((L 18 1).toInt32)) 5 3 (((I 5 3) + (Int32.ofInt 1)) + (Int32.ofInt 1))) L e)
                False))
               False))
              False)
             else
              Q (.inl (some (.int ((I 5 3) + (Int32.ofInt 1))))) (gE Lx) (ui (ui (ui (ui I 6 ((I 5 3).toNatClampNeg) (Int32.ofInt 0)) 7 ((I 5 3).toNatClampNeg) y4.toInt32) 8 ((I 5 3).toNatClampNeg) y6.toInt32) 5 3 ((I 5 3) + (Int32.ofInt 1))) L e))
           else
            (if ((I 5 3) + (Int32.ofInt 1)) < 0 then
             Q (.inl (some (.int ((I 5 3) + (Int32.ofInt 1))))) (gE Lx) (ui (ui (ui (ui I 6 ((I 5 3).toNatClampNeg) (Int32.ofInt 0)) 7 ((I 5 3).toNatClampNeg) y4.toInt32) 8 ((I 5 3).toNatClampNeg) y6.toInt32) 5 3 ((I 5 3) + (Int32.ofInt 1))) L e
            else
             (if ((I 5 3) + (Int32.ofInt 1)) < (Int32.ofInt 4) then
              (inb ((I 5 3) + (Int32.ofInt 1)) 4 (
               (inb ((I 5 3) + (Int32.ofInt 1)) 4 (
                (inb ((I 5 3) + (Int32.ofInt 1)) 4 (
                 Q (.inl (some (.int (((I 5 3) + (Int32.ofInt 1)) + (Int32.ofInt 1))))) (gE Lx) (ui (ui (ui (ui (ui (ui (ui (ui I 6 ((I 5 3).toNatClampNeg) (Int32.ofInt 0)) 7 ((I 5 3).toNatClampNeg) y4.toInt32) 8 ((I 5 3).toNatClampNeg) y6.toInt32) 5 3 ((I 5 3) + (Int32.ofInt 1))) 6 (((I 5 3) + (Int32.ofInt 1)).toNatClampNeg) (Int32.ofInt 1)) 7 (((I 5 3) + (Int32.ofInt 1)).toNatClampNeg) ((L 18 0).toInt32)) 8 (((I 5 3) + (Int32.ofInt 1)).toNatClampNeg) ((L 18 1).toInt32)) 5 3 (((I 5 3) + (Int32.ofInt 1)) + (Int32.ofInt 1))) L e)
                False))
               False))
              False)
             else
              Q (.inl (some (.int ((I 5 3) + (Int32.ofInt 1))))) (gE Lx) (ui (ui (ui (ui I 6 ((I 5 3).toNatClampNeg) (Int32.ofInt 0)) 7 ((I 5 3).toNatClampNeg) y4.toInt32) 8 ((I 5 3).toNatClampNeg) y6.toInt32) 5 3 ((I 5 3) + (Int32.ofInt 1))) L e)))
          else
           (if x3 = 0 then
            (if ((I 5 3) + (Int32.ofInt 1)) < 0 then
             Q (.inl (some (.int ((I 5 3) + (Int32.ofInt 1))))) (gE Lx) (ui (ui (ui (ui I 6 ((I 5 3).toNatClampNeg) (Int32.ofInt 0)) 7 ((I 5 3).toNatClampNeg) y4.toInt32) 8 ((I 5 3).toNatClampNeg) y6.toInt32) 5 3 ((I 5 3) + (Int32.ofInt 1))) L e
            else
             (if ((I 5 3) + (Int32.ofInt 1)) < (Int32.ofInt 4) then
              (inb ((I 5 3) + (Int32.ofInt 1)) 4 (
               (inb ((I 5 3) + (Int32.ofInt 1)) 4 (
                (inb ((I 5 3) + (Int32.ofInt 1)) 4 (
                 Q (.inl (some (.int (((I 5 3) + (Int32.ofInt 1)) + (Int32.ofInt 1))))) (gE Lx) (ui (ui (ui (ui (ui (ui (ui (ui I 6 ((I 5 3).toNatClampNeg) (Int32.ofInt 0)) 7 ((I 5 3).toNatClampNeg) y4.toInt32) 8 ((I 5 3).toNatClampNeg) y6.toInt32) 5 3 ((I 5 3) + (Int32.ofInt 1))) 6 (((I 5 3) + (Int32.ofInt 1)).toNatClampNeg) (Int32.ofInt 4)) 7 (((I 5 3) + (Int32.ofInt 1)).toNatClampNeg) ((L 18 0).toInt32)) 8 (((I 5 3) + (Int32.ofInt 1)).toNatClampNeg) ((L 18 1).toInt32)) 5 3 (((I 5 3) + (Int32.ofInt 1)) + (Int32.ofInt 1))) L e)
                False))
               False))
              False)
             else
              Q (.inl (some (.int ((I 5 3) + (Int32.ofInt 1))))) (gE Lx) (ui (ui (ui (ui I 6 ((I 5 3).toNatClampNeg) (Int32.ofInt 0)) 7 ((I 5 3).toNatClampNeg) y4.toInt32) 8 ((I 5 3).toNatClampNeg) y6.toInt32) 5 3 ((I 5 3) + (Int32.ofInt 1))) L e))
           else
            (if ((I 5 3) + (Int32.ofInt 1)) < 0 then
             Q (.inl (some (.int ((I 5 3) + (Int32.ofInt 1))))) (gE Lx) (ui (ui (ui (ui I 6 ((I 5 3).toNatClampNeg) (Int32.ofInt 0)) 7 ((I 5 3).toNatClampNeg) y4.toInt32) 8 ((I 5 3).toNatClampNeg) y6.toInt32) 5 3 ((I 5 3) + (Int32.ofInt 1))) L e
            else
             (if ((I 5 3) + (Int32.ofInt 1)) < (Int32.ofInt 4) then
              (inb ((I 5 3) + (Int32.ofInt 1)) 4 (
               (inb ((I 5 3) + (Int32.ofInt 1)) 4 (
                (inb ((I 5 3) + (Int32.ofInt 1)) 4 (
                 Q (.inl (some (.int (((I 5 3) + (Int32.ofInt 1)) + (Int32.ofInt 1))))) (gE Lx) (ui (ui (ui (ui (ui (ui (ui (ui I 6 ((I 5 3).toNatClampNeg) (Int32.ofInt 0)) 7 ((I 5 3).toNatClampNeg) y4.toInt32) 8 ((I 5 3).toNatClampNeg) y6.toInt32) 5 3 ((I 5 3) + (Int32.ofInt 1))) 6 (((I 5 3) + (Int32.ofInt 1)).toNatClampNeg) (Int32.ofInt 3)) 7 (((I 5 3) + (Int32.ofInt 1)).toNatClampNeg) ((L 18 0).toInt32)) 8 (((I 5 3) + (Int32.ofInt 1)).toNatClampNeg) ((L 18 1).toInt32)) 5 3 (((I 5 3) + (Int32.ofInt 1)) + (Int32.ofInt 1))) L e)
                False))
               False))
              False)
             else
              Q (.inl (some (.int ((I 5 3) + (Int32.ofInt 1))))) (gE Lx) (ui (ui (ui (ui I 6 ((I 5 3).toNatClampNeg) (Int32.ofInt 0)) 7 ((I 5 3).toNatClampNeg) y4.toInt32) 8 ((I 5 3).toNatClampNeg) y6.toInt32) 5 3 ((I 5 3) + (Int32.ofInt 1))) L e)))))
         False))
        False))
       False)
      else
       (if x1 = 0 then
        (if x3 = 0 then
         (if (I 5 3) < 0 then
          Q (.inl (some (.int (I 5 3)))) (gE Lx) I L e
         else
          (if (I 5 3) < (Int32.ofInt 4) then
           (inb (I 5 3) 4 (
            (inb (I 5 3) 4 (
             (inb (I 5 3) 4 (
              Q (.inl (some (.int ((I 5 3) + (Int32.ofInt 1))))) (gE Lx) (ui (ui (ui (ui I 6 ((I 5 3).toNatClampNeg) (Int32.ofInt 2)) 7 ((I 5 3).toNatClampNeg) ((L 18 0).toInt32)) 8 ((I 5 3).toNatClampNeg) ((L 18 1).toInt32)) 5 3 ((I 5 3) + (Int32.ofInt 1))) L e)
             False))
            False))
           False)
          else
           Q (.inl (some (.int (I 5 3)))) (gE Lx) I L e))
        else
         (if (I 5 3) < 0 then
          Q (.inl (some (.int (I 5 3)))) (gE Lx) I L e
         else
          (if (I 5 3) < (Int32.ofInt 4) then
           (inb (I 5 3) 4 (
            (inb (I 5 3) 4 (
             (inb (I 5 3) 4 (
              Q (.inl (some (.int ((I 5 3) + (Int32.ofInt 1))))) (gE Lx) (ui (ui (ui (ui I 6 ((I 5 3).toNatClampNeg) (Int32.ofInt 1)) 7 ((I 5 3).toNatClampNeg) ((L 18 0).toInt32)) 8 ((I 5 3).toNatClampNeg) ((L 18 1).toInt32)) 5 3 ((I 5 3) + (Int32.ofInt 1))) L e)
             False))
            False))
           False)
          else
           Q (.inl (some (.int (I 5 3)))) (gE Lx) I L e)))
       else
        (if x3 = 0 then
         (if (I 5 3) < 0 then
          Q (.inl (some (.int (I 5 3)))) (gE Lx) I L e
         else
          (if (I 5 3) < (Int32.ofInt 4) then
           (inb (I 5 3) 4 (
            (inb (I 5 3) 4 (
             (inb (I 5 3) 4 (
              Q (.inl (some (.int ((I 5 3) + (Int32.ofInt 1))))) (gE Lx) (ui (ui (ui (ui I 6 ((I 5 3).toNatClampNeg) (Int32.ofInt 4)) 7 ((I 5 3).toNatClampNeg) ((L 18 0).toInt32)) 8 ((I 5 3).toNatClampNeg) ((L 18 1).toInt32)) 5 3 ((I 5 3) + (Int32.ofInt 1))) L e)
             False))
            False))
           False)
          else
           Q (.inl (some (.int (I 5 3)))) (gE Lx) I L e))
        else
         (if (I 5 3) < 0 then
          Q (.inl (some (.int (I 5 3)))) (gE Lx) I L e
         else
          (if (I 5 3) < (Int32.ofInt 4) then
           (inb (I 5 3) 4 (
            (inb (I 5 3) 4 (
             (inb (I 5 3) 4 (
              Q (.inl (some (.int ((I 5 3) + (Int32.ofInt 1))))) (gE Lx) (ui (ui (ui (ui I 6 ((I 5 3).toNatClampNeg) (Int32.ofInt 3)) 7 ((I 5 3).toNatClampNeg) ((L 18 0).toInt32)) 8 ((I 5 3).toNatClampNeg) ((L 18 1).toInt32)) 5 3 ((I 5 3) + (Int32.ofInt 1))) L e)
             False))
            False))
           False)
          else
           Q (.inl (some (.int (I 5 3)))) (gE Lx) I L e)))))))) :
    Wp 145 132 [(0, .ref 1), (1, .int x1), (3, .int x3), (4, .long y4), (6, .long y6)] [.int r] (gE Lx) I L e Q := by
  refine w_a f_145_132 ?_
  refine i_m (fun h => ?_) (fun h => ?_) h
  · refine w_a f_145_135 ?_
    exact h
  · refine w_a f_145_143 ?_
    refine w_a f_145_144 ?_
    refine w_a f_145_147 ?_
    refine w_a f_145_148 ?_
    refine w_a f_145_150 ?_
    refine w_a f_145_151 ?_
    refine w_a f_145_153 ?_
    refine w_a f_145_154 ?_
    refine w_a (ls := [(0, .ref 5), (1, .int (Int32.ofInt 0)), (2, .int y4.toInt32), (3, .int y6.toInt32)]) f_19_0 ?_
    refine w_a f_19_1 ?_
    refine w_a f_19_4 ?_
    refine i_m (fun h => ?_) (fun h => ?_) h
    · refine w_a f_19_15 ?_
      refine w_a (ls := [(0, .ref 1), (1, .int x1), (3, .int x3), (4, .long y4), (6, .long y6)]) f_145_157 ?_
      refine w_a f_145_158 ?_
      refine w_a f_145_161 ?_
      refine w_a f_145_162 ?_
      refine w_a f_145_163 ?_
      refine w_a (ls := [(0, .int x1), (1, .int x3)]) f_146_0 ?_
      refine w_a f_146_1 ?_
      refine i_m (fun h => ?_) (fun h => ?_) h
      · refine w_a f_146_14 ?_
        refine w_a f_146_15 ?_
        refine i_m (fun h => ?_) (fun h => ?_) h
        · refine w_a f_146_22 ?_
          refine w_a f_146_23 ?_
          refine w_a (ls := [(0, .ref 1), (1, .int x1), (3, .int x3), (4, .long y4), (6, .long y6)]) f_145_166 ?_
          refine w_a f_145_167 ?_
          refine w_a f_145_170 ?_
          refine w_a f_145_173 ?_
          refine w_a f_145_174 ?_
          refine w_a f_145_175 ?_
          refine w_a f_145_178 ?_
          refine w_a f_145_181 ?_
          refine w_a f_145_182 ?_
          refine w_a (ls := [(0, .ref 5), (1, .int (Int32.ofInt 2)), (2, .int (L 18 0).toInt32), (3, .int (L 18 1).toInt32)]) f_19_0 ?_
          refine w_a f_19_1 ?_
          refine w_a f_19_4 ?_
          refine i_m (fun h => ?_) (fun h => ?_) h
          · refine w_a f_19_15 ?_
            refine w_a (ls := [(0, .ref 1), (1, .int x1), (3, .int x3), (4, .long y4), (6, .long y6)]) f_145_185 ?_
            refine w_a f_145_186 ?_
            refine w_a f_145_189 ?_
            refine w_a f_145_192 ?_
            exact h
          · refine w_a f_19_7 ?_
            refine w_a f_19_8 ?_
            refine w_a f_19_11 ?_
            refine w_a f_19_12 ?_
            refine i_m (fun h => ?_) (fun h => ?_) h
            · refine w_a f_19_16 ?_
              refine w_a f_19_17 ?_
              refine w_a f_19_20 ?_
              refine w_a f_19_21 ?_
              refine w_a f_19_24 ?_
              refine w_a f_19_25 ?_
              refine n_m (fun h => ?_) h
              refine w_a f_19_26 ?_
              refine w_a f_19_27 ?_
              refine w_a f_19_30 ?_
              refine w_a f_19_31 ?_
              refine w_a f_19_34 ?_
              refine w_a f_19_35 ?_
              refine n_m (fun h => ?_) h
              refine w_a f_19_36 ?_
              refine w_a f_19_37 ?_
              refine w_a f_19_40 ?_
              refine w_a f_19_41 ?_
              refine w_a f_19_44 ?_
              refine w_a f_19_45 ?_
              refine n_m (fun h => ?_) h
              refine w_a f_19_46 ?_
              refine w_a f_19_47 ?_
              refine w_a f_19_48 ?_
              refine w_a f_19_51 ?_
              refine w_a f_19_52 ?_
              refine w_a f_19_53 ?_
              refine w_a f_19_56 ?_
              refine w_a (ls := [(0, .ref 1), (1, .int x1), (3, .int x3), (4, .long y4), (6, .long y6)]) f_145_185 ?_
              refine w_a f_145_186 ?_
              refine w_a f_145_189 ?_
              refine w_a f_145_192 ?_
              exact h
            · refine w_a f_19_15 ?_
              refine w_a (ls := [(0, .ref 1), (1, .int x1), (3, .int x3), (4, .long y4), (6, .long y6)]) f_145_185 ?_
              refine w_a f_145_186 ?_
              refine w_a f_145_189 ?_
              refine w_a f_145_192 ?_
              exact h
        · refine w_a f_146_18 ?_
          refine w_a f_146_19 ?_
          refine w_a f_146_23 ?_
          refine w_a (ls := [(0, .ref 1), (1, .int x1), (3, .int x3), (4, .long y4), (6, .long y6)]) f_145_166 ?_
          refine w_a f_145_167 ?_
          refine w_a f_145_170 ?_
          refine w_a f_145_173 ?_
          refine w_a f_145_174 ?_
          refine w_a f_145_175 ?_
          refine w_a f_145_178 ?_
          refine w_a f_145_181 ?_
          refine w_a f_145_182 ?_
          refine w_a (ls := [(0, .ref 5), (1, .int (Int32.ofInt 1)), (2, .int (L 18 0).toInt32), (3, .int (L 18 1).toInt32)]) f_19_0 ?_
          refine w_a f_19_1 ?_
          refine w_a f_19_4 ?_
          refine i_m (fun h => ?_) (fun h => ?_) h
          · refine w_a f_19_15 ?_
            refine w_a (ls := [(0, .ref 1), (1, .int x1), (3, .int x3), (4, .long y4), (6, .long y6)]) f_145_185 ?_
            refine w_a f_145_186 ?_
            refine w_a f_145_189 ?_
            refine w_a f_145_192 ?_
            exact h
          · refine w_a f_19_7 ?_
            refine w_a f_19_8 ?_
            refine w_a f_19_11 ?_
            refine w_a f_19_12 ?_
            refine i_m (fun h => ?_) (fun h => ?_) h
            · refine w_a f_19_16 ?_
              refine w_a f_19_17 ?_
              refine w_a f_19_20 ?_
              refine w_a f_19_21 ?_
              refine w_a f_19_24 ?_
              refine w_a f_19_25 ?_
              refine n_m (fun h => ?_) h
              refine w_a f_19_26 ?_
              refine w_a f_19_27 ?_
              refine w_a f_19_30 ?_
              refine w_a f_19_31 ?_
              refine w_a f_19_34 ?_
              refine w_a f_19_35 ?_
              refine n_m (fun h => ?_) h
              refine w_a f_19_36 ?_
              refine w_a f_19_37 ?_
              refine w_a f_19_40 ?_
              refine w_a f_19_41 ?_
              refine w_a f_19_44 ?_
              refine w_a f_19_45 ?_
              refine n_m (fun h => ?_) h
              refine w_a f_19_46 ?_
              refine w_a f_19_47 ?_
              refine w_a f_19_48 ?_
              refine w_a f_19_51 ?_
              refine w_a f_19_52 ?_
              refine w_a f_19_53 ?_
              refine w_a f_19_56 ?_
              refine w_a (ls := [(0, .ref 1), (1, .int x1), (3, .int x3), (4, .long y4), (6, .long y6)]) f_145_185 ?_
              refine w_a f_145_186 ?_
              refine w_a f_145_189 ?_
              refine w_a f_145_192 ?_
              exact h
            · refine w_a f_19_15 ?_
              refine w_a (ls := [(0, .ref 1), (1, .int x1), (3, .int x3), (4, .long y4), (6, .long y6)]) f_145_185 ?_
              refine w_a f_145_186 ?_
              refine w_a f_145_189 ?_
              refine w_a f_145_192 ?_
              exact h
      · refine w_a f_146_4 ?_
        refine w_a f_146_5 ?_
        refine i_m (fun h => ?_) (fun h => ?_) h
        · refine w_a f_146_12 ?_
          refine w_a f_146_13 ?_
          refine w_a (ls := [(0, .ref 1), (1, .int x1), (3, .int x3), (4, .long y4), (6, .long y6)]) f_145_166 ?_
          refine w_a f_145_167 ?_
          refine w_a f_145_170 ?_
          refine w_a f_145_173 ?_
          refine w_a f_145_174 ?_
          refine w_a f_145_175 ?_
          refine w_a f_145_178 ?_
          refine w_a f_145_181 ?_
          refine w_a f_145_182 ?_
          refine w_a (ls := [(0, .ref 5), (1, .int (Int32.ofInt 4)), (2, .int (L 18 0).toInt32), (3, .int (L 18 1).toInt32)]) f_19_0 ?_
          refine w_a f_19_1 ?_
          refine w_a f_19_4 ?_
          refine i_m (fun h => ?_) (fun h => ?_) h
          · refine w_a f_19_15 ?_
            refine w_a (ls := [(0, .ref 1), (1, .int x1), (3, .int x3), (4, .long y4), (6, .long y6)]) f_145_185 ?_
            refine w_a f_145_186 ?_
            refine w_a f_145_189 ?_
            refine w_a f_145_192 ?_
            exact h
          · refine w_a f_19_7 ?_
            refine w_a f_19_8 ?_
            refine w_a f_19_11 ?_
            refine w_a f_19_12 ?_
            refine i_m (fun h => ?_) (fun h => ?_) h
            · refine w_a f_19_16 ?_
              refine w_a f_19_17 ?_
              refine w_a f_19_20 ?_
              refine w_a f_19_21 ?_
              refine w_a f_19_24 ?_
              refine w_a f_19_25 ?_
              refine n_m (fun h => ?_) h
              refine w_a f_19_26 ?_
              refine w_a f_19_27 ?_
              refine w_a f_19_30 ?_
              refine w_a f_19_31 ?_
              refine w_a f_19_34 ?_
              refine w_a f_19_35 ?_
              refine n_m (fun h => ?_) h
              refine w_a f_19_36 ?_
              refine w_a f_19_37 ?_
              refine w_a f_19_40 ?_
              refine w_a f_19_41 ?_
              refine w_a f_19_44 ?_
              refine w_a f_19_45 ?_
              refine n_m (fun h => ?_) h
              refine w_a f_19_46 ?_
              refine w_a f_19_47 ?_
              refine w_a f_19_48 ?_
              refine w_a f_19_51 ?_
              refine w_a f_19_52 ?_
              refine w_a f_19_53 ?_
              refine w_a f_19_56 ?_
              refine w_a (ls := [(0, .ref 1), (1, .int x1), (3, .int x3), (4, .long y4), (6, .long y6)]) f_145_185 ?_
              refine w_a f_145_186 ?_
              refine w_a f_145_189 ?_
              refine w_a f_145_192 ?_
              exact h
            · refine w_a f_19_15 ?_
              refine w_a (ls := [(0, .ref 1), (1, .int x1), (3, .int x3), (4, .long y4), (6, .long y6)]) f_145_185 ?_
              refine w_a f_145_186 ?_
              refine w_a f_145_189 ?_
              refine w_a f_145_192 ?_
              exact h
        · refine w_a f_146_8 ?_
          refine w_a f_146_9 ?_
          refine w_a f_146_13 ?_
          refine w_a (ls := [(0, .ref 1), (1, .int x1), (3, .int x3), (4, .long y4), (6, .long y6)]) f_145_166 ?_
          refine w_a f_145_167 ?_
          refine w_a f_145_170 ?_
          refine w_a f_145_173 ?_
          refine w_a f_145_174 ?_
          refine w_a f_145_175 ?_
          refine w_a f_145_178 ?_
          refine w_a f_145_181 ?_
          refine w_a f_145_182 ?_
          refine w_a (ls := [(0, .ref 5), (1, .int (Int32.ofInt 3)), (2, .int (L 18 0).toInt32), (3, .int (L 18 1).toInt32)]) f_19_0 ?_
          refine w_a f_19_1 ?_
          refine w_a f_19_4 ?_
          refine i_m (fun h => ?_) (fun h => ?_) h
          · refine w_a f_19_15 ?_
            refine w_a (ls := [(0, .ref 1), (1, .int x1), (3, .int x3), (4, .long y4), (6, .long y6)]) f_145_185 ?_
            refine w_a f_145_186 ?_
            refine w_a f_145_189 ?_
            refine w_a f_145_192 ?_
            exact h
          · refine w_a f_19_7 ?_
            refine w_a f_19_8 ?_
            refine w_a f_19_11 ?_
            refine w_a f_19_12 ?_
            refine i_m (fun h => ?_) (fun h => ?_) h
            · refine w_a f_19_16 ?_
              refine w_a f_19_17 ?_
              refine w_a f_19_20 ?_
              refine w_a f_19_21 ?_
              refine w_a f_19_24 ?_
              refine w_a f_19_25 ?_
              refine n_m (fun h => ?_) h
              refine w_a f_19_26 ?_
              refine w_a f_19_27 ?_
              refine w_a f_19_30 ?_
              refine w_a f_19_31 ?_
              refine w_a f_19_34 ?_
              refine w_a f_19_35 ?_
              refine n_m (fun h => ?_) h
              refine w_a f_19_36 ?_
              refine w_a f_19_37 ?_
              refine w_a f_19_40 ?_
              refine w_a f_19_41 ?_
              refine w_a f_19_44 ?_
              refine w_a f_19_45 ?_
              refine n_m (fun h => ?_) h
              refine w_a f_19_46 ?_
              refine w_a f_19_47 ?_
              refine w_a f_19_48 ?_
              refine w_a f_19_51 ?_
              refine w_a f_19_52 ?_
              refine w_a f_19_53 ?_
              refine w_a f_19_56 ?_
              refine w_a (ls := [(0, .ref 1), (1, .int x1), (3, .int x3), (4, .long y4), (6, .long y6)]) f_145_185 ?_
              refine w_a f_145_186 ?_
              refine w_a f_145_189 ?_
              refine w_a f_145_192 ?_
              exact h
            · refine w_a f_19_15 ?_
              refine w_a (ls := [(0, .ref 1), (1, .int x1), (3, .int x3), (4, .long y4), (6, .long y6)]) f_145_185 ?_
              refine w_a f_145_186 ?_
              refine w_a f_145_189 ?_
              refine w_a f_145_192 ?_
              exact h
    · refine w_a f_19_7 ?_
      refine w_a f_19_8 ?_
      refine w_a f_19_11 ?_
      refine w_a f_19_12 ?_
      refine i_m (fun h => ?_) (fun h => ?_) h
      · refine w_a f_19_16 ?_
        refine w_a f_19_17 ?_
        refine w_a f_19_20 ?_
        refine w_a f_19_21 ?_
        refine w_a f_19_24 ?_
        refine w_a f_19_25 ?_
        refine n_m (fun h => ?_) h
        refine w_a f_19_26 ?_
        refine w_a f_19_27 ?_
        refine w_a f_19_30 ?_
        refine w_a f_19_31 ?_
        refine w_a f_19_34 ?_
        refine w_a f_19_35 ?_
        refine n_m (fun h => ?_) h
        refine w_a f_19_36 ?_
        refine w_a f_19_37 ?_
        refine w_a f_19_40 ?_
        refine w_a f_19_41 ?_
        refine w_a f_19_44 ?_
        refine w_a f_19_45 ?_
        refine n_m (fun h => ?_) h
        refine w_a f_19_46 ?_
        refine w_a f_19_47 ?_
        refine w_a f_19_48 ?_
        refine w_a f_19_51 ?_
        refine w_a f_19_52 ?_
        refine w_a f_19_53 ?_
        refine w_a f_19_56 ?_
        refine w_a (ls := [(0, .ref 1), (1, .int x1), (3, .int x3), (4, .long y4), (6, .long y6)]) f_145_157 ?_
        refine w_a f_145_158 ?_
        refine w_a f_145_161 ?_
        refine w_a f_145_162 ?_
        refine w_a f_145_163 ?_
        refine w_a (ls := [(0, .int x1), (1, .int x3)]) f_146_0 ?_
        refine w_a f_146_1 ?_
        refine i_m (fun h => ?_) (fun h => ?_) h
        · refine w_a f_146_14 ?_
          refine w_a f_146_15 ?_
          refine i_m (fun h => ?_) (fun h => ?_) h
          · refine w_a f_146_22 ?_
            refine w_a f_146_23 ?_
            refine w_a (ls := [(0, .ref 1), (1, .int x1), (3, .int x3), (4, .long y4), (6, .long y6)]) f_145_166 ?_
            refine w_a f_145_167 ?_
            refine w_a f_145_170 ?_
            refine w_a f_145_173 ?_
            refine w_a f_145_174 ?_
            refine w_a f_145_175 ?_
            refine w_a f_145_178 ?_
            refine w_a f_145_181 ?_
            refine w_a f_145_182 ?_
            refine w_a (ls := [(0, .ref 5), (1, .int (Int32.ofInt 2)), (2, .int (L 18 0).toInt32), (3, .int (L 18 1).toInt32)]) f_19_0 ?_
            refine w_a f_19_1 ?_
            refine w_a f_19_4 ?_
            refine i_m (fun h => ?_) (fun h => ?_) h
            · refine w_a f_19_15 ?_
              refine w_a (ls := [(0, .ref 1), (1, .int x1), (3, .int x3), (4, .long y4), (6, .long y6)]) f_145_185 ?_
              refine w_a f_145_186 ?_
              refine w_a f_145_189 ?_
              refine w_a f_145_192 ?_
              exact h
            · refine w_a f_19_7 ?_
              refine w_a f_19_8 ?_
              refine w_a f_19_11 ?_
              refine w_a f_19_12 ?_
              refine i_m (fun h => ?_) (fun h => ?_) h
              · refine w_a f_19_16 ?_
                refine w_a f_19_17 ?_
                refine w_a f_19_20 ?_
                refine w_a f_19_21 ?_
                refine w_a f_19_24 ?_
                refine w_a f_19_25 ?_
                refine n_m (fun h => ?_) h
                refine w_a f_19_26 ?_
                refine w_a f_19_27 ?_
                refine w_a f_19_30 ?_
                refine w_a f_19_31 ?_
                refine w_a f_19_34 ?_
                refine w_a f_19_35 ?_
                refine n_m (fun h => ?_) h
                refine w_a f_19_36 ?_
                refine w_a f_19_37 ?_
                refine w_a f_19_40 ?_
                refine w_a f_19_41 ?_
                refine w_a f_19_44 ?_
                refine w_a f_19_45 ?_
                refine n_m (fun h => ?_) h
                refine w_a f_19_46 ?_
                refine w_a f_19_47 ?_
                refine w_a f_19_48 ?_
                refine w_a f_19_51 ?_
                refine w_a f_19_52 ?_
                refine w_a f_19_53 ?_
                refine w_a f_19_56 ?_
                refine w_a (ls := [(0, .ref 1), (1, .int x1), (3, .int x3), (4, .long y4), (6, .long y6)]) f_145_185 ?_
                refine w_a f_145_186 ?_
                refine w_a f_145_189 ?_
                refine w_a f_145_192 ?_
                exact h
              · refine w_a f_19_15 ?_
                refine w_a (ls := [(0, .ref 1), (1, .int x1), (3, .int x3), (4, .long y4), (6, .long y6)]) f_145_185 ?_
                refine w_a f_145_186 ?_
                refine w_a f_145_189 ?_
                refine w_a f_145_192 ?_
                exact h
          · refine w_a f_146_18 ?_
            refine w_a f_146_19 ?_
            refine w_a f_146_23 ?_
            refine w_a (ls := [(0, .ref 1), (1, .int x1), (3, .int x3), (4, .long y4), (6, .long y6)]) f_145_166 ?_
            refine w_a f_145_167 ?_
            refine w_a f_145_170 ?_
            refine w_a f_145_173 ?_
            refine w_a f_145_174 ?_
            refine w_a f_145_175 ?_
            refine w_a f_145_178 ?_
            refine w_a f_145_181 ?_
            refine w_a f_145_182 ?_
            refine w_a (ls := [(0, .ref 5), (1, .int (Int32.ofInt 1)), (2, .int (L 18 0).toInt32), (3, .int (L 18 1).toInt32)]) f_19_0 ?_
            refine w_a f_19_1 ?_
            refine w_a f_19_4 ?_
            refine i_m (fun h => ?_) (fun h => ?_) h
            · refine w_a f_19_15 ?_
              refine w_a (ls := [(0, .ref 1), (1, .int x1), (3, .int x3), (4, .long y4), (6, .long y6)]) f_145_185 ?_
              refine w_a f_145_186 ?_
              refine w_a f_145_189 ?_
              refine w_a f_145_192 ?_
              exact h
            · refine w_a f_19_7 ?_
              refine w_a f_19_8 ?_
              refine w_a f_19_11 ?_
              refine w_a f_19_12 ?_
              refine i_m (fun h => ?_) (fun h => ?_) h
              · refine w_a f_19_16 ?_
                refine w_a f_19_17 ?_
                refine w_a f_19_20 ?_
                refine w_a f_19_21 ?_
                refine w_a f_19_24 ?_
                refine w_a f_19_25 ?_
                refine n_m (fun h => ?_) h
                refine w_a f_19_26 ?_
                refine w_a f_19_27 ?_
                refine w_a f_19_30 ?_
                refine w_a f_19_31 ?_
                refine w_a f_19_34 ?_
                refine w_a f_19_35 ?_
                refine n_m (fun h => ?_) h
                refine w_a f_19_36 ?_
                refine w_a f_19_37 ?_
                refine w_a f_19_40 ?_
                refine w_a f_19_41 ?_
                refine w_a f_19_44 ?_
                refine w_a f_19_45 ?_
                refine n_m (fun h => ?_) h
                refine w_a f_19_46 ?_
                refine w_a f_19_47 ?_
                refine w_a f_19_48 ?_
                refine w_a f_19_51 ?_
                refine w_a f_19_52 ?_
                refine w_a f_19_53 ?_
                refine w_a f_19_56 ?_
                refine w_a (ls := [(0, .ref 1), (1, .int x1), (3, .int x3), (4, .long y4), (6, .long y6)]) f_145_185 ?_
                refine w_a f_145_186 ?_
                refine w_a f_145_189 ?_
                refine w_a f_145_192 ?_
                exact h
              · refine w_a f_19_15 ?_
                refine w_a (ls := [(0, .ref 1), (1, .int x1), (3, .int x3), (4, .long y4), (6, .long y6)]) f_145_185 ?_
                refine w_a f_145_186 ?_
                refine w_a f_145_189 ?_
                refine w_a f_145_192 ?_
                exact h
        · refine w_a f_146_4 ?_
          refine w_a f_146_5 ?_
          refine i_m (fun h => ?_) (fun h => ?_) h
          · refine w_a f_146_12 ?_
            refine w_a f_146_13 ?_
            refine w_a (ls := [(0, .ref 1), (1, .int x1), (3, .int x3), (4, .long y4), (6, .long y6)]) f_145_166 ?_
            refine w_a f_145_167 ?_
            refine w_a f_145_170 ?_
            refine w_a f_145_173 ?_
            refine w_a f_145_174 ?_
            refine w_a f_145_175 ?_
            refine w_a f_145_178 ?_
            refine w_a f_145_181 ?_
            refine w_a f_145_182 ?_
            refine w_a (ls := [(0, .ref 5), (1, .int (Int32.ofInt 4)), (2, .int (L 18 0).toInt32), (3, .int (L 18 1).toInt32)]) f_19_0 ?_
            refine w_a f_19_1 ?_
            refine w_a f_19_4 ?_
            refine i_m (fun h => ?_) (fun h => ?_) h
            · refine w_a f_19_15 ?_
              refine w_a (ls := [(0, .ref 1), (1, .int x1), (3, .int x3), (4, .long y4), (6, .long y6)]) f_145_185 ?_
              refine w_a f_145_186 ?_
              refine w_a f_145_189 ?_
              refine w_a f_145_192 ?_
              exact h
            · refine w_a f_19_7 ?_
              refine w_a f_19_8 ?_
              refine w_a f_19_11 ?_
              refine w_a f_19_12 ?_
              refine i_m (fun h => ?_) (fun h => ?_) h
              · refine w_a f_19_16 ?_
                refine w_a f_19_17 ?_
                refine w_a f_19_20 ?_
                refine w_a f_19_21 ?_
                refine w_a f_19_24 ?_
                refine w_a f_19_25 ?_
                refine n_m (fun h => ?_) h
                refine w_a f_19_26 ?_
                refine w_a f_19_27 ?_
                refine w_a f_19_30 ?_
                refine w_a f_19_31 ?_
                refine w_a f_19_34 ?_
                refine w_a f_19_35 ?_
                refine n_m (fun h => ?_) h
                refine w_a f_19_36 ?_
                refine w_a f_19_37 ?_
                refine w_a f_19_40 ?_
                refine w_a f_19_41 ?_
                refine w_a f_19_44 ?_
                refine w_a f_19_45 ?_
                refine n_m (fun h => ?_) h
                refine w_a f_19_46 ?_
                refine w_a f_19_47 ?_
                refine w_a f_19_48 ?_
                refine w_a f_19_51 ?_
                refine w_a f_19_52 ?_
                refine w_a f_19_53 ?_
                refine w_a f_19_56 ?_
                refine w_a (ls := [(0, .ref 1), (1, .int x1), (3, .int x3), (4, .long y4), (6, .long y6)]) f_145_185 ?_
                refine w_a f_145_186 ?_
                refine w_a f_145_189 ?_
                refine w_a f_145_192 ?_
                exact h
              · refine w_a f_19_15 ?_
                refine w_a (ls := [(0, .ref 1), (1, .int x1), (3, .int x3), (4, .long y4), (6, .long y6)]) f_145_185 ?_
                refine w_a f_145_186 ?_
                refine w_a f_145_189 ?_
                refine w_a f_145_192 ?_
                exact h
          · refine w_a f_146_8 ?_
            refine w_a f_146_9 ?_
            refine w_a f_146_13 ?_
            refine w_a (ls := [(0, .ref 1), (1, .int x1), (3, .int x3), (4, .long y4), (6, .long y6)]) f_145_166 ?_
            refine w_a f_145_167 ?_
            refine w_a f_145_170 ?_
            refine w_a f_145_173 ?_
            refine w_a f_145_174 ?_
            refine w_a f_145_175 ?_
            refine w_a f_145_178 ?_
            refine w_a f_145_181 ?_
            refine w_a f_145_182 ?_
            refine w_a (ls := [(0, .ref 5), (1, .int (Int32.ofInt 3)), (2, .int (L 18 0).toInt32), (3, .int (L 18 1).toInt32)]) f_19_0 ?_
            refine w_a f_19_1 ?_
            refine w_a f_19_4 ?_
            refine i_m (fun h => ?_) (fun h => ?_) h
            · refine w_a f_19_15 ?_
              refine w_a (ls := [(0, .ref 1), (1, .int x1), (3, .int x3), (4, .long y4), (6, .long y6)]) f_145_185 ?_
              refine w_a f_145_186 ?_
              refine w_a f_145_189 ?_
              refine w_a f_145_192 ?_
              exact h
            · refine w_a f_19_7 ?_
              refine w_a f_19_8 ?_
              refine w_a f_19_11 ?_
              refine w_a f_19_12 ?_
              refine i_m (fun h => ?_) (fun h => ?_) h
              · refine w_a f_19_16 ?_
                refine w_a f_19_17 ?_
                refine w_a f_19_20 ?_
                refine w_a f_19_21 ?_
                refine w_a f_19_24 ?_
                refine w_a f_19_25 ?_
                refine n_m (fun h => ?_) h
                refine w_a f_19_26 ?_
                refine w_a f_19_27 ?_
                refine w_a f_19_30 ?_
                refine w_a f_19_31 ?_
                refine w_a f_19_34 ?_
                refine w_a f_19_35 ?_
                refine n_m (fun h => ?_) h
                refine w_a f_19_36 ?_
                refine w_a f_19_37 ?_
                refine w_a f_19_40 ?_
                refine w_a f_19_41 ?_
                refine w_a f_19_44 ?_
                refine w_a f_19_45 ?_
                refine n_m (fun h => ?_) h
                refine w_a f_19_46 ?_
                refine w_a f_19_47 ?_
                refine w_a f_19_48 ?_
                refine w_a f_19_51 ?_
                refine w_a f_19_52 ?_
                refine w_a f_19_53 ?_
                refine w_a f_19_56 ?_
                refine w_a (ls := [(0, .ref 1), (1, .int x1), (3, .int x3), (4, .long y4), (6, .long y6)]) f_145_185 ?_
                refine w_a f_145_186 ?_
                refine w_a f_145_189 ?_
                refine w_a f_145_192 ?_
                exact h
              · refine w_a f_19_15 ?_
                refine w_a (ls := [(0, .ref 1), (1, .int x1), (3, .int x3), (4, .long y4), (6, .long y6)]) f_145_185 ?_
                refine w_a f_145_186 ?_
                refine w_a f_145_189 ?_
                refine w_a f_145_192 ?_
                exact h
      · refine w_a f_19_15 ?_
        refine w_a (ls := [(0, .ref 1), (1, .int x1), (3, .int x3), (4, .long y4), (6, .long y6)]) f_145_157 ?_
        refine w_a f_145_158 ?_
        refine w_a f_145_161 ?_
        refine w_a f_145_162 ?_
        refine w_a f_145_163 ?_
        refine w_a (ls := [(0, .int x1), (1, .int x3)]) f_146_0 ?_
        refine w_a f_146_1 ?_
        refine i_m (fun h => ?_) (fun h => ?_) h
        · refine w_a f_146_14 ?_
          refine w_a f_146_15 ?_
          refine i_m (fun h => ?_) (fun h => ?_) h
          · refine w_a f_146_22 ?_
            refine w_a f_146_23 ?_
            refine w_a (ls := [(0, .ref 1), (1, .int x1), (3, .int x3), (4, .long y4), (6, .long y6)]) f_145_166 ?_
            refine w_a f_145_167 ?_
            refine w_a f_145_170 ?_
            refine w_a f_145_173 ?_
            refine w_a f_145_174 ?_
            refine w_a f_145_175 ?_
            refine w_a f_145_178 ?_
            refine w_a f_145_181 ?_
            refine w_a f_145_182 ?_
            refine w_a (ls := [(0, .ref 5), (1, .int (Int32.ofInt 2)), (2, .int (L 18 0).toInt32), (3, .int (L 18 1).toInt32)]) f_19_0 ?_
            refine w_a f_19_1 ?_
            refine w_a f_19_4 ?_
            refine i_m (fun h => ?_) (fun h => ?_) h
            · refine w_a f_19_15 ?_
              refine w_a (ls := [(0, .ref 1), (1, .int x1), (3, .int x3), (4, .long y4), (6, .long y6)]) f_145_185 ?_
              refine w_a f_145_186 ?_
              refine w_a f_145_189 ?_
              refine w_a f_145_192 ?_
              exact h
            · refine w_a f_19_7 ?_
              refine w_a f_19_8 ?_
              refine w_a f_19_11 ?_
              refine w_a f_19_12 ?_
              refine i_m (fun h => ?_) (fun h => ?_) h
              · refine w_a f_19_16 ?_
                refine w_a f_19_17 ?_
                refine w_a f_19_20 ?_
                refine w_a f_19_21 ?_
                refine w_a f_19_24 ?_
                refine w_a f_19_25 ?_
                refine n_m (fun h => ?_) h
                refine w_a f_19_26 ?_
                refine w_a f_19_27 ?_
                refine w_a f_19_30 ?_
                refine w_a f_19_31 ?_
                refine w_a f_19_34 ?_
                refine w_a f_19_35 ?_
                refine n_m (fun h => ?_) h
                refine w_a f_19_36 ?_
                refine w_a f_19_37 ?_
                refine w_a f_19_40 ?_
                refine w_a f_19_41 ?_
                refine w_a f_19_44 ?_
                refine w_a f_19_45 ?_
                refine n_m (fun h => ?_) h
                refine w_a f_19_46 ?_
                refine w_a f_19_47 ?_
                refine w_a f_19_48 ?_
                refine w_a f_19_51 ?_
                refine w_a f_19_52 ?_
                refine w_a f_19_53 ?_
                refine w_a f_19_56 ?_
                refine w_a (ls := [(0, .ref 1), (1, .int x1), (3, .int x3), (4, .long y4), (6, .long y6)]) f_145_185 ?_
                refine w_a f_145_186 ?_
                refine w_a f_145_189 ?_
                refine w_a f_145_192 ?_
                exact h
              · refine w_a f_19_15 ?_
                refine w_a (ls := [(0, .ref 1), (1, .int x1), (3, .int x3), (4, .long y4), (6, .long y6)]) f_145_185 ?_
                refine w_a f_145_186 ?_
                refine w_a f_145_189 ?_
                refine w_a f_145_192 ?_
                exact h
          · refine w_a f_146_18 ?_
            refine w_a f_146_19 ?_
            refine w_a f_146_23 ?_
            refine w_a (ls := [(0, .ref 1), (1, .int x1), (3, .int x3), (4, .long y4), (6, .long y6)]) f_145_166 ?_
            refine w_a f_145_167 ?_
            refine w_a f_145_170 ?_
            refine w_a f_145_173 ?_
            refine w_a f_145_174 ?_
            refine w_a f_145_175 ?_
            refine w_a f_145_178 ?_
            refine w_a f_145_181 ?_
            refine w_a f_145_182 ?_
            refine w_a (ls := [(0, .ref 5), (1, .int (Int32.ofInt 1)), (2, .int (L 18 0).toInt32), (3, .int (L 18 1).toInt32)]) f_19_0 ?_
            refine w_a f_19_1 ?_
            refine w_a f_19_4 ?_
            refine i_m (fun h => ?_) (fun h => ?_) h
            · refine w_a f_19_15 ?_
              refine w_a (ls := [(0, .ref 1), (1, .int x1), (3, .int x3), (4, .long y4), (6, .long y6)]) f_145_185 ?_
              refine w_a f_145_186 ?_
              refine w_a f_145_189 ?_
              refine w_a f_145_192 ?_
              exact h
            · refine w_a f_19_7 ?_
              refine w_a f_19_8 ?_
              refine w_a f_19_11 ?_
              refine w_a f_19_12 ?_
              refine i_m (fun h => ?_) (fun h => ?_) h
              · refine w_a f_19_16 ?_
                refine w_a f_19_17 ?_
                refine w_a f_19_20 ?_
                refine w_a f_19_21 ?_
                refine w_a f_19_24 ?_
                refine w_a f_19_25 ?_
                refine n_m (fun h => ?_) h
                refine w_a f_19_26 ?_
                refine w_a f_19_27 ?_
                refine w_a f_19_30 ?_
                refine w_a f_19_31 ?_
                refine w_a f_19_34 ?_
                refine w_a f_19_35 ?_
                refine n_m (fun h => ?_) h
                refine w_a f_19_36 ?_
                refine w_a f_19_37 ?_
                refine w_a f_19_40 ?_
                refine w_a f_19_41 ?_
                refine w_a f_19_44 ?_
                refine w_a f_19_45 ?_
                refine n_m (fun h => ?_) h
                refine w_a f_19_46 ?_
                refine w_a f_19_47 ?_
                refine w_a f_19_48 ?_
                refine w_a f_19_51 ?_
                refine w_a f_19_52 ?_
                refine w_a f_19_53 ?_
                refine w_a f_19_56 ?_
                refine w_a (ls := [(0, .ref 1), (1, .int x1), (3, .int x3), (4, .long y4), (6, .long y6)]) f_145_185 ?_
                refine w_a f_145_186 ?_
                refine w_a f_145_189 ?_
                refine w_a f_145_192 ?_
                exact h
              · refine w_a f_19_15 ?_
                refine w_a (ls := [(0, .ref 1), (1, .int x1), (3, .int x3), (4, .long y4), (6, .long y6)]) f_145_185 ?_
                refine w_a f_145_186 ?_
                refine w_a f_145_189 ?_
                refine w_a f_145_192 ?_
                exact h
        · refine w_a f_146_4 ?_
          refine w_a f_146_5 ?_
          refine i_m (fun h => ?_) (fun h => ?_) h
          · refine w_a f_146_12 ?_
            refine w_a f_146_13 ?_
            refine w_a (ls := [(0, .ref 1), (1, .int x1), (3, .int x3), (4, .long y4), (6, .long y6)]) f_145_166 ?_
            refine w_a f_145_167 ?_
            refine w_a f_145_170 ?_
            refine w_a f_145_173 ?_
            refine w_a f_145_174 ?_
            refine w_a f_145_175 ?_
            refine w_a f_145_178 ?_
            refine w_a f_145_181 ?_
            refine w_a f_145_182 ?_
            refine w_a (ls := [(0, .ref 5), (1, .int (Int32.ofInt 4)), (2, .int (L 18 0).toInt32), (3, .int (L 18 1).toInt32)]) f_19_0 ?_
            refine w_a f_19_1 ?_
            refine w_a f_19_4 ?_
            refine i_m (fun h => ?_) (fun h => ?_) h
            · refine w_a f_19_15 ?_
              refine w_a (ls := [(0, .ref 1), (1, .int x1), (3, .int x3), (4, .long y4), (6, .long y6)]) f_145_185 ?_
              refine w_a f_145_186 ?_
              refine w_a f_145_189 ?_
              refine w_a f_145_192 ?_
              exact h
            · refine w_a f_19_7 ?_
              refine w_a f_19_8 ?_
              refine w_a f_19_11 ?_
              refine w_a f_19_12 ?_
              refine i_m (fun h => ?_) (fun h => ?_) h
              · refine w_a f_19_16 ?_
                refine w_a f_19_17 ?_
                refine w_a f_19_20 ?_
                refine w_a f_19_21 ?_
                refine w_a f_19_24 ?_
                refine w_a f_19_25 ?_
                refine n_m (fun h => ?_) h
                refine w_a f_19_26 ?_
                refine w_a f_19_27 ?_
                refine w_a f_19_30 ?_
                refine w_a f_19_31 ?_
                refine w_a f_19_34 ?_
                refine w_a f_19_35 ?_
                refine n_m (fun h => ?_) h
                refine w_a f_19_36 ?_
                refine w_a f_19_37 ?_
                refine w_a f_19_40 ?_
                refine w_a f_19_41 ?_
                refine w_a f_19_44 ?_
                refine w_a f_19_45 ?_
                refine n_m (fun h => ?_) h
                refine w_a f_19_46 ?_
                refine w_a f_19_47 ?_
                refine w_a f_19_48 ?_
                refine w_a f_19_51 ?_
                refine w_a f_19_52 ?_
                refine w_a f_19_53 ?_
                refine w_a f_19_56 ?_
                refine w_a (ls := [(0, .ref 1), (1, .int x1), (3, .int x3), (4, .long y4), (6, .long y6)]) f_145_185 ?_
                refine w_a f_145_186 ?_
                refine w_a f_145_189 ?_
                refine w_a f_145_192 ?_
                exact h
              · refine w_a f_19_15 ?_
                refine w_a (ls := [(0, .ref 1), (1, .int x1), (3, .int x3), (4, .long y4), (6, .long y6)]) f_145_185 ?_
                refine w_a f_145_186 ?_
                refine w_a f_145_189 ?_
                refine w_a f_145_192 ?_
                exact h
          · refine w_a f_146_8 ?_
            refine w_a f_146_9 ?_
            refine w_a f_146_13 ?_
            refine w_a (ls := [(0, .ref 1), (1, .int x1), (3, .int x3), (4, .long y4), (6, .long y6)]) f_145_166 ?_
            refine w_a f_145_167 ?_
            refine w_a f_145_170 ?_
            refine w_a f_145_173 ?_
            refine w_a f_145_174 ?_
            refine w_a f_145_175 ?_
            refine w_a f_145_178 ?_
            refine w_a f_145_181 ?_
            refine w_a f_145_182 ?_
            refine w_a (ls := [(0, .ref 5), (1, .int (Int32.ofInt 3)), (2, .int (L 18 0).toInt32), (3, .int (L 18 1).toInt32)]) f_19_0 ?_
            refine w_a f_19_1 ?_
            refine w_a f_19_4 ?_
            refine i_m (fun h => ?_) (fun h => ?_) h
            · refine w_a f_19_15 ?_
              refine w_a (ls := [(0, .ref 1), (1, .int x1), (3, .int x3), (4, .long y4), (6, .long y6)]) f_145_185 ?_
              refine w_a f_145_186 ?_
              refine w_a f_145_189 ?_
              refine w_a f_145_192 ?_
              exact h
            · refine w_a f_19_7 ?_
              refine w_a f_19_8 ?_
              refine w_a f_19_11 ?_
              refine w_a f_19_12 ?_
              refine i_m (fun h => ?_) (fun h => ?_) h
              · refine w_a f_19_16 ?_
                refine w_a f_19_17 ?_
                refine w_a f_19_20 ?_
                refine w_a f_19_21 ?_
                refine w_a f_19_24 ?_
                refine w_a f_19_25 ?_
                refine n_m (fun h => ?_) h
                refine w_a f_19_26 ?_
                refine w_a f_19_27 ?_
                refine w_a f_19_30 ?_
                refine w_a f_19_31 ?_
                refine w_a f_19_34 ?_
                refine w_a f_19_35 ?_
                refine n_m (fun h => ?_) h
                refine w_a f_19_36 ?_
                refine w_a f_19_37 ?_
                refine w_a f_19_40 ?_
                refine w_a f_19_41 ?_
                refine w_a f_19_44 ?_
                refine w_a f_19_45 ?_
                refine n_m (fun h => ?_) h
                refine w_a f_19_46 ?_
                refine w_a f_19_47 ?_
                refine w_a f_19_48 ?_
                refine w_a f_19_51 ?_
                refine w_a f_19_52 ?_
                refine w_a f_19_53 ?_
                refine w_a f_19_56 ?_
                refine w_a (ls := [(0, .ref 1), (1, .int x1), (3, .int x3), (4, .long y4), (6, .long y6)]) f_145_185 ?_
                refine w_a f_145_186 ?_
                refine w_a f_145_189 ?_
                refine w_a f_145_192 ?_
                exact h
              · refine w_a f_19_15 ?_
                refine w_a (ls := [(0, .ref 1), (1, .int x1), (3, .int x3), (4, .long y4), (6, .long y6)]) f_145_185 ?_
                refine w_a f_145_186 ?_
                refine w_a f_145_189 ?_
                refine w_a f_145_192 ?_
                exact h
set_option maxRecDepth 10000 in
set_option maxHeartbeats 4000000 in
theorem s_147_11 {Lx : Nat} {I : Mi} {L : Ml} {e : Nat} {Q : Kq} {x2 : Int32} {x3 : Int32} (h :
    (if x2 = 0 then
     Wp 25 0 [(0, .ref 18), (1, .long ((L 17 0) * (L 17 2))), (3, .long (((L 17 0) * (L 17 0)) + ((L 17 1) * (L 17 1))))] [] (gE Lx) I L e (kcp (Wp 57) 57 33 0 [(0, .ref 17), (2, .ref 18)] 71 [] (kcp (Wp 147) 147 20 0 [(0, .ref 1), (3, .int x3)] 71 [] Q))
    else
     Wp 25 0 [(0, .ref 18), (1, .long (L 17 0)), (3, .long (L 17 2))] [] (gE Lx) I L e (kcp (Wp 57) 57 13 0 [(0, .ref 17), (2, .ref 18)] 71 [] (kcp (Wp 147) 147 20 0 [(0, .ref 1), (3, .int x3)] 71 [] Q)))) :
    Wp 147 11 [(0, .ref 1), (2, .int x2), (3, .int x3)] [] (gE Lx) I L e Q := by
  refine w_a f_147_11 ?_
  refine w_a f_147_12 ?_
  refine w_a f_147_15 ?_
  refine w_a f_147_16 ?_
  refine w_a f_147_17 ?_
  refine w_c (ks := [0, 3]) f_147_20 rfl rfl ?_
  refine w_a (ls := [(0, .ref 17), (1, .int x2), (2, .ref 18)]) f_57_0 ?_
  refine w_a f_57_1 ?_
  refine i_m (fun h => ?_) (fun h => ?_) h
  · refine w_a f_57_19 ?_
    refine w_a f_57_20 ?_
    refine w_a f_57_21 ?_
    refine w_a f_57_24 ?_
    refine w_a f_57_25 ?_
    refine w_a f_57_28 ?_
    refine w_a f_57_29 ?_
    refine w_a f_57_30 ?_
    refine w_a (ls := [(0, .ref 17)]) f_55_0 ?_
    refine w_a f_55_1 ?_
    refine w_a f_55_4 ?_
    refine w_a f_55_5 ?_
    refine w_a f_55_8 ?_
    refine w_a f_55_9 ?_
    refine w_a f_55_10 ?_
    refine w_a f_55_13 ?_
    refine w_a f_55_14 ?_
    refine w_a f_55_17 ?_
    refine w_a f_55_18 ?_
    refine w_a f_55_19 ?_
    exact w_c (ls := [(0, .ref 17), (1, .int x2), (2, .ref 18)]) (ks := [0, 2]) f_57_33 rfl rfl h
  · refine w_a f_57_4 ?_
    refine w_a f_57_5 ?_
    refine w_a f_57_6 ?_
    refine w_a f_57_9 ?_
    refine w_a f_57_10 ?_
    exact w_c (ks := [0, 2]) f_57_13 rfl rfl h
set_option maxRecDepth 10000 in
set_option maxHeartbeats 4000000 in
theorem s_147_23 {Lx : Nat} {I : Mi} {L : Ml} {e : Nat} {Q : Kq} {x3 : Int32} (h :
    (if x3 = 0 then
     Q (.inl (some (.long (L 18 0)))) (gE Lx) I L e
    else
     Q (.inl (some (.long (L 18 1)))) (gE Lx) I L e)) :
    Wp 147 23 [(0, .ref 1), (3, .int x3)] [] (gE Lx) I L e Q := by
  refine w_a f_147_23 ?_
  refine w_a f_147_24 ?_
  refine w_a f_147_27 ?_
  refine w_a f_147_28 ?_
  refine w_a (ls := [(0, .ref 18), (1, .int x3)]) f_31_0 ?_
  refine w_a f_31_1 ?_
  refine i_m (fun h => ?_) (fun h => ?_) h
  · refine w_a f_31_11 ?_
    refine w_a f_31_12 ?_
    refine w_a f_31_15 ?_
    refine w_a (ls := [(0, .ref 1), (3, .int x3)]) f_147_31 ?_
    exact h
  · refine w_a f_31_4 ?_
    refine w_a f_31_5 ?_
    refine w_a f_31_8 ?_
    refine w_a f_31_15 ?_
    refine w_a (ls := [(0, .ref 1), (3, .int x3)]) f_147_31 ?_
    exact h
set_option maxRecDepth 10000 in
set_option maxHeartbeats 4000000 in
theorem s_148_5 {Lx : Nat} {I : Mi} {L : Ml} {e : Nat} {Q : Kq} {x2 : Int32} (h :
    (if x2 = 0 then
     (if (L 17 0) = (Int64.ofInt 0) then
      (if (L 17 1) = (Int64.ofInt 0) then
       Q (.inr 102) (gE Lx) I L (e + 1)
      else
       Q (.inl none) (gE Lx) I L e)
     else
      Q (.inl none) (gE Lx) I L e)
    else
     Q (.inl none) (gE Lx) I L e)) :
    Wp 148 5 [(0, .ref 1), (2, .int x2)] [] (gE Lx) I L e Q := by
  refine w_a f_148_5 ?_
  refine w_a f_148_6 ?_
  refine w_a f_148_7 ?_
  refine w_a (ls := [(0, .ref 1), (1, .int x2)]) f_149_0 ?_
  refine w_a f_149_1 ?_
  refine i_m (fun h => ?_) (fun h => ?_) h
  · refine w_a f_149_4 ?_
    refine w_a f_149_5 ?_
    refine w_a f_149_8 ?_
    refine w_a (ls := [(0, .ref 17)]) f_56_0 ?_
    refine w_a f_56_1 ?_
    refine w_a f_56_4 ?_
    refine w_a f_56_5 ?_
    refine i_m (fun h => ?_) (fun h => ?_) h
    · refine w_a f_56_9 ?_
      refine w_a f_56_10 ?_
      refine w_a f_56_13 ?_
      refine w_a f_56_14 ?_
      refine i_m (fun h => ?_) (fun h => ?_) h
      · refine w_a f_56_18 ?_
        refine w_a f_56_19 ?_
        refine w_a f_56_23 ?_
        refine w_a (ls := [(0, .ref 1), (1, .int x2)]) f_149_11 ?_
        refine w_a f_149_14 ?_
        exact h
      · refine w_a f_56_22 ?_
        refine w_a f_56_23 ?_
        refine w_a (ls := [(0, .ref 1), (1, .int x2)]) f_149_11 ?_
        refine w_a f_149_22 ?_
        refine w_a (ls := [(0, .ref 1), (2, .int x2)]) f_148_10 ?_
        exact h
    · refine w_a f_56_22 ?_
      refine w_a f_56_23 ?_
      refine w_a (ls := [(0, .ref 1), (1, .int x2)]) f_149_11 ?_
      refine w_a f_149_22 ?_
      refine w_a (ls := [(0, .ref 1), (2, .int x2)]) f_148_10 ?_
      exact h
  · refine w_a f_149_22 ?_
    refine w_a (ls := [(0, .ref 1), (2, .int x2)]) f_148_10 ?_
    exact h
set_option maxRecDepth 10000 in
set_option maxHeartbeats 4000000 in
theorem s_150_6 {Lx : Nat} {I : Mi} {L : Ml} {e : Nat} {Q : Kq} {x1 : Int32} {x2 : Int32} {x3 : Int32} (h :
    Wp 25 0 [(0, .ref 18), (1, .long ((x1.toInt64 * x1.toInt64) + (x2.toInt64 * x2.toInt64))), (3, .long (x1.toInt64 * x1.toInt64))] [] (gE Lx) I L e (kcp (Wp 150) 150 26 0 [(0, .ref 1), (3, .int x3)] 71 [] Q)) :
    Wp 150 6 [(0, .ref 1), (1, .int x1), (2, .int x2), (3, .int x3)] [] (gE Lx) I L e Q := by
  refine w_a f_150_6 ?_
  refine w_a f_150_7 ?_
  refine w_a f_150_10 ?_
  refine w_a f_150_11 ?_
  refine w_a f_150_12 ?_
  refine w_a f_150_13 ?_
  refine w_a f_150_14 ?_
  refine w_a f_150_15 ?_
  refine w_a f_150_16 ?_
  refine w_a f_150_17 ?_
  refine w_a f_150_18 ?_
  refine w_a f_150_19 ?_
  refine w_a f_150_20 ?_
  refine w_a f_150_21 ?_
  refine w_a f_150_22 ?_
  refine w_a f_150_23 ?_
  refine w_a f_150_24 ?_
  refine w_a f_150_25 ?_
  exact w_c (ks := [0, 3]) f_150_26 rfl rfl h
set_option maxRecDepth 10000 in
set_option maxHeartbeats 4000000 in
theorem s_150_29 {Lx : Nat} {I : Mi} {L : Ml} {e : Nat} {Q : Kq} {x3 : Int32} (h :
    (if x3 = 0 then
     Q (.inl (some (.int (L 18 0).toInt32))) (gE Lx) I L e
    else
     Q (.inl (some (.int (L 18 1).toInt32))) (gE Lx) I L e)) :
    Wp 150 29 [(0, .ref 1), (3, .int x3)] [] (gE Lx) I L e Q := by
  refine w_a f_150_29 ?_
  refine w_a f_150_30 ?_
  refine w_a f_150_33 ?_
  refine w_a f_150_34 ?_
  refine w_a (ls := [(0, .ref 18), (1, .int x3)]) f_31_0 ?_
  refine w_a f_31_1 ?_
  refine i_m (fun h => ?_) (fun h => ?_) h
  · refine w_a f_31_11 ?_
    refine w_a f_31_12 ?_
    refine w_a f_31_15 ?_
    refine w_a (ls := [(0, .ref 1), (3, .int x3)]) f_150_37 ?_
    refine w_a f_150_38 ?_
    exact h
  · refine w_a f_31_4 ?_
    refine w_a f_31_5 ?_
    refine w_a f_31_8 ?_
    refine w_a f_31_15 ?_
    refine w_a (ls := [(0, .ref 1), (3, .int x3)]) f_150_37 ?_
    refine w_a f_150_38 ?_
    exact h
set_option maxRecDepth 10000 in
set_option maxHeartbeats 4000000 in
theorem s_151_7 {Lx : Nat} {I : Mi} {L : Ml} {e : Nat} {Q : Kq} {x1 : Int32} {r : Int32} (h :
    (if r = 0 then
     Q (.inr 101) (gE Lx) I L (e + 1)
    else
     (if x1 = 0 then
      Q (.inr 101) (gE Lx) I L (e + 1)
     else
      Q (.inl none) (gE Lx) I L e))) :
    Wp 151 7 [(0, .ref 1), (1, .int x1)] [.int r] (gE Lx) I L e Q := by
  refine w_a f_151_7 ?_
  refine i_m (fun h => ?_) (fun h => ?_) h
  · refine w_a f_151_14 ?_
    exact h
  · refine w_a f_151_10 ?_
    refine w_a f_151_11 ?_
    refine i_m (fun h => ?_) (fun h => ?_) h
    · refine w_a f_151_14 ?_
      exact h
    · refine w_a f_151_22 ?_
      exact h
set_option maxRecDepth 10000 in
set_option maxHeartbeats 4000000 in
theorem s_152_12 {Lx : Nat} {I : Mi} {L : Ml} {e : Nat} {Q : Kq} {x1 : Int32} {x2 : Int32} {x3 : Int32} {x4 : Int32} (h :
    Wp 136 0 [(0, .ref 1), (1, .int x1)] [] (gE Lx) I L e (kcp (Wp 148) 148 2 0 [(0, .ref 1), (2, .int x2)] 71 [] (kcp (Wp 152) 152 15 0 [(0, .ref 1), (2, .int x2), (3, .int x3), (4, .int x4)] 71 [] Q))) :
    Wp 152 12 [(0, .ref 1), (1, .int x1), (2, .int x2), (3, .int x3), (4, .int x4)] [] (gE Lx) I L e Q := by
  refine w_a f_152_12 ?_
  refine w_a f_152_13 ?_
  refine w_a f_152_14 ?_
  refine w_c (ks := [0, 2, 3, 4]) f_152_15 rfl rfl ?_
  refine w_a (ls := [(0, .ref 1), (1, .int x1), (2, .int x2)]) f_148_0 ?_
  refine w_a f_148_1 ?_
  exact w_c (ks := [0, 2]) f_148_2 rfl rfl h
set_option maxRecDepth 10000 in
set_option maxHeartbeats 4000000 in
theorem s_152_18 {Lx : Nat} {I : Mi} {L : Ml} {e : Nat} {Q : Kq} {x2 : Int32} {x3 : Int32} {x4 : Int32} (h :
    Wp 34 0 [(0, .ref 20), (1, .ref 17), (2, .int x2), (3, .int x3), (4, .int x4)] [] (gE Lx) I L e (kcp (Wp 152) 152 30 0 [(0, .ref 1)] 71 [] Q)) :
    Wp 152 18 [(0, .ref 1), (2, .int x2), (3, .int x3), (4, .int x4)] [] (gE Lx) I L e Q := by
  refine w_a f_152_18 ?_
  refine w_a f_152_19 ?_
  refine w_a f_152_22 ?_
  refine w_a f_152_23 ?_
  refine w_a f_152_26 ?_
  refine w_a f_152_27 ?_
  refine w_a f_152_28 ?_
  exact w_c (ks := [0]) f_152_30 rfl rfl h
set_option maxRecDepth 10000 in
set_option maxHeartbeats 4000000 in
theorem s_152_33 {Lx : Nat} {I : Mi} {L : Ml} {e : Nat} {Q : Kq} (h :
    Q (.inl (some (.int (I 20 0)))) (gE Lx) I L e) :
    Wp 152 33 [(0, .ref 1)] [] (gE Lx) I L e Q := by
  refine w_a f_152_33 ?_
  refine w_a f_152_34 ?_
  refine w_a f_152_37 ?_
  refine w_a f_152_40 ?_
  exact h
set_option maxRecDepth 10000 in
set_option maxHeartbeats 4000000 in
theorem s_153_12 {Lx : Nat} {I : Mi} {L : Ml} {e : Nat} {Q : Kq} {x1 : Int32} {x2 : Int32} {x3 : Int32} {x4 : Int32} {x5 : Int32} {x6 : Int32} {x7 : Int32} (h :
    Wp 136 0 [(0, .ref 1), (1, .int x1)] [] (gE Lx) I L e (kcp (Wp 148) 148 2 0 [(0, .ref 1), (2, .int x2)] 71 [] (kcp (Wp 153) 153 15 0 [(0, .ref 1), (2, .int x2), (3, .int x3), (4, .int x4), (5, .int x5), (6, .int x6), (7, .int x7)] 71 [] Q))) :
    Wp 153 12 [(0, .ref 1), (1, .int x1), (2, .int x2), (3, .int x3), (4, .int x4), (5, .int x5), (6, .int x6), (7, .int x7)] [] (gE Lx) I L e Q := by
  refine w_a f_153_12 ?_
  refine w_a f_153_13 ?_
  refine w_a f_153_14 ?_
  refine w_c (ks := [0, 2, 3, 4, 5, 6, 7]) f_153_15 rfl rfl ?_
  refine w_a (ls := [(0, .ref 1), (1, .int x1), (2, .int x2)]) f_148_0 ?_
  refine w_a f_148_1 ?_
  exact w_c (ks := [0, 2]) f_148_2 rfl rfl h
set_option maxRecDepth 10000 in
set_option maxHeartbeats 4000000 in
theorem s_153_18 {Lx : Nat} {I : Mi} {L : Ml} {e : Nat} {Q : Kq} {x2 : Int32} {x3 : Int32} {x4 : Int32} {x5 : Int32} {x6 : Int32} {x7 : Int32} (h :
    Wp 34 0 [(0, .ref 20), (1, .ref 17), (2, .int x2), (3, .int x3), (4, .int x4)] [] (gE Lx) I L e (kcp (Wp 153) 153 30 0 [(0, .ref 1), (5, .int x5), (6, .int x6), (7, .int x7)] 71 [] Q)) :
    Wp 153 18 [(0, .ref 1), (2, .int x2), (3, .int x3), (4, .int x4), (5, .int x5), (6, .int x6), (7, .int x7)] [] (gE Lx) I L e Q := by
  refine w_a f_153_18 ?_
  refine w_a f_153_19 ?_
  refine w_a f_153_22 ?_
  refine w_a f_153_23 ?_
  refine w_a f_153_26 ?_
  refine w_a f_153_27 ?_
  refine w_a f_153_28 ?_
  exact w_c (ks := [0, 5, 6, 7]) f_153_30 rfl rfl h
set_option maxRecDepth 10000 in
set_option maxHeartbeats 4000000 in
theorem s_153_33 {Lx : Nat} {I : Mi} {L : Ml} {e : Nat} {Q : Kq} {x5 : Int32} {x6 : Int32} {x7 : Int32} (h :
    (if x5 < 0 then
     Q (.inr 102) (gE Lx) I L (e + 1)
    else
     (if x5 < (I 20 0) then
      (if (I 20 1) = 0 then
       Q (.inr 102) (gE Lx) I L (e + 1)
      else
       (if x6 = 0 then
        (if x5 = 0 then
         (if (Int64.ofInt 0) < (L 20 6) then
          Wp 25 0 [(0, .ref 18), (1, .long ((((L 20 3) * (L 20 7)) + (-(L 20 5))) - ((L 20 4) * (L 20 6)))), (3, .long ((L 20 3) * (L 20 6)))] [] (gE Lx) I L e (kcp (Wp 37) 37 35 0 [(0, .ref 20), (2, .ref 18)] 71 [] (kcp (Wp 154) 154 61 0 [(0, .ref 1), (3, .int x7)] 71 [] (kcp (Wp 153) 153 40 0 [(0, .ref 1)] 71 [] Q)))
         else
          Wp 25 0 [(0, .ref 18), (1, .long ((((L 20 3) * (L 20 7)) + (L 20 5)) - ((L 20 4) * (L 20 6)))), (3, .long ((L 20 3) * (L 20 6)))] [] (gE Lx) I L e (kcp (Wp 37) 37 35 0 [(0, .ref 20), (2, .ref 18)] 71 [] (kcp (Wp 154) 154 61 0 [(0, .ref 1), (3, .int x7)] 71 [] (kcp (Wp 153) 153 40 0 [(0, .ref 1)] 71 [] Q))))
        else
         (if (Int64.ofInt 0) < (L 20 6) then
          Wp 25 0 [(0, .ref 18), (1, .long ((((L 20 3) * (L 20 7)) + (L 20 5)) - ((L 20 4) * (L 20 6)))), (3, .long ((L 20 3) * (L 20 6)))] [] (gE Lx) I L e (kcp (Wp 37) 37 35 0 [(0, .ref 20), (2, .ref 18)] 71 [] (kcp (Wp 154) 154 61 0 [(0, .ref 1), (3, .int x7)] 71 [] (kcp (Wp 153) 153 40 0 [(0, .ref 1)] 71 [] Q)))
         else
          Wp 25 0 [(0, .ref 18), (1, .long ((((L 20 3) * (L 20 7)) + (-(L 20 5))) - ((L 20 4) * (L 20 6)))), (3, .long ((L 20 3) * (L 20 6)))] [] (gE Lx) I L e (kcp (Wp 37) 37 35 0 [(0, .ref 20), (2, .ref 18)] 71 [] (kcp (Wp 154) 154 61 0 [(0, .ref 1), (3, .int x7)] 71 [] (kcp (Wp 153) 153 40 0 [(0, .ref 1)] 71 [] Q)))))
       else
        (if x5 = 0 then
         (if (Int64.ofInt 0) < (L 20 6) then
          Wp 25 0 [(0, .ref 18), (1, .long (((L 20 2) * (L 20 7)) + (-(L 20 5)))), (3, .long ((L 20 2) * (L 20 6)))] [] (gE Lx) I L e (kcp (Wp 35) 35 25 0 [(0, .ref 20), (2, .ref 18)] 71 [] (kcp (Wp 154) 154 46 0 [(0, .ref 1), (3, .int x7)] 71 [] (kcp (Wp 153) 153 40 0 [(0, .ref 1)] 71 [] Q)))
         else
          Wp 25 0 [(0, .ref 18), (1, .long (((L 20 2) * (L 20 7)) + (L 20 5))), (3, .long ((L 20 2) * (L 20 6)))] [] (gE Lx) I L e (kcp (Wp 35) 35 25 0 [(0, .ref 20), (2, .ref 18)] 71 [] (kcp (Wp 154) 154 46 0 [(0, .ref 1), (3, .int x7)] 71 [] (kcp (Wp 153) 153 40 0 [(0, .ref 1)] 71 [] Q))))
        else
         (if (Int64.ofInt 0) < (L 20 6) then
          Wp 25 0 [(0, .ref 18), (1, .long (((L 20 2) * (L 20 7)) + (L 20 5))), (3, .long ((L 20 2) * (L 20 6)))] [] (gE Lx) I L e (kcp (Wp 35) 35 25 0 [(0, .ref 20), (2, .ref 18)] 71 [] (kcp (Wp 154) 154 46 0 [(0, .ref 1), (3, .int x7)] 71 [] (kcp (Wp 153) 153 40 0 [(0, .ref 1)] 71 [] Q)))
         else
          Wp 25 0 [(0, .ref 18), (1, .long (((L 20 2) * (L 20 7)) + (-(L 20 5)))), (3, .long ((L 20 2) * (L 20 6)))] [] (gE Lx) I L e (kcp (Wp 35) 35 25 0 [(0, .ref 20), (2, .ref 18)] 71 [] (kcp (Wp 154) 154 46 0 [(0, .ref 1), (3, .int x7)] 71 [] (kcp (Wp 153) 153 40 0 [(0, .ref 1)] 71 [] Q)))))))
     else
      Q (.inr 102) (gE Lx) I L (e + 1)))) :
    Wp 153 33 [(0, .ref 1), (5, .int x5), (6, .int x6), (7, .int x7)] [] (gE Lx) I L e Q := by
  refine w_a f_153_33 ?_
  refine w_a f_153_34 ?_
  refine w_a f_153_36 ?_
  refine w_a f_153_38 ?_
  refine w_c (ks := [0]) f_153_40 rfl rfl ?_
  refine w_a (ls := [(0, .ref 1), (1, .int x5), (2, .int x6), (3, .int x7)]) f_154_0 ?_
  refine w_a f_154_1 ?_
  refine i_m (fun h => ?_) (fun h => ?_) h
  · refine w_a f_154_25 ?_
    exact h
  · refine w_a f_154_4 ?_
    refine w_a f_154_5 ?_
    refine w_a f_154_6 ?_
    refine w_a f_154_9 ?_
    refine w_a f_154_12 ?_
    refine i_m (fun h => ?_) (fun h => ?_) h
    · refine w_a f_154_15 ?_
      refine w_a f_154_16 ?_
      refine w_a f_154_19 ?_
      refine w_a f_154_22 ?_
      refine i_m (fun h => ?_) (fun h => ?_) h
      · refine w_a f_154_25 ?_
        exact h
      · refine w_a f_154_33 ?_
        refine w_a f_154_34 ?_
        refine i_m (fun h => ?_) (fun h => ?_) h
        · refine w_a f_154_52 ?_
          refine w_a f_154_53 ?_
          refine w_a f_154_56 ?_
          refine w_a f_154_57 ?_
          refine w_a f_154_58 ?_
          refine w_c (ks := [0, 3]) f_154_61 rfl rfl ?_
          refine w_a (ls := [(0, .ref 20), (1, .int x5), (2, .ref 18)]) f_37_0 ?_
          refine w_a f_37_1 ?_
          refine w_a f_37_2 ?_
          refine w_a f_37_5 ?_
          refine w_a f_37_6 ?_
          refine w_a f_37_9 ?_
          refine w_a f_37_10 ?_
          refine w_a f_37_11 ?_
          refine w_a f_37_12 ?_
          refine w_a (ls := [(0, .ref 20), (1, .int x5)]) f_36_0 ?_
          refine w_a f_36_1 ?_
          refine i_m (fun h => ?_) (fun h => ?_) h
          · refine w_a f_36_4 ?_
            refine w_a f_36_5 ?_
            refine w_a f_36_9 ?_
            refine w_a f_36_10 ?_
            refine w_a f_36_13 ?_
            refine w_a f_36_14 ?_
            refine i_m (fun h => ?_) (fun h => ?_) h
            · refine w_a f_36_18 ?_
              refine w_a f_36_19 ?_
              refine w_a f_36_23 ?_
              refine w_a f_36_26 ?_
              refine w_a f_36_27 ?_
              refine w_a f_36_30 ?_
              refine w_a f_36_31 ?_
              refine w_a f_36_38 ?_
              refine w_a (ls := [(0, .ref 20), (1, .int x5), (2, .ref 18)]) f_37_15 ?_
              refine w_a f_37_16 ?_
              refine w_a f_37_17 ?_
              refine w_a f_37_20 ?_
              refine w_a f_37_21 ?_
              refine w_a f_37_24 ?_
              refine w_a f_37_25 ?_
              refine w_a f_37_26 ?_
              refine w_a f_37_27 ?_
              refine w_a f_37_30 ?_
              refine w_a f_37_31 ?_
              refine w_a f_37_34 ?_
              exact w_c (ks := [0, 2]) f_37_35 rfl rfl h
            · refine w_a f_36_22 ?_
              refine w_a f_36_23 ?_
              refine w_a f_36_34 ?_
              refine w_a f_36_35 ?_
              refine w_a f_36_38 ?_
              refine w_a (ls := [(0, .ref 20), (1, .int x5), (2, .ref 18)]) f_37_15 ?_
              refine w_a f_37_16 ?_
              refine w_a f_37_17 ?_
              refine w_a f_37_20 ?_
              refine w_a f_37_21 ?_
              refine w_a f_37_24 ?_
              refine w_a f_37_25 ?_
              refine w_a f_37_26 ?_
              refine w_a f_37_27 ?_
              refine w_a f_37_30 ?_
              refine w_a f_37_31 ?_
              refine w_a f_37_34 ?_
              exact w_c (ks := [0, 2]) f_37_35 rfl rfl h
          · refine w_a f_36_8 ?_
            refine w_a f_36_9 ?_
            refine w_a f_36_10 ?_
            refine w_a f_36_13 ?_
            refine w_a f_36_14 ?_
            refine i_m (fun h => ?_) (fun h => ?_) h
            · refine w_a f_36_18 ?_
              refine w_a f_36_19 ?_
              refine w_a f_36_23 ?_
              refine w_a f_36_34 ?_
              refine w_a f_36_35 ?_
              refine w_a f_36_38 ?_
              refine w_a (ls := [(0, .ref 20), (1, .int x5), (2, .ref 18)]) f_37_15 ?_
              refine w_a f_37_16 ?_
              refine w_a f_37_17 ?_
              refine w_a f_37_20 ?_
              refine w_a f_37_21 ?_
              refine w_a f_37_24 ?_
              refine w_a f_37_25 ?_
              refine w_a f_37_26 ?_
              refine w_a f_37_27 ?_
              refine w_a f_37_30 ?_
              refine w_a f_37_31 ?_
              refine w_a f_37_34 ?_
              exact w_c (ks := [0, 2]) f_37_35 rfl rfl h
            · refine w_a f_36_22 ?_
              refine w_a f_36_23 ?_
              refine w_a f_36_26 ?_
              refine w_a f_36_27 ?_
              refine w_a f_36_30 ?_
              refine w_a f_36_31 ?_
              refine w_a f_36_38 ?_
              refine w_a (ls := [(0, .ref 20), (1, .int x5), (2, .ref 18)]) f_37_15 ?_
              refine w_a f_37_16 ?_
              refine w_a f_37_17 ?_
              refine w_a f_37_20 ?_
              refine w_a f_37_21 ?_
              refine w_a f_37_24 ?_
              refine w_a f_37_25 ?_
              refine w_a f_37_26 ?_
              refine w_a f_37_27 ?_
              refine w_a f_37_30 ?_
              refine w_a f_37_31 ?_
              refine w_a f_37_34 ?_
              exact w_c (ks := [0, 2]) f_37_35 rfl rfl h
        · refine w_a f_154_37 ?_
          refine w_a f_154_38 ?_
          refine w_a f_154_41 ?_
          refine w_a f_154_42 ?_
          refine w_a f_154_43 ?_
          refine w_c (ks := [0, 3]) f_154_46 rfl rfl ?_
          refine w_a (ls := [(0, .ref 20), (1, .int x5), (2, .ref 18)]) f_35_0 ?_
          refine w_a f_35_1 ?_
          refine w_a f_35_2 ?_
          refine w_a f_35_5 ?_
          refine w_a f_35_6 ?_
          refine w_a f_35_9 ?_
          refine w_a f_35_10 ?_
          refine w_a f_35_11 ?_
          refine w_a f_35_12 ?_
          refine w_a (ls := [(0, .ref 20), (1, .int x5)]) f_36_0 ?_
          refine w_a f_36_1 ?_
          refine i_m (fun h => ?_) (fun h => ?_) h
          · refine w_a f_36_4 ?_
            refine w_a f_36_5 ?_
            refine w_a f_36_9 ?_
            refine w_a f_36_10 ?_
            refine w_a f_36_13 ?_
            refine w_a f_36_14 ?_
            refine i_m (fun h => ?_) (fun h => ?_) h
            · refine w_a f_36_18 ?_
              refine w_a f_36_19 ?_
              refine w_a f_36_23 ?_
              refine w_a f_36_26 ?_
              refine w_a f_36_27 ?_
              refine w_a f_36_30 ?_
              refine w_a f_36_31 ?_
              refine w_a f_36_38 ?_
              refine w_a (ls := [(0, .ref 20), (1, .int x5), (2, .ref 18)]) f_35_15 ?_
              refine w_a f_35_16 ?_
              refine w_a f_35_17 ?_
              refine w_a f_35_20 ?_
              refine w_a f_35_21 ?_
              refine w_a f_35_24 ?_
              exact w_c (ks := [0, 2]) f_35_25 rfl rfl h
            · refine w_a f_36_22 ?_
              refine w_a f_36_23 ?_
              refine w_a f_36_34 ?_
              refine w_a f_36_35 ?_
              refine w_a f_36_38 ?_
              refine w_a (ls := [(0, .ref 20), (1, .int x5), (2, .ref 18)]) f_35_15 ?_
              refine w_a f_35_16 ?_
              refine w_a f_35_17 ?_
              refine w_a f_35_20 ?_
              refine w_a f_35_21 ?_
              refine w_a f_35_24 ?_
              exact w_c (ks := [0, 2]) f_35_25 rfl rfl h
          · refine w_a f_36_8 ?_
            refine w_a f_36_9 ?_
            refine w_a f_36_10 ?_
            refine w_a f_36_13 ?_
            refine w_a f_36_14 ?_
            refine i_m (fun h => ?_) (fun h => ?_) h
            · refine w_a f_36_18 ?_
              refine w_a f_36_19 ?_
              refine w_a f_36_23 ?_
              refine w_a f_36_34 ?_
              refine w_a f_36_35 ?_
              refine w_a f_36_38 ?_
              refine w_a (ls := [(0, .ref 20), (1, .int x5), (2, .ref 18)]) f_35_15 ?_
              refine w_a f_35_16 ?_
              refine w_a f_35_17 ?_
              refine w_a f_35_20 ?_
              refine w_a f_35_21 ?_
              refine w_a f_35_24 ?_
              exact w_c (ks := [0, 2]) f_35_25 rfl rfl h
            · refine w_a f_36_22 ?_
              refine w_a f_36_23 ?_
              refine w_a f_36_26 ?_
              refine w_a f_36_27 ?_
              refine w_a f_36_30 ?_
              refine w_a f_36_31 ?_
              refine w_a f_36_38 ?_
              refine w_a (ls := [(0, .ref 20), (1, .int x5), (2, .ref 18)]) f_35_15 ?_
              refine w_a f_35_16 ?_
              refine w_a f_35_17 ?_
              refine w_a f_35_20 ?_
              refine w_a f_35_21 ?_
              refine w_a f_35_24 ?_
              exact w_c (ks := [0, 2]) f_35_25 rfl rfl h
    · refine w_a f_154_25 ?_
      exact h
set_option maxRecDepth 10000 in
set_option maxHeartbeats 4000000 in
theorem s_153_43 {Lx : Nat} {I : Mi} {L : Ml} {e : Nat} {Q : Kq} {rl : Int64} (h :
    Q (.inl (some (.long rl))) (gE Lx) I L e) :
    Wp 153 43 [(0, .ref 1)] [.long rl] (gE Lx) I L e Q := by
  refine w_a f_153_43 ?_
  exact h
set_option maxRecDepth 10000 in
set_option maxHeartbeats 4000000 in
theorem s_154_49 {Lx : Nat} {I : Mi} {L : Ml} {e : Nat} {Q : Kq} {x3 : Int32} (h :
    Wp 154 64 [(0, .ref 1), (3, .int x3)] [] (gE Lx) I L e Q) :
    Wp 154 49 [(0, .ref 1), (3, .int x3)] [] (gE Lx) I L e Q := by
  refine w_a f_154_49 ?_
  exact w_n (ks := [0, 3]) rfl h
set_option maxRecDepth 10000 in
set_option maxHeartbeats 4000000 in
theorem s_154_64 {Lx : Nat} {I : Mi} {L : Ml} {e : Nat} {Q : Kq} {x3 : Int32} (h :
    (if x3 = 0 then
     Q (.inl (some (.long (L 18 0)))) (gE Lx) I L e
    else
     Q (.inl (some (.long (L 18 1)))) (gE Lx) I L e)) :
    Wp 154 64 [(0, .ref 1), (3, .int x3)] [] (gE Lx) I L e Q := by
  refine w_a f_154_64 ?_
  refine w_a f_154_65 ?_
  refine w_a f_154_68 ?_
  refine w_a f_154_69 ?_
  refine w_a (ls := [(0, .ref 18), (1, .int x3)]) f_31_0 ?_
  refine w_a f_31_1 ?_
  refine i_m (fun h => ?_) (fun h => ?_) h
  · refine w_a f_31_11 ?_
    refine w_a f_31_12 ?_
    refine w_a f_31_15 ?_
    refine w_a (ls := [(0, .ref 1), (3, .int x3)]) f_154_72 ?_
    exact h
  · refine w_a f_31_4 ?_
    refine w_a f_31_5 ?_
    refine w_a f_31_8 ?_
    refine w_a f_31_15 ?_
    refine w_a (ls := [(0, .ref 1), (3, .int x3)]) f_154_72 ?_
    exact h
set_option maxRecDepth 10000 in
set_option maxHeartbeats 4000000 in
theorem s_155_12 {Lx : Nat} {I : Mi} {L : Ml} {e : Nat} {Q : Kq} {x1 : Int32} {x2 : Int32} {x3 : Int32} {x4 : Int32} {x5 : Int32} (h :
    Wp 136 0 [(0, .ref 1), (1, .int x1)] [] (gE Lx) I L e (kcp (Wp 148) 148 2 0 [(0, .ref 1), (2, .int x2)] 71 [] (kcp (Wp 155) 155 15 0 [(0, .ref 1), (2, .int x2), (3, .int x3), (4, .int x4), (5, .int x5)] 71 [] Q))) :
    Wp 155 12 [(0, .ref 1), (1, .int x1), (2, .int x2), (3, .int x3), (4, .int x4), (5, .int x5)] [] (gE Lx) I L e Q := by
  refine w_a f_155_12 ?_
  refine w_a f_155_13 ?_
  refine w_a f_155_14 ?_
  refine w_c (ks := [0, 2, 3, 4, 5]) f_155_15 rfl rfl ?_
  refine w_a (ls := [(0, .ref 1), (1, .int x1), (2, .int x2)]) f_148_0 ?_
  refine w_a f_148_1 ?_
  exact w_c (ks := [0, 2]) f_148_2 rfl rfl h
set_option maxRecDepth 10000 in
set_option maxHeartbeats 4000000 in
theorem s_155_18 {Lx : Nat} {I : Mi} {L : Ml} {e : Nat} {Q : Kq} {x2 : Int32} {x3 : Int32} {x4 : Int32} {x5 : Int32} (h :
    Wp 156 0 [(0, .ref 1), (1, .int x2), (2, .int x3), (3, .int x4)] [] (gE Lx) I L e (kcp (Wp 155) 155 23 0 [(0, .ref 1), (5, .int x5)] 71 [] Q)) :
    Wp 155 18 [(0, .ref 1), (2, .int x2), (3, .int x3), (4, .int x4), (5, .int x5)] [] (gE Lx) I L e Q := by
  refine w_a f_155_18 ?_
  refine w_a f_155_19 ?_
  refine w_a f_155_20 ?_
  refine w_a f_155_21 ?_
  exact w_c (ks := [0, 5]) f_155_23 rfl rfl h
set_option maxRecDepth 10000 in
set_option maxHeartbeats 4000000 in
theorem s_155_26 {Lx : Nat} {I : Mi} {L : Ml} {e : Nat} {Q : Kq} {x5 : Int32} {r : Int32} (h :
    (if r < 0 then
     Q (.inr 102) (gE Lx) I L (e + 1)
    else
     (if x5 = 0 then
      Wp 69 0 [(0, .ref 2), (1, .int r)] [] (gE Lx) I L e (kcp (Wp 155) 155 64 0 [(0, .ref 1)] 71 [] Q)
     else
      Wp 70 0 [(0, .ref 2), (1, .int r)] [] (gE Lx) I L e (kcp (Wp 155) 155 52 0 [(0, .ref 1)] 71 [] Q)))) :
    Wp 155 26 [(0, .ref 1), (5, .int x5)] [.int r] (gE Lx) I L e Q := by
  refine w_a f_155_26 ?_
  refine w_a (ls := [(6, .int r), (0, .ref 1), (5, .int x5)]) f_155_28 ?_
  refine w_a f_155_30 ?_
  refine i_m (fun h => ?_) (fun h => ?_) h
  · refine w_a f_155_33 ?_
    exact h
  · refine w_a f_155_41 ?_
    refine w_a f_155_43 ?_
    refine i_m (fun h => ?_) (fun h => ?_) h
    · refine w_a f_155_58 ?_
      refine w_a f_155_59 ?_
      refine w_a f_155_62 ?_
      exact w_c (ks := [0]) f_155_64 rfl rfl h
    · refine w_a f_155_46 ?_
      refine w_a f_155_47 ?_
      refine w_a f_155_50 ?_
      exact w_c (ks := [0]) f_155_52 rfl rfl h
set_option maxRecDepth 10000 in
set_option maxHeartbeats 4000000 in
theorem s_155_55 {Lx : Nat} {I : Mi} {L : Ml} {e : Nat} {Q : Kq} {r : Int32} (h :
    Wp 155 67 [(0, .ref 1)] [.int r] (gE Lx) I L e Q) :
    Wp 155 55 [(0, .ref 1)] [.int r] (gE Lx) I L e Q := by
  refine w_a f_155_55 ?_
  exact w_n (ks := [0]) rfl h
set_option maxRecDepth 10000 in
set_option maxHeartbeats 4000000 in
theorem s_155_67 {Lx : Nat} {I : Mi} {L : Ml} {e : Nat} {Q : Kq} {r : Int32} (h :
    Q (.inl (some (.int r))) (gE Lx) I L e) :
    Wp 155 67 [(0, .ref 1)] [.int r] (gE Lx) I L e Q := by
  refine w_a f_155_67 ?_
  exact h
set_option maxRecDepth 10000 in
set_option maxHeartbeats 4000000 in
theorem s_156_0 {Lx : Nat} {I : Mi} {L : Ml} {e : Nat} {Q : Kq} {x1 : Int32} {x2 : Int32} {x3 : Int32} (h :
    Wp 156 11 [(0, .ref 1), (1, .int x1), (2, .int x2), (3, .int x3), (4, .int (Int32.ofInt 0))] [] (gE Lx) I (ul (ul (ul (ul L 15 0 (L 17 0)) 15 1 (L 17 1)) 15 2 (L 17 2)) 15 3 (Int64.ofInt 0)) e Q) :
    Wp 156 0 [(0, .ref 1), (1, .int x1), (2, .int x2), (3, .int x3)] [] (gE Lx) I L e Q := by
  refine w_a f_156_0 ?_
  refine w_a f_156_1 ?_
  refine w_a f_156_2 ?_
  refine w_a f_156_5 ?_
  refine w_a (ls := [(0, .ref 1), (1, .ref 15)]) f_157_0 ?_
  refine w_a f_157_1 ?_
  refine w_a f_157_2 ?_
  refine w_a f_157_5 ?_
  refine w_a f_157_8 ?_
  refine w_a f_157_9 ?_
  refine w_a f_157_12 ?_
  refine w_a f_157_15 ?_
  refine w_a f_157_16 ?_
  refine w_a f_157_19 ?_
  refine w_a f_157_22 ?_
  refine w_a (ls := [(0, .ref 15), (1, .long (L 17 0)), (3, .long (L 17 1)), (5, .long (L 17 2))]) f_74_0 ?_
  refine w_a f_74_1 ?_
  refine w_a f_74_2 ?_
  refine w_a f_74_5 ?_
  refine w_a f_74_6 ?_
  refine w_a f_74_7 ?_
  refine w_a f_74_10 ?_
  refine w_a f_74_11 ?_
  refine w_a f_74_13 ?_
  refine w_a f_74_16 ?_
  refine w_a f_74_17 ?_
  refine w_a f_74_18 ?_
  refine w_a f_74_21 ?_
  refine w_a (ls := [(0, .ref 1), (1, .ref 15)]) f_157_25 ?_
  refine w_a (ls := [(0, .ref 1), (1, .int x1), (2, .int x2), (3, .int x3)]) f_156_8 ?_
  refine w_a f_156_9 ?_
  exact w_n (ks := [0, 1, 2, 3, 4]) rfl h
set_option maxRecDepth 10000 in
set_option maxHeartbeats 4000000 in
theorem s_156_11 {Lx : Nat} {I : Mi} {L : Ml} {e : Nat} {Q : Kq} {x1 : Int32} {x2 : Int32} {x3 : Int32} {x4 : Int32} (h :
    (if x4 < (Int32.ofInt 184) then
     Wp 69 0 [(0, .ref 2), (1, .int x4)] [] (gE Lx) I (ul (ul (ul (ul L 16 0 (L 15 0)) 16 1 (L 15 1)) 16 2 (L 15 2)) 16 3 (L 15 3)) e (kcp (Wp 156) 156 40 0 [(0, .ref 1), (1, .int x1), (2, .int x2), (3, .int x3), (4, .int x4)] 71 [.ref 16] Q)
    else
     Q (.inl (some (.int (Int32.ofInt (-1))))) (gE Lx) I L e)) :
    Wp 156 11 [(0, .ref 1), (1, .int x1), (2, .int x2), (3, .int x3), (4, .int x4)] [] (gE Lx) I L e Q := by
  refine w_a f_156_11 ?_
  refine w_a f_156_13 ?_
  refine w_a f_156_16 ?_
  refine i_m (fun h => ?_) (fun h => ?_) h
  · refine w_a f_156_19 ?_
    refine w_a f_156_20 ?_
    refine w_a f_156_23 ?_
    refine w_a f_156_24 ?_
    refine w_a f_156_27 ?_
    refine w_a (ls := [(0, .ref 16), (1, .ref 15)]) f_84_0 ?_
    refine w_a f_84_1 ?_
    refine w_a f_84_2 ?_
    refine w_a f_84_5 ?_
    refine w_a f_84_8 ?_
    refine w_a f_84_9 ?_
    refine w_a f_84_10 ?_
    refine w_a f_84_13 ?_
    refine w_a f_84_16 ?_
    refine w_a f_84_17 ?_
    refine w_a f_84_18 ?_
    refine w_a f_84_21 ?_
    refine w_a f_84_24 ?_
    refine w_a f_84_25 ?_
    refine w_a f_84_26 ?_
    refine w_a f_84_29 ?_
    refine w_a f_84_32 ?_
    refine w_a (ls := [(0, .ref 1), (1, .int x1), (2, .int x2), (3, .int x3), (4, .int x4)]) f_156_30 ?_
    refine w_a f_156_31 ?_
    refine w_a f_156_34 ?_
    refine w_a f_156_35 ?_
    refine w_a f_156_38 ?_
    exact w_c (ks := [0, 1, 2, 3, 4]) f_156_40 rfl rfl h
  · refine w_a f_156_80 ?_
    refine w_a f_156_81 ?_
    exact h
set_option maxRecDepth 10000 in
set_option maxHeartbeats 4000000 in
theorem s_156_43 {Lx : Nat} {I : Mi} {L : Ml} {e : Nat} {Q : Kq} {x1 : Int32} {x2 : Int32} {x3 : Int32} {x4 : Int32} {r : Int32} (h :
    Wp 70 0 [(0, .ref 2), (1, .int x4)] [] (gE Lx) I L e (kcp (Wp 156) 156 50 0 [(0, .ref 1), (1, .int x1), (2, .int x2), (3, .int x3), (4, .int x4)] 71 [.long r.toInt64, .ref 16] Q)) :
    Wp 156 43 [(0, .ref 1), (1, .int x1), (2, .int x2), (3, .int x3), (4, .int x4)] [.int r, .ref 16] (gE Lx) I L e Q := by
  refine w_a f_156_43 ?_
  refine w_a f_156_44 ?_
  refine w_a f_156_45 ?_
  refine w_a f_156_48 ?_
  exact w_c (ks := [0, 1, 2, 3, 4]) f_156_50 rfl rfl h
set_option maxRecDepth 10000 in
set_option maxHeartbeats 4000000 in
theorem s_156_53 {Lx : Nat} {I : Mi} {L : Ml} {e : Nat} {Q : Kq} {x1 : Int32} {x2 : Int32} {x3 : Int32} {x4 : Int32} {rl1 : Int64} {r : Int32} (h :
    Wp 76 0 [(0, .ref 16), (1, .long rl1), (3, .long r.toInt64)] [] (gE Lx) I L e (kcp (Wp 156) 156 54 0 [(0, .ref 1), (1, .int x1), (2, .int x2), (3, .int x3), (4, .int x4)] 71 [] Q)) :
    Wp 156 53 [(0, .ref 1), (1, .int x1), (2, .int x2), (3, .int x3), (4, .int x4)] [.int r, .long rl1, .ref 16] (gE Lx) I L e Q := by
  refine w_a f_156_53 ?_
  exact w_c (ks := [0, 1, 2, 3, 4]) f_156_54 rfl rfl h
set_option maxRecDepth 10000 in
set_option maxHeartbeats 4000000 in
theorem s_156_57 {Lx : Nat} {I : Mi} {L : Ml} {e : Nat} {Q : Kq} {x1 : Int32} {x2 : Int32} {x3 : Int32} {x4 : Int32} (h :
    Wp 158 0 [(0, .ref 1), (1, .ref 16), (2, .int x1), (3, .int x2), (4, .int x3)] [] (gE Lx) I L e (kcp (Wp 156) 156 65 0 [(0, .ref 1), (1, .int x1), (2, .int x2), (3, .int x3), (4, .int x4)] 71 [] Q)) :
    Wp 156 57 [(0, .ref 1), (1, .int x1), (2, .int x2), (3, .int x3), (4, .int x4)] [] (gE Lx) I L e Q := by
  refine w_a f_156_57 ?_
  refine w_a f_156_58 ?_
  refine w_a f_156_59 ?_
  refine w_a f_156_62 ?_
  refine w_a f_156_63 ?_
  refine w_a f_156_64 ?_
  exact w_c (ks := [0, 1, 2, 3, 4]) f_156_65 rfl rfl h
set_option maxRecDepth 10000 in
set_option maxHeartbeats 4000000 in
theorem s_156_68 {Lx : Nat} {I : Mi} {L : Ml} {e : Nat} {Q : Kq} {x1 : Int32} {x2 : Int32} {x3 : Int32} {x4 : Int32} {r : Int32} (h :
    (if r = 0 then
     Q (.inl (some (.int x4))) (gE Lx) I L e
    else
     Wp 156 11 [(0, .ref 1), (1, .int x1), (2, .int x2), (3, .int x3), (4, .int (x4 + Int32.ofInt 1))] [] (gE Lx) I L e Q)) :
    Wp 156 68 [(0, .ref 1), (1, .int x1), (2, .int x2), (3, .int x3), (4, .int x4)] [.int r] (gE Lx) I L e Q := by
  refine w_a f_156_68 ?_
  refine i_m (fun h => ?_) (fun h => ?_) h
  · refine w_a f_156_71 ?_
    refine w_a f_156_73 ?_
    exact h
  · refine w_a f_156_74 ?_
    refine w_a (ls := [(4, .int (x4 + Int32.ofInt 1)), (0, .ref 1), (1, .int x1), (2, .int x2), (3, .int x3)]) f_156_77 ?_
    exact w_n (ks := [0, 1, 2, 3, 4]) rfl h
set_option maxRecDepth 10000 in
set_option maxHeartbeats 4000000 in
theorem s_158_0 {Lx : Nat} {I : Mi} {L : Ml} {e : Nat} {Q : Kq} {x2 : Int32} {x3 : Int32} {x4 : Int32} (h :
    (if x2 = 0 then
     (if (Int64.ofInt 0) < (((L 16 0) * (L 16 2)) + ((L 16 1) * (L 16 3))) then
      (if (Int64.ofInt 0) < (((L 16 0) * (L 16 0)) + ((L 16 1) * (L 16 1))) then
       Wp 23 0 [(0, .long (((L 16 0) * (L 16 2)) + ((L 16 1) * (L 16 3)))), (2, .long (((L 16 0) * (L 16 0)) + ((L 16 1) * (L 16 1)))), (4, .long ((x3.toInt64 * x3.toInt64) + (x4.toInt64 * x4.toInt64))), (6, .long (x3.toInt64 * x3.toInt64))] [] (gE Lx) I L e (kcp (Wp 158) 158 51 0 [(0, .ref 1), (1, .ref 16)] 71 [] Q)
      else
       Q (.inl (some (.int (Int32.ofInt 1)))) (gE Lx) I L e)
     else
      Q (.inl (some (.int (Int32.ofInt 1)))) (gE Lx) I L e)
    else
     (if (Int64.ofInt 0) < (((L 16 0) * (L 16 2)) + ((L 16 1) * (L 16 3))) then
      (if (Int64.ofInt 0) < (((L 16 2) * (L 16 2)) + ((L 16 3) * (L 16 3))) then
       Wp 23 0 [(0, .long (((L 16 0) * (L 16 2)) + ((L 16 1) * (L 16 3)))), (2, .long (((L 16 2) * (L 16 2)) + ((L 16 3) * (L 16 3)))), (4, .long ((x3.toInt64 * x3.toInt64) + (x4.toInt64 * x4.toInt64))), (6, .long (x3.toInt64 * x3.toInt64))] [] (gE Lx) I L e (kcp (Wp 158) 158 51 0 [(0, .ref 1), (1, .ref 16)] 71 [] Q)
      else
       Q (.inl (some (.int (Int32.ofInt 1)))) (gE Lx) I L e)
     else
      Q (.inl (some (.int (Int32.ofInt 1)))) (gE Lx) I L e))) :
    Wp 158 0 [(0, .ref 1), (1, .ref 16), (2, .int x2), (3, .int x3), (4, .int x4)] [] (gE Lx) I L e Q := by
  refine w_a f_158_0 ?_
  refine w_a f_158_1 ?_
  refine w_a (ls := [(0, .ref 16)]) f_82_0 ?_
  refine w_a f_82_1 ?_
  refine w_a f_82_4 ?_
  refine w_a f_82_5 ?_
  refine w_a f_82_8 ?_
  refine w_a f_82_9 ?_
  refine w_a f_82_10 ?_
  refine w_a f_82_13 ?_
  refine w_a f_82_14 ?_
  refine w_a f_82_17 ?_
  refine w_a f_82_18 ?_
  refine w_a f_82_19 ?_
  refine w_a (ls := [(0, .ref 1), (1, .ref 16), (2, .int x2), (3, .int x3), (4, .int x4)]) f_158_4 ?_
  refine w_a (ls := [(5, .long (((L 16 0) * (L 16 2)) + ((L 16 1) * (L 16 3)))), (0, .ref 1), (1, .ref 16), (2, .int x2), (3, .int x3), (4, .int x4)]) f_158_6 ?_
  refine w_a f_158_7 ?_
  refine w_a f_158_8 ?_
  refine w_a (ls := [(0, .ref 16), (1, .int x2)]) f_85_0 ?_
  refine w_a f_85_1 ?_
  refine i_m (fun h => ?_) (fun h => ?_) h
  · refine w_a f_85_11 ?_
    refine w_a f_85_12 ?_
    refine w_a (ls := [(0, .ref 16)]) f_86_0 ?_
    refine w_a f_86_1 ?_
    refine w_a f_86_4 ?_
    refine w_a f_86_5 ?_
    refine w_a f_86_8 ?_
    refine w_a f_86_9 ?_
    refine w_a f_86_10 ?_
    refine w_a f_86_13 ?_
    refine w_a f_86_14 ?_
    refine w_a f_86_17 ?_
    refine w_a f_86_18 ?_
    refine w_a f_86_19 ?_
    refine w_a (ls := [(0, .ref 16), (1, .int x2)]) f_85_15 ?_
    refine w_a (ls := [(5, .long (((L 16 0) * (L 16 2)) + ((L 16 1) * (L 16 3)))), (0, .ref 1), (1, .ref 16), (2, .int x2), (3, .int x3), (4, .int x4)]) f_158_11 ?_
    refine w_a (ls := [(7, .long (((L 16 0) * (L 16 0)) + ((L 16 1) * (L 16 1)))), (5, .long (((L 16 0) * (L 16 2)) + ((L 16 1) * (L 16 3)))), (0, .ref 1), (1, .ref 16), (2, .int x2), (3, .int x3), (4, .int x4)]) f_158_13 ?_
    refine w_a f_158_15 ?_
    refine w_a f_158_16 ?_
    refine i_m (fun h => ?_) (fun h => ?_) h
    · refine w_a f_158_20 ?_
      refine w_a f_158_22 ?_
      refine w_a f_158_23 ?_
      refine i_m (fun h => ?_) (fun h => ?_) h
      · refine w_a f_158_29 ?_
        refine w_a f_158_31 ?_
        refine w_a f_158_33 ?_
        refine w_a f_158_34 ?_
        refine w_a f_158_35 ?_
        refine w_a f_158_36 ?_
        refine w_a f_158_37 ?_
        refine w_a f_158_38 ?_
        refine w_a f_158_40 ?_
        refine w_a f_158_41 ?_
        refine w_a f_158_43 ?_
        refine w_a f_158_44 ?_
        refine w_a f_158_45 ?_
        refine w_a f_158_46 ?_
        refine w_a f_158_47 ?_
        refine w_a f_158_48 ?_
        refine w_a f_158_49 ?_
        refine w_a f_158_50 ?_
        exact w_c (ks := [0, 1]) f_158_51 rfl rfl h
      · refine w_a f_158_27 ?_
        refine w_a f_158_28 ?_
        exact h
    · refine w_a f_158_27 ?_
      refine w_a f_158_28 ?_
      exact h
  · refine w_a f_85_4 ?_
    refine w_a f_85_5 ?_
    refine w_a (ls := [(0, .ref 16)]) f_83_0 ?_
    refine w_a f_83_1 ?_
    refine w_a f_83_4 ?_
    refine w_a f_83_5 ?_
    refine w_a f_83_8 ?_
    refine w_a f_83_9 ?_
    refine w_a f_83_10 ?_
    refine w_a f_83_13 ?_
    refine w_a f_83_14 ?_
    refine w_a f_83_17 ?_
    refine w_a f_83_18 ?_
    refine w_a f_83_19 ?_
    refine w_a (ls := [(0, .ref 16), (1, .int x2)]) f_85_8 ?_
    refine w_a f_85_15 ?_
    refine w_a (ls := [(5, .long (((L 16 0) * (L 16 2)) + ((L 16 1) * (L 16 3)))), (0, .ref 1), (1, .ref 16), (2, .int x2), (3, .int x3), (4, .int x4)]) f_158_11 ?_
    refine w_a (ls := [(7, .long (((L 16 2) * (L 16 2)) + ((L 16 3) * (L 16 3)))), (5, .long (((L 16 0) * (L 16 2)) + ((L 16 1) * (L 16 3)))), (0, .ref 1), (1, .ref 16), (2, .int x2), (3, .int x3), (4, .int x4)]) f_158_13 ?_
    refine w_a f_158_15 ?_
    refine w_a f_158_16 ?_
    refine i_m (fun h => ?_) (fun h => ?_) h
    · refine w_a f_158_20 ?_
      refine w_a f_158_22 ?_
      refine w_a f_158_23 ?_
      refine i_m (fun h => ?_) (fun h => ?_) h
      · refine w_a f_158_29 ?_
        refine w_a f_158_31 ?_
        refine w_a f_158_33 ?_
        refine w_a f_158_34 ?_
        refine w_a f_158_35 ?_
        refine w_a f_158_36 ?_
        refine w_a f_158_37 ?_
        refine w_a f_158_38 ?_
        refine w_a f_158_40 ?_
        refine w_a f_158_41 ?_
        refine w_a f_158_43 ?_
        refine w_a f_158_44 ?_
        refine w_a f_158_45 ?_
        refine w_a f_158_46 ?_
        refine w_a f_158_47 ?_
        refine w_a f_158_48 ?_
        refine w_a f_158_49 ?_
        refine w_a f_158_50 ?_
        exact w_c (ks := [0, 1]) f_158_51 rfl rfl h
      · refine w_a f_158_27 ?_
        refine w_a f_158_28 ?_
        exact h
    · refine w_a f_158_27 ?_
      refine w_a f_158_28 ?_
      exact h
set_option maxRecDepth 10000 in
set_option maxHeartbeats 4000000 in
theorem s_158_54 {Lx : Nat} {I : Mi} {L : Ml} {e : Nat} {Q : Kq} {r : Int32} (h :
    (if 0 < r then
     Q (.inl (some (.int (Int32.ofInt 1)))) (gE Lx) I L e
    else
     Q (.inl (some (.int (Int32.ofInt 0)))) (gE Lx) I L e)) :
    Wp 158 54 [(0, .ref 1), (1, .ref 16)] [.int r] (gE Lx) I L e Q := by
  refine w_a f_158_54 ?_
  refine i_m (fun h => ?_) (fun h => ?_) h
  · refine w_a f_158_57 ?_
    refine w_a f_158_58 ?_
    refine w_a f_158_62 ?_
    exact h
  · refine w_a f_158_61 ?_
    refine w_a f_158_62 ?_
    exact h
set_option maxRecDepth 10000 in
set_option maxHeartbeats 4000000 in
theorem s_159_19 {Lx : Nat} {I : Mi} {L : Ml} {e : Nat} {Q : Kq} {x1 : Int32} {x2 : Int32} {x3 : Int32} {x4 : Int32} {x5 : Int32} (h :
    Wp 136 0 [(0, .ref 1), (1, .int x1)] [] (gE Lx) I L e (kcp (Wp 148) 148 2 0 [(0, .ref 1), (2, .int x2)] 71 [] (kcp (Wp 159) 159 22 0 [(0, .ref 1), (2, .int x2), (3, .int x3), (4, .int x4), (5, .int x5)] 71 [] Q))) :
    Wp 159 19 [(0, .ref 1), (1, .int x1), (2, .int x2), (3, .int x3), (4, .int x4), (5, .int x5)] [] (gE Lx) I L e Q := by
  refine w_a f_159_19 ?_
  refine w_a f_159_20 ?_
  refine w_a f_159_21 ?_
  refine w_c (ks := [0, 2, 3, 4, 5]) f_159_22 rfl rfl ?_
  refine w_a (ls := [(0, .ref 1), (1, .int x1), (2, .int x2)]) f_148_0 ?_
  refine w_a f_148_1 ?_
  exact w_c (ks := [0, 2]) f_148_2 rfl rfl h
set_option maxRecDepth 10000 in
set_option maxHeartbeats 4000000 in
theorem s_159_25 {Lx : Nat} {I : Mi} {L : Ml} {e : Nat} {Q : Kq} {x2 : Int32} {x3 : Int32} {x4 : Int32} {x5 : Int32} (h :
    Wp 160 0 [(0, .ref 1), (1, .int x2), (2, .int x3), (3, .int x4)] [] (gE Lx) I L e (kcp (Wp 159) 159 30 0 [(0, .ref 1), (5, .int x5)] 71 [] Q)) :
    Wp 159 25 [(0, .ref 1), (2, .int x2), (3, .int x3), (4, .int x4), (5, .int x5)] [] (gE Lx) I L e Q := by
  refine w_a f_159_25 ?_
  refine w_a f_159_26 ?_
  refine w_a f_159_27 ?_
  refine w_a f_159_28 ?_
  exact w_c (ks := [0, 5]) f_159_30 rfl rfl h
set_option maxRecDepth 10000 in
set_option maxHeartbeats 4000000 in
theorem s_159_33 {Lx : Nat} {I : Mi} {L : Ml} {e : Nat} {Q : Kq} {x5 : Int32} {r : Int32} (h :
    (if r = 0 then
     Q (.inr 102) (gE Lx) I L (e + 1)
    else
     (if x5 = Int32.ofInt 0 then
      Wp 69 0 [(0, .ref 2), (1, .int (I 21 5))] [] (gE Lx) I L e (kcp (Wp 161) 161 39 0 [(0, .ref 1)] 71 [] (kcp (Wp 159) 159 47 0 [(0, .ref 1)] 71 [] Q))
     else
     (if x5 = Int32.ofInt 1 then
      Wp 70 0 [(0, .ref 2), (1, .int (I 21 5))] [] (gE Lx) I L e (kcp (Wp 161) 161 54 0 [(0, .ref 1)] 71 [] (kcp (Wp 159) 159 47 0 [(0, .ref 1)] 71 [] Q))
     else
      (if (I 21 6) = 0 then
       Wp 159 50 [(0, .ref 1)] [.int (Int32.ofInt 0)] (gE Lx) I L e Q
      else
       Wp 159 50 [(0, .ref 1)] [.int (Int32.ofInt 1)] (gE Lx) I L e Q))))) :
    Wp 159 33 [(0, .ref 1), (5, .int x5)] [.int r] (gE Lx) I L e Q := by
  refine w_a f_159_33 ?_
  refine i_m (fun h => ?_) (fun h => ?_) h
  · refine w_a f_159_36 ?_
    exact h
  · refine w_a f_159_44 ?_
    refine w_a f_159_45 ?_
    refine w_c (ks := [0]) f_159_47 rfl rfl ?_
    refine w_a (ls := [(0, .ref 1), (1, .int x5)]) f_161_0 ?_
    refine w_a f_161_1 ?_
    refine i_m (fun h => ?_) (fun h => ?_) h
    · refine w_a f_161_28 ?_
      refine w_a f_161_29 ?_
      refine w_a f_161_32 ?_
      refine w_a f_161_33 ?_
      refine w_a f_161_36 ?_
      exact w_c (ks := [0]) f_161_39 rfl rfl h
    · refine i_m (fun h => ?_) (fun h => ?_) h
      · refine w_a f_161_43 ?_
        refine w_a f_161_44 ?_
        refine w_a f_161_47 ?_
        refine w_a f_161_48 ?_
        refine w_a f_161_51 ?_
        exact w_c (ks := [0]) f_161_54 rfl rfl h
      · refine w_a f_161_58 ?_
        refine w_a f_161_59 ?_
        refine w_a f_161_62 ?_
        refine w_a f_161_65 ?_
        refine i_m (fun h => ?_) (fun h => ?_) h
        · refine w_a f_161_72 ?_
          refine w_a f_161_73 ?_
          exact h
        · refine w_a f_161_68 ?_
          refine w_a f_161_69 ?_
          refine w_a f_161_73 ?_
          exact h
set_option maxRecDepth 10000 in
set_option maxHeartbeats 4000000 in
theorem s_159_50 {Lx : Nat} {I : Mi} {L : Ml} {e : Nat} {Q : Kq} {r : Int32} (h :
    Q (.inl (some (.int r))) (gE Lx) I L e) :
    Wp 159 50 [(0, .ref 1)] [.int r] (gE Lx) I L e Q := by
  refine w_a f_159_50 ?_
  exact h
set_option maxRecDepth 10000 in
set_option maxHeartbeats 4000000 in
theorem s_160_0 {Lx : Nat} {I : Mi} {L : Ml} {e : Nat} {Q : Kq} {x1 : Int32} {x2 : Int32} {x3 : Int32} (h :
    Wp 160 11 [(0, .ref 1), (1, .int x1), (2, .int x2), (3, .int x3), (4, .int (Int32.ofInt 0))] [] (gE Lx) I (ul (ul (ul (ul L 15 0 (L 17 0)) 15 1 (L 17 1)) 15 2 (L 17 2)) 15 3 (Int64.ofInt 0)) e Q) :
    Wp 160 0 [(0, .ref 1), (1, .int x1), (2, .int x2), (3, .int x3)] [] (gE Lx) I L e Q := by
  refine w_a f_160_0 ?_
  refine w_a f_160_1 ?_
  refine w_a f_160_2 ?_
  refine w_a f_160_5 ?_
  refine w_a (ls := [(0, .ref 1), (1, .ref 15)]) f_157_0 ?_
  refine w_a f_157_1 ?_
  refine w_a f_157_2 ?_
  refine w_a f_157_5 ?_
  refine w_a f_157_8 ?_
  refine w_a f_157_9 ?_
  refine w_a f_157_12 ?_
  refine w_a f_157_15 ?_
  refine w_a f_157_16 ?_
  refine w_a f_157_19 ?_
  refine w_a f_157_22 ?_
  refine w_a (ls := [(0, .ref 15), (1, .long (L 17 0)), (3, .long (L 17 1)), (5, .long (L 17 2))]) f_74_0 ?_
  refine w_a f_74_1 ?_
  refine w_a f_74_2 ?_
  refine w_a f_74_5 ?_
  refine w_a f_74_6 ?_
  refine w_a f_74_7 ?_
  refine w_a f_74_10 ?_
  refine w_a f_74_11 ?_
  refine w_a f_74_13 ?_
  refine w_a f_74_16 ?_
  refine w_a f_74_17 ?_
  refine w_a f_74_18 ?_
  refine w_a f_74_21 ?_
  refine w_a (ls := [(0, .ref 1), (1, .ref 15)]) f_157_25 ?_
  refine w_a (ls := [(0, .ref 1), (1, .int x1), (2, .int x2), (3, .int x3)]) f_160_8 ?_
  refine w_a f_160_9 ?_
  exact w_n (ks := [0, 1, 2, 3, 4]) rfl h
set_option maxRecDepth 10000 in
set_option maxHeartbeats 4000000 in
theorem s_160_11 {Lx : Nat} {I : Mi} {L : Ml} {e : Nat} {Q : Kq} {x1 : Int32} {x2 : Int32} {x3 : Int32} {x4 : Int32} (h :
    (if x4 < (Int32.ofInt 184) then
     Wp 160 22 [(0, .ref 1), (1, .int x1), (2, .int x2), (3, .int x3), (4, .int x4), (5, .int (Int32.ofInt 0))] [] (gE Lx) I L e Q
    else
     Q (.inl (some (.int (Int32.ofInt 0)))) (gE Lx) I L e)) :
    Wp 160 11 [(0, .ref 1), (1, .int x1), (2, .int x2), (3, .int x3), (4, .int x4)] [] (gE Lx) I L e Q := by
  refine w_a f_160_11 ?_
  refine w_a f_160_13 ?_
  refine w_a f_160_16 ?_
  refine i_m (fun h => ?_) (fun h => ?_) h
  · refine w_a f_160_19 ?_
    refine w_a f_160_20 ?_
    exact w_n (ks := [0, 1, 2, 3, 4, 5]) rfl h
  · refine w_a f_160_145 ?_
    refine w_a f_160_146 ?_
    exact h
set_option maxRecDepth 10000 in
set_option maxHeartbeats 4000000 in
theorem s_160_22 {Lx : Nat} {I : Mi} {L : Ml} {e : Nat} {Q : Kq} {x1 : Int32} {x2 : Int32} {x3 : Int32} {x4 : Int32} {x5 : Int32} (h :
    (if x5 < (Int32.ofInt 2) then
     (if x5 = 0 then
      (if x1 = 0 then
       Wp 69 0 [(0, .ref 2), (1, .int x4)] [] (gE Lx) I (ul (ul (ul (ul L 16 0 (L 15 0)) 16 1 (L 15 1)) 16 2 (L 15 2)) 16 3 (L 15 3)) e (kcp (Wp 160) 160 63 0 [(0, .ref 1), (1, .int x1), (2, .int x2), (3, .int x3), (4, .int x4), (5, .int x5)] 71 [.int (Int32.ofInt 1), .ref 16] Q)
      else
       Wp 69 0 [(0, .ref 2), (1, .int x4)] [] (gE Lx) I (ul (ul (ul (ul L 16 0 (L 15 0)) 16 1 (L 15 1)) 16 2 (L 15 2)) 16 3 (L 15 3)) e (kcp (Wp 160) 160 63 0 [(0, .ref 1), (1, .int x1), (2, .int x2), (3, .int x3), (4, .int x4), (5, .int x5)] 71 [.int (Int32.ofInt 3), .ref 16] Q))
     else
      (if x1 = 0 then
       Wp 69 0 [(0, .ref 2), (1, .int x4)] [] (gE Lx) I (ul (ul (ul (ul L 16 0 (L 15 0)) 16 1 (L 15 1)) 16 2 (L 15 2)) 16 3 (L 15 3)) e (kcp (Wp 160) 160 63 0 [(0, .ref 1), (1, .int x1), (2, .int x2), (3, .int x3), (4, .int x4), (5, .int x5)] 71 [.int (Int32.ofInt 2), .ref 16] Q)
      else
       Wp 69 0 [(0, .ref 2), (1, .int x4)] [] (gE Lx) I (ul (ul (ul (ul L 16 0 (L 15 0)) 16 1 (L 15 1)) 16 2 (L 15 2)) 16 3 (L 15 3)) e (kcp (Wp 160) 160 63 0 [(0, .ref 1), (1, .int x1), (2, .int x2), (3, .int x3), (4, .int x4), (5, .int x5)] 71 [.int (Int32.ofInt 4), .ref 16] Q)))
    else
     Wp 160 11 [(0, .ref 1), (1, .int x1), (2, .int x2), (3, .int x3), (4, .int (x4 + Int32.ofInt 1))] [] (gE Lx) I L e Q)) :
    Wp 160 22 [(0, .ref 1), (1, .int x1), (2, .int x2), (3, .int x3), (4, .int x4), (5, .int x5)] [] (gE Lx) I L e Q := by
  refine w_a f_160_22 ?_
  refine w_a f_160_24 ?_
  refine w_a f_160_25 ?_
  refine i_m (fun h => ?_) (fun h => ?_) h
  · refine w_a f_160_28 ?_
    refine w_a f_160_29 ?_
    refine w_a f_160_32 ?_
    refine w_a f_160_33 ?_
    refine w_a f_160_36 ?_
    refine w_a (ls := [(0, .ref 16), (1, .ref 15)]) f_84_0 ?_
    refine w_a f_84_1 ?_
    refine w_a f_84_2 ?_
    refine w_a f_84_5 ?_
    refine w_a f_84_8 ?_
    refine w_a f_84_9 ?_
    refine w_a f_84_10 ?_
    refine w_a f_84_13 ?_
    refine w_a f_84_16 ?_
    refine w_a f_84_17 ?_
    refine w_a f_84_18 ?_
    refine w_a f_84_21 ?_
    refine w_a f_84_24 ?_
    refine w_a f_84_25 ?_
    refine w_a f_84_26 ?_
    refine w_a f_84_29 ?_
    refine w_a f_84_32 ?_
    refine w_a (ls := [(0, .ref 1), (1, .int x1), (2, .int x2), (3, .int x3), (4, .int x4), (5, .int x5)]) f_160_39 ?_
    refine w_a f_160_40 ?_
    refine w_a f_160_43 ?_
    refine w_a f_160_44 ?_
    refine w_a f_160_46 ?_
    refine i_m (fun h => ?_) (fun h => ?_) h
    · refine w_a f_160_49 ?_
      refine w_a f_160_50 ?_
      refine w_a f_160_54 ?_
      refine w_a (ls := [(0, .int x1), (1, .int (Int32.ofInt 1))]) f_146_0 ?_
      refine w_a f_146_1 ?_
      refine i_m (fun h => ?_) (fun h => ?_) h
      · refine w_a f_146_14 ?_
        refine w_a f_146_15 ?_
        refine w_a f_146_18 ?_
        refine w_a f_146_19 ?_
        refine w_a f_146_23 ?_
        refine w_a (ls := [(0, .ref 1), (1, .int x1), (2, .int x2), (3, .int x3), (4, .int x4), (5, .int x5)]) f_160_57 ?_
        refine w_a f_160_58 ?_
        refine w_a f_160_61 ?_
        exact w_c (ks := [0, 1, 2, 3, 4, 5]) f_160_63 rfl rfl h
      · refine w_a f_146_4 ?_
        refine w_a f_146_5 ?_
        refine w_a f_146_8 ?_
        refine w_a f_146_9 ?_
        refine w_a f_146_13 ?_
        refine w_a (ls := [(0, .ref 1), (1, .int x1), (2, .int x2), (3, .int x3), (4, .int x4), (5, .int x5)]) f_160_57 ?_
        refine w_a f_160_58 ?_
        refine w_a f_160_61 ?_
        exact w_c (ks := [0, 1, 2, 3, 4, 5]) f_160_63 rfl rfl h
    · refine w_a f_160_53 ?_
      refine w_a f_160_54 ?_
      refine w_a (ls := [(0, .int x1), (1, .int (Int32.ofInt 0))]) f_146_0 ?_
      refine w_a f_146_1 ?_
      refine i_m (fun h => ?_) (fun h => ?_) h
      · refine w_a f_146_14 ?_
        refine w_a f_146_15 ?_
        refine w_a f_146_22 ?_
        refine w_a f_146_23 ?_
        refine w_a (ls := [(0, .ref 1), (1, .int x1), (2, .int x2), (3, .int x3), (4, .int x4), (5, .int x5)]) f_160_57 ?_
        refine w_a f_160_58 ?_
        refine w_a f_160_61 ?_
        exact w_c (ks := [0, 1, 2, 3, 4, 5]) f_160_63 rfl rfl h
      · refine w_a f_146_4 ?_
        refine w_a f_146_5 ?_
        refine w_a f_146_12 ?_
        refine w_a f_146_13 ?_
        refine w_a (ls := [(0, .ref 1), (1, .int x1), (2, .int x2), (3, .int x3), (4, .int x4), (5, .int x5)]) f_160_57 ?_
        refine w_a f_160_58 ?_
        refine w_a f_160_61 ?_
        exact w_c (ks := [0, 1, 2, 3, 4, 5]) f_160_63 rfl rfl h
  · refine w_a f_160_139 ?_
    refine w_a (ls := [(4, .int (x4 + Int32.ofInt 1)), (0, .ref 1), (1, .int x1), (2, .int x2), (3, .int x3), (5, .int x5)]) f_160_142 ?_
    exact w_n (ks := [0, 1, 2, 3, 4]) rfl h
set_option maxRecDepth 10000 in
set_option maxHeartbeats 4000000 in
theorem s_160_66 {Lx : Nat} {I : Mi} {L : Ml} {e : Nat} {Q : Kq} {x1 : Int32} {x2 : Int32} {x3 : Int32} {x4 : Int32} {x5 : Int32} {r1 : Int32} {r : Int32} (h :
    Wp 70 0 [(0, .ref 2), (1, .int x4)] [] (gE Lx) I L e (kcp (Wp 160) 160 73 0 [(0, .ref 1), (1, .int x1), (2, .int x2), (3, .int x3), (4, .int x4), (5, .int x5)] 71 [.long r.toInt64, .int r1, .ref 16] Q)) :
    Wp 160 66 [(0, .ref 1), (1, .int x1), (2, .int x2), (3, .int x3), (4, .int x4), (5, .int x5)] [.int r, .int r1, .ref 16] (gE Lx) I L e Q := by
  refine w_a f_160_66 ?_
  refine w_a f_160_67 ?_
  refine w_a f_160_68 ?_
  refine w_a f_160_71 ?_
  exact w_c (ks := [0, 1, 2, 3, 4, 5]) f_160_73 rfl rfl h
set_option maxRecDepth 10000 in
set_option maxHeartbeats 4000000 in
theorem s_160_76 {Lx : Nat} {I : Mi} {L : Ml} {e : Nat} {Q : Kq} {x1 : Int32} {x2 : Int32} {x3 : Int32} {x4 : Int32} {x5 : Int32} {r1 : Int32} {rl2 : Int64} {r : Int32} (h :
    Wp 75 0 [(0, .ref 16), (1, .int r1), (2, .long rl2), (4, .long r.toInt64)] [] (gE Lx) I L e (kcp (Wp 160) 160 77 0 [(0, .ref 1), (1, .int x1), (2, .int x2), (3, .int x3), (4, .int x4), (5, .int x5)] 71 [] Q)) :
    Wp 160 76 [(0, .ref 1), (1, .int x1), (2, .int x2), (3, .int x3), (4, .int x4), (5, .int x5)] [.int r, .long rl2, .int r1, .ref 16] (gE Lx) I L e Q := by
  refine w_a f_160_76 ?_
  exact w_c (ks := [0, 1, 2, 3, 4, 5]) f_160_77 rfl rfl h
set_option maxRecDepth 10000 in
set_option maxHeartbeats 4000000 in
theorem s_160_80 {Lx : Nat} {I : Mi} {L : Ml} {e : Nat} {Q : Kq} {x1 : Int32} {x2 : Int32} {x3 : Int32} {x4 : Int32} {x5 : Int32} (h :
    Wp 76 0 [(0, .ref 16), (1, .long x2.toInt64), (3, .long x3.toInt64)] [] (gE Lx) I L e (kcp (Wp 160) 160 88 0 [(0, .ref 1), (1, .int x1), (2, .int x2), (3, .int x3), (4, .int x4), (5, .int x5)] 71 [] Q)) :
    Wp 160 80 [(0, .ref 1), (1, .int x1), (2, .int x2), (3, .int x3), (4, .int x4), (5, .int x5)] [] (gE Lx) I L e Q := by
  refine w_a f_160_80 ?_
  refine w_a f_160_81 ?_
  refine w_a f_160_84 ?_
  refine w_a f_160_85 ?_
  refine w_a f_160_86 ?_
  refine w_a f_160_87 ?_
  exact w_c (ks := [0, 1, 2, 3, 4, 5]) f_160_88 rfl rfl h
set_option maxRecDepth 10000 in
set_option maxHeartbeats 4000000 in
theorem s_160_91 {Lx : Nat} {I : Mi} {L : Ml} {e : Nat} {Q : Kq} {x1 : Int32} {x2 : Int32} {x3 : Int32} {x4 : Int32} {x5 : Int32} (h :
    Wp 158 0 [(0, .ref 1), (1, .ref 16), (2, .int x1), (3, .int x2), (4, .int x3)] [] (gE Lx) I L e (kcp (Wp 160) 160 99 0 [(0, .ref 1), (1, .int x1), (2, .int x2), (3, .int x3), (4, .int x4), (5, .int x5)] 71 [] Q)) :
    Wp 160 91 [(0, .ref 1), (1, .int x1), (2, .int x2), (3, .int x3), (4, .int x4), (5, .int x5)] [] (gE Lx) I L e Q := by
  refine w_a f_160_91 ?_
  refine w_a f_160_92 ?_
  refine w_a f_160_93 ?_
  refine w_a f_160_96 ?_
  refine w_a f_160_97 ?_
  refine w_a f_160_98 ?_
  exact w_c (ks := [0, 1, 2, 3, 4, 5]) f_160_99 rfl rfl h
set_option maxRecDepth 10000 in
set_option maxHeartbeats 4000000 in
theorem s_160_102 {Lx : Nat} {I : Mi} {L : Ml} {e : Nat} {Q : Kq} {x1 : Int32} {x2 : Int32} {x3 : Int32} {x4 : Int32} {x5 : Int32} {r : Int32} (h :
    (if r = 0 then
     (if x5 = 0 then
      Q (.inl (some (.int (Int32.ofInt 1)))) (gE Lx) (ui (ui I 21 5 x4) 21 6 (Int32.ofInt 1)) L e
     else
      Q (.inl (some (.int (Int32.ofInt 1)))) (gE Lx) (ui (ui I 21 5 x4) 21 6 (Int32.ofInt 0)) L e)
    else
     Wp 160 22 [(0, .ref 1), (1, .int x1), (2, .int x2), (3, .int x3), (4, .int x4), (5, .int (x5 + Int32.ofInt 1))] [] (gE Lx) I L e Q)) :
    Wp 160 102 [(0, .ref 1), (1, .int x1), (2, .int x2), (3, .int x3), (4, .int x4), (5, .int x5)] [.int r] (gE Lx) I L e Q := by
  refine w_a f_160_102 ?_
  refine i_m (fun h => ?_) (fun h => ?_) h
  · refine w_a f_160_105 ?_
    refine w_a f_160_106 ?_
    refine w_a f_160_109 ?_
    refine w_a f_160_111 ?_
    refine w_a f_160_114 ?_
    refine w_a f_160_115 ?_
    refine w_a f_160_118 ?_
    refine w_a f_160_120 ?_
    refine i_m (fun h => ?_) (fun h => ?_) h
    · refine w_a f_160_123 ?_
      refine w_a f_160_124 ?_
      refine w_a f_160_128 ?_
      refine w_a f_160_131 ?_
      refine w_a f_160_132 ?_
      exact h
    · refine w_a f_160_127 ?_
      refine w_a f_160_128 ?_
      refine w_a f_160_131 ?_
      refine w_a f_160_132 ?_
      exact h
  · refine w_a f_160_133 ?_
    refine w_a (ls := [(5, .int (x5 + Int32.ofInt 1)), (0, .ref 1), (1, .int x1), (2, .int x2), (3, .int x3), (4, .int x4)]) f_160_136 ?_
    exact w_n (ks := [0, 1, 2, 3, 4, 5]) rfl h
set_option maxRecDepth 10000 in
set_option maxHeartbeats 4000000 in
theorem s_161_42 {Lx : Nat} {I : Mi} {L : Ml} {e : Nat} {Q : Kq} {r : Int32} (h :
    Q (.inl (some (.int r))) (gE Lx) I L e) :
    Wp 161 42 [(0, .ref 1)] [.int r] (gE Lx) I L e Q := by
  refine w_a f_161_42 ?_
  exact h
set_option maxRecDepth 10000 in
set_option maxHeartbeats 4000000 in
theorem s_161_57 {Lx : Nat} {I : Mi} {L : Ml} {e : Nat} {Q : Kq} {r : Int32} (h :
    Q (.inl (some (.int r))) (gE Lx) I L e) :
    Wp 161 57 [(0, .ref 1)] [.int r] (gE Lx) I L e Q := by
  refine w_a f_161_57 ?_
  exact h
set_option maxRecDepth 10000 in
set_option maxHeartbeats 4000000 in
theorem s_162_11 {Lx : Nat} {I : Mi} {L : Ml} {e : Nat} {Q : Kq} {x2 : Int32} (h :
    Wp 34 0 [(0, .ref 20), (1, .ref 17), (2, .int x2), (3, .int (Int32.ofInt 1)), (4, .int (Int32.ofInt 0))] [] (gE Lx) I L e (kcp (Wp 163) 163 11 0 [(0, .ref 1)] 71 [] (kcp (Wp 162) 162 13 0 [(0, .ref 1)] 71 [] Q))) :
    Wp 162 11 [(0, .ref 1), (2, .int x2)] [] (gE Lx) I L e Q := by
  refine w_a f_162_11 ?_
  refine w_a f_162_12 ?_
  refine w_c (ks := [0]) f_162_13 rfl rfl ?_
  refine w_a (ls := [(0, .ref 1), (1, .int x2)]) f_163_0 ?_
  refine w_a f_163_1 ?_
  refine w_a f_163_4 ?_
  refine w_a f_163_5 ?_
  refine w_a f_163_8 ?_
  refine w_a f_163_9 ?_
  refine w_a f_163_10 ?_
  exact w_c (ks := [0]) f_163_11 rfl rfl h
set_option maxRecDepth 10000 in
set_option maxHeartbeats 4000000 in
theorem s_162_16 {Lx : Nat} {I : Mi} {L : Ml} {e : Nat} {Q : Kq} (h :
    Q (.inl (some (.int (I 20 0)))) (gE Lx) I L e) :
    Wp 162 16 [(0, .ref 1)] [] (gE Lx) I L e Q := by
  refine w_a f_162_16 ?_
  refine w_a f_162_17 ?_
  refine w_a f_162_20 ?_
  refine w_a f_162_23 ?_
  exact h
set_option maxRecDepth 10000 in
set_option maxHeartbeats 4000000 in
theorem s_163_14 {Lx : Nat} {I : Mi} {L : Ml} {e : Nat} {Q : Kq} (h :
    Q (.inl none) (gE Lx) I L e) :
    Wp 163 14 [(0, .ref 1)] [] (gE Lx) I L e Q := by
  refine w_a f_163_14 ?_
  exact h
set_option maxRecDepth 10000 in
set_option maxHeartbeats 4000000 in
theorem s_164_11 {Lx : Nat} {I : Mi} {L : Ml} {e : Nat} {Q : Kq} {x2 : Int32} {x3 : Int32} {x4 : Int32} {x5 : Int32} (h :
    Wp 34 0 [(0, .ref 20), (1, .ref 17), (2, .int x2), (3, .int (Int32.ofInt 1)), (4, .int (Int32.ofInt 0))] [] (gE Lx) I L e (kcp (Wp 163) 163 11 0 [(0, .ref 1)] 71 [] (kcp (Wp 164) 164 13 0 [(0, .ref 1), (3, .int x3), (4, .int x4), (5, .int x5)] 71 [] Q))) :
    Wp 164 11 [(0, .ref 1), (2, .int x2), (3, .int x3), (4, .int x4), (5, .int x5)] [] (gE Lx) I L e Q := by
  refine w_a f_164_11 ?_
  refine w_a f_164_12 ?_
  refine w_c (ks := [0, 3, 4, 5]) f_164_13 rfl rfl ?_
  refine w_a (ls := [(0, .ref 1), (1, .int x2)]) f_163_0 ?_
  refine w_a f_163_1 ?_
  refine w_a f_163_4 ?_
  refine w_a f_163_5 ?_
  refine w_a f_163_8 ?_
  refine w_a f_163_9 ?_
  refine w_a f_163_10 ?_
  exact w_c (ks := [0]) f_163_11 rfl rfl h
set_option maxRecDepth 10000 in
set_option maxHeartbeats 4000000 in
theorem s_164_16 {Lx : Nat} {I : Mi} {L : Ml} {e : Nat} {Q : Kq} {x3 : Int32} {x4 : Int32} {x5 : Int32} (h :
    (if x3 < 0 then
     Q (.inr 102) (gE Lx) I L (e + 1)
    else
     (if x3 < (I 20 0) then
      (if (I 20 1) = 0 then
       Q (.inr 102) (gE Lx) I L (e + 1)
      else
       (if x4 = 0 then
        (if x3 = 0 then
         (if (Int64.ofInt 0) < (L 20 6) then
          Wp 25 0 [(0, .ref 18), (1, .long ((((L 20 3) * (L 20 7)) + (-(L 20 5))) - ((L 20 4) * (L 20 6)))), (3, .long ((L 20 3) * (L 20 6)))] [] (gE Lx) I L e (kcp (Wp 37) 37 35 0 [(0, .ref 20), (2, .ref 18)] 71 [] (kcp (Wp 154) 154 61 0 [(0, .ref 1), (3, .int x5)] 71 [] (kcp (Wp 164) 164 22 0 [(0, .ref 1)] 71 [] Q)))
         else
          Wp 25 0 [(0, .ref 18), (1, .long ((((L 20 3) * (L 20 7)) + (L 20 5)) - ((L 20 4) * (L 20 6)))), (3, .long ((L 20 3) * (L 20 6)))] [] (gE Lx) I L e (kcp (Wp 37) 37 35 0 [(0, .ref 20), (2, .ref 18)] 71 [] (kcp (Wp 154) 154 61 0 [(0, .ref 1), (3, .int x5)] 71 [] (kcp (Wp 164) 164 22 0 [(0, .ref 1)] 71 [] Q))))
        else
         (if (Int64.ofInt 0) < (L 20 6) then
          Wp 25 0 [(0, .ref 18), (1, .long ((((L 20 3) * (L 20 7)) + (L 20 5)) - ((L 20 4) * (L 20 6)))), (3, .long ((L 20 3) * (L 20 6)))] [] (gE Lx) I L e (kcp (Wp 37) 37 35 0 [(0, .ref 20), (2, .ref 18)] 71 [] (kcp (Wp 154) 154 61 0 [(0, .ref 1), (3, .int x5)] 71 [] (kcp (Wp 164) 164 22 0 [(0, .ref 1)] 71 [] Q)))
         else
          Wp 25 0 [(0, .ref 18), (1, .long ((((L 20 3) * (L 20 7)) + (-(L 20 5))) - ((L 20 4) * (L 20 6)))), (3, .long ((L 20 3) * (L 20 6)))] [] (gE Lx) I L e (kcp (Wp 37) 37 35 0 [(0, .ref 20), (2, .ref 18)] 71 [] (kcp (Wp 154) 154 61 0 [(0, .ref 1), (3, .int x5)] 71 [] (kcp (Wp 164) 164 22 0 [(0, .ref 1)] 71 [] Q)))))
       else
        (if x3 = 0 then
         (if (Int64.ofInt 0) < (L 20 6) then
          Wp 25 0 [(0, .ref 18), (1, .long (((L 20 2) * (L 20 7)) + (-(L 20 5)))), (3, .long ((L 20 2) * (L 20 6)))] [] (gE Lx) I L e (kcp (Wp 35) 35 25 0 [(0, .ref 20), (2, .ref 18)] 71 [] (kcp (Wp 154) 154 46 0 [(0, .ref 1), (3, .int x5)] 71 [] (kcp (Wp 164) 164 22 0 [(0, .ref 1)] 71 [] Q)))
         else
          Wp 25 0 [(0, .ref 18), (1, .long (((L 20 2) * (L 20 7)) + (L 20 5))), (3, .long ((L 20 2) * (L 20 6)))] [] (gE Lx) I L e (kcp (Wp 35) 35 25 0 [(0, .ref 20), (2, .ref 18)] 71 [] (kcp (Wp 154) 154 46 0 [(0, .ref 1), (3, .int x5)] 71 [] (kcp (Wp 164) 164 22 0 [(0, .ref 1)] 71 [] Q))))
        else
         (if (Int64.ofInt 0) < (L 20 6) then
          Wp 25 0 [(0, .ref 18), (1, .long (((L 20 2) * (L 20 7)) + (L 20 5))), (3, .long ((L 20 2) * (L 20 6)))] [] (gE Lx) I L e (kcp (Wp 35) 35 25 0 [(0, .ref 20), (2, .ref 18)] 71 [] (kcp (Wp 154) 154 46 0 [(0, .ref 1), (3, .int x5)] 71 [] (kcp (Wp 164) 164 22 0 [(0, .ref 1)] 71 [] Q)))
         else
          Wp 25 0 [(0, .ref 18), (1, .long (((L 20 2) * (L 20 7)) + (-(L 20 5)))), (3, .long ((L 20 2) * (L 20 6)))] [] (gE Lx) I L e (kcp (Wp 35) 35 25 0 [(0, .ref 20), (2, .ref 18)] 71 [] (kcp (Wp 154) 154 46 0 [(0, .ref 1), (3, .int x5)] 71 [] (kcp (Wp 164) 164 22 0 [(0, .ref 1)] 71 [] Q)))))))
     else
      Q (.inr 102) (gE Lx) I L (e + 1)))) :
    Wp 164 16 [(0, .ref 1), (3, .int x3), (4, .int x4), (5, .int x5)] [] (gE Lx) I L e Q := by
  refine w_a f_164_16 ?_
  refine w_a f_164_17 ?_
  refine w_a f_164_18 ?_
  refine w_a f_164_20 ?_
  refine w_c (ks := [0]) f_164_22 rfl rfl ?_
  refine w_a (ls := [(0, .ref 1), (1, .int x3), (2, .int x4), (3, .int x5)]) f_154_0 ?_
  refine w_a f_154_1 ?_
  refine i_m (fun h => ?_) (fun h => ?_) h
  · refine w_a f_154_25 ?_
    exact h
  · refine w_a f_154_4 ?_
    refine w_a f_154_5 ?_
    refine w_a f_154_6 ?_
    refine w_a f_154_9 ?_
    refine w_a f_154_12 ?_
    refine i_m (fun h => ?_) (fun h => ?_) h
    · refine w_a f_154_15 ?_
      refine w_a f_154_16 ?_
      refine w_a f_154_19 ?_
      refine w_a f_154_22 ?_
      refine i_m (fun h => ?_) (fun h => ?_) h
      · refine w_a f_154_25 ?_
        exact h
      · refine w_a f_154_33 ?_
        refine w_a f_154_34 ?_
        refine i_m (fun h => ?_) (fun h => ?_) h
        · refine w_a f_154_52 ?_
          refine w_a f_154_53 ?_
          refine w_a f_154_56 ?_
          refine w_a f_154_57 ?_
          refine w_a f_154_58 ?_
          refine w_c (ks := [0, 3]) f_154_61 rfl rfl ?_
          refine w_a (ls := [(0, .ref 20), (1, .int x3), (2, .ref 18)]) f_37_0 ?_
          refine w_a f_37_1 ?_
          refine w_a f_37_2 ?_
          refine w_a f_37_5 ?_
          refine w_a f_37_6 ?_
          refine w_a f_37_9 ?_
          refine w_a f_37_10 ?_
          refine w_a f_37_11 ?_
          refine w_a f_37_12 ?_
          refine w_a (ls := [(0, .ref 20), (1, .int x3)]) f_36_0 ?_
          refine w_a f_36_1 ?_
          refine i_m (fun h => ?_) (fun h => ?_) h
          · refine w_a f_36_4 ?_
            refine w_a f_36_5 ?_
            refine w_a f_36_9 ?_
            refine w_a f_36_10 ?_
            refine w_a f_36_13 ?_
            refine w_a f_36_14 ?_
            refine i_m (fun h => ?_) (fun h => ?_) h
            · refine w_a f_36_18 ?_
              refine w_a f_36_19 ?_
              refine w_a f_36_23 ?_
              refine w_a f_36_26 ?_
              refine w_a f_36_27 ?_
              refine w_a f_36_30 ?_
              refine w_a f_36_31 ?_
              refine w_a f_36_38 ?_
              refine w_a (ls := [(0, .ref 20), (1, .int x3), (2, .ref 18)]) f_37_15 ?_
              refine w_a f_37_16 ?_
              refine w_a f_37_17 ?_
              refine w_a f_37_20 ?_
              refine w_a f_37_21 ?_
              refine w_a f_37_24 ?_
              refine w_a f_37_25 ?_
              refine w_a f_37_26 ?_
              refine w_a f_37_27 ?_
              refine w_a f_37_30 ?_
              refine w_a f_37_31 ?_
              refine w_a f_37_34 ?_
              exact w_c (ks := [0, 2]) f_37_35 rfl rfl h
            · refine w_a f_36_22 ?_
              refine w_a f_36_23 ?_
              refine w_a f_36_34 ?_
              refine w_a f_36_35 ?_
              refine w_a f_36_38 ?_
              refine w_a (ls := [(0, .ref 20), (1, .int x3), (2, .ref 18)]) f_37_15 ?_
              refine w_a f_37_16 ?_
              refine w_a f_37_17 ?_
              refine w_a f_37_20 ?_
              refine w_a f_37_21 ?_
              refine w_a f_37_24 ?_
              refine w_a f_37_25 ?_
              refine w_a f_37_26 ?_
              refine w_a f_37_27 ?_
              refine w_a f_37_30 ?_
              refine w_a f_37_31 ?_
              refine w_a f_37_34 ?_
              exact w_c (ks := [0, 2]) f_37_35 rfl rfl h
          · refine w_a f_36_8 ?_
            refine w_a f_36_9 ?_
            refine w_a f_36_10 ?_
            refine w_a f_36_13 ?_
            refine w_a f_36_14 ?_
            refine i_m (fun h => ?_) (fun h => ?_) h
            · refine w_a f_36_18 ?_
              refine w_a f_36_19 ?_
              refine w_a f_36_23 ?_
              refine w_a f_36_34 ?_
              refine w_a f_36_35 ?_
              refine w_a f_36_38 ?_
              refine w_a (ls := [(0, .ref 20), (1, .int x3), (2, .ref 18)]) f_37_15 ?_
              refine w_a f_37_16 ?_
              refine w_a f_37_17 ?_
              refine w_a f_37_20 ?_
              refine w_a f_37_21 ?_
              refine w_a f_37_24 ?_
              refine w_a f_37_25 ?_
              refine w_a f_37_26 ?_
              refine w_a f_37_27 ?_
              refine w_a f_37_30 ?_
              refine w_a f_37_31 ?_
              refine w_a f_37_34 ?_
              exact w_c (ks := [0, 2]) f_37_35 rfl rfl h
            · refine w_a f_36_22 ?_
              refine w_a f_36_23 ?_
              refine w_a f_36_26 ?_
              refine w_a f_36_27 ?_
              refine w_a f_36_30 ?_
              refine w_a f_36_31 ?_
              refine w_a f_36_38 ?_
              refine w_a (ls := [(0, .ref 20), (1, .int x3), (2, .ref 18)]) f_37_15 ?_
              refine w_a f_37_16 ?_
              refine w_a f_37_17 ?_
              refine w_a f_37_20 ?_
              refine w_a f_37_21 ?_
              refine w_a f_37_24 ?_
              refine w_a f_37_25 ?_
              refine w_a f_37_26 ?_
              refine w_a f_37_27 ?_
              refine w_a f_37_30 ?_
              refine w_a f_37_31 ?_
              refine w_a f_37_34 ?_
              exact w_c (ks := [0, 2]) f_37_35 rfl rfl h
        · refine w_a f_154_37 ?_
          refine w_a f_154_38 ?_
          refine w_a f_154_41 ?_
          refine w_a f_154_42 ?_
          refine w_a f_154_43 ?_
          refine w_c (ks := [0, 3]) f_154_46 rfl rfl ?_
          refine w_a (ls := [(0, .ref 20), (1, .int x3), (2, .ref 18)]) f_35_0 ?_
          refine w_a f_35_1 ?_
          refine w_a f_35_2 ?_
          refine w_a f_35_5 ?_
          refine w_a f_35_6 ?_
          refine w_a f_35_9 ?_
          refine w_a f_35_10 ?_
          refine w_a f_35_11 ?_
          refine w_a f_35_12 ?_
          refine w_a (ls := [(0, .ref 20), (1, .int x3)]) f_36_0 ?_
          refine w_a f_36_1 ?_
          refine i_m (fun h => ?_) (fun h => ?_) h
          · refine w_a f_36_4 ?_
            refine w_a f_36_5 ?_
            refine w_a f_36_9 ?_
            refine w_a f_36_10 ?_
            refine w_a f_36_13 ?_
            refine w_a f_36_14 ?_
            refine i_m (fun h => ?_) (fun h => ?_) h
            · refine w_a f_36_18 ?_
              refine w_a f_36_19 ?_
              refine w_a f_36_23 ?_
              refine w_a f_36_26 ?_
              refine w_a f_36_27 ?_
              refine w_a f_36_30 ?_
              refine w_a f_36_31 ?_
              refine w_a f_36_38 ?_
              refine w_a (ls := [(0, .ref 20), (1, .int x3), (2, .ref 18)]) f_35_15 ?_
              refine w_a f_35_16 ?_
              refine w_a f_35_17 ?_
              refine w_a f_35_20 ?_
              refine w_a f_35_21 ?_
              refine w_a f_35_24 ?_
              exact w_c (ks := [0, 2]) f_35_25 rfl rfl h
            · refine w_a f_36_22 ?_
              refine w_a f_36_23 ?_
              refine w_a f_36_34 ?_
              refine w_a f_36_35 ?_
              refine w_a f_36_38 ?_
              refine w_a (ls := [(0, .ref 20), (1, .int x3), (2, .ref 18)]) f_35_15 ?_
              refine w_a f_35_16 ?_
              refine w_a f_35_17 ?_
              refine w_a f_35_20 ?_
              refine w_a f_35_21 ?_
              refine w_a f_35_24 ?_
              exact w_c (ks := [0, 2]) f_35_25 rfl rfl h
          · refine w_a f_36_8 ?_
            refine w_a f_36_9 ?_
            refine w_a f_36_10 ?_
            refine w_a f_36_13 ?_
            refine w_a f_36_14 ?_
            refine i_m (fun h => ?_) (fun h => ?_) h
            · refine w_a f_36_18 ?_
              refine w_a f_36_19 ?_
              refine w_a f_36_23 ?_
              refine w_a f_36_34 ?_
              refine w_a f_36_35 ?_
              refine w_a f_36_38 ?_
              refine w_a (ls := [(0, .ref 20), (1, .int x3), (2, .ref 18)]) f_35_15 ?_
              refine w_a f_35_16 ?_
              refine w_a f_35_17 ?_
              refine w_a f_35_20 ?_
              refine w_a f_35_21 ?_
              refine w_a f_35_24 ?_
              exact w_c (ks := [0, 2]) f_35_25 rfl rfl h
            · refine w_a f_36_22 ?_
              refine w_a f_36_23 ?_
              refine w_a f_36_26 ?_
              refine w_a f_36_27 ?_
              refine w_a f_36_30 ?_
              refine w_a f_36_31 ?_
              refine w_a f_36_38 ?_
              refine w_a (ls := [(0, .ref 20), (1, .int x3), (2, .ref 18)]) f_35_15 ?_
              refine w_a f_35_16 ?_
              refine w_a f_35_17 ?_
              refine w_a f_35_20 ?_
              refine w_a f_35_21 ?_
              refine w_a f_35_24 ?_
              exact w_c (ks := [0, 2]) f_35_25 rfl rfl h
    · refine w_a f_154_25 ?_
      exact h
set_option maxRecDepth 10000 in
set_option maxHeartbeats 4000000 in
theorem s_164_25 {Lx : Nat} {I : Mi} {L : Ml} {e : Nat} {Q : Kq} {rl : Int64} (h :
    Q (.inl (some (.long rl))) (gE Lx) I L e) :
    Wp 164 25 [(0, .ref 1)] [.long rl] (gE Lx) I L e Q := by
  refine w_a f_164_25 ?_
  exact h
set_option maxRecDepth 10000 in
set_option maxHeartbeats 4000000 in
theorem s_165_10 {Lx : Nat} {I : Mi} {L : Ml} {e : Nat} {Q : Kq} {x2 : Int32} {x3 : Int32} (h :
    (if (L 17 0) = (L 17 2) then
     (if (L 17 1) = (Int64.ofInt 0) then
      Q (.inr 102) (gE Lx) I L (e + 1)
     else
      Wp 58 0 [(0, .ref 17), (1, .int x2), (2, .ref 18)] [] (gE Lx) I L e (kcp (Wp 165) 165 29 0 [(0, .ref 1), (3, .int x3)] 71 [] Q))
    else
     Wp 58 0 [(0, .ref 17), (1, .int x2), (2, .ref 18)] [] (gE Lx) I L e (kcp (Wp 165) 165 29 0 [(0, .ref 1), (3, .int x3)] 71 [] Q))) :
    Wp 165 10 [(0, .ref 1), (2, .int x2), (3, .int x3)] [] (gE Lx) I L e Q := by
  refine w_a f_165_10 ?_
  refine w_a f_165_11 ?_
  refine w_a f_165_14 ?_
  refine w_a (ls := [(0, .ref 17)]) f_54_0 ?_
  refine w_a f_54_1 ?_
  refine w_a f_54_4 ?_
  refine w_a f_54_5 ?_
  refine w_a f_54_8 ?_
  refine i_m (fun h => ?_) (fun h => ?_) h
  · refine w_a f_54_12 ?_
    refine w_a f_54_13 ?_
    refine w_a f_54_16 ?_
    refine w_a f_54_17 ?_
    refine i_m (fun h => ?_) (fun h => ?_) h
    · refine w_a f_54_21 ?_
      refine w_a f_54_22 ?_
      refine w_a f_54_26 ?_
      refine w_a (ls := [(0, .ref 1), (2, .int x2), (3, .int x3)]) f_165_17 ?_
      refine w_a f_165_35 ?_
      exact h
    · refine w_a f_54_25 ?_
      refine w_a f_54_26 ?_
      refine w_a (ls := [(0, .ref 1), (2, .int x2), (3, .int x3)]) f_165_17 ?_
      refine w_a f_165_20 ?_
      refine w_a f_165_21 ?_
      refine w_a f_165_24 ?_
      refine w_a f_165_25 ?_
      refine w_a f_165_26 ?_
      exact w_c (ks := [0, 3]) f_165_29 rfl rfl h
  · refine w_a f_54_25 ?_
    refine w_a f_54_26 ?_
    refine w_a (ls := [(0, .ref 1), (2, .int x2), (3, .int x3)]) f_165_17 ?_
    refine w_a f_165_20 ?_
    refine w_a f_165_21 ?_
    refine w_a f_165_24 ?_
    refine w_a f_165_25 ?_
    refine w_a f_165_26 ?_
    exact w_c (ks := [0, 3]) f_165_29 rfl rfl h
set_option maxRecDepth 10000 in
set_option maxHeartbeats 4000000 in
theorem s_165_32 {Lx : Nat} {I : Mi} {L : Ml} {e : Nat} {Q : Kq} {x3 : Int32} {r : Int32} (h :
    (if r = 0 then
     Q (.inr 102) (gE Lx) I L (e + 1)
    else
     (if x3 = 0 then
      Q (.inl (some (.long (L 18 0)))) (gE Lx) I L e
     else
      Q (.inl (some (.long (L 18 1)))) (gE Lx) I L e))) :
    Wp 165 32 [(0, .ref 1), (3, .int x3)] [.int r] (gE Lx) I L e Q := by
  refine w_a f_165_32 ?_
  refine i_m (fun h => ?_) (fun h => ?_) h
  · refine w_a f_165_35 ?_
    exact h
  · refine w_a f_165_43 ?_
    refine w_a f_165_44 ?_
    refine w_a f_165_47 ?_
    refine w_a f_165_48 ?_
    refine w_a (ls := [(0, .ref 18), (1, .int x3)]) f_31_0 ?_
    refine w_a f_31_1 ?_
    refine i_m (fun h => ?_) (fun h => ?_) h
    · refine w_a f_31_11 ?_
      refine w_a f_31_12 ?_
      refine w_a f_31_15 ?_
      refine w_a (ls := [(0, .ref 1), (3, .int x3)]) f_165_51 ?_
      exact h
    · refine w_a f_31_4 ?_
      refine w_a f_31_5 ?_
      refine w_a f_31_8 ?_
      refine w_a f_31_15 ?_
      refine w_a (ls := [(0, .ref 1), (3, .int x3)]) f_165_51 ?_
      exact h
set_option maxRecDepth 10000 in
set_option maxHeartbeats 4000000 in
theorem s_166_10 {Lx : Nat} {I : Mi} {L : Ml} {e : Nat} {Q : Kq} {x2 : Int32} (h :
    Wp 60 0 [(0, .ref 17), (1, .ref 18)] [] (gE Lx) I L e (kcp (Wp 166) 166 18 0 [(0, .ref 1), (2, .int x2)] 71 [] Q)) :
    Wp 166 10 [(0, .ref 1), (2, .int x2)] [] (gE Lx) I L e Q := by
  refine w_a f_166_10 ?_
  refine w_a f_166_11 ?_
  refine w_a f_166_14 ?_
  refine w_a f_166_15 ?_
  exact w_c (ks := [0, 2]) f_166_18 rfl rfl h
set_option maxRecDepth 10000 in
set_option maxHeartbeats 4000000 in
theorem s_166_21 {Lx : Nat} {I : Mi} {L : Ml} {e : Nat} {Q : Kq} {x2 : Int32} {r : Int32} (h :
    (if r = 0 then
     Q (.inr 102) (gE Lx) I L (e + 1)
    else
     (if x2 = 0 then
      Q (.inl (some (.long (L 18 0)))) (gE Lx) I L e
     else
      Q (.inl (some (.long (L 18 1)))) (gE Lx) I L e))) :
    Wp 166 21 [(0, .ref 1), (2, .int x2)] [.int r] (gE Lx) I L e Q := by
  refine w_a f_166_21 ?_
  refine i_m (fun h => ?_) (fun h => ?_) h
  · refine w_a f_166_24 ?_
    exact h
  · refine w_a f_166_32 ?_
    refine w_a f_166_33 ?_
    refine w_a f_166_36 ?_
    refine w_a f_166_37 ?_
    refine w_a (ls := [(0, .ref 18), (1, .int x2)]) f_31_0 ?_
    refine w_a f_31_1 ?_
    refine i_m (fun h => ?_) (fun h => ?_) h
    · refine w_a f_31_11 ?_
      refine w_a f_31_12 ?_
      refine w_a f_31_15 ?_
      refine w_a (ls := [(0, .ref 1), (2, .int x2)]) f_166_40 ?_
      exact h
    · refine w_a f_31_4 ?_
      refine w_a f_31_5 ?_
      refine w_a f_31_8 ?_
      refine w_a f_31_15 ?_
      refine w_a (ls := [(0, .ref 1), (2, .int x2)]) f_166_40 ?_
      exact h
set_option maxRecDepth 10000 in
set_option maxHeartbeats 4000000 in
theorem s_167_10 {Lx : Nat} {I : Mi} {L : Ml} {e : Nat} {Q : Kq} (h :
    (if (L 17 0) = (L 17 2) then
     (if (L 17 1) = (Int64.ofInt 0) then
      Q (.inr 102) (gE Lx) I L (e + 1)
     else
      (if (Int64.ofInt 0) < (L 17 1) then
       Q (.inl (some (.int (Int32.ofInt 1)))) (gE Lx) I L e
      else
       (if (L 17 1) = (Int64.ofInt 0) then
        (if (L 17 2) < (L 17 0) then
         Q (.inl (some (.int (Int32.ofInt 1)))) (gE Lx) I L e
        else
         Q (.inl (some (.int (Int32.ofInt 0)))) (gE Lx) I L e)
       else
        Q (.inl (some (.int (Int32.ofInt 0)))) (gE Lx) I L e)))
    else
     (if (Int64.ofInt 0) < (L 17 1) then
      Q (.inl (some (.int (Int32.ofInt 1)))) (gE Lx) I L e
     else
      (if (L 17 1) = (Int64.ofInt 0) then
       (if (L 17 2) < (L 17 0) then
        Q (.inl (some (.int (Int32.ofInt 1)))) (gE Lx) I L e
       else
        Q (.inl (some (.int (Int32.ofInt 0)))) (gE Lx) I L e)
      else
       Q (.inl (some (.int (Int32.ofInt 0)))) (gE Lx) I L e)))) :
    Wp 167 10 [(0, .ref 1)] [] (gE Lx) I L e Q := by
  refine w_a f_167_10 ?_
  refine w_a f_167_11 ?_
  refine w_a f_167_14 ?_
  refine w_a (ls := [(0, .ref 17)]) f_54_0 ?_
  refine w_a f_54_1 ?_
  refine w_a f_54_4 ?_
  refine w_a f_54_5 ?_
  refine w_a f_54_8 ?_
  refine i_m (fun h => ?_) (fun h => ?_) h
  · refine w_a f_54_12 ?_
    refine w_a f_54_13 ?_
    refine w_a f_54_16 ?_
    refine w_a f_54_17 ?_
    refine i_m (fun h => ?_) (fun h => ?_) h
    · refine w_a f_54_21 ?_
      refine w_a f_54_22 ?_
      refine w_a f_54_26 ?_
      refine w_a (ls := [(0, .ref 1)]) f_167_17 ?_
      refine w_a f_167_20 ?_
      exact h
    · refine w_a f_54_25 ?_
      refine w_a f_54_26 ?_
      refine w_a (ls := [(0, .ref 1)]) f_167_17 ?_
      refine w_a f_167_28 ?_
      refine w_a f_167_29 ?_
      refine w_a f_167_32 ?_
      refine w_a f_167_35 ?_
      refine w_a f_167_36 ?_
      refine i_m (fun h => ?_) (fun h => ?_) h
      · refine w_a f_167_70 ?_
        refine w_a f_167_71 ?_
        refine w_a f_167_75 ?_
        exact h
      · refine w_a f_167_40 ?_
        refine w_a f_167_41 ?_
        refine w_a f_167_44 ?_
        refine w_a f_167_47 ?_
        refine w_a f_167_48 ?_
        refine i_m (fun h => ?_) (fun h => ?_) h
        · refine w_a f_167_52 ?_
          refine w_a f_167_53 ?_
          refine w_a f_167_56 ?_
          refine w_a f_167_59 ?_
          refine w_a f_167_60 ?_
          refine w_a f_167_63 ?_
          refine w_a f_167_66 ?_
          refine i_m (fun h => ?_) (fun h => ?_) h
          · refine w_a f_167_70 ?_
            refine w_a f_167_71 ?_
            refine w_a f_167_75 ?_
            exact h
          · refine w_a f_167_74 ?_
            refine w_a f_167_75 ?_
            exact h
        · refine w_a f_167_74 ?_
          refine w_a f_167_75 ?_
          exact h
  · refine w_a f_54_25 ?_
    refine w_a f_54_26 ?_
    refine w_a (ls := [(0, .ref 1)]) f_167_17 ?_
    refine w_a f_167_28 ?_
    refine w_a f_167_29 ?_
    refine w_a f_167_32 ?_
    refine w_a f_167_35 ?_
    refine w_a f_167_36 ?_
    refine i_m (fun h => ?_) (fun h => ?_) h
    · refine w_a f_167_70 ?_
      refine w_a f_167_71 ?_
      refine w_a f_167_75 ?_
      exact h
    · refine w_a f_167_40 ?_
      refine w_a f_167_41 ?_
      refine w_a f_167_44 ?_
      refine w_a f_167_47 ?_
      refine w_a f_167_48 ?_
      refine i_m (fun h => ?_) (fun h => ?_) h
      · refine w_a f_167_52 ?_
        refine w_a f_167_53 ?_
        refine w_a f_167_56 ?_
        refine w_a f_167_59 ?_
        refine w_a f_167_60 ?_
        refine w_a f_167_63 ?_
        refine w_a f_167_66 ?_
        refine i_m (fun h => ?_) (fun h => ?_) h
        · refine w_a f_167_70 ?_
          refine w_a f_167_71 ?_
          refine w_a f_167_75 ?_
          exact h
        · refine w_a f_167_74 ?_
          refine w_a f_167_75 ?_
          exact h
      · refine w_a f_167_74 ?_
        refine w_a f_167_75 ?_
        exact h
set_option maxRecDepth 10000 in
set_option maxHeartbeats 4000000 in
theorem s_168_23 {Lx : Nat} {I : Mi} {L : Ml} {e : Nat} {Q : Kq} {x2 : Int32} {x3 : Int32} {r : Int32} (h :
    (if x2 = (Int32.ofInt (-1)) then
     Q (.inl (some (.int r))) (gE Lx) I L e
    else
     (if x2 < 0 then
      Wp 168 52 [(0, .ref 1)] [.int (Int32.ofInt (-1))] (gE Lx) I L e Q
     else
      (if x2 < r then
       (if x3 = Int32.ofInt 0 then
        Wp 69 0 [(0, .ref 2), (1, .int (I 21 4))] [] (gE Lx) I L e (kcp (Wp 174) 174 43 0 [(0, .ref 1)] 71 [] (kcp (Wp 168) 168 49 0 [(0, .ref 1)] 71 [] Q))
       else
       (if x3 = Int32.ofInt 1 then
        Wp 70 0 [(0, .ref 2), (1, .int (I 21 4))] [] (gE Lx) I L e (kcp (Wp 174) 174 58 0 [(0, .ref 1)] 71 [] (kcp (Wp 168) 168 49 0 [(0, .ref 1)] 71 [] Q))
       else
       (if x3 = Int32.ofInt 2 then
        (if (I 21 6) = 0 then
         Wp 168 52 [(0, .ref 1)] [.int (Int32.ofInt 0)] (gE Lx) I L e Q
        else
         Wp 168 52 [(0, .ref 1)] [.int (Int32.ofInt 1)] (gE Lx) I L e Q)
       else
       (if x3 = Int32.ofInt 3 then
        Wp 69 0 [(0, .ref 2), (1, .int (I 21 5))] [] (gE Lx) I L e (kcp (Wp 174) 174 89 0 [(0, .ref 1)] 71 [] (kcp (Wp 168) 168 49 0 [(0, .ref 1)] 71 [] Q))
       else
        Wp 70 0 [(0, .ref 2), (1, .int (I 21 5))] [] (gE Lx) I L e (kcp (Wp 174) 174 104 0 [(0, .ref 1)] 71 [] (kcp (Wp 168) 168 49 0 [(0, .ref 1)] 71 [] Q))))))
      else
       Wp 168 52 [(0, .ref 1)] [.int (Int32.ofInt (-1))] (gE Lx) I L e Q)))) :
    Wp 168 23 [(0, .ref 1), (2, .int x2), (3, .int x3)] [.int r] (gE Lx) I L e Q := by
  refine w_a f_168_23 ?_
  refine w_a (ls := [(4, .int r), (0, .ref 1), (2, .int x2), (3, .int x3)]) f_168_25 ?_
  refine w_a f_168_26 ?_
  refine w_a f_168_27 ?_
  refine i_m (fun h => ?_) (fun h => ?_) h
  · refine w_a f_168_30 ?_
    refine w_a f_168_32 ?_
    exact h
  · refine w_a f_168_33 ?_
    refine w_a f_168_34 ?_
    refine i_m (fun h => ?_) (fun h => ?_) h
    · refine w_a f_168_43 ?_
      refine w_a f_168_44 ?_
      exact w_n (ks := [0]) rfl h
    · refine w_a f_168_37 ?_
      refine w_a f_168_38 ?_
      refine w_a f_168_40 ?_
      refine i_m (fun h => ?_) (fun h => ?_) h
      · refine w_a f_168_47 ?_
        refine w_a f_168_48 ?_
        refine w_c (ks := [0]) f_168_49 rfl rfl ?_
        refine w_a (ls := [(0, .ref 1), (1, .int x3)]) f_174_0 ?_
        refine w_a f_174_1 ?_
        refine i_m (fun h => ?_) (fun h => ?_) h
        · refine w_a f_174_32 ?_
          refine w_a f_174_33 ?_
          refine w_a f_174_36 ?_
          refine w_a f_174_37 ?_
          refine w_a f_174_40 ?_
          exact w_c (ks := [0]) f_174_43 rfl rfl h
        · refine i_m (fun h => ?_) (fun h => ?_) h
          · refine w_a f_174_47 ?_
            refine w_a f_174_48 ?_
            refine w_a f_174_51 ?_
            refine w_a f_174_52 ?_
            refine w_a f_174_55 ?_
            exact w_c (ks := [0]) f_174_58 rfl rfl h
          · refine i_m (fun h => ?_) (fun h => ?_) h
            · refine w_a f_174_62 ?_
              refine w_a f_174_63 ?_
              refine w_a f_174_66 ?_
              refine w_a f_174_69 ?_
              refine i_m (fun h => ?_) (fun h => ?_) h
              · refine w_a f_174_76 ?_
                refine w_a f_174_77 ?_
                exact h
              · refine w_a f_174_72 ?_
                refine w_a f_174_73 ?_
                refine w_a f_174_77 ?_
                exact h
            · refine i_m (fun h => ?_) (fun h => ?_) h
              · refine w_a f_174_78 ?_
                refine w_a f_174_79 ?_
                refine w_a f_174_82 ?_
                refine w_a f_174_83 ?_
                refine w_a f_174_86 ?_
                exact w_c (ks := [0]) f_174_89 rfl rfl h
              · refine w_a f_174_93 ?_
                refine w_a f_174_94 ?_
                refine w_a f_174_97 ?_
                refine w_a f_174_98 ?_
                refine w_a f_174_101 ?_
                exact w_c (ks := [0]) f_174_104 rfl rfl h
      · refine w_a f_168_43 ?_
        refine w_a f_168_44 ?_
        exact w_n (ks := [0]) rfl h
set_option maxRecDepth 10000 in
set_option maxHeartbeats 4000000 in
theorem s_168_52 {Lx : Nat} {I : Mi} {L : Ml} {e : Nat} {Q : Kq} {r : Int32} (h :
    Q (.inl (some (.int r))) (gE Lx) I L e) :
    Wp 168 52 [(0, .ref 1)] [.int r] (gE Lx) I L e Q := by
  refine w_a f_168_52 ?_
  exact h
set_option maxRecDepth 10000 in
set_option maxHeartbeats 4000000 in
theorem s_171_0 {Lx : Nat} {I : Mi} {L : Ml} {e : Nat} {Q : Kq} {x1 : Int32} {x2 : Int32} (h :
    Wp 106 0 [(0, .ref 5), (1, .int (I 5 3)), (2, .ref 15)] [] (gE Lx) I L e (kcp (Wp 171) 171 17 0 [(0, .ref 1), (1, .int x1), (2, .int x2), (3, .int (Int32.ofInt 0))] 71 [] Q)) :
    Wp 171 0 [(0, .ref 1), (1, .int x1), (2, .int x2)] [] (gE Lx) I L e Q := by
  refine w_a f_171_0 ?_
  refine w_a f_171_1 ?_
  refine w_a (ls := [(3, .int (Int32.ofInt 0)), (0, .ref 1), (1, .int x1), (2, .int x2)]) f_171_2 ?_
  refine w_a f_171_3 ?_
  refine w_a f_171_6 ?_
  refine w_a f_171_7 ?_
  refine w_a f_171_10 ?_
  refine w_a f_171_13 ?_
  refine w_a f_171_14 ?_
  exact w_c (ks := [0, 1, 2, 3]) f_171_17 rfl rfl h
