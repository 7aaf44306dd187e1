/-! Pieces of methods, by program out of the tables: 39 to 72. -/
theorem f_39_0 : ftc (PT 39) 0 = some (0, .aload_n 0, 1, 0, 0, 0) := by decide +kernel
theorem f_39_1 : ftc (PT 39) 1 = some (1, .iload_n 2, 1, 0, 0, 0) := by decide +kernel
theorem f_39_2 : ftc (PT 39) 2 = some (2, .putfield 19, 3, 5, 2, 317) := by decide +kernel
theorem f_39_5 : ftc (PT 39) 5 = some (5, .aload_n 0, 1, 0, 0, 0) := by decide +kernel
theorem f_39_6 : ftc (PT 39) 6 = some (6, .aload_n 1, 1, 0, 0, 0) := by decide +kernel
theorem f_39_7 : ftc (PT 39) 7 = some (7, .getfield 44, 3, 6, 0, 272) := by decide +kernel
theorem f_39_10 : ftc (PT 39) 10 = some (10, .lconst 0, 1, 0, 0, 0) := by decide +kernel
theorem f_39_11 : ftc (PT 39) 11 = some (11, .lcmp, 1, 0, 0, 0) := by decide +kernel
theorem f_39_12 : ftc (PT 39) 12 = some (12, .ifCond .eq 10, 3, 22, 0, 0) := by decide +kernel
theorem f_39_15 : ftc (PT 39) 15 = some (15, .aload_n 1, 1, 0, 0, 0) := by decide +kernel
theorem f_39_16 : ftc (PT 39) 16 = some (16, .invokevirtual 49, 3, 54, 1030, 1088) := by decide +kernel
theorem f_39_19 : ftc (PT 39) 19 = some (19, .ifCond .eq 7, 3, 26, 0, 0) := by decide +kernel
theorem f_39_22 : ftc (PT 39) 22 = some (22, .iconst 0, 1, 0, 0, 0) := by decide +kernel
theorem f_39_23 : ftc (PT 39) 23 = some (23, .goto 4, 3, 27, 0, 0) := by decide +kernel
theorem f_39_26 : ftc (PT 39) 26 = some (26, .iconst 2, 1, 0, 0, 0) := by decide +kernel
theorem f_39_27 : ftc (PT 39) 27 = some (27, .putfield 9, 3, 5, 0, 313) := by decide +kernel
theorem f_39_30 : ftc (PT 39) 30 = some (30, .aload_n 0, 1, 0, 0, 0) := by decide +kernel
theorem f_39_31 : ftc (PT 39) 31 = some (31, .aload_n 1, 1, 0, 0, 0) := by decide +kernel
theorem f_39_32 : ftc (PT 39) 32 = some (32, .getfield 44, 3, 6, 0, 272) := by decide +kernel
theorem f_39_35 : ftc (PT 39) 35 = some (35, .aload_n 1, 1, 0, 0, 0) := by decide +kernel
theorem f_39_36 : ftc (PT 39) 36 = some (36, .getfield 53, 3, 6, 2, 281) := by decide +kernel
theorem f_39_39 : ftc (PT 39) 39 = some (39, .lmul, 1, 0, 0, 0) := by decide +kernel
theorem f_39_40 : ftc (PT 39) 40 = some (40, .putfield 41, 3, 5, 9, 324) := by decide +kernel
theorem f_39_43 : ftc (PT 39) 43 = some (43, .aload_n 0, 1, 0, 0, 0) := by decide +kernel
theorem f_39_44 : ftc (PT 39) 44 = some (44, .aload_n 1, 1, 0, 0, 0) := by decide +kernel
theorem f_39_45 : ftc (PT 39) 45 = some (45, .getfield 56, 3, 6, 1, 276) := by decide +kernel
theorem f_39_48 : ftc (PT 39) 48 = some (48, .aload_n 1, 1, 0, 0, 0) := by decide +kernel
theorem f_39_49 : ftc (PT 39) 49 = some (49, .getfield 53, 3, 6, 2, 281) := by decide +kernel
theorem f_39_52 : ftc (PT 39) 52 = some (52, .lmul, 1, 0, 0, 0) := by decide +kernel
theorem f_39_53 : ftc (PT 39) 53 = some (53, .putfield 29, 3, 5, 5, 320) := by decide +kernel
theorem f_39_56 : ftc (PT 39) 56 = some (56, .aload_n 0, 1, 0, 0, 0) := by decide +kernel
theorem f_39_57 : ftc (PT 39) 57 = some (57, .aload_n 0, 1, 0, 0, 0) := by decide +kernel
theorem f_39_58 : ftc (PT 39) 58 = some (58, .getfield 19, 3, 5, 2, 317) := by decide +kernel
theorem f_39_61 : ftc (PT 39) 61 = some (61, .ifCond .eq 15, 3, 76, 0, 0) := by decide +kernel
theorem f_39_64 : ftc (PT 39) 64 = some (64, .aload_n 1, 1, 0, 0, 0) := by decide +kernel
theorem f_39_65 : ftc (PT 39) 65 = some (65, .invokevirtual 59, 3, 55, 1030, 1092) := by decide +kernel
theorem f_39_68 : ftc (PT 39) 68 = some (68, .aload_n 0, 1, 0, 0, 0) := by decide +kernel
theorem f_39_69 : ftc (PT 39) 69 = some (69, .getfield 41, 3, 5, 9, 324) := by decide +kernel
theorem f_39_72 : ftc (PT 39) 72 = some (72, .lsub, 1, 0, 0, 0) := by decide +kernel
theorem f_39_73 : ftc (PT 39) 73 = some (73, .goto 17, 3, 90, 0, 0) := by decide +kernel
theorem f_39_76 : ftc (PT 39) 76 = some (76, .aload_n 0, 1, 0, 0, 0) := by decide +kernel
theorem f_39_77 : ftc (PT 39) 77 = some (77, .getfield 41, 3, 5, 9, 324) := by decide +kernel
theorem f_39_80 : ftc (PT 39) 80 = some (80, .aload_n 1, 1, 0, 0, 0) := by decide +kernel
theorem f_39_81 : ftc (PT 39) 81 = some (81, .getfield 53, 3, 6, 2, 281) := by decide +kernel
theorem f_39_84 : ftc (PT 39) 84 = some (84, .aload_n 1, 1, 0, 0, 0) := by decide +kernel
theorem f_39_85 : ftc (PT 39) 85 = some (85, .getfield 53, 3, 6, 2, 281) := by decide +kernel
theorem f_39_88 : ftc (PT 39) 88 = some (88, .lmul, 1, 0, 0, 0) := by decide +kernel
theorem f_39_89 : ftc (PT 39) 89 = some (89, .lsub, 1, 0, 0, 0) := by decide +kernel
theorem f_39_90 : ftc (PT 39) 90 = some (90, .putfield 25, 3, 5, 4, 319) := by decide +kernel
theorem f_39_93 : ftc (PT 39) 93 = some (93, .aload_n 0, 1, 0, 0, 0) := by decide +kernel
theorem f_39_94 : ftc (PT 39) 94 = some (94, .aload_n 0, 1, 0, 0, 0) := by decide +kernel
theorem f_39_95 : ftc (PT 39) 95 = some (95, .getfield 19, 3, 5, 2, 317) := by decide +kernel
theorem f_39_98 : ftc (PT 39) 98 = some (98, .ifCond .eq 20, 3, 118, 0, 0) := by decide +kernel
theorem f_39_101 : ftc (PT 39) 101 = some (101, .aload_n 1, 1, 0, 0, 0) := by decide +kernel
theorem f_39_102 : ftc (PT 39) 102 = some (102, .getfield 53, 3, 6, 2, 281) := by decide +kernel
theorem f_39_105 : ftc (PT 39) 105 = some (105, .aload_n 1, 1, 0, 0, 0) := by decide +kernel
theorem f_39_106 : ftc (PT 39) 106 = some (106, .getfield 53, 3, 6, 2, 281) := by decide +kernel
theorem f_39_109 : ftc (PT 39) 109 = some (109, .lmul, 1, 0, 0, 0) := by decide +kernel
theorem f_39_110 : ftc (PT 39) 110 = some (110, .aload_n 0, 1, 0, 0, 0) := by decide +kernel
theorem f_39_111 : ftc (PT 39) 111 = some (111, .getfield 41, 3, 5, 9, 324) := by decide +kernel
theorem f_39_114 : ftc (PT 39) 114 = some (114, .lsub, 1, 0, 0, 0) := by decide +kernel
theorem f_39_115 : ftc (PT 39) 115 = some (115, .goto 12, 3, 127, 0, 0) := by decide +kernel
theorem f_39_118 : ftc (PT 39) 118 = some (118, .aload_n 0, 1, 0, 0, 0) := by decide +kernel
theorem f_39_119 : ftc (PT 39) 119 = some (119, .getfield 41, 3, 5, 9, 324) := by decide +kernel
theorem f_39_122 : ftc (PT 39) 122 = some (122, .aload_n 1, 1, 0, 0, 0) := by decide +kernel
theorem f_39_123 : ftc (PT 39) 123 = some (123, .invokevirtual 59, 3, 55, 1030, 1092) := by decide +kernel
theorem f_39_126 : ftc (PT 39) 126 = some (126, .lsub, 1, 0, 0, 0) := by decide +kernel
theorem f_39_127 : ftc (PT 39) 127 = some (127, .putfield 32, 3, 5, 6, 321) := by decide +kernel
theorem f_39_130 : ftc (PT 39) 130 = some (130, .aload_n 0, 1, 0, 0, 0) := by decide +kernel
theorem f_39_131 : ftc (PT 39) 131 = some (131, .aload_n 0, 1, 0, 0, 0) := by decide +kernel
theorem f_39_132 : ftc (PT 39) 132 = some (132, .getfield 29, 3, 5, 5, 320) := by decide +kernel
theorem f_39_135 : ftc (PT 39) 135 = some (135, .aload_n 0, 1, 0, 0, 0) := by decide +kernel
theorem f_39_136 : ftc (PT 39) 136 = some (136, .getfield 29, 3, 5, 5, 320) := by decide +kernel
theorem f_39_139 : ftc (PT 39) 139 = some (139, .lmul, 1, 0, 0, 0) := by decide +kernel
theorem f_39_140 : ftc (PT 39) 140 = some (140, .aload_n 0, 1, 0, 0, 0) := by decide +kernel
theorem f_39_141 : ftc (PT 39) 141 = some (141, .getfield 25, 3, 5, 4, 319) := by decide +kernel
theorem f_39_144 : ftc (PT 39) 144 = some (144, .aload_n 0, 1, 0, 0, 0) := by decide +kernel
theorem f_39_145 : ftc (PT 39) 145 = some (145, .getfield 32, 3, 5, 6, 321) := by decide +kernel
theorem f_39_148 : ftc (PT 39) 148 = some (148, .lmul, 1, 0, 0, 0) := by decide +kernel
theorem f_39_149 : ftc (PT 39) 149 = some (149, .lsub, 1, 0, 0, 0) := by decide +kernel
theorem f_39_150 : ftc (PT 39) 150 = some (150, .putfield 35, 3, 5, 7, 322) := by decide +kernel
theorem f_39_153 : ftc (PT 39) 153 = some (153, .aload_n 0, 1, 0, 0, 0) := by decide +kernel
theorem f_39_154 : ftc (PT 39) 154 = some (154, .aload_n 0, 1, 0, 0, 0) := by decide +kernel
theorem f_39_155 : ftc (PT 39) 155 = some (155, .getfield 35, 3, 5, 7, 322) := by decide +kernel
theorem f_39_158 : ftc (PT 39) 158 = some (158, .invokestatic 63, 3, 32, 7169, 1096) := by decide +kernel
theorem f_39_161 : ftc (PT 39) 161 = some (161, .putfield 38, 3, 5, 8, 323) := by decide +kernel
theorem f_39_164 : ftc (PT 39) 164 = some (164, .aload_n 0, 1, 0, 0, 0) := by decide +kernel
theorem f_39_165 : ftc (PT 39) 165 = some (165, .aload_n 0, 1, 0, 0, 0) := by decide +kernel
theorem f_39_166 : ftc (PT 39) 166 = some (166, .getfield 38, 3, 5, 8, 323) := by decide +kernel
theorem f_39_169 : ftc (PT 39) 169 = some (169, .aload_n 0, 1, 0, 0, 0) := by decide +kernel
theorem f_39_170 : ftc (PT 39) 170 = some (170, .getfield 38, 3, 5, 8, 323) := by decide +kernel
theorem f_39_173 : ftc (PT 39) 173 = some (173, .lmul, 1, 0, 0, 0) := by decide +kernel
theorem f_39_174 : ftc (PT 39) 174 = some (174, .aload_n 0, 1, 0, 0, 0) := by decide +kernel
theorem f_39_175 : ftc (PT 39) 175 = some (175, .getfield 35, 3, 5, 7, 322) := by decide +kernel
theorem f_39_178 : ftc (PT 39) 178 = some (178, .lcmp, 1, 0, 0, 0) := by decide +kernel
theorem f_39_179 : ftc (PT 39) 179 = some (179, .ifCond .ne 7, 3, 186, 0, 0) := by decide +kernel
theorem f_39_182 : ftc (PT 39) 182 = some (182, .iconst 1, 1, 0, 0, 0) := by decide +kernel
theorem f_39_183 : ftc (PT 39) 183 = some (183, .goto 4, 3, 187, 0, 0) := by decide +kernel
theorem f_39_186 : ftc (PT 39) 186 = some (186, .iconst 0, 1, 0, 0, 0) := by decide +kernel
theorem f_39_187 : ftc (PT 39) 187 = some (187, .putfield 15, 3, 5, 1, 315) := by decide +kernel
theorem f_39_190 : ftc (PT 39) 190 = some (190, .aload_n 0, 1, 0, 0, 0) := by decide +kernel
theorem f_39_191 : ftc (PT 39) 191 = some (191, .aload_n 0, 1, 0, 0, 0) := by decide +kernel
theorem f_39_192 : ftc (PT 39) 192 = some (192, .invokevirtual 69, 3, 40, 3077, 1097) := by decide +kernel
theorem f_39_195 : ftc (PT 39) 195 = some (195, .putfield 22, 3, 5, 3, 318) := by decide +kernel
theorem f_39_198 : ftc (PT 39) 198 = some (198, .return_, 1, 0, 0, 0) := by decide +kernel
theorem f_40_0 : ftc (PT 40) 0 = some (0, .aload_n 0, 1, 0, 0, 0) := by decide +kernel
theorem f_40_1 : ftc (PT 40) 1 = some (1, .iconst 1, 1, 0, 0, 0) := by decide +kernel
theorem f_40_2 : ftc (PT 40) 2 = some (2, .invokevirtual 72, 3, 41, 2085, 1101) := by decide +kernel
theorem f_40_5 : ftc (PT 40) 5 = some (5, .istore_n 1, 1, 0, 0, 0) := by decide +kernel
theorem f_40_6 : ftc (PT 40) 6 = some (6, .aload_n 0, 1, 0, 0, 0) := by decide +kernel
theorem f_40_7 : ftc (PT 40) 7 = some (7, .iconst (-1), 1, 0, 0, 0) := by decide +kernel
theorem f_40_8 : ftc (PT 40) 8 = some (8, .invokevirtual 72, 3, 41, 2085, 1101) := by decide +kernel
theorem f_40_11 : ftc (PT 40) 11 = some (11, .istore_n 2, 1, 0, 0, 0) := by decide +kernel
theorem f_40_12 : ftc (PT 40) 12 = some (12, .iload_n 1, 1, 0, 0, 0) := by decide +kernel
theorem f_40_13 : ftc (PT 40) 13 = some (13, .iload_n 2, 1, 0, 0, 0) := by decide +kernel
theorem f_40_14 : ftc (PT 40) 14 = some (14, .if_icmp .eq 16, 3, 30, 0, 0) := by decide +kernel
theorem f_40_17 : ftc (PT 40) 17 = some (17, .iload_n 1, 1, 0, 0, 0) := by decide +kernel
theorem f_40_18 : ftc (PT 40) 18 = some (18, .iload_n 2, 1, 0, 0, 0) := by decide +kernel
theorem f_40_19 : ftc (PT 40) 19 = some (19, .if_icmp .ge 7, 3, 26, 0, 0) := by decide +kernel
theorem f_40_22 : ftc (PT 40) 22 = some (22, .iconst 1, 1, 0, 0, 0) := by decide +kernel
theorem f_40_23 : ftc (PT 40) 23 = some (23, .goto 21, 3, 44, 0, 0) := by decide +kernel
theorem f_40_26 : ftc (PT 40) 26 = some (26, .iconst 0, 1, 0, 0, 0) := by decide +kernel
theorem f_40_27 : ftc (PT 40) 27 = some (27, .goto 17, 3, 44, 0, 0) := by decide +kernel
theorem f_40_30 : ftc (PT 40) 30 = some (30, .aload_n 0, 1, 0, 0, 0) := by decide +kernel
theorem f_40_31 : ftc (PT 40) 31 = some (31, .getfield 25, 3, 5, 4, 319) := by decide +kernel
theorem f_40_34 : ftc (PT 40) 34 = some (34, .lconst 0, 1, 0, 0, 0) := by decide +kernel
theorem f_40_35 : ftc (PT 40) 35 = some (35, .lcmp, 1, 0, 0, 0) := by decide +kernel
theorem f_40_36 : ftc (PT 40) 36 = some (36, .ifCond .ge 7, 3, 43, 0, 0) := by decide +kernel
theorem f_40_39 : ftc (PT 40) 39 = some (39, .iconst 1, 1, 0, 0, 0) := by decide +kernel
theorem f_40_40 : ftc (PT 40) 40 = some (40, .goto 4, 3, 44, 0, 0) := by decide +kernel
theorem f_40_43 : ftc (PT 40) 43 = some (43, .iconst 0, 1, 0, 0, 0) := by decide +kernel
theorem f_40_44 : ftc (PT 40) 44 = some (44, .ireturn, 1, 1, 0, 0) := by decide +kernel
theorem f_41_0 : ftc (PT 41) 0 = some (0, .aload_n 0, 1, 0, 0, 0) := by decide +kernel
theorem f_41_1 : ftc (PT 41) 1 = some (1, .iload_n 1, 1, 0, 0, 0) := by decide +kernel
theorem f_41_2 : ftc (PT 41) 2 = some (2, .invokevirtual 76, 3, 42, 2085, 1105) := by decide +kernel
theorem f_41_5 : ftc (PT 41) 5 = some (5, .ifCond .eq 5, 3, 10, 0, 0) := by decide +kernel
theorem f_41_8 : ftc (PT 41) 8 = some (8, .iconst 1, 1, 0, 0, 0) := by decide +kernel
theorem f_41_9 : ftc (PT 41) 9 = some (9, .ireturn, 1, 0, 0, 0) := by decide +kernel
theorem f_41_10 : ftc (PT 41) 10 = some (10, .aload_n 0, 1, 0, 0, 0) := by decide +kernel
theorem f_41_11 : ftc (PT 41) 11 = some (11, .getfield 25, 3, 5, 4, 319) := by decide +kernel
theorem f_41_14 : ftc (PT 41) 14 = some (14, .lconst 0, 1, 0, 0, 0) := by decide +kernel
theorem f_41_15 : ftc (PT 41) 15 = some (15, .lcmp, 1, 0, 0, 0) := by decide +kernel
theorem f_41_16 : ftc (PT 41) 16 = some (16, .ifCond .ne 29, 3, 45, 0, 0) := by decide +kernel
theorem f_41_19 : ftc (PT 41) 19 = some (19, .aload_n 0, 1, 0, 0, 0) := by decide +kernel
theorem f_41_20 : ftc (PT 41) 20 = some (20, .getfield 32, 3, 5, 6, 321) := by decide +kernel
theorem f_41_23 : ftc (PT 41) 23 = some (23, .lconst 0, 1, 0, 0, 0) := by decide +kernel
theorem f_41_24 : ftc (PT 41) 24 = some (24, .invokestatic 80, 3, 418, 4098, 1109) := by decide +kernel
theorem f_41_27 : ftc (PT 41) 27 = some (27, .aload_n 0, 1, 0, 0, 0) := by decide +kernel
theorem f_41_28 : ftc (PT 41) 28 = some (28, .getfield 29, 3, 5, 5, 320) := by decide +kernel
theorem f_41_31 : ftc (PT 41) 31 = some (31, .lconst 0, 1, 0, 0, 0) := by decide +kernel
theorem f_41_32 : ftc (PT 41) 32 = some (32, .invokestatic 80, 3, 418, 4098, 1109) := by decide +kernel
theorem f_41_35 : ftc (PT 41) 35 = some (35, .imul, 1, 0, 0, 0) := by decide +kernel
theorem f_41_36 : ftc (PT 41) 36 = some (36, .ifCond .lt 7, 3, 43, 0, 0) := by decide +kernel
theorem f_41_39 : ftc (PT 41) 39 = some (39, .iconst 0, 1, 0, 0, 0) := by decide +kernel
theorem f_41_40 : ftc (PT 41) 40 = some (40, .goto 4, 3, 44, 0, 0) := by decide +kernel
theorem f_41_43 : ftc (PT 41) 43 = some (43, .iconst 2, 1, 0, 0, 0) := by decide +kernel
theorem f_41_44 : ftc (PT 41) 44 = some (44, .ireturn, 1, 0, 0, 0) := by decide +kernel
theorem f_41_45 : ftc (PT 41) 45 = some (45, .aload_n 0, 1, 0, 0, 0) := by decide +kernel
theorem f_41_46 : ftc (PT 41) 46 = some (46, .iload_n 1, 1, 0, 0, 0) := by decide +kernel
theorem f_41_47 : ftc (PT 41) 47 = some (47, .invokevirtual 86, 3, 43, 4133, 1110) := by decide +kernel
theorem f_41_50 : ftc (PT 41) 50 = some (50, .aload_n 0, 1, 0, 0, 0) := by decide +kernel
theorem f_41_51 : ftc (PT 41) 51 = some (51, .getfield 25, 3, 5, 4, 319) := by decide +kernel
theorem f_41_54 : ftc (PT 41) 54 = some (54, .lconst 0, 1, 0, 0, 0) := by decide +kernel
theorem f_41_55 : ftc (PT 41) 55 = some (55, .invokestatic 80, 3, 418, 4098, 1109) := by decide +kernel
theorem f_41_58 : ftc (PT 41) 58 = some (58, .imul, 1, 0, 0, 0) := by decide +kernel
theorem f_41_59 : ftc (PT 41) 59 = some (59, .ifCond .lt 7, 3, 66, 0, 0) := by decide +kernel
theorem f_41_62 : ftc (PT 41) 62 = some (62, .iconst 0, 1, 0, 0, 0) := by decide +kernel
theorem f_41_63 : ftc (PT 41) 63 = some (63, .goto 4, 3, 67, 0, 0) := by decide +kernel
theorem f_41_66 : ftc (PT 41) 66 = some (66, .iconst 2, 1, 0, 0, 0) := by decide +kernel
theorem f_41_67 : ftc (PT 41) 67 = some (67, .ireturn, 1, 0, 0, 0) := by decide +kernel
theorem f_42_0 : ftc (PT 42) 0 = some (0, .aload_n 0, 1, 0, 0, 0) := by decide +kernel
theorem f_42_1 : ftc (PT 42) 1 = some (1, .getfield 25, 3, 5, 4, 319) := by decide +kernel
theorem f_42_4 : ftc (PT 42) 4 = some (4, .lconst 0, 1, 0, 0, 0) := by decide +kernel
theorem f_42_5 : ftc (PT 42) 5 = some (5, .lcmp, 1, 0, 0, 0) := by decide +kernel
theorem f_42_6 : ftc (PT 42) 6 = some (6, .ifCond .ne 19, 3, 25, 0, 0) := by decide +kernel
theorem f_42_9 : ftc (PT 42) 9 = some (9, .aload_n 0, 1, 0, 0, 0) := by decide +kernel
theorem f_42_10 : ftc (PT 42) 10 = some (10, .getfield 29, 3, 5, 5, 320) := by decide +kernel
theorem f_42_13 : ftc (PT 42) 13 = some (13, .iload_n 1, 1, 0, 0, 0) := by decide +kernel
theorem f_42_14 : ftc (PT 42) 14 = some (14, .i2l, 1, 0, 0, 0) := by decide +kernel
theorem f_42_15 : ftc (PT 42) 15 = some (15, .lmul, 1, 0, 0, 0) := by decide +kernel
theorem f_42_16 : ftc (PT 42) 16 = some (16, .lconst 0, 1, 0, 0, 0) := by decide +kernel
theorem f_42_17 : ftc (PT 42) 17 = some (17, .lcmp, 1, 0, 0, 0) := by decide +kernel
theorem f_42_18 : ftc (PT 42) 18 = some (18, .ifCond .le 7, 3, 25, 0, 0) := by decide +kernel
theorem f_42_21 : ftc (PT 42) 21 = some (21, .iconst 1, 1, 0, 0, 0) := by decide +kernel
theorem f_42_22 : ftc (PT 42) 22 = some (22, .goto 4, 3, 26, 0, 0) := by decide +kernel
theorem f_42_25 : ftc (PT 42) 25 = some (25, .iconst 0, 1, 0, 0, 0) := by decide +kernel
theorem f_42_26 : ftc (PT 42) 26 = some (26, .ireturn, 1, 1, 0, 0) := by decide +kernel
theorem f_43_0 : ftc (PT 43) 0 = some (0, .aload_n 0, 1, 0, 0, 0) := by decide +kernel
theorem f_43_1 : ftc (PT 43) 1 = some (1, .getfield 29, 3, 5, 5, 320) := by decide +kernel
theorem f_43_4 : ftc (PT 43) 4 = some (4, .iload_n 1, 1, 0, 0, 0) := by decide +kernel
theorem f_43_5 : ftc (PT 43) 5 = some (5, .i2l, 1, 0, 0, 0) := by decide +kernel
theorem f_43_6 : ftc (PT 43) 6 = some (6, .lmul, 1, 0, 0, 0) := by decide +kernel
theorem f_43_7 : ftc (PT 43) 7 = some (7, .lstore_n 2, 1, 0, 0, 0) := by decide +kernel
theorem f_43_8 : ftc (PT 43) 8 = some (8, .lload_n 2, 1, 0, 0, 0) := by decide +kernel
theorem f_43_9 : ftc (PT 43) 9 = some (9, .lconst 0, 1, 0, 0, 0) := by decide +kernel
theorem f_43_10 : ftc (PT 43) 10 = some (10, .lcmp, 1, 0, 0, 0) := by decide +kernel
theorem f_43_11 : ftc (PT 43) 11 = some (11, .ifCond .lt 5, 3, 16, 0, 0) := by decide +kernel
theorem f_43_14 : ftc (PT 43) 14 = some (14, .iload_n 1, 1, 0, 0, 0) := by decide +kernel
theorem f_43_15 : ftc (PT 43) 15 = some (15, .ireturn, 1, 0, 0, 0) := by decide +kernel
theorem f_43_16 : ftc (PT 43) 16 = some (16, .iload_n 1, 1, 0, 0, 0) := by decide +kernel
theorem f_43_17 : ftc (PT 43) 17 = some (17, .aload_n 0, 1, 0, 0, 0) := by decide +kernel
theorem f_43_18 : ftc (PT 43) 18 = some (18, .getfield 35, 3, 5, 7, 322) := by decide +kernel
theorem f_43_21 : ftc (PT 43) 21 = some (21, .aload_n 0, 1, 0, 0, 0) := by decide +kernel
theorem f_43_22 : ftc (PT 43) 22 = some (22, .getfield 29, 3, 5, 5, 320) := by decide +kernel
theorem f_43_25 : ftc (PT 43) 25 = some (25, .aload_n 0, 1, 0, 0, 0) := by decide +kernel
theorem f_43_26 : ftc (PT 43) 26 = some (26, .getfield 29, 3, 5, 5, 320) := by decide +kernel
theorem f_43_29 : ftc (PT 43) 29 = some (29, .lmul, 1, 0, 0, 0) := by decide +kernel
theorem f_43_30 : ftc (PT 43) 30 = some (30, .invokestatic 80, 3, 418, 4098, 1109) := by decide +kernel
theorem f_43_33 : ftc (PT 43) 33 = some (33, .imul, 1, 0, 0, 0) := by decide +kernel
theorem f_43_34 : ftc (PT 43) 34 = some (34, .ireturn, 1, 0, 0, 0) := by decide +kernel
theorem f_44_5 : ftc (PT 44) 5 = some (5, .istore_n 3, 1, 0, 0, 0) := by decide +kernel
theorem f_44_6 : ftc (PT 44) 6 = some (6, .aload_n 0, 1, 0, 0, 0) := by decide +kernel
theorem f_44_7 : ftc (PT 44) 7 = some (7, .iload_n 3, 1, 0, 0, 0) := by decide +kernel
theorem f_44_8 : ftc (PT 44) 8 = some (8, .invokevirtual 76, 3, 42, 2085, 1105) := by decide +kernel
theorem f_44_11 : ftc (PT 44) 11 = some (11, .ifCond .eq 12, 3, 23, 0, 0) := by decide +kernel
theorem f_44_14 : ftc (PT 44) 14 = some (14, .aload_n 2, 1, 0, 0, 0) := by decide +kernel
theorem f_44_15 : ftc (PT 44) 15 = some (15, .lconst 1, 1, 0, 0, 0) := by decide +kernel
theorem f_44_16 : ftc (PT 44) 16 = some (16, .lconst 0, 1, 0, 0, 0) := by decide +kernel
theorem f_44_17 : ftc (PT 44) 17 = some (17, .invokevirtual 92, 3, 25, 9283, 1144) := by decide +kernel
theorem f_44_20 : ftc (PT 44) 20 = some (20, .goto 51, 3, 71, 0, 0) := by decide +kernel
theorem f_44_23 : ftc (PT 44) 23 = some (23, .aload_n 0, 1, 0, 0, 0) := by decide +kernel
theorem f_44_24 : ftc (PT 44) 24 = some (24, .getfield 25, 3, 5, 4, 319) := by decide +kernel
theorem f_44_27 : ftc (PT 44) 27 = some (27, .lconst 0, 1, 0, 0, 0) := by decide +kernel
theorem f_44_28 : ftc (PT 44) 28 = some (28, .lcmp, 1, 0, 0, 0) := by decide +kernel
theorem f_44_29 : ftc (PT 44) 29 = some (29, .ifCond .ne 22, 3, 51, 0, 0) := by decide +kernel
theorem f_44_32 : ftc (PT 44) 32 = some (32, .aload_n 2, 1, 0, 0, 0) := by decide +kernel
theorem f_44_33 : ftc (PT 44) 33 = some (33, .aload_n 0, 1, 0, 0, 0) := by decide +kernel
theorem f_44_34 : ftc (PT 44) 34 = some (34, .getfield 32, 3, 5, 6, 321) := by decide +kernel
theorem f_44_37 : ftc (PT 44) 37 = some (37, .ldc2_w 96, 3, 1145, 0, 2) := by decide +kernel
theorem f_44_40 : ftc (PT 44) 40 = some (40, .aload_n 0, 1, 0, 0, 0) := by decide +kernel
theorem f_44_41 : ftc (PT 44) 41 = some (41, .getfield 29, 3, 5, 5, 320) := by decide +kernel
theorem f_44_44 : ftc (PT 44) 44 = some (44, .lmul, 1, 0, 0, 0) := by decide +kernel
theorem f_44_45 : ftc (PT 44) 45 = some (45, .invokevirtual 92, 3, 25, 9283, 1144) := by decide +kernel
theorem f_44_48 : ftc (PT 44) 48 = some (48, .goto 23, 3, 71, 0, 0) := by decide +kernel
theorem f_44_51 : ftc (PT 44) 51 = some (51, .aload_n 2, 1, 0, 0, 0) := by decide +kernel
theorem f_44_52 : ftc (PT 44) 52 = some (52, .aload_n 0, 1, 0, 0, 0) := by decide +kernel
theorem f_44_53 : ftc (PT 44) 53 = some (53, .getfield 29, 3, 5, 5, 320) := by decide +kernel
theorem f_44_56 : ftc (PT 44) 56 = some (56, .iload_n 3, 1, 0, 0, 0) := by decide +kernel
theorem f_44_57 : ftc (PT 44) 57 = some (57, .i2l, 1, 0, 0, 0) := by decide +kernel
theorem f_44_58 : ftc (PT 44) 58 = some (58, .aload_n 0, 1, 0, 0, 0) := by decide +kernel
theorem f_44_59 : ftc (PT 44) 59 = some (59, .getfield 38, 3, 5, 8, 323) := by decide +kernel
theorem f_44_62 : ftc (PT 44) 62 = some (62, .lmul, 1, 0, 0, 0) := by decide +kernel
theorem f_44_63 : ftc (PT 44) 63 = some (63, .ladd, 1, 0, 0, 0) := by decide +kernel
theorem f_44_64 : ftc (PT 44) 64 = some (64, .aload_n 0, 1, 0, 0, 0) := by decide +kernel
theorem f_44_65 : ftc (PT 44) 65 = some (65, .getfield 25, 3, 5, 4, 319) := by decide +kernel
theorem f_44_68 : ftc (PT 44) 68 = some (68, .invokevirtual 92, 3, 25, 9283, 1144) := by decide +kernel
theorem f_44_71 : ftc (PT 44) 71 = some (71, .return_, 1, 0, 0, 0) := by decide +kernel
theorem f_45_0 : ftc (PT 45) 0 = some (0, .iload_n 1, 1, 0, 0, 0) := by decide +kernel
theorem f_45_1 : ftc (PT 45) 1 = some (1, .ifCond .ne 7, 3, 8, 0, 0) := by decide +kernel
theorem f_45_4 : ftc (PT 45) 4 = some (4, .iconst 1, 1, 0, 0, 0) := by decide +kernel
theorem f_45_5 : ftc (PT 45) 5 = some (5, .goto 4, 3, 9, 0, 0) := by decide +kernel
theorem f_45_8 : ftc (PT 45) 8 = some (8, .iconst 0, 1, 0, 0, 0) := by decide +kernel
theorem f_45_9 : ftc (PT 45) 9 = some (9, .aload_n 0, 1, 0, 0, 0) := by decide +kernel
theorem f_45_10 : ftc (PT 45) 10 = some (10, .getfield 22, 3, 5, 3, 318) := by decide +kernel
theorem f_45_13 : ftc (PT 45) 13 = some (13, .if_icmp .ne 7, 3, 20, 0, 0) := by decide +kernel
theorem f_45_16 : ftc (PT 45) 16 = some (16, .iconst 1, 1, 0, 0, 0) := by decide +kernel
theorem f_45_17 : ftc (PT 45) 17 = some (17, .goto 4, 3, 21, 0, 0) := by decide +kernel
theorem f_45_20 : ftc (PT 45) 20 = some (20, .iconst (-1), 1, 0, 0, 0) := by decide +kernel
theorem f_45_21 : ftc (PT 45) 21 = some (21, .ireturn, 1, 0, 0, 0) := by decide +kernel
theorem f_46_5 : ftc (PT 46) 5 = some (5, .istore_n 2, 1, 0, 0, 0) := by decide +kernel
theorem f_46_6 : ftc (PT 46) 6 = some (6, .aload_n 0, 1, 0, 0, 0) := by decide +kernel
theorem f_46_7 : ftc (PT 46) 7 = some (7, .iload_n 2, 1, 0, 0, 0) := by decide +kernel
theorem f_46_8 : ftc (PT 46) 8 = some (8, .invokevirtual 76, 3, 42, 2085, 1105) := by decide +kernel
theorem f_46_11 : ftc (PT 46) 11 = some (11, .ifCond .eq 7, 3, 18, 0, 0) := by decide +kernel
theorem f_46_14 : ftc (PT 46) 14 = some (14, .ldc2_w 98, 3, 1157, 0, 1000000000) := by decide +kernel
theorem f_46_17 : ftc (PT 46) 17 = some (17, .lreturn, 1, 0, 0, 0) := by decide +kernel
theorem f_46_18 : ftc (PT 46) 18 = some (18, .aload_n 0, 1, 0, 0, 0) := by decide +kernel
theorem f_46_19 : ftc (PT 46) 19 = some (19, .getfield 25, 3, 5, 4, 319) := by decide +kernel
theorem f_46_22 : ftc (PT 46) 22 = some (22, .lconst 0, 1, 0, 0, 0) := by decide +kernel
theorem f_46_23 : ftc (PT 46) 23 = some (23, .lcmp, 1, 0, 0, 0) := by decide +kernel
theorem f_46_24 : ftc (PT 46) 24 = some (24, .ifCond .ne 36, 3, 60, 0, 0) := by decide +kernel
theorem f_46_27 : ftc (PT 46) 27 = some (27, .aload_n 0, 1, 0, 0, 0) := by decide +kernel
theorem f_46_28 : ftc (PT 46) 28 = some (28, .getfield 29, 3, 5, 5, 320) := by decide +kernel
theorem f_46_31 : ftc (PT 46) 31 = some (31, .lconst 0, 1, 0, 0, 0) := by decide +kernel
theorem f_46_32 : ftc (PT 46) 32 = some (32, .lcmp, 1, 0, 0, 0) := by decide +kernel
theorem f_46_33 : ftc (PT 46) 33 = some (33, .ifCond .ne 7, 3, 40, 0, 0) := by decide +kernel
theorem f_46_36 : ftc (PT 46) 36 = some (36, .lconst 0, 1, 0, 0, 0) := by decide +kernel
theorem f_46_37 : ftc (PT 46) 37 = some (37, .goto 22, 3, 59, 0, 0) := by decide +kernel
theorem f_46_40 : ftc (PT 46) 40 = some (40, .ldc2_w 100, 3, 1158, 0, 1000) := by decide +kernel
theorem f_46_43 : ftc (PT 46) 43 = some (43, .aload_n 0, 1, 0, 0, 0) := by decide +kernel
theorem f_46_44 : ftc (PT 46) 44 = some (44, .getfield 32, 3, 5, 6, 321) := by decide +kernel
theorem f_46_47 : ftc (PT 46) 47 = some (47, .lmul, 1, 0, 0, 0) := by decide +kernel
theorem f_46_48 : ftc (PT 46) 48 = some (48, .ldc2_w 96, 3, 1145, 0, 2) := by decide +kernel
theorem f_46_51 : ftc (PT 46) 51 = some (51, .aload_n 0, 1, 0, 0, 0) := by decide +kernel
theorem f_46_52 : ftc (PT 46) 52 = some (52, .getfield 29, 3, 5, 5, 320) := by decide +kernel
theorem f_46_55 : ftc (PT 46) 55 = some (55, .lmul, 1, 0, 0, 0) := by decide +kernel
theorem f_46_56 : ftc (PT 46) 56 = some (56, .invokestatic 102, 3, 416, 6146, 1159) := by decide +kernel
theorem f_46_59 : ftc (PT 46) 59 = some (59, .lreturn, 1, 0, 0, 0) := by decide +kernel
theorem f_46_60 : ftc (PT 46) 60 = some (60, .aload_n 0, 1, 0, 0, 0) := by decide +kernel
theorem f_46_61 : ftc (PT 46) 61 = some (61, .getfield 25, 3, 5, 4, 319) := by decide +kernel
theorem f_46_64 : ftc (PT 46) 64 = some (64, .lconst 0, 1, 0, 0, 0) := by decide +kernel
theorem f_46_65 : ftc (PT 46) 65 = some (65, .lcmp, 1, 0, 0, 0) := by decide +kernel
theorem f_46_66 : ftc (PT 46) 66 = some (66, .ifCond .le 7, 3, 73, 0, 0) := by decide +kernel
theorem f_46_69 : ftc (PT 46) 69 = some (69, .iconst 1, 1, 0, 0, 0) := by decide +kernel
theorem f_46_70 : ftc (PT 46) 70 = some (70, .goto 4, 3, 74, 0, 0) := by decide +kernel
theorem f_46_73 : ftc (PT 46) 73 = some (73, .iconst (-1), 1, 0, 0, 0) := by decide +kernel
theorem f_46_74 : ftc (PT 46) 74 = some (74, .istore_n 3, 1, 0, 0, 0) := by decide +kernel
theorem f_46_75 : ftc (PT 46) 75 = some (75, .iload_n 3, 1, 0, 0, 0) := by decide +kernel
theorem f_46_76 : ftc (PT 46) 76 = some (76, .sipush 1000, 3, 0, 0, 0) := by decide +kernel
theorem f_46_79 : ftc (PT 46) 79 = some (79, .imul, 1, 0, 0, 0) := by decide +kernel
theorem f_46_80 : ftc (PT 46) 80 = some (80, .i2l, 1, 0, 0, 0) := by decide +kernel
theorem f_46_81 : ftc (PT 46) 81 = some (81, .aload_n 0, 1, 0, 0, 0) := by decide +kernel
theorem f_46_82 : ftc (PT 46) 82 = some (82, .getfield 29, 3, 5, 5, 320) := by decide +kernel
theorem f_46_85 : ftc (PT 46) 85 = some (85, .lmul, 1, 0, 0, 0) := by decide +kernel
theorem f_46_86 : ftc (PT 46) 86 = some (86, .aload_n 0, 1, 0, 0, 0) := by decide +kernel
theorem f_46_87 : ftc (PT 46) 87 = some (87, .iload_n 2, 1, 0, 0, 0) := by decide +kernel
theorem f_46_88 : ftc (PT 46) 88 = some (88, .iload_n 3, 1, 0, 0, 0) := by decide +kernel
theorem f_46_89 : ftc (PT 46) 89 = some (89, .imul, 1, 0, 0, 0) := by decide +kernel
theorem f_46_90 : ftc (PT 46) 90 = some (90, .invokevirtual 108, 3, 47, 6181, 1162) := by decide +kernel
theorem f_46_93 : ftc (PT 46) 93 = some (93, .ladd, 1, 0, 0, 0) := by decide +kernel
theorem f_46_94 : ftc (PT 46) 94 = some (94, .iload_n 3, 1, 0, 0, 0) := by decide +kernel
theorem f_46_95 : ftc (PT 46) 95 = some (95, .i2l, 1, 0, 0, 0) := by decide +kernel
theorem f_46_96 : ftc (PT 46) 96 = some (96, .aload_n 0, 1, 0, 0, 0) := by decide +kernel
theorem f_46_97 : ftc (PT 46) 97 = some (97, .getfield 25, 3, 5, 4, 319) := by decide +kernel
theorem f_46_100 : ftc (PT 46) 100 = some (100, .lmul, 1, 0, 0, 0) := by decide +kernel
theorem f_46_101 : ftc (PT 46) 101 = some (101, .invokestatic 102, 3, 416, 6146, 1159) := by decide +kernel
theorem f_46_104 : ftc (PT 46) 104 = some (104, .lreturn, 1, 0, 0, 0) := by decide +kernel
theorem f_47_0 : ftc (PT 47) 0 = some (0, .ldc2_w 112, 3, 1166, 0, 1000000) := by decide +kernel
theorem f_47_3 : ftc (PT 47) 3 = some (3, .aload_n 0, 1, 0, 0, 0) := by decide +kernel
theorem f_47_4 : ftc (PT 47) 4 = some (4, .getfield 35, 3, 5, 7, 322) := by decide +kernel
theorem f_47_7 : ftc (PT 47) 7 = some (7, .lmul, 1, 0, 0, 0) := by decide +kernel
theorem f_47_8 : ftc (PT 47) 8 = some (8, .lstore_n 2, 1, 0, 0, 0) := by decide +kernel
theorem f_47_9 : ftc (PT 47) 9 = some (9, .lload_n 2, 1, 0, 0, 0) := by decide +kernel
theorem f_47_10 : ftc (PT 47) 10 = some (10, .invokestatic 63, 3, 32, 7169, 1096) := by decide +kernel
theorem f_47_13 : ftc (PT 47) 13 = some (13, .lstore 4, 2, 0, 0, 0) := by decide +kernel
theorem f_47_15 : ftc (PT 47) 15 = some (15, .iload_n 1, 1, 0, 0, 0) := by decide +kernel
theorem f_47_16 : ftc (PT 47) 16 = some (16, .ifCond .le 6, 3, 22, 0, 0) := by decide +kernel
theorem f_47_19 : ftc (PT 47) 19 = some (19, .lload 4, 2, 0, 0, 0) := by decide +kernel
theorem f_47_21 : ftc (PT 47) 21 = some (21, .lreturn, 1, 0, 0, 0) := by decide +kernel
theorem f_47_22 : ftc (PT 47) 22 = some (22, .lload 4, 2, 0, 0, 0) := by decide +kernel
theorem f_47_24 : ftc (PT 47) 24 = some (24, .lload 4, 2, 0, 0, 0) := by decide +kernel
theorem f_47_26 : ftc (PT 47) 26 = some (26, .lmul, 1, 0, 0, 0) := by decide +kernel
theorem f_47_27 : ftc (PT 47) 27 = some (27, .lload_n 2, 1, 0, 0, 0) := by decide +kernel
theorem f_47_28 : ftc (PT 47) 28 = some (28, .lcmp, 1, 0, 0, 0) := by decide +kernel
theorem f_47_29 : ftc (PT 47) 29 = some (29, .ifCond .ne 9, 3, 38, 0, 0) := by decide +kernel
theorem f_47_32 : ftc (PT 47) 32 = some (32, .lload 4, 2, 0, 0, 0) := by decide +kernel
theorem f_47_34 : ftc (PT 47) 34 = some (34, .lneg, 1, 0, 0, 0) := by decide +kernel
theorem f_47_35 : ftc (PT 47) 35 = some (35, .goto 8, 3, 43, 0, 0) := by decide +kernel
theorem f_47_38 : ftc (PT 47) 38 = some (38, .lload 4, 2, 0, 0, 0) := by decide +kernel
theorem f_47_40 : ftc (PT 47) 40 = some (40, .lneg, 1, 0, 0, 0) := by decide +kernel
theorem f_47_41 : ftc (PT 47) 41 = some (41, .lconst 1, 1, 0, 0, 0) := by decide +kernel
theorem f_47_42 : ftc (PT 47) 42 = some (42, .lsub, 1, 0, 0, 0) := by decide +kernel
theorem f_47_43 : ftc (PT 47) 43 = some (43, .lreturn, 1, 0, 0, 0) := by decide +kernel
theorem f_48_6 : ftc (PT 48) 6 = some (6, .i2l, 1, 0, 0, 0) := by decide +kernel
theorem f_48_7 : ftc (PT 48) 7 = some (7, .aload_n 0, 1, 0, 0, 0) := by decide +kernel
theorem f_48_8 : ftc (PT 48) 8 = some (8, .getfield 38, 3, 5, 8, 323) := by decide +kernel
theorem f_48_11 : ftc (PT 48) 11 = some (11, .lmul, 1, 0, 0, 0) := by decide +kernel
theorem f_48_12 : ftc (PT 48) 12 = some (12, .aload_n 0, 1, 0, 0, 0) := by decide +kernel
theorem f_48_13 : ftc (PT 48) 13 = some (13, .getfield 41, 3, 5, 9, 324) := by decide +kernel
theorem f_48_16 : ftc (PT 48) 16 = some (16, .invokevirtual 92, 3, 25, 9283, 1144) := by decide +kernel
theorem f_48_19 : ftc (PT 48) 19 = some (19, .return_, 1, 0, 0, 0) := by decide +kernel
theorem f_49_12 : ftc (PT 49) 12 = some (12, .goto 9, 3, 21, 0, 0) := by decide +kernel
theorem f_49_20 : ftc (PT 49) 20 = some (20, .ineg, 1, 0, 0, 0) := by decide +kernel
theorem f_49_21 : ftc (PT 49) 21 = some (21, .ireturn, 1, 0, 0, 0) := by decide +kernel
theorem f_50_17 : ftc (PT 50) 17 = some (17, .return_, 1, 0, 0, 0) := by decide +kernel
theorem f_52_16 : ftc (PT 52) 16 = some (16, .ireturn, 1, 1, 0, 0) := by decide +kernel
theorem f_53_0 : ftc (PT 53) 0 = some (0, .lload_n 1, 1, 0, 0, 0) := by decide +kernel
theorem f_53_1 : ftc (PT 53) 1 = some (1, .lload_n 3, 1, 0, 0, 0) := by decide +kernel
theorem f_53_2 : ftc (PT 53) 2 = some (2, .invokestatic 35, 3, 26, 11266, 1081) := by decide +kernel
theorem f_53_5 : ftc (PT 53) 5 = some (5, .lload 5, 2, 0, 0, 0) := by decide +kernel
theorem f_53_7 : ftc (PT 53) 7 = some (7, .invokestatic 35, 3, 26, 11266, 1081) := by decide +kernel
theorem f_53_10 : ftc (PT 53) 10 = some (10, .lstore 7, 2, 0, 0, 0) := by decide +kernel
theorem f_53_12 : ftc (PT 53) 12 = some (12, .lload 5, 2, 0, 0, 0) := by decide +kernel
theorem f_53_14 : ftc (PT 53) 14 = some (14, .lconst 0, 1, 0, 0, 0) := by decide +kernel
theorem f_53_15 : ftc (PT 53) 15 = some (15, .lcmp, 1, 0, 0, 0) := by decide +kernel
theorem f_53_16 : ftc (PT 53) 16 = some (16, .ifCond .eq 10, 3, 26, 0, 0) := by decide +kernel
theorem f_53_19 : ftc (PT 53) 19 = some (19, .lload 7, 2, 0, 0, 0) := by decide +kernel
theorem f_53_21 : ftc (PT 53) 21 = some (21, .lconst 0, 1, 0, 0, 0) := by decide +kernel
theorem f_53_22 : ftc (PT 53) 22 = some (22, .lcmp, 1, 0, 0, 0) := by decide +kernel
theorem f_53_23 : ftc (PT 53) 23 = some (23, .ifCond .ne 5, 3, 28, 0, 0) := by decide +kernel
theorem f_53_26 : ftc (PT 53) 26 = some (26, .iconst 0, 1, 0, 0, 0) := by decide +kernel
theorem f_53_27 : ftc (PT 53) 27 = some (27, .ireturn, 1, 1, 0, 0) := by decide +kernel
theorem f_53_28 : ftc (PT 53) 28 = some (28, .aload_n 0, 1, 0, 0, 0) := by decide +kernel
theorem f_53_29 : ftc (PT 53) 29 = some (29, .lload_n 1, 1, 0, 0, 0) := by decide +kernel
theorem f_53_30 : ftc (PT 53) 30 = some (30, .lload 7, 2, 0, 0, 0) := by decide +kernel
theorem f_53_32 : ftc (PT 53) 32 = some (32, .ldiv, 1, 0, 0, 0) := by decide +kernel
theorem f_53_33 : ftc (PT 53) 33 = some (33, .putfield 7, 3, 6, 0, 271) := by decide +kernel
theorem f_53_36 : ftc (PT 53) 36 = some (36, .aload_n 0, 1, 0, 0, 0) := by decide +kernel
theorem f_53_37 : ftc (PT 53) 37 = some (37, .lload_n 3, 1, 0, 0, 0) := by decide +kernel
theorem f_53_38 : ftc (PT 53) 38 = some (38, .lload 7, 2, 0, 0, 0) := by decide +kernel
theorem f_53_40 : ftc (PT 53) 40 = some (40, .ldiv, 1, 0, 0, 0) := by decide +kernel
theorem f_53_41 : ftc (PT 53) 41 = some (41, .putfield 13, 3, 6, 1, 275) := by decide +kernel
theorem f_53_44 : ftc (PT 53) 44 = some (44, .aload_n 0, 1, 0, 0, 0) := by decide +kernel
theorem f_53_45 : ftc (PT 53) 45 = some (45, .lload 5, 2, 0, 0, 0) := by decide +kernel
theorem f_53_47 : ftc (PT 53) 47 = some (47, .lload 7, 2, 0, 0, 0) := by decide +kernel
theorem f_53_49 : ftc (PT 53) 49 = some (49, .ldiv, 1, 0, 0, 0) := by decide +kernel
theorem f_53_50 : ftc (PT 53) 50 = some (50, .putfield 16, 3, 6, 2, 279) := by decide +kernel
theorem f_53_53 : ftc (PT 53) 53 = some (53, .aload_n 0, 1, 0, 0, 0) := by decide +kernel
theorem f_53_54 : ftc (PT 53) 54 = some (54, .getfield 7, 3, 6, 0, 271) := by decide +kernel
theorem f_53_57 : ftc (PT 53) 57 = some (57, .ldc2_w 41, 3, 1082, 0, 1000) := by decide +kernel
theorem f_53_60 : ftc (PT 53) 60 = some (60, .lcmp, 1, 0, 0, 0) := by decide +kernel
theorem f_53_61 : ftc (PT 53) 61 = some (61, .ifCond .gt 40, 3, 101, 0, 0) := by decide +kernel
theorem f_53_64 : ftc (PT 53) 64 = some (64, .aload_n 0, 1, 0, 0, 0) := by decide +kernel
theorem f_53_65 : ftc (PT 53) 65 = some (65, .getfield 13, 3, 6, 1, 275) := by decide +kernel
theorem f_53_68 : ftc (PT 53) 68 = some (68, .ldc2_w 41, 3, 1082, 0, 1000) := by decide +kernel
theorem f_53_71 : ftc (PT 53) 71 = some (71, .lcmp, 1, 0, 0, 0) := by decide +kernel
theorem f_53_72 : ftc (PT 53) 72 = some (72, .ifCond .gt 29, 3, 101, 0, 0) := by decide +kernel
theorem f_53_75 : ftc (PT 53) 75 = some (75, .aload_n 0, 1, 0, 0, 0) := by decide +kernel
theorem f_53_76 : ftc (PT 53) 76 = some (76, .getfield 13, 3, 6, 1, 275) := by decide +kernel
theorem f_53_79 : ftc (PT 53) 79 = some (79, .ldc2_w 43, 3, 1083, 0, (-1000)) := by decide +kernel
theorem f_53_82 : ftc (PT 53) 82 = some (82, .lcmp, 1, 0, 0, 0) := by decide +kernel
theorem f_53_83 : ftc (PT 53) 83 = some (83, .ifCond .lt 18, 3, 101, 0, 0) := by decide +kernel
theorem f_53_86 : ftc (PT 53) 86 = some (86, .aload_n 0, 1, 0, 0, 0) := by decide +kernel
theorem f_53_87 : ftc (PT 53) 87 = some (87, .getfield 16, 3, 6, 2, 279) := by decide +kernel
theorem f_53_90 : ftc (PT 53) 90 = some (90, .ldc2_w 41, 3, 1082, 0, 1000) := by decide +kernel
theorem f_53_93 : ftc (PT 53) 93 = some (93, .lcmp, 1, 0, 0, 0) := by decide +kernel
theorem f_53_94 : ftc (PT 53) 94 = some (94, .ifCond .gt 7, 3, 101, 0, 0) := by decide +kernel
theorem f_53_97 : ftc (PT 53) 97 = some (97, .iconst 1, 1, 0, 0, 0) := by decide +kernel
theorem f_53_98 : ftc (PT 53) 98 = some (98, .goto 4, 3, 102, 0, 0) := by decide +kernel
theorem f_53_101 : ftc (PT 53) 101 = some (101, .iconst 0, 1, 0, 0, 0) := by decide +kernel
theorem f_53_102 : ftc (PT 53) 102 = some (102, .ireturn, 1, 1, 0, 0) := by decide +kernel
theorem f_54_0 : ftc (PT 54) 0 = some (0, .aload_n 0, 1, 0, 0, 0) := by decide +kernel
theorem f_54_1 : ftc (PT 54) 1 = some (1, .getfield 7, 3, 6, 0, 271) := by decide +kernel
theorem f_54_4 : ftc (PT 54) 4 = some (4, .aload_n 0, 1, 0, 0, 0) := by decide +kernel
theorem f_54_5 : ftc (PT 54) 5 = some (5, .getfield 16, 3, 6, 2, 279) := by decide +kernel
theorem f_54_8 : ftc (PT 54) 8 = some (8, .lcmp, 1, 0, 0, 0) := by decide +kernel
theorem f_54_9 : ftc (PT 54) 9 = some (9, .ifCond .ne 16, 3, 25, 0, 0) := by decide +kernel
theorem f_54_12 : ftc (PT 54) 12 = some (12, .aload_n 0, 1, 0, 0, 0) := by decide +kernel
theorem f_54_13 : ftc (PT 54) 13 = some (13, .getfield 13, 3, 6, 1, 275) := by decide +kernel
theorem f_54_16 : ftc (PT 54) 16 = some (16, .lconst 0, 1, 0, 0, 0) := by decide +kernel
theorem f_54_17 : ftc (PT 54) 17 = some (17, .lcmp, 1, 0, 0, 0) := by decide +kernel
theorem f_54_18 : ftc (PT 54) 18 = some (18, .ifCond .ne 7, 3, 25, 0, 0) := by decide +kernel
theorem f_54_21 : ftc (PT 54) 21 = some (21, .iconst 1, 1, 0, 0, 0) := by decide +kernel
theorem f_54_22 : ftc (PT 54) 22 = some (22, .goto 4, 3, 26, 0, 0) := by decide +kernel
theorem f_54_25 : ftc (PT 54) 25 = some (25, .iconst 0, 1, 0, 0, 0) := by decide +kernel
theorem f_54_26 : ftc (PT 54) 26 = some (26, .ireturn, 1, 1, 0, 0) := by decide +kernel
theorem f_57_16 : ftc (PT 57) 16 = some (16, .goto 20, 3, 36, 0, 0) := by decide +kernel
theorem f_57_36 : ftc (PT 57) 36 = some (36, .return_, 1, 0, 0, 0) := by decide +kernel
theorem f_58_0 : ftc (PT 58) 0 = some (0, .aload_n 0, 1, 0, 0, 0) := by decide +kernel
theorem f_58_1 : ftc (PT 58) 1 = some (1, .getfield 13, 3, 6, 1, 275) := by decide +kernel
theorem f_58_4 : ftc (PT 58) 4 = some (4, .lconst 0, 1, 0, 0, 0) := by decide +kernel
theorem f_58_5 : ftc (PT 58) 5 = some (5, .lcmp, 1, 0, 0, 0) := by decide +kernel
theorem f_58_6 : ftc (PT 58) 6 = some (6, .ifCond .ne 27, 3, 33, 0, 0) := by decide +kernel
theorem f_58_9 : ftc (PT 58) 9 = some (9, .aload_n 2, 1, 0, 0, 0) := by decide +kernel
theorem f_58_10 : ftc (PT 58) 10 = some (10, .iload_n 1, 1, 0, 0, 0) := by decide +kernel
theorem f_58_11 : ftc (PT 58) 11 = some (11, .ifCond .eq 7, 3, 18, 0, 0) := by decide +kernel
theorem f_58_14 : ftc (PT 58) 14 = some (14, .lconst 1, 1, 0, 0, 0) := by decide +kernel
theorem f_58_15 : ftc (PT 58) 15 = some (15, .goto 4, 3, 19, 0, 0) := by decide +kernel
theorem f_58_18 : ftc (PT 58) 18 = some (18, .lconst 0, 1, 0, 0, 0) := by decide +kernel
theorem f_58_19 : ftc (PT 58) 19 = some (19, .iload_n 1, 1, 0, 0, 0) := by decide +kernel
theorem f_58_20 : ftc (PT 58) 20 = some (20, .ifCond .eq 7, 3, 27, 0, 0) := by decide +kernel
theorem f_58_23 : ftc (PT 58) 23 = some (23, .lconst 0, 1, 0, 0, 0) := by decide +kernel
theorem f_58_24 : ftc (PT 58) 24 = some (24, .goto 4, 3, 28, 0, 0) := by decide +kernel
theorem f_58_27 : ftc (PT 58) 27 = some (27, .lconst 1, 1, 0, 0, 0) := by decide +kernel
theorem f_58_28 : ftc (PT 58) 28 = some (28, .invokevirtual 45, 3, 25, 9283, 1234) := by decide +kernel
theorem f_58_31 : ftc (PT 58) 31 = some (31, .iconst 1, 1, 0, 0, 0) := by decide +kernel
theorem f_58_32 : ftc (PT 58) 32 = some (32, .ireturn, 1, 1, 0, 0) := by decide +kernel
theorem f_58_33 : ftc (PT 58) 33 = some (33, .aload_n 0, 1, 0, 0, 0) := by decide +kernel
theorem f_58_34 : ftc (PT 58) 34 = some (34, .invokevirtual 53, 3, 59, 3078, 1371) := by decide +kernel
theorem f_58_37 : ftc (PT 58) 37 = some (37, .lstore_n 3, 1, 0, 0, 0) := by decide +kernel
theorem f_58_38 : ftc (PT 58) 38 = some (38, .lload_n 3, 1, 0, 0, 0) := by decide +kernel
theorem f_58_39 : ftc (PT 58) 39 = some (39, .invokestatic 56, 3, 32, 7169, 1376) := by decide +kernel
theorem f_58_42 : ftc (PT 58) 42 = some (42, .lstore 5, 2, 0, 0, 0) := by decide +kernel
theorem f_58_44 : ftc (PT 58) 44 = some (44, .aload_n 0, 1, 0, 0, 0) := by decide +kernel
theorem f_58_45 : ftc (PT 58) 45 = some (45, .getfield 13, 3, 6, 1, 275) := by decide +kernel
theorem f_58_48 : ftc (PT 58) 48 = some (48, .lconst 0, 1, 0, 0, 0) := by decide +kernel
theorem f_58_49 : ftc (PT 58) 49 = some (49, .lcmp, 1, 0, 0, 0) := by decide +kernel
theorem f_58_50 : ftc (PT 58) 50 = some (50, .ifCond .le 20, 3, 70, 0, 0) := by decide +kernel
theorem f_58_53 : ftc (PT 58) 53 = some (53, .aload_n 0, 1, 0, 0, 0) := by decide +kernel
theorem f_58_54 : ftc (PT 58) 54 = some (54, .invokevirtual 48, 3, 55, 1030, 1235) := by decide +kernel
theorem f_58_57 : ftc (PT 58) 57 = some (57, .aload_n 0, 1, 0, 0, 0) := by decide +kernel
theorem f_58_58 : ftc (PT 58) 58 = some (58, .getfield 16, 3, 6, 2, 279) := by decide +kernel
theorem f_58_61 : ftc (PT 58) 61 = some (61, .aload_n 0, 1, 0, 0, 0) := by decide +kernel
theorem f_58_62 : ftc (PT 58) 62 = some (62, .getfield 16, 3, 6, 2, 279) := by decide +kernel
theorem f_58_65 : ftc (PT 58) 65 = some (65, .lmul, 1, 0, 0, 0) := by decide +kernel
theorem f_58_66 : ftc (PT 58) 66 = some (66, .lsub, 1, 0, 0, 0) := by decide +kernel
theorem f_58_67 : ftc (PT 58) 67 = some (67, .goto 17, 3, 84, 0, 0) := by decide +kernel
theorem f_58_70 : ftc (PT 58) 70 = some (70, .aload_n 0, 1, 0, 0, 0) := by decide +kernel
theorem f_58_71 : ftc (PT 58) 71 = some (71, .getfield 16, 3, 6, 2, 279) := by decide +kernel
theorem f_58_74 : ftc (PT 58) 74 = some (74, .aload_n 0, 1, 0, 0, 0) := by decide +kernel
theorem f_58_75 : ftc (PT 58) 75 = some (75, .getfield 16, 3, 6, 2, 279) := by decide +kernel
theorem f_58_78 : ftc (PT 58) 78 = some (78, .lmul, 1, 0, 0, 0) := by decide +kernel
theorem f_58_79 : ftc (PT 58) 79 = some (79, .aload_n 0, 1, 0, 0, 0) := by decide +kernel
theorem f_58_80 : ftc (PT 58) 80 = some (80, .invokevirtual 48, 3, 55, 1030, 1235) := by decide +kernel
theorem f_58_83 : ftc (PT 58) 83 = some (83, .lsub, 1, 0, 0, 0) := by decide +kernel
theorem f_58_84 : ftc (PT 58) 84 = some (84, .lstore 7, 2, 0, 0, 0) := by decide +kernel
theorem f_58_86 : ftc (PT 58) 86 = some (86, .aload_n 2, 1, 0, 0, 0) := by decide +kernel
theorem f_58_87 : ftc (PT 58) 87 = some (87, .iload_n 1, 1, 0, 0, 0) := by decide +kernel
theorem f_58_88 : ftc (PT 58) 88 = some (88, .ifCond .eq 9, 3, 97, 0, 0) := by decide +kernel
theorem f_58_91 : ftc (PT 58) 91 = some (91, .lload 5, 2, 0, 0, 0) := by decide +kernel
theorem f_58_93 : ftc (PT 58) 93 = some (93, .lneg, 1, 0, 0, 0) := by decide +kernel
theorem f_58_94 : ftc (PT 58) 94 = some (94, .goto 5, 3, 99, 0, 0) := by decide +kernel
theorem f_58_97 : ftc (PT 58) 97 = some (97, .lload 5, 2, 0, 0, 0) := by decide +kernel
theorem f_58_99 : ftc (PT 58) 99 = some (99, .lload 7, 2, 0, 0, 0) := by decide +kernel
theorem f_58_101 : ftc (PT 58) 101 = some (101, .lsub, 1, 0, 0, 0) := by decide +kernel
theorem f_58_102 : ftc (PT 58) 102 = some (102, .ldc2_w 60, 3, 1377, 0, 2) := by decide +kernel
theorem f_58_105 : ftc (PT 58) 105 = some (105, .aload_n 0, 1, 0, 0, 0) := by decide +kernel
theorem f_58_106 : ftc (PT 58) 106 = some (106, .getfield 13, 3, 6, 1, 275) := by decide +kernel
theorem f_58_109 : ftc (PT 58) 109 = some (109, .invokestatic 62, 3, 415, 2049, 1378) := by decide +kernel
theorem f_58_112 : ftc (PT 58) 112 = some (112, .lmul, 1, 0, 0, 0) := by decide +kernel
theorem f_58_113 : ftc (PT 58) 113 = some (113, .aload_n 0, 1, 0, 0, 0) := by decide +kernel
theorem f_58_114 : ftc (PT 58) 114 = some (114, .getfield 16, 3, 6, 2, 279) := by decide +kernel
theorem f_58_117 : ftc (PT 58) 117 = some (117, .lmul, 1, 0, 0, 0) := by decide +kernel
theorem f_58_118 : ftc (PT 58) 118 = some (118, .invokevirtual 45, 3, 25, 9283, 1234) := by decide +kernel
theorem f_58_121 : ftc (PT 58) 121 = some (121, .lload 5, 2, 0, 0, 0) := by decide +kernel
theorem f_58_123 : ftc (PT 58) 123 = some (123, .lload 5, 2, 0, 0, 0) := by decide +kernel
theorem f_58_125 : ftc (PT 58) 125 = some (125, .lmul, 1, 0, 0, 0) := by decide +kernel
theorem f_58_126 : ftc (PT 58) 126 = some (126, .lload_n 3, 1, 0, 0, 0) := by decide +kernel
theorem f_58_127 : ftc (PT 58) 127 = some (127, .lcmp, 1, 0, 0, 0) := by decide +kernel
theorem f_58_128 : ftc (PT 58) 128 = some (128, .ifCond .ne 7, 3, 135, 0, 0) := by decide +kernel
theorem f_58_131 : ftc (PT 58) 131 = some (131, .iconst 1, 1, 0, 0, 0) := by decide +kernel
theorem f_58_132 : ftc (PT 58) 132 = some (132, .goto 4, 3, 136, 0, 0) := by decide +kernel
theorem f_58_135 : ftc (PT 58) 135 = some (135, .iconst 0, 1, 0, 0, 0) := by decide +kernel
theorem f_58_136 : ftc (PT 58) 136 = some (136, .ireturn, 1, 1, 0, 0) := by decide +kernel
theorem f_59_0 : ftc (PT 59) 0 = some (0, .aload_n 0, 1, 0, 0, 0) := by decide +kernel
theorem f_59_1 : ftc (PT 59) 1 = some (1, .invokevirtual 48, 3, 55, 1030, 1235) := by decide +kernel
theorem f_59_4 : ftc (PT 59) 4 = some (4, .aload_n 0, 1, 0, 0, 0) := by decide +kernel
theorem f_59_5 : ftc (PT 59) 5 = some (5, .getfield 16, 3, 6, 2, 279) := by decide +kernel
theorem f_59_8 : ftc (PT 59) 8 = some (8, .aload_n 0, 1, 0, 0, 0) := by decide +kernel
theorem f_59_9 : ftc (PT 59) 9 = some (9, .getfield 16, 3, 6, 2, 279) := by decide +kernel
theorem f_59_12 : ftc (PT 59) 12 = some (12, .lmul, 1, 0, 0, 0) := by decide +kernel
theorem f_59_13 : ftc (PT 59) 13 = some (13, .lsub, 1, 0, 0, 0) := by decide +kernel
theorem f_59_14 : ftc (PT 59) 14 = some (14, .lstore_n 1, 1, 0, 0, 0) := by decide +kernel
theorem f_59_15 : ftc (PT 59) 15 = some (15, .lload_n 1, 1, 0, 0, 0) := by decide +kernel
theorem f_59_16 : ftc (PT 59) 16 = some (16, .lload_n 1, 1, 0, 0, 0) := by decide +kernel
theorem f_59_17 : ftc (PT 59) 17 = some (17, .lmul, 1, 0, 0, 0) := by decide +kernel
theorem f_59_18 : ftc (PT 59) 18 = some (18, .ldc2_w 51, 3, 1375, 0, 4) := by decide +kernel
theorem f_59_21 : ftc (PT 59) 21 = some (21, .aload_n 0, 1, 0, 0, 0) := by decide +kernel
theorem f_59_22 : ftc (PT 59) 22 = some (22, .getfield 13, 3, 6, 1, 275) := by decide +kernel
theorem f_59_25 : ftc (PT 59) 25 = some (25, .lmul, 1, 0, 0, 0) := by decide +kernel
theorem f_59_26 : ftc (PT 59) 26 = some (26, .aload_n 0, 1, 0, 0, 0) := by decide +kernel
theorem f_59_27 : ftc (PT 59) 27 = some (27, .getfield 16, 3, 6, 2, 279) := by decide +kernel
theorem f_59_30 : ftc (PT 59) 30 = some (30, .lmul, 1, 0, 0, 0) := by decide +kernel
theorem f_59_31 : ftc (PT 59) 31 = some (31, .aload_n 0, 1, 0, 0, 0) := by decide +kernel
theorem f_59_32 : ftc (PT 59) 32 = some (32, .getfield 13, 3, 6, 1, 275) := by decide +kernel
theorem f_59_35 : ftc (PT 59) 35 = some (35, .lmul, 1, 0, 0, 0) := by decide +kernel
theorem f_59_36 : ftc (PT 59) 36 = some (36, .aload_n 0, 1, 0, 0, 0) := by decide +kernel
theorem f_59_37 : ftc (PT 59) 37 = some (37, .getfield 16, 3, 6, 2, 279) := by decide +kernel
theorem f_59_40 : ftc (PT 59) 40 = some (40, .lmul, 1, 0, 0, 0) := by decide +kernel
theorem f_59_41 : ftc (PT 59) 41 = some (41, .ladd, 1, 0, 0, 0) := by decide +kernel
theorem f_59_42 : ftc (PT 59) 42 = some (42, .lreturn, 1, 0, 0, 0) := by decide +kernel
theorem f_60_0 : ftc (PT 60) 0 = some (0, .aload_n 0, 1, 0, 0, 0) := by decide +kernel
theorem f_60_1 : ftc (PT 60) 1 = some (1, .invokevirtual 53, 3, 59, 3078, 1371) := by decide +kernel
theorem f_60_4 : ftc (PT 60) 4 = some (4, .lstore_n 2, 1, 0, 0, 0) := by decide +kernel
theorem f_60_5 : ftc (PT 60) 5 = some (5, .lload_n 2, 1, 0, 0, 0) := by decide +kernel
theorem f_60_6 : ftc (PT 60) 6 = some (6, .invokestatic 56, 3, 32, 7169, 1376) := by decide +kernel
theorem f_60_9 : ftc (PT 60) 9 = some (9, .lstore 4, 2, 0, 0, 0) := by decide +kernel
theorem f_60_11 : ftc (PT 60) 11 = some (11, .aload_n 1, 1, 0, 0, 0) := by decide +kernel
theorem f_60_12 : ftc (PT 60) 12 = some (12, .aload_n 0, 1, 0, 0, 0) := by decide +kernel
theorem f_60_13 : ftc (PT 60) 13 = some (13, .invokevirtual 48, 3, 55, 1030, 1235) := by decide +kernel
theorem f_60_16 : ftc (PT 60) 16 = some (16, .aload_n 0, 1, 0, 0, 0) := by decide +kernel
theorem f_60_17 : ftc (PT 60) 17 = some (17, .getfield 16, 3, 6, 2, 279) := by decide +kernel
theorem f_60_20 : ftc (PT 60) 20 = some (20, .aload_n 0, 1, 0, 0, 0) := by decide +kernel
theorem f_60_21 : ftc (PT 60) 21 = some (21, .getfield 16, 3, 6, 2, 279) := by decide +kernel
theorem f_60_24 : ftc (PT 60) 24 = some (24, .lmul, 1, 0, 0, 0) := by decide +kernel
theorem f_60_25 : ftc (PT 60) 25 = some (25, .ladd, 1, 0, 0, 0) := by decide +kernel
theorem f_60_26 : ftc (PT 60) 26 = some (26, .lload 4, 2, 0, 0, 0) := by decide +kernel
theorem f_60_28 : ftc (PT 60) 28 = some (28, .ladd, 1, 0, 0, 0) := by decide +kernel
theorem f_60_29 : ftc (PT 60) 29 = some (29, .ldc2_w 60, 3, 1377, 0, 2) := by decide +kernel
theorem f_60_32 : ftc (PT 60) 32 = some (32, .aload_n 0, 1, 0, 0, 0) := by decide +kernel
theorem f_60_33 : ftc (PT 60) 33 = some (33, .getfield 7, 3, 6, 0, 271) := by decide +kernel
theorem f_60_36 : ftc (PT 60) 36 = some (36, .lmul, 1, 0, 0, 0) := by decide +kernel
theorem f_60_37 : ftc (PT 60) 37 = some (37, .aload_n 0, 1, 0, 0, 0) := by decide +kernel
theorem f_60_38 : ftc (PT 60) 38 = some (38, .getfield 16, 3, 6, 2, 279) := by decide +kernel
theorem f_60_41 : ftc (PT 60) 41 = some (41, .lmul, 1, 0, 0, 0) := by decide +kernel
theorem f_60_42 : ftc (PT 60) 42 = some (42, .invokevirtual 45, 3, 25, 9283, 1234) := by decide +kernel
theorem f_60_45 : ftc (PT 60) 45 = some (45, .aload_n 0, 1, 0, 0, 0) := by decide +kernel
theorem f_60_46 : ftc (PT 60) 46 = some (46, .getfield 7, 3, 6, 0, 271) := by decide +kernel
theorem f_60_49 : ftc (PT 60) 49 = some (49, .lconst 0, 1, 0, 0, 0) := by decide +kernel
theorem f_60_50 : ftc (PT 60) 50 = some (50, .lcmp, 1, 0, 0, 0) := by decide +kernel
theorem f_60_51 : ftc (PT 60) 51 = some (51, .ifCond .ne 9, 3, 60, 0, 0) := by decide +kernel
theorem f_60_54 : ftc (PT 60) 54 = some (54, .aload_n 1, 1, 0, 0, 0) := by decide +kernel
theorem f_60_55 : ftc (PT 60) 55 = some (55, .lconst 1, 1, 0, 0, 0) := by decide +kernel
theorem f_60_56 : ftc (PT 60) 56 = some (56, .lconst 0, 1, 0, 0, 0) := by decide +kernel
theorem f_60_57 : ftc (PT 60) 57 = some (57, .invokevirtual 45, 3, 25, 9283, 1234) := by decide +kernel
theorem f_60_60 : ftc (PT 60) 60 = some (60, .aload_n 0, 1, 0, 0, 0) := by decide +kernel
theorem f_60_61 : ftc (PT 60) 61 = some (61, .getfield 7, 3, 6, 0, 271) := by decide +kernel
theorem f_60_64 : ftc (PT 60) 64 = some (64, .lconst 0, 1, 0, 0, 0) := by decide +kernel
theorem f_60_65 : ftc (PT 60) 65 = some (65, .lcmp, 1, 0, 0, 0) := by decide +kernel
theorem f_60_66 : ftc (PT 60) 66 = some (66, .ifCond .eq 13, 3, 79, 0, 0) := by decide +kernel
theorem f_60_69 : ftc (PT 60) 69 = some (69, .lload 4, 2, 0, 0, 0) := by decide +kernel
theorem f_60_71 : ftc (PT 60) 71 = some (71, .lload 4, 2, 0, 0, 0) := by decide +kernel
theorem f_60_73 : ftc (PT 60) 73 = some (73, .lmul, 1, 0, 0, 0) := by decide +kernel
theorem f_60_74 : ftc (PT 60) 74 = some (74, .lload_n 2, 1, 0, 0, 0) := by decide +kernel
theorem f_60_75 : ftc (PT 60) 75 = some (75, .lcmp, 1, 0, 0, 0) := by decide +kernel
theorem f_60_76 : ftc (PT 60) 76 = some (76, .ifCond .ne 7, 3, 83, 0, 0) := by decide +kernel
theorem f_60_79 : ftc (PT 60) 79 = some (79, .iconst 1, 1, 0, 0, 0) := by decide +kernel
theorem f_60_80 : ftc (PT 60) 80 = some (80, .goto 4, 3, 84, 0, 0) := by decide +kernel
theorem f_60_83 : ftc (PT 60) 83 = some (83, .iconst 0, 1, 0, 0, 0) := by decide +kernel
theorem f_60_84 : ftc (PT 60) 84 = some (84, .ireturn, 1, 1, 0, 0) := by decide +kernel
theorem f_61_20 : ftc (PT 61) 20 = some (20, .ireturn, 1, 1, 0, 0) := by decide +kernel
theorem f_65_0 : ftc (PT 65) 0 = some (0, .aload_n 0, 1, 0, 0, 0) := by decide +kernel
theorem f_65_1 : ftc (PT 65) 1 = some (1, .iconst 0, 1, 0, 0, 0) := by decide +kernel
theorem f_65_2 : ftc (PT 65) 2 = some (2, .putfield 7, 3, 8, 0, 422) := by decide +kernel
theorem f_65_5 : ftc (PT 65) 5 = some (5, .aload_n 0, 1, 0, 0, 0) := by decide +kernel
theorem f_65_6 : ftc (PT 65) 6 = some (6, .getfield 16, 3, 8, 1, 424) := by decide +kernel
theorem f_65_9 : ftc (PT 65) 9 = some (9, .lconst 0, 1, 0, 0, 0) := by decide +kernel
theorem f_65_10 : ftc (PT 65) 10 = some (10, .lconst 1, 1, 0, 0, 0) := by decide +kernel
theorem f_65_11 : ftc (PT 65) 11 = some (11, .invokevirtual 20, 3, 25, 9283, 701) := by decide +kernel
theorem f_65_14 : ftc (PT 65) 14 = some (14, .iconst 0, 1, 0, 0, 0) := by decide +kernel
theorem f_65_15 : ftc (PT 65) 15 = some (15, .istore_n 2, 1, 0, 0, 0) := by decide +kernel
theorem f_65_16 : ftc (PT 65) 16 = some (16, .iload_n 2, 1, 0, 0, 0) := by decide +kernel
theorem f_65_17 : ftc (PT 65) 17 = some (17, .aload_n 1, 1, 0, 0, 0) := by decide +kernel
theorem f_65_18 : ftc (PT 65) 18 = some (18, .getfield 24, 3, 2, 3, 220) := by decide +kernel
theorem f_65_21 : ftc (PT 65) 21 = some (21, .if_icmp .ge 78, 3, 99, 0, 0) := by decide +kernel
theorem f_65_24 : ftc (PT 65) 24 = some (24, .aload_n 0, 1, 0, 0, 0) := by decide +kernel
theorem f_65_25 : ftc (PT 65) 25 = some (25, .getfield 16, 3, 8, 1, 424) := by decide +kernel
theorem f_65_28 : ftc (PT 65) 28 = some (28, .getfield 29, 3, 3, 0, 297) := by decide +kernel
theorem f_65_31 : ftc (PT 65) 31 = some (31, .lstore_n 3, 1, 0, 0, 0) := by decide +kernel
theorem f_65_32 : ftc (PT 65) 32 = some (32, .aload_n 0, 1, 0, 0, 0) := by decide +kernel
theorem f_65_33 : ftc (PT 65) 33 = some (33, .getfield 16, 3, 8, 1, 424) := by decide +kernel
theorem f_65_36 : ftc (PT 65) 36 = some (36, .getfield 33, 3, 3, 1, 300) := by decide +kernel
theorem f_65_39 : ftc (PT 65) 39 = some (39, .lstore 5, 2, 0, 0, 0) := by decide +kernel
theorem f_65_41 : ftc (PT 65) 41 = some (41, .aload_n 0, 1, 0, 0, 0) := by decide +kernel
theorem f_65_42 : ftc (PT 65) 42 = some (42, .getfield 16, 3, 8, 1, 424) := by decide +kernel
theorem f_65_45 : ftc (PT 65) 45 = some (45, .aload_n 1, 1, 0, 0, 0) := by decide +kernel
theorem f_65_46 : ftc (PT 65) 46 = some (46, .iload_n 2, 1, 0, 0, 0) := by decide +kernel
theorem f_65_47 : ftc (PT 65) 47 = some (47, .invokevirtual 36, 3, 14, 2082, 702) := by decide +kernel
theorem f_65_50 : ftc (PT 65) 50 = some (50, .i2l, 1, 0, 0, 0) := by decide +kernel
theorem f_65_51 : ftc (PT 65) 51 = some (51, .aload_n 1, 1, 0, 0, 0) := by decide +kernel
theorem f_65_52 : ftc (PT 65) 52 = some (52, .iload_n 2, 1, 0, 0, 0) := by decide +kernel
theorem f_65_53 : ftc (PT 65) 53 = some (53, .invokevirtual 40, 3, 15, 2082, 703) := by decide +kernel
theorem f_65_56 : ftc (PT 65) 56 = some (56, .i2l, 1, 0, 0, 0) := by decide +kernel
theorem f_65_57 : ftc (PT 65) 57 = some (57, .invokevirtual 43, 3, 27, 5187, 704) := by decide +kernel
theorem f_65_60 : ftc (PT 65) 60 = some (60, .aload_n 0, 1, 0, 0, 0) := by decide +kernel
theorem f_65_61 : ftc (PT 65) 61 = some (61, .getfield 16, 3, 8, 1, 424) := by decide +kernel
theorem f_65_64 : ftc (PT 65) 64 = some (64, .getfield 29, 3, 3, 0, 297) := by decide +kernel
theorem f_65_67 : ftc (PT 65) 67 = some (67, .aload_n 0, 1, 0, 0, 0) := by decide +kernel
theorem f_65_68 : ftc (PT 65) 68 = some (68, .getfield 16, 3, 8, 1, 424) := by decide +kernel
theorem f_65_71 : ftc (PT 65) 71 = some (71, .getfield 33, 3, 3, 1, 300) := by decide +kernel
theorem f_65_74 : ftc (PT 65) 74 = some (74, .lload_n 3, 1, 0, 0, 0) := by decide +kernel
theorem f_65_75 : ftc (PT 65) 75 = some (75, .lload 5, 2, 0, 0, 0) := by decide +kernel
theorem f_65_77 : ftc (PT 65) 77 = some (77, .invokestatic 46, 3, 28, 10244, 709) := by decide +kernel
theorem f_65_80 : ftc (PT 65) 80 = some (80, .ifCond .ge 13, 3, 93, 0, 0) := by decide +kernel
theorem f_65_83 : ftc (PT 65) 83 = some (83, .aload_n 0, 1, 0, 0, 0) := by decide +kernel
theorem f_65_84 : ftc (PT 65) 84 = some (84, .dup, 1, 0, 0, 0) := by decide +kernel
theorem f_65_85 : ftc (PT 65) 85 = some (85, .getfield 7, 3, 8, 0, 422) := by decide +kernel
theorem f_65_88 : ftc (PT 65) 88 = some (88, .iconst 1, 1, 0, 0, 0) := by decide +kernel
theorem f_65_89 : ftc (PT 65) 89 = some (89, .iadd, 1, 0, 0, 0) := by decide +kernel
theorem f_65_90 : ftc (PT 65) 90 = some (90, .putfield 7, 3, 8, 0, 422) := by decide +kernel
theorem f_65_93 : ftc (PT 65) 93 = some (93, .iinc 2 1, 3, 0, 0, 0) := by decide +kernel
theorem f_65_96 : ftc (PT 65) 96 = some (96, .goto (-80), 3, 16, 0, 0) := by decide +kernel
theorem f_65_99 : ftc (PT 65) 99 = some (99, .return_, 1, 0, 0, 0) := by decide +kernel
theorem f_69_0 : ftc (PT 69) 0 = some (0, .iload_n 1, 1, 0, 0, 0) := by decide +kernel
theorem f_69_1 : ftc (PT 69) 1 = some (1, .ifCond .lt 10, 3, 11, 0, 0) := by decide +kernel
theorem f_69_4 : ftc (PT 69) 4 = some (4, .iload_n 1, 1, 0, 0, 0) := by decide +kernel
theorem f_69_5 : ftc (PT 69) 5 = some (5, .sipush 184, 3, 0, 0, 0) := by decide +kernel
theorem f_69_8 : ftc (PT 69) 8 = some (8, .if_icmp .lt 7, 3, 15, 0, 0) := by decide +kernel
theorem f_69_11 : ftc (PT 69) 11 = some (11, .iconst 0, 1, 0, 0, 0) := by decide +kernel
theorem f_69_12 : ftc (PT 69) 12 = some (12, .goto 9, 3, 21, 0, 0) := by decide +kernel
theorem f_69_15 : ftc (PT 69) 15 = some (15, .aload_n 0, 1, 0, 0, 0) := by decide +kernel
theorem f_69_16 : ftc (PT 69) 16 = some (16, .getfield 9, 3, 9, 0, 199) := by decide +kernel
theorem f_69_19 : ftc (PT 69) 19 = some (19, .iload_n 1, 1, 0, 0, 0) := by decide +kernel
theorem f_69_20 : ftc (PT 69) 20 = some (20, .iaload, 1, 0, 0, 0) := by decide +kernel
theorem f_69_21 : ftc (PT 69) 21 = some (21, .ireturn, 1, 0, 0, 0) := by decide +kernel
theorem f_70_0 : ftc (PT 70) 0 = some (0, .iload_n 1, 1, 0, 0, 0) := by decide +kernel
theorem f_70_1 : ftc (PT 70) 1 = some (1, .ifCond .lt 10, 3, 11, 0, 0) := by decide +kernel
theorem f_70_4 : ftc (PT 70) 4 = some (4, .iload_n 1, 1, 0, 0, 0) := by decide +kernel
theorem f_70_5 : ftc (PT 70) 5 = some (5, .sipush 184, 3, 0, 0, 0) := by decide +kernel
theorem f_70_8 : ftc (PT 70) 8 = some (8, .if_icmp .lt 7, 3, 15, 0, 0) := by decide +kernel
theorem f_70_11 : ftc (PT 70) 11 = some (11, .iconst 1, 1, 0, 0, 0) := by decide +kernel
theorem f_70_12 : ftc (PT 70) 12 = some (12, .goto 9, 3, 21, 0, 0) := by decide +kernel
theorem f_70_15 : ftc (PT 70) 15 = some (15, .aload_n 0, 1, 0, 0, 0) := by decide +kernel
theorem f_70_16 : ftc (PT 70) 16 = some (16, .getfield 13, 3, 9, 1, 200) := by decide +kernel
theorem f_70_19 : ftc (PT 70) 19 = some (19, .iload_n 1, 1, 0, 0, 0) := by decide +kernel
theorem f_70_20 : ftc (PT 70) 20 = some (20, .iaload, 1, 0, 0, 0) := by decide +kernel
theorem f_70_21 : ftc (PT 70) 21 = some (21, .ireturn, 1, 0, 0, 0) := by decide +kernel
theorem f_71_0 : ftc (PT 71) 0 = some (0, .aload_n 0, 1, 0, 0, 0) := by decide +kernel
theorem f_71_1 : ftc (PT 71) 1 = some (1, .iload_n 1, 1, 0, 0, 0) := by decide +kernel
theorem f_71_2 : ftc (PT 71) 2 = some (2, .invokevirtual 19, 3, 69, 2089, 1420) := by decide +kernel
theorem f_71_5 : ftc (PT 71) 5 = some (5, .invokestatic 23, 3, 417, 1025, 1421) := by decide +kernel
theorem f_71_8 : ftc (PT 71) 8 = some (8, .iload_n 2, 1, 0, 0, 0) := by decide +kernel
theorem f_71_9 : ftc (PT 71) 9 = some (9, .if_icmp .gt 16, 3, 25, 0, 0) := by decide +kernel
theorem f_71_12 : ftc (PT 71) 12 = some (12, .aload_n 0, 1, 0, 0, 0) := by decide +kernel
theorem f_71_13 : ftc (PT 71) 13 = some (13, .iload_n 1, 1, 0, 0, 0) := by decide +kernel
theorem f_71_14 : ftc (PT 71) 14 = some (14, .invokevirtual 28, 3, 70, 2089, 1424) := by decide +kernel
theorem f_71_17 : ftc (PT 71) 17 = some (17, .iload_n 2, 1, 0, 0, 0) := by decide +kernel
theorem f_71_18 : ftc (PT 71) 18 = some (18, .if_icmp .gt 7, 3, 25, 0, 0) := by decide +kernel
theorem f_71_21 : ftc (PT 71) 21 = some (21, .iconst 1, 1, 0, 0, 0) := by decide +kernel
theorem f_71_22 : ftc (PT 71) 22 = some (22, .goto 4, 3, 26, 0, 0) := by decide +kernel
theorem f_71_25 : ftc (PT 71) 25 = some (25, .iconst 0, 1, 0, 0, 0) := by decide +kernel
theorem f_71_26 : ftc (PT 71) 26 = some (26, .ireturn, 1, 1, 0, 0) := by decide +kernel
theorem f_72_0 : ftc (PT 72) 0 = some (0, .iconst 0, 1, 0, 0, 0) := by decide +kernel
theorem f_72_1 : ftc (PT 72) 1 = some (1, .istore 5, 2, 0, 0, 0) := by decide +kernel
theorem f_72_3 : ftc (PT 72) 3 = some (3, .iload 5, 2, 0, 0, 0) := by decide +kernel
theorem f_72_5 : ftc (PT 72) 5 = some (5, .sipush 184, 3, 0, 0, 0) := by decide +kernel
theorem f_72_8 : ftc (PT 72) 8 = some (8, .if_icmp .ge 38, 3, 46, 0, 0) := by decide +kernel
theorem f_72_11 : ftc (PT 72) 11 = some (11, .aload_n 0, 1, 0, 0, 0) := by decide +kernel
theorem f_72_12 : ftc (PT 72) 12 = some (12, .getfield 9, 3, 9, 0, 199) := by decide +kernel
theorem f_72_15 : ftc (PT 72) 15 = some (15, .iload 5, 2, 0, 0, 0) := by decide +kernel
theorem f_72_17 : ftc (PT 72) 17 = some (17, .iaload, 1, 0, 0, 0) := by decide +kernel
theorem f_72_18 : ftc (PT 72) 18 = some (18, .i2l, 1, 0, 0, 0) := by decide +kernel
theorem f_72_19 : ftc (PT 72) 19 = some (19, .lload_n 1, 1, 0, 0, 0) := by decide +kernel
theorem f_72_20 : ftc (PT 72) 20 = some (20, .lcmp, 1, 0, 0, 0) := by decide +kernel
theorem f_72_21 : ftc (PT 72) 21 = some (21, .ifCond .ne 19, 3, 40, 0, 0) := by decide +kernel
theorem f_72_24 : ftc (PT 72) 24 = some (24, .aload_n 0, 1, 0, 0, 0) := by decide +kernel
theorem f_72_25 : ftc (PT 72) 25 = some (25, .getfield 13, 3, 9, 1, 200) := by decide +kernel
theorem f_72_28 : ftc (PT 72) 28 = some (28, .iload 5, 2, 0, 0, 0) := by decide +kernel
theorem f_72_30 : ftc (PT 72) 30 = some (30, .iaload, 1, 0, 0, 0) := by decide +kernel
theorem f_72_31 : ftc (PT 72) 31 = some (31, .i2l, 1, 0, 0, 0) := by decide +kernel
theorem f_72_32 : ftc (PT 72) 32 = some (32, .lload_n 3, 1, 0, 0, 0) := by decide +kernel
theorem f_72_33 : ftc (PT 72) 33 = some (33, .lcmp, 1, 0, 0, 0) := by decide +kernel
theorem f_72_34 : ftc (PT 72) 34 = some (34, .ifCond .ne 6, 3, 40, 0, 0) := by decide +kernel
theorem f_72_37 : ftc (PT 72) 37 = some (37, .iload 5, 2, 0, 0, 0) := by decide +kernel
theorem f_72_39 : ftc (PT 72) 39 = some (39, .ireturn, 1, 0, 0, 0) := by decide +kernel
theorem f_72_40 : ftc (PT 72) 40 = some (40, .iinc 5 1, 3, 0, 0, 0) := by decide +kernel
theorem f_72_43 : ftc (PT 72) 43 = some (43, .goto (-40), 3, 3, 0, 0) := by decide +kernel
theorem f_72_46 : ftc (PT 72) 46 = some (46, .iconst 0, 1, 0, 0, 0) := by decide +kernel
theorem f_72_47 : ftc (PT 72) 47 = some (47, .ireturn, 1, 0, 0, 0) := by decide +kernel
theorem f_416_0 : ftc (PT 416) 0 = some (0, .lload_n 0, 1, 0, 0, 0) := by decide +kernel
theorem f_416_1 : ftc (PT 416) 1 = some (1, .lload_n 2, 1, 0, 0, 0) := by decide +kernel
theorem f_416_2 : ftc (PT 416) 2 = some (2, .ldiv, 1, 0, 0, 0) := by decide +kernel
theorem f_416_3 : ftc (PT 416) 3 = some (3, .lstore 4, 2, 0, 0, 0) := by decide +kernel
theorem f_416_5 : ftc (PT 416) 5 = some (5, .lload_n 0, 1, 0, 0, 0) := by decide +kernel
theorem f_416_6 : ftc (PT 416) 6 = some (6, .lload_n 2, 1, 0, 0, 0) := by decide +kernel
theorem f_416_7 : ftc (PT 416) 7 = some (7, .lxor, 1, 0, 0, 0) := by decide +kernel
theorem f_416_8 : ftc (PT 416) 8 = some (8, .lconst 0, 1, 0, 0, 0) := by decide +kernel
theorem f_416_9 : ftc (PT 416) 9 = some (9, .lcmp, 1, 0, 0, 0) := by decide +kernel
theorem f_416_10 : ftc (PT 416) 10 = some (10, .ifCond .ge 17, 3, 27, 0, 0) := by decide +kernel
theorem f_416_13 : ftc (PT 416) 13 = some (13, .lload 4, 2, 0, 0, 0) := by decide +kernel
theorem f_416_15 : ftc (PT 416) 15 = some (15, .lload_n 2, 1, 0, 0, 0) := by decide +kernel
theorem f_416_16 : ftc (PT 416) 16 = some (16, .lmul, 1, 0, 0, 0) := by decide +kernel
theorem f_416_17 : ftc (PT 416) 17 = some (17, .lload_n 0, 1, 0, 0, 0) := by decide +kernel
theorem f_416_18 : ftc (PT 416) 18 = some (18, .lcmp, 1, 0, 0, 0) := by decide +kernel
theorem f_416_19 : ftc (PT 416) 19 = some (19, .ifCond .eq 8, 3, 27, 0, 0) := by decide +kernel
theorem f_416_22 : ftc (PT 416) 22 = some (22, .lload 4, 2, 0, 0, 0) := by decide +kernel
theorem f_416_24 : ftc (PT 416) 24 = some (24, .lconst 1, 1, 0, 0, 0) := by decide +kernel
theorem f_416_25 : ftc (PT 416) 25 = some (25, .lsub, 1, 0, 0, 0) := by decide +kernel
theorem f_416_26 : ftc (PT 416) 26 = some (26, .lreturn, 1, 0, 0, 0) := by decide +kernel
theorem f_416_27 : ftc (PT 416) 27 = some (27, .lload 4, 2, 0, 0, 0) := by decide +kernel
theorem f_416_29 : ftc (PT 416) 29 = some (29, .lreturn, 1, 0, 0, 0) := by decide +kernel
theorem f_417_0 : ftc (PT 417) 0 = some (0, .iload_n 0, 1, 0, 0, 0) := by decide +kernel
theorem f_417_1 : ftc (PT 417) 1 = some (1, .ifCond .ge 8, 3, 9, 0, 0) := by decide +kernel
theorem f_417_4 : ftc (PT 417) 4 = some (4, .iload_n 0, 1, 0, 0, 0) := by decide +kernel
theorem f_417_5 : ftc (PT 417) 5 = some (5, .ineg, 1, 0, 0, 0) := by decide +kernel
theorem f_417_6 : ftc (PT 417) 6 = some (6, .goto 4, 3, 10, 0, 0) := by decide +kernel
theorem f_417_9 : ftc (PT 417) 9 = some (9, .iload_n 0, 1, 0, 0, 0) := by decide +kernel
theorem f_417_10 : ftc (PT 417) 10 = some (10, .ireturn, 1, 0, 0, 0) := by decide +kernel
set_option maxRecDepth 10000 in
set_option maxHeartbeats 4000000 in
theorem s_39_0 {Lx : Nat} {I : Mi} {L : Ml} {e : Nat} {Q : Kq} {x2 : Int32} (h :
    (if x2 = 0 then
     (if (L 17 0) = (Int64.ofInt 0) then
      Wp 32 0 [(0, .long ((((L 17 1) * (L 17 2)) * ((L 17 1) * (L 17 2))) - ((((L 17 0) * (L 17 2)) - ((L 17 2) * (L 17 2))) * (((L 17 0) * (L 17 2)) - (((L 17 0) * (L 17 0)) + ((L 17 1) * (L 17 1)))))))] [] (gE Lx) (ui (ui I 19 2 (Int32.ofInt 0)) 19 0 (Int32.ofInt 0)) (ul (ul (ul (ul (ul L 19 9 ((L 17 0) * (L 17 2))) 19 5 ((L 17 1) * (L 17 2))) 19 4 (((L 17 0) * (L 17 2)) - ((L 17 2) * (L 17 2)))) 19 6 (((L 17 0) * (L 17 2)) - (((L 17 0) * (L 17 0)) + ((L 17 1) * (L 17 1))))) 19 7 ((((L 17 1) * (L 17 2)) * ((L 17 1) * (L 17 2))) - ((((L 17 0) * (L 17 2)) - ((L 17 2) * (L 17 2))) * (((L 17 0) * (L 17 2)) - (((L 17 0) * (L 17 0)) + ((L 17 1) * (L 17 1))))))) e (kcp (Wp 39) 39 158 0 [(0, .ref 19), (1, .ref 17)] 71 [.ref 19] Q)
     else
      (if (L 17 0) = (L 17 2) then
       (if (L 17 1) = (Int64.ofInt 0) then
        Wp 32 0 [(0, .long ((((L 17 1) * (L 17 2)) * ((L 17 1) * (L 17 2))) - ((((L 17 0) * (L 17 2)) - ((L 17 2) * (L 17 2))) * (((L 17 0) * (L 17 2)) - (((L 17 0) * (L 17 0)) + ((L 17 1) * (L 17 1)))))))] [] (gE Lx) (ui (ui I 19 2 (Int32.ofInt 0)) 19 0 (Int32.ofInt 0)) (ul (ul (ul (ul (ul L 19 9 ((L 17 0) * (L 17 2))) 19 5 ((L 17 1) * (L 17 2))) 19 4 (((L 17 0) * (L 17 2)) - ((L 17 2) * (L 17 2)))) 19 6 (((L 17 0) * (L 17 2)) - (((L 17 0) * (L 17 0)) + ((L 17 1) * (L 17 1))))) 19 7 ((((L 17 1) * (L 17 2)) * ((L 17 1) * (L 17 2))) - ((((L 17 0) * (L 17 2)) - ((L 17 2) * (L 17 2))) * (((L 17 0) * (L 17 2)) - (((L 17 0) * (L 17 0)) + ((L 17 1) * (L 17 1))))))) e (kcp (Wp 39) 39 158 0 [(0, .ref 19), (1, .ref 17)] 71 [.ref 19] Q)
       else
        Wp 32 0 [(0, .long ((((L 17 1) * (L 17 2)) * ((L 17 1) * (L 17 2))) - ((((L 17 0) * (L 17 2)) - ((L 17 2) * (L 17 2))) * (((L 17 0) * (L 17 2)) - (((L 17 0) * (L 17 0)) + ((L 17 1) * (L 17 1)))))))] [] (gE Lx) (ui (ui I 19 2 (Int32.ofInt 0)) 19 0 (Int32.ofInt 2)) (ul (ul (ul (ul (ul L 19 9 ((L 17 0) * (L 17 2))) 19 5 ((L 17 1) * (L 17 2))) 19 4 (((L 17 0) * (L 17 2)) - ((L 17 2) * (L 17 2)))) 19 6 (((L 17 0) * (L 17 2)) - (((L 17 0) * (L 17 0)) + ((L 17 1) * (L 17 1))))) 19 7 ((((L 17 1) * (L 17 2)) * ((L 17 1) * (L 17 2))) - ((((L 17 0) * (L 17 2)) - ((L 17 2) * (L 17 2))) * (((L 17 0) * (L 17 2)) - (((L 17 0) * (L 17 0)) + ((L 17 1) * (L 17 1))))))) e (kcp (Wp 39) 39 158 0 [(0, .ref 19), (1, .ref 17)] 71 [.ref 19] Q))
      else
       Wp 32 0 [(0, .long ((((L 17 1) * (L 17 2)) * ((L 17 1) * (L 17 2))) - ((((L 17 0) * (L 17 2)) - ((L 17 2) * (L 17 2))) * (((L 17 0) * (L 17 2)) - (((L 17 0) * (L 17 0)) + ((L 17 1) * (L 17 1)))))))] [] (gE Lx) (ui (ui I 19 2 (Int32.ofInt 0)) 19 0 (Int32.ofInt 2)) (ul (ul (ul (ul (ul L 19 9 ((L 17 0) * (L 17 2))) 19 5 ((L 17 1) * (L 17 2))) 19 4 (((L 17 0) * (L 17 2)) - ((L 17 2) * (L 17 2)))) 19 6 (((L 17 0) * (L 17 2)) - (((L 17 0) * (L 17 0)) + ((L 17 1) * (L 17 1))))) 19 7 ((((L 17 1) * (L 17 2)) * ((L 17 1) * (L 17 2))) - ((((L 17 0) * (L 17 2)) - ((L 17 2) * (L 17 2))) * (((L 17 0) * (L 17 2)) - (((L 17 0) * (L 17 0)) + ((L 17 1) * (L 17 1))))))) e (kcp (Wp 39) 39 158 0 [(0, .ref 19), (1, .ref 17)] 71 [.ref 19] Q)))
    else if x2 = 1 then
     (if (L 17 0) = (Int64.ofInt 0) then
      Wp 32 0 [(0, .long ((((L 17 1) * (L 17 2)) * ((L 17 1) * (L 17 2))) - (((((L 17 0) * (L 17 0)) + ((L 17 1) * (L 17 1))) - ((L 17 0) * (L 17 2))) * (((L 17 2) * (L 17 2)) - ((L 17 0) * (L 17 2))))))] [] (gE Lx) (ui (ui I 19 2 (Int32.ofInt 1)) 19 0 (Int32.ofInt 0)) (ul (ul (ul (ul (ul L 19 9 ((L 17 0) * (L 17 2))) 19 5 ((L 17 1) * (L 17 2))) 19 4 ((((L 17 0) * (L 17 0)) + ((L 17 1) * (L 17 1))) - ((L 17 0) * (L 17 2)))) 19 6 (((L 17 2) * (L 17 2)) - ((L 17 0) * (L 17 2)))) 19 7 ((((L 17 1) * (L 17 2)) * ((L 17 1) * (L 17 2))) - (((((L 17 0) * (L 17 0)) + ((L 17 1) * (L 17 1))) - ((L 17 0) * (L 17 2))) * (((L 17 2) * (L 17 2)) - ((L 17 0) * (L 17 2)))))) e (kcp (Wp 39) 39 158 0 [(0, .ref 19), (1, .ref 17)] 71 [.ref 19] Q)
     else
      (if (L 17 0) = (L 17 2) then
       (if (L 17 1) = (Int64.ofInt 0) then
        Wp 32 0 [(0, .long ((((L 17 1) * (L 17 2)) * ((L 17 1) * (L 17 2))) - (((((L 17 0) * (L 17 0)) + ((L 17 1) * (L 17 1))) - ((L 17 0) * (L 17 2))) * (((L 17 2) * (L 17 2)) - ((L 17 0) * (L 17 2))))))] [] (gE Lx) (ui (ui I 19 2 (Int32.ofInt 1)) 19 0 (Int32.ofInt 0)) (ul (ul (ul (ul (ul L 19 9 ((L 17 0) * (L 17 2))) 19 5 ((L 17 1) * (L 17 2))) 19 4 ((((L 17 0) * (L 17 0)) + ((L 17 1) * (L 17 1))) - ((L 17 0) * (L 17 2)))) 19 6 (((L 17 2) * (L 17 2)) - ((L 17 0) * (L 17 2)))) 19 7 ((((L 17 1) * (L 17 2)) * ((L 17 1) * (L 17 2))) - (((((L 17 0) * (L 17 0)) + ((L 17 1) * (L 17 1))) - ((L 17 0) * (L 17 2))) * (((L 17 2) * (L 17 2)) - ((L 17 0) * (L 17 2)))))) e (kcp (Wp 39) 39 158 0 [(0, .ref 19), (1, .ref 17)] 71 [.ref 19] Q)
       else
        Wp 32 0 [(0, .long ((((L 17 1) * (L 17 2)) * ((L 17 1) * (L 17 2))) - (((((L 17 0) * (L 17 0)) + ((L 17 1) * (L 17 1))) - ((L 17 0) * (L 17 2))) * (((L 17 2) * (L 17 2)) - ((L 17 0) * (L 17 2))))))] [] (gE Lx) (ui (ui I 19 2 (Int32.ofInt 1)) 19 0 (Int32.ofInt 2)) (ul (ul (ul (ul (ul L 19 9 ((L 17 0) * (L 17 2))) 19 5 ((L 17 1) * (L 17 2))) 19 4 ((((L 17 0) * (L 17 0)) + ((L 17 1) * (L 17 1))) - ((L 17 0) * (L 17 2)))) 19 6 (((L 17 2) * (L 17 2)) - ((L 17 0) * (L 17 2)))) 19 7 ((((L 17 1) * (L 17 2)) * ((L 17 1) * (L 17 2))) - (((((L 17 0) * (L 17 0)) + ((L 17 1) * (L 17 1))) - ((L 17 0) * (L 17 2))) * (((L 17 2) * (L 17 2)) - ((L 17 0) * (L 17 2)))))) e (kcp (Wp 39) 39 158 0 [(0, .ref 19), (1, .ref 17)] 71 [.ref 19] Q))
      else
       Wp 32 0 [(0, .long ((((L 17 1) * (L 17 2)) * ((L 17 1) * (L 17 2))) - (((((L 17 0) * (L 17 0)) + ((L 17 1) * (L 17 1))) - ((L 17 0) * (L 17 2))) * (((L 17 2) * (L 17 2)) - ((L 17 0) * (L 17 2))))))] [] (gE Lx) (ui (ui I 19 2 (Int32.ofInt 1)) 19 0 (Int32.ofInt 2)) (ul (ul (ul (ul (ul L 19 9 ((L 17 0) * (L 17 2))) 19 5 ((L 17 1) * (L 17 2))) 19 4 ((((L 17 0) * (L 17 0)) + ((L 17 1) * (L 17 1))) - ((L 17 0) * (L 17 2)))) 19 6 (((L 17 2) * (L 17 2)) - ((L 17 0) * (L 17 2)))) 19 7 ((((L 17 1) * (L 17 2)) * ((L 17 1) * (L 17 2))) - (((((L 17 0) * (L 17 0)) + ((L 17 1) * (L 17 1))) - ((L 17 0) * (L 17 2))) * (((L 17 2) * (L 17 2)) - ((L 17 0) * (L 17 2)))))) e (kcp (Wp 39) 39 158 0 [(0, .ref 19), (1, .ref 17)] 71 [.ref 19] Q)))
    else False)) :
    Wp 39 0 [(0, .ref 19), (1, .ref 17), (2, .int x2)] [] (gE Lx) I L e Q := by
  refine w_a f_39_0 ?_
  refine w_a f_39_1 ?_
  refine w_a f_39_2 ?_
  refine i_m (fun h => ?_) (i_m (fun h => ?_) id) h
  · refine w_a f_39_5 ?_
    refine w_a f_39_6 ?_
    refine w_a f_39_7 ?_
    refine w_a f_39_10 ?_
    refine w_a f_39_11 ?_
    refine i_m (fun h => ?_) (fun h => ?_) h
    · refine w_a f_39_22 ?_
      refine w_a f_39_23 ?_
      refine w_a f_39_27 ?_
      refine w_a f_39_30 ?_
      refine w_a f_39_31 ?_
      refine w_a f_39_32 ?_
      refine w_a f_39_35 ?_
      refine w_a f_39_36 ?_
      refine w_a f_39_39 ?_
      refine w_a f_39_40 ?_
      refine w_a f_39_43 ?_
      refine w_a f_39_44 ?_
      refine w_a f_39_45 ?_
      refine w_a f_39_48 ?_
      refine w_a f_39_49 ?_
      refine w_a f_39_52 ?_
      refine w_a f_39_53 ?_
      refine w_a f_39_56 ?_
      refine w_a f_39_57 ?_
      refine w_a f_39_58 ?_
      refine w_a f_39_61 ?_
      refine w_a f_39_76 ?_
      refine w_a f_39_77 ?_
      refine w_a f_39_80 ?_
      refine w_a f_39_81 ?_
      refine w_a f_39_84 ?_
      refine w_a f_39_85 ?_
      refine w_a f_39_88 ?_
      refine w_a f_39_89 ?_
      refine w_a f_39_90 ?_
      refine w_a f_39_93 ?_
      refine w_a f_39_94 ?_
      refine w_a f_39_95 ?_
      refine w_a f_39_98 ?_
      refine w_a f_39_118 ?_
      refine w_a f_39_119 ?_
      refine w_a f_39_122 ?_
      refine w_a f_39_123 ?_
      refine w_a (ls := [(0, .ref 17)]) f_55_0 ?_
      refine w_a f_55_1 ?_
      refine w_a f_55_4 ?_
      refine w_a f_55_5 ?_
      refine w_a f_55_8 ?_
      refine w_a f_55_9 ?_
      refine w_a f_55_10 ?_
      refine w_a f_55_13 ?_
      refine w_a f_55_14 ?_
      refine w_a f_55_17 ?_
      refine w_a f_55_18 ?_
      refine w_a f_55_19 ?_
      refine w_a (ls := [(0, .ref 19), (1, .ref 17), (2, .int x2)]) f_39_126 ?_
      refine w_a f_39_127 ?_
      refine w_a f_39_130 ?_
      refine w_a f_39_131 ?_
      refine w_a f_39_132 ?_
      refine w_a f_39_135 ?_
      refine w_a f_39_136 ?_
      refine w_a f_39_139 ?_
      refine w_a f_39_140 ?_
      refine w_a f_39_141 ?_
      refine w_a f_39_144 ?_
      refine w_a f_39_145 ?_
      refine w_a f_39_148 ?_
      refine w_a f_39_149 ?_
      refine w_a f_39_150 ?_
      refine w_a f_39_153 ?_
      refine w_a f_39_154 ?_
      refine w_a f_39_155 ?_
      exact w_c (ks := [0, 1]) f_39_158 rfl rfl h
    · refine w_a f_39_15 ?_
      refine w_a f_39_16 ?_
      refine w_a (ls := [(0, .ref 17)]) f_54_0 ?_
      refine w_a f_54_1 ?_
      refine w_a f_54_4 ?_
      refine w_a f_54_5 ?_
      refine w_a f_54_8 ?_
      refine i_m (fun h => ?_) (fun h => ?_) h
      · refine w_a f_54_12 ?_
        refine w_a f_54_13 ?_
        refine w_a f_54_16 ?_
        refine w_a f_54_17 ?_
        refine i_m (fun h => ?_) (fun h => ?_) h
        · refine w_a f_54_21 ?_
          refine w_a f_54_22 ?_
          refine w_a f_54_26 ?_
          refine w_a (ls := [(0, .ref 19), (1, .ref 17), (2, .int x2)]) f_39_19 ?_
          refine w_a f_39_22 ?_
          refine w_a f_39_23 ?_
          refine w_a f_39_27 ?_
          refine w_a f_39_30 ?_
          refine w_a f_39_31 ?_
          refine w_a f_39_32 ?_
          refine w_a f_39_35 ?_
          refine w_a f_39_36 ?_
          refine w_a f_39_39 ?_
          refine w_a f_39_40 ?_
          refine w_a f_39_43 ?_
          refine w_a f_39_44 ?_
          refine w_a f_39_45 ?_
          refine w_a f_39_48 ?_
          refine w_a f_39_49 ?_
          refine w_a f_39_52 ?_
          refine w_a f_39_53 ?_
          refine w_a f_39_56 ?_
          refine w_a f_39_57 ?_
          refine w_a f_39_58 ?_
          refine w_a f_39_61 ?_
          refine w_a f_39_76 ?_
          refine w_a f_39_77 ?_
          refine w_a f_39_80 ?_
          refine w_a f_39_81 ?_
          refine w_a f_39_84 ?_
          refine w_a f_39_85 ?_
          refine w_a f_39_88 ?_
          refine w_a f_39_89 ?_
          refine w_a f_39_90 ?_
          refine w_a f_39_93 ?_
          refine w_a f_39_94 ?_
          refine w_a f_39_95 ?_
          refine w_a f_39_98 ?_
          refine w_a f_39_118 ?_
          refine w_a f_39_119 ?_
          refine w_a f_39_122 ?_
          refine w_a f_39_123 ?_
          refine w_a (ls := [(0, .ref 17)]) f_55_0 ?_
          refine w_a f_55_1 ?_
          refine w_a f_55_4 ?_
          refine w_a f_55_5 ?_
          refine w_a f_55_8 ?_
          refine w_a f_55_9 ?_
          refine w_a f_55_10 ?_
          refine w_a f_55_13 ?_
          refine w_a f_55_14 ?_
          refine w_a f_55_17 ?_
          refine w_a f_55_18 ?_
          refine w_a f_55_19 ?_
          refine w_a (ls := [(0, .ref 19), (1, .ref 17), (2, .int x2)]) f_39_126 ?_
          refine w_a f_39_127 ?_
          refine w_a f_39_130 ?_
          refine w_a f_39_131 ?_
          refine w_a f_39_132 ?_
          refine w_a f_39_135 ?_
          refine w_a f_39_136 ?_
          refine w_a f_39_139 ?_
          refine w_a f_39_140 ?_
          refine w_a f_39_141 ?_
          refine w_a f_39_144 ?_
          refine w_a f_39_145 ?_
          refine w_a f_39_148 ?_
          refine w_a f_39_149 ?_
          refine w_a f_39_150 ?_
          refine w_a f_39_153 ?_
          refine w_a f_39_154 ?_
          refine w_a f_39_155 ?_
          exact w_c (ks := [0, 1]) f_39_158 rfl rfl h
        · refine w_a f_54_25 ?_
          refine w_a f_54_26 ?_
          refine w_a (ls := [(0, .ref 19), (1, .ref 17), (2, .int x2)]) f_39_19 ?_
          refine w_a f_39_26 ?_
          refine w_a f_39_27 ?_
          refine w_a f_39_30 ?_
          refine w_a f_39_31 ?_
          refine w_a f_39_32 ?_
          refine w_a f_39_35 ?_
          refine w_a f_39_36 ?_
          refine w_a f_39_39 ?_
          refine w_a f_39_40 ?_
          refine w_a f_39_43 ?_
          refine w_a f_39_44 ?_
          refine w_a f_39_45 ?_
          refine w_a f_39_48 ?_
          refine w_a f_39_49 ?_
          refine w_a f_39_52 ?_
          refine w_a f_39_53 ?_
          refine w_a f_39_56 ?_
          refine w_a f_39_57 ?_
          refine w_a f_39_58 ?_
          refine w_a f_39_61 ?_
          refine w_a f_39_76 ?_
          refine w_a f_39_77 ?_
          refine w_a f_39_80 ?_
          refine w_a f_39_81 ?_
          refine w_a f_39_84 ?_
          refine w_a f_39_85 ?_
          refine w_a f_39_88 ?_
          refine w_a f_39_89 ?_
          refine w_a f_39_90 ?_
          refine w_a f_39_93 ?_
          refine w_a f_39_94 ?_
          refine w_a f_39_95 ?_
          refine w_a f_39_98 ?_
          refine w_a f_39_118 ?_
          refine w_a f_39_119 ?_
          refine w_a f_39_122 ?_
          refine w_a f_39_123 ?_
          refine w_a (ls := [(0, .ref 17)]) f_55_0 ?_
          refine w_a f_55_1 ?_
          refine w_a f_55_4 ?_
          refine w_a f_55_5 ?_
          refine w_a f_55_8 ?_
          refine w_a f_55_9 ?_
          refine w_a f_55_10 ?_
          refine w_a f_55_13 ?_
          refine w_a f_55_14 ?_
          refine w_a f_55_17 ?_
          refine w_a f_55_18 ?_
          refine w_a f_55_19 ?_
          refine w_a (ls := [(0, .ref 19), (1, .ref 17), (2, .int x2)]) f_39_126 ?_
          refine w_a f_39_127 ?_
          refine w_a f_39_130 ?_
          refine w_a f_39_131 ?_
          refine w_a f_39_132 ?_
          refine w_a f_39_135 ?_
          refine w_a f_39_136 ?_
          refine w_a f_39_139 ?_
          refine w_a f_39_140 ?_
          refine w_a f_39_141 ?_
          refine w_a f_39_144 ?_
          refine w_a f_39_145 ?_
          refine w_a f_39_148 ?_
          refine w_a f_39_149 ?_
          refine w_a f_39_150 ?_
          refine w_a f_39_153 ?_
          refine w_a f_39_154 ?_
          refine w_a f_39_155 ?_
          exact w_c (ks := [0, 1]) f_39_158 rfl rfl h
      · refine w_a f_54_25 ?_
        refine w_a f_54_26 ?_
        refine w_a (ls := [(0, .ref 19), (1, .ref 17), (2, .int x2)]) f_39_19 ?_
        refine w_a f_39_26 ?_
        refine w_a f_39_27 ?_
        refine w_a f_39_30 ?_
        refine w_a f_39_31 ?_
        refine w_a f_39_32 ?_
        refine w_a f_39_35 ?_
        refine w_a f_39_36 ?_
        refine w_a f_39_39 ?_
        refine w_a f_39_40 ?_
        refine w_a f_39_43 ?_
        refine w_a f_39_44 ?_
        refine w_a f_39_45 ?_
        refine w_a f_39_48 ?_
        refine w_a f_39_49 ?_
        refine w_a f_39_52 ?_
        refine w_a f_39_53 ?_
        refine w_a f_39_56 ?_
        refine w_a f_39_57 ?_
        refine w_a f_39_58 ?_
        refine w_a f_39_61 ?_
        refine w_a f_39_76 ?_
        refine w_a f_39_77 ?_
        refine w_a f_39_80 ?_
        refine w_a f_39_81 ?_
        refine w_a f_39_84 ?_
        refine w_a f_39_85 ?_
        refine w_a f_39_88 ?_
        refine w_a f_39_89 ?_
        refine w_a f_39_90 ?_
        refine w_a f_39_93 ?_
        refine w_a f_39_94 ?_
        refine w_a f_39_95 ?_
        refine w_a f_39_98 ?_
        refine w_a f_39_118 ?_
        refine w_a f_39_119 ?_
        refine w_a f_39_122 ?_
        refine w_a f_39_123 ?_
        refine w_a (ls := [(0, .ref 17)]) f_55_0 ?_
        refine w_a f_55_1 ?_
        refine w_a f_55_4 ?_
        refine w_a f_55_5 ?_
        refine w_a f_55_8 ?_
        refine w_a f_55_9 ?_
        refine w_a f_55_10 ?_
        refine w_a f_55_13 ?_
        refine w_a f_55_14 ?_
        refine w_a f_55_17 ?_
        refine w_a f_55_18 ?_
        refine w_a f_55_19 ?_
        refine w_a (ls := [(0, .ref 19), (1, .ref 17), (2, .int x2)]) f_39_126 ?_
        refine w_a f_39_127 ?_
        refine w_a f_39_130 ?_
        refine w_a f_39_131 ?_
        refine w_a f_39_132 ?_
        refine w_a f_39_135 ?_
        refine w_a f_39_136 ?_
        refine w_a f_39_139 ?_
        refine w_a f_39_140 ?_
        refine w_a f_39_141 ?_
        refine w_a f_39_144 ?_
        refine w_a f_39_145 ?_
        refine w_a f_39_148 ?_
        refine w_a f_39_149 ?_
        refine w_a f_39_150 ?_
        refine w_a f_39_153 ?_
        refine w_a f_39_154 ?_
        refine w_a f_39_155 ?_
        exact w_c (ks := [0, 1]) f_39_158 rfl rfl h
  · refine w_a f_39_5 ?_
    refine w_a f_39_6 ?_
    refine w_a f_39_7 ?_
    refine w_a f_39_10 ?_
    refine w_a f_39_11 ?_
    refine i_m (fun h => ?_) (fun h => ?_) h
    · refine w_a f_39_22 ?_
      refine w_a f_39_23 ?_
      refine w_a f_39_27 ?_
      refine w_a f_39_30 ?_
      refine w_a f_39_31 ?_
      refine w_a f_39_32 ?_
      refine w_a f_39_35 ?_
      refine w_a f_39_36 ?_
      refine w_a f_39_39 ?_
      refine w_a f_39_40 ?_
      refine w_a f_39_43 ?_
      refine w_a f_39_44 ?_
      refine w_a f_39_45 ?_
      refine w_a f_39_48 ?_
      refine w_a f_39_49 ?_
      refine w_a f_39_52 ?_
      refine w_a f_39_53 ?_
      refine w_a f_39_56 ?_
      refine w_a f_39_57 ?_
      refine w_a f_39_58 ?_
      refine w_a f_39_61 ?_
      refine w_a f_39_64 ?_
      refine w_a f_39_65 ?_
      refine w_a (ls := [(0, .ref 17)]) f_55_0 ?_
      refine w_a f_55_1 ?_
      refine w_a f_55_4 ?_
      refine w_a f_55_5 ?_
      refine w_a f_55_8 ?_
      refine w_a f_55_9 ?_
      refine w_a f_55_10 ?_
      refine w_a f_55_13 ?_
      refine w_a f_55_14 ?_
      refine w_a f_55_17 ?_
      refine w_a f_55_18 ?_
      refine w_a f_55_19 ?_
      refine w_a (ls := [(0, .ref 19), (1, .ref 17), (2, .int x2)]) f_39_68 ?_
      refine w_a f_39_69 ?_
      refine w_a f_39_72 ?_
      refine w_a f_39_73 ?_
      refine w_a f_39_90 ?_
      refine w_a f_39_93 ?_
      refine w_a f_39_94 ?_
      refine w_a f_39_95 ?_
      refine w_a f_39_98 ?_
      refine w_a f_39_101 ?_
      refine w_a f_39_102 ?_
      refine w_a f_39_105 ?_
      refine w_a f_39_106 ?_
      refine w_a f_39_109 ?_
      refine w_a f_39_110 ?_
      refine w_a f_39_111 ?_
      refine w_a f_39_114 ?_
      refine w_a f_39_115 ?_
      refine w_a f_39_127 ?_
      refine w_a f_39_130 ?_
      refine w_a f_39_131 ?_
      refine w_a f_39_132 ?_
      refine w_a f_39_135 ?_
      refine w_a f_39_136 ?_
      refine w_a f_39_139 ?_
      refine w_a f_39_140 ?_
      refine w_a f_39_141 ?_
      refine w_a f_39_144 ?_
      refine w_a f_39_145 ?_
      refine w_a f_39_148 ?_
      refine w_a f_39_149 ?_
      refine w_a f_39_150 ?_
      refine w_a f_39_153 ?_
      refine w_a f_39_154 ?_
      refine w_a f_39_155 ?_
      exact w_c (ks := [0, 1]) f_39_158 rfl rfl h
    · refine w_a f_39_15 ?_
      refine w_a f_39_16 ?_
      refine w_a (ls := [(0, .ref 17)]) f_54_0 ?_
      refine w_a f_54_1 ?_
      refine w_a f_54_4 ?_
      refine w_a f_54_5 ?_
      refine w_a f_54_8 ?_
      refine i_m (fun h => ?_) (fun h => ?_) h
      · refine w_a f_54_12 ?_
        refine w_a f_54_13 ?_
        refine w_a f_54_16 ?_
        refine w_a f_54_17 ?_
        refine i_m (fun h => ?_) (fun h => ?_) h
        · refine w_a f_54_21 ?_
          refine w_a f_54_22 ?_
          refine w_a f_54_26 ?_
          refine w_a (ls := [(0, .ref 19), (1, .ref 17), (2, .int x2)]) f_39_19 ?_
          refine w_a f_39_22 ?_
          refine w_a f_39_23 ?_
          refine w_a f_39_27 ?_
          refine w_a f_39_30 ?_
          refine w_a f_39_31 ?_
          refine w_a f_39_32 ?_
          refine w_a f_39_35 ?_
          refine w_a f_39_36 ?_
          refine w_a f_39_39 ?_
          refine w_a f_39_40 ?_
          refine w_a f_39_43 ?_
          refine w_a f_39_44 ?_
          refine w_a f_39_45 ?_
          refine w_a f_39_48 ?_
          refine w_a f_39_49 ?_
          refine w_a f_39_52 ?_
          refine w_a f_39_53 ?_
          refine w_a f_39_56 ?_
          refine w_a f_39_57 ?_
          refine w_a f_39_58 ?_
          refine w_a f_39_61 ?_
          refine w_a f_39_64 ?_
          refine w_a f_39_65 ?_
          refine w_a (ls := [(0, .ref 17)]) f_55_0 ?_
          refine w_a f_55_1 ?_
          refine w_a f_55_4 ?_
          refine w_a f_55_5 ?_
          refine w_a f_55_8 ?_
          refine w_a f_55_9 ?_
          refine w_a f_55_10 ?_
          refine w_a f_55_13 ?_
          refine w_a f_55_14 ?_
          refine w_a f_55_17 ?_
          refine w_a f_55_18 ?_
          refine w_a f_55_19 ?_
          refine w_a (ls := [(0, .ref 19), (1, .ref 17), (2, .int x2)]) f_39_68 ?_
          refine w_a f_39_69 ?_
          refine w_a f_39_72 ?_
          refine w_a f_39_73 ?_
          refine w_a f_39_90 ?_
          refine w_a f_39_93 ?_
          refine w_a f_39_94 ?_
          refine w_a f_39_95 ?_
          refine w_a f_39_98 ?_
          refine w_a f_39_101 ?_
          refine w_a f_39_102 ?_
          refine w_a f_39_105 ?_
          refine w_a f_39_106 ?_
          refine w_a f_39_109 ?_
          refine w_a f_39_110 ?_
          refine w_a f_39_111 ?_
          refine w_a f_39_114 ?_
          refine w_a f_39_115 ?_
          refine w_a f_39_127 ?_
          refine w_a f_39_130 ?_
          refine w_a f_39_131 ?_
          refine w_a f_39_132 ?_
          refine w_a f_39_135 ?_
          refine w_a f_39_136 ?_
          refine w_a f_39_139 ?_
          refine w_a f_39_140 ?_
          refine w_a f_39_141 ?_
          refine w_a f_39_144 ?_
          refine w_a f_39_145 ?_
          refine w_a f_39_148 ?_
          refine w_a f_39_149 ?_
          refine w_a f_39_150 ?_
          refine w_a f_39_153 ?_
          refine w_a f_39_154 ?_
          refine w_a f_39_155 ?_
          exact w_c (ks := [0, 1]) f_39_158 rfl rfl h
        · refine w_a f_54_25 ?_
          refine w_a f_54_26 ?_
          refine w_a (ls := [(0, .ref 19), (1, .ref 17), (2, .int x2)]) f_39_19 ?_
          refine w_a f_39_26 ?_
          refine w_a f_39_27 ?_
          refine w_a f_39_30 ?_
          refine w_a f_39_31 ?_
          refine w_a f_39_32 ?_
          refine w_a f_39_35 ?_
          refine w_a f_39_36 ?_
          refine w_a f_39_39 ?_
          refine w_a f_39_40 ?_
          refine w_a f_39_43 ?_
          refine w_a f_39_44 ?_
          refine w_a f_39_45 ?_
          refine w_a f_39_48 ?_
          refine w_a f_39_49 ?_
          refine w_a f_39_52 ?_
          refine w_a f_39_53 ?_
          refine w_a f_39_56 ?_
          refine w_a f_39_57 ?_
          refine w_a f_39_58 ?_
          refine w_a f_39_61 ?_
          refine w_a f_39_64 ?_
          refine w_a f_39_65 ?_
          refine w_a (ls := [(0, .ref 17)]) f_55_0 ?_
          refine w_a f_55_1 ?_
          refine w_a f_55_4 ?_
          refine w_a f_55_5 ?_
          refine w_a f_55_8 ?_
          refine w_a f_55_9 ?_
          refine w_a f_55_10 ?_
          refine w_a f_55_13 ?_
          refine w_a f_55_14 ?_
          refine w_a f_55_17 ?_
          refine w_a f_55_18 ?_
          refine w_a f_55_19 ?_
          refine w_a (ls := [(0, .ref 19), (1, .ref 17), (2, .int x2)]) f_39_68 ?_
          refine w_a f_39_69 ?_
          refine w_a f_39_72 ?_
          refine w_a f_39_73 ?_
          refine w_a f_39_90 ?_
          refine w_a f_39_93 ?_
          refine w_a f_39_94 ?_
          refine w_a f_39_95 ?_
          refine w_a f_39_98 ?_
          refine w_a f_39_101 ?_
          refine w_a f_39_102 ?_
          refine w_a f_39_105 ?_
          refine w_a f_39_106 ?_
          refine w_a f_39_109 ?_
          refine w_a f_39_110 ?_
          refine w_a f_39_111 ?_
          refine w_a f_39_114 ?_
          refine w_a f_39_115 ?_
          refine w_a f_39_127 ?_
          refine w_a f_39_130 ?_
          refine w_a f_39_131 ?_
          refine w_a f_39_132 ?_
          refine w_a f_39_135 ?_
          refine w_a f_39_136 ?_
          refine w_a f_39_139 ?_
          refine w_a f_39_140 ?_
          refine w_a f_39_141 ?_
          refine w_a f_39_144 ?_
          refine w_a f_39_145 ?_
          refine w_a f_39_148 ?_
          refine w_a f_39_149 ?_
          refine w_a f_39_150 ?_
          refine w_a f_39_153 ?_
          refine w_a f_39_154 ?_
          refine w_a f_39_155 ?_
          exact w_c (ks := [0, 1]) f_39_158 rfl rfl h
      · refine w_a f_54_25 ?_
        refine w_a f_54_26 ?_
        refine w_a (ls := [(0, .ref 19), (1, .ref 17), (2, .int x2)]) f_39_19 ?_
        refine w_a f_39_26 ?_
        refine w_a f_39_27 ?_
        refine w_a f_39_30 ?_
        refine w_a f_39_31 ?_
        refine w_a f_39_32 ?_
        refine w_a f_39_35 ?_
        refine w_a f_39_36 ?_
        refine w_a f_39_39 ?_
        refine w_a f_39_40 ?_
        refine w_a f_39_43 ?_
        refine w_a f_39_44 ?_
        refine w_a f_39_45 ?_
        refine w_a f_39_48 ?_
        refine w_a f_39_49 ?_
        refine w_a f_39_52 ?_
        refine w_a f_39_53 ?_
        refine w_a f_39_56 ?_
        refine w_a f_39_57 ?_
        refine w_a f_39_58 ?_
        refine w_a f_39_61 ?_
        refine w_a f_39_64 ?_
        refine w_a f_39_65 ?_
        refine w_a (ls := [(0, .ref 17)]) f_55_0 ?_
        refine w_a f_55_1 ?_
        refine w_a f_55_4 ?_
        refine w_a f_55_5 ?_
        refine w_a f_55_8 ?_
        refine w_a f_55_9 ?_
        refine w_a f_55_10 ?_
        refine w_a f_55_13 ?_
        refine w_a f_55_14 ?_
        refine w_a f_55_17 ?_
        refine w_a f_55_18 ?_
        refine w_a f_55_19 ?_
        refine w_a (ls := [(0, .ref 19), (1, .ref 17), (2, .int x2)]) f_39_68 ?_
        refine w_a f_39_69 ?_
        refine w_a f_39_72 ?_
        refine w_a f_39_73 ?_
        refine w_a f_39_90 ?_
        refine w_a f_39_93 ?_
        refine w_a f_39_94 ?_
        refine w_a f_39_95 ?_
        refine w_a f_39_98 ?_
        refine w_a f_39_101 ?_
        refine w_a f_39_102 ?_
        refine w_a f_39_105 ?_
        refine w_a f_39_106 ?_
        refine w_a f_39_109 ?_
        refine w_a f_39_110 ?_
        refine w_a f_39_111 ?_
        refine w_a f_39_114 ?_
        refine w_a f_39_115 ?_
        refine w_a f_39_127 ?_
        refine w_a f_39_130 ?_
        refine w_a f_39_131 ?_
        refine w_a f_39_132 ?_
        refine w_a f_39_135 ?_
        refine w_a f_39_136 ?_
        refine w_a f_39_139 ?_
        refine w_a f_39_140 ?_
        refine w_a f_39_141 ?_
        refine w_a f_39_144 ?_
        refine w_a f_39_145 ?_
        refine w_a f_39_148 ?_
        refine w_a f_39_149 ?_
        refine w_a f_39_150 ?_
        refine w_a f_39_153 ?_
        refine w_a f_39_154 ?_
        refine w_a f_39_155 ?_
        exact w_c (ks := [0, 1]) f_39_158 rfl rfl h
set_option maxRecDepth 10000 in
set_option maxHeartbeats 4000000 in
theorem s_39_161 {Lx : Nat} {I : Mi} {L : Ml} {e : Nat} {Q : Kq} {rl : Int64} (h :
    (if (rl * rl) = (L 19 7) then
     Wp 40 0 [(0, .ref 19)] [] (gE Lx) (ui I 19 1 (Int32.ofInt 1)) (ul L 19 8 rl) e (kcp (Wp 39) 39 192 0 [(0, .ref 19), (1, .ref 17)] 71 [.ref 19] Q)
    else
     Wp 40 0 [(0, .ref 19)] [] (gE Lx) (ui I 19 1 (Int32.ofInt 0)) (ul L 19 8 rl) e (kcp (Wp 39) 39 192 0 [(0, .ref 19), (1, .ref 17)] 71 [.ref 19] Q))) :
    Wp 39 161 [(0, .ref 19), (1, .ref 17)] [.long rl, .ref 19] (gE Lx) I L e Q := by
  refine w_a f_39_161 ?_
  refine w_a f_39_164 ?_
  refine w_a f_39_165 ?_
  refine w_a f_39_166 ?_
  refine w_a f_39_169 ?_
  refine w_a f_39_170 ?_
  refine w_a f_39_173 ?_
  refine w_a f_39_174 ?_
  refine w_a f_39_175 ?_
  refine w_a f_39_178 ?_
  refine i_m (fun h => ?_) (fun h => ?_) h
  · refine w_a f_39_182 ?_
    refine w_a f_39_183 ?_
    refine w_a f_39_187 ?_
    refine w_a f_39_190 ?_
    refine w_a f_39_191 ?_
    exact w_c (ks := [0, 1]) f_39_192 rfl rfl h
  · refine w_a f_39_186 ?_
    refine w_a f_39_187 ?_
    refine w_a f_39_190 ?_
    refine w_a f_39_191 ?_
    exact w_c (ks := [0, 1]) f_39_192 rfl rfl h
set_option maxRecDepth 10000 in
set_option maxHeartbeats 4000000 in
theorem s_39_195 {Lx : Nat} {I : Mi} {L : Ml} {e : Nat} {Q : Kq} {r : Int32} (h :
    (if r = 0 then
     Q (.inl none) (gE Lx) (ui I 19 3 (Int32.ofInt 0)) L e
    else if r = 1 then
     Q (.inl none) (gE Lx) (ui I 19 3 (Int32.ofInt 1)) L e
    else False)) :
    Wp 39 195 [(0, .ref 19), (1, .ref 17)] [.int r, .ref 19] (gE Lx) I L e Q := by
  refine w_a f_39_195 ?_
  refine i_m (fun h => ?_) (i_m (fun h => ?_) id) h
  · refine w_a f_39_198 ?_
    exact h
  · refine w_a f_39_198 ?_
    exact h
set_option maxRecDepth 10000 in
set_option maxHeartbeats 4000000 in
theorem s_40_0 {Lx : Nat} {I : Mi} {L : Ml} {e : Nat} {Q : Kq} (h :
    Wp 41 0 [(0, .ref 19), (1, .int (Int32.ofInt 1))] [] (gE Lx) I L e (kcp (Wp 40) 40 2 0 [(0, .ref 19)] 71 [] Q)) :
    Wp 40 0 [(0, .ref 19)] [] (gE Lx) I L e Q := by
  refine w_a f_40_0 ?_
  refine w_a f_40_1 ?_
  exact w_c (ks := [0]) f_40_2 rfl rfl h
set_option maxRecDepth 10000 in
set_option maxHeartbeats 4000000 in
theorem s_40_5 {Lx : Nat} {I : Mi} {L : Ml} {e : Nat} {Q : Kq} {r : Int32} (h :
    Wp 41 0 [(0, .ref 19), (1, .int (Int32.ofInt (-1)))] [] (gE Lx) I L e (kcp (Wp 40) 40 8 0 [(0, .ref 19), (1, .int r)] 71 [] Q)) :
    Wp 40 5 [(0, .ref 19)] [.int r] (gE Lx) I L e Q := by
  refine w_a f_40_5 ?_
  refine w_a (ls := [(1, .int r), (0, .ref 19)]) f_40_6 ?_
  refine w_a f_40_7 ?_
  exact w_c (ks := [0, 1]) f_40_8 rfl rfl h
set_option maxRecDepth 10000 in
set_option maxHeartbeats 4000000 in
theorem s_40_11 {Lx : Nat} {I : Mi} {L : Ml} {e : Nat} {Q : Kq} {x1 : Int32} {r : Int32} (h :
    (if x1 = r then
     (if (L 19 4) < (Int64.ofInt 0) then
      Q (.inl (some (.int (Int32.ofInt 1)))) (gE Lx) I L e
     else
      Q (.inl (some (.int (Int32.ofInt 0)))) (gE Lx) I L e)
    else
     (if x1 < r then
      Q (.inl (some (.int (Int32.ofInt 1)))) (gE Lx) I L e
     else
      Q (.inl (some (.int (Int32.ofInt 0)))) (gE Lx) I L e))) :
    Wp 40 11 [(0, .ref 19), (1, .int x1)] [.int r] (gE Lx) I L e Q := by
  refine w_a f_40_11 ?_
  refine w_a (ls := [(2, .int r), (0, .ref 19), (1, .int x1)]) f_40_12 ?_
  refine w_a f_40_13 ?_
  refine w_a f_40_14 ?_
  refine i_m (fun h => ?_) (fun h => ?_) h
  · refine w_a f_40_30 ?_
    refine w_a f_40_31 ?_
    refine w_a f_40_34 ?_
    refine w_a f_40_35 ?_
    refine i_m (fun h => ?_) (fun h => ?_) h
    · refine w_a f_40_39 ?_
      refine w_a f_40_40 ?_
      refine w_a f_40_44 ?_
      exact h
    · refine w_a f_40_43 ?_
      refine w_a f_40_44 ?_
      exact h
  · refine w_a f_40_17 ?_
    refine w_a f_40_18 ?_
    refine w_a f_40_19 ?_
    refine i_m (fun h => ?_) (fun h => ?_) h
    · refine w_a f_40_22 ?_
      refine w_a f_40_23 ?_
      refine w_a f_40_44 ?_
      exact h
    · refine w_a f_40_26 ?_
      refine w_a f_40_27 ?_
      refine w_a f_40_44 ?_
      exact h
set_option maxRecDepth 10000 in
set_option maxHeartbeats 4000000 in
theorem s_41_0 {Lx : Nat} {I : Mi} {L : Ml} {e : Nat} {Q : Kq} {x1 : Int32} (h :
    (if (L 19 4) = (Int64.ofInt 0) then
     (if (Int64.ofInt 0) < ((L 19 5) * x1.toInt64) then
      Q (.inl (some (.int (Int32.ofInt 1)))) (gE Lx) I L e
     else
      (if (L 19 4) = (Int64.ofInt 0) then
       (if (L 19 6) < (Int64.ofInt 0) then
        (if (L 19 5) < (Int64.ofInt 0) then
         Q (.inl (some (.int (Int32.ofInt 0)))) (gE Lx) I L e
        else
         (if (L 19 5) = (Int64.ofInt 0) then
          Q (.inl (some (.int (Int32.ofInt 0)))) (gE Lx) I L e
         else
          Q (.inl (some (.int (Int32.ofInt 2)))) (gE Lx) I L e))
       else
        (if (L 19 6) = (Int64.ofInt 0) then
         (if (L 19 5) < (Int64.ofInt 0) then
          Q (.inl (some (.int (Int32.ofInt 0)))) (gE Lx) I L e
         else
          (if (L 19 5) = (Int64.ofInt 0) then
           Q (.inl (some (.int (Int32.ofInt 0)))) (gE Lx) I L e
          else
           Q (.inl (some (.int (Int32.ofInt 0)))) (gE Lx) I L e))
        else
         (if (L 19 5) < (Int64.ofInt 0) then
          Q (.inl (some (.int (Int32.ofInt 2)))) (gE Lx) I L e
         else
          (if (L 19 5) = (Int64.ofInt 0) then
           Q (.inl (some (.int (Int32.ofInt 0)))) (gE Lx) I L e
          else
           Q (.inl (some (.int (Int32.ofInt 0)))) (gE Lx) I L e))))
      else
       Wp 43 0 [(0, .ref 19), (1, .int x1)] [] (gE Lx) I L e (kcp (Wp 41) 41 47 0 [(0, .ref 19)] 71 [] Q)))
    else
     (if (L 19 4) = (Int64.ofInt 0) then
      (if (L 19 6) < (Int64.ofInt 0) then
       (if (L 19 5) < (Int64.ofInt 0) then
        Q (.inl (some (.int (Int32.ofInt 0)))) (gE Lx) I L e
       else
        (if (L 19 5) = (Int64.ofInt 0) then
         Q (.inl (some (.int (Int32.ofInt 0)))) (gE Lx) I L e
        else
         Q (.inl (some (.int (Int32.ofInt 2)))) (gE Lx) I L e))
      else
       (if (L 19 6) = (Int64.ofInt 0) then
        (if (L 19 5) < (Int64.ofInt 0) then
         Q (.inl (some (.int (Int32.ofInt 0)))) (gE Lx) I L e
        else
         (if (L 19 5) = (Int64.ofInt 0) then
          Q (.inl (some (.int (Int32.ofInt 0)))) (gE Lx) I L e
         else
          Q (.inl (some (.int (Int32.ofInt 0)))) (gE Lx) I L e))
       else
        (if (L 19 5) < (Int64.ofInt 0) then
         Q (.inl (some (.int (Int32.ofInt 2)))) (gE Lx) I L e
        else
         (if (L 19 5) = (Int64.ofInt 0) then
          Q (.inl (some (.int (Int32.ofInt 0)))) (gE Lx) I L e
         else
          Q (.inl (some (.int (Int32.ofInt 0)))) (gE Lx) I L e))))
     else
      Wp 43 0 [(0, .ref 19), (1, .int x1)] [] (gE Lx) I L e (kcp (Wp 41) 41 47 0 [(0, .ref 19)] 71 [] Q)))) :
    Wp 41 0 [(0, .ref 19), (1, .int x1)] [] (gE Lx) I L e Q := by
  refine w_a f_41_0 ?_
  refine w_a f_41_1 ?_
  refine w_a f_41_2 ?_
  refine w_a (ls := [(0, .ref 19), (1, .int x1)]) f_42_0 ?_
  refine w_a f_42_1 ?_
  refine w_a f_42_4 ?_
  refine w_a f_42_5 ?_
  refine i_m (fun h => ?_) (fun h => ?_) h
  · refine w_a f_42_9 ?_
    refine w_a f_42_10 ?_
    refine w_a f_42_13 ?_
    refine w_a f_42_14 ?_
    refine w_a f_42_15 ?_
    refine w_a f_42_16 ?_
    refine w_a f_42_17 ?_
    refine i_m (fun h => ?_) (fun h => ?_) h
    · refine w_a f_42_21 ?_
      refine w_a f_42_22 ?_
      refine w_a f_42_26 ?_
      refine w_a (ls := [(0, .ref 19), (1, .int x1)]) f_41_5 ?_
      refine w_a f_41_8 ?_
      refine w_a f_41_9 ?_
      exact h
    · refine w_a f_42_25 ?_
      refine w_a f_42_26 ?_
      refine w_a (ls := [(0, .ref 19), (1, .int x1)]) f_41_5 ?_
      refine w_a f_41_10 ?_
      refine w_a f_41_11 ?_
      refine w_a f_41_14 ?_
      refine w_a f_41_15 ?_
      refine i_m (fun h => ?_) (fun h => ?_) h
      · refine w_a f_41_19 ?_
        refine w_a f_41_20 ?_
        refine w_a f_41_23 ?_
        refine w_a f_41_24 ?_
        refine w_a (ls := [(0, .long (L 19 6)), (2, .long (Int64.ofInt 0))]) f_418_0 ?_
        refine w_a f_418_1 ?_
        refine w_a f_418_2 ?_
        refine i_m (fun h => ?_) (fun h => ?_) h
        · refine w_a f_418_6 ?_
          refine w_a f_418_7 ?_
          refine w_a f_418_21 ?_
          refine w_a (ls := [(0, .ref 19), (1, .int x1)]) f_41_27 ?_
          refine w_a f_41_28 ?_
          refine w_a f_41_31 ?_
          refine w_a f_41_32 ?_
          refine w_a (ls := [(0, .long (L 19 5)), (2, .long (Int64.ofInt 0))]) f_418_0 ?_
          refine w_a f_418_1 ?_
          refine w_a f_418_2 ?_
          refine i_m (fun h => ?_) (fun h => ?_) h
          · refine w_a f_418_6 ?_
            refine w_a f_418_7 ?_
            refine w_a f_418_21 ?_
            refine w_a (ls := [(0, .ref 19), (1, .int x1)]) f_41_35 ?_
            refine w_a f_41_36 ?_
            refine w_a f_41_39 ?_
            refine w_a f_41_40 ?_
            refine w_a f_41_44 ?_
            exact h
          · refine w_a f_418_10 ?_
            refine w_a f_418_11 ?_
            refine w_a f_418_12 ?_
            refine i_m (fun h => ?_) (fun h => ?_) h
            · refine w_a f_418_16 ?_
              refine w_a f_418_17 ?_
              refine w_a f_418_21 ?_
              refine w_a (ls := [(0, .ref 19), (1, .int x1)]) f_41_35 ?_
              refine w_a f_41_36 ?_
              refine w_a f_41_39 ?_
              refine w_a f_41_40 ?_
              refine w_a f_41_44 ?_
              exact h
            · refine w_a f_418_20 ?_
              refine w_a f_418_21 ?_
              refine w_a (ls := [(0, .ref 19), (1, .int x1)]) f_41_35 ?_
              refine w_a f_41_36 ?_
              refine w_a f_41_43 ?_
              refine w_a f_41_44 ?_
              exact h
        · refine w_a f_418_10 ?_
          refine w_a f_418_11 ?_
          refine w_a f_418_12 ?_
          refine i_m (fun h => ?_) (fun h => ?_) h
          · refine w_a f_418_16 ?_
            refine w_a f_418_17 ?_
            refine w_a f_418_21 ?_
            refine w_a (ls := [(0, .ref 19), (1, .int x1)]) f_41_27 ?_
            refine w_a f_41_28 ?_
            refine w_a f_41_31 ?_
            refine w_a f_41_32 ?_
            refine w_a (ls := [(0, .long (L 19 5)), (2, .long (Int64.ofInt 0))]) f_418_0 ?_
            refine w_a f_418_1 ?_
            refine w_a f_418_2 ?_
            refine i_m (fun h => ?_) (fun h => ?_) h
            · refine w_a f_418_6 ?_
              refine w_a f_418_7 ?_
              refine w_a f_418_21 ?_
              refine w_a (ls := [(0, .ref 19), (1, .int x1)]) f_41_35 ?_
              refine w_a f_41_36 ?_
              refine w_a f_41_39 ?_
              refine w_a f_41_40 ?_
              refine w_a f_41_44 ?_
              exact h
            · refine w_a f_418_10 ?_
              refine w_a f_418_11 ?_
              refine w_a f_418_12 ?_
              refine i_m (fun h => ?_) (fun h => ?_) h
              · refine w_a f_418_16 ?_
                refine w_a f_418_17 ?_
                refine w_a f_418_21 ?_
                refine w_a (ls := [(0, .ref 19), (1, .int x1)]) f_41_35 ?_
                refine w_a f_41_36 ?_
                refine w_a f_41_39 ?_
                refine w_a f_41_40 ?_
                refine w_a f_41_44 ?_
                exact h
              · refine w_a f_418_20 ?_
                refine w_a f_418_21 ?_
                refine w_a (ls := [(0, .ref 19), (1, .int x1)]) f_41_35 ?_
                refine w_a f_41_36 ?_
                refine w_a f_41_39 ?_
                refine w_a f_41_40 ?_
                refine w_a f_41_44 ?_
                exact h
          · refine w_a f_418_20 ?_
            refine w_a f_418_21 ?_
            refine w_a (ls := [(0, .ref 19), (1, .int x1)]) f_41_27 ?_
            refine w_a f_41_28 ?_
            refine w_a f_41_31 ?_
            refine w_a f_41_32 ?_
            refine w_a (ls := [(0, .long (L 19 5)), (2, .long (Int64.ofInt 0))]) f_418_0 ?_
            refine w_a f_418_1 ?_
            refine w_a f_418_2 ?_
            refine i_m (fun h => ?_) (fun h => ?_) h
            · refine w_a f_418_6 ?_
              refine w_a f_418_7 ?_
              refine w_a f_418_21 ?_
              refine w_a (ls := [(0, .ref 19), (1, .int x1)]) f_41_35 ?_
              refine w_a f_41_36 ?_
              refine w_a f_41_43 ?_
              refine w_a f_41_44 ?_
              exact h
            · refine w_a f_418_10 ?_
              refine w_a f_418_11 ?_
              refine w_a f_418_12 ?_
              refine i_m (fun h => ?_) (fun h => ?_) h
              · refine w_a f_418_16 ?_
                refine w_a f_418_17 ?_
                refine w_a f_418_21 ?_
                refine w_a (ls := [(0, .ref 19), (1, .int x1)]) f_41_35 ?_
                refine w_a f_41_36 ?_
                refine w_a f_41_39 ?_
                refine w_a f_41_40 ?_
                refine w_a f_41_44 ?_
                exact h
              · refine w_a f_418_20 ?_
                refine w_a f_418_21 ?_
                refine w_a (ls := [(0, .ref 19), (1, .int x1)]) f_41_35 ?_
                refine w_a f_41_36 ?_
                refine w_a f_41_39 ?_
                refine w_a f_41_40 ?_
                refine w_a f_41_44 ?_
                exact h
      · refine w_a f_41_45 ?_
        refine w_a f_41_46 ?_
        exact w_c (ks := [0]) f_41_47 rfl rfl h
  · refine w_a f_42_25 ?_
    refine w_a f_42_26 ?_
    refine w_a (ls := [(0, .ref 19), (1, .int x1)]) f_41_5 ?_
    refine w_a f_41_10 ?_
    refine w_a f_41_11 ?_
    refine w_a f_41_14 ?_
    refine w_a f_41_15 ?_
    refine i_m (fun h => ?_) (fun h => ?_) h
    · refine w_a f_41_19 ?_
      refine w_a f_41_20 ?_
      refine w_a f_41_23 ?_
      refine w_a f_41_24 ?_
      refine w_a (ls := [(0, .long (L 19 6)), (2, .long (Int64.ofInt 0))]) f_418_0 ?_
      refine w_a f_418_1 ?_
      refine w_a f_418_2 ?_
      refine i_m (fun h => ?_) (fun h => ?_) h
      · refine w_a f_418_6 ?_
        refine w_a f_418_7 ?_
        refine w_a f_418_21 ?_
        refine w_a (ls := [(0, .ref 19), (1, .int x1)]) f_41_27 ?_
        refine w_a f_41_28 ?_
        refine w_a f_41_31 ?_
        refine w_a f_41_32 ?_
        refine w_a (ls := [(0, .long (L 19 5)), (2, .long (Int64.ofInt 0))]) f_418_0 ?_
        refine w_a f_418_1 ?_
        refine w_a f_418_2 ?_
        refine i_m (fun h => ?_) (fun h => ?_) h
        · refine w_a f_418_6 ?_
          refine w_a f_418_7 ?_
          refine w_a f_418_21 ?_
          refine w_a (ls := [(0, .ref 19), (1, .int x1)]) f_41_35 ?_
          refine w_a f_41_36 ?_
          refine w_a f_41_39 ?_
          refine w_a f_41_40 ?_
          refine w_a f_41_44 ?_
          exact h
        · refine w_a f_418_10 ?_
          refine w_a f_418_11 ?_
          refine w_a f_418_12 ?_
          refine i_m (fun h => ?_) (fun h => ?_) h
          · refine w_a f_418_16 ?_
            refine w_a f_418_17 ?_
            refine w_a f_418_21 ?_
            refine w_a (ls := [(0, .ref 19), (1, .int x1)]) f_41_35 ?_
            refine w_a f_41_36 ?_
            refine w_a f_41_39 ?_
            refine w_a f_41_40 ?_
            refine w_a f_41_44 ?_
            exact h
          · refine w_a f_418_20 ?_
            refine w_a f_418_21 ?_
            refine w_a (ls := [(0, .ref 19), (1, .int x1)]) f_41_35 ?_
            refine w_a f_41_36 ?_
            refine w_a f_41_43 ?_
            refine w_a f_41_44 ?_
            exact h
      · refine w_a f_418_10 ?_
        refine w_a f_418_11 ?_
        refine w_a f_418_12 ?_
        refine i_m (fun h => ?_) (fun h => ?_) h
        · refine w_a f_418_16 ?_
          refine w_a f_418_17 ?_
          refine w_a f_418_21 ?_
          refine w_a (ls := [(0, .ref 19), (1, .int x1)]) f_41_27 ?_
          refine w_a f_41_28 ?_
          refine w_a f_41_31 ?_
          refine w_a f_41_32 ?_
          refine w_a (ls := [(0, .long (L 19 5)), (2, .long (Int64.ofInt 0))]) f_418_0 ?_
          refine w_a f_418_1 ?_
          refine w_a f_418_2 ?_
          refine i_m (fun h => ?_) (fun h => ?_) h
          · refine w_a f_418_6 ?_
            refine w_a f_418_7 ?_
            refine w_a f_418_21 ?_
            refine w_a (ls := [(0, .ref 19), (1, .int x1)]) f_41_35 ?_
            refine w_a f_41_36 ?_
            refine w_a f_41_39 ?_
            refine w_a f_41_40 ?_
            refine w_a f_41_44 ?_
            exact h
          · refine w_a f_418_10 ?_
            refine w_a f_418_11 ?_
            refine w_a f_418_12 ?_
            refine i_m (fun h => ?_) (fun h => ?_) h
            · refine w_a f_418_16 ?_
              refine w_a f_418_17 ?_
              refine w_a f_418_21 ?_
              refine w_a (ls := [(0, .ref 19), (1, .int x1)]) f_41_35 ?_
              refine w_a f_41_36 ?_
              refine w_a f_41_39 ?_
              refine w_a f_41_40 ?_
              refine w_a f_41_44 ?_
              exact h
            · refine w_a f_418_20 ?_
              refine w_a f_418_21 ?_
              refine w_a (ls := [(0, .ref 19), (1, .int x1)]) f_41_35 ?_
              refine w_a f_41_36 ?_
              refine w_a f_41_39 ?_
              refine w_a f_41_40 ?_
              refine w_a f_41_44 ?_
              exact h
        · refine w_a f_418_20 ?_
          refine w_a f_418_21 ?_
          refine w_a (ls := [(0, .ref 19), (1, .int x1)]) f_41_27 ?_
          refine w_a f_41_28 ?_
          refine w_a f_41_31 ?_
          refine w_a f_41_32 ?_
          refine w_a (ls := [(0, .long (L 19 5)), (2, .long (Int64.ofInt 0))]) f_418_0 ?_
          refine w_a f_418_1 ?_
          refine w_a f_418_2 ?_
          refine i_m (fun h => ?_) (fun h => ?_) h
          · refine w_a f_418_6 ?_
            refine w_a f_418_7 ?_
            refine w_a f_418_21 ?_
            refine w_a (ls := [(0, .ref 19), (1, .int x1)]) f_41_35 ?_
            refine w_a f_41_36 ?_
            refine w_a f_41_43 ?_
            refine w_a f_41_44 ?_
            exact h
          · refine w_a f_418_10 ?_
            refine w_a f_418_11 ?_
            refine w_a f_418_12 ?_
            refine i_m (fun h => ?_) (fun h => ?_) h
            · refine w_a f_418_16 ?_
              refine w_a f_418_17 ?_
              refine w_a f_418_21 ?_
              refine w_a (ls := [(0, .ref 19), (1, .int x1)]) f_41_35 ?_
              refine w_a f_41_36 ?_
              refine w_a f_41_39 ?_
              refine w_a f_41_40 ?_
              refine w_a f_41_44 ?_
              exact h
            · refine w_a f_418_20 ?_
              refine w_a f_418_21 ?_
              refine w_a (ls := [(0, .ref 19), (1, .int x1)]) f_41_35 ?_
              refine w_a f_41_36 ?_
              refine w_a f_41_39 ?_
              refine w_a f_41_40 ?_
              refine w_a f_41_44 ?_
              exact h
    · refine w_a f_41_45 ?_
      refine w_a f_41_46 ?_
      exact w_c (ks := [0]) f_41_47 rfl rfl h
set_option maxRecDepth 10000 in
set_option maxHeartbeats 4000000 in
theorem s_41_50 {Lx : Nat} {I : Mi} {L : Ml} {e : Nat} {Q : Kq} {r : Int32} (h :
    (if (L 19 4) < (Int64.ofInt 0) then
     (if (r * (Int32.ofInt (-1))) < 0 then
      Q (.inl (some (.int (Int32.ofInt 2)))) (gE Lx) I L e
     else
      Q (.inl (some (.int (Int32.ofInt 0)))) (gE Lx) I L e)
    else
     (if (L 19 4) = (Int64.ofInt 0) then
      Q (.inl (some (.int (Int32.ofInt 0)))) (gE Lx) I L e
     else
      (if (r * (Int32.ofInt 1)) < 0 then
       Q (.inl (some (.int (Int32.ofInt 2)))) (gE Lx) I L e
      else
       Q (.inl (some (.int (Int32.ofInt 0)))) (gE Lx) I L e)))) :
    Wp 41 50 [(0, .ref 19)] [.int r] (gE Lx) I L e Q := by
  refine w_a f_41_50 ?_
  refine w_a f_41_51 ?_
  refine w_a f_41_54 ?_
  refine w_a f_41_55 ?_
  refine w_a (ls := [(0, .long (L 19 4)), (2, .long (Int64.ofInt 0))]) f_418_0 ?_
  refine w_a f_418_1 ?_
  refine w_a f_418_2 ?_
  refine i_m (fun h => ?_) (fun h => ?_) h
  · refine w_a f_418_6 ?_
    refine w_a f_418_7 ?_
    refine w_a f_418_21 ?_
    refine w_a (ls := [(0, .ref 19)]) f_41_58 ?_
    refine w_a f_41_59 ?_
    refine i_m (fun h => ?_) (fun h => ?_) h
    · refine w_a f_41_66 ?_
      refine w_a f_41_67 ?_
      exact h
    · refine w_a f_41_62 ?_
      refine w_a f_41_63 ?_
      refine w_a f_41_67 ?_
      exact h
  · refine w_a f_418_10 ?_
    refine w_a f_418_11 ?_
    refine w_a f_418_12 ?_
    refine i_m (fun h => ?_) (fun h => ?_) h
    · refine w_a f_418_16 ?_
      refine w_a f_418_17 ?_
      refine w_a f_418_21 ?_
      refine w_a (ls := [(0, .ref 19)]) f_41_58 ?_
      refine w_a f_41_59 ?_
      refine w_a f_41_62 ?_
      refine w_a f_41_63 ?_
      refine w_a f_41_67 ?_
      exact h
    · refine w_a f_418_20 ?_
      refine w_a f_418_21 ?_
      refine w_a (ls := [(0, .ref 19)]) f_41_58 ?_
      refine w_a f_41_59 ?_
      refine i_m (fun h => ?_) (fun h => ?_) h
      · refine w_a f_41_66 ?_
        refine w_a f_41_67 ?_
        exact h
      · refine w_a f_41_62 ?_
        refine w_a f_41_63 ?_
        refine w_a f_41_67 ?_
        exact h
set_option maxRecDepth 10000 in
set_option maxHeartbeats 4000000 in
theorem s_43_0 {Lx : Nat} {I : Mi} {L : Ml} {e : Nat} {Q : Kq} {x1 : Int32} (h :
    (if ((L 19 5) * x1.toInt64) < (Int64.ofInt 0) then
     (if (L 19 7) < ((L 19 5) * (L 19 5)) then
      Q (.inl (some (.int (x1 * (Int32.ofInt (-1)))))) (gE Lx) I L e
     else
      (if (L 19 7) = ((L 19 5) * (L 19 5)) then
       Q (.inl (some (.int (Int32.ofInt 0)))) (gE Lx) I L e
      else
       Q (.inl (some (.int (x1 * (Int32.ofInt 1))))) (gE Lx) I L e))
    else
     Q (.inl (some (.int x1))) (gE Lx) I L e)) :
    Wp 43 0 [(0, .ref 19), (1, .int x1)] [] (gE Lx) I L e Q := by
  refine w_a f_43_0 ?_
  refine w_a f_43_1 ?_
  refine w_a f_43_4 ?_
  refine w_a f_43_5 ?_
  refine w_a f_43_6 ?_
  refine w_a f_43_7 ?_
  refine w_a (ls := [(2, .long ((L 19 5) * x1.toInt64)), (0, .ref 19), (1, .int x1)]) f_43_8 ?_
  refine w_a f_43_9 ?_
  refine w_a f_43_10 ?_
  refine i_m (fun h => ?_) (fun h => ?_) h
  · refine w_a f_43_16 ?_
    refine w_a f_43_17 ?_
    refine w_a f_43_18 ?_
    refine w_a f_43_21 ?_
    refine w_a f_43_22 ?_
    refine w_a f_43_25 ?_
    refine w_a f_43_26 ?_
    refine w_a f_43_29 ?_
    refine w_a f_43_30 ?_
    refine w_a (ls := [(0, .long (L 19 7)), (2, .long ((L 19 5) * (L 19 5)))]) f_418_0 ?_
    refine w_a f_418_1 ?_
    refine w_a f_418_2 ?_
    refine i_m (fun h => ?_) (fun h => ?_) h
    · refine w_a f_418_6 ?_
      refine w_a f_418_7 ?_
      refine w_a f_418_21 ?_
      refine w_a (ls := [(2, .long ((L 19 5) * x1.toInt64)), (0, .ref 19), (1, .int x1)]) f_43_33 ?_
      refine w_a f_43_34 ?_
      exact h
    · refine w_a f_418_10 ?_
      refine w_a f_418_11 ?_
      refine w_a f_418_12 ?_
      refine i_m (fun h => ?_) (fun h => ?_) h
      · refine w_a f_418_16 ?_
        refine w_a f_418_17 ?_
        refine w_a f_418_21 ?_
        refine w_a (ls := [(2, .long ((L 19 5) * x1.toInt64)), (0, .ref 19), (1, .int x1)]) f_43_33 ?_
        refine w_a f_43_34 ?_
        exact h
      · refine w_a f_418_20 ?_
        refine w_a f_418_21 ?_
        refine w_a (ls := [(2, .long ((L 19 5) * x1.toInt64)), (0, .ref 19), (1, .int x1)]) f_43_33 ?_
        refine w_a f_43_34 ?_
        exact h
  · refine w_a f_43_14 ?_
    refine w_a f_43_15 ?_
    exact h
set_option maxRecDepth 10000 in
set_option maxHeartbeats 4000000 in
theorem s_44_5 {Lx : Nat} {I : Mi} {L : Ml} {e : Nat} {Q : Kq} {r : Int32} (h :
    (if (L 19 4) = (Int64.ofInt 0) then
     (if (Int64.ofInt 0) < ((L 19 5) * r.toInt64) then
      Wp 25 0 [(0, .ref 18), (1, .long (Int64.ofInt 1)), (3, .long (Int64.ofInt 0))] [] (gE Lx) I L e (kcp (Wp 44) 44 17 0 [(0, .ref 19), (2, .ref 18)] 71 [] Q)
     else
      (if (L 19 4) = (Int64.ofInt 0) then
       Wp 25 0 [(0, .ref 18), (1, .long (L 19 6)), (3, .long ((Int64.ofInt 2) * (L 19 5)))] [] (gE Lx) I L e (kcp (Wp 44) 44 45 0 [(0, .ref 19), (2, .ref 18)] 71 [] Q)
      else
       Wp 25 0 [(0, .ref 18), (1, .long ((L 19 5) + (r.toInt64 * (L 19 8)))), (3, .long (L 19 4))] [] (gE Lx) I L e (kcp (Wp 44) 44 68 0 [(0, .ref 19), (2, .ref 18)] 71 [] Q)))
    else
     (if (L 19 4) = (Int64.ofInt 0) then
      Wp 25 0 [(0, .ref 18), (1, .long (L 19 6)), (3, .long ((Int64.ofInt 2) * (L 19 5)))] [] (gE Lx) I L e (kcp (Wp 44) 44 45 0 [(0, .ref 19), (2, .ref 18)] 71 [] Q)
     else
      Wp 25 0 [(0, .ref 18), (1, .long ((L 19 5) + (r.toInt64 * (L 19 8)))), (3, .long (L 19 4))] [] (gE Lx) I L e (kcp (Wp 44) 44 68 0 [(0, .ref 19), (2, .ref 18)] 71 [] Q)))) :
    Wp 44 5 [(0, .ref 19), (2, .ref 18)] [.int r] (gE Lx) I L e Q := by
  refine w_a f_44_5 ?_
  refine w_a (ls := [(3, .int r), (0, .ref 19), (2, .ref 18)]) f_44_6 ?_
  refine w_a f_44_7 ?_
  refine w_a f_44_8 ?_
  refine w_a (ls := [(0, .ref 19), (1, .int r)]) f_42_0 ?_
  refine w_a f_42_1 ?_
  refine w_a f_42_4 ?_
  refine w_a f_42_5 ?_
  refine i_m (fun h => ?_) (fun h => ?_) h
  · refine w_a f_42_9 ?_
    refine w_a f_42_10 ?_
    refine w_a f_42_13 ?_
    refine w_a f_42_14 ?_
    refine w_a f_42_15 ?_
    refine w_a f_42_16 ?_
    refine w_a f_42_17 ?_
    refine i_m (fun h => ?_) (fun h => ?_) h
    · refine w_a f_42_21 ?_
      refine w_a f_42_22 ?_
      refine w_a f_42_26 ?_
      refine w_a (ls := [(3, .int r), (0, .ref 19), (2, .ref 18)]) f_44_11 ?_
      refine w_a f_44_14 ?_
      refine w_a f_44_15 ?_
      refine w_a f_44_16 ?_
      exact w_c (ks := [0, 2]) f_44_17 rfl rfl h
    · refine w_a f_42_25 ?_
      refine w_a f_42_26 ?_
      refine w_a (ls := [(3, .int r), (0, .ref 19), (2, .ref 18)]) f_44_11 ?_
      refine w_a f_44_23 ?_
      refine w_a f_44_24 ?_
      refine w_a f_44_27 ?_
      refine w_a f_44_28 ?_
      refine i_m (fun h => ?_) (fun h => ?_) h
      · refine w_a f_44_32 ?_
        refine w_a f_44_33 ?_
        refine w_a f_44_34 ?_
        refine w_a f_44_37 ?_
        refine w_a f_44_40 ?_
        refine w_a f_44_41 ?_
        refine w_a f_44_44 ?_
        exact w_c (ks := [0, 2]) f_44_45 rfl rfl h
      · refine w_a f_44_51 ?_
        refine w_a f_44_52 ?_
        refine w_a f_44_53 ?_
        refine w_a f_44_56 ?_
        refine w_a f_44_57 ?_
        refine w_a f_44_58 ?_
        refine w_a f_44_59 ?_
        refine w_a f_44_62 ?_
        refine w_a f_44_63 ?_
        refine w_a f_44_64 ?_
        refine w_a f_44_65 ?_
        exact w_c (ks := [0, 2]) f_44_68 rfl rfl h
  · refine w_a f_42_25 ?_
    refine w_a f_42_26 ?_
    refine w_a (ls := [(3, .int r), (0, .ref 19), (2, .ref 18)]) f_44_11 ?_
    refine w_a f_44_23 ?_
    refine w_a f_44_24 ?_
    refine w_a f_44_27 ?_
    refine w_a f_44_28 ?_
    refine i_m (fun h => ?_) (fun h => ?_) h
    · refine w_a f_44_32 ?_
      refine w_a f_44_33 ?_
      refine w_a f_44_34 ?_
      refine w_a f_44_37 ?_
      refine w_a f_44_40 ?_
      refine w_a f_44_41 ?_
      refine w_a f_44_44 ?_
      exact w_c (ks := [0, 2]) f_44_45 rfl rfl h
    · refine w_a f_44_51 ?_
      refine w_a f_44_52 ?_
      refine w_a f_44_53 ?_
      refine w_a f_44_56 ?_
      refine w_a f_44_57 ?_
      refine w_a f_44_58 ?_
      refine w_a f_44_59 ?_
      refine w_a f_44_62 ?_
      refine w_a f_44_63 ?_
      refine w_a f_44_64 ?_
      refine w_a f_44_65 ?_
      exact w_c (ks := [0, 2]) f_44_68 rfl rfl h
set_option maxRecDepth 10000 in
set_option maxHeartbeats 4000000 in
theorem s_44_20 {Lx : Nat} {I : Mi} {L : Ml} {e : Nat} {Q : Kq} (h :
    Wp 44 71 [(0, .ref 19), (2, .ref 18)] [] (gE Lx) I L e Q) :
    Wp 44 20 [(0, .ref 19), (2, .ref 18)] [] (gE Lx) I L e Q := by
  refine w_a f_44_20 ?_
  exact w_n (ks := [0, 2]) rfl h
set_option maxRecDepth 10000 in
set_option maxHeartbeats 4000000 in
theorem s_44_48 {Lx : Nat} {I : Mi} {L : Ml} {e : Nat} {Q : Kq} (h :
    Wp 44 71 [(0, .ref 19), (2, .ref 18)] [] (gE Lx) I L e Q) :
    Wp 44 48 [(0, .ref 19), (2, .ref 18)] [] (gE Lx) I L e Q := by
  refine w_a f_44_48 ?_
  exact w_n (ks := [0, 2]) rfl h
set_option maxRecDepth 10000 in
set_option maxHeartbeats 4000000 in
theorem s_44_71 {Lx : Nat} {I : Mi} {L : Ml} {e : Nat} {Q : Kq} (h :
    Q (.inl none) (gE Lx) I L e) :
    Wp 44 71 [(0, .ref 19), (2, .ref 18)] [] (gE Lx) I L e Q := by
  refine w_a f_44_71 ?_
  exact h
set_option maxRecDepth 10000 in
set_option maxHeartbeats 4000000 in
theorem s_45_0 {Lx : Nat} {I : Mi} {L : Ml} {e : Nat} {Q : Kq} {x1 : Int32} (h :
    (if x1 = 0 then
     (if (Int32.ofInt 1) = (I 19 3) then
      Q (.inl (some (.int (Int32.ofInt 1)))) (gE Lx) I L e
     else
      Q (.inl (some (.int (Int32.ofInt (-1))))) (gE Lx) I L e)
    else
     (if (Int32.ofInt 0) = (I 19 3) then
      Q (.inl (some (.int (Int32.ofInt 1)))) (gE Lx) I L e
     else
      Q (.inl (some (.int (Int32.ofInt (-1))))) (gE Lx) I L e))) :
    Wp 45 0 [(0, .ref 19), (1, .int x1)] [] (gE Lx) I L e Q := by
  refine w_a f_45_0 ?_
  refine w_a f_45_1 ?_
  refine i_m (fun h => ?_) (fun h => ?_) h
  · refine w_a f_45_4 ?_
    refine w_a f_45_5 ?_
    refine w_a f_45_9 ?_
    refine w_a f_45_10 ?_
    refine w_a f_45_13 ?_
    refine i_m (fun h => ?_) (fun h => ?_) h
    · refine w_a f_45_16 ?_
      refine w_a f_45_17 ?_
      refine w_a f_45_21 ?_
      exact h
    · refine w_a f_45_20 ?_
      refine w_a f_45_21 ?_
      exact h
  · refine w_a f_45_8 ?_
    refine w_a f_45_9 ?_
    refine w_a f_45_10 ?_
    refine w_a f_45_13 ?_
    refine i_m (fun h => ?_) (fun h => ?_) h
    · refine w_a f_45_16 ?_
      refine w_a f_45_17 ?_
      refine w_a f_45_21 ?_
      exact h
    · refine w_a f_45_20 ?_
      refine w_a f_45_21 ?_
      exact h
set_option maxRecDepth 10000 in
set_option maxHeartbeats 4000000 in
theorem s_46_5 {Lx : Nat} {I : Mi} {L : Ml} {e : Nat} {Q : Kq} {r : Int32} (h :
    (if (L 19 4) = (Int64.ofInt 0) then
     (if (Int64.ofInt 0) < ((L 19 5) * r.toInt64) then
      Q (.inl (some (.long (Int64.ofInt 1000000000)))) (gE Lx) I L e
     else
      (if (L 19 4) = (Int64.ofInt 0) then
       (if (L 19 5) = (Int64.ofInt 0) then
        Q (.inl (some (.long (Int64.ofInt 0)))) (gE Lx) I L e
       else
        (if ((Int64.ofInt 2) * (L 19 5)) = 0 then False else
         (if (((Int64.ofInt 1000) * (L 19 6)) ^^^ ((Int64.ofInt 2) * (L 19 5))) < (Int64.ofInt 0) then
          (if ((((Int64.ofInt 1000) * (L 19 6)) / ((Int64.ofInt 2) * (L 19 5))) * ((Int64.ofInt 2) * (L 19 5))) = ((Int64.ofInt 1000) * (L 19 6)) then
           Q (.inl (some (.long (((Int64.ofInt 1000) * (L 19 6)) / ((Int64.ofInt 2) * (L 19 5)))))) (gE Lx) I L e
          else
           Q (.inl (some (.long ((((Int64.ofInt 1000) * (L 19 6)) / ((Int64.ofInt 2) * (L 19 5))) - (Int64.ofInt 1))))) (gE Lx) I L e)
         else
          Q (.inl (some (.long (((Int64.ofInt 1000) * (L 19 6)) / ((Int64.ofInt 2) * (L 19 5)))))) (gE Lx) I L e)))
      else
       (if (Int64.ofInt 0) < (L 19 4) then
        Wp 32 0 [(0, .long ((Int64.ofInt 1000000) * (L 19 7)))] [] (gE Lx) I L e (kcp (Wp 47) 47 10 0 [(0, .ref 19), (1, .int (r * (Int32.ofInt 1))), (2, .long ((Int64.ofInt 1000000) * (L 19 7)))] 71 [] (kcp (Wp 46) 46 90 0 [(0, .ref 19), (3, .int (Int32.ofInt 1))] 71 [.long ((Int64.ofInt 1000) * (L 19 5))] Q))
       else
        Wp 32 0 [(0, .long ((Int64.ofInt 1000000) * (L 19 7)))] [] (gE Lx) I L e (kcp (Wp 47) 47 10 0 [(0, .ref 19), (1, .int (r * (Int32.ofInt (-1)))), (2, .long ((Int64.ofInt 1000000) * (L 19 7)))] 71 [] (kcp (Wp 46) 46 90 0 [(0, .ref 19), (3, .int (Int32.ofInt (-1)))] 71 [.long ((Int64.ofInt (-1000)) * (L 19 5))] Q)))))
    else
     (if (L 19 4) = (Int64.ofInt 0) then
      (if (L 19 5) = (Int64.ofInt 0) then
       Q (.inl (some (.long (Int64.ofInt 0)))) (gE Lx) I L e
      else
       (if ((Int64.ofInt 2) * (L 19 5)) = 0 then False else
        (if (((Int64.ofInt 1000) * (L 19 6)) ^^^ ((Int64.ofInt 2) * (L 19 5))) < (Int64.ofInt 0) then
         (if ((((Int64.ofInt 1000) * (L 19 6)) / ((Int64.ofInt 2) * (L 19 5))) * ((Int64.ofInt 2) * (L 19 5))) = ((Int64.ofInt 1000) * (L 19 6)) then
          Q (.inl (some (.long (((Int64.ofInt 1000) * (L 19 6)) / ((Int64.ofInt 2) * (L 19 5)))))) (gE Lx) I L e
         else
          Q (.inl (some (.long ((((Int64.ofInt 1000) * (L 19 6)) / ((Int64.ofInt 2) * (L 19 5))) - (Int64.ofInt 1))))) (gE Lx) I L e)
        else
         Q (.inl (some (.long (((Int64.ofInt 1000) * (L 19 6)) / ((Int64.ofInt 2) * (L 19 5)))))) (gE Lx) I L e)))
     else
      (if (Int64.ofInt 0) < (L 19 4) then
       Wp 32 0 [(0, .long ((Int64.ofInt 1000000) * (L 19 7)))] [] (gE Lx) I L e (kcp (Wp 47) 47 10 0 [(0, .ref 19), (1, .int (r * (Int32.ofInt 1))), (2, .long ((Int64.ofInt 1000000) * (L 19 7)))] 71 [] (kcp (Wp 46) 46 90 0 [(0, .ref 19), (3, .int (Int32.ofInt 1))] 71 [.long ((Int64.ofInt 1000) * (L 19 5))] Q))
      else
       Wp 32 0 [(0, .long ((Int64.ofInt 1000000) * (L 19 7)))] [] (gE Lx) I L e (kcp (Wp 47) 47 10 0 [(0, .ref 19), (1, .int (r * (Int32.ofInt (-1)))), (2, .long ((Int64.ofInt 1000000) * (L 19 7)))] 71 [] (kcp (Wp 46) 46 90 0 [(0, .ref 19), (3, .int (Int32.ofInt (-1)))] 71 [.long ((Int64.ofInt (-1000)) * (L 19 5))] Q)))))) :
    Wp 46 5 [(0, .ref 19)] [.int r] (gE Lx) I L e Q := by
  refine w_a f_46_5 ?_
  refine w_a (ls := [(2, .int r), (0, .ref 19)]) f_46_6 ?_
  refine w_a f_46_7 ?_
  refine w_a f_46_8 ?_
  refine w_a (ls := [(0, .ref 19), (1, .int r)]) f_42_0 ?_
  refine w_a f_42_1 ?_
  refine w_a f_42_4 ?_
  refine w_a f_42_5 ?_
  refine i_m (fun h => ?_) (fun h => ?_) h
  · refine w_a f_42_9 ?_
    refine w_a f_42_10 ?_
    refine w_a f_42_13 ?_
    refine w_a f_42_14 ?_
    refine w_a f_42_15 ?_
    refine w_a f_42_16 ?_
    refine w_a f_42_17 ?_
    refine i_m (fun h => ?_) (fun h => ?_) h
    · refine w_a f_42_21 ?_
      refine w_a f_42_22 ?_
      refine w_a f_42_26 ?_
      refine w_a (ls := [(2, .int r), (0, .ref 19)]) f_46_11 ?_
      refine w_a f_46_14 ?_
      refine w_a f_46_17 ?_
      exact h
    · refine w_a f_42_25 ?_
      refine w_a f_42_26 ?_
      refine w_a (ls := [(2, .int r), (0, .ref 19)]) f_46_11 ?_
      refine w_a f_46_18 ?_
      refine w_a f_46_19 ?_
      refine w_a f_46_22 ?_
      refine w_a f_46_23 ?_
      refine i_m (fun h => ?_) (fun h => ?_) h
      · refine w_a f_46_27 ?_
        refine w_a f_46_28 ?_
        refine w_a f_46_31 ?_
        refine w_a f_46_32 ?_
        refine i_m (fun h => ?_) (fun h => ?_) h
        · refine w_a f_46_36 ?_
          refine w_a f_46_37 ?_
          refine w_a f_46_59 ?_
          exact h
        · refine w_a f_46_40 ?_
          refine w_a f_46_43 ?_
          refine w_a f_46_44 ?_
          refine w_a f_46_47 ?_
          refine w_a f_46_48 ?_
          refine w_a f_46_51 ?_
          refine w_a f_46_52 ?_
          refine w_a f_46_55 ?_
          refine w_a f_46_56 ?_
          refine w_a (ls := [(0, .long ((Int64.ofInt 1000) * (L 19 6))), (2, .long ((Int64.ofInt 2) * (L 19 5)))]) f_416_0 ?_
          refine w_a f_416_1 ?_
          refine w_a f_416_2 ?_
          refine i_m id (fun h => ?_) h
          refine w_a f_416_3 ?_
          refine w_a (ls := [(4, .long (((Int64.ofInt 1000) * (L 19 6)) / ((Int64.ofInt 2) * (L 19 5)))), (0, .long ((Int64.ofInt 1000) * (L 19 6))), (2, .long ((Int64.ofInt 2) * (L 19 5)))]) f_416_5 ?_
          refine w_a f_416_6 ?_
          refine w_a f_416_7 ?_
          refine w_a f_416_8 ?_
          refine w_a f_416_9 ?_
          refine i_m (fun h => ?_) (fun h => ?_) h
          · refine w_a f_416_13 ?_
            refine w_a f_416_15 ?_
            refine w_a f_416_16 ?_
            refine w_a f_416_17 ?_
            refine w_a f_416_18 ?_
            refine i_m (fun h => ?_) (fun h => ?_) h
            · refine w_a f_416_27 ?_
              refine w_a f_416_29 ?_
              refine w_a (ls := [(2, .int r), (0, .ref 19)]) f_46_59 ?_
              exact h
            · refine w_a f_416_22 ?_
              refine w_a f_416_24 ?_
              refine w_a f_416_25 ?_
              refine w_a f_416_26 ?_
              refine w_a (ls := [(2, .int r), (0, .ref 19)]) f_46_59 ?_
              exact h
          · refine w_a f_416_27 ?_
            refine w_a f_416_29 ?_
            refine w_a (ls := [(2, .int r), (0, .ref 19)]) f_46_59 ?_
            exact h
      · refine w_a f_46_60 ?_
        refine w_a f_46_61 ?_
        refine w_a f_46_64 ?_
        refine w_a f_46_65 ?_
        refine i_m (fun h => ?_) (fun h => ?_) h
        · refine w_a f_46_69 ?_
          refine w_a f_46_70 ?_
          refine w_a f_46_74 ?_
          refine w_a (ls := [(3, .int (Int32.ofInt 1)), (2, .int r), (0, .ref 19)]) f_46_75 ?_
          refine w_a f_46_76 ?_
          refine w_a f_46_79 ?_
          refine w_a f_46_80 ?_
          refine w_a f_46_81 ?_
          refine w_a f_46_82 ?_
          refine w_a f_46_85 ?_
          refine w_a f_46_86 ?_
          refine w_a f_46_87 ?_
          refine w_a f_46_88 ?_
          refine w_a f_46_89 ?_
          refine w_c (ks := [0, 3]) f_46_90 rfl rfl ?_
          refine w_a (ls := [(0, .ref 19), (1, .int (r * (Int32.ofInt 1)))]) f_47_0 ?_
          refine w_a f_47_3 ?_
          refine w_a f_47_4 ?_
          refine w_a f_47_7 ?_
          refine w_a f_47_8 ?_
          refine w_a (ls := [(2, .long ((Int64.ofInt 1000000) * (L 19 7))), (0, .ref 19), (1, .int (r * (Int32.ofInt 1)))]) f_47_9 ?_
          exact w_c (ks := [0, 1, 2]) f_47_10 rfl rfl h
        · refine w_a f_46_73 ?_
          refine w_a f_46_74 ?_
          refine w_a (ls := [(3, .int (Int32.ofInt (-1))), (2, .int r), (0, .ref 19)]) f_46_75 ?_
          refine w_a f_46_76 ?_
          refine w_a f_46_79 ?_
          refine w_a f_46_80 ?_
          refine w_a f_46_81 ?_
          refine w_a f_46_82 ?_
          refine w_a f_46_85 ?_
          refine w_a f_46_86 ?_
          refine w_a f_46_87 ?_
          refine w_a f_46_88 ?_
          refine w_a f_46_89 ?_
          refine w_c (ks := [0, 3]) f_46_90 rfl rfl ?_
          refine w_a (ls := [(0, .ref 19), (1, .int (r * (Int32.ofInt (-1))))]) f_47_0 ?_
          refine w_a f_47_3 ?_
          refine w_a f_47_4 ?_
          refine w_a f_47_7 ?_
          refine w_a f_47_8 ?_
          refine w_a (ls := [(2, .long ((Int64.ofInt 1000000) * (L 19 7))), (0, .ref 19), (1, .int (r * (Int32.ofInt (-1))))]) f_47_9 ?_
          exact w_c (ks := [0, 1, 2]) f_47_10 rfl rfl h
  · refine w_a f_42_25 ?_
    refine w_a f_42_26 ?_
    refine w_a (ls := [(2, .int r), (0, .ref 19)]) f_46_11 ?_
    refine w_a f_46_18 ?_
    refine w_a f_46_19 ?_
    refine w_a f_46_22 ?_
    refine w_a f_46_23 ?_
    refine i_m (fun h => ?_) (fun h => ?_) h
    · refine w_a f_46_27 ?_
      refine w_a f_46_28 ?_
      refine w_a f_46_31 ?_
      refine w_a f_46_32 ?_
      refine i_m (fun h => ?_) (fun h => ?_) h
      · refine w_a f_46_36 ?_
        refine w_a f_46_37 ?_
        refine w_a f_46_59 ?_
        exact h
      · refine w_a f_46_40 ?_
        refine w_a f_46_43 ?_
        refine w_a f_46_44 ?_
        refine w_a f_46_47 ?_
        refine w_a f_46_48 ?_
        refine w_a f_46_51 ?_
        refine w_a f_46_52 ?_
        refine w_a f_46_55 ?_
        refine w_a f_46_56 ?_
        refine w_a (ls := [(0, .long ((Int64.ofInt 1000) * (L 19 6))), (2, .long ((Int64.ofInt 2) * (L 19 5)))]) f_416_0 ?_
        refine w_a f_416_1 ?_
        refine w_a f_416_2 ?_
        refine i_m id (fun h => ?_) h
        refine w_a f_416_3 ?_
        refine w_a (ls := [(4, .long (((Int64.ofInt 1000) * (L 19 6)) / ((Int64.ofInt 2) * (L 19 5)))), (0, .long ((Int64.ofInt 1000) * (L 19 6))), (2, .long ((Int64.ofInt 2) * (L 19 5)))]) f_416_5 ?_
        refine w_a f_416_6 ?_
        refine w_a f_416_7 ?_
        refine w_a f_416_8 ?_
        refine w_a f_416_9 ?_
        refine i_m (fun h => ?_) (fun h => ?_) h
        · refine w_a f_416_13 ?_
          refine w_a f_416_15 ?_
          refine w_a f_416_16 ?_
          refine w_a f_416_17 ?_
          refine w_a f_416_18 ?_
          refine i_m (fun h => ?_) (fun h => ?_) h
          · refine w_a f_416_27 ?_
            refine w_a f_416_29 ?_
            refine w_a (ls := [(2, .int r), (0, .ref 19)]) f_46_59 ?_
            exact h
          · refine w_a f_416_22 ?_
            refine w_a f_416_24 ?_
            refine w_a f_416_25 ?_
            refine w_a f_416_26 ?_
            refine w_a (ls := [(2, .int r), (0, .ref 19)]) f_46_59 ?_
            exact h
        · refine w_a f_416_27 ?_
          refine w_a f_416_29 ?_
          refine w_a (ls := [(2, .int r), (0, .ref 19)]) f_46_59 ?_
          exact h
    · refine w_a f_46_60 ?_
      refine w_a f_46_61 ?_
      refine w_a f_46_64 ?_
      refine w_a f_46_65 ?_
      refine i_m (fun h => ?_) (fun h => ?_) h
      · refine w_a f_46_69 ?_
        refine w_a f_46_70 ?_
        refine w_a f_46_74 ?_
        refine w_a (ls := [(3, .int (Int32.ofInt 1)), (2, .int r), (0, .ref 19)]) f_46_75 ?_
        refine w_a f_46_76 ?_
        refine w_a f_46_79 ?_
        refine w_a f_46_80 ?_
        refine w_a f_46_81 ?_
        refine w_a f_46_82 ?_
        refine w_a f_46_85 ?_
        refine w_a f_46_86 ?_
        refine w_a f_46_87 ?_
        refine w_a f_46_88 ?_
        refine w_a f_46_89 ?_
        refine w_c (ks := [0, 3]) f_46_90 rfl rfl ?_
        refine w_a (ls := [(0, .ref 19), (1, .int (r * (Int32.ofInt 1)))]) f_47_0 ?_
        refine w_a f_47_3 ?_
        refine w_a f_47_4 ?_
        refine w_a f_47_7 ?_
        refine w_a f_47_8 ?_
        refine w_a (ls := [(2, .long ((Int64.ofInt 1000000) * (L 19 7))), (0, .ref 19), (1, .int (r * (Int32.ofInt 1)))]) f_47_9 ?_
        exact w_c (ks := [0, 1, 2]) f_47_10 rfl rfl h
      · refine w_a f_46_73 ?_
        refine w_a f_46_74 ?_
        refine w_a (ls := [(3, .int (Int32.ofInt (-1))), (2, .int r), (0, .ref 19)]) f_46_75 ?_
        refine w_a f_46_76 ?_
        refine w_a f_46_79 ?_
        refine w_a f_46_80 ?_
        refine w_a f_46_81 ?_
        refine w_a f_46_82 ?_
        refine w_a f_46_85 ?_
        refine w_a f_46_86 ?_
        refine w_a f_46_87 ?_
        refine w_a f_46_88 ?_
        refine w_a f_46_89 ?_
        refine w_c (ks := [0, 3]) f_46_90 rfl rfl ?_
        refine w_a (ls := [(0, .ref 19), (1, .int (r * (Int32.ofInt (-1))))]) f_47_0 ?_
        refine w_a f_47_3 ?_
        refine w_a f_47_4 ?_
        refine w_a f_47_7 ?_
        refine w_a f_47_8 ?_
        refine w_a (ls := [(2, .long ((Int64.ofInt 1000000) * (L 19 7))), (0, .ref 19), (1, .int (r * (Int32.ofInt (-1))))]) f_47_9 ?_
        exact w_c (ks := [0, 1, 2]) f_47_10 rfl rfl h
set_option maxRecDepth 10000 in
set_option maxHeartbeats 4000000 in
theorem s_46_93 {Lx : Nat} {I : Mi} {L : Ml} {e : Nat} {Q : Kq} {x3 : Int32} {rl0 : Int64} {rl : Int64} (h :
    (if (x3.toInt64 * (L 19 4)) = 0 then False else
     (if ((rl0 + rl) ^^^ (x3.toInt64 * (L 19 4))) < (Int64.ofInt 0) then
      (if (((rl0 + rl) / (x3.toInt64 * (L 19 4))) * (x3.toInt64 * (L 19 4))) = (rl0 + rl) then
       Q (.inl (some (.long ((rl0 + rl) / (x3.toInt64 * (L 19 4)))))) (gE Lx) I L e
      else
       Q (.inl (some (.long (((rl0 + rl) / (x3.toInt64 * (L 19 4))) - (Int64.ofInt 1))))) (gE Lx) I L e)
     else
      Q (.inl (some (.long ((rl0 + rl) / (x3.toInt64 * (L 19 4)))))) (gE Lx) I L e))) :
    Wp 46 93 [(0, .ref 19), (3, .int x3)] [.long rl, .long rl0] (gE Lx) I L e Q := by
  refine w_a f_46_93 ?_
  refine w_a f_46_94 ?_
  refine w_a f_46_95 ?_
  refine w_a f_46_96 ?_
  refine w_a f_46_97 ?_
  refine w_a f_46_100 ?_
  refine w_a f_46_101 ?_
  refine w_a (ls := [(0, .long (rl0 + rl)), (2, .long (x3.toInt64 * (L 19 4)))]) f_416_0 ?_
  refine w_a f_416_1 ?_
  refine w_a f_416_2 ?_
  refine i_m id (fun h => ?_) h
  refine w_a f_416_3 ?_
  refine w_a (ls := [(4, .long ((rl0 + rl) / (x3.toInt64 * (L 19 4)))), (0, .long (rl0 + rl)), (2, .long (x3.toInt64 * (L 19 4)))]) f_416_5 ?_
  refine w_a f_416_6 ?_
  refine w_a f_416_7 ?_
  refine w_a f_416_8 ?_
  refine w_a f_416_9 ?_
  refine i_m (fun h => ?_) (fun h => ?_) h
  · refine w_a f_416_13 ?_
    refine w_a f_416_15 ?_
    refine w_a f_416_16 ?_
    refine w_a f_416_17 ?_
    refine w_a f_416_18 ?_
    refine i_m (fun h => ?_) (fun h => ?_) h
    · refine w_a f_416_27 ?_
      refine w_a f_416_29 ?_
      refine w_a (ls := [(0, .ref 19), (3, .int x3)]) f_46_104 ?_
      exact h
    · refine w_a f_416_22 ?_
      refine w_a f_416_24 ?_
      refine w_a f_416_25 ?_
      refine w_a f_416_26 ?_
      refine w_a (ls := [(0, .ref 19), (3, .int x3)]) f_46_104 ?_
      exact h
  · refine w_a f_416_27 ?_
    refine w_a f_416_29 ?_
    refine w_a (ls := [(0, .ref 19), (3, .int x3)]) f_46_104 ?_
    exact h
set_option maxRecDepth 10000 in
set_option maxHeartbeats 4000000 in
theorem s_47_13 {Lx : Nat} {I : Mi} {L : Ml} {e : Nat} {Q : Kq} {x1 : Int32} {y2 : Int64} {rl : Int64} (h :
    (if 0 < x1 then
     Q (.inl (some (.long rl))) (gE Lx) I L e
    else
     (if (rl * rl) = y2 then
      Q (.inl (some (.long (-rl)))) (gE Lx) I L e
     else
      Q (.inl (some (.long ((-rl) - (Int64.ofInt 1))))) (gE Lx) I L e))) :
    Wp 47 13 [(0, .ref 19), (1, .int x1), (2, .long y2)] [.long rl] (gE Lx) I L e Q := by
  refine w_a f_47_13 ?_
  refine w_a (ls := [(4, .long rl), (0, .ref 19), (1, .int x1), (2, .long y2)]) f_47_15 ?_
  refine w_a f_47_16 ?_
  refine i_m (fun h => ?_) (fun h => ?_) h
  · refine w_a f_47_19 ?_
    refine w_a f_47_21 ?_
    exact h
  · refine w_a f_47_22 ?_
    refine w_a f_47_24 ?_
    refine w_a f_47_26 ?_
    refine w_a f_47_27 ?_
    refine w_a f_47_28 ?_
    refine i_m (fun h => ?_) (fun h => ?_) h
    · refine w_a f_47_32 ?_
      refine w_a f_47_34 ?_
      refine w_a f_47_35 ?_
      refine w_a f_47_43 ?_
      exact h
    · refine w_a f_47_38 ?_
      refine w_a f_47_40 ?_
      refine w_a f_47_41 ?_
      refine w_a f_47_42 ?_
      refine w_a f_47_43 ?_
      exact h
set_option maxRecDepth 10000 in
set_option maxHeartbeats 4000000 in
theorem s_48_6 {Lx : Nat} {I : Mi} {L : Ml} {e : Nat} {Q : Kq} {r : Int32} (h :
    Wp 25 0 [(0, .ref 18), (1, .long (r.toInt64 * (L 19 8))), (3, .long (L 19 9))] [] (gE Lx) I L e (kcp (Wp 48) 48 16 0 [(0, .ref 19), (2, .ref 18)] 71 [] Q)) :
    Wp 48 6 [(0, .ref 19), (2, .ref 18)] [.int r, .ref 18] (gE Lx) I L e Q := by
  refine w_a f_48_6 ?_
  refine w_a f_48_7 ?_
  refine w_a f_48_8 ?_
  refine w_a f_48_11 ?_
  refine w_a f_48_12 ?_
  refine w_a f_48_13 ?_
  exact w_c (ks := [0, 2]) f_48_16 rfl rfl h
set_option maxRecDepth 10000 in
set_option maxHeartbeats 4000000 in
theorem s_48_19 {Lx : Nat} {I : Mi} {L : Ml} {e : Nat} {Q : Kq} (h :
    Q (.inl none) (gE Lx) I L e) :
    Wp 48 19 [(0, .ref 19), (2, .ref 18)] [] (gE Lx) I L e Q := by
  refine w_a f_48_19 ?_
  exact h
set_option maxRecDepth 10000 in
set_option maxHeartbeats 4000000 in
theorem s_49_12 {Lx : Nat} {I : Mi} {L : Ml} {e : Nat} {Q : Kq} {r : Int32} (h :
    Q (.inl (some (.int r))) (gE Lx) I L e) :
    Wp 49 12 [(0, .ref 19)] [.int r] (gE Lx) I L e Q := by
  refine w_a f_49_12 ?_
  refine w_a f_49_21 ?_
  exact h
set_option maxRecDepth 10000 in
set_option maxHeartbeats 4000000 in
theorem s_49_20 {Lx : Nat} {I : Mi} {L : Ml} {e : Nat} {Q : Kq} {r : Int32} (h :
    Q (.inl (some (.int (-r)))) (gE Lx) I L e) :
    Wp 49 20 [(0, .ref 19)] [.int r] (gE Lx) I L e Q := by
  refine w_a f_49_20 ?_
  refine w_a f_49_21 ?_
  exact h
set_option maxRecDepth 10000 in
set_option maxHeartbeats 4000000 in
theorem s_50_17 {Lx : Nat} {I : Mi} {L : Ml} {e : Nat} {Q : Kq} (h :
    Q (.inl none) (gE Lx) I L e) :
    Wp 50 17 [(0, .ref 19), (1, .ref 18)] [] (gE Lx) I L e Q := by
  refine w_a f_50_17 ?_
  exact h
set_option maxRecDepth 10000 in
set_option maxHeartbeats 4000000 in
theorem s_52_16 {Lx : Nat} {I : Mi} {L : Ml} {e : Nat} {Q : Kq} {r : Int32} (h :
    (if r = 0 then
     Q (.inl (some (.int (Int32.ofInt 0)))) (gE Lx) I L e
    else if r = 1 then
     Q (.inl (some (.int (Int32.ofInt 1)))) (gE Lx) I L e
    else False)) :
    Wp 52 16 [(0, .ref 17), (1, .ref 14)] [.int r] (gE Lx) I L e Q := by
  refine w_a f_52_16 ?_
  refine i_m (fun h => ?_) (i_m (fun h => ?_) id) h
  · exact h
  · exact h
set_option maxRecDepth 10000 in
set_option maxHeartbeats 4000000 in
theorem s_53_0 {Lx : Nat} {I : Mi} {L : Ml} {e : Nat} {Q : Kq} {y1 : Int64} {y3 : Int64} {y5 : Int64} (h :
    Wp 26 0 [(0, .long y1), (2, .long y3)] [] (gE Lx) I L e (kcp (Wp 53) 53 2 0 [(0, .ref 17), (1, .long y1), (3, .long y3), (5, .long y5)] 71 [] Q)) :
    Wp 53 0 [(0, .ref 17), (1, .long y1), (3, .long y3), (5, .long y5)] [] (gE Lx) I L e Q := by
  refine w_a f_53_0 ?_
  refine w_a f_53_1 ?_
  exact w_c (ks := [0, 1, 3, 5]) f_53_2 rfl rfl h
set_option maxRecDepth 10000 in
set_option maxHeartbeats 4000000 in
theorem s_53_5 {Lx : Nat} {I : Mi} {L : Ml} {e : Nat} {Q : Kq} {y1 : Int64} {y3 : Int64} {y5 : Int64} {rl : Int64} (h :
    Wp 26 0 [(0, .long rl), (2, .long y5)] [] (gE Lx) I L e (kcp (Wp 53) 53 7 0 [(0, .ref 17), (1, .long y1), (3, .long y3), (5, .long y5)] 71 [] Q)) :
    Wp 53 5 [(0, .ref 17), (1, .long y1), (3, .long y3), (5, .long y5)] [.long rl] (gE Lx) I L e Q := by
  refine w_a f_53_5 ?_
  exact w_c (ks := [0, 1, 3, 5]) f_53_7 rfl rfl h
set_option maxRecDepth 10000 in
set_option maxHeartbeats 4000000 in
theorem s_53_10 {Lx : Nat} {I : Mi} {L : Ml} {e : Nat} {Q : Kq} {y1 : Int64} {y3 : Int64} {y5 : Int64} {rl : Int64} (h :
    (if y5 = (Int64.ofInt 0) then
     Q (.inl (some (.int (Int32.ofInt 0)))) (gE Lx) I L e
    else
     (if rl = (Int64.ofInt 0) then
      Q (.inl (some (.int (Int32.ofInt 0)))) (gE Lx) I L e
     else
      (if rl = 0 then False else
       (if rl = 0 then False else
        (if rl = 0 then False else
         (if (Int64.ofInt 1000) < (y1 / rl) then
          Q (.inl (some (.int (Int32.ofInt 0)))) (gE Lx) I (ul (ul (ul L 17 0 (y1 / rl)) 17 1 (y3 / rl)) 17 2 (y5 / rl)) e
         else
          (if (Int64.ofInt 1000) < (y3 / rl) then
           Q (.inl (some (.int (Int32.ofInt 0)))) (gE Lx) I (ul (ul (ul L 17 0 (y1 / rl)) 17 1 (y3 / rl)) 17 2 (y5 / rl)) e
          else
           (if (y3 / rl) < (Int64.ofInt (-1000)) then
            Q (.inl (some (.int (Int32.ofInt 0)))) (gE Lx) I (ul (ul (ul L 17 0 (y1 / rl)) 17 1 (y3 / rl)) 17 2 (y5 / rl)) e
           else
            (if (Int64.ofInt 1000) < (y5 / rl) then
             Q (.inl (some (.int (Int32.ofInt 0)))) (gE Lx) I (ul (ul (ul L 17 0 (y1 / rl)) 17 1 (y3 / rl)) 17 2 (y5 / rl)) e
            else
             Q (.inl (some (.int (Int32.ofInt 1)))) (gE Lx) I (ul (ul (ul L 17 0 (y1 / rl)) 17 1 (y3 / rl)) 17 2 (y5 / rl)) e)))))))))) :
    Wp 53 10 [(0, .ref 17), (1, .long y1), (3, .long y3), (5, .long y5)] [.long rl] (gE Lx) I L e Q := by
  refine w_a f_53_10 ?_
  refine w_a (ls := [(7, .long rl), (0, .ref 17), (1, .long y1), (3, .long y3), (5, .long y5)]) f_53_12 ?_
  refine w_a f_53_14 ?_
  refine w_a f_53_15 ?_
  refine i_m (fun h => ?_) (fun h => ?_) h
  · refine w_a f_53_26 ?_
    refine w_a f_53_27 ?_
    exact h
  · refine w_a f_53_19 ?_
    refine w_a f_53_21 ?_
    refine w_a f_53_22 ?_
    refine i_m (fun h => ?_) (fun h => ?_) h
    · refine w_a f_53_26 ?_
      refine w_a f_53_27 ?_
      exact h
    · refine w_a f_53_28 ?_
      refine w_a f_53_29 ?_
      refine w_a f_53_30 ?_
      refine w_a f_53_32 ?_
      refine i_m id (fun h => ?_) h
      refine w_a f_53_33 ?_
      refine w_a f_53_36 ?_
      refine w_a f_53_37 ?_
      refine w_a f_53_38 ?_
      refine w_a f_53_40 ?_
      refine i_m id (fun h => ?_) h
      refine w_a f_53_41 ?_
      refine w_a f_53_44 ?_
      refine w_a f_53_45 ?_
      refine w_a f_53_47 ?_
      refine w_a f_53_49 ?_
      refine i_m id (fun h => ?_) h
      refine w_a f_53_50 ?_
      refine w_a f_53_53 ?_
      refine w_a f_53_54 ?_
      refine w_a f_53_57 ?_
      refine w_a f_53_60 ?_
      refine i_m (fun h => ?_) (fun h => ?_) h
      · refine w_a f_53_101 ?_
        refine w_a f_53_102 ?_
        exact h
      · refine w_a f_53_64 ?_
        refine w_a f_53_65 ?_
        refine w_a f_53_68 ?_
        refine w_a f_53_71 ?_
        refine i_m (fun h => ?_) (fun h => ?_) h
        · refine w_a f_53_101 ?_
          refine w_a f_53_102 ?_
          exact h
        · refine w_a f_53_75 ?_
          refine w_a f_53_76 ?_
          refine w_a f_53_79 ?_
          refine w_a f_53_82 ?_
          refine i_m (fun h => ?_) (fun h => ?_) h
          · refine w_a f_53_101 ?_
            refine w_a f_53_102 ?_
            exact h
          · refine w_a f_53_86 ?_
            refine w_a f_53_87 ?_
            refine w_a f_53_90 ?_
            refine w_a f_53_93 ?_
            refine i_m (fun h => ?_) (fun h => ?_) h
            · refine w_a f_53_101 ?_
              refine w_a f_53_102 ?_
              exact h
            · refine w_a f_53_97 ?_
              refine w_a f_53_98 ?_
              refine w_a f_53_102 ?_
              exact h
set_option maxRecDepth 10000 in
set_option maxHeartbeats 4000000 in
theorem s_57_16 {Lx : Nat} {I : Mi} {L : Ml} {e : Nat} {Q : Kq} (h :
    Wp 57 36 [(0, .ref 17), (2, .ref 18)] [] (gE Lx) I L e Q) :
    Wp 57 16 [(0, .ref 17), (2, .ref 18)] [] (gE Lx) I L e Q := by
  refine w_a f_57_16 ?_
  exact w_n (ks := [0, 2]) rfl h
set_option maxRecDepth 10000 in
set_option maxHeartbeats 4000000 in
theorem s_57_36 {Lx : Nat} {I : Mi} {L : Ml} {e : Nat} {Q : Kq} (h :
    Q (.inl none) (gE Lx) I L e) :
    Wp 57 36 [(0, .ref 17), (2, .ref 18)] [] (gE Lx) I L e Q := by
  refine w_a f_57_36 ?_
  exact h
set_option maxRecDepth 10000 in
set_option maxHeartbeats 4000000 in
theorem s_58_0 {Lx : Nat} {I : Mi} {L : Ml} {e : Nat} {Q : Kq} {x1 : Int32} (h :
    (if (L 17 1) = (Int64.ofInt 0) then
     (if x1 = 0 then
      (if x1 = 0 then
       Wp 25 0 [(0, .ref 18), (1, .long (Int64.ofInt 0)), (3, .long (Int64.ofInt 1))] [] (gE Lx) I L e (kcp (Wp 58) 58 28 0 [(0, .ref 17), (2, .ref 18)] 71 [] Q)
      else
       Wp 25 0 [(0, .ref 18), (1, .long (Int64.ofInt 0)), (3, .long (Int64.ofInt 0))] [] (gE Lx) I L e (kcp (Wp 58) 58 28 0 [(0, .ref 17), (2, .ref 18)] 71 [] Q))
     else
      (if x1 = 0 then
       Wp 25 0 [(0, .ref 18), (1, .long (Int64.ofInt 1)), (3, .long (Int64.ofInt 1))] [] (gE Lx) I L e (kcp (Wp 58) 58 28 0 [(0, .ref 17), (2, .ref 18)] 71 [] Q)
      else
       Wp 25 0 [(0, .ref 18), (1, .long (Int64.ofInt 1)), (3, .long (Int64.ofInt 0))] [] (gE Lx) I L e (kcp (Wp 58) 58 28 0 [(0, .ref 17), (2, .ref 18)] 71 [] Q)))
    else
     Wp 32 0 [(0, .long ((((((L 17 0) * (L 17 0)) + ((L 17 1) * (L 17 1))) - ((L 17 2) * (L 17 2))) * ((((L 17 0) * (L 17 0)) + ((L 17 1) * (L 17 1))) - ((L 17 2) * (L 17 2)))) + (((((Int64.ofInt 4) * (L 17 1)) * (L 17 2)) * (L 17 1)) * (L 17 2))))] [] (gE Lx) I L e (kcp (Wp 58) 58 39 0 [(0, .ref 17), (1, .int x1), (2, .ref 18), (3, .long ((((((L 17 0) * (L 17 0)) + ((L 17 1) * (L 17 1))) - ((L 17 2) * (L 17 2))) * ((((L 17 0) * (L 17 0)) + ((L 17 1) * (L 17 1))) - ((L 17 2) * (L 17 2)))) + (((((Int64.ofInt 4) * (L 17 1)) * (L 17 2)) * (L 17 1)) * (L 17 2))))] 71 [] Q))) :
    Wp 58 0 [(0, .ref 17), (1, .int x1), (2, .ref 18)] [] (gE Lx) I L e Q := by
  refine w_a f_58_0 ?_
  refine w_a f_58_1 ?_
  refine w_a f_58_4 ?_
  refine w_a f_58_5 ?_
  refine i_m (fun h => ?_) (fun h => ?_) h
  · refine w_a f_58_9 ?_
    refine w_a f_58_10 ?_
    refine w_a f_58_11 ?_
    refine i_m (fun h => ?_) (fun h => ?_) h
    · refine w_a f_58_18 ?_
      refine w_a f_58_19 ?_
      refine w_a f_58_20 ?_
      refine i_m (fun h => ?_) (fun h => ?_) h
      · refine w_a f_58_27 ?_
        exact w_c (ks := [0, 2]) f_58_28 rfl rfl h
      · refine w_a f_58_23 ?_
        refine w_a f_58_24 ?_
        exact w_c (ks := [0, 2]) f_58_28 rfl rfl h
    · refine w_a f_58_14 ?_
      refine w_a f_58_15 ?_
      refine w_a f_58_19 ?_
      refine w_a f_58_20 ?_
      refine i_m (fun h => ?_) (fun h => ?_) h
      · refine w_a f_58_27 ?_
        exact w_c (ks := [0, 2]) f_58_28 rfl rfl h
      · refine w_a f_58_23 ?_
        refine w_a f_58_24 ?_
        exact w_c (ks := [0, 2]) f_58_28 rfl rfl h
  · refine w_a f_58_33 ?_
    refine w_a f_58_34 ?_
    refine w_a (ls := [(0, .ref 17)]) f_59_0 ?_
    refine w_a f_59_1 ?_
    refine w_a (ls := [(0, .ref 17)]) f_55_0 ?_
    refine w_a f_55_1 ?_
    refine w_a f_55_4 ?_
    refine w_a f_55_5 ?_
    refine w_a f_55_8 ?_
    refine w_a f_55_9 ?_
    refine w_a f_55_10 ?_
    refine w_a f_55_13 ?_
    refine w_a f_55_14 ?_
    refine w_a f_55_17 ?_
    refine w_a f_55_18 ?_
    refine w_a f_55_19 ?_
    refine w_a (ls := [(0, .ref 17)]) f_59_4 ?_
    refine w_a f_59_5 ?_
    refine w_a f_59_8 ?_
    refine w_a f_59_9 ?_
    refine w_a f_59_12 ?_
    refine w_a f_59_13 ?_
    refine w_a f_59_14 ?_
    refine w_a (ls := [(1, .long ((((L 17 0) * (L 17 0)) + ((L 17 1) * (L 17 1))) - ((L 17 2) * (L 17 2)))), (0, .ref 17)]) f_59_15 ?_
    refine w_a f_59_16 ?_
    refine w_a f_59_17 ?_
    refine w_a f_59_18 ?_
    refine w_a f_59_21 ?_
    refine w_a f_59_22 ?_
    refine w_a f_59_25 ?_
    refine w_a f_59_26 ?_
    refine w_a f_59_27 ?_
    refine w_a f_59_30 ?_
    refine w_a f_59_31 ?_
    refine w_a f_59_32 ?_
    refine w_a f_59_35 ?_
    refine w_a f_59_36 ?_
    refine w_a f_59_37 ?_
    refine w_a f_59_40 ?_
    refine w_a f_59_41 ?_
    refine w_a f_59_42 ?_
    refine w_a (ls := [(0, .ref 17), (1, .int x1), (2, .ref 18)]) f_58_37 ?_
    refine w_a (ls := [(3, .long ((((((L 17 0) * (L 17 0)) + ((L 17 1) * (L 17 1))) - ((L 17 2) * (L 17 2))) * ((((L 17 0) * (L 17 0)) + ((L 17 1) * (L 17 1))) - ((L 17 2) * (L 17 2)))) + (((((Int64.ofInt 4) * (L 17 1)) * (L 17 2)) * (L 17 1)) * (L 17 2)))), (0, .ref 17), (1, .int x1), (2, .ref 18)]) f_58_38 ?_
    exact w_c (ks := [0, 1, 2, 3]) f_58_39 rfl rfl h
set_option maxRecDepth 10000 in
set_option maxHeartbeats 4000000 in
theorem s_58_31 {Lx : Nat} {I : Mi} {L : Ml} {e : Nat} {Q : Kq} (h :
    Q (.inl (some (.int (Int32.ofInt 1)))) (gE Lx) I L e) :
    Wp 58 31 [(0, .ref 17), (2, .ref 18)] [] (gE Lx) I L e Q := by
  refine w_a f_58_31 ?_
  refine w_a f_58_32 ?_
  exact h
set_option maxRecDepth 10000 in
set_option maxHeartbeats 4000000 in
theorem s_58_42 {Lx : Nat} {I : Mi} {L : Ml} {e : Nat} {Q : Kq} {x1 : Int32} {y3 : Int64} {rl : Int64} (h :
    (if (Int64.ofInt 0) < (L 17 1) then
     (if x1 = 0 then
      (if (L 17 1) < (Int64.ofInt 0) then
       Wp 25 0 [(0, .ref 18), (1, .long (rl - ((((L 17 0) * (L 17 0)) + ((L 17 1) * (L 17 1))) - ((L 17 2) * (L 17 2))))), (3, .long (((Int64.ofInt 2) * (-(L 17 1))) * (L 17 2)))] [] (gE Lx) I L e (kcp (Wp 58) 58 118 0 [(0, .ref 17), (2, .ref 18), (3, .long y3), (5, .long rl)] 71 [] Q)
      else
       Wp 25 0 [(0, .ref 18), (1, .long (rl - ((((L 17 0) * (L 17 0)) + ((L 17 1) * (L 17 1))) - ((L 17 2) * (L 17 2))))), (3, .long (((Int64.ofInt 2) * (L 17 1)) * (L 17 2)))] [] (gE Lx) I L e (kcp (Wp 58) 58 118 0 [(0, .ref 17), (2, .ref 18), (3, .long y3), (5, .long rl)] 71 [] Q))
     else
      (if (L 17 1) < (Int64.ofInt 0) then
       Wp 25 0 [(0, .ref 18), (1, .long ((-rl) - ((((L 17 0) * (L 17 0)) + ((L 17 1) * (L 17 1))) - ((L 17 2) * (L 17 2))))), (3, .long (((Int64.ofInt 2) * (-(L 17 1))) * (L 17 2)))] [] (gE Lx) I L e (kcp (Wp 58) 58 118 0 [(0, .ref 17), (2, .ref 18), (3, .long y3), (5, .long rl)] 71 [] Q)
      else
       Wp 25 0 [(0, .ref 18), (1, .long ((-rl) - ((((L 17 0) * (L 17 0)) + ((L 17 1) * (L 17 1))) - ((L 17 2) * (L 17 2))))), (3, .long (((Int64.ofInt 2) * (L 17 1)) * (L 17 2)))] [] (gE Lx) I L e (kcp (Wp 58) 58 118 0 [(0, .ref 17), (2, .ref 18), (3, .long y3), (5, .long rl)] 71 [] Q)))
    else
     (if x1 = 0 then
      (if (L 17 1) < (Int64.ofInt 0) then
       Wp 25 0 [(0, .ref 18), (1, .long (rl - (((L 17 2) * (L 17 2)) - (((L 17 0) * (L 17 0)) + ((L 17 1) * (L 17 1)))))), (3, .long (((Int64.ofInt 2) * (-(L 17 1))) * (L 17 2)))] [] (gE Lx) I L e (kcp (Wp 58) 58 118 0 [(0, .ref 17), (2, .ref 18), (3, .long y3), (5, .long rl)] 71 [] Q)
      else
       Wp 25 0 [(0, .ref 18), (1, .long (rl - (((L 17 2) * (L 17 2)) - (((L 17 0) * (L 17 0)) + ((L 17 1) * (L 17 1)))))), (3, .long (((Int64.ofInt 2) * (L 17 1)) * (L 17 2)))] [] (gE Lx) I L e (kcp (Wp 58) 58 118 0 [(0, .ref 17), (2, .ref 18), (3, .long y3), (5, .long rl)] 71 [] Q))
     else
      (if (L 17 1) < (Int64.ofInt 0) then
       Wp 25 0 [(0, .ref 18), (1, .long ((-rl) - (((L 17 2) * (L 17 2)) - (((L 17 0) * (L 17 0)) + ((L 17 1) * (L 17 1)))))), (3, .long (((Int64.ofInt 2) * (-(L 17 1))) * (L 17 2)))] [] (gE Lx) I L e (kcp (Wp 58) 58 118 0 [(0, .ref 17), (2, .ref 18), (3, .long y3), (5, .long rl)] 71 [] Q)
      else
       Wp 25 0 [(0, .ref 18), (1, .long ((-rl) - (((L 17 2) * (L 17 2)) - (((L 17 0) * (L 17 0)) + ((L 17 1) * (L 17 1)))))), (3, .long (((Int64.ofInt 2) * (L 17 1)) * (L 17 2)))] [] (gE Lx) I L e (kcp (Wp 58) 58 118 0 [(0, .ref 17), (2, .ref 18), (3, .long y3), (5, .long rl)] 71 [] Q))))) :
    Wp 58 42 [(0, .ref 17), (1, .int x1), (2, .ref 18), (3, .long y3)] [.long rl] (gE Lx) I L e Q := by
  refine w_a f_58_42 ?_
  refine w_a (ls := [(5, .long rl), (0, .ref 17), (1, .int x1), (2, .ref 18), (3, .long y3)]) f_58_44 ?_
  refine w_a f_58_45 ?_
  refine w_a f_58_48 ?_
  refine w_a f_58_49 ?_
  refine i_m (fun h => ?_) (fun h => ?_) h
  · refine w_a f_58_53 ?_
    refine w_a f_58_54 ?_
    refine w_a (ls := [(0, .ref 17)]) f_55_0 ?_
    refine w_a f_55_1 ?_
    refine w_a f_55_4 ?_
    refine w_a f_55_5 ?_
    refine w_a f_55_8 ?_
    refine w_a f_55_9 ?_
    refine w_a f_55_10 ?_
    refine w_a f_55_13 ?_
    refine w_a f_55_14 ?_
    refine w_a f_55_17 ?_
    refine w_a f_55_18 ?_
    refine w_a f_55_19 ?_
    refine w_a (ls := [(5, .long rl), (0, .ref 17), (1, .int x1), (2, .ref 18), (3, .long y3)]) f_58_57 ?_
    refine w_a f_58_58 ?_
    refine w_a f_58_61 ?_
    refine w_a f_58_62 ?_
    refine w_a f_58_65 ?_
    refine w_a f_58_66 ?_
    refine w_a f_58_67 ?_
    refine w_a f_58_84 ?_
    refine w_a (ls := [(7, .long ((((L 17 0) * (L 17 0)) + ((L 17 1) * (L 17 1))) - ((L 17 2) * (L 17 2)))), (5, .long rl), (0, .ref 17), (1, .int x1), (2, .ref 18), (3, .long y3)]) f_58_86 ?_
    refine w_a f_58_87 ?_
    refine w_a f_58_88 ?_
    refine i_m (fun h => ?_) (fun h => ?_) h
    · refine w_a f_58_97 ?_
      refine w_a f_58_99 ?_
      refine w_a f_58_101 ?_
      refine w_a f_58_102 ?_
      refine w_a f_58_105 ?_
      refine w_a f_58_106 ?_
      refine w_a f_58_109 ?_
      refine w_a (ls := [(0, .long (L 17 1))]) f_415_0 ?_
      refine w_a f_415_1 ?_
      refine w_a f_415_2 ?_
      refine i_m (fun h => ?_) (fun h => ?_) h
      · refine w_a f_415_6 ?_
        refine w_a f_415_7 ?_
        refine w_a f_415_8 ?_
        refine w_a f_415_12 ?_
        refine w_a (ls := [(7, .long ((((L 17 0) * (L 17 0)) + ((L 17 1) * (L 17 1))) - ((L 17 2) * (L 17 2)))), (5, .long rl), (0, .ref 17), (1, .int x1), (2, .ref 18), (3, .long y3)]) f_58_112 ?_
        refine w_a f_58_113 ?_
        refine w_a f_58_114 ?_
        refine w_a f_58_117 ?_
        exact w_c (ks := [0, 2, 3, 5]) f_58_118 rfl rfl h
      · refine w_a f_415_11 ?_
        refine w_a f_415_12 ?_
        refine w_a (ls := [(7, .long ((((L 17 0) * (L 17 0)) + ((L 17 1) * (L 17 1))) - ((L 17 2) * (L 17 2)))), (5, .long rl), (0, .ref 17), (1, .int x1), (2, .ref 18), (3, .long y3)]) f_58_112 ?_
        refine w_a f_58_113 ?_
        refine w_a f_58_114 ?_
        refine w_a f_58_117 ?_
        exact w_c (ks := [0, 2, 3, 5]) f_58_118 rfl rfl h
    · refine w_a f_58_91 ?_
      refine w_a f_58_93 ?_
      refine w_a f_58_94 ?_
      refine w_a f_58_99 ?_
      refine w_a f_58_101 ?_
      refine w_a f_58_102 ?_
      refine w_a f_58_105 ?_
      refine w_a f_58_106 ?_
      refine w_a f_58_109 ?_
      refine w_a (ls := [(0, .long (L 17 1))]) f_415_0 ?_
      refine w_a f_415_1 ?_
      refine w_a f_415_2 ?_
      refine i_m (fun h => ?_) (fun h => ?_) h
      · refine w_a f_415_6 ?_
        refine w_a f_415_7 ?_
        refine w_a f_415_8 ?_
        refine w_a f_415_12 ?_
        refine w_a (ls := [(7, .long ((((L 17 0) * (L 17 0)) + ((L 17 1) * (L 17 1))) - ((L 17 2) * (L 17 2)))), (5, .long rl), (0, .ref 17), (1, .int x1), (2, .ref 18), (3, .long y3)]) f_58_112 ?_
        refine w_a f_58_113 ?_
        refine w_a f_58_114 ?_
        refine w_a f_58_117 ?_
        exact w_c (ks := [0, 2, 3, 5]) f_58_118 rfl rfl h
      · refine w_a f_415_11 ?_
        refine w_a f_415_12 ?_
        refine w_a (ls := [(7, .long ((((L 17 0) * (L 17 0)) + ((L 17 1) * (L 17 1))) - ((L 17 2) * (L 17 2)))), (5, .long rl), (0, .ref 17), (1, .int x1), (2, .ref 18), (3, .long y3)]) f_58_112 ?_
        refine w_a f_58_113 ?_
        refine w_a f_58_114 ?_
        refine w_a f_58_117 ?_
        exact w_c (ks := [0, 2, 3, 5]) f_58_118 rfl rfl h
  · refine w_a f_58_70 ?_
    refine w_a f_58_71 ?_
    refine w_a f_58_74 ?_
    refine w_a f_58_75 ?_
    refine w_a f_58_78 ?_
    refine w_a f_58_79 ?_
    refine w_a f_58_80 ?_
    refine w_a (ls := [(0, .ref 17)]) f_55_0 ?_
    refine w_a f_55_1 ?_
    refine w_a f_55_4 ?_
    refine w_a f_55_5 ?_
    refine w_a f_55_8 ?_
    refine w_a f_55_9 ?_
    refine w_a f_55_10 ?_
    refine w_a f_55_13 ?_
    refine w_a f_55_14 ?_
    refine w_a f_55_17 ?_
    refine w_a f_55_18 ?_
    refine w_a f_55_19 ?_
    refine w_a (ls := [(5, .long rl), (0, .ref 17), (1, .int x1), (2, .ref 18), (3, .long y3)]) f_58_83 ?_
    refine w_a f_58_84 ?_
    refine w_a (ls := [(7, .long (((L 17 2) * (L 17 2)) - (((L 17 0) * (L 17 0)) + ((L 17 1) * (L 17 1))))), (5, .long rl), (0, .ref 17), (1, .int x1), (2, .ref 18), (3, .long y3)]) f_58_86 ?_
    refine w_a f_58_87 ?_
    refine w_a f_58_88 ?_
    refine i_m (fun h => ?_) (fun h => ?_) h
    · refine w_a f_58_97 ?_
      refine w_a f_58_99 ?_
      refine w_a f_58_101 ?_
      refine w_a f_58_102 ?_
      refine w_a f_58_105 ?_
      refine w_a f_58_106 ?_
      refine w_a f_58_109 ?_
      refine w_a (ls := [(0, .long (L 17 1))]) f_415_0 ?_
      refine w_a f_415_1 ?_
      refine w_a f_415_2 ?_
      refine i_m (fun h => ?_) (fun h => ?_) h
      · refine w_a f_415_6 ?_
        refine w_a f_415_7 ?_
        refine w_a f_415_8 ?_
        refine w_a f_415_12 ?_
        refine w_a (ls := [(7, .long (((L 17 2) * (L 17 2)) - (((L 17 0) * (L 17 0)) + ((L 17 1) * (L 17 1))))), (5, .long rl), (0, .ref 17), (1, .int x1), (2, .ref 18), (3, .long y3)]) f_58_112 ?_
        refine w_a f_58_113 ?_
        refine w_a f_58_114 ?_
        refine w_a f_58_117 ?_
        exact w_c (ks := [0, 2, 3, 5]) f_58_118 rfl rfl h
      · refine w_a f_415_11 ?_
        refine w_a f_415_12 ?_
        refine w_a (ls := [(7, .long (((L 17 2) * (L 17 2)) - (((L 17 0) * (L 17 0)) + ((L 17 1) * (L 17 1))))), (5, .long rl), (0, .ref 17), (1, .int x1), (2, .ref 18), (3, .long y3)]) f_58_112 ?_
        refine w_a f_58_113 ?_
        refine w_a f_58_114 ?_
        refine w_a f_58_117 ?_
        exact w_c (ks := [0, 2, 3, 5]) f_58_118 rfl rfl h
    · refine w_a f_58_91 ?_
      refine w_a f_58_93 ?_
      refine w_a f_58_94 ?_
      refine w_a f_58_99 ?_
      refine w_a f_58_101 ?_
      refine w_a f_58_102 ?_
      refine w_a f_58_105 ?_
      refine w_a f_58_106 ?_
      refine w_a f_58_109 ?_
      refine w_a (ls := [(0, .long (L 17 1))]) f_415_0 ?_
      refine w_a f_415_1 ?_
      refine w_a f_415_2 ?_
      refine i_m (fun h => ?_) (fun h => ?_) h
      · refine w_a f_415_6 ?_
        refine w_a f_415_7 ?_
        refine w_a f_415_8 ?_
        refine w_a f_415_12 ?_
        refine w_a (ls := [(7, .long (((L 17 2) * (L 17 2)) - (((L 17 0) * (L 17 0)) + ((L 17 1) * (L 17 1))))), (5, .long rl), (0, .ref 17), (1, .int x1), (2, .ref 18), (3, .long y3)]) f_58_112 ?_
        refine w_a f_58_113 ?_
        refine w_a f_58_114 ?_
        refine w_a f_58_117 ?_
        exact w_c (ks := [0, 2, 3, 5]) f_58_118 rfl rfl h
      · refine w_a f_415_11 ?_
        refine w_a f_415_12 ?_
        refine w_a (ls := [(7, .long (((L 17 2) * (L 17 2)) - (((L 17 0) * (L 17 0)) + ((L 17 1) * (L 17 1))))), (5, .long rl), (0, .ref 17), (1, .int x1), (2, .ref 18), (3, .long y3)]) f_58_112 ?_
        refine w_a f_58_113 ?_
        refine w_a f_58_114 ?_
        refine w_a f_58_117 ?_
        exact w_c (ks := [0, 2, 3, 5]) f_58_118 rfl rfl h
set_option maxRecDepth 10000 in
set_option maxHeartbeats 4000000 in
theorem s_58_121 {Lx : Nat} {I : Mi} {L : Ml} {e : Nat} {Q : Kq} {y3 : Int64} {y5 : Int64} (h :
    (if (y5 * y5) = y3 then
     Q (.inl (some (.int (Int32.ofInt 1)))) (gE Lx) I L e
    else
     Q (.inl (some (.int (Int32.ofInt 0)))) (gE Lx) I L e)) :
    Wp 58 121 [(0, .ref 17), (2, .ref 18), (3, .long y3), (5, .long y5)] [] (gE Lx) I L e Q := by
  refine w_a f_58_121 ?_
  refine w_a f_58_123 ?_
  refine w_a f_58_125 ?_
  refine w_a f_58_126 ?_
  refine w_a f_58_127 ?_
  refine i_m (fun h => ?_) (fun h => ?_) h
  · refine w_a f_58_131 ?_
    refine w_a f_58_132 ?_
    refine w_a f_58_136 ?_
    exact h
  · refine w_a f_58_135 ?_
    refine w_a f_58_136 ?_
    exact h
set_option maxRecDepth 10000 in
set_option maxHeartbeats 4000000 in
theorem s_60_0 {Lx : Nat} {I : Mi} {L : Ml} {e : Nat} {Q : Kq} (h :
    Wp 32 0 [(0, .long ((((((L 17 0) * (L 17 0)) + ((L 17 1) * (L 17 1))) - ((L 17 2) * (L 17 2))) * ((((L 17 0) * (L 17 0)) + ((L 17 1) * (L 17 1))) - ((L 17 2) * (L 17 2)))) + (((((Int64.ofInt 4) * (L 17 1)) * (L 17 2)) * (L 17 1)) * (L 17 2))))] [] (gE Lx) I L e (kcp (Wp 60) 60 6 0 [(0, .ref 17), (1, .ref 18), (2, .long ((((((L 17 0) * (L 17 0)) + ((L 17 1) * (L 17 1))) - ((L 17 2) * (L 17 2))) * ((((L 17 0) * (L 17 0)) + ((L 17 1) * (L 17 1))) - ((L 17 2) * (L 17 2)))) + (((((Int64.ofInt 4) * (L 17 1)) * (L 17 2)) * (L 17 1)) * (L 17 2))))] 71 [] Q)) :
    Wp 60 0 [(0, .ref 17), (1, .ref 18)] [] (gE Lx) I L e Q := by
  refine w_a f_60_0 ?_
  refine w_a f_60_1 ?_
  refine w_a (ls := [(0, .ref 17)]) f_59_0 ?_
  refine w_a f_59_1 ?_
  refine w_a (ls := [(0, .ref 17)]) f_55_0 ?_
  refine w_a f_55_1 ?_
  refine w_a f_55_4 ?_
  refine w_a f_55_5 ?_
  refine w_a f_55_8 ?_
  refine w_a f_55_9 ?_
  refine w_a f_55_10 ?_
  refine w_a f_55_13 ?_
  refine w_a f_55_14 ?_
  refine w_a f_55_17 ?_
  refine w_a f_55_18 ?_
  refine w_a f_55_19 ?_
  refine w_a (ls := [(0, .ref 17)]) f_59_4 ?_
  refine w_a f_59_5 ?_
  refine w_a f_59_8 ?_
  refine w_a f_59_9 ?_
  refine w_a f_59_12 ?_
  refine w_a f_59_13 ?_
  refine w_a f_59_14 ?_
  refine w_a (ls := [(1, .long ((((L 17 0) * (L 17 0)) + ((L 17 1) * (L 17 1))) - ((L 17 2) * (L 17 2)))), (0, .ref 17)]) f_59_15 ?_
  refine w_a f_59_16 ?_
  refine w_a f_59_17 ?_
  refine w_a f_59_18 ?_
  refine w_a f_59_21 ?_
  refine w_a f_59_22 ?_
  refine w_a f_59_25 ?_
  refine w_a f_59_26 ?_
  refine w_a f_59_27 ?_
  refine w_a f_59_30 ?_
  refine w_a f_59_31 ?_
  refine w_a f_59_32 ?_
  refine w_a f_59_35 ?_
  refine w_a f_59_36 ?_
  refine w_a f_59_37 ?_
  refine w_a f_59_40 ?_
  refine w_a f_59_41 ?_
  refine w_a f_59_42 ?_
  refine w_a (ls := [(0, .ref 17), (1, .ref 18)]) f_60_4 ?_
  refine w_a (ls := [(2, .long ((((((L 17 0) * (L 17 0)) + ((L 17 1) * (L 17 1))) - ((L 17 2) * (L 17 2))) * ((((L 17 0) * (L 17 0)) + ((L 17 1) * (L 17 1))) - ((L 17 2) * (L 17 2)))) + (((((Int64.ofInt 4) * (L 17 1)) * (L 17 2)) * (L 17 1)) * (L 17 2)))), (0, .ref 17), (1, .ref 18)]) f_60_5 ?_
  exact w_c (ks := [0, 1, 2]) f_60_6 rfl rfl h
set_option maxRecDepth 10000 in
set_option maxHeartbeats 4000000 in
theorem s_60_9 {Lx : Nat} {I : Mi} {L : Ml} {e : Nat} {Q : Kq} {y2 : Int64} {rl : Int64} (h :
    Wp 25 0 [(0, .ref 18), (1, .long (((((L 17 0) * (L 17 0)) + ((L 17 1) * (L 17 1))) + ((L 17 2) * (L 17 2))) + rl)), (3, .long (((Int64.ofInt 2) * (L 17 0)) * (L 17 2)))] [] (gE Lx) I L e (kcp (Wp 60) 60 42 0 [(0, .ref 17), (1, .ref 18), (2, .long y2), (4, .long rl)] 71 [] Q)) :
    Wp 60 9 [(0, .ref 17), (1, .ref 18), (2, .long y2)] [.long rl] (gE Lx) I L e Q := by
  refine w_a f_60_9 ?_
  refine w_a (ls := [(4, .long rl), (0, .ref 17), (1, .ref 18), (2, .long y2)]) f_60_11 ?_
  refine w_a f_60_12 ?_
  refine w_a f_60_13 ?_
  refine w_a (ls := [(0, .ref 17)]) f_55_0 ?_
  refine w_a f_55_1 ?_
  refine w_a f_55_4 ?_
  refine w_a f_55_5 ?_
  refine w_a f_55_8 ?_
  refine w_a f_55_9 ?_
  refine w_a f_55_10 ?_
  refine w_a f_55_13 ?_
  refine w_a f_55_14 ?_
  refine w_a f_55_17 ?_
  refine w_a f_55_18 ?_
  refine w_a f_55_19 ?_
  refine w_a (ls := [(4, .long rl), (0, .ref 17), (1, .ref 18), (2, .long y2)]) f_60_16 ?_
  refine w_a f_60_17 ?_
  refine w_a f_60_20 ?_
  refine w_a f_60_21 ?_
  refine w_a f_60_24 ?_
  refine w_a f_60_25 ?_
  refine w_a f_60_26 ?_
  refine w_a f_60_28 ?_
  refine w_a f_60_29 ?_
  refine w_a f_60_32 ?_
  refine w_a f_60_33 ?_
  refine w_a f_60_36 ?_
  refine w_a f_60_37 ?_
  refine w_a f_60_38 ?_
  refine w_a f_60_41 ?_
  exact w_c (ks := [0, 1, 2, 4]) f_60_42 rfl rfl h
set_option maxRecDepth 10000 in
set_option maxHeartbeats 4000000 in
theorem s_60_45 {Lx : Nat} {I : Mi} {L : Ml} {e : Nat} {Q : Kq} {y2 : Int64} {y4 : Int64} (h :
    (if (L 17 0) = (Int64.ofInt 0) then
     Wp 25 0 [(0, .ref 18), (1, .long (Int64.ofInt 1)), (3, .long (Int64.ofInt 0))] [] (gE Lx) I L e (kcp (Wp 60) 60 57 0 [(0, .ref 17), (1, .ref 18), (2, .long y2), (4, .long y4)] 71 [] Q)
    else
     Wp 60 60 [(0, .ref 17), (1, .ref 18), (2, .long y2), (4, .long y4)] [] (gE Lx) I L e Q)) :
    Wp 60 45 [(0, .ref 17), (1, .ref 18), (2, .long y2), (4, .long y4)] [] (gE Lx) I L e Q := by
  refine w_a f_60_45 ?_
  refine w_a f_60_46 ?_
  refine w_a f_60_49 ?_
  refine w_a f_60_50 ?_
  refine i_m (fun h => ?_) (fun h => ?_) h
  · refine w_a f_60_54 ?_
    refine w_a f_60_55 ?_
    refine w_a f_60_56 ?_
    exact w_c (ks := [0, 1, 2, 4]) f_60_57 rfl rfl h
  · exact w_n (ks := [0, 1, 2, 4]) rfl h
set_option maxRecDepth 10000 in
set_option maxHeartbeats 4000000 in
theorem s_60_60 {Lx : Nat} {I : Mi} {L : Ml} {e : Nat} {Q : Kq} {y2 : Int64} {y4 : Int64} (h :
    (if (L 17 0) = (Int64.ofInt 0) then
     Q (.inl (some (.int (Int32.ofInt 1)))) (gE Lx) I L e
    else
     (if (y4 * y4) = y2 then
      Q (.inl (some (.int (Int32.ofInt 1)))) (gE Lx) I L e
     else
      Q (.inl (some (.int (Int32.ofInt 0)))) (gE Lx) I L e))) :
    Wp 60 60 [(0, .ref 17), (1, .ref 18), (2, .long y2), (4, .long y4)] [] (gE Lx) I L e Q := by
  refine w_a f_60_60 ?_
  refine w_a f_60_61 ?_
  refine w_a f_60_64 ?_
  refine w_a f_60_65 ?_
  refine i_m (fun h => ?_) (fun h => ?_) h
  · refine w_a f_60_79 ?_
    refine w_a f_60_80 ?_
    refine w_a f_60_84 ?_
    exact h
  · refine w_a f_60_69 ?_
    refine w_a f_60_71 ?_
    refine w_a f_60_73 ?_
    refine w_a f_60_74 ?_
    refine w_a f_60_75 ?_
    refine i_m (fun h => ?_) (fun h => ?_) h
    · refine w_a f_60_79 ?_
      refine w_a f_60_80 ?_
      refine w_a f_60_84 ?_
      exact h
    · refine w_a f_60_83 ?_
      refine w_a f_60_84 ?_
      exact h
set_option maxRecDepth 10000 in
set_option maxHeartbeats 4000000 in
theorem s_61_20 {Lx : Nat} {I : Mi} {L : Ml} {e : Nat} {Q : Kq} {r : Int32} (h :
    (if r = 0 then
     Q (.inl (some (.int (Int32.ofInt 0)))) (gE Lx) I L e
    else if r = 1 then
     Q (.inl (some (.int (Int32.ofInt 1)))) (gE Lx) I L e
    else False)) :
    Wp 61 20 [(0, .ref 17)] [.int r] (gE Lx) I L e Q := by
  refine w_a f_61_20 ?_
  refine i_m (fun h => ?_) (i_m (fun h => ?_) id) h
  · exact h
  · exact h
set_option maxRecDepth 10000 in
set_option maxHeartbeats 4000000 in
theorem s_65_0 {Lx : Nat} {I : Mi} {L : Ml} {e : Nat} {Q : Kq} (h :
    Wp 25 0 [(0, .ref 23), (1, .long (Int64.ofInt 0)), (3, .long (Int64.ofInt 1))] [] (gE Lx) (ui I 22 0 (Int32.ofInt 0)) L e (kcp (Wp 65) 65 11 0 [(0, .ref 22), (1, .ref 5)] 71 [] Q)) :
    Wp 65 0 [(0, .ref 22), (1, .ref 5)] [] (gE Lx) I L e Q := by
  refine w_a f_65_0 ?_
  refine w_a f_65_1 ?_
  refine w_a f_65_2 ?_
  refine w_a f_65_5 ?_
  refine w_a f_65_6 ?_
  refine w_a f_65_9 ?_
  refine w_a f_65_10 ?_
  exact w_c (ks := [0, 1]) f_65_11 rfl rfl h
set_option maxRecDepth 10000 in
set_option maxHeartbeats 4000000 in
theorem s_65_14 {Lx : Nat} {I : Mi} {L : Ml} {e : Nat} {Q : Kq} (h :
    Wp 65 16 [(0, .ref 22), (1, .ref 5), (2, .int (Int32.ofInt 0))] [] (gE Lx) I L e Q) :
    Wp 65 14 [(0, .ref 22), (1, .ref 5)] [] (gE Lx) I L e Q := by
  refine w_a f_65_14 ?_
  refine w_a f_65_15 ?_
  exact w_n (ks := [0, 1, 2]) rfl h
set_option maxRecDepth 10000 in
set_option maxHeartbeats 4000000 in
theorem s_65_16 {Lx : Nat} {I : Mi} {L : Ml} {e : Nat} {Q : Kq} {x2 : Int32} (h :
    (if x2 < (I 5 3) then
     Wp 14 0 [(0, .ref 5), (1, .int x2)] [] (gE Lx) I L e (kcp (Wp 65) 65 47 0 [(0, .ref 22), (1, .ref 5), (2, .int x2), (3, .long (L 23 0)), (5, .long (L 23 1))] 71 [.ref 23] Q)
    else
     Q (.inl none) (gE Lx) I L e)) :
    Wp 65 16 [(0, .ref 22), (1, .ref 5), (2, .int x2)] [] (gE Lx) I L e Q := by
  refine w_a f_65_16 ?_
  refine w_a f_65_17 ?_
  refine w_a f_65_18 ?_
  refine w_a f_65_21 ?_
  refine i_m (fun h => ?_) (fun h => ?_) h
  · refine w_a f_65_24 ?_
    refine w_a f_65_25 ?_
    refine w_a f_65_28 ?_
    refine w_a f_65_31 ?_
    refine w_a (ls := [(3, .long (L 23 0)), (0, .ref 22), (1, .ref 5), (2, .int x2)]) f_65_32 ?_
    refine w_a f_65_33 ?_
    refine w_a f_65_36 ?_
    refine w_a f_65_39 ?_
    refine w_a (ls := [(5, .long (L 23 1)), (3, .long (L 23 0)), (0, .ref 22), (1, .ref 5), (2, .int x2)]) f_65_41 ?_
    refine w_a f_65_42 ?_
    refine w_a f_65_45 ?_
    refine w_a f_65_46 ?_
    exact w_c (ks := [0, 1, 2, 3, 5]) f_65_47 rfl rfl h
  · refine w_a f_65_99 ?_
    exact h
set_option maxRecDepth 10000 in
set_option maxHeartbeats 4000000 in
theorem s_65_50 {Lx : Nat} {I : Mi} {L : Ml} {e : Nat} {Q : Kq} {x2 : Int32} {y3 : Int64} {y5 : Int64} {r : Int32} (h :
    Wp 15 0 [(0, .ref 5), (1, .int x2)] [] (gE Lx) I L e (kcp (Wp 65) 65 53 0 [(0, .ref 22), (1, .ref 5), (2, .int x2), (3, .long y3), (5, .long y5)] 71 [.long r.toInt64, .ref 23] Q)) :
    Wp 65 50 [(0, .ref 22), (1, .ref 5), (2, .int x2), (3, .long y3), (5, .long y5)] [.int r, .ref 23] (gE Lx) I L e Q := by
  refine w_a f_65_50 ?_
  refine w_a f_65_51 ?_
  refine w_a f_65_52 ?_
  exact w_c (ks := [0, 1, 2, 3, 5]) f_65_53 rfl rfl h
set_option maxRecDepth 10000 in
set_option maxHeartbeats 4000000 in
theorem s_65_56 {Lx : Nat} {I : Mi} {L : Ml} {e : Nat} {Q : Kq} {x2 : Int32} {y3 : Int64} {y5 : Int64} {rl1 : Int64} {r : Int32} (h :
    Wp 25 0 [(0, .ref 23), (1, .long (((L 23 0) * r.toInt64) + ((L 23 1) * rl1))), (3, .long (((L 23 1) * r.toInt64) - ((L 23 0) * rl1)))] [] (gE Lx) I L e (kcp (Wp 27) 27 27 0 [(0, .ref 23)] 71 [] (kcp (Wp 65) 65 57 0 [(0, .ref 22), (1, .ref 5), (2, .int x2), (3, .long y3), (5, .long y5)] 71 [] Q))) :
    Wp 65 56 [(0, .ref 22), (1, .ref 5), (2, .int x2), (3, .long y3), (5, .long y5)] [.int r, .long rl1, .ref 23] (gE Lx) I L e Q := by
  refine w_a f_65_56 ?_
  refine w_c (ks := [0, 1, 2, 3, 5]) f_65_57 rfl rfl ?_
  refine w_a (ls := [(0, .ref 23), (1, .long rl1), (3, .long r.toInt64)]) f_27_0 ?_
  refine w_a f_27_1 ?_
  refine w_a f_27_2 ?_
  refine w_a f_27_5 ?_
  refine w_a f_27_6 ?_
  refine w_a f_27_7 ?_
  refine w_a f_27_8 ?_
  refine w_a f_27_11 ?_
  refine w_a f_27_12 ?_
  refine w_a f_27_13 ?_
  refine w_a f_27_14 ?_
  refine w_a f_27_15 ?_
  refine w_a f_27_18 ?_
  refine w_a f_27_19 ?_
  refine w_a f_27_20 ?_
  refine w_a f_27_21 ?_
  refine w_a f_27_24 ?_
  refine w_a f_27_25 ?_
  refine w_a f_27_26 ?_
  exact w_c (ks := [0]) f_27_27 rfl rfl h
set_option maxRecDepth 10000 in
set_option maxHeartbeats 4000000 in
theorem s_65_60 {Lx : Nat} {I : Mi} {L : Ml} {e : Nat} {Q : Kq} {x2 : Int32} {y3 : Int64} {y5 : Int64} (h :
    Wp 28 0 [(0, .long (L 23 0)), (2, .long (L 23 1)), (4, .long y3), (6, .long y5)] [] (gE Lx) I L e (kcp (Wp 65) 65 77 0 [(0, .ref 22), (1, .ref 5), (2, .int x2)] 71 [] Q)) :
    Wp 65 60 [(0, .ref 22), (1, .ref 5), (2, .int x2), (3, .long y3), (5, .long y5)] [] (gE Lx) I L e Q := by
  refine w_a f_65_60 ?_
  refine w_a f_65_61 ?_
  refine w_a f_65_64 ?_
  refine w_a f_65_67 ?_
  refine w_a f_65_68 ?_
  refine w_a f_65_71 ?_
  refine w_a f_65_74 ?_
  refine w_a f_65_75 ?_
  exact w_c (ks := [0, 1, 2]) f_65_77 rfl rfl h
set_option maxRecDepth 10000 in
set_option maxHeartbeats 4000000 in
theorem s_65_80 {Lx : Nat} {I : Mi} {L : Ml} {e : Nat} {Q : Kq} {x2 : Int32} {r : Int32} (h :
    (if r < 0 then
     Wp 65 16 [(0, .ref 22), (1, .ref 5), (2, .int (x2 + Int32.ofInt 1))] [] (gE Lx) (ui I 22 0 ((I 22 0) + (Int32.ofInt 1))) L e Q
    else
     Wp 65 16 [(0, .ref 22), (1, .ref 5), (2, .int (x2 + Int32.ofInt 1))] [] (gE Lx) I L e Q)) :
    Wp 65 80 [(0, .ref 22), (1, .ref 5), (2, .int x2)] [.int r] (gE Lx) I L e Q := by
  refine w_a f_65_80 ?_
  refine i_m (fun h => ?_) (fun h => ?_) h
  · refine w_a f_65_83 ?_
    refine w_a f_65_84 ?_
    refine w_a f_65_85 ?_
    refine w_a f_65_88 ?_
    refine w_a f_65_89 ?_
    refine w_a f_65_90 ?_
    refine w_a f_65_93 ?_
    refine w_a (ls := [(2, .int (x2 + Int32.ofInt 1)), (0, .ref 22), (1, .ref 5)]) f_65_96 ?_
    exact w_n (ks := [0, 1, 2]) rfl h
  · refine w_a f_65_93 ?_
    refine w_a (ls := [(2, .int (x2 + Int32.ofInt 1)), (0, .ref 22), (1, .ref 5)]) f_65_96 ?_
    exact w_n (ks := [0, 1, 2]) rfl h
set_option maxRecDepth 10000 in
set_option maxHeartbeats 4000000 in
theorem s_69_0 {Lx : Nat} {I : Mi} {L : Ml} {e : Nat} {Q : Kq} {x1 : Int32} (h :
    (if x1 < 0 then
     Q (.inl (some (.int (Int32.ofInt 0)))) (gE Lx) I L e
    else
     (if x1 < (Int32.ofInt 184) then
      (inb x1 184 (
       Q (.inl (some (.int (I 3 x1.toNatClampNeg)))) (gE Lx) I L e)
      False)
     else
      Q (.inl (some (.int (Int32.ofInt 0)))) (gE Lx) I L e))) :
    Wp 69 0 [(0, .ref 2), (1, .int x1)] [] (gE Lx) I L e Q := by
  refine w_a f_69_0 ?_
  refine w_a f_69_1 ?_
  refine i_m (fun h => ?_) (fun h => ?_) h
  · refine w_a f_69_11 ?_
    refine w_a f_69_12 ?_
    refine w_a f_69_21 ?_
    exact h
  · refine w_a f_69_4 ?_
    refine w_a f_69_5 ?_
    refine w_a f_69_8 ?_
    refine i_m (fun h => ?_) (fun h => ?_) h
    · refine w_a f_69_15 ?_
      refine w_a f_69_16 ?_
      refine w_a f_69_19 ?_
      refine w_a f_69_20 ?_
      refine n_m (fun h => ?_) h
      refine w_a f_69_21 ?_
      exact h
    · refine w_a f_69_11 ?_
      refine w_a f_69_12 ?_
      refine w_a f_69_21 ?_
      exact h
set_option maxRecDepth 10000 in
set_option maxHeartbeats 4000000 in
theorem s_70_0 {Lx : Nat} {I : Mi} {L : Ml} {e : Nat} {Q : Kq} {x1 : Int32} (h :
    (if x1 < 0 then
     Q (.inl (some (.int (Int32.ofInt 1)))) (gE Lx) I L e
    else
     (if x1 < (Int32.ofInt 184) then
      (inb x1 184 (
       Q (.inl (some (.int (I 4 x1.toNatClampNeg)))) (gE Lx) I L e)
      False)
     else
      Q (.inl (some (.int (Int32.ofInt 1)))) (gE Lx) I L e))) :
    Wp 70 0 [(0, .ref 2), (1, .int x1)] [] (gE Lx) I L e Q := by
  refine w_a f_70_0 ?_
  refine w_a f_70_1 ?_
  refine i_m (fun h => ?_) (fun h => ?_) h
  · refine w_a f_70_11 ?_
    refine w_a f_70_12 ?_
    refine w_a f_70_21 ?_
    exact h
  · refine w_a f_70_4 ?_
    refine w_a f_70_5 ?_
    refine w_a f_70_8 ?_
    refine i_m (fun h => ?_) (fun h => ?_) h
    · refine w_a f_70_15 ?_
      refine w_a f_70_16 ?_
      refine w_a f_70_19 ?_
      refine w_a f_70_20 ?_
      refine n_m (fun h => ?_) h
      refine w_a f_70_21 ?_
      exact h
    · refine w_a f_70_11 ?_
      refine w_a f_70_12 ?_
      refine w_a f_70_21 ?_
      exact h
set_option maxRecDepth 10000 in
set_option maxHeartbeats 4000000 in
theorem s_71_0 {Lx : Nat} {I : Mi} {L : Ml} {e : Nat} {Q : Kq} {x1 : Int32} {x2 : Int32} (h :
    Wp 69 0 [(0, .ref 2), (1, .int x1)] [] (gE Lx) I L e (kcp (Wp 71) 71 2 0 [(0, .ref 2), (1, .int x1), (2, .int x2)] 71 [] Q)) :
    Wp 71 0 [(0, .ref 2), (1, .int x1), (2, .int x2)] [] (gE Lx) I L e Q := by
  refine w_a f_71_0 ?_
  refine w_a f_71_1 ?_
  exact w_c (ks := [0, 1, 2]) f_71_2 rfl rfl h
set_option maxRecDepth 10000 in
set_option maxHeartbeats 4000000 in
theorem s_71_5 {Lx : Nat} {I : Mi} {L : Ml} {e : Nat} {Q : Kq} {x1 : Int32} {x2 : Int32} {r : Int32} (h :
    (if r < 0 then
     (if x2 < (-r) then
      Q (.inl (some (.int (Int32.ofInt 0)))) (gE Lx) I L e
     else
      Wp 70 0 [(0, .ref 2), (1, .int x1)] [] (gE Lx) I L e (kcp (Wp 71) 71 14 0 [(0, .ref 2), (2, .int x2)] 71 [] Q))
    else
     (if x2 < r then
      Q (.inl (some (.int (Int32.ofInt 0)))) (gE Lx) I L e
     else
      Wp 70 0 [(0, .ref 2), (1, .int x1)] [] (gE Lx) I L e (kcp (Wp 71) 71 14 0 [(0, .ref 2), (2, .int x2)] 71 [] Q)))) :
    Wp 71 5 [(0, .ref 2), (1, .int x1), (2, .int x2)] [.int r] (gE Lx) I L e Q := by
  refine w_a f_71_5 ?_
  refine w_a (ls := [(0, .int r)]) f_417_0 ?_
  refine w_a f_417_1 ?_
  refine i_m (fun h => ?_) (fun h => ?_) h
  · refine w_a f_417_4 ?_
    refine w_a f_417_5 ?_
    refine w_a f_417_6 ?_
    refine w_a f_417_10 ?_
    refine w_a (ls := [(0, .ref 2), (1, .int x1), (2, .int x2)]) f_71_8 ?_
    refine w_a f_71_9 ?_
    refine i_m (fun h => ?_) (fun h => ?_) h
    · refine w_a f_71_25 ?_
      refine w_a f_71_26 ?_
      exact h
    · refine w_a f_71_12 ?_
      refine w_a f_71_13 ?_
      exact w_c (ks := [0, 2]) f_71_14 rfl rfl h
  · refine w_a f_417_9 ?_
    refine w_a f_417_10 ?_
    refine w_a (ls := [(0, .ref 2), (1, .int x1), (2, .int x2)]) f_71_8 ?_
    refine w_a f_71_9 ?_
    refine i_m (fun h => ?_) (fun h => ?_) h
    · refine w_a f_71_25 ?_
      refine w_a f_71_26 ?_
      exact h
    · refine w_a f_71_12 ?_
      refine w_a f_71_13 ?_
      exact w_c (ks := [0, 2]) f_71_14 rfl rfl h
set_option maxRecDepth 10000 in
set_option maxHeartbeats 4000000 in
theorem s_71_17 {Lx : Nat} {I : Mi} {L : Ml} {e : Nat} {Q : Kq} {x2 : Int32} {r : Int32} (h :
    (if x2 < r then
     Q (.inl (some (.int (Int32.ofInt 0)))) (gE Lx) I L e
    else
     Q (.inl (some (.int (Int32.ofInt 1)))) (gE Lx) I L e)) :
    Wp 71 17 [(0, .ref 2), (2, .int x2)] [.int r] (gE Lx) I L e Q := by
  refine w_a f_71_17 ?_
  refine w_a f_71_18 ?_
  refine i_m (fun h => ?_) (fun h => ?_) h
  · refine w_a f_71_25 ?_
    refine w_a f_71_26 ?_
    exact h
  · refine w_a f_71_21 ?_
    refine w_a f_71_22 ?_
    refine w_a f_71_26 ?_
    exact h
set_option maxRecDepth 10000 in
set_option maxHeartbeats 4000000 in
theorem s_72_0 {Lx : Nat} {I : Mi} {L : Ml} {e : Nat} {Q : Kq} {y1 : Int64} {y3 : Int64} (h :
    Wp 72 3 [(0, .ref 2), (1, .long y1), (3, .long y3), (5, .int (Int32.ofInt 0))] [] (gE Lx) I L e Q) :
    Wp 72 0 [(0, .ref 2), (1, .long y1), (3, .long y3)] [] (gE Lx) I L e Q := by
  refine w_a f_72_0 ?_
  refine w_a f_72_1 ?_
  exact w_n (ks := [0, 1, 3, 5]) rfl h
set_option maxRecDepth 10000 in
set_option maxHeartbeats 4000000 in
theorem s_72_3 {Lx : Nat} {I : Mi} {L : Ml} {e : Nat} {Q : Kq} {y1 : Int64} {y3 : Int64} {x5 : Int32} (h :
    (if x5 < (Int32.ofInt 184) then
     (inb x5 184 (
      (if (I 3 x5.toNatClampNeg).toInt64 = y1 then
       (inb x5 184 (
        (if (I 4 x5.toNatClampNeg).toInt64 = y3 then
         Q (.inl (some (.int x5))) (gE Lx) I L e
        else
         Wp 72 3 [(0, .ref 2), (1, .long y1), (3, .long y3), (5, .int (x5 + Int32.ofInt 1))] [] (gE Lx) I L e Q))
       False)
      else
       Wp 72 3 [(0, .ref 2), (1, .long y1), (3, .long y3), (5, .int (x5 + Int32.ofInt 1))] [] (gE Lx) I L e Q))
     False)
    else
     Q (.inl (some (.int (Int32.ofInt 0)))) (gE Lx) I L e)) :
    Wp 72 3 [(0, .ref 2), (1, .long y1), (3, .long y3), (5, .int x5)] [] (gE Lx) I L e Q := by
  refine w_a f_72_3 ?_
  refine w_a f_72_5 ?_
  refine w_a f_72_8 ?_
  refine i_m (fun h => ?_) (fun h => ?_) h
  · refine w_a f_72_11 ?_
    refine w_a f_72_12 ?_
    refine w_a f_72_15 ?_
    refine w_a f_72_17 ?_
    refine n_m (fun h => ?_) h
    refine w_a f_72_18 ?_
    refine w_a f_72_19 ?_
    refine w_a f_72_20 ?_
    refine i_m (fun h => ?_) (fun h => ?_) h
    · refine w_a f_72_24 ?_
      refine w_a f_72_25 ?_
      refine w_a f_72_28 ?_
      refine w_a f_72_30 ?_
      refine n_m (fun h => ?_) h
      refine w_a f_72_31 ?_
      refine w_a f_72_32 ?_
      refine w_a f_72_33 ?_
      refine i_m (fun h => ?_) (fun h => ?_) h
      · refine w_a f_72_37 ?_
        refine w_a f_72_39 ?_
        exact h
      · refine w_a f_72_40 ?_
        refine w_a (ls := [(5, .int (x5 + Int32.ofInt 1)), (0, .ref 2), (1, .long y1), (3, .long y3)]) f_72_43 ?_
        exact w_n (ks := [0, 1, 3, 5]) rfl h
    · refine w_a f_72_40 ?_
      refine w_a (ls := [(5, .int (x5 + Int32.ofInt 1)), (0, .ref 2), (1, .long y1), (3, .long y3)]) f_72_43 ?_
      exact w_n (ks := [0, 1, 3, 5]) rfl h
  · refine w_a f_72_46 ?_
    refine w_a f_72_47 ?_
    exact h
