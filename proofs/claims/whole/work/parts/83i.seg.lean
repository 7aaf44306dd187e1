/-! Pieces of methods, by program out of the tables: 263 to 285. -/
theorem f_263_0 : ftc (PT 263) 0 = some (0, .aload_n 0, 1, 0, 0, 0) := by decide +kernel
theorem f_263_1 : ftc (PT 263) 1 = some (1, .getfield 215, 3, 12, 18, 1654) := by decide +kernel
theorem f_263_4 : ftc (PT 263) 4 = some (4, .aload_n 0, 1, 0, 0, 0) := by decide +kernel
theorem f_263_5 : ftc (PT 263) 5 = some (5, .getfield 212, 3, 12, 17, 1653) := by decide +kernel
theorem f_263_8 : ftc (PT 263) 8 = some (8, .aload_n 0, 1, 0, 0, 0) := by decide +kernel
theorem f_263_9 : ftc (PT 263) 9 = some (9, .getfield 212, 3, 12, 17, 1653) := by decide +kernel
theorem f_263_12 : ftc (PT 263) 12 = some (12, .lmul, 1, 0, 0, 0) := by decide +kernel
theorem f_263_13 : ftc (PT 263) 13 = some (13, .lsub, 1, 0, 0, 0) := by decide +kernel
theorem f_263_14 : ftc (PT 263) 14 = some (14, .lstore_n 2, 1, 0, 0, 0) := by decide +kernel
theorem f_263_15 : ftc (PT 263) 15 = some (15, .aload_n 0, 1, 0, 0, 0) := by decide +kernel
theorem f_263_16 : ftc (PT 263) 16 = some (16, .getfield 212, 3, 12, 17, 1653) := by decide +kernel
theorem f_263_19 : ftc (PT 263) 19 = some (19, .lconst 0, 1, 0, 0, 0) := by decide +kernel
theorem f_263_20 : ftc (PT 263) 20 = some (20, .lcmp, 1, 0, 0, 0) := by decide +kernel
theorem f_263_21 : ftc (PT 263) 21 = some (21, .ifCond .ge 9, 3, 30, 0, 0) := by decide +kernel
theorem f_263_24 : ftc (PT 263) 24 = some (24, .lload_n 2, 1, 0, 0, 0) := by decide +kernel
theorem f_263_25 : ftc (PT 263) 25 = some (25, .lconst 0, 1, 0, 0, 0) := by decide +kernel
theorem f_263_26 : ftc (PT 263) 26 = some (26, .lcmp, 1, 0, 0, 0) := by decide +kernel
theorem f_263_27 : ftc (PT 263) 27 = some (27, .ifCond .le 7, 3, 34, 0, 0) := by decide +kernel
theorem f_263_30 : ftc (PT 263) 30 = some (30, .iconst 1, 1, 0, 0, 0) := by decide +kernel
theorem f_263_31 : ftc (PT 263) 31 = some (31, .goto 14, 3, 45, 0, 0) := by decide +kernel
theorem f_263_34 : ftc (PT 263) 34 = some (34, .lload_n 2, 1, 0, 0, 0) := by decide +kernel
theorem f_263_35 : ftc (PT 263) 35 = some (35, .lconst 0, 1, 0, 0, 0) := by decide +kernel
theorem f_263_36 : ftc (PT 263) 36 = some (36, .lcmp, 1, 0, 0, 0) := by decide +kernel
theorem f_263_37 : ftc (PT 263) 37 = some (37, .ifCond .ne 7, 3, 44, 0, 0) := by decide +kernel
theorem f_263_40 : ftc (PT 263) 40 = some (40, .iconst 0, 1, 0, 0, 0) := by decide +kernel
theorem f_263_41 : ftc (PT 263) 41 = some (41, .goto 4, 3, 45, 0, 0) := by decide +kernel
theorem f_263_44 : ftc (PT 263) 44 = some (44, .iconst (-1), 1, 0, 0, 0) := by decide +kernel
theorem f_263_45 : ftc (PT 263) 45 = some (45, .istore 4, 2, 0, 0, 0) := by decide +kernel
theorem f_263_47 : ftc (PT 263) 47 = some (47, .aload_n 0, 1, 0, 0, 0) := by decide +kernel
theorem f_263_48 : ftc (PT 263) 48 = some (48, .getfield 212, 3, 12, 17, 1653) := by decide +kernel
theorem f_263_51 : ftc (PT 263) 51 = some (51, .lconst 0, 1, 0, 0, 0) := by decide +kernel
theorem f_263_52 : ftc (PT 263) 52 = some (52, .lcmp, 1, 0, 0, 0) := by decide +kernel
theorem f_263_53 : ftc (PT 263) 53 = some (53, .ifCond .le 9, 3, 62, 0, 0) := by decide +kernel
theorem f_263_56 : ftc (PT 263) 56 = some (56, .lload_n 2, 1, 0, 0, 0) := by decide +kernel
theorem f_263_57 : ftc (PT 263) 57 = some (57, .lconst 0, 1, 0, 0, 0) := by decide +kernel
theorem f_263_58 : ftc (PT 263) 58 = some (58, .lcmp, 1, 0, 0, 0) := by decide +kernel
theorem f_263_59 : ftc (PT 263) 59 = some (59, .ifCond .le 7, 3, 66, 0, 0) := by decide +kernel
theorem f_263_62 : ftc (PT 263) 62 = some (62, .iconst (-1), 1, 0, 0, 0) := by decide +kernel
theorem f_263_63 : ftc (PT 263) 63 = some (63, .goto 14, 3, 77, 0, 0) := by decide +kernel
theorem f_263_66 : ftc (PT 263) 66 = some (66, .lload_n 2, 1, 0, 0, 0) := by decide +kernel
theorem f_263_67 : ftc (PT 263) 67 = some (67, .lconst 0, 1, 0, 0, 0) := by decide +kernel
theorem f_263_68 : ftc (PT 263) 68 = some (68, .lcmp, 1, 0, 0, 0) := by decide +kernel
theorem f_263_69 : ftc (PT 263) 69 = some (69, .ifCond .ne 7, 3, 76, 0, 0) := by decide +kernel
theorem f_263_72 : ftc (PT 263) 72 = some (72, .iconst 0, 1, 0, 0, 0) := by decide +kernel
theorem f_263_73 : ftc (PT 263) 73 = some (73, .goto 4, 3, 77, 0, 0) := by decide +kernel
theorem f_263_76 : ftc (PT 263) 76 = some (76, .iconst 1, 1, 0, 0, 0) := by decide +kernel
theorem f_263_77 : ftc (PT 263) 77 = some (77, .istore 5, 2, 0, 0, 0) := by decide +kernel
theorem f_263_79 : ftc (PT 263) 79 = some (79, .iload_n 1, 1, 0, 0, 0) := by decide +kernel
theorem f_263_80 : ftc (PT 263) 80 = some (80, .ifCond .le 8, 3, 88, 0, 0) := by decide +kernel
theorem f_263_83 : ftc (PT 263) 83 = some (83, .iload 4, 2, 0, 0, 0) := by decide +kernel
theorem f_263_85 : ftc (PT 263) 85 = some (85, .goto 5, 3, 90, 0, 0) := by decide +kernel
theorem f_263_88 : ftc (PT 263) 88 = some (88, .iload 5, 2, 0, 0, 0) := by decide +kernel
theorem f_263_90 : ftc (PT 263) 90 = some (90, .istore 6, 2, 0, 0, 0) := by decide +kernel
theorem f_263_92 : ftc (PT 263) 92 = some (92, .aload_n 0, 1, 0, 0, 0) := by decide +kernel
theorem f_263_93 : ftc (PT 263) 93 = some (93, .getfield 206, 3, 12, 19, 1655) := by decide +kernel
theorem f_263_96 : ftc (PT 263) 96 = some (96, .lconst 0, 1, 0, 0, 0) := by decide +kernel
theorem f_263_97 : ftc (PT 263) 97 = some (97, .lcmp, 1, 0, 0, 0) := by decide +kernel
theorem f_263_98 : ftc (PT 263) 98 = some (98, .ifCond .le 8, 3, 106, 0, 0) := by decide +kernel
theorem f_263_101 : ftc (PT 263) 101 = some (101, .iload 6, 2, 0, 0, 0) := by decide +kernel
theorem f_263_103 : ftc (PT 263) 103 = some (103, .goto 6, 3, 109, 0, 0) := by decide +kernel
theorem f_263_106 : ftc (PT 263) 106 = some (106, .iload 6, 2, 0, 0, 0) := by decide +kernel
theorem f_263_108 : ftc (PT 263) 108 = some (108, .ineg, 1, 0, 0, 0) := by decide +kernel
theorem f_263_109 : ftc (PT 263) 109 = some (109, .ireturn, 1, 0, 0, 0) := by decide +kernel
theorem f_264_0 : ftc (PT 264) 0 = some (0, .iload_n 1, 1, 0, 0, 0) := by decide +kernel
theorem f_264_1 : ftc (PT 264) 1 = some (1, .i2l, 1, 0, 0, 0) := by decide +kernel
theorem f_264_2 : ftc (PT 264) 2 = some (2, .aload_n 0, 1, 0, 0, 0) := by decide +kernel
theorem f_264_3 : ftc (PT 264) 3 = some (3, .getfield 215, 3, 12, 18, 1654) := by decide +kernel
theorem f_264_6 : ftc (PT 264) 6 = some (6, .invokestatic 172, 3, 243, 8193, 1887) := by decide +kernel
theorem f_264_9 : ftc (PT 264) 9 = some (9, .lmul, 1, 0, 0, 0) := by decide +kernel
theorem f_264_10 : ftc (PT 264) 10 = some (10, .lstore_n 2, 1, 0, 0, 0) := by decide +kernel
theorem f_264_11 : ftc (PT 264) 11 = some (11, .aload_n 0, 1, 0, 0, 0) := by decide +kernel
theorem f_264_12 : ftc (PT 264) 12 = some (12, .getfield 206, 3, 12, 19, 1655) := by decide +kernel
theorem f_264_15 : ftc (PT 264) 15 = some (15, .lconst 0, 1, 0, 0, 0) := by decide +kernel
theorem f_264_16 : ftc (PT 264) 16 = some (16, .lcmp, 1, 0, 0, 0) := by decide +kernel
theorem f_264_17 : ftc (PT 264) 17 = some (17, .ifCond .eq 20, 3, 37, 0, 0) := by decide +kernel
theorem f_264_20 : ftc (PT 264) 20 = some (20, .aload_n 0, 1, 0, 0, 0) := by decide +kernel
theorem f_264_21 : ftc (PT 264) 21 = some (21, .aload_n 0, 1, 0, 0, 0) := by decide +kernel
theorem f_264_22 : ftc (PT 264) 22 = some (22, .getfield 212, 3, 12, 17, 1653) := by decide +kernel
theorem f_264_25 : ftc (PT 264) 25 = some (25, .lload_n 2, 1, 0, 0, 0) := by decide +kernel
theorem f_264_26 : ftc (PT 264) 26 = some (26, .ladd, 1, 0, 0, 0) := by decide +kernel
theorem f_264_27 : ftc (PT 264) 27 = some (27, .aload_n 0, 1, 0, 0, 0) := by decide +kernel
theorem f_264_28 : ftc (PT 264) 28 = some (28, .getfield 206, 3, 12, 19, 1655) := by decide +kernel
theorem f_264_31 : ftc (PT 264) 31 = some (31, .invokevirtual 179, 3, 246, 5196, 1900) := by decide +kernel
theorem f_264_34 : ftc (PT 264) 34 = some (34, .goto 36, 3, 70, 0, 0) := by decide +kernel
theorem f_264_37 : ftc (PT 264) 37 = some (37, .aload_n 0, 1, 0, 0, 0) := by decide +kernel
theorem f_264_38 : ftc (PT 264) 38 = some (38, .iload_n 1, 1, 0, 0, 0) := by decide +kernel
theorem f_264_39 : ftc (PT 264) 39 = some (39, .invokevirtual 241, 3, 265, 2092, 1977) := by decide +kernel
theorem f_264_42 : ftc (PT 264) 42 = some (42, .ifCond .eq 12, 3, 54, 0, 0) := by decide +kernel
theorem f_264_45 : ftc (PT 264) 45 = some (45, .aload_n 0, 1, 0, 0, 0) := by decide +kernel
theorem f_264_46 : ftc (PT 264) 46 = some (46, .lconst 1, 1, 0, 0, 0) := by decide +kernel
theorem f_264_47 : ftc (PT 264) 47 = some (47, .lconst 0, 1, 0, 0, 0) := by decide +kernel
theorem f_264_48 : ftc (PT 264) 48 = some (48, .invokevirtual 179, 3, 246, 5196, 1900) := by decide +kernel
theorem f_264_51 : ftc (PT 264) 51 = some (51, .goto 19, 3, 70, 0, 0) := by decide +kernel
theorem f_264_54 : ftc (PT 264) 54 = some (54, .aload_n 0, 1, 0, 0, 0) := by decide +kernel
theorem f_264_55 : ftc (PT 264) 55 = some (55, .aload_n 0, 1, 0, 0, 0) := by decide +kernel
theorem f_264_56 : ftc (PT 264) 56 = some (56, .getfield 209, 3, 12, 20, 1656) := by decide +kernel
theorem f_264_59 : ftc (PT 264) 59 = some (59, .ldc2_w 170, 3, 1891, 0, 2) := by decide +kernel
theorem f_264_62 : ftc (PT 264) 62 = some (62, .aload_n 0, 1, 0, 0, 0) := by decide +kernel
theorem f_264_63 : ftc (PT 264) 63 = some (63, .getfield 212, 3, 12, 17, 1653) := by decide +kernel
theorem f_264_66 : ftc (PT 264) 66 = some (66, .lmul, 1, 0, 0, 0) := by decide +kernel
theorem f_264_67 : ftc (PT 264) 67 = some (67, .invokevirtual 179, 3, 246, 5196, 1900) := by decide +kernel
theorem f_264_70 : ftc (PT 264) 70 = some (70, .return_, 1, 0, 0, 0) := by decide +kernel
theorem f_265_0 : ftc (PT 265) 0 = some (0, .aload_n 0, 1, 0, 0, 0) := by decide +kernel
theorem f_265_1 : ftc (PT 265) 1 = some (1, .getfield 206, 3, 12, 19, 1655) := by decide +kernel
theorem f_265_4 : ftc (PT 265) 4 = some (4, .lconst 0, 1, 0, 0, 0) := by decide +kernel
theorem f_265_5 : ftc (PT 265) 5 = some (5, .lcmp, 1, 0, 0, 0) := by decide +kernel
theorem f_265_6 : ftc (PT 265) 6 = some (6, .ifCond .ne 33, 3, 39, 0, 0) := by decide +kernel
theorem f_265_9 : ftc (PT 265) 9 = some (9, .iload_n 1, 1, 0, 0, 0) := by decide +kernel
theorem f_265_10 : ftc (PT 265) 10 = some (10, .ifCond .le 7, 3, 17, 0, 0) := by decide +kernel
theorem f_265_13 : ftc (PT 265) 13 = some (13, .iconst 1, 1, 0, 0, 0) := by decide +kernel
theorem f_265_14 : ftc (PT 265) 14 = some (14, .goto 4, 3, 18, 0, 0) := by decide +kernel
theorem f_265_17 : ftc (PT 265) 17 = some (17, .iconst 0, 1, 0, 0, 0) := by decide +kernel
theorem f_265_18 : ftc (PT 265) 18 = some (18, .aload_n 0, 1, 0, 0, 0) := by decide +kernel
theorem f_265_19 : ftc (PT 265) 19 = some (19, .getfield 212, 3, 12, 17, 1653) := by decide +kernel
theorem f_265_22 : ftc (PT 265) 22 = some (22, .lconst 0, 1, 0, 0, 0) := by decide +kernel
theorem f_265_23 : ftc (PT 265) 23 = some (23, .lcmp, 1, 0, 0, 0) := by decide +kernel
theorem f_265_24 : ftc (PT 265) 24 = some (24, .ifCond .le 7, 3, 31, 0, 0) := by decide +kernel
theorem f_265_27 : ftc (PT 265) 27 = some (27, .iconst 1, 1, 0, 0, 0) := by decide +kernel
theorem f_265_28 : ftc (PT 265) 28 = some (28, .goto 4, 3, 32, 0, 0) := by decide +kernel
theorem f_265_31 : ftc (PT 265) 31 = some (31, .iconst 0, 1, 0, 0, 0) := by decide +kernel
theorem f_265_32 : ftc (PT 265) 32 = some (32, .if_icmp .ne 7, 3, 39, 0, 0) := by decide +kernel
theorem f_265_35 : ftc (PT 265) 35 = some (35, .iconst 1, 1, 0, 0, 0) := by decide +kernel
theorem f_265_36 : ftc (PT 265) 36 = some (36, .goto 4, 3, 40, 0, 0) := by decide +kernel
theorem f_265_39 : ftc (PT 265) 39 = some (39, .iconst 0, 1, 0, 0, 0) := by decide +kernel
theorem f_265_40 : ftc (PT 265) 40 = some (40, .ireturn, 1, 1, 0, 0) := by decide +kernel
theorem f_266_8 : ftc (PT 266) 8 = some (8, .putfield 55, 3, 12, 0, 1636) := by decide +kernel
theorem f_266_11 : ftc (PT 266) 11 = some (11, .aload_n 0, 1, 0, 0, 0) := by decide +kernel
theorem f_266_12 : ftc (PT 266) 12 = some (12, .getfield 55, 3, 12, 0, 1636) := by decide +kernel
theorem f_266_15 : ftc (PT 266) 15 = some (15, .ifCond .le 5, 3, 20, 0, 0) := by decide +kernel
theorem f_266_18 : ftc (PT 266) 18 = some (18, .lconst 0, 1, 0, 0, 0) := by decide +kernel
theorem f_266_19 : ftc (PT 266) 19 = some (19, .lreturn, 1, 0, 0, 0) := by decide +kernel
theorem f_266_20 : ftc (PT 266) 20 = some (20, .aload_n 0, 1, 0, 0, 0) := by decide +kernel
theorem f_266_21 : ftc (PT 266) 21 = some (21, .iload_n 3, 1, 0, 0, 0) := by decide +kernel
theorem f_266_22 : ftc (PT 266) 22 = some (22, .invokevirtual 247, 3, 260, 2092, 1957) := by decide +kernel
theorem f_266_25 : ftc (PT 266) 25 = some (25, .istore 4, 2, 0, 0, 0) := by decide +kernel
theorem f_266_27 : ftc (PT 266) 27 = some (27, .aload_n 0, 1, 0, 0, 0) := by decide +kernel
theorem f_266_28 : ftc (PT 266) 28 = some (28, .iload 4, 2, 0, 0, 0) := by decide +kernel
theorem f_266_30 : ftc (PT 266) 30 = some (30, .invokevirtual 241, 3, 265, 2092, 1977) := by decide +kernel
theorem f_266_33 : ftc (PT 266) 33 = some (33, .ifCond .eq 7, 3, 40, 0, 0) := by decide +kernel
theorem f_266_36 : ftc (PT 266) 36 = some (36, .ldc2_w 253, 3, 1985, 0, 1000000000) := by decide +kernel
theorem f_266_39 : ftc (PT 266) 39 = some (39, .lreturn, 1, 0, 0, 0) := by decide +kernel
theorem f_266_40 : ftc (PT 266) 40 = some (40, .aload_n 0, 1, 0, 0, 0) := by decide +kernel
theorem f_266_41 : ftc (PT 266) 41 = some (41, .getfield 206, 3, 12, 19, 1655) := by decide +kernel
theorem f_266_44 : ftc (PT 266) 44 = some (44, .lconst 0, 1, 0, 0, 0) := by decide +kernel
theorem f_266_45 : ftc (PT 266) 45 = some (45, .lcmp, 1, 0, 0, 0) := by decide +kernel
theorem f_266_46 : ftc (PT 266) 46 = some (46, .ifCond .ne 23, 3, 69, 0, 0) := by decide +kernel
theorem f_266_49 : ftc (PT 266) 49 = some (49, .ldc2_w 201, 3, 1928, 0, 1000) := by decide +kernel
theorem f_266_52 : ftc (PT 266) 52 = some (52, .aload_n 0, 1, 0, 0, 0) := by decide +kernel
theorem f_266_53 : ftc (PT 266) 53 = some (53, .getfield 209, 3, 12, 20, 1656) := by decide +kernel
theorem f_266_56 : ftc (PT 266) 56 = some (56, .lmul, 1, 0, 0, 0) := by decide +kernel
theorem f_266_57 : ftc (PT 266) 57 = some (57, .ldc2_w 170, 3, 1891, 0, 2) := by decide +kernel
theorem f_266_60 : ftc (PT 266) 60 = some (60, .aload_n 0, 1, 0, 0, 0) := by decide +kernel
theorem f_266_61 : ftc (PT 266) 61 = some (61, .getfield 212, 3, 12, 17, 1653) := by decide +kernel
theorem f_266_64 : ftc (PT 266) 64 = some (64, .lmul, 1, 0, 0, 0) := by decide +kernel
theorem f_266_65 : ftc (PT 266) 65 = some (65, .invokestatic 255, 3, 267, 6146, 1986) := by decide +kernel
theorem f_266_68 : ftc (PT 266) 68 = some (68, .lreturn, 1, 0, 0, 0) := by decide +kernel
theorem f_266_69 : ftc (PT 266) 69 = some (69, .aload_n 0, 1, 0, 0, 0) := by decide +kernel
theorem f_266_70 : ftc (PT 266) 70 = some (70, .getfield 206, 3, 12, 19, 1655) := by decide +kernel
theorem f_266_73 : ftc (PT 266) 73 = some (73, .lconst 0, 1, 0, 0, 0) := by decide +kernel
theorem f_266_74 : ftc (PT 266) 74 = some (74, .lcmp, 1, 0, 0, 0) := by decide +kernel
theorem f_266_75 : ftc (PT 266) 75 = some (75, .ifCond .ge 9, 3, 84, 0, 0) := by decide +kernel
theorem f_266_78 : ftc (PT 266) 78 = some (78, .iload 4, 2, 0, 0, 0) := by decide +kernel
theorem f_266_80 : ftc (PT 266) 80 = some (80, .ineg, 1, 0, 0, 0) := by decide +kernel
theorem f_266_81 : ftc (PT 266) 81 = some (81, .goto 5, 3, 86, 0, 0) := by decide +kernel
theorem f_266_84 : ftc (PT 266) 84 = some (84, .iload 4, 2, 0, 0, 0) := by decide +kernel
theorem f_266_86 : ftc (PT 266) 86 = some (86, .istore 5, 2, 0, 0, 0) := by decide +kernel
theorem f_266_88 : ftc (PT 266) 88 = some (88, .aload_n 0, 1, 0, 0, 0) := by decide +kernel
theorem f_266_89 : ftc (PT 266) 89 = some (89, .getfield 206, 3, 12, 19, 1655) := by decide +kernel
theorem f_266_92 : ftc (PT 266) 92 = some (92, .lconst 0, 1, 0, 0, 0) := by decide +kernel
theorem f_266_93 : ftc (PT 266) 93 = some (93, .lcmp, 1, 0, 0, 0) := by decide +kernel
theorem f_266_94 : ftc (PT 266) 94 = some (94, .ifCond .ge 14, 3, 108, 0, 0) := by decide +kernel
theorem f_266_97 : ftc (PT 266) 97 = some (97, .ldc2_w 258, 3, 1989, 0, (-1000)) := by decide +kernel
theorem f_266_100 : ftc (PT 266) 100 = some (100, .aload_n 0, 1, 0, 0, 0) := by decide +kernel
theorem f_266_101 : ftc (PT 266) 101 = some (101, .getfield 212, 3, 12, 17, 1653) := by decide +kernel
theorem f_266_104 : ftc (PT 266) 104 = some (104, .lmul, 1, 0, 0, 0) := by decide +kernel
theorem f_266_105 : ftc (PT 266) 105 = some (105, .goto 11, 3, 116, 0, 0) := by decide +kernel
theorem f_266_108 : ftc (PT 266) 108 = some (108, .ldc2_w 201, 3, 1928, 0, 1000) := by decide +kernel
theorem f_266_111 : ftc (PT 266) 111 = some (111, .aload_n 0, 1, 0, 0, 0) := by decide +kernel
theorem f_266_112 : ftc (PT 266) 112 = some (112, .getfield 212, 3, 12, 17, 1653) := by decide +kernel
theorem f_266_115 : ftc (PT 266) 115 = some (115, .lmul, 1, 0, 0, 0) := by decide +kernel
theorem f_266_116 : ftc (PT 266) 116 = some (116, .lstore 6, 2, 0, 0, 0) := by decide +kernel
theorem f_266_118 : ftc (PT 266) 118 = some (118, .ldc2_w 260, 3, 1990, 0, 1000000) := by decide +kernel
theorem f_266_121 : ftc (PT 266) 121 = some (121, .aload_n 0, 1, 0, 0, 0) := by decide +kernel
theorem f_266_122 : ftc (PT 266) 122 = some (122, .getfield 215, 3, 12, 18, 1654) := by decide +kernel
theorem f_266_125 : ftc (PT 266) 125 = some (125, .lmul, 1, 0, 0, 0) := by decide +kernel
theorem f_266_126 : ftc (PT 266) 126 = some (126, .lstore 8, 2, 0, 0, 0) := by decide +kernel
theorem f_266_128 : ftc (PT 266) 128 = some (128, .lload 8, 2, 0, 0, 0) := by decide +kernel
theorem f_266_130 : ftc (PT 266) 130 = some (130, .invokestatic 172, 3, 243, 8193, 1887) := by decide +kernel
theorem f_266_133 : ftc (PT 266) 133 = some (133, .lstore 10, 2, 0, 0, 0) := by decide +kernel
theorem f_266_135 : ftc (PT 266) 135 = some (135, .lload 10, 2, 0, 0, 0) := by decide +kernel
theorem f_266_137 : ftc (PT 266) 137 = some (137, .lload 10, 2, 0, 0, 0) := by decide +kernel
theorem f_266_139 : ftc (PT 266) 139 = some (139, .lmul, 1, 0, 0, 0) := by decide +kernel
theorem f_266_140 : ftc (PT 266) 140 = some (140, .lload 8, 2, 0, 0, 0) := by decide +kernel
theorem f_266_142 : ftc (PT 266) 142 = some (142, .lcmp, 1, 0, 0, 0) := by decide +kernel
theorem f_266_143 : ftc (PT 266) 143 = some (143, .ifCond .ne 7, 3, 150, 0, 0) := by decide +kernel
theorem f_266_146 : ftc (PT 266) 146 = some (146, .iconst 1, 1, 0, 0, 0) := by decide +kernel
theorem f_266_147 : ftc (PT 266) 147 = some (147, .goto 4, 3, 151, 0, 0) := by decide +kernel
theorem f_266_150 : ftc (PT 266) 150 = some (150, .iconst 0, 1, 0, 0, 0) := by decide +kernel
theorem f_266_151 : ftc (PT 266) 151 = some (151, .istore 12, 2, 0, 0, 0) := by decide +kernel
theorem f_266_153 : ftc (PT 266) 153 = some (153, .lload 6, 2, 0, 0, 0) := by decide +kernel
theorem f_266_155 : ftc (PT 266) 155 = some (155, .iload 5, 2, 0, 0, 0) := by decide +kernel
theorem f_266_157 : ftc (PT 266) 157 = some (157, .ifCond .le 8, 3, 165, 0, 0) := by decide +kernel
theorem f_266_160 : ftc (PT 266) 160 = some (160, .lload 10, 2, 0, 0, 0) := by decide +kernel
theorem f_266_162 : ftc (PT 266) 162 = some (162, .goto 19, 3, 181, 0, 0) := by decide +kernel
theorem f_266_165 : ftc (PT 266) 165 = some (165, .iload 12, 2, 0, 0, 0) := by decide +kernel
theorem f_266_167 : ftc (PT 266) 167 = some (167, .ifCond .eq 9, 3, 176, 0, 0) := by decide +kernel
theorem f_266_170 : ftc (PT 266) 170 = some (170, .lload 10, 2, 0, 0, 0) := by decide +kernel
theorem f_266_172 : ftc (PT 266) 172 = some (172, .lneg, 1, 0, 0, 0) := by decide +kernel
theorem f_266_173 : ftc (PT 266) 173 = some (173, .goto 8, 3, 181, 0, 0) := by decide +kernel
theorem f_266_176 : ftc (PT 266) 176 = some (176, .lload 10, 2, 0, 0, 0) := by decide +kernel
theorem f_266_178 : ftc (PT 266) 178 = some (178, .lneg, 1, 0, 0, 0) := by decide +kernel
theorem f_266_179 : ftc (PT 266) 179 = some (179, .lconst 1, 1, 0, 0, 0) := by decide +kernel
theorem f_266_180 : ftc (PT 266) 180 = some (180, .lsub, 1, 0, 0, 0) := by decide +kernel
theorem f_266_181 : ftc (PT 266) 181 = some (181, .ladd, 1, 0, 0, 0) := by decide +kernel
theorem f_266_182 : ftc (PT 266) 182 = some (182, .aload_n 0, 1, 0, 0, 0) := by decide +kernel
theorem f_266_183 : ftc (PT 266) 183 = some (183, .getfield 206, 3, 12, 19, 1655) := by decide +kernel
theorem f_266_186 : ftc (PT 266) 186 = some (186, .invokestatic 58, 3, 210, 2049, 1630) := by decide +kernel
theorem f_266_189 : ftc (PT 266) 189 = some (189, .invokestatic 255, 3, 267, 6146, 1986) := by decide +kernel
theorem f_266_192 : ftc (PT 266) 192 = some (192, .lreturn, 1, 0, 0, 0) := by decide +kernel
theorem f_267_0 : ftc (PT 267) 0 = some (0, .lload_n 0, 1, 0, 0, 0) := by decide +kernel
theorem f_267_1 : ftc (PT 267) 1 = some (1, .lload_n 2, 1, 0, 0, 0) := by decide +kernel
theorem f_267_2 : ftc (PT 267) 2 = some (2, .ldiv, 1, 0, 0, 0) := by decide +kernel
theorem f_267_3 : ftc (PT 267) 3 = some (3, .lstore 4, 2, 0, 0, 0) := by decide +kernel
theorem f_267_5 : ftc (PT 267) 5 = some (5, .lload_n 0, 1, 0, 0, 0) := by decide +kernel
theorem f_267_6 : ftc (PT 267) 6 = some (6, .lload_n 2, 1, 0, 0, 0) := by decide +kernel
theorem f_267_7 : ftc (PT 267) 7 = some (7, .lrem, 1, 0, 0, 0) := by decide +kernel
theorem f_267_8 : ftc (PT 267) 8 = some (8, .lconst 0, 1, 0, 0, 0) := by decide +kernel
theorem f_267_9 : ftc (PT 267) 9 = some (9, .lcmp, 1, 0, 0, 0) := by decide +kernel
theorem f_267_10 : ftc (PT 267) 10 = some (10, .ifCond .eq 35, 3, 45, 0, 0) := by decide +kernel
theorem f_267_13 : ftc (PT 267) 13 = some (13, .lload_n 0, 1, 0, 0, 0) := by decide +kernel
theorem f_267_14 : ftc (PT 267) 14 = some (14, .lconst 0, 1, 0, 0, 0) := by decide +kernel
theorem f_267_15 : ftc (PT 267) 15 = some (15, .lcmp, 1, 0, 0, 0) := by decide +kernel
theorem f_267_16 : ftc (PT 267) 16 = some (16, .ifCond .ge 7, 3, 23, 0, 0) := by decide +kernel
theorem f_267_19 : ftc (PT 267) 19 = some (19, .iconst 1, 1, 0, 0, 0) := by decide +kernel
theorem f_267_20 : ftc (PT 267) 20 = some (20, .goto 4, 3, 24, 0, 0) := by decide +kernel
theorem f_267_23 : ftc (PT 267) 23 = some (23, .iconst 0, 1, 0, 0, 0) := by decide +kernel
theorem f_267_24 : ftc (PT 267) 24 = some (24, .lload_n 2, 1, 0, 0, 0) := by decide +kernel
theorem f_267_25 : ftc (PT 267) 25 = some (25, .lconst 0, 1, 0, 0, 0) := by decide +kernel
theorem f_267_26 : ftc (PT 267) 26 = some (26, .lcmp, 1, 0, 0, 0) := by decide +kernel
theorem f_267_27 : ftc (PT 267) 27 = some (27, .ifCond .ge 7, 3, 34, 0, 0) := by decide +kernel
theorem f_267_30 : ftc (PT 267) 30 = some (30, .iconst 1, 1, 0, 0, 0) := by decide +kernel
theorem f_267_31 : ftc (PT 267) 31 = some (31, .goto 4, 3, 35, 0, 0) := by decide +kernel
theorem f_267_34 : ftc (PT 267) 34 = some (34, .iconst 0, 1, 0, 0, 0) := by decide +kernel
theorem f_267_35 : ftc (PT 267) 35 = some (35, .if_icmp .eq 10, 3, 45, 0, 0) := by decide +kernel
theorem f_267_38 : ftc (PT 267) 38 = some (38, .lload 4, 2, 0, 0, 0) := by decide +kernel
theorem f_267_40 : ftc (PT 267) 40 = some (40, .lconst 1, 1, 0, 0, 0) := by decide +kernel
theorem f_267_41 : ftc (PT 267) 41 = some (41, .lsub, 1, 0, 0, 0) := by decide +kernel
theorem f_267_42 : ftc (PT 267) 42 = some (42, .goto 5, 3, 47, 0, 0) := by decide +kernel
theorem f_267_45 : ftc (PT 267) 45 = some (45, .lload 4, 2, 0, 0, 0) := by decide +kernel
theorem f_267_47 : ftc (PT 267) 47 = some (47, .lreturn, 1, 0, 0, 0) := by decide +kernel
theorem f_268_8 : ftc (PT 268) 8 = some (8, .putfield 55, 3, 12, 0, 1636) := by decide +kernel
theorem f_268_11 : ftc (PT 268) 11 = some (11, .aload_n 0, 1, 0, 0, 0) := by decide +kernel
theorem f_268_12 : ftc (PT 268) 12 = some (12, .getfield 55, 3, 12, 0, 1636) := by decide +kernel
theorem f_268_15 : ftc (PT 268) 15 = some (15, .ifCond .le 5, 3, 20, 0, 0) := by decide +kernel
theorem f_268_18 : ftc (PT 268) 18 = some (18, .lconst 0, 1, 0, 0, 0) := by decide +kernel
theorem f_268_19 : ftc (PT 268) 19 = some (19, .lreturn, 1, 0, 0, 0) := by decide +kernel
theorem f_268_20 : ftc (PT 268) 20 = some (20, .aload_n 0, 1, 0, 0, 0) := by decide +kernel
theorem f_268_21 : ftc (PT 268) 21 = some (21, .aload_n 0, 1, 0, 0, 0) := by decide +kernel
theorem f_268_22 : ftc (PT 268) 22 = some (22, .iload_n 3, 1, 0, 0, 0) := by decide +kernel
theorem f_268_23 : ftc (PT 268) 23 = some (23, .invokevirtual 247, 3, 260, 2092, 1957) := by decide +kernel
theorem f_268_26 : ftc (PT 268) 26 = some (26, .i2l, 1, 0, 0, 0) := by decide +kernel
theorem f_268_27 : ftc (PT 268) 27 = some (27, .aload_n 0, 1, 0, 0, 0) := by decide +kernel
theorem f_268_28 : ftc (PT 268) 28 = some (28, .getfield 215, 3, 12, 18, 1654) := by decide +kernel
theorem f_268_31 : ftc (PT 268) 31 = some (31, .invokestatic 172, 3, 243, 8193, 1887) := by decide +kernel
theorem f_268_34 : ftc (PT 268) 34 = some (34, .lmul, 1, 0, 0, 0) := by decide +kernel
theorem f_268_35 : ftc (PT 268) 35 = some (35, .aload_n 0, 1, 0, 0, 0) := by decide +kernel
theorem f_268_36 : ftc (PT 268) 36 = some (36, .getfield 192, 3, 12, 14, 1650) := by decide +kernel
theorem f_268_39 : ftc (PT 268) 39 = some (39, .aload_n 0, 1, 0, 0, 0) := by decide +kernel
theorem f_268_40 : ftc (PT 268) 40 = some (40, .getfield 198, 3, 12, 16, 1652) := by decide +kernel
theorem f_268_43 : ftc (PT 268) 43 = some (43, .lmul, 1, 0, 0, 0) := by decide +kernel
theorem f_268_44 : ftc (PT 268) 44 = some (44, .invokevirtual 88, 3, 236, 8268, 1860) := by decide +kernel
theorem f_268_47 : ftc (PT 268) 47 = some (47, .aload_n 0, 1, 0, 0, 0) := by decide +kernel
theorem f_268_48 : ftc (PT 268) 48 = some (48, .iload 4, 2, 0, 0, 0) := by decide +kernel
theorem f_268_50 : ftc (PT 268) 50 = some (50, .invokevirtual 161, 3, 237, 2092, 1864) := by decide +kernel
theorem f_268_53 : ftc (PT 268) 53 = some (53, .lreturn, 1, 0, 0, 0) := by decide +kernel
theorem f_269_18 : ftc (PT 269) 18 = some (18, .ifCond .eq 10, 3, 28, 0, 0) := by decide +kernel
theorem f_269_21 : ftc (PT 269) 21 = some (21, .aload_n 0, 1, 0, 0, 0) := by decide +kernel
theorem f_269_22 : ftc (PT 269) 22 = some (22, .invokevirtual 230, 3, 253, 1036, 1929) := by decide +kernel
theorem f_269_25 : ftc (PT 269) 25 = some (25, .ifCond .ne 7, 3, 32, 0, 0) := by decide +kernel
theorem f_269_28 : ftc (PT 269) 28 = some (28, .iconst 2, 1, 0, 0, 0) := by decide +kernel
theorem f_269_29 : ftc (PT 269) 29 = some (29, .goto 4, 3, 33, 0, 0) := by decide +kernel
theorem f_269_32 : ftc (PT 269) 32 = some (32, .iconst 0, 1, 0, 0, 0) := by decide +kernel
theorem f_269_33 : ftc (PT 269) 33 = some (33, .putfield 55, 3, 12, 0, 1636) := by decide +kernel
theorem f_269_36 : ftc (PT 269) 36 = some (36, .aload_n 0, 1, 0, 0, 0) := by decide +kernel
theorem f_269_37 : ftc (PT 269) 37 = some (37, .getfield 55, 3, 12, 0, 1636) := by decide +kernel
theorem f_269_40 : ftc (PT 269) 40 = some (40, .ifCond .le 5, 3, 45, 0, 0) := by decide +kernel
theorem f_269_43 : ftc (PT 269) 43 = some (43, .lconst 0, 1, 0, 0, 0) := by decide +kernel
theorem f_269_44 : ftc (PT 269) 44 = some (44, .lreturn, 1, 0, 0, 0) := by decide +kernel
theorem f_269_45 : ftc (PT 269) 45 = some (45, .aload_n 0, 1, 0, 0, 0) := by decide +kernel
theorem f_269_46 : ftc (PT 269) 46 = some (46, .aload_n 0, 1, 0, 0, 0) := by decide +kernel
theorem f_269_47 : ftc (PT 269) 47 = some (47, .getfield 192, 3, 12, 14, 1650) := by decide +kernel
theorem f_269_50 : ftc (PT 269) 50 = some (50, .aload_n 0, 1, 0, 0, 0) := by decide +kernel
theorem f_269_51 : ftc (PT 269) 51 = some (51, .getfield 198, 3, 12, 16, 1652) := by decide +kernel
theorem f_269_54 : ftc (PT 269) 54 = some (54, .lsub, 1, 0, 0, 0) := by decide +kernel
theorem f_269_55 : ftc (PT 269) 55 = some (55, .aload_n 0, 1, 0, 0, 0) := by decide +kernel
theorem f_269_56 : ftc (PT 269) 56 = some (56, .getfield 195, 3, 12, 15, 1651) := by decide +kernel
theorem f_269_59 : ftc (PT 269) 59 = some (59, .invokestatic 147, 3, 235, 4098, 1857) := by decide +kernel
theorem f_269_62 : ftc (PT 269) 62 = some (62, .aload_n 0, 1, 0, 0, 0) := by decide +kernel
theorem f_269_63 : ftc (PT 269) 63 = some (63, .getfield 192, 3, 12, 14, 1650) := by decide +kernel
theorem f_269_66 : ftc (PT 269) 66 = some (66, .aload_n 0, 1, 0, 0, 0) := by decide +kernel
theorem f_269_67 : ftc (PT 269) 67 = some (67, .getfield 198, 3, 12, 16, 1652) := by decide +kernel
theorem f_269_70 : ftc (PT 269) 70 = some (70, .lmul, 1, 0, 0, 0) := by decide +kernel
theorem f_269_71 : ftc (PT 269) 71 = some (71, .invokevirtual 88, 3, 236, 8268, 1860) := by decide +kernel
theorem f_269_74 : ftc (PT 269) 74 = some (74, .aload_n 0, 1, 0, 0, 0) := by decide +kernel
theorem f_269_75 : ftc (PT 269) 75 = some (75, .iload_n 3, 1, 0, 0, 0) := by decide +kernel
theorem f_269_76 : ftc (PT 269) 76 = some (76, .invokevirtual 161, 3, 237, 2092, 1864) := by decide +kernel
theorem f_269_79 : ftc (PT 269) 79 = some (79, .lreturn, 1, 0, 0, 0) := by decide +kernel
theorem f_270_8 : ftc (PT 270) 8 = some (8, .putfield 55, 3, 12, 0, 1636) := by decide +kernel
theorem f_270_11 : ftc (PT 270) 11 = some (11, .aload_n 0, 1, 0, 0, 0) := by decide +kernel
theorem f_270_12 : ftc (PT 270) 12 = some (12, .getfield 55, 3, 12, 0, 1636) := by decide +kernel
theorem f_270_15 : ftc (PT 270) 15 = some (15, .ifCond .le 7, 3, 22, 0, 0) := by decide +kernel
theorem f_270_18 : ftc (PT 270) 18 = some (18, .iconst 0, 1, 0, 0, 0) := by decide +kernel
theorem f_270_19 : ftc (PT 270) 19 = some (19, .goto 8, 3, 27, 0, 0) := by decide +kernel
theorem f_270_22 : ftc (PT 270) 22 = some (22, .aload_n 0, 1, 0, 0, 0) := by decide +kernel
theorem f_270_23 : ftc (PT 270) 23 = some (23, .iload_n 3, 1, 0, 0, 0) := by decide +kernel
theorem f_270_24 : ftc (PT 270) 24 = some (24, .invokevirtual 247, 3, 260, 2092, 1957) := by decide +kernel
theorem f_270_27 : ftc (PT 270) 27 = some (27, .ireturn, 1, 0, 0, 0) := by decide +kernel
theorem f_271_11 : ftc (PT 271) 11 = some (11, .ifCond .gt 11, 3, 22, 0, 0) := by decide +kernel
theorem f_271_14 : ftc (PT 271) 14 = some (14, .aload_n 0, 1, 0, 0, 0) := by decide +kernel
theorem f_271_15 : ftc (PT 271) 15 = some (15, .invokevirtual 92, 3, 215, 1036, 1781) := by decide +kernel
theorem f_271_18 : ftc (PT 271) 18 = some (18, .iconst 2, 1, 0, 0, 0) := by decide +kernel
theorem f_271_19 : ftc (PT 271) 19 = some (19, .if_icmp .le 7, 3, 26, 0, 0) := by decide +kernel
theorem f_271_22 : ftc (PT 271) 22 = some (22, .iconst 1, 1, 0, 0, 0) := by decide +kernel
theorem f_271_23 : ftc (PT 271) 23 = some (23, .goto 4, 3, 27, 0, 0) := by decide +kernel
theorem f_271_26 : ftc (PT 271) 26 = some (26, .iconst 0, 1, 0, 0, 0) := by decide +kernel
theorem f_271_27 : ftc (PT 271) 27 = some (27, .putfield 55, 3, 12, 0, 1636) := by decide +kernel
theorem f_271_30 : ftc (PT 271) 30 = some (30, .aload_n 0, 1, 0, 0, 0) := by decide +kernel
theorem f_271_31 : ftc (PT 271) 31 = some (31, .getfield 55, 3, 12, 0, 1636) := by decide +kernel
theorem f_271_34 : ftc (PT 271) 34 = some (34, .ifCond .le 5, 3, 39, 0, 0) := by decide +kernel
theorem f_271_37 : ftc (PT 271) 37 = some (37, .iconst 0, 1, 0, 0, 0) := by decide +kernel
theorem f_271_38 : ftc (PT 271) 38 = some (38, .ireturn, 1, 0, 0, 0) := by decide +kernel
theorem f_271_39 : ftc (PT 271) 39 = some (39, .aload_n 0, 1, 0, 0, 0) := by decide +kernel
theorem f_271_40 : ftc (PT 271) 40 = some (40, .iload_n 2, 1, 0, 0, 0) := by decide +kernel
theorem f_271_41 : ftc (PT 271) 41 = some (41, .invokevirtual 247, 3, 260, 2092, 1957) := by decide +kernel
theorem f_271_44 : ftc (PT 271) 44 = some (44, .istore 4, 2, 0, 0, 0) := by decide +kernel
theorem f_271_46 : ftc (PT 271) 46 = some (46, .aload_n 0, 1, 0, 0, 0) := by decide +kernel
theorem f_271_47 : ftc (PT 271) 47 = some (47, .iload 4, 2, 0, 0, 0) := by decide +kernel
theorem f_271_49 : ftc (PT 271) 49 = some (49, .invokevirtual 250, 3, 264, 4140, 1973) := by decide +kernel
theorem f_271_52 : ftc (PT 271) 52 = some (52, .aload_n 0, 1, 0, 0, 0) := by decide +kernel
theorem f_271_53 : ftc (PT 271) 53 = some (53, .getfield 81, 3, 12, 8, 1644) := by decide +kernel
theorem f_271_56 : ftc (PT 271) 56 = some (56, .lstore 5, 2, 0, 0, 0) := by decide +kernel
theorem f_271_58 : ftc (PT 271) 58 = some (58, .aload_n 0, 1, 0, 0, 0) := by decide +kernel
theorem f_271_59 : ftc (PT 271) 59 = some (59, .getfield 85, 3, 12, 9, 1645) := by decide +kernel
theorem f_271_62 : ftc (PT 271) 62 = some (62, .lstore 7, 2, 0, 0, 0) := by decide +kernel
theorem f_271_64 : ftc (PT 271) 64 = some (64, .iload_n 1, 1, 0, 0, 0) := by decide +kernel
theorem f_271_65 : ftc (PT 271) 65 = some (65, .iload_n 3, 1, 0, 0, 0) := by decide +kernel
theorem f_271_66 : ftc (PT 271) 66 = some (66, .if_icmp .eq 7, 3, 73, 0, 0) := by decide +kernel
theorem f_271_69 : ftc (PT 271) 69 = some (69, .iconst 1, 1, 0, 0, 0) := by decide +kernel
theorem f_271_70 : ftc (PT 271) 70 = some (70, .goto 4, 3, 74, 0, 0) := by decide +kernel
theorem f_271_73 : ftc (PT 271) 73 = some (73, .iconst 0, 1, 0, 0, 0) := by decide +kernel
theorem f_271_74 : ftc (PT 271) 74 = some (74, .istore 9, 2, 0, 0, 0) := by decide +kernel
theorem f_271_76 : ftc (PT 271) 76 = some (76, .iload 4, 2, 0, 0, 0) := by decide +kernel
theorem f_271_78 : ftc (PT 271) 78 = some (78, .i2l, 1, 0, 0, 0) := by decide +kernel
theorem f_271_79 : ftc (PT 271) 79 = some (79, .aload_n 0, 1, 0, 0, 0) := by decide +kernel
theorem f_271_80 : ftc (PT 271) 80 = some (80, .getfield 215, 3, 12, 18, 1654) := by decide +kernel
theorem f_271_83 : ftc (PT 271) 83 = some (83, .invokestatic 172, 3, 243, 8193, 1887) := by decide +kernel
theorem f_271_86 : ftc (PT 271) 86 = some (86, .lmul, 1, 0, 0, 0) := by decide +kernel
theorem f_271_87 : ftc (PT 271) 87 = some (87, .lstore 10, 2, 0, 0, 0) := by decide +kernel
theorem f_271_89 : ftc (PT 271) 89 = some (89, .iload 9, 2, 0, 0, 0) := by decide +kernel
theorem f_271_91 : ftc (PT 271) 91 = some (91, .ifCond .eq 21, 3, 112, 0, 0) := by decide +kernel
theorem f_271_94 : ftc (PT 271) 94 = some (94, .aload_n 0, 1, 0, 0, 0) := by decide +kernel
theorem f_271_95 : ftc (PT 271) 95 = some (95, .lload 10, 2, 0, 0, 0) := by decide +kernel
theorem f_271_97 : ftc (PT 271) 97 = some (97, .aload_n 0, 1, 0, 0, 0) := by decide +kernel
theorem f_271_98 : ftc (PT 271) 98 = some (98, .getfield 192, 3, 12, 14, 1650) := by decide +kernel
theorem f_271_101 : ftc (PT 271) 101 = some (101, .aload_n 0, 1, 0, 0, 0) := by decide +kernel
theorem f_271_102 : ftc (PT 271) 102 = some (102, .getfield 198, 3, 12, 16, 1652) := by decide +kernel
theorem f_271_105 : ftc (PT 271) 105 = some (105, .lmul, 1, 0, 0, 0) := by decide +kernel
theorem f_271_106 : ftc (PT 271) 106 = some (106, .invokevirtual 179, 3, 246, 5196, 1900) := by decide +kernel
theorem f_271_109 : ftc (PT 271) 109 = some (109, .goto 19, 3, 128, 0, 0) := by decide +kernel
theorem f_271_112 : ftc (PT 271) 112 = some (112, .aload_n 0, 1, 0, 0, 0) := by decide +kernel
theorem f_271_113 : ftc (PT 271) 113 = some (113, .aload_n 0, 1, 0, 0, 0) := by decide +kernel
theorem f_271_114 : ftc (PT 271) 114 = some (114, .getfield 192, 3, 12, 14, 1650) := by decide +kernel
theorem f_271_117 : ftc (PT 271) 117 = some (117, .lneg, 1, 0, 0, 0) := by decide +kernel
theorem f_271_118 : ftc (PT 271) 118 = some (118, .aload_n 0, 1, 0, 0, 0) := by decide +kernel
theorem f_271_119 : ftc (PT 271) 119 = some (119, .getfield 198, 3, 12, 16, 1652) := by decide +kernel
theorem f_271_122 : ftc (PT 271) 122 = some (122, .lmul, 1, 0, 0, 0) := by decide +kernel
theorem f_271_123 : ftc (PT 271) 123 = some (123, .lload 10, 2, 0, 0, 0) := by decide +kernel
theorem f_271_125 : ftc (PT 271) 125 = some (125, .invokevirtual 179, 3, 246, 5196, 1900) := by decide +kernel
theorem f_271_128 : ftc (PT 271) 128 = some (128, .aload_n 0, 1, 0, 0, 0) := by decide +kernel
theorem f_271_129 : ftc (PT 271) 129 = some (129, .lload 5, 2, 0, 0, 0) := by decide +kernel
theorem f_271_131 : ftc (PT 271) 131 = some (131, .lload 7, 2, 0, 0, 0) := by decide +kernel
theorem f_271_133 : ftc (PT 271) 133 = some (133, .invokestatic 262, 3, 272, 4098, 2007) := by decide +kernel
theorem f_271_136 : ftc (PT 271) 136 = some (136, .ifCond .eq 21, 3, 157, 0, 0) := by decide +kernel
theorem f_271_139 : ftc (PT 271) 139 = some (139, .aload_n 0, 1, 0, 0, 0) := by decide +kernel
theorem f_271_140 : ftc (PT 271) 140 = some (140, .getfield 81, 3, 12, 8, 1644) := by decide +kernel
theorem f_271_143 : ftc (PT 271) 143 = some (143, .aload_n 0, 1, 0, 0, 0) := by decide +kernel
theorem f_271_144 : ftc (PT 271) 144 = some (144, .getfield 85, 3, 12, 9, 1645) := by decide +kernel
theorem f_271_147 : ftc (PT 271) 147 = some (147, .invokestatic 262, 3, 272, 4098, 2007) := by decide +kernel
theorem f_271_150 : ftc (PT 271) 150 = some (150, .ifCond .eq 7, 3, 157, 0, 0) := by decide +kernel
theorem f_271_153 : ftc (PT 271) 153 = some (153, .iconst 0, 1, 0, 0, 0) := by decide +kernel
theorem f_271_154 : ftc (PT 271) 154 = some (154, .goto 4, 3, 158, 0, 0) := by decide +kernel
theorem f_271_157 : ftc (PT 271) 157 = some (157, .iconst 1, 1, 0, 0, 0) := by decide +kernel
theorem f_271_158 : ftc (PT 271) 158 = some (158, .putfield 55, 3, 12, 0, 1636) := by decide +kernel
theorem f_271_161 : ftc (PT 271) 161 = some (161, .aload_n 0, 1, 0, 0, 0) := by decide +kernel
theorem f_271_162 : ftc (PT 271) 162 = some (162, .getfield 55, 3, 12, 0, 1636) := by decide +kernel
theorem f_271_165 : ftc (PT 271) 165 = some (165, .ifCond .le 5, 3, 170, 0, 0) := by decide +kernel
theorem f_271_168 : ftc (PT 271) 168 = some (168, .iconst 0, 1, 0, 0, 0) := by decide +kernel
theorem f_271_169 : ftc (PT 271) 169 = some (169, .ireturn, 1, 0, 0, 0) := by decide +kernel
theorem f_271_170 : ftc (PT 271) 170 = some (170, .aload_n 0, 1, 0, 0, 0) := by decide +kernel
theorem f_271_171 : ftc (PT 271) 171 = some (171, .aload_n 0, 1, 0, 0, 0) := by decide +kernel
theorem f_271_172 : ftc (PT 271) 172 = some (172, .invokevirtual 92, 3, 215, 1036, 1781) := by decide +kernel
theorem f_271_175 : ftc (PT 271) 175 = some (175, .iconst 0, 1, 0, 0, 0) := by decide +kernel
theorem f_271_176 : ftc (PT 271) 176 = some (176, .lload 5, 2, 0, 0, 0) := by decide +kernel
theorem f_271_178 : ftc (PT 271) 178 = some (178, .l2i, 1, 0, 0, 0) := by decide +kernel
theorem f_271_179 : ftc (PT 271) 179 = some (179, .lload 7, 2, 0, 0, 0) := by decide +kernel
theorem f_271_181 : ftc (PT 271) 181 = some (181, .l2i, 1, 0, 0, 0) := by decide +kernel
theorem f_271_182 : ftc (PT 271) 182 = some (182, .invokevirtual 96, 3, 216, 5260, 1785) := by decide +kernel
theorem f_271_185 : ftc (PT 271) 185 = some (185, .aload_n 0, 1, 0, 0, 0) := by decide +kernel
theorem f_271_186 : ftc (PT 271) 186 = some (186, .aload_n 0, 1, 0, 0, 0) := by decide +kernel
theorem f_271_187 : ftc (PT 271) 187 = some (187, .invokevirtual 92, 3, 215, 1036, 1781) := by decide +kernel
theorem f_271_190 : ftc (PT 271) 190 = some (190, .iconst 1, 1, 0, 0, 0) := by decide +kernel
theorem f_271_191 : ftc (PT 271) 191 = some (191, .iadd, 1, 0, 0, 0) := by decide +kernel
theorem f_271_192 : ftc (PT 271) 192 = some (192, .iload_n 1, 1, 0, 0, 0) := by decide +kernel
theorem f_271_193 : ftc (PT 271) 193 = some (193, .ifCond .eq 15, 3, 208, 0, 0) := by decide +kernel
theorem f_271_196 : ftc (PT 271) 196 = some (196, .iload_n 3, 1, 0, 0, 0) := by decide +kernel
theorem f_271_197 : ftc (PT 271) 197 = some (197, .ifCond .eq 7, 3, 204, 0, 0) := by decide +kernel
theorem f_271_200 : ftc (PT 271) 200 = some (200, .iconst 3, 1, 0, 0, 0) := by decide +kernel
theorem f_271_201 : ftc (PT 271) 201 = some (201, .goto 16, 3, 217, 0, 0) := by decide +kernel
theorem f_271_204 : ftc (PT 271) 204 = some (204, .iconst 4, 1, 0, 0, 0) := by decide +kernel
theorem f_271_205 : ftc (PT 271) 205 = some (205, .goto 12, 3, 217, 0, 0) := by decide +kernel
theorem f_271_208 : ftc (PT 271) 208 = some (208, .iload_n 3, 1, 0, 0, 0) := by decide +kernel
theorem f_271_209 : ftc (PT 271) 209 = some (209, .ifCond .eq 7, 3, 216, 0, 0) := by decide +kernel
theorem f_271_212 : ftc (PT 271) 212 = some (212, .iconst 1, 1, 0, 0, 0) := by decide +kernel
theorem f_271_213 : ftc (PT 271) 213 = some (213, .goto 4, 3, 217, 0, 0) := by decide +kernel
theorem f_271_216 : ftc (PT 271) 216 = some (216, .iconst 2, 1, 0, 0, 0) := by decide +kernel
theorem f_271_217 : ftc (PT 271) 217 = some (217, .aload_n 0, 1, 0, 0, 0) := by decide +kernel
theorem f_271_218 : ftc (PT 271) 218 = some (218, .getfield 81, 3, 12, 8, 1644) := by decide +kernel
theorem f_271_221 : ftc (PT 271) 221 = some (221, .l2i, 1, 0, 0, 0) := by decide +kernel
theorem f_271_222 : ftc (PT 271) 222 = some (222, .aload_n 0, 1, 0, 0, 0) := by decide +kernel
theorem f_271_223 : ftc (PT 271) 223 = some (223, .getfield 85, 3, 12, 9, 1645) := by decide +kernel
theorem f_271_226 : ftc (PT 271) 226 = some (226, .l2i, 1, 0, 0, 0) := by decide +kernel
theorem f_271_227 : ftc (PT 271) 227 = some (227, .invokevirtual 96, 3, 216, 5260, 1785) := by decide +kernel
theorem f_271_230 : ftc (PT 271) 230 = some (230, .aload_n 0, 1, 0, 0, 0) := by decide +kernel
theorem f_271_231 : ftc (PT 271) 231 = some (231, .getfield 7, 3, 12, 1, 1637) := by decide +kernel
theorem f_271_234 : ftc (PT 271) 234 = some (234, .iconst 3, 1, 0, 0, 0) := by decide +kernel
theorem f_271_235 : ftc (PT 271) 235 = some (235, .dup2, 1, 0, 0, 0) := by decide +kernel
theorem f_271_236 : ftc (PT 271) 236 = some (236, .iaload, 1, 0, 0, 0) := by decide +kernel
theorem f_271_237 : ftc (PT 271) 237 = some (237, .iconst 2, 1, 0, 0, 0) := by decide +kernel
theorem f_271_238 : ftc (PT 271) 238 = some (238, .iadd, 1, 0, 0, 0) := by decide +kernel
theorem f_271_239 : ftc (PT 271) 239 = some (239, .iastore, 1, 0, 0, 0) := by decide +kernel
theorem f_271_240 : ftc (PT 271) 240 = some (240, .aload_n 0, 1, 0, 0, 0) := by decide +kernel
theorem f_271_241 : ftc (PT 271) 241 = some (241, .invokevirtual 92, 3, 215, 1036, 1781) := by decide +kernel
theorem f_271_244 : ftc (PT 271) 244 = some (244, .ireturn, 1, 0, 0, 0) := by decide +kernel
theorem f_272_0 : ftc (PT 272) 0 = some (0, .lload_n 0, 1, 0, 0, 0) := by decide +kernel
theorem f_272_1 : ftc (PT 272) 1 = some (1, .invokestatic 58, 3, 210, 2049, 1630) := by decide +kernel
theorem f_272_4 : ftc (PT 272) 4 = some (4, .ldc2_w 266, 3, 2010, 0, 12) := by decide +kernel
theorem f_272_7 : ftc (PT 272) 7 = some (7, .lcmp, 1, 0, 0, 0) := by decide +kernel
theorem f_272_8 : ftc (PT 272) 8 = some (8, .ifCond .gt 15, 3, 23, 0, 0) := by decide +kernel
theorem f_272_11 : ftc (PT 272) 11 = some (11, .lload_n 2, 1, 0, 0, 0) := by decide +kernel
theorem f_272_12 : ftc (PT 272) 12 = some (12, .ldc2_w 266, 3, 2010, 0, 12) := by decide +kernel
theorem f_272_15 : ftc (PT 272) 15 = some (15, .lcmp, 1, 0, 0, 0) := by decide +kernel
theorem f_272_16 : ftc (PT 272) 16 = some (16, .ifCond .gt 7, 3, 23, 0, 0) := by decide +kernel
theorem f_272_19 : ftc (PT 272) 19 = some (19, .iconst 1, 1, 0, 0, 0) := by decide +kernel
theorem f_272_20 : ftc (PT 272) 20 = some (20, .goto 4, 3, 24, 0, 0) := by decide +kernel
theorem f_272_23 : ftc (PT 272) 23 = some (23, .iconst 0, 1, 0, 0, 0) := by decide +kernel
theorem f_272_24 : ftc (PT 272) 24 = some (24, .ireturn, 1, 1, 0, 0) := by decide +kernel
theorem f_273_19 : ftc (PT 273) 19 = some (19, .ifCond .ne 7, 3, 26, 0, 0) := by decide +kernel
theorem f_273_22 : ftc (PT 273) 22 = some (22, .iconst 2, 1, 0, 0, 0) := by decide +kernel
theorem f_273_23 : ftc (PT 273) 23 = some (23, .goto 4, 3, 27, 0, 0) := by decide +kernel
theorem f_273_26 : ftc (PT 273) 26 = some (26, .iconst 0, 1, 0, 0, 0) := by decide +kernel
theorem f_273_27 : ftc (PT 273) 27 = some (27, .putfield 55, 3, 12, 0, 1636) := by decide +kernel
theorem f_273_30 : ftc (PT 273) 30 = some (30, .aload_n 0, 1, 0, 0, 0) := by decide +kernel
theorem f_273_31 : ftc (PT 273) 31 = some (31, .getfield 55, 3, 12, 0, 1636) := by decide +kernel
theorem f_273_34 : ftc (PT 273) 34 = some (34, .ifCond .le 5, 3, 39, 0, 0) := by decide +kernel
theorem f_273_37 : ftc (PT 273) 37 = some (37, .lconst 0, 1, 0, 0, 0) := by decide +kernel
theorem f_273_38 : ftc (PT 273) 38 = some (38, .lreturn, 1, 0, 0, 0) := by decide +kernel
theorem f_273_39 : ftc (PT 273) 39 = some (39, .aload_n 0, 1, 0, 0, 0) := by decide +kernel
theorem f_273_40 : ftc (PT 273) 40 = some (40, .invokevirtual 275, 3, 276, 1036, 2023) := by decide +kernel
theorem f_273_43 : ftc (PT 273) 43 = some (43, .aload_n 0, 1, 0, 0, 0) := by decide +kernel
theorem f_273_44 : ftc (PT 273) 44 = some (44, .aload_n 0, 1, 0, 0, 0) := by decide +kernel
theorem f_273_45 : ftc (PT 273) 45 = some (45, .invokevirtual 278, 3, 277, 1036, 2027) := by decide +kernel
theorem f_273_48 : ftc (PT 273) 48 = some (48, .aload_n 0, 1, 0, 0, 0) := by decide +kernel
theorem f_273_49 : ftc (PT 273) 49 = some (49, .iload_n 2, 1, 0, 0, 0) := by decide +kernel
theorem f_273_50 : ftc (PT 273) 50 = some (50, .invokevirtual 282, 3, 278, 2092, 2031) := by decide +kernel
theorem f_273_53 : ftc (PT 273) 53 = some (53, .invokevirtual 88, 3, 236, 8268, 1860) := by decide +kernel
theorem f_273_56 : ftc (PT 273) 56 = some (56, .aload_n 0, 1, 0, 0, 0) := by decide +kernel
theorem f_273_57 : ftc (PT 273) 57 = some (57, .iload_n 3, 1, 0, 0, 0) := by decide +kernel
theorem f_273_58 : ftc (PT 273) 58 = some (58, .invokevirtual 161, 3, 237, 2092, 1864) := by decide +kernel
theorem f_273_61 : ftc (PT 273) 61 = some (61, .lreturn, 1, 0, 0, 0) := by decide +kernel
theorem f_274_0 : ftc (PT 274) 0 = some (0, .aload_n 0, 1, 0, 0, 0) := by decide +kernel
theorem f_274_1 : ftc (PT 274) 1 = some (1, .iload_n 1, 1, 0, 0, 0) := by decide +kernel
theorem f_274_2 : ftc (PT 274) 2 = some (2, .invokevirtual 227, 3, 251, 2092, 1920) := by decide +kernel
theorem f_274_5 : ftc (PT 274) 5 = some (5, .ifCond .eq 18, 3, 23, 0, 0) := by decide +kernel
theorem f_274_8 : ftc (PT 274) 8 = some (8, .iload_n 2, 1, 0, 0, 0) := by decide +kernel
theorem f_274_9 : ftc (PT 274) 9 = some (9, .ifCond .ne 10, 3, 19, 0, 0) := by decide +kernel
theorem f_274_12 : ftc (PT 274) 12 = some (12, .aload_n 0, 1, 0, 0, 0) := by decide +kernel
theorem f_274_13 : ftc (PT 274) 13 = some (13, .invokevirtual 268, 3, 275, 1036, 2019) := by decide +kernel
theorem f_274_16 : ftc (PT 274) 16 = some (16, .ifCond .ne 7, 3, 23, 0, 0) := by decide +kernel
theorem f_274_19 : ftc (PT 274) 19 = some (19, .iconst 1, 1, 0, 0, 0) := by decide +kernel
theorem f_274_20 : ftc (PT 274) 20 = some (20, .goto 4, 3, 24, 0, 0) := by decide +kernel
theorem f_274_23 : ftc (PT 274) 23 = some (23, .iconst 0, 1, 0, 0, 0) := by decide +kernel
theorem f_274_24 : ftc (PT 274) 24 = some (24, .ireturn, 1, 1, 0, 0) := by decide +kernel
theorem f_275_0 : ftc (PT 275) 0 = some (0, .aload_n 0, 1, 0, 0, 0) := by decide +kernel
theorem f_275_1 : ftc (PT 275) 1 = some (1, .getfield 192, 3, 12, 14, 1650) := by decide +kernel
theorem f_275_4 : ftc (PT 275) 4 = some (4, .lconst 0, 1, 0, 0, 0) := by decide +kernel
theorem f_275_5 : ftc (PT 275) 5 = some (5, .lcmp, 1, 0, 0, 0) := by decide +kernel
theorem f_275_6 : ftc (PT 275) 6 = some (6, .ifCond .ne 16, 3, 22, 0, 0) := by decide +kernel
theorem f_275_9 : ftc (PT 275) 9 = some (9, .aload_n 0, 1, 0, 0, 0) := by decide +kernel
theorem f_275_10 : ftc (PT 275) 10 = some (10, .getfield 195, 3, 12, 15, 1651) := by decide +kernel
theorem f_275_13 : ftc (PT 275) 13 = some (13, .lconst 0, 1, 0, 0, 0) := by decide +kernel
theorem f_275_14 : ftc (PT 275) 14 = some (14, .lcmp, 1, 0, 0, 0) := by decide +kernel
theorem f_275_15 : ftc (PT 275) 15 = some (15, .ifCond .ne 7, 3, 22, 0, 0) := by decide +kernel
theorem f_275_18 : ftc (PT 275) 18 = some (18, .iconst 1, 1, 0, 0, 0) := by decide +kernel
theorem f_275_19 : ftc (PT 275) 19 = some (19, .goto 4, 3, 23, 0, 0) := by decide +kernel
theorem f_275_22 : ftc (PT 275) 22 = some (22, .iconst 0, 1, 0, 0, 0) := by decide +kernel
theorem f_275_23 : ftc (PT 275) 23 = some (23, .ireturn, 1, 1, 0, 0) := by decide +kernel
theorem f_276_0 : ftc (PT 276) 0 = some (0, .aload_n 0, 1, 0, 0, 0) := by decide +kernel
theorem f_276_1 : ftc (PT 276) 1 = some (1, .aload_n 0, 1, 0, 0, 0) := by decide +kernel
theorem f_276_2 : ftc (PT 276) 2 = some (2, .getfield 192, 3, 12, 14, 1650) := by decide +kernel
theorem f_276_5 : ftc (PT 276) 5 = some (5, .aload_n 0, 1, 0, 0, 0) := by decide +kernel
theorem f_276_6 : ftc (PT 276) 6 = some (6, .getfield 195, 3, 12, 15, 1651) := by decide +kernel
theorem f_276_9 : ftc (PT 276) 9 = some (9, .aload_n 0, 1, 0, 0, 0) := by decide +kernel
theorem f_276_10 : ftc (PT 276) 10 = some (10, .getfield 198, 3, 12, 16, 1652) := by decide +kernel
theorem f_276_13 : ftc (PT 276) 13 = some (13, .lconst 0, 1, 0, 0, 0) := by decide +kernel
theorem f_276_14 : ftc (PT 276) 14 = some (14, .invokevirtual 129, 3, 228, 11404, 1833) := by decide +kernel
theorem f_276_17 : ftc (PT 276) 17 = some (17, .return_, 1, 0, 0, 0) := by decide +kernel
theorem f_277_0 : ftc (PT 277) 0 = some (0, .aload_n 0, 1, 0, 0, 0) := by decide +kernel
theorem f_277_1 : ftc (PT 277) 1 = some (1, .getfield 114, 3, 12, 10, 1646) := by decide +kernel
theorem f_277_4 : ftc (PT 277) 4 = some (4, .aload_n 0, 1, 0, 0, 0) := by decide +kernel
theorem f_277_5 : ftc (PT 277) 5 = some (5, .getfield 120, 3, 12, 12, 1648) := by decide +kernel
theorem f_277_8 : ftc (PT 277) 8 = some (8, .lmul, 1, 0, 0, 0) := by decide +kernel
theorem f_277_9 : ftc (PT 277) 9 = some (9, .aload_n 0, 1, 0, 0, 0) := by decide +kernel
theorem f_277_10 : ftc (PT 277) 10 = some (10, .getfield 117, 3, 12, 11, 1647) := by decide +kernel
theorem f_277_13 : ftc (PT 277) 13 = some (13, .aload_n 0, 1, 0, 0, 0) := by decide +kernel
theorem f_277_14 : ftc (PT 277) 14 = some (14, .getfield 123, 3, 12, 13, 1649) := by decide +kernel
theorem f_277_17 : ftc (PT 277) 17 = some (17, .lmul, 1, 0, 0, 0) := by decide +kernel
theorem f_277_18 : ftc (PT 277) 18 = some (18, .ladd, 1, 0, 0, 0) := by decide +kernel
theorem f_277_19 : ftc (PT 277) 19 = some (19, .lreturn, 1, 0, 0, 0) := by decide +kernel
theorem f_278_0 : ftc (PT 278) 0 = some (0, .iload_n 1, 1, 0, 0, 0) := by decide +kernel
theorem f_278_1 : ftc (PT 278) 1 = some (1, .ifCond .eq 17, 3, 18, 0, 0) := by decide +kernel
theorem f_278_4 : ftc (PT 278) 4 = some (4, .aload_n 0, 1, 0, 0, 0) := by decide +kernel
theorem f_278_5 : ftc (PT 278) 5 = some (5, .getfield 120, 3, 12, 12, 1648) := by decide +kernel
theorem f_278_8 : ftc (PT 278) 8 = some (8, .aload_n 0, 1, 0, 0, 0) := by decide +kernel
theorem f_278_9 : ftc (PT 278) 9 = some (9, .getfield 123, 3, 12, 13, 1649) := by decide +kernel
theorem f_278_12 : ftc (PT 278) 12 = some (12, .invokestatic 147, 3, 235, 4098, 1857) := by decide +kernel
theorem f_278_15 : ftc (PT 278) 15 = some (15, .goto 14, 3, 29, 0, 0) := by decide +kernel
theorem f_278_18 : ftc (PT 278) 18 = some (18, .aload_n 0, 1, 0, 0, 0) := by decide +kernel
theorem f_278_19 : ftc (PT 278) 19 = some (19, .getfield 114, 3, 12, 10, 1646) := by decide +kernel
theorem f_278_22 : ftc (PT 278) 22 = some (22, .aload_n 0, 1, 0, 0, 0) := by decide +kernel
theorem f_278_23 : ftc (PT 278) 23 = some (23, .getfield 117, 3, 12, 11, 1647) := by decide +kernel
theorem f_278_26 : ftc (PT 278) 26 = some (26, .invokestatic 147, 3, 235, 4098, 1857) := by decide +kernel
theorem f_278_29 : ftc (PT 278) 29 = some (29, .lreturn, 1, 0, 0, 0) := by decide +kernel
theorem f_279_6 : ftc (PT 279) 6 = some (6, .ifCond .eq 7, 3, 13, 0, 0) := by decide +kernel
theorem f_279_9 : ftc (PT 279) 9 = some (9, .iconst 0, 1, 0, 0, 0) := by decide +kernel
theorem f_279_10 : ftc (PT 279) 10 = some (10, .goto 4, 3, 14, 0, 0) := by decide +kernel
theorem f_279_13 : ftc (PT 279) 13 = some (13, .iconst 1, 1, 0, 0, 0) := by decide +kernel
theorem f_279_14 : ftc (PT 279) 14 = some (14, .putfield 55, 3, 12, 0, 1636) := by decide +kernel
theorem f_279_17 : ftc (PT 279) 17 = some (17, .aload_n 0, 1, 0, 0, 0) := by decide +kernel
theorem f_279_18 : ftc (PT 279) 18 = some (18, .getfield 55, 3, 12, 0, 1636) := by decide +kernel
theorem f_279_21 : ftc (PT 279) 21 = some (21, .ifCond .le 5, 3, 26, 0, 0) := by decide +kernel
theorem f_279_24 : ftc (PT 279) 24 = some (24, .iconst 0, 1, 0, 0, 0) := by decide +kernel
theorem f_279_25 : ftc (PT 279) 25 = some (25, .ireturn, 1, 0, 0, 0) := by decide +kernel
theorem f_279_26 : ftc (PT 279) 26 = some (26, .aload_n 0, 1, 0, 0, 0) := by decide +kernel
theorem f_279_27 : ftc (PT 279) 27 = some (27, .iload_n 1, 1, 0, 0, 0) := by decide +kernel
theorem f_279_28 : ftc (PT 279) 28 = some (28, .i2l, 1, 0, 0, 0) := by decide +kernel
theorem f_279_29 : ftc (PT 279) 29 = some (29, .iload_n 2, 1, 0, 0, 0) := by decide +kernel
theorem f_279_30 : ftc (PT 279) 30 = some (30, .i2l, 1, 0, 0, 0) := by decide +kernel
theorem f_279_31 : ftc (PT 279) 31 = some (31, .invokestatic 147, 3, 235, 4098, 1857) := by decide +kernel
theorem f_279_34 : ftc (PT 279) 34 = some (34, .iload_n 1, 1, 0, 0, 0) := by decide +kernel
theorem f_279_35 : ftc (PT 279) 35 = some (35, .i2l, 1, 0, 0, 0) := by decide +kernel
theorem f_279_36 : ftc (PT 279) 36 = some (36, .iload_n 1, 1, 0, 0, 0) := by decide +kernel
theorem f_279_37 : ftc (PT 279) 37 = some (37, .i2l, 1, 0, 0, 0) := by decide +kernel
theorem f_279_38 : ftc (PT 279) 38 = some (38, .lmul, 1, 0, 0, 0) := by decide +kernel
theorem f_279_39 : ftc (PT 279) 39 = some (39, .invokevirtual 88, 3, 236, 8268, 1860) := by decide +kernel
theorem f_279_42 : ftc (PT 279) 42 = some (42, .aload_n 0, 1, 0, 0, 0) := by decide +kernel
theorem f_279_43 : ftc (PT 279) 43 = some (43, .iload_n 3, 1, 0, 0, 0) := by decide +kernel
theorem f_279_44 : ftc (PT 279) 44 = some (44, .invokevirtual 161, 3, 237, 2092, 1864) := by decide +kernel
theorem f_279_47 : ftc (PT 279) 47 = some (47, .l2i, 1, 0, 0, 0) := by decide +kernel
theorem f_279_48 : ftc (PT 279) 48 = some (48, .ireturn, 1, 0, 0, 0) := by decide +kernel
theorem f_280_5 : ftc (PT 280) 5 = some (5, .ifCond .eq 11, 3, 16, 0, 0) := by decide +kernel
theorem f_280_8 : ftc (PT 280) 8 = some (8, .iload_n 0, 1, 0, 0, 0) := by decide +kernel
theorem f_280_9 : ftc (PT 280) 9 = some (9, .ifCond .eq 7, 3, 16, 0, 0) := by decide +kernel
theorem f_280_12 : ftc (PT 280) 12 = some (12, .iconst 1, 1, 0, 0, 0) := by decide +kernel
theorem f_280_13 : ftc (PT 280) 13 = some (13, .goto 4, 3, 17, 0, 0) := by decide +kernel
theorem f_280_16 : ftc (PT 280) 16 = some (16, .iconst 0, 1, 0, 0, 0) := by decide +kernel
theorem f_280_17 : ftc (PT 280) 17 = some (17, .ireturn, 1, 1, 0, 0) := by decide +kernel
theorem f_281_10 : ftc (PT 281) 10 = some (10, .putfield 55, 3, 12, 0, 1636) := by decide +kernel
theorem f_281_13 : ftc (PT 281) 13 = some (13, .aload_n 0, 1, 0, 0, 0) := by decide +kernel
theorem f_281_14 : ftc (PT 281) 14 = some (14, .getfield 55, 3, 12, 0, 1636) := by decide +kernel
theorem f_281_17 : ftc (PT 281) 17 = some (17, .ifCond .le 5, 3, 22, 0, 0) := by decide +kernel
theorem f_281_20 : ftc (PT 281) 20 = some (20, .iconst 0, 1, 0, 0, 0) := by decide +kernel
theorem f_281_21 : ftc (PT 281) 21 = some (21, .ireturn, 1, 0, 0, 0) := by decide +kernel
theorem f_281_22 : ftc (PT 281) 22 = some (22, .aload_n 0, 1, 0, 0, 0) := by decide +kernel
theorem f_281_23 : ftc (PT 281) 23 = some (23, .iload_n 2, 1, 0, 0, 0) := by decide +kernel
theorem f_281_24 : ftc (PT 281) 24 = some (24, .iload_n 3, 1, 0, 0, 0) := by decide +kernel
theorem f_281_25 : ftc (PT 281) 25 = some (25, .iload 4, 2, 0, 0, 0) := by decide +kernel
theorem f_281_27 : ftc (PT 281) 27 = some (27, .invokevirtual 301, 3, 283, 4204, 2050) := by decide +kernel
theorem f_281_30 : ftc (PT 281) 30 = some (30, .aload_n 0, 1, 0, 0, 0) := by decide +kernel
theorem f_281_31 : ftc (PT 281) 31 = some (31, .invokevirtual 305, 3, 284, 1036, 2054) := by decide +kernel
theorem f_281_34 : ftc (PT 281) 34 = some (34, .ireturn, 1, 0, 0, 0) := by decide +kernel
theorem f_282_18 : ftc (PT 282) 18 = some (18, .ifCond .ne 7, 3, 25, 0, 0) := by decide +kernel
theorem f_282_21 : ftc (PT 282) 21 = some (21, .iconst 2, 1, 0, 0, 0) := by decide +kernel
theorem f_282_22 : ftc (PT 282) 22 = some (22, .goto 17, 3, 39, 0, 0) := by decide +kernel
theorem f_282_25 : ftc (PT 282) 25 = some (25, .aload_n 0, 1, 0, 0, 0) := by decide +kernel
theorem f_282_26 : ftc (PT 282) 26 = some (26, .iload_n 1, 1, 0, 0, 0) := by decide +kernel
theorem f_282_27 : ftc (PT 282) 27 = some (27, .iload_n 2, 1, 0, 0, 0) := by decide +kernel
theorem f_282_28 : ftc (PT 282) 28 = some (28, .invokevirtual 271, 3, 274, 3148, 2015) := by decide +kernel
theorem f_282_31 : ftc (PT 282) 31 = some (31, .ifCond .ne 7, 3, 38, 0, 0) := by decide +kernel
theorem f_282_34 : ftc (PT 282) 34 = some (34, .iconst 3, 1, 0, 0, 0) := by decide +kernel
theorem f_282_35 : ftc (PT 282) 35 = some (35, .goto 4, 3, 39, 0, 0) := by decide +kernel
theorem f_282_38 : ftc (PT 282) 38 = some (38, .iconst 0, 1, 0, 0, 0) := by decide +kernel
theorem f_282_39 : ftc (PT 282) 39 = some (39, .ireturn, 1, 0, 0, 0) := by decide +kernel
theorem f_283_0 : ftc (PT 283) 0 = some (0, .aload_n 0, 1, 0, 0, 0) := by decide +kernel
theorem f_283_1 : ftc (PT 283) 1 = some (1, .invokevirtual 275, 3, 276, 1036, 2023) := by decide +kernel
theorem f_283_4 : ftc (PT 283) 4 = some (4, .aload_n 0, 1, 0, 0, 0) := by decide +kernel
theorem f_283_5 : ftc (PT 283) 5 = some (5, .aload_n 0, 1, 0, 0, 0) := by decide +kernel
theorem f_283_6 : ftc (PT 283) 6 = some (6, .invokevirtual 278, 3, 277, 1036, 2027) := by decide +kernel
theorem f_283_9 : ftc (PT 283) 9 = some (9, .aload_n 0, 1, 0, 0, 0) := by decide +kernel
theorem f_283_10 : ftc (PT 283) 10 = some (10, .iload_n 1, 1, 0, 0, 0) := by decide +kernel
theorem f_283_11 : ftc (PT 283) 11 = some (11, .invokevirtual 282, 3, 278, 2092, 2031) := by decide +kernel
theorem f_283_14 : ftc (PT 283) 14 = some (14, .invokevirtual 88, 3, 236, 8268, 1860) := by decide +kernel
theorem f_283_17 : ftc (PT 283) 17 = some (17, .aload_n 0, 1, 0, 0, 0) := by decide +kernel
theorem f_283_18 : ftc (PT 283) 18 = some (18, .aload_n 0, 1, 0, 0, 0) := by decide +kernel
theorem f_283_19 : ftc (PT 283) 19 = some (19, .getfield 81, 3, 12, 8, 1644) := by decide +kernel
theorem f_283_22 : ftc (PT 283) 22 = some (22, .putfield 288, 3, 12, 21, 1657) := by decide +kernel
theorem f_283_25 : ftc (PT 283) 25 = some (25, .aload_n 0, 1, 0, 0, 0) := by decide +kernel
theorem f_283_26 : ftc (PT 283) 26 = some (26, .aload_n 0, 1, 0, 0, 0) := by decide +kernel
theorem f_283_27 : ftc (PT 283) 27 = some (27, .getfield 85, 3, 12, 9, 1645) := by decide +kernel
theorem f_283_30 : ftc (PT 283) 30 = some (30, .putfield 291, 3, 12, 22, 1658) := by decide +kernel
theorem f_283_33 : ftc (PT 283) 33 = some (33, .aload_n 0, 1, 0, 0, 0) := by decide +kernel
theorem f_283_34 : ftc (PT 283) 34 = some (34, .aload_n 0, 1, 0, 0, 0) := by decide +kernel
theorem f_283_35 : ftc (PT 283) 35 = some (35, .getfield 288, 3, 12, 21, 1657) := by decide +kernel
theorem f_283_38 : ftc (PT 283) 38 = some (38, .aload_n 0, 1, 0, 0, 0) := by decide +kernel
theorem f_283_39 : ftc (PT 283) 39 = some (39, .getfield 291, 3, 12, 22, 1658) := by decide +kernel
theorem f_283_42 : ftc (PT 283) 42 = some (42, .iload_n 2, 1, 0, 0, 0) := by decide +kernel
theorem f_283_43 : ftc (PT 283) 43 = some (43, .i2l, 1, 0, 0, 0) := by decide +kernel
theorem f_283_44 : ftc (PT 283) 44 = some (44, .iload_n 3, 1, 0, 0, 0) := by decide +kernel
theorem f_283_45 : ftc (PT 283) 45 = some (45, .i2l, 1, 0, 0, 0) := by decide +kernel
theorem f_283_46 : ftc (PT 283) 46 = some (46, .invokestatic 147, 3, 235, 4098, 1857) := by decide +kernel
theorem f_283_49 : ftc (PT 283) 49 = some (49, .lmul, 1, 0, 0, 0) := by decide +kernel
theorem f_283_50 : ftc (PT 283) 50 = some (50, .aload_n 0, 1, 0, 0, 0) := by decide +kernel
theorem f_283_51 : ftc (PT 283) 51 = some (51, .getfield 288, 3, 12, 21, 1657) := by decide +kernel
theorem f_283_54 : ftc (PT 283) 54 = some (54, .iload_n 2, 1, 0, 0, 0) := by decide +kernel
theorem f_283_55 : ftc (PT 283) 55 = some (55, .i2l, 1, 0, 0, 0) := by decide +kernel
theorem f_283_56 : ftc (PT 283) 56 = some (56, .lmul, 1, 0, 0, 0) := by decide +kernel
theorem f_283_57 : ftc (PT 283) 57 = some (57, .iload_n 2, 1, 0, 0, 0) := by decide +kernel
theorem f_283_58 : ftc (PT 283) 58 = some (58, .i2l, 1, 0, 0, 0) := by decide +kernel
theorem f_283_59 : ftc (PT 283) 59 = some (59, .lmul, 1, 0, 0, 0) := by decide +kernel
theorem f_283_60 : ftc (PT 283) 60 = some (60, .lsub, 1, 0, 0, 0) := by decide +kernel
theorem f_283_61 : ftc (PT 283) 61 = some (61, .lmul, 1, 0, 0, 0) := by decide +kernel
theorem f_283_62 : ftc (PT 283) 62 = some (62, .putfield 294, 3, 12, 23, 1659) := by decide +kernel
theorem f_283_65 : ftc (PT 283) 65 = some (65, .return_, 1, 0, 0, 0) := by decide +kernel
theorem f_284_0 : ftc (PT 284) 0 = some (0, .aload_n 0, 1, 0, 0, 0) := by decide +kernel
theorem f_284_1 : ftc (PT 284) 1 = some (1, .getfield 288, 3, 12, 21, 1657) := by decide +kernel
theorem f_284_4 : ftc (PT 284) 4 = some (4, .lconst 0, 1, 0, 0, 0) := by decide +kernel
theorem f_284_5 : ftc (PT 284) 5 = some (5, .lcmp, 1, 0, 0, 0) := by decide +kernel
theorem f_284_6 : ftc (PT 284) 6 = some (6, .ifCond .eq 12, 3, 18, 0, 0) := by decide +kernel
theorem f_284_9 : ftc (PT 284) 9 = some (9, .aload_n 0, 1, 0, 0, 0) := by decide +kernel
theorem f_284_10 : ftc (PT 284) 10 = some (10, .getfield 294, 3, 12, 23, 1659) := by decide +kernel
theorem f_284_13 : ftc (PT 284) 13 = some (13, .lconst 0, 1, 0, 0, 0) := by decide +kernel
theorem f_284_14 : ftc (PT 284) 14 = some (14, .lcmp, 1, 0, 0, 0) := by decide +kernel
theorem f_284_15 : ftc (PT 284) 15 = some (15, .ifCond .ge 7, 3, 22, 0, 0) := by decide +kernel
theorem f_284_18 : ftc (PT 284) 18 = some (18, .iconst 0, 1, 0, 0, 0) := by decide +kernel
theorem f_284_19 : ftc (PT 284) 19 = some (19, .goto 17, 3, 36, 0, 0) := by decide +kernel
theorem f_284_22 : ftc (PT 284) 22 = some (22, .aload_n 0, 1, 0, 0, 0) := by decide +kernel
theorem f_284_23 : ftc (PT 284) 23 = some (23, .getfield 294, 3, 12, 23, 1659) := by decide +kernel
theorem f_284_26 : ftc (PT 284) 26 = some (26, .lconst 0, 1, 0, 0, 0) := by decide +kernel
theorem f_284_27 : ftc (PT 284) 27 = some (27, .lcmp, 1, 0, 0, 0) := by decide +kernel
theorem f_284_28 : ftc (PT 284) 28 = some (28, .ifCond .ne 7, 3, 35, 0, 0) := by decide +kernel
theorem f_284_31 : ftc (PT 284) 31 = some (31, .iconst 1, 1, 0, 0, 0) := by decide +kernel
theorem f_284_32 : ftc (PT 284) 32 = some (32, .goto 4, 3, 36, 0, 0) := by decide +kernel
theorem f_284_35 : ftc (PT 284) 35 = some (35, .iconst 2, 1, 0, 0, 0) := by decide +kernel
theorem f_284_36 : ftc (PT 284) 36 = some (36, .ireturn, 1, 0, 0, 0) := by decide +kernel
theorem f_285_10 : ftc (PT 285) 10 = some (10, .putfield 55, 3, 12, 0, 1636) := by decide +kernel
theorem f_285_13 : ftc (PT 285) 13 = some (13, .aload_n 0, 1, 0, 0, 0) := by decide +kernel
theorem f_285_14 : ftc (PT 285) 14 = some (14, .getfield 55, 3, 12, 0, 1636) := by decide +kernel
theorem f_285_17 : ftc (PT 285) 17 = some (17, .ifCond .le 7, 3, 24, 0, 0) := by decide +kernel
theorem f_285_20 : ftc (PT 285) 20 = some (20, .lconst 0, 1, 0, 0, 0) := by decide +kernel
theorem f_285_21 : ftc (PT 285) 21 = some (21, .goto 17, 3, 38, 0, 0) := by decide +kernel
theorem f_285_24 : ftc (PT 285) 24 = some (24, .aload_n 0, 1, 0, 0, 0) := by decide +kernel
theorem f_285_25 : ftc (PT 285) 25 = some (25, .iload_n 2, 1, 0, 0, 0) := by decide +kernel
theorem f_285_26 : ftc (PT 285) 26 = some (26, .iload_n 3, 1, 0, 0, 0) := by decide +kernel
theorem f_285_27 : ftc (PT 285) 27 = some (27, .iload 4, 2, 0, 0, 0) := by decide +kernel
theorem f_285_29 : ftc (PT 285) 29 = some (29, .iload 5, 2, 0, 0, 0) := by decide +kernel
theorem f_285_31 : ftc (PT 285) 31 = some (31, .iload 6, 2, 0, 0, 0) := by decide +kernel
theorem f_285_33 : ftc (PT 285) 33 = some (33, .iload 7, 2, 0, 0, 0) := by decide +kernel
theorem f_285_35 : ftc (PT 285) 35 = some (35, .invokevirtual 312, 3, 286, 7372, 2062) := by decide +kernel
theorem f_285_38 : ftc (PT 285) 38 = some (38, .lreturn, 1, 0, 0, 0) := by decide +kernel
theorem f_286_0 : ftc (PT 286) 0 = some (0, .aload_n 0, 1, 0, 0, 0) := by decide +kernel
theorem f_286_1 : ftc (PT 286) 1 = some (1, .iload_n 1, 1, 0, 0, 0) := by decide +kernel
theorem f_286_2 : ftc (PT 286) 2 = some (2, .iload_n 2, 1, 0, 0, 0) := by decide +kernel
theorem f_286_3 : ftc (PT 286) 3 = some (3, .iload_n 3, 1, 0, 0, 0) := by decide +kernel
theorem f_286_4 : ftc (PT 286) 4 = some (4, .invokevirtual 301, 3, 283, 4204, 2050) := by decide +kernel
set_option maxRecDepth 10000 in
set_option maxHeartbeats 4000000 in
theorem s_263_0 {Lx : Nat} {I : Mi} {L : Ml} {e : Nat} {Q : Kq} {x1 : Int32} (h :
    (if (L 58 17) < (Int64.ofInt 0) then
     (if (Int64.ofInt 0) < ((L 58 18) - ((L 58 17) * (L 58 17))) then
      (if (Int64.ofInt 0) < (L 58 17) then
       (if (Int64.ofInt 0) < ((L 58 18) - ((L 58 17) * (L 58 17))) then
        (if 0 < x1 then
         (if (Int64.ofInt 0) < (L 58 19) then
          Q (.inl (some (.int (Int32.ofInt 1)))) (gE Lx) I L e
         else
          Q (.inl (some (.int (Int32.ofInt (-1))))) (gE Lx) I L e)
        else
         (if (Int64.ofInt 0) < (L 58 19) then
          Q (.inl (some (.int (Int32.ofInt (-1))))) (gE Lx) I L e
         else
          Q (.inl (some (.int (Int32.ofInt 1)))) (gE Lx) I L e))
       else
        (if ((L 58 18) - ((L 58 17) * (L 58 17))) = (Int64.ofInt 0) then
         (if 0 < x1 then
          (if (Int64.ofInt 0) < (L 58 19) then
           Q (.inl (some (.int (Int32.ofInt 1)))) (gE Lx) I L e
          else
           Q (.inl (some (.int (Int32.ofInt (-1))))) (gE Lx) I L e)
         else
          (if (Int64.ofInt 0) < (L 58 19) then
           Q (.inl (some (.int (Int32.ofInt 0)))) (gE Lx) I L e
          else
           Q (.inl (some (.int (Int32.ofInt 0)))) (gE Lx) I L e))
        else
         (if 0 < x1 then
          (if (Int64.ofInt 0) < (L 58 19) then
           Q (.inl (some (.int (Int32.ofInt 1)))) (gE Lx) I L e
          else
           Q (.inl (some (.int (Int32.ofInt (-1))))) (gE Lx) I L e)
         else
          (if (Int64.ofInt 0) < (L 58 19) then
           Q (.inl (some (.int (Int32.ofInt 1)))) (gE Lx) I L e
          else
           Q (.inl (some (.int (Int32.ofInt (-1))))) (gE Lx) I L e))))
      else
       (if 0 < x1 then
        (if (Int64.ofInt 0) < (L 58 19) then
         Q (.inl (some (.int (Int32.ofInt 1)))) (gE Lx) I L e
        else
         Q (.inl (some (.int (Int32.ofInt (-1))))) (gE Lx) I L e)
       else
        (if (Int64.ofInt 0) < (L 58 19) then
         Q (.inl (some (.int (Int32.ofInt (-1))))) (gE Lx) I L e
        else
         Q (.inl (some (.int (Int32.ofInt 1)))) (gE Lx) I L e)))
     else
      (if ((L 58 18) - ((L 58 17) * (L 58 17))) = (Int64.ofInt 0) then
       (if (Int64.ofInt 0) < (L 58 17) then
        (if (Int64.ofInt 0) < ((L 58 18) - ((L 58 17) * (L 58 17))) then
         (if 0 < x1 then
          (if (Int64.ofInt 0) < (L 58 19) then
           Q (.inl (some (.int (Int32.ofInt 0)))) (gE Lx) I L e
          else
           Q (.inl (some (.int (Int32.ofInt 0)))) (gE Lx) I L e)
         else
          (if (Int64.ofInt 0) < (L 58 19) then
           Q (.inl (some (.int (Int32.ofInt (-1))))) (gE Lx) I L e
          else
           Q (.inl (some (.int (Int32.ofInt 1)))) (gE Lx) I L e))
        else
         (if ((L 58 18) - ((L 58 17) * (L 58 17))) = (Int64.ofInt 0) then
          (if 0 < x1 then
           (if (Int64.ofInt 0) < (L 58 19) then
            Q (.inl (some (.int (Int32.ofInt 0)))) (gE Lx) I L e
           else
            Q (.inl (some (.int (Int32.ofInt 0)))) (gE Lx) I L e)
          else
           (if (Int64.ofInt 0) < (L 58 19) then
            Q (.inl (some (.int (Int32.ofInt 0)))) (gE Lx) I L e
           else
            Q (.inl (some (.int (Int32.ofInt 0)))) (gE Lx) I L e))
         else
          (if 0 < x1 then
           (if (Int64.ofInt 0) < (L 58 19) then
            Q (.inl (some (.int (Int32.ofInt 0)))) (gE Lx) I L e
           else
            Q (.inl (some (.int (Int32.ofInt 0)))) (gE Lx) I L e)
          else
           (if (Int64.ofInt 0) < (L 58 19) then
            Q (.inl (some (.int (Int32.ofInt 1)))) (gE Lx) I L e
           else
            Q (.inl (some (.int (Int32.ofInt (-1))))) (gE Lx) I L e))))
       else
        (if 0 < x1 then
         (if (Int64.ofInt 0) < (L 58 19) then
          Q (.inl (some (.int (Int32.ofInt 0)))) (gE Lx) I L e
         else
          Q (.inl (some (.int (Int32.ofInt 0)))) (gE Lx) I L e)
        else
         (if (Int64.ofInt 0) < (L 58 19) then
          Q (.inl (some (.int (Int32.ofInt (-1))))) (gE Lx) I L e
         else
          Q (.inl (some (.int (Int32.ofInt 1)))) (gE Lx) I L e)))
      else
       (if (Int64.ofInt 0) < (L 58 17) then
        (if (Int64.ofInt 0) < ((L 58 18) - ((L 58 17) * (L 58 17))) then
         (if 0 < x1 then
          (if (Int64.ofInt 0) < (L 58 19) then
           Q (.inl (some (.int (Int32.ofInt (-1))))) (gE Lx) I L e
          else
           Q (.inl (some (.int (Int32.ofInt 1)))) (gE Lx) I L e)
         else
          (if (Int64.ofInt 0) < (L 58 19) then
           Q (.inl (some (.int (Int32.ofInt (-1))))) (gE Lx) I L e
          else
           Q (.inl (some (.int (Int32.ofInt 1)))) (gE Lx) I L e))
        else
         (if ((L 58 18) - ((L 58 17) * (L 58 17))) = (Int64.ofInt 0) then
          (if 0 < x1 then
           (if (Int64.ofInt 0) < (L 58 19) then
            Q (.inl (some (.int (Int32.ofInt (-1))))) (gE Lx) I L e
           else
            Q (.inl (some (.int (Int32.ofInt 1)))) (gE Lx) I L e)
          else
           (if (Int64.ofInt 0) < (L 58 19) then
            Q (.inl (some (.int (Int32.ofInt 0)))) (gE Lx) I L e
           else
            Q (.inl (some (.int (Int32.ofInt 0)))) (gE Lx) I L e))
         else
          (if 0 < x1 then
           (if (Int64.ofInt 0) < (L 58 19) then
            Q (.inl (some (.int (Int32.ofInt (-1))))) (gE Lx) I L e
           else
            Q (.inl (some (.int (Int32.ofInt 1)))) (gE Lx) I L e)
          else
           (if (Int64.ofInt 0) < (L 58 19) then
            Q (.inl (some (.int (Int32.ofInt 1)))) (gE Lx) I L e
           else
            Q (.inl (some (.int (Int32.ofInt (-1))))) (gE Lx) I L e))))
       else
        (if 0 < x1 then
         (if (Int64.ofInt 0) < (L 58 19) then
          Q (.inl (some (.int (Int32.ofInt (-1))))) (gE Lx) I L e
         else
          Q (.inl (some (.int (Int32.ofInt 1)))) (gE Lx) I L e)
        else
         (if (Int64.ofInt 0) < (L 58 19) then
          Q (.inl (some (.int (Int32.ofInt (-1))))) (gE Lx) I L e
         else
          Q (.inl (some (.int (Int32.ofInt 1)))) (gE Lx) I L e)))))
    else
     (if (Int64.ofInt 0) < (L 58 17) then
      (if (Int64.ofInt 0) < ((L 58 18) - ((L 58 17) * (L 58 17))) then
       (if 0 < x1 then
        (if (Int64.ofInt 0) < (L 58 19) then
         Q (.inl (some (.int (Int32.ofInt 1)))) (gE Lx) I L e
        else
         Q (.inl (some (.int (Int32.ofInt (-1))))) (gE Lx) I L e)
       else
        (if (Int64.ofInt 0) < (L 58 19) then
         Q (.inl (some (.int (Int32.ofInt (-1))))) (gE Lx) I L e
        else
         Q (.inl (some (.int (Int32.ofInt 1)))) (gE Lx) I L e))
      else
       (if ((L 58 18) - ((L 58 17) * (L 58 17))) = (Int64.ofInt 0) then
        (if 0 < x1 then
         (if (Int64.ofInt 0) < (L 58 19) then
          Q (.inl (some (.int (Int32.ofInt 1)))) (gE Lx) I L e
         else
          Q (.inl (some (.int (Int32.ofInt (-1))))) (gE Lx) I L e)
        else
         (if (Int64.ofInt 0) < (L 58 19) then
          Q (.inl (some (.int (Int32.ofInt 0)))) (gE Lx) I L e
         else
          Q (.inl (some (.int (Int32.ofInt 0)))) (gE Lx) I L e))
       else
        (if 0 < x1 then
         (if (Int64.ofInt 0) < (L 58 19) then
          Q (.inl (some (.int (Int32.ofInt 1)))) (gE Lx) I L e
         else
          Q (.inl (some (.int (Int32.ofInt (-1))))) (gE Lx) I L e)
        else
         (if (Int64.ofInt 0) < (L 58 19) then
          Q (.inl (some (.int (Int32.ofInt 1)))) (gE Lx) I L e
         else
          Q (.inl (some (.int (Int32.ofInt (-1))))) (gE Lx) I L e))))
     else
      (if 0 < x1 then
       (if (Int64.ofInt 0) < (L 58 19) then
        Q (.inl (some (.int (Int32.ofInt 1)))) (gE Lx) I L e
       else
        Q (.inl (some (.int (Int32.ofInt (-1))))) (gE Lx) I L e)
      else
       (if (Int64.ofInt 0) < (L 58 19) then
        Q (.inl (some (.int (Int32.ofInt (-1))))) (gE Lx) I L e
       else
        Q (.inl (some (.int (Int32.ofInt 1)))) (gE Lx) I L e))))) :
    Wp 263 0 [(0, .ref 58), (1, .int x1)] [] (gE Lx) I L e Q := by
  refine w_a f_263_0 ?_
  refine w_a f_263_1 ?_
  refine w_a f_263_4 ?_
  refine w_a f_263_5 ?_
  refine w_a f_263_8 ?_
  refine w_a f_263_9 ?_
  refine w_a f_263_12 ?_
  refine w_a f_263_13 ?_
  refine w_a f_263_14 ?_
  refine w_a (ls := [(2, .long ((L 58 18) - ((L 58 17) * (L 58 17)))), (0, .ref 58), (1, .int x1)]) f_263_15 ?_
  refine w_a f_263_16 ?_
  refine w_a f_263_19 ?_
  refine w_a f_263_20 ?_
  refine i_m (fun h => ?_) (fun h => ?_) h
  · refine w_a f_263_24 ?_
    refine w_a f_263_25 ?_
    refine w_a f_263_26 ?_
    refine i_m (fun h => ?_) (fun h => ?_) h
    · refine w_a f_263_30 ?_
      refine w_a f_263_31 ?_
      refine w_a f_263_45 ?_
      refine w_a (ls := [(4, .int (Int32.ofInt 1)), (2, .long ((L 58 18) - ((L 58 17) * (L 58 17)))), (0, .ref 58), (1, .int x1)]) f_263_47 ?_
      refine w_a f_263_48 ?_
      refine w_a f_263_51 ?_
      refine w_a f_263_52 ?_
      refine i_m (fun h => ?_) (fun h => ?_) h
      · refine w_a f_263_56 ?_
        refine w_a f_263_57 ?_
        refine w_a f_263_58 ?_
        refine i_m (fun h => ?_) (fun h => ?_) h
        · refine w_a f_263_62 ?_
          refine w_a f_263_63 ?_
          refine w_a f_263_77 ?_
          refine w_a (ls := [(5, .int (Int32.ofInt (-1))), (4, .int (Int32.ofInt 1)), (2, .long ((L 58 18) - ((L 58 17) * (L 58 17)))), (0, .ref 58), (1, .int x1)]) f_263_79 ?_
          refine w_a f_263_80 ?_
          refine i_m (fun h => ?_) (fun h => ?_) h
          · refine w_a f_263_83 ?_
            refine w_a f_263_85 ?_
            refine w_a f_263_90 ?_
            refine w_a (ls := [(6, .int (Int32.ofInt 1)), (5, .int (Int32.ofInt (-1))), (4, .int (Int32.ofInt 1)), (2, .long ((L 58 18) - ((L 58 17) * (L 58 17)))), (0, .ref 58), (1, .int x1)]) f_263_92 ?_
            refine w_a f_263_93 ?_
            refine w_a f_263_96 ?_
            refine w_a f_263_97 ?_
            refine i_m (fun h => ?_) (fun h => ?_) h
            · refine w_a f_263_101 ?_
              refine w_a f_263_103 ?_
              refine w_a f_263_109 ?_
              exact h
            · refine w_a f_263_106 ?_
              refine w_a f_263_108 ?_
              refine w_a f_263_109 ?_
              exact h
          · refine w_a f_263_88 ?_
            refine w_a f_263_90 ?_
            refine w_a (ls := [(6, .int (Int32.ofInt (-1))), (5, .int (Int32.ofInt (-1))), (4, .int (Int32.ofInt 1)), (2, .long ((L 58 18) - ((L 58 17) * (L 58 17)))), (0, .ref 58), (1, .int x1)]) f_263_92 ?_
            refine w_a f_263_93 ?_
            refine w_a f_263_96 ?_
            refine w_a f_263_97 ?_
            refine i_m (fun h => ?_) (fun h => ?_) h
            · refine w_a f_263_101 ?_
              refine w_a f_263_103 ?_
              refine w_a f_263_109 ?_
              exact h
            · refine w_a f_263_106 ?_
              refine w_a f_263_108 ?_
              refine w_a f_263_109 ?_
              exact h
        · refine w_a f_263_66 ?_
          refine w_a f_263_67 ?_
          refine w_a f_263_68 ?_
          refine i_m (fun h => ?_) (fun h => ?_) h
          · refine w_a f_263_72 ?_
            refine w_a f_263_73 ?_
            refine w_a f_263_77 ?_
            refine w_a (ls := [(5, .int (Int32.ofInt 0)), (4, .int (Int32.ofInt 1)), (2, .long ((L 58 18) - ((L 58 17) * (L 58 17)))), (0, .ref 58), (1, .int x1)]) f_263_79 ?_
            refine w_a f_263_80 ?_
            refine i_m (fun h => ?_) (fun h => ?_) h
            · refine w_a f_263_83 ?_
              refine w_a f_263_85 ?_
              refine w_a f_263_90 ?_
              refine w_a (ls := [(6, .int (Int32.ofInt 1)), (5, .int (Int32.ofInt 0)), (4, .int (Int32.ofInt 1)), (2, .long ((L 58 18) - ((L 58 17) * (L 58 17)))), (0, .ref 58), (1, .int x1)]) f_263_92 ?_
              refine w_a f_263_93 ?_
              refine w_a f_263_96 ?_
              refine w_a f_263_97 ?_
              refine i_m (fun h => ?_) (fun h => ?_) h
              · refine w_a f_263_101 ?_
                refine w_a f_263_103 ?_
                refine w_a f_263_109 ?_
                exact h
              · refine w_a f_263_106 ?_
                refine w_a f_263_108 ?_
                refine w_a f_263_109 ?_
                exact h
            · refine w_a f_263_88 ?_
              refine w_a f_263_90 ?_
              refine w_a (ls := [(6, .int (Int32.ofInt 0)), (5, .int (Int32.ofInt 0)), (4, .int (Int32.ofInt 1)), (2, .long ((L 58 18) - ((L 58 17) * (L 58 17)))), (0, .ref 58), (1, .int x1)]) f_263_92 ?_
              refine w_a f_263_93 ?_
              refine w_a f_263_96 ?_
              refine w_a f_263_97 ?_
              refine i_m (fun h => ?_) (fun h => ?_) h
              · refine w_a f_263_101 ?_
                refine w_a f_263_103 ?_
                refine w_a f_263_109 ?_
                exact h
              · refine w_a f_263_106 ?_
                refine w_a f_263_108 ?_
                refine w_a f_263_109 ?_
                exact h
          · refine w_a f_263_76 ?_
            refine w_a f_263_77 ?_
            refine w_a (ls := [(5, .int (Int32.ofInt 1)), (4, .int (Int32.ofInt 1)), (2, .long ((L 58 18) - ((L 58 17) * (L 58 17)))), (0, .ref 58), (1, .int x1)]) f_263_79 ?_
            refine w_a f_263_80 ?_
            refine i_m (fun h => ?_) (fun h => ?_) h
            · refine w_a f_263_83 ?_
              refine w_a f_263_85 ?_
              refine w_a f_263_90 ?_
              refine w_a (ls := [(6, .int (Int32.ofInt 1)), (5, .int (Int32.ofInt 1)), (4, .int (Int32.ofInt 1)), (2, .long ((L 58 18) - ((L 58 17) * (L 58 17)))), (0, .ref 58), (1, .int x1)]) f_263_92 ?_
              refine w_a f_263_93 ?_
              refine w_a f_263_96 ?_
              refine w_a f_263_97 ?_
              refine i_m (fun h => ?_) (fun h => ?_) h
              · refine w_a f_263_101 ?_
                refine w_a f_263_103 ?_
                refine w_a f_263_109 ?_
                exact h
              · refine w_a f_263_106 ?_
                refine w_a f_263_108 ?_
                refine w_a f_263_109 ?_
                exact h
            · refine w_a f_263_88 ?_
              refine w_a f_263_90 ?_
              refine w_a (ls := [(6, .int (Int32.ofInt 1)), (5, .int (Int32.ofInt 1)), (4, .int (Int32.ofInt 1)), (2, .long ((L 58 18) - ((L 58 17) * (L 58 17)))), (0, .ref 58), (1, .int x1)]) f_263_92 ?_
              refine w_a f_263_93 ?_
              refine w_a f_263_96 ?_
              refine w_a f_263_97 ?_
              refine i_m (fun h => ?_) (fun h => ?_) h
              · refine w_a f_263_101 ?_
                refine w_a f_263_103 ?_
                refine w_a f_263_109 ?_
                exact h
              · refine w_a f_263_106 ?_
                refine w_a f_263_108 ?_
                refine w_a f_263_109 ?_
                exact h
      · refine w_a f_263_62 ?_
        refine w_a f_263_63 ?_
        refine w_a f_263_77 ?_
        refine w_a (ls := [(5, .int (Int32.ofInt (-1))), (4, .int (Int32.ofInt 1)), (2, .long ((L 58 18) - ((L 58 17) * (L 58 17)))), (0, .ref 58), (1, .int x1)]) f_263_79 ?_
        refine w_a f_263_80 ?_
        refine i_m (fun h => ?_) (fun h => ?_) h
        · refine w_a f_263_83 ?_
          refine w_a f_263_85 ?_
          refine w_a f_263_90 ?_
          refine w_a (ls := [(6, .int (Int32.ofInt 1)), (5, .int (Int32.ofInt (-1))), (4, .int (Int32.ofInt 1)), (2, .long ((L 58 18) - ((L 58 17) * (L 58 17)))), (0, .ref 58), (1, .int x1)]) f_263_92 ?_
          refine w_a f_263_93 ?_
          refine w_a f_263_96 ?_
          refine w_a f_263_97 ?_
          refine i_m (fun h => ?_) (fun h => ?_) h
          · refine w_a f_263_101 ?_
            refine w_a f_263_103 ?_
            refine w_a f_263_109 ?_
            exact h
          · refine w_a f_263_106 ?_
            refine w_a f_263_108 ?_
            refine w_a f_263_109 ?_
            exact h
        · refine w_a f_263_88 ?_
          refine w_a f_263_90 ?_
          refine w_a (ls := [(6, .int (Int32.ofInt (-1))), (5, .int (Int32.ofInt (-1))), (4, .int (Int32.ofInt 1)), (2, .long ((L 58 18) - ((L 58 17) * (L 58 17)))), (0, .ref 58), (1, .int x1)]) f_263_92 ?_
          refine w_a f_263_93 ?_
          refine w_a f_263_96 ?_
          refine w_a f_263_97 ?_
          refine i_m (fun h => ?_) (fun h => ?_) h
          · refine w_a f_263_101 ?_
            refine w_a f_263_103 ?_
            refine w_a f_263_109 ?_
            exact h
          · refine w_a f_263_106 ?_
            refine w_a f_263_108 ?_
            refine w_a f_263_109 ?_
            exact h
    · refine w_a f_263_34 ?_
      refine w_a f_263_35 ?_
      refine w_a f_263_36 ?_
      refine i_m (fun h => ?_) (fun h => ?_) h
      · refine w_a f_263_40 ?_
        refine w_a f_263_41 ?_
        refine w_a f_263_45 ?_
        refine w_a (ls := [(4, .int (Int32.ofInt 0)), (2, .long ((L 58 18) - ((L 58 17) * (L 58 17)))), (0, .ref 58), (1, .int x1)]) f_263_47 ?_
        refine w_a f_263_48 ?_
        refine w_a f_263_51 ?_
        refine w_a f_263_52 ?_
        refine i_m (fun h => ?_) (fun h => ?_) h
        · refine w_a f_263_56 ?_
          refine w_a f_263_57 ?_
          refine w_a f_263_58 ?_
          refine i_m (fun h => ?_) (fun h => ?_) h
          · refine w_a f_263_62 ?_
            refine w_a f_263_63 ?_
            refine w_a f_263_77 ?_
            refine w_a (ls := [(5, .int (Int32.ofInt (-1))), (4, .int (Int32.ofInt 0)), (2, .long ((L 58 18) - ((L 58 17) * (L 58 17)))), (0, .ref 58), (1, .int x1)]) f_263_79 ?_
            refine w_a f_263_80 ?_
            refine i_m (fun h => ?_) (fun h => ?_) h
            · refine w_a f_263_83 ?_
              refine w_a f_263_85 ?_
              refine w_a f_263_90 ?_
              refine w_a (ls := [(6, .int (Int32.ofInt 0)), (5, .int (Int32.ofInt (-1))), (4, .int (Int32.ofInt 0)), (2, .long ((L 58 18) - ((L 58 17) * (L 58 17)))), (0, .ref 58), (1, .int x1)]) f_263_92 ?_
              refine w_a f_263_93 ?_
              refine w_a f_263_96 ?_
              refine w_a f_263_97 ?_
              refine i_m (fun h => ?_) (fun h => ?_) h
              · refine w_a f_263_101 ?_
                refine w_a f_263_103 ?_
                refine w_a f_263_109 ?_
                exact h
              · refine w_a f_263_106 ?_
                refine w_a f_263_108 ?_
                refine w_a f_263_109 ?_
                exact h
            · refine w_a f_263_88 ?_
              refine w_a f_263_90 ?_
              refine w_a (ls := [(6, .int (Int32.ofInt (-1))), (5, .int (Int32.ofInt (-1))), (4, .int (Int32.ofInt 0)), (2, .long ((L 58 18) - ((L 58 17) * (L 58 17)))), (0, .ref 58), (1, .int x1)]) f_263_92 ?_
              refine w_a f_263_93 ?_
              refine w_a f_263_96 ?_
              refine w_a f_263_97 ?_
              refine i_m (fun h => ?_) (fun h => ?_) h
              · refine w_a f_263_101 ?_
                refine w_a f_263_103 ?_
                refine w_a f_263_109 ?_
                exact h
              · refine w_a f_263_106 ?_
                refine w_a f_263_108 ?_
                refine w_a f_263_109 ?_
                exact h
          · refine w_a f_263_66 ?_
            refine w_a f_263_67 ?_
            refine w_a f_263_68 ?_
            refine i_m (fun h => ?_) (fun h => ?_) h
            · refine w_a f_263_72 ?_
              refine w_a f_263_73 ?_
              refine w_a f_263_77 ?_
              refine w_a (ls := [(5, .int (Int32.ofInt 0)), (4, .int (Int32.ofInt 0)), (2, .long ((L 58 18) - ((L 58 17) * (L 58 17)))), (0, .ref 58), (1, .int x1)]) f_263_79 ?_
              refine w_a f_263_80 ?_
              refine i_m (fun h => ?_) (fun h => ?_) h
              · refine w_a f_263_83 ?_
                refine w_a f_263_85 ?_
                refine w_a f_263_90 ?_
                refine w_a (ls := [(6, .int (Int32.ofInt 0)), (5, .int (Int32.ofInt 0)), (4, .int (Int32.ofInt 0)), (2, .long ((L 58 18) - ((L 58 17) * (L 58 17)))), (0, .ref 58), (1, .int x1)]) f_263_92 ?_
                refine w_a f_263_93 ?_
                refine w_a f_263_96 ?_
                refine w_a f_263_97 ?_
                refine i_m (fun h => ?_) (fun h => ?_) h
                · refine w_a f_263_101 ?_
                  refine w_a f_263_103 ?_
                  refine w_a f_263_109 ?_
                  exact h
                · refine w_a f_263_106 ?_
                  refine w_a f_263_108 ?_
                  refine w_a f_263_109 ?_
                  exact h
              · refine w_a f_263_88 ?_
                refine w_a f_263_90 ?_
                refine w_a (ls := [(6, .int (Int32.ofInt 0)), (5, .int (Int32.ofInt 0)), (4, .int (Int32.ofInt 0)), (2, .long ((L 58 18) - ((L 58 17) * (L 58 17)))), (0, .ref 58), (1, .int x1)]) f_263_92 ?_
                refine w_a f_263_93 ?_
                refine w_a f_263_96 ?_
                refine w_a f_263_97 ?_
                refine i_m (fun h => ?_) (fun h => ?_) h
                · refine w_a f_263_101 ?_
                  refine w_a f_263_103 ?_
                  refine w_a f_263_109 ?_
                  exact h
                · refine w_a f_263_106 ?_
                  refine w_a f_263_108 ?_
                  refine w_a f_263_109 ?_
                  exact h
            · refine w_a f_263_76 ?_
              refine w_a f_263_77 ?_
              refine w_a (ls := [(5, .int (Int32.ofInt 1)), (4, .int (Int32.ofInt 0)), (2, .long ((L 58 18) - ((L 58 17) * (L 58 17)))), (0, .ref 58), (1, .int x1)]) f_263_79 ?_
              refine w_a f_263_80 ?_
              refine i_m (fun h => ?_) (fun h => ?_) h
              · refine w_a f_263_83 ?_
                refine w_a f_263_85 ?_
                refine w_a f_263_90 ?_
                refine w_a (ls := [(6, .int (Int32.ofInt 0)), (5, .int (Int32.ofInt 1)), (4, .int (Int32.ofInt 0)), (2, .long ((L 58 18) - ((L 58 17) * (L 58 17)))), (0, .ref 58), (1, .int x1)]) f_263_92 ?_
                refine w_a f_263_93 ?_
                refine w_a f_263_96 ?_
                refine w_a f_263_97 ?_
                refine i_m (fun h => ?_) (fun h => ?_) h
                · refine w_a f_263_101 ?_
                  refine w_a f_263_103 ?_
                  refine w_a f_263_109 ?_
                  exact h
                · refine w_a f_263_106 ?_
                  refine w_a f_263_108 ?_
                  refine w_a f_263_109 ?_
                  exact h
              · refine w_a f_263_88 ?_
                refine w_a f_263_90 ?_
                refine w_a (ls := [(6, .int (Int32.ofInt 1)), (5, .int (Int32.ofInt 1)), (4, .int (Int32.ofInt 0)), (2, .long ((L 58 18) - ((L 58 17) * (L 58 17)))), (0, .ref 58), (1, .int x1)]) f_263_92 ?_
                refine w_a f_263_93 ?_
                refine w_a f_263_96 ?_
                refine w_a f_263_97 ?_
                refine i_m (fun h => ?_) (fun h => ?_) h
                · refine w_a f_263_101 ?_
                  refine w_a f_263_103 ?_
                  refine w_a f_263_109 ?_
                  exact h
                · refine w_a f_263_106 ?_
                  refine w_a f_263_108 ?_
                  refine w_a f_263_109 ?_
                  exact h
        · refine w_a f_263_62 ?_
          refine w_a f_263_63 ?_
          refine w_a f_263_77 ?_
          refine w_a (ls := [(5, .int (Int32.ofInt (-1))), (4, .int (Int32.ofInt 0)), (2, .long ((L 58 18) - ((L 58 17) * (L 58 17)))), (0, .ref 58), (1, .int x1)]) f_263_79 ?_
          refine w_a f_263_80 ?_
          refine i_m (fun h => ?_) (fun h => ?_) h
          · refine w_a f_263_83 ?_
            refine w_a f_263_85 ?_
            refine w_a f_263_90 ?_
            refine w_a (ls := [(6, .int (Int32.ofInt 0)), (5, .int (Int32.ofInt (-1))), (4, .int (Int32.ofInt 0)), (2, .long ((L 58 18) - ((L 58 17) * (L 58 17)))), (0, .ref 58), (1, .int x1)]) f_263_92 ?_
            refine w_a f_263_93 ?_
            refine w_a f_263_96 ?_
            refine w_a f_263_97 ?_
            refine i_m (fun h => ?_) (fun h => ?_) h
            · refine w_a f_263_101 ?_
              refine w_a f_263_103 ?_
              refine w_a f_263_109 ?_
              exact h
            · refine w_a f_263_106 ?_
              refine w_a f_263_108 ?_
              refine w_a f_263_109 ?_
              exact h
          · refine w_a f_263_88 ?_
            refine w_a f_263_90 ?_
            refine w_a (ls := [(6, .int (Int32.ofInt (-1))), (5, .int (Int32.ofInt (-1))), (4, .int (Int32.ofInt 0)), (2, .long ((L 58 18) - ((L 58 17) * (L 58 17)))), (0, .ref 58), (1, .int x1)]) f_263_92 ?_
            refine w_a f_263_93 ?_
            refine w_a f_263_96 ?_
            refine w_a f_263_97 ?_
            refine i_m (fun h => ?_) (fun h => ?_) h
            · refine w_a f_263_101 ?_
              refine w_a f_263_103 ?_
              refine w_a f_263_109 ?_
              exact h
            · refine w_a f_263_106 ?_
              refine w_a f_263_108 ?_
              refine w_a f_263_109 ?_
              exact h
      · refine w_a f_263_44 ?_
        refine w_a f_263_45 ?_
        refine w_a (ls := [(4, .int (Int32.ofInt (-1))), (2, .long ((L 58 18) - ((L 58 17) * (L 58 17)))), (0, .ref 58), (1, .int x1)]) f_263_47 ?_
        refine w_a f_263_48 ?_
        refine w_a f_263_51 ?_
        refine w_a f_263_52 ?_
        refine i_m (fun h => ?_) (fun h => ?_) h
        · refine w_a f_263_56 ?_
          refine w_a f_263_57 ?_
          refine w_a f_263_58 ?_
          refine i_m (fun h => ?_) (fun h => ?_) h
          · refine w_a f_263_62 ?_
            refine w_a f_263_63 ?_
            refine w_a f_263_77 ?_
            refine w_a (ls := [(5, .int (Int32.ofInt (-1))), (4, .int (Int32.ofInt (-1))), (2, .long ((L 58 18) - ((L 58 17) * (L 58 17)))), (0, .ref 58), (1, .int x1)]) f_263_79 ?_
            refine w_a f_263_80 ?_
            refine i_m (fun h => ?_) (fun h => ?_) h
            · refine w_a f_263_83 ?_
              refine w_a f_263_85 ?_
              refine w_a f_263_90 ?_
              refine w_a (ls := [(6, .int (Int32.ofInt (-1))), (5, .int (Int32.ofInt (-1))), (4, .int (Int32.ofInt (-1))), (2, .long ((L 58 18) - ((L 58 17) * (L 58 17)))), (0, .ref 58), (1, .int x1)]) f_263_92 ?_
              refine w_a f_263_93 ?_
              refine w_a f_263_96 ?_
              refine w_a f_263_97 ?_
              refine i_m (fun h => ?_) (fun h => ?_) h
              · refine w_a f_263_101 ?_
                refine w_a f_263_103 ?_
                refine w_a f_263_109 ?_
                exact h
              · refine w_a f_263_106 ?_
                refine w_a f_263_108 ?_
                refine w_a f_263_109 ?_
                exact h
            · refine w_a f_263_88 ?_
              refine w_a f_263_90 ?_
              refine w_a (ls := [(6, .int (Int32.ofInt (-1))), (5, .int (Int32.ofInt (-1))), (4, .int (Int32.ofInt (-1))), (2, .long ((L 58 18) - ((L 58 17) * (L 58 17)))), (0, .ref 58), (1, .int x1)]) f_263_92 ?_
              refine w_a f_263_93 ?_
              refine w_a f_263_96 ?_
              refine w_a f_263_97 ?_
              refine i_m (fun h => ?_) (fun h => ?_) h
              · refine w_a f_263_101 ?_
                refine w_a f_263_103 ?_
                refine w_a f_263_109 ?_
                exact h
              · refine w_a f_263_106 ?_
                refine w_a f_263_108 ?_
                refine w_a f_263_109 ?_
                exact h
          · refine w_a f_263_66 ?_
            refine w_a f_263_67 ?_
            refine w_a f_263_68 ?_
            refine i_m (fun h => ?_) (fun h => ?_) h
            · refine w_a f_263_72 ?_
              refine w_a f_263_73 ?_
              refine w_a f_263_77 ?_
              refine w_a (ls := [(5, .int (Int32.ofInt 0)), (4, .int (Int32.ofInt (-1))), (2, .long ((L 58 18) - ((L 58 17) * (L 58 17)))), (0, .ref 58), (1, .int x1)]) f_263_79 ?_
              refine w_a f_263_80 ?_
              refine i_m (fun h => ?_) (fun h => ?_) h
              · refine w_a f_263_83 ?_
                refine w_a f_263_85 ?_
                refine w_a f_263_90 ?_
                refine w_a (ls := [(6, .int (Int32.ofInt (-1))), (5, .int (Int32.ofInt 0)), (4, .int (Int32.ofInt (-1))), (2, .long ((L 58 18) - ((L 58 17) * (L 58 17)))), (0, .ref 58), (1, .int x1)]) f_263_92 ?_
                refine w_a f_263_93 ?_
                refine w_a f_263_96 ?_
                refine w_a f_263_97 ?_
                refine i_m (fun h => ?_) (fun h => ?_) h
                · refine w_a f_263_101 ?_
                  refine w_a f_263_103 ?_
                  refine w_a f_263_109 ?_
                  exact h
                · refine w_a f_263_106 ?_
                  refine w_a f_263_108 ?_
                  refine w_a f_263_109 ?_
                  exact h
              · refine w_a f_263_88 ?_
                refine w_a f_263_90 ?_
                refine w_a (ls := [(6, .int (Int32.ofInt 0)), (5, .int (Int32.ofInt 0)), (4, .int (Int32.ofInt (-1))), (2, .long ((L 58 18) - ((L 58 17) * (L 58 17)))), (0, .ref 58), (1, .int x1)]) f_263_92 ?_
                refine w_a f_263_93 ?_
                refine w_a f_263_96 ?_
                refine w_a f_263_97 ?_
                refine i_m (fun h => ?_) (fun h => ?_) h
                · refine w_a f_263_101 ?_
                  refine w_a f_263_103 ?_
                  refine w_a f_263_109 ?_
                  exact h
                · refine w_a f_263_106 ?_
                  refine w_a f_263_108 ?_
                  refine w_a f_263_109 ?_
                  exact h
            · refine w_a f_263_76 ?_
              refine w_a f_263_77 ?_
              refine w_a (ls := [(5, .int (Int32.ofInt 1)), (4, .int (Int32.ofInt (-1))), (2, .long ((L 58 18) - ((L 58 17) * (L 58 17)))), (0, .ref 58), (1, .int x1)]) f_263_79 ?_
              refine w_a f_263_80 ?_
              refine i_m (fun h => ?_) (fun h => ?_) h
              · refine w_a f_263_83 ?_
                refine w_a f_263_85 ?_
                refine w_a f_263_90 ?_
                refine w_a (ls := [(6, .int (Int32.ofInt (-1))), (5, .int (Int32.ofInt 1)), (4, .int (Int32.ofInt (-1))), (2, .long ((L 58 18) - ((L 58 17) * (L 58 17)))), (0, .ref 58), (1, .int x1)]) f_263_92 ?_
                refine w_a f_263_93 ?_
                refine w_a f_263_96 ?_
                refine w_a f_263_97 ?_
                refine i_m (fun h => ?_) (fun h => ?_) h
                · refine w_a f_263_101 ?_
                  refine w_a f_263_103 ?_
                  refine w_a f_263_109 ?_
                  exact h
                · refine w_a f_263_106 ?_
                  refine w_a f_263_108 ?_
                  refine w_a f_263_109 ?_
                  exact h
              · refine w_a f_263_88 ?_
                refine w_a f_263_90 ?_
                refine w_a (ls := [(6, .int (Int32.ofInt 1)), (5, .int (Int32.ofInt 1)), (4, .int (Int32.ofInt (-1))), (2, .long ((L 58 18) - ((L 58 17) * (L 58 17)))), (0, .ref 58), (1, .int x1)]) f_263_92 ?_
                refine w_a f_263_93 ?_
                refine w_a f_263_96 ?_
                refine w_a f_263_97 ?_
                refine i_m (fun h => ?_) (fun h => ?_) h
                · refine w_a f_263_101 ?_
                  refine w_a f_263_103 ?_
                  refine w_a f_263_109 ?_
                  exact h
                · refine w_a f_263_106 ?_
                  refine w_a f_263_108 ?_
                  refine w_a f_263_109 ?_
                  exact h
        · refine w_a f_263_62 ?_
          refine w_a f_263_63 ?_
          refine w_a f_263_77 ?_
          refine w_a (ls := [(5, .int (Int32.ofInt (-1))), (4, .int (Int32.ofInt (-1))), (2, .long ((L 58 18) - ((L 58 17) * (L 58 17)))), (0, .ref 58), (1, .int x1)]) f_263_79 ?_
          refine w_a f_263_80 ?_
          refine i_m (fun h => ?_) (fun h => ?_) h
          · refine w_a f_263_83 ?_
            refine w_a f_263_85 ?_
            refine w_a f_263_90 ?_
            refine w_a (ls := [(6, .int (Int32.ofInt (-1))), (5, .int (Int32.ofInt (-1))), (4, .int (Int32.ofInt (-1))), (2, .long ((L 58 18) - ((L 58 17) * (L 58 17)))), (0, .ref 58), (1, .int x1)]) f_263_92 ?_
            refine w_a f_263_93 ?_
            refine w_a f_263_96 ?_
            refine w_a f_263_97 ?_
            refine i_m (fun h => ?_) (fun h => ?_) h
            · refine w_a f_263_101 ?_
              refine w_a f_263_103 ?_
              refine w_a f_263_109 ?_
              exact h
            · refine w_a f_263_106 ?_
              refine w_a f_263_108 ?_
              refine w_a f_263_109 ?_
              exact h
          · refine w_a f_263_88 ?_
            refine w_a f_263_90 ?_
            refine w_a (ls := [(6, .int (Int32.ofInt (-1))), (5, .int (Int32.ofInt (-1))), (4, .int (Int32.ofInt (-1))), (2, .long ((L 58 18) - ((L 58 17) * (L 58 17)))), (0, .ref 58), (1, .int x1)]) f_263_92 ?_
            refine w_a f_263_93 ?_
            refine w_a f_263_96 ?_
            refine w_a f_263_97 ?_
            refine i_m (fun h => ?_) (fun h => ?_) h
            · refine w_a f_263_101 ?_
              refine w_a f_263_103 ?_
              refine w_a f_263_109 ?_
              exact h
            · refine w_a f_263_106 ?_
              refine w_a f_263_108 ?_
              refine w_a f_263_109 ?_
              exact h
  · refine w_a f_263_30 ?_
    refine w_a f_263_31 ?_
    refine w_a f_263_45 ?_
    refine w_a (ls := [(4, .int (Int32.ofInt 1)), (2, .long ((L 58 18) - ((L 58 17) * (L 58 17)))), (0, .ref 58), (1, .int x1)]) f_263_47 ?_
    refine w_a f_263_48 ?_
    refine w_a f_263_51 ?_
    refine w_a f_263_52 ?_
    refine i_m (fun h => ?_) (fun h => ?_) h
    · refine w_a f_263_56 ?_
      refine w_a f_263_57 ?_
      refine w_a f_263_58 ?_
      refine i_m (fun h => ?_) (fun h => ?_) h
      · refine w_a f_263_62 ?_
        refine w_a f_263_63 ?_
        refine w_a f_263_77 ?_
        refine w_a (ls := [(5, .int (Int32.ofInt (-1))), (4, .int (Int32.ofInt 1)), (2, .long ((L 58 18) - ((L 58 17) * (L 58 17)))), (0, .ref 58), (1, .int x1)]) f_263_79 ?_
        refine w_a f_263_80 ?_
        refine i_m (fun h => ?_) (fun h => ?_) h
        · refine w_a f_263_83 ?_
          refine w_a f_263_85 ?_
          refine w_a f_263_90 ?_
          refine w_a (ls := [(6, .int (Int32.ofInt 1)), (5, .int (Int32.ofInt (-1))), (4, .int (Int32.ofInt 1)), (2, .long ((L 58 18) - ((L 58 17) * (L 58 17)))), (0, .ref 58), (1, .int x1)]) f_263_92 ?_
          refine w_a f_263_93 ?_
          refine w_a f_263_96 ?_
          refine w_a f_263_97 ?_
          refine i_m (fun h => ?_) (fun h => ?_) h
          · refine w_a f_263_101 ?_
            refine w_a f_263_103 ?_
            refine w_a f_263_109 ?_
            exact h
          · refine w_a f_263_106 ?_
            refine w_a f_263_108 ?_
            refine w_a f_263_109 ?_
            exact h
        · refine w_a f_263_88 ?_
          refine w_a f_263_90 ?_
          refine w_a (ls := [(6, .int (Int32.ofInt (-1))), (5, .int (Int32.ofInt (-1))), (4, .int (Int32.ofInt 1)), (2, .long ((L 58 18) - ((L 58 17) * (L 58 17)))), (0, .ref 58), (1, .int x1)]) f_263_92 ?_
          refine w_a f_263_93 ?_
          refine w_a f_263_96 ?_
          refine w_a f_263_97 ?_
          refine i_m (fun h => ?_) (fun h => ?_) h
          · refine w_a f_263_101 ?_
            refine w_a f_263_103 ?_
            refine w_a f_263_109 ?_
            exact h
          · refine w_a f_263_106 ?_
            refine w_a f_263_108 ?_
            refine w_a f_263_109 ?_
            exact h
      · refine w_a f_263_66 ?_
        refine w_a f_263_67 ?_
        refine w_a f_263_68 ?_
        refine i_m (fun h => ?_) (fun h => ?_) h
        · refine w_a f_263_72 ?_
          refine w_a f_263_73 ?_
          refine w_a f_263_77 ?_
          refine w_a (ls := [(5, .int (Int32.ofInt 0)), (4, .int (Int32.ofInt 1)), (2, .long ((L 58 18) - ((L 58 17) * (L 58 17)))), (0, .ref 58), (1, .int x1)]) f_263_79 ?_
          refine w_a f_263_80 ?_
          refine i_m (fun h => ?_) (fun h => ?_) h
          · refine w_a f_263_83 ?_
            refine w_a f_263_85 ?_
            refine w_a f_263_90 ?_
            refine w_a (ls := [(6, .int (Int32.ofInt 1)), (5, .int (Int32.ofInt 0)), (4, .int (Int32.ofInt 1)), (2, .long ((L 58 18) - ((L 58 17) * (L 58 17)))), (0, .ref 58), (1, .int x1)]) f_263_92 ?_
            refine w_a f_263_93 ?_
            refine w_a f_263_96 ?_
            refine w_a f_263_97 ?_
            refine i_m (fun h => ?_) (fun h => ?_) h
            · refine w_a f_263_101 ?_
              refine w_a f_263_103 ?_
              refine w_a f_263_109 ?_
              exact h
            · refine w_a f_263_106 ?_
              refine w_a f_263_108 ?_
              refine w_a f_263_109 ?_
              exact h
          · refine w_a f_263_88 ?_
            refine w_a f_263_90 ?_
            refine w_a (ls := [(6, .int (Int32.ofInt 0)), (5, .int (Int32.ofInt 0)), (4, .int (Int32.ofInt 1)), (2, .long ((L 58 18) - ((L 58 17) * (L 58 17)))), (0, .ref 58), (1, .int x1)]) f_263_92 ?_
            refine w_a f_263_93 ?_
            refine w_a f_263_96 ?_
            refine w_a f_263_97 ?_
            refine i_m (fun h => ?_) (fun h => ?_) h
            · refine w_a f_263_101 ?_
              refine w_a f_263_103 ?_
              refine w_a f_263_109 ?_
              exact h
            · refine w_a f_263_106 ?_
              refine w_a f_263_108 ?_
              refine w_a f_263_109 ?_
              exact h
        · refine w_a f_263_76 ?_
          refine w_a f_263_77 ?_
          refine w_a (ls := [(5, .int (Int32.ofInt 1)), (4, .int (Int32.ofInt 1)), (2, .long ((L 58 18) - ((L 58 17) * (L 58 17)))), (0, .ref 58), (1, .int x1)]) f_263_79 ?_
          refine w_a f_263_80 ?_
          refine i_m (fun h => ?_) (fun h => ?_) h
          · refine w_a f_263_83 ?_
            refine w_a f_263_85 ?_
            refine w_a f_263_90 ?_
            refine w_a (ls := [(6, .int (Int32.ofInt 1)), (5, .int (Int32.ofInt 1)), (4, .int (Int32.ofInt 1)), (2, .long ((L 58 18) - ((L 58 17) * (L 58 17)))), (0, .ref 58), (1, .int x1)]) f_263_92 ?_
            refine w_a f_263_93 ?_
            refine w_a f_263_96 ?_
            refine w_a f_263_97 ?_
            refine i_m (fun h => ?_) (fun h => ?_) h
            · refine w_a f_263_101 ?_
              refine w_a f_263_103 ?_
              refine w_a f_263_109 ?_
              exact h
            · refine w_a f_263_106 ?_
              refine w_a f_263_108 ?_
              refine w_a f_263_109 ?_
              exact h
          · refine w_a f_263_88 ?_
            refine w_a f_263_90 ?_
            refine w_a (ls := [(6, .int (Int32.ofInt 1)), (5, .int (Int32.ofInt 1)), (4, .int (Int32.ofInt 1)), (2, .long ((L 58 18) - ((L 58 17) * (L 58 17)))), (0, .ref 58), (1, .int x1)]) f_263_92 ?_
            refine w_a f_263_93 ?_
            refine w_a f_263_96 ?_
            refine w_a f_263_97 ?_
            refine i_m (fun h => ?_) (fun h => ?_) h
            · refine w_a f_263_101 ?_
              refine w_a f_263_103 ?_
              refine w_a f_263_109 ?_
              exact h
            · refine w_a f_263_106 ?_
              refine w_a f_263_108 ?_
              refine w_a f_263_109 ?_
              exact h
    · refine w_a f_263_62 ?_
      refine w_a f_263_63 ?_
      refine w_a f_263_77 ?_
      refine w_a (ls := [(5, .int (Int32.ofInt (-1))), (4, .int (Int32.ofInt 1)), (2, .long ((L 58 18) - ((L 58 17) * (L 58 17)))), (0, .ref 58), (1, .int x1)]) f_263_79 ?_
      refine w_a f_263_80 ?_
      refine i_m (fun h => ?_) (fun h => ?_) h
      · refine w_a f_263_83 ?_
        refine w_a f_263_85 ?_
        refine w_a f_263_90 ?_
        refine w_a (ls := [(6, .int (Int32.ofInt 1)), (5, .int (Int32.ofInt (-1))), (4, .int (Int32.ofInt 1)), (2, .long ((L 58 18) - ((L 58 17) * (L 58 17)))), (0, .ref 58), (1, .int x1)]) f_263_92 ?_
        refine w_a f_263_93 ?_
        refine w_a f_263_96 ?_
        refine w_a f_263_97 ?_
        refine i_m (fun h => ?_) (fun h => ?_) h
        · refine w_a f_263_101 ?_
          refine w_a f_263_103 ?_
          refine w_a f_263_109 ?_
          exact h
        · refine w_a f_263_106 ?_
          refine w_a f_263_108 ?_
          refine w_a f_263_109 ?_
          exact h
      · refine w_a f_263_88 ?_
        refine w_a f_263_90 ?_
        refine w_a (ls := [(6, .int (Int32.ofInt (-1))), (5, .int (Int32.ofInt (-1))), (4, .int (Int32.ofInt 1)), (2, .long ((L 58 18) - ((L 58 17) * (L 58 17)))), (0, .ref 58), (1, .int x1)]) f_263_92 ?_
        refine w_a f_263_93 ?_
        refine w_a f_263_96 ?_
        refine w_a f_263_97 ?_
        refine i_m (fun h => ?_) (fun h => ?_) h
        · refine w_a f_263_101 ?_
          refine w_a f_263_103 ?_
          refine w_a f_263_109 ?_
          exact h
        · refine w_a f_263_106 ?_
          refine w_a f_263_108 ?_
          refine w_a f_263_109 ?_
          exact h
set_option maxRecDepth 10000 in
set_option maxHeartbeats 4000000 in
theorem s_264_0 {Lx : Nat} {I : Mi} {L : Ml} {e : Nat} {Q : Kq} {x1 : Int32} (h :
    Wp 243 0 [(0, .long (L 58 18))] [] (gE Lx) I L e (kcp (Wp 264) 264 6 0 [(0, .ref 58), (1, .int x1)] 71 [.long x1.toInt64] Q)) :
    Wp 264 0 [(0, .ref 58), (1, .int x1)] [] (gE Lx) I L e Q := by
  refine w_a f_264_0 ?_
  refine w_a f_264_1 ?_
  refine w_a f_264_2 ?_
  refine w_a f_264_3 ?_
  exact w_c (ks := [0, 1]) f_264_6 rfl rfl h
set_option maxRecDepth 10000 in
set_option maxHeartbeats 4000000 in
theorem s_264_9 {Lx : Nat} {I : Mi} {L : Ml} {e : Nat} {Q : Kq} {x1 : Int32} {rl0 : Int64} {rl : Int64} (h :
    (if (L 58 19) = (Int64.ofInt 0) then
     (if (L 58 19) = (Int64.ofInt 0) then
      (if 0 < x1 then
       (if (Int64.ofInt 0) < (L 58 17) then
        Wp 246 0 [(0, .ref 58), (1, .long (Int64.ofInt 1)), (3, .long (Int64.ofInt 0))] [] (gE Lx) I L e (kcp (Wp 264) 264 48 0 [(0, .ref 58)] 71 [] Q)
       else
        Wp 246 0 [(0, .ref 58), (1, .long (L 58 20)), (3, .long ((Int64.ofInt 2) * (L 58 17)))] [] (gE Lx) I L e (kcp (Wp 264) 264 67 0 [(0, .ref 58)] 71 [] Q))
      else
       (if (Int64.ofInt 0) < (L 58 17) then
        Wp 246 0 [(0, .ref 58), (1, .long (L 58 20)), (3, .long ((Int64.ofInt 2) * (L 58 17)))] [] (gE Lx) I L e (kcp (Wp 264) 264 67 0 [(0, .ref 58)] 71 [] Q)
       else
        Wp 246 0 [(0, .ref 58), (1, .long (Int64.ofInt 1)), (3, .long (Int64.ofInt 0))] [] (gE Lx) I L e (kcp (Wp 264) 264 48 0 [(0, .ref 58)] 71 [] Q)))
     else
      Wp 246 0 [(0, .ref 58), (1, .long (L 58 20)), (3, .long ((Int64.ofInt 2) * (L 58 17)))] [] (gE Lx) I L e (kcp (Wp 264) 264 67 0 [(0, .ref 58)] 71 [] Q))
    else
     Wp 246 0 [(0, .ref 58), (1, .long ((L 58 17) + (rl0 * rl))), (3, .long (L 58 19))] [] (gE Lx) I L e (kcp (Wp 264) 264 31 0 [(0, .ref 58)] 71 [] Q))) :
    Wp 264 9 [(0, .ref 58), (1, .int x1)] [.long rl, .long rl0] (gE Lx) I L e Q := by
  refine w_a f_264_9 ?_
  refine w_a f_264_10 ?_
  refine w_a (ls := [(2, .long (rl0 * rl)), (0, .ref 58), (1, .int x1)]) f_264_11 ?_
  refine w_a f_264_12 ?_
  refine w_a f_264_15 ?_
  refine w_a f_264_16 ?_
  refine i_m (fun h => ?_) (fun h => ?_) h
  · refine w_a f_264_37 ?_
    refine w_a f_264_38 ?_
    refine w_a f_264_39 ?_
    refine w_a (ls := [(0, .ref 58), (1, .int x1)]) f_265_0 ?_
    refine w_a f_265_1 ?_
    refine w_a f_265_4 ?_
    refine w_a f_265_5 ?_
    refine i_m (fun h => ?_) (fun h => ?_) h
    · refine w_a f_265_9 ?_
      refine w_a f_265_10 ?_
      refine i_m (fun h => ?_) (fun h => ?_) h
      · refine w_a f_265_13 ?_
        refine w_a f_265_14 ?_
        refine w_a f_265_18 ?_
        refine w_a f_265_19 ?_
        refine w_a f_265_22 ?_
        refine w_a f_265_23 ?_
        refine i_m (fun h => ?_) (fun h => ?_) h
        · refine w_a f_265_27 ?_
          refine w_a f_265_28 ?_
          refine w_a f_265_32 ?_
          refine w_a f_265_35 ?_
          refine w_a f_265_36 ?_
          refine w_a f_265_40 ?_
          refine w_a (ls := [(2, .long (rl0 * rl)), (0, .ref 58), (1, .int x1)]) f_264_42 ?_
          refine w_a f_264_45 ?_
          refine w_a f_264_46 ?_
          refine w_a f_264_47 ?_
          exact w_c (ks := [0]) f_264_48 rfl rfl h
        · refine w_a f_265_31 ?_
          refine w_a f_265_32 ?_
          refine w_a f_265_39 ?_
          refine w_a f_265_40 ?_
          refine w_a (ls := [(2, .long (rl0 * rl)), (0, .ref 58), (1, .int x1)]) f_264_42 ?_
          refine w_a f_264_54 ?_
          refine w_a f_264_55 ?_
          refine w_a f_264_56 ?_
          refine w_a f_264_59 ?_
          refine w_a f_264_62 ?_
          refine w_a f_264_63 ?_
          refine w_a f_264_66 ?_
          exact w_c (ks := [0]) f_264_67 rfl rfl h
      · refine w_a f_265_17 ?_
        refine w_a f_265_18 ?_
        refine w_a f_265_19 ?_
        refine w_a f_265_22 ?_
        refine w_a f_265_23 ?_
        refine i_m (fun h => ?_) (fun h => ?_) h
        · refine w_a f_265_27 ?_
          refine w_a f_265_28 ?_
          refine w_a f_265_32 ?_
          refine w_a f_265_39 ?_
          refine w_a f_265_40 ?_
          refine w_a (ls := [(2, .long (rl0 * rl)), (0, .ref 58), (1, .int x1)]) f_264_42 ?_
          refine w_a f_264_54 ?_
          refine w_a f_264_55 ?_
          refine w_a f_264_56 ?_
          refine w_a f_264_59 ?_
          refine w_a f_264_62 ?_
          refine w_a f_264_63 ?_
          refine w_a f_264_66 ?_
          exact w_c (ks := [0]) f_264_67 rfl rfl h
        · refine w_a f_265_31 ?_
          refine w_a f_265_32 ?_
          refine w_a f_265_35 ?_
          refine w_a f_265_36 ?_
          refine w_a f_265_40 ?_
          refine w_a (ls := [(2, .long (rl0 * rl)), (0, .ref 58), (1, .int x1)]) f_264_42 ?_
          refine w_a f_264_45 ?_
          refine w_a f_264_46 ?_
          refine w_a f_264_47 ?_
          exact w_c (ks := [0]) f_264_48 rfl rfl h
    · refine w_a f_265_39 ?_
      refine w_a f_265_40 ?_
      refine w_a (ls := [(2, .long (rl0 * rl)), (0, .ref 58), (1, .int x1)]) f_264_42 ?_
      refine w_a f_264_54 ?_
      refine w_a f_264_55 ?_
      refine w_a f_264_56 ?_
      refine w_a f_264_59 ?_
      refine w_a f_264_62 ?_
      refine w_a f_264_63 ?_
      refine w_a f_264_66 ?_
      exact w_c (ks := [0]) f_264_67 rfl rfl h
  · refine w_a f_264_20 ?_
    refine w_a f_264_21 ?_
    refine w_a f_264_22 ?_
    refine w_a f_264_25 ?_
    refine w_a f_264_26 ?_
    refine w_a f_264_27 ?_
    refine w_a f_264_28 ?_
    exact w_c (ks := [0]) f_264_31 rfl rfl h
set_option maxRecDepth 10000 in
set_option maxHeartbeats 4000000 in
theorem s_264_34 {Lx : Nat} {I : Mi} {L : Ml} {e : Nat} {Q : Kq} (h :
    Wp 264 70 [(0, .ref 58)] [] (gE Lx) I L e Q) :
    Wp 264 34 [(0, .ref 58)] [] (gE Lx) I L e Q := by
  refine w_a f_264_34 ?_
  exact w_n (ks := [0]) rfl h
set_option maxRecDepth 10000 in
set_option maxHeartbeats 4000000 in
theorem s_264_51 {Lx : Nat} {I : Mi} {L : Ml} {e : Nat} {Q : Kq} (h :
    Wp 264 70 [(0, .ref 58)] [] (gE Lx) I L e Q) :
    Wp 264 51 [(0, .ref 58)] [] (gE Lx) I L e Q := by
  refine w_a f_264_51 ?_
  exact w_n (ks := [0]) rfl h
set_option maxRecDepth 10000 in
set_option maxHeartbeats 4000000 in
theorem s_264_70 {Lx : Nat} {I : Mi} {L : Ml} {e : Nat} {Q : Kq} (h :
    Q (.inl none) (gE Lx) I L e) :
    Wp 264 70 [(0, .ref 58)] [] (gE Lx) I L e Q := by
  refine w_a f_264_70 ?_
  exact h
set_option maxRecDepth 10000 in
set_option maxHeartbeats 4000000 in
theorem s_266_8 {Lx : Nat} {I : Mi} {L : Ml} {e : Nat} {Q : Kq} {x3 : Int32} {r : Int32} (h :
    (if 0 < r then
     Q (.inl (some (.long (Int64.ofInt 0)))) (gE Lx) (ui I 58 0 r) L e
    else
     Wp 260 0 [(0, .ref 58), (1, .int x3)] [] (gE Lx) (ui I 58 0 r) L e (kcp (Wp 266) 266 22 0 [(0, .ref 58)] 71 [] Q))) :
    Wp 266 8 [(0, .ref 58), (3, .int x3)] [.int r, .ref 58] (gE Lx) I L e Q := by
  refine w_a f_266_8 ?_
  refine w_a f_266_11 ?_
  refine w_a f_266_12 ?_
  refine w_a f_266_15 ?_
  refine i_m (fun h => ?_) (fun h => ?_) h
  · refine w_a f_266_18 ?_
    refine w_a f_266_19 ?_
    exact h
  · refine w_a f_266_20 ?_
    refine w_a f_266_21 ?_
    exact w_c (ks := [0]) f_266_22 rfl rfl h
set_option maxRecDepth 10000 in
set_option maxHeartbeats 4000000 in
theorem s_266_25 {Lx : Nat} {I : Mi} {L : Ml} {e : Nat} {Q : Kq} {r : Int32} (h :
    (if (L 58 19) = (Int64.ofInt 0) then
     (if 0 < r then
      (if (Int64.ofInt 0) < (L 58 17) then
       Q (.inl (some (.long (Int64.ofInt 1000000000)))) (gE Lx) I L e
      else
       (if (L 58 19) = (Int64.ofInt 0) then
        (if ((Int64.ofInt 2) * (L 58 17)) = 0 then False else
         (if ((Int64.ofInt 2) * (L 58 17)) = 0 then False else
          (if (((Int64.ofInt 1000) * (L 58 20)) - ((Int64.ofInt 1000) * (L 58 20)) / ((Int64.ofInt 2) * (L 58 17)) * ((Int64.ofInt 2) * (L 58 17))) = (Int64.ofInt 0) then
           Q (.inl (some (.long (((Int64.ofInt 1000) * (L 58 20)) / ((Int64.ofInt 2) * (L 58 17)))))) (gE Lx) I L e
          else
           (if ((Int64.ofInt 1000) * (L 58 20)) < (Int64.ofInt 0) then
            (if ((Int64.ofInt 2) * (L 58 17)) < (Int64.ofInt 0) then
             Q (.inl (some (.long (((Int64.ofInt 1000) * (L 58 20)) / ((Int64.ofInt 2) * (L 58 17)))))) (gE Lx) I L e
            else
             Q (.inl (some (.long ((((Int64.ofInt 1000) * (L 58 20)) / ((Int64.ofInt 2) * (L 58 17))) - (Int64.ofInt 1))))) (gE Lx) I L e)
           else
            (if ((Int64.ofInt 2) * (L 58 17)) < (Int64.ofInt 0) then
             Q (.inl (some (.long ((((Int64.ofInt 1000) * (L 58 20)) / ((Int64.ofInt 2) * (L 58 17))) - (Int64.ofInt 1))))) (gE Lx) I L e
            else
             Q (.inl (some (.long (((Int64.ofInt 1000) * (L 58 20)) / ((Int64.ofInt 2) * (L 58 17)))))) (gE Lx) I L e)))))
       else
        (if (L 58 19) < (Int64.ofInt 0) then
         (if (L 58 19) < (Int64.ofInt 0) then
          Wp 243 0 [(0, .long ((Int64.ofInt 1000000) * (L 58 18)))] [] (gE Lx) I L e (kcp (Wp 266) 266 130 0 [(0, .ref 58), (5, .int (-r)), (6, .long ((Int64.ofInt (-1000)) * (L 58 17))), (8, .long ((Int64.ofInt 1000000) * (L 58 18)))] 71 [] Q)
         else
          Wp 243 0 [(0, .long ((Int64.ofInt 1000000) * (L 58 18)))] [] (gE Lx) I L e (kcp (Wp 266) 266 130 0 [(0, .ref 58), (5, .int (-r)), (6, .long ((Int64.ofInt 1000) * (L 58 17))), (8, .long ((Int64.ofInt 1000000) * (L 58 18)))] 71 [] Q))
        else
         (if (L 58 19) < (Int64.ofInt 0) then
          Wp 243 0 [(0, .long ((Int64.ofInt 1000000) * (L 58 18)))] [] (gE Lx) I L e (kcp (Wp 266) 266 130 0 [(0, .ref 58), (5, .int r), (6, .long ((Int64.ofInt (-1000)) * (L 58 17))), (8, .long ((Int64.ofInt 1000000) * (L 58 18)))] 71 [] Q)
         else
          Wp 243 0 [(0, .long ((Int64.ofInt 1000000) * (L 58 18)))] [] (gE Lx) I L e (kcp (Wp 266) 266 130 0 [(0, .ref 58), (5, .int r), (6, .long ((Int64.ofInt 1000) * (L 58 17))), (8, .long ((Int64.ofInt 1000000) * (L 58 18)))] 71 [] Q)))))
     else
      (if (Int64.ofInt 0) < (L 58 17) then
       (if (L 58 19) = (Int64.ofInt 0) then
        (if ((Int64.ofInt 2) * (L 58 17)) = 0 then False else
         (if ((Int64.ofInt 2) * (L 58 17)) = 0 then False else
          (if (((Int64.ofInt 1000) * (L 58 20)) - ((Int64.ofInt 1000) * (L 58 20)) / ((Int64.ofInt 2) * (L 58 17)) * ((Int64.ofInt 2) * (L 58 17))) = (Int64.ofInt 0) then
           Q (.inl (some (.long (((Int64.ofInt 1000) * (L 58 20)) / ((Int64.ofInt 2) * (L 58 17)))))) (gE Lx) I L e
          else
           (if ((Int64.ofInt 1000) * (L 58 20)) < (Int64.ofInt 0) then
            (if ((Int64.ofInt 2) * (L 58 17)) < (Int64.ofInt 0) then
             Q (.inl (some (.long (((Int64.ofInt 1000) * (L 58 20)) / ((Int64.ofInt 2) * (L 58 17)))))) (gE Lx) I L e
            else
             Q (.inl (some (.long ((((Int64.ofInt 1000) * (L 58 20)) / ((Int64.ofInt 2) * (L 58 17))) - (Int64.ofInt 1))))) (gE Lx) I L e)
           else
            (if ((Int64.ofInt 2) * (L 58 17)) < (Int64.ofInt 0) then
             Q (.inl (some (.long ((((Int64.ofInt 1000) * (L 58 20)) / ((Int64.ofInt 2) * (L 58 17))) - (Int64.ofInt 1))))) (gE Lx) I L e
            else
             Q (.inl (some (.long (((Int64.ofInt 1000) * (L 58 20)) / ((Int64.ofInt 2) * (L 58 17)))))) (gE Lx) I L e)))))
       else
        (if (L 58 19) < (Int64.ofInt 0) then
         (if (L 58 19) < (Int64.ofInt 0) then
          Wp 243 0 [(0, .long ((Int64.ofInt 1000000) * (L 58 18)))] [] (gE Lx) I L e (kcp (Wp 266) 266 130 0 [(0, .ref 58), (5, .int (-r)), (6, .long ((Int64.ofInt (-1000)) * (L 58 17))), (8, .long ((Int64.ofInt 1000000) * (L 58 18)))] 71 [] Q)
         else
          Wp 243 0 [(0, .long ((Int64.ofInt 1000000) * (L 58 18)))] [] (gE Lx) I L e (kcp (Wp 266) 266 130 0 [(0, .ref 58), (5, .int (-r)), (6, .long ((Int64.ofInt 1000) * (L 58 17))), (8, .long ((Int64.ofInt 1000000) * (L 58 18)))] 71 [] Q))
        else
         (if (L 58 19) < (Int64.ofInt 0) then
          Wp 243 0 [(0, .long ((Int64.ofInt 1000000) * (L 58 18)))] [] (gE Lx) I L e (kcp (Wp 266) 266 130 0 [(0, .ref 58), (5, .int r), (6, .long ((Int64.ofInt (-1000)) * (L 58 17))), (8, .long ((Int64.ofInt 1000000) * (L 58 18)))] 71 [] Q)
         else
          Wp 243 0 [(0, .long ((Int64.ofInt 1000000) * (L 58 18)))] [] (gE Lx) I L e (kcp (Wp 266) 266 130 0 [(0, .ref 58), (5, .int r), (6, .long ((Int64.ofInt 1000) * (L 58 17))), (8, .long ((Int64.ofInt 1000000) * (L 58 18)))] 71 [] Q))))
      else
       Q (.inl (some (.long (Int64.ofInt 1000000000)))) (gE Lx) I L e))
    else
     (if (L 58 19) = (Int64.ofInt 0) then
      (if ((Int64.ofInt 2) * (L 58 17)) = 0 then False else
       (if ((Int64.ofInt 2) * (L 58 17)) = 0 then False else
        (if (((Int64.ofInt 1000) * (L 58 20)) - ((Int64.ofInt 1000) * (L 58 20)) / ((Int64.ofInt 2) * (L 58 17)) * ((Int64.ofInt 2) * (L 58 17))) = (Int64.ofInt 0) then
         Q (.inl (some (.long (((Int64.ofInt 1000) * (L 58 20)) / ((Int64.ofInt 2) * (L 58 17)))))) (gE Lx) I L e
        else
         (if ((Int64.ofInt 1000) * (L 58 20)) < (Int64.ofInt 0) then
          (if ((Int64.ofInt 2) * (L 58 17)) < (Int64.ofInt 0) then
           Q (.inl (some (.long (((Int64.ofInt 1000) * (L 58 20)) / ((Int64.ofInt 2) * (L 58 17)))))) (gE Lx) I L e
          else
           Q (.inl (some (.long ((((Int64.ofInt 1000) * (L 58 20)) / ((Int64.ofInt 2) * (L 58 17))) - (Int64.ofInt 1))))) (gE Lx) I L e)
         else
          (if ((Int64.ofInt 2) * (L 58 17)) < (Int64.ofInt 0) then
           Q (.inl (some (.long ((((Int64.ofInt 1000) * (L 58 20)) / ((Int64.ofInt 2) * (L 58 17))) - (Int64.ofInt 1))))) (gE Lx) I L e
          else
           Q (.inl (some (.long (((Int64.ofInt 1000) * (L 58 20)) / ((Int64.ofInt 2) * (L 58 17)))))) (gE Lx) I L e)))))
     else
      (if (L 58 19) < (Int64.ofInt 0) then
       (if (L 58 19) < (Int64.ofInt 0) then
        Wp 243 0 [(0, .long ((Int64.ofInt 1000000) * (L 58 18)))] [] (gE Lx) I L e (kcp (Wp 266) 266 130 0 [(0, .ref 58), (5, .int (-r)), (6, .long ((Int64.ofInt (-1000)) * (L 58 17))), (8, .long ((Int64.ofInt 1000000) * (L 58 18)))] 71 [] Q)
       else
        Wp 243 0 [(0, .long ((Int64.ofInt 1000000) * (L 58 18)))] [] (gE Lx) I L e (kcp (Wp 266) 266 130 0 [(0, .ref 58), (5, .int (-r)), (6, .long ((Int64.ofInt 1000) * (L 58 17))), (8, .long ((Int64.ofInt 1000000) * (L 58 18)))] 71 [] Q))
      else
       (if (L 58 19) < (Int64.ofInt 0) then
        Wp 243 0 [(0, .long ((Int64.ofInt 1000000) * (L 58 18)))] [] (gE Lx) I L e (kcp (Wp 266) 266 130 0 [(0, .ref 58), (5, .int r), (6, .long ((Int64.ofInt (-1000)) * (L 58 17))), (8, .long ((Int64.ofInt 1000000) * (L 58 18)))] 71 [] Q)
       else
        Wp 243 0 [(0, .long ((Int64.ofInt 1000000) * (L 58 18)))] [] (gE Lx) I L e (kcp (Wp 266) 266 130 0 [(0, .ref 58), (5, .int r), (6, .long ((Int64.ofInt 1000) * (L 58 17))), (8, .long ((Int64.ofInt 1000000) * (L 58 18)))] 71 [] Q)))))) :
    Wp 266 25 [(0, .ref 58)] [.int r] (gE Lx) I L e Q := by
  refine w_a f_266_25 ?_
  refine w_a (ls := [(4, .int r), (0, .ref 58)]) f_266_27 ?_
  refine w_a f_266_28 ?_
  refine w_a f_266_30 ?_
  refine w_a (ls := [(0, .ref 58), (1, .int r)]) f_265_0 ?_
  refine w_a f_265_1 ?_
  refine w_a f_265_4 ?_
  refine w_a f_265_5 ?_
  refine i_m (fun h => ?_) (fun h => ?_) h
  · refine w_a f_265_9 ?_
    refine w_a f_265_10 ?_
    refine i_m (fun h => ?_) (fun h => ?_) h
    · refine w_a f_265_13 ?_
      refine w_a f_265_14 ?_
      refine w_a f_265_18 ?_
      refine w_a f_265_19 ?_
      refine w_a f_265_22 ?_
      refine w_a f_265_23 ?_
      refine i_m (fun h => ?_) (fun h => ?_) h
      · refine w_a f_265_27 ?_
        refine w_a f_265_28 ?_
        refine w_a f_265_32 ?_
        refine w_a f_265_35 ?_
        refine w_a f_265_36 ?_
        refine w_a f_265_40 ?_
        refine w_a (ls := [(4, .int r), (0, .ref 58)]) f_266_33 ?_
        refine w_a f_266_36 ?_
        refine w_a f_266_39 ?_
        exact h
      · refine w_a f_265_31 ?_
        refine w_a f_265_32 ?_
        refine w_a f_265_39 ?_
        refine w_a f_265_40 ?_
        refine w_a (ls := [(4, .int r), (0, .ref 58)]) f_266_33 ?_
        refine w_a f_266_40 ?_
        refine w_a f_266_41 ?_
        refine w_a f_266_44 ?_
        refine w_a f_266_45 ?_
        refine i_m (fun h => ?_) (fun h => ?_) h
        · refine w_a f_266_49 ?_
          refine w_a f_266_52 ?_
          refine w_a f_266_53 ?_
          refine w_a f_266_56 ?_
          refine w_a f_266_57 ?_
          refine w_a f_266_60 ?_
          refine w_a f_266_61 ?_
          refine w_a f_266_64 ?_
          refine w_a f_266_65 ?_
          refine w_a (ls := [(0, .long ((Int64.ofInt 1000) * (L 58 20))), (2, .long ((Int64.ofInt 2) * (L 58 17)))]) f_267_0 ?_
          refine w_a f_267_1 ?_
          refine w_a f_267_2 ?_
          refine i_m id (fun h => ?_) h
          refine w_a f_267_3 ?_
          refine w_a (ls := [(4, .long (((Int64.ofInt 1000) * (L 58 20)) / ((Int64.ofInt 2) * (L 58 17)))), (0, .long ((Int64.ofInt 1000) * (L 58 20))), (2, .long ((Int64.ofInt 2) * (L 58 17)))]) f_267_5 ?_
          refine w_a f_267_6 ?_
          refine w_a f_267_7 ?_
          refine i_m id (fun h => ?_) h
          refine w_a f_267_8 ?_
          refine w_a f_267_9 ?_
          refine i_m (fun h => ?_) (fun h => ?_) h
          · refine w_a f_267_45 ?_
            refine w_a f_267_47 ?_
            refine w_a (ls := [(4, .int r), (0, .ref 58)]) f_266_68 ?_
            exact h
          · refine w_a f_267_13 ?_
            refine w_a f_267_14 ?_
            refine w_a f_267_15 ?_
            refine i_m (fun h => ?_) (fun h => ?_) h
            · refine w_a f_267_19 ?_
              refine w_a f_267_20 ?_
              refine w_a f_267_24 ?_
              refine w_a f_267_25 ?_
              refine w_a f_267_26 ?_
              refine i_m (fun h => ?_) (fun h => ?_) h
              · refine w_a f_267_30 ?_
                refine w_a f_267_31 ?_
                refine w_a f_267_35 ?_
                refine w_a f_267_45 ?_
                refine w_a f_267_47 ?_
                refine w_a (ls := [(4, .int r), (0, .ref 58)]) f_266_68 ?_
                exact h
              · refine w_a f_267_34 ?_
                refine w_a f_267_35 ?_
                refine w_a f_267_38 ?_
                refine w_a f_267_40 ?_
                refine w_a f_267_41 ?_
                refine w_a f_267_42 ?_
                refine w_a f_267_47 ?_
                refine w_a (ls := [(4, .int r), (0, .ref 58)]) f_266_68 ?_
                exact h
            · refine w_a f_267_23 ?_
              refine w_a f_267_24 ?_
              refine w_a f_267_25 ?_
              refine w_a f_267_26 ?_
              refine i_m (fun h => ?_) (fun h => ?_) h
              · refine w_a f_267_30 ?_
                refine w_a f_267_31 ?_
                refine w_a f_267_35 ?_
                refine w_a f_267_38 ?_
                refine w_a f_267_40 ?_
                refine w_a f_267_41 ?_
                refine w_a f_267_42 ?_
                refine w_a f_267_47 ?_
                refine w_a (ls := [(4, .int r), (0, .ref 58)]) f_266_68 ?_
                exact h
              · refine w_a f_267_34 ?_
                refine w_a f_267_35 ?_
                refine w_a f_267_45 ?_
                refine w_a f_267_47 ?_
                refine w_a (ls := [(4, .int r), (0, .ref 58)]) f_266_68 ?_
                exact h
        · refine w_a f_266_69 ?_
          refine w_a f_266_70 ?_
          refine w_a f_266_73 ?_
          refine w_a f_266_74 ?_
          refine i_m (fun h => ?_) (fun h => ?_) h
          · refine w_a f_266_78 ?_
            refine w_a f_266_80 ?_
            refine w_a f_266_81 ?_
            refine w_a f_266_86 ?_
            refine w_a (ls := [(5, .int (-r)), (4, .int r), (0, .ref 58)]) f_266_88 ?_
            refine w_a f_266_89 ?_
            refine w_a f_266_92 ?_
            refine w_a f_266_93 ?_
            refine i_m (fun h => ?_) (fun h => ?_) h
            · refine w_a f_266_97 ?_
              refine w_a f_266_100 ?_
              refine w_a f_266_101 ?_
              refine w_a f_266_104 ?_
              refine w_a f_266_105 ?_
              refine w_a f_266_116 ?_
              refine w_a (ls := [(6, .long ((Int64.ofInt (-1000)) * (L 58 17))), (5, .int (-r)), (4, .int r), (0, .ref 58)]) f_266_118 ?_
              refine w_a f_266_121 ?_
              refine w_a f_266_122 ?_
              refine w_a f_266_125 ?_
              refine w_a f_266_126 ?_
              refine w_a (ls := [(8, .long ((Int64.ofInt 1000000) * (L 58 18))), (6, .long ((Int64.ofInt (-1000)) * (L 58 17))), (5, .int (-r)), (4, .int r), (0, .ref 58)]) f_266_128 ?_
              exact w_c (ks := [0, 5, 6, 8]) f_266_130 rfl rfl h
            · refine w_a f_266_108 ?_
              refine w_a f_266_111 ?_
              refine w_a f_266_112 ?_
              refine w_a f_266_115 ?_
              refine w_a f_266_116 ?_
              refine w_a (ls := [(6, .long ((Int64.ofInt 1000) * (L 58 17))), (5, .int (-r)), (4, .int r), (0, .ref 58)]) f_266_118 ?_
              refine w_a f_266_121 ?_
              refine w_a f_266_122 ?_
              refine w_a f_266_125 ?_
              refine w_a f_266_126 ?_
              refine w_a (ls := [(8, .long ((Int64.ofInt 1000000) * (L 58 18))), (6, .long ((Int64.ofInt 1000) * (L 58 17))), (5, .int (-r)), (4, .int r), (0, .ref 58)]) f_266_128 ?_
              exact w_c (ks := [0, 5, 6, 8]) f_266_130 rfl rfl h
          · refine w_a f_266_84 ?_
            refine w_a f_266_86 ?_
            refine w_a (ls := [(5, .int r), (4, .int r), (0, .ref 58)]) f_266_88 ?_
            refine w_a f_266_89 ?_
            refine w_a f_266_92 ?_
            refine w_a f_266_93 ?_
            refine i_m (fun h => ?_) (fun h => ?_) h
            · refine w_a f_266_97 ?_
              refine w_a f_266_100 ?_
              refine w_a f_266_101 ?_
              refine w_a f_266_104 ?_
              refine w_a f_266_105 ?_
              refine w_a f_266_116 ?_
              refine w_a (ls := [(6, .long ((Int64.ofInt (-1000)) * (L 58 17))), (5, .int r), (4, .int r), (0, .ref 58)]) f_266_118 ?_
              refine w_a f_266_121 ?_
              refine w_a f_266_122 ?_
              refine w_a f_266_125 ?_
              refine w_a f_266_126 ?_
              refine w_a (ls := [(8, .long ((Int64.ofInt 1000000) * (L 58 18))), (6, .long ((Int64.ofInt (-1000)) * (L 58 17))), (5, .int r), (4, .int r), (0, .ref 58)]) f_266_128 ?_
              exact w_c (ks := [0, 5, 6, 8]) f_266_130 rfl rfl h
            · refine w_a f_266_108 ?_
              refine w_a f_266_111 ?_
              refine w_a f_266_112 ?_
              refine w_a f_266_115 ?_
              refine w_a f_266_116 ?_
              refine w_a (ls := [(6, .long ((Int64.ofInt 1000) * (L 58 17))), (5, .int r), (4, .int r), (0, .ref 58)]) f_266_118 ?_
              refine w_a f_266_121 ?_
              refine w_a f_266_122 ?_
              refine w_a f_266_125 ?_
              refine w_a f_266_126 ?_
              refine w_a (ls := [(8, .long ((Int64.ofInt 1000000) * (L 58 18))), (6, .long ((Int64.ofInt 1000) * (L 58 17))), (5, .int r), (4, .int r), (0, .ref 58)]) f_266_128 ?_
              exact w_c (ks := [0, 5, 6, 8]) f_266_130 rfl rfl h
    · refine w_a f_265_17 ?_
      refine w_a f_265_18 ?_
      refine w_a f_265_19 ?_
      refine w_a f_265_22 ?_
      refine w_a f_265_23 ?_
      refine i_m (fun h => ?_) (fun h => ?_) h
      · refine w_a f_265_27 ?_
        refine w_a f_265_28 ?_
        refine w_a f_265_32 ?_
        refine w_a f_265_39 ?_
        refine w_a f_265_40 ?_
        refine w_a (ls := [(4, .int r), (0, .ref 58)]) f_266_33 ?_
        refine w_a f_266_40 ?_
        refine w_a f_266_41 ?_
        refine w_a f_266_44 ?_
        refine w_a f_266_45 ?_
        refine i_m (fun h => ?_) (fun h => ?_) h
        · refine w_a f_266_49 ?_
          refine w_a f_266_52 ?_
          refine w_a f_266_53 ?_
          refine w_a f_266_56 ?_
          refine w_a f_266_57 ?_
          refine w_a f_266_60 ?_
          refine w_a f_266_61 ?_
          refine w_a f_266_64 ?_
          refine w_a f_266_65 ?_
          refine w_a (ls := [(0, .long ((Int64.ofInt 1000) * (L 58 20))), (2, .long ((Int64.ofInt 2) * (L 58 17)))]) f_267_0 ?_
          refine w_a f_267_1 ?_
          refine w_a f_267_2 ?_
          refine i_m id (fun h => ?_) h
          refine w_a f_267_3 ?_
          refine w_a (ls := [(4, .long (((Int64.ofInt 1000) * (L 58 20)) / ((Int64.ofInt 2) * (L 58 17)))), (0, .long ((Int64.ofInt 1000) * (L 58 20))), (2, .long ((Int64.ofInt 2) * (L 58 17)))]) f_267_5 ?_
          refine w_a f_267_6 ?_
          refine w_a f_267_7 ?_
          refine i_m id (fun h => ?_) h
          refine w_a f_267_8 ?_
          refine w_a f_267_9 ?_
          refine i_m (fun h => ?_) (fun h => ?_) h
          · refine w_a f_267_45 ?_
            refine w_a f_267_47 ?_
            refine w_a (ls := [(4, .int r), (0, .ref 58)]) f_266_68 ?_
            exact h
          · refine w_a f_267_13 ?_
            refine w_a f_267_14 ?_
            refine w_a f_267_15 ?_
            refine i_m (fun h => ?_) (fun h => ?_) h
            · refine w_a f_267_19 ?_
              refine w_a f_267_20 ?_
              refine w_a f_267_24 ?_
              refine w_a f_267_25 ?_
              refine w_a f_267_26 ?_
              refine i_m (fun h => ?_) (fun h => ?_) h
              · refine w_a f_267_30 ?_
                refine w_a f_267_31 ?_
                refine w_a f_267_35 ?_
                refine w_a f_267_45 ?_
                refine w_a f_267_47 ?_
                refine w_a (ls := [(4, .int r), (0, .ref 58)]) f_266_68 ?_
                exact h
              · refine w_a f_267_34 ?_
                refine w_a f_267_35 ?_
                refine w_a f_267_38 ?_
                refine w_a f_267_40 ?_
                refine w_a f_267_41 ?_
                refine w_a f_267_42 ?_
                refine w_a f_267_47 ?_
                refine w_a (ls := [(4, .int r), (0, .ref 58)]) f_266_68 ?_
                exact h
            · refine w_a f_267_23 ?_
              refine w_a f_267_24 ?_
              refine w_a f_267_25 ?_
              refine w_a f_267_26 ?_
              refine i_m (fun h => ?_) (fun h => ?_) h
              · refine w_a f_267_30 ?_
                refine w_a f_267_31 ?_
                refine w_a f_267_35 ?_
                refine w_a f_267_38 ?_
                refine w_a f_267_40 ?_
                refine w_a f_267_41 ?_
                refine w_a f_267_42 ?_
                refine w_a f_267_47 ?_
                refine w_a (ls := [(4, .int r), (0, .ref 58)]) f_266_68 ?_
                exact h
              · refine w_a f_267_34 ?_
                refine w_a f_267_35 ?_
                refine w_a f_267_45 ?_
                refine w_a f_267_47 ?_
                refine w_a (ls := [(4, .int r), (0, .ref 58)]) f_266_68 ?_
                exact h
        · refine w_a f_266_69 ?_
          refine w_a f_266_70 ?_
          refine w_a f_266_73 ?_
          refine w_a f_266_74 ?_
          refine i_m (fun h => ?_) (fun h => ?_) h
          · refine w_a f_266_78 ?_
            refine w_a f_266_80 ?_
            refine w_a f_266_81 ?_
            refine w_a f_266_86 ?_
            refine w_a (ls := [(5, .int (-r)), (4, .int r), (0, .ref 58)]) f_266_88 ?_
            refine w_a f_266_89 ?_
            refine w_a f_266_92 ?_
            refine w_a f_266_93 ?_
            refine i_m (fun h => ?_) (fun h => ?_) h
            · refine w_a f_266_97 ?_
              refine w_a f_266_100 ?_
              refine w_a f_266_101 ?_
              refine w_a f_266_104 ?_
              refine w_a f_266_105 ?_
              refine w_a f_266_116 ?_
              refine w_a (ls := [(6, .long ((Int64.ofInt (-1000)) * (L 58 17))), (5, .int (-r)), (4, .int r), (0, .ref 58)]) f_266_118 ?_
              refine w_a f_266_121 ?_
              refine w_a f_266_122 ?_
              refine w_a f_266_125 ?_
              refine w_a f_266_126 ?_
              refine w_a (ls := [(8, .long ((Int64.ofInt 1000000) * (L 58 18))), (6, .long ((Int64.ofInt (-1000)) * (L 58 17))), (5, .int (-r)), (4, .int r), (0, .ref 58)]) f_266_128 ?_
              exact w_c (ks := [0, 5, 6, 8]) f_266_130 rfl rfl h
            · refine w_a f_266_108 ?_
              refine w_a f_266_111 ?_
              refine w_a f_266_112 ?_
              refine w_a f_266_115 ?_
              refine w_a f_266_116 ?_
              refine w_a (ls := [(6, .long ((Int64.ofInt 1000) * (L 58 17))), (5, .int (-r)), (4, .int r), (0, .ref 58)]) f_266_118 ?_
              refine w_a f_266_121 ?_
              refine w_a f_266_122 ?_
              refine w_a f_266_125 ?_
              refine w_a f_266_126 ?_
              refine w_a (ls := [(8, .long ((Int64.ofInt 1000000) * (L 58 18))), (6, .long ((Int64.ofInt 1000) * (L 58 17))), (5, .int (-r)), (4, .int r), (0, .ref 58)]) f_266_128 ?_
              exact w_c (ks := [0, 5, 6, 8]) f_266_130 rfl rfl h
          · refine w_a f_266_84 ?_
            refine w_a f_266_86 ?_
            refine w_a (ls := [(5, .int r), (4, .int r), (0, .ref 58)]) f_266_88 ?_
            refine w_a f_266_89 ?_
            refine w_a f_266_92 ?_
            refine w_a f_266_93 ?_
            refine i_m (fun h => ?_) (fun h => ?_) h
            · refine w_a f_266_97 ?_
              refine w_a f_266_100 ?_
              refine w_a f_266_101 ?_
              refine w_a f_266_104 ?_
              refine w_a f_266_105 ?_
              refine w_a f_266_116 ?_
              refine w_a (ls := [(6, .long ((Int64.ofInt (-1000)) * (L 58 17))), (5, .int r), (4, .int r), (0, .ref 58)]) f_266_118 ?_
              refine w_a f_266_121 ?_
              refine w_a f_266_122 ?_
              refine w_a f_266_125 ?_
              refine w_a f_266_126 ?_
              refine w_a (ls := [(8, .long ((Int64.ofInt 1000000) * (L 58 18))), (6, .long ((Int64.ofInt (-1000)) * (L 58 17))), (5, .int r), (4, .int r), (0, .ref 58)]) f_266_128 ?_
              exact w_c (ks := [0, 5, 6, 8]) f_266_130 rfl rfl h
            · refine w_a f_266_108 ?_
              refine w_a f_266_111 ?_
              refine w_a f_266_112 ?_
              refine w_a f_266_115 ?_
              refine w_a f_266_116 ?_
              refine w_a (ls := [(6, .long ((Int64.ofInt 1000) * (L 58 17))), (5, .int r), (4, .int r), (0, .ref 58)]) f_266_118 ?_
              refine w_a f_266_121 ?_
              refine w_a f_266_122 ?_
              refine w_a f_266_125 ?_
              refine w_a f_266_126 ?_
              refine w_a (ls := [(8, .long ((Int64.ofInt 1000000) * (L 58 18))), (6, .long ((Int64.ofInt 1000) * (L 58 17))), (5, .int r), (4, .int r), (0, .ref 58)]) f_266_128 ?_
              exact w_c (ks := [0, 5, 6, 8]) f_266_130 rfl rfl h
      · refine w_a f_265_31 ?_
        refine w_a f_265_32 ?_
        refine w_a f_265_35 ?_
        refine w_a f_265_36 ?_
        refine w_a f_265_40 ?_
        refine w_a (ls := [(4, .int r), (0, .ref 58)]) f_266_33 ?_
        refine w_a f_266_36 ?_
        refine w_a f_266_39 ?_
        exact h
  · refine w_a f_265_39 ?_
    refine w_a f_265_40 ?_
    refine w_a (ls := [(4, .int r), (0, .ref 58)]) f_266_33 ?_
    refine w_a f_266_40 ?_
    refine w_a f_266_41 ?_
    refine w_a f_266_44 ?_
    refine w_a f_266_45 ?_
    refine i_m (fun h => ?_) (fun h => ?_) h
    · refine w_a f_266_49 ?_
      refine w_a f_266_52 ?_
      refine w_a f_266_53 ?_
      refine w_a f_266_56 ?_
      refine w_a f_266_57 ?_
      refine w_a f_266_60 ?_
      refine w_a f_266_61 ?_
      refine w_a f_266_64 ?_
      refine w_a f_266_65 ?_
      refine w_a (ls := [(0, .long ((Int64.ofInt 1000) * (L 58 20))), (2, .long ((Int64.ofInt 2) * (L 58 17)))]) f_267_0 ?_
      refine w_a f_267_1 ?_
      refine w_a f_267_2 ?_
      refine i_m id (fun h => ?_) h
      refine w_a f_267_3 ?_
      refine w_a (ls := [(4, .long (((Int64.ofInt 1000) * (L 58 20)) / ((Int64.ofInt 2) * (L 58 17)))), (0, .long ((Int64.ofInt 1000) * (L 58 20))), (2, .long ((Int64.ofInt 2) * (L 58 17)))]) f_267_5 ?_
      refine w_a f_267_6 ?_
      refine w_a f_267_7 ?_
      refine i_m id (fun h => ?_) h
      refine w_a f_267_8 ?_
      refine w_a f_267_9 ?_
      refine i_m (fun h => ?_) (fun h => ?_) h
      · refine w_a f_267_45 ?_
        refine w_a f_267_47 ?_
        refine w_a (ls := [(4, .int r), (0, .ref 58)]) f_266_68 ?_
        exact h
      · refine w_a f_267_13 ?_
        refine w_a f_267_14 ?_
        refine w_a f_267_15 ?_
        refine i_m (fun h => ?_) (fun h => ?_) h
        · refine w_a f_267_19 ?_
          refine w_a f_267_20 ?_
          refine w_a f_267_24 ?_
          refine w_a f_267_25 ?_
          refine w_a f_267_26 ?_
          refine i_m (fun h => ?_) (fun h => ?_) h
          · refine w_a f_267_30 ?_
            refine w_a f_267_31 ?_
            refine w_a f_267_35 ?_
            refine w_a f_267_45 ?_
            refine w_a f_267_47 ?_
            refine w_a (ls := [(4, .int r), (0, .ref 58)]) f_266_68 ?_
            exact h
          · refine w_a f_267_34 ?_
            refine w_a f_267_35 ?_
            refine w_a f_267_38 ?_
            refine w_a f_267_40 ?_
            refine w_a f_267_41 ?_
            refine w_a f_267_42 ?_
            refine w_a f_267_47 ?_
            refine w_a (ls := [(4, .int r), (0, .ref 58)]) f_266_68 ?_
            exact h
        · refine w_a f_267_23 ?_
          refine w_a f_267_24 ?_
          refine w_a f_267_25 ?_
          refine w_a f_267_26 ?_
          refine i_m (fun h => ?_) (fun h => ?_) h
          · refine w_a f_267_30 ?_
            refine w_a f_267_31 ?_
            refine w_a f_267_35 ?_
            refine w_a f_267_38 ?_
            refine w_a f_267_40 ?_
            refine w_a f_267_41 ?_
            refine w_a f_267_42 ?_
            refine w_a f_267_47 ?_
            refine w_a (ls := [(4, .int r), (0, .ref 58)]) f_266_68 ?_
            exact h
          · refine w_a f_267_34 ?_
            refine w_a f_267_35 ?_
            refine w_a f_267_45 ?_
            refine w_a f_267_47 ?_
            refine w_a (ls := [(4, .int r), (0, .ref 58)]) f_266_68 ?_
            exact h
    · refine w_a f_266_69 ?_
      refine w_a f_266_70 ?_
      refine w_a f_266_73 ?_
      refine w_a f_266_74 ?_
      refine i_m (fun h => ?_) (fun h => ?_) h
      · refine w_a f_266_78 ?_
        refine w_a f_266_80 ?_
        refine w_a f_266_81 ?_
        refine w_a f_266_86 ?_
        refine w_a (ls := [(5, .int (-r)), (4, .int r), (0, .ref 58)]) f_266_88 ?_
        refine w_a f_266_89 ?_
        refine w_a f_266_92 ?_
        refine w_a f_266_93 ?_
        refine i_m (fun h => ?_) (fun h => ?_) h
        · refine w_a f_266_97 ?_
          refine w_a f_266_100 ?_
          refine w_a f_266_101 ?_
          refine w_a f_266_104 ?_
          refine w_a f_266_105 ?_
          refine w_a f_266_116 ?_
          refine w_a (ls := [(6, .long ((Int64.ofInt (-1000)) * (L 58 17))), (5, .int (-r)), (4, .int r), (0, .ref 58)]) f_266_118 ?_
          refine w_a f_266_121 ?_
          refine w_a f_266_122 ?_
          refine w_a f_266_125 ?_
          refine w_a f_266_126 ?_
          refine w_a (ls := [(8, .long ((Int64.ofInt 1000000) * (L 58 18))), (6, .long ((Int64.ofInt (-1000)) * (L 58 17))), (5, .int (-r)), (4, .int r), (0, .ref 58)]) f_266_128 ?_
          exact w_c (ks := [0, 5, 6, 8]) f_266_130 rfl rfl h
        · refine w_a f_266_108 ?_
          refine w_a f_266_111 ?_
          refine w_a f_266_112 ?_
          refine w_a f_266_115 ?_
          refine w_a f_266_116 ?_
          refine w_a (ls := [(6, .long ((Int64.ofInt 1000) * (L 58 17))), (5, .int (-r)), (4, .int r), (0, .ref 58)]) f_266_118 ?_
          refine w_a f_266_121 ?_
          refine w_a f_266_122 ?_
          refine w_a f_266_125 ?_
          refine w_a f_266_126 ?_
          refine w_a (ls := [(8, .long ((Int64.ofInt 1000000) * (L 58 18))), (6, .long ((Int64.ofInt 1000) * (L 58 17))), (5, .int (-r)), (4, .int r), (0, .ref 58)]) f_266_128 ?_
          exact w_c (ks := [0, 5, 6, 8]) f_266_130 rfl rfl h
      · refine w_a f_266_84 ?_
        refine w_a f_266_86 ?_
        refine w_a (ls := [(5, .int r), (4, .int r), (0, .ref 58)]) f_266_88 ?_
        refine w_a f_266_89 ?_
        refine w_a f_266_92 ?_
        refine w_a f_266_93 ?_
        refine i_m (fun h => ?_) (fun h => ?_) h
        · refine w_a f_266_97 ?_
          refine w_a f_266_100 ?_
          refine w_a f_266_101 ?_
          refine w_a f_266_104 ?_
          refine w_a f_266_105 ?_
          refine w_a f_266_116 ?_
          refine w_a (ls := [(6, .long ((Int64.ofInt (-1000)) * (L 58 17))), (5, .int r), (4, .int r), (0, .ref 58)]) f_266_118 ?_
          refine w_a f_266_121 ?_
          refine w_a f_266_122 ?_
          refine w_a f_266_125 ?_
          refine w_a f_266_126 ?_
          refine w_a (ls := [(8, .long ((Int64.ofInt 1000000) * (L 58 18))), (6, .long ((Int64.ofInt (-1000)) * (L 58 17))), (5, .int r), (4, .int r), (0, .ref 58)]) f_266_128 ?_
          exact w_c (ks := [0, 5, 6, 8]) f_266_130 rfl rfl h
        · refine w_a f_266_108 ?_
          refine w_a f_266_111 ?_
          refine w_a f_266_112 ?_
          refine w_a f_266_115 ?_
          refine w_a f_266_116 ?_
          refine w_a (ls := [(6, .long ((Int64.ofInt 1000) * (L 58 17))), (5, .int r), (4, .int r), (0, .ref 58)]) f_266_118 ?_
          refine w_a f_266_121 ?_
          refine w_a f_266_122 ?_
          refine w_a f_266_125 ?_
          refine w_a f_266_126 ?_
          refine w_a (ls := [(8, .long ((Int64.ofInt 1000000) * (L 58 18))), (6, .long ((Int64.ofInt 1000) * (L 58 17))), (5, .int r), (4, .int r), (0, .ref 58)]) f_266_128 ?_
          exact w_c (ks := [0, 5, 6, 8]) f_266_130 rfl rfl h
set_option maxRecDepth 10000 in
set_option maxHeartbeats 4000000 in
theorem s_266_133 {Lx : Nat} {I : Mi} {L : Ml} {e : Nat} {Q : Kq} {x5 : Int32} {y6 : Int64} {y8 : Int64} {rl : Int64} (h :
    (if (rl * rl) = y8 then
     (if 0 < x5 then
      Wp 210 0 [(0, .long (L 58 19))] [] (gE Lx) I L e (kcp (Wp 266) 266 186 0 [(0, .ref 58)] 71 [.long (y6 + rl)] Q)
     else
      Wp 210 0 [(0, .long (L 58 19))] [] (gE Lx) I L e (kcp (Wp 266) 266 186 0 [(0, .ref 58)] 71 [.long (y6 + (-rl))] Q))
    else
     (if 0 < x5 then
      Wp 210 0 [(0, .long (L 58 19))] [] (gE Lx) I L e (kcp (Wp 266) 266 186 0 [(0, .ref 58)] 71 [.long (y6 + rl)] Q)
     else
      Wp 210 0 [(0, .long (L 58 19))] [] (gE Lx) I L e (kcp (Wp 266) 266 186 0 [(0, .ref 58)] 71 [.long (y6 + ((-rl) - (Int64.ofInt 1)))] Q)))) :
    Wp 266 133 [(0, .ref 58), (5, .int x5), (6, .long y6), (8, .long y8)] [.long rl] (gE Lx) I L e Q := by
  refine w_a f_266_133 ?_
  refine w_a (ls := [(10, .long rl), (0, .ref 58), (5, .int x5), (6, .long y6), (8, .long y8)]) f_266_135 ?_
  refine w_a f_266_137 ?_
  refine w_a f_266_139 ?_
  refine w_a f_266_140 ?_
  refine w_a f_266_142 ?_
  refine i_m (fun h => ?_) (fun h => ?_) h
  · refine w_a f_266_146 ?_
    refine w_a f_266_147 ?_
    refine w_a f_266_151 ?_
    refine w_a (ls := [(12, .int (Int32.ofInt 1)), (10, .long rl), (0, .ref 58), (5, .int x5), (6, .long y6), (8, .long y8)]) f_266_153 ?_
    refine w_a f_266_155 ?_
    refine w_a f_266_157 ?_
    refine i_m (fun h => ?_) (fun h => ?_) h
    · refine w_a f_266_160 ?_
      refine w_a f_266_162 ?_
      refine w_a f_266_181 ?_
      refine w_a f_266_182 ?_
      refine w_a f_266_183 ?_
      exact w_c (ks := [0]) f_266_186 rfl rfl h
    · refine w_a f_266_165 ?_
      refine w_a f_266_167 ?_
      refine w_a f_266_170 ?_
      refine w_a f_266_172 ?_
      refine w_a f_266_173 ?_
      refine w_a f_266_181 ?_
      refine w_a f_266_182 ?_
      refine w_a f_266_183 ?_
      exact w_c (ks := [0]) f_266_186 rfl rfl h
  · refine w_a f_266_150 ?_
    refine w_a f_266_151 ?_
    refine w_a (ls := [(12, .int (Int32.ofInt 0)), (10, .long rl), (0, .ref 58), (5, .int x5), (6, .long y6), (8, .long y8)]) f_266_153 ?_
    refine w_a f_266_155 ?_
    refine w_a f_266_157 ?_
    refine i_m (fun h => ?_) (fun h => ?_) h
    · refine w_a f_266_160 ?_
      refine w_a f_266_162 ?_
      refine w_a f_266_181 ?_
      refine w_a f_266_182 ?_
      refine w_a f_266_183 ?_
      exact w_c (ks := [0]) f_266_186 rfl rfl h
    · refine w_a f_266_165 ?_
      refine w_a f_266_167 ?_
      refine w_a f_266_176 ?_
      refine w_a f_266_178 ?_
      refine w_a f_266_179 ?_
      refine w_a f_266_180 ?_
      refine w_a f_266_181 ?_
      refine w_a f_266_182 ?_
      refine w_a f_266_183 ?_
      exact w_c (ks := [0]) f_266_186 rfl rfl h
set_option maxRecDepth 10000 in
set_option maxHeartbeats 4000000 in
theorem s_266_189 {Lx : Nat} {I : Mi} {L : Ml} {e : Nat} {Q : Kq} {rl0 : Int64} {rl : Int64} (h :
    (if rl = 0 then False else
     (if rl = 0 then False else
      (if (rl0 - rl0 / rl * rl) = (Int64.ofInt 0) then
       Q (.inl (some (.long (rl0 / rl)))) (gE Lx) I L e
      else
       (if rl0 < (Int64.ofInt 0) then
        (if rl < (Int64.ofInt 0) then
         Q (.inl (some (.long (rl0 / rl)))) (gE Lx) I L e
        else
         Q (.inl (some (.long ((rl0 / rl) - (Int64.ofInt 1))))) (gE Lx) I L e)
       else
        (if rl < (Int64.ofInt 0) then
         Q (.inl (some (.long ((rl0 / rl) - (Int64.ofInt 1))))) (gE Lx) I L e
        else
         Q (.inl (some (.long (rl0 / rl)))) (gE Lx) I L e)))))) :
    Wp 266 189 [(0, .ref 58)] [.long rl, .long rl0] (gE Lx) I L e Q := by
  refine w_a f_266_189 ?_
  refine w_a (ls := [(0, .long rl0), (2, .long rl)]) f_267_0 ?_
  refine w_a f_267_1 ?_
  refine w_a f_267_2 ?_
  refine i_m id (fun h => ?_) h
  refine w_a f_267_3 ?_
  refine w_a (ls := [(4, .long (rl0 / rl)), (0, .long rl0), (2, .long rl)]) f_267_5 ?_
  refine w_a f_267_6 ?_
  refine w_a f_267_7 ?_
  refine i_m id (fun h => ?_) h
  refine w_a f_267_8 ?_
  refine w_a f_267_9 ?_
  refine i_m (fun h => ?_) (fun h => ?_) h
  · refine w_a f_267_45 ?_
    refine w_a f_267_47 ?_
    refine w_a (ls := [(0, .ref 58)]) f_266_192 ?_
    exact h
  · refine w_a f_267_13 ?_
    refine w_a f_267_14 ?_
    refine w_a f_267_15 ?_
    refine i_m (fun h => ?_) (fun h => ?_) h
    · refine w_a f_267_19 ?_
      refine w_a f_267_20 ?_
      refine w_a f_267_24 ?_
      refine w_a f_267_25 ?_
      refine w_a f_267_26 ?_
      refine i_m (fun h => ?_) (fun h => ?_) h
      · refine w_a f_267_30 ?_
        refine w_a f_267_31 ?_
        refine w_a f_267_35 ?_
        refine w_a f_267_45 ?_
        refine w_a f_267_47 ?_
        refine w_a (ls := [(0, .ref 58)]) f_266_192 ?_
        exact h
      · refine w_a f_267_34 ?_
        refine w_a f_267_35 ?_
        refine w_a f_267_38 ?_
        refine w_a f_267_40 ?_
        refine w_a f_267_41 ?_
        refine w_a f_267_42 ?_
        refine w_a f_267_47 ?_
        refine w_a (ls := [(0, .ref 58)]) f_266_192 ?_
        exact h
    · refine w_a f_267_23 ?_
      refine w_a f_267_24 ?_
      refine w_a f_267_25 ?_
      refine w_a f_267_26 ?_
      refine i_m (fun h => ?_) (fun h => ?_) h
      · refine w_a f_267_30 ?_
        refine w_a f_267_31 ?_
        refine w_a f_267_35 ?_
        refine w_a f_267_38 ?_
        refine w_a f_267_40 ?_
        refine w_a f_267_41 ?_
        refine w_a f_267_42 ?_
        refine w_a f_267_47 ?_
        refine w_a (ls := [(0, .ref 58)]) f_266_192 ?_
        exact h
      · refine w_a f_267_34 ?_
        refine w_a f_267_35 ?_
        refine w_a f_267_45 ?_
        refine w_a f_267_47 ?_
        refine w_a (ls := [(0, .ref 58)]) f_266_192 ?_
        exact h
set_option maxRecDepth 10000 in
set_option maxHeartbeats 4000000 in
theorem s_268_8 {Lx : Nat} {I : Mi} {L : Ml} {e : Nat} {Q : Kq} {x3 : Int32} {x4 : Int32} {r : Int32} (h :
    (if 0 < r then
     Q (.inl (some (.long (Int64.ofInt 0)))) (gE Lx) (ui I 58 0 r) L e
    else
     Wp 260 0 [(0, .ref 58), (1, .int x3)] [] (gE Lx) (ui I 58 0 r) L e (kcp (Wp 268) 268 23 0 [(0, .ref 58), (4, .int x4)] 71 [.ref 58] Q))) :
    Wp 268 8 [(0, .ref 58), (3, .int x3), (4, .int x4)] [.int r, .ref 58] (gE Lx) I L e Q := by
  refine w_a f_268_8 ?_
  refine w_a f_268_11 ?_
  refine w_a f_268_12 ?_
  refine w_a f_268_15 ?_
  refine i_m (fun h => ?_) (fun h => ?_) h
  · refine w_a f_268_18 ?_
    refine w_a f_268_19 ?_
    exact h
  · refine w_a f_268_20 ?_
    refine w_a f_268_21 ?_
    refine w_a f_268_22 ?_
    exact w_c (ks := [0, 4]) f_268_23 rfl rfl h
set_option maxRecDepth 10000 in
set_option maxHeartbeats 4000000 in
theorem s_268_26 {Lx : Nat} {I : Mi} {L : Ml} {e : Nat} {Q : Kq} {x4 : Int32} {r : Int32} (h :
    Wp 243 0 [(0, .long (L 58 18))] [] (gE Lx) I L e (kcp (Wp 268) 268 31 0 [(0, .ref 58), (4, .int x4)] 71 [.long r.toInt64, .ref 58] Q)) :
    Wp 268 26 [(0, .ref 58), (4, .int x4)] [.int r, .ref 58] (gE Lx) I L e Q := by
  refine w_a f_268_26 ?_
  refine w_a f_268_27 ?_
  refine w_a f_268_28 ?_
  exact w_c (ks := [0, 4]) f_268_31 rfl rfl h
set_option maxRecDepth 10000 in
set_option maxHeartbeats 4000000 in
theorem s_268_34 {Lx : Nat} {I : Mi} {L : Ml} {e : Nat} {Q : Kq} {x4 : Int32} {rl1 : Int64} {rl : Int64} (h :
    Wp 236 0 [(0, .ref 58), (1, .long (rl1 * rl)), (3, .long ((L 58 14) * (L 58 16)))] [] (gE Lx) I L e (kcp (Wp 268) 268 44 0 [(0, .ref 58), (4, .int x4)] 71 [] Q)) :
    Wp 268 34 [(0, .ref 58), (4, .int x4)] [.long rl, .long rl1, .ref 58] (gE Lx) I L e Q := by
  refine w_a f_268_34 ?_
  refine w_a f_268_35 ?_
  refine w_a f_268_36 ?_
  refine w_a f_268_39 ?_
  refine w_a f_268_40 ?_
  refine w_a f_268_43 ?_
  exact w_c (ks := [0, 4]) f_268_44 rfl rfl h
set_option maxRecDepth 10000 in
set_option maxHeartbeats 4000000 in
theorem s_268_47 {Lx : Nat} {I : Mi} {L : Ml} {e : Nat} {Q : Kq} {x4 : Int32} (h :
    (if x4 = 0 then
     Q (.inl (some (.long (L 58 8)))) (gE Lx) I L e
    else
     Q (.inl (some (.long (L 58 9)))) (gE Lx) I L e)) :
    Wp 268 47 [(0, .ref 58), (4, .int x4)] [] (gE Lx) I L e Q := by
  refine w_a f_268_47 ?_
  refine w_a f_268_48 ?_
  refine w_a f_268_50 ?_
  refine w_a (ls := [(0, .ref 58), (1, .int x4)]) f_237_0 ?_
  refine w_a f_237_1 ?_
  refine i_m (fun h => ?_) (fun h => ?_) h
  · refine w_a f_237_11 ?_
    refine w_a f_237_12 ?_
    refine w_a f_237_15 ?_
    refine w_a (ls := [(0, .ref 58), (4, .int x4)]) f_268_53 ?_
    exact h
  · refine w_a f_237_4 ?_
    refine w_a f_237_5 ?_
    refine w_a f_237_8 ?_
    refine w_a f_237_15 ?_
    refine w_a (ls := [(0, .ref 58), (4, .int x4)]) f_268_53 ?_
    exact h
set_option maxRecDepth 10000 in
set_option maxHeartbeats 4000000 in
theorem s_269_18 {Lx : Nat} {I : Mi} {L : Ml} {e : Nat} {Q : Kq} {x3 : Int32} {r : Int32} (h :
    (if r = 0 then
     Q (.inl (some (.long (Int64.ofInt 0)))) (gE Lx) (ui I 58 0 (Int32.ofInt 2)) L e
    else
     (if (Int64.ofInt 0) < (L 58 14) then
      (if (L 58 14) = (L 58 16) then
       (if (L 58 15) = (Int64.ofInt 0) then
        Q (.inl (some (.long (Int64.ofInt 0)))) (gE Lx) (ui I 58 0 (Int32.ofInt 2)) L e
       else
        Wp 236 0 [(0, .ref 58), (1, .long ((((L 58 14) - (L 58 16)) * ((L 58 14) - (L 58 16))) + ((L 58 15) * (L 58 15)))), (3, .long ((L 58 14) * (L 58 16)))] [] (gE Lx) (ui I 58 0 (Int32.ofInt 0)) L e (kcp (Wp 269) 269 71 0 [(0, .ref 58), (3, .int x3)] 71 [] Q))
      else
       Wp 236 0 [(0, .ref 58), (1, .long ((((L 58 14) - (L 58 16)) * ((L 58 14) - (L 58 16))) + ((L 58 15) * (L 58 15)))), (3, .long ((L 58 14) * (L 58 16)))] [] (gE Lx) (ui I 58 0 (Int32.ofInt 0)) L e (kcp (Wp 269) 269 71 0 [(0, .ref 58), (3, .int x3)] 71 [] Q))
     else
      Q (.inl (some (.long (Int64.ofInt 0)))) (gE Lx) (ui I 58 0 (Int32.ofInt 2)) L e))) :
    Wp 269 18 [(0, .ref 58), (3, .int x3)] [.int r, .ref 58] (gE Lx) I L e Q := by
  refine w_a f_269_18 ?_
  refine i_m (fun h => ?_) (fun h => ?_) h
  · refine w_a f_269_28 ?_
    refine w_a f_269_29 ?_
    refine w_a f_269_33 ?_
    refine w_a f_269_36 ?_
    refine w_a f_269_37 ?_
    refine w_a f_269_40 ?_
    refine w_a f_269_43 ?_
    refine w_a f_269_44 ?_
    exact h
  · refine w_a f_269_21 ?_
    refine w_a f_269_22 ?_
    refine w_a (ls := [(0, .ref 58)]) f_253_0 ?_
    refine w_a f_253_1 ?_
    refine w_a f_253_4 ?_
    refine w_a f_253_5 ?_
    refine i_m (fun h => ?_) (fun h => ?_) h
    · refine w_a f_253_9 ?_
      refine w_a f_253_10 ?_
      refine w_a (ls := [(0, .ref 58)]) f_254_0 ?_
      refine w_a f_254_1 ?_
      refine w_a f_254_4 ?_
      refine w_a f_254_5 ?_
      refine w_a f_254_8 ?_
      refine i_m (fun h => ?_) (fun h => ?_) h
      · refine w_a f_254_12 ?_
        refine w_a f_254_13 ?_
        refine w_a f_254_16 ?_
        refine w_a f_254_17 ?_
        refine i_m (fun h => ?_) (fun h => ?_) h
        · refine w_a f_254_21 ?_
          refine w_a f_254_22 ?_
          refine w_a f_254_26 ?_
          refine w_a (ls := [(0, .ref 58)]) f_253_13 ?_
          refine w_a f_253_20 ?_
          refine w_a f_253_21 ?_
          refine w_a (ls := [(0, .ref 58), (3, .int x3)]) f_269_25 ?_
          refine w_a f_269_28 ?_
          refine w_a f_269_29 ?_
          refine w_a f_269_33 ?_
          refine w_a f_269_36 ?_
          refine w_a f_269_37 ?_
          refine w_a f_269_40 ?_
          refine w_a f_269_43 ?_
          refine w_a f_269_44 ?_
          exact h
        · refine w_a f_254_25 ?_
          refine w_a f_254_26 ?_
          refine w_a (ls := [(0, .ref 58)]) f_253_13 ?_
          refine w_a f_253_16 ?_
          refine w_a f_253_17 ?_
          refine w_a f_253_21 ?_
          refine w_a (ls := [(0, .ref 58), (3, .int x3)]) f_269_25 ?_
          refine w_a f_269_32 ?_
          refine w_a f_269_33 ?_
          refine w_a f_269_36 ?_
          refine w_a f_269_37 ?_
          refine w_a f_269_40 ?_
          refine w_a f_269_45 ?_
          refine w_a f_269_46 ?_
          refine w_a f_269_47 ?_
          refine w_a f_269_50 ?_
          refine w_a f_269_51 ?_
          refine w_a f_269_54 ?_
          refine w_a f_269_55 ?_
          refine w_a f_269_56 ?_
          refine w_a f_269_59 ?_
          refine w_a (ls := [(0, .long ((L 58 14) - (L 58 16))), (2, .long (L 58 15))]) f_235_0 ?_
          refine w_a f_235_1 ?_
          refine w_a f_235_2 ?_
          refine w_a f_235_3 ?_
          refine w_a f_235_4 ?_
          refine w_a f_235_5 ?_
          refine w_a f_235_6 ?_
          refine w_a f_235_7 ?_
          refine w_a (ls := [(0, .ref 58), (3, .int x3)]) f_269_62 ?_
          refine w_a f_269_63 ?_
          refine w_a f_269_66 ?_
          refine w_a f_269_67 ?_
          refine w_a f_269_70 ?_
          exact w_c (ks := [0, 3]) f_269_71 rfl rfl h
      · refine w_a f_254_25 ?_
        refine w_a f_254_26 ?_
        refine w_a (ls := [(0, .ref 58)]) f_253_13 ?_
        refine w_a f_253_16 ?_
        refine w_a f_253_17 ?_
        refine w_a f_253_21 ?_
        refine w_a (ls := [(0, .ref 58), (3, .int x3)]) f_269_25 ?_
        refine w_a f_269_32 ?_
        refine w_a f_269_33 ?_
        refine w_a f_269_36 ?_
        refine w_a f_269_37 ?_
        refine w_a f_269_40 ?_
        refine w_a f_269_45 ?_
        refine w_a f_269_46 ?_
        refine w_a f_269_47 ?_
        refine w_a f_269_50 ?_
        refine w_a f_269_51 ?_
        refine w_a f_269_54 ?_
        refine w_a f_269_55 ?_
        refine w_a f_269_56 ?_
        refine w_a f_269_59 ?_
        refine w_a (ls := [(0, .long ((L 58 14) - (L 58 16))), (2, .long (L 58 15))]) f_235_0 ?_
        refine w_a f_235_1 ?_
        refine w_a f_235_2 ?_
        refine w_a f_235_3 ?_
        refine w_a f_235_4 ?_
        refine w_a f_235_5 ?_
        refine w_a f_235_6 ?_
        refine w_a f_235_7 ?_
        refine w_a (ls := [(0, .ref 58), (3, .int x3)]) f_269_62 ?_
        refine w_a f_269_63 ?_
        refine w_a f_269_66 ?_
        refine w_a f_269_67 ?_
        refine w_a f_269_70 ?_
        exact w_c (ks := [0, 3]) f_269_71 rfl rfl h
    · refine w_a f_253_20 ?_
      refine w_a f_253_21 ?_
      refine w_a (ls := [(0, .ref 58), (3, .int x3)]) f_269_25 ?_
      refine w_a f_269_28 ?_
      refine w_a f_269_29 ?_
      refine w_a f_269_33 ?_
      refine w_a f_269_36 ?_
      refine w_a f_269_37 ?_
      refine w_a f_269_40 ?_
      refine w_a f_269_43 ?_
      refine w_a f_269_44 ?_
      exact h
set_option maxRecDepth 10000 in
set_option maxHeartbeats 4000000 in
theorem s_269_74 {Lx : Nat} {I : Mi} {L : Ml} {e : Nat} {Q : Kq} {x3 : Int32} (h :
    (if x3 = 0 then
     Q (.inl (some (.long (L 58 8)))) (gE Lx) I L e
    else
     Q (.inl (some (.long (L 58 9)))) (gE Lx) I L e)) :
    Wp 269 74 [(0, .ref 58), (3, .int x3)] [] (gE Lx) I L e Q := by
  refine w_a f_269_74 ?_
  refine w_a f_269_75 ?_
  refine w_a f_269_76 ?_
  refine w_a (ls := [(0, .ref 58), (1, .int x3)]) f_237_0 ?_
  refine w_a f_237_1 ?_
  refine i_m (fun h => ?_) (fun h => ?_) h
  · refine w_a f_237_11 ?_
    refine w_a f_237_12 ?_
    refine w_a f_237_15 ?_
    refine w_a (ls := [(0, .ref 58), (3, .int x3)]) f_269_79 ?_
    exact h
  · refine w_a f_237_4 ?_
    refine w_a f_237_5 ?_
    refine w_a f_237_8 ?_
    refine w_a f_237_15 ?_
    refine w_a (ls := [(0, .ref 58), (3, .int x3)]) f_269_79 ?_
    exact h
set_option maxRecDepth 10000 in
set_option maxHeartbeats 4000000 in
theorem s_270_8 {Lx : Nat} {I : Mi} {L : Ml} {e : Nat} {Q : Kq} {x3 : Int32} {r : Int32} (h :
    (if 0 < r then
     Wp 270 27 [(0, .ref 58)] [.int (Int32.ofInt 0)] (gE Lx) (ui I 58 0 r) L e Q
    else
     Wp 260 0 [(0, .ref 58), (1, .int x3)] [] (gE Lx) (ui I 58 0 r) L e (kcp (Wp 270) 270 24 0 [(0, .ref 58)] 71 [] Q))) :
    Wp 270 8 [(0, .ref 58), (3, .int x3)] [.int r, .ref 58] (gE Lx) I L e Q := by
  refine w_a f_270_8 ?_
  refine w_a f_270_11 ?_
  refine w_a f_270_12 ?_
  refine w_a f_270_15 ?_
  refine i_m (fun h => ?_) (fun h => ?_) h
  · refine w_a f_270_18 ?_
    refine w_a f_270_19 ?_
    exact w_n (ks := [0]) rfl h
  · refine w_a f_270_22 ?_
    refine w_a f_270_23 ?_
    exact w_c (ks := [0]) f_270_24 rfl rfl h
set_option maxRecDepth 10000 in
set_option maxHeartbeats 4000000 in
theorem s_270_27 {Lx : Nat} {I : Mi} {L : Ml} {e : Nat} {Q : Kq} {r : Int32} (h :
    Q (.inl (some (.int r))) (gE Lx) I L e) :
    Wp 270 27 [(0, .ref 58)] [.int r] (gE Lx) I L e Q := by
  refine w_a f_270_27 ?_
  exact h
set_option maxRecDepth 10000 in
set_option maxHeartbeats 4000000 in
theorem s_271_11 {Lx : Nat} {I : Mi} {L : Ml} {e : Nat} {Q : Kq} {x1 : Int32} {x2 : Int32} {x3 : Int32} {r : Int32} (h :
    (if 0 < r then
     Q (.inl (some (.int (Int32.ofInt 0)))) (gE Lx) (ui I 58 0 (Int32.ofInt 1)) L e
    else
     (if (Int32.ofInt 2) < (I 59 3) then
      Q (.inl (some (.int (Int32.ofInt 0)))) (gE Lx) (ui I 58 0 (Int32.ofInt 1)) L e
     else
      Wp 260 0 [(0, .ref 58), (1, .int x2)] [] (gE Lx) (ui I 58 0 (Int32.ofInt 0)) L e (kcp (Wp 271) 271 41 0 [(0, .ref 58), (1, .int x1), (3, .int x3)] 71 [] Q)))) :
    Wp 271 11 [(0, .ref 58), (1, .int x1), (2, .int x2), (3, .int x3)] [.int r, .ref 58] (gE Lx) I L e Q := by
  refine w_a f_271_11 ?_
  refine i_m (fun h => ?_) (fun h => ?_) h
  · refine w_a f_271_22 ?_
    refine w_a f_271_23 ?_
    refine w_a f_271_27 ?_
    refine w_a f_271_30 ?_
    refine w_a f_271_31 ?_
    refine w_a f_271_34 ?_
    refine w_a f_271_37 ?_
    refine w_a f_271_38 ?_
    exact h
  · refine w_a f_271_14 ?_
    refine w_a f_271_15 ?_
    refine w_a (ls := [(0, .ref 58)]) f_215_0 ?_
    refine w_a f_215_1 ?_
    refine w_a f_215_4 ?_
    refine w_a f_215_5 ?_
    refine w_a f_215_6 ?_
    refine w_a (ls := [(0, .ref 58), (1, .int x1), (2, .int x2), (3, .int x3)]) f_271_18 ?_
    refine w_a f_271_19 ?_
    refine i_m (fun h => ?_) (fun h => ?_) h
    · refine w_a f_271_22 ?_
      refine w_a f_271_23 ?_
      refine w_a f_271_27 ?_
      refine w_a f_271_30 ?_
      refine w_a f_271_31 ?_
      refine w_a f_271_34 ?_
      refine w_a f_271_37 ?_
      refine w_a f_271_38 ?_
      exact h
    · refine w_a f_271_26 ?_
      refine w_a f_271_27 ?_
      refine w_a f_271_30 ?_
      refine w_a f_271_31 ?_
      refine w_a f_271_34 ?_
      refine w_a f_271_39 ?_
      refine w_a f_271_40 ?_
      exact w_c (ks := [0, 1, 3]) f_271_41 rfl rfl h
set_option maxRecDepth 10000 in
set_option maxHeartbeats 4000000 in
theorem s_271_44 {Lx : Nat} {I : Mi} {L : Ml} {e : Nat} {Q : Kq} {x1 : Int32} {x3 : Int32} {r : Int32} (h :
    Wp 264 0 [(0, .ref 58), (1, .int r)] [] (gE Lx) I L e (kcp (Wp 271) 271 49 0 [(0, .ref 58), (1, .int x1), (3, .int x3), (4, .int r)] 71 [] Q)) :
    Wp 271 44 [(0, .ref 58), (1, .int x1), (3, .int x3)] [.int r] (gE Lx) I L e Q := by
  refine w_a f_271_44 ?_
  refine w_a (ls := [(4, .int r), (0, .ref 58), (1, .int x1), (3, .int x3)]) f_271_46 ?_
  refine w_a f_271_47 ?_
  exact w_c (ks := [0, 1, 3, 4]) f_271_49 rfl rfl h
set_option maxRecDepth 10000 in
set_option maxHeartbeats 4000000 in
theorem s_271_52 {Lx : Nat} {I : Mi} {L : Ml} {e : Nat} {Q : Kq} {x1 : Int32} {x3 : Int32} {x4 : Int32} (h :
    (if x1 = x3 then
     Wp 243 0 [(0, .long (L 58 18))] [] (gE Lx) I L e (kcp (Wp 271) 271 83 0 [(0, .ref 58), (1, .int x1), (3, .int x3), (5, .long (L 58 8)), (7, .long (L 58 9)), (9, .int (Int32.ofInt 0))] 71 [.long x4.toInt64] Q)
    else
     Wp 243 0 [(0, .long (L 58 18))] [] (gE Lx) I L e (kcp (Wp 271) 271 83 0 [(0, .ref 58), (1, .int x1), (3, .int x3), (5, .long (L 58 8)), (7, .long (L 58 9)), (9, .int (Int32.ofInt 1))] 71 [.long x4.toInt64] Q))) :
    Wp 271 52 [(0, .ref 58), (1, .int x1), (3, .int x3), (4, .int x4)] [] (gE Lx) I L e Q := by
  refine w_a f_271_52 ?_
  refine w_a f_271_53 ?_
  refine w_a f_271_56 ?_
  refine w_a (ls := [(5, .long (L 58 8)), (0, .ref 58), (1, .int x1), (3, .int x3), (4, .int x4)]) f_271_58 ?_
  refine w_a f_271_59 ?_
  refine w_a f_271_62 ?_
  refine w_a (ls := [(7, .long (L 58 9)), (5, .long (L 58 8)), (0, .ref 58), (1, .int x1), (3, .int x3), (4, .int x4)]) f_271_64 ?_
  refine w_a f_271_65 ?_
  refine w_a f_271_66 ?_
  refine i_m (fun h => ?_) (fun h => ?_) h
  · refine w_a f_271_73 ?_
    refine w_a f_271_74 ?_
    refine w_a (ls := [(9, .int (Int32.ofInt 0)), (7, .long (L 58 9)), (5, .long (L 58 8)), (0, .ref 58), (1, .int x1), (3, .int x3), (4, .int x4)]) f_271_76 ?_
    refine w_a f_271_78 ?_
    refine w_a f_271_79 ?_
    refine w_a f_271_80 ?_
    exact w_c (ks := [0, 1, 3, 5, 7, 9]) f_271_83 rfl rfl h
  · refine w_a f_271_69 ?_
    refine w_a f_271_70 ?_
    refine w_a f_271_74 ?_
    refine w_a (ls := [(9, .int (Int32.ofInt 1)), (7, .long (L 58 9)), (5, .long (L 58 8)), (0, .ref 58), (1, .int x1), (3, .int x3), (4, .int x4)]) f_271_76 ?_
    refine w_a f_271_78 ?_
    refine w_a f_271_79 ?_
    refine w_a f_271_80 ?_
    exact w_c (ks := [0, 1, 3, 5, 7, 9]) f_271_83 rfl rfl h
set_option maxRecDepth 10000 in
set_option maxHeartbeats 4000000 in
theorem s_271_86 {Lx : Nat} {I : Mi} {L : Ml} {e : Nat} {Q : Kq} {x1 : Int32} {x3 : Int32} {y5 : Int64} {y7 : Int64} {x9 : Int32} {rl0 : Int64} {rl : Int64} (h :
    (if x9 = 0 then
     Wp 246 0 [(0, .ref 58), (1, .long ((-(L 58 14)) * (L 58 16))), (3, .long (rl0 * rl))] [] (gE Lx) I L e (kcp (Wp 271) 271 125 0 [(0, .ref 58), (1, .int x1), (3, .int x3), (5, .long y5), (7, .long y7)] 71 [] Q)
    else
     Wp 246 0 [(0, .ref 58), (1, .long (rl0 * rl)), (3, .long ((L 58 14) * (L 58 16)))] [] (gE Lx) I L e (kcp (Wp 271) 271 106 0 [(0, .ref 58), (1, .int x1), (3, .int x3), (5, .long y5), (7, .long y7)] 71 [] Q))) :
    Wp 271 86 [(0, .ref 58), (1, .int x1), (3, .int x3), (5, .long y5), (7, .long y7), (9, .int x9)] [.long rl, .long rl0] (gE Lx) I L e Q := by
  refine w_a f_271_86 ?_
  refine w_a f_271_87 ?_
  refine w_a (ls := [(10, .long (rl0 * rl)), (0, .ref 58), (1, .int x1), (3, .int x3), (5, .long y5), (7, .long y7), (9, .int x9)]) f_271_89 ?_
  refine w_a f_271_91 ?_
  refine i_m (fun h => ?_) (fun h => ?_) h
  · refine w_a f_271_112 ?_
    refine w_a f_271_113 ?_
    refine w_a f_271_114 ?_
    refine w_a f_271_117 ?_
    refine w_a f_271_118 ?_
    refine w_a f_271_119 ?_
    refine w_a f_271_122 ?_
    refine w_a f_271_123 ?_
    exact w_c (ks := [0, 1, 3, 5, 7]) f_271_125 rfl rfl h
  · refine w_a f_271_94 ?_
    refine w_a f_271_95 ?_
    refine w_a f_271_97 ?_
    refine w_a f_271_98 ?_
    refine w_a f_271_101 ?_
    refine w_a f_271_102 ?_
    refine w_a f_271_105 ?_
    exact w_c (ks := [0, 1, 3, 5, 7]) f_271_106 rfl rfl h
set_option maxRecDepth 10000 in
set_option maxHeartbeats 4000000 in
theorem s_271_109 {Lx : Nat} {I : Mi} {L : Ml} {e : Nat} {Q : Kq} {x1 : Int32} {x3 : Int32} {y5 : Int64} {y7 : Int64} (h :
    Wp 271 128 [(0, .ref 58), (1, .int x1), (3, .int x3), (5, .long y5), (7, .long y7)] [] (gE Lx) I L e Q) :
    Wp 271 109 [(0, .ref 58), (1, .int x1), (3, .int x3), (5, .long y5), (7, .long y7)] [] (gE Lx) I L e Q := by
  refine w_a f_271_109 ?_
  exact w_n (ks := [0, 1, 3, 5, 7]) rfl h
set_option maxRecDepth 10000 in
set_option maxHeartbeats 4000000 in
theorem s_271_128 {Lx : Nat} {I : Mi} {L : Ml} {e : Nat} {Q : Kq} {x1 : Int32} {x3 : Int32} {y5 : Int64} {y7 : Int64} (h :
    Wp 210 0 [(0, .long y5)] [] (gE Lx) I L e (kcp (Wp 272) 272 1 0 [(2, .long y7)] 71 [] (kcp (Wp 271) 271 133 0 [(0, .ref 58), (1, .int x1), (3, .int x3), (5, .long y5), (7, .long y7)] 71 [.ref 58] Q))) :
    Wp 271 128 [(0, .ref 58), (1, .int x1), (3, .int x3), (5, .long y5), (7, .long y7)] [] (gE Lx) I L e Q := by
  refine w_a f_271_128 ?_
  refine w_a f_271_129 ?_
  refine w_a f_271_131 ?_
  refine w_c (ks := [0, 1, 3, 5, 7]) f_271_133 rfl rfl ?_
  refine w_a (ls := [(0, .long y5), (2, .long y7)]) f_272_0 ?_
  exact w_c (ks := [2]) f_272_1 rfl rfl h
set_option maxRecDepth 10000 in
set_option maxHeartbeats 4000000 in
theorem s_271_136 {Lx : Nat} {I : Mi} {L : Ml} {e : Nat} {Q : Kq} {x1 : Int32} {x3 : Int32} {y5 : Int64} {y7 : Int64} {r : Int32} (h :
    (if r = 0 then
     Q (.inl (some (.int (Int32.ofInt 0)))) (gE Lx) (ui I 58 0 (Int32.ofInt 1)) L e
    else
     Wp 210 0 [(0, .long (L 58 8))] [] (gE Lx) I L e (kcp (Wp 272) 272 1 0 [(2, .long (L 58 9))] 71 [] (kcp (Wp 271) 271 147 0 [(0, .ref 58), (1, .int x1), (3, .int x3), (5, .long y5), (7, .long y7)] 71 [.ref 58] Q)))) :
    Wp 271 136 [(0, .ref 58), (1, .int x1), (3, .int x3), (5, .long y5), (7, .long y7)] [.int r, .ref 58] (gE Lx) I L e Q := by
  refine w_a f_271_136 ?_
  refine i_m (fun h => ?_) (fun h => ?_) h
  · refine w_a f_271_157 ?_
    refine w_a f_271_158 ?_
    refine w_a f_271_161 ?_
    refine w_a f_271_162 ?_
    refine w_a f_271_165 ?_
    refine w_a f_271_168 ?_
    refine w_a f_271_169 ?_
    exact h
  · refine w_a f_271_139 ?_
    refine w_a f_271_140 ?_
    refine w_a f_271_143 ?_
    refine w_a f_271_144 ?_
    refine w_c (ks := [0, 1, 3, 5, 7]) f_271_147 rfl rfl ?_
    refine w_a (ls := [(0, .long (L 58 8)), (2, .long (L 58 9))]) f_272_0 ?_
    exact w_c (ks := [2]) f_272_1 rfl rfl h
set_option maxRecDepth 10000 in
set_option maxHeartbeats 4000000 in
theorem s_271_150 {Lx : Nat} {I : Mi} {L : Ml} {e : Nat} {Q : Kq} {x1 : Int32} {x3 : Int32} {y5 : Int64} {y7 : Int64} {r : Int32} (h :
    (if r = 0 then
     Q (.inl (some (.int (Int32.ofInt 0)))) (gE Lx) (ui I 58 0 (Int32.ofInt 1)) L e
    else
     (inb ((Int32.ofInt 4) + ((Int32.ofInt 3) * (I 59 3))) 16 (
      (inb ((Int32.ofInt 5) + ((Int32.ofInt 3) * (I 59 3))) 16 (
       (inb ((Int32.ofInt 6) + ((Int32.ofInt 3) * (I 59 3))) 16 (
        (if x1 = 0 then
         (if x3 = 0 then
          (inb ((Int32.ofInt 4) + ((Int32.ofInt 3) * (((ui (ui (ui (ui I 58 0 (Int32.ofInt 0)) 59 (((Int32.ofInt 4) + ((Int32.ofInt 3) * (I 59 3))).toNatClampNeg) (Int32.ofInt 0)) 59 (((Int32.ofInt 5) + ((Int32.ofInt 3) * (I 59 3))).toNatClampNeg) y5.toInt32) 59 (((Int32.ofInt 6) + ((Int32.ofInt 3) * (I 59 3))).toNatClampNeg) y7.toInt32) 59 3) + (Int32.ofInt 1)))) 16 (
           (inb ((Int32.ofInt 5) + ((Int32.ofInt 3) * (((ui (ui (ui (ui I 58 0 (Int32.ofInt 0)) 59 (((Int32.ofInt 4) + ((Int32.ofInt 3) * (I 59 3))).toNatClampNeg) (Int32.ofInt 0)) 59 (((Int32.ofInt 5) + ((Int32.ofInt 3) * (I 59 3))).toNatClampNeg) y5.toInt32) 59 (((Int32.ofInt 6) + ((Int32.ofInt 3) * (I 59 3))).toNatClampNeg) y7.toInt32) 59 3) + (Int32.ofInt 1)))) 16 (
            (inb ((Int32.ofInt 6) + ((Int32.ofInt 3) * (((ui (ui (ui (ui I 58 0 (Int32.ofInt 0)) 59 (((Int32.ofInt 4) + ((Int32.ofInt 3) * (I 59 3))).toNatClampNeg) (Int32.ofInt 0)) 59 (((Int32.ofInt 5) + ((Int32.ofInt 3) * (I 59 3))).toNatClampNeg) y5.toInt32) 59 (((Int32.ofInt 6) + ((Int32.ofInt 3) * (I 59 3))).toNatClampNeg) y7.toInt32) 59 3) + (Int32.ofInt 1)))) 16 (
             Q (.inl (some (.int (((ui (ui (ui (ui (ui (ui (ui I 58 0 (Int32.ofInt 0)) 59 (((Int32.ofInt 4) + ((Int32.ofInt 3) * (I 59 3))).toNatClampNeg) (Int32.ofInt 0)) 59 (((Int32.ofInt 5) + ((Int32.ofInt 3) * (I 59 3))).toNatClampNeg) y5.toInt32) 59 (((Int32.ofInt 6) + ((Int32.ofInt 3) * (I 59 3))).toNatClampNeg) y7.toInt32) 59 (((Int32.ofInt 4) + ((Int32.ofInt 3) * (((ui (ui (ui (ui I 58 0 (Int32.ofInt 0)) 59 (((Int32.ofInt 4) + ((Int32.ofInt 3) * (I 59 3))).toNatClampNeg) (Int32.ofInt 0)) 59 (((Int32.ofInt 5) + ((Int32.ofInt 3) * (I 59 3))).toNatClampNeg) y5.toInt32) 59 (((Int32.ofInt 6) + ((Int32.ofInt 3) * (I 59 3))).toNatClampNeg) y7.toInt32) 59 3) + (Int32.ofInt 1)))).toNatClampNeg) (Int32.ofInt 2)) 59 (((Int32.ofInt 5) + ((Int32.ofInt 3) * (((ui (ui (ui (ui I 58 0 (Int32.ofInt 0)) 59 (((Int32.ofInt 4) + ((Int32.ofInt 3) * (I 59 3))).toNatClampNeg) (Int32.ofInt 0)) 59 (((Int32.ofInt 5) + ((Int32.ofInt 3) * (I 59 3))).toNatClampNeg) y5.toInt32) 59 (((Int32.ofInt 6) + ((Int32.ofInt 3) * (I 59 3))).toNatClampNeg) y7.toInt32) 59 3) + (Int32.ofInt 1)))).toNatClampNeg) ((L 58 8).toInt32)) 59 (((Int32.ofInt 6) + ((Int32.ofInt 3) * (((ui (ui (ui (ui I 58 0 (Int32.ofInt 0)) 59 (((Int32.ofInt 4) + ((Int32.ofInt 3) * (I 59 3))).toNatClampNeg) (Int32.ofInt 0)) 59 (((Int32.ofInt 5) + ((Int32.ofInt 3) * (I 59 3))).toNatClampNeg) y5.toInt32) 59 (((Int32.ofInt 6) + ((Int32.ofInt 3) * (I 59 3))).toNatClampNeg) y7.toInt32) 59 3) + (Int32.ofInt 1)))).toNatClampNeg) ((L 58 9).toInt32)) 59 3) + (Int32.ofInt 2))))) (gE Lx) (ui (ui (ui (ui (ui (ui (ui (ui I 58 0 (Int32.ofInt 0)) 59 (((Int32.ofInt 4) + ((Int32.ofInt 3) * (I 59 3))).toNatClampNeg) (Int32.ofInt 0)) 59 (((Int32.ofInt 5) + ((Int32.ofInt 3) * (I 59 3))).toNatClampNeg) y5.toInt32) 59 (((Int32.ofInt 6) + ((Int32.ofInt 3) * (I 59 3))).toNatClampNeg) y7.toInt32) 59 (((Int32.ofInt 4) + ((Int32.ofInt 3) * (((ui (ui (ui (ui I 58 0 (Int32.ofInt 0)) 59 (((Int32.ofInt 4) + ((Int32.ofInt 3) * (I 59 3))).toNatClampNeg) (Int32.ofInt 0)) 59 (((Int32.ofInt 5) + ((Int32.ofInt 3) * (I 59 3))).toNatClampNeg) y5.toInt32) 59 (((Int32.ofInt 6) + ((Int32.ofInt 3) * (I 59 3))).toNatClampNeg) y7.toInt32) 59 3) + (Int32.ofInt 1)))).toNatClampNeg) (Int32.ofInt 2)) 59 (((Int32.ofInt 5) + ((Int32.ofInt 3) * (((ui (ui (ui (ui I 58 0 (Int32.ofInt 0)) 59 (((Int32.ofInt 4) + ((Int32.ofInt 3) * (I 59 3))).toNatClampNeg) (Int32.ofInt 0)) 59 (((Int32.ofInt 5) + ((Int32.ofInt 3) * (I 59 3))).toNatClampNeg) y5.toInt32) 59 (((Int32.ofInt 6) + ((Int32.ofInt 3) * (I 59 3))).toNatClampNeg) y7.toInt32) 59 3) + (Int32.ofInt 1)))).toNatClampNeg) ((L 58 8).toInt32)) 59 (((Int32.ofInt 6) + ((Int32.ofInt 3) * (((ui (ui (ui (ui I 58 0 (Int32.ofInt 0)) 59 (((Int32.ofInt 4) + ((Int32.ofInt 3) * (I 59 3))).toNatClampNeg) (Int32.ofInt 0)) 59 (((Int32.ofInt 5) + ((Int32.ofInt 3) * (I 59 3))).toNatClampNeg) y5.toInt32) 59 (((Int32.ofInt 6) + ((Int32.ofInt 3) * (I 59 3))).toNatClampNeg) y7.toInt32) 59 3) + (Int32.ofInt 1)))).toNatClampNeg) ((L 58 9).toInt32)) 59 3 (((ui (ui (ui (ui (ui (ui (ui I 58 0 (Int32.ofInt 0)) 59 (((Int32.ofInt 4) + ((Int32.ofInt 3) * (I 59 3))).toNatClampNeg) (Int32.ofInt 0)) 59 (((Int32.ofInt 5) + ((Int32.ofInt 3) * (I 59 3))).toNatClampNeg) y5.toInt32) 59 (((Int32.ofInt 6) + ((Int32.ofInt 3) * (I 59 3))).toNatClampNeg) y7.toInt32) 59 (((Int32.ofInt 4) + ((Int32.ofInt 3) * (((ui (ui (ui (ui I 58 0 (Int32.ofInt 0)) 59 (((Int32.ofInt 4) + ((Int32.ofInt 3) * (I 59 3))).toNatClampNeg) (Int32.ofInt 0)) 59 (((Int32.ofInt 5) + ((Int32.ofInt 3) * (I 59 3))).toNatClampNeg) y5.toInt32) 59 (((Int32.ofInt 6) + ((Int32.ofInt 3) * (I 59 3))).toNatClampNeg) y7.toInt32) 59 3) + (Int32.ofInt 1)))).toNatClampNeg) (Int32.ofInt 2)) 59 (((Int32.ofInt 5) + ((Int32.ofInt 3) * (((ui (ui (ui (ui I 58 0 (Int32.ofInt 0)) 59 (((Int32.ofInt 4) + ((Int32.ofInt 3) * (I 59 3))).toNatClampNeg) (Int32.ofInt 0)) 59 (((Int32.ofInt 5) + ((Int32.ofInt 3) * (I 59 3))).toNatClampNeg) y5.toInt32) 59 (((Int32.ofInt 6) + ((Int32.ofInt 3) * (I 59 3))).toNatClampNeg) y7.toInt32) 59 3) + (Int32.ofInt 1)))).toNatClampNeg) ((L 58 8).toInt32)) 59 (((Int32.ofInt 6) + ((Int32.ofInt 3) * (((ui (ui (ui (ui I 58 0 (Int32.ofInt 0)) 59 (((Int32.ofInt 4) + ((Int32.ofInt 3) * (I 59 3))).toNatClampNeg) (Int32.ofInt 0)) 59 (((Int32.ofInt 5) + ((Int32.ofInt 3) * (I 59 3))).toNatClampNeg) y5.toInt32) 59 (((Int32.ofInt 6) + ((Int32.ofInt 3) * (I 59 3))).toNatClampNeg) y7.toInt32) 59 3) + (Int32.ofInt 1)))).toNatClampNeg) ((L 58 9).toInt32)) 59 3) + (Int32.ofInt 2))) L e)
            False))
           False))
          False)
         else
          (inb ((Int32.ofInt 4) + ((Int32.ofInt 3) * (((ui (ui (ui (ui I 58 0 (Int32.ofInt 0)) 59 (((Int32.ofInt 4) + ((Int32.ofInt 3) * (I 59 3))).toNatClampNeg) (Int32.ofInt 0)) 59 (((Int32.ofInt 5) + ((Int32.ofInt 3) * (I 59 3))).toNatClampNeg) y5.toInt32) 59 (((Int32.ofInt 6) + ((Int32.ofInt 3) * (I 59 3))).toNatClampNeg) y7.toInt32) 59 3) + (Int32.ofInt 1)))) 16 (
           (inb ((Int32.ofInt 5) + ((Int32.ofInt 3) * (((ui (ui (ui (ui I 58 0 (Int32.ofInt 0)) 59 (((Int32.ofInt 4) + ((Int32.ofInt 3) * (I 59 3))).toNatClampNeg) (Int32.ofInt 0)) 59 (((Int32.ofInt 5) + ((Int32.ofInt 3) * (I 59 3))).toNatClampNeg) y5.toInt32) 59 (((Int32.ofInt 6) + ((Int32.ofInt 3) * (I 59 3))).toNatClampNeg) y7.toInt32) 59 3) + (Int32.ofInt 1)))) 16 (
            (inb ((Int32.ofInt 6) + ((Int32.ofInt 3) * (((ui (ui (ui (ui I 58 0 (Int32.ofInt 0)) 59 (((Int32.ofInt 4) + ((Int32.ofInt 3) * (I 59 3))).toNatClampNeg) (Int32.ofInt 0)) 59 (((Int32.ofInt 5) + ((Int32.ofInt 3) * (I 59 3))).toNatClampNeg) y5.toInt32) 59 (((Int32.ofInt 6) + ((Int32.ofInt 3) * (I 59 3))).toNatClampNeg) y7.toInt32) 59 3) + (Int32.ofInt 1)))) 16 (
             Q (.inl (some (.int (((ui (ui (ui (ui (ui (ui (ui I 58 0 (Int32.ofInt 0)) 59 (((Int32.ofInt 4) + ((Int32.ofInt 3) * (I 59 3))).toNatClampNeg) (Int32.ofInt 0)) 59 (((Int32.ofInt 5) + ((Int32.ofInt 3) * (I 59 3))).toNatClampNeg) y5.toInt32) 59 (((Int32.ofInt 6) + ((Int32.ofInt 3) * (I 59 3))).toNatClampNeg) y7.toInt32) 59 (((Int32.ofInt 4) + ((Int32.ofInt 3) * (((ui (ui (ui (ui I 58 0 (Int32.ofInt 0)) 59 (((Int32.ofInt 4) + ((Int32.ofInt 3) * (I 59 3))).toNatClampNeg) (Int32.ofInt 0)) 59 (((Int32.ofInt 5) + ((Int32.ofInt 3) * (I 59 3))).toNatClampNeg) y5.toInt32) 59 (((Int32.ofInt 6) + ((Int32.ofInt 3) * (I 59 3))).toNatClampNeg) y7.toInt32) 59 3) + (Int32.ofInt 1)))).toNatClampNeg) (Int32.ofInt 1)) 59 (((Int32.ofInt 5) + ((Int32.ofInt 3) * (((ui (ui (ui (ui I 58 0 (Int32.ofInt 0)) 59 (((Int32.ofInt 4) + ((Int32.ofInt 3) * (I 59 3))).toNatClampNeg) (Int32.ofInt 0)) 59 (((Int32.ofInt 5) + ((Int32.ofInt 3) * (I 59 3))).toNatClampNeg) y5.toInt32) 59 (((Int32.ofInt 6) + ((Int32.ofInt 3) * (I 59 3))).toNatClampNeg) y7.toInt32) 59 3) + (Int32.ofInt 1)))).toNatClampNeg) ((L 58 8).toInt32)) 59 (((Int32.ofInt 6) + ((Int32.ofInt 3) * (((ui (ui (ui (ui I 58 0 (Int32.ofInt 0)) 59 (((Int32.ofInt 4) + ((Int32.ofInt 3) * (I 59 3))).toNatClampNeg) (Int32.ofInt 0)) 59 (((Int32.ofInt 5) + ((Int32.ofInt 3) * (I 59 3))).toNatClampNeg) y5.toInt32) 59 (((Int32.ofInt 6) + ((Int32.ofInt 3) * (I 59 3))).toNatClampNeg) y7.toInt32) 59 3) + (Int32.ofInt 1)))).toNatClampNeg) ((L 58 9).toInt32)) 59 3) + (Int32.ofInt 2))))) (gE Lx) (ui (ui (ui (ui (ui (ui (ui (ui I 58 0 (Int32.ofInt 0)) 59 (((Int32.ofInt 4) + ((Int32.ofInt 3) * (I 59 3))).toNatClampNeg) (Int32.ofInt 0)) 59 (((Int32.ofInt 5) + ((Int32.ofInt 3) * (I 59 3))).toNatClampNeg) y5.toInt32) 59 (((Int32.ofInt 6) + ((Int32.ofInt 3) * (I 59 3))).toNatClampNeg) y7.toInt32) 59 (((Int32.ofInt 4) + ((Int32.ofInt 3) * (((ui (ui (ui (ui I 58 0 (Int32.ofInt 0)) 59 (((Int32.ofInt 4) + ((Int32.ofInt 3) * (I 59 3))).toNatClampNeg) (Int32.ofInt 0)) 59 (((Int32.ofInt 5) + ((Int32.ofInt 3) * (I 59 3))).toNatClampNeg) y5.toInt32) 59 (((Int32.ofInt 6) + ((Int32.ofInt 3) * (I 59 3))).toNatClampNeg) y7.toInt32) 59 3) + (Int32.ofInt 1)))).toNatClampNeg) (Int32.ofInt 1)) 59 (((Int32.ofInt 5) + ((Int32.ofInt 3) * (((ui (ui (ui (ui I 58 0 (Int32.ofInt 0)) 59 (((Int32.ofInt 4) + ((Int32.ofInt 3) * (I 59 3))).toNatClampNeg) (Int32.ofInt 0)) 59 (((Int32.ofInt 5) + ((Int32.ofInt 3) * (I 59 3))).toNatClampNeg) y5.toInt32) 59 (((Int32.ofInt 6) + ((Int32.ofInt 3) * (I 59 3))).toNatClampNeg) y7.toInt32) 59 3) + (Int32.ofInt 1)))).toNatClampNeg) ((L 58 8).toInt32)) 59 (((Int32.ofInt 6) + ((Int32.ofInt 3) * (((ui (ui (ui (ui I 58 0 (Int32.ofInt 0)) 59 (((Int32.ofInt 4) + ((Int32.ofInt 3) * (I 59 3))).toNatClampNeg) (Int32.ofInt 0)) 59 (((Int32.ofInt 5) + ((Int32.ofInt 3) * (I 59 3))).toNatClampNeg) y5.toInt32) 59 (((Int32.ofInt 6) + ((Int32.ofInt 3) * (I 59 3))).toNatClampNeg) y7.toInt32) 59 3) + (Int32.ofInt 1)))).toNatClampNeg) ((L 58 9).toInt32)) 59 3 (((ui (ui (ui (ui (ui (ui (ui I 58 0 (Int32.ofInt 0)) 59 (((Int32.ofInt 4) + ((Int32.ofInt 3) * (I 59 3))).toNatClampNeg) (Int32.ofInt 0)) 59 (((Int32.ofInt 5) + ((Int32.ofInt 3) * (I 59 3))).toNatClampNeg) y5.toInt32) 59 (((Int32.ofInt 6) + ((Int32.ofInt 3) * (I 59 3))).toNatClampNeg) y7.toInt32) 59 (((Int32.ofInt 4) + ((Int32.ofInt 3) * (((ui (ui (ui (ui I 58 0 (Int32.ofInt 0)) 59 (((Int32.ofInt 4) + ((Int32.ofInt 3) * (I 59 3))).toNatClampNeg) (Int32.ofInt 0)) 59 (((Int32.ofInt 5) + ((Int32.ofInt 3) * (I 59 3))).toNatClampNeg) y5.toInt32) 59 (((Int32.ofInt 6) + ((Int32.ofInt 3) * (I 59 3))).toNatClampNeg) y7.toInt32) 59 3) + (Int32.ofInt 1)))).toNatClampNeg) (Int32.ofInt 1)) 59 (((Int32.ofInt 5) + ((Int32.ofInt 3) * (((ui (ui (ui (ui I 58 0 (Int32.ofInt 0)) 59 (((Int32.ofInt 4) + ((Int32.ofInt 3) * (I 59 3))).toNatClampNeg) (Int32.ofInt 0)) 59 (((Int32.ofInt 5) + ((Int32.ofInt 3) * (I 59 3))).toNatClampNeg) y5.toInt32) 59 (((Int32.ofInt 6) + ((Int32.ofInt 3) * (I 59 3))).toNatClampNeg) y7.toInt32) 59 3) + (Int32.ofInt 1)))).toNatClampNeg) ((L 58 8).toInt32)) 59 (((Int32.ofInt 6) + ((Int32.ofInt 3) * (((ui (ui (ui (ui I 58 0 (Int32.ofInt 0)) 59 (((Int32.ofInt 4) + ((Int32.ofInt 3) * (I 59 3))).toNatClampNeg) (Int32.ofInt 0)) 59 (((Int32.ofInt 5) + ((Int32.ofInt 3) * (I 59 3))).toNatClampNeg) y5.toInt32) 59 (((Int32.ofInt 6) + ((Int32.ofInt 3) * (I 59 3))).toNatClampNeg) y7.toInt32) 59 3) + (Int32.ofInt 1)))).toNatClampNeg) ((L 58 9).toInt32)) 59 3) + (Int32.ofInt 2))) L e)
            False))
           False))
          False))
        else
         (if x3 = 0 then
          (inb ((Int32.ofInt 4) + ((Int32.ofInt 3) * (((ui (ui (ui (ui I 58 0 (Int32.ofInt 0)) 59 (((Int32.ofInt 4) + ((Int32.ofInt 3) * (I 59 3))).toNatClampNeg) (Int32.ofInt 0)) 59 (((Int32.ofInt 5) + ((Int32.ofInt 3) * (I 59 3))).toNatClampNeg) y5.toInt32) 59 (((Int32.ofInt 6) + ((Int32.ofInt 3) * (I 59 3))).toNatClampNeg) y7.toInt32) 59 3) + (Int32.ofInt 1)))) 16 (
           (inb ((Int32.ofInt 5) + ((Int32.ofInt 3) * (((ui (ui (ui (ui I 58 0 (Int32.ofInt 0)) 59 (((Int32.ofInt 4) + ((Int32.ofInt 3) * (I 59 3))).toNatClampNeg) (Int32.ofInt 0)) 59 (((Int32.ofInt 5) + ((Int32.ofInt 3) * (I 59 3))).toNatClampNeg) y5.toInt32) 59 (((Int32.ofInt 6) + ((Int32.ofInt 3) * (I 59 3))).toNatClampNeg) y7.toInt32) 59 3) + (Int32.ofInt 1)))) 16 (
            (inb ((Int32.ofInt 6) + ((Int32.ofInt 3) * (((ui (ui (ui (ui I 58 0 (Int32.ofInt 0)) 59 (((Int32.ofInt 4) + ((Int32.ofInt 3) * (I 59 3))).toNatClampNeg) (Int32.ofInt 0)) 59 (((Int32.ofInt 5) + ((Int32.ofInt 3) * (I 59 3))).toNatClampNeg) y5.toInt32) 59 (((Int32.ofInt 6) + ((Int32.ofInt 3) * (I 59 3))).toNatClampNeg) y7.toInt32) 59 3) + (Int32.ofInt 1)))) 16 (
             Q (.inl (some (.int (((ui (ui (ui (ui (ui (ui (ui I 58 0 (Int32.ofInt 0)) 59 (((Int32.ofInt 4) + ((Int32.ofInt 3) * (I 59 3))).toNatClampNeg) (Int32.ofInt 0)) 59 (((Int32.ofInt 5) + ((Int32.ofInt 3) * (I 59 3))).toNatClampNeg) y5.toInt32) 59 (((Int32.ofInt 6) + ((Int32.ofInt 3) * (I 59 3))).toNatClampNeg) y7.toInt32) 59 (((Int32.ofInt 4) + ((Int32.ofInt 3) * (((ui (ui (ui (ui I 58 0 (Int32.ofInt 0)) 59 (((Int32.ofInt 4) + ((Int32.ofInt 3) * (I 59 3))).toNatClampNeg) (Int32.ofInt 0)) 59 (((Int32.ofInt 5) + ((Int32.ofInt 3) * (I 59 3))).toNatClampNeg) y5.toInt32) 59 (((Int32.ofInt 6) + ((Int32.ofInt 3) * (I 59 3))).toNatClampNeg) y7.toInt32) 59 3) + (Int32.ofInt 1)))).toNatClampNeg) (Int32.ofInt 4)) 59 (((Int32.ofInt 5) + ((Int32.ofInt 3) * (((ui (ui (ui (ui I 58 0 (Int32.ofInt 0)) 59 (((Int32.ofInt 4) + ((Int32.ofInt 3) * (I 59 3))).toNatClampNeg) (Int32.ofInt 0)) 59 (((Int32.ofInt 5) + ((Int32.ofInt 3) * (I 59 3))).toNatClampNeg) y5.toInt32) 59 (((Int32.ofInt 6) + ((Int32.ofInt 3) * (I 59 3))).toNatClampNeg) y7.toInt32) 59 3) + (Int32.ofInt 1)))).toNatClampNeg) ((L 58 8).toInt32)) 59 (((Int32.ofInt 6) + ((Int32.ofInt 3) * (((ui (ui (ui (ui I 58 0 (Int32.ofInt 0)) 59 (((Int32.ofInt 4) + ((Int32.ofInt 3) * (I 59 3))).toNatClampNeg) (Int32.ofInt 0)) 59 (((Int32.ofInt 5) + ((Int32.ofInt 3) * (I 59 3))).toNatClampNeg) y5.toInt32) 59 (((Int32.ofInt 6) + ((Int32.ofInt 3) * (I 59 3))).toNatClampNeg) y7.toInt32) 59 3) + (Int32.ofInt 1)))).toNatClampNeg) ((L 58 9).toInt32)) 59 3) + (Int32.ofInt 2))))) (gE Lx) (ui (ui (ui (ui (ui (ui (ui (ui I 58 0 (Int32.ofInt 0)) 59 (((Int32.ofInt 4) + ((Int32.ofInt 3) * (I 59 3))).toNatClampNeg) (Int32.ofInt 0)) 59 (((Int32.ofInt 5) + ((Int32.ofInt 3) * (I 59 3))).toNatClampNeg) y5.toInt32) 59 (((Int32.ofInt 6) + ((Int32.ofInt 3) * (I 59 3))).toNatClampNeg) y7.toInt32) 59 (((Int32.ofInt 4) + ((Int32.ofInt 3) * (((ui (ui (ui (ui I 58 0 (Int32.ofInt 0)) 59 (((Int32.ofInt 4) + ((Int32.ofInt 3) * (I 59 3))).toNatClampNeg) (Int32.ofInt 0)) 59 (((Int32.ofInt 5) + ((Int32.ofInt 3) * (I 59 3))).toNatClampNeg) y5.toInt32) 59 (((Int32.ofInt 6) + ((Int32.ofInt 3) * (I 59 3))).toNatClampNeg) y7.toInt32) 59 3) + (Int32.ofInt 1)))).toNatClampNeg) (Int32.ofInt 4)) 59 (((Int32.ofInt 5) + ((Int32.ofInt 3) * (((ui (ui (ui (ui I 58 0 (Int32.ofInt 0)) 59 (((Int32.ofInt 4) + ((Int32.ofInt 3) * (I 59 3))).toNatClampNeg) (Int32.ofInt 0)) 59 (((Int32.ofInt 5) + ((Int32.ofInt 3) * (I 59 3))).toNatClampNeg) y5.toInt32) 59 (((Int32.ofInt 6) + ((Int32.ofInt 3) * (I 59 3))).toNatClampNeg) y7.toInt32) 59 3) + (Int32.ofInt 1)))).toNatClampNeg) ((L 58 8).toInt32)) 59 (((Int32.ofInt 6) + ((Int32.ofInt 3) * (((ui (ui (ui (ui I 58 0 (Int32.ofInt 0)) 59 (((Int32.ofInt 4) + ((Int32.ofInt 3) * (I 59 3))).toNatClampNeg) (Int32.ofInt 0)) 59 (((Int32.ofInt 5) + ((Int32.ofInt 3) * (I 59 3))).toNatClampNeg) y5.toInt32) 59 (((Int32.ofInt 6) + ((Int32.ofInt 3) * (I 59 3))).toNatClampNeg) y7.toInt32) 59 3) + (Int32.ofInt 1)))).toNatClampNeg) ((L 58 9).toInt32)) 59 3 (((ui (ui (ui (ui (ui (ui (ui I 58 0 (Int32.ofInt 0)) 59 (((Int32.ofInt 4) + ((Int32.ofInt 3) * (I 59 3))).toNatClampNeg) (Int32.ofInt 0)) 59 (((Int32.ofInt 5) + ((Int32.ofInt 3) * (I 59 3))).toNatClampNeg) y5.toInt32) 59 (((Int32.ofInt 6) + ((Int32.ofInt 3) * (I 59 3))).toNatClampNeg) y7.toInt32) 59 (((Int32.ofInt 4) + ((Int32.ofInt 3) * (((ui (ui (ui (ui I 58 0 (Int32.ofInt 0)) 59 (((Int32.ofInt 4) + ((Int32.ofInt 3) * (I 59 3))).toNatClampNeg) (Int32.ofInt 0)) 59 (((Int32.ofInt 5) + ((Int32.ofInt 3) * (I 59 3))).toNatClampNeg) y5.toInt32) 59 (((Int32.ofInt 6) + ((Int32.ofInt 3) * (I 59 3))).toNatClampNeg) y7.toInt32) 59 3) + (Int32.ofInt 1)))).toNatClampNeg) (Int32.ofInt 4)) 59 (((Int32.ofInt 5) + ((Int32.ofInt 3) * (((ui (ui (ui (ui I 58 0 (Int32.ofInt 0)) 59 (((Int32.ofInt 4) + ((Int32.ofInt 3) * (I 59 3))).toNatClampNeg) (Int32.ofInt 0)) 59 (((Int32.ofInt 5) + ((Int32.ofInt 3) * (I 59 3))).toNatClampNeg) y5.toInt32) 59 (((Int32.ofInt 6) + ((Int32.ofInt 3) * (I 59 3))).toNatClampNeg) y7.toInt32) 59 3) + (Int32.ofInt 1)))).toNatClampNeg) ((L 58 8).toInt32)) 59 (((Int32.ofInt 6) + ((Int32.ofInt 3) * (((ui (ui (ui (ui I 58 0 (Int32.ofInt 0)) 59 (((Int32.ofInt 4) + ((Int32.ofInt 3) * (I 59 3))).toNatClampNeg) (Int32.ofInt 0)) 59 (((Int32.ofInt 5) + ((Int32.ofInt 3) * (I 59 3))).toNatClampNeg) y5.toInt32) 59 (((Int32.ofInt 6) + ((Int32.ofInt 3) * (I 59 3))).toNatClampNeg) y7.toInt32) 59 3) + (Int32.ofInt 1)))).toNatClampNeg) ((L 58 9).toInt32)) 59 3) + (Int32.ofInt 2))) L e)
            False))
           False))
          False)
         else
          (inb ((Int32.ofInt 4) + ((Int32.ofInt 3) * (((ui (ui (ui (ui I 58 0 (Int32.ofInt 0)) 59 (((Int32.ofInt 4) + ((Int32.ofInt 3) * (I 59 3))).toNatClampNeg) (Int32.ofInt 0)) 59 (((Int32.ofInt 5) + ((Int32.ofInt 3) * (I 59 3))).toNatClampNeg) y5.toInt32) 59 (((Int32.ofInt 6) + ((Int32.ofInt 3) * (I 59 3))).toNatClampNeg) y7.toInt32) 59 3) + (Int32.ofInt 1)))) 16 (
           (inb ((Int32.ofInt 5) + ((Int32.ofInt 3) * (((ui (ui (ui (ui I 58 0 (Int32.ofInt 0)) 59 (((Int32.ofInt 4) + ((Int32.ofInt 3) * (I 59 3))).toNatClampNeg) (Int32.ofInt 0)) 59 (((Int32.ofInt 5) + ((Int32.ofInt 3) * (I 59 3))).toNatClampNeg) y5.toInt32) 59 (((Int32.ofInt 6) + ((Int32.ofInt 3) * (I 59 3))).toNatClampNeg) y7.toInt32) 59 3) + (Int32.ofInt 1)))) 16 (
            (inb ((Int32.ofInt 6) + ((Int32.ofInt 3) * (((ui (ui (ui (ui I 58 0 (Int32.ofInt 0)) 59 (((Int32.ofInt 4) + ((Int32.ofInt 3) * (I 59 3))).toNatClampNeg) (Int32.ofInt 0)) 59 (((Int32.ofInt 5) + ((Int32.ofInt 3) * (I 59 3))).toNatClampNeg) y5.toInt32) 59 (((Int32.ofInt 6) + ((Int32.ofInt 3) * (I 59 3))).toNatClampNeg) y7.toInt32) 59 3) + (Int32.ofInt 1)))) 16 (
             Q (.inl (some (.int (((ui (ui (ui (ui (ui (ui (ui I 58 0 (Int32.ofInt 0)) 59 (((Int32.ofInt 4) + ((Int32.ofInt 3) * (I 59 3))).toNatClampNeg) (Int32.ofInt 0)) 59 (((Int32.ofInt 5) + ((Int32.ofInt 3) * (I 59 3))).toNatClampNeg) y5.toInt32) 59 (((Int32.ofInt 6) + ((Int32.ofInt 3) * (I 59 3))).toNatClampNeg) y7.toInt32) 59 (((Int32.ofInt 4) + ((Int32.ofInt 3) * (((ui (ui (ui (ui I 58 0 (Int32.ofInt 0)) 59 (((Int32.ofInt 4) + ((Int32.ofInt 3) * (I 59 3))).toNatClampNeg) (Int32.ofInt 0)) 59 (((Int32.ofInt 5) + ((Int32.ofInt 3) * (I 59 3))).toNatClampNeg) y5.toInt32) 59 (((Int32.ofInt 6) + ((Int32.ofInt 3) * (I 59 3))).toNatClampNeg) y7.toInt32) 59 3) + (Int32.ofInt 1)))).toNatClampNeg) (Int32.ofInt 3)) 59 (((Int32.ofInt 5) + ((Int32.ofInt 3) * (((ui (ui (ui (ui I 58 0 (Int32.ofInt 0)) 59 (((Int32.ofInt 4) + ((Int32.ofInt 3) * (I 59 3))).toNatClampNeg) (Int32.ofInt 0)) 59 (((Int32.ofInt 5) + ((Int32.ofInt 3) * (I 59 3))).toNatClampNeg) y5.toInt32) 59 (((Int32.ofInt 6) + ((Int32.ofInt 3) * (I 59 3))).toNatClampNeg) y7.toInt32) 59 3) + (Int32.ofInt 1)))).toNatClampNeg) ((L 58 8).toInt32)) 59 (((Int32.ofInt 6) + ((Int32.ofInt 3) * (((ui (ui (ui (ui I 58 0 (Int32.ofInt 0)) 59 (((Int32.ofInt 4) + ((Int32.ofInt 3) * (I 59 3))).toNatClampNeg) (Int32.ofInt 0)) 59 (((Int32.ofInt 5) + ((Int32.ofInt 3) * (I 59 3))).toNatClampNeg) y5.toInt32) 59 (((Int32.ofInt 6) + ((Int32.ofInt 3) * (I 59 3))).toNatClampNeg) y7.toInt32) 59 3) + (Int32.ofInt 1)))).toNatClampNeg) ((L 58 9).toInt32)) 59 3) + (Int32.ofInt 2))))) (gE Lx) (ui (ui (ui (ui (ui (ui (ui (ui I 58 0 (Int32.ofInt 0)) 59 (((Int32.ofInt 4) + ((Int32.ofInt 3) * (I 59 3))).toNatClampNeg) (Int32.ofInt 0)) 59 (((Int32.ofInt 5) + ((Int32.ofInt 3) * (I 59 3))).toNatClampNeg) y5.toInt32) 59 (((Int32.ofInt 6) + ((Int32.ofInt 3) * (I 59 3))).toNatClampNeg) y7.toInt32) 59 (((Int32.ofInt 4) + ((Int32.ofInt 3) * (((ui (ui (ui (ui I 58 0 (Int32.ofInt 0)) 59 (((Int32.ofInt 4) + ((Int32.ofInt 3) * (I 59 3))).toNatClampNeg) (Int32.ofInt 0)) 59 (((Int32.ofInt 5) + ((Int32.ofInt 3) * (I 59 3))).toNatClampNeg) y5.toInt32) 59 (((Int32.ofInt 6) + ((Int32.ofInt 3) * (I 59 3))).toNatClampNeg) y7.toInt32) 59 3) + (Int32.ofInt 1)))).toNatClampNeg) (Int32.ofInt 3)) 59 (((Int32.ofInt 5) + ((Int32.ofInt 3) * (((ui (ui (ui (ui I 58 0 (Int32.ofInt 0)) 59 (((Int32.ofInt 4) + ((Int32.ofInt 3) * (I 59 3))).toNatClampNeg) (Int32.ofInt 0)) 59 (((Int32.ofInt 5) + ((Int32.ofInt 3) * (I 59 3))).toNatClampNeg) y5.toInt32) 59 (((Int32.ofInt 6) + ((Int32.ofInt 3) * (I 59 3))).toNatClampNeg) y7.toInt32) 59 3) + (Int32.ofInt 1)))).toNatClampNeg) ((L 58 8).toInt32)) 59 (((Int32.ofInt 6) + ((Int32.ofInt 3) * (((ui (ui (ui (ui I 58 0 (Int32.ofInt 0)) 59 (((Int32.ofInt 4) + ((Int32.ofInt 3) * (I 59 3))).toNatClampNeg) (Int32.ofInt 0)) 59 (((Int32.ofInt 5) + ((Int32.ofInt 3) * (I 59 3))).toNatClampNeg) y5.toInt32) 59 (((Int32.ofInt 6) + ((Int32.ofInt 3) * (I 59 3))).toNatClampNeg) y7.toInt32) 59 3) + (Int32.ofInt 1)))).toNatClampNeg) ((L 58 9).toInt32)) 59 3 (((ui (ui (ui (ui (ui (ui (ui I 58 0 (Int32.ofInt 0)) 59 (((Int32.ofInt 4) + ((Int32.ofInt 3) * (I 59 3))).toNatClampNeg) (Int32.ofInt 0)) 59 (((Int32.ofInt 5) + ((Int32.ofInt 3) * (I 59 3))).toNatClampNeg) y5.toInt32) 59 (((Int32.ofInt 6) + ((Int32.ofInt 3) * (I 59 3))).toNatClampNeg) y7.toInt32) 59 (((Int32.ofInt 4) + ((Int32.ofInt 3) * (((ui (ui (ui (ui I 58 0 (Int32.ofInt 0)) 59 (((Int32.ofInt 4) + ((Int32.ofInt 3) * (I 59 3))).toNatClampNeg) (Int32.ofInt 0)) 59 (((Int32.ofInt 5) + ((Int32.ofInt 3) * (I 59 3))).toNatClampNeg) y5.toInt32) 59 (((Int32.ofInt 6) + ((Int32.ofInt 3) * (I 59 3))).toNatClampNeg) y7.toInt32) 59 3) + (Int32.ofInt 1)))).toNatClampNeg) (Int32.ofInt 3)) 59 (((Int32.ofInt 5) + ((Int32.ofInt 3) * (((ui (ui (ui (ui I 58 0 (Int32.ofInt 0)) 59 (((Int32.ofInt 4) + ((Int32.ofInt 3) * (I 59 3))).toNatClampNeg) (Int32.ofInt 0)) 59 (((Int32.ofInt 5) + ((Int32.ofInt 3) * (I 59 3))).toNatClampNeg) y5.toInt32) 59 (((Int32.ofInt 6) + ((Int32.ofInt 3) * (I 59 3))).toNatClampNeg) y7.toInt32) 59 3) + (Int32.ofInt 1)))).toNatClampNeg) ((L 58 8).toInt32)) 59 (((Int32.ofInt 6) + ((Int32.ofInt 3) * (((ui (ui (ui (ui I 58 0 (Int32.ofInt 0)) 59 (((Int32.ofInt 4) + ((Int32.ofInt 3) * (I 59 3))).toNatClampNeg) (Int32.ofInt 0)) 59 (((Int32.ofInt 5) + ((Int32.ofInt 3) * (I 59 3))).toNatClampNeg) y5.toInt32) 59 (((Int32.ofInt 6) + ((Int32.ofInt 3) * (I 59 3))).toNatClampNeg) y7.toInt32) 59 3) + (Int32.ofInt 1)))).toNatClampNeg) ((L 58 9).toInt32)) 59 3) + (Int32.ofInt 2))) L e)
            False))
           False))
          False))))
       False))
      False))
     False))) :
    Wp 271 150 [(0, .ref 58), (1, .int x1), (3, .int x3), (5, .long y5), (7, .long y7)] [.int r, .ref 58] (gE Lx) I L e Q := by
  refine w_a f_271_150 ?_
  refine i_m (fun h => ?_) (fun h => ?_) h
  · refine w_a f_271_157 ?_
    refine w_a f_271_158 ?_
    refine w_a f_271_161 ?_
    refine w_a f_271_162 ?_
    refine w_a f_271_165 ?_
    refine w_a f_271_168 ?_
    refine w_a f_271_169 ?_
    exact h
  · refine w_a f_271_153 ?_
    refine w_a f_271_154 ?_
    refine w_a f_271_158 ?_
    refine w_a f_271_161 ?_
    refine w_a f_271_162 ?_
    refine w_a f_271_165 ?_
    refine w_a f_271_170 ?_
    refine w_a f_271_171 ?_
    refine w_a f_271_172 ?_
    refine w_a (ls := [(0, .ref 58)]) f_215_0 ?_
    refine w_a f_215_1 ?_
    refine w_a f_215_4 ?_
    refine w_a f_215_5 ?_
    refine w_a f_215_6 ?_
    refine w_a (ls := [(0, .ref 58), (1, .int x1), (3, .int x3), (5, .long y5), (7, .long y7)]) f_271_175 ?_
    refine w_a f_271_176 ?_
    refine w_a f_271_178 ?_
    refine w_a f_271_179 ?_
    refine w_a f_271_181 ?_
    refine w_a f_271_182 ?_
    refine w_a (ls := [(0, .ref 58), (1, .int (I 59 3)), (2, .int (Int32.ofInt 0)), (3, .int y5.toInt32), (4, .int y7.toInt32)]) f_216_0 ?_
    refine w_a f_216_1 ?_
    refine w_a f_216_4 ?_
    refine w_a f_216_5 ?_
    refine w_a f_216_6 ?_
    refine w_a f_216_7 ?_
    refine w_a f_216_8 ?_
    refine w_a f_216_9 ?_
    refine w_a f_216_10 ?_
    refine n_m (fun h => ?_) h
    refine w_a f_216_11 ?_
    refine w_a f_216_12 ?_
    refine w_a f_216_15 ?_
    refine w_a f_216_16 ?_
    refine w_a f_216_17 ?_
    refine w_a f_216_18 ?_
    refine w_a f_216_19 ?_
    refine w_a f_216_20 ?_
    refine w_a f_216_21 ?_
    refine n_m (fun h => ?_) h
    refine w_a f_216_22 ?_
    refine w_a f_216_23 ?_
    refine w_a f_216_26 ?_
    refine w_a f_216_28 ?_
    refine w_a f_216_29 ?_
    refine w_a f_216_30 ?_
    refine w_a f_216_31 ?_
    refine w_a f_216_32 ?_
    refine w_a f_216_34 ?_
    refine n_m (fun h => ?_) h
    refine w_a f_216_35 ?_
    refine w_a (ls := [(0, .ref 58), (1, .int x1), (3, .int x3), (5, .long y5), (7, .long y7)]) f_271_185 ?_
    refine w_a f_271_186 ?_
    refine w_a f_271_187 ?_
    refine w_a (ls := [(0, .ref 58)]) f_215_0 ?_
    refine w_a f_215_1 ?_
    refine w_a f_215_4 ?_
    refine w_a f_215_5 ?_
    refine w_a f_215_6 ?_
    refine w_a (ls := [(0, .ref 58), (1, .int x1), (3, .int x3), (5, .long y5), (7, .long y7)]) f_271_190 ?_
    refine w_a f_271_191 ?_
    refine w_a f_271_192 ?_
    refine w_a f_271_193 ?_
    refine i_m (fun h => ?_) (fun h => ?_) h
    · refine w_a f_271_208 ?_
      refine w_a f_271_209 ?_
      refine i_m (fun h => ?_) (fun h => ?_) h
      · refine w_a f_271_216 ?_
        refine w_a f_271_217 ?_
        refine w_a f_271_218 ?_
        refine w_a f_271_221 ?_
        refine w_a f_271_222 ?_
        refine w_a f_271_223 ?_
        refine w_a f_271_226 ?_
        refine w_a f_271_227 ?_
        refine w_a (ls := [(0, .ref 58), (1, .int (((ui (ui (ui (ui I 58 0 (Int32.ofInt 0)) 59 (((Int32.ofInt 4) + ((Int32.ofInt 3) * (I 59 3))).toNatClampNeg) (Int32.ofInt 0)) 59 (((Int32.ofInt 5) + ((Int32.ofInt 3) * (I 59 3))).toNatClampNeg) y5.toInt32) 59 (((Int32.ofInt 6) + ((Int32.ofInt 3) * (I 59 3))).toNatClampNeg) y7.toInt32) 59 3) + (Int32.ofInt 1))), (2, .int (Int32.ofInt 2)), (3, .int (L 58 8).toInt32), (4, .int (L 58 9).toInt32)]) f_216_0 ?_
        refine w_a f_216_1 ?_
        refine w_a f_216_4 ?_
        refine w_a f_216_5 ?_
        refine w_a f_216_6 ?_
        refine w_a f_216_7 ?_
        refine w_a f_216_8 ?_
        refine w_a f_216_9 ?_
        refine w_a f_216_10 ?_
        refine n_m (fun h => ?_) h
        refine w_a f_216_11 ?_
        refine w_a f_216_12 ?_
        refine w_a f_216_15 ?_
        refine w_a f_216_16 ?_
        refine w_a f_216_17 ?_
        refine w_a f_216_18 ?_
        refine w_a f_216_19 ?_
        refine w_a f_216_20 ?_
        refine w_a f_216_21 ?_
        refine n_m (fun h => ?_) h
        refine w_a f_216_22 ?_
        refine w_a f_216_23 ?_
        refine w_a f_216_26 ?_
        refine w_a f_216_28 ?_
        refine w_a f_216_29 ?_
        refine w_a f_216_30 ?_
        refine w_a f_216_31 ?_
        refine w_a f_216_32 ?_
        refine w_a f_216_34 ?_
        refine n_m (fun h => ?_) h
        refine w_a f_216_35 ?_
        refine w_a (ls := [(0, .ref 58), (1, .int x1), (3, .int x3), (5, .long y5), (7, .long y7)]) f_271_230 ?_
        refine w_a f_271_231 ?_
        refine w_a f_271_234 ?_
        refine w_a f_271_235 ?_
        refine w_a f_271_236 ?_
        refine w_a f_271_237 ?_
        refine w_a f_271_238 ?_
        refine w_a f_271_239 ?_
        refine w_a f_271_240 ?_
        refine w_a f_271_241 ?_
        refine w_a (ls := [(0, .ref 58)]) f_215_0 ?_
        refine w_a f_215_1 ?_
        refine w_a f_215_4 ?_
        refine w_a f_215_5 ?_
        refine w_a f_215_6 ?_
        refine w_a (ls := [(0, .ref 58), (1, .int x1), (3, .int x3), (5, .long y5), (7, .long y7)]) f_271_244 ?_
        exact h
      · refine w_a f_271_212 ?_
        refine w_a f_271_213 ?_
        refine w_a f_271_217 ?_
        refine w_a f_271_218 ?_
        refine w_a f_271_221 ?_
        refine w_a f_271_222 ?_
        refine w_a f_271_223 ?_
        refine w_a f_271_226 ?_
        refine w_a f_271_227 ?_
        refine w_a (ls := [(0, .ref 58), (1, .int (((ui (ui (ui (ui I 58 0 (Int32.ofInt 0)) 59 (((Int32.ofInt 4) + ((Int32.ofInt 3) * (I 59 3))).toNatClampNeg) (Int32.ofInt 0)) 59 (((Int32.ofInt 5) + ((Int32.ofInt 3) * (I 59 3))).toNatClampNeg) y5.toInt32) 59 (((Int32.ofInt 6) + ((Int32.ofInt 3) * (I 59 3))).toNatClampNeg) y7.toInt32) 59 3) + (Int32.ofInt 1))), (2, .int (Int32.ofInt 1)), (3, .int (L 58 8).toInt32), (4, .int (L 58 9).toInt32)]) f_216_0 ?_
        refine w_a f_216_1 ?_
        refine w_a f_216_4 ?_
        refine w_a f_216_5 ?_
        refine w_a f_216_6 ?_
        refine w_a f_216_7 ?_
        refine w_a f_216_8 ?_
        refine w_a f_216_9 ?_
        refine w_a f_216_10 ?_
        refine n_m (fun h => ?_) h
        refine w_a f_216_11 ?_
        refine w_a f_216_12 ?_
        refine w_a f_216_15 ?_
        refine w_a f_216_16 ?_
        refine w_a f_216_17 ?_
        refine w_a f_216_18 ?_
        refine w_a f_216_19 ?_
        refine w_a f_216_20 ?_
        refine w_a f_216_21 ?_
        refine n_m (fun h => ?_) h
        refine w_a f_216_22 ?_
        refine w_a f_216_23 ?_
        refine w_a f_216_26 ?_
        refine w_a f_216_28 ?_
        refine w_a f_216_29 ?_
        refine w_a f_216_30 ?_
        refine w_a f_216_31 ?_
        refine w_a f_216_32 ?_
        refine w_a f_216_34 ?_
        refine n_m (fun h => ?_) h
        refine w_a f_216_35 ?_
        refine w_a (ls := [(0, .ref 58), (1, .int x1), (3, .int x3), (5, .long y5), (7, .long y7)]) f_271_230 ?_
        refine w_a f_271_231 ?_
        refine w_a f_271_234 ?_
        refine w_a f_271_235 ?_
        refine w_a f_271_236 ?_
        refine w_a f_271_237 ?_
        refine w_a f_271_238 ?_
        refine w_a f_271_239 ?_
        refine w_a f_271_240 ?_
        refine w_a f_271_241 ?_
        refine w_a (ls := [(0, .ref 58)]) f_215_0 ?_
        refine w_a f_215_1 ?_
        refine w_a f_215_4 ?_
        refine w_a f_215_5 ?_
        refine w_a f_215_6 ?_
        refine w_a (ls := [(0, .ref 58), (1, .int x1), (3, .int x3), (5, .long y5), (7, .long y7)]) f_271_244 ?_
        exact h
    · refine w_a f_271_196 ?_
      refine w_a f_271_197 ?_
      refine i_m (fun h => ?_) (fun h => ?_) h
      · refine w_a f_271_204 ?_
        refine w_a f_271_205 ?_
        refine w_a f_271_217 ?_
        refine w_a f_271_218 ?_
        refine w_a f_271_221 ?_
        refine w_a f_271_222 ?_
        refine w_a f_271_223 ?_
        refine w_a f_271_226 ?_
        refine w_a f_271_227 ?_
        refine w_a (ls := [(0, .ref 58), (1, .int (((ui (ui (ui (ui I 58 0 (Int32.ofInt 0)) 59 (((Int32.ofInt 4) + ((Int32.ofInt 3) * (I 59 3))).toNatClampNeg) (Int32.ofInt 0)) 59 (((Int32.ofInt 5) + ((Int32.ofInt 3) * (I 59 3))).toNatClampNeg) y5.toInt32) 59 (((Int32.ofInt 6) + ((Int32.ofInt 3) * (I 59 3))).toNatClampNeg) y7.toInt32) 59 3) + (Int32.ofInt 1))), (2, .int (Int32.ofInt 4)), (3, .int (L 58 8).toInt32), (4, .int (L 58 9).toInt32)]) f_216_0 ?_
        refine w_a f_216_1 ?_
        refine w_a f_216_4 ?_
        refine w_a f_216_5 ?_
        refine w_a f_216_6 ?_
        refine w_a f_216_7 ?_
        refine w_a f_216_8 ?_
        refine w_a f_216_9 ?_
        refine w_a f_216_10 ?_
        refine n_m (fun h => ?_) h
        refine w_a f_216_11 ?_
        refine w_a f_216_12 ?_
        refine w_a f_216_15 ?_
        refine w_a f_216_16 ?_
        refine w_a f_216_17 ?_
        refine w_a f_216_18 ?_
        refine w_a f_216_19 ?_
        refine w_a f_216_20 ?_
        refine w_a f_216_21 ?_
        refine n_m (fun h => ?_) h
        refine w_a f_216_22 ?_
        refine w_a f_216_23 ?_
        refine w_a f_216_26 ?_
        refine w_a f_216_28 ?_
        refine w_a f_216_29 ?_
        refine w_a f_216_30 ?_
        refine w_a f_216_31 ?_
        refine w_a f_216_32 ?_
        refine w_a f_216_34 ?_
        refine n_m (fun h => ?_) h
        refine w_a f_216_35 ?_
        refine w_a (ls := [(0, .ref 58), (1, .int x1), (3, .int x3), (5, .long y5), (7, .long y7)]) f_271_230 ?_
        refine w_a f_271_231 ?_
        refine w_a f_271_234 ?_
        refine w_a f_271_235 ?_
        refine w_a f_271_236 ?_
        refine w_a f_271_237 ?_
        refine w_a f_271_238 ?_
        refine w_a f_271_239 ?_
        refine w_a f_271_240 ?_
        refine w_a f_271_241 ?_
        refine w_a (ls := [(0, .ref 58)]) f_215_0 ?_
        refine w_a f_215_1 ?_
        refine w_a f_215_4 ?_
        refine w_a f_215_5 ?_
        refine w_a f_215_6 ?_
        refine w_a (ls := [(0, .ref 58), (1, .int x1), (3, .int x3), (5, .long y5), (7, .long y7)]) f_271_244 ?_
        exact h
      · refine w_a f_271_200 ?_
        refine w_a f_271_201 ?_
        refine w_a f_271_217 ?_
        refine w_a f_271_218 ?_
        refine w_a f_271_221 ?_
        refine w_a f_271_222 ?_
        refine w_a f_271_223 ?_
        refine w_a f_271_226 ?_
        refine w_a f_271_227 ?_
        refine w_a (ls := [(0, .ref 58), (1, .int (((ui (ui (ui (ui I 58 0 (Int32.ofInt 0)) 59 (((Int32.ofInt 4) + ((Int32.ofInt 3) * (I 59 3))).toNatClampNeg) (Int32.ofInt 0)) 59 (((Int32.ofInt 5) + ((Int32.ofInt 3) * (I 59 3))).toNatClampNeg) y5.toInt32) 59 (((Int32.ofInt 6) + ((Int32.ofInt 3) * (I 59 3))).toNatClampNeg) y7.toInt32) 59 3) + (Int32.ofInt 1))), (2, .int (Int32.ofInt 3)), (3, .int (L 58 8).toInt32), (4, .int (L 58 9).toInt32)]) f_216_0 ?_
        refine w_a f_216_1 ?_
        refine w_a f_216_4 ?_
        refine w_a f_216_5 ?_
        refine w_a f_216_6 ?_
        refine w_a f_216_7 ?_
        refine w_a f_216_8 ?_
        refine w_a f_216_9 ?_
        refine w_a f_216_10 ?_
        refine n_m (fun h => ?_) h
        refine w_a f_216_11 ?_
        refine w_a f_216_12 ?_
        refine w_a f_216_15 ?_
        refine w_a f_216_16 ?_
        refine w_a f_216_17 ?_
        refine w_a f_216_18 ?_
        refine w_a f_216_19 ?_
        refine w_a f_216_20 ?_
        refine w_a f_216_21 ?_
        refine n_m (fun h => ?_) h
        refine w_a f_216_22 ?_
        refine w_a f_216_23 ?_
        refine w_a f_216_26 ?_
        refine w_a f_216_28 ?_
        refine w_a f_216_29 ?_
        refine w_a f_216_30 ?_
        refine w_a f_216_31 ?_
        refine w_a f_216_32 ?_
        refine w_a f_216_34 ?_
        refine n_m (fun h => ?_) h
        refine w_a f_216_35 ?_
        refine w_a (ls := [(0, .ref 58), (1, .int x1), (3, .int x3), (5, .long y5), (7, .long y7)]) f_271_230 ?_
        refine w_a f_271_231 ?_
        refine w_a f_271_234 ?_
        refine w_a f_271_235 ?_
        refine w_a f_271_236 ?_
        refine w_a f_271_237 ?_
        refine w_a f_271_238 ?_
        refine w_a f_271_239 ?_
        refine w_a f_271_240 ?_
        refine w_a f_271_241 ?_
        refine w_a (ls := [(0, .ref 58)]) f_215_0 ?_
        refine w_a f_215_1 ?_
        refine w_a f_215_4 ?_
        refine w_a f_215_5 ?_
        refine w_a f_215_6 ?_
        refine w_a (ls := [(0, .ref 58), (1, .int x1), (3, .int x3), (5, .long y5), (7, .long y7)]) f_271_244 ?_
        exact h
set_option maxRecDepth 10000 in
set_option maxHeartbeats 4000000 in
theorem s_272_4 {Lx : Nat} {I : Mi} {L : Ml} {e : Nat} {Q : Kq} {y2 : Int64} {rl : Int64} (h :
    (if (Int64.ofInt 12) < rl then
     Q (.inl (some (.int (Int32.ofInt 0)))) (gE Lx) I L e
    else
     (if (Int64.ofInt 12) < y2 then
      Q (.inl (some (.int (Int32.ofInt 0)))) (gE Lx) I L e
     else
      Q (.inl (some (.int (Int32.ofInt 1)))) (gE Lx) I L e))) :
    Wp 272 4 [(2, .long y2)] [.long rl] (gE Lx) I L e Q := by
  refine w_a f_272_4 ?_
  refine w_a f_272_7 ?_
  refine i_m (fun h => ?_) (fun h => ?_) h
  · refine w_a f_272_23 ?_
    refine w_a f_272_24 ?_
    exact h
  · refine w_a f_272_11 ?_
    refine w_a f_272_12 ?_
    refine w_a f_272_15 ?_
    refine i_m (fun h => ?_) (fun h => ?_) h
    · refine w_a f_272_23 ?_
      refine w_a f_272_24 ?_
      exact h
    · refine w_a f_272_19 ?_
      refine w_a f_272_20 ?_
      refine w_a f_272_24 ?_
      exact h
set_option maxRecDepth 10000 in
set_option maxHeartbeats 4000000 in
theorem s_273_19 {Lx : Nat} {I : Mi} {L : Ml} {e : Nat} {Q : Kq} {x2 : Int32} {x3 : Int32} {r : Int32} (h :
    (if r = 0 then
     Q (.inl (some (.long (Int64.ofInt 0)))) (gE Lx) (ui I 58 0 (Int32.ofInt 2)) L e
    else
     Wp 228 0 [(0, .ref 58), (1, .long (L 58 14)), (3, .long (L 58 15)), (5, .long (L 58 16)), (7, .long (Int64.ofInt 0))] [] (gE Lx) (ui I 58 0 (Int32.ofInt 0)) L e (kcp (Wp 276) 276 14 0 [(0, .ref 58)] 71 [] (kcp (Wp 273) 273 40 0 [(0, .ref 58), (2, .int x2), (3, .int x3)] 71 [] Q)))) :
    Wp 273 19 [(0, .ref 58), (2, .int x2), (3, .int x3)] [.int r, .ref 58] (gE Lx) I L e Q := by
  refine w_a f_273_19 ?_
  refine i_m (fun h => ?_) (fun h => ?_) h
  · refine w_a f_273_22 ?_
    refine w_a f_273_23 ?_
    refine w_a f_273_27 ?_
    refine w_a f_273_30 ?_
    refine w_a f_273_31 ?_
    refine w_a f_273_34 ?_
    refine w_a f_273_37 ?_
    refine w_a f_273_38 ?_
    exact h
  · refine w_a f_273_26 ?_
    refine w_a f_273_27 ?_
    refine w_a f_273_30 ?_
    refine w_a f_273_31 ?_
    refine w_a f_273_34 ?_
    refine w_a f_273_39 ?_
    refine w_c (ks := [0, 2, 3]) f_273_40 rfl rfl ?_
    refine w_a (ls := [(0, .ref 58)]) f_276_0 ?_
    refine w_a f_276_1 ?_
    refine w_a f_276_2 ?_
    refine w_a f_276_5 ?_
    refine w_a f_276_6 ?_
    refine w_a f_276_9 ?_
    refine w_a f_276_10 ?_
    refine w_a f_276_13 ?_
    exact w_c (ks := [0]) f_276_14 rfl rfl h
set_option maxRecDepth 10000 in
set_option maxHeartbeats 4000000 in
theorem s_273_43 {Lx : Nat} {I : Mi} {L : Ml} {e : Nat} {Q : Kq} {x2 : Int32} {x3 : Int32} (h :
    (if x2 = 0 then
     Wp 236 0 [(0, .ref 58), (1, .long (((L 58 10) * (L 58 12)) + ((L 58 11) * (L 58 13)))), (3, .long (((L 58 10) * (L 58 10)) + ((L 58 11) * (L 58 11))))] [] (gE Lx) I L e (kcp (Wp 273) 273 53 0 [(0, .ref 58), (3, .int x3)] 71 [] Q)
    else
     Wp 236 0 [(0, .ref 58), (1, .long (((L 58 10) * (L 58 12)) + ((L 58 11) * (L 58 13)))), (3, .long (((L 58 12) * (L 58 12)) + ((L 58 13) * (L 58 13))))] [] (gE Lx) I L e (kcp (Wp 273) 273 53 0 [(0, .ref 58), (3, .int x3)] 71 [] Q))) :
    Wp 273 43 [(0, .ref 58), (2, .int x2), (3, .int x3)] [] (gE Lx) I L e Q := by
  refine w_a f_273_43 ?_
  refine w_a f_273_44 ?_
  refine w_a f_273_45 ?_
  refine w_a (ls := [(0, .ref 58)]) f_277_0 ?_
  refine w_a f_277_1 ?_
  refine w_a f_277_4 ?_
  refine w_a f_277_5 ?_
  refine w_a f_277_8 ?_
  refine w_a f_277_9 ?_
  refine w_a f_277_10 ?_
  refine w_a f_277_13 ?_
  refine w_a f_277_14 ?_
  refine w_a f_277_17 ?_
  refine w_a f_277_18 ?_
  refine w_a f_277_19 ?_
  refine w_a (ls := [(0, .ref 58), (2, .int x2), (3, .int x3)]) f_273_48 ?_
  refine w_a f_273_49 ?_
  refine w_a f_273_50 ?_
  refine w_a (ls := [(0, .ref 58), (1, .int x2)]) f_278_0 ?_
  refine w_a f_278_1 ?_
  refine i_m (fun h => ?_) (fun h => ?_) h
  · refine w_a f_278_18 ?_
    refine w_a f_278_19 ?_
    refine w_a f_278_22 ?_
    refine w_a f_278_23 ?_
    refine w_a f_278_26 ?_
    refine w_a (ls := [(0, .long (L 58 10)), (2, .long (L 58 11))]) f_235_0 ?_
    refine w_a f_235_1 ?_
    refine w_a f_235_2 ?_
    refine w_a f_235_3 ?_
    refine w_a f_235_4 ?_
    refine w_a f_235_5 ?_
    refine w_a f_235_6 ?_
    refine w_a f_235_7 ?_
    refine w_a (ls := [(0, .ref 58), (1, .int x2)]) f_278_29 ?_
    exact w_c (ls := [(0, .ref 58), (2, .int x2), (3, .int x3)]) (ks := [0, 3]) f_273_53 rfl rfl h
  · refine w_a f_278_4 ?_
    refine w_a f_278_5 ?_
    refine w_a f_278_8 ?_
    refine w_a f_278_9 ?_
    refine w_a f_278_12 ?_
    refine w_a (ls := [(0, .long (L 58 12)), (2, .long (L 58 13))]) f_235_0 ?_
    refine w_a f_235_1 ?_
    refine w_a f_235_2 ?_
    refine w_a f_235_3 ?_
    refine w_a f_235_4 ?_
    refine w_a f_235_5 ?_
    refine w_a f_235_6 ?_
    refine w_a f_235_7 ?_
    refine w_a (ls := [(0, .ref 58), (1, .int x2)]) f_278_15 ?_
    refine w_a f_278_29 ?_
    exact w_c (ls := [(0, .ref 58), (2, .int x2), (3, .int x3)]) (ks := [0, 3]) f_273_53 rfl rfl h
set_option maxRecDepth 10000 in
set_option maxHeartbeats 4000000 in
theorem s_273_56 {Lx : Nat} {I : Mi} {L : Ml} {e : Nat} {Q : Kq} {x3 : Int32} (h :
    (if x3 = 0 then
     Q (.inl (some (.long (L 58 8)))) (gE Lx) I L e
    else
     Q (.inl (some (.long (L 58 9)))) (gE Lx) I L e)) :
    Wp 273 56 [(0, .ref 58), (3, .int x3)] [] (gE Lx) I L e Q := by
  refine w_a f_273_56 ?_
  refine w_a f_273_57 ?_
  refine w_a f_273_58 ?_
  refine w_a (ls := [(0, .ref 58), (1, .int x3)]) f_237_0 ?_
  refine w_a f_237_1 ?_
  refine i_m (fun h => ?_) (fun h => ?_) h
  · refine w_a f_237_11 ?_
    refine w_a f_237_12 ?_
    refine w_a f_237_15 ?_
    refine w_a (ls := [(0, .ref 58), (3, .int x3)]) f_273_61 ?_
    exact h
  · refine w_a f_237_4 ?_
    refine w_a f_237_5 ?_
    refine w_a f_237_8 ?_
    refine w_a f_237_15 ?_
    refine w_a (ls := [(0, .ref 58), (3, .int x3)]) f_273_61 ?_
    exact h
set_option maxRecDepth 10000 in
set_option maxHeartbeats 4000000 in
theorem s_274_5 {Lx : Nat} {I : Mi} {L : Ml} {e : Nat} {Q : Kq} {x2 : Int32} {r : Int32} (h :
    (if r = 0 then
     Q (.inl (some (.int (Int32.ofInt 0)))) (gE Lx) I L e
    else
     (if x2 = 0 then
      (if (L 58 14) = (Int64.ofInt 0) then
       (if (L 58 15) = (Int64.ofInt 0) then
        Q (.inl (some (.int (Int32.ofInt 0)))) (gE Lx) I L e
       else
        Q (.inl (some (.int (Int32.ofInt 1)))) (gE Lx) I L e)
      else
       Q (.inl (some (.int (Int32.ofInt 1)))) (gE Lx) I L e)
     else
      Q (.inl (some (.int (Int32.ofInt 1)))) (gE Lx) I L e))) :
    Wp 274 5 [(0, .ref 58), (2, .int x2)] [.int r] (gE Lx) I L e Q := by
  refine w_a f_274_5 ?_
  refine i_m (fun h => ?_) (fun h => ?_) h
  · refine w_a f_274_23 ?_
    refine w_a f_274_24 ?_
    exact h
  · refine w_a f_274_8 ?_
    refine w_a f_274_9 ?_
    refine i_m (fun h => ?_) (fun h => ?_) h
    · refine w_a f_274_12 ?_
      refine w_a f_274_13 ?_
      refine w_a (ls := [(0, .ref 58)]) f_275_0 ?_
      refine w_a f_275_1 ?_
      refine w_a f_275_4 ?_
      refine w_a f_275_5 ?_
      refine i_m (fun h => ?_) (fun h => ?_) h
      · refine w_a f_275_9 ?_
        refine w_a f_275_10 ?_
        refine w_a f_275_13 ?_
        refine w_a f_275_14 ?_
        refine i_m (fun h => ?_) (fun h => ?_) h
        · refine w_a f_275_18 ?_
          refine w_a f_275_19 ?_
          refine w_a f_275_23 ?_
          refine w_a (ls := [(0, .ref 58), (2, .int x2)]) f_274_16 ?_
          refine w_a f_274_23 ?_
          refine w_a f_274_24 ?_
          exact h
        · refine w_a f_275_22 ?_
          refine w_a f_275_23 ?_
          refine w_a (ls := [(0, .ref 58), (2, .int x2)]) f_274_16 ?_
          refine w_a f_274_19 ?_
          refine w_a f_274_20 ?_
          refine w_a f_274_24 ?_
          exact h
      · refine w_a f_275_22 ?_
        refine w_a f_275_23 ?_
        refine w_a (ls := [(0, .ref 58), (2, .int x2)]) f_274_16 ?_
        refine w_a f_274_19 ?_
        refine w_a f_274_20 ?_
        refine w_a f_274_24 ?_
        exact h
    · refine w_a f_274_19 ?_
      refine w_a f_274_20 ?_
      refine w_a f_274_24 ?_
      exact h
set_option maxRecDepth 10000 in
set_option maxHeartbeats 4000000 in
theorem s_276_17 {Lx : Nat} {I : Mi} {L : Ml} {e : Nat} {Q : Kq} (h :
    Q (.inl none) (gE Lx) I L e) :
    Wp 276 17 [(0, .ref 58)] [] (gE Lx) I L e Q := by
  refine w_a f_276_17 ?_
  exact h
set_option maxRecDepth 10000 in
set_option maxHeartbeats 4000000 in
theorem s_279_6 {Lx : Nat} {I : Mi} {L : Ml} {e : Nat} {Q : Kq} {x1 : Int32} {x2 : Int32} {x3 : Int32} {r : Int32} (h :
    (if r = 0 then
     Q (.inl (some (.int (Int32.ofInt 0)))) (gE Lx) (ui I 58 0 (Int32.ofInt 1)) L e
    else
     Wp 236 0 [(0, .ref 58), (1, .long ((x1.toInt64 * x1.toInt64) + (x2.toInt64 * x2.toInt64))), (3, .long (x1.toInt64 * x1.toInt64))] [] (gE Lx) (ui I 58 0 (Int32.ofInt 0)) L e (kcp (Wp 279) 279 39 0 [(0, .ref 58), (3, .int x3)] 71 [] Q))) :
    Wp 279 6 [(0, .ref 58), (1, .int x1), (2, .int x2), (3, .int x3)] [.int r, .ref 58] (gE Lx) I L e Q := by
  refine w_a f_279_6 ?_
  refine i_m (fun h => ?_) (fun h => ?_) h
  · refine w_a f_279_13 ?_
    refine w_a f_279_14 ?_
    refine w_a f_279_17 ?_
    refine w_a f_279_18 ?_
    refine w_a f_279_21 ?_
    refine w_a f_279_24 ?_
    refine w_a f_279_25 ?_
    exact h
  · refine w_a f_279_9 ?_
    refine w_a f_279_10 ?_
    refine w_a f_279_14 ?_
    refine w_a f_279_17 ?_
    refine w_a f_279_18 ?_
    refine w_a f_279_21 ?_
    refine w_a f_279_26 ?_
    refine w_a f_279_27 ?_
    refine w_a f_279_28 ?_
    refine w_a f_279_29 ?_
    refine w_a f_279_30 ?_
    refine w_a f_279_31 ?_
    refine w_a (ls := [(0, .long x1.toInt64), (2, .long x2.toInt64)]) f_235_0 ?_
    refine w_a f_235_1 ?_
    refine w_a f_235_2 ?_
    refine w_a f_235_3 ?_
    refine w_a f_235_4 ?_
    refine w_a f_235_5 ?_
    refine w_a f_235_6 ?_
    refine w_a f_235_7 ?_
    refine w_a (ls := [(0, .ref 58), (1, .int x1), (2, .int x2), (3, .int x3)]) f_279_34 ?_
    refine w_a f_279_35 ?_
    refine w_a f_279_36 ?_
    refine w_a f_279_37 ?_
    refine w_a f_279_38 ?_
    exact w_c (ks := [0, 3]) f_279_39 rfl rfl h
set_option maxRecDepth 10000 in
set_option maxHeartbeats 4000000 in
theorem s_279_42 {Lx : Nat} {I : Mi} {L : Ml} {e : Nat} {Q : Kq} {x3 : Int32} (h :
    (if x3 = 0 then
     Q (.inl (some (.int (L 58 8).toInt32))) (gE Lx) I L e
    else
     Q (.inl (some (.int (L 58 9).toInt32))) (gE Lx) I L e)) :
    Wp 279 42 [(0, .ref 58), (3, .int x3)] [] (gE Lx) I L e Q := by
  refine w_a f_279_42 ?_
  refine w_a f_279_43 ?_
  refine w_a f_279_44 ?_
  refine w_a (ls := [(0, .ref 58), (1, .int x3)]) f_237_0 ?_
  refine w_a f_237_1 ?_
  refine i_m (fun h => ?_) (fun h => ?_) h
  · refine w_a f_237_11 ?_
    refine w_a f_237_12 ?_
    refine w_a f_237_15 ?_
    refine w_a (ls := [(0, .ref 58), (3, .int x3)]) f_279_47 ?_
    refine w_a f_279_48 ?_
    exact h
  · refine w_a f_237_4 ?_
    refine w_a f_237_5 ?_
    refine w_a f_237_8 ?_
    refine w_a f_237_15 ?_
    refine w_a (ls := [(0, .ref 58), (3, .int x3)]) f_279_47 ?_
    refine w_a f_279_48 ?_
    exact h
set_option maxRecDepth 10000 in
set_option maxHeartbeats 4000000 in
theorem s_280_5 {Lx : Nat} {I : Mi} {L : Ml} {e : Nat} {Q : Kq} {x0 : Int32} {r : Int32} (h :
    (if r = 0 then
     Q (.inl (some (.int (Int32.ofInt 0)))) (gE Lx) I L e
    else
     (if x0 = 0 then
      Q (.inl (some (.int (Int32.ofInt 0)))) (gE Lx) I L e
     else
      Q (.inl (some (.int (Int32.ofInt 1)))) (gE Lx) I L e))) :
    Wp 280 5 [(0, .int x0)] [.int r] (gE Lx) I L e Q := by
  refine w_a f_280_5 ?_
  refine i_m (fun h => ?_) (fun h => ?_) h
  · refine w_a f_280_16 ?_
    refine w_a f_280_17 ?_
    exact h
  · refine w_a f_280_8 ?_
    refine w_a f_280_9 ?_
    refine i_m (fun h => ?_) (fun h => ?_) h
    · refine w_a f_280_16 ?_
      refine w_a f_280_17 ?_
      exact h
    · refine w_a f_280_12 ?_
      refine w_a f_280_13 ?_
      refine w_a f_280_17 ?_
      exact h
set_option maxRecDepth 10000 in
set_option maxHeartbeats 4000000 in
theorem s_281_10 {Lx : Nat} {I : Mi} {L : Ml} {e : Nat} {Q : Kq} {x2 : Int32} {x3 : Int32} {x4 : Int32} {r : Int32} (h :
    (if 0 < r then
     Q (.inl (some (.int (Int32.ofInt 0)))) (gE Lx) (ui I 58 0 r) L e
    else
     Wp 283 0 [(0, .ref 58), (1, .int x2), (2, .int x3), (3, .int x4)] [] (gE Lx) (ui I 58 0 r) L e (kcp (Wp 281) 281 27 0 [(0, .ref 58)] 71 [] Q))) :
    Wp 281 10 [(0, .ref 58), (2, .int x2), (3, .int x3), (4, .int x4)] [.int r, .ref 58] (gE Lx) I L e Q := by
  refine w_a f_281_10 ?_
  refine w_a f_281_13 ?_
  refine w_a f_281_14 ?_
  refine w_a f_281_17 ?_
  refine i_m (fun h => ?_) (fun h => ?_) h
  · refine w_a f_281_20 ?_
    refine w_a f_281_21 ?_
    exact h
  · refine w_a f_281_22 ?_
    refine w_a f_281_23 ?_
    refine w_a f_281_24 ?_
    refine w_a f_281_25 ?_
    exact w_c (ks := [0]) f_281_27 rfl rfl h
set_option maxRecDepth 10000 in
set_option maxHeartbeats 4000000 in
theorem s_281_30 {Lx : Nat} {I : Mi} {L : Ml} {e : Nat} {Q : Kq} (h :
    (if (L 58 21) = (Int64.ofInt 0) then
     Q (.inl (some (.int (Int32.ofInt 0)))) (gE Lx) I L e
    else
     (if (L 58 23) < (Int64.ofInt 0) then
      Q (.inl (some (.int (Int32.ofInt 0)))) (gE Lx) I L e
     else
      (if (L 58 23) = (Int64.ofInt 0) then
       Q (.inl (some (.int (Int32.ofInt 1)))) (gE Lx) I L e
      else
       Q (.inl (some (.int (Int32.ofInt 2)))) (gE Lx) I L e)))) :
    Wp 281 30 [(0, .ref 58)] [] (gE Lx) I L e Q := by
  refine w_a f_281_30 ?_
  refine w_a f_281_31 ?_
  refine w_a (ls := [(0, .ref 58)]) f_284_0 ?_
  refine w_a f_284_1 ?_
  refine w_a f_284_4 ?_
  refine w_a f_284_5 ?_
  refine i_m (fun h => ?_) (fun h => ?_) h
  · refine w_a f_284_18 ?_
    refine w_a f_284_19 ?_
    refine w_a f_284_36 ?_
    refine w_a (ls := [(0, .ref 58)]) f_281_34 ?_
    exact h
  · refine w_a f_284_9 ?_
    refine w_a f_284_10 ?_
    refine w_a f_284_13 ?_
    refine w_a f_284_14 ?_
    refine i_m (fun h => ?_) (fun h => ?_) h
    · refine w_a f_284_18 ?_
      refine w_a f_284_19 ?_
      refine w_a f_284_36 ?_
      refine w_a (ls := [(0, .ref 58)]) f_281_34 ?_
      exact h
    · refine w_a f_284_22 ?_
      refine w_a f_284_23 ?_
      refine w_a f_284_26 ?_
      refine w_a f_284_27 ?_
      refine i_m (fun h => ?_) (fun h => ?_) h
      · refine w_a f_284_31 ?_
        refine w_a f_284_32 ?_
        refine w_a f_284_36 ?_
        refine w_a (ls := [(0, .ref 58)]) f_281_34 ?_
        exact h
      · refine w_a f_284_35 ?_
        refine w_a f_284_36 ?_
        refine w_a (ls := [(0, .ref 58)]) f_281_34 ?_
        exact h
set_option maxRecDepth 10000 in
set_option maxHeartbeats 4000000 in
theorem s_282_18 {Lx : Nat} {I : Mi} {L : Ml} {e : Nat} {Q : Kq} {x1 : Int32} {x2 : Int32} {r : Int32} (h :
    (if r = 0 then
     Q (.inl (some (.int (Int32.ofInt 2)))) (gE Lx) I L e
    else
     Wp 251 0 [(0, .ref 58), (1, .int x1)] [] (gE Lx) I L e (kcp (Wp 274) 274 2 0 [(0, .ref 58), (2, .int x2)] 71 [] (kcp (Wp 282) 282 28 0 [(0, .ref 58)] 71 [] Q)))) :
    Wp 282 18 [(0, .ref 58), (1, .int x1), (2, .int x2)] [.int r] (gE Lx) I L e Q := by
  refine w_a f_282_18 ?_
  refine i_m (fun h => ?_) (fun h => ?_) h
  · refine w_a f_282_21 ?_
    refine w_a f_282_22 ?_
    refine w_a f_282_39 ?_
    exact h
  · refine w_a f_282_25 ?_
    refine w_a f_282_26 ?_
    refine w_a f_282_27 ?_
    refine w_c (ks := [0]) f_282_28 rfl rfl ?_
    refine w_a (ls := [(0, .ref 58), (1, .int x1), (2, .int x2)]) f_274_0 ?_
    refine w_a f_274_1 ?_
    exact w_c (ks := [0, 2]) f_274_2 rfl rfl h
set_option maxRecDepth 10000 in
set_option maxHeartbeats 4000000 in
theorem s_282_31 {Lx : Nat} {I : Mi} {L : Ml} {e : Nat} {Q : Kq} {r : Int32} (h :
    (if r = 0 then
     Q (.inl (some (.int (Int32.ofInt 3)))) (gE Lx) I L e
    else
     Q (.inl (some (.int (Int32.ofInt 0)))) (gE Lx) I L e)) :
    Wp 282 31 [(0, .ref 58)] [.int r] (gE Lx) I L e Q := by
  refine w_a f_282_31 ?_
  refine i_m (fun h => ?_) (fun h => ?_) h
  · refine w_a f_282_34 ?_
    refine w_a f_282_35 ?_
    refine w_a f_282_39 ?_
    exact h
  · refine w_a f_282_38 ?_
    refine w_a f_282_39 ?_
    exact h
set_option maxRecDepth 10000 in
set_option maxHeartbeats 4000000 in
theorem s_283_0 {Lx : Nat} {I : Mi} {L : Ml} {e : Nat} {Q : Kq} {x1 : Int32} {x2 : Int32} {x3 : Int32} (h :
    Wp 228 0 [(0, .ref 58), (1, .long (L 58 14)), (3, .long (L 58 15)), (5, .long (L 58 16)), (7, .long (Int64.ofInt 0))] [] (gE Lx) I L e (kcp (Wp 276) 276 14 0 [(0, .ref 58)] 71 [] (kcp (Wp 283) 283 1 0 [(0, .ref 58), (1, .int x1), (2, .int x2), (3, .int x3)] 71 [] Q))) :
    Wp 283 0 [(0, .ref 58), (1, .int x1), (2, .int x2), (3, .int x3)] [] (gE Lx) I L e Q := by
  refine w_a f_283_0 ?_
  refine w_c (ks := [0, 1, 2, 3]) f_283_1 rfl rfl ?_
  refine w_a (ls := [(0, .ref 58)]) f_276_0 ?_
  refine w_a f_276_1 ?_
  refine w_a f_276_2 ?_
  refine w_a f_276_5 ?_
  refine w_a f_276_6 ?_
  refine w_a f_276_9 ?_
  refine w_a f_276_10 ?_
  refine w_a f_276_13 ?_
  exact w_c (ks := [0]) f_276_14 rfl rfl h
set_option maxRecDepth 10000 in
set_option maxHeartbeats 4000000 in
theorem s_283_4 {Lx : Nat} {I : Mi} {L : Ml} {e : Nat} {Q : Kq} {x1 : Int32} {x2 : Int32} {x3 : Int32} (h :
    (if x1 = 0 then
     Wp 236 0 [(0, .ref 58), (1, .long (((L 58 10) * (L 58 12)) + ((L 58 11) * (L 58 13)))), (3, .long (((L 58 10) * (L 58 10)) + ((L 58 11) * (L 58 11))))] [] (gE Lx) I L e (kcp (Wp 283) 283 14 0 [(0, .ref 58), (2, .int x2), (3, .int x3)] 71 [] Q)
    else
     Wp 236 0 [(0, .ref 58), (1, .long (((L 58 10) * (L 58 12)) + ((L 58 11) * (L 58 13)))), (3, .long (((L 58 12) * (L 58 12)) + ((L 58 13) * (L 58 13))))] [] (gE Lx) I L e (kcp (Wp 283) 283 14 0 [(0, .ref 58), (2, .int x2), (3, .int x3)] 71 [] Q))) :
    Wp 283 4 [(0, .ref 58), (1, .int x1), (2, .int x2), (3, .int x3)] [] (gE Lx) I L e Q := by
  refine w_a f_283_4 ?_
  refine w_a f_283_5 ?_
  refine w_a f_283_6 ?_
  refine w_a (ls := [(0, .ref 58)]) f_277_0 ?_
  refine w_a f_277_1 ?_
  refine w_a f_277_4 ?_
  refine w_a f_277_5 ?_
  refine w_a f_277_8 ?_
  refine w_a f_277_9 ?_
  refine w_a f_277_10 ?_
  refine w_a f_277_13 ?_
  refine w_a f_277_14 ?_
  refine w_a f_277_17 ?_
  refine w_a f_277_18 ?_
  refine w_a f_277_19 ?_
  refine w_a (ls := [(0, .ref 58), (1, .int x1), (2, .int x2), (3, .int x3)]) f_283_9 ?_
  refine w_a f_283_10 ?_
  refine w_a f_283_11 ?_
  refine w_a (ls := [(0, .ref 58), (1, .int x1)]) f_278_0 ?_
  refine w_a f_278_1 ?_
  refine i_m (fun h => ?_) (fun h => ?_) h
  · refine w_a f_278_18 ?_
    refine w_a f_278_19 ?_
    refine w_a f_278_22 ?_
    refine w_a f_278_23 ?_
    refine w_a f_278_26 ?_
    refine w_a (ls := [(0, .long (L 58 10)), (2, .long (L 58 11))]) f_235_0 ?_
    refine w_a f_235_1 ?_
    refine w_a f_235_2 ?_
    refine w_a f_235_3 ?_
    refine w_a f_235_4 ?_
    refine w_a f_235_5 ?_
    refine w_a f_235_6 ?_
    refine w_a f_235_7 ?_
    refine w_a (ls := [(0, .ref 58), (1, .int x1)]) f_278_29 ?_
    exact w_c (ls := [(0, .ref 58), (1, .int x1), (2, .int x2), (3, .int x3)]) (ks := [0, 2, 3]) f_283_14 rfl rfl h
  · refine w_a f_278_4 ?_
    refine w_a f_278_5 ?_
    refine w_a f_278_8 ?_
    refine w_a f_278_9 ?_
    refine w_a f_278_12 ?_
    refine w_a (ls := [(0, .long (L 58 12)), (2, .long (L 58 13))]) f_235_0 ?_
    refine w_a f_235_1 ?_
    refine w_a f_235_2 ?_
    refine w_a f_235_3 ?_
    refine w_a f_235_4 ?_
    refine w_a f_235_5 ?_
    refine w_a f_235_6 ?_
    refine w_a f_235_7 ?_
    refine w_a (ls := [(0, .ref 58), (1, .int x1)]) f_278_15 ?_
    refine w_a f_278_29 ?_
    exact w_c (ls := [(0, .ref 58), (1, .int x1), (2, .int x2), (3, .int x3)]) (ks := [0, 2, 3]) f_283_14 rfl rfl h
set_option maxRecDepth 10000 in
set_option maxHeartbeats 4000000 in
theorem s_283_17 {Lx : Nat} {I : Mi} {L : Ml} {e : Nat} {Q : Kq} {x2 : Int32} {x3 : Int32} (h :
    Q (.inl none) (gE Lx) I (ul (ul (ul L 58 21 (L 58 8)) 58 22 (L 58 9)) 58 23 ((L 58 8) * (((L 58 9) * ((x2.toInt64 * x2.toInt64) + (x3.toInt64 * x3.toInt64))) - (((L 58 8) * x2.toInt64) * x2.toInt64)))) e) :
    Wp 283 17 [(0, .ref 58), (2, .int x2), (3, .int x3)] [] (gE Lx) I L e Q := by
  refine w_a f_283_17 ?_
  refine w_a f_283_18 ?_
  refine w_a f_283_19 ?_
  refine w_a f_283_22 ?_
  refine w_a f_283_25 ?_
  refine w_a f_283_26 ?_
  refine w_a f_283_27 ?_
  refine w_a f_283_30 ?_
  refine w_a f_283_33 ?_
  refine w_a f_283_34 ?_
  refine w_a f_283_35 ?_
  refine w_a f_283_38 ?_
  refine w_a f_283_39 ?_
  refine w_a f_283_42 ?_
  refine w_a f_283_43 ?_
  refine w_a f_283_44 ?_
  refine w_a f_283_45 ?_
  refine w_a f_283_46 ?_
  refine w_a (ls := [(0, .long x2.toInt64), (2, .long x3.toInt64)]) f_235_0 ?_
  refine w_a f_235_1 ?_
  refine w_a f_235_2 ?_
  refine w_a f_235_3 ?_
  refine w_a f_235_4 ?_
  refine w_a f_235_5 ?_
  refine w_a f_235_6 ?_
  refine w_a f_235_7 ?_
  refine w_a (ls := [(0, .ref 58), (2, .int x2), (3, .int x3)]) f_283_49 ?_
  refine w_a f_283_50 ?_
  refine w_a f_283_51 ?_
  refine w_a f_283_54 ?_
  refine w_a f_283_55 ?_
  refine w_a f_283_56 ?_
  refine w_a f_283_57 ?_
  refine w_a f_283_58 ?_
  refine w_a f_283_59 ?_
  refine w_a f_283_60 ?_
  refine w_a f_283_61 ?_
  refine w_a f_283_62 ?_
  refine w_a f_283_65 ?_
  exact h
set_option maxRecDepth 10000 in
set_option maxHeartbeats 4000000 in
theorem s_285_10 {Lx : Nat} {I : Mi} {L : Ml} {e : Nat} {Q : Kq} {x2 : Int32} {x3 : Int32} {x4 : Int32} {x5 : Int32} {x6 : Int32} {x7 : Int32} {r : Int32} (h :
    (if 0 < r then
     Wp 285 38 [(0, .ref 58)] [.long (Int64.ofInt 0)] (gE Lx) (ui I 58 0 r) L e Q
    else
     Wp 283 0 [(0, .ref 58), (1, .int x2), (2, .int x3), (3, .int x4)] [] (gE Lx) (ui I 58 0 r) L e (kcp (Wp 286) 286 4 0 [(0, .ref 58), (1, .int x2), (2, .int x3), (3, .int x4), (4, .int x5), (5, .int x6), (6, .int x7)] 71 [] (kcp (Wp 285) 285 35 0 [(0, .ref 58)] 71 [] Q)))) :
    Wp 285 10 [(0, .ref 58), (2, .int x2), (3, .int x3), (4, .int x4), (5, .int x5), (6, .int x6), (7, .int x7)] [.int r, .ref 58] (gE Lx) I L e Q := by
  refine w_a f_285_10 ?_
  refine w_a f_285_13 ?_
  refine w_a f_285_14 ?_
  refine w_a f_285_17 ?_
  refine i_m (fun h => ?_) (fun h => ?_) h
  · refine w_a f_285_20 ?_
    refine w_a f_285_21 ?_
    exact w_n (ks := [0]) rfl h
  · refine w_a f_285_24 ?_
    refine w_a f_285_25 ?_
    refine w_a f_285_26 ?_
    refine w_a f_285_27 ?_
    refine w_a f_285_29 ?_
    refine w_a f_285_31 ?_
    refine w_a f_285_33 ?_
    refine w_c (ks := [0]) f_285_35 rfl rfl ?_
    refine w_a (ls := [(0, .ref 58), (1, .int x2), (2, .int x3), (3, .int x4), (4, .int x5), (5, .int x6), (6, .int x7)]) f_286_0 ?_
    refine w_a f_286_1 ?_
    refine w_a f_286_2 ?_
    refine w_a f_286_3 ?_
    exact w_c (ks := [0, 1, 2, 3, 4, 5, 6]) f_286_4 rfl rfl h
set_option maxRecDepth 10000 in
set_option maxHeartbeats 4000000 in
theorem s_285_38 {Lx : Nat} {I : Mi} {L : Ml} {e : Nat} {Q : Kq} {rl : Int64} (h :
    Q (.inl (some (.long rl))) (gE Lx) I L e) :
    Wp 285 38 [(0, .ref 58)] [.long rl] (gE Lx) I L e Q := by
  refine w_a f_285_38 ?_
  exact h
