/-! Pieces of methods, by program out of the tables: 2 to 37. -/
theorem f_2_7 : ftc (PT 2) 7 = some (7, .ireturn, 1, 1, 0, 0) := by decide +kernel
theorem f_3_0 : ftc (PT 3) 0 = some (0, .aload_n 0, 1, 0, 0, 0) := by decide +kernel
theorem f_3_1 : ftc (PT 3) 1 = some (1, .getfield 7, 3, 0, 0, 385) := by decide +kernel
theorem f_3_4 : ftc (PT 3) 4 = some (4, .ifCond .eq 23, 3, 27, 0, 0) := by decide +kernel
theorem f_3_7 : ftc (PT 3) 7 = some (7, .lload_n 1, 1, 0, 0, 0) := by decide +kernel
theorem f_3_8 : ftc (PT 3) 8 = some (8, .lload_n 3, 1, 0, 0, 0) := by decide +kernel
theorem f_3_9 : ftc (PT 3) 9 = some (9, .aload_n 0, 1, 0, 0, 0) := by decide +kernel
theorem f_3_10 : ftc (PT 3) 10 = some (10, .getfield 13, 3, 0, 1, 387) := by decide +kernel
theorem f_3_13 : ftc (PT 3) 13 = some (13, .aload_n 0, 1, 0, 0, 0) := by decide +kernel
theorem f_3_14 : ftc (PT 3) 14 = some (14, .getfield 17, 3, 0, 2, 389) := by decide +kernel
theorem f_3_17 : ftc (PT 3) 17 = some (17, .invokestatic 37, 3, 23, 18436, 593) := by decide +kernel
theorem f_3_20 : ftc (PT 3) 20 = some (20, .iload 5, 2, 0, 0, 0) := by decide +kernel
theorem f_3_22 : ftc (PT 3) 22 = some (22, .if_icmp .eq 5, 3, 27, 0, 0) := by decide +kernel
theorem f_3_25 : ftc (PT 3) 25 = some (25, .iconst 0, 1, 0, 0, 0) := by decide +kernel
theorem f_3_26 : ftc (PT 3) 26 = some (26, .ireturn, 1, 1, 0, 0) := by decide +kernel
theorem f_3_27 : ftc (PT 3) 27 = some (27, .aload_n 0, 1, 0, 0, 0) := by decide +kernel
theorem f_3_28 : ftc (PT 3) 28 = some (28, .iconst 1, 1, 0, 0, 0) := by decide +kernel
theorem f_3_29 : ftc (PT 3) 29 = some (29, .putfield 7, 3, 0, 0, 385) := by decide +kernel
theorem f_3_32 : ftc (PT 3) 32 = some (32, .aload_n 0, 1, 0, 0, 0) := by decide +kernel
theorem f_3_33 : ftc (PT 3) 33 = some (33, .lload_n 1, 1, 0, 0, 0) := by decide +kernel
theorem f_3_34 : ftc (PT 3) 34 = some (34, .putfield 13, 3, 0, 1, 387) := by decide +kernel
theorem f_3_37 : ftc (PT 3) 37 = some (37, .aload_n 0, 1, 0, 0, 0) := by decide +kernel
theorem f_3_38 : ftc (PT 3) 38 = some (38, .lload_n 3, 1, 0, 0, 0) := by decide +kernel
theorem f_3_39 : ftc (PT 3) 39 = some (39, .putfield 17, 3, 0, 2, 389) := by decide +kernel
theorem f_3_42 : ftc (PT 3) 42 = some (42, .iconst 1, 1, 0, 0, 0) := by decide +kernel
theorem f_3_43 : ftc (PT 3) 43 = some (43, .ireturn, 1, 1, 0, 0) := by decide +kernel
theorem f_6_0 : ftc (PT 6) 0 = some (0, .lload_n 1, 1, 0, 0, 0) := by decide +kernel
theorem f_6_1 : ftc (PT 6) 1 = some (1, .invokestatic 13, 3, 415, 2049, 674) := by decide +kernel
theorem f_6_4 : ftc (PT 6) 4 = some (4, .lstore 5, 2, 0, 0, 0) := by decide +kernel
theorem f_6_6 : ftc (PT 6) 6 = some (6, .lload_n 3, 1, 0, 0, 0) := by decide +kernel
theorem f_6_7 : ftc (PT 6) 7 = some (7, .invokestatic 13, 3, 415, 2049, 674) := by decide +kernel
theorem f_6_10 : ftc (PT 6) 10 = some (10, .lstore 7, 2, 0, 0, 0) := by decide +kernel
theorem f_6_12 : ftc (PT 6) 12 = some (12, .lload 5, 2, 0, 0, 0) := by decide +kernel
theorem f_6_14 : ftc (PT 6) 14 = some (14, .ldc2_w 19, 3, 675, 0, 1073741823) := by decide +kernel
theorem f_6_17 : ftc (PT 6) 17 = some (17, .land, 1, 0, 0, 0) := by decide +kernel
theorem f_6_18 : ftc (PT 6) 18 = some (18, .lstore 9, 2, 0, 0, 0) := by decide +kernel
theorem f_6_20 : ftc (PT 6) 20 = some (20, .lload 5, 2, 0, 0, 0) := by decide +kernel
theorem f_6_22 : ftc (PT 6) 22 = some (22, .bipush 30, 2, 0, 0, 0) := by decide +kernel
theorem f_6_24 : ftc (PT 6) 24 = some (24, .lshr, 1, 0, 0, 0) := by decide +kernel
theorem f_6_25 : ftc (PT 6) 25 = some (25, .lstore 11, 2, 0, 0, 0) := by decide +kernel
theorem f_6_27 : ftc (PT 6) 27 = some (27, .lload 7, 2, 0, 0, 0) := by decide +kernel
theorem f_6_29 : ftc (PT 6) 29 = some (29, .ldc2_w 19, 3, 675, 0, 1073741823) := by decide +kernel
theorem f_6_32 : ftc (PT 6) 32 = some (32, .land, 1, 0, 0, 0) := by decide +kernel
theorem f_6_33 : ftc (PT 6) 33 = some (33, .lstore 13, 2, 0, 0, 0) := by decide +kernel
theorem f_6_35 : ftc (PT 6) 35 = some (35, .lload 7, 2, 0, 0, 0) := by decide +kernel
theorem f_6_37 : ftc (PT 6) 37 = some (37, .bipush 30, 2, 0, 0, 0) := by decide +kernel
theorem f_6_39 : ftc (PT 6) 39 = some (39, .lshr, 1, 0, 0, 0) := by decide +kernel
theorem f_6_40 : ftc (PT 6) 40 = some (40, .lstore 15, 2, 0, 0, 0) := by decide +kernel
theorem f_6_42 : ftc (PT 6) 42 = some (42, .aload_n 0, 1, 0, 0, 0) := by decide +kernel
theorem f_6_43 : ftc (PT 6) 43 = some (43, .getfield 9, 3, 1, 0, 437) := by decide +kernel
theorem f_6_46 : ftc (PT 6) 46 = some (46, .iconst 0, 1, 0, 0, 0) := by decide +kernel
theorem f_6_47 : ftc (PT 6) 47 = some (47, .lload 9, 2, 0, 0, 0) := by decide +kernel
theorem f_6_49 : ftc (PT 6) 49 = some (49, .lload 9, 2, 0, 0, 0) := by decide +kernel
theorem f_6_51 : ftc (PT 6) 51 = some (51, .lmul, 1, 0, 0, 0) := by decide +kernel
theorem f_6_52 : ftc (PT 6) 52 = some (52, .lload 13, 2, 0, 0, 0) := by decide +kernel
theorem f_6_54 : ftc (PT 6) 54 = some (54, .lload 13, 2, 0, 0, 0) := by decide +kernel
theorem f_6_56 : ftc (PT 6) 56 = some (56, .lmul, 1, 0, 0, 0) := by decide +kernel
theorem f_6_57 : ftc (PT 6) 57 = some (57, .ladd, 1, 0, 0, 0) := by decide +kernel
theorem f_6_58 : ftc (PT 6) 58 = some (58, .lastore, 1, 0, 0, 0) := by decide +kernel
theorem f_6_59 : ftc (PT 6) 59 = some (59, .aload_n 0, 1, 0, 0, 0) := by decide +kernel
theorem f_6_60 : ftc (PT 6) 60 = some (60, .getfield 9, 3, 1, 0, 437) := by decide +kernel
theorem f_6_63 : ftc (PT 6) 63 = some (63, .iconst 1, 1, 0, 0, 0) := by decide +kernel
theorem f_6_64 : ftc (PT 6) 64 = some (64, .ldc2_w 21, 3, 676, 0, 2) := by decide +kernel
theorem f_6_67 : ftc (PT 6) 67 = some (67, .lload 9, 2, 0, 0, 0) := by decide +kernel
theorem f_6_69 : ftc (PT 6) 69 = some (69, .lload 11, 2, 0, 0, 0) := by decide +kernel
theorem f_6_71 : ftc (PT 6) 71 = some (71, .lmul, 1, 0, 0, 0) := by decide +kernel
theorem f_6_72 : ftc (PT 6) 72 = some (72, .lload 13, 2, 0, 0, 0) := by decide +kernel
theorem f_6_74 : ftc (PT 6) 74 = some (74, .lload 15, 2, 0, 0, 0) := by decide +kernel
theorem f_6_76 : ftc (PT 6) 76 = some (76, .lmul, 1, 0, 0, 0) := by decide +kernel
theorem f_6_77 : ftc (PT 6) 77 = some (77, .ladd, 1, 0, 0, 0) := by decide +kernel
theorem f_6_78 : ftc (PT 6) 78 = some (78, .lmul, 1, 0, 0, 0) := by decide +kernel
theorem f_6_79 : ftc (PT 6) 79 = some (79, .lastore, 1, 0, 0, 0) := by decide +kernel
theorem f_6_80 : ftc (PT 6) 80 = some (80, .aload_n 0, 1, 0, 0, 0) := by decide +kernel
theorem f_6_81 : ftc (PT 6) 81 = some (81, .getfield 9, 3, 1, 0, 437) := by decide +kernel
theorem f_6_84 : ftc (PT 6) 84 = some (84, .iconst 2, 1, 0, 0, 0) := by decide +kernel
theorem f_6_85 : ftc (PT 6) 85 = some (85, .lload 11, 2, 0, 0, 0) := by decide +kernel
theorem f_6_87 : ftc (PT 6) 87 = some (87, .lload 11, 2, 0, 0, 0) := by decide +kernel
theorem f_6_89 : ftc (PT 6) 89 = some (89, .lmul, 1, 0, 0, 0) := by decide +kernel
theorem f_6_90 : ftc (PT 6) 90 = some (90, .lload 15, 2, 0, 0, 0) := by decide +kernel
theorem f_6_92 : ftc (PT 6) 92 = some (92, .lload 15, 2, 0, 0, 0) := by decide +kernel
theorem f_6_94 : ftc (PT 6) 94 = some (94, .lmul, 1, 0, 0, 0) := by decide +kernel
theorem f_6_95 : ftc (PT 6) 95 = some (95, .ladd, 1, 0, 0, 0) := by decide +kernel
theorem f_6_96 : ftc (PT 6) 96 = some (96, .lastore, 1, 0, 0, 0) := by decide +kernel
theorem f_6_97 : ftc (PT 6) 97 = some (97, .aload_n 0, 1, 0, 0, 0) := by decide +kernel
theorem f_6_98 : ftc (PT 6) 98 = some (98, .getfield 9, 3, 1, 0, 437) := by decide +kernel
theorem f_6_101 : ftc (PT 6) 101 = some (101, .iconst 3, 1, 0, 0, 0) := by decide +kernel
theorem f_6_102 : ftc (PT 6) 102 = some (102, .lconst 0, 1, 0, 0, 0) := by decide +kernel
theorem f_6_103 : ftc (PT 6) 103 = some (103, .lastore, 1, 0, 0, 0) := by decide +kernel
theorem f_6_104 : ftc (PT 6) 104 = some (104, .aload_n 0, 1, 0, 0, 0) := by decide +kernel
theorem f_6_105 : ftc (PT 6) 105 = some (105, .getfield 9, 3, 1, 0, 437) := by decide +kernel
theorem f_6_108 : ftc (PT 6) 108 = some (108, .iconst 4, 1, 0, 0, 0) := by decide +kernel
theorem f_6_109 : ftc (PT 6) 109 = some (109, .lconst 0, 1, 0, 0, 0) := by decide +kernel
theorem f_6_110 : ftc (PT 6) 110 = some (110, .lastore, 1, 0, 0, 0) := by decide +kernel
theorem f_6_111 : ftc (PT 6) 111 = some (111, .aload_n 0, 1, 0, 0, 0) := by decide +kernel
theorem f_6_112 : ftc (PT 6) 112 = some (112, .invokevirtual 23, 3, 7, 2049, 677) := by decide +kernel
theorem f_6_115 : ftc (PT 6) 115 = some (115, .return_, 1, 0, 0, 0) := by decide +kernel
theorem f_7_0 : ftc (PT 7) 0 = some (0, .iconst 0, 1, 0, 0, 0) := by decide +kernel
theorem f_7_1 : ftc (PT 7) 1 = some (1, .istore_n 1, 1, 0, 0, 0) := by decide +kernel
theorem f_7_2 : ftc (PT 7) 2 = some (2, .iload_n 1, 1, 0, 0, 0) := by decide +kernel
theorem f_7_3 : ftc (PT 7) 3 = some (3, .iconst 1, 1, 0, 0, 0) := by decide +kernel
theorem f_7_4 : ftc (PT 7) 4 = some (4, .iadd, 1, 0, 0, 0) := by decide +kernel
theorem f_7_5 : ftc (PT 7) 5 = some (5, .iconst 5, 1, 0, 0, 0) := by decide +kernel
theorem f_7_6 : ftc (PT 7) 6 = some (6, .if_icmp .ge 41, 3, 47, 0, 0) := by decide +kernel
theorem f_7_9 : ftc (PT 7) 9 = some (9, .aload_n 0, 1, 0, 0, 0) := by decide +kernel
theorem f_7_10 : ftc (PT 7) 10 = some (10, .getfield 9, 3, 1, 0, 437) := by decide +kernel
theorem f_7_13 : ftc (PT 7) 13 = some (13, .iload_n 1, 1, 0, 0, 0) := by decide +kernel
theorem f_7_14 : ftc (PT 7) 14 = some (14, .iconst 1, 1, 0, 0, 0) := by decide +kernel
theorem f_7_15 : ftc (PT 7) 15 = some (15, .iadd, 1, 0, 0, 0) := by decide +kernel
theorem f_7_16 : ftc (PT 7) 16 = some (16, .dup2, 1, 0, 0, 0) := by decide +kernel
theorem f_7_17 : ftc (PT 7) 17 = some (17, .laload, 1, 0, 0, 0) := by decide +kernel
theorem f_7_18 : ftc (PT 7) 18 = some (18, .aload_n 0, 1, 0, 0, 0) := by decide +kernel
theorem f_7_19 : ftc (PT 7) 19 = some (19, .getfield 9, 3, 1, 0, 437) := by decide +kernel
theorem f_7_22 : ftc (PT 7) 22 = some (22, .iload_n 1, 1, 0, 0, 0) := by decide +kernel
theorem f_7_23 : ftc (PT 7) 23 = some (23, .laload, 1, 0, 0, 0) := by decide +kernel
theorem f_7_24 : ftc (PT 7) 24 = some (24, .bipush 30, 2, 0, 0, 0) := by decide +kernel
theorem f_7_26 : ftc (PT 7) 26 = some (26, .lshr, 1, 0, 0, 0) := by decide +kernel
theorem f_7_27 : ftc (PT 7) 27 = some (27, .ladd, 1, 0, 0, 0) := by decide +kernel
theorem f_7_28 : ftc (PT 7) 28 = some (28, .lastore, 1, 0, 0, 0) := by decide +kernel
theorem f_7_29 : ftc (PT 7) 29 = some (29, .aload_n 0, 1, 0, 0, 0) := by decide +kernel
theorem f_7_30 : ftc (PT 7) 30 = some (30, .getfield 9, 3, 1, 0, 437) := by decide +kernel
theorem f_7_33 : ftc (PT 7) 33 = some (33, .iload_n 1, 1, 0, 0, 0) := by decide +kernel
theorem f_7_34 : ftc (PT 7) 34 = some (34, .dup2, 1, 0, 0, 0) := by decide +kernel
theorem f_7_35 : ftc (PT 7) 35 = some (35, .laload, 1, 0, 0, 0) := by decide +kernel
theorem f_7_36 : ftc (PT 7) 36 = some (36, .ldc2_w 19, 3, 675, 0, 1073741823) := by decide +kernel
theorem f_7_39 : ftc (PT 7) 39 = some (39, .land, 1, 0, 0, 0) := by decide +kernel
theorem f_7_40 : ftc (PT 7) 40 = some (40, .lastore, 1, 0, 0, 0) := by decide +kernel
theorem f_7_41 : ftc (PT 7) 41 = some (41, .iinc 1 1, 3, 0, 0, 0) := by decide +kernel
theorem f_7_44 : ftc (PT 7) 44 = some (44, .goto (-42), 3, 2, 0, 0) := by decide +kernel
theorem f_7_47 : ftc (PT 7) 47 = some (47, .return_, 1, 0, 0, 0) := by decide +kernel
theorem f_8_0 : ftc (PT 8) 0 = some (0, .iconst 0, 1, 0, 0, 0) := by decide +kernel
theorem f_8_1 : ftc (PT 8) 1 = some (1, .istore_n 2, 1, 0, 0, 0) := by decide +kernel
theorem f_8_2 : ftc (PT 8) 2 = some (2, .iload_n 2, 1, 0, 0, 0) := by decide +kernel
theorem f_8_3 : ftc (PT 8) 3 = some (3, .iconst 5, 1, 0, 0, 0) := by decide +kernel
theorem f_8_4 : ftc (PT 8) 4 = some (4, .if_icmp .ge 20, 3, 24, 0, 0) := by decide +kernel
theorem f_8_7 : ftc (PT 8) 7 = some (7, .aload_n 0, 1, 0, 0, 0) := by decide +kernel
theorem f_8_8 : ftc (PT 8) 8 = some (8, .getfield 9, 3, 1, 0, 437) := by decide +kernel
theorem f_8_11 : ftc (PT 8) 11 = some (11, .iload_n 2, 1, 0, 0, 0) := by decide +kernel
theorem f_8_12 : ftc (PT 8) 12 = some (12, .dup2, 1, 0, 0, 0) := by decide +kernel
theorem f_8_13 : ftc (PT 8) 13 = some (13, .laload, 1, 0, 0, 0) := by decide +kernel
theorem f_8_14 : ftc (PT 8) 14 = some (14, .iload_n 1, 1, 0, 0, 0) := by decide +kernel
theorem f_8_15 : ftc (PT 8) 15 = some (15, .i2l, 1, 0, 0, 0) := by decide +kernel
theorem f_8_16 : ftc (PT 8) 16 = some (16, .lmul, 1, 0, 0, 0) := by decide +kernel
theorem f_8_17 : ftc (PT 8) 17 = some (17, .lastore, 1, 0, 0, 0) := by decide +kernel
theorem f_8_18 : ftc (PT 8) 18 = some (18, .iinc 2 1, 3, 0, 0, 0) := by decide +kernel
theorem f_8_21 : ftc (PT 8) 21 = some (21, .goto (-19), 3, 2, 0, 0) := by decide +kernel
theorem f_8_24 : ftc (PT 8) 24 = some (24, .aload_n 0, 1, 0, 0, 0) := by decide +kernel
theorem f_8_25 : ftc (PT 8) 25 = some (25, .invokevirtual 23, 3, 7, 2049, 677) := by decide +kernel
theorem f_8_28 : ftc (PT 8) 28 = some (28, .return_, 1, 0, 0, 0) := by decide +kernel
theorem f_9_0 : ftc (PT 9) 0 = some (0, .iconst 4, 1, 0, 0, 0) := by decide +kernel
theorem f_9_1 : ftc (PT 9) 1 = some (1, .istore_n 2, 1, 0, 0, 0) := by decide +kernel
theorem f_9_2 : ftc (PT 9) 2 = some (2, .iload_n 2, 1, 0, 0, 0) := by decide +kernel
theorem f_9_3 : ftc (PT 9) 3 = some (3, .ifCond .lt 47, 3, 50, 0, 0) := by decide +kernel
theorem f_9_6 : ftc (PT 9) 6 = some (6, .aload_n 0, 1, 0, 0, 0) := by decide +kernel
theorem f_9_7 : ftc (PT 9) 7 = some (7, .getfield 9, 3, 1, 0, 437) := by decide +kernel
theorem f_9_10 : ftc (PT 9) 10 = some (10, .iload_n 2, 1, 0, 0, 0) := by decide +kernel
theorem f_9_11 : ftc (PT 9) 11 = some (11, .laload, 1, 0, 0, 0) := by decide +kernel
theorem f_9_12 : ftc (PT 9) 12 = some (12, .aload_n 1, 1, 0, 0, 0) := by decide +kernel
theorem f_9_13 : ftc (PT 9) 13 = some (13, .getfield 9, 3, 1, 0, 437) := by decide +kernel
theorem f_9_16 : ftc (PT 9) 16 = some (16, .iload_n 2, 1, 0, 0, 0) := by decide +kernel
theorem f_9_17 : ftc (PT 9) 17 = some (17, .laload, 1, 0, 0, 0) := by decide +kernel
theorem f_9_18 : ftc (PT 9) 18 = some (18, .lcmp, 1, 0, 0, 0) := by decide +kernel
theorem f_9_19 : ftc (PT 9) 19 = some (19, .ifCond .eq 25, 3, 44, 0, 0) := by decide +kernel
theorem f_9_22 : ftc (PT 9) 22 = some (22, .aload_n 0, 1, 0, 0, 0) := by decide +kernel
theorem f_9_23 : ftc (PT 9) 23 = some (23, .getfield 9, 3, 1, 0, 437) := by decide +kernel
theorem f_9_26 : ftc (PT 9) 26 = some (26, .iload_n 2, 1, 0, 0, 0) := by decide +kernel
theorem f_9_27 : ftc (PT 9) 27 = some (27, .laload, 1, 0, 0, 0) := by decide +kernel
theorem f_9_28 : ftc (PT 9) 28 = some (28, .aload_n 1, 1, 0, 0, 0) := by decide +kernel
theorem f_9_29 : ftc (PT 9) 29 = some (29, .getfield 9, 3, 1, 0, 437) := by decide +kernel
theorem f_9_32 : ftc (PT 9) 32 = some (32, .iload_n 2, 1, 0, 0, 0) := by decide +kernel
theorem f_9_33 : ftc (PT 9) 33 = some (33, .laload, 1, 0, 0, 0) := by decide +kernel
theorem f_9_34 : ftc (PT 9) 34 = some (34, .lcmp, 1, 0, 0, 0) := by decide +kernel
theorem f_9_35 : ftc (PT 9) 35 = some (35, .ifCond .ge 7, 3, 42, 0, 0) := by decide +kernel
theorem f_9_38 : ftc (PT 9) 38 = some (38, .iconst (-1), 1, 0, 0, 0) := by decide +kernel
theorem f_9_39 : ftc (PT 9) 39 = some (39, .goto 4, 3, 43, 0, 0) := by decide +kernel
theorem f_9_42 : ftc (PT 9) 42 = some (42, .iconst 1, 1, 0, 0, 0) := by decide +kernel
theorem f_9_43 : ftc (PT 9) 43 = some (43, .ireturn, 1, 0, 0, 0) := by decide +kernel
theorem f_9_44 : ftc (PT 9) 44 = some (44, .iinc 2 (-1), 3, 0, 0, 0) := by decide +kernel
theorem f_9_47 : ftc (PT 9) 47 = some (47, .goto (-45), 3, 2, 0, 0) := by decide +kernel
theorem f_9_50 : ftc (PT 9) 50 = some (50, .iconst 0, 1, 0, 0, 0) := by decide +kernel
theorem f_9_51 : ftc (PT 9) 51 = some (51, .ireturn, 1, 0, 0, 0) := by decide +kernel
theorem f_10_0 : ftc (PT 10) 0 = some (0, .iconst 0, 1, 0, 0, 0) := by decide +kernel
theorem f_10_1 : ftc (PT 10) 1 = some (1, .istore_n 2, 1, 0, 0, 0) := by decide +kernel
theorem f_10_2 : ftc (PT 10) 2 = some (2, .iload_n 2, 1, 0, 0, 0) := by decide +kernel
theorem f_10_3 : ftc (PT 10) 3 = some (3, .iconst 5, 1, 0, 0, 0) := by decide +kernel
theorem f_10_4 : ftc (PT 10) 4 = some (4, .if_icmp .ge 24, 3, 28, 0, 0) := by decide +kernel
theorem f_10_7 : ftc (PT 10) 7 = some (7, .aload_n 0, 1, 0, 0, 0) := by decide +kernel
theorem f_10_8 : ftc (PT 10) 8 = some (8, .getfield 9, 3, 1, 0, 437) := by decide +kernel
theorem f_10_11 : ftc (PT 10) 11 = some (11, .iload_n 2, 1, 0, 0, 0) := by decide +kernel
theorem f_10_12 : ftc (PT 10) 12 = some (12, .dup2, 1, 0, 0, 0) := by decide +kernel
theorem f_10_13 : ftc (PT 10) 13 = some (13, .laload, 1, 0, 0, 0) := by decide +kernel
theorem f_10_14 : ftc (PT 10) 14 = some (14, .aload_n 1, 1, 0, 0, 0) := by decide +kernel
theorem f_10_15 : ftc (PT 10) 15 = some (15, .getfield 9, 3, 1, 0, 437) := by decide +kernel
theorem f_10_18 : ftc (PT 10) 18 = some (18, .iload_n 2, 1, 0, 0, 0) := by decide +kernel
theorem f_10_19 : ftc (PT 10) 19 = some (19, .laload, 1, 0, 0, 0) := by decide +kernel
theorem f_10_20 : ftc (PT 10) 20 = some (20, .lsub, 1, 0, 0, 0) := by decide +kernel
theorem f_10_21 : ftc (PT 10) 21 = some (21, .lastore, 1, 0, 0, 0) := by decide +kernel
theorem f_10_22 : ftc (PT 10) 22 = some (22, .iinc 2 1, 3, 0, 0, 0) := by decide +kernel
theorem f_10_25 : ftc (PT 10) 25 = some (25, .goto (-23), 3, 2, 0, 0) := by decide +kernel
theorem f_10_28 : ftc (PT 10) 28 = some (28, .aload_n 0, 1, 0, 0, 0) := by decide +kernel
theorem f_10_29 : ftc (PT 10) 29 = some (29, .invokevirtual 23, 3, 7, 2049, 677) := by decide +kernel
theorem f_10_32 : ftc (PT 10) 32 = some (32, .return_, 1, 0, 0, 0) := by decide +kernel
theorem f_12_0 : ftc (PT 12) 0 = some (0, .aload_n 0, 1, 0, 0, 0) := by decide +kernel
theorem f_12_1 : ftc (PT 12) 1 = some (1, .iload_n 1, 1, 0, 0, 0) := by decide +kernel
theorem f_12_2 : ftc (PT 12) 2 = some (2, .invokevirtual 34, 3, 13, 2082, 553) := by decide +kernel
theorem f_12_5 : ftc (PT 12) 5 = some (5, .ifCond .eq 12, 3, 17, 0, 0) := by decide +kernel
theorem f_12_8 : ftc (PT 12) 8 = some (8, .aload_n 0, 1, 0, 0, 0) := by decide +kernel
theorem f_12_9 : ftc (PT 12) 9 = some (9, .getfield 24, 3, 2, 4, 222) := by decide +kernel
theorem f_12_12 : ftc (PT 12) 12 = some (12, .iload_n 1, 1, 0, 0, 0) := by decide +kernel
theorem f_12_13 : ftc (PT 12) 13 = some (13, .iaload, 1, 0, 0, 0) := by decide +kernel
theorem f_12_14 : ftc (PT 12) 14 = some (14, .goto 4, 3, 18, 0, 0) := by decide +kernel
theorem f_12_17 : ftc (PT 12) 17 = some (17, .iconst 0, 1, 0, 0, 0) := by decide +kernel
theorem f_12_18 : ftc (PT 12) 18 = some (18, .ireturn, 1, 0, 0, 0) := by decide +kernel
theorem f_13_0 : ftc (PT 13) 0 = some (0, .iload_n 1, 1, 0, 0, 0) := by decide +kernel
theorem f_13_1 : ftc (PT 13) 1 = some (1, .ifCond .lt 12, 3, 13, 0, 0) := by decide +kernel
theorem f_13_4 : ftc (PT 13) 4 = some (4, .iload_n 1, 1, 0, 0, 0) := by decide +kernel
theorem f_13_5 : ftc (PT 13) 5 = some (5, .iconst 4, 1, 0, 0, 0) := by decide +kernel
theorem f_13_6 : ftc (PT 13) 6 = some (6, .if_icmp .ge 7, 3, 13, 0, 0) := by decide +kernel
theorem f_13_9 : ftc (PT 13) 9 = some (9, .iconst 1, 1, 0, 0, 0) := by decide +kernel
theorem f_13_10 : ftc (PT 13) 10 = some (10, .goto 4, 3, 14, 0, 0) := by decide +kernel
theorem f_13_13 : ftc (PT 13) 13 = some (13, .iconst 0, 1, 0, 0, 0) := by decide +kernel
theorem f_13_14 : ftc (PT 13) 14 = some (14, .ireturn, 1, 1, 0, 0) := by decide +kernel
theorem f_14_0 : ftc (PT 14) 0 = some (0, .aload_n 0, 1, 0, 0, 0) := by decide +kernel
theorem f_14_1 : ftc (PT 14) 1 = some (1, .iload_n 1, 1, 0, 0, 0) := by decide +kernel
theorem f_14_2 : ftc (PT 14) 2 = some (2, .invokevirtual 34, 3, 13, 2082, 553) := by decide +kernel
theorem f_14_5 : ftc (PT 14) 5 = some (5, .ifCond .eq 12, 3, 17, 0, 0) := by decide +kernel
theorem f_14_8 : ftc (PT 14) 8 = some (8, .aload_n 0, 1, 0, 0, 0) := by decide +kernel
theorem f_14_9 : ftc (PT 14) 9 = some (9, .getfield 28, 3, 2, 5, 223) := by decide +kernel
theorem f_14_12 : ftc (PT 14) 12 = some (12, .iload_n 1, 1, 0, 0, 0) := by decide +kernel
theorem f_14_13 : ftc (PT 14) 13 = some (13, .iaload, 1, 0, 0, 0) := by decide +kernel
theorem f_14_14 : ftc (PT 14) 14 = some (14, .goto 4, 3, 18, 0, 0) := by decide +kernel
theorem f_14_17 : ftc (PT 14) 17 = some (17, .iconst 0, 1, 0, 0, 0) := by decide +kernel
theorem f_14_18 : ftc (PT 14) 18 = some (18, .ireturn, 1, 0, 0, 0) := by decide +kernel
theorem f_15_0 : ftc (PT 15) 0 = some (0, .aload_n 0, 1, 0, 0, 0) := by decide +kernel
theorem f_15_1 : ftc (PT 15) 1 = some (1, .iload_n 1, 1, 0, 0, 0) := by decide +kernel
theorem f_15_2 : ftc (PT 15) 2 = some (2, .invokevirtual 34, 3, 13, 2082, 553) := by decide +kernel
theorem f_15_5 : ftc (PT 15) 5 = some (5, .ifCond .eq 12, 3, 17, 0, 0) := by decide +kernel
theorem f_15_8 : ftc (PT 15) 8 = some (8, .aload_n 0, 1, 0, 0, 0) := by decide +kernel
theorem f_15_9 : ftc (PT 15) 9 = some (9, .getfield 31, 3, 2, 6, 224) := by decide +kernel
theorem f_15_12 : ftc (PT 15) 12 = some (12, .iload_n 1, 1, 0, 0, 0) := by decide +kernel
theorem f_15_13 : ftc (PT 15) 13 = some (13, .iaload, 1, 0, 0, 0) := by decide +kernel
theorem f_15_14 : ftc (PT 15) 14 = some (14, .goto 4, 3, 18, 0, 0) := by decide +kernel
theorem f_15_17 : ftc (PT 15) 17 = some (17, .iconst 1, 1, 0, 0, 0) := by decide +kernel
theorem f_15_18 : ftc (PT 15) 18 = some (18, .ireturn, 1, 0, 0, 0) := by decide +kernel
theorem f_18_18 : ftc (PT 18) 18 = some (18, .iastore, 1, 0, 0, 0) := by decide +kernel
theorem f_18_19 : ftc (PT 18) 19 = some (19, .aload_n 0, 1, 0, 0, 0) := by decide +kernel
theorem f_18_20 : ftc (PT 18) 20 = some (20, .getfield 28, 3, 2, 5, 223) := by decide +kernel
theorem f_18_23 : ftc (PT 18) 23 = some (23, .iload_n 1, 1, 0, 0, 0) := by decide +kernel
theorem f_18_24 : ftc (PT 18) 24 = some (24, .aload_n 2, 1, 0, 0, 0) := by decide +kernel
theorem f_18_25 : ftc (PT 18) 25 = some (25, .iload_n 3, 1, 0, 0, 0) := by decide +kernel
theorem f_18_26 : ftc (PT 18) 26 = some (26, .invokevirtual 42, 3, 14, 2082, 625) := by decide +kernel
theorem f_18_29 : ftc (PT 18) 29 = some (29, .iastore, 1, 0, 0, 0) := by decide +kernel
theorem f_18_30 : ftc (PT 18) 30 = some (30, .aload_n 0, 1, 0, 0, 0) := by decide +kernel
theorem f_18_31 : ftc (PT 18) 31 = some (31, .getfield 31, 3, 2, 6, 224) := by decide +kernel
theorem f_18_34 : ftc (PT 18) 34 = some (34, .iload_n 1, 1, 0, 0, 0) := by decide +kernel
theorem f_18_35 : ftc (PT 18) 35 = some (35, .aload_n 2, 1, 0, 0, 0) := by decide +kernel
theorem f_18_36 : ftc (PT 18) 36 = some (36, .iload_n 3, 1, 0, 0, 0) := by decide +kernel
theorem f_18_37 : ftc (PT 18) 37 = some (37, .invokevirtual 45, 3, 15, 2082, 626) := by decide +kernel
theorem f_18_40 : ftc (PT 18) 40 = some (40, .iastore, 1, 0, 0, 0) := by decide +kernel
theorem f_18_41 : ftc (PT 18) 41 = some (41, .return_, 1, 0, 0, 0) := by decide +kernel
theorem f_23_0 : ftc (PT 23) 0 = some (0, .iconst 1, 1, 0, 0, 0) := by decide +kernel
theorem f_23_1 : ftc (PT 23) 1 = some (1, .istore 8, 2, 0, 0, 0) := by decide +kernel
theorem f_23_3 : ftc (PT 23) 3 = some (3, .iconst 0, 1, 0, 0, 0) := by decide +kernel
theorem f_23_4 : ftc (PT 23) 4 = some (4, .istore 9, 2, 0, 0, 0) := by decide +kernel
theorem f_23_6 : ftc (PT 23) 6 = some (6, .iload 9, 2, 0, 0, 0) := by decide +kernel
theorem f_23_8 : ftc (PT 23) 8 = some (8, .bipush 100, 2, 0, 0, 0) := by decide +kernel
theorem f_23_10 : ftc (PT 23) 10 = some (10, .if_icmp .ge 123, 3, 133, 0, 0) := by decide +kernel
theorem f_23_13 : ftc (PT 23) 13 = some (13, .lload_n 2, 1, 0, 0, 0) := by decide +kernel
theorem f_23_14 : ftc (PT 23) 14 = some (14, .lconst 0, 1, 0, 0, 0) := by decide +kernel
theorem f_23_15 : ftc (PT 23) 15 = some (15, .lcmp, 1, 0, 0, 0) := by decide +kernel
theorem f_23_16 : ftc (PT 23) 16 = some (16, .ifCond .eq 10, 3, 26, 0, 0) := by decide +kernel
theorem f_23_19 : ftc (PT 23) 19 = some (19, .lload 6, 2, 0, 0, 0) := by decide +kernel
theorem f_23_21 : ftc (PT 23) 21 = some (21, .lconst 0, 1, 0, 0, 0) := by decide +kernel
theorem f_23_22 : ftc (PT 23) 22 = some (22, .lcmp, 1, 0, 0, 0) := by decide +kernel
theorem f_23_23 : ftc (PT 23) 23 = some (23, .ifCond .ne 31, 3, 54, 0, 0) := by decide +kernel
theorem f_23_26 : ftc (PT 23) 26 = some (26, .iload 8, 2, 0, 0, 0) := by decide +kernel
theorem f_23_28 : ftc (PT 23) 28 = some (28, .lload_n 2, 1, 0, 0, 0) := by decide +kernel
theorem f_23_29 : ftc (PT 23) 29 = some (29, .lconst 0, 1, 0, 0, 0) := by decide +kernel
theorem f_23_30 : ftc (PT 23) 30 = some (30, .lcmp, 1, 0, 0, 0) := by decide +kernel
theorem f_23_31 : ftc (PT 23) 31 = some (31, .ifCond .ne 7, 3, 38, 0, 0) := by decide +kernel
theorem f_23_34 : ftc (PT 23) 34 = some (34, .iconst 1, 1, 0, 0, 0) := by decide +kernel
theorem f_23_35 : ftc (PT 23) 35 = some (35, .goto 4, 3, 39, 0, 0) := by decide +kernel
theorem f_23_38 : ftc (PT 23) 38 = some (38, .iconst 0, 1, 0, 0, 0) := by decide +kernel
theorem f_23_39 : ftc (PT 23) 39 = some (39, .lload 6, 2, 0, 0, 0) := by decide +kernel
theorem f_23_41 : ftc (PT 23) 41 = some (41, .lconst 0, 1, 0, 0, 0) := by decide +kernel
theorem f_23_42 : ftc (PT 23) 42 = some (42, .lcmp, 1, 0, 0, 0) := by decide +kernel
theorem f_23_43 : ftc (PT 23) 43 = some (43, .ifCond .ne 7, 3, 50, 0, 0) := by decide +kernel
theorem f_23_46 : ftc (PT 23) 46 = some (46, .iconst 1, 1, 0, 0, 0) := by decide +kernel
theorem f_23_47 : ftc (PT 23) 47 = some (47, .goto 4, 3, 51, 0, 0) := by decide +kernel
theorem f_23_50 : ftc (PT 23) 50 = some (50, .iconst 0, 1, 0, 0, 0) := by decide +kernel
theorem f_23_51 : ftc (PT 23) 51 = some (51, .isub, 1, 0, 0, 0) := by decide +kernel
theorem f_23_52 : ftc (PT 23) 52 = some (52, .imul, 1, 0, 0, 0) := by decide +kernel
theorem f_23_53 : ftc (PT 23) 53 = some (53, .ireturn, 1, 0, 0, 0) := by decide +kernel
theorem f_23_54 : ftc (PT 23) 54 = some (54, .lload_n 0, 1, 0, 0, 0) := by decide +kernel
theorem f_23_55 : ftc (PT 23) 55 = some (55, .lload_n 2, 1, 0, 0, 0) := by decide +kernel
theorem f_23_56 : ftc (PT 23) 56 = some (56, .ldiv, 1, 0, 0, 0) := by decide +kernel
theorem f_23_57 : ftc (PT 23) 57 = some (57, .lstore 10, 2, 0, 0, 0) := by decide +kernel
theorem f_23_59 : ftc (PT 23) 59 = some (59, .lload 4, 2, 0, 0, 0) := by decide +kernel
theorem f_23_61 : ftc (PT 23) 61 = some (61, .lload 6, 2, 0, 0, 0) := by decide +kernel
theorem f_23_63 : ftc (PT 23) 63 = some (63, .ldiv, 1, 0, 0, 0) := by decide +kernel
theorem f_23_64 : ftc (PT 23) 64 = some (64, .lstore 12, 2, 0, 0, 0) := by decide +kernel
theorem f_23_66 : ftc (PT 23) 66 = some (66, .lload 10, 2, 0, 0, 0) := by decide +kernel
theorem f_23_68 : ftc (PT 23) 68 = some (68, .lload 12, 2, 0, 0, 0) := by decide +kernel
theorem f_23_70 : ftc (PT 23) 70 = some (70, .lcmp, 1, 0, 0, 0) := by decide +kernel
theorem f_23_71 : ftc (PT 23) 71 = some (71, .ifCond .eq 20, 3, 91, 0, 0) := by decide +kernel
theorem f_23_74 : ftc (PT 23) 74 = some (74, .lload 10, 2, 0, 0, 0) := by decide +kernel
theorem f_23_76 : ftc (PT 23) 76 = some (76, .lload 12, 2, 0, 0, 0) := by decide +kernel
theorem f_23_78 : ftc (PT 23) 78 = some (78, .lcmp, 1, 0, 0, 0) := by decide +kernel
theorem f_23_79 : ftc (PT 23) 79 = some (79, .ifCond .ge 9, 3, 88, 0, 0) := by decide +kernel
theorem f_23_82 : ftc (PT 23) 82 = some (82, .iload 8, 2, 0, 0, 0) := by decide +kernel
theorem f_23_84 : ftc (PT 23) 84 = some (84, .ineg, 1, 0, 0, 0) := by decide +kernel
theorem f_23_85 : ftc (PT 23) 85 = some (85, .goto 5, 3, 90, 0, 0) := by decide +kernel
theorem f_23_88 : ftc (PT 23) 88 = some (88, .iload 8, 2, 0, 0, 0) := by decide +kernel
theorem f_23_90 : ftc (PT 23) 90 = some (90, .ireturn, 1, 0, 0, 0) := by decide +kernel
theorem f_23_91 : ftc (PT 23) 91 = some (91, .lload_n 0, 1, 0, 0, 0) := by decide +kernel
theorem f_23_92 : ftc (PT 23) 92 = some (92, .lload 10, 2, 0, 0, 0) := by decide +kernel
theorem f_23_94 : ftc (PT 23) 94 = some (94, .lload_n 2, 1, 0, 0, 0) := by decide +kernel
theorem f_23_95 : ftc (PT 23) 95 = some (95, .lmul, 1, 0, 0, 0) := by decide +kernel
theorem f_23_96 : ftc (PT 23) 96 = some (96, .lsub, 1, 0, 0, 0) := by decide +kernel
theorem f_23_97 : ftc (PT 23) 97 = some (97, .lstore 14, 2, 0, 0, 0) := by decide +kernel
theorem f_23_99 : ftc (PT 23) 99 = some (99, .lload 4, 2, 0, 0, 0) := by decide +kernel
theorem f_23_101 : ftc (PT 23) 101 = some (101, .lload 12, 2, 0, 0, 0) := by decide +kernel
theorem f_23_103 : ftc (PT 23) 103 = some (103, .lload 6, 2, 0, 0, 0) := by decide +kernel
theorem f_23_105 : ftc (PT 23) 105 = some (105, .lmul, 1, 0, 0, 0) := by decide +kernel
theorem f_23_106 : ftc (PT 23) 106 = some (106, .lsub, 1, 0, 0, 0) := by decide +kernel
theorem f_23_107 : ftc (PT 23) 107 = some (107, .lstore 16, 2, 0, 0, 0) := by decide +kernel
theorem f_23_109 : ftc (PT 23) 109 = some (109, .lload_n 2, 1, 0, 0, 0) := by decide +kernel
theorem f_23_110 : ftc (PT 23) 110 = some (110, .lstore_n 0, 1, 0, 0, 0) := by decide +kernel
theorem f_23_111 : ftc (PT 23) 111 = some (111, .lload 14, 2, 0, 0, 0) := by decide +kernel
theorem f_23_113 : ftc (PT 23) 113 = some (113, .lstore_n 2, 1, 0, 0, 0) := by decide +kernel
theorem f_23_114 : ftc (PT 23) 114 = some (114, .lload 6, 2, 0, 0, 0) := by decide +kernel
theorem f_23_116 : ftc (PT 23) 116 = some (116, .lstore 4, 2, 0, 0, 0) := by decide +kernel
theorem f_23_118 : ftc (PT 23) 118 = some (118, .lload 16, 2, 0, 0, 0) := by decide +kernel
theorem f_23_120 : ftc (PT 23) 120 = some (120, .lstore 6, 2, 0, 0, 0) := by decide +kernel
theorem f_23_122 : ftc (PT 23) 122 = some (122, .iload 8, 2, 0, 0, 0) := by decide +kernel
theorem f_23_124 : ftc (PT 23) 124 = some (124, .ineg, 1, 0, 0, 0) := by decide +kernel
theorem f_23_125 : ftc (PT 23) 125 = some (125, .istore 8, 2, 0, 0, 0) := by decide +kernel
theorem f_23_127 : ftc (PT 23) 127 = some (127, .iinc 9 1, 3, 0, 0, 0) := by decide +kernel
theorem f_23_130 : ftc (PT 23) 130 = some (130, .goto (-124), 3, 6, 0, 0) := by decide +kernel
theorem f_23_133 : ftc (PT 23) 133 = some (133, .iconst 0, 1, 0, 0, 0) := by decide +kernel
theorem f_23_134 : ftc (PT 23) 134 = some (134, .ireturn, 1, 0, 0, 0) := by decide +kernel
theorem f_25_0 : ftc (PT 25) 0 = some (0, .lload_n 1, 1, 0, 0, 0) := by decide +kernel
theorem f_25_1 : ftc (PT 25) 1 = some (1, .lload_n 3, 1, 0, 0, 0) := by decide +kernel
theorem f_25_2 : ftc (PT 25) 2 = some (2, .invokestatic 16, 3, 26, 11266, 656) := by decide +kernel
theorem f_25_5 : ftc (PT 25) 5 = some (5, .lstore 5, 2, 0, 0, 0) := by decide +kernel
theorem f_25_7 : ftc (PT 25) 7 = some (7, .lload 5, 2, 0, 0, 0) := by decide +kernel
theorem f_25_9 : ftc (PT 25) 9 = some (9, .lconst 0, 1, 0, 0, 0) := by decide +kernel
theorem f_25_10 : ftc (PT 25) 10 = some (10, .lcmp, 1, 0, 0, 0) := by decide +kernel
theorem f_25_11 : ftc (PT 25) 11 = some (11, .ifCond .ne 14, 3, 25, 0, 0) := by decide +kernel
theorem f_25_14 : ftc (PT 25) 14 = some (14, .aload_n 0, 1, 0, 0, 0) := by decide +kernel
theorem f_25_15 : ftc (PT 25) 15 = some (15, .lconst 0, 1, 0, 0, 0) := by decide +kernel
theorem f_25_16 : ftc (PT 25) 16 = some (16, .putfield 7, 3, 3, 0, 296) := by decide +kernel
theorem f_25_19 : ftc (PT 25) 19 = some (19, .aload_n 0, 1, 0, 0, 0) := by decide +kernel
theorem f_25_20 : ftc (PT 25) 20 = some (20, .lconst 1, 1, 0, 0, 0) := by decide +kernel
theorem f_25_21 : ftc (PT 25) 21 = some (21, .putfield 13, 3, 3, 1, 299) := by decide +kernel
theorem f_25_24 : ftc (PT 25) 24 = some (24, .return_, 1, 0, 0, 0) := by decide +kernel
theorem f_25_25 : ftc (PT 25) 25 = some (25, .lload_n 3, 1, 0, 0, 0) := by decide +kernel
theorem f_25_26 : ftc (PT 25) 26 = some (26, .lconst 0, 1, 0, 0, 0) := by decide +kernel
theorem f_25_27 : ftc (PT 25) 27 = some (27, .lcmp, 1, 0, 0, 0) := by decide +kernel
theorem f_25_28 : ftc (PT 25) 28 = some (28, .ifCond .lt 15, 3, 43, 0, 0) := by decide +kernel
theorem f_25_31 : ftc (PT 25) 31 = some (31, .lload_n 3, 1, 0, 0, 0) := by decide +kernel
theorem f_25_32 : ftc (PT 25) 32 = some (32, .lconst 0, 1, 0, 0, 0) := by decide +kernel
theorem f_25_33 : ftc (PT 25) 33 = some (33, .lcmp, 1, 0, 0, 0) := by decide +kernel
theorem f_25_34 : ftc (PT 25) 34 = some (34, .ifCond .ne 15, 3, 49, 0, 0) := by decide +kernel
theorem f_25_37 : ftc (PT 25) 37 = some (37, .lload_n 1, 1, 0, 0, 0) := by decide +kernel
theorem f_25_38 : ftc (PT 25) 38 = some (38, .lconst 0, 1, 0, 0, 0) := by decide +kernel
theorem f_25_39 : ftc (PT 25) 39 = some (39, .lcmp, 1, 0, 0, 0) := by decide +kernel
theorem f_25_40 : ftc (PT 25) 40 = some (40, .ifCond .ge 9, 3, 49, 0, 0) := by decide +kernel
theorem f_25_43 : ftc (PT 25) 43 = some (43, .lload 5, 2, 0, 0, 0) := by decide +kernel
theorem f_25_45 : ftc (PT 25) 45 = some (45, .lneg, 1, 0, 0, 0) := by decide +kernel
theorem f_25_46 : ftc (PT 25) 46 = some (46, .goto 5, 3, 51, 0, 0) := by decide +kernel
theorem f_25_49 : ftc (PT 25) 49 = some (49, .lload 5, 2, 0, 0, 0) := by decide +kernel
theorem f_25_51 : ftc (PT 25) 51 = some (51, .lstore 7, 2, 0, 0, 0) := by decide +kernel
theorem f_25_53 : ftc (PT 25) 53 = some (53, .aload_n 0, 1, 0, 0, 0) := by decide +kernel
theorem f_25_54 : ftc (PT 25) 54 = some (54, .lload_n 1, 1, 0, 0, 0) := by decide +kernel
theorem f_25_55 : ftc (PT 25) 55 = some (55, .lload 7, 2, 0, 0, 0) := by decide +kernel
theorem f_25_57 : ftc (PT 25) 57 = some (57, .ldiv, 1, 0, 0, 0) := by decide +kernel
theorem f_25_58 : ftc (PT 25) 58 = some (58, .putfield 7, 3, 3, 0, 296) := by decide +kernel
theorem f_25_61 : ftc (PT 25) 61 = some (61, .aload_n 0, 1, 0, 0, 0) := by decide +kernel
theorem f_25_62 : ftc (PT 25) 62 = some (62, .lload_n 3, 1, 0, 0, 0) := by decide +kernel
theorem f_25_63 : ftc (PT 25) 63 = some (63, .lload 7, 2, 0, 0, 0) := by decide +kernel
theorem f_25_65 : ftc (PT 25) 65 = some (65, .ldiv, 1, 0, 0, 0) := by decide +kernel
theorem f_25_66 : ftc (PT 25) 66 = some (66, .putfield 13, 3, 3, 1, 299) := by decide +kernel
theorem f_25_69 : ftc (PT 25) 69 = some (69, .return_, 1, 0, 0, 0) := by decide +kernel
theorem f_26_0 : ftc (PT 26) 0 = some (0, .lload_n 0, 1, 0, 0, 0) := by decide +kernel
theorem f_26_1 : ftc (PT 26) 1 = some (1, .invokestatic 27, 3, 415, 2049, 659) := by decide +kernel
theorem f_26_4 : ftc (PT 26) 4 = some (4, .lstore 4, 2, 0, 0, 0) := by decide +kernel
theorem f_26_6 : ftc (PT 26) 6 = some (6, .lload_n 2, 1, 0, 0, 0) := by decide +kernel
theorem f_26_7 : ftc (PT 26) 7 = some (7, .invokestatic 27, 3, 415, 2049, 659) := by decide +kernel
theorem f_26_10 : ftc (PT 26) 10 = some (10, .lstore 6, 2, 0, 0, 0) := by decide +kernel
theorem f_26_12 : ftc (PT 26) 12 = some (12, .iconst 0, 1, 0, 0, 0) := by decide +kernel
theorem f_26_13 : ftc (PT 26) 13 = some (13, .istore 8, 2, 0, 0, 0) := by decide +kernel
theorem f_26_15 : ftc (PT 26) 15 = some (15, .iload 8, 2, 0, 0, 0) := by decide +kernel
theorem f_26_17 : ftc (PT 26) 17 = some (17, .bipush 100, 2, 0, 0, 0) := by decide +kernel
theorem f_26_19 : ftc (PT 26) 19 = some (19, .if_icmp .ge 31, 3, 50, 0, 0) := by decide +kernel
theorem f_26_22 : ftc (PT 26) 22 = some (22, .lload 6, 2, 0, 0, 0) := by decide +kernel
theorem f_26_24 : ftc (PT 26) 24 = some (24, .lconst 0, 1, 0, 0, 0) := by decide +kernel
theorem f_26_25 : ftc (PT 26) 25 = some (25, .lcmp, 1, 0, 0, 0) := by decide +kernel
theorem f_26_26 : ftc (PT 26) 26 = some (26, .ifCond .eq 24, 3, 50, 0, 0) := by decide +kernel
theorem f_26_29 : ftc (PT 26) 29 = some (29, .lload 4, 2, 0, 0, 0) := by decide +kernel
theorem f_26_31 : ftc (PT 26) 31 = some (31, .lload 6, 2, 0, 0, 0) := by decide +kernel
theorem f_26_33 : ftc (PT 26) 33 = some (33, .lrem, 1, 0, 0, 0) := by decide +kernel
theorem f_26_34 : ftc (PT 26) 34 = some (34, .lstore 9, 2, 0, 0, 0) := by decide +kernel
theorem f_26_36 : ftc (PT 26) 36 = some (36, .lload 6, 2, 0, 0, 0) := by decide +kernel
theorem f_26_38 : ftc (PT 26) 38 = some (38, .lstore 4, 2, 0, 0, 0) := by decide +kernel
theorem f_26_40 : ftc (PT 26) 40 = some (40, .lload 9, 2, 0, 0, 0) := by decide +kernel
theorem f_26_42 : ftc (PT 26) 42 = some (42, .lstore 6, 2, 0, 0, 0) := by decide +kernel
theorem f_26_44 : ftc (PT 26) 44 = some (44, .iinc 8 1, 3, 0, 0, 0) := by decide +kernel
theorem f_26_47 : ftc (PT 26) 47 = some (47, .goto (-32), 3, 15, 0, 0) := by decide +kernel
theorem f_26_50 : ftc (PT 26) 50 = some (50, .lload 4, 2, 0, 0, 0) := by decide +kernel
theorem f_26_52 : ftc (PT 26) 52 = some (52, .lreturn, 1, 0, 0, 0) := by decide +kernel
theorem f_27_0 : ftc (PT 27) 0 = some (0, .aload_n 0, 1, 0, 0, 0) := by decide +kernel
theorem f_27_1 : ftc (PT 27) 1 = some (1, .aload_n 0, 1, 0, 0, 0) := by decide +kernel
theorem f_27_2 : ftc (PT 27) 2 = some (2, .getfield 7, 3, 3, 0, 296) := by decide +kernel
theorem f_27_5 : ftc (PT 27) 5 = some (5, .lload_n 3, 1, 0, 0, 0) := by decide +kernel
theorem f_27_6 : ftc (PT 27) 6 = some (6, .lmul, 1, 0, 0, 0) := by decide +kernel
theorem f_27_7 : ftc (PT 27) 7 = some (7, .aload_n 0, 1, 0, 0, 0) := by decide +kernel
theorem f_27_8 : ftc (PT 27) 8 = some (8, .getfield 13, 3, 3, 1, 299) := by decide +kernel
theorem f_27_11 : ftc (PT 27) 11 = some (11, .lload_n 1, 1, 0, 0, 0) := by decide +kernel
theorem f_27_12 : ftc (PT 27) 12 = some (12, .lmul, 1, 0, 0, 0) := by decide +kernel
theorem f_27_13 : ftc (PT 27) 13 = some (13, .ladd, 1, 0, 0, 0) := by decide +kernel
theorem f_27_14 : ftc (PT 27) 14 = some (14, .aload_n 0, 1, 0, 0, 0) := by decide +kernel
theorem f_27_15 : ftc (PT 27) 15 = some (15, .getfield 13, 3, 3, 1, 299) := by decide +kernel
theorem f_27_18 : ftc (PT 27) 18 = some (18, .lload_n 3, 1, 0, 0, 0) := by decide +kernel
theorem f_27_19 : ftc (PT 27) 19 = some (19, .lmul, 1, 0, 0, 0) := by decide +kernel
theorem f_27_20 : ftc (PT 27) 20 = some (20, .aload_n 0, 1, 0, 0, 0) := by decide +kernel
theorem f_27_21 : ftc (PT 27) 21 = some (21, .getfield 7, 3, 3, 0, 296) := by decide +kernel
theorem f_27_24 : ftc (PT 27) 24 = some (24, .lload_n 1, 1, 0, 0, 0) := by decide +kernel
theorem f_27_25 : ftc (PT 27) 25 = some (25, .lmul, 1, 0, 0, 0) := by decide +kernel
theorem f_27_26 : ftc (PT 27) 26 = some (26, .lsub, 1, 0, 0, 0) := by decide +kernel
theorem f_27_27 : ftc (PT 27) 27 = some (27, .invokevirtual 20, 3, 25, 9283, 708) := by decide +kernel
theorem f_27_30 : ftc (PT 27) 30 = some (30, .return_, 1, 0, 0, 0) := by decide +kernel
theorem f_28_0 : ftc (PT 28) 0 = some (0, .lload_n 0, 1, 0, 0, 0) := by decide +kernel
theorem f_28_1 : ftc (PT 28) 1 = some (1, .lload_n 2, 1, 0, 0, 0) := by decide +kernel
theorem f_28_2 : ftc (PT 28) 2 = some (2, .invokestatic 33, 3, 29, 4098, 712) := by decide +kernel
theorem f_28_5 : ftc (PT 28) 5 = some (5, .istore 8, 2, 0, 0, 0) := by decide +kernel
theorem f_28_7 : ftc (PT 28) 7 = some (7, .lload 4, 2, 0, 0, 0) := by decide +kernel
theorem f_28_9 : ftc (PT 28) 9 = some (9, .lload 6, 2, 0, 0, 0) := by decide +kernel
theorem f_28_11 : ftc (PT 28) 11 = some (11, .invokestatic 33, 3, 29, 4098, 712) := by decide +kernel
theorem f_28_14 : ftc (PT 28) 14 = some (14, .istore 9, 2, 0, 0, 0) := by decide +kernel
theorem f_28_16 : ftc (PT 28) 16 = some (16, .iload 8, 2, 0, 0, 0) := by decide +kernel
theorem f_28_18 : ftc (PT 28) 18 = some (18, .iload 9, 2, 0, 0, 0) := by decide +kernel
theorem f_28_20 : ftc (PT 28) 20 = some (20, .if_icmp .eq 16, 3, 36, 0, 0) := by decide +kernel
theorem f_28_23 : ftc (PT 28) 23 = some (23, .iload 8, 2, 0, 0, 0) := by decide +kernel
theorem f_28_25 : ftc (PT 28) 25 = some (25, .iload 9, 2, 0, 0, 0) := by decide +kernel
theorem f_28_27 : ftc (PT 28) 27 = some (27, .if_icmp .ge 7, 3, 34, 0, 0) := by decide +kernel
theorem f_28_30 : ftc (PT 28) 30 = some (30, .iconst (-1), 1, 0, 0, 0) := by decide +kernel
theorem f_28_31 : ftc (PT 28) 31 = some (31, .goto 4, 3, 35, 0, 0) := by decide +kernel
theorem f_28_34 : ftc (PT 28) 34 = some (34, .iconst 1, 1, 0, 0, 0) := by decide +kernel
theorem f_28_35 : ftc (PT 28) 35 = some (35, .ireturn, 1, 0, 0, 0) := by decide +kernel
theorem f_28_36 : ftc (PT 28) 36 = some (36, .iload 8, 2, 0, 0, 0) := by decide +kernel
theorem f_28_38 : ftc (PT 28) 38 = some (38, .iconst 1, 1, 0, 0, 0) := by decide +kernel
theorem f_28_39 : ftc (PT 28) 39 = some (39, .if_icmp .ne 7, 3, 46, 0, 0) := by decide +kernel
theorem f_28_42 : ftc (PT 28) 42 = some (42, .iconst 0, 1, 0, 0, 0) := by decide +kernel
theorem f_28_43 : ftc (PT 28) 43 = some (43, .goto 14, 3, 57, 0, 0) := by decide +kernel
theorem f_28_46 : ftc (PT 28) 46 = some (46, .lload_n 0, 1, 0, 0, 0) := by decide +kernel
theorem f_28_47 : ftc (PT 28) 47 = some (47, .lload 6, 2, 0, 0, 0) := by decide +kernel
theorem f_28_49 : ftc (PT 28) 49 = some (49, .lmul, 1, 0, 0, 0) := by decide +kernel
theorem f_28_50 : ftc (PT 28) 50 = some (50, .lload 4, 2, 0, 0, 0) := by decide +kernel
theorem f_28_52 : ftc (PT 28) 52 = some (52, .lload_n 2, 1, 0, 0, 0) := by decide +kernel
theorem f_28_53 : ftc (PT 28) 53 = some (53, .lmul, 1, 0, 0, 0) := by decide +kernel
theorem f_28_54 : ftc (PT 28) 54 = some (54, .invokestatic 37, 3, 418, 4098, 715) := by decide +kernel
theorem f_28_57 : ftc (PT 28) 57 = some (57, .ireturn, 1, 0, 0, 0) := by decide +kernel
theorem f_29_0 : ftc (PT 29) 0 = some (0, .lload_n 2, 1, 0, 0, 0) := by decide +kernel
theorem f_29_1 : ftc (PT 29) 1 = some (1, .lconst 0, 1, 0, 0, 0) := by decide +kernel
theorem f_29_2 : ftc (PT 29) 2 = some (2, .lcmp, 1, 0, 0, 0) := by decide +kernel
theorem f_29_3 : ftc (PT 29) 3 = some (3, .ifCond .ne 5, 3, 8, 0, 0) := by decide +kernel
theorem f_29_6 : ftc (PT 29) 6 = some (6, .iconst 1, 1, 0, 0, 0) := by decide +kernel
theorem f_29_7 : ftc (PT 29) 7 = some (7, .ireturn, 1, 0, 0, 0) := by decide +kernel
theorem f_29_8 : ftc (PT 29) 8 = some (8, .lload_n 0, 1, 0, 0, 0) := by decide +kernel
theorem f_29_9 : ftc (PT 29) 9 = some (9, .lconst 0, 1, 0, 0, 0) := by decide +kernel
theorem f_29_10 : ftc (PT 29) 10 = some (10, .lcmp, 1, 0, 0, 0) := by decide +kernel
theorem f_29_11 : ftc (PT 29) 11 = some (11, .ifCond .lt 7, 3, 18, 0, 0) := by decide +kernel
theorem f_29_14 : ftc (PT 29) 14 = some (14, .iconst 0, 1, 0, 0, 0) := by decide +kernel
theorem f_29_15 : ftc (PT 29) 15 = some (15, .goto 4, 3, 19, 0, 0) := by decide +kernel
theorem f_29_18 : ftc (PT 29) 18 = some (18, .iconst 2, 1, 0, 0, 0) := by decide +kernel
theorem f_29_19 : ftc (PT 29) 19 = some (19, .ireturn, 1, 0, 0, 0) := by decide +kernel
theorem f_30_0 : ftc (PT 30) 0 = some (0, .aload_n 0, 1, 0, 0, 0) := by decide +kernel
theorem f_30_1 : ftc (PT 30) 1 = some (1, .lload_n 1, 1, 0, 0, 0) := by decide +kernel
theorem f_30_2 : ftc (PT 30) 2 = some (2, .lload_n 3, 1, 0, 0, 0) := by decide +kernel
theorem f_30_3 : ftc (PT 30) 3 = some (3, .invokevirtual 20, 3, 25, 9283, 708) := by decide +kernel
theorem f_30_6 : ftc (PT 30) 6 = some (6, .iconst 1, 1, 0, 0, 0) := by decide +kernel
theorem f_30_7 : ftc (PT 30) 7 = some (7, .istore 6, 2, 0, 0, 0) := by decide +kernel
theorem f_30_9 : ftc (PT 30) 9 = some (9, .iload 6, 2, 0, 0, 0) := by decide +kernel
theorem f_30_11 : ftc (PT 30) 11 = some (11, .iload 5, 2, 0, 0, 0) := by decide +kernel
theorem f_30_13 : ftc (PT 30) 13 = some (13, .if_icmp .ge 15, 3, 28, 0, 0) := by decide +kernel
theorem f_30_16 : ftc (PT 30) 16 = some (16, .aload_n 0, 1, 0, 0, 0) := by decide +kernel
theorem f_30_17 : ftc (PT 30) 17 = some (17, .lload_n 1, 1, 0, 0, 0) := by decide +kernel
theorem f_30_18 : ftc (PT 30) 18 = some (18, .lload_n 3, 1, 0, 0, 0) := by decide +kernel
theorem f_30_19 : ftc (PT 30) 19 = some (19, .invokevirtual 24, 3, 27, 5187, 757) := by decide +kernel
theorem f_30_22 : ftc (PT 30) 22 = some (22, .iinc 6 1, 3, 0, 0, 0) := by decide +kernel
theorem f_30_25 : ftc (PT 30) 25 = some (25, .goto (-16), 3, 9, 0, 0) := by decide +kernel
theorem f_30_28 : ftc (PT 30) 28 = some (28, .return_, 1, 0, 0, 0) := by decide +kernel
theorem f_32_0 : ftc (PT 32) 0 = some (0, .lconst 0, 1, 0, 0, 0) := by decide +kernel
theorem f_32_1 : ftc (PT 32) 1 = some (1, .lstore_n 2, 1, 0, 0, 0) := by decide +kernel
theorem f_32_2 : ftc (PT 32) 2 = some (2, .bipush 30, 2, 0, 0, 0) := by decide +kernel
theorem f_32_4 : ftc (PT 32) 4 = some (4, .istore 4, 2, 0, 0, 0) := by decide +kernel
theorem f_32_6 : ftc (PT 32) 6 = some (6, .iload 4, 2, 0, 0, 0) := by decide +kernel
theorem f_32_8 : ftc (PT 32) 8 = some (8, .ifCond .lt 30, 3, 38, 0, 0) := by decide +kernel
theorem f_32_11 : ftc (PT 32) 11 = some (11, .lload_n 2, 1, 0, 0, 0) := by decide +kernel
theorem f_32_12 : ftc (PT 32) 12 = some (12, .lconst 1, 1, 0, 0, 0) := by decide +kernel
theorem f_32_13 : ftc (PT 32) 13 = some (13, .iload 4, 2, 0, 0, 0) := by decide +kernel
theorem f_32_15 : ftc (PT 32) 15 = some (15, .lshl, 1, 0, 0, 0) := by decide +kernel
theorem f_32_16 : ftc (PT 32) 16 = some (16, .ladd, 1, 0, 0, 0) := by decide +kernel
theorem f_32_17 : ftc (PT 32) 17 = some (17, .lstore 5, 2, 0, 0, 0) := by decide +kernel
theorem f_32_19 : ftc (PT 32) 19 = some (19, .lload 5, 2, 0, 0, 0) := by decide +kernel
theorem f_32_21 : ftc (PT 32) 21 = some (21, .lload 5, 2, 0, 0, 0) := by decide +kernel
theorem f_32_23 : ftc (PT 32) 23 = some (23, .lmul, 1, 0, 0, 0) := by decide +kernel
theorem f_32_24 : ftc (PT 32) 24 = some (24, .lload_n 0, 1, 0, 0, 0) := by decide +kernel
theorem f_32_25 : ftc (PT 32) 25 = some (25, .lcmp, 1, 0, 0, 0) := by decide +kernel
theorem f_32_26 : ftc (PT 32) 26 = some (26, .ifCond .gt 6, 3, 32, 0, 0) := by decide +kernel
theorem f_32_29 : ftc (PT 32) 29 = some (29, .lload 5, 2, 0, 0, 0) := by decide +kernel
theorem f_32_31 : ftc (PT 32) 31 = some (31, .lstore_n 2, 1, 0, 0, 0) := by decide +kernel
theorem f_32_32 : ftc (PT 32) 32 = some (32, .iinc 4 (-1), 3, 0, 0, 0) := by decide +kernel
theorem f_32_35 : ftc (PT 32) 35 = some (35, .goto (-29), 3, 6, 0, 0) := by decide +kernel
theorem f_32_38 : ftc (PT 32) 38 = some (38, .lload_n 2, 1, 0, 0, 0) := by decide +kernel
theorem f_32_39 : ftc (PT 32) 39 = some (39, .lreturn, 1, 0, 0, 0) := by decide +kernel
theorem f_34_0 : ftc (PT 34) 0 = some (0, .aload_n 0, 1, 0, 0, 0) := by decide +kernel
theorem f_34_1 : ftc (PT 34) 1 = some (1, .iload_n 3, 1, 0, 0, 0) := by decide +kernel
theorem f_34_2 : ftc (PT 34) 2 = some (2, .i2l, 1, 0, 0, 0) := by decide +kernel
theorem f_34_3 : ftc (PT 34) 3 = some (3, .putfield 30, 3, 4, 6, 360) := by decide +kernel
theorem f_34_6 : ftc (PT 34) 6 = some (6, .aload_n 0, 1, 0, 0, 0) := by decide +kernel
theorem f_34_7 : ftc (PT 34) 7 = some (7, .iload 4, 2, 0, 0, 0) := by decide +kernel
theorem f_34_9 : ftc (PT 34) 9 = some (9, .i2l, 1, 0, 0, 0) := by decide +kernel
theorem f_34_10 : ftc (PT 34) 10 = some (10, .putfield 33, 3, 4, 7, 361) := by decide +kernel
theorem f_34_13 : ftc (PT 34) 13 = some (13, .aload_n 0, 1, 0, 0, 0) := by decide +kernel
theorem f_34_14 : ftc (PT 34) 14 = some (14, .iload_n 2, 1, 0, 0, 0) := by decide +kernel
theorem f_34_15 : ftc (PT 34) 15 = some (15, .ifCond .eq 10, 3, 25, 0, 0) := by decide +kernel
theorem f_34_18 : ftc (PT 34) 18 = some (18, .aload_n 1, 1, 0, 0, 0) := by decide +kernel
theorem f_34_19 : ftc (PT 34) 19 = some (19, .getfield 36, 3, 6, 0, 273) := by decide +kernel
theorem f_34_22 : ftc (PT 34) 22 = some (22, .goto 12, 3, 34, 0, 0) := by decide +kernel
theorem f_34_25 : ftc (PT 34) 25 = some (25, .aload_n 1, 1, 0, 0, 0) := by decide +kernel
theorem f_34_26 : ftc (PT 34) 26 = some (26, .getfield 36, 3, 6, 0, 273) := by decide +kernel
theorem f_34_29 : ftc (PT 34) 29 = some (29, .aload_n 1, 1, 0, 0, 0) := by decide +kernel
theorem f_34_30 : ftc (PT 34) 30 = some (30, .getfield 41, 3, 6, 2, 280) := by decide +kernel
theorem f_34_33 : ftc (PT 34) 33 = some (33, .lmul, 1, 0, 0, 0) := by decide +kernel
theorem f_34_34 : ftc (PT 34) 34 = some (34, .putfield 17, 3, 4, 2, 356) := by decide +kernel
theorem f_34_37 : ftc (PT 34) 37 = some (37, .aload_n 0, 1, 0, 0, 0) := by decide +kernel
theorem f_34_38 : ftc (PT 34) 38 = some (38, .iload_n 2, 1, 0, 0, 0) := by decide +kernel
theorem f_34_39 : ftc (PT 34) 39 = some (39, .ifCond .eq 10, 3, 49, 0, 0) := by decide +kernel
theorem f_34_42 : ftc (PT 34) 42 = some (42, .aload_n 1, 1, 0, 0, 0) := by decide +kernel
theorem f_34_43 : ftc (PT 34) 43 = some (43, .getfield 41, 3, 6, 2, 280) := by decide +kernel
theorem f_34_46 : ftc (PT 34) 46 = some (46, .goto 7, 3, 53, 0, 0) := by decide +kernel
theorem f_34_49 : ftc (PT 34) 49 = some (49, .aload_n 1, 1, 0, 0, 0) := by decide +kernel
theorem f_34_50 : ftc (PT 34) 50 = some (50, .invokevirtual 44, 3, 55, 1030, 1258) := by decide +kernel
theorem f_34_53 : ftc (PT 34) 53 = some (53, .putfield 21, 3, 4, 3, 357) := by decide +kernel
theorem f_34_56 : ftc (PT 34) 56 = some (56, .aload_n 0, 1, 0, 0, 0) := by decide +kernel
theorem f_34_57 : ftc (PT 34) 57 = some (57, .iload_n 2, 1, 0, 0, 0) := by decide +kernel
theorem f_34_58 : ftc (PT 34) 58 = some (58, .ifCond .eq 10, 3, 68, 0, 0) := by decide +kernel
theorem f_34_61 : ftc (PT 34) 61 = some (61, .aload_n 1, 1, 0, 0, 0) := by decide +kernel
theorem f_34_62 : ftc (PT 34) 62 = some (62, .getfield 48, 3, 6, 1, 277) := by decide +kernel
theorem f_34_65 : ftc (PT 34) 65 = some (65, .goto 13, 3, 78, 0, 0) := by decide +kernel
theorem f_34_68 : ftc (PT 34) 68 = some (68, .aload_n 1, 1, 0, 0, 0) := by decide +kernel
theorem f_34_69 : ftc (PT 34) 69 = some (69, .getfield 48, 3, 6, 1, 277) := by decide +kernel
theorem f_34_72 : ftc (PT 34) 72 = some (72, .lneg, 1, 0, 0, 0) := by decide +kernel
theorem f_34_73 : ftc (PT 34) 73 = some (73, .aload_n 1, 1, 0, 0, 0) := by decide +kernel
theorem f_34_74 : ftc (PT 34) 74 = some (74, .getfield 41, 3, 6, 2, 280) := by decide +kernel
theorem f_34_77 : ftc (PT 34) 77 = some (77, .lmul, 1, 0, 0, 0) := by decide +kernel
theorem f_34_78 : ftc (PT 34) 78 = some (78, .putfield 24, 3, 4, 4, 358) := by decide +kernel
theorem f_34_81 : ftc (PT 34) 81 = some (81, .aload_n 0, 1, 0, 0, 0) := by decide +kernel
theorem f_34_82 : ftc (PT 34) 82 = some (82, .getfield 17, 3, 4, 2, 356) := by decide +kernel
theorem f_34_85 : ftc (PT 34) 85 = some (85, .aload_n 0, 1, 0, 0, 0) := by decide +kernel
theorem f_34_86 : ftc (PT 34) 86 = some (86, .getfield 21, 3, 4, 3, 357) := by decide +kernel
theorem f_34_89 : ftc (PT 34) 89 = some (89, .aload_n 0, 1, 0, 0, 0) := by decide +kernel
theorem f_34_90 : ftc (PT 34) 90 = some (90, .getfield 30, 3, 4, 6, 360) := by decide +kernel
theorem f_34_93 : ftc (PT 34) 93 = some (93, .aload_n 0, 1, 0, 0, 0) := by decide +kernel
theorem f_34_94 : ftc (PT 34) 94 = some (94, .getfield 30, 3, 4, 6, 360) := by decide +kernel
theorem f_34_97 : ftc (PT 34) 97 = some (97, .lmul, 1, 0, 0, 0) := by decide +kernel
theorem f_34_98 : ftc (PT 34) 98 = some (98, .aload_n 0, 1, 0, 0, 0) := by decide +kernel
theorem f_34_99 : ftc (PT 34) 99 = some (99, .getfield 33, 3, 4, 7, 361) := by decide +kernel
theorem f_34_102 : ftc (PT 34) 102 = some (102, .aload_n 0, 1, 0, 0, 0) := by decide +kernel
theorem f_34_103 : ftc (PT 34) 103 = some (103, .getfield 33, 3, 4, 7, 361) := by decide +kernel
theorem f_34_106 : ftc (PT 34) 106 = some (106, .lmul, 1, 0, 0, 0) := by decide +kernel
theorem f_34_107 : ftc (PT 34) 107 = some (107, .ladd, 1, 0, 0, 0) := by decide +kernel
theorem f_34_108 : ftc (PT 34) 108 = some (108, .lmul, 1, 0, 0, 0) := by decide +kernel
theorem f_34_109 : ftc (PT 34) 109 = some (109, .aload_n 0, 1, 0, 0, 0) := by decide +kernel
theorem f_34_110 : ftc (PT 34) 110 = some (110, .getfield 17, 3, 4, 2, 356) := by decide +kernel
theorem f_34_113 : ftc (PT 34) 113 = some (113, .aload_n 0, 1, 0, 0, 0) := by decide +kernel
theorem f_34_114 : ftc (PT 34) 114 = some (114, .getfield 30, 3, 4, 6, 360) := by decide +kernel
theorem f_34_117 : ftc (PT 34) 117 = some (117, .lmul, 1, 0, 0, 0) := by decide +kernel
theorem f_34_118 : ftc (PT 34) 118 = some (118, .aload_n 0, 1, 0, 0, 0) := by decide +kernel
theorem f_34_119 : ftc (PT 34) 119 = some (119, .getfield 30, 3, 4, 6, 360) := by decide +kernel
theorem f_34_122 : ftc (PT 34) 122 = some (122, .lmul, 1, 0, 0, 0) := by decide +kernel
theorem f_34_123 : ftc (PT 34) 123 = some (123, .lsub, 1, 0, 0, 0) := by decide +kernel
theorem f_34_124 : ftc (PT 34) 124 = some (124, .lmul, 1, 0, 0, 0) := by decide +kernel
theorem f_34_125 : ftc (PT 34) 125 = some (125, .lstore 5, 2, 0, 0, 0) := by decide +kernel
theorem f_34_127 : ftc (PT 34) 127 = some (127, .aload_n 0, 1, 0, 0, 0) := by decide +kernel
theorem f_34_128 : ftc (PT 34) 128 = some (128, .lload 5, 2, 0, 0, 0) := by decide +kernel
theorem f_34_130 : ftc (PT 34) 130 = some (130, .lconst 0, 1, 0, 0, 0) := by decide +kernel
theorem f_34_131 : ftc (PT 34) 131 = some (131, .lcmp, 1, 0, 0, 0) := by decide +kernel
theorem f_34_132 : ftc (PT 34) 132 = some (132, .ifCond .ge 7, 3, 139, 0, 0) := by decide +kernel
theorem f_34_135 : ftc (PT 34) 135 = some (135, .lconst 0, 1, 0, 0, 0) := by decide +kernel
theorem f_34_136 : ftc (PT 34) 136 = some (136, .goto 8, 3, 144, 0, 0) := by decide +kernel
theorem f_34_139 : ftc (PT 34) 139 = some (139, .lload 5, 2, 0, 0, 0) := by decide +kernel
theorem f_34_141 : ftc (PT 34) 141 = some (141, .invokestatic 51, 3, 32, 7169, 1259) := by decide +kernel
theorem f_34_144 : ftc (PT 34) 144 = some (144, .putfield 27, 3, 4, 5, 359) := by decide +kernel
theorem f_34_147 : ftc (PT 34) 147 = some (147, .aload_n 0, 1, 0, 0, 0) := by decide +kernel
theorem f_34_148 : ftc (PT 34) 148 = some (148, .aload_n 0, 1, 0, 0, 0) := by decide +kernel
theorem f_34_149 : ftc (PT 34) 149 = some (149, .getfield 27, 3, 4, 5, 359) := by decide +kernel
theorem f_34_152 : ftc (PT 34) 152 = some (152, .aload_n 0, 1, 0, 0, 0) := by decide +kernel
theorem f_34_153 : ftc (PT 34) 153 = some (153, .getfield 27, 3, 4, 5, 359) := by decide +kernel
theorem f_34_156 : ftc (PT 34) 156 = some (156, .lmul, 1, 0, 0, 0) := by decide +kernel
theorem f_34_157 : ftc (PT 34) 157 = some (157, .lload 5, 2, 0, 0, 0) := by decide +kernel
theorem f_34_159 : ftc (PT 34) 159 = some (159, .lcmp, 1, 0, 0, 0) := by decide +kernel
theorem f_34_160 : ftc (PT 34) 160 = some (160, .ifCond .ne 7, 3, 167, 0, 0) := by decide +kernel
theorem f_34_163 : ftc (PT 34) 163 = some (163, .iconst 1, 1, 0, 0, 0) := by decide +kernel
theorem f_34_164 : ftc (PT 34) 164 = some (164, .goto 4, 3, 168, 0, 0) := by decide +kernel
theorem f_34_167 : ftc (PT 34) 167 = some (167, .iconst 0, 1, 0, 0, 0) := by decide +kernel
theorem f_34_168 : ftc (PT 34) 168 = some (168, .putfield 13, 3, 4, 1, 354) := by decide +kernel
theorem f_34_171 : ftc (PT 34) 171 = some (171, .aload_n 0, 1, 0, 0, 0) := by decide +kernel
theorem f_34_172 : ftc (PT 34) 172 = some (172, .getfield 17, 3, 4, 2, 356) := by decide +kernel
theorem f_34_175 : ftc (PT 34) 175 = some (175, .lconst 0, 1, 0, 0, 0) := by decide +kernel
theorem f_34_176 : ftc (PT 34) 176 = some (176, .lcmp, 1, 0, 0, 0) := by decide +kernel
theorem f_34_177 : ftc (PT 34) 177 = some (177, .ifCond .eq 10, 3, 187, 0, 0) := by decide +kernel
theorem f_34_180 : ftc (PT 34) 180 = some (180, .lload 5, 2, 0, 0, 0) := by decide +kernel
theorem f_34_182 : ftc (PT 34) 182 = some (182, .lconst 0, 1, 0, 0, 0) := by decide +kernel
theorem f_34_183 : ftc (PT 34) 183 = some (183, .lcmp, 1, 0, 0, 0) := by decide +kernel
theorem f_34_184 : ftc (PT 34) 184 = some (184, .ifCond .ge 11, 3, 195, 0, 0) := by decide +kernel
theorem f_34_187 : ftc (PT 34) 187 = some (187, .aload_n 0, 1, 0, 0, 0) := by decide +kernel
theorem f_34_188 : ftc (PT 34) 188 = some (188, .iconst 0, 1, 0, 0, 0) := by decide +kernel
theorem f_34_189 : ftc (PT 34) 189 = some (189, .putfield 7, 3, 4, 0, 352) := by decide +kernel
theorem f_34_192 : ftc (PT 34) 192 = some (192, .goto 19, 3, 211, 0, 0) := by decide +kernel
theorem f_34_195 : ftc (PT 34) 195 = some (195, .aload_n 0, 1, 0, 0, 0) := by decide +kernel
theorem f_34_196 : ftc (PT 34) 196 = some (196, .lload 5, 2, 0, 0, 0) := by decide +kernel
theorem f_34_198 : ftc (PT 34) 198 = some (198, .lconst 0, 1, 0, 0, 0) := by decide +kernel
theorem f_34_199 : ftc (PT 34) 199 = some (199, .lcmp, 1, 0, 0, 0) := by decide +kernel
theorem f_34_200 : ftc (PT 34) 200 = some (200, .ifCond .ne 7, 3, 207, 0, 0) := by decide +kernel
theorem f_34_203 : ftc (PT 34) 203 = some (203, .iconst 1, 1, 0, 0, 0) := by decide +kernel
theorem f_34_204 : ftc (PT 34) 204 = some (204, .goto 4, 3, 208, 0, 0) := by decide +kernel
theorem f_34_207 : ftc (PT 34) 207 = some (207, .iconst 2, 1, 0, 0, 0) := by decide +kernel
theorem f_34_208 : ftc (PT 34) 208 = some (208, .putfield 7, 3, 4, 0, 352) := by decide +kernel
theorem f_34_211 : ftc (PT 34) 211 = some (211, .return_, 1, 0, 0, 0) := by decide +kernel
theorem f_35_28 : ftc (PT 35) 28 = some (28, .return_, 1, 0, 0, 0) := by decide +kernel
theorem f_37_38 : ftc (PT 37) 38 = some (38, .return_, 1, 0, 0, 0) := by decide +kernel
theorem f_55_0 : ftc (PT 55) 0 = some (0, .aload_n 0, 1, 0, 0, 0) := by decide +kernel
theorem f_55_1 : ftc (PT 55) 1 = some (1, .getfield 7, 3, 6, 0, 271) := by decide +kernel
theorem f_55_4 : ftc (PT 55) 4 = some (4, .aload_n 0, 1, 0, 0, 0) := by decide +kernel
theorem f_55_5 : ftc (PT 55) 5 = some (5, .getfield 7, 3, 6, 0, 271) := by decide +kernel
theorem f_55_8 : ftc (PT 55) 8 = some (8, .lmul, 1, 0, 0, 0) := by decide +kernel
theorem f_55_9 : ftc (PT 55) 9 = some (9, .aload_n 0, 1, 0, 0, 0) := by decide +kernel
theorem f_55_10 : ftc (PT 55) 10 = some (10, .getfield 13, 3, 6, 1, 275) := by decide +kernel
theorem f_55_13 : ftc (PT 55) 13 = some (13, .aload_n 0, 1, 0, 0, 0) := by decide +kernel
theorem f_55_14 : ftc (PT 55) 14 = some (14, .getfield 13, 3, 6, 1, 275) := by decide +kernel
theorem f_55_17 : ftc (PT 55) 17 = some (17, .lmul, 1, 0, 0, 0) := by decide +kernel
theorem f_55_18 : ftc (PT 55) 18 = some (18, .ladd, 1, 0, 0, 0) := by decide +kernel
theorem f_55_19 : ftc (PT 55) 19 = some (19, .lreturn, 1, 0, 0, 0) := by decide +kernel
theorem f_415_0 : ftc (PT 415) 0 = some (0, .lload_n 0, 1, 0, 0, 0) := by decide +kernel
theorem f_415_1 : ftc (PT 415) 1 = some (1, .lconst 0, 1, 0, 0, 0) := by decide +kernel
theorem f_415_2 : ftc (PT 415) 2 = some (2, .lcmp, 1, 0, 0, 0) := by decide +kernel
theorem f_415_3 : ftc (PT 415) 3 = some (3, .ifCond .ge 8, 3, 11, 0, 0) := by decide +kernel
theorem f_415_6 : ftc (PT 415) 6 = some (6, .lload_n 0, 1, 0, 0, 0) := by decide +kernel
theorem f_415_7 : ftc (PT 415) 7 = some (7, .lneg, 1, 0, 0, 0) := by decide +kernel
theorem f_415_8 : ftc (PT 415) 8 = some (8, .goto 4, 3, 12, 0, 0) := by decide +kernel
theorem f_415_11 : ftc (PT 415) 11 = some (11, .lload_n 0, 1, 0, 0, 0) := by decide +kernel
theorem f_415_12 : ftc (PT 415) 12 = some (12, .lreturn, 1, 0, 0, 0) := by decide +kernel
theorem f_418_0 : ftc (PT 418) 0 = some (0, .lload_n 0, 1, 0, 0, 0) := by decide +kernel
theorem f_418_1 : ftc (PT 418) 1 = some (1, .lload_n 2, 1, 0, 0, 0) := by decide +kernel
theorem f_418_2 : ftc (PT 418) 2 = some (2, .lcmp, 1, 0, 0, 0) := by decide +kernel
theorem f_418_3 : ftc (PT 418) 3 = some (3, .ifCond .ge 7, 3, 10, 0, 0) := by decide +kernel
theorem f_418_6 : ftc (PT 418) 6 = some (6, .iconst (-1), 1, 0, 0, 0) := by decide +kernel
theorem f_418_7 : ftc (PT 418) 7 = some (7, .goto 14, 3, 21, 0, 0) := by decide +kernel
theorem f_418_10 : ftc (PT 418) 10 = some (10, .lload_n 0, 1, 0, 0, 0) := by decide +kernel
theorem f_418_11 : ftc (PT 418) 11 = some (11, .lload_n 2, 1, 0, 0, 0) := by decide +kernel
theorem f_418_12 : ftc (PT 418) 12 = some (12, .lcmp, 1, 0, 0, 0) := by decide +kernel
theorem f_418_13 : ftc (PT 418) 13 = some (13, .ifCond .ne 7, 3, 20, 0, 0) := by decide +kernel
theorem f_418_16 : ftc (PT 418) 16 = some (16, .iconst 0, 1, 0, 0, 0) := by decide +kernel
theorem f_418_17 : ftc (PT 418) 17 = some (17, .goto 4, 3, 21, 0, 0) := by decide +kernel
theorem f_418_20 : ftc (PT 418) 20 = some (20, .iconst 1, 1, 0, 0, 0) := by decide +kernel
theorem f_418_21 : ftc (PT 418) 21 = some (21, .ireturn, 1, 0, 0, 0) := by decide +kernel
set_option maxRecDepth 10000 in
set_option maxHeartbeats 4000000 in
theorem s_2_7 {Lx : Nat} {I : Mi} {L : Ml} {e : Nat} {Q : Kq} {r : Int32} (h :
    (if r = 0 then
     Q (.inl (some (.int (Int32.ofInt 0)))) (gE Lx) I L e
    else if r = 1 then
     Q (.inl (some (.int (Int32.ofInt 1)))) (gE Lx) I L e
    else False)) :
    Wp 2 7 [(0, .ref 21)] [.int r] (gE Lx) I L e Q := by
  refine w_a f_2_7 ?_
  refine i_m (fun h => ?_) (i_m (fun h => ?_) id) h
  · exact h
  · exact h
set_option maxRecDepth 10000 in
set_option maxHeartbeats 4000000 in
theorem s_3_0 {Lx : Nat} {I : Mi} {L : Ml} {e : Nat} {Q : Kq} {y1 : Int64} {y3 : Int64} {x5 : Int32} (h :
    (if (I 21 0) = 0 then
     Q (.inl (some (.int (Int32.ofInt 1)))) (gE Lx) (ui I 21 0 (Int32.ofInt 1)) (ul (ul L 21 1 y1) 21 2 y3) e
    else
     Wp 23 0 [(0, .long y1), (2, .long y3), (4, .long (L 21 1)), (6, .long (L 21 2))] [] (gE Lx) I L e (kcp (Wp 3) 3 17 0 [(0, .ref 21), (1, .long y1), (3, .long y3), (5, .int x5)] 71 [] Q))) :
    Wp 3 0 [(0, .ref 21), (1, .long y1), (3, .long y3), (5, .int x5)] [] (gE Lx) I L e Q := by
  refine w_a f_3_0 ?_
  refine w_a f_3_1 ?_
  refine w_a f_3_4 ?_
  refine i_m (fun h => ?_) (fun h => ?_) h
  · refine w_a f_3_27 ?_
    refine w_a f_3_28 ?_
    refine w_a f_3_29 ?_
    refine w_a f_3_32 ?_
    refine w_a f_3_33 ?_
    refine w_a f_3_34 ?_
    refine w_a f_3_37 ?_
    refine w_a f_3_38 ?_
    refine w_a f_3_39 ?_
    refine w_a f_3_42 ?_
    refine w_a f_3_43 ?_
    exact h
  · refine w_a f_3_7 ?_
    refine w_a f_3_8 ?_
    refine w_a f_3_9 ?_
    refine w_a f_3_10 ?_
    refine w_a f_3_13 ?_
    refine w_a f_3_14 ?_
    exact w_c (ks := [0, 1, 3, 5]) f_3_17 rfl rfl h
set_option maxRecDepth 10000 in
set_option maxHeartbeats 4000000 in
theorem s_3_20 {Lx : Nat} {I : Mi} {L : Ml} {e : Nat} {Q : Kq} {y1 : Int64} {y3 : Int64} {x5 : Int32} {r : Int32} (h :
    (if r = x5 then
     Q (.inl (some (.int (Int32.ofInt 1)))) (gE Lx) (ui I 21 0 (Int32.ofInt 1)) (ul (ul L 21 1 y1) 21 2 y3) e
    else
     Q (.inl (some (.int (Int32.ofInt 0)))) (gE Lx) I L e)) :
    Wp 3 20 [(0, .ref 21), (1, .long y1), (3, .long y3), (5, .int x5)] [.int r] (gE Lx) I L e Q := by
  refine w_a f_3_20 ?_
  refine w_a f_3_22 ?_
  refine i_m (fun h => ?_) (fun h => ?_) h
  · refine w_a f_3_27 ?_
    refine w_a f_3_28 ?_
    refine w_a f_3_29 ?_
    refine w_a f_3_32 ?_
    refine w_a f_3_33 ?_
    refine w_a f_3_34 ?_
    refine w_a f_3_37 ?_
    refine w_a f_3_38 ?_
    refine w_a f_3_39 ?_
    refine w_a f_3_42 ?_
    refine w_a f_3_43 ?_
    exact h
  · refine w_a f_3_25 ?_
    refine w_a f_3_26 ?_
    exact h
set_option maxRecDepth 10000 in
set_option maxHeartbeats 4000000 in
theorem s_6_0_24 {Lx : Nat} {I : Mi} {L : Ml} {e : Nat} {Q : Kq} {y1 : Int64} {y3 : Int64} (h :
    (if y1 < (Int64.ofInt 0) then
     (if y3 < (Int64.ofInt 0) then
      Wp 7 2 [(0, .ref 24), (1, .int (Int32.ofInt 0))] [] (gE Lx) I (ul (ul (ul (ul (ul L 25 0 ((((-y1) &&& (Int64.ofInt 1073741823)) * ((-y1) &&& (Int64.ofInt 1073741823))) + (((-y3) &&& (Int64.ofInt 1073741823)) * ((-y3) &&& (Int64.ofInt 1073741823))))) 25 1 ((Int64.ofInt 2) * ((((-y1) &&& (Int64.ofInt 1073741823)) * ((-y1) >>> ((Int32.ofInt 30).toInt64 &&& 63))) + (((-y3) &&& (Int64.ofInt 1073741823)) * ((-y3) >>> ((Int32.ofInt 30).toInt64 &&& 63)))))) 25 2 ((((-y1) >>> ((Int32.ofInt 30).toInt64 &&& 63)) * ((-y1) >>> ((Int32.ofInt 30).toInt64 &&& 63))) + (((-y3) >>> ((Int32.ofInt 30).toInt64 &&& 63)) * ((-y3) >>> ((Int32.ofInt 30).toInt64 &&& 63))))) 25 3 (Int64.ofInt 0)) 25 4 (Int64.ofInt 0)) e (kcp (Wp 6) 6 112 0 [(0, .ref 24)] 71 [] Q)
     else
      Wp 7 2 [(0, .ref 24), (1, .int (Int32.ofInt 0))] [] (gE Lx) I (ul (ul (ul (ul (ul L 25 0 ((((-y1) &&& (Int64.ofInt 1073741823)) * ((-y1) &&& (Int64.ofInt 1073741823))) + ((y3 &&& (Int64.ofInt 1073741823)) * (y3 &&& (Int64.ofInt 1073741823))))) 25 1 ((Int64.ofInt 2) * ((((-y1) &&& (Int64.ofInt 1073741823)) * ((-y1) >>> ((Int32.ofInt 30).toInt64 &&& 63))) + ((y3 &&& (Int64.ofInt 1073741823)) * (y3 >>> ((Int32.ofInt 30).toInt64 &&& 63)))))) 25 2 ((((-y1) >>> ((Int32.ofInt 30).toInt64 &&& 63)) * ((-y1) >>> ((Int32.ofInt 30).toInt64 &&& 63))) + ((y3 >>> ((Int32.ofInt 30).toInt64 &&& 63)) * (y3 >>> ((Int32.ofInt 30).toInt64 &&& 63))))) 25 3 (Int64.ofInt 0)) 25 4 (Int64.ofInt 0)) e (kcp (Wp 6) 6 112 0 [(0, .ref 24)] 71 [] Q))
    else
     (if y3 < (Int64.ofInt 0) then
      Wp 7 2 [(0, .ref 24), (1, .int (Int32.ofInt 0))] [] (gE Lx) I (ul (ul (ul (ul (ul L 25 0 (((y1 &&& (Int64.ofInt 1073741823)) * (y1 &&& (Int64.ofInt 1073741823))) + (((-y3) &&& (Int64.ofInt 1073741823)) * ((-y3) &&& (Int64.ofInt 1073741823))))) 25 1 ((Int64.ofInt 2) * (((y1 &&& (Int64.ofInt 1073741823)) * (y1 >>> ((Int32.ofInt 30).toInt64 &&& 63))) + (((-y3) &&& (Int64.ofInt 1073741823)) * ((-y3) >>> ((Int32.ofInt 30).toInt64 &&& 63)))))) 25 2 (((y1 >>> ((Int32.ofInt 30).toInt64 &&& 63)) * (y1 >>> ((Int32.ofInt 30).toInt64 &&& 63))) + (((-y3) >>> ((Int32.ofInt 30).toInt64 &&& 63)) * ((-y3) >>> ((Int32.ofInt 30).toInt64 &&& 63))))) 25 3 (Int64.ofInt 0)) 25 4 (Int64.ofInt 0)) e (kcp (Wp 6) 6 112 0 [(0, .ref 24)] 71 [] Q)
     else
      Wp 7 2 [(0, .ref 24), (1, .int (Int32.ofInt 0))] [] (gE Lx) I (ul (ul (ul (ul (ul L 25 0 (((y1 &&& (Int64.ofInt 1073741823)) * (y1 &&& (Int64.ofInt 1073741823))) + ((y3 &&& (Int64.ofInt 1073741823)) * (y3 &&& (Int64.ofInt 1073741823))))) 25 1 ((Int64.ofInt 2) * (((y1 &&& (Int64.ofInt 1073741823)) * (y1 >>> ((Int32.ofInt 30).toInt64 &&& 63))) + ((y3 &&& (Int64.ofInt 1073741823)) * (y3 >>> ((Int32.ofInt 30).toInt64 &&& 63)))))) 25 2 (((y1 >>> ((Int32.ofInt 30).toInt64 &&& 63)) * (y1 >>> ((Int32.ofInt 30).toInt64 &&& 63))) + ((y3 >>> ((Int32.ofInt 30).toInt64 &&& 63)) * (y3 >>> ((Int32.ofInt 30).toInt64 &&& 63))))) 25 3 (Int64.ofInt 0)) 25 4 (Int64.ofInt 0)) e (kcp (Wp 6) 6 112 0 [(0, .ref 24)] 71 [] Q)))) :
    Wp 6 0 [(0, .ref 24), (1, .long y1), (3, .long y3)] [] (gE Lx) I L e Q := by
  refine w_a f_6_0 ?_
  refine w_a f_6_1 ?_
  refine w_a (ls := [(0, .long y1)]) f_415_0 ?_
  refine w_a f_415_1 ?_
  refine w_a f_415_2 ?_
  refine i_m (fun h => ?_) (fun h => ?_) h
  · refine w_a f_415_6 ?_
    refine w_a f_415_7 ?_
    refine w_a f_415_8 ?_
    refine w_a f_415_12 ?_
    refine w_a (ls := [(0, .ref 24), (1, .long y1), (3, .long y3)]) f_6_4 ?_
    refine w_a (ls := [(5, .long (-y1)), (0, .ref 24), (1, .long y1), (3, .long y3)]) f_6_6 ?_
    refine w_a f_6_7 ?_
    refine w_a (ls := [(0, .long y3)]) f_415_0 ?_
    refine w_a f_415_1 ?_
    refine w_a f_415_2 ?_
    refine i_m (fun h => ?_) (fun h => ?_) h
    · refine w_a f_415_6 ?_
      refine w_a f_415_7 ?_
      refine w_a f_415_8 ?_
      refine w_a f_415_12 ?_
      refine w_a (ls := [(5, .long (-y1)), (0, .ref 24), (1, .long y1), (3, .long y3)]) f_6_10 ?_
      refine w_a (ls := [(7, .long (-y3)), (5, .long (-y1)), (0, .ref 24), (1, .long y1), (3, .long y3)]) f_6_12 ?_
      refine w_a f_6_14 ?_
      refine w_a f_6_17 ?_
      refine w_a f_6_18 ?_
      refine w_a (ls := [(9, .long ((-y1) &&& (Int64.ofInt 1073741823))), (7, .long (-y3)), (5, .long (-y1)), (0, .ref 24), (1, .long y1), (3, .long y3)]) f_6_20 ?_
      refine w_a f_6_22 ?_
      refine w_a f_6_24 ?_
      refine w_a f_6_25 ?_
      refine w_a (ls := [(11, .long ((-y1) >>> ((Int32.ofInt 30).toInt64 &&& 63))), (9, .long ((-y1) &&& (Int64.ofInt 1073741823))), (7, .long (-y3)), (5, .long (-y1)), (0, .ref 24), (1, .long y1), (3, .long y3)]) f_6_27 ?_
      refine w_a f_6_29 ?_
      refine w_a f_6_32 ?_
      refine w_a f_6_33 ?_
      refine w_a (ls := [(13, .long ((-y3) &&& (Int64.ofInt 1073741823))), (11, .long ((-y1) >>> ((Int32.ofInt 30).toInt64 &&& 63))), (9, .long ((-y1) &&& (Int64.ofInt 1073741823))), (7, .long (-y3)), (5, .long (-y1)), (0, .ref 24), (1, .long y1), (3, .long y3)]) f_6_35 ?_
      refine w_a f_6_37 ?_
      refine w_a f_6_39 ?_
      refine w_a f_6_40 ?_
      refine w_a (ls := [(15, .long ((-y3) >>> ((Int32.ofInt 30).toInt64 &&& 63))), (13, .long ((-y3) &&& (Int64.ofInt 1073741823))), (11, .long ((-y1) >>> ((Int32.ofInt 30).toInt64 &&& 63))), (9, .long ((-y1) &&& (Int64.ofInt 1073741823))), (7, .long (-y3)), (5, .long (-y1)), (0, .ref 24), (1, .long y1), (3, .long y3)]) f_6_42 ?_
      refine w_a f_6_43 ?_
      refine w_a f_6_46 ?_
      refine w_a f_6_47 ?_
      refine w_a f_6_49 ?_
      refine w_a f_6_51 ?_
      refine w_a f_6_52 ?_
      refine w_a f_6_54 ?_
      refine w_a f_6_56 ?_
      refine w_a f_6_57 ?_
      refine w_a f_6_58 ?_
      refine w_a f_6_59 ?_
      refine w_a f_6_60 ?_
      refine w_a f_6_63 ?_
      refine w_a f_6_64 ?_
      refine w_a f_6_67 ?_
      refine w_a f_6_69 ?_
      refine w_a f_6_71 ?_
      refine w_a f_6_72 ?_
      refine w_a f_6_74 ?_
      refine w_a f_6_76 ?_
      refine w_a f_6_77 ?_
      refine w_a f_6_78 ?_
      refine w_a f_6_79 ?_
      refine w_a f_6_80 ?_
      refine w_a f_6_81 ?_
      refine w_a f_6_84 ?_
      refine w_a f_6_85 ?_
      refine w_a f_6_87 ?_
      refine w_a f_6_89 ?_
      refine w_a f_6_90 ?_
      refine w_a f_6_92 ?_
      refine w_a f_6_94 ?_
      refine w_a f_6_95 ?_
      refine w_a f_6_96 ?_
      refine w_a f_6_97 ?_
      refine w_a f_6_98 ?_
      refine w_a f_6_101 ?_
      refine w_a f_6_102 ?_
      refine w_a f_6_103 ?_
      refine w_a f_6_104 ?_
      refine w_a f_6_105 ?_
      refine w_a f_6_108 ?_
      refine w_a f_6_109 ?_
      refine w_a f_6_110 ?_
      refine w_a f_6_111 ?_
      refine w_c (ks := [0]) f_6_112 rfl rfl ?_
      refine w_a (ls := [(0, .ref 24)]) f_7_0 ?_
      refine w_a f_7_1 ?_
      exact w_n (ks := [0, 1]) rfl h
    · refine w_a f_415_11 ?_
      refine w_a f_415_12 ?_
      refine w_a (ls := [(5, .long (-y1)), (0, .ref 24), (1, .long y1), (3, .long y3)]) f_6_10 ?_
      refine w_a (ls := [(7, .long y3), (5, .long (-y1)), (0, .ref 24), (1, .long y1), (3, .long y3)]) f_6_12 ?_
      refine w_a f_6_14 ?_
      refine w_a f_6_17 ?_
      refine w_a f_6_18 ?_
      refine w_a (ls := [(9, .long ((-y1) &&& (Int64.ofInt 1073741823))), (7, .long y3), (5, .long (-y1)), (0, .ref 24), (1, .long y1), (3, .long y3)]) f_6_20 ?_
      refine w_a f_6_22 ?_
      refine w_a f_6_24 ?_
      refine w_a f_6_25 ?_
      refine w_a (ls := [(11, .long ((-y1) >>> ((Int32.ofInt 30).toInt64 &&& 63))), (9, .long ((-y1) &&& (Int64.ofInt 1073741823))), (7, .long y3), (5, .long (-y1)), (0, .ref 24), (1, .long y1), (3, .long y3)]) f_6_27 ?_
      refine w_a f_6_29 ?_
      refine w_a f_6_32 ?_
      refine w_a f_6_33 ?_
      refine w_a (ls := [(13, .long (y3 &&& (Int64.ofInt 1073741823))), (11, .long ((-y1) >>> ((Int32.ofInt 30).toInt64 &&& 63))), (9, .long ((-y1) &&& (Int64.ofInt 1073741823))), (7, .long y3), (5, .long (-y1)), (0, .ref 24), (1, .long y1), (3, .long y3)]) f_6_35 ?_
      refine w_a f_6_37 ?_
      refine w_a f_6_39 ?_
      refine w_a f_6_40 ?_
      refine w_a (ls := [(15, .long (y3 >>> ((Int32.ofInt 30).toInt64 &&& 63))), (13, .long (y3 &&& (Int64.ofInt 1073741823))), (11, .long ((-y1) >>> ((Int32.ofInt 30).toInt64 &&& 63))), (9, .long ((-y1) &&& (Int64.ofInt 1073741823))), (7, .long y3), (5, .long (-y1)), (0, .ref 24), (1, .long y1), (3, .long y3)]) f_6_42 ?_
      refine w_a f_6_43 ?_
      refine w_a f_6_46 ?_
      refine w_a f_6_47 ?_
      refine w_a f_6_49 ?_
      refine w_a f_6_51 ?_
      refine w_a f_6_52 ?_
      refine w_a f_6_54 ?_
      refine w_a f_6_56 ?_
      refine w_a f_6_57 ?_
      refine w_a f_6_58 ?_
      refine w_a f_6_59 ?_
      refine w_a f_6_60 ?_
      refine w_a f_6_63 ?_
      refine w_a f_6_64 ?_
      refine w_a f_6_67 ?_
      refine w_a f_6_69 ?_
      refine w_a f_6_71 ?_
      refine w_a f_6_72 ?_
      refine w_a f_6_74 ?_
      refine w_a f_6_76 ?_
      refine w_a f_6_77 ?_
      refine w_a f_6_78 ?_
      refine w_a f_6_79 ?_
      refine w_a f_6_80 ?_
      refine w_a f_6_81 ?_
      refine w_a f_6_84 ?_
      refine w_a f_6_85 ?_
      refine w_a f_6_87 ?_
      refine w_a f_6_89 ?_
      refine w_a f_6_90 ?_
      refine w_a f_6_92 ?_
      refine w_a f_6_94 ?_
      refine w_a f_6_95 ?_
      refine w_a f_6_96 ?_
      refine w_a f_6_97 ?_
      refine w_a f_6_98 ?_
      refine w_a f_6_101 ?_
      refine w_a f_6_102 ?_
      refine w_a f_6_103 ?_
      refine w_a f_6_104 ?_
      refine w_a f_6_105 ?_
      refine w_a f_6_108 ?_
      refine w_a f_6_109 ?_
      refine w_a f_6_110 ?_
      refine w_a f_6_111 ?_
      refine w_c (ks := [0]) f_6_112 rfl rfl ?_
      refine w_a (ls := [(0, .ref 24)]) f_7_0 ?_
      refine w_a f_7_1 ?_
      exact w_n (ks := [0, 1]) rfl h
  · refine w_a f_415_11 ?_
    refine w_a f_415_12 ?_
    refine w_a (ls := [(0, .ref 24), (1, .long y1), (3, .long y3)]) f_6_4 ?_
    refine w_a (ls := [(5, .long y1), (0, .ref 24), (1, .long y1), (3, .long y3)]) f_6_6 ?_
    refine w_a f_6_7 ?_
    refine w_a (ls := [(0, .long y3)]) f_415_0 ?_
    refine w_a f_415_1 ?_
    refine w_a f_415_2 ?_
    refine i_m (fun h => ?_) (fun h => ?_) h
    · refine w_a f_415_6 ?_
      refine w_a f_415_7 ?_
      refine w_a f_415_8 ?_
      refine w_a f_415_12 ?_
      refine w_a (ls := [(5, .long y1), (0, .ref 24), (1, .long y1), (3, .long y3)]) f_6_10 ?_
      refine w_a (ls := [(7, .long (-y3)), (5, .long y1), (0, .ref 24), (1, .long y1), (3, .long y3)]) f_6_12 ?_
      refine w_a f_6_14 ?_
      refine w_a f_6_17 ?_
      refine w_a f_6_18 ?_
      refine w_a (ls := [(9, .long (y1 &&& (Int64.ofInt 1073741823))), (7, .long (-y3)), (5, .long y1), (0, .ref 24), (1, .long y1), (3, .long y3)]) f_6_20 ?_
      refine w_a f_6_22 ?_
      refine w_a f_6_24 ?_
      refine w_a f_6_25 ?_
      refine w_a (ls := [(11, .long (y1 >>> ((Int32.ofInt 30).toInt64 &&& 63))), (9, .long (y1 &&& (Int64.ofInt 1073741823))), (7, .long (-y3)), (5, .long y1), (0, .ref 24), (1, .long y1), (3, .long y3)]) f_6_27 ?_
      refine w_a f_6_29 ?_
      refine w_a f_6_32 ?_
      refine w_a f_6_33 ?_
      refine w_a (ls := [(13, .long ((-y3) &&& (Int64.ofInt 1073741823))), (11, .long (y1 >>> ((Int32.ofInt 30).toInt64 &&& 63))), (9, .long (y1 &&& (Int64.ofInt 1073741823))), (7, .long (-y3)), (5, .long y1), (0, .ref 24), (1, .long y1), (3, .long y3)]) f_6_35 ?_
      refine w_a f_6_37 ?_
      refine w_a f_6_39 ?_
      refine w_a f_6_40 ?_
      refine w_a (ls := [(15, .long ((-y3) >>> ((Int32.ofInt 30).toInt64 &&& 63))), (13, .long ((-y3) &&& (Int64.ofInt 1073741823))), (11, .long (y1 >>> ((Int32.ofInt 30).toInt64 &&& 63))), (9, .long (y1 &&& (Int64.ofInt 1073741823))), (7, .long (-y3)), (5, .long y1), (0, .ref 24), (1, .long y1), (3, .long y3)]) f_6_42 ?_
      refine w_a f_6_43 ?_
      refine w_a f_6_46 ?_
      refine w_a f_6_47 ?_
      refine w_a f_6_49 ?_
      refine w_a f_6_51 ?_
      refine w_a f_6_52 ?_
      refine w_a f_6_54 ?_
      refine w_a f_6_56 ?_
      refine w_a f_6_57 ?_
      refine w_a f_6_58 ?_
      refine w_a f_6_59 ?_
      refine w_a f_6_60 ?_
      refine w_a f_6_63 ?_
      refine w_a f_6_64 ?_
      refine w_a f_6_67 ?_
      refine w_a f_6_69 ?_
      refine w_a f_6_71 ?_
      refine w_a f_6_72 ?_
      refine w_a f_6_74 ?_
      refine w_a f_6_76 ?_
      refine w_a f_6_77 ?_
      refine w_a f_6_78 ?_
      refine w_a f_6_79 ?_
      refine w_a f_6_80 ?_
      refine w_a f_6_81 ?_
      refine w_a f_6_84 ?_
      refine w_a f_6_85 ?_
      refine w_a f_6_87 ?_
      refine w_a f_6_89 ?_
      refine w_a f_6_90 ?_
      refine w_a f_6_92 ?_
      refine w_a f_6_94 ?_
      refine w_a f_6_95 ?_
      refine w_a f_6_96 ?_
      refine w_a f_6_97 ?_
      refine w_a f_6_98 ?_
      refine w_a f_6_101 ?_
      refine w_a f_6_102 ?_
      refine w_a f_6_103 ?_
      refine w_a f_6_104 ?_
      refine w_a f_6_105 ?_
      refine w_a f_6_108 ?_
      refine w_a f_6_109 ?_
      refine w_a f_6_110 ?_
      refine w_a f_6_111 ?_
      refine w_c (ks := [0]) f_6_112 rfl rfl ?_
      refine w_a (ls := [(0, .ref 24)]) f_7_0 ?_
      refine w_a f_7_1 ?_
      exact w_n (ks := [0, 1]) rfl h
    · refine w_a f_415_11 ?_
      refine w_a f_415_12 ?_
      refine w_a (ls := [(5, .long y1), (0, .ref 24), (1, .long y1), (3, .long y3)]) f_6_10 ?_
      refine w_a (ls := [(7, .long y3), (5, .long y1), (0, .ref 24), (1, .long y1), (3, .long y3)]) f_6_12 ?_
      refine w_a f_6_14 ?_
      refine w_a f_6_17 ?_
      refine w_a f_6_18 ?_
      refine w_a (ls := [(9, .long (y1 &&& (Int64.ofInt 1073741823))), (7, .long y3), (5, .long y1), (0, .ref 24), (1, .long y1), (3, .long y3)]) f_6_20 ?_
      refine w_a f_6_22 ?_
      refine w_a f_6_24 ?_
      refine w_a f_6_25 ?_
      refine w_a (ls := [(11, .long (y1 >>> ((Int32.ofInt 30).toInt64 &&& 63))), (9, .long (y1 &&& (Int64.ofInt 1073741823))), (7, .long y3), (5, .long y1), (0, .ref 24), (1, .long y1), (3, .long y3)]) f_6_27 ?_
      refine w_a f_6_29 ?_
      refine w_a f_6_32 ?_
      refine w_a f_6_33 ?_
      refine w_a (ls := [(13, .long (y3 &&& (Int64.ofInt 1073741823))), (11, .long (y1 >>> ((Int32.ofInt 30).toInt64 &&& 63))), (9, .long (y1 &&& (Int64.ofInt 1073741823))), (7, .long y3), (5, .long y1), (0, .ref 24), (1, .long y1), (3, .long y3)]) f_6_35 ?_
      refine w_a f_6_37 ?_
      refine w_a f_6_39 ?_
      refine w_a f_6_40 ?_
      refine w_a (ls := [(15, .long (y3 >>> ((Int32.ofInt 30).toInt64 &&& 63))), (13, .long (y3 &&& (Int64.ofInt 1073741823))), (11, .long (y1 >>> ((Int32.ofInt 30).toInt64 &&& 63))), (9, .long (y1 &&& (Int64.ofInt 1073741823))), (7, .long y3), (5, .long y1), (0, .ref 24), (1, .long y1), (3, .long y3)]) f_6_42 ?_
      refine w_a f_6_43 ?_
      refine w_a f_6_46 ?_
      refine w_a f_6_47 ?_
      refine w_a f_6_49 ?_
      refine w_a f_6_51 ?_
      refine w_a f_6_52 ?_
      refine w_a f_6_54 ?_
      refine w_a f_6_56 ?_
      refine w_a f_6_57 ?_
      refine w_a f_6_58 ?_
      refine w_a f_6_59 ?_
      refine w_a f_6_60 ?_
      refine w_a f_6_63 ?_
      refine w_a f_6_64 ?_
      refine w_a f_6_67 ?_
      refine w_a f_6_69 ?_
      refine w_a f_6_71 ?_
      refine w_a f_6_72 ?_
      refine w_a f_6_74 ?_
      refine w_a f_6_76 ?_
      refine w_a f_6_77 ?_
      refine w_a f_6_78 ?_
      refine w_a f_6_79 ?_
      refine w_a f_6_80 ?_
      refine w_a f_6_81 ?_
      refine w_a f_6_84 ?_
      refine w_a f_6_85 ?_
      refine w_a f_6_87 ?_
      refine w_a f_6_89 ?_
      refine w_a f_6_90 ?_
      refine w_a f_6_92 ?_
      refine w_a f_6_94 ?_
      refine w_a f_6_95 ?_
      refine w_a f_6_96 ?_
      refine w_a f_6_97 ?_
      refine w_a f_6_98 ?_
      refine w_a f_6_101 ?_
      refine w_a f_6_102 ?_
      refine w_a f_6_103 ?_
      refine w_a f_6_104 ?_
      refine w_a f_6_105 ?_
      refine w_a f_6_108 ?_
      refine w_a f_6_109 ?_
      refine w_a f_6_110 ?_
      refine w_a f_6_111 ?_
      refine w_c (ks := [0]) f_6_112 rfl rfl ?_
      refine w_a (ls := [(0, .ref 24)]) f_7_0 ?_
      refine w_a f_7_1 ?_
      exact w_n (ks := [0, 1]) rfl h
set_option maxRecDepth 10000 in
set_option maxHeartbeats 4000000 in
theorem s_6_115_24 {Lx : Nat} {I : Mi} {L : Ml} {e : Nat} {Q : Kq} (h :
    Q (.inl none) (gE Lx) I L e) :
    Wp 6 115 [(0, .ref 24)] [] (gE Lx) I L e Q := by
  refine w_a f_6_115 ?_
  exact h
set_option maxRecDepth 10000 in
set_option maxHeartbeats 4000000 in
theorem s_6_0_26 {Lx : Nat} {I : Mi} {L : Ml} {e : Nat} {Q : Kq} {y1 : Int64} {y3 : Int64} (h :
    (if y1 < (Int64.ofInt 0) then
     (if y3 < (Int64.ofInt 0) then
      Wp 7 2 [(0, .ref 26), (1, .int (Int32.ofInt 0))] [] (gE Lx) I (ul (ul (ul (ul (ul L 27 0 ((((-y1) &&& (Int64.ofInt 1073741823)) * ((-y1) &&& (Int64.ofInt 1073741823))) + (((-y3) &&& (Int64.ofInt 1073741823)) * ((-y3) &&& (Int64.ofInt 1073741823))))) 27 1 ((Int64.ofInt 2) * ((((-y1) &&& (Int64.ofInt 1073741823)) * ((-y1) >>> ((Int32.ofInt 30).toInt64 &&& 63))) + (((-y3) &&& (Int64.ofInt 1073741823)) * ((-y3) >>> ((Int32.ofInt 30).toInt64 &&& 63)))))) 27 2 ((((-y1) >>> ((Int32.ofInt 30).toInt64 &&& 63)) * ((-y1) >>> ((Int32.ofInt 30).toInt64 &&& 63))) + (((-y3) >>> ((Int32.ofInt 30).toInt64 &&& 63)) * ((-y3) >>> ((Int32.ofInt 30).toInt64 &&& 63))))) 27 3 (Int64.ofInt 0)) 27 4 (Int64.ofInt 0)) e (kcp (Wp 6) 6 112 0 [(0, .ref 26)] 71 [] Q)
     else
      Wp 7 2 [(0, .ref 26), (1, .int (Int32.ofInt 0))] [] (gE Lx) I (ul (ul (ul (ul (ul L 27 0 ((((-y1) &&& (Int64.ofInt 1073741823)) * ((-y1) &&& (Int64.ofInt 1073741823))) + ((y3 &&& (Int64.ofInt 1073741823)) * (y3 &&& (Int64.ofInt 1073741823))))) 27 1 ((Int64.ofInt 2) * ((((-y1) &&& (Int64.ofInt 1073741823)) * ((-y1) >>> ((Int32.ofInt 30).toInt64 &&& 63))) + ((y3 &&& (Int64.ofInt 1073741823)) * (y3 >>> ((Int32.ofInt 30).toInt64 &&& 63)))))) 27 2 ((((-y1) >>> ((Int32.ofInt 30).toInt64 &&& 63)) * ((-y1) >>> ((Int32.ofInt 30).toInt64 &&& 63))) + ((y3 >>> ((Int32.ofInt 30).toInt64 &&& 63)) * (y3 >>> ((Int32.ofInt 30).toInt64 &&& 63))))) 27 3 (Int64.ofInt 0)) 27 4 (Int64.ofInt 0)) e (kcp (Wp 6) 6 112 0 [(0, .ref 26)] 71 [] Q))
    else
     (if y3 < (Int64.ofInt 0) then
      Wp 7 2 [(0, .ref 26), (1, .int (Int32.ofInt 0))] [] (gE Lx) I (ul (ul (ul (ul (ul L 27 0 (((y1 &&& (Int64.ofInt 1073741823)) * (y1 &&& (Int64.ofInt 1073741823))) + (((-y3) &&& (Int64.ofInt 1073741823)) * ((-y3) &&& (Int64.ofInt 1073741823))))) 27 1 ((Int64.ofInt 2) * (((y1 &&& (Int64.ofInt 1073741823)) * (y1 >>> ((Int32.ofInt 30).toInt64 &&& 63))) + (((-y3) &&& (Int64.ofInt 1073741823)) * ((-y3) >>> ((Int32.ofInt 30).toInt64 &&& 63)))))) 27 2 (((y1 >>> ((Int32.ofInt 30).toInt64 &&& 63)) * (y1 >>> ((Int32.ofInt 30).toInt64 &&& 63))) + (((-y3) >>> ((Int32.ofInt 30).toInt64 &&& 63)) * ((-y3) >>> ((Int32.ofInt 30).toInt64 &&& 63))))) 27 3 (Int64.ofInt 0)) 27 4 (Int64.ofInt 0)) e (kcp (Wp 6) 6 112 0 [(0, .ref 26)] 71 [] Q)
     else
      Wp 7 2 [(0, .ref 26), (1, .int (Int32.ofInt 0))] [] (gE Lx) I (ul (ul (ul (ul (ul L 27 0 (((y1 &&& (Int64.ofInt 1073741823)) * (y1 &&& (Int64.ofInt 1073741823))) + ((y3 &&& (Int64.ofInt 1073741823)) * (y3 &&& (Int64.ofInt 1073741823))))) 27 1 ((Int64.ofInt 2) * (((y1 &&& (Int64.ofInt 1073741823)) * (y1 >>> ((Int32.ofInt 30).toInt64 &&& 63))) + ((y3 &&& (Int64.ofInt 1073741823)) * (y3 >>> ((Int32.ofInt 30).toInt64 &&& 63)))))) 27 2 (((y1 >>> ((Int32.ofInt 30).toInt64 &&& 63)) * (y1 >>> ((Int32.ofInt 30).toInt64 &&& 63))) + ((y3 >>> ((Int32.ofInt 30).toInt64 &&& 63)) * (y3 >>> ((Int32.ofInt 30).toInt64 &&& 63))))) 27 3 (Int64.ofInt 0)) 27 4 (Int64.ofInt 0)) e (kcp (Wp 6) 6 112 0 [(0, .ref 26)] 71 [] Q)))) :
    Wp 6 0 [(0, .ref 26), (1, .long y1), (3, .long y3)] [] (gE Lx) I L e Q := by
  refine w_a f_6_0 ?_
  refine w_a f_6_1 ?_
  refine w_a (ls := [(0, .long y1)]) f_415_0 ?_
  refine w_a f_415_1 ?_
  refine w_a f_415_2 ?_
  refine i_m (fun h => ?_) (fun h => ?_) h
  · refine w_a f_415_6 ?_
    refine w_a f_415_7 ?_
    refine w_a f_415_8 ?_
    refine w_a f_415_12 ?_
    refine w_a (ls := [(0, .ref 26), (1, .long y1), (3, .long y3)]) f_6_4 ?_
    refine w_a (ls := [(5, .long (-y1)), (0, .ref 26), (1, .long y1), (3, .long y3)]) f_6_6 ?_
    refine w_a f_6_7 ?_
    refine w_a (ls := [(0, .long y3)]) f_415_0 ?_
    refine w_a f_415_1 ?_
    refine w_a f_415_2 ?_
    refine i_m (fun h => ?_) (fun h => ?_) h
    · refine w_a f_415_6 ?_
      refine w_a f_415_7 ?_
      refine w_a f_415_8 ?_
      refine w_a f_415_12 ?_
      refine w_a (ls := [(5, .long (-y1)), (0, .ref 26), (1, .long y1), (3, .long y3)]) f_6_10 ?_
      refine w_a (ls := [(7, .long (-y3)), (5, .long (-y1)), (0, .ref 26), (1, .long y1), (3, .long y3)]) f_6_12 ?_
      refine w_a f_6_14 ?_
      refine w_a f_6_17 ?_
      refine w_a f_6_18 ?_
      refine w_a (ls := [(9, .long ((-y1) &&& (Int64.ofInt 1073741823))), (7, .long (-y3)), (5, .long (-y1)), (0, .ref 26), (1, .long y1), (3, .long y3)]) f_6_20 ?_
      refine w_a f_6_22 ?_
      refine w_a f_6_24 ?_
      refine w_a f_6_25 ?_
      refine w_a (ls := [(11, .long ((-y1) >>> ((Int32.ofInt 30).toInt64 &&& 63))), (9, .long ((-y1) &&& (Int64.ofInt 1073741823))), (7, .long (-y3)), (5, .long (-y1)), (0, .ref 26), (1, .long y1), (3, .long y3)]) f_6_27 ?_
      refine w_a f_6_29 ?_
      refine w_a f_6_32 ?_
      refine w_a f_6_33 ?_
      refine w_a (ls := [(13, .long ((-y3) &&& (Int64.ofInt 1073741823))), (11, .long ((-y1) >>> ((Int32.ofInt 30).toInt64 &&& 63))), (9, .long ((-y1) &&& (Int64.ofInt 1073741823))), (7, .long (-y3)), (5, .long (-y1)), (0, .ref 26), (1, .long y1), (3, .long y3)]) f_6_35 ?_
      refine w_a f_6_37 ?_
      refine w_a f_6_39 ?_
      refine w_a f_6_40 ?_
      refine w_a (ls := [(15, .long ((-y3) >>> ((Int32.ofInt 30).toInt64 &&& 63))), (13, .long ((-y3) &&& (Int64.ofInt 1073741823))), (11, .long ((-y1) >>> ((Int32.ofInt 30).toInt64 &&& 63))), (9, .long ((-y1) &&& (Int64.ofInt 1073741823))), (7, .long (-y3)), (5, .long (-y1)), (0, .ref 26), (1, .long y1), (3, .long y3)]) f_6_42 ?_
      refine w_a f_6_43 ?_
      refine w_a f_6_46 ?_
      refine w_a f_6_47 ?_
      refine w_a f_6_49 ?_
      refine w_a f_6_51 ?_
      refine w_a f_6_52 ?_
      refine w_a f_6_54 ?_
      refine w_a f_6_56 ?_
      refine w_a f_6_57 ?_
      refine w_a f_6_58 ?_
      refine w_a f_6_59 ?_
      refine w_a f_6_60 ?_
      refine w_a f_6_63 ?_
      refine w_a f_6_64 ?_
      refine w_a f_6_67 ?_
      refine w_a f_6_69 ?_
      refine w_a f_6_71 ?_
      refine w_a f_6_72 ?_
      refine w_a f_6_74 ?_
      refine w_a f_6_76 ?_
      refine w_a f_6_77 ?_
      refine w_a f_6_78 ?_
      refine w_a f_6_79 ?_
      refine w_a f_6_80 ?_
      refine w_a f_6_81 ?_
      refine w_a f_6_84 ?_
      refine w_a f_6_85 ?_
      refine w_a f_6_87 ?_
      refine w_a f_6_89 ?_
      refine w_a f_6_90 ?_
      refine w_a f_6_92 ?_
      refine w_a f_6_94 ?_
      refine w_a f_6_95 ?_
      refine w_a f_6_96 ?_
      refine w_a f_6_97 ?_
      refine w_a f_6_98 ?_
      refine w_a f_6_101 ?_
      refine w_a f_6_102 ?_
      refine w_a f_6_103 ?_
      refine w_a f_6_104 ?_
      refine w_a f_6_105 ?_
      refine w_a f_6_108 ?_
      refine w_a f_6_109 ?_
      refine w_a f_6_110 ?_
      refine w_a f_6_111 ?_
      refine w_c (ks := [0]) f_6_112 rfl rfl ?_
      refine w_a (ls := [(0, .ref 26)]) f_7_0 ?_
      refine w_a f_7_1 ?_
      exact w_n (ks := [0, 1]) rfl h
    · refine w_a f_415_11 ?_
      refine w_a f_415_12 ?_
      refine w_a (ls := [(5, .long (-y1)), (0, .ref 26), (1, .long y1), (3, .long y3)]) f_6_10 ?_
      refine w_a (ls := [(7, .long y3), (5, .long (-y1)), (0, .ref 26), (1, .long y1), (3, .long y3)]) f_6_12 ?_
      refine w_a f_6_14 ?_
      refine w_a f_6_17 ?_
      refine w_a f_6_18 ?_
      refine w_a (ls := [(9, .long ((-y1) &&& (Int64.ofInt 1073741823))), (7, .long y3), (5, .long (-y1)), (0, .ref 26), (1, .long y1), (3, .long y3)]) f_6_20 ?_
      refine w_a f_6_22 ?_
      refine w_a f_6_24 ?_
      refine w_a f_6_25 ?_
      refine w_a (ls := [(11, .long ((-y1) >>> ((Int32.ofInt 30).toInt64 &&& 63))), (9, .long ((-y1) &&& (Int64.ofInt 1073741823))), (7, .long y3), (5, .long (-y1)), (0, .ref 26), (1, .long y1), (3, .long y3)]) f_6_27 ?_
      refine w_a f_6_29 ?_
      refine w_a f_6_32 ?_
      refine w_a f_6_33 ?_
      refine w_a (ls := [(13, .long (y3 &&& (Int64.ofInt 1073741823))), (11, .long ((-y1) >>> ((Int32.ofInt 30).toInt64 &&& 63))), (9, .long ((-y1) &&& (Int64.ofInt 1073741823))), (7, .long y3), (5, .long (-y1)), (0, .ref 26), (1, .long y1), (3, .long y3)]) f_6_35 ?_
      refine w_a f_6_37 ?_
      refine w_a f_6_39 ?_
      refine w_a f_6_40 ?_
      refine w_a (ls := [(15, .long (y3 >>> ((Int32.ofInt 30).toInt64 &&& 63))), (13, .long (y3 &&& (Int64.ofInt 1073741823))), (11, .long ((-y1) >>> ((Int32.ofInt 30).toInt64 &&& 63))), (9, .long ((-y1) &&& (Int64.ofInt 1073741823))), (7, .long y3), (5, .long (-y1)), (0, .ref 26), (1, .long y1), (3, .long y3)]) f_6_42 ?_
      refine w_a f_6_43 ?_
      refine w_a f_6_46 ?_
      refine w_a f_6_47 ?_
      refine w_a f_6_49 ?_
      refine w_a f_6_51 ?_
      refine w_a f_6_52 ?_
      refine w_a f_6_54 ?_
      refine w_a f_6_56 ?_
      refine w_a f_6_57 ?_
      refine w_a f_6_58 ?_
      refine w_a f_6_59 ?_
      refine w_a f_6_60 ?_
      refine w_a f_6_63 ?_
      refine w_a f_6_64 ?_
      refine w_a f_6_67 ?_
      refine w_a f_6_69 ?_
      refine w_a f_6_71 ?_
      refine w_a f_6_72 ?_
      refine w_a f_6_74 ?_
      refine w_a f_6_76 ?_
      refine w_a f_6_77 ?_
      refine w_a f_6_78 ?_
      refine w_a f_6_79 ?_
      refine w_a f_6_80 ?_
      refine w_a f_6_81 ?_
      refine w_a f_6_84 ?_
      refine w_a f_6_85 ?_
      refine w_a f_6_87 ?_
      refine w_a f_6_89 ?_
      refine w_a f_6_90 ?_
      refine w_a f_6_92 ?_
      refine w_a f_6_94 ?_
      refine w_a f_6_95 ?_
      refine w_a f_6_96 ?_
      refine w_a f_6_97 ?_
      refine w_a f_6_98 ?_
      refine w_a f_6_101 ?_
      refine w_a f_6_102 ?_
      refine w_a f_6_103 ?_
      refine w_a f_6_104 ?_
      refine w_a f_6_105 ?_
      refine w_a f_6_108 ?_
      refine w_a f_6_109 ?_
      refine w_a f_6_110 ?_
      refine w_a f_6_111 ?_
      refine w_c (ks := [0]) f_6_112 rfl rfl ?_
      refine w_a (ls := [(0, .ref 26)]) f_7_0 ?_
      refine w_a f_7_1 ?_
      exact w_n (ks := [0, 1]) rfl h
  · refine w_a f_415_11 ?_
    refine w_a f_415_12 ?_
    refine w_a (ls := [(0, .ref 26), (1, .long y1), (3, .long y3)]) f_6_4 ?_
    refine w_a (ls := [(5, .long y1), (0, .ref 26), (1, .long y1), (3, .long y3)]) f_6_6 ?_
    refine w_a f_6_7 ?_
    refine w_a (ls := [(0, .long y3)]) f_415_0 ?_
    refine w_a f_415_1 ?_
    refine w_a f_415_2 ?_
    refine i_m (fun h => ?_) (fun h => ?_) h
    · refine w_a f_415_6 ?_
      refine w_a f_415_7 ?_
      refine w_a f_415_8 ?_
      refine w_a f_415_12 ?_
      refine w_a (ls := [(5, .long y1), (0, .ref 26), (1, .long y1), (3, .long y3)]) f_6_10 ?_
      refine w_a (ls := [(7, .long (-y3)), (5, .long y1), (0, .ref 26), (1, .long y1), (3, .long y3)]) f_6_12 ?_
      refine w_a f_6_14 ?_
      refine w_a f_6_17 ?_
      refine w_a f_6_18 ?_
      refine w_a (ls := [(9, .long (y1 &&& (Int64.ofInt 1073741823))), (7, .long (-y3)), (5, .long y1), (0, .ref 26), (1, .long y1), (3, .long y3)]) f_6_20 ?_
      refine w_a f_6_22 ?_
      refine w_a f_6_24 ?_
      refine w_a f_6_25 ?_
      refine w_a (ls := [(11, .long (y1 >>> ((Int32.ofInt 30).toInt64 &&& 63))), (9, .long (y1 &&& (Int64.ofInt 1073741823))), (7, .long (-y3)), (5, .long y1), (0, .ref 26), (1, .long y1), (3, .long y3)]) f_6_27 ?_
      refine w_a f_6_29 ?_
      refine w_a f_6_32 ?_
      refine w_a f_6_33 ?_
      refine w_a (ls := [(13, .long ((-y3) &&& (Int64.ofInt 1073741823))), (11, .long (y1 >>> ((Int32.ofInt 30).toInt64 &&& 63))), (9, .long (y1 &&& (Int64.ofInt 1073741823))), (7, .long (-y3)), (5, .long y1), (0, .ref 26), (1, .long y1), (3, .long y3)]) f_6_35 ?_
      refine w_a f_6_37 ?_
      refine w_a f_6_39 ?_
      refine w_a f_6_40 ?_
      refine w_a (ls := [(15, .long ((-y3) >>> ((Int32.ofInt 30).toInt64 &&& 63))), (13, .long ((-y3) &&& (Int64.ofInt 1073741823))), (11, .long (y1 >>> ((Int32.ofInt 30).toInt64 &&& 63))), (9, .long (y1 &&& (Int64.ofInt 1073741823))), (7, .long (-y3)), (5, .long y1), (0, .ref 26), (1, .long y1), (3, .long y3)]) f_6_42 ?_
      refine w_a f_6_43 ?_
      refine w_a f_6_46 ?_
      refine w_a f_6_47 ?_
      refine w_a f_6_49 ?_
      refine w_a f_6_51 ?_
      refine w_a f_6_52 ?_
      refine w_a f_6_54 ?_
      refine w_a f_6_56 ?_
      refine w_a f_6_57 ?_
      refine w_a f_6_58 ?_
      refine w_a f_6_59 ?_
      refine w_a f_6_60 ?_
      refine w_a f_6_63 ?_
      refine w_a f_6_64 ?_
      refine w_a f_6_67 ?_
      refine w_a f_6_69 ?_
      refine w_a f_6_71 ?_
      refine w_a f_6_72 ?_
      refine w_a f_6_74 ?_
      refine w_a f_6_76 ?_
      refine w_a f_6_77 ?_
      refine w_a f_6_78 ?_
      refine w_a f_6_79 ?_
      refine w_a f_6_80 ?_
      refine w_a f_6_81 ?_
      refine w_a f_6_84 ?_
      refine w_a f_6_85 ?_
      refine w_a f_6_87 ?_
      refine w_a f_6_89 ?_
      refine w_a f_6_90 ?_
      refine w_a f_6_92 ?_
      refine w_a f_6_94 ?_
      refine w_a f_6_95 ?_
      refine w_a f_6_96 ?_
      refine w_a f_6_97 ?_
      refine w_a f_6_98 ?_
      refine w_a f_6_101 ?_
      refine w_a f_6_102 ?_
      refine w_a f_6_103 ?_
      refine w_a f_6_104 ?_
      refine w_a f_6_105 ?_
      refine w_a f_6_108 ?_
      refine w_a f_6_109 ?_
      refine w_a f_6_110 ?_
      refine w_a f_6_111 ?_
      refine w_c (ks := [0]) f_6_112 rfl rfl ?_
      refine w_a (ls := [(0, .ref 26)]) f_7_0 ?_
      refine w_a f_7_1 ?_
      exact w_n (ks := [0, 1]) rfl h
    · refine w_a f_415_11 ?_
      refine w_a f_415_12 ?_
      refine w_a (ls := [(5, .long y1), (0, .ref 26), (1, .long y1), (3, .long y3)]) f_6_10 ?_
      refine w_a (ls := [(7, .long y3), (5, .long y1), (0, .ref 26), (1, .long y1), (3, .long y3)]) f_6_12 ?_
      refine w_a f_6_14 ?_
      refine w_a f_6_17 ?_
      refine w_a f_6_18 ?_
      refine w_a (ls := [(9, .long (y1 &&& (Int64.ofInt 1073741823))), (7, .long y3), (5, .long y1), (0, .ref 26), (1, .long y1), (3, .long y3)]) f_6_20 ?_
      refine w_a f_6_22 ?_
      refine w_a f_6_24 ?_
      refine w_a f_6_25 ?_
      refine w_a (ls := [(11, .long (y1 >>> ((Int32.ofInt 30).toInt64 &&& 63))), (9, .long (y1 &&& (Int64.ofInt 1073741823))), (7, .long y3), (5, .long y1), (0, .ref 26), (1, .long y1), (3, .long y3)]) f_6_27 ?_
      refine w_a f_6_29 ?_
      refine w_a f_6_32 ?_
      refine w_a f_6_33 ?_
      refine w_a (ls := [(13, .long (y3 &&& (Int64.ofInt 1073741823))), (11, .long (y1 >>> ((Int32.ofInt 30).toInt64 &&& 63))), (9, .long (y1 &&& (Int64.ofInt 1073741823))), (7, .long y3), (5, .long y1), (0, .ref 26), (1, .long y1), (3, .long y3)]) f_6_35 ?_
      refine w_a f_6_37 ?_
      refine w_a f_6_39 ?_
      refine w_a f_6_40 ?_
      refine w_a (ls := [(15, .long (y3 >>> ((Int32.ofInt 30).toInt64 &&& 63))), (13, .long (y3 &&& (Int64.ofInt 1073741823))), (11, .long (y1 >>> ((Int32.ofInt 30).toInt64 &&& 63))), (9, .long (y1 &&& (Int64.ofInt 1073741823))), (7, .long y3), (5, .long y1), (0, .ref 26), (1, .long y1), (3, .long y3)]) f_6_42 ?_
      refine w_a f_6_43 ?_
      refine w_a f_6_46 ?_
      refine w_a f_6_47 ?_
      refine w_a f_6_49 ?_
      refine w_a f_6_51 ?_
      refine w_a f_6_52 ?_
      refine w_a f_6_54 ?_
      refine w_a f_6_56 ?_
      refine w_a f_6_57 ?_
      refine w_a f_6_58 ?_
      refine w_a f_6_59 ?_
      refine w_a f_6_60 ?_
      refine w_a f_6_63 ?_
      refine w_a f_6_64 ?_
      refine w_a f_6_67 ?_
      refine w_a f_6_69 ?_
      refine w_a f_6_71 ?_
      refine w_a f_6_72 ?_
      refine w_a f_6_74 ?_
      refine w_a f_6_76 ?_
      refine w_a f_6_77 ?_
      refine w_a f_6_78 ?_
      refine w_a f_6_79 ?_
      refine w_a f_6_80 ?_
      refine w_a f_6_81 ?_
      refine w_a f_6_84 ?_
      refine w_a f_6_85 ?_
      refine w_a f_6_87 ?_
      refine w_a f_6_89 ?_
      refine w_a f_6_90 ?_
      refine w_a f_6_92 ?_
      refine w_a f_6_94 ?_
      refine w_a f_6_95 ?_
      refine w_a f_6_96 ?_
      refine w_a f_6_97 ?_
      refine w_a f_6_98 ?_
      refine w_a f_6_101 ?_
      refine w_a f_6_102 ?_
      refine w_a f_6_103 ?_
      refine w_a f_6_104 ?_
      refine w_a f_6_105 ?_
      refine w_a f_6_108 ?_
      refine w_a f_6_109 ?_
      refine w_a f_6_110 ?_
      refine w_a f_6_111 ?_
      refine w_c (ks := [0]) f_6_112 rfl rfl ?_
      refine w_a (ls := [(0, .ref 26)]) f_7_0 ?_
      refine w_a f_7_1 ?_
      exact w_n (ks := [0, 1]) rfl h
set_option maxRecDepth 10000 in
set_option maxHeartbeats 4000000 in
theorem s_6_115_26 {Lx : Nat} {I : Mi} {L : Ml} {e : Nat} {Q : Kq} (h :
    Q (.inl none) (gE Lx) I L e) :
    Wp 6 115 [(0, .ref 26)] [] (gE Lx) I L e Q := by
  refine w_a f_6_115 ?_
  exact h
set_option maxRecDepth 10000 in
set_option maxHeartbeats 4000000 in
theorem s_7_2_24 {Lx : Nat} {I : Mi} {L : Ml} {e : Nat} {Q : Kq} {x1 : Int32} (h :
    (if (x1 + (Int32.ofInt 1)) < (Int32.ofInt 5) then
     (inb (x1 + (Int32.ofInt 1)) 5 (
      (inb x1 5 (
       (inb (x1 + (Int32.ofInt 1)) 5 (
        (inb x1 5 (
         (inb x1 5 (
          Wp 7 2 [(0, .ref 24), (1, .int (x1 + Int32.ofInt 1))] [] (gE Lx) I (ul (ul L 25 ((x1 + (Int32.ofInt 1)).toNatClampNeg) ((L 25 ((x1 + (Int32.ofInt 1)).toNatClampNeg)) + ((L 25 x1.toNatClampNeg) >>> ((Int32.ofInt 30).toInt64 &&& 63)))) 25 x1.toNatClampNeg (((ul L 25 ((x1 + (Int32.ofInt 1)).toNatClampNeg) ((L 25 ((x1 + (Int32.ofInt 1)).toNatClampNeg)) + ((L 25 x1.toNatClampNeg) >>> ((Int32.ofInt 30).toInt64 &&& 63)))) 25 x1.toNatClampNeg) &&& (Int64.ofInt 1073741823))) e Q)
         False))
        False))
       False))
      False))
     False)
    else
     Q (.inl none) (gE Lx) I L e)) :
    Wp 7 2 [(0, .ref 24), (1, .int x1)] [] (gE Lx) I L e Q := by
  refine w_a f_7_2 ?_
  refine w_a f_7_3 ?_
  refine w_a f_7_4 ?_
  refine w_a f_7_5 ?_
  refine w_a f_7_6 ?_
  refine i_m (fun h => ?_) (fun h => ?_) h
  · refine w_a f_7_9 ?_
    refine w_a f_7_10 ?_
    refine w_a f_7_13 ?_
    refine w_a f_7_14 ?_
    refine w_a f_7_15 ?_
    refine w_a f_7_16 ?_
    refine w_a f_7_17 ?_
    refine n_m (fun h => ?_) h
    refine w_a f_7_18 ?_
    refine w_a f_7_19 ?_
    refine w_a f_7_22 ?_
    refine w_a f_7_23 ?_
    refine n_m (fun h => ?_) h
    refine w_a f_7_24 ?_
    refine w_a f_7_26 ?_
    refine w_a f_7_27 ?_
    refine w_a f_7_28 ?_
    refine n_m (fun h => ?_) h
    refine w_a f_7_29 ?_
    refine w_a f_7_30 ?_
    refine w_a f_7_33 ?_
    refine w_a f_7_34 ?_
    refine w_a f_7_35 ?_
    refine n_m (fun h => ?_) h
    refine w_a f_7_36 ?_
    refine w_a f_7_39 ?_
    refine w_a f_7_40 ?_
    refine n_m (fun h => ?_) h
    refine w_a f_7_41 ?_
    refine w_a (ls := [(1, .int (x1 + Int32.ofInt 1)), (0, .ref 24)]) f_7_44 ?_
    exact w_n (ks := [0, 1]) rfl h
  · refine w_a f_7_47 ?_
    exact h
set_option maxRecDepth 10000 in
set_option maxHeartbeats 4000000 in
theorem s_7_2_26 {Lx : Nat} {I : Mi} {L : Ml} {e : Nat} {Q : Kq} {x1 : Int32} (h :
    (if (x1 + (Int32.ofInt 1)) < (Int32.ofInt 5) then
     (inb (x1 + (Int32.ofInt 1)) 5 (
      (inb x1 5 (
       (inb (x1 + (Int32.ofInt 1)) 5 (
        (inb x1 5 (
         (inb x1 5 (
          Wp 7 2 [(0, .ref 26), (1, .int (x1 + Int32.ofInt 1))] [] (gE Lx) I (ul (ul L 27 ((x1 + (Int32.ofInt 1)).toNatClampNeg) ((L 27 ((x1 + (Int32.ofInt 1)).toNatClampNeg)) + ((L 27 x1.toNatClampNeg) >>> ((Int32.ofInt 30).toInt64 &&& 63)))) 27 x1.toNatClampNeg (((ul L 27 ((x1 + (Int32.ofInt 1)).toNatClampNeg) ((L 27 ((x1 + (Int32.ofInt 1)).toNatClampNeg)) + ((L 27 x1.toNatClampNeg) >>> ((Int32.ofInt 30).toInt64 &&& 63)))) 27 x1.toNatClampNeg) &&& (Int64.ofInt 1073741823))) e Q)
         False))
        False))
       False))
      False))
     False)
    else
     Q (.inl none) (gE Lx) I L e)) :
    Wp 7 2 [(0, .ref 26), (1, .int x1)] [] (gE Lx) I L e Q := by
  refine w_a f_7_2 ?_
  refine w_a f_7_3 ?_
  refine w_a f_7_4 ?_
  refine w_a f_7_5 ?_
  refine w_a f_7_6 ?_
  refine i_m (fun h => ?_) (fun h => ?_) h
  · refine w_a f_7_9 ?_
    refine w_a f_7_10 ?_
    refine w_a f_7_13 ?_
    refine w_a f_7_14 ?_
    refine w_a f_7_15 ?_
    refine w_a f_7_16 ?_
    refine w_a f_7_17 ?_
    refine n_m (fun h => ?_) h
    refine w_a f_7_18 ?_
    refine w_a f_7_19 ?_
    refine w_a f_7_22 ?_
    refine w_a f_7_23 ?_
    refine n_m (fun h => ?_) h
    refine w_a f_7_24 ?_
    refine w_a f_7_26 ?_
    refine w_a f_7_27 ?_
    refine w_a f_7_28 ?_
    refine n_m (fun h => ?_) h
    refine w_a f_7_29 ?_
    refine w_a f_7_30 ?_
    refine w_a f_7_33 ?_
    refine w_a f_7_34 ?_
    refine w_a f_7_35 ?_
    refine n_m (fun h => ?_) h
    refine w_a f_7_36 ?_
    refine w_a f_7_39 ?_
    refine w_a f_7_40 ?_
    refine n_m (fun h => ?_) h
    refine w_a f_7_41 ?_
    refine w_a (ls := [(1, .int (x1 + Int32.ofInt 1)), (0, .ref 26)]) f_7_44 ?_
    exact w_n (ks := [0, 1]) rfl h
  · refine w_a f_7_47 ?_
    exact h
set_option maxRecDepth 10000 in
set_option maxHeartbeats 4000000 in
theorem s_8_0_24 {Lx : Nat} {I : Mi} {L : Ml} {e : Nat} {Q : Kq} {x1 : Int32} (h :
    Wp 8 2 [(0, .ref 24), (1, .int x1), (2, .int (Int32.ofInt 0))] [] (gE Lx) I L e Q) :
    Wp 8 0 [(0, .ref 24), (1, .int x1)] [] (gE Lx) I L e Q := by
  refine w_a f_8_0 ?_
  refine w_a f_8_1 ?_
  exact w_n (ks := [0, 1, 2]) rfl h
set_option maxRecDepth 10000 in
set_option maxHeartbeats 4000000 in
theorem s_8_2_24 {Lx : Nat} {I : Mi} {L : Ml} {e : Nat} {Q : Kq} {x1 : Int32} {x2 : Int32} (h :
    (if x2 < (Int32.ofInt 5) then
     (inb x2 5 (
      (inb x2 5 (
       Wp 8 2 [(0, .ref 24), (1, .int x1), (2, .int (x2 + Int32.ofInt 1))] [] (gE Lx) I (ul L 25 x2.toNatClampNeg ((L 25 x2.toNatClampNeg) * x1.toInt64)) e Q)
      False))
     False)
    else
     Wp 7 2 [(0, .ref 24), (1, .int (Int32.ofInt 0))] [] (gE Lx) I L e (kcp (Wp 8) 8 25 0 [(0, .ref 24)] 71 [] Q))) :
    Wp 8 2 [(0, .ref 24), (1, .int x1), (2, .int x2)] [] (gE Lx) I L e Q := by
  refine w_a f_8_2 ?_
  refine w_a f_8_3 ?_
  refine w_a f_8_4 ?_
  refine i_m (fun h => ?_) (fun h => ?_) h
  · refine w_a f_8_7 ?_
    refine w_a f_8_8 ?_
    refine w_a f_8_11 ?_
    refine w_a f_8_12 ?_
    refine w_a f_8_13 ?_
    refine n_m (fun h => ?_) h
    refine w_a f_8_14 ?_
    refine w_a f_8_15 ?_
    refine w_a f_8_16 ?_
    refine w_a f_8_17 ?_
    refine n_m (fun h => ?_) h
    refine w_a f_8_18 ?_
    refine w_a (ls := [(2, .int (x2 + Int32.ofInt 1)), (0, .ref 24), (1, .int x1)]) f_8_21 ?_
    exact w_n (ks := [0, 1, 2]) rfl h
  · refine w_a f_8_24 ?_
    refine w_c (ks := [0]) f_8_25 rfl rfl ?_
    refine w_a (ls := [(0, .ref 24)]) f_7_0 ?_
    refine w_a f_7_1 ?_
    exact w_n (ks := [0, 1]) rfl h
set_option maxRecDepth 10000 in
set_option maxHeartbeats 4000000 in
theorem s_8_28_24 {Lx : Nat} {I : Mi} {L : Ml} {e : Nat} {Q : Kq} (h :
    Q (.inl none) (gE Lx) I L e) :
    Wp 8 28 [(0, .ref 24)] [] (gE Lx) I L e Q := by
  refine w_a f_8_28 ?_
  exact h
set_option maxRecDepth 10000 in
set_option maxHeartbeats 4000000 in
theorem s_8_0_26 {Lx : Nat} {I : Mi} {L : Ml} {e : Nat} {Q : Kq} {x1 : Int32} (h :
    Wp 8 2 [(0, .ref 26), (1, .int x1), (2, .int (Int32.ofInt 0))] [] (gE Lx) I L e Q) :
    Wp 8 0 [(0, .ref 26), (1, .int x1)] [] (gE Lx) I L e Q := by
  refine w_a f_8_0 ?_
  refine w_a f_8_1 ?_
  exact w_n (ks := [0, 1, 2]) rfl h
set_option maxRecDepth 10000 in
set_option maxHeartbeats 4000000 in
theorem s_8_2_26 {Lx : Nat} {I : Mi} {L : Ml} {e : Nat} {Q : Kq} {x1 : Int32} {x2 : Int32} (h :
    (if x2 < (Int32.ofInt 5) then
     (inb x2 5 (
      (inb x2 5 (
       Wp 8 2 [(0, .ref 26), (1, .int x1), (2, .int (x2 + Int32.ofInt 1))] [] (gE Lx) I (ul L 27 x2.toNatClampNeg ((L 27 x2.toNatClampNeg) * x1.toInt64)) e Q)
      False))
     False)
    else
     Wp 7 2 [(0, .ref 26), (1, .int (Int32.ofInt 0))] [] (gE Lx) I L e (kcp (Wp 8) 8 25 0 [(0, .ref 26)] 71 [] Q))) :
    Wp 8 2 [(0, .ref 26), (1, .int x1), (2, .int x2)] [] (gE Lx) I L e Q := by
  refine w_a f_8_2 ?_
  refine w_a f_8_3 ?_
  refine w_a f_8_4 ?_
  refine i_m (fun h => ?_) (fun h => ?_) h
  · refine w_a f_8_7 ?_
    refine w_a f_8_8 ?_
    refine w_a f_8_11 ?_
    refine w_a f_8_12 ?_
    refine w_a f_8_13 ?_
    refine n_m (fun h => ?_) h
    refine w_a f_8_14 ?_
    refine w_a f_8_15 ?_
    refine w_a f_8_16 ?_
    refine w_a f_8_17 ?_
    refine n_m (fun h => ?_) h
    refine w_a f_8_18 ?_
    refine w_a (ls := [(2, .int (x2 + Int32.ofInt 1)), (0, .ref 26), (1, .int x1)]) f_8_21 ?_
    exact w_n (ks := [0, 1, 2]) rfl h
  · refine w_a f_8_24 ?_
    refine w_c (ks := [0]) f_8_25 rfl rfl ?_
    refine w_a (ls := [(0, .ref 26)]) f_7_0 ?_
    refine w_a f_7_1 ?_
    exact w_n (ks := [0, 1]) rfl h
set_option maxRecDepth 10000 in
set_option maxHeartbeats 4000000 in
theorem s_8_28_26 {Lx : Nat} {I : Mi} {L : Ml} {e : Nat} {Q : Kq} (h :
    Q (.inl none) (gE Lx) I L e) :
    Wp 8 28 [(0, .ref 26)] [] (gE Lx) I L e Q := by
  refine w_a f_8_28 ?_
  exact h
set_option maxRecDepth 10000 in
set_option maxHeartbeats 4000000 in
theorem s_9_0 {Lx : Nat} {I : Mi} {L : Ml} {e : Nat} {Q : Kq} (h :
    Wp 9 2 [(0, .ref 24), (1, .ref 26), (2, .int (Int32.ofInt 4))] [] (gE Lx) I L e Q) :
    Wp 9 0 [(0, .ref 24), (1, .ref 26)] [] (gE Lx) I L e Q := by
  refine w_a f_9_0 ?_
  refine w_a f_9_1 ?_
  exact w_n (ks := [0, 1, 2]) rfl h
set_option maxRecDepth 10000 in
set_option maxHeartbeats 4000000 in
theorem s_9_2 {Lx : Nat} {I : Mi} {L : Ml} {e : Nat} {Q : Kq} {x2 : Int32} (h :
    (if x2 < 0 then
     Q (.inl (some (.int (Int32.ofInt 0)))) (gE Lx) I L e
    else
     (inb x2 5 (
      (inb x2 5 (
       (if (L 25 x2.toNatClampNeg) = (L 27 x2.toNatClampNeg) then
        Wp 9 2 [(0, .ref 24), (1, .ref 26), (2, .int (x2 + Int32.ofInt (-1)))] [] (gE Lx) I L e Q
       else
        (inb x2 5 (
         (inb x2 5 (
          (if (L 25 x2.toNatClampNeg) < (L 27 x2.toNatClampNeg) then
           Q (.inl (some (.int (Int32.ofInt (-1))))) (gE Lx) I L e
          else
           Q (.inl (some (.int (Int32.ofInt 1)))) (gE Lx) I L e))
         False))
        False)))
      False))
     False))) :
    Wp 9 2 [(0, .ref 24), (1, .ref 26), (2, .int x2)] [] (gE Lx) I L e Q := by
  refine w_a f_9_2 ?_
  refine w_a f_9_3 ?_
  refine i_m (fun h => ?_) (fun h => ?_) h
  · refine w_a f_9_50 ?_
    refine w_a f_9_51 ?_
    exact h
  · refine w_a f_9_6 ?_
    refine w_a f_9_7 ?_
    refine w_a f_9_10 ?_
    refine w_a f_9_11 ?_
    refine n_m (fun h => ?_) h
    refine w_a f_9_12 ?_
    refine w_a f_9_13 ?_
    refine w_a f_9_16 ?_
    refine w_a f_9_17 ?_
    refine n_m (fun h => ?_) h
    refine w_a f_9_18 ?_
    refine i_m (fun h => ?_) (fun h => ?_) h
    · refine w_a f_9_44 ?_
      refine w_a (ls := [(2, .int (x2 + Int32.ofInt (-1))), (0, .ref 24), (1, .ref 26)]) f_9_47 ?_
      exact w_n (ks := [0, 1, 2]) rfl h
    · refine w_a f_9_22 ?_
      refine w_a f_9_23 ?_
      refine w_a f_9_26 ?_
      refine w_a f_9_27 ?_
      refine n_m (fun h => ?_) h
      refine w_a f_9_28 ?_
      refine w_a f_9_29 ?_
      refine w_a f_9_32 ?_
      refine w_a f_9_33 ?_
      refine n_m (fun h => ?_) h
      refine w_a f_9_34 ?_
      refine i_m (fun h => ?_) (fun h => ?_) h
      · refine w_a f_9_38 ?_
        refine w_a f_9_39 ?_
        refine w_a f_9_43 ?_
        exact h
      · refine w_a f_9_42 ?_
        refine w_a f_9_43 ?_
        exact h
set_option maxRecDepth 10000 in
set_option maxHeartbeats 4000000 in
theorem s_10_0 {Lx : Nat} {I : Mi} {L : Ml} {e : Nat} {Q : Kq} (h :
    Wp 10 2 [(0, .ref 24), (1, .ref 26), (2, .int (Int32.ofInt 0))] [] (gE Lx) I L e Q) :
    Wp 10 0 [(0, .ref 24), (1, .ref 26)] [] (gE Lx) I L e Q := by
  refine w_a f_10_0 ?_
  refine w_a f_10_1 ?_
  exact w_n (ks := [0, 1, 2]) rfl h
set_option maxRecDepth 10000 in
set_option maxHeartbeats 4000000 in
theorem s_10_2 {Lx : Nat} {I : Mi} {L : Ml} {e : Nat} {Q : Kq} {x2 : Int32} (h :
    (if x2 < (Int32.ofInt 5) then
     (inb x2 5 (
      (inb x2 5 (
       (inb x2 5 (
        Wp 10 2 [(0, .ref 24), (1, .ref 26), (2, .int (x2 + Int32.ofInt 1))] [] (gE Lx) I (ul L 25 x2.toNatClampNeg ((L 25 x2.toNatClampNeg) - (L 27 x2.toNatClampNeg))) e Q)
       False))
      False))
     False)
    else
     Wp 7 2 [(0, .ref 24), (1, .int (Int32.ofInt 0))] [] (gE Lx) I L e (kcp (Wp 10) 10 29 0 [(0, .ref 24), (1, .ref 26)] 71 [] Q))) :
    Wp 10 2 [(0, .ref 24), (1, .ref 26), (2, .int x2)] [] (gE Lx) I L e Q := by
  refine w_a f_10_2 ?_
  refine w_a f_10_3 ?_
  refine w_a f_10_4 ?_
  refine i_m (fun h => ?_) (fun h => ?_) h
  · refine w_a f_10_7 ?_
    refine w_a f_10_8 ?_
    refine w_a f_10_11 ?_
    refine w_a f_10_12 ?_
    refine w_a f_10_13 ?_
    refine n_m (fun h => ?_) h
    refine w_a f_10_14 ?_
    refine w_a f_10_15 ?_
    refine w_a f_10_18 ?_
    refine w_a f_10_19 ?_
    refine n_m (fun h => ?_) h
    refine w_a f_10_20 ?_
    refine w_a f_10_21 ?_
    refine n_m (fun h => ?_) h
    refine w_a f_10_22 ?_
    refine w_a (ls := [(2, .int (x2 + Int32.ofInt 1)), (0, .ref 24), (1, .ref 26)]) f_10_25 ?_
    exact w_n (ks := [0, 1, 2]) rfl h
  · refine w_a f_10_28 ?_
    refine w_c (ks := [0, 1]) f_10_29 rfl rfl ?_
    refine w_a (ls := [(0, .ref 24)]) f_7_0 ?_
    refine w_a f_7_1 ?_
    exact w_n (ks := [0, 1]) rfl h
set_option maxRecDepth 10000 in
set_option maxHeartbeats 4000000 in
theorem s_10_32 {Lx : Nat} {I : Mi} {L : Ml} {e : Nat} {Q : Kq} (h :
    Q (.inl none) (gE Lx) I L e) :
    Wp 10 32 [(0, .ref 24), (1, .ref 26)] [] (gE Lx) I L e Q := by
  refine w_a f_10_32 ?_
  exact h
set_option maxRecDepth 10000 in
set_option maxHeartbeats 4000000 in
theorem s_12_0_5 {Lx : Nat} {I : Mi} {L : Ml} {e : Nat} {Q : Kq} {x1 : Int32} (h :
    (if x1 < 0 then
     Q (.inl (some (.int (Int32.ofInt 0)))) (gE Lx) I L e
    else
     (if x1 < (Int32.ofInt 4) then
      (inb x1 4 (
       Q (.inl (some (.int (I 6 x1.toNatClampNeg)))) (gE Lx) I L e)
      False)
     else
      Q (.inl (some (.int (Int32.ofInt 0)))) (gE Lx) I L e))) :
    Wp 12 0 [(0, .ref 5), (1, .int x1)] [] (gE Lx) I L e Q := by
  refine w_a f_12_0 ?_
  refine w_a f_12_1 ?_
  refine w_a f_12_2 ?_
  refine w_a (ls := [(0, .ref 5), (1, .int x1)]) f_13_0 ?_
  refine w_a f_13_1 ?_
  refine i_m (fun h => ?_) (fun h => ?_) h
  · refine w_a f_13_13 ?_
    refine w_a f_13_14 ?_
    refine w_a (ls := [(0, .ref 5), (1, .int x1)]) f_12_5 ?_
    refine w_a f_12_17 ?_
    refine w_a f_12_18 ?_
    exact h
  · refine w_a f_13_4 ?_
    refine w_a f_13_5 ?_
    refine w_a f_13_6 ?_
    refine i_m (fun h => ?_) (fun h => ?_) h
    · refine w_a f_13_9 ?_
      refine w_a f_13_10 ?_
      refine w_a f_13_14 ?_
      refine w_a (ls := [(0, .ref 5), (1, .int x1)]) f_12_5 ?_
      refine w_a f_12_8 ?_
      refine w_a f_12_9 ?_
      refine w_a f_12_12 ?_
      refine w_a f_12_13 ?_
      refine n_m (fun h => ?_) h
      refine w_a f_12_14 ?_
      refine w_a f_12_18 ?_
      exact h
    · refine w_a f_13_13 ?_
      refine w_a f_13_14 ?_
      refine w_a (ls := [(0, .ref 5), (1, .int x1)]) f_12_5 ?_
      refine w_a f_12_17 ?_
      refine w_a f_12_18 ?_
      exact h
set_option maxRecDepth 10000 in
set_option maxHeartbeats 4000000 in
theorem s_12_0_9 {Lx : Nat} {I : Mi} {L : Ml} {e : Nat} {Q : Kq} {x1 : Int32} (h :
    (if x1 < 0 then
     Q (.inl (some (.int (Int32.ofInt 0)))) (gE Lx) I L e
    else
     (if x1 < (Int32.ofInt 4) then
      (inb x1 4 (
       Q (.inl (some (.int (I 10 x1.toNatClampNeg)))) (gE Lx) I L e)
      False)
     else
      Q (.inl (some (.int (Int32.ofInt 0)))) (gE Lx) I L e))) :
    Wp 12 0 [(0, .ref 9), (1, .int x1)] [] (gE Lx) I L e Q := by
  refine w_a f_12_0 ?_
  refine w_a f_12_1 ?_
  refine w_a f_12_2 ?_
  refine w_a (ls := [(0, .ref 9), (1, .int x1)]) f_13_0 ?_
  refine w_a f_13_1 ?_
  refine i_m (fun h => ?_) (fun h => ?_) h
  · refine w_a f_13_13 ?_
    refine w_a f_13_14 ?_
    refine w_a (ls := [(0, .ref 9), (1, .int x1)]) f_12_5 ?_
    refine w_a f_12_17 ?_
    refine w_a f_12_18 ?_
    exact h
  · refine w_a f_13_4 ?_
    refine w_a f_13_5 ?_
    refine w_a f_13_6 ?_
    refine i_m (fun h => ?_) (fun h => ?_) h
    · refine w_a f_13_9 ?_
      refine w_a f_13_10 ?_
      refine w_a f_13_14 ?_
      refine w_a (ls := [(0, .ref 9), (1, .int x1)]) f_12_5 ?_
      refine w_a f_12_8 ?_
      refine w_a f_12_9 ?_
      refine w_a f_12_12 ?_
      refine w_a f_12_13 ?_
      refine n_m (fun h => ?_) h
      refine w_a f_12_14 ?_
      refine w_a f_12_18 ?_
      exact h
    · refine w_a f_13_13 ?_
      refine w_a f_13_14 ?_
      refine w_a (ls := [(0, .ref 9), (1, .int x1)]) f_12_5 ?_
      refine w_a f_12_17 ?_
      refine w_a f_12_18 ?_
      exact h
set_option maxRecDepth 10000 in
set_option maxHeartbeats 4000000 in
theorem s_14_0_5 {Lx : Nat} {I : Mi} {L : Ml} {e : Nat} {Q : Kq} {x1 : Int32} (h :
    (if x1 < 0 then
     Q (.inl (some (.int (Int32.ofInt 0)))) (gE Lx) I L e
    else
     (if x1 < (Int32.ofInt 4) then
      (inb x1 4 (
       Q (.inl (some (.int (I 7 x1.toNatClampNeg)))) (gE Lx) I L e)
      False)
     else
      Q (.inl (some (.int (Int32.ofInt 0)))) (gE Lx) I L e))) :
    Wp 14 0 [(0, .ref 5), (1, .int x1)] [] (gE Lx) I L e Q := by
  refine w_a f_14_0 ?_
  refine w_a f_14_1 ?_
  refine w_a f_14_2 ?_
  refine w_a (ls := [(0, .ref 5), (1, .int x1)]) f_13_0 ?_
  refine w_a f_13_1 ?_
  refine i_m (fun h => ?_) (fun h => ?_) h
  · refine w_a f_13_13 ?_
    refine w_a f_13_14 ?_
    refine w_a (ls := [(0, .ref 5), (1, .int x1)]) f_14_5 ?_
    refine w_a f_14_17 ?_
    refine w_a f_14_18 ?_
    exact h
  · refine w_a f_13_4 ?_
    refine w_a f_13_5 ?_
    refine w_a f_13_6 ?_
    refine i_m (fun h => ?_) (fun h => ?_) h
    · refine w_a f_13_9 ?_
      refine w_a f_13_10 ?_
      refine w_a f_13_14 ?_
      refine w_a (ls := [(0, .ref 5), (1, .int x1)]) f_14_5 ?_
      refine w_a f_14_8 ?_
      refine w_a f_14_9 ?_
      refine w_a f_14_12 ?_
      refine w_a f_14_13 ?_
      refine n_m (fun h => ?_) h
      refine w_a f_14_14 ?_
      refine w_a f_14_18 ?_
      exact h
    · refine w_a f_13_13 ?_
      refine w_a f_13_14 ?_
      refine w_a (ls := [(0, .ref 5), (1, .int x1)]) f_14_5 ?_
      refine w_a f_14_17 ?_
      refine w_a f_14_18 ?_
      exact h
set_option maxRecDepth 10000 in
set_option maxHeartbeats 4000000 in
theorem s_14_0_9 {Lx : Nat} {I : Mi} {L : Ml} {e : Nat} {Q : Kq} {x1 : Int32} (h :
    (if x1 < 0 then
     Q (.inl (some (.int (Int32.ofInt 0)))) (gE Lx) I L e
    else
     (if x1 < (Int32.ofInt 4) then
      (inb x1 4 (
       Q (.inl (some (.int (I 11 x1.toNatClampNeg)))) (gE Lx) I L e)
      False)
     else
      Q (.inl (some (.int (Int32.ofInt 0)))) (gE Lx) I L e))) :
    Wp 14 0 [(0, .ref 9), (1, .int x1)] [] (gE Lx) I L e Q := by
  refine w_a f_14_0 ?_
  refine w_a f_14_1 ?_
  refine w_a f_14_2 ?_
  refine w_a (ls := [(0, .ref 9), (1, .int x1)]) f_13_0 ?_
  refine w_a f_13_1 ?_
  refine i_m (fun h => ?_) (fun h => ?_) h
  · refine w_a f_13_13 ?_
    refine w_a f_13_14 ?_
    refine w_a (ls := [(0, .ref 9), (1, .int x1)]) f_14_5 ?_
    refine w_a f_14_17 ?_
    refine w_a f_14_18 ?_
    exact h
  · refine w_a f_13_4 ?_
    refine w_a f_13_5 ?_
    refine w_a f_13_6 ?_
    refine i_m (fun h => ?_) (fun h => ?_) h
    · refine w_a f_13_9 ?_
      refine w_a f_13_10 ?_
      refine w_a f_13_14 ?_
      refine w_a (ls := [(0, .ref 9), (1, .int x1)]) f_14_5 ?_
      refine w_a f_14_8 ?_
      refine w_a f_14_9 ?_
      refine w_a f_14_12 ?_
      refine w_a f_14_13 ?_
      refine n_m (fun h => ?_) h
      refine w_a f_14_14 ?_
      refine w_a f_14_18 ?_
      exact h
    · refine w_a f_13_13 ?_
      refine w_a f_13_14 ?_
      refine w_a (ls := [(0, .ref 9), (1, .int x1)]) f_14_5 ?_
      refine w_a f_14_17 ?_
      refine w_a f_14_18 ?_
      exact h
set_option maxRecDepth 10000 in
set_option maxHeartbeats 4000000 in
theorem s_15_0_5 {Lx : Nat} {I : Mi} {L : Ml} {e : Nat} {Q : Kq} {x1 : Int32} (h :
    (if x1 < 0 then
     Q (.inl (some (.int (Int32.ofInt 1)))) (gE Lx) I L e
    else
     (if x1 < (Int32.ofInt 4) then
      (inb x1 4 (
       Q (.inl (some (.int (I 8 x1.toNatClampNeg)))) (gE Lx) I L e)
      False)
     else
      Q (.inl (some (.int (Int32.ofInt 1)))) (gE Lx) I L e))) :
    Wp 15 0 [(0, .ref 5), (1, .int x1)] [] (gE Lx) I L e Q := by
  refine w_a f_15_0 ?_
  refine w_a f_15_1 ?_
  refine w_a f_15_2 ?_
  refine w_a (ls := [(0, .ref 5), (1, .int x1)]) f_13_0 ?_
  refine w_a f_13_1 ?_
  refine i_m (fun h => ?_) (fun h => ?_) h
  · refine w_a f_13_13 ?_
    refine w_a f_13_14 ?_
    refine w_a (ls := [(0, .ref 5), (1, .int x1)]) f_15_5 ?_
    refine w_a f_15_17 ?_
    refine w_a f_15_18 ?_
    exact h
  · refine w_a f_13_4 ?_
    refine w_a f_13_5 ?_
    refine w_a f_13_6 ?_
    refine i_m (fun h => ?_) (fun h => ?_) h
    · refine w_a f_13_9 ?_
      refine w_a f_13_10 ?_
      refine w_a f_13_14 ?_
      refine w_a (ls := [(0, .ref 5), (1, .int x1)]) f_15_5 ?_
      refine w_a f_15_8 ?_
      refine w_a f_15_9 ?_
      refine w_a f_15_12 ?_
      refine w_a f_15_13 ?_
      refine n_m (fun h => ?_) h
      refine w_a f_15_14 ?_
      refine w_a f_15_18 ?_
      exact h
    · refine w_a f_13_13 ?_
      refine w_a f_13_14 ?_
      refine w_a (ls := [(0, .ref 5), (1, .int x1)]) f_15_5 ?_
      refine w_a f_15_17 ?_
      refine w_a f_15_18 ?_
      exact h
set_option maxRecDepth 10000 in
set_option maxHeartbeats 4000000 in
theorem s_15_0_9 {Lx : Nat} {I : Mi} {L : Ml} {e : Nat} {Q : Kq} {x1 : Int32} (h :
    (if x1 < 0 then
     Q (.inl (some (.int (Int32.ofInt 1)))) (gE Lx) I L e
    else
     (if x1 < (Int32.ofInt 4) then
      (inb x1 4 (
       Q (.inl (some (.int (I 12 x1.toNatClampNeg)))) (gE Lx) I L e)
      False)
     else
      Q (.inl (some (.int (Int32.ofInt 1)))) (gE Lx) I L e))) :
    Wp 15 0 [(0, .ref 9), (1, .int x1)] [] (gE Lx) I L e Q := by
  refine w_a f_15_0 ?_
  refine w_a f_15_1 ?_
  refine w_a f_15_2 ?_
  refine w_a (ls := [(0, .ref 9), (1, .int x1)]) f_13_0 ?_
  refine w_a f_13_1 ?_
  refine i_m (fun h => ?_) (fun h => ?_) h
  · refine w_a f_13_13 ?_
    refine w_a f_13_14 ?_
    refine w_a (ls := [(0, .ref 9), (1, .int x1)]) f_15_5 ?_
    refine w_a f_15_17 ?_
    refine w_a f_15_18 ?_
    exact h
  · refine w_a f_13_4 ?_
    refine w_a f_13_5 ?_
    refine w_a f_13_6 ?_
    refine i_m (fun h => ?_) (fun h => ?_) h
    · refine w_a f_13_9 ?_
      refine w_a f_13_10 ?_
      refine w_a f_13_14 ?_
      refine w_a (ls := [(0, .ref 9), (1, .int x1)]) f_15_5 ?_
      refine w_a f_15_8 ?_
      refine w_a f_15_9 ?_
      refine w_a f_15_12 ?_
      refine w_a f_15_13 ?_
      refine n_m (fun h => ?_) h
      refine w_a f_15_14 ?_
      refine w_a f_15_18 ?_
      exact h
    · refine w_a f_13_13 ?_
      refine w_a f_13_14 ?_
      refine w_a (ls := [(0, .ref 9), (1, .int x1)]) f_15_5 ?_
      refine w_a f_15_17 ?_
      refine w_a f_15_18 ?_
      exact h
set_option maxRecDepth 10000 in
set_option maxHeartbeats 4000000 in
theorem s_18_18 {Lx : Nat} {I : Mi} {L : Ml} {e : Nat} {Q : Kq} {x1 : Int32} {x3 : Int32} {r1 : Int32} {r : Int32} (h :
    (inb r1 4 (
     Wp 14 0 [(0, .ref 9), (1, .int x3)] [] (gE Lx) (ui I 6 r1.toNatClampNeg r) L e (kcp (Wp 18) 18 26 0 [(0, .ref 5), (1, .int x1), (2, .ref 9), (3, .int x3)] 71 [.int x1, .ref 7] Q))
    False)) :
    Wp 18 18 [(0, .ref 5), (1, .int x1), (2, .ref 9), (3, .int x3)] [.int r, .int r1, .ref 6] (gE Lx) I L e Q := by
  refine w_a f_18_18 ?_
  refine n_m (fun h => ?_) h
  refine w_a f_18_19 ?_
  refine w_a f_18_20 ?_
  refine w_a f_18_23 ?_
  refine w_a f_18_24 ?_
  refine w_a f_18_25 ?_
  exact w_c (ks := [0, 1, 2, 3]) f_18_26 rfl rfl h
set_option maxRecDepth 10000 in
set_option maxHeartbeats 4000000 in
theorem s_18_29 {Lx : Nat} {I : Mi} {L : Ml} {e : Nat} {Q : Kq} {x1 : Int32} {x3 : Int32} {r1 : Int32} {r : Int32} (h :
    (inb r1 4 (
     Wp 15 0 [(0, .ref 9), (1, .int x3)] [] (gE Lx) (ui I 7 r1.toNatClampNeg r) L e (kcp (Wp 18) 18 37 0 [(0, .ref 5), (2, .ref 9)] 71 [.int x1, .ref 8] Q))
    False)) :
    Wp 18 29 [(0, .ref 5), (1, .int x1), (2, .ref 9), (3, .int x3)] [.int r, .int r1, .ref 7] (gE Lx) I L e Q := by
  refine w_a f_18_29 ?_
  refine n_m (fun h => ?_) h
  refine w_a f_18_30 ?_
  refine w_a f_18_31 ?_
  refine w_a f_18_34 ?_
  refine w_a f_18_35 ?_
  refine w_a f_18_36 ?_
  exact w_c (ks := [0, 2]) f_18_37 rfl rfl h
set_option maxRecDepth 10000 in
set_option maxHeartbeats 4000000 in
theorem s_18_40 {Lx : Nat} {I : Mi} {L : Ml} {e : Nat} {Q : Kq} {r1 : Int32} {r : Int32} (h :
    (inb r1 4 (
     Q (.inl none) (gE Lx) (ui I 8 r1.toNatClampNeg r) L e)
    False)) :
    Wp 18 40 [(0, .ref 5), (2, .ref 9)] [.int r, .int r1, .ref 8] (gE Lx) I L e Q := by
  refine w_a f_18_40 ?_
  refine n_m (fun h => ?_) h
  refine w_a f_18_41 ?_
  exact h
set_option maxRecDepth 10000 in
set_option maxHeartbeats 4000000 in
theorem s_23_0 {Lx : Nat} {I : Mi} {L : Ml} {e : Nat} {Q : Kq} {y0 : Int64} {y2 : Int64} {y4 : Int64} {y6 : Int64} (h :
    Wp 23 6 [(0, .long y0), (2, .long y2), (4, .long y4), (6, .long y6), (8, .int (Int32.ofInt 1)), (9, .int (Int32.ofInt 0))] [] (gE Lx) I L e Q) :
    Wp 23 0 [(0, .long y0), (2, .long y2), (4, .long y4), (6, .long y6)] [] (gE Lx) I L e Q := by
  refine w_a f_23_0 ?_
  refine w_a f_23_1 ?_
  refine w_a (ls := [(8, .int (Int32.ofInt 1)), (0, .long y0), (2, .long y2), (4, .long y4), (6, .long y6)]) f_23_3 ?_
  refine w_a f_23_4 ?_
  exact w_n (ks := [0, 2, 4, 6, 8, 9]) rfl h
set_option maxRecDepth 10000 in
set_option maxHeartbeats 4000000 in
theorem s_23_6 {Lx : Nat} {I : Mi} {L : Ml} {e : Nat} {Q : Kq} {y0 : Int64} {y2 : Int64} {y4 : Int64} {y6 : Int64} {x8 : Int32} {x9 : Int32} (h :
    (if x9 < (Int32.ofInt 100) then
     (if y2 = (Int64.ofInt 0) then
      (if y2 = (Int64.ofInt 0) then
       (if y6 = (Int64.ofInt 0) then
        Q (.inl (some (.int (Int32.ofInt 0)))) (gE Lx) I L e
       else
        Q (.inl (some (.int (x8 * (Int32.ofInt 1))))) (gE Lx) I L e)
      else
       (if y6 = (Int64.ofInt 0) then
        Q (.inl (some (.int (x8 * (Int32.ofInt (-1)))))) (gE Lx) I L e
       else
        Q (.inl (some (.int (Int32.ofInt 0)))) (gE Lx) I L e))
     else
      (if y6 = (Int64.ofInt 0) then
       (if y2 = (Int64.ofInt 0) then
        (if y6 = (Int64.ofInt 0) then
         Q (.inl (some (.int (Int32.ofInt 0)))) (gE Lx) I L e
        else
         Q (.inl (some (.int (x8 * (Int32.ofInt 1))))) (gE Lx) I L e)
       else
        (if y6 = (Int64.ofInt 0) then
         Q (.inl (some (.int (x8 * (Int32.ofInt (-1)))))) (gE Lx) I L e
        else
         Q (.inl (some (.int (Int32.ofInt 0)))) (gE Lx) I L e))
      else
       (if y2 = 0 then False else
        (if y6 = 0 then False else
         (if (y0 / y2) = (y4 / y6) then
          Wp 23 6 [(0, .long y2), (2, .long (y0 - ((y0 / y2) * y2))), (4, .long y6), (6, .long (y4 - ((y4 / y6) * y6))), (8, .int (-x8)), (9, .int (x9 + Int32.ofInt 1))] [] (gE Lx) I L e Q
         else
          (if (y0 / y2) < (y4 / y6) then
           Q (.inl (some (.int (-x8)))) (gE Lx) I L e
          else
           Q (.inl (some (.int x8))) (gE Lx) I L e))))))
    else
     Q (.inl (some (.int (Int32.ofInt 0)))) (gE Lx) I L e)) :
    Wp 23 6 [(0, .long y0), (2, .long y2), (4, .long y4), (6, .long y6), (8, .int x8), (9, .int x9)] [] (gE Lx) I L e Q := by
  refine w_a f_23_6 ?_
  refine w_a f_23_8 ?_
  refine w_a f_23_10 ?_
  refine i_m (fun h => ?_) (fun h => ?_) h
  · refine w_a f_23_13 ?_
    refine w_a f_23_14 ?_
    refine w_a f_23_15 ?_
    refine i_m (fun h => ?_) (fun h => ?_) h
    · refine w_a f_23_26 ?_
      refine w_a f_23_28 ?_
      refine w_a f_23_29 ?_
      refine w_a f_23_30 ?_
      refine i_m (fun h => ?_) (fun h => ?_) h
      · refine w_a f_23_34 ?_
        refine w_a f_23_35 ?_
        refine w_a f_23_39 ?_
        refine w_a f_23_41 ?_
        refine w_a f_23_42 ?_
        refine i_m (fun h => ?_) (fun h => ?_) h
        · refine w_a f_23_46 ?_
          refine w_a f_23_47 ?_
          refine w_a f_23_51 ?_
          refine w_a f_23_52 ?_
          refine w_a f_23_53 ?_
          exact h
        · refine w_a f_23_50 ?_
          refine w_a f_23_51 ?_
          refine w_a f_23_52 ?_
          refine w_a f_23_53 ?_
          exact h
      · refine w_a f_23_38 ?_
        refine w_a f_23_39 ?_
        refine w_a f_23_41 ?_
        refine w_a f_23_42 ?_
        refine i_m (fun h => ?_) (fun h => ?_) h
        · refine w_a f_23_46 ?_
          refine w_a f_23_47 ?_
          refine w_a f_23_51 ?_
          refine w_a f_23_52 ?_
          refine w_a f_23_53 ?_
          exact h
        · refine w_a f_23_50 ?_
          refine w_a f_23_51 ?_
          refine w_a f_23_52 ?_
          refine w_a f_23_53 ?_
          exact h
    · refine w_a f_23_19 ?_
      refine w_a f_23_21 ?_
      refine w_a f_23_22 ?_
      refine i_m (fun h => ?_) (fun h => ?_) h
      · refine w_a f_23_26 ?_
        refine w_a f_23_28 ?_
        refine w_a f_23_29 ?_
        refine w_a f_23_30 ?_
        refine i_m (fun h => ?_) (fun h => ?_) h
        · refine w_a f_23_34 ?_
          refine w_a f_23_35 ?_
          refine w_a f_23_39 ?_
          refine w_a f_23_41 ?_
          refine w_a f_23_42 ?_
          refine i_m (fun h => ?_) (fun h => ?_) h
          · refine w_a f_23_46 ?_
            refine w_a f_23_47 ?_
            refine w_a f_23_51 ?_
            refine w_a f_23_52 ?_
            refine w_a f_23_53 ?_
            exact h
          · refine w_a f_23_50 ?_
            refine w_a f_23_51 ?_
            refine w_a f_23_52 ?_
            refine w_a f_23_53 ?_
            exact h
        · refine w_a f_23_38 ?_
          refine w_a f_23_39 ?_
          refine w_a f_23_41 ?_
          refine w_a f_23_42 ?_
          refine i_m (fun h => ?_) (fun h => ?_) h
          · refine w_a f_23_46 ?_
            refine w_a f_23_47 ?_
            refine w_a f_23_51 ?_
            refine w_a f_23_52 ?_
            refine w_a f_23_53 ?_
            exact h
          · refine w_a f_23_50 ?_
            refine w_a f_23_51 ?_
            refine w_a f_23_52 ?_
            refine w_a f_23_53 ?_
            exact h
      · refine w_a f_23_54 ?_
        refine w_a f_23_55 ?_
        refine w_a f_23_56 ?_
        refine i_m id (fun h => ?_) h
        refine w_a f_23_57 ?_
        refine w_a (ls := [(10, .long (y0 / y2)), (0, .long y0), (2, .long y2), (4, .long y4), (6, .long y6), (8, .int x8), (9, .int x9)]) f_23_59 ?_
        refine w_a f_23_61 ?_
        refine w_a f_23_63 ?_
        refine i_m id (fun h => ?_) h
        refine w_a f_23_64 ?_
        refine w_a (ls := [(12, .long (y4 / y6)), (10, .long (y0 / y2)), (0, .long y0), (2, .long y2), (4, .long y4), (6, .long y6), (8, .int x8), (9, .int x9)]) f_23_66 ?_
        refine w_a f_23_68 ?_
        refine w_a f_23_70 ?_
        refine i_m (fun h => ?_) (fun h => ?_) h
        · refine w_a f_23_91 ?_
          refine w_a f_23_92 ?_
          refine w_a f_23_94 ?_
          refine w_a f_23_95 ?_
          refine w_a f_23_96 ?_
          refine w_a f_23_97 ?_
          refine w_a (ls := [(14, .long (y0 - ((y0 / y2) * y2))), (12, .long (y4 / y6)), (10, .long (y0 / y2)), (0, .long y0), (2, .long y2), (4, .long y4), (6, .long y6), (8, .int x8), (9, .int x9)]) f_23_99 ?_
          refine w_a f_23_101 ?_
          refine w_a f_23_103 ?_
          refine w_a f_23_105 ?_
          refine w_a f_23_106 ?_
          refine w_a f_23_107 ?_
          refine w_a (ls := [(16, .long (y4 - ((y4 / y6) * y6))), (14, .long (y0 - ((y0 / y2) * y2))), (12, .long (y4 / y6)), (10, .long (y0 / y2)), (0, .long y0), (2, .long y2), (4, .long y4), (6, .long y6), (8, .int x8), (9, .int x9)]) f_23_109 ?_
          refine w_a f_23_110 ?_
          refine w_a (ls := [(0, .long y2), (16, .long (y4 - ((y4 / y6) * y6))), (14, .long (y0 - ((y0 / y2) * y2))), (12, .long (y4 / y6)), (10, .long (y0 / y2)), (2, .long y2), (4, .long y4), (6, .long y6), (8, .int x8), (9, .int x9)]) f_23_111 ?_
          refine w_a f_23_113 ?_
          refine w_a (ls := [(2, .long (y0 - ((y0 / y2) * y2))), (0, .long y2), (16, .long (y4 - ((y4 / y6) * y6))), (14, .long (y0 - ((y0 / y2) * y2))), (12, .long (y4 / y6)), (10, .long (y0 / y2)), (4, .long y4), (6, .long y6), (8, .int x8), (9, .int x9)]) f_23_114 ?_
          refine w_a f_23_116 ?_
          refine w_a (ls := [(4, .long y6), (2, .long (y0 - ((y0 / y2) * y2))), (0, .long y2), (16, .long (y4 - ((y4 / y6) * y6))), (14, .long (y0 - ((y0 / y2) * y2))), (12, .long (y4 / y6)), (10, .long (y0 / y2)), (6, .long y6), (8, .int x8), (9, .int x9)]) f_23_118 ?_
          refine w_a f_23_120 ?_
          refine w_a (ls := [(6, .long (y4 - ((y4 / y6) * y6))), (4, .long y6), (2, .long (y0 - ((y0 / y2) * y2))), (0, .long y2), (16, .long (y4 - ((y4 / y6) * y6))), (14, .long (y0 - ((y0 / y2) * y2))), (12, .long (y4 / y6)), (10, .long (y0 / y2)), (8, .int x8), (9, .int x9)]) f_23_122 ?_
          refine w_a f_23_124 ?_
          refine w_a f_23_125 ?_
          refine w_a (ls := [(8, .int (-x8)), (6, .long (y4 - ((y4 / y6) * y6))), (4, .long y6), (2, .long (y0 - ((y0 / y2) * y2))), (0, .long y2), (16, .long (y4 - ((y4 / y6) * y6))), (14, .long (y0 - ((y0 / y2) * y2))), (12, .long (y4 / y6)), (10, .long (y0 / y2)), (9, .int x9)]) f_23_127 ?_
          refine w_a (ls := [(9, .int (x9 + Int32.ofInt 1)), (8, .int (-x8)), (6, .long (y4 - ((y4 / y6) * y6))), (4, .long y6), (2, .long (y0 - ((y0 / y2) * y2))), (0, .long y2), (16, .long (y4 - ((y4 / y6) * y6))), (14, .long (y0 - ((y0 / y2) * y2))), (12, .long (y4 / y6)), (10, .long (y0 / y2))]) f_23_130 ?_
          exact w_n (ks := [0, 2, 4, 6, 8, 9]) rfl h
        · refine w_a f_23_74 ?_
          refine w_a f_23_76 ?_
          refine w_a f_23_78 ?_
          refine i_m (fun h => ?_) (fun h => ?_) h
          · refine w_a f_23_82 ?_
            refine w_a f_23_84 ?_
            refine w_a f_23_85 ?_
            refine w_a f_23_90 ?_
            exact h
          · refine w_a f_23_88 ?_
            refine w_a f_23_90 ?_
            exact h
  · refine w_a f_23_133 ?_
    refine w_a f_23_134 ?_
    exact h
set_option maxRecDepth 10000 in
set_option maxHeartbeats 4000000 in
theorem s_25_0_18 {Lx : Nat} {I : Mi} {L : Ml} {e : Nat} {Q : Kq} {y1 : Int64} {y3 : Int64} (h :
    Wp 26 0 [(0, .long y1), (2, .long y3)] [] (gE Lx) I L e (kcp (Wp 25) 25 2 0 [(0, .ref 18), (1, .long y1), (3, .long y3)] 71 [] Q)) :
    Wp 25 0 [(0, .ref 18), (1, .long y1), (3, .long y3)] [] (gE Lx) I L e Q := by
  refine w_a f_25_0 ?_
  refine w_a f_25_1 ?_
  exact w_c (ks := [0, 1, 3]) f_25_2 rfl rfl h
set_option maxRecDepth 10000 in
set_option maxHeartbeats 4000000 in
theorem s_25_5_18 {Lx : Nat} {I : Mi} {L : Ml} {e : Nat} {Q : Kq} {y1 : Int64} {y3 : Int64} {rl : Int64} (h :
    (if rl = (Int64.ofInt 0) then
     Q (.inl none) (gE Lx) I (ul (ul L 18 0 (Int64.ofInt 0)) 18 1 (Int64.ofInt 1)) e
    else
     (if y3 < (Int64.ofInt 0) then
      (if (-rl) = 0 then False else
       (if (-rl) = 0 then False else
        Q (.inl none) (gE Lx) I (ul (ul L 18 0 (y1 / (-rl))) 18 1 (y3 / (-rl))) e))
     else
      (if y3 = (Int64.ofInt 0) then
       (if y1 < (Int64.ofInt 0) then
        (if (-rl) = 0 then False else
         (if (-rl) = 0 then False else
          Q (.inl none) (gE Lx) I (ul (ul L 18 0 (y1 / (-rl))) 18 1 (y3 / (-rl))) e))
       else
        (if rl = 0 then False else
         (if rl = 0 then False else
          Q (.inl none) (gE Lx) I (ul (ul L 18 0 (y1 / rl)) 18 1 (y3 / rl)) e)))
      else
       (if rl = 0 then False else
        (if rl = 0 then False else
         Q (.inl none) (gE Lx) I (ul (ul L 18 0 (y1 / rl)) 18 1 (y3 / rl)) e)))))) :
    Wp 25 5 [(0, .ref 18), (1, .long y1), (3, .long y3)] [.long rl] (gE Lx) I L e Q := by
  refine w_a f_25_5 ?_
  refine w_a (ls := [(5, .long rl), (0, .ref 18), (1, .long y1), (3, .long y3)]) f_25_7 ?_
  refine w_a f_25_9 ?_
  refine w_a f_25_10 ?_
  refine i_m (fun h => ?_) (fun h => ?_) h
  · refine w_a f_25_14 ?_
    refine w_a f_25_15 ?_
    refine w_a f_25_16 ?_
    refine w_a f_25_19 ?_
    refine w_a f_25_20 ?_
    refine w_a f_25_21 ?_
    refine w_a f_25_24 ?_
    exact h
  · refine w_a f_25_25 ?_
    refine w_a f_25_26 ?_
    refine w_a f_25_27 ?_
    refine i_m (fun h => ?_) (fun h => ?_) h
    · refine w_a f_25_43 ?_
      refine w_a f_25_45 ?_
      refine w_a f_25_46 ?_
      refine w_a f_25_51 ?_
      refine w_a (ls := [(7, .long (-rl)), (5, .long rl), (0, .ref 18), (1, .long y1), (3, .long y3)]) f_25_53 ?_
      refine w_a f_25_54 ?_
      refine w_a f_25_55 ?_
      refine w_a f_25_57 ?_
      refine i_m id (fun h => ?_) h
      refine w_a f_25_58 ?_
      refine w_a f_25_61 ?_
      refine w_a f_25_62 ?_
      refine w_a f_25_63 ?_
      refine w_a f_25_65 ?_
      refine i_m id (fun h => ?_) h
      refine w_a f_25_66 ?_
      refine w_a f_25_69 ?_
      exact h
    · refine w_a f_25_31 ?_
      refine w_a f_25_32 ?_
      refine w_a f_25_33 ?_
      refine i_m (fun h => ?_) (fun h => ?_) h
      · refine w_a f_25_37 ?_
        refine w_a f_25_38 ?_
        refine w_a f_25_39 ?_
        refine i_m (fun h => ?_) (fun h => ?_) h
        · refine w_a f_25_43 ?_
          refine w_a f_25_45 ?_
          refine w_a f_25_46 ?_
          refine w_a f_25_51 ?_
          refine w_a (ls := [(7, .long (-rl)), (5, .long rl), (0, .ref 18), (1, .long y1), (3, .long y3)]) f_25_53 ?_
          refine w_a f_25_54 ?_
          refine w_a f_25_55 ?_
          refine w_a f_25_57 ?_
          refine i_m id (fun h => ?_) h
          refine w_a f_25_58 ?_
          refine w_a f_25_61 ?_
          refine w_a f_25_62 ?_
          refine w_a f_25_63 ?_
          refine w_a f_25_65 ?_
          refine i_m id (fun h => ?_) h
          refine w_a f_25_66 ?_
          refine w_a f_25_69 ?_
          exact h
        · refine w_a f_25_49 ?_
          refine w_a f_25_51 ?_
          refine w_a (ls := [(7, .long rl), (5, .long rl), (0, .ref 18), (1, .long y1), (3, .long y3)]) f_25_53 ?_
          refine w_a f_25_54 ?_
          refine w_a f_25_55 ?_
          refine w_a f_25_57 ?_
          refine i_m id (fun h => ?_) h
          refine w_a f_25_58 ?_
          refine w_a f_25_61 ?_
          refine w_a f_25_62 ?_
          refine w_a f_25_63 ?_
          refine w_a f_25_65 ?_
          refine i_m id (fun h => ?_) h
          refine w_a f_25_66 ?_
          refine w_a f_25_69 ?_
          exact h
      · refine w_a f_25_49 ?_
        refine w_a f_25_51 ?_
        refine w_a (ls := [(7, .long rl), (5, .long rl), (0, .ref 18), (1, .long y1), (3, .long y3)]) f_25_53 ?_
        refine w_a f_25_54 ?_
        refine w_a f_25_55 ?_
        refine w_a f_25_57 ?_
        refine i_m id (fun h => ?_) h
        refine w_a f_25_58 ?_
        refine w_a f_25_61 ?_
        refine w_a f_25_62 ?_
        refine w_a f_25_63 ?_
        refine w_a f_25_65 ?_
        refine i_m id (fun h => ?_) h
        refine w_a f_25_66 ?_
        refine w_a f_25_69 ?_
        exact h
set_option maxRecDepth 10000 in
set_option maxHeartbeats 4000000 in
theorem s_25_0_23 {Lx : Nat} {I : Mi} {L : Ml} {e : Nat} {Q : Kq} {y1 : Int64} {y3 : Int64} (h :
    Wp 26 0 [(0, .long y1), (2, .long y3)] [] (gE Lx) I L e (kcp (Wp 25) 25 2 0 [(0, .ref 23), (1, .long y1), (3, .long y3)] 71 [] Q)) :
    Wp 25 0 [(0, .ref 23), (1, .long y1), (3, .long y3)] [] (gE Lx) I L e Q := by
  refine w_a f_25_0 ?_
  refine w_a f_25_1 ?_
  exact w_c (ks := [0, 1, 3]) f_25_2 rfl rfl h
set_option maxRecDepth 10000 in
set_option maxHeartbeats 4000000 in
theorem s_25_5_23 {Lx : Nat} {I : Mi} {L : Ml} {e : Nat} {Q : Kq} {y1 : Int64} {y3 : Int64} {rl : Int64} (h :
    (if rl = (Int64.ofInt 0) then
     Q (.inl none) (gE Lx) I (ul (ul L 23 0 (Int64.ofInt 0)) 23 1 (Int64.ofInt 1)) e
    else
     (if y3 < (Int64.ofInt 0) then
      (if (-rl) = 0 then False else
       (if (-rl) = 0 then False else
        Q (.inl none) (gE Lx) I (ul (ul L 23 0 (y1 / (-rl))) 23 1 (y3 / (-rl))) e))
     else
      (if y3 = (Int64.ofInt 0) then
       (if y1 < (Int64.ofInt 0) then
        (if (-rl) = 0 then False else
         (if (-rl) = 0 then False else
          Q (.inl none) (gE Lx) I (ul (ul L 23 0 (y1 / (-rl))) 23 1 (y3 / (-rl))) e))
       else
        (if rl = 0 then False else
         (if rl = 0 then False else
          Q (.inl none) (gE Lx) I (ul (ul L 23 0 (y1 / rl)) 23 1 (y3 / rl)) e)))
      else
       (if rl = 0 then False else
        (if rl = 0 then False else
         Q (.inl none) (gE Lx) I (ul (ul L 23 0 (y1 / rl)) 23 1 (y3 / rl)) e)))))) :
    Wp 25 5 [(0, .ref 23), (1, .long y1), (3, .long y3)] [.long rl] (gE Lx) I L e Q := by
  refine w_a f_25_5 ?_
  refine w_a (ls := [(5, .long rl), (0, .ref 23), (1, .long y1), (3, .long y3)]) f_25_7 ?_
  refine w_a f_25_9 ?_
  refine w_a f_25_10 ?_
  refine i_m (fun h => ?_) (fun h => ?_) h
  · refine w_a f_25_14 ?_
    refine w_a f_25_15 ?_
    refine w_a f_25_16 ?_
    refine w_a f_25_19 ?_
    refine w_a f_25_20 ?_
    refine w_a f_25_21 ?_
    refine w_a f_25_24 ?_
    exact h
  · refine w_a f_25_25 ?_
    refine w_a f_25_26 ?_
    refine w_a f_25_27 ?_
    refine i_m (fun h => ?_) (fun h => ?_) h
    · refine w_a f_25_43 ?_
      refine w_a f_25_45 ?_
      refine w_a f_25_46 ?_
      refine w_a f_25_51 ?_
      refine w_a (ls := [(7, .long (-rl)), (5, .long rl), (0, .ref 23), (1, .long y1), (3, .long y3)]) f_25_53 ?_
      refine w_a f_25_54 ?_
      refine w_a f_25_55 ?_
      refine w_a f_25_57 ?_
      refine i_m id (fun h => ?_) h
      refine w_a f_25_58 ?_
      refine w_a f_25_61 ?_
      refine w_a f_25_62 ?_
      refine w_a f_25_63 ?_
      refine w_a f_25_65 ?_
      refine i_m id (fun h => ?_) h
      refine w_a f_25_66 ?_
      refine w_a f_25_69 ?_
      exact h
    · refine w_a f_25_31 ?_
      refine w_a f_25_32 ?_
      refine w_a f_25_33 ?_
      refine i_m (fun h => ?_) (fun h => ?_) h
      · refine w_a f_25_37 ?_
        refine w_a f_25_38 ?_
        refine w_a f_25_39 ?_
        refine i_m (fun h => ?_) (fun h => ?_) h
        · refine w_a f_25_43 ?_
          refine w_a f_25_45 ?_
          refine w_a f_25_46 ?_
          refine w_a f_25_51 ?_
          refine w_a (ls := [(7, .long (-rl)), (5, .long rl), (0, .ref 23), (1, .long y1), (3, .long y3)]) f_25_53 ?_
          refine w_a f_25_54 ?_
          refine w_a f_25_55 ?_
          refine w_a f_25_57 ?_
          refine i_m id (fun h => ?_) h
          refine w_a f_25_58 ?_
          refine w_a f_25_61 ?_
          refine w_a f_25_62 ?_
          refine w_a f_25_63 ?_
          refine w_a f_25_65 ?_
          refine i_m id (fun h => ?_) h
          refine w_a f_25_66 ?_
          refine w_a f_25_69 ?_
          exact h
        · refine w_a f_25_49 ?_
          refine w_a f_25_51 ?_
          refine w_a (ls := [(7, .long rl), (5, .long rl), (0, .ref 23), (1, .long y1), (3, .long y3)]) f_25_53 ?_
          refine w_a f_25_54 ?_
          refine w_a f_25_55 ?_
          refine w_a f_25_57 ?_
          refine i_m id (fun h => ?_) h
          refine w_a f_25_58 ?_
          refine w_a f_25_61 ?_
          refine w_a f_25_62 ?_
          refine w_a f_25_63 ?_
          refine w_a f_25_65 ?_
          refine i_m id (fun h => ?_) h
          refine w_a f_25_66 ?_
          refine w_a f_25_69 ?_
          exact h
      · refine w_a f_25_49 ?_
        refine w_a f_25_51 ?_
        refine w_a (ls := [(7, .long rl), (5, .long rl), (0, .ref 23), (1, .long y1), (3, .long y3)]) f_25_53 ?_
        refine w_a f_25_54 ?_
        refine w_a f_25_55 ?_
        refine w_a f_25_57 ?_
        refine i_m id (fun h => ?_) h
        refine w_a f_25_58 ?_
        refine w_a f_25_61 ?_
        refine w_a f_25_62 ?_
        refine w_a f_25_63 ?_
        refine w_a f_25_65 ?_
        refine i_m id (fun h => ?_) h
        refine w_a f_25_66 ?_
        refine w_a f_25_69 ?_
        exact h
set_option maxRecDepth 10000 in
set_option maxHeartbeats 4000000 in
theorem s_26_0 {Lx : Nat} {I : Mi} {L : Ml} {e : Nat} {Q : Kq} {y0 : Int64} {y2 : Int64} (h :
    (if y0 < (Int64.ofInt 0) then
     (if y2 < (Int64.ofInt 0) then
      Wp 26 15 [(4, .long (-y0)), (6, .long (-y2)), (8, .int (Int32.ofInt 0))] [] (gE Lx) I L e Q
     else
      Wp 26 15 [(4, .long (-y0)), (6, .long y2), (8, .int (Int32.ofInt 0))] [] (gE Lx) I L e Q)
    else
     (if y2 < (Int64.ofInt 0) then
      Wp 26 15 [(4, .long y0), (6, .long (-y2)), (8, .int (Int32.ofInt 0))] [] (gE Lx) I L e Q
     else
      Wp 26 15 [(4, .long y0), (6, .long y2), (8, .int (Int32.ofInt 0))] [] (gE Lx) I L e Q))) :
    Wp 26 0 [(0, .long y0), (2, .long y2)] [] (gE Lx) I L e Q := by
  refine w_a f_26_0 ?_
  refine w_a f_26_1 ?_
  refine w_a (ls := [(0, .long y0)]) f_415_0 ?_
  refine w_a f_415_1 ?_
  refine w_a f_415_2 ?_
  refine i_m (fun h => ?_) (fun h => ?_) h
  · refine w_a f_415_6 ?_
    refine w_a f_415_7 ?_
    refine w_a f_415_8 ?_
    refine w_a f_415_12 ?_
    refine w_a (ls := [(0, .long y0), (2, .long y2)]) f_26_4 ?_
    refine w_a (ls := [(4, .long (-y0)), (0, .long y0), (2, .long y2)]) f_26_6 ?_
    refine w_a f_26_7 ?_
    refine w_a (ls := [(0, .long y2)]) f_415_0 ?_
    refine w_a f_415_1 ?_
    refine w_a f_415_2 ?_
    refine i_m (fun h => ?_) (fun h => ?_) h
    · refine w_a f_415_6 ?_
      refine w_a f_415_7 ?_
      refine w_a f_415_8 ?_
      refine w_a f_415_12 ?_
      refine w_a (ls := [(4, .long (-y0)), (0, .long y0), (2, .long y2)]) f_26_10 ?_
      refine w_a (ls := [(6, .long (-y2)), (4, .long (-y0)), (0, .long y0), (2, .long y2)]) f_26_12 ?_
      refine w_a f_26_13 ?_
      exact w_n (ks := [4, 6, 8]) rfl h
    · refine w_a f_415_11 ?_
      refine w_a f_415_12 ?_
      refine w_a (ls := [(4, .long (-y0)), (0, .long y0), (2, .long y2)]) f_26_10 ?_
      refine w_a (ls := [(6, .long y2), (4, .long (-y0)), (0, .long y0), (2, .long y2)]) f_26_12 ?_
      refine w_a f_26_13 ?_
      exact w_n (ks := [4, 6, 8]) rfl h
  · refine w_a f_415_11 ?_
    refine w_a f_415_12 ?_
    refine w_a (ls := [(0, .long y0), (2, .long y2)]) f_26_4 ?_
    refine w_a (ls := [(4, .long y0), (0, .long y0), (2, .long y2)]) f_26_6 ?_
    refine w_a f_26_7 ?_
    refine w_a (ls := [(0, .long y2)]) f_415_0 ?_
    refine w_a f_415_1 ?_
    refine w_a f_415_2 ?_
    refine i_m (fun h => ?_) (fun h => ?_) h
    · refine w_a f_415_6 ?_
      refine w_a f_415_7 ?_
      refine w_a f_415_8 ?_
      refine w_a f_415_12 ?_
      refine w_a (ls := [(4, .long y0), (0, .long y0), (2, .long y2)]) f_26_10 ?_
      refine w_a (ls := [(6, .long (-y2)), (4, .long y0), (0, .long y0), (2, .long y2)]) f_26_12 ?_
      refine w_a f_26_13 ?_
      exact w_n (ks := [4, 6, 8]) rfl h
    · refine w_a f_415_11 ?_
      refine w_a f_415_12 ?_
      refine w_a (ls := [(4, .long y0), (0, .long y0), (2, .long y2)]) f_26_10 ?_
      refine w_a (ls := [(6, .long y2), (4, .long y0), (0, .long y0), (2, .long y2)]) f_26_12 ?_
      refine w_a f_26_13 ?_
      exact w_n (ks := [4, 6, 8]) rfl h
set_option maxRecDepth 10000 in
set_option maxHeartbeats 4000000 in
theorem s_26_15 {Lx : Nat} {I : Mi} {L : Ml} {e : Nat} {Q : Kq} {y4 : Int64} {y6 : Int64} {x8 : Int32} (h :
    (if x8 < (Int32.ofInt 100) then
     (if y6 = (Int64.ofInt 0) then
      Q (.inl (some (.long y4))) (gE Lx) I L e
     else
      (if y6 = 0 then False else
       Wp 26 15 [(4, .long y6), (6, .long (y4 - y4 / y6 * y6)), (8, .int (x8 + Int32.ofInt 1))] [] (gE Lx) I L e Q))
    else
     Q (.inl (some (.long y4))) (gE Lx) I L e)) :
    Wp 26 15 [(4, .long y4), (6, .long y6), (8, .int x8)] [] (gE Lx) I L e Q := by
  refine w_a f_26_15 ?_
  refine w_a f_26_17 ?_
  refine w_a f_26_19 ?_
  refine i_m (fun h => ?_) (fun h => ?_) h
  · refine w_a f_26_22 ?_
    refine w_a f_26_24 ?_
    refine w_a f_26_25 ?_
    refine i_m (fun h => ?_) (fun h => ?_) h
    · refine w_a f_26_50 ?_
      refine w_a f_26_52 ?_
      exact h
    · refine w_a f_26_29 ?_
      refine w_a f_26_31 ?_
      refine w_a f_26_33 ?_
      refine i_m id (fun h => ?_) h
      refine w_a f_26_34 ?_
      refine w_a (ls := [(9, .long (y4 - y4 / y6 * y6)), (4, .long y4), (6, .long y6), (8, .int x8)]) f_26_36 ?_
      refine w_a f_26_38 ?_
      refine w_a (ls := [(4, .long y6), (9, .long (y4 - y4 / y6 * y6)), (6, .long y6), (8, .int x8)]) f_26_40 ?_
      refine w_a f_26_42 ?_
      refine w_a (ls := [(6, .long (y4 - y4 / y6 * y6)), (4, .long y6), (9, .long (y4 - y4 / y6 * y6)), (8, .int x8)]) f_26_44 ?_
      refine w_a (ls := [(8, .int (x8 + Int32.ofInt 1)), (6, .long (y4 - y4 / y6 * y6)), (4, .long y6), (9, .long (y4 - y4 / y6 * y6))]) f_26_47 ?_
      exact w_n (ks := [4, 6, 8]) rfl h
  · refine w_a f_26_50 ?_
    refine w_a f_26_52 ?_
    exact h
set_option maxRecDepth 10000 in
set_option maxHeartbeats 4000000 in
theorem s_27_30_18 {Lx : Nat} {I : Mi} {L : Ml} {e : Nat} {Q : Kq} (h :
    Q (.inl none) (gE Lx) I L e) :
    Wp 27 30 [(0, .ref 18)] [] (gE Lx) I L e Q := by
  refine w_a f_27_30 ?_
  exact h
set_option maxRecDepth 10000 in
set_option maxHeartbeats 4000000 in
theorem s_27_30_23 {Lx : Nat} {I : Mi} {L : Ml} {e : Nat} {Q : Kq} (h :
    Q (.inl none) (gE Lx) I L e) :
    Wp 27 30 [(0, .ref 23)] [] (gE Lx) I L e Q := by
  refine w_a f_27_30 ?_
  exact h
set_option maxRecDepth 10000 in
set_option maxHeartbeats 4000000 in
theorem s_28_0 {Lx : Nat} {I : Mi} {L : Ml} {e : Nat} {Q : Kq} {y0 : Int64} {y2 : Int64} {y4 : Int64} {y6 : Int64} (h :
    (if y2 = (Int64.ofInt 0) then
     (if y6 = (Int64.ofInt 0) then
      Q (.inl (some (.int (Int32.ofInt 0)))) (gE Lx) I L e
     else
      (if y4 < (Int64.ofInt 0) then
       Q (.inl (some (.int (Int32.ofInt (-1))))) (gE Lx) I L e
      else
       Q (.inl (some (.int (Int32.ofInt 1)))) (gE Lx) I L e))
    else
     (if y0 < (Int64.ofInt 0) then
      (if y6 = (Int64.ofInt 0) then
       Q (.inl (some (.int (Int32.ofInt 1)))) (gE Lx) I L e
      else
       (if y4 < (Int64.ofInt 0) then
        (if (y0 * y6) < (y4 * y2) then
         Q (.inl (some (.int (Int32.ofInt (-1))))) (gE Lx) I L e
        else
         (if (y0 * y6) = (y4 * y2) then
          Q (.inl (some (.int (Int32.ofInt 0)))) (gE Lx) I L e
         else
          Q (.inl (some (.int (Int32.ofInt 1)))) (gE Lx) I L e))
       else
        Q (.inl (some (.int (Int32.ofInt 1)))) (gE Lx) I L e))
     else
      (if y6 = (Int64.ofInt 0) then
       Q (.inl (some (.int (Int32.ofInt (-1))))) (gE Lx) I L e
      else
       (if y4 < (Int64.ofInt 0) then
        Q (.inl (some (.int (Int32.ofInt (-1))))) (gE Lx) I L e
       else
        (if (y0 * y6) < (y4 * y2) then
         Q (.inl (some (.int (Int32.ofInt (-1))))) (gE Lx) I L e
        else
         (if (y0 * y6) = (y4 * y2) then
          Q (.inl (some (.int (Int32.ofInt 0)))) (gE Lx) I L e
         else
          Q (.inl (some (.int (Int32.ofInt 1)))) (gE Lx) I L e))))))) :
    Wp 28 0 [(0, .long y0), (2, .long y2), (4, .long y4), (6, .long y6)] [] (gE Lx) I L e Q := by
  refine w_a f_28_0 ?_
  refine w_a f_28_1 ?_
  refine w_a f_28_2 ?_
  refine w_a (ls := [(0, .long y0), (2, .long y2)]) f_29_0 ?_
  refine w_a f_29_1 ?_
  refine w_a f_29_2 ?_
  refine i_m (fun h => ?_) (fun h => ?_) h
  · refine w_a f_29_6 ?_
    refine w_a f_29_7 ?_
    refine w_a (ls := [(0, .long y0), (2, .long y2), (4, .long y4), (6, .long y6)]) f_28_5 ?_
    refine w_a (ls := [(8, .int (Int32.ofInt 1)), (0, .long y0), (2, .long y2), (4, .long y4), (6, .long y6)]) f_28_7 ?_
    refine w_a f_28_9 ?_
    refine w_a f_28_11 ?_
    refine w_a (ls := [(0, .long y4), (2, .long y6)]) f_29_0 ?_
    refine w_a f_29_1 ?_
    refine w_a f_29_2 ?_
    refine i_m (fun h => ?_) (fun h => ?_) h
    · refine w_a f_29_6 ?_
      refine w_a f_29_7 ?_
      refine w_a (ls := [(8, .int (Int32.ofInt 1)), (0, .long y0), (2, .long y2), (4, .long y4), (6, .long y6)]) f_28_14 ?_
      refine w_a (ls := [(9, .int (Int32.ofInt 1)), (8, .int (Int32.ofInt 1)), (0, .long y0), (2, .long y2), (4, .long y4), (6, .long y6)]) f_28_16 ?_
      refine w_a f_28_18 ?_
      refine w_a f_28_20 ?_
      refine w_a f_28_36 ?_
      refine w_a f_28_38 ?_
      refine w_a f_28_39 ?_
      refine w_a f_28_42 ?_
      refine w_a f_28_43 ?_
      refine w_a f_28_57 ?_
      exact h
    · refine w_a f_29_8 ?_
      refine w_a f_29_9 ?_
      refine w_a f_29_10 ?_
      refine i_m (fun h => ?_) (fun h => ?_) h
      · refine w_a f_29_18 ?_
        refine w_a f_29_19 ?_
        refine w_a (ls := [(8, .int (Int32.ofInt 1)), (0, .long y0), (2, .long y2), (4, .long y4), (6, .long y6)]) f_28_14 ?_
        refine w_a (ls := [(9, .int (Int32.ofInt 2)), (8, .int (Int32.ofInt 1)), (0, .long y0), (2, .long y2), (4, .long y4), (6, .long y6)]) f_28_16 ?_
        refine w_a f_28_18 ?_
        refine w_a f_28_20 ?_
        refine w_a f_28_23 ?_
        refine w_a f_28_25 ?_
        refine w_a f_28_27 ?_
        refine w_a f_28_30 ?_
        refine w_a f_28_31 ?_
        refine w_a f_28_35 ?_
        exact h
      · refine w_a f_29_14 ?_
        refine w_a f_29_15 ?_
        refine w_a f_29_19 ?_
        refine w_a (ls := [(8, .int (Int32.ofInt 1)), (0, .long y0), (2, .long y2), (4, .long y4), (6, .long y6)]) f_28_14 ?_
        refine w_a (ls := [(9, .int (Int32.ofInt 0)), (8, .int (Int32.ofInt 1)), (0, .long y0), (2, .long y2), (4, .long y4), (6, .long y6)]) f_28_16 ?_
        refine w_a f_28_18 ?_
        refine w_a f_28_20 ?_
        refine w_a f_28_23 ?_
        refine w_a f_28_25 ?_
        refine w_a f_28_27 ?_
        refine w_a f_28_34 ?_
        refine w_a f_28_35 ?_
        exact h
  · refine w_a f_29_8 ?_
    refine w_a f_29_9 ?_
    refine w_a f_29_10 ?_
    refine i_m (fun h => ?_) (fun h => ?_) h
    · refine w_a f_29_18 ?_
      refine w_a f_29_19 ?_
      refine w_a (ls := [(0, .long y0), (2, .long y2), (4, .long y4), (6, .long y6)]) f_28_5 ?_
      refine w_a (ls := [(8, .int (Int32.ofInt 2)), (0, .long y0), (2, .long y2), (4, .long y4), (6, .long y6)]) f_28_7 ?_
      refine w_a f_28_9 ?_
      refine w_a f_28_11 ?_
      refine w_a (ls := [(0, .long y4), (2, .long y6)]) f_29_0 ?_
      refine w_a f_29_1 ?_
      refine w_a f_29_2 ?_
      refine i_m (fun h => ?_) (fun h => ?_) h
      · refine w_a f_29_6 ?_
        refine w_a f_29_7 ?_
        refine w_a (ls := [(8, .int (Int32.ofInt 2)), (0, .long y0), (2, .long y2), (4, .long y4), (6, .long y6)]) f_28_14 ?_
        refine w_a (ls := [(9, .int (Int32.ofInt 1)), (8, .int (Int32.ofInt 2)), (0, .long y0), (2, .long y2), (4, .long y4), (6, .long y6)]) f_28_16 ?_
        refine w_a f_28_18 ?_
        refine w_a f_28_20 ?_
        refine w_a f_28_23 ?_
        refine w_a f_28_25 ?_
        refine w_a f_28_27 ?_
        refine w_a f_28_34 ?_
        refine w_a f_28_35 ?_
        exact h
      · refine w_a f_29_8 ?_
        refine w_a f_29_9 ?_
        refine w_a f_29_10 ?_
        refine i_m (fun h => ?_) (fun h => ?_) h
        · refine w_a f_29_18 ?_
          refine w_a f_29_19 ?_
          refine w_a (ls := [(8, .int (Int32.ofInt 2)), (0, .long y0), (2, .long y2), (4, .long y4), (6, .long y6)]) f_28_14 ?_
          refine w_a (ls := [(9, .int (Int32.ofInt 2)), (8, .int (Int32.ofInt 2)), (0, .long y0), (2, .long y2), (4, .long y4), (6, .long y6)]) f_28_16 ?_
          refine w_a f_28_18 ?_
          refine w_a f_28_20 ?_
          refine w_a f_28_36 ?_
          refine w_a f_28_38 ?_
          refine w_a f_28_39 ?_
          refine w_a f_28_46 ?_
          refine w_a f_28_47 ?_
          refine w_a f_28_49 ?_
          refine w_a f_28_50 ?_
          refine w_a f_28_52 ?_
          refine w_a f_28_53 ?_
          refine w_a f_28_54 ?_
          refine w_a (ls := [(0, .long (y0 * y6)), (2, .long (y4 * y2))]) f_418_0 ?_
          refine w_a f_418_1 ?_
          refine w_a f_418_2 ?_
          refine i_m (fun h => ?_) (fun h => ?_) h
          · refine w_a f_418_6 ?_
            refine w_a f_418_7 ?_
            refine w_a f_418_21 ?_
            refine w_a (ls := [(9, .int (Int32.ofInt 2)), (8, .int (Int32.ofInt 2)), (0, .long y0), (2, .long y2), (4, .long y4), (6, .long y6)]) f_28_57 ?_
            exact h
          · refine w_a f_418_10 ?_
            refine w_a f_418_11 ?_
            refine w_a f_418_12 ?_
            refine i_m (fun h => ?_) (fun h => ?_) h
            · refine w_a f_418_16 ?_
              refine w_a f_418_17 ?_
              refine w_a f_418_21 ?_
              refine w_a (ls := [(9, .int (Int32.ofInt 2)), (8, .int (Int32.ofInt 2)), (0, .long y0), (2, .long y2), (4, .long y4), (6, .long y6)]) f_28_57 ?_
              exact h
            · refine w_a f_418_20 ?_
              refine w_a f_418_21 ?_
              refine w_a (ls := [(9, .int (Int32.ofInt 2)), (8, .int (Int32.ofInt 2)), (0, .long y0), (2, .long y2), (4, .long y4), (6, .long y6)]) f_28_57 ?_
              exact h
        · refine w_a f_29_14 ?_
          refine w_a f_29_15 ?_
          refine w_a f_29_19 ?_
          refine w_a (ls := [(8, .int (Int32.ofInt 2)), (0, .long y0), (2, .long y2), (4, .long y4), (6, .long y6)]) f_28_14 ?_
          refine w_a (ls := [(9, .int (Int32.ofInt 0)), (8, .int (Int32.ofInt 2)), (0, .long y0), (2, .long y2), (4, .long y4), (6, .long y6)]) f_28_16 ?_
          refine w_a f_28_18 ?_
          refine w_a f_28_20 ?_
          refine w_a f_28_23 ?_
          refine w_a f_28_25 ?_
          refine w_a f_28_27 ?_
          refine w_a f_28_34 ?_
          refine w_a f_28_35 ?_
          exact h
    · refine w_a f_29_14 ?_
      refine w_a f_29_15 ?_
      refine w_a f_29_19 ?_
      refine w_a (ls := [(0, .long y0), (2, .long y2), (4, .long y4), (6, .long y6)]) f_28_5 ?_
      refine w_a (ls := [(8, .int (Int32.ofInt 0)), (0, .long y0), (2, .long y2), (4, .long y4), (6, .long y6)]) f_28_7 ?_
      refine w_a f_28_9 ?_
      refine w_a f_28_11 ?_
      refine w_a (ls := [(0, .long y4), (2, .long y6)]) f_29_0 ?_
      refine w_a f_29_1 ?_
      refine w_a f_29_2 ?_
      refine i_m (fun h => ?_) (fun h => ?_) h
      · refine w_a f_29_6 ?_
        refine w_a f_29_7 ?_
        refine w_a (ls := [(8, .int (Int32.ofInt 0)), (0, .long y0), (2, .long y2), (4, .long y4), (6, .long y6)]) f_28_14 ?_
        refine w_a (ls := [(9, .int (Int32.ofInt 1)), (8, .int (Int32.ofInt 0)), (0, .long y0), (2, .long y2), (4, .long y4), (6, .long y6)]) f_28_16 ?_
        refine w_a f_28_18 ?_
        refine w_a f_28_20 ?_
        refine w_a f_28_23 ?_
        refine w_a f_28_25 ?_
        refine w_a f_28_27 ?_
        refine w_a f_28_30 ?_
        refine w_a f_28_31 ?_
        refine w_a f_28_35 ?_
        exact h
      · refine w_a f_29_8 ?_
        refine w_a f_29_9 ?_
        refine w_a f_29_10 ?_
        refine i_m (fun h => ?_) (fun h => ?_) h
        · refine w_a f_29_18 ?_
          refine w_a f_29_19 ?_
          refine w_a (ls := [(8, .int (Int32.ofInt 0)), (0, .long y0), (2, .long y2), (4, .long y4), (6, .long y6)]) f_28_14 ?_
          refine w_a (ls := [(9, .int (Int32.ofInt 2)), (8, .int (Int32.ofInt 0)), (0, .long y0), (2, .long y2), (4, .long y4), (6, .long y6)]) f_28_16 ?_
          refine w_a f_28_18 ?_
          refine w_a f_28_20 ?_
          refine w_a f_28_23 ?_
          refine w_a f_28_25 ?_
          refine w_a f_28_27 ?_
          refine w_a f_28_30 ?_
          refine w_a f_28_31 ?_
          refine w_a f_28_35 ?_
          exact h
        · refine w_a f_29_14 ?_
          refine w_a f_29_15 ?_
          refine w_a f_29_19 ?_
          refine w_a (ls := [(8, .int (Int32.ofInt 0)), (0, .long y0), (2, .long y2), (4, .long y4), (6, .long y6)]) f_28_14 ?_
          refine w_a (ls := [(9, .int (Int32.ofInt 0)), (8, .int (Int32.ofInt 0)), (0, .long y0), (2, .long y2), (4, .long y4), (6, .long y6)]) f_28_16 ?_
          refine w_a f_28_18 ?_
          refine w_a f_28_20 ?_
          refine w_a f_28_36 ?_
          refine w_a f_28_38 ?_
          refine w_a f_28_39 ?_
          refine w_a f_28_46 ?_
          refine w_a f_28_47 ?_
          refine w_a f_28_49 ?_
          refine w_a f_28_50 ?_
          refine w_a f_28_52 ?_
          refine w_a f_28_53 ?_
          refine w_a f_28_54 ?_
          refine w_a (ls := [(0, .long (y0 * y6)), (2, .long (y4 * y2))]) f_418_0 ?_
          refine w_a f_418_1 ?_
          refine w_a f_418_2 ?_
          refine i_m (fun h => ?_) (fun h => ?_) h
          · refine w_a f_418_6 ?_
            refine w_a f_418_7 ?_
            refine w_a f_418_21 ?_
            refine w_a (ls := [(9, .int (Int32.ofInt 0)), (8, .int (Int32.ofInt 0)), (0, .long y0), (2, .long y2), (4, .long y4), (6, .long y6)]) f_28_57 ?_
            exact h
          · refine w_a f_418_10 ?_
            refine w_a f_418_11 ?_
            refine w_a f_418_12 ?_
            refine i_m (fun h => ?_) (fun h => ?_) h
            · refine w_a f_418_16 ?_
              refine w_a f_418_17 ?_
              refine w_a f_418_21 ?_
              refine w_a (ls := [(9, .int (Int32.ofInt 0)), (8, .int (Int32.ofInt 0)), (0, .long y0), (2, .long y2), (4, .long y4), (6, .long y6)]) f_28_57 ?_
              exact h
            · refine w_a f_418_20 ?_
              refine w_a f_418_21 ?_
              refine w_a (ls := [(9, .int (Int32.ofInt 0)), (8, .int (Int32.ofInt 0)), (0, .long y0), (2, .long y2), (4, .long y4), (6, .long y6)]) f_28_57 ?_
              exact h
set_option maxRecDepth 10000 in
set_option maxHeartbeats 4000000 in
theorem s_30_0 {Lx : Nat} {I : Mi} {L : Ml} {e : Nat} {Q : Kq} {y1 : Int64} {y3 : Int64} {x5 : Int32} (h :
    Wp 25 0 [(0, .ref 18), (1, .long y1), (3, .long y3)] [] (gE Lx) I L e (kcp (Wp 30) 30 3 0 [(0, .ref 18), (1, .long y1), (3, .long y3), (5, .int x5)] 71 [] Q)) :
    Wp 30 0 [(0, .ref 18), (1, .long y1), (3, .long y3), (5, .int x5)] [] (gE Lx) I L e Q := by
  refine w_a f_30_0 ?_
  refine w_a f_30_1 ?_
  refine w_a f_30_2 ?_
  exact w_c (ks := [0, 1, 3, 5]) f_30_3 rfl rfl h
set_option maxRecDepth 10000 in
set_option maxHeartbeats 4000000 in
theorem s_30_6 {Lx : Nat} {I : Mi} {L : Ml} {e : Nat} {Q : Kq} {y1 : Int64} {y3 : Int64} {x5 : Int32} (h :
    Wp 30 9 [(0, .ref 18), (1, .long y1), (3, .long y3), (5, .int x5), (6, .int (Int32.ofInt 1))] [] (gE Lx) I L e Q) :
    Wp 30 6 [(0, .ref 18), (1, .long y1), (3, .long y3), (5, .int x5)] [] (gE Lx) I L e Q := by
  refine w_a f_30_6 ?_
  refine w_a f_30_7 ?_
  exact w_n (ks := [0, 1, 3, 5, 6]) rfl h
set_option maxRecDepth 10000 in
set_option maxHeartbeats 4000000 in
theorem s_30_9 {Lx : Nat} {I : Mi} {L : Ml} {e : Nat} {Q : Kq} {y1 : Int64} {y3 : Int64} {x5 : Int32} {x6 : Int32} (h :
    (if x6 < x5 then
     Wp 25 0 [(0, .ref 18), (1, .long (((L 18 0) * y3) + ((L 18 1) * y1))), (3, .long (((L 18 1) * y3) - ((L 18 0) * y1)))] [] (gE Lx) I L e (kcp (Wp 27) 27 27 0 [(0, .ref 18)] 71 [] (kcp (Wp 30) 30 19 0 [(0, .ref 18), (1, .long y1), (3, .long y3), (5, .int x5), (6, .int x6)] 71 [] Q))
    else
     Q (.inl none) (gE Lx) I L e)) :
    Wp 30 9 [(0, .ref 18), (1, .long y1), (3, .long y3), (5, .int x5), (6, .int x6)] [] (gE Lx) I L e Q := by
  refine w_a f_30_9 ?_
  refine w_a f_30_11 ?_
  refine w_a f_30_13 ?_
  refine i_m (fun h => ?_) (fun h => ?_) h
  · refine w_a f_30_16 ?_
    refine w_a f_30_17 ?_
    refine w_a f_30_18 ?_
    refine w_c (ks := [0, 1, 3, 5, 6]) f_30_19 rfl rfl ?_
    refine w_a (ls := [(0, .ref 18), (1, .long y1), (3, .long y3)]) f_27_0 ?_
    refine w_a f_27_1 ?_
    refine w_a f_27_2 ?_
    refine w_a f_27_5 ?_
    refine w_a f_27_6 ?_
    refine w_a f_27_7 ?_
    refine w_a f_27_8 ?_
    refine w_a f_27_11 ?_
    refine w_a f_27_12 ?_
    refine w_a f_27_13 ?_
    refine w_a f_27_14 ?_
    refine w_a f_27_15 ?_
    refine w_a f_27_18 ?_
    refine w_a f_27_19 ?_
    refine w_a f_27_20 ?_
    refine w_a f_27_21 ?_
    refine w_a f_27_24 ?_
    refine w_a f_27_25 ?_
    refine w_a f_27_26 ?_
    exact w_c (ks := [0]) f_27_27 rfl rfl h
  · refine w_a f_30_28 ?_
    exact h
set_option maxRecDepth 10000 in
set_option maxHeartbeats 4000000 in
theorem s_30_22 {Lx : Nat} {I : Mi} {L : Ml} {e : Nat} {Q : Kq} {y1 : Int64} {y3 : Int64} {x5 : Int32} {x6 : Int32} (h :
    Wp 30 9 [(0, .ref 18), (1, .long y1), (3, .long y3), (5, .int x5), (6, .int (x6 + Int32.ofInt 1))] [] (gE Lx) I L e Q) :
    Wp 30 22 [(0, .ref 18), (1, .long y1), (3, .long y3), (5, .int x5), (6, .int x6)] [] (gE Lx) I L e Q := by
  refine w_a f_30_22 ?_
  refine w_a (ls := [(6, .int (x6 + Int32.ofInt 1)), (0, .ref 18), (1, .long y1), (3, .long y3), (5, .int x5)]) f_30_25 ?_
  exact w_n (ks := [0, 1, 3, 5, 6]) rfl h
set_option maxRecDepth 10000 in
set_option maxHeartbeats 4000000 in
theorem s_32_0 {Lx : Nat} {I : Mi} {L : Ml} {e : Nat} {Q : Kq} {y0 : Int64} (h :
    Wp 32 6 [(0, .long y0), (2, .long (Int64.ofInt 0)), (4, .int (Int32.ofInt 30))] [] (gE Lx) I L e Q) :
    Wp 32 0 [(0, .long y0)] [] (gE Lx) I L e Q := by
  refine w_a f_32_0 ?_
  refine w_a f_32_1 ?_
  refine w_a (ls := [(2, .long (Int64.ofInt 0)), (0, .long y0)]) f_32_2 ?_
  refine w_a f_32_4 ?_
  exact w_n (ks := [0, 2, 4]) rfl h
set_option maxRecDepth 10000 in
set_option maxHeartbeats 4000000 in
theorem s_32_6 {Lx : Nat} {I : Mi} {L : Ml} {e : Nat} {Q : Kq} {y0 : Int64} {y2 : Int64} {x4 : Int32} (h :
    (if x4 < 0 then
     Q (.inl (some (.long y2))) (gE Lx) I L e
    else
     (if y0 < ((y2 + ((Int64.ofInt 1) <<< (x4.toInt64 &&& 63))) * (y2 + ((Int64.ofInt 1) <<< (x4.toInt64 &&& 63)))) then
      Wp 32 6 [(0, .long y0), (2, .long y2), (4, .int (x4 + Int32.ofInt (-1)))] [] (gE Lx) I L e Q
     else
      Wp 32 6 [(0, .long y0), (2, .long (y2 + ((Int64.ofInt 1) <<< (x4.toInt64 &&& 63)))), (4, .int (x4 + Int32.ofInt (-1)))] [] (gE Lx) I L e Q))) :
    Wp 32 6 [(0, .long y0), (2, .long y2), (4, .int x4)] [] (gE Lx) I L e Q := by
  refine w_a f_32_6 ?_
  refine w_a f_32_8 ?_
  refine i_m (fun h => ?_) (fun h => ?_) h
  · refine w_a f_32_38 ?_
    refine w_a f_32_39 ?_
    exact h
  · refine w_a f_32_11 ?_
    refine w_a f_32_12 ?_
    refine w_a f_32_13 ?_
    refine w_a f_32_15 ?_
    refine w_a f_32_16 ?_
    refine w_a f_32_17 ?_
    refine w_a (ls := [(5, .long (y2 + ((Int64.ofInt 1) <<< (x4.toInt64 &&& 63)))), (0, .long y0), (2, .long y2), (4, .int x4)]) f_32_19 ?_
    refine w_a f_32_21 ?_
    refine w_a f_32_23 ?_
    refine w_a f_32_24 ?_
    refine w_a f_32_25 ?_
    refine i_m (fun h => ?_) (fun h => ?_) h
    · refine w_a f_32_32 ?_
      refine w_a (ls := [(4, .int (x4 + Int32.ofInt (-1))), (5, .long (y2 + ((Int64.ofInt 1) <<< (x4.toInt64 &&& 63)))), (0, .long y0), (2, .long y2)]) f_32_35 ?_
      exact w_n (ks := [0, 2, 4]) rfl h
    · refine w_a f_32_29 ?_
      refine w_a f_32_31 ?_
      refine w_a (ls := [(2, .long (y2 + ((Int64.ofInt 1) <<< (x4.toInt64 &&& 63)))), (5, .long (y2 + ((Int64.ofInt 1) <<< (x4.toInt64 &&& 63)))), (0, .long y0), (4, .int x4)]) f_32_32 ?_
      refine w_a (ls := [(4, .int (x4 + Int32.ofInt (-1))), (2, .long (y2 + ((Int64.ofInt 1) <<< (x4.toInt64 &&& 63)))), (5, .long (y2 + ((Int64.ofInt 1) <<< (x4.toInt64 &&& 63)))), (0, .long y0)]) f_32_35 ?_
      exact w_n (ks := [0, 2, 4]) rfl h
set_option maxRecDepth 10000 in
set_option maxHeartbeats 4000000 in
theorem s_34_0 {Lx : Nat} {I : Mi} {L : Ml} {e : Nat} {Q : Kq} {x2 : Int32} {x3 : Int32} {x4 : Int32} (h :
    (if x2 = 0 then
     (if x2 = 0 then
      (if x2 = 0 then
       (if (((L 17 0) * (L 17 2)) * (((((L 17 0) * (L 17 0)) + ((L 17 1) * (L 17 1))) * ((x3.toInt64 * x3.toInt64) + (x4.toInt64 * x4.toInt64))) - ((((L 17 0) * (L 17 2)) * x3.toInt64) * x3.toInt64))) < (Int64.ofInt 0) then
        Wp 34 144 [(0, .ref 20), (1, .ref 17), (5, .long (((L 17 0) * (L 17 2)) * (((((L 17 0) * (L 17 0)) + ((L 17 1) * (L 17 1))) * ((x3.toInt64 * x3.toInt64) + (x4.toInt64 * x4.toInt64))) - ((((L 17 0) * (L 17 2)) * x3.toInt64) * x3.toInt64))))] [.long (Int64.ofInt 0), .ref 20] (gE Lx) I (ul (ul (ul (ul (ul L 20 6 x3.toInt64) 20 7 x4.toInt64) 20 2 ((L 17 0) * (L 17 2))) 20 3 (((L 17 0) * (L 17 0)) + ((L 17 1) * (L 17 1)))) 20 4 ((-(L 17 1)) * (L 17 2))) e Q
       else
        Wp 32 0 [(0, .long (((L 17 0) * (L 17 2)) * (((((L 17 0) * (L 17 0)) + ((L 17 1) * (L 17 1))) * ((x3.toInt64 * x3.toInt64) + (x4.toInt64 * x4.toInt64))) - ((((L 17 0) * (L 17 2)) * x3.toInt64) * x3.toInt64))))] [] (gE Lx) I (ul (ul (ul (ul (ul L 20 6 x3.toInt64) 20 7 x4.toInt64) 20 2 ((L 17 0) * (L 17 2))) 20 3 (((L 17 0) * (L 17 0)) + ((L 17 1) * (L 17 1)))) 20 4 ((-(L 17 1)) * (L 17 2))) e (kcp (Wp 34) 34 141 0 [(0, .ref 20), (1, .ref 17), (5, .long (((L 17 0) * (L 17 2)) * (((((L 17 0) * (L 17 0)) + ((L 17 1) * (L 17 1))) * ((x3.toInt64 * x3.toInt64) + (x4.toInt64 * x4.toInt64))) - ((((L 17 0) * (L 17 2)) * x3.toInt64) * x3.toInt64))))] 71 [.ref 20] Q))
      else
       (if (((L 17 0) * (L 17 2)) * (((((L 17 0) * (L 17 0)) + ((L 17 1) * (L 17 1))) * ((x3.toInt64 * x3.toInt64) + (x4.toInt64 * x4.toInt64))) - ((((L 17 0) * (L 17 2)) * x3.toInt64) * x3.toInt64))) < (Int64.ofInt 0) then
        Wp 34 144 [(0, .ref 20), (1, .ref 17), (5, .long (((L 17 0) * (L 17 2)) * (((((L 17 0) * (L 17 0)) + ((L 17 1) * (L 17 1))) * ((x3.toInt64 * x3.toInt64) + (x4.toInt64 * x4.toInt64))) - ((((L 17 0) * (L 17 2)) * x3.toInt64) * x3.toInt64))))] [.long (Int64.ofInt 0), .ref 20] (gE Lx) I (ul (ul (ul (ul (ul L 20 6 x3.toInt64) 20 7 x4.toInt64) 20 2 ((L 17 0) * (L 17 2))) 20 3 (((L 17 0) * (L 17 0)) + ((L 17 1) * (L 17 1)))) 20 4 (L 17 1)) e Q
       else
        Wp 32 0 [(0, .long (((L 17 0) * (L 17 2)) * (((((L 17 0) * (L 17 0)) + ((L 17 1) * (L 17 1))) * ((x3.toInt64 * x3.toInt64) + (x4.toInt64 * x4.toInt64))) - ((((L 17 0) * (L 17 2)) * x3.toInt64) * x3.toInt64))))] [] (gE Lx) I (ul (ul (ul (ul (ul L 20 6 x3.toInt64) 20 7 x4.toInt64) 20 2 ((L 17 0) * (L 17 2))) 20 3 (((L 17 0) * (L 17 0)) + ((L 17 1) * (L 17 1)))) 20 4 (L 17 1)) e (kcp (Wp 34) 34 141 0 [(0, .ref 20), (1, .ref 17), (5, .long (((L 17 0) * (L 17 2)) * (((((L 17 0) * (L 17 0)) + ((L 17 1) * (L 17 1))) * ((x3.toInt64 * x3.toInt64) + (x4.toInt64 * x4.toInt64))) - ((((L 17 0) * (L 17 2)) * x3.toInt64) * x3.toInt64))))] 71 [.ref 20] Q)))
     else
      (if x2 = 0 then
       (if (((L 17 0) * (L 17 2)) * (((L 17 2) * ((x3.toInt64 * x3.toInt64) + (x4.toInt64 * x4.toInt64))) - ((((L 17 0) * (L 17 2)) * x3.toInt64) * x3.toInt64))) < (Int64.ofInt 0) then
        Wp 34 144 [(0, .ref 20), (1, .ref 17), (5, .long (((L 17 0) * (L 17 2)) * (((L 17 2) * ((x3.toInt64 * x3.toInt64) + (x4.toInt64 * x4.toInt64))) - ((((L 17 0) * (L 17 2)) * x3.toInt64) * x3.toInt64))))] [.long (Int64.ofInt 0), .ref 20] (gE Lx) I (ul (ul (ul (ul (ul L 20 6 x3.toInt64) 20 7 x4.toInt64) 20 2 ((L 17 0) * (L 17 2))) 20 3 (L 17 2)) 20 4 ((-(L 17 1)) * (L 17 2))) e Q
       else
        Wp 32 0 [(0, .long (((L 17 0) * (L 17 2)) * (((L 17 2) * ((x3.toInt64 * x3.toInt64) + (x4.toInt64 * x4.toInt64))) - ((((L 17 0) * (L 17 2)) * x3.toInt64) * x3.toInt64))))] [] (gE Lx) I (ul (ul (ul (ul (ul L 20 6 x3.toInt64) 20 7 x4.toInt64) 20 2 ((L 17 0) * (L 17 2))) 20 3 (L 17 2)) 20 4 ((-(L 17 1)) * (L 17 2))) e (kcp (Wp 34) 34 141 0 [(0, .ref 20), (1, .ref 17), (5, .long (((L 17 0) * (L 17 2)) * (((L 17 2) * ((x3.toInt64 * x3.toInt64) + (x4.toInt64 * x4.toInt64))) - ((((L 17 0) * (L 17 2)) * x3.toInt64) * x3.toInt64))))] 71 [.ref 20] Q))
      else
       (if (((L 17 0) * (L 17 2)) * (((L 17 2) * ((x3.toInt64 * x3.toInt64) + (x4.toInt64 * x4.toInt64))) - ((((L 17 0) * (L 17 2)) * x3.toInt64) * x3.toInt64))) < (Int64.ofInt 0) then
        Wp 34 144 [(0, .ref 20), (1, .ref 17), (5, .long (((L 17 0) * (L 17 2)) * (((L 17 2) * ((x3.toInt64 * x3.toInt64) + (x4.toInt64 * x4.toInt64))) - ((((L 17 0) * (L 17 2)) * x3.toInt64) * x3.toInt64))))] [.long (Int64.ofInt 0), .ref 20] (gE Lx) I (ul (ul (ul (ul (ul L 20 6 x3.toInt64) 20 7 x4.toInt64) 20 2 ((L 17 0) * (L 17 2))) 20 3 (L 17 2)) 20 4 (L 17 1)) e Q
       else
        Wp 32 0 [(0, .long (((L 17 0) * (L 17 2)) * (((L 17 2) * ((x3.toInt64 * x3.toInt64) + (x4.toInt64 * x4.toInt64))) - ((((L 17 0) * (L 17 2)) * x3.toInt64) * x3.toInt64))))] [] (gE Lx) I (ul (ul (ul (ul (ul L 20 6 x3.toInt64) 20 7 x4.toInt64) 20 2 ((L 17 0) * (L 17 2))) 20 3 (L 17 2)) 20 4 (L 17 1)) e (kcp (Wp 34) 34 141 0 [(0, .ref 20), (1, .ref 17), (5, .long (((L 17 0) * (L 17 2)) * (((L 17 2) * ((x3.toInt64 * x3.toInt64) + (x4.toInt64 * x4.toInt64))) - ((((L 17 0) * (L 17 2)) * x3.toInt64) * x3.toInt64))))] 71 [.ref 20] Q))))
    else
     (if x2 = 0 then
      (if x2 = 0 then
       (if ((L 17 0) * (((((L 17 0) * (L 17 0)) + ((L 17 1) * (L 17 1))) * ((x3.toInt64 * x3.toInt64) + (x4.toInt64 * x4.toInt64))) - (((L 17 0) * x3.toInt64) * x3.toInt64))) < (Int64.ofInt 0) then
        Wp 34 144 [(0, .ref 20), (1, .ref 17), (5, .long ((L 17 0) * (((((L 17 0) * (L 17 0)) + ((L 17 1) * (L 17 1))) * ((x3.toInt64 * x3.toInt64) + (x4.toInt64 * x4.toInt64))) - (((L 17 0) * x3.toInt64) * x3.toInt64))))] [.long (Int64.ofInt 0), .ref 20] (gE Lx) I (ul (ul (ul (ul (ul L 20 6 x3.toInt64) 20 7 x4.toInt64) 20 2 (L 17 0)) 20 3 (((L 17 0) * (L 17 0)) + ((L 17 1) * (L 17 1)))) 20 4 ((-(L 17 1)) * (L 17 2))) e Q
       else
        Wp 32 0 [(0, .long ((L 17 0) * (((((L 17 0) * (L 17 0)) + ((L 17 1) * (L 17 1))) * ((x3.toInt64 * x3.toInt64) + (x4.toInt64 * x4.toInt64))) - (((L 17 0) * x3.toInt64) * x3.toInt64))))] [] (gE Lx) I (ul (ul (ul (ul (ul L 20 6 x3.toInt64) 20 7 x4.toInt64) 20 2 (L 17 0)) 20 3 (((L 17 0) * (L 17 0)) + ((L 17 1) * (L 17 1)))) 20 4 ((-(L 17 1)) * (L 17 2))) e (kcp (Wp 34) 34 141 0 [(0, .ref 20), (1, .ref 17), (5, .long ((L 17 0) * (((((L 17 0) * (L 17 0)) + ((L 17 1) * (L 17 1))) * ((x3.toInt64 * x3.toInt64) + (x4.toInt64 * x4.toInt64))) - (((L 17 0) * x3.toInt64) * x3.toInt64))))] 71 [.ref 20] Q))
      else
       (if ((L 17 0) * (((((L 17 0) * (L 17 0)) + ((L 17 1) * (L 17 1))) * ((x3.toInt64 * x3.toInt64) + (x4.toInt64 * x4.toInt64))) - (((L 17 0) * x3.toInt64) * x3.toInt64))) < (Int64.ofInt 0) then
        Wp 34 144 [(0, .ref 20), (1, .ref 17), (5, .long ((L 17 0) * (((((L 17 0) * (L 17 0)) + ((L 17 1) * (L 17 1))) * ((x3.toInt64 * x3.toInt64) + (x4.toInt64 * x4.toInt64))) - (((L 17 0) * x3.toInt64) * x3.toInt64))))] [.long (Int64.ofInt 0), .ref 20] (gE Lx) I (ul (ul (ul (ul (ul L 20 6 x3.toInt64) 20 7 x4.toInt64) 20 2 (L 17 0)) 20 3 (((L 17 0) * (L 17 0)) + ((L 17 1) * (L 17 1)))) 20 4 (L 17 1)) e Q
       else
        Wp 32 0 [(0, .long ((L 17 0) * (((((L 17 0) * (L 17 0)) + ((L 17 1) * (L 17 1))) * ((x3.toInt64 * x3.toInt64) + (x4.toInt64 * x4.toInt64))) - (((L 17 0) * x3.toInt64) * x3.toInt64))))] [] (gE Lx) I (ul (ul (ul (ul (ul L 20 6 x3.toInt64) 20 7 x4.toInt64) 20 2 (L 17 0)) 20 3 (((L 17 0) * (L 17 0)) + ((L 17 1) * (L 17 1)))) 20 4 (L 17 1)) e (kcp (Wp 34) 34 141 0 [(0, .ref 20), (1, .ref 17), (5, .long ((L 17 0) * (((((L 17 0) * (L 17 0)) + ((L 17 1) * (L 17 1))) * ((x3.toInt64 * x3.toInt64) + (x4.toInt64 * x4.toInt64))) - (((L 17 0) * x3.toInt64) * x3.toInt64))))] 71 [.ref 20] Q)))
     else
      (if x2 = 0 then
       (if ((L 17 0) * (((L 17 2) * ((x3.toInt64 * x3.toInt64) + (x4.toInt64 * x4.toInt64))) - (((L 17 0) * x3.toInt64) * x3.toInt64))) < (Int64.ofInt 0) then
        Wp 34 144 [(0, .ref 20), (1, .ref 17), (5, .long ((L 17 0) * (((L 17 2) * ((x3.toInt64 * x3.toInt64) + (x4.toInt64 * x4.toInt64))) - (((L 17 0) * x3.toInt64) * x3.toInt64))))] [.long (Int64.ofInt 0), .ref 20] (gE Lx) I (ul (ul (ul (ul (ul L 20 6 x3.toInt64) 20 7 x4.toInt64) 20 2 (L 17 0)) 20 3 (L 17 2)) 20 4 ((-(L 17 1)) * (L 17 2))) e Q
       else
        Wp 32 0 [(0, .long ((L 17 0) * (((L 17 2) * ((x3.toInt64 * x3.toInt64) + (x4.toInt64 * x4.toInt64))) - (((L 17 0) * x3.toInt64) * x3.toInt64))))] [] (gE Lx) I (ul (ul (ul (ul (ul L 20 6 x3.toInt64) 20 7 x4.toInt64) 20 2 (L 17 0)) 20 3 (L 17 2)) 20 4 ((-(L 17 1)) * (L 17 2))) e (kcp (Wp 34) 34 141 0 [(0, .ref 20), (1, .ref 17), (5, .long ((L 17 0) * (((L 17 2) * ((x3.toInt64 * x3.toInt64) + (x4.toInt64 * x4.toInt64))) - (((L 17 0) * x3.toInt64) * x3.toInt64))))] 71 [.ref 20] Q))
      else
       (if ((L 17 0) * (((L 17 2) * ((x3.toInt64 * x3.toInt64) + (x4.toInt64 * x4.toInt64))) - (((L 17 0) * x3.toInt64) * x3.toInt64))) < (Int64.ofInt 0) then
        Wp 34 144 [(0, .ref 20), (1, .ref 17), (5, .long ((L 17 0) * (((L 17 2) * ((x3.toInt64 * x3.toInt64) + (x4.toInt64 * x4.toInt64))) - (((L 17 0) * x3.toInt64) * x3.toInt64))))] [.long (Int64.ofInt 0), .ref 20] (gE Lx) I (ul (ul (ul (ul (ul L 20 6 x3.toInt64) 20 7 x4.toInt64) 20 2 (L 17 0)) 20 3 (L 17 2)) 20 4 (L 17 1)) e Q
       else
        Wp 32 0 [(0, .long ((L 17 0) * (((L 17 2) * ((x3.toInt64 * x3.toInt64) + (x4.toInt64 * x4.toInt64))) - (((L 17 0) * x3.toInt64) * x3.toInt64))))] [] (gE Lx) I (ul (ul (ul (ul (ul L 20 6 x3.toInt64) 20 7 x4.toInt64) 20 2 (L 17 0)) 20 3 (L 17 2)) 20 4 (L 17 1)) e (kcp (Wp 34) 34 141 0 [(0, .ref 20), (1, .ref 17), (5, .long ((L 17 0) * (((L 17 2) * ((x3.toInt64 * x3.toInt64) + (x4.toInt64 * x4.toInt64))) - (((L 17 0) * x3.toInt64) * x3.toInt64))))] 71 [.ref 20] Q)))))) :
    Wp 34 0 [(0, .ref 20), (1, .ref 17), (2, .int x2), (3, .int x3), (4, .int x4)] [] (gE Lx) I L e Q := by
  refine w_a f_34_0 ?_
  refine w_a f_34_1 ?_
  refine w_a f_34_2 ?_
  refine w_a f_34_3 ?_
  refine w_a f_34_6 ?_
  refine w_a f_34_7 ?_
  refine w_a f_34_9 ?_
  refine w_a f_34_10 ?_
  refine w_a f_34_13 ?_
  refine w_a f_34_14 ?_
  refine w_a f_34_15 ?_
  refine i_m (fun h => ?_) (fun h => ?_) h
  · refine w_a f_34_25 ?_
    refine w_a f_34_26 ?_
    refine w_a f_34_29 ?_
    refine w_a f_34_30 ?_
    refine w_a f_34_33 ?_
    refine w_a f_34_34 ?_
    refine w_a f_34_37 ?_
    refine w_a f_34_38 ?_
    refine w_a f_34_39 ?_
    refine i_m (fun h => ?_) (fun h => ?_) h
    · refine w_a f_34_49 ?_
      refine w_a f_34_50 ?_
      refine w_a (ls := [(0, .ref 17)]) f_55_0 ?_
      refine w_a f_55_1 ?_
      refine w_a f_55_4 ?_
      refine w_a f_55_5 ?_
      refine w_a f_55_8 ?_
      refine w_a f_55_9 ?_
      refine w_a f_55_10 ?_
      refine w_a f_55_13 ?_
      refine w_a f_55_14 ?_
      refine w_a f_55_17 ?_
      refine w_a f_55_18 ?_
      refine w_a f_55_19 ?_
      refine w_a (ls := [(0, .ref 20), (1, .ref 17), (2, .int x2), (3, .int x3), (4, .int x4)]) f_34_53 ?_
      refine w_a f_34_56 ?_
      refine w_a f_34_57 ?_
      refine w_a f_34_58 ?_
      refine i_m (fun h => ?_) (fun h => ?_) h
      · refine w_a f_34_68 ?_
        refine w_a f_34_69 ?_
        refine w_a f_34_72 ?_
        refine w_a f_34_73 ?_
        refine w_a f_34_74 ?_
        refine w_a f_34_77 ?_
        refine w_a f_34_78 ?_
        refine w_a f_34_81 ?_
        refine w_a f_34_82 ?_
        refine w_a f_34_85 ?_
        refine w_a f_34_86 ?_
        refine w_a f_34_89 ?_
        refine w_a f_34_90 ?_
        refine w_a f_34_93 ?_
        refine w_a f_34_94 ?_
        refine w_a f_34_97 ?_
        refine w_a f_34_98 ?_
        refine w_a f_34_99 ?_
        refine w_a f_34_102 ?_
        refine w_a f_34_103 ?_
        refine w_a f_34_106 ?_
        refine w_a f_34_107 ?_
        refine w_a f_34_108 ?_
        refine w_a f_34_109 ?_
        refine w_a f_34_110 ?_
        refine w_a f_34_113 ?_
        refine w_a f_34_114 ?_
        refine w_a f_34_117 ?_
        refine w_a f_34_118 ?_
        refine w_a f_34_119 ?_
        refine w_a f_34_122 ?_
        refine w_a f_34_123 ?_
        refine w_a f_34_124 ?_
        refine w_a f_34_125 ?_
        refine w_a (ls := [(5, .long (((L 17 0) * (L 17 2)) * (((((L 17 0) * (L 17 0)) + ((L 17 1) * (L 17 1))) * ((x3.toInt64 * x3.toInt64) + (x4.toInt64 * x4.toInt64))) - ((((L 17 0) * (L 17 2)) * x3.toInt64) * x3.toInt64)))), (0, .ref 20), (1, .ref 17), (2, .int x2), (3, .int x3), (4, .int x4)]) f_34_127 ?_
        refine w_a f_34_128 ?_
        refine w_a f_34_130 ?_
        refine w_a f_34_131 ?_
        refine i_m (fun h => ?_) (fun h => ?_) h
        · refine w_a f_34_135 ?_
          refine w_a f_34_136 ?_
          exact w_n (ks := [0, 1, 5]) rfl h
        · refine w_a f_34_139 ?_
          exact w_c (ks := [0, 1, 5]) f_34_141 rfl rfl h
      · refine w_a f_34_61 ?_
        refine w_a f_34_62 ?_
        refine w_a f_34_65 ?_
        refine w_a f_34_78 ?_
        refine w_a f_34_81 ?_
        refine w_a f_34_82 ?_
        refine w_a f_34_85 ?_
        refine w_a f_34_86 ?_
        refine w_a f_34_89 ?_
        refine w_a f_34_90 ?_
        refine w_a f_34_93 ?_
        refine w_a f_34_94 ?_
        refine w_a f_34_97 ?_
        refine w_a f_34_98 ?_
        refine w_a f_34_99 ?_
        refine w_a f_34_102 ?_
        refine w_a f_34_103 ?_
        refine w_a f_34_106 ?_
        refine w_a f_34_107 ?_
        refine w_a f_34_108 ?_
        refine w_a f_34_109 ?_
        refine w_a f_34_110 ?_
        refine w_a f_34_113 ?_
        refine w_a f_34_114 ?_
        refine w_a f_34_117 ?_
        refine w_a f_34_118 ?_
        refine w_a f_34_119 ?_
        refine w_a f_34_122 ?_
        refine w_a f_34_123 ?_
        refine w_a f_34_124 ?_
        refine w_a f_34_125 ?_
        refine w_a (ls := [(5, .long (((L 17 0) * (L 17 2)) * (((((L 17 0) * (L 17 0)) + ((L 17 1) * (L 17 1))) * ((x3.toInt64 * x3.toInt64) + (x4.toInt64 * x4.toInt64))) - ((((L 17 0) * (L 17 2)) * x3.toInt64) * x3.toInt64)))), (0, .ref 20), (1, .ref 17), (2, .int x2), (3, .int x3), (4, .int x4)]) f_34_127 ?_
        refine w_a f_34_128 ?_
        refine w_a f_34_130 ?_
        refine w_a f_34_131 ?_
        refine i_m (fun h => ?_) (fun h => ?_) h
        · refine w_a f_34_135 ?_
          refine w_a f_34_136 ?_
          exact w_n (ks := [0, 1, 5]) rfl h
        · refine w_a f_34_139 ?_
          exact w_c (ks := [0, 1, 5]) f_34_141 rfl rfl h
    · refine w_a f_34_42 ?_
      refine w_a f_34_43 ?_
      refine w_a f_34_46 ?_
      refine w_a f_34_53 ?_
      refine w_a f_34_56 ?_
      refine w_a f_34_57 ?_
      refine w_a f_34_58 ?_
      refine i_m (fun h => ?_) (fun h => ?_) h
      · refine w_a f_34_68 ?_
        refine w_a f_34_69 ?_
        refine w_a f_34_72 ?_
        refine w_a f_34_73 ?_
        refine w_a f_34_74 ?_
        refine w_a f_34_77 ?_
        refine w_a f_34_78 ?_
        refine w_a f_34_81 ?_
        refine w_a f_34_82 ?_
        refine w_a f_34_85 ?_
        refine w_a f_34_86 ?_
        refine w_a f_34_89 ?_
        refine w_a f_34_90 ?_
        refine w_a f_34_93 ?_
        refine w_a f_34_94 ?_
        refine w_a f_34_97 ?_
        refine w_a f_34_98 ?_
        refine w_a f_34_99 ?_
        refine w_a f_34_102 ?_
        refine w_a f_34_103 ?_
        refine w_a f_34_106 ?_
        refine w_a f_34_107 ?_
        refine w_a f_34_108 ?_
        refine w_a f_34_109 ?_
        refine w_a f_34_110 ?_
        refine w_a f_34_113 ?_
        refine w_a f_34_114 ?_
        refine w_a f_34_117 ?_
        refine w_a f_34_118 ?_
        refine w_a f_34_119 ?_
        refine w_a f_34_122 ?_
        refine w_a f_34_123 ?_
        refine w_a f_34_124 ?_
        refine w_a f_34_125 ?_
        refine w_a (ls := [(5, .long (((L 17 0) * (L 17 2)) * (((L 17 2) * ((x3.toInt64 * x3.toInt64) + (x4.toInt64 * x4.toInt64))) - ((((L 17 0) * (L 17 2)) * x3.toInt64) * x3.toInt64)))), (0, .ref 20), (1, .ref 17), (2, .int x2), (3, .int x3), (4, .int x4)]) f_34_127 ?_
        refine w_a f_34_128 ?_
        refine w_a f_34_130 ?_
        refine w_a f_34_131 ?_
        refine i_m (fun h => ?_) (fun h => ?_) h
        · refine w_a f_34_135 ?_
          refine w_a f_34_136 ?_
          exact w_n (ks := [0, 1, 5]) rfl h
        · refine w_a f_34_139 ?_
          exact w_c (ks := [0, 1, 5]) f_34_141 rfl rfl h
      · refine w_a f_34_61 ?_
        refine w_a f_34_62 ?_
        refine w_a f_34_65 ?_
        refine w_a f_34_78 ?_
        refine w_a f_34_81 ?_
        refine w_a f_34_82 ?_
        refine w_a f_34_85 ?_
        refine w_a f_34_86 ?_
        refine w_a f_34_89 ?_
        refine w_a f_34_90 ?_
        refine w_a f_34_93 ?_
        refine w_a f_34_94 ?_
        refine w_a f_34_97 ?_
        refine w_a f_34_98 ?_
        refine w_a f_34_99 ?_
        refine w_a f_34_102 ?_
        refine w_a f_34_103 ?_
        refine w_a f_34_106 ?_
        refine w_a f_34_107 ?_
        refine w_a f_34_108 ?_
        refine w_a f_34_109 ?_
        refine w_a f_34_110 ?_
        refine w_a f_34_113 ?_
        refine w_a f_34_114 ?_
        refine w_a f_34_117 ?_
        refine w_a f_34_118 ?_
        refine w_a f_34_119 ?_
        refine w_a f_34_122 ?_
        refine w_a f_34_123 ?_
        refine w_a f_34_124 ?_
        refine w_a f_34_125 ?_
        refine w_a (ls := [(5, .long (((L 17 0) * (L 17 2)) * (((L 17 2) * ((x3.toInt64 * x3.toInt64) + (x4.toInt64 * x4.toInt64))) - ((((L 17 0) * (L 17 2)) * x3.toInt64) * x3.toInt64)))), (0, .ref 20), (1, .ref 17), (2, .int x2), (3, .int x3), (4, .int x4)]) f_34_127 ?_
        refine w_a f_34_128 ?_
        refine w_a f_34_130 ?_
        refine w_a f_34_131 ?_
        refine i_m (fun h => ?_) (fun h => ?_) h
        · refine w_a f_34_135 ?_
          refine w_a f_34_136 ?_
          exact w_n (ks := [0, 1, 5]) rfl h
        · refine w_a f_34_139 ?_
          exact w_c (ks := [0, 1, 5]) f_34_141 rfl rfl h
  · refine w_a f_34_18 ?_
    refine w_a f_34_19 ?_
    refine w_a f_34_22 ?_
    refine w_a f_34_34 ?_
    refine w_a f_34_37 ?_
    refine w_a f_34_38 ?_
    refine w_a f_34_39 ?_
    refine i_m (fun h => ?_) (fun h => ?_) h
    · refine w_a f_34_49 ?_
      refine w_a f_34_50 ?_
      refine w_a (ls := [(0, .ref 17)]) f_55_0 ?_
      refine w_a f_55_1 ?_
      refine w_a f_55_4 ?_
      refine w_a f_55_5 ?_
      refine w_a f_55_8 ?_
      refine w_a f_55_9 ?_
      refine w_a f_55_10 ?_
      refine w_a f_55_13 ?_
      refine w_a f_55_14 ?_
      refine w_a f_55_17 ?_
      refine w_a f_55_18 ?_
      refine w_a f_55_19 ?_
      refine w_a (ls := [(0, .ref 20), (1, .ref 17), (2, .int x2), (3, .int x3), (4, .int x4)]) f_34_53 ?_
      refine w_a f_34_56 ?_
      refine w_a f_34_57 ?_
      refine w_a f_34_58 ?_
      refine i_m (fun h => ?_) (fun h => ?_) h
      · refine w_a f_34_68 ?_
        refine w_a f_34_69 ?_
        refine w_a f_34_72 ?_
        refine w_a f_34_73 ?_
        refine w_a f_34_74 ?_
        refine w_a f_34_77 ?_
        refine w_a f_34_78 ?_
        refine w_a f_34_81 ?_
        refine w_a f_34_82 ?_
        refine w_a f_34_85 ?_
        refine w_a f_34_86 ?_
        refine w_a f_34_89 ?_
        refine w_a f_34_90 ?_
        refine w_a f_34_93 ?_
        refine w_a f_34_94 ?_
        refine w_a f_34_97 ?_
        refine w_a f_34_98 ?_
        refine w_a f_34_99 ?_
        refine w_a f_34_102 ?_
        refine w_a f_34_103 ?_
        refine w_a f_34_106 ?_
        refine w_a f_34_107 ?_
        refine w_a f_34_108 ?_
        refine w_a f_34_109 ?_
        refine w_a f_34_110 ?_
        refine w_a f_34_113 ?_
        refine w_a f_34_114 ?_
        refine w_a f_34_117 ?_
        refine w_a f_34_118 ?_
        refine w_a f_34_119 ?_
        refine w_a f_34_122 ?_
        refine w_a f_34_123 ?_
        refine w_a f_34_124 ?_
        refine w_a f_34_125 ?_
        refine w_a (ls := [(5, .long ((L 17 0) * (((((L 17 0) * (L 17 0)) + ((L 17 1) * (L 17 1))) * ((x3.toInt64 * x3.toInt64) + (x4.toInt64 * x4.toInt64))) - (((L 17 0) * x3.toInt64) * x3.toInt64)))), (0, .ref 20), (1, .ref 17), (2, .int x2), (3, .int x3), (4, .int x4)]) f_34_127 ?_
        refine w_a f_34_128 ?_
        refine w_a f_34_130 ?_
        refine w_a f_34_131 ?_
        refine i_m (fun h => ?_) (fun h => ?_) h
        · refine w_a f_34_135 ?_
          refine w_a f_34_136 ?_
          exact w_n (ks := [0, 1, 5]) rfl h
        · refine w_a f_34_139 ?_
          exact w_c (ks := [0, 1, 5]) f_34_141 rfl rfl h
      · refine w_a f_34_61 ?_
        refine w_a f_34_62 ?_
        refine w_a f_34_65 ?_
        refine w_a f_34_78 ?_
        refine w_a f_34_81 ?_
        refine w_a f_34_82 ?_
        refine w_a f_34_85 ?_
        refine w_a f_34_86 ?_
        refine w_a f_34_89 ?_
        refine w_a f_34_90 ?_
        refine w_a f_34_93 ?_
        refine w_a f_34_94 ?_
        refine w_a f_34_97 ?_
        refine w_a f_34_98 ?_
        refine w_a f_34_99 ?_
        refine w_a f_34_102 ?_
        refine w_a f_34_103 ?_
        refine w_a f_34_106 ?_
        refine w_a f_34_107 ?_
        refine w_a f_34_108 ?_
        refine w_a f_34_109 ?_
        refine w_a f_34_110 ?_
        refine w_a f_34_113 ?_
        refine w_a f_34_114 ?_
        refine w_a f_34_117 ?_
        refine w_a f_34_118 ?_
        refine w_a f_34_119 ?_
        refine w_a f_34_122 ?_
        refine w_a f_34_123 ?_
        refine w_a f_34_124 ?_
        refine w_a f_34_125 ?_
        refine w_a (ls := [(5, .long ((L 17 0) * (((((L 17 0) * (L 17 0)) + ((L 17 1) * (L 17 1))) * ((x3.toInt64 * x3.toInt64) + (x4.toInt64 * x4.toInt64))) - (((L 17 0) * x3.toInt64) * x3.toInt64)))), (0, .ref 20), (1, .ref 17), (2, .int x2), (3, .int x3), (4, .int x4)]) f_34_127 ?_
        refine w_a f_34_128 ?_
        refine w_a f_34_130 ?_
        refine w_a f_34_131 ?_
        refine i_m (fun h => ?_) (fun h => ?_) h
        · refine w_a f_34_135 ?_
          refine w_a f_34_136 ?_
          exact w_n (ks := [0, 1, 5]) rfl h
        · refine w_a f_34_139 ?_
          exact w_c (ks := [0, 1, 5]) f_34_141 rfl rfl h
    · refine w_a f_34_42 ?_
      refine w_a f_34_43 ?_
      refine w_a f_34_46 ?_
      refine w_a f_34_53 ?_
      refine w_a f_34_56 ?_
      refine w_a f_34_57 ?_
      refine w_a f_34_58 ?_
      refine i_m (fun h => ?_) (fun h => ?_) h
      · refine w_a f_34_68 ?_
        refine w_a f_34_69 ?_
        refine w_a f_34_72 ?_
        refine w_a f_34_73 ?_
        refine w_a f_34_74 ?_
        refine w_a f_34_77 ?_
        refine w_a f_34_78 ?_
        refine w_a f_34_81 ?_
        refine w_a f_34_82 ?_
        refine w_a f_34_85 ?_
        refine w_a f_34_86 ?_
        refine w_a f_34_89 ?_
        refine w_a f_34_90 ?_
        refine w_a f_34_93 ?_
        refine w_a f_34_94 ?_
        refine w_a f_34_97 ?_
        refine w_a f_34_98 ?_
        refine w_a f_34_99 ?_
        refine w_a f_34_102 ?_
        refine w_a f_34_103 ?_
        refine w_a f_34_106 ?_
        refine w_a f_34_107 ?_
        refine w_a f_34_108 ?_
        refine w_a f_34_109 ?_
        refine w_a f_34_110 ?_
        refine w_a f_34_113 ?_
        refine w_a f_34_114 ?_
        refine w_a f_34_117 ?_
        refine w_a f_34_118 ?_
        refine w_a f_34_119 ?_
        refine w_a f_34_122 ?_
        refine w_a f_34_123 ?_
        refine w_a f_34_124 ?_
        refine w_a f_34_125 ?_
        refine w_a (ls := [(5, .long ((L 17 0) * (((L 17 2) * ((x3.toInt64 * x3.toInt64) + (x4.toInt64 * x4.toInt64))) - (((L 17 0) * x3.toInt64) * x3.toInt64)))), (0, .ref 20), (1, .ref 17), (2, .int x2), (3, .int x3), (4, .int x4)]) f_34_127 ?_
        refine w_a f_34_128 ?_
        refine w_a f_34_130 ?_
        refine w_a f_34_131 ?_
        refine i_m (fun h => ?_) (fun h => ?_) h
        · refine w_a f_34_135 ?_
          refine w_a f_34_136 ?_
          exact w_n (ks := [0, 1, 5]) rfl h
        · refine w_a f_34_139 ?_
          exact w_c (ks := [0, 1, 5]) f_34_141 rfl rfl h
      · refine w_a f_34_61 ?_
        refine w_a f_34_62 ?_
        refine w_a f_34_65 ?_
        refine w_a f_34_78 ?_
        refine w_a f_34_81 ?_
        refine w_a f_34_82 ?_
        refine w_a f_34_85 ?_
        refine w_a f_34_86 ?_
        refine w_a f_34_89 ?_
        refine w_a f_34_90 ?_
        refine w_a f_34_93 ?_
        refine w_a f_34_94 ?_
        refine w_a f_34_97 ?_
        refine w_a f_34_98 ?_
        refine w_a f_34_99 ?_
        refine w_a f_34_102 ?_
        refine w_a f_34_103 ?_
        refine w_a f_34_106 ?_
        refine w_a f_34_107 ?_
        refine w_a f_34_108 ?_
        refine w_a f_34_109 ?_
        refine w_a f_34_110 ?_
        refine w_a f_34_113 ?_
        refine w_a f_34_114 ?_
        refine w_a f_34_117 ?_
        refine w_a f_34_118 ?_
        refine w_a f_34_119 ?_
        refine w_a f_34_122 ?_
        refine w_a f_34_123 ?_
        refine w_a f_34_124 ?_
        refine w_a f_34_125 ?_
        refine w_a (ls := [(5, .long ((L 17 0) * (((L 17 2) * ((x3.toInt64 * x3.toInt64) + (x4.toInt64 * x4.toInt64))) - (((L 17 0) * x3.toInt64) * x3.toInt64)))), (0, .ref 20), (1, .ref 17), (2, .int x2), (3, .int x3), (4, .int x4)]) f_34_127 ?_
        refine w_a f_34_128 ?_
        refine w_a f_34_130 ?_
        refine w_a f_34_131 ?_
        refine i_m (fun h => ?_) (fun h => ?_) h
        · refine w_a f_34_135 ?_
          refine w_a f_34_136 ?_
          exact w_n (ks := [0, 1, 5]) rfl h
        · refine w_a f_34_139 ?_
          exact w_c (ks := [0, 1, 5]) f_34_141 rfl rfl h
set_option maxRecDepth 10000 in
set_option maxHeartbeats 4000000 in
theorem s_34_144 {Lx : Nat} {I : Mi} {L : Ml} {e : Nat} {Q : Kq} {y5 : Int64} {rl : Int64} (h :
    (if (rl * rl) = y5 then
     (if (L 20 2) = (Int64.ofInt 0) then
      Q (.inl none) (gE Lx) (ui (ui I 20 1 (Int32.ofInt 1)) 20 0 (Int32.ofInt 0)) (ul L 20 5 rl) e
     else
      (if y5 < (Int64.ofInt 0) then
       Q (.inl none) (gE Lx) (ui (ui I 20 1 (Int32.ofInt 1)) 20 0 (Int32.ofInt 0)) (ul L 20 5 rl) e
      else
       (if y5 = (Int64.ofInt 0) then
        Q (.inl none) (gE Lx) (ui (ui I 20 1 (Int32.ofInt 1)) 20 0 (Int32.ofInt 1)) (ul L 20 5 rl) e
       else
        Q (.inl none) (gE Lx) (ui (ui I 20 1 (Int32.ofInt 1)) 20 0 (Int32.ofInt 2)) (ul L 20 5 rl) e)))
    else
     (if (L 20 2) = (Int64.ofInt 0) then
      Q (.inl none) (gE Lx) (ui (ui I 20 1 (Int32.ofInt 0)) 20 0 (Int32.ofInt 0)) (ul L 20 5 rl) e
     else
      (if y5 < (Int64.ofInt 0) then
       Q (.inl none) (gE Lx) (ui (ui I 20 1 (Int32.ofInt 0)) 20 0 (Int32.ofInt 0)) (ul L 20 5 rl) e
      else
       (if y5 = (Int64.ofInt 0) then
        Q (.inl none) (gE Lx) (ui (ui I 20 1 (Int32.ofInt 0)) 20 0 (Int32.ofInt 1)) (ul L 20 5 rl) e
       else
        Q (.inl none) (gE Lx) (ui (ui I 20 1 (Int32.ofInt 0)) 20 0 (Int32.ofInt 2)) (ul L 20 5 rl) e))))) :
    Wp 34 144 [(0, .ref 20), (1, .ref 17), (5, .long y5)] [.long rl, .ref 20] (gE Lx) I L e Q := by
  refine w_a f_34_144 ?_
  refine w_a f_34_147 ?_
  refine w_a f_34_148 ?_
  refine w_a f_34_149 ?_
  refine w_a f_34_152 ?_
  refine w_a f_34_153 ?_
  refine w_a f_34_156 ?_
  refine w_a f_34_157 ?_
  refine w_a f_34_159 ?_
  refine i_m (fun h => ?_) (fun h => ?_) h
  · refine w_a f_34_163 ?_
    refine w_a f_34_164 ?_
    refine w_a f_34_168 ?_
    refine w_a f_34_171 ?_
    refine w_a f_34_172 ?_
    refine w_a f_34_175 ?_
    refine w_a f_34_176 ?_
    refine i_m (fun h => ?_) (fun h => ?_) h
    · refine w_a f_34_187 ?_
      refine w_a f_34_188 ?_
      refine w_a f_34_189 ?_
      refine w_a f_34_192 ?_
      refine w_a f_34_211 ?_
      exact h
    · refine w_a f_34_180 ?_
      refine w_a f_34_182 ?_
      refine w_a f_34_183 ?_
      refine i_m (fun h => ?_) (fun h => ?_) h
      · refine w_a f_34_187 ?_
        refine w_a f_34_188 ?_
        refine w_a f_34_189 ?_
        refine w_a f_34_192 ?_
        refine w_a f_34_211 ?_
        exact h
      · refine w_a f_34_195 ?_
        refine w_a f_34_196 ?_
        refine w_a f_34_198 ?_
        refine w_a f_34_199 ?_
        refine i_m (fun h => ?_) (fun h => ?_) h
        · refine w_a f_34_203 ?_
          refine w_a f_34_204 ?_
          refine w_a f_34_208 ?_
          refine w_a f_34_211 ?_
          exact h
        · refine w_a f_34_207 ?_
          refine w_a f_34_208 ?_
          refine w_a f_34_211 ?_
          exact h
  · refine w_a f_34_167 ?_
    refine w_a f_34_168 ?_
    refine w_a f_34_171 ?_
    refine w_a f_34_172 ?_
    refine w_a f_34_175 ?_
    refine w_a f_34_176 ?_
    refine i_m (fun h => ?_) (fun h => ?_) h
    · refine w_a f_34_187 ?_
      refine w_a f_34_188 ?_
      refine w_a f_34_189 ?_
      refine w_a f_34_192 ?_
      refine w_a f_34_211 ?_
      exact h
    · refine w_a f_34_180 ?_
      refine w_a f_34_182 ?_
      refine w_a f_34_183 ?_
      refine i_m (fun h => ?_) (fun h => ?_) h
      · refine w_a f_34_187 ?_
        refine w_a f_34_188 ?_
        refine w_a f_34_189 ?_
        refine w_a f_34_192 ?_
        refine w_a f_34_211 ?_
        exact h
      · refine w_a f_34_195 ?_
        refine w_a f_34_196 ?_
        refine w_a f_34_198 ?_
        refine w_a f_34_199 ?_
        refine i_m (fun h => ?_) (fun h => ?_) h
        · refine w_a f_34_203 ?_
          refine w_a f_34_204 ?_
          refine w_a f_34_208 ?_
          refine w_a f_34_211 ?_
          exact h
        · refine w_a f_34_207 ?_
          refine w_a f_34_208 ?_
          refine w_a f_34_211 ?_
          exact h
set_option maxRecDepth 10000 in
set_option maxHeartbeats 4000000 in
theorem s_35_28 {Lx : Nat} {I : Mi} {L : Ml} {e : Nat} {Q : Kq} (h :
    Q (.inl none) (gE Lx) I L e) :
    Wp 35 28 [(0, .ref 20), (2, .ref 18)] [] (gE Lx) I L e Q := by
  refine w_a f_35_28 ?_
  exact h
set_option maxRecDepth 10000 in
set_option maxHeartbeats 4000000 in
theorem s_37_38 {Lx : Nat} {I : Mi} {L : Ml} {e : Nat} {Q : Kq} (h :
    Q (.inl none) (gE Lx) I L e) :
    Wp 37 38 [(0, .ref 20), (2, .ref 18)] [] (gE Lx) I L e Q := by
  refine w_a f_37_38 ?_
  exact h
