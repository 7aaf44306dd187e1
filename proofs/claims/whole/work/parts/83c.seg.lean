/-! Pieces of methods, by program out of the tables: 75 to 98. -/
theorem f_1_0 : ftc (PT 1) 0 = some (0, .aload_n 0, 1, 0, 0, 0) := by decide +kernel
theorem f_1_1 : ftc (PT 1) 1 = some (1, .iconst 0, 1, 0, 0, 0) := by decide +kernel
theorem f_1_2 : ftc (PT 1) 2 = some (2, .putfield 7, 3, 0, 0, 385) := by decide +kernel
theorem f_1_5 : ftc (PT 1) 5 = some (5, .aload_n 0, 1, 0, 0, 0) := by decide +kernel
theorem f_1_6 : ftc (PT 1) 6 = some (6, .lconst 0, 1, 0, 0, 0) := by decide +kernel
theorem f_1_7 : ftc (PT 1) 7 = some (7, .putfield 13, 3, 0, 1, 387) := by decide +kernel
theorem f_1_10 : ftc (PT 1) 10 = some (10, .aload_n 0, 1, 0, 0, 0) := by decide +kernel
theorem f_1_11 : ftc (PT 1) 11 = some (11, .lconst 1, 1, 0, 0, 0) := by decide +kernel
theorem f_1_12 : ftc (PT 1) 12 = some (12, .putfield 17, 3, 0, 2, 389) := by decide +kernel
theorem f_1_15 : ftc (PT 1) 15 = some (15, .return_, 1, 0, 0, 0) := by decide +kernel
theorem f_2_0 : ftc (PT 2) 0 = some (0, .aload_n 0, 1, 0, 0, 0) := by decide +kernel
theorem f_2_1 : ftc (PT 2) 1 = some (1, .lload_n 1, 1, 0, 0, 0) := by decide +kernel
theorem f_2_2 : ftc (PT 2) 2 = some (2, .lload_n 3, 1, 0, 0, 0) := by decide +kernel
theorem f_2_3 : ftc (PT 2) 3 = some (3, .iconst (-1), 1, 0, 0, 0) := by decide +kernel
theorem f_2_4 : ftc (PT 2) 4 = some (4, .invokevirtual 33, 3, 3, 6240, 589) := by decide +kernel
theorem f_4_0 : ftc (PT 4) 0 = some (0, .aload_n 0, 1, 0, 0, 0) := by decide +kernel
theorem f_4_1 : ftc (PT 4) 1 = some (1, .getfield 13, 3, 0, 1, 387) := by decide +kernel
theorem f_4_4 : ftc (PT 4) 4 = some (4, .aload_n 0, 1, 0, 0, 0) := by decide +kernel
theorem f_4_5 : ftc (PT 4) 5 = some (5, .getfield 17, 3, 0, 2, 389) := by decide +kernel
theorem f_4_8 : ftc (PT 4) 8 = some (8, .invokestatic 43, 3, 24, 4098, 631) := by decide +kernel
theorem f_4_11 : ftc (PT 4) 11 = some (11, .ireturn, 1, 0, 0, 0) := by decide +kernel
theorem f_16_0 : ftc (PT 16) 0 = some (0, .aload_n 0, 1, 0, 0, 0) := by decide +kernel
theorem f_16_1 : ftc (PT 16) 1 = some (1, .aload_n 1, 1, 0, 0, 0) := by decide +kernel
theorem f_16_2 : ftc (PT 16) 2 = some (2, .getfield 9, 3, 2, 0, 213) := by decide +kernel
theorem f_16_5 : ftc (PT 16) 5 = some (5, .aload_n 1, 1, 0, 0, 0) := by decide +kernel
theorem f_16_6 : ftc (PT 16) 6 = some (6, .getfield 15, 3, 2, 1, 215) := by decide +kernel
theorem f_16_9 : ftc (PT 16) 9 = some (9, .aload_n 1, 1, 0, 0, 0) := by decide +kernel
theorem f_16_10 : ftc (PT 16) 10 = some (10, .getfield 18, 3, 2, 2, 217) := by decide +kernel
theorem f_16_13 : ftc (PT 16) 13 = some (13, .invokevirtual 48, 3, 17, 4194, 615) := by decide +kernel
theorem f_16_16 : ftc (PT 16) 16 = some (16, .aload_n 0, 1, 0, 0, 0) := by decide +kernel
theorem f_16_17 : ftc (PT 16) 17 = some (17, .aload_n 1, 1, 0, 0, 0) := by decide +kernel
theorem f_16_18 : ftc (PT 16) 18 = some (18, .getfield 21, 3, 2, 3, 219) := by decide +kernel
theorem f_16_21 : ftc (PT 16) 21 = some (21, .putfield 21, 3, 2, 3, 219) := by decide +kernel
theorem f_16_24 : ftc (PT 16) 24 = some (24, .aload_n 1, 1, 0, 0, 0) := by decide +kernel
theorem f_16_25 : ftc (PT 16) 25 = some (25, .getfield 24, 3, 2, 4, 222) := by decide +kernel
theorem f_16_28 : ftc (PT 16) 28 = some (28, .iconst 0, 1, 0, 0, 0) := by decide +kernel
theorem f_16_29 : ftc (PT 16) 29 = some (29, .aload_n 0, 1, 0, 0, 0) := by decide +kernel
theorem f_16_30 : ftc (PT 16) 30 = some (30, .getfield 24, 3, 2, 4, 222) := by decide +kernel
theorem f_16_33 : ftc (PT 16) 33 = some (33, .iconst 0, 1, 0, 0, 0) := by decide +kernel
theorem f_16_34 : ftc (PT 16) 34 = some (34, .iconst 4, 1, 0, 0, 0) := by decide +kernel
theorem f_16_35 : ftc (PT 16) 35 = some (35, .invokestatic 52, 3, 1001, 5, 619) := by decide +kernel
theorem f_16_38 : ftc (PT 16) 38 = some (38, .aload_n 1, 1, 0, 0, 0) := by decide +kernel
theorem f_16_39 : ftc (PT 16) 39 = some (39, .getfield 28, 3, 2, 5, 223) := by decide +kernel
theorem f_16_42 : ftc (PT 16) 42 = some (42, .iconst 0, 1, 0, 0, 0) := by decide +kernel
theorem f_16_43 : ftc (PT 16) 43 = some (43, .aload_n 0, 1, 0, 0, 0) := by decide +kernel
theorem f_16_44 : ftc (PT 16) 44 = some (44, .getfield 28, 3, 2, 5, 223) := by decide +kernel
theorem f_16_47 : ftc (PT 16) 47 = some (47, .iconst 0, 1, 0, 0, 0) := by decide +kernel
theorem f_16_48 : ftc (PT 16) 48 = some (48, .iconst 4, 1, 0, 0, 0) := by decide +kernel
theorem f_16_49 : ftc (PT 16) 49 = some (49, .invokestatic 52, 3, 1001, 5, 619) := by decide +kernel
theorem f_16_52 : ftc (PT 16) 52 = some (52, .aload_n 1, 1, 0, 0, 0) := by decide +kernel
theorem f_16_53 : ftc (PT 16) 53 = some (53, .getfield 31, 3, 2, 6, 224) := by decide +kernel
theorem f_16_56 : ftc (PT 16) 56 = some (56, .iconst 0, 1, 0, 0, 0) := by decide +kernel
theorem f_16_57 : ftc (PT 16) 57 = some (57, .aload_n 0, 1, 0, 0, 0) := by decide +kernel
theorem f_16_58 : ftc (PT 16) 58 = some (58, .getfield 31, 3, 2, 6, 224) := by decide +kernel
theorem f_16_61 : ftc (PT 16) 61 = some (61, .iconst 0, 1, 0, 0, 0) := by decide +kernel
theorem f_16_62 : ftc (PT 16) 62 = some (62, .iconst 4, 1, 0, 0, 0) := by decide +kernel
theorem f_16_63 : ftc (PT 16) 63 = some (63, .invokestatic 52, 3, 1001, 5, 619) := by decide +kernel
theorem f_16_66 : ftc (PT 16) 66 = some (66, .return_, 1, 0, 0, 0) := by decide +kernel
theorem f_17_0 : ftc (PT 17) 0 = some (0, .aload_n 0, 1, 0, 0, 0) := by decide +kernel
theorem f_17_1 : ftc (PT 17) 1 = some (1, .iload_n 1, 1, 0, 0, 0) := by decide +kernel
theorem f_17_2 : ftc (PT 17) 2 = some (2, .putfield 9, 3, 2, 0, 213) := by decide +kernel
theorem f_17_5 : ftc (PT 17) 5 = some (5, .aload_n 0, 1, 0, 0, 0) := by decide +kernel
theorem f_17_6 : ftc (PT 17) 6 = some (6, .iload_n 2, 1, 0, 0, 0) := by decide +kernel
theorem f_17_7 : ftc (PT 17) 7 = some (7, .putfield 15, 3, 2, 1, 215) := by decide +kernel
theorem f_17_10 : ftc (PT 17) 10 = some (10, .aload_n 0, 1, 0, 0, 0) := by decide +kernel
theorem f_17_11 : ftc (PT 17) 11 = some (11, .iload_n 3, 1, 0, 0, 0) := by decide +kernel
theorem f_17_12 : ftc (PT 17) 12 = some (12, .putfield 18, 3, 2, 2, 217) := by decide +kernel
theorem f_17_15 : ftc (PT 17) 15 = some (15, .return_, 1, 0, 0, 0) := by decide +kernel
theorem f_18_0 : ftc (PT 18) 0 = some (0, .aload_n 0, 1, 0, 0, 0) := by decide +kernel
theorem f_18_1 : ftc (PT 18) 1 = some (1, .iload_n 1, 1, 0, 0, 0) := by decide +kernel
theorem f_18_2 : ftc (PT 18) 2 = some (2, .invokevirtual 34, 3, 13, 2082, 553) := by decide +kernel
theorem f_18_5 : ftc (PT 18) 5 = some (5, .ifCond .eq 36, 3, 41, 0, 0) := by decide +kernel
theorem f_18_8 : ftc (PT 18) 8 = some (8, .aload_n 0, 1, 0, 0, 0) := by decide +kernel
theorem f_18_9 : ftc (PT 18) 9 = some (9, .getfield 24, 3, 2, 4, 222) := by decide +kernel
theorem f_18_12 : ftc (PT 18) 12 = some (12, .iload_n 1, 1, 0, 0, 0) := by decide +kernel
theorem f_18_13 : ftc (PT 18) 13 = some (13, .aload_n 2, 1, 0, 0, 0) := by decide +kernel
theorem f_18_14 : ftc (PT 18) 14 = some (14, .iload_n 3, 1, 0, 0, 0) := by decide +kernel
theorem f_18_15 : ftc (PT 18) 15 = some (15, .invokevirtual 38, 3, 12, 2082, 624) := by decide +kernel
theorem f_24_0 : ftc (PT 24) 0 = some (0, .lload_n 2, 1, 0, 0, 0) := by decide +kernel
theorem f_24_1 : ftc (PT 24) 1 = some (1, .lconst 0, 1, 0, 0, 0) := by decide +kernel
theorem f_24_2 : ftc (PT 24) 2 = some (2, .lcmp, 1, 0, 0, 0) := by decide +kernel
theorem f_24_3 : ftc (PT 24) 3 = some (3, .ifCond .ne 7, 3, 10, 0, 0) := by decide +kernel
theorem f_24_6 : ftc (PT 24) 6 = some (6, .iconst 0, 1, 0, 0, 0) := by decide +kernel
theorem f_24_7 : ftc (PT 24) 7 = some (7, .goto 11, 3, 18, 0, 0) := by decide +kernel
theorem f_24_10 : ftc (PT 24) 10 = some (10, .ldc2_w 42, 3, 634, 0, 10000) := by decide +kernel
theorem f_24_13 : ftc (PT 24) 13 = some (13, .lload_n 0, 1, 0, 0, 0) := by decide +kernel
theorem f_24_14 : ftc (PT 24) 14 = some (14, .lmul, 1, 0, 0, 0) := by decide +kernel
theorem f_24_15 : ftc (PT 24) 15 = some (15, .lload_n 2, 1, 0, 0, 0) := by decide +kernel
theorem f_24_16 : ftc (PT 24) 16 = some (16, .ldiv, 1, 0, 0, 0) := by decide +kernel
theorem f_24_17 : ftc (PT 24) 17 = some (17, .l2i, 1, 0, 0, 0) := by decide +kernel
theorem f_24_18 : ftc (PT 24) 18 = some (18, .ireturn, 1, 0, 0, 0) := by decide +kernel
theorem f_74_0 : ftc (PT 74) 0 = some (0, .aload_n 0, 1, 0, 0, 0) := by decide +kernel
theorem f_74_1 : ftc (PT 74) 1 = some (1, .lload_n 1, 1, 0, 0, 0) := by decide +kernel
theorem f_74_2 : ftc (PT 74) 2 = some (2, .putfield 9, 3, 10, 0, 248) := by decide +kernel
theorem f_74_5 : ftc (PT 74) 5 = some (5, .aload_n 0, 1, 0, 0, 0) := by decide +kernel
theorem f_74_6 : ftc (PT 74) 6 = some (6, .lload_n 3, 1, 0, 0, 0) := by decide +kernel
theorem f_74_7 : ftc (PT 74) 7 = some (7, .putfield 15, 3, 10, 1, 250) := by decide +kernel
theorem f_74_10 : ftc (PT 74) 10 = some (10, .aload_n 0, 1, 0, 0, 0) := by decide +kernel
theorem f_74_11 : ftc (PT 74) 11 = some (11, .lload 5, 2, 0, 0, 0) := by decide +kernel
theorem f_74_13 : ftc (PT 74) 13 = some (13, .putfield 18, 3, 10, 2, 252) := by decide +kernel
theorem f_74_16 : ftc (PT 74) 16 = some (16, .aload_n 0, 1, 0, 0, 0) := by decide +kernel
theorem f_74_17 : ftc (PT 74) 17 = some (17, .lconst 0, 1, 0, 0, 0) := by decide +kernel
theorem f_74_18 : ftc (PT 74) 18 = some (18, .putfield 21, 3, 10, 3, 254) := by decide +kernel
theorem f_74_21 : ftc (PT 74) 21 = some (21, .return_, 1, 0, 0, 0) := by decide +kernel
theorem f_75_0 : ftc (PT 75) 0 = some (0, .iload_n 1, 1, 0, 0, 0) := by decide +kernel
theorem f_75_1 : ftc (PT 75) 1 = some (1, .tableswitch 76 0 3 #[31, 41, 52, 64], 31, 0, 0, 0) := by decide +kernel
theorem f_75_32 : ftc (PT 75) 32 = some (32, .aload_n 0, 1, 0, 0, 0) := by decide +kernel
theorem f_75_33 : ftc (PT 75) 33 = some (33, .lload_n 2, 1, 0, 0, 0) := by decide +kernel
theorem f_75_34 : ftc (PT 75) 34 = some (34, .lload 4, 2, 0, 0, 0) := by decide +kernel
theorem f_75_36 : ftc (PT 75) 36 = some (36, .invokevirtual 24, 3, 76, 11338, 569) := by decide +kernel
theorem f_75_39 : ftc (PT 75) 39 = some (39, .goto 46, 3, 85, 0, 0) := by decide +kernel
theorem f_75_42 : ftc (PT 75) 42 = some (42, .aload_n 0, 1, 0, 0, 0) := by decide +kernel
theorem f_75_43 : ftc (PT 75) 43 = some (43, .iconst 0, 1, 0, 0, 0) := by decide +kernel
theorem f_75_44 : ftc (PT 75) 44 = some (44, .lload_n 2, 1, 0, 0, 0) := by decide +kernel
theorem f_75_45 : ftc (PT 75) 45 = some (45, .lload 4, 2, 0, 0, 0) := by decide +kernel
theorem f_75_47 : ftc (PT 75) 47 = some (47, .invokevirtual 28, 3, 77, 8298, 573) := by decide +kernel
theorem f_75_50 : ftc (PT 75) 50 = some (50, .goto 35, 3, 85, 0, 0) := by decide +kernel
theorem f_75_53 : ftc (PT 75) 53 = some (53, .aload_n 0, 1, 0, 0, 0) := by decide +kernel
theorem f_75_54 : ftc (PT 75) 54 = some (54, .iconst 0, 1, 0, 0, 0) := by decide +kernel
theorem f_75_55 : ftc (PT 75) 55 = some (55, .lload 4, 2, 0, 0, 0) := by decide +kernel
theorem f_75_57 : ftc (PT 75) 57 = some (57, .lneg, 1, 0, 0, 0) := by decide +kernel
theorem f_75_58 : ftc (PT 75) 58 = some (58, .lload_n 2, 1, 0, 0, 0) := by decide +kernel
theorem f_75_59 : ftc (PT 75) 59 = some (59, .invokevirtual 28, 3, 77, 8298, 573) := by decide +kernel
theorem f_75_62 : ftc (PT 75) 62 = some (62, .goto 23, 3, 85, 0, 0) := by decide +kernel
theorem f_75_65 : ftc (PT 75) 65 = some (65, .aload_n 0, 1, 0, 0, 0) := by decide +kernel
theorem f_75_66 : ftc (PT 75) 66 = some (66, .iconst 1, 1, 0, 0, 0) := by decide +kernel
theorem f_75_67 : ftc (PT 75) 67 = some (67, .lload 4, 2, 0, 0, 0) := by decide +kernel
theorem f_75_69 : ftc (PT 75) 69 = some (69, .lneg, 1, 0, 0, 0) := by decide +kernel
theorem f_75_70 : ftc (PT 75) 70 = some (70, .lload_n 2, 1, 0, 0, 0) := by decide +kernel
theorem f_75_71 : ftc (PT 75) 71 = some (71, .invokevirtual 28, 3, 77, 8298, 573) := by decide +kernel
theorem f_75_74 : ftc (PT 75) 74 = some (74, .goto 11, 3, 85, 0, 0) := by decide +kernel
theorem f_75_77 : ftc (PT 75) 77 = some (77, .aload_n 0, 1, 0, 0, 0) := by decide +kernel
theorem f_75_78 : ftc (PT 75) 78 = some (78, .iconst 1, 1, 0, 0, 0) := by decide +kernel
theorem f_75_79 : ftc (PT 75) 79 = some (79, .lload_n 2, 1, 0, 0, 0) := by decide +kernel
theorem f_75_80 : ftc (PT 75) 80 = some (80, .lload 4, 2, 0, 0, 0) := by decide +kernel
theorem f_75_82 : ftc (PT 75) 82 = some (82, .invokevirtual 28, 3, 77, 8298, 573) := by decide +kernel
theorem f_75_85 : ftc (PT 75) 85 = some (85, .return_, 1, 0, 0, 0) := by decide +kernel
theorem f_76_0 : ftc (PT 76) 0 = some (0, .lload_n 3, 1, 0, 0, 0) := by decide +kernel
theorem f_76_1 : ftc (PT 76) 1 = some (1, .aload_n 0, 1, 0, 0, 0) := by decide +kernel
theorem f_76_2 : ftc (PT 76) 2 = some (2, .getfield 9, 3, 10, 0, 248) := by decide +kernel
theorem f_76_5 : ftc (PT 76) 5 = some (5, .lmul, 1, 0, 0, 0) := by decide +kernel
theorem f_76_6 : ftc (PT 76) 6 = some (6, .lload_n 1, 1, 0, 0, 0) := by decide +kernel
theorem f_76_7 : ftc (PT 76) 7 = some (7, .aload_n 0, 1, 0, 0, 0) := by decide +kernel
theorem f_76_8 : ftc (PT 76) 8 = some (8, .getfield 21, 3, 10, 3, 254) := by decide +kernel
theorem f_76_11 : ftc (PT 76) 11 = some (11, .lmul, 1, 0, 0, 0) := by decide +kernel
theorem f_76_12 : ftc (PT 76) 12 = some (12, .lsub, 1, 0, 0, 0) := by decide +kernel
theorem f_76_13 : ftc (PT 76) 13 = some (13, .lstore 5, 2, 0, 0, 0) := by decide +kernel
theorem f_76_15 : ftc (PT 76) 15 = some (15, .lload_n 3, 1, 0, 0, 0) := by decide +kernel
theorem f_76_16 : ftc (PT 76) 16 = some (16, .aload_n 0, 1, 0, 0, 0) := by decide +kernel
theorem f_76_17 : ftc (PT 76) 17 = some (17, .getfield 15, 3, 10, 1, 250) := by decide +kernel
theorem f_76_20 : ftc (PT 76) 20 = some (20, .lmul, 1, 0, 0, 0) := by decide +kernel
theorem f_76_21 : ftc (PT 76) 21 = some (21, .lload_n 1, 1, 0, 0, 0) := by decide +kernel
theorem f_76_22 : ftc (PT 76) 22 = some (22, .aload_n 0, 1, 0, 0, 0) := by decide +kernel
theorem f_76_23 : ftc (PT 76) 23 = some (23, .getfield 18, 3, 10, 2, 252) := by decide +kernel
theorem f_76_26 : ftc (PT 76) 26 = some (26, .lmul, 1, 0, 0, 0) := by decide +kernel
theorem f_76_27 : ftc (PT 76) 27 = some (27, .ladd, 1, 0, 0, 0) := by decide +kernel
theorem f_76_28 : ftc (PT 76) 28 = some (28, .lstore 7, 2, 0, 0, 0) := by decide +kernel
theorem f_76_30 : ftc (PT 76) 30 = some (30, .lload_n 3, 1, 0, 0, 0) := by decide +kernel
theorem f_76_31 : ftc (PT 76) 31 = some (31, .aload_n 0, 1, 0, 0, 0) := by decide +kernel
theorem f_76_32 : ftc (PT 76) 32 = some (32, .getfield 18, 3, 10, 2, 252) := by decide +kernel
theorem f_76_35 : ftc (PT 76) 35 = some (35, .lmul, 1, 0, 0, 0) := by decide +kernel
theorem f_76_36 : ftc (PT 76) 36 = some (36, .lload_n 1, 1, 0, 0, 0) := by decide +kernel
theorem f_76_37 : ftc (PT 76) 37 = some (37, .aload_n 0, 1, 0, 0, 0) := by decide +kernel
theorem f_76_38 : ftc (PT 76) 38 = some (38, .getfield 15, 3, 10, 1, 250) := by decide +kernel
theorem f_76_41 : ftc (PT 76) 41 = some (41, .lmul, 1, 0, 0, 0) := by decide +kernel
theorem f_76_42 : ftc (PT 76) 42 = some (42, .lsub, 1, 0, 0, 0) := by decide +kernel
theorem f_76_43 : ftc (PT 76) 43 = some (43, .lstore 9, 2, 0, 0, 0) := by decide +kernel
theorem f_76_45 : ftc (PT 76) 45 = some (45, .aload_n 0, 1, 0, 0, 0) := by decide +kernel
theorem f_76_46 : ftc (PT 76) 46 = some (46, .lload_n 3, 1, 0, 0, 0) := by decide +kernel
theorem f_76_47 : ftc (PT 76) 47 = some (47, .aload_n 0, 1, 0, 0, 0) := by decide +kernel
theorem f_76_48 : ftc (PT 76) 48 = some (48, .getfield 21, 3, 10, 3, 254) := by decide +kernel
theorem f_76_51 : ftc (PT 76) 51 = some (51, .lmul, 1, 0, 0, 0) := by decide +kernel
theorem f_76_52 : ftc (PT 76) 52 = some (52, .lload_n 1, 1, 0, 0, 0) := by decide +kernel
theorem f_76_53 : ftc (PT 76) 53 = some (53, .aload_n 0, 1, 0, 0, 0) := by decide +kernel
theorem f_76_54 : ftc (PT 76) 54 = some (54, .getfield 9, 3, 10, 0, 248) := by decide +kernel
theorem f_76_57 : ftc (PT 76) 57 = some (57, .lmul, 1, 0, 0, 0) := by decide +kernel
theorem f_76_58 : ftc (PT 76) 58 = some (58, .ladd, 1, 0, 0, 0) := by decide +kernel
theorem f_76_59 : ftc (PT 76) 59 = some (59, .putfield 21, 3, 10, 3, 254) := by decide +kernel
theorem f_76_62 : ftc (PT 76) 62 = some (62, .aload_n 0, 1, 0, 0, 0) := by decide +kernel
theorem f_76_63 : ftc (PT 76) 63 = some (63, .lload 9, 2, 0, 0, 0) := by decide +kernel
theorem f_76_65 : ftc (PT 76) 65 = some (65, .putfield 18, 3, 10, 2, 252) := by decide +kernel
theorem f_76_68 : ftc (PT 76) 68 = some (68, .aload_n 0, 1, 0, 0, 0) := by decide +kernel
theorem f_76_69 : ftc (PT 76) 69 = some (69, .lload 5, 2, 0, 0, 0) := by decide +kernel
theorem f_76_71 : ftc (PT 76) 71 = some (71, .putfield 9, 3, 10, 0, 248) := by decide +kernel
theorem f_76_74 : ftc (PT 76) 74 = some (74, .aload_n 0, 1, 0, 0, 0) := by decide +kernel
theorem f_76_75 : ftc (PT 76) 75 = some (75, .lload 7, 2, 0, 0, 0) := by decide +kernel
theorem f_76_77 : ftc (PT 76) 77 = some (77, .putfield 15, 3, 10, 1, 250) := by decide +kernel
theorem f_76_80 : ftc (PT 76) 80 = some (80, .return_, 1, 0, 0, 0) := by decide +kernel
theorem f_77_0 : ftc (PT 77) 0 = some (0, .iload_n 1, 1, 0, 0, 0) := by decide +kernel
theorem f_77_1 : ftc (PT 77) 1 = some (1, .ifCond .eq 87, 3, 88, 0, 0) := by decide +kernel
theorem f_77_4 : ftc (PT 77) 4 = some (4, .aload_n 0, 1, 0, 0, 0) := by decide +kernel
theorem f_77_5 : ftc (PT 77) 5 = some (5, .getfield 18, 3, 10, 2, 252) := by decide +kernel
theorem f_77_8 : ftc (PT 77) 8 = some (8, .lconst 0, 1, 0, 0, 0) := by decide +kernel
theorem f_77_9 : ftc (PT 77) 9 = some (9, .lcmp, 1, 0, 0, 0) := by decide +kernel
theorem f_77_10 : ftc (PT 77) 10 = some (10, .ifCond .ne 13, 3, 23, 0, 0) := by decide +kernel
theorem f_77_13 : ftc (PT 77) 13 = some (13, .aload_n 0, 1, 0, 0, 0) := by decide +kernel
theorem f_77_14 : ftc (PT 77) 14 = some (14, .getfield 21, 3, 10, 3, 254) := by decide +kernel
theorem f_77_17 : ftc (PT 77) 17 = some (17, .lconst 0, 1, 0, 0, 0) := by decide +kernel
theorem f_77_18 : ftc (PT 77) 18 = some (18, .lcmp, 1, 0, 0, 0) := by decide +kernel
theorem f_77_19 : ftc (PT 77) 19 = some (19, .ifCond .ne 4, 3, 23, 0, 0) := by decide +kernel
theorem f_77_22 : ftc (PT 77) 22 = some (22, .return_, 1, 0, 0, 0) := by decide +kernel
theorem f_77_23 : ftc (PT 77) 23 = some (23, .lload 4, 2, 0, 0, 0) := by decide +kernel
theorem f_77_25 : ftc (PT 77) 25 = some (25, .aload_n 0, 1, 0, 0, 0) := by decide +kernel
theorem f_77_26 : ftc (PT 77) 26 = some (26, .getfield 9, 3, 10, 0, 248) := by decide +kernel
theorem f_77_29 : ftc (PT 77) 29 = some (29, .lmul, 1, 0, 0, 0) := by decide +kernel
theorem f_77_30 : ftc (PT 77) 30 = some (30, .lload_n 2, 1, 0, 0, 0) := by decide +kernel
theorem f_77_31 : ftc (PT 77) 31 = some (31, .aload_n 0, 1, 0, 0, 0) := by decide +kernel
theorem f_77_32 : ftc (PT 77) 32 = some (32, .getfield 21, 3, 10, 3, 254) := by decide +kernel
theorem f_77_35 : ftc (PT 77) 35 = some (35, .lmul, 1, 0, 0, 0) := by decide +kernel
theorem f_77_36 : ftc (PT 77) 36 = some (36, .lsub, 1, 0, 0, 0) := by decide +kernel
theorem f_77_37 : ftc (PT 77) 37 = some (37, .lstore 6, 2, 0, 0, 0) := by decide +kernel
theorem f_77_39 : ftc (PT 77) 39 = some (39, .aload_n 0, 1, 0, 0, 0) := by decide +kernel
theorem f_77_40 : ftc (PT 77) 40 = some (40, .lload 4, 2, 0, 0, 0) := by decide +kernel
theorem f_77_42 : ftc (PT 77) 42 = some (42, .aload_n 0, 1, 0, 0, 0) := by decide +kernel
theorem f_77_43 : ftc (PT 77) 43 = some (43, .getfield 15, 3, 10, 1, 250) := by decide +kernel
theorem f_77_46 : ftc (PT 77) 46 = some (46, .lmul, 1, 0, 0, 0) := by decide +kernel
theorem f_77_47 : ftc (PT 77) 47 = some (47, .lload_n 2, 1, 0, 0, 0) := by decide +kernel
theorem f_77_48 : ftc (PT 77) 48 = some (48, .aload_n 0, 1, 0, 0, 0) := by decide +kernel
theorem f_77_49 : ftc (PT 77) 49 = some (49, .getfield 18, 3, 10, 2, 252) := by decide +kernel
theorem f_77_52 : ftc (PT 77) 52 = some (52, .lmul, 1, 0, 0, 0) := by decide +kernel
theorem f_77_53 : ftc (PT 77) 53 = some (53, .ladd, 1, 0, 0, 0) := by decide +kernel
theorem f_77_54 : ftc (PT 77) 54 = some (54, .putfield 15, 3, 10, 1, 250) := by decide +kernel
theorem f_77_57 : ftc (PT 77) 57 = some (57, .aload_n 0, 1, 0, 0, 0) := by decide +kernel
theorem f_77_58 : ftc (PT 77) 58 = some (58, .lload 6, 2, 0, 0, 0) := by decide +kernel
theorem f_77_60 : ftc (PT 77) 60 = some (60, .putfield 9, 3, 10, 0, 248) := by decide +kernel
theorem f_77_63 : ftc (PT 77) 63 = some (63, .aload_n 0, 1, 0, 0, 0) := by decide +kernel
theorem f_77_64 : ftc (PT 77) 64 = some (64, .lload 4, 2, 0, 0, 0) := by decide +kernel
theorem f_77_66 : ftc (PT 77) 66 = some (66, .aload_n 0, 1, 0, 0, 0) := by decide +kernel
theorem f_77_67 : ftc (PT 77) 67 = some (67, .getfield 18, 3, 10, 2, 252) := by decide +kernel
theorem f_77_70 : ftc (PT 77) 70 = some (70, .lmul, 1, 0, 0, 0) := by decide +kernel
theorem f_77_71 : ftc (PT 77) 71 = some (71, .putfield 18, 3, 10, 2, 252) := by decide +kernel
theorem f_77_74 : ftc (PT 77) 74 = some (74, .aload_n 0, 1, 0, 0, 0) := by decide +kernel
theorem f_77_75 : ftc (PT 77) 75 = some (75, .lload 4, 2, 0, 0, 0) := by decide +kernel
theorem f_77_77 : ftc (PT 77) 77 = some (77, .aload_n 0, 1, 0, 0, 0) := by decide +kernel
theorem f_77_78 : ftc (PT 77) 78 = some (78, .getfield 21, 3, 10, 3, 254) := by decide +kernel
theorem f_77_81 : ftc (PT 77) 81 = some (81, .lmul, 1, 0, 0, 0) := by decide +kernel
theorem f_77_82 : ftc (PT 77) 82 = some (82, .putfield 21, 3, 10, 3, 254) := by decide +kernel
theorem f_77_85 : ftc (PT 77) 85 = some (85, .goto 84, 3, 169, 0, 0) := by decide +kernel
theorem f_77_88 : ftc (PT 77) 88 = some (88, .aload_n 0, 1, 0, 0, 0) := by decide +kernel
theorem f_77_89 : ftc (PT 77) 89 = some (89, .getfield 9, 3, 10, 0, 248) := by decide +kernel
theorem f_77_92 : ftc (PT 77) 92 = some (92, .lconst 0, 1, 0, 0, 0) := by decide +kernel
theorem f_77_93 : ftc (PT 77) 93 = some (93, .lcmp, 1, 0, 0, 0) := by decide +kernel
theorem f_77_94 : ftc (PT 77) 94 = some (94, .ifCond .ne 13, 3, 107, 0, 0) := by decide +kernel
theorem f_77_97 : ftc (PT 77) 97 = some (97, .aload_n 0, 1, 0, 0, 0) := by decide +kernel
theorem f_77_98 : ftc (PT 77) 98 = some (98, .getfield 15, 3, 10, 1, 250) := by decide +kernel
theorem f_77_101 : ftc (PT 77) 101 = some (101, .lconst 0, 1, 0, 0, 0) := by decide +kernel
theorem f_77_102 : ftc (PT 77) 102 = some (102, .lcmp, 1, 0, 0, 0) := by decide +kernel
theorem f_77_103 : ftc (PT 77) 103 = some (103, .ifCond .ne 4, 3, 107, 0, 0) := by decide +kernel
theorem f_77_106 : ftc (PT 77) 106 = some (106, .return_, 1, 0, 0, 0) := by decide +kernel
theorem f_77_107 : ftc (PT 77) 107 = some (107, .lload 4, 2, 0, 0, 0) := by decide +kernel
theorem f_77_109 : ftc (PT 77) 109 = some (109, .aload_n 0, 1, 0, 0, 0) := by decide +kernel
theorem f_77_110 : ftc (PT 77) 110 = some (110, .getfield 18, 3, 10, 2, 252) := by decide +kernel
theorem f_77_113 : ftc (PT 77) 113 = some (113, .lmul, 1, 0, 0, 0) := by decide +kernel
theorem f_77_114 : ftc (PT 77) 114 = some (114, .lload_n 2, 1, 0, 0, 0) := by decide +kernel
theorem f_77_115 : ftc (PT 77) 115 = some (115, .aload_n 0, 1, 0, 0, 0) := by decide +kernel
theorem f_77_116 : ftc (PT 77) 116 = some (116, .getfield 15, 3, 10, 1, 250) := by decide +kernel
theorem f_77_119 : ftc (PT 77) 119 = some (119, .lmul, 1, 0, 0, 0) := by decide +kernel
theorem f_77_120 : ftc (PT 77) 120 = some (120, .lsub, 1, 0, 0, 0) := by decide +kernel
theorem f_77_121 : ftc (PT 77) 121 = some (121, .lstore 6, 2, 0, 0, 0) := by decide +kernel
theorem f_77_123 : ftc (PT 77) 123 = some (123, .aload_n 0, 1, 0, 0, 0) := by decide +kernel
theorem f_77_124 : ftc (PT 77) 124 = some (124, .lload 4, 2, 0, 0, 0) := by decide +kernel
theorem f_77_126 : ftc (PT 77) 126 = some (126, .aload_n 0, 1, 0, 0, 0) := by decide +kernel
theorem f_77_127 : ftc (PT 77) 127 = some (127, .getfield 21, 3, 10, 3, 254) := by decide +kernel
theorem f_77_130 : ftc (PT 77) 130 = some (130, .lmul, 1, 0, 0, 0) := by decide +kernel
theorem f_77_131 : ftc (PT 77) 131 = some (131, .lload_n 2, 1, 0, 0, 0) := by decide +kernel
theorem f_77_132 : ftc (PT 77) 132 = some (132, .aload_n 0, 1, 0, 0, 0) := by decide +kernel
theorem f_77_133 : ftc (PT 77) 133 = some (133, .getfield 9, 3, 10, 0, 248) := by decide +kernel
theorem f_77_136 : ftc (PT 77) 136 = some (136, .lmul, 1, 0, 0, 0) := by decide +kernel
theorem f_77_137 : ftc (PT 77) 137 = some (137, .ladd, 1, 0, 0, 0) := by decide +kernel
theorem f_77_138 : ftc (PT 77) 138 = some (138, .putfield 21, 3, 10, 3, 254) := by decide +kernel
theorem f_77_141 : ftc (PT 77) 141 = some (141, .aload_n 0, 1, 0, 0, 0) := by decide +kernel
theorem f_77_142 : ftc (PT 77) 142 = some (142, .lload 6, 2, 0, 0, 0) := by decide +kernel
theorem f_77_144 : ftc (PT 77) 144 = some (144, .putfield 18, 3, 10, 2, 252) := by decide +kernel
theorem f_77_147 : ftc (PT 77) 147 = some (147, .aload_n 0, 1, 0, 0, 0) := by decide +kernel
theorem f_77_148 : ftc (PT 77) 148 = some (148, .lload 4, 2, 0, 0, 0) := by decide +kernel
theorem f_77_150 : ftc (PT 77) 150 = some (150, .aload_n 0, 1, 0, 0, 0) := by decide +kernel
theorem f_77_151 : ftc (PT 77) 151 = some (151, .getfield 9, 3, 10, 0, 248) := by decide +kernel
theorem f_77_154 : ftc (PT 77) 154 = some (154, .lmul, 1, 0, 0, 0) := by decide +kernel
theorem f_77_155 : ftc (PT 77) 155 = some (155, .putfield 9, 3, 10, 0, 248) := by decide +kernel
theorem f_77_158 : ftc (PT 77) 158 = some (158, .aload_n 0, 1, 0, 0, 0) := by decide +kernel
theorem f_77_159 : ftc (PT 77) 159 = some (159, .lload 4, 2, 0, 0, 0) := by decide +kernel
theorem f_77_161 : ftc (PT 77) 161 = some (161, .aload_n 0, 1, 0, 0, 0) := by decide +kernel
theorem f_77_162 : ftc (PT 77) 162 = some (162, .getfield 15, 3, 10, 1, 250) := by decide +kernel
theorem f_77_165 : ftc (PT 77) 165 = some (165, .lmul, 1, 0, 0, 0) := by decide +kernel
theorem f_77_166 : ftc (PT 77) 166 = some (166, .putfield 15, 3, 10, 1, 250) := by decide +kernel
theorem f_77_169 : ftc (PT 77) 169 = some (169, .return_, 1, 0, 0, 0) := by decide +kernel
theorem f_78_0 : ftc (PT 78) 0 = some (0, .aload_n 0, 1, 0, 0, 0) := by decide +kernel
theorem f_78_1 : ftc (PT 78) 1 = some (1, .getfield 9, 3, 10, 0, 248) := by decide +kernel
theorem f_78_4 : ftc (PT 78) 4 = some (4, .aload_n 0, 1, 0, 0, 0) := by decide +kernel
theorem f_78_5 : ftc (PT 78) 5 = some (5, .getfield 18, 3, 10, 2, 252) := by decide +kernel
theorem f_78_8 : ftc (PT 78) 8 = some (8, .lsub, 1, 0, 0, 0) := by decide +kernel
theorem f_78_9 : ftc (PT 78) 9 = some (9, .lstore_n 1, 1, 0, 0, 0) := by decide +kernel
theorem f_78_10 : ftc (PT 78) 10 = some (10, .aload_n 0, 1, 0, 0, 0) := by decide +kernel
theorem f_78_11 : ftc (PT 78) 11 = some (11, .getfield 15, 3, 10, 1, 250) := by decide +kernel
theorem f_78_14 : ftc (PT 78) 14 = some (14, .aload_n 0, 1, 0, 0, 0) := by decide +kernel
theorem f_78_15 : ftc (PT 78) 15 = some (15, .getfield 21, 3, 10, 3, 254) := by decide +kernel
theorem f_78_18 : ftc (PT 78) 18 = some (18, .lsub, 1, 0, 0, 0) := by decide +kernel
theorem f_78_19 : ftc (PT 78) 19 = some (19, .lstore_n 3, 1, 0, 0, 0) := by decide +kernel
theorem f_78_20 : ftc (PT 78) 20 = some (20, .lload_n 1, 1, 0, 0, 0) := by decide +kernel
theorem f_78_21 : ftc (PT 78) 21 = some (21, .lload_n 1, 1, 0, 0, 0) := by decide +kernel
theorem f_78_22 : ftc (PT 78) 22 = some (22, .lmul, 1, 0, 0, 0) := by decide +kernel
theorem f_78_23 : ftc (PT 78) 23 = some (23, .lload_n 3, 1, 0, 0, 0) := by decide +kernel
theorem f_78_24 : ftc (PT 78) 24 = some (24, .lload_n 3, 1, 0, 0, 0) := by decide +kernel
theorem f_78_25 : ftc (PT 78) 25 = some (25, .lmul, 1, 0, 0, 0) := by decide +kernel
theorem f_78_26 : ftc (PT 78) 26 = some (26, .ladd, 1, 0, 0, 0) := by decide +kernel
theorem f_78_27 : ftc (PT 78) 27 = some (27, .lreturn, 1, 0, 0, 0) := by decide +kernel
theorem f_79_0 : ftc (PT 79) 0 = some (0, .aload_n 0, 1, 0, 0, 0) := by decide +kernel
theorem f_79_1 : ftc (PT 79) 1 = some (1, .getfield 9, 3, 10, 0, 248) := by decide +kernel
theorem f_79_4 : ftc (PT 79) 4 = some (4, .aload_n 0, 1, 0, 0, 0) := by decide +kernel
theorem f_79_5 : ftc (PT 79) 5 = some (5, .getfield 18, 3, 10, 2, 252) := by decide +kernel
theorem f_79_8 : ftc (PT 79) 8 = some (8, .ladd, 1, 0, 0, 0) := by decide +kernel
theorem f_79_9 : ftc (PT 79) 9 = some (9, .lstore_n 1, 1, 0, 0, 0) := by decide +kernel
theorem f_79_10 : ftc (PT 79) 10 = some (10, .aload_n 0, 1, 0, 0, 0) := by decide +kernel
theorem f_79_11 : ftc (PT 79) 11 = some (11, .getfield 15, 3, 10, 1, 250) := by decide +kernel
theorem f_79_14 : ftc (PT 79) 14 = some (14, .aload_n 0, 1, 0, 0, 0) := by decide +kernel
theorem f_79_15 : ftc (PT 79) 15 = some (15, .getfield 21, 3, 10, 3, 254) := by decide +kernel
theorem f_79_18 : ftc (PT 79) 18 = some (18, .ladd, 1, 0, 0, 0) := by decide +kernel
theorem f_79_19 : ftc (PT 79) 19 = some (19, .lstore_n 3, 1, 0, 0, 0) := by decide +kernel
theorem f_79_20 : ftc (PT 79) 20 = some (20, .lload_n 1, 1, 0, 0, 0) := by decide +kernel
theorem f_79_21 : ftc (PT 79) 21 = some (21, .lload_n 1, 1, 0, 0, 0) := by decide +kernel
theorem f_79_22 : ftc (PT 79) 22 = some (22, .lmul, 1, 0, 0, 0) := by decide +kernel
theorem f_79_23 : ftc (PT 79) 23 = some (23, .lload_n 3, 1, 0, 0, 0) := by decide +kernel
theorem f_79_24 : ftc (PT 79) 24 = some (24, .lload_n 3, 1, 0, 0, 0) := by decide +kernel
theorem f_79_25 : ftc (PT 79) 25 = some (25, .lmul, 1, 0, 0, 0) := by decide +kernel
theorem f_79_26 : ftc (PT 79) 26 = some (26, .ladd, 1, 0, 0, 0) := by decide +kernel
theorem f_79_27 : ftc (PT 79) 27 = some (27, .lreturn, 1, 0, 0, 0) := by decide +kernel
theorem f_88_30 : ftc (PT 88) 30 = some (30, .aload_n 0, 1, 0, 0, 0) := by decide +kernel
theorem f_88_31 : ftc (PT 88) 31 = some (31, .getfield 108, 3, 11, 18, 486) := by decide +kernel
theorem f_88_34 : ftc (PT 88) 34 = some (34, .iload_n 1, 1, 0, 0, 0) := by decide +kernel
theorem f_88_35 : ftc (PT 88) 35 = some (35, .iaload, 1, 0, 0, 0) := by decide +kernel
theorem f_88_36 : ftc (PT 88) 36 = some (36, .ireturn, 1, 0, 0, 0) := by decide +kernel
theorem f_90_0 : ftc (PT 90) 0 = some (0, .aload_n 0, 1, 0, 0, 0) := by decide +kernel
theorem f_90_1 : ftc (PT 90) 1 = some (1, .getfield 49, 3, 11, 8, 476) := by decide +kernel
theorem f_90_4 : ftc (PT 90) 4 = some (4, .aload_n 0, 1, 0, 0, 0) := by decide +kernel
theorem f_90_5 : ftc (PT 90) 5 = some (5, .getfield 19, 3, 11, 1, 469) := by decide +kernel
theorem f_90_8 : ftc (PT 90) 8 = some (8, .getfield 156, 3, 2, 0, 214) := by decide +kernel
theorem f_90_11 : ftc (PT 90) 11 = some (11, .i2l, 1, 0, 0, 0) := by decide +kernel
theorem f_90_12 : ftc (PT 90) 12 = some (12, .aload_n 0, 1, 0, 0, 0) := by decide +kernel
theorem f_90_13 : ftc (PT 90) 13 = some (13, .getfield 19, 3, 11, 1, 469) := by decide +kernel
theorem f_90_16 : ftc (PT 90) 16 = some (16, .getfield 159, 3, 2, 1, 216) := by decide +kernel
theorem f_90_19 : ftc (PT 90) 19 = some (19, .i2l, 1, 0, 0, 0) := by decide +kernel
theorem f_90_20 : ftc (PT 90) 20 = some (20, .aload_n 0, 1, 0, 0, 0) := by decide +kernel
theorem f_90_21 : ftc (PT 90) 21 = some (21, .getfield 19, 3, 11, 1, 469) := by decide +kernel
theorem f_90_24 : ftc (PT 90) 24 = some (24, .getfield 162, 3, 2, 2, 218) := by decide +kernel
theorem f_90_27 : ftc (PT 90) 27 = some (27, .i2l, 1, 0, 0, 0) := by decide +kernel
theorem f_90_28 : ftc (PT 90) 28 = some (28, .invokevirtual 487, 3, 74, 7274, 545) := by decide +kernel
theorem f_90_31 : ftc (PT 90) 31 = some (31, .iconst 0, 1, 0, 0, 0) := by decide +kernel
theorem f_90_32 : ftc (PT 90) 32 = some (32, .istore_n 1, 1, 0, 0, 0) := by decide +kernel
theorem f_90_33 : ftc (PT 90) 33 = some (33, .iload_n 1, 1, 0, 0, 0) := by decide +kernel
theorem f_90_34 : ftc (PT 90) 34 = some (34, .aload_n 0, 1, 0, 0, 0) := by decide +kernel
theorem f_90_35 : ftc (PT 90) 35 = some (35, .getfield 19, 3, 11, 1, 469) := by decide +kernel
theorem f_90_38 : ftc (PT 90) 38 = some (38, .getfield 127, 3, 2, 3, 221) := by decide +kernel
theorem f_90_41 : ftc (PT 90) 41 = some (41, .if_icmp .ge 58, 3, 99, 0, 0) := by decide +kernel
theorem f_90_44 : ftc (PT 90) 44 = some (44, .iload_n 1, 1, 0, 0, 0) := by decide +kernel
theorem f_90_45 : ftc (PT 90) 45 = some (45, .aload_n 0, 1, 0, 0, 0) := by decide +kernel
theorem f_90_46 : ftc (PT 90) 46 = some (46, .getfield 104, 3, 11, 17, 485) := by decide +kernel
theorem f_90_49 : ftc (PT 90) 49 = some (49, .arraylength, 1, 0, 0, 0) := by decide +kernel
theorem f_90_50 : ftc (PT 90) 50 = some (50, .if_icmp .ge 49, 3, 99, 0, 0) := by decide +kernel
theorem f_90_53 : ftc (PT 90) 53 = some (53, .aload_n 0, 1, 0, 0, 0) := by decide +kernel
theorem f_90_54 : ftc (PT 90) 54 = some (54, .getfield 104, 3, 11, 17, 485) := by decide +kernel
theorem f_90_57 : ftc (PT 90) 57 = some (57, .iload_n 1, 1, 0, 0, 0) := by decide +kernel
theorem f_90_58 : ftc (PT 90) 58 = some (58, .iaload, 1, 0, 0, 0) := by decide +kernel
theorem f_90_59 : ftc (PT 90) 59 = some (59, .istore_n 2, 1, 0, 0, 0) := by decide +kernel
theorem f_90_60 : ftc (PT 90) 60 = some (60, .aload_n 0, 1, 0, 0, 0) := by decide +kernel
theorem f_90_61 : ftc (PT 90) 61 = some (61, .getfield 49, 3, 11, 8, 476) := by decide +kernel
theorem f_90_64 : ftc (PT 90) 64 = some (64, .aload_n 0, 1, 0, 0, 0) := by decide +kernel
theorem f_90_65 : ftc (PT 90) 65 = some (65, .getfield 19, 3, 11, 1, 469) := by decide +kernel
theorem f_90_68 : ftc (PT 90) 68 = some (68, .iload_n 2, 1, 0, 0, 0) := by decide +kernel
theorem f_90_69 : ftc (PT 90) 69 = some (69, .invokevirtual 146, 3, 12, 2082, 549) := by decide +kernel
theorem f_90_72 : ftc (PT 90) 72 = some (72, .aload_n 0, 1, 0, 0, 0) := by decide +kernel
theorem f_90_73 : ftc (PT 90) 73 = some (73, .getfield 19, 3, 11, 1, 469) := by decide +kernel
theorem f_90_76 : ftc (PT 90) 76 = some (76, .iload_n 2, 1, 0, 0, 0) := by decide +kernel
theorem f_90_77 : ftc (PT 90) 77 = some (77, .invokevirtual 150, 3, 14, 2082, 557) := by decide +kernel
theorem f_90_80 : ftc (PT 90) 80 = some (80, .i2l, 1, 0, 0, 0) := by decide +kernel
theorem f_90_81 : ftc (PT 90) 81 = some (81, .aload_n 0, 1, 0, 0, 0) := by decide +kernel
theorem f_90_82 : ftc (PT 90) 82 = some (82, .getfield 19, 3, 11, 1, 469) := by decide +kernel
theorem f_90_85 : ftc (PT 90) 85 = some (85, .iload_n 2, 1, 0, 0, 0) := by decide +kernel
theorem f_90_86 : ftc (PT 90) 86 = some (86, .invokevirtual 153, 3, 15, 2082, 561) := by decide +kernel
theorem f_90_89 : ftc (PT 90) 89 = some (89, .i2l, 1, 0, 0, 0) := by decide +kernel
theorem f_90_90 : ftc (PT 90) 90 = some (90, .invokevirtual 491, 3, 75, 6250, 565) := by decide +kernel
theorem f_90_93 : ftc (PT 90) 93 = some (93, .iinc 1 1, 3, 0, 0, 0) := by decide +kernel
theorem f_90_96 : ftc (PT 90) 96 = some (96, .goto (-63), 3, 33, 0, 0) := by decide +kernel
theorem f_90_99 : ftc (PT 90) 99 = some (99, .aload_n 0, 1, 0, 0, 0) := by decide +kernel
theorem f_90_100 : ftc (PT 90) 100 = some (100, .getfield 83, 3, 11, 13, 481) := by decide +kernel
theorem f_90_103 : ftc (PT 90) 103 = some (103, .aload_n 0, 1, 0, 0, 0) := by decide +kernel
theorem f_90_104 : ftc (PT 90) 104 = some (104, .getfield 49, 3, 11, 8, 476) := by decide +kernel
theorem f_90_107 : ftc (PT 90) 107 = some (107, .invokevirtual 222, 3, 78, 5130, 577) := by decide +kernel
theorem f_90_110 : ftc (PT 90) 110 = some (110, .aload_n 0, 1, 0, 0, 0) := by decide +kernel
theorem f_90_111 : ftc (PT 90) 111 = some (111, .getfield 49, 3, 11, 8, 476) := by decide +kernel
theorem f_90_114 : ftc (PT 90) 114 = some (114, .invokevirtual 225, 3, 79, 5130, 581) := by decide +kernel
theorem f_90_117 : ftc (PT 90) 117 = some (117, .invokevirtual 588, 3, 2, 5184, 585) := by decide +kernel
theorem f_90_120 : ftc (PT 90) 120 = some (120, .ifCond .eq 17, 3, 137, 0, 0) := by decide +kernel
theorem f_90_123 : ftc (PT 90) 123 = some (123, .aload_n 0, 1, 0, 0, 0) := by decide +kernel
theorem f_90_124 : ftc (PT 90) 124 = some (124, .getfield 104, 3, 11, 17, 485) := by decide +kernel
theorem f_90_127 : ftc (PT 90) 127 = some (127, .iconst 0, 1, 0, 0, 0) := by decide +kernel
theorem f_90_128 : ftc (PT 90) 128 = some (128, .aload_n 0, 1, 0, 0, 0) := by decide +kernel
theorem f_90_129 : ftc (PT 90) 129 = some (129, .getfield 108, 3, 11, 18, 486) := by decide +kernel
theorem f_90_132 : ftc (PT 90) 132 = some (132, .iconst 0, 1, 0, 0, 0) := by decide +kernel
theorem f_90_133 : ftc (PT 90) 133 = some (133, .iconst 4, 1, 0, 0, 0) := by decide +kernel
theorem f_90_134 : ftc (PT 90) 134 = some (134, .invokestatic 638, 3, 1001, 5, 596) := by decide +kernel
theorem f_90_137 : ftc (PT 90) 137 = some (137, .return_, 1, 0, 0, 0) := by decide +kernel
theorem f_91_0 : ftc (PT 91) 0 = some (0, .iload_n 1, 1, 0, 0, 0) := by decide +kernel
theorem f_91_1 : ftc (PT 91) 1 = some (1, .iconst 2, 1, 0, 0, 0) := by decide +kernel
theorem f_91_2 : ftc (PT 91) 2 = some (2, .isub, 1, 0, 0, 0) := by decide +kernel
theorem f_91_3 : ftc (PT 91) 3 = some (3, .istore_n 2, 1, 0, 0, 0) := by decide +kernel
theorem f_91_4 : ftc (PT 91) 4 = some (4, .iload_n 2, 1, 0, 0, 0) := by decide +kernel
theorem f_91_5 : ftc (PT 91) 5 = some (5, .ifCond .lt 26, 3, 31, 0, 0) := by decide +kernel
theorem f_91_8 : ftc (PT 91) 8 = some (8, .aload_n 0, 1, 0, 0, 0) := by decide +kernel
theorem f_91_9 : ftc (PT 91) 9 = some (9, .getfield 104, 3, 11, 17, 485) := by decide +kernel
theorem f_91_12 : ftc (PT 91) 12 = some (12, .iload_n 2, 1, 0, 0, 0) := by decide +kernel
theorem f_91_13 : ftc (PT 91) 13 = some (13, .iaload, 1, 0, 0, 0) := by decide +kernel
theorem f_91_14 : ftc (PT 91) 14 = some (14, .aload_n 0, 1, 0, 0, 0) := by decide +kernel
theorem f_91_15 : ftc (PT 91) 15 = some (15, .getfield 104, 3, 11, 17, 485) := by decide +kernel
theorem f_91_18 : ftc (PT 91) 18 = some (18, .iload_n 2, 1, 0, 0, 0) := by decide +kernel
theorem f_91_19 : ftc (PT 91) 19 = some (19, .iconst 1, 1, 0, 0, 0) := by decide +kernel
theorem f_91_20 : ftc (PT 91) 20 = some (20, .iadd, 1, 0, 0, 0) := by decide +kernel
theorem f_91_21 : ftc (PT 91) 21 = some (21, .iaload, 1, 0, 0, 0) := by decide +kernel
theorem f_91_22 : ftc (PT 91) 22 = some (22, .if_icmp .le 9, 3, 31, 0, 0) := by decide +kernel
theorem f_91_25 : ftc (PT 91) 25 = some (25, .iinc 2 (-1), 3, 0, 0, 0) := by decide +kernel
theorem f_91_28 : ftc (PT 91) 28 = some (28, .goto (-24), 3, 4, 0, 0) := by decide +kernel
theorem f_91_31 : ftc (PT 91) 31 = some (31, .iload_n 2, 1, 0, 0, 0) := by decide +kernel
theorem f_91_32 : ftc (PT 91) 32 = some (32, .ifCond .ge 5, 3, 37, 0, 0) := by decide +kernel
theorem f_91_35 : ftc (PT 91) 35 = some (35, .iconst 0, 1, 0, 0, 0) := by decide +kernel
theorem f_91_36 : ftc (PT 91) 36 = some (36, .ireturn, 1, 1, 0, 0) := by decide +kernel
theorem f_91_37 : ftc (PT 91) 37 = some (37, .iload_n 1, 1, 0, 0, 0) := by decide +kernel
theorem f_91_38 : ftc (PT 91) 38 = some (38, .iconst 1, 1, 0, 0, 0) := by decide +kernel
theorem f_91_39 : ftc (PT 91) 39 = some (39, .isub, 1, 0, 0, 0) := by decide +kernel
theorem f_91_40 : ftc (PT 91) 40 = some (40, .istore_n 3, 1, 0, 0, 0) := by decide +kernel
theorem f_91_41 : ftc (PT 91) 41 = some (41, .iload_n 3, 1, 0, 0, 0) := by decide +kernel
theorem f_91_42 : ftc (PT 91) 42 = some (42, .iload_n 2, 1, 0, 0, 0) := by decide +kernel
theorem f_91_43 : ftc (PT 91) 43 = some (43, .if_icmp .le 24, 3, 67, 0, 0) := by decide +kernel
theorem f_91_46 : ftc (PT 91) 46 = some (46, .aload_n 0, 1, 0, 0, 0) := by decide +kernel
theorem f_91_47 : ftc (PT 91) 47 = some (47, .getfield 104, 3, 11, 17, 485) := by decide +kernel
theorem f_91_50 : ftc (PT 91) 50 = some (50, .iload_n 3, 1, 0, 0, 0) := by decide +kernel
theorem f_91_51 : ftc (PT 91) 51 = some (51, .iaload, 1, 0, 0, 0) := by decide +kernel
theorem f_91_52 : ftc (PT 91) 52 = some (52, .aload_n 0, 1, 0, 0, 0) := by decide +kernel
theorem f_91_53 : ftc (PT 91) 53 = some (53, .getfield 104, 3, 11, 17, 485) := by decide +kernel
theorem f_91_56 : ftc (PT 91) 56 = some (56, .iload_n 2, 1, 0, 0, 0) := by decide +kernel
theorem f_91_57 : ftc (PT 91) 57 = some (57, .iaload, 1, 0, 0, 0) := by decide +kernel
theorem f_91_58 : ftc (PT 91) 58 = some (58, .if_icmp .ge 9, 3, 67, 0, 0) := by decide +kernel
theorem f_91_61 : ftc (PT 91) 61 = some (61, .iinc 3 (-1), 3, 0, 0, 0) := by decide +kernel
theorem f_91_64 : ftc (PT 91) 64 = some (64, .goto (-23), 3, 41, 0, 0) := by decide +kernel
theorem f_91_67 : ftc (PT 91) 67 = some (67, .aload_n 0, 1, 0, 0, 0) := by decide +kernel
theorem f_91_68 : ftc (PT 91) 68 = some (68, .iload_n 2, 1, 0, 0, 0) := by decide +kernel
theorem f_91_69 : ftc (PT 91) 69 = some (69, .iload_n 3, 1, 0, 0, 0) := by decide +kernel
theorem f_91_70 : ftc (PT 91) 70 = some (70, .invokevirtual 644, 3, 92, 4171, 603) := by decide +kernel
theorem f_91_73 : ftc (PT 91) 73 = some (73, .iload_n 2, 1, 0, 0, 0) := by decide +kernel
theorem f_91_74 : ftc (PT 91) 74 = some (74, .iconst 1, 1, 0, 0, 0) := by decide +kernel
theorem f_91_75 : ftc (PT 91) 75 = some (75, .iadd, 1, 0, 0, 0) := by decide +kernel
theorem f_91_76 : ftc (PT 91) 76 = some (76, .istore 4, 2, 0, 0, 0) := by decide +kernel
theorem f_91_78 : ftc (PT 91) 78 = some (78, .iload_n 1, 1, 0, 0, 0) := by decide +kernel
theorem f_91_79 : ftc (PT 91) 79 = some (79, .iconst 1, 1, 0, 0, 0) := by decide +kernel
theorem f_91_80 : ftc (PT 91) 80 = some (80, .isub, 1, 0, 0, 0) := by decide +kernel
theorem f_91_81 : ftc (PT 91) 81 = some (81, .istore 5, 2, 0, 0, 0) := by decide +kernel
theorem f_91_83 : ftc (PT 91) 83 = some (83, .iload 4, 2, 0, 0, 0) := by decide +kernel
theorem f_91_85 : ftc (PT 91) 85 = some (85, .iload 5, 2, 0, 0, 0) := by decide +kernel
theorem f_91_87 : ftc (PT 91) 87 = some (87, .if_icmp .ge 20, 3, 107, 0, 0) := by decide +kernel
theorem f_91_90 : ftc (PT 91) 90 = some (90, .aload_n 0, 1, 0, 0, 0) := by decide +kernel
theorem f_91_91 : ftc (PT 91) 91 = some (91, .iload 4, 2, 0, 0, 0) := by decide +kernel
theorem f_91_93 : ftc (PT 91) 93 = some (93, .iload 5, 2, 0, 0, 0) := by decide +kernel
theorem f_91_95 : ftc (PT 91) 95 = some (95, .invokevirtual 644, 3, 92, 4171, 603) := by decide +kernel
theorem f_91_98 : ftc (PT 91) 98 = some (98, .iinc 4 1, 3, 0, 0, 0) := by decide +kernel
theorem f_91_101 : ftc (PT 91) 101 = some (101, .iinc 5 (-1), 3, 0, 0, 0) := by decide +kernel
theorem f_91_104 : ftc (PT 91) 104 = some (104, .goto (-21), 3, 83, 0, 0) := by decide +kernel
theorem f_91_107 : ftc (PT 91) 107 = some (107, .iconst 1, 1, 0, 0, 0) := by decide +kernel
theorem f_91_108 : ftc (PT 91) 108 = some (108, .ireturn, 1, 1, 0, 0) := by decide +kernel
theorem f_92_0 : ftc (PT 92) 0 = some (0, .iload_n 1, 1, 0, 0, 0) := by decide +kernel
theorem f_92_1 : ftc (PT 92) 1 = some (1, .ifCond .lt 25, 3, 26, 0, 0) := by decide +kernel
theorem f_92_4 : ftc (PT 92) 4 = some (4, .iload_n 2, 1, 0, 0, 0) := by decide +kernel
theorem f_92_5 : ftc (PT 92) 5 = some (5, .ifCond .lt 21, 3, 26, 0, 0) := by decide +kernel
theorem f_92_8 : ftc (PT 92) 8 = some (8, .iload_n 1, 1, 0, 0, 0) := by decide +kernel
theorem f_92_9 : ftc (PT 92) 9 = some (9, .aload_n 0, 1, 0, 0, 0) := by decide +kernel
theorem f_92_10 : ftc (PT 92) 10 = some (10, .getfield 104, 3, 11, 17, 485) := by decide +kernel
theorem f_92_13 : ftc (PT 92) 13 = some (13, .arraylength, 1, 0, 0, 0) := by decide +kernel
theorem f_92_14 : ftc (PT 92) 14 = some (14, .if_icmp .ge 12, 3, 26, 0, 0) := by decide +kernel
theorem f_92_17 : ftc (PT 92) 17 = some (17, .iload_n 2, 1, 0, 0, 0) := by decide +kernel
theorem f_92_18 : ftc (PT 92) 18 = some (18, .aload_n 0, 1, 0, 0, 0) := by decide +kernel
theorem f_92_19 : ftc (PT 92) 19 = some (19, .getfield 104, 3, 11, 17, 485) := by decide +kernel
theorem f_92_22 : ftc (PT 92) 22 = some (22, .arraylength, 1, 0, 0, 0) := by decide +kernel
theorem f_92_23 : ftc (PT 92) 23 = some (23, .if_icmp .lt 4, 3, 27, 0, 0) := by decide +kernel
theorem f_92_26 : ftc (PT 92) 26 = some (26, .return_, 1, 0, 0, 0) := by decide +kernel
theorem f_92_27 : ftc (PT 92) 27 = some (27, .aload_n 0, 1, 0, 0, 0) := by decide +kernel
theorem f_92_28 : ftc (PT 92) 28 = some (28, .getfield 104, 3, 11, 17, 485) := by decide +kernel
theorem f_92_31 : ftc (PT 92) 31 = some (31, .iload_n 1, 1, 0, 0, 0) := by decide +kernel
theorem f_92_32 : ftc (PT 92) 32 = some (32, .iaload, 1, 0, 0, 0) := by decide +kernel
theorem f_92_33 : ftc (PT 92) 33 = some (33, .istore_n 3, 1, 0, 0, 0) := by decide +kernel
theorem f_92_34 : ftc (PT 92) 34 = some (34, .aload_n 0, 1, 0, 0, 0) := by decide +kernel
theorem f_92_35 : ftc (PT 92) 35 = some (35, .getfield 104, 3, 11, 17, 485) := by decide +kernel
theorem f_92_38 : ftc (PT 92) 38 = some (38, .iload_n 1, 1, 0, 0, 0) := by decide +kernel
theorem f_92_39 : ftc (PT 92) 39 = some (39, .aload_n 0, 1, 0, 0, 0) := by decide +kernel
theorem f_92_40 : ftc (PT 92) 40 = some (40, .getfield 104, 3, 11, 17, 485) := by decide +kernel
theorem f_92_43 : ftc (PT 92) 43 = some (43, .iload_n 2, 1, 0, 0, 0) := by decide +kernel
theorem f_92_44 : ftc (PT 92) 44 = some (44, .iaload, 1, 0, 0, 0) := by decide +kernel
theorem f_92_45 : ftc (PT 92) 45 = some (45, .iastore, 1, 0, 0, 0) := by decide +kernel
theorem f_92_46 : ftc (PT 92) 46 = some (46, .aload_n 0, 1, 0, 0, 0) := by decide +kernel
theorem f_92_47 : ftc (PT 92) 47 = some (47, .getfield 104, 3, 11, 17, 485) := by decide +kernel
theorem f_92_50 : ftc (PT 92) 50 = some (50, .iload_n 2, 1, 0, 0, 0) := by decide +kernel
theorem f_92_51 : ftc (PT 92) 51 = some (51, .iload_n 3, 1, 0, 0, 0) := by decide +kernel
theorem f_92_52 : ftc (PT 92) 52 = some (52, .iastore, 1, 0, 0, 0) := by decide +kernel
theorem f_92_53 : ftc (PT 92) 53 = some (53, .return_, 1, 0, 0, 0) := by decide +kernel
theorem f_93_4 : ftc (PT 93) 4 = some (4, .aload_n 0, 1, 0, 0, 0) := by decide +kernel
theorem f_93_5 : ftc (PT 93) 5 = some (5, .getfield 23, 3, 11, 2, 470) := by decide +kernel
theorem f_93_8 : ftc (PT 93) 8 = some (8, .aload_n 0, 1, 0, 0, 0) := by decide +kernel
theorem f_93_9 : ftc (PT 93) 9 = some (9, .getfield 19, 3, 11, 1, 469) := by decide +kernel
theorem f_93_12 : ftc (PT 93) 12 = some (12, .invokevirtual 189, 3, 16, 2082, 611) := by decide +kernel
theorem f_93_15 : ftc (PT 93) 15 = some (15, .iconst 0, 1, 0, 0, 0) := by decide +kernel
theorem f_93_16 : ftc (PT 93) 16 = some (16, .istore_n 1, 1, 0, 0, 0) := by decide +kernel
theorem f_93_17 : ftc (PT 93) 17 = some (17, .iload_n 1, 1, 0, 0, 0) := by decide +kernel
theorem f_93_18 : ftc (PT 93) 18 = some (18, .aload_n 0, 1, 0, 0, 0) := by decide +kernel
theorem f_93_19 : ftc (PT 93) 19 = some (19, .getfield 19, 3, 11, 1, 469) := by decide +kernel
theorem f_93_22 : ftc (PT 93) 22 = some (22, .getfield 127, 3, 2, 3, 221) := by decide +kernel
theorem f_93_25 : ftc (PT 93) 25 = some (25, .if_icmp .ge 36, 3, 61, 0, 0) := by decide +kernel
theorem f_93_28 : ftc (PT 93) 28 = some (28, .iload_n 1, 1, 0, 0, 0) := by decide +kernel
theorem f_93_29 : ftc (PT 93) 29 = some (29, .aload_n 0, 1, 0, 0, 0) := by decide +kernel
theorem f_93_30 : ftc (PT 93) 30 = some (30, .getfield 108, 3, 11, 18, 486) := by decide +kernel
theorem f_93_33 : ftc (PT 93) 33 = some (33, .arraylength, 1, 0, 0, 0) := by decide +kernel
theorem f_93_34 : ftc (PT 93) 34 = some (34, .if_icmp .ge 27, 3, 61, 0, 0) := by decide +kernel
theorem f_93_37 : ftc (PT 93) 37 = some (37, .aload_n 0, 1, 0, 0, 0) := by decide +kernel
theorem f_93_38 : ftc (PT 93) 38 = some (38, .getfield 19, 3, 11, 1, 469) := by decide +kernel
theorem f_93_41 : ftc (PT 93) 41 = some (41, .iload_n 1, 1, 0, 0, 0) := by decide +kernel
theorem f_93_42 : ftc (PT 93) 42 = some (42, .aload_n 0, 1, 0, 0, 0) := by decide +kernel
theorem f_93_43 : ftc (PT 93) 43 = some (43, .getfield 23, 3, 11, 2, 470) := by decide +kernel
theorem f_93_46 : ftc (PT 93) 46 = some (46, .aload_n 0, 1, 0, 0, 0) := by decide +kernel
theorem f_93_47 : ftc (PT 93) 47 = some (47, .getfield 108, 3, 11, 18, 486) := by decide +kernel
theorem f_93_50 : ftc (PT 93) 50 = some (50, .iload_n 1, 1, 0, 0, 0) := by decide +kernel
theorem f_93_51 : ftc (PT 93) 51 = some (51, .iaload, 1, 0, 0, 0) := by decide +kernel
theorem f_93_52 : ftc (PT 93) 52 = some (52, .invokevirtual 421, 3, 18, 4194, 620) := by decide +kernel
theorem f_93_55 : ftc (PT 93) 55 = some (55, .iinc 1 1, 3, 0, 0, 0) := by decide +kernel
theorem f_93_58 : ftc (PT 93) 58 = some (58, .goto (-41), 3, 17, 0, 0) := by decide +kernel
theorem f_93_61 : ftc (PT 93) 61 = some (61, .aload_n 0, 1, 0, 0, 0) := by decide +kernel
theorem f_93_62 : ftc (PT 93) 62 = some (62, .getfield 83, 3, 11, 13, 481) := by decide +kernel
theorem f_93_65 : ftc (PT 93) 65 = some (65, .invokevirtual 389, 3, 4, 1024, 627) := by decide +kernel
theorem f_93_68 : ftc (PT 93) 68 = some (68, .ireturn, 1, 0, 0, 0) := by decide +kernel
theorem f_94_8 : ftc (PT 94) 8 = some (8, .ireturn, 1, 0, 0, 0) := by decide +kernel
theorem f_95_0 : ftc (PT 95) 0 = some (0, .iconst (-1), 1, 0, 0, 0) := by decide +kernel
theorem f_95_1 : ftc (PT 95) 1 = some (1, .istore_n 2, 1, 0, 0, 0) := by decide +kernel
theorem f_95_2 : ftc (PT 95) 2 = some (2, .iconst 0, 1, 0, 0, 0) := by decide +kernel
theorem f_95_3 : ftc (PT 95) 3 = some (3, .istore_n 3, 1, 0, 0, 0) := by decide +kernel
theorem f_95_4 : ftc (PT 95) 4 = some (4, .iload_n 3, 1, 0, 0, 0) := by decide +kernel
theorem f_95_5 : ftc (PT 95) 5 = some (5, .bipush 10, 2, 0, 0, 0) := by decide +kernel
theorem f_95_7 : ftc (PT 95) 7 = some (7, .if_icmp .gt 32, 3, 39, 0, 0) := by decide +kernel
theorem f_95_10 : ftc (PT 95) 10 = some (10, .aload_n 0, 1, 0, 0, 0) := by decide +kernel
theorem f_95_11 : ftc (PT 95) 11 = some (11, .aload_n 1, 1, 0, 0, 0) := by decide +kernel
theorem f_95_12 : ftc (PT 95) 12 = some (12, .iload_n 3, 1, 0, 0, 0) := by decide +kernel
theorem f_95_13 : ftc (PT 95) 13 = some (13, .invokevirtual 533, 3, 96, 3147, 643) := by decide +kernel
theorem f_95_16 : ftc (PT 95) 16 = some (16, .ifCond .eq 13, 3, 29, 0, 0) := by decide +kernel
theorem f_95_19 : ftc (PT 95) 19 = some (19, .aload_n 0, 1, 0, 0, 0) := by decide +kernel
theorem f_95_20 : ftc (PT 95) 20 = some (20, .aload_n 1, 1, 0, 0, 0) := by decide +kernel
theorem f_95_21 : ftc (PT 95) 21 = some (21, .iload_n 3, 1, 0, 0, 0) := by decide +kernel
theorem f_95_22 : ftc (PT 95) 22 = some (22, .ineg, 1, 0, 0, 0) := by decide +kernel
theorem f_95_23 : ftc (PT 95) 23 = some (23, .invokevirtual 533, 3, 96, 3147, 643) := by decide +kernel
theorem f_95_26 : ftc (PT 95) 26 = some (26, .ifCond .ne 5, 3, 31, 0, 0) := by decide +kernel
theorem f_95_29 : ftc (PT 95) 29 = some (29, .iload_n 2, 1, 0, 0, 0) := by decide +kernel
theorem f_95_30 : ftc (PT 95) 30 = some (30, .ireturn, 1, 0, 0, 0) := by decide +kernel
theorem f_95_31 : ftc (PT 95) 31 = some (31, .iload_n 3, 1, 0, 0, 0) := by decide +kernel
theorem f_95_32 : ftc (PT 95) 32 = some (32, .istore_n 2, 1, 0, 0, 0) := by decide +kernel
theorem f_95_33 : ftc (PT 95) 33 = some (33, .iinc 3 1, 3, 0, 0, 0) := by decide +kernel
theorem f_95_36 : ftc (PT 95) 36 = some (36, .goto (-32), 3, 4, 0, 0) := by decide +kernel
theorem f_95_39 : ftc (PT 95) 39 = some (39, .iload_n 2, 1, 0, 0, 0) := by decide +kernel
theorem f_95_40 : ftc (PT 95) 40 = some (40, .ireturn, 1, 0, 0, 0) := by decide +kernel
theorem f_96_0 : ftc (PT 96) 0 = some (0, .aload_n 0, 1, 0, 0, 0) := by decide +kernel
theorem f_96_1 : ftc (PT 96) 1 = some (1, .aload_n 1, 1, 0, 0, 0) := by decide +kernel
theorem f_96_2 : ftc (PT 96) 2 = some (2, .iload_n 2, 1, 0, 0, 0) := by decide +kernel
theorem f_96_3 : ftc (PT 96) 3 = some (3, .invokevirtual 495, 3, 97, 4171, 647) := by decide +kernel
theorem f_96_6 : ftc (PT 96) 6 = some (6, .aload_n 0, 1, 0, 0, 0) := by decide +kernel
theorem f_96_7 : ftc (PT 96) 7 = some (7, .invokevirtual 240, 3, 98, 1035, 662) := by decide +kernel
theorem f_96_10 : ftc (PT 96) 10 = some (10, .ireturn, 1, 1, 0, 0) := by decide +kernel
theorem f_97_0 : ftc (PT 97) 0 = some (0, .aload_n 0, 1, 0, 0, 0) := by decide +kernel
theorem f_97_1 : ftc (PT 97) 1 = some (1, .getfield 42, 3, 11, 6, 474) := by decide +kernel
theorem f_97_4 : ftc (PT 97) 4 = some (4, .aload_n 1, 1, 0, 0, 0) := by decide +kernel
theorem f_97_5 : ftc (PT 97) 5 = some (5, .getfield 156, 3, 2, 0, 214) := by decide +kernel
theorem f_97_8 : ftc (PT 97) 8 = some (8, .i2l, 1, 0, 0, 0) := by decide +kernel
theorem f_97_9 : ftc (PT 97) 9 = some (9, .aload_n 1, 1, 0, 0, 0) := by decide +kernel
theorem f_97_10 : ftc (PT 97) 10 = some (10, .getfield 159, 3, 2, 1, 216) := by decide +kernel
theorem f_97_13 : ftc (PT 97) 13 = some (13, .i2l, 1, 0, 0, 0) := by decide +kernel
theorem f_97_14 : ftc (PT 97) 14 = some (14, .aload_n 1, 1, 0, 0, 0) := by decide +kernel
theorem f_97_15 : ftc (PT 97) 15 = some (15, .getfield 162, 3, 2, 2, 218) := by decide +kernel
theorem f_97_18 : ftc (PT 97) 18 = some (18, .i2l, 1, 0, 0, 0) := by decide +kernel
theorem f_97_19 : ftc (PT 97) 19 = some (19, .invokevirtual 487, 3, 74, 7274, 545) := by decide +kernel
theorem f_97_22 : ftc (PT 97) 22 = some (22, .iconst 0, 1, 0, 0, 0) := by decide +kernel
theorem f_97_23 : ftc (PT 97) 23 = some (23, .istore_n 3, 1, 0, 0, 0) := by decide +kernel
theorem f_97_24 : ftc (PT 97) 24 = some (24, .iload_n 3, 1, 0, 0, 0) := by decide +kernel
theorem f_97_25 : ftc (PT 97) 25 = some (25, .aload_n 1, 1, 0, 0, 0) := by decide +kernel
theorem f_97_26 : ftc (PT 97) 26 = some (26, .getfield 127, 3, 2, 3, 221) := by decide +kernel
theorem f_97_29 : ftc (PT 97) 29 = some (29, .if_icmp .ge 65, 3, 94, 0, 0) := by decide +kernel
theorem f_97_32 : ftc (PT 97) 32 = some (32, .aload_n 0, 1, 0, 0, 0) := by decide +kernel
theorem f_97_33 : ftc (PT 97) 33 = some (33, .getfield 62, 3, 11, 10, 478) := by decide +kernel
theorem f_97_36 : ftc (PT 97) 36 = some (36, .ldc2_w 502, 3, 651, 0, 20) := by decide +kernel
theorem f_97_39 : ftc (PT 97) 39 = some (39, .iload_n 2, 1, 0, 0, 0) := by decide +kernel
theorem f_97_40 : ftc (PT 97) 40 = some (40, .i2l, 1, 0, 0, 0) := by decide +kernel
theorem f_97_41 : ftc (PT 97) 41 = some (41, .ladd, 1, 0, 0, 0) := by decide +kernel
theorem f_97_42 : ftc (PT 97) 42 = some (42, .aload_n 1, 1, 0, 0, 0) := by decide +kernel
theorem f_97_43 : ftc (PT 97) 43 = some (43, .iload_n 3, 1, 0, 0, 0) := by decide +kernel
theorem f_97_44 : ftc (PT 97) 44 = some (44, .invokevirtual 150, 3, 14, 2082, 557) := by decide +kernel
theorem f_97_47 : ftc (PT 97) 47 = some (47, .i2l, 1, 0, 0, 0) := by decide +kernel
theorem f_97_48 : ftc (PT 97) 48 = some (48, .lmul, 1, 0, 0, 0) := by decide +kernel
theorem f_97_49 : ftc (PT 97) 49 = some (49, .ldc2_w 502, 3, 651, 0, 20) := by decide +kernel
theorem f_97_52 : ftc (PT 97) 52 = some (52, .aload_n 1, 1, 0, 0, 0) := by decide +kernel
theorem f_97_53 : ftc (PT 97) 53 = some (53, .iload_n 3, 1, 0, 0, 0) := by decide +kernel
theorem f_97_54 : ftc (PT 97) 54 = some (54, .invokevirtual 153, 3, 15, 2082, 561) := by decide +kernel
theorem f_97_57 : ftc (PT 97) 57 = some (57, .i2l, 1, 0, 0, 0) := by decide +kernel
theorem f_97_58 : ftc (PT 97) 58 = some (58, .lmul, 1, 0, 0, 0) := by decide +kernel
theorem f_97_59 : ftc (PT 97) 59 = some (59, .invokevirtual 214, 3, 25, 9283, 652) := by decide +kernel
theorem f_97_62 : ftc (PT 97) 62 = some (62, .aload_n 0, 1, 0, 0, 0) := by decide +kernel
theorem f_97_63 : ftc (PT 97) 63 = some (63, .getfield 42, 3, 11, 6, 474) := by decide +kernel
theorem f_97_66 : ftc (PT 97) 66 = some (66, .aload_n 1, 1, 0, 0, 0) := by decide +kernel
theorem f_97_67 : ftc (PT 97) 67 = some (67, .iload_n 3, 1, 0, 0, 0) := by decide +kernel
theorem f_97_68 : ftc (PT 97) 68 = some (68, .invokevirtual 146, 3, 12, 2082, 549) := by decide +kernel
theorem f_97_71 : ftc (PT 97) 71 = some (71, .aload_n 0, 1, 0, 0, 0) := by decide +kernel
theorem f_97_72 : ftc (PT 97) 72 = some (72, .getfield 62, 3, 11, 10, 478) := by decide +kernel
theorem f_97_75 : ftc (PT 97) 75 = some (75, .getfield 291, 3, 3, 0, 298) := by decide +kernel
theorem f_97_78 : ftc (PT 97) 78 = some (78, .aload_n 0, 1, 0, 0, 0) := by decide +kernel
theorem f_97_79 : ftc (PT 97) 79 = some (79, .getfield 62, 3, 11, 10, 478) := by decide +kernel
theorem f_97_82 : ftc (PT 97) 82 = some (82, .getfield 294, 3, 3, 1, 301) := by decide +kernel
theorem f_97_85 : ftc (PT 97) 85 = some (85, .invokevirtual 491, 3, 75, 6250, 565) := by decide +kernel
theorem f_97_88 : ftc (PT 97) 88 = some (88, .iinc 3 1, 3, 0, 0, 0) := by decide +kernel
theorem f_97_91 : ftc (PT 97) 91 = some (91, .goto (-67), 3, 24, 0, 0) := by decide +kernel
theorem f_97_94 : ftc (PT 97) 94 = some (94, .return_, 1, 0, 0, 0) := by decide +kernel
theorem f_98_0 : ftc (PT 98) 0 = some (0, .aload_n 0, 1, 0, 0, 0) := by decide +kernel
theorem f_98_1 : ftc (PT 98) 1 = some (1, .invokevirtual 519, 3, 99, 1035, 666) := by decide +kernel
theorem f_98_4 : ftc (PT 98) 4 = some (4, .aload_n 0, 1, 0, 0, 0) := by decide +kernel
theorem f_98_5 : ftc (PT 98) 5 = some (5, .getfield 97, 3, 11, 15, 483) := by decide +kernel
theorem f_98_8 : ftc (PT 98) 8 = some (8, .aload_n 0, 1, 0, 0, 0) := by decide +kernel
theorem f_98_9 : ftc (PT 98) 9 = some (9, .getfield 36, 3, 11, 5, 473) := by decide +kernel
theorem f_98_12 : ftc (PT 98) 12 = some (12, .invokevirtual 530, 3, 8, 3105, 681) := by decide +kernel
theorem f_98_15 : ftc (PT 98) 15 = some (15, .aload_n 0, 1, 0, 0, 0) := by decide +kernel
theorem f_98_16 : ftc (PT 98) 16 = some (16, .getfield 101, 3, 11, 16, 484) := by decide +kernel
theorem f_98_19 : ftc (PT 98) 19 = some (19, .aload_n 0, 1, 0, 0, 0) := by decide +kernel
theorem f_98_20 : ftc (PT 98) 20 = some (20, .getfield 32, 3, 11, 4, 472) := by decide +kernel
theorem f_98_23 : ftc (PT 98) 23 = some (23, .invokevirtual 530, 3, 8, 3105, 681) := by decide +kernel
theorem f_98_26 : ftc (PT 98) 26 = some (26, .aload_n 0, 1, 0, 0, 0) := by decide +kernel
theorem f_98_27 : ftc (PT 98) 27 = some (27, .getfield 97, 3, 11, 15, 483) := by decide +kernel
theorem f_98_30 : ftc (PT 98) 30 = some (30, .aload_n 0, 1, 0, 0, 0) := by decide +kernel
theorem f_98_31 : ftc (PT 98) 31 = some (31, .getfield 101, 3, 11, 16, 484) := by decide +kernel
theorem f_98_34 : ftc (PT 98) 34 = some (34, .invokevirtual 522, 3, 9, 3105, 685) := by decide +kernel
theorem f_89_0 : ftc (PT 89) 0 = some (0, .aload_n 0, 1, 0, 0, 0) := by decide +kernel
theorem f_89_1 : ftc (PT 89) 1 = some (1, .getfield 83, 3, 11, 13, 481) := by decide +kernel
theorem f_89_4 : ftc (PT 89) 4 = some (4, .invokevirtual 578, 3, 1, 1024, 534) := by decide +kernel
theorem f_89_7 : ftc (PT 89) 7 = some (7, .iconst 0, 1, 0, 0, 0) := by decide +kernel
theorem f_89_8 : ftc (PT 89) 8 = some (8, .istore_n 1, 1, 0, 0, 0) := by decide +kernel
theorem f_89_9 : ftc (PT 89) 9 = some (9, .iload_n 1, 1, 0, 0, 0) := by decide +kernel
theorem f_89_10 : ftc (PT 89) 10 = some (10, .aload_n 0, 1, 0, 0, 0) := by decide +kernel
theorem f_89_11 : ftc (PT 89) 11 = some (11, .getfield 104, 3, 11, 17, 485) := by decide +kernel
theorem f_89_14 : ftc (PT 89) 14 = some (14, .arraylength, 1, 0, 0, 0) := by decide +kernel
theorem f_89_15 : ftc (PT 89) 15 = some (15, .if_icmp .ge 16, 3, 31, 0, 0) := by decide +kernel
theorem f_89_18 : ftc (PT 89) 18 = some (18, .aload_n 0, 1, 0, 0, 0) := by decide +kernel
theorem f_89_19 : ftc (PT 89) 19 = some (19, .getfield 104, 3, 11, 17, 485) := by decide +kernel
theorem f_89_22 : ftc (PT 89) 22 = some (22, .iload_n 1, 1, 0, 0, 0) := by decide +kernel
theorem f_89_23 : ftc (PT 89) 23 = some (23, .iload_n 1, 1, 0, 0, 0) := by decide +kernel
theorem f_89_24 : ftc (PT 89) 24 = some (24, .iastore, 1, 0, 0, 0) := by decide +kernel
theorem f_89_25 : ftc (PT 89) 25 = some (25, .iinc 1 1, 3, 0, 0, 0) := by decide +kernel
theorem f_89_28 : ftc (PT 89) 28 = some (28, .goto (-19), 3, 9, 0, 0) := by decide +kernel
theorem f_89_31 : ftc (PT 89) 31 = some (31, .aload_n 0, 1, 0, 0, 0) := by decide +kernel
theorem f_89_32 : ftc (PT 89) 32 = some (32, .getfield 19, 3, 11, 1, 469) := by decide +kernel
theorem f_89_35 : ftc (PT 89) 35 = some (35, .getfield 127, 3, 2, 3, 221) := by decide +kernel
theorem f_89_38 : ftc (PT 89) 38 = some (38, .aload_n 0, 1, 0, 0, 0) := by decide +kernel
theorem f_89_39 : ftc (PT 89) 39 = some (39, .getfield 104, 3, 11, 17, 485) := by decide +kernel
theorem f_89_42 : ftc (PT 89) 42 = some (42, .arraylength, 1, 0, 0, 0) := by decide +kernel
theorem f_89_43 : ftc (PT 89) 43 = some (43, .invokestatic 626, 3, 419, 2050, 538) := by decide +kernel
theorem f_89_46 : ftc (PT 89) 46 = some (46, .istore_n 1, 1, 0, 0, 0) := by decide +kernel
theorem f_89_47 : ftc (PT 89) 47 = some (47, .iconst 1, 1, 0, 0, 0) := by decide +kernel
theorem f_89_48 : ftc (PT 89) 48 = some (48, .istore_n 2, 1, 0, 0, 0) := by decide +kernel
theorem f_89_49 : ftc (PT 89) 49 = some (49, .iconst 0, 1, 0, 0, 0) := by decide +kernel
theorem f_89_50 : ftc (PT 89) 50 = some (50, .istore_n 3, 1, 0, 0, 0) := by decide +kernel
theorem f_89_51 : ftc (PT 89) 51 = some (51, .iload_n 3, 1, 0, 0, 0) := by decide +kernel
theorem f_89_52 : ftc (PT 89) 52 = some (52, .bipush 24, 2, 0, 0, 0) := by decide +kernel
theorem f_89_54 : ftc (PT 89) 54 = some (54, .if_icmp .ge 23, 3, 77, 0, 0) := by decide +kernel
theorem f_89_57 : ftc (PT 89) 57 = some (57, .iload_n 2, 1, 0, 0, 0) := by decide +kernel
theorem f_89_58 : ftc (PT 89) 58 = some (58, .ifCond .eq 19, 3, 77, 0, 0) := by decide +kernel
theorem f_89_61 : ftc (PT 89) 61 = some (61, .aload_n 0, 1, 0, 0, 0) := by decide +kernel
theorem f_89_62 : ftc (PT 89) 62 = some (62, .invokevirtual 631, 3, 90, 3083, 541) := by decide +kernel
theorem f_89_65 : ftc (PT 89) 65 = some (65, .aload_n 0, 1, 0, 0, 0) := by decide +kernel
theorem f_89_66 : ftc (PT 89) 66 = some (66, .iload_n 1, 1, 0, 0, 0) := by decide +kernel
theorem f_89_67 : ftc (PT 89) 67 = some (67, .invokevirtual 634, 3, 91, 6187, 599) := by decide +kernel
theorem f_89_70 : ftc (PT 89) 70 = some (70, .istore_n 2, 1, 0, 0, 0) := by decide +kernel
theorem f_89_71 : ftc (PT 89) 71 = some (71, .iinc 3 1, 3, 0, 0, 0) := by decide +kernel
theorem f_89_74 : ftc (PT 89) 74 = some (74, .goto (-23), 3, 51, 0, 0) := by decide +kernel
theorem f_89_77 : ftc (PT 89) 77 = some (77, .return_, 1, 0, 0, 0) := by decide +kernel
theorem f_419_0 : ftc (PT 419) 0 = some (0, .iload_n 0, 1, 0, 0, 0) := by decide +kernel
theorem f_419_1 : ftc (PT 419) 1 = some (1, .iload_n 1, 1, 0, 0, 0) := by decide +kernel
theorem f_419_2 : ftc (PT 419) 2 = some (2, .if_icmp .gt 7, 3, 9, 0, 0) := by decide +kernel
theorem f_419_5 : ftc (PT 419) 5 = some (5, .iload_n 0, 1, 0, 0, 0) := by decide +kernel
theorem f_419_6 : ftc (PT 419) 6 = some (6, .goto 4, 3, 10, 0, 0) := by decide +kernel
theorem f_419_9 : ftc (PT 419) 9 = some (9, .iload_n 1, 1, 0, 0, 0) := by decide +kernel
theorem f_419_10 : ftc (PT 419) 10 = some (10, .ireturn, 1, 0, 0, 0) := by decide +kernel
set_option maxRecDepth 10000 in
set_option maxHeartbeats 4000000 in
theorem s_75_0_14 {Lx : Nat} {I : Mi} {L : Ml} {e : Nat} {Q : Kq} {x1 : Int32} {y2 : Int64} {y4 : Int64} (h :
    (if x1 = Int32.ofInt 0 then
     Wp 76 0 [(0, .ref 14), (1, .long y2), (3, .long y4)] [] (gE Lx) I L e (kcp (Wp 75) 75 36 0 [(0, .ref 14)] 71 [] Q)
    else
    (if x1 = Int32.ofInt 1 then
     (if (L 14 0) = (Int64.ofInt 0) then
      (if (L 14 1) = (Int64.ofInt 0) then
       Q (.inl none) (gE Lx) I L e
      else
       Q (.inl none) (gE Lx) I (ul (ul (ul (ul L 14 3 ((y4 * (L 14 3)) + (y2 * (L 14 0)))) 14 2 ((y4 * (L 14 2)) - (y2 * (L 14 1)))) 14 0 (y4 * (L 14 0))) 14 1 (y4 * (L 14 1))) e)
     else
      Q (.inl none) (gE Lx) I (ul (ul (ul (ul L 14 3 ((y4 * (L 14 3)) + (y2 * (L 14 0)))) 14 2 ((y4 * (L 14 2)) - (y2 * (L 14 1)))) 14 0 (y4 * (L 14 0))) 14 1 (y4 * (L 14 1))) e)
    else
    (if x1 = Int32.ofInt 2 then
     (if (L 14 0) = (Int64.ofInt 0) then
      (if (L 14 1) = (Int64.ofInt 0) then
       Q (.inl none) (gE Lx) I L e
      else
       Q (.inl none) (gE Lx) I (ul (ul (ul (ul L 14 3 ((y2 * (L 14 3)) + ((-y4) * (L 14 0)))) 14 2 ((y2 * (L 14 2)) - ((-y4) * (L 14 1)))) 14 0 (y2 * (L 14 0))) 14 1 (y2 * (L 14 1))) e)
     else
      Q (.inl none) (gE Lx) I (ul (ul (ul (ul L 14 3 ((y2 * (L 14 3)) + ((-y4) * (L 14 0)))) 14 2 ((y2 * (L 14 2)) - ((-y4) * (L 14 1)))) 14 0 (y2 * (L 14 0))) 14 1 (y2 * (L 14 1))) e)
    else
    (if x1 = Int32.ofInt 3 then
     (if (L 14 2) = (Int64.ofInt 0) then
      (if (L 14 3) = (Int64.ofInt 0) then
       Q (.inl none) (gE Lx) I L e
      else
       Q (.inl none) (gE Lx) I (ul (ul (ul (ul L 14 1 ((y2 * (L 14 1)) + ((-y4) * (L 14 2)))) 14 0 ((y2 * (L 14 0)) - ((-y4) * (L 14 3)))) 14 2 (y2 * (L 14 2))) 14 3 (y2 * (L 14 3))) e)
     else
      Q (.inl none) (gE Lx) I (ul (ul (ul (ul L 14 1 ((y2 * (L 14 1)) + ((-y4) * (L 14 2)))) 14 0 ((y2 * (L 14 0)) - ((-y4) * (L 14 3)))) 14 2 (y2 * (L 14 2))) 14 3 (y2 * (L 14 3))) e)
    else
     (if (L 14 2) = (Int64.ofInt 0) then
      (if (L 14 3) = (Int64.ofInt 0) then
       Q (.inl none) (gE Lx) I L e
      else
       Q (.inl none) (gE Lx) I (ul (ul (ul (ul L 14 1 ((y4 * (L 14 1)) + (y2 * (L 14 2)))) 14 0 ((y4 * (L 14 0)) - (y2 * (L 14 3)))) 14 2 (y4 * (L 14 2))) 14 3 (y4 * (L 14 3))) e)
     else
      Q (.inl none) (gE Lx) I (ul (ul (ul (ul L 14 1 ((y4 * (L 14 1)) + (y2 * (L 14 2)))) 14 0 ((y4 * (L 14 0)) - (y2 * (L 14 3)))) 14 2 (y4 * (L 14 2))) 14 3 (y4 * (L 14 3))) e)))))) :
    Wp 75 0 [(0, .ref 14), (1, .int x1), (2, .long y2), (4, .long y4)] [] (gE Lx) I L e Q := by
  refine w_a f_75_0 ?_
  refine w_a f_75_1 ?_
  refine i_m (fun h => ?_) (fun h => ?_) h
  · refine w_a f_75_32 ?_
    refine w_a f_75_33 ?_
    refine w_a f_75_34 ?_
    exact w_c (ks := [0]) f_75_36 rfl rfl h
  · refine i_m (fun h => ?_) (fun h => ?_) h
    · refine w_a f_75_42 ?_
      refine w_a f_75_43 ?_
      refine w_a f_75_44 ?_
      refine w_a f_75_45 ?_
      refine w_a f_75_47 ?_
      refine w_a (ls := [(0, .ref 14), (1, .int (Int32.ofInt 0)), (2, .long y2), (4, .long y4)]) f_77_0 ?_
      refine w_a f_77_1 ?_
      refine w_a f_77_88 ?_
      refine w_a f_77_89 ?_
      refine w_a f_77_92 ?_
      refine w_a f_77_93 ?_
      refine i_m (fun h => ?_) (fun h => ?_) h
      · refine w_a f_77_97 ?_
        refine w_a f_77_98 ?_
        refine w_a f_77_101 ?_
        refine w_a f_77_102 ?_
        refine i_m (fun h => ?_) (fun h => ?_) h
        · refine w_a f_77_106 ?_
          refine w_a (ls := [(0, .ref 14), (1, .int x1), (2, .long y2), (4, .long y4)]) f_75_50 ?_
          refine w_a f_75_85 ?_
          exact h
        · refine w_a f_77_107 ?_
          refine w_a f_77_109 ?_
          refine w_a f_77_110 ?_
          refine w_a f_77_113 ?_
          refine w_a f_77_114 ?_
          refine w_a f_77_115 ?_
          refine w_a f_77_116 ?_
          refine w_a f_77_119 ?_
          refine w_a f_77_120 ?_
          refine w_a f_77_121 ?_
          refine w_a (ls := [(6, .long ((y4 * (L 14 2)) - (y2 * (L 14 1)))), (0, .ref 14), (1, .int (Int32.ofInt 0)), (2, .long y2), (4, .long y4)]) f_77_123 ?_
          refine w_a f_77_124 ?_
          refine w_a f_77_126 ?_
          refine w_a f_77_127 ?_
          refine w_a f_77_130 ?_
          refine w_a f_77_131 ?_
          refine w_a f_77_132 ?_
          refine w_a f_77_133 ?_
          refine w_a f_77_136 ?_
          refine w_a f_77_137 ?_
          refine w_a f_77_138 ?_
          refine w_a f_77_141 ?_
          refine w_a f_77_142 ?_
          refine w_a f_77_144 ?_
          refine w_a f_77_147 ?_
          refine w_a f_77_148 ?_
          refine w_a f_77_150 ?_
          refine w_a f_77_151 ?_
          refine w_a f_77_154 ?_
          refine w_a f_77_155 ?_
          refine w_a f_77_158 ?_
          refine w_a f_77_159 ?_
          refine w_a f_77_161 ?_
          refine w_a f_77_162 ?_
          refine w_a f_77_165 ?_
          refine w_a f_77_166 ?_
          refine w_a f_77_169 ?_
          refine w_a (ls := [(0, .ref 14), (1, .int x1), (2, .long y2), (4, .long y4)]) f_75_50 ?_
          refine w_a f_75_85 ?_
          exact h
      · refine w_a f_77_107 ?_
        refine w_a f_77_109 ?_
        refine w_a f_77_110 ?_
        refine w_a f_77_113 ?_
        refine w_a f_77_114 ?_
        refine w_a f_77_115 ?_
        refine w_a f_77_116 ?_
        refine w_a f_77_119 ?_
        refine w_a f_77_120 ?_
        refine w_a f_77_121 ?_
        refine w_a (ls := [(6, .long ((y4 * (L 14 2)) - (y2 * (L 14 1)))), (0, .ref 14), (1, .int (Int32.ofInt 0)), (2, .long y2), (4, .long y4)]) f_77_123 ?_
        refine w_a f_77_124 ?_
        refine w_a f_77_126 ?_
        refine w_a f_77_127 ?_
        refine w_a f_77_130 ?_
        refine w_a f_77_131 ?_
        refine w_a f_77_132 ?_
        refine w_a f_77_133 ?_
        refine w_a f_77_136 ?_
        refine w_a f_77_137 ?_
        refine w_a f_77_138 ?_
        refine w_a f_77_141 ?_
        refine w_a f_77_142 ?_
        refine w_a f_77_144 ?_
        refine w_a f_77_147 ?_
        refine w_a f_77_148 ?_
        refine w_a f_77_150 ?_
        refine w_a f_77_151 ?_
        refine w_a f_77_154 ?_
        refine w_a f_77_155 ?_
        refine w_a f_77_158 ?_
        refine w_a f_77_159 ?_
        refine w_a f_77_161 ?_
        refine w_a f_77_162 ?_
        refine w_a f_77_165 ?_
        refine w_a f_77_166 ?_
        refine w_a f_77_169 ?_
        refine w_a (ls := [(0, .ref 14), (1, .int x1), (2, .long y2), (4, .long y4)]) f_75_50 ?_
        refine w_a f_75_85 ?_
        exact h
    · refine i_m (fun h => ?_) (fun h => ?_) h
      · refine w_a f_75_53 ?_
        refine w_a f_75_54 ?_
        refine w_a f_75_55 ?_
        refine w_a f_75_57 ?_
        refine w_a f_75_58 ?_
        refine w_a f_75_59 ?_
        refine w_a (ls := [(0, .ref 14), (1, .int (Int32.ofInt 0)), (2, .long (-y4)), (4, .long y2)]) f_77_0 ?_
        refine w_a f_77_1 ?_
        refine w_a f_77_88 ?_
        refine w_a f_77_89 ?_
        refine w_a f_77_92 ?_
        refine w_a f_77_93 ?_
        refine i_m (fun h => ?_) (fun h => ?_) h
        · refine w_a f_77_97 ?_
          refine w_a f_77_98 ?_
          refine w_a f_77_101 ?_
          refine w_a f_77_102 ?_
          refine i_m (fun h => ?_) (fun h => ?_) h
          · refine w_a f_77_106 ?_
            refine w_a (ls := [(0, .ref 14), (1, .int x1), (2, .long y2), (4, .long y4)]) f_75_62 ?_
            refine w_a f_75_85 ?_
            exact h
          · refine w_a f_77_107 ?_
            refine w_a f_77_109 ?_
            refine w_a f_77_110 ?_
            refine w_a f_77_113 ?_
            refine w_a f_77_114 ?_
            refine w_a f_77_115 ?_
            refine w_a f_77_116 ?_
            refine w_a f_77_119 ?_
            refine w_a f_77_120 ?_
            refine w_a f_77_121 ?_
            refine w_a (ls := [(6, .long ((y2 * (L 14 2)) - ((-y4) * (L 14 1)))), (0, .ref 14), (1, .int (Int32.ofInt 0)), (2, .long (-y4)), (4, .long y2)]) f_77_123 ?_
            refine w_a f_77_124 ?_
            refine w_a f_77_126 ?_
            refine w_a f_77_127 ?_
            refine w_a f_77_130 ?_
            refine w_a f_77_131 ?_
            refine w_a f_77_132 ?_
            refine w_a f_77_133 ?_
            refine w_a f_77_136 ?_
            refine w_a f_77_137 ?_
            refine w_a f_77_138 ?_
            refine w_a f_77_141 ?_
            refine w_a f_77_142 ?_
            refine w_a f_77_144 ?_
            refine w_a f_77_147 ?_
            refine w_a f_77_148 ?_
            refine w_a f_77_150 ?_
            refine w_a f_77_151 ?_
            refine w_a f_77_154 ?_
            refine w_a f_77_155 ?_
            refine w_a f_77_158 ?_
            refine w_a f_77_159 ?_
            refine w_a f_77_161 ?_
            refine w_a f_77_162 ?_
            refine w_a f_77_165 ?_
            refine w_a f_77_166 ?_
            refine w_a f_77_169 ?_
            refine w_a (ls := [(0, .ref 14), (1, .int x1), (2, .long y2), (4, .long y4)]) f_75_62 ?_
            refine w_a f_75_85 ?_
            exact h
        · refine w_a f_77_107 ?_
          refine w_a f_77_109 ?_
          refine w_a f_77_110 ?_
          refine w_a f_77_113 ?_
          refine w_a f_77_114 ?_
          refine w_a f_77_115 ?_
          refine w_a f_77_116 ?_
          refine w_a f_77_119 ?_
          refine w_a f_77_120 ?_
          refine w_a f_77_121 ?_
          refine w_a (ls := [(6, .long ((y2 * (L 14 2)) - ((-y4) * (L 14 1)))), (0, .ref 14), (1, .int (Int32.ofInt 0)), (2, .long (-y4)), (4, .long y2)]) f_77_123 ?_
          refine w_a f_77_124 ?_
          refine w_a f_77_126 ?_
          refine w_a f_77_127 ?_
          refine w_a f_77_130 ?_
          refine w_a f_77_131 ?_
          refine w_a f_77_132 ?_
          refine w_a f_77_133 ?_
          refine w_a f_77_136 ?_
          refine w_a f_77_137 ?_
          refine w_a f_77_138 ?_
          refine w_a f_77_141 ?_
          refine w_a f_77_142 ?_
          refine w_a f_77_144 ?_
          refine w_a f_77_147 ?_
          refine w_a f_77_148 ?_
          refine w_a f_77_150 ?_
          refine w_a f_77_151 ?_
          refine w_a f_77_154 ?_
          refine w_a f_77_155 ?_
          refine w_a f_77_158 ?_
          refine w_a f_77_159 ?_
          refine w_a f_77_161 ?_
          refine w_a f_77_162 ?_
          refine w_a f_77_165 ?_
          refine w_a f_77_166 ?_
          refine w_a f_77_169 ?_
          refine w_a (ls := [(0, .ref 14), (1, .int x1), (2, .long y2), (4, .long y4)]) f_75_62 ?_
          refine w_a f_75_85 ?_
          exact h
      · refine i_m (fun h => ?_) (fun h => ?_) h
        · refine w_a f_75_65 ?_
          refine w_a f_75_66 ?_
          refine w_a f_75_67 ?_
          refine w_a f_75_69 ?_
          refine w_a f_75_70 ?_
          refine w_a f_75_71 ?_
          refine w_a (ls := [(0, .ref 14), (1, .int (Int32.ofInt 1)), (2, .long (-y4)), (4, .long y2)]) f_77_0 ?_
          refine w_a f_77_1 ?_
          refine w_a f_77_4 ?_
          refine w_a f_77_5 ?_
          refine w_a f_77_8 ?_
          refine w_a f_77_9 ?_
          refine i_m (fun h => ?_) (fun h => ?_) h
          · refine w_a f_77_13 ?_
            refine w_a f_77_14 ?_
            refine w_a f_77_17 ?_
            refine w_a f_77_18 ?_
            refine i_m (fun h => ?_) (fun h => ?_) h
            · refine w_a f_77_22 ?_
              refine w_a (ls := [(0, .ref 14), (1, .int x1), (2, .long y2), (4, .long y4)]) f_75_74 ?_
              refine w_a f_75_85 ?_
              exact h
            · refine w_a f_77_23 ?_
              refine w_a f_77_25 ?_
              refine w_a f_77_26 ?_
              refine w_a f_77_29 ?_
              refine w_a f_77_30 ?_
              refine w_a f_77_31 ?_
              refine w_a f_77_32 ?_
              refine w_a f_77_35 ?_
              refine w_a f_77_36 ?_
              refine w_a f_77_37 ?_
              refine w_a (ls := [(6, .long ((y2 * (L 14 0)) - ((-y4) * (L 14 3)))), (0, .ref 14), (1, .int (Int32.ofInt 1)), (2, .long (-y4)), (4, .long y2)]) f_77_39 ?_
              refine w_a f_77_40 ?_
              refine w_a f_77_42 ?_
              refine w_a f_77_43 ?_
              refine w_a f_77_46 ?_
              refine w_a f_77_47 ?_
              refine w_a f_77_48 ?_
              refine w_a f_77_49 ?_
              refine w_a f_77_52 ?_
              refine w_a f_77_53 ?_
              refine w_a f_77_54 ?_
              refine w_a f_77_57 ?_
              refine w_a f_77_58 ?_
              refine w_a f_77_60 ?_
              refine w_a f_77_63 ?_
              refine w_a f_77_64 ?_
              refine w_a f_77_66 ?_
              refine w_a f_77_67 ?_
              refine w_a f_77_70 ?_
              refine w_a f_77_71 ?_
              refine w_a f_77_74 ?_
              refine w_a f_77_75 ?_
              refine w_a f_77_77 ?_
              refine w_a f_77_78 ?_
              refine w_a f_77_81 ?_
              refine w_a f_77_82 ?_
              refine w_a f_77_85 ?_
              refine w_a f_77_169 ?_
              refine w_a (ls := [(0, .ref 14), (1, .int x1), (2, .long y2), (4, .long y4)]) f_75_74 ?_
              refine w_a f_75_85 ?_
              exact h
          · refine w_a f_77_23 ?_
            refine w_a f_77_25 ?_
            refine w_a f_77_26 ?_
            refine w_a f_77_29 ?_
            refine w_a f_77_30 ?_
            refine w_a f_77_31 ?_
            refine w_a f_77_32 ?_
            refine w_a f_77_35 ?_
            refine w_a f_77_36 ?_
            refine w_a f_77_37 ?_
            refine w_a (ls := [(6, .long ((y2 * (L 14 0)) - ((-y4) * (L 14 3)))), (0, .ref 14), (1, .int (Int32.ofInt 1)), (2, .long (-y4)), (4, .long y2)]) f_77_39 ?_
            refine w_a f_77_40 ?_
            refine w_a f_77_42 ?_
            refine w_a f_77_43 ?_
            refine w_a f_77_46 ?_
            refine w_a f_77_47 ?_
            refine w_a f_77_48 ?_
            refine w_a f_77_49 ?_
            refine w_a f_77_52 ?_
            refine w_a f_77_53 ?_
            refine w_a f_77_54 ?_
            refine w_a f_77_57 ?_
            refine w_a f_77_58 ?_
            refine w_a f_77_60 ?_
            refine w_a f_77_63 ?_
            refine w_a f_77_64 ?_
            refine w_a f_77_66 ?_
            refine w_a f_77_67 ?_
            refine w_a f_77_70 ?_
            refine w_a f_77_71 ?_
            refine w_a f_77_74 ?_
            refine w_a f_77_75 ?_
            refine w_a f_77_77 ?_
            refine w_a f_77_78 ?_
            refine w_a f_77_81 ?_
            refine w_a f_77_82 ?_
            refine w_a f_77_85 ?_
            refine w_a f_77_169 ?_
            refine w_a (ls := [(0, .ref 14), (1, .int x1), (2, .long y2), (4, .long y4)]) f_75_74 ?_
            refine w_a f_75_85 ?_
            exact h
        · refine w_a f_75_77 ?_
          refine w_a f_75_78 ?_
          refine w_a f_75_79 ?_
          refine w_a f_75_80 ?_
          refine w_a f_75_82 ?_
          refine w_a (ls := [(0, .ref 14), (1, .int (Int32.ofInt 1)), (2, .long y2), (4, .long y4)]) f_77_0 ?_
          refine w_a f_77_1 ?_
          refine w_a f_77_4 ?_
          refine w_a f_77_5 ?_
          refine w_a f_77_8 ?_
          refine w_a f_77_9 ?_
          refine i_m (fun h => ?_) (fun h => ?_) h
          · refine w_a f_77_13 ?_
            refine w_a f_77_14 ?_
            refine w_a f_77_17 ?_
            refine w_a f_77_18 ?_
            refine i_m (fun h => ?_) (fun h => ?_) h
            · refine w_a f_77_22 ?_
              refine w_a (ls := [(0, .ref 14), (1, .int x1), (2, .long y2), (4, .long y4)]) f_75_85 ?_
              exact h
            · refine w_a f_77_23 ?_
              refine w_a f_77_25 ?_
              refine w_a f_77_26 ?_
              refine w_a f_77_29 ?_
              refine w_a f_77_30 ?_
              refine w_a f_77_31 ?_
              refine w_a f_77_32 ?_
              refine w_a f_77_35 ?_
              refine w_a f_77_36 ?_
              refine w_a f_77_37 ?_
              refine w_a (ls := [(6, .long ((y4 * (L 14 0)) - (y2 * (L 14 3)))), (0, .ref 14), (1, .int (Int32.ofInt 1)), (2, .long y2), (4, .long y4)]) f_77_39 ?_
              refine w_a f_77_40 ?_
              refine w_a f_77_42 ?_
              refine w_a f_77_43 ?_
              refine w_a f_77_46 ?_
              refine w_a f_77_47 ?_
              refine w_a f_77_48 ?_
              refine w_a f_77_49 ?_
              refine w_a f_77_52 ?_
              refine w_a f_77_53 ?_
              refine w_a f_77_54 ?_
              refine w_a f_77_57 ?_
              refine w_a f_77_58 ?_
              refine w_a f_77_60 ?_
              refine w_a f_77_63 ?_
              refine w_a f_77_64 ?_
              refine w_a f_77_66 ?_
              refine w_a f_77_67 ?_
              refine w_a f_77_70 ?_
              refine w_a f_77_71 ?_
              refine w_a f_77_74 ?_
              refine w_a f_77_75 ?_
              refine w_a f_77_77 ?_
              refine w_a f_77_78 ?_
              refine w_a f_77_81 ?_
              refine w_a f_77_82 ?_
              refine w_a f_77_85 ?_
              refine w_a f_77_169 ?_
              refine w_a (ls := [(0, .ref 14), (1, .int x1), (2, .long y2), (4, .long y4)]) f_75_85 ?_
              exact h
          · refine w_a f_77_23 ?_
            refine w_a f_77_25 ?_
            refine w_a f_77_26 ?_
            refine w_a f_77_29 ?_
            refine w_a f_77_30 ?_
            refine w_a f_77_31 ?_
            refine w_a f_77_32 ?_
            refine w_a f_77_35 ?_
            refine w_a f_77_36 ?_
            refine w_a f_77_37 ?_
            refine w_a (ls := [(6, .long ((y4 * (L 14 0)) - (y2 * (L 14 3)))), (0, .ref 14), (1, .int (Int32.ofInt 1)), (2, .long y2), (4, .long y4)]) f_77_39 ?_
            refine w_a f_77_40 ?_
            refine w_a f_77_42 ?_
            refine w_a f_77_43 ?_
            refine w_a f_77_46 ?_
            refine w_a f_77_47 ?_
            refine w_a f_77_48 ?_
            refine w_a f_77_49 ?_
            refine w_a f_77_52 ?_
            refine w_a f_77_53 ?_
            refine w_a f_77_54 ?_
            refine w_a f_77_57 ?_
            refine w_a f_77_58 ?_
            refine w_a f_77_60 ?_
            refine w_a f_77_63 ?_
            refine w_a f_77_64 ?_
            refine w_a f_77_66 ?_
            refine w_a f_77_67 ?_
            refine w_a f_77_70 ?_
            refine w_a f_77_71 ?_
            refine w_a f_77_74 ?_
            refine w_a f_77_75 ?_
            refine w_a f_77_77 ?_
            refine w_a f_77_78 ?_
            refine w_a f_77_81 ?_
            refine w_a f_77_82 ?_
            refine w_a f_77_85 ?_
            refine w_a f_77_169 ?_
            refine w_a (ls := [(0, .ref 14), (1, .int x1), (2, .long y2), (4, .long y4)]) f_75_85 ?_
            exact h
set_option maxRecDepth 10000 in
set_option maxHeartbeats 4000000 in
theorem s_75_39_14 {Lx : Nat} {I : Mi} {L : Ml} {e : Nat} {Q : Kq} (h :
    Q (.inl none) (gE Lx) I L e) :
    Wp 75 39 [(0, .ref 14)] [] (gE Lx) I L e Q := by
  refine w_a f_75_39 ?_
  refine w_a f_75_85 ?_
  exact h
set_option maxRecDepth 10000 in
set_option maxHeartbeats 4000000 in
theorem s_75_0_15 {Lx : Nat} {I : Mi} {L : Ml} {e : Nat} {Q : Kq} {x1 : Int32} {y2 : Int64} {y4 : Int64} (h :
    (if x1 = Int32.ofInt 0 then
     Wp 76 0 [(0, .ref 15), (1, .long y2), (3, .long y4)] [] (gE Lx) I L e (kcp (Wp 75) 75 36 0 [(0, .ref 15)] 71 [] Q)
    else
    (if x1 = Int32.ofInt 1 then
     (if (L 15 0) = (Int64.ofInt 0) then
      (if (L 15 1) = (Int64.ofInt 0) then
       Q (.inl none) (gE Lx) I L e
      else
       Q (.inl none) (gE Lx) I (ul (ul (ul (ul L 15 3 ((y4 * (L 15 3)) + (y2 * (L 15 0)))) 15 2 ((y4 * (L 15 2)) - (y2 * (L 15 1)))) 15 0 (y4 * (L 15 0))) 15 1 (y4 * (L 15 1))) e)
     else
      Q (.inl none) (gE Lx) I (ul (ul (ul (ul L 15 3 ((y4 * (L 15 3)) + (y2 * (L 15 0)))) 15 2 ((y4 * (L 15 2)) - (y2 * (L 15 1)))) 15 0 (y4 * (L 15 0))) 15 1 (y4 * (L 15 1))) e)
    else
    (if x1 = Int32.ofInt 2 then
     (if (L 15 0) = (Int64.ofInt 0) then
      (if (L 15 1) = (Int64.ofInt 0) then
       Q (.inl none) (gE Lx) I L e
      else
       Q (.inl none) (gE Lx) I (ul (ul (ul (ul L 15 3 ((y2 * (L 15 3)) + ((-y4) * (L 15 0)))) 15 2 ((y2 * (L 15 2)) - ((-y4) * (L 15 1)))) 15 0 (y2 * (L 15 0))) 15 1 (y2 * (L 15 1))) e)
     else
      Q (.inl none) (gE Lx) I (ul (ul (ul (ul L 15 3 ((y2 * (L 15 3)) + ((-y4) * (L 15 0)))) 15 2 ((y2 * (L 15 2)) - ((-y4) * (L 15 1)))) 15 0 (y2 * (L 15 0))) 15 1 (y2 * (L 15 1))) e)
    else
    (if x1 = Int32.ofInt 3 then
     (if (L 15 2) = (Int64.ofInt 0) then
      (if (L 15 3) = (Int64.ofInt 0) then
       Q (.inl none) (gE Lx) I L e
      else
       Q (.inl none) (gE Lx) I (ul (ul (ul (ul L 15 1 ((y2 * (L 15 1)) + ((-y4) * (L 15 2)))) 15 0 ((y2 * (L 15 0)) - ((-y4) * (L 15 3)))) 15 2 (y2 * (L 15 2))) 15 3 (y2 * (L 15 3))) e)
     else
      Q (.inl none) (gE Lx) I (ul (ul (ul (ul L 15 1 ((y2 * (L 15 1)) + ((-y4) * (L 15 2)))) 15 0 ((y2 * (L 15 0)) - ((-y4) * (L 15 3)))) 15 2 (y2 * (L 15 2))) 15 3 (y2 * (L 15 3))) e)
    else
     (if (L 15 2) = (Int64.ofInt 0) then
      (if (L 15 3) = (Int64.ofInt 0) then
       Q (.inl none) (gE Lx) I L e
      else
       Q (.inl none) (gE Lx) I (ul (ul (ul (ul L 15 1 ((y4 * (L 15 1)) + (y2 * (L 15 2)))) 15 0 ((y4 * (L 15 0)) - (y2 * (L 15 3)))) 15 2 (y4 * (L 15 2))) 15 3 (y4 * (L 15 3))) e)
     else
      Q (.inl none) (gE Lx) I (ul (ul (ul (ul L 15 1 ((y4 * (L 15 1)) + (y2 * (L 15 2)))) 15 0 ((y4 * (L 15 0)) - (y2 * (L 15 3)))) 15 2 (y4 * (L 15 2))) 15 3 (y4 * (L 15 3))) e)))))) :
    Wp 75 0 [(0, .ref 15), (1, .int x1), (2, .long y2), (4, .long y4)] [] (gE Lx) I L e Q := by
  refine w_a f_75_0 ?_
  refine w_a f_75_1 ?_
  refine i_m (fun h => ?_) (fun h => ?_) h
  · refine w_a f_75_32 ?_
    refine w_a f_75_33 ?_
    refine w_a f_75_34 ?_
    exact w_c (ks := [0]) f_75_36 rfl rfl h
  · refine i_m (fun h => ?_) (fun h => ?_) h
    · refine w_a f_75_42 ?_
      refine w_a f_75_43 ?_
      refine w_a f_75_44 ?_
      refine w_a f_75_45 ?_
      refine w_a f_75_47 ?_
      refine w_a (ls := [(0, .ref 15), (1, .int (Int32.ofInt 0)), (2, .long y2), (4, .long y4)]) f_77_0 ?_
      refine w_a f_77_1 ?_
      refine w_a f_77_88 ?_
      refine w_a f_77_89 ?_
      refine w_a f_77_92 ?_
      refine w_a f_77_93 ?_
      refine i_m (fun h => ?_) (fun h => ?_) h
      · refine w_a f_77_97 ?_
        refine w_a f_77_98 ?_
        refine w_a f_77_101 ?_
        refine w_a f_77_102 ?_
        refine i_m (fun h => ?_) (fun h => ?_) h
        · refine w_a f_77_106 ?_
          refine w_a (ls := [(0, .ref 15), (1, .int x1), (2, .long y2), (4, .long y4)]) f_75_50 ?_
          refine w_a f_75_85 ?_
          exact h
        · refine w_a f_77_107 ?_
          refine w_a f_77_109 ?_
          refine w_a f_77_110 ?_
          refine w_a f_77_113 ?_
          refine w_a f_77_114 ?_
          refine w_a f_77_115 ?_
          refine w_a f_77_116 ?_
          refine w_a f_77_119 ?_
          refine w_a f_77_120 ?_
          refine w_a f_77_121 ?_
          refine w_a (ls := [(6, .long ((y4 * (L 15 2)) - (y2 * (L 15 1)))), (0, .ref 15), (1, .int (Int32.ofInt 0)), (2, .long y2), (4, .long y4)]) f_77_123 ?_
          refine w_a f_77_124 ?_
          refine w_a f_77_126 ?_
          refine w_a f_77_127 ?_
          refine w_a f_77_130 ?_
          refine w_a f_77_131 ?_
          refine w_a f_77_132 ?_
          refine w_a f_77_133 ?_
          refine w_a f_77_136 ?_
          refine w_a f_77_137 ?_
          refine w_a f_77_138 ?_
          refine w_a f_77_141 ?_
          refine w_a f_77_142 ?_
          refine w_a f_77_144 ?_
          refine w_a f_77_147 ?_
          refine w_a f_77_148 ?_
          refine w_a f_77_150 ?_
          refine w_a f_77_151 ?_
          refine w_a f_77_154 ?_
          refine w_a f_77_155 ?_
          refine w_a f_77_158 ?_
          refine w_a f_77_159 ?_
          refine w_a f_77_161 ?_
          refine w_a f_77_162 ?_
          refine w_a f_77_165 ?_
          refine w_a f_77_166 ?_
          refine w_a f_77_169 ?_
          refine w_a (ls := [(0, .ref 15), (1, .int x1), (2, .long y2), (4, .long y4)]) f_75_50 ?_
          refine w_a f_75_85 ?_
          exact h
      · refine w_a f_77_107 ?_
        refine w_a f_77_109 ?_
        refine w_a f_77_110 ?_
        refine w_a f_77_113 ?_
        refine w_a f_77_114 ?_
        refine w_a f_77_115 ?_
        refine w_a f_77_116 ?_
        refine w_a f_77_119 ?_
        refine w_a f_77_120 ?_
        refine w_a f_77_121 ?_
        refine w_a (ls := [(6, .long ((y4 * (L 15 2)) - (y2 * (L 15 1)))), (0, .ref 15), (1, .int (Int32.ofInt 0)), (2, .long y2), (4, .long y4)]) f_77_123 ?_
        refine w_a f_77_124 ?_
        refine w_a f_77_126 ?_
        refine w_a f_77_127 ?_
        refine w_a f_77_130 ?_
        refine w_a f_77_131 ?_
        refine w_a f_77_132 ?_
        refine w_a f_77_133 ?_
        refine w_a f_77_136 ?_
        refine w_a f_77_137 ?_
        refine w_a f_77_138 ?_
        refine w_a f_77_141 ?_
        refine w_a f_77_142 ?_
        refine w_a f_77_144 ?_
        refine w_a f_77_147 ?_
        refine w_a f_77_148 ?_
        refine w_a f_77_150 ?_
        refine w_a f_77_151 ?_
        refine w_a f_77_154 ?_
        refine w_a f_77_155 ?_
        refine w_a f_77_158 ?_
        refine w_a f_77_159 ?_
        refine w_a f_77_161 ?_
        refine w_a f_77_162 ?_
        refine w_a f_77_165 ?_
        refine w_a f_77_166 ?_
        refine w_a f_77_169 ?_
        refine w_a (ls := [(0, .ref 15), (1, .int x1), (2, .long y2), (4, .long y4)]) f_75_50 ?_
        refine w_a f_75_85 ?_
        exact h
    · refine i_m (fun h => ?_) (fun h => ?_) h
      · refine w_a f_75_53 ?_
        refine w_a f_75_54 ?_
        refine w_a f_75_55 ?_
        refine w_a f_75_57 ?_
        refine w_a f_75_58 ?_
        refine w_a f_75_59 ?_
        refine w_a (ls := [(0, .ref 15), (1, .int (Int32.ofInt 0)), (2, .long (-y4)), (4, .long y2)]) f_77_0 ?_
        refine w_a f_77_1 ?_
        refine w_a f_77_88 ?_
        refine w_a f_77_89 ?_
        refine w_a f_77_92 ?_
        refine w_a f_77_93 ?_
        refine i_m (fun h => ?_) (fun h => ?_) h
        · refine w_a f_77_97 ?_
          refine w_a f_77_98 ?_
          refine w_a f_77_101 ?_
          refine w_a f_77_102 ?_
          refine i_m (fun h => ?_) (fun h => ?_) h
          · refine w_a f_77_106 ?_
            refine w_a (ls := [(0, .ref 15), (1, .int x1), (2, .long y2), (4, .long y4)]) f_75_62 ?_
            refine w_a f_75_85 ?_
            exact h
          · refine w_a f_77_107 ?_
            refine w_a f_77_109 ?_
            refine w_a f_77_110 ?_
            refine w_a f_77_113 ?_
            refine w_a f_77_114 ?_
            refine w_a f_77_115 ?_
            refine w_a f_77_116 ?_
            refine w_a f_77_119 ?_
            refine w_a f_77_120 ?_
            refine w_a f_77_121 ?_
            refine w_a (ls := [(6, .long ((y2 * (L 15 2)) - ((-y4) * (L 15 1)))), (0, .ref 15), (1, .int (Int32.ofInt 0)), (2, .long (-y4)), (4, .long y2)]) f_77_123 ?_
            refine w_a f_77_124 ?_
            refine w_a f_77_126 ?_
            refine w_a f_77_127 ?_
            refine w_a f_77_130 ?_
            refine w_a f_77_131 ?_
            refine w_a f_77_132 ?_
            refine w_a f_77_133 ?_
            refine w_a f_77_136 ?_
            refine w_a f_77_137 ?_
            refine w_a f_77_138 ?_
            refine w_a f_77_141 ?_
            refine w_a f_77_142 ?_
            refine w_a f_77_144 ?_
            refine w_a f_77_147 ?_
            refine w_a f_77_148 ?_
            refine w_a f_77_150 ?_
            refine w_a f_77_151 ?_
            refine w_a f_77_154 ?_
            refine w_a f_77_155 ?_
            refine w_a f_77_158 ?_
            refine w_a f_77_159 ?_
            refine w_a f_77_161 ?_
            refine w_a f_77_162 ?_
            refine w_a f_77_165 ?_
            refine w_a f_77_166 ?_
            refine w_a f_77_169 ?_
            refine w_a (ls := [(0, .ref 15), (1, .int x1), (2, .long y2), (4, .long y4)]) f_75_62 ?_
            refine w_a f_75_85 ?_
            exact h
        · refine w_a f_77_107 ?_
          refine w_a f_77_109 ?_
          refine w_a f_77_110 ?_
          refine w_a f_77_113 ?_
          refine w_a f_77_114 ?_
          refine w_a f_77_115 ?_
          refine w_a f_77_116 ?_
          refine w_a f_77_119 ?_
          refine w_a f_77_120 ?_
          refine w_a f_77_121 ?_
          refine w_a (ls := [(6, .long ((y2 * (L 15 2)) - ((-y4) * (L 15 1)))), (0, .ref 15), (1, .int (Int32.ofInt 0)), (2, .long (-y4)), (4, .long y2)]) f_77_123 ?_
          refine w_a f_77_124 ?_
          refine w_a f_77_126 ?_
          refine w_a f_77_127 ?_
          refine w_a f_77_130 ?_
          refine w_a f_77_131 ?_
          refine w_a f_77_132 ?_
          refine w_a f_77_133 ?_
          refine w_a f_77_136 ?_
          refine w_a f_77_137 ?_
          refine w_a f_77_138 ?_
          refine w_a f_77_141 ?_
          refine w_a f_77_142 ?_
          refine w_a f_77_144 ?_
          refine w_a f_77_147 ?_
          refine w_a f_77_148 ?_
          refine w_a f_77_150 ?_
          refine w_a f_77_151 ?_
          refine w_a f_77_154 ?_
          refine w_a f_77_155 ?_
          refine w_a f_77_158 ?_
          refine w_a f_77_159 ?_
          refine w_a f_77_161 ?_
          refine w_a f_77_162 ?_
          refine w_a f_77_165 ?_
          refine w_a f_77_166 ?_
          refine w_a f_77_169 ?_
          refine w_a (ls := [(0, .ref 15), (1, .int x1), (2, .long y2), (4, .long y4)]) f_75_62 ?_
          refine w_a f_75_85 ?_
          exact h
      · refine i_m (fun h => ?_) (fun h => ?_) h
        · refine w_a f_75_65 ?_
          refine w_a f_75_66 ?_
          refine w_a f_75_67 ?_
          refine w_a f_75_69 ?_
          refine w_a f_75_70 ?_
          refine w_a f_75_71 ?_
          refine w_a (ls := [(0, .ref 15), (1, .int (Int32.ofInt 1)), (2, .long (-y4)), (4, .long y2)]) f_77_0 ?_
          refine w_a f_77_1 ?_
          refine w_a f_77_4 ?_
          refine w_a f_77_5 ?_
          refine w_a f_77_8 ?_
          refine w_a f_77_9 ?_
          refine i_m (fun h => ?_) (fun h => ?_) h
          · refine w_a f_77_13 ?_
            refine w_a f_77_14 ?_
            refine w_a f_77_17 ?_
            refine w_a f_77_18 ?_
            refine i_m (fun h => ?_) (fun h => ?_) h
            · refine w_a f_77_22 ?_
              refine w_a (ls := [(0, .ref 15), (1, .int x1), (2, .long y2), (4, .long y4)]) f_75_74 ?_
              refine w_a f_75_85 ?_
              exact h
            · refine w_a f_77_23 ?_
              refine w_a f_77_25 ?_
              refine w_a f_77_26 ?_
              refine w_a f_77_29 ?_
              refine w_a f_77_30 ?_
              refine w_a f_77_31 ?_
              refine w_a f_77_32 ?_
              refine w_a f_77_35 ?_
              refine w_a f_77_36 ?_
              refine w_a f_77_37 ?_
              refine w_a (ls := [(6, .long ((y2 * (L 15 0)) - ((-y4) * (L 15 3)))), (0, .ref 15), (1, .int (Int32.ofInt 1)), (2, .long (-y4)), (4, .long y2)]) f_77_39 ?_
              refine w_a f_77_40 ?_
              refine w_a f_77_42 ?_
              refine w_a f_77_43 ?_
              refine w_a f_77_46 ?_
              refine w_a f_77_47 ?_
              refine w_a f_77_48 ?_
              refine w_a f_77_49 ?_
              refine w_a f_77_52 ?_
              refine w_a f_77_53 ?_
              refine w_a f_77_54 ?_
              refine w_a f_77_57 ?_
              refine w_a f_77_58 ?_
              refine w_a f_77_60 ?_
              refine w_a f_77_63 ?_
              refine w_a f_77_64 ?_
              refine w_a f_77_66 ?_
              refine w_a f_77_67 ?_
              refine w_a f_77_70 ?_
              refine w_a f_77_71 ?_
              refine w_a f_77_74 ?_
              refine w_a f_77_75 ?_
              refine w_a f_77_77 ?_
              refine w_a f_77_78 ?_
              refine w_a f_77_81 ?_
              refine w_a f_77_82 ?_
              refine w_a f_77_85 ?_
              refine w_a f_77_169 ?_
              refine w_a (ls := [(0, .ref 15), (1, .int x1), (2, .long y2), (4, .long y4)]) f_75_74 ?_
              refine w_a f_75_85 ?_
              exact h
          · refine w_a f_77_23 ?_
            refine w_a f_77_25 ?_
            refine w_a f_77_26 ?_
            refine w_a f_77_29 ?_
            refine w_a f_77_30 ?_
            refine w_a f_77_31 ?_
            refine w_a f_77_32 ?_
            refine w_a f_77_35 ?_
            refine w_a f_77_36 ?_
            refine w_a f_77_37 ?_
            refine w_a (ls := [(6, .long ((y2 * (L 15 0)) - ((-y4) * (L 15 3)))), (0, .ref 15), (1, .int (Int32.ofInt 1)), (2, .long (-y4)), (4, .long y2)]) f_77_39 ?_
            refine w_a f_77_40 ?_
            refine w_a f_77_42 ?_
            refine w_a f_77_43 ?_
            refine w_a f_77_46 ?_
            refine w_a f_77_47 ?_
            refine w_a f_77_48 ?_
            refine w_a f_77_49 ?_
            refine w_a f_77_52 ?_
            refine w_a f_77_53 ?_
            refine w_a f_77_54 ?_
            refine w_a f_77_57 ?_
            refine w_a f_77_58 ?_
            refine w_a f_77_60 ?_
            refine w_a f_77_63 ?_
            refine w_a f_77_64 ?_
            refine w_a f_77_66 ?_
            refine w_a f_77_67 ?_
            refine w_a f_77_70 ?_
            refine w_a f_77_71 ?_
            refine w_a f_77_74 ?_
            refine w_a f_77_75 ?_
            refine w_a f_77_77 ?_
            refine w_a f_77_78 ?_
            refine w_a f_77_81 ?_
            refine w_a f_77_82 ?_
            refine w_a f_77_85 ?_
            refine w_a f_77_169 ?_
            refine w_a (ls := [(0, .ref 15), (1, .int x1), (2, .long y2), (4, .long y4)]) f_75_74 ?_
            refine w_a f_75_85 ?_
            exact h
        · refine w_a f_75_77 ?_
          refine w_a f_75_78 ?_
          refine w_a f_75_79 ?_
          refine w_a f_75_80 ?_
          refine w_a f_75_82 ?_
          refine w_a (ls := [(0, .ref 15), (1, .int (Int32.ofInt 1)), (2, .long y2), (4, .long y4)]) f_77_0 ?_
          refine w_a f_77_1 ?_
          refine w_a f_77_4 ?_
          refine w_a f_77_5 ?_
          refine w_a f_77_8 ?_
          refine w_a f_77_9 ?_
          refine i_m (fun h => ?_) (fun h => ?_) h
          · refine w_a f_77_13 ?_
            refine w_a f_77_14 ?_
            refine w_a f_77_17 ?_
            refine w_a f_77_18 ?_
            refine i_m (fun h => ?_) (fun h => ?_) h
            · refine w_a f_77_22 ?_
              refine w_a (ls := [(0, .ref 15), (1, .int x1), (2, .long y2), (4, .long y4)]) f_75_85 ?_
              exact h
            · refine w_a f_77_23 ?_
              refine w_a f_77_25 ?_
              refine w_a f_77_26 ?_
              refine w_a f_77_29 ?_
              refine w_a f_77_30 ?_
              refine w_a f_77_31 ?_
              refine w_a f_77_32 ?_
              refine w_a f_77_35 ?_
              refine w_a f_77_36 ?_
              refine w_a f_77_37 ?_
              refine w_a (ls := [(6, .long ((y4 * (L 15 0)) - (y2 * (L 15 3)))), (0, .ref 15), (1, .int (Int32.ofInt 1)), (2, .long y2), (4, .long y4)]) f_77_39 ?_
              refine w_a f_77_40 ?_
              refine w_a f_77_42 ?_
              refine w_a f_77_43 ?_
              refine w_a f_77_46 ?_
              refine w_a f_77_47 ?_
              refine w_a f_77_48 ?_
              refine w_a f_77_49 ?_
              refine w_a f_77_52 ?_
              refine w_a f_77_53 ?_
              refine w_a f_77_54 ?_
              refine w_a f_77_57 ?_
              refine w_a f_77_58 ?_
              refine w_a f_77_60 ?_
              refine w_a f_77_63 ?_
              refine w_a f_77_64 ?_
              refine w_a f_77_66 ?_
              refine w_a f_77_67 ?_
              refine w_a f_77_70 ?_
              refine w_a f_77_71 ?_
              refine w_a f_77_74 ?_
              refine w_a f_77_75 ?_
              refine w_a f_77_77 ?_
              refine w_a f_77_78 ?_
              refine w_a f_77_81 ?_
              refine w_a f_77_82 ?_
              refine w_a f_77_85 ?_
              refine w_a f_77_169 ?_
              refine w_a (ls := [(0, .ref 15), (1, .int x1), (2, .long y2), (4, .long y4)]) f_75_85 ?_
              exact h
          · refine w_a f_77_23 ?_
            refine w_a f_77_25 ?_
            refine w_a f_77_26 ?_
            refine w_a f_77_29 ?_
            refine w_a f_77_30 ?_
            refine w_a f_77_31 ?_
            refine w_a f_77_32 ?_
            refine w_a f_77_35 ?_
            refine w_a f_77_36 ?_
            refine w_a f_77_37 ?_
            refine w_a (ls := [(6, .long ((y4 * (L 15 0)) - (y2 * (L 15 3)))), (0, .ref 15), (1, .int (Int32.ofInt 1)), (2, .long y2), (4, .long y4)]) f_77_39 ?_
            refine w_a f_77_40 ?_
            refine w_a f_77_42 ?_
            refine w_a f_77_43 ?_
            refine w_a f_77_46 ?_
            refine w_a f_77_47 ?_
            refine w_a f_77_48 ?_
            refine w_a f_77_49 ?_
            refine w_a f_77_52 ?_
            refine w_a f_77_53 ?_
            refine w_a f_77_54 ?_
            refine w_a f_77_57 ?_
            refine w_a f_77_58 ?_
            refine w_a f_77_60 ?_
            refine w_a f_77_63 ?_
            refine w_a f_77_64 ?_
            refine w_a f_77_66 ?_
            refine w_a f_77_67 ?_
            refine w_a f_77_70 ?_
            refine w_a f_77_71 ?_
            refine w_a f_77_74 ?_
            refine w_a f_77_75 ?_
            refine w_a f_77_77 ?_
            refine w_a f_77_78 ?_
            refine w_a f_77_81 ?_
            refine w_a f_77_82 ?_
            refine w_a f_77_85 ?_
            refine w_a f_77_169 ?_
            refine w_a (ls := [(0, .ref 15), (1, .int x1), (2, .long y2), (4, .long y4)]) f_75_85 ?_
            exact h
set_option maxRecDepth 10000 in
set_option maxHeartbeats 4000000 in
theorem s_75_39_15 {Lx : Nat} {I : Mi} {L : Ml} {e : Nat} {Q : Kq} (h :
    Q (.inl none) (gE Lx) I L e) :
    Wp 75 39 [(0, .ref 15)] [] (gE Lx) I L e Q := by
  refine w_a f_75_39 ?_
  refine w_a f_75_85 ?_
  exact h
set_option maxRecDepth 10000 in
set_option maxHeartbeats 4000000 in
theorem s_75_0_16 {Lx : Nat} {I : Mi} {L : Ml} {e : Nat} {Q : Kq} {x1 : Int32} {y2 : Int64} {y4 : Int64} (h :
    (if x1 = Int32.ofInt 0 then
     Wp 76 0 [(0, .ref 16), (1, .long y2), (3, .long y4)] [] (gE Lx) I L e (kcp (Wp 75) 75 36 0 [(0, .ref 16)] 71 [] Q)
    else
    (if x1 = Int32.ofInt 1 then
     (if (L 16 0) = (Int64.ofInt 0) then
      (if (L 16 1) = (Int64.ofInt 0) then
       Q (.inl none) (gE Lx) I L e
      else
       Q (.inl none) (gE Lx) I (ul (ul (ul (ul L 16 3 ((y4 * (L 16 3)) + (y2 * (L 16 0)))) 16 2 ((y4 * (L 16 2)) - (y2 * (L 16 1)))) 16 0 (y4 * (L 16 0))) 16 1 (y4 * (L 16 1))) e)
     else
      Q (.inl none) (gE Lx) I (ul (ul (ul (ul L 16 3 ((y4 * (L 16 3)) + (y2 * (L 16 0)))) 16 2 ((y4 * (L 16 2)) - (y2 * (L 16 1)))) 16 0 (y4 * (L 16 0))) 16 1 (y4 * (L 16 1))) e)
    else
    (if x1 = Int32.ofInt 2 then
     (if (L 16 0) = (Int64.ofInt 0) then
      (if (L 16 1) = (Int64.ofInt 0) then
       Q (.inl none) (gE Lx) I L e
      else
       Q (.inl none) (gE Lx) I (ul (ul (ul (ul L 16 3 ((y2 * (L 16 3)) + ((-y4) * (L 16 0)))) 16 2 ((y2 * (L 16 2)) - ((-y4) * (L 16 1)))) 16 0 (y2 * (L 16 0))) 16 1 (y2 * (L 16 1))) e)
     else
      Q (.inl none) (gE Lx) I (ul (ul (ul (ul L 16 3 ((y2 * (L 16 3)) + ((-y4) * (L 16 0)))) 16 2 ((y2 * (L 16 2)) - ((-y4) * (L 16 1)))) 16 0 (y2 * (L 16 0))) 16 1 (y2 * (L 16 1))) e)
    else
    (if x1 = Int32.ofInt 3 then
     (if (L 16 2) = (Int64.ofInt 0) then
      (if (L 16 3) = (Int64.ofInt 0) then
       Q (.inl none) (gE Lx) I L e
      else
       Q (.inl none) (gE Lx) I (ul (ul (ul (ul L 16 1 ((y2 * (L 16 1)) + ((-y4) * (L 16 2)))) 16 0 ((y2 * (L 16 0)) - ((-y4) * (L 16 3)))) 16 2 (y2 * (L 16 2))) 16 3 (y2 * (L 16 3))) e)
     else
      Q (.inl none) (gE Lx) I (ul (ul (ul (ul L 16 1 ((y2 * (L 16 1)) + ((-y4) * (L 16 2)))) 16 0 ((y2 * (L 16 0)) - ((-y4) * (L 16 3)))) 16 2 (y2 * (L 16 2))) 16 3 (y2 * (L 16 3))) e)
    else
     (if (L 16 2) = (Int64.ofInt 0) then
      (if (L 16 3) = (Int64.ofInt 0) then
       Q (.inl none) (gE Lx) I L e
      else
       Q (.inl none) (gE Lx) I (ul (ul (ul (ul L 16 1 ((y4 * (L 16 1)) + (y2 * (L 16 2)))) 16 0 ((y4 * (L 16 0)) - (y2 * (L 16 3)))) 16 2 (y4 * (L 16 2))) 16 3 (y4 * (L 16 3))) e)
     else
      Q (.inl none) (gE Lx) I (ul (ul (ul (ul L 16 1 ((y4 * (L 16 1)) + (y2 * (L 16 2)))) 16 0 ((y4 * (L 16 0)) - (y2 * (L 16 3)))) 16 2 (y4 * (L 16 2))) 16 3 (y4 * (L 16 3))) e)))))) :
    Wp 75 0 [(0, .ref 16), (1, .int x1), (2, .long y2), (4, .long y4)] [] (gE Lx) I L e Q := by
  refine w_a f_75_0 ?_
  refine w_a f_75_1 ?_
  refine i_m (fun h => ?_) (fun h => ?_) h
  · refine w_a f_75_32 ?_
    refine w_a f_75_33 ?_
    refine w_a f_75_34 ?_
    exact w_c (ks := [0]) f_75_36 rfl rfl h
  · refine i_m (fun h => ?_) (fun h => ?_) h
    · refine w_a f_75_42 ?_
      refine w_a f_75_43 ?_
      refine w_a f_75_44 ?_
      refine w_a f_75_45 ?_
      refine w_a f_75_47 ?_
      refine w_a (ls := [(0, .ref 16), (1, .int (Int32.ofInt 0)), (2, .long y2), (4, .long y4)]) f_77_0 ?_
      refine w_a f_77_1 ?_
      refine w_a f_77_88 ?_
      refine w_a f_77_89 ?_
      refine w_a f_77_92 ?_
      refine w_a f_77_93 ?_
      refine i_m (fun h => ?_) (fun h => ?_) h
      · refine w_a f_77_97 ?_
        refine w_a f_77_98 ?_
        refine w_a f_77_101 ?_
        refine w_a f_77_102 ?_
        refine i_m (fun h => ?_) (fun h => ?_) h
        · refine w_a f_77_106 ?_
          refine w_a (ls := [(0, .ref 16), (1, .int x1), (2, .long y2), (4, .long y4)]) f_75_50 ?_
          refine w_a f_75_85 ?_
          exact h
        · refine w_a f_77_107 ?_
          refine w_a f_77_109 ?_
          refine w_a f_77_110 ?_
          refine w_a f_77_113 ?_
          refine w_a f_77_114 ?_
          refine w_a f_77_115 ?_
          refine w_a f_77_116 ?_
          refine w_a f_77_119 ?_
          refine w_a f_77_120 ?_
          refine w_a f_77_121 ?_
          refine w_a (ls := [(6, .long ((y4 * (L 16 2)) - (y2 * (L 16 1)))), (0, .ref 16), (1, .int (Int32.ofInt 0)), (2, .long y2), (4, .long y4)]) f_77_123 ?_
          refine w_a f_77_124 ?_
          refine w_a f_77_126 ?_
          refine w_a f_77_127 ?_
          refine w_a f_77_130 ?_
          refine w_a f_77_131 ?_
          refine w_a f_77_132 ?_
          refine w_a f_77_133 ?_
          refine w_a f_77_136 ?_
          refine w_a f_77_137 ?_
          refine w_a f_77_138 ?_
          refine w_a f_77_141 ?_
          refine w_a f_77_142 ?_
          refine w_a f_77_144 ?_
          refine w_a f_77_147 ?_
          refine w_a f_77_148 ?_
          refine w_a f_77_150 ?_
          refine w_a f_77_151 ?_
          refine w_a f_77_154 ?_
          refine w_a f_77_155 ?_
          refine w_a f_77_158 ?_
          refine w_a f_77_159 ?_
          refine w_a f_77_161 ?_
          refine w_a f_77_162 ?_
          refine w_a f_77_165 ?_
          refine w_a f_77_166 ?_
          refine w_a f_77_169 ?_
          refine w_a (ls := [(0, .ref 16), (1, .int x1), (2, .long y2), (4, .long y4)]) f_75_50 ?_
          refine w_a f_75_85 ?_
          exact h
      · refine w_a f_77_107 ?_
        refine w_a f_77_109 ?_
        refine w_a f_77_110 ?_
        refine w_a f_77_113 ?_
        refine w_a f_77_114 ?_
        refine w_a f_77_115 ?_
        refine w_a f_77_116 ?_
        refine w_a f_77_119 ?_
        refine w_a f_77_120 ?_
        refine w_a f_77_121 ?_
        refine w_a (ls := [(6, .long ((y4 * (L 16 2)) - (y2 * (L 16 1)))), (0, .ref 16), (1, .int (Int32.ofInt 0)), (2, .long y2), (4, .long y4)]) f_77_123 ?_
        refine w_a f_77_124 ?_
        refine w_a f_77_126 ?_
        refine w_a f_77_127 ?_
        refine w_a f_77_130 ?_
        refine w_a f_77_131 ?_
        refine w_a f_77_132 ?_
        refine w_a f_77_133 ?_
        refine w_a f_77_136 ?_
        refine w_a f_77_137 ?_
        refine w_a f_77_138 ?_
        refine w_a f_77_141 ?_
        refine w_a f_77_142 ?_
        refine w_a f_77_144 ?_
        refine w_a f_77_147 ?_
        refine w_a f_77_148 ?_
        refine w_a f_77_150 ?_
        refine w_a f_77_151 ?_
        refine w_a f_77_154 ?_
        refine w_a f_77_155 ?_
        refine w_a f_77_158 ?_
        refine w_a f_77_159 ?_
        refine w_a f_77_161 ?_
        refine w_a f_77_162 ?_
        refine w_a f_77_165 ?_
        refine w_a f_77_166 ?_
        refine w_a f_77_169 ?_
        refine w_a (ls := [(0, .ref 16), (1, .int x1), (2, .long y2), (4, .long y4)]) f_75_50 ?_
        refine w_a f_75_85 ?_
        exact h
    · refine i_m (fun h => ?_) (fun h => ?_) h
      · refine w_a f_75_53 ?_
        refine w_a f_75_54 ?_
        refine w_a f_75_55 ?_
        refine w_a f_75_57 ?_
        refine w_a f_75_58 ?_
        refine w_a f_75_59 ?_
        refine w_a (ls := [(0, .ref 16), (1, .int (Int32.ofInt 0)), (2, .long (-y4)), (4, .long y2)]) f_77_0 ?_
        refine w_a f_77_1 ?_
        refine w_a f_77_88 ?_
        refine w_a f_77_89 ?_
        refine w_a f_77_92 ?_
        refine w_a f_77_93 ?_
        refine i_m (fun h => ?_) (fun h => ?_) h
        · refine w_a f_77_97 ?_
          refine w_a f_77_98 ?_
          refine w_a f_77_101 ?_
          refine w_a f_77_102 ?_
          refine i_m (fun h => ?_) (fun h => ?_) h
          · refine w_a f_77_106 ?_
            refine w_a (ls := [(0, .ref 16), (1, .int x1), (2, .long y2), (4, .long y4)]) f_75_62 ?_
            refine w_a f_75_85 ?_
            exact h
          · refine w_a f_77_107 ?_
            refine w_a f_77_109 ?_
            refine w_a f_77_110 ?_
            refine w_a f_77_113 ?_
            refine w_a f_77_114 ?_
            refine w_a f_77_115 ?_
            refine w_a f_77_116 ?_
            refine w_a f_77_119 ?_
            refine w_a f_77_120 ?_
            refine w_a f_77_121 ?_
            refine w_a (ls := [(6, .long ((y2 * (L 16 2)) - ((-y4) * (L 16 1)))), (0, .ref 16), (1, .int (Int32.ofInt 0)), (2, .long (-y4)), (4, .long y2)]) f_77_123 ?_
            refine w_a f_77_124 ?_
            refine w_a f_77_126 ?_
            refine w_a f_77_127 ?_
            refine w_a f_77_130 ?_
            refine w_a f_77_131 ?_
            refine w_a f_77_132 ?_
            refine w_a f_77_133 ?_
            refine w_a f_77_136 ?_
            refine w_a f_77_137 ?_
            refine w_a f_77_138 ?_
            refine w_a f_77_141 ?_
            refine w_a f_77_142 ?_
            refine w_a f_77_144 ?_
            refine w_a f_77_147 ?_
            refine w_a f_77_148 ?_
            refine w_a f_77_150 ?_
            refine w_a f_77_151 ?_
            refine w_a f_77_154 ?_
            refine w_a f_77_155 ?_
            refine w_a f_77_158 ?_
            refine w_a f_77_159 ?_
            refine w_a f_77_161 ?_
            refine w_a f_77_162 ?_
            refine w_a f_77_165 ?_
            refine w_a f_77_166 ?_
            refine w_a f_77_169 ?_
            refine w_a (ls := [(0, .ref 16), (1, .int x1), (2, .long y2), (4, .long y4)]) f_75_62 ?_
            refine w_a f_75_85 ?_
            exact h
        · refine w_a f_77_107 ?_
          refine w_a f_77_109 ?_
          refine w_a f_77_110 ?_
          refine w_a f_77_113 ?_
          refine w_a f_77_114 ?_
          refine w_a f_77_115 ?_
          refine w_a f_77_116 ?_
          refine w_a f_77_119 ?_
          refine w_a f_77_120 ?_
          refine w_a f_77_121 ?_
          refine w_a (ls := [(6, .long ((y2 * (L 16 2)) - ((-y4) * (L 16 1)))), (0, .ref 16), (1, .int (Int32.ofInt 0)), (2, .long (-y4)), (4, .long y2)]) f_77_123 ?_
          refine w_a f_77_124 ?_
          refine w_a f_77_126 ?_
          refine w_a f_77_127 ?_
          refine w_a f_77_130 ?_
          refine w_a f_77_131 ?_
          refine w_a f_77_132 ?_
          refine w_a f_77_133 ?_
          refine w_a f_77_136 ?_
          refine w_a f_77_137 ?_
          refine w_a f_77_138 ?_
          refine w_a f_77_141 ?_
          refine w_a f_77_142 ?_
          refine w_a f_77_144 ?_
          refine w_a f_77_147 ?_
          refine w_a f_77_148 ?_
          refine w_a f_77_150 ?_
          refine w_a f_77_151 ?_
          refine w_a f_77_154 ?_
          refine w_a f_77_155 ?_
          refine w_a f_77_158 ?_
          refine w_a f_77_159 ?_
          refine w_a f_77_161 ?_
          refine w_a f_77_162 ?_
          refine w_a f_77_165 ?_
          refine w_a f_77_166 ?_
          refine w_a f_77_169 ?_
          refine w_a (ls := [(0, .ref 16), (1, .int x1), (2, .long y2), (4, .long y4)]) f_75_62 ?_
          refine w_a f_75_85 ?_
          exact h
      · refine i_m (fun h => ?_) (fun h => ?_) h
        · refine w_a f_75_65 ?_
          refine w_a f_75_66 ?_
          refine w_a f_75_67 ?_
          refine w_a f_75_69 ?_
          refine w_a f_75_70 ?_
          refine w_a f_75_71 ?_
          refine w_a (ls := [(0, .ref 16), (1, .int (Int32.ofInt 1)), (2, .long (-y4)), (4, .long y2)]) f_77_0 ?_
          refine w_a f_77_1 ?_
          refine w_a f_77_4 ?_
          refine w_a f_77_5 ?_
          refine w_a f_77_8 ?_
          refine w_a f_77_9 ?_
          refine i_m (fun h => ?_) (fun h => ?_) h
          · refine w_a f_77_13 ?_
            refine w_a f_77_14 ?_
            refine w_a f_77_17 ?_
            refine w_a f_77_18 ?_
            refine i_m (fun h => ?_) (fun h => ?_) h
            · refine w_a f_77_22 ?_
              refine w_a (ls := [(0, .ref 16), (1, .int x1), (2, .long y2), (4, .long y4)]) f_75_74 ?_
              refine w_a f_75_85 ?_
              exact h
            · refine w_a f_77_23 ?_
              refine w_a f_77_25 ?_
              refine w_a f_77_26 ?_
              refine w_a f_77_29 ?_
              refine w_a f_77_30 ?_
              refine w_a f_77_31 ?_
              refine w_a f_77_32 ?_
              refine w_a f_77_35 ?_
              refine w_a f_77_36 ?_
              refine w_a f_77_37 ?_
              refine w_a (ls := [(6, .long ((y2 * (L 16 0)) - ((-y4) * (L 16 3)))), (0, .ref 16), (1, .int (Int32.ofInt 1)), (2, .long (-y4)), (4, .long y2)]) f_77_39 ?_
              refine w_a f_77_40 ?_
              refine w_a f_77_42 ?_
              refine w_a f_77_43 ?_
              refine w_a f_77_46 ?_
              refine w_a f_77_47 ?_
              refine w_a f_77_48 ?_
              refine w_a f_77_49 ?_
              refine w_a f_77_52 ?_
              refine w_a f_77_53 ?_
              refine w_a f_77_54 ?_
              refine w_a f_77_57 ?_
              refine w_a f_77_58 ?_
              refine w_a f_77_60 ?_
              refine w_a f_77_63 ?_
              refine w_a f_77_64 ?_
              refine w_a f_77_66 ?_
              refine w_a f_77_67 ?_
              refine w_a f_77_70 ?_
              refine w_a f_77_71 ?_
              refine w_a f_77_74 ?_
              refine w_a f_77_75 ?_
              refine w_a f_77_77 ?_
              refine w_a f_77_78 ?_
              refine w_a f_77_81 ?_
              refine w_a f_77_82 ?_
              refine w_a f_77_85 ?_
              refine w_a f_77_169 ?_
              refine w_a (ls := [(0, .ref 16), (1, .int x1), (2, .long y2), (4, .long y4)]) f_75_74 ?_
              refine w_a f_75_85 ?_
              exact h
          · refine w_a f_77_23 ?_
            refine w_a f_77_25 ?_
            refine w_a f_77_26 ?_
            refine w_a f_77_29 ?_
            refine w_a f_77_30 ?_
            refine w_a f_77_31 ?_
            refine w_a f_77_32 ?_
            refine w_a f_77_35 ?_
            refine w_a f_77_36 ?_
            refine w_a f_77_37 ?_
            refine w_a (ls := [(6, .long ((y2 * (L 16 0)) - ((-y4) * (L 16 3)))), (0, .ref 16), (1, .int (Int32.ofInt 1)), (2, .long (-y4)), (4, .long y2)]) f_77_39 ?_
            refine w_a f_77_40 ?_
            refine w_a f_77_42 ?_
            refine w_a f_77_43 ?_
            refine w_a f_77_46 ?_
            refine w_a f_77_47 ?_
            refine w_a f_77_48 ?_
            refine w_a f_77_49 ?_
            refine w_a f_77_52 ?_
            refine w_a f_77_53 ?_
            refine w_a f_77_54 ?_
            refine w_a f_77_57 ?_
            refine w_a f_77_58 ?_
            refine w_a f_77_60 ?_
            refine w_a f_77_63 ?_
            refine w_a f_77_64 ?_
            refine w_a f_77_66 ?_
            refine w_a f_77_67 ?_
            refine w_a f_77_70 ?_
            refine w_a f_77_71 ?_
            refine w_a f_77_74 ?_
            refine w_a f_77_75 ?_
            refine w_a f_77_77 ?_
            refine w_a f_77_78 ?_
            refine w_a f_77_81 ?_
            refine w_a f_77_82 ?_
            refine w_a f_77_85 ?_
            refine w_a f_77_169 ?_
            refine w_a (ls := [(0, .ref 16), (1, .int x1), (2, .long y2), (4, .long y4)]) f_75_74 ?_
            refine w_a f_75_85 ?_
            exact h
        · refine w_a f_75_77 ?_
          refine w_a f_75_78 ?_
          refine w_a f_75_79 ?_
          refine w_a f_75_80 ?_
          refine w_a f_75_82 ?_
          refine w_a (ls := [(0, .ref 16), (1, .int (Int32.ofInt 1)), (2, .long y2), (4, .long y4)]) f_77_0 ?_
          refine w_a f_77_1 ?_
          refine w_a f_77_4 ?_
          refine w_a f_77_5 ?_
          refine w_a f_77_8 ?_
          refine w_a f_77_9 ?_
          refine i_m (fun h => ?_) (fun h => ?_) h
          · refine w_a f_77_13 ?_
            refine w_a f_77_14 ?_
            refine w_a f_77_17 ?_
            refine w_a f_77_18 ?_
            refine i_m (fun h => ?_) (fun h => ?_) h
            · refine w_a f_77_22 ?_
              refine w_a (ls := [(0, .ref 16), (1, .int x1), (2, .long y2), (4, .long y4)]) f_75_85 ?_
              exact h
            · refine w_a f_77_23 ?_
              refine w_a f_77_25 ?_
              refine w_a f_77_26 ?_
              refine w_a f_77_29 ?_
              refine w_a f_77_30 ?_
              refine w_a f_77_31 ?_
              refine w_a f_77_32 ?_
              refine w_a f_77_35 ?_
              refine w_a f_77_36 ?_
              refine w_a f_77_37 ?_
              refine w_a (ls := [(6, .long ((y4 * (L 16 0)) - (y2 * (L 16 3)))), (0, .ref 16), (1, .int (Int32.ofInt 1)), (2, .long y2), (4, .long y4)]) f_77_39 ?_
              refine w_a f_77_40 ?_
              refine w_a f_77_42 ?_
              refine w_a f_77_43 ?_
              refine w_a f_77_46 ?_
              refine w_a f_77_47 ?_
              refine w_a f_77_48 ?_
              refine w_a f_77_49 ?_
              refine w_a f_77_52 ?_
              refine w_a f_77_53 ?_
              refine w_a f_77_54 ?_
              refine w_a f_77_57 ?_
              refine w_a f_77_58 ?_
              refine w_a f_77_60 ?_
              refine w_a f_77_63 ?_
              refine w_a f_77_64 ?_
              refine w_a f_77_66 ?_
              refine w_a f_77_67 ?_
              refine w_a f_77_70 ?_
              refine w_a f_77_71 ?_
              refine w_a f_77_74 ?_
              refine w_a f_77_75 ?_
              refine w_a f_77_77 ?_
              refine w_a f_77_78 ?_
              refine w_a f_77_81 ?_
              refine w_a f_77_82 ?_
              refine w_a f_77_85 ?_
              refine w_a f_77_169 ?_
              refine w_a (ls := [(0, .ref 16), (1, .int x1), (2, .long y2), (4, .long y4)]) f_75_85 ?_
              exact h
          · refine w_a f_77_23 ?_
            refine w_a f_77_25 ?_
            refine w_a f_77_26 ?_
            refine w_a f_77_29 ?_
            refine w_a f_77_30 ?_
            refine w_a f_77_31 ?_
            refine w_a f_77_32 ?_
            refine w_a f_77_35 ?_
            refine w_a f_77_36 ?_
            refine w_a f_77_37 ?_
            refine w_a (ls := [(6, .long ((y4 * (L 16 0)) - (y2 * (L 16 3)))), (0, .ref 16), (1, .int (Int32.ofInt 1)), (2, .long y2), (4, .long y4)]) f_77_39 ?_
            refine w_a f_77_40 ?_
            refine w_a f_77_42 ?_
            refine w_a f_77_43 ?_
            refine w_a f_77_46 ?_
            refine w_a f_77_47 ?_
            refine w_a f_77_48 ?_
            refine w_a f_77_49 ?_
            refine w_a f_77_52 ?_
            refine w_a f_77_53 ?_
            refine w_a f_77_54 ?_
            refine w_a f_77_57 ?_
            refine w_a f_77_58 ?_
            refine w_a f_77_60 ?_
            refine w_a f_77_63 ?_
            refine w_a f_77_64 ?_
            refine w_a f_77_66 ?_
            refine w_a f_77_67 ?_
            refine w_a f_77_70 ?_
            refine w_a f_77_71 ?_
            refine w_a f_77_74 ?_
            refine w_a f_77_75 ?_
            refine w_a f_77_77 ?_
            refine w_a f_77_78 ?_
            refine w_a f_77_81 ?_
            refine w_a f_77_82 ?_
            refine w_a f_77_85 ?_
            refine w_a f_77_169 ?_
            refine w_a (ls := [(0, .ref 16), (1, .int x1), (2, .long y2), (4, .long y4)]) f_75_85 ?_
            exact h
set_option maxRecDepth 10000 in
set_option maxHeartbeats 4000000 in
theorem s_75_39_16 {Lx : Nat} {I : Mi} {L : Ml} {e : Nat} {Q : Kq} (h :
    Q (.inl none) (gE Lx) I L e) :
    Wp 75 39 [(0, .ref 16)] [] (gE Lx) I L e Q := by
  refine w_a f_75_39 ?_
  refine w_a f_75_85 ?_
  exact h
set_option maxRecDepth 10000 in
set_option maxHeartbeats 4000000 in
theorem s_76_0_14 {Lx : Nat} {I : Mi} {L : Ml} {e : Nat} {Q : Kq} {y1 : Int64} {y3 : Int64} (h :
    Q (.inl none) (gE Lx) I (ul (ul (ul (ul L 14 3 ((y3 * (L 14 3)) + (y1 * (L 14 0)))) 14 2 ((y3 * (L 14 2)) - (y1 * (L 14 1)))) 14 0 ((y3 * (L 14 0)) - (y1 * (L 14 3)))) 14 1 ((y3 * (L 14 1)) + (y1 * (L 14 2)))) e) :
    Wp 76 0 [(0, .ref 14), (1, .long y1), (3, .long y3)] [] (gE Lx) I L e Q := by
  refine w_a f_76_0 ?_
  refine w_a f_76_1 ?_
  refine w_a f_76_2 ?_
  refine w_a f_76_5 ?_
  refine w_a f_76_6 ?_
  refine w_a f_76_7 ?_
  refine w_a f_76_8 ?_
  refine w_a f_76_11 ?_
  refine w_a f_76_12 ?_
  refine w_a f_76_13 ?_
  refine w_a (ls := [(5, .long ((y3 * (L 14 0)) - (y1 * (L 14 3)))), (0, .ref 14), (1, .long y1), (3, .long y3)]) f_76_15 ?_
  refine w_a f_76_16 ?_
  refine w_a f_76_17 ?_
  refine w_a f_76_20 ?_
  refine w_a f_76_21 ?_
  refine w_a f_76_22 ?_
  refine w_a f_76_23 ?_
  refine w_a f_76_26 ?_
  refine w_a f_76_27 ?_
  refine w_a f_76_28 ?_
  refine w_a (ls := [(7, .long ((y3 * (L 14 1)) + (y1 * (L 14 2)))), (5, .long ((y3 * (L 14 0)) - (y1 * (L 14 3)))), (0, .ref 14), (1, .long y1), (3, .long y3)]) f_76_30 ?_
  refine w_a f_76_31 ?_
  refine w_a f_76_32 ?_
  refine w_a f_76_35 ?_
  refine w_a f_76_36 ?_
  refine w_a f_76_37 ?_
  refine w_a f_76_38 ?_
  refine w_a f_76_41 ?_
  refine w_a f_76_42 ?_
  refine w_a f_76_43 ?_
  refine w_a (ls := [(9, .long ((y3 * (L 14 2)) - (y1 * (L 14 1)))), (7, .long ((y3 * (L 14 1)) + (y1 * (L 14 2)))), (5, .long ((y3 * (L 14 0)) - (y1 * (L 14 3)))), (0, .ref 14), (1, .long y1), (3, .long y3)]) f_76_45 ?_
  refine w_a f_76_46 ?_
  refine w_a f_76_47 ?_
  refine w_a f_76_48 ?_
  refine w_a f_76_51 ?_
  refine w_a f_76_52 ?_
  refine w_a f_76_53 ?_
  refine w_a f_76_54 ?_
  refine w_a f_76_57 ?_
  refine w_a f_76_58 ?_
  refine w_a f_76_59 ?_
  refine w_a f_76_62 ?_
  refine w_a f_76_63 ?_
  refine w_a f_76_65 ?_
  refine w_a f_76_68 ?_
  refine w_a f_76_69 ?_
  refine w_a f_76_71 ?_
  refine w_a f_76_74 ?_
  refine w_a f_76_75 ?_
  refine w_a f_76_77 ?_
  refine w_a f_76_80 ?_
  exact h
set_option maxRecDepth 10000 in
set_option maxHeartbeats 4000000 in
theorem s_76_0_15 {Lx : Nat} {I : Mi} {L : Ml} {e : Nat} {Q : Kq} {y1 : Int64} {y3 : Int64} (h :
    Q (.inl none) (gE Lx) I (ul (ul (ul (ul L 15 3 ((y3 * (L 15 3)) + (y1 * (L 15 0)))) 15 2 ((y3 * (L 15 2)) - (y1 * (L 15 1)))) 15 0 ((y3 * (L 15 0)) - (y1 * (L 15 3)))) 15 1 ((y3 * (L 15 1)) + (y1 * (L 15 2)))) e) :
    Wp 76 0 [(0, .ref 15), (1, .long y1), (3, .long y3)] [] (gE Lx) I L e Q := by
  refine w_a f_76_0 ?_
  refine w_a f_76_1 ?_
  refine w_a f_76_2 ?_
  refine w_a f_76_5 ?_
  refine w_a f_76_6 ?_
  refine w_a f_76_7 ?_
  refine w_a f_76_8 ?_
  refine w_a f_76_11 ?_
  refine w_a f_76_12 ?_
  refine w_a f_76_13 ?_
  refine w_a (ls := [(5, .long ((y3 * (L 15 0)) - (y1 * (L 15 3)))), (0, .ref 15), (1, .long y1), (3, .long y3)]) f_76_15 ?_
  refine w_a f_76_16 ?_
  refine w_a f_76_17 ?_
  refine w_a f_76_20 ?_
  refine w_a f_76_21 ?_
  refine w_a f_76_22 ?_
  refine w_a f_76_23 ?_
  refine w_a f_76_26 ?_
  refine w_a f_76_27 ?_
  refine w_a f_76_28 ?_
  refine w_a (ls := [(7, .long ((y3 * (L 15 1)) + (y1 * (L 15 2)))), (5, .long ((y3 * (L 15 0)) - (y1 * (L 15 3)))), (0, .ref 15), (1, .long y1), (3, .long y3)]) f_76_30 ?_
  refine w_a f_76_31 ?_
  refine w_a f_76_32 ?_
  refine w_a f_76_35 ?_
  refine w_a f_76_36 ?_
  refine w_a f_76_37 ?_
  refine w_a f_76_38 ?_
  refine w_a f_76_41 ?_
  refine w_a f_76_42 ?_
  refine w_a f_76_43 ?_
  refine w_a (ls := [(9, .long ((y3 * (L 15 2)) - (y1 * (L 15 1)))), (7, .long ((y3 * (L 15 1)) + (y1 * (L 15 2)))), (5, .long ((y3 * (L 15 0)) - (y1 * (L 15 3)))), (0, .ref 15), (1, .long y1), (3, .long y3)]) f_76_45 ?_
  refine w_a f_76_46 ?_
  refine w_a f_76_47 ?_
  refine w_a f_76_48 ?_
  refine w_a f_76_51 ?_
  refine w_a f_76_52 ?_
  refine w_a f_76_53 ?_
  refine w_a f_76_54 ?_
  refine w_a f_76_57 ?_
  refine w_a f_76_58 ?_
  refine w_a f_76_59 ?_
  refine w_a f_76_62 ?_
  refine w_a f_76_63 ?_
  refine w_a f_76_65 ?_
  refine w_a f_76_68 ?_
  refine w_a f_76_69 ?_
  refine w_a f_76_71 ?_
  refine w_a f_76_74 ?_
  refine w_a f_76_75 ?_
  refine w_a f_76_77 ?_
  refine w_a f_76_80 ?_
  exact h
set_option maxRecDepth 10000 in
set_option maxHeartbeats 4000000 in
theorem s_76_0_16 {Lx : Nat} {I : Mi} {L : Ml} {e : Nat} {Q : Kq} {y1 : Int64} {y3 : Int64} (h :
    Q (.inl none) (gE Lx) I (ul (ul (ul (ul L 16 3 ((y3 * (L 16 3)) + (y1 * (L 16 0)))) 16 2 ((y3 * (L 16 2)) - (y1 * (L 16 1)))) 16 0 ((y3 * (L 16 0)) - (y1 * (L 16 3)))) 16 1 ((y3 * (L 16 1)) + (y1 * (L 16 2)))) e) :
    Wp 76 0 [(0, .ref 16), (1, .long y1), (3, .long y3)] [] (gE Lx) I L e Q := by
  refine w_a f_76_0 ?_
  refine w_a f_76_1 ?_
  refine w_a f_76_2 ?_
  refine w_a f_76_5 ?_
  refine w_a f_76_6 ?_
  refine w_a f_76_7 ?_
  refine w_a f_76_8 ?_
  refine w_a f_76_11 ?_
  refine w_a f_76_12 ?_
  refine w_a f_76_13 ?_
  refine w_a (ls := [(5, .long ((y3 * (L 16 0)) - (y1 * (L 16 3)))), (0, .ref 16), (1, .long y1), (3, .long y3)]) f_76_15 ?_
  refine w_a f_76_16 ?_
  refine w_a f_76_17 ?_
  refine w_a f_76_20 ?_
  refine w_a f_76_21 ?_
  refine w_a f_76_22 ?_
  refine w_a f_76_23 ?_
  refine w_a f_76_26 ?_
  refine w_a f_76_27 ?_
  refine w_a f_76_28 ?_
  refine w_a (ls := [(7, .long ((y3 * (L 16 1)) + (y1 * (L 16 2)))), (5, .long ((y3 * (L 16 0)) - (y1 * (L 16 3)))), (0, .ref 16), (1, .long y1), (3, .long y3)]) f_76_30 ?_
  refine w_a f_76_31 ?_
  refine w_a f_76_32 ?_
  refine w_a f_76_35 ?_
  refine w_a f_76_36 ?_
  refine w_a f_76_37 ?_
  refine w_a f_76_38 ?_
  refine w_a f_76_41 ?_
  refine w_a f_76_42 ?_
  refine w_a f_76_43 ?_
  refine w_a (ls := [(9, .long ((y3 * (L 16 2)) - (y1 * (L 16 1)))), (7, .long ((y3 * (L 16 1)) + (y1 * (L 16 2)))), (5, .long ((y3 * (L 16 0)) - (y1 * (L 16 3)))), (0, .ref 16), (1, .long y1), (3, .long y3)]) f_76_45 ?_
  refine w_a f_76_46 ?_
  refine w_a f_76_47 ?_
  refine w_a f_76_48 ?_
  refine w_a f_76_51 ?_
  refine w_a f_76_52 ?_
  refine w_a f_76_53 ?_
  refine w_a f_76_54 ?_
  refine w_a f_76_57 ?_
  refine w_a f_76_58 ?_
  refine w_a f_76_59 ?_
  refine w_a f_76_62 ?_
  refine w_a f_76_63 ?_
  refine w_a f_76_65 ?_
  refine w_a f_76_68 ?_
  refine w_a f_76_69 ?_
  refine w_a f_76_71 ?_
  refine w_a f_76_74 ?_
  refine w_a f_76_75 ?_
  refine w_a f_76_77 ?_
  refine w_a f_76_80 ?_
  exact h
set_option maxRecDepth 10000 in
set_option maxHeartbeats 4000000 in
theorem s_88_30 {Lx : Nat} {I : Mi} {L : Ml} {e : Nat} {Q : Kq} {x1 : Int32} (h :
    (inb x1 4 (
     Q (.inl (some (.int (I 29 x1.toNatClampNeg)))) (gE Lx) I L e)
    False)) :
    Wp 88 30 [(0, .ref 1), (1, .int x1)] [] (gE Lx) I L e Q := by
  refine w_a f_88_30 ?_
  refine w_a f_88_31 ?_
  refine w_a f_88_34 ?_
  refine w_a f_88_35 ?_
  refine n_m (fun h => ?_) h
  refine w_a f_88_36 ?_
  exact h
set_option maxRecDepth 10000 in
set_option maxHeartbeats 4000000 in
theorem s_89_0 {Lx : Nat} {I : Mi} {L : Ml} {e : Nat} {Q : Kq} (h :
    Wp 89 9 [(0, .ref 1), (1, .int (Int32.ofInt 0))] [] (gE Lx) (ui I 21 0 (Int32.ofInt 0)) (ul (ul L 21 1 (Int64.ofInt 0)) 21 2 (Int64.ofInt 1)) e Q) :
    Wp 89 0 [(0, .ref 1)] [] (gE Lx) I L e Q := by
  refine w_a f_89_0 ?_
  refine w_a f_89_1 ?_
  refine w_a f_89_4 ?_
  refine w_a (ls := [(0, .ref 21)]) f_1_0 ?_
  refine w_a f_1_1 ?_
  refine w_a f_1_2 ?_
  refine w_a f_1_5 ?_
  refine w_a f_1_6 ?_
  refine w_a f_1_7 ?_
  refine w_a f_1_10 ?_
  refine w_a f_1_11 ?_
  refine w_a f_1_12 ?_
  refine w_a f_1_15 ?_
  refine w_a (ls := [(0, .ref 1)]) f_89_7 ?_
  refine w_a f_89_8 ?_
  exact w_n (ks := [0, 1]) rfl h
set_option maxRecDepth 10000 in
set_option maxHeartbeats 4000000 in
theorem s_89_9 {Lx : Nat} {I : Mi} {L : Ml} {e : Nat} {Q : Kq} {x1 : Int32} (h :
    (if x1 < (Int32.ofInt 4) then
     (inb x1 4 (
      Wp 89 9 [(0, .ref 1), (1, .int (x1 + Int32.ofInt 1))] [] (gE Lx) (ui I 28 x1.toNatClampNeg x1) L e Q)
     False)
    else
     (if (Int32.ofInt 4) < (I 5 3) then
      Wp 89 51 [(0, .ref 1), (1, .int (Int32.ofInt 4)), (2, .int (Int32.ofInt 1)), (3, .int (Int32.ofInt 0))] [] (gE Lx) I L e Q
     else
      Wp 89 51 [(0, .ref 1), (1, .int (I 5 3)), (2, .int (Int32.ofInt 1)), (3, .int (Int32.ofInt 0))] [] (gE Lx) I L e Q))) :
    Wp 89 9 [(0, .ref 1), (1, .int x1)] [] (gE Lx) I L e Q := by
  refine w_a f_89_9 ?_
  refine w_a f_89_10 ?_
  refine w_a f_89_11 ?_
  refine w_a f_89_14 ?_
  refine w_a f_89_15 ?_
  refine i_m (fun h => ?_) (fun h => ?_) h
  · refine w_a f_89_18 ?_
    refine w_a f_89_19 ?_
    refine w_a f_89_22 ?_
    refine w_a f_89_23 ?_
    refine w_a f_89_24 ?_
    refine n_m (fun h => ?_) h
    refine w_a f_89_25 ?_
    refine w_a (ls := [(1, .int (x1 + Int32.ofInt 1)), (0, .ref 1)]) f_89_28 ?_
    exact w_n (ks := [0, 1]) rfl h
  · refine w_a f_89_31 ?_
    refine w_a f_89_32 ?_
    refine w_a f_89_35 ?_
    refine w_a f_89_38 ?_
    refine w_a f_89_39 ?_
    refine w_a f_89_42 ?_
    refine w_a f_89_43 ?_
    refine w_a (ls := [(0, .int (I 5 3)), (1, .int (Int32.ofInt 4))]) f_419_0 ?_
    refine w_a f_419_1 ?_
    refine w_a f_419_2 ?_
    refine i_m (fun h => ?_) (fun h => ?_) h
    · refine w_a f_419_9 ?_
      refine w_a f_419_10 ?_
      refine w_a (ls := [(0, .ref 1), (1, .int x1)]) f_89_46 ?_
      refine w_a (ls := [(1, .int (Int32.ofInt 4)), (0, .ref 1)]) f_89_47 ?_
      refine w_a f_89_48 ?_
      refine w_a (ls := [(2, .int (Int32.ofInt 1)), (1, .int (Int32.ofInt 4)), (0, .ref 1)]) f_89_49 ?_
      refine w_a f_89_50 ?_
      exact w_n (ks := [0, 1, 2, 3]) rfl h
    · refine w_a f_419_5 ?_
      refine w_a f_419_6 ?_
      refine w_a f_419_10 ?_
      refine w_a (ls := [(0, .ref 1), (1, .int x1)]) f_89_46 ?_
      refine w_a (ls := [(1, .int (I 5 3)), (0, .ref 1)]) f_89_47 ?_
      refine w_a f_89_48 ?_
      refine w_a (ls := [(2, .int (Int32.ofInt 1)), (1, .int (I 5 3)), (0, .ref 1)]) f_89_49 ?_
      refine w_a f_89_50 ?_
      exact w_n (ks := [0, 1, 2, 3]) rfl h
set_option maxRecDepth 10000 in
set_option maxHeartbeats 4000000 in
theorem s_89_51 {Lx : Nat} {I : Mi} {L : Ml} {e : Nat} {Q : Kq} {x1 : Int32} {x2 : Int32} {x3 : Int32} (h :
    (if x3 < (Int32.ofInt 24) then
     (if x2 = 0 then
      Q (.inl none) (gE Lx) I L e
     else
      Wp 90 33 [(0, .ref 1), (1, .int (Int32.ofInt 0))] [] (gE Lx) I (ul (ul (ul (ul L 16 0 ((I 5 0).toInt64)) 16 1 ((I 5 1).toInt64)) 16 2 ((I 5 2).toInt64)) 16 3 (Int64.ofInt 0)) e (kcp (Wp 89) 89 62 0 [(0, .ref 1), (1, .int x1), (3, .int x3)] 71 [] Q))
    else
     Q (.inl none) (gE Lx) I L e)) :
    Wp 89 51 [(0, .ref 1), (1, .int x1), (2, .int x2), (3, .int x3)] [] (gE Lx) I L e Q := by
  refine w_a f_89_51 ?_
  refine w_a f_89_52 ?_
  refine w_a f_89_54 ?_
  refine i_m (fun h => ?_) (fun h => ?_) h
  · refine w_a f_89_57 ?_
    refine w_a f_89_58 ?_
    refine i_m (fun h => ?_) (fun h => ?_) h
    · refine w_a f_89_77 ?_
      exact h
    · refine w_a f_89_61 ?_
      refine w_c (ks := [0, 1, 3]) f_89_62 rfl rfl ?_
      refine w_a (ls := [(0, .ref 1)]) f_90_0 ?_
      refine w_a f_90_1 ?_
      refine w_a f_90_4 ?_
      refine w_a f_90_5 ?_
      refine w_a f_90_8 ?_
      refine w_a f_90_11 ?_
      refine w_a f_90_12 ?_
      refine w_a f_90_13 ?_
      refine w_a f_90_16 ?_
      refine w_a f_90_19 ?_
      refine w_a f_90_20 ?_
      refine w_a f_90_21 ?_
      refine w_a f_90_24 ?_
      refine w_a f_90_27 ?_
      refine w_a f_90_28 ?_
      refine w_a (ls := [(0, .ref 16), (1, .long (I 5 0).toInt64), (3, .long (I 5 1).toInt64), (5, .long (I 5 2).toInt64)]) f_74_0 ?_
      refine w_a f_74_1 ?_
      refine w_a f_74_2 ?_
      refine w_a f_74_5 ?_
      refine w_a f_74_6 ?_
      refine w_a f_74_7 ?_
      refine w_a f_74_10 ?_
      refine w_a f_74_11 ?_
      refine w_a f_74_13 ?_
      refine w_a f_74_16 ?_
      refine w_a f_74_17 ?_
      refine w_a f_74_18 ?_
      refine w_a f_74_21 ?_
      refine w_a (ls := [(0, .ref 1)]) f_90_31 ?_
      refine w_a f_90_32 ?_
      exact w_n (ks := [0, 1]) rfl h
  · refine w_a f_89_77 ?_
    exact h
set_option maxRecDepth 10000 in
set_option maxHeartbeats 4000000 in
theorem s_89_65 {Lx : Nat} {I : Mi} {L : Ml} {e : Nat} {Q : Kq} {x1 : Int32} {x3 : Int32} (h :
    Wp 91 4 [(0, .ref 1), (1, .int x1), (2, .int (x1 - (Int32.ofInt 2)))] [] (gE Lx) I L e (kcp (Wp 89) 89 67 0 [(0, .ref 1), (1, .int x1), (3, .int x3)] 71 [] Q)) :
    Wp 89 65 [(0, .ref 1), (1, .int x1), (3, .int x3)] [] (gE Lx) I L e Q := by
  refine w_a f_89_65 ?_
  refine w_a f_89_66 ?_
  refine w_c (ks := [0, 1, 3]) f_89_67 rfl rfl ?_
  refine w_a (ls := [(0, .ref 1), (1, .int x1)]) f_91_0 ?_
  refine w_a f_91_1 ?_
  refine w_a f_91_2 ?_
  refine w_a f_91_3 ?_
  exact w_n (ks := [0, 1, 2]) rfl h
set_option maxRecDepth 10000 in
set_option maxHeartbeats 4000000 in
theorem s_89_70 {Lx : Nat} {I : Mi} {L : Ml} {e : Nat} {Q : Kq} {x1 : Int32} {x3 : Int32} {r : Int32} (h :
    Wp 89 51 [(0, .ref 1), (1, .int x1), (2, .int r), (3, .int (x3 + Int32.ofInt 1))] [] (gE Lx) I L e Q) :
    Wp 89 70 [(0, .ref 1), (1, .int x1), (3, .int x3)] [.int r] (gE Lx) I L e Q := by
  refine w_a f_89_70 ?_
  refine w_a (ls := [(2, .int r), (0, .ref 1), (1, .int x1), (3, .int x3)]) f_89_71 ?_
  refine w_a (ls := [(3, .int (x3 + Int32.ofInt 1)), (2, .int r), (0, .ref 1), (1, .int x1)]) f_89_74 ?_
  exact w_n (ks := [0, 1, 2, 3]) rfl h
set_option maxRecDepth 10000 in
set_option maxHeartbeats 4000000 in
theorem s_90_33 {Lx : Nat} {I : Mi} {L : Ml} {e : Nat} {Q : Kq} {x1 : Int32} (h :
    (if x1 < (I 5 3) then
     (if x1 < (Int32.ofInt 4) then
      (inb x1 4 (
       Wp 12 0 [(0, .ref 5), (1, .int (I 28 x1.toNatClampNeg))] [] (gE Lx) I L e (kcp (Wp 90) 90 69 0 [(0, .ref 1), (1, .int x1), (2, .int (I 28 x1.toNatClampNeg))] 71 [.ref 16] Q))
      False)
     else
      Wp 3 0 [(0, .ref 21), (1, .long ((((L 16 0) - (L 16 2)) * ((L 16 0) - (L 16 2))) + (((L 16 1) - (L 16 3)) * ((L 16 1) - (L 16 3))))), (3, .long ((((L 16 0) + (L 16 2)) * ((L 16 0) + (L 16 2))) + (((L 16 1) + (L 16 3)) * ((L 16 1) + (L 16 3))))), (5, .int (Int32.ofInt (-1)))] [] (gE Lx) I L e (kcp (Wp 2) 2 4 0 [(0, .ref 21)] 71 [] (kcp (Wp 90) 90 117 0 [(0, .ref 1)] 71 [] Q)))
    else
     Wp 3 0 [(0, .ref 21), (1, .long ((((L 16 0) - (L 16 2)) * ((L 16 0) - (L 16 2))) + (((L 16 1) - (L 16 3)) * ((L 16 1) - (L 16 3))))), (3, .long ((((L 16 0) + (L 16 2)) * ((L 16 0) + (L 16 2))) + (((L 16 1) + (L 16 3)) * ((L 16 1) + (L 16 3))))), (5, .int (Int32.ofInt (-1)))] [] (gE Lx) I L e (kcp (Wp 2) 2 4 0 [(0, .ref 21)] 71 [] (kcp (Wp 90) 90 117 0 [(0, .ref 1)] 71 [] Q)))) :
    Wp 90 33 [(0, .ref 1), (1, .int x1)] [] (gE Lx) I L e Q := by
  refine w_a f_90_33 ?_
  refine w_a f_90_34 ?_
  refine w_a f_90_35 ?_
  refine w_a f_90_38 ?_
  refine w_a f_90_41 ?_
  refine i_m (fun h => ?_) (fun h => ?_) h
  · refine w_a f_90_44 ?_
    refine w_a f_90_45 ?_
    refine w_a f_90_46 ?_
    refine w_a f_90_49 ?_
    refine w_a f_90_50 ?_
    refine i_m (fun h => ?_) (fun h => ?_) h
    · refine w_a f_90_53 ?_
      refine w_a f_90_54 ?_
      refine w_a f_90_57 ?_
      refine w_a f_90_58 ?_
      refine n_m (fun h => ?_) h
      refine w_a f_90_59 ?_
      refine w_a (ls := [(2, .int (I 28 x1.toNatClampNeg)), (0, .ref 1), (1, .int x1)]) f_90_60 ?_
      refine w_a f_90_61 ?_
      refine w_a f_90_64 ?_
      refine w_a f_90_65 ?_
      refine w_a f_90_68 ?_
      exact w_c (ks := [0, 1, 2]) f_90_69 rfl rfl h
    · refine w_a f_90_99 ?_
      refine w_a f_90_100 ?_
      refine w_a f_90_103 ?_
      refine w_a f_90_104 ?_
      refine w_a f_90_107 ?_
      refine w_a (ls := [(0, .ref 16)]) f_78_0 ?_
      refine w_a f_78_1 ?_
      refine w_a f_78_4 ?_
      refine w_a f_78_5 ?_
      refine w_a f_78_8 ?_
      refine w_a f_78_9 ?_
      refine w_a (ls := [(1, .long ((L 16 0) - (L 16 2))), (0, .ref 16)]) f_78_10 ?_
      refine w_a f_78_11 ?_
      refine w_a f_78_14 ?_
      refine w_a f_78_15 ?_
      refine w_a f_78_18 ?_
      refine w_a f_78_19 ?_
      refine w_a (ls := [(3, .long ((L 16 1) - (L 16 3))), (1, .long ((L 16 0) - (L 16 2))), (0, .ref 16)]) f_78_20 ?_
      refine w_a f_78_21 ?_
      refine w_a f_78_22 ?_
      refine w_a f_78_23 ?_
      refine w_a f_78_24 ?_
      refine w_a f_78_25 ?_
      refine w_a f_78_26 ?_
      refine w_a f_78_27 ?_
      refine w_a (ls := [(0, .ref 1), (1, .int x1)]) f_90_110 ?_
      refine w_a f_90_111 ?_
      refine w_a f_90_114 ?_
      refine w_a (ls := [(0, .ref 16)]) f_79_0 ?_
      refine w_a f_79_1 ?_
      refine w_a f_79_4 ?_
      refine w_a f_79_5 ?_
      refine w_a f_79_8 ?_
      refine w_a f_79_9 ?_
      refine w_a (ls := [(1, .long ((L 16 0) + (L 16 2))), (0, .ref 16)]) f_79_10 ?_
      refine w_a f_79_11 ?_
      refine w_a f_79_14 ?_
      refine w_a f_79_15 ?_
      refine w_a f_79_18 ?_
      refine w_a f_79_19 ?_
      refine w_a (ls := [(3, .long ((L 16 1) + (L 16 3))), (1, .long ((L 16 0) + (L 16 2))), (0, .ref 16)]) f_79_20 ?_
      refine w_a f_79_21 ?_
      refine w_a f_79_22 ?_
      refine w_a f_79_23 ?_
      refine w_a f_79_24 ?_
      refine w_a f_79_25 ?_
      refine w_a f_79_26 ?_
      refine w_a f_79_27 ?_
      refine w_c (ls := [(0, .ref 1), (1, .int x1)]) (ks := [0]) f_90_117 rfl rfl ?_
      refine w_a (ls := [(0, .ref 21), (1, .long ((((L 16 0) - (L 16 2)) * ((L 16 0) - (L 16 2))) + (((L 16 1) - (L 16 3)) * ((L 16 1) - (L 16 3))))), (3, .long ((((L 16 0) + (L 16 2)) * ((L 16 0) + (L 16 2))) + (((L 16 1) + (L 16 3)) * ((L 16 1) + (L 16 3)))))]) f_2_0 ?_
      refine w_a f_2_1 ?_
      refine w_a f_2_2 ?_
      refine w_a f_2_3 ?_
      exact w_c (ks := [0]) f_2_4 rfl rfl h
  · refine w_a f_90_99 ?_
    refine w_a f_90_100 ?_
    refine w_a f_90_103 ?_
    refine w_a f_90_104 ?_
    refine w_a f_90_107 ?_
    refine w_a (ls := [(0, .ref 16)]) f_78_0 ?_
    refine w_a f_78_1 ?_
    refine w_a f_78_4 ?_
    refine w_a f_78_5 ?_
    refine w_a f_78_8 ?_
    refine w_a f_78_9 ?_
    refine w_a (ls := [(1, .long ((L 16 0) - (L 16 2))), (0, .ref 16)]) f_78_10 ?_
    refine w_a f_78_11 ?_
    refine w_a f_78_14 ?_
    refine w_a f_78_15 ?_
    refine w_a f_78_18 ?_
    refine w_a f_78_19 ?_
    refine w_a (ls := [(3, .long ((L 16 1) - (L 16 3))), (1, .long ((L 16 0) - (L 16 2))), (0, .ref 16)]) f_78_20 ?_
    refine w_a f_78_21 ?_
    refine w_a f_78_22 ?_
    refine w_a f_78_23 ?_
    refine w_a f_78_24 ?_
    refine w_a f_78_25 ?_
    refine w_a f_78_26 ?_
    refine w_a f_78_27 ?_
    refine w_a (ls := [(0, .ref 1), (1, .int x1)]) f_90_110 ?_
    refine w_a f_90_111 ?_
    refine w_a f_90_114 ?_
    refine w_a (ls := [(0, .ref 16)]) f_79_0 ?_
    refine w_a f_79_1 ?_
    refine w_a f_79_4 ?_
    refine w_a f_79_5 ?_
    refine w_a f_79_8 ?_
    refine w_a f_79_9 ?_
    refine w_a (ls := [(1, .long ((L 16 0) + (L 16 2))), (0, .ref 16)]) f_79_10 ?_
    refine w_a f_79_11 ?_
    refine w_a f_79_14 ?_
    refine w_a f_79_15 ?_
    refine w_a f_79_18 ?_
    refine w_a f_79_19 ?_
    refine w_a (ls := [(3, .long ((L 16 1) + (L 16 3))), (1, .long ((L 16 0) + (L 16 2))), (0, .ref 16)]) f_79_20 ?_
    refine w_a f_79_21 ?_
    refine w_a f_79_22 ?_
    refine w_a f_79_23 ?_
    refine w_a f_79_24 ?_
    refine w_a f_79_25 ?_
    refine w_a f_79_26 ?_
    refine w_a f_79_27 ?_
    refine w_c (ls := [(0, .ref 1), (1, .int x1)]) (ks := [0]) f_90_117 rfl rfl ?_
    refine w_a (ls := [(0, .ref 21), (1, .long ((((L 16 0) - (L 16 2)) * ((L 16 0) - (L 16 2))) + (((L 16 1) - (L 16 3)) * ((L 16 1) - (L 16 3))))), (3, .long ((((L 16 0) + (L 16 2)) * ((L 16 0) + (L 16 2))) + (((L 16 1) + (L 16 3)) * ((L 16 1) + (L 16 3)))))]) f_2_0 ?_
    refine w_a f_2_1 ?_
    refine w_a f_2_2 ?_
    refine w_a f_2_3 ?_
    exact w_c (ks := [0]) f_2_4 rfl rfl h
set_option maxRecDepth 10000 in
set_option maxHeartbeats 4000000 in
theorem s_90_72 {Lx : Nat} {I : Mi} {L : Ml} {e : Nat} {Q : Kq} {x1 : Int32} {x2 : Int32} {r : Int32} (h :
    Wp 14 0 [(0, .ref 5), (1, .int x2)] [] (gE Lx) I L e (kcp (Wp 90) 90 77 0 [(0, .ref 1), (1, .int x1), (2, .int x2)] 71 [.int r, .ref 16] Q)) :
    Wp 90 72 [(0, .ref 1), (1, .int x1), (2, .int x2)] [.int r, .ref 16] (gE Lx) I L e Q := by
  refine w_a f_90_72 ?_
  refine w_a f_90_73 ?_
  refine w_a f_90_76 ?_
  exact w_c (ks := [0, 1, 2]) f_90_77 rfl rfl h
set_option maxRecDepth 10000 in
set_option maxHeartbeats 4000000 in
theorem s_90_80 {Lx : Nat} {I : Mi} {L : Ml} {e : Nat} {Q : Kq} {x1 : Int32} {x2 : Int32} {r1 : Int32} {r : Int32} (h :
    Wp 15 0 [(0, .ref 5), (1, .int x2)] [] (gE Lx) I L e (kcp (Wp 90) 90 86 0 [(0, .ref 1), (1, .int x1)] 71 [.long r.toInt64, .int r1, .ref 16] Q)) :
    Wp 90 80 [(0, .ref 1), (1, .int x1), (2, .int x2)] [.int r, .int r1, .ref 16] (gE Lx) I L e Q := by
  refine w_a f_90_80 ?_
  refine w_a f_90_81 ?_
  refine w_a f_90_82 ?_
  refine w_a f_90_85 ?_
  exact w_c (ks := [0, 1]) f_90_86 rfl rfl h
set_option maxRecDepth 10000 in
set_option maxHeartbeats 4000000 in
theorem s_90_89 {Lx : Nat} {I : Mi} {L : Ml} {e : Nat} {Q : Kq} {x1 : Int32} {r1 : Int32} {rl2 : Int64} {r : Int32} (h :
    Wp 75 0 [(0, .ref 16), (1, .int r1), (2, .long rl2), (4, .long r.toInt64)] [] (gE Lx) I L e (kcp (Wp 90) 90 90 0 [(0, .ref 1), (1, .int x1)] 71 [] Q)) :
    Wp 90 89 [(0, .ref 1), (1, .int x1)] [.int r, .long rl2, .int r1, .ref 16] (gE Lx) I L e Q := by
  refine w_a f_90_89 ?_
  exact w_c (ks := [0, 1]) f_90_90 rfl rfl h
set_option maxRecDepth 10000 in
set_option maxHeartbeats 4000000 in
theorem s_90_93 {Lx : Nat} {I : Mi} {L : Ml} {e : Nat} {Q : Kq} {x1 : Int32} (h :
    Wp 90 33 [(0, .ref 1), (1, .int (x1 + Int32.ofInt 1))] [] (gE Lx) I L e Q) :
    Wp 90 93 [(0, .ref 1), (1, .int x1)] [] (gE Lx) I L e Q := by
  refine w_a f_90_93 ?_
  refine w_a (ls := [(1, .int (x1 + Int32.ofInt 1)), (0, .ref 1)]) f_90_96 ?_
  exact w_n (ks := [0, 1]) rfl h
set_option maxRecDepth 10000 in
set_option maxHeartbeats 4000000 in
theorem s_90_120 {Lx : Nat} {I : Mi} {L : Ml} {e : Nat} {Q : Kq} {r : Int32} (h :
    (if r = 0 then
     Q (.inl none) (gE Lx) I L e
    else
     Q (.inl none) (gE Lx) (ri I 29 (va_cpy (I 28) (I 29) 0 0 4)) L e)) :
    Wp 90 120 [(0, .ref 1)] [.int r] (gE Lx) I L e Q := by
  refine w_a f_90_120 ?_
  refine i_m (fun h => ?_) (fun h => ?_) h
  · refine w_a f_90_137 ?_
    exact h
  · refine w_a f_90_123 ?_
    refine w_a f_90_124 ?_
    refine w_a f_90_127 ?_
    refine w_a f_90_128 ?_
    refine w_a f_90_129 ?_
    refine w_a f_90_132 ?_
    refine w_a f_90_133 ?_
    refine w_a f_90_134 ?_
    refine w_a f_90_137 ?_
    exact h
set_option maxRecDepth 10000 in
set_option maxHeartbeats 4000000 in
theorem s_91_4 {Lx : Nat} {I : Mi} {L : Ml} {e : Nat} {Q : Kq} {x1 : Int32} {x2 : Int32} (h :
    (if x2 < 0 then
     (if x2 < 0 then
      Q (.inl (some (.int (Int32.ofInt 0)))) (gE Lx) I L e
     else
      Wp 91 41 [(0, .ref 1), (1, .int x1), (2, .int x2), (3, .int (x1 - (Int32.ofInt 1)))] [] (gE Lx) I L e Q)
    else
     (inb x2 4 (
      (inb (x2 + (Int32.ofInt 1)) 4 (
       (if (I 28 ((x2 + (Int32.ofInt 1)).toNatClampNeg)) < (I 28 x2.toNatClampNeg) then
        Wp 91 4 [(0, .ref 1), (1, .int x1), (2, .int (x2 + Int32.ofInt (-1)))] [] (gE Lx) I L e Q
       else
        (if x2 < 0 then
         Q (.inl (some (.int (Int32.ofInt 0)))) (gE Lx) I L e
        else
         Wp 91 41 [(0, .ref 1), (1, .int x1), (2, .int x2), (3, .int (x1 - (Int32.ofInt 1)))] [] (gE Lx) I L e Q)))
      False))
     False))) :
    Wp 91 4 [(0, .ref 1), (1, .int x1), (2, .int x2)] [] (gE Lx) I L e Q := by
  refine w_a f_91_4 ?_
  refine w_a f_91_5 ?_
  refine i_m (fun h => ?_) (fun h => ?_) h
  · refine w_a f_91_31 ?_
    refine w_a f_91_32 ?_
    refine i_m (fun h => ?_) (fun h => ?_) h
    · refine w_a f_91_35 ?_
      refine w_a f_91_36 ?_
      exact h
    · refine w_a f_91_37 ?_
      refine w_a f_91_38 ?_
      refine w_a f_91_39 ?_
      refine w_a f_91_40 ?_
      exact w_n (ks := [0, 1, 2, 3]) rfl h
  · refine w_a f_91_8 ?_
    refine w_a f_91_9 ?_
    refine w_a f_91_12 ?_
    refine w_a f_91_13 ?_
    refine n_m (fun h => ?_) h
    refine w_a f_91_14 ?_
    refine w_a f_91_15 ?_
    refine w_a f_91_18 ?_
    refine w_a f_91_19 ?_
    refine w_a f_91_20 ?_
    refine w_a f_91_21 ?_
    refine n_m (fun h => ?_) h
    refine w_a f_91_22 ?_
    refine i_m (fun h => ?_) (fun h => ?_) h
    · refine w_a f_91_25 ?_
      refine w_a (ls := [(2, .int (x2 + Int32.ofInt (-1))), (0, .ref 1), (1, .int x1)]) f_91_28 ?_
      exact w_n (ks := [0, 1, 2]) rfl h
    · refine w_a f_91_31 ?_
      refine w_a f_91_32 ?_
      refine i_m (fun h => ?_) (fun h => ?_) h
      · refine w_a f_91_35 ?_
        refine w_a f_91_36 ?_
        exact h
      · refine w_a f_91_37 ?_
        refine w_a f_91_38 ?_
        refine w_a f_91_39 ?_
        refine w_a f_91_40 ?_
        exact w_n (ks := [0, 1, 2, 3]) rfl h
set_option maxRecDepth 10000 in
set_option maxHeartbeats 4000000 in
theorem s_91_41 {Lx : Nat} {I : Mi} {L : Ml} {e : Nat} {Q : Kq} {x1 : Int32} {x2 : Int32} {x3 : Int32} (h :
    (if x2 < x3 then
     (inb x3 4 (
      (inb x2 4 (
       (if (I 28 x3.toNatClampNeg) < (I 28 x2.toNatClampNeg) then
        Wp 91 41 [(0, .ref 1), (1, .int x1), (2, .int x2), (3, .int (x3 + Int32.ofInt (-1)))] [] (gE Lx) I L e Q
       else
        (if x2 < 0 then
         Wp 91 83 [(0, .ref 1), (4, .int (x2 + (Int32.ofInt 1))), (5, .int (x1 - (Int32.ofInt 1)))] [] (gE Lx) I L e Q
        else
         (if x3 < 0 then
          Wp 91 83 [(0, .ref 1), (4, .int (x2 + (Int32.ofInt 1))), (5, .int (x1 - (Int32.ofInt 1)))] [] (gE Lx) I L e Q
         else
          (if x2 < (Int32.ofInt 4) then
           (if x3 < (Int32.ofInt 4) then
            (inb x2 4 (
             (inb x3 4 (
              (inb x2 4 (
               (inb x3 4 (
                Wp 91 83 [(0, .ref 1), (4, .int (x2 + (Int32.ofInt 1))), (5, .int (x1 - (Int32.ofInt 1)))] [] (gE Lx) (ui (ui I 28 x2.toNatClampNeg (I 28 x3.toNatClampNeg)) 28 x3.toNatClampNeg (I 28 x2.toNatClampNeg)) L e Q)
               False))
              False))
             False))
            False)
           else
            Wp 91 83 [(0, .ref 1), (4, .int (x2 + (Int32.ofInt 1))), (5, .int (x1 - (Int32.ofInt 1)))] [] (gE Lx) I L e Q)
          else
           Wp 91 83 [(0, .ref 1), (4, .int (x2 + (Int32.ofInt 1))), (5, .int (x1 - (Int32.ofInt 1)))] [] (gE Lx) I L e Q)))))
      False))
     False)
    else
     (if x2 < 0 then
      Wp 91 83 [(0, .ref 1), (4, .int (x2 + (Int32.ofInt 1))), (5, .int (x1 - (Int32.ofInt 1)))] [] (gE Lx) I L e Q
     else
      (if x3 < 0 then
       Wp 91 83 [(0, .ref 1), (4, .int (x2 + (Int32.ofInt 1))), (5, .int (x1 - (Int32.ofInt 1)))] [] (gE Lx) I L e Q
      else
       (if x2 < (Int32.ofInt 4) then
        (if x3 < (Int32.ofInt 4) then
         (inb x2 4 (
          (inb x3 4 (
           (inb x2 4 (
            (inb x3 4 (
             Wp 91 83 [(0, .ref 1), (4, .int (x2 + (Int32.ofInt 1))), (5, .int (x1 - (Int32.ofInt 1)))] [] (gE Lx) (ui (ui I 28 x2.toNatClampNeg (I 28 x3.toNatClampNeg)) 28 x3.toNatClampNeg (I 28 x2.toNatClampNeg)) L e Q)
            False))
           False))
          False))
         False)
        else
         Wp 91 83 [(0, .ref 1), (4, .int (x2 + (Int32.ofInt 1))), (5, .int (x1 - (Int32.ofInt 1)))] [] (gE Lx) I L e Q)
       else
        Wp 91 83 [(0, .ref 1), (4, .int (x2 + (Int32.ofInt 1))), (5, .int (x1 - (Int32.ofInt 1)))] [] (gE Lx) I L e Q))))) :
    Wp 91 41 [(0, .ref 1), (1, .int x1), (2, .int x2), (3, .int x3)] [] (gE Lx) I L e Q := by
  refine w_a f_91_41 ?_
  refine w_a f_91_42 ?_
  refine w_a f_91_43 ?_
  refine i_m (fun h => ?_) (fun h => ?_) h
  · refine w_a f_91_46 ?_
    refine w_a f_91_47 ?_
    refine w_a f_91_50 ?_
    refine w_a f_91_51 ?_
    refine n_m (fun h => ?_) h
    refine w_a f_91_52 ?_
    refine w_a f_91_53 ?_
    refine w_a f_91_56 ?_
    refine w_a f_91_57 ?_
    refine n_m (fun h => ?_) h
    refine w_a f_91_58 ?_
    refine i_m (fun h => ?_) (fun h => ?_) h
    · refine w_a f_91_61 ?_
      refine w_a (ls := [(3, .int (x3 + Int32.ofInt (-1))), (0, .ref 1), (1, .int x1), (2, .int x2)]) f_91_64 ?_
      exact w_n (ks := [0, 1, 2, 3]) rfl h
    · refine w_a f_91_67 ?_
      refine w_a f_91_68 ?_
      refine w_a f_91_69 ?_
      refine w_a f_91_70 ?_
      refine w_a (ls := [(0, .ref 1), (1, .int x2), (2, .int x3)]) f_92_0 ?_
      refine w_a f_92_1 ?_
      refine i_m (fun h => ?_) (fun h => ?_) h
      · refine w_a f_92_26 ?_
        refine w_a (ls := [(0, .ref 1), (1, .int x1), (2, .int x2), (3, .int x3)]) f_91_73 ?_
        refine w_a f_91_74 ?_
        refine w_a f_91_75 ?_
        refine w_a f_91_76 ?_
        refine w_a (ls := [(4, .int (x2 + (Int32.ofInt 1))), (0, .ref 1), (1, .int x1), (2, .int x2), (3, .int x3)]) f_91_78 ?_
        refine w_a f_91_79 ?_
        refine w_a f_91_80 ?_
        refine w_a f_91_81 ?_
        exact w_n (ks := [0, 4, 5]) rfl h
      · refine w_a f_92_4 ?_
        refine w_a f_92_5 ?_
        refine i_m (fun h => ?_) (fun h => ?_) h
        · refine w_a f_92_26 ?_
          refine w_a (ls := [(0, .ref 1), (1, .int x1), (2, .int x2), (3, .int x3)]) f_91_73 ?_
          refine w_a f_91_74 ?_
          refine w_a f_91_75 ?_
          refine w_a f_91_76 ?_
          refine w_a (ls := [(4, .int (x2 + (Int32.ofInt 1))), (0, .ref 1), (1, .int x1), (2, .int x2), (3, .int x3)]) f_91_78 ?_
          refine w_a f_91_79 ?_
          refine w_a f_91_80 ?_
          refine w_a f_91_81 ?_
          exact w_n (ks := [0, 4, 5]) rfl h
        · refine w_a f_92_8 ?_
          refine w_a f_92_9 ?_
          refine w_a f_92_10 ?_
          refine w_a f_92_13 ?_
          refine w_a f_92_14 ?_
          refine i_m (fun h => ?_) (fun h => ?_) h
          · refine w_a f_92_17 ?_
            refine w_a f_92_18 ?_
            refine w_a f_92_19 ?_
            refine w_a f_92_22 ?_
            refine w_a f_92_23 ?_
            refine i_m (fun h => ?_) (fun h => ?_) h
            · refine w_a f_92_27 ?_
              refine w_a f_92_28 ?_
              refine w_a f_92_31 ?_
              refine w_a f_92_32 ?_
              refine n_m (fun h => ?_) h
              refine w_a f_92_33 ?_
              refine w_a (ls := [(3, .int (I 28 x2.toNatClampNeg)), (0, .ref 1), (1, .int x2), (2, .int x3)]) f_92_34 ?_
              refine w_a f_92_35 ?_
              refine w_a f_92_38 ?_
              refine w_a f_92_39 ?_
              refine w_a f_92_40 ?_
              refine w_a f_92_43 ?_
              refine w_a f_92_44 ?_
              refine n_m (fun h => ?_) h
              refine w_a f_92_45 ?_
              refine n_m (fun h => ?_) h
              refine w_a f_92_46 ?_
              refine w_a f_92_47 ?_
              refine w_a f_92_50 ?_
              refine w_a f_92_51 ?_
              refine w_a f_92_52 ?_
              refine n_m (fun h => ?_) h
              refine w_a f_92_53 ?_
              refine w_a (ls := [(0, .ref 1), (1, .int x1), (2, .int x2), (3, .int x3)]) f_91_73 ?_
              refine w_a f_91_74 ?_
              refine w_a f_91_75 ?_
              refine w_a f_91_76 ?_
              refine w_a (ls := [(4, .int (x2 + (Int32.ofInt 1))), (0, .ref 1), (1, .int x1), (2, .int x2), (3, .int x3)]) f_91_78 ?_
              refine w_a f_91_79 ?_
              refine w_a f_91_80 ?_
              refine w_a f_91_81 ?_
              exact w_n (ks := [0, 4, 5]) rfl h
            · refine w_a f_92_26 ?_
              refine w_a (ls := [(0, .ref 1), (1, .int x1), (2, .int x2), (3, .int x3)]) f_91_73 ?_
              refine w_a f_91_74 ?_
              refine w_a f_91_75 ?_
              refine w_a f_91_76 ?_
              refine w_a (ls := [(4, .int (x2 + (Int32.ofInt 1))), (0, .ref 1), (1, .int x1), (2, .int x2), (3, .int x3)]) f_91_78 ?_
              refine w_a f_91_79 ?_
              refine w_a f_91_80 ?_
              refine w_a f_91_81 ?_
              exact w_n (ks := [0, 4, 5]) rfl h
          · refine w_a f_92_26 ?_
            refine w_a (ls := [(0, .ref 1), (1, .int x1), (2, .int x2), (3, .int x3)]) f_91_73 ?_
            refine w_a f_91_74 ?_
            refine w_a f_91_75 ?_
            refine w_a f_91_76 ?_
            refine w_a (ls := [(4, .int (x2 + (Int32.ofInt 1))), (0, .ref 1), (1, .int x1), (2, .int x2), (3, .int x3)]) f_91_78 ?_
            refine w_a f_91_79 ?_
            refine w_a f_91_80 ?_
            refine w_a f_91_81 ?_
            exact w_n (ks := [0, 4, 5]) rfl h
  · refine w_a f_91_67 ?_
    refine w_a f_91_68 ?_
    refine w_a f_91_69 ?_
    refine w_a f_91_70 ?_
    refine w_a (ls := [(0, .ref 1), (1, .int x2), (2, .int x3)]) f_92_0 ?_
    refine w_a f_92_1 ?_
    refine i_m (fun h => ?_) (fun h => ?_) h
    · refine w_a f_92_26 ?_
      refine w_a (ls := [(0, .ref 1), (1, .int x1), (2, .int x2), (3, .int x3)]) f_91_73 ?_
      refine w_a f_91_74 ?_
      refine w_a f_91_75 ?_
      refine w_a f_91_76 ?_
      refine w_a (ls := [(4, .int (x2 + (Int32.ofInt 1))), (0, .ref 1), (1, .int x1), (2, .int x2), (3, .int x3)]) f_91_78 ?_
      refine w_a f_91_79 ?_
      refine w_a f_91_80 ?_
      refine w_a f_91_81 ?_
      exact w_n (ks := [0, 4, 5]) rfl h
    · refine w_a f_92_4 ?_
      refine w_a f_92_5 ?_
      refine i_m (fun h => ?_) (fun h => ?_) h
      · refine w_a f_92_26 ?_
        refine w_a (ls := [(0, .ref 1), (1, .int x1), (2, .int x2), (3, .int x3)]) f_91_73 ?_
        refine w_a f_91_74 ?_
        refine w_a f_91_75 ?_
        refine w_a f_91_76 ?_
        refine w_a (ls := [(4, .int (x2 + (Int32.ofInt 1))), (0, .ref 1), (1, .int x1), (2, .int x2), (3, .int x3)]) f_91_78 ?_
        refine w_a f_91_79 ?_
        refine w_a f_91_80 ?_
        refine w_a f_91_81 ?_
        exact w_n (ks := [0, 4, 5]) rfl h
      · refine w_a f_92_8 ?_
        refine w_a f_92_9 ?_
        refine w_a f_92_10 ?_
        refine w_a f_92_13 ?_
        refine w_a f_92_14 ?_
        refine i_m (fun h => ?_) (fun h => ?_) h
        · refine w_a f_92_17 ?_
          refine w_a f_92_18 ?_
          refine w_a f_92_19 ?_
          refine w_a f_92_22 ?_
          refine w_a f_92_23 ?_
          refine i_m (fun h => ?_) (fun h => ?_) h
          · refine w_a f_92_27 ?_
            refine w_a f_92_28 ?_
            refine w_a f_92_31 ?_
            refine w_a f_92_32 ?_
            refine n_m (fun h => ?_) h
            refine w_a f_92_33 ?_
            refine w_a (ls := [(3, .int (I 28 x2.toNatClampNeg)), (0, .ref 1), (1, .int x2), (2, .int x3)]) f_92_34 ?_
            refine w_a f_92_35 ?_
            refine w_a f_92_38 ?_
            refine w_a f_92_39 ?_
            refine w_a f_92_40 ?_
            refine w_a f_92_43 ?_
            refine w_a f_92_44 ?_
            refine n_m (fun h => ?_) h
            refine w_a f_92_45 ?_
            refine n_m (fun h => ?_) h
            refine w_a f_92_46 ?_
            refine w_a f_92_47 ?_
            refine w_a f_92_50 ?_
            refine w_a f_92_51 ?_
            refine w_a f_92_52 ?_
            refine n_m (fun h => ?_) h
            refine w_a f_92_53 ?_
            refine w_a (ls := [(0, .ref 1), (1, .int x1), (2, .int x2), (3, .int x3)]) f_91_73 ?_
            refine w_a f_91_74 ?_
            refine w_a f_91_75 ?_
            refine w_a f_91_76 ?_
            refine w_a (ls := [(4, .int (x2 + (Int32.ofInt 1))), (0, .ref 1), (1, .int x1), (2, .int x2), (3, .int x3)]) f_91_78 ?_
            refine w_a f_91_79 ?_
            refine w_a f_91_80 ?_
            refine w_a f_91_81 ?_
            exact w_n (ks := [0, 4, 5]) rfl h
          · refine w_a f_92_26 ?_
            refine w_a (ls := [(0, .ref 1), (1, .int x1), (2, .int x2), (3, .int x3)]) f_91_73 ?_
            refine w_a f_91_74 ?_
            refine w_a f_91_75 ?_
            refine w_a f_91_76 ?_
            refine w_a (ls := [(4, .int (x2 + (Int32.ofInt 1))), (0, .ref 1), (1, .int x1), (2, .int x2), (3, .int x3)]) f_91_78 ?_
            refine w_a f_91_79 ?_
            refine w_a f_91_80 ?_
            refine w_a f_91_81 ?_
            exact w_n (ks := [0, 4, 5]) rfl h
        · refine w_a f_92_26 ?_
          refine w_a (ls := [(0, .ref 1), (1, .int x1), (2, .int x2), (3, .int x3)]) f_91_73 ?_
          refine w_a f_91_74 ?_
          refine w_a f_91_75 ?_
          refine w_a f_91_76 ?_
          refine w_a (ls := [(4, .int (x2 + (Int32.ofInt 1))), (0, .ref 1), (1, .int x1), (2, .int x2), (3, .int x3)]) f_91_78 ?_
          refine w_a f_91_79 ?_
          refine w_a f_91_80 ?_
          refine w_a f_91_81 ?_
          exact w_n (ks := [0, 4, 5]) rfl h
set_option maxRecDepth 10000 in
set_option maxHeartbeats 4000000 in
theorem s_91_83 {Lx : Nat} {I : Mi} {L : Ml} {e : Nat} {Q : Kq} {x4 : Int32} {x5 : Int32} (h :
    (if x4 < x5 then
     (if x4 < 0 then
      Wp 91 83 [(0, .ref 1), (4, .int (x4 + Int32.ofInt 1)), (5, .int (x5 + Int32.ofInt (-1)))] [] (gE Lx) I L e Q
     else
      (if x5 < 0 then
       Wp 91 83 [(0, .ref 1), (4, .int (x4 + Int32.ofInt 1)), (5, .int (x5 + Int32.ofInt (-1)))] [] (gE Lx) I L e Q
      else
       (if x4 < (Int32.ofInt 4) then
        (if x5 < (Int32.ofInt 4) then
         (inb x4 4 (
          (inb x5 4 (
           (inb x4 4 (
            (inb x5 4 (
             Wp 91 83 [(0, .ref 1), (4, .int (x4 + Int32.ofInt 1)), (5, .int (x5 + Int32.ofInt (-1)))] [] (gE Lx) (ui (ui I 28 x4.toNatClampNeg (I 28 x5.toNatClampNeg)) 28 x5.toNatClampNeg (I 28 x4.toNatClampNeg)) L e Q)
            False))
           False))
          False))
         False)
        else
         Wp 91 83 [(0, .ref 1), (4, .int (x4 + Int32.ofInt 1)), (5, .int (x5 + Int32.ofInt (-1)))] [] (gE Lx) I L e Q)
       else
        Wp 91 83 [(0, .ref 1), (4, .int (x4 + Int32.ofInt 1)), (5, .int (x5 + Int32.ofInt (-1)))] [] (gE Lx) I L e Q)))
    else
     Q (.inl (some (.int (Int32.ofInt 1)))) (gE Lx) I L e)) :
    Wp 91 83 [(0, .ref 1), (4, .int x4), (5, .int x5)] [] (gE Lx) I L e Q := by
  refine w_a f_91_83 ?_
  refine w_a f_91_85 ?_
  refine w_a f_91_87 ?_
  refine i_m (fun h => ?_) (fun h => ?_) h
  · refine w_a f_91_90 ?_
    refine w_a f_91_91 ?_
    refine w_a f_91_93 ?_
    refine w_a f_91_95 ?_
    refine w_a (ls := [(0, .ref 1), (1, .int x4), (2, .int x5)]) f_92_0 ?_
    refine w_a f_92_1 ?_
    refine i_m (fun h => ?_) (fun h => ?_) h
    · refine w_a f_92_26 ?_
      refine w_a (ls := [(0, .ref 1), (4, .int x4), (5, .int x5)]) f_91_98 ?_
      refine w_a (ls := [(4, .int (x4 + Int32.ofInt 1)), (0, .ref 1), (5, .int x5)]) f_91_101 ?_
      refine w_a (ls := [(5, .int (x5 + Int32.ofInt (-1))), (4, .int (x4 + Int32.ofInt 1)), (0, .ref 1)]) f_91_104 ?_
      exact w_n (ks := [0, 4, 5]) rfl h
    · refine w_a f_92_4 ?_
      refine w_a f_92_5 ?_
      refine i_m (fun h => ?_) (fun h => ?_) h
      · refine w_a f_92_26 ?_
        refine w_a (ls := [(0, .ref 1), (4, .int x4), (5, .int x5)]) f_91_98 ?_
        refine w_a (ls := [(4, .int (x4 + Int32.ofInt 1)), (0, .ref 1), (5, .int x5)]) f_91_101 ?_
        refine w_a (ls := [(5, .int (x5 + Int32.ofInt (-1))), (4, .int (x4 + Int32.ofInt 1)), (0, .ref 1)]) f_91_104 ?_
        exact w_n (ks := [0, 4, 5]) rfl h
      · refine w_a f_92_8 ?_
        refine w_a f_92_9 ?_
        refine w_a f_92_10 ?_
        refine w_a f_92_13 ?_
        refine w_a f_92_14 ?_
        refine i_m (fun h => ?_) (fun h => ?_) h
        · refine w_a f_92_17 ?_
          refine w_a f_92_18 ?_
          refine w_a f_92_19 ?_
          refine w_a f_92_22 ?_
          refine w_a f_92_23 ?_
          refine i_m (fun h => ?_) (fun h => ?_) h
          · refine w_a f_92_27 ?_
            refine w_a f_92_28 ?_
            refine w_a f_92_31 ?_
            refine w_a f_92_32 ?_
            refine n_m (fun h => ?_) h
            refine w_a f_92_33 ?_
            refine w_a (ls := [(3, .int (I 28 x4.toNatClampNeg)), (0, .ref 1), (1, .int x4), (2, .int x5)]) f_92_34 ?_
            refine w_a f_92_35 ?_
            refine w_a f_92_38 ?_
            refine w_a f_92_39 ?_
            refine w_a f_92_40 ?_
            refine w_a f_92_43 ?_
            refine w_a f_92_44 ?_
            refine n_m (fun h => ?_) h
            refine w_a f_92_45 ?_
            refine n_m (fun h => ?_) h
            refine w_a f_92_46 ?_
            refine w_a f_92_47 ?_
            refine w_a f_92_50 ?_
            refine w_a f_92_51 ?_
            refine w_a f_92_52 ?_
            refine n_m (fun h => ?_) h
            refine w_a f_92_53 ?_
            refine w_a (ls := [(0, .ref 1), (4, .int x4), (5, .int x5)]) f_91_98 ?_
            refine w_a (ls := [(4, .int (x4 + Int32.ofInt 1)), (0, .ref 1), (5, .int x5)]) f_91_101 ?_
            refine w_a (ls := [(5, .int (x5 + Int32.ofInt (-1))), (4, .int (x4 + Int32.ofInt 1)), (0, .ref 1)]) f_91_104 ?_
            exact w_n (ks := [0, 4, 5]) rfl h
          · refine w_a f_92_26 ?_
            refine w_a (ls := [(0, .ref 1), (4, .int x4), (5, .int x5)]) f_91_98 ?_
            refine w_a (ls := [(4, .int (x4 + Int32.ofInt 1)), (0, .ref 1), (5, .int x5)]) f_91_101 ?_
            refine w_a (ls := [(5, .int (x5 + Int32.ofInt (-1))), (4, .int (x4 + Int32.ofInt 1)), (0, .ref 1)]) f_91_104 ?_
            exact w_n (ks := [0, 4, 5]) rfl h
        · refine w_a f_92_26 ?_
          refine w_a (ls := [(0, .ref 1), (4, .int x4), (5, .int x5)]) f_91_98 ?_
          refine w_a (ls := [(4, .int (x4 + Int32.ofInt 1)), (0, .ref 1), (5, .int x5)]) f_91_101 ?_
          refine w_a (ls := [(5, .int (x5 + Int32.ofInt (-1))), (4, .int (x4 + Int32.ofInt 1)), (0, .ref 1)]) f_91_104 ?_
          exact w_n (ks := [0, 4, 5]) rfl h
  · refine w_a f_91_107 ?_
    refine w_a f_91_108 ?_
    exact h
set_option maxRecDepth 10000 in
set_option maxHeartbeats 4000000 in
theorem s_93_4 {Lx : Nat} {I : Mi} {L : Ml} {e : Nat} {Q : Kq} (h :
    Wp 93 17 [(0, .ref 1), (1, .int (Int32.ofInt 0))] [] (gE Lx) (ri (ri (ri (ui (ui (ui (ui I 9 0 (I 5 0)) 9 1 (I 5 1)) 9 2 (I 5 2)) 9 3 (I 5 3)) 10 (va_cpy ((ui (ui (ui (ui I 9 0 (I 5 0)) 9 1 (I 5 1)) 9 2 (I 5 2)) 9 3 (I 5 3)) 6) ((ui (ui (ui (ui I 9 0 (I 5 0)) 9 1 (I 5 1)) 9 2 (I 5 2)) 9 3 (I 5 3)) 10) 0 0 4)) 11 (va_cpy ((ri (ui (ui (ui (ui I 9 0 (I 5 0)) 9 1 (I 5 1)) 9 2 (I 5 2)) 9 3 (I 5 3)) 10 (va_cpy ((ui (ui (ui (ui I 9 0 (I 5 0)) 9 1 (I 5 1)) 9 2 (I 5 2)) 9 3 (I 5 3)) 6) ((ui (ui (ui (ui I 9 0 (I 5 0)) 9 1 (I 5 1)) 9 2 (I 5 2)) 9 3 (I 5 3)) 10) 0 0 4)) 7) ((ri (ui (ui (ui (ui I 9 0 (I 5 0)) 9 1 (I 5 1)) 9 2 (I 5 2)) 9 3 (I 5 3)) 10 (va_cpy ((ui (ui (ui (ui I 9 0 (I 5 0)) 9 1 (I 5 1)) 9 2 (I 5 2)) 9 3 (I 5 3)) 6) ((ui (ui (ui (ui I 9 0 (I 5 0)) 9 1 (I 5 1)) 9 2 (I 5 2)) 9 3 (I 5 3)) 10) 0 0 4)) 11) 0 0 4)) 12 (va_cpy ((ri (ri (ui (ui (ui (ui I 9 0 (I 5 0)) 9 1 (I 5 1)) 9 2 (I 5 2)) 9 3 (I 5 3)) 10 (va_cpy ((ui (ui (ui (ui I 9 0 (I 5 0)) 9 1 (I 5 1)) 9 2 (I 5 2)) 9 3 (I 5 3)) 6) ((ui (ui (ui (ui I 9 0 (I 5 0)) 9 1 (I 5 1)) 9 2 (I 5 2)) 9 3 (I 5 3)) 10) 0 0 4)) 11 (va_cpy ((ri (ui (ui (ui (ui I 9 0 (I 5 0)) 9 1 (I 5 1)) 9 2 (I 5 2)) 9 3 (I 5 3)) 10 (va_cpy ((ui (ui (ui (ui I 9 0 (I 5 0)) 9 1 (I 5 1)) 9 2 (I 5 2)) 9 3 (I 5 3)) 6) ((ui (ui (ui (ui I 9 0 (I 5 0)) 9 1 (I 5 1)) 9 2 (I 5 2)) 9 3 (I 5 3)) 10) 0 0 4)) 7) ((ri (ui (ui (ui (ui I 9 0 (I 5 0)) 9 1 (I 5 1)) 9 2 (I 5 2)) 9 3 (I 5 3)) 10 (va_cpy ((ui (ui (ui (ui I 9 0 (I 5 0)) 9 1 (I 5 1)) 9 2 (I 5 2)) 9 3 (I 5 3)) 6) ((ui (ui (ui (ui I 9 0 (I 5 0)) 9 1 (I 5 1)) 9 2 (I 5 2)) 9 3 (I 5 3)) 10) 0 0 4)) 11) 0 0 4)) 8) ((ri (ri (ui (ui (ui (ui I 9 0 (I 5 0)) 9 1 (I 5 1)) 9 2 (I 5 2)) 9 3 (I 5 3)) 10 (va_cpy ((ui (ui (ui (ui I 9 0 (I 5 0)) 9 1 (I 5 1)) 9 2 (I 5 2)) 9 3 (I 5 3)) 6) ((ui (ui (ui (ui I 9 0 (I 5 0)) 9 1 (I 5 1)) 9 2 (I 5 2)) 9 3 (I 5 3)) 10) 0 0 4)) 11 (va_cpy ((ri (ui (ui (ui (ui I 9 0 (I 5 0)) 9 1 (I 5 1)) 9 2 (I 5 2)) 9 3 (I 5 3)) 10 (va_cpy ((ui (ui (ui (ui I 9 0 (I 5 0)) 9 1 (I 5 1)) 9 2 (I 5 2)) 9 3 (I 5 3)) 6) ((ui (ui (ui (ui I 9 0 (I 5 0)) 9 1 (I 5 1)) 9 2 (I 5 2)) 9 3 (I 5 3)) 10) 0 0 4)) 7) ((ri (ui (ui (ui (ui I 9 0 (I 5 0)) 9 1 (I 5 1)) 9 2 (I 5 2)) 9 3 (I 5 3)) 10 (va_cpy ((ui (ui (ui (ui I 9 0 (I 5 0)) 9 1 (I 5 1)) 9 2 (I 5 2)) 9 3 (I 5 3)) 6) ((ui (ui (ui (ui I 9 0 (I 5 0)) 9 1 (I 5 1)) 9 2 (I 5 2)) 9 3 (I 5 3)) 10) 0 0 4)) 11) 0 0 4)) 12) 0 0 4)) L e Q) :
    Wp 93 4 [(0, .ref 1)] [] (gE Lx) I L e Q := by
  refine w_a f_93_4 ?_
  refine w_a f_93_5 ?_
  refine w_a f_93_8 ?_
  refine w_a f_93_9 ?_
  refine w_a f_93_12 ?_
  refine w_a (ls := [(0, .ref 9), (1, .ref 5)]) f_16_0 ?_
  refine w_a f_16_1 ?_
  refine w_a f_16_2 ?_
  refine w_a f_16_5 ?_
  refine w_a f_16_6 ?_
  refine w_a f_16_9 ?_
  refine w_a f_16_10 ?_
  refine w_a f_16_13 ?_
  refine w_a (ls := [(0, .ref 9), (1, .int (I 5 0)), (2, .int (I 5 1)), (3, .int (I 5 2))]) f_17_0 ?_
  refine w_a f_17_1 ?_
  refine w_a f_17_2 ?_
  refine w_a f_17_5 ?_
  refine w_a f_17_6 ?_
  refine w_a f_17_7 ?_
  refine w_a f_17_10 ?_
  refine w_a f_17_11 ?_
  refine w_a f_17_12 ?_
  refine w_a f_17_15 ?_
  refine w_a (ls := [(0, .ref 9), (1, .ref 5)]) f_16_16 ?_
  refine w_a f_16_17 ?_
  refine w_a f_16_18 ?_
  refine w_a f_16_21 ?_
  refine w_a f_16_24 ?_
  refine w_a f_16_25 ?_
  refine w_a f_16_28 ?_
  refine w_a f_16_29 ?_
  refine w_a f_16_30 ?_
  refine w_a f_16_33 ?_
  refine w_a f_16_34 ?_
  refine w_a f_16_35 ?_
  refine w_a f_16_38 ?_
  refine w_a f_16_39 ?_
  refine w_a f_16_42 ?_
  refine w_a f_16_43 ?_
  refine w_a f_16_44 ?_
  refine w_a f_16_47 ?_
  refine w_a f_16_48 ?_
  refine w_a f_16_49 ?_
  refine w_a f_16_52 ?_
  refine w_a f_16_53 ?_
  refine w_a f_16_56 ?_
  refine w_a f_16_57 ?_
  refine w_a f_16_58 ?_
  refine w_a f_16_61 ?_
  refine w_a f_16_62 ?_
  refine w_a f_16_63 ?_
  refine w_a f_16_66 ?_
  refine w_a (ls := [(0, .ref 1)]) f_93_15 ?_
  refine w_a f_93_16 ?_
  exact w_n (ks := [0, 1]) rfl h
set_option maxRecDepth 10000 in
set_option maxHeartbeats 4000000 in
theorem s_93_17 {Lx : Nat} {I : Mi} {L : Ml} {e : Nat} {Q : Kq} {x1 : Int32} (h :
    (if x1 < (I 5 3) then
     (if x1 < (Int32.ofInt 4) then
      (inb x1 4 (
       (if x1 < 0 then
        Wp 93 55 [(0, .ref 1), (1, .int x1)] [] (gE Lx) I L e Q
       else
        (if x1 < (Int32.ofInt 4) then
         Wp 12 0 [(0, .ref 9), (1, .int (I 29 x1.toNatClampNeg))] [] (gE Lx) I L e (kcp (Wp 18) 18 15 0 [(0, .ref 5), (1, .int x1), (2, .ref 9), (3, .int (I 29 x1.toNatClampNeg))] 71 [.int x1, .ref 6] (kcp (Wp 93) 93 52 0 [(0, .ref 1), (1, .int x1)] 71 [] Q))
        else
         Wp 93 55 [(0, .ref 1), (1, .int x1)] [] (gE Lx) I L e Q)))
      False)
     else
      (if (L 21 2) = (Int64.ofInt 0) then
       Q (.inl (some (.int (Int32.ofInt 0)))) (gE Lx) I L e
      else
       (if (L 21 2) = 0 then False else
        Q (.inl (some (.int (((Int64.ofInt 10000) * (L 21 1)) / (L 21 2)).toInt32))) (gE Lx) I L e)))
    else
     (if (L 21 2) = (Int64.ofInt 0) then
      Q (.inl (some (.int (Int32.ofInt 0)))) (gE Lx) I L e
     else
      (if (L 21 2) = 0 then False else
       Q (.inl (some (.int (((Int64.ofInt 10000) * (L 21 1)) / (L 21 2)).toInt32))) (gE Lx) I L e)))) :
    Wp 93 17 [(0, .ref 1), (1, .int x1)] [] (gE Lx) I L e Q := by
  refine w_a f_93_17 ?_
  refine w_a f_93_18 ?_
  refine w_a f_93_19 ?_
  refine w_a f_93_22 ?_
  refine w_a f_93_25 ?_
  refine i_m (fun h => ?_) (fun h => ?_) h
  · refine w_a f_93_28 ?_
    refine w_a f_93_29 ?_
    refine w_a f_93_30 ?_
    refine w_a f_93_33 ?_
    refine w_a f_93_34 ?_
    refine i_m (fun h => ?_) (fun h => ?_) h
    · refine w_a f_93_37 ?_
      refine w_a f_93_38 ?_
      refine w_a f_93_41 ?_
      refine w_a f_93_42 ?_
      refine w_a f_93_43 ?_
      refine w_a f_93_46 ?_
      refine w_a f_93_47 ?_
      refine w_a f_93_50 ?_
      refine w_a f_93_51 ?_
      refine n_m (fun h => ?_) h
      refine w_c (ks := [0, 1]) f_93_52 rfl rfl ?_
      refine w_a (ls := [(0, .ref 5), (1, .int x1), (2, .ref 9), (3, .int (I 29 x1.toNatClampNeg))]) f_18_0 ?_
      refine w_a f_18_1 ?_
      refine w_a f_18_2 ?_
      refine w_a (ls := [(0, .ref 5), (1, .int x1)]) f_13_0 ?_
      refine w_a f_13_1 ?_
      refine i_m (fun h => ?_) (fun h => ?_) h
      · refine w_a f_13_13 ?_
        refine w_a f_13_14 ?_
        refine w_a (ls := [(0, .ref 5), (1, .int x1), (2, .ref 9), (3, .int (I 29 x1.toNatClampNeg))]) f_18_5 ?_
        refine w_a f_18_41 ?_
        exact h
      · refine w_a f_13_4 ?_
        refine w_a f_13_5 ?_
        refine w_a f_13_6 ?_
        refine i_m (fun h => ?_) (fun h => ?_) h
        · refine w_a f_13_9 ?_
          refine w_a f_13_10 ?_
          refine w_a f_13_14 ?_
          refine w_a (ls := [(0, .ref 5), (1, .int x1), (2, .ref 9), (3, .int (I 29 x1.toNatClampNeg))]) f_18_5 ?_
          refine w_a f_18_8 ?_
          refine w_a f_18_9 ?_
          refine w_a f_18_12 ?_
          refine w_a f_18_13 ?_
          refine w_a f_18_14 ?_
          exact w_c (ks := [0, 1, 2, 3]) f_18_15 rfl rfl h
        · refine w_a f_13_13 ?_
          refine w_a f_13_14 ?_
          refine w_a (ls := [(0, .ref 5), (1, .int x1), (2, .ref 9), (3, .int (I 29 x1.toNatClampNeg))]) f_18_5 ?_
          refine w_a f_18_41 ?_
          exact h
    · refine w_a f_93_61 ?_
      refine w_a f_93_62 ?_
      refine w_a f_93_65 ?_
      refine w_a (ls := [(0, .ref 21)]) f_4_0 ?_
      refine w_a f_4_1 ?_
      refine w_a f_4_4 ?_
      refine w_a f_4_5 ?_
      refine w_a f_4_8 ?_
      refine w_a (ls := [(0, .long (L 21 1)), (2, .long (L 21 2))]) f_24_0 ?_
      refine w_a f_24_1 ?_
      refine w_a f_24_2 ?_
      refine i_m (fun h => ?_) (fun h => ?_) h
      · refine w_a f_24_6 ?_
        refine w_a f_24_7 ?_
        refine w_a f_24_18 ?_
        refine w_a (ls := [(0, .ref 21)]) f_4_11 ?_
        refine w_a (ls := [(0, .ref 1), (1, .int x1)]) f_93_68 ?_
        exact h
      · refine w_a f_24_10 ?_
        refine w_a f_24_13 ?_
        refine w_a f_24_14 ?_
        refine w_a f_24_15 ?_
        refine w_a f_24_16 ?_
        refine i_m id (fun h => ?_) h
        refine w_a f_24_17 ?_
        refine w_a f_24_18 ?_
        refine w_a (ls := [(0, .ref 21)]) f_4_11 ?_
        refine w_a (ls := [(0, .ref 1), (1, .int x1)]) f_93_68 ?_
        exact h
  · refine w_a f_93_61 ?_
    refine w_a f_93_62 ?_
    refine w_a f_93_65 ?_
    refine w_a (ls := [(0, .ref 21)]) f_4_0 ?_
    refine w_a f_4_1 ?_
    refine w_a f_4_4 ?_
    refine w_a f_4_5 ?_
    refine w_a f_4_8 ?_
    refine w_a (ls := [(0, .long (L 21 1)), (2, .long (L 21 2))]) f_24_0 ?_
    refine w_a f_24_1 ?_
    refine w_a f_24_2 ?_
    refine i_m (fun h => ?_) (fun h => ?_) h
    · refine w_a f_24_6 ?_
      refine w_a f_24_7 ?_
      refine w_a f_24_18 ?_
      refine w_a (ls := [(0, .ref 21)]) f_4_11 ?_
      refine w_a (ls := [(0, .ref 1), (1, .int x1)]) f_93_68 ?_
      exact h
    · refine w_a f_24_10 ?_
      refine w_a f_24_13 ?_
      refine w_a f_24_14 ?_
      refine w_a f_24_15 ?_
      refine w_a f_24_16 ?_
      refine i_m id (fun h => ?_) h
      refine w_a f_24_17 ?_
      refine w_a f_24_18 ?_
      refine w_a (ls := [(0, .ref 21)]) f_4_11 ?_
      refine w_a (ls := [(0, .ref 1), (1, .int x1)]) f_93_68 ?_
      exact h
set_option maxRecDepth 10000 in
set_option maxHeartbeats 4000000 in
theorem s_93_55 {Lx : Nat} {I : Mi} {L : Ml} {e : Nat} {Q : Kq} {x1 : Int32} (h :
    Wp 93 17 [(0, .ref 1), (1, .int (x1 + Int32.ofInt 1))] [] (gE Lx) I L e Q) :
    Wp 93 55 [(0, .ref 1), (1, .int x1)] [] (gE Lx) I L e Q := by
  refine w_a f_93_55 ?_
  refine w_a (ls := [(1, .int (x1 + Int32.ofInt 1)), (0, .ref 1)]) f_93_58 ?_
  exact w_n (ks := [0, 1]) rfl h
set_option maxRecDepth 10000 in
set_option maxHeartbeats 4000000 in
theorem s_94_8 {Lx : Nat} {I : Mi} {L : Ml} {e : Nat} {Q : Kq} {r : Int32} (h :
    Q (.inl (some (.int r))) (gE Lx) I L e) :
    Wp 94 8 [(0, .ref 1)] [.int r] (gE Lx) I L e Q := by
  refine w_a f_94_8 ?_
  exact h
set_option maxRecDepth 10000 in
set_option maxHeartbeats 4000000 in
theorem s_95_0 {Lx : Nat} {I : Mi} {L : Ml} {e : Nat} {Q : Kq} (h :
    Wp 95 4 [(0, .ref 1), (1, .ref 5), (2, .int (Int32.ofInt (-1))), (3, .int (Int32.ofInt 0))] [] (gE Lx) I L e Q) :
    Wp 95 0 [(0, .ref 1), (1, .ref 5)] [] (gE Lx) I L e Q := by
  refine w_a f_95_0 ?_
  refine w_a f_95_1 ?_
  refine w_a (ls := [(2, .int (Int32.ofInt (-1))), (0, .ref 1), (1, .ref 5)]) f_95_2 ?_
  refine w_a f_95_3 ?_
  exact w_n (ks := [0, 1, 2, 3]) rfl h
set_option maxRecDepth 10000 in
set_option maxHeartbeats 4000000 in
theorem s_95_4 {Lx : Nat} {I : Mi} {L : Ml} {e : Nat} {Q : Kq} {x2 : Int32} {x3 : Int32} (h :
    (if (Int32.ofInt 10) < x3 then
     Q (.inl (some (.int x2))) (gE Lx) I L e
    else
     Wp 97 0 [(0, .ref 1), (1, .ref 5), (2, .int x3)] [] (gE Lx) I L e (kcp (Wp 96) 96 3 0 [(0, .ref 1), (1, .ref 5)] 71 [] (kcp (Wp 95) 95 13 0 [(0, .ref 1), (1, .ref 5), (2, .int x2), (3, .int x3)] 71 [] Q)))) :
    Wp 95 4 [(0, .ref 1), (1, .ref 5), (2, .int x2), (3, .int x3)] [] (gE Lx) I L e Q := by
  refine w_a f_95_4 ?_
  refine w_a f_95_5 ?_
  refine w_a f_95_7 ?_
  refine i_m (fun h => ?_) (fun h => ?_) h
  · refine w_a f_95_39 ?_
    refine w_a f_95_40 ?_
    exact h
  · refine w_a f_95_10 ?_
    refine w_a f_95_11 ?_
    refine w_a f_95_12 ?_
    refine w_c (ks := [0, 1, 2, 3]) f_95_13 rfl rfl ?_
    refine w_a (ls := [(0, .ref 1), (1, .ref 5), (2, .int x3)]) f_96_0 ?_
    refine w_a f_96_1 ?_
    refine w_a f_96_2 ?_
    exact w_c (ks := [0, 1]) f_96_3 rfl rfl h
set_option maxRecDepth 10000 in
set_option maxHeartbeats 4000000 in
theorem s_95_16 {Lx : Nat} {I : Mi} {L : Ml} {e : Nat} {Q : Kq} {x2 : Int32} {x3 : Int32} {r : Int32} (h :
    (if r = 0 then
     Q (.inl (some (.int x2))) (gE Lx) I L e
    else
     Wp 97 0 [(0, .ref 1), (1, .ref 5), (2, .int (-x3))] [] (gE Lx) I L e (kcp (Wp 96) 96 3 0 [(0, .ref 1), (1, .ref 5)] 71 [] (kcp (Wp 95) 95 23 0 [(0, .ref 1), (1, .ref 5), (2, .int x2), (3, .int x3)] 71 [] Q)))) :
    Wp 95 16 [(0, .ref 1), (1, .ref 5), (2, .int x2), (3, .int x3)] [.int r] (gE Lx) I L e Q := by
  refine w_a f_95_16 ?_
  refine i_m (fun h => ?_) (fun h => ?_) h
  · refine w_a f_95_29 ?_
    refine w_a f_95_30 ?_
    exact h
  · refine w_a f_95_19 ?_
    refine w_a f_95_20 ?_
    refine w_a f_95_21 ?_
    refine w_a f_95_22 ?_
    refine w_c (ks := [0, 1, 2, 3]) f_95_23 rfl rfl ?_
    refine w_a (ls := [(0, .ref 1), (1, .ref 5), (2, .int (-x3))]) f_96_0 ?_
    refine w_a f_96_1 ?_
    refine w_a f_96_2 ?_
    exact w_c (ks := [0, 1]) f_96_3 rfl rfl h
set_option maxRecDepth 10000 in
set_option maxHeartbeats 4000000 in
theorem s_95_26 {Lx : Nat} {I : Mi} {L : Ml} {e : Nat} {Q : Kq} {x2 : Int32} {x3 : Int32} {r : Int32} (h :
    (if r = 0 then
     Q (.inl (some (.int x2))) (gE Lx) I L e
    else
     Wp 95 4 [(0, .ref 1), (1, .ref 5), (2, .int x3), (3, .int (x3 + Int32.ofInt 1))] [] (gE Lx) I L e Q)) :
    Wp 95 26 [(0, .ref 1), (1, .ref 5), (2, .int x2), (3, .int x3)] [.int r] (gE Lx) I L e Q := by
  refine w_a f_95_26 ?_
  refine i_m (fun h => ?_) (fun h => ?_) h
  · refine w_a f_95_29 ?_
    refine w_a f_95_30 ?_
    exact h
  · refine w_a f_95_31 ?_
    refine w_a f_95_32 ?_
    refine w_a (ls := [(2, .int x3), (0, .ref 1), (1, .ref 5), (3, .int x3)]) f_95_33 ?_
    refine w_a (ls := [(3, .int (x3 + Int32.ofInt 1)), (2, .int x3), (0, .ref 1), (1, .ref 5)]) f_95_36 ?_
    exact w_n (ks := [0, 1, 2, 3]) rfl h
set_option maxRecDepth 10000 in
set_option maxHeartbeats 4000000 in
theorem s_96_6 {Lx : Nat} {I : Mi} {L : Ml} {e : Nat} {Q : Kq} (h :
    Wp 98 0 [(0, .ref 1)] [] (gE Lx) I L e (kcp (Wp 96) 96 7 0 [(0, .ref 1), (1, .ref 5)] 71 [] Q)) :
    Wp 96 6 [(0, .ref 1), (1, .ref 5)] [] (gE Lx) I L e Q := by
  refine w_a f_96_6 ?_
  exact w_c (ks := [0, 1]) f_96_7 rfl rfl h
set_option maxRecDepth 10000 in
set_option maxHeartbeats 4000000 in
theorem s_96_10 {Lx : Nat} {I : Mi} {L : Ml} {e : Nat} {Q : Kq} {r : Int32} (h :
    (if r = 0 then
     Q (.inl (some (.int (Int32.ofInt 0)))) (gE Lx) I L e
    else if r = 1 then
     Q (.inl (some (.int (Int32.ofInt 1)))) (gE Lx) I L e
    else False)) :
    Wp 96 10 [(0, .ref 1), (1, .ref 5)] [.int r] (gE Lx) I L e Q := by
  refine w_a f_96_10 ?_
  refine i_m (fun h => ?_) (i_m (fun h => ?_) id) h
  · exact h
  · exact h
set_option maxRecDepth 10000 in
set_option maxHeartbeats 4000000 in
theorem s_97_0 {Lx : Nat} {I : Mi} {L : Ml} {e : Nat} {Q : Kq} {x2 : Int32} (h :
    Wp 97 24 [(0, .ref 1), (1, .ref 5), (2, .int x2), (3, .int (Int32.ofInt 0))] [] (gE Lx) I (ul (ul (ul (ul L 14 0 ((I 5 0).toInt64)) 14 1 ((I 5 1).toInt64)) 14 2 ((I 5 2).toInt64)) 14 3 (Int64.ofInt 0)) e Q) :
    Wp 97 0 [(0, .ref 1), (1, .ref 5), (2, .int x2)] [] (gE Lx) I L e Q := by
  refine w_a f_97_0 ?_
  refine w_a f_97_1 ?_
  refine w_a f_97_4 ?_
  refine w_a f_97_5 ?_
  refine w_a f_97_8 ?_
  refine w_a f_97_9 ?_
  refine w_a f_97_10 ?_
  refine w_a f_97_13 ?_
  refine w_a f_97_14 ?_
  refine w_a f_97_15 ?_
  refine w_a f_97_18 ?_
  refine w_a f_97_19 ?_
  refine w_a (ls := [(0, .ref 14), (1, .long (I 5 0).toInt64), (3, .long (I 5 1).toInt64), (5, .long (I 5 2).toInt64)]) f_74_0 ?_
  refine w_a f_74_1 ?_
  refine w_a f_74_2 ?_
  refine w_a f_74_5 ?_
  refine w_a f_74_6 ?_
  refine w_a f_74_7 ?_
  refine w_a f_74_10 ?_
  refine w_a f_74_11 ?_
  refine w_a f_74_13 ?_
  refine w_a f_74_16 ?_
  refine w_a f_74_17 ?_
  refine w_a f_74_18 ?_
  refine w_a f_74_21 ?_
  refine w_a (ls := [(0, .ref 1), (1, .ref 5), (2, .int x2)]) f_97_22 ?_
  refine w_a f_97_23 ?_
  exact w_n (ks := [0, 1, 2, 3]) rfl h
set_option maxRecDepth 10000 in
set_option maxHeartbeats 4000000 in
theorem s_97_24 {Lx : Nat} {I : Mi} {L : Ml} {e : Nat} {Q : Kq} {x2 : Int32} {x3 : Int32} (h :
    (if x3 < (I 5 3) then
     Wp 14 0 [(0, .ref 5), (1, .int x3)] [] (gE Lx) I L e (kcp (Wp 97) 97 44 0 [(0, .ref 1), (1, .ref 5), (2, .int x2), (3, .int x3)] 71 [.long ((Int64.ofInt 20) + x2.toInt64), .ref 18] Q)
    else
     Q (.inl none) (gE Lx) I L e)) :
    Wp 97 24 [(0, .ref 1), (1, .ref 5), (2, .int x2), (3, .int x3)] [] (gE Lx) I L e Q := by
  refine w_a f_97_24 ?_
  refine w_a f_97_25 ?_
  refine w_a f_97_26 ?_
  refine w_a f_97_29 ?_
  refine i_m (fun h => ?_) (fun h => ?_) h
  · refine w_a f_97_32 ?_
    refine w_a f_97_33 ?_
    refine w_a f_97_36 ?_
    refine w_a f_97_39 ?_
    refine w_a f_97_40 ?_
    refine w_a f_97_41 ?_
    refine w_a f_97_42 ?_
    refine w_a f_97_43 ?_
    exact w_c (ks := [0, 1, 2, 3]) f_97_44 rfl rfl h
  · refine w_a f_97_94 ?_
    exact h
set_option maxRecDepth 10000 in
set_option maxHeartbeats 4000000 in
theorem s_97_47 {Lx : Nat} {I : Mi} {L : Ml} {e : Nat} {Q : Kq} {x2 : Int32} {x3 : Int32} {rl1 : Int64} {r : Int32} (h :
    Wp 15 0 [(0, .ref 5), (1, .int x3)] [] (gE Lx) I L e (kcp (Wp 97) 97 54 0 [(0, .ref 1), (1, .ref 5), (2, .int x2), (3, .int x3)] 71 [.long (Int64.ofInt 20), .long (rl1 * r.toInt64), .ref 18] Q)) :
    Wp 97 47 [(0, .ref 1), (1, .ref 5), (2, .int x2), (3, .int x3)] [.int r, .long rl1, .ref 18] (gE Lx) I L e Q := by
  refine w_a f_97_47 ?_
  refine w_a f_97_48 ?_
  refine w_a f_97_49 ?_
  refine w_a f_97_52 ?_
  refine w_a f_97_53 ?_
  exact w_c (ks := [0, 1, 2, 3]) f_97_54 rfl rfl h
set_option maxRecDepth 10000 in
set_option maxHeartbeats 4000000 in
theorem s_97_57 {Lx : Nat} {I : Mi} {L : Ml} {e : Nat} {Q : Kq} {x2 : Int32} {x3 : Int32} {rl1 : Int64} {rl2 : Int64} {r : Int32} (h :
    Wp 25 0 [(0, .ref 18), (1, .long rl1), (3, .long (rl2 * r.toInt64))] [] (gE Lx) I L e (kcp (Wp 97) 97 59 0 [(0, .ref 1), (1, .ref 5), (2, .int x2), (3, .int x3)] 71 [] Q)) :
    Wp 97 57 [(0, .ref 1), (1, .ref 5), (2, .int x2), (3, .int x3)] [.int r, .long rl2, .long rl1, .ref 18] (gE Lx) I L e Q := by
  refine w_a f_97_57 ?_
  refine w_a f_97_58 ?_
  exact w_c (ks := [0, 1, 2, 3]) f_97_59 rfl rfl h
set_option maxRecDepth 10000 in
set_option maxHeartbeats 4000000 in
theorem s_97_62 {Lx : Nat} {I : Mi} {L : Ml} {e : Nat} {Q : Kq} {x2 : Int32} {x3 : Int32} (h :
    Wp 12 0 [(0, .ref 5), (1, .int x3)] [] (gE Lx) I L e (kcp (Wp 97) 97 68 0 [(0, .ref 1), (1, .ref 5), (2, .int x2), (3, .int x3)] 71 [.ref 14] Q)) :
    Wp 97 62 [(0, .ref 1), (1, .ref 5), (2, .int x2), (3, .int x3)] [] (gE Lx) I L e Q := by
  refine w_a f_97_62 ?_
  refine w_a f_97_63 ?_
  refine w_a f_97_66 ?_
  refine w_a f_97_67 ?_
  exact w_c (ks := [0, 1, 2, 3]) f_97_68 rfl rfl h
set_option maxRecDepth 10000 in
set_option maxHeartbeats 4000000 in
theorem s_97_71 {Lx : Nat} {I : Mi} {L : Ml} {e : Nat} {Q : Kq} {x2 : Int32} {x3 : Int32} {r : Int32} (h :
    Wp 75 0 [(0, .ref 14), (1, .int r), (2, .long (L 18 0)), (4, .long (L 18 1))] [] (gE Lx) I L e (kcp (Wp 97) 97 85 0 [(0, .ref 1), (1, .ref 5), (2, .int x2), (3, .int x3)] 71 [] Q)) :
    Wp 97 71 [(0, .ref 1), (1, .ref 5), (2, .int x2), (3, .int x3)] [.int r, .ref 14] (gE Lx) I L e Q := by
  refine w_a f_97_71 ?_
  refine w_a f_97_72 ?_
  refine w_a f_97_75 ?_
  refine w_a f_97_78 ?_
  refine w_a f_97_79 ?_
  refine w_a f_97_82 ?_
  exact w_c (ks := [0, 1, 2, 3]) f_97_85 rfl rfl h
set_option maxRecDepth 10000 in
set_option maxHeartbeats 4000000 in
theorem s_97_88 {Lx : Nat} {I : Mi} {L : Ml} {e : Nat} {Q : Kq} {x2 : Int32} {x3 : Int32} (h :
    Wp 97 24 [(0, .ref 1), (1, .ref 5), (2, .int x2), (3, .int (x3 + Int32.ofInt 1))] [] (gE Lx) I L e Q) :
    Wp 97 88 [(0, .ref 1), (1, .ref 5), (2, .int x2), (3, .int x3)] [] (gE Lx) I L e Q := by
  refine w_a f_97_88 ?_
  refine w_a (ls := [(3, .int (x3 + Int32.ofInt 1)), (0, .ref 1), (1, .ref 5), (2, .int x2)]) f_97_91 ?_
  exact w_n (ks := [0, 1, 2, 3]) rfl h
set_option maxRecDepth 10000 in
set_option maxHeartbeats 4000000 in
theorem s_98_0 {Lx : Nat} {I : Mi} {L : Ml} {e : Nat} {Q : Kq} (h :
    Wp 99 0 [(0, .ref 1)] [] (gE Lx) I L e (kcp (Wp 98) 98 1 0 [(0, .ref 1)] 71 [] Q)) :
    Wp 98 0 [(0, .ref 1)] [] (gE Lx) I L e Q := by
  refine w_a f_98_0 ?_
  exact w_c (ks := [0]) f_98_1 rfl rfl h
set_option maxRecDepth 10000 in
set_option maxHeartbeats 4000000 in
theorem s_98_4 {Lx : Nat} {I : Mi} {L : Ml} {e : Nat} {Q : Kq} (h :
    Wp 8 0 [(0, .ref 24), (1, .int (I 1 5))] [] (gE Lx) I L e (kcp (Wp 98) 98 12 0 [(0, .ref 1)] 71 [] Q)) :
    Wp 98 4 [(0, .ref 1)] [] (gE Lx) I L e Q := by
  refine w_a f_98_4 ?_
  refine w_a f_98_5 ?_
  refine w_a f_98_8 ?_
  refine w_a f_98_9 ?_
  exact w_c (ks := [0]) f_98_12 rfl rfl h
set_option maxRecDepth 10000 in
set_option maxHeartbeats 4000000 in
theorem s_98_15 {Lx : Nat} {I : Mi} {L : Ml} {e : Nat} {Q : Kq} (h :
    Wp 8 0 [(0, .ref 26), (1, .int (I 1 4))] [] (gE Lx) I L e (kcp (Wp 98) 98 23 0 [(0, .ref 1)] 71 [] Q)) :
    Wp 98 15 [(0, .ref 1)] [] (gE Lx) I L e Q := by
  refine w_a f_98_15 ?_
  refine w_a f_98_16 ?_
  refine w_a f_98_19 ?_
  refine w_a f_98_20 ?_
  exact w_c (ks := [0]) f_98_23 rfl rfl h
set_option maxRecDepth 10000 in
set_option maxHeartbeats 4000000 in
theorem s_98_26 {Lx : Nat} {I : Mi} {L : Ml} {e : Nat} {Q : Kq} (h :
    Wp 9 0 [(0, .ref 24), (1, .ref 26)] [] (gE Lx) I L e (kcp (Wp 98) 98 34 0 [(0, .ref 1)] 71 [] Q)) :
    Wp 98 26 [(0, .ref 1)] [] (gE Lx) I L e Q := by
  refine w_a f_98_26 ?_
  refine w_a f_98_27 ?_
  refine w_a f_98_30 ?_
  refine w_a f_98_31 ?_
  exact w_c (ks := [0]) f_98_34 rfl rfl h
