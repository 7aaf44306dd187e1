/-! Pieces of methods, by program out of the tables: 98 to 145. -/
theorem f_19_0 : ftc (PT 19) 0 = some (0, .aload_n 0, 1, 0, 0, 0) := by decide +kernel
theorem f_19_1 : ftc (PT 19) 1 = some (1, .getfield 21, 3, 2, 3, 219) := by decide +kernel
theorem f_19_4 : ftc (PT 19) 4 = some (4, .ifCond .lt 11, 3, 15, 0, 0) := by decide +kernel
theorem f_19_7 : ftc (PT 19) 7 = some (7, .aload_n 0, 1, 0, 0, 0) := by decide +kernel
theorem f_19_8 : ftc (PT 19) 8 = some (8, .getfield 21, 3, 2, 3, 219) := by decide +kernel
theorem f_19_11 : ftc (PT 19) 11 = some (11, .iconst 4, 1, 0, 0, 0) := by decide +kernel
theorem f_19_12 : ftc (PT 19) 12 = some (12, .if_icmp .lt 4, 3, 16, 0, 0) := by decide +kernel
theorem f_19_15 : ftc (PT 19) 15 = some (15, .return_, 1, 0, 0, 0) := by decide +kernel
theorem f_19_16 : ftc (PT 19) 16 = some (16, .aload_n 0, 1, 0, 0, 0) := by decide +kernel
theorem f_19_17 : ftc (PT 19) 17 = some (17, .getfield 24, 3, 2, 4, 222) := by decide +kernel
theorem f_19_20 : ftc (PT 19) 20 = some (20, .aload_n 0, 1, 0, 0, 0) := by decide +kernel
theorem f_19_21 : ftc (PT 19) 21 = some (21, .getfield 21, 3, 2, 3, 219) := by decide +kernel
theorem f_19_24 : ftc (PT 19) 24 = some (24, .iload_n 1, 1, 0, 0, 0) := by decide +kernel
theorem f_19_25 : ftc (PT 19) 25 = some (25, .iastore, 1, 0, 0, 0) := by decide +kernel
theorem f_19_26 : ftc (PT 19) 26 = some (26, .aload_n 0, 1, 0, 0, 0) := by decide +kernel
theorem f_19_27 : ftc (PT 19) 27 = some (27, .getfield 28, 3, 2, 5, 223) := by decide +kernel
theorem f_19_30 : ftc (PT 19) 30 = some (30, .aload_n 0, 1, 0, 0, 0) := by decide +kernel
theorem f_19_31 : ftc (PT 19) 31 = some (31, .getfield 21, 3, 2, 3, 219) := by decide +kernel
theorem f_19_34 : ftc (PT 19) 34 = some (34, .iload_n 2, 1, 0, 0, 0) := by decide +kernel
theorem f_19_35 : ftc (PT 19) 35 = some (35, .iastore, 1, 0, 0, 0) := by decide +kernel
theorem f_19_36 : ftc (PT 19) 36 = some (36, .aload_n 0, 1, 0, 0, 0) := by decide +kernel
theorem f_19_37 : ftc (PT 19) 37 = some (37, .getfield 31, 3, 2, 6, 224) := by decide +kernel
theorem f_19_40 : ftc (PT 19) 40 = some (40, .aload_n 0, 1, 0, 0, 0) := by decide +kernel
theorem f_19_41 : ftc (PT 19) 41 = some (41, .getfield 21, 3, 2, 3, 219) := by decide +kernel
theorem f_19_44 : ftc (PT 19) 44 = some (44, .iload_n 3, 1, 0, 0, 0) := by decide +kernel
theorem f_19_45 : ftc (PT 19) 45 = some (45, .iastore, 1, 0, 0, 0) := by decide +kernel
theorem f_19_46 : ftc (PT 19) 46 = some (46, .aload_n 0, 1, 0, 0, 0) := by decide +kernel
theorem f_19_47 : ftc (PT 19) 47 = some (47, .dup, 1, 0, 0, 0) := by decide +kernel
theorem f_19_48 : ftc (PT 19) 48 = some (48, .getfield 21, 3, 2, 3, 219) := by decide +kernel
theorem f_19_51 : ftc (PT 19) 51 = some (51, .iconst 1, 1, 0, 0, 0) := by decide +kernel
theorem f_19_52 : ftc (PT 19) 52 = some (52, .iadd, 1, 0, 0, 0) := by decide +kernel
theorem f_19_53 : ftc (PT 19) 53 = some (53, .putfield 21, 3, 2, 3, 219) := by decide +kernel
theorem f_19_56 : ftc (PT 19) 56 = some (56, .return_, 1, 0, 0, 0) := by decide +kernel
theorem f_20_0 : ftc (PT 20) 0 = some (0, .aload_n 0, 1, 0, 0, 0) := by decide +kernel
theorem f_20_1 : ftc (PT 20) 1 = some (1, .iload_n 1, 1, 0, 0, 0) := by decide +kernel
theorem f_20_2 : ftc (PT 20) 2 = some (2, .invokevirtual 34, 3, 13, 2082, 553) := by decide +kernel
theorem f_20_5 : ftc (PT 20) 5 = some (5, .ifCond .eq 17, 3, 22, 0, 0) := by decide +kernel
theorem f_20_8 : ftc (PT 20) 8 = some (8, .aload_n 0, 1, 0, 0, 0) := by decide +kernel
theorem f_20_9 : ftc (PT 20) 9 = some (9, .getfield 28, 3, 2, 5, 223) := by decide +kernel
theorem f_20_12 : ftc (PT 20) 12 = some (12, .iload_n 1, 1, 0, 0, 0) := by decide +kernel
theorem f_20_13 : ftc (PT 20) 13 = some (13, .iload_n 2, 1, 0, 0, 0) := by decide +kernel
theorem f_20_14 : ftc (PT 20) 14 = some (14, .iastore, 1, 0, 0, 0) := by decide +kernel
theorem f_20_15 : ftc (PT 20) 15 = some (15, .aload_n 0, 1, 0, 0, 0) := by decide +kernel
theorem f_20_16 : ftc (PT 20) 16 = some (16, .getfield 31, 3, 2, 6, 224) := by decide +kernel
theorem f_20_19 : ftc (PT 20) 19 = some (19, .iload_n 1, 1, 0, 0, 0) := by decide +kernel
theorem f_20_20 : ftc (PT 20) 20 = some (20, .iload_n 3, 1, 0, 0, 0) := by decide +kernel
theorem f_20_21 : ftc (PT 20) 21 = some (21, .iastore, 1, 0, 0, 0) := by decide +kernel
theorem f_20_22 : ftc (PT 20) 22 = some (22, .return_, 1, 0, 0, 0) := by decide +kernel
theorem f_31_0 : ftc (PT 31) 0 = some (0, .iload_n 1, 1, 0, 0, 0) := by decide +kernel
theorem f_31_1 : ftc (PT 31) 1 = some (1, .ifCond .eq 10, 3, 11, 0, 0) := by decide +kernel
theorem f_31_4 : ftc (PT 31) 4 = some (4, .aload_n 0, 1, 0, 0, 0) := by decide +kernel
theorem f_31_5 : ftc (PT 31) 5 = some (5, .getfield 13, 3, 3, 1, 299) := by decide +kernel
theorem f_31_8 : ftc (PT 31) 8 = some (8, .goto 7, 3, 15, 0, 0) := by decide +kernel
theorem f_31_11 : ftc (PT 31) 11 = some (11, .aload_n 0, 1, 0, 0, 0) := by decide +kernel
theorem f_31_12 : ftc (PT 31) 12 = some (12, .getfield 7, 3, 3, 0, 296) := by decide +kernel
theorem f_31_15 : ftc (PT 31) 15 = some (15, .lreturn, 1, 0, 0, 0) := by decide +kernel
theorem f_44_0 : ftc (PT 44) 0 = some (0, .aload_n 0, 1, 0, 0, 0) := by decide +kernel
theorem f_44_1 : ftc (PT 44) 1 = some (1, .iload_n 1, 1, 0, 0, 0) := by decide +kernel
theorem f_44_2 : ftc (PT 44) 2 = some (2, .invokevirtual 89, 3, 45, 2085, 1140) := by decide +kernel
theorem f_46_0 : ftc (PT 46) 0 = some (0, .aload_n 0, 1, 0, 0, 0) := by decide +kernel
theorem f_46_1 : ftc (PT 46) 1 = some (1, .iload_n 1, 1, 0, 0, 0) := by decide +kernel
theorem f_46_2 : ftc (PT 46) 2 = some (2, .invokevirtual 89, 3, 45, 2085, 1140) := by decide +kernel
theorem f_48_0 : ftc (PT 48) 0 = some (0, .aload_n 2, 1, 0, 0, 0) := by decide +kernel
theorem f_48_1 : ftc (PT 48) 1 = some (1, .aload_n 0, 1, 0, 0, 0) := by decide +kernel
theorem f_48_2 : ftc (PT 48) 2 = some (2, .iload_n 1, 1, 0, 0, 0) := by decide +kernel
theorem f_48_3 : ftc (PT 48) 3 = some (3, .invokevirtual 114, 3, 49, 2085, 1178) := by decide +kernel
theorem f_49_0 : ftc (PT 49) 0 = some (0, .aload_n 0, 1, 0, 0, 0) := by decide +kernel
theorem f_49_1 : ftc (PT 49) 1 = some (1, .getfield 19, 3, 5, 2, 317) := by decide +kernel
theorem f_49_4 : ftc (PT 49) 4 = some (4, .ifCond .eq 11, 3, 15, 0, 0) := by decide +kernel
theorem f_49_7 : ftc (PT 49) 7 = some (7, .aload_n 0, 1, 0, 0, 0) := by decide +kernel
theorem f_49_8 : ftc (PT 49) 8 = some (8, .iload_n 1, 1, 0, 0, 0) := by decide +kernel
theorem f_49_9 : ftc (PT 49) 9 = some (9, .invokevirtual 89, 3, 45, 2085, 1140) := by decide +kernel
theorem f_49_15 : ftc (PT 49) 15 = some (15, .aload_n 0, 1, 0, 0, 0) := by decide +kernel
theorem f_49_16 : ftc (PT 49) 16 = some (16, .iload_n 1, 1, 0, 0, 0) := by decide +kernel
theorem f_49_17 : ftc (PT 49) 17 = some (17, .invokevirtual 89, 3, 45, 2085, 1140) := by decide +kernel
theorem f_50_0 : ftc (PT 50) 0 = some (0, .aload_n 1, 1, 0, 0, 0) := by decide +kernel
theorem f_50_1 : ftc (PT 50) 1 = some (1, .aload_n 0, 1, 0, 0, 0) := by decide +kernel
theorem f_50_2 : ftc (PT 50) 2 = some (2, .getfield 35, 3, 5, 7, 322) := by decide +kernel
theorem f_50_5 : ftc (PT 50) 5 = some (5, .aload_n 0, 1, 0, 0, 0) := by decide +kernel
theorem f_50_6 : ftc (PT 50) 6 = some (6, .getfield 41, 3, 5, 9, 324) := by decide +kernel
theorem f_50_9 : ftc (PT 50) 9 = some (9, .aload_n 0, 1, 0, 0, 0) := by decide +kernel
theorem f_50_10 : ftc (PT 50) 10 = some (10, .getfield 41, 3, 5, 9, 324) := by decide +kernel
theorem f_50_13 : ftc (PT 50) 13 = some (13, .lmul, 1, 0, 0, 0) := by decide +kernel
theorem f_50_14 : ftc (PT 50) 14 = some (14, .invokevirtual 92, 3, 25, 9283, 1144) := by decide +kernel
theorem f_52_0 : ftc (PT 52) 0 = some (0, .aload_n 0, 1, 0, 0, 0) := by decide +kernel
theorem f_52_1 : ftc (PT 52) 1 = some (1, .aload_n 1, 1, 0, 0, 0) := by decide +kernel
theorem f_52_2 : ftc (PT 52) 2 = some (2, .invokevirtual 19, 3, 82, 1034, 1074) := by decide +kernel
theorem f_52_5 : ftc (PT 52) 5 = some (5, .aload_n 1, 1, 0, 0, 0) := by decide +kernel
theorem f_52_6 : ftc (PT 52) 6 = some (6, .invokevirtual 25, 3, 81, 1034, 1075) := by decide +kernel
theorem f_52_9 : ftc (PT 52) 9 = some (9, .aload_n 1, 1, 0, 0, 0) := by decide +kernel
theorem f_52_10 : ftc (PT 52) 10 = some (10, .invokevirtual 28, 3, 83, 1034, 1076) := by decide +kernel
theorem f_52_13 : ftc (PT 52) 13 = some (13, .invokevirtual 31, 3, 53, 9318, 1077) := by decide +kernel
theorem f_80_0 : ftc (PT 80) 0 = some (0, .aload_n 0, 1, 0, 0, 0) := by decide +kernel
theorem f_80_1 : ftc (PT 80) 1 = some (1, .getfield 18, 3, 10, 2, 252) := by decide +kernel
theorem f_80_4 : ftc (PT 80) 4 = some (4, .lconst 0, 1, 0, 0, 0) := by decide +kernel
theorem f_80_5 : ftc (PT 80) 5 = some (5, .lcmp, 1, 0, 0, 0) := by decide +kernel
theorem f_80_6 : ftc (PT 80) 6 = some (6, .ifCond .ne 16, 3, 22, 0, 0) := by decide +kernel
theorem f_80_9 : ftc (PT 80) 9 = some (9, .aload_n 0, 1, 0, 0, 0) := by decide +kernel
theorem f_80_10 : ftc (PT 80) 10 = some (10, .getfield 21, 3, 10, 3, 254) := by decide +kernel
theorem f_80_13 : ftc (PT 80) 13 = some (13, .lconst 0, 1, 0, 0, 0) := by decide +kernel
theorem f_80_14 : ftc (PT 80) 14 = some (14, .lcmp, 1, 0, 0, 0) := by decide +kernel
theorem f_80_15 : ftc (PT 80) 15 = some (15, .ifCond .ne 7, 3, 22, 0, 0) := by decide +kernel
theorem f_80_18 : ftc (PT 80) 18 = some (18, .iconst 1, 1, 0, 0, 0) := by decide +kernel
theorem f_80_19 : ftc (PT 80) 19 = some (19, .goto 4, 3, 23, 0, 0) := by decide +kernel
theorem f_80_22 : ftc (PT 80) 22 = some (22, .iconst 0, 1, 0, 0, 0) := by decide +kernel
theorem f_80_23 : ftc (PT 80) 23 = some (23, .ireturn, 1, 1, 0, 0) := by decide +kernel
theorem f_81_0 : ftc (PT 81) 0 = some (0, .aload_n 0, 1, 0, 0, 0) := by decide +kernel
theorem f_81_1 : ftc (PT 81) 1 = some (1, .getfield 15, 3, 10, 1, 250) := by decide +kernel
theorem f_81_4 : ftc (PT 81) 4 = some (4, .aload_n 0, 1, 0, 0, 0) := by decide +kernel
theorem f_81_5 : ftc (PT 81) 5 = some (5, .getfield 18, 3, 10, 2, 252) := by decide +kernel
theorem f_81_8 : ftc (PT 81) 8 = some (8, .lmul, 1, 0, 0, 0) := by decide +kernel
theorem f_81_9 : ftc (PT 81) 9 = some (9, .aload_n 0, 1, 0, 0, 0) := by decide +kernel
theorem f_81_10 : ftc (PT 81) 10 = some (10, .getfield 9, 3, 10, 0, 248) := by decide +kernel
theorem f_81_13 : ftc (PT 81) 13 = some (13, .aload_n 0, 1, 0, 0, 0) := by decide +kernel
theorem f_81_14 : ftc (PT 81) 14 = some (14, .getfield 21, 3, 10, 3, 254) := by decide +kernel
theorem f_81_17 : ftc (PT 81) 17 = some (17, .lmul, 1, 0, 0, 0) := by decide +kernel
theorem f_81_18 : ftc (PT 81) 18 = some (18, .lsub, 1, 0, 0, 0) := by decide +kernel
theorem f_81_19 : ftc (PT 81) 19 = some (19, .lreturn, 1, 0, 0, 0) := by decide +kernel
theorem f_82_0 : ftc (PT 82) 0 = some (0, .aload_n 0, 1, 0, 0, 0) := by decide +kernel
theorem f_82_1 : ftc (PT 82) 1 = some (1, .getfield 9, 3, 10, 0, 248) := by decide +kernel
theorem f_82_4 : ftc (PT 82) 4 = some (4, .aload_n 0, 1, 0, 0, 0) := by decide +kernel
theorem f_82_5 : ftc (PT 82) 5 = some (5, .getfield 18, 3, 10, 2, 252) := by decide +kernel
theorem f_82_8 : ftc (PT 82) 8 = some (8, .lmul, 1, 0, 0, 0) := by decide +kernel
theorem f_82_9 : ftc (PT 82) 9 = some (9, .aload_n 0, 1, 0, 0, 0) := by decide +kernel
theorem f_82_10 : ftc (PT 82) 10 = some (10, .getfield 15, 3, 10, 1, 250) := by decide +kernel
theorem f_82_13 : ftc (PT 82) 13 = some (13, .aload_n 0, 1, 0, 0, 0) := by decide +kernel
theorem f_82_14 : ftc (PT 82) 14 = some (14, .getfield 21, 3, 10, 3, 254) := by decide +kernel
theorem f_82_17 : ftc (PT 82) 17 = some (17, .lmul, 1, 0, 0, 0) := by decide +kernel
theorem f_82_18 : ftc (PT 82) 18 = some (18, .ladd, 1, 0, 0, 0) := by decide +kernel
theorem f_82_19 : ftc (PT 82) 19 = some (19, .lreturn, 1, 0, 0, 0) := by decide +kernel
theorem f_83_0 : ftc (PT 83) 0 = some (0, .aload_n 0, 1, 0, 0, 0) := by decide +kernel
theorem f_83_1 : ftc (PT 83) 1 = some (1, .getfield 18, 3, 10, 2, 252) := by decide +kernel
theorem f_83_4 : ftc (PT 83) 4 = some (4, .aload_n 0, 1, 0, 0, 0) := by decide +kernel
theorem f_83_5 : ftc (PT 83) 5 = some (5, .getfield 18, 3, 10, 2, 252) := by decide +kernel
theorem f_83_8 : ftc (PT 83) 8 = some (8, .lmul, 1, 0, 0, 0) := by decide +kernel
theorem f_83_9 : ftc (PT 83) 9 = some (9, .aload_n 0, 1, 0, 0, 0) := by decide +kernel
theorem f_83_10 : ftc (PT 83) 10 = some (10, .getfield 21, 3, 10, 3, 254) := by decide +kernel
theorem f_83_13 : ftc (PT 83) 13 = some (13, .aload_n 0, 1, 0, 0, 0) := by decide +kernel
theorem f_83_14 : ftc (PT 83) 14 = some (14, .getfield 21, 3, 10, 3, 254) := by decide +kernel
theorem f_83_17 : ftc (PT 83) 17 = some (17, .lmul, 1, 0, 0, 0) := by decide +kernel
theorem f_83_18 : ftc (PT 83) 18 = some (18, .ladd, 1, 0, 0, 0) := by decide +kernel
theorem f_83_19 : ftc (PT 83) 19 = some (19, .lreturn, 1, 0, 0, 0) := by decide +kernel
theorem f_98_37 : ftc (PT 98) 37 = some (37, .ifCond .gt 7, 3, 44, 0, 0) := by decide +kernel
theorem f_98_40 : ftc (PT 98) 40 = some (40, .iconst 1, 1, 0, 0, 0) := by decide +kernel
theorem f_98_41 : ftc (PT 98) 41 = some (41, .goto 4, 3, 45, 0, 0) := by decide +kernel
theorem f_98_44 : ftc (PT 98) 44 = some (44, .iconst 0, 1, 0, 0, 0) := by decide +kernel
theorem f_98_45 : ftc (PT 98) 45 = some (45, .ireturn, 1, 1, 0, 0) := by decide +kernel
theorem f_99_0 : ftc (PT 99) 0 = some (0, .aload_n 0, 1, 0, 0, 0) := by decide +kernel
theorem f_99_1 : ftc (PT 99) 1 = some (1, .getfield 97, 3, 11, 15, 483) := by decide +kernel
theorem f_99_4 : ftc (PT 99) 4 = some (4, .aload_n 0, 1, 0, 0, 0) := by decide +kernel
theorem f_99_5 : ftc (PT 99) 5 = some (5, .getfield 42, 3, 11, 6, 474) := by decide +kernel
theorem f_99_8 : ftc (PT 99) 8 = some (8, .getfield 504, 3, 10, 0, 249) := by decide +kernel
theorem f_99_11 : ftc (PT 99) 11 = some (11, .aload_n 0, 1, 0, 0, 0) := by decide +kernel
theorem f_99_12 : ftc (PT 99) 12 = some (12, .getfield 42, 3, 11, 6, 474) := by decide +kernel
theorem f_99_15 : ftc (PT 99) 15 = some (15, .getfield 507, 3, 10, 2, 253) := by decide +kernel
theorem f_99_18 : ftc (PT 99) 18 = some (18, .lsub, 1, 0, 0, 0) := by decide +kernel
theorem f_99_19 : ftc (PT 99) 19 = some (19, .aload_n 0, 1, 0, 0, 0) := by decide +kernel
theorem f_99_20 : ftc (PT 99) 20 = some (20, .getfield 42, 3, 11, 6, 474) := by decide +kernel
theorem f_99_23 : ftc (PT 99) 23 = some (23, .getfield 510, 3, 10, 1, 251) := by decide +kernel
theorem f_99_26 : ftc (PT 99) 26 = some (26, .aload_n 0, 1, 0, 0, 0) := by decide +kernel
theorem f_99_27 : ftc (PT 99) 27 = some (27, .getfield 42, 3, 11, 6, 474) := by decide +kernel
theorem f_99_30 : ftc (PT 99) 30 = some (30, .getfield 513, 3, 10, 3, 255) := by decide +kernel
theorem f_99_33 : ftc (PT 99) 33 = some (33, .lsub, 1, 0, 0, 0) := by decide +kernel
theorem f_99_34 : ftc (PT 99) 34 = some (34, .invokevirtual 516, 3, 6, 17473, 670) := by decide +kernel
theorem f_99_37 : ftc (PT 99) 37 = some (37, .aload_n 0, 1, 0, 0, 0) := by decide +kernel
theorem f_99_38 : ftc (PT 99) 38 = some (38, .getfield 101, 3, 11, 16, 484) := by decide +kernel
theorem f_99_41 : ftc (PT 99) 41 = some (41, .aload_n 0, 1, 0, 0, 0) := by decide +kernel
theorem f_99_42 : ftc (PT 99) 42 = some (42, .getfield 42, 3, 11, 6, 474) := by decide +kernel
theorem f_99_45 : ftc (PT 99) 45 = some (45, .getfield 504, 3, 10, 0, 249) := by decide +kernel
theorem f_99_48 : ftc (PT 99) 48 = some (48, .aload_n 0, 1, 0, 0, 0) := by decide +kernel
theorem f_99_49 : ftc (PT 99) 49 = some (49, .getfield 42, 3, 11, 6, 474) := by decide +kernel
theorem f_99_52 : ftc (PT 99) 52 = some (52, .getfield 507, 3, 10, 2, 253) := by decide +kernel
theorem f_99_55 : ftc (PT 99) 55 = some (55, .ladd, 1, 0, 0, 0) := by decide +kernel
theorem f_99_56 : ftc (PT 99) 56 = some (56, .aload_n 0, 1, 0, 0, 0) := by decide +kernel
theorem f_99_57 : ftc (PT 99) 57 = some (57, .getfield 42, 3, 11, 6, 474) := by decide +kernel
theorem f_99_60 : ftc (PT 99) 60 = some (60, .getfield 510, 3, 10, 1, 251) := by decide +kernel
theorem f_99_63 : ftc (PT 99) 63 = some (63, .aload_n 0, 1, 0, 0, 0) := by decide +kernel
theorem f_99_64 : ftc (PT 99) 64 = some (64, .getfield 42, 3, 11, 6, 474) := by decide +kernel
theorem f_99_67 : ftc (PT 99) 67 = some (67, .getfield 513, 3, 10, 3, 255) := by decide +kernel
theorem f_99_70 : ftc (PT 99) 70 = some (70, .ladd, 1, 0, 0, 0) := by decide +kernel
theorem f_99_71 : ftc (PT 99) 71 = some (71, .invokevirtual 516, 3, 6, 17473, 670) := by decide +kernel
theorem f_99_74 : ftc (PT 99) 74 = some (74, .return_, 1, 0, 0, 0) := by decide +kernel
theorem f_100_4 : ftc (PT 100) 4 = some (4, .iconst 0, 1, 0, 0, 0) := by decide +kernel
theorem f_100_5 : ftc (PT 100) 5 = some (5, .istore_n 2, 1, 0, 0, 0) := by decide +kernel
theorem f_100_28 : ftc (PT 100) 28 = some (28, .iload_n 1, 1, 0, 0, 0) := by decide +kernel
theorem f_100_29 : ftc (PT 100) 29 = some (29, .if_icmp .ne 5, 3, 34, 0, 0) := by decide +kernel
theorem f_100_32 : ftc (PT 100) 32 = some (32, .iload_n 2, 1, 0, 0, 0) := by decide +kernel
theorem f_100_33 : ftc (PT 100) 33 = some (33, .ireturn, 1, 0, 0, 0) := by decide +kernel
theorem f_100_34 : ftc (PT 100) 34 = some (34, .iinc 2 1, 3, 0, 0, 0) := by decide +kernel
theorem f_100_37 : ftc (PT 100) 37 = some (37, .goto (-31), 3, 6, 0, 0) := by decide +kernel
theorem f_101_0 : ftc (PT 101) 0 = some (0, .iconst 0, 1, 0, 0, 0) := by decide +kernel
theorem f_101_1 : ftc (PT 101) 1 = some (1, .istore_n 1, 1, 0, 0, 0) := by decide +kernel
theorem f_101_62 : ftc (PT 101) 62 = some (62, .iinc 1 1, 3, 0, 0, 0) := by decide +kernel
theorem f_101_65 : ftc (PT 101) 65 = some (65, .goto (-63), 3, 2, 0, 0) := by decide +kernel
theorem f_102_0 : ftc (PT 102) 0 = some (0, .iconst 0, 1, 0, 0, 0) := by decide +kernel
theorem f_102_1 : ftc (PT 102) 1 = some (1, .istore_n 2, 1, 0, 0, 0) := by decide +kernel
theorem f_102_2 : ftc (PT 102) 2 = some (2, .iconst 0, 1, 0, 0, 0) := by decide +kernel
theorem f_102_3 : ftc (PT 102) 3 = some (3, .istore_n 3, 1, 0, 0, 0) := by decide +kernel
theorem f_102_59 : ftc (PT 102) 59 = some (59, .ifCond .ne 6, 3, 65, 0, 0) := by decide +kernel
theorem f_102_62 : ftc (PT 102) 62 = some (62, .iinc 2 1, 3, 0, 0, 0) := by decide +kernel
theorem f_102_65 : ftc (PT 102) 65 = some (65, .iinc 3 1, 3, 0, 0, 0) := by decide +kernel
theorem f_102_68 : ftc (PT 102) 68 = some (68, .goto (-64), 3, 4, 0, 0) := by decide +kernel
theorem f_103_102 : ftc (PT 103) 102 = some (102, .ireturn, 1, 0, 0, 0) := by decide +kernel
theorem f_103_107 : ftc (PT 103) 107 = some (107, .ifCond .eq 7, 3, 114, 0, 0) := by decide +kernel
theorem f_103_110 : ftc (PT 103) 110 = some (110, .iconst 1, 1, 0, 0, 0) := by decide +kernel
theorem f_103_111 : ftc (PT 103) 111 = some (111, .goto 4, 3, 115, 0, 0) := by decide +kernel
theorem f_103_114 : ftc (PT 103) 114 = some (114, .iconst 0, 1, 0, 0, 0) := by decide +kernel
theorem f_103_115 : ftc (PT 103) 115 = some (115, .ireturn, 1, 0, 0, 0) := by decide +kernel
theorem f_103_120 : ftc (PT 103) 120 = some (120, .ireturn, 1, 0, 0, 0) := by decide +kernel
theorem f_103_125 : ftc (PT 103) 125 = some (125, .ireturn, 1, 0, 0, 0) := by decide +kernel
theorem f_105_18 : ftc (PT 105) 18 = some (18, .aload_n 0, 1, 0, 0, 0) := by decide +kernel
theorem f_105_19 : ftc (PT 105) 19 = some (19, .getfield 42, 3, 11, 6, 474) := by decide +kernel
theorem f_105_22 : ftc (PT 105) 22 = some (22, .invokevirtual 222, 3, 78, 5130, 577) := by decide +kernel
theorem f_105_25 : ftc (PT 105) 25 = some (25, .lconst 0, 1, 0, 0, 0) := by decide +kernel
theorem f_105_26 : ftc (PT 105) 26 = some (26, .lcmp, 1, 0, 0, 0) := by decide +kernel
theorem f_105_27 : ftc (PT 105) 27 = some (27, .ifCond .ne 7, 3, 34, 0, 0) := by decide +kernel
theorem f_105_30 : ftc (PT 105) 30 = some (30, .iconst 1, 1, 0, 0, 0) := by decide +kernel
theorem f_105_31 : ftc (PT 105) 31 = some (31, .goto 4, 3, 35, 0, 0) := by decide +kernel
theorem f_105_34 : ftc (PT 105) 34 = some (34, .iconst 0, 1, 0, 0, 0) := by decide +kernel
theorem f_105_35 : ftc (PT 105) 35 = some (35, .ireturn, 1, 1, 0, 0) := by decide +kernel
theorem f_106_0 : ftc (PT 106) 0 = some (0, .aload_n 2, 1, 0, 0, 0) := by decide +kernel
theorem f_106_1 : ftc (PT 106) 1 = some (1, .aload_n 0, 1, 0, 0, 0) := by decide +kernel
theorem f_106_2 : ftc (PT 106) 2 = some (2, .getfield 156, 3, 2, 0, 214) := by decide +kernel
theorem f_106_5 : ftc (PT 106) 5 = some (5, .i2l, 1, 0, 0, 0) := by decide +kernel
theorem f_106_6 : ftc (PT 106) 6 = some (6, .aload_n 0, 1, 0, 0, 0) := by decide +kernel
theorem f_106_7 : ftc (PT 106) 7 = some (7, .getfield 159, 3, 2, 1, 216) := by decide +kernel
theorem f_106_10 : ftc (PT 106) 10 = some (10, .i2l, 1, 0, 0, 0) := by decide +kernel
theorem f_106_11 : ftc (PT 106) 11 = some (11, .aload_n 0, 1, 0, 0, 0) := by decide +kernel
theorem f_106_12 : ftc (PT 106) 12 = some (12, .getfield 162, 3, 2, 2, 218) := by decide +kernel
theorem f_106_15 : ftc (PT 106) 15 = some (15, .i2l, 1, 0, 0, 0) := by decide +kernel
theorem f_106_16 : ftc (PT 106) 16 = some (16, .invokevirtual 487, 3, 74, 7274, 545) := by decide +kernel
theorem f_106_19 : ftc (PT 106) 19 = some (19, .iconst 0, 1, 0, 0, 0) := by decide +kernel
theorem f_106_20 : ftc (PT 106) 20 = some (20, .istore_n 3, 1, 0, 0, 0) := by decide +kernel
theorem f_106_21 : ftc (PT 106) 21 = some (21, .iload_n 3, 1, 0, 0, 0) := by decide +kernel
theorem f_106_22 : ftc (PT 106) 22 = some (22, .iload_n 1, 1, 0, 0, 0) := by decide +kernel
theorem f_106_23 : ftc (PT 106) 23 = some (23, .if_icmp .ge 30, 3, 53, 0, 0) := by decide +kernel
theorem f_106_26 : ftc (PT 106) 26 = some (26, .aload_n 2, 1, 0, 0, 0) := by decide +kernel
theorem f_106_27 : ftc (PT 106) 27 = some (27, .aload_n 0, 1, 0, 0, 0) := by decide +kernel
theorem f_106_28 : ftc (PT 106) 28 = some (28, .iload_n 3, 1, 0, 0, 0) := by decide +kernel
theorem f_106_29 : ftc (PT 106) 29 = some (29, .invokevirtual 146, 3, 12, 2082, 549) := by decide +kernel
theorem f_106_32 : ftc (PT 106) 32 = some (32, .aload_n 0, 1, 0, 0, 0) := by decide +kernel
theorem f_106_33 : ftc (PT 106) 33 = some (33, .iload_n 3, 1, 0, 0, 0) := by decide +kernel
theorem f_106_34 : ftc (PT 106) 34 = some (34, .invokevirtual 150, 3, 14, 2082, 557) := by decide +kernel
theorem f_106_37 : ftc (PT 106) 37 = some (37, .i2l, 1, 0, 0, 0) := by decide +kernel
theorem f_106_38 : ftc (PT 106) 38 = some (38, .aload_n 0, 1, 0, 0, 0) := by decide +kernel
theorem f_106_39 : ftc (PT 106) 39 = some (39, .iload_n 3, 1, 0, 0, 0) := by decide +kernel
theorem f_106_40 : ftc (PT 106) 40 = some (40, .invokevirtual 153, 3, 15, 2082, 561) := by decide +kernel
theorem f_106_43 : ftc (PT 106) 43 = some (43, .i2l, 1, 0, 0, 0) := by decide +kernel
theorem f_106_44 : ftc (PT 106) 44 = some (44, .invokevirtual 491, 3, 75, 6250, 565) := by decide +kernel
theorem f_106_47 : ftc (PT 106) 47 = some (47, .iinc 3 1, 3, 0, 0, 0) := by decide +kernel
theorem f_106_50 : ftc (PT 106) 50 = some (50, .goto (-29), 3, 21, 0, 0) := by decide +kernel
theorem f_106_53 : ftc (PT 106) 53 = some (53, .return_, 1, 0, 0, 0) := by decide +kernel
theorem f_107_2 : ftc (PT 107) 2 = some (2, .iload_n 1, 1, 0, 0, 0) := by decide +kernel
theorem f_107_3 : ftc (PT 107) 3 = some (3, .iconst 1, 1, 0, 0, 0) := by decide +kernel
theorem f_107_4 : ftc (PT 107) 4 = some (4, .if_icmp .lt 27, 3, 31, 0, 0) := by decide +kernel
theorem f_107_7 : ftc (PT 107) 7 = some (7, .aload_n 0, 1, 0, 0, 0) := by decide +kernel
theorem f_107_8 : ftc (PT 107) 8 = some (8, .aload_n 0, 1, 0, 0, 0) := by decide +kernel
theorem f_107_9 : ftc (PT 107) 9 = some (9, .getfield 19, 3, 11, 1, 469) := by decide +kernel
theorem f_107_12 : ftc (PT 107) 12 = some (12, .iload_n 1, 1, 0, 0, 0) := by decide +kernel
theorem f_107_13 : ftc (PT 107) 13 = some (13, .invokevirtual 499, 3, 108, 4171, 749) := by decide +kernel
theorem f_107_16 : ftc (PT 107) 16 = some (16, .aload_n 0, 1, 0, 0, 0) := by decide +kernel
theorem f_107_17 : ftc (PT 107) 17 = some (17, .invokevirtual 240, 3, 98, 1035, 662) := by decide +kernel
theorem f_107_20 : ftc (PT 107) 20 = some (20, .ifCond .eq 5, 3, 25, 0, 0) := by decide +kernel
theorem f_107_23 : ftc (PT 107) 23 = some (23, .iload_n 1, 1, 0, 0, 0) := by decide +kernel
theorem f_107_24 : ftc (PT 107) 24 = some (24, .ireturn, 1, 0, 0, 0) := by decide +kernel
theorem f_107_25 : ftc (PT 107) 25 = some (25, .iinc 1 (-1), 3, 0, 0, 0) := by decide +kernel
theorem f_107_28 : ftc (PT 107) 28 = some (28, .goto (-26), 3, 2, 0, 0) := by decide +kernel
theorem f_107_31 : ftc (PT 107) 31 = some (31, .iconst 0, 1, 0, 0, 0) := by decide +kernel
theorem f_107_32 : ftc (PT 107) 32 = some (32, .ireturn, 1, 0, 0, 0) := by decide +kernel
theorem f_108_0 : ftc (PT 108) 0 = some (0, .aload_n 1, 1, 0, 0, 0) := by decide +kernel
theorem f_108_1 : ftc (PT 108) 1 = some (1, .getfield 159, 3, 2, 1, 216) := by decide +kernel
theorem f_108_4 : ftc (PT 108) 4 = some (4, .ifCond .le 31, 3, 35, 0, 0) := by decide +kernel
theorem f_108_7 : ftc (PT 108) 7 = some (7, .aload_n 0, 1, 0, 0, 0) := by decide +kernel
theorem f_108_8 : ftc (PT 108) 8 = some (8, .getfield 42, 3, 11, 6, 474) := by decide +kernel
theorem f_108_11 : ftc (PT 108) 11 = some (11, .aload_n 1, 1, 0, 0, 0) := by decide +kernel
theorem f_108_12 : ftc (PT 108) 12 = some (12, .getfield 156, 3, 2, 0, 214) := by decide +kernel
theorem f_108_15 : ftc (PT 108) 15 = some (15, .i2l, 1, 0, 0, 0) := by decide +kernel
theorem f_108_16 : ftc (PT 108) 16 = some (16, .iload_n 2, 1, 0, 0, 0) := by decide +kernel
theorem f_108_17 : ftc (PT 108) 17 = some (17, .i2l, 1, 0, 0, 0) := by decide +kernel
theorem f_108_18 : ftc (PT 108) 18 = some (18, .aload_n 1, 1, 0, 0, 0) := by decide +kernel
theorem f_108_19 : ftc (PT 108) 19 = some (19, .getfield 159, 3, 2, 1, 216) := by decide +kernel
theorem f_108_22 : ftc (PT 108) 22 = some (22, .i2l, 1, 0, 0, 0) := by decide +kernel
theorem f_108_23 : ftc (PT 108) 23 = some (23, .lmul, 1, 0, 0, 0) := by decide +kernel
theorem f_108_24 : ftc (PT 108) 24 = some (24, .aload_n 1, 1, 0, 0, 0) := by decide +kernel
theorem f_108_25 : ftc (PT 108) 25 = some (25, .getfield 162, 3, 2, 2, 218) := by decide +kernel
theorem f_108_28 : ftc (PT 108) 28 = some (28, .i2l, 1, 0, 0, 0) := by decide +kernel
theorem f_108_29 : ftc (PT 108) 29 = some (29, .invokevirtual 487, 3, 74, 7274, 545) := by decide +kernel
theorem f_108_32 : ftc (PT 108) 32 = some (32, .goto 31, 3, 63, 0, 0) := by decide +kernel
theorem f_108_35 : ftc (PT 108) 35 = some (35, .aload_n 0, 1, 0, 0, 0) := by decide +kernel
theorem f_108_36 : ftc (PT 108) 36 = some (36, .getfield 42, 3, 11, 6, 474) := by decide +kernel
theorem f_108_39 : ftc (PT 108) 39 = some (39, .iload_n 2, 1, 0, 0, 0) := by decide +kernel
theorem f_108_40 : ftc (PT 108) 40 = some (40, .i2l, 1, 0, 0, 0) := by decide +kernel
theorem f_108_41 : ftc (PT 108) 41 = some (41, .aload_n 1, 1, 0, 0, 0) := by decide +kernel
theorem f_108_42 : ftc (PT 108) 42 = some (42, .getfield 156, 3, 2, 0, 214) := by decide +kernel
theorem f_108_45 : ftc (PT 108) 45 = some (45, .i2l, 1, 0, 0, 0) := by decide +kernel
theorem f_108_46 : ftc (PT 108) 46 = some (46, .lmul, 1, 0, 0, 0) := by decide +kernel
theorem f_108_47 : ftc (PT 108) 47 = some (47, .aload_n 1, 1, 0, 0, 0) := by decide +kernel
theorem f_108_48 : ftc (PT 108) 48 = some (48, .getfield 159, 3, 2, 1, 216) := by decide +kernel
theorem f_108_51 : ftc (PT 108) 51 = some (51, .i2l, 1, 0, 0, 0) := by decide +kernel
theorem f_108_52 : ftc (PT 108) 52 = some (52, .iload_n 2, 1, 0, 0, 0) := by decide +kernel
theorem f_108_53 : ftc (PT 108) 53 = some (53, .i2l, 1, 0, 0, 0) := by decide +kernel
theorem f_108_54 : ftc (PT 108) 54 = some (54, .aload_n 1, 1, 0, 0, 0) := by decide +kernel
theorem f_108_55 : ftc (PT 108) 55 = some (55, .getfield 162, 3, 2, 2, 218) := by decide +kernel
theorem f_108_58 : ftc (PT 108) 58 = some (58, .i2l, 1, 0, 0, 0) := by decide +kernel
theorem f_108_59 : ftc (PT 108) 59 = some (59, .lmul, 1, 0, 0, 0) := by decide +kernel
theorem f_108_60 : ftc (PT 108) 60 = some (60, .invokevirtual 487, 3, 74, 7274, 545) := by decide +kernel
theorem f_108_63 : ftc (PT 108) 63 = some (63, .iconst 0, 1, 0, 0, 0) := by decide +kernel
theorem f_108_64 : ftc (PT 108) 64 = some (64, .istore_n 3, 1, 0, 0, 0) := by decide +kernel
theorem f_108_65 : ftc (PT 108) 65 = some (65, .iload_n 3, 1, 0, 0, 0) := by decide +kernel
theorem f_108_66 : ftc (PT 108) 66 = some (66, .aload_n 1, 1, 0, 0, 0) := by decide +kernel
theorem f_108_67 : ftc (PT 108) 67 = some (67, .getfield 127, 3, 2, 3, 221) := by decide +kernel
theorem f_108_70 : ftc (PT 108) 70 = some (70, .if_icmp .ge 55, 3, 125, 0, 0) := by decide +kernel
theorem f_108_73 : ftc (PT 108) 73 = some (73, .aload_n 0, 1, 0, 0, 0) := by decide +kernel
theorem f_108_74 : ftc (PT 108) 74 = some (74, .getfield 62, 3, 11, 10, 478) := by decide +kernel
theorem f_108_77 : ftc (PT 108) 77 = some (77, .aload_n 1, 1, 0, 0, 0) := by decide +kernel
theorem f_108_78 : ftc (PT 108) 78 = some (78, .iload_n 3, 1, 0, 0, 0) := by decide +kernel
theorem f_108_79 : ftc (PT 108) 79 = some (79, .invokevirtual 150, 3, 14, 2082, 557) := by decide +kernel
theorem f_108_82 : ftc (PT 108) 82 = some (82, .i2l, 1, 0, 0, 0) := by decide +kernel
theorem f_108_83 : ftc (PT 108) 83 = some (83, .aload_n 1, 1, 0, 0, 0) := by decide +kernel
theorem f_108_84 : ftc (PT 108) 84 = some (84, .iload_n 3, 1, 0, 0, 0) := by decide +kernel
theorem f_108_85 : ftc (PT 108) 85 = some (85, .invokevirtual 153, 3, 15, 2082, 561) := by decide +kernel
theorem f_108_88 : ftc (PT 108) 88 = some (88, .i2l, 1, 0, 0, 0) := by decide +kernel
theorem f_108_89 : ftc (PT 108) 89 = some (89, .iload_n 2, 1, 0, 0, 0) := by decide +kernel
theorem f_108_90 : ftc (PT 108) 90 = some (90, .invokevirtual 247, 3, 30, 7267, 753) := by decide +kernel
theorem f_108_93 : ftc (PT 108) 93 = some (93, .aload_n 0, 1, 0, 0, 0) := by decide +kernel
theorem f_108_94 : ftc (PT 108) 94 = some (94, .getfield 42, 3, 11, 6, 474) := by decide +kernel
theorem f_108_97 : ftc (PT 108) 97 = some (97, .aload_n 1, 1, 0, 0, 0) := by decide +kernel
theorem f_108_98 : ftc (PT 108) 98 = some (98, .iload_n 3, 1, 0, 0, 0) := by decide +kernel
theorem f_108_99 : ftc (PT 108) 99 = some (99, .invokevirtual 146, 3, 12, 2082, 549) := by decide +kernel
theorem f_108_102 : ftc (PT 108) 102 = some (102, .aload_n 0, 1, 0, 0, 0) := by decide +kernel
theorem f_108_103 : ftc (PT 108) 103 = some (103, .getfield 62, 3, 11, 10, 478) := by decide +kernel
theorem f_108_106 : ftc (PT 108) 106 = some (106, .getfield 291, 3, 3, 0, 298) := by decide +kernel
theorem f_108_109 : ftc (PT 108) 109 = some (109, .aload_n 0, 1, 0, 0, 0) := by decide +kernel
theorem f_108_110 : ftc (PT 108) 110 = some (110, .getfield 62, 3, 11, 10, 478) := by decide +kernel
theorem f_108_113 : ftc (PT 108) 113 = some (113, .getfield 294, 3, 3, 1, 301) := by decide +kernel
theorem f_108_116 : ftc (PT 108) 116 = some (116, .invokevirtual 491, 3, 75, 6250, 565) := by decide +kernel
theorem f_108_119 : ftc (PT 108) 119 = some (119, .iinc 3 1, 3, 0, 0, 0) := by decide +kernel
theorem f_108_122 : ftc (PT 108) 122 = some (122, .goto (-57), 3, 65, 0, 0) := by decide +kernel
theorem f_108_125 : ftc (PT 108) 125 = some (125, .return_, 1, 0, 0, 0) := by decide +kernel
theorem f_109_4 : ftc (PT 109) 4 = some (4, .iload_n 2, 1, 0, 0, 0) := by decide +kernel
theorem f_109_5 : ftc (PT 109) 5 = some (5, .iconst 3, 1, 0, 0, 0) := by decide +kernel
theorem f_109_6 : ftc (PT 109) 6 = some (6, .if_icmp .gt 42, 3, 48, 0, 0) := by decide +kernel
theorem f_109_9 : ftc (PT 109) 9 = some (9, .aload_n 0, 1, 0, 0, 0) := by decide +kernel
theorem f_109_10 : ftc (PT 109) 10 = some (10, .aload_n 0, 1, 0, 0, 0) := by decide +kernel
theorem f_109_11 : ftc (PT 109) 11 = some (11, .getfield 19, 3, 11, 1, 469) := by decide +kernel
theorem f_109_14 : ftc (PT 109) 14 = some (14, .iload_n 2, 1, 0, 0, 0) := by decide +kernel
theorem f_109_15 : ftc (PT 109) 15 = some (15, .invokevirtual 499, 3, 108, 4171, 749) := by decide +kernel
theorem f_109_18 : ftc (PT 109) 18 = some (18, .aload_n 0, 1, 0, 0, 0) := by decide +kernel
theorem f_109_19 : ftc (PT 109) 19 = some (19, .invokevirtual 519, 3, 99, 1035, 666) := by decide +kernel
theorem f_109_22 : ftc (PT 109) 22 = some (22, .aload_n 0, 1, 0, 0, 0) := by decide +kernel
theorem f_109_23 : ftc (PT 109) 23 = some (23, .getfield 97, 3, 11, 15, 483) := by decide +kernel
theorem f_109_26 : ftc (PT 109) 26 = some (26, .aload_n 0, 1, 0, 0, 0) := by decide +kernel
theorem f_109_27 : ftc (PT 109) 27 = some (27, .getfield 101, 3, 11, 16, 484) := by decide +kernel
theorem f_109_30 : ftc (PT 109) 30 = some (30, .invokevirtual 522, 3, 9, 3105, 685) := by decide +kernel
theorem f_109_33 : ftc (PT 109) 33 = some (33, .ifCond .ne 9, 3, 42, 0, 0) := by decide +kernel
theorem f_109_36 : ftc (PT 109) 36 = some (36, .iload_n 1, 1, 0, 0, 0) := by decide +kernel
theorem f_109_37 : ftc (PT 109) 37 = some (37, .iconst 1, 1, 0, 0, 0) := by decide +kernel
theorem f_109_38 : ftc (PT 109) 38 = some (38, .iload_n 2, 1, 0, 0, 0) := by decide +kernel
theorem f_109_39 : ftc (PT 109) 39 = some (39, .ishl, 1, 0, 0, 0) := by decide +kernel
theorem f_109_40 : ftc (PT 109) 40 = some (40, .ior, 1, 0, 0, 0) := by decide +kernel
theorem f_109_41 : ftc (PT 109) 41 = some (41, .istore_n 1, 1, 0, 0, 0) := by decide +kernel
theorem f_109_42 : ftc (PT 109) 42 = some (42, .iinc 2 1, 3, 0, 0, 0) := by decide +kernel
theorem f_109_45 : ftc (PT 109) 45 = some (45, .goto (-41), 3, 4, 0, 0) := by decide +kernel
theorem f_109_48 : ftc (PT 109) 48 = some (48, .iload_n 1, 1, 0, 0, 0) := by decide +kernel
theorem f_109_49 : ftc (PT 109) 49 = some (49, .ireturn, 1, 0, 0, 0) := by decide +kernel
theorem f_112_23 : ftc (PT 112) 23 = some (23, .aload_n 0, 1, 0, 0, 0) := by decide +kernel
theorem f_112_24 : ftc (PT 112) 24 = some (24, .getfield 19, 3, 11, 1, 469) := by decide +kernel
theorem f_112_27 : ftc (PT 112) 27 = some (27, .getfield 127, 3, 2, 3, 221) := by decide +kernel
theorem f_112_30 : ftc (PT 112) 30 = some (30, .iconst 4, 1, 0, 0, 0) := by decide +kernel
theorem f_112_31 : ftc (PT 112) 31 = some (31, .if_icmp .lt 11, 3, 42, 0, 0) := by decide +kernel
theorem f_112_34 : ftc (PT 112) 34 = some (34, .new 130, 3, 102, 6, 856) := by decide +kernel
theorem f_112_42 : ftc (PT 112) 42 = some (42, .aload_n 0, 1, 0, 0, 0) := by decide +kernel
theorem f_112_43 : ftc (PT 112) 43 = some (43, .getfield 19, 3, 11, 1, 469) := by decide +kernel
theorem f_112_46 : ftc (PT 112) 46 = some (46, .iload_n 1, 1, 0, 0, 0) := by decide +kernel
theorem f_112_47 : ftc (PT 112) 47 = some (47, .iload_n 2, 1, 0, 0, 0) := by decide +kernel
theorem f_112_48 : ftc (PT 112) 48 = some (48, .iload_n 3, 1, 0, 0, 0) := by decide +kernel
theorem f_112_49 : ftc (PT 112) 49 = some (49, .invokevirtual 133, 3, 19, 4194, 871) := by decide +kernel
theorem f_112_52 : ftc (PT 112) 52 = some (52, .aload_n 0, 1, 0, 0, 0) := by decide +kernel
theorem f_112_53 : ftc (PT 112) 53 = some (53, .getfield 19, 3, 11, 1, 469) := by decide +kernel
theorem f_112_56 : ftc (PT 112) 56 = some (56, .getfield 127, 3, 2, 3, 221) := by decide +kernel
theorem f_112_59 : ftc (PT 112) 59 = some (59, .iconst 1, 1, 0, 0, 0) := by decide +kernel
theorem f_112_60 : ftc (PT 112) 60 = some (60, .isub, 1, 0, 0, 0) := by decide +kernel
theorem f_112_61 : ftc (PT 112) 61 = some (61, .ireturn, 1, 0, 0, 0) := by decide +kernel
theorem f_113_0 : ftc (PT 113) 0 = some (0, .iload_n 1, 1, 0, 0, 0) := by decide +kernel
theorem f_113_1 : ftc (PT 113) 1 = some (1, .i2l, 1, 0, 0, 0) := by decide +kernel
theorem f_113_2 : ftc (PT 113) 2 = some (2, .iload_n 2, 1, 0, 0, 0) := by decide +kernel
theorem f_113_3 : ftc (PT 113) 3 = some (3, .i2l, 1, 0, 0, 0) := by decide +kernel
theorem f_113_4 : ftc (PT 113) 4 = some (4, .invokestatic 297, 3, 114, 4098, 850) := by decide +kernel
theorem f_113_7 : ftc (PT 113) 7 = some (7, .ifCond .ne 11, 3, 18, 0, 0) := by decide +kernel
theorem f_113_10 : ftc (PT 113) 10 = some (10, .new 116, 3, 101, 6, 773) := by decide +kernel
theorem f_113_18 : ftc (PT 113) 18 = some (18, .return_, 1, 0, 0, 0) := by decide +kernel
theorem f_114_0 : ftc (PT 114) 0 = some (0, .lload_n 0, 1, 0, 0, 0) := by decide +kernel
theorem f_114_1 : ftc (PT 114) 1 = some (1, .ldc2_w 461, 3, 853, 0, (-12)) := by decide +kernel
theorem f_114_4 : ftc (PT 114) 4 = some (4, .lcmp, 1, 0, 0, 0) := by decide +kernel
theorem f_114_5 : ftc (PT 114) 5 = some (5, .ifCond .lt 25, 3, 30, 0, 0) := by decide +kernel
theorem f_114_8 : ftc (PT 114) 8 = some (8, .lload_n 0, 1, 0, 0, 0) := by decide +kernel
theorem f_114_9 : ftc (PT 114) 9 = some (9, .ldc2_w 463, 3, 854, 0, 12) := by decide +kernel
theorem f_114_12 : ftc (PT 114) 12 = some (12, .lcmp, 1, 0, 0, 0) := by decide +kernel
theorem f_114_13 : ftc (PT 114) 13 = some (13, .ifCond .gt 17, 3, 30, 0, 0) := by decide +kernel
theorem f_114_16 : ftc (PT 114) 16 = some (16, .lload_n 2, 1, 0, 0, 0) := by decide +kernel
theorem f_114_17 : ftc (PT 114) 17 = some (17, .lconst 0, 1, 0, 0, 0) := by decide +kernel
theorem f_114_18 : ftc (PT 114) 18 = some (18, .lcmp, 1, 0, 0, 0) := by decide +kernel
theorem f_114_19 : ftc (PT 114) 19 = some (19, .ifCond .lt 11, 3, 30, 0, 0) := by decide +kernel
theorem f_114_22 : ftc (PT 114) 22 = some (22, .lload_n 2, 1, 0, 0, 0) := by decide +kernel
theorem f_114_23 : ftc (PT 114) 23 = some (23, .ldc2_w 463, 3, 854, 0, 12) := by decide +kernel
theorem f_114_26 : ftc (PT 114) 26 = some (26, .lcmp, 1, 0, 0, 0) := by decide +kernel
theorem f_114_27 : ftc (PT 114) 27 = some (27, .ifCond .le 5, 3, 32, 0, 0) := by decide +kernel
theorem f_114_30 : ftc (PT 114) 30 = some (30, .iconst 0, 1, 0, 0, 0) := by decide +kernel
theorem f_114_31 : ftc (PT 114) 31 = some (31, .ireturn, 1, 1, 0, 0) := by decide +kernel
theorem f_114_32 : ftc (PT 114) 32 = some (32, .lload_n 0, 1, 0, 0, 0) := by decide +kernel
theorem f_114_33 : ftc (PT 114) 33 = some (33, .lload_n 2, 1, 0, 0, 0) := by decide +kernel
theorem f_114_34 : ftc (PT 114) 34 = some (34, .invokestatic 465, 3, 26, 11266, 855) := by decide +kernel
theorem f_114_37 : ftc (PT 114) 37 = some (37, .lconst 1, 1, 0, 0, 0) := by decide +kernel
theorem f_114_38 : ftc (PT 114) 38 = some (38, .lcmp, 1, 0, 0, 0) := by decide +kernel
theorem f_114_39 : ftc (PT 114) 39 = some (39, .ifCond .ne 19, 3, 58, 0, 0) := by decide +kernel
theorem f_114_42 : ftc (PT 114) 42 = some (42, .lload_n 2, 1, 0, 0, 0) := by decide +kernel
theorem f_114_43 : ftc (PT 114) 43 = some (43, .lconst 0, 1, 0, 0, 0) := by decide +kernel
theorem f_114_44 : ftc (PT 114) 44 = some (44, .lcmp, 1, 0, 0, 0) := by decide +kernel
theorem f_114_45 : ftc (PT 114) 45 = some (45, .ifCond .gt 9, 3, 54, 0, 0) := by decide +kernel
theorem f_114_48 : ftc (PT 114) 48 = some (48, .lload_n 0, 1, 0, 0, 0) := by decide +kernel
theorem f_114_49 : ftc (PT 114) 49 = some (49, .lconst 0, 1, 0, 0, 0) := by decide +kernel
theorem f_114_50 : ftc (PT 114) 50 = some (50, .lcmp, 1, 0, 0, 0) := by decide +kernel
theorem f_114_51 : ftc (PT 114) 51 = some (51, .ifCond .le 7, 3, 58, 0, 0) := by decide +kernel
theorem f_114_54 : ftc (PT 114) 54 = some (54, .iconst 1, 1, 0, 0, 0) := by decide +kernel
theorem f_114_55 : ftc (PT 114) 55 = some (55, .goto 4, 3, 59, 0, 0) := by decide +kernel
theorem f_114_58 : ftc (PT 114) 58 = some (58, .iconst 0, 1, 0, 0, 0) := by decide +kernel
theorem f_114_59 : ftc (PT 114) 59 = some (59, .ireturn, 1, 1, 0, 0) := by decide +kernel
theorem f_116_11 : ftc (PT 116) 11 = some (11, .aload_n 0, 1, 0, 0, 0) := by decide +kernel
theorem f_116_12 : ftc (PT 116) 12 = some (12, .getfield 19, 3, 11, 1, 469) := by decide +kernel
theorem f_116_15 : ftc (PT 116) 15 = some (15, .iload_n 1, 1, 0, 0, 0) := by decide +kernel
theorem f_116_16 : ftc (PT 116) 16 = some (16, .iload_n 2, 1, 0, 0, 0) := by decide +kernel
theorem f_116_17 : ftc (PT 116) 17 = some (17, .iload_n 3, 1, 0, 0, 0) := by decide +kernel
theorem f_116_18 : ftc (PT 116) 18 = some (18, .invokevirtual 140, 3, 20, 4194, 909) := by decide +kernel
theorem f_116_21 : ftc (PT 116) 21 = some (21, .return_, 1, 0, 0, 0) := by decide +kernel
theorem f_119_23 : ftc (PT 119) 23 = some (23, .ireturn, 1, 0, 0, 0) := by decide +kernel
theorem f_119_37 : ftc (PT 119) 37 = some (37, .goto 11, 3, 48, 0, 0) := by decide +kernel
theorem f_119_48 : ftc (PT 119) 48 = some (48, .ireturn, 1, 0, 0, 0) := by decide +kernel
theorem f_121_17 : ftc (PT 121) 17 = some (17, .aload_n 0, 1, 0, 0, 0) := by decide +kernel
theorem f_121_18 : ftc (PT 121) 18 = some (18, .getfield 42, 3, 11, 6, 474) := by decide +kernel
theorem f_121_21 : ftc (PT 121) 21 = some (21, .invokevirtual 200, 3, 80, 1034, 958) := by decide +kernel
theorem f_121_24 : ftc (PT 121) 24 = some (24, .ifCond .eq 11, 3, 35, 0, 0) := by decide +kernel
theorem f_121_27 : ftc (PT 121) 27 = some (27, .new 130, 3, 102, 6, 856) := by decide +kernel
theorem f_121_35 : ftc (PT 121) 35 = some (35, .aload_n 0, 1, 0, 0, 0) := by decide +kernel
theorem f_121_36 : ftc (PT 121) 36 = some (36, .getfield 62, 3, 11, 10, 478) := by decide +kernel
theorem f_121_39 : ftc (PT 121) 39 = some (39, .iload_n 2, 1, 0, 0, 0) := by decide +kernel
theorem f_121_40 : ftc (PT 121) 40 = some (40, .ifCond .eq 13, 3, 53, 0, 0) := by decide +kernel
theorem f_121_43 : ftc (PT 121) 43 = some (43, .aload_n 0, 1, 0, 0, 0) := by decide +kernel
theorem f_121_44 : ftc (PT 121) 44 = some (44, .getfield 42, 3, 11, 6, 474) := by decide +kernel
theorem f_121_47 : ftc (PT 121) 47 = some (47, .invokevirtual 204, 3, 81, 1034, 962) := by decide +kernel
theorem f_121_50 : ftc (PT 121) 50 = some (50, .goto 10, 3, 60, 0, 0) := by decide +kernel
theorem f_121_53 : ftc (PT 121) 53 = some (53, .aload_n 0, 1, 0, 0, 0) := by decide +kernel
theorem f_121_54 : ftc (PT 121) 54 = some (54, .getfield 42, 3, 11, 6, 474) := by decide +kernel
theorem f_121_57 : ftc (PT 121) 57 = some (57, .invokevirtual 208, 3, 82, 1034, 966) := by decide +kernel
theorem f_121_60 : ftc (PT 121) 60 = some (60, .aload_n 0, 1, 0, 0, 0) := by decide +kernel
theorem f_121_61 : ftc (PT 121) 61 = some (61, .getfield 42, 3, 11, 6, 474) := by decide +kernel
theorem f_121_64 : ftc (PT 121) 64 = some (64, .invokevirtual 211, 3, 83, 1034, 970) := by decide +kernel
theorem f_121_67 : ftc (PT 121) 67 = some (67, .invokevirtual 214, 3, 25, 9283, 652) := by decide +kernel
theorem f_121_70 : ftc (PT 121) 70 = some (70, .aload_n 0, 1, 0, 0, 0) := by decide +kernel
theorem f_121_71 : ftc (PT 121) 71 = some (71, .getfield 62, 3, 11, 10, 478) := by decide +kernel
theorem f_121_74 : ftc (PT 121) 74 = some (74, .iload_n 3, 1, 0, 0, 0) := by decide +kernel
theorem f_121_75 : ftc (PT 121) 75 = some (75, .invokevirtual 218, 3, 31, 2083, 974) := by decide +kernel
theorem f_121_78 : ftc (PT 121) 78 = some (78, .lreturn, 1, 0, 0, 0) := by decide +kernel
theorem f_123_17 : ftc (PT 123) 17 = some (17, .aload_n 0, 1, 0, 0, 0) := by decide +kernel
theorem f_123_18 : ftc (PT 123) 18 = some (18, .getfield 42, 3, 11, 6, 474) := by decide +kernel
theorem f_123_21 : ftc (PT 123) 21 = some (21, .invokevirtual 200, 3, 80, 1034, 958) := by decide +kernel
theorem f_123_24 : ftc (PT 123) 24 = some (24, .ireturn, 1, 1, 0, 0) := by decide +kernel
theorem f_124_17 : ftc (PT 124) 17 = some (17, .aload_n 0, 1, 0, 0, 0) := by decide +kernel
theorem f_124_18 : ftc (PT 124) 18 = some (18, .getfield 62, 3, 11, 10, 478) := by decide +kernel
theorem f_124_21 : ftc (PT 124) 21 = some (21, .aload_n 0, 1, 0, 0, 0) := by decide +kernel
theorem f_124_22 : ftc (PT 124) 22 = some (22, .getfield 42, 3, 11, 6, 474) := by decide +kernel
theorem f_124_25 : ftc (PT 124) 25 = some (25, .invokevirtual 222, 3, 78, 5130, 577) := by decide +kernel
theorem f_124_28 : ftc (PT 124) 28 = some (28, .aload_n 0, 1, 0, 0, 0) := by decide +kernel
theorem f_124_29 : ftc (PT 124) 29 = some (29, .getfield 42, 3, 11, 6, 474) := by decide +kernel
theorem f_124_32 : ftc (PT 124) 32 = some (32, .invokevirtual 225, 3, 79, 5130, 581) := by decide +kernel
theorem f_124_35 : ftc (PT 124) 35 = some (35, .invokevirtual 214, 3, 25, 9283, 652) := by decide +kernel
theorem f_124_38 : ftc (PT 124) 38 = some (38, .aload_n 0, 1, 0, 0, 0) := by decide +kernel
theorem f_124_39 : ftc (PT 124) 39 = some (39, .getfield 62, 3, 11, 10, 478) := by decide +kernel
theorem f_124_42 : ftc (PT 124) 42 = some (42, .iload_n 2, 1, 0, 0, 0) := by decide +kernel
theorem f_124_43 : ftc (PT 124) 43 = some (43, .invokevirtual 218, 3, 31, 2083, 974) := by decide +kernel
theorem f_124_46 : ftc (PT 124) 46 = some (46, .lreturn, 1, 0, 0, 0) := by decide +kernel
theorem f_125_16 : ftc (PT 125) 16 = some (16, .aload_n 0, 1, 0, 0, 0) := by decide +kernel
theorem f_125_17 : ftc (PT 125) 17 = some (17, .invokevirtual 236, 3, 128, 4107, 1007) := by decide +kernel
theorem f_125_20 : ftc (PT 125) 20 = some (20, .ireturn, 1, 0, 0, 0) := by decide +kernel
theorem f_127_10 : ftc (PT 127) 10 = some (10, .goto 9, 3, 19, 0, 0) := by decide +kernel
theorem f_127_19 : ftc (PT 127) 19 = some (19, .return_, 1, 0, 0, 0) := by decide +kernel
theorem f_128_0 : ftc (PT 128) 0 = some (0, .aload_n 0, 1, 0, 0, 0) := by decide +kernel
theorem f_128_1 : ftc (PT 128) 1 = some (1, .invokevirtual 519, 3, 99, 1035, 666) := by decide +kernel
theorem f_128_4 : ftc (PT 128) 4 = some (4, .iconst 0, 1, 0, 0, 0) := by decide +kernel
theorem f_128_5 : ftc (PT 128) 5 = some (5, .istore_n 1, 1, 0, 0, 0) := by decide +kernel
theorem f_128_6 : ftc (PT 128) 6 = some (6, .iconst 0, 1, 0, 0, 0) := by decide +kernel
theorem f_128_7 : ftc (PT 128) 7 = some (7, .istore_n 2, 1, 0, 0, 0) := by decide +kernel
theorem f_128_8 : ftc (PT 128) 8 = some (8, .iload_n 2, 1, 0, 0, 0) := by decide +kernel
theorem f_128_9 : ftc (PT 128) 9 = some (9, .iconst 5, 1, 0, 0, 0) := by decide +kernel
theorem f_128_10 : ftc (PT 128) 10 = some (10, .if_icmp .ge 65, 3, 75, 0, 0) := by decide +kernel
theorem f_128_13 : ftc (PT 128) 13 = some (13, .iload_n 1, 1, 0, 0, 0) := by decide +kernel
theorem f_128_14 : ftc (PT 128) 14 = some (14, .bipush 10, 2, 0, 0, 0) := by decide +kernel
theorem f_128_16 : ftc (PT 128) 16 = some (16, .imul, 1, 0, 0, 0) := by decide +kernel
theorem f_128_17 : ftc (PT 128) 17 = some (17, .istore_n 1, 1, 0, 0, 0) := by decide +kernel
theorem f_128_18 : ftc (PT 128) 18 = some (18, .iconst 0, 1, 0, 0, 0) := by decide +kernel
theorem f_128_19 : ftc (PT 128) 19 = some (19, .istore_n 3, 1, 0, 0, 0) := by decide +kernel
theorem f_128_20 : ftc (PT 128) 20 = some (20, .iload_n 3, 1, 0, 0, 0) := by decide +kernel
theorem f_128_21 : ftc (PT 128) 21 = some (21, .bipush 10, 2, 0, 0, 0) := by decide +kernel
theorem f_128_23 : ftc (PT 128) 23 = some (23, .if_icmp .ge 37, 3, 60, 0, 0) := by decide +kernel
theorem f_128_26 : ftc (PT 128) 26 = some (26, .aload_n 0, 1, 0, 0, 0) := by decide +kernel
theorem f_128_27 : ftc (PT 128) 27 = some (27, .getfield 97, 3, 11, 15, 483) := by decide +kernel
theorem f_128_30 : ftc (PT 128) 30 = some (30, .aload_n 0, 1, 0, 0, 0) := by decide +kernel
theorem f_128_31 : ftc (PT 128) 31 = some (31, .getfield 101, 3, 11, 16, 484) := by decide +kernel
theorem f_128_34 : ftc (PT 128) 34 = some (34, .invokevirtual 522, 3, 9, 3105, 685) := by decide +kernel
theorem f_128_37 : ftc (PT 128) 37 = some (37, .ifCond .lt 23, 3, 60, 0, 0) := by decide +kernel
theorem f_128_40 : ftc (PT 128) 40 = some (40, .aload_n 0, 1, 0, 0, 0) := by decide +kernel
theorem f_128_41 : ftc (PT 128) 41 = some (41, .getfield 97, 3, 11, 15, 483) := by decide +kernel
theorem f_128_44 : ftc (PT 128) 44 = some (44, .aload_n 0, 1, 0, 0, 0) := by decide +kernel
theorem f_128_45 : ftc (PT 128) 45 = some (45, .getfield 101, 3, 11, 16, 484) := by decide +kernel
theorem f_128_48 : ftc (PT 128) 48 = some (48, .invokevirtual 526, 3, 10, 3105, 1011) := by decide +kernel
theorem f_128_51 : ftc (PT 128) 51 = some (51, .iinc 1 1, 3, 0, 0, 0) := by decide +kernel
theorem f_128_54 : ftc (PT 128) 54 = some (54, .iinc 3 1, 3, 0, 0, 0) := by decide +kernel
theorem f_128_57 : ftc (PT 128) 57 = some (57, .goto (-37), 3, 20, 0, 0) := by decide +kernel
theorem f_128_60 : ftc (PT 128) 60 = some (60, .aload_n 0, 1, 0, 0, 0) := by decide +kernel
theorem f_128_61 : ftc (PT 128) 61 = some (61, .getfield 97, 3, 11, 15, 483) := by decide +kernel
theorem f_128_64 : ftc (PT 128) 64 = some (64, .bipush 10, 2, 0, 0, 0) := by decide +kernel
theorem f_128_66 : ftc (PT 128) 66 = some (66, .invokevirtual 530, 3, 8, 3105, 681) := by decide +kernel
theorem f_128_69 : ftc (PT 128) 69 = some (69, .iinc 2 1, 3, 0, 0, 0) := by decide +kernel
theorem f_128_72 : ftc (PT 128) 72 = some (72, .goto (-64), 3, 8, 0, 0) := by decide +kernel
theorem f_128_75 : ftc (PT 128) 75 = some (75, .iload_n 1, 1, 0, 0, 0) := by decide +kernel
theorem f_128_76 : ftc (PT 128) 76 = some (76, .ireturn, 1, 0, 0, 0) := by decide +kernel
theorem f_129_16 : ftc (PT 129) 16 = some (16, .aload_n 0, 1, 0, 0, 0) := by decide +kernel
theorem f_129_17 : ftc (PT 129) 17 = some (17, .invokevirtual 240, 3, 98, 1035, 662) := by decide +kernel
theorem f_129_20 : ftc (PT 129) 20 = some (20, .ireturn, 1, 1, 0, 0) := by decide +kernel
theorem f_130_6 : ftc (PT 130) 6 = some (6, .iload_n 1, 1, 0, 0, 0) := by decide +kernel
theorem f_130_7 : ftc (PT 130) 7 = some (7, .i2l, 1, 0, 0, 0) := by decide +kernel
theorem f_130_8 : ftc (PT 130) 8 = some (8, .iload_n 1, 1, 0, 0, 0) := by decide +kernel
theorem f_130_9 : ftc (PT 130) 9 = some (9, .i2l, 1, 0, 0, 0) := by decide +kernel
theorem f_130_10 : ftc (PT 130) 10 = some (10, .lmul, 1, 0, 0, 0) := by decide +kernel
theorem f_130_11 : ftc (PT 130) 11 = some (11, .iload_n 2, 1, 0, 0, 0) := by decide +kernel
theorem f_130_12 : ftc (PT 130) 12 = some (12, .i2l, 1, 0, 0, 0) := by decide +kernel
theorem f_130_13 : ftc (PT 130) 13 = some (13, .iload_n 2, 1, 0, 0, 0) := by decide +kernel
theorem f_130_14 : ftc (PT 130) 14 = some (14, .i2l, 1, 0, 0, 0) := by decide +kernel
theorem f_130_15 : ftc (PT 130) 15 = some (15, .lmul, 1, 0, 0, 0) := by decide +kernel
theorem f_130_16 : ftc (PT 130) 16 = some (16, .ladd, 1, 0, 0, 0) := by decide +kernel
theorem f_130_17 : ftc (PT 130) 17 = some (17, .lstore 4, 2, 0, 0, 0) := by decide +kernel
theorem f_130_19 : ftc (PT 130) 19 = some (19, .lload 4, 2, 0, 0, 0) := by decide +kernel
theorem f_130_21 : ftc (PT 130) 21 = some (21, .invokestatic 243, 3, 32, 7169, 1029) := by decide +kernel
theorem f_130_24 : ftc (PT 130) 24 = some (24, .lstore 6, 2, 0, 0, 0) := by decide +kernel
theorem f_130_26 : ftc (PT 130) 26 = some (26, .lload 6, 2, 0, 0, 0) := by decide +kernel
theorem f_130_28 : ftc (PT 130) 28 = some (28, .lload 6, 2, 0, 0, 0) := by decide +kernel
theorem f_130_30 : ftc (PT 130) 30 = some (30, .lmul, 1, 0, 0, 0) := by decide +kernel
theorem f_130_31 : ftc (PT 130) 31 = some (31, .lload 4, 2, 0, 0, 0) := by decide +kernel
theorem f_130_33 : ftc (PT 130) 33 = some (33, .lcmp, 1, 0, 0, 0) := by decide +kernel
theorem f_130_34 : ftc (PT 130) 34 = some (34, .ifCond .eq 15, 3, 49, 0, 0) := by decide +kernel
theorem f_130_37 : ftc (PT 130) 37 = some (37, .iload_n 1, 1, 0, 0, 0) := by decide +kernel
theorem f_130_38 : ftc (PT 130) 38 = some (38, .ifCond .eq 11, 3, 49, 0, 0) := by decide +kernel
theorem f_130_41 : ftc (PT 130) 41 = some (41, .new 130, 3, 102, 6, 856) := by decide +kernel
theorem f_130_49 : ftc (PT 130) 49 = some (49, .iload_n 1, 1, 0, 0, 0) := by decide +kernel
theorem f_130_50 : ftc (PT 130) 50 = some (50, .ifCond .ne 15, 3, 65, 0, 0) := by decide +kernel
theorem f_130_53 : ftc (PT 130) 53 = some (53, .aload_n 0, 1, 0, 0, 0) := by decide +kernel
theorem f_130_54 : ftc (PT 130) 54 = some (54, .getfield 62, 3, 11, 10, 478) := by decide +kernel
theorem f_130_57 : ftc (PT 130) 57 = some (57, .lconst 0, 1, 0, 0, 0) := by decide +kernel
theorem f_130_58 : ftc (PT 130) 58 = some (58, .lconst 1, 1, 0, 0, 0) := by decide +kernel
theorem f_130_59 : ftc (PT 130) 59 = some (59, .invokevirtual 214, 3, 25, 9283, 652) := by decide +kernel
theorem f_130_62 : ftc (PT 130) 62 = some (62, .goto 39, 3, 101, 0, 0) := by decide +kernel
theorem f_130_65 : ftc (PT 130) 65 = some (65, .iload_n 1, 1, 0, 0, 0) := by decide +kernel
theorem f_130_66 : ftc (PT 130) 66 = some (66, .ifCond .le 20, 3, 86, 0, 0) := by decide +kernel
theorem f_130_69 : ftc (PT 130) 69 = some (69, .aload_n 0, 1, 0, 0, 0) := by decide +kernel
theorem f_130_70 : ftc (PT 130) 70 = some (70, .getfield 62, 3, 11, 10, 478) := by decide +kernel
theorem f_130_73 : ftc (PT 130) 73 = some (73, .lload 6, 2, 0, 0, 0) := by decide +kernel
theorem f_130_75 : ftc (PT 130) 75 = some (75, .iload_n 2, 1, 0, 0, 0) := by decide +kernel
theorem f_130_76 : ftc (PT 130) 76 = some (76, .i2l, 1, 0, 0, 0) := by decide +kernel
theorem f_130_77 : ftc (PT 130) 77 = some (77, .lsub, 1, 0, 0, 0) := by decide +kernel
theorem f_130_78 : ftc (PT 130) 78 = some (78, .iload_n 1, 1, 0, 0, 0) := by decide +kernel
theorem f_130_79 : ftc (PT 130) 79 = some (79, .i2l, 1, 0, 0, 0) := by decide +kernel
theorem f_130_80 : ftc (PT 130) 80 = some (80, .invokevirtual 214, 3, 25, 9283, 652) := by decide +kernel
theorem f_130_83 : ftc (PT 130) 83 = some (83, .goto 18, 3, 101, 0, 0) := by decide +kernel
theorem f_130_86 : ftc (PT 130) 86 = some (86, .aload_n 0, 1, 0, 0, 0) := by decide +kernel
theorem f_130_87 : ftc (PT 130) 87 = some (87, .getfield 62, 3, 11, 10, 478) := by decide +kernel
theorem f_130_90 : ftc (PT 130) 90 = some (90, .lload 6, 2, 0, 0, 0) := by decide +kernel
theorem f_130_92 : ftc (PT 130) 92 = some (92, .iload_n 2, 1, 0, 0, 0) := by decide +kernel
theorem f_130_93 : ftc (PT 130) 93 = some (93, .i2l, 1, 0, 0, 0) := by decide +kernel
theorem f_130_94 : ftc (PT 130) 94 = some (94, .ladd, 1, 0, 0, 0) := by decide +kernel
theorem f_130_95 : ftc (PT 130) 95 = some (95, .iload_n 1, 1, 0, 0, 0) := by decide +kernel
theorem f_130_96 : ftc (PT 130) 96 = some (96, .ineg, 1, 0, 0, 0) := by decide +kernel
theorem f_130_97 : ftc (PT 130) 97 = some (97, .i2l, 1, 0, 0, 0) := by decide +kernel
theorem f_130_98 : ftc (PT 130) 98 = some (98, .invokevirtual 214, 3, 25, 9283, 652) := by decide +kernel
theorem f_130_101 : ftc (PT 130) 101 = some (101, .aload_n 0, 1, 0, 0, 0) := by decide +kernel
theorem f_130_102 : ftc (PT 130) 102 = some (102, .getfield 62, 3, 11, 10, 478) := by decide +kernel
theorem f_130_105 : ftc (PT 130) 105 = some (105, .iload_n 3, 1, 0, 0, 0) := by decide +kernel
theorem f_130_106 : ftc (PT 130) 106 = some (106, .invokevirtual 218, 3, 31, 2083, 974) := by decide +kernel
theorem f_130_109 : ftc (PT 130) 109 = some (109, .l2i, 1, 0, 0, 0) := by decide +kernel
theorem f_130_110 : ftc (PT 130) 110 = some (110, .ireturn, 1, 0, 0, 0) := by decide +kernel
theorem f_131_6 : ftc (PT 131) 6 = some (6, .iload_n 3, 1, 0, 0, 0) := by decide +kernel
theorem f_131_7 : ftc (PT 131) 7 = some (7, .iconst 1, 1, 0, 0, 0) := by decide +kernel
theorem f_131_8 : ftc (PT 131) 8 = some (8, .if_icmp .lt 8, 3, 16, 0, 0) := by decide +kernel
theorem f_131_11 : ftc (PT 131) 11 = some (11, .iload_n 3, 1, 0, 0, 0) := by decide +kernel
theorem f_131_12 : ftc (PT 131) 12 = some (12, .iconst 4, 1, 0, 0, 0) := by decide +kernel
theorem f_131_13 : ftc (PT 131) 13 = some (13, .if_icmp .le 11, 3, 24, 0, 0) := by decide +kernel
theorem f_131_16 : ftc (PT 131) 16 = some (16, .new 116, 3, 101, 6, 773) := by decide +kernel
theorem f_131_24 : ftc (PT 131) 24 = some (24, .aload_n 0, 1, 0, 0, 0) := by decide +kernel
theorem f_131_25 : ftc (PT 131) 25 = some (25, .getfield 62, 3, 11, 10, 478) := by decide +kernel
theorem f_131_28 : ftc (PT 131) 28 = some (28, .iload_n 1, 1, 0, 0, 0) := by decide +kernel
theorem f_131_29 : ftc (PT 131) 29 = some (29, .i2l, 1, 0, 0, 0) := by decide +kernel
theorem f_131_30 : ftc (PT 131) 30 = some (30, .iload_n 2, 1, 0, 0, 0) := by decide +kernel
theorem f_131_31 : ftc (PT 131) 31 = some (31, .i2l, 1, 0, 0, 0) := by decide +kernel
theorem f_131_32 : ftc (PT 131) 32 = some (32, .iload_n 3, 1, 0, 0, 0) := by decide +kernel
theorem f_131_33 : ftc (PT 131) 33 = some (33, .invokevirtual 247, 3, 30, 7267, 753) := by decide +kernel
theorem f_131_36 : ftc (PT 131) 36 = some (36, .aload_n 0, 1, 0, 0, 0) := by decide +kernel
theorem f_131_37 : ftc (PT 131) 37 = some (37, .getfield 62, 3, 11, 10, 478) := by decide +kernel
theorem f_131_40 : ftc (PT 131) 40 = some (40, .iload 4, 2, 0, 0, 0) := by decide +kernel
theorem f_131_42 : ftc (PT 131) 42 = some (42, .invokevirtual 218, 3, 31, 2083, 974) := by decide +kernel
theorem f_131_45 : ftc (PT 131) 45 = some (45, .l2i, 1, 0, 0, 0) := by decide +kernel
theorem f_131_46 : ftc (PT 131) 46 = some (46, .ireturn, 1, 0, 0, 0) := by decide +kernel
theorem f_132_6 : ftc (PT 132) 6 = some (6, .aload_n 0, 1, 0, 0, 0) := by decide +kernel
theorem f_132_7 : ftc (PT 132) 7 = some (7, .iload_n 3, 1, 0, 0, 0) := by decide +kernel
theorem f_132_8 : ftc (PT 132) 8 = some (8, .iload 4, 2, 0, 0, 0) := by decide +kernel
theorem f_132_10 : ftc (PT 132) 10 = some (10, .invokevirtual 123, 3, 113, 3147, 846) := by decide +kernel
theorem f_132_13 : ftc (PT 132) 13 = some (13, .aload_n 0, 1, 0, 0, 0) := by decide +kernel
theorem f_132_14 : ftc (PT 132) 14 = some (14, .getfield 62, 3, 11, 10, 478) := by decide +kernel
theorem f_132_17 : ftc (PT 132) 17 = some (17, .iload_n 1, 1, 0, 0, 0) := by decide +kernel
theorem f_132_18 : ftc (PT 132) 18 = some (18, .i2l, 1, 0, 0, 0) := by decide +kernel
theorem f_132_19 : ftc (PT 132) 19 = some (19, .iload_n 2, 1, 0, 0, 0) := by decide +kernel
theorem f_132_20 : ftc (PT 132) 20 = some (20, .i2l, 1, 0, 0, 0) := by decide +kernel
theorem f_132_21 : ftc (PT 132) 21 = some (21, .invokevirtual 214, 3, 25, 9283, 652) := by decide +kernel
theorem f_132_24 : ftc (PT 132) 24 = some (24, .aload_n 0, 1, 0, 0, 0) := by decide +kernel
theorem f_132_25 : ftc (PT 132) 25 = some (25, .getfield 62, 3, 11, 10, 478) := by decide +kernel
theorem f_132_28 : ftc (PT 132) 28 = some (28, .iload_n 3, 1, 0, 0, 0) := by decide +kernel
theorem f_132_29 : ftc (PT 132) 29 = some (29, .i2l, 1, 0, 0, 0) := by decide +kernel
theorem f_132_30 : ftc (PT 132) 30 = some (30, .iload 4, 2, 0, 0, 0) := by decide +kernel
theorem f_132_32 : ftc (PT 132) 32 = some (32, .i2l, 1, 0, 0, 0) := by decide +kernel
theorem f_132_33 : ftc (PT 132) 33 = some (33, .invokevirtual 251, 3, 27, 5187, 1046) := by decide +kernel
theorem f_132_36 : ftc (PT 132) 36 = some (36, .aload_n 0, 1, 0, 0, 0) := by decide +kernel
theorem f_132_37 : ftc (PT 132) 37 = some (37, .getfield 62, 3, 11, 10, 478) := by decide +kernel
theorem f_132_40 : ftc (PT 132) 40 = some (40, .iload 5, 2, 0, 0, 0) := by decide +kernel
theorem f_132_42 : ftc (PT 132) 42 = some (42, .invokevirtual 218, 3, 31, 2083, 974) := by decide +kernel
theorem f_132_45 : ftc (PT 132) 45 = some (45, .l2i, 1, 0, 0, 0) := by decide +kernel
theorem f_132_46 : ftc (PT 132) 46 = some (46, .ireturn, 1, 0, 0, 0) := by decide +kernel
theorem f_133_6 : ftc (PT 133) 6 = some (6, .aload_n 0, 1, 0, 0, 0) := by decide +kernel
theorem f_133_7 : ftc (PT 133) 7 = some (7, .iload_n 3, 1, 0, 0, 0) := by decide +kernel
theorem f_133_8 : ftc (PT 133) 8 = some (8, .iload 4, 2, 0, 0, 0) := by decide +kernel
theorem f_133_10 : ftc (PT 133) 10 = some (10, .invokevirtual 123, 3, 113, 3147, 846) := by decide +kernel
theorem f_133_13 : ftc (PT 133) 13 = some (13, .iload_n 1, 1, 0, 0, 0) := by decide +kernel
theorem f_133_14 : ftc (PT 133) 14 = some (14, .i2l, 1, 0, 0, 0) := by decide +kernel
theorem f_133_15 : ftc (PT 133) 15 = some (15, .iload_n 2, 1, 0, 0, 0) := by decide +kernel
theorem f_133_16 : ftc (PT 133) 16 = some (16, .i2l, 1, 0, 0, 0) := by decide +kernel
theorem f_133_17 : ftc (PT 133) 17 = some (17, .iload_n 3, 1, 0, 0, 0) := by decide +kernel
theorem f_133_18 : ftc (PT 133) 18 = some (18, .i2l, 1, 0, 0, 0) := by decide +kernel
theorem f_133_19 : ftc (PT 133) 19 = some (19, .iload 4, 2, 0, 0, 0) := by decide +kernel
theorem f_133_21 : ftc (PT 133) 21 = some (21, .i2l, 1, 0, 0, 0) := by decide +kernel
theorem f_133_22 : ftc (PT 133) 22 = some (22, .invokestatic 254, 3, 28, 10244, 1054) := by decide +kernel
theorem f_133_25 : ftc (PT 133) 25 = some (25, .ireturn, 1, 0, 0, 0) := by decide +kernel
theorem f_134_6 : ftc (PT 134) 6 = some (6, .aload_n 0, 1, 0, 0, 0) := by decide +kernel
theorem f_134_7 : ftc (PT 134) 7 = some (7, .getfield 69, 3, 11, 11, 479) := by decide +kernel
theorem f_134_10 : ftc (PT 134) 10 = some (10, .getfield 261, 3, 5, 0, 314) := by decide +kernel
theorem f_134_13 : ftc (PT 134) 13 = some (13, .ireturn, 1, 0, 0, 0) := by decide +kernel
theorem f_135_10 : ftc (PT 135) 10 = some (10, .aload_n 0, 1, 0, 0, 0) := by decide +kernel
theorem f_135_11 : ftc (PT 135) 11 = some (11, .getfield 69, 3, 11, 11, 479) := by decide +kernel
theorem f_135_14 : ftc (PT 135) 14 = some (14, .aload_n 0, 1, 0, 0, 0) := by decide +kernel
theorem f_135_15 : ftc (PT 135) 15 = some (15, .getfield 55, 3, 11, 9, 477) := by decide +kernel
theorem f_135_18 : ftc (PT 135) 18 = some (18, .iload_n 2, 1, 0, 0, 0) := by decide +kernel
theorem f_135_19 : ftc (PT 135) 19 = some (19, .invokevirtual 484, 3, 39, 3141, 1084) := by decide +kernel
theorem f_135_22 : ftc (PT 135) 22 = some (22, .return_, 1, 0, 0, 0) := by decide +kernel
theorem f_136_0 : ftc (PT 136) 0 = some (0, .aload_n 0, 1, 0, 0, 0) := by decide +kernel
theorem f_136_1 : ftc (PT 136) 1 = some (1, .getfield 19, 3, 11, 1, 469) := by decide +kernel
theorem f_136_4 : ftc (PT 136) 4 = some (4, .iload_n 1, 1, 0, 0, 0) := by decide +kernel
theorem f_136_5 : ftc (PT 136) 5 = some (5, .aload_n 0, 1, 0, 0, 0) := by decide +kernel
theorem f_136_6 : ftc (PT 136) 6 = some (6, .getfield 42, 3, 11, 6, 474) := by decide +kernel
theorem f_136_9 : ftc (PT 136) 9 = some (9, .invokestatic 196, 3, 106, 4099, 742) := by decide +kernel
theorem f_136_12 : ftc (PT 136) 12 = some (12, .aload_n 0, 1, 0, 0, 0) := by decide +kernel
theorem f_136_13 : ftc (PT 136) 13 = some (13, .getfield 55, 3, 11, 9, 477) := by decide +kernel
theorem f_136_16 : ftc (PT 136) 16 = some (16, .aload_n 0, 1, 0, 0, 0) := by decide +kernel
theorem f_136_17 : ftc (PT 136) 17 = some (17, .getfield 42, 3, 11, 6, 474) := by decide +kernel
theorem f_136_20 : ftc (PT 136) 20 = some (20, .invokevirtual 475, 3, 52, 2086, 1070) := by decide +kernel
theorem f_136_23 : ftc (PT 136) 23 = some (23, .ifCond .ne 11, 3, 34, 0, 0) := by decide +kernel
theorem f_136_26 : ftc (PT 136) 26 = some (26, .new 130, 3, 102, 6, 856) := by decide +kernel
theorem f_136_34 : ftc (PT 136) 34 = some (34, .return_, 1, 0, 0, 0) := by decide +kernel
theorem f_137_6 : ftc (PT 137) 6 = some (6, .aload_n 0, 1, 0, 0, 0) := by decide +kernel
theorem f_137_7 : ftc (PT 137) 7 = some (7, .iload_n 3, 1, 0, 0, 0) := by decide +kernel
theorem f_137_8 : ftc (PT 137) 8 = some (8, .invokevirtual 264, 3, 138, 2091, 1121) := by decide +kernel
theorem f_137_11 : ftc (PT 137) 11 = some (11, .aload_n 0, 1, 0, 0, 0) := by decide +kernel
theorem f_137_12 : ftc (PT 137) 12 = some (12, .getfield 69, 3, 11, 11, 479) := by decide +kernel
theorem f_137_15 : ftc (PT 137) 15 = some (15, .getfield 267, 3, 5, 1, 316) := by decide +kernel
theorem f_137_18 : ftc (PT 137) 18 = some (18, .ireturn, 1, 1, 0, 0) := by decide +kernel
theorem f_138_0 : ftc (PT 138) 0 = some (0, .iload_n 1, 1, 0, 0, 0) := by decide +kernel
theorem f_138_1 : ftc (PT 138) 1 = some (1, .ifCond .lt 14, 3, 15, 0, 0) := by decide +kernel
theorem f_138_4 : ftc (PT 138) 4 = some (4, .iload_n 1, 1, 0, 0, 0) := by decide +kernel
theorem f_138_5 : ftc (PT 138) 5 = some (5, .aload_n 0, 1, 0, 0, 0) := by decide +kernel
theorem f_138_6 : ftc (PT 138) 6 = some (6, .getfield 69, 3, 11, 11, 479) := by decide +kernel
theorem f_138_9 : ftc (PT 138) 9 = some (9, .getfield 261, 3, 5, 0, 314) := by decide +kernel
theorem f_138_12 : ftc (PT 138) 12 = some (12, .if_icmp .lt 11, 3, 23, 0, 0) := by decide +kernel
theorem f_138_15 : ftc (PT 138) 15 = some (15, .new 130, 3, 102, 6, 856) := by decide +kernel
theorem f_138_23 : ftc (PT 138) 23 = some (23, .return_, 1, 0, 0, 0) := by decide +kernel
theorem f_139_6 : ftc (PT 139) 6 = some (6, .aload_n 0, 1, 0, 0, 0) := by decide +kernel
theorem f_139_7 : ftc (PT 139) 7 = some (7, .iload_n 3, 1, 0, 0, 0) := by decide +kernel
theorem f_139_8 : ftc (PT 139) 8 = some (8, .invokevirtual 270, 3, 140, 2091, 1132) := by decide +kernel
theorem f_139_11 : ftc (PT 139) 11 = some (11, .aload_n 0, 1, 0, 0, 0) := by decide +kernel
theorem f_139_12 : ftc (PT 139) 12 = some (12, .getfield 69, 3, 11, 11, 479) := by decide +kernel
theorem f_139_15 : ftc (PT 139) 15 = some (15, .iload_n 3, 1, 0, 0, 0) := by decide +kernel
theorem f_139_16 : ftc (PT 139) 16 = some (16, .aload_n 0, 1, 0, 0, 0) := by decide +kernel
theorem f_139_17 : ftc (PT 139) 17 = some (17, .getfield 62, 3, 11, 10, 478) := by decide +kernel
theorem f_139_20 : ftc (PT 139) 20 = some (20, .invokevirtual 273, 3, 44, 4165, 1136) := by decide +kernel
theorem f_139_23 : ftc (PT 139) 23 = some (23, .aload_n 0, 1, 0, 0, 0) := by decide +kernel
theorem f_139_24 : ftc (PT 139) 24 = some (24, .getfield 62, 3, 11, 10, 478) := by decide +kernel
theorem f_139_27 : ftc (PT 139) 27 = some (27, .iload 4, 2, 0, 0, 0) := by decide +kernel
theorem f_139_29 : ftc (PT 139) 29 = some (29, .invokevirtual 218, 3, 31, 2083, 974) := by decide +kernel
theorem f_139_32 : ftc (PT 139) 32 = some (32, .lreturn, 1, 0, 0, 0) := by decide +kernel
theorem f_140_0 : ftc (PT 140) 0 = some (0, .iload_n 1, 1, 0, 0, 0) := by decide +kernel
theorem f_140_1 : ftc (PT 140) 1 = some (1, .ifCond .lt 24, 3, 25, 0, 0) := by decide +kernel
theorem f_140_4 : ftc (PT 140) 4 = some (4, .iload_n 1, 1, 0, 0, 0) := by decide +kernel
theorem f_140_5 : ftc (PT 140) 5 = some (5, .aload_n 0, 1, 0, 0, 0) := by decide +kernel
theorem f_140_6 : ftc (PT 140) 6 = some (6, .getfield 69, 3, 11, 11, 479) := by decide +kernel
theorem f_140_9 : ftc (PT 140) 9 = some (9, .getfield 261, 3, 5, 0, 314) := by decide +kernel
theorem f_140_12 : ftc (PT 140) 12 = some (12, .if_icmp .ge 13, 3, 25, 0, 0) := by decide +kernel
theorem f_140_15 : ftc (PT 140) 15 = some (15, .aload_n 0, 1, 0, 0, 0) := by decide +kernel
theorem f_140_16 : ftc (PT 140) 16 = some (16, .getfield 69, 3, 11, 11, 479) := by decide +kernel
theorem f_140_19 : ftc (PT 140) 19 = some (19, .getfield 267, 3, 5, 1, 316) := by decide +kernel
theorem f_140_22 : ftc (PT 140) 22 = some (22, .ifCond .ne 11, 3, 33, 0, 0) := by decide +kernel
theorem f_140_25 : ftc (PT 140) 25 = some (25, .new 130, 3, 102, 6, 856) := by decide +kernel
theorem f_140_33 : ftc (PT 140) 33 = some (33, .return_, 1, 0, 0, 0) := by decide +kernel
theorem f_141_6 : ftc (PT 141) 6 = some (6, .aload_n 0, 1, 0, 0, 0) := by decide +kernel
theorem f_141_7 : ftc (PT 141) 7 = some (7, .iload_n 3, 1, 0, 0, 0) := by decide +kernel
theorem f_141_8 : ftc (PT 141) 8 = some (8, .invokevirtual 264, 3, 138, 2091, 1121) := by decide +kernel
theorem f_141_11 : ftc (PT 141) 11 = some (11, .aload_n 0, 1, 0, 0, 0) := by decide +kernel
theorem f_141_12 : ftc (PT 141) 12 = some (12, .getfield 69, 3, 11, 11, 479) := by decide +kernel
theorem f_141_15 : ftc (PT 141) 15 = some (15, .iload_n 3, 1, 0, 0, 0) := by decide +kernel
theorem f_141_16 : ftc (PT 141) 16 = some (16, .invokevirtual 277, 3, 46, 4133, 1153) := by decide +kernel
theorem f_141_19 : ftc (PT 141) 19 = some (19, .lreturn, 1, 0, 0, 0) := by decide +kernel
theorem f_142_6 : ftc (PT 142) 6 = some (6, .aload_n 0, 1, 0, 0, 0) := by decide +kernel
theorem f_142_7 : ftc (PT 142) 7 = some (7, .iload_n 3, 1, 0, 0, 0) := by decide +kernel
theorem f_142_8 : ftc (PT 142) 8 = some (8, .invokevirtual 270, 3, 140, 2091, 1132) := by decide +kernel
theorem f_142_11 : ftc (PT 142) 11 = some (11, .aload_n 0, 1, 0, 0, 0) := by decide +kernel
theorem f_142_12 : ftc (PT 142) 12 = some (12, .getfield 69, 3, 11, 11, 479) := by decide +kernel
theorem f_142_15 : ftc (PT 142) 15 = some (15, .iload_n 3, 1, 0, 0, 0) := by decide +kernel
theorem f_142_16 : ftc (PT 142) 16 = some (16, .aload_n 0, 1, 0, 0, 0) := by decide +kernel
theorem f_142_17 : ftc (PT 142) 17 = some (17, .getfield 62, 3, 11, 10, 478) := by decide +kernel
theorem f_142_20 : ftc (PT 142) 20 = some (20, .invokevirtual 281, 3, 48, 3141, 1174) := by decide +kernel
theorem f_142_23 : ftc (PT 142) 23 = some (23, .aload_n 0, 1, 0, 0, 0) := by decide +kernel
theorem f_142_24 : ftc (PT 142) 24 = some (24, .getfield 62, 3, 11, 10, 478) := by decide +kernel
theorem f_142_27 : ftc (PT 142) 27 = some (27, .iload 4, 2, 0, 0, 0) := by decide +kernel
theorem f_142_29 : ftc (PT 142) 29 = some (29, .invokevirtual 218, 3, 31, 2083, 974) := by decide +kernel
theorem f_142_32 : ftc (PT 142) 32 = some (32, .lreturn, 1, 0, 0, 0) := by decide +kernel
theorem f_143_6 : ftc (PT 143) 6 = some (6, .aload_n 0, 1, 0, 0, 0) := by decide +kernel
theorem f_143_7 : ftc (PT 143) 7 = some (7, .iconst 0, 1, 0, 0, 0) := by decide +kernel
theorem f_143_8 : ftc (PT 143) 8 = some (8, .invokevirtual 264, 3, 138, 2091, 1121) := by decide +kernel
theorem f_143_11 : ftc (PT 143) 11 = some (11, .aload_n 0, 1, 0, 0, 0) := by decide +kernel
theorem f_143_12 : ftc (PT 143) 12 = some (12, .getfield 69, 3, 11, 11, 479) := by decide +kernel
theorem f_143_15 : ftc (PT 143) 15 = some (15, .aload_n 0, 1, 0, 0, 0) := by decide +kernel
theorem f_143_16 : ftc (PT 143) 16 = some (16, .getfield 62, 3, 11, 10, 478) := by decide +kernel
theorem f_143_19 : ftc (PT 143) 19 = some (19, .invokevirtual 284, 3, 50, 2085, 1189) := by decide +kernel
theorem f_143_22 : ftc (PT 143) 22 = some (22, .aload_n 0, 1, 0, 0, 0) := by decide +kernel
theorem f_143_23 : ftc (PT 143) 23 = some (23, .getfield 62, 3, 11, 10, 478) := by decide +kernel
theorem f_143_26 : ftc (PT 143) 26 = some (26, .iload_n 3, 1, 0, 0, 0) := by decide +kernel
theorem f_143_27 : ftc (PT 143) 27 = some (27, .invokevirtual 218, 3, 31, 2083, 974) := by decide +kernel
theorem f_143_30 : ftc (PT 143) 30 = some (30, .lreturn, 1, 0, 0, 0) := by decide +kernel
theorem f_144_6 : ftc (PT 144) 6 = some (6, .aload_n 0, 1, 0, 0, 0) := by decide +kernel
theorem f_144_7 : ftc (PT 144) 7 = some (7, .iload_n 3, 1, 0, 0, 0) := by decide +kernel
theorem f_144_8 : ftc (PT 144) 8 = some (8, .invokevirtual 264, 3, 138, 2091, 1121) := by decide +kernel
theorem f_144_11 : ftc (PT 144) 11 = some (11, .aload_n 0, 1, 0, 0, 0) := by decide +kernel
theorem f_144_12 : ftc (PT 144) 12 = some (12, .getfield 69, 3, 11, 11, 479) := by decide +kernel
theorem f_144_15 : ftc (PT 144) 15 = some (15, .iload_n 3, 1, 0, 0, 0) := by decide +kernel
theorem f_144_16 : ftc (PT 144) 16 = some (16, .invokevirtual 288, 3, 49, 2085, 1200) := by decide +kernel
theorem f_144_19 : ftc (PT 144) 19 = some (19, .ireturn, 1, 0, 0, 0) := by decide +kernel
theorem f_145_12 : ftc (PT 145) 12 = some (12, .aload_n 0, 1, 0, 0, 0) := by decide +kernel
theorem f_145_13 : ftc (PT 145) 13 = some (13, .iload_n 2, 1, 0, 0, 0) := by decide +kernel
theorem f_145_14 : ftc (PT 145) 14 = some (14, .invokevirtual 270, 3, 140, 2091, 1132) := by decide +kernel
theorem f_145_17 : ftc (PT 145) 17 = some (17, .aload_n 0, 1, 0, 0, 0) := by decide +kernel
theorem f_145_18 : ftc (PT 145) 18 = some (18, .getfield 19, 3, 11, 1, 469) := by decide +kernel
theorem f_145_21 : ftc (PT 145) 21 = some (21, .getfield 127, 3, 2, 3, 221) := by decide +kernel
theorem f_145_24 : ftc (PT 145) 24 = some (24, .iconst 2, 1, 0, 0, 0) := by decide +kernel
theorem f_145_25 : ftc (PT 145) 25 = some (25, .if_icmp .le 11, 3, 36, 0, 0) := by decide +kernel
theorem f_145_28 : ftc (PT 145) 28 = some (28, .new 130, 3, 102, 6, 856) := by decide +kernel
theorem f_145_36 : ftc (PT 145) 36 = some (36, .aload_n 0, 1, 0, 0, 0) := by decide +kernel
theorem f_145_37 : ftc (PT 145) 37 = some (37, .getfield 69, 3, 11, 11, 479) := by decide +kernel
theorem f_145_40 : ftc (PT 145) 40 = some (40, .iload_n 2, 1, 0, 0, 0) := by decide +kernel
theorem f_145_41 : ftc (PT 145) 41 = some (41, .aload_n 0, 1, 0, 0, 0) := by decide +kernel
theorem f_145_42 : ftc (PT 145) 42 = some (42, .getfield 62, 3, 11, 10, 478) := by decide +kernel
theorem f_145_45 : ftc (PT 145) 45 = some (45, .invokevirtual 273, 3, 44, 4165, 1136) := by decide +kernel
theorem f_145_48 : ftc (PT 145) 48 = some (48, .aload_n 0, 1, 0, 0, 0) := by decide +kernel
theorem f_145_49 : ftc (PT 145) 49 = some (49, .getfield 62, 3, 11, 10, 478) := by decide +kernel
theorem f_145_52 : ftc (PT 145) 52 = some (52, .getfield 291, 3, 3, 0, 298) := by decide +kernel
theorem f_145_55 : ftc (PT 145) 55 = some (55, .lstore 4, 2, 0, 0, 0) := by decide +kernel
theorem f_145_57 : ftc (PT 145) 57 = some (57, .aload_n 0, 1, 0, 0, 0) := by decide +kernel
theorem f_145_58 : ftc (PT 145) 58 = some (58, .getfield 62, 3, 11, 10, 478) := by decide +kernel
theorem f_145_61 : ftc (PT 145) 61 = some (61, .getfield 294, 3, 3, 1, 301) := by decide +kernel
theorem f_145_64 : ftc (PT 145) 64 = some (64, .lstore 6, 2, 0, 0, 0) := by decide +kernel
theorem f_145_66 : ftc (PT 145) 66 = some (66, .aload_n 0, 1, 0, 0, 0) := by decide +kernel
theorem f_145_67 : ftc (PT 145) 67 = some (67, .getfield 69, 3, 11, 11, 479) := by decide +kernel
theorem f_145_70 : ftc (PT 145) 70 = some (70, .iload_n 2, 1, 0, 0, 0) := by decide +kernel
theorem f_145_71 : ftc (PT 145) 71 = some (71, .aload_n 0, 1, 0, 0, 0) := by decide +kernel
theorem f_145_72 : ftc (PT 145) 72 = some (72, .getfield 62, 3, 11, 10, 478) := by decide +kernel
theorem f_145_75 : ftc (PT 145) 75 = some (75, .invokevirtual 281, 3, 48, 3141, 1174) := by decide +kernel
theorem f_145_78 : ftc (PT 145) 78 = some (78, .iload_n 3, 1, 0, 0, 0) := by decide +kernel
theorem f_145_79 : ftc (PT 145) 79 = some (79, .iload_n 1, 1, 0, 0, 0) := by decide +kernel
theorem f_145_80 : ftc (PT 145) 80 = some (80, .if_icmp .ne 25, 3, 105, 0, 0) := by decide +kernel
theorem f_145_83 : ftc (PT 145) 83 = some (83, .aload_n 0, 1, 0, 0, 0) := by decide +kernel
theorem f_145_84 : ftc (PT 145) 84 = some (84, .getfield 62, 3, 11, 10, 478) := by decide +kernel
theorem f_145_87 : ftc (PT 145) 87 = some (87, .aload_n 0, 1, 0, 0, 0) := by decide +kernel
theorem f_145_88 : ftc (PT 145) 88 = some (88, .getfield 62, 3, 11, 10, 478) := by decide +kernel
theorem f_145_91 : ftc (PT 145) 91 = some (91, .getfield 294, 3, 3, 1, 301) := by decide +kernel
theorem f_145_94 : ftc (PT 145) 94 = some (94, .lneg, 1, 0, 0, 0) := by decide +kernel
theorem f_145_95 : ftc (PT 145) 95 = some (95, .aload_n 0, 1, 0, 0, 0) := by decide +kernel
theorem f_145_96 : ftc (PT 145) 96 = some (96, .getfield 62, 3, 11, 10, 478) := by decide +kernel
theorem f_145_99 : ftc (PT 145) 99 = some (99, .getfield 291, 3, 3, 0, 298) := by decide +kernel
theorem f_145_102 : ftc (PT 145) 102 = some (102, .invokevirtual 214, 3, 25, 9283, 652) := by decide +kernel
theorem f_145_105 : ftc (PT 145) 105 = some (105, .lload 4, 2, 0, 0, 0) := by decide +kernel
theorem f_145_107 : ftc (PT 145) 107 = some (107, .lload 6, 2, 0, 0, 0) := by decide +kernel
theorem f_145_109 : ftc (PT 145) 109 = some (109, .invokestatic 297, 3, 114, 4098, 850) := by decide +kernel
theorem f_145_112 : ftc (PT 145) 112 = some (112, .ifCond .eq 23, 3, 135, 0, 0) := by decide +kernel
theorem f_145_115 : ftc (PT 145) 115 = some (115, .aload_n 0, 1, 0, 0, 0) := by decide +kernel
theorem f_145_116 : ftc (PT 145) 116 = some (116, .getfield 62, 3, 11, 10, 478) := by decide +kernel
theorem f_145_119 : ftc (PT 145) 119 = some (119, .getfield 291, 3, 3, 0, 298) := by decide +kernel
theorem f_145_122 : ftc (PT 145) 122 = some (122, .aload_n 0, 1, 0, 0, 0) := by decide +kernel
theorem f_145_123 : ftc (PT 145) 123 = some (123, .getfield 62, 3, 11, 10, 478) := by decide +kernel
theorem f_145_126 : ftc (PT 145) 126 = some (126, .getfield 294, 3, 3, 1, 301) := by decide +kernel
theorem f_145_129 : ftc (PT 145) 129 = some (129, .invokestatic 297, 3, 114, 4098, 850) := by decide +kernel
theorem f_145_135 : ftc (PT 145) 135 = some (135, .new 130, 3, 102, 6, 856) := by decide +kernel
set_option maxRecDepth 10000 in
set_option maxHeartbeats 4000000 in
theorem s_98_37 {Lx : Nat} {I : Mi} {L : Ml} {e : Nat} {Q : Kq} {r : Int32} (h :
    (if 0 < r then
     Q (.inl (some (.int (Int32.ofInt 0)))) (gE Lx) I L e
    else
     Q (.inl (some (.int (Int32.ofInt 1)))) (gE Lx) I L e)) :
    Wp 98 37 [(0, .ref 1)] [.int r] (gE Lx) I L e Q := by
  refine w_a f_98_37 ?_
  refine i_m (fun h => ?_) (fun h => ?_) h
  · refine w_a f_98_44 ?_
    refine w_a f_98_45 ?_
    exact h
  · refine w_a f_98_40 ?_
    refine w_a f_98_41 ?_
    refine w_a f_98_45 ?_
    exact h
set_option maxRecDepth 10000 in
set_option maxHeartbeats 4000000 in
theorem s_99_0 {Lx : Nat} {I : Mi} {L : Ml} {e : Nat} {Q : Kq} (h :
    Wp 6 0 [(0, .ref 24), (1, .long ((L 14 0) - (L 14 2))), (3, .long ((L 14 1) - (L 14 3)))] [] (gE Lx) I L e (kcp (Wp 99) 99 34 0 [(0, .ref 1)] 71 [] Q)) :
    Wp 99 0 [(0, .ref 1)] [] (gE Lx) I L e Q := by
  refine w_a f_99_0 ?_
  refine w_a f_99_1 ?_
  refine w_a f_99_4 ?_
  refine w_a f_99_5 ?_
  refine w_a f_99_8 ?_
  refine w_a f_99_11 ?_
  refine w_a f_99_12 ?_
  refine w_a f_99_15 ?_
  refine w_a f_99_18 ?_
  refine w_a f_99_19 ?_
  refine w_a f_99_20 ?_
  refine w_a f_99_23 ?_
  refine w_a f_99_26 ?_
  refine w_a f_99_27 ?_
  refine w_a f_99_30 ?_
  refine w_a f_99_33 ?_
  exact w_c (ks := [0]) f_99_34 rfl rfl h
set_option maxRecDepth 10000 in
set_option maxHeartbeats 4000000 in
theorem s_99_37 {Lx : Nat} {I : Mi} {L : Ml} {e : Nat} {Q : Kq} (h :
    Wp 6 0 [(0, .ref 26), (1, .long ((L 14 0) + (L 14 2))), (3, .long ((L 14 1) + (L 14 3)))] [] (gE Lx) I L e (kcp (Wp 99) 99 71 0 [(0, .ref 1)] 71 [] Q)) :
    Wp 99 37 [(0, .ref 1)] [] (gE Lx) I L e Q := by
  refine w_a f_99_37 ?_
  refine w_a f_99_38 ?_
  refine w_a f_99_41 ?_
  refine w_a f_99_42 ?_
  refine w_a f_99_45 ?_
  refine w_a f_99_48 ?_
  refine w_a f_99_49 ?_
  refine w_a f_99_52 ?_
  refine w_a f_99_55 ?_
  refine w_a f_99_56 ?_
  refine w_a f_99_57 ?_
  refine w_a f_99_60 ?_
  refine w_a f_99_63 ?_
  refine w_a f_99_64 ?_
  refine w_a f_99_67 ?_
  refine w_a f_99_70 ?_
  exact w_c (ks := [0]) f_99_71 rfl rfl h
set_option maxRecDepth 10000 in
set_option maxHeartbeats 4000000 in
theorem s_99_74 {Lx : Nat} {I : Mi} {L : Ml} {e : Nat} {Q : Kq} (h :
    Q (.inl none) (gE Lx) I L e) :
    Wp 99 74 [(0, .ref 1)] [] (gE Lx) I L e Q := by
  refine w_a f_99_74 ?_
  exact h
set_option maxRecDepth 10000 in
set_option maxHeartbeats 4000000 in
theorem s_100_4 {Lx : Nat} {I : Mi} {L : Ml} {e : Nat} {Q : Kq} {x1 : Int32} (h :
    Wp 100 6 [(0, .ref 1), (1, .int x1), (2, .int (Int32.ofInt 0))] [] (gE Lx) I L e Q) :
    Wp 100 4 [(0, .ref 1), (1, .int x1)] [] (gE Lx) I L e Q := by
  refine w_a f_100_4 ?_
  refine w_a f_100_5 ?_
  exact w_n (ks := [0, 1, 2]) rfl h
set_option maxRecDepth 10000 in
set_option maxHeartbeats 4000000 in
theorem s_100_28 {Lx : Nat} {I : Mi} {L : Ml} {e : Nat} {Q : Kq} {x1 : Int32} {x2 : Int32} {r : Int32} (h :
    (if r = x1 then
     Q (.inl (some (.int x2))) (gE Lx) I L e
    else
     Wp 100 6 [(0, .ref 1), (1, .int x1), (2, .int (x2 + Int32.ofInt 1))] [] (gE Lx) I L e Q)) :
    Wp 100 28 [(0, .ref 1), (1, .int x1), (2, .int x2)] [.int r] (gE Lx) I L e Q := by
  refine w_a f_100_28 ?_
  refine w_a f_100_29 ?_
  refine i_m (fun h => ?_) (fun h => ?_) h
  · refine w_a f_100_32 ?_
    refine w_a f_100_33 ?_
    exact h
  · refine w_a f_100_34 ?_
    refine w_a (ls := [(2, .int (x2 + Int32.ofInt 1)), (0, .ref 1), (1, .int x1)]) f_100_37 ?_
    exact w_n (ks := [0, 1, 2]) rfl h
set_option maxRecDepth 10000 in
set_option maxHeartbeats 4000000 in
theorem s_101_0 {Lx : Nat} {I : Mi} {L : Ml} {e : Nat} {Q : Kq} (h :
    Wp 101 2 [(0, .ref 1), (1, .int (Int32.ofInt 0))] [] (gE Lx) I L e Q) :
    Wp 101 0 [(0, .ref 1)] [] (gE Lx) I L e Q := by
  refine w_a f_101_0 ?_
  refine w_a f_101_1 ?_
  exact w_n (ks := [0, 1]) rfl h
set_option maxRecDepth 10000 in
set_option maxHeartbeats 4000000 in
theorem s_101_62 {Lx : Nat} {I : Mi} {L : Ml} {e : Nat} {Q : Kq} {x1 : Int32} (h :
    Wp 101 2 [(0, .ref 1), (1, .int (x1 + Int32.ofInt 1))] [] (gE Lx) I L e Q) :
    Wp 101 62 [(0, .ref 1), (1, .int x1)] [] (gE Lx) I L e Q := by
  refine w_a f_101_62 ?_
  refine w_a (ls := [(1, .int (x1 + Int32.ofInt 1)), (0, .ref 1)]) f_101_65 ?_
  exact w_n (ks := [0, 1]) rfl h
set_option maxRecDepth 10000 in
set_option maxHeartbeats 4000000 in
theorem s_102_0 {Lx : Nat} {I : Mi} {L : Ml} {e : Nat} {Q : Kq} {x1 : Int32} (h :
    Wp 102 4 [(0, .ref 1), (1, .int x1), (2, .int (Int32.ofInt 0)), (3, .int (Int32.ofInt 0))] [] (gE Lx) I L e Q) :
    Wp 102 0 [(0, .ref 1), (1, .int x1)] [] (gE Lx) I L e Q := by
  refine w_a f_102_0 ?_
  refine w_a f_102_1 ?_
  refine w_a (ls := [(2, .int (Int32.ofInt 0)), (0, .ref 1), (1, .int x1)]) f_102_2 ?_
  refine w_a f_102_3 ?_
  exact w_n (ks := [0, 1, 2, 3]) rfl h
set_option maxRecDepth 10000 in
set_option maxHeartbeats 4000000 in
theorem s_102_59 {Lx : Nat} {I : Mi} {L : Ml} {e : Nat} {Q : Kq} {x1 : Int32} {x2 : Int32} {x3 : Int32} {r : Int32} (h :
    (if r = 0 then
     Wp 102 4 [(0, .ref 1), (1, .int x1), (2, .int (x2 + Int32.ofInt 1)), (3, .int (x3 + Int32.ofInt 1))] [] (gE Lx) I L e Q
    else
     Wp 102 4 [(0, .ref 1), (1, .int x1), (2, .int x2), (3, .int (x3 + Int32.ofInt 1))] [] (gE Lx) I L e Q)) :
    Wp 102 59 [(0, .ref 1), (1, .int x1), (2, .int x2), (3, .int x3)] [.int r] (gE Lx) I L e Q := by
  refine w_a f_102_59 ?_
  refine i_m (fun h => ?_) (fun h => ?_) h
  · refine w_a f_102_62 ?_
    refine w_a (ls := [(2, .int (x2 + Int32.ofInt 1)), (0, .ref 1), (1, .int x1), (3, .int x3)]) f_102_65 ?_
    refine w_a (ls := [(3, .int (x3 + Int32.ofInt 1)), (2, .int (x2 + Int32.ofInt 1)), (0, .ref 1), (1, .int x1)]) f_102_68 ?_
    exact w_n (ks := [0, 1, 2, 3]) rfl h
  · refine w_a f_102_65 ?_
    refine w_a (ls := [(3, .int (x3 + Int32.ofInt 1)), (0, .ref 1), (1, .int x1), (2, .int x2)]) f_102_68 ?_
    exact w_n (ks := [0, 1, 2, 3]) rfl h
set_option maxRecDepth 10000 in
set_option maxHeartbeats 4000000 in
theorem s_103_102 {Lx : Nat} {I : Mi} {L : Ml} {e : Nat} {Q : Kq} {r : Int32} (h :
    Q (.inl (some (.int r))) (gE Lx) I L e) :
    Wp 103 102 [(0, .ref 1)] [.int r] (gE Lx) I L e Q := by
  refine w_a f_103_102 ?_
  exact h
set_option maxRecDepth 10000 in
set_option maxHeartbeats 4000000 in
theorem s_103_107 {Lx : Nat} {I : Mi} {L : Ml} {e : Nat} {Q : Kq} {r : Int32} (h :
    (if r = 0 then
     Q (.inl (some (.int (Int32.ofInt 0)))) (gE Lx) I L e
    else
     Q (.inl (some (.int (Int32.ofInt 1)))) (gE Lx) I L e)) :
    Wp 103 107 [(0, .ref 1)] [.int r] (gE Lx) I L e Q := by
  refine w_a f_103_107 ?_
  refine i_m (fun h => ?_) (fun h => ?_) h
  · refine w_a f_103_114 ?_
    refine w_a f_103_115 ?_
    exact h
  · refine w_a f_103_110 ?_
    refine w_a f_103_111 ?_
    refine w_a f_103_115 ?_
    exact h
set_option maxRecDepth 10000 in
set_option maxHeartbeats 4000000 in
theorem s_103_120 {Lx : Nat} {I : Mi} {L : Ml} {e : Nat} {Q : Kq} {r : Int32} (h :
    Q (.inl (some (.int r))) (gE Lx) I L e) :
    Wp 103 120 [(0, .ref 1)] [.int r] (gE Lx) I L e Q := by
  refine w_a f_103_120 ?_
  exact h
set_option maxRecDepth 10000 in
set_option maxHeartbeats 4000000 in
theorem s_103_125 {Lx : Nat} {I : Mi} {L : Ml} {e : Nat} {Q : Kq} {r : Int32} (h :
    Q (.inl (some (.int r))) (gE Lx) I L e) :
    Wp 103 125 [(0, .ref 1)] [.int r] (gE Lx) I L e Q := by
  refine w_a f_103_125 ?_
  exact h
set_option maxRecDepth 10000 in
set_option maxHeartbeats 4000000 in
theorem s_105_18 {Lx : Nat} {I : Mi} {L : Ml} {e : Nat} {Q : Kq} (h :
    (if ((((L 14 0) - (L 14 2)) * ((L 14 0) - (L 14 2))) + (((L 14 1) - (L 14 3)) * ((L 14 1) - (L 14 3)))) = (Int64.ofInt 0) then
     Q (.inl (some (.int (Int32.ofInt 1)))) (gE Lx) I L e
    else
     Q (.inl (some (.int (Int32.ofInt 0)))) (gE Lx) I L e)) :
    Wp 105 18 [(0, .ref 1)] [] (gE Lx) I L e Q := by
  refine w_a f_105_18 ?_
  refine w_a f_105_19 ?_
  refine w_a f_105_22 ?_
  refine w_a (ls := [(0, .ref 14)]) f_78_0 ?_
  refine w_a f_78_1 ?_
  refine w_a f_78_4 ?_
  refine w_a f_78_5 ?_
  refine w_a f_78_8 ?_
  refine w_a f_78_9 ?_
  refine w_a (ls := [(1, .long ((L 14 0) - (L 14 2))), (0, .ref 14)]) f_78_10 ?_
  refine w_a f_78_11 ?_
  refine w_a f_78_14 ?_
  refine w_a f_78_15 ?_
  refine w_a f_78_18 ?_
  refine w_a f_78_19 ?_
  refine w_a (ls := [(3, .long ((L 14 1) - (L 14 3))), (1, .long ((L 14 0) - (L 14 2))), (0, .ref 14)]) f_78_20 ?_
  refine w_a f_78_21 ?_
  refine w_a f_78_22 ?_
  refine w_a f_78_23 ?_
  refine w_a f_78_24 ?_
  refine w_a f_78_25 ?_
  refine w_a f_78_26 ?_
  refine w_a f_78_27 ?_
  refine w_a (ls := [(0, .ref 1)]) f_105_25 ?_
  refine w_a f_105_26 ?_
  refine i_m (fun h => ?_) (fun h => ?_) h
  · refine w_a f_105_30 ?_
    refine w_a f_105_31 ?_
    refine w_a f_105_35 ?_
    exact h
  · refine w_a f_105_34 ?_
    refine w_a f_105_35 ?_
    exact h
set_option maxRecDepth 10000 in
set_option maxHeartbeats 4000000 in
theorem s_106_0_5_14 {Lx : Nat} {I : Mi} {L : Ml} {e : Nat} {Q : Kq} {x1 : Int32} (h :
    Wp 106 21 [(0, .ref 5), (1, .int x1), (2, .ref 14), (3, .int (Int32.ofInt 0))] [] (gE Lx) I (ul (ul (ul (ul L 14 0 ((I 5 0).toInt64)) 14 1 ((I 5 1).toInt64)) 14 2 ((I 5 2).toInt64)) 14 3 (Int64.ofInt 0)) e Q) :
    Wp 106 0 [(0, .ref 5), (1, .int x1), (2, .ref 14)] [] (gE Lx) I L e Q := by
  refine w_a f_106_0 ?_
  refine w_a f_106_1 ?_
  refine w_a f_106_2 ?_
  refine w_a f_106_5 ?_
  refine w_a f_106_6 ?_
  refine w_a f_106_7 ?_
  refine w_a f_106_10 ?_
  refine w_a f_106_11 ?_
  refine w_a f_106_12 ?_
  refine w_a f_106_15 ?_
  refine w_a f_106_16 ?_
  refine w_a (ls := [(0, .ref 14), (1, .long (I 5 0).toInt64), (3, .long (I 5 1).toInt64), (5, .long (I 5 2).toInt64)]) f_74_0 ?_
  refine w_a f_74_1 ?_
  refine w_a f_74_2 ?_
  refine w_a f_74_5 ?_
  refine w_a f_74_6 ?_
  refine w_a f_74_7 ?_
  refine w_a f_74_10 ?_
  refine w_a f_74_11 ?_
  refine w_a f_74_13 ?_
  refine w_a f_74_16 ?_
  refine w_a f_74_17 ?_
  refine w_a f_74_18 ?_
  refine w_a f_74_21 ?_
  refine w_a (ls := [(0, .ref 5), (1, .int x1), (2, .ref 14)]) f_106_19 ?_
  refine w_a f_106_20 ?_
  exact w_n (ks := [0, 1, 2, 3]) rfl h
set_option maxRecDepth 10000 in
set_option maxHeartbeats 4000000 in
theorem s_106_21_5_14 {Lx : Nat} {I : Mi} {L : Ml} {e : Nat} {Q : Kq} {x1 : Int32} {x3 : Int32} (h :
    (if x3 < x1 then
     Wp 12 0 [(0, .ref 5), (1, .int x3)] [] (gE Lx) I L e (kcp (Wp 106) 106 29 0 [(0, .ref 5), (1, .int x1), (2, .ref 14), (3, .int x3)] 71 [.ref 14] Q)
    else
     Q (.inl none) (gE Lx) I L e)) :
    Wp 106 21 [(0, .ref 5), (1, .int x1), (2, .ref 14), (3, .int x3)] [] (gE Lx) I L e Q := by
  refine w_a f_106_21 ?_
  refine w_a f_106_22 ?_
  refine w_a f_106_23 ?_
  refine i_m (fun h => ?_) (fun h => ?_) h
  · refine w_a f_106_26 ?_
    refine w_a f_106_27 ?_
    refine w_a f_106_28 ?_
    exact w_c (ks := [0, 1, 2, 3]) f_106_29 rfl rfl h
  · refine w_a f_106_53 ?_
    exact h
set_option maxRecDepth 10000 in
set_option maxHeartbeats 4000000 in
theorem s_106_32_5_14 {Lx : Nat} {I : Mi} {L : Ml} {e : Nat} {Q : Kq} {x1 : Int32} {x3 : Int32} {r : Int32} (h :
    Wp 14 0 [(0, .ref 5), (1, .int x3)] [] (gE Lx) I L e (kcp (Wp 106) 106 34 0 [(0, .ref 5), (1, .int x1), (2, .ref 14), (3, .int x3)] 71 [.int r, .ref 14] Q)) :
    Wp 106 32 [(0, .ref 5), (1, .int x1), (2, .ref 14), (3, .int x3)] [.int r, .ref 14] (gE Lx) I L e Q := by
  refine w_a f_106_32 ?_
  refine w_a f_106_33 ?_
  exact w_c (ks := [0, 1, 2, 3]) f_106_34 rfl rfl h
set_option maxRecDepth 10000 in
set_option maxHeartbeats 4000000 in
theorem s_106_37_5_14 {Lx : Nat} {I : Mi} {L : Ml} {e : Nat} {Q : Kq} {x1 : Int32} {x3 : Int32} {r1 : Int32} {r : Int32} (h :
    Wp 15 0 [(0, .ref 5), (1, .int x3)] [] (gE Lx) I L e (kcp (Wp 106) 106 40 0 [(0, .ref 5), (1, .int x1), (2, .ref 14), (3, .int x3)] 71 [.long r.toInt64, .int r1, .ref 14] Q)) :
    Wp 106 37 [(0, .ref 5), (1, .int x1), (2, .ref 14), (3, .int x3)] [.int r, .int r1, .ref 14] (gE Lx) I L e Q := by
  refine w_a f_106_37 ?_
  refine w_a f_106_38 ?_
  refine w_a f_106_39 ?_
  exact w_c (ks := [0, 1, 2, 3]) f_106_40 rfl rfl h
set_option maxRecDepth 10000 in
set_option maxHeartbeats 4000000 in
theorem s_106_43_5_14 {Lx : Nat} {I : Mi} {L : Ml} {e : Nat} {Q : Kq} {x1 : Int32} {x3 : Int32} {r1 : Int32} {rl2 : Int64} {r : Int32} (h :
    Wp 75 0 [(0, .ref 14), (1, .int r1), (2, .long rl2), (4, .long r.toInt64)] [] (gE Lx) I L e (kcp (Wp 106) 106 44 0 [(0, .ref 5), (1, .int x1), (2, .ref 14), (3, .int x3)] 71 [] Q)) :
    Wp 106 43 [(0, .ref 5), (1, .int x1), (2, .ref 14), (3, .int x3)] [.int r, .long rl2, .int r1, .ref 14] (gE Lx) I L e Q := by
  refine w_a f_106_43 ?_
  exact w_c (ks := [0, 1, 2, 3]) f_106_44 rfl rfl h
set_option maxRecDepth 10000 in
set_option maxHeartbeats 4000000 in
theorem s_106_47_5_14 {Lx : Nat} {I : Mi} {L : Ml} {e : Nat} {Q : Kq} {x1 : Int32} {x3 : Int32} (h :
    Wp 106 21 [(0, .ref 5), (1, .int x1), (2, .ref 14), (3, .int (x3 + Int32.ofInt 1))] [] (gE Lx) I L e Q) :
    Wp 106 47 [(0, .ref 5), (1, .int x1), (2, .ref 14), (3, .int x3)] [] (gE Lx) I L e Q := by
  refine w_a f_106_47 ?_
  refine w_a (ls := [(3, .int (x3 + Int32.ofInt 1)), (0, .ref 5), (1, .int x1), (2, .ref 14)]) f_106_50 ?_
  exact w_n (ks := [0, 1, 2, 3]) rfl h
set_option maxRecDepth 10000 in
set_option maxHeartbeats 4000000 in
theorem s_106_0_5_15 {Lx : Nat} {I : Mi} {L : Ml} {e : Nat} {Q : Kq} {x1 : Int32} (h :
    Wp 106 21 [(0, .ref 5), (1, .int x1), (2, .ref 15), (3, .int (Int32.ofInt 0))] [] (gE Lx) I (ul (ul (ul (ul L 15 0 ((I 5 0).toInt64)) 15 1 ((I 5 1).toInt64)) 15 2 ((I 5 2).toInt64)) 15 3 (Int64.ofInt 0)) e Q) :
    Wp 106 0 [(0, .ref 5), (1, .int x1), (2, .ref 15)] [] (gE Lx) I L e Q := by
  refine w_a f_106_0 ?_
  refine w_a f_106_1 ?_
  refine w_a f_106_2 ?_
  refine w_a f_106_5 ?_
  refine w_a f_106_6 ?_
  refine w_a f_106_7 ?_
  refine w_a f_106_10 ?_
  refine w_a f_106_11 ?_
  refine w_a f_106_12 ?_
  refine w_a f_106_15 ?_
  refine w_a f_106_16 ?_
  refine w_a (ls := [(0, .ref 15), (1, .long (I 5 0).toInt64), (3, .long (I 5 1).toInt64), (5, .long (I 5 2).toInt64)]) f_74_0 ?_
  refine w_a f_74_1 ?_
  refine w_a f_74_2 ?_
  refine w_a f_74_5 ?_
  refine w_a f_74_6 ?_
  refine w_a f_74_7 ?_
  refine w_a f_74_10 ?_
  refine w_a f_74_11 ?_
  refine w_a f_74_13 ?_
  refine w_a f_74_16 ?_
  refine w_a f_74_17 ?_
  refine w_a f_74_18 ?_
  refine w_a f_74_21 ?_
  refine w_a (ls := [(0, .ref 5), (1, .int x1), (2, .ref 15)]) f_106_19 ?_
  refine w_a f_106_20 ?_
  exact w_n (ks := [0, 1, 2, 3]) rfl h
set_option maxRecDepth 10000 in
set_option maxHeartbeats 4000000 in
theorem s_106_21_5_15 {Lx : Nat} {I : Mi} {L : Ml} {e : Nat} {Q : Kq} {x1 : Int32} {x3 : Int32} (h :
    (if x3 < x1 then
     Wp 12 0 [(0, .ref 5), (1, .int x3)] [] (gE Lx) I L e (kcp (Wp 106) 106 29 0 [(0, .ref 5), (1, .int x1), (2, .ref 15), (3, .int x3)] 71 [.ref 15] Q)
    else
     Q (.inl none) (gE Lx) I L e)) :
    Wp 106 21 [(0, .ref 5), (1, .int x1), (2, .ref 15), (3, .int x3)] [] (gE Lx) I L e Q := by
  refine w_a f_106_21 ?_
  refine w_a f_106_22 ?_
  refine w_a f_106_23 ?_
  refine i_m (fun h => ?_) (fun h => ?_) h
  · refine w_a f_106_26 ?_
    refine w_a f_106_27 ?_
    refine w_a f_106_28 ?_
    exact w_c (ks := [0, 1, 2, 3]) f_106_29 rfl rfl h
  · refine w_a f_106_53 ?_
    exact h
set_option maxRecDepth 10000 in
set_option maxHeartbeats 4000000 in
theorem s_106_32_5_15 {Lx : Nat} {I : Mi} {L : Ml} {e : Nat} {Q : Kq} {x1 : Int32} {x3 : Int32} {r : Int32} (h :
    Wp 14 0 [(0, .ref 5), (1, .int x3)] [] (gE Lx) I L e (kcp (Wp 106) 106 34 0 [(0, .ref 5), (1, .int x1), (2, .ref 15), (3, .int x3)] 71 [.int r, .ref 15] Q)) :
    Wp 106 32 [(0, .ref 5), (1, .int x1), (2, .ref 15), (3, .int x3)] [.int r, .ref 15] (gE Lx) I L e Q := by
  refine w_a f_106_32 ?_
  refine w_a f_106_33 ?_
  exact w_c (ks := [0, 1, 2, 3]) f_106_34 rfl rfl h
set_option maxRecDepth 10000 in
set_option maxHeartbeats 4000000 in
theorem s_106_37_5_15 {Lx : Nat} {I : Mi} {L : Ml} {e : Nat} {Q : Kq} {x1 : Int32} {x3 : Int32} {r1 : Int32} {r : Int32} (h :
    Wp 15 0 [(0, .ref 5), (1, .int x3)] [] (gE Lx) I L e (kcp (Wp 106) 106 40 0 [(0, .ref 5), (1, .int x1), (2, .ref 15), (3, .int x3)] 71 [.long r.toInt64, .int r1, .ref 15] Q)) :
    Wp 106 37 [(0, .ref 5), (1, .int x1), (2, .ref 15), (3, .int x3)] [.int r, .int r1, .ref 15] (gE Lx) I L e Q := by
  refine w_a f_106_37 ?_
  refine w_a f_106_38 ?_
  refine w_a f_106_39 ?_
  exact w_c (ks := [0, 1, 2, 3]) f_106_40 rfl rfl h
set_option maxRecDepth 10000 in
set_option maxHeartbeats 4000000 in
theorem s_106_43_5_15 {Lx : Nat} {I : Mi} {L : Ml} {e : Nat} {Q : Kq} {x1 : Int32} {x3 : Int32} {r1 : Int32} {rl2 : Int64} {r : Int32} (h :
    Wp 75 0 [(0, .ref 15), (1, .int r1), (2, .long rl2), (4, .long r.toInt64)] [] (gE Lx) I L e (kcp (Wp 106) 106 44 0 [(0, .ref 5), (1, .int x1), (2, .ref 15), (3, .int x3)] 71 [] Q)) :
    Wp 106 43 [(0, .ref 5), (1, .int x1), (2, .ref 15), (3, .int x3)] [.int r, .long rl2, .int r1, .ref 15] (gE Lx) I L e Q := by
  refine w_a f_106_43 ?_
  exact w_c (ks := [0, 1, 2, 3]) f_106_44 rfl rfl h
set_option maxRecDepth 10000 in
set_option maxHeartbeats 4000000 in
theorem s_106_47_5_15 {Lx : Nat} {I : Mi} {L : Ml} {e : Nat} {Q : Kq} {x1 : Int32} {x3 : Int32} (h :
    Wp 106 21 [(0, .ref 5), (1, .int x1), (2, .ref 15), (3, .int (x3 + Int32.ofInt 1))] [] (gE Lx) I L e Q) :
    Wp 106 47 [(0, .ref 5), (1, .int x1), (2, .ref 15), (3, .int x3)] [] (gE Lx) I L e Q := by
  refine w_a f_106_47 ?_
  refine w_a (ls := [(3, .int (x3 + Int32.ofInt 1)), (0, .ref 5), (1, .int x1), (2, .ref 15)]) f_106_50 ?_
  exact w_n (ks := [0, 1, 2, 3]) rfl h
set_option maxRecDepth 10000 in
set_option maxHeartbeats 4000000 in
theorem s_107_2 {Lx : Nat} {I : Mi} {L : Ml} {e : Nat} {Q : Kq} {x1 : Int32} (h :
    (if x1 < (Int32.ofInt 1) then
     Q (.inl (some (.int (Int32.ofInt 0)))) (gE Lx) I L e
    else
     Wp 108 0 [(0, .ref 1), (1, .ref 5), (2, .int x1)] [] (gE Lx) I L e (kcp (Wp 107) 107 13 0 [(0, .ref 1), (1, .int x1)] 71 [] Q))) :
    Wp 107 2 [(0, .ref 1), (1, .int x1)] [] (gE Lx) I L e Q := by
  refine w_a f_107_2 ?_
  refine w_a f_107_3 ?_
  refine w_a f_107_4 ?_
  refine i_m (fun h => ?_) (fun h => ?_) h
  · refine w_a f_107_31 ?_
    refine w_a f_107_32 ?_
    exact h
  · refine w_a f_107_7 ?_
    refine w_a f_107_8 ?_
    refine w_a f_107_9 ?_
    refine w_a f_107_12 ?_
    exact w_c (ks := [0, 1]) f_107_13 rfl rfl h
set_option maxRecDepth 10000 in
set_option maxHeartbeats 4000000 in
theorem s_107_16 {Lx : Nat} {I : Mi} {L : Ml} {e : Nat} {Q : Kq} {x1 : Int32} (h :
    Wp 98 0 [(0, .ref 1)] [] (gE Lx) I L e (kcp (Wp 107) 107 17 0 [(0, .ref 1), (1, .int x1)] 71 [] Q)) :
    Wp 107 16 [(0, .ref 1), (1, .int x1)] [] (gE Lx) I L e Q := by
  refine w_a f_107_16 ?_
  exact w_c (ks := [0, 1]) f_107_17 rfl rfl h
set_option maxRecDepth 10000 in
set_option maxHeartbeats 4000000 in
theorem s_107_20 {Lx : Nat} {I : Mi} {L : Ml} {e : Nat} {Q : Kq} {x1 : Int32} {r : Int32} (h :
    (if r = 0 then
     Wp 107 2 [(0, .ref 1), (1, .int (x1 + Int32.ofInt (-1)))] [] (gE Lx) I L e Q
    else
     Q (.inl (some (.int x1))) (gE Lx) I L e)) :
    Wp 107 20 [(0, .ref 1), (1, .int x1)] [.int r] (gE Lx) I L e Q := by
  refine w_a f_107_20 ?_
  refine i_m (fun h => ?_) (fun h => ?_) h
  · refine w_a f_107_25 ?_
    refine w_a (ls := [(1, .int (x1 + Int32.ofInt (-1))), (0, .ref 1)]) f_107_28 ?_
    exact w_n (ks := [0, 1]) rfl h
  · refine w_a f_107_23 ?_
    refine w_a f_107_24 ?_
    exact h
set_option maxRecDepth 10000 in
set_option maxHeartbeats 4000000 in
theorem s_108_0 {Lx : Nat} {I : Mi} {L : Ml} {e : Nat} {Q : Kq} {x2 : Int32} (h :
    (if 0 < (I 5 1) then
     Wp 108 65 [(0, .ref 1), (1, .ref 5), (2, .int x2), (3, .int (Int32.ofInt 0))] [] (gE Lx) I (ul (ul (ul (ul L 14 0 ((I 5 0).toInt64)) 14 1 (x2.toInt64 * (I 5 1).toInt64)) 14 2 ((I 5 2).toInt64)) 14 3 (Int64.ofInt 0)) e Q
    else
     Wp 108 65 [(0, .ref 1), (1, .ref 5), (2, .int x2), (3, .int (Int32.ofInt 0))] [] (gE Lx) I (ul (ul (ul (ul L 14 0 (x2.toInt64 * (I 5 0).toInt64)) 14 1 ((I 5 1).toInt64)) 14 2 (x2.toInt64 * (I 5 2).toInt64)) 14 3 (Int64.ofInt 0)) e Q)) :
    Wp 108 0 [(0, .ref 1), (1, .ref 5), (2, .int x2)] [] (gE Lx) I L e Q := by
  refine w_a f_108_0 ?_
  refine w_a f_108_1 ?_
  refine w_a f_108_4 ?_
  refine i_m (fun h => ?_) (fun h => ?_) h
  · refine w_a f_108_7 ?_
    refine w_a f_108_8 ?_
    refine w_a f_108_11 ?_
    refine w_a f_108_12 ?_
    refine w_a f_108_15 ?_
    refine w_a f_108_16 ?_
    refine w_a f_108_17 ?_
    refine w_a f_108_18 ?_
    refine w_a f_108_19 ?_
    refine w_a f_108_22 ?_
    refine w_a f_108_23 ?_
    refine w_a f_108_24 ?_
    refine w_a f_108_25 ?_
    refine w_a f_108_28 ?_
    refine w_a f_108_29 ?_
    refine w_a (ls := [(0, .ref 14), (1, .long (I 5 0).toInt64), (3, .long (x2.toInt64 * (I 5 1).toInt64)), (5, .long (I 5 2).toInt64)]) f_74_0 ?_
    refine w_a f_74_1 ?_
    refine w_a f_74_2 ?_
    refine w_a f_74_5 ?_
    refine w_a f_74_6 ?_
    refine w_a f_74_7 ?_
    refine w_a f_74_10 ?_
    refine w_a f_74_11 ?_
    refine w_a f_74_13 ?_
    refine w_a f_74_16 ?_
    refine w_a f_74_17 ?_
    refine w_a f_74_18 ?_
    refine w_a f_74_21 ?_
    refine w_a (ls := [(0, .ref 1), (1, .ref 5), (2, .int x2)]) f_108_32 ?_
    refine w_a f_108_63 ?_
    refine w_a f_108_64 ?_
    exact w_n (ks := [0, 1, 2, 3]) rfl h
  · refine w_a f_108_35 ?_
    refine w_a f_108_36 ?_
    refine w_a f_108_39 ?_
    refine w_a f_108_40 ?_
    refine w_a f_108_41 ?_
    refine w_a f_108_42 ?_
    refine w_a f_108_45 ?_
    refine w_a f_108_46 ?_
    refine w_a f_108_47 ?_
    refine w_a f_108_48 ?_
    refine w_a f_108_51 ?_
    refine w_a f_108_52 ?_
    refine w_a f_108_53 ?_
    refine w_a f_108_54 ?_
    refine w_a f_108_55 ?_
    refine w_a f_108_58 ?_
    refine w_a f_108_59 ?_
    refine w_a f_108_60 ?_
    refine w_a (ls := [(0, .ref 14), (1, .long (x2.toInt64 * (I 5 0).toInt64)), (3, .long (I 5 1).toInt64), (5, .long (x2.toInt64 * (I 5 2).toInt64))]) f_74_0 ?_
    refine w_a f_74_1 ?_
    refine w_a f_74_2 ?_
    refine w_a f_74_5 ?_
    refine w_a f_74_6 ?_
    refine w_a f_74_7 ?_
    refine w_a f_74_10 ?_
    refine w_a f_74_11 ?_
    refine w_a f_74_13 ?_
    refine w_a f_74_16 ?_
    refine w_a f_74_17 ?_
    refine w_a f_74_18 ?_
    refine w_a f_74_21 ?_
    refine w_a (ls := [(0, .ref 1), (1, .ref 5), (2, .int x2)]) f_108_63 ?_
    refine w_a f_108_64 ?_
    exact w_n (ks := [0, 1, 2, 3]) rfl h
set_option maxRecDepth 10000 in
set_option maxHeartbeats 4000000 in
theorem s_108_65 {Lx : Nat} {I : Mi} {L : Ml} {e : Nat} {Q : Kq} {x2 : Int32} {x3 : Int32} (h :
    (if x3 < (I 5 3) then
     Wp 14 0 [(0, .ref 5), (1, .int x3)] [] (gE Lx) I L e (kcp (Wp 108) 108 79 0 [(0, .ref 1), (1, .ref 5), (2, .int x2), (3, .int x3)] 71 [.ref 18] Q)
    else
     Q (.inl none) (gE Lx) I L e)) :
    Wp 108 65 [(0, .ref 1), (1, .ref 5), (2, .int x2), (3, .int x3)] [] (gE Lx) I L e Q := by
  refine w_a f_108_65 ?_
  refine w_a f_108_66 ?_
  refine w_a f_108_67 ?_
  refine w_a f_108_70 ?_
  refine i_m (fun h => ?_) (fun h => ?_) h
  · refine w_a f_108_73 ?_
    refine w_a f_108_74 ?_
    refine w_a f_108_77 ?_
    refine w_a f_108_78 ?_
    exact w_c (ks := [0, 1, 2, 3]) f_108_79 rfl rfl h
  · refine w_a f_108_125 ?_
    exact h
set_option maxRecDepth 10000 in
set_option maxHeartbeats 4000000 in
theorem s_108_82 {Lx : Nat} {I : Mi} {L : Ml} {e : Nat} {Q : Kq} {x2 : Int32} {x3 : Int32} {r : Int32} (h :
    Wp 15 0 [(0, .ref 5), (1, .int x3)] [] (gE Lx) I L e (kcp (Wp 108) 108 85 0 [(0, .ref 1), (1, .ref 5), (2, .int x2), (3, .int x3)] 71 [.long r.toInt64, .ref 18] Q)) :
    Wp 108 82 [(0, .ref 1), (1, .ref 5), (2, .int x2), (3, .int x3)] [.int r, .ref 18] (gE Lx) I L e Q := by
  refine w_a f_108_82 ?_
  refine w_a f_108_83 ?_
  refine w_a f_108_84 ?_
  exact w_c (ks := [0, 1, 2, 3]) f_108_85 rfl rfl h
set_option maxRecDepth 10000 in
set_option maxHeartbeats 4000000 in
theorem s_108_88 {Lx : Nat} {I : Mi} {L : Ml} {e : Nat} {Q : Kq} {x2 : Int32} {x3 : Int32} {rl1 : Int64} {r : Int32} (h :
    Wp 30 0 [(0, .ref 18), (1, .long rl1), (3, .long r.toInt64), (5, .int x2)] [] (gE Lx) I L e (kcp (Wp 108) 108 90 0 [(0, .ref 1), (1, .ref 5), (2, .int x2), (3, .int x3)] 71 [] Q)) :
    Wp 108 88 [(0, .ref 1), (1, .ref 5), (2, .int x2), (3, .int x3)] [.int r, .long rl1, .ref 18] (gE Lx) I L e Q := by
  refine w_a f_108_88 ?_
  refine w_a f_108_89 ?_
  exact w_c (ks := [0, 1, 2, 3]) f_108_90 rfl rfl h
set_option maxRecDepth 10000 in
set_option maxHeartbeats 4000000 in
theorem s_108_93 {Lx : Nat} {I : Mi} {L : Ml} {e : Nat} {Q : Kq} {x2 : Int32} {x3 : Int32} (h :
    Wp 12 0 [(0, .ref 5), (1, .int x3)] [] (gE Lx) I L e (kcp (Wp 108) 108 99 0 [(0, .ref 1), (1, .ref 5), (2, .int x2), (3, .int x3)] 71 [.ref 14] Q)) :
    Wp 108 93 [(0, .ref 1), (1, .ref 5), (2, .int x2), (3, .int x3)] [] (gE Lx) I L e Q := by
  refine w_a f_108_93 ?_
  refine w_a f_108_94 ?_
  refine w_a f_108_97 ?_
  refine w_a f_108_98 ?_
  exact w_c (ks := [0, 1, 2, 3]) f_108_99 rfl rfl h
set_option maxRecDepth 10000 in
set_option maxHeartbeats 4000000 in
theorem s_108_102 {Lx : Nat} {I : Mi} {L : Ml} {e : Nat} {Q : Kq} {x2 : Int32} {x3 : Int32} {r : Int32} (h :
    Wp 75 0 [(0, .ref 14), (1, .int r), (2, .long (L 18 0)), (4, .long (L 18 1))] [] (gE Lx) I L e (kcp (Wp 108) 108 116 0 [(0, .ref 1), (1, .ref 5), (2, .int x2), (3, .int x3)] 71 [] Q)) :
    Wp 108 102 [(0, .ref 1), (1, .ref 5), (2, .int x2), (3, .int x3)] [.int r, .ref 14] (gE Lx) I L e Q := by
  refine w_a f_108_102 ?_
  refine w_a f_108_103 ?_
  refine w_a f_108_106 ?_
  refine w_a f_108_109 ?_
  refine w_a f_108_110 ?_
  refine w_a f_108_113 ?_
  exact w_c (ks := [0, 1, 2, 3]) f_108_116 rfl rfl h
set_option maxRecDepth 10000 in
set_option maxHeartbeats 4000000 in
theorem s_108_119 {Lx : Nat} {I : Mi} {L : Ml} {e : Nat} {Q : Kq} {x2 : Int32} {x3 : Int32} (h :
    Wp 108 65 [(0, .ref 1), (1, .ref 5), (2, .int x2), (3, .int (x3 + Int32.ofInt 1))] [] (gE Lx) I L e Q) :
    Wp 108 119 [(0, .ref 1), (1, .ref 5), (2, .int x2), (3, .int x3)] [] (gE Lx) I L e Q := by
  refine w_a f_108_119 ?_
  refine w_a (ls := [(3, .int (x3 + Int32.ofInt 1)), (0, .ref 1), (1, .ref 5), (2, .int x2)]) f_108_122 ?_
  exact w_n (ks := [0, 1, 2, 3]) rfl h
set_option maxRecDepth 10000 in
set_option maxHeartbeats 4000000 in
theorem s_109_4 {Lx : Nat} {I : Mi} {L : Ml} {e : Nat} {Q : Kq} {x1 : Int32} {x2 : Int32} (h :
    (if (Int32.ofInt 3) < x2 then
     Q (.inl (some (.int x1))) (gE Lx) I L e
    else
     Wp 108 0 [(0, .ref 1), (1, .ref 5), (2, .int x2)] [] (gE Lx) I L e (kcp (Wp 109) 109 15 0 [(0, .ref 1), (1, .int x1), (2, .int x2)] 71 [] Q))) :
    Wp 109 4 [(0, .ref 1), (1, .int x1), (2, .int x2)] [] (gE Lx) I L e Q := by
  refine w_a f_109_4 ?_
  refine w_a f_109_5 ?_
  refine w_a f_109_6 ?_
  refine i_m (fun h => ?_) (fun h => ?_) h
  · refine w_a f_109_48 ?_
    refine w_a f_109_49 ?_
    exact h
  · refine w_a f_109_9 ?_
    refine w_a f_109_10 ?_
    refine w_a f_109_11 ?_
    refine w_a f_109_14 ?_
    exact w_c (ks := [0, 1, 2]) f_109_15 rfl rfl h
set_option maxRecDepth 10000 in
set_option maxHeartbeats 4000000 in
theorem s_109_18 {Lx : Nat} {I : Mi} {L : Ml} {e : Nat} {Q : Kq} {x1 : Int32} {x2 : Int32} (h :
    Wp 99 0 [(0, .ref 1)] [] (gE Lx) I L e (kcp (Wp 109) 109 19 0 [(0, .ref 1), (1, .int x1), (2, .int x2)] 71 [] Q)) :
    Wp 109 18 [(0, .ref 1), (1, .int x1), (2, .int x2)] [] (gE Lx) I L e Q := by
  refine w_a f_109_18 ?_
  exact w_c (ks := [0, 1, 2]) f_109_19 rfl rfl h
set_option maxRecDepth 10000 in
set_option maxHeartbeats 4000000 in
theorem s_109_22 {Lx : Nat} {I : Mi} {L : Ml} {e : Nat} {Q : Kq} {x1 : Int32} {x2 : Int32} (h :
    Wp 9 0 [(0, .ref 24), (1, .ref 26)] [] (gE Lx) I L e (kcp (Wp 109) 109 30 0 [(0, .ref 1), (1, .int x1), (2, .int x2)] 71 [] Q)) :
    Wp 109 22 [(0, .ref 1), (1, .int x1), (2, .int x2)] [] (gE Lx) I L e Q := by
  refine w_a f_109_22 ?_
  refine w_a f_109_23 ?_
  refine w_a f_109_26 ?_
  refine w_a f_109_27 ?_
  exact w_c (ks := [0, 1, 2]) f_109_30 rfl rfl h
set_option maxRecDepth 10000 in
set_option maxHeartbeats 4000000 in
theorem s_109_33 {Lx : Nat} {I : Mi} {L : Ml} {e : Nat} {Q : Kq} {x1 : Int32} {x2 : Int32} {r : Int32} (h :
    (if r = 0 then
     Wp 109 4 [(0, .ref 1), (1, .int (x1 ||| ((Int32.ofInt 1) <<< (x2 &&& 31)))), (2, .int (x2 + Int32.ofInt 1))] [] (gE Lx) I L e Q
    else
     Wp 109 4 [(0, .ref 1), (1, .int x1), (2, .int (x2 + Int32.ofInt 1))] [] (gE Lx) I L e Q)) :
    Wp 109 33 [(0, .ref 1), (1, .int x1), (2, .int x2)] [.int r] (gE Lx) I L e Q := by
  refine w_a f_109_33 ?_
  refine i_m (fun h => ?_) (fun h => ?_) h
  · refine w_a f_109_36 ?_
    refine w_a f_109_37 ?_
    refine w_a f_109_38 ?_
    refine w_a f_109_39 ?_
    refine w_a f_109_40 ?_
    refine w_a f_109_41 ?_
    refine w_a (ls := [(1, .int (x1 ||| ((Int32.ofInt 1) <<< (x2 &&& 31)))), (0, .ref 1), (2, .int x2)]) f_109_42 ?_
    refine w_a (ls := [(2, .int (x2 + Int32.ofInt 1)), (1, .int (x1 ||| ((Int32.ofInt 1) <<< (x2 &&& 31)))), (0, .ref 1)]) f_109_45 ?_
    exact w_n (ks := [0, 1, 2]) rfl h
  · refine w_a f_109_42 ?_
    refine w_a (ls := [(2, .int (x2 + Int32.ofInt 1)), (0, .ref 1), (1, .int x1)]) f_109_45 ?_
    exact w_n (ks := [0, 1, 2]) rfl h
set_option maxRecDepth 10000 in
set_option maxHeartbeats 4000000 in
theorem s_112_23 {Lx : Nat} {I : Mi} {L : Ml} {e : Nat} {Q : Kq} {x1 : Int32} {x2 : Int32} {x3 : Int32} (h :
    (if (I 5 3) < (Int32.ofInt 4) then
     (if (I 5 3) < 0 then
      Q (.inl (some (.int ((I 5 3) - (Int32.ofInt 1))))) (gE Lx) I L e
     else
      (if (I 5 3) < (Int32.ofInt 4) then
       (inb (I 5 3) 4 (
        (inb (I 5 3) 4 (
         (inb (I 5 3) 4 (
          Q (.inl (some (.int (((I 5 3) + (Int32.ofInt 1)) - (Int32.ofInt 1))))) (gE Lx) (ui (ui (ui (ui I 6 ((I 5 3).toNatClampNeg) x1) 7 ((I 5 3).toNatClampNeg) x2) 8 ((I 5 3).toNatClampNeg) x3) 5 3 ((I 5 3) + (Int32.ofInt 1))) L e)
         False))
        False))
       False)
      else
       Q (.inl (some (.int ((I 5 3) - (Int32.ofInt 1))))) (gE Lx) I L e))
    else
     Q (.inr 102) (gE Lx) I L (e + 1))) :
    Wp 112 23 [(0, .ref 1), (1, .int x1), (2, .int x2), (3, .int x3)] [] (gE Lx) I L e Q := by
  refine w_a f_112_23 ?_
  refine w_a f_112_24 ?_
  refine w_a f_112_27 ?_
  refine w_a f_112_30 ?_
  refine w_a f_112_31 ?_
  refine i_m (fun h => ?_) (fun h => ?_) h
  · refine w_a f_112_42 ?_
    refine w_a f_112_43 ?_
    refine w_a f_112_46 ?_
    refine w_a f_112_47 ?_
    refine w_a f_112_48 ?_
    refine w_a f_112_49 ?_
    refine w_a (ls := [(0, .ref 5), (1, .int x1), (2, .int x2), (3, .int x3)]) f_19_0 ?_
    refine w_a f_19_1 ?_
    refine w_a f_19_4 ?_
    refine i_m (fun h => ?_) (fun h => ?_) h
    · refine w_a f_19_15 ?_
      refine w_a (ls := [(0, .ref 1), (1, .int x1), (2, .int x2), (3, .int x3)]) f_112_52 ?_
      refine w_a f_112_53 ?_
      refine w_a f_112_56 ?_
      refine w_a f_112_59 ?_
      refine w_a f_112_60 ?_
      refine w_a f_112_61 ?_
      exact h
    · refine w_a f_19_7 ?_
      refine w_a f_19_8 ?_
      refine w_a f_19_11 ?_
      refine w_a f_19_12 ?_
      refine i_m (fun h => ?_) (fun h => ?_) h
      · refine w_a f_19_16 ?_
        refine w_a f_19_17 ?_
        refine w_a f_19_20 ?_
        refine w_a f_19_21 ?_
        refine w_a f_19_24 ?_
        refine w_a f_19_25 ?_
        refine n_m (fun h => ?_) h
        refine w_a f_19_26 ?_
        refine w_a f_19_27 ?_
        refine w_a f_19_30 ?_
        refine w_a f_19_31 ?_
        refine w_a f_19_34 ?_
        refine w_a f_19_35 ?_
        refine n_m (fun h => ?_) h
        refine w_a f_19_36 ?_
        refine w_a f_19_37 ?_
        refine w_a f_19_40 ?_
        refine w_a f_19_41 ?_
        refine w_a f_19_44 ?_
        refine w_a f_19_45 ?_
        refine n_m (fun h => ?_) h
        refine w_a f_19_46 ?_
        refine w_a f_19_47 ?_
        refine w_a f_19_48 ?_
        refine w_a f_19_51 ?_
        refine w_a f_19_52 ?_
        refine w_a f_19_53 ?_
        refine w_a f_19_56 ?_
        refine w_a (ls := [(0, .ref 1), (1, .int x1), (2, .int x2), (3, .int x3)]) f_112_52 ?_
        refine w_a f_112_53 ?_
        refine w_a f_112_56 ?_
        refine w_a f_112_59 ?_
        refine w_a f_112_60 ?_
        refine w_a f_112_61 ?_
        exact h
      · refine w_a f_19_15 ?_
        refine w_a (ls := [(0, .ref 1), (1, .int x1), (2, .int x2), (3, .int x3)]) f_112_52 ?_
        refine w_a f_112_53 ?_
        refine w_a f_112_56 ?_
        refine w_a f_112_59 ?_
        refine w_a f_112_60 ?_
        refine w_a f_112_61 ?_
        exact h
  · refine w_a f_112_34 ?_
    exact h
set_option maxRecDepth 10000 in
set_option maxHeartbeats 4000000 in
theorem s_113_7 {Lx : Nat} {I : Mi} {L : Ml} {e : Nat} {Q : Kq} {r : Int32} (h :
    (if r = 0 then
     Q (.inr 101) (gE Lx) I L (e + 1)
    else
     Q (.inl none) (gE Lx) I L e)) :
    Wp 113 7 [(0, .ref 1)] [.int r] (gE Lx) I L e Q := by
  refine w_a f_113_7 ?_
  refine i_m (fun h => ?_) (fun h => ?_) h
  · refine w_a f_113_10 ?_
    exact h
  · refine w_a f_113_18 ?_
    exact h
set_option maxRecDepth 10000 in
set_option maxHeartbeats 4000000 in
theorem s_114_0 {Lx : Nat} {I : Mi} {L : Ml} {e : Nat} {Q : Kq} {y0 : Int64} {y2 : Int64} (h :
    (if y0 < (Int64.ofInt (-12)) then
     Q (.inl (some (.int (Int32.ofInt 0)))) (gE Lx) I L e
    else
     (if (Int64.ofInt 12) < y0 then
      Q (.inl (some (.int (Int32.ofInt 0)))) (gE Lx) I L e
     else
      (if y2 < (Int64.ofInt 0) then
       Q (.inl (some (.int (Int32.ofInt 0)))) (gE Lx) I L e
      else
       (if (Int64.ofInt 12) < y2 then
        Q (.inl (some (.int (Int32.ofInt 0)))) (gE Lx) I L e
       else
        Wp 26 0 [(0, .long y0), (2, .long y2)] [] (gE Lx) I L e (kcp (Wp 114) 114 34 0 [(0, .long y0), (2, .long y2)] 71 [] Q)))))) :
    Wp 114 0 [(0, .long y0), (2, .long y2)] [] (gE Lx) I L e Q := by
  refine w_a f_114_0 ?_
  refine w_a f_114_1 ?_
  refine w_a f_114_4 ?_
  refine i_m (fun h => ?_) (fun h => ?_) h
  · refine w_a f_114_30 ?_
    refine w_a f_114_31 ?_
    exact h
  · refine w_a f_114_8 ?_
    refine w_a f_114_9 ?_
    refine w_a f_114_12 ?_
    refine i_m (fun h => ?_) (fun h => ?_) h
    · refine w_a f_114_30 ?_
      refine w_a f_114_31 ?_
      exact h
    · refine w_a f_114_16 ?_
      refine w_a f_114_17 ?_
      refine w_a f_114_18 ?_
      refine i_m (fun h => ?_) (fun h => ?_) h
      · refine w_a f_114_30 ?_
        refine w_a f_114_31 ?_
        exact h
      · refine w_a f_114_22 ?_
        refine w_a f_114_23 ?_
        refine w_a f_114_26 ?_
        refine i_m (fun h => ?_) (fun h => ?_) h
        · refine w_a f_114_30 ?_
          refine w_a f_114_31 ?_
          exact h
        · refine w_a f_114_32 ?_
          refine w_a f_114_33 ?_
          exact w_c (ks := [0, 2]) f_114_34 rfl rfl h
set_option maxRecDepth 10000 in
set_option maxHeartbeats 4000000 in
theorem s_114_37 {Lx : Nat} {I : Mi} {L : Ml} {e : Nat} {Q : Kq} {y0 : Int64} {y2 : Int64} {rl : Int64} (h :
    (if rl = (Int64.ofInt 1) then
     (if (Int64.ofInt 0) < y2 then
      Q (.inl (some (.int (Int32.ofInt 1)))) (gE Lx) I L e
     else
      (if (Int64.ofInt 0) < y0 then
       Q (.inl (some (.int (Int32.ofInt 1)))) (gE Lx) I L e
      else
       Q (.inl (some (.int (Int32.ofInt 0)))) (gE Lx) I L e))
    else
     Q (.inl (some (.int (Int32.ofInt 0)))) (gE Lx) I L e)) :
    Wp 114 37 [(0, .long y0), (2, .long y2)] [.long rl] (gE Lx) I L e Q := by
  refine w_a f_114_37 ?_
  refine w_a f_114_38 ?_
  refine i_m (fun h => ?_) (fun h => ?_) h
  · refine w_a f_114_42 ?_
    refine w_a f_114_43 ?_
    refine w_a f_114_44 ?_
    refine i_m (fun h => ?_) (fun h => ?_) h
    · refine w_a f_114_54 ?_
      refine w_a f_114_55 ?_
      refine w_a f_114_59 ?_
      exact h
    · refine w_a f_114_48 ?_
      refine w_a f_114_49 ?_
      refine w_a f_114_50 ?_
      refine i_m (fun h => ?_) (fun h => ?_) h
      · refine w_a f_114_54 ?_
        refine w_a f_114_55 ?_
        refine w_a f_114_59 ?_
        exact h
      · refine w_a f_114_58 ?_
        refine w_a f_114_59 ?_
        exact h
  · refine w_a f_114_58 ?_
    refine w_a f_114_59 ?_
    exact h
set_option maxRecDepth 10000 in
set_option maxHeartbeats 4000000 in
theorem s_116_11 {Lx : Nat} {I : Mi} {L : Ml} {e : Nat} {Q : Kq} {x1 : Int32} {x2 : Int32} {x3 : Int32} (h :
    (if x1 < 0 then
     Q (.inl none) (gE Lx) I L e
    else
     (if x1 < (Int32.ofInt 4) then
      (inb x1 4 (
       (inb x1 4 (
        Q (.inl none) (gE Lx) (ui (ui I 7 x1.toNatClampNeg x2) 8 x1.toNatClampNeg x3) L e)
       False))
      False)
     else
      Q (.inl none) (gE Lx) I L e))) :
    Wp 116 11 [(0, .ref 1), (1, .int x1), (2, .int x2), (3, .int x3)] [] (gE Lx) I L e Q := by
  refine w_a f_116_11 ?_
  refine w_a f_116_12 ?_
  refine w_a f_116_15 ?_
  refine w_a f_116_16 ?_
  refine w_a f_116_17 ?_
  refine w_a f_116_18 ?_
  refine w_a (ls := [(0, .ref 5), (1, .int x1), (2, .int x2), (3, .int x3)]) f_20_0 ?_
  refine w_a f_20_1 ?_
  refine w_a f_20_2 ?_
  refine w_a (ls := [(0, .ref 5), (1, .int x1)]) f_13_0 ?_
  refine w_a f_13_1 ?_
  refine i_m (fun h => ?_) (fun h => ?_) h
  · refine w_a f_13_13 ?_
    refine w_a f_13_14 ?_
    refine w_a (ls := [(0, .ref 5), (1, .int x1), (2, .int x2), (3, .int x3)]) f_20_5 ?_
    refine w_a f_20_22 ?_
    refine w_a (ls := [(0, .ref 1), (1, .int x1), (2, .int x2), (3, .int x3)]) f_116_21 ?_
    exact h
  · refine w_a f_13_4 ?_
    refine w_a f_13_5 ?_
    refine w_a f_13_6 ?_
    refine i_m (fun h => ?_) (fun h => ?_) h
    · refine w_a f_13_9 ?_
      refine w_a f_13_10 ?_
      refine w_a f_13_14 ?_
      refine w_a (ls := [(0, .ref 5), (1, .int x1), (2, .int x2), (3, .int x3)]) f_20_5 ?_
      refine w_a f_20_8 ?_
      refine w_a f_20_9 ?_
      refine w_a f_20_12 ?_
      refine w_a f_20_13 ?_
      refine w_a f_20_14 ?_
      refine n_m (fun h => ?_) h
      refine w_a f_20_15 ?_
      refine w_a f_20_16 ?_
      refine w_a f_20_19 ?_
      refine w_a f_20_20 ?_
      refine w_a f_20_21 ?_
      refine n_m (fun h => ?_) h
      refine w_a f_20_22 ?_
      refine w_a (ls := [(0, .ref 1), (1, .int x1), (2, .int x2), (3, .int x3)]) f_116_21 ?_
      exact h
    · refine w_a f_13_13 ?_
      refine w_a f_13_14 ?_
      refine w_a (ls := [(0, .ref 5), (1, .int x1), (2, .int x2), (3, .int x3)]) f_20_5 ?_
      refine w_a f_20_22 ?_
      refine w_a (ls := [(0, .ref 1), (1, .int x1), (2, .int x2), (3, .int x3)]) f_116_21 ?_
      exact h
set_option maxRecDepth 10000 in
set_option maxHeartbeats 4000000 in
theorem s_119_23 {Lx : Nat} {I : Mi} {L : Ml} {e : Nat} {Q : Kq} {r : Int32} (h :
    Q (.inl (some (.int r))) (gE Lx) I L e) :
    Wp 119 23 [(0, .ref 1)] [.int r] (gE Lx) I L e Q := by
  refine w_a f_119_23 ?_
  exact h
set_option maxRecDepth 10000 in
set_option maxHeartbeats 4000000 in
theorem s_119_37 {Lx : Nat} {I : Mi} {L : Ml} {e : Nat} {Q : Kq} {r : Int32} (h :
    Wp 119 48 [(0, .ref 1)] [.int r] (gE Lx) I L e Q) :
    Wp 119 37 [(0, .ref 1)] [.int r] (gE Lx) I L e Q := by
  refine w_a f_119_37 ?_
  exact w_n (ks := [0]) rfl h
set_option maxRecDepth 10000 in
set_option maxHeartbeats 4000000 in
theorem s_119_48 {Lx : Nat} {I : Mi} {L : Ml} {e : Nat} {Q : Kq} {r : Int32} (h :
    Q (.inl (some (.int r))) (gE Lx) I L e) :
    Wp 119 48 [(0, .ref 1)] [.int r] (gE Lx) I L e Q := by
  refine w_a f_119_48 ?_
  exact h
set_option maxRecDepth 10000 in
set_option maxHeartbeats 4000000 in
theorem s_121_17 {Lx : Nat} {I : Mi} {L : Ml} {e : Nat} {Q : Kq} {x2 : Int32} {x3 : Int32} (h :
    (if (L 14 2) = (Int64.ofInt 0) then
     (if (L 14 3) = (Int64.ofInt 0) then
      Q (.inr 102) (gE Lx) I L (e + 1)
     else
      (if x2 = 0 then
       Wp 25 0 [(0, .ref 18), (1, .long (((L 14 0) * (L 14 2)) + ((L 14 1) * (L 14 3)))), (3, .long (((L 14 2) * (L 14 2)) + ((L 14 3) * (L 14 3))))] [] (gE Lx) I L e (kcp (Wp 121) 121 67 0 [(0, .ref 1), (3, .int x3)] 71 [] Q)
      else
       Wp 25 0 [(0, .ref 18), (1, .long (((L 14 1) * (L 14 2)) - ((L 14 0) * (L 14 3)))), (3, .long (((L 14 2) * (L 14 2)) + ((L 14 3) * (L 14 3))))] [] (gE Lx) I L e (kcp (Wp 121) 121 67 0 [(0, .ref 1), (3, .int x3)] 71 [] Q)))
    else
     (if x2 = 0 then
      Wp 25 0 [(0, .ref 18), (1, .long (((L 14 0) * (L 14 2)) + ((L 14 1) * (L 14 3)))), (3, .long (((L 14 2) * (L 14 2)) + ((L 14 3) * (L 14 3))))] [] (gE Lx) I L e (kcp (Wp 121) 121 67 0 [(0, .ref 1), (3, .int x3)] 71 [] Q)
     else
      Wp 25 0 [(0, .ref 18), (1, .long (((L 14 1) * (L 14 2)) - ((L 14 0) * (L 14 3)))), (3, .long (((L 14 2) * (L 14 2)) + ((L 14 3) * (L 14 3))))] [] (gE Lx) I L e (kcp (Wp 121) 121 67 0 [(0, .ref 1), (3, .int x3)] 71 [] Q)))) :
    Wp 121 17 [(0, .ref 1), (2, .int x2), (3, .int x3)] [] (gE Lx) I L e Q := by
  refine w_a f_121_17 ?_
  refine w_a f_121_18 ?_
  refine w_a f_121_21 ?_
  refine w_a (ls := [(0, .ref 14)]) f_80_0 ?_
  refine w_a f_80_1 ?_
  refine w_a f_80_4 ?_
  refine w_a f_80_5 ?_
  refine i_m (fun h => ?_) (fun h => ?_) h
  · refine w_a f_80_9 ?_
    refine w_a f_80_10 ?_
    refine w_a f_80_13 ?_
    refine w_a f_80_14 ?_
    refine i_m (fun h => ?_) (fun h => ?_) h
    · refine w_a f_80_18 ?_
      refine w_a f_80_19 ?_
      refine w_a f_80_23 ?_
      refine w_a (ls := [(0, .ref 1), (2, .int x2), (3, .int x3)]) f_121_24 ?_
      refine w_a f_121_27 ?_
      exact h
    · refine w_a f_80_22 ?_
      refine w_a f_80_23 ?_
      refine w_a (ls := [(0, .ref 1), (2, .int x2), (3, .int x3)]) f_121_24 ?_
      refine w_a f_121_35 ?_
      refine w_a f_121_36 ?_
      refine w_a f_121_39 ?_
      refine w_a f_121_40 ?_
      refine i_m (fun h => ?_) (fun h => ?_) h
      · refine w_a f_121_53 ?_
        refine w_a f_121_54 ?_
        refine w_a f_121_57 ?_
        refine w_a (ls := [(0, .ref 14)]) f_82_0 ?_
        refine w_a f_82_1 ?_
        refine w_a f_82_4 ?_
        refine w_a f_82_5 ?_
        refine w_a f_82_8 ?_
        refine w_a f_82_9 ?_
        refine w_a f_82_10 ?_
        refine w_a f_82_13 ?_
        refine w_a f_82_14 ?_
        refine w_a f_82_17 ?_
        refine w_a f_82_18 ?_
        refine w_a f_82_19 ?_
        refine w_a (ls := [(0, .ref 1), (2, .int x2), (3, .int x3)]) f_121_60 ?_
        refine w_a f_121_61 ?_
        refine w_a f_121_64 ?_
        refine w_a (ls := [(0, .ref 14)]) f_83_0 ?_
        refine w_a f_83_1 ?_
        refine w_a f_83_4 ?_
        refine w_a f_83_5 ?_
        refine w_a f_83_8 ?_
        refine w_a f_83_9 ?_
        refine w_a f_83_10 ?_
        refine w_a f_83_13 ?_
        refine w_a f_83_14 ?_
        refine w_a f_83_17 ?_
        refine w_a f_83_18 ?_
        refine w_a f_83_19 ?_
        exact w_c (ls := [(0, .ref 1), (2, .int x2), (3, .int x3)]) (ks := [0, 3]) f_121_67 rfl rfl h
      · refine w_a f_121_43 ?_
        refine w_a f_121_44 ?_
        refine w_a f_121_47 ?_
        refine w_a (ls := [(0, .ref 14)]) f_81_0 ?_
        refine w_a f_81_1 ?_
        refine w_a f_81_4 ?_
        refine w_a f_81_5 ?_
        refine w_a f_81_8 ?_
        refine w_a f_81_9 ?_
        refine w_a f_81_10 ?_
        refine w_a f_81_13 ?_
        refine w_a f_81_14 ?_
        refine w_a f_81_17 ?_
        refine w_a f_81_18 ?_
        refine w_a f_81_19 ?_
        refine w_a (ls := [(0, .ref 1), (2, .int x2), (3, .int x3)]) f_121_50 ?_
        refine w_a f_121_60 ?_
        refine w_a f_121_61 ?_
        refine w_a f_121_64 ?_
        refine w_a (ls := [(0, .ref 14)]) f_83_0 ?_
        refine w_a f_83_1 ?_
        refine w_a f_83_4 ?_
        refine w_a f_83_5 ?_
        refine w_a f_83_8 ?_
        refine w_a f_83_9 ?_
        refine w_a f_83_10 ?_
        refine w_a f_83_13 ?_
        refine w_a f_83_14 ?_
        refine w_a f_83_17 ?_
        refine w_a f_83_18 ?_
        refine w_a f_83_19 ?_
        exact w_c (ls := [(0, .ref 1), (2, .int x2), (3, .int x3)]) (ks := [0, 3]) f_121_67 rfl rfl h
  · refine w_a f_80_22 ?_
    refine w_a f_80_23 ?_
    refine w_a (ls := [(0, .ref 1), (2, .int x2), (3, .int x3)]) f_121_24 ?_
    refine w_a f_121_35 ?_
    refine w_a f_121_36 ?_
    refine w_a f_121_39 ?_
    refine w_a f_121_40 ?_
    refine i_m (fun h => ?_) (fun h => ?_) h
    · refine w_a f_121_53 ?_
      refine w_a f_121_54 ?_
      refine w_a f_121_57 ?_
      refine w_a (ls := [(0, .ref 14)]) f_82_0 ?_
      refine w_a f_82_1 ?_
      refine w_a f_82_4 ?_
      refine w_a f_82_5 ?_
      refine w_a f_82_8 ?_
      refine w_a f_82_9 ?_
      refine w_a f_82_10 ?_
      refine w_a f_82_13 ?_
      refine w_a f_82_14 ?_
      refine w_a f_82_17 ?_
      refine w_a f_82_18 ?_
      refine w_a f_82_19 ?_
      refine w_a (ls := [(0, .ref 1), (2, .int x2), (3, .int x3)]) f_121_60 ?_
      refine w_a f_121_61 ?_
      refine w_a f_121_64 ?_
      refine w_a (ls := [(0, .ref 14)]) f_83_0 ?_
      refine w_a f_83_1 ?_
      refine w_a f_83_4 ?_
      refine w_a f_83_5 ?_
      refine w_a f_83_8 ?_
      refine w_a f_83_9 ?_
      refine w_a f_83_10 ?_
      refine w_a f_83_13 ?_
      refine w_a f_83_14 ?_
      refine w_a f_83_17 ?_
      refine w_a f_83_18 ?_
      refine w_a f_83_19 ?_
      exact w_c (ls := [(0, .ref 1), (2, .int x2), (3, .int x3)]) (ks := [0, 3]) f_121_67 rfl rfl h
    · refine w_a f_121_43 ?_
      refine w_a f_121_44 ?_
      refine w_a f_121_47 ?_
      refine w_a (ls := [(0, .ref 14)]) f_81_0 ?_
      refine w_a f_81_1 ?_
      refine w_a f_81_4 ?_
      refine w_a f_81_5 ?_
      refine w_a f_81_8 ?_
      refine w_a f_81_9 ?_
      refine w_a f_81_10 ?_
      refine w_a f_81_13 ?_
      refine w_a f_81_14 ?_
      refine w_a f_81_17 ?_
      refine w_a f_81_18 ?_
      refine w_a f_81_19 ?_
      refine w_a (ls := [(0, .ref 1), (2, .int x2), (3, .int x3)]) f_121_50 ?_
      refine w_a f_121_60 ?_
      refine w_a f_121_61 ?_
      refine w_a f_121_64 ?_
      refine w_a (ls := [(0, .ref 14)]) f_83_0 ?_
      refine w_a f_83_1 ?_
      refine w_a f_83_4 ?_
      refine w_a f_83_5 ?_
      refine w_a f_83_8 ?_
      refine w_a f_83_9 ?_
      refine w_a f_83_10 ?_
      refine w_a f_83_13 ?_
      refine w_a f_83_14 ?_
      refine w_a f_83_17 ?_
      refine w_a f_83_18 ?_
      refine w_a f_83_19 ?_
      exact w_c (ls := [(0, .ref 1), (2, .int x2), (3, .int x3)]) (ks := [0, 3]) f_121_67 rfl rfl h
set_option maxRecDepth 10000 in
set_option maxHeartbeats 4000000 in
theorem s_121_70 {Lx : Nat} {I : Mi} {L : Ml} {e : Nat} {Q : Kq} {x3 : Int32} (h :
    (if x3 = 0 then
     Q (.inl (some (.long (L 18 0)))) (gE Lx) I L e
    else
     Q (.inl (some (.long (L 18 1)))) (gE Lx) I L e)) :
    Wp 121 70 [(0, .ref 1), (3, .int x3)] [] (gE Lx) I L e Q := by
  refine w_a f_121_70 ?_
  refine w_a f_121_71 ?_
  refine w_a f_121_74 ?_
  refine w_a f_121_75 ?_
  refine w_a (ls := [(0, .ref 18), (1, .int x3)]) f_31_0 ?_
  refine w_a f_31_1 ?_
  refine i_m (fun h => ?_) (fun h => ?_) h
  · refine w_a f_31_11 ?_
    refine w_a f_31_12 ?_
    refine w_a f_31_15 ?_
    refine w_a (ls := [(0, .ref 1), (3, .int x3)]) f_121_78 ?_
    exact h
  · refine w_a f_31_4 ?_
    refine w_a f_31_5 ?_
    refine w_a f_31_8 ?_
    refine w_a f_31_15 ?_
    refine w_a (ls := [(0, .ref 1), (3, .int x3)]) f_121_78 ?_
    exact h
set_option maxRecDepth 10000 in
set_option maxHeartbeats 4000000 in
theorem s_123_17 {Lx : Nat} {I : Mi} {L : Ml} {e : Nat} {Q : Kq} (h :
    (if (L 14 2) = (Int64.ofInt 0) then
     (if (L 14 3) = (Int64.ofInt 0) then
      Q (.inl (some (.int (Int32.ofInt 1)))) (gE Lx) I L e
     else
      Q (.inl (some (.int (Int32.ofInt 0)))) (gE Lx) I L e)
    else
     Q (.inl (some (.int (Int32.ofInt 0)))) (gE Lx) I L e)) :
    Wp 123 17 [(0, .ref 1)] [] (gE Lx) I L e Q := by
  refine w_a f_123_17 ?_
  refine w_a f_123_18 ?_
  refine w_a f_123_21 ?_
  refine w_a (ls := [(0, .ref 14)]) f_80_0 ?_
  refine w_a f_80_1 ?_
  refine w_a f_80_4 ?_
  refine w_a f_80_5 ?_
  refine i_m (fun h => ?_) (fun h => ?_) h
  · refine w_a f_80_9 ?_
    refine w_a f_80_10 ?_
    refine w_a f_80_13 ?_
    refine w_a f_80_14 ?_
    refine i_m (fun h => ?_) (fun h => ?_) h
    · refine w_a f_80_18 ?_
      refine w_a f_80_19 ?_
      refine w_a f_80_23 ?_
      refine w_a (ls := [(0, .ref 1)]) f_123_24 ?_
      exact h
    · refine w_a f_80_22 ?_
      refine w_a f_80_23 ?_
      refine w_a (ls := [(0, .ref 1)]) f_123_24 ?_
      exact h
  · refine w_a f_80_22 ?_
    refine w_a f_80_23 ?_
    refine w_a (ls := [(0, .ref 1)]) f_123_24 ?_
    exact h
set_option maxRecDepth 10000 in
set_option maxHeartbeats 4000000 in
theorem s_124_17 {Lx : Nat} {I : Mi} {L : Ml} {e : Nat} {Q : Kq} {x2 : Int32} (h :
    Wp 25 0 [(0, .ref 18), (1, .long ((((L 14 0) - (L 14 2)) * ((L 14 0) - (L 14 2))) + (((L 14 1) - (L 14 3)) * ((L 14 1) - (L 14 3))))), (3, .long ((((L 14 0) + (L 14 2)) * ((L 14 0) + (L 14 2))) + (((L 14 1) + (L 14 3)) * ((L 14 1) + (L 14 3)))))] [] (gE Lx) I L e (kcp (Wp 124) 124 35 0 [(0, .ref 1), (2, .int x2)] 71 [] Q)) :
    Wp 124 17 [(0, .ref 1), (2, .int x2)] [] (gE Lx) I L e Q := by
  refine w_a f_124_17 ?_
  refine w_a f_124_18 ?_
  refine w_a f_124_21 ?_
  refine w_a f_124_22 ?_
  refine w_a f_124_25 ?_
  refine w_a (ls := [(0, .ref 14)]) f_78_0 ?_
  refine w_a f_78_1 ?_
  refine w_a f_78_4 ?_
  refine w_a f_78_5 ?_
  refine w_a f_78_8 ?_
  refine w_a f_78_9 ?_
  refine w_a (ls := [(1, .long ((L 14 0) - (L 14 2))), (0, .ref 14)]) f_78_10 ?_
  refine w_a f_78_11 ?_
  refine w_a f_78_14 ?_
  refine w_a f_78_15 ?_
  refine w_a f_78_18 ?_
  refine w_a f_78_19 ?_
  refine w_a (ls := [(3, .long ((L 14 1) - (L 14 3))), (1, .long ((L 14 0) - (L 14 2))), (0, .ref 14)]) f_78_20 ?_
  refine w_a f_78_21 ?_
  refine w_a f_78_22 ?_
  refine w_a f_78_23 ?_
  refine w_a f_78_24 ?_
  refine w_a f_78_25 ?_
  refine w_a f_78_26 ?_
  refine w_a f_78_27 ?_
  refine w_a (ls := [(0, .ref 1), (2, .int x2)]) f_124_28 ?_
  refine w_a f_124_29 ?_
  refine w_a f_124_32 ?_
  refine w_a (ls := [(0, .ref 14)]) f_79_0 ?_
  refine w_a f_79_1 ?_
  refine w_a f_79_4 ?_
  refine w_a f_79_5 ?_
  refine w_a f_79_8 ?_
  refine w_a f_79_9 ?_
  refine w_a (ls := [(1, .long ((L 14 0) + (L 14 2))), (0, .ref 14)]) f_79_10 ?_
  refine w_a f_79_11 ?_
  refine w_a f_79_14 ?_
  refine w_a f_79_15 ?_
  refine w_a f_79_18 ?_
  refine w_a f_79_19 ?_
  refine w_a (ls := [(3, .long ((L 14 1) + (L 14 3))), (1, .long ((L 14 0) + (L 14 2))), (0, .ref 14)]) f_79_20 ?_
  refine w_a f_79_21 ?_
  refine w_a f_79_22 ?_
  refine w_a f_79_23 ?_
  refine w_a f_79_24 ?_
  refine w_a f_79_25 ?_
  refine w_a f_79_26 ?_
  refine w_a f_79_27 ?_
  exact w_c (ls := [(0, .ref 1), (2, .int x2)]) (ks := [0, 2]) f_124_35 rfl rfl h
set_option maxRecDepth 10000 in
set_option maxHeartbeats 4000000 in
theorem s_124_38 {Lx : Nat} {I : Mi} {L : Ml} {e : Nat} {Q : Kq} {x2 : Int32} (h :
    (if x2 = 0 then
     Q (.inl (some (.long (L 18 0)))) (gE Lx) I L e
    else
     Q (.inl (some (.long (L 18 1)))) (gE Lx) I L e)) :
    Wp 124 38 [(0, .ref 1), (2, .int x2)] [] (gE Lx) I L e Q := by
  refine w_a f_124_38 ?_
  refine w_a f_124_39 ?_
  refine w_a f_124_42 ?_
  refine w_a f_124_43 ?_
  refine w_a (ls := [(0, .ref 18), (1, .int x2)]) f_31_0 ?_
  refine w_a f_31_1 ?_
  refine i_m (fun h => ?_) (fun h => ?_) h
  · refine w_a f_31_11 ?_
    refine w_a f_31_12 ?_
    refine w_a f_31_15 ?_
    refine w_a (ls := [(0, .ref 1), (2, .int x2)]) f_124_46 ?_
    exact h
  · refine w_a f_31_4 ?_
    refine w_a f_31_5 ?_
    refine w_a f_31_8 ?_
    refine w_a f_31_15 ?_
    refine w_a (ls := [(0, .ref 1), (2, .int x2)]) f_124_46 ?_
    exact h
set_option maxRecDepth 10000 in
set_option maxHeartbeats 4000000 in
theorem s_125_16 {Lx : Nat} {I : Mi} {L : Ml} {e : Nat} {Q : Kq} (h :
    Wp 128 0 [(0, .ref 1)] [] (gE Lx) I L e (kcp (Wp 125) 125 17 0 [(0, .ref 1)] 71 [] Q)) :
    Wp 125 16 [(0, .ref 1)] [] (gE Lx) I L e Q := by
  refine w_a f_125_16 ?_
  exact w_c (ks := [0]) f_125_17 rfl rfl h
set_option maxRecDepth 10000 in
set_option maxHeartbeats 4000000 in
theorem s_125_20 {Lx : Nat} {I : Mi} {L : Ml} {e : Nat} {Q : Kq} {r : Int32} (h :
    Q (.inl (some (.int r))) (gE Lx) I L e) :
    Wp 125 20 [(0, .ref 1)] [.int r] (gE Lx) I L e Q := by
  refine w_a f_125_20 ?_
  exact h
set_option maxRecDepth 10000 in
set_option maxHeartbeats 4000000 in
theorem s_127_10 {Lx : Nat} {I : Mi} {L : Ml} {e : Nat} {Q : Kq} (h :
    Wp 127 19 [(0, .ref 1), (1, .ref 5)] [] (gE Lx) I L e Q) :
    Wp 127 10 [(0, .ref 1), (1, .ref 5)] [] (gE Lx) I L e Q := by
  refine w_a f_127_10 ?_
  exact w_n (ks := [0, 1]) rfl h
set_option maxRecDepth 10000 in
set_option maxHeartbeats 4000000 in
theorem s_127_19 {Lx : Nat} {I : Mi} {L : Ml} {e : Nat} {Q : Kq} (h :
    Q (.inl none) (gE Lx) I L e) :
    Wp 127 19 [(0, .ref 1), (1, .ref 5)] [] (gE Lx) I L e Q := by
  refine w_a f_127_19 ?_
  exact h
set_option maxRecDepth 10000 in
set_option maxHeartbeats 4000000 in
theorem s_128_0 {Lx : Nat} {I : Mi} {L : Ml} {e : Nat} {Q : Kq} (h :
    Wp 99 0 [(0, .ref 1)] [] (gE Lx) I L e (kcp (Wp 128) 128 1 0 [(0, .ref 1)] 71 [] Q)) :
    Wp 128 0 [(0, .ref 1)] [] (gE Lx) I L e Q := by
  refine w_a f_128_0 ?_
  exact w_c (ks := [0]) f_128_1 rfl rfl h
set_option maxRecDepth 10000 in
set_option maxHeartbeats 4000000 in
theorem s_128_4 {Lx : Nat} {I : Mi} {L : Ml} {e : Nat} {Q : Kq} (h :
    Wp 128 8 [(0, .ref 1), (1, .int (Int32.ofInt 0)), (2, .int (Int32.ofInt 0))] [] (gE Lx) I L e Q) :
    Wp 128 4 [(0, .ref 1)] [] (gE Lx) I L e Q := by
  refine w_a f_128_4 ?_
  refine w_a f_128_5 ?_
  refine w_a (ls := [(1, .int (Int32.ofInt 0)), (0, .ref 1)]) f_128_6 ?_
  refine w_a f_128_7 ?_
  exact w_n (ks := [0, 1, 2]) rfl h
set_option maxRecDepth 10000 in
set_option maxHeartbeats 4000000 in
theorem s_128_8 {Lx : Nat} {I : Mi} {L : Ml} {e : Nat} {Q : Kq} {x1 : Int32} {x2 : Int32} (h :
    (if x2 < (Int32.ofInt 5) then
     Wp 128 20 [(0, .ref 1), (1, .int (x1 * (Int32.ofInt 10))), (2, .int x2), (3, .int (Int32.ofInt 0))] [] (gE Lx) I L e Q
    else
     Q (.inl (some (.int x1))) (gE Lx) I L e)) :
    Wp 128 8 [(0, .ref 1), (1, .int x1), (2, .int x2)] [] (gE Lx) I L e Q := by
  refine w_a f_128_8 ?_
  refine w_a f_128_9 ?_
  refine w_a f_128_10 ?_
  refine i_m (fun h => ?_) (fun h => ?_) h
  · refine w_a f_128_13 ?_
    refine w_a f_128_14 ?_
    refine w_a f_128_16 ?_
    refine w_a f_128_17 ?_
    refine w_a (ls := [(1, .int (x1 * (Int32.ofInt 10))), (0, .ref 1), (2, .int x2)]) f_128_18 ?_
    refine w_a f_128_19 ?_
    exact w_n (ks := [0, 1, 2, 3]) rfl h
  · refine w_a f_128_75 ?_
    refine w_a f_128_76 ?_
    exact h
set_option maxRecDepth 10000 in
set_option maxHeartbeats 4000000 in
theorem s_128_20 {Lx : Nat} {I : Mi} {L : Ml} {e : Nat} {Q : Kq} {x1 : Int32} {x2 : Int32} {x3 : Int32} (h :
    (if x3 < (Int32.ofInt 10) then
     Wp 9 0 [(0, .ref 24), (1, .ref 26)] [] (gE Lx) I L e (kcp (Wp 128) 128 34 0 [(0, .ref 1), (1, .int x1), (2, .int x2), (3, .int x3)] 71 [] Q)
    else
     Wp 8 0 [(0, .ref 24), (1, .int (Int32.ofInt 10))] [] (gE Lx) I L e (kcp (Wp 128) 128 66 0 [(0, .ref 1), (1, .int x1), (2, .int x2)] 71 [] Q))) :
    Wp 128 20 [(0, .ref 1), (1, .int x1), (2, .int x2), (3, .int x3)] [] (gE Lx) I L e Q := by
  refine w_a f_128_20 ?_
  refine w_a f_128_21 ?_
  refine w_a f_128_23 ?_
  refine i_m (fun h => ?_) (fun h => ?_) h
  · refine w_a f_128_26 ?_
    refine w_a f_128_27 ?_
    refine w_a f_128_30 ?_
    refine w_a f_128_31 ?_
    exact w_c (ks := [0, 1, 2, 3]) f_128_34 rfl rfl h
  · refine w_a f_128_60 ?_
    refine w_a f_128_61 ?_
    refine w_a f_128_64 ?_
    exact w_c (ks := [0, 1, 2]) f_128_66 rfl rfl h
set_option maxRecDepth 10000 in
set_option maxHeartbeats 4000000 in
theorem s_128_37 {Lx : Nat} {I : Mi} {L : Ml} {e : Nat} {Q : Kq} {x1 : Int32} {x2 : Int32} {x3 : Int32} {r : Int32} (h :
    (if r < 0 then
     Wp 8 0 [(0, .ref 24), (1, .int (Int32.ofInt 10))] [] (gE Lx) I L e (kcp (Wp 128) 128 66 0 [(0, .ref 1), (1, .int x1), (2, .int x2)] 71 [] Q)
    else
     Wp 10 0 [(0, .ref 24), (1, .ref 26)] [] (gE Lx) I L e (kcp (Wp 128) 128 48 0 [(0, .ref 1), (1, .int x1), (2, .int x2), (3, .int x3)] 71 [] Q))) :
    Wp 128 37 [(0, .ref 1), (1, .int x1), (2, .int x2), (3, .int x3)] [.int r] (gE Lx) I L e Q := by
  refine w_a f_128_37 ?_
  refine i_m (fun h => ?_) (fun h => ?_) h
  · refine w_a f_128_60 ?_
    refine w_a f_128_61 ?_
    refine w_a f_128_64 ?_
    exact w_c (ks := [0, 1, 2]) f_128_66 rfl rfl h
  · refine w_a f_128_40 ?_
    refine w_a f_128_41 ?_
    refine w_a f_128_44 ?_
    refine w_a f_128_45 ?_
    exact w_c (ks := [0, 1, 2, 3]) f_128_48 rfl rfl h
set_option maxRecDepth 10000 in
set_option maxHeartbeats 4000000 in
theorem s_128_51 {Lx : Nat} {I : Mi} {L : Ml} {e : Nat} {Q : Kq} {x1 : Int32} {x2 : Int32} {x3 : Int32} (h :
    Wp 128 20 [(0, .ref 1), (1, .int (x1 + Int32.ofInt 1)), (2, .int x2), (3, .int (x3 + Int32.ofInt 1))] [] (gE Lx) I L e Q) :
    Wp 128 51 [(0, .ref 1), (1, .int x1), (2, .int x2), (3, .int x3)] [] (gE Lx) I L e Q := by
  refine w_a f_128_51 ?_
  refine w_a (ls := [(1, .int (x1 + Int32.ofInt 1)), (0, .ref 1), (2, .int x2), (3, .int x3)]) f_128_54 ?_
  refine w_a (ls := [(3, .int (x3 + Int32.ofInt 1)), (1, .int (x1 + Int32.ofInt 1)), (0, .ref 1), (2, .int x2)]) f_128_57 ?_
  exact w_n (ks := [0, 1, 2, 3]) rfl h
set_option maxRecDepth 10000 in
set_option maxHeartbeats 4000000 in
theorem s_128_69 {Lx : Nat} {I : Mi} {L : Ml} {e : Nat} {Q : Kq} {x1 : Int32} {x2 : Int32} (h :
    Wp 128 8 [(0, .ref 1), (1, .int x1), (2, .int (x2 + Int32.ofInt 1))] [] (gE Lx) I L e Q) :
    Wp 128 69 [(0, .ref 1), (1, .int x1), (2, .int x2)] [] (gE Lx) I L e Q := by
  refine w_a f_128_69 ?_
  refine w_a (ls := [(2, .int (x2 + Int32.ofInt 1)), (0, .ref 1), (1, .int x1)]) f_128_72 ?_
  exact w_n (ks := [0, 1, 2]) rfl h
set_option maxRecDepth 10000 in
set_option maxHeartbeats 4000000 in
theorem s_129_16 {Lx : Nat} {I : Mi} {L : Ml} {e : Nat} {Q : Kq} (h :
    Wp 98 0 [(0, .ref 1)] [] (gE Lx) I L e (kcp (Wp 129) 129 17 0 [(0, .ref 1)] 71 [] Q)) :
    Wp 129 16 [(0, .ref 1)] [] (gE Lx) I L e Q := by
  refine w_a f_129_16 ?_
  exact w_c (ks := [0]) f_129_17 rfl rfl h
set_option maxRecDepth 10000 in
set_option maxHeartbeats 4000000 in
theorem s_129_20 {Lx : Nat} {I : Mi} {L : Ml} {e : Nat} {Q : Kq} {r : Int32} (h :
    (if r = 0 then
     Q (.inl (some (.int (Int32.ofInt 0)))) (gE Lx) I L e
    else if r = 1 then
     Q (.inl (some (.int (Int32.ofInt 1)))) (gE Lx) I L e
    else False)) :
    Wp 129 20 [(0, .ref 1)] [.int r] (gE Lx) I L e Q := by
  refine w_a f_129_20 ?_
  refine i_m (fun h => ?_) (i_m (fun h => ?_) id) h
  · exact h
  · exact h
set_option maxRecDepth 10000 in
set_option maxHeartbeats 4000000 in
theorem s_130_6 {Lx : Nat} {I : Mi} {L : Ml} {e : Nat} {Q : Kq} {x1 : Int32} {x2 : Int32} {x3 : Int32} (h :
    Wp 32 0 [(0, .long ((x1.toInt64 * x1.toInt64) + (x2.toInt64 * x2.toInt64)))] [] (gE Lx) I L e (kcp (Wp 130) 130 21 0 [(0, .ref 1), (1, .int x1), (2, .int x2), (3, .int x3), (4, .long ((x1.toInt64 * x1.toInt64) + (x2.toInt64 * x2.toInt64)))] 71 [] Q)) :
    Wp 130 6 [(0, .ref 1), (1, .int x1), (2, .int x2), (3, .int x3)] [] (gE Lx) I L e Q := by
  refine w_a f_130_6 ?_
  refine w_a f_130_7 ?_
  refine w_a f_130_8 ?_
  refine w_a f_130_9 ?_
  refine w_a f_130_10 ?_
  refine w_a f_130_11 ?_
  refine w_a f_130_12 ?_
  refine w_a f_130_13 ?_
  refine w_a f_130_14 ?_
  refine w_a f_130_15 ?_
  refine w_a f_130_16 ?_
  refine w_a f_130_17 ?_
  refine w_a (ls := [(4, .long ((x1.toInt64 * x1.toInt64) + (x2.toInt64 * x2.toInt64))), (0, .ref 1), (1, .int x1), (2, .int x2), (3, .int x3)]) f_130_19 ?_
  exact w_c (ks := [0, 1, 2, 3, 4]) f_130_21 rfl rfl h
set_option maxRecDepth 10000 in
set_option maxHeartbeats 4000000 in
theorem s_130_24 {Lx : Nat} {I : Mi} {L : Ml} {e : Nat} {Q : Kq} {x1 : Int32} {x2 : Int32} {x3 : Int32} {y4 : Int64} {rl : Int64} (h :
    (if (rl * rl) = y4 then
     (if x1 = 0 then
      Wp 25 0 [(0, .ref 18), (1, .long (Int64.ofInt 0)), (3, .long (Int64.ofInt 1))] [] (gE Lx) I L e (kcp (Wp 130) 130 59 0 [(0, .ref 1), (3, .int x3)] 71 [] Q)
     else
      (if 0 < x1 then
       Wp 25 0 [(0, .ref 18), (1, .long (rl - x2.toInt64)), (3, .long x1.toInt64)] [] (gE Lx) I L e (kcp (Wp 130) 130 80 0 [(0, .ref 1), (3, .int x3)] 71 [] Q)
      else
       Wp 25 0 [(0, .ref 18), (1, .long (rl + x2.toInt64)), (3, .long (-x1).toInt64)] [] (gE Lx) I L e (kcp (Wp 130) 130 98 0 [(0, .ref 1), (3, .int x3)] 71 [] Q)))
    else
     (if x1 = 0 then
      (if x1 = 0 then
       Wp 25 0 [(0, .ref 18), (1, .long (Int64.ofInt 0)), (3, .long (Int64.ofInt 1))] [] (gE Lx) I L e (kcp (Wp 130) 130 59 0 [(0, .ref 1), (3, .int x3)] 71 [] Q)
      else
       (if 0 < x1 then
        Wp 25 0 [(0, .ref 18), (1, .long (rl - x2.toInt64)), (3, .long x1.toInt64)] [] (gE Lx) I L e (kcp (Wp 130) 130 80 0 [(0, .ref 1), (3, .int x3)] 71 [] Q)
       else
        Wp 25 0 [(0, .ref 18), (1, .long (rl + x2.toInt64)), (3, .long (-x1).toInt64)] [] (gE Lx) I L e (kcp (Wp 130) 130 98 0 [(0, .ref 1), (3, .int x3)] 71 [] Q)))
     else
      Q (.inr 102) (gE Lx) I L (e + 1)))) :
    Wp 130 24 [(0, .ref 1), (1, .int x1), (2, .int x2), (3, .int x3), (4, .long y4)] [.long rl] (gE Lx) I L e Q := by
  refine w_a f_130_24 ?_
  refine w_a (ls := [(6, .long rl), (0, .ref 1), (1, .int x1), (2, .int x2), (3, .int x3), (4, .long y4)]) f_130_26 ?_
  refine w_a f_130_28 ?_
  refine w_a f_130_30 ?_
  refine w_a f_130_31 ?_
  refine w_a f_130_33 ?_
  refine i_m (fun h => ?_) (fun h => ?_) h
  · refine w_a f_130_49 ?_
    refine w_a f_130_50 ?_
    refine i_m (fun h => ?_) (fun h => ?_) h
    · refine w_a f_130_53 ?_
      refine w_a f_130_54 ?_
      refine w_a f_130_57 ?_
      refine w_a f_130_58 ?_
      exact w_c (ks := [0, 3]) f_130_59 rfl rfl h
    · refine w_a f_130_65 ?_
      refine w_a f_130_66 ?_
      refine i_m (fun h => ?_) (fun h => ?_) h
      · refine w_a f_130_69 ?_
        refine w_a f_130_70 ?_
        refine w_a f_130_73 ?_
        refine w_a f_130_75 ?_
        refine w_a f_130_76 ?_
        refine w_a f_130_77 ?_
        refine w_a f_130_78 ?_
        refine w_a f_130_79 ?_
        exact w_c (ks := [0, 3]) f_130_80 rfl rfl h
      · refine w_a f_130_86 ?_
        refine w_a f_130_87 ?_
        refine w_a f_130_90 ?_
        refine w_a f_130_92 ?_
        refine w_a f_130_93 ?_
        refine w_a f_130_94 ?_
        refine w_a f_130_95 ?_
        refine w_a f_130_96 ?_
        refine w_a f_130_97 ?_
        exact w_c (ks := [0, 3]) f_130_98 rfl rfl h
  · refine w_a f_130_37 ?_
    refine w_a f_130_38 ?_
    refine i_m (fun h => ?_) (fun h => ?_) h
    · refine w_a f_130_49 ?_
      refine w_a f_130_50 ?_
      refine i_m (fun h => ?_) (fun h => ?_) h
      · refine w_a f_130_53 ?_
        refine w_a f_130_54 ?_
        refine w_a f_130_57 ?_
        refine w_a f_130_58 ?_
        exact w_c (ks := [0, 3]) f_130_59 rfl rfl h
      · refine w_a f_130_65 ?_
        refine w_a f_130_66 ?_
        refine i_m (fun h => ?_) (fun h => ?_) h
        · refine w_a f_130_69 ?_
          refine w_a f_130_70 ?_
          refine w_a f_130_73 ?_
          refine w_a f_130_75 ?_
          refine w_a f_130_76 ?_
          refine w_a f_130_77 ?_
          refine w_a f_130_78 ?_
          refine w_a f_130_79 ?_
          exact w_c (ks := [0, 3]) f_130_80 rfl rfl h
        · refine w_a f_130_86 ?_
          refine w_a f_130_87 ?_
          refine w_a f_130_90 ?_
          refine w_a f_130_92 ?_
          refine w_a f_130_93 ?_
          refine w_a f_130_94 ?_
          refine w_a f_130_95 ?_
          refine w_a f_130_96 ?_
          refine w_a f_130_97 ?_
          exact w_c (ks := [0, 3]) f_130_98 rfl rfl h
    · refine w_a f_130_41 ?_
      exact h
set_option maxRecDepth 10000 in
set_option maxHeartbeats 4000000 in
theorem s_130_62 {Lx : Nat} {I : Mi} {L : Ml} {e : Nat} {Q : Kq} {x3 : Int32} (h :
    Wp 130 101 [(0, .ref 1), (3, .int x3)] [] (gE Lx) I L e Q) :
    Wp 130 62 [(0, .ref 1), (3, .int x3)] [] (gE Lx) I L e Q := by
  refine w_a f_130_62 ?_
  exact w_n (ks := [0, 3]) rfl h
set_option maxRecDepth 10000 in
set_option maxHeartbeats 4000000 in
theorem s_130_83 {Lx : Nat} {I : Mi} {L : Ml} {e : Nat} {Q : Kq} {x3 : Int32} (h :
    Wp 130 101 [(0, .ref 1), (3, .int x3)] [] (gE Lx) I L e Q) :
    Wp 130 83 [(0, .ref 1), (3, .int x3)] [] (gE Lx) I L e Q := by
  refine w_a f_130_83 ?_
  exact w_n (ks := [0, 3]) rfl h
set_option maxRecDepth 10000 in
set_option maxHeartbeats 4000000 in
theorem s_130_101 {Lx : Nat} {I : Mi} {L : Ml} {e : Nat} {Q : Kq} {x3 : Int32} (h :
    (if x3 = 0 then
     Q (.inl (some (.int (L 18 0).toInt32))) (gE Lx) I L e
    else
     Q (.inl (some (.int (L 18 1).toInt32))) (gE Lx) I L e)) :
    Wp 130 101 [(0, .ref 1), (3, .int x3)] [] (gE Lx) I L e Q := by
  refine w_a f_130_101 ?_
  refine w_a f_130_102 ?_
  refine w_a f_130_105 ?_
  refine w_a f_130_106 ?_
  refine w_a (ls := [(0, .ref 18), (1, .int x3)]) f_31_0 ?_
  refine w_a f_31_1 ?_
  refine i_m (fun h => ?_) (fun h => ?_) h
  · refine w_a f_31_11 ?_
    refine w_a f_31_12 ?_
    refine w_a f_31_15 ?_
    refine w_a (ls := [(0, .ref 1), (3, .int x3)]) f_130_109 ?_
    refine w_a f_130_110 ?_
    exact h
  · refine w_a f_31_4 ?_
    refine w_a f_31_5 ?_
    refine w_a f_31_8 ?_
    refine w_a f_31_15 ?_
    refine w_a (ls := [(0, .ref 1), (3, .int x3)]) f_130_109 ?_
    refine w_a f_130_110 ?_
    exact h
set_option maxRecDepth 10000 in
set_option maxHeartbeats 4000000 in
theorem s_131_6 {Lx : Nat} {I : Mi} {L : Ml} {e : Nat} {Q : Kq} {x1 : Int32} {x2 : Int32} {x3 : Int32} {x4 : Int32} (h :
    (if x3 < (Int32.ofInt 1) then
     Q (.inr 101) (gE Lx) I L (e + 1)
    else
     (if (Int32.ofInt 4) < x3 then
      Q (.inr 101) (gE Lx) I L (e + 1)
     else
      Wp 30 0 [(0, .ref 18), (1, .long x1.toInt64), (3, .long x2.toInt64), (5, .int x3)] [] (gE Lx) I L e (kcp (Wp 131) 131 33 0 [(0, .ref 1), (4, .int x4)] 71 [] Q)))) :
    Wp 131 6 [(0, .ref 1), (1, .int x1), (2, .int x2), (3, .int x3), (4, .int x4)] [] (gE Lx) I L e Q := by
  refine w_a f_131_6 ?_
  refine w_a f_131_7 ?_
  refine w_a f_131_8 ?_
  refine i_m (fun h => ?_) (fun h => ?_) h
  · refine w_a f_131_16 ?_
    exact h
  · refine w_a f_131_11 ?_
    refine w_a f_131_12 ?_
    refine w_a f_131_13 ?_
    refine i_m (fun h => ?_) (fun h => ?_) h
    · refine w_a f_131_16 ?_
      exact h
    · refine w_a f_131_24 ?_
      refine w_a f_131_25 ?_
      refine w_a f_131_28 ?_
      refine w_a f_131_29 ?_
      refine w_a f_131_30 ?_
      refine w_a f_131_31 ?_
      refine w_a f_131_32 ?_
      exact w_c (ks := [0, 4]) f_131_33 rfl rfl h
set_option maxRecDepth 10000 in
set_option maxHeartbeats 4000000 in
theorem s_131_36 {Lx : Nat} {I : Mi} {L : Ml} {e : Nat} {Q : Kq} {x4 : Int32} (h :
    (if x4 = 0 then
     Q (.inl (some (.int (L 18 0).toInt32))) (gE Lx) I L e
    else
     Q (.inl (some (.int (L 18 1).toInt32))) (gE Lx) I L e)) :
    Wp 131 36 [(0, .ref 1), (4, .int x4)] [] (gE Lx) I L e Q := by
  refine w_a f_131_36 ?_
  refine w_a f_131_37 ?_
  refine w_a f_131_40 ?_
  refine w_a f_131_42 ?_
  refine w_a (ls := [(0, .ref 18), (1, .int x4)]) f_31_0 ?_
  refine w_a f_31_1 ?_
  refine i_m (fun h => ?_) (fun h => ?_) h
  · refine w_a f_31_11 ?_
    refine w_a f_31_12 ?_
    refine w_a f_31_15 ?_
    refine w_a (ls := [(0, .ref 1), (4, .int x4)]) f_131_45 ?_
    refine w_a f_131_46 ?_
    exact h
  · refine w_a f_31_4 ?_
    refine w_a f_31_5 ?_
    refine w_a f_31_8 ?_
    refine w_a f_31_15 ?_
    refine w_a (ls := [(0, .ref 1), (4, .int x4)]) f_131_45 ?_
    refine w_a f_131_46 ?_
    exact h
set_option maxRecDepth 10000 in
set_option maxHeartbeats 4000000 in
theorem s_132_6 {Lx : Nat} {I : Mi} {L : Ml} {e : Nat} {Q : Kq} {x1 : Int32} {x2 : Int32} {x3 : Int32} {x4 : Int32} {x5 : Int32} (h :
    Wp 114 0 [(0, .long x3.toInt64), (2, .long x4.toInt64)] [] (gE Lx) I L e (kcp (Wp 113) 113 4 0 [(0, .ref 1)] 71 [] (kcp (Wp 132) 132 10 0 [(0, .ref 1), (1, .int x1), (2, .int x2), (3, .int x3), (4, .int x4), (5, .int x5)] 71 [] Q))) :
    Wp 132 6 [(0, .ref 1), (1, .int x1), (2, .int x2), (3, .int x3), (4, .int x4), (5, .int x5)] [] (gE Lx) I L e Q := by
  refine w_a f_132_6 ?_
  refine w_a f_132_7 ?_
  refine w_a f_132_8 ?_
  refine w_c (ks := [0, 1, 2, 3, 4, 5]) f_132_10 rfl rfl ?_
  refine w_a (ls := [(0, .ref 1), (1, .int x3), (2, .int x4)]) f_113_0 ?_
  refine w_a f_113_1 ?_
  refine w_a f_113_2 ?_
  refine w_a f_113_3 ?_
  exact w_c (ks := [0]) f_113_4 rfl rfl h
set_option maxRecDepth 10000 in
set_option maxHeartbeats 4000000 in
theorem s_132_13 {Lx : Nat} {I : Mi} {L : Ml} {e : Nat} {Q : Kq} {x1 : Int32} {x2 : Int32} {x3 : Int32} {x4 : Int32} {x5 : Int32} (h :
    Wp 25 0 [(0, .ref 18), (1, .long x1.toInt64), (3, .long x2.toInt64)] [] (gE Lx) I L e (kcp (Wp 132) 132 21 0 [(0, .ref 1), (3, .int x3), (4, .int x4), (5, .int x5)] 71 [] Q)) :
    Wp 132 13 [(0, .ref 1), (1, .int x1), (2, .int x2), (3, .int x3), (4, .int x4), (5, .int x5)] [] (gE Lx) I L e Q := by
  refine w_a f_132_13 ?_
  refine w_a f_132_14 ?_
  refine w_a f_132_17 ?_
  refine w_a f_132_18 ?_
  refine w_a f_132_19 ?_
  refine w_a f_132_20 ?_
  exact w_c (ks := [0, 3, 4, 5]) f_132_21 rfl rfl h
set_option maxRecDepth 10000 in
set_option maxHeartbeats 4000000 in
theorem s_132_24 {Lx : Nat} {I : Mi} {L : Ml} {e : Nat} {Q : Kq} {x3 : Int32} {x4 : Int32} {x5 : Int32} (h :
    Wp 25 0 [(0, .ref 18), (1, .long (((L 18 0) * x4.toInt64) + ((L 18 1) * x3.toInt64))), (3, .long (((L 18 1) * x4.toInt64) - ((L 18 0) * x3.toInt64)))] [] (gE Lx) I L e (kcp (Wp 27) 27 27 0 [(0, .ref 18)] 71 [] (kcp (Wp 132) 132 33 0 [(0, .ref 1), (5, .int x5)] 71 [] Q))) :
    Wp 132 24 [(0, .ref 1), (3, .int x3), (4, .int x4), (5, .int x5)] [] (gE Lx) I L e Q := by
  refine w_a f_132_24 ?_
  refine w_a f_132_25 ?_
  refine w_a f_132_28 ?_
  refine w_a f_132_29 ?_
  refine w_a f_132_30 ?_
  refine w_a f_132_32 ?_
  refine w_c (ks := [0, 5]) f_132_33 rfl rfl ?_
  refine w_a (ls := [(0, .ref 18), (1, .long x3.toInt64), (3, .long x4.toInt64)]) f_27_0 ?_
  refine w_a f_27_1 ?_
  refine w_a f_27_2 ?_
  refine w_a f_27_5 ?_
  refine w_a f_27_6 ?_
  refine w_a f_27_7 ?_
  refine w_a f_27_8 ?_
  refine w_a f_27_11 ?_
  refine w_a f_27_12 ?_
  refine w_a f_27_13 ?_
  refine w_a f_27_14 ?_
  refine w_a f_27_15 ?_
  refine w_a f_27_18 ?_
  refine w_a f_27_19 ?_
  refine w_a f_27_20 ?_
  refine w_a f_27_21 ?_
  refine w_a f_27_24 ?_
  refine w_a f_27_25 ?_
  refine w_a f_27_26 ?_
  exact w_c (ks := [0]) f_27_27 rfl rfl h
set_option maxRecDepth 10000 in
set_option maxHeartbeats 4000000 in
theorem s_132_36 {Lx : Nat} {I : Mi} {L : Ml} {e : Nat} {Q : Kq} {x5 : Int32} (h :
    (if x5 = 0 then
     Q (.inl (some (.int (L 18 0).toInt32))) (gE Lx) I L e
    else
     Q (.inl (some (.int (L 18 1).toInt32))) (gE Lx) I L e)) :
    Wp 132 36 [(0, .ref 1), (5, .int x5)] [] (gE Lx) I L e Q := by
  refine w_a f_132_36 ?_
  refine w_a f_132_37 ?_
  refine w_a f_132_40 ?_
  refine w_a f_132_42 ?_
  refine w_a (ls := [(0, .ref 18), (1, .int x5)]) f_31_0 ?_
  refine w_a f_31_1 ?_
  refine i_m (fun h => ?_) (fun h => ?_) h
  · refine w_a f_31_11 ?_
    refine w_a f_31_12 ?_
    refine w_a f_31_15 ?_
    refine w_a (ls := [(0, .ref 1), (5, .int x5)]) f_132_45 ?_
    refine w_a f_132_46 ?_
    exact h
  · refine w_a f_31_4 ?_
    refine w_a f_31_5 ?_
    refine w_a f_31_8 ?_
    refine w_a f_31_15 ?_
    refine w_a (ls := [(0, .ref 1), (5, .int x5)]) f_132_45 ?_
    refine w_a f_132_46 ?_
    exact h
set_option maxRecDepth 10000 in
set_option maxHeartbeats 4000000 in
theorem s_133_6 {Lx : Nat} {I : Mi} {L : Ml} {e : Nat} {Q : Kq} {x1 : Int32} {x2 : Int32} {x3 : Int32} {x4 : Int32} (h :
    Wp 114 0 [(0, .long x3.toInt64), (2, .long x4.toInt64)] [] (gE Lx) I L e (kcp (Wp 113) 113 4 0 [(0, .ref 1)] 71 [] (kcp (Wp 133) 133 10 0 [(0, .ref 1), (1, .int x1), (2, .int x2), (3, .int x3), (4, .int x4)] 71 [] Q))) :
    Wp 133 6 [(0, .ref 1), (1, .int x1), (2, .int x2), (3, .int x3), (4, .int x4)] [] (gE Lx) I L e Q := by
  refine w_a f_133_6 ?_
  refine w_a f_133_7 ?_
  refine w_a f_133_8 ?_
  refine w_c (ks := [0, 1, 2, 3, 4]) f_133_10 rfl rfl ?_
  refine w_a (ls := [(0, .ref 1), (1, .int x3), (2, .int x4)]) f_113_0 ?_
  refine w_a f_113_1 ?_
  refine w_a f_113_2 ?_
  refine w_a f_113_3 ?_
  exact w_c (ks := [0]) f_113_4 rfl rfl h
set_option maxRecDepth 10000 in
set_option maxHeartbeats 4000000 in
theorem s_133_13 {Lx : Nat} {I : Mi} {L : Ml} {e : Nat} {Q : Kq} {x1 : Int32} {x2 : Int32} {x3 : Int32} {x4 : Int32} (h :
    Wp 28 0 [(0, .long x1.toInt64), (2, .long x2.toInt64), (4, .long x3.toInt64), (6, .long x4.toInt64)] [] (gE Lx) I L e (kcp (Wp 133) 133 22 0 [(0, .ref 1)] 71 [] Q)) :
    Wp 133 13 [(0, .ref 1), (1, .int x1), (2, .int x2), (3, .int x3), (4, .int x4)] [] (gE Lx) I L e Q := by
  refine w_a f_133_13 ?_
  refine w_a f_133_14 ?_
  refine w_a f_133_15 ?_
  refine w_a f_133_16 ?_
  refine w_a f_133_17 ?_
  refine w_a f_133_18 ?_
  refine w_a f_133_19 ?_
  refine w_a f_133_21 ?_
  exact w_c (ks := [0]) f_133_22 rfl rfl h
set_option maxRecDepth 10000 in
set_option maxHeartbeats 4000000 in
theorem s_133_25 {Lx : Nat} {I : Mi} {L : Ml} {e : Nat} {Q : Kq} {r : Int32} (h :
    Q (.inl (some (.int r))) (gE Lx) I L e) :
    Wp 133 25 [(0, .ref 1)] [.int r] (gE Lx) I L e Q := by
  refine w_a f_133_25 ?_
  exact h
set_option maxRecDepth 10000 in
set_option maxHeartbeats 4000000 in
theorem s_134_6 {Lx : Nat} {I : Mi} {L : Ml} {e : Nat} {Q : Kq} (h :
    Q (.inl (some (.int (I 19 0)))) (gE Lx) I L e) :
    Wp 134 6 [(0, .ref 1)] [] (gE Lx) I L e Q := by
  refine w_a f_134_6 ?_
  refine w_a f_134_7 ?_
  refine w_a f_134_10 ?_
  refine w_a f_134_13 ?_
  exact h
set_option maxRecDepth 10000 in
set_option maxHeartbeats 4000000 in
theorem s_135_10 {Lx : Nat} {I : Mi} {L : Ml} {e : Nat} {Q : Kq} {x2 : Int32} (h :
    Wp 39 0 [(0, .ref 19), (1, .ref 17), (2, .int x2)] [] (gE Lx) I L e (kcp (Wp 135) 135 19 0 [(0, .ref 1)] 71 [] Q)) :
    Wp 135 10 [(0, .ref 1), (2, .int x2)] [] (gE Lx) I L e Q := by
  refine w_a f_135_10 ?_
  refine w_a f_135_11 ?_
  refine w_a f_135_14 ?_
  refine w_a f_135_15 ?_
  refine w_a f_135_18 ?_
  exact w_c (ks := [0]) f_135_19 rfl rfl h
set_option maxRecDepth 10000 in
set_option maxHeartbeats 4000000 in
theorem s_135_22 {Lx : Nat} {I : Mi} {L : Ml} {e : Nat} {Q : Kq} (h :
    Q (.inl none) (gE Lx) I L e) :
    Wp 135 22 [(0, .ref 1)] [] (gE Lx) I L e Q := by
  refine w_a f_135_22 ?_
  exact h
set_option maxRecDepth 10000 in
set_option maxHeartbeats 4000000 in
theorem s_136_0 {Lx : Nat} {I : Mi} {L : Ml} {e : Nat} {Q : Kq} {x1 : Int32} (h :
    Wp 106 0 [(0, .ref 5), (1, .int x1), (2, .ref 14)] [] (gE Lx) I L e (kcp (Wp 136) 136 9 0 [(0, .ref 1)] 71 [] Q)) :
    Wp 136 0 [(0, .ref 1), (1, .int x1)] [] (gE Lx) I L e Q := by
  refine w_a f_136_0 ?_
  refine w_a f_136_1 ?_
  refine w_a f_136_4 ?_
  refine w_a f_136_5 ?_
  refine w_a f_136_6 ?_
  exact w_c (ks := [0]) f_136_9 rfl rfl h
set_option maxRecDepth 10000 in
set_option maxHeartbeats 4000000 in
theorem s_136_12 {Lx : Nat} {I : Mi} {L : Ml} {e : Nat} {Q : Kq} (h :
    Wp 53 0 [(0, .ref 17), (1, .long (((L 14 0) * (L 14 2)) + ((L 14 1) * (L 14 3)))), (3, .long (((L 14 1) * (L 14 2)) - ((L 14 0) * (L 14 3)))), (5, .long (((L 14 2) * (L 14 2)) + ((L 14 3) * (L 14 3))))] [] (gE Lx) I L e (kcp (Wp 52) 52 13 0 [(0, .ref 17), (1, .ref 14)] 71 [] (kcp (Wp 136) 136 20 0 [(0, .ref 1)] 71 [] Q))) :
    Wp 136 12 [(0, .ref 1)] [] (gE Lx) I L e Q := by
  refine w_a f_136_12 ?_
  refine w_a f_136_13 ?_
  refine w_a f_136_16 ?_
  refine w_a f_136_17 ?_
  refine w_c (ks := [0]) f_136_20 rfl rfl ?_
  refine w_a (ls := [(0, .ref 17), (1, .ref 14)]) f_52_0 ?_
  refine w_a f_52_1 ?_
  refine w_a f_52_2 ?_
  refine w_a (ls := [(0, .ref 14)]) f_82_0 ?_
  refine w_a f_82_1 ?_
  refine w_a f_82_4 ?_
  refine w_a f_82_5 ?_
  refine w_a f_82_8 ?_
  refine w_a f_82_9 ?_
  refine w_a f_82_10 ?_
  refine w_a f_82_13 ?_
  refine w_a f_82_14 ?_
  refine w_a f_82_17 ?_
  refine w_a f_82_18 ?_
  refine w_a f_82_19 ?_
  refine w_a (ls := [(0, .ref 17), (1, .ref 14)]) f_52_5 ?_
  refine w_a f_52_6 ?_
  refine w_a (ls := [(0, .ref 14)]) f_81_0 ?_
  refine w_a f_81_1 ?_
  refine w_a f_81_4 ?_
  refine w_a f_81_5 ?_
  refine w_a f_81_8 ?_
  refine w_a f_81_9 ?_
  refine w_a f_81_10 ?_
  refine w_a f_81_13 ?_
  refine w_a f_81_14 ?_
  refine w_a f_81_17 ?_
  refine w_a f_81_18 ?_
  refine w_a f_81_19 ?_
  refine w_a (ls := [(0, .ref 17), (1, .ref 14)]) f_52_9 ?_
  refine w_a f_52_10 ?_
  refine w_a (ls := [(0, .ref 14)]) f_83_0 ?_
  refine w_a f_83_1 ?_
  refine w_a f_83_4 ?_
  refine w_a f_83_5 ?_
  refine w_a f_83_8 ?_
  refine w_a f_83_9 ?_
  refine w_a f_83_10 ?_
  refine w_a f_83_13 ?_
  refine w_a f_83_14 ?_
  refine w_a f_83_17 ?_
  refine w_a f_83_18 ?_
  refine w_a f_83_19 ?_
  exact w_c (ls := [(0, .ref 17), (1, .ref 14)]) (ks := [0, 1]) f_52_13 rfl rfl h
set_option maxRecDepth 10000 in
set_option maxHeartbeats 4000000 in
theorem s_136_23 {Lx : Nat} {I : Mi} {L : Ml} {e : Nat} {Q : Kq} {r : Int32} (h :
    (if r = 0 then
     Q (.inr 102) (gE Lx) I L (e + 1)
    else
     Q (.inl none) (gE Lx) I L e)) :
    Wp 136 23 [(0, .ref 1)] [.int r] (gE Lx) I L e Q := by
  refine w_a f_136_23 ?_
  refine i_m (fun h => ?_) (fun h => ?_) h
  · refine w_a f_136_26 ?_
    exact h
  · refine w_a f_136_34 ?_
    exact h
set_option maxRecDepth 10000 in
set_option maxHeartbeats 4000000 in
theorem s_137_6 {Lx : Nat} {I : Mi} {L : Ml} {e : Nat} {Q : Kq} {x3 : Int32} (h :
    (if x3 < 0 then
     Q (.inr 102) (gE Lx) I L (e + 1)
    else
     (if x3 < (I 19 0) then
      (if (I 19 1) = 0 then
       Q (.inl (some (.int (Int32.ofInt 0)))) (gE Lx) I L e
      else if (I 19 1) = 1 then
       Q (.inl (some (.int (Int32.ofInt 1)))) (gE Lx) I L e
      else False)
     else
      Q (.inr 102) (gE Lx) I L (e + 1)))) :
    Wp 137 6 [(0, .ref 1), (3, .int x3)] [] (gE Lx) I L e Q := by
  refine w_a f_137_6 ?_
  refine w_a f_137_7 ?_
  refine w_a f_137_8 ?_
  refine w_a (ls := [(0, .ref 1), (1, .int x3)]) f_138_0 ?_
  refine w_a f_138_1 ?_
  refine i_m (fun h => ?_) (fun h => ?_) h
  · refine w_a f_138_15 ?_
    exact h
  · refine w_a f_138_4 ?_
    refine w_a f_138_5 ?_
    refine w_a f_138_6 ?_
    refine w_a f_138_9 ?_
    refine w_a f_138_12 ?_
    refine i_m (fun h => ?_) (fun h => ?_) h
    · refine w_a f_138_23 ?_
      refine w_a (ls := [(0, .ref 1), (3, .int x3)]) f_137_11 ?_
      refine w_a f_137_12 ?_
      refine w_a f_137_15 ?_
      refine w_a f_137_18 ?_
      refine i_m (fun h => ?_) (i_m (fun h => ?_) id) h
      · exact h
      · exact h
    · refine w_a f_138_15 ?_
      exact h
set_option maxRecDepth 10000 in
set_option maxHeartbeats 4000000 in
theorem s_139_6 {Lx : Nat} {I : Mi} {L : Ml} {e : Nat} {Q : Kq} {x3 : Int32} {x4 : Int32} (h :
    (if x3 < 0 then
     Q (.inr 102) (gE Lx) I L (e + 1)
    else
     (if x3 < (I 19 0) then
      (if (I 19 1) = 0 then
       Q (.inr 102) (gE Lx) I L (e + 1)
      else
       Wp 45 0 [(0, .ref 19), (1, .int x3)] [] (gE Lx) I L e (kcp (Wp 44) 44 2 0 [(0, .ref 19), (2, .ref 18)] 71 [] (kcp (Wp 139) 139 20 0 [(0, .ref 1), (4, .int x4)] 71 [] Q)))
     else
      Q (.inr 102) (gE Lx) I L (e + 1)))) :
    Wp 139 6 [(0, .ref 1), (3, .int x3), (4, .int x4)] [] (gE Lx) I L e Q := by
  refine w_a f_139_6 ?_
  refine w_a f_139_7 ?_
  refine w_a f_139_8 ?_
  refine w_a (ls := [(0, .ref 1), (1, .int x3)]) f_140_0 ?_
  refine w_a f_140_1 ?_
  refine i_m (fun h => ?_) (fun h => ?_) h
  · refine w_a f_140_25 ?_
    exact h
  · refine w_a f_140_4 ?_
    refine w_a f_140_5 ?_
    refine w_a f_140_6 ?_
    refine w_a f_140_9 ?_
    refine w_a f_140_12 ?_
    refine i_m (fun h => ?_) (fun h => ?_) h
    · refine w_a f_140_15 ?_
      refine w_a f_140_16 ?_
      refine w_a f_140_19 ?_
      refine w_a f_140_22 ?_
      refine i_m (fun h => ?_) (fun h => ?_) h
      · refine w_a f_140_25 ?_
        exact h
      · refine w_a f_140_33 ?_
        refine w_a (ls := [(0, .ref 1), (3, .int x3), (4, .int x4)]) f_139_11 ?_
        refine w_a f_139_12 ?_
        refine w_a f_139_15 ?_
        refine w_a f_139_16 ?_
        refine w_a f_139_17 ?_
        refine w_c (ks := [0, 4]) f_139_20 rfl rfl ?_
        refine w_a (ls := [(0, .ref 19), (1, .int x3), (2, .ref 18)]) f_44_0 ?_
        refine w_a f_44_1 ?_
        exact w_c (ks := [0, 2]) f_44_2 rfl rfl h
    · refine w_a f_140_25 ?_
      exact h
set_option maxRecDepth 10000 in
set_option maxHeartbeats 4000000 in
theorem s_139_23 {Lx : Nat} {I : Mi} {L : Ml} {e : Nat} {Q : Kq} {x4 : Int32} (h :
    (if x4 = 0 then
     Q (.inl (some (.long (L 18 0)))) (gE Lx) I L e
    else
     Q (.inl (some (.long (L 18 1)))) (gE Lx) I L e)) :
    Wp 139 23 [(0, .ref 1), (4, .int x4)] [] (gE Lx) I L e Q := by
  refine w_a f_139_23 ?_
  refine w_a f_139_24 ?_
  refine w_a f_139_27 ?_
  refine w_a f_139_29 ?_
  refine w_a (ls := [(0, .ref 18), (1, .int x4)]) f_31_0 ?_
  refine w_a f_31_1 ?_
  refine i_m (fun h => ?_) (fun h => ?_) h
  · refine w_a f_31_11 ?_
    refine w_a f_31_12 ?_
    refine w_a f_31_15 ?_
    refine w_a (ls := [(0, .ref 1), (4, .int x4)]) f_139_32 ?_
    exact h
  · refine w_a f_31_4 ?_
    refine w_a f_31_5 ?_
    refine w_a f_31_8 ?_
    refine w_a f_31_15 ?_
    refine w_a (ls := [(0, .ref 1), (4, .int x4)]) f_139_32 ?_
    exact h
set_option maxRecDepth 10000 in
set_option maxHeartbeats 4000000 in
theorem s_141_6 {Lx : Nat} {I : Mi} {L : Ml} {e : Nat} {Q : Kq} {x3 : Int32} (h :
    (if x3 < 0 then
     Q (.inr 102) (gE Lx) I L (e + 1)
    else
     (if x3 < (I 19 0) then
      Wp 45 0 [(0, .ref 19), (1, .int x3)] [] (gE Lx) I L e (kcp (Wp 46) 46 2 0 [(0, .ref 19)] 71 [] (kcp (Wp 141) 141 16 0 [(0, .ref 1)] 71 [] Q))
     else
      Q (.inr 102) (gE Lx) I L (e + 1)))) :
    Wp 141 6 [(0, .ref 1), (3, .int x3)] [] (gE Lx) I L e Q := by
  refine w_a f_141_6 ?_
  refine w_a f_141_7 ?_
  refine w_a f_141_8 ?_
  refine w_a (ls := [(0, .ref 1), (1, .int x3)]) f_138_0 ?_
  refine w_a f_138_1 ?_
  refine i_m (fun h => ?_) (fun h => ?_) h
  · refine w_a f_138_15 ?_
    exact h
  · refine w_a f_138_4 ?_
    refine w_a f_138_5 ?_
    refine w_a f_138_6 ?_
    refine w_a f_138_9 ?_
    refine w_a f_138_12 ?_
    refine i_m (fun h => ?_) (fun h => ?_) h
    · refine w_a f_138_23 ?_
      refine w_a (ls := [(0, .ref 1), (3, .int x3)]) f_141_11 ?_
      refine w_a f_141_12 ?_
      refine w_a f_141_15 ?_
      refine w_c (ks := [0]) f_141_16 rfl rfl ?_
      refine w_a (ls := [(0, .ref 19), (1, .int x3)]) f_46_0 ?_
      refine w_a f_46_1 ?_
      exact w_c (ks := [0]) f_46_2 rfl rfl h
    · refine w_a f_138_15 ?_
      exact h
set_option maxRecDepth 10000 in
set_option maxHeartbeats 4000000 in
theorem s_141_19 {Lx : Nat} {I : Mi} {L : Ml} {e : Nat} {Q : Kq} {rl : Int64} (h :
    Q (.inl (some (.long rl))) (gE Lx) I L e) :
    Wp 141 19 [(0, .ref 1)] [.long rl] (gE Lx) I L e Q := by
  refine w_a f_141_19 ?_
  exact h
set_option maxRecDepth 10000 in
set_option maxHeartbeats 4000000 in
theorem s_142_6 {Lx : Nat} {I : Mi} {L : Ml} {e : Nat} {Q : Kq} {x3 : Int32} {x4 : Int32} (h :
    (if x3 < 0 then
     Q (.inr 102) (gE Lx) I L (e + 1)
    else
     (if x3 < (I 19 0) then
      (if (I 19 1) = 0 then
       Q (.inr 102) (gE Lx) I L (e + 1)
      else
       (if (I 19 2) = 0 then
        Wp 45 0 [(0, .ref 19), (1, .int x3)] [] (gE Lx) I L e (kcp (Wp 49) 49 17 0 [(0, .ref 19)] 71 [] (kcp (Wp 48) 48 3 0 [(0, .ref 19), (2, .ref 18)] 71 [.ref 18] (kcp (Wp 142) 142 20 0 [(0, .ref 1), (4, .int x4)] 71 [] Q)))
       else
        Wp 45 0 [(0, .ref 19), (1, .int x3)] [] (gE Lx) I L e (kcp (Wp 49) 49 9 0 [(0, .ref 19)] 71 [] (kcp (Wp 48) 48 3 0 [(0, .ref 19), (2, .ref 18)] 71 [.ref 18] (kcp (Wp 142) 142 20 0 [(0, .ref 1), (4, .int x4)] 71 [] Q)))))
     else
      Q (.inr 102) (gE Lx) I L (e + 1)))) :
    Wp 142 6 [(0, .ref 1), (3, .int x3), (4, .int x4)] [] (gE Lx) I L e Q := by
  refine w_a f_142_6 ?_
  refine w_a f_142_7 ?_
  refine w_a f_142_8 ?_
  refine w_a (ls := [(0, .ref 1), (1, .int x3)]) f_140_0 ?_
  refine w_a f_140_1 ?_
  refine i_m (fun h => ?_) (fun h => ?_) h
  · refine w_a f_140_25 ?_
    exact h
  · refine w_a f_140_4 ?_
    refine w_a f_140_5 ?_
    refine w_a f_140_6 ?_
    refine w_a f_140_9 ?_
    refine w_a f_140_12 ?_
    refine i_m (fun h => ?_) (fun h => ?_) h
    · refine w_a f_140_15 ?_
      refine w_a f_140_16 ?_
      refine w_a f_140_19 ?_
      refine w_a f_140_22 ?_
      refine i_m (fun h => ?_) (fun h => ?_) h
      · refine w_a f_140_25 ?_
        exact h
      · refine w_a f_140_33 ?_
        refine w_a (ls := [(0, .ref 1), (3, .int x3), (4, .int x4)]) f_142_11 ?_
        refine w_a f_142_12 ?_
        refine w_a f_142_15 ?_
        refine w_a f_142_16 ?_
        refine w_a f_142_17 ?_
        refine w_c (ks := [0, 4]) f_142_20 rfl rfl ?_
        refine w_a (ls := [(0, .ref 19), (1, .int x3), (2, .ref 18)]) f_48_0 ?_
        refine w_a f_48_1 ?_
        refine w_a f_48_2 ?_
        refine w_c (ks := [0, 2]) f_48_3 rfl rfl ?_
        refine w_a (ls := [(0, .ref 19), (1, .int x3)]) f_49_0 ?_
        refine w_a f_49_1 ?_
        refine w_a f_49_4 ?_
        refine i_m (fun h => ?_) (fun h => ?_) h
        · refine w_a f_49_15 ?_
          refine w_a f_49_16 ?_
          exact w_c (ks := [0]) f_49_17 rfl rfl h
        · refine w_a f_49_7 ?_
          refine w_a f_49_8 ?_
          exact w_c (ks := [0]) f_49_9 rfl rfl h
    · refine w_a f_140_25 ?_
      exact h
set_option maxRecDepth 10000 in
set_option maxHeartbeats 4000000 in
theorem s_142_23 {Lx : Nat} {I : Mi} {L : Ml} {e : Nat} {Q : Kq} {x4 : Int32} (h :
    (if x4 = 0 then
     Q (.inl (some (.long (L 18 0)))) (gE Lx) I L e
    else
     Q (.inl (some (.long (L 18 1)))) (gE Lx) I L e)) :
    Wp 142 23 [(0, .ref 1), (4, .int x4)] [] (gE Lx) I L e Q := by
  refine w_a f_142_23 ?_
  refine w_a f_142_24 ?_
  refine w_a f_142_27 ?_
  refine w_a f_142_29 ?_
  refine w_a (ls := [(0, .ref 18), (1, .int x4)]) f_31_0 ?_
  refine w_a f_31_1 ?_
  refine i_m (fun h => ?_) (fun h => ?_) h
  · refine w_a f_31_11 ?_
    refine w_a f_31_12 ?_
    refine w_a f_31_15 ?_
    refine w_a (ls := [(0, .ref 1), (4, .int x4)]) f_142_32 ?_
    exact h
  · refine w_a f_31_4 ?_
    refine w_a f_31_5 ?_
    refine w_a f_31_8 ?_
    refine w_a f_31_15 ?_
    refine w_a (ls := [(0, .ref 1), (4, .int x4)]) f_142_32 ?_
    exact h
set_option maxRecDepth 10000 in
set_option maxHeartbeats 4000000 in
theorem s_143_6 {Lx : Nat} {I : Mi} {L : Ml} {e : Nat} {Q : Kq} {x3 : Int32} (h :
    (if (Int32.ofInt 0) < (I 19 0) then
     Wp 25 0 [(0, .ref 18), (1, .long (L 19 7)), (3, .long ((L 19 9) * (L 19 9)))] [] (gE Lx) I L e (kcp (Wp 50) 50 14 0 [(0, .ref 19), (1, .ref 18)] 71 [] (kcp (Wp 143) 143 19 0 [(0, .ref 1), (3, .int x3)] 71 [] Q))
    else
     Q (.inr 102) (gE Lx) I L (e + 1))) :
    Wp 143 6 [(0, .ref 1), (3, .int x3)] [] (gE Lx) I L e Q := by
  refine w_a f_143_6 ?_
  refine w_a f_143_7 ?_
  refine w_a f_143_8 ?_
  refine w_a (ls := [(0, .ref 1), (1, .int (Int32.ofInt 0))]) f_138_0 ?_
  refine w_a f_138_1 ?_
  refine w_a f_138_4 ?_
  refine w_a f_138_5 ?_
  refine w_a f_138_6 ?_
  refine w_a f_138_9 ?_
  refine w_a f_138_12 ?_
  refine i_m (fun h => ?_) (fun h => ?_) h
  · refine w_a f_138_23 ?_
    refine w_a (ls := [(0, .ref 1), (3, .int x3)]) f_143_11 ?_
    refine w_a f_143_12 ?_
    refine w_a f_143_15 ?_
    refine w_a f_143_16 ?_
    refine w_c (ks := [0, 3]) f_143_19 rfl rfl ?_
    refine w_a (ls := [(0, .ref 19), (1, .ref 18)]) f_50_0 ?_
    refine w_a f_50_1 ?_
    refine w_a f_50_2 ?_
    refine w_a f_50_5 ?_
    refine w_a f_50_6 ?_
    refine w_a f_50_9 ?_
    refine w_a f_50_10 ?_
    refine w_a f_50_13 ?_
    exact w_c (ks := [0, 1]) f_50_14 rfl rfl h
  · refine w_a f_138_15 ?_
    exact h
set_option maxRecDepth 10000 in
set_option maxHeartbeats 4000000 in
theorem s_143_22 {Lx : Nat} {I : Mi} {L : Ml} {e : Nat} {Q : Kq} {x3 : Int32} (h :
    (if x3 = 0 then
     Q (.inl (some (.long (L 18 0)))) (gE Lx) I L e
    else
     Q (.inl (some (.long (L 18 1)))) (gE Lx) I L e)) :
    Wp 143 22 [(0, .ref 1), (3, .int x3)] [] (gE Lx) I L e Q := by
  refine w_a f_143_22 ?_
  refine w_a f_143_23 ?_
  refine w_a f_143_26 ?_
  refine w_a f_143_27 ?_
  refine w_a (ls := [(0, .ref 18), (1, .int x3)]) f_31_0 ?_
  refine w_a f_31_1 ?_
  refine i_m (fun h => ?_) (fun h => ?_) h
  · refine w_a f_31_11 ?_
    refine w_a f_31_12 ?_
    refine w_a f_31_15 ?_
    refine w_a (ls := [(0, .ref 1), (3, .int x3)]) f_143_30 ?_
    exact h
  · refine w_a f_31_4 ?_
    refine w_a f_31_5 ?_
    refine w_a f_31_8 ?_
    refine w_a f_31_15 ?_
    refine w_a (ls := [(0, .ref 1), (3, .int x3)]) f_143_30 ?_
    exact h
set_option maxRecDepth 10000 in
set_option maxHeartbeats 4000000 in
theorem s_144_6 {Lx : Nat} {I : Mi} {L : Ml} {e : Nat} {Q : Kq} {x3 : Int32} (h :
    (if x3 < 0 then
     Q (.inr 102) (gE Lx) I L (e + 1)
    else
     (if x3 < (I 19 0) then
      (if (I 19 2) = 0 then
       Wp 45 0 [(0, .ref 19), (1, .int x3)] [] (gE Lx) I L e (kcp (Wp 49) 49 17 0 [(0, .ref 19)] 71 [] (kcp (Wp 144) 144 16 0 [(0, .ref 1)] 71 [] Q))
      else
       Wp 45 0 [(0, .ref 19), (1, .int x3)] [] (gE Lx) I L e (kcp (Wp 49) 49 9 0 [(0, .ref 19)] 71 [] (kcp (Wp 144) 144 16 0 [(0, .ref 1)] 71 [] Q)))
     else
      Q (.inr 102) (gE Lx) I L (e + 1)))) :
    Wp 144 6 [(0, .ref 1), (3, .int x3)] [] (gE Lx) I L e Q := by
  refine w_a f_144_6 ?_
  refine w_a f_144_7 ?_
  refine w_a f_144_8 ?_
  refine w_a (ls := [(0, .ref 1), (1, .int x3)]) f_138_0 ?_
  refine w_a f_138_1 ?_
  refine i_m (fun h => ?_) (fun h => ?_) h
  · refine w_a f_138_15 ?_
    exact h
  · refine w_a f_138_4 ?_
    refine w_a f_138_5 ?_
    refine w_a f_138_6 ?_
    refine w_a f_138_9 ?_
    refine w_a f_138_12 ?_
    refine i_m (fun h => ?_) (fun h => ?_) h
    · refine w_a f_138_23 ?_
      refine w_a (ls := [(0, .ref 1), (3, .int x3)]) f_144_11 ?_
      refine w_a f_144_12 ?_
      refine w_a f_144_15 ?_
      refine w_c (ks := [0]) f_144_16 rfl rfl ?_
      refine w_a (ls := [(0, .ref 19), (1, .int x3)]) f_49_0 ?_
      refine w_a f_49_1 ?_
      refine w_a f_49_4 ?_
      refine i_m (fun h => ?_) (fun h => ?_) h
      · refine w_a f_49_15 ?_
        refine w_a f_49_16 ?_
        exact w_c (ks := [0]) f_49_17 rfl rfl h
      · refine w_a f_49_7 ?_
        refine w_a f_49_8 ?_
        exact w_c (ks := [0]) f_49_9 rfl rfl h
    · refine w_a f_138_15 ?_
      exact h
set_option maxRecDepth 10000 in
set_option maxHeartbeats 4000000 in
theorem s_144_19 {Lx : Nat} {I : Mi} {L : Ml} {e : Nat} {Q : Kq} {r : Int32} (h :
    Q (.inl (some (.int r))) (gE Lx) I L e) :
    Wp 144 19 [(0, .ref 1)] [.int r] (gE Lx) I L e Q := by
  refine w_a f_144_19 ?_
  exact h
set_option maxRecDepth 10000 in
set_option maxHeartbeats 4000000 in
theorem s_145_12 {Lx : Nat} {I : Mi} {L : Ml} {e : Nat} {Q : Kq} {x1 : Int32} {x2 : Int32} {x3 : Int32} (h :
    (if x2 < 0 then
     Q (.inr 102) (gE Lx) I L (e + 1)
    else
     (if x2 < (I 19 0) then
      (if (I 19 1) = 0 then
       Q (.inr 102) (gE Lx) I L (e + 1)
      else
       (if (Int32.ofInt 2) < (I 5 3) then
        Q (.inr 102) (gE Lx) I L (e + 1)
       else
        Wp 45 0 [(0, .ref 19), (1, .int x2)] [] (gE Lx) I L e (kcp (Wp 44) 44 2 0 [(0, .ref 19), (2, .ref 18)] 71 [] (kcp (Wp 145) 145 45 0 [(0, .ref 1), (1, .int x1), (2, .int x2), (3, .int x3)] 71 [] Q))))
     else
      Q (.inr 102) (gE Lx) I L (e + 1)))) :
    Wp 145 12 [(0, .ref 1), (1, .int x1), (2, .int x2), (3, .int x3)] [] (gE Lx) I L e Q := by
  refine w_a f_145_12 ?_
  refine w_a f_145_13 ?_
  refine w_a f_145_14 ?_
  refine w_a (ls := [(0, .ref 1), (1, .int x2)]) f_140_0 ?_
  refine w_a f_140_1 ?_
  refine i_m (fun h => ?_) (fun h => ?_) h
  · refine w_a f_140_25 ?_
    exact h
  · refine w_a f_140_4 ?_
    refine w_a f_140_5 ?_
    refine w_a f_140_6 ?_
    refine w_a f_140_9 ?_
    refine w_a f_140_12 ?_
    refine i_m (fun h => ?_) (fun h => ?_) h
    · refine w_a f_140_15 ?_
      refine w_a f_140_16 ?_
      refine w_a f_140_19 ?_
      refine w_a f_140_22 ?_
      refine i_m (fun h => ?_) (fun h => ?_) h
      · refine w_a f_140_25 ?_
        exact h
      · refine w_a f_140_33 ?_
        refine w_a (ls := [(0, .ref 1), (1, .int x1), (2, .int x2), (3, .int x3)]) f_145_17 ?_
        refine w_a f_145_18 ?_
        refine w_a f_145_21 ?_
        refine w_a f_145_24 ?_
        refine w_a f_145_25 ?_
        refine i_m (fun h => ?_) (fun h => ?_) h
        · refine w_a f_145_28 ?_
          exact h
        · refine w_a f_145_36 ?_
          refine w_a f_145_37 ?_
          refine w_a f_145_40 ?_
          refine w_a f_145_41 ?_
          refine w_a f_145_42 ?_
          refine w_c (ks := [0, 1, 2, 3]) f_145_45 rfl rfl ?_
          refine w_a (ls := [(0, .ref 19), (1, .int x2), (2, .ref 18)]) f_44_0 ?_
          refine w_a f_44_1 ?_
          exact w_c (ks := [0, 2]) f_44_2 rfl rfl h
    · refine w_a f_140_25 ?_
      exact h
set_option maxRecDepth 10000 in
set_option maxHeartbeats 4000000 in
theorem s_145_48 {Lx : Nat} {I : Mi} {L : Ml} {e : Nat} {Q : Kq} {x1 : Int32} {x2 : Int32} {x3 : Int32} (h :
    (if (I 19 2) = 0 then
     Wp 45 0 [(0, .ref 19), (1, .int x2)] [] (gE Lx) I L e (kcp (Wp 49) 49 17 0 [(0, .ref 19)] 71 [] (kcp (Wp 48) 48 3 0 [(0, .ref 19), (2, .ref 18)] 71 [.ref 18] (kcp (Wp 145) 145 75 0 [(0, .ref 1), (1, .int x1), (3, .int x3), (4, .long (L 18 0)), (6, .long (L 18 1))] 71 [] Q)))
    else
     Wp 45 0 [(0, .ref 19), (1, .int x2)] [] (gE Lx) I L e (kcp (Wp 49) 49 9 0 [(0, .ref 19)] 71 [] (kcp (Wp 48) 48 3 0 [(0, .ref 19), (2, .ref 18)] 71 [.ref 18] (kcp (Wp 145) 145 75 0 [(0, .ref 1), (1, .int x1), (3, .int x3), (4, .long (L 18 0)), (6, .long (L 18 1))] 71 [] Q))))) :
    Wp 145 48 [(0, .ref 1), (1, .int x1), (2, .int x2), (3, .int x3)] [] (gE Lx) I L e Q := by
  refine w_a f_145_48 ?_
  refine w_a f_145_49 ?_
  refine w_a f_145_52 ?_
  refine w_a f_145_55 ?_
  refine w_a (ls := [(4, .long (L 18 0)), (0, .ref 1), (1, .int x1), (2, .int x2), (3, .int x3)]) f_145_57 ?_
  refine w_a f_145_58 ?_
  refine w_a f_145_61 ?_
  refine w_a f_145_64 ?_
  refine w_a (ls := [(6, .long (L 18 1)), (4, .long (L 18 0)), (0, .ref 1), (1, .int x1), (2, .int x2), (3, .int x3)]) f_145_66 ?_
  refine w_a f_145_67 ?_
  refine w_a f_145_70 ?_
  refine w_a f_145_71 ?_
  refine w_a f_145_72 ?_
  refine w_c (ks := [0, 1, 3, 4, 6]) f_145_75 rfl rfl ?_
  refine w_a (ls := [(0, .ref 19), (1, .int x2), (2, .ref 18)]) f_48_0 ?_
  refine w_a f_48_1 ?_
  refine w_a f_48_2 ?_
  refine w_c (ks := [0, 2]) f_48_3 rfl rfl ?_
  refine w_a (ls := [(0, .ref 19), (1, .int x2)]) f_49_0 ?_
  refine w_a f_49_1 ?_
  refine w_a f_49_4 ?_
  refine i_m (fun h => ?_) (fun h => ?_) h
  · refine w_a f_49_15 ?_
    refine w_a f_49_16 ?_
    exact w_c (ks := [0]) f_49_17 rfl rfl h
  · refine w_a f_49_7 ?_
    refine w_a f_49_8 ?_
    exact w_c (ks := [0]) f_49_9 rfl rfl h
set_option maxRecDepth 10000 in
set_option maxHeartbeats 4000000 in
theorem s_145_78 {Lx : Nat} {I : Mi} {L : Ml} {e : Nat} {Q : Kq} {x1 : Int32} {x3 : Int32} {y4 : Int64} {y6 : Int64} (h :
    (if x3 = x1 then
     Wp 25 0 [(0, .ref 18), (1, .long (-(L 18 1))), (3, .long (L 18 0))] [] (gE Lx) I L e (kcp (Wp 145) 145 102 0 [(0, .ref 1), (1, .int x1), (3, .int x3), (4, .long y4), (6, .long y6)] 71 [] Q)
    else
     Wp 145 105 [(0, .ref 1), (1, .int x1), (3, .int x3), (4, .long y4), (6, .long y6)] [] (gE Lx) I L e Q)) :
    Wp 145 78 [(0, .ref 1), (1, .int x1), (3, .int x3), (4, .long y4), (6, .long y6)] [] (gE Lx) I L e Q := by
  refine w_a f_145_78 ?_
  refine w_a f_145_79 ?_
  refine w_a f_145_80 ?_
  refine i_m (fun h => ?_) (fun h => ?_) h
  · refine w_a f_145_83 ?_
    refine w_a f_145_84 ?_
    refine w_a f_145_87 ?_
    refine w_a f_145_88 ?_
    refine w_a f_145_91 ?_
    refine w_a f_145_94 ?_
    refine w_a f_145_95 ?_
    refine w_a f_145_96 ?_
    refine w_a f_145_99 ?_
    exact w_c (ks := [0, 1, 3, 4, 6]) f_145_102 rfl rfl h
  · exact w_n (ks := [0, 1, 3, 4, 6]) rfl h
set_option maxRecDepth 10000 in
set_option maxHeartbeats 4000000 in
theorem s_145_105 {Lx : Nat} {I : Mi} {L : Ml} {e : Nat} {Q : Kq} {x1 : Int32} {x3 : Int32} {y4 : Int64} {y6 : Int64} (h :
    Wp 114 0 [(0, .long y4), (2, .long y6)] [] (gE Lx) I L e (kcp (Wp 145) 145 109 0 [(0, .ref 1), (1, .int x1), (3, .int x3), (4, .long y4), (6, .long y6)] 71 [] Q)) :
    Wp 145 105 [(0, .ref 1), (1, .int x1), (3, .int x3), (4, .long y4), (6, .long y6)] [] (gE Lx) I L e Q := by
  refine w_a f_145_105 ?_
  refine w_a f_145_107 ?_
  exact w_c (ks := [0, 1, 3, 4, 6]) f_145_109 rfl rfl h
set_option maxRecDepth 10000 in
set_option maxHeartbeats 4000000 in
theorem s_145_112 {Lx : Nat} {I : Mi} {L : Ml} {e : Nat} {Q : Kq} {x1 : Int32} {x3 : Int32} {y4 : Int64} {y6 : Int64} {r : Int32} (h :
    (if r = 0 then
     Q (.inr 102) (gE Lx) I L (e + 1)
    else
     Wp 114 0 [(0, .long (L 18 0)), (2, .long (L 18 1))] [] (gE Lx) I L e (kcp (Wp 145) 145 129 0 [(0, .ref 1), (1, .int x1), (3, .int x3), (4, .long y4), (6, .long y6)] 71 [] Q))) :
    Wp 145 112 [(0, .ref 1), (1, .int x1), (3, .int x3), (4, .long y4), (6, .long y6)] [.int r] (gE Lx) I L e Q := by
  refine w_a f_145_112 ?_
  refine i_m (fun h => ?_) (fun h => ?_) h
  · refine w_a f_145_135 ?_
    exact h
  · refine w_a f_145_115 ?_
    refine w_a f_145_116 ?_
    refine w_a f_145_119 ?_
    refine w_a f_145_122 ?_
    refine w_a f_145_123 ?_
    refine w_a f_145_126 ?_
    exact w_c (ks := [0, 1, 3, 4, 6]) f_145_129 rfl rfl h
