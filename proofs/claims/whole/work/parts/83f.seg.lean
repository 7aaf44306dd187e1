/-! Pieces of methods, by program out of the tables: 171 to 190. -/
theorem f_21_0 : ftc (PT 21) 0 = some (0, .aload_n 0, 1, 0, 0, 0) := by decide +kernel
theorem f_21_1 : ftc (PT 21) 1 = some (1, .iload_n 1, 1, 0, 0, 0) := by decide +kernel
theorem f_21_2 : ftc (PT 21) 2 = some (2, .invokevirtual 34, 3, 13, 2082, 553) := by decide +kernel
theorem f_21_5 : ftc (PT 21) 5 = some (5, .ifCond .eq 26, 3, 31, 0, 0) := by decide +kernel
theorem f_21_8 : ftc (PT 21) 8 = some (8, .aload_n 0, 1, 0, 0, 0) := by decide +kernel
theorem f_21_9 : ftc (PT 21) 9 = some (9, .getfield 24, 3, 2, 4, 222) := by decide +kernel
theorem f_21_12 : ftc (PT 21) 12 = some (12, .iload_n 1, 1, 0, 0, 0) := by decide +kernel
theorem f_21_13 : ftc (PT 21) 13 = some (13, .iaload, 1, 0, 0, 0) := by decide +kernel
theorem f_21_14 : ftc (PT 21) 14 = some (14, .ifCond .eq 17, 3, 31, 0, 0) := by decide +kernel
theorem f_21_17 : ftc (PT 21) 17 = some (17, .aload_n 0, 1, 0, 0, 0) := by decide +kernel
theorem f_21_18 : ftc (PT 21) 18 = some (18, .getfield 24, 3, 2, 4, 222) := by decide +kernel
theorem f_21_21 : ftc (PT 21) 21 = some (21, .iload_n 1, 1, 0, 0, 0) := by decide +kernel
theorem f_21_22 : ftc (PT 21) 22 = some (22, .iconst 5, 1, 0, 0, 0) := by decide +kernel
theorem f_21_23 : ftc (PT 21) 23 = some (23, .aload_n 0, 1, 0, 0, 0) := by decide +kernel
theorem f_21_24 : ftc (PT 21) 24 = some (24, .getfield 24, 3, 2, 4, 222) := by decide +kernel
theorem f_21_27 : ftc (PT 21) 27 = some (27, .iload_n 1, 1, 0, 0, 0) := by decide +kernel
theorem f_21_28 : ftc (PT 21) 28 = some (28, .iaload, 1, 0, 0, 0) := by decide +kernel
theorem f_21_29 : ftc (PT 21) 29 = some (29, .isub, 1, 0, 0, 0) := by decide +kernel
theorem f_21_30 : ftc (PT 21) 30 = some (30, .iastore, 1, 0, 0, 0) := by decide +kernel
theorem f_21_31 : ftc (PT 21) 31 = some (31, .return_, 1, 0, 0, 0) := by decide +kernel
theorem f_111_0 : ftc (PT 111) 0 = some (0, .iload_n 0, 1, 0, 0, 0) := by decide +kernel
theorem f_111_1 : ftc (PT 111) 1 = some (1, .ifCond .lt 36, 3, 37, 0, 0) := by decide +kernel
theorem f_111_4 : ftc (PT 111) 4 = some (4, .iload_n 0, 1, 0, 0, 0) := by decide +kernel
theorem f_111_5 : ftc (PT 111) 5 = some (5, .bipush 99, 2, 0, 0, 0) := by decide +kernel
theorem f_111_7 : ftc (PT 111) 7 = some (7, .if_icmp .gt 30, 3, 37, 0, 0) := by decide +kernel
theorem f_111_10 : ftc (PT 111) 10 = some (10, .iload_n 1, 1, 0, 0, 0) := by decide +kernel
theorem f_111_11 : ftc (PT 111) 11 = some (11, .bipush (-99), 2, 0, 0, 0) := by decide +kernel
theorem f_111_13 : ftc (PT 111) 13 = some (13, .if_icmp .lt 24, 3, 37, 0, 0) := by decide +kernel
theorem f_111_16 : ftc (PT 111) 16 = some (16, .iload_n 1, 1, 0, 0, 0) := by decide +kernel
theorem f_111_17 : ftc (PT 111) 17 = some (17, .bipush 99, 2, 0, 0, 0) := by decide +kernel
theorem f_111_19 : ftc (PT 111) 19 = some (19, .if_icmp .gt 18, 3, 37, 0, 0) := by decide +kernel
theorem f_111_22 : ftc (PT 111) 22 = some (22, .iload_n 2, 1, 0, 0, 0) := by decide +kernel
theorem f_111_23 : ftc (PT 111) 23 = some (23, .iconst 1, 1, 0, 0, 0) := by decide +kernel
theorem f_111_24 : ftc (PT 111) 24 = some (24, .if_icmp .lt 13, 3, 37, 0, 0) := by decide +kernel
theorem f_111_27 : ftc (PT 111) 27 = some (27, .iload_n 2, 1, 0, 0, 0) := by decide +kernel
theorem f_111_28 : ftc (PT 111) 28 = some (28, .bipush 20, 2, 0, 0, 0) := by decide +kernel
theorem f_111_30 : ftc (PT 111) 30 = some (30, .if_icmp .gt 7, 3, 37, 0, 0) := by decide +kernel
theorem f_111_33 : ftc (PT 111) 33 = some (33, .iconst 1, 1, 0, 0, 0) := by decide +kernel
theorem f_111_34 : ftc (PT 111) 34 = some (34, .goto 4, 3, 38, 0, 0) := by decide +kernel
theorem f_111_37 : ftc (PT 111) 37 = some (37, .iconst 0, 1, 0, 0, 0) := by decide +kernel
theorem f_111_38 : ftc (PT 111) 38 = some (38, .ireturn, 1, 1, 0, 0) := by decide +kernel
theorem f_171_20 : ftc (PT 171) 20 = some (20, .iconst 0, 1, 0, 0, 0) := by decide +kernel
theorem f_171_21 : ftc (PT 171) 21 = some (21, .istore 4, 2, 0, 0, 0) := by decide +kernel
theorem f_171_23 : ftc (PT 171) 23 = some (23, .iload 4, 2, 0, 0, 0) := by decide +kernel
theorem f_171_25 : ftc (PT 171) 25 = some (25, .sipush 184, 3, 0, 0, 0) := by decide +kernel
theorem f_171_28 : ftc (PT 171) 28 = some (28, .if_icmp .ge 84, 3, 112, 0, 0) := by decide +kernel
theorem f_171_31 : ftc (PT 171) 31 = some (31, .aload_n 0, 1, 0, 0, 0) := by decide +kernel
theorem f_171_32 : ftc (PT 171) 32 = some (32, .getfield 10, 3, 11, 0, 468) := by decide +kernel
theorem f_171_35 : ftc (PT 171) 35 = some (35, .iload 4, 2, 0, 0, 0) := by decide +kernel
theorem f_171_37 : ftc (PT 171) 37 = some (37, .iload_n 1, 1, 0, 0, 0) := by decide +kernel
theorem f_171_38 : ftc (PT 171) 38 = some (38, .invokevirtual 581, 3, 71, 3145, 1416) := by decide +kernel
theorem f_171_41 : ftc (PT 171) 41 = some (41, .ifCond .eq 65, 3, 106, 0, 0) := by decide +kernel
theorem f_171_44 : ftc (PT 171) 44 = some (44, .aload_n 0, 1, 0, 0, 0) := by decide +kernel
theorem f_171_45 : ftc (PT 171) 45 = some (45, .getfield 49, 3, 11, 8, 476) := by decide +kernel
theorem f_171_48 : ftc (PT 171) 48 = some (48, .aload_n 0, 1, 0, 0, 0) := by decide +kernel
theorem f_171_49 : ftc (PT 171) 49 = some (49, .getfield 46, 3, 11, 7, 475) := by decide +kernel
theorem f_171_52 : ftc (PT 171) 52 = some (52, .invokevirtual 569, 3, 84, 2090, 1299) := by decide +kernel
theorem f_171_55 : ftc (PT 171) 55 = some (55, .aload_n 0, 1, 0, 0, 0) := by decide +kernel
theorem f_171_56 : ftc (PT 171) 56 = some (56, .getfield 49, 3, 11, 8, 476) := by decide +kernel
theorem f_171_59 : ftc (PT 171) 59 = some (59, .aload_n 0, 1, 0, 0, 0) := by decide +kernel
theorem f_171_60 : ftc (PT 171) 60 = some (60, .getfield 10, 3, 11, 0, 468) := by decide +kernel
theorem f_171_63 : ftc (PT 171) 63 = some (63, .iload 4, 2, 0, 0, 0) := by decide +kernel
theorem f_171_65 : ftc (PT 171) 65 = some (65, .invokevirtual 331, 3, 69, 2089, 1303) := by decide +kernel
theorem f_171_68 : ftc (PT 171) 68 = some (68, .i2l, 1, 0, 0, 0) := by decide +kernel
theorem f_171_69 : ftc (PT 171) 69 = some (69, .aload_n 0, 1, 0, 0, 0) := by decide +kernel
theorem f_171_70 : ftc (PT 171) 70 = some (70, .getfield 10, 3, 11, 0, 468) := by decide +kernel
theorem f_171_73 : ftc (PT 171) 73 = some (73, .iload 4, 2, 0, 0, 0) := by decide +kernel
theorem f_171_75 : ftc (PT 171) 75 = some (75, .invokevirtual 328, 3, 70, 2089, 1307) := by decide +kernel
theorem f_171_78 : ftc (PT 171) 78 = some (78, .i2l, 1, 0, 0, 0) := by decide +kernel
theorem f_171_79 : ftc (PT 171) 79 = some (79, .invokevirtual 560, 3, 76, 11338, 1311) := by decide +kernel
theorem f_171_82 : ftc (PT 171) 82 = some (82, .aload_n 0, 1, 0, 0, 0) := by decide +kernel
theorem f_171_83 : ftc (PT 171) 83 = some (83, .aload_n 0, 1, 0, 0, 0) := by decide +kernel
theorem f_171_84 : ftc (PT 171) 84 = some (84, .getfield 49, 3, 11, 8, 476) := by decide +kernel
theorem f_171_87 : ftc (PT 171) 87 = some (87, .iload_n 1, 1, 0, 0, 0) := by decide +kernel
theorem f_171_88 : ftc (PT 171) 88 = some (88, .invokevirtual 591, 3, 172, 5195, 1425) := by decide +kernel
theorem f_171_91 : ftc (PT 171) 91 = some (91, .ifCond .eq 15, 3, 106, 0, 0) := by decide +kernel
theorem f_171_94 : ftc (PT 171) 94 = some (94, .aload_n 0, 1, 0, 0, 0) := by decide +kernel
theorem f_171_95 : ftc (PT 171) 95 = some (95, .iload 4, 2, 0, 0, 0) := by decide +kernel
theorem f_171_97 : ftc (PT 171) 97 = some (97, .iload_n 2, 1, 0, 0, 0) := by decide +kernel
theorem f_171_98 : ftc (PT 171) 98 = some (98, .iload_n 3, 1, 0, 0, 0) := by decide +kernel
theorem f_171_99 : ftc (PT 171) 99 = some (99, .isub, 1, 0, 0, 0) := by decide +kernel
theorem f_171_100 : ftc (PT 171) 100 = some (100, .invokevirtual 595, 3, 173, 3147, 1430) := by decide +kernel
theorem f_171_103 : ftc (PT 171) 103 = some (103, .iinc 3 2, 3, 0, 0, 0) := by decide +kernel
theorem f_171_106 : ftc (PT 171) 106 = some (106, .iinc 4 1, 3, 0, 0, 0) := by decide +kernel
theorem f_171_109 : ftc (PT 171) 109 = some (109, .goto (-86), 3, 23, 0, 0) := by decide +kernel
theorem f_171_112 : ftc (PT 171) 112 = some (112, .iload_n 3, 1, 0, 0, 0) := by decide +kernel
theorem f_171_113 : ftc (PT 171) 113 = some (113, .ireturn, 1, 0, 0, 0) := by decide +kernel
theorem f_172_0 : ftc (PT 172) 0 = some (0, .aload_n 1, 1, 0, 0, 0) := by decide +kernel
theorem f_172_1 : ftc (PT 172) 1 = some (1, .invokevirtual 598, 3, 86, 1034, 1429) := by decide +kernel
theorem f_172_4 : ftc (PT 172) 4 = some (4, .lstore_n 3, 1, 0, 0, 0) := by decide +kernel
theorem f_172_5 : ftc (PT 172) 5 = some (5, .lload_n 3, 1, 0, 0, 0) := by decide +kernel
theorem f_172_6 : ftc (PT 172) 6 = some (6, .lconst 0, 1, 0, 0, 0) := by decide +kernel
theorem f_172_7 : ftc (PT 172) 7 = some (7, .lcmp, 1, 0, 0, 0) := by decide +kernel
theorem f_172_8 : ftc (PT 172) 8 = some (8, .ifCond .le 12, 3, 20, 0, 0) := by decide +kernel
theorem f_172_11 : ftc (PT 172) 11 = some (11, .aload_n 1, 1, 0, 0, 0) := by decide +kernel
theorem f_172_12 : ftc (PT 172) 12 = some (12, .invokevirtual 208, 3, 82, 1034, 966) := by decide +kernel
theorem f_172_15 : ftc (PT 172) 15 = some (15, .lload_n 3, 1, 0, 0, 0) := by decide +kernel
theorem f_172_16 : ftc (PT 172) 16 = some (16, .lcmp, 1, 0, 0, 0) := by decide +kernel
theorem f_172_17 : ftc (PT 172) 17 = some (17, .ifCond .eq 5, 3, 22, 0, 0) := by decide +kernel
theorem f_172_20 : ftc (PT 172) 20 = some (20, .iconst 0, 1, 0, 0, 0) := by decide +kernel
theorem f_172_21 : ftc (PT 172) 21 = some (21, .ireturn, 1, 1, 0, 0) := by decide +kernel
theorem f_172_22 : ftc (PT 172) 22 = some (22, .aload_n 0, 1, 0, 0, 0) := by decide +kernel
theorem f_172_23 : ftc (PT 172) 23 = some (23, .getfield 62, 3, 11, 10, 478) := by decide +kernel
theorem f_172_26 : ftc (PT 172) 26 = some (26, .aload_n 1, 1, 0, 0, 0) := by decide +kernel
theorem f_172_27 : ftc (PT 172) 27 = some (27, .invokevirtual 204, 3, 81, 1034, 962) := by decide +kernel
theorem f_172_30 : ftc (PT 172) 30 = some (30, .lload_n 3, 1, 0, 0, 0) := by decide +kernel
theorem f_172_31 : ftc (PT 172) 31 = some (31, .invokevirtual 214, 3, 25, 9283, 652) := by decide +kernel
theorem f_172_34 : ftc (PT 172) 34 = some (34, .aload_n 0, 1, 0, 0, 0) := by decide +kernel
theorem f_172_35 : ftc (PT 172) 35 = some (35, .getfield 62, 3, 11, 10, 478) := by decide +kernel
theorem f_172_38 : ftc (PT 172) 38 = some (38, .getfield 294, 3, 3, 1, 301) := by decide +kernel
theorem f_172_41 : ftc (PT 172) 41 = some (41, .iload_n 2, 1, 0, 0, 0) := by decide +kernel
theorem f_172_42 : ftc (PT 172) 42 = some (42, .i2l, 1, 0, 0, 0) := by decide +kernel
theorem f_172_43 : ftc (PT 172) 43 = some (43, .lcmp, 1, 0, 0, 0) := by decide +kernel
theorem f_172_44 : ftc (PT 172) 44 = some (44, .ifCond .gt 34, 3, 78, 0, 0) := by decide +kernel
theorem f_172_47 : ftc (PT 172) 47 = some (47, .aload_n 0, 1, 0, 0, 0) := by decide +kernel
theorem f_172_48 : ftc (PT 172) 48 = some (48, .getfield 62, 3, 11, 10, 478) := by decide +kernel
theorem f_172_51 : ftc (PT 172) 51 = some (51, .getfield 291, 3, 3, 0, 298) := by decide +kernel
theorem f_172_54 : ftc (PT 172) 54 = some (54, .iload_n 2, 1, 0, 0, 0) := by decide +kernel
theorem f_172_55 : ftc (PT 172) 55 = some (55, .i2l, 1, 0, 0, 0) := by decide +kernel
theorem f_172_56 : ftc (PT 172) 56 = some (56, .lcmp, 1, 0, 0, 0) := by decide +kernel
theorem f_172_57 : ftc (PT 172) 57 = some (57, .ifCond .gt 21, 3, 78, 0, 0) := by decide +kernel
theorem f_172_60 : ftc (PT 172) 60 = some (60, .aload_n 0, 1, 0, 0, 0) := by decide +kernel
theorem f_172_61 : ftc (PT 172) 61 = some (61, .getfield 62, 3, 11, 10, 478) := by decide +kernel
theorem f_172_64 : ftc (PT 172) 64 = some (64, .getfield 291, 3, 3, 0, 298) := by decide +kernel
theorem f_172_67 : ftc (PT 172) 67 = some (67, .iload_n 2, 1, 0, 0, 0) := by decide +kernel
theorem f_172_68 : ftc (PT 172) 68 = some (68, .ineg, 1, 0, 0, 0) := by decide +kernel
theorem f_172_69 : ftc (PT 172) 69 = some (69, .i2l, 1, 0, 0, 0) := by decide +kernel
theorem f_172_70 : ftc (PT 172) 70 = some (70, .lcmp, 1, 0, 0, 0) := by decide +kernel
theorem f_172_71 : ftc (PT 172) 71 = some (71, .ifCond .lt 7, 3, 78, 0, 0) := by decide +kernel
theorem f_172_74 : ftc (PT 172) 74 = some (74, .iconst 1, 1, 0, 0, 0) := by decide +kernel
theorem f_172_75 : ftc (PT 172) 75 = some (75, .goto 4, 3, 79, 0, 0) := by decide +kernel
theorem f_172_78 : ftc (PT 172) 78 = some (78, .iconst 0, 1, 0, 0, 0) := by decide +kernel
theorem f_172_79 : ftc (PT 172) 79 = some (79, .ireturn, 1, 1, 0, 0) := by decide +kernel
theorem f_173_0 : ftc (PT 173) 0 = some (0, .iload_n 2, 1, 0, 0, 0) := by decide +kernel
theorem f_173_1 : ftc (PT 173) 1 = some (1, .ifCond .eq 9, 3, 10, 0, 0) := by decide +kernel
theorem f_173_4 : ftc (PT 173) 4 = some (4, .iload_n 2, 1, 0, 0, 0) := by decide +kernel
theorem f_173_5 : ftc (PT 173) 5 = some (5, .iconst 1, 1, 0, 0, 0) := by decide +kernel
theorem f_173_6 : ftc (PT 173) 6 = some (6, .if_icmp .eq 4, 3, 10, 0, 0) := by decide +kernel
theorem f_173_9 : ftc (PT 173) 9 = some (9, .return_, 1, 0, 0, 0) := by decide +kernel
theorem f_173_10 : ftc (PT 173) 10 = some (10, .aload_n 0, 1, 0, 0, 0) := by decide +kernel
theorem f_173_11 : ftc (PT 173) 11 = some (11, .getfield 83, 3, 11, 13, 481) := by decide +kernel
theorem f_173_14 : ftc (PT 173) 14 = some (14, .iload_n 1, 1, 0, 0, 0) := by decide +kernel
theorem f_173_15 : ftc (PT 173) 15 = some (15, .putfield 403, 3, 0, 4, 394) := by decide +kernel
theorem f_173_18 : ftc (PT 173) 18 = some (18, .aload_n 0, 1, 0, 0, 0) := by decide +kernel
theorem f_173_19 : ftc (PT 173) 19 = some (19, .getfield 83, 3, 11, 13, 481) := by decide +kernel
theorem f_173_22 : ftc (PT 173) 22 = some (22, .iload_n 2, 1, 0, 0, 0) := by decide +kernel
theorem f_173_23 : ftc (PT 173) 23 = some (23, .ifCond .ne 7, 3, 30, 0, 0) := by decide +kernel
theorem f_173_26 : ftc (PT 173) 26 = some (26, .iconst 1, 1, 0, 0, 0) := by decide +kernel
theorem f_173_27 : ftc (PT 173) 27 = some (27, .goto 4, 3, 31, 0, 0) := by decide +kernel
theorem f_173_30 : ftc (PT 173) 30 = some (30, .iconst 0, 1, 0, 0, 0) := by decide +kernel
theorem f_173_31 : ftc (PT 173) 31 = some (31, .aload_n 0, 1, 0, 0, 0) := by decide +kernel
theorem f_173_32 : ftc (PT 173) 32 = some (32, .getfield 62, 3, 11, 10, 478) := by decide +kernel
theorem f_173_35 : ftc (PT 173) 35 = some (35, .getfield 291, 3, 3, 0, 298) := by decide +kernel
theorem f_173_38 : ftc (PT 173) 38 = some (38, .lconst 0, 1, 0, 0, 0) := by decide +kernel
theorem f_173_39 : ftc (PT 173) 39 = some (39, .lcmp, 1, 0, 0, 0) := by decide +kernel
theorem f_173_40 : ftc (PT 173) 40 = some (40, .ifCond .lt 7, 3, 47, 0, 0) := by decide +kernel
theorem f_173_43 : ftc (PT 173) 43 = some (43, .iconst 1, 1, 0, 0, 0) := by decide +kernel
theorem f_173_44 : ftc (PT 173) 44 = some (44, .goto 4, 3, 48, 0, 0) := by decide +kernel
theorem f_173_47 : ftc (PT 173) 47 = some (47, .iconst 0, 1, 0, 0, 0) := by decide +kernel
theorem f_173_48 : ftc (PT 173) 48 = some (48, .if_icmp .ne 7, 3, 55, 0, 0) := by decide +kernel
theorem f_173_51 : ftc (PT 173) 51 = some (51, .iconst 1, 1, 0, 0, 0) := by decide +kernel
theorem f_173_52 : ftc (PT 173) 52 = some (52, .goto 4, 3, 56, 0, 0) := by decide +kernel
theorem f_173_55 : ftc (PT 173) 55 = some (55, .iconst 0, 1, 0, 0, 0) := by decide +kernel
theorem f_173_56 : ftc (PT 173) 56 = some (56, .putfield 575, 3, 0, 6, 398) := by decide +kernel
theorem f_173_59 : ftc (PT 173) 59 = some (59, .aload_n 0, 1, 0, 0, 0) := by decide +kernel
theorem f_173_60 : ftc (PT 173) 60 = some (60, .getfield 83, 3, 11, 13, 481) := by decide +kernel
theorem f_173_63 : ftc (PT 173) 63 = some (63, .getfield 575, 3, 0, 6, 398) := by decide +kernel
theorem f_173_66 : ftc (PT 173) 66 = some (66, .ifCond .ne 25, 3, 91, 0, 0) := by decide +kernel
theorem f_173_69 : ftc (PT 173) 69 = some (69, .aload_n 0, 1, 0, 0, 0) := by decide +kernel
theorem f_173_70 : ftc (PT 173) 70 = some (70, .getfield 62, 3, 11, 10, 478) := by decide +kernel
theorem f_173_73 : ftc (PT 173) 73 = some (73, .aload_n 0, 1, 0, 0, 0) := by decide +kernel
theorem f_173_74 : ftc (PT 173) 74 = some (74, .getfield 62, 3, 11, 10, 478) := by decide +kernel
theorem f_173_77 : ftc (PT 173) 77 = some (77, .getfield 294, 3, 3, 1, 301) := by decide +kernel
theorem f_173_80 : ftc (PT 173) 80 = some (80, .lneg, 1, 0, 0, 0) := by decide +kernel
theorem f_173_81 : ftc (PT 173) 81 = some (81, .aload_n 0, 1, 0, 0, 0) := by decide +kernel
theorem f_173_82 : ftc (PT 173) 82 = some (82, .getfield 62, 3, 11, 10, 478) := by decide +kernel
theorem f_173_85 : ftc (PT 173) 85 = some (85, .getfield 291, 3, 3, 0, 298) := by decide +kernel
theorem f_173_88 : ftc (PT 173) 88 = some (88, .invokevirtual 214, 3, 25, 9283, 652) := by decide +kernel
theorem f_173_91 : ftc (PT 173) 91 = some (91, .aload_n 0, 1, 0, 0, 0) := by decide +kernel
theorem f_173_92 : ftc (PT 173) 92 = some (92, .getfield 83, 3, 11, 13, 481) := by decide +kernel
theorem f_173_95 : ftc (PT 173) 95 = some (95, .aload_n 0, 1, 0, 0, 0) := by decide +kernel
theorem f_173_96 : ftc (PT 173) 96 = some (96, .getfield 10, 3, 11, 0, 468) := by decide +kernel
theorem f_173_99 : ftc (PT 173) 99 = some (99, .aload_n 0, 1, 0, 0, 0) := by decide +kernel
theorem f_173_100 : ftc (PT 173) 100 = some (100, .getfield 62, 3, 11, 10, 478) := by decide +kernel
theorem f_173_103 : ftc (PT 173) 103 = some (103, .getfield 291, 3, 3, 0, 298) := by decide +kernel
theorem f_173_106 : ftc (PT 173) 106 = some (106, .aload_n 0, 1, 0, 0, 0) := by decide +kernel
theorem f_173_107 : ftc (PT 173) 107 = some (107, .getfield 62, 3, 11, 10, 478) := by decide +kernel
theorem f_173_110 : ftc (PT 173) 110 = some (110, .getfield 294, 3, 3, 1, 301) := by decide +kernel
theorem f_173_113 : ftc (PT 173) 113 = some (113, .invokevirtual 601, 3, 72, 6217, 1434) := by decide +kernel
theorem f_173_116 : ftc (PT 173) 116 = some (116, .putfield 386, 3, 0, 5, 396) := by decide +kernel
theorem f_173_119 : ftc (PT 173) 119 = some (119, .return_, 1, 0, 0, 0) := by decide +kernel
theorem f_174_46 : ftc (PT 174) 46 = some (46, .ireturn, 1, 0, 0, 0) := by decide +kernel
theorem f_174_61 : ftc (PT 174) 61 = some (61, .ireturn, 1, 0, 0, 0) := by decide +kernel
theorem f_174_92 : ftc (PT 174) 92 = some (92, .ireturn, 1, 0, 0, 0) := by decide +kernel
theorem f_174_107 : ftc (PT 174) 107 = some (107, .ireturn, 1, 0, 0, 0) := by decide +kernel
theorem f_175_36 : ftc (PT 175) 36 = some (36, .iload_n 2, 1, 0, 0, 0) := by decide +kernel
theorem f_175_37 : ftc (PT 175) 37 = some (37, .tableswitch 65 0 2 #[27, 35, 50], 27, 0, 0, 0) := by decide +kernel
theorem f_175_64 : ftc (PT 175) 64 = some (64, .aload_n 0, 1, 0, 0, 0) := by decide +kernel
theorem f_175_65 : ftc (PT 175) 65 = some (65, .getfield 83, 3, 11, 13, 481) := by decide +kernel
theorem f_175_68 : ftc (PT 175) 68 = some (68, .getfield 383, 3, 0, 3, 392) := by decide +kernel
theorem f_175_71 : ftc (PT 175) 71 = some (71, .ireturn, 1, 0, 0, 0) := by decide +kernel
theorem f_175_72 : ftc (PT 175) 72 = some (72, .aload_n 0, 1, 0, 0, 0) := by decide +kernel
theorem f_175_73 : ftc (PT 175) 73 = some (73, .getfield 10, 3, 11, 0, 468) := by decide +kernel
theorem f_175_76 : ftc (PT 175) 76 = some (76, .aload_n 0, 1, 0, 0, 0) := by decide +kernel
theorem f_175_77 : ftc (PT 175) 77 = some (77, .getfield 83, 3, 11, 13, 481) := by decide +kernel
theorem f_175_80 : ftc (PT 175) 80 = some (80, .getfield 386, 3, 0, 5, 396) := by decide +kernel
theorem f_175_83 : ftc (PT 175) 83 = some (83, .invokevirtual 331, 3, 69, 2089, 1303) := by decide +kernel
theorem f_175_86 : ftc (PT 175) 86 = some (86, .ireturn, 1, 0, 0, 0) := by decide +kernel
theorem f_175_87 : ftc (PT 175) 87 = some (87, .aload_n 0, 1, 0, 0, 0) := by decide +kernel
theorem f_175_88 : ftc (PT 175) 88 = some (88, .getfield 10, 3, 11, 0, 468) := by decide +kernel
theorem f_175_91 : ftc (PT 175) 91 = some (91, .aload_n 0, 1, 0, 0, 0) := by decide +kernel
theorem f_175_92 : ftc (PT 175) 92 = some (92, .getfield 83, 3, 11, 13, 481) := by decide +kernel
theorem f_175_95 : ftc (PT 175) 95 = some (95, .getfield 386, 3, 0, 5, 396) := by decide +kernel
theorem f_175_98 : ftc (PT 175) 98 = some (98, .invokevirtual 328, 3, 70, 2089, 1307) := by decide +kernel
theorem f_175_101 : ftc (PT 175) 101 = some (101, .ireturn, 1, 0, 0, 0) := by decide +kernel
theorem f_175_102 : ftc (PT 175) 102 = some (102, .aload_n 0, 1, 0, 0, 0) := by decide +kernel
theorem f_175_103 : ftc (PT 175) 103 = some (103, .getfield 83, 3, 11, 13, 481) := by decide +kernel
theorem f_175_106 : ftc (PT 175) 106 = some (106, .invokevirtual 389, 3, 4, 1024, 627) := by decide +kernel
theorem f_175_109 : ftc (PT 175) 109 = some (109, .ireturn, 1, 0, 0, 0) := by decide +kernel
theorem f_176_0 : ftc (PT 176) 0 = some (0, .aload_n 0, 1, 0, 0, 0) := by decide +kernel
theorem f_176_1 : ftc (PT 176) 1 = some (1, .getfield 83, 3, 11, 13, 481) := by decide +kernel
theorem f_176_4 : ftc (PT 176) 4 = some (4, .invokevirtual 578, 3, 1, 1024, 534) := by decide +kernel
theorem f_176_7 : ftc (PT 176) 7 = some (7, .iconst 0, 1, 0, 0, 0) := by decide +kernel
theorem f_176_8 : ftc (PT 176) 8 = some (8, .istore_n 2, 1, 0, 0, 0) := by decide +kernel
theorem f_176_9 : ftc (PT 176) 9 = some (9, .iload_n 2, 1, 0, 0, 0) := by decide +kernel
theorem f_176_10 : ftc (PT 176) 10 = some (10, .aload_n 0, 1, 0, 0, 0) := by decide +kernel
theorem f_176_11 : ftc (PT 176) 11 = some (11, .getfield 19, 3, 11, 1, 469) := by decide +kernel
theorem f_176_14 : ftc (PT 176) 14 = some (14, .getfield 127, 3, 2, 3, 221) := by decide +kernel
theorem f_176_17 : ftc (PT 176) 17 = some (17, .if_icmp .ge 27, 3, 44, 0, 0) := by decide +kernel
theorem f_176_20 : ftc (PT 176) 20 = some (20, .aload_n 0, 1, 0, 0, 0) := by decide +kernel
theorem f_176_21 : ftc (PT 176) 21 = some (21, .getfield 19, 3, 11, 1, 469) := by decide +kernel
theorem f_176_24 : ftc (PT 176) 24 = some (24, .iload_n 2, 1, 0, 0, 0) := by decide +kernel
theorem f_176_25 : ftc (PT 176) 25 = some (25, .aload_n 0, 1, 0, 0, 0) := by decide +kernel
theorem f_176_26 : ftc (PT 176) 26 = some (26, .getfield 46, 3, 11, 7, 475) := by decide +kernel
theorem f_176_29 : ftc (PT 176) 29 = some (29, .invokestatic 196, 3, 106, 4099, 742) := by decide +kernel
theorem f_176_32 : ftc (PT 176) 32 = some (32, .aload_n 0, 1, 0, 0, 0) := by decide +kernel
theorem f_176_33 : ftc (PT 176) 33 = some (33, .iload_n 2, 1, 0, 0, 0) := by decide +kernel
theorem f_176_34 : ftc (PT 176) 34 = some (34, .iload_n 1, 1, 0, 0, 0) := by decide +kernel
theorem f_176_35 : ftc (PT 176) 35 = some (35, .invokevirtual 605, 3, 177, 4171, 1453) := by decide +kernel
theorem f_176_38 : ftc (PT 176) 38 = some (38, .iinc 2 1, 3, 0, 0, 0) := by decide +kernel
theorem f_176_41 : ftc (PT 176) 41 = some (41, .goto (-32), 3, 9, 0, 0) := by decide +kernel
theorem f_176_44 : ftc (PT 176) 44 = some (44, .return_, 1, 0, 0, 0) := by decide +kernel
theorem f_177_0 : ftc (PT 177) 0 = some (0, .iconst 0, 1, 0, 0, 0) := by decide +kernel
theorem f_177_1 : ftc (PT 177) 1 = some (1, .istore_n 3, 1, 0, 0, 0) := by decide +kernel
theorem f_177_2 : ftc (PT 177) 2 = some (2, .iload_n 3, 1, 0, 0, 0) := by decide +kernel
theorem f_177_3 : ftc (PT 177) 3 = some (3, .sipush 184, 3, 0, 0, 0) := by decide +kernel
theorem f_177_6 : ftc (PT 177) 6 = some (6, .if_icmp .ge 67, 3, 73, 0, 0) := by decide +kernel
theorem f_177_9 : ftc (PT 177) 9 = some (9, .aload_n 0, 1, 0, 0, 0) := by decide +kernel
theorem f_177_10 : ftc (PT 177) 10 = some (10, .getfield 10, 3, 11, 0, 468) := by decide +kernel
theorem f_177_13 : ftc (PT 177) 13 = some (13, .iload_n 3, 1, 0, 0, 0) := by decide +kernel
theorem f_177_14 : ftc (PT 177) 14 = some (14, .iload_n 2, 1, 0, 0, 0) := by decide +kernel
theorem f_177_15 : ftc (PT 177) 15 = some (15, .invokevirtual 581, 3, 71, 3145, 1416) := by decide +kernel
theorem f_177_18 : ftc (PT 177) 18 = some (18, .ifCond .eq 49, 3, 67, 0, 0) := by decide +kernel
theorem f_177_21 : ftc (PT 177) 21 = some (21, .aload_n 0, 1, 0, 0, 0) := by decide +kernel
theorem f_177_22 : ftc (PT 177) 22 = some (22, .iload_n 1, 1, 0, 0, 0) := by decide +kernel
theorem f_177_23 : ftc (PT 177) 23 = some (23, .iload_n 3, 1, 0, 0, 0) := by decide +kernel
theorem f_177_24 : ftc (PT 177) 24 = some (24, .invokevirtual 608, 3, 178, 3147, 1457) := by decide +kernel
theorem f_177_27 : ftc (PT 177) 27 = some (27, .aload_n 0, 1, 0, 0, 0) := by decide +kernel
theorem f_177_28 : ftc (PT 177) 28 = some (28, .getfield 83, 3, 11, 13, 481) := by decide +kernel
theorem f_177_31 : ftc (PT 177) 31 = some (31, .aload_n 0, 1, 0, 0, 0) := by decide +kernel
theorem f_177_32 : ftc (PT 177) 32 = some (32, .getfield 49, 3, 11, 8, 476) := by decide +kernel
theorem f_177_35 : ftc (PT 177) 35 = some (35, .invokevirtual 222, 3, 78, 5130, 577) := by decide +kernel
theorem f_177_38 : ftc (PT 177) 38 = some (38, .aload_n 0, 1, 0, 0, 0) := by decide +kernel
theorem f_177_39 : ftc (PT 177) 39 = some (39, .getfield 49, 3, 11, 8, 476) := by decide +kernel
theorem f_177_42 : ftc (PT 177) 42 = some (42, .invokevirtual 225, 3, 79, 5130, 581) := by decide +kernel
theorem f_177_45 : ftc (PT 177) 45 = some (45, .invokevirtual 588, 3, 2, 5184, 585) := by decide +kernel
theorem f_177_48 : ftc (PT 177) 48 = some (48, .ifCond .eq 19, 3, 67, 0, 0) := by decide +kernel
theorem f_177_51 : ftc (PT 177) 51 = some (51, .aload_n 0, 1, 0, 0, 0) := by decide +kernel
theorem f_177_52 : ftc (PT 177) 52 = some (52, .getfield 83, 3, 11, 13, 481) := by decide +kernel
theorem f_177_55 : ftc (PT 177) 55 = some (55, .iload_n 1, 1, 0, 0, 0) := by decide +kernel
theorem f_177_56 : ftc (PT 177) 56 = some (56, .putfield 383, 3, 0, 3, 392) := by decide +kernel
theorem f_177_59 : ftc (PT 177) 59 = some (59, .aload_n 0, 1, 0, 0, 0) := by decide +kernel
theorem f_177_60 : ftc (PT 177) 60 = some (60, .getfield 83, 3, 11, 13, 481) := by decide +kernel
theorem f_177_63 : ftc (PT 177) 63 = some (63, .iload_n 3, 1, 0, 0, 0) := by decide +kernel
theorem f_177_64 : ftc (PT 177) 64 = some (64, .putfield 386, 3, 0, 5, 396) := by decide +kernel
theorem f_177_67 : ftc (PT 177) 67 = some (67, .iinc 3 1, 3, 0, 0, 0) := by decide +kernel
theorem f_177_70 : ftc (PT 177) 70 = some (70, .goto (-68), 3, 2, 0, 0) := by decide +kernel
theorem f_177_73 : ftc (PT 177) 73 = some (73, .return_, 1, 0, 0, 0) := by decide +kernel
theorem f_178_0 : ftc (PT 178) 0 = some (0, .aload_n 0, 1, 0, 0, 0) := by decide +kernel
theorem f_178_1 : ftc (PT 178) 1 = some (1, .getfield 49, 3, 11, 8, 476) := by decide +kernel
theorem f_178_4 : ftc (PT 178) 4 = some (4, .aload_n 0, 1, 0, 0, 0) := by decide +kernel
theorem f_178_5 : ftc (PT 178) 5 = some (5, .getfield 46, 3, 11, 7, 475) := by decide +kernel
theorem f_178_8 : ftc (PT 178) 8 = some (8, .invokevirtual 569, 3, 84, 2090, 1299) := by decide +kernel
theorem f_178_11 : ftc (PT 178) 11 = some (11, .aload_n 0, 1, 0, 0, 0) := by decide +kernel
theorem f_178_12 : ftc (PT 178) 12 = some (12, .getfield 49, 3, 11, 8, 476) := by decide +kernel
theorem f_178_15 : ftc (PT 178) 15 = some (15, .aload_n 0, 1, 0, 0, 0) := by decide +kernel
theorem f_178_16 : ftc (PT 178) 16 = some (16, .getfield 19, 3, 11, 1, 469) := by decide +kernel
theorem f_178_19 : ftc (PT 178) 19 = some (19, .iload_n 1, 1, 0, 0, 0) := by decide +kernel
theorem f_178_20 : ftc (PT 178) 20 = some (20, .invokevirtual 146, 3, 12, 2082, 549) := by decide +kernel
theorem f_178_23 : ftc (PT 178) 23 = some (23, .aload_n 0, 1, 0, 0, 0) := by decide +kernel
theorem f_178_24 : ftc (PT 178) 24 = some (24, .getfield 10, 3, 11, 0, 468) := by decide +kernel
theorem f_178_27 : ftc (PT 178) 27 = some (27, .iload_n 2, 1, 0, 0, 0) := by decide +kernel
theorem f_178_28 : ftc (PT 178) 28 = some (28, .invokevirtual 331, 3, 69, 2089, 1303) := by decide +kernel
theorem f_178_31 : ftc (PT 178) 31 = some (31, .i2l, 1, 0, 0, 0) := by decide +kernel
theorem f_178_32 : ftc (PT 178) 32 = some (32, .aload_n 0, 1, 0, 0, 0) := by decide +kernel
theorem f_178_33 : ftc (PT 178) 33 = some (33, .getfield 10, 3, 11, 0, 468) := by decide +kernel
theorem f_178_36 : ftc (PT 178) 36 = some (36, .iload_n 2, 1, 0, 0, 0) := by decide +kernel
theorem f_178_37 : ftc (PT 178) 37 = some (37, .invokevirtual 328, 3, 70, 2089, 1307) := by decide +kernel
theorem f_178_40 : ftc (PT 178) 40 = some (40, .i2l, 1, 0, 0, 0) := by decide +kernel
theorem f_178_41 : ftc (PT 178) 41 = some (41, .invokevirtual 491, 3, 75, 6250, 565) := by decide +kernel
theorem f_178_44 : ftc (PT 178) 44 = some (44, .aload_n 0, 1, 0, 0, 0) := by decide +kernel
theorem f_178_45 : ftc (PT 178) 45 = some (45, .getfield 19, 3, 11, 1, 469) := by decide +kernel
theorem f_178_48 : ftc (PT 178) 48 = some (48, .iload_n 1, 1, 0, 0, 0) := by decide +kernel
theorem f_178_49 : ftc (PT 178) 49 = some (49, .iconst 1, 1, 0, 0, 0) := by decide +kernel
theorem f_178_50 : ftc (PT 178) 50 = some (50, .iadd, 1, 0, 0, 0) := by decide +kernel
theorem f_178_51 : ftc (PT 178) 51 = some (51, .aload_n 0, 1, 0, 0, 0) := by decide +kernel
theorem f_178_52 : ftc (PT 178) 52 = some (52, .getfield 49, 3, 11, 8, 476) := by decide +kernel
theorem f_178_55 : ftc (PT 178) 55 = some (55, .invokestatic 611, 3, 179, 4099, 1461) := by decide +kernel
theorem f_178_58 : ftc (PT 178) 58 = some (58, .return_, 1, 0, 0, 0) := by decide +kernel
theorem f_179_0 : ftc (PT 179) 0 = some (0, .iload_n 1, 1, 0, 0, 0) := by decide +kernel
theorem f_179_1 : ftc (PT 179) 1 = some (1, .istore_n 3, 1, 0, 0, 0) := by decide +kernel
theorem f_179_2 : ftc (PT 179) 2 = some (2, .iload_n 3, 1, 0, 0, 0) := by decide +kernel
theorem f_179_3 : ftc (PT 179) 3 = some (3, .aload_n 0, 1, 0, 0, 0) := by decide +kernel
theorem f_179_4 : ftc (PT 179) 4 = some (4, .getfield 127, 3, 2, 3, 221) := by decide +kernel
theorem f_179_7 : ftc (PT 179) 7 = some (7, .if_icmp .ge 30, 3, 37, 0, 0) := by decide +kernel
theorem f_179_10 : ftc (PT 179) 10 = some (10, .aload_n 2, 1, 0, 0, 0) := by decide +kernel
theorem f_179_11 : ftc (PT 179) 11 = some (11, .aload_n 0, 1, 0, 0, 0) := by decide +kernel
theorem f_179_12 : ftc (PT 179) 12 = some (12, .iload_n 3, 1, 0, 0, 0) := by decide +kernel
theorem f_179_13 : ftc (PT 179) 13 = some (13, .invokevirtual 146, 3, 12, 2082, 549) := by decide +kernel
theorem f_179_16 : ftc (PT 179) 16 = some (16, .aload_n 0, 1, 0, 0, 0) := by decide +kernel
theorem f_179_17 : ftc (PT 179) 17 = some (17, .iload_n 3, 1, 0, 0, 0) := by decide +kernel
theorem f_179_18 : ftc (PT 179) 18 = some (18, .invokevirtual 150, 3, 14, 2082, 557) := by decide +kernel
theorem f_179_21 : ftc (PT 179) 21 = some (21, .i2l, 1, 0, 0, 0) := by decide +kernel
theorem f_179_22 : ftc (PT 179) 22 = some (22, .aload_n 0, 1, 0, 0, 0) := by decide +kernel
theorem f_179_23 : ftc (PT 179) 23 = some (23, .iload_n 3, 1, 0, 0, 0) := by decide +kernel
theorem f_179_24 : ftc (PT 179) 24 = some (24, .invokevirtual 153, 3, 15, 2082, 561) := by decide +kernel
theorem f_179_27 : ftc (PT 179) 27 = some (27, .i2l, 1, 0, 0, 0) := by decide +kernel
theorem f_179_28 : ftc (PT 179) 28 = some (28, .invokevirtual 491, 3, 75, 6250, 565) := by decide +kernel
theorem f_179_31 : ftc (PT 179) 31 = some (31, .iinc 3 1, 3, 0, 0, 0) := by decide +kernel
theorem f_179_34 : ftc (PT 179) 34 = some (34, .goto (-32), 3, 2, 0, 0) := by decide +kernel
theorem f_179_37 : ftc (PT 179) 37 = some (37, .return_, 1, 0, 0, 0) := by decide +kernel
theorem f_180_31 : ftc (PT 180) 31 = some (31, .ifCond .ne 11, 3, 42, 0, 0) := by decide +kernel
theorem f_180_34 : ftc (PT 180) 34 = some (34, .new 130, 3, 102, 6, 856) := by decide +kernel
theorem f_180_42 : ftc (PT 180) 42 = some (42, .aload_n 0, 1, 0, 0, 0) := by decide +kernel
theorem f_180_43 : ftc (PT 180) 43 = some (43, .getfield 55, 3, 11, 9, 477) := by decide +kernel
theorem f_180_46 : ftc (PT 180) 46 = some (46, .getfield 169, 3, 6, 0, 274) := by decide +kernel
theorem f_180_49 : ftc (PT 180) 49 = some (49, .l2i, 1, 0, 0, 0) := by decide +kernel
theorem f_180_50 : ftc (PT 180) 50 = some (50, .aload_n 0, 1, 0, 0, 0) := by decide +kernel
theorem f_180_51 : ftc (PT 180) 51 = some (51, .getfield 55, 3, 11, 9, 477) := by decide +kernel
theorem f_180_54 : ftc (PT 180) 54 = some (54, .getfield 172, 3, 6, 1, 278) := by decide +kernel
theorem f_180_57 : ftc (PT 180) 57 = some (57, .l2i, 1, 0, 0, 0) := by decide +kernel
theorem f_180_58 : ftc (PT 180) 58 = some (58, .aload_n 0, 1, 0, 0, 0) := by decide +kernel
theorem f_180_59 : ftc (PT 180) 59 = some (59, .getfield 55, 3, 11, 9, 477) := by decide +kernel
theorem f_180_62 : ftc (PT 180) 62 = some (62, .getfield 174, 3, 6, 2, 282) := by decide +kernel
theorem f_180_65 : ftc (PT 180) 65 = some (65, .l2i, 1, 0, 0, 0) := by decide +kernel
theorem f_180_66 : ftc (PT 180) 66 = some (66, .invokestatic 112, 3, 111, 3075, 770) := by decide +kernel
theorem f_180_69 : ftc (PT 180) 69 = some (69, .ifCond .ne 11, 3, 80, 0, 0) := by decide +kernel
theorem f_180_72 : ftc (PT 180) 72 = some (72, .new 130, 3, 102, 6, 856) := by decide +kernel
theorem f_180_80 : ftc (PT 180) 80 = some (80, .aload_n 0, 1, 0, 0, 0) := by decide +kernel
theorem f_180_81 : ftc (PT 180) 81 = some (81, .getfield 19, 3, 11, 1, 469) := by decide +kernel
theorem f_180_84 : ftc (PT 180) 84 = some (84, .aload_n 0, 1, 0, 0, 0) := by decide +kernel
theorem f_180_85 : ftc (PT 180) 85 = some (85, .getfield 55, 3, 11, 9, 477) := by decide +kernel
theorem f_180_88 : ftc (PT 180) 88 = some (88, .getfield 169, 3, 6, 0, 274) := by decide +kernel
theorem f_180_91 : ftc (PT 180) 91 = some (91, .l2i, 1, 0, 0, 0) := by decide +kernel
theorem f_180_92 : ftc (PT 180) 92 = some (92, .aload_n 0, 1, 0, 0, 0) := by decide +kernel
theorem f_180_93 : ftc (PT 180) 93 = some (93, .getfield 55, 3, 11, 9, 477) := by decide +kernel
theorem f_180_96 : ftc (PT 180) 96 = some (96, .getfield 172, 3, 6, 1, 278) := by decide +kernel
theorem f_180_99 : ftc (PT 180) 99 = some (99, .l2i, 1, 0, 0, 0) := by decide +kernel
theorem f_180_100 : ftc (PT 180) 100 = some (100, .aload_n 0, 1, 0, 0, 0) := by decide +kernel
theorem f_180_101 : ftc (PT 180) 101 = some (101, .getfield 55, 3, 11, 9, 477) := by decide +kernel
theorem f_180_104 : ftc (PT 180) 104 = some (104, .getfield 174, 3, 6, 2, 282) := by decide +kernel
theorem f_180_107 : ftc (PT 180) 107 = some (107, .l2i, 1, 0, 0, 0) := by decide +kernel
theorem f_180_108 : ftc (PT 180) 108 = some (108, .invokevirtual 119, 3, 17, 4194, 837) := by decide +kernel
theorem f_180_111 : ftc (PT 180) 111 = some (111, .iconst 0, 1, 0, 0, 0) := by decide +kernel
theorem f_180_112 : ftc (PT 180) 112 = some (112, .istore_n 1, 1, 0, 0, 0) := by decide +kernel
theorem f_180_113 : ftc (PT 180) 113 = some (113, .iload_n 1, 1, 0, 0, 0) := by decide +kernel
theorem f_180_114 : ftc (PT 180) 114 = some (114, .aload_n 0, 1, 0, 0, 0) := by decide +kernel
theorem f_180_115 : ftc (PT 180) 115 = some (115, .getfield 19, 3, 11, 1, 469) := by decide +kernel
theorem f_180_118 : ftc (PT 180) 118 = some (118, .getfield 127, 3, 2, 3, 221) := by decide +kernel
theorem f_180_121 : ftc (PT 180) 121 = some (121, .if_icmp .ge 17, 3, 138, 0, 0) := by decide +kernel
theorem f_180_124 : ftc (PT 180) 124 = some (124, .aload_n 0, 1, 0, 0, 0) := by decide +kernel
theorem f_180_125 : ftc (PT 180) 125 = some (125, .getfield 19, 3, 11, 1, 469) := by decide +kernel
theorem f_180_128 : ftc (PT 180) 128 = some (128, .iload_n 1, 1, 0, 0, 0) := by decide +kernel
theorem f_180_129 : ftc (PT 180) 129 = some (129, .invokevirtual 176, 3, 21, 2082, 1475) := by decide +kernel
theorem f_180_132 : ftc (PT 180) 132 = some (132, .iinc 1 1, 3, 0, 0, 0) := by decide +kernel
theorem f_180_135 : ftc (PT 180) 135 = some (135, .goto (-22), 3, 113, 0, 0) := by decide +kernel
theorem f_180_138 : ftc (PT 180) 138 = some (138, .return_, 1, 0, 0, 0) := by decide +kernel
theorem f_181_21 : ftc (PT 181) 21 = some (21, .iload_n 2, 1, 0, 0, 0) := by decide +kernel
theorem f_181_22 : ftc (PT 181) 22 = some (22, .iconst 5, 1, 0, 0, 0) := by decide +kernel
theorem f_181_23 : ftc (PT 181) 23 = some (23, .if_icmp .ne 13, 3, 36, 0, 0) := by decide +kernel
theorem f_181_26 : ftc (PT 181) 26 = some (26, .aload_n 0, 1, 0, 0, 0) := by decide +kernel
theorem f_181_27 : ftc (PT 181) 27 = some (27, .getfield 83, 3, 11, 13, 481) := by decide +kernel
theorem f_181_30 : ftc (PT 181) 30 = some (30, .invokevirtual 389, 3, 4, 1024, 627) := by decide +kernel
theorem f_181_33 : ftc (PT 181) 33 = some (33, .goto 8, 3, 41, 0, 0) := by decide +kernel
theorem f_181_36 : ftc (PT 181) 36 = some (36, .aload_n 0, 1, 0, 0, 0) := by decide +kernel
theorem f_181_37 : ftc (PT 181) 37 = some (37, .iload_n 2, 1, 0, 0, 0) := by decide +kernel
theorem f_181_38 : ftc (PT 181) 38 = some (38, .invokevirtual 377, 3, 174, 2091, 1438) := by decide +kernel
theorem f_181_41 : ftc (PT 181) 41 = some (41, .ireturn, 1, 0, 0, 0) := by decide +kernel
theorem f_182_0 : ftc (PT 182) 0 = some (0, .aload_n 0, 1, 0, 0, 0) := by decide +kernel
theorem f_182_1 : ftc (PT 182) 1 = some (1, .getfield 83, 3, 11, 13, 481) := by decide +kernel
theorem f_182_4 : ftc (PT 182) 4 = some (4, .invokevirtual 578, 3, 1, 1024, 534) := by decide +kernel
theorem f_182_7 : ftc (PT 182) 7 = some (7, .aload_n 0, 1, 0, 0, 0) := by decide +kernel
theorem f_182_8 : ftc (PT 182) 8 = some (8, .getfield 19, 3, 11, 1, 469) := by decide +kernel
theorem f_182_11 : ftc (PT 182) 11 = some (11, .aload_n 0, 1, 0, 0, 0) := by decide +kernel
theorem f_182_12 : ftc (PT 182) 12 = some (12, .getfield 19, 3, 11, 1, 469) := by decide +kernel
theorem f_182_15 : ftc (PT 182) 15 = some (15, .getfield 127, 3, 2, 3, 221) := by decide +kernel
theorem f_182_18 : ftc (PT 182) 18 = some (18, .aload_n 0, 1, 0, 0, 0) := by decide +kernel
theorem f_182_19 : ftc (PT 182) 19 = some (19, .getfield 46, 3, 11, 7, 475) := by decide +kernel
theorem f_182_22 : ftc (PT 182) 22 = some (22, .invokestatic 196, 3, 106, 4099, 742) := by decide +kernel
theorem f_182_25 : ftc (PT 182) 25 = some (25, .iconst 0, 1, 0, 0, 0) := by decide +kernel
theorem f_182_26 : ftc (PT 182) 26 = some (26, .istore_n 2, 1, 0, 0, 0) := by decide +kernel
theorem f_182_27 : ftc (PT 182) 27 = some (27, .iload_n 2, 1, 0, 0, 0) := by decide +kernel
theorem f_182_28 : ftc (PT 182) 28 = some (28, .sipush 184, 3, 0, 0, 0) := by decide +kernel
theorem f_182_31 : ftc (PT 182) 31 = some (31, .if_icmp .ge 63, 3, 94, 0, 0) := by decide +kernel
theorem f_182_34 : ftc (PT 182) 34 = some (34, .aload_n 0, 1, 0, 0, 0) := by decide +kernel
theorem f_182_35 : ftc (PT 182) 35 = some (35, .getfield 10, 3, 11, 0, 468) := by decide +kernel
theorem f_182_38 : ftc (PT 182) 38 = some (38, .iload_n 2, 1, 0, 0, 0) := by decide +kernel
theorem f_182_39 : ftc (PT 182) 39 = some (39, .iload_n 1, 1, 0, 0, 0) := by decide +kernel
theorem f_182_40 : ftc (PT 182) 40 = some (40, .invokevirtual 581, 3, 71, 3145, 1416) := by decide +kernel
theorem f_182_43 : ftc (PT 182) 43 = some (43, .ifCond .eq 45, 3, 88, 0, 0) := by decide +kernel
theorem f_182_46 : ftc (PT 182) 46 = some (46, .aload_n 0, 1, 0, 0, 0) := by decide +kernel
theorem f_182_47 : ftc (PT 182) 47 = some (47, .getfield 42, 3, 11, 6, 474) := by decide +kernel
theorem f_182_50 : ftc (PT 182) 50 = some (50, .aload_n 0, 1, 0, 0, 0) := by decide +kernel
theorem f_182_51 : ftc (PT 182) 51 = some (51, .getfield 46, 3, 11, 7, 475) := by decide +kernel
theorem f_182_54 : ftc (PT 182) 54 = some (54, .invokevirtual 569, 3, 84, 2090, 1299) := by decide +kernel
theorem f_182_57 : ftc (PT 182) 57 = some (57, .aload_n 0, 1, 0, 0, 0) := by decide +kernel
theorem f_182_58 : ftc (PT 182) 58 = some (58, .getfield 42, 3, 11, 6, 474) := by decide +kernel
theorem f_182_61 : ftc (PT 182) 61 = some (61, .aload_n 0, 1, 0, 0, 0) := by decide +kernel
theorem f_182_62 : ftc (PT 182) 62 = some (62, .getfield 10, 3, 11, 0, 468) := by decide +kernel
theorem f_182_65 : ftc (PT 182) 65 = some (65, .iload_n 2, 1, 0, 0, 0) := by decide +kernel
theorem f_182_66 : ftc (PT 182) 66 = some (66, .invokevirtual 331, 3, 69, 2089, 1303) := by decide +kernel
theorem f_182_69 : ftc (PT 182) 69 = some (69, .i2l, 1, 0, 0, 0) := by decide +kernel
theorem f_182_70 : ftc (PT 182) 70 = some (70, .aload_n 0, 1, 0, 0, 0) := by decide +kernel
theorem f_182_71 : ftc (PT 182) 71 = some (71, .getfield 10, 3, 11, 0, 468) := by decide +kernel
theorem f_182_74 : ftc (PT 182) 74 = some (74, .iload_n 2, 1, 0, 0, 0) := by decide +kernel
theorem f_182_75 : ftc (PT 182) 75 = some (75, .invokevirtual 328, 3, 70, 2089, 1307) := by decide +kernel
theorem f_182_78 : ftc (PT 182) 78 = some (78, .i2l, 1, 0, 0, 0) := by decide +kernel
theorem f_182_79 : ftc (PT 182) 79 = some (79, .invokevirtual 560, 3, 76, 11338, 1311) := by decide +kernel
theorem f_182_82 : ftc (PT 182) 82 = some (82, .aload_n 0, 1, 0, 0, 0) := by decide +kernel
theorem f_182_83 : ftc (PT 182) 83 = some (83, .iload_n 2, 1, 0, 0, 0) := by decide +kernel
theorem f_182_84 : ftc (PT 182) 84 = some (84, .iload_n 1, 1, 0, 0, 0) := by decide +kernel
theorem f_182_85 : ftc (PT 182) 85 = some (85, .invokevirtual 585, 3, 183, 5195, 1490) := by decide +kernel
theorem f_182_88 : ftc (PT 182) 88 = some (88, .iinc 2 1, 3, 0, 0, 0) := by decide +kernel
theorem f_182_91 : ftc (PT 182) 91 = some (91, .goto (-64), 3, 27, 0, 0) := by decide +kernel
theorem f_182_94 : ftc (PT 182) 94 = some (94, .return_, 1, 0, 0, 0) := by decide +kernel
theorem f_183_0 : ftc (PT 183) 0 = some (0, .iconst 0, 1, 0, 0, 0) := by decide +kernel
theorem f_183_1 : ftc (PT 183) 1 = some (1, .istore_n 3, 1, 0, 0, 0) := by decide +kernel
theorem f_183_2 : ftc (PT 183) 2 = some (2, .iload_n 3, 1, 0, 0, 0) := by decide +kernel
theorem f_183_3 : ftc (PT 183) 3 = some (3, .sipush 184, 3, 0, 0, 0) := by decide +kernel
theorem f_183_6 : ftc (PT 183) 6 = some (6, .if_icmp .ge 143, 3, 149, 0, 0) := by decide +kernel
theorem f_183_9 : ftc (PT 183) 9 = some (9, .iconst 0, 1, 0, 0, 0) := by decide +kernel
theorem f_183_10 : ftc (PT 183) 10 = some (10, .istore 4, 2, 0, 0, 0) := by decide +kernel
theorem f_183_12 : ftc (PT 183) 12 = some (12, .iload 4, 2, 0, 0, 0) := by decide +kernel
theorem f_183_14 : ftc (PT 183) 14 = some (14, .iconst 2, 1, 0, 0, 0) := by decide +kernel
theorem f_183_15 : ftc (PT 183) 15 = some (15, .if_icmp .ge 128, 3, 143, 0, 0) := by decide +kernel
theorem f_183_18 : ftc (PT 183) 18 = some (18, .aload_n 0, 1, 0, 0, 0) := by decide +kernel
theorem f_183_19 : ftc (PT 183) 19 = some (19, .getfield 10, 3, 11, 0, 468) := by decide +kernel
theorem f_183_22 : ftc (PT 183) 22 = some (22, .iload_n 3, 1, 0, 0, 0) := by decide +kernel
theorem f_183_23 : ftc (PT 183) 23 = some (23, .iload_n 2, 1, 0, 0, 0) := by decide +kernel
theorem f_183_24 : ftc (PT 183) 24 = some (24, .invokevirtual 581, 3, 71, 3145, 1416) := by decide +kernel
theorem f_183_27 : ftc (PT 183) 27 = some (27, .ifCond .eq 116, 3, 143, 0, 0) := by decide +kernel
theorem f_183_30 : ftc (PT 183) 30 = some (30, .aload_n 0, 1, 0, 0, 0) := by decide +kernel
theorem f_183_31 : ftc (PT 183) 31 = some (31, .getfield 49, 3, 11, 8, 476) := by decide +kernel
theorem f_183_34 : ftc (PT 183) 34 = some (34, .aload_n 0, 1, 0, 0, 0) := by decide +kernel
theorem f_183_35 : ftc (PT 183) 35 = some (35, .getfield 42, 3, 11, 6, 474) := by decide +kernel
theorem f_183_38 : ftc (PT 183) 38 = some (38, .invokevirtual 569, 3, 84, 2090, 1299) := by decide +kernel
theorem f_183_41 : ftc (PT 183) 41 = some (41, .aload_n 0, 1, 0, 0, 0) := by decide +kernel
theorem f_183_42 : ftc (PT 183) 42 = some (42, .getfield 49, 3, 11, 8, 476) := by decide +kernel
theorem f_183_45 : ftc (PT 183) 45 = some (45, .iconst 0, 1, 0, 0, 0) := by decide +kernel
theorem f_183_46 : ftc (PT 183) 46 = some (46, .iload 4, 2, 0, 0, 0) := by decide +kernel
theorem f_183_48 : ftc (PT 183) 48 = some (48, .ifCond .ne 7, 3, 55, 0, 0) := by decide +kernel
theorem f_183_51 : ftc (PT 183) 51 = some (51, .iconst 1, 1, 0, 0, 0) := by decide +kernel
theorem f_183_52 : ftc (PT 183) 52 = some (52, .goto 4, 3, 56, 0, 0) := by decide +kernel
theorem f_183_55 : ftc (PT 183) 55 = some (55, .iconst 0, 1, 0, 0, 0) := by decide +kernel
theorem f_183_56 : ftc (PT 183) 56 = some (56, .invokestatic 301, 3, 146, 2050, 1208) := by decide +kernel
theorem f_183_59 : ftc (PT 183) 59 = some (59, .aload_n 0, 1, 0, 0, 0) := by decide +kernel
theorem f_183_60 : ftc (PT 183) 60 = some (60, .getfield 10, 3, 11, 0, 468) := by decide +kernel
theorem f_183_63 : ftc (PT 183) 63 = some (63, .iload_n 3, 1, 0, 0, 0) := by decide +kernel
theorem f_183_64 : ftc (PT 183) 64 = some (64, .invokevirtual 331, 3, 69, 2089, 1303) := by decide +kernel
theorem f_183_67 : ftc (PT 183) 67 = some (67, .i2l, 1, 0, 0, 0) := by decide +kernel
theorem f_183_68 : ftc (PT 183) 68 = some (68, .aload_n 0, 1, 0, 0, 0) := by decide +kernel
theorem f_183_69 : ftc (PT 183) 69 = some (69, .getfield 10, 3, 11, 0, 468) := by decide +kernel
theorem f_183_72 : ftc (PT 183) 72 = some (72, .iload_n 3, 1, 0, 0, 0) := by decide +kernel
theorem f_183_73 : ftc (PT 183) 73 = some (73, .invokevirtual 328, 3, 70, 2089, 1307) := by decide +kernel
theorem f_183_76 : ftc (PT 183) 76 = some (76, .i2l, 1, 0, 0, 0) := by decide +kernel
theorem f_183_77 : ftc (PT 183) 77 = some (77, .invokevirtual 491, 3, 75, 6250, 565) := by decide +kernel
theorem f_183_80 : ftc (PT 183) 80 = some (80, .aload_n 0, 1, 0, 0, 0) := by decide +kernel
theorem f_183_81 : ftc (PT 183) 81 = some (81, .getfield 83, 3, 11, 13, 481) := by decide +kernel
theorem f_183_84 : ftc (PT 183) 84 = some (84, .aload_n 0, 1, 0, 0, 0) := by decide +kernel
theorem f_183_85 : ftc (PT 183) 85 = some (85, .getfield 49, 3, 11, 8, 476) := by decide +kernel
theorem f_183_88 : ftc (PT 183) 88 = some (88, .invokevirtual 222, 3, 78, 5130, 577) := by decide +kernel
theorem f_183_91 : ftc (PT 183) 91 = some (91, .aload_n 0, 1, 0, 0, 0) := by decide +kernel
theorem f_183_92 : ftc (PT 183) 92 = some (92, .getfield 49, 3, 11, 8, 476) := by decide +kernel
theorem f_183_95 : ftc (PT 183) 95 = some (95, .invokevirtual 225, 3, 79, 5130, 581) := by decide +kernel
theorem f_183_98 : ftc (PT 183) 98 = some (98, .invokevirtual 588, 3, 2, 5184, 585) := by decide +kernel
theorem f_183_101 : ftc (PT 183) 101 = some (101, .ifCond .eq 36, 3, 137, 0, 0) := by decide +kernel
theorem f_183_104 : ftc (PT 183) 104 = some (104, .aload_n 0, 1, 0, 0, 0) := by decide +kernel
theorem f_183_105 : ftc (PT 183) 105 = some (105, .getfield 83, 3, 11, 13, 481) := by decide +kernel
theorem f_183_108 : ftc (PT 183) 108 = some (108, .iload_n 1, 1, 0, 0, 0) := by decide +kernel
theorem f_183_109 : ftc (PT 183) 109 = some (109, .putfield 403, 3, 0, 4, 394) := by decide +kernel
theorem f_183_112 : ftc (PT 183) 112 = some (112, .aload_n 0, 1, 0, 0, 0) := by decide +kernel
theorem f_183_113 : ftc (PT 183) 113 = some (113, .getfield 83, 3, 11, 13, 481) := by decide +kernel
theorem f_183_116 : ftc (PT 183) 116 = some (116, .iload_n 3, 1, 0, 0, 0) := by decide +kernel
theorem f_183_117 : ftc (PT 183) 117 = some (117, .putfield 386, 3, 0, 5, 396) := by decide +kernel
theorem f_183_120 : ftc (PT 183) 120 = some (120, .aload_n 0, 1, 0, 0, 0) := by decide +kernel
theorem f_183_121 : ftc (PT 183) 121 = some (121, .getfield 83, 3, 11, 13, 481) := by decide +kernel
theorem f_183_124 : ftc (PT 183) 124 = some (124, .iload 4, 2, 0, 0, 0) := by decide +kernel
theorem f_183_126 : ftc (PT 183) 126 = some (126, .ifCond .ne 7, 3, 133, 0, 0) := by decide +kernel
theorem f_183_129 : ftc (PT 183) 129 = some (129, .iconst 1, 1, 0, 0, 0) := by decide +kernel
theorem f_183_130 : ftc (PT 183) 130 = some (130, .goto 4, 3, 134, 0, 0) := by decide +kernel
theorem f_183_133 : ftc (PT 183) 133 = some (133, .iconst 0, 1, 0, 0, 0) := by decide +kernel
theorem f_183_134 : ftc (PT 183) 134 = some (134, .putfield 575, 3, 0, 6, 398) := by decide +kernel
theorem f_183_137 : ftc (PT 183) 137 = some (137, .iinc 4 1, 3, 0, 0, 0) := by decide +kernel
theorem f_183_140 : ftc (PT 183) 140 = some (140, .goto (-128), 3, 12, 0, 0) := by decide +kernel
theorem f_183_143 : ftc (PT 183) 143 = some (143, .iinc 3 1, 3, 0, 0, 0) := by decide +kernel
theorem f_183_146 : ftc (PT 183) 146 = some (146, .goto (-144), 3, 2, 0, 0) := by decide +kernel
theorem f_183_149 : ftc (PT 183) 149 = some (149, .return_, 1, 0, 0, 0) := by decide +kernel
theorem f_184_12 : ftc (PT 184) 12 = some (12, .aload_n 0, 1, 0, 0, 0) := by decide +kernel
theorem f_184_13 : ftc (PT 184) 13 = some (13, .iload_n 1, 1, 0, 0, 0) := by decide +kernel
theorem f_184_14 : ftc (PT 184) 14 = some (14, .iload_n 2, 1, 0, 0, 0) := by decide +kernel
theorem f_184_15 : ftc (PT 184) 15 = some (15, .iload_n 3, 1, 0, 0, 0) := by decide +kernel
theorem f_184_16 : ftc (PT 184) 16 = some (16, .iload 4, 2, 0, 0, 0) := by decide +kernel
theorem f_184_18 : ftc (PT 184) 18 = some (18, .iload 5, 2, 0, 0, 0) := by decide +kernel
theorem f_184_20 : ftc (PT 184) 20 = some (20, .iload 6, 2, 0, 0, 0) := by decide +kernel
theorem f_184_22 : ftc (PT 184) 22 = some (22, .invokevirtual 349, 3, 186, 7371, 1505) := by decide +kernel
theorem f_184_25 : ftc (PT 184) 25 = some (25, .aload_n 0, 1, 0, 0, 0) := by decide +kernel
theorem f_184_26 : ftc (PT 184) 26 = some (26, .getfield 76, 3, 11, 12, 480) := by decide +kernel
theorem f_184_29 : ftc (PT 184) 29 = some (29, .getfield 319, 3, 4, 0, 353) := by decide +kernel
theorem f_184_32 : ftc (PT 184) 32 = some (32, .ireturn, 1, 0, 0, 0) := by decide +kernel
theorem f_185_11 : ftc (PT 185) 11 = some (11, .iload 4, 2, 0, 0, 0) := by decide +kernel
theorem f_185_13 : ftc (PT 185) 13 = some (13, .bipush (-99), 2, 0, 0, 0) := by decide +kernel
theorem f_185_15 : ftc (PT 185) 15 = some (15, .if_icmp .lt 23, 3, 38, 0, 0) := by decide +kernel
theorem f_185_18 : ftc (PT 185) 18 = some (18, .iload 4, 2, 0, 0, 0) := by decide +kernel
theorem f_185_20 : ftc (PT 185) 20 = some (20, .bipush 99, 2, 0, 0, 0) := by decide +kernel
theorem f_185_22 : ftc (PT 185) 22 = some (22, .if_icmp .gt 16, 3, 38, 0, 0) := by decide +kernel
theorem f_185_25 : ftc (PT 185) 25 = some (25, .iload 5, 2, 0, 0, 0) := by decide +kernel
theorem f_185_27 : ftc (PT 185) 27 = some (27, .iconst 1, 1, 0, 0, 0) := by decide +kernel
theorem f_185_28 : ftc (PT 185) 28 = some (28, .if_icmp .lt 10, 3, 38, 0, 0) := by decide +kernel
theorem f_185_31 : ftc (PT 185) 31 = some (31, .iload 5, 2, 0, 0, 0) := by decide +kernel
theorem f_185_33 : ftc (PT 185) 33 = some (33, .bipush 20, 2, 0, 0, 0) := by decide +kernel
theorem f_185_35 : ftc (PT 185) 35 = some (35, .if_icmp .le 11, 3, 46, 0, 0) := by decide +kernel
theorem f_185_38 : ftc (PT 185) 38 = some (38, .new 116, 3, 101, 6, 773) := by decide +kernel
theorem f_185_46 : ftc (PT 185) 46 = some (46, .return_, 1, 0, 0, 0) := by decide +kernel
theorem f_186_0 : ftc (PT 186) 0 = some (0, .aload_n 0, 1, 0, 0, 0) := by decide +kernel
theorem f_186_1 : ftc (PT 186) 1 = some (1, .iload_n 1, 1, 0, 0, 0) := by decide +kernel
theorem f_186_2 : ftc (PT 186) 2 = some (2, .iload_n 2, 1, 0, 0, 0) := by decide +kernel
theorem f_186_3 : ftc (PT 186) 3 = some (3, .invokevirtual 305, 3, 148, 3147, 1218) := by decide +kernel
theorem f_186_6 : ftc (PT 186) 6 = some (6, .aload_n 0, 1, 0, 0, 0) := by decide +kernel
theorem f_186_7 : ftc (PT 186) 7 = some (7, .aload_n 0, 1, 0, 0, 0) := by decide +kernel
theorem f_186_8 : ftc (PT 186) 8 = some (8, .getfield 42, 3, 11, 6, 474) := by decide +kernel
theorem f_186_11 : ftc (PT 186) 11 = some (11, .invokevirtual 552, 3, 157, 2091, 1295) := by decide +kernel
theorem f_186_14 : ftc (PT 186) 14 = some (14, .aload_n 0, 1, 0, 0, 0) := by decide +kernel
theorem f_186_15 : ftc (PT 186) 15 = some (15, .getfield 42, 3, 11, 6, 474) := by decide +kernel
theorem f_186_18 : ftc (PT 186) 18 = some (18, .iload_n 2, 1, 0, 0, 0) := by decide +kernel
theorem f_186_19 : ftc (PT 186) 19 = some (19, .iload 5, 2, 0, 0, 0) := by decide +kernel
theorem f_186_21 : ftc (PT 186) 21 = some (21, .i2l, 1, 0, 0, 0) := by decide +kernel
theorem f_186_22 : ftc (PT 186) 22 = some (22, .iload 6, 2, 0, 0, 0) := by decide +kernel
theorem f_186_24 : ftc (PT 186) 24 = some (24, .i2l, 1, 0, 0, 0) := by decide +kernel
theorem f_186_25 : ftc (PT 186) 25 = some (25, .invokevirtual 556, 3, 77, 8298, 1509) := by decide +kernel
theorem f_186_28 : ftc (PT 186) 28 = some (28, .aload_n 0, 1, 0, 0, 0) := by decide +kernel
theorem f_186_29 : ftc (PT 186) 29 = some (29, .getfield 42, 3, 11, 6, 474) := by decide +kernel
theorem f_186_32 : ftc (PT 186) 32 = some (32, .iload_n 3, 1, 0, 0, 0) := by decide +kernel
theorem f_186_33 : ftc (PT 186) 33 = some (33, .i2l, 1, 0, 0, 0) := by decide +kernel
theorem f_186_34 : ftc (PT 186) 34 = some (34, .iload 4, 2, 0, 0, 0) := by decide +kernel
theorem f_186_36 : ftc (PT 186) 36 = some (36, .i2l, 1, 0, 0, 0) := by decide +kernel
theorem f_186_37 : ftc (PT 186) 37 = some (37, .invokevirtual 560, 3, 76, 11338, 1311) := by decide +kernel
theorem f_186_40 : ftc (PT 186) 40 = some (40, .aload_n 0, 1, 0, 0, 0) := by decide +kernel
theorem f_186_41 : ftc (PT 186) 41 = some (41, .getfield 55, 3, 11, 9, 477) := by decide +kernel
theorem f_186_44 : ftc (PT 186) 44 = some (44, .aload_n 0, 1, 0, 0, 0) := by decide +kernel
theorem f_186_45 : ftc (PT 186) 45 = some (45, .getfield 42, 3, 11, 6, 474) := by decide +kernel
theorem f_186_48 : ftc (PT 186) 48 = some (48, .invokevirtual 475, 3, 52, 2086, 1070) := by decide +kernel
theorem f_186_51 : ftc (PT 186) 51 = some (51, .ifCond .ne 11, 3, 62, 0, 0) := by decide +kernel
theorem f_186_54 : ftc (PT 186) 54 = some (54, .new 130, 3, 102, 6, 856) := by decide +kernel
theorem f_186_62 : ftc (PT 186) 62 = some (62, .aload_n 0, 1, 0, 0, 0) := by decide +kernel
theorem f_186_63 : ftc (PT 186) 63 = some (63, .iload_n 2, 1, 0, 0, 0) := by decide +kernel
theorem f_186_64 : ftc (PT 186) 64 = some (64, .invokevirtual 478, 3, 149, 2091, 1222) := by decide +kernel
theorem f_186_67 : ftc (PT 186) 67 = some (67, .aload_n 0, 1, 0, 0, 0) := by decide +kernel
theorem f_186_68 : ftc (PT 186) 68 = some (68, .getfield 76, 3, 11, 12, 480) := by decide +kernel
theorem f_186_71 : ftc (PT 186) 71 = some (71, .aload_n 0, 1, 0, 0, 0) := by decide +kernel
theorem f_186_72 : ftc (PT 186) 72 = some (72, .getfield 55, 3, 11, 9, 477) := by decide +kernel
theorem f_186_75 : ftc (PT 186) 75 = some (75, .iload_n 2, 1, 0, 0, 0) := by decide +kernel
theorem f_186_76 : ftc (PT 186) 76 = some (76, .iload_n 3, 1, 0, 0, 0) := by decide +kernel
theorem f_186_77 : ftc (PT 186) 77 = some (77, .iload 4, 2, 0, 0, 0) := by decide +kernel
theorem f_186_79 : ftc (PT 186) 79 = some (79, .invokevirtual 315, 3, 34, 7300, 1254) := by decide +kernel
theorem f_186_82 : ftc (PT 186) 82 = some (82, .return_, 1, 0, 0, 0) := by decide +kernel
theorem f_187_12 : ftc (PT 187) 12 = some (12, .aload_n 0, 1, 0, 0, 0) := by decide +kernel
theorem f_187_13 : ftc (PT 187) 13 = some (13, .iload_n 1, 1, 0, 0, 0) := by decide +kernel
theorem f_187_14 : ftc (PT 187) 14 = some (14, .iload_n 2, 1, 0, 0, 0) := by decide +kernel
theorem f_187_15 : ftc (PT 187) 15 = some (15, .iload_n 3, 1, 0, 0, 0) := by decide +kernel
theorem f_187_16 : ftc (PT 187) 16 = some (16, .iload 4, 2, 0, 0, 0) := by decide +kernel
theorem f_187_18 : ftc (PT 187) 18 = some (18, .iload 5, 2, 0, 0, 0) := by decide +kernel
theorem f_187_20 : ftc (PT 187) 20 = some (20, .iload 6, 2, 0, 0, 0) := by decide +kernel
theorem f_187_22 : ftc (PT 187) 22 = some (22, .invokevirtual 349, 3, 186, 7371, 1505) := by decide +kernel
theorem f_187_25 : ftc (PT 187) 25 = some (25, .aload_n 0, 1, 0, 0, 0) := by decide +kernel
theorem f_187_26 : ftc (PT 187) 26 = some (26, .iload 7, 2, 0, 0, 0) := by decide +kernel
theorem f_187_28 : ftc (PT 187) 28 = some (28, .iload 8, 2, 0, 0, 0) := by decide +kernel
theorem f_187_30 : ftc (PT 187) 30 = some (30, .iload 9, 2, 0, 0, 0) := by decide +kernel
theorem f_187_32 : ftc (PT 187) 32 = some (32, .invokevirtual 320, 3, 154, 4203, 1267) := by decide +kernel
theorem f_187_35 : ftc (PT 187) 35 = some (35, .lreturn, 1, 0, 0, 0) := by decide +kernel
theorem f_188_51 : ftc (PT 188) 51 = some (51, .aload_n 0, 1, 0, 0, 0) := by decide +kernel
theorem f_188_52 : ftc (PT 188) 52 = some (52, .iload_n 2, 1, 0, 0, 0) := by decide +kernel
theorem f_188_53 : ftc (PT 188) 53 = some (53, .iload_n 3, 1, 0, 0, 0) := by decide +kernel
theorem f_188_54 : ftc (PT 188) 54 = some (54, .iload 4, 2, 0, 0, 0) := by decide +kernel
theorem f_188_56 : ftc (PT 188) 56 = some (56, .iload 5, 2, 0, 0, 0) := by decide +kernel
theorem f_188_58 : ftc (PT 188) 58 = some (58, .invokevirtual 395, 3, 189, 9355, 1524) := by decide +kernel
theorem f_188_61 : ftc (PT 188) 61 = some (61, .ireturn, 1, 0, 0, 0) := by decide +kernel
theorem f_189_0 : ftc (PT 189) 0 = some (0, .iconst 0, 1, 0, 0, 0) := by decide +kernel
theorem f_189_1 : ftc (PT 189) 1 = some (1, .istore 5, 2, 0, 0, 0) := by decide +kernel
theorem f_189_3 : ftc (PT 189) 3 = some (3, .aload_n 0, 1, 0, 0, 0) := by decide +kernel
theorem f_189_4 : ftc (PT 189) 4 = some (4, .aload_n 0, 1, 0, 0, 0) := by decide +kernel
theorem f_189_5 : ftc (PT 189) 5 = some (5, .getfield 46, 3, 11, 7, 475) := by decide +kernel
theorem f_189_8 : ftc (PT 189) 8 = some (8, .invokevirtual 552, 3, 157, 2091, 1295) := by decide +kernel
theorem f_189_11 : ftc (PT 189) 11 = some (11, .iconst 0, 1, 0, 0, 0) := by decide +kernel
theorem f_189_12 : ftc (PT 189) 12 = some (12, .istore 6, 2, 0, 0, 0) := by decide +kernel
theorem f_189_14 : ftc (PT 189) 14 = some (14, .iload 6, 2, 0, 0, 0) := by decide +kernel
theorem f_189_16 : ftc (PT 189) 16 = some (16, .sipush 184, 3, 0, 0, 0) := by decide +kernel
theorem f_189_19 : ftc (PT 189) 19 = some (19, .if_icmp .ge 100, 3, 119, 0, 0) := by decide +kernel
theorem f_189_22 : ftc (PT 189) 22 = some (22, .aload_n 0, 1, 0, 0, 0) := by decide +kernel
theorem f_189_23 : ftc (PT 189) 23 = some (23, .getfield 49, 3, 11, 8, 476) := by decide +kernel
theorem f_189_26 : ftc (PT 189) 26 = some (26, .aload_n 0, 1, 0, 0, 0) := by decide +kernel
theorem f_189_27 : ftc (PT 189) 27 = some (27, .getfield 46, 3, 11, 7, 475) := by decide +kernel
theorem f_189_30 : ftc (PT 189) 30 = some (30, .invokevirtual 569, 3, 84, 2090, 1299) := by decide +kernel
theorem f_189_33 : ftc (PT 189) 33 = some (33, .aload_n 0, 1, 0, 0, 0) := by decide +kernel
theorem f_189_34 : ftc (PT 189) 34 = some (34, .getfield 49, 3, 11, 8, 476) := by decide +kernel
theorem f_189_37 : ftc (PT 189) 37 = some (37, .aload_n 0, 1, 0, 0, 0) := by decide +kernel
theorem f_189_38 : ftc (PT 189) 38 = some (38, .getfield 10, 3, 11, 0, 468) := by decide +kernel
theorem f_189_41 : ftc (PT 189) 41 = some (41, .iload 6, 2, 0, 0, 0) := by decide +kernel
theorem f_189_43 : ftc (PT 189) 43 = some (43, .invokevirtual 331, 3, 69, 2089, 1303) := by decide +kernel
theorem f_189_46 : ftc (PT 189) 46 = some (46, .i2l, 1, 0, 0, 0) := by decide +kernel
theorem f_189_47 : ftc (PT 189) 47 = some (47, .aload_n 0, 1, 0, 0, 0) := by decide +kernel
theorem f_189_48 : ftc (PT 189) 48 = some (48, .getfield 10, 3, 11, 0, 468) := by decide +kernel
theorem f_189_51 : ftc (PT 189) 51 = some (51, .iload 6, 2, 0, 0, 0) := by decide +kernel
theorem f_189_53 : ftc (PT 189) 53 = some (53, .invokevirtual 328, 3, 70, 2089, 1307) := by decide +kernel
theorem f_189_56 : ftc (PT 189) 56 = some (56, .i2l, 1, 0, 0, 0) := by decide +kernel
theorem f_189_57 : ftc (PT 189) 57 = some (57, .invokevirtual 560, 3, 76, 11338, 1311) := by decide +kernel
theorem f_189_60 : ftc (PT 189) 60 = some (60, .aload_n 0, 1, 0, 0, 0) := by decide +kernel
theorem f_189_61 : ftc (PT 189) 61 = some (61, .getfield 49, 3, 11, 8, 476) := by decide +kernel
theorem f_189_64 : ftc (PT 189) 64 = some (64, .iload_n 1, 1, 0, 0, 0) := by decide +kernel
theorem f_189_65 : ftc (PT 189) 65 = some (65, .invokevirtual 563, 3, 85, 2090, 1316) := by decide +kernel
theorem f_189_68 : ftc (PT 189) 68 = some (68, .lstore 7, 2, 0, 0, 0) := by decide +kernel
theorem f_189_70 : ftc (PT 189) 70 = some (70, .aload_n 0, 1, 0, 0, 0) := by decide +kernel
theorem f_189_71 : ftc (PT 189) 71 = some (71, .getfield 10, 3, 11, 0, 468) := by decide +kernel
theorem f_189_74 : ftc (PT 189) 74 = some (74, .iload 6, 2, 0, 0, 0) := by decide +kernel
theorem f_189_76 : ftc (PT 189) 76 = some (76, .iload_n 2, 1, 0, 0, 0) := by decide +kernel
theorem f_189_77 : ftc (PT 189) 77 = some (77, .invokevirtual 581, 3, 71, 3145, 1416) := by decide +kernel
theorem f_189_80 : ftc (PT 189) 80 = some (80, .ifCond .eq 33, 3, 113, 0, 0) := by decide +kernel
theorem f_189_83 : ftc (PT 189) 83 = some (83, .lload 7, 2, 0, 0, 0) := by decide +kernel
theorem f_189_85 : ftc (PT 189) 85 = some (85, .lconst 0, 1, 0, 0, 0) := by decide +kernel
theorem f_189_86 : ftc (PT 189) 86 = some (86, .lcmp, 1, 0, 0, 0) := by decide +kernel
theorem f_189_87 : ftc (PT 189) 87 = some (87, .ifCond .le 26, 3, 113, 0, 0) := by decide +kernel
theorem f_189_90 : ftc (PT 189) 90 = some (90, .aload_n 0, 1, 0, 0, 0) := by decide +kernel
theorem f_189_91 : ftc (PT 189) 91 = some (91, .getfield 49, 3, 11, 8, 476) := by decide +kernel
theorem f_189_94 : ftc (PT 189) 94 = some (94, .invokevirtual 208, 3, 82, 1034, 966) := by decide +kernel
theorem f_189_97 : ftc (PT 189) 97 = some (97, .lload 7, 2, 0, 0, 0) := by decide +kernel
theorem f_189_99 : ftc (PT 189) 99 = some (99, .iload_n 3, 1, 0, 0, 0) := by decide +kernel
theorem f_189_100 : ftc (PT 189) 100 = some (100, .i2l, 1, 0, 0, 0) := by decide +kernel
theorem f_189_101 : ftc (PT 189) 101 = some (101, .iload 4, 2, 0, 0, 0) := by decide +kernel
theorem f_189_103 : ftc (PT 189) 103 = some (103, .i2l, 1, 0, 0, 0) := by decide +kernel
theorem f_189_104 : ftc (PT 189) 104 = some (104, .invokestatic 566, 3, 23, 18436, 1325) := by decide +kernel
theorem f_189_107 : ftc (PT 189) 107 = some (107, .ifCond .lt 6, 3, 113, 0, 0) := by decide +kernel
theorem f_189_110 : ftc (PT 189) 110 = some (110, .iinc 5 1, 3, 0, 0, 0) := by decide +kernel
theorem f_189_113 : ftc (PT 189) 113 = some (113, .iinc 6 1, 3, 0, 0, 0) := by decide +kernel
theorem f_189_116 : ftc (PT 189) 116 = some (116, .goto (-102), 3, 14, 0, 0) := by decide +kernel
theorem f_189_119 : ftc (PT 189) 119 = some (119, .iload 5, 2, 0, 0, 0) := by decide +kernel
theorem f_189_121 : ftc (PT 189) 121 = some (121, .ireturn, 1, 0, 0, 0) := by decide +kernel
theorem f_190_25 : ftc (PT 190) 25 = some (25, .aload_n 0, 1, 0, 0, 0) := by decide +kernel
theorem f_190_26 : ftc (PT 190) 26 = some (26, .iload_n 2, 1, 0, 0, 0) := by decide +kernel
theorem f_190_27 : ftc (PT 190) 27 = some (27, .iload_n 3, 1, 0, 0, 0) := by decide +kernel
theorem f_190_28 : ftc (PT 190) 28 = some (28, .iload 4, 2, 0, 0, 0) := by decide +kernel
theorem f_190_30 : ftc (PT 190) 30 = some (30, .invokevirtual 399, 3, 191, 7275, 1535) := by decide +kernel
theorem f_190_33 : ftc (PT 190) 33 = some (33, .iload 5, 2, 0, 0, 0) := by decide +kernel
theorem f_190_35 : ftc (PT 190) 35 = some (35, .iconst 2, 1, 0, 0, 0) := by decide +kernel
theorem f_190_36 : ftc (PT 190) 36 = some (36, .if_icmp .lt 43, 3, 79, 0, 0) := by decide +kernel
theorem f_190_39 : ftc (PT 190) 39 = some (39, .iload 5, 2, 0, 0, 0) := by decide +kernel
theorem f_190_41 : ftc (PT 190) 41 = some (41, .iconst 2, 1, 0, 0, 0) := by decide +kernel
theorem f_190_42 : ftc (PT 190) 42 = some (42, .if_icmp .ne 21, 3, 63, 0, 0) := by decide +kernel
theorem f_190_45 : ftc (PT 190) 45 = some (45, .aload_n 0, 1, 0, 0, 0) := by decide +kernel
theorem f_190_46 : ftc (PT 190) 46 = some (46, .getfield 10, 3, 11, 0, 468) := by decide +kernel
theorem f_190_49 : ftc (PT 190) 49 = some (49, .aload_n 0, 1, 0, 0, 0) := by decide +kernel
theorem f_190_50 : ftc (PT 190) 50 = some (50, .getfield 83, 3, 11, 13, 481) := by decide +kernel
theorem f_190_53 : ftc (PT 190) 53 = some (53, .getfield 403, 3, 0, 4, 394) := by decide +kernel
theorem f_190_56 : ftc (PT 190) 56 = some (56, .invokevirtual 331, 3, 69, 2089, 1303) := by decide +kernel
theorem f_190_59 : ftc (PT 190) 59 = some (59, .i2l, 1, 0, 0, 0) := by decide +kernel
theorem f_190_60 : ftc (PT 190) 60 = some (60, .goto 18, 3, 78, 0, 0) := by decide +kernel
theorem f_190_63 : ftc (PT 190) 63 = some (63, .aload_n 0, 1, 0, 0, 0) := by decide +kernel
theorem f_190_64 : ftc (PT 190) 64 = some (64, .getfield 10, 3, 11, 0, 468) := by decide +kernel
theorem f_190_67 : ftc (PT 190) 67 = some (67, .aload_n 0, 1, 0, 0, 0) := by decide +kernel
theorem f_190_68 : ftc (PT 190) 68 = some (68, .getfield 83, 3, 11, 13, 481) := by decide +kernel
theorem f_190_71 : ftc (PT 190) 71 = some (71, .getfield 403, 3, 0, 4, 394) := by decide +kernel
theorem f_190_74 : ftc (PT 190) 74 = some (74, .invokevirtual 328, 3, 70, 2089, 1307) := by decide +kernel
theorem f_190_77 : ftc (PT 190) 77 = some (77, .i2l, 1, 0, 0, 0) := by decide +kernel
theorem f_190_78 : ftc (PT 190) 78 = some (78, .lreturn, 1, 0, 0, 0) := by decide +kernel
theorem f_190_79 : ftc (PT 190) 79 = some (79, .aload_n 0, 1, 0, 0, 0) := by decide +kernel
theorem f_190_80 : ftc (PT 190) 80 = some (80, .getfield 62, 3, 11, 10, 478) := by decide +kernel
theorem f_190_83 : ftc (PT 190) 83 = some (83, .aload_n 0, 1, 0, 0, 0) := by decide +kernel
theorem f_190_84 : ftc (PT 190) 84 = some (84, .getfield 83, 3, 11, 13, 481) := by decide +kernel
theorem f_190_87 : ftc (PT 190) 87 = some (87, .getfield 406, 3, 0, 1, 388) := by decide +kernel
theorem f_190_90 : ftc (PT 190) 90 = some (90, .aload_n 0, 1, 0, 0, 0) := by decide +kernel
theorem f_190_91 : ftc (PT 190) 91 = some (91, .getfield 83, 3, 11, 13, 481) := by decide +kernel
theorem f_190_94 : ftc (PT 190) 94 = some (94, .getfield 407, 3, 0, 2, 390) := by decide +kernel
theorem f_190_97 : ftc (PT 190) 97 = some (97, .invokevirtual 214, 3, 25, 9283, 652) := by decide +kernel
set_option maxRecDepth 10000 in
set_option maxHeartbeats 4000000 in
theorem s_171_20 {Lx : Nat} {I : Mi} {L : Ml} {e : Nat} {Q : Kq} {x1 : Int32} {x2 : Int32} {x3 : Int32} (h :
    Wp 171 23 [(0, .ref 1), (1, .int x1), (2, .int x2), (3, .int x3), (4, .int (Int32.ofInt 0))] [] (gE Lx) I L e Q) :
    Wp 171 20 [(0, .ref 1), (1, .int x1), (2, .int x2), (3, .int x3)] [] (gE Lx) I L e Q := by
  refine w_a f_171_20 ?_
  refine w_a f_171_21 ?_
  exact w_n (ks := [0, 1, 2, 3, 4]) rfl h
set_option maxRecDepth 10000 in
set_option maxHeartbeats 4000000 in
theorem s_171_23 {Lx : Nat} {I : Mi} {L : Ml} {e : Nat} {Q : Kq} {x1 : Int32} {x2 : Int32} {x3 : Int32} {x4 : Int32} (h :
    (if x4 < (Int32.ofInt 184) then
     Wp 71 0 [(0, .ref 2), (1, .int x4), (2, .int x1)] [] (gE Lx) I L e (kcp (Wp 171) 171 38 0 [(0, .ref 1), (1, .int x1), (2, .int x2), (3, .int x3), (4, .int x4)] 71 [] Q)
    else
     Q (.inl (some (.int x3))) (gE Lx) I L e)) :
    Wp 171 23 [(0, .ref 1), (1, .int x1), (2, .int x2), (3, .int x3), (4, .int x4)] [] (gE Lx) I L e Q := by
  refine w_a f_171_23 ?_
  refine w_a f_171_25 ?_
  refine w_a f_171_28 ?_
  refine i_m (fun h => ?_) (fun h => ?_) h
  · refine w_a f_171_31 ?_
    refine w_a f_171_32 ?_
    refine w_a f_171_35 ?_
    refine w_a f_171_37 ?_
    exact w_c (ks := [0, 1, 2, 3, 4]) f_171_38 rfl rfl h
  · refine w_a f_171_112 ?_
    refine w_a f_171_113 ?_
    exact h
set_option maxRecDepth 10000 in
set_option maxHeartbeats 4000000 in
theorem s_171_41 {Lx : Nat} {I : Mi} {L : Ml} {e : Nat} {Q : Kq} {x1 : Int32} {x2 : Int32} {x3 : Int32} {x4 : Int32} {r : Int32} (h :
    (if r = 0 then
     Wp 171 23 [(0, .ref 1), (1, .int x1), (2, .int x2), (3, .int x3), (4, .int (x4 + Int32.ofInt 1))] [] (gE Lx) I L e Q
    else
     Wp 69 0 [(0, .ref 2), (1, .int x4)] [] (gE Lx) I (ul (ul (ul (ul L 16 0 (L 15 0)) 16 1 (L 15 1)) 16 2 (L 15 2)) 16 3 (L 15 3)) e (kcp (Wp 171) 171 65 0 [(0, .ref 1), (1, .int x1), (2, .int x2), (3, .int x3), (4, .int x4)] 71 [.ref 16] Q))) :
    Wp 171 41 [(0, .ref 1), (1, .int x1), (2, .int x2), (3, .int x3), (4, .int x4)] [.int r] (gE Lx) I L e Q := by
  refine w_a f_171_41 ?_
  refine i_m (fun h => ?_) (fun h => ?_) h
  · refine w_a f_171_106 ?_
    refine w_a (ls := [(4, .int (x4 + Int32.ofInt 1)), (0, .ref 1), (1, .int x1), (2, .int x2), (3, .int x3)]) f_171_109 ?_
    exact w_n (ks := [0, 1, 2, 3, 4]) rfl h
  · refine w_a f_171_44 ?_
    refine w_a f_171_45 ?_
    refine w_a f_171_48 ?_
    refine w_a f_171_49 ?_
    refine w_a f_171_52 ?_
    refine w_a (ls := [(0, .ref 16), (1, .ref 15)]) f_84_0 ?_
    refine w_a f_84_1 ?_
    refine w_a f_84_2 ?_
    refine w_a f_84_5 ?_
    refine w_a f_84_8 ?_
    refine w_a f_84_9 ?_
    refine w_a f_84_10 ?_
    refine w_a f_84_13 ?_
    refine w_a f_84_16 ?_
    refine w_a f_84_17 ?_
    refine w_a f_84_18 ?_
    refine w_a f_84_21 ?_
    refine w_a f_84_24 ?_
    refine w_a f_84_25 ?_
    refine w_a f_84_26 ?_
    refine w_a f_84_29 ?_
    refine w_a f_84_32 ?_
    refine w_a (ls := [(0, .ref 1), (1, .int x1), (2, .int x2), (3, .int x3), (4, .int x4)]) f_171_55 ?_
    refine w_a f_171_56 ?_
    refine w_a f_171_59 ?_
    refine w_a f_171_60 ?_
    refine w_a f_171_63 ?_
    exact w_c (ks := [0, 1, 2, 3, 4]) f_171_65 rfl rfl h
set_option maxRecDepth 10000 in
set_option maxHeartbeats 4000000 in
theorem s_171_68 {Lx : Nat} {I : Mi} {L : Ml} {e : Nat} {Q : Kq} {x1 : Int32} {x2 : Int32} {x3 : Int32} {x4 : Int32} {r : Int32} (h :
    Wp 70 0 [(0, .ref 2), (1, .int x4)] [] (gE Lx) I L e (kcp (Wp 171) 171 75 0 [(0, .ref 1), (1, .int x1), (2, .int x2), (3, .int x3), (4, .int x4)] 71 [.long r.toInt64, .ref 16] Q)) :
    Wp 171 68 [(0, .ref 1), (1, .int x1), (2, .int x2), (3, .int x3), (4, .int x4)] [.int r, .ref 16] (gE Lx) I L e Q := by
  refine w_a f_171_68 ?_
  refine w_a f_171_69 ?_
  refine w_a f_171_70 ?_
  refine w_a f_171_73 ?_
  exact w_c (ks := [0, 1, 2, 3, 4]) f_171_75 rfl rfl h
set_option maxRecDepth 10000 in
set_option maxHeartbeats 4000000 in
theorem s_171_78 {Lx : Nat} {I : Mi} {L : Ml} {e : Nat} {Q : Kq} {x1 : Int32} {x2 : Int32} {x3 : Int32} {x4 : Int32} {rl1 : Int64} {r : Int32} (h :
    Wp 76 0 [(0, .ref 16), (1, .long rl1), (3, .long r.toInt64)] [] (gE Lx) I L e (kcp (Wp 171) 171 79 0 [(0, .ref 1), (1, .int x1), (2, .int x2), (3, .int x3), (4, .int x4)] 71 [] Q)) :
    Wp 171 78 [(0, .ref 1), (1, .int x1), (2, .int x2), (3, .int x3), (4, .int x4)] [.int r, .long rl1, .ref 16] (gE Lx) I L e Q := by
  refine w_a f_171_78 ?_
  exact w_c (ks := [0, 1, 2, 3, 4]) f_171_79 rfl rfl h
set_option maxRecDepth 10000 in
set_option maxHeartbeats 4000000 in
theorem s_171_82 {Lx : Nat} {I : Mi} {L : Ml} {e : Nat} {Q : Kq} {x1 : Int32} {x2 : Int32} {x3 : Int32} {x4 : Int32} (h :
    (if (Int64.ofInt 0) < (((L 16 0) * (L 16 0)) + ((L 16 1) * (L 16 1))) then
     (if (((L 16 0) * (L 16 2)) + ((L 16 1) * (L 16 3))) = (((L 16 0) * (L 16 0)) + ((L 16 1) * (L 16 1))) then
      Wp 25 0 [(0, .ref 18), (1, .long (((L 16 1) * (L 16 2)) - ((L 16 0) * (L 16 3)))), (3, .long (((L 16 0) * (L 16 0)) + ((L 16 1) * (L 16 1))))] [] (gE Lx) I L e (kcp (Wp 172) 172 31 0 [(0, .ref 1), (1, .ref 16), (2, .int x1)] 71 [] (kcp (Wp 171) 171 88 0 [(0, .ref 1), (1, .int x1), (2, .int x2), (3, .int x3), (4, .int x4)] 71 [] Q))
     else
      Wp 171 91 [(0, .ref 1), (1, .int x1), (2, .int x2), (3, .int x3), (4, .int x4)] [.int (Int32.ofInt 0)] (gE Lx) I L e Q)
    else
     Wp 171 91 [(0, .ref 1), (1, .int x1), (2, .int x2), (3, .int x3), (4, .int x4)] [.int (Int32.ofInt 0)] (gE Lx) I L e Q)) :
    Wp 171 82 [(0, .ref 1), (1, .int x1), (2, .int x2), (3, .int x3), (4, .int x4)] [] (gE Lx) I L e Q := by
  refine w_a f_171_82 ?_
  refine w_a f_171_83 ?_
  refine w_a f_171_84 ?_
  refine w_a f_171_87 ?_
  refine w_c (ks := [0, 1, 2, 3, 4]) f_171_88 rfl rfl ?_
  refine w_a (ls := [(0, .ref 1), (1, .ref 16), (2, .int x1)]) f_172_0 ?_
  refine w_a f_172_1 ?_
  refine w_a (ls := [(0, .ref 16)]) f_86_0 ?_
  refine w_a f_86_1 ?_
  refine w_a f_86_4 ?_
  refine w_a f_86_5 ?_
  refine w_a f_86_8 ?_
  refine w_a f_86_9 ?_
  refine w_a f_86_10 ?_
  refine w_a f_86_13 ?_
  refine w_a f_86_14 ?_
  refine w_a f_86_17 ?_
  refine w_a f_86_18 ?_
  refine w_a f_86_19 ?_
  refine w_a (ls := [(0, .ref 1), (1, .ref 16), (2, .int x1)]) f_172_4 ?_
  refine w_a (ls := [(3, .long (((L 16 0) * (L 16 0)) + ((L 16 1) * (L 16 1)))), (0, .ref 1), (1, .ref 16), (2, .int x1)]) f_172_5 ?_
  refine w_a f_172_6 ?_
  refine w_a f_172_7 ?_
  refine i_m (fun h => ?_) (fun h => ?_) h
  · refine w_a f_172_11 ?_
    refine w_a f_172_12 ?_
    refine w_a (ls := [(0, .ref 16)]) f_82_0 ?_
    refine w_a f_82_1 ?_
    refine w_a f_82_4 ?_
    refine w_a f_82_5 ?_
    refine w_a f_82_8 ?_
    refine w_a f_82_9 ?_
    refine w_a f_82_10 ?_
    refine w_a f_82_13 ?_
    refine w_a f_82_14 ?_
    refine w_a f_82_17 ?_
    refine w_a f_82_18 ?_
    refine w_a f_82_19 ?_
    refine w_a (ls := [(3, .long (((L 16 0) * (L 16 0)) + ((L 16 1) * (L 16 1)))), (0, .ref 1), (1, .ref 16), (2, .int x1)]) f_172_15 ?_
    refine w_a f_172_16 ?_
    refine i_m (fun h => ?_) (fun h => ?_) h
    · refine w_a f_172_22 ?_
      refine w_a f_172_23 ?_
      refine w_a f_172_26 ?_
      refine w_a f_172_27 ?_
      refine w_a (ls := [(0, .ref 16)]) f_81_0 ?_
      refine w_a f_81_1 ?_
      refine w_a f_81_4 ?_
      refine w_a f_81_5 ?_
      refine w_a f_81_8 ?_
      refine w_a f_81_9 ?_
      refine w_a f_81_10 ?_
      refine w_a f_81_13 ?_
      refine w_a f_81_14 ?_
      refine w_a f_81_17 ?_
      refine w_a f_81_18 ?_
      refine w_a f_81_19 ?_
      refine w_a (ls := [(3, .long (((L 16 0) * (L 16 0)) + ((L 16 1) * (L 16 1)))), (0, .ref 1), (1, .ref 16), (2, .int x1)]) f_172_30 ?_
      exact w_c (ks := [0, 1, 2]) f_172_31 rfl rfl h
    · refine w_a f_172_20 ?_
      refine w_a f_172_21 ?_
      exact h
  · refine w_a f_172_20 ?_
    refine w_a f_172_21 ?_
    exact h
set_option maxRecDepth 10000 in
set_option maxHeartbeats 4000000 in
theorem s_171_91 {Lx : Nat} {I : Mi} {L : Ml} {e : Nat} {Q : Kq} {x1 : Int32} {x2 : Int32} {x3 : Int32} {x4 : Int32} {r : Int32} (h :
    (if r = 0 then
     Wp 171 23 [(0, .ref 1), (1, .int x1), (2, .int x2), (3, .int x3), (4, .int (x4 + Int32.ofInt 1))] [] (gE Lx) I L e Q
    else
     (if (x2 - x3) = 0 then
      (if (x2 - x3) = 0 then
       (if (L 18 0) < (Int64.ofInt 0) then
        Wp 25 0 [(0, .ref 18), (1, .long (-(L 18 1))), (3, .long (L 18 0))] [] (gE Lx) (ui (ui I 21 4 x4) 21 6 (Int32.ofInt 0)) L e (kcp (Wp 173) 173 88 0 [(0, .ref 1)] 71 [] (kcp (Wp 171) 171 100 0 [(0, .ref 1), (1, .int x1), (2, .int x2), (3, .int x3), (4, .int x4)] 71 [] Q))
       else
        Wp 173 91 [(0, .ref 1)] [] (gE Lx) (ui (ui I 21 4 x4) 21 6 (Int32.ofInt 1)) L e (kcp (Wp 171) 171 100 0 [(0, .ref 1), (1, .int x1), (2, .int x2), (3, .int x3), (4, .int x4)] 71 [] Q))
      else
       (if (L 18 0) < (Int64.ofInt 0) then
        Wp 173 91 [(0, .ref 1)] [] (gE Lx) (ui (ui I 21 4 x4) 21 6 (Int32.ofInt 1)) L e (kcp (Wp 171) 171 100 0 [(0, .ref 1), (1, .int x1), (2, .int x2), (3, .int x3), (4, .int x4)] 71 [] Q)
       else
        Wp 25 0 [(0, .ref 18), (1, .long (-(L 18 1))), (3, .long (L 18 0))] [] (gE Lx) (ui (ui I 21 4 x4) 21 6 (Int32.ofInt 0)) L e (kcp (Wp 173) 173 88 0 [(0, .ref 1)] 71 [] (kcp (Wp 171) 171 100 0 [(0, .ref 1), (1, .int x1), (2, .int x2), (3, .int x3), (4, .int x4)] 71 [] Q))))
     else
      (if (x2 - x3) = (Int32.ofInt 1) then
       (if (x2 - x3) = 0 then
        (if (L 18 0) < (Int64.ofInt 0) then
         Wp 25 0 [(0, .ref 18), (1, .long (-(L 18 1))), (3, .long (L 18 0))] [] (gE Lx) (ui (ui I 21 4 x4) 21 6 (Int32.ofInt 0)) L e (kcp (Wp 173) 173 88 0 [(0, .ref 1)] 71 [] (kcp (Wp 171) 171 100 0 [(0, .ref 1), (1, .int x1), (2, .int x2), (3, .int x3), (4, .int x4)] 71 [] Q))
        else
         Wp 173 91 [(0, .ref 1)] [] (gE Lx) (ui (ui I 21 4 x4) 21 6 (Int32.ofInt 1)) L e (kcp (Wp 171) 171 100 0 [(0, .ref 1), (1, .int x1), (2, .int x2), (3, .int x3), (4, .int x4)] 71 [] Q))
       else
        (if (L 18 0) < (Int64.ofInt 0) then
         Wp 173 91 [(0, .ref 1)] [] (gE Lx) (ui (ui I 21 4 x4) 21 6 (Int32.ofInt 1)) L e (kcp (Wp 171) 171 100 0 [(0, .ref 1), (1, .int x1), (2, .int x2), (3, .int x3), (4, .int x4)] 71 [] Q)
        else
         Wp 25 0 [(0, .ref 18), (1, .long (-(L 18 1))), (3, .long (L 18 0))] [] (gE Lx) (ui (ui I 21 4 x4) 21 6 (Int32.ofInt 0)) L e (kcp (Wp 173) 173 88 0 [(0, .ref 1)] 71 [] (kcp (Wp 171) 171 100 0 [(0, .ref 1), (1, .int x1), (2, .int x2), (3, .int x3), (4, .int x4)] 71 [] Q))))
      else
       Wp 171 103 [(0, .ref 1), (1, .int x1), (2, .int x2), (3, .int x3), (4, .int x4)] [] (gE Lx) I L e Q)))) :
    Wp 171 91 [(0, .ref 1), (1, .int x1), (2, .int x2), (3, .int x3), (4, .int x4)] [.int r] (gE Lx) I L e Q := by
  refine w_a f_171_91 ?_
  refine i_m (fun h => ?_) (fun h => ?_) h
  · refine w_a f_171_106 ?_
    refine w_a (ls := [(4, .int (x4 + Int32.ofInt 1)), (0, .ref 1), (1, .int x1), (2, .int x2), (3, .int x3)]) f_171_109 ?_
    exact w_n (ks := [0, 1, 2, 3, 4]) rfl h
  · refine w_a f_171_94 ?_
    refine w_a f_171_95 ?_
    refine w_a f_171_97 ?_
    refine w_a f_171_98 ?_
    refine w_a f_171_99 ?_
    refine w_c (ks := [0, 1, 2, 3, 4]) f_171_100 rfl rfl ?_
    refine w_a (ls := [(0, .ref 1), (1, .int x4), (2, .int (x2 - x3))]) f_173_0 ?_
    refine w_a f_173_1 ?_
    refine i_m (fun h => ?_) (fun h => ?_) h
    · refine w_a f_173_10 ?_
      refine w_a f_173_11 ?_
      refine w_a f_173_14 ?_
      refine w_a f_173_15 ?_
      refine w_a f_173_18 ?_
      refine w_a f_173_19 ?_
      refine w_a f_173_22 ?_
      refine w_a f_173_23 ?_
      refine i_m (fun h => ?_) (fun h => ?_) h
      · refine w_a f_173_26 ?_
        refine w_a f_173_27 ?_
        refine w_a f_173_31 ?_
        refine w_a f_173_32 ?_
        refine w_a f_173_35 ?_
        refine w_a f_173_38 ?_
        refine w_a f_173_39 ?_
        refine i_m (fun h => ?_) (fun h => ?_) h
        · refine w_a f_173_47 ?_
          refine w_a f_173_48 ?_
          refine w_a f_173_55 ?_
          refine w_a f_173_56 ?_
          refine w_a f_173_59 ?_
          refine w_a f_173_60 ?_
          refine w_a f_173_63 ?_
          refine w_a f_173_66 ?_
          refine w_a f_173_69 ?_
          refine w_a f_173_70 ?_
          refine w_a f_173_73 ?_
          refine w_a f_173_74 ?_
          refine w_a f_173_77 ?_
          refine w_a f_173_80 ?_
          refine w_a f_173_81 ?_
          refine w_a f_173_82 ?_
          refine w_a f_173_85 ?_
          exact w_c (ks := [0]) f_173_88 rfl rfl h
        · refine w_a f_173_43 ?_
          refine w_a f_173_44 ?_
          refine w_a f_173_48 ?_
          refine w_a f_173_51 ?_
          refine w_a f_173_52 ?_
          refine w_a f_173_56 ?_
          refine w_a f_173_59 ?_
          refine w_a f_173_60 ?_
          refine w_a f_173_63 ?_
          refine w_a f_173_66 ?_
          exact w_n (ks := [0]) rfl h
      · refine w_a f_173_30 ?_
        refine w_a f_173_31 ?_
        refine w_a f_173_32 ?_
        refine w_a f_173_35 ?_
        refine w_a f_173_38 ?_
        refine w_a f_173_39 ?_
        refine i_m (fun h => ?_) (fun h => ?_) h
        · refine w_a f_173_47 ?_
          refine w_a f_173_48 ?_
          refine w_a f_173_51 ?_
          refine w_a f_173_52 ?_
          refine w_a f_173_56 ?_
          refine w_a f_173_59 ?_
          refine w_a f_173_60 ?_
          refine w_a f_173_63 ?_
          refine w_a f_173_66 ?_
          exact w_n (ks := [0]) rfl h
        · refine w_a f_173_43 ?_
          refine w_a f_173_44 ?_
          refine w_a f_173_48 ?_
          refine w_a f_173_55 ?_
          refine w_a f_173_56 ?_
          refine w_a f_173_59 ?_
          refine w_a f_173_60 ?_
          refine w_a f_173_63 ?_
          refine w_a f_173_66 ?_
          refine w_a f_173_69 ?_
          refine w_a f_173_70 ?_
          refine w_a f_173_73 ?_
          refine w_a f_173_74 ?_
          refine w_a f_173_77 ?_
          refine w_a f_173_80 ?_
          refine w_a f_173_81 ?_
          refine w_a f_173_82 ?_
          refine w_a f_173_85 ?_
          exact w_c (ks := [0]) f_173_88 rfl rfl h
    · refine w_a f_173_4 ?_
      refine w_a f_173_5 ?_
      refine w_a f_173_6 ?_
      refine i_m (fun h => ?_) (fun h => ?_) h
      · refine w_a f_173_10 ?_
        refine w_a f_173_11 ?_
        refine w_a f_173_14 ?_
        refine w_a f_173_15 ?_
        refine w_a f_173_18 ?_
        refine w_a f_173_19 ?_
        refine w_a f_173_22 ?_
        refine w_a f_173_23 ?_
        refine i_m (fun h => ?_) (fun h => ?_) h
        · refine w_a f_173_26 ?_
          refine w_a f_173_27 ?_
          refine w_a f_173_31 ?_
          refine w_a f_173_32 ?_
          refine w_a f_173_35 ?_
          refine w_a f_173_38 ?_
          refine w_a f_173_39 ?_
          refine i_m (fun h => ?_) (fun h => ?_) h
          · refine w_a f_173_47 ?_
            refine w_a f_173_48 ?_
            refine w_a f_173_55 ?_
            refine w_a f_173_56 ?_
            refine w_a f_173_59 ?_
            refine w_a f_173_60 ?_
            refine w_a f_173_63 ?_
            refine w_a f_173_66 ?_
            refine w_a f_173_69 ?_
            refine w_a f_173_70 ?_
            refine w_a f_173_73 ?_
            refine w_a f_173_74 ?_
            refine w_a f_173_77 ?_
            refine w_a f_173_80 ?_
            refine w_a f_173_81 ?_
            refine w_a f_173_82 ?_
            refine w_a f_173_85 ?_
            exact w_c (ks := [0]) f_173_88 rfl rfl h
          · refine w_a f_173_43 ?_
            refine w_a f_173_44 ?_
            refine w_a f_173_48 ?_
            refine w_a f_173_51 ?_
            refine w_a f_173_52 ?_
            refine w_a f_173_56 ?_
            refine w_a f_173_59 ?_
            refine w_a f_173_60 ?_
            refine w_a f_173_63 ?_
            refine w_a f_173_66 ?_
            exact w_n (ks := [0]) rfl h
        · refine w_a f_173_30 ?_
          refine w_a f_173_31 ?_
          refine w_a f_173_32 ?_
          refine w_a f_173_35 ?_
          refine w_a f_173_38 ?_
          refine w_a f_173_39 ?_
          refine i_m (fun h => ?_) (fun h => ?_) h
          · refine w_a f_173_47 ?_
            refine w_a f_173_48 ?_
            refine w_a f_173_51 ?_
            refine w_a f_173_52 ?_
            refine w_a f_173_56 ?_
            refine w_a f_173_59 ?_
            refine w_a f_173_60 ?_
            refine w_a f_173_63 ?_
            refine w_a f_173_66 ?_
            exact w_n (ks := [0]) rfl h
          · refine w_a f_173_43 ?_
            refine w_a f_173_44 ?_
            refine w_a f_173_48 ?_
            refine w_a f_173_55 ?_
            refine w_a f_173_56 ?_
            refine w_a f_173_59 ?_
            refine w_a f_173_60 ?_
            refine w_a f_173_63 ?_
            refine w_a f_173_66 ?_
            refine w_a f_173_69 ?_
            refine w_a f_173_70 ?_
            refine w_a f_173_73 ?_
            refine w_a f_173_74 ?_
            refine w_a f_173_77 ?_
            refine w_a f_173_80 ?_
            refine w_a f_173_81 ?_
            refine w_a f_173_82 ?_
            refine w_a f_173_85 ?_
            exact w_c (ks := [0]) f_173_88 rfl rfl h
      · refine w_a f_173_9 ?_
        exact h
set_option maxRecDepth 10000 in
set_option maxHeartbeats 4000000 in
theorem s_171_103 {Lx : Nat} {I : Mi} {L : Ml} {e : Nat} {Q : Kq} {x1 : Int32} {x2 : Int32} {x3 : Int32} {x4 : Int32} (h :
    Wp 171 23 [(0, .ref 1), (1, .int x1), (2, .int x2), (3, .int (x3 + Int32.ofInt 2)), (4, .int (x4 + Int32.ofInt 1))] [] (gE Lx) I L e Q) :
    Wp 171 103 [(0, .ref 1), (1, .int x1), (2, .int x2), (3, .int x3), (4, .int x4)] [] (gE Lx) I L e Q := by
  refine w_a f_171_103 ?_
  refine w_a (ls := [(3, .int (x3 + Int32.ofInt 2)), (0, .ref 1), (1, .int x1), (2, .int x2), (4, .int x4)]) f_171_106 ?_
  refine w_a (ls := [(4, .int (x4 + Int32.ofInt 1)), (3, .int (x3 + Int32.ofInt 2)), (0, .ref 1), (1, .int x1), (2, .int x2)]) f_171_109 ?_
  exact w_n (ks := [0, 1, 2, 3, 4]) rfl h
set_option maxRecDepth 10000 in
set_option maxHeartbeats 4000000 in
theorem s_172_34 {Lx : Nat} {I : Mi} {L : Ml} {e : Nat} {Q : Kq} {x2 : Int32} (h :
    (if x2.toInt64 < (L 18 1) then
     Q (.inl (some (.int (Int32.ofInt 0)))) (gE Lx) I L e
    else
     (if x2.toInt64 < (L 18 0) then
      Q (.inl (some (.int (Int32.ofInt 0)))) (gE Lx) I L e
     else
      (if (L 18 0) < (-x2).toInt64 then
       Q (.inl (some (.int (Int32.ofInt 0)))) (gE Lx) I L e
      else
       Q (.inl (some (.int (Int32.ofInt 1)))) (gE Lx) I L e)))) :
    Wp 172 34 [(0, .ref 1), (1, .ref 16), (2, .int x2)] [] (gE Lx) I L e Q := by
  refine w_a f_172_34 ?_
  refine w_a f_172_35 ?_
  refine w_a f_172_38 ?_
  refine w_a f_172_41 ?_
  refine w_a f_172_42 ?_
  refine w_a f_172_43 ?_
  refine i_m (fun h => ?_) (fun h => ?_) h
  · refine w_a f_172_78 ?_
    refine w_a f_172_79 ?_
    exact h
  · refine w_a f_172_47 ?_
    refine w_a f_172_48 ?_
    refine w_a f_172_51 ?_
    refine w_a f_172_54 ?_
    refine w_a f_172_55 ?_
    refine w_a f_172_56 ?_
    refine i_m (fun h => ?_) (fun h => ?_) h
    · refine w_a f_172_78 ?_
      refine w_a f_172_79 ?_
      exact h
    · refine w_a f_172_60 ?_
      refine w_a f_172_61 ?_
      refine w_a f_172_64 ?_
      refine w_a f_172_67 ?_
      refine w_a f_172_68 ?_
      refine w_a f_172_69 ?_
      refine w_a f_172_70 ?_
      refine i_m (fun h => ?_) (fun h => ?_) h
      · refine w_a f_172_78 ?_
        refine w_a f_172_79 ?_
        exact h
      · refine w_a f_172_74 ?_
        refine w_a f_172_75 ?_
        refine w_a f_172_79 ?_
        exact h
set_option maxRecDepth 10000 in
set_option maxHeartbeats 4000000 in
theorem s_173_91 {Lx : Nat} {I : Mi} {L : Ml} {e : Nat} {Q : Kq} (h :
    Wp 72 0 [(0, .ref 2), (1, .long (L 18 0)), (3, .long (L 18 1))] [] (gE Lx) I L e (kcp (Wp 173) 173 113 0 [(0, .ref 1)] 71 [.ref 21] Q)) :
    Wp 173 91 [(0, .ref 1)] [] (gE Lx) I L e Q := by
  refine w_a f_173_91 ?_
  refine w_a f_173_92 ?_
  refine w_a f_173_95 ?_
  refine w_a f_173_96 ?_
  refine w_a f_173_99 ?_
  refine w_a f_173_100 ?_
  refine w_a f_173_103 ?_
  refine w_a f_173_106 ?_
  refine w_a f_173_107 ?_
  refine w_a f_173_110 ?_
  exact w_c (ks := [0]) f_173_113 rfl rfl h
set_option maxRecDepth 10000 in
set_option maxHeartbeats 4000000 in
theorem s_173_116 {Lx : Nat} {I : Mi} {L : Ml} {e : Nat} {Q : Kq} {r : Int32} (h :
    Q (.inl none) (gE Lx) (ui I 21 5 r) L e) :
    Wp 173 116 [(0, .ref 1)] [.int r, .ref 21] (gE Lx) I L e Q := by
  refine w_a f_173_116 ?_
  refine w_a f_173_119 ?_
  exact h
set_option maxRecDepth 10000 in
set_option maxHeartbeats 4000000 in
theorem s_174_46 {Lx : Nat} {I : Mi} {L : Ml} {e : Nat} {Q : Kq} {r : Int32} (h :
    Q (.inl (some (.int r))) (gE Lx) I L e) :
    Wp 174 46 [(0, .ref 1)] [.int r] (gE Lx) I L e Q := by
  refine w_a f_174_46 ?_
  exact h
set_option maxRecDepth 10000 in
set_option maxHeartbeats 4000000 in
theorem s_174_61 {Lx : Nat} {I : Mi} {L : Ml} {e : Nat} {Q : Kq} {r : Int32} (h :
    Q (.inl (some (.int r))) (gE Lx) I L e) :
    Wp 174 61 [(0, .ref 1)] [.int r] (gE Lx) I L e Q := by
  refine w_a f_174_61 ?_
  exact h
set_option maxRecDepth 10000 in
set_option maxHeartbeats 4000000 in
theorem s_174_92 {Lx : Nat} {I : Mi} {L : Ml} {e : Nat} {Q : Kq} {r : Int32} (h :
    Q (.inl (some (.int r))) (gE Lx) I L e) :
    Wp 174 92 [(0, .ref 1)] [.int r] (gE Lx) I L e Q := by
  refine w_a f_174_92 ?_
  exact h
set_option maxRecDepth 10000 in
set_option maxHeartbeats 4000000 in
theorem s_174_107 {Lx : Nat} {I : Mi} {L : Ml} {e : Nat} {Q : Kq} {r : Int32} (h :
    Q (.inl (some (.int r))) (gE Lx) I L e) :
    Wp 174 107 [(0, .ref 1)] [.int r] (gE Lx) I L e Q := by
  refine w_a f_174_107 ?_
  exact h
set_option maxRecDepth 10000 in
set_option maxHeartbeats 4000000 in
theorem s_175_36 {Lx : Nat} {I : Mi} {L : Ml} {e : Nat} {Q : Kq} {x2 : Int32} (h :
    (if x2 = Int32.ofInt 0 then
     Q (.inl (some (.int (I 21 3)))) (gE Lx) I L e
    else
    (if x2 = Int32.ofInt 1 then
     Wp 69 0 [(0, .ref 2), (1, .int (I 21 5))] [] (gE Lx) I L e (kcp (Wp 175) 175 83 0 [(0, .ref 1)] 71 [] Q)
    else
    (if x2 = Int32.ofInt 2 then
     Wp 70 0 [(0, .ref 2), (1, .int (I 21 5))] [] (gE Lx) I L e (kcp (Wp 175) 175 98 0 [(0, .ref 1)] 71 [] Q)
    else
     (if (L 21 2) = (Int64.ofInt 0) then
      Q (.inl (some (.int (Int32.ofInt 0)))) (gE Lx) I L e
     else
      (if (L 21 2) = 0 then False else
       Q (.inl (some (.int (((Int64.ofInt 10000) * (L 21 1)) / (L 21 2)).toInt32))) (gE Lx) I L e)))))) :
    Wp 175 36 [(0, .ref 1), (2, .int x2)] [] (gE Lx) I L e Q := by
  refine w_a f_175_36 ?_
  refine w_a f_175_37 ?_
  refine i_m (fun h => ?_) (fun h => ?_) h
  · refine w_a f_175_64 ?_
    refine w_a f_175_65 ?_
    refine w_a f_175_68 ?_
    refine w_a f_175_71 ?_
    exact h
  · refine i_m (fun h => ?_) (fun h => ?_) h
    · refine w_a f_175_72 ?_
      refine w_a f_175_73 ?_
      refine w_a f_175_76 ?_
      refine w_a f_175_77 ?_
      refine w_a f_175_80 ?_
      exact w_c (ks := [0]) f_175_83 rfl rfl h
    · refine i_m (fun h => ?_) (fun h => ?_) h
      · refine w_a f_175_87 ?_
        refine w_a f_175_88 ?_
        refine w_a f_175_91 ?_
        refine w_a f_175_92 ?_
        refine w_a f_175_95 ?_
        exact w_c (ks := [0]) f_175_98 rfl rfl h
      · refine w_a f_175_102 ?_
        refine w_a f_175_103 ?_
        refine w_a f_175_106 ?_
        refine w_a (ls := [(0, .ref 21)]) f_4_0 ?_
        refine w_a f_4_1 ?_
        refine w_a f_4_4 ?_
        refine w_a f_4_5 ?_
        refine w_a f_4_8 ?_
        refine w_a (ls := [(0, .long (L 21 1)), (2, .long (L 21 2))]) f_24_0 ?_
        refine w_a f_24_1 ?_
        refine w_a f_24_2 ?_
        refine i_m (fun h => ?_) (fun h => ?_) h
        · refine w_a f_24_6 ?_
          refine w_a f_24_7 ?_
          refine w_a f_24_18 ?_
          refine w_a (ls := [(0, .ref 21)]) f_4_11 ?_
          refine w_a (ls := [(0, .ref 1), (2, .int x2)]) f_175_109 ?_
          exact h
        · refine w_a f_24_10 ?_
          refine w_a f_24_13 ?_
          refine w_a f_24_14 ?_
          refine w_a f_24_15 ?_
          refine w_a f_24_16 ?_
          refine i_m id (fun h => ?_) h
          refine w_a f_24_17 ?_
          refine w_a f_24_18 ?_
          refine w_a (ls := [(0, .ref 21)]) f_4_11 ?_
          refine w_a (ls := [(0, .ref 1), (2, .int x2)]) f_175_109 ?_
          exact h
set_option maxRecDepth 10000 in
set_option maxHeartbeats 4000000 in
theorem s_175_86 {Lx : Nat} {I : Mi} {L : Ml} {e : Nat} {Q : Kq} {r : Int32} (h :
    Q (.inl (some (.int r))) (gE Lx) I L e) :
    Wp 175 86 [(0, .ref 1)] [.int r] (gE Lx) I L e Q := by
  refine w_a f_175_86 ?_
  exact h
set_option maxRecDepth 10000 in
set_option maxHeartbeats 4000000 in
theorem s_175_101 {Lx : Nat} {I : Mi} {L : Ml} {e : Nat} {Q : Kq} {r : Int32} (h :
    Q (.inl (some (.int r))) (gE Lx) I L e) :
    Wp 175 101 [(0, .ref 1)] [.int r] (gE Lx) I L e Q := by
  refine w_a f_175_101 ?_
  exact h
set_option maxRecDepth 10000 in
set_option maxHeartbeats 4000000 in
theorem s_176_0 {Lx : Nat} {I : Mi} {L : Ml} {e : Nat} {Q : Kq} {x1 : Int32} (h :
    Wp 176 9 [(0, .ref 1), (1, .int x1), (2, .int (Int32.ofInt 0))] [] (gE Lx) (ui I 21 0 (Int32.ofInt 0)) (ul (ul L 21 1 (Int64.ofInt 0)) 21 2 (Int64.ofInt 1)) e Q) :
    Wp 176 0 [(0, .ref 1), (1, .int x1)] [] (gE Lx) I L e Q := by
  refine w_a f_176_0 ?_
  refine w_a f_176_1 ?_
  refine w_a f_176_4 ?_
  refine w_a (ls := [(0, .ref 21)]) f_1_0 ?_
  refine w_a f_1_1 ?_
  refine w_a f_1_2 ?_
  refine w_a f_1_5 ?_
  refine w_a f_1_6 ?_
  refine w_a f_1_7 ?_
  refine w_a f_1_10 ?_
  refine w_a f_1_11 ?_
  refine w_a f_1_12 ?_
  refine w_a f_1_15 ?_
  refine w_a (ls := [(0, .ref 1), (1, .int x1)]) f_176_7 ?_
  refine w_a f_176_8 ?_
  exact w_n (ks := [0, 1, 2]) rfl h
set_option maxRecDepth 10000 in
set_option maxHeartbeats 4000000 in
theorem s_176_9 {Lx : Nat} {I : Mi} {L : Ml} {e : Nat} {Q : Kq} {x1 : Int32} {x2 : Int32} (h :
    (if x2 < (I 5 3) then
     Wp 106 0 [(0, .ref 5), (1, .int x2), (2, .ref 15)] [] (gE Lx) I L e (kcp (Wp 176) 176 29 0 [(0, .ref 1), (1, .int x1), (2, .int x2)] 71 [] Q)
    else
     Q (.inl none) (gE Lx) I L e)) :
    Wp 176 9 [(0, .ref 1), (1, .int x1), (2, .int x2)] [] (gE Lx) I L e Q := by
  refine w_a f_176_9 ?_
  refine w_a f_176_10 ?_
  refine w_a f_176_11 ?_
  refine w_a f_176_14 ?_
  refine w_a f_176_17 ?_
  refine i_m (fun h => ?_) (fun h => ?_) h
  · refine w_a f_176_20 ?_
    refine w_a f_176_21 ?_
    refine w_a f_176_24 ?_
    refine w_a f_176_25 ?_
    refine w_a f_176_26 ?_
    exact w_c (ks := [0, 1, 2]) f_176_29 rfl rfl h
  · refine w_a f_176_44 ?_
    exact h
set_option maxRecDepth 10000 in
set_option maxHeartbeats 4000000 in
theorem s_176_32 {Lx : Nat} {I : Mi} {L : Ml} {e : Nat} {Q : Kq} {x1 : Int32} {x2 : Int32} (h :
    Wp 177 2 [(0, .ref 1), (1, .int x2), (2, .int x1), (3, .int (Int32.ofInt 0))] [] (gE Lx) I L e (kcp (Wp 176) 176 35 0 [(0, .ref 1), (1, .int x1), (2, .int x2)] 71 [] Q)) :
    Wp 176 32 [(0, .ref 1), (1, .int x1), (2, .int x2)] [] (gE Lx) I L e Q := by
  refine w_a f_176_32 ?_
  refine w_a f_176_33 ?_
  refine w_a f_176_34 ?_
  refine w_c (ks := [0, 1, 2]) f_176_35 rfl rfl ?_
  refine w_a (ls := [(0, .ref 1), (1, .int x2), (2, .int x1)]) f_177_0 ?_
  refine w_a f_177_1 ?_
  exact w_n (ks := [0, 1, 2, 3]) rfl h
set_option maxRecDepth 10000 in
set_option maxHeartbeats 4000000 in
theorem s_176_38 {Lx : Nat} {I : Mi} {L : Ml} {e : Nat} {Q : Kq} {x1 : Int32} {x2 : Int32} (h :
    Wp 176 9 [(0, .ref 1), (1, .int x1), (2, .int (x2 + Int32.ofInt 1))] [] (gE Lx) I L e Q) :
    Wp 176 38 [(0, .ref 1), (1, .int x1), (2, .int x2)] [] (gE Lx) I L e Q := by
  refine w_a f_176_38 ?_
  refine w_a (ls := [(2, .int (x2 + Int32.ofInt 1)), (0, .ref 1), (1, .int x1)]) f_176_41 ?_
  exact w_n (ks := [0, 1, 2]) rfl h
set_option maxRecDepth 10000 in
set_option maxHeartbeats 4000000 in
theorem s_177_2 {Lx : Nat} {I : Mi} {L : Ml} {e : Nat} {Q : Kq} {x1 : Int32} {x2 : Int32} {x3 : Int32} (h :
    (if x3 < (Int32.ofInt 184) then
     Wp 71 0 [(0, .ref 2), (1, .int x3), (2, .int x2)] [] (gE Lx) I L e (kcp (Wp 177) 177 15 0 [(0, .ref 1), (1, .int x1), (2, .int x2), (3, .int x3)] 71 [] Q)
    else
     Q (.inl none) (gE Lx) I L e)) :
    Wp 177 2 [(0, .ref 1), (1, .int x1), (2, .int x2), (3, .int x3)] [] (gE Lx) I L e Q := by
  refine w_a f_177_2 ?_
  refine w_a f_177_3 ?_
  refine w_a f_177_6 ?_
  refine i_m (fun h => ?_) (fun h => ?_) h
  · refine w_a f_177_9 ?_
    refine w_a f_177_10 ?_
    refine w_a f_177_13 ?_
    refine w_a f_177_14 ?_
    exact w_c (ks := [0, 1, 2, 3]) f_177_15 rfl rfl h
  · refine w_a f_177_73 ?_
    exact h
set_option maxRecDepth 10000 in
set_option maxHeartbeats 4000000 in
theorem s_177_18 {Lx : Nat} {I : Mi} {L : Ml} {e : Nat} {Q : Kq} {x1 : Int32} {x2 : Int32} {x3 : Int32} {r : Int32} (h :
    (if r = 0 then
     Wp 177 2 [(0, .ref 1), (1, .int x1), (2, .int x2), (3, .int (x3 + Int32.ofInt 1))] [] (gE Lx) I L e Q
    else
     Wp 12 0 [(0, .ref 5), (1, .int x1)] [] (gE Lx) I (ul (ul (ul (ul L 16 0 (L 15 0)) 16 1 (L 15 1)) 16 2 (L 15 2)) 16 3 (L 15 3)) e (kcp (Wp 178) 178 20 0 [(0, .ref 1), (1, .int x1), (2, .int x3)] 71 [.ref 16] (kcp (Wp 177) 177 24 0 [(0, .ref 1), (1, .int x1), (2, .int x2), (3, .int x3)] 71 [] Q)))) :
    Wp 177 18 [(0, .ref 1), (1, .int x1), (2, .int x2), (3, .int x3)] [.int r] (gE Lx) I L e Q := by
  refine w_a f_177_18 ?_
  refine i_m (fun h => ?_) (fun h => ?_) h
  · refine w_a f_177_67 ?_
    refine w_a (ls := [(3, .int (x3 + Int32.ofInt 1)), (0, .ref 1), (1, .int x1), (2, .int x2)]) f_177_70 ?_
    exact w_n (ks := [0, 1, 2, 3]) rfl h
  · refine w_a f_177_21 ?_
    refine w_a f_177_22 ?_
    refine w_a f_177_23 ?_
    refine w_c (ks := [0, 1, 2, 3]) f_177_24 rfl rfl ?_
    refine w_a (ls := [(0, .ref 1), (1, .int x1), (2, .int x3)]) f_178_0 ?_
    refine w_a f_178_1 ?_
    refine w_a f_178_4 ?_
    refine w_a f_178_5 ?_
    refine w_a f_178_8 ?_
    refine w_a (ls := [(0, .ref 16), (1, .ref 15)]) f_84_0 ?_
    refine w_a f_84_1 ?_
    refine w_a f_84_2 ?_
    refine w_a f_84_5 ?_
    refine w_a f_84_8 ?_
    refine w_a f_84_9 ?_
    refine w_a f_84_10 ?_
    refine w_a f_84_13 ?_
    refine w_a f_84_16 ?_
    refine w_a f_84_17 ?_
    refine w_a f_84_18 ?_
    refine w_a f_84_21 ?_
    refine w_a f_84_24 ?_
    refine w_a f_84_25 ?_
    refine w_a f_84_26 ?_
    refine w_a f_84_29 ?_
    refine w_a f_84_32 ?_
    refine w_a (ls := [(0, .ref 1), (1, .int x1), (2, .int x3)]) f_178_11 ?_
    refine w_a f_178_12 ?_
    refine w_a f_178_15 ?_
    refine w_a f_178_16 ?_
    refine w_a f_178_19 ?_
    exact w_c (ks := [0, 1, 2]) f_178_20 rfl rfl h
set_option maxRecDepth 10000 in
set_option maxHeartbeats 4000000 in
theorem s_177_27 {Lx : Nat} {I : Mi} {L : Ml} {e : Nat} {Q : Kq} {x1 : Int32} {x2 : Int32} {x3 : Int32} (h :
    Wp 3 0 [(0, .ref 21), (1, .long ((((L 16 0) - (L 16 2)) * ((L 16 0) - (L 16 2))) + (((L 16 1) - (L 16 3)) * ((L 16 1) - (L 16 3))))), (3, .long ((((L 16 0) + (L 16 2)) * ((L 16 0) + (L 16 2))) + (((L 16 1) + (L 16 3)) * ((L 16 1) + (L 16 3))))), (5, .int (Int32.ofInt (-1)))] [] (gE Lx) I L e (kcp (Wp 2) 2 4 0 [(0, .ref 21)] 71 [] (kcp (Wp 177) 177 45 0 [(0, .ref 1), (1, .int x1), (2, .int x2), (3, .int x3)] 71 [] Q))) :
    Wp 177 27 [(0, .ref 1), (1, .int x1), (2, .int x2), (3, .int x3)] [] (gE Lx) I L e Q := by
  refine w_a f_177_27 ?_
  refine w_a f_177_28 ?_
  refine w_a f_177_31 ?_
  refine w_a f_177_32 ?_
  refine w_a f_177_35 ?_
  refine w_a (ls := [(0, .ref 16)]) f_78_0 ?_
  refine w_a f_78_1 ?_
  refine w_a f_78_4 ?_
  refine w_a f_78_5 ?_
  refine w_a f_78_8 ?_
  refine w_a f_78_9 ?_
  refine w_a (ls := [(1, .long ((L 16 0) - (L 16 2))), (0, .ref 16)]) f_78_10 ?_
  refine w_a f_78_11 ?_
  refine w_a f_78_14 ?_
  refine w_a f_78_15 ?_
  refine w_a f_78_18 ?_
  refine w_a f_78_19 ?_
  refine w_a (ls := [(3, .long ((L 16 1) - (L 16 3))), (1, .long ((L 16 0) - (L 16 2))), (0, .ref 16)]) f_78_20 ?_
  refine w_a f_78_21 ?_
  refine w_a f_78_22 ?_
  refine w_a f_78_23 ?_
  refine w_a f_78_24 ?_
  refine w_a f_78_25 ?_
  refine w_a f_78_26 ?_
  refine w_a f_78_27 ?_
  refine w_a (ls := [(0, .ref 1), (1, .int x1), (2, .int x2), (3, .int x3)]) f_177_38 ?_
  refine w_a f_177_39 ?_
  refine w_a f_177_42 ?_
  refine w_a (ls := [(0, .ref 16)]) f_79_0 ?_
  refine w_a f_79_1 ?_
  refine w_a f_79_4 ?_
  refine w_a f_79_5 ?_
  refine w_a f_79_8 ?_
  refine w_a f_79_9 ?_
  refine w_a (ls := [(1, .long ((L 16 0) + (L 16 2))), (0, .ref 16)]) f_79_10 ?_
  refine w_a f_79_11 ?_
  refine w_a f_79_14 ?_
  refine w_a f_79_15 ?_
  refine w_a f_79_18 ?_
  refine w_a f_79_19 ?_
  refine w_a (ls := [(3, .long ((L 16 1) + (L 16 3))), (1, .long ((L 16 0) + (L 16 2))), (0, .ref 16)]) f_79_20 ?_
  refine w_a f_79_21 ?_
  refine w_a f_79_22 ?_
  refine w_a f_79_23 ?_
  refine w_a f_79_24 ?_
  refine w_a f_79_25 ?_
  refine w_a f_79_26 ?_
  refine w_a f_79_27 ?_
  refine w_c (ls := [(0, .ref 1), (1, .int x1), (2, .int x2), (3, .int x3)]) (ks := [0, 1, 2, 3]) f_177_45 rfl rfl ?_
  refine w_a (ls := [(0, .ref 21), (1, .long ((((L 16 0) - (L 16 2)) * ((L 16 0) - (L 16 2))) + (((L 16 1) - (L 16 3)) * ((L 16 1) - (L 16 3))))), (3, .long ((((L 16 0) + (L 16 2)) * ((L 16 0) + (L 16 2))) + (((L 16 1) + (L 16 3)) * ((L 16 1) + (L 16 3)))))]) f_2_0 ?_
  refine w_a f_2_1 ?_
  refine w_a f_2_2 ?_
  refine w_a f_2_3 ?_
  exact w_c (ks := [0]) f_2_4 rfl rfl h
set_option maxRecDepth 10000 in
set_option maxHeartbeats 4000000 in
theorem s_177_48 {Lx : Nat} {I : Mi} {L : Ml} {e : Nat} {Q : Kq} {x1 : Int32} {x2 : Int32} {x3 : Int32} {r : Int32} (h :
    (if r = 0 then
     Wp 177 2 [(0, .ref 1), (1, .int x1), (2, .int x2), (3, .int (x3 + Int32.ofInt 1))] [] (gE Lx) I L e Q
    else
     Wp 177 2 [(0, .ref 1), (1, .int x1), (2, .int x2), (3, .int (x3 + Int32.ofInt 1))] [] (gE Lx) (ui (ui I 21 3 x1) 21 5 x3) L e Q)) :
    Wp 177 48 [(0, .ref 1), (1, .int x1), (2, .int x2), (3, .int x3)] [.int r] (gE Lx) I L e Q := by
  refine w_a f_177_48 ?_
  refine i_m (fun h => ?_) (fun h => ?_) h
  · refine w_a f_177_67 ?_
    refine w_a (ls := [(3, .int (x3 + Int32.ofInt 1)), (0, .ref 1), (1, .int x1), (2, .int x2)]) f_177_70 ?_
    exact w_n (ks := [0, 1, 2, 3]) rfl h
  · refine w_a f_177_51 ?_
    refine w_a f_177_52 ?_
    refine w_a f_177_55 ?_
    refine w_a f_177_56 ?_
    refine w_a f_177_59 ?_
    refine w_a f_177_60 ?_
    refine w_a f_177_63 ?_
    refine w_a f_177_64 ?_
    refine w_a f_177_67 ?_
    refine w_a (ls := [(3, .int (x3 + Int32.ofInt 1)), (0, .ref 1), (1, .int x1), (2, .int x2)]) f_177_70 ?_
    exact w_n (ks := [0, 1, 2, 3]) rfl h
set_option maxRecDepth 10000 in
set_option maxHeartbeats 4000000 in
theorem s_178_23 {Lx : Nat} {I : Mi} {L : Ml} {e : Nat} {Q : Kq} {x1 : Int32} {x2 : Int32} {r : Int32} (h :
    Wp 69 0 [(0, .ref 2), (1, .int x2)] [] (gE Lx) I L e (kcp (Wp 178) 178 28 0 [(0, .ref 1), (1, .int x1), (2, .int x2)] 71 [.int r, .ref 16] Q)) :
    Wp 178 23 [(0, .ref 1), (1, .int x1), (2, .int x2)] [.int r, .ref 16] (gE Lx) I L e Q := by
  refine w_a f_178_23 ?_
  refine w_a f_178_24 ?_
  refine w_a f_178_27 ?_
  exact w_c (ks := [0, 1, 2]) f_178_28 rfl rfl h
set_option maxRecDepth 10000 in
set_option maxHeartbeats 4000000 in
theorem s_178_31 {Lx : Nat} {I : Mi} {L : Ml} {e : Nat} {Q : Kq} {x1 : Int32} {x2 : Int32} {r1 : Int32} {r : Int32} (h :
    Wp 70 0 [(0, .ref 2), (1, .int x2)] [] (gE Lx) I L e (kcp (Wp 178) 178 37 0 [(0, .ref 1), (1, .int x1)] 71 [.long r.toInt64, .int r1, .ref 16] Q)) :
    Wp 178 31 [(0, .ref 1), (1, .int x1), (2, .int x2)] [.int r, .int r1, .ref 16] (gE Lx) I L e Q := by
  refine w_a f_178_31 ?_
  refine w_a f_178_32 ?_
  refine w_a f_178_33 ?_
  refine w_a f_178_36 ?_
  exact w_c (ks := [0, 1]) f_178_37 rfl rfl h
set_option maxRecDepth 10000 in
set_option maxHeartbeats 4000000 in
theorem s_178_40 {Lx : Nat} {I : Mi} {L : Ml} {e : Nat} {Q : Kq} {x1 : Int32} {r1 : Int32} {rl2 : Int64} {r : Int32} (h :
    Wp 75 0 [(0, .ref 16), (1, .int r1), (2, .long rl2), (4, .long r.toInt64)] [] (gE Lx) I L e (kcp (Wp 178) 178 41 0 [(0, .ref 1), (1, .int x1)] 71 [] Q)) :
    Wp 178 40 [(0, .ref 1), (1, .int x1)] [.int r, .long rl2, .int r1, .ref 16] (gE Lx) I L e Q := by
  refine w_a f_178_40 ?_
  exact w_c (ks := [0, 1]) f_178_41 rfl rfl h
set_option maxRecDepth 10000 in
set_option maxHeartbeats 4000000 in
theorem s_178_44 {Lx : Nat} {I : Mi} {L : Ml} {e : Nat} {Q : Kq} {x1 : Int32} (h :
    Wp 179 2 [(0, .ref 5), (2, .ref 16), (3, .int (x1 + (Int32.ofInt 1)))] [] (gE Lx) I L e (kcp (Wp 178) 178 55 0 [(0, .ref 1)] 71 [] Q)) :
    Wp 178 44 [(0, .ref 1), (1, .int x1)] [] (gE Lx) I L e Q := by
  refine w_a f_178_44 ?_
  refine w_a f_178_45 ?_
  refine w_a f_178_48 ?_
  refine w_a f_178_49 ?_
  refine w_a f_178_50 ?_
  refine w_a f_178_51 ?_
  refine w_a f_178_52 ?_
  refine w_c (ks := [0]) f_178_55 rfl rfl ?_
  refine w_a (ls := [(0, .ref 5), (1, .int (x1 + (Int32.ofInt 1))), (2, .ref 16)]) f_179_0 ?_
  refine w_a f_179_1 ?_
  exact w_n (ks := [0, 2, 3]) rfl h
set_option maxRecDepth 10000 in
set_option maxHeartbeats 4000000 in
theorem s_178_58 {Lx : Nat} {I : Mi} {L : Ml} {e : Nat} {Q : Kq} (h :
    Q (.inl none) (gE Lx) I L e) :
    Wp 178 58 [(0, .ref 1)] [] (gE Lx) I L e Q := by
  refine w_a f_178_58 ?_
  exact h
set_option maxRecDepth 10000 in
set_option maxHeartbeats 4000000 in
theorem s_179_2 {Lx : Nat} {I : Mi} {L : Ml} {e : Nat} {Q : Kq} {x3 : Int32} (h :
    (if x3 < (I 5 3) then
     Wp 12 0 [(0, .ref 5), (1, .int x3)] [] (gE Lx) I L e (kcp (Wp 179) 179 13 0 [(0, .ref 5), (2, .ref 16), (3, .int x3)] 71 [.ref 16] Q)
    else
     Q (.inl none) (gE Lx) I L e)) :
    Wp 179 2 [(0, .ref 5), (2, .ref 16), (3, .int x3)] [] (gE Lx) I L e Q := by
  refine w_a f_179_2 ?_
  refine w_a f_179_3 ?_
  refine w_a f_179_4 ?_
  refine w_a f_179_7 ?_
  refine i_m (fun h => ?_) (fun h => ?_) h
  · refine w_a f_179_10 ?_
    refine w_a f_179_11 ?_
    refine w_a f_179_12 ?_
    exact w_c (ks := [0, 2, 3]) f_179_13 rfl rfl h
  · refine w_a f_179_37 ?_
    exact h
set_option maxRecDepth 10000 in
set_option maxHeartbeats 4000000 in
theorem s_179_16 {Lx : Nat} {I : Mi} {L : Ml} {e : Nat} {Q : Kq} {x3 : Int32} {r : Int32} (h :
    Wp 14 0 [(0, .ref 5), (1, .int x3)] [] (gE Lx) I L e (kcp (Wp 179) 179 18 0 [(0, .ref 5), (2, .ref 16), (3, .int x3)] 71 [.int r, .ref 16] Q)) :
    Wp 179 16 [(0, .ref 5), (2, .ref 16), (3, .int x3)] [.int r, .ref 16] (gE Lx) I L e Q := by
  refine w_a f_179_16 ?_
  refine w_a f_179_17 ?_
  exact w_c (ks := [0, 2, 3]) f_179_18 rfl rfl h
set_option maxRecDepth 10000 in
set_option maxHeartbeats 4000000 in
theorem s_179_21 {Lx : Nat} {I : Mi} {L : Ml} {e : Nat} {Q : Kq} {x3 : Int32} {r1 : Int32} {r : Int32} (h :
    Wp 15 0 [(0, .ref 5), (1, .int x3)] [] (gE Lx) I L e (kcp (Wp 179) 179 24 0 [(0, .ref 5), (2, .ref 16), (3, .int x3)] 71 [.long r.toInt64, .int r1, .ref 16] Q)) :
    Wp 179 21 [(0, .ref 5), (2, .ref 16), (3, .int x3)] [.int r, .int r1, .ref 16] (gE Lx) I L e Q := by
  refine w_a f_179_21 ?_
  refine w_a f_179_22 ?_
  refine w_a f_179_23 ?_
  exact w_c (ks := [0, 2, 3]) f_179_24 rfl rfl h
set_option maxRecDepth 10000 in
set_option maxHeartbeats 4000000 in
theorem s_179_27 {Lx : Nat} {I : Mi} {L : Ml} {e : Nat} {Q : Kq} {x3 : Int32} {r1 : Int32} {rl2 : Int64} {r : Int32} (h :
    Wp 75 0 [(0, .ref 16), (1, .int r1), (2, .long rl2), (4, .long r.toInt64)] [] (gE Lx) I L e (kcp (Wp 179) 179 28 0 [(0, .ref 5), (2, .ref 16), (3, .int x3)] 71 [] Q)) :
    Wp 179 27 [(0, .ref 5), (2, .ref 16), (3, .int x3)] [.int r, .long rl2, .int r1, .ref 16] (gE Lx) I L e Q := by
  refine w_a f_179_27 ?_
  exact w_c (ks := [0, 2, 3]) f_179_28 rfl rfl h
set_option maxRecDepth 10000 in
set_option maxHeartbeats 4000000 in
theorem s_179_31 {Lx : Nat} {I : Mi} {L : Ml} {e : Nat} {Q : Kq} {x3 : Int32} (h :
    Wp 179 2 [(0, .ref 5), (2, .ref 16), (3, .int (x3 + Int32.ofInt 1))] [] (gE Lx) I L e Q) :
    Wp 179 31 [(0, .ref 5), (2, .ref 16), (3, .int x3)] [] (gE Lx) I L e Q := by
  refine w_a f_179_31 ?_
  refine w_a (ls := [(3, .int (x3 + Int32.ofInt 1)), (0, .ref 5), (2, .ref 16)]) f_179_34 ?_
  exact w_n (ks := [0, 2, 3]) rfl h
set_option maxRecDepth 10000 in
set_option maxHeartbeats 4000000 in
theorem s_180_31 {Lx : Nat} {I : Mi} {L : Ml} {e : Nat} {Q : Kq} {r : Int32} (h :
    (if r = 0 then
     Q (.inr 102) (gE Lx) I L (e + 1)
    else
     (if (L 17 0).toInt32 < 0 then
      Q (.inr 102) (gE Lx) I L (e + 1)
     else
      (if (Int32.ofInt 99) < (L 17 0).toInt32 then
       Q (.inr 102) (gE Lx) I L (e + 1)
      else
       (if (L 17 1).toInt32 < (Int32.ofInt (-99)) then
        Q (.inr 102) (gE Lx) I L (e + 1)
       else
        (if (Int32.ofInt 99) < (L 17 1).toInt32 then
         Q (.inr 102) (gE Lx) I L (e + 1)
        else
         (if (L 17 2).toInt32 < (Int32.ofInt 1) then
          Q (.inr 102) (gE Lx) I L (e + 1)
         else
          (if (Int32.ofInt 20) < (L 17 2).toInt32 then
           Q (.inr 102) (gE Lx) I L (e + 1)
          else
           Wp 180 113 [(0, .ref 1), (1, .int (Int32.ofInt 0))] [] (gE Lx) (ui (ui (ui I 5 0 ((L 17 0).toInt32)) 5 1 ((L 17 1).toInt32)) 5 2 ((L 17 2).toInt32)) L e Q)))))))) :
    Wp 180 31 [(0, .ref 1)] [.int r] (gE Lx) I L e Q := by
  refine w_a f_180_31 ?_
  refine i_m (fun h => ?_) (fun h => ?_) h
  · refine w_a f_180_34 ?_
    exact h
  · refine w_a f_180_42 ?_
    refine w_a f_180_43 ?_
    refine w_a f_180_46 ?_
    refine w_a f_180_49 ?_
    refine w_a f_180_50 ?_
    refine w_a f_180_51 ?_
    refine w_a f_180_54 ?_
    refine w_a f_180_57 ?_
    refine w_a f_180_58 ?_
    refine w_a f_180_59 ?_
    refine w_a f_180_62 ?_
    refine w_a f_180_65 ?_
    refine w_a f_180_66 ?_
    refine w_a (ls := [(0, .int (L 17 0).toInt32), (1, .int (L 17 1).toInt32), (2, .int (L 17 2).toInt32)]) f_111_0 ?_
    refine w_a f_111_1 ?_
    refine i_m (fun h => ?_) (fun h => ?_) h
    · refine w_a f_111_37 ?_
      refine w_a f_111_38 ?_
      refine w_a (ls := [(0, .ref 1)]) f_180_69 ?_
      refine w_a f_180_72 ?_
      exact h
    · refine w_a f_111_4 ?_
      refine w_a f_111_5 ?_
      refine w_a f_111_7 ?_
      refine i_m (fun h => ?_) (fun h => ?_) h
      · refine w_a f_111_37 ?_
        refine w_a f_111_38 ?_
        refine w_a (ls := [(0, .ref 1)]) f_180_69 ?_
        refine w_a f_180_72 ?_
        exact h
      · refine w_a f_111_10 ?_
        refine w_a f_111_11 ?_
        refine w_a f_111_13 ?_
        refine i_m (fun h => ?_) (fun h => ?_) h
        · refine w_a f_111_37 ?_
          refine w_a f_111_38 ?_
          refine w_a (ls := [(0, .ref 1)]) f_180_69 ?_
          refine w_a f_180_72 ?_
          exact h
        · refine w_a f_111_16 ?_
          refine w_a f_111_17 ?_
          refine w_a f_111_19 ?_
          refine i_m (fun h => ?_) (fun h => ?_) h
          · refine w_a f_111_37 ?_
            refine w_a f_111_38 ?_
            refine w_a (ls := [(0, .ref 1)]) f_180_69 ?_
            refine w_a f_180_72 ?_
            exact h
          · refine w_a f_111_22 ?_
            refine w_a f_111_23 ?_
            refine w_a f_111_24 ?_
            refine i_m (fun h => ?_) (fun h => ?_) h
            · refine w_a f_111_37 ?_
              refine w_a f_111_38 ?_
              refine w_a (ls := [(0, .ref 1)]) f_180_69 ?_
              refine w_a f_180_72 ?_
              exact h
            · refine w_a f_111_27 ?_
              refine w_a f_111_28 ?_
              refine w_a f_111_30 ?_
              refine i_m (fun h => ?_) (fun h => ?_) h
              · refine w_a f_111_37 ?_
                refine w_a f_111_38 ?_
                refine w_a (ls := [(0, .ref 1)]) f_180_69 ?_
                refine w_a f_180_72 ?_
                exact h
              · refine w_a f_111_33 ?_
                refine w_a f_111_34 ?_
                refine w_a f_111_38 ?_
                refine w_a (ls := [(0, .ref 1)]) f_180_69 ?_
                refine w_a f_180_80 ?_
                refine w_a f_180_81 ?_
                refine w_a f_180_84 ?_
                refine w_a f_180_85 ?_
                refine w_a f_180_88 ?_
                refine w_a f_180_91 ?_
                refine w_a f_180_92 ?_
                refine w_a f_180_93 ?_
                refine w_a f_180_96 ?_
                refine w_a f_180_99 ?_
                refine w_a f_180_100 ?_
                refine w_a f_180_101 ?_
                refine w_a f_180_104 ?_
                refine w_a f_180_107 ?_
                refine w_a f_180_108 ?_
                refine w_a (ls := [(0, .ref 5), (1, .int (L 17 0).toInt32), (2, .int (L 17 1).toInt32), (3, .int (L 17 2).toInt32)]) f_17_0 ?_
                refine w_a f_17_1 ?_
                refine w_a f_17_2 ?_
                refine w_a f_17_5 ?_
                refine w_a f_17_6 ?_
                refine w_a f_17_7 ?_
                refine w_a f_17_10 ?_
                refine w_a f_17_11 ?_
                refine w_a f_17_12 ?_
                refine w_a f_17_15 ?_
                refine w_a (ls := [(0, .ref 1)]) f_180_111 ?_
                refine w_a f_180_112 ?_
                exact w_n (ks := [0, 1]) rfl h
set_option maxRecDepth 10000 in
set_option maxHeartbeats 4000000 in
theorem s_180_113 {Lx : Nat} {I : Mi} {L : Ml} {e : Nat} {Q : Kq} {x1 : Int32} (h :
    (if x1 < (I 5 3) then
     (if x1 < 0 then
      Wp 180 113 [(0, .ref 1), (1, .int (x1 + Int32.ofInt 1))] [] (gE Lx) I L e Q
     else
      (if x1 < (Int32.ofInt 4) then
       (inb x1 4 (
        (if (I 6 x1.toNatClampNeg) = 0 then
         Wp 180 113 [(0, .ref 1), (1, .int (x1 + Int32.ofInt 1))] [] (gE Lx) I L e Q
        else
         (inb x1 4 (
          (inb x1 4 (
           Wp 180 113 [(0, .ref 1), (1, .int (x1 + Int32.ofInt 1))] [] (gE Lx) (ui I 6 x1.toNatClampNeg ((Int32.ofInt 5) - (I 6 x1.toNatClampNeg))) L e Q)
          False))
         False)))
       False)
      else
       Wp 180 113 [(0, .ref 1), (1, .int (x1 + Int32.ofInt 1))] [] (gE Lx) I L e Q))
    else
     Q (.inl none) (gE Lx) I L e)) :
    Wp 180 113 [(0, .ref 1), (1, .int x1)] [] (gE Lx) I L e Q := by
  refine w_a f_180_113 ?_
  refine w_a f_180_114 ?_
  refine w_a f_180_115 ?_
  refine w_a f_180_118 ?_
  refine w_a f_180_121 ?_
  refine i_m (fun h => ?_) (fun h => ?_) h
  · refine w_a f_180_124 ?_
    refine w_a f_180_125 ?_
    refine w_a f_180_128 ?_
    refine w_a f_180_129 ?_
    refine w_a (ls := [(0, .ref 5), (1, .int x1)]) f_21_0 ?_
    refine w_a f_21_1 ?_
    refine w_a f_21_2 ?_
    refine w_a (ls := [(0, .ref 5), (1, .int x1)]) f_13_0 ?_
    refine w_a f_13_1 ?_
    refine i_m (fun h => ?_) (fun h => ?_) h
    · refine w_a f_13_13 ?_
      refine w_a f_13_14 ?_
      refine w_a (ls := [(0, .ref 5), (1, .int x1)]) f_21_5 ?_
      refine w_a f_21_31 ?_
      refine w_a (ls := [(0, .ref 1), (1, .int x1)]) f_180_132 ?_
      refine w_a (ls := [(1, .int (x1 + Int32.ofInt 1)), (0, .ref 1)]) f_180_135 ?_
      exact w_n (ks := [0, 1]) rfl h
    · refine w_a f_13_4 ?_
      refine w_a f_13_5 ?_
      refine w_a f_13_6 ?_
      refine i_m (fun h => ?_) (fun h => ?_) h
      · refine w_a f_13_9 ?_
        refine w_a f_13_10 ?_
        refine w_a f_13_14 ?_
        refine w_a (ls := [(0, .ref 5), (1, .int x1)]) f_21_5 ?_
        refine w_a f_21_8 ?_
        refine w_a f_21_9 ?_
        refine w_a f_21_12 ?_
        refine w_a f_21_13 ?_
        refine n_m (fun h => ?_) h
        refine w_a f_21_14 ?_
        refine i_m (fun h => ?_) (fun h => ?_) h
        · refine w_a f_21_31 ?_
          refine w_a (ls := [(0, .ref 1), (1, .int x1)]) f_180_132 ?_
          refine w_a (ls := [(1, .int (x1 + Int32.ofInt 1)), (0, .ref 1)]) f_180_135 ?_
          exact w_n (ks := [0, 1]) rfl h
        · refine w_a f_21_17 ?_
          refine w_a f_21_18 ?_
          refine w_a f_21_21 ?_
          refine w_a f_21_22 ?_
          refine w_a f_21_23 ?_
          refine w_a f_21_24 ?_
          refine w_a f_21_27 ?_
          refine w_a f_21_28 ?_
          refine n_m (fun h => ?_) h
          refine w_a f_21_29 ?_
          refine w_a f_21_30 ?_
          refine n_m (fun h => ?_) h
          refine w_a f_21_31 ?_
          refine w_a (ls := [(0, .ref 1), (1, .int x1)]) f_180_132 ?_
          refine w_a (ls := [(1, .int (x1 + Int32.ofInt 1)), (0, .ref 1)]) f_180_135 ?_
          exact w_n (ks := [0, 1]) rfl h
      · refine w_a f_13_13 ?_
        refine w_a f_13_14 ?_
        refine w_a (ls := [(0, .ref 5), (1, .int x1)]) f_21_5 ?_
        refine w_a f_21_31 ?_
        refine w_a (ls := [(0, .ref 1), (1, .int x1)]) f_180_132 ?_
        refine w_a (ls := [(1, .int (x1 + Int32.ofInt 1)), (0, .ref 1)]) f_180_135 ?_
        exact w_n (ks := [0, 1]) rfl h
  · refine w_a f_180_138 ?_
    exact h
set_option maxRecDepth 10000 in
set_option maxHeartbeats 4000000 in
theorem s_181_21 {Lx : Nat} {I : Mi} {L : Ml} {e : Nat} {Q : Kq} {x2 : Int32} (h :
    (if x2 = (Int32.ofInt 5) then
     (if (L 21 2) = (Int64.ofInt 0) then
      Wp 181 41 [(0, .ref 1)] [.int (Int32.ofInt 0)] (gE Lx) I L e Q
     else
      (if (L 21 2) = 0 then False else
       Wp 181 41 [(0, .ref 1)] [.int (((Int64.ofInt 10000) * (L 21 1)) / (L 21 2)).toInt32] (gE Lx) I L e Q))
    else
     (if x2 = Int32.ofInt 0 then
      Wp 69 0 [(0, .ref 2), (1, .int (I 21 4))] [] (gE Lx) I L e (kcp (Wp 174) 174 43 0 [(0, .ref 1)] 71 [] (kcp (Wp 181) 181 38 0 [(0, .ref 1)] 71 [] Q))
     else
     (if x2 = Int32.ofInt 1 then
      Wp 70 0 [(0, .ref 2), (1, .int (I 21 4))] [] (gE Lx) I L e (kcp (Wp 174) 174 58 0 [(0, .ref 1)] 71 [] (kcp (Wp 181) 181 38 0 [(0, .ref 1)] 71 [] Q))
     else
     (if x2 = Int32.ofInt 2 then
      (if (I 21 6) = 0 then
       Wp 181 41 [(0, .ref 1)] [.int (Int32.ofInt 0)] (gE Lx) I L e Q
      else
       Wp 181 41 [(0, .ref 1)] [.int (Int32.ofInt 1)] (gE Lx) I L e Q)
     else
     (if x2 = Int32.ofInt 3 then
      Wp 69 0 [(0, .ref 2), (1, .int (I 21 5))] [] (gE Lx) I L e (kcp (Wp 174) 174 89 0 [(0, .ref 1)] 71 [] (kcp (Wp 181) 181 38 0 [(0, .ref 1)] 71 [] Q))
     else
      Wp 70 0 [(0, .ref 2), (1, .int (I 21 5))] [] (gE Lx) I L e (kcp (Wp 174) 174 104 0 [(0, .ref 1)] 71 [] (kcp (Wp 181) 181 38 0 [(0, .ref 1)] 71 [] Q)))))))) :
    Wp 181 21 [(0, .ref 1), (2, .int x2)] [] (gE Lx) I L e Q := by
  refine w_a f_181_21 ?_
  refine w_a f_181_22 ?_
  refine w_a f_181_23 ?_
  refine i_m (fun h => ?_) (fun h => ?_) h
  · refine w_a f_181_26 ?_
    refine w_a f_181_27 ?_
    refine w_a f_181_30 ?_
    refine w_a (ls := [(0, .ref 21)]) f_4_0 ?_
    refine w_a f_4_1 ?_
    refine w_a f_4_4 ?_
    refine w_a f_4_5 ?_
    refine w_a f_4_8 ?_
    refine w_a (ls := [(0, .long (L 21 1)), (2, .long (L 21 2))]) f_24_0 ?_
    refine w_a f_24_1 ?_
    refine w_a f_24_2 ?_
    refine i_m (fun h => ?_) (fun h => ?_) h
    · refine w_a f_24_6 ?_
      refine w_a f_24_7 ?_
      refine w_a f_24_18 ?_
      refine w_a (ls := [(0, .ref 21)]) f_4_11 ?_
      refine w_a (ls := [(0, .ref 1), (2, .int x2)]) f_181_33 ?_
      exact w_n (ks := [0]) rfl h
    · refine w_a f_24_10 ?_
      refine w_a f_24_13 ?_
      refine w_a f_24_14 ?_
      refine w_a f_24_15 ?_
      refine w_a f_24_16 ?_
      refine i_m id (fun h => ?_) h
      refine w_a f_24_17 ?_
      refine w_a f_24_18 ?_
      refine w_a (ls := [(0, .ref 21)]) f_4_11 ?_
      refine w_a (ls := [(0, .ref 1), (2, .int x2)]) f_181_33 ?_
      exact w_n (ks := [0]) rfl h
  · refine w_a f_181_36 ?_
    refine w_a f_181_37 ?_
    refine w_c (ks := [0]) f_181_38 rfl rfl ?_
    refine w_a (ls := [(0, .ref 1), (1, .int x2)]) f_174_0 ?_
    refine w_a f_174_1 ?_
    refine i_m (fun h => ?_) (fun h => ?_) h
    · refine w_a f_174_32 ?_
      refine w_a f_174_33 ?_
      refine w_a f_174_36 ?_
      refine w_a f_174_37 ?_
      refine w_a f_174_40 ?_
      exact w_c (ks := [0]) f_174_43 rfl rfl h
    · refine i_m (fun h => ?_) (fun h => ?_) h
      · refine w_a f_174_47 ?_
        refine w_a f_174_48 ?_
        refine w_a f_174_51 ?_
        refine w_a f_174_52 ?_
        refine w_a f_174_55 ?_
        exact w_c (ks := [0]) f_174_58 rfl rfl h
      · refine i_m (fun h => ?_) (fun h => ?_) h
        · refine w_a f_174_62 ?_
          refine w_a f_174_63 ?_
          refine w_a f_174_66 ?_
          refine w_a f_174_69 ?_
          refine i_m (fun h => ?_) (fun h => ?_) h
          · refine w_a f_174_76 ?_
            refine w_a f_174_77 ?_
            exact h
          · refine w_a f_174_72 ?_
            refine w_a f_174_73 ?_
            refine w_a f_174_77 ?_
            exact h
        · refine i_m (fun h => ?_) (fun h => ?_) h
          · refine w_a f_174_78 ?_
            refine w_a f_174_79 ?_
            refine w_a f_174_82 ?_
            refine w_a f_174_83 ?_
            refine w_a f_174_86 ?_
            exact w_c (ks := [0]) f_174_89 rfl rfl h
          · refine w_a f_174_93 ?_
            refine w_a f_174_94 ?_
            refine w_a f_174_97 ?_
            refine w_a f_174_98 ?_
            refine w_a f_174_101 ?_
            exact w_c (ks := [0]) f_174_104 rfl rfl h
set_option maxRecDepth 10000 in
set_option maxHeartbeats 4000000 in
theorem s_181_41 {Lx : Nat} {I : Mi} {L : Ml} {e : Nat} {Q : Kq} {r : Int32} (h :
    Q (.inl (some (.int r))) (gE Lx) I L e) :
    Wp 181 41 [(0, .ref 1)] [.int r] (gE Lx) I L e Q := by
  refine w_a f_181_41 ?_
  exact h
set_option maxRecDepth 10000 in
set_option maxHeartbeats 4000000 in
theorem s_182_0 {Lx : Nat} {I : Mi} {L : Ml} {e : Nat} {Q : Kq} {x1 : Int32} (h :
    Wp 106 0 [(0, .ref 5), (1, .int (I 5 3)), (2, .ref 15)] [] (gE Lx) (ui I 21 0 (Int32.ofInt 0)) (ul (ul L 21 1 (Int64.ofInt 0)) 21 2 (Int64.ofInt 1)) e (kcp (Wp 182) 182 22 0 [(0, .ref 1), (1, .int x1)] 71 [] Q)) :
    Wp 182 0 [(0, .ref 1), (1, .int x1)] [] (gE Lx) I L e Q := by
  refine w_a f_182_0 ?_
  refine w_a f_182_1 ?_
  refine w_a f_182_4 ?_
  refine w_a (ls := [(0, .ref 21)]) f_1_0 ?_
  refine w_a f_1_1 ?_
  refine w_a f_1_2 ?_
  refine w_a f_1_5 ?_
  refine w_a f_1_6 ?_
  refine w_a f_1_7 ?_
  refine w_a f_1_10 ?_
  refine w_a f_1_11 ?_
  refine w_a f_1_12 ?_
  refine w_a f_1_15 ?_
  refine w_a (ls := [(0, .ref 1), (1, .int x1)]) f_182_7 ?_
  refine w_a f_182_8 ?_
  refine w_a f_182_11 ?_
  refine w_a f_182_12 ?_
  refine w_a f_182_15 ?_
  refine w_a f_182_18 ?_
  refine w_a f_182_19 ?_
  exact w_c (ks := [0, 1]) f_182_22 rfl rfl h
set_option maxRecDepth 10000 in
set_option maxHeartbeats 4000000 in
theorem s_182_25 {Lx : Nat} {I : Mi} {L : Ml} {e : Nat} {Q : Kq} {x1 : Int32} (h :
    Wp 182 27 [(0, .ref 1), (1, .int x1), (2, .int (Int32.ofInt 0))] [] (gE Lx) I L e Q) :
    Wp 182 25 [(0, .ref 1), (1, .int x1)] [] (gE Lx) I L e Q := by
  refine w_a f_182_25 ?_
  refine w_a f_182_26 ?_
  exact w_n (ks := [0, 1, 2]) rfl h
set_option maxRecDepth 10000 in
set_option maxHeartbeats 4000000 in
theorem s_182_27 {Lx : Nat} {I : Mi} {L : Ml} {e : Nat} {Q : Kq} {x1 : Int32} {x2 : Int32} (h :
    (if x2 < (Int32.ofInt 184) then
     Wp 71 0 [(0, .ref 2), (1, .int x2), (2, .int x1)] [] (gE Lx) I L e (kcp (Wp 182) 182 40 0 [(0, .ref 1), (1, .int x1), (2, .int x2)] 71 [] Q)
    else
     Q (.inl none) (gE Lx) I L e)) :
    Wp 182 27 [(0, .ref 1), (1, .int x1), (2, .int x2)] [] (gE Lx) I L e Q := by
  refine w_a f_182_27 ?_
  refine w_a f_182_28 ?_
  refine w_a f_182_31 ?_
  refine i_m (fun h => ?_) (fun h => ?_) h
  · refine w_a f_182_34 ?_
    refine w_a f_182_35 ?_
    refine w_a f_182_38 ?_
    refine w_a f_182_39 ?_
    exact w_c (ks := [0, 1, 2]) f_182_40 rfl rfl h
  · refine w_a f_182_94 ?_
    exact h
set_option maxRecDepth 10000 in
set_option maxHeartbeats 4000000 in
theorem s_182_43 {Lx : Nat} {I : Mi} {L : Ml} {e : Nat} {Q : Kq} {x1 : Int32} {x2 : Int32} {r : Int32} (h :
    (if r = 0 then
     Wp 182 88 [(0, .ref 1), (1, .int x1), (2, .int x2)] [] (gE Lx) I L e Q
    else
     Wp 69 0 [(0, .ref 2), (1, .int x2)] [] (gE Lx) I (ul (ul (ul (ul L 14 0 (L 15 0)) 14 1 (L 15 1)) 14 2 (L 15 2)) 14 3 (L 15 3)) e (kcp (Wp 182) 182 66 0 [(0, .ref 1), (1, .int x1), (2, .int x2)] 71 [.ref 14] Q))) :
    Wp 182 43 [(0, .ref 1), (1, .int x1), (2, .int x2)] [.int r] (gE Lx) I L e Q := by
  refine w_a f_182_43 ?_
  refine i_m (fun h => ?_) (fun h => ?_) h
  · exact w_n (ks := [0, 1, 2]) rfl h
  · refine w_a f_182_46 ?_
    refine w_a f_182_47 ?_
    refine w_a f_182_50 ?_
    refine w_a f_182_51 ?_
    refine w_a f_182_54 ?_
    refine w_a (ls := [(0, .ref 14), (1, .ref 15)]) f_84_0 ?_
    refine w_a f_84_1 ?_
    refine w_a f_84_2 ?_
    refine w_a f_84_5 ?_
    refine w_a f_84_8 ?_
    refine w_a f_84_9 ?_
    refine w_a f_84_10 ?_
    refine w_a f_84_13 ?_
    refine w_a f_84_16 ?_
    refine w_a f_84_17 ?_
    refine w_a f_84_18 ?_
    refine w_a f_84_21 ?_
    refine w_a f_84_24 ?_
    refine w_a f_84_25 ?_
    refine w_a f_84_26 ?_
    refine w_a f_84_29 ?_
    refine w_a f_84_32 ?_
    refine w_a (ls := [(0, .ref 1), (1, .int x1), (2, .int x2)]) f_182_57 ?_
    refine w_a f_182_58 ?_
    refine w_a f_182_61 ?_
    refine w_a f_182_62 ?_
    refine w_a f_182_65 ?_
    exact w_c (ks := [0, 1, 2]) f_182_66 rfl rfl h
set_option maxRecDepth 10000 in
set_option maxHeartbeats 4000000 in
theorem s_182_69 {Lx : Nat} {I : Mi} {L : Ml} {e : Nat} {Q : Kq} {x1 : Int32} {x2 : Int32} {r : Int32} (h :
    Wp 70 0 [(0, .ref 2), (1, .int x2)] [] (gE Lx) I L e (kcp (Wp 182) 182 75 0 [(0, .ref 1), (1, .int x1), (2, .int x2)] 71 [.long r.toInt64, .ref 14] Q)) :
    Wp 182 69 [(0, .ref 1), (1, .int x1), (2, .int x2)] [.int r, .ref 14] (gE Lx) I L e Q := by
  refine w_a f_182_69 ?_
  refine w_a f_182_70 ?_
  refine w_a f_182_71 ?_
  refine w_a f_182_74 ?_
  exact w_c (ks := [0, 1, 2]) f_182_75 rfl rfl h
set_option maxRecDepth 10000 in
set_option maxHeartbeats 4000000 in
theorem s_182_78 {Lx : Nat} {I : Mi} {L : Ml} {e : Nat} {Q : Kq} {x1 : Int32} {x2 : Int32} {rl1 : Int64} {r : Int32} (h :
    Wp 76 0 [(0, .ref 14), (1, .long rl1), (3, .long r.toInt64)] [] (gE Lx) I L e (kcp (Wp 182) 182 79 0 [(0, .ref 1), (1, .int x1), (2, .int x2)] 71 [] Q)) :
    Wp 182 78 [(0, .ref 1), (1, .int x1), (2, .int x2)] [.int r, .long rl1, .ref 14] (gE Lx) I L e Q := by
  refine w_a f_182_78 ?_
  exact w_c (ks := [0, 1, 2]) f_182_79 rfl rfl h
set_option maxRecDepth 10000 in
set_option maxHeartbeats 4000000 in
theorem s_182_82 {Lx : Nat} {I : Mi} {L : Ml} {e : Nat} {Q : Kq} {x1 : Int32} {x2 : Int32} (h :
    Wp 183 2 [(0, .ref 1), (1, .int x2), (2, .int x1), (3, .int (Int32.ofInt 0))] [] (gE Lx) I L e (kcp (Wp 182) 182 85 0 [(0, .ref 1), (1, .int x1), (2, .int x2)] 71 [] Q)) :
    Wp 182 82 [(0, .ref 1), (1, .int x1), (2, .int x2)] [] (gE Lx) I L e Q := by
  refine w_a f_182_82 ?_
  refine w_a f_182_83 ?_
  refine w_a f_182_84 ?_
  refine w_c (ks := [0, 1, 2]) f_182_85 rfl rfl ?_
  refine w_a (ls := [(0, .ref 1), (1, .int x2), (2, .int x1)]) f_183_0 ?_
  refine w_a f_183_1 ?_
  exact w_n (ks := [0, 1, 2, 3]) rfl h
set_option maxRecDepth 10000 in
set_option maxHeartbeats 4000000 in
theorem s_182_88 {Lx : Nat} {I : Mi} {L : Ml} {e : Nat} {Q : Kq} {x1 : Int32} {x2 : Int32} (h :
    Wp 182 27 [(0, .ref 1), (1, .int x1), (2, .int (x2 + Int32.ofInt 1))] [] (gE Lx) I L e Q) :
    Wp 182 88 [(0, .ref 1), (1, .int x1), (2, .int x2)] [] (gE Lx) I L e Q := by
  refine w_a f_182_88 ?_
  refine w_a (ls := [(2, .int (x2 + Int32.ofInt 1)), (0, .ref 1), (1, .int x1)]) f_182_91 ?_
  exact w_n (ks := [0, 1, 2]) rfl h
set_option maxRecDepth 10000 in
set_option maxHeartbeats 4000000 in
theorem s_183_2 {Lx : Nat} {I : Mi} {L : Ml} {e : Nat} {Q : Kq} {x1 : Int32} {x2 : Int32} {x3 : Int32} (h :
    (if x3 < (Int32.ofInt 184) then
     Wp 183 12 [(0, .ref 1), (1, .int x1), (2, .int x2), (3, .int x3), (4, .int (Int32.ofInt 0))] [] (gE Lx) I L e Q
    else
     Q (.inl none) (gE Lx) I L e)) :
    Wp 183 2 [(0, .ref 1), (1, .int x1), (2, .int x2), (3, .int x3)] [] (gE Lx) I L e Q := by
  refine w_a f_183_2 ?_
  refine w_a f_183_3 ?_
  refine w_a f_183_6 ?_
  refine i_m (fun h => ?_) (fun h => ?_) h
  · refine w_a f_183_9 ?_
    refine w_a f_183_10 ?_
    exact w_n (ks := [0, 1, 2, 3, 4]) rfl h
  · refine w_a f_183_149 ?_
    exact h
set_option maxRecDepth 10000 in
set_option maxHeartbeats 4000000 in
theorem s_183_12 {Lx : Nat} {I : Mi} {L : Ml} {e : Nat} {Q : Kq} {x1 : Int32} {x2 : Int32} {x3 : Int32} {x4 : Int32} (h :
    (if x4 < (Int32.ofInt 2) then
     Wp 71 0 [(0, .ref 2), (1, .int x3), (2, .int x2)] [] (gE Lx) I L e (kcp (Wp 183) 183 24 0 [(0, .ref 1), (1, .int x1), (2, .int x2), (3, .int x3), (4, .int x4)] 71 [] Q)
    else
     Wp 183 2 [(0, .ref 1), (1, .int x1), (2, .int x2), (3, .int (x3 + Int32.ofInt 1))] [] (gE Lx) I L e Q)) :
    Wp 183 12 [(0, .ref 1), (1, .int x1), (2, .int x2), (3, .int x3), (4, .int x4)] [] (gE Lx) I L e Q := by
  refine w_a f_183_12 ?_
  refine w_a f_183_14 ?_
  refine w_a f_183_15 ?_
  refine i_m (fun h => ?_) (fun h => ?_) h
  · refine w_a f_183_18 ?_
    refine w_a f_183_19 ?_
    refine w_a f_183_22 ?_
    refine w_a f_183_23 ?_
    exact w_c (ks := [0, 1, 2, 3, 4]) f_183_24 rfl rfl h
  · refine w_a f_183_143 ?_
    refine w_a (ls := [(3, .int (x3 + Int32.ofInt 1)), (0, .ref 1), (1, .int x1), (2, .int x2), (4, .int x4)]) f_183_146 ?_
    exact w_n (ks := [0, 1, 2, 3]) rfl h
set_option maxRecDepth 10000 in
set_option maxHeartbeats 4000000 in
theorem s_183_27 {Lx : Nat} {I : Mi} {L : Ml} {e : Nat} {Q : Kq} {x1 : Int32} {x2 : Int32} {x3 : Int32} {x4 : Int32} {r : Int32} (h :
    (if r = 0 then
     Wp 183 2 [(0, .ref 1), (1, .int x1), (2, .int x2), (3, .int (x3 + Int32.ofInt 1))] [] (gE Lx) I L e Q
    else
     (if x4 = 0 then
      Wp 69 0 [(0, .ref 2), (1, .int x3)] [] (gE Lx) I (ul (ul (ul (ul L 16 0 (L 14 0)) 16 1 (L 14 1)) 16 2 (L 14 2)) 16 3 (L 14 3)) e (kcp (Wp 183) 183 64 0 [(0, .ref 1), (1, .int x1), (2, .int x2), (3, .int x3), (4, .int x4)] 71 [.int (Int32.ofInt 1), .ref 16] Q)
     else
      Wp 69 0 [(0, .ref 2), (1, .int x3)] [] (gE Lx) I (ul (ul (ul (ul L 16 0 (L 14 0)) 16 1 (L 14 1)) 16 2 (L 14 2)) 16 3 (L 14 3)) e (kcp (Wp 183) 183 64 0 [(0, .ref 1), (1, .int x1), (2, .int x2), (3, .int x3), (4, .int x4)] 71 [.int (Int32.ofInt 2), .ref 16] Q)))) :
    Wp 183 27 [(0, .ref 1), (1, .int x1), (2, .int x2), (3, .int x3), (4, .int x4)] [.int r] (gE Lx) I L e Q := by
  refine w_a f_183_27 ?_
  refine i_m (fun h => ?_) (fun h => ?_) h
  · refine w_a f_183_143 ?_
    refine w_a (ls := [(3, .int (x3 + Int32.ofInt 1)), (0, .ref 1), (1, .int x1), (2, .int x2), (4, .int x4)]) f_183_146 ?_
    exact w_n (ks := [0, 1, 2, 3]) rfl h
  · refine w_a f_183_30 ?_
    refine w_a f_183_31 ?_
    refine w_a f_183_34 ?_
    refine w_a f_183_35 ?_
    refine w_a f_183_38 ?_
    refine w_a (ls := [(0, .ref 16), (1, .ref 14)]) f_84_0 ?_
    refine w_a f_84_1 ?_
    refine w_a f_84_2 ?_
    refine w_a f_84_5 ?_
    refine w_a f_84_8 ?_
    refine w_a f_84_9 ?_
    refine w_a f_84_10 ?_
    refine w_a f_84_13 ?_
    refine w_a f_84_16 ?_
    refine w_a f_84_17 ?_
    refine w_a f_84_18 ?_
    refine w_a f_84_21 ?_
    refine w_a f_84_24 ?_
    refine w_a f_84_25 ?_
    refine w_a f_84_26 ?_
    refine w_a f_84_29 ?_
    refine w_a f_84_32 ?_
    refine w_a (ls := [(0, .ref 1), (1, .int x1), (2, .int x2), (3, .int x3), (4, .int x4)]) f_183_41 ?_
    refine w_a f_183_42 ?_
    refine w_a f_183_45 ?_
    refine w_a f_183_46 ?_
    refine w_a f_183_48 ?_
    refine i_m (fun h => ?_) (fun h => ?_) h
    · refine w_a f_183_51 ?_
      refine w_a f_183_52 ?_
      refine w_a f_183_56 ?_
      refine w_a (ls := [(0, .int (Int32.ofInt 0)), (1, .int (Int32.ofInt 1))]) f_146_0 ?_
      refine w_a f_146_1 ?_
      refine w_a f_146_14 ?_
      refine w_a f_146_15 ?_
      refine w_a f_146_18 ?_
      refine w_a f_146_19 ?_
      refine w_a f_146_23 ?_
      refine w_a (ls := [(0, .ref 1), (1, .int x1), (2, .int x2), (3, .int x3), (4, .int x4)]) f_183_59 ?_
      refine w_a f_183_60 ?_
      refine w_a f_183_63 ?_
      exact w_c (ks := [0, 1, 2, 3, 4]) f_183_64 rfl rfl h
    · refine w_a f_183_55 ?_
      refine w_a f_183_56 ?_
      refine w_a (ls := [(0, .int (Int32.ofInt 0)), (1, .int (Int32.ofInt 0))]) f_146_0 ?_
      refine w_a f_146_1 ?_
      refine w_a f_146_14 ?_
      refine w_a f_146_15 ?_
      refine w_a f_146_22 ?_
      refine w_a f_146_23 ?_
      refine w_a (ls := [(0, .ref 1), (1, .int x1), (2, .int x2), (3, .int x3), (4, .int x4)]) f_183_59 ?_
      refine w_a f_183_60 ?_
      refine w_a f_183_63 ?_
      exact w_c (ks := [0, 1, 2, 3, 4]) f_183_64 rfl rfl h
set_option maxRecDepth 10000 in
set_option maxHeartbeats 4000000 in
theorem s_183_67 {Lx : Nat} {I : Mi} {L : Ml} {e : Nat} {Q : Kq} {x1 : Int32} {x2 : Int32} {x3 : Int32} {x4 : Int32} {r1 : Int32} {r : Int32} (h :
    Wp 70 0 [(0, .ref 2), (1, .int x3)] [] (gE Lx) I L e (kcp (Wp 183) 183 73 0 [(0, .ref 1), (1, .int x1), (2, .int x2), (3, .int x3), (4, .int x4)] 71 [.long r.toInt64, .int r1, .ref 16] Q)) :
    Wp 183 67 [(0, .ref 1), (1, .int x1), (2, .int x2), (3, .int x3), (4, .int x4)] [.int r, .int r1, .ref 16] (gE Lx) I L e Q := by
  refine w_a f_183_67 ?_
  refine w_a f_183_68 ?_
  refine w_a f_183_69 ?_
  refine w_a f_183_72 ?_
  exact w_c (ks := [0, 1, 2, 3, 4]) f_183_73 rfl rfl h
set_option maxRecDepth 10000 in
set_option maxHeartbeats 4000000 in
theorem s_183_76 {Lx : Nat} {I : Mi} {L : Ml} {e : Nat} {Q : Kq} {x1 : Int32} {x2 : Int32} {x3 : Int32} {x4 : Int32} {r1 : Int32} {rl2 : Int64} {r : Int32} (h :
    Wp 75 0 [(0, .ref 16), (1, .int r1), (2, .long rl2), (4, .long r.toInt64)] [] (gE Lx) I L e (kcp (Wp 183) 183 77 0 [(0, .ref 1), (1, .int x1), (2, .int x2), (3, .int x3), (4, .int x4)] 71 [] Q)) :
    Wp 183 76 [(0, .ref 1), (1, .int x1), (2, .int x2), (3, .int x3), (4, .int x4)] [.int r, .long rl2, .int r1, .ref 16] (gE Lx) I L e Q := by
  refine w_a f_183_76 ?_
  exact w_c (ks := [0, 1, 2, 3, 4]) f_183_77 rfl rfl h
set_option maxRecDepth 10000 in
set_option maxHeartbeats 4000000 in
theorem s_183_80 {Lx : Nat} {I : Mi} {L : Ml} {e : Nat} {Q : Kq} {x1 : Int32} {x2 : Int32} {x3 : Int32} {x4 : Int32} (h :
    Wp 3 0 [(0, .ref 21), (1, .long ((((L 16 0) - (L 16 2)) * ((L 16 0) - (L 16 2))) + (((L 16 1) - (L 16 3)) * ((L 16 1) - (L 16 3))))), (3, .long ((((L 16 0) + (L 16 2)) * ((L 16 0) + (L 16 2))) + (((L 16 1) + (L 16 3)) * ((L 16 1) + (L 16 3))))), (5, .int (Int32.ofInt (-1)))] [] (gE Lx) I L e (kcp (Wp 2) 2 4 0 [(0, .ref 21)] 71 [] (kcp (Wp 183) 183 98 0 [(0, .ref 1), (1, .int x1), (2, .int x2), (3, .int x3), (4, .int x4)] 71 [] Q))) :
    Wp 183 80 [(0, .ref 1), (1, .int x1), (2, .int x2), (3, .int x3), (4, .int x4)] [] (gE Lx) I L e Q := by
  refine w_a f_183_80 ?_
  refine w_a f_183_81 ?_
  refine w_a f_183_84 ?_
  refine w_a f_183_85 ?_
  refine w_a f_183_88 ?_
  refine w_a (ls := [(0, .ref 16)]) f_78_0 ?_
  refine w_a f_78_1 ?_
  refine w_a f_78_4 ?_
  refine w_a f_78_5 ?_
  refine w_a f_78_8 ?_
  refine w_a f_78_9 ?_
  refine w_a (ls := [(1, .long ((L 16 0) - (L 16 2))), (0, .ref 16)]) f_78_10 ?_
  refine w_a f_78_11 ?_
  refine w_a f_78_14 ?_
  refine w_a f_78_15 ?_
  refine w_a f_78_18 ?_
  refine w_a f_78_19 ?_
  refine w_a (ls := [(3, .long ((L 16 1) - (L 16 3))), (1, .long ((L 16 0) - (L 16 2))), (0, .ref 16)]) f_78_20 ?_
  refine w_a f_78_21 ?_
  refine w_a f_78_22 ?_
  refine w_a f_78_23 ?_
  refine w_a f_78_24 ?_
  refine w_a f_78_25 ?_
  refine w_a f_78_26 ?_
  refine w_a f_78_27 ?_
  refine w_a (ls := [(0, .ref 1), (1, .int x1), (2, .int x2), (3, .int x3), (4, .int x4)]) f_183_91 ?_
  refine w_a f_183_92 ?_
  refine w_a f_183_95 ?_
  refine w_a (ls := [(0, .ref 16)]) f_79_0 ?_
  refine w_a f_79_1 ?_
  refine w_a f_79_4 ?_
  refine w_a f_79_5 ?_
  refine w_a f_79_8 ?_
  refine w_a f_79_9 ?_
  refine w_a (ls := [(1, .long ((L 16 0) + (L 16 2))), (0, .ref 16)]) f_79_10 ?_
  refine w_a f_79_11 ?_
  refine w_a f_79_14 ?_
  refine w_a f_79_15 ?_
  refine w_a f_79_18 ?_
  refine w_a f_79_19 ?_
  refine w_a (ls := [(3, .long ((L 16 1) + (L 16 3))), (1, .long ((L 16 0) + (L 16 2))), (0, .ref 16)]) f_79_20 ?_
  refine w_a f_79_21 ?_
  refine w_a f_79_22 ?_
  refine w_a f_79_23 ?_
  refine w_a f_79_24 ?_
  refine w_a f_79_25 ?_
  refine w_a f_79_26 ?_
  refine w_a f_79_27 ?_
  refine w_c (ls := [(0, .ref 1), (1, .int x1), (2, .int x2), (3, .int x3), (4, .int x4)]) (ks := [0, 1, 2, 3, 4]) f_183_98 rfl rfl ?_
  refine w_a (ls := [(0, .ref 21), (1, .long ((((L 16 0) - (L 16 2)) * ((L 16 0) - (L 16 2))) + (((L 16 1) - (L 16 3)) * ((L 16 1) - (L 16 3))))), (3, .long ((((L 16 0) + (L 16 2)) * ((L 16 0) + (L 16 2))) + (((L 16 1) + (L 16 3)) * ((L 16 1) + (L 16 3)))))]) f_2_0 ?_
  refine w_a f_2_1 ?_
  refine w_a f_2_2 ?_
  refine w_a f_2_3 ?_
  exact w_c (ks := [0]) f_2_4 rfl rfl h
set_option maxRecDepth 10000 in
set_option maxHeartbeats 4000000 in
theorem s_183_101 {Lx : Nat} {I : Mi} {L : Ml} {e : Nat} {Q : Kq} {x1 : Int32} {x2 : Int32} {x3 : Int32} {x4 : Int32} {r : Int32} (h :
    (if r = 0 then
     Wp 183 12 [(0, .ref 1), (1, .int x1), (2, .int x2), (3, .int x3), (4, .int (x4 + Int32.ofInt 1))] [] (gE Lx) I L e Q
    else
     (if x4 = 0 then
      Wp 183 12 [(0, .ref 1), (1, .int x1), (2, .int x2), (3, .int x3), (4, .int (x4 + Int32.ofInt 1))] [] (gE Lx) (ui (ui (ui I 21 4 x1) 21 5 x3) 21 6 (Int32.ofInt 1)) L e Q
     else
      Wp 183 12 [(0, .ref 1), (1, .int x1), (2, .int x2), (3, .int x3), (4, .int (x4 + Int32.ofInt 1))] [] (gE Lx) (ui (ui (ui I 21 4 x1) 21 5 x3) 21 6 (Int32.ofInt 0)) L e Q))) :
    Wp 183 101 [(0, .ref 1), (1, .int x1), (2, .int x2), (3, .int x3), (4, .int x4)] [.int r] (gE Lx) I L e Q := by
  refine w_a f_183_101 ?_
  refine i_m (fun h => ?_) (fun h => ?_) h
  · refine w_a f_183_137 ?_
    refine w_a (ls := [(4, .int (x4 + Int32.ofInt 1)), (0, .ref 1), (1, .int x1), (2, .int x2), (3, .int x3)]) f_183_140 ?_
    exact w_n (ks := [0, 1, 2, 3, 4]) rfl h
  · refine w_a f_183_104 ?_
    refine w_a f_183_105 ?_
    refine w_a f_183_108 ?_
    refine w_a f_183_109 ?_
    refine w_a f_183_112 ?_
    refine w_a f_183_113 ?_
    refine w_a f_183_116 ?_
    refine w_a f_183_117 ?_
    refine w_a f_183_120 ?_
    refine w_a f_183_121 ?_
    refine w_a f_183_124 ?_
    refine w_a f_183_126 ?_
    refine i_m (fun h => ?_) (fun h => ?_) h
    · refine w_a f_183_129 ?_
      refine w_a f_183_130 ?_
      refine w_a f_183_134 ?_
      refine w_a f_183_137 ?_
      refine w_a (ls := [(4, .int (x4 + Int32.ofInt 1)), (0, .ref 1), (1, .int x1), (2, .int x2), (3, .int x3)]) f_183_140 ?_
      exact w_n (ks := [0, 1, 2, 3, 4]) rfl h
    · refine w_a f_183_133 ?_
      refine w_a f_183_134 ?_
      refine w_a f_183_137 ?_
      refine w_a (ls := [(4, .int (x4 + Int32.ofInt 1)), (0, .ref 1), (1, .int x1), (2, .int x2), (3, .int x3)]) f_183_140 ?_
      exact w_n (ks := [0, 1, 2, 3, 4]) rfl h
set_option maxRecDepth 10000 in
set_option maxHeartbeats 4000000 in
theorem s_184_12 {Lx : Nat} {I : Mi} {L : Ml} {e : Nat} {Q : Kq} {x1 : Int32} {x2 : Int32} {x3 : Int32} {x4 : Int32} {x5 : Int32} {x6 : Int32} (h :
    Wp 136 0 [(0, .ref 1), (1, .int x1)] [] (gE Lx) I L e (kcp (Wp 148) 148 2 0 [(0, .ref 1), (2, .int x2)] 71 [] (kcp (Wp 186) 186 3 0 [(0, .ref 1), (2, .int x2), (3, .int x3), (4, .int x4), (5, .int x5), (6, .int x6)] 71 [] (kcp (Wp 184) 184 22 0 [(0, .ref 1)] 71 [] Q)))) :
    Wp 184 12 [(0, .ref 1), (1, .int x1), (2, .int x2), (3, .int x3), (4, .int x4), (5, .int x5), (6, .int x6)] [] (gE Lx) I L e Q := by
  refine w_a f_184_12 ?_
  refine w_a f_184_13 ?_
  refine w_a f_184_14 ?_
  refine w_a f_184_15 ?_
  refine w_a f_184_16 ?_
  refine w_a f_184_18 ?_
  refine w_a f_184_20 ?_
  refine w_c (ks := [0]) f_184_22 rfl rfl ?_
  refine w_a (ls := [(0, .ref 1), (1, .int x1), (2, .int x2), (3, .int x3), (4, .int x4), (5, .int x5), (6, .int x6)]) f_186_0 ?_
  refine w_a f_186_1 ?_
  refine w_a f_186_2 ?_
  refine w_c (ks := [0, 2, 3, 4, 5, 6]) f_186_3 rfl rfl ?_
  refine w_a (ls := [(0, .ref 1), (1, .int x1), (2, .int x2)]) f_148_0 ?_
  refine w_a f_148_1 ?_
  exact w_c (ks := [0, 2]) f_148_2 rfl rfl h
set_option maxRecDepth 10000 in
set_option maxHeartbeats 4000000 in
theorem s_184_25 {Lx : Nat} {I : Mi} {L : Ml} {e : Nat} {Q : Kq} (h :
    Q (.inl (some (.int (I 20 0)))) (gE Lx) I L e) :
    Wp 184 25 [(0, .ref 1)] [] (gE Lx) I L e Q := by
  refine w_a f_184_25 ?_
  refine w_a f_184_26 ?_
  refine w_a f_184_29 ?_
  refine w_a f_184_32 ?_
  exact h
set_option maxRecDepth 10000 in
set_option maxHeartbeats 4000000 in
theorem s_185_11 {Lx : Nat} {I : Mi} {L : Ml} {e : Nat} {Q : Kq} {x4 : Int32} {x5 : Int32} (h :
    (if x4 < (Int32.ofInt (-99)) then
     Q (.inr 101) (gE Lx) I L (e + 1)
    else
     (if (Int32.ofInt 99) < x4 then
      Q (.inr 101) (gE Lx) I L (e + 1)
     else
      (if x5 < (Int32.ofInt 1) then
       Q (.inr 101) (gE Lx) I L (e + 1)
      else
       (if (Int32.ofInt 20) < x5 then
        Q (.inr 101) (gE Lx) I L (e + 1)
       else
        Q (.inl none) (gE Lx) I L e))))) :
    Wp 185 11 [(0, .ref 1), (4, .int x4), (5, .int x5)] [] (gE Lx) I L e Q := by
  refine w_a f_185_11 ?_
  refine w_a f_185_13 ?_
  refine w_a f_185_15 ?_
  refine i_m (fun h => ?_) (fun h => ?_) h
  · refine w_a f_185_38 ?_
    exact h
  · refine w_a f_185_18 ?_
    refine w_a f_185_20 ?_
    refine w_a f_185_22 ?_
    refine i_m (fun h => ?_) (fun h => ?_) h
    · refine w_a f_185_38 ?_
      exact h
    · refine w_a f_185_25 ?_
      refine w_a f_185_27 ?_
      refine w_a f_185_28 ?_
      refine i_m (fun h => ?_) (fun h => ?_) h
      · refine w_a f_185_38 ?_
        exact h
      · refine w_a f_185_31 ?_
        refine w_a f_185_33 ?_
        refine w_a f_185_35 ?_
        refine i_m (fun h => ?_) (fun h => ?_) h
        · refine w_a f_185_38 ?_
          exact h
        · refine w_a f_185_46 ?_
          exact h
set_option maxRecDepth 10000 in
set_option maxHeartbeats 4000000 in
theorem s_186_6 {Lx : Nat} {I : Mi} {L : Ml} {e : Nat} {Q : Kq} {x2 : Int32} {x3 : Int32} {x4 : Int32} {x5 : Int32} {x6 : Int32} (h :
    (if x2 = 0 then
     (if (L 17 0) = (Int64.ofInt 0) then
      (if (L 17 1) = (Int64.ofInt 0) then
       Wp 76 0 [(0, .ref 14), (1, .long x3.toInt64), (3, .long x4.toInt64)] [] (gE Lx) I (ul (ul (ul (ul L 14 0 (L 17 0)) 14 1 (L 17 1)) 14 2 (L 17 2)) 14 3 (Int64.ofInt 0)) e (kcp (Wp 186) 186 37 0 [(0, .ref 1), (2, .int x2), (3, .int x3), (4, .int x4)] 71 [] Q)
      else
       Wp 76 0 [(0, .ref 14), (1, .long x3.toInt64), (3, .long x4.toInt64)] [] (gE Lx) I (ul (ul (ul (ul (ul (ul (ul (ul L 14 0 (L 17 0)) 14 1 (L 17 1)) 14 2 (L 17 2)) 14 3 (Int64.ofInt 0)) 14 3 ((Int64.ofInt 0) + (x5.toInt64 * (L 17 0)))) 14 2 ((x6.toInt64 * (L 17 2)) - (x5.toInt64 * (L 17 1)))) 14 0 (x6.toInt64 * (L 17 0))) 14 1 (x6.toInt64 * (L 17 1))) e (kcp (Wp 186) 186 37 0 [(0, .ref 1), (2, .int x2), (3, .int x3), (4, .int x4)] 71 [] Q))
     else
      Wp 76 0 [(0, .ref 14), (1, .long x3.toInt64), (3, .long x4.toInt64)] [] (gE Lx) I (ul (ul (ul (ul (ul (ul (ul (ul L 14 0 (L 17 0)) 14 1 (L 17 1)) 14 2 (L 17 2)) 14 3 (Int64.ofInt 0)) 14 3 ((Int64.ofInt 0) + (x5.toInt64 * (L 17 0)))) 14 2 ((x6.toInt64 * (L 17 2)) - (x5.toInt64 * (L 17 1)))) 14 0 (x6.toInt64 * (L 17 0))) 14 1 (x6.toInt64 * (L 17 1))) e (kcp (Wp 186) 186 37 0 [(0, .ref 1), (2, .int x2), (3, .int x3), (4, .int x4)] 71 [] Q))
    else
     (if (L 17 2) = (Int64.ofInt 0) then
      Wp 76 0 [(0, .ref 14), (1, .long x3.toInt64), (3, .long x4.toInt64)] [] (gE Lx) I (ul (ul (ul (ul L 14 0 (L 17 0)) 14 1 (L 17 1)) 14 2 (L 17 2)) 14 3 (Int64.ofInt 0)) e (kcp (Wp 186) 186 37 0 [(0, .ref 1), (2, .int x2), (3, .int x3), (4, .int x4)] 71 [] Q)
     else
      Wp 76 0 [(0, .ref 14), (1, .long x3.toInt64), (3, .long x4.toInt64)] [] (gE Lx) I (ul (ul (ul (ul (ul (ul (ul (ul L 14 0 (L 17 0)) 14 1 (L 17 1)) 14 2 (L 17 2)) 14 3 (Int64.ofInt 0)) 14 1 ((x6.toInt64 * (L 17 1)) + (x5.toInt64 * (L 17 2)))) 14 0 ((x6.toInt64 * (L 17 0)) - (Int64.ofInt 0))) 14 2 (x6.toInt64 * (L 17 2))) 14 3 (Int64.ofInt 0)) e (kcp (Wp 186) 186 37 0 [(0, .ref 1), (2, .int x2), (3, .int x3), (4, .int x4)] 71 [] Q)))) :
    Wp 186 6 [(0, .ref 1), (2, .int x2), (3, .int x3), (4, .int x4), (5, .int x5), (6, .int x6)] [] (gE Lx) I L e Q := by
  refine w_a f_186_6 ?_
  refine w_a f_186_7 ?_
  refine w_a f_186_8 ?_
  refine w_a f_186_11 ?_
  refine w_a (ls := [(0, .ref 1), (1, .ref 14)]) f_157_0 ?_
  refine w_a f_157_1 ?_
  refine w_a f_157_2 ?_
  refine w_a f_157_5 ?_
  refine w_a f_157_8 ?_
  refine w_a f_157_9 ?_
  refine w_a f_157_12 ?_
  refine w_a f_157_15 ?_
  refine w_a f_157_16 ?_
  refine w_a f_157_19 ?_
  refine w_a f_157_22 ?_
  refine w_a (ls := [(0, .ref 14), (1, .long (L 17 0)), (3, .long (L 17 1)), (5, .long (L 17 2))]) f_74_0 ?_
  refine w_a f_74_1 ?_
  refine w_a f_74_2 ?_
  refine w_a f_74_5 ?_
  refine w_a f_74_6 ?_
  refine w_a f_74_7 ?_
  refine w_a f_74_10 ?_
  refine w_a f_74_11 ?_
  refine w_a f_74_13 ?_
  refine w_a f_74_16 ?_
  refine w_a f_74_17 ?_
  refine w_a f_74_18 ?_
  refine w_a f_74_21 ?_
  refine w_a (ls := [(0, .ref 1), (1, .ref 14)]) f_157_25 ?_
  refine w_a (ls := [(0, .ref 1), (2, .int x2), (3, .int x3), (4, .int x4), (5, .int x5), (6, .int x6)]) f_186_14 ?_
  refine w_a f_186_15 ?_
  refine w_a f_186_18 ?_
  refine w_a f_186_19 ?_
  refine w_a f_186_21 ?_
  refine w_a f_186_22 ?_
  refine w_a f_186_24 ?_
  refine w_a f_186_25 ?_
  refine w_a (ls := [(0, .ref 14), (1, .int x2), (2, .long x5.toInt64), (4, .long x6.toInt64)]) f_77_0 ?_
  refine w_a f_77_1 ?_
  refine i_m (fun h => ?_) (fun h => ?_) h
  · refine w_a f_77_88 ?_
    refine w_a f_77_89 ?_
    refine w_a f_77_92 ?_
    refine w_a f_77_93 ?_
    refine i_m (fun h => ?_) (fun h => ?_) h
    · refine w_a f_77_97 ?_
      refine w_a f_77_98 ?_
      refine w_a f_77_101 ?_
      refine w_a f_77_102 ?_
      refine i_m (fun h => ?_) (fun h => ?_) h
      · refine w_a f_77_106 ?_
        refine w_a (ls := [(0, .ref 1), (2, .int x2), (3, .int x3), (4, .int x4), (5, .int x5), (6, .int x6)]) f_186_28 ?_
        refine w_a f_186_29 ?_
        refine w_a f_186_32 ?_
        refine w_a f_186_33 ?_
        refine w_a f_186_34 ?_
        refine w_a f_186_36 ?_
        exact w_c (ks := [0, 2, 3, 4]) f_186_37 rfl rfl h
      · refine w_a f_77_107 ?_
        refine w_a f_77_109 ?_
        refine w_a f_77_110 ?_
        refine w_a f_77_113 ?_
        refine w_a f_77_114 ?_
        refine w_a f_77_115 ?_
        refine w_a f_77_116 ?_
        refine w_a f_77_119 ?_
        refine w_a f_77_120 ?_
        refine w_a f_77_121 ?_
        refine w_a (ls := [(6, .long ((x6.toInt64 * (L 17 2)) - (x5.toInt64 * (L 17 1)))), (0, .ref 14), (1, .int x2), (2, .long x5.toInt64), (4, .long x6.toInt64)]) f_77_123 ?_
        refine w_a f_77_124 ?_
        refine w_a f_77_126 ?_
        refine w_a f_77_127 ?_
        refine w_a f_77_130 ?_
        refine w_a f_77_131 ?_
        refine w_a f_77_132 ?_
        refine w_a f_77_133 ?_
        refine w_a f_77_136 ?_
        refine w_a f_77_137 ?_
        refine w_a f_77_138 ?_
        refine w_a f_77_141 ?_
        refine w_a f_77_142 ?_
        refine w_a f_77_144 ?_
        refine w_a f_77_147 ?_
        refine w_a f_77_148 ?_
        refine w_a f_77_150 ?_
        refine w_a f_77_151 ?_
        refine w_a f_77_154 ?_
        refine w_a f_77_155 ?_
        refine w_a f_77_158 ?_
        refine w_a f_77_159 ?_
        refine w_a f_77_161 ?_
        refine w_a f_77_162 ?_
        refine w_a f_77_165 ?_
        refine w_a f_77_166 ?_
        refine w_a f_77_169 ?_
        refine w_a (ls := [(0, .ref 1), (2, .int x2), (3, .int x3), (4, .int x4), (5, .int x5), (6, .int x6)]) f_186_28 ?_
        refine w_a f_186_29 ?_
        refine w_a f_186_32 ?_
        refine w_a f_186_33 ?_
        refine w_a f_186_34 ?_
        refine w_a f_186_36 ?_
        exact w_c (ks := [0, 2, 3, 4]) f_186_37 rfl rfl h
    · refine w_a f_77_107 ?_
      refine w_a f_77_109 ?_
      refine w_a f_77_110 ?_
      refine w_a f_77_113 ?_
      refine w_a f_77_114 ?_
      refine w_a f_77_115 ?_
      refine w_a f_77_116 ?_
      refine w_a f_77_119 ?_
      refine w_a f_77_120 ?_
      refine w_a f_77_121 ?_
      refine w_a (ls := [(6, .long ((x6.toInt64 * (L 17 2)) - (x5.toInt64 * (L 17 1)))), (0, .ref 14), (1, .int x2), (2, .long x5.toInt64), (4, .long x6.toInt64)]) f_77_123 ?_
      refine w_a f_77_124 ?_
      refine w_a f_77_126 ?_
      refine w_a f_77_127 ?_
      refine w_a f_77_130 ?_
      refine w_a f_77_131 ?_
      refine w_a f_77_132 ?_
      refine w_a f_77_133 ?_
      refine w_a f_77_136 ?_
      refine w_a f_77_137 ?_
      refine w_a f_77_138 ?_
      refine w_a f_77_141 ?_
      refine w_a f_77_142 ?_
      refine w_a f_77_144 ?_
      refine w_a f_77_147 ?_
      refine w_a f_77_148 ?_
      refine w_a f_77_150 ?_
      refine w_a f_77_151 ?_
      refine w_a f_77_154 ?_
      refine w_a f_77_155 ?_
      refine w_a f_77_158 ?_
      refine w_a f_77_159 ?_
      refine w_a f_77_161 ?_
      refine w_a f_77_162 ?_
      refine w_a f_77_165 ?_
      refine w_a f_77_166 ?_
      refine w_a f_77_169 ?_
      refine w_a (ls := [(0, .ref 1), (2, .int x2), (3, .int x3), (4, .int x4), (5, .int x5), (6, .int x6)]) f_186_28 ?_
      refine w_a f_186_29 ?_
      refine w_a f_186_32 ?_
      refine w_a f_186_33 ?_
      refine w_a f_186_34 ?_
      refine w_a f_186_36 ?_
      exact w_c (ks := [0, 2, 3, 4]) f_186_37 rfl rfl h
  · refine w_a f_77_4 ?_
    refine w_a f_77_5 ?_
    refine w_a f_77_8 ?_
    refine w_a f_77_9 ?_
    refine i_m (fun h => ?_) (fun h => ?_) h
    · refine w_a f_77_13 ?_
      refine w_a f_77_14 ?_
      refine w_a f_77_17 ?_
      refine w_a f_77_18 ?_
      refine w_a f_77_22 ?_
      refine w_a (ls := [(0, .ref 1), (2, .int x2), (3, .int x3), (4, .int x4), (5, .int x5), (6, .int x6)]) f_186_28 ?_
      refine w_a f_186_29 ?_
      refine w_a f_186_32 ?_
      refine w_a f_186_33 ?_
      refine w_a f_186_34 ?_
      refine w_a f_186_36 ?_
      exact w_c (ks := [0, 2, 3, 4]) f_186_37 rfl rfl h
    · refine w_a f_77_23 ?_
      refine w_a f_77_25 ?_
      refine w_a f_77_26 ?_
      refine w_a f_77_29 ?_
      refine w_a f_77_30 ?_
      refine w_a f_77_31 ?_
      refine w_a f_77_32 ?_
      refine w_a f_77_35 ?_
      refine w_a f_77_36 ?_
      refine w_a f_77_37 ?_
      refine w_a (ls := [(6, .long ((x6.toInt64 * (L 17 0)) - (Int64.ofInt 0))), (0, .ref 14), (1, .int x2), (2, .long x5.toInt64), (4, .long x6.toInt64)]) f_77_39 ?_
      refine w_a f_77_40 ?_
      refine w_a f_77_42 ?_
      refine w_a f_77_43 ?_
      refine w_a f_77_46 ?_
      refine w_a f_77_47 ?_
      refine w_a f_77_48 ?_
      refine w_a f_77_49 ?_
      refine w_a f_77_52 ?_
      refine w_a f_77_53 ?_
      refine w_a f_77_54 ?_
      refine w_a f_77_57 ?_
      refine w_a f_77_58 ?_
      refine w_a f_77_60 ?_
      refine w_a f_77_63 ?_
      refine w_a f_77_64 ?_
      refine w_a f_77_66 ?_
      refine w_a f_77_67 ?_
      refine w_a f_77_70 ?_
      refine w_a f_77_71 ?_
      refine w_a f_77_74 ?_
      refine w_a f_77_75 ?_
      refine w_a f_77_77 ?_
      refine w_a f_77_78 ?_
      refine w_a f_77_81 ?_
      refine w_a f_77_82 ?_
      refine w_a f_77_85 ?_
      refine w_a f_77_169 ?_
      refine w_a (ls := [(0, .ref 1), (2, .int x2), (3, .int x3), (4, .int x4), (5, .int x5), (6, .int x6)]) f_186_28 ?_
      refine w_a f_186_29 ?_
      refine w_a f_186_32 ?_
      refine w_a f_186_33 ?_
      refine w_a f_186_34 ?_
      refine w_a f_186_36 ?_
      exact w_c (ks := [0, 2, 3, 4]) f_186_37 rfl rfl h
set_option maxRecDepth 10000 in
set_option maxHeartbeats 4000000 in
theorem s_186_40 {Lx : Nat} {I : Mi} {L : Ml} {e : Nat} {Q : Kq} {x2 : Int32} {x3 : Int32} {x4 : Int32} (h :
    Wp 53 0 [(0, .ref 17), (1, .long (((L 14 0) * (L 14 2)) + ((L 14 1) * (L 14 3)))), (3, .long (((L 14 1) * (L 14 2)) - ((L 14 0) * (L 14 3)))), (5, .long (((L 14 2) * (L 14 2)) + ((L 14 3) * (L 14 3))))] [] (gE Lx) I L e (kcp (Wp 52) 52 13 0 [(0, .ref 17), (1, .ref 14)] 71 [] (kcp (Wp 186) 186 48 0 [(0, .ref 1), (2, .int x2), (3, .int x3), (4, .int x4)] 71 [] Q))) :
    Wp 186 40 [(0, .ref 1), (2, .int x2), (3, .int x3), (4, .int x4)] [] (gE Lx) I L e Q := by
  refine w_a f_186_40 ?_
  refine w_a f_186_41 ?_
  refine w_a f_186_44 ?_
  refine w_a f_186_45 ?_
  refine w_c (ks := [0, 2, 3, 4]) f_186_48 rfl rfl ?_
  refine w_a (ls := [(0, .ref 17), (1, .ref 14)]) f_52_0 ?_
  refine w_a f_52_1 ?_
  refine w_a f_52_2 ?_
  refine w_a (ls := [(0, .ref 14)]) f_82_0 ?_
  refine w_a f_82_1 ?_
  refine w_a f_82_4 ?_
  refine w_a f_82_5 ?_
  refine w_a f_82_8 ?_
  refine w_a f_82_9 ?_
  refine w_a f_82_10 ?_
  refine w_a f_82_13 ?_
  refine w_a f_82_14 ?_
  refine w_a f_82_17 ?_
  refine w_a f_82_18 ?_
  refine w_a f_82_19 ?_
  refine w_a (ls := [(0, .ref 17), (1, .ref 14)]) f_52_5 ?_
  refine w_a f_52_6 ?_
  refine w_a (ls := [(0, .ref 14)]) f_81_0 ?_
  refine w_a f_81_1 ?_
  refine w_a f_81_4 ?_
  refine w_a f_81_5 ?_
  refine w_a f_81_8 ?_
  refine w_a f_81_9 ?_
  refine w_a f_81_10 ?_
  refine w_a f_81_13 ?_
  refine w_a f_81_14 ?_
  refine w_a f_81_17 ?_
  refine w_a f_81_18 ?_
  refine w_a f_81_19 ?_
  refine w_a (ls := [(0, .ref 17), (1, .ref 14)]) f_52_9 ?_
  refine w_a f_52_10 ?_
  refine w_a (ls := [(0, .ref 14)]) f_83_0 ?_
  refine w_a f_83_1 ?_
  refine w_a f_83_4 ?_
  refine w_a f_83_5 ?_
  refine w_a f_83_8 ?_
  refine w_a f_83_9 ?_
  refine w_a f_83_10 ?_
  refine w_a f_83_13 ?_
  refine w_a f_83_14 ?_
  refine w_a f_83_17 ?_
  refine w_a f_83_18 ?_
  refine w_a f_83_19 ?_
  exact w_c (ls := [(0, .ref 17), (1, .ref 14)]) (ks := [0, 1]) f_52_13 rfl rfl h
set_option maxRecDepth 10000 in
set_option maxHeartbeats 4000000 in
theorem s_186_51 {Lx : Nat} {I : Mi} {L : Ml} {e : Nat} {Q : Kq} {x2 : Int32} {x3 : Int32} {x4 : Int32} {r : Int32} (h :
    (if r = 0 then
     Q (.inr 102) (gE Lx) I L (e + 1)
    else
     (if x2 = 0 then
      (if (L 17 0) = (Int64.ofInt 0) then
       (if (L 17 1) = (Int64.ofInt 0) then
        Q (.inr 102) (gE Lx) I L (e + 1)
       else
        Wp 34 0 [(0, .ref 20), (1, .ref 17), (2, .int x2), (3, .int x3), (4, .int x4)] [] (gE Lx) I L e (kcp (Wp 186) 186 79 0 [(0, .ref 1)] 71 [] Q))
      else
       Wp 34 0 [(0, .ref 20), (1, .ref 17), (2, .int x2), (3, .int x3), (4, .int x4)] [] (gE Lx) I L e (kcp (Wp 186) 186 79 0 [(0, .ref 1)] 71 [] Q))
     else
      Wp 34 0 [(0, .ref 20), (1, .ref 17), (2, .int x2), (3, .int x3), (4, .int x4)] [] (gE Lx) I L e (kcp (Wp 186) 186 79 0 [(0, .ref 1)] 71 [] Q)))) :
    Wp 186 51 [(0, .ref 1), (2, .int x2), (3, .int x3), (4, .int x4)] [.int r] (gE Lx) I L e Q := by
  refine w_a f_186_51 ?_
  refine i_m (fun h => ?_) (fun h => ?_) h
  · refine w_a f_186_54 ?_
    exact h
  · refine w_a f_186_62 ?_
    refine w_a f_186_63 ?_
    refine w_a f_186_64 ?_
    refine w_a (ls := [(0, .ref 1), (1, .int x2)]) f_149_0 ?_
    refine w_a f_149_1 ?_
    refine i_m (fun h => ?_) (fun h => ?_) h
    · refine w_a f_149_4 ?_
      refine w_a f_149_5 ?_
      refine w_a f_149_8 ?_
      refine w_a (ls := [(0, .ref 17)]) f_56_0 ?_
      refine w_a f_56_1 ?_
      refine w_a f_56_4 ?_
      refine w_a f_56_5 ?_
      refine i_m (fun h => ?_) (fun h => ?_) h
      · refine w_a f_56_9 ?_
        refine w_a f_56_10 ?_
        refine w_a f_56_13 ?_
        refine w_a f_56_14 ?_
        refine i_m (fun h => ?_) (fun h => ?_) h
        · refine w_a f_56_18 ?_
          refine w_a f_56_19 ?_
          refine w_a f_56_23 ?_
          refine w_a (ls := [(0, .ref 1), (1, .int x2)]) f_149_11 ?_
          refine w_a f_149_14 ?_
          exact h
        · refine w_a f_56_22 ?_
          refine w_a f_56_23 ?_
          refine w_a (ls := [(0, .ref 1), (1, .int x2)]) f_149_11 ?_
          refine w_a f_149_22 ?_
          refine w_a (ls := [(0, .ref 1), (2, .int x2), (3, .int x3), (4, .int x4)]) f_186_67 ?_
          refine w_a f_186_68 ?_
          refine w_a f_186_71 ?_
          refine w_a f_186_72 ?_
          refine w_a f_186_75 ?_
          refine w_a f_186_76 ?_
          refine w_a f_186_77 ?_
          exact w_c (ks := [0]) f_186_79 rfl rfl h
      · refine w_a f_56_22 ?_
        refine w_a f_56_23 ?_
        refine w_a (ls := [(0, .ref 1), (1, .int x2)]) f_149_11 ?_
        refine w_a f_149_22 ?_
        refine w_a (ls := [(0, .ref 1), (2, .int x2), (3, .int x3), (4, .int x4)]) f_186_67 ?_
        refine w_a f_186_68 ?_
        refine w_a f_186_71 ?_
        refine w_a f_186_72 ?_
        refine w_a f_186_75 ?_
        refine w_a f_186_76 ?_
        refine w_a f_186_77 ?_
        exact w_c (ks := [0]) f_186_79 rfl rfl h
    · refine w_a f_149_22 ?_
      refine w_a (ls := [(0, .ref 1), (2, .int x2), (3, .int x3), (4, .int x4)]) f_186_67 ?_
      refine w_a f_186_68 ?_
      refine w_a f_186_71 ?_
      refine w_a f_186_72 ?_
      refine w_a f_186_75 ?_
      refine w_a f_186_76 ?_
      refine w_a f_186_77 ?_
      exact w_c (ks := [0]) f_186_79 rfl rfl h
set_option maxRecDepth 10000 in
set_option maxHeartbeats 4000000 in
theorem s_186_82 {Lx : Nat} {I : Mi} {L : Ml} {e : Nat} {Q : Kq} (h :
    Q (.inl none) (gE Lx) I L e) :
    Wp 186 82 [(0, .ref 1)] [] (gE Lx) I L e Q := by
  refine w_a f_186_82 ?_
  exact h
set_option maxRecDepth 10000 in
set_option maxHeartbeats 4000000 in
theorem s_187_12 {Lx : Nat} {I : Mi} {L : Ml} {e : Nat} {Q : Kq} {x1 : Int32} {x2 : Int32} {x3 : Int32} {x4 : Int32} {x5 : Int32} {x6 : Int32} {x7 : Int32} {x8 : Int32} {x9 : Int32} (h :
    Wp 136 0 [(0, .ref 1), (1, .int x1)] [] (gE Lx) I L e (kcp (Wp 148) 148 2 0 [(0, .ref 1), (2, .int x2)] 71 [] (kcp (Wp 186) 186 3 0 [(0, .ref 1), (2, .int x2), (3, .int x3), (4, .int x4), (5, .int x5), (6, .int x6)] 71 [] (kcp (Wp 187) 187 22 0 [(0, .ref 1), (7, .int x7), (8, .int x8), (9, .int x9)] 71 [] Q)))) :
    Wp 187 12 [(0, .ref 1), (1, .int x1), (2, .int x2), (3, .int x3), (4, .int x4), (5, .int x5), (6, .int x6), (7, .int x7), (8, .int x8), (9, .int x9)] [] (gE Lx) I L e Q := by
  refine w_a f_187_12 ?_
  refine w_a f_187_13 ?_
  refine w_a f_187_14 ?_
  refine w_a f_187_15 ?_
  refine w_a f_187_16 ?_
  refine w_a f_187_18 ?_
  refine w_a f_187_20 ?_
  refine w_c (ks := [0, 7, 8, 9]) f_187_22 rfl rfl ?_
  refine w_a (ls := [(0, .ref 1), (1, .int x1), (2, .int x2), (3, .int x3), (4, .int x4), (5, .int x5), (6, .int x6)]) f_186_0 ?_
  refine w_a f_186_1 ?_
  refine w_a f_186_2 ?_
  refine w_c (ks := [0, 2, 3, 4, 5, 6]) f_186_3 rfl rfl ?_
  refine w_a (ls := [(0, .ref 1), (1, .int x1), (2, .int x2)]) f_148_0 ?_
  refine w_a f_148_1 ?_
  exact w_c (ks := [0, 2]) f_148_2 rfl rfl h
set_option maxRecDepth 10000 in
set_option maxHeartbeats 4000000 in
theorem s_187_25 {Lx : Nat} {I : Mi} {L : Ml} {e : Nat} {Q : Kq} {x7 : Int32} {x8 : Int32} {x9 : Int32} (h :
    (if x7 < 0 then
     Q (.inr 102) (gE Lx) I L (e + 1)
    else
     (if x7 < (I 20 0) then
      (if (I 20 1) = 0 then
       Q (.inr 102) (gE Lx) I L (e + 1)
      else
       (if x8 = 0 then
        (if x7 = 0 then
         (if (Int64.ofInt 0) < (L 20 6) then
          Wp 25 0 [(0, .ref 18), (1, .long ((((L 20 3) * (L 20 7)) + (-(L 20 5))) - ((L 20 4) * (L 20 6)))), (3, .long ((L 20 3) * (L 20 6)))] [] (gE Lx) I L e (kcp (Wp 37) 37 35 0 [(0, .ref 20), (2, .ref 18)] 71 [] (kcp (Wp 154) 154 61 0 [(0, .ref 1), (3, .int x9)] 71 [] (kcp (Wp 187) 187 32 0 [(0, .ref 1)] 71 [] Q)))
         else
          Wp 25 0 [(0, .ref 18), (1, .long ((((L 20 3) * (L 20 7)) + (L 20 5)) - ((L 20 4) * (L 20 6)))), (3, .long ((L 20 3) * (L 20 6)))] [] (gE Lx) I L e (kcp (Wp 37) 37 35 0 [(0, .ref 20), (2, .ref 18)] 71 [] (kcp (Wp 154) 154 61 0 [(0, .ref 1), (3, .int x9)] 71 [] (kcp (Wp 187) 187 32 0 [(0, .ref 1)] 71 [] Q))))
        else
         (if (Int64.ofInt 0) < (L 20 6) then
          Wp 25 0 [(0, .ref 18), (1, .long ((((L 20 3) * (L 20 7)) + (L 20 5)) - ((L 20 4) * (L 20 6)))), (3, .long ((L 20 3) * (L 20 6)))] [] (gE Lx) I L e (kcp (Wp 37) 37 35 0 [(0, .ref 20), (2, .ref 18)] 71 [] (kcp (Wp 154) 154 61 0 [(0, .ref 1), (3, .int x9)] 71 [] (kcp (Wp 187) 187 32 0 [(0, .ref 1)] 71 [] Q)))
         else
          Wp 25 0 [(0, .ref 18), (1, .long ((((L 20 3) * (L 20 7)) + (-(L 20 5))) - ((L 20 4) * (L 20 6)))), (3, .long ((L 20 3) * (L 20 6)))] [] (gE Lx) I L e (kcp (Wp 37) 37 35 0 [(0, .ref 20), (2, .ref 18)] 71 [] (kcp (Wp 154) 154 61 0 [(0, .ref 1), (3, .int x9)] 71 [] (kcp (Wp 187) 187 32 0 [(0, .ref 1)] 71 [] Q)))))
       else
        (if x7 = 0 then
         (if (Int64.ofInt 0) < (L 20 6) then
          Wp 25 0 [(0, .ref 18), (1, .long (((L 20 2) * (L 20 7)) + (-(L 20 5)))), (3, .long ((L 20 2) * (L 20 6)))] [] (gE Lx) I L e (kcp (Wp 35) 35 25 0 [(0, .ref 20), (2, .ref 18)] 71 [] (kcp (Wp 154) 154 46 0 [(0, .ref 1), (3, .int x9)] 71 [] (kcp (Wp 187) 187 32 0 [(0, .ref 1)] 71 [] Q)))
         else
          Wp 25 0 [(0, .ref 18), (1, .long (((L 20 2) * (L 20 7)) + (L 20 5))), (3, .long ((L 20 2) * (L 20 6)))] [] (gE Lx) I L e (kcp (Wp 35) 35 25 0 [(0, .ref 20), (2, .ref 18)] 71 [] (kcp (Wp 154) 154 46 0 [(0, .ref 1), (3, .int x9)] 71 [] (kcp (Wp 187) 187 32 0 [(0, .ref 1)] 71 [] Q))))
        else
         (if (Int64.ofInt 0) < (L 20 6) then
          Wp 25 0 [(0, .ref 18), (1, .long (((L 20 2) * (L 20 7)) + (L 20 5))), (3, .long ((L 20 2) * (L 20 6)))] [] (gE Lx) I L e (kcp (Wp 35) 35 25 0 [(0, .ref 20), (2, .ref 18)] 71 [] (kcp (Wp 154) 154 46 0 [(0, .ref 1), (3, .int x9)] 71 [] (kcp (Wp 187) 187 32 0 [(0, .ref 1)] 71 [] Q)))
         else
          Wp 25 0 [(0, .ref 18), (1, .long (((L 20 2) * (L 20 7)) + (-(L 20 5)))), (3, .long ((L 20 2) * (L 20 6)))] [] (gE Lx) I L e (kcp (Wp 35) 35 25 0 [(0, .ref 20), (2, .ref 18)] 71 [] (kcp (Wp 154) 154 46 0 [(0, .ref 1), (3, .int x9)] 71 [] (kcp (Wp 187) 187 32 0 [(0, .ref 1)] 71 [] Q)))))))
     else
      Q (.inr 102) (gE Lx) I L (e + 1)))) :
    Wp 187 25 [(0, .ref 1), (7, .int x7), (8, .int x8), (9, .int x9)] [] (gE Lx) I L e Q := by
  refine w_a f_187_25 ?_
  refine w_a f_187_26 ?_
  refine w_a f_187_28 ?_
  refine w_a f_187_30 ?_
  refine w_c (ks := [0]) f_187_32 rfl rfl ?_
  refine w_a (ls := [(0, .ref 1), (1, .int x7), (2, .int x8), (3, .int x9)]) f_154_0 ?_
  refine w_a f_154_1 ?_
  refine i_m (fun h => ?_) (fun h => ?_) h
  · refine w_a f_154_25 ?_
    exact h
  · refine w_a f_154_4 ?_
    refine w_a f_154_5 ?_
    refine w_a f_154_6 ?_
    refine w_a f_154_9 ?_
    refine w_a f_154_12 ?_
    refine i_m (fun h => ?_) (fun h => ?_) h
    · refine w_a f_154_15 ?_
      refine w_a f_154_16 ?_
      refine w_a f_154_19 ?_
      refine w_a f_154_22 ?_
      refine i_m (fun h => ?_) (fun h => ?_) h
      · refine w_a f_154_25 ?_
        exact h
      · refine w_a f_154_33 ?_
        refine w_a f_154_34 ?_
        refine i_m (fun h => ?_) (fun h => ?_) h
        · refine w_a f_154_52 ?_
          refine w_a f_154_53 ?_
          refine w_a f_154_56 ?_
          refine w_a f_154_57 ?_
          refine w_a f_154_58 ?_
          refine w_c (ks := [0, 3]) f_154_61 rfl rfl ?_
          refine w_a (ls := [(0, .ref 20), (1, .int x7), (2, .ref 18)]) f_37_0 ?_
          refine w_a f_37_1 ?_
          refine w_a f_37_2 ?_
          refine w_a f_37_5 ?_
          refine w_a f_37_6 ?_
          refine w_a f_37_9 ?_
          refine w_a f_37_10 ?_
          refine w_a f_37_11 ?_
          refine w_a f_37_12 ?_
          refine w_a (ls := [(0, .ref 20), (1, .int x7)]) f_36_0 ?_
          refine w_a f_36_1 ?_
          refine i_m (fun h => ?_) (fun h => ?_) h
          · refine w_a f_36_4 ?_
            refine w_a f_36_5 ?_
            refine w_a f_36_9 ?_
            refine w_a f_36_10 ?_
            refine w_a f_36_13 ?_
            refine w_a f_36_14 ?_
            refine i_m (fun h => ?_) (fun h => ?_) h
            · refine w_a f_36_18 ?_
              refine w_a f_36_19 ?_
              refine w_a f_36_23 ?_
              refine w_a f_36_26 ?_
              refine w_a f_36_27 ?_
              refine w_a f_36_30 ?_
              refine w_a f_36_31 ?_
              refine w_a f_36_38 ?_
              refine w_a (ls := [(0, .ref 20), (1, .int x7), (2, .ref 18)]) f_37_15 ?_
              refine w_a f_37_16 ?_
              refine w_a f_37_17 ?_
              refine w_a f_37_20 ?_
              refine w_a f_37_21 ?_
              refine w_a f_37_24 ?_
              refine w_a f_37_25 ?_
              refine w_a f_37_26 ?_
              refine w_a f_37_27 ?_
              refine w_a f_37_30 ?_
              refine w_a f_37_31 ?_
              refine w_a f_37_34 ?_
              exact w_c (ks := [0, 2]) f_37_35 rfl rfl h
            · refine w_a f_36_22 ?_
              refine w_a f_36_23 ?_
              refine w_a f_36_34 ?_
              refine w_a f_36_35 ?_
              refine w_a f_36_38 ?_
              refine w_a (ls := [(0, .ref 20), (1, .int x7), (2, .ref 18)]) f_37_15 ?_
              refine w_a f_37_16 ?_
              refine w_a f_37_17 ?_
              refine w_a f_37_20 ?_
              refine w_a f_37_21 ?_
              refine w_a f_37_24 ?_
              refine w_a f_37_25 ?_
              refine w_a f_37_26 ?_
              refine w_a f_37_27 ?_
              refine w_a f_37_30 ?_
              refine w_a f_37_31 ?_
              refine w_a f_37_34 ?_
              exact w_c (ks := [0, 2]) f_37_35 rfl rfl h
          · refine w_a f_36_8 ?_
            refine w_a f_36_9 ?_
            refine w_a f_36_10 ?_
            refine w_a f_36_13 ?_
            refine w_a f_36_14 ?_
            refine i_m (fun h => ?_) (fun h => ?_) h
            · refine w_a f_36_18 ?_
              refine w_a f_36_19 ?_
              refine w_a f_36_23 ?_
              refine w_a f_36_34 ?_
              refine w_a f_36_35 ?_
              refine w_a f_36_38 ?_
              refine w_a (ls := [(0, .ref 20), (1, .int x7), (2, .ref 18)]) f_37_15 ?_
              refine w_a f_37_16 ?_
              refine w_a f_37_17 ?_
              refine w_a f_37_20 ?_
              refine w_a f_37_21 ?_
              refine w_a f_37_24 ?_
              refine w_a f_37_25 ?_
              refine w_a f_37_26 ?_
              refine w_a f_37_27 ?_
              refine w_a f_37_30 ?_
              refine w_a f_37_31 ?_
              refine w_a f_37_34 ?_
              exact w_c (ks := [0, 2]) f_37_35 rfl rfl h
            · refine w_a f_36_22 ?_
              refine w_a f_36_23 ?_
              refine w_a f_36_26 ?_
              refine w_a f_36_27 ?_
              refine w_a f_36_30 ?_
              refine w_a f_36_31 ?_
              refine w_a f_36_38 ?_
              refine w_a (ls := [(0, .ref 20), (1, .int x7), (2, .ref 18)]) f_37_15 ?_
              refine w_a f_37_16 ?_
              refine w_a f_37_17 ?_
              refine w_a f_37_20 ?_
              refine w_a f_37_21 ?_
              refine w_a f_37_24 ?_
              refine w_a f_37_25 ?_
              refine w_a f_37_26 ?_
              refine w_a f_37_27 ?_
              refine w_a f_37_30 ?_
              refine w_a f_37_31 ?_
              refine w_a f_37_34 ?_
              exact w_c (ks := [0, 2]) f_37_35 rfl rfl h
        · refine w_a f_154_37 ?_
          refine w_a f_154_38 ?_
          refine w_a f_154_41 ?_
          refine w_a f_154_42 ?_
          refine w_a f_154_43 ?_
          refine w_c (ks := [0, 3]) f_154_46 rfl rfl ?_
          refine w_a (ls := [(0, .ref 20), (1, .int x7), (2, .ref 18)]) f_35_0 ?_
          refine w_a f_35_1 ?_
          refine w_a f_35_2 ?_
          refine w_a f_35_5 ?_
          refine w_a f_35_6 ?_
          refine w_a f_35_9 ?_
          refine w_a f_35_10 ?_
          refine w_a f_35_11 ?_
          refine w_a f_35_12 ?_
          refine w_a (ls := [(0, .ref 20), (1, .int x7)]) f_36_0 ?_
          refine w_a f_36_1 ?_
          refine i_m (fun h => ?_) (fun h => ?_) h
          · refine w_a f_36_4 ?_
            refine w_a f_36_5 ?_
            refine w_a f_36_9 ?_
            refine w_a f_36_10 ?_
            refine w_a f_36_13 ?_
            refine w_a f_36_14 ?_
            refine i_m (fun h => ?_) (fun h => ?_) h
            · refine w_a f_36_18 ?_
              refine w_a f_36_19 ?_
              refine w_a f_36_23 ?_
              refine w_a f_36_26 ?_
              refine w_a f_36_27 ?_
              refine w_a f_36_30 ?_
              refine w_a f_36_31 ?_
              refine w_a f_36_38 ?_
              refine w_a (ls := [(0, .ref 20), (1, .int x7), (2, .ref 18)]) f_35_15 ?_
              refine w_a f_35_16 ?_
              refine w_a f_35_17 ?_
              refine w_a f_35_20 ?_
              refine w_a f_35_21 ?_
              refine w_a f_35_24 ?_
              exact w_c (ks := [0, 2]) f_35_25 rfl rfl h
            · refine w_a f_36_22 ?_
              refine w_a f_36_23 ?_
              refine w_a f_36_34 ?_
              refine w_a f_36_35 ?_
              refine w_a f_36_38 ?_
              refine w_a (ls := [(0, .ref 20), (1, .int x7), (2, .ref 18)]) f_35_15 ?_
              refine w_a f_35_16 ?_
              refine w_a f_35_17 ?_
              refine w_a f_35_20 ?_
              refine w_a f_35_21 ?_
              refine w_a f_35_24 ?_
              exact w_c (ks := [0, 2]) f_35_25 rfl rfl h
          · refine w_a f_36_8 ?_
            refine w_a f_36_9 ?_
            refine w_a f_36_10 ?_
            refine w_a f_36_13 ?_
            refine w_a f_36_14 ?_
            refine i_m (fun h => ?_) (fun h => ?_) h
            · refine w_a f_36_18 ?_
              refine w_a f_36_19 ?_
              refine w_a f_36_23 ?_
              refine w_a f_36_34 ?_
              refine w_a f_36_35 ?_
              refine w_a f_36_38 ?_
              refine w_a (ls := [(0, .ref 20), (1, .int x7), (2, .ref 18)]) f_35_15 ?_
              refine w_a f_35_16 ?_
              refine w_a f_35_17 ?_
              refine w_a f_35_20 ?_
              refine w_a f_35_21 ?_
              refine w_a f_35_24 ?_
              exact w_c (ks := [0, 2]) f_35_25 rfl rfl h
            · refine w_a f_36_22 ?_
              refine w_a f_36_23 ?_
              refine w_a f_36_26 ?_
              refine w_a f_36_27 ?_
              refine w_a f_36_30 ?_
              refine w_a f_36_31 ?_
              refine w_a f_36_38 ?_
              refine w_a (ls := [(0, .ref 20), (1, .int x7), (2, .ref 18)]) f_35_15 ?_
              refine w_a f_35_16 ?_
              refine w_a f_35_17 ?_
              refine w_a f_35_20 ?_
              refine w_a f_35_21 ?_
              refine w_a f_35_24 ?_
              exact w_c (ks := [0, 2]) f_35_25 rfl rfl h
    · refine w_a f_154_25 ?_
      exact h
set_option maxRecDepth 10000 in
set_option maxHeartbeats 4000000 in
theorem s_187_35 {Lx : Nat} {I : Mi} {L : Ml} {e : Nat} {Q : Kq} {rl : Int64} (h :
    Q (.inl (some (.long rl))) (gE Lx) I L e) :
    Wp 187 35 [(0, .ref 1)] [.long rl] (gE Lx) I L e Q := by
  refine w_a f_187_35 ?_
  exact h
set_option maxRecDepth 10000 in
set_option maxHeartbeats 4000000 in
theorem s_188_51 {Lx : Nat} {I : Mi} {L : Ml} {e : Nat} {Q : Kq} {x2 : Int32} {x3 : Int32} {x4 : Int32} {x5 : Int32} (h :
    Wp 189 0 [(0, .ref 1), (1, .int x2), (2, .int x3), (3, .int x4), (4, .int x5)] [] (gE Lx) I L e (kcp (Wp 188) 188 58 0 [(0, .ref 1)] 71 [] Q)) :
    Wp 188 51 [(0, .ref 1), (2, .int x2), (3, .int x3), (4, .int x4), (5, .int x5)] [] (gE Lx) I L e Q := by
  refine w_a f_188_51 ?_
  refine w_a f_188_52 ?_
  refine w_a f_188_53 ?_
  refine w_a f_188_54 ?_
  refine w_a f_188_56 ?_
  exact w_c (ks := [0]) f_188_58 rfl rfl h
set_option maxRecDepth 10000 in
set_option maxHeartbeats 4000000 in
theorem s_188_61 {Lx : Nat} {I : Mi} {L : Ml} {e : Nat} {Q : Kq} {r : Int32} (h :
    Q (.inl (some (.int r))) (gE Lx) I L e) :
    Wp 188 61 [(0, .ref 1)] [.int r] (gE Lx) I L e Q := by
  refine w_a f_188_61 ?_
  exact h
set_option maxRecDepth 10000 in
set_option maxHeartbeats 4000000 in
theorem s_189_0 {Lx : Nat} {I : Mi} {L : Ml} {e : Nat} {Q : Kq} {x1 : Int32} {x2 : Int32} {x3 : Int32} {x4 : Int32} (h :
    Wp 189 14 [(0, .ref 1), (1, .int x1), (2, .int x2), (3, .int x3), (4, .int x4), (5, .int (Int32.ofInt 0)), (6, .int (Int32.ofInt 0))] [] (gE Lx) I (ul (ul (ul (ul L 15 0 (L 17 0)) 15 1 (L 17 1)) 15 2 (L 17 2)) 15 3 (Int64.ofInt 0)) e Q) :
    Wp 189 0 [(0, .ref 1), (1, .int x1), (2, .int x2), (3, .int x3), (4, .int x4)] [] (gE Lx) I L e Q := by
  refine w_a f_189_0 ?_
  refine w_a f_189_1 ?_
  refine w_a (ls := [(5, .int (Int32.ofInt 0)), (0, .ref 1), (1, .int x1), (2, .int x2), (3, .int x3), (4, .int x4)]) f_189_3 ?_
  refine w_a f_189_4 ?_
  refine w_a f_189_5 ?_
  refine w_a f_189_8 ?_
  refine w_a (ls := [(0, .ref 1), (1, .ref 15)]) f_157_0 ?_
  refine w_a f_157_1 ?_
  refine w_a f_157_2 ?_
  refine w_a f_157_5 ?_
  refine w_a f_157_8 ?_
  refine w_a f_157_9 ?_
  refine w_a f_157_12 ?_
  refine w_a f_157_15 ?_
  refine w_a f_157_16 ?_
  refine w_a f_157_19 ?_
  refine w_a f_157_22 ?_
  refine w_a (ls := [(0, .ref 15), (1, .long (L 17 0)), (3, .long (L 17 1)), (5, .long (L 17 2))]) f_74_0 ?_
  refine w_a f_74_1 ?_
  refine w_a f_74_2 ?_
  refine w_a f_74_5 ?_
  refine w_a f_74_6 ?_
  refine w_a f_74_7 ?_
  refine w_a f_74_10 ?_
  refine w_a f_74_11 ?_
  refine w_a f_74_13 ?_
  refine w_a f_74_16 ?_
  refine w_a f_74_17 ?_
  refine w_a f_74_18 ?_
  refine w_a f_74_21 ?_
  refine w_a (ls := [(0, .ref 1), (1, .ref 15)]) f_157_25 ?_
  refine w_a (ls := [(5, .int (Int32.ofInt 0)), (0, .ref 1), (1, .int x1), (2, .int x2), (3, .int x3), (4, .int x4)]) f_189_11 ?_
  refine w_a f_189_12 ?_
  exact w_n (ks := [0, 1, 2, 3, 4, 5, 6]) rfl h
set_option maxRecDepth 10000 in
set_option maxHeartbeats 4000000 in
theorem s_189_14 {Lx : Nat} {I : Mi} {L : Ml} {e : Nat} {Q : Kq} {x1 : Int32} {x2 : Int32} {x3 : Int32} {x4 : Int32} {x5 : Int32} {x6 : Int32} (h :
    (if x6 < (Int32.ofInt 184) then
     Wp 69 0 [(0, .ref 2), (1, .int x6)] [] (gE Lx) I (ul (ul (ul (ul L 16 0 (L 15 0)) 16 1 (L 15 1)) 16 2 (L 15 2)) 16 3 (L 15 3)) e (kcp (Wp 189) 189 43 0 [(0, .ref 1), (1, .int x1), (2, .int x2), (3, .int x3), (4, .int x4), (5, .int x5), (6, .int x6)] 71 [.ref 16] Q)
    else
     Q (.inl (some (.int x5))) (gE Lx) I L e)) :
    Wp 189 14 [(0, .ref 1), (1, .int x1), (2, .int x2), (3, .int x3), (4, .int x4), (5, .int x5), (6, .int x6)] [] (gE Lx) I L e Q := by
  refine w_a f_189_14 ?_
  refine w_a f_189_16 ?_
  refine w_a f_189_19 ?_
  refine i_m (fun h => ?_) (fun h => ?_) h
  · refine w_a f_189_22 ?_
    refine w_a f_189_23 ?_
    refine w_a f_189_26 ?_
    refine w_a f_189_27 ?_
    refine w_a f_189_30 ?_
    refine w_a (ls := [(0, .ref 16), (1, .ref 15)]) f_84_0 ?_
    refine w_a f_84_1 ?_
    refine w_a f_84_2 ?_
    refine w_a f_84_5 ?_
    refine w_a f_84_8 ?_
    refine w_a f_84_9 ?_
    refine w_a f_84_10 ?_
    refine w_a f_84_13 ?_
    refine w_a f_84_16 ?_
    refine w_a f_84_17 ?_
    refine w_a f_84_18 ?_
    refine w_a f_84_21 ?_
    refine w_a f_84_24 ?_
    refine w_a f_84_25 ?_
    refine w_a f_84_26 ?_
    refine w_a f_84_29 ?_
    refine w_a f_84_32 ?_
    refine w_a (ls := [(0, .ref 1), (1, .int x1), (2, .int x2), (3, .int x3), (4, .int x4), (5, .int x5), (6, .int x6)]) f_189_33 ?_
    refine w_a f_189_34 ?_
    refine w_a f_189_37 ?_
    refine w_a f_189_38 ?_
    refine w_a f_189_41 ?_
    exact w_c (ks := [0, 1, 2, 3, 4, 5, 6]) f_189_43 rfl rfl h
  · refine w_a f_189_119 ?_
    refine w_a f_189_121 ?_
    exact h
set_option maxRecDepth 10000 in
set_option maxHeartbeats 4000000 in
theorem s_189_46 {Lx : Nat} {I : Mi} {L : Ml} {e : Nat} {Q : Kq} {x1 : Int32} {x2 : Int32} {x3 : Int32} {x4 : Int32} {x5 : Int32} {x6 : Int32} {r : Int32} (h :
    Wp 70 0 [(0, .ref 2), (1, .int x6)] [] (gE Lx) I L e (kcp (Wp 189) 189 53 0 [(0, .ref 1), (1, .int x1), (2, .int x2), (3, .int x3), (4, .int x4), (5, .int x5), (6, .int x6)] 71 [.long r.toInt64, .ref 16] Q)) :
    Wp 189 46 [(0, .ref 1), (1, .int x1), (2, .int x2), (3, .int x3), (4, .int x4), (5, .int x5), (6, .int x6)] [.int r, .ref 16] (gE Lx) I L e Q := by
  refine w_a f_189_46 ?_
  refine w_a f_189_47 ?_
  refine w_a f_189_48 ?_
  refine w_a f_189_51 ?_
  exact w_c (ks := [0, 1, 2, 3, 4, 5, 6]) f_189_53 rfl rfl h
set_option maxRecDepth 10000 in
set_option maxHeartbeats 4000000 in
theorem s_189_56 {Lx : Nat} {I : Mi} {L : Ml} {e : Nat} {Q : Kq} {x1 : Int32} {x2 : Int32} {x3 : Int32} {x4 : Int32} {x5 : Int32} {x6 : Int32} {rl1 : Int64} {r : Int32} (h :
    Wp 76 0 [(0, .ref 16), (1, .long rl1), (3, .long r.toInt64)] [] (gE Lx) I L e (kcp (Wp 189) 189 57 0 [(0, .ref 1), (1, .int x1), (2, .int x2), (3, .int x3), (4, .int x4), (5, .int x5), (6, .int x6)] 71 [] Q)) :
    Wp 189 56 [(0, .ref 1), (1, .int x1), (2, .int x2), (3, .int x3), (4, .int x4), (5, .int x5), (6, .int x6)] [.int r, .long rl1, .ref 16] (gE Lx) I L e Q := by
  refine w_a f_189_56 ?_
  exact w_c (ks := [0, 1, 2, 3, 4, 5, 6]) f_189_57 rfl rfl h
set_option maxRecDepth 10000 in
set_option maxHeartbeats 4000000 in
theorem s_189_60 {Lx : Nat} {I : Mi} {L : Ml} {e : Nat} {Q : Kq} {x1 : Int32} {x2 : Int32} {x3 : Int32} {x4 : Int32} {x5 : Int32} {x6 : Int32} (h :
    (if x1 = 0 then
     Wp 71 0 [(0, .ref 2), (1, .int x6), (2, .int x2)] [] (gE Lx) I L e (kcp (Wp 189) 189 77 0 [(0, .ref 1), (1, .int x1), (2, .int x2), (3, .int x3), (4, .int x4), (5, .int x5), (6, .int x6), (7, .long (((L 16 0) * (L 16 0)) + ((L 16 1) * (L 16 1))))] 71 [] Q)
    else
     Wp 71 0 [(0, .ref 2), (1, .int x6), (2, .int x2)] [] (gE Lx) I L e (kcp (Wp 189) 189 77 0 [(0, .ref 1), (1, .int x1), (2, .int x2), (3, .int x3), (4, .int x4), (5, .int x5), (6, .int x6), (7, .long (((L 16 2) * (L 16 2)) + ((L 16 3) * (L 16 3))))] 71 [] Q))) :
    Wp 189 60 [(0, .ref 1), (1, .int x1), (2, .int x2), (3, .int x3), (4, .int x4), (5, .int x5), (6, .int x6)] [] (gE Lx) I L e Q := by
  refine w_a f_189_60 ?_
  refine w_a f_189_61 ?_
  refine w_a f_189_64 ?_
  refine w_a f_189_65 ?_
  refine w_a (ls := [(0, .ref 16), (1, .int x1)]) f_85_0 ?_
  refine w_a f_85_1 ?_
  refine i_m (fun h => ?_) (fun h => ?_) h
  · refine w_a f_85_11 ?_
    refine w_a f_85_12 ?_
    refine w_a (ls := [(0, .ref 16)]) f_86_0 ?_
    refine w_a f_86_1 ?_
    refine w_a f_86_4 ?_
    refine w_a f_86_5 ?_
    refine w_a f_86_8 ?_
    refine w_a f_86_9 ?_
    refine w_a f_86_10 ?_
    refine w_a f_86_13 ?_
    refine w_a f_86_14 ?_
    refine w_a f_86_17 ?_
    refine w_a f_86_18 ?_
    refine w_a f_86_19 ?_
    refine w_a (ls := [(0, .ref 16), (1, .int x1)]) f_85_15 ?_
    refine w_a (ls := [(0, .ref 1), (1, .int x1), (2, .int x2), (3, .int x3), (4, .int x4), (5, .int x5), (6, .int x6)]) f_189_68 ?_
    refine w_a (ls := [(7, .long (((L 16 0) * (L 16 0)) + ((L 16 1) * (L 16 1)))), (0, .ref 1), (1, .int x1), (2, .int x2), (3, .int x3), (4, .int x4), (5, .int x5), (6, .int x6)]) f_189_70 ?_
    refine w_a f_189_71 ?_
    refine w_a f_189_74 ?_
    refine w_a f_189_76 ?_
    exact w_c (ks := [0, 1, 2, 3, 4, 5, 6, 7]) f_189_77 rfl rfl h
  · refine w_a f_85_4 ?_
    refine w_a f_85_5 ?_
    refine w_a (ls := [(0, .ref 16)]) f_83_0 ?_
    refine w_a f_83_1 ?_
    refine w_a f_83_4 ?_
    refine w_a f_83_5 ?_
    refine w_a f_83_8 ?_
    refine w_a f_83_9 ?_
    refine w_a f_83_10 ?_
    refine w_a f_83_13 ?_
    refine w_a f_83_14 ?_
    refine w_a f_83_17 ?_
    refine w_a f_83_18 ?_
    refine w_a f_83_19 ?_
    refine w_a (ls := [(0, .ref 16), (1, .int x1)]) f_85_8 ?_
    refine w_a f_85_15 ?_
    refine w_a (ls := [(0, .ref 1), (1, .int x1), (2, .int x2), (3, .int x3), (4, .int x4), (5, .int x5), (6, .int x6)]) f_189_68 ?_
    refine w_a (ls := [(7, .long (((L 16 2) * (L 16 2)) + ((L 16 3) * (L 16 3)))), (0, .ref 1), (1, .int x1), (2, .int x2), (3, .int x3), (4, .int x4), (5, .int x5), (6, .int x6)]) f_189_70 ?_
    refine w_a f_189_71 ?_
    refine w_a f_189_74 ?_
    refine w_a f_189_76 ?_
    exact w_c (ks := [0, 1, 2, 3, 4, 5, 6, 7]) f_189_77 rfl rfl h
set_option maxRecDepth 10000 in
set_option maxHeartbeats 4000000 in
theorem s_189_80 {Lx : Nat} {I : Mi} {L : Ml} {e : Nat} {Q : Kq} {x1 : Int32} {x2 : Int32} {x3 : Int32} {x4 : Int32} {x5 : Int32} {x6 : Int32} {y7 : Int64} {r : Int32} (h :
    (if r = 0 then
     Wp 189 14 [(0, .ref 1), (1, .int x1), (2, .int x2), (3, .int x3), (4, .int x4), (5, .int x5), (6, .int (x6 + Int32.ofInt 1))] [] (gE Lx) I L e Q
    else
     (if (Int64.ofInt 0) < y7 then
      Wp 23 0 [(0, .long (((L 16 0) * (L 16 2)) + ((L 16 1) * (L 16 3)))), (2, .long y7), (4, .long x3.toInt64), (6, .long x4.toInt64)] [] (gE Lx) I L e (kcp (Wp 189) 189 104 0 [(0, .ref 1), (1, .int x1), (2, .int x2), (3, .int x3), (4, .int x4), (5, .int x5), (6, .int x6)] 71 [] Q)
     else
      Wp 189 14 [(0, .ref 1), (1, .int x1), (2, .int x2), (3, .int x3), (4, .int x4), (5, .int x5), (6, .int (x6 + Int32.ofInt 1))] [] (gE Lx) I L e Q))) :
    Wp 189 80 [(0, .ref 1), (1, .int x1), (2, .int x2), (3, .int x3), (4, .int x4), (5, .int x5), (6, .int x6), (7, .long y7)] [.int r] (gE Lx) I L e Q := by
  refine w_a f_189_80 ?_
  refine i_m (fun h => ?_) (fun h => ?_) h
  · refine w_a f_189_113 ?_
    refine w_a (ls := [(6, .int (x6 + Int32.ofInt 1)), (0, .ref 1), (1, .int x1), (2, .int x2), (3, .int x3), (4, .int x4), (5, .int x5), (7, .long y7)]) f_189_116 ?_
    exact w_n (ks := [0, 1, 2, 3, 4, 5, 6]) rfl h
  · refine w_a f_189_83 ?_
    refine w_a f_189_85 ?_
    refine w_a f_189_86 ?_
    refine i_m (fun h => ?_) (fun h => ?_) h
    · refine w_a f_189_90 ?_
      refine w_a f_189_91 ?_
      refine w_a f_189_94 ?_
      refine w_a (ls := [(0, .ref 16)]) f_82_0 ?_
      refine w_a f_82_1 ?_
      refine w_a f_82_4 ?_
      refine w_a f_82_5 ?_
      refine w_a f_82_8 ?_
      refine w_a f_82_9 ?_
      refine w_a f_82_10 ?_
      refine w_a f_82_13 ?_
      refine w_a f_82_14 ?_
      refine w_a f_82_17 ?_
      refine w_a f_82_18 ?_
      refine w_a f_82_19 ?_
      refine w_a (ls := [(0, .ref 1), (1, .int x1), (2, .int x2), (3, .int x3), (4, .int x4), (5, .int x5), (6, .int x6), (7, .long y7)]) f_189_97 ?_
      refine w_a f_189_99 ?_
      refine w_a f_189_100 ?_
      refine w_a f_189_101 ?_
      refine w_a f_189_103 ?_
      exact w_c (ks := [0, 1, 2, 3, 4, 5, 6]) f_189_104 rfl rfl h
    · refine w_a f_189_113 ?_
      refine w_a (ls := [(6, .int (x6 + Int32.ofInt 1)), (0, .ref 1), (1, .int x1), (2, .int x2), (3, .int x3), (4, .int x4), (5, .int x5), (7, .long y7)]) f_189_116 ?_
      exact w_n (ks := [0, 1, 2, 3, 4, 5, 6]) rfl h
set_option maxRecDepth 10000 in
set_option maxHeartbeats 4000000 in
theorem s_189_107 {Lx : Nat} {I : Mi} {L : Ml} {e : Nat} {Q : Kq} {x1 : Int32} {x2 : Int32} {x3 : Int32} {x4 : Int32} {x5 : Int32} {x6 : Int32} {r : Int32} (h :
    (if r < 0 then
     Wp 189 14 [(0, .ref 1), (1, .int x1), (2, .int x2), (3, .int x3), (4, .int x4), (5, .int x5), (6, .int (x6 + Int32.ofInt 1))] [] (gE Lx) I L e Q
    else
     Wp 189 14 [(0, .ref 1), (1, .int x1), (2, .int x2), (3, .int x3), (4, .int x4), (5, .int (x5 + Int32.ofInt 1)), (6, .int (x6 + Int32.ofInt 1))] [] (gE Lx) I L e Q)) :
    Wp 189 107 [(0, .ref 1), (1, .int x1), (2, .int x2), (3, .int x3), (4, .int x4), (5, .int x5), (6, .int x6)] [.int r] (gE Lx) I L e Q := by
  refine w_a f_189_107 ?_
  refine i_m (fun h => ?_) (fun h => ?_) h
  · refine w_a f_189_113 ?_
    refine w_a (ls := [(6, .int (x6 + Int32.ofInt 1)), (0, .ref 1), (1, .int x1), (2, .int x2), (3, .int x3), (4, .int x4), (5, .int x5)]) f_189_116 ?_
    exact w_n (ks := [0, 1, 2, 3, 4, 5, 6]) rfl h
  · refine w_a f_189_110 ?_
    refine w_a (ls := [(5, .int (x5 + Int32.ofInt 1)), (0, .ref 1), (1, .int x1), (2, .int x2), (3, .int x3), (4, .int x4), (6, .int x6)]) f_189_113 ?_
    refine w_a (ls := [(6, .int (x6 + Int32.ofInt 1)), (5, .int (x5 + Int32.ofInt 1)), (0, .ref 1), (1, .int x1), (2, .int x2), (3, .int x3), (4, .int x4)]) f_189_116 ?_
    exact w_n (ks := [0, 1, 2, 3, 4, 5, 6]) rfl h
set_option maxRecDepth 10000 in
set_option maxHeartbeats 4000000 in
theorem s_190_25 {Lx : Nat} {I : Mi} {L : Ml} {e : Nat} {Q : Kq} {x2 : Int32} {x3 : Int32} {x4 : Int32} {x5 : Int32} (h :
    Wp 191 0 [(0, .ref 1), (1, .int x2), (2, .int x3), (3, .int x4)] [] (gE Lx) I L e (kcp (Wp 190) 190 30 0 [(0, .ref 1), (5, .int x5)] 71 [] Q)) :
    Wp 190 25 [(0, .ref 1), (2, .int x2), (3, .int x3), (4, .int x4), (5, .int x5)] [] (gE Lx) I L e Q := by
  refine w_a f_190_25 ?_
  refine w_a f_190_26 ?_
  refine w_a f_190_27 ?_
  refine w_a f_190_28 ?_
  exact w_c (ks := [0, 5]) f_190_30 rfl rfl h
set_option maxRecDepth 10000 in
set_option maxHeartbeats 4000000 in
theorem s_190_33 {Lx : Nat} {I : Mi} {L : Ml} {e : Nat} {Q : Kq} {x5 : Int32} (h :
    (if x5 < (Int32.ofInt 2) then
     Wp 25 0 [(0, .ref 18), (1, .long (L 21 1)), (3, .long (L 21 2))] [] (gE Lx) I L e (kcp (Wp 190) 190 97 0 [(0, .ref 1), (5, .int x5)] 71 [] Q)
    else
     (if x5 = (Int32.ofInt 2) then
      Wp 69 0 [(0, .ref 2), (1, .int (I 21 4))] [] (gE Lx) I L e (kcp (Wp 190) 190 56 0 [(0, .ref 1)] 71 [] Q)
     else
      Wp 70 0 [(0, .ref 2), (1, .int (I 21 4))] [] (gE Lx) I L e (kcp (Wp 190) 190 74 0 [(0, .ref 1)] 71 [] Q)))) :
    Wp 190 33 [(0, .ref 1), (5, .int x5)] [] (gE Lx) I L e Q := by
  refine w_a f_190_33 ?_
  refine w_a f_190_35 ?_
  refine w_a f_190_36 ?_
  refine i_m (fun h => ?_) (fun h => ?_) h
  · refine w_a f_190_79 ?_
    refine w_a f_190_80 ?_
    refine w_a f_190_83 ?_
    refine w_a f_190_84 ?_
    refine w_a f_190_87 ?_
    refine w_a f_190_90 ?_
    refine w_a f_190_91 ?_
    refine w_a f_190_94 ?_
    exact w_c (ks := [0, 5]) f_190_97 rfl rfl h
  · refine w_a f_190_39 ?_
    refine w_a f_190_41 ?_
    refine w_a f_190_42 ?_
    refine i_m (fun h => ?_) (fun h => ?_) h
    · refine w_a f_190_45 ?_
      refine w_a f_190_46 ?_
      refine w_a f_190_49 ?_
      refine w_a f_190_50 ?_
      refine w_a f_190_53 ?_
      exact w_c (ks := [0]) f_190_56 rfl rfl h
    · refine w_a f_190_63 ?_
      refine w_a f_190_64 ?_
      refine w_a f_190_67 ?_
      refine w_a f_190_68 ?_
      refine w_a f_190_71 ?_
      exact w_c (ks := [0]) f_190_74 rfl rfl h
set_option maxRecDepth 10000 in
set_option maxHeartbeats 4000000 in
theorem s_190_59 {Lx : Nat} {I : Mi} {L : Ml} {e : Nat} {Q : Kq} {r : Int32} (h :
    Q (.inl (some (.long r.toInt64))) (gE Lx) I L e) :
    Wp 190 59 [(0, .ref 1)] [.int r] (gE Lx) I L e Q := by
  refine w_a f_190_59 ?_
  refine w_a f_190_60 ?_
  refine w_a f_190_78 ?_
  exact h
set_option maxRecDepth 10000 in
set_option maxHeartbeats 4000000 in
theorem s_190_77 {Lx : Nat} {I : Mi} {L : Ml} {e : Nat} {Q : Kq} {r : Int32} (h :
    Q (.inl (some (.long r.toInt64))) (gE Lx) I L e) :
    Wp 190 77 [(0, .ref 1)] [.int r] (gE Lx) I L e Q := by
  refine w_a f_190_77 ?_
  refine w_a f_190_78 ?_
  exact h
