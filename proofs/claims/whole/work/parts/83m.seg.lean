/-! Pieces of methods, by program out of the tables: 356 to 412. -/
theorem f_356_42 : ftc (PT 356) 42 = some (42, .aload_n 0, 1, 0, 0, 0) := by decide +kernel
theorem f_356_43 : ftc (PT 356) 43 = some (43, .invokevirtual 92, 3, 215, 1036, 1781) := by decide +kernel
theorem f_356_46 : ftc (PT 356) 46 = some (46, .ireturn, 1, 0, 0, 0) := by decide +kernel
theorem f_357_0 : ftc (PT 357) 0 = some (0, .aload_n 0, 1, 0, 0, 0) := by decide +kernel
theorem f_357_1 : ftc (PT 357) 1 = some (1, .getfield 13, 3, 12, 2, 1638) := by decide +kernel
theorem f_357_4 : ftc (PT 357) 4 = some (4, .bipush 17, 2, 0, 0, 0) := by decide +kernel
theorem f_357_6 : ftc (PT 357) 6 = some (6, .iload_n 1, 1, 0, 0, 0) := by decide +kernel
theorem f_357_7 : ftc (PT 357) 7 = some (7, .imul, 1, 0, 0, 0) := by decide +kernel
theorem f_357_8 : ftc (PT 357) 8 = some (8, .bipush 16, 2, 0, 0, 0) := by decide +kernel
theorem f_357_10 : ftc (PT 357) 10 = some (10, .iadd, 1, 0, 0, 0) := by decide +kernel
theorem f_357_11 : ftc (PT 357) 11 = some (11, .iaload, 1, 0, 0, 0) := by decide +kernel
theorem f_357_12 : ftc (PT 357) 12 = some (12, .iconst 1, 1, 0, 0, 0) := by decide +kernel
theorem f_357_13 : ftc (PT 357) 13 = some (13, .if_icmp .ne 7, 3, 20, 0, 0) := by decide +kernel
theorem f_357_16 : ftc (PT 357) 16 = some (16, .iconst 1, 1, 0, 0, 0) := by decide +kernel
theorem f_357_17 : ftc (PT 357) 17 = some (17, .goto 4, 3, 21, 0, 0) := by decide +kernel
theorem f_357_20 : ftc (PT 357) 20 = some (20, .iconst 0, 1, 0, 0, 0) := by decide +kernel
theorem f_357_21 : ftc (PT 357) 21 = some (21, .ireturn, 1, 1, 0, 0) := by decide +kernel
theorem f_358_0 : ftc (PT 358) 0 = some (0, .iconst 0, 1, 0, 0, 0) := by decide +kernel
theorem f_358_1 : ftc (PT 358) 1 = some (1, .istore_n 2, 1, 0, 0, 0) := by decide +kernel
theorem f_358_2 : ftc (PT 358) 2 = some (2, .iload_n 2, 1, 0, 0, 0) := by decide +kernel
theorem f_358_3 : ftc (PT 358) 3 = some (3, .bipush 16, 2, 0, 0, 0) := by decide +kernel
theorem f_358_5 : ftc (PT 358) 5 = some (5, .if_icmp .ge 26, 3, 31, 0, 0) := by decide +kernel
theorem f_358_8 : ftc (PT 358) 8 = some (8, .aload_n 0, 1, 0, 0, 0) := by decide +kernel
theorem f_358_9 : ftc (PT 358) 9 = some (9, .getfield 7, 3, 12, 1, 1637) := by decide +kernel
theorem f_358_12 : ftc (PT 358) 12 = some (12, .iload_n 2, 1, 0, 0, 0) := by decide +kernel
theorem f_358_13 : ftc (PT 358) 13 = some (13, .aload_n 0, 1, 0, 0, 0) := by decide +kernel
theorem f_358_14 : ftc (PT 358) 14 = some (14, .getfield 13, 3, 12, 2, 1638) := by decide +kernel
theorem f_358_17 : ftc (PT 358) 17 = some (17, .bipush 17, 2, 0, 0, 0) := by decide +kernel
theorem f_358_19 : ftc (PT 358) 19 = some (19, .iload_n 1, 1, 0, 0, 0) := by decide +kernel
theorem f_358_20 : ftc (PT 358) 20 = some (20, .imul, 1, 0, 0, 0) := by decide +kernel
theorem f_358_21 : ftc (PT 358) 21 = some (21, .iload_n 2, 1, 0, 0, 0) := by decide +kernel
theorem f_358_22 : ftc (PT 358) 22 = some (22, .iadd, 1, 0, 0, 0) := by decide +kernel
theorem f_358_23 : ftc (PT 358) 23 = some (23, .iaload, 1, 0, 0, 0) := by decide +kernel
theorem f_358_24 : ftc (PT 358) 24 = some (24, .iastore, 1, 0, 0, 0) := by decide +kernel
theorem f_358_25 : ftc (PT 358) 25 = some (25, .iinc 2 1, 3, 0, 0, 0) := by decide +kernel
theorem f_358_28 : ftc (PT 358) 28 = some (28, .goto (-26), 3, 2, 0, 0) := by decide +kernel
theorem f_358_31 : ftc (PT 358) 31 = some (31, .return_, 1, 0, 0, 0) := by decide +kernel
theorem f_359_9 : ftc (PT 359) 9 = some (9, .iconst 0, 1, 0, 0, 0) := by decide +kernel
theorem f_359_10 : ftc (PT 359) 10 = some (10, .istore_n 2, 1, 0, 0, 0) := by decide +kernel
theorem f_359_11 : ftc (PT 359) 11 = some (11, .iload_n 2, 1, 0, 0, 0) := by decide +kernel
theorem f_359_12 : ftc (PT 359) 12 = some (12, .iconst 4, 1, 0, 0, 0) := by decide +kernel
theorem f_359_13 : ftc (PT 359) 13 = some (13, .if_icmp .ge 77, 3, 90, 0, 0) := by decide +kernel
theorem f_359_16 : ftc (PT 359) 16 = some (16, .aload_n 0, 1, 0, 0, 0) := by decide +kernel
theorem f_359_17 : ftc (PT 359) 17 = some (17, .iload_n 2, 1, 0, 0, 0) := by decide +kernel
theorem f_359_18 : ftc (PT 359) 18 = some (18, .invokevirtual 511, 3, 357, 2092, 2347) := by decide +kernel
theorem f_359_21 : ftc (PT 359) 21 = some (21, .ifCond .ne 6, 3, 27, 0, 0) := by decide +kernel
theorem f_359_24 : ftc (PT 359) 24 = some (24, .goto 60, 3, 84, 0, 0) := by decide +kernel
theorem f_359_27 : ftc (PT 359) 27 = some (27, .iconst 0, 1, 0, 0, 0) := by decide +kernel
theorem f_359_28 : ftc (PT 359) 28 = some (28, .istore_n 3, 1, 0, 0, 0) := by decide +kernel
theorem f_359_29 : ftc (PT 359) 29 = some (29, .iconst 0, 1, 0, 0, 0) := by decide +kernel
theorem f_359_30 : ftc (PT 359) 30 = some (30, .istore 4, 2, 0, 0, 0) := by decide +kernel
theorem f_359_32 : ftc (PT 359) 32 = some (32, .iload 4, 2, 0, 0, 0) := by decide +kernel
theorem f_359_34 : ftc (PT 359) 34 = some (34, .iconst 4, 1, 0, 0, 0) := by decide +kernel
theorem f_359_35 : ftc (PT 359) 35 = some (35, .if_icmp .ge 42, 3, 77, 0, 0) := by decide +kernel
theorem f_359_38 : ftc (PT 359) 38 = some (38, .iload_n 3, 1, 0, 0, 0) := by decide +kernel
theorem f_359_39 : ftc (PT 359) 39 = some (39, .iload 4, 2, 0, 0, 0) := by decide +kernel
theorem f_359_41 : ftc (PT 359) 41 = some (41, .iload_n 2, 1, 0, 0, 0) := by decide +kernel
theorem f_359_42 : ftc (PT 359) 42 = some (42, .if_icmp .eq 26, 3, 68, 0, 0) := by decide +kernel
theorem f_359_45 : ftc (PT 359) 45 = some (45, .aload_n 0, 1, 0, 0, 0) := by decide +kernel
theorem f_359_46 : ftc (PT 359) 46 = some (46, .iload 4, 2, 0, 0, 0) := by decide +kernel
theorem f_359_48 : ftc (PT 359) 48 = some (48, .invokevirtual 511, 3, 357, 2092, 2347) := by decide +kernel
theorem f_359_51 : ftc (PT 359) 51 = some (51, .ifCond .eq 17, 3, 68, 0, 0) := by decide +kernel
theorem f_359_54 : ftc (PT 359) 54 = some (54, .aload_n 0, 1, 0, 0, 0) := by decide +kernel
theorem f_359_55 : ftc (PT 359) 55 = some (55, .iload 4, 2, 0, 0, 0) := by decide +kernel
theorem f_359_57 : ftc (PT 359) 57 = some (57, .iload_n 2, 1, 0, 0, 0) := by decide +kernel
theorem f_359_58 : ftc (PT 359) 58 = some (58, .invokevirtual 520, 3, 361, 4172, 2363) := by decide +kernel
theorem f_359_61 : ftc (PT 359) 61 = some (61, .ifCond .eq 7, 3, 68, 0, 0) := by decide +kernel
theorem f_359_64 : ftc (PT 359) 64 = some (64, .iconst 1, 1, 0, 0, 0) := by decide +kernel
theorem f_359_65 : ftc (PT 359) 65 = some (65, .goto 4, 3, 69, 0, 0) := by decide +kernel
theorem f_359_68 : ftc (PT 359) 68 = some (68, .iconst 0, 1, 0, 0, 0) := by decide +kernel
theorem f_359_69 : ftc (PT 359) 69 = some (69, .iadd, 1, 0, 0, 0) := by decide +kernel
theorem f_359_70 : ftc (PT 359) 70 = some (70, .istore_n 3, 1, 0, 0, 0) := by decide +kernel
theorem f_359_71 : ftc (PT 359) 71 = some (71, .iinc 4 1, 3, 0, 0, 0) := by decide +kernel
theorem f_359_74 : ftc (PT 359) 74 = some (74, .goto (-42), 3, 32, 0, 0) := by decide +kernel
theorem f_359_77 : ftc (PT 359) 77 = some (77, .iload_n 3, 1, 0, 0, 0) := by decide +kernel
theorem f_359_78 : ftc (PT 359) 78 = some (78, .iload_n 1, 1, 0, 0, 0) := by decide +kernel
theorem f_359_79 : ftc (PT 359) 79 = some (79, .if_icmp .ne 5, 3, 84, 0, 0) := by decide +kernel
theorem f_359_82 : ftc (PT 359) 82 = some (82, .iload_n 2, 1, 0, 0, 0) := by decide +kernel
theorem f_359_83 : ftc (PT 359) 83 = some (83, .ireturn, 1, 0, 0, 0) := by decide +kernel
theorem f_359_84 : ftc (PT 359) 84 = some (84, .iinc 2 1, 3, 0, 0, 0) := by decide +kernel
theorem f_359_87 : ftc (PT 359) 87 = some (87, .goto (-76), 3, 11, 0, 0) := by decide +kernel
theorem f_359_90 : ftc (PT 359) 90 = some (90, .iconst (-1), 1, 0, 0, 0) := by decide +kernel
theorem f_359_91 : ftc (PT 359) 91 = some (91, .ireturn, 1, 0, 0, 0) := by decide +kernel
theorem f_360_0 : ftc (PT 360) 0 = some (0, .iconst 0, 1, 0, 0, 0) := by decide +kernel
theorem f_360_1 : ftc (PT 360) 1 = some (1, .istore_n 1, 1, 0, 0, 0) := by decide +kernel
theorem f_360_2 : ftc (PT 360) 2 = some (2, .iload_n 1, 1, 0, 0, 0) := by decide +kernel
theorem f_360_3 : ftc (PT 360) 3 = some (3, .bipush 16, 2, 0, 0, 0) := by decide +kernel
theorem f_360_5 : ftc (PT 360) 5 = some (5, .if_icmp .ge 21, 3, 26, 0, 0) := by decide +kernel
theorem f_360_8 : ftc (PT 360) 8 = some (8, .aload_n 0, 1, 0, 0, 0) := by decide +kernel
theorem f_360_9 : ftc (PT 360) 9 = some (9, .getfield 26, 3, 12, 37, 1673) := by decide +kernel
theorem f_360_12 : ftc (PT 360) 12 = some (12, .iload_n 1, 1, 0, 0, 0) := by decide +kernel
theorem f_360_13 : ftc (PT 360) 13 = some (13, .aload_n 0, 1, 0, 0, 0) := by decide +kernel
theorem f_360_14 : ftc (PT 360) 14 = some (14, .getfield 7, 3, 12, 1, 1637) := by decide +kernel
theorem f_360_17 : ftc (PT 360) 17 = some (17, .iload_n 1, 1, 0, 0, 0) := by decide +kernel
theorem f_360_18 : ftc (PT 360) 18 = some (18, .iaload, 1, 0, 0, 0) := by decide +kernel
theorem f_360_19 : ftc (PT 360) 19 = some (19, .iastore, 1, 0, 0, 0) := by decide +kernel
theorem f_360_20 : ftc (PT 360) 20 = some (20, .iinc 1 1, 3, 0, 0, 0) := by decide +kernel
theorem f_360_23 : ftc (PT 360) 23 = some (23, .goto (-21), 3, 2, 0, 0) := by decide +kernel
theorem f_360_26 : ftc (PT 360) 26 = some (26, .iconst 0, 1, 0, 0, 0) := by decide +kernel
theorem f_360_27 : ftc (PT 360) 27 = some (27, .istore_n 1, 1, 0, 0, 0) := by decide +kernel
theorem f_360_28 : ftc (PT 360) 28 = some (28, .iload_n 1, 1, 0, 0, 0) := by decide +kernel
theorem f_360_29 : ftc (PT 360) 29 = some (29, .iconst 4, 1, 0, 0, 0) := by decide +kernel
theorem f_360_30 : ftc (PT 360) 30 = some (30, .if_icmp .ge 69, 3, 99, 0, 0) := by decide +kernel
theorem f_360_33 : ftc (PT 360) 33 = some (33, .aload_n 0, 1, 0, 0, 0) := by decide +kernel
theorem f_360_34 : ftc (PT 360) 34 = some (34, .iload_n 1, 1, 0, 0, 0) := by decide +kernel
theorem f_360_35 : ftc (PT 360) 35 = some (35, .invokevirtual 511, 3, 357, 2092, 2347) := by decide +kernel
theorem f_360_38 : ftc (PT 360) 38 = some (38, .ifCond .ne 6, 3, 44, 0, 0) := by decide +kernel
theorem f_360_41 : ftc (PT 360) 41 = some (41, .goto 52, 3, 93, 0, 0) := by decide +kernel
theorem f_360_44 : ftc (PT 360) 44 = some (44, .aload_n 0, 1, 0, 0, 0) := by decide +kernel
theorem f_360_45 : ftc (PT 360) 45 = some (45, .iload_n 1, 1, 0, 0, 0) := by decide +kernel
theorem f_360_46 : ftc (PT 360) 46 = some (46, .invokevirtual 514, 3, 358, 3116, 2351) := by decide +kernel
theorem f_360_49 : ftc (PT 360) 49 = some (49, .aload_n 0, 1, 0, 0, 0) := by decide +kernel
theorem f_360_50 : ftc (PT 360) 50 = some (50, .getfield 32, 3, 12, 40, 1676) := by decide +kernel
theorem f_360_53 : ftc (PT 360) 53 = some (53, .iload_n 1, 1, 0, 0, 0) := by decide +kernel
theorem f_360_54 : ftc (PT 360) 54 = some (54, .aload_n 0, 1, 0, 0, 0) := by decide +kernel
theorem f_360_55 : ftc (PT 360) 55 = some (55, .invokevirtual 499, 3, 351, 2060, 2324) := by decide +kernel
theorem f_360_58 : ftc (PT 360) 58 = some (58, .iastore, 1, 0, 0, 0) := by decide +kernel
theorem f_360_59 : ftc (PT 360) 59 = some (59, .aload_n 0, 1, 0, 0, 0) := by decide +kernel
theorem f_360_60 : ftc (PT 360) 60 = some (60, .invokevirtual 505, 3, 353, 10252, 2332) := by decide +kernel
theorem f_360_63 : ftc (PT 360) 63 = some (63, .aload_n 0, 1, 0, 0, 0) := by decide +kernel
theorem f_360_64 : ftc (PT 360) 64 = some (64, .getfield 35, 3, 12, 41, 1677) := by decide +kernel
theorem f_360_67 : ftc (PT 360) 67 = some (67, .iload_n 1, 1, 0, 0, 0) := by decide +kernel
theorem f_360_68 : ftc (PT 360) 68 = some (68, .aload_n 0, 1, 0, 0, 0) := by decide +kernel
theorem f_360_69 : ftc (PT 360) 69 = some (69, .getfield 502, 3, 12, 39, 1675) := by decide +kernel
theorem f_360_72 : ftc (PT 360) 72 = some (72, .iastore, 1, 0, 0, 0) := by decide +kernel
theorem f_360_73 : ftc (PT 360) 73 = some (73, .aload_n 0, 1, 0, 0, 0) := by decide +kernel
theorem f_360_74 : ftc (PT 360) 74 = some (74, .getfield 38, 3, 12, 42, 1678) := by decide +kernel
theorem f_360_77 : ftc (PT 360) 77 = some (77, .iload_n 1, 1, 0, 0, 0) := by decide +kernel
theorem f_360_78 : ftc (PT 360) 78 = some (78, .aload_n 0, 1, 0, 0, 0) := by decide +kernel
theorem f_360_79 : ftc (PT 360) 79 = some (79, .getfield 81, 3, 12, 8, 1644) := by decide +kernel
theorem f_360_82 : ftc (PT 360) 82 = some (82, .lastore, 1, 0, 0, 0) := by decide +kernel
theorem f_360_83 : ftc (PT 360) 83 = some (83, .aload_n 0, 1, 0, 0, 0) := by decide +kernel
theorem f_360_84 : ftc (PT 360) 84 = some (84, .getfield 41, 3, 12, 43, 1679) := by decide +kernel
theorem f_360_87 : ftc (PT 360) 87 = some (87, .iload_n 1, 1, 0, 0, 0) := by decide +kernel
theorem f_360_88 : ftc (PT 360) 88 = some (88, .aload_n 0, 1, 0, 0, 0) := by decide +kernel
theorem f_360_89 : ftc (PT 360) 89 = some (89, .getfield 85, 3, 12, 9, 1645) := by decide +kernel
theorem f_360_92 : ftc (PT 360) 92 = some (92, .lastore, 1, 0, 0, 0) := by decide +kernel
theorem f_360_93 : ftc (PT 360) 93 = some (93, .iinc 1 1, 3, 0, 0, 0) := by decide +kernel
theorem f_360_96 : ftc (PT 360) 96 = some (96, .goto (-68), 3, 28, 0, 0) := by decide +kernel
theorem f_360_99 : ftc (PT 360) 99 = some (99, .iconst 0, 1, 0, 0, 0) := by decide +kernel
theorem f_360_100 : ftc (PT 360) 100 = some (100, .istore_n 1, 1, 0, 0, 0) := by decide +kernel
theorem f_360_101 : ftc (PT 360) 101 = some (101, .iload_n 1, 1, 0, 0, 0) := by decide +kernel
theorem f_360_102 : ftc (PT 360) 102 = some (102, .bipush 16, 2, 0, 0, 0) := by decide +kernel
theorem f_360_104 : ftc (PT 360) 104 = some (104, .if_icmp .ge 21, 3, 125, 0, 0) := by decide +kernel
theorem f_360_107 : ftc (PT 360) 107 = some (107, .aload_n 0, 1, 0, 0, 0) := by decide +kernel
theorem f_360_108 : ftc (PT 360) 108 = some (108, .getfield 7, 3, 12, 1, 1637) := by decide +kernel
theorem f_360_111 : ftc (PT 360) 111 = some (111, .iload_n 1, 1, 0, 0, 0) := by decide +kernel
theorem f_360_112 : ftc (PT 360) 112 = some (112, .aload_n 0, 1, 0, 0, 0) := by decide +kernel
theorem f_360_113 : ftc (PT 360) 113 = some (113, .getfield 26, 3, 12, 37, 1673) := by decide +kernel
theorem f_360_116 : ftc (PT 360) 116 = some (116, .iload_n 1, 1, 0, 0, 0) := by decide +kernel
theorem f_360_117 : ftc (PT 360) 117 = some (117, .iaload, 1, 0, 0, 0) := by decide +kernel
theorem f_360_118 : ftc (PT 360) 118 = some (118, .iastore, 1, 0, 0, 0) := by decide +kernel
theorem f_360_119 : ftc (PT 360) 119 = some (119, .iinc 1 1, 3, 0, 0, 0) := by decide +kernel
theorem f_360_122 : ftc (PT 360) 122 = some (122, .goto (-21), 3, 101, 0, 0) := by decide +kernel
theorem f_360_125 : ftc (PT 360) 125 = some (125, .return_, 1, 0, 0, 0) := by decide +kernel
theorem f_361_0 : ftc (PT 361) 0 = some (0, .aload_n 0, 1, 0, 0, 0) := by decide +kernel
theorem f_361_1 : ftc (PT 361) 1 = some (1, .getfield 32, 3, 12, 40, 1676) := by decide +kernel
theorem f_361_4 : ftc (PT 361) 4 = some (4, .iload_n 1, 1, 0, 0, 0) := by decide +kernel
theorem f_361_5 : ftc (PT 361) 5 = some (5, .iaload, 1, 0, 0, 0) := by decide +kernel
theorem f_361_6 : ftc (PT 361) 6 = some (6, .aload_n 0, 1, 0, 0, 0) := by decide +kernel
theorem f_361_7 : ftc (PT 361) 7 = some (7, .getfield 32, 3, 12, 40, 1676) := by decide +kernel
theorem f_361_10 : ftc (PT 361) 10 = some (10, .iload_n 2, 1, 0, 0, 0) := by decide +kernel
theorem f_361_11 : ftc (PT 361) 11 = some (11, .iaload, 1, 0, 0, 0) := by decide +kernel
theorem f_361_12 : ftc (PT 361) 12 = some (12, .if_icmp .eq 24, 3, 36, 0, 0) := by decide +kernel
theorem f_361_15 : ftc (PT 361) 15 = some (15, .aload_n 0, 1, 0, 0, 0) := by decide +kernel
theorem f_361_16 : ftc (PT 361) 16 = some (16, .getfield 32, 3, 12, 40, 1676) := by decide +kernel
theorem f_361_19 : ftc (PT 361) 19 = some (19, .iload_n 1, 1, 0, 0, 0) := by decide +kernel
theorem f_361_20 : ftc (PT 361) 20 = some (20, .iaload, 1, 0, 0, 0) := by decide +kernel
theorem f_361_21 : ftc (PT 361) 21 = some (21, .aload_n 0, 1, 0, 0, 0) := by decide +kernel
theorem f_361_22 : ftc (PT 361) 22 = some (22, .getfield 32, 3, 12, 40, 1676) := by decide +kernel
theorem f_361_25 : ftc (PT 361) 25 = some (25, .iload_n 2, 1, 0, 0, 0) := by decide +kernel
theorem f_361_26 : ftc (PT 361) 26 = some (26, .iaload, 1, 0, 0, 0) := by decide +kernel
theorem f_361_27 : ftc (PT 361) 27 = some (27, .if_icmp .le 7, 3, 34, 0, 0) := by decide +kernel
theorem f_361_30 : ftc (PT 361) 30 = some (30, .iconst 1, 1, 0, 0, 0) := by decide +kernel
theorem f_361_31 : ftc (PT 361) 31 = some (31, .goto 4, 3, 35, 0, 0) := by decide +kernel
theorem f_361_34 : ftc (PT 361) 34 = some (34, .iconst 0, 1, 0, 0, 0) := by decide +kernel
theorem f_361_35 : ftc (PT 361) 35 = some (35, .ireturn, 1, 1, 0, 0) := by decide +kernel
theorem f_361_36 : ftc (PT 361) 36 = some (36, .aload_n 0, 1, 0, 0, 0) := by decide +kernel
theorem f_361_37 : ftc (PT 361) 37 = some (37, .getfield 35, 3, 12, 41, 1677) := by decide +kernel
theorem f_361_40 : ftc (PT 361) 40 = some (40, .iload_n 1, 1, 0, 0, 0) := by decide +kernel
theorem f_361_41 : ftc (PT 361) 41 = some (41, .iaload, 1, 0, 0, 0) := by decide +kernel
theorem f_361_42 : ftc (PT 361) 42 = some (42, .aload_n 0, 1, 0, 0, 0) := by decide +kernel
theorem f_361_43 : ftc (PT 361) 43 = some (43, .getfield 35, 3, 12, 41, 1677) := by decide +kernel
theorem f_361_46 : ftc (PT 361) 46 = some (46, .iload_n 2, 1, 0, 0, 0) := by decide +kernel
theorem f_361_47 : ftc (PT 361) 47 = some (47, .iaload, 1, 0, 0, 0) := by decide +kernel
theorem f_361_48 : ftc (PT 361) 48 = some (48, .if_icmp .eq 24, 3, 72, 0, 0) := by decide +kernel
theorem f_361_51 : ftc (PT 361) 51 = some (51, .aload_n 0, 1, 0, 0, 0) := by decide +kernel
theorem f_361_52 : ftc (PT 361) 52 = some (52, .getfield 35, 3, 12, 41, 1677) := by decide +kernel
theorem f_361_55 : ftc (PT 361) 55 = some (55, .iload_n 1, 1, 0, 0, 0) := by decide +kernel
theorem f_361_56 : ftc (PT 361) 56 = some (56, .iaload, 1, 0, 0, 0) := by decide +kernel
theorem f_361_57 : ftc (PT 361) 57 = some (57, .aload_n 0, 1, 0, 0, 0) := by decide +kernel
theorem f_361_58 : ftc (PT 361) 58 = some (58, .getfield 35, 3, 12, 41, 1677) := by decide +kernel
theorem f_361_61 : ftc (PT 361) 61 = some (61, .iload_n 2, 1, 0, 0, 0) := by decide +kernel
theorem f_361_62 : ftc (PT 361) 62 = some (62, .iaload, 1, 0, 0, 0) := by decide +kernel
theorem f_361_63 : ftc (PT 361) 63 = some (63, .if_icmp .ge 7, 3, 70, 0, 0) := by decide +kernel
theorem f_361_66 : ftc (PT 361) 66 = some (66, .iconst 1, 1, 0, 0, 0) := by decide +kernel
theorem f_361_67 : ftc (PT 361) 67 = some (67, .goto 4, 3, 71, 0, 0) := by decide +kernel
theorem f_361_70 : ftc (PT 361) 70 = some (70, .iconst 0, 1, 0, 0, 0) := by decide +kernel
theorem f_361_71 : ftc (PT 361) 71 = some (71, .ireturn, 1, 1, 0, 0) := by decide +kernel
theorem f_361_72 : ftc (PT 361) 72 = some (72, .aload_n 0, 1, 0, 0, 0) := by decide +kernel
theorem f_361_73 : ftc (PT 361) 73 = some (73, .getfield 38, 3, 12, 42, 1678) := by decide +kernel
theorem f_361_76 : ftc (PT 361) 76 = some (76, .iload_n 1, 1, 0, 0, 0) := by decide +kernel
theorem f_361_77 : ftc (PT 361) 77 = some (77, .laload, 1, 0, 0, 0) := by decide +kernel
theorem f_361_78 : ftc (PT 361) 78 = some (78, .aload_n 0, 1, 0, 0, 0) := by decide +kernel
theorem f_361_79 : ftc (PT 361) 79 = some (79, .getfield 41, 3, 12, 43, 1679) := by decide +kernel
theorem f_361_82 : ftc (PT 361) 82 = some (82, .iload_n 1, 1, 0, 0, 0) := by decide +kernel
theorem f_361_83 : ftc (PT 361) 83 = some (83, .laload, 1, 0, 0, 0) := by decide +kernel
theorem f_361_84 : ftc (PT 361) 84 = some (84, .aload_n 0, 1, 0, 0, 0) := by decide +kernel
theorem f_361_85 : ftc (PT 361) 85 = some (85, .getfield 38, 3, 12, 42, 1678) := by decide +kernel
theorem f_361_88 : ftc (PT 361) 88 = some (88, .iload_n 2, 1, 0, 0, 0) := by decide +kernel
theorem f_361_89 : ftc (PT 361) 89 = some (89, .laload, 1, 0, 0, 0) := by decide +kernel
theorem f_361_90 : ftc (PT 361) 90 = some (90, .aload_n 0, 1, 0, 0, 0) := by decide +kernel
theorem f_361_91 : ftc (PT 361) 91 = some (91, .getfield 41, 3, 12, 43, 1679) := by decide +kernel
theorem f_361_94 : ftc (PT 361) 94 = some (94, .iload_n 2, 1, 0, 0, 0) := by decide +kernel
theorem f_361_95 : ftc (PT 361) 95 = some (95, .laload, 1, 0, 0, 0) := by decide +kernel
theorem f_361_96 : ftc (PT 361) 96 = some (96, .invokestatic 77, 3, 211, 12292, 1633) := by decide +kernel
theorem f_361_99 : ftc (PT 361) 99 = some (99, .istore_n 3, 1, 0, 0, 0) := by decide +kernel
theorem f_361_100 : ftc (PT 361) 100 = some (100, .iload_n 3, 1, 0, 0, 0) := by decide +kernel
theorem f_361_101 : ftc (PT 361) 101 = some (101, .ifCond .eq 15, 3, 116, 0, 0) := by decide +kernel
theorem f_361_104 : ftc (PT 361) 104 = some (104, .iload_n 3, 1, 0, 0, 0) := by decide +kernel
theorem f_361_105 : ftc (PT 361) 105 = some (105, .ifCond .ge 7, 3, 112, 0, 0) := by decide +kernel
theorem f_361_108 : ftc (PT 361) 108 = some (108, .iconst 1, 1, 0, 0, 0) := by decide +kernel
theorem f_361_109 : ftc (PT 361) 109 = some (109, .goto 17, 3, 126, 0, 0) := by decide +kernel
theorem f_361_112 : ftc (PT 361) 112 = some (112, .iconst 0, 1, 0, 0, 0) := by decide +kernel
theorem f_361_113 : ftc (PT 361) 113 = some (113, .goto 13, 3, 126, 0, 0) := by decide +kernel
theorem f_361_116 : ftc (PT 361) 116 = some (116, .iload_n 1, 1, 0, 0, 0) := by decide +kernel
theorem f_361_117 : ftc (PT 361) 117 = some (117, .iload_n 2, 1, 0, 0, 0) := by decide +kernel
theorem f_361_118 : ftc (PT 361) 118 = some (118, .if_icmp .ge 7, 3, 125, 0, 0) := by decide +kernel
theorem f_361_121 : ftc (PT 361) 121 = some (121, .iconst 1, 1, 0, 0, 0) := by decide +kernel
theorem f_361_122 : ftc (PT 361) 122 = some (122, .goto 4, 3, 126, 0, 0) := by decide +kernel
theorem f_361_125 : ftc (PT 361) 125 = some (125, .iconst 0, 1, 0, 0, 0) := by decide +kernel
theorem f_361_126 : ftc (PT 361) 126 = some (126, .ireturn, 1, 1, 0, 0) := by decide +kernel
theorem f_362_100 : ftc (PT 362) 100 = some (100, .ireturn, 1, 0, 0, 0) := by decide +kernel
theorem f_362_105 : ftc (PT 362) 105 = some (105, .ifCond .eq 7, 3, 112, 0, 0) := by decide +kernel
theorem f_362_108 : ftc (PT 362) 108 = some (108, .iconst 1, 1, 0, 0, 0) := by decide +kernel
theorem f_362_109 : ftc (PT 362) 109 = some (109, .goto 4, 3, 113, 0, 0) := by decide +kernel
theorem f_362_112 : ftc (PT 362) 112 = some (112, .iconst 0, 1, 0, 0, 0) := by decide +kernel
theorem f_362_113 : ftc (PT 362) 113 = some (113, .ireturn, 1, 0, 0, 0) := by decide +kernel
theorem f_362_118 : ftc (PT 362) 118 = some (118, .ireturn, 1, 0, 0, 0) := by decide +kernel
theorem f_362_123 : ftc (PT 362) 123 = some (123, .ireturn, 1, 0, 0, 0) := by decide +kernel
theorem f_363_4 : ftc (PT 363) 4 = some (4, .iload_n 2, 1, 0, 0, 0) := by decide +kernel
theorem f_363_5 : ftc (PT 363) 5 = some (5, .iconst 4, 1, 0, 0, 0) := by decide +kernel
theorem f_363_6 : ftc (PT 363) 6 = some (6, .if_icmp .ge 27, 3, 33, 0, 0) := by decide +kernel
theorem f_363_9 : ftc (PT 363) 9 = some (9, .iload_n 1, 1, 0, 0, 0) := by decide +kernel
theorem f_363_10 : ftc (PT 363) 10 = some (10, .aload_n 0, 1, 0, 0, 0) := by decide +kernel
theorem f_363_11 : ftc (PT 363) 11 = some (11, .iload_n 2, 1, 0, 0, 0) := by decide +kernel
theorem f_363_12 : ftc (PT 363) 12 = some (12, .invokevirtual 511, 3, 357, 2092, 2347) := by decide +kernel
theorem f_363_15 : ftc (PT 363) 15 = some (15, .ifCond .eq 9, 3, 24, 0, 0) := by decide +kernel
theorem f_363_18 : ftc (PT 363) 18 = some (18, .iconst 1, 1, 0, 0, 0) := by decide +kernel
theorem f_363_19 : ftc (PT 363) 19 = some (19, .iload_n 2, 1, 0, 0, 0) := by decide +kernel
theorem f_363_20 : ftc (PT 363) 20 = some (20, .ishl, 1, 0, 0, 0) := by decide +kernel
theorem f_363_21 : ftc (PT 363) 21 = some (21, .goto 4, 3, 25, 0, 0) := by decide +kernel
theorem f_363_24 : ftc (PT 363) 24 = some (24, .iconst 0, 1, 0, 0, 0) := by decide +kernel
theorem f_363_25 : ftc (PT 363) 25 = some (25, .ior, 1, 0, 0, 0) := by decide +kernel
theorem f_363_26 : ftc (PT 363) 26 = some (26, .istore_n 1, 1, 0, 0, 0) := by decide +kernel
theorem f_363_27 : ftc (PT 363) 27 = some (27, .iinc 2 1, 3, 0, 0, 0) := by decide +kernel
theorem f_363_30 : ftc (PT 363) 30 = some (30, .goto (-26), 3, 4, 0, 0) := by decide +kernel
theorem f_363_33 : ftc (PT 363) 33 = some (33, .iload_n 1, 1, 0, 0, 0) := by decide +kernel
theorem f_363_34 : ftc (PT 363) 34 = some (34, .ireturn, 1, 0, 0, 0) := by decide +kernel
theorem f_364_8 : ftc (PT 364) 8 = some (8, .aload_n 0, 1, 0, 0, 0) := by decide +kernel
theorem f_364_9 : ftc (PT 364) 9 = some (9, .invokevirtual 403, 3, 317, 1036, 2185) := by decide +kernel
theorem f_364_12 : ftc (PT 364) 12 = some (12, .ireturn, 1, 1, 0, 0) := by decide +kernel
theorem f_365_2 : ftc (PT 365) 2 = some (2, .iload_n 1, 1, 0, 0, 0) := by decide +kernel
theorem f_365_3 : ftc (PT 365) 3 = some (3, .ifCond .le 18, 3, 21, 0, 0) := by decide +kernel
theorem f_365_6 : ftc (PT 365) 6 = some (6, .aload_n 0, 1, 0, 0, 0) := by decide +kernel
theorem f_365_7 : ftc (PT 365) 7 = some (7, .iload_n 1, 1, 0, 0, 0) := by decide +kernel
theorem f_365_8 : ftc (PT 365) 8 = some (8, .iconst 0, 1, 0, 0, 0) := by decide +kernel
theorem f_365_9 : ftc (PT 365) 9 = some (9, .invokevirtual 496, 3, 348, 3148, 2312) := by decide +kernel
theorem f_365_12 : ftc (PT 365) 12 = some (12, .ifCond .ne 9, 3, 21, 0, 0) := by decide +kernel
theorem f_365_15 : ftc (PT 365) 15 = some (15, .iinc 1 (-1), 3, 0, 0, 0) := by decide +kernel
theorem f_365_18 : ftc (PT 365) 18 = some (18, .goto (-16), 3, 2, 0, 0) := by decide +kernel
theorem f_365_21 : ftc (PT 365) 21 = some (21, .iload_n 1, 1, 0, 0, 0) := by decide +kernel
theorem f_365_22 : ftc (PT 365) 22 = some (22, .ireturn, 1, 0, 0, 0) := by decide +kernel
theorem f_366_4 : ftc (PT 366) 4 = some (4, .iload_n 2, 1, 0, 0, 0) := by decide +kernel
theorem f_366_5 : ftc (PT 366) 5 = some (5, .iconst 3, 1, 0, 0, 0) := by decide +kernel
theorem f_366_6 : ftc (PT 366) 6 = some (6, .if_icmp .gt 48, 3, 54, 0, 0) := by decide +kernel
theorem f_366_9 : ftc (PT 366) 9 = some (9, .aload_n 0, 1, 0, 0, 0) := by decide +kernel
theorem f_366_10 : ftc (PT 366) 10 = some (10, .iload_n 2, 1, 0, 0, 0) := by decide +kernel
theorem f_366_11 : ftc (PT 366) 11 = some (11, .iconst 0, 1, 0, 0, 0) := by decide +kernel
theorem f_366_12 : ftc (PT 366) 12 = some (12, .invokevirtual 488, 3, 339, 8268, 2273) := by decide +kernel
theorem f_366_15 : ftc (PT 366) 15 = some (15, .aload_n 0, 1, 0, 0, 0) := by decide +kernel
theorem f_366_16 : ftc (PT 366) 16 = some (16, .bipush 10, 2, 0, 0, 0) := by decide +kernel
theorem f_366_18 : ftc (PT 366) 18 = some (18, .bipush 8, 2, 0, 0, 0) := by decide +kernel
theorem f_366_20 : ftc (PT 366) 20 = some (20, .lconst 1, 1, 0, 0, 0) := by decide +kernel
theorem f_366_21 : ftc (PT 366) 21 = some (21, .bipush 9, 2, 0, 0, 0) := by decide +kernel
theorem f_366_23 : ftc (PT 366) 23 = some (23, .ldc2_w 463, 3, 2302, 0, (-1)) := by decide +kernel
theorem f_366_26 : ftc (PT 366) 26 = some (26, .invokevirtual 465, 3, 342, 13484, 2286) := by decide +kernel
theorem f_366_29 : ftc (PT 366) 29 = some (29, .iload_n 1, 1, 0, 0, 0) := by decide +kernel
theorem f_366_30 : ftc (PT 366) 30 = some (30, .aload_n 0, 1, 0, 0, 0) := by decide +kernel
theorem f_366_31 : ftc (PT 366) 31 = some (31, .bipush 10, 2, 0, 0, 0) := by decide +kernel
theorem f_366_33 : ftc (PT 366) 33 = some (33, .invokevirtual 460, 3, 345, 3116, 2298) := by decide +kernel
theorem f_366_36 : ftc (PT 366) 36 = some (36, .ifCond .ne 9, 3, 45, 0, 0) := by decide +kernel
theorem f_366_39 : ftc (PT 366) 39 = some (39, .iconst 1, 1, 0, 0, 0) := by decide +kernel
theorem f_366_40 : ftc (PT 366) 40 = some (40, .iload_n 2, 1, 0, 0, 0) := by decide +kernel
theorem f_366_41 : ftc (PT 366) 41 = some (41, .ishl, 1, 0, 0, 0) := by decide +kernel
theorem f_366_42 : ftc (PT 366) 42 = some (42, .goto 4, 3, 46, 0, 0) := by decide +kernel
theorem f_366_45 : ftc (PT 366) 45 = some (45, .iconst 0, 1, 0, 0, 0) := by decide +kernel
theorem f_366_46 : ftc (PT 366) 46 = some (46, .ior, 1, 0, 0, 0) := by decide +kernel
theorem f_366_47 : ftc (PT 366) 47 = some (47, .istore_n 1, 1, 0, 0, 0) := by decide +kernel
theorem f_366_48 : ftc (PT 366) 48 = some (48, .iinc 2 1, 3, 0, 0, 0) := by decide +kernel
theorem f_366_51 : ftc (PT 366) 51 = some (51, .goto (-47), 3, 4, 0, 0) := by decide +kernel
theorem f_366_54 : ftc (PT 366) 54 = some (54, .iload_n 1, 1, 0, 0, 0) := by decide +kernel
theorem f_366_55 : ftc (PT 366) 55 = some (55, .ireturn, 1, 0, 0, 0) := by decide +kernel
theorem f_368_10 : ftc (PT 368) 10 = some (10, .i2l, 1, 0, 0, 0) := by decide +kernel
theorem f_368_11 : ftc (PT 368) 11 = some (11, .lastore, 1, 0, 0, 0) := by decide +kernel
theorem f_368_12 : ftc (PT 368) 12 = some (12, .goto 11, 3, 23, 0, 0) := by decide +kernel
theorem f_368_23 : ftc (PT 368) 23 = some (23, .iconst 0, 1, 0, 0, 0) := by decide +kernel
theorem f_368_24 : ftc (PT 368) 24 = some (24, .ireturn, 1, 0, 0, 0) := by decide +kernel
theorem f_370_7 : ftc (PT 370) 7 = some (7, .goto 11, 3, 18, 0, 0) := by decide +kernel
theorem f_370_18 : ftc (PT 370) 18 = some (18, .iconst 0, 1, 0, 0, 0) := by decide +kernel
theorem f_370_19 : ftc (PT 370) 19 = some (19, .ireturn, 1, 0, 0, 0) := by decide +kernel
theorem f_372_8 : ftc (PT 372) 8 = some (8, .i2l, 1, 0, 0, 0) := by decide +kernel
theorem f_372_9 : ftc (PT 372) 9 = some (9, .lastore, 1, 0, 0, 0) := by decide +kernel
theorem f_372_10 : ftc (PT 372) 10 = some (10, .goto 11, 3, 21, 0, 0) := by decide +kernel
theorem f_372_21 : ftc (PT 372) 21 = some (21, .iconst 0, 1, 0, 0, 0) := by decide +kernel
theorem f_372_22 : ftc (PT 372) 22 = some (22, .ireturn, 1, 0, 0, 0) := by decide +kernel
theorem f_373_10 : ftc (PT 373) 10 = some (10, .lastore, 1, 0, 0, 0) := by decide +kernel
theorem f_373_11 : ftc (PT 373) 11 = some (11, .goto 11, 3, 22, 0, 0) := by decide +kernel
theorem f_373_22 : ftc (PT 373) 22 = some (22, .iconst 0, 1, 0, 0, 0) := by decide +kernel
theorem f_373_23 : ftc (PT 373) 23 = some (23, .ireturn, 1, 0, 0, 0) := by decide +kernel
theorem f_374_7 : ftc (PT 374) 7 = some (7, .ifCond .eq 7, 3, 14, 0, 0) := by decide +kernel
theorem f_374_10 : ftc (PT 374) 10 = some (10, .lconst 1, 1, 0, 0, 0) := by decide +kernel
theorem f_374_11 : ftc (PT 374) 11 = some (11, .goto 4, 3, 15, 0, 0) := by decide +kernel
theorem f_374_14 : ftc (PT 374) 14 = some (14, .lconst 0, 1, 0, 0, 0) := by decide +kernel
theorem f_374_15 : ftc (PT 374) 15 = some (15, .lastore, 1, 0, 0, 0) := by decide +kernel
theorem f_374_16 : ftc (PT 374) 16 = some (16, .goto 6, 3, 22, 0, 0) := by decide +kernel
theorem f_374_22 : ftc (PT 374) 22 = some (22, .iconst 0, 1, 0, 0, 0) := by decide +kernel
theorem f_374_23 : ftc (PT 374) 23 = some (23, .ireturn, 1, 0, 0, 0) := by decide +kernel
theorem f_375_8 : ftc (PT 375) 8 = some (8, .lastore, 1, 0, 0, 0) := by decide +kernel
theorem f_375_9 : ftc (PT 375) 9 = some (9, .goto 7, 3, 16, 0, 0) := by decide +kernel
theorem f_375_16 : ftc (PT 375) 16 = some (16, .iconst 0, 1, 0, 0, 0) := by decide +kernel
theorem f_375_17 : ftc (PT 375) 17 = some (17, .ireturn, 1, 0, 0, 0) := by decide +kernel
theorem f_376_8 : ftc (PT 376) 8 = some (8, .i2l, 1, 0, 0, 0) := by decide +kernel
theorem f_376_9 : ftc (PT 376) 9 = some (9, .lastore, 1, 0, 0, 0) := by decide +kernel
theorem f_376_10 : ftc (PT 376) 10 = some (10, .goto 7, 3, 17, 0, 0) := by decide +kernel
theorem f_376_17 : ftc (PT 376) 17 = some (17, .iconst 0, 1, 0, 0, 0) := by decide +kernel
theorem f_376_18 : ftc (PT 376) 18 = some (18, .ireturn, 1, 0, 0, 0) := by decide +kernel
theorem f_377_8 : ftc (PT 377) 8 = some (8, .ifCond .eq 7, 3, 15, 0, 0) := by decide +kernel
theorem f_377_11 : ftc (PT 377) 11 = some (11, .lconst 1, 1, 0, 0, 0) := by decide +kernel
theorem f_377_12 : ftc (PT 377) 12 = some (12, .goto 4, 3, 16, 0, 0) := by decide +kernel
theorem f_377_15 : ftc (PT 377) 15 = some (15, .lconst 0, 1, 0, 0, 0) := by decide +kernel
theorem f_377_16 : ftc (PT 377) 16 = some (16, .lastore, 1, 0, 0, 0) := by decide +kernel
theorem f_377_17 : ftc (PT 377) 17 = some (17, .goto 7, 3, 24, 0, 0) := by decide +kernel
theorem f_377_24 : ftc (PT 377) 24 = some (24, .iconst 0, 1, 0, 0, 0) := by decide +kernel
theorem f_377_25 : ftc (PT 377) 25 = some (25, .ireturn, 1, 0, 0, 0) := by decide +kernel
theorem f_378_10 : ftc (PT 378) 10 = some (10, .i2l, 1, 0, 0, 0) := by decide +kernel
theorem f_378_11 : ftc (PT 378) 11 = some (11, .lastore, 1, 0, 0, 0) := by decide +kernel
theorem f_378_12 : ftc (PT 378) 12 = some (12, .goto 11, 3, 23, 0, 0) := by decide +kernel
theorem f_378_23 : ftc (PT 378) 23 = some (23, .iconst 0, 1, 0, 0, 0) := by decide +kernel
theorem f_378_24 : ftc (PT 378) 24 = some (24, .ireturn, 1, 0, 0, 0) := by decide +kernel
theorem f_379_12 : ftc (PT 379) 12 = some (12, .i2l, 1, 0, 0, 0) := by decide +kernel
theorem f_379_13 : ftc (PT 379) 13 = some (13, .lastore, 1, 0, 0, 0) := by decide +kernel
theorem f_379_14 : ftc (PT 379) 14 = some (14, .goto 7, 3, 21, 0, 0) := by decide +kernel
theorem f_379_21 : ftc (PT 379) 21 = some (21, .iconst 0, 1, 0, 0, 0) := by decide +kernel
theorem f_379_22 : ftc (PT 379) 22 = some (22, .ireturn, 1, 0, 0, 0) := by decide +kernel
theorem f_380_14 : ftc (PT 380) 14 = some (14, .i2l, 1, 0, 0, 0) := by decide +kernel
theorem f_380_15 : ftc (PT 380) 15 = some (15, .lastore, 1, 0, 0, 0) := by decide +kernel
theorem f_380_16 : ftc (PT 380) 16 = some (16, .goto 7, 3, 23, 0, 0) := by decide +kernel
theorem f_380_23 : ftc (PT 380) 23 = some (23, .iconst 0, 1, 0, 0, 0) := by decide +kernel
theorem f_380_24 : ftc (PT 380) 24 = some (24, .ireturn, 1, 0, 0, 0) := by decide +kernel
theorem f_381_12 : ftc (PT 381) 12 = some (12, .i2l, 1, 0, 0, 0) := by decide +kernel
theorem f_381_13 : ftc (PT 381) 13 = some (13, .lastore, 1, 0, 0, 0) := by decide +kernel
theorem f_381_14 : ftc (PT 381) 14 = some (14, .goto 7, 3, 21, 0, 0) := by decide +kernel
theorem f_381_21 : ftc (PT 381) 21 = some (21, .iconst 0, 1, 0, 0, 0) := by decide +kernel
theorem f_381_22 : ftc (PT 381) 22 = some (22, .ireturn, 1, 0, 0, 0) := by decide +kernel
theorem f_382_8 : ftc (PT 382) 8 = some (8, .i2l, 1, 0, 0, 0) := by decide +kernel
theorem f_382_9 : ftc (PT 382) 9 = some (9, .lastore, 1, 0, 0, 0) := by decide +kernel
theorem f_382_10 : ftc (PT 382) 10 = some (10, .goto 11, 3, 21, 0, 0) := by decide +kernel
theorem f_382_21 : ftc (PT 382) 21 = some (21, .iconst 0, 1, 0, 0, 0) := by decide +kernel
theorem f_382_22 : ftc (PT 382) 22 = some (22, .ireturn, 1, 0, 0, 0) := by decide +kernel
theorem f_383_10 : ftc (PT 383) 10 = some (10, .ifCond .eq 7, 3, 17, 0, 0) := by decide +kernel
theorem f_383_13 : ftc (PT 383) 13 = some (13, .lconst 1, 1, 0, 0, 0) := by decide +kernel
theorem f_383_14 : ftc (PT 383) 14 = some (14, .goto 4, 3, 18, 0, 0) := by decide +kernel
theorem f_383_17 : ftc (PT 383) 17 = some (17, .lconst 0, 1, 0, 0, 0) := by decide +kernel
theorem f_383_18 : ftc (PT 383) 18 = some (18, .lastore, 1, 0, 0, 0) := by decide +kernel
theorem f_383_19 : ftc (PT 383) 19 = some (19, .goto 11, 3, 30, 0, 0) := by decide +kernel
theorem f_383_30 : ftc (PT 383) 30 = some (30, .iconst 0, 1, 0, 0, 0) := by decide +kernel
theorem f_383_31 : ftc (PT 383) 31 = some (31, .ireturn, 1, 0, 0, 0) := by decide +kernel
theorem f_384_12 : ftc (PT 384) 12 = some (12, .lastore, 1, 0, 0, 0) := by decide +kernel
theorem f_384_13 : ftc (PT 384) 13 = some (13, .goto 11, 3, 24, 0, 0) := by decide +kernel
theorem f_384_24 : ftc (PT 384) 24 = some (24, .iconst 0, 1, 0, 0, 0) := by decide +kernel
theorem f_384_25 : ftc (PT 384) 25 = some (25, .ireturn, 1, 0, 0, 0) := by decide +kernel
theorem f_385_10 : ftc (PT 385) 10 = some (10, .lastore, 1, 0, 0, 0) := by decide +kernel
theorem f_385_11 : ftc (PT 385) 11 = some (11, .goto 11, 3, 22, 0, 0) := by decide +kernel
theorem f_385_22 : ftc (PT 385) 22 = some (22, .iconst 0, 1, 0, 0, 0) := by decide +kernel
theorem f_385_23 : ftc (PT 385) 23 = some (23, .ireturn, 1, 0, 0, 0) := by decide +kernel
theorem f_386_12 : ftc (PT 386) 12 = some (12, .lastore, 1, 0, 0, 0) := by decide +kernel
theorem f_386_13 : ftc (PT 386) 13 = some (13, .goto 11, 3, 24, 0, 0) := by decide +kernel
theorem f_386_24 : ftc (PT 386) 24 = some (24, .iconst 0, 1, 0, 0, 0) := by decide +kernel
theorem f_386_25 : ftc (PT 386) 25 = some (25, .ireturn, 1, 0, 0, 0) := by decide +kernel
theorem f_387_10 : ftc (PT 387) 10 = some (10, .lastore, 1, 0, 0, 0) := by decide +kernel
theorem f_387_11 : ftc (PT 387) 11 = some (11, .goto 11, 3, 22, 0, 0) := by decide +kernel
theorem f_387_22 : ftc (PT 387) 22 = some (22, .iconst 0, 1, 0, 0, 0) := by decide +kernel
theorem f_387_23 : ftc (PT 387) 23 = some (23, .ireturn, 1, 0, 0, 0) := by decide +kernel
theorem f_388_10 : ftc (PT 388) 10 = some (10, .i2l, 1, 0, 0, 0) := by decide +kernel
theorem f_388_11 : ftc (PT 388) 11 = some (11, .lastore, 1, 0, 0, 0) := by decide +kernel
theorem f_388_12 : ftc (PT 388) 12 = some (12, .goto 11, 3, 23, 0, 0) := by decide +kernel
theorem f_388_23 : ftc (PT 388) 23 = some (23, .iconst 0, 1, 0, 0, 0) := by decide +kernel
theorem f_388_24 : ftc (PT 388) 24 = some (24, .ireturn, 1, 0, 0, 0) := by decide +kernel
theorem f_389_10 : ftc (PT 389) 10 = some (10, .i2l, 1, 0, 0, 0) := by decide +kernel
theorem f_389_11 : ftc (PT 389) 11 = some (11, .lastore, 1, 0, 0, 0) := by decide +kernel
theorem f_389_12 : ftc (PT 389) 12 = some (12, .goto 7, 3, 19, 0, 0) := by decide +kernel
theorem f_389_19 : ftc (PT 389) 19 = some (19, .iconst 0, 1, 0, 0, 0) := by decide +kernel
theorem f_389_20 : ftc (PT 389) 20 = some (20, .ireturn, 1, 0, 0, 0) := by decide +kernel
theorem f_390_10 : ftc (PT 390) 10 = some (10, .lastore, 1, 0, 0, 0) := by decide +kernel
theorem f_390_11 : ftc (PT 390) 11 = some (11, .goto 11, 3, 22, 0, 0) := by decide +kernel
theorem f_390_22 : ftc (PT 390) 22 = some (22, .iconst 0, 1, 0, 0, 0) := by decide +kernel
theorem f_390_23 : ftc (PT 390) 23 = some (23, .ireturn, 1, 0, 0, 0) := by decide +kernel
theorem f_391_10 : ftc (PT 391) 10 = some (10, .i2l, 1, 0, 0, 0) := by decide +kernel
theorem f_391_11 : ftc (PT 391) 11 = some (11, .lastore, 1, 0, 0, 0) := by decide +kernel
theorem f_391_12 : ftc (PT 391) 12 = some (12, .goto 7, 3, 19, 0, 0) := by decide +kernel
theorem f_391_19 : ftc (PT 391) 19 = some (19, .iconst 0, 1, 0, 0, 0) := by decide +kernel
theorem f_391_20 : ftc (PT 391) 20 = some (20, .ireturn, 1, 0, 0, 0) := by decide +kernel
theorem f_392_12 : ftc (PT 392) 12 = some (12, .i2l, 1, 0, 0, 0) := by decide +kernel
theorem f_392_13 : ftc (PT 392) 13 = some (13, .lastore, 1, 0, 0, 0) := by decide +kernel
theorem f_392_14 : ftc (PT 392) 14 = some (14, .goto 15, 3, 29, 0, 0) := by decide +kernel
theorem f_392_29 : ftc (PT 392) 29 = some (29, .iconst 0, 1, 0, 0, 0) := by decide +kernel
theorem f_392_30 : ftc (PT 392) 30 = some (30, .ireturn, 1, 0, 0, 0) := by decide +kernel
theorem f_393_18 : ftc (PT 393) 18 = some (18, .lastore, 1, 0, 0, 0) := by decide +kernel
theorem f_393_19 : ftc (PT 393) 19 = some (19, .goto 15, 3, 34, 0, 0) := by decide +kernel
theorem f_393_34 : ftc (PT 393) 34 = some (34, .iconst 0, 1, 0, 0, 0) := by decide +kernel
theorem f_393_35 : ftc (PT 393) 35 = some (35, .ireturn, 1, 0, 0, 0) := by decide +kernel
theorem f_394_14 : ftc (PT 394) 14 = some (14, .i2l, 1, 0, 0, 0) := by decide +kernel
theorem f_394_15 : ftc (PT 394) 15 = some (15, .lastore, 1, 0, 0, 0) := by decide +kernel
theorem f_394_16 : ftc (PT 394) 16 = some (16, .goto 15, 3, 31, 0, 0) := by decide +kernel
theorem f_394_31 : ftc (PT 394) 31 = some (31, .iconst 0, 1, 0, 0, 0) := by decide +kernel
theorem f_394_32 : ftc (PT 394) 32 = some (32, .ireturn, 1, 0, 0, 0) := by decide +kernel
theorem f_395_14 : ftc (PT 395) 14 = some (14, .i2l, 1, 0, 0, 0) := by decide +kernel
theorem f_395_15 : ftc (PT 395) 15 = some (15, .lastore, 1, 0, 0, 0) := by decide +kernel
theorem f_395_16 : ftc (PT 395) 16 = some (16, .goto 19, 3, 35, 0, 0) := by decide +kernel
theorem f_395_35 : ftc (PT 395) 35 = some (35, .iconst 0, 1, 0, 0, 0) := by decide +kernel
theorem f_395_36 : ftc (PT 395) 36 = some (36, .ireturn, 1, 0, 0, 0) := by decide +kernel
theorem f_396_8 : ftc (PT 396) 8 = some (8, .i2l, 1, 0, 0, 0) := by decide +kernel
theorem f_396_9 : ftc (PT 396) 9 = some (9, .lastore, 1, 0, 0, 0) := by decide +kernel
theorem f_396_10 : ftc (PT 396) 10 = some (10, .goto 11, 3, 21, 0, 0) := by decide +kernel
theorem f_396_21 : ftc (PT 396) 21 = some (21, .iconst 0, 1, 0, 0, 0) := by decide +kernel
theorem f_396_22 : ftc (PT 396) 22 = some (22, .ireturn, 1, 0, 0, 0) := by decide +kernel
theorem f_397_14 : ftc (PT 397) 14 = some (14, .lastore, 1, 0, 0, 0) := by decide +kernel
theorem f_397_15 : ftc (PT 397) 15 = some (15, .goto 11, 3, 26, 0, 0) := by decide +kernel
theorem f_397_26 : ftc (PT 397) 26 = some (26, .iconst 0, 1, 0, 0, 0) := by decide +kernel
theorem f_397_27 : ftc (PT 397) 27 = some (27, .ireturn, 1, 0, 0, 0) := by decide +kernel
theorem f_398_10 : ftc (PT 398) 10 = some (10, .lastore, 1, 0, 0, 0) := by decide +kernel
theorem f_398_11 : ftc (PT 398) 11 = some (11, .goto 11, 3, 22, 0, 0) := by decide +kernel
theorem f_398_22 : ftc (PT 398) 22 = some (22, .iconst 0, 1, 0, 0, 0) := by decide +kernel
theorem f_398_23 : ftc (PT 398) 23 = some (23, .ireturn, 1, 0, 0, 0) := by decide +kernel
theorem f_399_8 : ftc (PT 399) 8 = some (8, .lastore, 1, 0, 0, 0) := by decide +kernel
theorem f_399_9 : ftc (PT 399) 9 = some (9, .goto 11, 3, 20, 0, 0) := by decide +kernel
theorem f_399_20 : ftc (PT 399) 20 = some (20, .iconst 0, 1, 0, 0, 0) := by decide +kernel
theorem f_399_21 : ftc (PT 399) 21 = some (21, .ireturn, 1, 0, 0, 0) := by decide +kernel
theorem f_400_7 : ftc (PT 400) 7 = some (7, .ifCond .eq 7, 3, 14, 0, 0) := by decide +kernel
theorem f_400_10 : ftc (PT 400) 10 = some (10, .lconst 1, 1, 0, 0, 0) := by decide +kernel
theorem f_400_11 : ftc (PT 400) 11 = some (11, .goto 4, 3, 15, 0, 0) := by decide +kernel
theorem f_400_14 : ftc (PT 400) 14 = some (14, .lconst 0, 1, 0, 0, 0) := by decide +kernel
theorem f_400_15 : ftc (PT 400) 15 = some (15, .lastore, 1, 0, 0, 0) := by decide +kernel
theorem f_400_16 : ftc (PT 400) 16 = some (16, .goto 9, 3, 25, 0, 0) := by decide +kernel
theorem f_400_25 : ftc (PT 400) 25 = some (25, .iconst 0, 1, 0, 0, 0) := by decide +kernel
theorem f_400_26 : ftc (PT 400) 26 = some (26, .ireturn, 1, 0, 0, 0) := by decide +kernel
theorem f_401_10 : ftc (PT 401) 10 = some (10, .i2l, 1, 0, 0, 0) := by decide +kernel
theorem f_401_11 : ftc (PT 401) 11 = some (11, .lastore, 1, 0, 0, 0) := by decide +kernel
theorem f_401_12 : ftc (PT 401) 12 = some (12, .goto 15, 3, 27, 0, 0) := by decide +kernel
theorem f_401_27 : ftc (PT 401) 27 = some (27, .iconst 0, 1, 0, 0, 0) := by decide +kernel
theorem f_401_28 : ftc (PT 401) 28 = some (28, .ireturn, 1, 0, 0, 0) := by decide +kernel
theorem f_402_8 : ftc (PT 402) 8 = some (8, .i2l, 1, 0, 0, 0) := by decide +kernel
theorem f_402_9 : ftc (PT 402) 9 = some (9, .lastore, 1, 0, 0, 0) := by decide +kernel
theorem f_402_10 : ftc (PT 402) 10 = some (10, .goto 15, 3, 25, 0, 0) := by decide +kernel
theorem f_402_25 : ftc (PT 402) 25 = some (25, .iconst 0, 1, 0, 0, 0) := by decide +kernel
theorem f_402_26 : ftc (PT 402) 26 = some (26, .ireturn, 1, 0, 0, 0) := by decide +kernel
theorem f_403_4 : ftc (PT 403) 4 = some (4, .goto 6, 3, 10, 0, 0) := by decide +kernel
theorem f_403_10 : ftc (PT 403) 10 = some (10, .iconst 0, 1, 0, 0, 0) := by decide +kernel
theorem f_403_11 : ftc (PT 403) 11 = some (11, .ireturn, 1, 0, 0, 0) := by decide +kernel
theorem f_404_8 : ftc (PT 404) 8 = some (8, .i2l, 1, 0, 0, 0) := by decide +kernel
theorem f_404_9 : ftc (PT 404) 9 = some (9, .lastore, 1, 0, 0, 0) := by decide +kernel
theorem f_404_10 : ftc (PT 404) 10 = some (10, .goto 15, 3, 25, 0, 0) := by decide +kernel
theorem f_404_25 : ftc (PT 404) 25 = some (25, .iconst 0, 1, 0, 0, 0) := by decide +kernel
theorem f_404_26 : ftc (PT 404) 26 = some (26, .ireturn, 1, 0, 0, 0) := by decide +kernel
theorem f_405_16 : ftc (PT 405) 16 = some (16, .i2l, 1, 0, 0, 0) := by decide +kernel
theorem f_405_17 : ftc (PT 405) 17 = some (17, .lastore, 1, 0, 0, 0) := by decide +kernel
theorem f_405_18 : ftc (PT 405) 18 = some (18, .goto 15, 3, 33, 0, 0) := by decide +kernel
theorem f_405_33 : ftc (PT 405) 33 = some (33, .iconst 0, 1, 0, 0, 0) := by decide +kernel
theorem f_405_34 : ftc (PT 405) 34 = some (34, .ireturn, 1, 0, 0, 0) := by decide +kernel
theorem f_406_22 : ftc (PT 406) 22 = some (22, .lastore, 1, 0, 0, 0) := by decide +kernel
theorem f_406_23 : ftc (PT 406) 23 = some (23, .goto 15, 3, 38, 0, 0) := by decide +kernel
theorem f_406_38 : ftc (PT 406) 38 = some (38, .iconst 0, 1, 0, 0, 0) := by decide +kernel
theorem f_406_39 : ftc (PT 406) 39 = some (39, .ireturn, 1, 0, 0, 0) := by decide +kernel
theorem f_407_14 : ftc (PT 407) 14 = some (14, .i2l, 1, 0, 0, 0) := by decide +kernel
theorem f_407_15 : ftc (PT 407) 15 = some (15, .lastore, 1, 0, 0, 0) := by decide +kernel
theorem f_407_16 : ftc (PT 407) 16 = some (16, .goto 15, 3, 31, 0, 0) := by decide +kernel
theorem f_407_31 : ftc (PT 407) 31 = some (31, .iconst 0, 1, 0, 0, 0) := by decide +kernel
theorem f_407_32 : ftc (PT 407) 32 = some (32, .ireturn, 1, 0, 0, 0) := by decide +kernel
theorem f_408_14 : ftc (PT 408) 14 = some (14, .lastore, 1, 0, 0, 0) := by decide +kernel
theorem f_408_15 : ftc (PT 408) 15 = some (15, .goto 19, 3, 34, 0, 0) := by decide +kernel
theorem f_408_34 : ftc (PT 408) 34 = some (34, .iconst 0, 1, 0, 0, 0) := by decide +kernel
theorem f_408_35 : ftc (PT 408) 35 = some (35, .ireturn, 1, 0, 0, 0) := by decide +kernel
theorem f_409_14 : ftc (PT 409) 14 = some (14, .i2l, 1, 0, 0, 0) := by decide +kernel
theorem f_409_15 : ftc (PT 409) 15 = some (15, .lastore, 1, 0, 0, 0) := by decide +kernel
theorem f_409_16 : ftc (PT 409) 16 = some (16, .goto 19, 3, 35, 0, 0) := by decide +kernel
theorem f_409_35 : ftc (PT 409) 35 = some (35, .iconst 0, 1, 0, 0, 0) := by decide +kernel
theorem f_409_36 : ftc (PT 409) 36 = some (36, .ireturn, 1, 0, 0, 0) := by decide +kernel
theorem f_410_8 : ftc (PT 410) 8 = some (8, .i2l, 1, 0, 0, 0) := by decide +kernel
theorem f_410_9 : ftc (PT 410) 9 = some (9, .lastore, 1, 0, 0, 0) := by decide +kernel
theorem f_410_10 : ftc (PT 410) 10 = some (10, .goto 15, 3, 25, 0, 0) := by decide +kernel
theorem f_410_25 : ftc (PT 410) 25 = some (25, .iconst 0, 1, 0, 0, 0) := by decide +kernel
theorem f_410_26 : ftc (PT 410) 26 = some (26, .ireturn, 1, 0, 0, 0) := by decide +kernel
theorem f_411_7 : ftc (PT 411) 7 = some (7, .i2l, 1, 0, 0, 0) := by decide +kernel
theorem f_411_8 : ftc (PT 411) 8 = some (8, .lastore, 1, 0, 0, 0) := by decide +kernel
theorem f_411_9 : ftc (PT 411) 9 = some (9, .goto 6, 3, 15, 0, 0) := by decide +kernel
theorem f_411_15 : ftc (PT 411) 15 = some (15, .iconst 0, 1, 0, 0, 0) := by decide +kernel
theorem f_411_16 : ftc (PT 411) 16 = some (16, .ireturn, 1, 0, 0, 0) := by decide +kernel
theorem f_412_7 : ftc (PT 412) 7 = some (7, .lastore, 1, 0, 0, 0) := by decide +kernel
theorem f_412_8 : ftc (PT 412) 8 = some (8, .goto 6, 3, 14, 0, 0) := by decide +kernel
theorem f_412_14 : ftc (PT 412) 14 = some (14, .iconst 0, 1, 0, 0, 0) := by decide +kernel
theorem f_412_15 : ftc (PT 412) 15 = some (15, .ireturn, 1, 0, 0, 0) := by decide +kernel
set_option maxRecDepth 10000 in
set_option maxHeartbeats 4000000 in
theorem s_356_42 {Lx : Nat} {I : Mi} {L : Ml} {e : Nat} {Q : Kq} (h :
    Q (.inl (some (.int (I 59 3)))) (gE Lx) I L e) :
    Wp 356 42 [(0, .ref 58)] [] (gE Lx) I L e Q := by
  refine w_a f_356_42 ?_
  refine w_a f_356_43 ?_
  refine w_a (ls := [(0, .ref 58)]) f_215_0 ?_
  refine w_a f_215_1 ?_
  refine w_a f_215_4 ?_
  refine w_a f_215_5 ?_
  refine w_a f_215_6 ?_
  refine w_a (ls := [(0, .ref 58)]) f_356_46 ?_
  exact h
set_option maxRecDepth 10000 in
set_option maxHeartbeats 4000000 in
theorem s_358_0 {Lx : Nat} {I : Mi} {L : Ml} {e : Nat} {Q : Kq} {x1 : Int32} (h :
    Wp 358 2 [(0, .ref 58), (1, .int x1), (2, .int (Int32.ofInt 0))] [] (gE Lx) I L e Q) :
    Wp 358 0 [(0, .ref 58), (1, .int x1)] [] (gE Lx) I L e Q := by
  refine w_a f_358_0 ?_
  refine w_a f_358_1 ?_
  exact w_n (ks := [0, 1, 2]) rfl h
set_option maxRecDepth 10000 in
set_option maxHeartbeats 4000000 in
theorem s_358_2 {Lx : Nat} {I : Mi} {L : Ml} {e : Nat} {Q : Kq} {x1 : Int32} {x2 : Int32} (h :
    (if x2 < (Int32.ofInt 16) then
     (inb (((Int32.ofInt 17) * x1) + x2) 68 (
      (inb x2 16 (
       Wp 358 2 [(0, .ref 58), (1, .int x1), (2, .int (x2 + Int32.ofInt 1))] [] (gE Lx) (ui I 59 x2.toNatClampNeg (I 60 ((((Int32.ofInt 17) * x1) + x2).toNatClampNeg))) L e Q)
      False))
     False)
    else
     Q (.inl none) (gE Lx) I L e)) :
    Wp 358 2 [(0, .ref 58), (1, .int x1), (2, .int x2)] [] (gE Lx) I L e Q := by
  refine w_a f_358_2 ?_
  refine w_a f_358_3 ?_
  refine w_a f_358_5 ?_
  refine i_m (fun h => ?_) (fun h => ?_) h
  · refine w_a f_358_8 ?_
    refine w_a f_358_9 ?_
    refine w_a f_358_12 ?_
    refine w_a f_358_13 ?_
    refine w_a f_358_14 ?_
    refine w_a f_358_17 ?_
    refine w_a f_358_19 ?_
    refine w_a f_358_20 ?_
    refine w_a f_358_21 ?_
    refine w_a f_358_22 ?_
    refine w_a f_358_23 ?_
    refine n_m (fun h => ?_) h
    refine w_a f_358_24 ?_
    refine n_m (fun h => ?_) h
    refine w_a f_358_25 ?_
    refine w_a (ls := [(2, .int (x2 + Int32.ofInt 1)), (0, .ref 58), (1, .int x1)]) f_358_28 ?_
    exact w_n (ks := [0, 1, 2]) rfl h
  · refine w_a f_358_31 ?_
    exact h
set_option maxRecDepth 10000 in
set_option maxHeartbeats 4000000 in
theorem s_359_9 {Lx : Nat} {I : Mi} {L : Ml} {e : Nat} {Q : Kq} {x1 : Int32} (h :
    Wp 359 11 [(0, .ref 58), (1, .int x1), (2, .int (Int32.ofInt 0))] [] (gE Lx) I L e Q) :
    Wp 359 9 [(0, .ref 58), (1, .int x1)] [] (gE Lx) I L e Q := by
  refine w_a f_359_9 ?_
  refine w_a f_359_10 ?_
  exact w_n (ks := [0, 1, 2]) rfl h
set_option maxRecDepth 10000 in
set_option maxHeartbeats 4000000 in
theorem s_359_11 {Lx : Nat} {I : Mi} {L : Ml} {e : Nat} {Q : Kq} {x1 : Int32} {x2 : Int32} (h :
    (if x2 < (Int32.ofInt 4) then
     (inb (((Int32.ofInt 17) * x2) + (Int32.ofInt 16)) 68 (
      (if (I 60 ((((Int32.ofInt 17) * x2) + (Int32.ofInt 16)).toNatClampNeg)) = (Int32.ofInt 1) then
       Wp 359 32 [(0, .ref 58), (1, .int x1), (2, .int x2), (3, .int (Int32.ofInt 0)), (4, .int (Int32.ofInt 0))] [] (gE Lx) I L e Q
      else
       Wp 359 11 [(0, .ref 58), (1, .int x1), (2, .int (x2 + Int32.ofInt 1))] [] (gE Lx) I L e Q))
     False)
    else
     Q (.inl (some (.int (Int32.ofInt (-1))))) (gE Lx) I L e)) :
    Wp 359 11 [(0, .ref 58), (1, .int x1), (2, .int x2)] [] (gE Lx) I L e Q := by
  refine w_a f_359_11 ?_
  refine w_a f_359_12 ?_
  refine w_a f_359_13 ?_
  refine i_m (fun h => ?_) (fun h => ?_) h
  · refine w_a f_359_16 ?_
    refine w_a f_359_17 ?_
    refine w_a f_359_18 ?_
    refine w_a (ls := [(0, .ref 58), (1, .int x2)]) f_357_0 ?_
    refine w_a f_357_1 ?_
    refine w_a f_357_4 ?_
    refine w_a f_357_6 ?_
    refine w_a f_357_7 ?_
    refine w_a f_357_8 ?_
    refine w_a f_357_10 ?_
    refine w_a f_357_11 ?_
    refine n_m (fun h => ?_) h
    refine w_a f_357_12 ?_
    refine w_a f_357_13 ?_
    refine i_m (fun h => ?_) (fun h => ?_) h
    · refine w_a f_357_16 ?_
      refine w_a f_357_17 ?_
      refine w_a f_357_21 ?_
      refine w_a (ls := [(0, .ref 58), (1, .int x1), (2, .int x2)]) f_359_21 ?_
      refine w_a f_359_27 ?_
      refine w_a f_359_28 ?_
      refine w_a (ls := [(3, .int (Int32.ofInt 0)), (0, .ref 58), (1, .int x1), (2, .int x2)]) f_359_29 ?_
      refine w_a f_359_30 ?_
      exact w_n (ks := [0, 1, 2, 3, 4]) rfl h
    · refine w_a f_357_20 ?_
      refine w_a f_357_21 ?_
      refine w_a (ls := [(0, .ref 58), (1, .int x1), (2, .int x2)]) f_359_21 ?_
      refine w_a f_359_24 ?_
      refine w_a f_359_84 ?_
      refine w_a (ls := [(2, .int (x2 + Int32.ofInt 1)), (0, .ref 58), (1, .int x1)]) f_359_87 ?_
      exact w_n (ks := [0, 1, 2]) rfl h
  · refine w_a f_359_90 ?_
    refine w_a f_359_91 ?_
    exact h
set_option maxRecDepth 10000 in
set_option maxHeartbeats 4000000 in
theorem s_359_32 {Lx : Nat} {I : Mi} {L : Ml} {e : Nat} {Q : Kq} {x1 : Int32} {x2 : Int32} {x3 : Int32} {x4 : Int32} (h :
    (if x4 < (Int32.ofInt 4) then
     (if x4 = x2 then
      Wp 359 32 [(0, .ref 58), (1, .int x1), (2, .int x2), (3, .int (x3 + (Int32.ofInt 0))), (4, .int (x4 + Int32.ofInt 1))] [] (gE Lx) I L e Q
     else
      (inb (((Int32.ofInt 17) * x4) + (Int32.ofInt 16)) 68 (
       (if (I 60 ((((Int32.ofInt 17) * x4) + (Int32.ofInt 16)).toNatClampNeg)) = (Int32.ofInt 1) then
        Wp 361 0 [(0, .ref 58), (1, .int x4), (2, .int x2)] [] (gE Lx) I L e (kcp (Wp 359) 359 58 0 [(0, .ref 58), (1, .int x1), (2, .int x2), (4, .int x4)] 71 [.int x3] Q)
       else
        Wp 359 32 [(0, .ref 58), (1, .int x1), (2, .int x2), (3, .int (x3 + (Int32.ofInt 0))), (4, .int (x4 + Int32.ofInt 1))] [] (gE Lx) I L e Q))
      False))
    else
     (if x3 = x1 then
      Q (.inl (some (.int x2))) (gE Lx) I L e
     else
      Wp 359 11 [(0, .ref 58), (1, .int x1), (2, .int (x2 + Int32.ofInt 1))] [] (gE Lx) I L e Q))) :
    Wp 359 32 [(0, .ref 58), (1, .int x1), (2, .int x2), (3, .int x3), (4, .int x4)] [] (gE Lx) I L e Q := by
  refine w_a f_359_32 ?_
  refine w_a f_359_34 ?_
  refine w_a f_359_35 ?_
  refine i_m (fun h => ?_) (fun h => ?_) h
  · refine w_a f_359_38 ?_
    refine w_a f_359_39 ?_
    refine w_a f_359_41 ?_
    refine w_a f_359_42 ?_
    refine i_m (fun h => ?_) (fun h => ?_) h
    · refine w_a f_359_68 ?_
      refine w_a f_359_69 ?_
      refine w_a f_359_70 ?_
      refine w_a (ls := [(3, .int (x3 + (Int32.ofInt 0))), (0, .ref 58), (1, .int x1), (2, .int x2), (4, .int x4)]) f_359_71 ?_
      refine w_a (ls := [(4, .int (x4 + Int32.ofInt 1)), (3, .int (x3 + (Int32.ofInt 0))), (0, .ref 58), (1, .int x1), (2, .int x2)]) f_359_74 ?_
      exact w_n (ks := [0, 1, 2, 3, 4]) rfl h
    · refine w_a f_359_45 ?_
      refine w_a f_359_46 ?_
      refine w_a f_359_48 ?_
      refine w_a (ls := [(0, .ref 58), (1, .int x4)]) f_357_0 ?_
      refine w_a f_357_1 ?_
      refine w_a f_357_4 ?_
      refine w_a f_357_6 ?_
      refine w_a f_357_7 ?_
      refine w_a f_357_8 ?_
      refine w_a f_357_10 ?_
      refine w_a f_357_11 ?_
      refine n_m (fun h => ?_) h
      refine w_a f_357_12 ?_
      refine w_a f_357_13 ?_
      refine i_m (fun h => ?_) (fun h => ?_) h
      · refine w_a f_357_16 ?_
        refine w_a f_357_17 ?_
        refine w_a f_357_21 ?_
        refine w_a (ls := [(0, .ref 58), (1, .int x1), (2, .int x2), (3, .int x3), (4, .int x4)]) f_359_51 ?_
        refine w_a f_359_54 ?_
        refine w_a f_359_55 ?_
        refine w_a f_359_57 ?_
        exact w_c (ks := [0, 1, 2, 4]) f_359_58 rfl rfl h
      · refine w_a f_357_20 ?_
        refine w_a f_357_21 ?_
        refine w_a (ls := [(0, .ref 58), (1, .int x1), (2, .int x2), (3, .int x3), (4, .int x4)]) f_359_51 ?_
        refine w_a f_359_68 ?_
        refine w_a f_359_69 ?_
        refine w_a f_359_70 ?_
        refine w_a (ls := [(3, .int (x3 + (Int32.ofInt 0))), (0, .ref 58), (1, .int x1), (2, .int x2), (4, .int x4)]) f_359_71 ?_
        refine w_a (ls := [(4, .int (x4 + Int32.ofInt 1)), (3, .int (x3 + (Int32.ofInt 0))), (0, .ref 58), (1, .int x1), (2, .int x2)]) f_359_74 ?_
        exact w_n (ks := [0, 1, 2, 3, 4]) rfl h
  · refine w_a f_359_77 ?_
    refine w_a f_359_78 ?_
    refine w_a f_359_79 ?_
    refine i_m (fun h => ?_) (fun h => ?_) h
    · refine w_a f_359_82 ?_
      refine w_a f_359_83 ?_
      exact h
    · refine w_a f_359_84 ?_
      refine w_a (ls := [(2, .int (x2 + Int32.ofInt 1)), (0, .ref 58), (1, .int x1), (3, .int x3), (4, .int x4)]) f_359_87 ?_
      exact w_n (ks := [0, 1, 2]) rfl h
set_option maxRecDepth 10000 in
set_option maxHeartbeats 4000000 in
theorem s_359_61 {Lx : Nat} {I : Mi} {L : Ml} {e : Nat} {Q : Kq} {x1 : Int32} {x2 : Int32} {x4 : Int32} {r0 : Int32} {r : Int32} (h :
    (if r = 0 then
     Wp 359 32 [(0, .ref 58), (1, .int x1), (2, .int x2), (3, .int (r0 + (Int32.ofInt 0))), (4, .int (x4 + Int32.ofInt 1))] [] (gE Lx) I L e Q
    else
     Wp 359 32 [(0, .ref 58), (1, .int x1), (2, .int x2), (3, .int (r0 + (Int32.ofInt 1))), (4, .int (x4 + Int32.ofInt 1))] [] (gE Lx) I L e Q)) :
    Wp 359 61 [(0, .ref 58), (1, .int x1), (2, .int x2), (4, .int x4)] [.int r, .int r0] (gE Lx) I L e Q := by
  refine w_a f_359_61 ?_
  refine i_m (fun h => ?_) (fun h => ?_) h
  · refine w_a f_359_68 ?_
    refine w_a f_359_69 ?_
    refine w_a f_359_70 ?_
    refine w_a (ls := [(3, .int (r0 + (Int32.ofInt 0))), (0, .ref 58), (1, .int x1), (2, .int x2), (4, .int x4)]) f_359_71 ?_
    refine w_a (ls := [(4, .int (x4 + Int32.ofInt 1)), (3, .int (r0 + (Int32.ofInt 0))), (0, .ref 58), (1, .int x1), (2, .int x2)]) f_359_74 ?_
    exact w_n (ks := [0, 1, 2, 3, 4]) rfl h
  · refine w_a f_359_64 ?_
    refine w_a f_359_65 ?_
    refine w_a f_359_69 ?_
    refine w_a f_359_70 ?_
    refine w_a (ls := [(3, .int (r0 + (Int32.ofInt 1))), (0, .ref 58), (1, .int x1), (2, .int x2), (4, .int x4)]) f_359_71 ?_
    refine w_a (ls := [(4, .int (x4 + Int32.ofInt 1)), (3, .int (r0 + (Int32.ofInt 1))), (0, .ref 58), (1, .int x1), (2, .int x2)]) f_359_74 ?_
    exact w_n (ks := [0, 1, 2, 3, 4]) rfl h
set_option maxRecDepth 10000 in
set_option maxHeartbeats 4000000 in
theorem s_360_0 {Lx : Nat} {I : Mi} {L : Ml} {e : Nat} {Q : Kq} (h :
    Wp 360 2 [(0, .ref 58), (1, .int (Int32.ofInt 0))] [] (gE Lx) I L e Q) :
    Wp 360 0 [(0, .ref 58)] [] (gE Lx) I L e Q := by
  refine w_a f_360_0 ?_
  refine w_a f_360_1 ?_
  exact w_n (ks := [0, 1]) rfl h
set_option maxRecDepth 10000 in
set_option maxHeartbeats 4000000 in
theorem s_360_2 {Lx : Nat} {I : Mi} {L : Ml} {e : Nat} {Q : Kq} {x1 : Int32} (h :
    (if x1 < (Int32.ofInt 16) then
     (inb x1 16 (
      (inb x1 16 (
       Wp 360 2 [(0, .ref 58), (1, .int (x1 + Int32.ofInt 1))] [] (gE Lx) (ui I 64 x1.toNatClampNeg (I 59 x1.toNatClampNeg)) L e Q)
      False))
     False)
    else
     Wp 360 28 [(0, .ref 58), (1, .int (Int32.ofInt 0))] [] (gE Lx) I L e Q)) :
    Wp 360 2 [(0, .ref 58), (1, .int x1)] [] (gE Lx) I L e Q := by
  refine w_a f_360_2 ?_
  refine w_a f_360_3 ?_
  refine w_a f_360_5 ?_
  refine i_m (fun h => ?_) (fun h => ?_) h
  · refine w_a f_360_8 ?_
    refine w_a f_360_9 ?_
    refine w_a f_360_12 ?_
    refine w_a f_360_13 ?_
    refine w_a f_360_14 ?_
    refine w_a f_360_17 ?_
    refine w_a f_360_18 ?_
    refine n_m (fun h => ?_) h
    refine w_a f_360_19 ?_
    refine n_m (fun h => ?_) h
    refine w_a f_360_20 ?_
    refine w_a (ls := [(1, .int (x1 + Int32.ofInt 1)), (0, .ref 58)]) f_360_23 ?_
    exact w_n (ks := [0, 1]) rfl h
  · refine w_a f_360_26 ?_
    refine w_a f_360_27 ?_
    exact w_n (ks := [0, 1]) rfl h
set_option maxRecDepth 10000 in
set_option maxHeartbeats 4000000 in
theorem s_360_28 {Lx : Nat} {I : Mi} {L : Ml} {e : Nat} {Q : Kq} {x1 : Int32} (h :
    (if x1 < (Int32.ofInt 4) then
     (inb (((Int32.ofInt 17) * x1) + (Int32.ofInt 16)) 68 (
      (if (I 60 ((((Int32.ofInt 17) * x1) + (Int32.ofInt 16)).toNatClampNeg)) = (Int32.ofInt 1) then
       Wp 358 0 [(0, .ref 58), (1, .int x1)] [] (gE Lx) I L e (kcp (Wp 360) 360 46 0 [(0, .ref 58), (1, .int x1)] 71 [] Q)
      else
       Wp 360 28 [(0, .ref 58), (1, .int (x1 + Int32.ofInt 1))] [] (gE Lx) I L e Q))
     False)
    else
     Wp 360 101 [(0, .ref 58), (1, .int (Int32.ofInt 0))] [] (gE Lx) I L e Q)) :
    Wp 360 28 [(0, .ref 58), (1, .int x1)] [] (gE Lx) I L e Q := by
  refine w_a f_360_28 ?_
  refine w_a f_360_29 ?_
  refine w_a f_360_30 ?_
  refine i_m (fun h => ?_) (fun h => ?_) h
  · refine w_a f_360_33 ?_
    refine w_a f_360_34 ?_
    refine w_a f_360_35 ?_
    refine w_a (ls := [(0, .ref 58), (1, .int x1)]) f_357_0 ?_
    refine w_a f_357_1 ?_
    refine w_a f_357_4 ?_
    refine w_a f_357_6 ?_
    refine w_a f_357_7 ?_
    refine w_a f_357_8 ?_
    refine w_a f_357_10 ?_
    refine w_a f_357_11 ?_
    refine n_m (fun h => ?_) h
    refine w_a f_357_12 ?_
    refine w_a f_357_13 ?_
    refine i_m (fun h => ?_) (fun h => ?_) h
    · refine w_a f_357_16 ?_
      refine w_a f_357_17 ?_
      refine w_a f_357_21 ?_
      refine w_a (ls := [(0, .ref 58), (1, .int x1)]) f_360_38 ?_
      refine w_a f_360_44 ?_
      refine w_a f_360_45 ?_
      exact w_c (ks := [0, 1]) f_360_46 rfl rfl h
    · refine w_a f_357_20 ?_
      refine w_a f_357_21 ?_
      refine w_a (ls := [(0, .ref 58), (1, .int x1)]) f_360_38 ?_
      refine w_a f_360_41 ?_
      refine w_a f_360_93 ?_
      refine w_a (ls := [(1, .int (x1 + Int32.ofInt 1)), (0, .ref 58)]) f_360_96 ?_
      exact w_n (ks := [0, 1]) rfl h
  · refine w_a f_360_99 ?_
    refine w_a f_360_100 ?_
    exact w_n (ks := [0, 1]) rfl h
set_option maxRecDepth 10000 in
set_option maxHeartbeats 4000000 in
theorem s_360_49 {Lx : Nat} {I : Mi} {L : Ml} {e : Nat} {Q : Kq} {x1 : Int32} (h :
    Wp 351 0 [(0, .ref 58)] [] (gE Lx) I L e (kcp (Wp 360) 360 55 0 [(0, .ref 58), (1, .int x1)] 71 [.int x1, .ref 66] Q)) :
    Wp 360 49 [(0, .ref 58), (1, .int x1)] [] (gE Lx) I L e Q := by
  refine w_a f_360_49 ?_
  refine w_a f_360_50 ?_
  refine w_a f_360_53 ?_
  refine w_a f_360_54 ?_
  exact w_c (ks := [0, 1]) f_360_55 rfl rfl h
set_option maxRecDepth 10000 in
set_option maxHeartbeats 4000000 in
theorem s_360_58 {Lx : Nat} {I : Mi} {L : Ml} {e : Nat} {Q : Kq} {x1 : Int32} {r1 : Int32} {r : Int32} (h :
    (inb r1 4 (
     Wp 353 0 [(0, .ref 58)] [] (gE Lx) (ui I 66 r1.toNatClampNeg r) L e (kcp (Wp 360) 360 60 0 [(0, .ref 58), (1, .int x1)] 71 [] Q))
    False)) :
    Wp 360 58 [(0, .ref 58), (1, .int x1)] [.int r, .int r1, .ref 66] (gE Lx) I L e Q := by
  refine w_a f_360_58 ?_
  refine n_m (fun h => ?_) h
  refine w_a f_360_59 ?_
  exact w_c (ks := [0, 1]) f_360_60 rfl rfl h
set_option maxRecDepth 10000 in
set_option maxHeartbeats 4000000 in
theorem s_360_63 {Lx : Nat} {I : Mi} {L : Ml} {e : Nat} {Q : Kq} {x1 : Int32} (h :
    (inb x1 4 (
     (inb x1 4 (
      (inb x1 4 (
       Wp 360 28 [(0, .ref 58), (1, .int (x1 + Int32.ofInt 1))] [] (gE Lx) (ui I 67 x1.toNatClampNeg (I 58 39)) (ul (ul L 68 x1.toNatClampNeg (L 58 8)) 69 x1.toNatClampNeg (L 58 9)) e Q)
      False))
     False))
    False)) :
    Wp 360 63 [(0, .ref 58), (1, .int x1)] [] (gE Lx) I L e Q := by
  refine w_a f_360_63 ?_
  refine w_a f_360_64 ?_
  refine w_a f_360_67 ?_
  refine w_a f_360_68 ?_
  refine w_a f_360_69 ?_
  refine w_a f_360_72 ?_
  refine n_m (fun h => ?_) h
  refine w_a f_360_73 ?_
  refine w_a f_360_74 ?_
  refine w_a f_360_77 ?_
  refine w_a f_360_78 ?_
  refine w_a f_360_79 ?_
  refine w_a f_360_82 ?_
  refine n_m (fun h => ?_) h
  refine w_a f_360_83 ?_
  refine w_a f_360_84 ?_
  refine w_a f_360_87 ?_
  refine w_a f_360_88 ?_
  refine w_a f_360_89 ?_
  refine w_a f_360_92 ?_
  refine n_m (fun h => ?_) h
  refine w_a f_360_93 ?_
  refine w_a (ls := [(1, .int (x1 + Int32.ofInt 1)), (0, .ref 58)]) f_360_96 ?_
  exact w_n (ks := [0, 1]) rfl h
set_option maxRecDepth 10000 in
set_option maxHeartbeats 4000000 in
theorem s_360_101 {Lx : Nat} {I : Mi} {L : Ml} {e : Nat} {Q : Kq} {x1 : Int32} (h :
    (if x1 < (Int32.ofInt 16) then
     (inb x1 16 (
      (inb x1 16 (
       Wp 360 101 [(0, .ref 58), (1, .int (x1 + Int32.ofInt 1))] [] (gE Lx) (ui I 59 x1.toNatClampNeg (I 64 x1.toNatClampNeg)) L e Q)
      False))
     False)
    else
     Q (.inl none) (gE Lx) I L e)) :
    Wp 360 101 [(0, .ref 58), (1, .int x1)] [] (gE Lx) I L e Q := by
  refine w_a f_360_101 ?_
  refine w_a f_360_102 ?_
  refine w_a f_360_104 ?_
  refine i_m (fun h => ?_) (fun h => ?_) h
  · refine w_a f_360_107 ?_
    refine w_a f_360_108 ?_
    refine w_a f_360_111 ?_
    refine w_a f_360_112 ?_
    refine w_a f_360_113 ?_
    refine w_a f_360_116 ?_
    refine w_a f_360_117 ?_
    refine n_m (fun h => ?_) h
    refine w_a f_360_118 ?_
    refine n_m (fun h => ?_) h
    refine w_a f_360_119 ?_
    refine w_a (ls := [(1, .int (x1 + Int32.ofInt 1)), (0, .ref 58)]) f_360_122 ?_
    exact w_n (ks := [0, 1]) rfl h
  · refine w_a f_360_125 ?_
    exact h
set_option maxRecDepth 10000 in
set_option maxHeartbeats 4000000 in
theorem s_361_0 {Lx : Nat} {I : Mi} {L : Ml} {e : Nat} {Q : Kq} {x1 : Int32} {x2 : Int32} (h :
    (inb x1 4 (
     (inb x2 4 (
      (if (I 66 x1.toNatClampNeg) = (I 66 x2.toNatClampNeg) then
       (inb x1 4 (
        (inb x2 4 (
         (if (I 67 x1.toNatClampNeg) = (I 67 x2.toNatClampNeg) then
          (inb x1 4 (
           (inb x1 4 (
            (inb x2 4 (
             (inb x2 4 (
              (if (L 68 x1.toNatClampNeg) < (Int64.ofInt 0) then
               (if (L 68 x2.toNatClampNeg) < (Int64.ofInt 0) then
                (if (((L 68 x1.toNatClampNeg) * (L 69 x2.toNatClampNeg)) - ((L 68 x2.toNatClampNeg) * (L 69 x1.toNatClampNeg))) < (Int64.ofInt 0) then
                 Q (.inl (some (.int (Int32.ofInt 1)))) (gE Lx) I L e
                else
                 (if (Int64.ofInt 0) < (((L 68 x1.toNatClampNeg) * (L 69 x2.toNatClampNeg)) - ((L 68 x2.toNatClampNeg) * (L 69 x1.toNatClampNeg))) then
                  Q (.inl (some (.int (Int32.ofInt 0)))) (gE Lx) I L e
                 else
                  (if x1 < x2 then
                   Q (.inl (some (.int (Int32.ofInt 1)))) (gE Lx) I L e
                  else
                   Q (.inl (some (.int (Int32.ofInt 0)))) (gE Lx) I L e)))
               else
                Q (.inl (some (.int (Int32.ofInt 0)))) (gE Lx) I L e)
              else
               (if (L 68 x2.toNatClampNeg) < (Int64.ofInt 0) then
                Q (.inl (some (.int (Int32.ofInt 1)))) (gE Lx) I L e
               else
                (if (((L 68 x1.toNatClampNeg) * (L 69 x2.toNatClampNeg)) - ((L 68 x2.toNatClampNeg) * (L 69 x1.toNatClampNeg))) < (Int64.ofInt 0) then
                 Q (.inl (some (.int (Int32.ofInt 1)))) (gE Lx) I L e
                else
                 (if (Int64.ofInt 0) < (((L 68 x1.toNatClampNeg) * (L 69 x2.toNatClampNeg)) - ((L 68 x2.toNatClampNeg) * (L 69 x1.toNatClampNeg))) then
                  Q (.inl (some (.int (Int32.ofInt 0)))) (gE Lx) I L e
                 else
                  (if x1 < x2 then
                   Q (.inl (some (.int (Int32.ofInt 1)))) (gE Lx) I L e
                  else
                   Q (.inl (some (.int (Int32.ofInt 0)))) (gE Lx) I L e))))))
             False))
            False))
           False))
          False)
         else
          (inb x1 4 (
           (inb x2 4 (
            (if (I 67 x1.toNatClampNeg) < (I 67 x2.toNatClampNeg) then
             Q (.inl (some (.int (Int32.ofInt 1)))) (gE Lx) I L e
            else
             Q (.inl (some (.int (Int32.ofInt 0)))) (gE Lx) I L e))
           False))
          False)))
        False))
       False)
      else
       (inb x1 4 (
        (inb x2 4 (
         (if (I 66 x2.toNatClampNeg) < (I 66 x1.toNatClampNeg) then
          Q (.inl (some (.int (Int32.ofInt 1)))) (gE Lx) I L e
         else
          Q (.inl (some (.int (Int32.ofInt 0)))) (gE Lx) I L e))
        False))
       False)))
     False))
    False)) :
    Wp 361 0 [(0, .ref 58), (1, .int x1), (2, .int x2)] [] (gE Lx) I L e Q := by
  refine w_a f_361_0 ?_
  refine w_a f_361_1 ?_
  refine w_a f_361_4 ?_
  refine w_a f_361_5 ?_
  refine n_m (fun h => ?_) h
  refine w_a f_361_6 ?_
  refine w_a f_361_7 ?_
  refine w_a f_361_10 ?_
  refine w_a f_361_11 ?_
  refine n_m (fun h => ?_) h
  refine w_a f_361_12 ?_
  refine i_m (fun h => ?_) (fun h => ?_) h
  · refine w_a f_361_36 ?_
    refine w_a f_361_37 ?_
    refine w_a f_361_40 ?_
    refine w_a f_361_41 ?_
    refine n_m (fun h => ?_) h
    refine w_a f_361_42 ?_
    refine w_a f_361_43 ?_
    refine w_a f_361_46 ?_
    refine w_a f_361_47 ?_
    refine n_m (fun h => ?_) h
    refine w_a f_361_48 ?_
    refine i_m (fun h => ?_) (fun h => ?_) h
    · refine w_a f_361_72 ?_
      refine w_a f_361_73 ?_
      refine w_a f_361_76 ?_
      refine w_a f_361_77 ?_
      refine n_m (fun h => ?_) h
      refine w_a f_361_78 ?_
      refine w_a f_361_79 ?_
      refine w_a f_361_82 ?_
      refine w_a f_361_83 ?_
      refine n_m (fun h => ?_) h
      refine w_a f_361_84 ?_
      refine w_a f_361_85 ?_
      refine w_a f_361_88 ?_
      refine w_a f_361_89 ?_
      refine n_m (fun h => ?_) h
      refine w_a f_361_90 ?_
      refine w_a f_361_91 ?_
      refine w_a f_361_94 ?_
      refine w_a f_361_95 ?_
      refine n_m (fun h => ?_) h
      refine w_a f_361_96 ?_
      refine w_a (ls := [(0, .long (L 68 x1.toNatClampNeg)), (2, .long (L 69 x1.toNatClampNeg)), (4, .long (L 68 x2.toNatClampNeg)), (6, .long (L 69 x2.toNatClampNeg))]) f_211_0 ?_
      refine w_a f_211_1 ?_
      refine w_a f_211_2 ?_
      refine i_m (fun h => ?_) (fun h => ?_) h
      · refine w_a f_211_6 ?_
        refine w_a f_211_7 ?_
        refine w_a f_211_11 ?_
        refine w_a (ls := [(8, .int (Int32.ofInt 1)), (0, .long (L 68 x1.toNatClampNeg)), (2, .long (L 69 x1.toNatClampNeg)), (4, .long (L 68 x2.toNatClampNeg)), (6, .long (L 69 x2.toNatClampNeg))]) f_211_13 ?_
        refine w_a f_211_15 ?_
        refine w_a f_211_16 ?_
        refine i_m (fun h => ?_) (fun h => ?_) h
        · refine w_a f_211_20 ?_
          refine w_a f_211_21 ?_
          refine w_a f_211_25 ?_
          refine w_a (ls := [(9, .int (Int32.ofInt 1)), (8, .int (Int32.ofInt 1)), (0, .long (L 68 x1.toNatClampNeg)), (2, .long (L 69 x1.toNatClampNeg)), (4, .long (L 68 x2.toNatClampNeg)), (6, .long (L 69 x2.toNatClampNeg))]) f_211_27 ?_
          refine w_a f_211_29 ?_
          refine w_a f_211_31 ?_
          refine w_a f_211_45 ?_
          refine w_a f_211_46 ?_
          refine w_a f_211_48 ?_
          refine w_a f_211_49 ?_
          refine w_a f_211_51 ?_
          refine w_a f_211_52 ?_
          refine w_a f_211_53 ?_
          refine w_a f_211_54 ?_
          refine w_a (ls := [(10, .long (((L 68 x1.toNatClampNeg) * (L 69 x2.toNatClampNeg)) - ((L 68 x2.toNatClampNeg) * (L 69 x1.toNatClampNeg)))), (9, .int (Int32.ofInt 1)), (8, .int (Int32.ofInt 1)), (0, .long (L 68 x1.toNatClampNeg)), (2, .long (L 69 x1.toNatClampNeg)), (4, .long (L 68 x2.toNatClampNeg)), (6, .long (L 69 x2.toNatClampNeg))]) f_211_56 ?_
          refine w_a f_211_58 ?_
          refine w_a f_211_59 ?_
          refine i_m (fun h => ?_) (fun h => ?_) h
          · refine w_a f_211_63 ?_
            refine w_a f_211_64 ?_
            refine w_a f_211_79 ?_
            refine w_a (ls := [(0, .ref 58), (1, .int x1), (2, .int x2)]) f_361_99 ?_
            refine w_a (ls := [(3, .int (Int32.ofInt (-1))), (0, .ref 58), (1, .int x1), (2, .int x2)]) f_361_100 ?_
            refine w_a f_361_101 ?_
            refine w_a f_361_104 ?_
            refine w_a f_361_105 ?_
            refine w_a f_361_108 ?_
            refine w_a f_361_109 ?_
            refine w_a f_361_126 ?_
            exact h
          · refine w_a f_211_67 ?_
            refine w_a f_211_69 ?_
            refine w_a f_211_70 ?_
            refine i_m (fun h => ?_) (fun h => ?_) h
            · refine w_a f_211_74 ?_
              refine w_a f_211_75 ?_
              refine w_a f_211_79 ?_
              refine w_a (ls := [(0, .ref 58), (1, .int x1), (2, .int x2)]) f_361_99 ?_
              refine w_a (ls := [(3, .int (Int32.ofInt 1)), (0, .ref 58), (1, .int x1), (2, .int x2)]) f_361_100 ?_
              refine w_a f_361_101 ?_
              refine w_a f_361_104 ?_
              refine w_a f_361_105 ?_
              refine w_a f_361_112 ?_
              refine w_a f_361_113 ?_
              refine w_a f_361_126 ?_
              exact h
            · refine w_a f_211_78 ?_
              refine w_a f_211_79 ?_
              refine w_a (ls := [(0, .ref 58), (1, .int x1), (2, .int x2)]) f_361_99 ?_
              refine w_a (ls := [(3, .int (Int32.ofInt 0)), (0, .ref 58), (1, .int x1), (2, .int x2)]) f_361_100 ?_
              refine w_a f_361_101 ?_
              refine w_a f_361_116 ?_
              refine w_a f_361_117 ?_
              refine w_a f_361_118 ?_
              refine i_m (fun h => ?_) (fun h => ?_) h
              · refine w_a f_361_121 ?_
                refine w_a f_361_122 ?_
                refine w_a f_361_126 ?_
                exact h
              · refine w_a f_361_125 ?_
                refine w_a f_361_126 ?_
                exact h
        · refine w_a f_211_24 ?_
          refine w_a f_211_25 ?_
          refine w_a (ls := [(9, .int (Int32.ofInt 0)), (8, .int (Int32.ofInt 1)), (0, .long (L 68 x1.toNatClampNeg)), (2, .long (L 69 x1.toNatClampNeg)), (4, .long (L 68 x2.toNatClampNeg)), (6, .long (L 69 x2.toNatClampNeg))]) f_211_27 ?_
          refine w_a f_211_29 ?_
          refine w_a f_211_31 ?_
          refine w_a f_211_34 ?_
          refine w_a f_211_36 ?_
          refine w_a f_211_39 ?_
          refine w_a f_211_40 ?_
          refine w_a f_211_44 ?_
          refine w_a (ls := [(0, .ref 58), (1, .int x1), (2, .int x2)]) f_361_99 ?_
          refine w_a (ls := [(3, .int (Int32.ofInt 1)), (0, .ref 58), (1, .int x1), (2, .int x2)]) f_361_100 ?_
          refine w_a f_361_101 ?_
          refine w_a f_361_104 ?_
          refine w_a f_361_105 ?_
          refine w_a f_361_112 ?_
          refine w_a f_361_113 ?_
          refine w_a f_361_126 ?_
          exact h
      · refine w_a f_211_10 ?_
        refine w_a f_211_11 ?_
        refine w_a (ls := [(8, .int (Int32.ofInt 0)), (0, .long (L 68 x1.toNatClampNeg)), (2, .long (L 69 x1.toNatClampNeg)), (4, .long (L 68 x2.toNatClampNeg)), (6, .long (L 69 x2.toNatClampNeg))]) f_211_13 ?_
        refine w_a f_211_15 ?_
        refine w_a f_211_16 ?_
        refine i_m (fun h => ?_) (fun h => ?_) h
        · refine w_a f_211_20 ?_
          refine w_a f_211_21 ?_
          refine w_a f_211_25 ?_
          refine w_a (ls := [(9, .int (Int32.ofInt 1)), (8, .int (Int32.ofInt 0)), (0, .long (L 68 x1.toNatClampNeg)), (2, .long (L 69 x1.toNatClampNeg)), (4, .long (L 68 x2.toNatClampNeg)), (6, .long (L 69 x2.toNatClampNeg))]) f_211_27 ?_
          refine w_a f_211_29 ?_
          refine w_a f_211_31 ?_
          refine w_a f_211_34 ?_
          refine w_a f_211_36 ?_
          refine w_a f_211_43 ?_
          refine w_a f_211_44 ?_
          refine w_a (ls := [(0, .ref 58), (1, .int x1), (2, .int x2)]) f_361_99 ?_
          refine w_a (ls := [(3, .int (Int32.ofInt (-1))), (0, .ref 58), (1, .int x1), (2, .int x2)]) f_361_100 ?_
          refine w_a f_361_101 ?_
          refine w_a f_361_104 ?_
          refine w_a f_361_105 ?_
          refine w_a f_361_108 ?_
          refine w_a f_361_109 ?_
          refine w_a f_361_126 ?_
          exact h
        · refine w_a f_211_24 ?_
          refine w_a f_211_25 ?_
          refine w_a (ls := [(9, .int (Int32.ofInt 0)), (8, .int (Int32.ofInt 0)), (0, .long (L 68 x1.toNatClampNeg)), (2, .long (L 69 x1.toNatClampNeg)), (4, .long (L 68 x2.toNatClampNeg)), (6, .long (L 69 x2.toNatClampNeg))]) f_211_27 ?_
          refine w_a f_211_29 ?_
          refine w_a f_211_31 ?_
          refine w_a f_211_45 ?_
          refine w_a f_211_46 ?_
          refine w_a f_211_48 ?_
          refine w_a f_211_49 ?_
          refine w_a f_211_51 ?_
          refine w_a f_211_52 ?_
          refine w_a f_211_53 ?_
          refine w_a f_211_54 ?_
          refine w_a (ls := [(10, .long (((L 68 x1.toNatClampNeg) * (L 69 x2.toNatClampNeg)) - ((L 68 x2.toNatClampNeg) * (L 69 x1.toNatClampNeg)))), (9, .int (Int32.ofInt 0)), (8, .int (Int32.ofInt 0)), (0, .long (L 68 x1.toNatClampNeg)), (2, .long (L 69 x1.toNatClampNeg)), (4, .long (L 68 x2.toNatClampNeg)), (6, .long (L 69 x2.toNatClampNeg))]) f_211_56 ?_
          refine w_a f_211_58 ?_
          refine w_a f_211_59 ?_
          refine i_m (fun h => ?_) (fun h => ?_) h
          · refine w_a f_211_63 ?_
            refine w_a f_211_64 ?_
            refine w_a f_211_79 ?_
            refine w_a (ls := [(0, .ref 58), (1, .int x1), (2, .int x2)]) f_361_99 ?_
            refine w_a (ls := [(3, .int (Int32.ofInt (-1))), (0, .ref 58), (1, .int x1), (2, .int x2)]) f_361_100 ?_
            refine w_a f_361_101 ?_
            refine w_a f_361_104 ?_
            refine w_a f_361_105 ?_
            refine w_a f_361_108 ?_
            refine w_a f_361_109 ?_
            refine w_a f_361_126 ?_
            exact h
          · refine w_a f_211_67 ?_
            refine w_a f_211_69 ?_
            refine w_a f_211_70 ?_
            refine i_m (fun h => ?_) (fun h => ?_) h
            · refine w_a f_211_74 ?_
              refine w_a f_211_75 ?_
              refine w_a f_211_79 ?_
              refine w_a (ls := [(0, .ref 58), (1, .int x1), (2, .int x2)]) f_361_99 ?_
              refine w_a (ls := [(3, .int (Int32.ofInt 1)), (0, .ref 58), (1, .int x1), (2, .int x2)]) f_361_100 ?_
              refine w_a f_361_101 ?_
              refine w_a f_361_104 ?_
              refine w_a f_361_105 ?_
              refine w_a f_361_112 ?_
              refine w_a f_361_113 ?_
              refine w_a f_361_126 ?_
              exact h
            · refine w_a f_211_78 ?_
              refine w_a f_211_79 ?_
              refine w_a (ls := [(0, .ref 58), (1, .int x1), (2, .int x2)]) f_361_99 ?_
              refine w_a (ls := [(3, .int (Int32.ofInt 0)), (0, .ref 58), (1, .int x1), (2, .int x2)]) f_361_100 ?_
              refine w_a f_361_101 ?_
              refine w_a f_361_116 ?_
              refine w_a f_361_117 ?_
              refine w_a f_361_118 ?_
              refine i_m (fun h => ?_) (fun h => ?_) h
              · refine w_a f_361_121 ?_
                refine w_a f_361_122 ?_
                refine w_a f_361_126 ?_
                exact h
              · refine w_a f_361_125 ?_
                refine w_a f_361_126 ?_
                exact h
    · refine w_a f_361_51 ?_
      refine w_a f_361_52 ?_
      refine w_a f_361_55 ?_
      refine w_a f_361_56 ?_
      refine n_m (fun h => ?_) h
      refine w_a f_361_57 ?_
      refine w_a f_361_58 ?_
      refine w_a f_361_61 ?_
      refine w_a f_361_62 ?_
      refine n_m (fun h => ?_) h
      refine w_a f_361_63 ?_
      refine i_m (fun h => ?_) (fun h => ?_) h
      · refine w_a f_361_66 ?_
        refine w_a f_361_67 ?_
        refine w_a f_361_71 ?_
        exact h
      · refine w_a f_361_70 ?_
        refine w_a f_361_71 ?_
        exact h
  · refine w_a f_361_15 ?_
    refine w_a f_361_16 ?_
    refine w_a f_361_19 ?_
    refine w_a f_361_20 ?_
    refine n_m (fun h => ?_) h
    refine w_a f_361_21 ?_
    refine w_a f_361_22 ?_
    refine w_a f_361_25 ?_
    refine w_a f_361_26 ?_
    refine n_m (fun h => ?_) h
    refine w_a f_361_27 ?_
    refine i_m (fun h => ?_) (fun h => ?_) h
    · refine w_a f_361_30 ?_
      refine w_a f_361_31 ?_
      refine w_a f_361_35 ?_
      exact h
    · refine w_a f_361_34 ?_
      refine w_a f_361_35 ?_
      exact h
set_option maxRecDepth 10000 in
set_option maxHeartbeats 4000000 in
theorem s_362_100 {Lx : Nat} {I : Mi} {L : Ml} {e : Nat} {Q : Kq} {r : Int32} (h :
    Q (.inl (some (.int r))) (gE Lx) I L e) :
    Wp 362 100 [(0, .ref 58)] [.int r] (gE Lx) I L e Q := by
  refine w_a f_362_100 ?_
  exact h
set_option maxRecDepth 10000 in
set_option maxHeartbeats 4000000 in
theorem s_362_105 {Lx : Nat} {I : Mi} {L : Ml} {e : Nat} {Q : Kq} {r : Int32} (h :
    (if r = 0 then
     Q (.inl (some (.int (Int32.ofInt 0)))) (gE Lx) I L e
    else
     Q (.inl (some (.int (Int32.ofInt 1)))) (gE Lx) I L e)) :
    Wp 362 105 [(0, .ref 58)] [.int r] (gE Lx) I L e Q := by
  refine w_a f_362_105 ?_
  refine i_m (fun h => ?_) (fun h => ?_) h
  · refine w_a f_362_112 ?_
    refine w_a f_362_113 ?_
    exact h
  · refine w_a f_362_108 ?_
    refine w_a f_362_109 ?_
    refine w_a f_362_113 ?_
    exact h
set_option maxRecDepth 10000 in
set_option maxHeartbeats 4000000 in
theorem s_362_118 {Lx : Nat} {I : Mi} {L : Ml} {e : Nat} {Q : Kq} {r : Int32} (h :
    Q (.inl (some (.int r))) (gE Lx) I L e) :
    Wp 362 118 [(0, .ref 58)] [.int r] (gE Lx) I L e Q := by
  refine w_a f_362_118 ?_
  exact h
set_option maxRecDepth 10000 in
set_option maxHeartbeats 4000000 in
theorem s_362_123 {Lx : Nat} {I : Mi} {L : Ml} {e : Nat} {Q : Kq} {r : Int32} (h :
    Q (.inl (some (.int r))) (gE Lx) I L e) :
    Wp 362 123 [(0, .ref 58)] [.int r] (gE Lx) I L e Q := by
  refine w_a f_362_123 ?_
  exact h
set_option maxRecDepth 10000 in
set_option maxHeartbeats 4000000 in
theorem s_363_4 {Lx : Nat} {I : Mi} {L : Ml} {e : Nat} {Q : Kq} {x1 : Int32} {x2 : Int32} (h :
    (if x2 < (Int32.ofInt 4) then
     (inb (((Int32.ofInt 17) * x2) + (Int32.ofInt 16)) 68 (
      (if (I 60 ((((Int32.ofInt 17) * x2) + (Int32.ofInt 16)).toNatClampNeg)) = (Int32.ofInt 1) then
       Wp 363 4 [(0, .ref 58), (1, .int (x1 ||| ((Int32.ofInt 1) <<< (x2 &&& 31)))), (2, .int (x2 + Int32.ofInt 1))] [] (gE Lx) I L e Q
      else
       Wp 363 4 [(0, .ref 58), (1, .int (x1 ||| (Int32.ofInt 0))), (2, .int (x2 + Int32.ofInt 1))] [] (gE Lx) I L e Q))
     False)
    else
     Q (.inl (some (.int x1))) (gE Lx) I L e)) :
    Wp 363 4 [(0, .ref 58), (1, .int x1), (2, .int x2)] [] (gE Lx) I L e Q := by
  refine w_a f_363_4 ?_
  refine w_a f_363_5 ?_
  refine w_a f_363_6 ?_
  refine i_m (fun h => ?_) (fun h => ?_) h
  · refine w_a f_363_9 ?_
    refine w_a f_363_10 ?_
    refine w_a f_363_11 ?_
    refine w_a f_363_12 ?_
    refine w_a (ls := [(0, .ref 58), (1, .int x2)]) f_357_0 ?_
    refine w_a f_357_1 ?_
    refine w_a f_357_4 ?_
    refine w_a f_357_6 ?_
    refine w_a f_357_7 ?_
    refine w_a f_357_8 ?_
    refine w_a f_357_10 ?_
    refine w_a f_357_11 ?_
    refine n_m (fun h => ?_) h
    refine w_a f_357_12 ?_
    refine w_a f_357_13 ?_
    refine i_m (fun h => ?_) (fun h => ?_) h
    · refine w_a f_357_16 ?_
      refine w_a f_357_17 ?_
      refine w_a f_357_21 ?_
      refine w_a (ls := [(0, .ref 58), (1, .int x1), (2, .int x2)]) f_363_15 ?_
      refine w_a f_363_18 ?_
      refine w_a f_363_19 ?_
      refine w_a f_363_20 ?_
      refine w_a f_363_21 ?_
      refine w_a f_363_25 ?_
      refine w_a f_363_26 ?_
      refine w_a (ls := [(1, .int (x1 ||| ((Int32.ofInt 1) <<< (x2 &&& 31)))), (0, .ref 58), (2, .int x2)]) f_363_27 ?_
      refine w_a (ls := [(2, .int (x2 + Int32.ofInt 1)), (1, .int (x1 ||| ((Int32.ofInt 1) <<< (x2 &&& 31)))), (0, .ref 58)]) f_363_30 ?_
      exact w_n (ks := [0, 1, 2]) rfl h
    · refine w_a f_357_20 ?_
      refine w_a f_357_21 ?_
      refine w_a (ls := [(0, .ref 58), (1, .int x1), (2, .int x2)]) f_363_15 ?_
      refine w_a f_363_24 ?_
      refine w_a f_363_25 ?_
      refine w_a f_363_26 ?_
      refine w_a (ls := [(1, .int (x1 ||| (Int32.ofInt 0))), (0, .ref 58), (2, .int x2)]) f_363_27 ?_
      refine w_a (ls := [(2, .int (x2 + Int32.ofInt 1)), (1, .int (x1 ||| (Int32.ofInt 0))), (0, .ref 58)]) f_363_30 ?_
      exact w_n (ks := [0, 1, 2]) rfl h
  · refine w_a f_363_33 ?_
    refine w_a f_363_34 ?_
    exact h
set_option maxRecDepth 10000 in
set_option maxHeartbeats 4000000 in
theorem s_364_8 {Lx : Nat} {I : Mi} {L : Ml} {e : Nat} {Q : Kq} (h :
    (if (L 58 10) = (L 58 12) then
     (if (L 58 11) = (L 58 13) then
      Q (.inl (some (.int (Int32.ofInt 1)))) (gE Lx) I L e
     else
      Q (.inl (some (.int (Int32.ofInt 0)))) (gE Lx) I L e)
    else
     Q (.inl (some (.int (Int32.ofInt 0)))) (gE Lx) I L e)) :
    Wp 364 8 [(0, .ref 58)] [] (gE Lx) I L e Q := by
  refine w_a f_364_8 ?_
  refine w_a f_364_9 ?_
  refine w_a (ls := [(0, .ref 58)]) f_317_0 ?_
  refine w_a f_317_1 ?_
  refine w_a f_317_4 ?_
  refine w_a f_317_5 ?_
  refine w_a f_317_8 ?_
  refine i_m (fun h => ?_) (fun h => ?_) h
  · refine w_a f_317_12 ?_
    refine w_a f_317_13 ?_
    refine w_a f_317_16 ?_
    refine w_a f_317_17 ?_
    refine w_a f_317_20 ?_
    refine i_m (fun h => ?_) (fun h => ?_) h
    · refine w_a f_317_24 ?_
      refine w_a f_317_25 ?_
      refine w_a f_317_29 ?_
      refine w_a (ls := [(0, .ref 58)]) f_364_12 ?_
      exact h
    · refine w_a f_317_28 ?_
      refine w_a f_317_29 ?_
      refine w_a (ls := [(0, .ref 58)]) f_364_12 ?_
      exact h
  · refine w_a f_317_28 ?_
    refine w_a f_317_29 ?_
    refine w_a (ls := [(0, .ref 58)]) f_364_12 ?_
    exact h
set_option maxRecDepth 10000 in
set_option maxHeartbeats 4000000 in
theorem s_365_2 {Lx : Nat} {I : Mi} {L : Ml} {e : Nat} {Q : Kq} {x1 : Int32} (h :
    (if 0 < x1 then
     Wp 348 0 [(0, .ref 58), (1, .int x1), (2, .int (Int32.ofInt 0))] [] (gE Lx) I L e (kcp (Wp 365) 365 9 0 [(0, .ref 58), (1, .int x1)] 71 [] Q)
    else
     Q (.inl (some (.int x1))) (gE Lx) I L e)) :
    Wp 365 2 [(0, .ref 58), (1, .int x1)] [] (gE Lx) I L e Q := by
  refine w_a f_365_2 ?_
  refine w_a f_365_3 ?_
  refine i_m (fun h => ?_) (fun h => ?_) h
  · refine w_a f_365_6 ?_
    refine w_a f_365_7 ?_
    refine w_a f_365_8 ?_
    exact w_c (ks := [0, 1]) f_365_9 rfl rfl h
  · refine w_a f_365_21 ?_
    refine w_a f_365_22 ?_
    exact h
set_option maxRecDepth 10000 in
set_option maxHeartbeats 4000000 in
theorem s_365_12 {Lx : Nat} {I : Mi} {L : Ml} {e : Nat} {Q : Kq} {x1 : Int32} {r : Int32} (h :
    (if r = 0 then
     Wp 365 2 [(0, .ref 58), (1, .int (x1 + Int32.ofInt (-1)))] [] (gE Lx) I L e Q
    else
     Q (.inl (some (.int x1))) (gE Lx) I L e)) :
    Wp 365 12 [(0, .ref 58), (1, .int x1)] [.int r] (gE Lx) I L e Q := by
  refine w_a f_365_12 ?_
  refine i_m (fun h => ?_) (fun h => ?_) h
  · refine w_a f_365_15 ?_
    refine w_a (ls := [(1, .int (x1 + Int32.ofInt (-1))), (0, .ref 58)]) f_365_18 ?_
    exact w_n (ks := [0, 1]) rfl h
  · refine w_a f_365_21 ?_
    refine w_a f_365_22 ?_
    exact h
set_option maxRecDepth 10000 in
set_option maxHeartbeats 4000000 in
theorem s_366_4 {Lx : Nat} {I : Mi} {L : Ml} {e : Nat} {Q : Kq} {x1 : Int32} {x2 : Int32} (h :
    (if (Int32.ofInt 3) < x2 then
     Q (.inl (some (.int x1))) (gE Lx) I L e
    else
     Wp 339 0 [(0, .ref 58), (1, .int x2), (2, .int (Int32.ofInt 0))] [] (gE Lx) I L e (kcp (Wp 366) 366 12 0 [(0, .ref 58), (1, .int x1), (2, .int x2)] 71 [] Q))) :
    Wp 366 4 [(0, .ref 58), (1, .int x1), (2, .int x2)] [] (gE Lx) I L e Q := by
  refine w_a f_366_4 ?_
  refine w_a f_366_5 ?_
  refine w_a f_366_6 ?_
  refine i_m (fun h => ?_) (fun h => ?_) h
  · refine w_a f_366_54 ?_
    refine w_a f_366_55 ?_
    exact h
  · refine w_a f_366_9 ?_
    refine w_a f_366_10 ?_
    refine w_a f_366_11 ?_
    exact w_c (ks := [0, 1, 2]) f_366_12 rfl rfl h
set_option maxRecDepth 10000 in
set_option maxHeartbeats 4000000 in
theorem s_366_15 {Lx : Nat} {I : Mi} {L : Ml} {e : Nat} {Q : Kq} {x1 : Int32} {x2 : Int32} (h :
    Wp 342 0 [(0, .ref 58), (1, .int (Int32.ofInt 10)), (2, .int (Int32.ofInt 8)), (3, .long (Int64.ofInt 1)), (5, .int (Int32.ofInt 9)), (6, .long (Int64.ofInt (-1)))] [] (gE Lx) I L e (kcp (Wp 366) 366 26 0 [(0, .ref 58), (1, .int x1), (2, .int x2)] 71 [] Q)) :
    Wp 366 15 [(0, .ref 58), (1, .int x1), (2, .int x2)] [] (gE Lx) I L e Q := by
  refine w_a f_366_15 ?_
  refine w_a f_366_16 ?_
  refine w_a f_366_18 ?_
  refine w_a f_366_20 ?_
  refine w_a f_366_21 ?_
  refine w_a f_366_23 ?_
  exact w_c (ks := [0, 1, 2]) f_366_26 rfl rfl h
set_option maxRecDepth 10000 in
set_option maxHeartbeats 4000000 in
theorem s_366_29 {Lx : Nat} {I : Mi} {L : Ml} {e : Nat} {Q : Kq} {x1 : Int32} {x2 : Int32} (h :
    Wp 345 0 [(0, .ref 58), (1, .int (Int32.ofInt 10))] [] (gE Lx) I L e (kcp (Wp 366) 366 33 0 [(0, .ref 58), (2, .int x2)] 71 [.int x1] Q)) :
    Wp 366 29 [(0, .ref 58), (1, .int x1), (2, .int x2)] [] (gE Lx) I L e Q := by
  refine w_a f_366_29 ?_
  refine w_a f_366_30 ?_
  refine w_a f_366_31 ?_
  exact w_c (ks := [0, 2]) f_366_33 rfl rfl h
set_option maxRecDepth 10000 in
set_option maxHeartbeats 4000000 in
theorem s_366_36 {Lx : Nat} {I : Mi} {L : Ml} {e : Nat} {Q : Kq} {x2 : Int32} {r0 : Int32} {r : Int32} (h :
    (if r = 0 then
     Wp 366 4 [(0, .ref 58), (1, .int (r0 ||| ((Int32.ofInt 1) <<< (x2 &&& 31)))), (2, .int (x2 + Int32.ofInt 1))] [] (gE Lx) I L e Q
    else
     Wp 366 4 [(0, .ref 58), (1, .int (r0 ||| (Int32.ofInt 0))), (2, .int (x2 + Int32.ofInt 1))] [] (gE Lx) I L e Q)) :
    Wp 366 36 [(0, .ref 58), (2, .int x2)] [.int r, .int r0] (gE Lx) I L e Q := by
  refine w_a f_366_36 ?_
  refine i_m (fun h => ?_) (fun h => ?_) h
  · refine w_a f_366_39 ?_
    refine w_a f_366_40 ?_
    refine w_a f_366_41 ?_
    refine w_a f_366_42 ?_
    refine w_a f_366_46 ?_
    refine w_a f_366_47 ?_
    refine w_a (ls := [(1, .int (r0 ||| ((Int32.ofInt 1) <<< (x2 &&& 31)))), (0, .ref 58), (2, .int x2)]) f_366_48 ?_
    refine w_a (ls := [(2, .int (x2 + Int32.ofInt 1)), (1, .int (r0 ||| ((Int32.ofInt 1) <<< (x2 &&& 31)))), (0, .ref 58)]) f_366_51 ?_
    exact w_n (ks := [0, 1, 2]) rfl h
  · refine w_a f_366_45 ?_
    refine w_a f_366_46 ?_
    refine w_a f_366_47 ?_
    refine w_a (ls := [(1, .int (r0 ||| (Int32.ofInt 0))), (0, .ref 58), (2, .int x2)]) f_366_48 ?_
    refine w_a (ls := [(2, .int (x2 + Int32.ofInt 1)), (1, .int (r0 ||| (Int32.ofInt 0))), (0, .ref 58)]) f_366_51 ?_
    exact w_n (ks := [0, 1, 2]) rfl h
set_option maxRecDepth 10000 in
set_option maxHeartbeats 4000000 in
theorem s_368_10 {Lx : Nat} {I : Mi} {L : Ml} {e : Nat} {Q : Kq} {r1 : Int32} {r : Int32} (h :
    (inb r1 1 (
     Q (.inl (some (.int (Int32.ofInt 0)))) (gE Lx) I (ul L 70 r1.toNatClampNeg r.toInt64) e)
    False)) :
    Wp 368 10 [(0, .ref 1), (4, .ref 70)] [.int r, .int r1, .ref 70] (gE Lx) I L e Q := by
  refine w_a f_368_10 ?_
  refine w_a f_368_11 ?_
  refine n_m (fun h => ?_) h
  refine w_a f_368_12 ?_
  refine w_a f_368_23 ?_
  refine w_a f_368_24 ?_
  exact h
set_option maxRecDepth 10000 in
set_option maxHeartbeats 4000000 in
theorem s_370_7 {Lx : Nat} {I : Mi} {L : Ml} {e : Nat} {Q : Kq} (h :
    Q (.inl (some (.int (Int32.ofInt 0)))) (gE Lx) I L e) :
    Wp 370 7 [(0, .ref 1)] [] (gE Lx) I L e Q := by
  refine w_a f_370_7 ?_
  refine w_a f_370_18 ?_
  refine w_a f_370_19 ?_
  exact h
set_option maxRecDepth 10000 in
set_option maxHeartbeats 4000000 in
theorem s_372_8 {Lx : Nat} {I : Mi} {L : Ml} {e : Nat} {Q : Kq} {r1 : Int32} {r : Int32} (h :
    (inb r1 1 (
     Q (.inl (some (.int (Int32.ofInt 0)))) (gE Lx) I (ul L 70 r1.toNatClampNeg r.toInt64) e)
    False)) :
    Wp 372 8 [(0, .ref 1), (3, .ref 70)] [.int r, .int r1, .ref 70] (gE Lx) I L e Q := by
  refine w_a f_372_8 ?_
  refine w_a f_372_9 ?_
  refine n_m (fun h => ?_) h
  refine w_a f_372_10 ?_
  refine w_a f_372_21 ?_
  refine w_a f_372_22 ?_
  exact h
set_option maxRecDepth 10000 in
set_option maxHeartbeats 4000000 in
theorem s_373_10 {Lx : Nat} {I : Mi} {L : Ml} {e : Nat} {Q : Kq} {r1 : Int32} {rl : Int64} (h :
    (inb r1 1 (
     Q (.inl (some (.int (Int32.ofInt 0)))) (gE Lx) I (ul L 70 r1.toNatClampNeg rl) e)
    False)) :
    Wp 373 10 [(0, .ref 1), (4, .ref 70)] [.long rl, .int r1, .ref 70] (gE Lx) I L e Q := by
  refine w_a f_373_10 ?_
  refine n_m (fun h => ?_) h
  refine w_a f_373_11 ?_
  refine w_a f_373_22 ?_
  refine w_a f_373_23 ?_
  exact h
set_option maxRecDepth 10000 in
set_option maxHeartbeats 4000000 in
theorem s_374_7 {Lx : Nat} {I : Mi} {L : Ml} {e : Nat} {Q : Kq} {r1 : Int32} {r : Int32} (h :
    (if r = 0 then
     (inb r1 1 (
      Q (.inl (some (.int (Int32.ofInt 0)))) (gE Lx) I (ul L 70 r1.toNatClampNeg (Int64.ofInt 0)) e)
     False)
    else
     (inb r1 1 (
      Q (.inl (some (.int (Int32.ofInt 0)))) (gE Lx) I (ul L 70 r1.toNatClampNeg (Int64.ofInt 1)) e)
     False))) :
    Wp 374 7 [(0, .ref 1), (2, .ref 70)] [.int r, .int r1, .ref 70] (gE Lx) I L e Q := by
  refine w_a f_374_7 ?_
  refine i_m (fun h => ?_) (fun h => ?_) h
  · refine w_a f_374_14 ?_
    refine w_a f_374_15 ?_
    refine n_m (fun h => ?_) h
    refine w_a f_374_16 ?_
    refine w_a f_374_22 ?_
    refine w_a f_374_23 ?_
    exact h
  · refine w_a f_374_10 ?_
    refine w_a f_374_11 ?_
    refine w_a f_374_15 ?_
    refine n_m (fun h => ?_) h
    refine w_a f_374_16 ?_
    refine w_a f_374_22 ?_
    refine w_a f_374_23 ?_
    exact h
set_option maxRecDepth 10000 in
set_option maxHeartbeats 4000000 in
theorem s_375_8 {Lx : Nat} {I : Mi} {L : Ml} {e : Nat} {Q : Kq} {r1 : Int32} {rl : Int64} (h :
    (inb r1 1 (
     Q (.inl (some (.int (Int32.ofInt 0)))) (gE Lx) I (ul L 70 r1.toNatClampNeg rl) e)
    False)) :
    Wp 375 8 [(0, .ref 1), (3, .ref 70)] [.long rl, .int r1, .ref 70] (gE Lx) I L e Q := by
  refine w_a f_375_8 ?_
  refine n_m (fun h => ?_) h
  refine w_a f_375_9 ?_
  refine w_a f_375_16 ?_
  refine w_a f_375_17 ?_
  exact h
set_option maxRecDepth 10000 in
set_option maxHeartbeats 4000000 in
theorem s_376_8 {Lx : Nat} {I : Mi} {L : Ml} {e : Nat} {Q : Kq} {r1 : Int32} {r : Int32} (h :
    (inb r1 1 (
     Q (.inl (some (.int (Int32.ofInt 0)))) (gE Lx) I (ul L 70 r1.toNatClampNeg r.toInt64) e)
    False)) :
    Wp 376 8 [(0, .ref 1), (3, .ref 70)] [.int r, .int r1, .ref 70] (gE Lx) I L e Q := by
  refine w_a f_376_8 ?_
  refine w_a f_376_9 ?_
  refine n_m (fun h => ?_) h
  refine w_a f_376_10 ?_
  refine w_a f_376_17 ?_
  refine w_a f_376_18 ?_
  exact h
set_option maxRecDepth 10000 in
set_option maxHeartbeats 4000000 in
theorem s_377_8 {Lx : Nat} {I : Mi} {L : Ml} {e : Nat} {Q : Kq} {r1 : Int32} {r : Int32} (h :
    (if r = 0 then
     (inb r1 1 (
      Q (.inl (some (.int (Int32.ofInt 0)))) (gE Lx) I (ul L 70 r1.toNatClampNeg (Int64.ofInt 0)) e)
     False)
    else
     (inb r1 1 (
      Q (.inl (some (.int (Int32.ofInt 0)))) (gE Lx) I (ul L 70 r1.toNatClampNeg (Int64.ofInt 1)) e)
     False))) :
    Wp 377 8 [(0, .ref 1), (3, .ref 70)] [.int r, .int r1, .ref 70] (gE Lx) I L e Q := by
  refine w_a f_377_8 ?_
  refine i_m (fun h => ?_) (fun h => ?_) h
  · refine w_a f_377_15 ?_
    refine w_a f_377_16 ?_
    refine n_m (fun h => ?_) h
    refine w_a f_377_17 ?_
    refine w_a f_377_24 ?_
    refine w_a f_377_25 ?_
    exact h
  · refine w_a f_377_11 ?_
    refine w_a f_377_12 ?_
    refine w_a f_377_16 ?_
    refine n_m (fun h => ?_) h
    refine w_a f_377_17 ?_
    refine w_a f_377_24 ?_
    refine w_a f_377_25 ?_
    exact h
set_option maxRecDepth 10000 in
set_option maxHeartbeats 4000000 in
theorem s_378_10 {Lx : Nat} {I : Mi} {L : Ml} {e : Nat} {Q : Kq} {r1 : Int32} {r : Int32} (h :
    (inb r1 1 (
     Q (.inl (some (.int (Int32.ofInt 0)))) (gE Lx) I (ul L 70 r1.toNatClampNeg r.toInt64) e)
    False)) :
    Wp 378 10 [(0, .ref 1), (4, .ref 70)] [.int r, .int r1, .ref 70] (gE Lx) I L e Q := by
  refine w_a f_378_10 ?_
  refine w_a f_378_11 ?_
  refine n_m (fun h => ?_) h
  refine w_a f_378_12 ?_
  refine w_a f_378_23 ?_
  refine w_a f_378_24 ?_
  exact h
set_option maxRecDepth 10000 in
set_option maxHeartbeats 4000000 in
theorem s_379_12 {Lx : Nat} {I : Mi} {L : Ml} {e : Nat} {Q : Kq} {r1 : Int32} {r : Int32} (h :
    (inb r1 1 (
     Q (.inl (some (.int (Int32.ofInt 0)))) (gE Lx) I (ul L 70 r1.toNatClampNeg r.toInt64) e)
    False)) :
    Wp 379 12 [(0, .ref 1), (5, .ref 70)] [.int r, .int r1, .ref 70] (gE Lx) I L e Q := by
  refine w_a f_379_12 ?_
  refine w_a f_379_13 ?_
  refine n_m (fun h => ?_) h
  refine w_a f_379_14 ?_
  refine w_a f_379_21 ?_
  refine w_a f_379_22 ?_
  exact h
set_option maxRecDepth 10000 in
set_option maxHeartbeats 4000000 in
theorem s_380_14 {Lx : Nat} {I : Mi} {L : Ml} {e : Nat} {Q : Kq} {r1 : Int32} {r : Int32} (h :
    (inb r1 1 (
     Q (.inl (some (.int (Int32.ofInt 0)))) (gE Lx) I (ul L 70 r1.toNatClampNeg r.toInt64) e)
    False)) :
    Wp 380 14 [(0, .ref 1), (6, .ref 70)] [.int r, .int r1, .ref 70] (gE Lx) I L e Q := by
  refine w_a f_380_14 ?_
  refine w_a f_380_15 ?_
  refine n_m (fun h => ?_) h
  refine w_a f_380_16 ?_
  refine w_a f_380_23 ?_
  refine w_a f_380_24 ?_
  exact h
set_option maxRecDepth 10000 in
set_option maxHeartbeats 4000000 in
theorem s_381_12 {Lx : Nat} {I : Mi} {L : Ml} {e : Nat} {Q : Kq} {r1 : Int32} {r : Int32} (h :
    (inb r1 1 (
     Q (.inl (some (.int (Int32.ofInt 0)))) (gE Lx) I (ul L 70 r1.toNatClampNeg r.toInt64) e)
    False)) :
    Wp 381 12 [(0, .ref 1), (5, .ref 70)] [.int r, .int r1, .ref 70] (gE Lx) I L e Q := by
  refine w_a f_381_12 ?_
  refine w_a f_381_13 ?_
  refine n_m (fun h => ?_) h
  refine w_a f_381_14 ?_
  refine w_a f_381_21 ?_
  refine w_a f_381_22 ?_
  exact h
set_option maxRecDepth 10000 in
set_option maxHeartbeats 4000000 in
theorem s_382_8 {Lx : Nat} {I : Mi} {L : Ml} {e : Nat} {Q : Kq} {r1 : Int32} {r : Int32} (h :
    (inb r1 1 (
     Q (.inl (some (.int (Int32.ofInt 0)))) (gE Lx) I (ul L 70 r1.toNatClampNeg r.toInt64) e)
    False)) :
    Wp 382 8 [(0, .ref 1), (3, .ref 70)] [.int r, .int r1, .ref 70] (gE Lx) I L e Q := by
  refine w_a f_382_8 ?_
  refine w_a f_382_9 ?_
  refine n_m (fun h => ?_) h
  refine w_a f_382_10 ?_
  refine w_a f_382_21 ?_
  refine w_a f_382_22 ?_
  exact h
set_option maxRecDepth 10000 in
set_option maxHeartbeats 4000000 in
theorem s_383_10 {Lx : Nat} {I : Mi} {L : Ml} {e : Nat} {Q : Kq} {r1 : Int32} {r : Int32} (h :
    (if r = 0 then
     (inb r1 1 (
      Q (.inl (some (.int (Int32.ofInt 0)))) (gE Lx) I (ul L 70 r1.toNatClampNeg (Int64.ofInt 0)) e)
     False)
    else
     (inb r1 1 (
      Q (.inl (some (.int (Int32.ofInt 0)))) (gE Lx) I (ul L 70 r1.toNatClampNeg (Int64.ofInt 1)) e)
     False))) :
    Wp 383 10 [(0, .ref 1), (4, .ref 70)] [.int r, .int r1, .ref 70] (gE Lx) I L e Q := by
  refine w_a f_383_10 ?_
  refine i_m (fun h => ?_) (fun h => ?_) h
  · refine w_a f_383_17 ?_
    refine w_a f_383_18 ?_
    refine n_m (fun h => ?_) h
    refine w_a f_383_19 ?_
    refine w_a f_383_30 ?_
    refine w_a f_383_31 ?_
    exact h
  · refine w_a f_383_13 ?_
    refine w_a f_383_14 ?_
    refine w_a f_383_18 ?_
    refine n_m (fun h => ?_) h
    refine w_a f_383_19 ?_
    refine w_a f_383_30 ?_
    refine w_a f_383_31 ?_
    exact h
set_option maxRecDepth 10000 in
set_option maxHeartbeats 4000000 in
theorem s_384_12 {Lx : Nat} {I : Mi} {L : Ml} {e : Nat} {Q : Kq} {r1 : Int32} {rl : Int64} (h :
    (inb r1 1 (
     Q (.inl (some (.int (Int32.ofInt 0)))) (gE Lx) I (ul L 70 r1.toNatClampNeg rl) e)
    False)) :
    Wp 384 12 [(0, .ref 1), (5, .ref 70)] [.long rl, .int r1, .ref 70] (gE Lx) I L e Q := by
  refine w_a f_384_12 ?_
  refine n_m (fun h => ?_) h
  refine w_a f_384_13 ?_
  refine w_a f_384_24 ?_
  refine w_a f_384_25 ?_
  exact h
set_option maxRecDepth 10000 in
set_option maxHeartbeats 4000000 in
theorem s_385_10 {Lx : Nat} {I : Mi} {L : Ml} {e : Nat} {Q : Kq} {r1 : Int32} {rl : Int64} (h :
    (inb r1 1 (
     Q (.inl (some (.int (Int32.ofInt 0)))) (gE Lx) I (ul L 70 r1.toNatClampNeg rl) e)
    False)) :
    Wp 385 10 [(0, .ref 1), (4, .ref 70)] [.long rl, .int r1, .ref 70] (gE Lx) I L e Q := by
  refine w_a f_385_10 ?_
  refine n_m (fun h => ?_) h
  refine w_a f_385_11 ?_
  refine w_a f_385_22 ?_
  refine w_a f_385_23 ?_
  exact h
set_option maxRecDepth 10000 in
set_option maxHeartbeats 4000000 in
theorem s_386_12 {Lx : Nat} {I : Mi} {L : Ml} {e : Nat} {Q : Kq} {r1 : Int32} {rl : Int64} (h :
    (inb r1 1 (
     Q (.inl (some (.int (Int32.ofInt 0)))) (gE Lx) I (ul L 70 r1.toNatClampNeg rl) e)
    False)) :
    Wp 386 12 [(0, .ref 1), (5, .ref 70)] [.long rl, .int r1, .ref 70] (gE Lx) I L e Q := by
  refine w_a f_386_12 ?_
  refine n_m (fun h => ?_) h
  refine w_a f_386_13 ?_
  refine w_a f_386_24 ?_
  refine w_a f_386_25 ?_
  exact h
set_option maxRecDepth 10000 in
set_option maxHeartbeats 4000000 in
theorem s_387_10 {Lx : Nat} {I : Mi} {L : Ml} {e : Nat} {Q : Kq} {r1 : Int32} {rl : Int64} (h :
    (inb r1 1 (
     Q (.inl (some (.int (Int32.ofInt 0)))) (gE Lx) I (ul L 70 r1.toNatClampNeg rl) e)
    False)) :
    Wp 387 10 [(0, .ref 1), (4, .ref 70)] [.long rl, .int r1, .ref 70] (gE Lx) I L e Q := by
  refine w_a f_387_10 ?_
  refine n_m (fun h => ?_) h
  refine w_a f_387_11 ?_
  refine w_a f_387_22 ?_
  refine w_a f_387_23 ?_
  exact h
set_option maxRecDepth 10000 in
set_option maxHeartbeats 4000000 in
theorem s_388_10 {Lx : Nat} {I : Mi} {L : Ml} {e : Nat} {Q : Kq} {r1 : Int32} {r : Int32} (h :
    (inb r1 1 (
     Q (.inl (some (.int (Int32.ofInt 0)))) (gE Lx) I (ul L 70 r1.toNatClampNeg r.toInt64) e)
    False)) :
    Wp 388 10 [(0, .ref 1), (4, .ref 70)] [.int r, .int r1, .ref 70] (gE Lx) I L e Q := by
  refine w_a f_388_10 ?_
  refine w_a f_388_11 ?_
  refine n_m (fun h => ?_) h
  refine w_a f_388_12 ?_
  refine w_a f_388_23 ?_
  refine w_a f_388_24 ?_
  exact h
set_option maxRecDepth 10000 in
set_option maxHeartbeats 4000000 in
theorem s_389_10 {Lx : Nat} {I : Mi} {L : Ml} {e : Nat} {Q : Kq} {r1 : Int32} {r : Int32} (h :
    (inb r1 1 (
     Q (.inl (some (.int (Int32.ofInt 0)))) (gE Lx) I (ul L 70 r1.toNatClampNeg r.toInt64) e)
    False)) :
    Wp 389 10 [(0, .ref 1), (4, .ref 70)] [.int r, .int r1, .ref 70] (gE Lx) I L e Q := by
  refine w_a f_389_10 ?_
  refine w_a f_389_11 ?_
  refine n_m (fun h => ?_) h
  refine w_a f_389_12 ?_
  refine w_a f_389_19 ?_
  refine w_a f_389_20 ?_
  exact h
set_option maxRecDepth 10000 in
set_option maxHeartbeats 4000000 in
theorem s_390_10 {Lx : Nat} {I : Mi} {L : Ml} {e : Nat} {Q : Kq} {r1 : Int32} {rl : Int64} (h :
    (inb r1 1 (
     Q (.inl (some (.int (Int32.ofInt 0)))) (gE Lx) I (ul L 70 r1.toNatClampNeg rl) e)
    False)) :
    Wp 390 10 [(0, .ref 1), (4, .ref 70)] [.long rl, .int r1, .ref 70] (gE Lx) I L e Q := by
  refine w_a f_390_10 ?_
  refine n_m (fun h => ?_) h
  refine w_a f_390_11 ?_
  refine w_a f_390_22 ?_
  refine w_a f_390_23 ?_
  exact h
set_option maxRecDepth 10000 in
set_option maxHeartbeats 4000000 in
theorem s_391_10 {Lx : Nat} {I : Mi} {L : Ml} {e : Nat} {Q : Kq} {r1 : Int32} {r : Int32} (h :
    (inb r1 1 (
     Q (.inl (some (.int (Int32.ofInt 0)))) (gE Lx) I (ul L 70 r1.toNatClampNeg r.toInt64) e)
    False)) :
    Wp 391 10 [(0, .ref 1), (4, .ref 70)] [.int r, .int r1, .ref 70] (gE Lx) I L e Q := by
  refine w_a f_391_10 ?_
  refine w_a f_391_11 ?_
  refine n_m (fun h => ?_) h
  refine w_a f_391_12 ?_
  refine w_a f_391_19 ?_
  refine w_a f_391_20 ?_
  exact h
set_option maxRecDepth 10000 in
set_option maxHeartbeats 4000000 in
theorem s_392_12 {Lx : Nat} {I : Mi} {L : Ml} {e : Nat} {Q : Kq} {r1 : Int32} {r : Int32} (h :
    (inb r1 1 (
     Q (.inl (some (.int (Int32.ofInt 0)))) (gE Lx) I (ul L 70 r1.toNatClampNeg r.toInt64) e)
    False)) :
    Wp 392 12 [(0, .ref 1), (5, .ref 70)] [.int r, .int r1, .ref 70] (gE Lx) I L e Q := by
  refine w_a f_392_12 ?_
  refine w_a f_392_13 ?_
  refine n_m (fun h => ?_) h
  refine w_a f_392_14 ?_
  refine w_a f_392_29 ?_
  refine w_a f_392_30 ?_
  exact h
set_option maxRecDepth 10000 in
set_option maxHeartbeats 4000000 in
theorem s_393_18 {Lx : Nat} {I : Mi} {L : Ml} {e : Nat} {Q : Kq} {r1 : Int32} {rl : Int64} (h :
    (inb r1 1 (
     Q (.inl (some (.int (Int32.ofInt 0)))) (gE Lx) I (ul L 70 r1.toNatClampNeg rl) e)
    False)) :
    Wp 393 18 [(0, .ref 1), (8, .ref 70)] [.long rl, .int r1, .ref 70] (gE Lx) I L e Q := by
  refine w_a f_393_18 ?_
  refine n_m (fun h => ?_) h
  refine w_a f_393_19 ?_
  refine w_a f_393_34 ?_
  refine w_a f_393_35 ?_
  exact h
set_option maxRecDepth 10000 in
set_option maxHeartbeats 4000000 in
theorem s_394_14 {Lx : Nat} {I : Mi} {L : Ml} {e : Nat} {Q : Kq} {r1 : Int32} {r : Int32} (h :
    (inb r1 1 (
     Q (.inl (some (.int (Int32.ofInt 0)))) (gE Lx) I (ul L 70 r1.toNatClampNeg r.toInt64) e)
    False)) :
    Wp 394 14 [(0, .ref 1), (6, .ref 70)] [.int r, .int r1, .ref 70] (gE Lx) I L e Q := by
  refine w_a f_394_14 ?_
  refine w_a f_394_15 ?_
  refine n_m (fun h => ?_) h
  refine w_a f_394_16 ?_
  refine w_a f_394_31 ?_
  refine w_a f_394_32 ?_
  exact h
set_option maxRecDepth 10000 in
set_option maxHeartbeats 4000000 in
theorem s_395_14 {Lx : Nat} {I : Mi} {L : Ml} {e : Nat} {Q : Kq} {r1 : Int32} {r : Int32} (h :
    (inb r1 1 (
     Q (.inl (some (.int (Int32.ofInt 0)))) (gE Lx) I (ul L 70 r1.toNatClampNeg r.toInt64) e)
    False)) :
    Wp 395 14 [(0, .ref 1), (6, .ref 70)] [.int r, .int r1, .ref 70] (gE Lx) I L e Q := by
  refine w_a f_395_14 ?_
  refine w_a f_395_15 ?_
  refine n_m (fun h => ?_) h
  refine w_a f_395_16 ?_
  refine w_a f_395_35 ?_
  refine w_a f_395_36 ?_
  exact h
set_option maxRecDepth 10000 in
set_option maxHeartbeats 4000000 in
theorem s_396_8 {Lx : Nat} {I : Mi} {L : Ml} {e : Nat} {Q : Kq} {r1 : Int32} {r : Int32} (h :
    (inb r1 1 (
     Q (.inl (some (.int (Int32.ofInt 0)))) (gE Lx) I (ul L 70 r1.toNatClampNeg r.toInt64) e)
    False)) :
    Wp 396 8 [(0, .ref 1), (3, .ref 70)] [.int r, .int r1, .ref 70] (gE Lx) I L e Q := by
  refine w_a f_396_8 ?_
  refine w_a f_396_9 ?_
  refine n_m (fun h => ?_) h
  refine w_a f_396_10 ?_
  refine w_a f_396_21 ?_
  refine w_a f_396_22 ?_
  exact h
set_option maxRecDepth 10000 in
set_option maxHeartbeats 4000000 in
theorem s_397_14 {Lx : Nat} {I : Mi} {L : Ml} {e : Nat} {Q : Kq} {r1 : Int32} {rl : Int64} (h :
    (inb r1 1 (
     Q (.inl (some (.int (Int32.ofInt 0)))) (gE Lx) I (ul L 70 r1.toNatClampNeg rl) e)
    False)) :
    Wp 397 14 [(0, .ref 1), (6, .ref 70)] [.long rl, .int r1, .ref 70] (gE Lx) I L e Q := by
  refine w_a f_397_14 ?_
  refine n_m (fun h => ?_) h
  refine w_a f_397_15 ?_
  refine w_a f_397_26 ?_
  refine w_a f_397_27 ?_
  exact h
set_option maxRecDepth 10000 in
set_option maxHeartbeats 4000000 in
theorem s_398_10 {Lx : Nat} {I : Mi} {L : Ml} {e : Nat} {Q : Kq} {r1 : Int32} {rl : Int64} (h :
    (inb r1 1 (
     Q (.inl (some (.int (Int32.ofInt 0)))) (gE Lx) I (ul L 70 r1.toNatClampNeg rl) e)
    False)) :
    Wp 398 10 [(0, .ref 1), (4, .ref 70)] [.long rl, .int r1, .ref 70] (gE Lx) I L e Q := by
  refine w_a f_398_10 ?_
  refine n_m (fun h => ?_) h
  refine w_a f_398_11 ?_
  refine w_a f_398_22 ?_
  refine w_a f_398_23 ?_
  exact h
set_option maxRecDepth 10000 in
set_option maxHeartbeats 4000000 in
theorem s_399_8 {Lx : Nat} {I : Mi} {L : Ml} {e : Nat} {Q : Kq} {r1 : Int32} {rl : Int64} (h :
    (inb r1 1 (
     Q (.inl (some (.int (Int32.ofInt 0)))) (gE Lx) I (ul L 70 r1.toNatClampNeg rl) e)
    False)) :
    Wp 399 8 [(0, .ref 1), (3, .ref 70)] [.long rl, .int r1, .ref 70] (gE Lx) I L e Q := by
  refine w_a f_399_8 ?_
  refine n_m (fun h => ?_) h
  refine w_a f_399_9 ?_
  refine w_a f_399_20 ?_
  refine w_a f_399_21 ?_
  exact h
set_option maxRecDepth 10000 in
set_option maxHeartbeats 4000000 in
theorem s_400_7 {Lx : Nat} {I : Mi} {L : Ml} {e : Nat} {Q : Kq} {r1 : Int32} {r : Int32} (h :
    (if r = 0 then
     (inb r1 1 (
      Q (.inl (some (.int (Int32.ofInt 0)))) (gE Lx) I (ul L 70 r1.toNatClampNeg (Int64.ofInt 0)) e)
     False)
    else
     (inb r1 1 (
      Q (.inl (some (.int (Int32.ofInt 0)))) (gE Lx) I (ul L 70 r1.toNatClampNeg (Int64.ofInt 1)) e)
     False))) :
    Wp 400 7 [(0, .ref 1), (2, .ref 70)] [.int r, .int r1, .ref 70] (gE Lx) I L e Q := by
  refine w_a f_400_7 ?_
  refine i_m (fun h => ?_) (fun h => ?_) h
  · refine w_a f_400_14 ?_
    refine w_a f_400_15 ?_
    refine n_m (fun h => ?_) h
    refine w_a f_400_16 ?_
    refine w_a f_400_25 ?_
    refine w_a f_400_26 ?_
    exact h
  · refine w_a f_400_10 ?_
    refine w_a f_400_11 ?_
    refine w_a f_400_15 ?_
    refine n_m (fun h => ?_) h
    refine w_a f_400_16 ?_
    refine w_a f_400_25 ?_
    refine w_a f_400_26 ?_
    exact h
set_option maxRecDepth 10000 in
set_option maxHeartbeats 4000000 in
theorem s_401_10 {Lx : Nat} {I : Mi} {L : Ml} {e : Nat} {Q : Kq} {r1 : Int32} {r : Int32} (h :
    (inb r1 1 (
     Q (.inl (some (.int (Int32.ofInt 0)))) (gE Lx) I (ul L 70 r1.toNatClampNeg r.toInt64) e)
    False)) :
    Wp 401 10 [(0, .ref 1), (4, .ref 70)] [.int r, .int r1, .ref 70] (gE Lx) I L e Q := by
  refine w_a f_401_10 ?_
  refine w_a f_401_11 ?_
  refine n_m (fun h => ?_) h
  refine w_a f_401_12 ?_
  refine w_a f_401_27 ?_
  refine w_a f_401_28 ?_
  exact h
set_option maxRecDepth 10000 in
set_option maxHeartbeats 4000000 in
theorem s_402_8 {Lx : Nat} {I : Mi} {L : Ml} {e : Nat} {Q : Kq} {r1 : Int32} {r : Int32} (h :
    (inb r1 1 (
     Q (.inl (some (.int (Int32.ofInt 0)))) (gE Lx) I (ul L 70 r1.toNatClampNeg r.toInt64) e)
    False)) :
    Wp 402 8 [(0, .ref 1), (3, .ref 70)] [.int r, .int r1, .ref 70] (gE Lx) I L e Q := by
  refine w_a f_402_8 ?_
  refine w_a f_402_9 ?_
  refine n_m (fun h => ?_) h
  refine w_a f_402_10 ?_
  refine w_a f_402_25 ?_
  refine w_a f_402_26 ?_
  exact h
set_option maxRecDepth 10000 in
set_option maxHeartbeats 4000000 in
theorem s_403_4 {Lx : Nat} {I : Mi} {L : Ml} {e : Nat} {Q : Kq} (h :
    Q (.inl (some (.int (Int32.ofInt 0)))) (gE Lx) I L e) :
    Wp 403 4 [(0, .ref 1)] [] (gE Lx) I L e Q := by
  refine w_a f_403_4 ?_
  refine w_a f_403_10 ?_
  refine w_a f_403_11 ?_
  exact h
set_option maxRecDepth 10000 in
set_option maxHeartbeats 4000000 in
theorem s_404_8 {Lx : Nat} {I : Mi} {L : Ml} {e : Nat} {Q : Kq} {r1 : Int32} {r : Int32} (h :
    (inb r1 1 (
     Q (.inl (some (.int (Int32.ofInt 0)))) (gE Lx) I (ul L 70 r1.toNatClampNeg r.toInt64) e)
    False)) :
    Wp 404 8 [(0, .ref 1), (3, .ref 70)] [.int r, .int r1, .ref 70] (gE Lx) I L e Q := by
  refine w_a f_404_8 ?_
  refine w_a f_404_9 ?_
  refine n_m (fun h => ?_) h
  refine w_a f_404_10 ?_
  refine w_a f_404_25 ?_
  refine w_a f_404_26 ?_
  exact h
set_option maxRecDepth 10000 in
set_option maxHeartbeats 4000000 in
theorem s_405_16 {Lx : Nat} {I : Mi} {L : Ml} {e : Nat} {Q : Kq} {r1 : Int32} {r : Int32} (h :
    (inb r1 1 (
     Q (.inl (some (.int (Int32.ofInt 0)))) (gE Lx) I (ul L 70 r1.toNatClampNeg r.toInt64) e)
    False)) :
    Wp 405 16 [(0, .ref 1), (7, .ref 70)] [.int r, .int r1, .ref 70] (gE Lx) I L e Q := by
  refine w_a f_405_16 ?_
  refine w_a f_405_17 ?_
  refine n_m (fun h => ?_) h
  refine w_a f_405_18 ?_
  refine w_a f_405_33 ?_
  refine w_a f_405_34 ?_
  exact h
set_option maxRecDepth 10000 in
set_option maxHeartbeats 4000000 in
theorem s_406_22 {Lx : Nat} {I : Mi} {L : Ml} {e : Nat} {Q : Kq} {r1 : Int32} {rl : Int64} (h :
    (inb r1 1 (
     Q (.inl (some (.int (Int32.ofInt 0)))) (gE Lx) I (ul L 70 r1.toNatClampNeg rl) e)
    False)) :
    Wp 406 22 [(0, .ref 1), (10, .ref 70)] [.long rl, .int r1, .ref 70] (gE Lx) I L e Q := by
  refine w_a f_406_22 ?_
  refine n_m (fun h => ?_) h
  refine w_a f_406_23 ?_
  refine w_a f_406_38 ?_
  refine w_a f_406_39 ?_
  exact h
set_option maxRecDepth 10000 in
set_option maxHeartbeats 4000000 in
theorem s_407_14 {Lx : Nat} {I : Mi} {L : Ml} {e : Nat} {Q : Kq} {r1 : Int32} {r : Int32} (h :
    (inb r1 1 (
     Q (.inl (some (.int (Int32.ofInt 0)))) (gE Lx) I (ul L 70 r1.toNatClampNeg r.toInt64) e)
    False)) :
    Wp 407 14 [(0, .ref 1), (6, .ref 70)] [.int r, .int r1, .ref 70] (gE Lx) I L e Q := by
  refine w_a f_407_14 ?_
  refine w_a f_407_15 ?_
  refine n_m (fun h => ?_) h
  refine w_a f_407_16 ?_
  refine w_a f_407_31 ?_
  refine w_a f_407_32 ?_
  exact h
set_option maxRecDepth 10000 in
set_option maxHeartbeats 4000000 in
theorem s_408_14 {Lx : Nat} {I : Mi} {L : Ml} {e : Nat} {Q : Kq} {r1 : Int32} {rl : Int64} (h :
    (inb r1 1 (
     Q (.inl (some (.int (Int32.ofInt 0)))) (gE Lx) I (ul L 70 r1.toNatClampNeg rl) e)
    False)) :
    Wp 408 14 [(0, .ref 1), (6, .ref 70)] [.long rl, .int r1, .ref 70] (gE Lx) I L e Q := by
  refine w_a f_408_14 ?_
  refine n_m (fun h => ?_) h
  refine w_a f_408_15 ?_
  refine w_a f_408_34 ?_
  refine w_a f_408_35 ?_
  exact h
set_option maxRecDepth 10000 in
set_option maxHeartbeats 4000000 in
theorem s_409_14 {Lx : Nat} {I : Mi} {L : Ml} {e : Nat} {Q : Kq} {r1 : Int32} {r : Int32} (h :
    (inb r1 1 (
     Q (.inl (some (.int (Int32.ofInt 0)))) (gE Lx) I (ul L 70 r1.toNatClampNeg r.toInt64) e)
    False)) :
    Wp 409 14 [(0, .ref 1), (6, .ref 70)] [.int r, .int r1, .ref 70] (gE Lx) I L e Q := by
  refine w_a f_409_14 ?_
  refine w_a f_409_15 ?_
  refine n_m (fun h => ?_) h
  refine w_a f_409_16 ?_
  refine w_a f_409_35 ?_
  refine w_a f_409_36 ?_
  exact h
set_option maxRecDepth 10000 in
set_option maxHeartbeats 4000000 in
theorem s_410_8 {Lx : Nat} {I : Mi} {L : Ml} {e : Nat} {Q : Kq} {r1 : Int32} {r : Int32} (h :
    (inb r1 1 (
     Q (.inl (some (.int (Int32.ofInt 0)))) (gE Lx) I (ul L 70 r1.toNatClampNeg r.toInt64) e)
    False)) :
    Wp 410 8 [(0, .ref 1), (3, .ref 70)] [.int r, .int r1, .ref 70] (gE Lx) I L e Q := by
  refine w_a f_410_8 ?_
  refine w_a f_410_9 ?_
  refine n_m (fun h => ?_) h
  refine w_a f_410_10 ?_
  refine w_a f_410_25 ?_
  refine w_a f_410_26 ?_
  exact h
set_option maxRecDepth 10000 in
set_option maxHeartbeats 4000000 in
theorem s_411_7 {Lx : Nat} {I : Mi} {L : Ml} {e : Nat} {Q : Kq} {r1 : Int32} {r : Int32} (h :
    (inb r1 1 (
     Q (.inl (some (.int (Int32.ofInt 0)))) (gE Lx) I (ul L 70 r1.toNatClampNeg r.toInt64) e)
    False)) :
    Wp 411 7 [(0, .ref 1), (2, .ref 70)] [.int r, .int r1, .ref 70] (gE Lx) I L e Q := by
  refine w_a f_411_7 ?_
  refine w_a f_411_8 ?_
  refine n_m (fun h => ?_) h
  refine w_a f_411_9 ?_
  refine w_a f_411_15 ?_
  refine w_a f_411_16 ?_
  exact h
set_option maxRecDepth 10000 in
set_option maxHeartbeats 4000000 in
theorem s_412_7 {Lx : Nat} {I : Mi} {L : Ml} {e : Nat} {Q : Kq} {r1 : Int32} {rl : Int64} (h :
    (inb r1 1 (
     Q (.inl (some (.int (Int32.ofInt 0)))) (gE Lx) I (ul L 70 r1.toNatClampNeg rl) e)
    False)) :
    Wp 412 7 [(0, .ref 1), (2, .ref 70)] [.long rl, .int r1, .ref 70] (gE Lx) I L e Q := by
  refine w_a f_412_7 ?_
  refine n_m (fun h => ?_) h
  refine w_a f_412_8 ?_
  refine w_a f_412_14 ?_
  refine w_a f_412_15 ?_
  exact h
