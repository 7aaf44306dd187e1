/-! Pieces of methods, by program out of the tables: 190 to 229. -/
theorem f_190_100 : ftc (PT 190) 100 = some (100, .aload_n 0, 1, 0, 0, 0) := by decide +kernel
theorem f_190_101 : ftc (PT 190) 101 = some (101, .getfield 62, 3, 11, 10, 478) := by decide +kernel
theorem f_190_104 : ftc (PT 190) 104 = some (104, .iload 5, 2, 0, 0, 0) := by decide +kernel
theorem f_190_106 : ftc (PT 190) 106 = some (106, .iconst 1, 1, 0, 0, 0) := by decide +kernel
theorem f_190_107 : ftc (PT 190) 107 = some (107, .if_icmp .ne 7, 3, 114, 0, 0) := by decide +kernel
theorem f_190_110 : ftc (PT 190) 110 = some (110, .iconst 1, 1, 0, 0, 0) := by decide +kernel
theorem f_190_111 : ftc (PT 190) 111 = some (111, .goto 4, 3, 115, 0, 0) := by decide +kernel
theorem f_190_114 : ftc (PT 190) 114 = some (114, .iconst 0, 1, 0, 0, 0) := by decide +kernel
theorem f_190_115 : ftc (PT 190) 115 = some (115, .invokevirtual 218, 3, 31, 2083, 974) := by decide +kernel
theorem f_190_118 : ftc (PT 190) 118 = some (118, .lreturn, 1, 0, 0, 0) := by decide +kernel
theorem f_191_0 : ftc (PT 191) 0 = some (0, .aload_n 0, 1, 0, 0, 0) := by decide +kernel
theorem f_191_1 : ftc (PT 191) 1 = some (1, .getfield 83, 3, 11, 13, 481) := by decide +kernel
theorem f_191_4 : ftc (PT 191) 4 = some (4, .invokevirtual 578, 3, 1, 1024, 534) := by decide +kernel
theorem f_191_7 : ftc (PT 191) 7 = some (7, .aload_n 0, 1, 0, 0, 0) := by decide +kernel
theorem f_191_8 : ftc (PT 191) 8 = some (8, .aload_n 0, 1, 0, 0, 0) := by decide +kernel
theorem f_191_9 : ftc (PT 191) 9 = some (9, .getfield 46, 3, 11, 7, 475) := by decide +kernel
theorem f_191_12 : ftc (PT 191) 12 = some (12, .invokevirtual 552, 3, 157, 2091, 1295) := by decide +kernel
theorem f_191_15 : ftc (PT 191) 15 = some (15, .iconst 0, 1, 0, 0, 0) := by decide +kernel
theorem f_191_16 : ftc (PT 191) 16 = some (16, .istore 4, 2, 0, 0, 0) := by decide +kernel
theorem f_191_18 : ftc (PT 191) 18 = some (18, .iload 4, 2, 0, 0, 0) := by decide +kernel
theorem f_191_20 : ftc (PT 191) 20 = some (20, .sipush 184, 3, 0, 0, 0) := by decide +kernel
theorem f_191_23 : ftc (PT 191) 23 = some (23, .if_icmp .ge 114, 3, 137, 0, 0) := by decide +kernel
theorem f_191_26 : ftc (PT 191) 26 = some (26, .aload_n 0, 1, 0, 0, 0) := by decide +kernel
theorem f_191_27 : ftc (PT 191) 27 = some (27, .getfield 49, 3, 11, 8, 476) := by decide +kernel
theorem f_191_30 : ftc (PT 191) 30 = some (30, .aload_n 0, 1, 0, 0, 0) := by decide +kernel
theorem f_191_31 : ftc (PT 191) 31 = some (31, .getfield 46, 3, 11, 7, 475) := by decide +kernel
theorem f_191_34 : ftc (PT 191) 34 = some (34, .invokevirtual 569, 3, 84, 2090, 1299) := by decide +kernel
theorem f_191_37 : ftc (PT 191) 37 = some (37, .aload_n 0, 1, 0, 0, 0) := by decide +kernel
theorem f_191_38 : ftc (PT 191) 38 = some (38, .getfield 49, 3, 11, 8, 476) := by decide +kernel
theorem f_191_41 : ftc (PT 191) 41 = some (41, .aload_n 0, 1, 0, 0, 0) := by decide +kernel
theorem f_191_42 : ftc (PT 191) 42 = some (42, .getfield 10, 3, 11, 0, 468) := by decide +kernel
theorem f_191_45 : ftc (PT 191) 45 = some (45, .iload 4, 2, 0, 0, 0) := by decide +kernel
theorem f_191_47 : ftc (PT 191) 47 = some (47, .invokevirtual 331, 3, 69, 2089, 1303) := by decide +kernel
theorem f_191_50 : ftc (PT 191) 50 = some (50, .i2l, 1, 0, 0, 0) := by decide +kernel
theorem f_191_51 : ftc (PT 191) 51 = some (51, .aload_n 0, 1, 0, 0, 0) := by decide +kernel
theorem f_191_52 : ftc (PT 191) 52 = some (52, .getfield 10, 3, 11, 0, 468) := by decide +kernel
theorem f_191_55 : ftc (PT 191) 55 = some (55, .iload 4, 2, 0, 0, 0) := by decide +kernel
theorem f_191_57 : ftc (PT 191) 57 = some (57, .invokevirtual 328, 3, 70, 2089, 1307) := by decide +kernel
theorem f_191_60 : ftc (PT 191) 60 = some (60, .i2l, 1, 0, 0, 0) := by decide +kernel
theorem f_191_61 : ftc (PT 191) 61 = some (61, .invokevirtual 560, 3, 76, 11338, 1311) := by decide +kernel
theorem f_191_64 : ftc (PT 191) 64 = some (64, .aload_n 0, 1, 0, 0, 0) := by decide +kernel
theorem f_191_65 : ftc (PT 191) 65 = some (65, .getfield 49, 3, 11, 8, 476) := by decide +kernel
theorem f_191_68 : ftc (PT 191) 68 = some (68, .iload_n 1, 1, 0, 0, 0) := by decide +kernel
theorem f_191_69 : ftc (PT 191) 69 = some (69, .invokevirtual 563, 3, 85, 2090, 1316) := by decide +kernel
theorem f_191_72 : ftc (PT 191) 72 = some (72, .lstore 5, 2, 0, 0, 0) := by decide +kernel
theorem f_191_74 : ftc (PT 191) 74 = some (74, .aload_n 0, 1, 0, 0, 0) := by decide +kernel
theorem f_191_75 : ftc (PT 191) 75 = some (75, .getfield 10, 3, 11, 0, 468) := by decide +kernel
theorem f_191_78 : ftc (PT 191) 78 = some (78, .iload 4, 2, 0, 0, 0) := by decide +kernel
theorem f_191_80 : ftc (PT 191) 80 = some (80, .iload_n 2, 1, 0, 0, 0) := by decide +kernel
theorem f_191_81 : ftc (PT 191) 81 = some (81, .invokevirtual 581, 3, 71, 3145, 1416) := by decide +kernel
theorem f_191_84 : ftc (PT 191) 84 = some (84, .ifCond .eq 47, 3, 131, 0, 0) := by decide +kernel
theorem f_191_87 : ftc (PT 191) 87 = some (87, .lload 5, 2, 0, 0, 0) := by decide +kernel
theorem f_191_89 : ftc (PT 191) 89 = some (89, .lconst 0, 1, 0, 0, 0) := by decide +kernel
theorem f_191_90 : ftc (PT 191) 90 = some (90, .lcmp, 1, 0, 0, 0) := by decide +kernel
theorem f_191_91 : ftc (PT 191) 91 = some (91, .ifCond .le 40, 3, 131, 0, 0) := by decide +kernel
theorem f_191_94 : ftc (PT 191) 94 = some (94, .aload_n 0, 1, 0, 0, 0) := by decide +kernel
theorem f_191_95 : ftc (PT 191) 95 = some (95, .getfield 83, 3, 11, 13, 481) := by decide +kernel
theorem f_191_98 : ftc (PT 191) 98 = some (98, .aload_n 0, 1, 0, 0, 0) := by decide +kernel
theorem f_191_99 : ftc (PT 191) 99 = some (99, .getfield 49, 3, 11, 8, 476) := by decide +kernel
theorem f_191_102 : ftc (PT 191) 102 = some (102, .invokevirtual 208, 3, 82, 1034, 966) := by decide +kernel
theorem f_191_105 : ftc (PT 191) 105 = some (105, .lload 5, 2, 0, 0, 0) := by decide +kernel
theorem f_191_107 : ftc (PT 191) 107 = some (107, .iload_n 3, 1, 0, 0, 0) := by decide +kernel
theorem f_191_108 : ftc (PT 191) 108 = some (108, .ifCond .eq 7, 3, 115, 0, 0) := by decide +kernel
theorem f_191_111 : ftc (PT 191) 111 = some (111, .iconst (-1), 1, 0, 0, 0) := by decide +kernel
theorem f_191_112 : ftc (PT 191) 112 = some (112, .goto 4, 3, 116, 0, 0) := by decide +kernel
theorem f_191_115 : ftc (PT 191) 115 = some (115, .iconst 1, 1, 0, 0, 0) := by decide +kernel
theorem f_191_116 : ftc (PT 191) 116 = some (116, .invokevirtual 622, 3, 3, 6240, 1539) := by decide +kernel
theorem f_191_119 : ftc (PT 191) 119 = some (119, .ifCond .eq 12, 3, 131, 0, 0) := by decide +kernel
theorem f_191_122 : ftc (PT 191) 122 = some (122, .aload_n 0, 1, 0, 0, 0) := by decide +kernel
theorem f_191_123 : ftc (PT 191) 123 = some (123, .getfield 83, 3, 11, 13, 481) := by decide +kernel
theorem f_191_126 : ftc (PT 191) 126 = some (126, .iload 4, 2, 0, 0, 0) := by decide +kernel
theorem f_191_128 : ftc (PT 191) 128 = some (128, .putfield 403, 3, 0, 4, 394) := by decide +kernel
theorem f_191_131 : ftc (PT 191) 131 = some (131, .iinc 4 1, 3, 0, 0, 0) := by decide +kernel
theorem f_191_134 : ftc (PT 191) 134 = some (134, .goto (-116), 3, 18, 0, 0) := by decide +kernel
theorem f_191_137 : ftc (PT 191) 137 = some (137, .return_, 1, 0, 0, 0) := by decide +kernel
theorem f_192_18 : ftc (PT 192) 18 = some (18, .iload_n 1, 1, 0, 0, 0) := by decide +kernel
theorem f_192_19 : ftc (PT 192) 19 = some (19, .iconst 1, 1, 0, 0, 0) := by decide +kernel
theorem f_192_20 : ftc (PT 192) 20 = some (20, .if_icmp .le 11, 3, 31, 0, 0) := by decide +kernel
theorem f_192_23 : ftc (PT 192) 23 = some (23, .new 130, 3, 102, 6, 856) := by decide +kernel
theorem f_192_31 : ftc (PT 192) 31 = some (31, .aload_n 0, 1, 0, 0, 0) := by decide +kernel
theorem f_192_32 : ftc (PT 192) 32 = some (32, .iload_n 1, 1, 0, 0, 0) := by decide +kernel
theorem f_192_33 : ftc (PT 192) 33 = some (33, .iload_n 2, 1, 0, 0, 0) := by decide +kernel
theorem f_192_34 : ftc (PT 192) 34 = some (34, .iload_n 3, 1, 0, 0, 0) := by decide +kernel
theorem f_192_35 : ftc (PT 192) 35 = some (35, .iconst 0, 1, 0, 0, 0) := by decide +kernel
theorem f_192_36 : ftc (PT 192) 36 = some (36, .iload 4, 2, 0, 0, 0) := by decide +kernel
theorem f_192_38 : ftc (PT 192) 38 = some (38, .invokestatic 301, 3, 146, 2050, 1208) := by decide +kernel
theorem f_192_41 : ftc (PT 192) 41 = some (41, .invokevirtual 408, 3, 193, 6283, 1547) := by decide +kernel
theorem f_192_44 : ftc (PT 192) 44 = some (44, .iload 5, 2, 0, 0, 0) := by decide +kernel
theorem f_192_46 : ftc (PT 192) 46 = some (46, .iconst 2, 1, 0, 0, 0) := by decide +kernel
theorem f_192_47 : ftc (PT 192) 47 = some (47, .if_icmp .ne 11, 3, 58, 0, 0) := by decide +kernel
theorem f_192_50 : ftc (PT 192) 50 = some (50, .aload_n 0, 1, 0, 0, 0) := by decide +kernel
theorem f_192_51 : ftc (PT 192) 51 = some (51, .getfield 83, 3, 11, 13, 481) := by decide +kernel
theorem f_192_54 : ftc (PT 192) 54 = some (54, .invokevirtual 389, 3, 4, 1024, 627) := by decide +kernel
theorem f_192_57 : ftc (PT 192) 57 = some (57, .ireturn, 1, 0, 0, 0) := by decide +kernel
theorem f_192_58 : ftc (PT 192) 58 = some (58, .iload 5, 2, 0, 0, 0) := by decide +kernel
theorem f_192_60 : ftc (PT 192) 60 = some (60, .ifCond .ne 20, 3, 80, 0, 0) := by decide +kernel
theorem f_192_63 : ftc (PT 192) 63 = some (63, .aload_n 0, 1, 0, 0, 0) := by decide +kernel
theorem f_192_64 : ftc (PT 192) 64 = some (64, .getfield 10, 3, 11, 0, 468) := by decide +kernel
theorem f_192_67 : ftc (PT 192) 67 = some (67, .aload_n 0, 1, 0, 0, 0) := by decide +kernel
theorem f_192_68 : ftc (PT 192) 68 = some (68, .getfield 83, 3, 11, 13, 481) := by decide +kernel
theorem f_192_71 : ftc (PT 192) 71 = some (71, .getfield 403, 3, 0, 4, 394) := by decide +kernel
theorem f_192_74 : ftc (PT 192) 74 = some (74, .invokevirtual 331, 3, 69, 2089, 1303) := by decide +kernel
theorem f_192_77 : ftc (PT 192) 77 = some (77, .goto 17, 3, 94, 0, 0) := by decide +kernel
theorem f_192_80 : ftc (PT 192) 80 = some (80, .aload_n 0, 1, 0, 0, 0) := by decide +kernel
theorem f_192_81 : ftc (PT 192) 81 = some (81, .getfield 10, 3, 11, 0, 468) := by decide +kernel
theorem f_192_84 : ftc (PT 192) 84 = some (84, .aload_n 0, 1, 0, 0, 0) := by decide +kernel
theorem f_192_85 : ftc (PT 192) 85 = some (85, .getfield 83, 3, 11, 13, 481) := by decide +kernel
theorem f_192_88 : ftc (PT 192) 88 = some (88, .getfield 403, 3, 0, 4, 394) := by decide +kernel
theorem f_192_91 : ftc (PT 192) 91 = some (91, .invokevirtual 328, 3, 70, 2089, 1307) := by decide +kernel
theorem f_192_94 : ftc (PT 192) 94 = some (94, .ireturn, 1, 0, 0, 0) := by decide +kernel
theorem f_193_0 : ftc (PT 193) 0 = some (0, .aload_n 0, 1, 0, 0, 0) := by decide +kernel
theorem f_193_1 : ftc (PT 193) 1 = some (1, .getfield 83, 3, 11, 13, 481) := by decide +kernel
theorem f_193_4 : ftc (PT 193) 4 = some (4, .invokevirtual 578, 3, 1, 1024, 534) := by decide +kernel
theorem f_193_7 : ftc (PT 193) 7 = some (7, .aload_n 0, 1, 0, 0, 0) := by decide +kernel
theorem f_193_8 : ftc (PT 193) 8 = some (8, .getfield 19, 3, 11, 1, 469) := by decide +kernel
theorem f_193_11 : ftc (PT 193) 11 = some (11, .iload_n 1, 1, 0, 0, 0) := by decide +kernel
theorem f_193_12 : ftc (PT 193) 12 = some (12, .aload_n 0, 1, 0, 0, 0) := by decide +kernel
theorem f_193_13 : ftc (PT 193) 13 = some (13, .getfield 46, 3, 11, 7, 475) := by decide +kernel
theorem f_193_16 : ftc (PT 193) 16 = some (16, .invokestatic 196, 3, 106, 4099, 742) := by decide +kernel
theorem f_193_19 : ftc (PT 193) 19 = some (19, .aload_n 0, 1, 0, 0, 0) := by decide +kernel
theorem f_193_20 : ftc (PT 193) 20 = some (20, .getfield 46, 3, 11, 7, 475) := by decide +kernel
theorem f_193_23 : ftc (PT 193) 23 = some (23, .iload 4, 2, 0, 0, 0) := by decide +kernel
theorem f_193_25 : ftc (PT 193) 25 = some (25, .iload_n 2, 1, 0, 0, 0) := by decide +kernel
theorem f_193_26 : ftc (PT 193) 26 = some (26, .i2l, 1, 0, 0, 0) := by decide +kernel
theorem f_193_27 : ftc (PT 193) 27 = some (27, .iload_n 3, 1, 0, 0, 0) := by decide +kernel
theorem f_193_28 : ftc (PT 193) 28 = some (28, .i2l, 1, 0, 0, 0) := by decide +kernel
theorem f_193_29 : ftc (PT 193) 29 = some (29, .invokevirtual 491, 3, 75, 6250, 565) := by decide +kernel
theorem f_193_32 : ftc (PT 193) 32 = some (32, .iconst 0, 1, 0, 0, 0) := by decide +kernel
theorem f_193_33 : ftc (PT 193) 33 = some (33, .istore 5, 2, 0, 0, 0) := by decide +kernel
theorem f_193_35 : ftc (PT 193) 35 = some (35, .iload 5, 2, 0, 0, 0) := by decide +kernel
theorem f_193_37 : ftc (PT 193) 37 = some (37, .sipush 184, 3, 0, 0, 0) := by decide +kernel
theorem f_193_40 : ftc (PT 193) 40 = some (40, .if_icmp .ge 93, 3, 133, 0, 0) := by decide +kernel
theorem f_193_43 : ftc (PT 193) 43 = some (43, .aload_n 0, 1, 0, 0, 0) := by decide +kernel
theorem f_193_44 : ftc (PT 193) 44 = some (44, .getfield 49, 3, 11, 8, 476) := by decide +kernel
theorem f_193_47 : ftc (PT 193) 47 = some (47, .aload_n 0, 1, 0, 0, 0) := by decide +kernel
theorem f_193_48 : ftc (PT 193) 48 = some (48, .getfield 46, 3, 11, 7, 475) := by decide +kernel
theorem f_193_51 : ftc (PT 193) 51 = some (51, .invokevirtual 569, 3, 84, 2090, 1299) := by decide +kernel
theorem f_193_54 : ftc (PT 193) 54 = some (54, .aload_n 0, 1, 0, 0, 0) := by decide +kernel
theorem f_193_55 : ftc (PT 193) 55 = some (55, .getfield 49, 3, 11, 8, 476) := by decide +kernel
theorem f_193_58 : ftc (PT 193) 58 = some (58, .aload_n 0, 1, 0, 0, 0) := by decide +kernel
theorem f_193_59 : ftc (PT 193) 59 = some (59, .getfield 10, 3, 11, 0, 468) := by decide +kernel
theorem f_193_62 : ftc (PT 193) 62 = some (62, .iload 5, 2, 0, 0, 0) := by decide +kernel
theorem f_193_64 : ftc (PT 193) 64 = some (64, .invokevirtual 331, 3, 69, 2089, 1303) := by decide +kernel
theorem f_193_67 : ftc (PT 193) 67 = some (67, .i2l, 1, 0, 0, 0) := by decide +kernel
theorem f_193_68 : ftc (PT 193) 68 = some (68, .aload_n 0, 1, 0, 0, 0) := by decide +kernel
theorem f_193_69 : ftc (PT 193) 69 = some (69, .getfield 10, 3, 11, 0, 468) := by decide +kernel
theorem f_193_72 : ftc (PT 193) 72 = some (72, .iload 5, 2, 0, 0, 0) := by decide +kernel
theorem f_193_74 : ftc (PT 193) 74 = some (74, .invokevirtual 328, 3, 70, 2089, 1307) := by decide +kernel
theorem f_193_77 : ftc (PT 193) 77 = some (77, .i2l, 1, 0, 0, 0) := by decide +kernel
theorem f_193_78 : ftc (PT 193) 78 = some (78, .invokevirtual 560, 3, 76, 11338, 1311) := by decide +kernel
theorem f_193_81 : ftc (PT 193) 81 = some (81, .aload_n 0, 1, 0, 0, 0) := by decide +kernel
theorem f_193_82 : ftc (PT 193) 82 = some (82, .getfield 49, 3, 11, 8, 476) := by decide +kernel
theorem f_193_85 : ftc (PT 193) 85 = some (85, .iload 4, 2, 0, 0, 0) := by decide +kernel
theorem f_193_87 : ftc (PT 193) 87 = some (87, .iload_n 2, 1, 0, 0, 0) := by decide +kernel
theorem f_193_88 : ftc (PT 193) 88 = some (88, .i2l, 1, 0, 0, 0) := by decide +kernel
theorem f_193_89 : ftc (PT 193) 89 = some (89, .iload_n 3, 1, 0, 0, 0) := by decide +kernel
theorem f_193_90 : ftc (PT 193) 90 = some (90, .i2l, 1, 0, 0, 0) := by decide +kernel
theorem f_193_91 : ftc (PT 193) 91 = some (91, .invokevirtual 491, 3, 75, 6250, 565) := by decide +kernel
theorem f_193_94 : ftc (PT 193) 94 = some (94, .aload_n 0, 1, 0, 0, 0) := by decide +kernel
theorem f_193_95 : ftc (PT 193) 95 = some (95, .getfield 83, 3, 11, 13, 481) := by decide +kernel
theorem f_193_98 : ftc (PT 193) 98 = some (98, .aload_n 0, 1, 0, 0, 0) := by decide +kernel
theorem f_193_99 : ftc (PT 193) 99 = some (99, .getfield 49, 3, 11, 8, 476) := by decide +kernel
theorem f_193_102 : ftc (PT 193) 102 = some (102, .invokevirtual 222, 3, 78, 5130, 577) := by decide +kernel
theorem f_193_105 : ftc (PT 193) 105 = some (105, .aload_n 0, 1, 0, 0, 0) := by decide +kernel
theorem f_193_106 : ftc (PT 193) 106 = some (106, .getfield 49, 3, 11, 8, 476) := by decide +kernel
theorem f_193_109 : ftc (PT 193) 109 = some (109, .invokevirtual 225, 3, 79, 5130, 581) := by decide +kernel
theorem f_193_112 : ftc (PT 193) 112 = some (112, .invokevirtual 588, 3, 2, 5184, 585) := by decide +kernel
theorem f_193_115 : ftc (PT 193) 115 = some (115, .ifCond .eq 12, 3, 127, 0, 0) := by decide +kernel
theorem f_193_118 : ftc (PT 193) 118 = some (118, .aload_n 0, 1, 0, 0, 0) := by decide +kernel
theorem f_193_119 : ftc (PT 193) 119 = some (119, .getfield 83, 3, 11, 13, 481) := by decide +kernel
theorem f_193_122 : ftc (PT 193) 122 = some (122, .iload 5, 2, 0, 0, 0) := by decide +kernel
theorem f_193_124 : ftc (PT 193) 124 = some (124, .putfield 403, 3, 0, 4, 394) := by decide +kernel
theorem f_193_127 : ftc (PT 193) 127 = some (127, .iinc 5 1, 3, 0, 0, 0) := by decide +kernel
theorem f_193_130 : ftc (PT 193) 130 = some (130, .goto (-95), 3, 35, 0, 0) := by decide +kernel
theorem f_193_133 : ftc (PT 193) 133 = some (133, .return_, 1, 0, 0, 0) := by decide +kernel
theorem f_194_48 : ftc (PT 194) 48 = some (48, .aload_n 0, 1, 0, 0, 0) := by decide +kernel
theorem f_194_49 : ftc (PT 194) 49 = some (49, .getfield 83, 3, 11, 13, 481) := by decide +kernel
theorem f_194_52 : ftc (PT 194) 52 = some (52, .getfield 415, 3, 0, 0, 386) := by decide +kernel
theorem f_194_55 : ftc (PT 194) 55 = some (55, .ifCond .eq 21, 3, 76, 0, 0) := by decide +kernel
theorem f_194_58 : ftc (PT 194) 58 = some (58, .aload_n 0, 1, 0, 0, 0) := by decide +kernel
theorem f_194_59 : ftc (PT 194) 59 = some (59, .getfield 83, 3, 11, 13, 481) := by decide +kernel
theorem f_194_62 : ftc (PT 194) 62 = some (62, .getfield 406, 3, 0, 1, 388) := by decide +kernel
theorem f_194_65 : ftc (PT 194) 65 = some (65, .aload_n 0, 1, 0, 0, 0) := by decide +kernel
theorem f_194_66 : ftc (PT 194) 66 = some (66, .getfield 83, 3, 11, 13, 481) := by decide +kernel
theorem f_194_69 : ftc (PT 194) 69 = some (69, .getfield 407, 3, 0, 2, 390) := by decide +kernel
theorem f_194_72 : ftc (PT 194) 72 = some (72, .lcmp, 1, 0, 0, 0) := by decide +kernel
theorem f_194_73 : ftc (PT 194) 73 = some (73, .ifCond .ne 5, 3, 78, 0, 0) := by decide +kernel
theorem f_194_76 : ftc (PT 194) 76 = some (76, .iconst (-1), 1, 0, 0, 0) := by decide +kernel
theorem f_194_77 : ftc (PT 194) 77 = some (77, .ireturn, 1, 0, 0, 0) := by decide +kernel
theorem f_194_78 : ftc (PT 194) 78 = some (78, .iload_n 2, 1, 0, 0, 0) := by decide +kernel
theorem f_194_79 : ftc (PT 194) 79 = some (79, .iconst 3, 1, 0, 0, 0) := by decide +kernel
theorem f_194_80 : ftc (PT 194) 80 = some (80, .if_icmp .ne 13, 3, 93, 0, 0) := by decide +kernel
theorem f_194_83 : ftc (PT 194) 83 = some (83, .aload_n 0, 1, 0, 0, 0) := by decide +kernel
theorem f_194_84 : ftc (PT 194) 84 = some (84, .getfield 83, 3, 11, 13, 481) := by decide +kernel
theorem f_194_87 : ftc (PT 194) 87 = some (87, .invokevirtual 389, 3, 4, 1024, 627) := by decide +kernel
theorem f_194_90 : ftc (PT 194) 90 = some (90, .goto 8, 3, 98, 0, 0) := by decide +kernel
theorem f_194_93 : ftc (PT 194) 93 = some (93, .aload_n 0, 1, 0, 0, 0) := by decide +kernel
theorem f_194_94 : ftc (PT 194) 94 = some (94, .iload_n 2, 1, 0, 0, 0) := by decide +kernel
theorem f_194_95 : ftc (PT 194) 95 = some (95, .invokevirtual 338, 3, 161, 2091, 1337) := by decide +kernel
theorem f_194_98 : ftc (PT 194) 98 = some (98, .ireturn, 1, 0, 0, 0) := by decide +kernel
theorem f_195_0 : ftc (PT 195) 0 = some (0, .aload_n 0, 1, 0, 0, 0) := by decide +kernel
theorem f_195_1 : ftc (PT 195) 1 = some (1, .getfield 83, 3, 11, 13, 481) := by decide +kernel
theorem f_195_4 : ftc (PT 195) 4 = some (4, .invokevirtual 578, 3, 1, 1024, 534) := by decide +kernel
theorem f_195_7 : ftc (PT 195) 7 = some (7, .aload_n 0, 1, 0, 0, 0) := by decide +kernel
theorem f_195_8 : ftc (PT 195) 8 = some (8, .getfield 19, 3, 11, 1, 469) := by decide +kernel
theorem f_195_11 : ftc (PT 195) 11 = some (11, .aload_n 0, 1, 0, 0, 0) := by decide +kernel
theorem f_195_12 : ftc (PT 195) 12 = some (12, .getfield 19, 3, 11, 1, 469) := by decide +kernel
theorem f_195_15 : ftc (PT 195) 15 = some (15, .getfield 127, 3, 2, 3, 221) := by decide +kernel
theorem f_195_18 : ftc (PT 195) 18 = some (18, .aload_n 0, 1, 0, 0, 0) := by decide +kernel
theorem f_195_19 : ftc (PT 195) 19 = some (19, .getfield 46, 3, 11, 7, 475) := by decide +kernel
theorem f_195_22 : ftc (PT 195) 22 = some (22, .invokestatic 196, 3, 106, 4099, 742) := by decide +kernel
theorem f_195_25 : ftc (PT 195) 25 = some (25, .iconst 0, 1, 0, 0, 0) := by decide +kernel
theorem f_195_26 : ftc (PT 195) 26 = some (26, .istore_n 2, 1, 0, 0, 0) := by decide +kernel
theorem f_195_27 : ftc (PT 195) 27 = some (27, .iload_n 2, 1, 0, 0, 0) := by decide +kernel
theorem f_195_28 : ftc (PT 195) 28 = some (28, .sipush 184, 3, 0, 0, 0) := by decide +kernel
theorem f_195_31 : ftc (PT 195) 31 = some (31, .if_icmp .ge 71, 3, 102, 0, 0) := by decide +kernel
theorem f_195_34 : ftc (PT 195) 34 = some (34, .aload_n 0, 1, 0, 0, 0) := by decide +kernel
theorem f_195_35 : ftc (PT 195) 35 = some (35, .getfield 62, 3, 11, 10, 478) := by decide +kernel
theorem f_195_38 : ftc (PT 195) 38 = some (38, .aload_n 0, 1, 0, 0, 0) := by decide +kernel
theorem f_195_39 : ftc (PT 195) 39 = some (39, .getfield 10, 3, 11, 0, 468) := by decide +kernel
theorem f_195_42 : ftc (PT 195) 42 = some (42, .iload_n 2, 1, 0, 0, 0) := by decide +kernel
theorem f_195_43 : ftc (PT 195) 43 = some (43, .invokevirtual 331, 3, 69, 2089, 1303) := by decide +kernel
theorem f_195_46 : ftc (PT 195) 46 = some (46, .i2l, 1, 0, 0, 0) := by decide +kernel
theorem f_195_47 : ftc (PT 195) 47 = some (47, .aload_n 0, 1, 0, 0, 0) := by decide +kernel
theorem f_195_48 : ftc (PT 195) 48 = some (48, .getfield 10, 3, 11, 0, 468) := by decide +kernel
theorem f_195_51 : ftc (PT 195) 51 = some (51, .iload_n 2, 1, 0, 0, 0) := by decide +kernel
theorem f_195_52 : ftc (PT 195) 52 = some (52, .invokevirtual 328, 3, 70, 2089, 1307) := by decide +kernel
theorem f_195_55 : ftc (PT 195) 55 = some (55, .i2l, 1, 0, 0, 0) := by decide +kernel
theorem f_195_56 : ftc (PT 195) 56 = some (56, .iload_n 1, 1, 0, 0, 0) := by decide +kernel
theorem f_195_57 : ftc (PT 195) 57 = some (57, .invokevirtual 247, 3, 30, 7267, 753) := by decide +kernel
theorem f_195_60 : ftc (PT 195) 60 = some (60, .aload_n 0, 1, 0, 0, 0) := by decide +kernel
theorem f_195_61 : ftc (PT 195) 61 = some (61, .getfield 62, 3, 11, 10, 478) := by decide +kernel
theorem f_195_64 : ftc (PT 195) 64 = some (64, .getfield 294, 3, 3, 1, 301) := by decide +kernel
theorem f_195_67 : ftc (PT 195) 67 = some (67, .lconst 0, 1, 0, 0, 0) := by decide +kernel
theorem f_195_68 : ftc (PT 195) 68 = some (68, .lcmp, 1, 0, 0, 0) := by decide +kernel
theorem f_195_69 : ftc (PT 195) 69 = some (69, .ifCond .ne 9, 3, 78, 0, 0) := by decide +kernel
theorem f_195_72 : ftc (PT 195) 72 = some (72, .aload_n 0, 1, 0, 0, 0) := by decide +kernel
theorem f_195_73 : ftc (PT 195) 73 = some (73, .iload_n 2, 1, 0, 0, 0) := by decide +kernel
theorem f_195_74 : ftc (PT 195) 74 = some (74, .iconst 1, 1, 0, 0, 0) := by decide +kernel
theorem f_195_75 : ftc (PT 195) 75 = some (75, .invokevirtual 619, 3, 196, 3147, 1562) := by decide +kernel
theorem f_195_78 : ftc (PT 195) 78 = some (78, .aload_n 0, 1, 0, 0, 0) := by decide +kernel
theorem f_195_79 : ftc (PT 195) 79 = some (79, .getfield 62, 3, 11, 10, 478) := by decide +kernel
theorem f_195_82 : ftc (PT 195) 82 = some (82, .getfield 291, 3, 3, 0, 298) := by decide +kernel
theorem f_195_85 : ftc (PT 195) 85 = some (85, .lconst 0, 1, 0, 0, 0) := by decide +kernel
theorem f_195_86 : ftc (PT 195) 86 = some (86, .lcmp, 1, 0, 0, 0) := by decide +kernel
theorem f_195_87 : ftc (PT 195) 87 = some (87, .ifCond .ne 9, 3, 96, 0, 0) := by decide +kernel
theorem f_195_90 : ftc (PT 195) 90 = some (90, .aload_n 0, 1, 0, 0, 0) := by decide +kernel
theorem f_195_91 : ftc (PT 195) 91 = some (91, .iload_n 2, 1, 0, 0, 0) := by decide +kernel
theorem f_195_92 : ftc (PT 195) 92 = some (92, .iconst 0, 1, 0, 0, 0) := by decide +kernel
theorem f_195_93 : ftc (PT 195) 93 = some (93, .invokevirtual 619, 3, 196, 3147, 1562) := by decide +kernel
theorem f_195_96 : ftc (PT 195) 96 = some (96, .iinc 2 1, 3, 0, 0, 0) := by decide +kernel
theorem f_195_99 : ftc (PT 195) 99 = some (99, .goto (-72), 3, 27, 0, 0) := by decide +kernel
theorem f_195_102 : ftc (PT 195) 102 = some (102, .return_, 1, 0, 0, 0) := by decide +kernel
theorem f_196_0 : ftc (PT 196) 0 = some (0, .aload_n 0, 1, 0, 0, 0) := by decide +kernel
theorem f_196_1 : ftc (PT 196) 1 = some (1, .getfield 49, 3, 11, 8, 476) := by decide +kernel
theorem f_196_4 : ftc (PT 196) 4 = some (4, .aload_n 0, 1, 0, 0, 0) := by decide +kernel
theorem f_196_5 : ftc (PT 196) 5 = some (5, .getfield 46, 3, 11, 7, 475) := by decide +kernel
theorem f_196_8 : ftc (PT 196) 8 = some (8, .invokevirtual 569, 3, 84, 2090, 1299) := by decide +kernel
theorem f_196_11 : ftc (PT 196) 11 = some (11, .aload_n 0, 1, 0, 0, 0) := by decide +kernel
theorem f_196_12 : ftc (PT 196) 12 = some (12, .getfield 49, 3, 11, 8, 476) := by decide +kernel
theorem f_196_15 : ftc (PT 196) 15 = some (15, .iconst 0, 1, 0, 0, 0) := by decide +kernel
theorem f_196_16 : ftc (PT 196) 16 = some (16, .iload_n 2, 1, 0, 0, 0) := by decide +kernel
theorem f_196_17 : ftc (PT 196) 17 = some (17, .invokestatic 301, 3, 146, 2050, 1208) := by decide +kernel
theorem f_196_20 : ftc (PT 196) 20 = some (20, .aload_n 0, 1, 0, 0, 0) := by decide +kernel
theorem f_196_21 : ftc (PT 196) 21 = some (21, .getfield 10, 3, 11, 0, 468) := by decide +kernel
theorem f_196_24 : ftc (PT 196) 24 = some (24, .iload_n 1, 1, 0, 0, 0) := by decide +kernel
theorem f_196_25 : ftc (PT 196) 25 = some (25, .invokevirtual 331, 3, 69, 2089, 1303) := by decide +kernel
theorem f_196_28 : ftc (PT 196) 28 = some (28, .i2l, 1, 0, 0, 0) := by decide +kernel
theorem f_196_29 : ftc (PT 196) 29 = some (29, .aload_n 0, 1, 0, 0, 0) := by decide +kernel
theorem f_196_30 : ftc (PT 196) 30 = some (30, .getfield 10, 3, 11, 0, 468) := by decide +kernel
theorem f_196_33 : ftc (PT 196) 33 = some (33, .iload_n 1, 1, 0, 0, 0) := by decide +kernel
theorem f_196_34 : ftc (PT 196) 34 = some (34, .invokevirtual 328, 3, 70, 2089, 1307) := by decide +kernel
theorem f_196_37 : ftc (PT 196) 37 = some (37, .i2l, 1, 0, 0, 0) := by decide +kernel
theorem f_196_38 : ftc (PT 196) 38 = some (38, .invokevirtual 491, 3, 75, 6250, 565) := by decide +kernel
theorem f_196_41 : ftc (PT 196) 41 = some (41, .aload_n 0, 1, 0, 0, 0) := by decide +kernel
theorem f_196_42 : ftc (PT 196) 42 = some (42, .getfield 83, 3, 11, 13, 481) := by decide +kernel
theorem f_196_45 : ftc (PT 196) 45 = some (45, .aload_n 0, 1, 0, 0, 0) := by decide +kernel
theorem f_196_46 : ftc (PT 196) 46 = some (46, .getfield 49, 3, 11, 8, 476) := by decide +kernel
theorem f_196_49 : ftc (PT 196) 49 = some (49, .invokevirtual 222, 3, 78, 5130, 577) := by decide +kernel
theorem f_196_52 : ftc (PT 196) 52 = some (52, .aload_n 0, 1, 0, 0, 0) := by decide +kernel
theorem f_196_53 : ftc (PT 196) 53 = some (53, .getfield 49, 3, 11, 8, 476) := by decide +kernel
theorem f_196_56 : ftc (PT 196) 56 = some (56, .invokevirtual 225, 3, 79, 5130, 581) := by decide +kernel
theorem f_196_59 : ftc (PT 196) 59 = some (59, .invokevirtual 588, 3, 2, 5184, 585) := by decide +kernel
theorem f_196_62 : ftc (PT 196) 62 = some (62, .ifCond .eq 19, 3, 81, 0, 0) := by decide +kernel
theorem f_196_65 : ftc (PT 196) 65 = some (65, .aload_n 0, 1, 0, 0, 0) := by decide +kernel
theorem f_196_66 : ftc (PT 196) 66 = some (66, .getfield 83, 3, 11, 13, 481) := by decide +kernel
theorem f_196_69 : ftc (PT 196) 69 = some (69, .iload_n 1, 1, 0, 0, 0) := by decide +kernel
theorem f_196_70 : ftc (PT 196) 70 = some (70, .putfield 386, 3, 0, 5, 396) := by decide +kernel
theorem f_196_73 : ftc (PT 196) 73 = some (73, .aload_n 0, 1, 0, 0, 0) := by decide +kernel
theorem f_196_74 : ftc (PT 196) 74 = some (74, .getfield 83, 3, 11, 13, 481) := by decide +kernel
theorem f_196_77 : ftc (PT 196) 77 = some (77, .iload_n 2, 1, 0, 0, 0) := by decide +kernel
theorem f_196_78 : ftc (PT 196) 78 = some (78, .putfield 575, 3, 0, 6, 398) := by decide +kernel
theorem f_196_81 : ftc (PT 196) 81 = some (81, .return_, 1, 0, 0, 0) := by decide +kernel
theorem f_197_10 : ftc (PT 197) 10 = some (10, .istore_n 2, 1, 0, 0, 0) := by decide +kernel
theorem f_197_11 : ftc (PT 197) 11 = some (11, .iconst (-1), 1, 0, 0, 0) := by decide +kernel
theorem f_197_12 : ftc (PT 197) 12 = some (12, .istore_n 3, 1, 0, 0, 0) := by decide +kernel
theorem f_197_13 : ftc (PT 197) 13 = some (13, .iconst 0, 1, 0, 0, 0) := by decide +kernel
theorem f_197_14 : ftc (PT 197) 14 = some (14, .istore 4, 2, 0, 0, 0) := by decide +kernel
theorem f_197_16 : ftc (PT 197) 16 = some (16, .iconst 0, 1, 0, 0, 0) := by decide +kernel
theorem f_197_17 : ftc (PT 197) 17 = some (17, .istore 5, 2, 0, 0, 0) := by decide +kernel
theorem f_197_19 : ftc (PT 197) 19 = some (19, .iload 5, 2, 0, 0, 0) := by decide +kernel
theorem f_197_21 : ftc (PT 197) 21 = some (21, .aload_n 0, 1, 0, 0, 0) := by decide +kernel
theorem f_197_22 : ftc (PT 197) 22 = some (22, .getfield 19, 3, 11, 1, 469) := by decide +kernel
theorem f_197_25 : ftc (PT 197) 25 = some (25, .getfield 127, 3, 2, 3, 221) := by decide +kernel
theorem f_197_28 : ftc (PT 197) 28 = some (28, .if_icmp .ge 38, 3, 66, 0, 0) := by decide +kernel
theorem f_197_31 : ftc (PT 197) 31 = some (31, .aload_n 0, 1, 0, 0, 0) := by decide +kernel
theorem f_197_32 : ftc (PT 197) 32 = some (32, .iload 5, 2, 0, 0, 0) := by decide +kernel
theorem f_197_34 : ftc (PT 197) 34 = some (34, .invokevirtual 427, 3, 199, 5163, 1577) := by decide +kernel
theorem f_197_37 : ftc (PT 197) 37 = some (37, .iload_n 2, 1, 0, 0, 0) := by decide +kernel
theorem f_197_38 : ftc (PT 197) 38 = some (38, .isub, 1, 0, 0, 0) := by decide +kernel
theorem f_197_39 : ftc (PT 197) 39 = some (39, .istore 6, 2, 0, 0, 0) := by decide +kernel
theorem f_197_41 : ftc (PT 197) 41 = some (41, .iload_n 3, 1, 0, 0, 0) := by decide +kernel
theorem f_197_42 : ftc (PT 197) 42 = some (42, .iconst (-1), 1, 0, 0, 0) := by decide +kernel
theorem f_197_43 : ftc (PT 197) 43 = some (43, .if_icmp .eq 10, 3, 53, 0, 0) := by decide +kernel
theorem f_197_46 : ftc (PT 197) 46 = some (46, .iload 6, 2, 0, 0, 0) := by decide +kernel
theorem f_197_48 : ftc (PT 197) 48 = some (48, .iload 4, 2, 0, 0, 0) := by decide +kernel
theorem f_197_50 : ftc (PT 197) 50 = some (50, .if_icmp .le 10, 3, 60, 0, 0) := by decide +kernel
theorem f_197_53 : ftc (PT 197) 53 = some (53, .iload 5, 2, 0, 0, 0) := by decide +kernel
theorem f_197_55 : ftc (PT 197) 55 = some (55, .istore_n 3, 1, 0, 0, 0) := by decide +kernel
theorem f_197_56 : ftc (PT 197) 56 = some (56, .iload 6, 2, 0, 0, 0) := by decide +kernel
theorem f_197_58 : ftc (PT 197) 58 = some (58, .istore 4, 2, 0, 0, 0) := by decide +kernel
theorem f_197_60 : ftc (PT 197) 60 = some (60, .iinc 5 1, 3, 0, 0, 0) := by decide +kernel
theorem f_197_63 : ftc (PT 197) 63 = some (63, .goto (-44), 3, 19, 0, 0) := by decide +kernel
theorem f_197_66 : ftc (PT 197) 66 = some (66, .iload_n 1, 1, 0, 0, 0) := by decide +kernel
theorem f_197_67 : ftc (PT 197) 67 = some (67, .ifCond .ne 7, 3, 74, 0, 0) := by decide +kernel
theorem f_197_70 : ftc (PT 197) 70 = some (70, .iload_n 3, 1, 0, 0, 0) := by decide +kernel
theorem f_197_71 : ftc (PT 197) 71 = some (71, .goto 5, 3, 76, 0, 0) := by decide +kernel
theorem f_197_74 : ftc (PT 197) 74 = some (74, .iload 4, 2, 0, 0, 0) := by decide +kernel
theorem f_197_76 : ftc (PT 197) 76 = some (76, .ireturn, 1, 0, 0, 0) := by decide +kernel
theorem f_198_18 : ftc (PT 198) 18 = some (18, .aload_n 0, 1, 0, 0, 0) := by decide +kernel
theorem f_198_19 : ftc (PT 198) 19 = some (19, .invokevirtual 236, 3, 128, 4107, 1007) := by decide +kernel
theorem f_198_22 : ftc (PT 198) 22 = some (22, .ireturn, 1, 0, 0, 0) := by decide +kernel
theorem f_199_0 : ftc (PT 199) 0 = some (0, .aload_n 0, 1, 0, 0, 0) := by decide +kernel
theorem f_199_1 : ftc (PT 199) 1 = some (1, .getfield 10, 3, 11, 0, 468) := by decide +kernel
theorem f_199_4 : ftc (PT 199) 4 = some (4, .aload_n 0, 1, 0, 0, 0) := by decide +kernel
theorem f_199_5 : ftc (PT 199) 5 = some (5, .getfield 19, 3, 11, 1, 469) := by decide +kernel
theorem f_199_8 : ftc (PT 199) 8 = some (8, .iload_n 1, 1, 0, 0, 0) := by decide +kernel
theorem f_199_9 : ftc (PT 199) 9 = some (9, .invokevirtual 150, 3, 14, 2082, 557) := by decide +kernel
theorem f_199_12 : ftc (PT 199) 12 = some (12, .i2l, 1, 0, 0, 0) := by decide +kernel
theorem f_199_13 : ftc (PT 199) 13 = some (13, .aload_n 0, 1, 0, 0, 0) := by decide +kernel
theorem f_199_14 : ftc (PT 199) 14 = some (14, .getfield 19, 3, 11, 1, 469) := by decide +kernel
theorem f_199_17 : ftc (PT 199) 17 = some (17, .iload_n 1, 1, 0, 0, 0) := by decide +kernel
theorem f_199_18 : ftc (PT 199) 18 = some (18, .invokevirtual 153, 3, 15, 2082, 561) := by decide +kernel
theorem f_199_21 : ftc (PT 199) 21 = some (21, .i2l, 1, 0, 0, 0) := by decide +kernel
theorem f_199_22 : ftc (PT 199) 22 = some (22, .invokevirtual 601, 3, 72, 6217, 1434) := by decide +kernel
theorem f_199_25 : ftc (PT 199) 25 = some (25, .istore_n 2, 1, 0, 0, 0) := by decide +kernel
theorem f_199_26 : ftc (PT 199) 26 = some (26, .aload_n 0, 1, 0, 0, 0) := by decide +kernel
theorem f_199_27 : ftc (PT 199) 27 = some (27, .getfield 19, 3, 11, 1, 469) := by decide +kernel
theorem f_199_30 : ftc (PT 199) 30 = some (30, .iload_n 1, 1, 0, 0, 0) := by decide +kernel
theorem f_199_31 : ftc (PT 199) 31 = some (31, .aload_n 0, 1, 0, 0, 0) := by decide +kernel
theorem f_199_32 : ftc (PT 199) 32 = some (32, .getfield 46, 3, 11, 7, 475) := by decide +kernel
theorem f_199_35 : ftc (PT 199) 35 = some (35, .invokestatic 196, 3, 106, 4099, 742) := by decide +kernel
theorem f_199_38 : ftc (PT 199) 38 = some (38, .aload_n 0, 1, 0, 0, 0) := by decide +kernel
theorem f_199_39 : ftc (PT 199) 39 = some (39, .iload_n 1, 1, 0, 0, 0) := by decide +kernel
theorem f_199_40 : ftc (PT 199) 40 = some (40, .iload_n 2, 1, 0, 0, 0) := by decide +kernel
theorem f_199_41 : ftc (PT 199) 41 = some (41, .iconst 1, 1, 0, 0, 0) := by decide +kernel
theorem f_199_42 : ftc (PT 199) 42 = some (42, .iadd, 1, 0, 0, 0) := by decide +kernel
theorem f_199_43 : ftc (PT 199) 43 = some (43, .sipush 184, 3, 0, 0, 0) := by decide +kernel
theorem f_199_46 : ftc (PT 199) 46 = some (46, .if_icmp .ge 9, 3, 55, 0, 0) := by decide +kernel
theorem f_199_49 : ftc (PT 199) 49 = some (49, .iload_n 2, 1, 0, 0, 0) := by decide +kernel
theorem f_199_50 : ftc (PT 199) 50 = some (50, .iconst 1, 1, 0, 0, 0) := by decide +kernel
theorem f_199_51 : ftc (PT 199) 51 = some (51, .iadd, 1, 0, 0, 0) := by decide +kernel
theorem f_199_52 : ftc (PT 199) 52 = some (52, .goto 4, 3, 56, 0, 0) := by decide +kernel
theorem f_199_55 : ftc (PT 199) 55 = some (55, .iconst 0, 1, 0, 0, 0) := by decide +kernel
theorem f_199_56 : ftc (PT 199) 56 = some (56, .invokevirtual 614, 3, 200, 3147, 1581) := by decide +kernel
theorem f_199_59 : ftc (PT 199) 59 = some (59, .istore_n 3, 1, 0, 0, 0) := by decide +kernel
theorem f_199_60 : ftc (PT 199) 60 = some (60, .aload_n 0, 1, 0, 0, 0) := by decide +kernel
theorem f_199_61 : ftc (PT 199) 61 = some (61, .iload_n 1, 1, 0, 0, 0) := by decide +kernel
theorem f_199_62 : ftc (PT 199) 62 = some (62, .iload_n 2, 1, 0, 0, 0) := by decide +kernel
theorem f_199_63 : ftc (PT 199) 63 = some (63, .ifCond .le 9, 3, 72, 0, 0) := by decide +kernel
theorem f_199_66 : ftc (PT 199) 66 = some (66, .iload_n 2, 1, 0, 0, 0) := by decide +kernel
theorem f_199_67 : ftc (PT 199) 67 = some (67, .iconst 1, 1, 0, 0, 0) := by decide +kernel
theorem f_199_68 : ftc (PT 199) 68 = some (68, .isub, 1, 0, 0, 0) := by decide +kernel
theorem f_199_69 : ftc (PT 199) 69 = some (69, .goto 6, 3, 75, 0, 0) := by decide +kernel
theorem f_199_72 : ftc (PT 199) 72 = some (72, .sipush 183, 3, 0, 0, 0) := by decide +kernel
theorem f_199_75 : ftc (PT 199) 75 = some (75, .invokevirtual 614, 3, 200, 3147, 1581) := by decide +kernel
theorem f_199_78 : ftc (PT 199) 78 = some (78, .istore 4, 2, 0, 0, 0) := by decide +kernel
theorem f_199_80 : ftc (PT 199) 80 = some (80, .iload_n 3, 1, 0, 0, 0) := by decide +kernel
theorem f_199_81 : ftc (PT 199) 81 = some (81, .iload 4, 2, 0, 0, 0) := by decide +kernel
theorem f_199_83 : ftc (PT 199) 83 = some (83, .if_icmp .le 7, 3, 90, 0, 0) := by decide +kernel
theorem f_199_86 : ftc (PT 199) 86 = some (86, .iload_n 3, 1, 0, 0, 0) := by decide +kernel
theorem f_199_87 : ftc (PT 199) 87 = some (87, .goto 5, 3, 92, 0, 0) := by decide +kernel
theorem f_199_90 : ftc (PT 199) 90 = some (90, .iload 4, 2, 0, 0, 0) := by decide +kernel
theorem f_199_92 : ftc (PT 199) 92 = some (92, .ireturn, 1, 0, 0, 0) := by decide +kernel
theorem f_200_0 : ftc (PT 200) 0 = some (0, .aload_n 0, 1, 0, 0, 0) := by decide +kernel
theorem f_200_1 : ftc (PT 200) 1 = some (1, .iload_n 1, 1, 0, 0, 0) := by decide +kernel
theorem f_200_2 : ftc (PT 200) 2 = some (2, .iload_n 2, 1, 0, 0, 0) := by decide +kernel
theorem f_200_3 : ftc (PT 200) 3 = some (3, .invokevirtual 608, 3, 178, 3147, 1457) := by decide +kernel
theorem f_200_6 : ftc (PT 200) 6 = some (6, .aload_n 0, 1, 0, 0, 0) := by decide +kernel
theorem f_200_7 : ftc (PT 200) 7 = some (7, .getfield 49, 3, 11, 8, 476) := by decide +kernel
theorem f_200_10 : ftc (PT 200) 10 = some (10, .invokevirtual 222, 3, 78, 5130, 577) := by decide +kernel
theorem f_200_13 : ftc (PT 200) 13 = some (13, .aload_n 0, 1, 0, 0, 0) := by decide +kernel
theorem f_200_14 : ftc (PT 200) 14 = some (14, .getfield 49, 3, 11, 8, 476) := by decide +kernel
theorem f_200_17 : ftc (PT 200) 17 = some (17, .invokevirtual 225, 3, 79, 5130, 581) := by decide +kernel
theorem f_200_20 : ftc (PT 200) 20 = some (20, .invokestatic 617, 3, 24, 4098, 1585) := by decide +kernel
theorem f_200_23 : ftc (PT 200) 23 = some (23, .ireturn, 1, 0, 0, 0) := by decide +kernel
theorem f_201_17 : ftc (PT 201) 17 = some (17, .iload_n 1, 1, 0, 0, 0) := by decide +kernel
theorem f_201_18 : ftc (PT 201) 18 = some (18, .ifCond .ne 12, 3, 30, 0, 0) := by decide +kernel
theorem f_201_21 : ftc (PT 201) 21 = some (21, .aload_n 0, 1, 0, 0, 0) := by decide +kernel
theorem f_201_22 : ftc (PT 201) 22 = some (22, .getfield 90, 3, 11, 14, 482) := by decide +kernel
theorem f_201_25 : ftc (PT 201) 25 = some (25, .getfield 437, 3, 8, 0, 423) := by decide +kernel
theorem f_201_28 : ftc (PT 201) 28 = some (28, .i2l, 1, 0, 0, 0) := by decide +kernel
theorem f_201_29 : ftc (PT 201) 29 = some (29, .lreturn, 1, 0, 0, 0) := by decide +kernel
theorem f_201_30 : ftc (PT 201) 30 = some (30, .aload_n 0, 1, 0, 0, 0) := by decide +kernel
theorem f_201_31 : ftc (PT 201) 31 = some (31, .getfield 90, 3, 11, 14, 482) := by decide +kernel
theorem f_201_34 : ftc (PT 201) 34 = some (34, .getfield 440, 3, 8, 1, 425) := by decide +kernel
theorem f_201_37 : ftc (PT 201) 37 = some (37, .iload_n 1, 1, 0, 0, 0) := by decide +kernel
theorem f_201_38 : ftc (PT 201) 38 = some (38, .iconst 2, 1, 0, 0, 0) := by decide +kernel
theorem f_201_39 : ftc (PT 201) 39 = some (39, .if_icmp .ne 7, 3, 46, 0, 0) := by decide +kernel
theorem f_201_42 : ftc (PT 201) 42 = some (42, .iconst 1, 1, 0, 0, 0) := by decide +kernel
theorem f_201_43 : ftc (PT 201) 43 = some (43, .goto 4, 3, 47, 0, 0) := by decide +kernel
theorem f_201_46 : ftc (PT 201) 46 = some (46, .iconst 0, 1, 0, 0, 0) := by decide +kernel
theorem f_201_47 : ftc (PT 201) 47 = some (47, .invokevirtual 218, 3, 31, 2083, 974) := by decide +kernel
theorem f_201_50 : ftc (PT 201) 50 = some (50, .lreturn, 1, 0, 0, 0) := by decide +kernel
theorem f_207_0 : ftc (PT 207) 0 = some (0, .iload_n 0, 1, 0, 0, 0) := by decide +kernel
theorem f_207_1 : ftc (PT 207) 1 = some (1, .bipush (-12), 2, 0, 0, 0) := by decide +kernel
theorem f_207_3 : ftc (PT 207) 3 = some (3, .bipush 12, 2, 0, 0, 0) := by decide +kernel
theorem f_207_5 : ftc (PT 207) 5 = some (5, .invokestatic 62, 3, 208, 3075, 1624) := by decide +kernel
theorem f_207_8 : ftc (PT 207) 8 = some (8, .ifCond .eq 38, 3, 46, 0, 0) := by decide +kernel
theorem f_207_11 : ftc (PT 207) 11 = some (11, .iload_n 1, 1, 0, 0, 0) := by decide +kernel
theorem f_207_12 : ftc (PT 207) 12 = some (12, .iconst 0, 1, 0, 0, 0) := by decide +kernel
theorem f_207_13 : ftc (PT 207) 13 = some (13, .bipush 12, 2, 0, 0, 0) := by decide +kernel
theorem f_207_15 : ftc (PT 207) 15 = some (15, .invokestatic 62, 3, 208, 3075, 1624) := by decide +kernel
theorem f_207_18 : ftc (PT 207) 18 = some (18, .ifCond .eq 28, 3, 46, 0, 0) := by decide +kernel
theorem f_207_21 : ftc (PT 207) 21 = some (21, .iload_n 0, 1, 0, 0, 0) := by decide +kernel
theorem f_207_22 : ftc (PT 207) 22 = some (22, .i2l, 1, 0, 0, 0) := by decide +kernel
theorem f_207_23 : ftc (PT 207) 23 = some (23, .iload_n 1, 1, 0, 0, 0) := by decide +kernel
theorem f_207_24 : ftc (PT 207) 24 = some (24, .i2l, 1, 0, 0, 0) := by decide +kernel
theorem f_207_25 : ftc (PT 207) 25 = some (25, .invokestatic 66, 3, 209, 10242, 1627) := by decide +kernel
theorem f_207_28 : ftc (PT 207) 28 = some (28, .lconst 1, 1, 0, 0, 0) := by decide +kernel
theorem f_207_29 : ftc (PT 207) 29 = some (29, .lcmp, 1, 0, 0, 0) := by decide +kernel
theorem f_207_30 : ftc (PT 207) 30 = some (30, .ifCond .ne 16, 3, 46, 0, 0) := by decide +kernel
theorem f_207_33 : ftc (PT 207) 33 = some (33, .iload_n 1, 1, 0, 0, 0) := by decide +kernel
theorem f_207_34 : ftc (PT 207) 34 = some (34, .ifCond .gt 8, 3, 42, 0, 0) := by decide +kernel
theorem f_207_37 : ftc (PT 207) 37 = some (37, .iload_n 0, 1, 0, 0, 0) := by decide +kernel
theorem f_207_38 : ftc (PT 207) 38 = some (38, .iconst 1, 1, 0, 0, 0) := by decide +kernel
theorem f_207_39 : ftc (PT 207) 39 = some (39, .if_icmp .ne 7, 3, 46, 0, 0) := by decide +kernel
theorem f_207_42 : ftc (PT 207) 42 = some (42, .iconst 1, 1, 0, 0, 0) := by decide +kernel
theorem f_207_43 : ftc (PT 207) 43 = some (43, .goto 4, 3, 47, 0, 0) := by decide +kernel
theorem f_207_46 : ftc (PT 207) 46 = some (46, .iconst 0, 1, 0, 0, 0) := by decide +kernel
theorem f_207_47 : ftc (PT 207) 47 = some (47, .ireturn, 1, 1, 0, 0) := by decide +kernel
theorem f_208_0 : ftc (PT 208) 0 = some (0, .iload_n 0, 1, 0, 0, 0) := by decide +kernel
theorem f_208_1 : ftc (PT 208) 1 = some (1, .iload_n 1, 1, 0, 0, 0) := by decide +kernel
theorem f_208_2 : ftc (PT 208) 2 = some (2, .if_icmp .lt 12, 3, 14, 0, 0) := by decide +kernel
theorem f_208_5 : ftc (PT 208) 5 = some (5, .iload_n 0, 1, 0, 0, 0) := by decide +kernel
theorem f_208_6 : ftc (PT 208) 6 = some (6, .iload_n 2, 1, 0, 0, 0) := by decide +kernel
theorem f_208_7 : ftc (PT 208) 7 = some (7, .if_icmp .gt 7, 3, 14, 0, 0) := by decide +kernel
theorem f_208_10 : ftc (PT 208) 10 = some (10, .iconst 1, 1, 0, 0, 0) := by decide +kernel
theorem f_208_11 : ftc (PT 208) 11 = some (11, .goto 4, 3, 15, 0, 0) := by decide +kernel
theorem f_208_14 : ftc (PT 208) 14 = some (14, .iconst 0, 1, 0, 0, 0) := by decide +kernel
theorem f_208_15 : ftc (PT 208) 15 = some (15, .ireturn, 1, 1, 0, 0) := by decide +kernel
theorem f_209_0 : ftc (PT 209) 0 = some (0, .lload_n 0, 1, 0, 0, 0) := by decide +kernel
theorem f_209_1 : ftc (PT 209) 1 = some (1, .invokestatic 58, 3, 210, 2049, 1630) := by decide +kernel
theorem f_209_4 : ftc (PT 209) 4 = some (4, .lstore 4, 2, 0, 0, 0) := by decide +kernel
theorem f_209_6 : ftc (PT 209) 6 = some (6, .lload_n 2, 1, 0, 0, 0) := by decide +kernel
theorem f_209_7 : ftc (PT 209) 7 = some (7, .invokestatic 58, 3, 210, 2049, 1630) := by decide +kernel
theorem f_209_10 : ftc (PT 209) 10 = some (10, .lstore 6, 2, 0, 0, 0) := by decide +kernel
theorem f_209_12 : ftc (PT 209) 12 = some (12, .lload 6, 2, 0, 0, 0) := by decide +kernel
theorem f_209_14 : ftc (PT 209) 14 = some (14, .lconst 0, 1, 0, 0, 0) := by decide +kernel
theorem f_209_15 : ftc (PT 209) 15 = some (15, .lcmp, 1, 0, 0, 0) := by decide +kernel
theorem f_209_16 : ftc (PT 209) 16 = some (16, .ifCond .eq 21, 3, 37, 0, 0) := by decide +kernel
theorem f_209_19 : ftc (PT 209) 19 = some (19, .lload 4, 2, 0, 0, 0) := by decide +kernel
theorem f_209_21 : ftc (PT 209) 21 = some (21, .lload 6, 2, 0, 0, 0) := by decide +kernel
theorem f_209_23 : ftc (PT 209) 23 = some (23, .lrem, 1, 0, 0, 0) := by decide +kernel
theorem f_209_24 : ftc (PT 209) 24 = some (24, .lstore 8, 2, 0, 0, 0) := by decide +kernel
theorem f_209_26 : ftc (PT 209) 26 = some (26, .lload 6, 2, 0, 0, 0) := by decide +kernel
theorem f_209_28 : ftc (PT 209) 28 = some (28, .lstore 4, 2, 0, 0, 0) := by decide +kernel
theorem f_209_30 : ftc (PT 209) 30 = some (30, .lload 8, 2, 0, 0, 0) := by decide +kernel
theorem f_209_32 : ftc (PT 209) 32 = some (32, .lstore 6, 2, 0, 0, 0) := by decide +kernel
theorem f_209_34 : ftc (PT 209) 34 = some (34, .goto (-22), 3, 12, 0, 0) := by decide +kernel
theorem f_209_37 : ftc (PT 209) 37 = some (37, .lload 4, 2, 0, 0, 0) := by decide +kernel
theorem f_209_39 : ftc (PT 209) 39 = some (39, .lreturn, 1, 0, 0, 0) := by decide +kernel
theorem f_210_0 : ftc (PT 210) 0 = some (0, .lload_n 0, 1, 0, 0, 0) := by decide +kernel
theorem f_210_1 : ftc (PT 210) 1 = some (1, .lconst 0, 1, 0, 0, 0) := by decide +kernel
theorem f_210_2 : ftc (PT 210) 2 = some (2, .lcmp, 1, 0, 0, 0) := by decide +kernel
theorem f_210_3 : ftc (PT 210) 3 = some (3, .ifCond .ge 8, 3, 11, 0, 0) := by decide +kernel
theorem f_210_6 : ftc (PT 210) 6 = some (6, .lload_n 0, 1, 0, 0, 0) := by decide +kernel
theorem f_210_7 : ftc (PT 210) 7 = some (7, .lneg, 1, 0, 0, 0) := by decide +kernel
theorem f_210_8 : ftc (PT 210) 8 = some (8, .goto 4, 3, 12, 0, 0) := by decide +kernel
theorem f_210_11 : ftc (PT 210) 11 = some (11, .lload_n 0, 1, 0, 0, 0) := by decide +kernel
theorem f_210_12 : ftc (PT 210) 12 = some (12, .lreturn, 1, 0, 0, 0) := by decide +kernel
theorem f_214_15 : ftc (PT 214) 15 = some (15, .ifCond .ne 7, 3, 22, 0, 0) := by decide +kernel
theorem f_214_18 : ftc (PT 214) 18 = some (18, .iconst 1, 1, 0, 0, 0) := by decide +kernel
theorem f_214_19 : ftc (PT 214) 19 = some (19, .goto 16, 3, 35, 0, 0) := by decide +kernel
theorem f_214_22 : ftc (PT 214) 22 = some (22, .aload_n 0, 1, 0, 0, 0) := by decide +kernel
theorem f_214_23 : ftc (PT 214) 23 = some (23, .invokevirtual 92, 3, 215, 1036, 1781) := by decide +kernel
theorem f_214_26 : ftc (PT 214) 26 = some (26, .iconst 4, 1, 0, 0, 0) := by decide +kernel
theorem f_214_27 : ftc (PT 214) 27 = some (27, .if_icmp .ne 7, 3, 34, 0, 0) := by decide +kernel
theorem f_214_30 : ftc (PT 214) 30 = some (30, .iconst 2, 1, 0, 0, 0) := by decide +kernel
theorem f_214_31 : ftc (PT 214) 31 = some (31, .goto 4, 3, 35, 0, 0) := by decide +kernel
theorem f_214_34 : ftc (PT 214) 34 = some (34, .iconst 0, 1, 0, 0, 0) := by decide +kernel
theorem f_214_35 : ftc (PT 214) 35 = some (35, .putfield 55, 3, 12, 0, 1636) := by decide +kernel
theorem f_214_38 : ftc (PT 214) 38 = some (38, .aload_n 0, 1, 0, 0, 0) := by decide +kernel
theorem f_214_39 : ftc (PT 214) 39 = some (39, .getfield 55, 3, 12, 0, 1636) := by decide +kernel
theorem f_214_42 : ftc (PT 214) 42 = some (42, .ifCond .le 5, 3, 47, 0, 0) := by decide +kernel
theorem f_214_45 : ftc (PT 214) 45 = some (45, .iconst 0, 1, 0, 0, 0) := by decide +kernel
theorem f_214_46 : ftc (PT 214) 46 = some (46, .ireturn, 1, 0, 0, 0) := by decide +kernel
theorem f_214_47 : ftc (PT 214) 47 = some (47, .aload_n 0, 1, 0, 0, 0) := by decide +kernel
theorem f_214_48 : ftc (PT 214) 48 = some (48, .aload_n 0, 1, 0, 0, 0) := by decide +kernel
theorem f_214_49 : ftc (PT 214) 49 = some (49, .invokevirtual 92, 3, 215, 1036, 1781) := by decide +kernel
theorem f_214_52 : ftc (PT 214) 52 = some (52, .iload_n 1, 1, 0, 0, 0) := by decide +kernel
theorem f_214_53 : ftc (PT 214) 53 = some (53, .iload_n 2, 1, 0, 0, 0) := by decide +kernel
theorem f_214_54 : ftc (PT 214) 54 = some (54, .iload_n 3, 1, 0, 0, 0) := by decide +kernel
theorem f_214_55 : ftc (PT 214) 55 = some (55, .invokevirtual 96, 3, 216, 5260, 1785) := by decide +kernel
theorem f_214_58 : ftc (PT 214) 58 = some (58, .aload_n 0, 1, 0, 0, 0) := by decide +kernel
theorem f_214_59 : ftc (PT 214) 59 = some (59, .getfield 7, 3, 12, 1, 1637) := by decide +kernel
theorem f_214_62 : ftc (PT 214) 62 = some (62, .iconst 3, 1, 0, 0, 0) := by decide +kernel
theorem f_214_63 : ftc (PT 214) 63 = some (63, .dup2, 1, 0, 0, 0) := by decide +kernel
theorem f_214_64 : ftc (PT 214) 64 = some (64, .iaload, 1, 0, 0, 0) := by decide +kernel
theorem f_214_65 : ftc (PT 214) 65 = some (65, .iconst 1, 1, 0, 0, 0) := by decide +kernel
theorem f_214_66 : ftc (PT 214) 66 = some (66, .iadd, 1, 0, 0, 0) := by decide +kernel
theorem f_214_67 : ftc (PT 214) 67 = some (67, .iastore, 1, 0, 0, 0) := by decide +kernel
theorem f_214_68 : ftc (PT 214) 68 = some (68, .aload_n 0, 1, 0, 0, 0) := by decide +kernel
theorem f_214_69 : ftc (PT 214) 69 = some (69, .invokevirtual 92, 3, 215, 1036, 1781) := by decide +kernel
theorem f_214_72 : ftc (PT 214) 72 = some (72, .iconst 1, 1, 0, 0, 0) := by decide +kernel
theorem f_214_73 : ftc (PT 214) 73 = some (73, .isub, 1, 0, 0, 0) := by decide +kernel
theorem f_214_74 : ftc (PT 214) 74 = some (74, .ireturn, 1, 0, 0, 0) := by decide +kernel
theorem f_215_0 : ftc (PT 215) 0 = some (0, .aload_n 0, 1, 0, 0, 0) := by decide +kernel
theorem f_215_1 : ftc (PT 215) 1 = some (1, .getfield 7, 3, 12, 1, 1637) := by decide +kernel
theorem f_215_4 : ftc (PT 215) 4 = some (4, .iconst 3, 1, 0, 0, 0) := by decide +kernel
theorem f_215_5 : ftc (PT 215) 5 = some (5, .iaload, 1, 0, 0, 0) := by decide +kernel
theorem f_215_6 : ftc (PT 215) 6 = some (6, .ireturn, 1, 0, 0, 0) := by decide +kernel
theorem f_216_0 : ftc (PT 216) 0 = some (0, .aload_n 0, 1, 0, 0, 0) := by decide +kernel
theorem f_216_1 : ftc (PT 216) 1 = some (1, .getfield 7, 3, 12, 1, 1637) := by decide +kernel
theorem f_216_4 : ftc (PT 216) 4 = some (4, .iconst 4, 1, 0, 0, 0) := by decide +kernel
theorem f_216_5 : ftc (PT 216) 5 = some (5, .iconst 3, 1, 0, 0, 0) := by decide +kernel
theorem f_216_6 : ftc (PT 216) 6 = some (6, .iload_n 1, 1, 0, 0, 0) := by decide +kernel
theorem f_216_7 : ftc (PT 216) 7 = some (7, .imul, 1, 0, 0, 0) := by decide +kernel
theorem f_216_8 : ftc (PT 216) 8 = some (8, .iadd, 1, 0, 0, 0) := by decide +kernel
theorem f_216_9 : ftc (PT 216) 9 = some (9, .iload_n 2, 1, 0, 0, 0) := by decide +kernel
theorem f_216_10 : ftc (PT 216) 10 = some (10, .iastore, 1, 0, 0, 0) := by decide +kernel
theorem f_216_11 : ftc (PT 216) 11 = some (11, .aload_n 0, 1, 0, 0, 0) := by decide +kernel
theorem f_216_12 : ftc (PT 216) 12 = some (12, .getfield 7, 3, 12, 1, 1637) := by decide +kernel
theorem f_216_15 : ftc (PT 216) 15 = some (15, .iconst 5, 1, 0, 0, 0) := by decide +kernel
theorem f_216_16 : ftc (PT 216) 16 = some (16, .iconst 3, 1, 0, 0, 0) := by decide +kernel
theorem f_216_17 : ftc (PT 216) 17 = some (17, .iload_n 1, 1, 0, 0, 0) := by decide +kernel
theorem f_216_18 : ftc (PT 216) 18 = some (18, .imul, 1, 0, 0, 0) := by decide +kernel
theorem f_216_19 : ftc (PT 216) 19 = some (19, .iadd, 1, 0, 0, 0) := by decide +kernel
theorem f_216_20 : ftc (PT 216) 20 = some (20, .iload_n 3, 1, 0, 0, 0) := by decide +kernel
theorem f_216_21 : ftc (PT 216) 21 = some (21, .iastore, 1, 0, 0, 0) := by decide +kernel
theorem f_216_22 : ftc (PT 216) 22 = some (22, .aload_n 0, 1, 0, 0, 0) := by decide +kernel
theorem f_216_23 : ftc (PT 216) 23 = some (23, .getfield 7, 3, 12, 1, 1637) := by decide +kernel
theorem f_216_26 : ftc (PT 216) 26 = some (26, .bipush 6, 2, 0, 0, 0) := by decide +kernel
theorem f_216_28 : ftc (PT 216) 28 = some (28, .iconst 3, 1, 0, 0, 0) := by decide +kernel
theorem f_216_29 : ftc (PT 216) 29 = some (29, .iload_n 1, 1, 0, 0, 0) := by decide +kernel
theorem f_216_30 : ftc (PT 216) 30 = some (30, .imul, 1, 0, 0, 0) := by decide +kernel
theorem f_216_31 : ftc (PT 216) 31 = some (31, .iadd, 1, 0, 0, 0) := by decide +kernel
theorem f_216_32 : ftc (PT 216) 32 = some (32, .iload 4, 2, 0, 0, 0) := by decide +kernel
theorem f_216_34 : ftc (PT 216) 34 = some (34, .iastore, 1, 0, 0, 0) := by decide +kernel
theorem f_216_35 : ftc (PT 216) 35 = some (35, .return_, 1, 0, 0, 0) := by decide +kernel
theorem f_218_18 : ftc (PT 218) 18 = some (18, .ifCond .ne 7, 3, 25, 0, 0) := by decide +kernel
theorem f_218_21 : ftc (PT 218) 21 = some (21, .iconst 2, 1, 0, 0, 0) := by decide +kernel
theorem f_218_22 : ftc (PT 218) 22 = some (22, .goto 4, 3, 26, 0, 0) := by decide +kernel
theorem f_218_25 : ftc (PT 218) 25 = some (25, .iconst 0, 1, 0, 0, 0) := by decide +kernel
theorem f_218_26 : ftc (PT 218) 26 = some (26, .putfield 55, 3, 12, 0, 1636) := by decide +kernel
theorem f_218_29 : ftc (PT 218) 29 = some (29, .aload_n 0, 1, 0, 0, 0) := by decide +kernel
theorem f_218_30 : ftc (PT 218) 30 = some (30, .getfield 55, 3, 12, 0, 1636) := by decide +kernel
theorem f_218_33 : ftc (PT 218) 33 = some (33, .ifCond .le 5, 3, 38, 0, 0) := by decide +kernel
theorem f_218_36 : ftc (PT 218) 36 = some (36, .iconst 0, 1, 0, 0, 0) := by decide +kernel
theorem f_218_37 : ftc (PT 218) 37 = some (37, .ireturn, 1, 0, 0, 0) := by decide +kernel
theorem f_218_38 : ftc (PT 218) 38 = some (38, .aload_n 0, 1, 0, 0, 0) := by decide +kernel
theorem f_218_39 : ftc (PT 218) 39 = some (39, .iload_n 1, 1, 0, 0, 0) := by decide +kernel
theorem f_218_40 : ftc (PT 218) 40 = some (40, .aload_n 0, 1, 0, 0, 0) := by decide +kernel
theorem f_218_41 : ftc (PT 218) 41 = some (41, .iload_n 1, 1, 0, 0, 0) := by decide +kernel
theorem f_218_42 : ftc (PT 218) 42 = some (42, .invokevirtual 104, 3, 220, 2092, 1801) := by decide +kernel
theorem f_218_45 : ftc (PT 218) 45 = some (45, .iload_n 2, 1, 0, 0, 0) := by decide +kernel
theorem f_218_46 : ftc (PT 218) 46 = some (46, .iload_n 3, 1, 0, 0, 0) := by decide +kernel
theorem f_218_47 : ftc (PT 218) 47 = some (47, .invokevirtual 96, 3, 216, 5260, 1785) := by decide +kernel
theorem f_218_50 : ftc (PT 218) 50 = some (50, .iconst 0, 1, 0, 0, 0) := by decide +kernel
theorem f_218_51 : ftc (PT 218) 51 = some (51, .ireturn, 1, 0, 0, 0) := by decide +kernel
theorem f_220_0 : ftc (PT 220) 0 = some (0, .aload_n 0, 1, 0, 0, 0) := by decide +kernel
theorem f_220_1 : ftc (PT 220) 1 = some (1, .getfield 7, 3, 12, 1, 1637) := by decide +kernel
theorem f_220_4 : ftc (PT 220) 4 = some (4, .iconst 4, 1, 0, 0, 0) := by decide +kernel
theorem f_220_5 : ftc (PT 220) 5 = some (5, .iconst 3, 1, 0, 0, 0) := by decide +kernel
theorem f_220_6 : ftc (PT 220) 6 = some (6, .iload_n 1, 1, 0, 0, 0) := by decide +kernel
theorem f_220_7 : ftc (PT 220) 7 = some (7, .imul, 1, 0, 0, 0) := by decide +kernel
theorem f_220_8 : ftc (PT 220) 8 = some (8, .iadd, 1, 0, 0, 0) := by decide +kernel
theorem f_220_9 : ftc (PT 220) 9 = some (9, .iaload, 1, 0, 0, 0) := by decide +kernel
theorem f_220_10 : ftc (PT 220) 10 = some (10, .ireturn, 1, 0, 0, 0) := by decide +kernel
theorem f_222_50 : ftc (PT 222) 50 = some (50, .goto 21, 3, 71, 0, 0) := by decide +kernel
theorem f_222_63 : ftc (PT 222) 63 = some (63, .goto 8, 3, 71, 0, 0) := by decide +kernel
theorem f_222_71 : ftc (PT 222) 71 = some (71, .ireturn, 1, 0, 0, 0) := by decide +kernel
theorem f_223_0 : ftc (PT 223) 0 = some (0, .aload_n 0, 1, 0, 0, 0) := by decide +kernel
theorem f_223_1 : ftc (PT 223) 1 = some (1, .getfield 7, 3, 12, 1, 1637) := by decide +kernel
theorem f_223_4 : ftc (PT 223) 4 = some (4, .iconst 5, 1, 0, 0, 0) := by decide +kernel
theorem f_223_5 : ftc (PT 223) 5 = some (5, .iconst 3, 1, 0, 0, 0) := by decide +kernel
theorem f_223_6 : ftc (PT 223) 6 = some (6, .iload_n 1, 1, 0, 0, 0) := by decide +kernel
theorem f_223_7 : ftc (PT 223) 7 = some (7, .imul, 1, 0, 0, 0) := by decide +kernel
theorem f_223_8 : ftc (PT 223) 8 = some (8, .iadd, 1, 0, 0, 0) := by decide +kernel
theorem f_223_9 : ftc (PT 223) 9 = some (9, .iaload, 1, 0, 0, 0) := by decide +kernel
theorem f_223_10 : ftc (PT 223) 10 = some (10, .ireturn, 1, 0, 0, 0) := by decide +kernel
theorem f_224_0 : ftc (PT 224) 0 = some (0, .aload_n 0, 1, 0, 0, 0) := by decide +kernel
theorem f_224_1 : ftc (PT 224) 1 = some (1, .getfield 7, 3, 12, 1, 1637) := by decide +kernel
theorem f_224_4 : ftc (PT 224) 4 = some (4, .bipush 6, 2, 0, 0, 0) := by decide +kernel
theorem f_224_6 : ftc (PT 224) 6 = some (6, .iconst 3, 1, 0, 0, 0) := by decide +kernel
theorem f_224_7 : ftc (PT 224) 7 = some (7, .iload_n 1, 1, 0, 0, 0) := by decide +kernel
theorem f_224_8 : ftc (PT 224) 8 = some (8, .imul, 1, 0, 0, 0) := by decide +kernel
theorem f_224_9 : ftc (PT 224) 9 = some (9, .iadd, 1, 0, 0, 0) := by decide +kernel
theorem f_224_10 : ftc (PT 224) 10 = some (10, .iaload, 1, 0, 0, 0) := by decide +kernel
theorem f_224_11 : ftc (PT 224) 11 = some (11, .ireturn, 1, 0, 0, 0) := by decide +kernel
theorem f_225_31 : ftc (PT 225) 31 = some (31, .aload_n 0, 1, 0, 0, 0) := by decide +kernel
theorem f_225_32 : ftc (PT 225) 32 = some (32, .aload_n 0, 1, 0, 0, 0) := by decide +kernel
theorem f_225_33 : ftc (PT 225) 33 = some (33, .invokevirtual 157, 3, 234, 1036, 1853) := by decide +kernel
theorem f_225_36 : ftc (PT 225) 36 = some (36, .ifCond .eq 7, 3, 43, 0, 0) := by decide +kernel
theorem f_225_39 : ftc (PT 225) 39 = some (39, .iconst 2, 1, 0, 0, 0) := by decide +kernel
theorem f_225_40 : ftc (PT 225) 40 = some (40, .goto 4, 3, 44, 0, 0) := by decide +kernel
theorem f_225_43 : ftc (PT 225) 43 = some (43, .iconst 0, 1, 0, 0, 0) := by decide +kernel
theorem f_225_44 : ftc (PT 225) 44 = some (44, .putfield 55, 3, 12, 0, 1636) := by decide +kernel
theorem f_225_47 : ftc (PT 225) 47 = some (47, .aload_n 0, 1, 0, 0, 0) := by decide +kernel
theorem f_225_48 : ftc (PT 225) 48 = some (48, .getfield 55, 3, 12, 0, 1636) := by decide +kernel
theorem f_225_51 : ftc (PT 225) 51 = some (51, .ifCond .le 5, 3, 56, 0, 0) := by decide +kernel
theorem f_225_54 : ftc (PT 225) 54 = some (54, .lconst 0, 1, 0, 0, 0) := by decide +kernel
theorem f_225_55 : ftc (PT 225) 55 = some (55, .lreturn, 1, 0, 0, 0) := by decide +kernel
theorem f_225_56 : ftc (PT 225) 56 = some (56, .iload_n 2, 1, 0, 0, 0) := by decide +kernel
theorem f_225_57 : ftc (PT 225) 57 = some (57, .ifCond .eq 25, 3, 82, 0, 0) := by decide +kernel
theorem f_225_60 : ftc (PT 225) 60 = some (60, .aload_n 0, 1, 0, 0, 0) := by decide +kernel
theorem f_225_61 : ftc (PT 225) 61 = some (61, .getfield 117, 3, 12, 11, 1647) := by decide +kernel
theorem f_225_64 : ftc (PT 225) 64 = some (64, .aload_n 0, 1, 0, 0, 0) := by decide +kernel
theorem f_225_65 : ftc (PT 225) 65 = some (65, .getfield 120, 3, 12, 12, 1648) := by decide +kernel
theorem f_225_68 : ftc (PT 225) 68 = some (68, .lmul, 1, 0, 0, 0) := by decide +kernel
theorem f_225_69 : ftc (PT 225) 69 = some (69, .aload_n 0, 1, 0, 0, 0) := by decide +kernel
theorem f_225_70 : ftc (PT 225) 70 = some (70, .getfield 114, 3, 12, 10, 1646) := by decide +kernel
theorem f_225_73 : ftc (PT 225) 73 = some (73, .aload_n 0, 1, 0, 0, 0) := by decide +kernel
theorem f_225_74 : ftc (PT 225) 74 = some (74, .getfield 123, 3, 12, 13, 1649) := by decide +kernel
theorem f_225_77 : ftc (PT 225) 77 = some (77, .lmul, 1, 0, 0, 0) := by decide +kernel
theorem f_225_78 : ftc (PT 225) 78 = some (78, .lsub, 1, 0, 0, 0) := by decide +kernel
theorem f_225_79 : ftc (PT 225) 79 = some (79, .goto 22, 3, 101, 0, 0) := by decide +kernel
theorem f_225_82 : ftc (PT 225) 82 = some (82, .aload_n 0, 1, 0, 0, 0) := by decide +kernel
theorem f_225_83 : ftc (PT 225) 83 = some (83, .getfield 114, 3, 12, 10, 1646) := by decide +kernel
theorem f_225_86 : ftc (PT 225) 86 = some (86, .aload_n 0, 1, 0, 0, 0) := by decide +kernel
theorem f_225_87 : ftc (PT 225) 87 = some (87, .getfield 120, 3, 12, 12, 1648) := by decide +kernel
theorem f_225_90 : ftc (PT 225) 90 = some (90, .lmul, 1, 0, 0, 0) := by decide +kernel
theorem f_225_91 : ftc (PT 225) 91 = some (91, .aload_n 0, 1, 0, 0, 0) := by decide +kernel
theorem f_225_92 : ftc (PT 225) 92 = some (92, .getfield 117, 3, 12, 11, 1647) := by decide +kernel
theorem f_225_95 : ftc (PT 225) 95 = some (95, .aload_n 0, 1, 0, 0, 0) := by decide +kernel
theorem f_225_96 : ftc (PT 225) 96 = some (96, .getfield 123, 3, 12, 13, 1649) := by decide +kernel
theorem f_225_99 : ftc (PT 225) 99 = some (99, .lmul, 1, 0, 0, 0) := by decide +kernel
theorem f_225_100 : ftc (PT 225) 100 = some (100, .ladd, 1, 0, 0, 0) := by decide +kernel
theorem f_225_101 : ftc (PT 225) 101 = some (101, .lstore 4, 2, 0, 0, 0) := by decide +kernel
theorem f_225_103 : ftc (PT 225) 103 = some (103, .aload_n 0, 1, 0, 0, 0) := by decide +kernel
theorem f_225_104 : ftc (PT 225) 104 = some (104, .lload 4, 2, 0, 0, 0) := by decide +kernel
theorem f_225_106 : ftc (PT 225) 106 = some (106, .aload_n 0, 1, 0, 0, 0) := by decide +kernel
theorem f_225_107 : ftc (PT 225) 107 = some (107, .getfield 120, 3, 12, 12, 1648) := by decide +kernel
theorem f_225_110 : ftc (PT 225) 110 = some (110, .aload_n 0, 1, 0, 0, 0) := by decide +kernel
theorem f_225_111 : ftc (PT 225) 111 = some (111, .getfield 123, 3, 12, 13, 1649) := by decide +kernel
theorem f_225_114 : ftc (PT 225) 114 = some (114, .invokestatic 147, 3, 235, 4098, 1857) := by decide +kernel
theorem f_225_117 : ftc (PT 225) 117 = some (117, .invokevirtual 88, 3, 236, 8268, 1860) := by decide +kernel
theorem f_225_120 : ftc (PT 225) 120 = some (120, .aload_n 0, 1, 0, 0, 0) := by decide +kernel
theorem f_225_121 : ftc (PT 225) 121 = some (121, .iload_n 3, 1, 0, 0, 0) := by decide +kernel
theorem f_225_122 : ftc (PT 225) 122 = some (122, .invokevirtual 161, 3, 237, 2092, 1864) := by decide +kernel
theorem f_225_125 : ftc (PT 225) 125 = some (125, .lreturn, 1, 0, 0, 0) := by decide +kernel
theorem f_227_0 : ftc (PT 227) 0 = some (0, .aload_n 0, 1, 0, 0, 0) := by decide +kernel
theorem f_227_1 : ftc (PT 227) 1 = some (1, .aload_n 0, 1, 0, 0, 0) := by decide +kernel
theorem f_227_2 : ftc (PT 227) 2 = some (2, .getfield 7, 3, 12, 1, 1637) := by decide +kernel
theorem f_227_5 : ftc (PT 227) 5 = some (5, .iconst 0, 1, 0, 0, 0) := by decide +kernel
theorem f_227_6 : ftc (PT 227) 6 = some (6, .iaload, 1, 0, 0, 0) := by decide +kernel
theorem f_227_7 : ftc (PT 227) 7 = some (7, .i2l, 1, 0, 0, 0) := by decide +kernel
theorem f_227_8 : ftc (PT 227) 8 = some (8, .aload_n 0, 1, 0, 0, 0) := by decide +kernel
theorem f_227_9 : ftc (PT 227) 9 = some (9, .getfield 7, 3, 12, 1, 1637) := by decide +kernel
theorem f_227_12 : ftc (PT 227) 12 = some (12, .iconst 1, 1, 0, 0, 0) := by decide +kernel
theorem f_227_13 : ftc (PT 227) 13 = some (13, .iaload, 1, 0, 0, 0) := by decide +kernel
theorem f_227_14 : ftc (PT 227) 14 = some (14, .i2l, 1, 0, 0, 0) := by decide +kernel
theorem f_227_15 : ftc (PT 227) 15 = some (15, .aload_n 0, 1, 0, 0, 0) := by decide +kernel
theorem f_227_16 : ftc (PT 227) 16 = some (16, .getfield 7, 3, 12, 1, 1637) := by decide +kernel
theorem f_227_19 : ftc (PT 227) 19 = some (19, .iconst 2, 1, 0, 0, 0) := by decide +kernel
theorem f_227_20 : ftc (PT 227) 20 = some (20, .iaload, 1, 0, 0, 0) := by decide +kernel
theorem f_227_21 : ftc (PT 227) 21 = some (21, .i2l, 1, 0, 0, 0) := by decide +kernel
theorem f_227_22 : ftc (PT 227) 22 = some (22, .lconst 0, 1, 0, 0, 0) := by decide +kernel
theorem f_227_23 : ftc (PT 227) 23 = some (23, .invokevirtual 129, 3, 228, 11404, 1833) := by decide +kernel
theorem f_227_26 : ftc (PT 227) 26 = some (26, .iconst 0, 1, 0, 0, 0) := by decide +kernel
theorem f_227_27 : ftc (PT 227) 27 = some (27, .istore_n 2, 1, 0, 0, 0) := by decide +kernel
theorem f_227_28 : ftc (PT 227) 28 = some (28, .iload_n 2, 1, 0, 0, 0) := by decide +kernel
theorem f_227_29 : ftc (PT 227) 29 = some (29, .iload_n 1, 1, 0, 0, 0) := by decide +kernel
theorem f_227_30 : ftc (PT 227) 30 = some (30, .if_icmp .ge 30, 3, 60, 0, 0) := by decide +kernel
theorem f_227_33 : ftc (PT 227) 33 = some (33, .aload_n 0, 1, 0, 0, 0) := by decide +kernel
theorem f_227_34 : ftc (PT 227) 34 = some (34, .aload_n 0, 1, 0, 0, 0) := by decide +kernel
theorem f_227_35 : ftc (PT 227) 35 = some (35, .iload_n 2, 1, 0, 0, 0) := by decide +kernel
theorem f_227_36 : ftc (PT 227) 36 = some (36, .invokevirtual 104, 3, 220, 2092, 1801) := by decide +kernel
theorem f_227_39 : ftc (PT 227) 39 = some (39, .aload_n 0, 1, 0, 0, 0) := by decide +kernel
theorem f_227_40 : ftc (PT 227) 40 = some (40, .iload_n 2, 1, 0, 0, 0) := by decide +kernel
theorem f_227_41 : ftc (PT 227) 41 = some (41, .invokevirtual 108, 3, 223, 2092, 1813) := by decide +kernel
theorem f_227_44 : ftc (PT 227) 44 = some (44, .i2l, 1, 0, 0, 0) := by decide +kernel
theorem f_227_45 : ftc (PT 227) 45 = some (45, .aload_n 0, 1, 0, 0, 0) := by decide +kernel
theorem f_227_46 : ftc (PT 227) 46 = some (46, .iload_n 2, 1, 0, 0, 0) := by decide +kernel
theorem f_227_47 : ftc (PT 227) 47 = some (47, .invokevirtual 111, 3, 224, 2092, 1817) := by decide +kernel
theorem f_227_50 : ftc (PT 227) 50 = some (50, .i2l, 1, 0, 0, 0) := by decide +kernel
theorem f_227_51 : ftc (PT 227) 51 = some (51, .invokevirtual 143, 3, 229, 18540, 1837) := by decide +kernel
theorem f_227_54 : ftc (PT 227) 54 = some (54, .iinc 2 1, 3, 0, 0, 0) := by decide +kernel
theorem f_227_57 : ftc (PT 227) 57 = some (57, .goto (-29), 3, 28, 0, 0) := by decide +kernel
theorem f_227_60 : ftc (PT 227) 60 = some (60, .return_, 1, 0, 0, 0) := by decide +kernel
theorem f_228_0 : ftc (PT 228) 0 = some (0, .lload_n 1, 1, 0, 0, 0) := by decide +kernel
theorem f_228_1 : ftc (PT 228) 1 = some (1, .lload_n 3, 1, 0, 0, 0) := by decide +kernel
theorem f_228_2 : ftc (PT 228) 2 = some (2, .invokestatic 66, 3, 209, 10242, 1627) := by decide +kernel
theorem f_228_5 : ftc (PT 228) 5 = some (5, .lload 5, 2, 0, 0, 0) := by decide +kernel
theorem f_228_7 : ftc (PT 228) 7 = some (7, .lload 7, 2, 0, 0, 0) := by decide +kernel
theorem f_228_9 : ftc (PT 228) 9 = some (9, .invokestatic 66, 3, 209, 10242, 1627) := by decide +kernel
theorem f_228_12 : ftc (PT 228) 12 = some (12, .invokestatic 66, 3, 209, 10242, 1627) := by decide +kernel
theorem f_228_15 : ftc (PT 228) 15 = some (15, .lstore 9, 2, 0, 0, 0) := by decide +kernel
theorem f_228_17 : ftc (PT 228) 17 = some (17, .aload_n 0, 1, 0, 0, 0) := by decide +kernel
theorem f_228_18 : ftc (PT 228) 18 = some (18, .lload_n 1, 1, 0, 0, 0) := by decide +kernel
theorem f_228_19 : ftc (PT 228) 19 = some (19, .lload 9, 2, 0, 0, 0) := by decide +kernel
theorem f_228_21 : ftc (PT 228) 21 = some (21, .ldiv, 1, 0, 0, 0) := by decide +kernel
theorem f_228_22 : ftc (PT 228) 22 = some (22, .putfield 114, 3, 12, 10, 1646) := by decide +kernel
theorem f_228_25 : ftc (PT 228) 25 = some (25, .aload_n 0, 1, 0, 0, 0) := by decide +kernel
theorem f_228_26 : ftc (PT 228) 26 = some (26, .lload_n 3, 1, 0, 0, 0) := by decide +kernel
theorem f_228_27 : ftc (PT 228) 27 = some (27, .lload 9, 2, 0, 0, 0) := by decide +kernel
theorem f_228_29 : ftc (PT 228) 29 = some (29, .ldiv, 1, 0, 0, 0) := by decide +kernel
theorem f_228_30 : ftc (PT 228) 30 = some (30, .putfield 117, 3, 12, 11, 1647) := by decide +kernel
theorem f_228_33 : ftc (PT 228) 33 = some (33, .aload_n 0, 1, 0, 0, 0) := by decide +kernel
theorem f_228_34 : ftc (PT 228) 34 = some (34, .lload 5, 2, 0, 0, 0) := by decide +kernel
theorem f_228_36 : ftc (PT 228) 36 = some (36, .lload 9, 2, 0, 0, 0) := by decide +kernel
theorem f_228_38 : ftc (PT 228) 38 = some (38, .ldiv, 1, 0, 0, 0) := by decide +kernel
theorem f_228_39 : ftc (PT 228) 39 = some (39, .putfield 120, 3, 12, 12, 1648) := by decide +kernel
theorem f_228_42 : ftc (PT 228) 42 = some (42, .aload_n 0, 1, 0, 0, 0) := by decide +kernel
theorem f_228_43 : ftc (PT 228) 43 = some (43, .lload 7, 2, 0, 0, 0) := by decide +kernel
theorem f_228_45 : ftc (PT 228) 45 = some (45, .lload 9, 2, 0, 0, 0) := by decide +kernel
theorem f_228_47 : ftc (PT 228) 47 = some (47, .ldiv, 1, 0, 0, 0) := by decide +kernel
theorem f_228_48 : ftc (PT 228) 48 = some (48, .putfield 123, 3, 12, 13, 1649) := by decide +kernel
theorem f_228_51 : ftc (PT 228) 51 = some (51, .return_, 1, 0, 0, 0) := by decide +kernel
theorem f_229_0 : ftc (PT 229) 0 = some (0, .aload_n 0, 1, 0, 0, 0) := by decide +kernel
theorem f_229_1 : ftc (PT 229) 1 = some (1, .getfield 114, 3, 12, 10, 1646) := by decide +kernel
theorem f_229_4 : ftc (PT 229) 4 = some (4, .lstore 6, 2, 0, 0, 0) := by decide +kernel
theorem f_229_6 : ftc (PT 229) 6 = some (6, .aload_n 0, 1, 0, 0, 0) := by decide +kernel
theorem f_229_7 : ftc (PT 229) 7 = some (7, .getfield 117, 3, 12, 11, 1647) := by decide +kernel
theorem f_229_10 : ftc (PT 229) 10 = some (10, .lstore 8, 2, 0, 0, 0) := by decide +kernel
theorem f_229_12 : ftc (PT 229) 12 = some (12, .aload_n 0, 1, 0, 0, 0) := by decide +kernel
theorem f_229_13 : ftc (PT 229) 13 = some (13, .getfield 120, 3, 12, 12, 1648) := by decide +kernel
theorem f_229_16 : ftc (PT 229) 16 = some (16, .lstore 10, 2, 0, 0, 0) := by decide +kernel
theorem f_229_18 : ftc (PT 229) 18 = some (18, .aload_n 0, 1, 0, 0, 0) := by decide +kernel
theorem f_229_19 : ftc (PT 229) 19 = some (19, .getfield 123, 3, 12, 13, 1649) := by decide +kernel
theorem f_229_22 : ftc (PT 229) 22 = some (22, .lstore 12, 2, 0, 0, 0) := by decide +kernel
theorem f_229_24 : ftc (PT 229) 24 = some (24, .iload_n 1, 1, 0, 0, 0) := by decide +kernel
theorem f_229_25 : ftc (PT 229) 25 = some (25, .ifCond .ne 48, 3, 73, 0, 0) := by decide +kernel
theorem f_229_28 : ftc (PT 229) 28 = some (28, .aload_n 0, 1, 0, 0, 0) := by decide +kernel
theorem f_229_29 : ftc (PT 229) 29 = some (29, .lload 4, 2, 0, 0, 0) := by decide +kernel
theorem f_229_31 : ftc (PT 229) 31 = some (31, .lload 6, 2, 0, 0, 0) := by decide +kernel
theorem f_229_33 : ftc (PT 229) 33 = some (33, .lmul, 1, 0, 0, 0) := by decide +kernel
theorem f_229_34 : ftc (PT 229) 34 = some (34, .lload_n 2, 1, 0, 0, 0) := by decide +kernel
theorem f_229_35 : ftc (PT 229) 35 = some (35, .lload 12, 2, 0, 0, 0) := by decide +kernel
theorem f_229_37 : ftc (PT 229) 37 = some (37, .lmul, 1, 0, 0, 0) := by decide +kernel
theorem f_229_38 : ftc (PT 229) 38 = some (38, .lsub, 1, 0, 0, 0) := by decide +kernel
theorem f_229_39 : ftc (PT 229) 39 = some (39, .lload 4, 2, 0, 0, 0) := by decide +kernel
theorem f_229_41 : ftc (PT 229) 41 = some (41, .lload 8, 2, 0, 0, 0) := by decide +kernel
theorem f_229_43 : ftc (PT 229) 43 = some (43, .lmul, 1, 0, 0, 0) := by decide +kernel
theorem f_229_44 : ftc (PT 229) 44 = some (44, .lload_n 2, 1, 0, 0, 0) := by decide +kernel
theorem f_229_45 : ftc (PT 229) 45 = some (45, .lload 10, 2, 0, 0, 0) := by decide +kernel
theorem f_229_47 : ftc (PT 229) 47 = some (47, .lmul, 1, 0, 0, 0) := by decide +kernel
theorem f_229_48 : ftc (PT 229) 48 = some (48, .ladd, 1, 0, 0, 0) := by decide +kernel
theorem f_229_49 : ftc (PT 229) 49 = some (49, .lload 4, 2, 0, 0, 0) := by decide +kernel
theorem f_229_51 : ftc (PT 229) 51 = some (51, .lload 10, 2, 0, 0, 0) := by decide +kernel
theorem f_229_53 : ftc (PT 229) 53 = some (53, .lmul, 1, 0, 0, 0) := by decide +kernel
theorem f_229_54 : ftc (PT 229) 54 = some (54, .lload_n 2, 1, 0, 0, 0) := by decide +kernel
theorem f_229_55 : ftc (PT 229) 55 = some (55, .lload 8, 2, 0, 0, 0) := by decide +kernel
theorem f_229_57 : ftc (PT 229) 57 = some (57, .lmul, 1, 0, 0, 0) := by decide +kernel
theorem f_229_58 : ftc (PT 229) 58 = some (58, .lsub, 1, 0, 0, 0) := by decide +kernel
theorem f_229_59 : ftc (PT 229) 59 = some (59, .lload 4, 2, 0, 0, 0) := by decide +kernel
theorem f_229_61 : ftc (PT 229) 61 = some (61, .lload 12, 2, 0, 0, 0) := by decide +kernel
theorem f_229_63 : ftc (PT 229) 63 = some (63, .lmul, 1, 0, 0, 0) := by decide +kernel
theorem f_229_64 : ftc (PT 229) 64 = some (64, .lload_n 2, 1, 0, 0, 0) := by decide +kernel
theorem f_229_65 : ftc (PT 229) 65 = some (65, .lload 6, 2, 0, 0, 0) := by decide +kernel
theorem f_229_67 : ftc (PT 229) 67 = some (67, .lmul, 1, 0, 0, 0) := by decide +kernel
theorem f_229_68 : ftc (PT 229) 68 = some (68, .ladd, 1, 0, 0, 0) := by decide +kernel
theorem f_229_69 : ftc (PT 229) 69 = some (69, .invokevirtual 129, 3, 228, 11404, 1833) := by decide +kernel
theorem f_229_72 : ftc (PT 229) 72 = some (72, .return_, 1, 0, 0, 0) := by decide +kernel
theorem f_229_73 : ftc (PT 229) 73 = some (73, .iload_n 1, 1, 0, 0, 0) := by decide +kernel
theorem f_229_74 : ftc (PT 229) 74 = some (74, .lload_n 2, 1, 0, 0, 0) := by decide +kernel
theorem f_229_75 : ftc (PT 229) 75 = some (75, .lload 4, 2, 0, 0, 0) := by decide +kernel
theorem f_229_77 : ftc (PT 229) 77 = some (77, .invokestatic 133, 3, 230, 5123, 1841) := by decide +kernel
theorem f_229_80 : ftc (PT 229) 80 = some (80, .lstore 14, 2, 0, 0, 0) := by decide +kernel
theorem f_229_82 : ftc (PT 229) 82 = some (82, .iload_n 1, 1, 0, 0, 0) := by decide +kernel
theorem f_229_83 : ftc (PT 229) 83 = some (83, .lload_n 2, 1, 0, 0, 0) := by decide +kernel
theorem f_229_84 : ftc (PT 229) 84 = some (84, .lload 4, 2, 0, 0, 0) := by decide +kernel
theorem f_229_86 : ftc (PT 229) 86 = some (86, .invokestatic 137, 3, 232, 5123, 1847) := by decide +kernel
theorem f_229_89 : ftc (PT 229) 89 = some (89, .lstore 16, 2, 0, 0, 0) := by decide +kernel
theorem f_229_91 : ftc (PT 229) 91 = some (91, .iload_n 1, 1, 0, 0, 0) := by decide +kernel
theorem f_229_92 : ftc (PT 229) 92 = some (92, .invokestatic 140, 3, 233, 1025, 1850) := by decide +kernel
theorem f_229_95 : ftc (PT 229) 95 = some (95, .ifCond .eq 57, 3, 152, 0, 0) := by decide +kernel
theorem f_229_98 : ftc (PT 229) 98 = some (98, .lload 6, 2, 0, 0, 0) := by decide +kernel
theorem f_229_100 : ftc (PT 229) 100 = some (100, .lconst 0, 1, 0, 0, 0) := by decide +kernel
theorem f_229_101 : ftc (PT 229) 101 = some (101, .lcmp, 1, 0, 0, 0) := by decide +kernel
theorem f_229_102 : ftc (PT 229) 102 = some (102, .ifCond .ne 11, 3, 113, 0, 0) := by decide +kernel
theorem f_229_105 : ftc (PT 229) 105 = some (105, .lload 8, 2, 0, 0, 0) := by decide +kernel
theorem f_229_107 : ftc (PT 229) 107 = some (107, .lconst 0, 1, 0, 0, 0) := by decide +kernel
theorem f_229_108 : ftc (PT 229) 108 = some (108, .lcmp, 1, 0, 0, 0) := by decide +kernel
theorem f_229_109 : ftc (PT 229) 109 = some (109, .ifCond .ne 4, 3, 113, 0, 0) := by decide +kernel
theorem f_229_112 : ftc (PT 229) 112 = some (112, .return_, 1, 0, 0, 0) := by decide +kernel
theorem f_229_113 : ftc (PT 229) 113 = some (113, .aload_n 0, 1, 0, 0, 0) := by decide +kernel
theorem f_229_114 : ftc (PT 229) 114 = some (114, .lload 16, 2, 0, 0, 0) := by decide +kernel
theorem f_229_116 : ftc (PT 229) 116 = some (116, .lload 6, 2, 0, 0, 0) := by decide +kernel
theorem f_229_118 : ftc (PT 229) 118 = some (118, .lmul, 1, 0, 0, 0) := by decide +kernel
theorem f_229_119 : ftc (PT 229) 119 = some (119, .lload 16, 2, 0, 0, 0) := by decide +kernel
theorem f_229_121 : ftc (PT 229) 121 = some (121, .lload 8, 2, 0, 0, 0) := by decide +kernel
theorem f_229_123 : ftc (PT 229) 123 = some (123, .lmul, 1, 0, 0, 0) := by decide +kernel
theorem f_229_124 : ftc (PT 229) 124 = some (124, .lload 16, 2, 0, 0, 0) := by decide +kernel
theorem f_229_126 : ftc (PT 229) 126 = some (126, .lload 10, 2, 0, 0, 0) := by decide +kernel
theorem f_229_128 : ftc (PT 229) 128 = some (128, .lmul, 1, 0, 0, 0) := by decide +kernel
theorem f_229_129 : ftc (PT 229) 129 = some (129, .lload 14, 2, 0, 0, 0) := by decide +kernel
theorem f_229_131 : ftc (PT 229) 131 = some (131, .lload 8, 2, 0, 0, 0) := by decide +kernel
theorem f_229_133 : ftc (PT 229) 133 = some (133, .lmul, 1, 0, 0, 0) := by decide +kernel
theorem f_229_134 : ftc (PT 229) 134 = some (134, .lsub, 1, 0, 0, 0) := by decide +kernel
theorem f_229_135 : ftc (PT 229) 135 = some (135, .lload 16, 2, 0, 0, 0) := by decide +kernel
theorem f_229_137 : ftc (PT 229) 137 = some (137, .lload 12, 2, 0, 0, 0) := by decide +kernel
theorem f_229_139 : ftc (PT 229) 139 = some (139, .lmul, 1, 0, 0, 0) := by decide +kernel
theorem f_229_140 : ftc (PT 229) 140 = some (140, .lload 14, 2, 0, 0, 0) := by decide +kernel
theorem f_229_142 : ftc (PT 229) 142 = some (142, .lload 6, 2, 0, 0, 0) := by decide +kernel
theorem f_229_144 : ftc (PT 229) 144 = some (144, .lmul, 1, 0, 0, 0) := by decide +kernel
theorem f_229_145 : ftc (PT 229) 145 = some (145, .ladd, 1, 0, 0, 0) := by decide +kernel
theorem f_229_146 : ftc (PT 229) 146 = some (146, .invokevirtual 129, 3, 228, 11404, 1833) := by decide +kernel
theorem f_229_149 : ftc (PT 229) 149 = some (149, .goto 54, 3, 203, 0, 0) := by decide +kernel
theorem f_229_152 : ftc (PT 229) 152 = some (152, .lload 10, 2, 0, 0, 0) := by decide +kernel
theorem f_229_154 : ftc (PT 229) 154 = some (154, .lconst 0, 1, 0, 0, 0) := by decide +kernel
theorem f_229_155 : ftc (PT 229) 155 = some (155, .lcmp, 1, 0, 0, 0) := by decide +kernel
theorem f_229_156 : ftc (PT 229) 156 = some (156, .ifCond .ne 11, 3, 167, 0, 0) := by decide +kernel
theorem f_229_159 : ftc (PT 229) 159 = some (159, .lload 12, 2, 0, 0, 0) := by decide +kernel
theorem f_229_161 : ftc (PT 229) 161 = some (161, .lconst 0, 1, 0, 0, 0) := by decide +kernel
theorem f_229_162 : ftc (PT 229) 162 = some (162, .lcmp, 1, 0, 0, 0) := by decide +kernel
theorem f_229_163 : ftc (PT 229) 163 = some (163, .ifCond .ne 4, 3, 167, 0, 0) := by decide +kernel
theorem f_229_166 : ftc (PT 229) 166 = some (166, .return_, 1, 0, 0, 0) := by decide +kernel
theorem f_229_167 : ftc (PT 229) 167 = some (167, .aload_n 0, 1, 0, 0, 0) := by decide +kernel
theorem f_229_168 : ftc (PT 229) 168 = some (168, .lload 16, 2, 0, 0, 0) := by decide +kernel
theorem f_229_170 : ftc (PT 229) 170 = some (170, .lload 6, 2, 0, 0, 0) := by decide +kernel
theorem f_229_172 : ftc (PT 229) 172 = some (172, .lmul, 1, 0, 0, 0) := by decide +kernel
theorem f_229_173 : ftc (PT 229) 173 = some (173, .lload 14, 2, 0, 0, 0) := by decide +kernel
theorem f_229_175 : ftc (PT 229) 175 = some (175, .lload 12, 2, 0, 0, 0) := by decide +kernel
theorem f_229_177 : ftc (PT 229) 177 = some (177, .lmul, 1, 0, 0, 0) := by decide +kernel
theorem f_229_178 : ftc (PT 229) 178 = some (178, .lsub, 1, 0, 0, 0) := by decide +kernel
theorem f_229_179 : ftc (PT 229) 179 = some (179, .lload 16, 2, 0, 0, 0) := by decide +kernel
theorem f_229_181 : ftc (PT 229) 181 = some (181, .lload 8, 2, 0, 0, 0) := by decide +kernel
theorem f_229_183 : ftc (PT 229) 183 = some (183, .lmul, 1, 0, 0, 0) := by decide +kernel
theorem f_229_184 : ftc (PT 229) 184 = some (184, .lload 14, 2, 0, 0, 0) := by decide +kernel
theorem f_229_186 : ftc (PT 229) 186 = some (186, .lload 10, 2, 0, 0, 0) := by decide +kernel
theorem f_229_188 : ftc (PT 229) 188 = some (188, .lmul, 1, 0, 0, 0) := by decide +kernel
theorem f_229_189 : ftc (PT 229) 189 = some (189, .ladd, 1, 0, 0, 0) := by decide +kernel
theorem f_229_190 : ftc (PT 229) 190 = some (190, .lload 16, 2, 0, 0, 0) := by decide +kernel
theorem f_229_192 : ftc (PT 229) 192 = some (192, .lload 10, 2, 0, 0, 0) := by decide +kernel
theorem f_229_194 : ftc (PT 229) 194 = some (194, .lmul, 1, 0, 0, 0) := by decide +kernel
theorem f_229_195 : ftc (PT 229) 195 = some (195, .lload 16, 2, 0, 0, 0) := by decide +kernel
theorem f_229_197 : ftc (PT 229) 197 = some (197, .lload 12, 2, 0, 0, 0) := by decide +kernel
theorem f_229_199 : ftc (PT 229) 199 = some (199, .lmul, 1, 0, 0, 0) := by decide +kernel
theorem f_229_200 : ftc (PT 229) 200 = some (200, .invokevirtual 129, 3, 228, 11404, 1833) := by decide +kernel
theorem f_229_203 : ftc (PT 229) 203 = some (203, .return_, 1, 0, 0, 0) := by decide +kernel
theorem f_233_0 : ftc (PT 233) 0 = some (0, .iload_n 0, 1, 0, 0, 0) := by decide +kernel
theorem f_233_1 : ftc (PT 233) 1 = some (1, .iconst 1, 1, 0, 0, 0) := by decide +kernel
theorem f_233_2 : ftc (PT 233) 2 = some (2, .if_icmp .eq 8, 3, 10, 0, 0) := by decide +kernel
theorem f_233_5 : ftc (PT 233) 5 = some (5, .iload_n 0, 1, 0, 0, 0) := by decide +kernel
theorem f_233_6 : ftc (PT 233) 6 = some (6, .iconst 2, 1, 0, 0, 0) := by decide +kernel
theorem f_233_7 : ftc (PT 233) 7 = some (7, .if_icmp .ne 7, 3, 14, 0, 0) := by decide +kernel
theorem f_233_10 : ftc (PT 233) 10 = some (10, .iconst 1, 1, 0, 0, 0) := by decide +kernel
theorem f_233_11 : ftc (PT 233) 11 = some (11, .goto 4, 3, 15, 0, 0) := by decide +kernel
theorem f_233_14 : ftc (PT 233) 14 = some (14, .iconst 0, 1, 0, 0, 0) := by decide +kernel
theorem f_233_15 : ftc (PT 233) 15 = some (15, .ireturn, 1, 1, 0, 0) := by decide +kernel
theorem f_234_0 : ftc (PT 234) 0 = some (0, .aload_n 0, 1, 0, 0, 0) := by decide +kernel
theorem f_234_1 : ftc (PT 234) 1 = some (1, .getfield 120, 3, 12, 12, 1648) := by decide +kernel
theorem f_234_4 : ftc (PT 234) 4 = some (4, .lconst 0, 1, 0, 0, 0) := by decide +kernel
theorem f_234_5 : ftc (PT 234) 5 = some (5, .lcmp, 1, 0, 0, 0) := by decide +kernel
theorem f_234_6 : ftc (PT 234) 6 = some (6, .ifCond .ne 16, 3, 22, 0, 0) := by decide +kernel
theorem f_234_9 : ftc (PT 234) 9 = some (9, .aload_n 0, 1, 0, 0, 0) := by decide +kernel
theorem f_234_10 : ftc (PT 234) 10 = some (10, .getfield 123, 3, 12, 13, 1649) := by decide +kernel
theorem f_234_13 : ftc (PT 234) 13 = some (13, .lconst 0, 1, 0, 0, 0) := by decide +kernel
theorem f_234_14 : ftc (PT 234) 14 = some (14, .lcmp, 1, 0, 0, 0) := by decide +kernel
theorem f_234_15 : ftc (PT 234) 15 = some (15, .ifCond .ne 7, 3, 22, 0, 0) := by decide +kernel
theorem f_234_18 : ftc (PT 234) 18 = some (18, .iconst 1, 1, 0, 0, 0) := by decide +kernel
theorem f_234_19 : ftc (PT 234) 19 = some (19, .goto 4, 3, 23, 0, 0) := by decide +kernel
theorem f_234_22 : ftc (PT 234) 22 = some (22, .iconst 0, 1, 0, 0, 0) := by decide +kernel
theorem f_234_23 : ftc (PT 234) 23 = some (23, .ireturn, 1, 1, 0, 0) := by decide +kernel
theorem f_235_0 : ftc (PT 235) 0 = some (0, .lload_n 0, 1, 0, 0, 0) := by decide +kernel
theorem f_235_1 : ftc (PT 235) 1 = some (1, .lload_n 0, 1, 0, 0, 0) := by decide +kernel
theorem f_235_2 : ftc (PT 235) 2 = some (2, .lmul, 1, 0, 0, 0) := by decide +kernel
theorem f_235_3 : ftc (PT 235) 3 = some (3, .lload_n 2, 1, 0, 0, 0) := by decide +kernel
theorem f_235_4 : ftc (PT 235) 4 = some (4, .lload_n 2, 1, 0, 0, 0) := by decide +kernel
theorem f_235_5 : ftc (PT 235) 5 = some (5, .lmul, 1, 0, 0, 0) := by decide +kernel
theorem f_235_6 : ftc (PT 235) 6 = some (6, .ladd, 1, 0, 0, 0) := by decide +kernel
theorem f_235_7 : ftc (PT 235) 7 = some (7, .lreturn, 1, 0, 0, 0) := by decide +kernel
theorem f_237_0 : ftc (PT 237) 0 = some (0, .iload_n 1, 1, 0, 0, 0) := by decide +kernel
theorem f_237_1 : ftc (PT 237) 1 = some (1, .ifCond .eq 10, 3, 11, 0, 0) := by decide +kernel
theorem f_237_4 : ftc (PT 237) 4 = some (4, .aload_n 0, 1, 0, 0, 0) := by decide +kernel
theorem f_237_5 : ftc (PT 237) 5 = some (5, .getfield 85, 3, 12, 9, 1645) := by decide +kernel
theorem f_237_8 : ftc (PT 237) 8 = some (8, .goto 7, 3, 15, 0, 0) := by decide +kernel
theorem f_237_11 : ftc (PT 237) 11 = some (11, .aload_n 0, 1, 0, 0, 0) := by decide +kernel
theorem f_237_12 : ftc (PT 237) 12 = some (12, .getfield 81, 3, 12, 8, 1644) := by decide +kernel
theorem f_237_15 : ftc (PT 237) 15 = some (15, .lreturn, 1, 0, 0, 0) := by decide +kernel
set_option maxRecDepth 10000 in
set_option maxHeartbeats 4000000 in
theorem s_190_100 {Lx : Nat} {I : Mi} {L : Ml} {e : Nat} {Q : Kq} {x5 : Int32} (h :
    (if x5 = (Int32.ofInt 1) then
     Q (.inl (some (.long (L 18 1)))) (gE Lx) I L e
    else
     Q (.inl (some (.long (L 18 0)))) (gE Lx) I L e)) :
    Wp 190 100 [(0, .ref 1), (5, .int x5)] [] (gE Lx) I L e Q := by
  refine w_a f_190_100 ?_
  refine w_a f_190_101 ?_
  refine w_a f_190_104 ?_
  refine w_a f_190_106 ?_
  refine w_a f_190_107 ?_
  refine i_m (fun h => ?_) (fun h => ?_) h
  · refine w_a f_190_110 ?_
    refine w_a f_190_111 ?_
    refine w_a f_190_115 ?_
    refine w_a (ls := [(0, .ref 18), (1, .int (Int32.ofInt 1))]) f_31_0 ?_
    refine w_a f_31_1 ?_
    refine w_a f_31_4 ?_
    refine w_a f_31_5 ?_
    refine w_a f_31_8 ?_
    refine w_a f_31_15 ?_
    refine w_a (ls := [(0, .ref 1), (5, .int x5)]) f_190_118 ?_
    exact h
  · refine w_a f_190_114 ?_
    refine w_a f_190_115 ?_
    refine w_a (ls := [(0, .ref 18), (1, .int (Int32.ofInt 0))]) f_31_0 ?_
    refine w_a f_31_1 ?_
    refine w_a f_31_11 ?_
    refine w_a f_31_12 ?_
    refine w_a f_31_15 ?_
    refine w_a (ls := [(0, .ref 1), (5, .int x5)]) f_190_118 ?_
    exact h
set_option maxRecDepth 10000 in
set_option maxHeartbeats 4000000 in
theorem s_191_0 {Lx : Nat} {I : Mi} {L : Ml} {e : Nat} {Q : Kq} {x1 : Int32} {x2 : Int32} {x3 : Int32} (h :
    Wp 191 18 [(0, .ref 1), (1, .int x1), (2, .int x2), (3, .int x3), (4, .int (Int32.ofInt 0))] [] (gE Lx) (ui I 21 0 (Int32.ofInt 0)) (ul (ul (ul (ul (ul (ul L 21 1 (Int64.ofInt 0)) 21 2 (Int64.ofInt 1)) 15 0 (L 17 0)) 15 1 (L 17 1)) 15 2 (L 17 2)) 15 3 (Int64.ofInt 0)) e Q) :
    Wp 191 0 [(0, .ref 1), (1, .int x1), (2, .int x2), (3, .int x3)] [] (gE Lx) I L e Q := by
  refine w_a f_191_0 ?_
  refine w_a f_191_1 ?_
  refine w_a f_191_4 ?_
  refine w_a (ls := [(0, .ref 21)]) f_1_0 ?_
  refine w_a f_1_1 ?_
  refine w_a f_1_2 ?_
  refine w_a f_1_5 ?_
  refine w_a f_1_6 ?_
  refine w_a f_1_7 ?_
  refine w_a f_1_10 ?_
  refine w_a f_1_11 ?_
  refine w_a f_1_12 ?_
  refine w_a f_1_15 ?_
  refine w_a (ls := [(0, .ref 1), (1, .int x1), (2, .int x2), (3, .int x3)]) f_191_7 ?_
  refine w_a f_191_8 ?_
  refine w_a f_191_9 ?_
  refine w_a f_191_12 ?_
  refine w_a (ls := [(0, .ref 1), (1, .ref 15)]) f_157_0 ?_
  refine w_a f_157_1 ?_
  refine w_a f_157_2 ?_
  refine w_a f_157_5 ?_
  refine w_a f_157_8 ?_
  refine w_a f_157_9 ?_
  refine w_a f_157_12 ?_
  refine w_a f_157_15 ?_
  refine w_a f_157_16 ?_
  refine w_a f_157_19 ?_
  refine w_a f_157_22 ?_
  refine w_a (ls := [(0, .ref 15), (1, .long (L 17 0)), (3, .long (L 17 1)), (5, .long (L 17 2))]) f_74_0 ?_
  refine w_a f_74_1 ?_
  refine w_a f_74_2 ?_
  refine w_a f_74_5 ?_
  refine w_a f_74_6 ?_
  refine w_a f_74_7 ?_
  refine w_a f_74_10 ?_
  refine w_a f_74_11 ?_
  refine w_a f_74_13 ?_
  refine w_a f_74_16 ?_
  refine w_a f_74_17 ?_
  refine w_a f_74_18 ?_
  refine w_a f_74_21 ?_
  refine w_a (ls := [(0, .ref 1), (1, .ref 15)]) f_157_25 ?_
  refine w_a (ls := [(0, .ref 1), (1, .int x1), (2, .int x2), (3, .int x3)]) f_191_15 ?_
  refine w_a f_191_16 ?_
  exact w_n (ks := [0, 1, 2, 3, 4]) rfl h
set_option maxRecDepth 10000 in
set_option maxHeartbeats 4000000 in
theorem s_191_18 {Lx : Nat} {I : Mi} {L : Ml} {e : Nat} {Q : Kq} {x1 : Int32} {x2 : Int32} {x3 : Int32} {x4 : Int32} (h :
    (if x4 < (Int32.ofInt 184) then
     Wp 69 0 [(0, .ref 2), (1, .int x4)] [] (gE Lx) I (ul (ul (ul (ul L 16 0 (L 15 0)) 16 1 (L 15 1)) 16 2 (L 15 2)) 16 3 (L 15 3)) e (kcp (Wp 191) 191 47 0 [(0, .ref 1), (1, .int x1), (2, .int x2), (3, .int x3), (4, .int x4)] 71 [.ref 16] Q)
    else
     Q (.inl none) (gE Lx) I L e)) :
    Wp 191 18 [(0, .ref 1), (1, .int x1), (2, .int x2), (3, .int x3), (4, .int x4)] [] (gE Lx) I L e Q := by
  refine w_a f_191_18 ?_
  refine w_a f_191_20 ?_
  refine w_a f_191_23 ?_
  refine i_m (fun h => ?_) (fun h => ?_) h
  · refine w_a f_191_26 ?_
    refine w_a f_191_27 ?_
    refine w_a f_191_30 ?_
    refine w_a f_191_31 ?_
    refine w_a f_191_34 ?_
    refine w_a (ls := [(0, .ref 16), (1, .ref 15)]) f_84_0 ?_
    refine w_a f_84_1 ?_
    refine w_a f_84_2 ?_
    refine w_a f_84_5 ?_
    refine w_a f_84_8 ?_
    refine w_a f_84_9 ?_
    refine w_a f_84_10 ?_
    refine w_a f_84_13 ?_
    refine w_a f_84_16 ?_
    refine w_a f_84_17 ?_
    refine w_a f_84_18 ?_
    refine w_a f_84_21 ?_
    refine w_a f_84_24 ?_
    refine w_a f_84_25 ?_
    refine w_a f_84_26 ?_
    refine w_a f_84_29 ?_
    refine w_a f_84_32 ?_
    refine w_a (ls := [(0, .ref 1), (1, .int x1), (2, .int x2), (3, .int x3), (4, .int x4)]) f_191_37 ?_
    refine w_a f_191_38 ?_
    refine w_a f_191_41 ?_
    refine w_a f_191_42 ?_
    refine w_a f_191_45 ?_
    exact w_c (ks := [0, 1, 2, 3, 4]) f_191_47 rfl rfl h
  · refine w_a f_191_137 ?_
    exact h
set_option maxRecDepth 10000 in
set_option maxHeartbeats 4000000 in
theorem s_191_50 {Lx : Nat} {I : Mi} {L : Ml} {e : Nat} {Q : Kq} {x1 : Int32} {x2 : Int32} {x3 : Int32} {x4 : Int32} {r : Int32} (h :
    Wp 70 0 [(0, .ref 2), (1, .int x4)] [] (gE Lx) I L e (kcp (Wp 191) 191 57 0 [(0, .ref 1), (1, .int x1), (2, .int x2), (3, .int x3), (4, .int x4)] 71 [.long r.toInt64, .ref 16] Q)) :
    Wp 191 50 [(0, .ref 1), (1, .int x1), (2, .int x2), (3, .int x3), (4, .int x4)] [.int r, .ref 16] (gE Lx) I L e Q := by
  refine w_a f_191_50 ?_
  refine w_a f_191_51 ?_
  refine w_a f_191_52 ?_
  refine w_a f_191_55 ?_
  exact w_c (ks := [0, 1, 2, 3, 4]) f_191_57 rfl rfl h
set_option maxRecDepth 10000 in
set_option maxHeartbeats 4000000 in
theorem s_191_60 {Lx : Nat} {I : Mi} {L : Ml} {e : Nat} {Q : Kq} {x1 : Int32} {x2 : Int32} {x3 : Int32} {x4 : Int32} {rl1 : Int64} {r : Int32} (h :
    Wp 76 0 [(0, .ref 16), (1, .long rl1), (3, .long r.toInt64)] [] (gE Lx) I L e (kcp (Wp 191) 191 61 0 [(0, .ref 1), (1, .int x1), (2, .int x2), (3, .int x3), (4, .int x4)] 71 [] Q)) :
    Wp 191 60 [(0, .ref 1), (1, .int x1), (2, .int x2), (3, .int x3), (4, .int x4)] [.int r, .long rl1, .ref 16] (gE Lx) I L e Q := by
  refine w_a f_191_60 ?_
  exact w_c (ks := [0, 1, 2, 3, 4]) f_191_61 rfl rfl h
set_option maxRecDepth 10000 in
set_option maxHeartbeats 4000000 in
theorem s_191_64 {Lx : Nat} {I : Mi} {L : Ml} {e : Nat} {Q : Kq} {x1 : Int32} {x2 : Int32} {x3 : Int32} {x4 : Int32} (h :
    (if x1 = 0 then
     Wp 71 0 [(0, .ref 2), (1, .int x4), (2, .int x2)] [] (gE Lx) I L e (kcp (Wp 191) 191 81 0 [(0, .ref 1), (1, .int x1), (2, .int x2), (3, .int x3), (4, .int x4), (5, .long (((L 16 0) * (L 16 0)) + ((L 16 1) * (L 16 1))))] 71 [] Q)
    else
     Wp 71 0 [(0, .ref 2), (1, .int x4), (2, .int x2)] [] (gE Lx) I L e (kcp (Wp 191) 191 81 0 [(0, .ref 1), (1, .int x1), (2, .int x2), (3, .int x3), (4, .int x4), (5, .long (((L 16 2) * (L 16 2)) + ((L 16 3) * (L 16 3))))] 71 [] Q))) :
    Wp 191 64 [(0, .ref 1), (1, .int x1), (2, .int x2), (3, .int x3), (4, .int x4)] [] (gE Lx) I L e Q := by
  refine w_a f_191_64 ?_
  refine w_a f_191_65 ?_
  refine w_a f_191_68 ?_
  refine w_a f_191_69 ?_
  refine w_a (ls := [(0, .ref 16), (1, .int x1)]) f_85_0 ?_
  refine w_a f_85_1 ?_
  refine i_m (fun h => ?_) (fun h => ?_) h
  · refine w_a f_85_11 ?_
    refine w_a f_85_12 ?_
    refine w_a (ls := [(0, .ref 16)]) f_86_0 ?_
    refine w_a f_86_1 ?_
    refine w_a f_86_4 ?_
    refine w_a f_86_5 ?_
    refine w_a f_86_8 ?_
    refine w_a f_86_9 ?_
    refine w_a f_86_10 ?_
    refine w_a f_86_13 ?_
    refine w_a f_86_14 ?_
    refine w_a f_86_17 ?_
    refine w_a f_86_18 ?_
    refine w_a f_86_19 ?_
    refine w_a (ls := [(0, .ref 16), (1, .int x1)]) f_85_15 ?_
    refine w_a (ls := [(0, .ref 1), (1, .int x1), (2, .int x2), (3, .int x3), (4, .int x4)]) f_191_72 ?_
    refine w_a (ls := [(5, .long (((L 16 0) * (L 16 0)) + ((L 16 1) * (L 16 1)))), (0, .ref 1), (1, .int x1), (2, .int x2), (3, .int x3), (4, .int x4)]) f_191_74 ?_
    refine w_a f_191_75 ?_
    refine w_a f_191_78 ?_
    refine w_a f_191_80 ?_
    exact w_c (ks := [0, 1, 2, 3, 4, 5]) f_191_81 rfl rfl h
  · refine w_a f_85_4 ?_
    refine w_a f_85_5 ?_
    refine w_a (ls := [(0, .ref 16)]) f_83_0 ?_
    refine w_a f_83_1 ?_
    refine w_a f_83_4 ?_
    refine w_a f_83_5 ?_
    refine w_a f_83_8 ?_
    refine w_a f_83_9 ?_
    refine w_a f_83_10 ?_
    refine w_a f_83_13 ?_
    refine w_a f_83_14 ?_
    refine w_a f_83_17 ?_
    refine w_a f_83_18 ?_
    refine w_a f_83_19 ?_
    refine w_a (ls := [(0, .ref 16), (1, .int x1)]) f_85_8 ?_
    refine w_a f_85_15 ?_
    refine w_a (ls := [(0, .ref 1), (1, .int x1), (2, .int x2), (3, .int x3), (4, .int x4)]) f_191_72 ?_
    refine w_a (ls := [(5, .long (((L 16 2) * (L 16 2)) + ((L 16 3) * (L 16 3)))), (0, .ref 1), (1, .int x1), (2, .int x2), (3, .int x3), (4, .int x4)]) f_191_74 ?_
    refine w_a f_191_75 ?_
    refine w_a f_191_78 ?_
    refine w_a f_191_80 ?_
    exact w_c (ks := [0, 1, 2, 3, 4, 5]) f_191_81 rfl rfl h
set_option maxRecDepth 10000 in
set_option maxHeartbeats 4000000 in
theorem s_191_84 {Lx : Nat} {I : Mi} {L : Ml} {e : Nat} {Q : Kq} {x1 : Int32} {x2 : Int32} {x3 : Int32} {x4 : Int32} {y5 : Int64} {r : Int32} (h :
    (if r = 0 then
     Wp 191 18 [(0, .ref 1), (1, .int x1), (2, .int x2), (3, .int x3), (4, .int (x4 + Int32.ofInt 1))] [] (gE Lx) I L e Q
    else
     (if (Int64.ofInt 0) < y5 then
      (if x3 = 0 then
       Wp 3 0 [(0, .ref 21), (1, .long (((L 16 0) * (L 16 2)) + ((L 16 1) * (L 16 3)))), (3, .long y5), (5, .int (Int32.ofInt 1))] [] (gE Lx) I L e (kcp (Wp 191) 191 116 0 [(0, .ref 1), (1, .int x1), (2, .int x2), (3, .int x3), (4, .int x4)] 71 [] Q)
      else
       Wp 3 0 [(0, .ref 21), (1, .long (((L 16 0) * (L 16 2)) + ((L 16 1) * (L 16 3)))), (3, .long y5), (5, .int (Int32.ofInt (-1)))] [] (gE Lx) I L e (kcp (Wp 191) 191 116 0 [(0, .ref 1), (1, .int x1), (2, .int x2), (3, .int x3), (4, .int x4)] 71 [] Q))
     else
      Wp 191 18 [(0, .ref 1), (1, .int x1), (2, .int x2), (3, .int x3), (4, .int (x4 + Int32.ofInt 1))] [] (gE Lx) I L e Q))) :
    Wp 191 84 [(0, .ref 1), (1, .int x1), (2, .int x2), (3, .int x3), (4, .int x4), (5, .long y5)] [.int r] (gE Lx) I L e Q := by
  refine w_a f_191_84 ?_
  refine i_m (fun h => ?_) (fun h => ?_) h
  · refine w_a f_191_131 ?_
    refine w_a (ls := [(4, .int (x4 + Int32.ofInt 1)), (0, .ref 1), (1, .int x1), (2, .int x2), (3, .int x3), (5, .long y5)]) f_191_134 ?_
    exact w_n (ks := [0, 1, 2, 3, 4]) rfl h
  · refine w_a f_191_87 ?_
    refine w_a f_191_89 ?_
    refine w_a f_191_90 ?_
    refine i_m (fun h => ?_) (fun h => ?_) h
    · refine w_a f_191_94 ?_
      refine w_a f_191_95 ?_
      refine w_a f_191_98 ?_
      refine w_a f_191_99 ?_
      refine w_a f_191_102 ?_
      refine w_a (ls := [(0, .ref 16)]) f_82_0 ?_
      refine w_a f_82_1 ?_
      refine w_a f_82_4 ?_
      refine w_a f_82_5 ?_
      refine w_a f_82_8 ?_
      refine w_a f_82_9 ?_
      refine w_a f_82_10 ?_
      refine w_a f_82_13 ?_
      refine w_a f_82_14 ?_
      refine w_a f_82_17 ?_
      refine w_a f_82_18 ?_
      refine w_a f_82_19 ?_
      refine w_a (ls := [(0, .ref 1), (1, .int x1), (2, .int x2), (3, .int x3), (4, .int x4), (5, .long y5)]) f_191_105 ?_
      refine w_a f_191_107 ?_
      refine w_a f_191_108 ?_
      refine i_m (fun h => ?_) (fun h => ?_) h
      · refine w_a f_191_115 ?_
        exact w_c (ks := [0, 1, 2, 3, 4]) f_191_116 rfl rfl h
      · refine w_a f_191_111 ?_
        refine w_a f_191_112 ?_
        exact w_c (ks := [0, 1, 2, 3, 4]) f_191_116 rfl rfl h
    · refine w_a f_191_131 ?_
      refine w_a (ls := [(4, .int (x4 + Int32.ofInt 1)), (0, .ref 1), (1, .int x1), (2, .int x2), (3, .int x3), (5, .long y5)]) f_191_134 ?_
      exact w_n (ks := [0, 1, 2, 3, 4]) rfl h
set_option maxRecDepth 10000 in
set_option maxHeartbeats 4000000 in
theorem s_191_119 {Lx : Nat} {I : Mi} {L : Ml} {e : Nat} {Q : Kq} {x1 : Int32} {x2 : Int32} {x3 : Int32} {x4 : Int32} {r : Int32} (h :
    (if r = 0 then
     Wp 191 18 [(0, .ref 1), (1, .int x1), (2, .int x2), (3, .int x3), (4, .int (x4 + Int32.ofInt 1))] [] (gE Lx) I L e Q
    else
     Wp 191 18 [(0, .ref 1), (1, .int x1), (2, .int x2), (3, .int x3), (4, .int (x4 + Int32.ofInt 1))] [] (gE Lx) (ui I 21 4 x4) L e Q)) :
    Wp 191 119 [(0, .ref 1), (1, .int x1), (2, .int x2), (3, .int x3), (4, .int x4)] [.int r] (gE Lx) I L e Q := by
  refine w_a f_191_119 ?_
  refine i_m (fun h => ?_) (fun h => ?_) h
  · refine w_a f_191_131 ?_
    refine w_a (ls := [(4, .int (x4 + Int32.ofInt 1)), (0, .ref 1), (1, .int x1), (2, .int x2), (3, .int x3)]) f_191_134 ?_
    exact w_n (ks := [0, 1, 2, 3, 4]) rfl h
  · refine w_a f_191_122 ?_
    refine w_a f_191_123 ?_
    refine w_a f_191_126 ?_
    refine w_a f_191_128 ?_
    refine w_a f_191_131 ?_
    refine w_a (ls := [(4, .int (x4 + Int32.ofInt 1)), (0, .ref 1), (1, .int x1), (2, .int x2), (3, .int x3)]) f_191_134 ?_
    exact w_n (ks := [0, 1, 2, 3, 4]) rfl h
set_option maxRecDepth 10000 in
set_option maxHeartbeats 4000000 in
theorem s_192_18 {Lx : Nat} {I : Mi} {L : Ml} {e : Nat} {Q : Kq} {x1 : Int32} {x2 : Int32} {x3 : Int32} {x4 : Int32} {x5 : Int32} (h :
    (if (Int32.ofInt 1) < x1 then
     Q (.inr 102) (gE Lx) I L (e + 1)
    else
     (if x4 = 0 then
      Wp 193 0 [(0, .ref 1), (1, .int x1), (2, .int x2), (3, .int x3), (4, .int (Int32.ofInt 2))] [] (gE Lx) I L e (kcp (Wp 192) 192 41 0 [(0, .ref 1), (5, .int x5)] 71 [] Q)
     else
      Wp 193 0 [(0, .ref 1), (1, .int x1), (2, .int x2), (3, .int x3), (4, .int (Int32.ofInt 1))] [] (gE Lx) I L e (kcp (Wp 192) 192 41 0 [(0, .ref 1), (5, .int x5)] 71 [] Q)))) :
    Wp 192 18 [(0, .ref 1), (1, .int x1), (2, .int x2), (3, .int x3), (4, .int x4), (5, .int x5)] [] (gE Lx) I L e Q := by
  refine w_a f_192_18 ?_
  refine w_a f_192_19 ?_
  refine w_a f_192_20 ?_
  refine i_m (fun h => ?_) (fun h => ?_) h
  · refine w_a f_192_23 ?_
    exact h
  · refine w_a f_192_31 ?_
    refine w_a f_192_32 ?_
    refine w_a f_192_33 ?_
    refine w_a f_192_34 ?_
    refine w_a f_192_35 ?_
    refine w_a f_192_36 ?_
    refine w_a f_192_38 ?_
    refine w_a (ls := [(0, .int (Int32.ofInt 0)), (1, .int x4)]) f_146_0 ?_
    refine w_a f_146_1 ?_
    refine w_a f_146_14 ?_
    refine w_a f_146_15 ?_
    refine i_m (fun h => ?_) (fun h => ?_) h
    · refine w_a f_146_22 ?_
      refine w_a f_146_23 ?_
      exact w_c (ls := [(0, .ref 1), (1, .int x1), (2, .int x2), (3, .int x3), (4, .int x4), (5, .int x5)]) (ks := [0, 5]) f_192_41 rfl rfl h
    · refine w_a f_146_18 ?_
      refine w_a f_146_19 ?_
      refine w_a f_146_23 ?_
      exact w_c (ls := [(0, .ref 1), (1, .int x1), (2, .int x2), (3, .int x3), (4, .int x4), (5, .int x5)]) (ks := [0, 5]) f_192_41 rfl rfl h
set_option maxRecDepth 10000 in
set_option maxHeartbeats 4000000 in
theorem s_192_44 {Lx : Nat} {I : Mi} {L : Ml} {e : Nat} {Q : Kq} {x5 : Int32} (h :
    (if x5 = (Int32.ofInt 2) then
     (if (L 21 2) = (Int64.ofInt 0) then
      Q (.inl (some (.int (Int32.ofInt 0)))) (gE Lx) I L e
     else
      (if (L 21 2) = 0 then False else
       Q (.inl (some (.int (((Int64.ofInt 10000) * (L 21 1)) / (L 21 2)).toInt32))) (gE Lx) I L e))
    else
     (if x5 = 0 then
      Wp 69 0 [(0, .ref 2), (1, .int (I 21 4))] [] (gE Lx) I L e (kcp (Wp 192) 192 74 0 [(0, .ref 1)] 71 [] Q)
     else
      Wp 70 0 [(0, .ref 2), (1, .int (I 21 4))] [] (gE Lx) I L e (kcp (Wp 192) 192 91 0 [(0, .ref 1)] 71 [] Q)))) :
    Wp 192 44 [(0, .ref 1), (5, .int x5)] [] (gE Lx) I L e Q := by
  refine w_a f_192_44 ?_
  refine w_a f_192_46 ?_
  refine w_a f_192_47 ?_
  refine i_m (fun h => ?_) (fun h => ?_) h
  · refine w_a f_192_50 ?_
    refine w_a f_192_51 ?_
    refine w_a f_192_54 ?_
    refine w_a (ls := [(0, .ref 21)]) f_4_0 ?_
    refine w_a f_4_1 ?_
    refine w_a f_4_4 ?_
    refine w_a f_4_5 ?_
    refine w_a f_4_8 ?_
    refine w_a (ls := [(0, .long (L 21 1)), (2, .long (L 21 2))]) f_24_0 ?_
    refine w_a f_24_1 ?_
    refine w_a f_24_2 ?_
    refine i_m (fun h => ?_) (fun h => ?_) h
    · refine w_a f_24_6 ?_
      refine w_a f_24_7 ?_
      refine w_a f_24_18 ?_
      refine w_a (ls := [(0, .ref 21)]) f_4_11 ?_
      refine w_a (ls := [(0, .ref 1), (5, .int x5)]) f_192_57 ?_
      exact h
    · refine w_a f_24_10 ?_
      refine w_a f_24_13 ?_
      refine w_a f_24_14 ?_
      refine w_a f_24_15 ?_
      refine w_a f_24_16 ?_
      refine i_m id (fun h => ?_) h
      refine w_a f_24_17 ?_
      refine w_a f_24_18 ?_
      refine w_a (ls := [(0, .ref 21)]) f_4_11 ?_
      refine w_a (ls := [(0, .ref 1), (5, .int x5)]) f_192_57 ?_
      exact h
  · refine w_a f_192_58 ?_
    refine w_a f_192_60 ?_
    refine i_m (fun h => ?_) (fun h => ?_) h
    · refine w_a f_192_63 ?_
      refine w_a f_192_64 ?_
      refine w_a f_192_67 ?_
      refine w_a f_192_68 ?_
      refine w_a f_192_71 ?_
      exact w_c (ks := [0]) f_192_74 rfl rfl h
    · refine w_a f_192_80 ?_
      refine w_a f_192_81 ?_
      refine w_a f_192_84 ?_
      refine w_a f_192_85 ?_
      refine w_a f_192_88 ?_
      exact w_c (ks := [0]) f_192_91 rfl rfl h
set_option maxRecDepth 10000 in
set_option maxHeartbeats 4000000 in
theorem s_192_77 {Lx : Nat} {I : Mi} {L : Ml} {e : Nat} {Q : Kq} {r : Int32} (h :
    Wp 192 94 [(0, .ref 1)] [.int r] (gE Lx) I L e Q) :
    Wp 192 77 [(0, .ref 1)] [.int r] (gE Lx) I L e Q := by
  refine w_a f_192_77 ?_
  exact w_n (ks := [0]) rfl h
set_option maxRecDepth 10000 in
set_option maxHeartbeats 4000000 in
theorem s_192_94 {Lx : Nat} {I : Mi} {L : Ml} {e : Nat} {Q : Kq} {r : Int32} (h :
    Q (.inl (some (.int r))) (gE Lx) I L e) :
    Wp 192 94 [(0, .ref 1)] [.int r] (gE Lx) I L e Q := by
  refine w_a f_192_94 ?_
  exact h
set_option maxRecDepth 10000 in
set_option maxHeartbeats 4000000 in
theorem s_193_0 {Lx : Nat} {I : Mi} {L : Ml} {e : Nat} {Q : Kq} {x1 : Int32} {x2 : Int32} {x3 : Int32} {x4 : Int32} (h :
    Wp 106 0 [(0, .ref 5), (1, .int x1), (2, .ref 15)] [] (gE Lx) (ui I 21 0 (Int32.ofInt 0)) (ul (ul L 21 1 (Int64.ofInt 0)) 21 2 (Int64.ofInt 1)) e (kcp (Wp 193) 193 16 0 [(0, .ref 1), (2, .int x2), (3, .int x3), (4, .int x4)] 71 [] Q)) :
    Wp 193 0 [(0, .ref 1), (1, .int x1), (2, .int x2), (3, .int x3), (4, .int x4)] [] (gE Lx) I L e Q := by
  refine w_a f_193_0 ?_
  refine w_a f_193_1 ?_
  refine w_a f_193_4 ?_
  refine w_a (ls := [(0, .ref 21)]) f_1_0 ?_
  refine w_a f_1_1 ?_
  refine w_a f_1_2 ?_
  refine w_a f_1_5 ?_
  refine w_a f_1_6 ?_
  refine w_a f_1_7 ?_
  refine w_a f_1_10 ?_
  refine w_a f_1_11 ?_
  refine w_a f_1_12 ?_
  refine w_a f_1_15 ?_
  refine w_a (ls := [(0, .ref 1), (1, .int x1), (2, .int x2), (3, .int x3), (4, .int x4)]) f_193_7 ?_
  refine w_a f_193_8 ?_
  refine w_a f_193_11 ?_
  refine w_a f_193_12 ?_
  refine w_a f_193_13 ?_
  exact w_c (ks := [0, 2, 3, 4]) f_193_16 rfl rfl h
set_option maxRecDepth 10000 in
set_option maxHeartbeats 4000000 in
theorem s_193_19 {Lx : Nat} {I : Mi} {L : Ml} {e : Nat} {Q : Kq} {x2 : Int32} {x3 : Int32} {x4 : Int32} (h :
    Wp 75 0 [(0, .ref 15), (1, .int x4), (2, .long x2.toInt64), (4, .long x3.toInt64)] [] (gE Lx) I L e (kcp (Wp 193) 193 29 0 [(0, .ref 1), (2, .int x2), (3, .int x3), (4, .int x4)] 71 [] Q)) :
    Wp 193 19 [(0, .ref 1), (2, .int x2), (3, .int x3), (4, .int x4)] [] (gE Lx) I L e Q := by
  refine w_a f_193_19 ?_
  refine w_a f_193_20 ?_
  refine w_a f_193_23 ?_
  refine w_a f_193_25 ?_
  refine w_a f_193_26 ?_
  refine w_a f_193_27 ?_
  refine w_a f_193_28 ?_
  exact w_c (ks := [0, 2, 3, 4]) f_193_29 rfl rfl h
set_option maxRecDepth 10000 in
set_option maxHeartbeats 4000000 in
theorem s_193_32 {Lx : Nat} {I : Mi} {L : Ml} {e : Nat} {Q : Kq} {x2 : Int32} {x3 : Int32} {x4 : Int32} (h :
    Wp 193 35 [(0, .ref 1), (2, .int x2), (3, .int x3), (4, .int x4), (5, .int (Int32.ofInt 0))] [] (gE Lx) I L e Q) :
    Wp 193 32 [(0, .ref 1), (2, .int x2), (3, .int x3), (4, .int x4)] [] (gE Lx) I L e Q := by
  refine w_a f_193_32 ?_
  refine w_a f_193_33 ?_
  exact w_n (ks := [0, 2, 3, 4, 5]) rfl h
set_option maxRecDepth 10000 in
set_option maxHeartbeats 4000000 in
theorem s_193_35 {Lx : Nat} {I : Mi} {L : Ml} {e : Nat} {Q : Kq} {x2 : Int32} {x3 : Int32} {x4 : Int32} {x5 : Int32} (h :
    (if x5 < (Int32.ofInt 184) then
     Wp 69 0 [(0, .ref 2), (1, .int x5)] [] (gE Lx) I (ul (ul (ul (ul L 16 0 (L 15 0)) 16 1 (L 15 1)) 16 2 (L 15 2)) 16 3 (L 15 3)) e (kcp (Wp 193) 193 64 0 [(0, .ref 1), (2, .int x2), (3, .int x3), (4, .int x4), (5, .int x5)] 71 [.ref 16] Q)
    else
     Q (.inl none) (gE Lx) I L e)) :
    Wp 193 35 [(0, .ref 1), (2, .int x2), (3, .int x3), (4, .int x4), (5, .int x5)] [] (gE Lx) I L e Q := by
  refine w_a f_193_35 ?_
  refine w_a f_193_37 ?_
  refine w_a f_193_40 ?_
  refine i_m (fun h => ?_) (fun h => ?_) h
  · refine w_a f_193_43 ?_
    refine w_a f_193_44 ?_
    refine w_a f_193_47 ?_
    refine w_a f_193_48 ?_
    refine w_a f_193_51 ?_
    refine w_a (ls := [(0, .ref 16), (1, .ref 15)]) f_84_0 ?_
    refine w_a f_84_1 ?_
    refine w_a f_84_2 ?_
    refine w_a f_84_5 ?_
    refine w_a f_84_8 ?_
    refine w_a f_84_9 ?_
    refine w_a f_84_10 ?_
    refine w_a f_84_13 ?_
    refine w_a f_84_16 ?_
    refine w_a f_84_17 ?_
    refine w_a f_84_18 ?_
    refine w_a f_84_21 ?_
    refine w_a f_84_24 ?_
    refine w_a f_84_25 ?_
    refine w_a f_84_26 ?_
    refine w_a f_84_29 ?_
    refine w_a f_84_32 ?_
    refine w_a (ls := [(0, .ref 1), (2, .int x2), (3, .int x3), (4, .int x4), (5, .int x5)]) f_193_54 ?_
    refine w_a f_193_55 ?_
    refine w_a f_193_58 ?_
    refine w_a f_193_59 ?_
    refine w_a f_193_62 ?_
    exact w_c (ks := [0, 2, 3, 4, 5]) f_193_64 rfl rfl h
  · refine w_a f_193_133 ?_
    exact h
set_option maxRecDepth 10000 in
set_option maxHeartbeats 4000000 in
theorem s_193_67 {Lx : Nat} {I : Mi} {L : Ml} {e : Nat} {Q : Kq} {x2 : Int32} {x3 : Int32} {x4 : Int32} {x5 : Int32} {r : Int32} (h :
    Wp 70 0 [(0, .ref 2), (1, .int x5)] [] (gE Lx) I L e (kcp (Wp 193) 193 74 0 [(0, .ref 1), (2, .int x2), (3, .int x3), (4, .int x4), (5, .int x5)] 71 [.long r.toInt64, .ref 16] Q)) :
    Wp 193 67 [(0, .ref 1), (2, .int x2), (3, .int x3), (4, .int x4), (5, .int x5)] [.int r, .ref 16] (gE Lx) I L e Q := by
  refine w_a f_193_67 ?_
  refine w_a f_193_68 ?_
  refine w_a f_193_69 ?_
  refine w_a f_193_72 ?_
  exact w_c (ks := [0, 2, 3, 4, 5]) f_193_74 rfl rfl h
set_option maxRecDepth 10000 in
set_option maxHeartbeats 4000000 in
theorem s_193_77 {Lx : Nat} {I : Mi} {L : Ml} {e : Nat} {Q : Kq} {x2 : Int32} {x3 : Int32} {x4 : Int32} {x5 : Int32} {rl1 : Int64} {r : Int32} (h :
    Wp 76 0 [(0, .ref 16), (1, .long rl1), (3, .long r.toInt64)] [] (gE Lx) I L e (kcp (Wp 193) 193 78 0 [(0, .ref 1), (2, .int x2), (3, .int x3), (4, .int x4), (5, .int x5)] 71 [] Q)) :
    Wp 193 77 [(0, .ref 1), (2, .int x2), (3, .int x3), (4, .int x4), (5, .int x5)] [.int r, .long rl1, .ref 16] (gE Lx) I L e Q := by
  refine w_a f_193_77 ?_
  exact w_c (ks := [0, 2, 3, 4, 5]) f_193_78 rfl rfl h
set_option maxRecDepth 10000 in
set_option maxHeartbeats 4000000 in
theorem s_193_81 {Lx : Nat} {I : Mi} {L : Ml} {e : Nat} {Q : Kq} {x2 : Int32} {x3 : Int32} {x4 : Int32} {x5 : Int32} (h :
    Wp 75 0 [(0, .ref 16), (1, .int x4), (2, .long x2.toInt64), (4, .long x3.toInt64)] [] (gE Lx) I L e (kcp (Wp 193) 193 91 0 [(0, .ref 1), (2, .int x2), (3, .int x3), (4, .int x4), (5, .int x5)] 71 [] Q)) :
    Wp 193 81 [(0, .ref 1), (2, .int x2), (3, .int x3), (4, .int x4), (5, .int x5)] [] (gE Lx) I L e Q := by
  refine w_a f_193_81 ?_
  refine w_a f_193_82 ?_
  refine w_a f_193_85 ?_
  refine w_a f_193_87 ?_
  refine w_a f_193_88 ?_
  refine w_a f_193_89 ?_
  refine w_a f_193_90 ?_
  exact w_c (ks := [0, 2, 3, 4, 5]) f_193_91 rfl rfl h
set_option maxRecDepth 10000 in
set_option maxHeartbeats 4000000 in
theorem s_193_94 {Lx : Nat} {I : Mi} {L : Ml} {e : Nat} {Q : Kq} {x2 : Int32} {x3 : Int32} {x4 : Int32} {x5 : Int32} (h :
    Wp 3 0 [(0, .ref 21), (1, .long ((((L 16 0) - (L 16 2)) * ((L 16 0) - (L 16 2))) + (((L 16 1) - (L 16 3)) * ((L 16 1) - (L 16 3))))), (3, .long ((((L 16 0) + (L 16 2)) * ((L 16 0) + (L 16 2))) + (((L 16 1) + (L 16 3)) * ((L 16 1) + (L 16 3))))), (5, .int (Int32.ofInt (-1)))] [] (gE Lx) I L e (kcp (Wp 2) 2 4 0 [(0, .ref 21)] 71 [] (kcp (Wp 193) 193 112 0 [(0, .ref 1), (2, .int x2), (3, .int x3), (4, .int x4), (5, .int x5)] 71 [] Q))) :
    Wp 193 94 [(0, .ref 1), (2, .int x2), (3, .int x3), (4, .int x4), (5, .int x5)] [] (gE Lx) I L e Q := by
  refine w_a f_193_94 ?_
  refine w_a f_193_95 ?_
  refine w_a f_193_98 ?_
  refine w_a f_193_99 ?_
  refine w_a f_193_102 ?_
  refine w_a (ls := [(0, .ref 16)]) f_78_0 ?_
  refine w_a f_78_1 ?_
  refine w_a f_78_4 ?_
  refine w_a f_78_5 ?_
  refine w_a f_78_8 ?_
  refine w_a f_78_9 ?_
  refine w_a (ls := [(1, .long ((L 16 0) - (L 16 2))), (0, .ref 16)]) f_78_10 ?_
  refine w_a f_78_11 ?_
  refine w_a f_78_14 ?_
  refine w_a f_78_15 ?_
  refine w_a f_78_18 ?_
  refine w_a f_78_19 ?_
  refine w_a (ls := [(3, .long ((L 16 1) - (L 16 3))), (1, .long ((L 16 0) - (L 16 2))), (0, .ref 16)]) f_78_20 ?_
  refine w_a f_78_21 ?_
  refine w_a f_78_22 ?_
  refine w_a f_78_23 ?_
  refine w_a f_78_24 ?_
  refine w_a f_78_25 ?_
  refine w_a f_78_26 ?_
  refine w_a f_78_27 ?_
  refine w_a (ls := [(0, .ref 1), (2, .int x2), (3, .int x3), (4, .int x4), (5, .int x5)]) f_193_105 ?_
  refine w_a f_193_106 ?_
  refine w_a f_193_109 ?_
  refine w_a (ls := [(0, .ref 16)]) f_79_0 ?_
  refine w_a f_79_1 ?_
  refine w_a f_79_4 ?_
  refine w_a f_79_5 ?_
  refine w_a f_79_8 ?_
  refine w_a f_79_9 ?_
  refine w_a (ls := [(1, .long ((L 16 0) + (L 16 2))), (0, .ref 16)]) f_79_10 ?_
  refine w_a f_79_11 ?_
  refine w_a f_79_14 ?_
  refine w_a f_79_15 ?_
  refine w_a f_79_18 ?_
  refine w_a f_79_19 ?_
  refine w_a (ls := [(3, .long ((L 16 1) + (L 16 3))), (1, .long ((L 16 0) + (L 16 2))), (0, .ref 16)]) f_79_20 ?_
  refine w_a f_79_21 ?_
  refine w_a f_79_22 ?_
  refine w_a f_79_23 ?_
  refine w_a f_79_24 ?_
  refine w_a f_79_25 ?_
  refine w_a f_79_26 ?_
  refine w_a f_79_27 ?_
  refine w_c (ls := [(0, .ref 1), (2, .int x2), (3, .int x3), (4, .int x4), (5, .int x5)]) (ks := [0, 2, 3, 4, 5]) f_193_112 rfl rfl ?_
  refine w_a (ls := [(0, .ref 21), (1, .long ((((L 16 0) - (L 16 2)) * ((L 16 0) - (L 16 2))) + (((L 16 1) - (L 16 3)) * ((L 16 1) - (L 16 3))))), (3, .long ((((L 16 0) + (L 16 2)) * ((L 16 0) + (L 16 2))) + (((L 16 1) + (L 16 3)) * ((L 16 1) + (L 16 3)))))]) f_2_0 ?_
  refine w_a f_2_1 ?_
  refine w_a f_2_2 ?_
  refine w_a f_2_3 ?_
  exact w_c (ks := [0]) f_2_4 rfl rfl h
set_option maxRecDepth 10000 in
set_option maxHeartbeats 4000000 in
theorem s_193_115 {Lx : Nat} {I : Mi} {L : Ml} {e : Nat} {Q : Kq} {x2 : Int32} {x3 : Int32} {x4 : Int32} {x5 : Int32} {r : Int32} (h :
    (if r = 0 then
     Wp 193 35 [(0, .ref 1), (2, .int x2), (3, .int x3), (4, .int x4), (5, .int (x5 + Int32.ofInt 1))] [] (gE Lx) I L e Q
    else
     Wp 193 35 [(0, .ref 1), (2, .int x2), (3, .int x3), (4, .int x4), (5, .int (x5 + Int32.ofInt 1))] [] (gE Lx) (ui I 21 4 x5) L e Q)) :
    Wp 193 115 [(0, .ref 1), (2, .int x2), (3, .int x3), (4, .int x4), (5, .int x5)] [.int r] (gE Lx) I L e Q := by
  refine w_a f_193_115 ?_
  refine i_m (fun h => ?_) (fun h => ?_) h
  · refine w_a f_193_127 ?_
    refine w_a (ls := [(5, .int (x5 + Int32.ofInt 1)), (0, .ref 1), (2, .int x2), (3, .int x3), (4, .int x4)]) f_193_130 ?_
    exact w_n (ks := [0, 2, 3, 4, 5]) rfl h
  · refine w_a f_193_118 ?_
    refine w_a f_193_119 ?_
    refine w_a f_193_122 ?_
    refine w_a f_193_124 ?_
    refine w_a f_193_127 ?_
    refine w_a (ls := [(5, .int (x5 + Int32.ofInt 1)), (0, .ref 1), (2, .int x2), (3, .int x3), (4, .int x4)]) f_193_130 ?_
    exact w_n (ks := [0, 2, 3, 4, 5]) rfl h
set_option maxRecDepth 10000 in
set_option maxHeartbeats 4000000 in
theorem s_194_48 {Lx : Nat} {I : Mi} {L : Ml} {e : Nat} {Q : Kq} {x2 : Int32} (h :
    (if (I 21 0) = 0 then
     Q (.inl (some (.int (Int32.ofInt (-1))))) (gE Lx) I L e
    else
     (if (L 21 1) = (L 21 2) then
      Q (.inl (some (.int (Int32.ofInt (-1))))) (gE Lx) I L e
     else
      (if x2 = (Int32.ofInt 3) then
       (if (L 21 2) = (Int64.ofInt 0) then
        Wp 194 98 [(0, .ref 1)] [.int (Int32.ofInt 0)] (gE Lx) I L e Q
       else
        (if (L 21 2) = 0 then False else
         Wp 194 98 [(0, .ref 1)] [.int (((Int64.ofInt 10000) * (L 21 1)) / (L 21 2)).toInt32] (gE Lx) I L e Q))
      else
       (if x2 = Int32.ofInt 0 then
        Wp 69 0 [(0, .ref 2), (1, .int (I 21 5))] [] (gE Lx) I L e (kcp (Wp 161) 161 39 0 [(0, .ref 1)] 71 [] (kcp (Wp 194) 194 95 0 [(0, .ref 1)] 71 [] Q))
       else
       (if x2 = Int32.ofInt 1 then
        Wp 70 0 [(0, .ref 2), (1, .int (I 21 5))] [] (gE Lx) I L e (kcp (Wp 161) 161 54 0 [(0, .ref 1)] 71 [] (kcp (Wp 194) 194 95 0 [(0, .ref 1)] 71 [] Q))
       else
        (if (I 21 6) = 0 then
         Wp 194 98 [(0, .ref 1)] [.int (Int32.ofInt 0)] (gE Lx) I L e Q
        else
         Wp 194 98 [(0, .ref 1)] [.int (Int32.ofInt 1)] (gE Lx) I L e Q))))))) :
    Wp 194 48 [(0, .ref 1), (2, .int x2)] [] (gE Lx) I L e Q := by
  refine w_a f_194_48 ?_
  refine w_a f_194_49 ?_
  refine w_a f_194_52 ?_
  refine w_a f_194_55 ?_
  refine i_m (fun h => ?_) (fun h => ?_) h
  · refine w_a f_194_76 ?_
    refine w_a f_194_77 ?_
    exact h
  · refine w_a f_194_58 ?_
    refine w_a f_194_59 ?_
    refine w_a f_194_62 ?_
    refine w_a f_194_65 ?_
    refine w_a f_194_66 ?_
    refine w_a f_194_69 ?_
    refine w_a f_194_72 ?_
    refine i_m (fun h => ?_) (fun h => ?_) h
    · refine w_a f_194_76 ?_
      refine w_a f_194_77 ?_
      exact h
    · refine w_a f_194_78 ?_
      refine w_a f_194_79 ?_
      refine w_a f_194_80 ?_
      refine i_m (fun h => ?_) (fun h => ?_) h
      · refine w_a f_194_83 ?_
        refine w_a f_194_84 ?_
        refine w_a f_194_87 ?_
        refine w_a (ls := [(0, .ref 21)]) f_4_0 ?_
        refine w_a f_4_1 ?_
        refine w_a f_4_4 ?_
        refine w_a f_4_5 ?_
        refine w_a f_4_8 ?_
        refine w_a (ls := [(0, .long (L 21 1)), (2, .long (L 21 2))]) f_24_0 ?_
        refine w_a f_24_1 ?_
        refine w_a f_24_2 ?_
        refine i_m (fun h => ?_) (fun h => ?_) h
        · refine w_a f_24_6 ?_
          refine w_a f_24_7 ?_
          refine w_a f_24_18 ?_
          refine w_a (ls := [(0, .ref 21)]) f_4_11 ?_
          refine w_a (ls := [(0, .ref 1), (2, .int x2)]) f_194_90 ?_
          exact w_n (ks := [0]) rfl h
        · refine w_a f_24_10 ?_
          refine w_a f_24_13 ?_
          refine w_a f_24_14 ?_
          refine w_a f_24_15 ?_
          refine w_a f_24_16 ?_
          refine i_m id (fun h => ?_) h
          refine w_a f_24_17 ?_
          refine w_a f_24_18 ?_
          refine w_a (ls := [(0, .ref 21)]) f_4_11 ?_
          refine w_a (ls := [(0, .ref 1), (2, .int x2)]) f_194_90 ?_
          exact w_n (ks := [0]) rfl h
      · refine w_a f_194_93 ?_
        refine w_a f_194_94 ?_
        refine w_c (ks := [0]) f_194_95 rfl rfl ?_
        refine w_a (ls := [(0, .ref 1), (1, .int x2)]) f_161_0 ?_
        refine w_a f_161_1 ?_
        refine i_m (fun h => ?_) (fun h => ?_) h
        · refine w_a f_161_28 ?_
          refine w_a f_161_29 ?_
          refine w_a f_161_32 ?_
          refine w_a f_161_33 ?_
          refine w_a f_161_36 ?_
          exact w_c (ks := [0]) f_161_39 rfl rfl h
        · refine i_m (fun h => ?_) (fun h => ?_) h
          · refine w_a f_161_43 ?_
            refine w_a f_161_44 ?_
            refine w_a f_161_47 ?_
            refine w_a f_161_48 ?_
            refine w_a f_161_51 ?_
            exact w_c (ks := [0]) f_161_54 rfl rfl h
          · refine w_a f_161_58 ?_
            refine w_a f_161_59 ?_
            refine w_a f_161_62 ?_
            refine w_a f_161_65 ?_
            refine i_m (fun h => ?_) (fun h => ?_) h
            · refine w_a f_161_72 ?_
              refine w_a f_161_73 ?_
              exact h
            · refine w_a f_161_68 ?_
              refine w_a f_161_69 ?_
              refine w_a f_161_73 ?_
              exact h
set_option maxRecDepth 10000 in
set_option maxHeartbeats 4000000 in
theorem s_194_98 {Lx : Nat} {I : Mi} {L : Ml} {e : Nat} {Q : Kq} {r : Int32} (h :
    Q (.inl (some (.int r))) (gE Lx) I L e) :
    Wp 194 98 [(0, .ref 1)] [.int r] (gE Lx) I L e Q := by
  refine w_a f_194_98 ?_
  exact h
set_option maxRecDepth 10000 in
set_option maxHeartbeats 4000000 in
theorem s_195_0 {Lx : Nat} {I : Mi} {L : Ml} {e : Nat} {Q : Kq} {x1 : Int32} (h :
    Wp 106 0 [(0, .ref 5), (1, .int (I 5 3)), (2, .ref 15)] [] (gE Lx) (ui I 21 0 (Int32.ofInt 0)) (ul (ul L 21 1 (Int64.ofInt 0)) 21 2 (Int64.ofInt 1)) e (kcp (Wp 195) 195 22 0 [(0, .ref 1), (1, .int x1)] 71 [] Q)) :
    Wp 195 0 [(0, .ref 1), (1, .int x1)] [] (gE Lx) I L e Q := by
  refine w_a f_195_0 ?_
  refine w_a f_195_1 ?_
  refine w_a f_195_4 ?_
  refine w_a (ls := [(0, .ref 21)]) f_1_0 ?_
  refine w_a f_1_1 ?_
  refine w_a f_1_2 ?_
  refine w_a f_1_5 ?_
  refine w_a f_1_6 ?_
  refine w_a f_1_7 ?_
  refine w_a f_1_10 ?_
  refine w_a f_1_11 ?_
  refine w_a f_1_12 ?_
  refine w_a f_1_15 ?_
  refine w_a (ls := [(0, .ref 1), (1, .int x1)]) f_195_7 ?_
  refine w_a f_195_8 ?_
  refine w_a f_195_11 ?_
  refine w_a f_195_12 ?_
  refine w_a f_195_15 ?_
  refine w_a f_195_18 ?_
  refine w_a f_195_19 ?_
  exact w_c (ks := [0, 1]) f_195_22 rfl rfl h
set_option maxRecDepth 10000 in
set_option maxHeartbeats 4000000 in
theorem s_195_25 {Lx : Nat} {I : Mi} {L : Ml} {e : Nat} {Q : Kq} {x1 : Int32} (h :
    Wp 195 27 [(0, .ref 1), (1, .int x1), (2, .int (Int32.ofInt 0))] [] (gE Lx) I L e Q) :
    Wp 195 25 [(0, .ref 1), (1, .int x1)] [] (gE Lx) I L e Q := by
  refine w_a f_195_25 ?_
  refine w_a f_195_26 ?_
  exact w_n (ks := [0, 1, 2]) rfl h
set_option maxRecDepth 10000 in
set_option maxHeartbeats 4000000 in
theorem s_195_27 {Lx : Nat} {I : Mi} {L : Ml} {e : Nat} {Q : Kq} {x1 : Int32} {x2 : Int32} (h :
    (if x2 < (Int32.ofInt 184) then
     Wp 69 0 [(0, .ref 2), (1, .int x2)] [] (gE Lx) I L e (kcp (Wp 195) 195 43 0 [(0, .ref 1), (1, .int x1), (2, .int x2)] 71 [.ref 18] Q)
    else
     Q (.inl none) (gE Lx) I L e)) :
    Wp 195 27 [(0, .ref 1), (1, .int x1), (2, .int x2)] [] (gE Lx) I L e Q := by
  refine w_a f_195_27 ?_
  refine w_a f_195_28 ?_
  refine w_a f_195_31 ?_
  refine i_m (fun h => ?_) (fun h => ?_) h
  · refine w_a f_195_34 ?_
    refine w_a f_195_35 ?_
    refine w_a f_195_38 ?_
    refine w_a f_195_39 ?_
    refine w_a f_195_42 ?_
    exact w_c (ks := [0, 1, 2]) f_195_43 rfl rfl h
  · refine w_a f_195_102 ?_
    exact h
set_option maxRecDepth 10000 in
set_option maxHeartbeats 4000000 in
theorem s_195_46 {Lx : Nat} {I : Mi} {L : Ml} {e : Nat} {Q : Kq} {x1 : Int32} {x2 : Int32} {r : Int32} (h :
    Wp 70 0 [(0, .ref 2), (1, .int x2)] [] (gE Lx) I L e (kcp (Wp 195) 195 52 0 [(0, .ref 1), (1, .int x1), (2, .int x2)] 71 [.long r.toInt64, .ref 18] Q)) :
    Wp 195 46 [(0, .ref 1), (1, .int x1), (2, .int x2)] [.int r, .ref 18] (gE Lx) I L e Q := by
  refine w_a f_195_46 ?_
  refine w_a f_195_47 ?_
  refine w_a f_195_48 ?_
  refine w_a f_195_51 ?_
  exact w_c (ks := [0, 1, 2]) f_195_52 rfl rfl h
set_option maxRecDepth 10000 in
set_option maxHeartbeats 4000000 in
theorem s_195_55 {Lx : Nat} {I : Mi} {L : Ml} {e : Nat} {Q : Kq} {x1 : Int32} {x2 : Int32} {rl1 : Int64} {r : Int32} (h :
    Wp 30 0 [(0, .ref 18), (1, .long rl1), (3, .long r.toInt64), (5, .int x1)] [] (gE Lx) I L e (kcp (Wp 195) 195 57 0 [(0, .ref 1), (1, .int x1), (2, .int x2)] 71 [] Q)) :
    Wp 195 55 [(0, .ref 1), (1, .int x1), (2, .int x2)] [.int r, .long rl1, .ref 18] (gE Lx) I L e Q := by
  refine w_a f_195_55 ?_
  refine w_a f_195_56 ?_
  exact w_c (ks := [0, 1, 2]) f_195_57 rfl rfl h
set_option maxRecDepth 10000 in
set_option maxHeartbeats 4000000 in
theorem s_195_60 {Lx : Nat} {I : Mi} {L : Ml} {e : Nat} {Q : Kq} {x1 : Int32} {x2 : Int32} (h :
    (if (L 18 1) = (Int64.ofInt 0) then
     Wp 69 0 [(0, .ref 2), (1, .int x2)] [] (gE Lx) I (ul (ul (ul (ul L 16 0 (L 15 0)) 16 1 (L 15 1)) 16 2 (L 15 2)) 16 3 (L 15 3)) e (kcp (Wp 196) 196 25 0 [(0, .ref 1), (1, .int x2), (2, .int (Int32.ofInt 1))] 71 [.int (Int32.ofInt 1), .ref 16] (kcp (Wp 195) 195 75 0 [(0, .ref 1), (1, .int x1), (2, .int x2)] 71 [] Q))
    else
     Wp 195 78 [(0, .ref 1), (1, .int x1), (2, .int x2)] [] (gE Lx) I L e Q)) :
    Wp 195 60 [(0, .ref 1), (1, .int x1), (2, .int x2)] [] (gE Lx) I L e Q := by
  refine w_a f_195_60 ?_
  refine w_a f_195_61 ?_
  refine w_a f_195_64 ?_
  refine w_a f_195_67 ?_
  refine w_a f_195_68 ?_
  refine i_m (fun h => ?_) (fun h => ?_) h
  · refine w_a f_195_72 ?_
    refine w_a f_195_73 ?_
    refine w_a f_195_74 ?_
    refine w_c (ks := [0, 1, 2]) f_195_75 rfl rfl ?_
    refine w_a (ls := [(0, .ref 1), (1, .int x2), (2, .int (Int32.ofInt 1))]) f_196_0 ?_
    refine w_a f_196_1 ?_
    refine w_a f_196_4 ?_
    refine w_a f_196_5 ?_
    refine w_a f_196_8 ?_
    refine w_a (ls := [(0, .ref 16), (1, .ref 15)]) f_84_0 ?_
    refine w_a f_84_1 ?_
    refine w_a f_84_2 ?_
    refine w_a f_84_5 ?_
    refine w_a f_84_8 ?_
    refine w_a f_84_9 ?_
    refine w_a f_84_10 ?_
    refine w_a f_84_13 ?_
    refine w_a f_84_16 ?_
    refine w_a f_84_17 ?_
    refine w_a f_84_18 ?_
    refine w_a f_84_21 ?_
    refine w_a f_84_24 ?_
    refine w_a f_84_25 ?_
    refine w_a f_84_26 ?_
    refine w_a f_84_29 ?_
    refine w_a f_84_32 ?_
    refine w_a (ls := [(0, .ref 1), (1, .int x2), (2, .int (Int32.ofInt 1))]) f_196_11 ?_
    refine w_a f_196_12 ?_
    refine w_a f_196_15 ?_
    refine w_a f_196_16 ?_
    refine w_a f_196_17 ?_
    refine w_a (ls := [(0, .int (Int32.ofInt 0)), (1, .int (Int32.ofInt 1))]) f_146_0 ?_
    refine w_a f_146_1 ?_
    refine w_a f_146_14 ?_
    refine w_a f_146_15 ?_
    refine w_a f_146_18 ?_
    refine w_a f_146_19 ?_
    refine w_a f_146_23 ?_
    refine w_a (ls := [(0, .ref 1), (1, .int x2), (2, .int (Int32.ofInt 1))]) f_196_20 ?_
    refine w_a f_196_21 ?_
    refine w_a f_196_24 ?_
    exact w_c (ks := [0, 1, 2]) f_196_25 rfl rfl h
  · exact w_n (ks := [0, 1, 2]) rfl h
set_option maxRecDepth 10000 in
set_option maxHeartbeats 4000000 in
theorem s_195_78 {Lx : Nat} {I : Mi} {L : Ml} {e : Nat} {Q : Kq} {x1 : Int32} {x2 : Int32} (h :
    (if (L 18 0) = (Int64.ofInt 0) then
     Wp 69 0 [(0, .ref 2), (1, .int x2)] [] (gE Lx) I (ul (ul (ul (ul L 16 0 (L 15 0)) 16 1 (L 15 1)) 16 2 (L 15 2)) 16 3 (L 15 3)) e (kcp (Wp 196) 196 25 0 [(0, .ref 1), (1, .int x2), (2, .int (Int32.ofInt 0))] 71 [.int (Int32.ofInt 2), .ref 16] (kcp (Wp 195) 195 93 0 [(0, .ref 1), (1, .int x1), (2, .int x2)] 71 [] Q))
    else
     Wp 195 96 [(0, .ref 1), (1, .int x1), (2, .int x2)] [] (gE Lx) I L e Q)) :
    Wp 195 78 [(0, .ref 1), (1, .int x1), (2, .int x2)] [] (gE Lx) I L e Q := by
  refine w_a f_195_78 ?_
  refine w_a f_195_79 ?_
  refine w_a f_195_82 ?_
  refine w_a f_195_85 ?_
  refine w_a f_195_86 ?_
  refine i_m (fun h => ?_) (fun h => ?_) h
  · refine w_a f_195_90 ?_
    refine w_a f_195_91 ?_
    refine w_a f_195_92 ?_
    refine w_c (ks := [0, 1, 2]) f_195_93 rfl rfl ?_
    refine w_a (ls := [(0, .ref 1), (1, .int x2), (2, .int (Int32.ofInt 0))]) f_196_0 ?_
    refine w_a f_196_1 ?_
    refine w_a f_196_4 ?_
    refine w_a f_196_5 ?_
    refine w_a f_196_8 ?_
    refine w_a (ls := [(0, .ref 16), (1, .ref 15)]) f_84_0 ?_
    refine w_a f_84_1 ?_
    refine w_a f_84_2 ?_
    refine w_a f_84_5 ?_
    refine w_a f_84_8 ?_
    refine w_a f_84_9 ?_
    refine w_a f_84_10 ?_
    refine w_a f_84_13 ?_
    refine w_a f_84_16 ?_
    refine w_a f_84_17 ?_
    refine w_a f_84_18 ?_
    refine w_a f_84_21 ?_
    refine w_a f_84_24 ?_
    refine w_a f_84_25 ?_
    refine w_a f_84_26 ?_
    refine w_a f_84_29 ?_
    refine w_a f_84_32 ?_
    refine w_a (ls := [(0, .ref 1), (1, .int x2), (2, .int (Int32.ofInt 0))]) f_196_11 ?_
    refine w_a f_196_12 ?_
    refine w_a f_196_15 ?_
    refine w_a f_196_16 ?_
    refine w_a f_196_17 ?_
    refine w_a (ls := [(0, .int (Int32.ofInt 0)), (1, .int (Int32.ofInt 0))]) f_146_0 ?_
    refine w_a f_146_1 ?_
    refine w_a f_146_14 ?_
    refine w_a f_146_15 ?_
    refine w_a f_146_22 ?_
    refine w_a f_146_23 ?_
    refine w_a (ls := [(0, .ref 1), (1, .int x2), (2, .int (Int32.ofInt 0))]) f_196_20 ?_
    refine w_a f_196_21 ?_
    refine w_a f_196_24 ?_
    exact w_c (ks := [0, 1, 2]) f_196_25 rfl rfl h
  · exact w_n (ks := [0, 1, 2]) rfl h
set_option maxRecDepth 10000 in
set_option maxHeartbeats 4000000 in
theorem s_195_96 {Lx : Nat} {I : Mi} {L : Ml} {e : Nat} {Q : Kq} {x1 : Int32} {x2 : Int32} (h :
    Wp 195 27 [(0, .ref 1), (1, .int x1), (2, .int (x2 + Int32.ofInt 1))] [] (gE Lx) I L e Q) :
    Wp 195 96 [(0, .ref 1), (1, .int x1), (2, .int x2)] [] (gE Lx) I L e Q := by
  refine w_a f_195_96 ?_
  refine w_a (ls := [(2, .int (x2 + Int32.ofInt 1)), (0, .ref 1), (1, .int x1)]) f_195_99 ?_
  exact w_n (ks := [0, 1, 2]) rfl h
set_option maxRecDepth 10000 in
set_option maxHeartbeats 4000000 in
theorem s_196_28 {Lx : Nat} {I : Mi} {L : Ml} {e : Nat} {Q : Kq} {x1 : Int32} {x2 : Int32} {r1 : Int32} {r : Int32} (h :
    Wp 70 0 [(0, .ref 2), (1, .int x1)] [] (gE Lx) I L e (kcp (Wp 196) 196 34 0 [(0, .ref 1), (1, .int x1), (2, .int x2)] 71 [.long r.toInt64, .int r1, .ref 16] Q)) :
    Wp 196 28 [(0, .ref 1), (1, .int x1), (2, .int x2)] [.int r, .int r1, .ref 16] (gE Lx) I L e Q := by
  refine w_a f_196_28 ?_
  refine w_a f_196_29 ?_
  refine w_a f_196_30 ?_
  refine w_a f_196_33 ?_
  exact w_c (ks := [0, 1, 2]) f_196_34 rfl rfl h
set_option maxRecDepth 10000 in
set_option maxHeartbeats 4000000 in
theorem s_196_37 {Lx : Nat} {I : Mi} {L : Ml} {e : Nat} {Q : Kq} {x1 : Int32} {x2 : Int32} {r1 : Int32} {rl2 : Int64} {r : Int32} (h :
    Wp 75 0 [(0, .ref 16), (1, .int r1), (2, .long rl2), (4, .long r.toInt64)] [] (gE Lx) I L e (kcp (Wp 196) 196 38 0 [(0, .ref 1), (1, .int x1), (2, .int x2)] 71 [] Q)) :
    Wp 196 37 [(0, .ref 1), (1, .int x1), (2, .int x2)] [.int r, .long rl2, .int r1, .ref 16] (gE Lx) I L e Q := by
  refine w_a f_196_37 ?_
  exact w_c (ks := [0, 1, 2]) f_196_38 rfl rfl h
set_option maxRecDepth 10000 in
set_option maxHeartbeats 4000000 in
theorem s_196_41 {Lx : Nat} {I : Mi} {L : Ml} {e : Nat} {Q : Kq} {x1 : Int32} {x2 : Int32} (h :
    Wp 3 0 [(0, .ref 21), (1, .long ((((L 16 0) - (L 16 2)) * ((L 16 0) - (L 16 2))) + (((L 16 1) - (L 16 3)) * ((L 16 1) - (L 16 3))))), (3, .long ((((L 16 0) + (L 16 2)) * ((L 16 0) + (L 16 2))) + (((L 16 1) + (L 16 3)) * ((L 16 1) + (L 16 3))))), (5, .int (Int32.ofInt (-1)))] [] (gE Lx) I L e (kcp (Wp 2) 2 4 0 [(0, .ref 21)] 71 [] (kcp (Wp 196) 196 59 0 [(0, .ref 1), (1, .int x1), (2, .int x2)] 71 [] Q))) :
    Wp 196 41 [(0, .ref 1), (1, .int x1), (2, .int x2)] [] (gE Lx) I L e Q := by
  refine w_a f_196_41 ?_
  refine w_a f_196_42 ?_
  refine w_a f_196_45 ?_
  refine w_a f_196_46 ?_
  refine w_a f_196_49 ?_
  refine w_a (ls := [(0, .ref 16)]) f_78_0 ?_
  refine w_a f_78_1 ?_
  refine w_a f_78_4 ?_
  refine w_a f_78_5 ?_
  refine w_a f_78_8 ?_
  refine w_a f_78_9 ?_
  refine w_a (ls := [(1, .long ((L 16 0) - (L 16 2))), (0, .ref 16)]) f_78_10 ?_
  refine w_a f_78_11 ?_
  refine w_a f_78_14 ?_
  refine w_a f_78_15 ?_
  refine w_a f_78_18 ?_
  refine w_a f_78_19 ?_
  refine w_a (ls := [(3, .long ((L 16 1) - (L 16 3))), (1, .long ((L 16 0) - (L 16 2))), (0, .ref 16)]) f_78_20 ?_
  refine w_a f_78_21 ?_
  refine w_a f_78_22 ?_
  refine w_a f_78_23 ?_
  refine w_a f_78_24 ?_
  refine w_a f_78_25 ?_
  refine w_a f_78_26 ?_
  refine w_a f_78_27 ?_
  refine w_a (ls := [(0, .ref 1), (1, .int x1), (2, .int x2)]) f_196_52 ?_
  refine w_a f_196_53 ?_
  refine w_a f_196_56 ?_
  refine w_a (ls := [(0, .ref 16)]) f_79_0 ?_
  refine w_a f_79_1 ?_
  refine w_a f_79_4 ?_
  refine w_a f_79_5 ?_
  refine w_a f_79_8 ?_
  refine w_a f_79_9 ?_
  refine w_a (ls := [(1, .long ((L 16 0) + (L 16 2))), (0, .ref 16)]) f_79_10 ?_
  refine w_a f_79_11 ?_
  refine w_a f_79_14 ?_
  refine w_a f_79_15 ?_
  refine w_a f_79_18 ?_
  refine w_a f_79_19 ?_
  refine w_a (ls := [(3, .long ((L 16 1) + (L 16 3))), (1, .long ((L 16 0) + (L 16 2))), (0, .ref 16)]) f_79_20 ?_
  refine w_a f_79_21 ?_
  refine w_a f_79_22 ?_
  refine w_a f_79_23 ?_
  refine w_a f_79_24 ?_
  refine w_a f_79_25 ?_
  refine w_a f_79_26 ?_
  refine w_a f_79_27 ?_
  refine w_c (ls := [(0, .ref 1), (1, .int x1), (2, .int x2)]) (ks := [0, 1, 2]) f_196_59 rfl rfl ?_
  refine w_a (ls := [(0, .ref 21), (1, .long ((((L 16 0) - (L 16 2)) * ((L 16 0) - (L 16 2))) + (((L 16 1) - (L 16 3)) * ((L 16 1) - (L 16 3))))), (3, .long ((((L 16 0) + (L 16 2)) * ((L 16 0) + (L 16 2))) + (((L 16 1) + (L 16 3)) * ((L 16 1) + (L 16 3)))))]) f_2_0 ?_
  refine w_a f_2_1 ?_
  refine w_a f_2_2 ?_
  refine w_a f_2_3 ?_
  exact w_c (ks := [0]) f_2_4 rfl rfl h
set_option maxRecDepth 10000 in
set_option maxHeartbeats 4000000 in
theorem s_196_62 {Lx : Nat} {I : Mi} {L : Ml} {e : Nat} {Q : Kq} {x1 : Int32} {x2 : Int32} {r : Int32} (h :
    (if r = 0 then
     Q (.inl none) (gE Lx) I L e
    else
     (if x2 = 0 then
      Q (.inl none) (gE Lx) (ui (ui I 21 5 x1) 21 6 (Int32.ofInt 0)) L e
     else if x2 = 1 then
      Q (.inl none) (gE Lx) (ui (ui I 21 5 x1) 21 6 (Int32.ofInt 1)) L e
     else False))) :
    Wp 196 62 [(0, .ref 1), (1, .int x1), (2, .int x2)] [.int r] (gE Lx) I L e Q := by
  refine w_a f_196_62 ?_
  refine i_m (fun h => ?_) (fun h => ?_) h
  · refine w_a f_196_81 ?_
    exact h
  · refine w_a f_196_65 ?_
    refine w_a f_196_66 ?_
    refine w_a f_196_69 ?_
    refine w_a f_196_70 ?_
    refine w_a f_196_73 ?_
    refine w_a f_196_74 ?_
    refine w_a f_196_77 ?_
    refine w_a f_196_78 ?_
    refine i_m (fun h => ?_) (i_m (fun h => ?_) id) h
    · refine w_a f_196_81 ?_
      exact h
    · refine w_a f_196_81 ?_
      exact h
set_option maxRecDepth 10000 in
set_option maxHeartbeats 4000000 in
theorem s_197_10 {Lx : Nat} {I : Mi} {L : Ml} {e : Nat} {Q : Kq} {x1 : Int32} {r : Int32} (h :
    Wp 197 19 [(0, .ref 1), (1, .int x1), (2, .int r), (3, .int (Int32.ofInt (-1))), (4, .int (Int32.ofInt 0)), (5, .int (Int32.ofInt 0))] [] (gE Lx) I L e Q) :
    Wp 197 10 [(0, .ref 1), (1, .int x1)] [.int r] (gE Lx) I L e Q := by
  refine w_a f_197_10 ?_
  refine w_a (ls := [(2, .int r), (0, .ref 1), (1, .int x1)]) f_197_11 ?_
  refine w_a f_197_12 ?_
  refine w_a (ls := [(3, .int (Int32.ofInt (-1))), (2, .int r), (0, .ref 1), (1, .int x1)]) f_197_13 ?_
  refine w_a f_197_14 ?_
  refine w_a (ls := [(4, .int (Int32.ofInt 0)), (3, .int (Int32.ofInt (-1))), (2, .int r), (0, .ref 1), (1, .int x1)]) f_197_16 ?_
  refine w_a f_197_17 ?_
  exact w_n (ks := [0, 1, 2, 3, 4, 5]) rfl h
set_option maxRecDepth 10000 in
set_option maxHeartbeats 4000000 in
theorem s_197_19 {Lx : Nat} {I : Mi} {L : Ml} {e : Nat} {Q : Kq} {x1 : Int32} {x2 : Int32} {x3 : Int32} {x4 : Int32} {x5 : Int32} (h :
    (if x5 < (I 5 3) then
     Wp 199 0 [(0, .ref 1), (1, .int x5)] [] (gE Lx) I L e (kcp (Wp 197) 197 34 0 [(0, .ref 1), (1, .int x1), (2, .int x2), (3, .int x3), (4, .int x4), (5, .int x5)] 71 [] Q)
    else
     (if x1 = 0 then
      Q (.inl (some (.int x3))) (gE Lx) I L e
     else
      Q (.inl (some (.int x4))) (gE Lx) I L e))) :
    Wp 197 19 [(0, .ref 1), (1, .int x1), (2, .int x2), (3, .int x3), (4, .int x4), (5, .int x5)] [] (gE Lx) I L e Q := by
  refine w_a f_197_19 ?_
  refine w_a f_197_21 ?_
  refine w_a f_197_22 ?_
  refine w_a f_197_25 ?_
  refine w_a f_197_28 ?_
  refine i_m (fun h => ?_) (fun h => ?_) h
  · refine w_a f_197_31 ?_
    refine w_a f_197_32 ?_
    exact w_c (ks := [0, 1, 2, 3, 4, 5]) f_197_34 rfl rfl h
  · refine w_a f_197_66 ?_
    refine w_a f_197_67 ?_
    refine i_m (fun h => ?_) (fun h => ?_) h
    · refine w_a f_197_70 ?_
      refine w_a f_197_71 ?_
      refine w_a f_197_76 ?_
      exact h
    · refine w_a f_197_74 ?_
      refine w_a f_197_76 ?_
      exact h
set_option maxRecDepth 10000 in
set_option maxHeartbeats 4000000 in
theorem s_197_37 {Lx : Nat} {I : Mi} {L : Ml} {e : Nat} {Q : Kq} {x1 : Int32} {x2 : Int32} {x3 : Int32} {x4 : Int32} {x5 : Int32} {r : Int32} (h :
    (if x3 = (Int32.ofInt (-1)) then
     Wp 197 19 [(0, .ref 1), (1, .int x1), (2, .int x2), (3, .int x5), (4, .int (r - x2)), (5, .int (x5 + Int32.ofInt 1))] [] (gE Lx) I L e Q
    else
     (if x4 < (r - x2) then
      Wp 197 19 [(0, .ref 1), (1, .int x1), (2, .int x2), (3, .int x5), (4, .int (r - x2)), (5, .int (x5 + Int32.ofInt 1))] [] (gE Lx) I L e Q
     else
      Wp 197 19 [(0, .ref 1), (1, .int x1), (2, .int x2), (3, .int x3), (4, .int x4), (5, .int (x5 + Int32.ofInt 1))] [] (gE Lx) I L e Q))) :
    Wp 197 37 [(0, .ref 1), (1, .int x1), (2, .int x2), (3, .int x3), (4, .int x4), (5, .int x5)] [.int r] (gE Lx) I L e Q := by
  refine w_a f_197_37 ?_
  refine w_a f_197_38 ?_
  refine w_a f_197_39 ?_
  refine w_a (ls := [(6, .int (r - x2)), (0, .ref 1), (1, .int x1), (2, .int x2), (3, .int x3), (4, .int x4), (5, .int x5)]) f_197_41 ?_
  refine w_a f_197_42 ?_
  refine w_a f_197_43 ?_
  refine i_m (fun h => ?_) (fun h => ?_) h
  · refine w_a f_197_53 ?_
    refine w_a f_197_55 ?_
    refine w_a (ls := [(3, .int x5), (6, .int (r - x2)), (0, .ref 1), (1, .int x1), (2, .int x2), (4, .int x4), (5, .int x5)]) f_197_56 ?_
    refine w_a f_197_58 ?_
    refine w_a (ls := [(4, .int (r - x2)), (3, .int x5), (6, .int (r - x2)), (0, .ref 1), (1, .int x1), (2, .int x2), (5, .int x5)]) f_197_60 ?_
    refine w_a (ls := [(5, .int (x5 + Int32.ofInt 1)), (4, .int (r - x2)), (3, .int x5), (6, .int (r - x2)), (0, .ref 1), (1, .int x1), (2, .int x2)]) f_197_63 ?_
    exact w_n (ks := [0, 1, 2, 3, 4, 5]) rfl h
  · refine w_a f_197_46 ?_
    refine w_a f_197_48 ?_
    refine w_a f_197_50 ?_
    refine i_m (fun h => ?_) (fun h => ?_) h
    · refine w_a f_197_53 ?_
      refine w_a f_197_55 ?_
      refine w_a (ls := [(3, .int x5), (6, .int (r - x2)), (0, .ref 1), (1, .int x1), (2, .int x2), (4, .int x4), (5, .int x5)]) f_197_56 ?_
      refine w_a f_197_58 ?_
      refine w_a (ls := [(4, .int (r - x2)), (3, .int x5), (6, .int (r - x2)), (0, .ref 1), (1, .int x1), (2, .int x2), (5, .int x5)]) f_197_60 ?_
      refine w_a (ls := [(5, .int (x5 + Int32.ofInt 1)), (4, .int (r - x2)), (3, .int x5), (6, .int (r - x2)), (0, .ref 1), (1, .int x1), (2, .int x2)]) f_197_63 ?_
      exact w_n (ks := [0, 1, 2, 3, 4, 5]) rfl h
    · refine w_a f_197_60 ?_
      refine w_a (ls := [(5, .int (x5 + Int32.ofInt 1)), (6, .int (r - x2)), (0, .ref 1), (1, .int x1), (2, .int x2), (3, .int x3), (4, .int x4)]) f_197_63 ?_
      exact w_n (ks := [0, 1, 2, 3, 4, 5]) rfl h
set_option maxRecDepth 10000 in
set_option maxHeartbeats 4000000 in
theorem s_198_18 {Lx : Nat} {I : Mi} {L : Ml} {e : Nat} {Q : Kq} (h :
    Wp 128 0 [(0, .ref 1)] [] (gE Lx) I L e (kcp (Wp 198) 198 19 0 [(0, .ref 1)] 71 [] Q)) :
    Wp 198 18 [(0, .ref 1)] [] (gE Lx) I L e Q := by
  refine w_a f_198_18 ?_
  exact w_c (ks := [0]) f_198_19 rfl rfl h
set_option maxRecDepth 10000 in
set_option maxHeartbeats 4000000 in
theorem s_198_22 {Lx : Nat} {I : Mi} {L : Ml} {e : Nat} {Q : Kq} {r : Int32} (h :
    Q (.inl (some (.int r))) (gE Lx) I L e) :
    Wp 198 22 [(0, .ref 1)] [.int r] (gE Lx) I L e Q := by
  refine w_a f_198_22 ?_
  exact h
set_option maxRecDepth 10000 in
set_option maxHeartbeats 4000000 in
theorem s_199_0 {Lx : Nat} {I : Mi} {L : Ml} {e : Nat} {Q : Kq} {x1 : Int32} (h :
    Wp 14 0 [(0, .ref 5), (1, .int x1)] [] (gE Lx) I L e (kcp (Wp 199) 199 9 0 [(0, .ref 1), (1, .int x1)] 71 [.ref 2] Q)) :
    Wp 199 0 [(0, .ref 1), (1, .int x1)] [] (gE Lx) I L e Q := by
  refine w_a f_199_0 ?_
  refine w_a f_199_1 ?_
  refine w_a f_199_4 ?_
  refine w_a f_199_5 ?_
  refine w_a f_199_8 ?_
  exact w_c (ks := [0, 1]) f_199_9 rfl rfl h
set_option maxRecDepth 10000 in
set_option maxHeartbeats 4000000 in
theorem s_199_12 {Lx : Nat} {I : Mi} {L : Ml} {e : Nat} {Q : Kq} {x1 : Int32} {r : Int32} (h :
    Wp 15 0 [(0, .ref 5), (1, .int x1)] [] (gE Lx) I L e (kcp (Wp 199) 199 18 0 [(0, .ref 1), (1, .int x1)] 71 [.long r.toInt64, .ref 2] Q)) :
    Wp 199 12 [(0, .ref 1), (1, .int x1)] [.int r, .ref 2] (gE Lx) I L e Q := by
  refine w_a f_199_12 ?_
  refine w_a f_199_13 ?_
  refine w_a f_199_14 ?_
  refine w_a f_199_17 ?_
  exact w_c (ks := [0, 1]) f_199_18 rfl rfl h
set_option maxRecDepth 10000 in
set_option maxHeartbeats 4000000 in
theorem s_199_21 {Lx : Nat} {I : Mi} {L : Ml} {e : Nat} {Q : Kq} {x1 : Int32} {rl1 : Int64} {r : Int32} (h :
    Wp 72 0 [(0, .ref 2), (1, .long rl1), (3, .long r.toInt64)] [] (gE Lx) I L e (kcp (Wp 199) 199 22 0 [(0, .ref 1), (1, .int x1)] 71 [] Q)) :
    Wp 199 21 [(0, .ref 1), (1, .int x1)] [.int r, .long rl1, .ref 2] (gE Lx) I L e Q := by
  refine w_a f_199_21 ?_
  exact w_c (ks := [0, 1]) f_199_22 rfl rfl h
set_option maxRecDepth 10000 in
set_option maxHeartbeats 4000000 in
theorem s_199_25 {Lx : Nat} {I : Mi} {L : Ml} {e : Nat} {Q : Kq} {x1 : Int32} {r : Int32} (h :
    Wp 106 0 [(0, .ref 5), (1, .int x1), (2, .ref 15)] [] (gE Lx) I L e (kcp (Wp 199) 199 35 0 [(0, .ref 1), (1, .int x1), (2, .int r)] 71 [] Q)) :
    Wp 199 25 [(0, .ref 1), (1, .int x1)] [.int r] (gE Lx) I L e Q := by
  refine w_a f_199_25 ?_
  refine w_a (ls := [(2, .int r), (0, .ref 1), (1, .int x1)]) f_199_26 ?_
  refine w_a f_199_27 ?_
  refine w_a f_199_30 ?_
  refine w_a f_199_31 ?_
  refine w_a f_199_32 ?_
  exact w_c (ks := [0, 1, 2]) f_199_35 rfl rfl h
set_option maxRecDepth 10000 in
set_option maxHeartbeats 4000000 in
theorem s_199_38 {Lx : Nat} {I : Mi} {L : Ml} {e : Nat} {Q : Kq} {x1 : Int32} {x2 : Int32} (h :
    (if (x2 + (Int32.ofInt 1)) < (Int32.ofInt 184) then
     Wp 12 0 [(0, .ref 5), (1, .int x1)] [] (gE Lx) I (ul (ul (ul (ul L 16 0 (L 15 0)) 16 1 (L 15 1)) 16 2 (L 15 2)) 16 3 (L 15 3)) e (kcp (Wp 178) 178 20 0 [(0, .ref 1), (1, .int x1), (2, .int (x2 + (Int32.ofInt 1)))] 71 [.ref 16] (kcp (Wp 200) 200 3 0 [(0, .ref 1)] 71 [] (kcp (Wp 199) 199 56 0 [(0, .ref 1), (1, .int x1), (2, .int x2)] 71 [] Q)))
    else
     Wp 12 0 [(0, .ref 5), (1, .int x1)] [] (gE Lx) I (ul (ul (ul (ul L 16 0 (L 15 0)) 16 1 (L 15 1)) 16 2 (L 15 2)) 16 3 (L 15 3)) e (kcp (Wp 178) 178 20 0 [(0, .ref 1), (1, .int x1), (2, .int (Int32.ofInt 0))] 71 [.ref 16] (kcp (Wp 200) 200 3 0 [(0, .ref 1)] 71 [] (kcp (Wp 199) 199 56 0 [(0, .ref 1), (1, .int x1), (2, .int x2)] 71 [] Q))))) :
    Wp 199 38 [(0, .ref 1), (1, .int x1), (2, .int x2)] [] (gE Lx) I L e Q := by
  refine w_a f_199_38 ?_
  refine w_a f_199_39 ?_
  refine w_a f_199_40 ?_
  refine w_a f_199_41 ?_
  refine w_a f_199_42 ?_
  refine w_a f_199_43 ?_
  refine w_a f_199_46 ?_
  refine i_m (fun h => ?_) (fun h => ?_) h
  · refine w_a f_199_49 ?_
    refine w_a f_199_50 ?_
    refine w_a f_199_51 ?_
    refine w_a f_199_52 ?_
    refine w_c (ks := [0, 1, 2]) f_199_56 rfl rfl ?_
    refine w_a (ls := [(0, .ref 1), (1, .int x1), (2, .int (x2 + (Int32.ofInt 1)))]) f_200_0 ?_
    refine w_a f_200_1 ?_
    refine w_a f_200_2 ?_
    refine w_c (ks := [0]) f_200_3 rfl rfl ?_
    refine w_a (ls := [(0, .ref 1), (1, .int x1), (2, .int (x2 + (Int32.ofInt 1)))]) f_178_0 ?_
    refine w_a f_178_1 ?_
    refine w_a f_178_4 ?_
    refine w_a f_178_5 ?_
    refine w_a f_178_8 ?_
    refine w_a (ls := [(0, .ref 16), (1, .ref 15)]) f_84_0 ?_
    refine w_a f_84_1 ?_
    refine w_a f_84_2 ?_
    refine w_a f_84_5 ?_
    refine w_a f_84_8 ?_
    refine w_a f_84_9 ?_
    refine w_a f_84_10 ?_
    refine w_a f_84_13 ?_
    refine w_a f_84_16 ?_
    refine w_a f_84_17 ?_
    refine w_a f_84_18 ?_
    refine w_a f_84_21 ?_
    refine w_a f_84_24 ?_
    refine w_a f_84_25 ?_
    refine w_a f_84_26 ?_
    refine w_a f_84_29 ?_
    refine w_a f_84_32 ?_
    refine w_a (ls := [(0, .ref 1), (1, .int x1), (2, .int (x2 + (Int32.ofInt 1)))]) f_178_11 ?_
    refine w_a f_178_12 ?_
    refine w_a f_178_15 ?_
    refine w_a f_178_16 ?_
    refine w_a f_178_19 ?_
    exact w_c (ks := [0, 1, 2]) f_178_20 rfl rfl h
  · refine w_a f_199_55 ?_
    refine w_c (ks := [0, 1, 2]) f_199_56 rfl rfl ?_
    refine w_a (ls := [(0, .ref 1), (1, .int x1), (2, .int (Int32.ofInt 0))]) f_200_0 ?_
    refine w_a f_200_1 ?_
    refine w_a f_200_2 ?_
    refine w_c (ks := [0]) f_200_3 rfl rfl ?_
    refine w_a (ls := [(0, .ref 1), (1, .int x1), (2, .int (Int32.ofInt 0))]) f_178_0 ?_
    refine w_a f_178_1 ?_
    refine w_a f_178_4 ?_
    refine w_a f_178_5 ?_
    refine w_a f_178_8 ?_
    refine w_a (ls := [(0, .ref 16), (1, .ref 15)]) f_84_0 ?_
    refine w_a f_84_1 ?_
    refine w_a f_84_2 ?_
    refine w_a f_84_5 ?_
    refine w_a f_84_8 ?_
    refine w_a f_84_9 ?_
    refine w_a f_84_10 ?_
    refine w_a f_84_13 ?_
    refine w_a f_84_16 ?_
    refine w_a f_84_17 ?_
    refine w_a f_84_18 ?_
    refine w_a f_84_21 ?_
    refine w_a f_84_24 ?_
    refine w_a f_84_25 ?_
    refine w_a f_84_26 ?_
    refine w_a f_84_29 ?_
    refine w_a f_84_32 ?_
    refine w_a (ls := [(0, .ref 1), (1, .int x1), (2, .int (Int32.ofInt 0))]) f_178_11 ?_
    refine w_a f_178_12 ?_
    refine w_a f_178_15 ?_
    refine w_a f_178_16 ?_
    refine w_a f_178_19 ?_
    exact w_c (ks := [0, 1, 2]) f_178_20 rfl rfl h
set_option maxRecDepth 10000 in
set_option maxHeartbeats 4000000 in
theorem s_199_59 {Lx : Nat} {I : Mi} {L : Ml} {e : Nat} {Q : Kq} {x1 : Int32} {x2 : Int32} {r : Int32} (h :
    (if 0 < x2 then
     Wp 12 0 [(0, .ref 5), (1, .int x1)] [] (gE Lx) I (ul (ul (ul (ul L 16 0 (L 15 0)) 16 1 (L 15 1)) 16 2 (L 15 2)) 16 3 (L 15 3)) e (kcp (Wp 178) 178 20 0 [(0, .ref 1), (1, .int x1), (2, .int (x2 - (Int32.ofInt 1)))] 71 [.ref 16] (kcp (Wp 200) 200 3 0 [(0, .ref 1)] 71 [] (kcp (Wp 199) 199 75 0 [(0, .ref 1), (3, .int r)] 71 [] Q)))
    else
     Wp 12 0 [(0, .ref 5), (1, .int x1)] [] (gE Lx) I (ul (ul (ul (ul L 16 0 (L 15 0)) 16 1 (L 15 1)) 16 2 (L 15 2)) 16 3 (L 15 3)) e (kcp (Wp 178) 178 20 0 [(0, .ref 1), (1, .int x1), (2, .int (Int32.ofInt 183))] 71 [.ref 16] (kcp (Wp 200) 200 3 0 [(0, .ref 1)] 71 [] (kcp (Wp 199) 199 75 0 [(0, .ref 1), (3, .int r)] 71 [] Q))))) :
    Wp 199 59 [(0, .ref 1), (1, .int x1), (2, .int x2)] [.int r] (gE Lx) I L e Q := by
  refine w_a f_199_59 ?_
  refine w_a (ls := [(3, .int r), (0, .ref 1), (1, .int x1), (2, .int x2)]) f_199_60 ?_
  refine w_a f_199_61 ?_
  refine w_a f_199_62 ?_
  refine w_a f_199_63 ?_
  refine i_m (fun h => ?_) (fun h => ?_) h
  · refine w_a f_199_66 ?_
    refine w_a f_199_67 ?_
    refine w_a f_199_68 ?_
    refine w_a f_199_69 ?_
    refine w_c (ks := [0, 3]) f_199_75 rfl rfl ?_
    refine w_a (ls := [(0, .ref 1), (1, .int x1), (2, .int (x2 - (Int32.ofInt 1)))]) f_200_0 ?_
    refine w_a f_200_1 ?_
    refine w_a f_200_2 ?_
    refine w_c (ks := [0]) f_200_3 rfl rfl ?_
    refine w_a (ls := [(0, .ref 1), (1, .int x1), (2, .int (x2 - (Int32.ofInt 1)))]) f_178_0 ?_
    refine w_a f_178_1 ?_
    refine w_a f_178_4 ?_
    refine w_a f_178_5 ?_
    refine w_a f_178_8 ?_
    refine w_a (ls := [(0, .ref 16), (1, .ref 15)]) f_84_0 ?_
    refine w_a f_84_1 ?_
    refine w_a f_84_2 ?_
    refine w_a f_84_5 ?_
    refine w_a f_84_8 ?_
    refine w_a f_84_9 ?_
    refine w_a f_84_10 ?_
    refine w_a f_84_13 ?_
    refine w_a f_84_16 ?_
    refine w_a f_84_17 ?_
    refine w_a f_84_18 ?_
    refine w_a f_84_21 ?_
    refine w_a f_84_24 ?_
    refine w_a f_84_25 ?_
    refine w_a f_84_26 ?_
    refine w_a f_84_29 ?_
    refine w_a f_84_32 ?_
    refine w_a (ls := [(0, .ref 1), (1, .int x1), (2, .int (x2 - (Int32.ofInt 1)))]) f_178_11 ?_
    refine w_a f_178_12 ?_
    refine w_a f_178_15 ?_
    refine w_a f_178_16 ?_
    refine w_a f_178_19 ?_
    exact w_c (ks := [0, 1, 2]) f_178_20 rfl rfl h
  · refine w_a f_199_72 ?_
    refine w_c (ks := [0, 3]) f_199_75 rfl rfl ?_
    refine w_a (ls := [(0, .ref 1), (1, .int x1), (2, .int (Int32.ofInt 183))]) f_200_0 ?_
    refine w_a f_200_1 ?_
    refine w_a f_200_2 ?_
    refine w_c (ks := [0]) f_200_3 rfl rfl ?_
    refine w_a (ls := [(0, .ref 1), (1, .int x1), (2, .int (Int32.ofInt 183))]) f_178_0 ?_
    refine w_a f_178_1 ?_
    refine w_a f_178_4 ?_
    refine w_a f_178_5 ?_
    refine w_a f_178_8 ?_
    refine w_a (ls := [(0, .ref 16), (1, .ref 15)]) f_84_0 ?_
    refine w_a f_84_1 ?_
    refine w_a f_84_2 ?_
    refine w_a f_84_5 ?_
    refine w_a f_84_8 ?_
    refine w_a f_84_9 ?_
    refine w_a f_84_10 ?_
    refine w_a f_84_13 ?_
    refine w_a f_84_16 ?_
    refine w_a f_84_17 ?_
    refine w_a f_84_18 ?_
    refine w_a f_84_21 ?_
    refine w_a f_84_24 ?_
    refine w_a f_84_25 ?_
    refine w_a f_84_26 ?_
    refine w_a f_84_29 ?_
    refine w_a f_84_32 ?_
    refine w_a (ls := [(0, .ref 1), (1, .int x1), (2, .int (Int32.ofInt 183))]) f_178_11 ?_
    refine w_a f_178_12 ?_
    refine w_a f_178_15 ?_
    refine w_a f_178_16 ?_
    refine w_a f_178_19 ?_
    exact w_c (ks := [0, 1, 2]) f_178_20 rfl rfl h
set_option maxRecDepth 10000 in
set_option maxHeartbeats 4000000 in
theorem s_199_78 {Lx : Nat} {I : Mi} {L : Ml} {e : Nat} {Q : Kq} {x3 : Int32} {r : Int32} (h :
    (if r < x3 then
     Q (.inl (some (.int x3))) (gE Lx) I L e
    else
     Q (.inl (some (.int r))) (gE Lx) I L e)) :
    Wp 199 78 [(0, .ref 1), (3, .int x3)] [.int r] (gE Lx) I L e Q := by
  refine w_a f_199_78 ?_
  refine w_a (ls := [(4, .int r), (0, .ref 1), (3, .int x3)]) f_199_80 ?_
  refine w_a f_199_81 ?_
  refine w_a f_199_83 ?_
  refine i_m (fun h => ?_) (fun h => ?_) h
  · refine w_a f_199_86 ?_
    refine w_a f_199_87 ?_
    refine w_a f_199_92 ?_
    exact h
  · refine w_a f_199_90 ?_
    refine w_a f_199_92 ?_
    exact h
set_option maxRecDepth 10000 in
set_option maxHeartbeats 4000000 in
theorem s_200_6 {Lx : Nat} {I : Mi} {L : Ml} {e : Nat} {Q : Kq} (h :
    (if ((((L 16 0) + (L 16 2)) * ((L 16 0) + (L 16 2))) + (((L 16 1) + (L 16 3)) * ((L 16 1) + (L 16 3)))) = (Int64.ofInt 0) then
     Q (.inl (some (.int (Int32.ofInt 0)))) (gE Lx) I L e
    else
     (if ((((L 16 0) + (L 16 2)) * ((L 16 0) + (L 16 2))) + (((L 16 1) + (L 16 3)) * ((L 16 1) + (L 16 3)))) = 0 then False else
      Q (.inl (some (.int (((Int64.ofInt 10000) * ((((L 16 0) - (L 16 2)) * ((L 16 0) - (L 16 2))) + (((L 16 1) - (L 16 3)) * ((L 16 1) - (L 16 3))))) / ((((L 16 0) + (L 16 2)) * ((L 16 0) + (L 16 2))) + (((L 16 1) + (L 16 3)) * ((L 16 1) + (L 16 3))))).toInt32))) (gE Lx) I L e))) :
    Wp 200 6 [(0, .ref 1)] [] (gE Lx) I L e Q := by
  refine w_a f_200_6 ?_
  refine w_a f_200_7 ?_
  refine w_a f_200_10 ?_
  refine w_a (ls := [(0, .ref 16)]) f_78_0 ?_
  refine w_a f_78_1 ?_
  refine w_a f_78_4 ?_
  refine w_a f_78_5 ?_
  refine w_a f_78_8 ?_
  refine w_a f_78_9 ?_
  refine w_a (ls := [(1, .long ((L 16 0) - (L 16 2))), (0, .ref 16)]) f_78_10 ?_
  refine w_a f_78_11 ?_
  refine w_a f_78_14 ?_
  refine w_a f_78_15 ?_
  refine w_a f_78_18 ?_
  refine w_a f_78_19 ?_
  refine w_a (ls := [(3, .long ((L 16 1) - (L 16 3))), (1, .long ((L 16 0) - (L 16 2))), (0, .ref 16)]) f_78_20 ?_
  refine w_a f_78_21 ?_
  refine w_a f_78_22 ?_
  refine w_a f_78_23 ?_
  refine w_a f_78_24 ?_
  refine w_a f_78_25 ?_
  refine w_a f_78_26 ?_
  refine w_a f_78_27 ?_
  refine w_a (ls := [(0, .ref 1)]) f_200_13 ?_
  refine w_a f_200_14 ?_
  refine w_a f_200_17 ?_
  refine w_a (ls := [(0, .ref 16)]) f_79_0 ?_
  refine w_a f_79_1 ?_
  refine w_a f_79_4 ?_
  refine w_a f_79_5 ?_
  refine w_a f_79_8 ?_
  refine w_a f_79_9 ?_
  refine w_a (ls := [(1, .long ((L 16 0) + (L 16 2))), (0, .ref 16)]) f_79_10 ?_
  refine w_a f_79_11 ?_
  refine w_a f_79_14 ?_
  refine w_a f_79_15 ?_
  refine w_a f_79_18 ?_
  refine w_a f_79_19 ?_
  refine w_a (ls := [(3, .long ((L 16 1) + (L 16 3))), (1, .long ((L 16 0) + (L 16 2))), (0, .ref 16)]) f_79_20 ?_
  refine w_a f_79_21 ?_
  refine w_a f_79_22 ?_
  refine w_a f_79_23 ?_
  refine w_a f_79_24 ?_
  refine w_a f_79_25 ?_
  refine w_a f_79_26 ?_
  refine w_a f_79_27 ?_
  refine w_a (ls := [(0, .ref 1)]) f_200_20 ?_
  refine w_a (ls := [(0, .long ((((L 16 0) - (L 16 2)) * ((L 16 0) - (L 16 2))) + (((L 16 1) - (L 16 3)) * ((L 16 1) - (L 16 3))))), (2, .long ((((L 16 0) + (L 16 2)) * ((L 16 0) + (L 16 2))) + (((L 16 1) + (L 16 3)) * ((L 16 1) + (L 16 3)))))]) f_24_0 ?_
  refine w_a f_24_1 ?_
  refine w_a f_24_2 ?_
  refine i_m (fun h => ?_) (fun h => ?_) h
  · refine w_a f_24_6 ?_
    refine w_a f_24_7 ?_
    refine w_a f_24_18 ?_
    refine w_a (ls := [(0, .ref 1)]) f_200_23 ?_
    exact h
  · refine w_a f_24_10 ?_
    refine w_a f_24_13 ?_
    refine w_a f_24_14 ?_
    refine w_a f_24_15 ?_
    refine w_a f_24_16 ?_
    refine i_m id (fun h => ?_) h
    refine w_a f_24_17 ?_
    refine w_a f_24_18 ?_
    refine w_a (ls := [(0, .ref 1)]) f_200_23 ?_
    exact h
set_option maxRecDepth 10000 in
set_option maxHeartbeats 4000000 in
theorem s_201_17 {Lx : Nat} {I : Mi} {L : Ml} {e : Nat} {Q : Kq} {x1 : Int32} (h :
    (if x1 = 0 then
     Q (.inl (some (.long (I 22 0).toInt64))) (gE Lx) I L e
    else
     (if x1 = (Int32.ofInt 2) then
      Q (.inl (some (.long (L 23 1)))) (gE Lx) I L e
     else
      Q (.inl (some (.long (L 23 0)))) (gE Lx) I L e))) :
    Wp 201 17 [(0, .ref 1), (1, .int x1)] [] (gE Lx) I L e Q := by
  refine w_a f_201_17 ?_
  refine w_a f_201_18 ?_
  refine i_m (fun h => ?_) (fun h => ?_) h
  · refine w_a f_201_21 ?_
    refine w_a f_201_22 ?_
    refine w_a f_201_25 ?_
    refine w_a f_201_28 ?_
    refine w_a f_201_29 ?_
    exact h
  · refine w_a f_201_30 ?_
    refine w_a f_201_31 ?_
    refine w_a f_201_34 ?_
    refine w_a f_201_37 ?_
    refine w_a f_201_38 ?_
    refine w_a f_201_39 ?_
    refine i_m (fun h => ?_) (fun h => ?_) h
    · refine w_a f_201_42 ?_
      refine w_a f_201_43 ?_
      refine w_a f_201_47 ?_
      refine w_a (ls := [(0, .ref 23), (1, .int (Int32.ofInt 1))]) f_31_0 ?_
      refine w_a f_31_1 ?_
      refine w_a f_31_4 ?_
      refine w_a f_31_5 ?_
      refine w_a f_31_8 ?_
      refine w_a f_31_15 ?_
      refine w_a (ls := [(0, .ref 1), (1, .int x1)]) f_201_50 ?_
      exact h
    · refine w_a f_201_46 ?_
      refine w_a f_201_47 ?_
      refine w_a (ls := [(0, .ref 23), (1, .int (Int32.ofInt 0))]) f_31_0 ?_
      refine w_a f_31_1 ?_
      refine w_a f_31_11 ?_
      refine w_a f_31_12 ?_
      refine w_a f_31_15 ?_
      refine w_a (ls := [(0, .ref 1), (1, .int x1)]) f_201_50 ?_
      exact h
set_option maxRecDepth 10000 in
set_option maxHeartbeats 4000000 in
theorem s_207_0 {Lx : Nat} {I : Mi} {L : Ml} {e : Nat} {Q : Kq} {x0 : Int32} {x1 : Int32} (h :
    (if x0 < (Int32.ofInt (-12)) then
     Q (.inl (some (.int (Int32.ofInt 0)))) (gE Lx) I L e
    else
     (if (Int32.ofInt 12) < x0 then
      Q (.inl (some (.int (Int32.ofInt 0)))) (gE Lx) I L e
     else
      (if x1 < (Int32.ofInt 0) then
       Q (.inl (some (.int (Int32.ofInt 0)))) (gE Lx) I L e
      else
       (if (Int32.ofInt 12) < x1 then
        Q (.inl (some (.int (Int32.ofInt 0)))) (gE Lx) I L e
       else
        Wp 209 0 [(0, .long x0.toInt64), (2, .long x1.toInt64)] [] (gE Lx) I L e (kcp (Wp 207) 207 25 0 [(0, .int x0), (1, .int x1)] 71 [] Q)))))) :
    Wp 207 0 [(0, .int x0), (1, .int x1)] [] (gE Lx) I L e Q := by
  refine w_a f_207_0 ?_
  refine w_a f_207_1 ?_
  refine w_a f_207_3 ?_
  refine w_a f_207_5 ?_
  refine w_a (ls := [(0, .int x0), (1, .int (Int32.ofInt (-12))), (2, .int (Int32.ofInt 12))]) f_208_0 ?_
  refine w_a f_208_1 ?_
  refine w_a f_208_2 ?_
  refine i_m (fun h => ?_) (fun h => ?_) h
  · refine w_a f_208_14 ?_
    refine w_a f_208_15 ?_
    refine w_a (ls := [(0, .int x0), (1, .int x1)]) f_207_8 ?_
    refine w_a f_207_46 ?_
    refine w_a f_207_47 ?_
    exact h
  · refine w_a f_208_5 ?_
    refine w_a f_208_6 ?_
    refine w_a f_208_7 ?_
    refine i_m (fun h => ?_) (fun h => ?_) h
    · refine w_a f_208_14 ?_
      refine w_a f_208_15 ?_
      refine w_a (ls := [(0, .int x0), (1, .int x1)]) f_207_8 ?_
      refine w_a f_207_46 ?_
      refine w_a f_207_47 ?_
      exact h
    · refine w_a f_208_10 ?_
      refine w_a f_208_11 ?_
      refine w_a f_208_15 ?_
      refine w_a (ls := [(0, .int x0), (1, .int x1)]) f_207_8 ?_
      refine w_a f_207_11 ?_
      refine w_a f_207_12 ?_
      refine w_a f_207_13 ?_
      refine w_a f_207_15 ?_
      refine w_a (ls := [(0, .int x1), (1, .int (Int32.ofInt 0)), (2, .int (Int32.ofInt 12))]) f_208_0 ?_
      refine w_a f_208_1 ?_
      refine w_a f_208_2 ?_
      refine i_m (fun h => ?_) (fun h => ?_) h
      · refine w_a f_208_14 ?_
        refine w_a f_208_15 ?_
        refine w_a (ls := [(0, .int x0), (1, .int x1)]) f_207_18 ?_
        refine w_a f_207_46 ?_
        refine w_a f_207_47 ?_
        exact h
      · refine w_a f_208_5 ?_
        refine w_a f_208_6 ?_
        refine w_a f_208_7 ?_
        refine i_m (fun h => ?_) (fun h => ?_) h
        · refine w_a f_208_14 ?_
          refine w_a f_208_15 ?_
          refine w_a (ls := [(0, .int x0), (1, .int x1)]) f_207_18 ?_
          refine w_a f_207_46 ?_
          refine w_a f_207_47 ?_
          exact h
        · refine w_a f_208_10 ?_
          refine w_a f_208_11 ?_
          refine w_a f_208_15 ?_
          refine w_a (ls := [(0, .int x0), (1, .int x1)]) f_207_18 ?_
          refine w_a f_207_21 ?_
          refine w_a f_207_22 ?_
          refine w_a f_207_23 ?_
          refine w_a f_207_24 ?_
          exact w_c (ks := [0, 1]) f_207_25 rfl rfl h
set_option maxRecDepth 10000 in
set_option maxHeartbeats 4000000 in
theorem s_207_28 {Lx : Nat} {I : Mi} {L : Ml} {e : Nat} {Q : Kq} {x0 : Int32} {x1 : Int32} {rl : Int64} (h :
    (if rl = (Int64.ofInt 1) then
     (if 0 < x1 then
      Q (.inl (some (.int (Int32.ofInt 1)))) (gE Lx) I L e
     else
      (if x0 = (Int32.ofInt 1) then
       Q (.inl (some (.int (Int32.ofInt 1)))) (gE Lx) I L e
      else
       Q (.inl (some (.int (Int32.ofInt 0)))) (gE Lx) I L e))
    else
     Q (.inl (some (.int (Int32.ofInt 0)))) (gE Lx) I L e)) :
    Wp 207 28 [(0, .int x0), (1, .int x1)] [.long rl] (gE Lx) I L e Q := by
  refine w_a f_207_28 ?_
  refine w_a f_207_29 ?_
  refine i_m (fun h => ?_) (fun h => ?_) h
  · refine w_a f_207_33 ?_
    refine w_a f_207_34 ?_
    refine i_m (fun h => ?_) (fun h => ?_) h
    · refine w_a f_207_42 ?_
      refine w_a f_207_43 ?_
      refine w_a f_207_47 ?_
      exact h
    · refine w_a f_207_37 ?_
      refine w_a f_207_38 ?_
      refine w_a f_207_39 ?_
      refine i_m (fun h => ?_) (fun h => ?_) h
      · refine w_a f_207_42 ?_
        refine w_a f_207_43 ?_
        refine w_a f_207_47 ?_
        exact h
      · refine w_a f_207_46 ?_
        refine w_a f_207_47 ?_
        exact h
  · refine w_a f_207_46 ?_
    refine w_a f_207_47 ?_
    exact h
set_option maxRecDepth 10000 in
set_option maxHeartbeats 4000000 in
theorem s_209_0 {Lx : Nat} {I : Mi} {L : Ml} {e : Nat} {Q : Kq} {y0 : Int64} {y2 : Int64} (h :
    Wp 210 0 [(0, .long y0)] [] (gE Lx) I L e (kcp (Wp 209) 209 1 0 [(2, .long y2)] 71 [] Q)) :
    Wp 209 0 [(0, .long y0), (2, .long y2)] [] (gE Lx) I L e Q := by
  refine w_a f_209_0 ?_
  exact w_c (ks := [2]) f_209_1 rfl rfl h
set_option maxRecDepth 10000 in
set_option maxHeartbeats 4000000 in
theorem s_209_4 {Lx : Nat} {I : Mi} {L : Ml} {e : Nat} {Q : Kq} {y2 : Int64} {rl : Int64} (h :
    Wp 210 0 [(0, .long y2)] [] (gE Lx) I L e (kcp (Wp 209) 209 7 0 [(4, .long rl)] 71 [] Q)) :
    Wp 209 4 [(2, .long y2)] [.long rl] (gE Lx) I L e Q := by
  refine w_a f_209_4 ?_
  refine w_a (ls := [(4, .long rl), (2, .long y2)]) f_209_6 ?_
  exact w_c (ks := [4]) f_209_7 rfl rfl h
set_option maxRecDepth 10000 in
set_option maxHeartbeats 4000000 in
theorem s_209_10 {Lx : Nat} {I : Mi} {L : Ml} {e : Nat} {Q : Kq} {y4 : Int64} {rl : Int64} (h :
    Wp 209 12 [(4, .long y4), (6, .long rl)] [] (gE Lx) I L e Q) :
    Wp 209 10 [(4, .long y4)] [.long rl] (gE Lx) I L e Q := by
  refine w_a f_209_10 ?_
  exact w_n (ks := [4, 6]) rfl h
set_option maxRecDepth 10000 in
set_option maxHeartbeats 4000000 in
theorem s_209_12 {Lx : Nat} {I : Mi} {L : Ml} {e : Nat} {Q : Kq} {y4 : Int64} {y6 : Int64} (h :
    (if y6 = (Int64.ofInt 0) then
     Q (.inl (some (.long y4))) (gE Lx) I L e
    else
     (if y6 = 0 then False else
      Wp 209 12 [(4, .long y6), (6, .long (y4 - y4 / y6 * y6))] [] (gE Lx) I L e Q))) :
    Wp 209 12 [(4, .long y4), (6, .long y6)] [] (gE Lx) I L e Q := by
  refine w_a f_209_12 ?_
  refine w_a f_209_14 ?_
  refine w_a f_209_15 ?_
  refine i_m (fun h => ?_) (fun h => ?_) h
  · refine w_a f_209_37 ?_
    refine w_a f_209_39 ?_
    exact h
  · refine w_a f_209_19 ?_
    refine w_a f_209_21 ?_
    refine w_a f_209_23 ?_
    refine i_m id (fun h => ?_) h
    refine w_a f_209_24 ?_
    refine w_a (ls := [(8, .long (y4 - y4 / y6 * y6)), (4, .long y4), (6, .long y6)]) f_209_26 ?_
    refine w_a f_209_28 ?_
    refine w_a (ls := [(4, .long y6), (8, .long (y4 - y4 / y6 * y6)), (6, .long y6)]) f_209_30 ?_
    refine w_a f_209_32 ?_
    refine w_a (ls := [(6, .long (y4 - y4 / y6 * y6)), (4, .long y6), (8, .long (y4 - y4 / y6 * y6))]) f_209_34 ?_
    exact w_n (ks := [4, 6]) rfl h
set_option maxRecDepth 10000 in
set_option maxHeartbeats 4000000 in
theorem s_210_0 {Lx : Nat} {I : Mi} {L : Ml} {e : Nat} {Q : Kq} {y0 : Int64} (h :
    (if y0 < (Int64.ofInt 0) then
     Q (.inl (some (.long (-y0)))) (gE Lx) I L e
    else
     Q (.inl (some (.long y0))) (gE Lx) I L e)) :
    Wp 210 0 [(0, .long y0)] [] (gE Lx) I L e Q := by
  refine w_a f_210_0 ?_
  refine w_a f_210_1 ?_
  refine w_a f_210_2 ?_
  refine i_m (fun h => ?_) (fun h => ?_) h
  · refine w_a f_210_6 ?_
    refine w_a f_210_7 ?_
    refine w_a f_210_8 ?_
    refine w_a f_210_12 ?_
    exact h
  · refine w_a f_210_11 ?_
    refine w_a f_210_12 ?_
    exact h
set_option maxRecDepth 10000 in
set_option maxHeartbeats 4000000 in
theorem s_214_15 {Lx : Nat} {I : Mi} {L : Ml} {e : Nat} {Q : Kq} {x1 : Int32} {x2 : Int32} {x3 : Int32} {r : Int32} (h :
    (if r = 0 then
     Q (.inl (some (.int (Int32.ofInt 0)))) (gE Lx) (ui I 58 0 (Int32.ofInt 1)) L e
    else
     (if (I 59 3) = (Int32.ofInt 4) then
      Q (.inl (some (.int (Int32.ofInt 0)))) (gE Lx) (ui I 58 0 (Int32.ofInt 2)) L e
     else
      (inb ((Int32.ofInt 4) + ((Int32.ofInt 3) * (I 59 3))) 16 (
       (inb ((Int32.ofInt 5) + ((Int32.ofInt 3) * (I 59 3))) 16 (
        (inb ((Int32.ofInt 6) + ((Int32.ofInt 3) * (I 59 3))) 16 (
         Q (.inl (some (.int ((((ui (ui (ui (ui I 58 0 (Int32.ofInt 0)) 59 (((Int32.ofInt 4) + ((Int32.ofInt 3) * (I 59 3))).toNatClampNeg) x1) 59 (((Int32.ofInt 5) + ((Int32.ofInt 3) * (I 59 3))).toNatClampNeg) x2) 59 (((Int32.ofInt 6) + ((Int32.ofInt 3) * (I 59 3))).toNatClampNeg) x3) 59 3) + (Int32.ofInt 1)) - (Int32.ofInt 1))))) (gE Lx) (ui (ui (ui (ui (ui I 58 0 (Int32.ofInt 0)) 59 (((Int32.ofInt 4) + ((Int32.ofInt 3) * (I 59 3))).toNatClampNeg) x1) 59 (((Int32.ofInt 5) + ((Int32.ofInt 3) * (I 59 3))).toNatClampNeg) x2) 59 (((Int32.ofInt 6) + ((Int32.ofInt 3) * (I 59 3))).toNatClampNeg) x3) 59 3 (((ui (ui (ui (ui I 58 0 (Int32.ofInt 0)) 59 (((Int32.ofInt 4) + ((Int32.ofInt 3) * (I 59 3))).toNatClampNeg) x1) 59 (((Int32.ofInt 5) + ((Int32.ofInt 3) * (I 59 3))).toNatClampNeg) x2) 59 (((Int32.ofInt 6) + ((Int32.ofInt 3) * (I 59 3))).toNatClampNeg) x3) 59 3) + (Int32.ofInt 1))) L e)
        False))
       False))
      False)))) :
    Wp 214 15 [(0, .ref 58), (1, .int x1), (2, .int x2), (3, .int x3)] [.int r, .ref 58] (gE Lx) I L e Q := by
  refine w_a f_214_15 ?_
  refine i_m (fun h => ?_) (fun h => ?_) h
  · refine w_a f_214_18 ?_
    refine w_a f_214_19 ?_
    refine w_a f_214_35 ?_
    refine w_a f_214_38 ?_
    refine w_a f_214_39 ?_
    refine w_a f_214_42 ?_
    refine w_a f_214_45 ?_
    refine w_a f_214_46 ?_
    exact h
  · refine w_a f_214_22 ?_
    refine w_a f_214_23 ?_
    refine w_a (ls := [(0, .ref 58)]) f_215_0 ?_
    refine w_a f_215_1 ?_
    refine w_a f_215_4 ?_
    refine w_a f_215_5 ?_
    refine w_a f_215_6 ?_
    refine w_a (ls := [(0, .ref 58), (1, .int x1), (2, .int x2), (3, .int x3)]) f_214_26 ?_
    refine w_a f_214_27 ?_
    refine i_m (fun h => ?_) (fun h => ?_) h
    · refine w_a f_214_30 ?_
      refine w_a f_214_31 ?_
      refine w_a f_214_35 ?_
      refine w_a f_214_38 ?_
      refine w_a f_214_39 ?_
      refine w_a f_214_42 ?_
      refine w_a f_214_45 ?_
      refine w_a f_214_46 ?_
      exact h
    · refine w_a f_214_34 ?_
      refine w_a f_214_35 ?_
      refine w_a f_214_38 ?_
      refine w_a f_214_39 ?_
      refine w_a f_214_42 ?_
      refine w_a f_214_47 ?_
      refine w_a f_214_48 ?_
      refine w_a f_214_49 ?_
      refine w_a (ls := [(0, .ref 58)]) f_215_0 ?_
      refine w_a f_215_1 ?_
      refine w_a f_215_4 ?_
      refine w_a f_215_5 ?_
      refine w_a f_215_6 ?_
      refine w_a (ls := [(0, .ref 58), (1, .int x1), (2, .int x2), (3, .int x3)]) f_214_52 ?_
      refine w_a f_214_53 ?_
      refine w_a f_214_54 ?_
      refine w_a f_214_55 ?_
      refine w_a (ls := [(0, .ref 58), (1, .int (I 59 3)), (2, .int x1), (3, .int x2), (4, .int x3)]) f_216_0 ?_
      refine w_a f_216_1 ?_
      refine w_a f_216_4 ?_
      refine w_a f_216_5 ?_
      refine w_a f_216_6 ?_
      refine w_a f_216_7 ?_
      refine w_a f_216_8 ?_
      refine w_a f_216_9 ?_
      refine w_a f_216_10 ?_
      refine n_m (fun h => ?_) h
      refine w_a f_216_11 ?_
      refine w_a f_216_12 ?_
      refine w_a f_216_15 ?_
      refine w_a f_216_16 ?_
      refine w_a f_216_17 ?_
      refine w_a f_216_18 ?_
      refine w_a f_216_19 ?_
      refine w_a f_216_20 ?_
      refine w_a f_216_21 ?_
      refine n_m (fun h => ?_) h
      refine w_a f_216_22 ?_
      refine w_a f_216_23 ?_
      refine w_a f_216_26 ?_
      refine w_a f_216_28 ?_
      refine w_a f_216_29 ?_
      refine w_a f_216_30 ?_
      refine w_a f_216_31 ?_
      refine w_a f_216_32 ?_
      refine w_a f_216_34 ?_
      refine n_m (fun h => ?_) h
      refine w_a f_216_35 ?_
      refine w_a (ls := [(0, .ref 58), (1, .int x1), (2, .int x2), (3, .int x3)]) f_214_58 ?_
      refine w_a f_214_59 ?_
      refine w_a f_214_62 ?_
      refine w_a f_214_63 ?_
      refine w_a f_214_64 ?_
      refine w_a f_214_65 ?_
      refine w_a f_214_66 ?_
      refine w_a f_214_67 ?_
      refine w_a f_214_68 ?_
      refine w_a f_214_69 ?_
      refine w_a (ls := [(0, .ref 58)]) f_215_0 ?_
      refine w_a f_215_1 ?_
      refine w_a f_215_4 ?_
      refine w_a f_215_5 ?_
      refine w_a f_215_6 ?_
      refine w_a (ls := [(0, .ref 58), (1, .int x1), (2, .int x2), (3, .int x3)]) f_214_72 ?_
      refine w_a f_214_73 ?_
      refine w_a f_214_74 ?_
      exact h
set_option maxRecDepth 10000 in
set_option maxHeartbeats 4000000 in
theorem s_218_18 {Lx : Nat} {I : Mi} {L : Ml} {e : Nat} {Q : Kq} {x1 : Int32} {x2 : Int32} {x3 : Int32} {r : Int32} (h :
    (if r = 0 then
     Q (.inl (some (.int (Int32.ofInt 0)))) (gE Lx) (ui I 58 0 (Int32.ofInt 2)) L e
    else
     Wp 220 0 [(0, .ref 58), (1, .int x1)] [] (gE Lx) (ui I 58 0 (Int32.ofInt 0)) L e (kcp (Wp 218) 218 42 0 [(0, .ref 58), (2, .int x2), (3, .int x3)] 71 [.int x1, .ref 58] Q))) :
    Wp 218 18 [(0, .ref 58), (1, .int x1), (2, .int x2), (3, .int x3)] [.int r, .ref 58] (gE Lx) I L e Q := by
  refine w_a f_218_18 ?_
  refine i_m (fun h => ?_) (fun h => ?_) h
  · refine w_a f_218_21 ?_
    refine w_a f_218_22 ?_
    refine w_a f_218_26 ?_
    refine w_a f_218_29 ?_
    refine w_a f_218_30 ?_
    refine w_a f_218_33 ?_
    refine w_a f_218_36 ?_
    refine w_a f_218_37 ?_
    exact h
  · refine w_a f_218_25 ?_
    refine w_a f_218_26 ?_
    refine w_a f_218_29 ?_
    refine w_a f_218_30 ?_
    refine w_a f_218_33 ?_
    refine w_a f_218_38 ?_
    refine w_a f_218_39 ?_
    refine w_a f_218_40 ?_
    refine w_a f_218_41 ?_
    exact w_c (ks := [0, 2, 3]) f_218_42 rfl rfl h
set_option maxRecDepth 10000 in
set_option maxHeartbeats 4000000 in
theorem s_218_45 {Lx : Nat} {I : Mi} {L : Ml} {e : Nat} {Q : Kq} {x2 : Int32} {x3 : Int32} {r1 : Int32} {r : Int32} (h :
    (inb ((Int32.ofInt 4) + ((Int32.ofInt 3) * r1)) 16 (
     (inb ((Int32.ofInt 5) + ((Int32.ofInt 3) * r1)) 16 (
      (inb ((Int32.ofInt 6) + ((Int32.ofInt 3) * r1)) 16 (
       Q (.inl (some (.int (Int32.ofInt 0)))) (gE Lx) (ui (ui (ui I 59 (((Int32.ofInt 4) + ((Int32.ofInt 3) * r1)).toNatClampNeg) r) 59 (((Int32.ofInt 5) + ((Int32.ofInt 3) * r1)).toNatClampNeg) x2) 59 (((Int32.ofInt 6) + ((Int32.ofInt 3) * r1)).toNatClampNeg) x3) L e)
      False))
     False))
    False)) :
    Wp 218 45 [(0, .ref 58), (2, .int x2), (3, .int x3)] [.int r, .int r1, .ref 58] (gE Lx) I L e Q := by
  refine w_a f_218_45 ?_
  refine w_a f_218_46 ?_
  refine w_a f_218_47 ?_
  refine w_a (ls := [(0, .ref 58), (1, .int r1), (2, .int r), (3, .int x2), (4, .int x3)]) f_216_0 ?_
  refine w_a f_216_1 ?_
  refine w_a f_216_4 ?_
  refine w_a f_216_5 ?_
  refine w_a f_216_6 ?_
  refine w_a f_216_7 ?_
  refine w_a f_216_8 ?_
  refine w_a f_216_9 ?_
  refine w_a f_216_10 ?_
  refine n_m (fun h => ?_) h
  refine w_a f_216_11 ?_
  refine w_a f_216_12 ?_
  refine w_a f_216_15 ?_
  refine w_a f_216_16 ?_
  refine w_a f_216_17 ?_
  refine w_a f_216_18 ?_
  refine w_a f_216_19 ?_
  refine w_a f_216_20 ?_
  refine w_a f_216_21 ?_
  refine n_m (fun h => ?_) h
  refine w_a f_216_22 ?_
  refine w_a f_216_23 ?_
  refine w_a f_216_26 ?_
  refine w_a f_216_28 ?_
  refine w_a f_216_29 ?_
  refine w_a f_216_30 ?_
  refine w_a f_216_31 ?_
  refine w_a f_216_32 ?_
  refine w_a f_216_34 ?_
  refine n_m (fun h => ?_) h
  refine w_a f_216_35 ?_
  refine w_a (ls := [(0, .ref 58), (2, .int x2), (3, .int x3)]) f_218_50 ?_
  refine w_a f_218_51 ?_
  exact h
set_option maxRecDepth 10000 in
set_option maxHeartbeats 4000000 in
theorem s_220_0 {Lx : Nat} {I : Mi} {L : Ml} {e : Nat} {Q : Kq} {x1 : Int32} (h :
    (inb ((Int32.ofInt 4) + ((Int32.ofInt 3) * x1)) 16 (
     Q (.inl (some (.int (I 59 (((Int32.ofInt 4) + ((Int32.ofInt 3) * x1)).toNatClampNeg))))) (gE Lx) I L e)
    False)) :
    Wp 220 0 [(0, .ref 58), (1, .int x1)] [] (gE Lx) I L e Q := by
  refine w_a f_220_0 ?_
  refine w_a f_220_1 ?_
  refine w_a f_220_4 ?_
  refine w_a f_220_5 ?_
  refine w_a f_220_6 ?_
  refine w_a f_220_7 ?_
  refine w_a f_220_8 ?_
  refine w_a f_220_9 ?_
  refine n_m (fun h => ?_) h
  refine w_a f_220_10 ?_
  exact h
set_option maxRecDepth 10000 in
set_option maxHeartbeats 4000000 in
theorem s_222_50 {Lx : Nat} {I : Mi} {L : Ml} {e : Nat} {Q : Kq} {r : Int32} (h :
    Wp 222 71 [(0, .ref 58)] [.int r] (gE Lx) I L e Q) :
    Wp 222 50 [(0, .ref 58)] [.int r] (gE Lx) I L e Q := by
  refine w_a f_222_50 ?_
  exact w_n (ks := [0]) rfl h
set_option maxRecDepth 10000 in
set_option maxHeartbeats 4000000 in
theorem s_222_63 {Lx : Nat} {I : Mi} {L : Ml} {e : Nat} {Q : Kq} {r : Int32} (h :
    Wp 222 71 [(0, .ref 58)] [.int r] (gE Lx) I L e Q) :
    Wp 222 63 [(0, .ref 58)] [.int r] (gE Lx) I L e Q := by
  refine w_a f_222_63 ?_
  exact w_n (ks := [0]) rfl h
set_option maxRecDepth 10000 in
set_option maxHeartbeats 4000000 in
theorem s_222_71 {Lx : Nat} {I : Mi} {L : Ml} {e : Nat} {Q : Kq} {r : Int32} (h :
    Q (.inl (some (.int r))) (gE Lx) I L e) :
    Wp 222 71 [(0, .ref 58)] [.int r] (gE Lx) I L e Q := by
  refine w_a f_222_71 ?_
  exact h
set_option maxRecDepth 10000 in
set_option maxHeartbeats 4000000 in
theorem s_223_0 {Lx : Nat} {I : Mi} {L : Ml} {e : Nat} {Q : Kq} {x1 : Int32} (h :
    (inb ((Int32.ofInt 5) + ((Int32.ofInt 3) * x1)) 16 (
     Q (.inl (some (.int (I 59 (((Int32.ofInt 5) + ((Int32.ofInt 3) * x1)).toNatClampNeg))))) (gE Lx) I L e)
    False)) :
    Wp 223 0 [(0, .ref 58), (1, .int x1)] [] (gE Lx) I L e Q := by
  refine w_a f_223_0 ?_
  refine w_a f_223_1 ?_
  refine w_a f_223_4 ?_
  refine w_a f_223_5 ?_
  refine w_a f_223_6 ?_
  refine w_a f_223_7 ?_
  refine w_a f_223_8 ?_
  refine w_a f_223_9 ?_
  refine n_m (fun h => ?_) h
  refine w_a f_223_10 ?_
  exact h
set_option maxRecDepth 10000 in
set_option maxHeartbeats 4000000 in
theorem s_224_0 {Lx : Nat} {I : Mi} {L : Ml} {e : Nat} {Q : Kq} {x1 : Int32} (h :
    (inb ((Int32.ofInt 6) + ((Int32.ofInt 3) * x1)) 16 (
     Q (.inl (some (.int (I 59 (((Int32.ofInt 6) + ((Int32.ofInt 3) * x1)).toNatClampNeg))))) (gE Lx) I L e)
    False)) :
    Wp 224 0 [(0, .ref 58), (1, .int x1)] [] (gE Lx) I L e Q := by
  refine w_a f_224_0 ?_
  refine w_a f_224_1 ?_
  refine w_a f_224_4 ?_
  refine w_a f_224_6 ?_
  refine w_a f_224_7 ?_
  refine w_a f_224_8 ?_
  refine w_a f_224_9 ?_
  refine w_a f_224_10 ?_
  refine n_m (fun h => ?_) h
  refine w_a f_224_11 ?_
  exact h
set_option maxRecDepth 10000 in
set_option maxHeartbeats 4000000 in
theorem s_225_31 {Lx : Nat} {I : Mi} {L : Ml} {e : Nat} {Q : Kq} {x2 : Int32} {x3 : Int32} (h :
    (if (L 58 12) = (Int64.ofInt 0) then
     (if (L 58 13) = (Int64.ofInt 0) then
      Q (.inl (some (.long (Int64.ofInt 0)))) (gE Lx) (ui I 58 0 (Int32.ofInt 2)) L e
     else
      (if x2 = 0 then
       Wp 236 0 [(0, .ref 58), (1, .long (((L 58 10) * (L 58 12)) + ((L 58 11) * (L 58 13)))), (3, .long (((L 58 12) * (L 58 12)) + ((L 58 13) * (L 58 13))))] [] (gE Lx) (ui I 58 0 (Int32.ofInt 0)) L e (kcp (Wp 225) 225 117 0 [(0, .ref 58), (3, .int x3)] 71 [] Q)
      else
       Wp 236 0 [(0, .ref 58), (1, .long (((L 58 11) * (L 58 12)) - ((L 58 10) * (L 58 13)))), (3, .long (((L 58 12) * (L 58 12)) + ((L 58 13) * (L 58 13))))] [] (gE Lx) (ui I 58 0 (Int32.ofInt 0)) L e (kcp (Wp 225) 225 117 0 [(0, .ref 58), (3, .int x3)] 71 [] Q)))
    else
     (if x2 = 0 then
      Wp 236 0 [(0, .ref 58), (1, .long (((L 58 10) * (L 58 12)) + ((L 58 11) * (L 58 13)))), (3, .long (((L 58 12) * (L 58 12)) + ((L 58 13) * (L 58 13))))] [] (gE Lx) (ui I 58 0 (Int32.ofInt 0)) L e (kcp (Wp 225) 225 117 0 [(0, .ref 58), (3, .int x3)] 71 [] Q)
     else
      Wp 236 0 [(0, .ref 58), (1, .long (((L 58 11) * (L 58 12)) - ((L 58 10) * (L 58 13)))), (3, .long (((L 58 12) * (L 58 12)) + ((L 58 13) * (L 58 13))))] [] (gE Lx) (ui I 58 0 (Int32.ofInt 0)) L e (kcp (Wp 225) 225 117 0 [(0, .ref 58), (3, .int x3)] 71 [] Q)))) :
    Wp 225 31 [(0, .ref 58), (2, .int x2), (3, .int x3)] [] (gE Lx) I L e Q := by
  refine w_a f_225_31 ?_
  refine w_a f_225_32 ?_
  refine w_a f_225_33 ?_
  refine w_a (ls := [(0, .ref 58)]) f_234_0 ?_
  refine w_a f_234_1 ?_
  refine w_a f_234_4 ?_
  refine w_a f_234_5 ?_
  refine i_m (fun h => ?_) (fun h => ?_) h
  · refine w_a f_234_9 ?_
    refine w_a f_234_10 ?_
    refine w_a f_234_13 ?_
    refine w_a f_234_14 ?_
    refine i_m (fun h => ?_) (fun h => ?_) h
    · refine w_a f_234_18 ?_
      refine w_a f_234_19 ?_
      refine w_a f_234_23 ?_
      refine w_a (ls := [(0, .ref 58), (2, .int x2), (3, .int x3)]) f_225_36 ?_
      refine w_a f_225_39 ?_
      refine w_a f_225_40 ?_
      refine w_a f_225_44 ?_
      refine w_a f_225_47 ?_
      refine w_a f_225_48 ?_
      refine w_a f_225_51 ?_
      refine w_a f_225_54 ?_
      refine w_a f_225_55 ?_
      exact h
    · refine w_a f_234_22 ?_
      refine w_a f_234_23 ?_
      refine w_a (ls := [(0, .ref 58), (2, .int x2), (3, .int x3)]) f_225_36 ?_
      refine w_a f_225_43 ?_
      refine w_a f_225_44 ?_
      refine w_a f_225_47 ?_
      refine w_a f_225_48 ?_
      refine w_a f_225_51 ?_
      refine w_a f_225_56 ?_
      refine w_a f_225_57 ?_
      refine i_m (fun h => ?_) (fun h => ?_) h
      · refine w_a f_225_82 ?_
        refine w_a f_225_83 ?_
        refine w_a f_225_86 ?_
        refine w_a f_225_87 ?_
        refine w_a f_225_90 ?_
        refine w_a f_225_91 ?_
        refine w_a f_225_92 ?_
        refine w_a f_225_95 ?_
        refine w_a f_225_96 ?_
        refine w_a f_225_99 ?_
        refine w_a f_225_100 ?_
        refine w_a f_225_101 ?_
        refine w_a (ls := [(4, .long (((L 58 10) * (L 58 12)) + ((L 58 11) * (L 58 13)))), (0, .ref 58), (2, .int x2), (3, .int x3)]) f_225_103 ?_
        refine w_a f_225_104 ?_
        refine w_a f_225_106 ?_
        refine w_a f_225_107 ?_
        refine w_a f_225_110 ?_
        refine w_a f_225_111 ?_
        refine w_a f_225_114 ?_
        refine w_a (ls := [(0, .long (L 58 12)), (2, .long (L 58 13))]) f_235_0 ?_
        refine w_a f_235_1 ?_
        refine w_a f_235_2 ?_
        refine w_a f_235_3 ?_
        refine w_a f_235_4 ?_
        refine w_a f_235_5 ?_
        refine w_a f_235_6 ?_
        refine w_a f_235_7 ?_
        exact w_c (ls := [(4, .long (((L 58 10) * (L 58 12)) + ((L 58 11) * (L 58 13)))), (0, .ref 58), (2, .int x2), (3, .int x3)]) (ks := [0, 3]) f_225_117 rfl rfl h
      · refine w_a f_225_60 ?_
        refine w_a f_225_61 ?_
        refine w_a f_225_64 ?_
        refine w_a f_225_65 ?_
        refine w_a f_225_68 ?_
        refine w_a f_225_69 ?_
        refine w_a f_225_70 ?_
        refine w_a f_225_73 ?_
        refine w_a f_225_74 ?_
        refine w_a f_225_77 ?_
        refine w_a f_225_78 ?_
        refine w_a f_225_79 ?_
        refine w_a f_225_101 ?_
        refine w_a (ls := [(4, .long (((L 58 11) * (L 58 12)) - ((L 58 10) * (L 58 13)))), (0, .ref 58), (2, .int x2), (3, .int x3)]) f_225_103 ?_
        refine w_a f_225_104 ?_
        refine w_a f_225_106 ?_
        refine w_a f_225_107 ?_
        refine w_a f_225_110 ?_
        refine w_a f_225_111 ?_
        refine w_a f_225_114 ?_
        refine w_a (ls := [(0, .long (L 58 12)), (2, .long (L 58 13))]) f_235_0 ?_
        refine w_a f_235_1 ?_
        refine w_a f_235_2 ?_
        refine w_a f_235_3 ?_
        refine w_a f_235_4 ?_
        refine w_a f_235_5 ?_
        refine w_a f_235_6 ?_
        refine w_a f_235_7 ?_
        exact w_c (ls := [(4, .long (((L 58 11) * (L 58 12)) - ((L 58 10) * (L 58 13)))), (0, .ref 58), (2, .int x2), (3, .int x3)]) (ks := [0, 3]) f_225_117 rfl rfl h
  · refine w_a f_234_22 ?_
    refine w_a f_234_23 ?_
    refine w_a (ls := [(0, .ref 58), (2, .int x2), (3, .int x3)]) f_225_36 ?_
    refine w_a f_225_43 ?_
    refine w_a f_225_44 ?_
    refine w_a f_225_47 ?_
    refine w_a f_225_48 ?_
    refine w_a f_225_51 ?_
    refine w_a f_225_56 ?_
    refine w_a f_225_57 ?_
    refine i_m (fun h => ?_) (fun h => ?_) h
    · refine w_a f_225_82 ?_
      refine w_a f_225_83 ?_
      refine w_a f_225_86 ?_
      refine w_a f_225_87 ?_
      refine w_a f_225_90 ?_
      refine w_a f_225_91 ?_
      refine w_a f_225_92 ?_
      refine w_a f_225_95 ?_
      refine w_a f_225_96 ?_
      refine w_a f_225_99 ?_
      refine w_a f_225_100 ?_
      refine w_a f_225_101 ?_
      refine w_a (ls := [(4, .long (((L 58 10) * (L 58 12)) + ((L 58 11) * (L 58 13)))), (0, .ref 58), (2, .int x2), (3, .int x3)]) f_225_103 ?_
      refine w_a f_225_104 ?_
      refine w_a f_225_106 ?_
      refine w_a f_225_107 ?_
      refine w_a f_225_110 ?_
      refine w_a f_225_111 ?_
      refine w_a f_225_114 ?_
      refine w_a (ls := [(0, .long (L 58 12)), (2, .long (L 58 13))]) f_235_0 ?_
      refine w_a f_235_1 ?_
      refine w_a f_235_2 ?_
      refine w_a f_235_3 ?_
      refine w_a f_235_4 ?_
      refine w_a f_235_5 ?_
      refine w_a f_235_6 ?_
      refine w_a f_235_7 ?_
      exact w_c (ls := [(4, .long (((L 58 10) * (L 58 12)) + ((L 58 11) * (L 58 13)))), (0, .ref 58), (2, .int x2), (3, .int x3)]) (ks := [0, 3]) f_225_117 rfl rfl h
    · refine w_a f_225_60 ?_
      refine w_a f_225_61 ?_
      refine w_a f_225_64 ?_
      refine w_a f_225_65 ?_
      refine w_a f_225_68 ?_
      refine w_a f_225_69 ?_
      refine w_a f_225_70 ?_
      refine w_a f_225_73 ?_
      refine w_a f_225_74 ?_
      refine w_a f_225_77 ?_
      refine w_a f_225_78 ?_
      refine w_a f_225_79 ?_
      refine w_a f_225_101 ?_
      refine w_a (ls := [(4, .long (((L 58 11) * (L 58 12)) - ((L 58 10) * (L 58 13)))), (0, .ref 58), (2, .int x2), (3, .int x3)]) f_225_103 ?_
      refine w_a f_225_104 ?_
      refine w_a f_225_106 ?_
      refine w_a f_225_107 ?_
      refine w_a f_225_110 ?_
      refine w_a f_225_111 ?_
      refine w_a f_225_114 ?_
      refine w_a (ls := [(0, .long (L 58 12)), (2, .long (L 58 13))]) f_235_0 ?_
      refine w_a f_235_1 ?_
      refine w_a f_235_2 ?_
      refine w_a f_235_3 ?_
      refine w_a f_235_4 ?_
      refine w_a f_235_5 ?_
      refine w_a f_235_6 ?_
      refine w_a f_235_7 ?_
      exact w_c (ls := [(4, .long (((L 58 11) * (L 58 12)) - ((L 58 10) * (L 58 13)))), (0, .ref 58), (2, .int x2), (3, .int x3)]) (ks := [0, 3]) f_225_117 rfl rfl h
set_option maxRecDepth 10000 in
set_option maxHeartbeats 4000000 in
theorem s_225_120 {Lx : Nat} {I : Mi} {L : Ml} {e : Nat} {Q : Kq} {x3 : Int32} (h :
    (if x3 = 0 then
     Q (.inl (some (.long (L 58 8)))) (gE Lx) I L e
    else
     Q (.inl (some (.long (L 58 9)))) (gE Lx) I L e)) :
    Wp 225 120 [(0, .ref 58), (3, .int x3)] [] (gE Lx) I L e Q := by
  refine w_a f_225_120 ?_
  refine w_a f_225_121 ?_
  refine w_a f_225_122 ?_
  refine w_a (ls := [(0, .ref 58), (1, .int x3)]) f_237_0 ?_
  refine w_a f_237_1 ?_
  refine i_m (fun h => ?_) (fun h => ?_) h
  · refine w_a f_237_11 ?_
    refine w_a f_237_12 ?_
    refine w_a f_237_15 ?_
    refine w_a (ls := [(0, .ref 58), (3, .int x3)]) f_225_125 ?_
    exact h
  · refine w_a f_237_4 ?_
    refine w_a f_237_5 ?_
    refine w_a f_237_8 ?_
    refine w_a f_237_15 ?_
    refine w_a (ls := [(0, .ref 58), (3, .int x3)]) f_225_125 ?_
    exact h
set_option maxRecDepth 10000 in
set_option maxHeartbeats 4000000 in
theorem s_227_0 {Lx : Nat} {I : Mi} {L : Ml} {e : Nat} {Q : Kq} {x1 : Int32} (h :
    Wp 228 0 [(0, .ref 58), (1, .long (I 59 0).toInt64), (3, .long (I 59 1).toInt64), (5, .long (I 59 2).toInt64), (7, .long (Int64.ofInt 0))] [] (gE Lx) I L e (kcp (Wp 227) 227 23 0 [(0, .ref 58), (1, .int x1)] 71 [] Q)) :
    Wp 227 0 [(0, .ref 58), (1, .int x1)] [] (gE Lx) I L e Q := by
  refine w_a f_227_0 ?_
  refine w_a f_227_1 ?_
  refine w_a f_227_2 ?_
  refine w_a f_227_5 ?_
  refine w_a f_227_6 ?_
  refine w_a f_227_7 ?_
  refine w_a f_227_8 ?_
  refine w_a f_227_9 ?_
  refine w_a f_227_12 ?_
  refine w_a f_227_13 ?_
  refine w_a f_227_14 ?_
  refine w_a f_227_15 ?_
  refine w_a f_227_16 ?_
  refine w_a f_227_19 ?_
  refine w_a f_227_20 ?_
  refine w_a f_227_21 ?_
  refine w_a f_227_22 ?_
  exact w_c (ks := [0, 1]) f_227_23 rfl rfl h
set_option maxRecDepth 10000 in
set_option maxHeartbeats 4000000 in
theorem s_227_26 {Lx : Nat} {I : Mi} {L : Ml} {e : Nat} {Q : Kq} {x1 : Int32} (h :
    Wp 227 28 [(0, .ref 58), (1, .int x1), (2, .int (Int32.ofInt 0))] [] (gE Lx) I L e Q) :
    Wp 227 26 [(0, .ref 58), (1, .int x1)] [] (gE Lx) I L e Q := by
  refine w_a f_227_26 ?_
  refine w_a f_227_27 ?_
  exact w_n (ks := [0, 1, 2]) rfl h
set_option maxRecDepth 10000 in
set_option maxHeartbeats 4000000 in
theorem s_227_28 {Lx : Nat} {I : Mi} {L : Ml} {e : Nat} {Q : Kq} {x1 : Int32} {x2 : Int32} (h :
    (if x2 < x1 then
     Wp 220 0 [(0, .ref 58), (1, .int x2)] [] (gE Lx) I L e (kcp (Wp 227) 227 36 0 [(0, .ref 58), (1, .int x1), (2, .int x2)] 71 [.ref 58] Q)
    else
     Q (.inl none) (gE Lx) I L e)) :
    Wp 227 28 [(0, .ref 58), (1, .int x1), (2, .int x2)] [] (gE Lx) I L e Q := by
  refine w_a f_227_28 ?_
  refine w_a f_227_29 ?_
  refine w_a f_227_30 ?_
  refine i_m (fun h => ?_) (fun h => ?_) h
  · refine w_a f_227_33 ?_
    refine w_a f_227_34 ?_
    refine w_a f_227_35 ?_
    exact w_c (ks := [0, 1, 2]) f_227_36 rfl rfl h
  · refine w_a f_227_60 ?_
    exact h
set_option maxRecDepth 10000 in
set_option maxHeartbeats 4000000 in
theorem s_227_39 {Lx : Nat} {I : Mi} {L : Ml} {e : Nat} {Q : Kq} {x1 : Int32} {x2 : Int32} {r : Int32} (h :
    Wp 223 0 [(0, .ref 58), (1, .int x2)] [] (gE Lx) I L e (kcp (Wp 227) 227 41 0 [(0, .ref 58), (1, .int x1), (2, .int x2)] 71 [.int r, .ref 58] Q)) :
    Wp 227 39 [(0, .ref 58), (1, .int x1), (2, .int x2)] [.int r, .ref 58] (gE Lx) I L e Q := by
  refine w_a f_227_39 ?_
  refine w_a f_227_40 ?_
  exact w_c (ks := [0, 1, 2]) f_227_41 rfl rfl h
set_option maxRecDepth 10000 in
set_option maxHeartbeats 4000000 in
theorem s_227_44 {Lx : Nat} {I : Mi} {L : Ml} {e : Nat} {Q : Kq} {x1 : Int32} {x2 : Int32} {r1 : Int32} {r : Int32} (h :
    Wp 224 0 [(0, .ref 58), (1, .int x2)] [] (gE Lx) I L e (kcp (Wp 227) 227 47 0 [(0, .ref 58), (1, .int x1), (2, .int x2)] 71 [.long r.toInt64, .int r1, .ref 58] Q)) :
    Wp 227 44 [(0, .ref 58), (1, .int x1), (2, .int x2)] [.int r, .int r1, .ref 58] (gE Lx) I L e Q := by
  refine w_a f_227_44 ?_
  refine w_a f_227_45 ?_
  refine w_a f_227_46 ?_
  exact w_c (ks := [0, 1, 2]) f_227_47 rfl rfl h
set_option maxRecDepth 10000 in
set_option maxHeartbeats 4000000 in
theorem s_227_50 {Lx : Nat} {I : Mi} {L : Ml} {e : Nat} {Q : Kq} {x1 : Int32} {x2 : Int32} {r1 : Int32} {rl2 : Int64} {r : Int32} (h :
    Wp 229 0 [(0, .ref 58), (1, .int r1), (2, .long rl2), (4, .long r.toInt64)] [] (gE Lx) I L e (kcp (Wp 227) 227 51 0 [(0, .ref 58), (1, .int x1), (2, .int x2)] 71 [] Q)) :
    Wp 227 50 [(0, .ref 58), (1, .int x1), (2, .int x2)] [.int r, .long rl2, .int r1, .ref 58] (gE Lx) I L e Q := by
  refine w_a f_227_50 ?_
  exact w_c (ks := [0, 1, 2]) f_227_51 rfl rfl h
set_option maxRecDepth 10000 in
set_option maxHeartbeats 4000000 in
theorem s_227_54 {Lx : Nat} {I : Mi} {L : Ml} {e : Nat} {Q : Kq} {x1 : Int32} {x2 : Int32} (h :
    Wp 227 28 [(0, .ref 58), (1, .int x1), (2, .int (x2 + Int32.ofInt 1))] [] (gE Lx) I L e Q) :
    Wp 227 54 [(0, .ref 58), (1, .int x1), (2, .int x2)] [] (gE Lx) I L e Q := by
  refine w_a f_227_54 ?_
  refine w_a (ls := [(2, .int (x2 + Int32.ofInt 1)), (0, .ref 58), (1, .int x1)]) f_227_57 ?_
  exact w_n (ks := [0, 1, 2]) rfl h
set_option maxRecDepth 10000 in
set_option maxHeartbeats 4000000 in
theorem s_228_0 {Lx : Nat} {I : Mi} {L : Ml} {e : Nat} {Q : Kq} {y1 : Int64} {y3 : Int64} {y5 : Int64} {y7 : Int64} (h :
    Wp 209 0 [(0, .long y1), (2, .long y3)] [] (gE Lx) I L e (kcp (Wp 228) 228 2 0 [(0, .ref 58), (1, .long y1), (3, .long y3), (5, .long y5), (7, .long y7)] 71 [] Q)) :
    Wp 228 0 [(0, .ref 58), (1, .long y1), (3, .long y3), (5, .long y5), (7, .long y7)] [] (gE Lx) I L e Q := by
  refine w_a f_228_0 ?_
  refine w_a f_228_1 ?_
  exact w_c (ks := [0, 1, 3, 5, 7]) f_228_2 rfl rfl h
set_option maxRecDepth 10000 in
set_option maxHeartbeats 4000000 in
theorem s_228_5 {Lx : Nat} {I : Mi} {L : Ml} {e : Nat} {Q : Kq} {y1 : Int64} {y3 : Int64} {y5 : Int64} {y7 : Int64} {rl : Int64} (h :
    Wp 209 0 [(0, .long y5), (2, .long y7)] [] (gE Lx) I L e (kcp (Wp 228) 228 9 0 [(0, .ref 58), (1, .long y1), (3, .long y3), (5, .long y5), (7, .long y7)] 71 [.long rl] Q)) :
    Wp 228 5 [(0, .ref 58), (1, .long y1), (3, .long y3), (5, .long y5), (7, .long y7)] [.long rl] (gE Lx) I L e Q := by
  refine w_a f_228_5 ?_
  refine w_a f_228_7 ?_
  exact w_c (ks := [0, 1, 3, 5, 7]) f_228_9 rfl rfl h
set_option maxRecDepth 10000 in
set_option maxHeartbeats 4000000 in
theorem s_228_12 {Lx : Nat} {I : Mi} {L : Ml} {e : Nat} {Q : Kq} {y1 : Int64} {y3 : Int64} {y5 : Int64} {y7 : Int64} {rl0 : Int64} {rl : Int64} (h :
    Wp 209 0 [(0, .long rl0), (2, .long rl)] [] (gE Lx) I L e (kcp (Wp 228) 228 12 0 [(0, .ref 58), (1, .long y1), (3, .long y3), (5, .long y5), (7, .long y7)] 71 [] Q)) :
    Wp 228 12 [(0, .ref 58), (1, .long y1), (3, .long y3), (5, .long y5), (7, .long y7)] [.long rl, .long rl0] (gE Lx) I L e Q := by
  exact w_c (ks := [0, 1, 3, 5, 7]) f_228_12 rfl rfl h
set_option maxRecDepth 10000 in
set_option maxHeartbeats 4000000 in
theorem s_228_15 {Lx : Nat} {I : Mi} {L : Ml} {e : Nat} {Q : Kq} {y1 : Int64} {y3 : Int64} {y5 : Int64} {y7 : Int64} {rl : Int64} (h :
    (if rl = 0 then False else
     (if rl = 0 then False else
      (if rl = 0 then False else
       (if rl = 0 then False else
        Q (.inl none) (gE Lx) I (ul (ul (ul (ul L 58 10 (y1 / rl)) 58 11 (y3 / rl)) 58 12 (y5 / rl)) 58 13 (y7 / rl)) e))))) :
    Wp 228 15 [(0, .ref 58), (1, .long y1), (3, .long y3), (5, .long y5), (7, .long y7)] [.long rl] (gE Lx) I L e Q := by
  refine w_a f_228_15 ?_
  refine w_a (ls := [(9, .long rl), (0, .ref 58), (1, .long y1), (3, .long y3), (5, .long y5), (7, .long y7)]) f_228_17 ?_
  refine w_a f_228_18 ?_
  refine w_a f_228_19 ?_
  refine w_a f_228_21 ?_
  refine i_m id (fun h => ?_) h
  refine w_a f_228_22 ?_
  refine w_a f_228_25 ?_
  refine w_a f_228_26 ?_
  refine w_a f_228_27 ?_
  refine w_a f_228_29 ?_
  refine i_m id (fun h => ?_) h
  refine w_a f_228_30 ?_
  refine w_a f_228_33 ?_
  refine w_a f_228_34 ?_
  refine w_a f_228_36 ?_
  refine w_a f_228_38 ?_
  refine i_m id (fun h => ?_) h
  refine w_a f_228_39 ?_
  refine w_a f_228_42 ?_
  refine w_a f_228_43 ?_
  refine w_a f_228_45 ?_
  refine w_a f_228_47 ?_
  refine i_m id (fun h => ?_) h
  refine w_a f_228_48 ?_
  refine w_a f_228_51 ?_
  exact h
set_option maxRecDepth 10000 in
set_option maxHeartbeats 4000000 in
theorem s_229_0 {Lx : Nat} {I : Mi} {L : Ml} {e : Nat} {Q : Kq} {x1 : Int32} {y2 : Int64} {y4 : Int64} (h :
    (if x1 = 0 then
     Wp 228 0 [(0, .ref 58), (1, .long ((y4 * (L 58 10)) - (y2 * (L 58 13)))), (3, .long ((y4 * (L 58 11)) + (y2 * (L 58 12)))), (5, .long ((y4 * (L 58 12)) - (y2 * (L 58 11)))), (7, .long ((y4 * (L 58 13)) + (y2 * (L 58 10))))] [] (gE Lx) I L e (kcp (Wp 229) 229 69 0 [(0, .ref 58)] 71 [] Q)
    else
     Wp 230 0 [(0, .int x1), (1, .long y2), (3, .long y4)] [] (gE Lx) I L e (kcp (Wp 229) 229 77 0 [(0, .ref 58), (1, .int x1), (2, .long y2), (4, .long y4), (6, .long (L 58 10)), (8, .long (L 58 11)), (10, .long (L 58 12)), (12, .long (L 58 13))] 71 [] Q))) :
    Wp 229 0 [(0, .ref 58), (1, .int x1), (2, .long y2), (4, .long y4)] [] (gE Lx) I L e Q := by
  refine w_a f_229_0 ?_
  refine w_a f_229_1 ?_
  refine w_a f_229_4 ?_
  refine w_a (ls := [(6, .long (L 58 10)), (0, .ref 58), (1, .int x1), (2, .long y2), (4, .long y4)]) f_229_6 ?_
  refine w_a f_229_7 ?_
  refine w_a f_229_10 ?_
  refine w_a (ls := [(8, .long (L 58 11)), (6, .long (L 58 10)), (0, .ref 58), (1, .int x1), (2, .long y2), (4, .long y4)]) f_229_12 ?_
  refine w_a f_229_13 ?_
  refine w_a f_229_16 ?_
  refine w_a (ls := [(10, .long (L 58 12)), (8, .long (L 58 11)), (6, .long (L 58 10)), (0, .ref 58), (1, .int x1), (2, .long y2), (4, .long y4)]) f_229_18 ?_
  refine w_a f_229_19 ?_
  refine w_a f_229_22 ?_
  refine w_a (ls := [(12, .long (L 58 13)), (10, .long (L 58 12)), (8, .long (L 58 11)), (6, .long (L 58 10)), (0, .ref 58), (1, .int x1), (2, .long y2), (4, .long y4)]) f_229_24 ?_
  refine w_a f_229_25 ?_
  refine i_m (fun h => ?_) (fun h => ?_) h
  · refine w_a f_229_28 ?_
    refine w_a f_229_29 ?_
    refine w_a f_229_31 ?_
    refine w_a f_229_33 ?_
    refine w_a f_229_34 ?_
    refine w_a f_229_35 ?_
    refine w_a f_229_37 ?_
    refine w_a f_229_38 ?_
    refine w_a f_229_39 ?_
    refine w_a f_229_41 ?_
    refine w_a f_229_43 ?_
    refine w_a f_229_44 ?_
    refine w_a f_229_45 ?_
    refine w_a f_229_47 ?_
    refine w_a f_229_48 ?_
    refine w_a f_229_49 ?_
    refine w_a f_229_51 ?_
    refine w_a f_229_53 ?_
    refine w_a f_229_54 ?_
    refine w_a f_229_55 ?_
    refine w_a f_229_57 ?_
    refine w_a f_229_58 ?_
    refine w_a f_229_59 ?_
    refine w_a f_229_61 ?_
    refine w_a f_229_63 ?_
    refine w_a f_229_64 ?_
    refine w_a f_229_65 ?_
    refine w_a f_229_67 ?_
    refine w_a f_229_68 ?_
    exact w_c (ks := [0]) f_229_69 rfl rfl h
  · refine w_a f_229_73 ?_
    refine w_a f_229_74 ?_
    refine w_a f_229_75 ?_
    exact w_c (ks := [0, 1, 2, 4, 6, 8, 10, 12]) f_229_77 rfl rfl h
set_option maxRecDepth 10000 in
set_option maxHeartbeats 4000000 in
theorem s_229_72 {Lx : Nat} {I : Mi} {L : Ml} {e : Nat} {Q : Kq} (h :
    Q (.inl none) (gE Lx) I L e) :
    Wp 229 72 [(0, .ref 58)] [] (gE Lx) I L e Q := by
  refine w_a f_229_72 ?_
  exact h
set_option maxRecDepth 10000 in
set_option maxHeartbeats 4000000 in
theorem s_229_80 {Lx : Nat} {I : Mi} {L : Ml} {e : Nat} {Q : Kq} {x1 : Int32} {y2 : Int64} {y4 : Int64} {y6 : Int64} {y8 : Int64} {y10 : Int64} {y12 : Int64} {rl : Int64} (h :
    Wp 232 0 [(0, .int x1), (1, .long y2), (3, .long y4)] [] (gE Lx) I L e (kcp (Wp 229) 229 86 0 [(0, .ref 58), (1, .int x1), (6, .long y6), (8, .long y8), (10, .long y10), (12, .long y12), (14, .long rl)] 71 [] Q)) :
    Wp 229 80 [(0, .ref 58), (1, .int x1), (2, .long y2), (4, .long y4), (6, .long y6), (8, .long y8), (10, .long y10), (12, .long y12)] [.long rl] (gE Lx) I L e Q := by
  refine w_a f_229_80 ?_
  refine w_a (ls := [(14, .long rl), (0, .ref 58), (1, .int x1), (2, .long y2), (4, .long y4), (6, .long y6), (8, .long y8), (10, .long y10), (12, .long y12)]) f_229_82 ?_
  refine w_a f_229_83 ?_
  refine w_a f_229_84 ?_
  exact w_c (ks := [0, 1, 6, 8, 10, 12, 14]) f_229_86 rfl rfl h
set_option maxRecDepth 10000 in
set_option maxHeartbeats 4000000 in
theorem s_229_89 {Lx : Nat} {I : Mi} {L : Ml} {e : Nat} {Q : Kq} {x1 : Int32} {y6 : Int64} {y8 : Int64} {y10 : Int64} {y12 : Int64} {y14 : Int64} {rl : Int64} (h :
    (if x1 = (Int32.ofInt 1) then
     (if y6 = (Int64.ofInt 0) then
      (if y8 = (Int64.ofInt 0) then
       Q (.inl none) (gE Lx) I L e
      else
       Wp 228 0 [(0, .ref 58), (1, .long (rl * y6)), (3, .long (rl * y8)), (5, .long ((rl * y10) - (y14 * y8))), (7, .long ((rl * y12) + (y14 * y6)))] [] (gE Lx) I L e (kcp (Wp 229) 229 146 0 [(0, .ref 58)] 71 [] Q))
     else
      Wp 228 0 [(0, .ref 58), (1, .long (rl * y6)), (3, .long (rl * y8)), (5, .long ((rl * y10) - (y14 * y8))), (7, .long ((rl * y12) + (y14 * y6)))] [] (gE Lx) I L e (kcp (Wp 229) 229 146 0 [(0, .ref 58)] 71 [] Q))
    else
     (if x1 = (Int32.ofInt 2) then
      (if y6 = (Int64.ofInt 0) then
       (if y8 = (Int64.ofInt 0) then
        Q (.inl none) (gE Lx) I L e
       else
        Wp 228 0 [(0, .ref 58), (1, .long (rl * y6)), (3, .long (rl * y8)), (5, .long ((rl * y10) - (y14 * y8))), (7, .long ((rl * y12) + (y14 * y6)))] [] (gE Lx) I L e (kcp (Wp 229) 229 146 0 [(0, .ref 58)] 71 [] Q))
      else
       Wp 228 0 [(0, .ref 58), (1, .long (rl * y6)), (3, .long (rl * y8)), (5, .long ((rl * y10) - (y14 * y8))), (7, .long ((rl * y12) + (y14 * y6)))] [] (gE Lx) I L e (kcp (Wp 229) 229 146 0 [(0, .ref 58)] 71 [] Q))
     else
      (if y10 = (Int64.ofInt 0) then
       (if y12 = (Int64.ofInt 0) then
        Q (.inl none) (gE Lx) I L e
       else
        Wp 228 0 [(0, .ref 58), (1, .long ((rl * y6) - (y14 * y12))), (3, .long ((rl * y8) + (y14 * y10))), (5, .long (rl * y10)), (7, .long (rl * y12))] [] (gE Lx) I L e (kcp (Wp 229) 229 200 0 [(0, .ref 58)] 71 [] Q))
      else
       Wp 228 0 [(0, .ref 58), (1, .long ((rl * y6) - (y14 * y12))), (3, .long ((rl * y8) + (y14 * y10))), (5, .long (rl * y10)), (7, .long (rl * y12))] [] (gE Lx) I L e (kcp (Wp 229) 229 200 0 [(0, .ref 58)] 71 [] Q))))) :
    Wp 229 89 [(0, .ref 58), (1, .int x1), (6, .long y6), (8, .long y8), (10, .long y10), (12, .long y12), (14, .long y14)] [.long rl] (gE Lx) I L e Q := by
  refine w_a f_229_89 ?_
  refine w_a (ls := [(16, .long rl), (0, .ref 58), (1, .int x1), (6, .long y6), (8, .long y8), (10, .long y10), (12, .long y12), (14, .long y14)]) f_229_91 ?_
  refine w_a f_229_92 ?_
  refine w_a (ls := [(0, .int x1)]) f_233_0 ?_
  refine w_a f_233_1 ?_
  refine w_a f_233_2 ?_
  refine i_m (fun h => ?_) (fun h => ?_) h
  · refine w_a f_233_10 ?_
    refine w_a f_233_11 ?_
    refine w_a f_233_15 ?_
    refine w_a (ls := [(16, .long rl), (0, .ref 58), (1, .int x1), (6, .long y6), (8, .long y8), (10, .long y10), (12, .long y12), (14, .long y14)]) f_229_95 ?_
    refine w_a f_229_98 ?_
    refine w_a f_229_100 ?_
    refine w_a f_229_101 ?_
    refine i_m (fun h => ?_) (fun h => ?_) h
    · refine w_a f_229_105 ?_
      refine w_a f_229_107 ?_
      refine w_a f_229_108 ?_
      refine i_m (fun h => ?_) (fun h => ?_) h
      · refine w_a f_229_112 ?_
        exact h
      · refine w_a f_229_113 ?_
        refine w_a f_229_114 ?_
        refine w_a f_229_116 ?_
        refine w_a f_229_118 ?_
        refine w_a f_229_119 ?_
        refine w_a f_229_121 ?_
        refine w_a f_229_123 ?_
        refine w_a f_229_124 ?_
        refine w_a f_229_126 ?_
        refine w_a f_229_128 ?_
        refine w_a f_229_129 ?_
        refine w_a f_229_131 ?_
        refine w_a f_229_133 ?_
        refine w_a f_229_134 ?_
        refine w_a f_229_135 ?_
        refine w_a f_229_137 ?_
        refine w_a f_229_139 ?_
        refine w_a f_229_140 ?_
        refine w_a f_229_142 ?_
        refine w_a f_229_144 ?_
        refine w_a f_229_145 ?_
        exact w_c (ks := [0]) f_229_146 rfl rfl h
    · refine w_a f_229_113 ?_
      refine w_a f_229_114 ?_
      refine w_a f_229_116 ?_
      refine w_a f_229_118 ?_
      refine w_a f_229_119 ?_
      refine w_a f_229_121 ?_
      refine w_a f_229_123 ?_
      refine w_a f_229_124 ?_
      refine w_a f_229_126 ?_
      refine w_a f_229_128 ?_
      refine w_a f_229_129 ?_
      refine w_a f_229_131 ?_
      refine w_a f_229_133 ?_
      refine w_a f_229_134 ?_
      refine w_a f_229_135 ?_
      refine w_a f_229_137 ?_
      refine w_a f_229_139 ?_
      refine w_a f_229_140 ?_
      refine w_a f_229_142 ?_
      refine w_a f_229_144 ?_
      refine w_a f_229_145 ?_
      exact w_c (ks := [0]) f_229_146 rfl rfl h
  · refine w_a f_233_5 ?_
    refine w_a f_233_6 ?_
    refine w_a f_233_7 ?_
    refine i_m (fun h => ?_) (fun h => ?_) h
    · refine w_a f_233_10 ?_
      refine w_a f_233_11 ?_
      refine w_a f_233_15 ?_
      refine w_a (ls := [(16, .long rl), (0, .ref 58), (1, .int x1), (6, .long y6), (8, .long y8), (10, .long y10), (12, .long y12), (14, .long y14)]) f_229_95 ?_
      refine w_a f_229_98 ?_
      refine w_a f_229_100 ?_
      refine w_a f_229_101 ?_
      refine i_m (fun h => ?_) (fun h => ?_) h
      · refine w_a f_229_105 ?_
        refine w_a f_229_107 ?_
        refine w_a f_229_108 ?_
        refine i_m (fun h => ?_) (fun h => ?_) h
        · refine w_a f_229_112 ?_
          exact h
        · refine w_a f_229_113 ?_
          refine w_a f_229_114 ?_
          refine w_a f_229_116 ?_
          refine w_a f_229_118 ?_
          refine w_a f_229_119 ?_
          refine w_a f_229_121 ?_
          refine w_a f_229_123 ?_
          refine w_a f_229_124 ?_
          refine w_a f_229_126 ?_
          refine w_a f_229_128 ?_
          refine w_a f_229_129 ?_
          refine w_a f_229_131 ?_
          refine w_a f_229_133 ?_
          refine w_a f_229_134 ?_
          refine w_a f_229_135 ?_
          refine w_a f_229_137 ?_
          refine w_a f_229_139 ?_
          refine w_a f_229_140 ?_
          refine w_a f_229_142 ?_
          refine w_a f_229_144 ?_
          refine w_a f_229_145 ?_
          exact w_c (ks := [0]) f_229_146 rfl rfl h
      · refine w_a f_229_113 ?_
        refine w_a f_229_114 ?_
        refine w_a f_229_116 ?_
        refine w_a f_229_118 ?_
        refine w_a f_229_119 ?_
        refine w_a f_229_121 ?_
        refine w_a f_229_123 ?_
        refine w_a f_229_124 ?_
        refine w_a f_229_126 ?_
        refine w_a f_229_128 ?_
        refine w_a f_229_129 ?_
        refine w_a f_229_131 ?_
        refine w_a f_229_133 ?_
        refine w_a f_229_134 ?_
        refine w_a f_229_135 ?_
        refine w_a f_229_137 ?_
        refine w_a f_229_139 ?_
        refine w_a f_229_140 ?_
        refine w_a f_229_142 ?_
        refine w_a f_229_144 ?_
        refine w_a f_229_145 ?_
        exact w_c (ks := [0]) f_229_146 rfl rfl h
    · refine w_a f_233_14 ?_
      refine w_a f_233_15 ?_
      refine w_a (ls := [(16, .long rl), (0, .ref 58), (1, .int x1), (6, .long y6), (8, .long y8), (10, .long y10), (12, .long y12), (14, .long y14)]) f_229_95 ?_
      refine w_a f_229_152 ?_
      refine w_a f_229_154 ?_
      refine w_a f_229_155 ?_
      refine i_m (fun h => ?_) (fun h => ?_) h
      · refine w_a f_229_159 ?_
        refine w_a f_229_161 ?_
        refine w_a f_229_162 ?_
        refine i_m (fun h => ?_) (fun h => ?_) h
        · refine w_a f_229_166 ?_
          exact h
        · refine w_a f_229_167 ?_
          refine w_a f_229_168 ?_
          refine w_a f_229_170 ?_
          refine w_a f_229_172 ?_
          refine w_a f_229_173 ?_
          refine w_a f_229_175 ?_
          refine w_a f_229_177 ?_
          refine w_a f_229_178 ?_
          refine w_a f_229_179 ?_
          refine w_a f_229_181 ?_
          refine w_a f_229_183 ?_
          refine w_a f_229_184 ?_
          refine w_a f_229_186 ?_
          refine w_a f_229_188 ?_
          refine w_a f_229_189 ?_
          refine w_a f_229_190 ?_
          refine w_a f_229_192 ?_
          refine w_a f_229_194 ?_
          refine w_a f_229_195 ?_
          refine w_a f_229_197 ?_
          refine w_a f_229_199 ?_
          exact w_c (ks := [0]) f_229_200 rfl rfl h
      · refine w_a f_229_167 ?_
        refine w_a f_229_168 ?_
        refine w_a f_229_170 ?_
        refine w_a f_229_172 ?_
        refine w_a f_229_173 ?_
        refine w_a f_229_175 ?_
        refine w_a f_229_177 ?_
        refine w_a f_229_178 ?_
        refine w_a f_229_179 ?_
        refine w_a f_229_181 ?_
        refine w_a f_229_183 ?_
        refine w_a f_229_184 ?_
        refine w_a f_229_186 ?_
        refine w_a f_229_188 ?_
        refine w_a f_229_189 ?_
        refine w_a f_229_190 ?_
        refine w_a f_229_192 ?_
        refine w_a f_229_194 ?_
        refine w_a f_229_195 ?_
        refine w_a f_229_197 ?_
        refine w_a f_229_199 ?_
        exact w_c (ks := [0]) f_229_200 rfl rfl h
set_option maxRecDepth 10000 in
set_option maxHeartbeats 4000000 in
theorem s_229_149 {Lx : Nat} {I : Mi} {L : Ml} {e : Nat} {Q : Kq} (h :
    Wp 229 203 [(0, .ref 58)] [] (gE Lx) I L e Q) :
    Wp 229 149 [(0, .ref 58)] [] (gE Lx) I L e Q := by
  refine w_a f_229_149 ?_
  exact w_n (ks := [0]) rfl h
set_option maxRecDepth 10000 in
set_option maxHeartbeats 4000000 in
theorem s_229_203 {Lx : Nat} {I : Mi} {L : Ml} {e : Nat} {Q : Kq} (h :
    Q (.inl none) (gE Lx) I L e) :
    Wp 229 203 [(0, .ref 58)] [] (gE Lx) I L e Q := by
  refine w_a f_229_203 ?_
  exact h
