/-! Pieces of methods, by program out of the tables: 332 to 354. -/
theorem f_332_9 : ftc (PT 332) 9 = some (9, .istore_n 1, 1, 0, 0, 0) := by decide +kernel
theorem f_332_10 : ftc (PT 332) 10 = some (10, .iconst 0, 1, 0, 0, 0) := by decide +kernel
theorem f_332_11 : ftc (PT 332) 11 = some (11, .istore_n 2, 1, 0, 0, 0) := by decide +kernel
theorem f_332_12 : ftc (PT 332) 12 = some (12, .iload_n 2, 1, 0, 0, 0) := by decide +kernel
theorem f_332_13 : ftc (PT 332) 13 = some (13, .bipush 16, 2, 0, 0, 0) := by decide +kernel
theorem f_332_15 : ftc (PT 332) 15 = some (15, .if_icmp .ge 21, 3, 36, 0, 0) := by decide +kernel
theorem f_332_18 : ftc (PT 332) 18 = some (18, .aload_n 0, 1, 0, 0, 0) := by decide +kernel
theorem f_332_19 : ftc (PT 332) 19 = some (19, .getfield 26, 3, 12, 37, 1673) := by decide +kernel
theorem f_332_22 : ftc (PT 332) 22 = some (22, .iload_n 2, 1, 0, 0, 0) := by decide +kernel
theorem f_332_23 : ftc (PT 332) 23 = some (23, .aload_n 0, 1, 0, 0, 0) := by decide +kernel
theorem f_332_24 : ftc (PT 332) 24 = some (24, .getfield 7, 3, 12, 1, 1637) := by decide +kernel
theorem f_332_27 : ftc (PT 332) 27 = some (27, .iload_n 2, 1, 0, 0, 0) := by decide +kernel
theorem f_332_28 : ftc (PT 332) 28 = some (28, .iaload, 1, 0, 0, 0) := by decide +kernel
theorem f_332_29 : ftc (PT 332) 29 = some (29, .iastore, 1, 0, 0, 0) := by decide +kernel
theorem f_332_30 : ftc (PT 332) 30 = some (30, .iinc 2 1, 3, 0, 0, 0) := by decide +kernel
theorem f_332_33 : ftc (PT 332) 33 = some (33, .goto (-21), 3, 12, 0, 0) := by decide +kernel
theorem f_332_36 : ftc (PT 332) 36 = some (36, .iconst 0, 1, 0, 0, 0) := by decide +kernel
theorem f_332_37 : ftc (PT 332) 37 = some (37, .istore_n 2, 1, 0, 0, 0) := by decide +kernel
theorem f_332_38 : ftc (PT 332) 38 = some (38, .iload_n 2, 1, 0, 0, 0) := by decide +kernel
theorem f_332_39 : ftc (PT 332) 39 = some (39, .aload_n 0, 1, 0, 0, 0) := by decide +kernel
theorem f_332_40 : ftc (PT 332) 40 = some (40, .invokevirtual 92, 3, 215, 1036, 1781) := by decide +kernel
theorem f_332_43 : ftc (PT 332) 43 = some (43, .if_icmp .ge 57, 3, 100, 0, 0) := by decide +kernel
theorem f_332_46 : ftc (PT 332) 46 = some (46, .aload_n 0, 1, 0, 0, 0) := by decide +kernel
theorem f_332_47 : ftc (PT 332) 47 = some (47, .iload_n 2, 1, 0, 0, 0) := by decide +kernel
theorem f_332_48 : ftc (PT 332) 48 = some (48, .aload_n 0, 1, 0, 0, 0) := by decide +kernel
theorem f_332_49 : ftc (PT 332) 49 = some (49, .getfield 26, 3, 12, 37, 1673) := by decide +kernel
theorem f_332_52 : ftc (PT 332) 52 = some (52, .iconst 4, 1, 0, 0, 0) := by decide +kernel
theorem f_332_53 : ftc (PT 332) 53 = some (53, .iconst 3, 1, 0, 0, 0) := by decide +kernel
theorem f_332_54 : ftc (PT 332) 54 = some (54, .iload_n 1, 1, 0, 0, 0) := by decide +kernel
theorem f_332_55 : ftc (PT 332) 55 = some (55, .iload_n 2, 1, 0, 0, 0) := by decide +kernel
theorem f_332_56 : ftc (PT 332) 56 = some (56, .invokestatic 438, 3, 331, 2050, 2241) := by decide +kernel
theorem f_332_59 : ftc (PT 332) 59 = some (59, .imul, 1, 0, 0, 0) := by decide +kernel
theorem f_332_60 : ftc (PT 332) 60 = some (60, .iadd, 1, 0, 0, 0) := by decide +kernel
theorem f_332_61 : ftc (PT 332) 61 = some (61, .iaload, 1, 0, 0, 0) := by decide +kernel
theorem f_332_62 : ftc (PT 332) 62 = some (62, .aload_n 0, 1, 0, 0, 0) := by decide +kernel
theorem f_332_63 : ftc (PT 332) 63 = some (63, .getfield 26, 3, 12, 37, 1673) := by decide +kernel
theorem f_332_66 : ftc (PT 332) 66 = some (66, .iconst 5, 1, 0, 0, 0) := by decide +kernel
theorem f_332_67 : ftc (PT 332) 67 = some (67, .iconst 3, 1, 0, 0, 0) := by decide +kernel
theorem f_332_68 : ftc (PT 332) 68 = some (68, .iload_n 1, 1, 0, 0, 0) := by decide +kernel
theorem f_332_69 : ftc (PT 332) 69 = some (69, .iload_n 2, 1, 0, 0, 0) := by decide +kernel
theorem f_332_70 : ftc (PT 332) 70 = some (70, .invokestatic 438, 3, 331, 2050, 2241) := by decide +kernel
theorem f_332_73 : ftc (PT 332) 73 = some (73, .imul, 1, 0, 0, 0) := by decide +kernel
theorem f_332_74 : ftc (PT 332) 74 = some (74, .iadd, 1, 0, 0, 0) := by decide +kernel
theorem f_332_75 : ftc (PT 332) 75 = some (75, .iaload, 1, 0, 0, 0) := by decide +kernel
theorem f_332_76 : ftc (PT 332) 76 = some (76, .aload_n 0, 1, 0, 0, 0) := by decide +kernel
theorem f_332_77 : ftc (PT 332) 77 = some (77, .getfield 26, 3, 12, 37, 1673) := by decide +kernel
theorem f_332_80 : ftc (PT 332) 80 = some (80, .bipush 6, 2, 0, 0, 0) := by decide +kernel
theorem f_332_82 : ftc (PT 332) 82 = some (82, .iconst 3, 1, 0, 0, 0) := by decide +kernel
theorem f_332_83 : ftc (PT 332) 83 = some (83, .iload_n 1, 1, 0, 0, 0) := by decide +kernel
theorem f_332_84 : ftc (PT 332) 84 = some (84, .iload_n 2, 1, 0, 0, 0) := by decide +kernel
theorem f_332_85 : ftc (PT 332) 85 = some (85, .invokestatic 438, 3, 331, 2050, 2241) := by decide +kernel
theorem f_332_88 : ftc (PT 332) 88 = some (88, .imul, 1, 0, 0, 0) := by decide +kernel
theorem f_332_89 : ftc (PT 332) 89 = some (89, .iadd, 1, 0, 0, 0) := by decide +kernel
theorem f_332_90 : ftc (PT 332) 90 = some (90, .iaload, 1, 0, 0, 0) := by decide +kernel
theorem f_332_91 : ftc (PT 332) 91 = some (91, .invokevirtual 96, 3, 216, 5260, 1785) := by decide +kernel
theorem f_332_94 : ftc (PT 332) 94 = some (94, .iinc 2 1, 3, 0, 0, 0) := by decide +kernel
theorem f_332_97 : ftc (PT 332) 97 = some (97, .goto (-59), 3, 38, 0, 0) := by decide +kernel
theorem f_332_100 : ftc (PT 332) 100 = some (100, .aload_n 0, 1, 0, 0, 0) := by decide +kernel
theorem f_332_101 : ftc (PT 332) 101 = some (101, .invokevirtual 425, 3, 319, 1036, 2193) := by decide +kernel
theorem f_332_104 : ftc (PT 332) 104 = some (104, .ireturn, 1, 0, 0, 0) := by decide +kernel
theorem f_333_52 : ftc (PT 333) 52 = some (52, .aload_n 0, 1, 0, 0, 0) := by decide +kernel
theorem f_333_53 : ftc (PT 333) 53 = some (53, .invokevirtual 165, 3, 240, 1036, 1876) := by decide +kernel
theorem f_333_56 : ftc (PT 333) 56 = some (56, .aload_n 0, 1, 0, 0, 0) := by decide +kernel
theorem f_333_57 : ftc (PT 333) 57 = some (57, .getfield 81, 3, 12, 8, 1644) := by decide +kernel
theorem f_333_60 : ftc (PT 333) 60 = some (60, .aload_n 0, 1, 0, 0, 0) := by decide +kernel
theorem f_333_61 : ftc (PT 333) 61 = some (61, .getfield 85, 3, 12, 9, 1645) := by decide +kernel
theorem f_333_64 : ftc (PT 333) 64 = some (64, .invokestatic 380, 3, 320, 9218, 2197) := by decide +kernel
theorem f_333_67 : ftc (PT 333) 67 = some (67, .istore_n 2, 1, 0, 0, 0) := by decide +kernel
theorem f_333_68 : ftc (PT 333) 68 = some (68, .iconst (-1), 1, 0, 0, 0) := by decide +kernel
theorem f_333_69 : ftc (PT 333) 69 = some (69, .istore_n 3, 1, 0, 0, 0) := by decide +kernel
theorem f_333_70 : ftc (PT 333) 70 = some (70, .iconst 0, 1, 0, 0, 0) := by decide +kernel
theorem f_333_71 : ftc (PT 333) 71 = some (71, .istore 4, 2, 0, 0, 0) := by decide +kernel
theorem f_333_73 : ftc (PT 333) 73 = some (73, .iconst 0, 1, 0, 0, 0) := by decide +kernel
theorem f_333_74 : ftc (PT 333) 74 = some (74, .istore 5, 2, 0, 0, 0) := by decide +kernel
theorem f_333_76 : ftc (PT 333) 76 = some (76, .iload 5, 2, 0, 0, 0) := by decide +kernel
theorem f_333_78 : ftc (PT 333) 78 = some (78, .aload_n 0, 1, 0, 0, 0) := by decide +kernel
theorem f_333_79 : ftc (PT 333) 79 = some (79, .invokevirtual 92, 3, 215, 1036, 1781) := by decide +kernel
theorem f_333_82 : ftc (PT 333) 82 = some (82, .if_icmp .ge 93, 3, 175, 0, 0) := by decide +kernel
theorem f_333_85 : ftc (PT 333) 85 = some (85, .aload_n 0, 1, 0, 0, 0) := by decide +kernel
theorem f_333_86 : ftc (PT 333) 86 = some (86, .aload_n 0, 1, 0, 0, 0) := by decide +kernel
theorem f_333_87 : ftc (PT 333) 87 = some (87, .iload 5, 2, 0, 0, 0) := by decide +kernel
theorem f_333_89 : ftc (PT 333) 89 = some (89, .invokevirtual 108, 3, 223, 2092, 1813) := by decide +kernel
theorem f_333_92 : ftc (PT 333) 92 = some (92, .aload_n 0, 1, 0, 0, 0) := by decide +kernel
theorem f_333_93 : ftc (PT 333) 93 = some (93, .iload 5, 2, 0, 0, 0) := by decide +kernel
theorem f_333_95 : ftc (PT 333) 95 = some (95, .invokevirtual 111, 3, 224, 2092, 1817) := by decide +kernel
theorem f_333_98 : ftc (PT 333) 98 = some (98, .invokevirtual 448, 3, 334, 4172, 2252) := by decide +kernel
theorem f_333_101 : ftc (PT 333) 101 = some (101, .istore 6, 2, 0, 0, 0) := by decide +kernel
theorem f_333_103 : ftc (PT 333) 103 = some (103, .aload_n 0, 1, 0, 0, 0) := by decide +kernel
theorem f_333_104 : ftc (PT 333) 104 = some (104, .iload 5, 2, 0, 0, 0) := by decide +kernel
theorem f_333_106 : ftc (PT 333) 106 = some (106, .iload 6, 2, 0, 0, 0) := by decide +kernel
theorem f_333_108 : ftc (PT 333) 108 = some (108, .iconst 1, 1, 0, 0, 0) := by decide +kernel
theorem f_333_109 : ftc (PT 333) 109 = some (109, .iadd, 1, 0, 0, 0) := by decide +kernel
theorem f_333_110 : ftc (PT 333) 110 = some (110, .invokevirtual 451, 3, 335, 3148, 2256) := by decide +kernel
theorem f_333_113 : ftc (PT 333) 113 = some (113, .iload_n 2, 1, 0, 0, 0) := by decide +kernel
theorem f_333_114 : ftc (PT 333) 114 = some (114, .isub, 1, 0, 0, 0) := by decide +kernel
theorem f_333_115 : ftc (PT 333) 115 = some (115, .istore 7, 2, 0, 0, 0) := by decide +kernel
theorem f_333_117 : ftc (PT 333) 117 = some (117, .aload_n 0, 1, 0, 0, 0) := by decide +kernel
theorem f_333_118 : ftc (PT 333) 118 = some (118, .iload 5, 2, 0, 0, 0) := by decide +kernel
theorem f_333_120 : ftc (PT 333) 120 = some (120, .iload 6, 2, 0, 0, 0) := by decide +kernel
theorem f_333_122 : ftc (PT 333) 122 = some (122, .iconst 1, 1, 0, 0, 0) := by decide +kernel
theorem f_333_123 : ftc (PT 333) 123 = some (123, .isub, 1, 0, 0, 0) := by decide +kernel
theorem f_333_124 : ftc (PT 333) 124 = some (124, .invokevirtual 451, 3, 335, 3148, 2256) := by decide +kernel
theorem f_333_127 : ftc (PT 333) 127 = some (127, .iload_n 2, 1, 0, 0, 0) := by decide +kernel
theorem f_333_128 : ftc (PT 333) 128 = some (128, .isub, 1, 0, 0, 0) := by decide +kernel
theorem f_333_129 : ftc (PT 333) 129 = some (129, .istore 8, 2, 0, 0, 0) := by decide +kernel
theorem f_333_131 : ftc (PT 333) 131 = some (131, .iload 7, 2, 0, 0, 0) := by decide +kernel
theorem f_333_133 : ftc (PT 333) 133 = some (133, .iload 8, 2, 0, 0, 0) := by decide +kernel
theorem f_333_135 : ftc (PT 333) 135 = some (135, .if_icmp .le 8, 3, 143, 0, 0) := by decide +kernel
theorem f_333_138 : ftc (PT 333) 138 = some (138, .iload 7, 2, 0, 0, 0) := by decide +kernel
theorem f_333_140 : ftc (PT 333) 140 = some (140, .goto 5, 3, 145, 0, 0) := by decide +kernel
theorem f_333_143 : ftc (PT 333) 143 = some (143, .iload 8, 2, 0, 0, 0) := by decide +kernel
theorem f_333_145 : ftc (PT 333) 145 = some (145, .istore 9, 2, 0, 0, 0) := by decide +kernel
theorem f_333_147 : ftc (PT 333) 147 = some (147, .iload_n 3, 1, 0, 0, 0) := by decide +kernel
theorem f_333_148 : ftc (PT 333) 148 = some (148, .iconst (-1), 1, 0, 0, 0) := by decide +kernel
theorem f_333_149 : ftc (PT 333) 149 = some (149, .if_icmp .eq 13, 3, 162, 0, 0) := by decide +kernel
theorem f_333_152 : ftc (PT 333) 152 = some (152, .iload 9, 2, 0, 0, 0) := by decide +kernel
theorem f_333_154 : ftc (PT 333) 154 = some (154, .iload 4, 2, 0, 0, 0) := by decide +kernel
theorem f_333_156 : ftc (PT 333) 156 = some (156, .if_icmp .gt 6, 3, 162, 0, 0) := by decide +kernel
theorem f_333_159 : ftc (PT 333) 159 = some (159, .goto 10, 3, 169, 0, 0) := by decide +kernel
theorem f_333_162 : ftc (PT 333) 162 = some (162, .iload 5, 2, 0, 0, 0) := by decide +kernel
theorem f_333_164 : ftc (PT 333) 164 = some (164, .istore_n 3, 1, 0, 0, 0) := by decide +kernel
theorem f_333_165 : ftc (PT 333) 165 = some (165, .iload 9, 2, 0, 0, 0) := by decide +kernel
theorem f_333_167 : ftc (PT 333) 167 = some (167, .istore 4, 2, 0, 0, 0) := by decide +kernel
theorem f_333_169 : ftc (PT 333) 169 = some (169, .iinc 5 1, 3, 0, 0, 0) := by decide +kernel
theorem f_333_172 : ftc (PT 333) 172 = some (172, .goto (-96), 3, 76, 0, 0) := by decide +kernel
theorem f_333_175 : ftc (PT 333) 175 = some (175, .iload_n 1, 1, 0, 0, 0) := by decide +kernel
theorem f_333_176 : ftc (PT 333) 176 = some (176, .ifCond .ne 7, 3, 183, 0, 0) := by decide +kernel
theorem f_333_179 : ftc (PT 333) 179 = some (179, .iload_n 3, 1, 0, 0, 0) := by decide +kernel
theorem f_333_180 : ftc (PT 333) 180 = some (180, .goto 5, 3, 185, 0, 0) := by decide +kernel
theorem f_333_183 : ftc (PT 333) 183 = some (183, .iload 4, 2, 0, 0, 0) := by decide +kernel
theorem f_333_185 : ftc (PT 333) 185 = some (185, .ireturn, 1, 0, 0, 0) := by decide +kernel
theorem f_334_0 : ftc (PT 334) 0 = some (0, .iconst 0, 1, 0, 0, 0) := by decide +kernel
theorem f_334_1 : ftc (PT 334) 1 = some (1, .istore_n 3, 1, 0, 0, 0) := by decide +kernel
theorem f_334_2 : ftc (PT 334) 2 = some (2, .aload_n 0, 1, 0, 0, 0) := by decide +kernel
theorem f_334_3 : ftc (PT 334) 3 = some (3, .getfield 16, 3, 12, 5, 1641) := by decide +kernel
theorem f_334_6 : ftc (PT 334) 6 = some (6, .iload_n 3, 1, 0, 0, 0) := by decide +kernel
theorem f_334_7 : ftc (PT 334) 7 = some (7, .iaload, 1, 0, 0, 0) := by decide +kernel
theorem f_334_8 : ftc (PT 334) 8 = some (8, .iload_n 1, 1, 0, 0, 0) := by decide +kernel
theorem f_334_9 : ftc (PT 334) 9 = some (9, .if_icmp .ne 13, 3, 22, 0, 0) := by decide +kernel
theorem f_334_12 : ftc (PT 334) 12 = some (12, .aload_n 0, 1, 0, 0, 0) := by decide +kernel
theorem f_334_13 : ftc (PT 334) 13 = some (13, .getfield 19, 3, 12, 6, 1642) := by decide +kernel
theorem f_334_16 : ftc (PT 334) 16 = some (16, .iload_n 3, 1, 0, 0, 0) := by decide +kernel
theorem f_334_17 : ftc (PT 334) 17 = some (17, .iaload, 1, 0, 0, 0) := by decide +kernel
theorem f_334_18 : ftc (PT 334) 18 = some (18, .iload_n 2, 1, 0, 0, 0) := by decide +kernel
theorem f_334_19 : ftc (PT 334) 19 = some (19, .if_icmp .eq 9, 3, 28, 0, 0) := by decide +kernel
theorem f_334_22 : ftc (PT 334) 22 = some (22, .iinc 3 1, 3, 0, 0, 0) := by decide +kernel
theorem f_334_25 : ftc (PT 334) 25 = some (25, .goto (-23), 3, 2, 0, 0) := by decide +kernel
theorem f_334_28 : ftc (PT 334) 28 = some (28, .iload_n 3, 1, 0, 0, 0) := by decide +kernel
theorem f_334_29 : ftc (PT 334) 29 = some (29, .ireturn, 1, 0, 0, 0) := by decide +kernel
theorem f_335_0 : ftc (PT 335) 0 = some (0, .aload_n 0, 1, 0, 0, 0) := by decide +kernel
theorem f_335_1 : ftc (PT 335) 1 = some (1, .iload_n 1, 1, 0, 0, 0) := by decide +kernel
theorem f_335_2 : ftc (PT 335) 2 = some (2, .iload_n 2, 1, 0, 0, 0) := by decide +kernel
theorem f_335_3 : ftc (PT 335) 3 = some (3, .aload_n 0, 1, 0, 0, 0) := by decide +kernel
theorem f_335_4 : ftc (PT 335) 4 = some (4, .getfield 74, 3, 12, 7, 1643) := by decide +kernel
theorem f_335_7 : ftc (PT 335) 7 = some (7, .iadd, 1, 0, 0, 0) := by decide +kernel
theorem f_335_8 : ftc (PT 335) 8 = some (8, .aload_n 0, 1, 0, 0, 0) := by decide +kernel
theorem f_335_9 : ftc (PT 335) 9 = some (9, .getfield 74, 3, 12, 7, 1643) := by decide +kernel
theorem f_335_12 : ftc (PT 335) 12 = some (12, .irem, 1, 0, 0, 0) := by decide +kernel
theorem f_335_13 : ftc (PT 335) 13 = some (13, .invokevirtual 432, 3, 324, 4172, 2213) := by decide +kernel
theorem f_335_16 : ftc (PT 335) 16 = some (16, .aload_n 0, 1, 0, 0, 0) := by decide +kernel
theorem f_335_17 : ftc (PT 335) 17 = some (17, .invokevirtual 165, 3, 240, 1036, 1876) := by decide +kernel
theorem f_335_20 : ftc (PT 335) 20 = some (20, .aload_n 0, 1, 0, 0, 0) := by decide +kernel
theorem f_335_21 : ftc (PT 335) 21 = some (21, .getfield 81, 3, 12, 8, 1644) := by decide +kernel
theorem f_335_24 : ftc (PT 335) 24 = some (24, .aload_n 0, 1, 0, 0, 0) := by decide +kernel
theorem f_335_25 : ftc (PT 335) 25 = some (25, .getfield 85, 3, 12, 9, 1645) := by decide +kernel
theorem f_335_28 : ftc (PT 335) 28 = some (28, .invokestatic 380, 3, 320, 9218, 2197) := by decide +kernel
theorem f_335_31 : ftc (PT 335) 31 = some (31, .ireturn, 1, 0, 0, 0) := by decide +kernel
theorem f_336_57 : ftc (PT 336) 57 = some (57, .lload 11, 2, 0, 0, 0) := by decide +kernel
theorem f_336_59 : ftc (PT 336) 59 = some (59, .invokestatic 66, 3, 209, 10242, 1627) := by decide +kernel
theorem f_336_62 : ftc (PT 336) 62 = some (62, .lstore 13, 2, 0, 0, 0) := by decide +kernel
theorem f_336_64 : ftc (PT 336) 64 = some (64, .lload 11, 2, 0, 0, 0) := by decide +kernel
theorem f_336_66 : ftc (PT 336) 66 = some (66, .lconst 0, 1, 0, 0, 0) := by decide +kernel
theorem f_336_67 : ftc (PT 336) 67 = some (67, .lcmp, 1, 0, 0, 0) := by decide +kernel
theorem f_336_68 : ftc (PT 336) 68 = some (68, .ifCond .le 46, 3, 114, 0, 0) := by decide +kernel
theorem f_336_71 : ftc (PT 336) 71 = some (71, .lload 7, 2, 0, 0, 0) := by decide +kernel
theorem f_336_73 : ftc (PT 336) 73 = some (73, .lload 13, 2, 0, 0, 0) := by decide +kernel
theorem f_336_75 : ftc (PT 336) 75 = some (75, .ldiv, 1, 0, 0, 0) := by decide +kernel
theorem f_336_76 : ftc (PT 336) 76 = some (76, .ldc2_w 454, 3, 2264, 0, 99) := by decide +kernel
theorem f_336_79 : ftc (PT 336) 79 = some (79, .lcmp, 1, 0, 0, 0) := by decide +kernel
theorem f_336_80 : ftc (PT 336) 80 = some (80, .ifCond .gt 34, 3, 114, 0, 0) := by decide +kernel
theorem f_336_83 : ftc (PT 336) 83 = some (83, .lload 9, 2, 0, 0, 0) := by decide +kernel
theorem f_336_85 : ftc (PT 336) 85 = some (85, .invokestatic 58, 3, 210, 2049, 1630) := by decide +kernel
theorem f_336_88 : ftc (PT 336) 88 = some (88, .lload 13, 2, 0, 0, 0) := by decide +kernel
theorem f_336_90 : ftc (PT 336) 90 = some (90, .ldiv, 1, 0, 0, 0) := by decide +kernel
theorem f_336_91 : ftc (PT 336) 91 = some (91, .ldc2_w 454, 3, 2264, 0, 99) := by decide +kernel
theorem f_336_94 : ftc (PT 336) 94 = some (94, .lcmp, 1, 0, 0, 0) := by decide +kernel
theorem f_336_95 : ftc (PT 336) 95 = some (95, .ifCond .gt 19, 3, 114, 0, 0) := by decide +kernel
theorem f_336_98 : ftc (PT 336) 98 = some (98, .lload 11, 2, 0, 0, 0) := by decide +kernel
theorem f_336_100 : ftc (PT 336) 100 = some (100, .lload 13, 2, 0, 0, 0) := by decide +kernel
theorem f_336_102 : ftc (PT 336) 102 = some (102, .ldiv, 1, 0, 0, 0) := by decide +kernel
theorem f_336_103 : ftc (PT 336) 103 = some (103, .ldc2_w 456, 3, 2265, 0, 20) := by decide +kernel
theorem f_336_106 : ftc (PT 336) 106 = some (106, .lcmp, 1, 0, 0, 0) := by decide +kernel
theorem f_336_107 : ftc (PT 336) 107 = some (107, .ifCond .gt 7, 3, 114, 0, 0) := by decide +kernel
theorem f_336_110 : ftc (PT 336) 110 = some (110, .iconst 1, 1, 0, 0, 0) := by decide +kernel
theorem f_336_111 : ftc (PT 336) 111 = some (111, .goto 4, 3, 115, 0, 0) := by decide +kernel
theorem f_336_114 : ftc (PT 336) 114 = some (114, .iconst 0, 1, 0, 0, 0) := by decide +kernel
theorem f_336_115 : ftc (PT 336) 115 = some (115, .istore 15, 2, 0, 0, 0) := by decide +kernel
theorem f_336_117 : ftc (PT 336) 117 = some (117, .aload_n 0, 1, 0, 0, 0) := by decide +kernel
theorem f_336_118 : ftc (PT 336) 118 = some (118, .iload 15, 2, 0, 0, 0) := by decide +kernel
theorem f_336_120 : ftc (PT 336) 120 = some (120, .ifCond .eq 7, 3, 127, 0, 0) := by decide +kernel
theorem f_336_123 : ftc (PT 336) 123 = some (123, .iconst 0, 1, 0, 0, 0) := by decide +kernel
theorem f_336_124 : ftc (PT 336) 124 = some (124, .goto 4, 3, 128, 0, 0) := by decide +kernel
theorem f_336_127 : ftc (PT 336) 127 = some (127, .iconst 1, 1, 0, 0, 0) := by decide +kernel
theorem f_336_128 : ftc (PT 336) 128 = some (128, .putfield 55, 3, 12, 0, 1636) := by decide +kernel
theorem f_336_131 : ftc (PT 336) 131 = some (131, .aload_n 0, 1, 0, 0, 0) := by decide +kernel
theorem f_336_132 : ftc (PT 336) 132 = some (132, .getfield 55, 3, 12, 0, 1636) := by decide +kernel
theorem f_336_135 : ftc (PT 336) 135 = some (135, .ifCond .le 5, 3, 140, 0, 0) := by decide +kernel
theorem f_336_138 : ftc (PT 336) 138 = some (138, .iconst 0, 1, 0, 0, 0) := by decide +kernel
theorem f_336_139 : ftc (PT 336) 139 = some (139, .ireturn, 1, 0, 0, 0) := by decide +kernel
theorem f_336_140 : ftc (PT 336) 140 = some (140, .aload_n 0, 1, 0, 0, 0) := by decide +kernel
theorem f_336_141 : ftc (PT 336) 141 = some (141, .getfield 7, 3, 12, 1, 1637) := by decide +kernel
theorem f_336_144 : ftc (PT 336) 144 = some (144, .iconst 0, 1, 0, 0, 0) := by decide +kernel
theorem f_336_145 : ftc (PT 336) 145 = some (145, .lload 7, 2, 0, 0, 0) := by decide +kernel
theorem f_336_147 : ftc (PT 336) 147 = some (147, .lload 13, 2, 0, 0, 0) := by decide +kernel
theorem f_336_149 : ftc (PT 336) 149 = some (149, .ldiv, 1, 0, 0, 0) := by decide +kernel
theorem f_336_150 : ftc (PT 336) 150 = some (150, .l2i, 1, 0, 0, 0) := by decide +kernel
theorem f_336_151 : ftc (PT 336) 151 = some (151, .iastore, 1, 0, 0, 0) := by decide +kernel
theorem f_336_152 : ftc (PT 336) 152 = some (152, .aload_n 0, 1, 0, 0, 0) := by decide +kernel
theorem f_336_153 : ftc (PT 336) 153 = some (153, .getfield 7, 3, 12, 1, 1637) := by decide +kernel
theorem f_336_156 : ftc (PT 336) 156 = some (156, .iconst 1, 1, 0, 0, 0) := by decide +kernel
theorem f_336_157 : ftc (PT 336) 157 = some (157, .lload 9, 2, 0, 0, 0) := by decide +kernel
theorem f_336_159 : ftc (PT 336) 159 = some (159, .lload 13, 2, 0, 0, 0) := by decide +kernel
theorem f_336_161 : ftc (PT 336) 161 = some (161, .ldiv, 1, 0, 0, 0) := by decide +kernel
theorem f_336_162 : ftc (PT 336) 162 = some (162, .l2i, 1, 0, 0, 0) := by decide +kernel
theorem f_336_163 : ftc (PT 336) 163 = some (163, .iastore, 1, 0, 0, 0) := by decide +kernel
theorem f_336_164 : ftc (PT 336) 164 = some (164, .aload_n 0, 1, 0, 0, 0) := by decide +kernel
theorem f_336_165 : ftc (PT 336) 165 = some (165, .getfield 7, 3, 12, 1, 1637) := by decide +kernel
theorem f_336_168 : ftc (PT 336) 168 = some (168, .iconst 2, 1, 0, 0, 0) := by decide +kernel
theorem f_336_169 : ftc (PT 336) 169 = some (169, .lload 11, 2, 0, 0, 0) := by decide +kernel
theorem f_336_171 : ftc (PT 336) 171 = some (171, .lload 13, 2, 0, 0, 0) := by decide +kernel
theorem f_336_173 : ftc (PT 336) 173 = some (173, .ldiv, 1, 0, 0, 0) := by decide +kernel
theorem f_336_174 : ftc (PT 336) 174 = some (174, .l2i, 1, 0, 0, 0) := by decide +kernel
theorem f_336_175 : ftc (PT 336) 175 = some (175, .iastore, 1, 0, 0, 0) := by decide +kernel
theorem f_336_176 : ftc (PT 336) 176 = some (176, .iconst 0, 1, 0, 0, 0) := by decide +kernel
theorem f_336_177 : ftc (PT 336) 177 = some (177, .istore 16, 2, 0, 0, 0) := by decide +kernel
theorem f_336_179 : ftc (PT 336) 179 = some (179, .iload 16, 2, 0, 0, 0) := by decide +kernel
theorem f_336_181 : ftc (PT 336) 181 = some (181, .aload_n 0, 1, 0, 0, 0) := by decide +kernel
theorem f_336_182 : ftc (PT 336) 182 = some (182, .invokevirtual 92, 3, 215, 1036, 1781) := by decide +kernel
theorem f_336_185 : ftc (PT 336) 185 = some (185, .if_icmp .ge 44, 3, 229, 0, 0) := by decide +kernel
theorem f_336_188 : ftc (PT 336) 188 = some (188, .aload_n 0, 1, 0, 0, 0) := by decide +kernel
theorem f_336_189 : ftc (PT 336) 189 = some (189, .iload 16, 2, 0, 0, 0) := by decide +kernel
theorem f_336_191 : ftc (PT 336) 191 = some (191, .invokevirtual 104, 3, 220, 2092, 1801) := by decide +kernel
theorem f_336_194 : ftc (PT 336) 194 = some (194, .ifCond .eq 29, 3, 223, 0, 0) := by decide +kernel
theorem f_336_197 : ftc (PT 336) 197 = some (197, .aload_n 0, 1, 0, 0, 0) := by decide +kernel
theorem f_336_198 : ftc (PT 336) 198 = some (198, .iload 16, 2, 0, 0, 0) := by decide +kernel
theorem f_336_200 : ftc (PT 336) 200 = some (200, .iconst 5, 1, 0, 0, 0) := by decide +kernel
theorem f_336_201 : ftc (PT 336) 201 = some (201, .aload_n 0, 1, 0, 0, 0) := by decide +kernel
theorem f_336_202 : ftc (PT 336) 202 = some (202, .iload 16, 2, 0, 0, 0) := by decide +kernel
theorem f_336_204 : ftc (PT 336) 204 = some (204, .invokevirtual 104, 3, 220, 2092, 1801) := by decide +kernel
theorem f_336_207 : ftc (PT 336) 207 = some (207, .isub, 1, 0, 0, 0) := by decide +kernel
theorem f_336_208 : ftc (PT 336) 208 = some (208, .aload_n 0, 1, 0, 0, 0) := by decide +kernel
theorem f_336_209 : ftc (PT 336) 209 = some (209, .iload 16, 2, 0, 0, 0) := by decide +kernel
theorem f_336_211 : ftc (PT 336) 211 = some (211, .invokevirtual 108, 3, 223, 2092, 1813) := by decide +kernel
theorem f_336_214 : ftc (PT 336) 214 = some (214, .aload_n 0, 1, 0, 0, 0) := by decide +kernel
theorem f_336_215 : ftc (PT 336) 215 = some (215, .iload 16, 2, 0, 0, 0) := by decide +kernel
theorem f_336_217 : ftc (PT 336) 217 = some (217, .invokevirtual 111, 3, 224, 2092, 1817) := by decide +kernel
theorem f_336_220 : ftc (PT 336) 220 = some (220, .invokevirtual 96, 3, 216, 5260, 1785) := by decide +kernel
theorem f_336_223 : ftc (PT 336) 223 = some (223, .iinc 16 1, 3, 0, 0, 0) := by decide +kernel
theorem f_336_226 : ftc (PT 336) 226 = some (226, .goto (-47), 3, 179, 0, 0) := by decide +kernel
theorem f_336_229 : ftc (PT 336) 229 = some (229, .iconst 0, 1, 0, 0, 0) := by decide +kernel
theorem f_336_230 : ftc (PT 336) 230 = some (230, .ireturn, 1, 0, 0, 0) := by decide +kernel
theorem f_337_0 : ftc (PT 337) 0 = some (0, .aload_n 0, 1, 0, 0, 0) := by decide +kernel
theorem f_337_1 : ftc (PT 337) 1 = some (1, .iload_n 1, 1, 0, 0, 0) := by decide +kernel
theorem f_337_2 : ftc (PT 337) 2 = some (2, .iload_n 2, 1, 0, 0, 0) := by decide +kernel
theorem f_337_3 : ftc (PT 337) 3 = some (3, .invokestatic 485, 3, 338, 2050, 2270) := by decide +kernel
theorem f_337_6 : ftc (PT 337) 6 = some (6, .ifCond .eq 7, 3, 13, 0, 0) := by decide +kernel
theorem f_337_9 : ftc (PT 337) 9 = some (9, .iconst 0, 1, 0, 0, 0) := by decide +kernel
theorem f_337_10 : ftc (PT 337) 10 = some (10, .goto 4, 3, 14, 0, 0) := by decide +kernel
theorem f_337_13 : ftc (PT 337) 13 = some (13, .iconst 1, 1, 0, 0, 0) := by decide +kernel
theorem f_337_14 : ftc (PT 337) 14 = some (14, .putfield 55, 3, 12, 0, 1636) := by decide +kernel
theorem f_337_17 : ftc (PT 337) 17 = some (17, .aload_n 0, 1, 0, 0, 0) := by decide +kernel
theorem f_337_18 : ftc (PT 337) 18 = some (18, .getfield 55, 3, 12, 0, 1636) := by decide +kernel
theorem f_337_21 : ftc (PT 337) 21 = some (21, .ifCond .le 5, 3, 26, 0, 0) := by decide +kernel
theorem f_337_24 : ftc (PT 337) 24 = some (24, .iconst 0, 1, 0, 0, 0) := by decide +kernel
theorem f_337_25 : ftc (PT 337) 25 = some (25, .ireturn, 1, 0, 0, 0) := by decide +kernel
theorem f_337_26 : ftc (PT 337) 26 = some (26, .aload_n 0, 1, 0, 0, 0) := by decide +kernel
theorem f_337_27 : ftc (PT 337) 27 = some (27, .iload_n 1, 1, 0, 0, 0) := by decide +kernel
theorem f_337_28 : ftc (PT 337) 28 = some (28, .iload_n 2, 1, 0, 0, 0) := by decide +kernel
theorem f_337_29 : ftc (PT 337) 29 = some (29, .invokevirtual 488, 3, 339, 8268, 2273) := by decide +kernel
theorem f_337_32 : ftc (PT 337) 32 = some (32, .iconst 0, 1, 0, 0, 0) := by decide +kernel
theorem f_337_33 : ftc (PT 337) 33 = some (33, .istore_n 3, 1, 0, 0, 0) := by decide +kernel
theorem f_337_34 : ftc (PT 337) 34 = some (34, .sipush 10000, 3, 0, 0, 0) := by decide +kernel
theorem f_337_37 : ftc (PT 337) 37 = some (37, .istore 4, 2, 0, 0, 0) := by decide +kernel
theorem f_337_39 : ftc (PT 337) 39 = some (39, .iload_n 3, 1, 0, 0, 0) := by decide +kernel
theorem f_337_40 : ftc (PT 337) 40 = some (40, .iload 4, 2, 0, 0, 0) := by decide +kernel
theorem f_337_42 : ftc (PT 337) 42 = some (42, .if_icmp .ge 54, 3, 96, 0, 0) := by decide +kernel
theorem f_337_45 : ftc (PT 337) 45 = some (45, .iload_n 3, 1, 0, 0, 0) := by decide +kernel
theorem f_337_46 : ftc (PT 337) 46 = some (46, .iload 4, 2, 0, 0, 0) := by decide +kernel
theorem f_337_48 : ftc (PT 337) 48 = some (48, .iadd, 1, 0, 0, 0) := by decide +kernel
theorem f_337_49 : ftc (PT 337) 49 = some (49, .iconst 1, 1, 0, 0, 0) := by decide +kernel
theorem f_337_50 : ftc (PT 337) 50 = some (50, .iadd, 1, 0, 0, 0) := by decide +kernel
theorem f_337_51 : ftc (PT 337) 51 = some (51, .iconst 2, 1, 0, 0, 0) := by decide +kernel
theorem f_337_52 : ftc (PT 337) 52 = some (52, .idiv, 1, 0, 0, 0) := by decide +kernel
theorem f_337_53 : ftc (PT 337) 53 = some (53, .istore 5, 2, 0, 0, 0) := by decide +kernel
theorem f_337_55 : ftc (PT 337) 55 = some (55, .aload_n 0, 1, 0, 0, 0) := by decide +kernel
theorem f_337_56 : ftc (PT 337) 56 = some (56, .bipush 10, 2, 0, 0, 0) := by decide +kernel
theorem f_337_58 : ftc (PT 337) 58 = some (58, .bipush 8, 2, 0, 0, 0) := by decide +kernel
theorem f_337_60 : ftc (PT 337) 60 = some (60, .ldc2_w 491, 3, 2307, 0, 10000) := by decide +kernel
theorem f_337_63 : ftc (PT 337) 63 = some (63, .bipush 9, 2, 0, 0, 0) := by decide +kernel
theorem f_337_65 : ftc (PT 337) 65 = some (65, .iload 5, 2, 0, 0, 0) := by decide +kernel
theorem f_337_67 : ftc (PT 337) 67 = some (67, .ineg, 1, 0, 0, 0) := by decide +kernel
theorem f_337_68 : ftc (PT 337) 68 = some (68, .i2l, 1, 0, 0, 0) := by decide +kernel
theorem f_337_69 : ftc (PT 337) 69 = some (69, .invokevirtual 465, 3, 342, 13484, 2286) := by decide +kernel
theorem f_337_72 : ftc (PT 337) 72 = some (72, .aload_n 0, 1, 0, 0, 0) := by decide +kernel
theorem f_337_73 : ftc (PT 337) 73 = some (73, .bipush 10, 2, 0, 0, 0) := by decide +kernel
theorem f_337_75 : ftc (PT 337) 75 = some (75, .invokevirtual 460, 3, 345, 3116, 2298) := by decide +kernel
theorem f_337_78 : ftc (PT 337) 78 = some (78, .ifCond .lt 9, 3, 87, 0, 0) := by decide +kernel
theorem f_337_81 : ftc (PT 337) 81 = some (81, .iload 5, 2, 0, 0, 0) := by decide +kernel
theorem f_337_83 : ftc (PT 337) 83 = some (83, .istore_n 3, 1, 0, 0, 0) := by decide +kernel
theorem f_337_84 : ftc (PT 337) 84 = some (84, .goto 9, 3, 93, 0, 0) := by decide +kernel
theorem f_337_87 : ftc (PT 337) 87 = some (87, .iload 5, 2, 0, 0, 0) := by decide +kernel
theorem f_337_89 : ftc (PT 337) 89 = some (89, .iconst 1, 1, 0, 0, 0) := by decide +kernel
theorem f_337_90 : ftc (PT 337) 90 = some (90, .isub, 1, 0, 0, 0) := by decide +kernel
theorem f_337_91 : ftc (PT 337) 91 = some (91, .istore 4, 2, 0, 0, 0) := by decide +kernel
theorem f_337_93 : ftc (PT 337) 93 = some (93, .goto (-54), 3, 39, 0, 0) := by decide +kernel
theorem f_337_96 : ftc (PT 337) 96 = some (96, .iload_n 3, 1, 0, 0, 0) := by decide +kernel
theorem f_337_97 : ftc (PT 337) 97 = some (97, .ireturn, 1, 0, 0, 0) := by decide +kernel
theorem f_338_0 : ftc (PT 338) 0 = some (0, .iload_n 1, 1, 0, 0, 0) := by decide +kernel
theorem f_338_1 : ftc (PT 338) 1 = some (1, .ifCond .eq 14, 3, 15, 0, 0) := by decide +kernel
theorem f_338_4 : ftc (PT 338) 4 = some (4, .iload_n 0, 1, 0, 0, 0) := by decide +kernel
theorem f_338_5 : ftc (PT 338) 5 = some (5, .bipush (-10), 2, 0, 0, 0) := by decide +kernel
theorem f_338_7 : ftc (PT 338) 7 = some (7, .bipush 10, 2, 0, 0, 0) := by decide +kernel
theorem f_338_9 : ftc (PT 338) 9 = some (9, .invokestatic 62, 3, 208, 3075, 1624) := by decide +kernel
theorem f_338_12 : ftc (PT 338) 12 = some (12, .goto 9, 3, 21, 0, 0) := by decide +kernel
theorem f_338_15 : ftc (PT 338) 15 = some (15, .iload_n 0, 1, 0, 0, 0) := by decide +kernel
theorem f_338_16 : ftc (PT 338) 16 = some (16, .iconst 1, 1, 0, 0, 0) := by decide +kernel
theorem f_338_17 : ftc (PT 338) 17 = some (17, .iconst 3, 1, 0, 0, 0) := by decide +kernel
theorem f_338_18 : ftc (PT 338) 18 = some (18, .invokestatic 62, 3, 208, 3075, 1624) := by decide +kernel
theorem f_338_21 : ftc (PT 338) 21 = some (21, .ireturn, 1, 1, 0, 0) := by decide +kernel
theorem f_339_0 : ftc (PT 339) 0 = some (0, .aload_n 0, 1, 0, 0, 0) := by decide +kernel
theorem f_339_1 : ftc (PT 339) 1 = some (1, .getfield 7, 3, 12, 1, 1637) := by decide +kernel
theorem f_339_4 : ftc (PT 339) 4 = some (4, .iconst 0, 1, 0, 0, 0) := by decide +kernel
theorem f_339_5 : ftc (PT 339) 5 = some (5, .iaload, 1, 0, 0, 0) := by decide +kernel
theorem f_339_6 : ftc (PT 339) 6 = some (6, .istore_n 3, 1, 0, 0, 0) := by decide +kernel
theorem f_339_7 : ftc (PT 339) 7 = some (7, .aload_n 0, 1, 0, 0, 0) := by decide +kernel
theorem f_339_8 : ftc (PT 339) 8 = some (8, .getfield 7, 3, 12, 1, 1637) := by decide +kernel
theorem f_339_11 : ftc (PT 339) 11 = some (11, .iconst 1, 1, 0, 0, 0) := by decide +kernel
theorem f_339_12 : ftc (PT 339) 12 = some (12, .iaload, 1, 0, 0, 0) := by decide +kernel
theorem f_339_13 : ftc (PT 339) 13 = some (13, .istore 4, 2, 0, 0, 0) := by decide +kernel
theorem f_339_15 : ftc (PT 339) 15 = some (15, .aload_n 0, 1, 0, 0, 0) := by decide +kernel
theorem f_339_16 : ftc (PT 339) 16 = some (16, .getfield 7, 3, 12, 1, 1637) := by decide +kernel
theorem f_339_19 : ftc (PT 339) 19 = some (19, .iconst 2, 1, 0, 0, 0) := by decide +kernel
theorem f_339_20 : ftc (PT 339) 20 = some (20, .iaload, 1, 0, 0, 0) := by decide +kernel
theorem f_339_21 : ftc (PT 339) 21 = some (21, .istore 5, 2, 0, 0, 0) := by decide +kernel
theorem f_339_23 : ftc (PT 339) 23 = some (23, .iload_n 2, 1, 0, 0, 0) := by decide +kernel
theorem f_339_24 : ftc (PT 339) 24 = some (24, .ifCond .ne 12, 3, 36, 0, 0) := by decide +kernel
theorem f_339_27 : ftc (PT 339) 27 = some (27, .iload 4, 2, 0, 0, 0) := by decide +kernel
theorem f_339_29 : ftc (PT 339) 29 = some (29, .ifCond .le 7, 3, 36, 0, 0) := by decide +kernel
theorem f_339_32 : ftc (PT 339) 32 = some (32, .iconst 1, 1, 0, 0, 0) := by decide +kernel
theorem f_339_33 : ftc (PT 339) 33 = some (33, .goto 4, 3, 37, 0, 0) := by decide +kernel
theorem f_339_36 : ftc (PT 339) 36 = some (36, .iconst 0, 1, 0, 0, 0) := by decide +kernel
theorem f_339_37 : ftc (PT 339) 37 = some (37, .istore 6, 2, 0, 0, 0) := by decide +kernel
theorem f_339_39 : ftc (PT 339) 39 = some (39, .aload_n 0, 1, 0, 0, 0) := by decide +kernel
theorem f_339_40 : ftc (PT 339) 40 = some (40, .iconst 0, 1, 0, 0, 0) := by decide +kernel
theorem f_339_41 : ftc (PT 339) 41 = some (41, .iload_n 2, 1, 0, 0, 0) := by decide +kernel
theorem f_339_42 : ftc (PT 339) 42 = some (42, .ifCond .ne 8, 3, 50, 0, 0) := by decide +kernel
theorem f_339_45 : ftc (PT 339) 45 = some (45, .iload 6, 2, 0, 0, 0) := by decide +kernel
theorem f_339_47 : ftc (PT 339) 47 = some (47, .ifCond .eq 8, 3, 55, 0, 0) := by decide +kernel
theorem f_339_50 : ftc (PT 339) 50 = some (50, .iload_n 3, 1, 0, 0, 0) := by decide +kernel
theorem f_339_51 : ftc (PT 339) 51 = some (51, .i2l, 1, 0, 0, 0) := by decide +kernel
theorem f_339_52 : ftc (PT 339) 52 = some (52, .goto 8, 3, 60, 0, 0) := by decide +kernel
theorem f_339_55 : ftc (PT 339) 55 = some (55, .iload_n 3, 1, 0, 0, 0) := by decide +kernel
theorem f_339_56 : ftc (PT 339) 56 = some (56, .i2l, 1, 0, 0, 0) := by decide +kernel
theorem f_339_57 : ftc (PT 339) 57 = some (57, .iload_n 1, 1, 0, 0, 0) := by decide +kernel
theorem f_339_58 : ftc (PT 339) 58 = some (58, .i2l, 1, 0, 0, 0) := by decide +kernel
theorem f_339_59 : ftc (PT 339) 59 = some (59, .lmul, 1, 0, 0, 0) := by decide +kernel
theorem f_339_60 : ftc (PT 339) 60 = some (60, .invokevirtual 475, 3, 340, 7244, 2277) := by decide +kernel
theorem f_339_63 : ftc (PT 339) 63 = some (63, .aload_n 0, 1, 0, 0, 0) := by decide +kernel
theorem f_339_64 : ftc (PT 339) 64 = some (64, .iconst 1, 1, 0, 0, 0) := by decide +kernel
theorem f_339_65 : ftc (PT 339) 65 = some (65, .iload 6, 2, 0, 0, 0) := by decide +kernel
theorem f_339_67 : ftc (PT 339) 67 = some (67, .ifCond .eq 12, 3, 79, 0, 0) := by decide +kernel
theorem f_339_70 : ftc (PT 339) 70 = some (70, .iload 4, 2, 0, 0, 0) := by decide +kernel
theorem f_339_72 : ftc (PT 339) 72 = some (72, .i2l, 1, 0, 0, 0) := by decide +kernel
theorem f_339_73 : ftc (PT 339) 73 = some (73, .iload_n 1, 1, 0, 0, 0) := by decide +kernel
theorem f_339_74 : ftc (PT 339) 74 = some (74, .i2l, 1, 0, 0, 0) := by decide +kernel
theorem f_339_75 : ftc (PT 339) 75 = some (75, .lmul, 1, 0, 0, 0) := by decide +kernel
theorem f_339_76 : ftc (PT 339) 76 = some (76, .goto 6, 3, 82, 0, 0) := by decide +kernel
theorem f_339_79 : ftc (PT 339) 79 = some (79, .iload 4, 2, 0, 0, 0) := by decide +kernel
theorem f_339_81 : ftc (PT 339) 81 = some (81, .i2l, 1, 0, 0, 0) := by decide +kernel
theorem f_339_82 : ftc (PT 339) 82 = some (82, .invokevirtual 475, 3, 340, 7244, 2277) := by decide +kernel
theorem f_339_85 : ftc (PT 339) 85 = some (85, .aload_n 0, 1, 0, 0, 0) := by decide +kernel
theorem f_339_86 : ftc (PT 339) 86 = some (86, .iconst 2, 1, 0, 0, 0) := by decide +kernel
theorem f_339_87 : ftc (PT 339) 87 = some (87, .iload_n 2, 1, 0, 0, 0) := by decide +kernel
theorem f_339_88 : ftc (PT 339) 88 = some (88, .ifCond .ne 8, 3, 96, 0, 0) := by decide +kernel
theorem f_339_91 : ftc (PT 339) 91 = some (91, .iload 6, 2, 0, 0, 0) := by decide +kernel
theorem f_339_93 : ftc (PT 339) 93 = some (93, .ifCond .eq 9, 3, 102, 0, 0) := by decide +kernel
theorem f_339_96 : ftc (PT 339) 96 = some (96, .iload 5, 2, 0, 0, 0) := by decide +kernel
theorem f_339_98 : ftc (PT 339) 98 = some (98, .i2l, 1, 0, 0, 0) := by decide +kernel
theorem f_339_99 : ftc (PT 339) 99 = some (99, .goto 9, 3, 108, 0, 0) := by decide +kernel
theorem f_339_102 : ftc (PT 339) 102 = some (102, .iload 5, 2, 0, 0, 0) := by decide +kernel
theorem f_339_104 : ftc (PT 339) 104 = some (104, .i2l, 1, 0, 0, 0) := by decide +kernel
theorem f_339_105 : ftc (PT 339) 105 = some (105, .iload_n 1, 1, 0, 0, 0) := by decide +kernel
theorem f_339_106 : ftc (PT 339) 106 = some (106, .i2l, 1, 0, 0, 0) := by decide +kernel
theorem f_339_107 : ftc (PT 339) 107 = some (107, .lmul, 1, 0, 0, 0) := by decide +kernel
theorem f_339_108 : ftc (PT 339) 108 = some (108, .invokevirtual 475, 3, 340, 7244, 2277) := by decide +kernel
theorem f_339_111 : ftc (PT 339) 111 = some (111, .aload_n 0, 1, 0, 0, 0) := by decide +kernel
theorem f_339_112 : ftc (PT 339) 112 = some (112, .iconst 3, 1, 0, 0, 0) := by decide +kernel
theorem f_339_113 : ftc (PT 339) 113 = some (113, .lconst 0, 1, 0, 0, 0) := by decide +kernel
theorem f_339_114 : ftc (PT 339) 114 = some (114, .invokevirtual 475, 3, 340, 7244, 2277) := by decide +kernel
theorem f_339_117 : ftc (PT 339) 117 = some (117, .iconst 0, 1, 0, 0, 0) := by decide +kernel
theorem f_339_118 : ftc (PT 339) 118 = some (118, .istore 7, 2, 0, 0, 0) := by decide +kernel
theorem f_339_120 : ftc (PT 339) 120 = some (120, .iload 7, 2, 0, 0, 0) := by decide +kernel
theorem f_339_122 : ftc (PT 339) 122 = some (122, .aload_n 0, 1, 0, 0, 0) := by decide +kernel
theorem f_339_123 : ftc (PT 339) 123 = some (123, .invokevirtual 92, 3, 215, 1036, 1781) := by decide +kernel
theorem f_339_126 : ftc (PT 339) 126 = some (126, .if_icmp .ge 82, 3, 208, 0, 0) := by decide +kernel
theorem f_339_129 : ftc (PT 339) 129 = some (129, .iload_n 2, 1, 0, 0, 0) := by decide +kernel
theorem f_339_130 : ftc (PT 339) 130 = some (130, .ifCond .eq 35, 3, 165, 0, 0) := by decide +kernel
theorem f_339_133 : ftc (PT 339) 133 = some (133, .aload_n 0, 1, 0, 0, 0) := by decide +kernel
theorem f_339_134 : ftc (PT 339) 134 = some (134, .ldc2_w 456, 3, 2265, 0, 20) := by decide +kernel
theorem f_339_137 : ftc (PT 339) 137 = some (137, .iload_n 1, 1, 0, 0, 0) := by decide +kernel
theorem f_339_138 : ftc (PT 339) 138 = some (138, .i2l, 1, 0, 0, 0) := by decide +kernel
theorem f_339_139 : ftc (PT 339) 139 = some (139, .ladd, 1, 0, 0, 0) := by decide +kernel
theorem f_339_140 : ftc (PT 339) 140 = some (140, .aload_n 0, 1, 0, 0, 0) := by decide +kernel
theorem f_339_141 : ftc (PT 339) 141 = some (141, .iload 7, 2, 0, 0, 0) := by decide +kernel
theorem f_339_143 : ftc (PT 339) 143 = some (143, .invokevirtual 108, 3, 223, 2092, 1813) := by decide +kernel
theorem f_339_146 : ftc (PT 339) 146 = some (146, .i2l, 1, 0, 0, 0) := by decide +kernel
theorem f_339_147 : ftc (PT 339) 147 = some (147, .lmul, 1, 0, 0, 0) := by decide +kernel
theorem f_339_148 : ftc (PT 339) 148 = some (148, .ldc2_w 456, 3, 2265, 0, 20) := by decide +kernel
theorem f_339_151 : ftc (PT 339) 151 = some (151, .aload_n 0, 1, 0, 0, 0) := by decide +kernel
theorem f_339_152 : ftc (PT 339) 152 = some (152, .iload 7, 2, 0, 0, 0) := by decide +kernel
theorem f_339_154 : ftc (PT 339) 154 = some (154, .invokevirtual 111, 3, 224, 2092, 1817) := by decide +kernel
theorem f_339_157 : ftc (PT 339) 157 = some (157, .i2l, 1, 0, 0, 0) := by decide +kernel
theorem f_339_158 : ftc (PT 339) 158 = some (158, .lmul, 1, 0, 0, 0) := by decide +kernel
theorem f_339_159 : ftc (PT 339) 159 = some (159, .invokevirtual 179, 3, 246, 5196, 1900) := by decide +kernel
theorem f_339_162 : ftc (PT 339) 162 = some (162, .goto 22, 3, 184, 0, 0) := by decide +kernel
theorem f_339_165 : ftc (PT 339) 165 = some (165, .aload_n 0, 1, 0, 0, 0) := by decide +kernel
theorem f_339_166 : ftc (PT 339) 166 = some (166, .aload_n 0, 1, 0, 0, 0) := by decide +kernel
theorem f_339_167 : ftc (PT 339) 167 = some (167, .iload 7, 2, 0, 0, 0) := by decide +kernel
theorem f_339_169 : ftc (PT 339) 169 = some (169, .invokevirtual 108, 3, 223, 2092, 1813) := by decide +kernel
theorem f_339_172 : ftc (PT 339) 172 = some (172, .i2l, 1, 0, 0, 0) := by decide +kernel
theorem f_339_173 : ftc (PT 339) 173 = some (173, .aload_n 0, 1, 0, 0, 0) := by decide +kernel
theorem f_339_174 : ftc (PT 339) 174 = some (174, .iload 7, 2, 0, 0, 0) := by decide +kernel
theorem f_339_176 : ftc (PT 339) 176 = some (176, .invokevirtual 111, 3, 224, 2092, 1817) := by decide +kernel
theorem f_339_179 : ftc (PT 339) 179 = some (179, .i2l, 1, 0, 0, 0) := by decide +kernel
theorem f_339_180 : ftc (PT 339) 180 = some (180, .iload_n 1, 1, 0, 0, 0) := by decide +kernel
theorem f_339_181 : ftc (PT 339) 181 = some (181, .invokevirtual 185, 3, 245, 7276, 1896) := by decide +kernel
theorem f_339_184 : ftc (PT 339) 184 = some (184, .aload_n 0, 1, 0, 0, 0) := by decide +kernel
theorem f_339_185 : ftc (PT 339) 185 = some (185, .aload_n 0, 1, 0, 0, 0) := by decide +kernel
theorem f_339_186 : ftc (PT 339) 186 = some (186, .iload 7, 2, 0, 0, 0) := by decide +kernel
theorem f_339_188 : ftc (PT 339) 188 = some (188, .invokevirtual 104, 3, 220, 2092, 1801) := by decide +kernel
theorem f_339_191 : ftc (PT 339) 191 = some (191, .aload_n 0, 1, 0, 0, 0) := by decide +kernel
theorem f_339_192 : ftc (PT 339) 192 = some (192, .getfield 81, 3, 12, 8, 1644) := by decide +kernel
theorem f_339_195 : ftc (PT 339) 195 = some (195, .aload_n 0, 1, 0, 0, 0) := by decide +kernel
theorem f_339_196 : ftc (PT 339) 196 = some (196, .getfield 85, 3, 12, 9, 1645) := by decide +kernel
theorem f_339_199 : ftc (PT 339) 199 = some (199, .invokevirtual 479, 3, 341, 10348, 2282) := by decide +kernel
theorem f_339_202 : ftc (PT 339) 202 = some (202, .iinc 7 1, 3, 0, 0, 0) := by decide +kernel
theorem f_339_205 : ftc (PT 339) 205 = some (205, .goto (-85), 3, 120, 0, 0) := by decide +kernel
theorem f_339_208 : ftc (PT 339) 208 = some (208, .aload_n 0, 1, 0, 0, 0) := by decide +kernel
theorem f_339_209 : ftc (PT 339) 209 = some (209, .iconst 4, 1, 0, 0, 0) := by decide +kernel
theorem f_339_210 : ftc (PT 339) 210 = some (210, .iconst 0, 1, 0, 0, 0) := by decide +kernel
theorem f_339_211 : ftc (PT 339) 211 = some (211, .lconst 1, 1, 0, 0, 0) := by decide +kernel
theorem f_339_212 : ftc (PT 339) 212 = some (212, .iconst 2, 1, 0, 0, 0) := by decide +kernel
theorem f_339_213 : ftc (PT 339) 213 = some (213, .ldc2_w 463, 3, 2302, 0, (-1)) := by decide +kernel
theorem f_339_216 : ftc (PT 339) 216 = some (216, .invokevirtual 465, 3, 342, 13484, 2286) := by decide +kernel
theorem f_339_219 : ftc (PT 339) 219 = some (219, .aload_n 0, 1, 0, 0, 0) := by decide +kernel
theorem f_339_220 : ftc (PT 339) 220 = some (220, .iconst 5, 1, 0, 0, 0) := by decide +kernel
theorem f_339_221 : ftc (PT 339) 221 = some (221, .iconst 1, 1, 0, 0, 0) := by decide +kernel
theorem f_339_222 : ftc (PT 339) 222 = some (222, .lconst 1, 1, 0, 0, 0) := by decide +kernel
theorem f_339_223 : ftc (PT 339) 223 = some (223, .iconst 3, 1, 0, 0, 0) := by decide +kernel
theorem f_339_224 : ftc (PT 339) 224 = some (224, .ldc2_w 463, 3, 2302, 0, (-1)) := by decide +kernel
theorem f_339_227 : ftc (PT 339) 227 = some (227, .invokevirtual 465, 3, 342, 13484, 2286) := by decide +kernel
theorem f_339_230 : ftc (PT 339) 230 = some (230, .aload_n 0, 1, 0, 0, 0) := by decide +kernel
theorem f_339_231 : ftc (PT 339) 231 = some (231, .bipush 6, 2, 0, 0, 0) := by decide +kernel
theorem f_339_233 : ftc (PT 339) 233 = some (233, .iconst 0, 1, 0, 0, 0) := by decide +kernel
theorem f_339_234 : ftc (PT 339) 234 = some (234, .lconst 1, 1, 0, 0, 0) := by decide +kernel
theorem f_339_235 : ftc (PT 339) 235 = some (235, .iconst 2, 1, 0, 0, 0) := by decide +kernel
theorem f_339_236 : ftc (PT 339) 236 = some (236, .lconst 1, 1, 0, 0, 0) := by decide +kernel
theorem f_339_237 : ftc (PT 339) 237 = some (237, .invokevirtual 465, 3, 342, 13484, 2286) := by decide +kernel
theorem f_339_240 : ftc (PT 339) 240 = some (240, .aload_n 0, 1, 0, 0, 0) := by decide +kernel
theorem f_339_241 : ftc (PT 339) 241 = some (241, .bipush 7, 2, 0, 0, 0) := by decide +kernel
theorem f_339_243 : ftc (PT 339) 243 = some (243, .iconst 1, 1, 0, 0, 0) := by decide +kernel
theorem f_339_244 : ftc (PT 339) 244 = some (244, .lconst 1, 1, 0, 0, 0) := by decide +kernel
theorem f_339_245 : ftc (PT 339) 245 = some (245, .iconst 3, 1, 0, 0, 0) := by decide +kernel
theorem f_339_246 : ftc (PT 339) 246 = some (246, .lconst 1, 1, 0, 0, 0) := by decide +kernel
theorem f_339_247 : ftc (PT 339) 247 = some (247, .invokevirtual 465, 3, 342, 13484, 2286) := by decide +kernel
theorem f_339_250 : ftc (PT 339) 250 = some (250, .aload_n 0, 1, 0, 0, 0) := by decide +kernel
theorem f_339_251 : ftc (PT 339) 251 = some (251, .bipush 8, 2, 0, 0, 0) := by decide +kernel
theorem f_339_253 : ftc (PT 339) 253 = some (253, .iconst 4, 1, 0, 0, 0) := by decide +kernel
theorem f_339_254 : ftc (PT 339) 254 = some (254, .iconst 5, 1, 0, 0, 0) := by decide +kernel
theorem f_339_255 : ftc (PT 339) 255 = some (255, .invokevirtual 482, 3, 346, 10348, 2303) := by decide +kernel
theorem f_339_258 : ftc (PT 339) 258 = some (258, .aload_n 0, 1, 0, 0, 0) := by decide +kernel
theorem f_339_259 : ftc (PT 339) 259 = some (259, .bipush 9, 2, 0, 0, 0) := by decide +kernel
theorem f_339_261 : ftc (PT 339) 261 = some (261, .bipush 6, 2, 0, 0, 0) := by decide +kernel
theorem f_339_263 : ftc (PT 339) 263 = some (263, .bipush 7, 2, 0, 0, 0) := by decide +kernel
theorem f_339_265 : ftc (PT 339) 265 = some (265, .invokevirtual 482, 3, 346, 10348, 2303) := by decide +kernel
theorem f_339_268 : ftc (PT 339) 268 = some (268, .return_, 1, 0, 0, 0) := by decide +kernel
theorem f_340_0 : ftc (PT 340) 0 = some (0, .lload_n 2, 1, 0, 0, 0) := by decide +kernel
theorem f_340_1 : ftc (PT 340) 1 = some (1, .lstore 4, 2, 0, 0, 0) := by decide +kernel
theorem f_340_3 : ftc (PT 340) 3 = some (3, .iconst 0, 1, 0, 0, 0) := by decide +kernel
theorem f_340_4 : ftc (PT 340) 4 = some (4, .istore 6, 2, 0, 0, 0) := by decide +kernel
theorem f_340_6 : ftc (PT 340) 6 = some (6, .iload 6, 2, 0, 0, 0) := by decide +kernel
theorem f_340_8 : ftc (PT 340) 8 = some (8, .bipush 14, 2, 0, 0, 0) := by decide +kernel
theorem f_340_10 : ftc (PT 340) 10 = some (10, .if_icmp .ge 48, 3, 58, 0, 0) := by decide +kernel
theorem f_340_13 : ftc (PT 340) 13 = some (13, .aload_n 0, 1, 0, 0, 0) := by decide +kernel
theorem f_340_14 : ftc (PT 340) 14 = some (14, .getfield 29, 3, 12, 38, 1674) := by decide +kernel
theorem f_340_17 : ftc (PT 340) 17 = some (17, .bipush 14, 2, 0, 0, 0) := by decide +kernel
theorem f_340_19 : ftc (PT 340) 19 = some (19, .iload_n 1, 1, 0, 0, 0) := by decide +kernel
theorem f_340_20 : ftc (PT 340) 20 = some (20, .imul, 1, 0, 0, 0) := by decide +kernel
theorem f_340_21 : ftc (PT 340) 21 = some (21, .iload 6, 2, 0, 0, 0) := by decide +kernel
theorem f_340_23 : ftc (PT 340) 23 = some (23, .iadd, 1, 0, 0, 0) := by decide +kernel
theorem f_340_24 : ftc (PT 340) 24 = some (24, .iload 6, 2, 0, 0, 0) := by decide +kernel
theorem f_340_26 : ftc (PT 340) 26 = some (26, .iconst 1, 1, 0, 0, 0) := by decide +kernel
theorem f_340_27 : ftc (PT 340) 27 = some (27, .iadd, 1, 0, 0, 0) := by decide +kernel
theorem f_340_28 : ftc (PT 340) 28 = some (28, .bipush 14, 2, 0, 0, 0) := by decide +kernel
theorem f_340_30 : ftc (PT 340) 30 = some (30, .if_icmp .ge 12, 3, 42, 0, 0) := by decide +kernel
theorem f_340_33 : ftc (PT 340) 33 = some (33, .lload 4, 2, 0, 0, 0) := by decide +kernel
theorem f_340_35 : ftc (PT 340) 35 = some (35, .ldc2_w 458, 3, 2281, 0, 1048575) := by decide +kernel
theorem f_340_38 : ftc (PT 340) 38 = some (38, .land, 1, 0, 0, 0) := by decide +kernel
theorem f_340_39 : ftc (PT 340) 39 = some (39, .goto 5, 3, 44, 0, 0) := by decide +kernel
theorem f_340_42 : ftc (PT 340) 42 = some (42, .lload 4, 2, 0, 0, 0) := by decide +kernel
theorem f_340_44 : ftc (PT 340) 44 = some (44, .lastore, 1, 0, 0, 0) := by decide +kernel
theorem f_340_45 : ftc (PT 340) 45 = some (45, .lload 4, 2, 0, 0, 0) := by decide +kernel
theorem f_340_47 : ftc (PT 340) 47 = some (47, .bipush 20, 2, 0, 0, 0) := by decide +kernel
theorem f_340_49 : ftc (PT 340) 49 = some (49, .lshr, 1, 0, 0, 0) := by decide +kernel
theorem f_340_50 : ftc (PT 340) 50 = some (50, .lstore 4, 2, 0, 0, 0) := by decide +kernel
theorem f_340_52 : ftc (PT 340) 52 = some (52, .iinc 6 1, 3, 0, 0, 0) := by decide +kernel
theorem f_340_55 : ftc (PT 340) 55 = some (55, .goto (-49), 3, 6, 0, 0) := by decide +kernel
theorem f_340_58 : ftc (PT 340) 58 = some (58, .return_, 1, 0, 0, 0) := by decide +kernel
theorem f_341_0 : ftc (PT 341) 0 = some (0, .iload_n 1, 1, 0, 0, 0) := by decide +kernel
theorem f_341_1 : ftc (PT 341) 1 = some (1, .ifCond .ne 52, 3, 53, 0, 0) := by decide +kernel
theorem f_341_4 : ftc (PT 341) 4 = some (4, .aload_n 0, 1, 0, 0, 0) := by decide +kernel
theorem f_341_5 : ftc (PT 341) 5 = some (5, .iconst 4, 1, 0, 0, 0) := by decide +kernel
theorem f_341_6 : ftc (PT 341) 6 = some (6, .iconst 0, 1, 0, 0, 0) := by decide +kernel
theorem f_341_7 : ftc (PT 341) 7 = some (7, .lload 4, 2, 0, 0, 0) := by decide +kernel
theorem f_341_9 : ftc (PT 341) 9 = some (9, .iconst 3, 1, 0, 0, 0) := by decide +kernel
theorem f_341_10 : ftc (PT 341) 10 = some (10, .lload_n 2, 1, 0, 0, 0) := by decide +kernel
theorem f_341_11 : ftc (PT 341) 11 = some (11, .lneg, 1, 0, 0, 0) := by decide +kernel
theorem f_341_12 : ftc (PT 341) 12 = some (12, .invokevirtual 465, 3, 342, 13484, 2286) := by decide +kernel
theorem f_341_15 : ftc (PT 341) 15 = some (15, .aload_n 0, 1, 0, 0, 0) := by decide +kernel
theorem f_341_16 : ftc (PT 341) 16 = some (16, .iconst 5, 1, 0, 0, 0) := by decide +kernel
theorem f_341_17 : ftc (PT 341) 17 = some (17, .iconst 1, 1, 0, 0, 0) := by decide +kernel
theorem f_341_18 : ftc (PT 341) 18 = some (18, .lload 4, 2, 0, 0, 0) := by decide +kernel
theorem f_341_20 : ftc (PT 341) 20 = some (20, .iconst 2, 1, 0, 0, 0) := by decide +kernel
theorem f_341_21 : ftc (PT 341) 21 = some (21, .lload_n 2, 1, 0, 0, 0) := by decide +kernel
theorem f_341_22 : ftc (PT 341) 22 = some (22, .invokevirtual 465, 3, 342, 13484, 2286) := by decide +kernel
theorem f_341_25 : ftc (PT 341) 25 = some (25, .aload_n 0, 1, 0, 0, 0) := by decide +kernel
theorem f_341_26 : ftc (PT 341) 26 = some (26, .bipush 6, 2, 0, 0, 0) := by decide +kernel
theorem f_341_28 : ftc (PT 341) 28 = some (28, .iconst 2, 1, 0, 0, 0) := by decide +kernel
theorem f_341_29 : ftc (PT 341) 29 = some (29, .lload 4, 2, 0, 0, 0) := by decide +kernel
theorem f_341_31 : ftc (PT 341) 31 = some (31, .iconst 1, 1, 0, 0, 0) := by decide +kernel
theorem f_341_32 : ftc (PT 341) 32 = some (32, .lload_n 2, 1, 0, 0, 0) := by decide +kernel
theorem f_341_33 : ftc (PT 341) 33 = some (33, .lneg, 1, 0, 0, 0) := by decide +kernel
theorem f_341_34 : ftc (PT 341) 34 = some (34, .invokevirtual 465, 3, 342, 13484, 2286) := by decide +kernel
theorem f_341_37 : ftc (PT 341) 37 = some (37, .aload_n 0, 1, 0, 0, 0) := by decide +kernel
theorem f_341_38 : ftc (PT 341) 38 = some (38, .bipush 7, 2, 0, 0, 0) := by decide +kernel
theorem f_341_40 : ftc (PT 341) 40 = some (40, .iconst 3, 1, 0, 0, 0) := by decide +kernel
theorem f_341_41 : ftc (PT 341) 41 = some (41, .lload 4, 2, 0, 0, 0) := by decide +kernel
theorem f_341_43 : ftc (PT 341) 43 = some (43, .iconst 0, 1, 0, 0, 0) := by decide +kernel
theorem f_341_44 : ftc (PT 341) 44 = some (44, .lload_n 2, 1, 0, 0, 0) := by decide +kernel
theorem f_341_45 : ftc (PT 341) 45 = some (45, .invokevirtual 465, 3, 342, 13484, 2286) := by decide +kernel
theorem f_341_48 : ftc (PT 341) 48 = some (48, .aload_n 0, 1, 0, 0, 0) := by decide +kernel
theorem f_341_49 : ftc (PT 341) 49 = some (49, .invokevirtual 472, 3, 343, 2060, 2290) := by decide +kernel
theorem f_341_52 : ftc (PT 341) 52 = some (52, .return_, 1, 0, 0, 0) := by decide +kernel
theorem f_341_53 : ftc (PT 341) 53 = some (53, .iload_n 1, 1, 0, 0, 0) := by decide +kernel
theorem f_341_54 : ftc (PT 341) 54 = some (54, .lload_n 2, 1, 0, 0, 0) := by decide +kernel
theorem f_341_55 : ftc (PT 341) 55 = some (55, .lload 4, 2, 0, 0, 0) := by decide +kernel
theorem f_341_57 : ftc (PT 341) 57 = some (57, .invokestatic 133, 3, 230, 5123, 1841) := by decide +kernel
theorem f_341_60 : ftc (PT 341) 60 = some (60, .lstore 6, 2, 0, 0, 0) := by decide +kernel
theorem f_341_62 : ftc (PT 341) 62 = some (62, .iload_n 1, 1, 0, 0, 0) := by decide +kernel
theorem f_341_63 : ftc (PT 341) 63 = some (63, .lload_n 2, 1, 0, 0, 0) := by decide +kernel
theorem f_341_64 : ftc (PT 341) 64 = some (64, .lload 4, 2, 0, 0, 0) := by decide +kernel
theorem f_341_66 : ftc (PT 341) 66 = some (66, .invokestatic 137, 3, 232, 5123, 1847) := by decide +kernel
theorem f_341_69 : ftc (PT 341) 69 = some (69, .lstore 8, 2, 0, 0, 0) := by decide +kernel
theorem f_341_71 : ftc (PT 341) 71 = some (71, .iload_n 1, 1, 0, 0, 0) := by decide +kernel
theorem f_341_72 : ftc (PT 341) 72 = some (72, .invokestatic 140, 3, 233, 1025, 1850) := by decide +kernel
theorem f_341_75 : ftc (PT 341) 75 = some (75, .ifCond .eq 68, 3, 143, 0, 0) := by decide +kernel
theorem f_341_78 : ftc (PT 341) 78 = some (78, .aload_n 0, 1, 0, 0, 0) := by decide +kernel
theorem f_341_79 : ftc (PT 341) 79 = some (79, .iconst 0, 1, 0, 0, 0) := by decide +kernel
theorem f_341_80 : ftc (PT 341) 80 = some (80, .invokevirtual 460, 3, 345, 3116, 2298) := by decide +kernel
theorem f_341_83 : ftc (PT 341) 83 = some (83, .ifCond .ne 12, 3, 95, 0, 0) := by decide +kernel
theorem f_341_86 : ftc (PT 341) 86 = some (86, .aload_n 0, 1, 0, 0, 0) := by decide +kernel
theorem f_341_87 : ftc (PT 341) 87 = some (87, .iconst 1, 1, 0, 0, 0) := by decide +kernel
theorem f_341_88 : ftc (PT 341) 88 = some (88, .invokevirtual 460, 3, 345, 3116, 2298) := by decide +kernel
theorem f_341_91 : ftc (PT 341) 91 = some (91, .ifCond .ne 4, 3, 95, 0, 0) := by decide +kernel
theorem f_341_94 : ftc (PT 341) 94 = some (94, .return_, 1, 0, 0, 0) := by decide +kernel
theorem f_341_95 : ftc (PT 341) 95 = some (95, .aload_n 0, 1, 0, 0, 0) := by decide +kernel
theorem f_341_96 : ftc (PT 341) 96 = some (96, .iconst 4, 1, 0, 0, 0) := by decide +kernel
theorem f_341_97 : ftc (PT 341) 97 = some (97, .iconst 0, 1, 0, 0, 0) := by decide +kernel
theorem f_341_98 : ftc (PT 341) 98 = some (98, .lload 8, 2, 0, 0, 0) := by decide +kernel
theorem f_341_100 : ftc (PT 341) 100 = some (100, .iconst 0, 1, 0, 0, 0) := by decide +kernel
theorem f_341_101 : ftc (PT 341) 101 = some (101, .lconst 0, 1, 0, 0, 0) := by decide +kernel
theorem f_341_102 : ftc (PT 341) 102 = some (102, .invokevirtual 465, 3, 342, 13484, 2286) := by decide +kernel
theorem f_341_105 : ftc (PT 341) 105 = some (105, .aload_n 0, 1, 0, 0, 0) := by decide +kernel
theorem f_341_106 : ftc (PT 341) 106 = some (106, .iconst 5, 1, 0, 0, 0) := by decide +kernel
theorem f_341_107 : ftc (PT 341) 107 = some (107, .iconst 1, 1, 0, 0, 0) := by decide +kernel
theorem f_341_108 : ftc (PT 341) 108 = some (108, .lload 8, 2, 0, 0, 0) := by decide +kernel
theorem f_341_110 : ftc (PT 341) 110 = some (110, .iconst 1, 1, 0, 0, 0) := by decide +kernel
theorem f_341_111 : ftc (PT 341) 111 = some (111, .lconst 0, 1, 0, 0, 0) := by decide +kernel
theorem f_341_112 : ftc (PT 341) 112 = some (112, .invokevirtual 465, 3, 342, 13484, 2286) := by decide +kernel
theorem f_341_115 : ftc (PT 341) 115 = some (115, .aload_n 0, 1, 0, 0, 0) := by decide +kernel
theorem f_341_116 : ftc (PT 341) 116 = some (116, .bipush 6, 2, 0, 0, 0) := by decide +kernel
theorem f_341_118 : ftc (PT 341) 118 = some (118, .iconst 2, 1, 0, 0, 0) := by decide +kernel
theorem f_341_119 : ftc (PT 341) 119 = some (119, .lload 8, 2, 0, 0, 0) := by decide +kernel
theorem f_341_121 : ftc (PT 341) 121 = some (121, .iconst 1, 1, 0, 0, 0) := by decide +kernel
theorem f_341_122 : ftc (PT 341) 122 = some (122, .lload 6, 2, 0, 0, 0) := by decide +kernel
theorem f_341_124 : ftc (PT 341) 124 = some (124, .lneg, 1, 0, 0, 0) := by decide +kernel
theorem f_341_125 : ftc (PT 341) 125 = some (125, .invokevirtual 465, 3, 342, 13484, 2286) := by decide +kernel
theorem f_341_128 : ftc (PT 341) 128 = some (128, .aload_n 0, 1, 0, 0, 0) := by decide +kernel
theorem f_341_129 : ftc (PT 341) 129 = some (129, .bipush 7, 2, 0, 0, 0) := by decide +kernel
theorem f_341_131 : ftc (PT 341) 131 = some (131, .iconst 3, 1, 0, 0, 0) := by decide +kernel
theorem f_341_132 : ftc (PT 341) 132 = some (132, .lload 8, 2, 0, 0, 0) := by decide +kernel
theorem f_341_134 : ftc (PT 341) 134 = some (134, .iconst 0, 1, 0, 0, 0) := by decide +kernel
theorem f_341_135 : ftc (PT 341) 135 = some (135, .lload 6, 2, 0, 0, 0) := by decide +kernel
theorem f_341_137 : ftc (PT 341) 137 = some (137, .invokevirtual 465, 3, 342, 13484, 2286) := by decide +kernel
theorem f_341_140 : ftc (PT 341) 140 = some (140, .goto 65, 3, 205, 0, 0) := by decide +kernel
theorem f_341_143 : ftc (PT 341) 143 = some (143, .aload_n 0, 1, 0, 0, 0) := by decide +kernel
theorem f_341_144 : ftc (PT 341) 144 = some (144, .iconst 2, 1, 0, 0, 0) := by decide +kernel
theorem f_341_145 : ftc (PT 341) 145 = some (145, .invokevirtual 460, 3, 345, 3116, 2298) := by decide +kernel
theorem f_341_148 : ftc (PT 341) 148 = some (148, .ifCond .ne 12, 3, 160, 0, 0) := by decide +kernel
theorem f_341_151 : ftc (PT 341) 151 = some (151, .aload_n 0, 1, 0, 0, 0) := by decide +kernel
theorem f_341_152 : ftc (PT 341) 152 = some (152, .iconst 3, 1, 0, 0, 0) := by decide +kernel
theorem f_341_153 : ftc (PT 341) 153 = some (153, .invokevirtual 460, 3, 345, 3116, 2298) := by decide +kernel
theorem f_341_156 : ftc (PT 341) 156 = some (156, .ifCond .ne 4, 3, 160, 0, 0) := by decide +kernel
theorem f_341_159 : ftc (PT 341) 159 = some (159, .return_, 1, 0, 0, 0) := by decide +kernel
theorem f_341_160 : ftc (PT 341) 160 = some (160, .aload_n 0, 1, 0, 0, 0) := by decide +kernel
theorem f_341_161 : ftc (PT 341) 161 = some (161, .iconst 4, 1, 0, 0, 0) := by decide +kernel
theorem f_341_162 : ftc (PT 341) 162 = some (162, .iconst 0, 1, 0, 0, 0) := by decide +kernel
theorem f_341_163 : ftc (PT 341) 163 = some (163, .lload 8, 2, 0, 0, 0) := by decide +kernel
theorem f_341_165 : ftc (PT 341) 165 = some (165, .iconst 3, 1, 0, 0, 0) := by decide +kernel
theorem f_341_166 : ftc (PT 341) 166 = some (166, .lload 6, 2, 0, 0, 0) := by decide +kernel
theorem f_341_168 : ftc (PT 341) 168 = some (168, .lneg, 1, 0, 0, 0) := by decide +kernel
theorem f_341_169 : ftc (PT 341) 169 = some (169, .invokevirtual 465, 3, 342, 13484, 2286) := by decide +kernel
theorem f_341_172 : ftc (PT 341) 172 = some (172, .aload_n 0, 1, 0, 0, 0) := by decide +kernel
theorem f_341_173 : ftc (PT 341) 173 = some (173, .iconst 5, 1, 0, 0, 0) := by decide +kernel
theorem f_341_174 : ftc (PT 341) 174 = some (174, .iconst 1, 1, 0, 0, 0) := by decide +kernel
theorem f_341_175 : ftc (PT 341) 175 = some (175, .lload 8, 2, 0, 0, 0) := by decide +kernel
theorem f_341_177 : ftc (PT 341) 177 = some (177, .iconst 2, 1, 0, 0, 0) := by decide +kernel
theorem f_341_178 : ftc (PT 341) 178 = some (178, .lload 6, 2, 0, 0, 0) := by decide +kernel
theorem f_341_180 : ftc (PT 341) 180 = some (180, .invokevirtual 465, 3, 342, 13484, 2286) := by decide +kernel
theorem f_341_183 : ftc (PT 341) 183 = some (183, .aload_n 0, 1, 0, 0, 0) := by decide +kernel
theorem f_341_184 : ftc (PT 341) 184 = some (184, .bipush 6, 2, 0, 0, 0) := by decide +kernel
theorem f_341_186 : ftc (PT 341) 186 = some (186, .iconst 2, 1, 0, 0, 0) := by decide +kernel
theorem f_341_187 : ftc (PT 341) 187 = some (187, .lload 8, 2, 0, 0, 0) := by decide +kernel
theorem f_341_189 : ftc (PT 341) 189 = some (189, .iconst 2, 1, 0, 0, 0) := by decide +kernel
theorem f_341_190 : ftc (PT 341) 190 = some (190, .lconst 0, 1, 0, 0, 0) := by decide +kernel
theorem f_341_191 : ftc (PT 341) 191 = some (191, .invokevirtual 465, 3, 342, 13484, 2286) := by decide +kernel
theorem f_341_194 : ftc (PT 341) 194 = some (194, .aload_n 0, 1, 0, 0, 0) := by decide +kernel
theorem f_341_195 : ftc (PT 341) 195 = some (195, .bipush 7, 2, 0, 0, 0) := by decide +kernel
theorem f_341_197 : ftc (PT 341) 197 = some (197, .iconst 3, 1, 0, 0, 0) := by decide +kernel
theorem f_341_198 : ftc (PT 341) 198 = some (198, .lload 8, 2, 0, 0, 0) := by decide +kernel
theorem f_341_200 : ftc (PT 341) 200 = some (200, .iconst 3, 1, 0, 0, 0) := by decide +kernel
theorem f_341_201 : ftc (PT 341) 201 = some (201, .lconst 0, 1, 0, 0, 0) := by decide +kernel
theorem f_341_202 : ftc (PT 341) 202 = some (202, .invokevirtual 465, 3, 342, 13484, 2286) := by decide +kernel
theorem f_341_205 : ftc (PT 341) 205 = some (205, .aload_n 0, 1, 0, 0, 0) := by decide +kernel
theorem f_341_206 : ftc (PT 341) 206 = some (206, .invokevirtual 472, 3, 343, 2060, 2290) := by decide +kernel
theorem f_341_209 : ftc (PT 341) 209 = some (209, .return_, 1, 0, 0, 0) := by decide +kernel
theorem f_342_0 : ftc (PT 342) 0 = some (0, .lconst 0, 1, 0, 0, 0) := by decide +kernel
theorem f_342_1 : ftc (PT 342) 1 = some (1, .lstore 8, 2, 0, 0, 0) := by decide +kernel
theorem f_342_3 : ftc (PT 342) 3 = some (3, .iconst 0, 1, 0, 0, 0) := by decide +kernel
theorem f_342_4 : ftc (PT 342) 4 = some (4, .istore 10, 2, 0, 0, 0) := by decide +kernel
theorem f_342_6 : ftc (PT 342) 6 = some (6, .iload 10, 2, 0, 0, 0) := by decide +kernel
theorem f_342_8 : ftc (PT 342) 8 = some (8, .bipush 14, 2, 0, 0, 0) := by decide +kernel
theorem f_342_10 : ftc (PT 342) 10 = some (10, .if_icmp .ge 84, 3, 94, 0, 0) := by decide +kernel
theorem f_342_13 : ftc (PT 342) 13 = some (13, .aload_n 0, 1, 0, 0, 0) := by decide +kernel
theorem f_342_14 : ftc (PT 342) 14 = some (14, .getfield 29, 3, 12, 38, 1674) := by decide +kernel
theorem f_342_17 : ftc (PT 342) 17 = some (17, .bipush 14, 2, 0, 0, 0) := by decide +kernel
theorem f_342_19 : ftc (PT 342) 19 = some (19, .iload_n 2, 1, 0, 0, 0) := by decide +kernel
theorem f_342_20 : ftc (PT 342) 20 = some (20, .imul, 1, 0, 0, 0) := by decide +kernel
theorem f_342_21 : ftc (PT 342) 21 = some (21, .iload 10, 2, 0, 0, 0) := by decide +kernel
theorem f_342_23 : ftc (PT 342) 23 = some (23, .iadd, 1, 0, 0, 0) := by decide +kernel
theorem f_342_24 : ftc (PT 342) 24 = some (24, .laload, 1, 0, 0, 0) := by decide +kernel
theorem f_342_25 : ftc (PT 342) 25 = some (25, .lload_n 3, 1, 0, 0, 0) := by decide +kernel
theorem f_342_26 : ftc (PT 342) 26 = some (26, .lmul, 1, 0, 0, 0) := by decide +kernel
theorem f_342_27 : ftc (PT 342) 27 = some (27, .aload_n 0, 1, 0, 0, 0) := by decide +kernel
theorem f_342_28 : ftc (PT 342) 28 = some (28, .getfield 29, 3, 12, 38, 1674) := by decide +kernel
theorem f_342_31 : ftc (PT 342) 31 = some (31, .bipush 14, 2, 0, 0, 0) := by decide +kernel
theorem f_342_33 : ftc (PT 342) 33 = some (33, .iload 5, 2, 0, 0, 0) := by decide +kernel
theorem f_342_35 : ftc (PT 342) 35 = some (35, .imul, 1, 0, 0, 0) := by decide +kernel
theorem f_342_36 : ftc (PT 342) 36 = some (36, .iload 10, 2, 0, 0, 0) := by decide +kernel
theorem f_342_38 : ftc (PT 342) 38 = some (38, .iadd, 1, 0, 0, 0) := by decide +kernel
theorem f_342_39 : ftc (PT 342) 39 = some (39, .laload, 1, 0, 0, 0) := by decide +kernel
theorem f_342_40 : ftc (PT 342) 40 = some (40, .lload 6, 2, 0, 0, 0) := by decide +kernel
theorem f_342_42 : ftc (PT 342) 42 = some (42, .lmul, 1, 0, 0, 0) := by decide +kernel
theorem f_342_43 : ftc (PT 342) 43 = some (43, .ladd, 1, 0, 0, 0) := by decide +kernel
theorem f_342_44 : ftc (PT 342) 44 = some (44, .lload 8, 2, 0, 0, 0) := by decide +kernel
theorem f_342_46 : ftc (PT 342) 46 = some (46, .ladd, 1, 0, 0, 0) := by decide +kernel
theorem f_342_47 : ftc (PT 342) 47 = some (47, .lstore 11, 2, 0, 0, 0) := by decide +kernel
theorem f_342_49 : ftc (PT 342) 49 = some (49, .aload_n 0, 1, 0, 0, 0) := by decide +kernel
theorem f_342_50 : ftc (PT 342) 50 = some (50, .getfield 29, 3, 12, 38, 1674) := by decide +kernel
theorem f_342_53 : ftc (PT 342) 53 = some (53, .bipush 14, 2, 0, 0, 0) := by decide +kernel
theorem f_342_55 : ftc (PT 342) 55 = some (55, .iload_n 1, 1, 0, 0, 0) := by decide +kernel
theorem f_342_56 : ftc (PT 342) 56 = some (56, .imul, 1, 0, 0, 0) := by decide +kernel
theorem f_342_57 : ftc (PT 342) 57 = some (57, .iload 10, 2, 0, 0, 0) := by decide +kernel
theorem f_342_59 : ftc (PT 342) 59 = some (59, .iadd, 1, 0, 0, 0) := by decide +kernel
theorem f_342_60 : ftc (PT 342) 60 = some (60, .iload 10, 2, 0, 0, 0) := by decide +kernel
theorem f_342_62 : ftc (PT 342) 62 = some (62, .iconst 1, 1, 0, 0, 0) := by decide +kernel
theorem f_342_63 : ftc (PT 342) 63 = some (63, .iadd, 1, 0, 0, 0) := by decide +kernel
theorem f_342_64 : ftc (PT 342) 64 = some (64, .bipush 14, 2, 0, 0, 0) := by decide +kernel
theorem f_342_66 : ftc (PT 342) 66 = some (66, .if_icmp .ge 12, 3, 78, 0, 0) := by decide +kernel
theorem f_342_69 : ftc (PT 342) 69 = some (69, .lload 11, 2, 0, 0, 0) := by decide +kernel
theorem f_342_71 : ftc (PT 342) 71 = some (71, .ldc2_w 458, 3, 2281, 0, 1048575) := by decide +kernel
theorem f_342_74 : ftc (PT 342) 74 = some (74, .land, 1, 0, 0, 0) := by decide +kernel
theorem f_342_75 : ftc (PT 342) 75 = some (75, .goto 5, 3, 80, 0, 0) := by decide +kernel
theorem f_342_78 : ftc (PT 342) 78 = some (78, .lload 11, 2, 0, 0, 0) := by decide +kernel
theorem f_342_80 : ftc (PT 342) 80 = some (80, .lastore, 1, 0, 0, 0) := by decide +kernel
theorem f_342_81 : ftc (PT 342) 81 = some (81, .lload 11, 2, 0, 0, 0) := by decide +kernel
theorem f_342_83 : ftc (PT 342) 83 = some (83, .bipush 20, 2, 0, 0, 0) := by decide +kernel
theorem f_342_85 : ftc (PT 342) 85 = some (85, .lshr, 1, 0, 0, 0) := by decide +kernel
theorem f_342_86 : ftc (PT 342) 86 = some (86, .lstore 8, 2, 0, 0, 0) := by decide +kernel
theorem f_342_88 : ftc (PT 342) 88 = some (88, .iinc 10 1, 3, 0, 0, 0) := by decide +kernel
theorem f_342_91 : ftc (PT 342) 91 = some (91, .goto (-85), 3, 6, 0, 0) := by decide +kernel
theorem f_342_94 : ftc (PT 342) 94 = some (94, .return_, 1, 0, 0, 0) := by decide +kernel
theorem f_343_0 : ftc (PT 343) 0 = some (0, .iconst 0, 1, 0, 0, 0) := by decide +kernel
theorem f_343_1 : ftc (PT 343) 1 = some (1, .istore_n 1, 1, 0, 0, 0) := by decide +kernel
theorem f_343_2 : ftc (PT 343) 2 = some (2, .iload_n 1, 1, 0, 0, 0) := by decide +kernel
theorem f_343_3 : ftc (PT 343) 3 = some (3, .iconst 4, 1, 0, 0, 0) := by decide +kernel
theorem f_343_4 : ftc (PT 343) 4 = some (4, .if_icmp .ge 19, 3, 23, 0, 0) := by decide +kernel
theorem f_343_7 : ftc (PT 343) 7 = some (7, .aload_n 0, 1, 0, 0, 0) := by decide +kernel
theorem f_343_8 : ftc (PT 343) 8 = some (8, .iconst 4, 1, 0, 0, 0) := by decide +kernel
theorem f_343_9 : ftc (PT 343) 9 = some (9, .iload_n 1, 1, 0, 0, 0) := by decide +kernel
theorem f_343_10 : ftc (PT 343) 10 = some (10, .iadd, 1, 0, 0, 0) := by decide +kernel
theorem f_343_11 : ftc (PT 343) 11 = some (11, .iconst 0, 1, 0, 0, 0) := by decide +kernel
theorem f_343_12 : ftc (PT 343) 12 = some (12, .iload_n 1, 1, 0, 0, 0) := by decide +kernel
theorem f_343_13 : ftc (PT 343) 13 = some (13, .iadd, 1, 0, 0, 0) := by decide +kernel
theorem f_343_14 : ftc (PT 343) 14 = some (14, .invokevirtual 469, 3, 344, 4172, 2294) := by decide +kernel
theorem f_343_17 : ftc (PT 343) 17 = some (17, .iinc 1 1, 3, 0, 0, 0) := by decide +kernel
theorem f_343_20 : ftc (PT 343) 20 = some (20, .goto (-18), 3, 2, 0, 0) := by decide +kernel
theorem f_343_23 : ftc (PT 343) 23 = some (23, .return_, 1, 0, 0, 0) := by decide +kernel
theorem f_344_0 : ftc (PT 344) 0 = some (0, .iconst 0, 1, 0, 0, 0) := by decide +kernel
theorem f_344_1 : ftc (PT 344) 1 = some (1, .istore_n 3, 1, 0, 0, 0) := by decide +kernel
theorem f_344_2 : ftc (PT 344) 2 = some (2, .iload_n 3, 1, 0, 0, 0) := by decide +kernel
theorem f_344_3 : ftc (PT 344) 3 = some (3, .bipush 14, 2, 0, 0, 0) := by decide +kernel
theorem f_344_5 : ftc (PT 344) 5 = some (5, .if_icmp .ge 31, 3, 36, 0, 0) := by decide +kernel
theorem f_344_8 : ftc (PT 344) 8 = some (8, .aload_n 0, 1, 0, 0, 0) := by decide +kernel
theorem f_344_9 : ftc (PT 344) 9 = some (9, .getfield 29, 3, 12, 38, 1674) := by decide +kernel
theorem f_344_12 : ftc (PT 344) 12 = some (12, .bipush 14, 2, 0, 0, 0) := by decide +kernel
theorem f_344_14 : ftc (PT 344) 14 = some (14, .iload_n 2, 1, 0, 0, 0) := by decide +kernel
theorem f_344_15 : ftc (PT 344) 15 = some (15, .imul, 1, 0, 0, 0) := by decide +kernel
theorem f_344_16 : ftc (PT 344) 16 = some (16, .iload_n 3, 1, 0, 0, 0) := by decide +kernel
theorem f_344_17 : ftc (PT 344) 17 = some (17, .iadd, 1, 0, 0, 0) := by decide +kernel
theorem f_344_18 : ftc (PT 344) 18 = some (18, .aload_n 0, 1, 0, 0, 0) := by decide +kernel
theorem f_344_19 : ftc (PT 344) 19 = some (19, .getfield 29, 3, 12, 38, 1674) := by decide +kernel
theorem f_344_22 : ftc (PT 344) 22 = some (22, .bipush 14, 2, 0, 0, 0) := by decide +kernel
theorem f_344_24 : ftc (PT 344) 24 = some (24, .iload_n 1, 1, 0, 0, 0) := by decide +kernel
theorem f_344_25 : ftc (PT 344) 25 = some (25, .imul, 1, 0, 0, 0) := by decide +kernel
theorem f_344_26 : ftc (PT 344) 26 = some (26, .iload_n 3, 1, 0, 0, 0) := by decide +kernel
theorem f_344_27 : ftc (PT 344) 27 = some (27, .iadd, 1, 0, 0, 0) := by decide +kernel
theorem f_344_28 : ftc (PT 344) 28 = some (28, .laload, 1, 0, 0, 0) := by decide +kernel
theorem f_344_29 : ftc (PT 344) 29 = some (29, .lastore, 1, 0, 0, 0) := by decide +kernel
theorem f_344_30 : ftc (PT 344) 30 = some (30, .iinc 3 1, 3, 0, 0, 0) := by decide +kernel
theorem f_344_33 : ftc (PT 344) 33 = some (33, .goto (-31), 3, 2, 0, 0) := by decide +kernel
theorem f_344_36 : ftc (PT 344) 36 = some (36, .return_, 1, 0, 0, 0) := by decide +kernel
theorem f_345_0 : ftc (PT 345) 0 = some (0, .aload_n 0, 1, 0, 0, 0) := by decide +kernel
theorem f_345_1 : ftc (PT 345) 1 = some (1, .getfield 29, 3, 12, 38, 1674) := by decide +kernel
theorem f_345_4 : ftc (PT 345) 4 = some (4, .bipush 14, 2, 0, 0, 0) := by decide +kernel
theorem f_345_6 : ftc (PT 345) 6 = some (6, .iload_n 1, 1, 0, 0, 0) := by decide +kernel
theorem f_345_7 : ftc (PT 345) 7 = some (7, .imul, 1, 0, 0, 0) := by decide +kernel
theorem f_345_8 : ftc (PT 345) 8 = some (8, .bipush 14, 2, 0, 0, 0) := by decide +kernel
theorem f_345_10 : ftc (PT 345) 10 = some (10, .iadd, 1, 0, 0, 0) := by decide +kernel
theorem f_345_11 : ftc (PT 345) 11 = some (11, .iconst 1, 1, 0, 0, 0) := by decide +kernel
theorem f_345_12 : ftc (PT 345) 12 = some (12, .isub, 1, 0, 0, 0) := by decide +kernel
theorem f_345_13 : ftc (PT 345) 13 = some (13, .laload, 1, 0, 0, 0) := by decide +kernel
theorem f_345_14 : ftc (PT 345) 14 = some (14, .lconst 0, 1, 0, 0, 0) := by decide +kernel
theorem f_345_15 : ftc (PT 345) 15 = some (15, .lcmp, 1, 0, 0, 0) := by decide +kernel
theorem f_345_16 : ftc (PT 345) 16 = some (16, .ifCond .ge 5, 3, 21, 0, 0) := by decide +kernel
theorem f_345_19 : ftc (PT 345) 19 = some (19, .iconst (-1), 1, 0, 0, 0) := by decide +kernel
theorem f_345_20 : ftc (PT 345) 20 = some (20, .ireturn, 1, 0, 0, 0) := by decide +kernel
theorem f_345_21 : ftc (PT 345) 21 = some (21, .iconst 0, 1, 0, 0, 0) := by decide +kernel
theorem f_345_22 : ftc (PT 345) 22 = some (22, .istore_n 2, 1, 0, 0, 0) := by decide +kernel
theorem f_345_23 : ftc (PT 345) 23 = some (23, .iload_n 2, 1, 0, 0, 0) := by decide +kernel
theorem f_345_24 : ftc (PT 345) 24 = some (24, .bipush 14, 2, 0, 0, 0) := by decide +kernel
theorem f_345_26 : ftc (PT 345) 26 = some (26, .if_icmp .ge 27, 3, 53, 0, 0) := by decide +kernel
theorem f_345_29 : ftc (PT 345) 29 = some (29, .aload_n 0, 1, 0, 0, 0) := by decide +kernel
theorem f_345_30 : ftc (PT 345) 30 = some (30, .getfield 29, 3, 12, 38, 1674) := by decide +kernel
theorem f_345_33 : ftc (PT 345) 33 = some (33, .bipush 14, 2, 0, 0, 0) := by decide +kernel
theorem f_345_35 : ftc (PT 345) 35 = some (35, .iload_n 1, 1, 0, 0, 0) := by decide +kernel
theorem f_345_36 : ftc (PT 345) 36 = some (36, .imul, 1, 0, 0, 0) := by decide +kernel
theorem f_345_37 : ftc (PT 345) 37 = some (37, .iload_n 2, 1, 0, 0, 0) := by decide +kernel
theorem f_345_38 : ftc (PT 345) 38 = some (38, .iadd, 1, 0, 0, 0) := by decide +kernel
theorem f_345_39 : ftc (PT 345) 39 = some (39, .laload, 1, 0, 0, 0) := by decide +kernel
theorem f_345_40 : ftc (PT 345) 40 = some (40, .lconst 0, 1, 0, 0, 0) := by decide +kernel
theorem f_345_41 : ftc (PT 345) 41 = some (41, .lcmp, 1, 0, 0, 0) := by decide +kernel
theorem f_345_42 : ftc (PT 345) 42 = some (42, .ifCond .eq 5, 3, 47, 0, 0) := by decide +kernel
theorem f_345_45 : ftc (PT 345) 45 = some (45, .iconst 1, 1, 0, 0, 0) := by decide +kernel
theorem f_345_46 : ftc (PT 345) 46 = some (46, .ireturn, 1, 0, 0, 0) := by decide +kernel
theorem f_345_47 : ftc (PT 345) 47 = some (47, .iinc 2 1, 3, 0, 0, 0) := by decide +kernel
theorem f_345_50 : ftc (PT 345) 50 = some (50, .goto (-27), 3, 23, 0, 0) := by decide +kernel
theorem f_345_53 : ftc (PT 345) 53 = some (53, .iconst 0, 1, 0, 0, 0) := by decide +kernel
theorem f_345_54 : ftc (PT 345) 54 = some (54, .ireturn, 1, 0, 0, 0) := by decide +kernel
theorem f_346_0 : ftc (PT 346) 0 = some (0, .aload_n 0, 1, 0, 0, 0) := by decide +kernel
theorem f_346_1 : ftc (PT 346) 1 = some (1, .iload_n 2, 1, 0, 0, 0) := by decide +kernel
theorem f_346_2 : ftc (PT 346) 2 = some (2, .invokevirtual 460, 3, 345, 3116, 2298) := by decide +kernel
theorem f_346_5 : ftc (PT 346) 5 = some (5, .ifCond .ge 14, 3, 19, 0, 0) := by decide +kernel
theorem f_346_8 : ftc (PT 346) 8 = some (8, .aload_n 0, 1, 0, 0, 0) := by decide +kernel
theorem f_346_9 : ftc (PT 346) 9 = some (9, .iload_n 2, 1, 0, 0, 0) := by decide +kernel
theorem f_346_10 : ftc (PT 346) 10 = some (10, .iload_n 2, 1, 0, 0, 0) := by decide +kernel
theorem f_346_11 : ftc (PT 346) 11 = some (11, .ldc2_w 463, 3, 2302, 0, (-1)) := by decide +kernel
theorem f_346_14 : ftc (PT 346) 14 = some (14, .iload_n 2, 1, 0, 0, 0) := by decide +kernel
theorem f_346_15 : ftc (PT 346) 15 = some (15, .lconst 0, 1, 0, 0, 0) := by decide +kernel
theorem f_346_16 : ftc (PT 346) 16 = some (16, .invokevirtual 465, 3, 342, 13484, 2286) := by decide +kernel
theorem f_346_19 : ftc (PT 346) 19 = some (19, .aload_n 0, 1, 0, 0, 0) := by decide +kernel
theorem f_346_20 : ftc (PT 346) 20 = some (20, .iload_n 3, 1, 0, 0, 0) := by decide +kernel
theorem f_346_21 : ftc (PT 346) 21 = some (21, .invokevirtual 460, 3, 345, 3116, 2298) := by decide +kernel
theorem f_346_24 : ftc (PT 346) 24 = some (24, .ifCond .ge 14, 3, 38, 0, 0) := by decide +kernel
theorem f_346_27 : ftc (PT 346) 27 = some (27, .aload_n 0, 1, 0, 0, 0) := by decide +kernel
theorem f_346_28 : ftc (PT 346) 28 = some (28, .iload_n 3, 1, 0, 0, 0) := by decide +kernel
theorem f_346_29 : ftc (PT 346) 29 = some (29, .iload_n 3, 1, 0, 0, 0) := by decide +kernel
theorem f_346_30 : ftc (PT 346) 30 = some (30, .ldc2_w 463, 3, 2302, 0, (-1)) := by decide +kernel
theorem f_346_33 : ftc (PT 346) 33 = some (33, .iload_n 3, 1, 0, 0, 0) := by decide +kernel
theorem f_346_34 : ftc (PT 346) 34 = some (34, .lconst 0, 1, 0, 0, 0) := by decide +kernel
theorem f_346_35 : ftc (PT 346) 35 = some (35, .invokevirtual 465, 3, 342, 13484, 2286) := by decide +kernel
theorem f_346_38 : ftc (PT 346) 38 = some (38, .lconst 0, 1, 0, 0, 0) := by decide +kernel
theorem f_346_39 : ftc (PT 346) 39 = some (39, .lstore 4, 2, 0, 0, 0) := by decide +kernel
theorem f_346_41 : ftc (PT 346) 41 = some (41, .iconst 0, 1, 0, 0, 0) := by decide +kernel
theorem f_346_42 : ftc (PT 346) 42 = some (42, .istore 6, 2, 0, 0, 0) := by decide +kernel
theorem f_346_44 : ftc (PT 346) 44 = some (44, .iload 6, 2, 0, 0, 0) := by decide +kernel
theorem f_346_46 : ftc (PT 346) 46 = some (46, .bipush 14, 2, 0, 0, 0) := by decide +kernel
theorem f_346_48 : ftc (PT 346) 48 = some (48, .if_icmp .ge 116, 3, 164, 0, 0) := by decide +kernel
theorem f_346_51 : ftc (PT 346) 51 = some (51, .lload 4, 2, 0, 0, 0) := by decide +kernel
theorem f_346_53 : ftc (PT 346) 53 = some (53, .lstore 7, 2, 0, 0, 0) := by decide +kernel
theorem f_346_55 : ftc (PT 346) 55 = some (55, .iconst 0, 1, 0, 0, 0) := by decide +kernel
theorem f_346_56 : ftc (PT 346) 56 = some (56, .istore 9, 2, 0, 0, 0) := by decide +kernel
theorem f_346_58 : ftc (PT 346) 58 = some (58, .iload 9, 2, 0, 0, 0) := by decide +kernel
theorem f_346_60 : ftc (PT 346) 60 = some (60, .iload 6, 2, 0, 0, 0) := by decide +kernel
theorem f_346_62 : ftc (PT 346) 62 = some (62, .if_icmp .gt 71, 3, 133, 0, 0) := by decide +kernel
theorem f_346_65 : ftc (PT 346) 65 = some (65, .lload 7, 2, 0, 0, 0) := by decide +kernel
theorem f_346_67 : ftc (PT 346) 67 = some (67, .aload_n 0, 1, 0, 0, 0) := by decide +kernel
theorem f_346_68 : ftc (PT 346) 68 = some (68, .getfield 29, 3, 12, 38, 1674) := by decide +kernel
theorem f_346_71 : ftc (PT 346) 71 = some (71, .bipush 14, 2, 0, 0, 0) := by decide +kernel
theorem f_346_73 : ftc (PT 346) 73 = some (73, .iload_n 2, 1, 0, 0, 0) := by decide +kernel
theorem f_346_74 : ftc (PT 346) 74 = some (74, .imul, 1, 0, 0, 0) := by decide +kernel
theorem f_346_75 : ftc (PT 346) 75 = some (75, .iload 9, 2, 0, 0, 0) := by decide +kernel
theorem f_346_77 : ftc (PT 346) 77 = some (77, .iadd, 1, 0, 0, 0) := by decide +kernel
theorem f_346_78 : ftc (PT 346) 78 = some (78, .laload, 1, 0, 0, 0) := by decide +kernel
theorem f_346_79 : ftc (PT 346) 79 = some (79, .aload_n 0, 1, 0, 0, 0) := by decide +kernel
theorem f_346_80 : ftc (PT 346) 80 = some (80, .getfield 29, 3, 12, 38, 1674) := by decide +kernel
theorem f_346_83 : ftc (PT 346) 83 = some (83, .bipush 14, 2, 0, 0, 0) := by decide +kernel
theorem f_346_85 : ftc (PT 346) 85 = some (85, .iload_n 2, 1, 0, 0, 0) := by decide +kernel
theorem f_346_86 : ftc (PT 346) 86 = some (86, .imul, 1, 0, 0, 0) := by decide +kernel
theorem f_346_87 : ftc (PT 346) 87 = some (87, .iload 6, 2, 0, 0, 0) := by decide +kernel
theorem f_346_89 : ftc (PT 346) 89 = some (89, .iadd, 1, 0, 0, 0) := by decide +kernel
theorem f_346_90 : ftc (PT 346) 90 = some (90, .iload 9, 2, 0, 0, 0) := by decide +kernel
theorem f_346_92 : ftc (PT 346) 92 = some (92, .isub, 1, 0, 0, 0) := by decide +kernel
theorem f_346_93 : ftc (PT 346) 93 = some (93, .laload, 1, 0, 0, 0) := by decide +kernel
theorem f_346_94 : ftc (PT 346) 94 = some (94, .lmul, 1, 0, 0, 0) := by decide +kernel
theorem f_346_95 : ftc (PT 346) 95 = some (95, .aload_n 0, 1, 0, 0, 0) := by decide +kernel
theorem f_346_96 : ftc (PT 346) 96 = some (96, .getfield 29, 3, 12, 38, 1674) := by decide +kernel
theorem f_346_99 : ftc (PT 346) 99 = some (99, .bipush 14, 2, 0, 0, 0) := by decide +kernel
theorem f_346_101 : ftc (PT 346) 101 = some (101, .iload_n 3, 1, 0, 0, 0) := by decide +kernel
theorem f_346_102 : ftc (PT 346) 102 = some (102, .imul, 1, 0, 0, 0) := by decide +kernel
theorem f_346_103 : ftc (PT 346) 103 = some (103, .iload 9, 2, 0, 0, 0) := by decide +kernel
theorem f_346_105 : ftc (PT 346) 105 = some (105, .iadd, 1, 0, 0, 0) := by decide +kernel
theorem f_346_106 : ftc (PT 346) 106 = some (106, .laload, 1, 0, 0, 0) := by decide +kernel
theorem f_346_107 : ftc (PT 346) 107 = some (107, .aload_n 0, 1, 0, 0, 0) := by decide +kernel
theorem f_346_108 : ftc (PT 346) 108 = some (108, .getfield 29, 3, 12, 38, 1674) := by decide +kernel
theorem f_346_111 : ftc (PT 346) 111 = some (111, .bipush 14, 2, 0, 0, 0) := by decide +kernel
theorem f_346_113 : ftc (PT 346) 113 = some (113, .iload_n 3, 1, 0, 0, 0) := by decide +kernel
theorem f_346_114 : ftc (PT 346) 114 = some (114, .imul, 1, 0, 0, 0) := by decide +kernel
theorem f_346_115 : ftc (PT 346) 115 = some (115, .iload 6, 2, 0, 0, 0) := by decide +kernel
theorem f_346_117 : ftc (PT 346) 117 = some (117, .iadd, 1, 0, 0, 0) := by decide +kernel
theorem f_346_118 : ftc (PT 346) 118 = some (118, .iload 9, 2, 0, 0, 0) := by decide +kernel
theorem f_346_120 : ftc (PT 346) 120 = some (120, .isub, 1, 0, 0, 0) := by decide +kernel
theorem f_346_121 : ftc (PT 346) 121 = some (121, .laload, 1, 0, 0, 0) := by decide +kernel
theorem f_346_122 : ftc (PT 346) 122 = some (122, .lmul, 1, 0, 0, 0) := by decide +kernel
theorem f_346_123 : ftc (PT 346) 123 = some (123, .ladd, 1, 0, 0, 0) := by decide +kernel
theorem f_346_124 : ftc (PT 346) 124 = some (124, .ladd, 1, 0, 0, 0) := by decide +kernel
theorem f_346_125 : ftc (PT 346) 125 = some (125, .lstore 7, 2, 0, 0, 0) := by decide +kernel
theorem f_346_127 : ftc (PT 346) 127 = some (127, .iinc 9 1, 3, 0, 0, 0) := by decide +kernel
theorem f_346_130 : ftc (PT 346) 130 = some (130, .goto (-72), 3, 58, 0, 0) := by decide +kernel
theorem f_346_133 : ftc (PT 346) 133 = some (133, .aload_n 0, 1, 0, 0, 0) := by decide +kernel
theorem f_346_134 : ftc (PT 346) 134 = some (134, .getfield 29, 3, 12, 38, 1674) := by decide +kernel
theorem f_346_137 : ftc (PT 346) 137 = some (137, .bipush 14, 2, 0, 0, 0) := by decide +kernel
theorem f_346_139 : ftc (PT 346) 139 = some (139, .iload_n 1, 1, 0, 0, 0) := by decide +kernel
theorem f_346_140 : ftc (PT 346) 140 = some (140, .imul, 1, 0, 0, 0) := by decide +kernel
theorem f_346_141 : ftc (PT 346) 141 = some (141, .iload 6, 2, 0, 0, 0) := by decide +kernel
theorem f_346_143 : ftc (PT 346) 143 = some (143, .iadd, 1, 0, 0, 0) := by decide +kernel
theorem f_346_144 : ftc (PT 346) 144 = some (144, .lload 7, 2, 0, 0, 0) := by decide +kernel
theorem f_346_146 : ftc (PT 346) 146 = some (146, .ldc2_w 458, 3, 2281, 0, 1048575) := by decide +kernel
theorem f_346_149 : ftc (PT 346) 149 = some (149, .land, 1, 0, 0, 0) := by decide +kernel
theorem f_346_150 : ftc (PT 346) 150 = some (150, .lastore, 1, 0, 0, 0) := by decide +kernel
theorem f_346_151 : ftc (PT 346) 151 = some (151, .lload 7, 2, 0, 0, 0) := by decide +kernel
theorem f_346_153 : ftc (PT 346) 153 = some (153, .bipush 20, 2, 0, 0, 0) := by decide +kernel
theorem f_346_155 : ftc (PT 346) 155 = some (155, .lshr, 1, 0, 0, 0) := by decide +kernel
theorem f_346_156 : ftc (PT 346) 156 = some (156, .lstore 4, 2, 0, 0, 0) := by decide +kernel
theorem f_346_158 : ftc (PT 346) 158 = some (158, .iinc 6 1, 3, 0, 0, 0) := by decide +kernel
theorem f_346_161 : ftc (PT 346) 161 = some (161, .goto (-117), 3, 44, 0, 0) := by decide +kernel
theorem f_346_164 : ftc (PT 346) 164 = some (164, .return_, 1, 0, 0, 0) := by decide +kernel
theorem f_347_30 : ftc (PT 347) 30 = some (30, .ifCond .eq 7, 3, 37, 0, 0) := by decide +kernel
theorem f_347_33 : ftc (PT 347) 33 = some (33, .iconst 1, 1, 0, 0, 0) := by decide +kernel
theorem f_347_34 : ftc (PT 347) 34 = some (34, .goto 4, 3, 38, 0, 0) := by decide +kernel
theorem f_347_37 : ftc (PT 347) 37 = some (37, .iconst 0, 1, 0, 0, 0) := by decide +kernel
theorem f_347_38 : ftc (PT 347) 38 = some (38, .ireturn, 1, 1, 0, 0) := by decide +kernel
theorem f_348_0 : ftc (PT 348) 0 = some (0, .aload_n 0, 1, 0, 0, 0) := by decide +kernel
theorem f_348_1 : ftc (PT 348) 1 = some (1, .iload_n 1, 1, 0, 0, 0) := by decide +kernel
theorem f_348_2 : ftc (PT 348) 2 = some (2, .iload_n 2, 1, 0, 0, 0) := by decide +kernel
theorem f_348_3 : ftc (PT 348) 3 = some (3, .invokevirtual 488, 3, 339, 8268, 2273) := by decide +kernel
theorem f_348_6 : ftc (PT 348) 6 = some (6, .aload_n 0, 1, 0, 0, 0) := by decide +kernel
theorem f_348_7 : ftc (PT 348) 7 = some (7, .aload_n 0, 1, 0, 0, 0) := by decide +kernel
theorem f_348_8 : ftc (PT 348) 8 = some (8, .getfield 44, 3, 12, 3, 1639) := by decide +kernel
theorem f_348_11 : ftc (PT 348) 11 = some (11, .i2l, 1, 0, 0, 0) := by decide +kernel
theorem f_348_12 : ftc (PT 348) 12 = some (12, .aload_n 0, 1, 0, 0, 0) := by decide +kernel
theorem f_348_13 : ftc (PT 348) 13 = some (13, .getfield 48, 3, 12, 4, 1640) := by decide +kernel
theorem f_348_16 : ftc (PT 348) 16 = some (16, .i2l, 1, 0, 0, 0) := by decide +kernel
theorem f_348_17 : ftc (PT 348) 17 = some (17, .invokevirtual 493, 3, 349, 5196, 2316) := by decide +kernel
theorem f_348_20 : ftc (PT 348) 20 = some (20, .ireturn, 1, 1, 0, 0) := by decide +kernel
theorem f_349_0 : ftc (PT 349) 0 = some (0, .aload_n 0, 1, 0, 0, 0) := by decide +kernel
theorem f_349_1 : ftc (PT 349) 1 = some (1, .bipush 10, 2, 0, 0, 0) := by decide +kernel
theorem f_349_3 : ftc (PT 349) 3 = some (3, .bipush 8, 2, 0, 0, 0) := by decide +kernel
theorem f_349_5 : ftc (PT 349) 5 = some (5, .lload_n 3, 1, 0, 0, 0) := by decide +kernel
theorem f_349_6 : ftc (PT 349) 6 = some (6, .bipush 9, 2, 0, 0, 0) := by decide +kernel
theorem f_349_8 : ftc (PT 349) 8 = some (8, .lload_n 1, 1, 0, 0, 0) := by decide +kernel
theorem f_349_9 : ftc (PT 349) 9 = some (9, .lneg, 1, 0, 0, 0) := by decide +kernel
theorem f_349_10 : ftc (PT 349) 10 = some (10, .invokevirtual 465, 3, 342, 13484, 2286) := by decide +kernel
theorem f_349_13 : ftc (PT 349) 13 = some (13, .aload_n 0, 1, 0, 0, 0) := by decide +kernel
theorem f_349_14 : ftc (PT 349) 14 = some (14, .bipush 10, 2, 0, 0, 0) := by decide +kernel
theorem f_349_16 : ftc (PT 349) 16 = some (16, .invokevirtual 460, 3, 345, 3116, 2298) := by decide +kernel
theorem f_349_19 : ftc (PT 349) 19 = some (19, .ifCond .gt 7, 3, 26, 0, 0) := by decide +kernel
theorem f_349_22 : ftc (PT 349) 22 = some (22, .iconst 1, 1, 0, 0, 0) := by decide +kernel
theorem f_349_23 : ftc (PT 349) 23 = some (23, .goto 4, 3, 27, 0, 0) := by decide +kernel
theorem f_349_26 : ftc (PT 349) 26 = some (26, .iconst 0, 1, 0, 0, 0) := by decide +kernel
theorem f_349_27 : ftc (PT 349) 27 = some (27, .ireturn, 1, 1, 0, 0) := by decide +kernel
theorem f_350_9 : ftc (PT 350) 9 = some (9, .ireturn, 1, 0, 0, 0) := by decide +kernel
theorem f_351_0 : ftc (PT 351) 0 = some (0, .iconst (-1), 1, 0, 0, 0) := by decide +kernel
theorem f_351_1 : ftc (PT 351) 1 = some (1, .istore_n 1, 1, 0, 0, 0) := by decide +kernel
theorem f_351_2 : ftc (PT 351) 2 = some (2, .iload_n 1, 1, 0, 0, 0) := by decide +kernel
theorem f_351_3 : ftc (PT 351) 3 = some (3, .bipush 10, 2, 0, 0, 0) := by decide +kernel
theorem f_351_5 : ftc (PT 351) 5 = some (5, .if_icmp .ge 32, 3, 37, 0, 0) := by decide +kernel
theorem f_351_8 : ftc (PT 351) 8 = some (8, .aload_n 0, 1, 0, 0, 0) := by decide +kernel
theorem f_351_9 : ftc (PT 351) 9 = some (9, .iload_n 1, 1, 0, 0, 0) := by decide +kernel
theorem f_351_10 : ftc (PT 351) 10 = some (10, .iconst 1, 1, 0, 0, 0) := by decide +kernel
theorem f_351_11 : ftc (PT 351) 11 = some (11, .iadd, 1, 0, 0, 0) := by decide +kernel
theorem f_351_12 : ftc (PT 351) 12 = some (12, .iconst 1, 1, 0, 0, 0) := by decide +kernel
theorem f_351_13 : ftc (PT 351) 13 = some (13, .invokevirtual 496, 3, 348, 3148, 2312) := by decide +kernel
theorem f_351_16 : ftc (PT 351) 16 = some (16, .ifCond .eq 21, 3, 37, 0, 0) := by decide +kernel
theorem f_351_19 : ftc (PT 351) 19 = some (19, .aload_n 0, 1, 0, 0, 0) := by decide +kernel
theorem f_351_20 : ftc (PT 351) 20 = some (20, .iload_n 1, 1, 0, 0, 0) := by decide +kernel
theorem f_351_21 : ftc (PT 351) 21 = some (21, .ineg, 1, 0, 0, 0) := by decide +kernel
theorem f_351_22 : ftc (PT 351) 22 = some (22, .iconst 1, 1, 0, 0, 0) := by decide +kernel
theorem f_351_23 : ftc (PT 351) 23 = some (23, .isub, 1, 0, 0, 0) := by decide +kernel
theorem f_351_24 : ftc (PT 351) 24 = some (24, .iconst 1, 1, 0, 0, 0) := by decide +kernel
theorem f_351_25 : ftc (PT 351) 25 = some (25, .invokevirtual 496, 3, 348, 3148, 2312) := by decide +kernel
theorem f_351_28 : ftc (PT 351) 28 = some (28, .ifCond .eq 9, 3, 37, 0, 0) := by decide +kernel
theorem f_351_31 : ftc (PT 351) 31 = some (31, .iinc 1 1, 3, 0, 0, 0) := by decide +kernel
theorem f_351_34 : ftc (PT 351) 34 = some (34, .goto (-32), 3, 2, 0, 0) := by decide +kernel
theorem f_351_37 : ftc (PT 351) 37 = some (37, .iload_n 1, 1, 0, 0, 0) := by decide +kernel
theorem f_351_38 : ftc (PT 351) 38 = some (38, .ireturn, 1, 0, 0, 0) := by decide +kernel
theorem f_352_31 : ftc (PT 352) 31 = some (31, .iload_n 1, 1, 0, 0, 0) := by decide +kernel
theorem f_352_32 : ftc (PT 352) 32 = some (32, .ifCond .ne 11, 3, 43, 0, 0) := by decide +kernel
theorem f_352_35 : ftc (PT 352) 35 = some (35, .aload_n 0, 1, 0, 0, 0) := by decide +kernel
theorem f_352_36 : ftc (PT 352) 36 = some (36, .getfield 502, 3, 12, 39, 1675) := by decide +kernel
theorem f_352_39 : ftc (PT 352) 39 = some (39, .i2l, 1, 0, 0, 0) := by decide +kernel
theorem f_352_40 : ftc (PT 352) 40 = some (40, .goto 19, 3, 59, 0, 0) := by decide +kernel
theorem f_352_43 : ftc (PT 352) 43 = some (43, .iload_n 1, 1, 0, 0, 0) := by decide +kernel
theorem f_352_44 : ftc (PT 352) 44 = some (44, .iconst 1, 1, 0, 0, 0) := by decide +kernel
theorem f_352_45 : ftc (PT 352) 45 = some (45, .if_icmp .ne 10, 3, 55, 0, 0) := by decide +kernel
theorem f_352_48 : ftc (PT 352) 48 = some (48, .aload_n 0, 1, 0, 0, 0) := by decide +kernel
theorem f_352_49 : ftc (PT 352) 49 = some (49, .getfield 81, 3, 12, 8, 1644) := by decide +kernel
theorem f_352_52 : ftc (PT 352) 52 = some (52, .goto 7, 3, 59, 0, 0) := by decide +kernel
theorem f_352_55 : ftc (PT 352) 55 = some (55, .aload_n 0, 1, 0, 0, 0) := by decide +kernel
theorem f_352_56 : ftc (PT 352) 56 = some (56, .getfield 85, 3, 12, 9, 1645) := by decide +kernel
theorem f_352_59 : ftc (PT 352) 59 = some (59, .lreturn, 1, 0, 0, 0) := by decide +kernel
theorem f_353_0 : ftc (PT 353) 0 = some (0, .aload_n 0, 1, 0, 0, 0) := by decide +kernel
theorem f_353_1 : ftc (PT 353) 1 = some (1, .iconst 0, 1, 0, 0, 0) := by decide +kernel
theorem f_353_2 : ftc (PT 353) 2 = some (2, .putfield 502, 3, 12, 39, 1675) := by decide +kernel
theorem f_353_5 : ftc (PT 353) 5 = some (5, .lconst 1, 1, 0, 0, 0) := by decide +kernel
theorem f_353_6 : ftc (PT 353) 6 = some (6, .lstore_n 1, 1, 0, 0, 0) := by decide +kernel
theorem f_353_7 : ftc (PT 353) 7 = some (7, .lconst 0, 1, 0, 0, 0) := by decide +kernel
theorem f_353_8 : ftc (PT 353) 8 = some (8, .lstore_n 3, 1, 0, 0, 0) := by decide +kernel
theorem f_353_9 : ftc (PT 353) 9 = some (9, .iconst 0, 1, 0, 0, 0) := by decide +kernel
theorem f_353_10 : ftc (PT 353) 10 = some (10, .istore 5, 2, 0, 0, 0) := by decide +kernel
theorem f_353_12 : ftc (PT 353) 12 = some (12, .iload 5, 2, 0, 0, 0) := by decide +kernel
theorem f_353_14 : ftc (PT 353) 14 = some (14, .aload_n 0, 1, 0, 0, 0) := by decide +kernel
theorem f_353_15 : ftc (PT 353) 15 = some (15, .invokevirtual 92, 3, 215, 1036, 1781) := by decide +kernel
theorem f_353_18 : ftc (PT 353) 18 = some (18, .if_icmp .ge 108, 3, 126, 0, 0) := by decide +kernel
theorem f_353_21 : ftc (PT 353) 21 = some (21, .aload_n 0, 1, 0, 0, 0) := by decide +kernel
theorem f_353_22 : ftc (PT 353) 22 = some (22, .iload 5, 2, 0, 0, 0) := by decide +kernel
theorem f_353_24 : ftc (PT 353) 24 = some (24, .invokevirtual 108, 3, 223, 2092, 1813) := by decide +kernel
theorem f_353_27 : ftc (PT 353) 27 = some (27, .istore 6, 2, 0, 0, 0) := by decide +kernel
theorem f_353_29 : ftc (PT 353) 29 = some (29, .iload 6, 2, 0, 0, 0) := by decide +kernel
theorem f_353_31 : ftc (PT 353) 31 = some (31, .ifCond .ge 13, 3, 44, 0, 0) := by decide +kernel
theorem f_353_34 : ftc (PT 353) 34 = some (34, .aload_n 0, 1, 0, 0, 0) := by decide +kernel
theorem f_353_35 : ftc (PT 353) 35 = some (35, .iload 5, 2, 0, 0, 0) := by decide +kernel
theorem f_353_37 : ftc (PT 353) 37 = some (37, .invokevirtual 111, 3, 224, 2092, 1817) := by decide +kernel
theorem f_353_40 : ftc (PT 353) 40 = some (40, .ineg, 1, 0, 0, 0) := by decide +kernel
theorem f_353_41 : ftc (PT 353) 41 = some (41, .goto 9, 3, 50, 0, 0) := by decide +kernel
theorem f_353_44 : ftc (PT 353) 44 = some (44, .aload_n 0, 1, 0, 0, 0) := by decide +kernel
theorem f_353_45 : ftc (PT 353) 45 = some (45, .iload 5, 2, 0, 0, 0) := by decide +kernel
theorem f_353_47 : ftc (PT 353) 47 = some (47, .invokevirtual 111, 3, 224, 2092, 1817) := by decide +kernel
theorem f_353_50 : ftc (PT 353) 50 = some (50, .istore 7, 2, 0, 0, 0) := by decide +kernel
theorem f_353_52 : ftc (PT 353) 52 = some (52, .lload_n 1, 1, 0, 0, 0) := by decide +kernel
theorem f_353_53 : ftc (PT 353) 53 = some (53, .iload 7, 2, 0, 0, 0) := by decide +kernel
theorem f_353_55 : ftc (PT 353) 55 = some (55, .i2l, 1, 0, 0, 0) := by decide +kernel
theorem f_353_56 : ftc (PT 353) 56 = some (56, .lmul, 1, 0, 0, 0) := by decide +kernel
theorem f_353_57 : ftc (PT 353) 57 = some (57, .lload_n 3, 1, 0, 0, 0) := by decide +kernel
theorem f_353_58 : ftc (PT 353) 58 = some (58, .iload 6, 2, 0, 0, 0) := by decide +kernel
theorem f_353_60 : ftc (PT 353) 60 = some (60, .i2l, 1, 0, 0, 0) := by decide +kernel
theorem f_353_61 : ftc (PT 353) 61 = some (61, .invokestatic 58, 3, 210, 2049, 1630) := by decide +kernel
theorem f_353_64 : ftc (PT 353) 64 = some (64, .lmul, 1, 0, 0, 0) := by decide +kernel
theorem f_353_65 : ftc (PT 353) 65 = some (65, .lsub, 1, 0, 0, 0) := by decide +kernel
theorem f_353_66 : ftc (PT 353) 66 = some (66, .lstore 8, 2, 0, 0, 0) := by decide +kernel
theorem f_353_68 : ftc (PT 353) 68 = some (68, .lload_n 1, 1, 0, 0, 0) := by decide +kernel
theorem f_353_69 : ftc (PT 353) 69 = some (69, .iload 6, 2, 0, 0, 0) := by decide +kernel
theorem f_353_71 : ftc (PT 353) 71 = some (71, .i2l, 1, 0, 0, 0) := by decide +kernel
theorem f_353_72 : ftc (PT 353) 72 = some (72, .invokestatic 58, 3, 210, 2049, 1630) := by decide +kernel
theorem f_353_75 : ftc (PT 353) 75 = some (75, .lmul, 1, 0, 0, 0) := by decide +kernel
theorem f_353_76 : ftc (PT 353) 76 = some (76, .lload_n 3, 1, 0, 0, 0) := by decide +kernel
theorem f_353_77 : ftc (PT 353) 77 = some (77, .iload 7, 2, 0, 0, 0) := by decide +kernel
theorem f_353_79 : ftc (PT 353) 79 = some (79, .i2l, 1, 0, 0, 0) := by decide +kernel
theorem f_353_80 : ftc (PT 353) 80 = some (80, .lmul, 1, 0, 0, 0) := by decide +kernel
theorem f_353_81 : ftc (PT 353) 81 = some (81, .ladd, 1, 0, 0, 0) := by decide +kernel
theorem f_353_82 : ftc (PT 353) 82 = some (82, .lstore_n 3, 1, 0, 0, 0) := by decide +kernel
theorem f_353_83 : ftc (PT 353) 83 = some (83, .lload 8, 2, 0, 0, 0) := by decide +kernel
theorem f_353_85 : ftc (PT 353) 85 = some (85, .lstore_n 1, 1, 0, 0, 0) := by decide +kernel
theorem f_353_86 : ftc (PT 353) 86 = some (86, .lload_n 3, 1, 0, 0, 0) := by decide +kernel
theorem f_353_87 : ftc (PT 353) 87 = some (87, .lconst 0, 1, 0, 0, 0) := by decide +kernel
theorem f_353_88 : ftc (PT 353) 88 = some (88, .lcmp, 1, 0, 0, 0) := by decide +kernel
theorem f_353_89 : ftc (PT 353) 89 = some (89, .ifCond .lt 15, 3, 104, 0, 0) := by decide +kernel
theorem f_353_92 : ftc (PT 353) 92 = some (92, .lload_n 3, 1, 0, 0, 0) := by decide +kernel
theorem f_353_93 : ftc (PT 353) 93 = some (93, .lconst 0, 1, 0, 0, 0) := by decide +kernel
theorem f_353_94 : ftc (PT 353) 94 = some (94, .lcmp, 1, 0, 0, 0) := by decide +kernel
theorem f_353_95 : ftc (PT 353) 95 = some (95, .ifCond .ne 25, 3, 120, 0, 0) := by decide +kernel
theorem f_353_98 : ftc (PT 353) 98 = some (98, .lload_n 1, 1, 0, 0, 0) := by decide +kernel
theorem f_353_99 : ftc (PT 353) 99 = some (99, .lconst 0, 1, 0, 0, 0) := by decide +kernel
theorem f_353_100 : ftc (PT 353) 100 = some (100, .lcmp, 1, 0, 0, 0) := by decide +kernel
theorem f_353_101 : ftc (PT 353) 101 = some (101, .ifCond .ge 19, 3, 120, 0, 0) := by decide +kernel
theorem f_353_104 : ftc (PT 353) 104 = some (104, .aload_n 0, 1, 0, 0, 0) := by decide +kernel
theorem f_353_105 : ftc (PT 353) 105 = some (105, .dup, 1, 0, 0, 0) := by decide +kernel
theorem f_353_106 : ftc (PT 353) 106 = some (106, .getfield 502, 3, 12, 39, 1675) := by decide +kernel
theorem f_353_109 : ftc (PT 353) 109 = some (109, .iconst 1, 1, 0, 0, 0) := by decide +kernel
theorem f_353_110 : ftc (PT 353) 110 = some (110, .iadd, 1, 0, 0, 0) := by decide +kernel
theorem f_353_111 : ftc (PT 353) 111 = some (111, .putfield 502, 3, 12, 39, 1675) := by decide +kernel
theorem f_353_114 : ftc (PT 353) 114 = some (114, .lload_n 1, 1, 0, 0, 0) := by decide +kernel
theorem f_353_115 : ftc (PT 353) 115 = some (115, .lneg, 1, 0, 0, 0) := by decide +kernel
theorem f_353_116 : ftc (PT 353) 116 = some (116, .lstore_n 1, 1, 0, 0, 0) := by decide +kernel
theorem f_353_117 : ftc (PT 353) 117 = some (117, .lload_n 3, 1, 0, 0, 0) := by decide +kernel
theorem f_353_118 : ftc (PT 353) 118 = some (118, .lneg, 1, 0, 0, 0) := by decide +kernel
theorem f_353_119 : ftc (PT 353) 119 = some (119, .lstore_n 3, 1, 0, 0, 0) := by decide +kernel
theorem f_353_120 : ftc (PT 353) 120 = some (120, .iinc 5 1, 3, 0, 0, 0) := by decide +kernel
theorem f_353_123 : ftc (PT 353) 123 = some (123, .goto (-111), 3, 12, 0, 0) := by decide +kernel
theorem f_353_126 : ftc (PT 353) 126 = some (126, .aload_n 0, 1, 0, 0, 0) := by decide +kernel
theorem f_353_127 : ftc (PT 353) 127 = some (127, .lload_n 3, 1, 0, 0, 0) := by decide +kernel
theorem f_353_128 : ftc (PT 353) 128 = some (128, .lload_n 1, 1, 0, 0, 0) := by decide +kernel
theorem f_353_129 : ftc (PT 353) 129 = some (129, .invokevirtual 179, 3, 246, 5196, 1900) := by decide +kernel
theorem f_353_132 : ftc (PT 353) 132 = some (132, .return_, 1, 0, 0, 0) := by decide +kernel
theorem f_354_27 : ftc (PT 354) 27 = some (27, .iload_n 2, 1, 0, 0, 0) := by decide +kernel
theorem f_354_28 : ftc (PT 354) 28 = some (28, .bipush 16, 2, 0, 0, 0) := by decide +kernel
theorem f_354_30 : ftc (PT 354) 30 = some (30, .if_icmp .ge 26, 3, 56, 0, 0) := by decide +kernel
theorem f_354_33 : ftc (PT 354) 33 = some (33, .aload_n 0, 1, 0, 0, 0) := by decide +kernel
theorem f_354_34 : ftc (PT 354) 34 = some (34, .getfield 13, 3, 12, 2, 1638) := by decide +kernel
theorem f_354_37 : ftc (PT 354) 37 = some (37, .bipush 17, 2, 0, 0, 0) := by decide +kernel
theorem f_354_39 : ftc (PT 354) 39 = some (39, .iload_n 1, 1, 0, 0, 0) := by decide +kernel
theorem f_354_40 : ftc (PT 354) 40 = some (40, .imul, 1, 0, 0, 0) := by decide +kernel
theorem f_354_41 : ftc (PT 354) 41 = some (41, .iload_n 2, 1, 0, 0, 0) := by decide +kernel
theorem f_354_42 : ftc (PT 354) 42 = some (42, .iadd, 1, 0, 0, 0) := by decide +kernel
theorem f_354_43 : ftc (PT 354) 43 = some (43, .aload_n 0, 1, 0, 0, 0) := by decide +kernel
theorem f_354_44 : ftc (PT 354) 44 = some (44, .getfield 7, 3, 12, 1, 1637) := by decide +kernel
theorem f_354_47 : ftc (PT 354) 47 = some (47, .iload_n 2, 1, 0, 0, 0) := by decide +kernel
theorem f_354_48 : ftc (PT 354) 48 = some (48, .iaload, 1, 0, 0, 0) := by decide +kernel
theorem f_354_49 : ftc (PT 354) 49 = some (49, .iastore, 1, 0, 0, 0) := by decide +kernel
theorem f_354_50 : ftc (PT 354) 50 = some (50, .iinc 2 1, 3, 0, 0, 0) := by decide +kernel
theorem f_354_53 : ftc (PT 354) 53 = some (53, .goto (-26), 3, 27, 0, 0) := by decide +kernel
theorem f_354_56 : ftc (PT 354) 56 = some (56, .aload_n 0, 1, 0, 0, 0) := by decide +kernel
theorem f_354_57 : ftc (PT 354) 57 = some (57, .getfield 13, 3, 12, 2, 1638) := by decide +kernel
theorem f_354_60 : ftc (PT 354) 60 = some (60, .bipush 17, 2, 0, 0, 0) := by decide +kernel
theorem f_354_62 : ftc (PT 354) 62 = some (62, .iload_n 1, 1, 0, 0, 0) := by decide +kernel
theorem f_354_63 : ftc (PT 354) 63 = some (63, .imul, 1, 0, 0, 0) := by decide +kernel
theorem f_354_64 : ftc (PT 354) 64 = some (64, .bipush 16, 2, 0, 0, 0) := by decide +kernel
theorem f_354_66 : ftc (PT 354) 66 = some (66, .iadd, 1, 0, 0, 0) := by decide +kernel
theorem f_354_67 : ftc (PT 354) 67 = some (67, .iconst 1, 1, 0, 0, 0) := by decide +kernel
theorem f_354_68 : ftc (PT 354) 68 = some (68, .iastore, 1, 0, 0, 0) := by decide +kernel
theorem f_354_69 : ftc (PT 354) 69 = some (69, .aload_n 0, 1, 0, 0, 0) := by decide +kernel
theorem f_354_70 : ftc (PT 354) 70 = some (70, .invokevirtual 92, 3, 215, 1036, 1781) := by decide +kernel
theorem f_354_73 : ftc (PT 354) 73 = some (73, .ireturn, 1, 0, 0, 0) := by decide +kernel
set_option maxRecDepth 10000 in
set_option maxHeartbeats 4000000 in
theorem s_332_9 {Lx : Nat} {I : Mi} {L : Ml} {e : Nat} {Q : Kq} {r : Int32} (h :
    Wp 332 12 [(0, .ref 58), (1, .int r), (2, .int (Int32.ofInt 0))] [] (gE Lx) I L e Q) :
    Wp 332 9 [(0, .ref 58)] [.int r] (gE Lx) I L e Q := by
  refine w_a f_332_9 ?_
  refine w_a (ls := [(1, .int r), (0, .ref 58)]) f_332_10 ?_
  refine w_a f_332_11 ?_
  exact w_n (ks := [0, 1, 2]) rfl h
set_option maxRecDepth 10000 in
set_option maxHeartbeats 4000000 in
theorem s_332_12 {Lx : Nat} {I : Mi} {L : Ml} {e : Nat} {Q : Kq} {x1 : Int32} {x2 : Int32} (h :
    (if x2 < (Int32.ofInt 16) then
     (inb x2 16 (
      (inb x2 16 (
       Wp 332 12 [(0, .ref 58), (1, .int x1), (2, .int (x2 + Int32.ofInt 1))] [] (gE Lx) (ui I 64 x2.toNatClampNeg (I 59 x2.toNatClampNeg)) L e Q)
      False))
     False)
    else
     Wp 332 38 [(0, .ref 58), (1, .int x1), (2, .int (Int32.ofInt 0))] [] (gE Lx) I L e Q)) :
    Wp 332 12 [(0, .ref 58), (1, .int x1), (2, .int x2)] [] (gE Lx) I L e Q := by
  refine w_a f_332_12 ?_
  refine w_a f_332_13 ?_
  refine w_a f_332_15 ?_
  refine i_m (fun h => ?_) (fun h => ?_) h
  · refine w_a f_332_18 ?_
    refine w_a f_332_19 ?_
    refine w_a f_332_22 ?_
    refine w_a f_332_23 ?_
    refine w_a f_332_24 ?_
    refine w_a f_332_27 ?_
    refine w_a f_332_28 ?_
    refine n_m (fun h => ?_) h
    refine w_a f_332_29 ?_
    refine n_m (fun h => ?_) h
    refine w_a f_332_30 ?_
    refine w_a (ls := [(2, .int (x2 + Int32.ofInt 1)), (0, .ref 58), (1, .int x1)]) f_332_33 ?_
    exact w_n (ks := [0, 1, 2]) rfl h
  · refine w_a f_332_36 ?_
    refine w_a f_332_37 ?_
    exact w_n (ks := [0, 1, 2]) rfl h
set_option maxRecDepth 10000 in
set_option maxHeartbeats 4000000 in
theorem s_332_38 {Lx : Nat} {I : Mi} {L : Ml} {e : Nat} {Q : Kq} {x1 : Int32} {x2 : Int32} (h :
    (if x2 < (I 59 3) then
     (inb ((Int32.ofInt 4) + ((Int32.ofInt 3) * ((x1 >>> (((Int32.ofInt 2) * ((Int32.ofInt 3) - x2)) &&& 31)) &&& (Int32.ofInt 3)))) 16 (
      (inb ((Int32.ofInt 5) + ((Int32.ofInt 3) * ((x1 >>> (((Int32.ofInt 2) * ((Int32.ofInt 3) - x2)) &&& 31)) &&& (Int32.ofInt 3)))) 16 (
       (inb ((Int32.ofInt 6) + ((Int32.ofInt 3) * ((x1 >>> (((Int32.ofInt 2) * ((Int32.ofInt 3) - x2)) &&& 31)) &&& (Int32.ofInt 3)))) 16 (
        (inb ((Int32.ofInt 4) + ((Int32.ofInt 3) * x2)) 16 (
         (inb ((Int32.ofInt 5) + ((Int32.ofInt 3) * x2)) 16 (
          (inb ((Int32.ofInt 6) + ((Int32.ofInt 3) * x2)) 16 (
           Wp 332 38 [(0, .ref 58), (1, .int x1), (2, .int (x2 + Int32.ofInt 1))] [] (gE Lx) (ui (ui (ui I 59 (((Int32.ofInt 4) + ((Int32.ofInt 3) * x2)).toNatClampNeg) (I 64 (((Int32.ofInt 4) + ((Int32.ofInt 3) * ((x1 >>> (((Int32.ofInt 2) * ((Int32.ofInt 3) - x2)) &&& 31)) &&& (Int32.ofInt 3)))).toNatClampNeg))) 59 (((Int32.ofInt 5) + ((Int32.ofInt 3) * x2)).toNatClampNeg) (I 64 (((Int32.ofInt 5) + ((Int32.ofInt 3) * ((x1 >>> (((Int32.ofInt 2) * ((Int32.ofInt 3) - x2)) &&& 31)) &&& (Int32.ofInt 3)))).toNatClampNeg))) 59 (((Int32.ofInt 6) + ((Int32.ofInt 3) * x2)).toNatClampNeg) (I 64 (((Int32.ofInt 6) + ((Int32.ofInt 3) * ((x1 >>> (((Int32.ofInt 2) * ((Int32.ofInt 3) - x2)) &&& 31)) &&& (Int32.ofInt 3)))).toNatClampNeg))) L e Q)
          False))
         False))
        False))
       False))
      False))
     False)
    else
     Wp 320 0 [(0, .long (L 58 25)), (2, .long (L 58 26))] [] (gE Lx) I L e (kcp (Wp 319) 319 8 0 [(0, .ref 58)] 71 [] (kcp (Wp 332) 332 101 0 [(0, .ref 58)] 71 [] Q)))) :
    Wp 332 38 [(0, .ref 58), (1, .int x1), (2, .int x2)] [] (gE Lx) I L e Q := by
  refine w_a f_332_38 ?_
  refine w_a f_332_39 ?_
  refine w_a f_332_40 ?_
  refine w_a (ls := [(0, .ref 58)]) f_215_0 ?_
  refine w_a f_215_1 ?_
  refine w_a f_215_4 ?_
  refine w_a f_215_5 ?_
  refine w_a f_215_6 ?_
  refine w_a (ls := [(0, .ref 58), (1, .int x1), (2, .int x2)]) f_332_43 ?_
  refine i_m (fun h => ?_) (fun h => ?_) h
  · refine w_a f_332_46 ?_
    refine w_a f_332_47 ?_
    refine w_a f_332_48 ?_
    refine w_a f_332_49 ?_
    refine w_a f_332_52 ?_
    refine w_a f_332_53 ?_
    refine w_a f_332_54 ?_
    refine w_a f_332_55 ?_
    refine w_a f_332_56 ?_
    refine w_a (ls := [(0, .int x1), (1, .int x2)]) f_331_0 ?_
    refine w_a f_331_1 ?_
    refine w_a f_331_2 ?_
    refine w_a f_331_3 ?_
    refine w_a f_331_4 ?_
    refine w_a f_331_5 ?_
    refine w_a f_331_6 ?_
    refine w_a f_331_7 ?_
    refine w_a f_331_8 ?_
    refine w_a f_331_9 ?_
    refine w_a (ls := [(0, .ref 58), (1, .int x1), (2, .int x2)]) f_332_59 ?_
    refine w_a f_332_60 ?_
    refine w_a f_332_61 ?_
    refine n_m (fun h => ?_) h
    refine w_a f_332_62 ?_
    refine w_a f_332_63 ?_
    refine w_a f_332_66 ?_
    refine w_a f_332_67 ?_
    refine w_a f_332_68 ?_
    refine w_a f_332_69 ?_
    refine w_a f_332_70 ?_
    refine w_a (ls := [(0, .int x1), (1, .int x2)]) f_331_0 ?_
    refine w_a f_331_1 ?_
    refine w_a f_331_2 ?_
    refine w_a f_331_3 ?_
    refine w_a f_331_4 ?_
    refine w_a f_331_5 ?_
    refine w_a f_331_6 ?_
    refine w_a f_331_7 ?_
    refine w_a f_331_8 ?_
    refine w_a f_331_9 ?_
    refine w_a (ls := [(0, .ref 58), (1, .int x1), (2, .int x2)]) f_332_73 ?_
    refine w_a f_332_74 ?_
    refine w_a f_332_75 ?_
    refine n_m (fun h => ?_) h
    refine w_a f_332_76 ?_
    refine w_a f_332_77 ?_
    refine w_a f_332_80 ?_
    refine w_a f_332_82 ?_
    refine w_a f_332_83 ?_
    refine w_a f_332_84 ?_
    refine w_a f_332_85 ?_
    refine w_a (ls := [(0, .int x1), (1, .int x2)]) f_331_0 ?_
    refine w_a f_331_1 ?_
    refine w_a f_331_2 ?_
    refine w_a f_331_3 ?_
    refine w_a f_331_4 ?_
    refine w_a f_331_5 ?_
    refine w_a f_331_6 ?_
    refine w_a f_331_7 ?_
    refine w_a f_331_8 ?_
    refine w_a f_331_9 ?_
    refine w_a (ls := [(0, .ref 58), (1, .int x1), (2, .int x2)]) f_332_88 ?_
    refine w_a f_332_89 ?_
    refine w_a f_332_90 ?_
    refine n_m (fun h => ?_) h
    refine w_a f_332_91 ?_
    refine w_a (ls := [(0, .ref 58), (1, .int x2), (2, .int (I 64 (((Int32.ofInt 4) + ((Int32.ofInt 3) * ((x1 >>> (((Int32.ofInt 2) * ((Int32.ofInt 3) - x2)) &&& 31)) &&& (Int32.ofInt 3)))).toNatClampNeg))), (3, .int (I 64 (((Int32.ofInt 5) + ((Int32.ofInt 3) * ((x1 >>> (((Int32.ofInt 2) * ((Int32.ofInt 3) - x2)) &&& 31)) &&& (Int32.ofInt 3)))).toNatClampNeg))), (4, .int (I 64 (((Int32.ofInt 6) + ((Int32.ofInt 3) * ((x1 >>> (((Int32.ofInt 2) * ((Int32.ofInt 3) - x2)) &&& 31)) &&& (Int32.ofInt 3)))).toNatClampNeg)))]) f_216_0 ?_
    refine w_a f_216_1 ?_
    refine w_a f_216_4 ?_
    refine w_a f_216_5 ?_
    refine w_a f_216_6 ?_
    refine w_a f_216_7 ?_
    refine w_a f_216_8 ?_
    refine w_a f_216_9 ?_
    refine w_a f_216_10 ?_
    refine n_m (fun h => ?_) h
    refine w_a f_216_11 ?_
    refine w_a f_216_12 ?_
    refine w_a f_216_15 ?_
    refine w_a f_216_16 ?_
    refine w_a f_216_17 ?_
    refine w_a f_216_18 ?_
    refine w_a f_216_19 ?_
    refine w_a f_216_20 ?_
    refine w_a f_216_21 ?_
    refine n_m (fun h => ?_) h
    refine w_a f_216_22 ?_
    refine w_a f_216_23 ?_
    refine w_a f_216_26 ?_
    refine w_a f_216_28 ?_
    refine w_a f_216_29 ?_
    refine w_a f_216_30 ?_
    refine w_a f_216_31 ?_
    refine w_a f_216_32 ?_
    refine w_a f_216_34 ?_
    refine n_m (fun h => ?_) h
    refine w_a f_216_35 ?_
    refine w_a (ls := [(0, .ref 58), (1, .int x1), (2, .int x2)]) f_332_94 ?_
    refine w_a (ls := [(2, .int (x2 + Int32.ofInt 1)), (0, .ref 58), (1, .int x1)]) f_332_97 ?_
    exact w_n (ks := [0, 1, 2]) rfl h
  · refine w_a f_332_100 ?_
    refine w_c (ks := [0]) f_332_101 rfl rfl ?_
    refine w_a (ls := [(0, .ref 58)]) f_319_0 ?_
    refine w_a f_319_1 ?_
    refine w_a f_319_4 ?_
    refine w_a f_319_5 ?_
    exact w_c (ks := [0]) f_319_8 rfl rfl h
set_option maxRecDepth 10000 in
set_option maxHeartbeats 4000000 in
theorem s_332_104 {Lx : Nat} {I : Mi} {L : Ml} {e : Nat} {Q : Kq} {r : Int32} (h :
    Q (.inl (some (.int r))) (gE Lx) I L e) :
    Wp 332 104 [(0, .ref 58)] [.int r] (gE Lx) I L e Q := by
  refine w_a f_332_104 ?_
  exact h
set_option maxRecDepth 10000 in
set_option maxHeartbeats 4000000 in
theorem s_333_52 {Lx : Nat} {I : Mi} {L : Ml} {e : Nat} {Q : Kq} {x1 : Int32} (h :
    Wp 240 0 [(0, .ref 58)] [] (gE Lx) I L e (kcp (Wp 333) 333 53 0 [(0, .ref 58), (1, .int x1)] 71 [] Q)) :
    Wp 333 52 [(0, .ref 58), (1, .int x1)] [] (gE Lx) I L e Q := by
  refine w_a f_333_52 ?_
  exact w_c (ks := [0, 1]) f_333_53 rfl rfl h
set_option maxRecDepth 10000 in
set_option maxHeartbeats 4000000 in
theorem s_333_56 {Lx : Nat} {I : Mi} {L : Ml} {e : Nat} {Q : Kq} {x1 : Int32} (h :
    Wp 320 0 [(0, .long (L 58 8)), (2, .long (L 58 9))] [] (gE Lx) I L e (kcp (Wp 333) 333 64 0 [(0, .ref 58), (1, .int x1)] 71 [] Q)) :
    Wp 333 56 [(0, .ref 58), (1, .int x1)] [] (gE Lx) I L e Q := by
  refine w_a f_333_56 ?_
  refine w_a f_333_57 ?_
  refine w_a f_333_60 ?_
  refine w_a f_333_61 ?_
  exact w_c (ks := [0, 1]) f_333_64 rfl rfl h
set_option maxRecDepth 10000 in
set_option maxHeartbeats 4000000 in
theorem s_333_67 {Lx : Nat} {I : Mi} {L : Ml} {e : Nat} {Q : Kq} {x1 : Int32} {r : Int32} (h :
    Wp 333 76 [(0, .ref 58), (1, .int x1), (2, .int r), (3, .int (Int32.ofInt (-1))), (4, .int (Int32.ofInt 0)), (5, .int (Int32.ofInt 0))] [] (gE Lx) I L e Q) :
    Wp 333 67 [(0, .ref 58), (1, .int x1)] [.int r] (gE Lx) I L e Q := by
  refine w_a f_333_67 ?_
  refine w_a (ls := [(2, .int r), (0, .ref 58), (1, .int x1)]) f_333_68 ?_
  refine w_a f_333_69 ?_
  refine w_a (ls := [(3, .int (Int32.ofInt (-1))), (2, .int r), (0, .ref 58), (1, .int x1)]) f_333_70 ?_
  refine w_a f_333_71 ?_
  refine w_a (ls := [(4, .int (Int32.ofInt 0)), (3, .int (Int32.ofInt (-1))), (2, .int r), (0, .ref 58), (1, .int x1)]) f_333_73 ?_
  refine w_a f_333_74 ?_
  exact w_n (ks := [0, 1, 2, 3, 4, 5]) rfl h
set_option maxRecDepth 10000 in
set_option maxHeartbeats 4000000 in
theorem s_333_76 {Lx : Nat} {I : Mi} {L : Ml} {e : Nat} {Q : Kq} {x1 : Int32} {x2 : Int32} {x3 : Int32} {x4 : Int32} {x5 : Int32} (h :
    (if x5 < (I 59 3) then
     Wp 223 0 [(0, .ref 58), (1, .int x5)] [] (gE Lx) I L e (kcp (Wp 333) 333 89 0 [(0, .ref 58), (1, .int x1), (2, .int x2), (3, .int x3), (4, .int x4), (5, .int x5)] 71 [.ref 58] Q)
    else
     (if x1 = 0 then
      Q (.inl (some (.int x3))) (gE Lx) I L e
     else
      Q (.inl (some (.int x4))) (gE Lx) I L e))) :
    Wp 333 76 [(0, .ref 58), (1, .int x1), (2, .int x2), (3, .int x3), (4, .int x4), (5, .int x5)] [] (gE Lx) I L e Q := by
  refine w_a f_333_76 ?_
  refine w_a f_333_78 ?_
  refine w_a f_333_79 ?_
  refine w_a (ls := [(0, .ref 58)]) f_215_0 ?_
  refine w_a f_215_1 ?_
  refine w_a f_215_4 ?_
  refine w_a f_215_5 ?_
  refine w_a f_215_6 ?_
  refine w_a (ls := [(0, .ref 58), (1, .int x1), (2, .int x2), (3, .int x3), (4, .int x4), (5, .int x5)]) f_333_82 ?_
  refine i_m (fun h => ?_) (fun h => ?_) h
  · refine w_a f_333_85 ?_
    refine w_a f_333_86 ?_
    refine w_a f_333_87 ?_
    exact w_c (ks := [0, 1, 2, 3, 4, 5]) f_333_89 rfl rfl h
  · refine w_a f_333_175 ?_
    refine w_a f_333_176 ?_
    refine i_m (fun h => ?_) (fun h => ?_) h
    · refine w_a f_333_179 ?_
      refine w_a f_333_180 ?_
      refine w_a f_333_185 ?_
      exact h
    · refine w_a f_333_183 ?_
      refine w_a f_333_185 ?_
      exact h
set_option maxRecDepth 10000 in
set_option maxHeartbeats 4000000 in
theorem s_333_92 {Lx : Nat} {I : Mi} {L : Ml} {e : Nat} {Q : Kq} {x1 : Int32} {x2 : Int32} {x3 : Int32} {x4 : Int32} {x5 : Int32} {r : Int32} (h :
    Wp 224 0 [(0, .ref 58), (1, .int x5)] [] (gE Lx) I L e (kcp (Wp 333) 333 95 0 [(0, .ref 58), (1, .int x1), (2, .int x2), (3, .int x3), (4, .int x4), (5, .int x5)] 71 [.int r, .ref 58] Q)) :
    Wp 333 92 [(0, .ref 58), (1, .int x1), (2, .int x2), (3, .int x3), (4, .int x4), (5, .int x5)] [.int r, .ref 58] (gE Lx) I L e Q := by
  refine w_a f_333_92 ?_
  refine w_a f_333_93 ?_
  exact w_c (ks := [0, 1, 2, 3, 4, 5]) f_333_95 rfl rfl h
set_option maxRecDepth 10000 in
set_option maxHeartbeats 4000000 in
theorem s_333_98 {Lx : Nat} {I : Mi} {L : Ml} {e : Nat} {Q : Kq} {x1 : Int32} {x2 : Int32} {x3 : Int32} {x4 : Int32} {x5 : Int32} {r1 : Int32} {r : Int32} (h :
    Wp 334 0 [(0, .ref 58), (1, .int r1), (2, .int r)] [] (gE Lx) I L e (kcp (Wp 333) 333 98 0 [(0, .ref 58), (1, .int x1), (2, .int x2), (3, .int x3), (4, .int x4), (5, .int x5)] 71 [] Q)) :
    Wp 333 98 [(0, .ref 58), (1, .int x1), (2, .int x2), (3, .int x3), (4, .int x4), (5, .int x5)] [.int r, .int r1, .ref 58] (gE Lx) I L e Q := by
  exact w_c (ks := [0, 1, 2, 3, 4, 5]) f_333_98 rfl rfl h
set_option maxRecDepth 10000 in
set_option maxHeartbeats 4000000 in
theorem s_333_101 {Lx : Nat} {I : Mi} {L : Ml} {e : Nat} {Q : Kq} {x1 : Int32} {x2 : Int32} {x3 : Int32} {x4 : Int32} {x5 : Int32} {r : Int32} (h :
    Wp 335 0 [(0, .ref 58), (1, .int x5), (2, .int (r + (Int32.ofInt 1)))] [] (gE Lx) I L e (kcp (Wp 333) 333 110 0 [(0, .ref 58), (1, .int x1), (2, .int x2), (3, .int x3), (4, .int x4), (5, .int x5), (6, .int r)] 71 [] Q)) :
    Wp 333 101 [(0, .ref 58), (1, .int x1), (2, .int x2), (3, .int x3), (4, .int x4), (5, .int x5)] [.int r] (gE Lx) I L e Q := by
  refine w_a f_333_101 ?_
  refine w_a (ls := [(6, .int r), (0, .ref 58), (1, .int x1), (2, .int x2), (3, .int x3), (4, .int x4), (5, .int x5)]) f_333_103 ?_
  refine w_a f_333_104 ?_
  refine w_a f_333_106 ?_
  refine w_a f_333_108 ?_
  refine w_a f_333_109 ?_
  exact w_c (ks := [0, 1, 2, 3, 4, 5, 6]) f_333_110 rfl rfl h
set_option maxRecDepth 10000 in
set_option maxHeartbeats 4000000 in
theorem s_333_113 {Lx : Nat} {I : Mi} {L : Ml} {e : Nat} {Q : Kq} {x1 : Int32} {x2 : Int32} {x3 : Int32} {x4 : Int32} {x5 : Int32} {x6 : Int32} {r : Int32} (h :
    Wp 335 0 [(0, .ref 58), (1, .int x5), (2, .int (x6 - (Int32.ofInt 1)))] [] (gE Lx) I L e (kcp (Wp 333) 333 124 0 [(0, .ref 58), (1, .int x1), (2, .int x2), (3, .int x3), (4, .int x4), (5, .int x5), (7, .int (r - x2))] 71 [] Q)) :
    Wp 333 113 [(0, .ref 58), (1, .int x1), (2, .int x2), (3, .int x3), (4, .int x4), (5, .int x5), (6, .int x6)] [.int r] (gE Lx) I L e Q := by
  refine w_a f_333_113 ?_
  refine w_a f_333_114 ?_
  refine w_a f_333_115 ?_
  refine w_a (ls := [(7, .int (r - x2)), (0, .ref 58), (1, .int x1), (2, .int x2), (3, .int x3), (4, .int x4), (5, .int x5), (6, .int x6)]) f_333_117 ?_
  refine w_a f_333_118 ?_
  refine w_a f_333_120 ?_
  refine w_a f_333_122 ?_
  refine w_a f_333_123 ?_
  exact w_c (ks := [0, 1, 2, 3, 4, 5, 7]) f_333_124 rfl rfl h
set_option maxRecDepth 10000 in
set_option maxHeartbeats 4000000 in
theorem s_333_127 {Lx : Nat} {I : Mi} {L : Ml} {e : Nat} {Q : Kq} {x1 : Int32} {x2 : Int32} {x3 : Int32} {x4 : Int32} {x5 : Int32} {x7 : Int32} {r : Int32} (h :
    (if (r - x2) < x7 then
     (if x3 = (Int32.ofInt (-1)) then
      Wp 333 76 [(0, .ref 58), (1, .int x1), (2, .int x2), (3, .int x5), (4, .int x7), (5, .int (x5 + Int32.ofInt 1))] [] (gE Lx) I L e Q
     else
      (if x4 < x7 then
       Wp 333 76 [(0, .ref 58), (1, .int x1), (2, .int x2), (3, .int x5), (4, .int x7), (5, .int (x5 + Int32.ofInt 1))] [] (gE Lx) I L e Q
      else
       Wp 333 76 [(0, .ref 58), (1, .int x1), (2, .int x2), (3, .int x3), (4, .int x4), (5, .int (x5 + Int32.ofInt 1))] [] (gE Lx) I L e Q))
    else
     (if x3 = (Int32.ofInt (-1)) then
      Wp 333 76 [(0, .ref 58), (1, .int x1), (2, .int x2), (3, .int x5), (4, .int (r - x2)), (5, .int (x5 + Int32.ofInt 1))] [] (gE Lx) I L e Q
     else
      (if x4 < (r - x2) then
       Wp 333 76 [(0, .ref 58), (1, .int x1), (2, .int x2), (3, .int x5), (4, .int (r - x2)), (5, .int (x5 + Int32.ofInt 1))] [] (gE Lx) I L e Q
      else
       Wp 333 76 [(0, .ref 58), (1, .int x1), (2, .int x2), (3, .int x3), (4, .int x4), (5, .int (x5 + Int32.ofInt 1))] [] (gE Lx) I L e Q)))) :
    Wp 333 127 [(0, .ref 58), (1, .int x1), (2, .int x2), (3, .int x3), (4, .int x4), (5, .int x5), (7, .int x7)] [.int r] (gE Lx) I L e Q := by
  refine w_a f_333_127 ?_
  refine w_a f_333_128 ?_
  refine w_a f_333_129 ?_
  refine w_a (ls := [(8, .int (r - x2)), (0, .ref 58), (1, .int x1), (2, .int x2), (3, .int x3), (4, .int x4), (5, .int x5), (7, .int x7)]) f_333_131 ?_
  refine w_a f_333_133 ?_
  refine w_a f_333_135 ?_
  refine i_m (fun h => ?_) (fun h => ?_) h
  · refine w_a f_333_138 ?_
    refine w_a f_333_140 ?_
    refine w_a f_333_145 ?_
    refine w_a (ls := [(9, .int x7), (8, .int (r - x2)), (0, .ref 58), (1, .int x1), (2, .int x2), (3, .int x3), (4, .int x4), (5, .int x5), (7, .int x7)]) f_333_147 ?_
    refine w_a f_333_148 ?_
    refine w_a f_333_149 ?_
    refine i_m (fun h => ?_) (fun h => ?_) h
    · refine w_a f_333_162 ?_
      refine w_a f_333_164 ?_
      refine w_a (ls := [(3, .int x5), (9, .int x7), (8, .int (r - x2)), (0, .ref 58), (1, .int x1), (2, .int x2), (4, .int x4), (5, .int x5), (7, .int x7)]) f_333_165 ?_
      refine w_a f_333_167 ?_
      refine w_a (ls := [(4, .int x7), (3, .int x5), (9, .int x7), (8, .int (r - x2)), (0, .ref 58), (1, .int x1), (2, .int x2), (5, .int x5), (7, .int x7)]) f_333_169 ?_
      refine w_a (ls := [(5, .int (x5 + Int32.ofInt 1)), (4, .int x7), (3, .int x5), (9, .int x7), (8, .int (r - x2)), (0, .ref 58), (1, .int x1), (2, .int x2), (7, .int x7)]) f_333_172 ?_
      exact w_n (ks := [0, 1, 2, 3, 4, 5]) rfl h
    · refine w_a f_333_152 ?_
      refine w_a f_333_154 ?_
      refine w_a f_333_156 ?_
      refine i_m (fun h => ?_) (fun h => ?_) h
      · refine w_a f_333_162 ?_
        refine w_a f_333_164 ?_
        refine w_a (ls := [(3, .int x5), (9, .int x7), (8, .int (r - x2)), (0, .ref 58), (1, .int x1), (2, .int x2), (4, .int x4), (5, .int x5), (7, .int x7)]) f_333_165 ?_
        refine w_a f_333_167 ?_
        refine w_a (ls := [(4, .int x7), (3, .int x5), (9, .int x7), (8, .int (r - x2)), (0, .ref 58), (1, .int x1), (2, .int x2), (5, .int x5), (7, .int x7)]) f_333_169 ?_
        refine w_a (ls := [(5, .int (x5 + Int32.ofInt 1)), (4, .int x7), (3, .int x5), (9, .int x7), (8, .int (r - x2)), (0, .ref 58), (1, .int x1), (2, .int x2), (7, .int x7)]) f_333_172 ?_
        exact w_n (ks := [0, 1, 2, 3, 4, 5]) rfl h
      · refine w_a f_333_159 ?_
        refine w_a f_333_169 ?_
        refine w_a (ls := [(5, .int (x5 + Int32.ofInt 1)), (9, .int x7), (8, .int (r - x2)), (0, .ref 58), (1, .int x1), (2, .int x2), (3, .int x3), (4, .int x4), (7, .int x7)]) f_333_172 ?_
        exact w_n (ks := [0, 1, 2, 3, 4, 5]) rfl h
  · refine w_a f_333_143 ?_
    refine w_a f_333_145 ?_
    refine w_a (ls := [(9, .int (r - x2)), (8, .int (r - x2)), (0, .ref 58), (1, .int x1), (2, .int x2), (3, .int x3), (4, .int x4), (5, .int x5), (7, .int x7)]) f_333_147 ?_
    refine w_a f_333_148 ?_
    refine w_a f_333_149 ?_
    refine i_m (fun h => ?_) (fun h => ?_) h
    · refine w_a f_333_162 ?_
      refine w_a f_333_164 ?_
      refine w_a (ls := [(3, .int x5), (9, .int (r - x2)), (8, .int (r - x2)), (0, .ref 58), (1, .int x1), (2, .int x2), (4, .int x4), (5, .int x5), (7, .int x7)]) f_333_165 ?_
      refine w_a f_333_167 ?_
      refine w_a (ls := [(4, .int (r - x2)), (3, .int x5), (9, .int (r - x2)), (8, .int (r - x2)), (0, .ref 58), (1, .int x1), (2, .int x2), (5, .int x5), (7, .int x7)]) f_333_169 ?_
      refine w_a (ls := [(5, .int (x5 + Int32.ofInt 1)), (4, .int (r - x2)), (3, .int x5), (9, .int (r - x2)), (8, .int (r - x2)), (0, .ref 58), (1, .int x1), (2, .int x2), (7, .int x7)]) f_333_172 ?_
      exact w_n (ks := [0, 1, 2, 3, 4, 5]) rfl h
    · refine w_a f_333_152 ?_
      refine w_a f_333_154 ?_
      refine w_a f_333_156 ?_
      refine i_m (fun h => ?_) (fun h => ?_) h
      · refine w_a f_333_162 ?_
        refine w_a f_333_164 ?_
        refine w_a (ls := [(3, .int x5), (9, .int (r - x2)), (8, .int (r - x2)), (0, .ref 58), (1, .int x1), (2, .int x2), (4, .int x4), (5, .int x5), (7, .int x7)]) f_333_165 ?_
        refine w_a f_333_167 ?_
        refine w_a (ls := [(4, .int (r - x2)), (3, .int x5), (9, .int (r - x2)), (8, .int (r - x2)), (0, .ref 58), (1, .int x1), (2, .int x2), (5, .int x5), (7, .int x7)]) f_333_169 ?_
        refine w_a (ls := [(5, .int (x5 + Int32.ofInt 1)), (4, .int (r - x2)), (3, .int x5), (9, .int (r - x2)), (8, .int (r - x2)), (0, .ref 58), (1, .int x1), (2, .int x2), (7, .int x7)]) f_333_172 ?_
        exact w_n (ks := [0, 1, 2, 3, 4, 5]) rfl h
      · refine w_a f_333_159 ?_
        refine w_a f_333_169 ?_
        refine w_a (ls := [(5, .int (x5 + Int32.ofInt 1)), (9, .int (r - x2)), (8, .int (r - x2)), (0, .ref 58), (1, .int x1), (2, .int x2), (3, .int x3), (4, .int x4), (7, .int x7)]) f_333_172 ?_
        exact w_n (ks := [0, 1, 2, 3, 4, 5]) rfl h
set_option maxRecDepth 10000 in
set_option maxHeartbeats 4000000 in
theorem s_334_0 {Lx : Nat} {I : Mi} {L : Ml} {e : Nat} {Q : Kq} {x1 : Int32} {x2 : Int32} (h :
    Wp 334 2 [(0, .ref 58), (1, .int x1), (2, .int x2), (3, .int (Int32.ofInt 0))] [] (gE Lx) I L e Q) :
    Wp 334 0 [(0, .ref 58), (1, .int x1), (2, .int x2)] [] (gE Lx) I L e Q := by
  refine w_a f_334_0 ?_
  refine w_a f_334_1 ?_
  exact w_n (ks := [0, 1, 2, 3]) rfl h
set_option maxRecDepth 10000 in
set_option maxHeartbeats 4000000 in
theorem s_334_2 {Lx : Nat} {I : Mi} {L : Ml} {e : Nat} {Q : Kq} {x1 : Int32} {x2 : Int32} {x3 : Int32} (h :
    (inb x3 184 (
     (if (I 61 x3.toNatClampNeg) = x1 then
      (inb x3 184 (
       (if (I 62 x3.toNatClampNeg) = x2 then
        Q (.inl (some (.int x3))) (gE Lx) I L e
       else
        Wp 334 2 [(0, .ref 58), (1, .int x1), (2, .int x2), (3, .int (x3 + Int32.ofInt 1))] [] (gE Lx) I L e Q))
      False)
     else
      Wp 334 2 [(0, .ref 58), (1, .int x1), (2, .int x2), (3, .int (x3 + Int32.ofInt 1))] [] (gE Lx) I L e Q))
    False)) :
    Wp 334 2 [(0, .ref 58), (1, .int x1), (2, .int x2), (3, .int x3)] [] (gE Lx) I L e Q := by
  refine w_a f_334_2 ?_
  refine w_a f_334_3 ?_
  refine w_a f_334_6 ?_
  refine w_a f_334_7 ?_
  refine n_m (fun h => ?_) h
  refine w_a f_334_8 ?_
  refine w_a f_334_9 ?_
  refine i_m (fun h => ?_) (fun h => ?_) h
  · refine w_a f_334_12 ?_
    refine w_a f_334_13 ?_
    refine w_a f_334_16 ?_
    refine w_a f_334_17 ?_
    refine n_m (fun h => ?_) h
    refine w_a f_334_18 ?_
    refine w_a f_334_19 ?_
    refine i_m (fun h => ?_) (fun h => ?_) h
    · refine w_a f_334_28 ?_
      refine w_a f_334_29 ?_
      exact h
    · refine w_a f_334_22 ?_
      refine w_a (ls := [(3, .int (x3 + Int32.ofInt 1)), (0, .ref 58), (1, .int x1), (2, .int x2)]) f_334_25 ?_
      exact w_n (ks := [0, 1, 2, 3]) rfl h
  · refine w_a f_334_22 ?_
    refine w_a (ls := [(3, .int (x3 + Int32.ofInt 1)), (0, .ref 58), (1, .int x1), (2, .int x2)]) f_334_25 ?_
    exact w_n (ks := [0, 1, 2, 3]) rfl h
set_option maxRecDepth 10000 in
set_option maxHeartbeats 4000000 in
theorem s_335_0 {Lx : Nat} {I : Mi} {L : Ml} {e : Nat} {Q : Kq} {x1 : Int32} {x2 : Int32} (h :
    (if (I 58 7) = 0 then False else
     Wp 324 0 [(0, .ref 58), (1, .int x1), (2, .int ((x2 + (I 58 7)) - (x2 + (I 58 7)) / (I 58 7) * (I 58 7)))] [] (gE Lx) I L e (kcp (Wp 335) 335 13 0 [(0, .ref 58)] 71 [] Q))) :
    Wp 335 0 [(0, .ref 58), (1, .int x1), (2, .int x2)] [] (gE Lx) I L e Q := by
  refine w_a f_335_0 ?_
  refine w_a f_335_1 ?_
  refine w_a f_335_2 ?_
  refine w_a f_335_3 ?_
  refine w_a f_335_4 ?_
  refine w_a f_335_7 ?_
  refine w_a f_335_8 ?_
  refine w_a f_335_9 ?_
  refine w_a f_335_12 ?_
  refine i_m id (fun h => ?_) h
  exact w_c (ks := [0]) f_335_13 rfl rfl h
set_option maxRecDepth 10000 in
set_option maxHeartbeats 4000000 in
theorem s_335_16 {Lx : Nat} {I : Mi} {L : Ml} {e : Nat} {Q : Kq} (h :
    Wp 240 0 [(0, .ref 58)] [] (gE Lx) I L e (kcp (Wp 335) 335 17 0 [(0, .ref 58)] 71 [] Q)) :
    Wp 335 16 [(0, .ref 58)] [] (gE Lx) I L e Q := by
  refine w_a f_335_16 ?_
  exact w_c (ks := [0]) f_335_17 rfl rfl h
set_option maxRecDepth 10000 in
set_option maxHeartbeats 4000000 in
theorem s_335_20 {Lx : Nat} {I : Mi} {L : Ml} {e : Nat} {Q : Kq} (h :
    Wp 320 0 [(0, .long (L 58 8)), (2, .long (L 58 9))] [] (gE Lx) I L e (kcp (Wp 335) 335 28 0 [(0, .ref 58)] 71 [] Q)) :
    Wp 335 20 [(0, .ref 58)] [] (gE Lx) I L e Q := by
  refine w_a f_335_20 ?_
  refine w_a f_335_21 ?_
  refine w_a f_335_24 ?_
  refine w_a f_335_25 ?_
  exact w_c (ks := [0]) f_335_28 rfl rfl h
set_option maxRecDepth 10000 in
set_option maxHeartbeats 4000000 in
theorem s_335_31 {Lx : Nat} {I : Mi} {L : Ml} {e : Nat} {Q : Kq} {r : Int32} (h :
    Q (.inl (some (.int r))) (gE Lx) I L e) :
    Wp 335 31 [(0, .ref 58)] [.int r] (gE Lx) I L e Q := by
  refine w_a f_335_31 ?_
  exact h
set_option maxRecDepth 10000 in
set_option maxHeartbeats 4000000 in
theorem s_336_57 {Lx : Nat} {I : Mi} {L : Ml} {e : Nat} {Q : Kq} {y7 : Int64} {y9 : Int64} {y11 : Int64} {rl : Int64} (h :
    Wp 209 0 [(0, .long rl), (2, .long y11)] [] (gE Lx) I L e (kcp (Wp 336) 336 59 0 [(0, .ref 58), (7, .long y7), (9, .long y9), (11, .long y11)] 71 [] Q)) :
    Wp 336 57 [(0, .ref 58), (7, .long y7), (9, .long y9), (11, .long y11)] [.long rl] (gE Lx) I L e Q := by
  refine w_a f_336_57 ?_
  exact w_c (ks := [0, 7, 9, 11]) f_336_59 rfl rfl h
set_option maxRecDepth 10000 in
set_option maxHeartbeats 4000000 in
theorem s_336_62 {Lx : Nat} {I : Mi} {L : Ml} {e : Nat} {Q : Kq} {y7 : Int64} {y9 : Int64} {y11 : Int64} {rl : Int64} (h :
    (if (Int64.ofInt 0) < y11 then
     (if rl = 0 then False else
      (if (Int64.ofInt 99) < (y7 / rl) then
       Q (.inl (some (.int (Int32.ofInt 0)))) (gE Lx) (ui I 58 0 (Int32.ofInt 1)) L e
      else
       Wp 210 0 [(0, .long y9)] [] (gE Lx) I L e (kcp (Wp 336) 336 85 0 [(0, .ref 58), (7, .long y7), (9, .long y9), (11, .long y11), (13, .long rl)] 71 [] Q)))
    else
     Q (.inl (some (.int (Int32.ofInt 0)))) (gE Lx) (ui I 58 0 (Int32.ofInt 1)) L e)) :
    Wp 336 62 [(0, .ref 58), (7, .long y7), (9, .long y9), (11, .long y11)] [.long rl] (gE Lx) I L e Q := by
  refine w_a f_336_62 ?_
  refine w_a (ls := [(13, .long rl), (0, .ref 58), (7, .long y7), (9, .long y9), (11, .long y11)]) f_336_64 ?_
  refine w_a f_336_66 ?_
  refine w_a f_336_67 ?_
  refine i_m (fun h => ?_) (fun h => ?_) h
  · refine w_a f_336_71 ?_
    refine w_a f_336_73 ?_
    refine w_a f_336_75 ?_
    refine i_m id (fun h => ?_) h
    refine w_a f_336_76 ?_
    refine w_a f_336_79 ?_
    refine i_m (fun h => ?_) (fun h => ?_) h
    · refine w_a f_336_114 ?_
      refine w_a f_336_115 ?_
      refine w_a (ls := [(15, .int (Int32.ofInt 0)), (13, .long rl), (0, .ref 58), (7, .long y7), (9, .long y9), (11, .long y11)]) f_336_117 ?_
      refine w_a f_336_118 ?_
      refine w_a f_336_120 ?_
      refine w_a f_336_127 ?_
      refine w_a f_336_128 ?_
      refine w_a f_336_131 ?_
      refine w_a f_336_132 ?_
      refine w_a f_336_135 ?_
      refine w_a f_336_138 ?_
      refine w_a f_336_139 ?_
      exact h
    · refine w_a f_336_83 ?_
      exact w_c (ks := [0, 7, 9, 11, 13]) f_336_85 rfl rfl h
  · refine w_a f_336_114 ?_
    refine w_a f_336_115 ?_
    refine w_a (ls := [(15, .int (Int32.ofInt 0)), (13, .long rl), (0, .ref 58), (7, .long y7), (9, .long y9), (11, .long y11)]) f_336_117 ?_
    refine w_a f_336_118 ?_
    refine w_a f_336_120 ?_
    refine w_a f_336_127 ?_
    refine w_a f_336_128 ?_
    refine w_a f_336_131 ?_
    refine w_a f_336_132 ?_
    refine w_a f_336_135 ?_
    refine w_a f_336_138 ?_
    refine w_a f_336_139 ?_
    exact h
set_option maxRecDepth 10000 in
set_option maxHeartbeats 4000000 in
theorem s_336_88 {Lx : Nat} {I : Mi} {L : Ml} {e : Nat} {Q : Kq} {y7 : Int64} {y9 : Int64} {y11 : Int64} {y13 : Int64} {rl : Int64} (h :
    (if y13 = 0 then False else
     (if (Int64.ofInt 99) < (rl / y13) then
      Q (.inl (some (.int (Int32.ofInt 0)))) (gE Lx) (ui I 58 0 (Int32.ofInt 1)) L e
     else
      (if y13 = 0 then False else
       (if (Int64.ofInt 20) < (y11 / y13) then
        Q (.inl (some (.int (Int32.ofInt 0)))) (gE Lx) (ui I 58 0 (Int32.ofInt 1)) L e
       else
        (if y13 = 0 then False else
         (if y13 = 0 then False else
          (if y13 = 0 then False else
           Wp 336 179 [(0, .ref 58), (16, .int (Int32.ofInt 0))] [] (gE Lx) (ui (ui (ui (ui I 58 0 (Int32.ofInt 0)) 59 0 ((y7 / y13).toInt32)) 59 1 ((y9 / y13).toInt32)) 59 2 ((y11 / y13).toInt32)) L e Q)))))))) :
    Wp 336 88 [(0, .ref 58), (7, .long y7), (9, .long y9), (11, .long y11), (13, .long y13)] [.long rl] (gE Lx) I L e Q := by
  refine w_a f_336_88 ?_
  refine w_a f_336_90 ?_
  refine i_m id (fun h => ?_) h
  refine w_a f_336_91 ?_
  refine w_a f_336_94 ?_
  refine i_m (fun h => ?_) (fun h => ?_) h
  · refine w_a f_336_114 ?_
    refine w_a f_336_115 ?_
    refine w_a (ls := [(15, .int (Int32.ofInt 0)), (0, .ref 58), (7, .long y7), (9, .long y9), (11, .long y11), (13, .long y13)]) f_336_117 ?_
    refine w_a f_336_118 ?_
    refine w_a f_336_120 ?_
    refine w_a f_336_127 ?_
    refine w_a f_336_128 ?_
    refine w_a f_336_131 ?_
    refine w_a f_336_132 ?_
    refine w_a f_336_135 ?_
    refine w_a f_336_138 ?_
    refine w_a f_336_139 ?_
    exact h
  · refine w_a f_336_98 ?_
    refine w_a f_336_100 ?_
    refine w_a f_336_102 ?_
    refine i_m id (fun h => ?_) h
    refine w_a f_336_103 ?_
    refine w_a f_336_106 ?_
    refine i_m (fun h => ?_) (fun h => ?_) h
    · refine w_a f_336_114 ?_
      refine w_a f_336_115 ?_
      refine w_a (ls := [(15, .int (Int32.ofInt 0)), (0, .ref 58), (7, .long y7), (9, .long y9), (11, .long y11), (13, .long y13)]) f_336_117 ?_
      refine w_a f_336_118 ?_
      refine w_a f_336_120 ?_
      refine w_a f_336_127 ?_
      refine w_a f_336_128 ?_
      refine w_a f_336_131 ?_
      refine w_a f_336_132 ?_
      refine w_a f_336_135 ?_
      refine w_a f_336_138 ?_
      refine w_a f_336_139 ?_
      exact h
    · refine w_a f_336_110 ?_
      refine w_a f_336_111 ?_
      refine w_a f_336_115 ?_
      refine w_a (ls := [(15, .int (Int32.ofInt 1)), (0, .ref 58), (7, .long y7), (9, .long y9), (11, .long y11), (13, .long y13)]) f_336_117 ?_
      refine w_a f_336_118 ?_
      refine w_a f_336_120 ?_
      refine w_a f_336_123 ?_
      refine w_a f_336_124 ?_
      refine w_a f_336_128 ?_
      refine w_a f_336_131 ?_
      refine w_a f_336_132 ?_
      refine w_a f_336_135 ?_
      refine w_a f_336_140 ?_
      refine w_a f_336_141 ?_
      refine w_a f_336_144 ?_
      refine w_a f_336_145 ?_
      refine w_a f_336_147 ?_
      refine w_a f_336_149 ?_
      refine i_m id (fun h => ?_) h
      refine w_a f_336_150 ?_
      refine w_a f_336_151 ?_
      refine w_a f_336_152 ?_
      refine w_a f_336_153 ?_
      refine w_a f_336_156 ?_
      refine w_a f_336_157 ?_
      refine w_a f_336_159 ?_
      refine w_a f_336_161 ?_
      refine i_m id (fun h => ?_) h
      refine w_a f_336_162 ?_
      refine w_a f_336_163 ?_
      refine w_a f_336_164 ?_
      refine w_a f_336_165 ?_
      refine w_a f_336_168 ?_
      refine w_a f_336_169 ?_
      refine w_a f_336_171 ?_
      refine w_a f_336_173 ?_
      refine i_m id (fun h => ?_) h
      refine w_a f_336_174 ?_
      refine w_a f_336_175 ?_
      refine w_a f_336_176 ?_
      refine w_a f_336_177 ?_
      exact w_n (ks := [0, 16]) rfl h
set_option maxRecDepth 10000 in
set_option maxHeartbeats 4000000 in
theorem s_336_179 {Lx : Nat} {I : Mi} {L : Ml} {e : Nat} {Q : Kq} {x16 : Int32} (h :
    (if x16 < (I 59 3) then
     Wp 220 0 [(0, .ref 58), (1, .int x16)] [] (gE Lx) I L e (kcp (Wp 336) 336 191 0 [(0, .ref 58), (16, .int x16)] 71 [] Q)
    else
     Q (.inl (some (.int (Int32.ofInt 0)))) (gE Lx) I L e)) :
    Wp 336 179 [(0, .ref 58), (16, .int x16)] [] (gE Lx) I L e Q := by
  refine w_a f_336_179 ?_
  refine w_a f_336_181 ?_
  refine w_a f_336_182 ?_
  refine w_a (ls := [(0, .ref 58)]) f_215_0 ?_
  refine w_a f_215_1 ?_
  refine w_a f_215_4 ?_
  refine w_a f_215_5 ?_
  refine w_a f_215_6 ?_
  refine w_a (ls := [(0, .ref 58), (16, .int x16)]) f_336_185 ?_
  refine i_m (fun h => ?_) (fun h => ?_) h
  · refine w_a f_336_188 ?_
    refine w_a f_336_189 ?_
    exact w_c (ks := [0, 16]) f_336_191 rfl rfl h
  · refine w_a f_336_229 ?_
    refine w_a f_336_230 ?_
    exact h
set_option maxRecDepth 10000 in
set_option maxHeartbeats 4000000 in
theorem s_336_194 {Lx : Nat} {I : Mi} {L : Ml} {e : Nat} {Q : Kq} {x16 : Int32} {r : Int32} (h :
    (if r = 0 then
     Wp 336 179 [(0, .ref 58), (16, .int (x16 + Int32.ofInt 1))] [] (gE Lx) I L e Q
    else
     Wp 220 0 [(0, .ref 58), (1, .int x16)] [] (gE Lx) I L e (kcp (Wp 336) 336 204 0 [(0, .ref 58), (16, .int x16)] 71 [.int (Int32.ofInt 5), .int x16, .ref 58] Q))) :
    Wp 336 194 [(0, .ref 58), (16, .int x16)] [.int r] (gE Lx) I L e Q := by
  refine w_a f_336_194 ?_
  refine i_m (fun h => ?_) (fun h => ?_) h
  · refine w_a f_336_223 ?_
    refine w_a (ls := [(16, .int (x16 + Int32.ofInt 1)), (0, .ref 58)]) f_336_226 ?_
    exact w_n (ks := [0, 16]) rfl h
  · refine w_a f_336_197 ?_
    refine w_a f_336_198 ?_
    refine w_a f_336_200 ?_
    refine w_a f_336_201 ?_
    refine w_a f_336_202 ?_
    exact w_c (ks := [0, 16]) f_336_204 rfl rfl h
set_option maxRecDepth 10000 in
set_option maxHeartbeats 4000000 in
theorem s_336_207 {Lx : Nat} {I : Mi} {L : Ml} {e : Nat} {Q : Kq} {x16 : Int32} {r1 : Int32} {r2 : Int32} {r : Int32} (h :
    Wp 223 0 [(0, .ref 58), (1, .int x16)] [] (gE Lx) I L e (kcp (Wp 336) 336 211 0 [(0, .ref 58), (16, .int x16)] 71 [.int (r2 - r), .int r1, .ref 58] Q)) :
    Wp 336 207 [(0, .ref 58), (16, .int x16)] [.int r, .int r2, .int r1, .ref 58] (gE Lx) I L e Q := by
  refine w_a f_336_207 ?_
  refine w_a f_336_208 ?_
  refine w_a f_336_209 ?_
  exact w_c (ks := [0, 16]) f_336_211 rfl rfl h
set_option maxRecDepth 10000 in
set_option maxHeartbeats 4000000 in
theorem s_336_214 {Lx : Nat} {I : Mi} {L : Ml} {e : Nat} {Q : Kq} {x16 : Int32} {r1 : Int32} {r2 : Int32} {r : Int32} (h :
    Wp 224 0 [(0, .ref 58), (1, .int x16)] [] (gE Lx) I L e (kcp (Wp 336) 336 217 0 [(0, .ref 58), (16, .int x16)] 71 [.int r, .int r2, .int r1, .ref 58] Q)) :
    Wp 336 214 [(0, .ref 58), (16, .int x16)] [.int r, .int r2, .int r1, .ref 58] (gE Lx) I L e Q := by
  refine w_a f_336_214 ?_
  refine w_a f_336_215 ?_
  exact w_c (ks := [0, 16]) f_336_217 rfl rfl h
set_option maxRecDepth 10000 in
set_option maxHeartbeats 4000000 in
theorem s_336_220 {Lx : Nat} {I : Mi} {L : Ml} {e : Nat} {Q : Kq} {x16 : Int32} {r1 : Int32} {r2 : Int32} {r3 : Int32} {r : Int32} (h :
    (inb ((Int32.ofInt 4) + ((Int32.ofInt 3) * r1)) 16 (
     (inb ((Int32.ofInt 5) + ((Int32.ofInt 3) * r1)) 16 (
      (inb ((Int32.ofInt 6) + ((Int32.ofInt 3) * r1)) 16 (
       Wp 336 179 [(0, .ref 58), (16, .int (x16 + Int32.ofInt 1))] [] (gE Lx) (ui (ui (ui I 59 (((Int32.ofInt 4) + ((Int32.ofInt 3) * r1)).toNatClampNeg) r2) 59 (((Int32.ofInt 5) + ((Int32.ofInt 3) * r1)).toNatClampNeg) r3) 59 (((Int32.ofInt 6) + ((Int32.ofInt 3) * r1)).toNatClampNeg) r) L e Q)
      False))
     False))
    False)) :
    Wp 336 220 [(0, .ref 58), (16, .int x16)] [.int r, .int r3, .int r2, .int r1, .ref 58] (gE Lx) I L e Q := by
  refine w_a f_336_220 ?_
  refine w_a (ls := [(0, .ref 58), (1, .int r1), (2, .int r2), (3, .int r3), (4, .int r)]) f_216_0 ?_
  refine w_a f_216_1 ?_
  refine w_a f_216_4 ?_
  refine w_a f_216_5 ?_
  refine w_a f_216_6 ?_
  refine w_a f_216_7 ?_
  refine w_a f_216_8 ?_
  refine w_a f_216_9 ?_
  refine w_a f_216_10 ?_
  refine n_m (fun h => ?_) h
  refine w_a f_216_11 ?_
  refine w_a f_216_12 ?_
  refine w_a f_216_15 ?_
  refine w_a f_216_16 ?_
  refine w_a f_216_17 ?_
  refine w_a f_216_18 ?_
  refine w_a f_216_19 ?_
  refine w_a f_216_20 ?_
  refine w_a f_216_21 ?_
  refine n_m (fun h => ?_) h
  refine w_a f_216_22 ?_
  refine w_a f_216_23 ?_
  refine w_a f_216_26 ?_
  refine w_a f_216_28 ?_
  refine w_a f_216_29 ?_
  refine w_a f_216_30 ?_
  refine w_a f_216_31 ?_
  refine w_a f_216_32 ?_
  refine w_a f_216_34 ?_
  refine n_m (fun h => ?_) h
  refine w_a f_216_35 ?_
  refine w_a (ls := [(0, .ref 58), (16, .int x16)]) f_336_223 ?_
  refine w_a (ls := [(16, .int (x16 + Int32.ofInt 1)), (0, .ref 58)]) f_336_226 ?_
  exact w_n (ks := [0, 16]) rfl h
set_option maxRecDepth 10000 in
set_option maxHeartbeats 4000000 in
theorem s_337_0 {Lx : Nat} {I : Mi} {L : Ml} {e : Nat} {Q : Kq} {x1 : Int32} {x2 : Int32} (h :
    (if x2 = 0 then
     (if x1 < (Int32.ofInt 1) then
      Q (.inl (some (.int (Int32.ofInt 0)))) (gE Lx) (ui I 58 0 (Int32.ofInt 1)) L e
     else
      (if (Int32.ofInt 3) < x1 then
       Q (.inl (some (.int (Int32.ofInt 0)))) (gE Lx) (ui I 58 0 (Int32.ofInt 1)) L e
      else
       Wp 339 0 [(0, .ref 58), (1, .int x1), (2, .int x2)] [] (gE Lx) (ui I 58 0 (Int32.ofInt 0)) L e (kcp (Wp 337) 337 29 0 [(0, .ref 58)] 71 [] Q)))
    else
     (if x1 < (Int32.ofInt (-10)) then
      Q (.inl (some (.int (Int32.ofInt 0)))) (gE Lx) (ui I 58 0 (Int32.ofInt 1)) L e
     else
      (if (Int32.ofInt 10) < x1 then
       Q (.inl (some (.int (Int32.ofInt 0)))) (gE Lx) (ui I 58 0 (Int32.ofInt 1)) L e
      else
       Wp 339 0 [(0, .ref 58), (1, .int x1), (2, .int x2)] [] (gE Lx) (ui I 58 0 (Int32.ofInt 0)) L e (kcp (Wp 337) 337 29 0 [(0, .ref 58)] 71 [] Q))))) :
    Wp 337 0 [(0, .ref 58), (1, .int x1), (2, .int x2)] [] (gE Lx) I L e Q := by
  refine w_a f_337_0 ?_
  refine w_a f_337_1 ?_
  refine w_a f_337_2 ?_
  refine w_a f_337_3 ?_
  refine w_a (ls := [(0, .int x1), (1, .int x2)]) f_338_0 ?_
  refine w_a f_338_1 ?_
  refine i_m (fun h => ?_) (fun h => ?_) h
  · refine w_a f_338_15 ?_
    refine w_a f_338_16 ?_
    refine w_a f_338_17 ?_
    refine w_a f_338_18 ?_
    refine w_a (ls := [(0, .int x1), (1, .int (Int32.ofInt 1)), (2, .int (Int32.ofInt 3))]) f_208_0 ?_
    refine w_a f_208_1 ?_
    refine w_a f_208_2 ?_
    refine i_m (fun h => ?_) (fun h => ?_) h
    · refine w_a f_208_14 ?_
      refine w_a f_208_15 ?_
      refine w_a (ls := [(0, .int x1), (1, .int x2)]) f_338_21 ?_
      refine w_a (ls := [(0, .ref 58), (1, .int x1), (2, .int x2)]) f_337_6 ?_
      refine w_a f_337_13 ?_
      refine w_a f_337_14 ?_
      refine w_a f_337_17 ?_
      refine w_a f_337_18 ?_
      refine w_a f_337_21 ?_
      refine w_a f_337_24 ?_
      refine w_a f_337_25 ?_
      exact h
    · refine w_a f_208_5 ?_
      refine w_a f_208_6 ?_
      refine w_a f_208_7 ?_
      refine i_m (fun h => ?_) (fun h => ?_) h
      · refine w_a f_208_14 ?_
        refine w_a f_208_15 ?_
        refine w_a (ls := [(0, .int x1), (1, .int x2)]) f_338_21 ?_
        refine w_a (ls := [(0, .ref 58), (1, .int x1), (2, .int x2)]) f_337_6 ?_
        refine w_a f_337_13 ?_
        refine w_a f_337_14 ?_
        refine w_a f_337_17 ?_
        refine w_a f_337_18 ?_
        refine w_a f_337_21 ?_
        refine w_a f_337_24 ?_
        refine w_a f_337_25 ?_
        exact h
      · refine w_a f_208_10 ?_
        refine w_a f_208_11 ?_
        refine w_a f_208_15 ?_
        refine w_a (ls := [(0, .int x1), (1, .int x2)]) f_338_21 ?_
        refine w_a (ls := [(0, .ref 58), (1, .int x1), (2, .int x2)]) f_337_6 ?_
        refine w_a f_337_9 ?_
        refine w_a f_337_10 ?_
        refine w_a f_337_14 ?_
        refine w_a f_337_17 ?_
        refine w_a f_337_18 ?_
        refine w_a f_337_21 ?_
        refine w_a f_337_26 ?_
        refine w_a f_337_27 ?_
        refine w_a f_337_28 ?_
        exact w_c (ks := [0]) f_337_29 rfl rfl h
  · refine w_a f_338_4 ?_
    refine w_a f_338_5 ?_
    refine w_a f_338_7 ?_
    refine w_a f_338_9 ?_
    refine w_a (ls := [(0, .int x1), (1, .int (Int32.ofInt (-10))), (2, .int (Int32.ofInt 10))]) f_208_0 ?_
    refine w_a f_208_1 ?_
    refine w_a f_208_2 ?_
    refine i_m (fun h => ?_) (fun h => ?_) h
    · refine w_a f_208_14 ?_
      refine w_a f_208_15 ?_
      refine w_a (ls := [(0, .int x1), (1, .int x2)]) f_338_12 ?_
      refine w_a f_338_21 ?_
      refine w_a (ls := [(0, .ref 58), (1, .int x1), (2, .int x2)]) f_337_6 ?_
      refine w_a f_337_13 ?_
      refine w_a f_337_14 ?_
      refine w_a f_337_17 ?_
      refine w_a f_337_18 ?_
      refine w_a f_337_21 ?_
      refine w_a f_337_24 ?_
      refine w_a f_337_25 ?_
      exact h
    · refine w_a f_208_5 ?_
      refine w_a f_208_6 ?_
      refine w_a f_208_7 ?_
      refine i_m (fun h => ?_) (fun h => ?_) h
      · refine w_a f_208_14 ?_
        refine w_a f_208_15 ?_
        refine w_a (ls := [(0, .int x1), (1, .int x2)]) f_338_12 ?_
        refine w_a f_338_21 ?_
        refine w_a (ls := [(0, .ref 58), (1, .int x1), (2, .int x2)]) f_337_6 ?_
        refine w_a f_337_13 ?_
        refine w_a f_337_14 ?_
        refine w_a f_337_17 ?_
        refine w_a f_337_18 ?_
        refine w_a f_337_21 ?_
        refine w_a f_337_24 ?_
        refine w_a f_337_25 ?_
        exact h
      · refine w_a f_208_10 ?_
        refine w_a f_208_11 ?_
        refine w_a f_208_15 ?_
        refine w_a (ls := [(0, .int x1), (1, .int x2)]) f_338_12 ?_
        refine w_a f_338_21 ?_
        refine w_a (ls := [(0, .ref 58), (1, .int x1), (2, .int x2)]) f_337_6 ?_
        refine w_a f_337_9 ?_
        refine w_a f_337_10 ?_
        refine w_a f_337_14 ?_
        refine w_a f_337_17 ?_
        refine w_a f_337_18 ?_
        refine w_a f_337_21 ?_
        refine w_a f_337_26 ?_
        refine w_a f_337_27 ?_
        refine w_a f_337_28 ?_
        exact w_c (ks := [0]) f_337_29 rfl rfl h
set_option maxRecDepth 10000 in
set_option maxHeartbeats 4000000 in
theorem s_337_32 {Lx : Nat} {I : Mi} {L : Ml} {e : Nat} {Q : Kq} (h :
    Wp 337 39 [(0, .ref 58), (3, .int (Int32.ofInt 0)), (4, .int (Int32.ofInt 10000))] [] (gE Lx) I L e Q) :
    Wp 337 32 [(0, .ref 58)] [] (gE Lx) I L e Q := by
  refine w_a f_337_32 ?_
  refine w_a f_337_33 ?_
  refine w_a (ls := [(3, .int (Int32.ofInt 0)), (0, .ref 58)]) f_337_34 ?_
  refine w_a f_337_37 ?_
  exact w_n (ks := [0, 3, 4]) rfl h
set_option maxRecDepth 10000 in
set_option maxHeartbeats 4000000 in
theorem s_337_39 {Lx : Nat} {I : Mi} {L : Ml} {e : Nat} {Q : Kq} {x3 : Int32} {x4 : Int32} (h :
    (if x3 < x4 then
     Wp 342 0 [(0, .ref 58), (1, .int (Int32.ofInt 10)), (2, .int (Int32.ofInt 8)), (3, .long (Int64.ofInt 10000)), (5, .int (Int32.ofInt 9)), (6, .long (-(((x3 + x4) + (Int32.ofInt 1)) / (Int32.ofInt 2))).toInt64)] [] (gE Lx) I L e (kcp (Wp 337) 337 69 0 [(0, .ref 58), (3, .int x3), (4, .int x4), (5, .int (((x3 + x4) + (Int32.ofInt 1)) / (Int32.ofInt 2)))] 71 [] Q)
    else
     Q (.inl (some (.int x3))) (gE Lx) I L e)) :
    Wp 337 39 [(0, .ref 58), (3, .int x3), (4, .int x4)] [] (gE Lx) I L e Q := by
  refine w_a f_337_39 ?_
  refine w_a f_337_40 ?_
  refine w_a f_337_42 ?_
  refine i_m (fun h => ?_) (fun h => ?_) h
  · refine w_a f_337_45 ?_
    refine w_a f_337_46 ?_
    refine w_a f_337_48 ?_
    refine w_a f_337_49 ?_
    refine w_a f_337_50 ?_
    refine w_a f_337_51 ?_
    refine w_a f_337_52 ?_
    refine w_a f_337_53 ?_
    refine w_a (ls := [(5, .int (((x3 + x4) + (Int32.ofInt 1)) / (Int32.ofInt 2))), (0, .ref 58), (3, .int x3), (4, .int x4)]) f_337_55 ?_
    refine w_a f_337_56 ?_
    refine w_a f_337_58 ?_
    refine w_a f_337_60 ?_
    refine w_a f_337_63 ?_
    refine w_a f_337_65 ?_
    refine w_a f_337_67 ?_
    refine w_a f_337_68 ?_
    exact w_c (ks := [0, 3, 4, 5]) f_337_69 rfl rfl h
  · refine w_a f_337_96 ?_
    refine w_a f_337_97 ?_
    exact h
set_option maxRecDepth 10000 in
set_option maxHeartbeats 4000000 in
theorem s_337_72 {Lx : Nat} {I : Mi} {L : Ml} {e : Nat} {Q : Kq} {x3 : Int32} {x4 : Int32} {x5 : Int32} (h :
    Wp 345 0 [(0, .ref 58), (1, .int (Int32.ofInt 10))] [] (gE Lx) I L e (kcp (Wp 337) 337 75 0 [(0, .ref 58), (3, .int x3), (4, .int x4), (5, .int x5)] 71 [] Q)) :
    Wp 337 72 [(0, .ref 58), (3, .int x3), (4, .int x4), (5, .int x5)] [] (gE Lx) I L e Q := by
  refine w_a f_337_72 ?_
  refine w_a f_337_73 ?_
  exact w_c (ks := [0, 3, 4, 5]) f_337_75 rfl rfl h
set_option maxRecDepth 10000 in
set_option maxHeartbeats 4000000 in
theorem s_337_78 {Lx : Nat} {I : Mi} {L : Ml} {e : Nat} {Q : Kq} {x3 : Int32} {x4 : Int32} {x5 : Int32} {r : Int32} (h :
    (if r < 0 then
     Wp 337 39 [(0, .ref 58), (3, .int x3), (4, .int (x5 - (Int32.ofInt 1)))] [] (gE Lx) I L e Q
    else
     Wp 337 39 [(0, .ref 58), (3, .int x5), (4, .int x4)] [] (gE Lx) I L e Q)) :
    Wp 337 78 [(0, .ref 58), (3, .int x3), (4, .int x4), (5, .int x5)] [.int r] (gE Lx) I L e Q := by
  refine w_a f_337_78 ?_
  refine i_m (fun h => ?_) (fun h => ?_) h
  · refine w_a f_337_87 ?_
    refine w_a f_337_89 ?_
    refine w_a f_337_90 ?_
    refine w_a f_337_91 ?_
    refine w_a (ls := [(4, .int (x5 - (Int32.ofInt 1))), (0, .ref 58), (3, .int x3), (5, .int x5)]) f_337_93 ?_
    exact w_n (ks := [0, 3, 4]) rfl h
  · refine w_a f_337_81 ?_
    refine w_a f_337_83 ?_
    refine w_a (ls := [(3, .int x5), (0, .ref 58), (4, .int x4), (5, .int x5)]) f_337_84 ?_
    refine w_a f_337_93 ?_
    exact w_n (ks := [0, 3, 4]) rfl h
set_option maxRecDepth 10000 in
set_option maxHeartbeats 4000000 in
theorem s_339_0 {Lx : Nat} {I : Mi} {L : Ml} {e : Nat} {Q : Kq} {x1 : Int32} {x2 : Int32} (h :
    (if x2 = 0 then
     (if 0 < (I 59 1) then
      (if x2 = 0 then
       Wp 340 0 [(0, .ref 58), (1, .int (Int32.ofInt 0)), (2, .long (I 59 0).toInt64)] [] (gE Lx) I L e (kcp (Wp 339) 339 60 0 [(0, .ref 58), (1, .int x1), (2, .int x2), (4, .int (I 59 1)), (5, .int (I 59 2)), (6, .int (Int32.ofInt 1))] 71 [] Q)
      else
       Wp 340 0 [(0, .ref 58), (1, .int (Int32.ofInt 0)), (2, .long (I 59 0).toInt64)] [] (gE Lx) I L e (kcp (Wp 339) 339 60 0 [(0, .ref 58), (1, .int x1), (2, .int x2), (4, .int (I 59 1)), (5, .int (I 59 2)), (6, .int (Int32.ofInt 1))] 71 [] Q))
     else
      (if x2 = 0 then
       Wp 340 0 [(0, .ref 58), (1, .int (Int32.ofInt 0)), (2, .long ((I 59 0).toInt64 * x1.toInt64))] [] (gE Lx) I L e (kcp (Wp 339) 339 60 0 [(0, .ref 58), (1, .int x1), (2, .int x2), (4, .int (I 59 1)), (5, .int (I 59 2)), (6, .int (Int32.ofInt 0))] 71 [] Q)
      else
       Wp 340 0 [(0, .ref 58), (1, .int (Int32.ofInt 0)), (2, .long (I 59 0).toInt64)] [] (gE Lx) I L e (kcp (Wp 339) 339 60 0 [(0, .ref 58), (1, .int x1), (2, .int x2), (4, .int (I 59 1)), (5, .int (I 59 2)), (6, .int (Int32.ofInt 0))] 71 [] Q)))
    else
     (if x2 = 0 then
      Wp 340 0 [(0, .ref 58), (1, .int (Int32.ofInt 0)), (2, .long ((I 59 0).toInt64 * x1.toInt64))] [] (gE Lx) I L e (kcp (Wp 339) 339 60 0 [(0, .ref 58), (1, .int x1), (2, .int x2), (4, .int (I 59 1)), (5, .int (I 59 2)), (6, .int (Int32.ofInt 0))] 71 [] Q)
     else
      Wp 340 0 [(0, .ref 58), (1, .int (Int32.ofInt 0)), (2, .long (I 59 0).toInt64)] [] (gE Lx) I L e (kcp (Wp 339) 339 60 0 [(0, .ref 58), (1, .int x1), (2, .int x2), (4, .int (I 59 1)), (5, .int (I 59 2)), (6, .int (Int32.ofInt 0))] 71 [] Q)))) :
    Wp 339 0 [(0, .ref 58), (1, .int x1), (2, .int x2)] [] (gE Lx) I L e Q := by
  refine w_a f_339_0 ?_
  refine w_a f_339_1 ?_
  refine w_a f_339_4 ?_
  refine w_a f_339_5 ?_
  refine w_a f_339_6 ?_
  refine w_a (ls := [(3, .int (I 59 0)), (0, .ref 58), (1, .int x1), (2, .int x2)]) f_339_7 ?_
  refine w_a f_339_8 ?_
  refine w_a f_339_11 ?_
  refine w_a f_339_12 ?_
  refine w_a f_339_13 ?_
  refine w_a (ls := [(4, .int (I 59 1)), (3, .int (I 59 0)), (0, .ref 58), (1, .int x1), (2, .int x2)]) f_339_15 ?_
  refine w_a f_339_16 ?_
  refine w_a f_339_19 ?_
  refine w_a f_339_20 ?_
  refine w_a f_339_21 ?_
  refine w_a (ls := [(5, .int (I 59 2)), (4, .int (I 59 1)), (3, .int (I 59 0)), (0, .ref 58), (1, .int x1), (2, .int x2)]) f_339_23 ?_
  refine w_a f_339_24 ?_
  refine i_m (fun h => ?_) (fun h => ?_) h
  · refine w_a f_339_27 ?_
    refine w_a f_339_29 ?_
    refine i_m (fun h => ?_) (fun h => ?_) h
    · refine w_a f_339_32 ?_
      refine w_a f_339_33 ?_
      refine w_a f_339_37 ?_
      refine w_a (ls := [(6, .int (Int32.ofInt 1)), (5, .int (I 59 2)), (4, .int (I 59 1)), (3, .int (I 59 0)), (0, .ref 58), (1, .int x1), (2, .int x2)]) f_339_39 ?_
      refine w_a f_339_40 ?_
      refine w_a f_339_41 ?_
      refine w_a f_339_42 ?_
      refine i_m (fun h => ?_) (fun h => ?_) h
      · refine w_a f_339_45 ?_
        refine w_a f_339_47 ?_
        refine w_a f_339_50 ?_
        refine w_a f_339_51 ?_
        refine w_a f_339_52 ?_
        exact w_c (ks := [0, 1, 2, 4, 5, 6]) f_339_60 rfl rfl h
      · refine w_a f_339_50 ?_
        refine w_a f_339_51 ?_
        refine w_a f_339_52 ?_
        exact w_c (ks := [0, 1, 2, 4, 5, 6]) f_339_60 rfl rfl h
    · refine w_a f_339_36 ?_
      refine w_a f_339_37 ?_
      refine w_a (ls := [(6, .int (Int32.ofInt 0)), (5, .int (I 59 2)), (4, .int (I 59 1)), (3, .int (I 59 0)), (0, .ref 58), (1, .int x1), (2, .int x2)]) f_339_39 ?_
      refine w_a f_339_40 ?_
      refine w_a f_339_41 ?_
      refine w_a f_339_42 ?_
      refine i_m (fun h => ?_) (fun h => ?_) h
      · refine w_a f_339_45 ?_
        refine w_a f_339_47 ?_
        refine w_a f_339_55 ?_
        refine w_a f_339_56 ?_
        refine w_a f_339_57 ?_
        refine w_a f_339_58 ?_
        refine w_a f_339_59 ?_
        exact w_c (ks := [0, 1, 2, 4, 5, 6]) f_339_60 rfl rfl h
      · refine w_a f_339_50 ?_
        refine w_a f_339_51 ?_
        refine w_a f_339_52 ?_
        exact w_c (ks := [0, 1, 2, 4, 5, 6]) f_339_60 rfl rfl h
  · refine w_a f_339_36 ?_
    refine w_a f_339_37 ?_
    refine w_a (ls := [(6, .int (Int32.ofInt 0)), (5, .int (I 59 2)), (4, .int (I 59 1)), (3, .int (I 59 0)), (0, .ref 58), (1, .int x1), (2, .int x2)]) f_339_39 ?_
    refine w_a f_339_40 ?_
    refine w_a f_339_41 ?_
    refine w_a f_339_42 ?_
    refine i_m (fun h => ?_) (fun h => ?_) h
    · refine w_a f_339_45 ?_
      refine w_a f_339_47 ?_
      refine w_a f_339_55 ?_
      refine w_a f_339_56 ?_
      refine w_a f_339_57 ?_
      refine w_a f_339_58 ?_
      refine w_a f_339_59 ?_
      exact w_c (ks := [0, 1, 2, 4, 5, 6]) f_339_60 rfl rfl h
    · refine w_a f_339_50 ?_
      refine w_a f_339_51 ?_
      refine w_a f_339_52 ?_
      exact w_c (ks := [0, 1, 2, 4, 5, 6]) f_339_60 rfl rfl h
set_option maxRecDepth 10000 in
set_option maxHeartbeats 4000000 in
theorem s_339_63 {Lx : Nat} {I : Mi} {L : Ml} {e : Nat} {Q : Kq} {x1 : Int32} {x2 : Int32} {x4 : Int32} {x5 : Int32} {x6 : Int32} (h :
    (if x6 = 0 then
     Wp 340 0 [(0, .ref 58), (1, .int (Int32.ofInt 1)), (2, .long x4.toInt64)] [] (gE Lx) I L e (kcp (Wp 339) 339 82 0 [(0, .ref 58), (1, .int x1), (2, .int x2), (5, .int x5), (6, .int x6)] 71 [] Q)
    else
     Wp 340 0 [(0, .ref 58), (1, .int (Int32.ofInt 1)), (2, .long (x4.toInt64 * x1.toInt64))] [] (gE Lx) I L e (kcp (Wp 339) 339 82 0 [(0, .ref 58), (1, .int x1), (2, .int x2), (5, .int x5), (6, .int x6)] 71 [] Q))) :
    Wp 339 63 [(0, .ref 58), (1, .int x1), (2, .int x2), (4, .int x4), (5, .int x5), (6, .int x6)] [] (gE Lx) I L e Q := by
  refine w_a f_339_63 ?_
  refine w_a f_339_64 ?_
  refine w_a f_339_65 ?_
  refine w_a f_339_67 ?_
  refine i_m (fun h => ?_) (fun h => ?_) h
  · refine w_a f_339_79 ?_
    refine w_a f_339_81 ?_
    exact w_c (ks := [0, 1, 2, 5, 6]) f_339_82 rfl rfl h
  · refine w_a f_339_70 ?_
    refine w_a f_339_72 ?_
    refine w_a f_339_73 ?_
    refine w_a f_339_74 ?_
    refine w_a f_339_75 ?_
    refine w_a f_339_76 ?_
    exact w_c (ks := [0, 1, 2, 5, 6]) f_339_82 rfl rfl h
set_option maxRecDepth 10000 in
set_option maxHeartbeats 4000000 in
theorem s_339_85 {Lx : Nat} {I : Mi} {L : Ml} {e : Nat} {Q : Kq} {x1 : Int32} {x2 : Int32} {x5 : Int32} {x6 : Int32} (h :
    (if x2 = 0 then
     (if x6 = 0 then
      Wp 340 0 [(0, .ref 58), (1, .int (Int32.ofInt 2)), (2, .long (x5.toInt64 * x1.toInt64))] [] (gE Lx) I L e (kcp (Wp 339) 339 108 0 [(0, .ref 58), (1, .int x1), (2, .int x2)] 71 [] Q)
     else
      Wp 340 0 [(0, .ref 58), (1, .int (Int32.ofInt 2)), (2, .long x5.toInt64)] [] (gE Lx) I L e (kcp (Wp 339) 339 108 0 [(0, .ref 58), (1, .int x1), (2, .int x2)] 71 [] Q))
    else
     Wp 340 0 [(0, .ref 58), (1, .int (Int32.ofInt 2)), (2, .long x5.toInt64)] [] (gE Lx) I L e (kcp (Wp 339) 339 108 0 [(0, .ref 58), (1, .int x1), (2, .int x2)] 71 [] Q))) :
    Wp 339 85 [(0, .ref 58), (1, .int x1), (2, .int x2), (5, .int x5), (6, .int x6)] [] (gE Lx) I L e Q := by
  refine w_a f_339_85 ?_
  refine w_a f_339_86 ?_
  refine w_a f_339_87 ?_
  refine w_a f_339_88 ?_
  refine i_m (fun h => ?_) (fun h => ?_) h
  · refine w_a f_339_91 ?_
    refine w_a f_339_93 ?_
    refine i_m (fun h => ?_) (fun h => ?_) h
    · refine w_a f_339_102 ?_
      refine w_a f_339_104 ?_
      refine w_a f_339_105 ?_
      refine w_a f_339_106 ?_
      refine w_a f_339_107 ?_
      exact w_c (ks := [0, 1, 2]) f_339_108 rfl rfl h
    · refine w_a f_339_96 ?_
      refine w_a f_339_98 ?_
      refine w_a f_339_99 ?_
      exact w_c (ks := [0, 1, 2]) f_339_108 rfl rfl h
  · refine w_a f_339_96 ?_
    refine w_a f_339_98 ?_
    refine w_a f_339_99 ?_
    exact w_c (ks := [0, 1, 2]) f_339_108 rfl rfl h
set_option maxRecDepth 10000 in
set_option maxHeartbeats 4000000 in
theorem s_339_111 {Lx : Nat} {I : Mi} {L : Ml} {e : Nat} {Q : Kq} {x1 : Int32} {x2 : Int32} (h :
    Wp 340 0 [(0, .ref 58), (1, .int (Int32.ofInt 3)), (2, .long (Int64.ofInt 0))] [] (gE Lx) I L e (kcp (Wp 339) 339 114 0 [(0, .ref 58), (1, .int x1), (2, .int x2)] 71 [] Q)) :
    Wp 339 111 [(0, .ref 58), (1, .int x1), (2, .int x2)] [] (gE Lx) I L e Q := by
  refine w_a f_339_111 ?_
  refine w_a f_339_112 ?_
  refine w_a f_339_113 ?_
  exact w_c (ks := [0, 1, 2]) f_339_114 rfl rfl h
set_option maxRecDepth 10000 in
set_option maxHeartbeats 4000000 in
theorem s_339_117 {Lx : Nat} {I : Mi} {L : Ml} {e : Nat} {Q : Kq} {x1 : Int32} {x2 : Int32} (h :
    Wp 339 120 [(0, .ref 58), (1, .int x1), (2, .int x2), (7, .int (Int32.ofInt 0))] [] (gE Lx) I L e Q) :
    Wp 339 117 [(0, .ref 58), (1, .int x1), (2, .int x2)] [] (gE Lx) I L e Q := by
  refine w_a f_339_117 ?_
  refine w_a f_339_118 ?_
  exact w_n (ks := [0, 1, 2, 7]) rfl h
set_option maxRecDepth 10000 in
set_option maxHeartbeats 4000000 in
theorem s_339_120 {Lx : Nat} {I : Mi} {L : Ml} {e : Nat} {Q : Kq} {x1 : Int32} {x2 : Int32} {x7 : Int32} (h :
    (if x7 < (I 59 3) then
     (if x2 = 0 then
      Wp 223 0 [(0, .ref 58), (1, .int x7)] [] (gE Lx) I L e (kcp (Wp 339) 339 169 0 [(0, .ref 58), (1, .int x1), (2, .int x2), (7, .int x7)] 71 [.ref 58] Q)
     else
      Wp 223 0 [(0, .ref 58), (1, .int x7)] [] (gE Lx) I L e (kcp (Wp 339) 339 143 0 [(0, .ref 58), (1, .int x1), (2, .int x2), (7, .int x7)] 71 [.long ((Int64.ofInt 20) + x1.toInt64), .ref 58] Q))
    else
     Wp 342 0 [(0, .ref 58), (1, .int (Int32.ofInt 4)), (2, .int (Int32.ofInt 0)), (3, .long (Int64.ofInt 1)), (5, .int (Int32.ofInt 2)), (6, .long (Int64.ofInt (-1)))] [] (gE Lx) I L e (kcp (Wp 339) 339 216 0 [(0, .ref 58)] 71 [] Q))) :
    Wp 339 120 [(0, .ref 58), (1, .int x1), (2, .int x2), (7, .int x7)] [] (gE Lx) I L e Q := by
  refine w_a f_339_120 ?_
  refine w_a f_339_122 ?_
  refine w_a f_339_123 ?_
  refine w_a (ls := [(0, .ref 58)]) f_215_0 ?_
  refine w_a f_215_1 ?_
  refine w_a f_215_4 ?_
  refine w_a f_215_5 ?_
  refine w_a f_215_6 ?_
  refine w_a (ls := [(0, .ref 58), (1, .int x1), (2, .int x2), (7, .int x7)]) f_339_126 ?_
  refine i_m (fun h => ?_) (fun h => ?_) h
  · refine w_a f_339_129 ?_
    refine w_a f_339_130 ?_
    refine i_m (fun h => ?_) (fun h => ?_) h
    · refine w_a f_339_165 ?_
      refine w_a f_339_166 ?_
      refine w_a f_339_167 ?_
      exact w_c (ks := [0, 1, 2, 7]) f_339_169 rfl rfl h
    · refine w_a f_339_133 ?_
      refine w_a f_339_134 ?_
      refine w_a f_339_137 ?_
      refine w_a f_339_138 ?_
      refine w_a f_339_139 ?_
      refine w_a f_339_140 ?_
      refine w_a f_339_141 ?_
      exact w_c (ks := [0, 1, 2, 7]) f_339_143 rfl rfl h
  · refine w_a f_339_208 ?_
    refine w_a f_339_209 ?_
    refine w_a f_339_210 ?_
    refine w_a f_339_211 ?_
    refine w_a f_339_212 ?_
    refine w_a f_339_213 ?_
    exact w_c (ks := [0]) f_339_216 rfl rfl h
set_option maxRecDepth 10000 in
set_option maxHeartbeats 4000000 in
theorem s_339_146 {Lx : Nat} {I : Mi} {L : Ml} {e : Nat} {Q : Kq} {x1 : Int32} {x2 : Int32} {x7 : Int32} {rl1 : Int64} {r : Int32} (h :
    Wp 224 0 [(0, .ref 58), (1, .int x7)] [] (gE Lx) I L e (kcp (Wp 339) 339 154 0 [(0, .ref 58), (1, .int x1), (2, .int x2), (7, .int x7)] 71 [.long (Int64.ofInt 20), .long (rl1 * r.toInt64), .ref 58] Q)) :
    Wp 339 146 [(0, .ref 58), (1, .int x1), (2, .int x2), (7, .int x7)] [.int r, .long rl1, .ref 58] (gE Lx) I L e Q := by
  refine w_a f_339_146 ?_
  refine w_a f_339_147 ?_
  refine w_a f_339_148 ?_
  refine w_a f_339_151 ?_
  refine w_a f_339_152 ?_
  exact w_c (ks := [0, 1, 2, 7]) f_339_154 rfl rfl h
set_option maxRecDepth 10000 in
set_option maxHeartbeats 4000000 in
theorem s_339_157 {Lx : Nat} {I : Mi} {L : Ml} {e : Nat} {Q : Kq} {x1 : Int32} {x2 : Int32} {x7 : Int32} {rl1 : Int64} {rl2 : Int64} {r : Int32} (h :
    Wp 246 0 [(0, .ref 58), (1, .long rl1), (3, .long (rl2 * r.toInt64))] [] (gE Lx) I L e (kcp (Wp 339) 339 159 0 [(0, .ref 58), (1, .int x1), (2, .int x2), (7, .int x7)] 71 [] Q)) :
    Wp 339 157 [(0, .ref 58), (1, .int x1), (2, .int x2), (7, .int x7)] [.int r, .long rl2, .long rl1, .ref 58] (gE Lx) I L e Q := by
  refine w_a f_339_157 ?_
  refine w_a f_339_158 ?_
  exact w_c (ks := [0, 1, 2, 7]) f_339_159 rfl rfl h
set_option maxRecDepth 10000 in
set_option maxHeartbeats 4000000 in
theorem s_339_162 {Lx : Nat} {I : Mi} {L : Ml} {e : Nat} {Q : Kq} {x1 : Int32} {x2 : Int32} {x7 : Int32} (h :
    Wp 339 184 [(0, .ref 58), (1, .int x1), (2, .int x2), (7, .int x7)] [] (gE Lx) I L e Q) :
    Wp 339 162 [(0, .ref 58), (1, .int x1), (2, .int x2), (7, .int x7)] [] (gE Lx) I L e Q := by
  refine w_a f_339_162 ?_
  exact w_n (ks := [0, 1, 2, 7]) rfl h
set_option maxRecDepth 10000 in
set_option maxHeartbeats 4000000 in
theorem s_339_172 {Lx : Nat} {I : Mi} {L : Ml} {e : Nat} {Q : Kq} {x1 : Int32} {x2 : Int32} {x7 : Int32} {r : Int32} (h :
    Wp 224 0 [(0, .ref 58), (1, .int x7)] [] (gE Lx) I L e (kcp (Wp 339) 339 176 0 [(0, .ref 58), (1, .int x1), (2, .int x2), (7, .int x7)] 71 [.long r.toInt64, .ref 58] Q)) :
    Wp 339 172 [(0, .ref 58), (1, .int x1), (2, .int x2), (7, .int x7)] [.int r, .ref 58] (gE Lx) I L e Q := by
  refine w_a f_339_172 ?_
  refine w_a f_339_173 ?_
  refine w_a f_339_174 ?_
  exact w_c (ks := [0, 1, 2, 7]) f_339_176 rfl rfl h
set_option maxRecDepth 10000 in
set_option maxHeartbeats 4000000 in
theorem s_339_179 {Lx : Nat} {I : Mi} {L : Ml} {e : Nat} {Q : Kq} {x1 : Int32} {x2 : Int32} {x7 : Int32} {rl1 : Int64} {r : Int32} (h :
    Wp 245 0 [(0, .ref 58), (1, .long rl1), (3, .long r.toInt64), (5, .int x1)] [] (gE Lx) I L e (kcp (Wp 339) 339 181 0 [(0, .ref 58), (1, .int x1), (2, .int x2), (7, .int x7)] 71 [] Q)) :
    Wp 339 179 [(0, .ref 58), (1, .int x1), (2, .int x2), (7, .int x7)] [.int r, .long rl1, .ref 58] (gE Lx) I L e Q := by
  refine w_a f_339_179 ?_
  refine w_a f_339_180 ?_
  exact w_c (ks := [0, 1, 2, 7]) f_339_181 rfl rfl h
set_option maxRecDepth 10000 in
set_option maxHeartbeats 4000000 in
theorem s_339_184 {Lx : Nat} {I : Mi} {L : Ml} {e : Nat} {Q : Kq} {x1 : Int32} {x2 : Int32} {x7 : Int32} (h :
    Wp 220 0 [(0, .ref 58), (1, .int x7)] [] (gE Lx) I L e (kcp (Wp 339) 339 188 0 [(0, .ref 58), (1, .int x1), (2, .int x2), (7, .int x7)] 71 [.ref 58] Q)) :
    Wp 339 184 [(0, .ref 58), (1, .int x1), (2, .int x2), (7, .int x7)] [] (gE Lx) I L e Q := by
  refine w_a f_339_184 ?_
  refine w_a f_339_185 ?_
  refine w_a f_339_186 ?_
  exact w_c (ks := [0, 1, 2, 7]) f_339_188 rfl rfl h
set_option maxRecDepth 10000 in
set_option maxHeartbeats 4000000 in
theorem s_339_191 {Lx : Nat} {I : Mi} {L : Ml} {e : Nat} {Q : Kq} {x1 : Int32} {x2 : Int32} {x7 : Int32} {r : Int32} (h :
    Wp 341 0 [(0, .ref 58), (1, .int r), (2, .long (L 58 8)), (4, .long (L 58 9))] [] (gE Lx) I L e (kcp (Wp 339) 339 199 0 [(0, .ref 58), (1, .int x1), (2, .int x2), (7, .int x7)] 71 [] Q)) :
    Wp 339 191 [(0, .ref 58), (1, .int x1), (2, .int x2), (7, .int x7)] [.int r, .ref 58] (gE Lx) I L e Q := by
  refine w_a f_339_191 ?_
  refine w_a f_339_192 ?_
  refine w_a f_339_195 ?_
  refine w_a f_339_196 ?_
  exact w_c (ks := [0, 1, 2, 7]) f_339_199 rfl rfl h
set_option maxRecDepth 10000 in
set_option maxHeartbeats 4000000 in
theorem s_339_202 {Lx : Nat} {I : Mi} {L : Ml} {e : Nat} {Q : Kq} {x1 : Int32} {x2 : Int32} {x7 : Int32} (h :
    Wp 339 120 [(0, .ref 58), (1, .int x1), (2, .int x2), (7, .int (x7 + Int32.ofInt 1))] [] (gE Lx) I L e Q) :
    Wp 339 202 [(0, .ref 58), (1, .int x1), (2, .int x2), (7, .int x7)] [] (gE Lx) I L e Q := by
  refine w_a f_339_202 ?_
  refine w_a (ls := [(7, .int (x7 + Int32.ofInt 1)), (0, .ref 58), (1, .int x1), (2, .int x2)]) f_339_205 ?_
  exact w_n (ks := [0, 1, 2, 7]) rfl h
set_option maxRecDepth 10000 in
set_option maxHeartbeats 4000000 in
theorem s_339_219 {Lx : Nat} {I : Mi} {L : Ml} {e : Nat} {Q : Kq} (h :
    Wp 342 0 [(0, .ref 58), (1, .int (Int32.ofInt 5)), (2, .int (Int32.ofInt 1)), (3, .long (Int64.ofInt 1)), (5, .int (Int32.ofInt 3)), (6, .long (Int64.ofInt (-1)))] [] (gE Lx) I L e (kcp (Wp 339) 339 227 0 [(0, .ref 58)] 71 [] Q)) :
    Wp 339 219 [(0, .ref 58)] [] (gE Lx) I L e Q := by
  refine w_a f_339_219 ?_
  refine w_a f_339_220 ?_
  refine w_a f_339_221 ?_
  refine w_a f_339_222 ?_
  refine w_a f_339_223 ?_
  refine w_a f_339_224 ?_
  exact w_c (ks := [0]) f_339_227 rfl rfl h
set_option maxRecDepth 10000 in
set_option maxHeartbeats 4000000 in
theorem s_339_230 {Lx : Nat} {I : Mi} {L : Ml} {e : Nat} {Q : Kq} (h :
    Wp 342 0 [(0, .ref 58), (1, .int (Int32.ofInt 6)), (2, .int (Int32.ofInt 0)), (3, .long (Int64.ofInt 1)), (5, .int (Int32.ofInt 2)), (6, .long (Int64.ofInt 1))] [] (gE Lx) I L e (kcp (Wp 339) 339 237 0 [(0, .ref 58)] 71 [] Q)) :
    Wp 339 230 [(0, .ref 58)] [] (gE Lx) I L e Q := by
  refine w_a f_339_230 ?_
  refine w_a f_339_231 ?_
  refine w_a f_339_233 ?_
  refine w_a f_339_234 ?_
  refine w_a f_339_235 ?_
  refine w_a f_339_236 ?_
  exact w_c (ks := [0]) f_339_237 rfl rfl h
set_option maxRecDepth 10000 in
set_option maxHeartbeats 4000000 in
theorem s_339_240 {Lx : Nat} {I : Mi} {L : Ml} {e : Nat} {Q : Kq} (h :
    Wp 342 0 [(0, .ref 58), (1, .int (Int32.ofInt 7)), (2, .int (Int32.ofInt 1)), (3, .long (Int64.ofInt 1)), (5, .int (Int32.ofInt 3)), (6, .long (Int64.ofInt 1))] [] (gE Lx) I L e (kcp (Wp 339) 339 247 0 [(0, .ref 58)] 71 [] Q)) :
    Wp 339 240 [(0, .ref 58)] [] (gE Lx) I L e Q := by
  refine w_a f_339_240 ?_
  refine w_a f_339_241 ?_
  refine w_a f_339_243 ?_
  refine w_a f_339_244 ?_
  refine w_a f_339_245 ?_
  refine w_a f_339_246 ?_
  exact w_c (ks := [0]) f_339_247 rfl rfl h
set_option maxRecDepth 10000 in
set_option maxHeartbeats 4000000 in
theorem s_339_250 {Lx : Nat} {I : Mi} {L : Ml} {e : Nat} {Q : Kq} (h :
    Wp 346 0 [(0, .ref 58), (1, .int (Int32.ofInt 8)), (2, .int (Int32.ofInt 4)), (3, .int (Int32.ofInt 5))] [] (gE Lx) I L e (kcp (Wp 339) 339 255 0 [(0, .ref 58)] 71 [] Q)) :
    Wp 339 250 [(0, .ref 58)] [] (gE Lx) I L e Q := by
  refine w_a f_339_250 ?_
  refine w_a f_339_251 ?_
  refine w_a f_339_253 ?_
  refine w_a f_339_254 ?_
  exact w_c (ks := [0]) f_339_255 rfl rfl h
set_option maxRecDepth 10000 in
set_option maxHeartbeats 4000000 in
theorem s_339_258 {Lx : Nat} {I : Mi} {L : Ml} {e : Nat} {Q : Kq} (h :
    Wp 346 0 [(0, .ref 58), (1, .int (Int32.ofInt 9)), (2, .int (Int32.ofInt 6)), (3, .int (Int32.ofInt 7))] [] (gE Lx) I L e (kcp (Wp 339) 339 265 0 [(0, .ref 58)] 71 [] Q)) :
    Wp 339 258 [(0, .ref 58)] [] (gE Lx) I L e Q := by
  refine w_a f_339_258 ?_
  refine w_a f_339_259 ?_
  refine w_a f_339_261 ?_
  refine w_a f_339_263 ?_
  exact w_c (ks := [0]) f_339_265 rfl rfl h
set_option maxRecDepth 10000 in
set_option maxHeartbeats 4000000 in
theorem s_339_268 {Lx : Nat} {I : Mi} {L : Ml} {e : Nat} {Q : Kq} (h :
    Q (.inl none) (gE Lx) I L e) :
    Wp 339 268 [(0, .ref 58)] [] (gE Lx) I L e Q := by
  refine w_a f_339_268 ?_
  exact h
set_option maxRecDepth 10000 in
set_option maxHeartbeats 4000000 in
theorem s_340_0 {Lx : Nat} {I : Mi} {L : Ml} {e : Nat} {Q : Kq} {x1 : Int32} {y2 : Int64} (h :
    Wp 340 6 [(0, .ref 58), (1, .int x1), (4, .long y2), (6, .int (Int32.ofInt 0))] [] (gE Lx) I L e Q) :
    Wp 340 0 [(0, .ref 58), (1, .int x1), (2, .long y2)] [] (gE Lx) I L e Q := by
  refine w_a f_340_0 ?_
  refine w_a f_340_1 ?_
  refine w_a (ls := [(4, .long y2), (0, .ref 58), (1, .int x1), (2, .long y2)]) f_340_3 ?_
  refine w_a f_340_4 ?_
  exact w_n (ks := [0, 1, 4, 6]) rfl h
set_option maxRecDepth 10000 in
set_option maxHeartbeats 4000000 in
theorem s_340_6 {Lx : Nat} {I : Mi} {L : Ml} {e : Nat} {Q : Kq} {x1 : Int32} {y4 : Int64} {x6 : Int32} (h :
    (if x6 < (Int32.ofInt 14) then
     (if (x6 + (Int32.ofInt 1)) < (Int32.ofInt 14) then
      (inb (((Int32.ofInt 14) * x1) + x6) 154 (
       Wp 340 6 [(0, .ref 58), (1, .int x1), (4, .long (y4 >>> ((Int32.ofInt 20).toInt64 &&& 63))), (6, .int (x6 + Int32.ofInt 1))] [] (gE Lx) I (ul L 65 ((((Int32.ofInt 14) * x1) + x6).toNatClampNeg) (y4 &&& (Int64.ofInt 1048575))) e Q)
      False)
     else
      (inb (((Int32.ofInt 14) * x1) + x6) 154 (
       Wp 340 6 [(0, .ref 58), (1, .int x1), (4, .long (y4 >>> ((Int32.ofInt 20).toInt64 &&& 63))), (6, .int (x6 + Int32.ofInt 1))] [] (gE Lx) I (ul L 65 ((((Int32.ofInt 14) * x1) + x6).toNatClampNeg) y4) e Q)
      False))
    else
     Q (.inl none) (gE Lx) I L e)) :
    Wp 340 6 [(0, .ref 58), (1, .int x1), (4, .long y4), (6, .int x6)] [] (gE Lx) I L e Q := by
  refine w_a f_340_6 ?_
  refine w_a f_340_8 ?_
  refine w_a f_340_10 ?_
  refine i_m (fun h => ?_) (fun h => ?_) h
  · refine w_a f_340_13 ?_
    refine w_a f_340_14 ?_
    refine w_a f_340_17 ?_
    refine w_a f_340_19 ?_
    refine w_a f_340_20 ?_
    refine w_a f_340_21 ?_
    refine w_a f_340_23 ?_
    refine w_a f_340_24 ?_
    refine w_a f_340_26 ?_
    refine w_a f_340_27 ?_
    refine w_a f_340_28 ?_
    refine w_a f_340_30 ?_
    refine i_m (fun h => ?_) (fun h => ?_) h
    · refine w_a f_340_33 ?_
      refine w_a f_340_35 ?_
      refine w_a f_340_38 ?_
      refine w_a f_340_39 ?_
      refine w_a f_340_44 ?_
      refine n_m (fun h => ?_) h
      refine w_a f_340_45 ?_
      refine w_a f_340_47 ?_
      refine w_a f_340_49 ?_
      refine w_a f_340_50 ?_
      refine w_a (ls := [(4, .long (y4 >>> ((Int32.ofInt 20).toInt64 &&& 63))), (0, .ref 58), (1, .int x1), (6, .int x6)]) f_340_52 ?_
      refine w_a (ls := [(6, .int (x6 + Int32.ofInt 1)), (4, .long (y4 >>> ((Int32.ofInt 20).toInt64 &&& 63))), (0, .ref 58), (1, .int x1)]) f_340_55 ?_
      exact w_n (ks := [0, 1, 4, 6]) rfl h
    · refine w_a f_340_42 ?_
      refine w_a f_340_44 ?_
      refine n_m (fun h => ?_) h
      refine w_a f_340_45 ?_
      refine w_a f_340_47 ?_
      refine w_a f_340_49 ?_
      refine w_a f_340_50 ?_
      refine w_a (ls := [(4, .long (y4 >>> ((Int32.ofInt 20).toInt64 &&& 63))), (0, .ref 58), (1, .int x1), (6, .int x6)]) f_340_52 ?_
      refine w_a (ls := [(6, .int (x6 + Int32.ofInt 1)), (4, .long (y4 >>> ((Int32.ofInt 20).toInt64 &&& 63))), (0, .ref 58), (1, .int x1)]) f_340_55 ?_
      exact w_n (ks := [0, 1, 4, 6]) rfl h
  · refine w_a f_340_58 ?_
    exact h
set_option maxRecDepth 10000 in
set_option maxHeartbeats 4000000 in
theorem s_341_0 {Lx : Nat} {I : Mi} {L : Ml} {e : Nat} {Q : Kq} {x1 : Int32} {y2 : Int64} {y4 : Int64} (h :
    (if x1 = 0 then
     Wp 342 0 [(0, .ref 58), (1, .int (Int32.ofInt 4)), (2, .int (Int32.ofInt 0)), (3, .long y4), (5, .int (Int32.ofInt 3)), (6, .long (-y2))] [] (gE Lx) I L e (kcp (Wp 341) 341 12 0 [(0, .ref 58), (2, .long y2), (4, .long y4)] 71 [] Q)
    else
     Wp 230 0 [(0, .int x1), (1, .long y2), (3, .long y4)] [] (gE Lx) I L e (kcp (Wp 341) 341 57 0 [(0, .ref 58), (1, .int x1), (2, .long y2), (4, .long y4)] 71 [] Q))) :
    Wp 341 0 [(0, .ref 58), (1, .int x1), (2, .long y2), (4, .long y4)] [] (gE Lx) I L e Q := by
  refine w_a f_341_0 ?_
  refine w_a f_341_1 ?_
  refine i_m (fun h => ?_) (fun h => ?_) h
  · refine w_a f_341_4 ?_
    refine w_a f_341_5 ?_
    refine w_a f_341_6 ?_
    refine w_a f_341_7 ?_
    refine w_a f_341_9 ?_
    refine w_a f_341_10 ?_
    refine w_a f_341_11 ?_
    exact w_c (ks := [0, 2, 4]) f_341_12 rfl rfl h
  · refine w_a f_341_53 ?_
    refine w_a f_341_54 ?_
    refine w_a f_341_55 ?_
    exact w_c (ks := [0, 1, 2, 4]) f_341_57 rfl rfl h
set_option maxRecDepth 10000 in
set_option maxHeartbeats 4000000 in
theorem s_341_15 {Lx : Nat} {I : Mi} {L : Ml} {e : Nat} {Q : Kq} {y2 : Int64} {y4 : Int64} (h :
    Wp 342 0 [(0, .ref 58), (1, .int (Int32.ofInt 5)), (2, .int (Int32.ofInt 1)), (3, .long y4), (5, .int (Int32.ofInt 2)), (6, .long y2)] [] (gE Lx) I L e (kcp (Wp 341) 341 22 0 [(0, .ref 58), (2, .long y2), (4, .long y4)] 71 [] Q)) :
    Wp 341 15 [(0, .ref 58), (2, .long y2), (4, .long y4)] [] (gE Lx) I L e Q := by
  refine w_a f_341_15 ?_
  refine w_a f_341_16 ?_
  refine w_a f_341_17 ?_
  refine w_a f_341_18 ?_
  refine w_a f_341_20 ?_
  refine w_a f_341_21 ?_
  exact w_c (ks := [0, 2, 4]) f_341_22 rfl rfl h
set_option maxRecDepth 10000 in
set_option maxHeartbeats 4000000 in
theorem s_341_25 {Lx : Nat} {I : Mi} {L : Ml} {e : Nat} {Q : Kq} {y2 : Int64} {y4 : Int64} (h :
    Wp 342 0 [(0, .ref 58), (1, .int (Int32.ofInt 6)), (2, .int (Int32.ofInt 2)), (3, .long y4), (5, .int (Int32.ofInt 1)), (6, .long (-y2))] [] (gE Lx) I L e (kcp (Wp 341) 341 34 0 [(0, .ref 58), (2, .long y2), (4, .long y4)] 71 [] Q)) :
    Wp 341 25 [(0, .ref 58), (2, .long y2), (4, .long y4)] [] (gE Lx) I L e Q := by
  refine w_a f_341_25 ?_
  refine w_a f_341_26 ?_
  refine w_a f_341_28 ?_
  refine w_a f_341_29 ?_
  refine w_a f_341_31 ?_
  refine w_a f_341_32 ?_
  refine w_a f_341_33 ?_
  exact w_c (ks := [0, 2, 4]) f_341_34 rfl rfl h
set_option maxRecDepth 10000 in
set_option maxHeartbeats 4000000 in
theorem s_341_37 {Lx : Nat} {I : Mi} {L : Ml} {e : Nat} {Q : Kq} {y2 : Int64} {y4 : Int64} (h :
    Wp 342 0 [(0, .ref 58), (1, .int (Int32.ofInt 7)), (2, .int (Int32.ofInt 3)), (3, .long y4), (5, .int (Int32.ofInt 0)), (6, .long y2)] [] (gE Lx) I L e (kcp (Wp 341) 341 45 0 [(0, .ref 58)] 71 [] Q)) :
    Wp 341 37 [(0, .ref 58), (2, .long y2), (4, .long y4)] [] (gE Lx) I L e Q := by
  refine w_a f_341_37 ?_
  refine w_a f_341_38 ?_
  refine w_a f_341_40 ?_
  refine w_a f_341_41 ?_
  refine w_a f_341_43 ?_
  refine w_a f_341_44 ?_
  exact w_c (ks := [0]) f_341_45 rfl rfl h
set_option maxRecDepth 10000 in
set_option maxHeartbeats 4000000 in
theorem s_341_48 {Lx : Nat} {I : Mi} {L : Ml} {e : Nat} {Q : Kq} (h :
    Wp 343 2 [(0, .ref 58), (1, .int (Int32.ofInt 0))] [] (gE Lx) I L e (kcp (Wp 341) 341 49 0 [(0, .ref 58)] 71 [] Q)) :
    Wp 341 48 [(0, .ref 58)] [] (gE Lx) I L e Q := by
  refine w_a f_341_48 ?_
  refine w_c (ks := [0]) f_341_49 rfl rfl ?_
  refine w_a (ls := [(0, .ref 58)]) f_343_0 ?_
  refine w_a f_343_1 ?_
  exact w_n (ks := [0, 1]) rfl h
set_option maxRecDepth 10000 in
set_option maxHeartbeats 4000000 in
theorem s_341_52 {Lx : Nat} {I : Mi} {L : Ml} {e : Nat} {Q : Kq} (h :
    Q (.inl none) (gE Lx) I L e) :
    Wp 341 52 [(0, .ref 58)] [] (gE Lx) I L e Q := by
  refine w_a f_341_52 ?_
  exact h
set_option maxRecDepth 10000 in
set_option maxHeartbeats 4000000 in
theorem s_341_60 {Lx : Nat} {I : Mi} {L : Ml} {e : Nat} {Q : Kq} {x1 : Int32} {y2 : Int64} {y4 : Int64} {rl : Int64} (h :
    Wp 232 0 [(0, .int x1), (1, .long y2), (3, .long y4)] [] (gE Lx) I L e (kcp (Wp 341) 341 66 0 [(0, .ref 58), (1, .int x1), (6, .long rl)] 71 [] Q)) :
    Wp 341 60 [(0, .ref 58), (1, .int x1), (2, .long y2), (4, .long y4)] [.long rl] (gE Lx) I L e Q := by
  refine w_a f_341_60 ?_
  refine w_a (ls := [(6, .long rl), (0, .ref 58), (1, .int x1), (2, .long y2), (4, .long y4)]) f_341_62 ?_
  refine w_a f_341_63 ?_
  refine w_a f_341_64 ?_
  exact w_c (ks := [0, 1, 6]) f_341_66 rfl rfl h
set_option maxRecDepth 10000 in
set_option maxHeartbeats 4000000 in
theorem s_341_69 {Lx : Nat} {I : Mi} {L : Ml} {e : Nat} {Q : Kq} {x1 : Int32} {y6 : Int64} {rl : Int64} (h :
    (if x1 = (Int32.ofInt 1) then
     Wp 345 0 [(0, .ref 58), (1, .int (Int32.ofInt 0))] [] (gE Lx) I L e (kcp (Wp 341) 341 80 0 [(0, .ref 58), (6, .long y6), (8, .long rl)] 71 [] Q)
    else
     (if x1 = (Int32.ofInt 2) then
      Wp 345 0 [(0, .ref 58), (1, .int (Int32.ofInt 0))] [] (gE Lx) I L e (kcp (Wp 341) 341 80 0 [(0, .ref 58), (6, .long y6), (8, .long rl)] 71 [] Q)
     else
      Wp 345 0 [(0, .ref 58), (1, .int (Int32.ofInt 2))] [] (gE Lx) I L e (kcp (Wp 341) 341 145 0 [(0, .ref 58), (6, .long y6), (8, .long rl)] 71 [] Q)))) :
    Wp 341 69 [(0, .ref 58), (1, .int x1), (6, .long y6)] [.long rl] (gE Lx) I L e Q := by
  refine w_a f_341_69 ?_
  refine w_a (ls := [(8, .long rl), (0, .ref 58), (1, .int x1), (6, .long y6)]) f_341_71 ?_
  refine w_a f_341_72 ?_
  refine w_a (ls := [(0, .int x1)]) f_233_0 ?_
  refine w_a f_233_1 ?_
  refine w_a f_233_2 ?_
  refine i_m (fun h => ?_) (fun h => ?_) h
  · refine w_a f_233_10 ?_
    refine w_a f_233_11 ?_
    refine w_a f_233_15 ?_
    refine w_a (ls := [(8, .long rl), (0, .ref 58), (1, .int x1), (6, .long y6)]) f_341_75 ?_
    refine w_a f_341_78 ?_
    refine w_a f_341_79 ?_
    exact w_c (ks := [0, 6, 8]) f_341_80 rfl rfl h
  · refine w_a f_233_5 ?_
    refine w_a f_233_6 ?_
    refine w_a f_233_7 ?_
    refine i_m (fun h => ?_) (fun h => ?_) h
    · refine w_a f_233_10 ?_
      refine w_a f_233_11 ?_
      refine w_a f_233_15 ?_
      refine w_a (ls := [(8, .long rl), (0, .ref 58), (1, .int x1), (6, .long y6)]) f_341_75 ?_
      refine w_a f_341_78 ?_
      refine w_a f_341_79 ?_
      exact w_c (ks := [0, 6, 8]) f_341_80 rfl rfl h
    · refine w_a f_233_14 ?_
      refine w_a f_233_15 ?_
      refine w_a (ls := [(8, .long rl), (0, .ref 58), (1, .int x1), (6, .long y6)]) f_341_75 ?_
      refine w_a f_341_143 ?_
      refine w_a f_341_144 ?_
      exact w_c (ks := [0, 6, 8]) f_341_145 rfl rfl h
set_option maxRecDepth 10000 in
set_option maxHeartbeats 4000000 in
theorem s_341_83 {Lx : Nat} {I : Mi} {L : Ml} {e : Nat} {Q : Kq} {y6 : Int64} {y8 : Int64} {r : Int32} (h :
    (if r = 0 then
     Wp 345 0 [(0, .ref 58), (1, .int (Int32.ofInt 1))] [] (gE Lx) I L e (kcp (Wp 341) 341 88 0 [(0, .ref 58), (6, .long y6), (8, .long y8)] 71 [] Q)
    else
     Wp 342 0 [(0, .ref 58), (1, .int (Int32.ofInt 4)), (2, .int (Int32.ofInt 0)), (3, .long y8), (5, .int (Int32.ofInt 0)), (6, .long (Int64.ofInt 0))] [] (gE Lx) I L e (kcp (Wp 341) 341 102 0 [(0, .ref 58), (6, .long y6), (8, .long y8)] 71 [] Q))) :
    Wp 341 83 [(0, .ref 58), (6, .long y6), (8, .long y8)] [.int r] (gE Lx) I L e Q := by
  refine w_a f_341_83 ?_
  refine i_m (fun h => ?_) (fun h => ?_) h
  · refine w_a f_341_86 ?_
    refine w_a f_341_87 ?_
    exact w_c (ks := [0, 6, 8]) f_341_88 rfl rfl h
  · refine w_a f_341_95 ?_
    refine w_a f_341_96 ?_
    refine w_a f_341_97 ?_
    refine w_a f_341_98 ?_
    refine w_a f_341_100 ?_
    refine w_a f_341_101 ?_
    exact w_c (ks := [0, 6, 8]) f_341_102 rfl rfl h
set_option maxRecDepth 10000 in
set_option maxHeartbeats 4000000 in
theorem s_341_91 {Lx : Nat} {I : Mi} {L : Ml} {e : Nat} {Q : Kq} {y6 : Int64} {y8 : Int64} {r : Int32} (h :
    (if r = 0 then
     Q (.inl none) (gE Lx) I L e
    else
     Wp 342 0 [(0, .ref 58), (1, .int (Int32.ofInt 4)), (2, .int (Int32.ofInt 0)), (3, .long y8), (5, .int (Int32.ofInt 0)), (6, .long (Int64.ofInt 0))] [] (gE Lx) I L e (kcp (Wp 341) 341 102 0 [(0, .ref 58), (6, .long y6), (8, .long y8)] 71 [] Q))) :
    Wp 341 91 [(0, .ref 58), (6, .long y6), (8, .long y8)] [.int r] (gE Lx) I L e Q := by
  refine w_a f_341_91 ?_
  refine i_m (fun h => ?_) (fun h => ?_) h
  · refine w_a f_341_94 ?_
    exact h
  · refine w_a f_341_95 ?_
    refine w_a f_341_96 ?_
    refine w_a f_341_97 ?_
    refine w_a f_341_98 ?_
    refine w_a f_341_100 ?_
    refine w_a f_341_101 ?_
    exact w_c (ks := [0, 6, 8]) f_341_102 rfl rfl h
set_option maxRecDepth 10000 in
set_option maxHeartbeats 4000000 in
theorem s_341_105 {Lx : Nat} {I : Mi} {L : Ml} {e : Nat} {Q : Kq} {y6 : Int64} {y8 : Int64} (h :
    Wp 342 0 [(0, .ref 58), (1, .int (Int32.ofInt 5)), (2, .int (Int32.ofInt 1)), (3, .long y8), (5, .int (Int32.ofInt 1)), (6, .long (Int64.ofInt 0))] [] (gE Lx) I L e (kcp (Wp 341) 341 112 0 [(0, .ref 58), (6, .long y6), (8, .long y8)] 71 [] Q)) :
    Wp 341 105 [(0, .ref 58), (6, .long y6), (8, .long y8)] [] (gE Lx) I L e Q := by
  refine w_a f_341_105 ?_
  refine w_a f_341_106 ?_
  refine w_a f_341_107 ?_
  refine w_a f_341_108 ?_
  refine w_a f_341_110 ?_
  refine w_a f_341_111 ?_
  exact w_c (ks := [0, 6, 8]) f_341_112 rfl rfl h
set_option maxRecDepth 10000 in
set_option maxHeartbeats 4000000 in
theorem s_341_115 {Lx : Nat} {I : Mi} {L : Ml} {e : Nat} {Q : Kq} {y6 : Int64} {y8 : Int64} (h :
    Wp 342 0 [(0, .ref 58), (1, .int (Int32.ofInt 6)), (2, .int (Int32.ofInt 2)), (3, .long y8), (5, .int (Int32.ofInt 1)), (6, .long (-y6))] [] (gE Lx) I L e (kcp (Wp 341) 341 125 0 [(0, .ref 58), (6, .long y6), (8, .long y8)] 71 [] Q)) :
    Wp 341 115 [(0, .ref 58), (6, .long y6), (8, .long y8)] [] (gE Lx) I L e Q := by
  refine w_a f_341_115 ?_
  refine w_a f_341_116 ?_
  refine w_a f_341_118 ?_
  refine w_a f_341_119 ?_
  refine w_a f_341_121 ?_
  refine w_a f_341_122 ?_
  refine w_a f_341_124 ?_
  exact w_c (ks := [0, 6, 8]) f_341_125 rfl rfl h
set_option maxRecDepth 10000 in
set_option maxHeartbeats 4000000 in
theorem s_341_128 {Lx : Nat} {I : Mi} {L : Ml} {e : Nat} {Q : Kq} {y6 : Int64} {y8 : Int64} (h :
    Wp 342 0 [(0, .ref 58), (1, .int (Int32.ofInt 7)), (2, .int (Int32.ofInt 3)), (3, .long y8), (5, .int (Int32.ofInt 0)), (6, .long y6)] [] (gE Lx) I L e (kcp (Wp 341) 341 137 0 [(0, .ref 58)] 71 [] Q)) :
    Wp 341 128 [(0, .ref 58), (6, .long y6), (8, .long y8)] [] (gE Lx) I L e Q := by
  refine w_a f_341_128 ?_
  refine w_a f_341_129 ?_
  refine w_a f_341_131 ?_
  refine w_a f_341_132 ?_
  refine w_a f_341_134 ?_
  refine w_a f_341_135 ?_
  exact w_c (ks := [0]) f_341_137 rfl rfl h
set_option maxRecDepth 10000 in
set_option maxHeartbeats 4000000 in
theorem s_341_140 {Lx : Nat} {I : Mi} {L : Ml} {e : Nat} {Q : Kq} (h :
    Wp 341 205 [(0, .ref 58)] [] (gE Lx) I L e Q) :
    Wp 341 140 [(0, .ref 58)] [] (gE Lx) I L e Q := by
  refine w_a f_341_140 ?_
  exact w_n (ks := [0]) rfl h
set_option maxRecDepth 10000 in
set_option maxHeartbeats 4000000 in
theorem s_341_148 {Lx : Nat} {I : Mi} {L : Ml} {e : Nat} {Q : Kq} {y6 : Int64} {y8 : Int64} {r : Int32} (h :
    (if r = 0 then
     Wp 345 0 [(0, .ref 58), (1, .int (Int32.ofInt 3))] [] (gE Lx) I L e (kcp (Wp 341) 341 153 0 [(0, .ref 58), (6, .long y6), (8, .long y8)] 71 [] Q)
    else
     Wp 342 0 [(0, .ref 58), (1, .int (Int32.ofInt 4)), (2, .int (Int32.ofInt 0)), (3, .long y8), (5, .int (Int32.ofInt 3)), (6, .long (-y6))] [] (gE Lx) I L e (kcp (Wp 341) 341 169 0 [(0, .ref 58), (6, .long y6), (8, .long y8)] 71 [] Q))) :
    Wp 341 148 [(0, .ref 58), (6, .long y6), (8, .long y8)] [.int r] (gE Lx) I L e Q := by
  refine w_a f_341_148 ?_
  refine i_m (fun h => ?_) (fun h => ?_) h
  · refine w_a f_341_151 ?_
    refine w_a f_341_152 ?_
    exact w_c (ks := [0, 6, 8]) f_341_153 rfl rfl h
  · refine w_a f_341_160 ?_
    refine w_a f_341_161 ?_
    refine w_a f_341_162 ?_
    refine w_a f_341_163 ?_
    refine w_a f_341_165 ?_
    refine w_a f_341_166 ?_
    refine w_a f_341_168 ?_
    exact w_c (ks := [0, 6, 8]) f_341_169 rfl rfl h
set_option maxRecDepth 10000 in
set_option maxHeartbeats 4000000 in
theorem s_341_156 {Lx : Nat} {I : Mi} {L : Ml} {e : Nat} {Q : Kq} {y6 : Int64} {y8 : Int64} {r : Int32} (h :
    (if r = 0 then
     Q (.inl none) (gE Lx) I L e
    else
     Wp 342 0 [(0, .ref 58), (1, .int (Int32.ofInt 4)), (2, .int (Int32.ofInt 0)), (3, .long y8), (5, .int (Int32.ofInt 3)), (6, .long (-y6))] [] (gE Lx) I L e (kcp (Wp 341) 341 169 0 [(0, .ref 58), (6, .long y6), (8, .long y8)] 71 [] Q))) :
    Wp 341 156 [(0, .ref 58), (6, .long y6), (8, .long y8)] [.int r] (gE Lx) I L e Q := by
  refine w_a f_341_156 ?_
  refine i_m (fun h => ?_) (fun h => ?_) h
  · refine w_a f_341_159 ?_
    exact h
  · refine w_a f_341_160 ?_
    refine w_a f_341_161 ?_
    refine w_a f_341_162 ?_
    refine w_a f_341_163 ?_
    refine w_a f_341_165 ?_
    refine w_a f_341_166 ?_
    refine w_a f_341_168 ?_
    exact w_c (ks := [0, 6, 8]) f_341_169 rfl rfl h
set_option maxRecDepth 10000 in
set_option maxHeartbeats 4000000 in
theorem s_341_172 {Lx : Nat} {I : Mi} {L : Ml} {e : Nat} {Q : Kq} {y6 : Int64} {y8 : Int64} (h :
    Wp 342 0 [(0, .ref 58), (1, .int (Int32.ofInt 5)), (2, .int (Int32.ofInt 1)), (3, .long y8), (5, .int (Int32.ofInt 2)), (6, .long y6)] [] (gE Lx) I L e (kcp (Wp 341) 341 180 0 [(0, .ref 58), (8, .long y8)] 71 [] Q)) :
    Wp 341 172 [(0, .ref 58), (6, .long y6), (8, .long y8)] [] (gE Lx) I L e Q := by
  refine w_a f_341_172 ?_
  refine w_a f_341_173 ?_
  refine w_a f_341_174 ?_
  refine w_a f_341_175 ?_
  refine w_a f_341_177 ?_
  refine w_a f_341_178 ?_
  exact w_c (ks := [0, 8]) f_341_180 rfl rfl h
set_option maxRecDepth 10000 in
set_option maxHeartbeats 4000000 in
theorem s_341_183 {Lx : Nat} {I : Mi} {L : Ml} {e : Nat} {Q : Kq} {y8 : Int64} (h :
    Wp 342 0 [(0, .ref 58), (1, .int (Int32.ofInt 6)), (2, .int (Int32.ofInt 2)), (3, .long y8), (5, .int (Int32.ofInt 2)), (6, .long (Int64.ofInt 0))] [] (gE Lx) I L e (kcp (Wp 341) 341 191 0 [(0, .ref 58), (8, .long y8)] 71 [] Q)) :
    Wp 341 183 [(0, .ref 58), (8, .long y8)] [] (gE Lx) I L e Q := by
  refine w_a f_341_183 ?_
  refine w_a f_341_184 ?_
  refine w_a f_341_186 ?_
  refine w_a f_341_187 ?_
  refine w_a f_341_189 ?_
  refine w_a f_341_190 ?_
  exact w_c (ks := [0, 8]) f_341_191 rfl rfl h
set_option maxRecDepth 10000 in
set_option maxHeartbeats 4000000 in
theorem s_341_194 {Lx : Nat} {I : Mi} {L : Ml} {e : Nat} {Q : Kq} {y8 : Int64} (h :
    Wp 342 0 [(0, .ref 58), (1, .int (Int32.ofInt 7)), (2, .int (Int32.ofInt 3)), (3, .long y8), (5, .int (Int32.ofInt 3)), (6, .long (Int64.ofInt 0))] [] (gE Lx) I L e (kcp (Wp 341) 341 202 0 [(0, .ref 58)] 71 [] Q)) :
    Wp 341 194 [(0, .ref 58), (8, .long y8)] [] (gE Lx) I L e Q := by
  refine w_a f_341_194 ?_
  refine w_a f_341_195 ?_
  refine w_a f_341_197 ?_
  refine w_a f_341_198 ?_
  refine w_a f_341_200 ?_
  refine w_a f_341_201 ?_
  exact w_c (ks := [0]) f_341_202 rfl rfl h
set_option maxRecDepth 10000 in
set_option maxHeartbeats 4000000 in
theorem s_341_205 {Lx : Nat} {I : Mi} {L : Ml} {e : Nat} {Q : Kq} (h :
    Wp 343 2 [(0, .ref 58), (1, .int (Int32.ofInt 0))] [] (gE Lx) I L e (kcp (Wp 341) 341 206 0 [(0, .ref 58)] 71 [] Q)) :
    Wp 341 205 [(0, .ref 58)] [] (gE Lx) I L e Q := by
  refine w_a f_341_205 ?_
  refine w_c (ks := [0]) f_341_206 rfl rfl ?_
  refine w_a (ls := [(0, .ref 58)]) f_343_0 ?_
  refine w_a f_343_1 ?_
  exact w_n (ks := [0, 1]) rfl h
set_option maxRecDepth 10000 in
set_option maxHeartbeats 4000000 in
theorem s_341_209 {Lx : Nat} {I : Mi} {L : Ml} {e : Nat} {Q : Kq} (h :
    Q (.inl none) (gE Lx) I L e) :
    Wp 341 209 [(0, .ref 58)] [] (gE Lx) I L e Q := by
  refine w_a f_341_209 ?_
  exact h
set_option maxRecDepth 10000 in
set_option maxHeartbeats 4000000 in
theorem s_342_0 {Lx : Nat} {I : Mi} {L : Ml} {e : Nat} {Q : Kq} {x1 : Int32} {x2 : Int32} {y3 : Int64} {x5 : Int32} {y6 : Int64} (h :
    Wp 342 6 [(0, .ref 58), (1, .int x1), (2, .int x2), (3, .long y3), (5, .int x5), (6, .long y6), (8, .long (Int64.ofInt 0)), (10, .int (Int32.ofInt 0))] [] (gE Lx) I L e Q) :
    Wp 342 0 [(0, .ref 58), (1, .int x1), (2, .int x2), (3, .long y3), (5, .int x5), (6, .long y6)] [] (gE Lx) I L e Q := by
  refine w_a f_342_0 ?_
  refine w_a f_342_1 ?_
  refine w_a (ls := [(8, .long (Int64.ofInt 0)), (0, .ref 58), (1, .int x1), (2, .int x2), (3, .long y3), (5, .int x5), (6, .long y6)]) f_342_3 ?_
  refine w_a f_342_4 ?_
  exact w_n (ks := [0, 1, 2, 3, 5, 6, 8, 10]) rfl h
set_option maxRecDepth 10000 in
set_option maxHeartbeats 4000000 in
theorem s_342_6 {Lx : Nat} {I : Mi} {L : Ml} {e : Nat} {Q : Kq} {x1 : Int32} {x2 : Int32} {y3 : Int64} {x5 : Int32} {y6 : Int64} {y8 : Int64} {x10 : Int32} (h :
    (if x10 < (Int32.ofInt 14) then
     (inb (((Int32.ofInt 14) * x2) + x10) 154 (
      (inb (((Int32.ofInt 14) * x5) + x10) 154 (
       (if (x10 + (Int32.ofInt 1)) < (Int32.ofInt 14) then
        (inb (((Int32.ofInt 14) * x1) + x10) 154 (
         Wp 342 6 [(0, .ref 58), (1, .int x1), (2, .int x2), (3, .long y3), (5, .int x5), (6, .long y6), (8, .long (((((L 65 ((((Int32.ofInt 14) * x2) + x10).toNatClampNeg)) * y3) + ((L 65 ((((Int32.ofInt 14) * x5) + x10).toNatClampNeg)) * y6)) + y8) >>> ((Int32.ofInt 20).toInt64 &&& 63))), (10, .int (x10 + Int32.ofInt 1))] [] (gE Lx) I (ul L 65 ((((Int32.ofInt 14) * x1) + x10).toNatClampNeg) (((((L 65 ((((Int32.ofInt 14) * x2) + x10).toNatClampNeg)) * y3) + ((L 65 ((((Int32.ofInt 14) * x5) + x10).toNatClampNeg)) * y6)) + y8) &&& (Int64.ofInt 1048575))) e Q)
        False)
       else
        (inb (((Int32.ofInt 14) * x1) + x10) 154 (
         Wp 342 6 [(0, .ref 58), (1, .int x1), (2, .int x2), (3, .long y3), (5, .int x5), (6, .long y6), (8, .long (((((L 65 ((((Int32.ofInt 14) * x2) + x10).toNatClampNeg)) * y3) + ((L 65 ((((Int32.ofInt 14) * x5) + x10).toNatClampNeg)) * y6)) + y8) >>> ((Int32.ofInt 20).toInt64 &&& 63))), (10, .int (x10 + Int32.ofInt 1))] [] (gE Lx) I (ul L 65 ((((Int32.ofInt 14) * x1) + x10).toNatClampNeg) ((((L 65 ((((Int32.ofInt 14) * x2) + x10).toNatClampNeg)) * y3) + ((L 65 ((((Int32.ofInt 14) * x5) + x10).toNatClampNeg)) * y6)) + y8)) e Q)
        False)))
      False))
     False)
    else
     Q (.inl none) (gE Lx) I L e)) :
    Wp 342 6 [(0, .ref 58), (1, .int x1), (2, .int x2), (3, .long y3), (5, .int x5), (6, .long y6), (8, .long y8), (10, .int x10)] [] (gE Lx) I L e Q := by
  refine w_a f_342_6 ?_
  refine w_a f_342_8 ?_
  refine w_a f_342_10 ?_
  refine i_m (fun h => ?_) (fun h => ?_) h
  · refine w_a f_342_13 ?_
    refine w_a f_342_14 ?_
    refine w_a f_342_17 ?_
    refine w_a f_342_19 ?_
    refine w_a f_342_20 ?_
    refine w_a f_342_21 ?_
    refine w_a f_342_23 ?_
    refine w_a f_342_24 ?_
    refine n_m (fun h => ?_) h
    refine w_a f_342_25 ?_
    refine w_a f_342_26 ?_
    refine w_a f_342_27 ?_
    refine w_a f_342_28 ?_
    refine w_a f_342_31 ?_
    refine w_a f_342_33 ?_
    refine w_a f_342_35 ?_
    refine w_a f_342_36 ?_
    refine w_a f_342_38 ?_
    refine w_a f_342_39 ?_
    refine n_m (fun h => ?_) h
    refine w_a f_342_40 ?_
    refine w_a f_342_42 ?_
    refine w_a f_342_43 ?_
    refine w_a f_342_44 ?_
    refine w_a f_342_46 ?_
    refine w_a f_342_47 ?_
    refine w_a (ls := [(11, .long ((((L 65 ((((Int32.ofInt 14) * x2) + x10).toNatClampNeg)) * y3) + ((L 65 ((((Int32.ofInt 14) * x5) + x10).toNatClampNeg)) * y6)) + y8)), (0, .ref 58), (1, .int x1), (2, .int x2), (3, .long y3), (5, .int x5), (6, .long y6), (8, .long y8), (10, .int x10)]) f_342_49 ?_
    refine w_a f_342_50 ?_
    refine w_a f_342_53 ?_
    refine w_a f_342_55 ?_
    refine w_a f_342_56 ?_
    refine w_a f_342_57 ?_
    refine w_a f_342_59 ?_
    refine w_a f_342_60 ?_
    refine w_a f_342_62 ?_
    refine w_a f_342_63 ?_
    refine w_a f_342_64 ?_
    refine w_a f_342_66 ?_
    refine i_m (fun h => ?_) (fun h => ?_) h
    · refine w_a f_342_69 ?_
      refine w_a f_342_71 ?_
      refine w_a f_342_74 ?_
      refine w_a f_342_75 ?_
      refine w_a f_342_80 ?_
      refine n_m (fun h => ?_) h
      refine w_a f_342_81 ?_
      refine w_a f_342_83 ?_
      refine w_a f_342_85 ?_
      refine w_a f_342_86 ?_
      refine w_a (ls := [(8, .long (((((L 65 ((((Int32.ofInt 14) * x2) + x10).toNatClampNeg)) * y3) + ((L 65 ((((Int32.ofInt 14) * x5) + x10).toNatClampNeg)) * y6)) + y8) >>> ((Int32.ofInt 20).toInt64 &&& 63))), (11, .long ((((L 65 ((((Int32.ofInt 14) * x2) + x10).toNatClampNeg)) * y3) + ((L 65 ((((Int32.ofInt 14) * x5) + x10).toNatClampNeg)) * y6)) + y8)), (0, .ref 58), (1, .int x1), (2, .int x2), (3, .long y3), (5, .int x5), (6, .long y6), (10, .int x10)]) f_342_88 ?_
      refine w_a (ls := [(10, .int (x10 + Int32.ofInt 1)), (8, .long (((((L 65 ((((Int32.ofInt 14) * x2) + x10).toNatClampNeg)) * y3) + ((L 65 ((((Int32.ofInt 14) * x5) + x10).toNatClampNeg)) * y6)) + y8) >>> ((Int32.ofInt 20).toInt64 &&& 63))), (11, .long ((((L 65 ((((Int32.ofInt 14) * x2) + x10).toNatClampNeg)) * y3) + ((L 65 ((((Int32.ofInt 14) * x5) + x10).toNatClampNeg)) * y6)) + y8)), (0, .ref 58), (1, .int x1), (2, .int x2), (3, .long y3), (5, .int x5), (6, .long y6)]) f_342_91 ?_
      exact w_n (ks := [0, 1, 2, 3, 5, 6, 8, 10]) rfl h
    · refine w_a f_342_78 ?_
      refine w_a f_342_80 ?_
      refine n_m (fun h => ?_) h
      refine w_a f_342_81 ?_
      refine w_a f_342_83 ?_
      refine w_a f_342_85 ?_
      refine w_a f_342_86 ?_
      refine w_a (ls := [(8, .long (((((L 65 ((((Int32.ofInt 14) * x2) + x10).toNatClampNeg)) * y3) + ((L 65 ((((Int32.ofInt 14) * x5) + x10).toNatClampNeg)) * y6)) + y8) >>> ((Int32.ofInt 20).toInt64 &&& 63))), (11, .long ((((L 65 ((((Int32.ofInt 14) * x2) + x10).toNatClampNeg)) * y3) + ((L 65 ((((Int32.ofInt 14) * x5) + x10).toNatClampNeg)) * y6)) + y8)), (0, .ref 58), (1, .int x1), (2, .int x2), (3, .long y3), (5, .int x5), (6, .long y6), (10, .int x10)]) f_342_88 ?_
      refine w_a (ls := [(10, .int (x10 + Int32.ofInt 1)), (8, .long (((((L 65 ((((Int32.ofInt 14) * x2) + x10).toNatClampNeg)) * y3) + ((L 65 ((((Int32.ofInt 14) * x5) + x10).toNatClampNeg)) * y6)) + y8) >>> ((Int32.ofInt 20).toInt64 &&& 63))), (11, .long ((((L 65 ((((Int32.ofInt 14) * x2) + x10).toNatClampNeg)) * y3) + ((L 65 ((((Int32.ofInt 14) * x5) + x10).toNatClampNeg)) * y6)) + y8)), (0, .ref 58), (1, .int x1), (2, .int x2), (3, .long y3), (5, .int x5), (6, .long y6)]) f_342_91 ?_
      exact w_n (ks := [0, 1, 2, 3, 5, 6, 8, 10]) rfl h
  · refine w_a f_342_94 ?_
    exact h
set_option maxRecDepth 10000 in
set_option maxHeartbeats 4000000 in
theorem s_343_2 {Lx : Nat} {I : Mi} {L : Ml} {e : Nat} {Q : Kq} {x1 : Int32} (h :
    (if x1 < (Int32.ofInt 4) then
     Wp 344 2 [(0, .ref 58), (1, .int ((Int32.ofInt 4) + x1)), (2, .int ((Int32.ofInt 0) + x1)), (3, .int (Int32.ofInt 0))] [] (gE Lx) I L e (kcp (Wp 343) 343 14 0 [(0, .ref 58), (1, .int x1)] 71 [] Q)
    else
     Q (.inl none) (gE Lx) I L e)) :
    Wp 343 2 [(0, .ref 58), (1, .int x1)] [] (gE Lx) I L e Q := by
  refine w_a f_343_2 ?_
  refine w_a f_343_3 ?_
  refine w_a f_343_4 ?_
  refine i_m (fun h => ?_) (fun h => ?_) h
  · refine w_a f_343_7 ?_
    refine w_a f_343_8 ?_
    refine w_a f_343_9 ?_
    refine w_a f_343_10 ?_
    refine w_a f_343_11 ?_
    refine w_a f_343_12 ?_
    refine w_a f_343_13 ?_
    refine w_c (ks := [0, 1]) f_343_14 rfl rfl ?_
    refine w_a (ls := [(0, .ref 58), (1, .int ((Int32.ofInt 4) + x1)), (2, .int ((Int32.ofInt 0) + x1))]) f_344_0 ?_
    refine w_a f_344_1 ?_
    exact w_n (ks := [0, 1, 2, 3]) rfl h
  · refine w_a f_343_23 ?_
    exact h
set_option maxRecDepth 10000 in
set_option maxHeartbeats 4000000 in
theorem s_343_17 {Lx : Nat} {I : Mi} {L : Ml} {e : Nat} {Q : Kq} {x1 : Int32} (h :
    Wp 343 2 [(0, .ref 58), (1, .int (x1 + Int32.ofInt 1))] [] (gE Lx) I L e Q) :
    Wp 343 17 [(0, .ref 58), (1, .int x1)] [] (gE Lx) I L e Q := by
  refine w_a f_343_17 ?_
  refine w_a (ls := [(1, .int (x1 + Int32.ofInt 1)), (0, .ref 58)]) f_343_20 ?_
  exact w_n (ks := [0, 1]) rfl h
set_option maxRecDepth 10000 in
set_option maxHeartbeats 4000000 in
theorem s_344_2 {Lx : Nat} {I : Mi} {L : Ml} {e : Nat} {Q : Kq} {x1 : Int32} {x2 : Int32} {x3 : Int32} (h :
    (if x3 < (Int32.ofInt 14) then
     (inb (((Int32.ofInt 14) * x1) + x3) 154 (
      (inb (((Int32.ofInt 14) * x2) + x3) 154 (
       Wp 344 2 [(0, .ref 58), (1, .int x1), (2, .int x2), (3, .int (x3 + Int32.ofInt 1))] [] (gE Lx) I (ul L 65 ((((Int32.ofInt 14) * x2) + x3).toNatClampNeg) (L 65 ((((Int32.ofInt 14) * x1) + x3).toNatClampNeg))) e Q)
      False))
     False)
    else
     Q (.inl none) (gE Lx) I L e)) :
    Wp 344 2 [(0, .ref 58), (1, .int x1), (2, .int x2), (3, .int x3)] [] (gE Lx) I L e Q := by
  refine w_a f_344_2 ?_
  refine w_a f_344_3 ?_
  refine w_a f_344_5 ?_
  refine i_m (fun h => ?_) (fun h => ?_) h
  · refine w_a f_344_8 ?_
    refine w_a f_344_9 ?_
    refine w_a f_344_12 ?_
    refine w_a f_344_14 ?_
    refine w_a f_344_15 ?_
    refine w_a f_344_16 ?_
    refine w_a f_344_17 ?_
    refine w_a f_344_18 ?_
    refine w_a f_344_19 ?_
    refine w_a f_344_22 ?_
    refine w_a f_344_24 ?_
    refine w_a f_344_25 ?_
    refine w_a f_344_26 ?_
    refine w_a f_344_27 ?_
    refine w_a f_344_28 ?_
    refine n_m (fun h => ?_) h
    refine w_a f_344_29 ?_
    refine n_m (fun h => ?_) h
    refine w_a f_344_30 ?_
    refine w_a (ls := [(3, .int (x3 + Int32.ofInt 1)), (0, .ref 58), (1, .int x1), (2, .int x2)]) f_344_33 ?_
    exact w_n (ks := [0, 1, 2, 3]) rfl h
  · refine w_a f_344_36 ?_
    exact h
set_option maxRecDepth 10000 in
set_option maxHeartbeats 4000000 in
theorem s_345_0 {Lx : Nat} {I : Mi} {L : Ml} {e : Nat} {Q : Kq} {x1 : Int32} (h :
    (inb ((((Int32.ofInt 14) * x1) + (Int32.ofInt 14)) - (Int32.ofInt 1)) 154 (
     (if (L 65 (((((Int32.ofInt 14) * x1) + (Int32.ofInt 14)) - (Int32.ofInt 1)).toNatClampNeg)) < (Int64.ofInt 0) then
      Q (.inl (some (.int (Int32.ofInt (-1))))) (gE Lx) I L e
     else
      Wp 345 23 [(0, .ref 58), (1, .int x1), (2, .int (Int32.ofInt 0))] [] (gE Lx) I L e Q))
    False)) :
    Wp 345 0 [(0, .ref 58), (1, .int x1)] [] (gE Lx) I L e Q := by
  refine w_a f_345_0 ?_
  refine w_a f_345_1 ?_
  refine w_a f_345_4 ?_
  refine w_a f_345_6 ?_
  refine w_a f_345_7 ?_
  refine w_a f_345_8 ?_
  refine w_a f_345_10 ?_
  refine w_a f_345_11 ?_
  refine w_a f_345_12 ?_
  refine w_a f_345_13 ?_
  refine n_m (fun h => ?_) h
  refine w_a f_345_14 ?_
  refine w_a f_345_15 ?_
  refine i_m (fun h => ?_) (fun h => ?_) h
  · refine w_a f_345_19 ?_
    refine w_a f_345_20 ?_
    exact h
  · refine w_a f_345_21 ?_
    refine w_a f_345_22 ?_
    exact w_n (ks := [0, 1, 2]) rfl h
set_option maxRecDepth 10000 in
set_option maxHeartbeats 4000000 in
theorem s_345_23 {Lx : Nat} {I : Mi} {L : Ml} {e : Nat} {Q : Kq} {x1 : Int32} {x2 : Int32} (h :
    (if x2 < (Int32.ofInt 14) then
     (inb (((Int32.ofInt 14) * x1) + x2) 154 (
      (if (L 65 ((((Int32.ofInt 14) * x1) + x2).toNatClampNeg)) = (Int64.ofInt 0) then
       Wp 345 23 [(0, .ref 58), (1, .int x1), (2, .int (x2 + Int32.ofInt 1))] [] (gE Lx) I L e Q
      else
       Q (.inl (some (.int (Int32.ofInt 1)))) (gE Lx) I L e))
     False)
    else
     Q (.inl (some (.int (Int32.ofInt 0)))) (gE Lx) I L e)) :
    Wp 345 23 [(0, .ref 58), (1, .int x1), (2, .int x2)] [] (gE Lx) I L e Q := by
  refine w_a f_345_23 ?_
  refine w_a f_345_24 ?_
  refine w_a f_345_26 ?_
  refine i_m (fun h => ?_) (fun h => ?_) h
  · refine w_a f_345_29 ?_
    refine w_a f_345_30 ?_
    refine w_a f_345_33 ?_
    refine w_a f_345_35 ?_
    refine w_a f_345_36 ?_
    refine w_a f_345_37 ?_
    refine w_a f_345_38 ?_
    refine w_a f_345_39 ?_
    refine n_m (fun h => ?_) h
    refine w_a f_345_40 ?_
    refine w_a f_345_41 ?_
    refine i_m (fun h => ?_) (fun h => ?_) h
    · refine w_a f_345_47 ?_
      refine w_a (ls := [(2, .int (x2 + Int32.ofInt 1)), (0, .ref 58), (1, .int x1)]) f_345_50 ?_
      exact w_n (ks := [0, 1, 2]) rfl h
    · refine w_a f_345_45 ?_
      refine w_a f_345_46 ?_
      exact h
  · refine w_a f_345_53 ?_
    refine w_a f_345_54 ?_
    exact h
set_option maxRecDepth 10000 in
set_option maxHeartbeats 4000000 in
theorem s_346_0 {Lx : Nat} {I : Mi} {L : Ml} {e : Nat} {Q : Kq} {x1 : Int32} {x2 : Int32} {x3 : Int32} (h :
    Wp 345 0 [(0, .ref 58), (1, .int x2)] [] (gE Lx) I L e (kcp (Wp 346) 346 2 0 [(0, .ref 58), (1, .int x1), (2, .int x2), (3, .int x3)] 71 [] Q)) :
    Wp 346 0 [(0, .ref 58), (1, .int x1), (2, .int x2), (3, .int x3)] [] (gE Lx) I L e Q := by
  refine w_a f_346_0 ?_
  refine w_a f_346_1 ?_
  exact w_c (ks := [0, 1, 2, 3]) f_346_2 rfl rfl h
set_option maxRecDepth 10000 in
set_option maxHeartbeats 4000000 in
theorem s_346_5 {Lx : Nat} {I : Mi} {L : Ml} {e : Nat} {Q : Kq} {x1 : Int32} {x2 : Int32} {x3 : Int32} {r : Int32} (h :
    (if r < 0 then
     Wp 342 0 [(0, .ref 58), (1, .int x2), (2, .int x2), (3, .long (Int64.ofInt (-1))), (5, .int x2), (6, .long (Int64.ofInt 0))] [] (gE Lx) I L e (kcp (Wp 346) 346 16 0 [(0, .ref 58), (1, .int x1), (2, .int x2), (3, .int x3)] 71 [] Q)
    else
     Wp 346 19 [(0, .ref 58), (1, .int x1), (2, .int x2), (3, .int x3)] [] (gE Lx) I L e Q)) :
    Wp 346 5 [(0, .ref 58), (1, .int x1), (2, .int x2), (3, .int x3)] [.int r] (gE Lx) I L e Q := by
  refine w_a f_346_5 ?_
  refine i_m (fun h => ?_) (fun h => ?_) h
  · refine w_a f_346_8 ?_
    refine w_a f_346_9 ?_
    refine w_a f_346_10 ?_
    refine w_a f_346_11 ?_
    refine w_a f_346_14 ?_
    refine w_a f_346_15 ?_
    exact w_c (ks := [0, 1, 2, 3]) f_346_16 rfl rfl h
  · exact w_n (ks := [0, 1, 2, 3]) rfl h
set_option maxRecDepth 10000 in
set_option maxHeartbeats 4000000 in
theorem s_346_19 {Lx : Nat} {I : Mi} {L : Ml} {e : Nat} {Q : Kq} {x1 : Int32} {x2 : Int32} {x3 : Int32} (h :
    Wp 345 0 [(0, .ref 58), (1, .int x3)] [] (gE Lx) I L e (kcp (Wp 346) 346 21 0 [(0, .ref 58), (1, .int x1), (2, .int x2), (3, .int x3)] 71 [] Q)) :
    Wp 346 19 [(0, .ref 58), (1, .int x1), (2, .int x2), (3, .int x3)] [] (gE Lx) I L e Q := by
  refine w_a f_346_19 ?_
  refine w_a f_346_20 ?_
  exact w_c (ks := [0, 1, 2, 3]) f_346_21 rfl rfl h
set_option maxRecDepth 10000 in
set_option maxHeartbeats 4000000 in
theorem s_346_24 {Lx : Nat} {I : Mi} {L : Ml} {e : Nat} {Q : Kq} {x1 : Int32} {x2 : Int32} {x3 : Int32} {r : Int32} (h :
    (if r < 0 then
     Wp 342 0 [(0, .ref 58), (1, .int x3), (2, .int x3), (3, .long (Int64.ofInt (-1))), (5, .int x3), (6, .long (Int64.ofInt 0))] [] (gE Lx) I L e (kcp (Wp 346) 346 35 0 [(0, .ref 58), (1, .int x1), (2, .int x2), (3, .int x3)] 71 [] Q)
    else
     Wp 346 38 [(0, .ref 58), (1, .int x1), (2, .int x2), (3, .int x3)] [] (gE Lx) I L e Q)) :
    Wp 346 24 [(0, .ref 58), (1, .int x1), (2, .int x2), (3, .int x3)] [.int r] (gE Lx) I L e Q := by
  refine w_a f_346_24 ?_
  refine i_m (fun h => ?_) (fun h => ?_) h
  · refine w_a f_346_27 ?_
    refine w_a f_346_28 ?_
    refine w_a f_346_29 ?_
    refine w_a f_346_30 ?_
    refine w_a f_346_33 ?_
    refine w_a f_346_34 ?_
    exact w_c (ks := [0, 1, 2, 3]) f_346_35 rfl rfl h
  · exact w_n (ks := [0, 1, 2, 3]) rfl h
set_option maxRecDepth 10000 in
set_option maxHeartbeats 4000000 in
theorem s_346_38 {Lx : Nat} {I : Mi} {L : Ml} {e : Nat} {Q : Kq} {x1 : Int32} {x2 : Int32} {x3 : Int32} (h :
    Wp 346 44 [(0, .ref 58), (1, .int x1), (2, .int x2), (3, .int x3), (4, .long (Int64.ofInt 0)), (6, .int (Int32.ofInt 0))] [] (gE Lx) I L e Q) :
    Wp 346 38 [(0, .ref 58), (1, .int x1), (2, .int x2), (3, .int x3)] [] (gE Lx) I L e Q := by
  refine w_a f_346_38 ?_
  refine w_a f_346_39 ?_
  refine w_a (ls := [(4, .long (Int64.ofInt 0)), (0, .ref 58), (1, .int x1), (2, .int x2), (3, .int x3)]) f_346_41 ?_
  refine w_a f_346_42 ?_
  exact w_n (ks := [0, 1, 2, 3, 4, 6]) rfl h
set_option maxRecDepth 10000 in
set_option maxHeartbeats 4000000 in
theorem s_346_44 {Lx : Nat} {I : Mi} {L : Ml} {e : Nat} {Q : Kq} {x1 : Int32} {x2 : Int32} {x3 : Int32} {y4 : Int64} {x6 : Int32} (h :
    (if x6 < (Int32.ofInt 14) then
     Wp 346 58 [(0, .ref 58), (1, .int x1), (2, .int x2), (3, .int x3), (6, .int x6), (7, .long y4), (9, .int (Int32.ofInt 0))] [] (gE Lx) I L e Q
    else
     Q (.inl none) (gE Lx) I L e)) :
    Wp 346 44 [(0, .ref 58), (1, .int x1), (2, .int x2), (3, .int x3), (4, .long y4), (6, .int x6)] [] (gE Lx) I L e Q := by
  refine w_a f_346_44 ?_
  refine w_a f_346_46 ?_
  refine w_a f_346_48 ?_
  refine i_m (fun h => ?_) (fun h => ?_) h
  · refine w_a f_346_51 ?_
    refine w_a f_346_53 ?_
    refine w_a (ls := [(7, .long y4), (0, .ref 58), (1, .int x1), (2, .int x2), (3, .int x3), (4, .long y4), (6, .int x6)]) f_346_55 ?_
    refine w_a f_346_56 ?_
    exact w_n (ks := [0, 1, 2, 3, 6, 7, 9]) rfl h
  · refine w_a f_346_164 ?_
    exact h
set_option maxRecDepth 10000 in
set_option maxHeartbeats 4000000 in
theorem s_346_58 {Lx : Nat} {I : Mi} {L : Ml} {e : Nat} {Q : Kq} {x1 : Int32} {x2 : Int32} {x3 : Int32} {x6 : Int32} {y7 : Int64} {x9 : Int32} (h :
    (if x6 < x9 then
     (inb (((Int32.ofInt 14) * x1) + x6) 154 (
      Wp 346 44 [(0, .ref 58), (1, .int x1), (2, .int x2), (3, .int x3), (4, .long (y7 >>> ((Int32.ofInt 20).toInt64 &&& 63))), (6, .int (x6 + Int32.ofInt 1))] [] (gE Lx) I (ul L 65 ((((Int32.ofInt 14) * x1) + x6).toNatClampNeg) (y7 &&& (Int64.ofInt 1048575))) e Q)
     False)
    else
     (inb (((Int32.ofInt 14) * x2) + x9) 154 (
      (inb ((((Int32.ofInt 14) * x2) + x6) - x9) 154 (
       (inb (((Int32.ofInt 14) * x3) + x9) 154 (
        (inb ((((Int32.ofInt 14) * x3) + x6) - x9) 154 (
         Wp 346 58 [(0, .ref 58), (1, .int x1), (2, .int x2), (3, .int x3), (6, .int x6), (7, .long (y7 + (((L 65 ((((Int32.ofInt 14) * x2) + x9).toNatClampNeg)) * (L 65 (((((Int32.ofInt 14) * x2) + x6) - x9).toNatClampNeg))) + ((L 65 ((((Int32.ofInt 14) * x3) + x9).toNatClampNeg)) * (L 65 (((((Int32.ofInt 14) * x3) + x6) - x9).toNatClampNeg)))))), (9, .int (x9 + Int32.ofInt 1))] [] (gE Lx) I L e Q)
        False))
       False))
      False))
     False))) :
    Wp 346 58 [(0, .ref 58), (1, .int x1), (2, .int x2), (3, .int x3), (6, .int x6), (7, .long y7), (9, .int x9)] [] (gE Lx) I L e Q := by
  refine w_a f_346_58 ?_
  refine w_a f_346_60 ?_
  refine w_a f_346_62 ?_
  refine i_m (fun h => ?_) (fun h => ?_) h
  · refine w_a f_346_133 ?_
    refine w_a f_346_134 ?_
    refine w_a f_346_137 ?_
    refine w_a f_346_139 ?_
    refine w_a f_346_140 ?_
    refine w_a f_346_141 ?_
    refine w_a f_346_143 ?_
    refine w_a f_346_144 ?_
    refine w_a f_346_146 ?_
    refine w_a f_346_149 ?_
    refine w_a f_346_150 ?_
    refine n_m (fun h => ?_) h
    refine w_a f_346_151 ?_
    refine w_a f_346_153 ?_
    refine w_a f_346_155 ?_
    refine w_a f_346_156 ?_
    refine w_a (ls := [(4, .long (y7 >>> ((Int32.ofInt 20).toInt64 &&& 63))), (0, .ref 58), (1, .int x1), (2, .int x2), (3, .int x3), (6, .int x6), (7, .long y7), (9, .int x9)]) f_346_158 ?_
    refine w_a (ls := [(6, .int (x6 + Int32.ofInt 1)), (4, .long (y7 >>> ((Int32.ofInt 20).toInt64 &&& 63))), (0, .ref 58), (1, .int x1), (2, .int x2), (3, .int x3), (7, .long y7), (9, .int x9)]) f_346_161 ?_
    exact w_n (ks := [0, 1, 2, 3, 4, 6]) rfl h
  · refine w_a f_346_65 ?_
    refine w_a f_346_67 ?_
    refine w_a f_346_68 ?_
    refine w_a f_346_71 ?_
    refine w_a f_346_73 ?_
    refine w_a f_346_74 ?_
    refine w_a f_346_75 ?_
    refine w_a f_346_77 ?_
    refine w_a f_346_78 ?_
    refine n_m (fun h => ?_) h
    refine w_a f_346_79 ?_
    refine w_a f_346_80 ?_
    refine w_a f_346_83 ?_
    refine w_a f_346_85 ?_
    refine w_a f_346_86 ?_
    refine w_a f_346_87 ?_
    refine w_a f_346_89 ?_
    refine w_a f_346_90 ?_
    refine w_a f_346_92 ?_
    refine w_a f_346_93 ?_
    refine n_m (fun h => ?_) h
    refine w_a f_346_94 ?_
    refine w_a f_346_95 ?_
    refine w_a f_346_96 ?_
    refine w_a f_346_99 ?_
    refine w_a f_346_101 ?_
    refine w_a f_346_102 ?_
    refine w_a f_346_103 ?_
    refine w_a f_346_105 ?_
    refine w_a f_346_106 ?_
    refine n_m (fun h => ?_) h
    refine w_a f_346_107 ?_
    refine w_a f_346_108 ?_
    refine w_a f_346_111 ?_
    refine w_a f_346_113 ?_
    refine w_a f_346_114 ?_
    refine w_a f_346_115 ?_
    refine w_a f_346_117 ?_
    refine w_a f_346_118 ?_
    refine w_a f_346_120 ?_
    refine w_a f_346_121 ?_
    refine n_m (fun h => ?_) h
    refine w_a f_346_122 ?_
    refine w_a f_346_123 ?_
    refine w_a f_346_124 ?_
    refine w_a f_346_125 ?_
    refine w_a (ls := [(7, .long (y7 + (((L 65 ((((Int32.ofInt 14) * x2) + x9).toNatClampNeg)) * (L 65 (((((Int32.ofInt 14) * x2) + x6) - x9).toNatClampNeg))) + ((L 65 ((((Int32.ofInt 14) * x3) + x9).toNatClampNeg)) * (L 65 (((((Int32.ofInt 14) * x3) + x6) - x9).toNatClampNeg)))))), (0, .ref 58), (1, .int x1), (2, .int x2), (3, .int x3), (6, .int x6), (9, .int x9)]) f_346_127 ?_
    refine w_a (ls := [(9, .int (x9 + Int32.ofInt 1)), (7, .long (y7 + (((L 65 ((((Int32.ofInt 14) * x2) + x9).toNatClampNeg)) * (L 65 (((((Int32.ofInt 14) * x2) + x6) - x9).toNatClampNeg))) + ((L 65 ((((Int32.ofInt 14) * x3) + x9).toNatClampNeg)) * (L 65 (((((Int32.ofInt 14) * x3) + x6) - x9).toNatClampNeg)))))), (0, .ref 58), (1, .int x1), (2, .int x2), (3, .int x3), (6, .int x6)]) f_346_130 ?_
    exact w_n (ks := [0, 1, 2, 3, 6, 7, 9]) rfl h
set_option maxRecDepth 10000 in
set_option maxHeartbeats 4000000 in
theorem s_347_30 {Lx : Nat} {I : Mi} {L : Ml} {e : Nat} {Q : Kq} {r : Int32} (h :
    (if r = 0 then
     Q (.inl (some (.int (Int32.ofInt 0)))) (gE Lx) I L e
    else
     Q (.inl (some (.int (Int32.ofInt 1)))) (gE Lx) I L e)) :
    Wp 347 30 [(0, .ref 58)] [.int r] (gE Lx) I L e Q := by
  refine w_a f_347_30 ?_
  refine i_m (fun h => ?_) (fun h => ?_) h
  · refine w_a f_347_37 ?_
    refine w_a f_347_38 ?_
    exact h
  · refine w_a f_347_33 ?_
    refine w_a f_347_34 ?_
    refine w_a f_347_38 ?_
    exact h
set_option maxRecDepth 10000 in
set_option maxHeartbeats 4000000 in
theorem s_348_0 {Lx : Nat} {I : Mi} {L : Ml} {e : Nat} {Q : Kq} {x1 : Int32} {x2 : Int32} (h :
    Wp 339 0 [(0, .ref 58), (1, .int x1), (2, .int x2)] [] (gE Lx) I L e (kcp (Wp 348) 348 3 0 [(0, .ref 58)] 71 [] Q)) :
    Wp 348 0 [(0, .ref 58), (1, .int x1), (2, .int x2)] [] (gE Lx) I L e Q := by
  refine w_a f_348_0 ?_
  refine w_a f_348_1 ?_
  refine w_a f_348_2 ?_
  exact w_c (ks := [0]) f_348_3 rfl rfl h
set_option maxRecDepth 10000 in
set_option maxHeartbeats 4000000 in
theorem s_348_6 {Lx : Nat} {I : Mi} {L : Ml} {e : Nat} {Q : Kq} (h :
    Wp 342 0 [(0, .ref 58), (1, .int (Int32.ofInt 10)), (2, .int (Int32.ofInt 8)), (3, .long (I 58 4).toInt64), (5, .int (Int32.ofInt 9)), (6, .long (-(I 58 3).toInt64))] [] (gE Lx) I L e (kcp (Wp 349) 349 10 0 [(0, .ref 58)] 71 [] (kcp (Wp 348) 348 17 0 [(0, .ref 58)] 71 [] Q))) :
    Wp 348 6 [(0, .ref 58)] [] (gE Lx) I L e Q := by
  refine w_a f_348_6 ?_
  refine w_a f_348_7 ?_
  refine w_a f_348_8 ?_
  refine w_a f_348_11 ?_
  refine w_a f_348_12 ?_
  refine w_a f_348_13 ?_
  refine w_a f_348_16 ?_
  refine w_c (ks := [0]) f_348_17 rfl rfl ?_
  refine w_a (ls := [(0, .ref 58), (1, .long (I 58 3).toInt64), (3, .long (I 58 4).toInt64)]) f_349_0 ?_
  refine w_a f_349_1 ?_
  refine w_a f_349_3 ?_
  refine w_a f_349_5 ?_
  refine w_a f_349_6 ?_
  refine w_a f_349_8 ?_
  refine w_a f_349_9 ?_
  exact w_c (ks := [0]) f_349_10 rfl rfl h
set_option maxRecDepth 10000 in
set_option maxHeartbeats 4000000 in
theorem s_348_20 {Lx : Nat} {I : Mi} {L : Ml} {e : Nat} {Q : Kq} {r : Int32} (h :
    (if r = 0 then
     Q (.inl (some (.int (Int32.ofInt 0)))) (gE Lx) I L e
    else if r = 1 then
     Q (.inl (some (.int (Int32.ofInt 1)))) (gE Lx) I L e
    else False)) :
    Wp 348 20 [(0, .ref 58)] [.int r] (gE Lx) I L e Q := by
  refine w_a f_348_20 ?_
  refine i_m (fun h => ?_) (i_m (fun h => ?_) id) h
  · exact h
  · exact h
set_option maxRecDepth 10000 in
set_option maxHeartbeats 4000000 in
theorem s_349_13 {Lx : Nat} {I : Mi} {L : Ml} {e : Nat} {Q : Kq} (h :
    Wp 345 0 [(0, .ref 58), (1, .int (Int32.ofInt 10))] [] (gE Lx) I L e (kcp (Wp 349) 349 16 0 [(0, .ref 58)] 71 [] Q)) :
    Wp 349 13 [(0, .ref 58)] [] (gE Lx) I L e Q := by
  refine w_a f_349_13 ?_
  refine w_a f_349_14 ?_
  exact w_c (ks := [0]) f_349_16 rfl rfl h
set_option maxRecDepth 10000 in
set_option maxHeartbeats 4000000 in
theorem s_349_19 {Lx : Nat} {I : Mi} {L : Ml} {e : Nat} {Q : Kq} {r : Int32} (h :
    (if 0 < r then
     Q (.inl (some (.int (Int32.ofInt 0)))) (gE Lx) I L e
    else
     Q (.inl (some (.int (Int32.ofInt 1)))) (gE Lx) I L e)) :
    Wp 349 19 [(0, .ref 58)] [.int r] (gE Lx) I L e Q := by
  refine w_a f_349_19 ?_
  refine i_m (fun h => ?_) (fun h => ?_) h
  · refine w_a f_349_26 ?_
    refine w_a f_349_27 ?_
    exact h
  · refine w_a f_349_22 ?_
    refine w_a f_349_23 ?_
    refine w_a f_349_27 ?_
    exact h
set_option maxRecDepth 10000 in
set_option maxHeartbeats 4000000 in
theorem s_350_9 {Lx : Nat} {I : Mi} {L : Ml} {e : Nat} {Q : Kq} {r : Int32} (h :
    Q (.inl (some (.int r))) (gE Lx) I L e) :
    Wp 350 9 [(0, .ref 58)] [.int r] (gE Lx) I L e Q := by
  refine w_a f_350_9 ?_
  exact h
set_option maxRecDepth 10000 in
set_option maxHeartbeats 4000000 in
theorem s_351_0 {Lx : Nat} {I : Mi} {L : Ml} {e : Nat} {Q : Kq} (h :
    Wp 351 2 [(0, .ref 58), (1, .int (Int32.ofInt (-1)))] [] (gE Lx) I L e Q) :
    Wp 351 0 [(0, .ref 58)] [] (gE Lx) I L e Q := by
  refine w_a f_351_0 ?_
  refine w_a f_351_1 ?_
  exact w_n (ks := [0, 1]) rfl h
set_option maxRecDepth 10000 in
set_option maxHeartbeats 4000000 in
theorem s_351_2 {Lx : Nat} {I : Mi} {L : Ml} {e : Nat} {Q : Kq} {x1 : Int32} (h :
    (if x1 < (Int32.ofInt 10) then
     Wp 348 0 [(0, .ref 58), (1, .int (x1 + (Int32.ofInt 1))), (2, .int (Int32.ofInt 1))] [] (gE Lx) I L e (kcp (Wp 351) 351 13 0 [(0, .ref 58), (1, .int x1)] 71 [] Q)
    else
     Q (.inl (some (.int x1))) (gE Lx) I L e)) :
    Wp 351 2 [(0, .ref 58), (1, .int x1)] [] (gE Lx) I L e Q := by
  refine w_a f_351_2 ?_
  refine w_a f_351_3 ?_
  refine w_a f_351_5 ?_
  refine i_m (fun h => ?_) (fun h => ?_) h
  · refine w_a f_351_8 ?_
    refine w_a f_351_9 ?_
    refine w_a f_351_10 ?_
    refine w_a f_351_11 ?_
    refine w_a f_351_12 ?_
    exact w_c (ks := [0, 1]) f_351_13 rfl rfl h
  · refine w_a f_351_37 ?_
    refine w_a f_351_38 ?_
    exact h
set_option maxRecDepth 10000 in
set_option maxHeartbeats 4000000 in
theorem s_351_16 {Lx : Nat} {I : Mi} {L : Ml} {e : Nat} {Q : Kq} {x1 : Int32} {r : Int32} (h :
    (if r = 0 then
     Q (.inl (some (.int x1))) (gE Lx) I L e
    else
     Wp 348 0 [(0, .ref 58), (1, .int ((-x1) - (Int32.ofInt 1))), (2, .int (Int32.ofInt 1))] [] (gE Lx) I L e (kcp (Wp 351) 351 25 0 [(0, .ref 58), (1, .int x1)] 71 [] Q))) :
    Wp 351 16 [(0, .ref 58), (1, .int x1)] [.int r] (gE Lx) I L e Q := by
  refine w_a f_351_16 ?_
  refine i_m (fun h => ?_) (fun h => ?_) h
  · refine w_a f_351_37 ?_
    refine w_a f_351_38 ?_
    exact h
  · refine w_a f_351_19 ?_
    refine w_a f_351_20 ?_
    refine w_a f_351_21 ?_
    refine w_a f_351_22 ?_
    refine w_a f_351_23 ?_
    refine w_a f_351_24 ?_
    exact w_c (ks := [0, 1]) f_351_25 rfl rfl h
set_option maxRecDepth 10000 in
set_option maxHeartbeats 4000000 in
theorem s_351_28 {Lx : Nat} {I : Mi} {L : Ml} {e : Nat} {Q : Kq} {x1 : Int32} {r : Int32} (h :
    (if r = 0 then
     Q (.inl (some (.int x1))) (gE Lx) I L e
    else
     Wp 351 2 [(0, .ref 58), (1, .int (x1 + Int32.ofInt 1))] [] (gE Lx) I L e Q)) :
    Wp 351 28 [(0, .ref 58), (1, .int x1)] [.int r] (gE Lx) I L e Q := by
  refine w_a f_351_28 ?_
  refine i_m (fun h => ?_) (fun h => ?_) h
  · refine w_a f_351_37 ?_
    refine w_a f_351_38 ?_
    exact h
  · refine w_a f_351_31 ?_
    refine w_a (ls := [(1, .int (x1 + Int32.ofInt 1)), (0, .ref 58)]) f_351_34 ?_
    exact w_n (ks := [0, 1]) rfl h
set_option maxRecDepth 10000 in
set_option maxHeartbeats 4000000 in
theorem s_352_31 {Lx : Nat} {I : Mi} {L : Ml} {e : Nat} {Q : Kq} {x1 : Int32} (h :
    (if x1 = 0 then
     Q (.inl (some (.long (I 58 39).toInt64))) (gE Lx) I L e
    else
     (if x1 = (Int32.ofInt 1) then
      Q (.inl (some (.long (L 58 8)))) (gE Lx) I L e
     else
      Q (.inl (some (.long (L 58 9)))) (gE Lx) I L e))) :
    Wp 352 31 [(0, .ref 58), (1, .int x1)] [] (gE Lx) I L e Q := by
  refine w_a f_352_31 ?_
  refine w_a f_352_32 ?_
  refine i_m (fun h => ?_) (fun h => ?_) h
  · refine w_a f_352_35 ?_
    refine w_a f_352_36 ?_
    refine w_a f_352_39 ?_
    refine w_a f_352_40 ?_
    refine w_a f_352_59 ?_
    exact h
  · refine w_a f_352_43 ?_
    refine w_a f_352_44 ?_
    refine w_a f_352_45 ?_
    refine i_m (fun h => ?_) (fun h => ?_) h
    · refine w_a f_352_48 ?_
      refine w_a f_352_49 ?_
      refine w_a f_352_52 ?_
      refine w_a f_352_59 ?_
      exact h
    · refine w_a f_352_55 ?_
      refine w_a f_352_56 ?_
      refine w_a f_352_59 ?_
      exact h
set_option maxRecDepth 10000 in
set_option maxHeartbeats 4000000 in
theorem s_353_0 {Lx : Nat} {I : Mi} {L : Ml} {e : Nat} {Q : Kq} (h :
    Wp 353 12 [(0, .ref 58), (1, .long (Int64.ofInt 1)), (3, .long (Int64.ofInt 0)), (5, .int (Int32.ofInt 0))] [] (gE Lx) (ui I 58 39 (Int32.ofInt 0)) L e Q) :
    Wp 353 0 [(0, .ref 58)] [] (gE Lx) I L e Q := by
  refine w_a f_353_0 ?_
  refine w_a f_353_1 ?_
  refine w_a f_353_2 ?_
  refine w_a f_353_5 ?_
  refine w_a f_353_6 ?_
  refine w_a (ls := [(1, .long (Int64.ofInt 1)), (0, .ref 58)]) f_353_7 ?_
  refine w_a f_353_8 ?_
  refine w_a (ls := [(3, .long (Int64.ofInt 0)), (1, .long (Int64.ofInt 1)), (0, .ref 58)]) f_353_9 ?_
  refine w_a f_353_10 ?_
  exact w_n (ks := [0, 1, 3, 5]) rfl h
set_option maxRecDepth 10000 in
set_option maxHeartbeats 4000000 in
theorem s_353_12 {Lx : Nat} {I : Mi} {L : Ml} {e : Nat} {Q : Kq} {y1 : Int64} {y3 : Int64} {x5 : Int32} (h :
    (if x5 < (I 59 3) then
     Wp 223 0 [(0, .ref 58), (1, .int x5)] [] (gE Lx) I L e (kcp (Wp 353) 353 24 0 [(0, .ref 58), (1, .long y1), (3, .long y3), (5, .int x5)] 71 [] Q)
    else
     Wp 246 0 [(0, .ref 58), (1, .long y3), (3, .long y1)] [] (gE Lx) I L e (kcp (Wp 353) 353 129 0 [(0, .ref 58)] 71 [] Q))) :
    Wp 353 12 [(0, .ref 58), (1, .long y1), (3, .long y3), (5, .int x5)] [] (gE Lx) I L e Q := by
  refine w_a f_353_12 ?_
  refine w_a f_353_14 ?_
  refine w_a f_353_15 ?_
  refine w_a (ls := [(0, .ref 58)]) f_215_0 ?_
  refine w_a f_215_1 ?_
  refine w_a f_215_4 ?_
  refine w_a f_215_5 ?_
  refine w_a f_215_6 ?_
  refine w_a (ls := [(0, .ref 58), (1, .long y1), (3, .long y3), (5, .int x5)]) f_353_18 ?_
  refine i_m (fun h => ?_) (fun h => ?_) h
  · refine w_a f_353_21 ?_
    refine w_a f_353_22 ?_
    exact w_c (ks := [0, 1, 3, 5]) f_353_24 rfl rfl h
  · refine w_a f_353_126 ?_
    refine w_a f_353_127 ?_
    refine w_a f_353_128 ?_
    exact w_c (ks := [0]) f_353_129 rfl rfl h
set_option maxRecDepth 10000 in
set_option maxHeartbeats 4000000 in
theorem s_353_27 {Lx : Nat} {I : Mi} {L : Ml} {e : Nat} {Q : Kq} {y1 : Int64} {y3 : Int64} {x5 : Int32} {r : Int32} (h :
    (if r < 0 then
     Wp 224 0 [(0, .ref 58), (1, .int x5)] [] (gE Lx) I L e (kcp (Wp 353) 353 37 0 [(0, .ref 58), (1, .long y1), (3, .long y3), (5, .int x5), (6, .int r)] 71 [] Q)
    else
     Wp 224 0 [(0, .ref 58), (1, .int x5)] [] (gE Lx) I L e (kcp (Wp 353) 353 47 0 [(0, .ref 58), (1, .long y1), (3, .long y3), (5, .int x5), (6, .int r)] 71 [] Q))) :
    Wp 353 27 [(0, .ref 58), (1, .long y1), (3, .long y3), (5, .int x5)] [.int r] (gE Lx) I L e Q := by
  refine w_a f_353_27 ?_
  refine w_a (ls := [(6, .int r), (0, .ref 58), (1, .long y1), (3, .long y3), (5, .int x5)]) f_353_29 ?_
  refine w_a f_353_31 ?_
  refine i_m (fun h => ?_) (fun h => ?_) h
  · refine w_a f_353_34 ?_
    refine w_a f_353_35 ?_
    exact w_c (ks := [0, 1, 3, 5, 6]) f_353_37 rfl rfl h
  · refine w_a f_353_44 ?_
    refine w_a f_353_45 ?_
    exact w_c (ks := [0, 1, 3, 5, 6]) f_353_47 rfl rfl h
set_option maxRecDepth 10000 in
set_option maxHeartbeats 4000000 in
theorem s_353_40 {Lx : Nat} {I : Mi} {L : Ml} {e : Nat} {Q : Kq} {y1 : Int64} {y3 : Int64} {x5 : Int32} {x6 : Int32} {r : Int32} (h :
    Wp 353 50 [(0, .ref 58), (1, .long y1), (3, .long y3), (5, .int x5), (6, .int x6)] [.int (-r)] (gE Lx) I L e Q) :
    Wp 353 40 [(0, .ref 58), (1, .long y1), (3, .long y3), (5, .int x5), (6, .int x6)] [.int r] (gE Lx) I L e Q := by
  refine w_a f_353_40 ?_
  refine w_a f_353_41 ?_
  exact w_n (ks := [0, 1, 3, 5, 6]) rfl h
set_option maxRecDepth 10000 in
set_option maxHeartbeats 4000000 in
theorem s_353_50 {Lx : Nat} {I : Mi} {L : Ml} {e : Nat} {Q : Kq} {y1 : Int64} {y3 : Int64} {x5 : Int32} {x6 : Int32} {r : Int32} (h :
    Wp 210 0 [(0, .long x6.toInt64)] [] (gE Lx) I L e (kcp (Wp 353) 353 61 0 [(0, .ref 58), (1, .long y1), (3, .long y3), (5, .int x5), (6, .int x6), (7, .int r)] 71 [.long y3, .long (y1 * r.toInt64)] Q)) :
    Wp 353 50 [(0, .ref 58), (1, .long y1), (3, .long y3), (5, .int x5), (6, .int x6)] [.int r] (gE Lx) I L e Q := by
  refine w_a f_353_50 ?_
  refine w_a (ls := [(7, .int r), (0, .ref 58), (1, .long y1), (3, .long y3), (5, .int x5), (6, .int x6)]) f_353_52 ?_
  refine w_a f_353_53 ?_
  refine w_a f_353_55 ?_
  refine w_a f_353_56 ?_
  refine w_a f_353_57 ?_
  refine w_a f_353_58 ?_
  refine w_a f_353_60 ?_
  exact w_c (ks := [0, 1, 3, 5, 6, 7]) f_353_61 rfl rfl h
set_option maxRecDepth 10000 in
set_option maxHeartbeats 4000000 in
theorem s_353_64 {Lx : Nat} {I : Mi} {L : Ml} {e : Nat} {Q : Kq} {y1 : Int64} {y3 : Int64} {x5 : Int32} {x6 : Int32} {x7 : Int32} {rl0 : Int64} {rl1 : Int64} {rl : Int64} (h :
    Wp 210 0 [(0, .long x6.toInt64)] [] (gE Lx) I L e (kcp (Wp 353) 353 72 0 [(0, .ref 58), (3, .long y3), (5, .int x5), (7, .int x7), (8, .long (rl0 - (rl1 * rl)))] 71 [.long y1] Q)) :
    Wp 353 64 [(0, .ref 58), (1, .long y1), (3, .long y3), (5, .int x5), (6, .int x6), (7, .int x7)] [.long rl, .long rl1, .long rl0] (gE Lx) I L e Q := by
  refine w_a f_353_64 ?_
  refine w_a f_353_65 ?_
  refine w_a f_353_66 ?_
  refine w_a (ls := [(8, .long (rl0 - (rl1 * rl))), (0, .ref 58), (1, .long y1), (3, .long y3), (5, .int x5), (6, .int x6), (7, .int x7)]) f_353_68 ?_
  refine w_a f_353_69 ?_
  refine w_a f_353_71 ?_
  exact w_c (ks := [0, 3, 5, 7, 8]) f_353_72 rfl rfl h
set_option maxRecDepth 10000 in
set_option maxHeartbeats 4000000 in
theorem s_353_75 {Lx : Nat} {I : Mi} {L : Ml} {e : Nat} {Q : Kq} {y3 : Int64} {x5 : Int32} {x7 : Int32} {y8 : Int64} {rl0 : Int64} {rl : Int64} (h :
    (if ((rl0 * rl) + (y3 * x7.toInt64)) < (Int64.ofInt 0) then
     Wp 353 12 [(0, .ref 58), (1, .long (-y8)), (3, .long (-((rl0 * rl) + (y3 * x7.toInt64)))), (5, .int (x5 + Int32.ofInt 1))] [] (gE Lx) (ui I 58 39 ((I 58 39) + (Int32.ofInt 1))) L e Q
    else
     (if ((rl0 * rl) + (y3 * x7.toInt64)) = (Int64.ofInt 0) then
      (if y8 < (Int64.ofInt 0) then
       Wp 353 12 [(0, .ref 58), (1, .long (-y8)), (3, .long (-((rl0 * rl) + (y3 * x7.toInt64)))), (5, .int (x5 + Int32.ofInt 1))] [] (gE Lx) (ui I 58 39 ((I 58 39) + (Int32.ofInt 1))) L e Q
      else
       Wp 353 12 [(0, .ref 58), (1, .long y8), (3, .long ((rl0 * rl) + (y3 * x7.toInt64))), (5, .int (x5 + Int32.ofInt 1))] [] (gE Lx) I L e Q)
     else
      Wp 353 12 [(0, .ref 58), (1, .long y8), (3, .long ((rl0 * rl) + (y3 * x7.toInt64))), (5, .int (x5 + Int32.ofInt 1))] [] (gE Lx) I L e Q))) :
    Wp 353 75 [(0, .ref 58), (3, .long y3), (5, .int x5), (7, .int x7), (8, .long y8)] [.long rl, .long rl0] (gE Lx) I L e Q := by
  refine w_a f_353_75 ?_
  refine w_a f_353_76 ?_
  refine w_a f_353_77 ?_
  refine w_a f_353_79 ?_
  refine w_a f_353_80 ?_
  refine w_a f_353_81 ?_
  refine w_a f_353_82 ?_
  refine w_a (ls := [(3, .long ((rl0 * rl) + (y3 * x7.toInt64))), (0, .ref 58), (5, .int x5), (7, .int x7), (8, .long y8)]) f_353_83 ?_
  refine w_a f_353_85 ?_
  refine w_a (ls := [(1, .long y8), (3, .long ((rl0 * rl) + (y3 * x7.toInt64))), (0, .ref 58), (5, .int x5), (7, .int x7), (8, .long y8)]) f_353_86 ?_
  refine w_a f_353_87 ?_
  refine w_a f_353_88 ?_
  refine i_m (fun h => ?_) (fun h => ?_) h
  · refine w_a f_353_104 ?_
    refine w_a f_353_105 ?_
    refine w_a f_353_106 ?_
    refine w_a f_353_109 ?_
    refine w_a f_353_110 ?_
    refine w_a f_353_111 ?_
    refine w_a f_353_114 ?_
    refine w_a f_353_115 ?_
    refine w_a f_353_116 ?_
    refine w_a (ls := [(1, .long (-y8)), (3, .long ((rl0 * rl) + (y3 * x7.toInt64))), (0, .ref 58), (5, .int x5), (7, .int x7), (8, .long y8)]) f_353_117 ?_
    refine w_a f_353_118 ?_
    refine w_a f_353_119 ?_
    refine w_a (ls := [(3, .long (-((rl0 * rl) + (y3 * x7.toInt64)))), (1, .long (-y8)), (0, .ref 58), (5, .int x5), (7, .int x7), (8, .long y8)]) f_353_120 ?_
    refine w_a (ls := [(5, .int (x5 + Int32.ofInt 1)), (3, .long (-((rl0 * rl) + (y3 * x7.toInt64)))), (1, .long (-y8)), (0, .ref 58), (7, .int x7), (8, .long y8)]) f_353_123 ?_
    exact w_n (ks := [0, 1, 3, 5]) rfl h
  · refine w_a f_353_92 ?_
    refine w_a f_353_93 ?_
    refine w_a f_353_94 ?_
    refine i_m (fun h => ?_) (fun h => ?_) h
    · refine w_a f_353_98 ?_
      refine w_a f_353_99 ?_
      refine w_a f_353_100 ?_
      refine i_m (fun h => ?_) (fun h => ?_) h
      · refine w_a f_353_104 ?_
        refine w_a f_353_105 ?_
        refine w_a f_353_106 ?_
        refine w_a f_353_109 ?_
        refine w_a f_353_110 ?_
        refine w_a f_353_111 ?_
        refine w_a f_353_114 ?_
        refine w_a f_353_115 ?_
        refine w_a f_353_116 ?_
        refine w_a (ls := [(1, .long (-y8)), (3, .long ((rl0 * rl) + (y3 * x7.toInt64))), (0, .ref 58), (5, .int x5), (7, .int x7), (8, .long y8)]) f_353_117 ?_
        refine w_a f_353_118 ?_
        refine w_a f_353_119 ?_
        refine w_a (ls := [(3, .long (-((rl0 * rl) + (y3 * x7.toInt64)))), (1, .long (-y8)), (0, .ref 58), (5, .int x5), (7, .int x7), (8, .long y8)]) f_353_120 ?_
        refine w_a (ls := [(5, .int (x5 + Int32.ofInt 1)), (3, .long (-((rl0 * rl) + (y3 * x7.toInt64)))), (1, .long (-y8)), (0, .ref 58), (7, .int x7), (8, .long y8)]) f_353_123 ?_
        exact w_n (ks := [0, 1, 3, 5]) rfl h
      · refine w_a f_353_120 ?_
        refine w_a (ls := [(5, .int (x5 + Int32.ofInt 1)), (1, .long y8), (3, .long ((rl0 * rl) + (y3 * x7.toInt64))), (0, .ref 58), (7, .int x7), (8, .long y8)]) f_353_123 ?_
        exact w_n (ks := [0, 1, 3, 5]) rfl h
    · refine w_a f_353_120 ?_
      refine w_a (ls := [(5, .int (x5 + Int32.ofInt 1)), (1, .long y8), (3, .long ((rl0 * rl) + (y3 * x7.toInt64))), (0, .ref 58), (7, .int x7), (8, .long y8)]) f_353_123 ?_
      exact w_n (ks := [0, 1, 3, 5]) rfl h
set_option maxRecDepth 10000 in
set_option maxHeartbeats 4000000 in
theorem s_353_132 {Lx : Nat} {I : Mi} {L : Ml} {e : Nat} {Q : Kq} (h :
    Q (.inl none) (gE Lx) I L e) :
    Wp 353 132 [(0, .ref 58)] [] (gE Lx) I L e Q := by
  refine w_a f_353_132 ?_
  exact h
set_option maxRecDepth 10000 in
set_option maxHeartbeats 4000000 in
theorem s_354_27 {Lx : Nat} {I : Mi} {L : Ml} {e : Nat} {Q : Kq} {x1 : Int32} {x2 : Int32} (h :
    (if x2 < (Int32.ofInt 16) then
     (inb x2 16 (
      (inb (((Int32.ofInt 17) * x1) + x2) 68 (
       Wp 354 27 [(0, .ref 58), (1, .int x1), (2, .int (x2 + Int32.ofInt 1))] [] (gE Lx) (ui I 60 ((((Int32.ofInt 17) * x1) + x2).toNatClampNeg) (I 59 x2.toNatClampNeg)) L e Q)
      False))
     False)
    else
     (inb (((Int32.ofInt 17) * x1) + (Int32.ofInt 16)) 68 (
      Q (.inl (some (.int (I 59 3)))) (gE Lx) (ui I 60 ((((Int32.ofInt 17) * x1) + (Int32.ofInt 16)).toNatClampNeg) (Int32.ofInt 1)) L e)
     False))) :
    Wp 354 27 [(0, .ref 58), (1, .int x1), (2, .int x2)] [] (gE Lx) I L e Q := by
  refine w_a f_354_27 ?_
  refine w_a f_354_28 ?_
  refine w_a f_354_30 ?_
  refine i_m (fun h => ?_) (fun h => ?_) h
  · refine w_a f_354_33 ?_
    refine w_a f_354_34 ?_
    refine w_a f_354_37 ?_
    refine w_a f_354_39 ?_
    refine w_a f_354_40 ?_
    refine w_a f_354_41 ?_
    refine w_a f_354_42 ?_
    refine w_a f_354_43 ?_
    refine w_a f_354_44 ?_
    refine w_a f_354_47 ?_
    refine w_a f_354_48 ?_
    refine n_m (fun h => ?_) h
    refine w_a f_354_49 ?_
    refine n_m (fun h => ?_) h
    refine w_a f_354_50 ?_
    refine w_a (ls := [(2, .int (x2 + Int32.ofInt 1)), (0, .ref 58), (1, .int x1)]) f_354_53 ?_
    exact w_n (ks := [0, 1, 2]) rfl h
  · refine w_a f_354_56 ?_
    refine w_a f_354_57 ?_
    refine w_a f_354_60 ?_
    refine w_a f_354_62 ?_
    refine w_a f_354_63 ?_
    refine w_a f_354_64 ?_
    refine w_a f_354_66 ?_
    refine w_a f_354_67 ?_
    refine w_a f_354_68 ?_
    refine n_m (fun h => ?_) h
    refine w_a f_354_69 ?_
    refine w_a f_354_70 ?_
    refine w_a (ls := [(0, .ref 58)]) f_215_0 ?_
    refine w_a f_215_1 ?_
    refine w_a f_215_4 ?_
    refine w_a f_215_5 ?_
    refine w_a f_215_6 ?_
    refine w_a (ls := [(0, .ref 58), (1, .int x1), (2, .int x2)]) f_354_73 ?_
    exact h
