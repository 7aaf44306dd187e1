/-! Pieces of methods, by program out of the tables: 286 to 305. -/
theorem f_286_7 : ftc (PT 286) 7 = some (7, .iload 4, 2, 0, 0, 0) := by decide +kernel
theorem f_286_9 : ftc (PT 286) 9 = some (9, .iconst 0, 1, 0, 0, 0) := by decide +kernel
theorem f_286_10 : ftc (PT 286) 10 = some (10, .aload_n 0, 1, 0, 0, 0) := by decide +kernel
theorem f_286_11 : ftc (PT 286) 11 = some (11, .invokevirtual 305, 3, 284, 1036, 2054) := by decide +kernel
theorem f_286_14 : ftc (PT 286) 14 = some (14, .iconst 1, 1, 0, 0, 0) := by decide +kernel
theorem f_286_15 : ftc (PT 286) 15 = some (15, .isub, 1, 0, 0, 0) := by decide +kernel
theorem f_286_16 : ftc (PT 286) 16 = some (16, .invokestatic 62, 3, 208, 3075, 1624) := by decide +kernel
theorem f_286_19 : ftc (PT 286) 19 = some (19, .ifCond .eq 13, 3, 32, 0, 0) := by decide +kernel
theorem f_286_22 : ftc (PT 286) 22 = some (22, .aload_n 0, 1, 0, 0, 0) := by decide +kernel
theorem f_286_23 : ftc (PT 286) 23 = some (23, .getfield 294, 3, 12, 23, 1659) := by decide +kernel
theorem f_286_26 : ftc (PT 286) 26 = some (26, .invokestatic 175, 3, 242, 4097, 1884) := by decide +kernel
theorem f_286_29 : ftc (PT 286) 29 = some (29, .ifCond .ne 10, 3, 39, 0, 0) := by decide +kernel
theorem f_286_32 : ftc (PT 286) 32 = some (32, .aload_n 0, 1, 0, 0, 0) := by decide +kernel
theorem f_286_33 : ftc (PT 286) 33 = some (33, .iconst 3, 1, 0, 0, 0) := by decide +kernel
theorem f_286_34 : ftc (PT 286) 34 = some (34, .putfield 55, 3, 12, 0, 1636) := by decide +kernel
theorem f_286_37 : ftc (PT 286) 37 = some (37, .lconst 0, 1, 0, 0, 0) := by decide +kernel
theorem f_286_38 : ftc (PT 286) 38 = some (38, .lreturn, 1, 0, 0, 0) := by decide +kernel
theorem f_286_39 : ftc (PT 286) 39 = some (39, .aload_n 0, 1, 0, 0, 0) := by decide +kernel
theorem f_286_40 : ftc (PT 286) 40 = some (40, .iload_n 1, 1, 0, 0, 0) := by decide +kernel
theorem f_286_41 : ftc (PT 286) 41 = some (41, .iload_n 2, 1, 0, 0, 0) := by decide +kernel
theorem f_286_42 : ftc (PT 286) 42 = some (42, .iload_n 3, 1, 0, 0, 0) := by decide +kernel
theorem f_286_43 : ftc (PT 286) 43 = some (43, .iload 4, 2, 0, 0, 0) := by decide +kernel
theorem f_286_45 : ftc (PT 286) 45 = some (45, .iload 5, 2, 0, 0, 0) := by decide +kernel
theorem f_286_47 : ftc (PT 286) 47 = some (47, .invokevirtual 308, 3, 287, 14508, 2066) := by decide +kernel
theorem f_286_50 : ftc (PT 286) 50 = some (50, .aload_n 0, 1, 0, 0, 0) := by decide +kernel
theorem f_286_51 : ftc (PT 286) 51 = some (51, .iload 6, 2, 0, 0, 0) := by decide +kernel
theorem f_286_53 : ftc (PT 286) 53 = some (53, .invokevirtual 161, 3, 237, 2092, 1864) := by decide +kernel
theorem f_286_56 : ftc (PT 286) 56 = some (56, .lreturn, 1, 0, 0, 0) := by decide +kernel
theorem f_287_0 : ftc (PT 287) 0 = some (0, .aload_n 0, 1, 0, 0, 0) := by decide +kernel
theorem f_287_1 : ftc (PT 287) 1 = some (1, .getfield 294, 3, 12, 23, 1659) := by decide +kernel
theorem f_287_4 : ftc (PT 287) 4 = some (4, .invokestatic 172, 3, 243, 8193, 1887) := by decide +kernel
theorem f_287_7 : ftc (PT 287) 7 = some (7, .lstore 6, 2, 0, 0, 0) := by decide +kernel
theorem f_287_9 : ftc (PT 287) 9 = some (9, .iload 4, 2, 0, 0, 0) := by decide +kernel
theorem f_287_11 : ftc (PT 287) 11 = some (11, .ifCond .ne 7, 3, 18, 0, 0) := by decide +kernel
theorem f_287_14 : ftc (PT 287) 14 = some (14, .iconst 1, 1, 0, 0, 0) := by decide +kernel
theorem f_287_15 : ftc (PT 287) 15 = some (15, .goto 4, 3, 19, 0, 0) := by decide +kernel
theorem f_287_18 : ftc (PT 287) 18 = some (18, .iconst 0, 1, 0, 0, 0) := by decide +kernel
theorem f_287_19 : ftc (PT 287) 19 = some (19, .iload_n 2, 1, 0, 0, 0) := by decide +kernel
theorem f_287_20 : ftc (PT 287) 20 = some (20, .ifCond .le 7, 3, 27, 0, 0) := by decide +kernel
theorem f_287_23 : ftc (PT 287) 23 = some (23, .iconst 1, 1, 0, 0, 0) := by decide +kernel
theorem f_287_24 : ftc (PT 287) 24 = some (24, .goto 4, 3, 28, 0, 0) := by decide +kernel
theorem f_287_27 : ftc (PT 287) 27 = some (27, .iconst 0, 1, 0, 0, 0) := by decide +kernel
theorem f_287_28 : ftc (PT 287) 28 = some (28, .if_icmp .ne 9, 3, 37, 0, 0) := by decide +kernel
theorem f_287_31 : ftc (PT 287) 31 = some (31, .lload 6, 2, 0, 0, 0) := by decide +kernel
theorem f_287_33 : ftc (PT 287) 33 = some (33, .lneg, 1, 0, 0, 0) := by decide +kernel
theorem f_287_34 : ftc (PT 287) 34 = some (34, .goto 5, 3, 39, 0, 0) := by decide +kernel
theorem f_287_37 : ftc (PT 287) 37 = some (37, .lload 6, 2, 0, 0, 0) := by decide +kernel
theorem f_287_39 : ftc (PT 287) 39 = some (39, .lstore 8, 2, 0, 0, 0) := by decide +kernel
theorem f_287_41 : ftc (PT 287) 41 = some (41, .iload 5, 2, 0, 0, 0) := by decide +kernel
theorem f_287_43 : ftc (PT 287) 43 = some (43, .ifCond .eq 25, 3, 68, 0, 0) := by decide +kernel
theorem f_287_46 : ftc (PT 287) 46 = some (46, .aload_n 0, 1, 0, 0, 0) := by decide +kernel
theorem f_287_47 : ftc (PT 287) 47 = some (47, .aload_n 0, 1, 0, 0, 0) := by decide +kernel
theorem f_287_48 : ftc (PT 287) 48 = some (48, .getfield 288, 3, 12, 21, 1657) := by decide +kernel
theorem f_287_51 : ftc (PT 287) 51 = some (51, .iload_n 3, 1, 0, 0, 0) := by decide +kernel
theorem f_287_52 : ftc (PT 287) 52 = some (52, .i2l, 1, 0, 0, 0) := by decide +kernel
theorem f_287_53 : ftc (PT 287) 53 = some (53, .lmul, 1, 0, 0, 0) := by decide +kernel
theorem f_287_54 : ftc (PT 287) 54 = some (54, .lload 8, 2, 0, 0, 0) := by decide +kernel
theorem f_287_56 : ftc (PT 287) 56 = some (56, .ladd, 1, 0, 0, 0) := by decide +kernel
theorem f_287_57 : ftc (PT 287) 57 = some (57, .aload_n 0, 1, 0, 0, 0) := by decide +kernel
theorem f_287_58 : ftc (PT 287) 58 = some (58, .getfield 288, 3, 12, 21, 1657) := by decide +kernel
theorem f_287_61 : ftc (PT 287) 61 = some (61, .iload_n 2, 1, 0, 0, 0) := by decide +kernel
theorem f_287_62 : ftc (PT 287) 62 = some (62, .i2l, 1, 0, 0, 0) := by decide +kernel
theorem f_287_63 : ftc (PT 287) 63 = some (63, .lmul, 1, 0, 0, 0) := by decide +kernel
theorem f_287_64 : ftc (PT 287) 64 = some (64, .invokevirtual 88, 3, 236, 8268, 1860) := by decide +kernel
theorem f_287_67 : ftc (PT 287) 67 = some (67, .return_, 1, 0, 0, 0) := by decide +kernel
theorem f_287_68 : ftc (PT 287) 68 = some (68, .aload_n 0, 1, 0, 0, 0) := by decide +kernel
theorem f_287_69 : ftc (PT 287) 69 = some (69, .aload_n 0, 1, 0, 0, 0) := by decide +kernel
theorem f_287_70 : ftc (PT 287) 70 = some (70, .getfield 291, 3, 12, 22, 1658) := by decide +kernel
theorem f_287_73 : ftc (PT 287) 73 = some (73, .iload_n 3, 1, 0, 0, 0) := by decide +kernel
theorem f_287_74 : ftc (PT 287) 74 = some (74, .i2l, 1, 0, 0, 0) := by decide +kernel
theorem f_287_75 : ftc (PT 287) 75 = some (75, .lmul, 1, 0, 0, 0) := by decide +kernel
theorem f_287_76 : ftc (PT 287) 76 = some (76, .lload 8, 2, 0, 0, 0) := by decide +kernel
theorem f_287_78 : ftc (PT 287) 78 = some (78, .ladd, 1, 0, 0, 0) := by decide +kernel
theorem f_287_79 : ftc (PT 287) 79 = some (79, .aload_n 0, 1, 0, 0, 0) := by decide +kernel
theorem f_287_80 : ftc (PT 287) 80 = some (80, .getfield 291, 3, 12, 22, 1658) := by decide +kernel
theorem f_287_83 : ftc (PT 287) 83 = some (83, .iload_n 2, 1, 0, 0, 0) := by decide +kernel
theorem f_287_84 : ftc (PT 287) 84 = some (84, .i2l, 1, 0, 0, 0) := by decide +kernel
theorem f_287_85 : ftc (PT 287) 85 = some (85, .lmul, 1, 0, 0, 0) := by decide +kernel
theorem f_287_86 : ftc (PT 287) 86 = some (86, .invokevirtual 88, 3, 236, 8268, 1860) := by decide +kernel
theorem f_287_89 : ftc (PT 287) 89 = some (89, .aload_n 0, 1, 0, 0, 0) := by decide +kernel
theorem f_287_90 : ftc (PT 287) 90 = some (90, .getfield 81, 3, 12, 8, 1644) := by decide +kernel
theorem f_287_93 : ftc (PT 287) 93 = some (93, .lstore 10, 2, 0, 0, 0) := by decide +kernel
theorem f_287_95 : ftc (PT 287) 95 = some (95, .aload_n 0, 1, 0, 0, 0) := by decide +kernel
theorem f_287_96 : ftc (PT 287) 96 = some (96, .getfield 85, 3, 12, 9, 1645) := by decide +kernel
theorem f_287_99 : ftc (PT 287) 99 = some (99, .lstore 12, 2, 0, 0, 0) := by decide +kernel
theorem f_287_101 : ftc (PT 287) 101 = some (101, .iload_n 1, 1, 0, 0, 0) := by decide +kernel
theorem f_287_102 : ftc (PT 287) 102 = some (102, .ifCond .eq 18, 3, 120, 0, 0) := by decide +kernel
theorem f_287_105 : ftc (PT 287) 105 = some (105, .aload_n 0, 1, 0, 0, 0) := by decide +kernel
theorem f_287_106 : ftc (PT 287) 106 = some (106, .aload_n 0, 1, 0, 0, 0) := by decide +kernel
theorem f_287_107 : ftc (PT 287) 107 = some (107, .getfield 195, 3, 12, 15, 1651) := by decide +kernel
theorem f_287_110 : ftc (PT 287) 110 = some (110, .aload_n 0, 1, 0, 0, 0) := by decide +kernel
theorem f_287_111 : ftc (PT 287) 111 = some (111, .getfield 198, 3, 12, 16, 1652) := by decide +kernel
theorem f_287_114 : ftc (PT 287) 114 = some (114, .invokevirtual 88, 3, 236, 8268, 1860) := by decide +kernel
theorem f_287_117 : ftc (PT 287) 117 = some (117, .goto 28, 3, 145, 0, 0) := by decide +kernel
theorem f_287_120 : ftc (PT 287) 120 = some (120, .aload_n 0, 1, 0, 0, 0) := by decide +kernel
theorem f_287_121 : ftc (PT 287) 121 = some (121, .aload_n 0, 1, 0, 0, 0) := by decide +kernel
theorem f_287_122 : ftc (PT 287) 122 = some (122, .getfield 195, 3, 12, 15, 1651) := by decide +kernel
theorem f_287_125 : ftc (PT 287) 125 = some (125, .lneg, 1, 0, 0, 0) := by decide +kernel
theorem f_287_126 : ftc (PT 287) 126 = some (126, .aload_n 0, 1, 0, 0, 0) := by decide +kernel
theorem f_287_127 : ftc (PT 287) 127 = some (127, .getfield 198, 3, 12, 16, 1652) := by decide +kernel
theorem f_287_130 : ftc (PT 287) 130 = some (130, .lmul, 1, 0, 0, 0) := by decide +kernel
theorem f_287_131 : ftc (PT 287) 131 = some (131, .aload_n 0, 1, 0, 0, 0) := by decide +kernel
theorem f_287_132 : ftc (PT 287) 132 = some (132, .getfield 192, 3, 12, 14, 1650) := by decide +kernel
theorem f_287_135 : ftc (PT 287) 135 = some (135, .aload_n 0, 1, 0, 0, 0) := by decide +kernel
theorem f_287_136 : ftc (PT 287) 136 = some (136, .getfield 195, 3, 12, 15, 1651) := by decide +kernel
theorem f_287_139 : ftc (PT 287) 139 = some (139, .invokestatic 147, 3, 235, 4098, 1857) := by decide +kernel
theorem f_287_142 : ftc (PT 287) 142 = some (142, .invokevirtual 88, 3, 236, 8268, 1860) := by decide +kernel
theorem f_287_145 : ftc (PT 287) 145 = some (145, .aload_n 0, 1, 0, 0, 0) := by decide +kernel
theorem f_287_146 : ftc (PT 287) 146 = some (146, .lload 10, 2, 0, 0, 0) := by decide +kernel
theorem f_287_148 : ftc (PT 287) 148 = some (148, .aload_n 0, 1, 0, 0, 0) := by decide +kernel
theorem f_287_149 : ftc (PT 287) 149 = some (149, .getfield 85, 3, 12, 9, 1645) := by decide +kernel
theorem f_287_152 : ftc (PT 287) 152 = some (152, .lmul, 1, 0, 0, 0) := by decide +kernel
theorem f_287_153 : ftc (PT 287) 153 = some (153, .aload_n 0, 1, 0, 0, 0) := by decide +kernel
theorem f_287_154 : ftc (PT 287) 154 = some (154, .getfield 81, 3, 12, 8, 1644) := by decide +kernel
theorem f_287_157 : ftc (PT 287) 157 = some (157, .lload 12, 2, 0, 0, 0) := by decide +kernel
theorem f_287_159 : ftc (PT 287) 159 = some (159, .lmul, 1, 0, 0, 0) := by decide +kernel
theorem f_287_160 : ftc (PT 287) 160 = some (160, .lsub, 1, 0, 0, 0) := by decide +kernel
theorem f_287_161 : ftc (PT 287) 161 = some (161, .lload 12, 2, 0, 0, 0) := by decide +kernel
theorem f_287_163 : ftc (PT 287) 163 = some (163, .aload_n 0, 1, 0, 0, 0) := by decide +kernel
theorem f_287_164 : ftc (PT 287) 164 = some (164, .getfield 85, 3, 12, 9, 1645) := by decide +kernel
theorem f_287_167 : ftc (PT 287) 167 = some (167, .lmul, 1, 0, 0, 0) := by decide +kernel
theorem f_287_168 : ftc (PT 287) 168 = some (168, .invokevirtual 88, 3, 236, 8268, 1860) := by decide +kernel
theorem f_287_171 : ftc (PT 287) 171 = some (171, .return_, 1, 0, 0, 0) := by decide +kernel
theorem f_288_14 : ftc (PT 288) 14 = some (14, .putfield 55, 3, 12, 0, 1636) := by decide +kernel
theorem f_288_17 : ftc (PT 288) 17 = some (17, .aload_n 0, 1, 0, 0, 0) := by decide +kernel
theorem f_288_18 : ftc (PT 288) 18 = some (18, .getfield 55, 3, 12, 0, 1636) := by decide +kernel
theorem f_288_21 : ftc (PT 288) 21 = some (21, .ifCond .le 5, 3, 26, 0, 0) := by decide +kernel
theorem f_288_24 : ftc (PT 288) 24 = some (24, .iconst 0, 1, 0, 0, 0) := by decide +kernel
theorem f_288_25 : ftc (PT 288) 25 = some (25, .ireturn, 1, 0, 0, 0) := by decide +kernel
theorem f_288_26 : ftc (PT 288) 26 = some (26, .aload_n 0, 1, 0, 0, 0) := by decide +kernel
theorem f_288_27 : ftc (PT 288) 27 = some (27, .iload_n 2, 1, 0, 0, 0) := by decide +kernel
theorem f_288_28 : ftc (PT 288) 28 = some (28, .iload_n 3, 1, 0, 0, 0) := by decide +kernel
theorem f_288_29 : ftc (PT 288) 29 = some (29, .iload 4, 2, 0, 0, 0) := by decide +kernel
theorem f_288_31 : ftc (PT 288) 31 = some (31, .invokevirtual 301, 3, 283, 4204, 2050) := by decide +kernel
theorem f_288_34 : ftc (PT 288) 34 = some (34, .aload_n 0, 1, 0, 0, 0) := by decide +kernel
theorem f_288_35 : ftc (PT 288) 35 = some (35, .invokevirtual 305, 3, 284, 1036, 2054) := by decide +kernel
theorem f_288_38 : ftc (PT 288) 38 = some (38, .ireturn, 1, 0, 0, 0) := by decide +kernel
theorem f_289_18 : ftc (PT 289) 18 = some (18, .ifCond .eq 26, 3, 44, 0, 0) := by decide +kernel
theorem f_289_21 : ftc (PT 289) 21 = some (21, .iload 5, 2, 0, 0, 0) := by decide +kernel
theorem f_289_23 : ftc (PT 289) 23 = some (23, .bipush (-99), 2, 0, 0, 0) := by decide +kernel
theorem f_289_25 : ftc (PT 289) 25 = some (25, .bipush 99, 2, 0, 0, 0) := by decide +kernel
theorem f_289_27 : ftc (PT 289) 27 = some (27, .invokestatic 62, 3, 208, 3075, 1624) := by decide +kernel
theorem f_289_30 : ftc (PT 289) 30 = some (30, .ifCond .eq 14, 3, 44, 0, 0) := by decide +kernel
theorem f_289_33 : ftc (PT 289) 33 = some (33, .iload 6, 2, 0, 0, 0) := by decide +kernel
theorem f_289_35 : ftc (PT 289) 35 = some (35, .iconst 1, 1, 0, 0, 0) := by decide +kernel
theorem f_289_36 : ftc (PT 289) 36 = some (36, .bipush 20, 2, 0, 0, 0) := by decide +kernel
theorem f_289_38 : ftc (PT 289) 38 = some (38, .invokestatic 62, 3, 208, 3075, 1624) := by decide +kernel
theorem f_289_41 : ftc (PT 289) 41 = some (41, .ifCond .ne 7, 3, 48, 0, 0) := by decide +kernel
theorem f_289_44 : ftc (PT 289) 44 = some (44, .iconst 2, 1, 0, 0, 0) := by decide +kernel
theorem f_289_45 : ftc (PT 289) 45 = some (45, .goto 17, 3, 62, 0, 0) := by decide +kernel
theorem f_289_48 : ftc (PT 289) 48 = some (48, .aload_n 0, 1, 0, 0, 0) := by decide +kernel
theorem f_289_49 : ftc (PT 289) 49 = some (49, .iload_n 1, 1, 0, 0, 0) := by decide +kernel
theorem f_289_50 : ftc (PT 289) 50 = some (50, .iload_n 2, 1, 0, 0, 0) := by decide +kernel
theorem f_289_51 : ftc (PT 289) 51 = some (51, .invokevirtual 271, 3, 274, 3148, 2015) := by decide +kernel
theorem f_289_54 : ftc (PT 289) 54 = some (54, .ifCond .ne 7, 3, 61, 0, 0) := by decide +kernel
theorem f_289_57 : ftc (PT 289) 57 = some (57, .iconst 3, 1, 0, 0, 0) := by decide +kernel
theorem f_289_58 : ftc (PT 289) 58 = some (58, .goto 4, 3, 62, 0, 0) := by decide +kernel
theorem f_289_61 : ftc (PT 289) 61 = some (61, .iconst 0, 1, 0, 0, 0) := by decide +kernel
theorem f_289_62 : ftc (PT 289) 62 = some (62, .istore 7, 2, 0, 0, 0) := by decide +kernel
theorem f_289_64 : ftc (PT 289) 64 = some (64, .iload 7, 2, 0, 0, 0) := by decide +kernel
theorem f_289_66 : ftc (PT 289) 66 = some (66, .ifCond .le 6, 3, 72, 0, 0) := by decide +kernel
theorem f_289_69 : ftc (PT 289) 69 = some (69, .iload 7, 2, 0, 0, 0) := by decide +kernel
theorem f_289_71 : ftc (PT 289) 71 = some (71, .ireturn, 1, 0, 0, 0) := by decide +kernel
theorem f_289_72 : ftc (PT 289) 72 = some (72, .aload_n 0, 1, 0, 0, 0) := by decide +kernel
theorem f_289_73 : ftc (PT 289) 73 = some (73, .invokevirtual 275, 3, 276, 1036, 2023) := by decide +kernel
theorem f_289_76 : ftc (PT 289) 76 = some (76, .aload_n 0, 1, 0, 0, 0) := by decide +kernel
theorem f_289_77 : ftc (PT 289) 77 = some (77, .iload_n 2, 1, 0, 0, 0) := by decide +kernel
theorem f_289_78 : ftc (PT 289) 78 = some (78, .iload 5, 2, 0, 0, 0) := by decide +kernel
theorem f_289_80 : ftc (PT 289) 80 = some (80, .i2l, 1, 0, 0, 0) := by decide +kernel
theorem f_289_81 : ftc (PT 289) 81 = some (81, .iload 6, 2, 0, 0, 0) := by decide +kernel
theorem f_289_83 : ftc (PT 289) 83 = some (83, .i2l, 1, 0, 0, 0) := by decide +kernel
theorem f_289_84 : ftc (PT 289) 84 = some (84, .invokevirtual 316, 3, 290, 14444, 2078) := by decide +kernel
theorem f_289_87 : ftc (PT 289) 87 = some (87, .aload_n 0, 1, 0, 0, 0) := by decide +kernel
theorem f_289_88 : ftc (PT 289) 88 = some (88, .iconst 0, 1, 0, 0, 0) := by decide +kernel
theorem f_289_89 : ftc (PT 289) 89 = some (89, .iload_n 3, 1, 0, 0, 0) := by decide +kernel
theorem f_289_90 : ftc (PT 289) 90 = some (90, .i2l, 1, 0, 0, 0) := by decide +kernel
theorem f_289_91 : ftc (PT 289) 91 = some (91, .iload 4, 2, 0, 0, 0) := by decide +kernel
theorem f_289_93 : ftc (PT 289) 93 = some (93, .i2l, 1, 0, 0, 0) := by decide +kernel
theorem f_289_94 : ftc (PT 289) 94 = some (94, .invokevirtual 143, 3, 229, 18540, 1837) := by decide +kernel
theorem f_289_97 : ftc (PT 289) 97 = some (97, .aload_n 0, 1, 0, 0, 0) := by decide +kernel
theorem f_289_98 : ftc (PT 289) 98 = some (98, .invokevirtual 189, 3, 252, 9228, 1924) := by decide +kernel
theorem f_289_101 : ftc (PT 289) 101 = some (101, .ifCond .eq 18, 3, 119, 0, 0) := by decide +kernel
theorem f_289_104 : ftc (PT 289) 104 = some (104, .iload_n 2, 1, 0, 0, 0) := by decide +kernel
theorem f_289_105 : ftc (PT 289) 105 = some (105, .ifCond .ne 10, 3, 115, 0, 0) := by decide +kernel
theorem f_289_108 : ftc (PT 289) 108 = some (108, .aload_n 0, 1, 0, 0, 0) := by decide +kernel
theorem f_289_109 : ftc (PT 289) 109 = some (109, .invokevirtual 268, 3, 275, 1036, 2019) := by decide +kernel
theorem f_289_112 : ftc (PT 289) 112 = some (112, .ifCond .ne 7, 3, 119, 0, 0) := by decide +kernel
theorem f_289_115 : ftc (PT 289) 115 = some (115, .iconst 0, 1, 0, 0, 0) := by decide +kernel
theorem f_289_116 : ftc (PT 289) 116 = some (116, .goto 4, 3, 120, 0, 0) := by decide +kernel
theorem f_289_119 : ftc (PT 289) 119 = some (119, .iconst 3, 1, 0, 0, 0) := by decide +kernel
theorem f_289_120 : ftc (PT 289) 120 = some (120, .ireturn, 1, 0, 0, 0) := by decide +kernel
theorem f_290_0 : ftc (PT 290) 0 = some (0, .aload_n 0, 1, 0, 0, 0) := by decide +kernel
theorem f_290_1 : ftc (PT 290) 1 = some (1, .getfield 114, 3, 12, 10, 1646) := by decide +kernel
theorem f_290_4 : ftc (PT 290) 4 = some (4, .lstore 6, 2, 0, 0, 0) := by decide +kernel
theorem f_290_6 : ftc (PT 290) 6 = some (6, .aload_n 0, 1, 0, 0, 0) := by decide +kernel
theorem f_290_7 : ftc (PT 290) 7 = some (7, .getfield 117, 3, 12, 11, 1647) := by decide +kernel
theorem f_290_10 : ftc (PT 290) 10 = some (10, .lstore 8, 2, 0, 0, 0) := by decide +kernel
theorem f_290_12 : ftc (PT 290) 12 = some (12, .aload_n 0, 1, 0, 0, 0) := by decide +kernel
theorem f_290_13 : ftc (PT 290) 13 = some (13, .getfield 120, 3, 12, 12, 1648) := by decide +kernel
theorem f_290_16 : ftc (PT 290) 16 = some (16, .lstore 10, 2, 0, 0, 0) := by decide +kernel
theorem f_290_18 : ftc (PT 290) 18 = some (18, .aload_n 0, 1, 0, 0, 0) := by decide +kernel
theorem f_290_19 : ftc (PT 290) 19 = some (19, .getfield 123, 3, 12, 13, 1649) := by decide +kernel
theorem f_290_22 : ftc (PT 290) 22 = some (22, .lstore 12, 2, 0, 0, 0) := by decide +kernel
theorem f_290_24 : ftc (PT 290) 24 = some (24, .iload_n 1, 1, 0, 0, 0) := by decide +kernel
theorem f_290_25 : ftc (PT 290) 25 = some (25, .ifCond .eq 40, 3, 65, 0, 0) := by decide +kernel
theorem f_290_28 : ftc (PT 290) 28 = some (28, .aload_n 0, 1, 0, 0, 0) := by decide +kernel
theorem f_290_29 : ftc (PT 290) 29 = some (29, .lload 4, 2, 0, 0, 0) := by decide +kernel
theorem f_290_31 : ftc (PT 290) 31 = some (31, .lload 6, 2, 0, 0, 0) := by decide +kernel
theorem f_290_33 : ftc (PT 290) 33 = some (33, .lmul, 1, 0, 0, 0) := by decide +kernel
theorem f_290_34 : ftc (PT 290) 34 = some (34, .lload_n 2, 1, 0, 0, 0) := by decide +kernel
theorem f_290_35 : ftc (PT 290) 35 = some (35, .lload 12, 2, 0, 0, 0) := by decide +kernel
theorem f_290_37 : ftc (PT 290) 37 = some (37, .lmul, 1, 0, 0, 0) := by decide +kernel
theorem f_290_38 : ftc (PT 290) 38 = some (38, .lsub, 1, 0, 0, 0) := by decide +kernel
theorem f_290_39 : ftc (PT 290) 39 = some (39, .lload 4, 2, 0, 0, 0) := by decide +kernel
theorem f_290_41 : ftc (PT 290) 41 = some (41, .lload 8, 2, 0, 0, 0) := by decide +kernel
theorem f_290_43 : ftc (PT 290) 43 = some (43, .lmul, 1, 0, 0, 0) := by decide +kernel
theorem f_290_44 : ftc (PT 290) 44 = some (44, .lload_n 2, 1, 0, 0, 0) := by decide +kernel
theorem f_290_45 : ftc (PT 290) 45 = some (45, .lload 10, 2, 0, 0, 0) := by decide +kernel
theorem f_290_47 : ftc (PT 290) 47 = some (47, .lmul, 1, 0, 0, 0) := by decide +kernel
theorem f_290_48 : ftc (PT 290) 48 = some (48, .ladd, 1, 0, 0, 0) := by decide +kernel
theorem f_290_49 : ftc (PT 290) 49 = some (49, .lload 4, 2, 0, 0, 0) := by decide +kernel
theorem f_290_51 : ftc (PT 290) 51 = some (51, .lload 10, 2, 0, 0, 0) := by decide +kernel
theorem f_290_53 : ftc (PT 290) 53 = some (53, .lmul, 1, 0, 0, 0) := by decide +kernel
theorem f_290_54 : ftc (PT 290) 54 = some (54, .lload 4, 2, 0, 0, 0) := by decide +kernel
theorem f_290_56 : ftc (PT 290) 56 = some (56, .lload 12, 2, 0, 0, 0) := by decide +kernel
theorem f_290_58 : ftc (PT 290) 58 = some (58, .lmul, 1, 0, 0, 0) := by decide +kernel
theorem f_290_59 : ftc (PT 290) 59 = some (59, .invokevirtual 129, 3, 228, 11404, 1833) := by decide +kernel
theorem f_290_62 : ftc (PT 290) 62 = some (62, .goto 37, 3, 99, 0, 0) := by decide +kernel
theorem f_290_65 : ftc (PT 290) 65 = some (65, .aload_n 0, 1, 0, 0, 0) := by decide +kernel
theorem f_290_66 : ftc (PT 290) 66 = some (66, .lload 4, 2, 0, 0, 0) := by decide +kernel
theorem f_290_68 : ftc (PT 290) 68 = some (68, .lload 6, 2, 0, 0, 0) := by decide +kernel
theorem f_290_70 : ftc (PT 290) 70 = some (70, .lmul, 1, 0, 0, 0) := by decide +kernel
theorem f_290_71 : ftc (PT 290) 71 = some (71, .lload 4, 2, 0, 0, 0) := by decide +kernel
theorem f_290_73 : ftc (PT 290) 73 = some (73, .lload 8, 2, 0, 0, 0) := by decide +kernel
theorem f_290_75 : ftc (PT 290) 75 = some (75, .lmul, 1, 0, 0, 0) := by decide +kernel
theorem f_290_76 : ftc (PT 290) 76 = some (76, .lload 4, 2, 0, 0, 0) := by decide +kernel
theorem f_290_78 : ftc (PT 290) 78 = some (78, .lload 10, 2, 0, 0, 0) := by decide +kernel
theorem f_290_80 : ftc (PT 290) 80 = some (80, .lmul, 1, 0, 0, 0) := by decide +kernel
theorem f_290_81 : ftc (PT 290) 81 = some (81, .lload_n 2, 1, 0, 0, 0) := by decide +kernel
theorem f_290_82 : ftc (PT 290) 82 = some (82, .lload 8, 2, 0, 0, 0) := by decide +kernel
theorem f_290_84 : ftc (PT 290) 84 = some (84, .lmul, 1, 0, 0, 0) := by decide +kernel
theorem f_290_85 : ftc (PT 290) 85 = some (85, .lsub, 1, 0, 0, 0) := by decide +kernel
theorem f_290_86 : ftc (PT 290) 86 = some (86, .lload 4, 2, 0, 0, 0) := by decide +kernel
theorem f_290_88 : ftc (PT 290) 88 = some (88, .lload 12, 2, 0, 0, 0) := by decide +kernel
theorem f_290_90 : ftc (PT 290) 90 = some (90, .lmul, 1, 0, 0, 0) := by decide +kernel
theorem f_290_91 : ftc (PT 290) 91 = some (91, .lload_n 2, 1, 0, 0, 0) := by decide +kernel
theorem f_290_92 : ftc (PT 290) 92 = some (92, .lload 6, 2, 0, 0, 0) := by decide +kernel
theorem f_290_94 : ftc (PT 290) 94 = some (94, .lmul, 1, 0, 0, 0) := by decide +kernel
theorem f_290_95 : ftc (PT 290) 95 = some (95, .ladd, 1, 0, 0, 0) := by decide +kernel
theorem f_290_96 : ftc (PT 290) 96 = some (96, .invokevirtual 129, 3, 228, 11404, 1833) := by decide +kernel
theorem f_290_99 : ftc (PT 290) 99 = some (99, .return_, 1, 0, 0, 0) := by decide +kernel
theorem f_291_14 : ftc (PT 291) 14 = some (14, .putfield 55, 3, 12, 0, 1636) := by decide +kernel
theorem f_291_17 : ftc (PT 291) 17 = some (17, .aload_n 0, 1, 0, 0, 0) := by decide +kernel
theorem f_291_18 : ftc (PT 291) 18 = some (18, .getfield 55, 3, 12, 0, 1636) := by decide +kernel
theorem f_291_21 : ftc (PT 291) 21 = some (21, .ifCond .le 7, 3, 28, 0, 0) := by decide +kernel
theorem f_291_24 : ftc (PT 291) 24 = some (24, .lconst 0, 1, 0, 0, 0) := by decide +kernel
theorem f_291_25 : ftc (PT 291) 25 = some (25, .goto 17, 3, 42, 0, 0) := by decide +kernel
theorem f_291_28 : ftc (PT 291) 28 = some (28, .aload_n 0, 1, 0, 0, 0) := by decide +kernel
theorem f_291_29 : ftc (PT 291) 29 = some (29, .iload_n 2, 1, 0, 0, 0) := by decide +kernel
theorem f_291_30 : ftc (PT 291) 30 = some (30, .iload_n 3, 1, 0, 0, 0) := by decide +kernel
theorem f_291_31 : ftc (PT 291) 31 = some (31, .iload 4, 2, 0, 0, 0) := by decide +kernel
theorem f_291_33 : ftc (PT 291) 33 = some (33, .iload 7, 2, 0, 0, 0) := by decide +kernel
theorem f_291_35 : ftc (PT 291) 35 = some (35, .iload 8, 2, 0, 0, 0) := by decide +kernel
theorem f_291_37 : ftc (PT 291) 37 = some (37, .iload 9, 2, 0, 0, 0) := by decide +kernel
theorem f_291_39 : ftc (PT 291) 39 = some (39, .invokevirtual 312, 3, 286, 7372, 2062) := by decide +kernel
theorem f_291_42 : ftc (PT 291) 42 = some (42, .lreturn, 1, 0, 0, 0) := by decide +kernel
theorem f_292_10 : ftc (PT 292) 10 = some (10, .putfield 55, 3, 12, 0, 1636) := by decide +kernel
theorem f_292_13 : ftc (PT 292) 13 = some (13, .aload_n 0, 1, 0, 0, 0) := by decide +kernel
theorem f_292_14 : ftc (PT 292) 14 = some (14, .getfield 55, 3, 12, 0, 1636) := by decide +kernel
theorem f_292_17 : ftc (PT 292) 17 = some (17, .ifCond .le 5, 3, 22, 0, 0) := by decide +kernel
theorem f_292_20 : ftc (PT 292) 20 = some (20, .iconst 0, 1, 0, 0, 0) := by decide +kernel
theorem f_292_21 : ftc (PT 292) 21 = some (21, .ireturn, 1, 0, 0, 0) := by decide +kernel
theorem f_292_22 : ftc (PT 292) 22 = some (22, .iconst 0, 1, 0, 0, 0) := by decide +kernel
theorem f_292_23 : ftc (PT 292) 23 = some (23, .istore 6, 2, 0, 0, 0) := by decide +kernel
theorem f_292_25 : ftc (PT 292) 25 = some (25, .iload 6, 2, 0, 0, 0) := by decide +kernel
theorem f_292_27 : ftc (PT 292) 27 = some (27, .aload_n 0, 1, 0, 0, 0) := by decide +kernel
theorem f_292_28 : ftc (PT 292) 28 = some (28, .getfield 74, 3, 12, 7, 1643) := by decide +kernel
theorem f_292_31 : ftc (PT 292) 31 = some (31, .if_icmp .ge 68, 3, 99, 0, 0) := by decide +kernel
theorem f_292_34 : ftc (PT 292) 34 = some (34, .aload_n 0, 1, 0, 0, 0) := by decide +kernel
theorem f_292_35 : ftc (PT 292) 35 = some (35, .invokevirtual 275, 3, 276, 1036, 2023) := by decide +kernel
theorem f_292_38 : ftc (PT 292) 38 = some (38, .aload_n 0, 1, 0, 0, 0) := by decide +kernel
theorem f_292_39 : ftc (PT 292) 39 = some (39, .iconst 0, 1, 0, 0, 0) := by decide +kernel
theorem f_292_40 : ftc (PT 292) 40 = some (40, .aload_n 0, 1, 0, 0, 0) := by decide +kernel
theorem f_292_41 : ftc (PT 292) 41 = some (41, .getfield 16, 3, 12, 5, 1641) := by decide +kernel
theorem f_292_44 : ftc (PT 292) 44 = some (44, .iload 6, 2, 0, 0, 0) := by decide +kernel
theorem f_292_46 : ftc (PT 292) 46 = some (46, .iaload, 1, 0, 0, 0) := by decide +kernel
theorem f_292_47 : ftc (PT 292) 47 = some (47, .i2l, 1, 0, 0, 0) := by decide +kernel
theorem f_292_48 : ftc (PT 292) 48 = some (48, .aload_n 0, 1, 0, 0, 0) := by decide +kernel
theorem f_292_49 : ftc (PT 292) 49 = some (49, .getfield 19, 3, 12, 6, 1642) := by decide +kernel
theorem f_292_52 : ftc (PT 292) 52 = some (52, .iload 6, 2, 0, 0, 0) := by decide +kernel
theorem f_292_54 : ftc (PT 292) 54 = some (54, .iaload, 1, 0, 0, 0) := by decide +kernel
theorem f_292_55 : ftc (PT 292) 55 = some (55, .i2l, 1, 0, 0, 0) := by decide +kernel
theorem f_292_56 : ftc (PT 292) 56 = some (56, .invokevirtual 143, 3, 229, 18540, 1837) := by decide +kernel
theorem f_292_59 : ftc (PT 292) 59 = some (59, .aload_n 0, 1, 0, 0, 0) := by decide +kernel
theorem f_292_60 : ftc (PT 292) 60 = some (60, .iload_n 2, 1, 0, 0, 0) := by decide +kernel
theorem f_292_61 : ftc (PT 292) 61 = some (61, .iload_n 3, 1, 0, 0, 0) := by decide +kernel
theorem f_292_62 : ftc (PT 292) 62 = some (62, .iload 4, 2, 0, 0, 0) := by decide +kernel
theorem f_292_64 : ftc (PT 292) 64 = some (64, .invokevirtual 327, 3, 294, 8300, 2094) := by decide +kernel
theorem f_292_67 : ftc (PT 292) 67 = some (67, .ifCond .ne 26, 3, 93, 0, 0) := by decide +kernel
theorem f_292_70 : ftc (PT 292) 70 = some (70, .iload 5, 2, 0, 0, 0) := by decide +kernel
theorem f_292_72 : ftc (PT 292) 72 = some (72, .ifCond .eq 13, 3, 85, 0, 0) := by decide +kernel
theorem f_292_75 : ftc (PT 292) 75 = some (75, .aload_n 0, 1, 0, 0, 0) := by decide +kernel
theorem f_292_76 : ftc (PT 292) 76 = some (76, .getfield 19, 3, 12, 6, 1642) := by decide +kernel
theorem f_292_79 : ftc (PT 292) 79 = some (79, .iload 6, 2, 0, 0, 0) := by decide +kernel
theorem f_292_81 : ftc (PT 292) 81 = some (81, .iaload, 1, 0, 0, 0) := by decide +kernel
theorem f_292_82 : ftc (PT 292) 82 = some (82, .goto 10, 3, 92, 0, 0) := by decide +kernel
theorem f_292_85 : ftc (PT 292) 85 = some (85, .aload_n 0, 1, 0, 0, 0) := by decide +kernel
theorem f_292_86 : ftc (PT 292) 86 = some (86, .getfield 16, 3, 12, 5, 1641) := by decide +kernel
theorem f_292_89 : ftc (PT 292) 89 = some (89, .iload 6, 2, 0, 0, 0) := by decide +kernel
theorem f_292_91 : ftc (PT 292) 91 = some (91, .iaload, 1, 0, 0, 0) := by decide +kernel
theorem f_292_92 : ftc (PT 292) 92 = some (92, .ireturn, 1, 0, 0, 0) := by decide +kernel
theorem f_292_93 : ftc (PT 292) 93 = some (93, .iinc 6 1, 3, 0, 0, 0) := by decide +kernel
theorem f_292_96 : ftc (PT 292) 96 = some (96, .goto (-71), 3, 25, 0, 0) := by decide +kernel
theorem f_292_99 : ftc (PT 292) 99 = some (99, .aload_n 0, 1, 0, 0, 0) := by decide +kernel
theorem f_292_100 : ftc (PT 292) 100 = some (100, .iconst 3, 1, 0, 0, 0) := by decide +kernel
theorem f_292_101 : ftc (PT 292) 101 = some (101, .putfield 55, 3, 12, 0, 1636) := by decide +kernel
theorem f_292_104 : ftc (PT 292) 104 = some (104, .iconst 0, 1, 0, 0, 0) := by decide +kernel
theorem f_292_105 : ftc (PT 292) 105 = some (105, .ireturn, 1, 0, 0, 0) := by decide +kernel
theorem f_293_9 : ftc (PT 293) 9 = some (9, .istore 5, 2, 0, 0, 0) := by decide +kernel
theorem f_293_11 : ftc (PT 293) 11 = some (11, .iload 5, 2, 0, 0, 0) := by decide +kernel
theorem f_293_13 : ftc (PT 293) 13 = some (13, .ifCond .le 8, 3, 21, 0, 0) := by decide +kernel
theorem f_293_16 : ftc (PT 293) 16 = some (16, .iload 5, 2, 0, 0, 0) := by decide +kernel
theorem f_293_18 : ftc (PT 293) 18 = some (18, .goto 17, 3, 35, 0, 0) := by decide +kernel
theorem f_293_21 : ftc (PT 293) 21 = some (21, .aload_n 0, 1, 0, 0, 0) := by decide +kernel
theorem f_293_22 : ftc (PT 293) 22 = some (22, .getfield 192, 3, 12, 14, 1650) := by decide +kernel
theorem f_293_25 : ftc (PT 293) 25 = some (25, .lconst 0, 1, 0, 0, 0) := by decide +kernel
theorem f_293_26 : ftc (PT 293) 26 = some (26, .lcmp, 1, 0, 0, 0) := by decide +kernel
theorem f_293_27 : ftc (PT 293) 27 = some (27, .ifCond .ne 7, 3, 34, 0, 0) := by decide +kernel
theorem f_293_30 : ftc (PT 293) 30 = some (30, .iconst 3, 1, 0, 0, 0) := by decide +kernel
theorem f_293_31 : ftc (PT 293) 31 = some (31, .goto 4, 3, 35, 0, 0) := by decide +kernel
theorem f_293_34 : ftc (PT 293) 34 = some (34, .iconst 0, 1, 0, 0, 0) := by decide +kernel
theorem f_293_35 : ftc (PT 293) 35 = some (35, .ireturn, 1, 0, 0, 0) := by decide +kernel
theorem f_294_0 : ftc (PT 294) 0 = some (0, .aload_n 0, 1, 0, 0, 0) := by decide +kernel
theorem f_294_1 : ftc (PT 294) 1 = some (1, .invokevirtual 278, 3, 277, 1036, 2027) := by decide +kernel
theorem f_294_4 : ftc (PT 294) 4 = some (4, .lstore 4, 2, 0, 0, 0) := by decide +kernel
theorem f_294_6 : ftc (PT 294) 6 = some (6, .aload_n 0, 1, 0, 0, 0) := by decide +kernel
theorem f_294_7 : ftc (PT 294) 7 = some (7, .iload_n 1, 1, 0, 0, 0) := by decide +kernel
theorem f_294_8 : ftc (PT 294) 8 = some (8, .invokevirtual 282, 3, 278, 2092, 2031) := by decide +kernel
theorem f_294_11 : ftc (PT 294) 11 = some (11, .lstore 6, 2, 0, 0, 0) := by decide +kernel
theorem f_294_13 : ftc (PT 294) 13 = some (13, .lload 4, 2, 0, 0, 0) := by decide +kernel
theorem f_294_15 : ftc (PT 294) 15 = some (15, .lconst 0, 1, 0, 0, 0) := by decide +kernel
theorem f_294_16 : ftc (PT 294) 16 = some (16, .lcmp, 1, 0, 0, 0) := by decide +kernel
theorem f_294_17 : ftc (PT 294) 17 = some (17, .ifCond .eq 32, 3, 49, 0, 0) := by decide +kernel
theorem f_294_20 : ftc (PT 294) 20 = some (20, .lload 6, 2, 0, 0, 0) := by decide +kernel
theorem f_294_22 : ftc (PT 294) 22 = some (22, .lconst 0, 1, 0, 0, 0) := by decide +kernel
theorem f_294_23 : ftc (PT 294) 23 = some (23, .lcmp, 1, 0, 0, 0) := by decide +kernel
theorem f_294_24 : ftc (PT 294) 24 = some (24, .ifCond .eq 25, 3, 49, 0, 0) := by decide +kernel
theorem f_294_27 : ftc (PT 294) 27 = some (27, .lload 4, 2, 0, 0, 0) := by decide +kernel
theorem f_294_29 : ftc (PT 294) 29 = some (29, .iload_n 2, 1, 0, 0, 0) := by decide +kernel
theorem f_294_30 : ftc (PT 294) 30 = some (30, .i2l, 1, 0, 0, 0) := by decide +kernel
theorem f_294_31 : ftc (PT 294) 31 = some (31, .lmul, 1, 0, 0, 0) := by decide +kernel
theorem f_294_32 : ftc (PT 294) 32 = some (32, .iload_n 2, 1, 0, 0, 0) := by decide +kernel
theorem f_294_33 : ftc (PT 294) 33 = some (33, .i2l, 1, 0, 0, 0) := by decide +kernel
theorem f_294_34 : ftc (PT 294) 34 = some (34, .lmul, 1, 0, 0, 0) := by decide +kernel
theorem f_294_35 : ftc (PT 294) 35 = some (35, .lload 6, 2, 0, 0, 0) := by decide +kernel
theorem f_294_37 : ftc (PT 294) 37 = some (37, .iload_n 2, 1, 0, 0, 0) := by decide +kernel
theorem f_294_38 : ftc (PT 294) 38 = some (38, .i2l, 1, 0, 0, 0) := by decide +kernel
theorem f_294_39 : ftc (PT 294) 39 = some (39, .iload_n 3, 1, 0, 0, 0) := by decide +kernel
theorem f_294_40 : ftc (PT 294) 40 = some (40, .i2l, 1, 0, 0, 0) := by decide +kernel
theorem f_294_41 : ftc (PT 294) 41 = some (41, .invokestatic 147, 3, 235, 4098, 1857) := by decide +kernel
theorem f_294_44 : ftc (PT 294) 44 = some (44, .lmul, 1, 0, 0, 0) := by decide +kernel
theorem f_294_45 : ftc (PT 294) 45 = some (45, .lcmp, 1, 0, 0, 0) := by decide +kernel
theorem f_294_46 : ftc (PT 294) 46 = some (46, .ifCond .le 7, 3, 53, 0, 0) := by decide +kernel
theorem f_294_49 : ftc (PT 294) 49 = some (49, .iconst 1, 1, 0, 0, 0) := by decide +kernel
theorem f_294_50 : ftc (PT 294) 50 = some (50, .goto 4, 3, 54, 0, 0) := by decide +kernel
theorem f_294_53 : ftc (PT 294) 53 = some (53, .iconst 0, 1, 0, 0, 0) := by decide +kernel
theorem f_294_54 : ftc (PT 294) 54 = some (54, .ireturn, 1, 1, 0, 0) := by decide +kernel
theorem f_295_49 : ftc (PT 295) 49 = some (49, .istore 6, 2, 0, 0, 0) := by decide +kernel
theorem f_295_51 : ftc (PT 295) 51 = some (51, .aload_n 0, 1, 0, 0, 0) := by decide +kernel
theorem f_295_52 : ftc (PT 295) 52 = some (52, .iload 6, 2, 0, 0, 0) := by decide +kernel
theorem f_295_54 : ftc (PT 295) 54 = some (54, .ifCond .le 10, 3, 64, 0, 0) := by decide +kernel
theorem f_295_57 : ftc (PT 295) 57 = some (57, .iload 6, 2, 0, 0, 0) := by decide +kernel
theorem f_295_59 : ftc (PT 295) 59 = some (59, .iconst 1, 1, 0, 0, 0) := by decide +kernel
theorem f_295_60 : ftc (PT 295) 60 = some (60, .iadd, 1, 0, 0, 0) := by decide +kernel
theorem f_295_61 : ftc (PT 295) 61 = some (61, .goto 4, 3, 65, 0, 0) := by decide +kernel
theorem f_295_64 : ftc (PT 295) 64 = some (64, .iconst 0, 1, 0, 0, 0) := by decide +kernel
theorem f_295_65 : ftc (PT 295) 65 = some (65, .putfield 55, 3, 12, 0, 1636) := by decide +kernel
theorem f_295_68 : ftc (PT 295) 68 = some (68, .aload_n 0, 1, 0, 0, 0) := by decide +kernel
theorem f_295_69 : ftc (PT 295) 69 = some (69, .getfield 55, 3, 12, 0, 1636) := by decide +kernel
theorem f_295_72 : ftc (PT 295) 72 = some (72, .ifCond .le 5, 3, 77, 0, 0) := by decide +kernel
theorem f_295_75 : ftc (PT 295) 75 = some (75, .iconst 0, 1, 0, 0, 0) := by decide +kernel
theorem f_295_76 : ftc (PT 295) 76 = some (76, .ireturn, 1, 0, 0, 0) := by decide +kernel
theorem f_295_77 : ftc (PT 295) 77 = some (77, .iconst 0, 1, 0, 0, 0) := by decide +kernel
theorem f_295_78 : ftc (PT 295) 78 = some (78, .istore 7, 2, 0, 0, 0) := by decide +kernel
theorem f_295_80 : ftc (PT 295) 80 = some (80, .iload 7, 2, 0, 0, 0) := by decide +kernel
theorem f_295_82 : ftc (PT 295) 82 = some (82, .aload_n 0, 1, 0, 0, 0) := by decide +kernel
theorem f_295_83 : ftc (PT 295) 83 = some (83, .getfield 74, 3, 12, 7, 1643) := by decide +kernel
theorem f_295_86 : ftc (PT 295) 86 = some (86, .if_icmp .ge 83, 3, 169, 0, 0) := by decide +kernel
theorem f_295_89 : ftc (PT 295) 89 = some (89, .aload_n 0, 1, 0, 0, 0) := by decide +kernel
theorem f_295_90 : ftc (PT 295) 90 = some (90, .iload_n 2, 1, 0, 0, 0) := by decide +kernel
theorem f_295_91 : ftc (PT 295) 91 = some (91, .iload_n 3, 1, 0, 0, 0) := by decide +kernel
theorem f_295_92 : ftc (PT 295) 92 = some (92, .iload 4, 2, 0, 0, 0) := by decide +kernel
theorem f_295_94 : ftc (PT 295) 94 = some (94, .iload 7, 2, 0, 0, 0) := by decide +kernel
theorem f_295_96 : ftc (PT 295) 96 = some (96, .iconst 1, 1, 0, 0, 0) := by decide +kernel
theorem f_295_97 : ftc (PT 295) 97 = some (97, .invokevirtual 331, 3, 296, 6316, 2102) := by decide +kernel
theorem f_295_100 : ftc (PT 295) 100 = some (100, .istore 8, 2, 0, 0, 0) := by decide +kernel
theorem f_295_102 : ftc (PT 295) 102 = some (102, .iload 8, 2, 0, 0, 0) := by decide +kernel
theorem f_295_104 : ftc (PT 295) 104 = some (104, .ifCond .ne 17, 3, 121, 0, 0) := by decide +kernel
theorem f_295_107 : ftc (PT 295) 107 = some (107, .aload_n 0, 1, 0, 0, 0) := by decide +kernel
theorem f_295_108 : ftc (PT 295) 108 = some (108, .iload_n 2, 1, 0, 0, 0) := by decide +kernel
theorem f_295_109 : ftc (PT 295) 109 = some (109, .iload_n 3, 1, 0, 0, 0) := by decide +kernel
theorem f_295_110 : ftc (PT 295) 110 = some (110, .iload 4, 2, 0, 0, 0) := by decide +kernel
theorem f_295_112 : ftc (PT 295) 112 = some (112, .iload 7, 2, 0, 0, 0) := by decide +kernel
theorem f_295_114 : ftc (PT 295) 114 = some (114, .iconst 0, 1, 0, 0, 0) := by decide +kernel
theorem f_295_115 : ftc (PT 295) 115 = some (115, .invokevirtual 331, 3, 296, 6316, 2102) := by decide +kernel
theorem f_295_118 : ftc (PT 295) 118 = some (118, .ifCond .eq 45, 3, 163, 0, 0) := by decide +kernel
theorem f_295_121 : ftc (PT 295) 121 = some (121, .iload 5, 2, 0, 0, 0) := by decide +kernel
theorem f_295_123 : ftc (PT 295) 123 = some (123, .ifCond .ne 13, 3, 136, 0, 0) := by decide +kernel
theorem f_295_126 : ftc (PT 295) 126 = some (126, .aload_n 0, 1, 0, 0, 0) := by decide +kernel
theorem f_295_127 : ftc (PT 295) 127 = some (127, .getfield 16, 3, 12, 5, 1641) := by decide +kernel
theorem f_295_130 : ftc (PT 295) 130 = some (130, .iload 7, 2, 0, 0, 0) := by decide +kernel
theorem f_295_132 : ftc (PT 295) 132 = some (132, .iaload, 1, 0, 0, 0) := by decide +kernel
theorem f_295_133 : ftc (PT 295) 133 = some (133, .goto 29, 3, 162, 0, 0) := by decide +kernel
theorem f_295_136 : ftc (PT 295) 136 = some (136, .iload 5, 2, 0, 0, 0) := by decide +kernel
theorem f_295_138 : ftc (PT 295) 138 = some (138, .iconst 1, 1, 0, 0, 0) := by decide +kernel
theorem f_295_139 : ftc (PT 295) 139 = some (139, .if_icmp .ne 13, 3, 152, 0, 0) := by decide +kernel
theorem f_295_142 : ftc (PT 295) 142 = some (142, .aload_n 0, 1, 0, 0, 0) := by decide +kernel
theorem f_295_143 : ftc (PT 295) 143 = some (143, .getfield 19, 3, 12, 6, 1642) := by decide +kernel
theorem f_295_146 : ftc (PT 295) 146 = some (146, .iload 7, 2, 0, 0, 0) := by decide +kernel
theorem f_295_148 : ftc (PT 295) 148 = some (148, .iaload, 1, 0, 0, 0) := by decide +kernel
theorem f_295_149 : ftc (PT 295) 149 = some (149, .goto 13, 3, 162, 0, 0) := by decide +kernel
theorem f_295_152 : ftc (PT 295) 152 = some (152, .iload 8, 2, 0, 0, 0) := by decide +kernel
theorem f_295_154 : ftc (PT 295) 154 = some (154, .ifCond .eq 7, 3, 161, 0, 0) := by decide +kernel
theorem f_295_157 : ftc (PT 295) 157 = some (157, .iconst 1, 1, 0, 0, 0) := by decide +kernel
theorem f_295_158 : ftc (PT 295) 158 = some (158, .goto 4, 3, 162, 0, 0) := by decide +kernel
theorem f_295_161 : ftc (PT 295) 161 = some (161, .iconst 0, 1, 0, 0, 0) := by decide +kernel
theorem f_295_162 : ftc (PT 295) 162 = some (162, .ireturn, 1, 0, 0, 0) := by decide +kernel
theorem f_295_163 : ftc (PT 295) 163 = some (163, .iinc 7 1, 3, 0, 0, 0) := by decide +kernel
theorem f_295_166 : ftc (PT 295) 166 = some (166, .goto (-86), 3, 80, 0, 0) := by decide +kernel
theorem f_295_169 : ftc (PT 295) 169 = some (169, .aload_n 0, 1, 0, 0, 0) := by decide +kernel
theorem f_295_170 : ftc (PT 295) 170 = some (170, .iconst 4, 1, 0, 0, 0) := by decide +kernel
theorem f_295_171 : ftc (PT 295) 171 = some (171, .putfield 55, 3, 12, 0, 1636) := by decide +kernel
theorem f_295_174 : ftc (PT 295) 174 = some (174, .iconst 0, 1, 0, 0, 0) := by decide +kernel
theorem f_295_175 : ftc (PT 295) 175 = some (175, .ireturn, 1, 0, 0, 0) := by decide +kernel
theorem f_296_0 : ftc (PT 296) 0 = some (0, .aload_n 0, 1, 0, 0, 0) := by decide +kernel
theorem f_296_1 : ftc (PT 296) 1 = some (1, .invokevirtual 275, 3, 276, 1036, 2023) := by decide +kernel
theorem f_296_4 : ftc (PT 296) 4 = some (4, .aload_n 0, 1, 0, 0, 0) := by decide +kernel
theorem f_296_5 : ftc (PT 296) 5 = some (5, .iload_n 1, 1, 0, 0, 0) := by decide +kernel
theorem f_296_6 : ftc (PT 296) 6 = some (6, .ifCond .eq 16, 3, 22, 0, 0) := by decide +kernel
theorem f_296_9 : ftc (PT 296) 9 = some (9, .iload 5, 2, 0, 0, 0) := by decide +kernel
theorem f_296_11 : ftc (PT 296) 11 = some (11, .ifCond .eq 7, 3, 18, 0, 0) := by decide +kernel
theorem f_296_14 : ftc (PT 296) 14 = some (14, .iconst 3, 1, 0, 0, 0) := by decide +kernel
theorem f_296_15 : ftc (PT 296) 15 = some (15, .goto 17, 3, 32, 0, 0) := by decide +kernel
theorem f_296_18 : ftc (PT 296) 18 = some (18, .iconst 4, 1, 0, 0, 0) := by decide +kernel
theorem f_296_19 : ftc (PT 296) 19 = some (19, .goto 13, 3, 32, 0, 0) := by decide +kernel
theorem f_296_22 : ftc (PT 296) 22 = some (22, .iload 5, 2, 0, 0, 0) := by decide +kernel
theorem f_296_24 : ftc (PT 296) 24 = some (24, .ifCond .eq 7, 3, 31, 0, 0) := by decide +kernel
theorem f_296_27 : ftc (PT 296) 27 = some (27, .iconst 1, 1, 0, 0, 0) := by decide +kernel
theorem f_296_28 : ftc (PT 296) 28 = some (28, .goto 4, 3, 32, 0, 0) := by decide +kernel
theorem f_296_31 : ftc (PT 296) 31 = some (31, .iconst 2, 1, 0, 0, 0) := by decide +kernel
theorem f_296_32 : ftc (PT 296) 32 = some (32, .aload_n 0, 1, 0, 0, 0) := by decide +kernel
theorem f_296_33 : ftc (PT 296) 33 = some (33, .getfield 16, 3, 12, 5, 1641) := by decide +kernel
theorem f_296_36 : ftc (PT 296) 36 = some (36, .iload 4, 2, 0, 0, 0) := by decide +kernel
theorem f_296_38 : ftc (PT 296) 38 = some (38, .iaload, 1, 0, 0, 0) := by decide +kernel
theorem f_296_39 : ftc (PT 296) 39 = some (39, .i2l, 1, 0, 0, 0) := by decide +kernel
theorem f_296_40 : ftc (PT 296) 40 = some (40, .aload_n 0, 1, 0, 0, 0) := by decide +kernel
theorem f_296_41 : ftc (PT 296) 41 = some (41, .getfield 19, 3, 12, 6, 1642) := by decide +kernel
theorem f_296_44 : ftc (PT 296) 44 = some (44, .iload 4, 2, 0, 0, 0) := by decide +kernel
theorem f_296_46 : ftc (PT 296) 46 = some (46, .iaload, 1, 0, 0, 0) := by decide +kernel
theorem f_296_47 : ftc (PT 296) 47 = some (47, .i2l, 1, 0, 0, 0) := by decide +kernel
theorem f_296_48 : ftc (PT 296) 48 = some (48, .invokevirtual 143, 3, 229, 18540, 1837) := by decide +kernel
theorem f_296_51 : ftc (PT 296) 51 = some (51, .aload_n 0, 1, 0, 0, 0) := by decide +kernel
theorem f_296_52 : ftc (PT 296) 52 = some (52, .iconst 0, 1, 0, 0, 0) := by decide +kernel
theorem f_296_53 : ftc (PT 296) 53 = some (53, .iload_n 2, 1, 0, 0, 0) := by decide +kernel
theorem f_296_54 : ftc (PT 296) 54 = some (54, .i2l, 1, 0, 0, 0) := by decide +kernel
theorem f_296_55 : ftc (PT 296) 55 = some (55, .iload_n 3, 1, 0, 0, 0) := by decide +kernel
theorem f_296_56 : ftc (PT 296) 56 = some (56, .i2l, 1, 0, 0, 0) := by decide +kernel
theorem f_296_57 : ftc (PT 296) 57 = some (57, .invokevirtual 143, 3, 229, 18540, 1837) := by decide +kernel
theorem f_296_60 : ftc (PT 296) 60 = some (60, .aload_n 0, 1, 0, 0, 0) := by decide +kernel
theorem f_296_61 : ftc (PT 296) 61 = some (61, .iload_n 1, 1, 0, 0, 0) := by decide +kernel
theorem f_296_62 : ftc (PT 296) 62 = some (62, .iload_n 2, 1, 0, 0, 0) := by decide +kernel
theorem f_296_63 : ftc (PT 296) 63 = some (63, .iload_n 3, 1, 0, 0, 0) := by decide +kernel
theorem f_296_64 : ftc (PT 296) 64 = some (64, .invokevirtual 327, 3, 294, 8300, 2094) := by decide +kernel
theorem f_296_67 : ftc (PT 296) 67 = some (67, .ifCond .ne 7, 3, 74, 0, 0) := by decide +kernel
theorem f_296_70 : ftc (PT 296) 70 = some (70, .iconst 1, 1, 0, 0, 0) := by decide +kernel
theorem f_296_71 : ftc (PT 296) 71 = some (71, .goto 4, 3, 75, 0, 0) := by decide +kernel
theorem f_296_74 : ftc (PT 296) 74 = some (74, .iconst 0, 1, 0, 0, 0) := by decide +kernel
theorem f_296_75 : ftc (PT 296) 75 = some (75, .ireturn, 1, 1, 0, 0) := by decide +kernel
theorem f_297_7 : ftc (PT 297) 7 = some (7, .putfield 55, 3, 12, 0, 1636) := by decide +kernel
theorem f_297_10 : ftc (PT 297) 10 = some (10, .aload_n 0, 1, 0, 0, 0) := by decide +kernel
theorem f_297_11 : ftc (PT 297) 11 = some (11, .getfield 55, 3, 12, 0, 1636) := by decide +kernel
theorem f_297_14 : ftc (PT 297) 14 = some (14, .ifCond .le 5, 3, 19, 0, 0) := by decide +kernel
theorem f_297_17 : ftc (PT 297) 17 = some (17, .iconst 0, 1, 0, 0, 0) := by decide +kernel
theorem f_297_18 : ftc (PT 297) 18 = some (18, .ireturn, 1, 0, 0, 0) := by decide +kernel
theorem f_297_19 : ftc (PT 297) 19 = some (19, .aload_n 0, 1, 0, 0, 0) := by decide +kernel
theorem f_297_20 : ftc (PT 297) 20 = some (20, .iload_n 2, 1, 0, 0, 0) := by decide +kernel
theorem f_297_21 : ftc (PT 297) 21 = some (21, .iconst 1, 1, 0, 0, 0) := by decide +kernel
theorem f_297_22 : ftc (PT 297) 22 = some (22, .iconst 0, 1, 0, 0, 0) := by decide +kernel
theorem f_297_23 : ftc (PT 297) 23 = some (23, .invokevirtual 301, 3, 283, 4204, 2050) := by decide +kernel
theorem f_297_26 : ftc (PT 297) 26 = some (26, .aload_n 0, 1, 0, 0, 0) := by decide +kernel
theorem f_297_27 : ftc (PT 297) 27 = some (27, .invokevirtual 305, 3, 284, 1036, 2054) := by decide +kernel
theorem f_297_30 : ftc (PT 297) 30 = some (30, .ireturn, 1, 0, 0, 0) := by decide +kernel
theorem f_298_18 : ftc (PT 298) 18 = some (18, .ifCond .ne 7, 3, 25, 0, 0) := by decide +kernel
theorem f_298_21 : ftc (PT 298) 21 = some (21, .iconst 2, 1, 0, 0, 0) := by decide +kernel
theorem f_298_22 : ftc (PT 298) 22 = some (22, .goto 4, 3, 26, 0, 0) := by decide +kernel
theorem f_298_25 : ftc (PT 298) 25 = some (25, .iconst 0, 1, 0, 0, 0) := by decide +kernel
theorem f_298_26 : ftc (PT 298) 26 = some (26, .ireturn, 1, 0, 0, 0) := by decide +kernel
theorem f_299_7 : ftc (PT 299) 7 = some (7, .putfield 55, 3, 12, 0, 1636) := by decide +kernel
theorem f_299_10 : ftc (PT 299) 10 = some (10, .aload_n 0, 1, 0, 0, 0) := by decide +kernel
theorem f_299_11 : ftc (PT 299) 11 = some (11, .getfield 55, 3, 12, 0, 1636) := by decide +kernel
theorem f_299_14 : ftc (PT 299) 14 = some (14, .ifCond .le 5, 3, 19, 0, 0) := by decide +kernel
theorem f_299_17 : ftc (PT 299) 17 = some (17, .lconst 0, 1, 0, 0, 0) := by decide +kernel
theorem f_299_18 : ftc (PT 299) 18 = some (18, .lreturn, 1, 0, 0, 0) := by decide +kernel
theorem f_299_19 : ftc (PT 299) 19 = some (19, .aload_n 0, 1, 0, 0, 0) := by decide +kernel
theorem f_299_20 : ftc (PT 299) 20 = some (20, .iload_n 2, 1, 0, 0, 0) := by decide +kernel
theorem f_299_21 : ftc (PT 299) 21 = some (21, .iconst 1, 1, 0, 0, 0) := by decide +kernel
theorem f_299_22 : ftc (PT 299) 22 = some (22, .iconst 0, 1, 0, 0, 0) := by decide +kernel
theorem f_299_23 : ftc (PT 299) 23 = some (23, .iload_n 3, 1, 0, 0, 0) := by decide +kernel
theorem f_299_24 : ftc (PT 299) 24 = some (24, .iload 4, 2, 0, 0, 0) := by decide +kernel
theorem f_299_26 : ftc (PT 299) 26 = some (26, .iload 5, 2, 0, 0, 0) := by decide +kernel
theorem f_299_28 : ftc (PT 299) 28 = some (28, .invokevirtual 312, 3, 286, 7372, 2062) := by decide +kernel
theorem f_299_31 : ftc (PT 299) 31 = some (31, .lstore 6, 2, 0, 0, 0) := by decide +kernel
theorem f_299_33 : ftc (PT 299) 33 = some (33, .aload_n 0, 1, 0, 0, 0) := by decide +kernel
theorem f_299_34 : ftc (PT 299) 34 = some (34, .aload_n 0, 1, 0, 0, 0) := by decide +kernel
theorem f_299_35 : ftc (PT 299) 35 = some (35, .getfield 55, 3, 12, 0, 1636) := by decide +kernel
theorem f_299_38 : ftc (PT 299) 38 = some (38, .ifCond .le 7, 3, 45, 0, 0) := by decide +kernel
theorem f_299_41 : ftc (PT 299) 41 = some (41, .iconst 2, 1, 0, 0, 0) := by decide +kernel
theorem f_299_42 : ftc (PT 299) 42 = some (42, .goto 4, 3, 46, 0, 0) := by decide +kernel
theorem f_299_45 : ftc (PT 299) 45 = some (45, .iconst 0, 1, 0, 0, 0) := by decide +kernel
theorem f_299_46 : ftc (PT 299) 46 = some (46, .putfield 55, 3, 12, 0, 1636) := by decide +kernel
theorem f_299_49 : ftc (PT 299) 49 = some (49, .lload 6, 2, 0, 0, 0) := by decide +kernel
theorem f_299_51 : ftc (PT 299) 51 = some (51, .lreturn, 1, 0, 0, 0) := by decide +kernel
theorem f_300_6 : ftc (PT 300) 6 = some (6, .putfield 55, 3, 12, 0, 1636) := by decide +kernel
theorem f_300_9 : ftc (PT 300) 9 = some (9, .aload_n 0, 1, 0, 0, 0) := by decide +kernel
theorem f_300_10 : ftc (PT 300) 10 = some (10, .getfield 55, 3, 12, 0, 1636) := by decide +kernel
theorem f_300_13 : ftc (PT 300) 13 = some (13, .ifCond .le 5, 3, 18, 0, 0) := by decide +kernel
theorem f_300_16 : ftc (PT 300) 16 = some (16, .lconst 0, 1, 0, 0, 0) := by decide +kernel
theorem f_300_17 : ftc (PT 300) 17 = some (17, .lreturn, 1, 0, 0, 0) := by decide +kernel
theorem f_300_18 : ftc (PT 300) 18 = some (18, .aload_n 0, 1, 0, 0, 0) := by decide +kernel
theorem f_300_19 : ftc (PT 300) 19 = some (19, .aload_n 0, 1, 0, 0, 0) := by decide +kernel
theorem f_300_20 : ftc (PT 300) 20 = some (20, .invokevirtual 342, 3, 302, 1036, 2126) := by decide +kernel
theorem f_300_23 : ftc (PT 300) 23 = some (23, .invokestatic 175, 3, 242, 4097, 1884) := by decide +kernel
theorem f_300_26 : ftc (PT 300) 26 = some (26, .ifCond .eq 7, 3, 33, 0, 0) := by decide +kernel
theorem f_300_29 : ftc (PT 300) 29 = some (29, .iconst 0, 1, 0, 0, 0) := by decide +kernel
theorem f_300_30 : ftc (PT 300) 30 = some (30, .goto 4, 3, 34, 0, 0) := by decide +kernel
theorem f_300_33 : ftc (PT 300) 33 = some (33, .iconst 2, 1, 0, 0, 0) := by decide +kernel
theorem f_300_34 : ftc (PT 300) 34 = some (34, .putfield 55, 3, 12, 0, 1636) := by decide +kernel
theorem f_300_37 : ftc (PT 300) 37 = some (37, .aload_n 0, 1, 0, 0, 0) := by decide +kernel
theorem f_300_38 : ftc (PT 300) 38 = some (38, .getfield 55, 3, 12, 0, 1636) := by decide +kernel
theorem f_300_41 : ftc (PT 300) 41 = some (41, .ifCond .le 5, 3, 46, 0, 0) := by decide +kernel
theorem f_300_44 : ftc (PT 300) 44 = some (44, .lconst 0, 1, 0, 0, 0) := by decide +kernel
theorem f_300_45 : ftc (PT 300) 45 = some (45, .lreturn, 1, 0, 0, 0) := by decide +kernel
theorem f_300_46 : ftc (PT 300) 46 = some (46, .aload_n 0, 1, 0, 0, 0) := by decide +kernel
theorem f_300_47 : ftc (PT 300) 47 = some (47, .getfield 195, 3, 12, 15, 1651) := by decide +kernel
theorem f_300_50 : ftc (PT 300) 50 = some (50, .lconst 0, 1, 0, 0, 0) := by decide +kernel
theorem f_300_51 : ftc (PT 300) 51 = some (51, .lcmp, 1, 0, 0, 0) := by decide +kernel
theorem f_300_52 : ftc (PT 300) 52 = some (52, .ifCond .ne 31, 3, 83, 0, 0) := by decide +kernel
theorem f_300_55 : ftc (PT 300) 55 = some (55, .aload_n 0, 1, 0, 0, 0) := by decide +kernel
theorem f_300_56 : ftc (PT 300) 56 = some (56, .iload_n 2, 1, 0, 0, 0) := by decide +kernel
theorem f_300_57 : ftc (PT 300) 57 = some (57, .ifCond .eq 7, 3, 64, 0, 0) := by decide +kernel
theorem f_300_60 : ftc (PT 300) 60 = some (60, .lconst 1, 1, 0, 0, 0) := by decide +kernel
theorem f_300_61 : ftc (PT 300) 61 = some (61, .goto 4, 3, 65, 0, 0) := by decide +kernel
theorem f_300_64 : ftc (PT 300) 64 = some (64, .lconst 0, 1, 0, 0, 0) := by decide +kernel
theorem f_300_65 : ftc (PT 300) 65 = some (65, .iload_n 2, 1, 0, 0, 0) := by decide +kernel
theorem f_300_66 : ftc (PT 300) 66 = some (66, .ifCond .eq 7, 3, 73, 0, 0) := by decide +kernel
theorem f_300_69 : ftc (PT 300) 69 = some (69, .lconst 0, 1, 0, 0, 0) := by decide +kernel
theorem f_300_70 : ftc (PT 300) 70 = some (70, .goto 4, 3, 74, 0, 0) := by decide +kernel
theorem f_300_73 : ftc (PT 300) 73 = some (73, .lconst 1, 1, 0, 0, 0) := by decide +kernel
theorem f_300_74 : ftc (PT 300) 74 = some (74, .invokevirtual 179, 3, 246, 5196, 1900) := by decide +kernel
theorem f_300_77 : ftc (PT 300) 77 = some (77, .aload_n 0, 1, 0, 0, 0) := by decide +kernel
theorem f_300_78 : ftc (PT 300) 78 = some (78, .iload_n 3, 1, 0, 0, 0) := by decide +kernel
theorem f_300_79 : ftc (PT 300) 79 = some (79, .invokevirtual 161, 3, 237, 2092, 1864) := by decide +kernel
theorem f_300_82 : ftc (PT 300) 82 = some (82, .lreturn, 1, 0, 0, 0) := by decide +kernel
theorem f_300_83 : ftc (PT 300) 83 = some (83, .aload_n 0, 1, 0, 0, 0) := by decide +kernel
theorem f_300_84 : ftc (PT 300) 84 = some (84, .getfield 198, 3, 12, 16, 1652) := by decide +kernel
theorem f_300_87 : ftc (PT 300) 87 = some (87, .aload_n 0, 1, 0, 0, 0) := by decide +kernel
theorem f_300_88 : ftc (PT 300) 88 = some (88, .getfield 198, 3, 12, 16, 1652) := by decide +kernel
theorem f_300_91 : ftc (PT 300) 91 = some (91, .lmul, 1, 0, 0, 0) := by decide +kernel
theorem f_300_92 : ftc (PT 300) 92 = some (92, .aload_n 0, 1, 0, 0, 0) := by decide +kernel
theorem f_300_93 : ftc (PT 300) 93 = some (93, .getfield 192, 3, 12, 14, 1650) := by decide +kernel
theorem f_300_96 : ftc (PT 300) 96 = some (96, .aload_n 0, 1, 0, 0, 0) := by decide +kernel
theorem f_300_97 : ftc (PT 300) 97 = some (97, .getfield 192, 3, 12, 14, 1650) := by decide +kernel
theorem f_300_100 : ftc (PT 300) 100 = some (100, .lmul, 1, 0, 0, 0) := by decide +kernel
theorem f_300_101 : ftc (PT 300) 101 = some (101, .lsub, 1, 0, 0, 0) := by decide +kernel
theorem f_300_102 : ftc (PT 300) 102 = some (102, .aload_n 0, 1, 0, 0, 0) := by decide +kernel
theorem f_300_103 : ftc (PT 300) 103 = some (103, .getfield 195, 3, 12, 15, 1651) := by decide +kernel
theorem f_300_106 : ftc (PT 300) 106 = some (106, .aload_n 0, 1, 0, 0, 0) := by decide +kernel
theorem f_300_107 : ftc (PT 300) 107 = some (107, .getfield 195, 3, 12, 15, 1651) := by decide +kernel
theorem f_300_110 : ftc (PT 300) 110 = some (110, .lmul, 1, 0, 0, 0) := by decide +kernel
theorem f_300_111 : ftc (PT 300) 111 = some (111, .lsub, 1, 0, 0, 0) := by decide +kernel
theorem f_300_112 : ftc (PT 300) 112 = some (112, .lstore 4, 2, 0, 0, 0) := by decide +kernel
theorem f_300_114 : ftc (PT 300) 114 = some (114, .iload_n 2, 1, 0, 0, 0) := by decide +kernel
theorem f_300_115 : ftc (PT 300) 115 = some (115, .aload_n 0, 1, 0, 0, 0) := by decide +kernel
theorem f_300_116 : ftc (PT 300) 116 = some (116, .getfield 195, 3, 12, 15, 1651) := by decide +kernel
theorem f_300_119 : ftc (PT 300) 119 = some (119, .lconst 0, 1, 0, 0, 0) := by decide +kernel
theorem f_300_120 : ftc (PT 300) 120 = some (120, .lcmp, 1, 0, 0, 0) := by decide +kernel
theorem f_300_121 : ftc (PT 300) 121 = some (121, .ifCond .le 7, 3, 128, 0, 0) := by decide +kernel
theorem f_300_124 : ftc (PT 300) 124 = some (124, .iconst 1, 1, 0, 0, 0) := by decide +kernel
theorem f_300_125 : ftc (PT 300) 125 = some (125, .goto 4, 3, 129, 0, 0) := by decide +kernel
theorem f_300_128 : ftc (PT 300) 128 = some (128, .iconst 0, 1, 0, 0, 0) := by decide +kernel
theorem f_300_129 : ftc (PT 300) 129 = some (129, .if_icmp .ne 14, 3, 143, 0, 0) := by decide +kernel
theorem f_300_132 : ftc (PT 300) 132 = some (132, .aload_n 0, 1, 0, 0, 0) := by decide +kernel
theorem f_300_133 : ftc (PT 300) 133 = some (133, .invokevirtual 342, 3, 302, 1036, 2126) := by decide +kernel
theorem f_300_136 : ftc (PT 300) 136 = some (136, .invokestatic 172, 3, 243, 8193, 1887) := by decide +kernel
theorem f_300_139 : ftc (PT 300) 139 = some (139, .lneg, 1, 0, 0, 0) := by decide +kernel
theorem f_300_140 : ftc (PT 300) 140 = some (140, .goto 10, 3, 150, 0, 0) := by decide +kernel
theorem f_300_143 : ftc (PT 300) 143 = some (143, .aload_n 0, 1, 0, 0, 0) := by decide +kernel
theorem f_300_144 : ftc (PT 300) 144 = some (144, .invokevirtual 342, 3, 302, 1036, 2126) := by decide +kernel
theorem f_300_147 : ftc (PT 300) 147 = some (147, .invokestatic 172, 3, 243, 8193, 1887) := by decide +kernel
theorem f_300_150 : ftc (PT 300) 150 = some (150, .lstore 6, 2, 0, 0, 0) := by decide +kernel
theorem f_300_152 : ftc (PT 300) 152 = some (152, .aload_n 0, 1, 0, 0, 0) := by decide +kernel
theorem f_300_153 : ftc (PT 300) 153 = some (153, .lload 4, 2, 0, 0, 0) := by decide +kernel
theorem f_300_155 : ftc (PT 300) 155 = some (155, .lload 6, 2, 0, 0, 0) := by decide +kernel
theorem f_300_157 : ftc (PT 300) 157 = some (157, .ladd, 1, 0, 0, 0) := by decide +kernel
theorem f_300_158 : ftc (PT 300) 158 = some (158, .ldc2_w 170, 3, 1891, 0, 2) := by decide +kernel
theorem f_300_161 : ftc (PT 300) 161 = some (161, .aload_n 0, 1, 0, 0, 0) := by decide +kernel
theorem f_300_162 : ftc (PT 300) 162 = some (162, .getfield 195, 3, 12, 15, 1651) := by decide +kernel
theorem f_300_165 : ftc (PT 300) 165 = some (165, .lmul, 1, 0, 0, 0) := by decide +kernel
theorem f_300_166 : ftc (PT 300) 166 = some (166, .aload_n 0, 1, 0, 0, 0) := by decide +kernel
theorem f_300_167 : ftc (PT 300) 167 = some (167, .getfield 198, 3, 12, 16, 1652) := by decide +kernel
theorem f_300_170 : ftc (PT 300) 170 = some (170, .lmul, 1, 0, 0, 0) := by decide +kernel
theorem f_300_171 : ftc (PT 300) 171 = some (171, .invokevirtual 179, 3, 246, 5196, 1900) := by decide +kernel
theorem f_300_174 : ftc (PT 300) 174 = some (174, .aload_n 0, 1, 0, 0, 0) := by decide +kernel
theorem f_300_175 : ftc (PT 300) 175 = some (175, .iload_n 3, 1, 0, 0, 0) := by decide +kernel
theorem f_300_176 : ftc (PT 300) 176 = some (176, .invokevirtual 161, 3, 237, 2092, 1864) := by decide +kernel
theorem f_300_179 : ftc (PT 300) 179 = some (179, .lreturn, 1, 0, 0, 0) := by decide +kernel
theorem f_301_17 : ftc (PT 301) 17 = some (17, .ifCond .eq 10, 3, 27, 0, 0) := by decide +kernel
theorem f_301_20 : ftc (PT 301) 20 = some (20, .aload_n 0, 1, 0, 0, 0) := by decide +kernel
theorem f_301_21 : ftc (PT 301) 21 = some (21, .invokevirtual 203, 3, 254, 1036, 1933) := by decide +kernel
theorem f_301_24 : ftc (PT 301) 24 = some (24, .ifCond .eq 7, 3, 31, 0, 0) := by decide +kernel
theorem f_301_27 : ftc (PT 301) 27 = some (27, .iconst 2, 1, 0, 0, 0) := by decide +kernel
theorem f_301_28 : ftc (PT 301) 28 = some (28, .goto 4, 3, 32, 0, 0) := by decide +kernel
theorem f_301_31 : ftc (PT 301) 31 = some (31, .iconst 0, 1, 0, 0, 0) := by decide +kernel
theorem f_301_32 : ftc (PT 301) 32 = some (32, .ireturn, 1, 0, 0, 0) := by decide +kernel
theorem f_302_0 : ftc (PT 302) 0 = some (0, .aload_n 0, 1, 0, 0, 0) := by decide +kernel
theorem f_302_1 : ftc (PT 302) 1 = some (1, .getfield 192, 3, 12, 14, 1650) := by decide +kernel
theorem f_302_4 : ftc (PT 302) 4 = some (4, .aload_n 0, 1, 0, 0, 0) := by decide +kernel
theorem f_302_5 : ftc (PT 302) 5 = some (5, .getfield 198, 3, 12, 16, 1652) := by decide +kernel
theorem f_302_8 : ftc (PT 302) 8 = some (8, .lsub, 1, 0, 0, 0) := by decide +kernel
theorem f_302_9 : ftc (PT 302) 9 = some (9, .aload_n 0, 1, 0, 0, 0) := by decide +kernel
theorem f_302_10 : ftc (PT 302) 10 = some (10, .getfield 195, 3, 12, 15, 1651) := by decide +kernel
theorem f_302_13 : ftc (PT 302) 13 = some (13, .invokestatic 147, 3, 235, 4098, 1857) := by decide +kernel
theorem f_302_16 : ftc (PT 302) 16 = some (16, .aload_n 0, 1, 0, 0, 0) := by decide +kernel
theorem f_302_17 : ftc (PT 302) 17 = some (17, .getfield 192, 3, 12, 14, 1650) := by decide +kernel
theorem f_302_20 : ftc (PT 302) 20 = some (20, .aload_n 0, 1, 0, 0, 0) := by decide +kernel
theorem f_302_21 : ftc (PT 302) 21 = some (21, .getfield 198, 3, 12, 16, 1652) := by decide +kernel
theorem f_302_24 : ftc (PT 302) 24 = some (24, .ladd, 1, 0, 0, 0) := by decide +kernel
theorem f_302_25 : ftc (PT 302) 25 = some (25, .aload_n 0, 1, 0, 0, 0) := by decide +kernel
theorem f_302_26 : ftc (PT 302) 26 = some (26, .getfield 195, 3, 12, 15, 1651) := by decide +kernel
theorem f_302_29 : ftc (PT 302) 29 = some (29, .invokestatic 147, 3, 235, 4098, 1857) := by decide +kernel
theorem f_302_32 : ftc (PT 302) 32 = some (32, .lmul, 1, 0, 0, 0) := by decide +kernel
theorem f_302_33 : ftc (PT 302) 33 = some (33, .lreturn, 1, 0, 0, 0) := by decide +kernel
theorem f_303_18 : ftc (PT 303) 18 = some (18, .ifCond .eq 13, 3, 31, 0, 0) := by decide +kernel
theorem f_303_21 : ftc (PT 303) 21 = some (21, .aload_n 0, 1, 0, 0, 0) := by decide +kernel
theorem f_303_22 : ftc (PT 303) 22 = some (22, .invokevirtual 342, 3, 302, 1036, 2126) := by decide +kernel
theorem f_303_25 : ftc (PT 303) 25 = some (25, .invokestatic 175, 3, 242, 4097, 1884) := by decide +kernel
theorem f_303_28 : ftc (PT 303) 28 = some (28, .ifCond .ne 7, 3, 35, 0, 0) := by decide +kernel
theorem f_303_31 : ftc (PT 303) 31 = some (31, .iconst 2, 1, 0, 0, 0) := by decide +kernel
theorem f_303_32 : ftc (PT 303) 32 = some (32, .goto 4, 3, 36, 0, 0) := by decide +kernel
theorem f_303_35 : ftc (PT 303) 35 = some (35, .iconst 0, 1, 0, 0, 0) := by decide +kernel
theorem f_303_36 : ftc (PT 303) 36 = some (36, .putfield 55, 3, 12, 0, 1636) := by decide +kernel
theorem f_303_39 : ftc (PT 303) 39 = some (39, .aload_n 0, 1, 0, 0, 0) := by decide +kernel
theorem f_303_40 : ftc (PT 303) 40 = some (40, .getfield 55, 3, 12, 0, 1636) := by decide +kernel
theorem f_303_43 : ftc (PT 303) 43 = some (43, .ifCond .le 5, 3, 48, 0, 0) := by decide +kernel
theorem f_303_46 : ftc (PT 303) 46 = some (46, .lconst 0, 1, 0, 0, 0) := by decide +kernel
theorem f_303_47 : ftc (PT 303) 47 = some (47, .lreturn, 1, 0, 0, 0) := by decide +kernel
theorem f_303_48 : ftc (PT 303) 48 = some (48, .aload_n 0, 1, 0, 0, 0) := by decide +kernel
theorem f_303_49 : ftc (PT 303) 49 = some (49, .invokevirtual 203, 3, 254, 1036, 1933) := by decide +kernel
theorem f_303_52 : ftc (PT 303) 52 = some (52, .ifCond .eq 12, 3, 64, 0, 0) := by decide +kernel
theorem f_303_55 : ftc (PT 303) 55 = some (55, .aload_n 0, 1, 0, 0, 0) := by decide +kernel
theorem f_303_56 : ftc (PT 303) 56 = some (56, .lconst 1, 1, 0, 0, 0) := by decide +kernel
theorem f_303_57 : ftc (PT 303) 57 = some (57, .lconst 1, 1, 0, 0, 0) := by decide +kernel
theorem f_303_58 : ftc (PT 303) 58 = some (58, .invokevirtual 88, 3, 236, 8268, 1860) := by decide +kernel
theorem f_303_61 : ftc (PT 303) 61 = some (61, .goto 65, 3, 126, 0, 0) := by decide +kernel
theorem f_303_64 : ftc (PT 303) 64 = some (64, .aload_n 0, 1, 0, 0, 0) := by decide +kernel
theorem f_303_65 : ftc (PT 303) 65 = some (65, .aload_n 0, 1, 0, 0, 0) := by decide +kernel
theorem f_303_66 : ftc (PT 303) 66 = some (66, .getfield 192, 3, 12, 14, 1650) := by decide +kernel
theorem f_303_69 : ftc (PT 303) 69 = some (69, .aload_n 0, 1, 0, 0, 0) := by decide +kernel
theorem f_303_70 : ftc (PT 303) 70 = some (70, .getfield 198, 3, 12, 16, 1652) := by decide +kernel
theorem f_303_73 : ftc (PT 303) 73 = some (73, .lsub, 1, 0, 0, 0) := by decide +kernel
theorem f_303_74 : ftc (PT 303) 74 = some (74, .aload_n 0, 1, 0, 0, 0) := by decide +kernel
theorem f_303_75 : ftc (PT 303) 75 = some (75, .getfield 195, 3, 12, 15, 1651) := by decide +kernel
theorem f_303_78 : ftc (PT 303) 78 = some (78, .invokestatic 147, 3, 235, 4098, 1857) := by decide +kernel
theorem f_303_81 : ftc (PT 303) 81 = some (81, .aload_n 0, 1, 0, 0, 0) := by decide +kernel
theorem f_303_82 : ftc (PT 303) 82 = some (82, .getfield 192, 3, 12, 14, 1650) := by decide +kernel
theorem f_303_85 : ftc (PT 303) 85 = some (85, .aload_n 0, 1, 0, 0, 0) := by decide +kernel
theorem f_303_86 : ftc (PT 303) 86 = some (86, .getfield 198, 3, 12, 16, 1652) := by decide +kernel
theorem f_303_89 : ftc (PT 303) 89 = some (89, .ladd, 1, 0, 0, 0) := by decide +kernel
theorem f_303_90 : ftc (PT 303) 90 = some (90, .aload_n 0, 1, 0, 0, 0) := by decide +kernel
theorem f_303_91 : ftc (PT 303) 91 = some (91, .getfield 195, 3, 12, 15, 1651) := by decide +kernel
theorem f_303_94 : ftc (PT 303) 94 = some (94, .invokestatic 147, 3, 235, 4098, 1857) := by decide +kernel
theorem f_303_97 : ftc (PT 303) 97 = some (97, .ladd, 1, 0, 0, 0) := by decide +kernel
theorem f_303_98 : ftc (PT 303) 98 = some (98, .ldc2_w 170, 3, 1891, 0, 2) := by decide +kernel
theorem f_303_101 : ftc (PT 303) 101 = some (101, .aload_n 0, 1, 0, 0, 0) := by decide +kernel
theorem f_303_102 : ftc (PT 303) 102 = some (102, .invokevirtual 342, 3, 302, 1036, 2126) := by decide +kernel
theorem f_303_105 : ftc (PT 303) 105 = some (105, .invokestatic 172, 3, 243, 8193, 1887) := by decide +kernel
theorem f_303_108 : ftc (PT 303) 108 = some (108, .lmul, 1, 0, 0, 0) := by decide +kernel
theorem f_303_109 : ftc (PT 303) 109 = some (109, .ladd, 1, 0, 0, 0) := by decide +kernel
theorem f_303_110 : ftc (PT 303) 110 = some (110, .ldc2_w 345, 3, 2134, 0, 4) := by decide +kernel
theorem f_303_113 : ftc (PT 303) 113 = some (113, .aload_n 0, 1, 0, 0, 0) := by decide +kernel
theorem f_303_114 : ftc (PT 303) 114 = some (114, .getfield 192, 3, 12, 14, 1650) := by decide +kernel
theorem f_303_117 : ftc (PT 303) 117 = some (117, .lmul, 1, 0, 0, 0) := by decide +kernel
theorem f_303_118 : ftc (PT 303) 118 = some (118, .aload_n 0, 1, 0, 0, 0) := by decide +kernel
theorem f_303_119 : ftc (PT 303) 119 = some (119, .getfield 198, 3, 12, 16, 1652) := by decide +kernel
theorem f_303_122 : ftc (PT 303) 122 = some (122, .lmul, 1, 0, 0, 0) := by decide +kernel
theorem f_303_123 : ftc (PT 303) 123 = some (123, .invokevirtual 179, 3, 246, 5196, 1900) := by decide +kernel
theorem f_303_126 : ftc (PT 303) 126 = some (126, .aload_n 0, 1, 0, 0, 0) := by decide +kernel
theorem f_303_127 : ftc (PT 303) 127 = some (127, .iload_n 2, 1, 0, 0, 0) := by decide +kernel
theorem f_303_128 : ftc (PT 303) 128 = some (128, .invokevirtual 161, 3, 237, 2092, 1864) := by decide +kernel
theorem f_303_131 : ftc (PT 303) 131 = some (131, .lreturn, 1, 0, 0, 0) := by decide +kernel
theorem f_304_6 : ftc (PT 304) 6 = some (6, .putfield 55, 3, 12, 0, 1636) := by decide +kernel
theorem f_304_9 : ftc (PT 304) 9 = some (9, .aload_n 0, 1, 0, 0, 0) := by decide +kernel
theorem f_304_10 : ftc (PT 304) 10 = some (10, .getfield 55, 3, 12, 0, 1636) := by decide +kernel
theorem f_304_13 : ftc (PT 304) 13 = some (13, .ifCond .ne 37, 3, 50, 0, 0) := by decide +kernel
theorem f_304_16 : ftc (PT 304) 16 = some (16, .aload_n 0, 1, 0, 0, 0) := by decide +kernel
theorem f_304_17 : ftc (PT 304) 17 = some (17, .getfield 195, 3, 12, 15, 1651) := by decide +kernel
theorem f_304_20 : ftc (PT 304) 20 = some (20, .lconst 0, 1, 0, 0, 0) := by decide +kernel
theorem f_304_21 : ftc (PT 304) 21 = some (21, .lcmp, 1, 0, 0, 0) := by decide +kernel
theorem f_304_22 : ftc (PT 304) 22 = some (22, .ifCond .gt 24, 3, 46, 0, 0) := by decide +kernel
theorem f_304_25 : ftc (PT 304) 25 = some (25, .aload_n 0, 1, 0, 0, 0) := by decide +kernel
theorem f_304_26 : ftc (PT 304) 26 = some (26, .getfield 195, 3, 12, 15, 1651) := by decide +kernel
theorem f_304_29 : ftc (PT 304) 29 = some (29, .lconst 0, 1, 0, 0, 0) := by decide +kernel
theorem f_304_30 : ftc (PT 304) 30 = some (30, .lcmp, 1, 0, 0, 0) := by decide +kernel
theorem f_304_31 : ftc (PT 304) 31 = some (31, .ifCond .ne 19, 3, 50, 0, 0) := by decide +kernel
theorem f_304_34 : ftc (PT 304) 34 = some (34, .aload_n 0, 1, 0, 0, 0) := by decide +kernel
theorem f_304_35 : ftc (PT 304) 35 = some (35, .getfield 192, 3, 12, 14, 1650) := by decide +kernel
theorem f_304_38 : ftc (PT 304) 38 = some (38, .aload_n 0, 1, 0, 0, 0) := by decide +kernel
theorem f_304_39 : ftc (PT 304) 39 = some (39, .getfield 198, 3, 12, 16, 1652) := by decide +kernel
theorem f_304_42 : ftc (PT 304) 42 = some (42, .lcmp, 1, 0, 0, 0) := by decide +kernel
theorem f_304_43 : ftc (PT 304) 43 = some (43, .ifCond .le 7, 3, 50, 0, 0) := by decide +kernel
theorem f_304_46 : ftc (PT 304) 46 = some (46, .iconst 1, 1, 0, 0, 0) := by decide +kernel
theorem f_304_47 : ftc (PT 304) 47 = some (47, .goto 4, 3, 51, 0, 0) := by decide +kernel
theorem f_304_50 : ftc (PT 304) 50 = some (50, .iconst 0, 1, 0, 0, 0) := by decide +kernel
theorem f_304_51 : ftc (PT 304) 51 = some (51, .ireturn, 1, 1, 0, 0) := by decide +kernel
theorem f_305_55 : ftc (PT 305) 55 = some (55, .putfield 55, 3, 12, 0, 1636) := by decide +kernel
theorem f_305_58 : ftc (PT 305) 58 = some (58, .aload_n 0, 1, 0, 0, 0) := by decide +kernel
theorem f_305_59 : ftc (PT 305) 59 = some (59, .getfield 55, 3, 12, 0, 1636) := by decide +kernel
theorem f_305_62 : ftc (PT 305) 62 = some (62, .ifCond .le 5, 3, 67, 0, 0) := by decide +kernel
theorem f_305_65 : ftc (PT 305) 65 = some (65, .iconst 0, 1, 0, 0, 0) := by decide +kernel
theorem f_305_66 : ftc (PT 305) 66 = some (66, .ireturn, 1, 0, 0, 0) := by decide +kernel
theorem f_305_67 : ftc (PT 305) 67 = some (67, .iconst 0, 1, 0, 0, 0) := by decide +kernel
theorem f_305_68 : ftc (PT 305) 68 = some (68, .istore 6, 2, 0, 0, 0) := by decide +kernel
theorem f_305_70 : ftc (PT 305) 70 = some (70, .iconst 0, 1, 0, 0, 0) := by decide +kernel
theorem f_305_71 : ftc (PT 305) 71 = some (71, .istore 7, 2, 0, 0, 0) := by decide +kernel
theorem f_305_73 : ftc (PT 305) 73 = some (73, .iload 7, 2, 0, 0, 0) := by decide +kernel
theorem f_305_75 : ftc (PT 305) 75 = some (75, .aload_n 0, 1, 0, 0, 0) := by decide +kernel
theorem f_305_76 : ftc (PT 305) 76 = some (76, .getfield 74, 3, 12, 7, 1643) := by decide +kernel
theorem f_305_79 : ftc (PT 305) 79 = some (79, .if_icmp .ge 89, 3, 168, 0, 0) := by decide +kernel
theorem f_305_82 : ftc (PT 305) 82 = some (82, .aload_n 0, 1, 0, 0, 0) := by decide +kernel
theorem f_305_83 : ftc (PT 305) 83 = some (83, .iload 7, 2, 0, 0, 0) := by decide +kernel
theorem f_305_85 : ftc (PT 305) 85 = some (85, .iload_n 3, 1, 0, 0, 0) := by decide +kernel
theorem f_305_86 : ftc (PT 305) 86 = some (86, .invokevirtual 350, 3, 307, 3148, 2147) := by decide +kernel
theorem f_305_89 : ftc (PT 305) 89 = some (89, .ifCond .ne 6, 3, 95, 0, 0) := by decide +kernel
theorem f_305_92 : ftc (PT 305) 92 = some (92, .goto 70, 3, 162, 0, 0) := by decide +kernel
theorem f_305_95 : ftc (PT 305) 95 = some (95, .aload_n 0, 1, 0, 0, 0) := by decide +kernel
theorem f_305_96 : ftc (PT 305) 96 = some (96, .invokevirtual 275, 3, 276, 1036, 2023) := by decide +kernel
theorem f_305_162 : ftc (PT 305) 162 = some (162, .iinc 7 1, 3, 0, 0, 0) := by decide +kernel
theorem f_305_165 : ftc (PT 305) 165 = some (165, .goto (-92), 3, 73, 0, 0) := by decide +kernel
theorem f_305_168 : ftc (PT 305) 168 = some (168, .iload 6, 2, 0, 0, 0) := by decide +kernel
theorem f_305_170 : ftc (PT 305) 170 = some (170, .ireturn, 1, 0, 0, 0) := by decide +kernel
theorem f_307_0 : ftc (PT 307) 0 = some (0, .aload_n 0, 1, 0, 0, 0) := by decide +kernel
theorem f_307_1 : ftc (PT 307) 1 = some (1, .getfield 16, 3, 12, 5, 1641) := by decide +kernel
theorem f_307_4 : ftc (PT 307) 4 = some (4, .iload_n 1, 1, 0, 0, 0) := by decide +kernel
theorem f_307_5 : ftc (PT 307) 5 = some (5, .iaload, 1, 0, 0, 0) := by decide +kernel
theorem f_307_6 : ftc (PT 307) 6 = some (6, .iload_n 2, 1, 0, 0, 0) := by decide +kernel
theorem f_307_7 : ftc (PT 307) 7 = some (7, .ineg, 1, 0, 0, 0) := by decide +kernel
theorem f_307_8 : ftc (PT 307) 8 = some (8, .iload_n 2, 1, 0, 0, 0) := by decide +kernel
theorem f_307_9 : ftc (PT 307) 9 = some (9, .invokestatic 62, 3, 208, 3075, 1624) := by decide +kernel
theorem f_307_12 : ftc (PT 307) 12 = some (12, .ifCond .eq 17, 3, 29, 0, 0) := by decide +kernel
theorem f_307_15 : ftc (PT 307) 15 = some (15, .aload_n 0, 1, 0, 0, 0) := by decide +kernel
theorem f_307_16 : ftc (PT 307) 16 = some (16, .getfield 19, 3, 12, 6, 1642) := by decide +kernel
theorem f_307_19 : ftc (PT 307) 19 = some (19, .iload_n 1, 1, 0, 0, 0) := by decide +kernel
theorem f_307_20 : ftc (PT 307) 20 = some (20, .iaload, 1, 0, 0, 0) := by decide +kernel
theorem f_307_21 : ftc (PT 307) 21 = some (21, .iload_n 2, 1, 0, 0, 0) := by decide +kernel
theorem f_307_22 : ftc (PT 307) 22 = some (22, .if_icmp .gt 7, 3, 29, 0, 0) := by decide +kernel
theorem f_307_25 : ftc (PT 307) 25 = some (25, .iconst 1, 1, 0, 0, 0) := by decide +kernel
theorem f_307_26 : ftc (PT 307) 26 = some (26, .goto 4, 3, 30, 0, 0) := by decide +kernel
theorem f_307_29 : ftc (PT 307) 29 = some (29, .iconst 0, 1, 0, 0, 0) := by decide +kernel
theorem f_307_30 : ftc (PT 307) 30 = some (30, .ireturn, 1, 1, 0, 0) := by decide +kernel
set_option maxRecDepth 10000 in
set_option maxHeartbeats 4000000 in
theorem s_286_7 {Lx : Nat} {I : Mi} {L : Ml} {e : Nat} {Q : Kq} {x1 : Int32} {x2 : Int32} {x3 : Int32} {x4 : Int32} {x5 : Int32} {x6 : Int32} (h :
    (if (L 58 21) = (Int64.ofInt 0) then
     (if x4 < (Int32.ofInt 0) then
      Q (.inl (some (.long (Int64.ofInt 0)))) (gE Lx) (ui I 58 0 (Int32.ofInt 3)) L e
     else
      (if (Int32.ofInt (-1)) < x4 then
       Q (.inl (some (.long (Int64.ofInt 0)))) (gE Lx) (ui I 58 0 (Int32.ofInt 3)) L e
      else
       Wp 243 0 [(0, .long (L 58 23))] [] (gE Lx) I L e (kcp (Wp 242) 242 1 0 [(0, .long (L 58 23))] 71 [] (kcp (Wp 286) 286 26 0 [(0, .ref 58), (1, .int x1), (2, .int x2), (3, .int x3), (4, .int x4), (5, .int x5), (6, .int x6)] 71 [] Q))))
    else
     (if (L 58 23) < (Int64.ofInt 0) then
      (if x4 < (Int32.ofInt 0) then
       Q (.inl (some (.long (Int64.ofInt 0)))) (gE Lx) (ui I 58 0 (Int32.ofInt 3)) L e
      else
       (if (Int32.ofInt (-1)) < x4 then
        Q (.inl (some (.long (Int64.ofInt 0)))) (gE Lx) (ui I 58 0 (Int32.ofInt 3)) L e
       else
        Wp 243 0 [(0, .long (L 58 23))] [] (gE Lx) I L e (kcp (Wp 242) 242 1 0 [(0, .long (L 58 23))] 71 [] (kcp (Wp 286) 286 26 0 [(0, .ref 58), (1, .int x1), (2, .int x2), (3, .int x3), (4, .int x4), (5, .int x5), (6, .int x6)] 71 [] Q))))
     else
      (if (L 58 23) = (Int64.ofInt 0) then
       (if x4 < (Int32.ofInt 0) then
        Q (.inl (some (.long (Int64.ofInt 0)))) (gE Lx) (ui I 58 0 (Int32.ofInt 3)) L e
       else
        (if (Int32.ofInt 0) < x4 then
         Q (.inl (some (.long (Int64.ofInt 0)))) (gE Lx) (ui I 58 0 (Int32.ofInt 3)) L e
        else
         Wp 243 0 [(0, .long (L 58 23))] [] (gE Lx) I L e (kcp (Wp 242) 242 1 0 [(0, .long (L 58 23))] 71 [] (kcp (Wp 286) 286 26 0 [(0, .ref 58), (1, .int x1), (2, .int x2), (3, .int x3), (4, .int x4), (5, .int x5), (6, .int x6)] 71 [] Q))))
      else
       (if x4 < (Int32.ofInt 0) then
        Q (.inl (some (.long (Int64.ofInt 0)))) (gE Lx) (ui I 58 0 (Int32.ofInt 3)) L e
       else
        (if (Int32.ofInt 1) < x4 then
         Q (.inl (some (.long (Int64.ofInt 0)))) (gE Lx) (ui I 58 0 (Int32.ofInt 3)) L e
        else
         Wp 243 0 [(0, .long (L 58 23))] [] (gE Lx) I L e (kcp (Wp 242) 242 1 0 [(0, .long (L 58 23))] 71 [] (kcp (Wp 286) 286 26 0 [(0, .ref 58), (1, .int x1), (2, .int x2), (3, .int x3), (4, .int x4), (5, .int x5), (6, .int x6)] 71 [] Q)))))))) :
    Wp 286 7 [(0, .ref 58), (1, .int x1), (2, .int x2), (3, .int x3), (4, .int x4), (5, .int x5), (6, .int x6)] [] (gE Lx) I L e Q := by
  refine w_a f_286_7 ?_
  refine w_a f_286_9 ?_
  refine w_a f_286_10 ?_
  refine w_a f_286_11 ?_
  refine w_a (ls := [(0, .ref 58)]) f_284_0 ?_
  refine w_a f_284_1 ?_
  refine w_a f_284_4 ?_
  refine w_a f_284_5 ?_
  refine i_m (fun h => ?_) (fun h => ?_) h
  · refine w_a f_284_18 ?_
    refine w_a f_284_19 ?_
    refine w_a f_284_36 ?_
    refine w_a (ls := [(0, .ref 58), (1, .int x1), (2, .int x2), (3, .int x3), (4, .int x4), (5, .int x5), (6, .int x6)]) f_286_14 ?_
    refine w_a f_286_15 ?_
    refine w_a f_286_16 ?_
    refine w_a (ls := [(0, .int x4), (1, .int (Int32.ofInt 0)), (2, .int (Int32.ofInt (-1)))]) f_208_0 ?_
    refine w_a f_208_1 ?_
    refine w_a f_208_2 ?_
    refine i_m (fun h => ?_) (fun h => ?_) h
    · refine w_a f_208_14 ?_
      refine w_a f_208_15 ?_
      refine w_a (ls := [(0, .ref 58), (1, .int x1), (2, .int x2), (3, .int x3), (4, .int x4), (5, .int x5), (6, .int x6)]) f_286_19 ?_
      refine w_a f_286_32 ?_
      refine w_a f_286_33 ?_
      refine w_a f_286_34 ?_
      refine w_a f_286_37 ?_
      refine w_a f_286_38 ?_
      exact h
    · refine w_a f_208_5 ?_
      refine w_a f_208_6 ?_
      refine w_a f_208_7 ?_
      refine i_m (fun h => ?_) (fun h => ?_) h
      · refine w_a f_208_14 ?_
        refine w_a f_208_15 ?_
        refine w_a (ls := [(0, .ref 58), (1, .int x1), (2, .int x2), (3, .int x3), (4, .int x4), (5, .int x5), (6, .int x6)]) f_286_19 ?_
        refine w_a f_286_32 ?_
        refine w_a f_286_33 ?_
        refine w_a f_286_34 ?_
        refine w_a f_286_37 ?_
        refine w_a f_286_38 ?_
        exact h
      · refine w_a f_208_10 ?_
        refine w_a f_208_11 ?_
        refine w_a f_208_15 ?_
        refine w_a (ls := [(0, .ref 58), (1, .int x1), (2, .int x2), (3, .int x3), (4, .int x4), (5, .int x5), (6, .int x6)]) f_286_19 ?_
        refine w_a f_286_22 ?_
        refine w_a f_286_23 ?_
        refine w_c (ks := [0, 1, 2, 3, 4, 5, 6]) f_286_26 rfl rfl ?_
        refine w_a (ls := [(0, .long (L 58 23))]) f_242_0 ?_
        exact w_c (ks := [0]) f_242_1 rfl rfl h
  · refine w_a f_284_9 ?_
    refine w_a f_284_10 ?_
    refine w_a f_284_13 ?_
    refine w_a f_284_14 ?_
    refine i_m (fun h => ?_) (fun h => ?_) h
    · refine w_a f_284_18 ?_
      refine w_a f_284_19 ?_
      refine w_a f_284_36 ?_
      refine w_a (ls := [(0, .ref 58), (1, .int x1), (2, .int x2), (3, .int x3), (4, .int x4), (5, .int x5), (6, .int x6)]) f_286_14 ?_
      refine w_a f_286_15 ?_
      refine w_a f_286_16 ?_
      refine w_a (ls := [(0, .int x4), (1, .int (Int32.ofInt 0)), (2, .int (Int32.ofInt (-1)))]) f_208_0 ?_
      refine w_a f_208_1 ?_
      refine w_a f_208_2 ?_
      refine i_m (fun h => ?_) (fun h => ?_) h
      · refine w_a f_208_14 ?_
        refine w_a f_208_15 ?_
        refine w_a (ls := [(0, .ref 58), (1, .int x1), (2, .int x2), (3, .int x3), (4, .int x4), (5, .int x5), (6, .int x6)]) f_286_19 ?_
        refine w_a f_286_32 ?_
        refine w_a f_286_33 ?_
        refine w_a f_286_34 ?_
        refine w_a f_286_37 ?_
        refine w_a f_286_38 ?_
        exact h
      · refine w_a f_208_5 ?_
        refine w_a f_208_6 ?_
        refine w_a f_208_7 ?_
        refine i_m (fun h => ?_) (fun h => ?_) h
        · refine w_a f_208_14 ?_
          refine w_a f_208_15 ?_
          refine w_a (ls := [(0, .ref 58), (1, .int x1), (2, .int x2), (3, .int x3), (4, .int x4), (5, .int x5), (6, .int x6)]) f_286_19 ?_
          refine w_a f_286_32 ?_
          refine w_a f_286_33 ?_
          refine w_a f_286_34 ?_
          refine w_a f_286_37 ?_
          refine w_a f_286_38 ?_
          exact h
        · refine w_a f_208_10 ?_
          refine w_a f_208_11 ?_
          refine w_a f_208_15 ?_
          refine w_a (ls := [(0, .ref 58), (1, .int x1), (2, .int x2), (3, .int x3), (4, .int x4), (5, .int x5), (6, .int x6)]) f_286_19 ?_
          refine w_a f_286_22 ?_
          refine w_a f_286_23 ?_
          refine w_c (ks := [0, 1, 2, 3, 4, 5, 6]) f_286_26 rfl rfl ?_
          refine w_a (ls := [(0, .long (L 58 23))]) f_242_0 ?_
          exact w_c (ks := [0]) f_242_1 rfl rfl h
    · refine w_a f_284_22 ?_
      refine w_a f_284_23 ?_
      refine w_a f_284_26 ?_
      refine w_a f_284_27 ?_
      refine i_m (fun h => ?_) (fun h => ?_) h
      · refine w_a f_284_31 ?_
        refine w_a f_284_32 ?_
        refine w_a f_284_36 ?_
        refine w_a (ls := [(0, .ref 58), (1, .int x1), (2, .int x2), (3, .int x3), (4, .int x4), (5, .int x5), (6, .int x6)]) f_286_14 ?_
        refine w_a f_286_15 ?_
        refine w_a f_286_16 ?_
        refine w_a (ls := [(0, .int x4), (1, .int (Int32.ofInt 0)), (2, .int (Int32.ofInt 0))]) f_208_0 ?_
        refine w_a f_208_1 ?_
        refine w_a f_208_2 ?_
        refine i_m (fun h => ?_) (fun h => ?_) h
        · refine w_a f_208_14 ?_
          refine w_a f_208_15 ?_
          refine w_a (ls := [(0, .ref 58), (1, .int x1), (2, .int x2), (3, .int x3), (4, .int x4), (5, .int x5), (6, .int x6)]) f_286_19 ?_
          refine w_a f_286_32 ?_
          refine w_a f_286_33 ?_
          refine w_a f_286_34 ?_
          refine w_a f_286_37 ?_
          refine w_a f_286_38 ?_
          exact h
        · refine w_a f_208_5 ?_
          refine w_a f_208_6 ?_
          refine w_a f_208_7 ?_
          refine i_m (fun h => ?_) (fun h => ?_) h
          · refine w_a f_208_14 ?_
            refine w_a f_208_15 ?_
            refine w_a (ls := [(0, .ref 58), (1, .int x1), (2, .int x2), (3, .int x3), (4, .int x4), (5, .int x5), (6, .int x6)]) f_286_19 ?_
            refine w_a f_286_32 ?_
            refine w_a f_286_33 ?_
            refine w_a f_286_34 ?_
            refine w_a f_286_37 ?_
            refine w_a f_286_38 ?_
            exact h
          · refine w_a f_208_10 ?_
            refine w_a f_208_11 ?_
            refine w_a f_208_15 ?_
            refine w_a (ls := [(0, .ref 58), (1, .int x1), (2, .int x2), (3, .int x3), (4, .int x4), (5, .int x5), (6, .int x6)]) f_286_19 ?_
            refine w_a f_286_22 ?_
            refine w_a f_286_23 ?_
            refine w_c (ks := [0, 1, 2, 3, 4, 5, 6]) f_286_26 rfl rfl ?_
            refine w_a (ls := [(0, .long (L 58 23))]) f_242_0 ?_
            exact w_c (ks := [0]) f_242_1 rfl rfl h
      · refine w_a f_284_35 ?_
        refine w_a f_284_36 ?_
        refine w_a (ls := [(0, .ref 58), (1, .int x1), (2, .int x2), (3, .int x3), (4, .int x4), (5, .int x5), (6, .int x6)]) f_286_14 ?_
        refine w_a f_286_15 ?_
        refine w_a f_286_16 ?_
        refine w_a (ls := [(0, .int x4), (1, .int (Int32.ofInt 0)), (2, .int (Int32.ofInt 1))]) f_208_0 ?_
        refine w_a f_208_1 ?_
        refine w_a f_208_2 ?_
        refine i_m (fun h => ?_) (fun h => ?_) h
        · refine w_a f_208_14 ?_
          refine w_a f_208_15 ?_
          refine w_a (ls := [(0, .ref 58), (1, .int x1), (2, .int x2), (3, .int x3), (4, .int x4), (5, .int x5), (6, .int x6)]) f_286_19 ?_
          refine w_a f_286_32 ?_
          refine w_a f_286_33 ?_
          refine w_a f_286_34 ?_
          refine w_a f_286_37 ?_
          refine w_a f_286_38 ?_
          exact h
        · refine w_a f_208_5 ?_
          refine w_a f_208_6 ?_
          refine w_a f_208_7 ?_
          refine i_m (fun h => ?_) (fun h => ?_) h
          · refine w_a f_208_14 ?_
            refine w_a f_208_15 ?_
            refine w_a (ls := [(0, .ref 58), (1, .int x1), (2, .int x2), (3, .int x3), (4, .int x4), (5, .int x5), (6, .int x6)]) f_286_19 ?_
            refine w_a f_286_32 ?_
            refine w_a f_286_33 ?_
            refine w_a f_286_34 ?_
            refine w_a f_286_37 ?_
            refine w_a f_286_38 ?_
            exact h
          · refine w_a f_208_10 ?_
            refine w_a f_208_11 ?_
            refine w_a f_208_15 ?_
            refine w_a (ls := [(0, .ref 58), (1, .int x1), (2, .int x2), (3, .int x3), (4, .int x4), (5, .int x5), (6, .int x6)]) f_286_19 ?_
            refine w_a f_286_22 ?_
            refine w_a f_286_23 ?_
            refine w_c (ks := [0, 1, 2, 3, 4, 5, 6]) f_286_26 rfl rfl ?_
            refine w_a (ls := [(0, .long (L 58 23))]) f_242_0 ?_
            exact w_c (ks := [0]) f_242_1 rfl rfl h
set_option maxRecDepth 10000 in
set_option maxHeartbeats 4000000 in
theorem s_286_29 {Lx : Nat} {I : Mi} {L : Ml} {e : Nat} {Q : Kq} {x1 : Int32} {x2 : Int32} {x3 : Int32} {x4 : Int32} {x5 : Int32} {x6 : Int32} {r : Int32} (h :
    (if r = 0 then
     Q (.inl (some (.long (Int64.ofInt 0)))) (gE Lx) (ui I 58 0 (Int32.ofInt 3)) L e
    else
     Wp 287 0 [(0, .ref 58), (1, .int x1), (2, .int x2), (3, .int x3), (4, .int x4), (5, .int x5)] [] (gE Lx) I L e (kcp (Wp 286) 286 47 0 [(0, .ref 58), (6, .int x6)] 71 [] Q))) :
    Wp 286 29 [(0, .ref 58), (1, .int x1), (2, .int x2), (3, .int x3), (4, .int x4), (5, .int x5), (6, .int x6)] [.int r] (gE Lx) I L e Q := by
  refine w_a f_286_29 ?_
  refine i_m (fun h => ?_) (fun h => ?_) h
  · refine w_a f_286_32 ?_
    refine w_a f_286_33 ?_
    refine w_a f_286_34 ?_
    refine w_a f_286_37 ?_
    refine w_a f_286_38 ?_
    exact h
  · refine w_a f_286_39 ?_
    refine w_a f_286_40 ?_
    refine w_a f_286_41 ?_
    refine w_a f_286_42 ?_
    refine w_a f_286_43 ?_
    refine w_a f_286_45 ?_
    exact w_c (ks := [0, 6]) f_286_47 rfl rfl h
set_option maxRecDepth 10000 in
set_option maxHeartbeats 4000000 in
theorem s_286_50 {Lx : Nat} {I : Mi} {L : Ml} {e : Nat} {Q : Kq} {x6 : Int32} (h :
    (if x6 = 0 then
     Q (.inl (some (.long (L 58 8)))) (gE Lx) I L e
    else
     Q (.inl (some (.long (L 58 9)))) (gE Lx) I L e)) :
    Wp 286 50 [(0, .ref 58), (6, .int x6)] [] (gE Lx) I L e Q := by
  refine w_a f_286_50 ?_
  refine w_a f_286_51 ?_
  refine w_a f_286_53 ?_
  refine w_a (ls := [(0, .ref 58), (1, .int x6)]) f_237_0 ?_
  refine w_a f_237_1 ?_
  refine i_m (fun h => ?_) (fun h => ?_) h
  · refine w_a f_237_11 ?_
    refine w_a f_237_12 ?_
    refine w_a f_237_15 ?_
    refine w_a (ls := [(0, .ref 58), (6, .int x6)]) f_286_56 ?_
    exact h
  · refine w_a f_237_4 ?_
    refine w_a f_237_5 ?_
    refine w_a f_237_8 ?_
    refine w_a f_237_15 ?_
    refine w_a (ls := [(0, .ref 58), (6, .int x6)]) f_286_56 ?_
    exact h
set_option maxRecDepth 10000 in
set_option maxHeartbeats 4000000 in
theorem s_287_0 {Lx : Nat} {I : Mi} {L : Ml} {e : Nat} {Q : Kq} {x1 : Int32} {x2 : Int32} {x3 : Int32} {x4 : Int32} {x5 : Int32} (h :
    Wp 243 0 [(0, .long (L 58 23))] [] (gE Lx) I L e (kcp (Wp 287) 287 4 0 [(0, .ref 58), (1, .int x1), (2, .int x2), (3, .int x3), (4, .int x4), (5, .int x5)] 71 [] Q)) :
    Wp 287 0 [(0, .ref 58), (1, .int x1), (2, .int x2), (3, .int x3), (4, .int x4), (5, .int x5)] [] (gE Lx) I L e Q := by
  refine w_a f_287_0 ?_
  refine w_a f_287_1 ?_
  exact w_c (ks := [0, 1, 2, 3, 4, 5]) f_287_4 rfl rfl h
set_option maxRecDepth 10000 in
set_option maxHeartbeats 4000000 in
theorem s_287_7 {Lx : Nat} {I : Mi} {L : Ml} {e : Nat} {Q : Kq} {x1 : Int32} {x2 : Int32} {x3 : Int32} {x4 : Int32} {x5 : Int32} {rl : Int64} (h :
    (if x4 = 0 then
     (if 0 < x2 then
      (if x5 = 0 then
       Wp 236 0 [(0, .ref 58), (1, .long (((L 58 22) * x3.toInt64) + (-rl))), (3, .long ((L 58 22) * x2.toInt64))] [] (gE Lx) I L e (kcp (Wp 287) 287 86 0 [(0, .ref 58), (1, .int x1)] 71 [] Q)
      else
       Wp 236 0 [(0, .ref 58), (1, .long (((L 58 21) * x3.toInt64) + (-rl))), (3, .long ((L 58 21) * x2.toInt64))] [] (gE Lx) I L e (kcp (Wp 287) 287 64 0 [(0, .ref 58)] 71 [] Q))
     else
      (if x5 = 0 then
       Wp 236 0 [(0, .ref 58), (1, .long (((L 58 22) * x3.toInt64) + rl)), (3, .long ((L 58 22) * x2.toInt64))] [] (gE Lx) I L e (kcp (Wp 287) 287 86 0 [(0, .ref 58), (1, .int x1)] 71 [] Q)
      else
       Wp 236 0 [(0, .ref 58), (1, .long (((L 58 21) * x3.toInt64) + rl)), (3, .long ((L 58 21) * x2.toInt64))] [] (gE Lx) I L e (kcp (Wp 287) 287 64 0 [(0, .ref 58)] 71 [] Q)))
    else
     (if 0 < x2 then
      (if x5 = 0 then
       Wp 236 0 [(0, .ref 58), (1, .long (((L 58 22) * x3.toInt64) + rl)), (3, .long ((L 58 22) * x2.toInt64))] [] (gE Lx) I L e (kcp (Wp 287) 287 86 0 [(0, .ref 58), (1, .int x1)] 71 [] Q)
      else
       Wp 236 0 [(0, .ref 58), (1, .long (((L 58 21) * x3.toInt64) + rl)), (3, .long ((L 58 21) * x2.toInt64))] [] (gE Lx) I L e (kcp (Wp 287) 287 64 0 [(0, .ref 58)] 71 [] Q))
     else
      (if x5 = 0 then
       Wp 236 0 [(0, .ref 58), (1, .long (((L 58 22) * x3.toInt64) + (-rl))), (3, .long ((L 58 22) * x2.toInt64))] [] (gE Lx) I L e (kcp (Wp 287) 287 86 0 [(0, .ref 58), (1, .int x1)] 71 [] Q)
      else
       Wp 236 0 [(0, .ref 58), (1, .long (((L 58 21) * x3.toInt64) + (-rl))), (3, .long ((L 58 21) * x2.toInt64))] [] (gE Lx) I L e (kcp (Wp 287) 287 64 0 [(0, .ref 58)] 71 [] Q))))) :
    Wp 287 7 [(0, .ref 58), (1, .int x1), (2, .int x2), (3, .int x3), (4, .int x4), (5, .int x5)] [.long rl] (gE Lx) I L e Q := by
  refine w_a f_287_7 ?_
  refine w_a (ls := [(6, .long rl), (0, .ref 58), (1, .int x1), (2, .int x2), (3, .int x3), (4, .int x4), (5, .int x5)]) f_287_9 ?_
  refine w_a f_287_11 ?_
  refine i_m (fun h => ?_) (fun h => ?_) h
  · refine w_a f_287_14 ?_
    refine w_a f_287_15 ?_
    refine w_a f_287_19 ?_
    refine w_a f_287_20 ?_
    refine i_m (fun h => ?_) (fun h => ?_) h
    · refine w_a f_287_23 ?_
      refine w_a f_287_24 ?_
      refine w_a f_287_28 ?_
      refine w_a f_287_31 ?_
      refine w_a f_287_33 ?_
      refine w_a f_287_34 ?_
      refine w_a f_287_39 ?_
      refine w_a (ls := [(8, .long (-rl)), (6, .long rl), (0, .ref 58), (1, .int x1), (2, .int x2), (3, .int x3), (4, .int x4), (5, .int x5)]) f_287_41 ?_
      refine w_a f_287_43 ?_
      refine i_m (fun h => ?_) (fun h => ?_) h
      · refine w_a f_287_68 ?_
        refine w_a f_287_69 ?_
        refine w_a f_287_70 ?_
        refine w_a f_287_73 ?_
        refine w_a f_287_74 ?_
        refine w_a f_287_75 ?_
        refine w_a f_287_76 ?_
        refine w_a f_287_78 ?_
        refine w_a f_287_79 ?_
        refine w_a f_287_80 ?_
        refine w_a f_287_83 ?_
        refine w_a f_287_84 ?_
        refine w_a f_287_85 ?_
        exact w_c (ks := [0, 1]) f_287_86 rfl rfl h
      · refine w_a f_287_46 ?_
        refine w_a f_287_47 ?_
        refine w_a f_287_48 ?_
        refine w_a f_287_51 ?_
        refine w_a f_287_52 ?_
        refine w_a f_287_53 ?_
        refine w_a f_287_54 ?_
        refine w_a f_287_56 ?_
        refine w_a f_287_57 ?_
        refine w_a f_287_58 ?_
        refine w_a f_287_61 ?_
        refine w_a f_287_62 ?_
        refine w_a f_287_63 ?_
        exact w_c (ks := [0]) f_287_64 rfl rfl h
    · refine w_a f_287_27 ?_
      refine w_a f_287_28 ?_
      refine w_a f_287_37 ?_
      refine w_a f_287_39 ?_
      refine w_a (ls := [(8, .long rl), (6, .long rl), (0, .ref 58), (1, .int x1), (2, .int x2), (3, .int x3), (4, .int x4), (5, .int x5)]) f_287_41 ?_
      refine w_a f_287_43 ?_
      refine i_m (fun h => ?_) (fun h => ?_) h
      · refine w_a f_287_68 ?_
        refine w_a f_287_69 ?_
        refine w_a f_287_70 ?_
        refine w_a f_287_73 ?_
        refine w_a f_287_74 ?_
        refine w_a f_287_75 ?_
        refine w_a f_287_76 ?_
        refine w_a f_287_78 ?_
        refine w_a f_287_79 ?_
        refine w_a f_287_80 ?_
        refine w_a f_287_83 ?_
        refine w_a f_287_84 ?_
        refine w_a f_287_85 ?_
        exact w_c (ks := [0, 1]) f_287_86 rfl rfl h
      · refine w_a f_287_46 ?_
        refine w_a f_287_47 ?_
        refine w_a f_287_48 ?_
        refine w_a f_287_51 ?_
        refine w_a f_287_52 ?_
        refine w_a f_287_53 ?_
        refine w_a f_287_54 ?_
        refine w_a f_287_56 ?_
        refine w_a f_287_57 ?_
        refine w_a f_287_58 ?_
        refine w_a f_287_61 ?_
        refine w_a f_287_62 ?_
        refine w_a f_287_63 ?_
        exact w_c (ks := [0]) f_287_64 rfl rfl h
  · refine w_a f_287_18 ?_
    refine w_a f_287_19 ?_
    refine w_a f_287_20 ?_
    refine i_m (fun h => ?_) (fun h => ?_) h
    · refine w_a f_287_23 ?_
      refine w_a f_287_24 ?_
      refine w_a f_287_28 ?_
      refine w_a f_287_37 ?_
      refine w_a f_287_39 ?_
      refine w_a (ls := [(8, .long rl), (6, .long rl), (0, .ref 58), (1, .int x1), (2, .int x2), (3, .int x3), (4, .int x4), (5, .int x5)]) f_287_41 ?_
      refine w_a f_287_43 ?_
      refine i_m (fun h => ?_) (fun h => ?_) h
      · refine w_a f_287_68 ?_
        refine w_a f_287_69 ?_
        refine w_a f_287_70 ?_
        refine w_a f_287_73 ?_
        refine w_a f_287_74 ?_
        refine w_a f_287_75 ?_
        refine w_a f_287_76 ?_
        refine w_a f_287_78 ?_
        refine w_a f_287_79 ?_
        refine w_a f_287_80 ?_
        refine w_a f_287_83 ?_
        refine w_a f_287_84 ?_
        refine w_a f_287_85 ?_
        exact w_c (ks := [0, 1]) f_287_86 rfl rfl h
      · refine w_a f_287_46 ?_
        refine w_a f_287_47 ?_
        refine w_a f_287_48 ?_
        refine w_a f_287_51 ?_
        refine w_a f_287_52 ?_
        refine w_a f_287_53 ?_
        refine w_a f_287_54 ?_
        refine w_a f_287_56 ?_
        refine w_a f_287_57 ?_
        refine w_a f_287_58 ?_
        refine w_a f_287_61 ?_
        refine w_a f_287_62 ?_
        refine w_a f_287_63 ?_
        exact w_c (ks := [0]) f_287_64 rfl rfl h
    · refine w_a f_287_27 ?_
      refine w_a f_287_28 ?_
      refine w_a f_287_31 ?_
      refine w_a f_287_33 ?_
      refine w_a f_287_34 ?_
      refine w_a f_287_39 ?_
      refine w_a (ls := [(8, .long (-rl)), (6, .long rl), (0, .ref 58), (1, .int x1), (2, .int x2), (3, .int x3), (4, .int x4), (5, .int x5)]) f_287_41 ?_
      refine w_a f_287_43 ?_
      refine i_m (fun h => ?_) (fun h => ?_) h
      · refine w_a f_287_68 ?_
        refine w_a f_287_69 ?_
        refine w_a f_287_70 ?_
        refine w_a f_287_73 ?_
        refine w_a f_287_74 ?_
        refine w_a f_287_75 ?_
        refine w_a f_287_76 ?_
        refine w_a f_287_78 ?_
        refine w_a f_287_79 ?_
        refine w_a f_287_80 ?_
        refine w_a f_287_83 ?_
        refine w_a f_287_84 ?_
        refine w_a f_287_85 ?_
        exact w_c (ks := [0, 1]) f_287_86 rfl rfl h
      · refine w_a f_287_46 ?_
        refine w_a f_287_47 ?_
        refine w_a f_287_48 ?_
        refine w_a f_287_51 ?_
        refine w_a f_287_52 ?_
        refine w_a f_287_53 ?_
        refine w_a f_287_54 ?_
        refine w_a f_287_56 ?_
        refine w_a f_287_57 ?_
        refine w_a f_287_58 ?_
        refine w_a f_287_61 ?_
        refine w_a f_287_62 ?_
        refine w_a f_287_63 ?_
        exact w_c (ks := [0]) f_287_64 rfl rfl h
set_option maxRecDepth 10000 in
set_option maxHeartbeats 4000000 in
theorem s_287_67 {Lx : Nat} {I : Mi} {L : Ml} {e : Nat} {Q : Kq} (h :
    Q (.inl none) (gE Lx) I L e) :
    Wp 287 67 [(0, .ref 58)] [] (gE Lx) I L e Q := by
  refine w_a f_287_67 ?_
  exact h
set_option maxRecDepth 10000 in
set_option maxHeartbeats 4000000 in
theorem s_287_89 {Lx : Nat} {I : Mi} {L : Ml} {e : Nat} {Q : Kq} {x1 : Int32} (h :
    (if x1 = 0 then
     Wp 236 0 [(0, .ref 58), (1, .long ((-(L 58 15)) * (L 58 16))), (3, .long (((L 58 14) * (L 58 14)) + ((L 58 15) * (L 58 15))))] [] (gE Lx) I L e (kcp (Wp 287) 287 142 0 [(0, .ref 58), (10, .long (L 58 8)), (12, .long (L 58 9))] 71 [] Q)
    else
     Wp 236 0 [(0, .ref 58), (1, .long (L 58 15)), (3, .long (L 58 16))] [] (gE Lx) I L e (kcp (Wp 287) 287 114 0 [(0, .ref 58), (10, .long (L 58 8)), (12, .long (L 58 9))] 71 [] Q))) :
    Wp 287 89 [(0, .ref 58), (1, .int x1)] [] (gE Lx) I L e Q := by
  refine w_a f_287_89 ?_
  refine w_a f_287_90 ?_
  refine w_a f_287_93 ?_
  refine w_a (ls := [(10, .long (L 58 8)), (0, .ref 58), (1, .int x1)]) f_287_95 ?_
  refine w_a f_287_96 ?_
  refine w_a f_287_99 ?_
  refine w_a (ls := [(12, .long (L 58 9)), (10, .long (L 58 8)), (0, .ref 58), (1, .int x1)]) f_287_101 ?_
  refine w_a f_287_102 ?_
  refine i_m (fun h => ?_) (fun h => ?_) h
  · refine w_a f_287_120 ?_
    refine w_a f_287_121 ?_
    refine w_a f_287_122 ?_
    refine w_a f_287_125 ?_
    refine w_a f_287_126 ?_
    refine w_a f_287_127 ?_
    refine w_a f_287_130 ?_
    refine w_a f_287_131 ?_
    refine w_a f_287_132 ?_
    refine w_a f_287_135 ?_
    refine w_a f_287_136 ?_
    refine w_a f_287_139 ?_
    refine w_a (ls := [(0, .long (L 58 14)), (2, .long (L 58 15))]) f_235_0 ?_
    refine w_a f_235_1 ?_
    refine w_a f_235_2 ?_
    refine w_a f_235_3 ?_
    refine w_a f_235_4 ?_
    refine w_a f_235_5 ?_
    refine w_a f_235_6 ?_
    refine w_a f_235_7 ?_
    exact w_c (ls := [(12, .long (L 58 9)), (10, .long (L 58 8)), (0, .ref 58), (1, .int x1)]) (ks := [0, 10, 12]) f_287_142 rfl rfl h
  · refine w_a f_287_105 ?_
    refine w_a f_287_106 ?_
    refine w_a f_287_107 ?_
    refine w_a f_287_110 ?_
    refine w_a f_287_111 ?_
    exact w_c (ks := [0, 10, 12]) f_287_114 rfl rfl h
set_option maxRecDepth 10000 in
set_option maxHeartbeats 4000000 in
theorem s_287_117 {Lx : Nat} {I : Mi} {L : Ml} {e : Nat} {Q : Kq} {y10 : Int64} {y12 : Int64} (h :
    Wp 287 145 [(0, .ref 58), (10, .long y10), (12, .long y12)] [] (gE Lx) I L e Q) :
    Wp 287 117 [(0, .ref 58), (10, .long y10), (12, .long y12)] [] (gE Lx) I L e Q := by
  refine w_a f_287_117 ?_
  exact w_n (ks := [0, 10, 12]) rfl h
set_option maxRecDepth 10000 in
set_option maxHeartbeats 4000000 in
theorem s_287_145 {Lx : Nat} {I : Mi} {L : Ml} {e : Nat} {Q : Kq} {y10 : Int64} {y12 : Int64} (h :
    Wp 236 0 [(0, .ref 58), (1, .long ((y10 * (L 58 9)) - ((L 58 8) * y12))), (3, .long (y12 * (L 58 9)))] [] (gE Lx) I L e (kcp (Wp 287) 287 168 0 [(0, .ref 58)] 71 [] Q)) :
    Wp 287 145 [(0, .ref 58), (10, .long y10), (12, .long y12)] [] (gE Lx) I L e Q := by
  refine w_a f_287_145 ?_
  refine w_a f_287_146 ?_
  refine w_a f_287_148 ?_
  refine w_a f_287_149 ?_
  refine w_a f_287_152 ?_
  refine w_a f_287_153 ?_
  refine w_a f_287_154 ?_
  refine w_a f_287_157 ?_
  refine w_a f_287_159 ?_
  refine w_a f_287_160 ?_
  refine w_a f_287_161 ?_
  refine w_a f_287_163 ?_
  refine w_a f_287_164 ?_
  refine w_a f_287_167 ?_
  exact w_c (ks := [0]) f_287_168 rfl rfl h
set_option maxRecDepth 10000 in
set_option maxHeartbeats 4000000 in
theorem s_287_171 {Lx : Nat} {I : Mi} {L : Ml} {e : Nat} {Q : Kq} (h :
    Q (.inl none) (gE Lx) I L e) :
    Wp 287 171 [(0, .ref 58)] [] (gE Lx) I L e Q := by
  refine w_a f_287_171 ?_
  exact h
set_option maxRecDepth 10000 in
set_option maxHeartbeats 4000000 in
theorem s_288_14 {Lx : Nat} {I : Mi} {L : Ml} {e : Nat} {Q : Kq} {x2 : Int32} {x3 : Int32} {x4 : Int32} {r : Int32} (h :
    (if 0 < r then
     Q (.inl (some (.int (Int32.ofInt 0)))) (gE Lx) (ui I 58 0 r) L e
    else
     Wp 283 0 [(0, .ref 58), (1, .int x2), (2, .int x3), (3, .int x4)] [] (gE Lx) (ui I 58 0 r) L e (kcp (Wp 288) 288 31 0 [(0, .ref 58)] 71 [] Q))) :
    Wp 288 14 [(0, .ref 58), (2, .int x2), (3, .int x3), (4, .int x4)] [.int r, .ref 58] (gE Lx) I L e Q := by
  refine w_a f_288_14 ?_
  refine w_a f_288_17 ?_
  refine w_a f_288_18 ?_
  refine w_a f_288_21 ?_
  refine i_m (fun h => ?_) (fun h => ?_) h
  · refine w_a f_288_24 ?_
    refine w_a f_288_25 ?_
    exact h
  · refine w_a f_288_26 ?_
    refine w_a f_288_27 ?_
    refine w_a f_288_28 ?_
    refine w_a f_288_29 ?_
    exact w_c (ks := [0]) f_288_31 rfl rfl h
set_option maxRecDepth 10000 in
set_option maxHeartbeats 4000000 in
theorem s_288_34 {Lx : Nat} {I : Mi} {L : Ml} {e : Nat} {Q : Kq} (h :
    (if (L 58 21) = (Int64.ofInt 0) then
     Q (.inl (some (.int (Int32.ofInt 0)))) (gE Lx) I L e
    else
     (if (L 58 23) < (Int64.ofInt 0) then
      Q (.inl (some (.int (Int32.ofInt 0)))) (gE Lx) I L e
     else
      (if (L 58 23) = (Int64.ofInt 0) then
       Q (.inl (some (.int (Int32.ofInt 1)))) (gE Lx) I L e
      else
       Q (.inl (some (.int (Int32.ofInt 2)))) (gE Lx) I L e)))) :
    Wp 288 34 [(0, .ref 58)] [] (gE Lx) I L e Q := by
  refine w_a f_288_34 ?_
  refine w_a f_288_35 ?_
  refine w_a (ls := [(0, .ref 58)]) f_284_0 ?_
  refine w_a f_284_1 ?_
  refine w_a f_284_4 ?_
  refine w_a f_284_5 ?_
  refine i_m (fun h => ?_) (fun h => ?_) h
  · refine w_a f_284_18 ?_
    refine w_a f_284_19 ?_
    refine w_a f_284_36 ?_
    refine w_a (ls := [(0, .ref 58)]) f_288_38 ?_
    exact h
  · refine w_a f_284_9 ?_
    refine w_a f_284_10 ?_
    refine w_a f_284_13 ?_
    refine w_a f_284_14 ?_
    refine i_m (fun h => ?_) (fun h => ?_) h
    · refine w_a f_284_18 ?_
      refine w_a f_284_19 ?_
      refine w_a f_284_36 ?_
      refine w_a (ls := [(0, .ref 58)]) f_288_38 ?_
      exact h
    · refine w_a f_284_22 ?_
      refine w_a f_284_23 ?_
      refine w_a f_284_26 ?_
      refine w_a f_284_27 ?_
      refine i_m (fun h => ?_) (fun h => ?_) h
      · refine w_a f_284_31 ?_
        refine w_a f_284_32 ?_
        refine w_a f_284_36 ?_
        refine w_a (ls := [(0, .ref 58)]) f_288_38 ?_
        exact h
      · refine w_a f_284_35 ?_
        refine w_a f_284_36 ?_
        refine w_a (ls := [(0, .ref 58)]) f_288_38 ?_
        exact h
set_option maxRecDepth 10000 in
set_option maxHeartbeats 4000000 in
theorem s_289_18 {Lx : Nat} {I : Mi} {L : Ml} {e : Nat} {Q : Kq} {x1 : Int32} {x2 : Int32} {x3 : Int32} {x4 : Int32} {x5 : Int32} {x6 : Int32} {r : Int32} (h :
    (if r = 0 then
     Q (.inl (some (.int (Int32.ofInt 2)))) (gE Lx) I L e
    else
     (if x5 < (Int32.ofInt (-99)) then
      Q (.inl (some (.int (Int32.ofInt 2)))) (gE Lx) I L e
     else
      (if (Int32.ofInt 99) < x5 then
       Q (.inl (some (.int (Int32.ofInt 2)))) (gE Lx) I L e
      else
       (if x6 < (Int32.ofInt 1) then
        Q (.inl (some (.int (Int32.ofInt 2)))) (gE Lx) I L e
       else
        (if (Int32.ofInt 20) < x6 then
         Q (.inl (some (.int (Int32.ofInt 2)))) (gE Lx) I L e
        else
         Wp 251 0 [(0, .ref 58), (1, .int x1)] [] (gE Lx) I L e (kcp (Wp 274) 274 2 0 [(0, .ref 58), (2, .int x2)] 71 [] (kcp (Wp 289) 289 51 0 [(0, .ref 58), (2, .int x2), (3, .int x3), (4, .int x4), (5, .int x5), (6, .int x6)] 71 [] Q)))))))) :
    Wp 289 18 [(0, .ref 58), (1, .int x1), (2, .int x2), (3, .int x3), (4, .int x4), (5, .int x5), (6, .int x6)] [.int r] (gE Lx) I L e Q := by
  refine w_a f_289_18 ?_
  refine i_m (fun h => ?_) (fun h => ?_) h
  · refine w_a f_289_44 ?_
    refine w_a f_289_45 ?_
    refine w_a f_289_62 ?_
    refine w_a (ls := [(7, .int (Int32.ofInt 2)), (0, .ref 58), (1, .int x1), (2, .int x2), (3, .int x3), (4, .int x4), (5, .int x5), (6, .int x6)]) f_289_64 ?_
    refine w_a f_289_66 ?_
    refine w_a f_289_69 ?_
    refine w_a f_289_71 ?_
    exact h
  · refine w_a f_289_21 ?_
    refine w_a f_289_23 ?_
    refine w_a f_289_25 ?_
    refine w_a f_289_27 ?_
    refine w_a (ls := [(0, .int x5), (1, .int (Int32.ofInt (-99))), (2, .int (Int32.ofInt 99))]) f_208_0 ?_
    refine w_a f_208_1 ?_
    refine w_a f_208_2 ?_
    refine i_m (fun h => ?_) (fun h => ?_) h
    · refine w_a f_208_14 ?_
      refine w_a f_208_15 ?_
      refine w_a (ls := [(0, .ref 58), (1, .int x1), (2, .int x2), (3, .int x3), (4, .int x4), (5, .int x5), (6, .int x6)]) f_289_30 ?_
      refine w_a f_289_44 ?_
      refine w_a f_289_45 ?_
      refine w_a f_289_62 ?_
      refine w_a (ls := [(7, .int (Int32.ofInt 2)), (0, .ref 58), (1, .int x1), (2, .int x2), (3, .int x3), (4, .int x4), (5, .int x5), (6, .int x6)]) f_289_64 ?_
      refine w_a f_289_66 ?_
      refine w_a f_289_69 ?_
      refine w_a f_289_71 ?_
      exact h
    · refine w_a f_208_5 ?_
      refine w_a f_208_6 ?_
      refine w_a f_208_7 ?_
      refine i_m (fun h => ?_) (fun h => ?_) h
      · refine w_a f_208_14 ?_
        refine w_a f_208_15 ?_
        refine w_a (ls := [(0, .ref 58), (1, .int x1), (2, .int x2), (3, .int x3), (4, .int x4), (5, .int x5), (6, .int x6)]) f_289_30 ?_
        refine w_a f_289_44 ?_
        refine w_a f_289_45 ?_
        refine w_a f_289_62 ?_
        refine w_a (ls := [(7, .int (Int32.ofInt 2)), (0, .ref 58), (1, .int x1), (2, .int x2), (3, .int x3), (4, .int x4), (5, .int x5), (6, .int x6)]) f_289_64 ?_
        refine w_a f_289_66 ?_
        refine w_a f_289_69 ?_
        refine w_a f_289_71 ?_
        exact h
      · refine w_a f_208_10 ?_
        refine w_a f_208_11 ?_
        refine w_a f_208_15 ?_
        refine w_a (ls := [(0, .ref 58), (1, .int x1), (2, .int x2), (3, .int x3), (4, .int x4), (5, .int x5), (6, .int x6)]) f_289_30 ?_
        refine w_a f_289_33 ?_
        refine w_a f_289_35 ?_
        refine w_a f_289_36 ?_
        refine w_a f_289_38 ?_
        refine w_a (ls := [(0, .int x6), (1, .int (Int32.ofInt 1)), (2, .int (Int32.ofInt 20))]) f_208_0 ?_
        refine w_a f_208_1 ?_
        refine w_a f_208_2 ?_
        refine i_m (fun h => ?_) (fun h => ?_) h
        · refine w_a f_208_14 ?_
          refine w_a f_208_15 ?_
          refine w_a (ls := [(0, .ref 58), (1, .int x1), (2, .int x2), (3, .int x3), (4, .int x4), (5, .int x5), (6, .int x6)]) f_289_41 ?_
          refine w_a f_289_44 ?_
          refine w_a f_289_45 ?_
          refine w_a f_289_62 ?_
          refine w_a (ls := [(7, .int (Int32.ofInt 2)), (0, .ref 58), (1, .int x1), (2, .int x2), (3, .int x3), (4, .int x4), (5, .int x5), (6, .int x6)]) f_289_64 ?_
          refine w_a f_289_66 ?_
          refine w_a f_289_69 ?_
          refine w_a f_289_71 ?_
          exact h
        · refine w_a f_208_5 ?_
          refine w_a f_208_6 ?_
          refine w_a f_208_7 ?_
          refine i_m (fun h => ?_) (fun h => ?_) h
          · refine w_a f_208_14 ?_
            refine w_a f_208_15 ?_
            refine w_a (ls := [(0, .ref 58), (1, .int x1), (2, .int x2), (3, .int x3), (4, .int x4), (5, .int x5), (6, .int x6)]) f_289_41 ?_
            refine w_a f_289_44 ?_
            refine w_a f_289_45 ?_
            refine w_a f_289_62 ?_
            refine w_a (ls := [(7, .int (Int32.ofInt 2)), (0, .ref 58), (1, .int x1), (2, .int x2), (3, .int x3), (4, .int x4), (5, .int x5), (6, .int x6)]) f_289_64 ?_
            refine w_a f_289_66 ?_
            refine w_a f_289_69 ?_
            refine w_a f_289_71 ?_
            exact h
          · refine w_a f_208_10 ?_
            refine w_a f_208_11 ?_
            refine w_a f_208_15 ?_
            refine w_a (ls := [(0, .ref 58), (1, .int x1), (2, .int x2), (3, .int x3), (4, .int x4), (5, .int x5), (6, .int x6)]) f_289_41 ?_
            refine w_a f_289_48 ?_
            refine w_a f_289_49 ?_
            refine w_a f_289_50 ?_
            refine w_c (ks := [0, 2, 3, 4, 5, 6]) f_289_51 rfl rfl ?_
            refine w_a (ls := [(0, .ref 58), (1, .int x1), (2, .int x2)]) f_274_0 ?_
            refine w_a f_274_1 ?_
            exact w_c (ks := [0, 2]) f_274_2 rfl rfl h
set_option maxRecDepth 10000 in
set_option maxHeartbeats 4000000 in
theorem s_289_54 {Lx : Nat} {I : Mi} {L : Ml} {e : Nat} {Q : Kq} {x2 : Int32} {x3 : Int32} {x4 : Int32} {x5 : Int32} {x6 : Int32} {r : Int32} (h :
    (if r = 0 then
     Q (.inl (some (.int (Int32.ofInt 3)))) (gE Lx) I L e
    else
     Wp 228 0 [(0, .ref 58), (1, .long (L 58 14)), (3, .long (L 58 15)), (5, .long (L 58 16)), (7, .long (Int64.ofInt 0))] [] (gE Lx) I L e (kcp (Wp 276) 276 14 0 [(0, .ref 58)] 71 [] (kcp (Wp 289) 289 73 0 [(0, .ref 58), (2, .int x2), (3, .int x3), (4, .int x4), (5, .int x5), (6, .int x6)] 71 [] Q)))) :
    Wp 289 54 [(0, .ref 58), (2, .int x2), (3, .int x3), (4, .int x4), (5, .int x5), (6, .int x6)] [.int r] (gE Lx) I L e Q := by
  refine w_a f_289_54 ?_
  refine i_m (fun h => ?_) (fun h => ?_) h
  · refine w_a f_289_57 ?_
    refine w_a f_289_58 ?_
    refine w_a f_289_62 ?_
    refine w_a (ls := [(7, .int (Int32.ofInt 3)), (0, .ref 58), (2, .int x2), (3, .int x3), (4, .int x4), (5, .int x5), (6, .int x6)]) f_289_64 ?_
    refine w_a f_289_66 ?_
    refine w_a f_289_69 ?_
    refine w_a f_289_71 ?_
    exact h
  · refine w_a f_289_61 ?_
    refine w_a f_289_62 ?_
    refine w_a (ls := [(7, .int (Int32.ofInt 0)), (0, .ref 58), (2, .int x2), (3, .int x3), (4, .int x4), (5, .int x5), (6, .int x6)]) f_289_64 ?_
    refine w_a f_289_66 ?_
    refine w_a f_289_72 ?_
    refine w_c (ks := [0, 2, 3, 4, 5, 6]) f_289_73 rfl rfl ?_
    refine w_a (ls := [(0, .ref 58)]) f_276_0 ?_
    refine w_a f_276_1 ?_
    refine w_a f_276_2 ?_
    refine w_a f_276_5 ?_
    refine w_a f_276_6 ?_
    refine w_a f_276_9 ?_
    refine w_a f_276_10 ?_
    refine w_a f_276_13 ?_
    exact w_c (ks := [0]) f_276_14 rfl rfl h
set_option maxRecDepth 10000 in
set_option maxHeartbeats 4000000 in
theorem s_289_76 {Lx : Nat} {I : Mi} {L : Ml} {e : Nat} {Q : Kq} {x2 : Int32} {x3 : Int32} {x4 : Int32} {x5 : Int32} {x6 : Int32} (h :
    (if x2 = 0 then
     Wp 228 0 [(0, .ref 58), (1, .long (x6.toInt64 * (L 58 10))), (3, .long (x6.toInt64 * (L 58 11))), (5, .long ((x6.toInt64 * (L 58 12)) - (x5.toInt64 * (L 58 11)))), (7, .long ((x6.toInt64 * (L 58 13)) + (x5.toInt64 * (L 58 10))))] [] (gE Lx) I L e (kcp (Wp 290) 290 96 0 [(0, .ref 58)] 71 [] (kcp (Wp 289) 289 84 0 [(0, .ref 58), (2, .int x2), (3, .int x3), (4, .int x4)] 71 [] Q))
    else
     Wp 228 0 [(0, .ref 58), (1, .long ((x6.toInt64 * (L 58 10)) - (x5.toInt64 * (L 58 13)))), (3, .long ((x6.toInt64 * (L 58 11)) + (x5.toInt64 * (L 58 12)))), (5, .long (x6.toInt64 * (L 58 12))), (7, .long (x6.toInt64 * (L 58 13)))] [] (gE Lx) I L e (kcp (Wp 290) 290 59 0 [(0, .ref 58)] 71 [] (kcp (Wp 289) 289 84 0 [(0, .ref 58), (2, .int x2), (3, .int x3), (4, .int x4)] 71 [] Q)))) :
    Wp 289 76 [(0, .ref 58), (2, .int x2), (3, .int x3), (4, .int x4), (5, .int x5), (6, .int x6)] [] (gE Lx) I L e Q := by
  refine w_a f_289_76 ?_
  refine w_a f_289_77 ?_
  refine w_a f_289_78 ?_
  refine w_a f_289_80 ?_
  refine w_a f_289_81 ?_
  refine w_a f_289_83 ?_
  refine w_c (ks := [0, 2, 3, 4]) f_289_84 rfl rfl ?_
  refine w_a (ls := [(0, .ref 58), (1, .int x2), (2, .long x5.toInt64), (4, .long x6.toInt64)]) f_290_0 ?_
  refine w_a f_290_1 ?_
  refine w_a f_290_4 ?_
  refine w_a (ls := [(6, .long (L 58 10)), (0, .ref 58), (1, .int x2), (2, .long x5.toInt64), (4, .long x6.toInt64)]) f_290_6 ?_
  refine w_a f_290_7 ?_
  refine w_a f_290_10 ?_
  refine w_a (ls := [(8, .long (L 58 11)), (6, .long (L 58 10)), (0, .ref 58), (1, .int x2), (2, .long x5.toInt64), (4, .long x6.toInt64)]) f_290_12 ?_
  refine w_a f_290_13 ?_
  refine w_a f_290_16 ?_
  refine w_a (ls := [(10, .long (L 58 12)), (8, .long (L 58 11)), (6, .long (L 58 10)), (0, .ref 58), (1, .int x2), (2, .long x5.toInt64), (4, .long x6.toInt64)]) f_290_18 ?_
  refine w_a f_290_19 ?_
  refine w_a f_290_22 ?_
  refine w_a (ls := [(12, .long (L 58 13)), (10, .long (L 58 12)), (8, .long (L 58 11)), (6, .long (L 58 10)), (0, .ref 58), (1, .int x2), (2, .long x5.toInt64), (4, .long x6.toInt64)]) f_290_24 ?_
  refine w_a f_290_25 ?_
  refine i_m (fun h => ?_) (fun h => ?_) h
  · refine w_a f_290_65 ?_
    refine w_a f_290_66 ?_
    refine w_a f_290_68 ?_
    refine w_a f_290_70 ?_
    refine w_a f_290_71 ?_
    refine w_a f_290_73 ?_
    refine w_a f_290_75 ?_
    refine w_a f_290_76 ?_
    refine w_a f_290_78 ?_
    refine w_a f_290_80 ?_
    refine w_a f_290_81 ?_
    refine w_a f_290_82 ?_
    refine w_a f_290_84 ?_
    refine w_a f_290_85 ?_
    refine w_a f_290_86 ?_
    refine w_a f_290_88 ?_
    refine w_a f_290_90 ?_
    refine w_a f_290_91 ?_
    refine w_a f_290_92 ?_
    refine w_a f_290_94 ?_
    refine w_a f_290_95 ?_
    exact w_c (ks := [0]) f_290_96 rfl rfl h
  · refine w_a f_290_28 ?_
    refine w_a f_290_29 ?_
    refine w_a f_290_31 ?_
    refine w_a f_290_33 ?_
    refine w_a f_290_34 ?_
    refine w_a f_290_35 ?_
    refine w_a f_290_37 ?_
    refine w_a f_290_38 ?_
    refine w_a f_290_39 ?_
    refine w_a f_290_41 ?_
    refine w_a f_290_43 ?_
    refine w_a f_290_44 ?_
    refine w_a f_290_45 ?_
    refine w_a f_290_47 ?_
    refine w_a f_290_48 ?_
    refine w_a f_290_49 ?_
    refine w_a f_290_51 ?_
    refine w_a f_290_53 ?_
    refine w_a f_290_54 ?_
    refine w_a f_290_56 ?_
    refine w_a f_290_58 ?_
    exact w_c (ks := [0]) f_290_59 rfl rfl h
set_option maxRecDepth 10000 in
set_option maxHeartbeats 4000000 in
theorem s_289_87 {Lx : Nat} {I : Mi} {L : Ml} {e : Nat} {Q : Kq} {x2 : Int32} {x3 : Int32} {x4 : Int32} (h :
    Wp 229 0 [(0, .ref 58), (1, .int (Int32.ofInt 0)), (2, .long x3.toInt64), (4, .long x4.toInt64)] [] (gE Lx) I L e (kcp (Wp 289) 289 94 0 [(0, .ref 58), (2, .int x2)] 71 [] Q)) :
    Wp 289 87 [(0, .ref 58), (2, .int x2), (3, .int x3), (4, .int x4)] [] (gE Lx) I L e Q := by
  refine w_a f_289_87 ?_
  refine w_a f_289_88 ?_
  refine w_a f_289_89 ?_
  refine w_a f_289_90 ?_
  refine w_a f_289_91 ?_
  refine w_a f_289_93 ?_
  exact w_c (ks := [0, 2]) f_289_94 rfl rfl h
set_option maxRecDepth 10000 in
set_option maxHeartbeats 4000000 in
theorem s_289_97 {Lx : Nat} {I : Mi} {L : Ml} {e : Nat} {Q : Kq} {x2 : Int32} (h :
    Wp 252 0 [(0, .ref 58)] [] (gE Lx) I L e (kcp (Wp 289) 289 98 0 [(0, .ref 58), (2, .int x2)] 71 [] Q)) :
    Wp 289 97 [(0, .ref 58), (2, .int x2)] [] (gE Lx) I L e Q := by
  refine w_a f_289_97 ?_
  exact w_c (ks := [0, 2]) f_289_98 rfl rfl h
set_option maxRecDepth 10000 in
set_option maxHeartbeats 4000000 in
theorem s_289_101 {Lx : Nat} {I : Mi} {L : Ml} {e : Nat} {Q : Kq} {x2 : Int32} {r : Int32} (h :
    (if r = 0 then
     Q (.inl (some (.int (Int32.ofInt 3)))) (gE Lx) I L e
    else
     (if x2 = 0 then
      (if (L 58 14) = (Int64.ofInt 0) then
       (if (L 58 15) = (Int64.ofInt 0) then
        Q (.inl (some (.int (Int32.ofInt 3)))) (gE Lx) I L e
       else
        Q (.inl (some (.int (Int32.ofInt 0)))) (gE Lx) I L e)
      else
       Q (.inl (some (.int (Int32.ofInt 0)))) (gE Lx) I L e)
     else
      Q (.inl (some (.int (Int32.ofInt 0)))) (gE Lx) I L e))) :
    Wp 289 101 [(0, .ref 58), (2, .int x2)] [.int r] (gE Lx) I L e Q := by
  refine w_a f_289_101 ?_
  refine i_m (fun h => ?_) (fun h => ?_) h
  · refine w_a f_289_119 ?_
    refine w_a f_289_120 ?_
    exact h
  · refine w_a f_289_104 ?_
    refine w_a f_289_105 ?_
    refine i_m (fun h => ?_) (fun h => ?_) h
    · refine w_a f_289_108 ?_
      refine w_a f_289_109 ?_
      refine w_a (ls := [(0, .ref 58)]) f_275_0 ?_
      refine w_a f_275_1 ?_
      refine w_a f_275_4 ?_
      refine w_a f_275_5 ?_
      refine i_m (fun h => ?_) (fun h => ?_) h
      · refine w_a f_275_9 ?_
        refine w_a f_275_10 ?_
        refine w_a f_275_13 ?_
        refine w_a f_275_14 ?_
        refine i_m (fun h => ?_) (fun h => ?_) h
        · refine w_a f_275_18 ?_
          refine w_a f_275_19 ?_
          refine w_a f_275_23 ?_
          refine w_a (ls := [(0, .ref 58), (2, .int x2)]) f_289_112 ?_
          refine w_a f_289_119 ?_
          refine w_a f_289_120 ?_
          exact h
        · refine w_a f_275_22 ?_
          refine w_a f_275_23 ?_
          refine w_a (ls := [(0, .ref 58), (2, .int x2)]) f_289_112 ?_
          refine w_a f_289_115 ?_
          refine w_a f_289_116 ?_
          refine w_a f_289_120 ?_
          exact h
      · refine w_a f_275_22 ?_
        refine w_a f_275_23 ?_
        refine w_a (ls := [(0, .ref 58), (2, .int x2)]) f_289_112 ?_
        refine w_a f_289_115 ?_
        refine w_a f_289_116 ?_
        refine w_a f_289_120 ?_
        exact h
    · refine w_a f_289_115 ?_
      refine w_a f_289_116 ?_
      refine w_a f_289_120 ?_
      exact h
set_option maxRecDepth 10000 in
set_option maxHeartbeats 4000000 in
theorem s_290_62 {Lx : Nat} {I : Mi} {L : Ml} {e : Nat} {Q : Kq} (h :
    Wp 290 99 [(0, .ref 58)] [] (gE Lx) I L e Q) :
    Wp 290 62 [(0, .ref 58)] [] (gE Lx) I L e Q := by
  refine w_a f_290_62 ?_
  exact w_n (ks := [0]) rfl h
set_option maxRecDepth 10000 in
set_option maxHeartbeats 4000000 in
theorem s_290_99 {Lx : Nat} {I : Mi} {L : Ml} {e : Nat} {Q : Kq} (h :
    Q (.inl none) (gE Lx) I L e) :
    Wp 290 99 [(0, .ref 58)] [] (gE Lx) I L e Q := by
  refine w_a f_290_99 ?_
  exact h
set_option maxRecDepth 10000 in
set_option maxHeartbeats 4000000 in
theorem s_291_14 {Lx : Nat} {I : Mi} {L : Ml} {e : Nat} {Q : Kq} {x2 : Int32} {x3 : Int32} {x4 : Int32} {x7 : Int32} {x8 : Int32} {x9 : Int32} {r : Int32} (h :
    (if 0 < r then
     Wp 291 42 [(0, .ref 58)] [.long (Int64.ofInt 0)] (gE Lx) (ui I 58 0 r) L e Q
    else
     Wp 283 0 [(0, .ref 58), (1, .int x2), (2, .int x3), (3, .int x4)] [] (gE Lx) (ui I 58 0 r) L e (kcp (Wp 286) 286 4 0 [(0, .ref 58), (1, .int x2), (2, .int x3), (3, .int x4), (4, .int x7), (5, .int x8), (6, .int x9)] 71 [] (kcp (Wp 291) 291 39 0 [(0, .ref 58)] 71 [] Q)))) :
    Wp 291 14 [(0, .ref 58), (2, .int x2), (3, .int x3), (4, .int x4), (7, .int x7), (8, .int x8), (9, .int x9)] [.int r, .ref 58] (gE Lx) I L e Q := by
  refine w_a f_291_14 ?_
  refine w_a f_291_17 ?_
  refine w_a f_291_18 ?_
  refine w_a f_291_21 ?_
  refine i_m (fun h => ?_) (fun h => ?_) h
  · refine w_a f_291_24 ?_
    refine w_a f_291_25 ?_
    exact w_n (ks := [0]) rfl h
  · refine w_a f_291_28 ?_
    refine w_a f_291_29 ?_
    refine w_a f_291_30 ?_
    refine w_a f_291_31 ?_
    refine w_a f_291_33 ?_
    refine w_a f_291_35 ?_
    refine w_a f_291_37 ?_
    refine w_c (ks := [0]) f_291_39 rfl rfl ?_
    refine w_a (ls := [(0, .ref 58), (1, .int x2), (2, .int x3), (3, .int x4), (4, .int x7), (5, .int x8), (6, .int x9)]) f_286_0 ?_
    refine w_a f_286_1 ?_
    refine w_a f_286_2 ?_
    refine w_a f_286_3 ?_
    exact w_c (ks := [0, 1, 2, 3, 4, 5, 6]) f_286_4 rfl rfl h
set_option maxRecDepth 10000 in
set_option maxHeartbeats 4000000 in
theorem s_291_42 {Lx : Nat} {I : Mi} {L : Ml} {e : Nat} {Q : Kq} {rl : Int64} (h :
    Q (.inl (some (.long rl))) (gE Lx) I L e) :
    Wp 291 42 [(0, .ref 58)] [.long rl] (gE Lx) I L e Q := by
  refine w_a f_291_42 ?_
  exact h
set_option maxRecDepth 10000 in
set_option maxHeartbeats 4000000 in
theorem s_292_10 {Lx : Nat} {I : Mi} {L : Ml} {e : Nat} {Q : Kq} {x2 : Int32} {x3 : Int32} {x4 : Int32} {x5 : Int32} {r : Int32} (h :
    (if 0 < r then
     Q (.inl (some (.int (Int32.ofInt 0)))) (gE Lx) (ui I 58 0 r) L e
    else
     Wp 292 25 [(0, .ref 58), (2, .int x2), (3, .int x3), (4, .int x4), (5, .int x5), (6, .int (Int32.ofInt 0))] [] (gE Lx) (ui I 58 0 r) L e Q)) :
    Wp 292 10 [(0, .ref 58), (2, .int x2), (3, .int x3), (4, .int x4), (5, .int x5)] [.int r, .ref 58] (gE Lx) I L e Q := by
  refine w_a f_292_10 ?_
  refine w_a f_292_13 ?_
  refine w_a f_292_14 ?_
  refine w_a f_292_17 ?_
  refine i_m (fun h => ?_) (fun h => ?_) h
  · refine w_a f_292_20 ?_
    refine w_a f_292_21 ?_
    exact h
  · refine w_a f_292_22 ?_
    refine w_a f_292_23 ?_
    exact w_n (ks := [0, 2, 3, 4, 5, 6]) rfl h
set_option maxRecDepth 10000 in
set_option maxHeartbeats 4000000 in
theorem s_292_25 {Lx : Nat} {I : Mi} {L : Ml} {e : Nat} {Q : Kq} {x2 : Int32} {x3 : Int32} {x4 : Int32} {x5 : Int32} {x6 : Int32} (h :
    (if x6 < (I 58 7) then
     Wp 228 0 [(0, .ref 58), (1, .long (L 58 14)), (3, .long (L 58 15)), (5, .long (L 58 16)), (7, .long (Int64.ofInt 0))] [] (gE Lx) I L e (kcp (Wp 276) 276 14 0 [(0, .ref 58)] 71 [] (kcp (Wp 292) 292 35 0 [(0, .ref 58), (2, .int x2), (3, .int x3), (4, .int x4), (5, .int x5), (6, .int x6)] 71 [] Q))
    else
     Q (.inl (some (.int (Int32.ofInt 0)))) (gE Lx) (ui I 58 0 (Int32.ofInt 3)) L e)) :
    Wp 292 25 [(0, .ref 58), (2, .int x2), (3, .int x3), (4, .int x4), (5, .int x5), (6, .int x6)] [] (gE Lx) I L e Q := by
  refine w_a f_292_25 ?_
  refine w_a f_292_27 ?_
  refine w_a f_292_28 ?_
  refine w_a f_292_31 ?_
  refine i_m (fun h => ?_) (fun h => ?_) h
  · refine w_a f_292_34 ?_
    refine w_c (ks := [0, 2, 3, 4, 5, 6]) f_292_35 rfl rfl ?_
    refine w_a (ls := [(0, .ref 58)]) f_276_0 ?_
    refine w_a f_276_1 ?_
    refine w_a f_276_2 ?_
    refine w_a f_276_5 ?_
    refine w_a f_276_6 ?_
    refine w_a f_276_9 ?_
    refine w_a f_276_10 ?_
    refine w_a f_276_13 ?_
    exact w_c (ks := [0]) f_276_14 rfl rfl h
  · refine w_a f_292_99 ?_
    refine w_a f_292_100 ?_
    refine w_a f_292_101 ?_
    refine w_a f_292_104 ?_
    refine w_a f_292_105 ?_
    exact h
set_option maxRecDepth 10000 in
set_option maxHeartbeats 4000000 in
theorem s_292_38 {Lx : Nat} {I : Mi} {L : Ml} {e : Nat} {Q : Kq} {x2 : Int32} {x3 : Int32} {x4 : Int32} {x5 : Int32} {x6 : Int32} (h :
    (inb x6 184 (
     (inb x6 184 (
      Wp 229 0 [(0, .ref 58), (1, .int (Int32.ofInt 0)), (2, .long (I 61 x6.toNatClampNeg).toInt64), (4, .long (I 62 x6.toNatClampNeg).toInt64)] [] (gE Lx) I L e (kcp (Wp 292) 292 56 0 [(0, .ref 58), (2, .int x2), (3, .int x3), (4, .int x4), (5, .int x5), (6, .int x6)] 71 [] Q))
     False))
    False)) :
    Wp 292 38 [(0, .ref 58), (2, .int x2), (3, .int x3), (4, .int x4), (5, .int x5), (6, .int x6)] [] (gE Lx) I L e Q := by
  refine w_a f_292_38 ?_
  refine w_a f_292_39 ?_
  refine w_a f_292_40 ?_
  refine w_a f_292_41 ?_
  refine w_a f_292_44 ?_
  refine w_a f_292_46 ?_
  refine n_m (fun h => ?_) h
  refine w_a f_292_47 ?_
  refine w_a f_292_48 ?_
  refine w_a f_292_49 ?_
  refine w_a f_292_52 ?_
  refine w_a f_292_54 ?_
  refine n_m (fun h => ?_) h
  refine w_a f_292_55 ?_
  exact w_c (ks := [0, 2, 3, 4, 5, 6]) f_292_56 rfl rfl h
set_option maxRecDepth 10000 in
set_option maxHeartbeats 4000000 in
theorem s_292_59 {Lx : Nat} {I : Mi} {L : Ml} {e : Nat} {Q : Kq} {x2 : Int32} {x3 : Int32} {x4 : Int32} {x5 : Int32} {x6 : Int32} (h :
    (if x2 = 0 then
     (if (((L 58 10) * (L 58 12)) + ((L 58 11) * (L 58 13))) = (Int64.ofInt 0) then
      Wp 292 25 [(0, .ref 58), (2, .int x2), (3, .int x3), (4, .int x4), (5, .int x5), (6, .int (x6 + Int32.ofInt 1))] [] (gE Lx) I L e Q
     else
      (if (((L 58 10) * (L 58 10)) + ((L 58 11) * (L 58 11))) = (Int64.ofInt 0) then
       Wp 292 25 [(0, .ref 58), (2, .int x2), (3, .int x3), (4, .int x4), (5, .int x5), (6, .int (x6 + Int32.ofInt 1))] [] (gE Lx) I L e Q
      else
       (if ((((L 58 10) * (L 58 10)) + ((L 58 11) * (L 58 11))) * ((x3.toInt64 * x3.toInt64) + (x4.toInt64 * x4.toInt64))) < (((((L 58 10) * (L 58 12)) + ((L 58 11) * (L 58 13))) * x3.toInt64) * x3.toInt64) then
        Wp 292 25 [(0, .ref 58), (2, .int x2), (3, .int x3), (4, .int x4), (5, .int x5), (6, .int (x6 + Int32.ofInt 1))] [] (gE Lx) I L e Q
       else
        (if x5 = 0 then
         (inb x6 184 (
          Q (.inl (some (.int (I 61 x6.toNatClampNeg)))) (gE Lx) I L e)
         False)
        else
         (inb x6 184 (
          Q (.inl (some (.int (I 62 x6.toNatClampNeg)))) (gE Lx) I L e)
         False)))))
    else
     (if (((L 58 10) * (L 58 12)) + ((L 58 11) * (L 58 13))) = (Int64.ofInt 0) then
      Wp 292 25 [(0, .ref 58), (2, .int x2), (3, .int x3), (4, .int x4), (5, .int x5), (6, .int (x6 + Int32.ofInt 1))] [] (gE Lx) I L e Q
     else
      (if (((L 58 12) * (L 58 12)) + ((L 58 13) * (L 58 13))) = (Int64.ofInt 0) then
       Wp 292 25 [(0, .ref 58), (2, .int x2), (3, .int x3), (4, .int x4), (5, .int x5), (6, .int (x6 + Int32.ofInt 1))] [] (gE Lx) I L e Q
      else
       (if ((((L 58 12) * (L 58 12)) + ((L 58 13) * (L 58 13))) * ((x3.toInt64 * x3.toInt64) + (x4.toInt64 * x4.toInt64))) < (((((L 58 10) * (L 58 12)) + ((L 58 11) * (L 58 13))) * x3.toInt64) * x3.toInt64) then
        Wp 292 25 [(0, .ref 58), (2, .int x2), (3, .int x3), (4, .int x4), (5, .int x5), (6, .int (x6 + Int32.ofInt 1))] [] (gE Lx) I L e Q
       else
        (if x5 = 0 then
         (inb x6 184 (
          Q (.inl (some (.int (I 61 x6.toNatClampNeg)))) (gE Lx) I L e)
         False)
        else
         (inb x6 184 (
          Q (.inl (some (.int (I 62 x6.toNatClampNeg)))) (gE Lx) I L e)
         False))))))) :
    Wp 292 59 [(0, .ref 58), (2, .int x2), (3, .int x3), (4, .int x4), (5, .int x5), (6, .int x6)] [] (gE Lx) I L e Q := by
  refine w_a f_292_59 ?_
  refine w_a f_292_60 ?_
  refine w_a f_292_61 ?_
  refine w_a f_292_62 ?_
  refine w_a f_292_64 ?_
  refine w_a (ls := [(0, .ref 58), (1, .int x2), (2, .int x3), (3, .int x4)]) f_294_0 ?_
  refine w_a f_294_1 ?_
  refine w_a (ls := [(0, .ref 58)]) f_277_0 ?_
  refine w_a f_277_1 ?_
  refine w_a f_277_4 ?_
  refine w_a f_277_5 ?_
  refine w_a f_277_8 ?_
  refine w_a f_277_9 ?_
  refine w_a f_277_10 ?_
  refine w_a f_277_13 ?_
  refine w_a f_277_14 ?_
  refine w_a f_277_17 ?_
  refine w_a f_277_18 ?_
  refine w_a f_277_19 ?_
  refine w_a (ls := [(0, .ref 58), (1, .int x2), (2, .int x3), (3, .int x4)]) f_294_4 ?_
  refine w_a (ls := [(4, .long (((L 58 10) * (L 58 12)) + ((L 58 11) * (L 58 13)))), (0, .ref 58), (1, .int x2), (2, .int x3), (3, .int x4)]) f_294_6 ?_
  refine w_a f_294_7 ?_
  refine w_a f_294_8 ?_
  refine w_a (ls := [(0, .ref 58), (1, .int x2)]) f_278_0 ?_
  refine w_a f_278_1 ?_
  refine i_m (fun h => ?_) (fun h => ?_) h
  · refine w_a f_278_18 ?_
    refine w_a f_278_19 ?_
    refine w_a f_278_22 ?_
    refine w_a f_278_23 ?_
    refine w_a f_278_26 ?_
    refine w_a (ls := [(0, .long (L 58 10)), (2, .long (L 58 11))]) f_235_0 ?_
    refine w_a f_235_1 ?_
    refine w_a f_235_2 ?_
    refine w_a f_235_3 ?_
    refine w_a f_235_4 ?_
    refine w_a f_235_5 ?_
    refine w_a f_235_6 ?_
    refine w_a f_235_7 ?_
    refine w_a (ls := [(0, .ref 58), (1, .int x2)]) f_278_29 ?_
    refine w_a (ls := [(4, .long (((L 58 10) * (L 58 12)) + ((L 58 11) * (L 58 13)))), (0, .ref 58), (1, .int x2), (2, .int x3), (3, .int x4)]) f_294_11 ?_
    refine w_a (ls := [(6, .long (((L 58 10) * (L 58 10)) + ((L 58 11) * (L 58 11)))), (4, .long (((L 58 10) * (L 58 12)) + ((L 58 11) * (L 58 13)))), (0, .ref 58), (1, .int x2), (2, .int x3), (3, .int x4)]) f_294_13 ?_
    refine w_a f_294_15 ?_
    refine w_a f_294_16 ?_
    refine i_m (fun h => ?_) (fun h => ?_) h
    · refine w_a f_294_49 ?_
      refine w_a f_294_50 ?_
      refine w_a f_294_54 ?_
      refine w_a (ls := [(0, .ref 58), (2, .int x2), (3, .int x3), (4, .int x4), (5, .int x5), (6, .int x6)]) f_292_67 ?_
      refine w_a f_292_93 ?_
      refine w_a (ls := [(6, .int (x6 + Int32.ofInt 1)), (0, .ref 58), (2, .int x2), (3, .int x3), (4, .int x4), (5, .int x5)]) f_292_96 ?_
      exact w_n (ks := [0, 2, 3, 4, 5, 6]) rfl h
    · refine w_a f_294_20 ?_
      refine w_a f_294_22 ?_
      refine w_a f_294_23 ?_
      refine i_m (fun h => ?_) (fun h => ?_) h
      · refine w_a f_294_49 ?_
        refine w_a f_294_50 ?_
        refine w_a f_294_54 ?_
        refine w_a (ls := [(0, .ref 58), (2, .int x2), (3, .int x3), (4, .int x4), (5, .int x5), (6, .int x6)]) f_292_67 ?_
        refine w_a f_292_93 ?_
        refine w_a (ls := [(6, .int (x6 + Int32.ofInt 1)), (0, .ref 58), (2, .int x2), (3, .int x3), (4, .int x4), (5, .int x5)]) f_292_96 ?_
        exact w_n (ks := [0, 2, 3, 4, 5, 6]) rfl h
      · refine w_a f_294_27 ?_
        refine w_a f_294_29 ?_
        refine w_a f_294_30 ?_
        refine w_a f_294_31 ?_
        refine w_a f_294_32 ?_
        refine w_a f_294_33 ?_
        refine w_a f_294_34 ?_
        refine w_a f_294_35 ?_
        refine w_a f_294_37 ?_
        refine w_a f_294_38 ?_
        refine w_a f_294_39 ?_
        refine w_a f_294_40 ?_
        refine w_a f_294_41 ?_
        refine w_a (ls := [(0, .long x3.toInt64), (2, .long x4.toInt64)]) f_235_0 ?_
        refine w_a f_235_1 ?_
        refine w_a f_235_2 ?_
        refine w_a f_235_3 ?_
        refine w_a f_235_4 ?_
        refine w_a f_235_5 ?_
        refine w_a f_235_6 ?_
        refine w_a f_235_7 ?_
        refine w_a (ls := [(6, .long (((L 58 10) * (L 58 10)) + ((L 58 11) * (L 58 11)))), (4, .long (((L 58 10) * (L 58 12)) + ((L 58 11) * (L 58 13)))), (0, .ref 58), (1, .int x2), (2, .int x3), (3, .int x4)]) f_294_44 ?_
        refine w_a f_294_45 ?_
        refine i_m (fun h => ?_) (fun h => ?_) h
        · refine w_a f_294_49 ?_
          refine w_a f_294_50 ?_
          refine w_a f_294_54 ?_
          refine w_a (ls := [(0, .ref 58), (2, .int x2), (3, .int x3), (4, .int x4), (5, .int x5), (6, .int x6)]) f_292_67 ?_
          refine w_a f_292_93 ?_
          refine w_a (ls := [(6, .int (x6 + Int32.ofInt 1)), (0, .ref 58), (2, .int x2), (3, .int x3), (4, .int x4), (5, .int x5)]) f_292_96 ?_
          exact w_n (ks := [0, 2, 3, 4, 5, 6]) rfl h
        · refine w_a f_294_53 ?_
          refine w_a f_294_54 ?_
          refine w_a (ls := [(0, .ref 58), (2, .int x2), (3, .int x3), (4, .int x4), (5, .int x5), (6, .int x6)]) f_292_67 ?_
          refine w_a f_292_70 ?_
          refine w_a f_292_72 ?_
          refine i_m (fun h => ?_) (fun h => ?_) h
          · refine w_a f_292_85 ?_
            refine w_a f_292_86 ?_
            refine w_a f_292_89 ?_
            refine w_a f_292_91 ?_
            refine n_m (fun h => ?_) h
            refine w_a f_292_92 ?_
            exact h
          · refine w_a f_292_75 ?_
            refine w_a f_292_76 ?_
            refine w_a f_292_79 ?_
            refine w_a f_292_81 ?_
            refine n_m (fun h => ?_) h
            refine w_a f_292_82 ?_
            refine w_a f_292_92 ?_
            exact h
  · refine w_a f_278_4 ?_
    refine w_a f_278_5 ?_
    refine w_a f_278_8 ?_
    refine w_a f_278_9 ?_
    refine w_a f_278_12 ?_
    refine w_a (ls := [(0, .long (L 58 12)), (2, .long (L 58 13))]) f_235_0 ?_
    refine w_a f_235_1 ?_
    refine w_a f_235_2 ?_
    refine w_a f_235_3 ?_
    refine w_a f_235_4 ?_
    refine w_a f_235_5 ?_
    refine w_a f_235_6 ?_
    refine w_a f_235_7 ?_
    refine w_a (ls := [(0, .ref 58), (1, .int x2)]) f_278_15 ?_
    refine w_a f_278_29 ?_
    refine w_a (ls := [(4, .long (((L 58 10) * (L 58 12)) + ((L 58 11) * (L 58 13)))), (0, .ref 58), (1, .int x2), (2, .int x3), (3, .int x4)]) f_294_11 ?_
    refine w_a (ls := [(6, .long (((L 58 12) * (L 58 12)) + ((L 58 13) * (L 58 13)))), (4, .long (((L 58 10) * (L 58 12)) + ((L 58 11) * (L 58 13)))), (0, .ref 58), (1, .int x2), (2, .int x3), (3, .int x4)]) f_294_13 ?_
    refine w_a f_294_15 ?_
    refine w_a f_294_16 ?_
    refine i_m (fun h => ?_) (fun h => ?_) h
    · refine w_a f_294_49 ?_
      refine w_a f_294_50 ?_
      refine w_a f_294_54 ?_
      refine w_a (ls := [(0, .ref 58), (2, .int x2), (3, .int x3), (4, .int x4), (5, .int x5), (6, .int x6)]) f_292_67 ?_
      refine w_a f_292_93 ?_
      refine w_a (ls := [(6, .int (x6 + Int32.ofInt 1)), (0, .ref 58), (2, .int x2), (3, .int x3), (4, .int x4), (5, .int x5)]) f_292_96 ?_
      exact w_n (ks := [0, 2, 3, 4, 5, 6]) rfl h
    · refine w_a f_294_20 ?_
      refine w_a f_294_22 ?_
      refine w_a f_294_23 ?_
      refine i_m (fun h => ?_) (fun h => ?_) h
      · refine w_a f_294_49 ?_
        refine w_a f_294_50 ?_
        refine w_a f_294_54 ?_
        refine w_a (ls := [(0, .ref 58), (2, .int x2), (3, .int x3), (4, .int x4), (5, .int x5), (6, .int x6)]) f_292_67 ?_
        refine w_a f_292_93 ?_
        refine w_a (ls := [(6, .int (x6 + Int32.ofInt 1)), (0, .ref 58), (2, .int x2), (3, .int x3), (4, .int x4), (5, .int x5)]) f_292_96 ?_
        exact w_n (ks := [0, 2, 3, 4, 5, 6]) rfl h
      · refine w_a f_294_27 ?_
        refine w_a f_294_29 ?_
        refine w_a f_294_30 ?_
        refine w_a f_294_31 ?_
        refine w_a f_294_32 ?_
        refine w_a f_294_33 ?_
        refine w_a f_294_34 ?_
        refine w_a f_294_35 ?_
        refine w_a f_294_37 ?_
        refine w_a f_294_38 ?_
        refine w_a f_294_39 ?_
        refine w_a f_294_40 ?_
        refine w_a f_294_41 ?_
        refine w_a (ls := [(0, .long x3.toInt64), (2, .long x4.toInt64)]) f_235_0 ?_
        refine w_a f_235_1 ?_
        refine w_a f_235_2 ?_
        refine w_a f_235_3 ?_
        refine w_a f_235_4 ?_
        refine w_a f_235_5 ?_
        refine w_a f_235_6 ?_
        refine w_a f_235_7 ?_
        refine w_a (ls := [(6, .long (((L 58 12) * (L 58 12)) + ((L 58 13) * (L 58 13)))), (4, .long (((L 58 10) * (L 58 12)) + ((L 58 11) * (L 58 13)))), (0, .ref 58), (1, .int x2), (2, .int x3), (3, .int x4)]) f_294_44 ?_
        refine w_a f_294_45 ?_
        refine i_m (fun h => ?_) (fun h => ?_) h
        · refine w_a f_294_49 ?_
          refine w_a f_294_50 ?_
          refine w_a f_294_54 ?_
          refine w_a (ls := [(0, .ref 58), (2, .int x2), (3, .int x3), (4, .int x4), (5, .int x5), (6, .int x6)]) f_292_67 ?_
          refine w_a f_292_93 ?_
          refine w_a (ls := [(6, .int (x6 + Int32.ofInt 1)), (0, .ref 58), (2, .int x2), (3, .int x3), (4, .int x4), (5, .int x5)]) f_292_96 ?_
          exact w_n (ks := [0, 2, 3, 4, 5, 6]) rfl h
        · refine w_a f_294_53 ?_
          refine w_a f_294_54 ?_
          refine w_a (ls := [(0, .ref 58), (2, .int x2), (3, .int x3), (4, .int x4), (5, .int x5), (6, .int x6)]) f_292_67 ?_
          refine w_a f_292_70 ?_
          refine w_a f_292_72 ?_
          refine i_m (fun h => ?_) (fun h => ?_) h
          · refine w_a f_292_85 ?_
            refine w_a f_292_86 ?_
            refine w_a f_292_89 ?_
            refine w_a f_292_91 ?_
            refine n_m (fun h => ?_) h
            refine w_a f_292_92 ?_
            exact h
          · refine w_a f_292_75 ?_
            refine w_a f_292_76 ?_
            refine w_a f_292_79 ?_
            refine w_a f_292_81 ?_
            refine n_m (fun h => ?_) h
            refine w_a f_292_82 ?_
            refine w_a f_292_92 ?_
            exact h
set_option maxRecDepth 10000 in
set_option maxHeartbeats 4000000 in
theorem s_293_9 {Lx : Nat} {I : Mi} {L : Ml} {e : Nat} {Q : Kq} {r : Int32} (h :
    (if 0 < r then
     Q (.inl (some (.int r))) (gE Lx) I L e
    else
     (if (L 58 14) = (Int64.ofInt 0) then
      Q (.inl (some (.int (Int32.ofInt 3)))) (gE Lx) I L e
     else
      Q (.inl (some (.int (Int32.ofInt 0)))) (gE Lx) I L e))) :
    Wp 293 9 [(0, .ref 58)] [.int r] (gE Lx) I L e Q := by
  refine w_a f_293_9 ?_
  refine w_a (ls := [(5, .int r), (0, .ref 58)]) f_293_11 ?_
  refine w_a f_293_13 ?_
  refine i_m (fun h => ?_) (fun h => ?_) h
  · refine w_a f_293_16 ?_
    refine w_a f_293_18 ?_
    refine w_a f_293_35 ?_
    exact h
  · refine w_a f_293_21 ?_
    refine w_a f_293_22 ?_
    refine w_a f_293_25 ?_
    refine w_a f_293_26 ?_
    refine i_m (fun h => ?_) (fun h => ?_) h
    · refine w_a f_293_30 ?_
      refine w_a f_293_31 ?_
      refine w_a f_293_35 ?_
      exact h
    · refine w_a f_293_34 ?_
      refine w_a f_293_35 ?_
      exact h
set_option maxRecDepth 10000 in
set_option maxHeartbeats 4000000 in
theorem s_295_49 {Lx : Nat} {I : Mi} {L : Ml} {e : Nat} {Q : Kq} {x2 : Int32} {x3 : Int32} {x4 : Int32} {x5 : Int32} {r : Int32} (h :
    (if 0 < r then
     (if 0 < (r + (Int32.ofInt 1)) then
      Q (.inl (some (.int (Int32.ofInt 0)))) (gE Lx) (ui I 58 0 (r + (Int32.ofInt 1))) L e
     else
      Wp 295 80 [(0, .ref 58), (2, .int x2), (3, .int x3), (4, .int x4), (5, .int x5), (7, .int (Int32.ofInt 0))] [] (gE Lx) (ui I 58 0 (r + (Int32.ofInt 1))) L e Q)
    else
     Wp 295 80 [(0, .ref 58), (2, .int x2), (3, .int x3), (4, .int x4), (5, .int x5), (7, .int (Int32.ofInt 0))] [] (gE Lx) (ui I 58 0 (Int32.ofInt 0)) L e Q)) :
    Wp 295 49 [(0, .ref 58), (2, .int x2), (3, .int x3), (4, .int x4), (5, .int x5)] [.int r] (gE Lx) I L e Q := by
  refine w_a f_295_49 ?_
  refine w_a (ls := [(6, .int r), (0, .ref 58), (2, .int x2), (3, .int x3), (4, .int x4), (5, .int x5)]) f_295_51 ?_
  refine w_a f_295_52 ?_
  refine w_a f_295_54 ?_
  refine i_m (fun h => ?_) (fun h => ?_) h
  · refine w_a f_295_57 ?_
    refine w_a f_295_59 ?_
    refine w_a f_295_60 ?_
    refine w_a f_295_61 ?_
    refine w_a f_295_65 ?_
    refine w_a f_295_68 ?_
    refine w_a f_295_69 ?_
    refine w_a f_295_72 ?_
    refine i_m (fun h => ?_) (fun h => ?_) h
    · refine w_a f_295_75 ?_
      refine w_a f_295_76 ?_
      exact h
    · refine w_a f_295_77 ?_
      refine w_a f_295_78 ?_
      exact w_n (ks := [0, 2, 3, 4, 5, 7]) rfl h
  · refine w_a f_295_64 ?_
    refine w_a f_295_65 ?_
    refine w_a f_295_68 ?_
    refine w_a f_295_69 ?_
    refine w_a f_295_72 ?_
    refine w_a f_295_77 ?_
    refine w_a f_295_78 ?_
    exact w_n (ks := [0, 2, 3, 4, 5, 7]) rfl h
set_option maxRecDepth 10000 in
set_option maxHeartbeats 4000000 in
theorem s_295_80 {Lx : Nat} {I : Mi} {L : Ml} {e : Nat} {Q : Kq} {x2 : Int32} {x3 : Int32} {x4 : Int32} {x5 : Int32} {x7 : Int32} (h :
    (if x7 < (I 58 7) then
     Wp 228 0 [(0, .ref 58), (1, .long (L 58 14)), (3, .long (L 58 15)), (5, .long (L 58 16)), (7, .long (Int64.ofInt 0))] [] (gE Lx) I L e (kcp (Wp 276) 276 14 0 [(0, .ref 58)] 71 [] (kcp (Wp 296) 296 1 0 [(0, .ref 58), (1, .int x2), (2, .int x3), (3, .int x4), (4, .int x7), (5, .int (Int32.ofInt 1))] 71 [] (kcp (Wp 295) 295 97 0 [(0, .ref 58), (2, .int x2), (3, .int x3), (4, .int x4), (5, .int x5), (7, .int x7)] 71 [] Q)))
    else
     Q (.inl (some (.int (Int32.ofInt 0)))) (gE Lx) (ui I 58 0 (Int32.ofInt 4)) L e)) :
    Wp 295 80 [(0, .ref 58), (2, .int x2), (3, .int x3), (4, .int x4), (5, .int x5), (7, .int x7)] [] (gE Lx) I L e Q := by
  refine w_a f_295_80 ?_
  refine w_a f_295_82 ?_
  refine w_a f_295_83 ?_
  refine w_a f_295_86 ?_
  refine i_m (fun h => ?_) (fun h => ?_) h
  · refine w_a f_295_89 ?_
    refine w_a f_295_90 ?_
    refine w_a f_295_91 ?_
    refine w_a f_295_92 ?_
    refine w_a f_295_94 ?_
    refine w_a f_295_96 ?_
    refine w_c (ks := [0, 2, 3, 4, 5, 7]) f_295_97 rfl rfl ?_
    refine w_a (ls := [(0, .ref 58), (1, .int x2), (2, .int x3), (3, .int x4), (4, .int x7), (5, .int (Int32.ofInt 1))]) f_296_0 ?_
    refine w_c (ks := [0, 1, 2, 3, 4, 5]) f_296_1 rfl rfl ?_
    refine w_a (ls := [(0, .ref 58)]) f_276_0 ?_
    refine w_a f_276_1 ?_
    refine w_a f_276_2 ?_
    refine w_a f_276_5 ?_
    refine w_a f_276_6 ?_
    refine w_a f_276_9 ?_
    refine w_a f_276_10 ?_
    refine w_a f_276_13 ?_
    exact w_c (ks := [0]) f_276_14 rfl rfl h
  · refine w_a f_295_169 ?_
    refine w_a f_295_170 ?_
    refine w_a f_295_171 ?_
    refine w_a f_295_174 ?_
    refine w_a f_295_175 ?_
    exact h
set_option maxRecDepth 10000 in
set_option maxHeartbeats 4000000 in
theorem s_295_100 {Lx : Nat} {I : Mi} {L : Ml} {e : Nat} {Q : Kq} {x2 : Int32} {x3 : Int32} {x4 : Int32} {x5 : Int32} {x7 : Int32} {r : Int32} (h :
    (if r = 0 then
     Wp 228 0 [(0, .ref 58), (1, .long (L 58 14)), (3, .long (L 58 15)), (5, .long (L 58 16)), (7, .long (Int64.ofInt 0))] [] (gE Lx) I L e (kcp (Wp 276) 276 14 0 [(0, .ref 58)] 71 [] (kcp (Wp 296) 296 1 0 [(0, .ref 58), (1, .int x2), (2, .int x3), (3, .int x4), (4, .int x7), (5, .int (Int32.ofInt 0))] 71 [] (kcp (Wp 295) 295 115 0 [(0, .ref 58), (2, .int x2), (3, .int x3), (4, .int x4), (5, .int x5), (7, .int x7), (8, .int r)] 71 [] Q)))
    else
     (if x5 = 0 then
      (inb x7 184 (
       Q (.inl (some (.int (I 61 x7.toNatClampNeg)))) (gE Lx) I L e)
      False)
     else
      (if x5 = (Int32.ofInt 1) then
       (inb x7 184 (
        Q (.inl (some (.int (I 62 x7.toNatClampNeg)))) (gE Lx) I L e)
       False)
      else
       (if r = 0 then
        Q (.inl (some (.int (Int32.ofInt 0)))) (gE Lx) I L e
       else
        Q (.inl (some (.int (Int32.ofInt 1)))) (gE Lx) I L e))))) :
    Wp 295 100 [(0, .ref 58), (2, .int x2), (3, .int x3), (4, .int x4), (5, .int x5), (7, .int x7)] [.int r] (gE Lx) I L e Q := by
  refine w_a f_295_100 ?_
  refine w_a (ls := [(8, .int r), (0, .ref 58), (2, .int x2), (3, .int x3), (4, .int x4), (5, .int x5), (7, .int x7)]) f_295_102 ?_
  refine w_a f_295_104 ?_
  refine i_m (fun h => ?_) (fun h => ?_) h
  · refine w_a f_295_107 ?_
    refine w_a f_295_108 ?_
    refine w_a f_295_109 ?_
    refine w_a f_295_110 ?_
    refine w_a f_295_112 ?_
    refine w_a f_295_114 ?_
    refine w_c (ks := [0, 2, 3, 4, 5, 7, 8]) f_295_115 rfl rfl ?_
    refine w_a (ls := [(0, .ref 58), (1, .int x2), (2, .int x3), (3, .int x4), (4, .int x7), (5, .int (Int32.ofInt 0))]) f_296_0 ?_
    refine w_c (ks := [0, 1, 2, 3, 4, 5]) f_296_1 rfl rfl ?_
    refine w_a (ls := [(0, .ref 58)]) f_276_0 ?_
    refine w_a f_276_1 ?_
    refine w_a f_276_2 ?_
    refine w_a f_276_5 ?_
    refine w_a f_276_6 ?_
    refine w_a f_276_9 ?_
    refine w_a f_276_10 ?_
    refine w_a f_276_13 ?_
    exact w_c (ks := [0]) f_276_14 rfl rfl h
  · refine w_a f_295_121 ?_
    refine w_a f_295_123 ?_
    refine i_m (fun h => ?_) (fun h => ?_) h
    · refine w_a f_295_126 ?_
      refine w_a f_295_127 ?_
      refine w_a f_295_130 ?_
      refine w_a f_295_132 ?_
      refine n_m (fun h => ?_) h
      refine w_a f_295_133 ?_
      refine w_a f_295_162 ?_
      exact h
    · refine w_a f_295_136 ?_
      refine w_a f_295_138 ?_
      refine w_a f_295_139 ?_
      refine i_m (fun h => ?_) (fun h => ?_) h
      · refine w_a f_295_142 ?_
        refine w_a f_295_143 ?_
        refine w_a f_295_146 ?_
        refine w_a f_295_148 ?_
        refine n_m (fun h => ?_) h
        refine w_a f_295_149 ?_
        refine w_a f_295_162 ?_
        exact h
      · refine w_a f_295_152 ?_
        refine w_a f_295_154 ?_
        refine i_m (fun h => ?_) (fun h => ?_) h
        · refine w_a f_295_161 ?_
          refine w_a f_295_162 ?_
          exact h
        · refine w_a f_295_157 ?_
          refine w_a f_295_158 ?_
          refine w_a f_295_162 ?_
          exact h
set_option maxRecDepth 10000 in
set_option maxHeartbeats 4000000 in
theorem s_295_118 {Lx : Nat} {I : Mi} {L : Ml} {e : Nat} {Q : Kq} {x2 : Int32} {x3 : Int32} {x4 : Int32} {x5 : Int32} {x7 : Int32} {x8 : Int32} {r : Int32} (h :
    (if r = 0 then
     Wp 295 80 [(0, .ref 58), (2, .int x2), (3, .int x3), (4, .int x4), (5, .int x5), (7, .int (x7 + Int32.ofInt 1))] [] (gE Lx) I L e Q
    else
     (if x5 = 0 then
      (inb x7 184 (
       Q (.inl (some (.int (I 61 x7.toNatClampNeg)))) (gE Lx) I L e)
      False)
     else
      (if x5 = (Int32.ofInt 1) then
       (inb x7 184 (
        Q (.inl (some (.int (I 62 x7.toNatClampNeg)))) (gE Lx) I L e)
       False)
      else
       (if x8 = 0 then
        Q (.inl (some (.int (Int32.ofInt 0)))) (gE Lx) I L e
       else
        Q (.inl (some (.int (Int32.ofInt 1)))) (gE Lx) I L e))))) :
    Wp 295 118 [(0, .ref 58), (2, .int x2), (3, .int x3), (4, .int x4), (5, .int x5), (7, .int x7), (8, .int x8)] [.int r] (gE Lx) I L e Q := by
  refine w_a f_295_118 ?_
  refine i_m (fun h => ?_) (fun h => ?_) h
  · refine w_a f_295_163 ?_
    refine w_a (ls := [(7, .int (x7 + Int32.ofInt 1)), (0, .ref 58), (2, .int x2), (3, .int x3), (4, .int x4), (5, .int x5), (8, .int x8)]) f_295_166 ?_
    exact w_n (ks := [0, 2, 3, 4, 5, 7]) rfl h
  · refine w_a f_295_121 ?_
    refine w_a f_295_123 ?_
    refine i_m (fun h => ?_) (fun h => ?_) h
    · refine w_a f_295_126 ?_
      refine w_a f_295_127 ?_
      refine w_a f_295_130 ?_
      refine w_a f_295_132 ?_
      refine n_m (fun h => ?_) h
      refine w_a f_295_133 ?_
      refine w_a f_295_162 ?_
      exact h
    · refine w_a f_295_136 ?_
      refine w_a f_295_138 ?_
      refine w_a f_295_139 ?_
      refine i_m (fun h => ?_) (fun h => ?_) h
      · refine w_a f_295_142 ?_
        refine w_a f_295_143 ?_
        refine w_a f_295_146 ?_
        refine w_a f_295_148 ?_
        refine n_m (fun h => ?_) h
        refine w_a f_295_149 ?_
        refine w_a f_295_162 ?_
        exact h
      · refine w_a f_295_152 ?_
        refine w_a f_295_154 ?_
        refine i_m (fun h => ?_) (fun h => ?_) h
        · refine w_a f_295_161 ?_
          refine w_a f_295_162 ?_
          exact h
        · refine w_a f_295_157 ?_
          refine w_a f_295_158 ?_
          refine w_a f_295_162 ?_
          exact h
set_option maxRecDepth 10000 in
set_option maxHeartbeats 4000000 in
theorem s_296_4 {Lx : Nat} {I : Mi} {L : Ml} {e : Nat} {Q : Kq} {x1 : Int32} {x2 : Int32} {x3 : Int32} {x4 : Int32} {x5 : Int32} (h :
    (if x1 = 0 then
     (if x5 = 0 then
      (inb x4 184 (
       (inb x4 184 (
        Wp 229 0 [(0, .ref 58), (1, .int (Int32.ofInt 2)), (2, .long (I 61 x4.toNatClampNeg).toInt64), (4, .long (I 62 x4.toNatClampNeg).toInt64)] [] (gE Lx) I L e (kcp (Wp 296) 296 48 0 [(0, .ref 58), (1, .int x1), (2, .int x2), (3, .int x3)] 71 [] Q))
       False))
      False)
     else
      (inb x4 184 (
       (inb x4 184 (
        Wp 229 0 [(0, .ref 58), (1, .int (Int32.ofInt 1)), (2, .long (I 61 x4.toNatClampNeg).toInt64), (4, .long (I 62 x4.toNatClampNeg).toInt64)] [] (gE Lx) I L e (kcp (Wp 296) 296 48 0 [(0, .ref 58), (1, .int x1), (2, .int x2), (3, .int x3)] 71 [] Q))
       False))
      False))
    else
     (if x5 = 0 then
      (inb x4 184 (
       (inb x4 184 (
        Wp 229 0 [(0, .ref 58), (1, .int (Int32.ofInt 4)), (2, .long (I 61 x4.toNatClampNeg).toInt64), (4, .long (I 62 x4.toNatClampNeg).toInt64)] [] (gE Lx) I L e (kcp (Wp 296) 296 48 0 [(0, .ref 58), (1, .int x1), (2, .int x2), (3, .int x3)] 71 [] Q))
       False))
      False)
     else
      (inb x4 184 (
       (inb x4 184 (
        Wp 229 0 [(0, .ref 58), (1, .int (Int32.ofInt 3)), (2, .long (I 61 x4.toNatClampNeg).toInt64), (4, .long (I 62 x4.toNatClampNeg).toInt64)] [] (gE Lx) I L e (kcp (Wp 296) 296 48 0 [(0, .ref 58), (1, .int x1), (2, .int x2), (3, .int x3)] 71 [] Q))
       False))
      False)))) :
    Wp 296 4 [(0, .ref 58), (1, .int x1), (2, .int x2), (3, .int x3), (4, .int x4), (5, .int x5)] [] (gE Lx) I L e Q := by
  refine w_a f_296_4 ?_
  refine w_a f_296_5 ?_
  refine w_a f_296_6 ?_
  refine i_m (fun h => ?_) (fun h => ?_) h
  · refine w_a f_296_22 ?_
    refine w_a f_296_24 ?_
    refine i_m (fun h => ?_) (fun h => ?_) h
    · refine w_a f_296_31 ?_
      refine w_a f_296_32 ?_
      refine w_a f_296_33 ?_
      refine w_a f_296_36 ?_
      refine w_a f_296_38 ?_
      refine n_m (fun h => ?_) h
      refine w_a f_296_39 ?_
      refine w_a f_296_40 ?_
      refine w_a f_296_41 ?_
      refine w_a f_296_44 ?_
      refine w_a f_296_46 ?_
      refine n_m (fun h => ?_) h
      refine w_a f_296_47 ?_
      exact w_c (ks := [0, 1, 2, 3]) f_296_48 rfl rfl h
    · refine w_a f_296_27 ?_
      refine w_a f_296_28 ?_
      refine w_a f_296_32 ?_
      refine w_a f_296_33 ?_
      refine w_a f_296_36 ?_
      refine w_a f_296_38 ?_
      refine n_m (fun h => ?_) h
      refine w_a f_296_39 ?_
      refine w_a f_296_40 ?_
      refine w_a f_296_41 ?_
      refine w_a f_296_44 ?_
      refine w_a f_296_46 ?_
      refine n_m (fun h => ?_) h
      refine w_a f_296_47 ?_
      exact w_c (ks := [0, 1, 2, 3]) f_296_48 rfl rfl h
  · refine w_a f_296_9 ?_
    refine w_a f_296_11 ?_
    refine i_m (fun h => ?_) (fun h => ?_) h
    · refine w_a f_296_18 ?_
      refine w_a f_296_19 ?_
      refine w_a f_296_32 ?_
      refine w_a f_296_33 ?_
      refine w_a f_296_36 ?_
      refine w_a f_296_38 ?_
      refine n_m (fun h => ?_) h
      refine w_a f_296_39 ?_
      refine w_a f_296_40 ?_
      refine w_a f_296_41 ?_
      refine w_a f_296_44 ?_
      refine w_a f_296_46 ?_
      refine n_m (fun h => ?_) h
      refine w_a f_296_47 ?_
      exact w_c (ks := [0, 1, 2, 3]) f_296_48 rfl rfl h
    · refine w_a f_296_14 ?_
      refine w_a f_296_15 ?_
      refine w_a f_296_32 ?_
      refine w_a f_296_33 ?_
      refine w_a f_296_36 ?_
      refine w_a f_296_38 ?_
      refine n_m (fun h => ?_) h
      refine w_a f_296_39 ?_
      refine w_a f_296_40 ?_
      refine w_a f_296_41 ?_
      refine w_a f_296_44 ?_
      refine w_a f_296_46 ?_
      refine n_m (fun h => ?_) h
      refine w_a f_296_47 ?_
      exact w_c (ks := [0, 1, 2, 3]) f_296_48 rfl rfl h
set_option maxRecDepth 10000 in
set_option maxHeartbeats 4000000 in
theorem s_296_51 {Lx : Nat} {I : Mi} {L : Ml} {e : Nat} {Q : Kq} {x1 : Int32} {x2 : Int32} {x3 : Int32} (h :
    Wp 229 0 [(0, .ref 58), (1, .int (Int32.ofInt 0)), (2, .long x2.toInt64), (4, .long x3.toInt64)] [] (gE Lx) I L e (kcp (Wp 296) 296 57 0 [(0, .ref 58), (1, .int x1), (2, .int x2), (3, .int x3)] 71 [] Q)) :
    Wp 296 51 [(0, .ref 58), (1, .int x1), (2, .int x2), (3, .int x3)] [] (gE Lx) I L e Q := by
  refine w_a f_296_51 ?_
  refine w_a f_296_52 ?_
  refine w_a f_296_53 ?_
  refine w_a f_296_54 ?_
  refine w_a f_296_55 ?_
  refine w_a f_296_56 ?_
  exact w_c (ks := [0, 1, 2, 3]) f_296_57 rfl rfl h
set_option maxRecDepth 10000 in
set_option maxHeartbeats 4000000 in
theorem s_296_60 {Lx : Nat} {I : Mi} {L : Ml} {e : Nat} {Q : Kq} {x1 : Int32} {x2 : Int32} {x3 : Int32} (h :
    (if x1 = 0 then
     (if (((L 58 10) * (L 58 12)) + ((L 58 11) * (L 58 13))) = (Int64.ofInt 0) then
      Q (.inl (some (.int (Int32.ofInt 0)))) (gE Lx) I L e
     else
      (if (((L 58 10) * (L 58 10)) + ((L 58 11) * (L 58 11))) = (Int64.ofInt 0) then
       Q (.inl (some (.int (Int32.ofInt 0)))) (gE Lx) I L e
      else
       (if ((((L 58 10) * (L 58 10)) + ((L 58 11) * (L 58 11))) * ((x2.toInt64 * x2.toInt64) + (x3.toInt64 * x3.toInt64))) < (((((L 58 10) * (L 58 12)) + ((L 58 11) * (L 58 13))) * x2.toInt64) * x2.toInt64) then
        Q (.inl (some (.int (Int32.ofInt 0)))) (gE Lx) I L e
       else
        Q (.inl (some (.int (Int32.ofInt 1)))) (gE Lx) I L e)))
    else
     (if (((L 58 10) * (L 58 12)) + ((L 58 11) * (L 58 13))) = (Int64.ofInt 0) then
      Q (.inl (some (.int (Int32.ofInt 0)))) (gE Lx) I L e
     else
      (if (((L 58 12) * (L 58 12)) + ((L 58 13) * (L 58 13))) = (Int64.ofInt 0) then
       Q (.inl (some (.int (Int32.ofInt 0)))) (gE Lx) I L e
      else
       (if ((((L 58 12) * (L 58 12)) + ((L 58 13) * (L 58 13))) * ((x2.toInt64 * x2.toInt64) + (x3.toInt64 * x3.toInt64))) < (((((L 58 10) * (L 58 12)) + ((L 58 11) * (L 58 13))) * x2.toInt64) * x2.toInt64) then
        Q (.inl (some (.int (Int32.ofInt 0)))) (gE Lx) I L e
       else
        Q (.inl (some (.int (Int32.ofInt 1)))) (gE Lx) I L e))))) :
    Wp 296 60 [(0, .ref 58), (1, .int x1), (2, .int x2), (3, .int x3)] [] (gE Lx) I L e Q := by
  refine w_a f_296_60 ?_
  refine w_a f_296_61 ?_
  refine w_a f_296_62 ?_
  refine w_a f_296_63 ?_
  refine w_a f_296_64 ?_
  refine w_a (ls := [(0, .ref 58), (1, .int x1), (2, .int x2), (3, .int x3)]) f_294_0 ?_
  refine w_a f_294_1 ?_
  refine w_a (ls := [(0, .ref 58)]) f_277_0 ?_
  refine w_a f_277_1 ?_
  refine w_a f_277_4 ?_
  refine w_a f_277_5 ?_
  refine w_a f_277_8 ?_
  refine w_a f_277_9 ?_
  refine w_a f_277_10 ?_
  refine w_a f_277_13 ?_
  refine w_a f_277_14 ?_
  refine w_a f_277_17 ?_
  refine w_a f_277_18 ?_
  refine w_a f_277_19 ?_
  refine w_a (ls := [(0, .ref 58), (1, .int x1), (2, .int x2), (3, .int x3)]) f_294_4 ?_
  refine w_a (ls := [(4, .long (((L 58 10) * (L 58 12)) + ((L 58 11) * (L 58 13)))), (0, .ref 58), (1, .int x1), (2, .int x2), (3, .int x3)]) f_294_6 ?_
  refine w_a f_294_7 ?_
  refine w_a f_294_8 ?_
  refine w_a (ls := [(0, .ref 58), (1, .int x1)]) f_278_0 ?_
  refine w_a f_278_1 ?_
  refine i_m (fun h => ?_) (fun h => ?_) h
  · refine w_a f_278_18 ?_
    refine w_a f_278_19 ?_
    refine w_a f_278_22 ?_
    refine w_a f_278_23 ?_
    refine w_a f_278_26 ?_
    refine w_a (ls := [(0, .long (L 58 10)), (2, .long (L 58 11))]) f_235_0 ?_
    refine w_a f_235_1 ?_
    refine w_a f_235_2 ?_
    refine w_a f_235_3 ?_
    refine w_a f_235_4 ?_
    refine w_a f_235_5 ?_
    refine w_a f_235_6 ?_
    refine w_a f_235_7 ?_
    refine w_a (ls := [(0, .ref 58), (1, .int x1)]) f_278_29 ?_
    refine w_a (ls := [(4, .long (((L 58 10) * (L 58 12)) + ((L 58 11) * (L 58 13)))), (0, .ref 58), (1, .int x1), (2, .int x2), (3, .int x3)]) f_294_11 ?_
    refine w_a (ls := [(6, .long (((L 58 10) * (L 58 10)) + ((L 58 11) * (L 58 11)))), (4, .long (((L 58 10) * (L 58 12)) + ((L 58 11) * (L 58 13)))), (0, .ref 58), (1, .int x1), (2, .int x2), (3, .int x3)]) f_294_13 ?_
    refine w_a f_294_15 ?_
    refine w_a f_294_16 ?_
    refine i_m (fun h => ?_) (fun h => ?_) h
    · refine w_a f_294_49 ?_
      refine w_a f_294_50 ?_
      refine w_a f_294_54 ?_
      refine w_a (ls := [(0, .ref 58), (1, .int x1), (2, .int x2), (3, .int x3)]) f_296_67 ?_
      refine w_a f_296_74 ?_
      refine w_a f_296_75 ?_
      exact h
    · refine w_a f_294_20 ?_
      refine w_a f_294_22 ?_
      refine w_a f_294_23 ?_
      refine i_m (fun h => ?_) (fun h => ?_) h
      · refine w_a f_294_49 ?_
        refine w_a f_294_50 ?_
        refine w_a f_294_54 ?_
        refine w_a (ls := [(0, .ref 58), (1, .int x1), (2, .int x2), (3, .int x3)]) f_296_67 ?_
        refine w_a f_296_74 ?_
        refine w_a f_296_75 ?_
        exact h
      · refine w_a f_294_27 ?_
        refine w_a f_294_29 ?_
        refine w_a f_294_30 ?_
        refine w_a f_294_31 ?_
        refine w_a f_294_32 ?_
        refine w_a f_294_33 ?_
        refine w_a f_294_34 ?_
        refine w_a f_294_35 ?_
        refine w_a f_294_37 ?_
        refine w_a f_294_38 ?_
        refine w_a f_294_39 ?_
        refine w_a f_294_40 ?_
        refine w_a f_294_41 ?_
        refine w_a (ls := [(0, .long x2.toInt64), (2, .long x3.toInt64)]) f_235_0 ?_
        refine w_a f_235_1 ?_
        refine w_a f_235_2 ?_
        refine w_a f_235_3 ?_
        refine w_a f_235_4 ?_
        refine w_a f_235_5 ?_
        refine w_a f_235_6 ?_
        refine w_a f_235_7 ?_
        refine w_a (ls := [(6, .long (((L 58 10) * (L 58 10)) + ((L 58 11) * (L 58 11)))), (4, .long (((L 58 10) * (L 58 12)) + ((L 58 11) * (L 58 13)))), (0, .ref 58), (1, .int x1), (2, .int x2), (3, .int x3)]) f_294_44 ?_
        refine w_a f_294_45 ?_
        refine i_m (fun h => ?_) (fun h => ?_) h
        · refine w_a f_294_49 ?_
          refine w_a f_294_50 ?_
          refine w_a f_294_54 ?_
          refine w_a (ls := [(0, .ref 58), (1, .int x1), (2, .int x2), (3, .int x3)]) f_296_67 ?_
          refine w_a f_296_74 ?_
          refine w_a f_296_75 ?_
          exact h
        · refine w_a f_294_53 ?_
          refine w_a f_294_54 ?_
          refine w_a (ls := [(0, .ref 58), (1, .int x1), (2, .int x2), (3, .int x3)]) f_296_67 ?_
          refine w_a f_296_70 ?_
          refine w_a f_296_71 ?_
          refine w_a f_296_75 ?_
          exact h
  · refine w_a f_278_4 ?_
    refine w_a f_278_5 ?_
    refine w_a f_278_8 ?_
    refine w_a f_278_9 ?_
    refine w_a f_278_12 ?_
    refine w_a (ls := [(0, .long (L 58 12)), (2, .long (L 58 13))]) f_235_0 ?_
    refine w_a f_235_1 ?_
    refine w_a f_235_2 ?_
    refine w_a f_235_3 ?_
    refine w_a f_235_4 ?_
    refine w_a f_235_5 ?_
    refine w_a f_235_6 ?_
    refine w_a f_235_7 ?_
    refine w_a (ls := [(0, .ref 58), (1, .int x1)]) f_278_15 ?_
    refine w_a f_278_29 ?_
    refine w_a (ls := [(4, .long (((L 58 10) * (L 58 12)) + ((L 58 11) * (L 58 13)))), (0, .ref 58), (1, .int x1), (2, .int x2), (3, .int x3)]) f_294_11 ?_
    refine w_a (ls := [(6, .long (((L 58 12) * (L 58 12)) + ((L 58 13) * (L 58 13)))), (4, .long (((L 58 10) * (L 58 12)) + ((L 58 11) * (L 58 13)))), (0, .ref 58), (1, .int x1), (2, .int x2), (3, .int x3)]) f_294_13 ?_
    refine w_a f_294_15 ?_
    refine w_a f_294_16 ?_
    refine i_m (fun h => ?_) (fun h => ?_) h
    · refine w_a f_294_49 ?_
      refine w_a f_294_50 ?_
      refine w_a f_294_54 ?_
      refine w_a (ls := [(0, .ref 58), (1, .int x1), (2, .int x2), (3, .int x3)]) f_296_67 ?_
      refine w_a f_296_74 ?_
      refine w_a f_296_75 ?_
      exact h
    · refine w_a f_294_20 ?_
      refine w_a f_294_22 ?_
      refine w_a f_294_23 ?_
      refine i_m (fun h => ?_) (fun h => ?_) h
      · refine w_a f_294_49 ?_
        refine w_a f_294_50 ?_
        refine w_a f_294_54 ?_
        refine w_a (ls := [(0, .ref 58), (1, .int x1), (2, .int x2), (3, .int x3)]) f_296_67 ?_
        refine w_a f_296_74 ?_
        refine w_a f_296_75 ?_
        exact h
      · refine w_a f_294_27 ?_
        refine w_a f_294_29 ?_
        refine w_a f_294_30 ?_
        refine w_a f_294_31 ?_
        refine w_a f_294_32 ?_
        refine w_a f_294_33 ?_
        refine w_a f_294_34 ?_
        refine w_a f_294_35 ?_
        refine w_a f_294_37 ?_
        refine w_a f_294_38 ?_
        refine w_a f_294_39 ?_
        refine w_a f_294_40 ?_
        refine w_a f_294_41 ?_
        refine w_a (ls := [(0, .long x2.toInt64), (2, .long x3.toInt64)]) f_235_0 ?_
        refine w_a f_235_1 ?_
        refine w_a f_235_2 ?_
        refine w_a f_235_3 ?_
        refine w_a f_235_4 ?_
        refine w_a f_235_5 ?_
        refine w_a f_235_6 ?_
        refine w_a f_235_7 ?_
        refine w_a (ls := [(6, .long (((L 58 12) * (L 58 12)) + ((L 58 13) * (L 58 13)))), (4, .long (((L 58 10) * (L 58 12)) + ((L 58 11) * (L 58 13)))), (0, .ref 58), (1, .int x1), (2, .int x2), (3, .int x3)]) f_294_44 ?_
        refine w_a f_294_45 ?_
        refine i_m (fun h => ?_) (fun h => ?_) h
        · refine w_a f_294_49 ?_
          refine w_a f_294_50 ?_
          refine w_a f_294_54 ?_
          refine w_a (ls := [(0, .ref 58), (1, .int x1), (2, .int x2), (3, .int x3)]) f_296_67 ?_
          refine w_a f_296_74 ?_
          refine w_a f_296_75 ?_
          exact h
        · refine w_a f_294_53 ?_
          refine w_a f_294_54 ?_
          refine w_a (ls := [(0, .ref 58), (1, .int x1), (2, .int x2), (3, .int x3)]) f_296_67 ?_
          refine w_a f_296_70 ?_
          refine w_a f_296_71 ?_
          refine w_a f_296_75 ?_
          exact h
set_option maxRecDepth 10000 in
set_option maxHeartbeats 4000000 in
theorem s_297_7 {Lx : Nat} {I : Mi} {L : Ml} {e : Nat} {Q : Kq} {x2 : Int32} {r : Int32} (h :
    (if 0 < r then
     Q (.inl (some (.int (Int32.ofInt 0)))) (gE Lx) (ui I 58 0 r) L e
    else
     Wp 283 0 [(0, .ref 58), (1, .int x2), (2, .int (Int32.ofInt 1)), (3, .int (Int32.ofInt 0))] [] (gE Lx) (ui I 58 0 r) L e (kcp (Wp 297) 297 23 0 [(0, .ref 58)] 71 [] Q))) :
    Wp 297 7 [(0, .ref 58), (2, .int x2)] [.int r, .ref 58] (gE Lx) I L e Q := by
  refine w_a f_297_7 ?_
  refine w_a f_297_10 ?_
  refine w_a f_297_11 ?_
  refine w_a f_297_14 ?_
  refine i_m (fun h => ?_) (fun h => ?_) h
  · refine w_a f_297_17 ?_
    refine w_a f_297_18 ?_
    exact h
  · refine w_a f_297_19 ?_
    refine w_a f_297_20 ?_
    refine w_a f_297_21 ?_
    refine w_a f_297_22 ?_
    exact w_c (ks := [0]) f_297_23 rfl rfl h
set_option maxRecDepth 10000 in
set_option maxHeartbeats 4000000 in
theorem s_297_26 {Lx : Nat} {I : Mi} {L : Ml} {e : Nat} {Q : Kq} (h :
    (if (L 58 21) = (Int64.ofInt 0) then
     Q (.inl (some (.int (Int32.ofInt 0)))) (gE Lx) I L e
    else
     (if (L 58 23) < (Int64.ofInt 0) then
      Q (.inl (some (.int (Int32.ofInt 0)))) (gE Lx) I L e
     else
      (if (L 58 23) = (Int64.ofInt 0) then
       Q (.inl (some (.int (Int32.ofInt 1)))) (gE Lx) I L e
      else
       Q (.inl (some (.int (Int32.ofInt 2)))) (gE Lx) I L e)))) :
    Wp 297 26 [(0, .ref 58)] [] (gE Lx) I L e Q := by
  refine w_a f_297_26 ?_
  refine w_a f_297_27 ?_
  refine w_a (ls := [(0, .ref 58)]) f_284_0 ?_
  refine w_a f_284_1 ?_
  refine w_a f_284_4 ?_
  refine w_a f_284_5 ?_
  refine i_m (fun h => ?_) (fun h => ?_) h
  · refine w_a f_284_18 ?_
    refine w_a f_284_19 ?_
    refine w_a f_284_36 ?_
    refine w_a (ls := [(0, .ref 58)]) f_297_30 ?_
    exact h
  · refine w_a f_284_9 ?_
    refine w_a f_284_10 ?_
    refine w_a f_284_13 ?_
    refine w_a f_284_14 ?_
    refine i_m (fun h => ?_) (fun h => ?_) h
    · refine w_a f_284_18 ?_
      refine w_a f_284_19 ?_
      refine w_a f_284_36 ?_
      refine w_a (ls := [(0, .ref 58)]) f_297_30 ?_
      exact h
    · refine w_a f_284_22 ?_
      refine w_a f_284_23 ?_
      refine w_a f_284_26 ?_
      refine w_a f_284_27 ?_
      refine i_m (fun h => ?_) (fun h => ?_) h
      · refine w_a f_284_31 ?_
        refine w_a f_284_32 ?_
        refine w_a f_284_36 ?_
        refine w_a (ls := [(0, .ref 58)]) f_297_30 ?_
        exact h
      · refine w_a f_284_35 ?_
        refine w_a f_284_36 ?_
        refine w_a (ls := [(0, .ref 58)]) f_297_30 ?_
        exact h
set_option maxRecDepth 10000 in
set_option maxHeartbeats 4000000 in
theorem s_298_18 {Lx : Nat} {I : Mi} {L : Ml} {e : Nat} {Q : Kq} {r : Int32} (h :
    (if r = 0 then
     Q (.inl (some (.int (Int32.ofInt 2)))) (gE Lx) I L e
    else
     Q (.inl (some (.int (Int32.ofInt 0)))) (gE Lx) I L e)) :
    Wp 298 18 [(0, .ref 58)] [.int r] (gE Lx) I L e Q := by
  refine w_a f_298_18 ?_
  refine i_m (fun h => ?_) (fun h => ?_) h
  · refine w_a f_298_21 ?_
    refine w_a f_298_22 ?_
    refine w_a f_298_26 ?_
    exact h
  · refine w_a f_298_25 ?_
    refine w_a f_298_26 ?_
    exact h
set_option maxRecDepth 10000 in
set_option maxHeartbeats 4000000 in
theorem s_299_7 {Lx : Nat} {I : Mi} {L : Ml} {e : Nat} {Q : Kq} {x2 : Int32} {x3 : Int32} {x4 : Int32} {x5 : Int32} {r : Int32} (h :
    (if 0 < r then
     Q (.inl (some (.long (Int64.ofInt 0)))) (gE Lx) (ui I 58 0 r) L e
    else
     Wp 283 0 [(0, .ref 58), (1, .int x2), (2, .int (Int32.ofInt 1)), (3, .int (Int32.ofInt 0))] [] (gE Lx) (ui I 58 0 r) L e (kcp (Wp 286) 286 4 0 [(0, .ref 58), (1, .int x2), (2, .int (Int32.ofInt 1)), (3, .int (Int32.ofInt 0)), (4, .int x3), (5, .int x4), (6, .int x5)] 71 [] (kcp (Wp 299) 299 28 0 [(0, .ref 58)] 71 [] Q)))) :
    Wp 299 7 [(0, .ref 58), (2, .int x2), (3, .int x3), (4, .int x4), (5, .int x5)] [.int r, .ref 58] (gE Lx) I L e Q := by
  refine w_a f_299_7 ?_
  refine w_a f_299_10 ?_
  refine w_a f_299_11 ?_
  refine w_a f_299_14 ?_
  refine i_m (fun h => ?_) (fun h => ?_) h
  · refine w_a f_299_17 ?_
    refine w_a f_299_18 ?_
    exact h
  · refine w_a f_299_19 ?_
    refine w_a f_299_20 ?_
    refine w_a f_299_21 ?_
    refine w_a f_299_22 ?_
    refine w_a f_299_23 ?_
    refine w_a f_299_24 ?_
    refine w_a f_299_26 ?_
    refine w_c (ks := [0]) f_299_28 rfl rfl ?_
    refine w_a (ls := [(0, .ref 58), (1, .int x2), (2, .int (Int32.ofInt 1)), (3, .int (Int32.ofInt 0)), (4, .int x3), (5, .int x4), (6, .int x5)]) f_286_0 ?_
    refine w_a f_286_1 ?_
    refine w_a f_286_2 ?_
    refine w_a f_286_3 ?_
    exact w_c (ks := [0, 1, 2, 3, 4, 5, 6]) f_286_4 rfl rfl h
set_option maxRecDepth 10000 in
set_option maxHeartbeats 4000000 in
theorem s_299_31 {Lx : Nat} {I : Mi} {L : Ml} {e : Nat} {Q : Kq} {rl : Int64} (h :
    (if 0 < (I 58 0) then
     Q (.inl (some (.long rl))) (gE Lx) (ui I 58 0 (Int32.ofInt 2)) L e
    else
     Q (.inl (some (.long rl))) (gE Lx) (ui I 58 0 (Int32.ofInt 0)) L e)) :
    Wp 299 31 [(0, .ref 58)] [.long rl] (gE Lx) I L e Q := by
  refine w_a f_299_31 ?_
  refine w_a (ls := [(6, .long rl), (0, .ref 58)]) f_299_33 ?_
  refine w_a f_299_34 ?_
  refine w_a f_299_35 ?_
  refine w_a f_299_38 ?_
  refine i_m (fun h => ?_) (fun h => ?_) h
  · refine w_a f_299_41 ?_
    refine w_a f_299_42 ?_
    refine w_a f_299_46 ?_
    refine w_a f_299_49 ?_
    refine w_a f_299_51 ?_
    exact h
  · refine w_a f_299_45 ?_
    refine w_a f_299_46 ?_
    refine w_a f_299_49 ?_
    refine w_a f_299_51 ?_
    exact h
set_option maxRecDepth 10000 in
set_option maxHeartbeats 4000000 in
theorem s_300_6 {Lx : Nat} {I : Mi} {L : Ml} {e : Nat} {Q : Kq} {x2 : Int32} {x3 : Int32} {r : Int32} (h :
    (if 0 < r then
     Q (.inl (some (.long (Int64.ofInt 0)))) (gE Lx) (ui I 58 0 r) L e
    else
     Wp 243 0 [(0, .long (((((L 58 14) - (L 58 16)) * ((L 58 14) - (L 58 16))) + ((L 58 15) * (L 58 15))) * ((((L 58 14) + (L 58 16)) * ((L 58 14) + (L 58 16))) + ((L 58 15) * (L 58 15)))))] [] (gE Lx) (ui I 58 0 r) L e (kcp (Wp 242) 242 1 0 [(0, .long (((((L 58 14) - (L 58 16)) * ((L 58 14) - (L 58 16))) + ((L 58 15) * (L 58 15))) * ((((L 58 14) + (L 58 16)) * ((L 58 14) + (L 58 16))) + ((L 58 15) * (L 58 15)))))] 71 [] (kcp (Wp 300) 300 23 0 [(0, .ref 58), (2, .int x2), (3, .int x3)] 71 [.ref 58] Q)))) :
    Wp 300 6 [(0, .ref 58), (2, .int x2), (3, .int x3)] [.int r, .ref 58] (gE Lx) I L e Q := by
  refine w_a f_300_6 ?_
  refine w_a f_300_9 ?_
  refine w_a f_300_10 ?_
  refine w_a f_300_13 ?_
  refine i_m (fun h => ?_) (fun h => ?_) h
  · refine w_a f_300_16 ?_
    refine w_a f_300_17 ?_
    exact h
  · refine w_a f_300_18 ?_
    refine w_a f_300_19 ?_
    refine w_a f_300_20 ?_
    refine w_a (ls := [(0, .ref 58)]) f_302_0 ?_
    refine w_a f_302_1 ?_
    refine w_a f_302_4 ?_
    refine w_a f_302_5 ?_
    refine w_a f_302_8 ?_
    refine w_a f_302_9 ?_
    refine w_a f_302_10 ?_
    refine w_a f_302_13 ?_
    refine w_a (ls := [(0, .long ((L 58 14) - (L 58 16))), (2, .long (L 58 15))]) f_235_0 ?_
    refine w_a f_235_1 ?_
    refine w_a f_235_2 ?_
    refine w_a f_235_3 ?_
    refine w_a f_235_4 ?_
    refine w_a f_235_5 ?_
    refine w_a f_235_6 ?_
    refine w_a f_235_7 ?_
    refine w_a (ls := [(0, .ref 58)]) f_302_16 ?_
    refine w_a f_302_17 ?_
    refine w_a f_302_20 ?_
    refine w_a f_302_21 ?_
    refine w_a f_302_24 ?_
    refine w_a f_302_25 ?_
    refine w_a f_302_26 ?_
    refine w_a f_302_29 ?_
    refine w_a (ls := [(0, .long ((L 58 14) + (L 58 16))), (2, .long (L 58 15))]) f_235_0 ?_
    refine w_a f_235_1 ?_
    refine w_a f_235_2 ?_
    refine w_a f_235_3 ?_
    refine w_a f_235_4 ?_
    refine w_a f_235_5 ?_
    refine w_a f_235_6 ?_
    refine w_a f_235_7 ?_
    refine w_a (ls := [(0, .ref 58)]) f_302_32 ?_
    refine w_a f_302_33 ?_
    refine w_c (ls := [(0, .ref 58), (2, .int x2), (3, .int x3)]) (ks := [0, 2, 3]) f_300_23 rfl rfl ?_
    refine w_a (ls := [(0, .long (((((L 58 14) - (L 58 16)) * ((L 58 14) - (L 58 16))) + ((L 58 15) * (L 58 15))) * ((((L 58 14) + (L 58 16)) * ((L 58 14) + (L 58 16))) + ((L 58 15) * (L 58 15)))))]) f_242_0 ?_
    exact w_c (ks := [0]) f_242_1 rfl rfl h
set_option maxRecDepth 10000 in
set_option maxHeartbeats 4000000 in
theorem s_300_26 {Lx : Nat} {I : Mi} {L : Ml} {e : Nat} {Q : Kq} {x2 : Int32} {x3 : Int32} {r : Int32} (h :
    (if r = 0 then
     Q (.inl (some (.long (Int64.ofInt 0)))) (gE Lx) (ui I 58 0 (Int32.ofInt 2)) L e
    else
     (if (L 58 15) = (Int64.ofInt 0) then
      (if x2 = 0 then
       (if x2 = 0 then
        Wp 246 0 [(0, .ref 58), (1, .long (Int64.ofInt 0)), (3, .long (Int64.ofInt 1))] [] (gE Lx) (ui I 58 0 (Int32.ofInt 0)) L e (kcp (Wp 300) 300 74 0 [(0, .ref 58), (3, .int x3)] 71 [] Q)
       else
        Wp 246 0 [(0, .ref 58), (1, .long (Int64.ofInt 0)), (3, .long (Int64.ofInt 0))] [] (gE Lx) (ui I 58 0 (Int32.ofInt 0)) L e (kcp (Wp 300) 300 74 0 [(0, .ref 58), (3, .int x3)] 71 [] Q))
      else
       (if x2 = 0 then
        Wp 246 0 [(0, .ref 58), (1, .long (Int64.ofInt 1)), (3, .long (Int64.ofInt 1))] [] (gE Lx) (ui I 58 0 (Int32.ofInt 0)) L e (kcp (Wp 300) 300 74 0 [(0, .ref 58), (3, .int x3)] 71 [] Q)
       else
        Wp 246 0 [(0, .ref 58), (1, .long (Int64.ofInt 1)), (3, .long (Int64.ofInt 0))] [] (gE Lx) (ui I 58 0 (Int32.ofInt 0)) L e (kcp (Wp 300) 300 74 0 [(0, .ref 58), (3, .int x3)] 71 [] Q)))
     else
      (if (Int64.ofInt 0) < (L 58 15) then
       (if x2 = (Int32.ofInt 1) then
        Wp 243 0 [(0, .long (((((L 58 14) - (L 58 16)) * ((L 58 14) - (L 58 16))) + ((L 58 15) * (L 58 15))) * ((((L 58 14) + (L 58 16)) * ((L 58 14) + (L 58 16))) + ((L 58 15) * (L 58 15)))))] [] (gE Lx) (ui I 58 0 (Int32.ofInt 0)) L e (kcp (Wp 300) 300 136 0 [(0, .ref 58), (3, .int x3), (4, .long ((((L 58 16) * (L 58 16)) - ((L 58 14) * (L 58 14))) - ((L 58 15) * (L 58 15))))] 71 [] Q)
       else
        Wp 243 0 [(0, .long (((((L 58 14) - (L 58 16)) * ((L 58 14) - (L 58 16))) + ((L 58 15) * (L 58 15))) * ((((L 58 14) + (L 58 16)) * ((L 58 14) + (L 58 16))) + ((L 58 15) * (L 58 15)))))] [] (gE Lx) (ui I 58 0 (Int32.ofInt 0)) L e (kcp (Wp 300) 300 147 0 [(0, .ref 58), (3, .int x3), (4, .long ((((L 58 16) * (L 58 16)) - ((L 58 14) * (L 58 14))) - ((L 58 15) * (L 58 15))))] 71 [] Q))
      else
       (if x2 = (Int32.ofInt 0) then
        Wp 243 0 [(0, .long (((((L 58 14) - (L 58 16)) * ((L 58 14) - (L 58 16))) + ((L 58 15) * (L 58 15))) * ((((L 58 14) + (L 58 16)) * ((L 58 14) + (L 58 16))) + ((L 58 15) * (L 58 15)))))] [] (gE Lx) (ui I 58 0 (Int32.ofInt 0)) L e (kcp (Wp 300) 300 136 0 [(0, .ref 58), (3, .int x3), (4, .long ((((L 58 16) * (L 58 16)) - ((L 58 14) * (L 58 14))) - ((L 58 15) * (L 58 15))))] 71 [] Q)
       else
        Wp 243 0 [(0, .long (((((L 58 14) - (L 58 16)) * ((L 58 14) - (L 58 16))) + ((L 58 15) * (L 58 15))) * ((((L 58 14) + (L 58 16)) * ((L 58 14) + (L 58 16))) + ((L 58 15) * (L 58 15)))))] [] (gE Lx) (ui I 58 0 (Int32.ofInt 0)) L e (kcp (Wp 300) 300 147 0 [(0, .ref 58), (3, .int x3), (4, .long ((((L 58 16) * (L 58 16)) - ((L 58 14) * (L 58 14))) - ((L 58 15) * (L 58 15))))] 71 [] Q)))))) :
    Wp 300 26 [(0, .ref 58), (2, .int x2), (3, .int x3)] [.int r, .ref 58] (gE Lx) I L e Q := by
  refine w_a f_300_26 ?_
  refine i_m (fun h => ?_) (fun h => ?_) h
  · refine w_a f_300_33 ?_
    refine w_a f_300_34 ?_
    refine w_a f_300_37 ?_
    refine w_a f_300_38 ?_
    refine w_a f_300_41 ?_
    refine w_a f_300_44 ?_
    refine w_a f_300_45 ?_
    exact h
  · refine w_a f_300_29 ?_
    refine w_a f_300_30 ?_
    refine w_a f_300_34 ?_
    refine w_a f_300_37 ?_
    refine w_a f_300_38 ?_
    refine w_a f_300_41 ?_
    refine w_a f_300_46 ?_
    refine w_a f_300_47 ?_
    refine w_a f_300_50 ?_
    refine w_a f_300_51 ?_
    refine i_m (fun h => ?_) (fun h => ?_) h
    · refine w_a f_300_55 ?_
      refine w_a f_300_56 ?_
      refine w_a f_300_57 ?_
      refine i_m (fun h => ?_) (fun h => ?_) h
      · refine w_a f_300_64 ?_
        refine w_a f_300_65 ?_
        refine w_a f_300_66 ?_
        refine i_m (fun h => ?_) (fun h => ?_) h
        · refine w_a f_300_73 ?_
          exact w_c (ks := [0, 3]) f_300_74 rfl rfl h
        · refine w_a f_300_69 ?_
          refine w_a f_300_70 ?_
          exact w_c (ks := [0, 3]) f_300_74 rfl rfl h
      · refine w_a f_300_60 ?_
        refine w_a f_300_61 ?_
        refine w_a f_300_65 ?_
        refine w_a f_300_66 ?_
        refine i_m (fun h => ?_) (fun h => ?_) h
        · refine w_a f_300_73 ?_
          exact w_c (ks := [0, 3]) f_300_74 rfl rfl h
        · refine w_a f_300_69 ?_
          refine w_a f_300_70 ?_
          exact w_c (ks := [0, 3]) f_300_74 rfl rfl h
    · refine w_a f_300_83 ?_
      refine w_a f_300_84 ?_
      refine w_a f_300_87 ?_
      refine w_a f_300_88 ?_
      refine w_a f_300_91 ?_
      refine w_a f_300_92 ?_
      refine w_a f_300_93 ?_
      refine w_a f_300_96 ?_
      refine w_a f_300_97 ?_
      refine w_a f_300_100 ?_
      refine w_a f_300_101 ?_
      refine w_a f_300_102 ?_
      refine w_a f_300_103 ?_
      refine w_a f_300_106 ?_
      refine w_a f_300_107 ?_
      refine w_a f_300_110 ?_
      refine w_a f_300_111 ?_
      refine w_a f_300_112 ?_
      refine w_a (ls := [(4, .long ((((L 58 16) * (L 58 16)) - ((L 58 14) * (L 58 14))) - ((L 58 15) * (L 58 15)))), (0, .ref 58), (2, .int x2), (3, .int x3)]) f_300_114 ?_
      refine w_a f_300_115 ?_
      refine w_a f_300_116 ?_
      refine w_a f_300_119 ?_
      refine w_a f_300_120 ?_
      refine i_m (fun h => ?_) (fun h => ?_) h
      · refine w_a f_300_124 ?_
        refine w_a f_300_125 ?_
        refine w_a f_300_129 ?_
        refine i_m (fun h => ?_) (fun h => ?_) h
        · refine w_a f_300_132 ?_
          refine w_a f_300_133 ?_
          refine w_a (ls := [(0, .ref 58)]) f_302_0 ?_
          refine w_a f_302_1 ?_
          refine w_a f_302_4 ?_
          refine w_a f_302_5 ?_
          refine w_a f_302_8 ?_
          refine w_a f_302_9 ?_
          refine w_a f_302_10 ?_
          refine w_a f_302_13 ?_
          refine w_a (ls := [(0, .long ((L 58 14) - (L 58 16))), (2, .long (L 58 15))]) f_235_0 ?_
          refine w_a f_235_1 ?_
          refine w_a f_235_2 ?_
          refine w_a f_235_3 ?_
          refine w_a f_235_4 ?_
          refine w_a f_235_5 ?_
          refine w_a f_235_6 ?_
          refine w_a f_235_7 ?_
          refine w_a (ls := [(0, .ref 58)]) f_302_16 ?_
          refine w_a f_302_17 ?_
          refine w_a f_302_20 ?_
          refine w_a f_302_21 ?_
          refine w_a f_302_24 ?_
          refine w_a f_302_25 ?_
          refine w_a f_302_26 ?_
          refine w_a f_302_29 ?_
          refine w_a (ls := [(0, .long ((L 58 14) + (L 58 16))), (2, .long (L 58 15))]) f_235_0 ?_
          refine w_a f_235_1 ?_
          refine w_a f_235_2 ?_
          refine w_a f_235_3 ?_
          refine w_a f_235_4 ?_
          refine w_a f_235_5 ?_
          refine w_a f_235_6 ?_
          refine w_a f_235_7 ?_
          refine w_a (ls := [(0, .ref 58)]) f_302_32 ?_
          refine w_a f_302_33 ?_
          exact w_c (ls := [(4, .long ((((L 58 16) * (L 58 16)) - ((L 58 14) * (L 58 14))) - ((L 58 15) * (L 58 15)))), (0, .ref 58), (2, .int x2), (3, .int x3)]) (ks := [0, 3, 4]) f_300_136 rfl rfl h
        · refine w_a f_300_143 ?_
          refine w_a f_300_144 ?_
          refine w_a (ls := [(0, .ref 58)]) f_302_0 ?_
          refine w_a f_302_1 ?_
          refine w_a f_302_4 ?_
          refine w_a f_302_5 ?_
          refine w_a f_302_8 ?_
          refine w_a f_302_9 ?_
          refine w_a f_302_10 ?_
          refine w_a f_302_13 ?_
          refine w_a (ls := [(0, .long ((L 58 14) - (L 58 16))), (2, .long (L 58 15))]) f_235_0 ?_
          refine w_a f_235_1 ?_
          refine w_a f_235_2 ?_
          refine w_a f_235_3 ?_
          refine w_a f_235_4 ?_
          refine w_a f_235_5 ?_
          refine w_a f_235_6 ?_
          refine w_a f_235_7 ?_
          refine w_a (ls := [(0, .ref 58)]) f_302_16 ?_
          refine w_a f_302_17 ?_
          refine w_a f_302_20 ?_
          refine w_a f_302_21 ?_
          refine w_a f_302_24 ?_
          refine w_a f_302_25 ?_
          refine w_a f_302_26 ?_
          refine w_a f_302_29 ?_
          refine w_a (ls := [(0, .long ((L 58 14) + (L 58 16))), (2, .long (L 58 15))]) f_235_0 ?_
          refine w_a f_235_1 ?_
          refine w_a f_235_2 ?_
          refine w_a f_235_3 ?_
          refine w_a f_235_4 ?_
          refine w_a f_235_5 ?_
          refine w_a f_235_6 ?_
          refine w_a f_235_7 ?_
          refine w_a (ls := [(0, .ref 58)]) f_302_32 ?_
          refine w_a f_302_33 ?_
          exact w_c (ls := [(4, .long ((((L 58 16) * (L 58 16)) - ((L 58 14) * (L 58 14))) - ((L 58 15) * (L 58 15)))), (0, .ref 58), (2, .int x2), (3, .int x3)]) (ks := [0, 3, 4]) f_300_147 rfl rfl h
      · refine w_a f_300_128 ?_
        refine w_a f_300_129 ?_
        refine i_m (fun h => ?_) (fun h => ?_) h
        · refine w_a f_300_132 ?_
          refine w_a f_300_133 ?_
          refine w_a (ls := [(0, .ref 58)]) f_302_0 ?_
          refine w_a f_302_1 ?_
          refine w_a f_302_4 ?_
          refine w_a f_302_5 ?_
          refine w_a f_302_8 ?_
          refine w_a f_302_9 ?_
          refine w_a f_302_10 ?_
          refine w_a f_302_13 ?_
          refine w_a (ls := [(0, .long ((L 58 14) - (L 58 16))), (2, .long (L 58 15))]) f_235_0 ?_
          refine w_a f_235_1 ?_
          refine w_a f_235_2 ?_
          refine w_a f_235_3 ?_
          refine w_a f_235_4 ?_
          refine w_a f_235_5 ?_
          refine w_a f_235_6 ?_
          refine w_a f_235_7 ?_
          refine w_a (ls := [(0, .ref 58)]) f_302_16 ?_
          refine w_a f_302_17 ?_
          refine w_a f_302_20 ?_
          refine w_a f_302_21 ?_
          refine w_a f_302_24 ?_
          refine w_a f_302_25 ?_
          refine w_a f_302_26 ?_
          refine w_a f_302_29 ?_
          refine w_a (ls := [(0, .long ((L 58 14) + (L 58 16))), (2, .long (L 58 15))]) f_235_0 ?_
          refine w_a f_235_1 ?_
          refine w_a f_235_2 ?_
          refine w_a f_235_3 ?_
          refine w_a f_235_4 ?_
          refine w_a f_235_5 ?_
          refine w_a f_235_6 ?_
          refine w_a f_235_7 ?_
          refine w_a (ls := [(0, .ref 58)]) f_302_32 ?_
          refine w_a f_302_33 ?_
          exact w_c (ls := [(4, .long ((((L 58 16) * (L 58 16)) - ((L 58 14) * (L 58 14))) - ((L 58 15) * (L 58 15)))), (0, .ref 58), (2, .int x2), (3, .int x3)]) (ks := [0, 3, 4]) f_300_136 rfl rfl h
        · refine w_a f_300_143 ?_
          refine w_a f_300_144 ?_
          refine w_a (ls := [(0, .ref 58)]) f_302_0 ?_
          refine w_a f_302_1 ?_
          refine w_a f_302_4 ?_
          refine w_a f_302_5 ?_
          refine w_a f_302_8 ?_
          refine w_a f_302_9 ?_
          refine w_a f_302_10 ?_
          refine w_a f_302_13 ?_
          refine w_a (ls := [(0, .long ((L 58 14) - (L 58 16))), (2, .long (L 58 15))]) f_235_0 ?_
          refine w_a f_235_1 ?_
          refine w_a f_235_2 ?_
          refine w_a f_235_3 ?_
          refine w_a f_235_4 ?_
          refine w_a f_235_5 ?_
          refine w_a f_235_6 ?_
          refine w_a f_235_7 ?_
          refine w_a (ls := [(0, .ref 58)]) f_302_16 ?_
          refine w_a f_302_17 ?_
          refine w_a f_302_20 ?_
          refine w_a f_302_21 ?_
          refine w_a f_302_24 ?_
          refine w_a f_302_25 ?_
          refine w_a f_302_26 ?_
          refine w_a f_302_29 ?_
          refine w_a (ls := [(0, .long ((L 58 14) + (L 58 16))), (2, .long (L 58 15))]) f_235_0 ?_
          refine w_a f_235_1 ?_
          refine w_a f_235_2 ?_
          refine w_a f_235_3 ?_
          refine w_a f_235_4 ?_
          refine w_a f_235_5 ?_
          refine w_a f_235_6 ?_
          refine w_a f_235_7 ?_
          refine w_a (ls := [(0, .ref 58)]) f_302_32 ?_
          refine w_a f_302_33 ?_
          exact w_c (ls := [(4, .long ((((L 58 16) * (L 58 16)) - ((L 58 14) * (L 58 14))) - ((L 58 15) * (L 58 15)))), (0, .ref 58), (2, .int x2), (3, .int x3)]) (ks := [0, 3, 4]) f_300_147 rfl rfl h
set_option maxRecDepth 10000 in
set_option maxHeartbeats 4000000 in
theorem s_300_77 {Lx : Nat} {I : Mi} {L : Ml} {e : Nat} {Q : Kq} {x3 : Int32} (h :
    (if x3 = 0 then
     Q (.inl (some (.long (L 58 8)))) (gE Lx) I L e
    else
     Q (.inl (some (.long (L 58 9)))) (gE Lx) I L e)) :
    Wp 300 77 [(0, .ref 58), (3, .int x3)] [] (gE Lx) I L e Q := by
  refine w_a f_300_77 ?_
  refine w_a f_300_78 ?_
  refine w_a f_300_79 ?_
  refine w_a (ls := [(0, .ref 58), (1, .int x3)]) f_237_0 ?_
  refine w_a f_237_1 ?_
  refine i_m (fun h => ?_) (fun h => ?_) h
  · refine w_a f_237_11 ?_
    refine w_a f_237_12 ?_
    refine w_a f_237_15 ?_
    refine w_a (ls := [(0, .ref 58), (3, .int x3)]) f_300_82 ?_
    exact h
  · refine w_a f_237_4 ?_
    refine w_a f_237_5 ?_
    refine w_a f_237_8 ?_
    refine w_a f_237_15 ?_
    refine w_a (ls := [(0, .ref 58), (3, .int x3)]) f_300_82 ?_
    exact h
set_option maxRecDepth 10000 in
set_option maxHeartbeats 4000000 in
theorem s_300_139 {Lx : Nat} {I : Mi} {L : Ml} {e : Nat} {Q : Kq} {x3 : Int32} {y4 : Int64} {rl : Int64} (h :
    Wp 300 150 [(0, .ref 58), (3, .int x3), (4, .long y4)] [.long (-rl)] (gE Lx) I L e Q) :
    Wp 300 139 [(0, .ref 58), (3, .int x3), (4, .long y4)] [.long rl] (gE Lx) I L e Q := by
  refine w_a f_300_139 ?_
  refine w_a f_300_140 ?_
  exact w_n (ks := [0, 3, 4]) rfl h
set_option maxRecDepth 10000 in
set_option maxHeartbeats 4000000 in
theorem s_300_150 {Lx : Nat} {I : Mi} {L : Ml} {e : Nat} {Q : Kq} {x3 : Int32} {y4 : Int64} {rl : Int64} (h :
    Wp 246 0 [(0, .ref 58), (1, .long (y4 + rl)), (3, .long (((Int64.ofInt 2) * (L 58 15)) * (L 58 16)))] [] (gE Lx) I L e (kcp (Wp 300) 300 171 0 [(0, .ref 58), (3, .int x3)] 71 [] Q)) :
    Wp 300 150 [(0, .ref 58), (3, .int x3), (4, .long y4)] [.long rl] (gE Lx) I L e Q := by
  refine w_a f_300_150 ?_
  refine w_a (ls := [(6, .long rl), (0, .ref 58), (3, .int x3), (4, .long y4)]) f_300_152 ?_
  refine w_a f_300_153 ?_
  refine w_a f_300_155 ?_
  refine w_a f_300_157 ?_
  refine w_a f_300_158 ?_
  refine w_a f_300_161 ?_
  refine w_a f_300_162 ?_
  refine w_a f_300_165 ?_
  refine w_a f_300_166 ?_
  refine w_a f_300_167 ?_
  refine w_a f_300_170 ?_
  exact w_c (ks := [0, 3]) f_300_171 rfl rfl h
set_option maxRecDepth 10000 in
set_option maxHeartbeats 4000000 in
theorem s_300_174 {Lx : Nat} {I : Mi} {L : Ml} {e : Nat} {Q : Kq} {x3 : Int32} (h :
    (if x3 = 0 then
     Q (.inl (some (.long (L 58 8)))) (gE Lx) I L e
    else
     Q (.inl (some (.long (L 58 9)))) (gE Lx) I L e)) :
    Wp 300 174 [(0, .ref 58), (3, .int x3)] [] (gE Lx) I L e Q := by
  refine w_a f_300_174 ?_
  refine w_a f_300_175 ?_
  refine w_a f_300_176 ?_
  refine w_a (ls := [(0, .ref 58), (1, .int x3)]) f_237_0 ?_
  refine w_a f_237_1 ?_
  refine i_m (fun h => ?_) (fun h => ?_) h
  · refine w_a f_237_11 ?_
    refine w_a f_237_12 ?_
    refine w_a f_237_15 ?_
    refine w_a (ls := [(0, .ref 58), (3, .int x3)]) f_300_179 ?_
    exact h
  · refine w_a f_237_4 ?_
    refine w_a f_237_5 ?_
    refine w_a f_237_8 ?_
    refine w_a f_237_15 ?_
    refine w_a (ls := [(0, .ref 58), (3, .int x3)]) f_300_179 ?_
    exact h
set_option maxRecDepth 10000 in
set_option maxHeartbeats 4000000 in
theorem s_301_17 {Lx : Nat} {I : Mi} {L : Ml} {e : Nat} {Q : Kq} {r : Int32} (h :
    (if r = 0 then
     Q (.inl (some (.int (Int32.ofInt 2)))) (gE Lx) I L e
    else
     (if (L 58 14) = (L 58 16) then
      (if (L 58 15) = (Int64.ofInt 0) then
       Q (.inl (some (.int (Int32.ofInt 2)))) (gE Lx) I L e
      else
       Q (.inl (some (.int (Int32.ofInt 0)))) (gE Lx) I L e)
     else
      Q (.inl (some (.int (Int32.ofInt 0)))) (gE Lx) I L e))) :
    Wp 301 17 [(0, .ref 58)] [.int r] (gE Lx) I L e Q := by
  refine w_a f_301_17 ?_
  refine i_m (fun h => ?_) (fun h => ?_) h
  · refine w_a f_301_27 ?_
    refine w_a f_301_28 ?_
    refine w_a f_301_32 ?_
    exact h
  · refine w_a f_301_20 ?_
    refine w_a f_301_21 ?_
    refine w_a (ls := [(0, .ref 58)]) f_254_0 ?_
    refine w_a f_254_1 ?_
    refine w_a f_254_4 ?_
    refine w_a f_254_5 ?_
    refine w_a f_254_8 ?_
    refine i_m (fun h => ?_) (fun h => ?_) h
    · refine w_a f_254_12 ?_
      refine w_a f_254_13 ?_
      refine w_a f_254_16 ?_
      refine w_a f_254_17 ?_
      refine i_m (fun h => ?_) (fun h => ?_) h
      · refine w_a f_254_21 ?_
        refine w_a f_254_22 ?_
        refine w_a f_254_26 ?_
        refine w_a (ls := [(0, .ref 58)]) f_301_24 ?_
        refine w_a f_301_27 ?_
        refine w_a f_301_28 ?_
        refine w_a f_301_32 ?_
        exact h
      · refine w_a f_254_25 ?_
        refine w_a f_254_26 ?_
        refine w_a (ls := [(0, .ref 58)]) f_301_24 ?_
        refine w_a f_301_31 ?_
        refine w_a f_301_32 ?_
        exact h
    · refine w_a f_254_25 ?_
      refine w_a f_254_26 ?_
      refine w_a (ls := [(0, .ref 58)]) f_301_24 ?_
      refine w_a f_301_31 ?_
      refine w_a f_301_32 ?_
      exact h
set_option maxRecDepth 10000 in
set_option maxHeartbeats 4000000 in
theorem s_303_18 {Lx : Nat} {I : Mi} {L : Ml} {e : Nat} {Q : Kq} {x2 : Int32} {r : Int32} (h :
    (if r = 0 then
     Q (.inl (some (.long (Int64.ofInt 0)))) (gE Lx) (ui I 58 0 (Int32.ofInt 2)) L e
    else
     Wp 243 0 [(0, .long (((((L 58 14) - (L 58 16)) * ((L 58 14) - (L 58 16))) + ((L 58 15) * (L 58 15))) * ((((L 58 14) + (L 58 16)) * ((L 58 14) + (L 58 16))) + ((L 58 15) * (L 58 15)))))] [] (gE Lx) I L e (kcp (Wp 242) 242 1 0 [(0, .long (((((L 58 14) - (L 58 16)) * ((L 58 14) - (L 58 16))) + ((L 58 15) * (L 58 15))) * ((((L 58 14) + (L 58 16)) * ((L 58 14) + (L 58 16))) + ((L 58 15) * (L 58 15)))))] 71 [] (kcp (Wp 303) 303 25 0 [(0, .ref 58), (2, .int x2)] 71 [.ref 58] Q)))) :
    Wp 303 18 [(0, .ref 58), (2, .int x2)] [.int r, .ref 58] (gE Lx) I L e Q := by
  refine w_a f_303_18 ?_
  refine i_m (fun h => ?_) (fun h => ?_) h
  · refine w_a f_303_31 ?_
    refine w_a f_303_32 ?_
    refine w_a f_303_36 ?_
    refine w_a f_303_39 ?_
    refine w_a f_303_40 ?_
    refine w_a f_303_43 ?_
    refine w_a f_303_46 ?_
    refine w_a f_303_47 ?_
    exact h
  · refine w_a f_303_21 ?_
    refine w_a f_303_22 ?_
    refine w_a (ls := [(0, .ref 58)]) f_302_0 ?_
    refine w_a f_302_1 ?_
    refine w_a f_302_4 ?_
    refine w_a f_302_5 ?_
    refine w_a f_302_8 ?_
    refine w_a f_302_9 ?_
    refine w_a f_302_10 ?_
    refine w_a f_302_13 ?_
    refine w_a (ls := [(0, .long ((L 58 14) - (L 58 16))), (2, .long (L 58 15))]) f_235_0 ?_
    refine w_a f_235_1 ?_
    refine w_a f_235_2 ?_
    refine w_a f_235_3 ?_
    refine w_a f_235_4 ?_
    refine w_a f_235_5 ?_
    refine w_a f_235_6 ?_
    refine w_a f_235_7 ?_
    refine w_a (ls := [(0, .ref 58)]) f_302_16 ?_
    refine w_a f_302_17 ?_
    refine w_a f_302_20 ?_
    refine w_a f_302_21 ?_
    refine w_a f_302_24 ?_
    refine w_a f_302_25 ?_
    refine w_a f_302_26 ?_
    refine w_a f_302_29 ?_
    refine w_a (ls := [(0, .long ((L 58 14) + (L 58 16))), (2, .long (L 58 15))]) f_235_0 ?_
    refine w_a f_235_1 ?_
    refine w_a f_235_2 ?_
    refine w_a f_235_3 ?_
    refine w_a f_235_4 ?_
    refine w_a f_235_5 ?_
    refine w_a f_235_6 ?_
    refine w_a f_235_7 ?_
    refine w_a (ls := [(0, .ref 58)]) f_302_32 ?_
    refine w_a f_302_33 ?_
    refine w_c (ls := [(0, .ref 58), (2, .int x2)]) (ks := [0, 2]) f_303_25 rfl rfl ?_
    refine w_a (ls := [(0, .long (((((L 58 14) - (L 58 16)) * ((L 58 14) - (L 58 16))) + ((L 58 15) * (L 58 15))) * ((((L 58 14) + (L 58 16)) * ((L 58 14) + (L 58 16))) + ((L 58 15) * (L 58 15)))))]) f_242_0 ?_
    exact w_c (ks := [0]) f_242_1 rfl rfl h
set_option maxRecDepth 10000 in
set_option maxHeartbeats 4000000 in
theorem s_303_28 {Lx : Nat} {I : Mi} {L : Ml} {e : Nat} {Q : Kq} {x2 : Int32} {r : Int32} (h :
    (if r = 0 then
     Q (.inl (some (.long (Int64.ofInt 0)))) (gE Lx) (ui I 58 0 (Int32.ofInt 2)) L e
    else
     (if (L 58 14) = (L 58 16) then
      (if (L 58 15) = (Int64.ofInt 0) then
       Wp 236 0 [(0, .ref 58), (1, .long (Int64.ofInt 1)), (3, .long (Int64.ofInt 1))] [] (gE Lx) (ui I 58 0 (Int32.ofInt 0)) L e (kcp (Wp 303) 303 58 0 [(0, .ref 58), (2, .int x2)] 71 [] Q)
      else
       Wp 243 0 [(0, .long (((((L 58 14) - (L 58 16)) * ((L 58 14) - (L 58 16))) + ((L 58 15) * (L 58 15))) * ((((L 58 14) + (L 58 16)) * ((L 58 14) + (L 58 16))) + ((L 58 15) * (L 58 15)))))] [] (gE Lx) (ui I 58 0 (Int32.ofInt 0)) L e (kcp (Wp 303) 303 105 0 [(0, .ref 58), (2, .int x2)] 71 [.long (Int64.ofInt 2), .long (((((L 58 14) - (L 58 16)) * ((L 58 14) - (L 58 16))) + ((L 58 15) * (L 58 15))) + ((((L 58 14) + (L 58 16)) * ((L 58 14) + (L 58 16))) + ((L 58 15) * (L 58 15)))), .ref 58] Q))
     else
      Wp 243 0 [(0, .long (((((L 58 14) - (L 58 16)) * ((L 58 14) - (L 58 16))) + ((L 58 15) * (L 58 15))) * ((((L 58 14) + (L 58 16)) * ((L 58 14) + (L 58 16))) + ((L 58 15) * (L 58 15)))))] [] (gE Lx) (ui I 58 0 (Int32.ofInt 0)) L e (kcp (Wp 303) 303 105 0 [(0, .ref 58), (2, .int x2)] 71 [.long (Int64.ofInt 2), .long (((((L 58 14) - (L 58 16)) * ((L 58 14) - (L 58 16))) + ((L 58 15) * (L 58 15))) + ((((L 58 14) + (L 58 16)) * ((L 58 14) + (L 58 16))) + ((L 58 15) * (L 58 15)))), .ref 58] Q)))) :
    Wp 303 28 [(0, .ref 58), (2, .int x2)] [.int r, .ref 58] (gE Lx) I L e Q := by
  refine w_a f_303_28 ?_
  refine i_m (fun h => ?_) (fun h => ?_) h
  · refine w_a f_303_31 ?_
    refine w_a f_303_32 ?_
    refine w_a f_303_36 ?_
    refine w_a f_303_39 ?_
    refine w_a f_303_40 ?_
    refine w_a f_303_43 ?_
    refine w_a f_303_46 ?_
    refine w_a f_303_47 ?_
    exact h
  · refine w_a f_303_35 ?_
    refine w_a f_303_36 ?_
    refine w_a f_303_39 ?_
    refine w_a f_303_40 ?_
    refine w_a f_303_43 ?_
    refine w_a f_303_48 ?_
    refine w_a f_303_49 ?_
    refine w_a (ls := [(0, .ref 58)]) f_254_0 ?_
    refine w_a f_254_1 ?_
    refine w_a f_254_4 ?_
    refine w_a f_254_5 ?_
    refine w_a f_254_8 ?_
    refine i_m (fun h => ?_) (fun h => ?_) h
    · refine w_a f_254_12 ?_
      refine w_a f_254_13 ?_
      refine w_a f_254_16 ?_
      refine w_a f_254_17 ?_
      refine i_m (fun h => ?_) (fun h => ?_) h
      · refine w_a f_254_21 ?_
        refine w_a f_254_22 ?_
        refine w_a f_254_26 ?_
        refine w_a (ls := [(0, .ref 58), (2, .int x2)]) f_303_52 ?_
        refine w_a f_303_55 ?_
        refine w_a f_303_56 ?_
        refine w_a f_303_57 ?_
        exact w_c (ks := [0, 2]) f_303_58 rfl rfl h
      · refine w_a f_254_25 ?_
        refine w_a f_254_26 ?_
        refine w_a (ls := [(0, .ref 58), (2, .int x2)]) f_303_52 ?_
        refine w_a f_303_64 ?_
        refine w_a f_303_65 ?_
        refine w_a f_303_66 ?_
        refine w_a f_303_69 ?_
        refine w_a f_303_70 ?_
        refine w_a f_303_73 ?_
        refine w_a f_303_74 ?_
        refine w_a f_303_75 ?_
        refine w_a f_303_78 ?_
        refine w_a (ls := [(0, .long ((L 58 14) - (L 58 16))), (2, .long (L 58 15))]) f_235_0 ?_
        refine w_a f_235_1 ?_
        refine w_a f_235_2 ?_
        refine w_a f_235_3 ?_
        refine w_a f_235_4 ?_
        refine w_a f_235_5 ?_
        refine w_a f_235_6 ?_
        refine w_a f_235_7 ?_
        refine w_a (ls := [(0, .ref 58), (2, .int x2)]) f_303_81 ?_
        refine w_a f_303_82 ?_
        refine w_a f_303_85 ?_
        refine w_a f_303_86 ?_
        refine w_a f_303_89 ?_
        refine w_a f_303_90 ?_
        refine w_a f_303_91 ?_
        refine w_a f_303_94 ?_
        refine w_a (ls := [(0, .long ((L 58 14) + (L 58 16))), (2, .long (L 58 15))]) f_235_0 ?_
        refine w_a f_235_1 ?_
        refine w_a f_235_2 ?_
        refine w_a f_235_3 ?_
        refine w_a f_235_4 ?_
        refine w_a f_235_5 ?_
        refine w_a f_235_6 ?_
        refine w_a f_235_7 ?_
        refine w_a (ls := [(0, .ref 58), (2, .int x2)]) f_303_97 ?_
        refine w_a f_303_98 ?_
        refine w_a f_303_101 ?_
        refine w_a f_303_102 ?_
        refine w_a (ls := [(0, .ref 58)]) f_302_0 ?_
        refine w_a f_302_1 ?_
        refine w_a f_302_4 ?_
        refine w_a f_302_5 ?_
        refine w_a f_302_8 ?_
        refine w_a f_302_9 ?_
        refine w_a f_302_10 ?_
        refine w_a f_302_13 ?_
        refine w_a (ls := [(0, .long ((L 58 14) - (L 58 16))), (2, .long (L 58 15))]) f_235_0 ?_
        refine w_a f_235_1 ?_
        refine w_a f_235_2 ?_
        refine w_a f_235_3 ?_
        refine w_a f_235_4 ?_
        refine w_a f_235_5 ?_
        refine w_a f_235_6 ?_
        refine w_a f_235_7 ?_
        refine w_a (ls := [(0, .ref 58)]) f_302_16 ?_
        refine w_a f_302_17 ?_
        refine w_a f_302_20 ?_
        refine w_a f_302_21 ?_
        refine w_a f_302_24 ?_
        refine w_a f_302_25 ?_
        refine w_a f_302_26 ?_
        refine w_a f_302_29 ?_
        refine w_a (ls := [(0, .long ((L 58 14) + (L 58 16))), (2, .long (L 58 15))]) f_235_0 ?_
        refine w_a f_235_1 ?_
        refine w_a f_235_2 ?_
        refine w_a f_235_3 ?_
        refine w_a f_235_4 ?_
        refine w_a f_235_5 ?_
        refine w_a f_235_6 ?_
        refine w_a f_235_7 ?_
        refine w_a (ls := [(0, .ref 58)]) f_302_32 ?_
        refine w_a f_302_33 ?_
        exact w_c (ls := [(0, .ref 58), (2, .int x2)]) (ks := [0, 2]) f_303_105 rfl rfl h
    · refine w_a f_254_25 ?_
      refine w_a f_254_26 ?_
      refine w_a (ls := [(0, .ref 58), (2, .int x2)]) f_303_52 ?_
      refine w_a f_303_64 ?_
      refine w_a f_303_65 ?_
      refine w_a f_303_66 ?_
      refine w_a f_303_69 ?_
      refine w_a f_303_70 ?_
      refine w_a f_303_73 ?_
      refine w_a f_303_74 ?_
      refine w_a f_303_75 ?_
      refine w_a f_303_78 ?_
      refine w_a (ls := [(0, .long ((L 58 14) - (L 58 16))), (2, .long (L 58 15))]) f_235_0 ?_
      refine w_a f_235_1 ?_
      refine w_a f_235_2 ?_
      refine w_a f_235_3 ?_
      refine w_a f_235_4 ?_
      refine w_a f_235_5 ?_
      refine w_a f_235_6 ?_
      refine w_a f_235_7 ?_
      refine w_a (ls := [(0, .ref 58), (2, .int x2)]) f_303_81 ?_
      refine w_a f_303_82 ?_
      refine w_a f_303_85 ?_
      refine w_a f_303_86 ?_
      refine w_a f_303_89 ?_
      refine w_a f_303_90 ?_
      refine w_a f_303_91 ?_
      refine w_a f_303_94 ?_
      refine w_a (ls := [(0, .long ((L 58 14) + (L 58 16))), (2, .long (L 58 15))]) f_235_0 ?_
      refine w_a f_235_1 ?_
      refine w_a f_235_2 ?_
      refine w_a f_235_3 ?_
      refine w_a f_235_4 ?_
      refine w_a f_235_5 ?_
      refine w_a f_235_6 ?_
      refine w_a f_235_7 ?_
      refine w_a (ls := [(0, .ref 58), (2, .int x2)]) f_303_97 ?_
      refine w_a f_303_98 ?_
      refine w_a f_303_101 ?_
      refine w_a f_303_102 ?_
      refine w_a (ls := [(0, .ref 58)]) f_302_0 ?_
      refine w_a f_302_1 ?_
      refine w_a f_302_4 ?_
      refine w_a f_302_5 ?_
      refine w_a f_302_8 ?_
      refine w_a f_302_9 ?_
      refine w_a f_302_10 ?_
      refine w_a f_302_13 ?_
      refine w_a (ls := [(0, .long ((L 58 14) - (L 58 16))), (2, .long (L 58 15))]) f_235_0 ?_
      refine w_a f_235_1 ?_
      refine w_a f_235_2 ?_
      refine w_a f_235_3 ?_
      refine w_a f_235_4 ?_
      refine w_a f_235_5 ?_
      refine w_a f_235_6 ?_
      refine w_a f_235_7 ?_
      refine w_a (ls := [(0, .ref 58)]) f_302_16 ?_
      refine w_a f_302_17 ?_
      refine w_a f_302_20 ?_
      refine w_a f_302_21 ?_
      refine w_a f_302_24 ?_
      refine w_a f_302_25 ?_
      refine w_a f_302_26 ?_
      refine w_a f_302_29 ?_
      refine w_a (ls := [(0, .long ((L 58 14) + (L 58 16))), (2, .long (L 58 15))]) f_235_0 ?_
      refine w_a f_235_1 ?_
      refine w_a f_235_2 ?_
      refine w_a f_235_3 ?_
      refine w_a f_235_4 ?_
      refine w_a f_235_5 ?_
      refine w_a f_235_6 ?_
      refine w_a f_235_7 ?_
      refine w_a (ls := [(0, .ref 58)]) f_302_32 ?_
      refine w_a f_302_33 ?_
      exact w_c (ls := [(0, .ref 58), (2, .int x2)]) (ks := [0, 2]) f_303_105 rfl rfl h
set_option maxRecDepth 10000 in
set_option maxHeartbeats 4000000 in
theorem s_303_61 {Lx : Nat} {I : Mi} {L : Ml} {e : Nat} {Q : Kq} {x2 : Int32} (h :
    Wp 303 126 [(0, .ref 58), (2, .int x2)] [] (gE Lx) I L e Q) :
    Wp 303 61 [(0, .ref 58), (2, .int x2)] [] (gE Lx) I L e Q := by
  refine w_a f_303_61 ?_
  exact w_n (ks := [0, 2]) rfl h
set_option maxRecDepth 10000 in
set_option maxHeartbeats 4000000 in
theorem s_303_108 {Lx : Nat} {I : Mi} {L : Ml} {e : Nat} {Q : Kq} {x2 : Int32} {rl1 : Int64} {rl2 : Int64} {rl : Int64} (h :
    Wp 246 0 [(0, .ref 58), (1, .long (rl1 + (rl2 * rl))), (3, .long (((Int64.ofInt 4) * (L 58 14)) * (L 58 16)))] [] (gE Lx) I L e (kcp (Wp 303) 303 123 0 [(0, .ref 58), (2, .int x2)] 71 [] Q)) :
    Wp 303 108 [(0, .ref 58), (2, .int x2)] [.long rl, .long rl2, .long rl1, .ref 58] (gE Lx) I L e Q := by
  refine w_a f_303_108 ?_
  refine w_a f_303_109 ?_
  refine w_a f_303_110 ?_
  refine w_a f_303_113 ?_
  refine w_a f_303_114 ?_
  refine w_a f_303_117 ?_
  refine w_a f_303_118 ?_
  refine w_a f_303_119 ?_
  refine w_a f_303_122 ?_
  exact w_c (ks := [0, 2]) f_303_123 rfl rfl h
set_option maxRecDepth 10000 in
set_option maxHeartbeats 4000000 in
theorem s_303_126 {Lx : Nat} {I : Mi} {L : Ml} {e : Nat} {Q : Kq} {x2 : Int32} (h :
    (if x2 = 0 then
     Q (.inl (some (.long (L 58 8)))) (gE Lx) I L e
    else
     Q (.inl (some (.long (L 58 9)))) (gE Lx) I L e)) :
    Wp 303 126 [(0, .ref 58), (2, .int x2)] [] (gE Lx) I L e Q := by
  refine w_a f_303_126 ?_
  refine w_a f_303_127 ?_
  refine w_a f_303_128 ?_
  refine w_a (ls := [(0, .ref 58), (1, .int x2)]) f_237_0 ?_
  refine w_a f_237_1 ?_
  refine i_m (fun h => ?_) (fun h => ?_) h
  · refine w_a f_237_11 ?_
    refine w_a f_237_12 ?_
    refine w_a f_237_15 ?_
    refine w_a (ls := [(0, .ref 58), (2, .int x2)]) f_303_131 ?_
    exact h
  · refine w_a f_237_4 ?_
    refine w_a f_237_5 ?_
    refine w_a f_237_8 ?_
    refine w_a f_237_15 ?_
    refine w_a (ls := [(0, .ref 58), (2, .int x2)]) f_303_131 ?_
    exact h
set_option maxRecDepth 10000 in
set_option maxHeartbeats 4000000 in
theorem s_304_6 {Lx : Nat} {I : Mi} {L : Ml} {e : Nat} {Q : Kq} {r : Int32} (h :
    (if r = 0 then
     (if (Int64.ofInt 0) < (L 58 15) then
      Q (.inl (some (.int (Int32.ofInt 1)))) (gE Lx) (ui I 58 0 r) L e
     else
      (if (L 58 15) = (Int64.ofInt 0) then
       (if (L 58 16) < (L 58 14) then
        Q (.inl (some (.int (Int32.ofInt 1)))) (gE Lx) (ui I 58 0 r) L e
       else
        Q (.inl (some (.int (Int32.ofInt 0)))) (gE Lx) (ui I 58 0 r) L e)
      else
       Q (.inl (some (.int (Int32.ofInt 0)))) (gE Lx) (ui I 58 0 r) L e))
    else
     Q (.inl (some (.int (Int32.ofInt 0)))) (gE Lx) (ui I 58 0 r) L e)) :
    Wp 304 6 [(0, .ref 58)] [.int r, .ref 58] (gE Lx) I L e Q := by
  refine w_a f_304_6 ?_
  refine w_a f_304_9 ?_
  refine w_a f_304_10 ?_
  refine w_a f_304_13 ?_
  refine i_m (fun h => ?_) (fun h => ?_) h
  · refine w_a f_304_16 ?_
    refine w_a f_304_17 ?_
    refine w_a f_304_20 ?_
    refine w_a f_304_21 ?_
    refine i_m (fun h => ?_) (fun h => ?_) h
    · refine w_a f_304_46 ?_
      refine w_a f_304_47 ?_
      refine w_a f_304_51 ?_
      exact h
    · refine w_a f_304_25 ?_
      refine w_a f_304_26 ?_
      refine w_a f_304_29 ?_
      refine w_a f_304_30 ?_
      refine i_m (fun h => ?_) (fun h => ?_) h
      · refine w_a f_304_34 ?_
        refine w_a f_304_35 ?_
        refine w_a f_304_38 ?_
        refine w_a f_304_39 ?_
        refine w_a f_304_42 ?_
        refine i_m (fun h => ?_) (fun h => ?_) h
        · refine w_a f_304_46 ?_
          refine w_a f_304_47 ?_
          refine w_a f_304_51 ?_
          exact h
        · refine w_a f_304_50 ?_
          refine w_a f_304_51 ?_
          exact h
      · refine w_a f_304_50 ?_
        refine w_a f_304_51 ?_
        exact h
  · refine w_a f_304_50 ?_
    refine w_a f_304_51 ?_
    exact h
set_option maxRecDepth 10000 in
set_option maxHeartbeats 4000000 in
theorem s_305_55 {Lx : Nat} {I : Mi} {L : Ml} {e : Nat} {Q : Kq} {x2 : Int32} {x3 : Int32} {x4 : Int32} {x5 : Int32} {r : Int32} (h :
    (if 0 < r then
     Q (.inl (some (.int (Int32.ofInt 0)))) (gE Lx) (ui I 58 0 r) L e
    else
     Wp 305 73 [(0, .ref 58), (2, .int x2), (3, .int x3), (4, .int x4), (5, .int x5), (6, .int (Int32.ofInt 0)), (7, .int (Int32.ofInt 0))] [] (gE Lx) (ui I 58 0 r) L e Q)) :
    Wp 305 55 [(0, .ref 58), (2, .int x2), (3, .int x3), (4, .int x4), (5, .int x5)] [.int r, .ref 58] (gE Lx) I L e Q := by
  refine w_a f_305_55 ?_
  refine w_a f_305_58 ?_
  refine w_a f_305_59 ?_
  refine w_a f_305_62 ?_
  refine i_m (fun h => ?_) (fun h => ?_) h
  · refine w_a f_305_65 ?_
    refine w_a f_305_66 ?_
    exact h
  · refine w_a f_305_67 ?_
    refine w_a f_305_68 ?_
    refine w_a (ls := [(6, .int (Int32.ofInt 0)), (0, .ref 58), (2, .int x2), (3, .int x3), (4, .int x4), (5, .int x5)]) f_305_70 ?_
    refine w_a f_305_71 ?_
    exact w_n (ks := [0, 2, 3, 4, 5, 6, 7]) rfl h
set_option maxRecDepth 10000 in
set_option maxHeartbeats 4000000 in
theorem s_305_73 {Lx : Nat} {I : Mi} {L : Ml} {e : Nat} {Q : Kq} {x2 : Int32} {x3 : Int32} {x4 : Int32} {x5 : Int32} {x6 : Int32} {x7 : Int32} (h :
    (if x7 < (I 58 7) then
     (inb x7 184 (
      (if (I 61 x7.toNatClampNeg) < (-x3) then
       Wp 305 73 [(0, .ref 58), (2, .int x2), (3, .int x3), (4, .int x4), (5, .int x5), (6, .int x6), (7, .int (x7 + Int32.ofInt 1))] [] (gE Lx) I L e Q
      else
       (if x3 < (I 61 x7.toNatClampNeg) then
        Wp 305 73 [(0, .ref 58), (2, .int x2), (3, .int x3), (4, .int x4), (5, .int x5), (6, .int x6), (7, .int (x7 + Int32.ofInt 1))] [] (gE Lx) I L e Q
       else
        (inb x7 184 (
         (if x3 < (I 62 x7.toNatClampNeg) then
          Wp 305 73 [(0, .ref 58), (2, .int x2), (3, .int x3), (4, .int x4), (5, .int x5), (6, .int x6), (7, .int (x7 + Int32.ofInt 1))] [] (gE Lx) I L e Q
         else
          Wp 228 0 [(0, .ref 58), (1, .long (L 58 14)), (3, .long (L 58 15)), (5, .long (L 58 16)), (7, .long (Int64.ofInt 0))] [] (gE Lx) I L e (kcp (Wp 276) 276 14 0 [(0, .ref 58)] 71 [] (kcp (Wp 305) 305 96 0 [(0, .ref 58), (2, .int x2), (3, .int x3), (4, .int x4), (5, .int x5), (6, .int x6), (7, .int x7)] 71 [] Q))))
        False))))
     False)
    else
     Q (.inl (some (.int x6))) (gE Lx) I L e)) :
    Wp 305 73 [(0, .ref 58), (2, .int x2), (3, .int x3), (4, .int x4), (5, .int x5), (6, .int x6), (7, .int x7)] [] (gE Lx) I L e Q := by
  refine w_a f_305_73 ?_
  refine w_a f_305_75 ?_
  refine w_a f_305_76 ?_
  refine w_a f_305_79 ?_
  refine i_m (fun h => ?_) (fun h => ?_) h
  · refine w_a f_305_82 ?_
    refine w_a f_305_83 ?_
    refine w_a f_305_85 ?_
    refine w_a f_305_86 ?_
    refine w_a (ls := [(0, .ref 58), (1, .int x7), (2, .int x3)]) f_307_0 ?_
    refine w_a f_307_1 ?_
    refine w_a f_307_4 ?_
    refine w_a f_307_5 ?_
    refine n_m (fun h => ?_) h
    refine w_a f_307_6 ?_
    refine w_a f_307_7 ?_
    refine w_a f_307_8 ?_
    refine w_a f_307_9 ?_
    refine w_a (ls := [(0, .int (I 61 x7.toNatClampNeg)), (1, .int (-x3)), (2, .int x3)]) f_208_0 ?_
    refine w_a f_208_1 ?_
    refine w_a f_208_2 ?_
    refine i_m (fun h => ?_) (fun h => ?_) h
    · refine w_a f_208_14 ?_
      refine w_a f_208_15 ?_
      refine w_a (ls := [(0, .ref 58), (1, .int x7), (2, .int x3)]) f_307_12 ?_
      refine w_a f_307_29 ?_
      refine w_a f_307_30 ?_
      refine w_a (ls := [(0, .ref 58), (2, .int x2), (3, .int x3), (4, .int x4), (5, .int x5), (6, .int x6), (7, .int x7)]) f_305_89 ?_
      refine w_a f_305_92 ?_
      refine w_a f_305_162 ?_
      refine w_a (ls := [(7, .int (x7 + Int32.ofInt 1)), (0, .ref 58), (2, .int x2), (3, .int x3), (4, .int x4), (5, .int x5), (6, .int x6)]) f_305_165 ?_
      exact w_n (ks := [0, 2, 3, 4, 5, 6, 7]) rfl h
    · refine w_a f_208_5 ?_
      refine w_a f_208_6 ?_
      refine w_a f_208_7 ?_
      refine i_m (fun h => ?_) (fun h => ?_) h
      · refine w_a f_208_14 ?_
        refine w_a f_208_15 ?_
        refine w_a (ls := [(0, .ref 58), (1, .int x7), (2, .int x3)]) f_307_12 ?_
        refine w_a f_307_29 ?_
        refine w_a f_307_30 ?_
        refine w_a (ls := [(0, .ref 58), (2, .int x2), (3, .int x3), (4, .int x4), (5, .int x5), (6, .int x6), (7, .int x7)]) f_305_89 ?_
        refine w_a f_305_92 ?_
        refine w_a f_305_162 ?_
        refine w_a (ls := [(7, .int (x7 + Int32.ofInt 1)), (0, .ref 58), (2, .int x2), (3, .int x3), (4, .int x4), (5, .int x5), (6, .int x6)]) f_305_165 ?_
        exact w_n (ks := [0, 2, 3, 4, 5, 6, 7]) rfl h
      · refine w_a f_208_10 ?_
        refine w_a f_208_11 ?_
        refine w_a f_208_15 ?_
        refine w_a (ls := [(0, .ref 58), (1, .int x7), (2, .int x3)]) f_307_12 ?_
        refine w_a f_307_15 ?_
        refine w_a f_307_16 ?_
        refine w_a f_307_19 ?_
        refine w_a f_307_20 ?_
        refine n_m (fun h => ?_) h
        refine w_a f_307_21 ?_
        refine w_a f_307_22 ?_
        refine i_m (fun h => ?_) (fun h => ?_) h
        · refine w_a f_307_29 ?_
          refine w_a f_307_30 ?_
          refine w_a (ls := [(0, .ref 58), (2, .int x2), (3, .int x3), (4, .int x4), (5, .int x5), (6, .int x6), (7, .int x7)]) f_305_89 ?_
          refine w_a f_305_92 ?_
          refine w_a f_305_162 ?_
          refine w_a (ls := [(7, .int (x7 + Int32.ofInt 1)), (0, .ref 58), (2, .int x2), (3, .int x3), (4, .int x4), (5, .int x5), (6, .int x6)]) f_305_165 ?_
          exact w_n (ks := [0, 2, 3, 4, 5, 6, 7]) rfl h
        · refine w_a f_307_25 ?_
          refine w_a f_307_26 ?_
          refine w_a f_307_30 ?_
          refine w_a (ls := [(0, .ref 58), (2, .int x2), (3, .int x3), (4, .int x4), (5, .int x5), (6, .int x6), (7, .int x7)]) f_305_89 ?_
          refine w_a f_305_95 ?_
          refine w_c (ks := [0, 2, 3, 4, 5, 6, 7]) f_305_96 rfl rfl ?_
          refine w_a (ls := [(0, .ref 58)]) f_276_0 ?_
          refine w_a f_276_1 ?_
          refine w_a f_276_2 ?_
          refine w_a f_276_5 ?_
          refine w_a f_276_6 ?_
          refine w_a f_276_9 ?_
          refine w_a f_276_10 ?_
          refine w_a f_276_13 ?_
          exact w_c (ks := [0]) f_276_14 rfl rfl h
  · refine w_a f_305_168 ?_
    refine w_a f_305_170 ?_
    exact h
