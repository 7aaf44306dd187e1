/-! Pieces of methods, by program out of the tables: 305 to 330. -/
theorem f_305_99 : ftc (PT 305) 99 = some (99, .aload_n 0, 1, 0, 0, 0) := by decide +kernel
theorem f_305_100 : ftc (PT 305) 100 = some (100, .iconst 0, 1, 0, 0, 0) := by decide +kernel
theorem f_305_101 : ftc (PT 305) 101 = some (101, .aload_n 0, 1, 0, 0, 0) := by decide +kernel
theorem f_305_102 : ftc (PT 305) 102 = some (102, .getfield 16, 3, 12, 5, 1641) := by decide +kernel
theorem f_305_105 : ftc (PT 305) 105 = some (105, .iload 7, 2, 0, 0, 0) := by decide +kernel
theorem f_305_107 : ftc (PT 305) 107 = some (107, .iaload, 1, 0, 0, 0) := by decide +kernel
theorem f_305_108 : ftc (PT 305) 108 = some (108, .i2l, 1, 0, 0, 0) := by decide +kernel
theorem f_305_109 : ftc (PT 305) 109 = some (109, .aload_n 0, 1, 0, 0, 0) := by decide +kernel
theorem f_305_110 : ftc (PT 305) 110 = some (110, .getfield 19, 3, 12, 6, 1642) := by decide +kernel
theorem f_305_113 : ftc (PT 305) 113 = some (113, .iload 7, 2, 0, 0, 0) := by decide +kernel
theorem f_305_115 : ftc (PT 305) 115 = some (115, .iaload, 1, 0, 0, 0) := by decide +kernel
theorem f_305_116 : ftc (PT 305) 116 = some (116, .i2l, 1, 0, 0, 0) := by decide +kernel
theorem f_305_117 : ftc (PT 305) 117 = some (117, .invokevirtual 143, 3, 229, 18540, 1837) := by decide +kernel
theorem f_305_120 : ftc (PT 305) 120 = some (120, .aload_n 0, 1, 0, 0, 0) := by decide +kernel
theorem f_305_121 : ftc (PT 305) 121 = some (121, .iload_n 2, 1, 0, 0, 0) := by decide +kernel
theorem f_305_122 : ftc (PT 305) 122 = some (122, .invokevirtual 282, 3, 278, 2092, 2031) := by decide +kernel
theorem f_305_125 : ftc (PT 305) 125 = some (125, .lstore 8, 2, 0, 0, 0) := by decide +kernel
theorem f_305_127 : ftc (PT 305) 127 = some (127, .iload 6, 2, 0, 0, 0) := by decide +kernel
theorem f_305_129 : ftc (PT 305) 129 = some (129, .lload 8, 2, 0, 0, 0) := by decide +kernel
theorem f_305_131 : ftc (PT 305) 131 = some (131, .lconst 0, 1, 0, 0, 0) := by decide +kernel
theorem f_305_132 : ftc (PT 305) 132 = some (132, .lcmp, 1, 0, 0, 0) := by decide +kernel
theorem f_305_133 : ftc (PT 305) 133 = some (133, .ifCond .le 25, 3, 158, 0, 0) := by decide +kernel
theorem f_305_136 : ftc (PT 305) 136 = some (136, .aload_n 0, 1, 0, 0, 0) := by decide +kernel
theorem f_305_137 : ftc (PT 305) 137 = some (137, .invokevirtual 278, 3, 277, 1036, 2027) := by decide +kernel
theorem f_305_140 : ftc (PT 305) 140 = some (140, .iload 5, 2, 0, 0, 0) := by decide +kernel
theorem f_305_142 : ftc (PT 305) 142 = some (142, .i2l, 1, 0, 0, 0) := by decide +kernel
theorem f_305_143 : ftc (PT 305) 143 = some (143, .lmul, 1, 0, 0, 0) := by decide +kernel
theorem f_305_144 : ftc (PT 305) 144 = some (144, .lload 8, 2, 0, 0, 0) := by decide +kernel
theorem f_305_146 : ftc (PT 305) 146 = some (146, .iload 4, 2, 0, 0, 0) := by decide +kernel
theorem f_305_148 : ftc (PT 305) 148 = some (148, .i2l, 1, 0, 0, 0) := by decide +kernel
theorem f_305_149 : ftc (PT 305) 149 = some (149, .lmul, 1, 0, 0, 0) := by decide +kernel
theorem f_305_150 : ftc (PT 305) 150 = some (150, .lcmp, 1, 0, 0, 0) := by decide +kernel
theorem f_305_151 : ftc (PT 305) 151 = some (151, .ifCond .lt 7, 3, 158, 0, 0) := by decide +kernel
theorem f_305_154 : ftc (PT 305) 154 = some (154, .iconst 1, 1, 0, 0, 0) := by decide +kernel
theorem f_305_155 : ftc (PT 305) 155 = some (155, .goto 4, 3, 159, 0, 0) := by decide +kernel
theorem f_305_158 : ftc (PT 305) 158 = some (158, .iconst 0, 1, 0, 0, 0) := by decide +kernel
theorem f_305_159 : ftc (PT 305) 159 = some (159, .iadd, 1, 0, 0, 0) := by decide +kernel
theorem f_305_160 : ftc (PT 305) 160 = some (160, .istore 6, 2, 0, 0, 0) := by decide +kernel
theorem f_306_6 : ftc (PT 306) 6 = some (6, .ifCond .eq 7, 3, 13, 0, 0) := by decide +kernel
theorem f_306_9 : ftc (PT 306) 9 = some (9, .iconst 0, 1, 0, 0, 0) := by decide +kernel
theorem f_306_10 : ftc (PT 306) 10 = some (10, .goto 4, 3, 14, 0, 0) := by decide +kernel
theorem f_306_13 : ftc (PT 306) 13 = some (13, .iconst 3, 1, 0, 0, 0) := by decide +kernel
theorem f_306_14 : ftc (PT 306) 14 = some (14, .ireturn, 1, 0, 0, 0) := by decide +kernel
theorem f_308_47 : ftc (PT 308) 47 = some (47, .ifCond .eq 7, 3, 54, 0, 0) := by decide +kernel
theorem f_308_50 : ftc (PT 308) 50 = some (50, .iconst 0, 1, 0, 0, 0) := by decide +kernel
theorem f_308_51 : ftc (PT 308) 51 = some (51, .goto 4, 3, 55, 0, 0) := by decide +kernel
theorem f_308_54 : ftc (PT 308) 54 = some (54, .iconst 4, 1, 0, 0, 0) := by decide +kernel
theorem f_308_55 : ftc (PT 308) 55 = some (55, .putfield 55, 3, 12, 0, 1636) := by decide +kernel
theorem f_308_58 : ftc (PT 308) 58 = some (58, .aload_n 0, 1, 0, 0, 0) := by decide +kernel
theorem f_308_59 : ftc (PT 308) 59 = some (59, .getfield 55, 3, 12, 0, 1636) := by decide +kernel
theorem f_308_62 : ftc (PT 308) 62 = some (62, .ifCond .le 5, 3, 67, 0, 0) := by decide +kernel
theorem f_308_65 : ftc (PT 308) 65 = some (65, .lconst 0, 1, 0, 0, 0) := by decide +kernel
theorem f_308_66 : ftc (PT 308) 66 = some (66, .lreturn, 1, 0, 0, 0) := by decide +kernel
theorem f_308_67 : ftc (PT 308) 67 = some (67, .lconst 0, 1, 0, 0, 0) := by decide +kernel
theorem f_308_68 : ftc (PT 308) 68 = some (68, .lstore 6, 2, 0, 0, 0) := by decide +kernel
theorem f_308_70 : ftc (PT 308) 70 = some (70, .lconst 0, 1, 0, 0, 0) := by decide +kernel
theorem f_308_71 : ftc (PT 308) 71 = some (71, .lstore 8, 2, 0, 0, 0) := by decide +kernel
theorem f_308_73 : ftc (PT 308) 73 = some (73, .aload_n 0, 1, 0, 0, 0) := by decide +kernel
theorem f_308_74 : ftc (PT 308) 74 = some (74, .iconst (-1), 1, 0, 0, 0) := by decide +kernel
theorem f_308_75 : ftc (PT 308) 75 = some (75, .putfield 353, 3, 12, 24, 1660) := by decide +kernel
theorem f_308_78 : ftc (PT 308) 78 = some (78, .iconst 0, 1, 0, 0, 0) := by decide +kernel
theorem f_308_79 : ftc (PT 308) 79 = some (79, .istore 10, 2, 0, 0, 0) := by decide +kernel
theorem f_308_81 : ftc (PT 308) 81 = some (81, .iload 10, 2, 0, 0, 0) := by decide +kernel
theorem f_308_83 : ftc (PT 308) 83 = some (83, .aload_n 0, 1, 0, 0, 0) := by decide +kernel
theorem f_308_84 : ftc (PT 308) 84 = some (84, .getfield 74, 3, 12, 7, 1643) := by decide +kernel
theorem f_308_87 : ftc (PT 308) 87 = some (87, .if_icmp .ge 140, 3, 227, 0, 0) := by decide +kernel
theorem f_308_90 : ftc (PT 308) 90 = some (90, .aload_n 0, 1, 0, 0, 0) := by decide +kernel
theorem f_308_91 : ftc (PT 308) 91 = some (91, .iload 10, 2, 0, 0, 0) := by decide +kernel
theorem f_308_93 : ftc (PT 308) 93 = some (93, .iload_n 3, 1, 0, 0, 0) := by decide +kernel
theorem f_308_94 : ftc (PT 308) 94 = some (94, .invokevirtual 350, 3, 307, 3148, 2147) := by decide +kernel
theorem f_308_97 : ftc (PT 308) 97 = some (97, .ifCond .ne 6, 3, 103, 0, 0) := by decide +kernel
theorem f_308_100 : ftc (PT 308) 100 = some (100, .goto 121, 3, 221, 0, 0) := by decide +kernel
theorem f_308_103 : ftc (PT 308) 103 = some (103, .aload_n 0, 1, 0, 0, 0) := by decide +kernel
theorem f_308_104 : ftc (PT 308) 104 = some (104, .invokevirtual 275, 3, 276, 1036, 2023) := by decide +kernel
theorem f_308_107 : ftc (PT 308) 107 = some (107, .aload_n 0, 1, 0, 0, 0) := by decide +kernel
theorem f_308_108 : ftc (PT 308) 108 = some (108, .iconst 0, 1, 0, 0, 0) := by decide +kernel
theorem f_308_109 : ftc (PT 308) 109 = some (109, .aload_n 0, 1, 0, 0, 0) := by decide +kernel
theorem f_308_110 : ftc (PT 308) 110 = some (110, .getfield 16, 3, 12, 5, 1641) := by decide +kernel
theorem f_308_113 : ftc (PT 308) 113 = some (113, .iload 10, 2, 0, 0, 0) := by decide +kernel
theorem f_308_115 : ftc (PT 308) 115 = some (115, .iaload, 1, 0, 0, 0) := by decide +kernel
theorem f_308_116 : ftc (PT 308) 116 = some (116, .i2l, 1, 0, 0, 0) := by decide +kernel
theorem f_308_117 : ftc (PT 308) 117 = some (117, .aload_n 0, 1, 0, 0, 0) := by decide +kernel
theorem f_308_118 : ftc (PT 308) 118 = some (118, .getfield 19, 3, 12, 6, 1642) := by decide +kernel
theorem f_308_121 : ftc (PT 308) 121 = some (121, .iload 10, 2, 0, 0, 0) := by decide +kernel
theorem f_308_123 : ftc (PT 308) 123 = some (123, .iaload, 1, 0, 0, 0) := by decide +kernel
theorem f_308_124 : ftc (PT 308) 124 = some (124, .i2l, 1, 0, 0, 0) := by decide +kernel
theorem f_308_125 : ftc (PT 308) 125 = some (125, .invokevirtual 143, 3, 229, 18540, 1837) := by decide +kernel
theorem f_308_128 : ftc (PT 308) 128 = some (128, .aload_n 0, 1, 0, 0, 0) := by decide +kernel
theorem f_308_129 : ftc (PT 308) 129 = some (129, .aload_n 0, 1, 0, 0, 0) := by decide +kernel
theorem f_308_130 : ftc (PT 308) 130 = some (130, .invokevirtual 278, 3, 277, 1036, 2027) := by decide +kernel
theorem f_308_133 : ftc (PT 308) 133 = some (133, .aload_n 0, 1, 0, 0, 0) := by decide +kernel
theorem f_308_134 : ftc (PT 308) 134 = some (134, .iload_n 2, 1, 0, 0, 0) := by decide +kernel
theorem f_308_135 : ftc (PT 308) 135 = some (135, .invokevirtual 282, 3, 278, 2092, 2031) := by decide +kernel
theorem f_308_138 : ftc (PT 308) 138 = some (138, .invokevirtual 88, 3, 236, 8268, 1860) := by decide +kernel
theorem f_308_141 : ftc (PT 308) 141 = some (141, .aload_n 0, 1, 0, 0, 0) := by decide +kernel
theorem f_308_142 : ftc (PT 308) 142 = some (142, .getfield 85, 3, 12, 9, 1645) := by decide +kernel
theorem f_308_145 : ftc (PT 308) 145 = some (145, .lconst 0, 1, 0, 0, 0) := by decide +kernel
theorem f_308_146 : ftc (PT 308) 146 = some (146, .lcmp, 1, 0, 0, 0) := by decide +kernel
theorem f_308_147 : ftc (PT 308) 147 = some (147, .ifCond .ne 6, 3, 153, 0, 0) := by decide +kernel
theorem f_308_150 : ftc (PT 308) 150 = some (150, .goto 71, 3, 221, 0, 0) := by decide +kernel
theorem f_308_153 : ftc (PT 308) 153 = some (153, .aload_n 0, 1, 0, 0, 0) := by decide +kernel
theorem f_308_154 : ftc (PT 308) 154 = some (154, .getfield 81, 3, 12, 8, 1644) := by decide +kernel
theorem f_308_157 : ftc (PT 308) 157 = some (157, .lload 8, 2, 0, 0, 0) := by decide +kernel
theorem f_308_159 : ftc (PT 308) 159 = some (159, .lmul, 1, 0, 0, 0) := by decide +kernel
theorem f_308_160 : ftc (PT 308) 160 = some (160, .lload 6, 2, 0, 0, 0) := by decide +kernel
theorem f_308_162 : ftc (PT 308) 162 = some (162, .aload_n 0, 1, 0, 0, 0) := by decide +kernel
theorem f_308_163 : ftc (PT 308) 163 = some (163, .getfield 85, 3, 12, 9, 1645) := by decide +kernel
theorem f_308_166 : ftc (PT 308) 166 = some (166, .lmul, 1, 0, 0, 0) := by decide +kernel
theorem f_308_167 : ftc (PT 308) 167 = some (167, .lsub, 1, 0, 0, 0) := by decide +kernel
theorem f_308_168 : ftc (PT 308) 168 = some (168, .lstore 11, 2, 0, 0, 0) := by decide +kernel
theorem f_308_170 : ftc (PT 308) 170 = some (170, .aload_n 0, 1, 0, 0, 0) := by decide +kernel
theorem f_308_171 : ftc (PT 308) 171 = some (171, .getfield 353, 3, 12, 24, 1660) := by decide +kernel
theorem f_308_174 : ftc (PT 308) 174 = some (174, .iconst (-1), 1, 0, 0, 0) := by decide +kernel
theorem f_308_175 : ftc (PT 308) 175 = some (175, .if_icmp .eq 28, 3, 203, 0, 0) := by decide +kernel
theorem f_308_178 : ftc (PT 308) 178 = some (178, .iload 4, 2, 0, 0, 0) := by decide +kernel
theorem f_308_180 : ftc (PT 308) 180 = some (180, .ifCond .eq 13, 3, 193, 0, 0) := by decide +kernel
theorem f_308_183 : ftc (PT 308) 183 = some (183, .lload 11, 2, 0, 0, 0) := by decide +kernel
theorem f_308_185 : ftc (PT 308) 185 = some (185, .lconst 0, 1, 0, 0, 0) := by decide +kernel
theorem f_308_186 : ftc (PT 308) 186 = some (186, .lcmp, 1, 0, 0, 0) := by decide +kernel
theorem f_308_187 : ftc (PT 308) 187 = some (187, .ifCond .lt 16, 3, 203, 0, 0) := by decide +kernel
theorem f_308_190 : ftc (PT 308) 190 = some (190, .goto 31, 3, 221, 0, 0) := by decide +kernel
theorem f_308_193 : ftc (PT 308) 193 = some (193, .lload 11, 2, 0, 0, 0) := by decide +kernel
theorem f_308_195 : ftc (PT 308) 195 = some (195, .lconst 0, 1, 0, 0, 0) := by decide +kernel
theorem f_308_196 : ftc (PT 308) 196 = some (196, .lcmp, 1, 0, 0, 0) := by decide +kernel
theorem f_308_197 : ftc (PT 308) 197 = some (197, .ifCond .gt 6, 3, 203, 0, 0) := by decide +kernel
theorem f_308_200 : ftc (PT 308) 200 = some (200, .goto 21, 3, 221, 0, 0) := by decide +kernel
theorem f_308_203 : ftc (PT 308) 203 = some (203, .aload_n 0, 1, 0, 0, 0) := by decide +kernel
theorem f_308_204 : ftc (PT 308) 204 = some (204, .iload 10, 2, 0, 0, 0) := by decide +kernel
theorem f_308_206 : ftc (PT 308) 206 = some (206, .putfield 353, 3, 12, 24, 1660) := by decide +kernel
theorem f_308_209 : ftc (PT 308) 209 = some (209, .aload_n 0, 1, 0, 0, 0) := by decide +kernel
theorem f_308_210 : ftc (PT 308) 210 = some (210, .getfield 81, 3, 12, 8, 1644) := by decide +kernel
theorem f_308_213 : ftc (PT 308) 213 = some (213, .lstore 6, 2, 0, 0, 0) := by decide +kernel
theorem f_308_215 : ftc (PT 308) 215 = some (215, .aload_n 0, 1, 0, 0, 0) := by decide +kernel
theorem f_308_216 : ftc (PT 308) 216 = some (216, .getfield 85, 3, 12, 9, 1645) := by decide +kernel
theorem f_308_219 : ftc (PT 308) 219 = some (219, .lstore 8, 2, 0, 0, 0) := by decide +kernel
theorem f_308_221 : ftc (PT 308) 221 = some (221, .iinc 10 1, 3, 0, 0, 0) := by decide +kernel
theorem f_308_224 : ftc (PT 308) 224 = some (224, .goto (-143), 3, 81, 0, 0) := by decide +kernel
theorem f_308_227 : ftc (PT 308) 227 = some (227, .iload 5, 2, 0, 0, 0) := by decide +kernel
theorem f_308_229 : ftc (PT 308) 229 = some (229, .ifCond .ne 8, 3, 237, 0, 0) := by decide +kernel
theorem f_308_232 : ftc (PT 308) 232 = some (232, .lload 6, 2, 0, 0, 0) := by decide +kernel
theorem f_308_234 : ftc (PT 308) 234 = some (234, .goto 43, 3, 277, 0, 0) := by decide +kernel
theorem f_308_237 : ftc (PT 308) 237 = some (237, .iload 5, 2, 0, 0, 0) := by decide +kernel
theorem f_308_239 : ftc (PT 308) 239 = some (239, .iconst 1, 1, 0, 0, 0) := by decide +kernel
theorem f_308_240 : ftc (PT 308) 240 = some (240, .if_icmp .ne 8, 3, 248, 0, 0) := by decide +kernel
theorem f_308_243 : ftc (PT 308) 243 = some (243, .lload 8, 2, 0, 0, 0) := by decide +kernel
theorem f_308_245 : ftc (PT 308) 245 = some (245, .goto 32, 3, 277, 0, 0) := by decide +kernel
theorem f_308_248 : ftc (PT 308) 248 = some (248, .iload 5, 2, 0, 0, 0) := by decide +kernel
theorem f_308_250 : ftc (PT 308) 250 = some (250, .iconst 2, 1, 0, 0, 0) := by decide +kernel
theorem f_308_251 : ftc (PT 308) 251 = some (251, .if_icmp .ne 16, 3, 267, 0, 0) := by decide +kernel
theorem f_308_254 : ftc (PT 308) 254 = some (254, .aload_n 0, 1, 0, 0, 0) := by decide +kernel
theorem f_308_255 : ftc (PT 308) 255 = some (255, .getfield 16, 3, 12, 5, 1641) := by decide +kernel
theorem f_308_258 : ftc (PT 308) 258 = some (258, .aload_n 0, 1, 0, 0, 0) := by decide +kernel
theorem f_308_259 : ftc (PT 308) 259 = some (259, .getfield 353, 3, 12, 24, 1660) := by decide +kernel
theorem f_308_262 : ftc (PT 308) 262 = some (262, .iaload, 1, 0, 0, 0) := by decide +kernel
theorem f_308_263 : ftc (PT 308) 263 = some (263, .i2l, 1, 0, 0, 0) := by decide +kernel
theorem f_308_264 : ftc (PT 308) 264 = some (264, .goto 13, 3, 277, 0, 0) := by decide +kernel
theorem f_308_267 : ftc (PT 308) 267 = some (267, .aload_n 0, 1, 0, 0, 0) := by decide +kernel
theorem f_308_268 : ftc (PT 308) 268 = some (268, .getfield 19, 3, 12, 6, 1642) := by decide +kernel
theorem f_308_271 : ftc (PT 308) 271 = some (271, .aload_n 0, 1, 0, 0, 0) := by decide +kernel
theorem f_308_272 : ftc (PT 308) 272 = some (272, .getfield 353, 3, 12, 24, 1660) := by decide +kernel
theorem f_308_275 : ftc (PT 308) 275 = some (275, .iaload, 1, 0, 0, 0) := by decide +kernel
theorem f_308_276 : ftc (PT 308) 276 = some (276, .i2l, 1, 0, 0, 0) := by decide +kernel
theorem f_308_277 : ftc (PT 308) 277 = some (277, .lreturn, 1, 0, 0, 0) := by decide +kernel
theorem f_309_58 : ftc (PT 309) 58 = some (58, .iload_n 2, 1, 0, 0, 0) := by decide +kernel
theorem f_309_59 : ftc (PT 309) 59 = some (59, .iconst 5, 1, 0, 0, 0) := by decide +kernel
theorem f_309_60 : ftc (PT 309) 60 = some (60, .if_icmp .ne 10, 3, 70, 0, 0) := by decide +kernel
theorem f_309_63 : ftc (PT 309) 63 = some (63, .aload_n 0, 1, 0, 0, 0) := by decide +kernel
theorem f_309_64 : ftc (PT 309) 64 = some (64, .invokevirtual 425, 3, 319, 1036, 2193) := by decide +kernel
theorem f_309_67 : ftc (PT 309) 67 = some (67, .goto 20, 3, 87, 0, 0) := by decide +kernel
theorem f_309_70 : ftc (PT 309) 70 = some (70, .aload_n 0, 1, 0, 0, 0) := by decide +kernel
theorem f_309_71 : ftc (PT 309) 71 = some (71, .aload_n 0, 1, 0, 0, 0) := by decide +kernel
theorem f_309_72 : ftc (PT 309) 72 = some (72, .getfield 369, 3, 12, 27, 1663) := by decide +kernel
theorem f_309_75 : ftc (PT 309) 75 = some (75, .aload_n 0, 1, 0, 0, 0) := by decide +kernel
theorem f_309_76 : ftc (PT 309) 76 = some (76, .getfield 372, 3, 12, 28, 1664) := by decide +kernel
theorem f_309_79 : ftc (PT 309) 79 = some (79, .aload_n 0, 1, 0, 0, 0) := by decide +kernel
theorem f_309_80 : ftc (PT 309) 80 = some (80, .getfield 375, 3, 12, 29, 1665) := by decide +kernel
theorem f_309_83 : ftc (PT 309) 83 = some (83, .iload_n 2, 1, 0, 0, 0) := by decide +kernel
theorem f_309_84 : ftc (PT 309) 84 = some (84, .invokevirtual 428, 3, 321, 5260, 2201) := by decide +kernel
theorem f_309_87 : ftc (PT 309) 87 = some (87, .ireturn, 1, 0, 0, 0) := by decide +kernel
theorem f_310_0 : ftc (PT 310) 0 = some (0, .aload_n 0, 1, 0, 0, 0) := by decide +kernel
theorem f_310_1 : ftc (PT 310) 1 = some (1, .invokevirtual 384, 3, 311, 1036, 2163) := by decide +kernel
theorem f_310_4 : ftc (PT 310) 4 = some (4, .aload_n 0, 1, 0, 0, 0) := by decide +kernel
theorem f_310_5 : ftc (PT 310) 5 = some (5, .iconst 0, 1, 0, 0, 0) := by decide +kernel
theorem f_310_6 : ftc (PT 310) 6 = some (6, .putfield 387, 3, 12, 32, 1668) := by decide +kernel
theorem f_310_9 : ftc (PT 310) 9 = some (9, .aload_n 0, 1, 0, 0, 0) := by decide +kernel
theorem f_310_10 : ftc (PT 310) 10 = some (10, .aload_n 0, 1, 0, 0, 0) := by decide +kernel
theorem f_310_11 : ftc (PT 310) 11 = some (11, .invokevirtual 92, 3, 215, 1036, 1781) := by decide +kernel
theorem f_310_14 : ftc (PT 310) 14 = some (14, .invokevirtual 153, 3, 227, 3116, 1829) := by decide +kernel
theorem f_310_17 : ftc (PT 310) 17 = some (17, .aload_n 0, 1, 0, 0, 0) := by decide +kernel
theorem f_310_18 : ftc (PT 310) 18 = some (18, .iconst 0, 1, 0, 0, 0) := by decide +kernel
theorem f_310_19 : ftc (PT 310) 19 = some (19, .invokevirtual 390, 3, 312, 2092, 2167) := by decide +kernel
theorem f_310_22 : ftc (PT 310) 22 = some (22, .iconst 0, 1, 0, 0, 0) := by decide +kernel
theorem f_310_23 : ftc (PT 310) 23 = some (23, .istore_n 3, 1, 0, 0, 0) := by decide +kernel
theorem f_310_24 : ftc (PT 310) 24 = some (24, .iload_n 3, 1, 0, 0, 0) := by decide +kernel
theorem f_310_25 : ftc (PT 310) 25 = some (25, .aload_n 0, 1, 0, 0, 0) := by decide +kernel
theorem f_310_26 : ftc (PT 310) 26 = some (26, .getfield 74, 3, 12, 7, 1643) := by decide +kernel
theorem f_310_29 : ftc (PT 310) 29 = some (29, .if_icmp .ge 167, 3, 196, 0, 0) := by decide +kernel
theorem f_310_32 : ftc (PT 310) 32 = some (32, .aload_n 0, 1, 0, 0, 0) := by decide +kernel
theorem f_310_33 : ftc (PT 310) 33 = some (33, .iload_n 3, 1, 0, 0, 0) := by decide +kernel
theorem f_310_34 : ftc (PT 310) 34 = some (34, .iload_n 1, 1, 0, 0, 0) := by decide +kernel
theorem f_310_35 : ftc (PT 310) 35 = some (35, .invokevirtual 350, 3, 307, 3148, 2147) := by decide +kernel
theorem f_310_38 : ftc (PT 310) 38 = some (38, .ifCond .ne 6, 3, 44, 0, 0) := by decide +kernel
theorem f_310_41 : ftc (PT 310) 41 = some (41, .goto 149, 3, 190, 0, 0) := by decide +kernel
theorem f_310_44 : ftc (PT 310) 44 = some (44, .aload_n 0, 1, 0, 0, 0) := by decide +kernel
theorem f_310_45 : ftc (PT 310) 45 = some (45, .iconst 0, 1, 0, 0, 0) := by decide +kernel
theorem f_310_46 : ftc (PT 310) 46 = some (46, .invokevirtual 393, 3, 313, 2092, 2171) := by decide +kernel
theorem f_310_49 : ftc (PT 310) 49 = some (49, .aload_n 0, 1, 0, 0, 0) := by decide +kernel
theorem f_310_50 : ftc (PT 310) 50 = some (50, .iconst 0, 1, 0, 0, 0) := by decide +kernel
theorem f_310_51 : ftc (PT 310) 51 = some (51, .aload_n 0, 1, 0, 0, 0) := by decide +kernel
theorem f_310_52 : ftc (PT 310) 52 = some (52, .getfield 16, 3, 12, 5, 1641) := by decide +kernel
theorem f_310_55 : ftc (PT 310) 55 = some (55, .iload_n 3, 1, 0, 0, 0) := by decide +kernel
theorem f_310_56 : ftc (PT 310) 56 = some (56, .iaload, 1, 0, 0, 0) := by decide +kernel
theorem f_310_57 : ftc (PT 310) 57 = some (57, .i2l, 1, 0, 0, 0) := by decide +kernel
theorem f_310_58 : ftc (PT 310) 58 = some (58, .aload_n 0, 1, 0, 0, 0) := by decide +kernel
theorem f_310_59 : ftc (PT 310) 59 = some (59, .getfield 19, 3, 12, 6, 1642) := by decide +kernel
theorem f_310_62 : ftc (PT 310) 62 = some (62, .iload_n 3, 1, 0, 0, 0) := by decide +kernel
theorem f_310_63 : ftc (PT 310) 63 = some (63, .iaload, 1, 0, 0, 0) := by decide +kernel
theorem f_310_64 : ftc (PT 310) 64 = some (64, .i2l, 1, 0, 0, 0) := by decide +kernel
theorem f_310_65 : ftc (PT 310) 65 = some (65, .invokevirtual 143, 3, 229, 18540, 1837) := by decide +kernel
theorem f_310_68 : ftc (PT 310) 68 = some (68, .aload_n 0, 1, 0, 0, 0) := by decide +kernel
theorem f_310_69 : ftc (PT 310) 69 = some (69, .iconst 4, 1, 0, 0, 0) := by decide +kernel
theorem f_310_70 : ftc (PT 310) 70 = some (70, .invokevirtual 390, 3, 312, 2092, 2167) := by decide +kernel
theorem f_310_73 : ftc (PT 310) 73 = some (73, .iconst 0, 1, 0, 0, 0) := by decide +kernel
theorem f_310_74 : ftc (PT 310) 74 = some (74, .istore 4, 2, 0, 0, 0) := by decide +kernel
theorem f_310_76 : ftc (PT 310) 76 = some (76, .iload 4, 2, 0, 0, 0) := by decide +kernel
theorem f_310_78 : ftc (PT 310) 78 = some (78, .iconst 2, 1, 0, 0, 0) := by decide +kernel
theorem f_310_79 : ftc (PT 310) 79 = some (79, .aload_n 0, 1, 0, 0, 0) := by decide +kernel
theorem f_310_80 : ftc (PT 310) 80 = some (80, .getfield 74, 3, 12, 7, 1643) := by decide +kernel
theorem f_310_83 : ftc (PT 310) 83 = some (83, .imul, 1, 0, 0, 0) := by decide +kernel
theorem f_310_84 : ftc (PT 310) 84 = some (84, .if_icmp .ge 106, 3, 190, 0, 0) := by decide +kernel
theorem f_310_87 : ftc (PT 310) 87 = some (87, .aload_n 0, 1, 0, 0, 0) := by decide +kernel
theorem f_310_88 : ftc (PT 310) 88 = some (88, .iload 4, 2, 0, 0, 0) := by decide +kernel
theorem f_310_90 : ftc (PT 310) 90 = some (90, .iconst 2, 1, 0, 0, 0) := by decide +kernel
theorem f_310_91 : ftc (PT 310) 91 = some (91, .idiv, 1, 0, 0, 0) := by decide +kernel
theorem f_310_92 : ftc (PT 310) 92 = some (92, .iload_n 1, 1, 0, 0, 0) := by decide +kernel
theorem f_310_93 : ftc (PT 310) 93 = some (93, .invokevirtual 350, 3, 307, 3148, 2147) := by decide +kernel
theorem f_310_96 : ftc (PT 310) 96 = some (96, .ifCond .ne 6, 3, 102, 0, 0) := by decide +kernel
theorem f_310_99 : ftc (PT 310) 99 = some (99, .goto 85, 3, 184, 0, 0) := by decide +kernel
theorem f_310_102 : ftc (PT 310) 102 = some (102, .aload_n 0, 1, 0, 0, 0) := by decide +kernel
theorem f_310_103 : ftc (PT 310) 103 = some (103, .iconst 4, 1, 0, 0, 0) := by decide +kernel
theorem f_310_104 : ftc (PT 310) 104 = some (104, .invokevirtual 393, 3, 313, 2092, 2171) := by decide +kernel
theorem f_310_107 : ftc (PT 310) 107 = some (107, .aload_n 0, 1, 0, 0, 0) := by decide +kernel
theorem f_310_108 : ftc (PT 310) 108 = some (108, .iconst 1, 1, 0, 0, 0) := by decide +kernel
theorem f_310_109 : ftc (PT 310) 109 = some (109, .iload 4, 2, 0, 0, 0) := by decide +kernel
theorem f_310_111 : ftc (PT 310) 111 = some (111, .iconst 2, 1, 0, 0, 0) := by decide +kernel
theorem f_310_112 : ftc (PT 310) 112 = some (112, .irem, 1, 0, 0, 0) := by decide +kernel
theorem f_310_113 : ftc (PT 310) 113 = some (113, .isub, 1, 0, 0, 0) := by decide +kernel
theorem f_310_114 : ftc (PT 310) 114 = some (114, .invokestatic 396, 3, 314, 1025, 2175) := by decide +kernel
theorem f_310_117 : ftc (PT 310) 117 = some (117, .aload_n 0, 1, 0, 0, 0) := by decide +kernel
theorem f_310_118 : ftc (PT 310) 118 = some (118, .getfield 16, 3, 12, 5, 1641) := by decide +kernel
theorem f_310_121 : ftc (PT 310) 121 = some (121, .iload 4, 2, 0, 0, 0) := by decide +kernel
theorem f_310_123 : ftc (PT 310) 123 = some (123, .iconst 2, 1, 0, 0, 0) := by decide +kernel
theorem f_310_124 : ftc (PT 310) 124 = some (124, .idiv, 1, 0, 0, 0) := by decide +kernel
theorem f_310_125 : ftc (PT 310) 125 = some (125, .iaload, 1, 0, 0, 0) := by decide +kernel
theorem f_310_126 : ftc (PT 310) 126 = some (126, .i2l, 1, 0, 0, 0) := by decide +kernel
theorem f_310_127 : ftc (PT 310) 127 = some (127, .aload_n 0, 1, 0, 0, 0) := by decide +kernel
theorem f_310_128 : ftc (PT 310) 128 = some (128, .getfield 19, 3, 12, 6, 1642) := by decide +kernel
theorem f_310_131 : ftc (PT 310) 131 = some (131, .iload 4, 2, 0, 0, 0) := by decide +kernel
theorem f_310_133 : ftc (PT 310) 133 = some (133, .iconst 2, 1, 0, 0, 0) := by decide +kernel
theorem f_310_134 : ftc (PT 310) 134 = some (134, .idiv, 1, 0, 0, 0) := by decide +kernel
theorem f_310_135 : ftc (PT 310) 135 = some (135, .iaload, 1, 0, 0, 0) := by decide +kernel
theorem f_310_136 : ftc (PT 310) 136 = some (136, .i2l, 1, 0, 0, 0) := by decide +kernel
theorem f_310_137 : ftc (PT 310) 137 = some (137, .invokevirtual 143, 3, 229, 18540, 1837) := by decide +kernel
theorem f_310_140 : ftc (PT 310) 140 = some (140, .iload_n 2, 1, 0, 0, 0) := by decide +kernel
theorem f_310_141 : ftc (PT 310) 141 = some (141, .ifCond .ne 21, 3, 162, 0, 0) := by decide +kernel
theorem f_310_144 : ftc (PT 310) 144 = some (144, .aload_n 0, 1, 0, 0, 0) := by decide +kernel
theorem f_310_145 : ftc (PT 310) 145 = some (145, .iload_n 3, 1, 0, 0, 0) := by decide +kernel
theorem f_310_146 : ftc (PT 310) 146 = some (146, .iload 4, 2, 0, 0, 0) := by decide +kernel
theorem f_310_148 : ftc (PT 310) 148 = some (148, .iconst 2, 1, 0, 0, 0) := by decide +kernel
theorem f_310_149 : ftc (PT 310) 149 = some (149, .idiv, 1, 0, 0, 0) := by decide +kernel
theorem f_310_150 : ftc (PT 310) 150 = some (150, .iconst 1, 1, 0, 0, 0) := by decide +kernel
theorem f_310_151 : ftc (PT 310) 151 = some (151, .iload 4, 2, 0, 0, 0) := by decide +kernel
theorem f_310_153 : ftc (PT 310) 153 = some (153, .iconst 2, 1, 0, 0, 0) := by decide +kernel
theorem f_310_154 : ftc (PT 310) 154 = some (154, .irem, 1, 0, 0, 0) := by decide +kernel
theorem f_310_155 : ftc (PT 310) 155 = some (155, .isub, 1, 0, 0, 0) := by decide +kernel
theorem f_310_156 : ftc (PT 310) 156 = some (156, .invokevirtual 399, 3, 315, 4204, 2178) := by decide +kernel
theorem f_310_159 : ftc (PT 310) 159 = some (159, .goto 25, 3, 184, 0, 0) := by decide +kernel
theorem f_310_162 : ftc (PT 310) 162 = some (162, .aload_n 0, 1, 0, 0, 0) := by decide +kernel
theorem f_310_163 : ftc (PT 310) 163 = some (163, .invokevirtual 403, 3, 317, 1036, 2185) := by decide +kernel
theorem f_310_166 : ftc (PT 310) 166 = some (166, .ifCond .eq 18, 3, 184, 0, 0) := by decide +kernel
theorem f_310_169 : ftc (PT 310) 169 = some (169, .aload_n 0, 1, 0, 0, 0) := by decide +kernel
theorem f_310_170 : ftc (PT 310) 170 = some (170, .iload_n 3, 1, 0, 0, 0) := by decide +kernel
theorem f_310_171 : ftc (PT 310) 171 = some (171, .iload 4, 2, 0, 0, 0) := by decide +kernel
theorem f_310_173 : ftc (PT 310) 173 = some (173, .iconst 2, 1, 0, 0, 0) := by decide +kernel
theorem f_310_174 : ftc (PT 310) 174 = some (174, .idiv, 1, 0, 0, 0) := by decide +kernel
theorem f_310_175 : ftc (PT 310) 175 = some (175, .iconst 1, 1, 0, 0, 0) := by decide +kernel
theorem f_310_176 : ftc (PT 310) 176 = some (176, .iload 4, 2, 0, 0, 0) := by decide +kernel
theorem f_310_178 : ftc (PT 310) 178 = some (178, .iconst 2, 1, 0, 0, 0) := by decide +kernel
theorem f_310_179 : ftc (PT 310) 179 = some (179, .irem, 1, 0, 0, 0) := by decide +kernel
theorem f_310_180 : ftc (PT 310) 180 = some (180, .isub, 1, 0, 0, 0) := by decide +kernel
theorem f_310_181 : ftc (PT 310) 181 = some (181, .invokevirtual 406, 3, 318, 4204, 2189) := by decide +kernel
theorem f_310_184 : ftc (PT 310) 184 = some (184, .iinc 4 1, 3, 0, 0, 0) := by decide +kernel
theorem f_310_187 : ftc (PT 310) 187 = some (187, .goto (-111), 3, 76, 0, 0) := by decide +kernel
theorem f_310_190 : ftc (PT 310) 190 = some (190, .iinc 3 1, 3, 0, 0, 0) := by decide +kernel
theorem f_310_193 : ftc (PT 310) 193 = some (193, .goto (-169), 3, 24, 0, 0) := by decide +kernel
theorem f_310_196 : ftc (PT 310) 196 = some (196, .return_, 1, 0, 0, 0) := by decide +kernel
theorem f_311_0 : ftc (PT 311) 0 = some (0, .aload_n 0, 1, 0, 0, 0) := by decide +kernel
theorem f_311_1 : ftc (PT 311) 1 = some (1, .iconst 0, 1, 0, 0, 0) := by decide +kernel
theorem f_311_2 : ftc (PT 311) 2 = some (2, .putfield 356, 3, 12, 30, 1666) := by decide +kernel
theorem f_311_5 : ftc (PT 311) 5 = some (5, .return_, 1, 0, 0, 0) := by decide +kernel
theorem f_312_0 : ftc (PT 312) 0 = some (0, .aload_n 0, 1, 0, 0, 0) := by decide +kernel
theorem f_312_1 : ftc (PT 312) 1 = some (1, .getfield 22, 3, 12, 31, 1667) := by decide +kernel
theorem f_312_4 : ftc (PT 312) 4 = some (4, .iload_n 1, 1, 0, 0, 0) := by decide +kernel
theorem f_312_5 : ftc (PT 312) 5 = some (5, .aload_n 0, 1, 0, 0, 0) := by decide +kernel
theorem f_312_6 : ftc (PT 312) 6 = some (6, .getfield 114, 3, 12, 10, 1646) := by decide +kernel
theorem f_312_9 : ftc (PT 312) 9 = some (9, .lastore, 1, 0, 0, 0) := by decide +kernel
theorem f_312_10 : ftc (PT 312) 10 = some (10, .aload_n 0, 1, 0, 0, 0) := by decide +kernel
theorem f_312_11 : ftc (PT 312) 11 = some (11, .getfield 22, 3, 12, 31, 1667) := by decide +kernel
theorem f_312_14 : ftc (PT 312) 14 = some (14, .iload_n 1, 1, 0, 0, 0) := by decide +kernel
theorem f_312_15 : ftc (PT 312) 15 = some (15, .iconst 1, 1, 0, 0, 0) := by decide +kernel
theorem f_312_16 : ftc (PT 312) 16 = some (16, .iadd, 1, 0, 0, 0) := by decide +kernel
theorem f_312_17 : ftc (PT 312) 17 = some (17, .aload_n 0, 1, 0, 0, 0) := by decide +kernel
theorem f_312_18 : ftc (PT 312) 18 = some (18, .getfield 117, 3, 12, 11, 1647) := by decide +kernel
theorem f_312_21 : ftc (PT 312) 21 = some (21, .lastore, 1, 0, 0, 0) := by decide +kernel
theorem f_312_22 : ftc (PT 312) 22 = some (22, .aload_n 0, 1, 0, 0, 0) := by decide +kernel
theorem f_312_23 : ftc (PT 312) 23 = some (23, .getfield 22, 3, 12, 31, 1667) := by decide +kernel
theorem f_312_26 : ftc (PT 312) 26 = some (26, .iload_n 1, 1, 0, 0, 0) := by decide +kernel
theorem f_312_27 : ftc (PT 312) 27 = some (27, .iconst 2, 1, 0, 0, 0) := by decide +kernel
theorem f_312_28 : ftc (PT 312) 28 = some (28, .iadd, 1, 0, 0, 0) := by decide +kernel
theorem f_312_29 : ftc (PT 312) 29 = some (29, .aload_n 0, 1, 0, 0, 0) := by decide +kernel
theorem f_312_30 : ftc (PT 312) 30 = some (30, .getfield 120, 3, 12, 12, 1648) := by decide +kernel
theorem f_312_33 : ftc (PT 312) 33 = some (33, .lastore, 1, 0, 0, 0) := by decide +kernel
theorem f_312_34 : ftc (PT 312) 34 = some (34, .aload_n 0, 1, 0, 0, 0) := by decide +kernel
theorem f_312_35 : ftc (PT 312) 35 = some (35, .getfield 22, 3, 12, 31, 1667) := by decide +kernel
theorem f_312_38 : ftc (PT 312) 38 = some (38, .iload_n 1, 1, 0, 0, 0) := by decide +kernel
theorem f_312_39 : ftc (PT 312) 39 = some (39, .iconst 3, 1, 0, 0, 0) := by decide +kernel
theorem f_312_40 : ftc (PT 312) 40 = some (40, .iadd, 1, 0, 0, 0) := by decide +kernel
theorem f_312_41 : ftc (PT 312) 41 = some (41, .aload_n 0, 1, 0, 0, 0) := by decide +kernel
theorem f_312_42 : ftc (PT 312) 42 = some (42, .getfield 123, 3, 12, 13, 1649) := by decide +kernel
theorem f_312_45 : ftc (PT 312) 45 = some (45, .lastore, 1, 0, 0, 0) := by decide +kernel
theorem f_312_46 : ftc (PT 312) 46 = some (46, .return_, 1, 0, 0, 0) := by decide +kernel
theorem f_313_0 : ftc (PT 313) 0 = some (0, .aload_n 0, 1, 0, 0, 0) := by decide +kernel
theorem f_313_1 : ftc (PT 313) 1 = some (1, .aload_n 0, 1, 0, 0, 0) := by decide +kernel
theorem f_313_2 : ftc (PT 313) 2 = some (2, .getfield 22, 3, 12, 31, 1667) := by decide +kernel
theorem f_313_5 : ftc (PT 313) 5 = some (5, .iload_n 1, 1, 0, 0, 0) := by decide +kernel
theorem f_313_6 : ftc (PT 313) 6 = some (6, .laload, 1, 0, 0, 0) := by decide +kernel
theorem f_313_7 : ftc (PT 313) 7 = some (7, .aload_n 0, 1, 0, 0, 0) := by decide +kernel
theorem f_313_8 : ftc (PT 313) 8 = some (8, .getfield 22, 3, 12, 31, 1667) := by decide +kernel
theorem f_313_11 : ftc (PT 313) 11 = some (11, .iload_n 1, 1, 0, 0, 0) := by decide +kernel
theorem f_313_12 : ftc (PT 313) 12 = some (12, .iconst 1, 1, 0, 0, 0) := by decide +kernel
theorem f_313_13 : ftc (PT 313) 13 = some (13, .iadd, 1, 0, 0, 0) := by decide +kernel
theorem f_313_14 : ftc (PT 313) 14 = some (14, .laload, 1, 0, 0, 0) := by decide +kernel
theorem f_313_15 : ftc (PT 313) 15 = some (15, .aload_n 0, 1, 0, 0, 0) := by decide +kernel
theorem f_313_16 : ftc (PT 313) 16 = some (16, .getfield 22, 3, 12, 31, 1667) := by decide +kernel
theorem f_313_19 : ftc (PT 313) 19 = some (19, .iload_n 1, 1, 0, 0, 0) := by decide +kernel
theorem f_313_20 : ftc (PT 313) 20 = some (20, .iconst 2, 1, 0, 0, 0) := by decide +kernel
theorem f_313_21 : ftc (PT 313) 21 = some (21, .iadd, 1, 0, 0, 0) := by decide +kernel
theorem f_313_22 : ftc (PT 313) 22 = some (22, .laload, 1, 0, 0, 0) := by decide +kernel
theorem f_313_23 : ftc (PT 313) 23 = some (23, .aload_n 0, 1, 0, 0, 0) := by decide +kernel
theorem f_313_24 : ftc (PT 313) 24 = some (24, .getfield 22, 3, 12, 31, 1667) := by decide +kernel
theorem f_313_27 : ftc (PT 313) 27 = some (27, .iload_n 1, 1, 0, 0, 0) := by decide +kernel
theorem f_313_28 : ftc (PT 313) 28 = some (28, .iconst 3, 1, 0, 0, 0) := by decide +kernel
theorem f_313_29 : ftc (PT 313) 29 = some (29, .iadd, 1, 0, 0, 0) := by decide +kernel
theorem f_313_30 : ftc (PT 313) 30 = some (30, .laload, 1, 0, 0, 0) := by decide +kernel
theorem f_313_31 : ftc (PT 313) 31 = some (31, .invokevirtual 129, 3, 228, 11404, 1833) := by decide +kernel
theorem f_313_34 : ftc (PT 313) 34 = some (34, .return_, 1, 0, 0, 0) := by decide +kernel
theorem f_314_0 : ftc (PT 314) 0 = some (0, .iload_n 0, 1, 0, 0, 0) := by decide +kernel
theorem f_314_1 : ftc (PT 314) 1 = some (1, .iconst 1, 1, 0, 0, 0) := by decide +kernel
theorem f_314_2 : ftc (PT 314) 2 = some (2, .if_icmp .ne 7, 3, 9, 0, 0) := by decide +kernel
theorem f_314_5 : ftc (PT 314) 5 = some (5, .iconst 1, 1, 0, 0, 0) := by decide +kernel
theorem f_314_6 : ftc (PT 314) 6 = some (6, .goto 4, 3, 10, 0, 0) := by decide +kernel
theorem f_314_9 : ftc (PT 314) 9 = some (9, .iconst 2, 1, 0, 0, 0) := by decide +kernel
theorem f_314_10 : ftc (PT 314) 10 = some (10, .ireturn, 1, 0, 0, 0) := by decide +kernel
theorem f_315_0 : ftc (PT 315) 0 = some (0, .aload_n 0, 1, 0, 0, 0) := by decide +kernel
theorem f_315_1 : ftc (PT 315) 1 = some (1, .invokevirtual 165, 3, 240, 1036, 1876) := by decide +kernel
theorem f_315_4 : ftc (PT 315) 4 = some (4, .aload_n 0, 1, 0, 0, 0) := by decide +kernel
theorem f_315_5 : ftc (PT 315) 5 = some (5, .getfield 356, 3, 12, 30, 1666) := by decide +kernel
theorem f_315_8 : ftc (PT 315) 8 = some (8, .ifCond .eq 26, 3, 34, 0, 0) := by decide +kernel
theorem f_315_11 : ftc (PT 315) 11 = some (11, .aload_n 0, 1, 0, 0, 0) := by decide +kernel
theorem f_315_12 : ftc (PT 315) 12 = some (12, .getfield 81, 3, 12, 8, 1644) := by decide +kernel
theorem f_315_15 : ftc (PT 315) 15 = some (15, .aload_n 0, 1, 0, 0, 0) := by decide +kernel
theorem f_315_16 : ftc (PT 315) 16 = some (16, .getfield 85, 3, 12, 9, 1645) := by decide +kernel
theorem f_315_19 : ftc (PT 315) 19 = some (19, .aload_n 0, 1, 0, 0, 0) := by decide +kernel
theorem f_315_20 : ftc (PT 315) 20 = some (20, .getfield 360, 3, 12, 25, 1661) := by decide +kernel
theorem f_315_23 : ftc (PT 315) 23 = some (23, .aload_n 0, 1, 0, 0, 0) := by decide +kernel
theorem f_315_24 : ftc (PT 315) 24 = some (24, .getfield 363, 3, 12, 26, 1662) := by decide +kernel
theorem f_315_27 : ftc (PT 315) 27 = some (27, .invokestatic 366, 3, 316, 21508, 2182) := by decide +kernel
theorem f_315_30 : ftc (PT 315) 30 = some (30, .ifCond .lt 4, 3, 34, 0, 0) := by decide +kernel
theorem f_315_33 : ftc (PT 315) 33 = some (33, .return_, 1, 0, 0, 0) := by decide +kernel
theorem f_315_34 : ftc (PT 315) 34 = some (34, .aload_n 0, 1, 0, 0, 0) := by decide +kernel
theorem f_315_35 : ftc (PT 315) 35 = some (35, .iconst 1, 1, 0, 0, 0) := by decide +kernel
theorem f_315_36 : ftc (PT 315) 36 = some (36, .putfield 356, 3, 12, 30, 1666) := by decide +kernel
theorem f_315_39 : ftc (PT 315) 39 = some (39, .aload_n 0, 1, 0, 0, 0) := by decide +kernel
theorem f_315_40 : ftc (PT 315) 40 = some (40, .aload_n 0, 1, 0, 0, 0) := by decide +kernel
theorem f_315_41 : ftc (PT 315) 41 = some (41, .getfield 81, 3, 12, 8, 1644) := by decide +kernel
theorem f_315_44 : ftc (PT 315) 44 = some (44, .putfield 360, 3, 12, 25, 1661) := by decide +kernel
theorem f_315_47 : ftc (PT 315) 47 = some (47, .aload_n 0, 1, 0, 0, 0) := by decide +kernel
theorem f_315_48 : ftc (PT 315) 48 = some (48, .aload_n 0, 1, 0, 0, 0) := by decide +kernel
theorem f_315_49 : ftc (PT 315) 49 = some (49, .getfield 85, 3, 12, 9, 1645) := by decide +kernel
theorem f_315_52 : ftc (PT 315) 52 = some (52, .putfield 363, 3, 12, 26, 1662) := by decide +kernel
theorem f_315_55 : ftc (PT 315) 55 = some (55, .aload_n 0, 1, 0, 0, 0) := by decide +kernel
theorem f_315_56 : ftc (PT 315) 56 = some (56, .iload_n 1, 1, 0, 0, 0) := by decide +kernel
theorem f_315_57 : ftc (PT 315) 57 = some (57, .putfield 369, 3, 12, 27, 1663) := by decide +kernel
theorem f_315_60 : ftc (PT 315) 60 = some (60, .aload_n 0, 1, 0, 0, 0) := by decide +kernel
theorem f_315_61 : ftc (PT 315) 61 = some (61, .iload_n 2, 1, 0, 0, 0) := by decide +kernel
theorem f_315_62 : ftc (PT 315) 62 = some (62, .putfield 372, 3, 12, 28, 1664) := by decide +kernel
theorem f_315_65 : ftc (PT 315) 65 = some (65, .aload_n 0, 1, 0, 0, 0) := by decide +kernel
theorem f_315_66 : ftc (PT 315) 66 = some (66, .iload_n 3, 1, 0, 0, 0) := by decide +kernel
theorem f_315_67 : ftc (PT 315) 67 = some (67, .putfield 375, 3, 12, 29, 1665) := by decide +kernel
theorem f_315_70 : ftc (PT 315) 70 = some (70, .return_, 1, 0, 0, 0) := by decide +kernel
theorem f_316_0 : ftc (PT 316) 0 = some (0, .lload_n 0, 1, 0, 0, 0) := by decide +kernel
theorem f_316_1 : ftc (PT 316) 1 = some (1, .lstore 8, 2, 0, 0, 0) := by decide +kernel
theorem f_316_3 : ftc (PT 316) 3 = some (3, .lload_n 2, 1, 0, 0, 0) := by decide +kernel
theorem f_316_4 : ftc (PT 316) 4 = some (4, .lstore 10, 2, 0, 0, 0) := by decide +kernel
theorem f_316_6 : ftc (PT 316) 6 = some (6, .lload 4, 2, 0, 0, 0) := by decide +kernel
theorem f_316_8 : ftc (PT 316) 8 = some (8, .lstore 12, 2, 0, 0, 0) := by decide +kernel
theorem f_316_10 : ftc (PT 316) 10 = some (10, .lload 6, 2, 0, 0, 0) := by decide +kernel
theorem f_316_12 : ftc (PT 316) 12 = some (12, .lstore 14, 2, 0, 0, 0) := by decide +kernel
theorem f_316_14 : ftc (PT 316) 14 = some (14, .iconst 1, 1, 0, 0, 0) := by decide +kernel
theorem f_316_15 : ftc (PT 316) 15 = some (15, .istore 16, 2, 0, 0, 0) := by decide +kernel
theorem f_316_17 : ftc (PT 316) 17 = some (17, .lload 8, 2, 0, 0, 0) := by decide +kernel
theorem f_316_19 : ftc (PT 316) 19 = some (19, .lload 10, 2, 0, 0, 0) := by decide +kernel
theorem f_316_21 : ftc (PT 316) 21 = some (21, .ldiv, 1, 0, 0, 0) := by decide +kernel
theorem f_316_22 : ftc (PT 316) 22 = some (22, .lload 12, 2, 0, 0, 0) := by decide +kernel
theorem f_316_24 : ftc (PT 316) 24 = some (24, .lload 14, 2, 0, 0, 0) := by decide +kernel
theorem f_316_26 : ftc (PT 316) 26 = some (26, .ldiv, 1, 0, 0, 0) := by decide +kernel
theorem f_316_27 : ftc (PT 316) 27 = some (27, .lcmp, 1, 0, 0, 0) := by decide +kernel
theorem f_316_28 : ftc (PT 316) 28 = some (28, .ifCond .ne 83, 3, 111, 0, 0) := by decide +kernel
theorem f_316_31 : ftc (PT 316) 31 = some (31, .lload 8, 2, 0, 0, 0) := by decide +kernel
theorem f_316_33 : ftc (PT 316) 33 = some (33, .lload 10, 2, 0, 0, 0) := by decide +kernel
theorem f_316_35 : ftc (PT 316) 35 = some (35, .lrem, 1, 0, 0, 0) := by decide +kernel
theorem f_316_36 : ftc (PT 316) 36 = some (36, .lstore 17, 2, 0, 0, 0) := by decide +kernel
theorem f_316_38 : ftc (PT 316) 38 = some (38, .lload 12, 2, 0, 0, 0) := by decide +kernel
theorem f_316_40 : ftc (PT 316) 40 = some (40, .lload 14, 2, 0, 0, 0) := by decide +kernel
theorem f_316_42 : ftc (PT 316) 42 = some (42, .lrem, 1, 0, 0, 0) := by decide +kernel
theorem f_316_43 : ftc (PT 316) 43 = some (43, .lstore 19, 2, 0, 0, 0) := by decide +kernel
theorem f_316_45 : ftc (PT 316) 45 = some (45, .lload 17, 2, 0, 0, 0) := by decide +kernel
theorem f_316_47 : ftc (PT 316) 47 = some (47, .lconst 0, 1, 0, 0, 0) := by decide +kernel
theorem f_316_48 : ftc (PT 316) 48 = some (48, .lcmp, 1, 0, 0, 0) := by decide +kernel
theorem f_316_49 : ftc (PT 316) 49 = some (49, .ifCond .eq 10, 3, 59, 0, 0) := by decide +kernel
theorem f_316_52 : ftc (PT 316) 52 = some (52, .lload 19, 2, 0, 0, 0) := by decide +kernel
theorem f_316_54 : ftc (PT 316) 54 = some (54, .lconst 0, 1, 0, 0, 0) := by decide +kernel
theorem f_316_55 : ftc (PT 316) 55 = some (55, .lcmp, 1, 0, 0, 0) := by decide +kernel
theorem f_316_56 : ftc (PT 316) 56 = some (56, .ifCond .ne 31, 3, 87, 0, 0) := by decide +kernel
theorem f_316_59 : ftc (PT 316) 59 = some (59, .lload 17, 2, 0, 0, 0) := by decide +kernel
theorem f_316_61 : ftc (PT 316) 61 = some (61, .lload 19, 2, 0, 0, 0) := by decide +kernel
theorem f_316_63 : ftc (PT 316) 63 = some (63, .lcmp, 1, 0, 0, 0) := by decide +kernel
theorem f_316_64 : ftc (PT 316) 64 = some (64, .ifCond .ne 7, 3, 71, 0, 0) := by decide +kernel
theorem f_316_67 : ftc (PT 316) 67 = some (67, .iconst 0, 1, 0, 0, 0) := by decide +kernel
theorem f_316_68 : ftc (PT 316) 68 = some (68, .goto 18, 3, 86, 0, 0) := by decide +kernel
theorem f_316_71 : ftc (PT 316) 71 = some (71, .lload 17, 2, 0, 0, 0) := by decide +kernel
theorem f_316_73 : ftc (PT 316) 73 = some (73, .lconst 0, 1, 0, 0, 0) := by decide +kernel
theorem f_316_74 : ftc (PT 316) 74 = some (74, .lcmp, 1, 0, 0, 0) := by decide +kernel
theorem f_316_75 : ftc (PT 316) 75 = some (75, .ifCond .ne 9, 3, 84, 0, 0) := by decide +kernel
theorem f_316_78 : ftc (PT 316) 78 = some (78, .iload 16, 2, 0, 0, 0) := by decide +kernel
theorem f_316_80 : ftc (PT 316) 80 = some (80, .ineg, 1, 0, 0, 0) := by decide +kernel
theorem f_316_81 : ftc (PT 316) 81 = some (81, .goto 5, 3, 86, 0, 0) := by decide +kernel
theorem f_316_84 : ftc (PT 316) 84 = some (84, .iload 16, 2, 0, 0, 0) := by decide +kernel
theorem f_316_86 : ftc (PT 316) 86 = some (86, .ireturn, 1, 0, 0, 0) := by decide +kernel
theorem f_316_87 : ftc (PT 316) 87 = some (87, .lload 10, 2, 0, 0, 0) := by decide +kernel
theorem f_316_89 : ftc (PT 316) 89 = some (89, .lstore 8, 2, 0, 0, 0) := by decide +kernel
theorem f_316_91 : ftc (PT 316) 91 = some (91, .lload 17, 2, 0, 0, 0) := by decide +kernel
theorem f_316_93 : ftc (PT 316) 93 = some (93, .lstore 10, 2, 0, 0, 0) := by decide +kernel
theorem f_316_95 : ftc (PT 316) 95 = some (95, .lload 14, 2, 0, 0, 0) := by decide +kernel
theorem f_316_97 : ftc (PT 316) 97 = some (97, .lstore 12, 2, 0, 0, 0) := by decide +kernel
theorem f_316_99 : ftc (PT 316) 99 = some (99, .lload 19, 2, 0, 0, 0) := by decide +kernel
theorem f_316_101 : ftc (PT 316) 101 = some (101, .lstore 14, 2, 0, 0, 0) := by decide +kernel
theorem f_316_103 : ftc (PT 316) 103 = some (103, .iload 16, 2, 0, 0, 0) := by decide +kernel
theorem f_316_105 : ftc (PT 316) 105 = some (105, .ineg, 1, 0, 0, 0) := by decide +kernel
theorem f_316_106 : ftc (PT 316) 106 = some (106, .istore 16, 2, 0, 0, 0) := by decide +kernel
theorem f_316_108 : ftc (PT 316) 108 = some (108, .goto (-91), 3, 17, 0, 0) := by decide +kernel
theorem f_316_111 : ftc (PT 316) 111 = some (111, .lload 8, 2, 0, 0, 0) := by decide +kernel
theorem f_316_113 : ftc (PT 316) 113 = some (113, .lload 10, 2, 0, 0, 0) := by decide +kernel
theorem f_316_115 : ftc (PT 316) 115 = some (115, .ldiv, 1, 0, 0, 0) := by decide +kernel
theorem f_316_116 : ftc (PT 316) 116 = some (116, .lload 12, 2, 0, 0, 0) := by decide +kernel
theorem f_316_118 : ftc (PT 316) 118 = some (118, .lload 14, 2, 0, 0, 0) := by decide +kernel
theorem f_316_120 : ftc (PT 316) 120 = some (120, .ldiv, 1, 0, 0, 0) := by decide +kernel
theorem f_316_121 : ftc (PT 316) 121 = some (121, .lcmp, 1, 0, 0, 0) := by decide +kernel
theorem f_316_122 : ftc (PT 316) 122 = some (122, .ifCond .ge 9, 3, 131, 0, 0) := by decide +kernel
theorem f_316_125 : ftc (PT 316) 125 = some (125, .iload 16, 2, 0, 0, 0) := by decide +kernel
theorem f_316_127 : ftc (PT 316) 127 = some (127, .ineg, 1, 0, 0, 0) := by decide +kernel
theorem f_316_128 : ftc (PT 316) 128 = some (128, .goto 5, 3, 133, 0, 0) := by decide +kernel
theorem f_316_131 : ftc (PT 316) 131 = some (131, .iload 16, 2, 0, 0, 0) := by decide +kernel
theorem f_316_133 : ftc (PT 316) 133 = some (133, .ireturn, 1, 0, 0, 0) := by decide +kernel
theorem f_317_0 : ftc (PT 317) 0 = some (0, .aload_n 0, 1, 0, 0, 0) := by decide +kernel
theorem f_317_1 : ftc (PT 317) 1 = some (1, .getfield 114, 3, 12, 10, 1646) := by decide +kernel
theorem f_317_4 : ftc (PT 317) 4 = some (4, .aload_n 0, 1, 0, 0, 0) := by decide +kernel
theorem f_317_5 : ftc (PT 317) 5 = some (5, .getfield 120, 3, 12, 12, 1648) := by decide +kernel
theorem f_317_8 : ftc (PT 317) 8 = some (8, .lcmp, 1, 0, 0, 0) := by decide +kernel
theorem f_317_9 : ftc (PT 317) 9 = some (9, .ifCond .ne 19, 3, 28, 0, 0) := by decide +kernel
theorem f_317_12 : ftc (PT 317) 12 = some (12, .aload_n 0, 1, 0, 0, 0) := by decide +kernel
theorem f_317_13 : ftc (PT 317) 13 = some (13, .getfield 117, 3, 12, 11, 1647) := by decide +kernel
theorem f_317_16 : ftc (PT 317) 16 = some (16, .aload_n 0, 1, 0, 0, 0) := by decide +kernel
theorem f_317_17 : ftc (PT 317) 17 = some (17, .getfield 123, 3, 12, 13, 1649) := by decide +kernel
theorem f_317_20 : ftc (PT 317) 20 = some (20, .lcmp, 1, 0, 0, 0) := by decide +kernel
theorem f_317_21 : ftc (PT 317) 21 = some (21, .ifCond .ne 7, 3, 28, 0, 0) := by decide +kernel
theorem f_317_24 : ftc (PT 317) 24 = some (24, .iconst 1, 1, 0, 0, 0) := by decide +kernel
theorem f_317_25 : ftc (PT 317) 25 = some (25, .goto 4, 3, 29, 0, 0) := by decide +kernel
theorem f_317_28 : ftc (PT 317) 28 = some (28, .iconst 0, 1, 0, 0, 0) := by decide +kernel
theorem f_317_29 : ftc (PT 317) 29 = some (29, .ireturn, 1, 1, 0, 0) := by decide +kernel
theorem f_318_0 : ftc (PT 318) 0 = some (0, .aload_n 0, 1, 0, 0, 0) := by decide +kernel
theorem f_318_1 : ftc (PT 318) 1 = some (1, .getfield 387, 3, 12, 32, 1668) := by decide +kernel
theorem f_318_4 : ftc (PT 318) 4 = some (4, .aload_n 0, 1, 0, 0, 0) := by decide +kernel
theorem f_318_5 : ftc (PT 318) 5 = some (5, .getfield 409, 3, 12, 33, 1669) := by decide +kernel
theorem f_318_8 : ftc (PT 318) 8 = some (8, .if_icmp .ne 18, 3, 26, 0, 0) := by decide +kernel
theorem f_318_11 : ftc (PT 318) 11 = some (11, .aload_n 0, 1, 0, 0, 0) := by decide +kernel
theorem f_318_12 : ftc (PT 318) 12 = some (12, .iload_n 1, 1, 0, 0, 0) := by decide +kernel
theorem f_318_13 : ftc (PT 318) 13 = some (13, .putfield 412, 3, 12, 34, 1670) := by decide +kernel
theorem f_318_16 : ftc (PT 318) 16 = some (16, .aload_n 0, 1, 0, 0, 0) := by decide +kernel
theorem f_318_17 : ftc (PT 318) 17 = some (17, .iload_n 2, 1, 0, 0, 0) := by decide +kernel
theorem f_318_18 : ftc (PT 318) 18 = some (18, .putfield 415, 3, 12, 35, 1671) := by decide +kernel
theorem f_318_21 : ftc (PT 318) 21 = some (21, .aload_n 0, 1, 0, 0, 0) := by decide +kernel
theorem f_318_22 : ftc (PT 318) 22 = some (22, .iload_n 3, 1, 0, 0, 0) := by decide +kernel
theorem f_318_23 : ftc (PT 318) 23 = some (23, .putfield 418, 3, 12, 36, 1672) := by decide +kernel
theorem f_318_26 : ftc (PT 318) 26 = some (26, .aload_n 0, 1, 0, 0, 0) := by decide +kernel
theorem f_318_27 : ftc (PT 318) 27 = some (27, .dup, 1, 0, 0, 0) := by decide +kernel
theorem f_318_28 : ftc (PT 318) 28 = some (28, .getfield 387, 3, 12, 32, 1668) := by decide +kernel
theorem f_318_31 : ftc (PT 318) 31 = some (31, .iconst 1, 1, 0, 0, 0) := by decide +kernel
theorem f_318_32 : ftc (PT 318) 32 = some (32, .iadd, 1, 0, 0, 0) := by decide +kernel
theorem f_318_33 : ftc (PT 318) 33 = some (33, .putfield 387, 3, 12, 32, 1668) := by decide +kernel
theorem f_318_36 : ftc (PT 318) 36 = some (36, .return_, 1, 0, 0, 0) := by decide +kernel
theorem f_319_0 : ftc (PT 319) 0 = some (0, .aload_n 0, 1, 0, 0, 0) := by decide +kernel
theorem f_319_1 : ftc (PT 319) 1 = some (1, .getfield 360, 3, 12, 25, 1661) := by decide +kernel
theorem f_319_4 : ftc (PT 319) 4 = some (4, .aload_n 0, 1, 0, 0, 0) := by decide +kernel
theorem f_319_5 : ftc (PT 319) 5 = some (5, .getfield 363, 3, 12, 26, 1662) := by decide +kernel
theorem f_319_8 : ftc (PT 319) 8 = some (8, .invokestatic 380, 3, 320, 9218, 2197) := by decide +kernel
theorem f_319_11 : ftc (PT 319) 11 = some (11, .ireturn, 1, 0, 0, 0) := by decide +kernel
theorem f_320_0 : ftc (PT 320) 0 = some (0, .lload_n 0, 1, 0, 0, 0) := by decide +kernel
theorem f_320_1 : ftc (PT 320) 1 = some (1, .lload_n 2, 1, 0, 0, 0) := by decide +kernel
theorem f_320_2 : ftc (PT 320) 2 = some (2, .ldiv, 1, 0, 0, 0) := by decide +kernel
theorem f_320_3 : ftc (PT 320) 3 = some (3, .lstore 4, 2, 0, 0, 0) := by decide +kernel
theorem f_320_5 : ftc (PT 320) 5 = some (5, .lload_n 0, 1, 0, 0, 0) := by decide +kernel
theorem f_320_6 : ftc (PT 320) 6 = some (6, .lload_n 2, 1, 0, 0, 0) := by decide +kernel
theorem f_320_7 : ftc (PT 320) 7 = some (7, .lrem, 1, 0, 0, 0) := by decide +kernel
theorem f_320_8 : ftc (PT 320) 8 = some (8, .lstore 6, 2, 0, 0, 0) := by decide +kernel
theorem f_320_10 : ftc (PT 320) 10 = some (10, .iconst 0, 1, 0, 0, 0) := by decide +kernel
theorem f_320_11 : ftc (PT 320) 11 = some (11, .istore 8, 2, 0, 0, 0) := by decide +kernel
theorem f_320_13 : ftc (PT 320) 13 = some (13, .iload 8, 2, 0, 0, 0) := by decide +kernel
theorem f_320_15 : ftc (PT 320) 15 = some (15, .iconst 4, 1, 0, 0, 0) := by decide +kernel
theorem f_320_16 : ftc (PT 320) 16 = some (16, .if_icmp .ge 36, 3, 52, 0, 0) := by decide +kernel
theorem f_320_19 : ftc (PT 320) 19 = some (19, .ldc2_w 378, 3, 2200, 0, 10) := by decide +kernel
theorem f_320_22 : ftc (PT 320) 22 = some (22, .lload 4, 2, 0, 0, 0) := by decide +kernel
theorem f_320_24 : ftc (PT 320) 24 = some (24, .lmul, 1, 0, 0, 0) := by decide +kernel
theorem f_320_25 : ftc (PT 320) 25 = some (25, .ldc2_w 378, 3, 2200, 0, 10) := by decide +kernel
theorem f_320_28 : ftc (PT 320) 28 = some (28, .lload 6, 2, 0, 0, 0) := by decide +kernel
theorem f_320_30 : ftc (PT 320) 30 = some (30, .lmul, 1, 0, 0, 0) := by decide +kernel
theorem f_320_31 : ftc (PT 320) 31 = some (31, .lload_n 2, 1, 0, 0, 0) := by decide +kernel
theorem f_320_32 : ftc (PT 320) 32 = some (32, .ldiv, 1, 0, 0, 0) := by decide +kernel
theorem f_320_33 : ftc (PT 320) 33 = some (33, .ladd, 1, 0, 0, 0) := by decide +kernel
theorem f_320_34 : ftc (PT 320) 34 = some (34, .lstore 4, 2, 0, 0, 0) := by decide +kernel
theorem f_320_36 : ftc (PT 320) 36 = some (36, .ldc2_w 378, 3, 2200, 0, 10) := by decide +kernel
theorem f_320_39 : ftc (PT 320) 39 = some (39, .lload 6, 2, 0, 0, 0) := by decide +kernel
theorem f_320_41 : ftc (PT 320) 41 = some (41, .lmul, 1, 0, 0, 0) := by decide +kernel
theorem f_320_42 : ftc (PT 320) 42 = some (42, .lload_n 2, 1, 0, 0, 0) := by decide +kernel
theorem f_320_43 : ftc (PT 320) 43 = some (43, .lrem, 1, 0, 0, 0) := by decide +kernel
theorem f_320_44 : ftc (PT 320) 44 = some (44, .lstore 6, 2, 0, 0, 0) := by decide +kernel
theorem f_320_46 : ftc (PT 320) 46 = some (46, .iinc 8 1, 3, 0, 0, 0) := by decide +kernel
theorem f_320_49 : ftc (PT 320) 49 = some (49, .goto (-36), 3, 13, 0, 0) := by decide +kernel
theorem f_320_52 : ftc (PT 320) 52 = some (52, .lload 4, 2, 0, 0, 0) := by decide +kernel
theorem f_320_54 : ftc (PT 320) 54 = some (54, .l2i, 1, 0, 0, 0) := by decide +kernel
theorem f_320_55 : ftc (PT 320) 55 = some (55, .ireturn, 1, 0, 0, 0) := by decide +kernel
theorem f_321_0 : ftc (PT 321) 0 = some (0, .iload 4, 2, 0, 0, 0) := by decide +kernel
theorem f_321_2 : ftc (PT 321) 2 = some (2, .tableswitch 53 0 3 #[30, 37, 44, 46], 30, 0, 0, 0) := by decide +kernel
theorem f_321_32 : ftc (PT 321) 32 = some (32, .aload_n 0, 1, 0, 0, 0) := by decide +kernel
theorem f_321_33 : ftc (PT 321) 33 = some (33, .getfield 16, 3, 12, 5, 1641) := by decide +kernel
theorem f_321_36 : ftc (PT 321) 36 = some (36, .iload_n 1, 1, 0, 0, 0) := by decide +kernel
theorem f_321_37 : ftc (PT 321) 37 = some (37, .iaload, 1, 0, 0, 0) := by decide +kernel
theorem f_321_38 : ftc (PT 321) 38 = some (38, .ireturn, 1, 0, 0, 0) := by decide +kernel
theorem f_321_39 : ftc (PT 321) 39 = some (39, .aload_n 0, 1, 0, 0, 0) := by decide +kernel
theorem f_321_40 : ftc (PT 321) 40 = some (40, .getfield 19, 3, 12, 6, 1642) := by decide +kernel
theorem f_321_43 : ftc (PT 321) 43 = some (43, .iload_n 1, 1, 0, 0, 0) := by decide +kernel
theorem f_321_44 : ftc (PT 321) 44 = some (44, .iaload, 1, 0, 0, 0) := by decide +kernel
theorem f_321_45 : ftc (PT 321) 45 = some (45, .ireturn, 1, 0, 0, 0) := by decide +kernel
theorem f_321_46 : ftc (PT 321) 46 = some (46, .iload_n 3, 1, 0, 0, 0) := by decide +kernel
theorem f_321_47 : ftc (PT 321) 47 = some (47, .ireturn, 1, 0, 0, 0) := by decide +kernel
theorem f_321_48 : ftc (PT 321) 48 = some (48, .aload_n 0, 1, 0, 0, 0) := by decide +kernel
theorem f_321_49 : ftc (PT 321) 49 = some (49, .getfield 16, 3, 12, 5, 1641) := by decide +kernel
theorem f_321_52 : ftc (PT 321) 52 = some (52, .iload_n 2, 1, 0, 0, 0) := by decide +kernel
theorem f_321_53 : ftc (PT 321) 53 = some (53, .iaload, 1, 0, 0, 0) := by decide +kernel
theorem f_321_54 : ftc (PT 321) 54 = some (54, .ireturn, 1, 0, 0, 0) := by decide +kernel
theorem f_321_55 : ftc (PT 321) 55 = some (55, .aload_n 0, 1, 0, 0, 0) := by decide +kernel
theorem f_321_56 : ftc (PT 321) 56 = some (56, .getfield 19, 3, 12, 6, 1642) := by decide +kernel
theorem f_321_59 : ftc (PT 321) 59 = some (59, .iload_n 2, 1, 0, 0, 0) := by decide +kernel
theorem f_321_60 : ftc (PT 321) 60 = some (60, .iaload, 1, 0, 0, 0) := by decide +kernel
theorem f_321_61 : ftc (PT 321) 61 = some (61, .ireturn, 1, 0, 0, 0) := by decide +kernel
theorem f_322_64 : ftc (PT 322) 64 = some (64, .iload_n 2, 1, 0, 0, 0) := by decide +kernel
theorem f_322_65 : ftc (PT 322) 65 = some (65, .iconst (-1), 1, 0, 0, 0) := by decide +kernel
theorem f_322_66 : ftc (PT 322) 66 = some (66, .if_icmp .ne 8, 3, 74, 0, 0) := by decide +kernel
theorem f_322_69 : ftc (PT 322) 69 = some (69, .aload_n 0, 1, 0, 0, 0) := by decide +kernel
theorem f_322_70 : ftc (PT 322) 70 = some (70, .getfield 387, 3, 12, 32, 1668) := by decide +kernel
theorem f_322_73 : ftc (PT 322) 73 = some (73, .ireturn, 1, 0, 0, 0) := by decide +kernel
theorem f_322_74 : ftc (PT 322) 74 = some (74, .iload_n 2, 1, 0, 0, 0) := by decide +kernel
theorem f_322_75 : ftc (PT 322) 75 = some (75, .iconst 0, 1, 0, 0, 0) := by decide +kernel
theorem f_322_76 : ftc (PT 322) 76 = some (76, .aload_n 0, 1, 0, 0, 0) := by decide +kernel
theorem f_322_77 : ftc (PT 322) 77 = some (77, .getfield 387, 3, 12, 32, 1668) := by decide +kernel
theorem f_322_80 : ftc (PT 322) 80 = some (80, .iconst 1, 1, 0, 0, 0) := by decide +kernel
theorem f_322_81 : ftc (PT 322) 81 = some (81, .isub, 1, 0, 0, 0) := by decide +kernel
theorem f_322_82 : ftc (PT 322) 82 = some (82, .invokestatic 62, 3, 208, 3075, 1624) := by decide +kernel
theorem f_322_85 : ftc (PT 322) 85 = some (85, .ifCond .eq 23, 3, 108, 0, 0) := by decide +kernel
theorem f_322_88 : ftc (PT 322) 88 = some (88, .aload_n 0, 1, 0, 0, 0) := by decide +kernel
theorem f_322_89 : ftc (PT 322) 89 = some (89, .aload_n 0, 1, 0, 0, 0) := by decide +kernel
theorem f_322_90 : ftc (PT 322) 90 = some (90, .getfield 412, 3, 12, 34, 1670) := by decide +kernel
theorem f_322_93 : ftc (PT 322) 93 = some (93, .aload_n 0, 1, 0, 0, 0) := by decide +kernel
theorem f_322_94 : ftc (PT 322) 94 = some (94, .getfield 415, 3, 12, 35, 1671) := by decide +kernel
theorem f_322_97 : ftc (PT 322) 97 = some (97, .aload_n 0, 1, 0, 0, 0) := by decide +kernel
theorem f_322_98 : ftc (PT 322) 98 = some (98, .getfield 418, 3, 12, 36, 1672) := by decide +kernel
theorem f_322_101 : ftc (PT 322) 101 = some (101, .iload_n 3, 1, 0, 0, 0) := by decide +kernel
theorem f_322_102 : ftc (PT 322) 102 = some (102, .invokevirtual 428, 3, 321, 5260, 2201) := by decide +kernel
theorem f_322_105 : ftc (PT 322) 105 = some (105, .goto 4, 3, 109, 0, 0) := by decide +kernel
theorem f_322_108 : ftc (PT 322) 108 = some (108, .iconst (-1), 1, 0, 0, 0) := by decide +kernel
theorem f_322_109 : ftc (PT 322) 109 = some (109, .ireturn, 1, 0, 0, 0) := by decide +kernel
theorem f_323_58 : ftc (PT 323) 58 = some (58, .iload_n 3, 1, 0, 0, 0) := by decide +kernel
theorem f_323_59 : ftc (PT 323) 59 = some (59, .aload_n 0, 1, 0, 0, 0) := by decide +kernel
theorem f_323_60 : ftc (PT 323) 60 = some (60, .invokevirtual 92, 3, 215, 1036, 1781) := by decide +kernel
theorem f_323_63 : ftc (PT 323) 63 = some (63, .if_icmp .ge 55, 3, 118, 0, 0) := by decide +kernel
theorem f_323_66 : ftc (PT 323) 66 = some (66, .iconst 0, 1, 0, 0, 0) := by decide +kernel
theorem f_323_67 : ftc (PT 323) 67 = some (67, .istore 4, 2, 0, 0, 0) := by decide +kernel
theorem f_323_69 : ftc (PT 323) 69 = some (69, .iload 4, 2, 0, 0, 0) := by decide +kernel
theorem f_323_71 : ftc (PT 323) 71 = some (71, .aload_n 0, 1, 0, 0, 0) := by decide +kernel
theorem f_323_72 : ftc (PT 323) 72 = some (72, .getfield 74, 3, 12, 7, 1643) := by decide +kernel
theorem f_323_75 : ftc (PT 323) 75 = some (75, .if_icmp .ge 37, 3, 112, 0, 0) := by decide +kernel
theorem f_323_78 : ftc (PT 323) 78 = some (78, .aload_n 0, 1, 0, 0, 0) := by decide +kernel
theorem f_323_79 : ftc (PT 323) 79 = some (79, .iload 4, 2, 0, 0, 0) := by decide +kernel
theorem f_323_81 : ftc (PT 323) 81 = some (81, .iload_n 1, 1, 0, 0, 0) := by decide +kernel
theorem f_323_82 : ftc (PT 323) 82 = some (82, .invokevirtual 350, 3, 307, 3148, 2147) := by decide +kernel
theorem f_323_85 : ftc (PT 323) 85 = some (85, .ifCond .ne 6, 3, 91, 0, 0) := by decide +kernel
theorem f_323_88 : ftc (PT 323) 88 = some (88, .goto 18, 3, 106, 0, 0) := by decide +kernel
theorem f_323_91 : ftc (PT 323) 91 = some (91, .aload_n 0, 1, 0, 0, 0) := by decide +kernel
theorem f_323_92 : ftc (PT 323) 92 = some (92, .iload_n 3, 1, 0, 0, 0) := by decide +kernel
theorem f_323_93 : ftc (PT 323) 93 = some (93, .iload 4, 2, 0, 0, 0) := by decide +kernel
theorem f_323_95 : ftc (PT 323) 95 = some (95, .invokevirtual 432, 3, 324, 4172, 2213) := by decide +kernel
theorem f_323_98 : ftc (PT 323) 98 = some (98, .aload_n 0, 1, 0, 0, 0) := by decide +kernel
theorem f_323_99 : ftc (PT 323) 99 = some (99, .iload_n 3, 1, 0, 0, 0) := by decide +kernel
theorem f_323_100 : ftc (PT 323) 100 = some (100, .iload 4, 2, 0, 0, 0) := by decide +kernel
theorem f_323_102 : ftc (PT 323) 102 = some (102, .iconst 0, 1, 0, 0, 0) := by decide +kernel
theorem f_323_103 : ftc (PT 323) 103 = some (103, .invokevirtual 399, 3, 315, 4204, 2178) := by decide +kernel
theorem f_323_106 : ftc (PT 323) 106 = some (106, .iinc 4 1, 3, 0, 0, 0) := by decide +kernel
theorem f_323_109 : ftc (PT 323) 109 = some (109, .goto (-40), 3, 69, 0, 0) := by decide +kernel
theorem f_323_112 : ftc (PT 323) 112 = some (112, .iinc 3 1, 3, 0, 0, 0) := by decide +kernel
theorem f_323_115 : ftc (PT 323) 115 = some (115, .goto (-57), 3, 58, 0, 0) := by decide +kernel
theorem f_323_118 : ftc (PT 323) 118 = some (118, .iload_n 2, 1, 0, 0, 0) := by decide +kernel
theorem f_323_119 : ftc (PT 323) 119 = some (119, .ifCond .ne 10, 3, 129, 0, 0) := by decide +kernel
theorem f_323_122 : ftc (PT 323) 122 = some (122, .aload_n 0, 1, 0, 0, 0) := by decide +kernel
theorem f_323_123 : ftc (PT 323) 123 = some (123, .getfield 369, 3, 12, 27, 1663) := by decide +kernel
theorem f_323_126 : ftc (PT 323) 126 = some (126, .goto 41, 3, 167, 0, 0) := by decide +kernel
theorem f_323_129 : ftc (PT 323) 129 = some (129, .iload_n 2, 1, 0, 0, 0) := by decide +kernel
theorem f_323_130 : ftc (PT 323) 130 = some (130, .iconst 1, 1, 0, 0, 0) := by decide +kernel
theorem f_323_131 : ftc (PT 323) 131 = some (131, .if_icmp .ne 15, 3, 146, 0, 0) := by decide +kernel
theorem f_323_134 : ftc (PT 323) 134 = some (134, .aload_n 0, 1, 0, 0, 0) := by decide +kernel
theorem f_323_135 : ftc (PT 323) 135 = some (135, .getfield 16, 3, 12, 5, 1641) := by decide +kernel
theorem f_323_138 : ftc (PT 323) 138 = some (138, .aload_n 0, 1, 0, 0, 0) := by decide +kernel
theorem f_323_139 : ftc (PT 323) 139 = some (139, .getfield 372, 3, 12, 28, 1664) := by decide +kernel
theorem f_323_142 : ftc (PT 323) 142 = some (142, .iaload, 1, 0, 0, 0) := by decide +kernel
theorem f_323_143 : ftc (PT 323) 143 = some (143, .goto 24, 3, 167, 0, 0) := by decide +kernel
theorem f_323_146 : ftc (PT 323) 146 = some (146, .iload_n 2, 1, 0, 0, 0) := by decide +kernel
theorem f_323_147 : ftc (PT 323) 147 = some (147, .iconst 2, 1, 0, 0, 0) := by decide +kernel
theorem f_323_148 : ftc (PT 323) 148 = some (148, .if_icmp .ne 15, 3, 163, 0, 0) := by decide +kernel
theorem f_323_151 : ftc (PT 323) 151 = some (151, .aload_n 0, 1, 0, 0, 0) := by decide +kernel
theorem f_323_152 : ftc (PT 323) 152 = some (152, .getfield 19, 3, 12, 6, 1642) := by decide +kernel
theorem f_323_155 : ftc (PT 323) 155 = some (155, .aload_n 0, 1, 0, 0, 0) := by decide +kernel
theorem f_323_156 : ftc (PT 323) 156 = some (156, .getfield 372, 3, 12, 28, 1664) := by decide +kernel
theorem f_323_159 : ftc (PT 323) 159 = some (159, .iaload, 1, 0, 0, 0) := by decide +kernel
theorem f_323_160 : ftc (PT 323) 160 = some (160, .goto 7, 3, 167, 0, 0) := by decide +kernel
theorem f_323_163 : ftc (PT 323) 163 = some (163, .aload_n 0, 1, 0, 0, 0) := by decide +kernel
theorem f_323_164 : ftc (PT 323) 164 = some (164, .invokevirtual 425, 3, 319, 1036, 2193) := by decide +kernel
theorem f_323_167 : ftc (PT 323) 167 = some (167, .ireturn, 1, 0, 0, 0) := by decide +kernel
theorem f_324_0 : ftc (PT 324) 0 = some (0, .aload_n 0, 1, 0, 0, 0) := by decide +kernel
theorem f_324_1 : ftc (PT 324) 1 = some (1, .aload_n 0, 1, 0, 0, 0) := by decide +kernel
theorem f_324_2 : ftc (PT 324) 2 = some (2, .getfield 7, 3, 12, 1, 1637) := by decide +kernel
theorem f_324_5 : ftc (PT 324) 5 = some (5, .iconst 0, 1, 0, 0, 0) := by decide +kernel
theorem f_324_6 : ftc (PT 324) 6 = some (6, .iaload, 1, 0, 0, 0) := by decide +kernel
theorem f_324_7 : ftc (PT 324) 7 = some (7, .i2l, 1, 0, 0, 0) := by decide +kernel
theorem f_324_8 : ftc (PT 324) 8 = some (8, .aload_n 0, 1, 0, 0, 0) := by decide +kernel
theorem f_324_9 : ftc (PT 324) 9 = some (9, .getfield 7, 3, 12, 1, 1637) := by decide +kernel
theorem f_324_12 : ftc (PT 324) 12 = some (12, .iconst 1, 1, 0, 0, 0) := by decide +kernel
theorem f_324_13 : ftc (PT 324) 13 = some (13, .iaload, 1, 0, 0, 0) := by decide +kernel
theorem f_324_14 : ftc (PT 324) 14 = some (14, .i2l, 1, 0, 0, 0) := by decide +kernel
theorem f_324_15 : ftc (PT 324) 15 = some (15, .aload_n 0, 1, 0, 0, 0) := by decide +kernel
theorem f_324_16 : ftc (PT 324) 16 = some (16, .getfield 7, 3, 12, 1, 1637) := by decide +kernel
theorem f_324_19 : ftc (PT 324) 19 = some (19, .iconst 2, 1, 0, 0, 0) := by decide +kernel
theorem f_324_20 : ftc (PT 324) 20 = some (20, .iaload, 1, 0, 0, 0) := by decide +kernel
theorem f_324_21 : ftc (PT 324) 21 = some (21, .i2l, 1, 0, 0, 0) := by decide +kernel
theorem f_324_22 : ftc (PT 324) 22 = some (22, .lconst 0, 1, 0, 0, 0) := by decide +kernel
theorem f_324_23 : ftc (PT 324) 23 = some (23, .invokevirtual 129, 3, 228, 11404, 1833) := by decide +kernel
theorem f_324_26 : ftc (PT 324) 26 = some (26, .iconst 0, 1, 0, 0, 0) := by decide +kernel
theorem f_324_27 : ftc (PT 324) 27 = some (27, .istore_n 3, 1, 0, 0, 0) := by decide +kernel
theorem f_324_28 : ftc (PT 324) 28 = some (28, .iload_n 3, 1, 0, 0, 0) := by decide +kernel
theorem f_324_29 : ftc (PT 324) 29 = some (29, .aload_n 0, 1, 0, 0, 0) := by decide +kernel
theorem f_324_30 : ftc (PT 324) 30 = some (30, .invokevirtual 92, 3, 215, 1036, 1781) := by decide +kernel
theorem f_324_33 : ftc (PT 324) 33 = some (33, .if_icmp .ge 61, 3, 94, 0, 0) := by decide +kernel
theorem f_324_36 : ftc (PT 324) 36 = some (36, .iload_n 3, 1, 0, 0, 0) := by decide +kernel
theorem f_324_37 : ftc (PT 324) 37 = some (37, .iload_n 1, 1, 0, 0, 0) := by decide +kernel
theorem f_324_38 : ftc (PT 324) 38 = some (38, .if_icmp .ne 29, 3, 67, 0, 0) := by decide +kernel
theorem f_324_41 : ftc (PT 324) 41 = some (41, .aload_n 0, 1, 0, 0, 0) := by decide +kernel
theorem f_324_42 : ftc (PT 324) 42 = some (42, .aload_n 0, 1, 0, 0, 0) := by decide +kernel
theorem f_324_43 : ftc (PT 324) 43 = some (43, .iload_n 3, 1, 0, 0, 0) := by decide +kernel
theorem f_324_44 : ftc (PT 324) 44 = some (44, .invokevirtual 104, 3, 220, 2092, 1801) := by decide +kernel
theorem f_324_47 : ftc (PT 324) 47 = some (47, .aload_n 0, 1, 0, 0, 0) := by decide +kernel
theorem f_324_48 : ftc (PT 324) 48 = some (48, .getfield 16, 3, 12, 5, 1641) := by decide +kernel
theorem f_324_51 : ftc (PT 324) 51 = some (51, .iload_n 2, 1, 0, 0, 0) := by decide +kernel
theorem f_324_52 : ftc (PT 324) 52 = some (52, .iaload, 1, 0, 0, 0) := by decide +kernel
theorem f_324_53 : ftc (PT 324) 53 = some (53, .i2l, 1, 0, 0, 0) := by decide +kernel
theorem f_324_54 : ftc (PT 324) 54 = some (54, .aload_n 0, 1, 0, 0, 0) := by decide +kernel
theorem f_324_55 : ftc (PT 324) 55 = some (55, .getfield 19, 3, 12, 6, 1642) := by decide +kernel
theorem f_324_58 : ftc (PT 324) 58 = some (58, .iload_n 2, 1, 0, 0, 0) := by decide +kernel
theorem f_324_59 : ftc (PT 324) 59 = some (59, .iaload, 1, 0, 0, 0) := by decide +kernel
theorem f_324_60 : ftc (PT 324) 60 = some (60, .i2l, 1, 0, 0, 0) := by decide +kernel
theorem f_324_61 : ftc (PT 324) 61 = some (61, .invokevirtual 143, 3, 229, 18540, 1837) := by decide +kernel
theorem f_324_64 : ftc (PT 324) 64 = some (64, .goto 24, 3, 88, 0, 0) := by decide +kernel
theorem f_324_67 : ftc (PT 324) 67 = some (67, .aload_n 0, 1, 0, 0, 0) := by decide +kernel
theorem f_324_68 : ftc (PT 324) 68 = some (68, .aload_n 0, 1, 0, 0, 0) := by decide +kernel
theorem f_324_69 : ftc (PT 324) 69 = some (69, .iload_n 3, 1, 0, 0, 0) := by decide +kernel
theorem f_324_70 : ftc (PT 324) 70 = some (70, .invokevirtual 104, 3, 220, 2092, 1801) := by decide +kernel
theorem f_324_73 : ftc (PT 324) 73 = some (73, .aload_n 0, 1, 0, 0, 0) := by decide +kernel
theorem f_324_74 : ftc (PT 324) 74 = some (74, .iload_n 3, 1, 0, 0, 0) := by decide +kernel
theorem f_324_75 : ftc (PT 324) 75 = some (75, .invokevirtual 108, 3, 223, 2092, 1813) := by decide +kernel
theorem f_324_78 : ftc (PT 324) 78 = some (78, .i2l, 1, 0, 0, 0) := by decide +kernel
theorem f_324_79 : ftc (PT 324) 79 = some (79, .aload_n 0, 1, 0, 0, 0) := by decide +kernel
theorem f_324_80 : ftc (PT 324) 80 = some (80, .iload_n 3, 1, 0, 0, 0) := by decide +kernel
theorem f_324_81 : ftc (PT 324) 81 = some (81, .invokevirtual 111, 3, 224, 2092, 1817) := by decide +kernel
theorem f_324_84 : ftc (PT 324) 84 = some (84, .i2l, 1, 0, 0, 0) := by decide +kernel
theorem f_324_85 : ftc (PT 324) 85 = some (85, .invokevirtual 143, 3, 229, 18540, 1837) := by decide +kernel
theorem f_324_88 : ftc (PT 324) 88 = some (88, .iinc 3 1, 3, 0, 0, 0) := by decide +kernel
theorem f_324_91 : ftc (PT 324) 91 = some (91, .goto (-63), 3, 28, 0, 0) := by decide +kernel
theorem f_324_94 : ftc (PT 324) 94 = some (94, .return_, 1, 0, 0, 0) := by decide +kernel
theorem f_325_32 : ftc (PT 325) 32 = some (32, .ifCond .ne 7, 3, 39, 0, 0) := by decide +kernel
theorem f_325_35 : ftc (PT 325) 35 = some (35, .iconst 3, 1, 0, 0, 0) := by decide +kernel
theorem f_325_36 : ftc (PT 325) 36 = some (36, .goto 13, 3, 49, 0, 0) := by decide +kernel
theorem f_325_39 : ftc (PT 325) 39 = some (39, .iload_n 1, 1, 0, 0, 0) := by decide +kernel
theorem f_325_40 : ftc (PT 325) 40 = some (40, .iconst 1, 1, 0, 0, 0) := by decide +kernel
theorem f_325_41 : ftc (PT 325) 41 = some (41, .if_icmp .le 7, 3, 48, 0, 0) := by decide +kernel
theorem f_325_44 : ftc (PT 325) 44 = some (44, .iconst 4, 1, 0, 0, 0) := by decide +kernel
theorem f_325_45 : ftc (PT 325) 45 = some (45, .goto 4, 3, 49, 0, 0) := by decide +kernel
theorem f_325_48 : ftc (PT 325) 48 = some (48, .iconst 0, 1, 0, 0, 0) := by decide +kernel
theorem f_325_49 : ftc (PT 325) 49 = some (49, .putfield 55, 3, 12, 0, 1636) := by decide +kernel
theorem f_325_52 : ftc (PT 325) 52 = some (52, .aload_n 0, 1, 0, 0, 0) := by decide +kernel
theorem f_325_53 : ftc (PT 325) 53 = some (53, .getfield 55, 3, 12, 0, 1636) := by decide +kernel
theorem f_325_56 : ftc (PT 325) 56 = some (56, .ifCond .le 5, 3, 61, 0, 0) := by decide +kernel
theorem f_325_59 : ftc (PT 325) 59 = some (59, .iconst 0, 1, 0, 0, 0) := by decide +kernel
theorem f_325_60 : ftc (PT 325) 60 = some (60, .ireturn, 1, 0, 0, 0) := by decide +kernel
theorem f_325_61 : ftc (PT 325) 61 = some (61, .iload 4, 2, 0, 0, 0) := by decide +kernel
theorem f_325_63 : ftc (PT 325) 63 = some (63, .ifCond .eq 7, 3, 70, 0, 0) := by decide +kernel
theorem f_325_66 : ftc (PT 325) 66 = some (66, .iconst 1, 1, 0, 0, 0) := by decide +kernel
theorem f_325_67 : ftc (PT 325) 67 = some (67, .goto 4, 3, 71, 0, 0) := by decide +kernel
theorem f_325_70 : ftc (PT 325) 70 = some (70, .iconst 0, 1, 0, 0, 0) := by decide +kernel
theorem f_325_71 : ftc (PT 325) 71 = some (71, .invokestatic 396, 3, 314, 1025, 2175) := by decide +kernel
theorem f_325_74 : ftc (PT 325) 74 = some (74, .istore 6, 2, 0, 0, 0) := by decide +kernel
theorem f_325_76 : ftc (PT 325) 76 = some (76, .aload_n 0, 1, 0, 0, 0) := by decide +kernel
theorem f_325_77 : ftc (PT 325) 77 = some (77, .invokevirtual 384, 3, 311, 1036, 2163) := by decide +kernel
theorem f_325_80 : ftc (PT 325) 80 = some (80, .iconst 0, 1, 0, 0, 0) := by decide +kernel
theorem f_325_81 : ftc (PT 325) 81 = some (81, .istore 7, 2, 0, 0, 0) := by decide +kernel
theorem f_325_83 : ftc (PT 325) 83 = some (83, .iload 7, 2, 0, 0, 0) := by decide +kernel
theorem f_325_85 : ftc (PT 325) 85 = some (85, .aload_n 0, 1, 0, 0, 0) := by decide +kernel
theorem f_325_86 : ftc (PT 325) 86 = some (86, .getfield 74, 3, 12, 7, 1643) := by decide +kernel
theorem f_325_89 : ftc (PT 325) 89 = some (89, .if_icmp .ge 63, 3, 152, 0, 0) := by decide +kernel
theorem f_325_92 : ftc (PT 325) 92 = some (92, .aload_n 0, 1, 0, 0, 0) := by decide +kernel
theorem f_325_93 : ftc (PT 325) 93 = some (93, .iload_n 1, 1, 0, 0, 0) := by decide +kernel
theorem f_325_94 : ftc (PT 325) 94 = some (94, .invokevirtual 153, 3, 227, 3116, 1829) := by decide +kernel
theorem f_325_97 : ftc (PT 325) 97 = some (97, .aload_n 0, 1, 0, 0, 0) := by decide +kernel
theorem f_325_98 : ftc (PT 325) 98 = some (98, .iload 6, 2, 0, 0, 0) := by decide +kernel
theorem f_325_100 : ftc (PT 325) 100 = some (100, .iload_n 2, 1, 0, 0, 0) := by decide +kernel
theorem f_325_101 : ftc (PT 325) 101 = some (101, .i2l, 1, 0, 0, 0) := by decide +kernel
theorem f_325_102 : ftc (PT 325) 102 = some (102, .iload_n 3, 1, 0, 0, 0) := by decide +kernel
theorem f_325_103 : ftc (PT 325) 103 = some (103, .i2l, 1, 0, 0, 0) := by decide +kernel
theorem f_325_104 : ftc (PT 325) 104 = some (104, .invokevirtual 143, 3, 229, 18540, 1837) := by decide +kernel
theorem f_325_107 : ftc (PT 325) 107 = some (107, .aload_n 0, 1, 0, 0, 0) := by decide +kernel
theorem f_325_108 : ftc (PT 325) 108 = some (108, .iconst 0, 1, 0, 0, 0) := by decide +kernel
theorem f_325_109 : ftc (PT 325) 109 = some (109, .aload_n 0, 1, 0, 0, 0) := by decide +kernel
theorem f_325_110 : ftc (PT 325) 110 = some (110, .getfield 16, 3, 12, 5, 1641) := by decide +kernel
theorem f_325_113 : ftc (PT 325) 113 = some (113, .iload 7, 2, 0, 0, 0) := by decide +kernel
theorem f_325_115 : ftc (PT 325) 115 = some (115, .iaload, 1, 0, 0, 0) := by decide +kernel
theorem f_325_116 : ftc (PT 325) 116 = some (116, .i2l, 1, 0, 0, 0) := by decide +kernel
theorem f_325_117 : ftc (PT 325) 117 = some (117, .aload_n 0, 1, 0, 0, 0) := by decide +kernel
theorem f_325_118 : ftc (PT 325) 118 = some (118, .getfield 19, 3, 12, 6, 1642) := by decide +kernel
theorem f_325_121 : ftc (PT 325) 121 = some (121, .iload 7, 2, 0, 0, 0) := by decide +kernel
theorem f_325_123 : ftc (PT 325) 123 = some (123, .iaload, 1, 0, 0, 0) := by decide +kernel
theorem f_325_124 : ftc (PT 325) 124 = some (124, .i2l, 1, 0, 0, 0) := by decide +kernel
theorem f_325_125 : ftc (PT 325) 125 = some (125, .invokevirtual 143, 3, 229, 18540, 1837) := by decide +kernel
theorem f_325_128 : ftc (PT 325) 128 = some (128, .aload_n 0, 1, 0, 0, 0) := by decide +kernel
theorem f_325_129 : ftc (PT 325) 129 = some (129, .iload 6, 2, 0, 0, 0) := by decide +kernel
theorem f_325_131 : ftc (PT 325) 131 = some (131, .iload_n 2, 1, 0, 0, 0) := by decide +kernel
theorem f_325_132 : ftc (PT 325) 132 = some (132, .i2l, 1, 0, 0, 0) := by decide +kernel
theorem f_325_133 : ftc (PT 325) 133 = some (133, .iload_n 3, 1, 0, 0, 0) := by decide +kernel
theorem f_325_134 : ftc (PT 325) 134 = some (134, .i2l, 1, 0, 0, 0) := by decide +kernel
theorem f_325_135 : ftc (PT 325) 135 = some (135, .invokevirtual 143, 3, 229, 18540, 1837) := by decide +kernel
theorem f_325_138 : ftc (PT 325) 138 = some (138, .aload_n 0, 1, 0, 0, 0) := by decide +kernel
theorem f_325_139 : ftc (PT 325) 139 = some (139, .iload 7, 2, 0, 0, 0) := by decide +kernel
theorem f_325_141 : ftc (PT 325) 141 = some (141, .iconst 0, 1, 0, 0, 0) := by decide +kernel
theorem f_325_142 : ftc (PT 325) 142 = some (142, .iconst 0, 1, 0, 0, 0) := by decide +kernel
theorem f_325_143 : ftc (PT 325) 143 = some (143, .invokevirtual 399, 3, 315, 4204, 2178) := by decide +kernel
theorem f_325_146 : ftc (PT 325) 146 = some (146, .iinc 7 1, 3, 0, 0, 0) := by decide +kernel
theorem f_325_149 : ftc (PT 325) 149 = some (149, .goto (-66), 3, 83, 0, 0) := by decide +kernel
theorem f_325_152 : ftc (PT 325) 152 = some (152, .iload 5, 2, 0, 0, 0) := by decide +kernel
theorem f_325_154 : ftc (PT 325) 154 = some (154, .ifCond .ne 15, 3, 169, 0, 0) := by decide +kernel
theorem f_325_157 : ftc (PT 325) 157 = some (157, .aload_n 0, 1, 0, 0, 0) := by decide +kernel
theorem f_325_158 : ftc (PT 325) 158 = some (158, .getfield 16, 3, 12, 5, 1641) := by decide +kernel
theorem f_325_161 : ftc (PT 325) 161 = some (161, .aload_n 0, 1, 0, 0, 0) := by decide +kernel
theorem f_325_162 : ftc (PT 325) 162 = some (162, .getfield 369, 3, 12, 27, 1663) := by decide +kernel
theorem f_325_165 : ftc (PT 325) 165 = some (165, .iaload, 1, 0, 0, 0) := by decide +kernel
theorem f_325_166 : ftc (PT 325) 166 = some (166, .goto 25, 3, 191, 0, 0) := by decide +kernel
theorem f_325_169 : ftc (PT 325) 169 = some (169, .iload 5, 2, 0, 0, 0) := by decide +kernel
theorem f_325_171 : ftc (PT 325) 171 = some (171, .iconst 1, 1, 0, 0, 0) := by decide +kernel
theorem f_325_172 : ftc (PT 325) 172 = some (172, .if_icmp .ne 15, 3, 187, 0, 0) := by decide +kernel
theorem f_325_175 : ftc (PT 325) 175 = some (175, .aload_n 0, 1, 0, 0, 0) := by decide +kernel
theorem f_325_176 : ftc (PT 325) 176 = some (176, .getfield 19, 3, 12, 6, 1642) := by decide +kernel
theorem f_325_179 : ftc (PT 325) 179 = some (179, .aload_n 0, 1, 0, 0, 0) := by decide +kernel
theorem f_325_180 : ftc (PT 325) 180 = some (180, .getfield 369, 3, 12, 27, 1663) := by decide +kernel
theorem f_325_183 : ftc (PT 325) 183 = some (183, .iaload, 1, 0, 0, 0) := by decide +kernel
theorem f_325_184 : ftc (PT 325) 184 = some (184, .goto 7, 3, 191, 0, 0) := by decide +kernel
theorem f_325_187 : ftc (PT 325) 187 = some (187, .aload_n 0, 1, 0, 0, 0) := by decide +kernel
theorem f_325_188 : ftc (PT 325) 188 = some (188, .invokevirtual 425, 3, 319, 1036, 2193) := by decide +kernel
theorem f_325_191 : ftc (PT 325) 191 = some (191, .ireturn, 1, 0, 0, 0) := by decide +kernel
theorem f_326_58 : ftc (PT 326) 58 = some (58, .iload_n 3, 1, 0, 0, 0) := by decide +kernel
theorem f_326_59 : ftc (PT 326) 59 = some (59, .iconst 2, 1, 0, 0, 0) := by decide +kernel
theorem f_326_60 : ftc (PT 326) 60 = some (60, .aload_n 0, 1, 0, 0, 0) := by decide +kernel
theorem f_326_61 : ftc (PT 326) 61 = some (61, .getfield 74, 3, 12, 7, 1643) := by decide +kernel
theorem f_326_64 : ftc (PT 326) 64 = some (64, .imul, 1, 0, 0, 0) := by decide +kernel
theorem f_326_65 : ftc (PT 326) 65 = some (65, .if_icmp .ge 79, 3, 144, 0, 0) := by decide +kernel
theorem f_326_68 : ftc (PT 326) 68 = some (68, .aload_n 0, 1, 0, 0, 0) := by decide +kernel
theorem f_326_69 : ftc (PT 326) 69 = some (69, .iload_n 1, 1, 0, 0, 0) := by decide +kernel
theorem f_326_70 : ftc (PT 326) 70 = some (70, .iload_n 3, 1, 0, 0, 0) := by decide +kernel
theorem f_326_71 : ftc (PT 326) 71 = some (71, .iconst 2, 1, 0, 0, 0) := by decide +kernel
theorem f_326_72 : ftc (PT 326) 72 = some (72, .idiv, 1, 0, 0, 0) := by decide +kernel
theorem f_326_73 : ftc (PT 326) 73 = some (73, .iconst 1, 1, 0, 0, 0) := by decide +kernel
theorem f_326_74 : ftc (PT 326) 74 = some (74, .iload_n 3, 1, 0, 0, 0) := by decide +kernel
theorem f_326_75 : ftc (PT 326) 75 = some (75, .iconst 2, 1, 0, 0, 0) := by decide +kernel
theorem f_326_76 : ftc (PT 326) 76 = some (76, .irem, 1, 0, 0, 0) := by decide +kernel
theorem f_326_77 : ftc (PT 326) 77 = some (77, .isub, 1, 0, 0, 0) := by decide +kernel
theorem f_326_78 : ftc (PT 326) 78 = some (78, .invokevirtual 435, 3, 327, 4204, 2225) := by decide +kernel
theorem f_326_81 : ftc (PT 326) 81 = some (81, .ifCond .ne 6, 3, 87, 0, 0) := by decide +kernel
theorem f_326_84 : ftc (PT 326) 84 = some (84, .goto 54, 3, 138, 0, 0) := by decide +kernel
theorem f_326_87 : ftc (PT 326) 87 = some (87, .aload_n 0, 1, 0, 0, 0) := by decide +kernel
theorem f_326_88 : ftc (PT 326) 88 = some (88, .aload_n 0, 1, 0, 0, 0) := by decide +kernel
theorem f_326_89 : ftc (PT 326) 89 = some (89, .invokevirtual 92, 3, 215, 1036, 1781) := by decide +kernel
theorem f_326_92 : ftc (PT 326) 92 = some (92, .invokevirtual 153, 3, 227, 3116, 1829) := by decide +kernel
theorem f_326_95 : ftc (PT 326) 95 = some (95, .aload_n 0, 1, 0, 0, 0) := by decide +kernel
theorem f_326_96 : ftc (PT 326) 96 = some (96, .iconst 1, 1, 0, 0, 0) := by decide +kernel
theorem f_326_97 : ftc (PT 326) 97 = some (97, .iload_n 3, 1, 0, 0, 0) := by decide +kernel
theorem f_326_98 : ftc (PT 326) 98 = some (98, .iconst 2, 1, 0, 0, 0) := by decide +kernel
theorem f_326_99 : ftc (PT 326) 99 = some (99, .irem, 1, 0, 0, 0) := by decide +kernel
theorem f_326_100 : ftc (PT 326) 100 = some (100, .isub, 1, 0, 0, 0) := by decide +kernel
theorem f_326_101 : ftc (PT 326) 101 = some (101, .invokestatic 396, 3, 314, 1025, 2175) := by decide +kernel
theorem f_326_104 : ftc (PT 326) 104 = some (104, .aload_n 0, 1, 0, 0, 0) := by decide +kernel
theorem f_326_105 : ftc (PT 326) 105 = some (105, .getfield 16, 3, 12, 5, 1641) := by decide +kernel
theorem f_326_108 : ftc (PT 326) 108 = some (108, .iload_n 3, 1, 0, 0, 0) := by decide +kernel
theorem f_326_109 : ftc (PT 326) 109 = some (109, .iconst 2, 1, 0, 0, 0) := by decide +kernel
theorem f_326_110 : ftc (PT 326) 110 = some (110, .idiv, 1, 0, 0, 0) := by decide +kernel
theorem f_326_111 : ftc (PT 326) 111 = some (111, .iaload, 1, 0, 0, 0) := by decide +kernel
theorem f_326_112 : ftc (PT 326) 112 = some (112, .i2l, 1, 0, 0, 0) := by decide +kernel
theorem f_326_113 : ftc (PT 326) 113 = some (113, .aload_n 0, 1, 0, 0, 0) := by decide +kernel
theorem f_326_114 : ftc (PT 326) 114 = some (114, .getfield 19, 3, 12, 6, 1642) := by decide +kernel
theorem f_326_117 : ftc (PT 326) 117 = some (117, .iload_n 3, 1, 0, 0, 0) := by decide +kernel
theorem f_326_118 : ftc (PT 326) 118 = some (118, .iconst 2, 1, 0, 0, 0) := by decide +kernel
theorem f_326_119 : ftc (PT 326) 119 = some (119, .idiv, 1, 0, 0, 0) := by decide +kernel
theorem f_326_120 : ftc (PT 326) 120 = some (120, .iaload, 1, 0, 0, 0) := by decide +kernel
theorem f_326_121 : ftc (PT 326) 121 = some (121, .i2l, 1, 0, 0, 0) := by decide +kernel
theorem f_326_122 : ftc (PT 326) 122 = some (122, .invokevirtual 143, 3, 229, 18540, 1837) := by decide +kernel
theorem f_326_125 : ftc (PT 326) 125 = some (125, .aload_n 0, 1, 0, 0, 0) := by decide +kernel
theorem f_326_126 : ftc (PT 326) 126 = some (126, .iload_n 3, 1, 0, 0, 0) := by decide +kernel
theorem f_326_127 : ftc (PT 326) 127 = some (127, .iconst 2, 1, 0, 0, 0) := by decide +kernel
theorem f_326_128 : ftc (PT 326) 128 = some (128, .idiv, 1, 0, 0, 0) := by decide +kernel
theorem f_326_129 : ftc (PT 326) 129 = some (129, .iconst 1, 1, 0, 0, 0) := by decide +kernel
theorem f_326_130 : ftc (PT 326) 130 = some (130, .iload_n 3, 1, 0, 0, 0) := by decide +kernel
theorem f_326_131 : ftc (PT 326) 131 = some (131, .iconst 2, 1, 0, 0, 0) := by decide +kernel
theorem f_326_132 : ftc (PT 326) 132 = some (132, .irem, 1, 0, 0, 0) := by decide +kernel
theorem f_326_133 : ftc (PT 326) 133 = some (133, .isub, 1, 0, 0, 0) := by decide +kernel
theorem f_326_134 : ftc (PT 326) 134 = some (134, .iconst 0, 1, 0, 0, 0) := by decide +kernel
theorem f_326_135 : ftc (PT 326) 135 = some (135, .invokevirtual 399, 3, 315, 4204, 2178) := by decide +kernel
theorem f_326_138 : ftc (PT 326) 138 = some (138, .iinc 3 1, 3, 0, 0, 0) := by decide +kernel
theorem f_326_141 : ftc (PT 326) 141 = some (141, .goto (-83), 3, 58, 0, 0) := by decide +kernel
theorem f_326_144 : ftc (PT 326) 144 = some (144, .aload_n 0, 1, 0, 0, 0) := by decide +kernel
theorem f_326_145 : ftc (PT 326) 145 = some (145, .getfield 356, 3, 12, 30, 1666) := by decide +kernel
theorem f_326_148 : ftc (PT 326) 148 = some (148, .ifCond .eq 15, 3, 163, 0, 0) := by decide +kernel
theorem f_326_151 : ftc (PT 326) 151 = some (151, .aload_n 0, 1, 0, 0, 0) := by decide +kernel
theorem f_326_152 : ftc (PT 326) 152 = some (152, .getfield 360, 3, 12, 25, 1661) := by decide +kernel
theorem f_326_155 : ftc (PT 326) 155 = some (155, .aload_n 0, 1, 0, 0, 0) := by decide +kernel
theorem f_326_156 : ftc (PT 326) 156 = some (156, .getfield 363, 3, 12, 26, 1662) := by decide +kernel
theorem f_326_159 : ftc (PT 326) 159 = some (159, .lcmp, 1, 0, 0, 0) := by decide +kernel
theorem f_326_160 : ftc (PT 326) 160 = some (160, .ifCond .ne 5, 3, 165, 0, 0) := by decide +kernel
theorem f_326_163 : ftc (PT 326) 163 = some (163, .iconst (-1), 1, 0, 0, 0) := by decide +kernel
theorem f_326_164 : ftc (PT 326) 164 = some (164, .ireturn, 1, 0, 0, 0) := by decide +kernel
theorem f_326_165 : ftc (PT 326) 165 = some (165, .iload_n 2, 1, 0, 0, 0) := by decide +kernel
theorem f_326_166 : ftc (PT 326) 166 = some (166, .ifCond .ne 15, 3, 181, 0, 0) := by decide +kernel
theorem f_326_169 : ftc (PT 326) 169 = some (169, .aload_n 0, 1, 0, 0, 0) := by decide +kernel
theorem f_326_170 : ftc (PT 326) 170 = some (170, .getfield 16, 3, 12, 5, 1641) := by decide +kernel
theorem f_326_173 : ftc (PT 326) 173 = some (173, .aload_n 0, 1, 0, 0, 0) := by decide +kernel
theorem f_326_174 : ftc (PT 326) 174 = some (174, .getfield 369, 3, 12, 27, 1663) := by decide +kernel
theorem f_326_177 : ftc (PT 326) 177 = some (177, .iaload, 1, 0, 0, 0) := by decide +kernel
theorem f_326_178 : ftc (PT 326) 178 = some (178, .goto 36, 3, 214, 0, 0) := by decide +kernel
theorem f_326_181 : ftc (PT 326) 181 = some (181, .iload_n 2, 1, 0, 0, 0) := by decide +kernel
theorem f_326_182 : ftc (PT 326) 182 = some (182, .iconst 1, 1, 0, 0, 0) := by decide +kernel
theorem f_326_183 : ftc (PT 326) 183 = some (183, .if_icmp .ne 15, 3, 198, 0, 0) := by decide +kernel
theorem f_326_186 : ftc (PT 326) 186 = some (186, .aload_n 0, 1, 0, 0, 0) := by decide +kernel
theorem f_326_187 : ftc (PT 326) 187 = some (187, .getfield 19, 3, 12, 6, 1642) := by decide +kernel
theorem f_326_190 : ftc (PT 326) 190 = some (190, .aload_n 0, 1, 0, 0, 0) := by decide +kernel
theorem f_326_191 : ftc (PT 326) 191 = some (191, .getfield 369, 3, 12, 27, 1663) := by decide +kernel
theorem f_326_194 : ftc (PT 326) 194 = some (194, .iaload, 1, 0, 0, 0) := by decide +kernel
theorem f_326_195 : ftc (PT 326) 195 = some (195, .goto 19, 3, 214, 0, 0) := by decide +kernel
theorem f_326_198 : ftc (PT 326) 198 = some (198, .iload_n 2, 1, 0, 0, 0) := by decide +kernel
theorem f_326_199 : ftc (PT 326) 199 = some (199, .iconst 2, 1, 0, 0, 0) := by decide +kernel
theorem f_326_200 : ftc (PT 326) 200 = some (200, .if_icmp .ne 10, 3, 210, 0, 0) := by decide +kernel
theorem f_326_203 : ftc (PT 326) 203 = some (203, .aload_n 0, 1, 0, 0, 0) := by decide +kernel
theorem f_326_204 : ftc (PT 326) 204 = some (204, .getfield 372, 3, 12, 28, 1664) := by decide +kernel
theorem f_326_207 : ftc (PT 326) 207 = some (207, .goto 7, 3, 214, 0, 0) := by decide +kernel
theorem f_326_210 : ftc (PT 326) 210 = some (210, .aload_n 0, 1, 0, 0, 0) := by decide +kernel
theorem f_326_211 : ftc (PT 326) 211 = some (211, .invokevirtual 425, 3, 319, 1036, 2193) := by decide +kernel
theorem f_326_214 : ftc (PT 326) 214 = some (214, .ireturn, 1, 0, 0, 0) := by decide +kernel
theorem f_327_0 : ftc (PT 327) 0 = some (0, .aload_n 0, 1, 0, 0, 0) := by decide +kernel
theorem f_327_1 : ftc (PT 327) 1 = some (1, .aload_n 0, 1, 0, 0, 0) := by decide +kernel
theorem f_327_2 : ftc (PT 327) 2 = some (2, .getfield 16, 3, 12, 5, 1641) := by decide +kernel
theorem f_327_5 : ftc (PT 327) 5 = some (5, .iload_n 2, 1, 0, 0, 0) := by decide +kernel
theorem f_327_6 : ftc (PT 327) 6 = some (6, .iaload, 1, 0, 0, 0) := by decide +kernel
theorem f_327_7 : ftc (PT 327) 7 = some (7, .i2l, 1, 0, 0, 0) := by decide +kernel
theorem f_327_8 : ftc (PT 327) 8 = some (8, .aload_n 0, 1, 0, 0, 0) := by decide +kernel
theorem f_327_9 : ftc (PT 327) 9 = some (9, .getfield 19, 3, 12, 6, 1642) := by decide +kernel
theorem f_327_12 : ftc (PT 327) 12 = some (12, .iload_n 2, 1, 0, 0, 0) := by decide +kernel
theorem f_327_13 : ftc (PT 327) 13 = some (13, .iaload, 1, 0, 0, 0) := by decide +kernel
theorem f_327_14 : ftc (PT 327) 14 = some (14, .i2l, 1, 0, 0, 0) := by decide +kernel
theorem f_327_15 : ftc (PT 327) 15 = some (15, .iload_n 1, 1, 0, 0, 0) := by decide +kernel
theorem f_327_16 : ftc (PT 327) 16 = some (16, .invokevirtual 185, 3, 245, 7276, 1896) := by decide +kernel
theorem f_327_19 : ftc (PT 327) 19 = some (19, .iload_n 3, 1, 0, 0, 0) := by decide +kernel
theorem f_327_20 : ftc (PT 327) 20 = some (20, .iconst 1, 1, 0, 0, 0) := by decide +kernel
theorem f_327_21 : ftc (PT 327) 21 = some (21, .if_icmp .ne 20, 3, 41, 0, 0) := by decide +kernel
theorem f_327_24 : ftc (PT 327) 24 = some (24, .aload_n 0, 1, 0, 0, 0) := by decide +kernel
theorem f_327_25 : ftc (PT 327) 25 = some (25, .getfield 85, 3, 12, 9, 1645) := by decide +kernel
theorem f_327_28 : ftc (PT 327) 28 = some (28, .lconst 0, 1, 0, 0, 0) := by decide +kernel
theorem f_327_29 : ftc (PT 327) 29 = some (29, .lcmp, 1, 0, 0, 0) := by decide +kernel
theorem f_327_30 : ftc (PT 327) 30 = some (30, .ifCond .ne 7, 3, 37, 0, 0) := by decide +kernel
theorem f_327_33 : ftc (PT 327) 33 = some (33, .iconst 1, 1, 0, 0, 0) := by decide +kernel
theorem f_327_34 : ftc (PT 327) 34 = some (34, .goto 21, 3, 55, 0, 0) := by decide +kernel
theorem f_327_37 : ftc (PT 327) 37 = some (37, .iconst 0, 1, 0, 0, 0) := by decide +kernel
theorem f_327_38 : ftc (PT 327) 38 = some (38, .goto 17, 3, 55, 0, 0) := by decide +kernel
theorem f_327_41 : ftc (PT 327) 41 = some (41, .aload_n 0, 1, 0, 0, 0) := by decide +kernel
theorem f_327_42 : ftc (PT 327) 42 = some (42, .getfield 81, 3, 12, 8, 1644) := by decide +kernel
theorem f_327_45 : ftc (PT 327) 45 = some (45, .lconst 0, 1, 0, 0, 0) := by decide +kernel
theorem f_327_46 : ftc (PT 327) 46 = some (46, .lcmp, 1, 0, 0, 0) := by decide +kernel
theorem f_327_47 : ftc (PT 327) 47 = some (47, .ifCond .ne 7, 3, 54, 0, 0) := by decide +kernel
theorem f_327_50 : ftc (PT 327) 50 = some (50, .iconst 1, 1, 0, 0, 0) := by decide +kernel
theorem f_327_51 : ftc (PT 327) 51 = some (51, .goto 4, 3, 55, 0, 0) := by decide +kernel
theorem f_327_54 : ftc (PT 327) 54 = some (54, .iconst 0, 1, 0, 0, 0) := by decide +kernel
theorem f_327_55 : ftc (PT 327) 55 = some (55, .ireturn, 1, 1, 0, 0) := by decide +kernel
theorem f_328_17 : ftc (PT 328) 17 = some (17, .iload_n 1, 1, 0, 0, 0) := by decide +kernel
theorem f_328_18 : ftc (PT 328) 18 = some (18, .invokestatic 438, 3, 331, 2050, 2241) := by decide +kernel
theorem f_328_21 : ftc (PT 328) 21 = some (21, .goto 4, 3, 25, 0, 0) := by decide +kernel
theorem f_328_25 : ftc (PT 328) 25 = some (25, .ireturn, 1, 0, 0, 0) := by decide +kernel
theorem f_329_0 : ftc (PT 329) 0 = some (0, .aload_n 0, 1, 0, 0, 0) := by decide +kernel
theorem f_329_1 : ftc (PT 329) 1 = some (1, .invokevirtual 384, 3, 311, 1036, 2163) := by decide +kernel
theorem f_329_4 : ftc (PT 329) 4 = some (4, .iconst 0, 1, 0, 0, 0) := by decide +kernel
theorem f_329_5 : ftc (PT 329) 5 = some (5, .istore_n 1, 1, 0, 0, 0) := by decide +kernel
theorem f_329_6 : ftc (PT 329) 6 = some (6, .iload_n 1, 1, 0, 0, 0) := by decide +kernel
theorem f_329_7 : ftc (PT 329) 7 = some (7, .sipush 256, 3, 0, 0, 0) := by decide +kernel
theorem f_329_10 : ftc (PT 329) 10 = some (10, .if_icmp .ge 102, 3, 112, 0, 0) := by decide +kernel
theorem f_329_13 : ftc (PT 329) 13 = some (13, .aload_n 0, 1, 0, 0, 0) := by decide +kernel
theorem f_329_14 : ftc (PT 329) 14 = some (14, .iload_n 1, 1, 0, 0, 0) := by decide +kernel
theorem f_329_15 : ftc (PT 329) 15 = some (15, .invokevirtual 442, 3, 330, 5164, 2237) := by decide +kernel
theorem f_329_18 : ftc (PT 329) 18 = some (18, .ifCond .ne 6, 3, 24, 0, 0) := by decide +kernel
theorem f_329_21 : ftc (PT 329) 21 = some (21, .goto 85, 3, 106, 0, 0) := by decide +kernel
theorem f_329_24 : ftc (PT 329) 24 = some (24, .aload_n 0, 1, 0, 0, 0) := by decide +kernel
theorem f_329_25 : ftc (PT 329) 25 = some (25, .aload_n 0, 1, 0, 0, 0) := by decide +kernel
theorem f_329_26 : ftc (PT 329) 26 = some (26, .getfield 7, 3, 12, 1, 1637) := by decide +kernel
theorem f_329_29 : ftc (PT 329) 29 = some (29, .iconst 0, 1, 0, 0, 0) := by decide +kernel
theorem f_329_30 : ftc (PT 329) 30 = some (30, .iaload, 1, 0, 0, 0) := by decide +kernel
theorem f_329_31 : ftc (PT 329) 31 = some (31, .i2l, 1, 0, 0, 0) := by decide +kernel
theorem f_329_32 : ftc (PT 329) 32 = some (32, .aload_n 0, 1, 0, 0, 0) := by decide +kernel
theorem f_329_33 : ftc (PT 329) 33 = some (33, .getfield 7, 3, 12, 1, 1637) := by decide +kernel
theorem f_329_36 : ftc (PT 329) 36 = some (36, .iconst 1, 1, 0, 0, 0) := by decide +kernel
theorem f_329_37 : ftc (PT 329) 37 = some (37, .iaload, 1, 0, 0, 0) := by decide +kernel
theorem f_329_38 : ftc (PT 329) 38 = some (38, .i2l, 1, 0, 0, 0) := by decide +kernel
theorem f_329_39 : ftc (PT 329) 39 = some (39, .aload_n 0, 1, 0, 0, 0) := by decide +kernel
theorem f_329_40 : ftc (PT 329) 40 = some (40, .getfield 7, 3, 12, 1, 1637) := by decide +kernel
theorem f_329_43 : ftc (PT 329) 43 = some (43, .iconst 2, 1, 0, 0, 0) := by decide +kernel
theorem f_329_44 : ftc (PT 329) 44 = some (44, .iaload, 1, 0, 0, 0) := by decide +kernel
theorem f_329_45 : ftc (PT 329) 45 = some (45, .i2l, 1, 0, 0, 0) := by decide +kernel
theorem f_329_46 : ftc (PT 329) 46 = some (46, .lconst 0, 1, 0, 0, 0) := by decide +kernel
theorem f_329_47 : ftc (PT 329) 47 = some (47, .invokevirtual 129, 3, 228, 11404, 1833) := by decide +kernel
theorem f_329_50 : ftc (PT 329) 50 = some (50, .iconst 0, 1, 0, 0, 0) := by decide +kernel
theorem f_329_51 : ftc (PT 329) 51 = some (51, .istore_n 2, 1, 0, 0, 0) := by decide +kernel
theorem f_329_52 : ftc (PT 329) 52 = some (52, .iload_n 2, 1, 0, 0, 0) := by decide +kernel
theorem f_329_53 : ftc (PT 329) 53 = some (53, .aload_n 0, 1, 0, 0, 0) := by decide +kernel
theorem f_329_54 : ftc (PT 329) 54 = some (54, .invokevirtual 92, 3, 215, 1036, 1781) := by decide +kernel
theorem f_329_57 : ftc (PT 329) 57 = some (57, .if_icmp .ge 42, 3, 99, 0, 0) := by decide +kernel
theorem f_329_60 : ftc (PT 329) 60 = some (60, .aload_n 0, 1, 0, 0, 0) := by decide +kernel
theorem f_329_61 : ftc (PT 329) 61 = some (61, .aload_n 0, 1, 0, 0, 0) := by decide +kernel
theorem f_329_62 : ftc (PT 329) 62 = some (62, .iload_n 1, 1, 0, 0, 0) := by decide +kernel
theorem f_329_63 : ftc (PT 329) 63 = some (63, .iload_n 2, 1, 0, 0, 0) := by decide +kernel
theorem f_329_64 : ftc (PT 329) 64 = some (64, .invokestatic 438, 3, 331, 2050, 2241) := by decide +kernel
theorem f_329_67 : ftc (PT 329) 67 = some (67, .invokevirtual 104, 3, 220, 2092, 1801) := by decide +kernel
theorem f_329_70 : ftc (PT 329) 70 = some (70, .aload_n 0, 1, 0, 0, 0) := by decide +kernel
theorem f_329_71 : ftc (PT 329) 71 = some (71, .iload_n 1, 1, 0, 0, 0) := by decide +kernel
theorem f_329_72 : ftc (PT 329) 72 = some (72, .iload_n 2, 1, 0, 0, 0) := by decide +kernel
theorem f_329_73 : ftc (PT 329) 73 = some (73, .invokestatic 438, 3, 331, 2050, 2241) := by decide +kernel
theorem f_329_76 : ftc (PT 329) 76 = some (76, .invokevirtual 108, 3, 223, 2092, 1813) := by decide +kernel
theorem f_329_79 : ftc (PT 329) 79 = some (79, .i2l, 1, 0, 0, 0) := by decide +kernel
theorem f_329_80 : ftc (PT 329) 80 = some (80, .aload_n 0, 1, 0, 0, 0) := by decide +kernel
theorem f_329_81 : ftc (PT 329) 81 = some (81, .iload_n 1, 1, 0, 0, 0) := by decide +kernel
theorem f_329_82 : ftc (PT 329) 82 = some (82, .iload_n 2, 1, 0, 0, 0) := by decide +kernel
theorem f_329_83 : ftc (PT 329) 83 = some (83, .invokestatic 438, 3, 331, 2050, 2241) := by decide +kernel
theorem f_329_86 : ftc (PT 329) 86 = some (86, .invokevirtual 111, 3, 224, 2092, 1817) := by decide +kernel
theorem f_329_89 : ftc (PT 329) 89 = some (89, .i2l, 1, 0, 0, 0) := by decide +kernel
theorem f_329_90 : ftc (PT 329) 90 = some (90, .invokevirtual 143, 3, 229, 18540, 1837) := by decide +kernel
theorem f_329_93 : ftc (PT 329) 93 = some (93, .iinc 2 1, 3, 0, 0, 0) := by decide +kernel
theorem f_329_96 : ftc (PT 329) 96 = some (96, .goto (-44), 3, 52, 0, 0) := by decide +kernel
theorem f_329_99 : ftc (PT 329) 99 = some (99, .aload_n 0, 1, 0, 0, 0) := by decide +kernel
theorem f_329_100 : ftc (PT 329) 100 = some (100, .iload_n 1, 1, 0, 0, 0) := by decide +kernel
theorem f_329_101 : ftc (PT 329) 101 = some (101, .iconst 0, 1, 0, 0, 0) := by decide +kernel
theorem f_329_102 : ftc (PT 329) 102 = some (102, .iconst 0, 1, 0, 0, 0) := by decide +kernel
theorem f_329_103 : ftc (PT 329) 103 = some (103, .invokevirtual 399, 3, 315, 4204, 2178) := by decide +kernel
theorem f_329_106 : ftc (PT 329) 106 = some (106, .iinc 1 1, 3, 0, 0, 0) := by decide +kernel
theorem f_329_109 : ftc (PT 329) 109 = some (109, .goto (-103), 3, 6, 0, 0) := by decide +kernel
theorem f_329_112 : ftc (PT 329) 112 = some (112, .aload_n 0, 1, 0, 0, 0) := by decide +kernel
theorem f_329_113 : ftc (PT 329) 113 = some (113, .getfield 369, 3, 12, 27, 1663) := by decide +kernel
theorem f_329_116 : ftc (PT 329) 116 = some (116, .ireturn, 1, 0, 0, 0) := by decide +kernel
theorem f_330_0 : ftc (PT 330) 0 = some (0, .iconst 0, 1, 0, 0, 0) := by decide +kernel
theorem f_330_1 : ftc (PT 330) 1 = some (1, .istore_n 2, 1, 0, 0, 0) := by decide +kernel
theorem f_330_2 : ftc (PT 330) 2 = some (2, .iconst 0, 1, 0, 0, 0) := by decide +kernel
theorem f_330_3 : ftc (PT 330) 3 = some (3, .istore_n 3, 1, 0, 0, 0) := by decide +kernel
theorem f_330_4 : ftc (PT 330) 4 = some (4, .iload_n 3, 1, 0, 0, 0) := by decide +kernel
theorem f_330_5 : ftc (PT 330) 5 = some (5, .iconst 4, 1, 0, 0, 0) := by decide +kernel
theorem f_330_6 : ftc (PT 330) 6 = some (6, .if_icmp .ge 69, 3, 75, 0, 0) := by decide +kernel
theorem f_330_9 : ftc (PT 330) 9 = some (9, .iload_n 1, 1, 0, 0, 0) := by decide +kernel
theorem f_330_10 : ftc (PT 330) 10 = some (10, .iload_n 3, 1, 0, 0, 0) := by decide +kernel
theorem f_330_11 : ftc (PT 330) 11 = some (11, .invokestatic 438, 3, 331, 2050, 2241) := by decide +kernel
theorem f_330_14 : ftc (PT 330) 14 = some (14, .istore 4, 2, 0, 0, 0) := by decide +kernel
theorem f_330_16 : ftc (PT 330) 16 = some (16, .iload_n 3, 1, 0, 0, 0) := by decide +kernel
theorem f_330_17 : ftc (PT 330) 17 = some (17, .aload_n 0, 1, 0, 0, 0) := by decide +kernel
theorem f_330_18 : ftc (PT 330) 18 = some (18, .invokevirtual 92, 3, 215, 1036, 1781) := by decide +kernel
theorem f_330_21 : ftc (PT 330) 21 = some (21, .if_icmp .lt 7, 3, 28, 0, 0) := by decide +kernel
theorem f_330_24 : ftc (PT 330) 24 = some (24, .iconst 1, 1, 0, 0, 0) := by decide +kernel
theorem f_330_25 : ftc (PT 330) 25 = some (25, .goto 4, 3, 29, 0, 0) := by decide +kernel
theorem f_330_28 : ftc (PT 330) 28 = some (28, .iconst 0, 1, 0, 0, 0) := by decide +kernel
theorem f_330_29 : ftc (PT 330) 29 = some (29, .iload 4, 2, 0, 0, 0) := by decide +kernel
theorem f_330_31 : ftc (PT 330) 31 = some (31, .aload_n 0, 1, 0, 0, 0) := by decide +kernel
theorem f_330_32 : ftc (PT 330) 32 = some (32, .invokevirtual 92, 3, 215, 1036, 1781) := by decide +kernel
theorem f_330_35 : ftc (PT 330) 35 = some (35, .if_icmp .lt 7, 3, 42, 0, 0) := by decide +kernel
theorem f_330_38 : ftc (PT 330) 38 = some (38, .iconst 1, 1, 0, 0, 0) := by decide +kernel
theorem f_330_39 : ftc (PT 330) 39 = some (39, .goto 4, 3, 43, 0, 0) := by decide +kernel
theorem f_330_42 : ftc (PT 330) 42 = some (42, .iconst 0, 1, 0, 0, 0) := by decide +kernel
theorem f_330_43 : ftc (PT 330) 43 = some (43, .if_icmp .ne 17, 3, 60, 0, 0) := by decide +kernel
theorem f_330_46 : ftc (PT 330) 46 = some (46, .iload_n 3, 1, 0, 0, 0) := by decide +kernel
theorem f_330_47 : ftc (PT 330) 47 = some (47, .aload_n 0, 1, 0, 0, 0) := by decide +kernel
theorem f_330_48 : ftc (PT 330) 48 = some (48, .invokevirtual 92, 3, 215, 1036, 1781) := by decide +kernel
theorem f_330_51 : ftc (PT 330) 51 = some (51, .if_icmp .lt 11, 3, 62, 0, 0) := by decide +kernel
theorem f_330_54 : ftc (PT 330) 54 = some (54, .iload 4, 2, 0, 0, 0) := by decide +kernel
theorem f_330_56 : ftc (PT 330) 56 = some (56, .iload_n 3, 1, 0, 0, 0) := by decide +kernel
theorem f_330_57 : ftc (PT 330) 57 = some (57, .if_icmp .eq 5, 3, 62, 0, 0) := by decide +kernel
theorem f_330_60 : ftc (PT 330) 60 = some (60, .iconst 0, 1, 0, 0, 0) := by decide +kernel
theorem f_330_61 : ftc (PT 330) 61 = some (61, .ireturn, 1, 1, 0, 0) := by decide +kernel
theorem f_330_62 : ftc (PT 330) 62 = some (62, .iload_n 2, 1, 0, 0, 0) := by decide +kernel
theorem f_330_63 : ftc (PT 330) 63 = some (63, .iconst 1, 1, 0, 0, 0) := by decide +kernel
theorem f_330_64 : ftc (PT 330) 64 = some (64, .iload 4, 2, 0, 0, 0) := by decide +kernel
theorem f_330_66 : ftc (PT 330) 66 = some (66, .ishl, 1, 0, 0, 0) := by decide +kernel
theorem f_330_67 : ftc (PT 330) 67 = some (67, .ior, 1, 0, 0, 0) := by decide +kernel
theorem f_330_68 : ftc (PT 330) 68 = some (68, .istore_n 2, 1, 0, 0, 0) := by decide +kernel
theorem f_330_69 : ftc (PT 330) 69 = some (69, .iinc 3 1, 3, 0, 0, 0) := by decide +kernel
theorem f_330_72 : ftc (PT 330) 72 = some (72, .goto (-68), 3, 4, 0, 0) := by decide +kernel
theorem f_330_75 : ftc (PT 330) 75 = some (75, .iload_n 2, 1, 0, 0, 0) := by decide +kernel
theorem f_330_76 : ftc (PT 330) 76 = some (76, .bipush 15, 2, 0, 0, 0) := by decide +kernel
theorem f_330_78 : ftc (PT 330) 78 = some (78, .if_icmp .ne 7, 3, 85, 0, 0) := by decide +kernel
theorem f_330_81 : ftc (PT 330) 81 = some (81, .iconst 1, 1, 0, 0, 0) := by decide +kernel
theorem f_330_82 : ftc (PT 330) 82 = some (82, .goto 4, 3, 86, 0, 0) := by decide +kernel
theorem f_330_85 : ftc (PT 330) 85 = some (85, .iconst 0, 1, 0, 0, 0) := by decide +kernel
theorem f_330_86 : ftc (PT 330) 86 = some (86, .ireturn, 1, 1, 0, 0) := by decide +kernel
theorem f_331_0 : ftc (PT 331) 0 = some (0, .iload_n 0, 1, 0, 0, 0) := by decide +kernel
theorem f_331_1 : ftc (PT 331) 1 = some (1, .iconst 2, 1, 0, 0, 0) := by decide +kernel
theorem f_331_2 : ftc (PT 331) 2 = some (2, .iconst 3, 1, 0, 0, 0) := by decide +kernel
theorem f_331_3 : ftc (PT 331) 3 = some (3, .iload_n 1, 1, 0, 0, 0) := by decide +kernel
theorem f_331_4 : ftc (PT 331) 4 = some (4, .isub, 1, 0, 0, 0) := by decide +kernel
theorem f_331_5 : ftc (PT 331) 5 = some (5, .imul, 1, 0, 0, 0) := by decide +kernel
theorem f_331_6 : ftc (PT 331) 6 = some (6, .ishr, 1, 0, 0, 0) := by decide +kernel
theorem f_331_7 : ftc (PT 331) 7 = some (7, .iconst 3, 1, 0, 0, 0) := by decide +kernel
theorem f_331_8 : ftc (PT 331) 8 = some (8, .iand, 1, 0, 0, 0) := by decide +kernel
theorem f_331_9 : ftc (PT 331) 9 = some (9, .ireturn, 1, 0, 0, 0) := by decide +kernel
set_option maxRecDepth 10000 in
set_option maxHeartbeats 4000000 in
theorem s_305_99 {Lx : Nat} {I : Mi} {L : Ml} {e : Nat} {Q : Kq} {x2 : Int32} {x3 : Int32} {x4 : Int32} {x5 : Int32} {x6 : Int32} {x7 : Int32} (h :
    (inb x7 184 (
     (inb x7 184 (
      Wp 229 0 [(0, .ref 58), (1, .int (Int32.ofInt 0)), (2, .long (I 61 x7.toNatClampNeg).toInt64), (4, .long (I 62 x7.toNatClampNeg).toInt64)] [] (gE Lx) I L e (kcp (Wp 305) 305 117 0 [(0, .ref 58), (2, .int x2), (3, .int x3), (4, .int x4), (5, .int x5), (6, .int x6), (7, .int x7)] 71 [] Q))
     False))
    False)) :
    Wp 305 99 [(0, .ref 58), (2, .int x2), (3, .int x3), (4, .int x4), (5, .int x5), (6, .int x6), (7, .int x7)] [] (gE Lx) I L e Q := by
  refine w_a f_305_99 ?_
  refine w_a f_305_100 ?_
  refine w_a f_305_101 ?_
  refine w_a f_305_102 ?_
  refine w_a f_305_105 ?_
  refine w_a f_305_107 ?_
  refine n_m (fun h => ?_) h
  refine w_a f_305_108 ?_
  refine w_a f_305_109 ?_
  refine w_a f_305_110 ?_
  refine w_a f_305_113 ?_
  refine w_a f_305_115 ?_
  refine n_m (fun h => ?_) h
  refine w_a f_305_116 ?_
  exact w_c (ks := [0, 2, 3, 4, 5, 6, 7]) f_305_117 rfl rfl h
set_option maxRecDepth 10000 in
set_option maxHeartbeats 4000000 in
theorem s_305_120 {Lx : Nat} {I : Mi} {L : Ml} {e : Nat} {Q : Kq} {x2 : Int32} {x3 : Int32} {x4 : Int32} {x5 : Int32} {x6 : Int32} {x7 : Int32} (h :
    (if x2 = 0 then
     (if (Int64.ofInt 0) < (((L 58 10) * (L 58 10)) + ((L 58 11) * (L 58 11))) then
      (if ((((L 58 10) * (L 58 12)) + ((L 58 11) * (L 58 13))) * x5.toInt64) < ((((L 58 10) * (L 58 10)) + ((L 58 11) * (L 58 11))) * x4.toInt64) then
       Wp 305 73 [(0, .ref 58), (2, .int x2), (3, .int x3), (4, .int x4), (5, .int x5), (6, .int (x6 + (Int32.ofInt 0))), (7, .int (x7 + Int32.ofInt 1))] [] (gE Lx) I L e Q
      else
       Wp 305 73 [(0, .ref 58), (2, .int x2), (3, .int x3), (4, .int x4), (5, .int x5), (6, .int (x6 + (Int32.ofInt 1))), (7, .int (x7 + Int32.ofInt 1))] [] (gE Lx) I L e Q)
     else
      Wp 305 73 [(0, .ref 58), (2, .int x2), (3, .int x3), (4, .int x4), (5, .int x5), (6, .int (x6 + (Int32.ofInt 0))), (7, .int (x7 + Int32.ofInt 1))] [] (gE Lx) I L e Q)
    else
     (if (Int64.ofInt 0) < (((L 58 12) * (L 58 12)) + ((L 58 13) * (L 58 13))) then
      (if ((((L 58 10) * (L 58 12)) + ((L 58 11) * (L 58 13))) * x5.toInt64) < ((((L 58 12) * (L 58 12)) + ((L 58 13) * (L 58 13))) * x4.toInt64) then
       Wp 305 73 [(0, .ref 58), (2, .int x2), (3, .int x3), (4, .int x4), (5, .int x5), (6, .int (x6 + (Int32.ofInt 0))), (7, .int (x7 + Int32.ofInt 1))] [] (gE Lx) I L e Q
      else
       Wp 305 73 [(0, .ref 58), (2, .int x2), (3, .int x3), (4, .int x4), (5, .int x5), (6, .int (x6 + (Int32.ofInt 1))), (7, .int (x7 + Int32.ofInt 1))] [] (gE Lx) I L e Q)
     else
      Wp 305 73 [(0, .ref 58), (2, .int x2), (3, .int x3), (4, .int x4), (5, .int x5), (6, .int (x6 + (Int32.ofInt 0))), (7, .int (x7 + Int32.ofInt 1))] [] (gE Lx) I L e Q))) :
    Wp 305 120 [(0, .ref 58), (2, .int x2), (3, .int x3), (4, .int x4), (5, .int x5), (6, .int x6), (7, .int x7)] [] (gE Lx) I L e Q := by
  refine w_a f_305_120 ?_
  refine w_a f_305_121 ?_
  refine w_a f_305_122 ?_
  refine w_a (ls := [(0, .ref 58), (1, .int x2)]) f_278_0 ?_
  refine w_a f_278_1 ?_
  refine i_m (fun h => ?_) (fun h => ?_) h
  · refine w_a f_278_18 ?_
    refine w_a f_278_19 ?_
    refine w_a f_278_22 ?_
    refine w_a f_278_23 ?_
    refine w_a f_278_26 ?_
    refine w_a (ls := [(0, .long (L 58 10)), (2, .long (L 58 11))]) f_235_0 ?_
    refine w_a f_235_1 ?_
    refine w_a f_235_2 ?_
    refine w_a f_235_3 ?_
    refine w_a f_235_4 ?_
    refine w_a f_235_5 ?_
    refine w_a f_235_6 ?_
    refine w_a f_235_7 ?_
    refine w_a (ls := [(0, .ref 58), (1, .int x2)]) f_278_29 ?_
    refine w_a (ls := [(0, .ref 58), (2, .int x2), (3, .int x3), (4, .int x4), (5, .int x5), (6, .int x6), (7, .int x7)]) f_305_125 ?_
    refine w_a (ls := [(8, .long (((L 58 10) * (L 58 10)) + ((L 58 11) * (L 58 11)))), (0, .ref 58), (2, .int x2), (3, .int x3), (4, .int x4), (5, .int x5), (6, .int x6), (7, .int x7)]) f_305_127 ?_
    refine w_a f_305_129 ?_
    refine w_a f_305_131 ?_
    refine w_a f_305_132 ?_
    refine i_m (fun h => ?_) (fun h => ?_) h
    · refine w_a f_305_136 ?_
      refine w_a f_305_137 ?_
      refine w_a (ls := [(0, .ref 58)]) f_277_0 ?_
      refine w_a f_277_1 ?_
      refine w_a f_277_4 ?_
      refine w_a f_277_5 ?_
      refine w_a f_277_8 ?_
      refine w_a f_277_9 ?_
      refine w_a f_277_10 ?_
      refine w_a f_277_13 ?_
      refine w_a f_277_14 ?_
      refine w_a f_277_17 ?_
      refine w_a f_277_18 ?_
      refine w_a f_277_19 ?_
      refine w_a (ls := [(8, .long (((L 58 10) * (L 58 10)) + ((L 58 11) * (L 58 11)))), (0, .ref 58), (2, .int x2), (3, .int x3), (4, .int x4), (5, .int x5), (6, .int x6), (7, .int x7)]) f_305_140 ?_
      refine w_a f_305_142 ?_
      refine w_a f_305_143 ?_
      refine w_a f_305_144 ?_
      refine w_a f_305_146 ?_
      refine w_a f_305_148 ?_
      refine w_a f_305_149 ?_
      refine w_a f_305_150 ?_
      refine i_m (fun h => ?_) (fun h => ?_) h
      · refine w_a f_305_158 ?_
        refine w_a f_305_159 ?_
        refine w_a f_305_160 ?_
        refine w_a (ls := [(6, .int (x6 + (Int32.ofInt 0))), (8, .long (((L 58 10) * (L 58 10)) + ((L 58 11) * (L 58 11)))), (0, .ref 58), (2, .int x2), (3, .int x3), (4, .int x4), (5, .int x5), (7, .int x7)]) f_305_162 ?_
        refine w_a (ls := [(7, .int (x7 + Int32.ofInt 1)), (6, .int (x6 + (Int32.ofInt 0))), (8, .long (((L 58 10) * (L 58 10)) + ((L 58 11) * (L 58 11)))), (0, .ref 58), (2, .int x2), (3, .int x3), (4, .int x4), (5, .int x5)]) f_305_165 ?_
        exact w_n (ks := [0, 2, 3, 4, 5, 6, 7]) rfl h
      · refine w_a f_305_154 ?_
        refine w_a f_305_155 ?_
        refine w_a f_305_159 ?_
        refine w_a f_305_160 ?_
        refine w_a (ls := [(6, .int (x6 + (Int32.ofInt 1))), (8, .long (((L 58 10) * (L 58 10)) + ((L 58 11) * (L 58 11)))), (0, .ref 58), (2, .int x2), (3, .int x3), (4, .int x4), (5, .int x5), (7, .int x7)]) f_305_162 ?_
        refine w_a (ls := [(7, .int (x7 + Int32.ofInt 1)), (6, .int (x6 + (Int32.ofInt 1))), (8, .long (((L 58 10) * (L 58 10)) + ((L 58 11) * (L 58 11)))), (0, .ref 58), (2, .int x2), (3, .int x3), (4, .int x4), (5, .int x5)]) f_305_165 ?_
        exact w_n (ks := [0, 2, 3, 4, 5, 6, 7]) rfl h
    · refine w_a f_305_158 ?_
      refine w_a f_305_159 ?_
      refine w_a f_305_160 ?_
      refine w_a (ls := [(6, .int (x6 + (Int32.ofInt 0))), (8, .long (((L 58 10) * (L 58 10)) + ((L 58 11) * (L 58 11)))), (0, .ref 58), (2, .int x2), (3, .int x3), (4, .int x4), (5, .int x5), (7, .int x7)]) f_305_162 ?_
      refine w_a (ls := [(7, .int (x7 + Int32.ofInt 1)), (6, .int (x6 + (Int32.ofInt 0))), (8, .long (((L 58 10) * (L 58 10)) + ((L 58 11) * (L 58 11)))), (0, .ref 58), (2, .int x2), (3, .int x3), (4, .int x4), (5, .int x5)]) f_305_165 ?_
      exact w_n (ks := [0, 2, 3, 4, 5, 6, 7]) rfl h
  · refine w_a f_278_4 ?_
    refine w_a f_278_5 ?_
    refine w_a f_278_8 ?_
    refine w_a f_278_9 ?_
    refine w_a f_278_12 ?_
    refine w_a (ls := [(0, .long (L 58 12)), (2, .long (L 58 13))]) f_235_0 ?_
    refine w_a f_235_1 ?_
    refine w_a f_235_2 ?_
    refine w_a f_235_3 ?_
    refine w_a f_235_4 ?_
    refine w_a f_235_5 ?_
    refine w_a f_235_6 ?_
    refine w_a f_235_7 ?_
    refine w_a (ls := [(0, .ref 58), (1, .int x2)]) f_278_15 ?_
    refine w_a f_278_29 ?_
    refine w_a (ls := [(0, .ref 58), (2, .int x2), (3, .int x3), (4, .int x4), (5, .int x5), (6, .int x6), (7, .int x7)]) f_305_125 ?_
    refine w_a (ls := [(8, .long (((L 58 12) * (L 58 12)) + ((L 58 13) * (L 58 13)))), (0, .ref 58), (2, .int x2), (3, .int x3), (4, .int x4), (5, .int x5), (6, .int x6), (7, .int x7)]) f_305_127 ?_
    refine w_a f_305_129 ?_
    refine w_a f_305_131 ?_
    refine w_a f_305_132 ?_
    refine i_m (fun h => ?_) (fun h => ?_) h
    · refine w_a f_305_136 ?_
      refine w_a f_305_137 ?_
      refine w_a (ls := [(0, .ref 58)]) f_277_0 ?_
      refine w_a f_277_1 ?_
      refine w_a f_277_4 ?_
      refine w_a f_277_5 ?_
      refine w_a f_277_8 ?_
      refine w_a f_277_9 ?_
      refine w_a f_277_10 ?_
      refine w_a f_277_13 ?_
      refine w_a f_277_14 ?_
      refine w_a f_277_17 ?_
      refine w_a f_277_18 ?_
      refine w_a f_277_19 ?_
      refine w_a (ls := [(8, .long (((L 58 12) * (L 58 12)) + ((L 58 13) * (L 58 13)))), (0, .ref 58), (2, .int x2), (3, .int x3), (4, .int x4), (5, .int x5), (6, .int x6), (7, .int x7)]) f_305_140 ?_
      refine w_a f_305_142 ?_
      refine w_a f_305_143 ?_
      refine w_a f_305_144 ?_
      refine w_a f_305_146 ?_
      refine w_a f_305_148 ?_
      refine w_a f_305_149 ?_
      refine w_a f_305_150 ?_
      refine i_m (fun h => ?_) (fun h => ?_) h
      · refine w_a f_305_158 ?_
        refine w_a f_305_159 ?_
        refine w_a f_305_160 ?_
        refine w_a (ls := [(6, .int (x6 + (Int32.ofInt 0))), (8, .long (((L 58 12) * (L 58 12)) + ((L 58 13) * (L 58 13)))), (0, .ref 58), (2, .int x2), (3, .int x3), (4, .int x4), (5, .int x5), (7, .int x7)]) f_305_162 ?_
        refine w_a (ls := [(7, .int (x7 + Int32.ofInt 1)), (6, .int (x6 + (Int32.ofInt 0))), (8, .long (((L 58 12) * (L 58 12)) + ((L 58 13) * (L 58 13)))), (0, .ref 58), (2, .int x2), (3, .int x3), (4, .int x4), (5, .int x5)]) f_305_165 ?_
        exact w_n (ks := [0, 2, 3, 4, 5, 6, 7]) rfl h
      · refine w_a f_305_154 ?_
        refine w_a f_305_155 ?_
        refine w_a f_305_159 ?_
        refine w_a f_305_160 ?_
        refine w_a (ls := [(6, .int (x6 + (Int32.ofInt 1))), (8, .long (((L 58 12) * (L 58 12)) + ((L 58 13) * (L 58 13)))), (0, .ref 58), (2, .int x2), (3, .int x3), (4, .int x4), (5, .int x5), (7, .int x7)]) f_305_162 ?_
        refine w_a (ls := [(7, .int (x7 + Int32.ofInt 1)), (6, .int (x6 + (Int32.ofInt 1))), (8, .long (((L 58 12) * (L 58 12)) + ((L 58 13) * (L 58 13)))), (0, .ref 58), (2, .int x2), (3, .int x3), (4, .int x4), (5, .int x5)]) f_305_165 ?_
        exact w_n (ks := [0, 2, 3, 4, 5, 6, 7]) rfl h
    · refine w_a f_305_158 ?_
      refine w_a f_305_159 ?_
      refine w_a f_305_160 ?_
      refine w_a (ls := [(6, .int (x6 + (Int32.ofInt 0))), (8, .long (((L 58 12) * (L 58 12)) + ((L 58 13) * (L 58 13)))), (0, .ref 58), (2, .int x2), (3, .int x3), (4, .int x4), (5, .int x5), (7, .int x7)]) f_305_162 ?_
      refine w_a (ls := [(7, .int (x7 + Int32.ofInt 1)), (6, .int (x6 + (Int32.ofInt 0))), (8, .long (((L 58 12) * (L 58 12)) + ((L 58 13) * (L 58 13)))), (0, .ref 58), (2, .int x2), (3, .int x3), (4, .int x4), (5, .int x5)]) f_305_165 ?_
      exact w_n (ks := [0, 2, 3, 4, 5, 6, 7]) rfl h
set_option maxRecDepth 10000 in
set_option maxHeartbeats 4000000 in
theorem s_306_6 {Lx : Nat} {I : Mi} {L : Ml} {e : Nat} {Q : Kq} {r : Int32} (h :
    (if r = 0 then
     Q (.inl (some (.int (Int32.ofInt 3)))) (gE Lx) I L e
    else
     Q (.inl (some (.int (Int32.ofInt 0)))) (gE Lx) I L e)) :
    Wp 306 6 [(0, .ref 58)] [.int r] (gE Lx) I L e Q := by
  refine w_a f_306_6 ?_
  refine i_m (fun h => ?_) (fun h => ?_) h
  · refine w_a f_306_13 ?_
    refine w_a f_306_14 ?_
    exact h
  · refine w_a f_306_9 ?_
    refine w_a f_306_10 ?_
    refine w_a f_306_14 ?_
    exact h
set_option maxRecDepth 10000 in
set_option maxHeartbeats 4000000 in
theorem s_308_47 {Lx : Nat} {I : Mi} {L : Ml} {e : Nat} {Q : Kq} {x2 : Int32} {x3 : Int32} {x4 : Int32} {x5 : Int32} {r : Int32} (h :
    (if r = 0 then
     Q (.inl (some (.long (Int64.ofInt 0)))) (gE Lx) (ui I 58 0 (Int32.ofInt 4)) L e
    else
     Wp 308 81 [(0, .ref 58), (2, .int x2), (3, .int x3), (4, .int x4), (5, .int x5), (6, .long (Int64.ofInt 0)), (8, .long (Int64.ofInt 0)), (10, .int (Int32.ofInt 0))] [] (gE Lx) (ui (ui I 58 0 (Int32.ofInt 0)) 58 24 (Int32.ofInt (-1))) L e Q)) :
    Wp 308 47 [(0, .ref 58), (2, .int x2), (3, .int x3), (4, .int x4), (5, .int x5)] [.int r, .ref 58] (gE Lx) I L e Q := by
  refine w_a f_308_47 ?_
  refine i_m (fun h => ?_) (fun h => ?_) h
  · refine w_a f_308_54 ?_
    refine w_a f_308_55 ?_
    refine w_a f_308_58 ?_
    refine w_a f_308_59 ?_
    refine w_a f_308_62 ?_
    refine w_a f_308_65 ?_
    refine w_a f_308_66 ?_
    exact h
  · refine w_a f_308_50 ?_
    refine w_a f_308_51 ?_
    refine w_a f_308_55 ?_
    refine w_a f_308_58 ?_
    refine w_a f_308_59 ?_
    refine w_a f_308_62 ?_
    refine w_a f_308_67 ?_
    refine w_a f_308_68 ?_
    refine w_a (ls := [(6, .long (Int64.ofInt 0)), (0, .ref 58), (2, .int x2), (3, .int x3), (4, .int x4), (5, .int x5)]) f_308_70 ?_
    refine w_a f_308_71 ?_
    refine w_a (ls := [(8, .long (Int64.ofInt 0)), (6, .long (Int64.ofInt 0)), (0, .ref 58), (2, .int x2), (3, .int x3), (4, .int x4), (5, .int x5)]) f_308_73 ?_
    refine w_a f_308_74 ?_
    refine w_a f_308_75 ?_
    refine w_a f_308_78 ?_
    refine w_a f_308_79 ?_
    exact w_n (ks := [0, 2, 3, 4, 5, 6, 8, 10]) rfl h
set_option maxRecDepth 10000 in
set_option maxHeartbeats 4000000 in
theorem s_308_81 {Lx : Nat} {I : Mi} {L : Ml} {e : Nat} {Q : Kq} {x2 : Int32} {x3 : Int32} {x4 : Int32} {x5 : Int32} {y6 : Int64} {y8 : Int64} {x10 : Int32} (h :
    (if x10 < (I 58 7) then
     (inb x10 184 (
      (if (I 61 x10.toNatClampNeg) < (-x3) then
       Wp 308 81 [(0, .ref 58), (2, .int x2), (3, .int x3), (4, .int x4), (5, .int x5), (6, .long y6), (8, .long y8), (10, .int (x10 + Int32.ofInt 1))] [] (gE Lx) I L e Q
      else
       (if x3 < (I 61 x10.toNatClampNeg) then
        Wp 308 81 [(0, .ref 58), (2, .int x2), (3, .int x3), (4, .int x4), (5, .int x5), (6, .long y6), (8, .long y8), (10, .int (x10 + Int32.ofInt 1))] [] (gE Lx) I L e Q
       else
        (inb x10 184 (
         (if x3 < (I 62 x10.toNatClampNeg) then
          Wp 308 81 [(0, .ref 58), (2, .int x2), (3, .int x3), (4, .int x4), (5, .int x5), (6, .long y6), (8, .long y8), (10, .int (x10 + Int32.ofInt 1))] [] (gE Lx) I L e Q
         else
          Wp 228 0 [(0, .ref 58), (1, .long (L 58 14)), (3, .long (L 58 15)), (5, .long (L 58 16)), (7, .long (Int64.ofInt 0))] [] (gE Lx) I L e (kcp (Wp 276) 276 14 0 [(0, .ref 58)] 71 [] (kcp (Wp 308) 308 104 0 [(0, .ref 58), (2, .int x2), (3, .int x3), (4, .int x4), (5, .int x5), (6, .long y6), (8, .long y8), (10, .int x10)] 71 [] Q))))
        False))))
     False)
    else
     (if x5 = 0 then
      Q (.inl (some (.long y6))) (gE Lx) I L e
     else
      (if x5 = (Int32.ofInt 1) then
       Q (.inl (some (.long y8))) (gE Lx) I L e
      else
       (if x5 = (Int32.ofInt 2) then
        (inb (I 58 24) 184 (
         Q (.inl (some (.long (I 61 ((I 58 24).toNatClampNeg)).toInt64))) (gE Lx) I L e)
        False)
       else
        (inb (I 58 24) 184 (
         Q (.inl (some (.long (I 62 ((I 58 24).toNatClampNeg)).toInt64))) (gE Lx) I L e)
        False)))))) :
    Wp 308 81 [(0, .ref 58), (2, .int x2), (3, .int x3), (4, .int x4), (5, .int x5), (6, .long y6), (8, .long y8), (10, .int x10)] [] (gE Lx) I L e Q := by
  refine w_a f_308_81 ?_
  refine w_a f_308_83 ?_
  refine w_a f_308_84 ?_
  refine w_a f_308_87 ?_
  refine i_m (fun h => ?_) (fun h => ?_) h
  · refine w_a f_308_90 ?_
    refine w_a f_308_91 ?_
    refine w_a f_308_93 ?_
    refine w_a f_308_94 ?_
    refine w_a (ls := [(0, .ref 58), (1, .int x10), (2, .int x3)]) f_307_0 ?_
    refine w_a f_307_1 ?_
    refine w_a f_307_4 ?_
    refine w_a f_307_5 ?_
    refine n_m (fun h => ?_) h
    refine w_a f_307_6 ?_
    refine w_a f_307_7 ?_
    refine w_a f_307_8 ?_
    refine w_a f_307_9 ?_
    refine w_a (ls := [(0, .int (I 61 x10.toNatClampNeg)), (1, .int (-x3)), (2, .int x3)]) f_208_0 ?_
    refine w_a f_208_1 ?_
    refine w_a f_208_2 ?_
    refine i_m (fun h => ?_) (fun h => ?_) h
    · refine w_a f_208_14 ?_
      refine w_a f_208_15 ?_
      refine w_a (ls := [(0, .ref 58), (1, .int x10), (2, .int x3)]) f_307_12 ?_
      refine w_a f_307_29 ?_
      refine w_a f_307_30 ?_
      refine w_a (ls := [(0, .ref 58), (2, .int x2), (3, .int x3), (4, .int x4), (5, .int x5), (6, .long y6), (8, .long y8), (10, .int x10)]) f_308_97 ?_
      refine w_a f_308_100 ?_
      refine w_a f_308_221 ?_
      refine w_a (ls := [(10, .int (x10 + Int32.ofInt 1)), (0, .ref 58), (2, .int x2), (3, .int x3), (4, .int x4), (5, .int x5), (6, .long y6), (8, .long y8)]) f_308_224 ?_
      exact w_n (ks := [0, 2, 3, 4, 5, 6, 8, 10]) rfl h
    · refine w_a f_208_5 ?_
      refine w_a f_208_6 ?_
      refine w_a f_208_7 ?_
      refine i_m (fun h => ?_) (fun h => ?_) h
      · refine w_a f_208_14 ?_
        refine w_a f_208_15 ?_
        refine w_a (ls := [(0, .ref 58), (1, .int x10), (2, .int x3)]) f_307_12 ?_
        refine w_a f_307_29 ?_
        refine w_a f_307_30 ?_
        refine w_a (ls := [(0, .ref 58), (2, .int x2), (3, .int x3), (4, .int x4), (5, .int x5), (6, .long y6), (8, .long y8), (10, .int x10)]) f_308_97 ?_
        refine w_a f_308_100 ?_
        refine w_a f_308_221 ?_
        refine w_a (ls := [(10, .int (x10 + Int32.ofInt 1)), (0, .ref 58), (2, .int x2), (3, .int x3), (4, .int x4), (5, .int x5), (6, .long y6), (8, .long y8)]) f_308_224 ?_
        exact w_n (ks := [0, 2, 3, 4, 5, 6, 8, 10]) rfl h
      · refine w_a f_208_10 ?_
        refine w_a f_208_11 ?_
        refine w_a f_208_15 ?_
        refine w_a (ls := [(0, .ref 58), (1, .int x10), (2, .int x3)]) f_307_12 ?_
        refine w_a f_307_15 ?_
        refine w_a f_307_16 ?_
        refine w_a f_307_19 ?_
        refine w_a f_307_20 ?_
        refine n_m (fun h => ?_) h
        refine w_a f_307_21 ?_
        refine w_a f_307_22 ?_
        refine i_m (fun h => ?_) (fun h => ?_) h
        · refine w_a f_307_29 ?_
          refine w_a f_307_30 ?_
          refine w_a (ls := [(0, .ref 58), (2, .int x2), (3, .int x3), (4, .int x4), (5, .int x5), (6, .long y6), (8, .long y8), (10, .int x10)]) f_308_97 ?_
          refine w_a f_308_100 ?_
          refine w_a f_308_221 ?_
          refine w_a (ls := [(10, .int (x10 + Int32.ofInt 1)), (0, .ref 58), (2, .int x2), (3, .int x3), (4, .int x4), (5, .int x5), (6, .long y6), (8, .long y8)]) f_308_224 ?_
          exact w_n (ks := [0, 2, 3, 4, 5, 6, 8, 10]) rfl h
        · refine w_a f_307_25 ?_
          refine w_a f_307_26 ?_
          refine w_a f_307_30 ?_
          refine w_a (ls := [(0, .ref 58), (2, .int x2), (3, .int x3), (4, .int x4), (5, .int x5), (6, .long y6), (8, .long y8), (10, .int x10)]) f_308_97 ?_
          refine w_a f_308_103 ?_
          refine w_c (ks := [0, 2, 3, 4, 5, 6, 8, 10]) f_308_104 rfl rfl ?_
          refine w_a (ls := [(0, .ref 58)]) f_276_0 ?_
          refine w_a f_276_1 ?_
          refine w_a f_276_2 ?_
          refine w_a f_276_5 ?_
          refine w_a f_276_6 ?_
          refine w_a f_276_9 ?_
          refine w_a f_276_10 ?_
          refine w_a f_276_13 ?_
          exact w_c (ks := [0]) f_276_14 rfl rfl h
  · refine w_a f_308_227 ?_
    refine w_a f_308_229 ?_
    refine i_m (fun h => ?_) (fun h => ?_) h
    · refine w_a f_308_232 ?_
      refine w_a f_308_234 ?_
      refine w_a f_308_277 ?_
      exact h
    · refine w_a f_308_237 ?_
      refine w_a f_308_239 ?_
      refine w_a f_308_240 ?_
      refine i_m (fun h => ?_) (fun h => ?_) h
      · refine w_a f_308_243 ?_
        refine w_a f_308_245 ?_
        refine w_a f_308_277 ?_
        exact h
      · refine w_a f_308_248 ?_
        refine w_a f_308_250 ?_
        refine w_a f_308_251 ?_
        refine i_m (fun h => ?_) (fun h => ?_) h
        · refine w_a f_308_254 ?_
          refine w_a f_308_255 ?_
          refine w_a f_308_258 ?_
          refine w_a f_308_259 ?_
          refine w_a f_308_262 ?_
          refine n_m (fun h => ?_) h
          refine w_a f_308_263 ?_
          refine w_a f_308_264 ?_
          refine w_a f_308_277 ?_
          exact h
        · refine w_a f_308_267 ?_
          refine w_a f_308_268 ?_
          refine w_a f_308_271 ?_
          refine w_a f_308_272 ?_
          refine w_a f_308_275 ?_
          refine n_m (fun h => ?_) h
          refine w_a f_308_276 ?_
          refine w_a f_308_277 ?_
          exact h
set_option maxRecDepth 10000 in
set_option maxHeartbeats 4000000 in
theorem s_308_107 {Lx : Nat} {I : Mi} {L : Ml} {e : Nat} {Q : Kq} {x2 : Int32} {x3 : Int32} {x4 : Int32} {x5 : Int32} {y6 : Int64} {y8 : Int64} {x10 : Int32} (h :
    (inb x10 184 (
     (inb x10 184 (
      Wp 229 0 [(0, .ref 58), (1, .int (Int32.ofInt 0)), (2, .long (I 61 x10.toNatClampNeg).toInt64), (4, .long (I 62 x10.toNatClampNeg).toInt64)] [] (gE Lx) I L e (kcp (Wp 308) 308 125 0 [(0, .ref 58), (2, .int x2), (3, .int x3), (4, .int x4), (5, .int x5), (6, .long y6), (8, .long y8), (10, .int x10)] 71 [] Q))
     False))
    False)) :
    Wp 308 107 [(0, .ref 58), (2, .int x2), (3, .int x3), (4, .int x4), (5, .int x5), (6, .long y6), (8, .long y8), (10, .int x10)] [] (gE Lx) I L e Q := by
  refine w_a f_308_107 ?_
  refine w_a f_308_108 ?_
  refine w_a f_308_109 ?_
  refine w_a f_308_110 ?_
  refine w_a f_308_113 ?_
  refine w_a f_308_115 ?_
  refine n_m (fun h => ?_) h
  refine w_a f_308_116 ?_
  refine w_a f_308_117 ?_
  refine w_a f_308_118 ?_
  refine w_a f_308_121 ?_
  refine w_a f_308_123 ?_
  refine n_m (fun h => ?_) h
  refine w_a f_308_124 ?_
  exact w_c (ks := [0, 2, 3, 4, 5, 6, 8, 10]) f_308_125 rfl rfl h
set_option maxRecDepth 10000 in
set_option maxHeartbeats 4000000 in
theorem s_308_128 {Lx : Nat} {I : Mi} {L : Ml} {e : Nat} {Q : Kq} {x2 : Int32} {x3 : Int32} {x4 : Int32} {x5 : Int32} {y6 : Int64} {y8 : Int64} {x10 : Int32} (h :
    (if x2 = 0 then
     Wp 236 0 [(0, .ref 58), (1, .long (((L 58 10) * (L 58 12)) + ((L 58 11) * (L 58 13)))), (3, .long (((L 58 10) * (L 58 10)) + ((L 58 11) * (L 58 11))))] [] (gE Lx) I L e (kcp (Wp 308) 308 138 0 [(0, .ref 58), (2, .int x2), (3, .int x3), (4, .int x4), (5, .int x5), (6, .long y6), (8, .long y8), (10, .int x10)] 71 [] Q)
    else
     Wp 236 0 [(0, .ref 58), (1, .long (((L 58 10) * (L 58 12)) + ((L 58 11) * (L 58 13)))), (3, .long (((L 58 12) * (L 58 12)) + ((L 58 13) * (L 58 13))))] [] (gE Lx) I L e (kcp (Wp 308) 308 138 0 [(0, .ref 58), (2, .int x2), (3, .int x3), (4, .int x4), (5, .int x5), (6, .long y6), (8, .long y8), (10, .int x10)] 71 [] Q))) :
    Wp 308 128 [(0, .ref 58), (2, .int x2), (3, .int x3), (4, .int x4), (5, .int x5), (6, .long y6), (8, .long y8), (10, .int x10)] [] (gE Lx) I L e Q := by
  refine w_a f_308_128 ?_
  refine w_a f_308_129 ?_
  refine w_a f_308_130 ?_
  refine w_a (ls := [(0, .ref 58)]) f_277_0 ?_
  refine w_a f_277_1 ?_
  refine w_a f_277_4 ?_
  refine w_a f_277_5 ?_
  refine w_a f_277_8 ?_
  refine w_a f_277_9 ?_
  refine w_a f_277_10 ?_
  refine w_a f_277_13 ?_
  refine w_a f_277_14 ?_
  refine w_a f_277_17 ?_
  refine w_a f_277_18 ?_
  refine w_a f_277_19 ?_
  refine w_a (ls := [(0, .ref 58), (2, .int x2), (3, .int x3), (4, .int x4), (5, .int x5), (6, .long y6), (8, .long y8), (10, .int x10)]) f_308_133 ?_
  refine w_a f_308_134 ?_
  refine w_a f_308_135 ?_
  refine w_a (ls := [(0, .ref 58), (1, .int x2)]) f_278_0 ?_
  refine w_a f_278_1 ?_
  refine i_m (fun h => ?_) (fun h => ?_) h
  · refine w_a f_278_18 ?_
    refine w_a f_278_19 ?_
    refine w_a f_278_22 ?_
    refine w_a f_278_23 ?_
    refine w_a f_278_26 ?_
    refine w_a (ls := [(0, .long (L 58 10)), (2, .long (L 58 11))]) f_235_0 ?_
    refine w_a f_235_1 ?_
    refine w_a f_235_2 ?_
    refine w_a f_235_3 ?_
    refine w_a f_235_4 ?_
    refine w_a f_235_5 ?_
    refine w_a f_235_6 ?_
    refine w_a f_235_7 ?_
    refine w_a (ls := [(0, .ref 58), (1, .int x2)]) f_278_29 ?_
    exact w_c (ls := [(0, .ref 58), (2, .int x2), (3, .int x3), (4, .int x4), (5, .int x5), (6, .long y6), (8, .long y8), (10, .int x10)]) (ks := [0, 2, 3, 4, 5, 6, 8, 10]) f_308_138 rfl rfl h
  · refine w_a f_278_4 ?_
    refine w_a f_278_5 ?_
    refine w_a f_278_8 ?_
    refine w_a f_278_9 ?_
    refine w_a f_278_12 ?_
    refine w_a (ls := [(0, .long (L 58 12)), (2, .long (L 58 13))]) f_235_0 ?_
    refine w_a f_235_1 ?_
    refine w_a f_235_2 ?_
    refine w_a f_235_3 ?_
    refine w_a f_235_4 ?_
    refine w_a f_235_5 ?_
    refine w_a f_235_6 ?_
    refine w_a f_235_7 ?_
    refine w_a (ls := [(0, .ref 58), (1, .int x2)]) f_278_15 ?_
    refine w_a f_278_29 ?_
    exact w_c (ls := [(0, .ref 58), (2, .int x2), (3, .int x3), (4, .int x4), (5, .int x5), (6, .long y6), (8, .long y8), (10, .int x10)]) (ks := [0, 2, 3, 4, 5, 6, 8, 10]) f_308_138 rfl rfl h
set_option maxRecDepth 10000 in
set_option maxHeartbeats 4000000 in
theorem s_308_141 {Lx : Nat} {I : Mi} {L : Ml} {e : Nat} {Q : Kq} {x2 : Int32} {x3 : Int32} {x4 : Int32} {x5 : Int32} {y6 : Int64} {y8 : Int64} {x10 : Int32} (h :
    (if (L 58 9) = (Int64.ofInt 0) then
     Wp 308 81 [(0, .ref 58), (2, .int x2), (3, .int x3), (4, .int x4), (5, .int x5), (6, .long y6), (8, .long y8), (10, .int (x10 + Int32.ofInt 1))] [] (gE Lx) I L e Q
    else
     (if (I 58 24) = (Int32.ofInt (-1)) then
      Wp 308 81 [(0, .ref 58), (2, .int x2), (3, .int x3), (4, .int x4), (5, .int x5), (6, .long (L 58 8)), (8, .long (L 58 9)), (10, .int (x10 + Int32.ofInt 1))] [] (gE Lx) (ui I 58 24 x10) L e Q
     else
      (if x4 = 0 then
       (if (Int64.ofInt 0) < (((L 58 8) * y8) - (y6 * (L 58 9))) then
        Wp 308 81 [(0, .ref 58), (2, .int x2), (3, .int x3), (4, .int x4), (5, .int x5), (6, .long (L 58 8)), (8, .long (L 58 9)), (10, .int (x10 + Int32.ofInt 1))] [] (gE Lx) (ui I 58 24 x10) L e Q
       else
        Wp 308 81 [(0, .ref 58), (2, .int x2), (3, .int x3), (4, .int x4), (5, .int x5), (6, .long y6), (8, .long y8), (10, .int (x10 + Int32.ofInt 1))] [] (gE Lx) I L e Q)
      else
       (if (((L 58 8) * y8) - (y6 * (L 58 9))) < (Int64.ofInt 0) then
        Wp 308 81 [(0, .ref 58), (2, .int x2), (3, .int x3), (4, .int x4), (5, .int x5), (6, .long (L 58 8)), (8, .long (L 58 9)), (10, .int (x10 + Int32.ofInt 1))] [] (gE Lx) (ui I 58 24 x10) L e Q
       else
        Wp 308 81 [(0, .ref 58), (2, .int x2), (3, .int x3), (4, .int x4), (5, .int x5), (6, .long y6), (8, .long y8), (10, .int (x10 + Int32.ofInt 1))] [] (gE Lx) I L e Q))))) :
    Wp 308 141 [(0, .ref 58), (2, .int x2), (3, .int x3), (4, .int x4), (5, .int x5), (6, .long y6), (8, .long y8), (10, .int x10)] [] (gE Lx) I L e Q := by
  refine w_a f_308_141 ?_
  refine w_a f_308_142 ?_
  refine w_a f_308_145 ?_
  refine w_a f_308_146 ?_
  refine i_m (fun h => ?_) (fun h => ?_) h
  · refine w_a f_308_150 ?_
    refine w_a f_308_221 ?_
    refine w_a (ls := [(10, .int (x10 + Int32.ofInt 1)), (0, .ref 58), (2, .int x2), (3, .int x3), (4, .int x4), (5, .int x5), (6, .long y6), (8, .long y8)]) f_308_224 ?_
    exact w_n (ks := [0, 2, 3, 4, 5, 6, 8, 10]) rfl h
  · refine w_a f_308_153 ?_
    refine w_a f_308_154 ?_
    refine w_a f_308_157 ?_
    refine w_a f_308_159 ?_
    refine w_a f_308_160 ?_
    refine w_a f_308_162 ?_
    refine w_a f_308_163 ?_
    refine w_a f_308_166 ?_
    refine w_a f_308_167 ?_
    refine w_a f_308_168 ?_
    refine w_a (ls := [(11, .long (((L 58 8) * y8) - (y6 * (L 58 9)))), (0, .ref 58), (2, .int x2), (3, .int x3), (4, .int x4), (5, .int x5), (6, .long y6), (8, .long y8), (10, .int x10)]) f_308_170 ?_
    refine w_a f_308_171 ?_
    refine w_a f_308_174 ?_
    refine w_a f_308_175 ?_
    refine i_m (fun h => ?_) (fun h => ?_) h
    · refine w_a f_308_203 ?_
      refine w_a f_308_204 ?_
      refine w_a f_308_206 ?_
      refine w_a f_308_209 ?_
      refine w_a f_308_210 ?_
      refine w_a f_308_213 ?_
      refine w_a (ls := [(6, .long (L 58 8)), (11, .long (((L 58 8) * y8) - (y6 * (L 58 9)))), (0, .ref 58), (2, .int x2), (3, .int x3), (4, .int x4), (5, .int x5), (8, .long y8), (10, .int x10)]) f_308_215 ?_
      refine w_a f_308_216 ?_
      refine w_a f_308_219 ?_
      refine w_a (ls := [(8, .long (L 58 9)), (6, .long (L 58 8)), (11, .long (((L 58 8) * y8) - (y6 * (L 58 9)))), (0, .ref 58), (2, .int x2), (3, .int x3), (4, .int x4), (5, .int x5), (10, .int x10)]) f_308_221 ?_
      refine w_a (ls := [(10, .int (x10 + Int32.ofInt 1)), (8, .long (L 58 9)), (6, .long (L 58 8)), (11, .long (((L 58 8) * y8) - (y6 * (L 58 9)))), (0, .ref 58), (2, .int x2), (3, .int x3), (4, .int x4), (5, .int x5)]) f_308_224 ?_
      exact w_n (ks := [0, 2, 3, 4, 5, 6, 8, 10]) rfl h
    · refine w_a f_308_178 ?_
      refine w_a f_308_180 ?_
      refine i_m (fun h => ?_) (fun h => ?_) h
      · refine w_a f_308_193 ?_
        refine w_a f_308_195 ?_
        refine w_a f_308_196 ?_
        refine i_m (fun h => ?_) (fun h => ?_) h
        · refine w_a f_308_203 ?_
          refine w_a f_308_204 ?_
          refine w_a f_308_206 ?_
          refine w_a f_308_209 ?_
          refine w_a f_308_210 ?_
          refine w_a f_308_213 ?_
          refine w_a (ls := [(6, .long (L 58 8)), (11, .long (((L 58 8) * y8) - (y6 * (L 58 9)))), (0, .ref 58), (2, .int x2), (3, .int x3), (4, .int x4), (5, .int x5), (8, .long y8), (10, .int x10)]) f_308_215 ?_
          refine w_a f_308_216 ?_
          refine w_a f_308_219 ?_
          refine w_a (ls := [(8, .long (L 58 9)), (6, .long (L 58 8)), (11, .long (((L 58 8) * y8) - (y6 * (L 58 9)))), (0, .ref 58), (2, .int x2), (3, .int x3), (4, .int x4), (5, .int x5), (10, .int x10)]) f_308_221 ?_
          refine w_a (ls := [(10, .int (x10 + Int32.ofInt 1)), (8, .long (L 58 9)), (6, .long (L 58 8)), (11, .long (((L 58 8) * y8) - (y6 * (L 58 9)))), (0, .ref 58), (2, .int x2), (3, .int x3), (4, .int x4), (5, .int x5)]) f_308_224 ?_
          exact w_n (ks := [0, 2, 3, 4, 5, 6, 8, 10]) rfl h
        · refine w_a f_308_200 ?_
          refine w_a f_308_221 ?_
          refine w_a (ls := [(10, .int (x10 + Int32.ofInt 1)), (11, .long (((L 58 8) * y8) - (y6 * (L 58 9)))), (0, .ref 58), (2, .int x2), (3, .int x3), (4, .int x4), (5, .int x5), (6, .long y6), (8, .long y8)]) f_308_224 ?_
          exact w_n (ks := [0, 2, 3, 4, 5, 6, 8, 10]) rfl h
      · refine w_a f_308_183 ?_
        refine w_a f_308_185 ?_
        refine w_a f_308_186 ?_
        refine i_m (fun h => ?_) (fun h => ?_) h
        · refine w_a f_308_203 ?_
          refine w_a f_308_204 ?_
          refine w_a f_308_206 ?_
          refine w_a f_308_209 ?_
          refine w_a f_308_210 ?_
          refine w_a f_308_213 ?_
          refine w_a (ls := [(6, .long (L 58 8)), (11, .long (((L 58 8) * y8) - (y6 * (L 58 9)))), (0, .ref 58), (2, .int x2), (3, .int x3), (4, .int x4), (5, .int x5), (8, .long y8), (10, .int x10)]) f_308_215 ?_
          refine w_a f_308_216 ?_
          refine w_a f_308_219 ?_
          refine w_a (ls := [(8, .long (L 58 9)), (6, .long (L 58 8)), (11, .long (((L 58 8) * y8) - (y6 * (L 58 9)))), (0, .ref 58), (2, .int x2), (3, .int x3), (4, .int x4), (5, .int x5), (10, .int x10)]) f_308_221 ?_
          refine w_a (ls := [(10, .int (x10 + Int32.ofInt 1)), (8, .long (L 58 9)), (6, .long (L 58 8)), (11, .long (((L 58 8) * y8) - (y6 * (L 58 9)))), (0, .ref 58), (2, .int x2), (3, .int x3), (4, .int x4), (5, .int x5)]) f_308_224 ?_
          exact w_n (ks := [0, 2, 3, 4, 5, 6, 8, 10]) rfl h
        · refine w_a f_308_190 ?_
          refine w_a f_308_221 ?_
          refine w_a (ls := [(10, .int (x10 + Int32.ofInt 1)), (11, .long (((L 58 8) * y8) - (y6 * (L 58 9)))), (0, .ref 58), (2, .int x2), (3, .int x3), (4, .int x4), (5, .int x5), (6, .long y6), (8, .long y8)]) f_308_224 ?_
          exact w_n (ks := [0, 2, 3, 4, 5, 6, 8, 10]) rfl h
set_option maxRecDepth 10000 in
set_option maxHeartbeats 4000000 in
theorem s_309_58 {Lx : Nat} {I : Mi} {L : Ml} {e : Nat} {Q : Kq} {x2 : Int32} (h :
    (if x2 = (Int32.ofInt 5) then
     Wp 320 0 [(0, .long (L 58 25)), (2, .long (L 58 26))] [] (gE Lx) I L e (kcp (Wp 319) 319 8 0 [(0, .ref 58)] 71 [] (kcp (Wp 309) 309 64 0 [(0, .ref 58)] 71 [] Q))
    else
     (if x2 = Int32.ofInt 0 then
      (inb (I 58 27) 184 (
       Q (.inl (some (.int (I 61 ((I 58 27).toNatClampNeg))))) (gE Lx) I L e)
      False)
     else
     (if x2 = Int32.ofInt 1 then
      (inb (I 58 27) 184 (
       Q (.inl (some (.int (I 62 ((I 58 27).toNatClampNeg))))) (gE Lx) I L e)
      False)
     else
     (if x2 = Int32.ofInt 2 then
      Q (.inl (some (.int (I 58 29)))) (gE Lx) I L e
     else
     (if x2 = Int32.ofInt 3 then
      (inb (I 58 28) 184 (
       Q (.inl (some (.int (I 61 ((I 58 28).toNatClampNeg))))) (gE Lx) I L e)
      False)
     else
      (inb (I 58 28) 184 (
       Q (.inl (some (.int (I 62 ((I 58 28).toNatClampNeg))))) (gE Lx) I L e)
      False))))))) :
    Wp 309 58 [(0, .ref 58), (2, .int x2)] [] (gE Lx) I L e Q := by
  refine w_a f_309_58 ?_
  refine w_a f_309_59 ?_
  refine w_a f_309_60 ?_
  refine i_m (fun h => ?_) (fun h => ?_) h
  · refine w_a f_309_63 ?_
    refine w_c (ks := [0]) f_309_64 rfl rfl ?_
    refine w_a (ls := [(0, .ref 58)]) f_319_0 ?_
    refine w_a f_319_1 ?_
    refine w_a f_319_4 ?_
    refine w_a f_319_5 ?_
    exact w_c (ks := [0]) f_319_8 rfl rfl h
  · refine w_a f_309_70 ?_
    refine w_a f_309_71 ?_
    refine w_a f_309_72 ?_
    refine w_a f_309_75 ?_
    refine w_a f_309_76 ?_
    refine w_a f_309_79 ?_
    refine w_a f_309_80 ?_
    refine w_a f_309_83 ?_
    refine w_a f_309_84 ?_
    refine w_a (ls := [(0, .ref 58), (1, .int (I 58 27)), (2, .int (I 58 28)), (3, .int (I 58 29)), (4, .int x2)]) f_321_0 ?_
    refine w_a f_321_2 ?_
    refine i_m (fun h => ?_) (fun h => ?_) h
    · refine w_a f_321_32 ?_
      refine w_a f_321_33 ?_
      refine w_a f_321_36 ?_
      refine w_a f_321_37 ?_
      refine n_m (fun h => ?_) h
      refine w_a f_321_38 ?_
      refine w_a (ls := [(0, .ref 58), (2, .int x2)]) f_309_87 ?_
      exact h
    · refine i_m (fun h => ?_) (fun h => ?_) h
      · refine w_a f_321_39 ?_
        refine w_a f_321_40 ?_
        refine w_a f_321_43 ?_
        refine w_a f_321_44 ?_
        refine n_m (fun h => ?_) h
        refine w_a f_321_45 ?_
        refine w_a (ls := [(0, .ref 58), (2, .int x2)]) f_309_87 ?_
        exact h
      · refine i_m (fun h => ?_) (fun h => ?_) h
        · refine w_a f_321_46 ?_
          refine w_a f_321_47 ?_
          refine w_a (ls := [(0, .ref 58), (2, .int x2)]) f_309_87 ?_
          exact h
        · refine i_m (fun h => ?_) (fun h => ?_) h
          · refine w_a f_321_48 ?_
            refine w_a f_321_49 ?_
            refine w_a f_321_52 ?_
            refine w_a f_321_53 ?_
            refine n_m (fun h => ?_) h
            refine w_a f_321_54 ?_
            refine w_a (ls := [(0, .ref 58), (2, .int x2)]) f_309_87 ?_
            exact h
          · refine w_a f_321_55 ?_
            refine w_a f_321_56 ?_
            refine w_a f_321_59 ?_
            refine w_a f_321_60 ?_
            refine n_m (fun h => ?_) h
            refine w_a f_321_61 ?_
            refine w_a (ls := [(0, .ref 58), (2, .int x2)]) f_309_87 ?_
            exact h
set_option maxRecDepth 10000 in
set_option maxHeartbeats 4000000 in
theorem s_309_67 {Lx : Nat} {I : Mi} {L : Ml} {e : Nat} {Q : Kq} {r : Int32} (h :
    Q (.inl (some (.int r))) (gE Lx) I L e) :
    Wp 309 67 [(0, .ref 58)] [.int r] (gE Lx) I L e Q := by
  refine w_a f_309_67 ?_
  refine w_a f_309_87 ?_
  exact h
set_option maxRecDepth 10000 in
set_option maxHeartbeats 4000000 in
theorem s_310_0 {Lx : Nat} {I : Mi} {L : Ml} {e : Nat} {Q : Kq} {x1 : Int32} {x2 : Int32} (h :
    Wp 227 0 [(0, .ref 58), (1, .int (I 59 3))] [] (gE Lx) (ui (ui I 58 30 (Int32.ofInt 0)) 58 32 (Int32.ofInt 0)) L e (kcp (Wp 310) 310 14 0 [(0, .ref 58), (1, .int x1), (2, .int x2)] 71 [] Q)) :
    Wp 310 0 [(0, .ref 58), (1, .int x1), (2, .int x2)] [] (gE Lx) I L e Q := by
  refine w_a f_310_0 ?_
  refine w_a f_310_1 ?_
  refine w_a (ls := [(0, .ref 58)]) f_311_0 ?_
  refine w_a f_311_1 ?_
  refine w_a f_311_2 ?_
  refine w_a f_311_5 ?_
  refine w_a (ls := [(0, .ref 58), (1, .int x1), (2, .int x2)]) f_310_4 ?_
  refine w_a f_310_5 ?_
  refine w_a f_310_6 ?_
  refine w_a f_310_9 ?_
  refine w_a f_310_10 ?_
  refine w_a f_310_11 ?_
  refine w_a (ls := [(0, .ref 58)]) f_215_0 ?_
  refine w_a f_215_1 ?_
  refine w_a f_215_4 ?_
  refine w_a f_215_5 ?_
  refine w_a f_215_6 ?_
  exact w_c (ls := [(0, .ref 58), (1, .int x1), (2, .int x2)]) (ks := [0, 1, 2]) f_310_14 rfl rfl h
set_option maxRecDepth 10000 in
set_option maxHeartbeats 4000000 in
theorem s_310_17 {Lx : Nat} {I : Mi} {L : Ml} {e : Nat} {Q : Kq} {x1 : Int32} {x2 : Int32} (h :
    Wp 310 24 [(0, .ref 58), (1, .int x1), (2, .int x2), (3, .int (Int32.ofInt 0))] [] (gE Lx) I (ul (ul (ul (ul L 63 0 (L 58 10)) 63 1 (L 58 11)) 63 2 (L 58 12)) 63 3 (L 58 13)) e Q) :
    Wp 310 17 [(0, .ref 58), (1, .int x1), (2, .int x2)] [] (gE Lx) I L e Q := by
  refine w_a f_310_17 ?_
  refine w_a f_310_18 ?_
  refine w_a f_310_19 ?_
  refine w_a (ls := [(0, .ref 58), (1, .int (Int32.ofInt 0))]) f_312_0 ?_
  refine w_a f_312_1 ?_
  refine w_a f_312_4 ?_
  refine w_a f_312_5 ?_
  refine w_a f_312_6 ?_
  refine w_a f_312_9 ?_
  refine w_a f_312_10 ?_
  refine w_a f_312_11 ?_
  refine w_a f_312_14 ?_
  refine w_a f_312_15 ?_
  refine w_a f_312_16 ?_
  refine w_a f_312_17 ?_
  refine w_a f_312_18 ?_
  refine w_a f_312_21 ?_
  refine w_a f_312_22 ?_
  refine w_a f_312_23 ?_
  refine w_a f_312_26 ?_
  refine w_a f_312_27 ?_
  refine w_a f_312_28 ?_
  refine w_a f_312_29 ?_
  refine w_a f_312_30 ?_
  refine w_a f_312_33 ?_
  refine w_a f_312_34 ?_
  refine w_a f_312_35 ?_
  refine w_a f_312_38 ?_
  refine w_a f_312_39 ?_
  refine w_a f_312_40 ?_
  refine w_a f_312_41 ?_
  refine w_a f_312_42 ?_
  refine w_a f_312_45 ?_
  refine w_a f_312_46 ?_
  refine w_a (ls := [(0, .ref 58), (1, .int x1), (2, .int x2)]) f_310_22 ?_
  refine w_a f_310_23 ?_
  exact w_n (ks := [0, 1, 2, 3]) rfl h
set_option maxRecDepth 10000 in
set_option maxHeartbeats 4000000 in
theorem s_310_24 {Lx : Nat} {I : Mi} {L : Ml} {e : Nat} {Q : Kq} {x1 : Int32} {x2 : Int32} {x3 : Int32} (h :
    (if x3 < (I 58 7) then
     (inb x3 184 (
      (if (I 61 x3.toNatClampNeg) < (-x1) then
       Wp 310 24 [(0, .ref 58), (1, .int x1), (2, .int x2), (3, .int (x3 + Int32.ofInt 1))] [] (gE Lx) I L e Q
      else
       (if x1 < (I 61 x3.toNatClampNeg) then
        Wp 310 24 [(0, .ref 58), (1, .int x1), (2, .int x2), (3, .int (x3 + Int32.ofInt 1))] [] (gE Lx) I L e Q
       else
        (inb x3 184 (
         (if x1 < (I 62 x3.toNatClampNeg) then
          Wp 310 24 [(0, .ref 58), (1, .int x1), (2, .int x2), (3, .int (x3 + Int32.ofInt 1))] [] (gE Lx) I L e Q
         else
          Wp 228 0 [(0, .ref 58), (1, .long (L 63 0)), (3, .long (L 63 1)), (5, .long (L 63 2)), (7, .long (L 63 3))] [] (gE Lx) I L e (kcp (Wp 313) 313 31 0 [(0, .ref 58)] 71 [] (kcp (Wp 310) 310 46 0 [(0, .ref 58), (1, .int x1), (2, .int x2), (3, .int x3)] 71 [] Q))))
        False))))
     False)
    else
     Q (.inl none) (gE Lx) I L e)) :
    Wp 310 24 [(0, .ref 58), (1, .int x1), (2, .int x2), (3, .int x3)] [] (gE Lx) I L e Q := by
  refine w_a f_310_24 ?_
  refine w_a f_310_25 ?_
  refine w_a f_310_26 ?_
  refine w_a f_310_29 ?_
  refine i_m (fun h => ?_) (fun h => ?_) h
  · refine w_a f_310_32 ?_
    refine w_a f_310_33 ?_
    refine w_a f_310_34 ?_
    refine w_a f_310_35 ?_
    refine w_a (ls := [(0, .ref 58), (1, .int x3), (2, .int x1)]) f_307_0 ?_
    refine w_a f_307_1 ?_
    refine w_a f_307_4 ?_
    refine w_a f_307_5 ?_
    refine n_m (fun h => ?_) h
    refine w_a f_307_6 ?_
    refine w_a f_307_7 ?_
    refine w_a f_307_8 ?_
    refine w_a f_307_9 ?_
    refine w_a (ls := [(0, .int (I 61 x3.toNatClampNeg)), (1, .int (-x1)), (2, .int x1)]) f_208_0 ?_
    refine w_a f_208_1 ?_
    refine w_a f_208_2 ?_
    refine i_m (fun h => ?_) (fun h => ?_) h
    · refine w_a f_208_14 ?_
      refine w_a f_208_15 ?_
      refine w_a (ls := [(0, .ref 58), (1, .int x3), (2, .int x1)]) f_307_12 ?_
      refine w_a f_307_29 ?_
      refine w_a f_307_30 ?_
      refine w_a (ls := [(0, .ref 58), (1, .int x1), (2, .int x2), (3, .int x3)]) f_310_38 ?_
      refine w_a f_310_41 ?_
      refine w_a f_310_190 ?_
      refine w_a (ls := [(3, .int (x3 + Int32.ofInt 1)), (0, .ref 58), (1, .int x1), (2, .int x2)]) f_310_193 ?_
      exact w_n (ks := [0, 1, 2, 3]) rfl h
    · refine w_a f_208_5 ?_
      refine w_a f_208_6 ?_
      refine w_a f_208_7 ?_
      refine i_m (fun h => ?_) (fun h => ?_) h
      · refine w_a f_208_14 ?_
        refine w_a f_208_15 ?_
        refine w_a (ls := [(0, .ref 58), (1, .int x3), (2, .int x1)]) f_307_12 ?_
        refine w_a f_307_29 ?_
        refine w_a f_307_30 ?_
        refine w_a (ls := [(0, .ref 58), (1, .int x1), (2, .int x2), (3, .int x3)]) f_310_38 ?_
        refine w_a f_310_41 ?_
        refine w_a f_310_190 ?_
        refine w_a (ls := [(3, .int (x3 + Int32.ofInt 1)), (0, .ref 58), (1, .int x1), (2, .int x2)]) f_310_193 ?_
        exact w_n (ks := [0, 1, 2, 3]) rfl h
      · refine w_a f_208_10 ?_
        refine w_a f_208_11 ?_
        refine w_a f_208_15 ?_
        refine w_a (ls := [(0, .ref 58), (1, .int x3), (2, .int x1)]) f_307_12 ?_
        refine w_a f_307_15 ?_
        refine w_a f_307_16 ?_
        refine w_a f_307_19 ?_
        refine w_a f_307_20 ?_
        refine n_m (fun h => ?_) h
        refine w_a f_307_21 ?_
        refine w_a f_307_22 ?_
        refine i_m (fun h => ?_) (fun h => ?_) h
        · refine w_a f_307_29 ?_
          refine w_a f_307_30 ?_
          refine w_a (ls := [(0, .ref 58), (1, .int x1), (2, .int x2), (3, .int x3)]) f_310_38 ?_
          refine w_a f_310_41 ?_
          refine w_a f_310_190 ?_
          refine w_a (ls := [(3, .int (x3 + Int32.ofInt 1)), (0, .ref 58), (1, .int x1), (2, .int x2)]) f_310_193 ?_
          exact w_n (ks := [0, 1, 2, 3]) rfl h
        · refine w_a f_307_25 ?_
          refine w_a f_307_26 ?_
          refine w_a f_307_30 ?_
          refine w_a (ls := [(0, .ref 58), (1, .int x1), (2, .int x2), (3, .int x3)]) f_310_38 ?_
          refine w_a f_310_44 ?_
          refine w_a f_310_45 ?_
          refine w_c (ks := [0, 1, 2, 3]) f_310_46 rfl rfl ?_
          refine w_a (ls := [(0, .ref 58), (1, .int (Int32.ofInt 0))]) f_313_0 ?_
          refine w_a f_313_1 ?_
          refine w_a f_313_2 ?_
          refine w_a f_313_5 ?_
          refine w_a f_313_6 ?_
          refine w_a f_313_7 ?_
          refine w_a f_313_8 ?_
          refine w_a f_313_11 ?_
          refine w_a f_313_12 ?_
          refine w_a f_313_13 ?_
          refine w_a f_313_14 ?_
          refine w_a f_313_15 ?_
          refine w_a f_313_16 ?_
          refine w_a f_313_19 ?_
          refine w_a f_313_20 ?_
          refine w_a f_313_21 ?_
          refine w_a f_313_22 ?_
          refine w_a f_313_23 ?_
          refine w_a f_313_24 ?_
          refine w_a f_313_27 ?_
          refine w_a f_313_28 ?_
          refine w_a f_313_29 ?_
          refine w_a f_313_30 ?_
          exact w_c (ks := [0]) f_313_31 rfl rfl h
  · refine w_a f_310_196 ?_
    exact h
set_option maxRecDepth 10000 in
set_option maxHeartbeats 4000000 in
theorem s_310_49 {Lx : Nat} {I : Mi} {L : Ml} {e : Nat} {Q : Kq} {x1 : Int32} {x2 : Int32} {x3 : Int32} (h :
    (inb x3 184 (
     (inb x3 184 (
      Wp 229 0 [(0, .ref 58), (1, .int (Int32.ofInt 0)), (2, .long (I 61 x3.toNatClampNeg).toInt64), (4, .long (I 62 x3.toNatClampNeg).toInt64)] [] (gE Lx) I L e (kcp (Wp 310) 310 65 0 [(0, .ref 58), (1, .int x1), (2, .int x2), (3, .int x3)] 71 [] Q))
     False))
    False)) :
    Wp 310 49 [(0, .ref 58), (1, .int x1), (2, .int x2), (3, .int x3)] [] (gE Lx) I L e Q := by
  refine w_a f_310_49 ?_
  refine w_a f_310_50 ?_
  refine w_a f_310_51 ?_
  refine w_a f_310_52 ?_
  refine w_a f_310_55 ?_
  refine w_a f_310_56 ?_
  refine n_m (fun h => ?_) h
  refine w_a f_310_57 ?_
  refine w_a f_310_58 ?_
  refine w_a f_310_59 ?_
  refine w_a f_310_62 ?_
  refine w_a f_310_63 ?_
  refine n_m (fun h => ?_) h
  refine w_a f_310_64 ?_
  exact w_c (ks := [0, 1, 2, 3]) f_310_65 rfl rfl h
set_option maxRecDepth 10000 in
set_option maxHeartbeats 4000000 in
theorem s_310_68 {Lx : Nat} {I : Mi} {L : Ml} {e : Nat} {Q : Kq} {x1 : Int32} {x2 : Int32} {x3 : Int32} (h :
    Wp 310 76 [(0, .ref 58), (1, .int x1), (2, .int x2), (3, .int x3), (4, .int (Int32.ofInt 0))] [] (gE Lx) I (ul (ul (ul (ul L 63 4 (L 58 10)) 63 5 (L 58 11)) 63 6 (L 58 12)) 63 7 (L 58 13)) e Q) :
    Wp 310 68 [(0, .ref 58), (1, .int x1), (2, .int x2), (3, .int x3)] [] (gE Lx) I L e Q := by
  refine w_a f_310_68 ?_
  refine w_a f_310_69 ?_
  refine w_a f_310_70 ?_
  refine w_a (ls := [(0, .ref 58), (1, .int (Int32.ofInt 4))]) f_312_0 ?_
  refine w_a f_312_1 ?_
  refine w_a f_312_4 ?_
  refine w_a f_312_5 ?_
  refine w_a f_312_6 ?_
  refine w_a f_312_9 ?_
  refine w_a f_312_10 ?_
  refine w_a f_312_11 ?_
  refine w_a f_312_14 ?_
  refine w_a f_312_15 ?_
  refine w_a f_312_16 ?_
  refine w_a f_312_17 ?_
  refine w_a f_312_18 ?_
  refine w_a f_312_21 ?_
  refine w_a f_312_22 ?_
  refine w_a f_312_23 ?_
  refine w_a f_312_26 ?_
  refine w_a f_312_27 ?_
  refine w_a f_312_28 ?_
  refine w_a f_312_29 ?_
  refine w_a f_312_30 ?_
  refine w_a f_312_33 ?_
  refine w_a f_312_34 ?_
  refine w_a f_312_35 ?_
  refine w_a f_312_38 ?_
  refine w_a f_312_39 ?_
  refine w_a f_312_40 ?_
  refine w_a f_312_41 ?_
  refine w_a f_312_42 ?_
  refine w_a f_312_45 ?_
  refine w_a f_312_46 ?_
  refine w_a (ls := [(0, .ref 58), (1, .int x1), (2, .int x2), (3, .int x3)]) f_310_73 ?_
  refine w_a f_310_74 ?_
  exact w_n (ks := [0, 1, 2, 3, 4]) rfl h
set_option maxRecDepth 10000 in
set_option maxHeartbeats 4000000 in
theorem s_310_76 {Lx : Nat} {I : Mi} {L : Ml} {e : Nat} {Q : Kq} {x1 : Int32} {x2 : Int32} {x3 : Int32} {x4 : Int32} (h :
    (if x4 < ((Int32.ofInt 2) * (I 58 7)) then
     (inb (x4 / (Int32.ofInt 2)) 184 (
      (if (I 61 ((x4 / (Int32.ofInt 2)).toNatClampNeg)) < (-x1) then
       Wp 310 76 [(0, .ref 58), (1, .int x1), (2, .int x2), (3, .int x3), (4, .int (x4 + Int32.ofInt 1))] [] (gE Lx) I L e Q
      else
       (if x1 < (I 61 ((x4 / (Int32.ofInt 2)).toNatClampNeg)) then
        Wp 310 76 [(0, .ref 58), (1, .int x1), (2, .int x2), (3, .int x3), (4, .int (x4 + Int32.ofInt 1))] [] (gE Lx) I L e Q
       else
        (inb (x4 / (Int32.ofInt 2)) 184 (
         (if x1 < (I 62 ((x4 / (Int32.ofInt 2)).toNatClampNeg)) then
          Wp 310 76 [(0, .ref 58), (1, .int x1), (2, .int x2), (3, .int x3), (4, .int (x4 + Int32.ofInt 1))] [] (gE Lx) I L e Q
         else
          Wp 228 0 [(0, .ref 58), (1, .long (L 63 4)), (3, .long (L 63 5)), (5, .long (L 63 6)), (7, .long (L 63 7))] [] (gE Lx) I L e (kcp (Wp 313) 313 31 0 [(0, .ref 58)] 71 [] (kcp (Wp 310) 310 104 0 [(0, .ref 58), (1, .int x1), (2, .int x2), (3, .int x3), (4, .int x4)] 71 [] Q))))
        False))))
     False)
    else
     Wp 310 24 [(0, .ref 58), (1, .int x1), (2, .int x2), (3, .int (x3 + Int32.ofInt 1))] [] (gE Lx) I L e Q)) :
    Wp 310 76 [(0, .ref 58), (1, .int x1), (2, .int x2), (3, .int x3), (4, .int x4)] [] (gE Lx) I L e Q := by
  refine w_a f_310_76 ?_
  refine w_a f_310_78 ?_
  refine w_a f_310_79 ?_
  refine w_a f_310_80 ?_
  refine w_a f_310_83 ?_
  refine w_a f_310_84 ?_
  refine i_m (fun h => ?_) (fun h => ?_) h
  · refine w_a f_310_87 ?_
    refine w_a f_310_88 ?_
    refine w_a f_310_90 ?_
    refine w_a f_310_91 ?_
    refine w_a f_310_92 ?_
    refine w_a f_310_93 ?_
    refine w_a (ls := [(0, .ref 58), (1, .int (x4 / (Int32.ofInt 2))), (2, .int x1)]) f_307_0 ?_
    refine w_a f_307_1 ?_
    refine w_a f_307_4 ?_
    refine w_a f_307_5 ?_
    refine n_m (fun h => ?_) h
    refine w_a f_307_6 ?_
    refine w_a f_307_7 ?_
    refine w_a f_307_8 ?_
    refine w_a f_307_9 ?_
    refine w_a (ls := [(0, .int (I 61 ((x4 / (Int32.ofInt 2)).toNatClampNeg))), (1, .int (-x1)), (2, .int x1)]) f_208_0 ?_
    refine w_a f_208_1 ?_
    refine w_a f_208_2 ?_
    refine i_m (fun h => ?_) (fun h => ?_) h
    · refine w_a f_208_14 ?_
      refine w_a f_208_15 ?_
      refine w_a (ls := [(0, .ref 58), (1, .int (x4 / (Int32.ofInt 2))), (2, .int x1)]) f_307_12 ?_
      refine w_a f_307_29 ?_
      refine w_a f_307_30 ?_
      refine w_a (ls := [(0, .ref 58), (1, .int x1), (2, .int x2), (3, .int x3), (4, .int x4)]) f_310_96 ?_
      refine w_a f_310_99 ?_
      refine w_a f_310_184 ?_
      refine w_a (ls := [(4, .int (x4 + Int32.ofInt 1)), (0, .ref 58), (1, .int x1), (2, .int x2), (3, .int x3)]) f_310_187 ?_
      exact w_n (ks := [0, 1, 2, 3, 4]) rfl h
    · refine w_a f_208_5 ?_
      refine w_a f_208_6 ?_
      refine w_a f_208_7 ?_
      refine i_m (fun h => ?_) (fun h => ?_) h
      · refine w_a f_208_14 ?_
        refine w_a f_208_15 ?_
        refine w_a (ls := [(0, .ref 58), (1, .int (x4 / (Int32.ofInt 2))), (2, .int x1)]) f_307_12 ?_
        refine w_a f_307_29 ?_
        refine w_a f_307_30 ?_
        refine w_a (ls := [(0, .ref 58), (1, .int x1), (2, .int x2), (3, .int x3), (4, .int x4)]) f_310_96 ?_
        refine w_a f_310_99 ?_
        refine w_a f_310_184 ?_
        refine w_a (ls := [(4, .int (x4 + Int32.ofInt 1)), (0, .ref 58), (1, .int x1), (2, .int x2), (3, .int x3)]) f_310_187 ?_
        exact w_n (ks := [0, 1, 2, 3, 4]) rfl h
      · refine w_a f_208_10 ?_
        refine w_a f_208_11 ?_
        refine w_a f_208_15 ?_
        refine w_a (ls := [(0, .ref 58), (1, .int (x4 / (Int32.ofInt 2))), (2, .int x1)]) f_307_12 ?_
        refine w_a f_307_15 ?_
        refine w_a f_307_16 ?_
        refine w_a f_307_19 ?_
        refine w_a f_307_20 ?_
        refine n_m (fun h => ?_) h
        refine w_a f_307_21 ?_
        refine w_a f_307_22 ?_
        refine i_m (fun h => ?_) (fun h => ?_) h
        · refine w_a f_307_29 ?_
          refine w_a f_307_30 ?_
          refine w_a (ls := [(0, .ref 58), (1, .int x1), (2, .int x2), (3, .int x3), (4, .int x4)]) f_310_96 ?_
          refine w_a f_310_99 ?_
          refine w_a f_310_184 ?_
          refine w_a (ls := [(4, .int (x4 + Int32.ofInt 1)), (0, .ref 58), (1, .int x1), (2, .int x2), (3, .int x3)]) f_310_187 ?_
          exact w_n (ks := [0, 1, 2, 3, 4]) rfl h
        · refine w_a f_307_25 ?_
          refine w_a f_307_26 ?_
          refine w_a f_307_30 ?_
          refine w_a (ls := [(0, .ref 58), (1, .int x1), (2, .int x2), (3, .int x3), (4, .int x4)]) f_310_96 ?_
          refine w_a f_310_102 ?_
          refine w_a f_310_103 ?_
          refine w_c (ks := [0, 1, 2, 3, 4]) f_310_104 rfl rfl ?_
          refine w_a (ls := [(0, .ref 58), (1, .int (Int32.ofInt 4))]) f_313_0 ?_
          refine w_a f_313_1 ?_
          refine w_a f_313_2 ?_
          refine w_a f_313_5 ?_
          refine w_a f_313_6 ?_
          refine w_a f_313_7 ?_
          refine w_a f_313_8 ?_
          refine w_a f_313_11 ?_
          refine w_a f_313_12 ?_
          refine w_a f_313_13 ?_
          refine w_a f_313_14 ?_
          refine w_a f_313_15 ?_
          refine w_a f_313_16 ?_
          refine w_a f_313_19 ?_
          refine w_a f_313_20 ?_
          refine w_a f_313_21 ?_
          refine w_a f_313_22 ?_
          refine w_a f_313_23 ?_
          refine w_a f_313_24 ?_
          refine w_a f_313_27 ?_
          refine w_a f_313_28 ?_
          refine w_a f_313_29 ?_
          refine w_a f_313_30 ?_
          exact w_c (ks := [0]) f_313_31 rfl rfl h
  · refine w_a f_310_190 ?_
    refine w_a (ls := [(3, .int (x3 + Int32.ofInt 1)), (0, .ref 58), (1, .int x1), (2, .int x2), (4, .int x4)]) f_310_193 ?_
    exact w_n (ks := [0, 1, 2, 3]) rfl h
set_option maxRecDepth 10000 in
set_option maxHeartbeats 4000000 in
theorem s_310_107 {Lx : Nat} {I : Mi} {L : Ml} {e : Nat} {Q : Kq} {x1 : Int32} {x2 : Int32} {x3 : Int32} {x4 : Int32} (h :
    (if ((Int32.ofInt 1) - (x4 - x4 / (Int32.ofInt 2) * (Int32.ofInt 2))) = (Int32.ofInt 1) then
     (inb (x4 / (Int32.ofInt 2)) 184 (
      (inb (x4 / (Int32.ofInt 2)) 184 (
       Wp 229 0 [(0, .ref 58), (1, .int (Int32.ofInt 1)), (2, .long (I 61 ((x4 / (Int32.ofInt 2)).toNatClampNeg)).toInt64), (4, .long (I 62 ((x4 / (Int32.ofInt 2)).toNatClampNeg)).toInt64)] [] (gE Lx) I L e (kcp (Wp 310) 310 137 0 [(0, .ref 58), (1, .int x1), (2, .int x2), (3, .int x3), (4, .int x4)] 71 [] Q))
      False))
     False)
    else
     (inb (x4 / (Int32.ofInt 2)) 184 (
      (inb (x4 / (Int32.ofInt 2)) 184 (
       Wp 229 0 [(0, .ref 58), (1, .int (Int32.ofInt 2)), (2, .long (I 61 ((x4 / (Int32.ofInt 2)).toNatClampNeg)).toInt64), (4, .long (I 62 ((x4 / (Int32.ofInt 2)).toNatClampNeg)).toInt64)] [] (gE Lx) I L e (kcp (Wp 310) 310 137 0 [(0, .ref 58), (1, .int x1), (2, .int x2), (3, .int x3), (4, .int x4)] 71 [] Q))
      False))
     False))) :
    Wp 310 107 [(0, .ref 58), (1, .int x1), (2, .int x2), (3, .int x3), (4, .int x4)] [] (gE Lx) I L e Q := by
  refine w_a f_310_107 ?_
  refine w_a f_310_108 ?_
  refine w_a f_310_109 ?_
  refine w_a f_310_111 ?_
  refine w_a f_310_112 ?_
  refine w_a f_310_113 ?_
  refine w_a f_310_114 ?_
  refine w_a (ls := [(0, .int ((Int32.ofInt 1) - (x4 - x4 / (Int32.ofInt 2) * (Int32.ofInt 2))))]) f_314_0 ?_
  refine w_a f_314_1 ?_
  refine w_a f_314_2 ?_
  refine i_m (fun h => ?_) (fun h => ?_) h
  · refine w_a f_314_5 ?_
    refine w_a f_314_6 ?_
    refine w_a f_314_10 ?_
    refine w_a (ls := [(0, .ref 58), (1, .int x1), (2, .int x2), (3, .int x3), (4, .int x4)]) f_310_117 ?_
    refine w_a f_310_118 ?_
    refine w_a f_310_121 ?_
    refine w_a f_310_123 ?_
    refine w_a f_310_124 ?_
    refine w_a f_310_125 ?_
    refine n_m (fun h => ?_) h
    refine w_a f_310_126 ?_
    refine w_a f_310_127 ?_
    refine w_a f_310_128 ?_
    refine w_a f_310_131 ?_
    refine w_a f_310_133 ?_
    refine w_a f_310_134 ?_
    refine w_a f_310_135 ?_
    refine n_m (fun h => ?_) h
    refine w_a f_310_136 ?_
    exact w_c (ks := [0, 1, 2, 3, 4]) f_310_137 rfl rfl h
  · refine w_a f_314_9 ?_
    refine w_a f_314_10 ?_
    refine w_a (ls := [(0, .ref 58), (1, .int x1), (2, .int x2), (3, .int x3), (4, .int x4)]) f_310_117 ?_
    refine w_a f_310_118 ?_
    refine w_a f_310_121 ?_
    refine w_a f_310_123 ?_
    refine w_a f_310_124 ?_
    refine w_a f_310_125 ?_
    refine n_m (fun h => ?_) h
    refine w_a f_310_126 ?_
    refine w_a f_310_127 ?_
    refine w_a f_310_128 ?_
    refine w_a f_310_131 ?_
    refine w_a f_310_133 ?_
    refine w_a f_310_134 ?_
    refine w_a f_310_135 ?_
    refine n_m (fun h => ?_) h
    refine w_a f_310_136 ?_
    exact w_c (ks := [0, 1, 2, 3, 4]) f_310_137 rfl rfl h
set_option maxRecDepth 10000 in
set_option maxHeartbeats 4000000 in
theorem s_310_140 {Lx : Nat} {I : Mi} {L : Ml} {e : Nat} {Q : Kq} {x1 : Int32} {x2 : Int32} {x3 : Int32} {x4 : Int32} (h :
    (if x2 = 0 then
     Wp 315 0 [(0, .ref 58), (1, .int x3), (2, .int (x4 / (Int32.ofInt 2))), (3, .int ((Int32.ofInt 1) - (x4 - x4 / (Int32.ofInt 2) * (Int32.ofInt 2))))] [] (gE Lx) I L e (kcp (Wp 310) 310 156 0 [(0, .ref 58), (1, .int x1), (2, .int x2), (3, .int x3), (4, .int x4)] 71 [] Q)
    else
     (if (L 58 10) = (L 58 12) then
      (if (L 58 11) = (L 58 13) then
       (if (I 58 32) = (I 58 33) then
        Wp 310 76 [(0, .ref 58), (1, .int x1), (2, .int x2), (3, .int x3), (4, .int (x4 + Int32.ofInt 1))] [] (gE Lx) (ui (ui (ui (ui I 58 34 x3) 58 35 (x4 / (Int32.ofInt 2))) 58 36 ((Int32.ofInt 1) - (x4 - x4 / (Int32.ofInt 2) * (Int32.ofInt 2)))) 58 32 ((I 58 32) + (Int32.ofInt 1))) L e Q
       else
        Wp 310 76 [(0, .ref 58), (1, .int x1), (2, .int x2), (3, .int x3), (4, .int (x4 + Int32.ofInt 1))] [] (gE Lx) (ui I 58 32 ((I 58 32) + (Int32.ofInt 1))) L e Q)
      else
       Wp 310 76 [(0, .ref 58), (1, .int x1), (2, .int x2), (3, .int x3), (4, .int (x4 + Int32.ofInt 1))] [] (gE Lx) I L e Q)
     else
      Wp 310 76 [(0, .ref 58), (1, .int x1), (2, .int x2), (3, .int x3), (4, .int (x4 + Int32.ofInt 1))] [] (gE Lx) I L e Q))) :
    Wp 310 140 [(0, .ref 58), (1, .int x1), (2, .int x2), (3, .int x3), (4, .int x4)] [] (gE Lx) I L e Q := by
  refine w_a f_310_140 ?_
  refine w_a f_310_141 ?_
  refine i_m (fun h => ?_) (fun h => ?_) h
  · refine w_a f_310_144 ?_
    refine w_a f_310_145 ?_
    refine w_a f_310_146 ?_
    refine w_a f_310_148 ?_
    refine w_a f_310_149 ?_
    refine w_a f_310_150 ?_
    refine w_a f_310_151 ?_
    refine w_a f_310_153 ?_
    refine w_a f_310_154 ?_
    refine w_a f_310_155 ?_
    exact w_c (ks := [0, 1, 2, 3, 4]) f_310_156 rfl rfl h
  · refine w_a f_310_162 ?_
    refine w_a f_310_163 ?_
    refine w_a (ls := [(0, .ref 58)]) f_317_0 ?_
    refine w_a f_317_1 ?_
    refine w_a f_317_4 ?_
    refine w_a f_317_5 ?_
    refine w_a f_317_8 ?_
    refine i_m (fun h => ?_) (fun h => ?_) h
    · refine w_a f_317_12 ?_
      refine w_a f_317_13 ?_
      refine w_a f_317_16 ?_
      refine w_a f_317_17 ?_
      refine w_a f_317_20 ?_
      refine i_m (fun h => ?_) (fun h => ?_) h
      · refine w_a f_317_24 ?_
        refine w_a f_317_25 ?_
        refine w_a f_317_29 ?_
        refine w_a (ls := [(0, .ref 58), (1, .int x1), (2, .int x2), (3, .int x3), (4, .int x4)]) f_310_166 ?_
        refine w_a f_310_169 ?_
        refine w_a f_310_170 ?_
        refine w_a f_310_171 ?_
        refine w_a f_310_173 ?_
        refine w_a f_310_174 ?_
        refine w_a f_310_175 ?_
        refine w_a f_310_176 ?_
        refine w_a f_310_178 ?_
        refine w_a f_310_179 ?_
        refine w_a f_310_180 ?_
        refine w_a f_310_181 ?_
        refine w_a (ls := [(0, .ref 58), (1, .int x3), (2, .int (x4 / (Int32.ofInt 2))), (3, .int ((Int32.ofInt 1) - (x4 - x4 / (Int32.ofInt 2) * (Int32.ofInt 2))))]) f_318_0 ?_
        refine w_a f_318_1 ?_
        refine w_a f_318_4 ?_
        refine w_a f_318_5 ?_
        refine w_a f_318_8 ?_
        refine i_m (fun h => ?_) (fun h => ?_) h
        · refine w_a f_318_11 ?_
          refine w_a f_318_12 ?_
          refine w_a f_318_13 ?_
          refine w_a f_318_16 ?_
          refine w_a f_318_17 ?_
          refine w_a f_318_18 ?_
          refine w_a f_318_21 ?_
          refine w_a f_318_22 ?_
          refine w_a f_318_23 ?_
          refine w_a f_318_26 ?_
          refine w_a f_318_27 ?_
          refine w_a f_318_28 ?_
          refine w_a f_318_31 ?_
          refine w_a f_318_32 ?_
          refine w_a f_318_33 ?_
          refine w_a f_318_36 ?_
          refine w_a (ls := [(0, .ref 58), (1, .int x1), (2, .int x2), (3, .int x3), (4, .int x4)]) f_310_184 ?_
          refine w_a (ls := [(4, .int (x4 + Int32.ofInt 1)), (0, .ref 58), (1, .int x1), (2, .int x2), (3, .int x3)]) f_310_187 ?_
          exact w_n (ks := [0, 1, 2, 3, 4]) rfl h
        · refine w_a f_318_26 ?_
          refine w_a f_318_27 ?_
          refine w_a f_318_28 ?_
          refine w_a f_318_31 ?_
          refine w_a f_318_32 ?_
          refine w_a f_318_33 ?_
          refine w_a f_318_36 ?_
          refine w_a (ls := [(0, .ref 58), (1, .int x1), (2, .int x2), (3, .int x3), (4, .int x4)]) f_310_184 ?_
          refine w_a (ls := [(4, .int (x4 + Int32.ofInt 1)), (0, .ref 58), (1, .int x1), (2, .int x2), (3, .int x3)]) f_310_187 ?_
          exact w_n (ks := [0, 1, 2, 3, 4]) rfl h
      · refine w_a f_317_28 ?_
        refine w_a f_317_29 ?_
        refine w_a (ls := [(0, .ref 58), (1, .int x1), (2, .int x2), (3, .int x3), (4, .int x4)]) f_310_166 ?_
        refine w_a f_310_184 ?_
        refine w_a (ls := [(4, .int (x4 + Int32.ofInt 1)), (0, .ref 58), (1, .int x1), (2, .int x2), (3, .int x3)]) f_310_187 ?_
        exact w_n (ks := [0, 1, 2, 3, 4]) rfl h
    · refine w_a f_317_28 ?_
      refine w_a f_317_29 ?_
      refine w_a (ls := [(0, .ref 58), (1, .int x1), (2, .int x2), (3, .int x3), (4, .int x4)]) f_310_166 ?_
      refine w_a f_310_184 ?_
      refine w_a (ls := [(4, .int (x4 + Int32.ofInt 1)), (0, .ref 58), (1, .int x1), (2, .int x2), (3, .int x3)]) f_310_187 ?_
      exact w_n (ks := [0, 1, 2, 3, 4]) rfl h
set_option maxRecDepth 10000 in
set_option maxHeartbeats 4000000 in
theorem s_310_159 {Lx : Nat} {I : Mi} {L : Ml} {e : Nat} {Q : Kq} {x1 : Int32} {x2 : Int32} {x3 : Int32} {x4 : Int32} (h :
    Wp 310 76 [(0, .ref 58), (1, .int x1), (2, .int x2), (3, .int x3), (4, .int (x4 + Int32.ofInt 1))] [] (gE Lx) I L e Q) :
    Wp 310 159 [(0, .ref 58), (1, .int x1), (2, .int x2), (3, .int x3), (4, .int x4)] [] (gE Lx) I L e Q := by
  refine w_a f_310_159 ?_
  refine w_a f_310_184 ?_
  refine w_a (ls := [(4, .int (x4 + Int32.ofInt 1)), (0, .ref 58), (1, .int x1), (2, .int x2), (3, .int x3)]) f_310_187 ?_
  exact w_n (ks := [0, 1, 2, 3, 4]) rfl h
set_option maxRecDepth 10000 in
set_option maxHeartbeats 4000000 in
theorem s_313_34 {Lx : Nat} {I : Mi} {L : Ml} {e : Nat} {Q : Kq} (h :
    Q (.inl none) (gE Lx) I L e) :
    Wp 313 34 [(0, .ref 58)] [] (gE Lx) I L e Q := by
  refine w_a f_313_34 ?_
  exact h
set_option maxRecDepth 10000 in
set_option maxHeartbeats 4000000 in
theorem s_315_0 {Lx : Nat} {I : Mi} {L : Ml} {e : Nat} {Q : Kq} {x1 : Int32} {x2 : Int32} {x3 : Int32} (h :
    Wp 240 0 [(0, .ref 58)] [] (gE Lx) I L e (kcp (Wp 315) 315 1 0 [(0, .ref 58), (1, .int x1), (2, .int x2), (3, .int x3)] 71 [] Q)) :
    Wp 315 0 [(0, .ref 58), (1, .int x1), (2, .int x2), (3, .int x3)] [] (gE Lx) I L e Q := by
  refine w_a f_315_0 ?_
  exact w_c (ks := [0, 1, 2, 3]) f_315_1 rfl rfl h
set_option maxRecDepth 10000 in
set_option maxHeartbeats 4000000 in
theorem s_315_4 {Lx : Nat} {I : Mi} {L : Ml} {e : Nat} {Q : Kq} {x1 : Int32} {x2 : Int32} {x3 : Int32} (h :
    (if (I 58 30) = 0 then
     Q (.inl none) (gE Lx) (ui (ui (ui (ui I 58 30 (Int32.ofInt 1)) 58 27 x1) 58 28 x2) 58 29 x3) (ul (ul L 58 25 (L 58 8)) 58 26 (L 58 9)) e
    else
     Wp 316 0 [(0, .long (L 58 8)), (2, .long (L 58 9)), (4, .long (L 58 25)), (6, .long (L 58 26))] [] (gE Lx) I L e (kcp (Wp 315) 315 27 0 [(0, .ref 58), (1, .int x1), (2, .int x2), (3, .int x3)] 71 [] Q))) :
    Wp 315 4 [(0, .ref 58), (1, .int x1), (2, .int x2), (3, .int x3)] [] (gE Lx) I L e Q := by
  refine w_a f_315_4 ?_
  refine w_a f_315_5 ?_
  refine w_a f_315_8 ?_
  refine i_m (fun h => ?_) (fun h => ?_) h
  · refine w_a f_315_34 ?_
    refine w_a f_315_35 ?_
    refine w_a f_315_36 ?_
    refine w_a f_315_39 ?_
    refine w_a f_315_40 ?_
    refine w_a f_315_41 ?_
    refine w_a f_315_44 ?_
    refine w_a f_315_47 ?_
    refine w_a f_315_48 ?_
    refine w_a f_315_49 ?_
    refine w_a f_315_52 ?_
    refine w_a f_315_55 ?_
    refine w_a f_315_56 ?_
    refine w_a f_315_57 ?_
    refine w_a f_315_60 ?_
    refine w_a f_315_61 ?_
    refine w_a f_315_62 ?_
    refine w_a f_315_65 ?_
    refine w_a f_315_66 ?_
    refine w_a f_315_67 ?_
    refine w_a f_315_70 ?_
    exact h
  · refine w_a f_315_11 ?_
    refine w_a f_315_12 ?_
    refine w_a f_315_15 ?_
    refine w_a f_315_16 ?_
    refine w_a f_315_19 ?_
    refine w_a f_315_20 ?_
    refine w_a f_315_23 ?_
    refine w_a f_315_24 ?_
    exact w_c (ks := [0, 1, 2, 3]) f_315_27 rfl rfl h
set_option maxRecDepth 10000 in
set_option maxHeartbeats 4000000 in
theorem s_315_30 {Lx : Nat} {I : Mi} {L : Ml} {e : Nat} {Q : Kq} {x1 : Int32} {x2 : Int32} {x3 : Int32} {r : Int32} (h :
    (if r < 0 then
     Q (.inl none) (gE Lx) (ui (ui (ui (ui I 58 30 (Int32.ofInt 1)) 58 27 x1) 58 28 x2) 58 29 x3) (ul (ul L 58 25 (L 58 8)) 58 26 (L 58 9)) e
    else
     Q (.inl none) (gE Lx) I L e)) :
    Wp 315 30 [(0, .ref 58), (1, .int x1), (2, .int x2), (3, .int x3)] [.int r] (gE Lx) I L e Q := by
  refine w_a f_315_30 ?_
  refine i_m (fun h => ?_) (fun h => ?_) h
  · refine w_a f_315_34 ?_
    refine w_a f_315_35 ?_
    refine w_a f_315_36 ?_
    refine w_a f_315_39 ?_
    refine w_a f_315_40 ?_
    refine w_a f_315_41 ?_
    refine w_a f_315_44 ?_
    refine w_a f_315_47 ?_
    refine w_a f_315_48 ?_
    refine w_a f_315_49 ?_
    refine w_a f_315_52 ?_
    refine w_a f_315_55 ?_
    refine w_a f_315_56 ?_
    refine w_a f_315_57 ?_
    refine w_a f_315_60 ?_
    refine w_a f_315_61 ?_
    refine w_a f_315_62 ?_
    refine w_a f_315_65 ?_
    refine w_a f_315_66 ?_
    refine w_a f_315_67 ?_
    refine w_a f_315_70 ?_
    exact h
  · refine w_a f_315_33 ?_
    exact h
set_option maxRecDepth 10000 in
set_option maxHeartbeats 4000000 in
theorem s_316_0 {Lx : Nat} {I : Mi} {L : Ml} {e : Nat} {Q : Kq} {y0 : Int64} {y2 : Int64} {y4 : Int64} {y6 : Int64} (h :
    Wp 316 17 [(8, .long y0), (10, .long y2), (12, .long y4), (14, .long y6), (16, .int (Int32.ofInt 1))] [] (gE Lx) I L e Q) :
    Wp 316 0 [(0, .long y0), (2, .long y2), (4, .long y4), (6, .long y6)] [] (gE Lx) I L e Q := by
  refine w_a f_316_0 ?_
  refine w_a f_316_1 ?_
  refine w_a (ls := [(8, .long y0), (0, .long y0), (2, .long y2), (4, .long y4), (6, .long y6)]) f_316_3 ?_
  refine w_a f_316_4 ?_
  refine w_a (ls := [(10, .long y2), (8, .long y0), (0, .long y0), (2, .long y2), (4, .long y4), (6, .long y6)]) f_316_6 ?_
  refine w_a f_316_8 ?_
  refine w_a (ls := [(12, .long y4), (10, .long y2), (8, .long y0), (0, .long y0), (2, .long y2), (4, .long y4), (6, .long y6)]) f_316_10 ?_
  refine w_a f_316_12 ?_
  refine w_a (ls := [(14, .long y6), (12, .long y4), (10, .long y2), (8, .long y0), (0, .long y0), (2, .long y2), (4, .long y4), (6, .long y6)]) f_316_14 ?_
  refine w_a f_316_15 ?_
  exact w_n (ks := [8, 10, 12, 14, 16]) rfl h
set_option maxRecDepth 10000 in
set_option maxHeartbeats 4000000 in
theorem s_316_17 {Lx : Nat} {I : Mi} {L : Ml} {e : Nat} {Q : Kq} {y8 : Int64} {y10 : Int64} {y12 : Int64} {y14 : Int64} {x16 : Int32} (h :
    (if y10 = 0 then False else
     (if y14 = 0 then False else
      (if (y8 / y10) = (y12 / y14) then
       (if y10 = 0 then False else
        (if y14 = 0 then False else
         (if (y8 - y8 / y10 * y10) = (Int64.ofInt 0) then
          (if (y8 - y8 / y10 * y10) = (y12 - y12 / y14 * y14) then
           Q (.inl (some (.int (Int32.ofInt 0)))) (gE Lx) I L e
          else
           (if (y8 - y8 / y10 * y10) = (Int64.ofInt 0) then
            Q (.inl (some (.int (-x16)))) (gE Lx) I L e
           else
            Q (.inl (some (.int x16))) (gE Lx) I L e))
         else
          (if (y12 - y12 / y14 * y14) = (Int64.ofInt 0) then
           (if (y8 - y8 / y10 * y10) = (y12 - y12 / y14 * y14) then
            Q (.inl (some (.int (Int32.ofInt 0)))) (gE Lx) I L e
           else
            (if (y8 - y8 / y10 * y10) = (Int64.ofInt 0) then
             Q (.inl (some (.int (-x16)))) (gE Lx) I L e
            else
             Q (.inl (some (.int x16))) (gE Lx) I L e))
          else
           Wp 316 17 [(8, .long y10), (10, .long (y8 - y8 / y10 * y10)), (12, .long y14), (14, .long (y12 - y12 / y14 * y14)), (16, .int (-x16))] [] (gE Lx) I L e Q))))
      else
       (if y10 = 0 then False else
        (if y14 = 0 then False else
         (if (y8 / y10) < (y12 / y14) then
          Q (.inl (some (.int (-x16)))) (gE Lx) I L e
         else
          Q (.inl (some (.int x16))) (gE Lx) I L e))))))) :
    Wp 316 17 [(8, .long y8), (10, .long y10), (12, .long y12), (14, .long y14), (16, .int x16)] [] (gE Lx) I L e Q := by
  refine w_a f_316_17 ?_
  refine w_a f_316_19 ?_
  refine w_a f_316_21 ?_
  refine i_m id (fun h => ?_) h
  refine w_a f_316_22 ?_
  refine w_a f_316_24 ?_
  refine w_a f_316_26 ?_
  refine i_m id (fun h => ?_) h
  refine w_a f_316_27 ?_
  refine i_m (fun h => ?_) (fun h => ?_) h
  · refine w_a f_316_31 ?_
    refine w_a f_316_33 ?_
    refine w_a f_316_35 ?_
    refine i_m id (fun h => ?_) h
    refine w_a f_316_36 ?_
    refine w_a (ls := [(17, .long (y8 - y8 / y10 * y10)), (8, .long y8), (10, .long y10), (12, .long y12), (14, .long y14), (16, .int x16)]) f_316_38 ?_
    refine w_a f_316_40 ?_
    refine w_a f_316_42 ?_
    refine i_m id (fun h => ?_) h
    refine w_a f_316_43 ?_
    refine w_a (ls := [(19, .long (y12 - y12 / y14 * y14)), (17, .long (y8 - y8 / y10 * y10)), (8, .long y8), (10, .long y10), (12, .long y12), (14, .long y14), (16, .int x16)]) f_316_45 ?_
    refine w_a f_316_47 ?_
    refine w_a f_316_48 ?_
    refine i_m (fun h => ?_) (fun h => ?_) h
    · refine w_a f_316_59 ?_
      refine w_a f_316_61 ?_
      refine w_a f_316_63 ?_
      refine i_m (fun h => ?_) (fun h => ?_) h
      · refine w_a f_316_67 ?_
        refine w_a f_316_68 ?_
        refine w_a f_316_86 ?_
        exact h
      · refine w_a f_316_71 ?_
        refine w_a f_316_73 ?_
        refine w_a f_316_74 ?_
        refine i_m (fun h => ?_) (fun h => ?_) h
        · refine w_a f_316_78 ?_
          refine w_a f_316_80 ?_
          refine w_a f_316_81 ?_
          refine w_a f_316_86 ?_
          exact h
        · refine w_a f_316_84 ?_
          refine w_a f_316_86 ?_
          exact h
    · refine w_a f_316_52 ?_
      refine w_a f_316_54 ?_
      refine w_a f_316_55 ?_
      refine i_m (fun h => ?_) (fun h => ?_) h
      · refine w_a f_316_59 ?_
        refine w_a f_316_61 ?_
        refine w_a f_316_63 ?_
        refine i_m (fun h => ?_) (fun h => ?_) h
        · refine w_a f_316_67 ?_
          refine w_a f_316_68 ?_
          refine w_a f_316_86 ?_
          exact h
        · refine w_a f_316_71 ?_
          refine w_a f_316_73 ?_
          refine w_a f_316_74 ?_
          refine i_m (fun h => ?_) (fun h => ?_) h
          · refine w_a f_316_78 ?_
            refine w_a f_316_80 ?_
            refine w_a f_316_81 ?_
            refine w_a f_316_86 ?_
            exact h
          · refine w_a f_316_84 ?_
            refine w_a f_316_86 ?_
            exact h
      · refine w_a f_316_87 ?_
        refine w_a f_316_89 ?_
        refine w_a (ls := [(8, .long y10), (19, .long (y12 - y12 / y14 * y14)), (17, .long (y8 - y8 / y10 * y10)), (10, .long y10), (12, .long y12), (14, .long y14), (16, .int x16)]) f_316_91 ?_
        refine w_a f_316_93 ?_
        refine w_a (ls := [(10, .long (y8 - y8 / y10 * y10)), (8, .long y10), (19, .long (y12 - y12 / y14 * y14)), (17, .long (y8 - y8 / y10 * y10)), (12, .long y12), (14, .long y14), (16, .int x16)]) f_316_95 ?_
        refine w_a f_316_97 ?_
        refine w_a (ls := [(12, .long y14), (10, .long (y8 - y8 / y10 * y10)), (8, .long y10), (19, .long (y12 - y12 / y14 * y14)), (17, .long (y8 - y8 / y10 * y10)), (14, .long y14), (16, .int x16)]) f_316_99 ?_
        refine w_a f_316_101 ?_
        refine w_a (ls := [(14, .long (y12 - y12 / y14 * y14)), (12, .long y14), (10, .long (y8 - y8 / y10 * y10)), (8, .long y10), (19, .long (y12 - y12 / y14 * y14)), (17, .long (y8 - y8 / y10 * y10)), (16, .int x16)]) f_316_103 ?_
        refine w_a f_316_105 ?_
        refine w_a f_316_106 ?_
        refine w_a (ls := [(16, .int (-x16)), (14, .long (y12 - y12 / y14 * y14)), (12, .long y14), (10, .long (y8 - y8 / y10 * y10)), (8, .long y10), (19, .long (y12 - y12 / y14 * y14)), (17, .long (y8 - y8 / y10 * y10))]) f_316_108 ?_
        exact w_n (ks := [8, 10, 12, 14, 16]) rfl h
  · refine w_a f_316_111 ?_
    refine w_a f_316_113 ?_
    refine w_a f_316_115 ?_
    refine i_m id (fun h => ?_) h
    refine w_a f_316_116 ?_
    refine w_a f_316_118 ?_
    refine w_a f_316_120 ?_
    refine i_m id (fun h => ?_) h
    refine w_a f_316_121 ?_
    refine i_m (fun h => ?_) (fun h => ?_) h
    · refine w_a f_316_125 ?_
      refine w_a f_316_127 ?_
      refine w_a f_316_128 ?_
      refine w_a f_316_133 ?_
      exact h
    · refine w_a f_316_131 ?_
      refine w_a f_316_133 ?_
      exact h
set_option maxRecDepth 10000 in
set_option maxHeartbeats 4000000 in
theorem s_319_11 {Lx : Nat} {I : Mi} {L : Ml} {e : Nat} {Q : Kq} {r : Int32} (h :
    Q (.inl (some (.int r))) (gE Lx) I L e) :
    Wp 319 11 [(0, .ref 58)] [.int r] (gE Lx) I L e Q := by
  refine w_a f_319_11 ?_
  exact h
set_option maxRecDepth 10000 in
set_option maxHeartbeats 4000000 in
theorem s_320_0 {Lx : Nat} {I : Mi} {L : Ml} {e : Nat} {Q : Kq} {y0 : Int64} {y2 : Int64} (h :
    (if y2 = 0 then False else
     (if y2 = 0 then False else
      Wp 320 13 [(2, .long y2), (4, .long (y0 / y2)), (6, .long (y0 - y0 / y2 * y2)), (8, .int (Int32.ofInt 0))] [] (gE Lx) I L e Q))) :
    Wp 320 0 [(0, .long y0), (2, .long y2)] [] (gE Lx) I L e Q := by
  refine w_a f_320_0 ?_
  refine w_a f_320_1 ?_
  refine w_a f_320_2 ?_
  refine i_m id (fun h => ?_) h
  refine w_a f_320_3 ?_
  refine w_a (ls := [(4, .long (y0 / y2)), (0, .long y0), (2, .long y2)]) f_320_5 ?_
  refine w_a f_320_6 ?_
  refine w_a f_320_7 ?_
  refine i_m id (fun h => ?_) h
  refine w_a f_320_8 ?_
  refine w_a (ls := [(6, .long (y0 - y0 / y2 * y2)), (4, .long (y0 / y2)), (0, .long y0), (2, .long y2)]) f_320_10 ?_
  refine w_a f_320_11 ?_
  exact w_n (ks := [2, 4, 6, 8]) rfl h
set_option maxRecDepth 10000 in
set_option maxHeartbeats 4000000 in
theorem s_320_13 {Lx : Nat} {I : Mi} {L : Ml} {e : Nat} {Q : Kq} {y2 : Int64} {y4 : Int64} {y6 : Int64} {x8 : Int32} (h :
    (if x8 < (Int32.ofInt 4) then
     (if y2 = 0 then False else
      (if y2 = 0 then False else
       Wp 320 13 [(2, .long y2), (4, .long (((Int64.ofInt 10) * y4) + (((Int64.ofInt 10) * y6) / y2))), (6, .long (((Int64.ofInt 10) * y6) - ((Int64.ofInt 10) * y6) / y2 * y2)), (8, .int (x8 + Int32.ofInt 1))] [] (gE Lx) I L e Q))
    else
     Q (.inl (some (.int y4.toInt32))) (gE Lx) I L e)) :
    Wp 320 13 [(2, .long y2), (4, .long y4), (6, .long y6), (8, .int x8)] [] (gE Lx) I L e Q := by
  refine w_a f_320_13 ?_
  refine w_a f_320_15 ?_
  refine w_a f_320_16 ?_
  refine i_m (fun h => ?_) (fun h => ?_) h
  · refine w_a f_320_19 ?_
    refine w_a f_320_22 ?_
    refine w_a f_320_24 ?_
    refine w_a f_320_25 ?_
    refine w_a f_320_28 ?_
    refine w_a f_320_30 ?_
    refine w_a f_320_31 ?_
    refine w_a f_320_32 ?_
    refine i_m id (fun h => ?_) h
    refine w_a f_320_33 ?_
    refine w_a f_320_34 ?_
    refine w_a (ls := [(4, .long (((Int64.ofInt 10) * y4) + (((Int64.ofInt 10) * y6) / y2))), (2, .long y2), (6, .long y6), (8, .int x8)]) f_320_36 ?_
    refine w_a f_320_39 ?_
    refine w_a f_320_41 ?_
    refine w_a f_320_42 ?_
    refine w_a f_320_43 ?_
    refine i_m id (fun h => ?_) h
    refine w_a f_320_44 ?_
    refine w_a (ls := [(6, .long (((Int64.ofInt 10) * y6) - ((Int64.ofInt 10) * y6) / y2 * y2)), (4, .long (((Int64.ofInt 10) * y4) + (((Int64.ofInt 10) * y6) / y2))), (2, .long y2), (8, .int x8)]) f_320_46 ?_
    refine w_a (ls := [(8, .int (x8 + Int32.ofInt 1)), (6, .long (((Int64.ofInt 10) * y6) - ((Int64.ofInt 10) * y6) / y2 * y2)), (4, .long (((Int64.ofInt 10) * y4) + (((Int64.ofInt 10) * y6) / y2))), (2, .long y2)]) f_320_49 ?_
    exact w_n (ks := [2, 4, 6, 8]) rfl h
  · refine w_a f_320_52 ?_
    refine w_a f_320_54 ?_
    refine w_a f_320_55 ?_
    exact h
set_option maxRecDepth 10000 in
set_option maxHeartbeats 4000000 in
theorem s_322_64 {Lx : Nat} {I : Mi} {L : Ml} {e : Nat} {Q : Kq} {x2 : Int32} {x3 : Int32} (h :
    (if x2 = (Int32.ofInt (-1)) then
     Q (.inl (some (.int (I 58 32)))) (gE Lx) I L e
    else
     (if x2 < (Int32.ofInt 0) then
      Q (.inl (some (.int (Int32.ofInt (-1))))) (gE Lx) I L e
     else
      (if ((I 58 32) - (Int32.ofInt 1)) < x2 then
       Q (.inl (some (.int (Int32.ofInt (-1))))) (gE Lx) I L e
      else
       (if x3 = Int32.ofInt 0 then
        (inb (I 58 34) 184 (
         Q (.inl (some (.int (I 61 ((I 58 34).toNatClampNeg))))) (gE Lx) I L e)
        False)
       else
       (if x3 = Int32.ofInt 1 then
        (inb (I 58 34) 184 (
         Q (.inl (some (.int (I 62 ((I 58 34).toNatClampNeg))))) (gE Lx) I L e)
        False)
       else
       (if x3 = Int32.ofInt 2 then
        Q (.inl (some (.int (I 58 36)))) (gE Lx) I L e
       else
       (if x3 = Int32.ofInt 3 then
        (inb (I 58 35) 184 (
         Q (.inl (some (.int (I 61 ((I 58 35).toNatClampNeg))))) (gE Lx) I L e)
        False)
       else
        (inb (I 58 35) 184 (
         Q (.inl (some (.int (I 62 ((I 58 35).toNatClampNeg))))) (gE Lx) I L e)
        False))))))))) :
    Wp 322 64 [(0, .ref 58), (2, .int x2), (3, .int x3)] [] (gE Lx) I L e Q := by
  refine w_a f_322_64 ?_
  refine w_a f_322_65 ?_
  refine w_a f_322_66 ?_
  refine i_m (fun h => ?_) (fun h => ?_) h
  · refine w_a f_322_69 ?_
    refine w_a f_322_70 ?_
    refine w_a f_322_73 ?_
    exact h
  · refine w_a f_322_74 ?_
    refine w_a f_322_75 ?_
    refine w_a f_322_76 ?_
    refine w_a f_322_77 ?_
    refine w_a f_322_80 ?_
    refine w_a f_322_81 ?_
    refine w_a f_322_82 ?_
    refine w_a (ls := [(0, .int x2), (1, .int (Int32.ofInt 0)), (2, .int ((I 58 32) - (Int32.ofInt 1)))]) f_208_0 ?_
    refine w_a f_208_1 ?_
    refine w_a f_208_2 ?_
    refine i_m (fun h => ?_) (fun h => ?_) h
    · refine w_a f_208_14 ?_
      refine w_a f_208_15 ?_
      refine w_a (ls := [(0, .ref 58), (2, .int x2), (3, .int x3)]) f_322_85 ?_
      refine w_a f_322_108 ?_
      refine w_a f_322_109 ?_
      exact h
    · refine w_a f_208_5 ?_
      refine w_a f_208_6 ?_
      refine w_a f_208_7 ?_
      refine i_m (fun h => ?_) (fun h => ?_) h
      · refine w_a f_208_14 ?_
        refine w_a f_208_15 ?_
        refine w_a (ls := [(0, .ref 58), (2, .int x2), (3, .int x3)]) f_322_85 ?_
        refine w_a f_322_108 ?_
        refine w_a f_322_109 ?_
        exact h
      · refine w_a f_208_10 ?_
        refine w_a f_208_11 ?_
        refine w_a f_208_15 ?_
        refine w_a (ls := [(0, .ref 58), (2, .int x2), (3, .int x3)]) f_322_85 ?_
        refine w_a f_322_88 ?_
        refine w_a f_322_89 ?_
        refine w_a f_322_90 ?_
        refine w_a f_322_93 ?_
        refine w_a f_322_94 ?_
        refine w_a f_322_97 ?_
        refine w_a f_322_98 ?_
        refine w_a f_322_101 ?_
        refine w_a f_322_102 ?_
        refine w_a (ls := [(0, .ref 58), (1, .int (I 58 34)), (2, .int (I 58 35)), (3, .int (I 58 36)), (4, .int x3)]) f_321_0 ?_
        refine w_a f_321_2 ?_
        refine i_m (fun h => ?_) (fun h => ?_) h
        · refine w_a f_321_32 ?_
          refine w_a f_321_33 ?_
          refine w_a f_321_36 ?_
          refine w_a f_321_37 ?_
          refine n_m (fun h => ?_) h
          refine w_a f_321_38 ?_
          refine w_a (ls := [(0, .ref 58), (2, .int x2), (3, .int x3)]) f_322_105 ?_
          refine w_a f_322_109 ?_
          exact h
        · refine i_m (fun h => ?_) (fun h => ?_) h
          · refine w_a f_321_39 ?_
            refine w_a f_321_40 ?_
            refine w_a f_321_43 ?_
            refine w_a f_321_44 ?_
            refine n_m (fun h => ?_) h
            refine w_a f_321_45 ?_
            refine w_a (ls := [(0, .ref 58), (2, .int x2), (3, .int x3)]) f_322_105 ?_
            refine w_a f_322_109 ?_
            exact h
          · refine i_m (fun h => ?_) (fun h => ?_) h
            · refine w_a f_321_46 ?_
              refine w_a f_321_47 ?_
              refine w_a (ls := [(0, .ref 58), (2, .int x2), (3, .int x3)]) f_322_105 ?_
              refine w_a f_322_109 ?_
              exact h
            · refine i_m (fun h => ?_) (fun h => ?_) h
              · refine w_a f_321_48 ?_
                refine w_a f_321_49 ?_
                refine w_a f_321_52 ?_
                refine w_a f_321_53 ?_
                refine n_m (fun h => ?_) h
                refine w_a f_321_54 ?_
                refine w_a (ls := [(0, .ref 58), (2, .int x2), (3, .int x3)]) f_322_105 ?_
                refine w_a f_322_109 ?_
                exact h
              · refine w_a f_321_55 ?_
                refine w_a f_321_56 ?_
                refine w_a f_321_59 ?_
                refine w_a f_321_60 ?_
                refine n_m (fun h => ?_) h
                refine w_a f_321_61 ?_
                refine w_a (ls := [(0, .ref 58), (2, .int x2), (3, .int x3)]) f_322_105 ?_
                refine w_a f_322_109 ?_
                exact h
set_option maxRecDepth 10000 in
set_option maxHeartbeats 4000000 in
theorem s_323_58 {Lx : Nat} {I : Mi} {L : Ml} {e : Nat} {Q : Kq} {x1 : Int32} {x2 : Int32} {x3 : Int32} (h :
    (if x3 < (I 59 3) then
     Wp 323 69 [(0, .ref 58), (1, .int x1), (2, .int x2), (3, .int x3), (4, .int (Int32.ofInt 0))] [] (gE Lx) I L e Q
    else
     (if x2 = 0 then
      Wp 323 167 [(0, .ref 58)] [.int (I 58 27)] (gE Lx) I L e Q
     else
      (if x2 = (Int32.ofInt 1) then
       (inb (I 58 28) 184 (
        Wp 323 167 [(0, .ref 58)] [.int (I 61 ((I 58 28).toNatClampNeg))] (gE Lx) I L e Q)
       False)
      else
       (if x2 = (Int32.ofInt 2) then
        (inb (I 58 28) 184 (
         Wp 323 167 [(0, .ref 58)] [.int (I 62 ((I 58 28).toNatClampNeg))] (gE Lx) I L e Q)
        False)
       else
        Wp 320 0 [(0, .long (L 58 25)), (2, .long (L 58 26))] [] (gE Lx) I L e (kcp (Wp 319) 319 8 0 [(0, .ref 58)] 71 [] (kcp (Wp 323) 323 164 0 [(0, .ref 58)] 71 [] Q))))))) :
    Wp 323 58 [(0, .ref 58), (1, .int x1), (2, .int x2), (3, .int x3)] [] (gE Lx) I L e Q := by
  refine w_a f_323_58 ?_
  refine w_a f_323_59 ?_
  refine w_a f_323_60 ?_
  refine w_a (ls := [(0, .ref 58)]) f_215_0 ?_
  refine w_a f_215_1 ?_
  refine w_a f_215_4 ?_
  refine w_a f_215_5 ?_
  refine w_a f_215_6 ?_
  refine w_a (ls := [(0, .ref 58), (1, .int x1), (2, .int x2), (3, .int x3)]) f_323_63 ?_
  refine i_m (fun h => ?_) (fun h => ?_) h
  · refine w_a f_323_66 ?_
    refine w_a f_323_67 ?_
    exact w_n (ks := [0, 1, 2, 3, 4]) rfl h
  · refine w_a f_323_118 ?_
    refine w_a f_323_119 ?_
    refine i_m (fun h => ?_) (fun h => ?_) h
    · refine w_a f_323_122 ?_
      refine w_a f_323_123 ?_
      refine w_a f_323_126 ?_
      exact w_n (ks := [0]) rfl h
    · refine w_a f_323_129 ?_
      refine w_a f_323_130 ?_
      refine w_a f_323_131 ?_
      refine i_m (fun h => ?_) (fun h => ?_) h
      · refine w_a f_323_134 ?_
        refine w_a f_323_135 ?_
        refine w_a f_323_138 ?_
        refine w_a f_323_139 ?_
        refine w_a f_323_142 ?_
        refine n_m (fun h => ?_) h
        refine w_a f_323_143 ?_
        exact w_n (ks := [0]) rfl h
      · refine w_a f_323_146 ?_
        refine w_a f_323_147 ?_
        refine w_a f_323_148 ?_
        refine i_m (fun h => ?_) (fun h => ?_) h
        · refine w_a f_323_151 ?_
          refine w_a f_323_152 ?_
          refine w_a f_323_155 ?_
          refine w_a f_323_156 ?_
          refine w_a f_323_159 ?_
          refine n_m (fun h => ?_) h
          refine w_a f_323_160 ?_
          exact w_n (ks := [0]) rfl h
        · refine w_a f_323_163 ?_
          refine w_c (ks := [0]) f_323_164 rfl rfl ?_
          refine w_a (ls := [(0, .ref 58)]) f_319_0 ?_
          refine w_a f_319_1 ?_
          refine w_a f_319_4 ?_
          refine w_a f_319_5 ?_
          exact w_c (ks := [0]) f_319_8 rfl rfl h
set_option maxRecDepth 10000 in
set_option maxHeartbeats 4000000 in
theorem s_323_69 {Lx : Nat} {I : Mi} {L : Ml} {e : Nat} {Q : Kq} {x1 : Int32} {x2 : Int32} {x3 : Int32} {x4 : Int32} (h :
    (if x4 < (I 58 7) then
     (inb x4 184 (
      (if (I 61 x4.toNatClampNeg) < (-x1) then
       Wp 323 106 [(0, .ref 58), (1, .int x1), (2, .int x2), (3, .int x3), (4, .int x4)] [] (gE Lx) I L e Q
      else
       (if x1 < (I 61 x4.toNatClampNeg) then
        Wp 323 106 [(0, .ref 58), (1, .int x1), (2, .int x2), (3, .int x3), (4, .int x4)] [] (gE Lx) I L e Q
       else
        (inb x4 184 (
         (if x1 < (I 62 x4.toNatClampNeg) then
          Wp 323 106 [(0, .ref 58), (1, .int x1), (2, .int x2), (3, .int x3), (4, .int x4)] [] (gE Lx) I L e Q
         else
          Wp 324 0 [(0, .ref 58), (1, .int x3), (2, .int x4)] [] (gE Lx) I L e (kcp (Wp 323) 323 95 0 [(0, .ref 58), (1, .int x1), (2, .int x2), (3, .int x3), (4, .int x4)] 71 [] Q)))
        False))))
     False)
    else
     Wp 323 58 [(0, .ref 58), (1, .int x1), (2, .int x2), (3, .int (x3 + Int32.ofInt 1))] [] (gE Lx) I L e Q)) :
    Wp 323 69 [(0, .ref 58), (1, .int x1), (2, .int x2), (3, .int x3), (4, .int x4)] [] (gE Lx) I L e Q := by
  refine w_a f_323_69 ?_
  refine w_a f_323_71 ?_
  refine w_a f_323_72 ?_
  refine w_a f_323_75 ?_
  refine i_m (fun h => ?_) (fun h => ?_) h
  · refine w_a f_323_78 ?_
    refine w_a f_323_79 ?_
    refine w_a f_323_81 ?_
    refine w_a f_323_82 ?_
    refine w_a (ls := [(0, .ref 58), (1, .int x4), (2, .int x1)]) f_307_0 ?_
    refine w_a f_307_1 ?_
    refine w_a f_307_4 ?_
    refine w_a f_307_5 ?_
    refine n_m (fun h => ?_) h
    refine w_a f_307_6 ?_
    refine w_a f_307_7 ?_
    refine w_a f_307_8 ?_
    refine w_a f_307_9 ?_
    refine w_a (ls := [(0, .int (I 61 x4.toNatClampNeg)), (1, .int (-x1)), (2, .int x1)]) f_208_0 ?_
    refine w_a f_208_1 ?_
    refine w_a f_208_2 ?_
    refine i_m (fun h => ?_) (fun h => ?_) h
    · refine w_a f_208_14 ?_
      refine w_a f_208_15 ?_
      refine w_a (ls := [(0, .ref 58), (1, .int x4), (2, .int x1)]) f_307_12 ?_
      refine w_a f_307_29 ?_
      refine w_a f_307_30 ?_
      refine w_a (ls := [(0, .ref 58), (1, .int x1), (2, .int x2), (3, .int x3), (4, .int x4)]) f_323_85 ?_
      refine w_a f_323_88 ?_
      exact w_n (ks := [0, 1, 2, 3, 4]) rfl h
    · refine w_a f_208_5 ?_
      refine w_a f_208_6 ?_
      refine w_a f_208_7 ?_
      refine i_m (fun h => ?_) (fun h => ?_) h
      · refine w_a f_208_14 ?_
        refine w_a f_208_15 ?_
        refine w_a (ls := [(0, .ref 58), (1, .int x4), (2, .int x1)]) f_307_12 ?_
        refine w_a f_307_29 ?_
        refine w_a f_307_30 ?_
        refine w_a (ls := [(0, .ref 58), (1, .int x1), (2, .int x2), (3, .int x3), (4, .int x4)]) f_323_85 ?_
        refine w_a f_323_88 ?_
        exact w_n (ks := [0, 1, 2, 3, 4]) rfl h
      · refine w_a f_208_10 ?_
        refine w_a f_208_11 ?_
        refine w_a f_208_15 ?_
        refine w_a (ls := [(0, .ref 58), (1, .int x4), (2, .int x1)]) f_307_12 ?_
        refine w_a f_307_15 ?_
        refine w_a f_307_16 ?_
        refine w_a f_307_19 ?_
        refine w_a f_307_20 ?_
        refine n_m (fun h => ?_) h
        refine w_a f_307_21 ?_
        refine w_a f_307_22 ?_
        refine i_m (fun h => ?_) (fun h => ?_) h
        · refine w_a f_307_29 ?_
          refine w_a f_307_30 ?_
          refine w_a (ls := [(0, .ref 58), (1, .int x1), (2, .int x2), (3, .int x3), (4, .int x4)]) f_323_85 ?_
          refine w_a f_323_88 ?_
          exact w_n (ks := [0, 1, 2, 3, 4]) rfl h
        · refine w_a f_307_25 ?_
          refine w_a f_307_26 ?_
          refine w_a f_307_30 ?_
          refine w_a (ls := [(0, .ref 58), (1, .int x1), (2, .int x2), (3, .int x3), (4, .int x4)]) f_323_85 ?_
          refine w_a f_323_91 ?_
          refine w_a f_323_92 ?_
          refine w_a f_323_93 ?_
          exact w_c (ks := [0, 1, 2, 3, 4]) f_323_95 rfl rfl h
  · refine w_a f_323_112 ?_
    refine w_a (ls := [(3, .int (x3 + Int32.ofInt 1)), (0, .ref 58), (1, .int x1), (2, .int x2), (4, .int x4)]) f_323_115 ?_
    exact w_n (ks := [0, 1, 2, 3]) rfl h
set_option maxRecDepth 10000 in
set_option maxHeartbeats 4000000 in
theorem s_323_98 {Lx : Nat} {I : Mi} {L : Ml} {e : Nat} {Q : Kq} {x1 : Int32} {x2 : Int32} {x3 : Int32} {x4 : Int32} (h :
    Wp 315 0 [(0, .ref 58), (1, .int x3), (2, .int x4), (3, .int (Int32.ofInt 0))] [] (gE Lx) I L e (kcp (Wp 323) 323 103 0 [(0, .ref 58), (1, .int x1), (2, .int x2), (3, .int x3), (4, .int x4)] 71 [] Q)) :
    Wp 323 98 [(0, .ref 58), (1, .int x1), (2, .int x2), (3, .int x3), (4, .int x4)] [] (gE Lx) I L e Q := by
  refine w_a f_323_98 ?_
  refine w_a f_323_99 ?_
  refine w_a f_323_100 ?_
  refine w_a f_323_102 ?_
  exact w_c (ks := [0, 1, 2, 3, 4]) f_323_103 rfl rfl h
set_option maxRecDepth 10000 in
set_option maxHeartbeats 4000000 in
theorem s_323_106 {Lx : Nat} {I : Mi} {L : Ml} {e : Nat} {Q : Kq} {x1 : Int32} {x2 : Int32} {x3 : Int32} {x4 : Int32} (h :
    Wp 323 69 [(0, .ref 58), (1, .int x1), (2, .int x2), (3, .int x3), (4, .int (x4 + Int32.ofInt 1))] [] (gE Lx) I L e Q) :
    Wp 323 106 [(0, .ref 58), (1, .int x1), (2, .int x2), (3, .int x3), (4, .int x4)] [] (gE Lx) I L e Q := by
  refine w_a f_323_106 ?_
  refine w_a (ls := [(4, .int (x4 + Int32.ofInt 1)), (0, .ref 58), (1, .int x1), (2, .int x2), (3, .int x3)]) f_323_109 ?_
  exact w_n (ks := [0, 1, 2, 3, 4]) rfl h
set_option maxRecDepth 10000 in
set_option maxHeartbeats 4000000 in
theorem s_323_167 {Lx : Nat} {I : Mi} {L : Ml} {e : Nat} {Q : Kq} {r : Int32} (h :
    Q (.inl (some (.int r))) (gE Lx) I L e) :
    Wp 323 167 [(0, .ref 58)] [.int r] (gE Lx) I L e Q := by
  refine w_a f_323_167 ?_
  exact h
set_option maxRecDepth 10000 in
set_option maxHeartbeats 4000000 in
theorem s_324_0 {Lx : Nat} {I : Mi} {L : Ml} {e : Nat} {Q : Kq} {x1 : Int32} {x2 : Int32} (h :
    Wp 228 0 [(0, .ref 58), (1, .long (I 59 0).toInt64), (3, .long (I 59 1).toInt64), (5, .long (I 59 2).toInt64), (7, .long (Int64.ofInt 0))] [] (gE Lx) I L e (kcp (Wp 324) 324 23 0 [(0, .ref 58), (1, .int x1), (2, .int x2)] 71 [] Q)) :
    Wp 324 0 [(0, .ref 58), (1, .int x1), (2, .int x2)] [] (gE Lx) I L e Q := by
  refine w_a f_324_0 ?_
  refine w_a f_324_1 ?_
  refine w_a f_324_2 ?_
  refine w_a f_324_5 ?_
  refine w_a f_324_6 ?_
  refine w_a f_324_7 ?_
  refine w_a f_324_8 ?_
  refine w_a f_324_9 ?_
  refine w_a f_324_12 ?_
  refine w_a f_324_13 ?_
  refine w_a f_324_14 ?_
  refine w_a f_324_15 ?_
  refine w_a f_324_16 ?_
  refine w_a f_324_19 ?_
  refine w_a f_324_20 ?_
  refine w_a f_324_21 ?_
  refine w_a f_324_22 ?_
  exact w_c (ks := [0, 1, 2]) f_324_23 rfl rfl h
set_option maxRecDepth 10000 in
set_option maxHeartbeats 4000000 in
theorem s_324_26 {Lx : Nat} {I : Mi} {L : Ml} {e : Nat} {Q : Kq} {x1 : Int32} {x2 : Int32} (h :
    Wp 324 28 [(0, .ref 58), (1, .int x1), (2, .int x2), (3, .int (Int32.ofInt 0))] [] (gE Lx) I L e Q) :
    Wp 324 26 [(0, .ref 58), (1, .int x1), (2, .int x2)] [] (gE Lx) I L e Q := by
  refine w_a f_324_26 ?_
  refine w_a f_324_27 ?_
  exact w_n (ks := [0, 1, 2, 3]) rfl h
set_option maxRecDepth 10000 in
set_option maxHeartbeats 4000000 in
theorem s_324_28 {Lx : Nat} {I : Mi} {L : Ml} {e : Nat} {Q : Kq} {x1 : Int32} {x2 : Int32} {x3 : Int32} (h :
    (if x3 < (I 59 3) then
     (if x3 = x1 then
      Wp 220 0 [(0, .ref 58), (1, .int x3)] [] (gE Lx) I L e (kcp (Wp 324) 324 44 0 [(0, .ref 58), (1, .int x1), (2, .int x2), (3, .int x3)] 71 [.ref 58] Q)
     else
      Wp 220 0 [(0, .ref 58), (1, .int x3)] [] (gE Lx) I L e (kcp (Wp 324) 324 70 0 [(0, .ref 58), (1, .int x1), (2, .int x2), (3, .int x3)] 71 [.ref 58] Q))
    else
     Q (.inl none) (gE Lx) I L e)) :
    Wp 324 28 [(0, .ref 58), (1, .int x1), (2, .int x2), (3, .int x3)] [] (gE Lx) I L e Q := by
  refine w_a f_324_28 ?_
  refine w_a f_324_29 ?_
  refine w_a f_324_30 ?_
  refine w_a (ls := [(0, .ref 58)]) f_215_0 ?_
  refine w_a f_215_1 ?_
  refine w_a f_215_4 ?_
  refine w_a f_215_5 ?_
  refine w_a f_215_6 ?_
  refine w_a (ls := [(0, .ref 58), (1, .int x1), (2, .int x2), (3, .int x3)]) f_324_33 ?_
  refine i_m (fun h => ?_) (fun h => ?_) h
  · refine w_a f_324_36 ?_
    refine w_a f_324_37 ?_
    refine w_a f_324_38 ?_
    refine i_m (fun h => ?_) (fun h => ?_) h
    · refine w_a f_324_41 ?_
      refine w_a f_324_42 ?_
      refine w_a f_324_43 ?_
      exact w_c (ks := [0, 1, 2, 3]) f_324_44 rfl rfl h
    · refine w_a f_324_67 ?_
      refine w_a f_324_68 ?_
      refine w_a f_324_69 ?_
      exact w_c (ks := [0, 1, 2, 3]) f_324_70 rfl rfl h
  · refine w_a f_324_94 ?_
    exact h
set_option maxRecDepth 10000 in
set_option maxHeartbeats 4000000 in
theorem s_324_47 {Lx : Nat} {I : Mi} {L : Ml} {e : Nat} {Q : Kq} {x1 : Int32} {x2 : Int32} {x3 : Int32} {r : Int32} (h :
    (inb x2 184 (
     (inb x2 184 (
      Wp 229 0 [(0, .ref 58), (1, .int r), (2, .long (I 61 x2.toNatClampNeg).toInt64), (4, .long (I 62 x2.toNatClampNeg).toInt64)] [] (gE Lx) I L e (kcp (Wp 324) 324 61 0 [(0, .ref 58), (1, .int x1), (2, .int x2), (3, .int x3)] 71 [] Q))
     False))
    False)) :
    Wp 324 47 [(0, .ref 58), (1, .int x1), (2, .int x2), (3, .int x3)] [.int r, .ref 58] (gE Lx) I L e Q := by
  refine w_a f_324_47 ?_
  refine w_a f_324_48 ?_
  refine w_a f_324_51 ?_
  refine w_a f_324_52 ?_
  refine n_m (fun h => ?_) h
  refine w_a f_324_53 ?_
  refine w_a f_324_54 ?_
  refine w_a f_324_55 ?_
  refine w_a f_324_58 ?_
  refine w_a f_324_59 ?_
  refine n_m (fun h => ?_) h
  refine w_a f_324_60 ?_
  exact w_c (ks := [0, 1, 2, 3]) f_324_61 rfl rfl h
set_option maxRecDepth 10000 in
set_option maxHeartbeats 4000000 in
theorem s_324_64 {Lx : Nat} {I : Mi} {L : Ml} {e : Nat} {Q : Kq} {x1 : Int32} {x2 : Int32} {x3 : Int32} (h :
    Wp 324 88 [(0, .ref 58), (1, .int x1), (2, .int x2), (3, .int x3)] [] (gE Lx) I L e Q) :
    Wp 324 64 [(0, .ref 58), (1, .int x1), (2, .int x2), (3, .int x3)] [] (gE Lx) I L e Q := by
  refine w_a f_324_64 ?_
  exact w_n (ks := [0, 1, 2, 3]) rfl h
set_option maxRecDepth 10000 in
set_option maxHeartbeats 4000000 in
theorem s_324_73 {Lx : Nat} {I : Mi} {L : Ml} {e : Nat} {Q : Kq} {x1 : Int32} {x2 : Int32} {x3 : Int32} {r : Int32} (h :
    Wp 223 0 [(0, .ref 58), (1, .int x3)] [] (gE Lx) I L e (kcp (Wp 324) 324 75 0 [(0, .ref 58), (1, .int x1), (2, .int x2), (3, .int x3)] 71 [.int r, .ref 58] Q)) :
    Wp 324 73 [(0, .ref 58), (1, .int x1), (2, .int x2), (3, .int x3)] [.int r, .ref 58] (gE Lx) I L e Q := by
  refine w_a f_324_73 ?_
  refine w_a f_324_74 ?_
  exact w_c (ks := [0, 1, 2, 3]) f_324_75 rfl rfl h
set_option maxRecDepth 10000 in
set_option maxHeartbeats 4000000 in
theorem s_324_78 {Lx : Nat} {I : Mi} {L : Ml} {e : Nat} {Q : Kq} {x1 : Int32} {x2 : Int32} {x3 : Int32} {r1 : Int32} {r : Int32} (h :
    Wp 224 0 [(0, .ref 58), (1, .int x3)] [] (gE Lx) I L e (kcp (Wp 324) 324 81 0 [(0, .ref 58), (1, .int x1), (2, .int x2), (3, .int x3)] 71 [.long r.toInt64, .int r1, .ref 58] Q)) :
    Wp 324 78 [(0, .ref 58), (1, .int x1), (2, .int x2), (3, .int x3)] [.int r, .int r1, .ref 58] (gE Lx) I L e Q := by
  refine w_a f_324_78 ?_
  refine w_a f_324_79 ?_
  refine w_a f_324_80 ?_
  exact w_c (ks := [0, 1, 2, 3]) f_324_81 rfl rfl h
set_option maxRecDepth 10000 in
set_option maxHeartbeats 4000000 in
theorem s_324_84 {Lx : Nat} {I : Mi} {L : Ml} {e : Nat} {Q : Kq} {x1 : Int32} {x2 : Int32} {x3 : Int32} {r1 : Int32} {rl2 : Int64} {r : Int32} (h :
    Wp 229 0 [(0, .ref 58), (1, .int r1), (2, .long rl2), (4, .long r.toInt64)] [] (gE Lx) I L e (kcp (Wp 324) 324 85 0 [(0, .ref 58), (1, .int x1), (2, .int x2), (3, .int x3)] 71 [] Q)) :
    Wp 324 84 [(0, .ref 58), (1, .int x1), (2, .int x2), (3, .int x3)] [.int r, .long rl2, .int r1, .ref 58] (gE Lx) I L e Q := by
  refine w_a f_324_84 ?_
  exact w_c (ks := [0, 1, 2, 3]) f_324_85 rfl rfl h
set_option maxRecDepth 10000 in
set_option maxHeartbeats 4000000 in
theorem s_324_88 {Lx : Nat} {I : Mi} {L : Ml} {e : Nat} {Q : Kq} {x1 : Int32} {x2 : Int32} {x3 : Int32} (h :
    Wp 324 28 [(0, .ref 58), (1, .int x1), (2, .int x2), (3, .int (x3 + Int32.ofInt 1))] [] (gE Lx) I L e Q) :
    Wp 324 88 [(0, .ref 58), (1, .int x1), (2, .int x2), (3, .int x3)] [] (gE Lx) I L e Q := by
  refine w_a f_324_88 ?_
  refine w_a (ls := [(3, .int (x3 + Int32.ofInt 1)), (0, .ref 58), (1, .int x1), (2, .int x2)]) f_324_91 ?_
  exact w_n (ks := [0, 1, 2, 3]) rfl h
set_option maxRecDepth 10000 in
set_option maxHeartbeats 4000000 in
theorem s_325_32 {Lx : Nat} {I : Mi} {L : Ml} {e : Nat} {Q : Kq} {x1 : Int32} {x2 : Int32} {x3 : Int32} {x4 : Int32} {x5 : Int32} {r : Int32} (h :
    (if r = 0 then
     Q (.inl (some (.int (Int32.ofInt 0)))) (gE Lx) (ui I 58 0 (Int32.ofInt 3)) L e
    else
     (if (Int32.ofInt 1) < x1 then
      Q (.inl (some (.int (Int32.ofInt 0)))) (gE Lx) (ui I 58 0 (Int32.ofInt 4)) L e
     else
      (if x4 = 0 then
       Wp 325 83 [(0, .ref 58), (1, .int x1), (2, .int x2), (3, .int x3), (5, .int x5), (6, .int (Int32.ofInt 2)), (7, .int (Int32.ofInt 0))] [] (gE Lx) (ui (ui I 58 0 (Int32.ofInt 0)) 58 30 (Int32.ofInt 0)) L e Q
      else
       Wp 325 83 [(0, .ref 58), (1, .int x1), (2, .int x2), (3, .int x3), (5, .int x5), (6, .int (Int32.ofInt 1)), (7, .int (Int32.ofInt 0))] [] (gE Lx) (ui (ui I 58 0 (Int32.ofInt 0)) 58 30 (Int32.ofInt 0)) L e Q)))) :
    Wp 325 32 [(0, .ref 58), (1, .int x1), (2, .int x2), (3, .int x3), (4, .int x4), (5, .int x5)] [.int r, .ref 58] (gE Lx) I L e Q := by
  refine w_a f_325_32 ?_
  refine i_m (fun h => ?_) (fun h => ?_) h
  · refine w_a f_325_35 ?_
    refine w_a f_325_36 ?_
    refine w_a f_325_49 ?_
    refine w_a f_325_52 ?_
    refine w_a f_325_53 ?_
    refine w_a f_325_56 ?_
    refine w_a f_325_59 ?_
    refine w_a f_325_60 ?_
    exact h
  · refine w_a f_325_39 ?_
    refine w_a f_325_40 ?_
    refine w_a f_325_41 ?_
    refine i_m (fun h => ?_) (fun h => ?_) h
    · refine w_a f_325_44 ?_
      refine w_a f_325_45 ?_
      refine w_a f_325_49 ?_
      refine w_a f_325_52 ?_
      refine w_a f_325_53 ?_
      refine w_a f_325_56 ?_
      refine w_a f_325_59 ?_
      refine w_a f_325_60 ?_
      exact h
    · refine w_a f_325_48 ?_
      refine w_a f_325_49 ?_
      refine w_a f_325_52 ?_
      refine w_a f_325_53 ?_
      refine w_a f_325_56 ?_
      refine w_a f_325_61 ?_
      refine w_a f_325_63 ?_
      refine i_m (fun h => ?_) (fun h => ?_) h
      · refine w_a f_325_70 ?_
        refine w_a f_325_71 ?_
        refine w_a (ls := [(0, .int (Int32.ofInt 0))]) f_314_0 ?_
        refine w_a f_314_1 ?_
        refine w_a f_314_2 ?_
        refine w_a f_314_9 ?_
        refine w_a f_314_10 ?_
        refine w_a (ls := [(0, .ref 58), (1, .int x1), (2, .int x2), (3, .int x3), (4, .int x4), (5, .int x5)]) f_325_74 ?_
        refine w_a (ls := [(6, .int (Int32.ofInt 2)), (0, .ref 58), (1, .int x1), (2, .int x2), (3, .int x3), (4, .int x4), (5, .int x5)]) f_325_76 ?_
        refine w_a f_325_77 ?_
        refine w_a (ls := [(0, .ref 58)]) f_311_0 ?_
        refine w_a f_311_1 ?_
        refine w_a f_311_2 ?_
        refine w_a f_311_5 ?_
        refine w_a (ls := [(6, .int (Int32.ofInt 2)), (0, .ref 58), (1, .int x1), (2, .int x2), (3, .int x3), (4, .int x4), (5, .int x5)]) f_325_80 ?_
        refine w_a f_325_81 ?_
        exact w_n (ks := [0, 1, 2, 3, 5, 6, 7]) rfl h
      · refine w_a f_325_66 ?_
        refine w_a f_325_67 ?_
        refine w_a f_325_71 ?_
        refine w_a (ls := [(0, .int (Int32.ofInt 1))]) f_314_0 ?_
        refine w_a f_314_1 ?_
        refine w_a f_314_2 ?_
        refine w_a f_314_5 ?_
        refine w_a f_314_6 ?_
        refine w_a f_314_10 ?_
        refine w_a (ls := [(0, .ref 58), (1, .int x1), (2, .int x2), (3, .int x3), (4, .int x4), (5, .int x5)]) f_325_74 ?_
        refine w_a (ls := [(6, .int (Int32.ofInt 1)), (0, .ref 58), (1, .int x1), (2, .int x2), (3, .int x3), (4, .int x4), (5, .int x5)]) f_325_76 ?_
        refine w_a f_325_77 ?_
        refine w_a (ls := [(0, .ref 58)]) f_311_0 ?_
        refine w_a f_311_1 ?_
        refine w_a f_311_2 ?_
        refine w_a f_311_5 ?_
        refine w_a (ls := [(6, .int (Int32.ofInt 1)), (0, .ref 58), (1, .int x1), (2, .int x2), (3, .int x3), (4, .int x4), (5, .int x5)]) f_325_80 ?_
        refine w_a f_325_81 ?_
        exact w_n (ks := [0, 1, 2, 3, 5, 6, 7]) rfl h
set_option maxRecDepth 10000 in
set_option maxHeartbeats 4000000 in
theorem s_325_83 {Lx : Nat} {I : Mi} {L : Ml} {e : Nat} {Q : Kq} {x1 : Int32} {x2 : Int32} {x3 : Int32} {x5 : Int32} {x6 : Int32} {x7 : Int32} (h :
    (if x7 < (I 58 7) then
     Wp 227 0 [(0, .ref 58), (1, .int x1)] [] (gE Lx) I L e (kcp (Wp 325) 325 94 0 [(0, .ref 58), (1, .int x1), (2, .int x2), (3, .int x3), (5, .int x5), (6, .int x6), (7, .int x7)] 71 [] Q)
    else
     (if x5 = 0 then
      (inb (I 58 27) 184 (
       Wp 325 191 [(0, .ref 58)] [.int (I 61 ((I 58 27).toNatClampNeg))] (gE Lx) I L e Q)
      False)
     else
      (if x5 = (Int32.ofInt 1) then
       (inb (I 58 27) 184 (
        Wp 325 191 [(0, .ref 58)] [.int (I 62 ((I 58 27).toNatClampNeg))] (gE Lx) I L e Q)
       False)
      else
       Wp 320 0 [(0, .long (L 58 25)), (2, .long (L 58 26))] [] (gE Lx) I L e (kcp (Wp 319) 319 8 0 [(0, .ref 58)] 71 [] (kcp (Wp 325) 325 188 0 [(0, .ref 58)] 71 [] Q)))))) :
    Wp 325 83 [(0, .ref 58), (1, .int x1), (2, .int x2), (3, .int x3), (5, .int x5), (6, .int x6), (7, .int x7)] [] (gE Lx) I L e Q := by
  refine w_a f_325_83 ?_
  refine w_a f_325_85 ?_
  refine w_a f_325_86 ?_
  refine w_a f_325_89 ?_
  refine i_m (fun h => ?_) (fun h => ?_) h
  · refine w_a f_325_92 ?_
    refine w_a f_325_93 ?_
    exact w_c (ks := [0, 1, 2, 3, 5, 6, 7]) f_325_94 rfl rfl h
  · refine w_a f_325_152 ?_
    refine w_a f_325_154 ?_
    refine i_m (fun h => ?_) (fun h => ?_) h
    · refine w_a f_325_157 ?_
      refine w_a f_325_158 ?_
      refine w_a f_325_161 ?_
      refine w_a f_325_162 ?_
      refine w_a f_325_165 ?_
      refine n_m (fun h => ?_) h
      refine w_a f_325_166 ?_
      exact w_n (ks := [0]) rfl h
    · refine w_a f_325_169 ?_
      refine w_a f_325_171 ?_
      refine w_a f_325_172 ?_
      refine i_m (fun h => ?_) (fun h => ?_) h
      · refine w_a f_325_175 ?_
        refine w_a f_325_176 ?_
        refine w_a f_325_179 ?_
        refine w_a f_325_180 ?_
        refine w_a f_325_183 ?_
        refine n_m (fun h => ?_) h
        refine w_a f_325_184 ?_
        exact w_n (ks := [0]) rfl h
      · refine w_a f_325_187 ?_
        refine w_c (ks := [0]) f_325_188 rfl rfl ?_
        refine w_a (ls := [(0, .ref 58)]) f_319_0 ?_
        refine w_a f_319_1 ?_
        refine w_a f_319_4 ?_
        refine w_a f_319_5 ?_
        exact w_c (ks := [0]) f_319_8 rfl rfl h
set_option maxRecDepth 10000 in
set_option maxHeartbeats 4000000 in
theorem s_325_97 {Lx : Nat} {I : Mi} {L : Ml} {e : Nat} {Q : Kq} {x1 : Int32} {x2 : Int32} {x3 : Int32} {x5 : Int32} {x6 : Int32} {x7 : Int32} (h :
    Wp 229 0 [(0, .ref 58), (1, .int x6), (2, .long x2.toInt64), (4, .long x3.toInt64)] [] (gE Lx) I L e (kcp (Wp 325) 325 104 0 [(0, .ref 58), (1, .int x1), (2, .int x2), (3, .int x3), (5, .int x5), (6, .int x6), (7, .int x7)] 71 [] Q)) :
    Wp 325 97 [(0, .ref 58), (1, .int x1), (2, .int x2), (3, .int x3), (5, .int x5), (6, .int x6), (7, .int x7)] [] (gE Lx) I L e Q := by
  refine w_a f_325_97 ?_
  refine w_a f_325_98 ?_
  refine w_a f_325_100 ?_
  refine w_a f_325_101 ?_
  refine w_a f_325_102 ?_
  refine w_a f_325_103 ?_
  exact w_c (ks := [0, 1, 2, 3, 5, 6, 7]) f_325_104 rfl rfl h
set_option maxRecDepth 10000 in
set_option maxHeartbeats 4000000 in
theorem s_325_107 {Lx : Nat} {I : Mi} {L : Ml} {e : Nat} {Q : Kq} {x1 : Int32} {x2 : Int32} {x3 : Int32} {x5 : Int32} {x6 : Int32} {x7 : Int32} (h :
    (inb x7 184 (
     (inb x7 184 (
      Wp 229 0 [(0, .ref 58), (1, .int (Int32.ofInt 0)), (2, .long (I 61 x7.toNatClampNeg).toInt64), (4, .long (I 62 x7.toNatClampNeg).toInt64)] [] (gE Lx) I L e (kcp (Wp 325) 325 125 0 [(0, .ref 58), (1, .int x1), (2, .int x2), (3, .int x3), (5, .int x5), (6, .int x6), (7, .int x7)] 71 [] Q))
     False))
    False)) :
    Wp 325 107 [(0, .ref 58), (1, .int x1), (2, .int x2), (3, .int x3), (5, .int x5), (6, .int x6), (7, .int x7)] [] (gE Lx) I L e Q := by
  refine w_a f_325_107 ?_
  refine w_a f_325_108 ?_
  refine w_a f_325_109 ?_
  refine w_a f_325_110 ?_
  refine w_a f_325_113 ?_
  refine w_a f_325_115 ?_
  refine n_m (fun h => ?_) h
  refine w_a f_325_116 ?_
  refine w_a f_325_117 ?_
  refine w_a f_325_118 ?_
  refine w_a f_325_121 ?_
  refine w_a f_325_123 ?_
  refine n_m (fun h => ?_) h
  refine w_a f_325_124 ?_
  exact w_c (ks := [0, 1, 2, 3, 5, 6, 7]) f_325_125 rfl rfl h
set_option maxRecDepth 10000 in
set_option maxHeartbeats 4000000 in
theorem s_325_128 {Lx : Nat} {I : Mi} {L : Ml} {e : Nat} {Q : Kq} {x1 : Int32} {x2 : Int32} {x3 : Int32} {x5 : Int32} {x6 : Int32} {x7 : Int32} (h :
    Wp 229 0 [(0, .ref 58), (1, .int x6), (2, .long x2.toInt64), (4, .long x3.toInt64)] [] (gE Lx) I L e (kcp (Wp 325) 325 135 0 [(0, .ref 58), (1, .int x1), (2, .int x2), (3, .int x3), (5, .int x5), (6, .int x6), (7, .int x7)] 71 [] Q)) :
    Wp 325 128 [(0, .ref 58), (1, .int x1), (2, .int x2), (3, .int x3), (5, .int x5), (6, .int x6), (7, .int x7)] [] (gE Lx) I L e Q := by
  refine w_a f_325_128 ?_
  refine w_a f_325_129 ?_
  refine w_a f_325_131 ?_
  refine w_a f_325_132 ?_
  refine w_a f_325_133 ?_
  refine w_a f_325_134 ?_
  exact w_c (ks := [0, 1, 2, 3, 5, 6, 7]) f_325_135 rfl rfl h
set_option maxRecDepth 10000 in
set_option maxHeartbeats 4000000 in
theorem s_325_138 {Lx : Nat} {I : Mi} {L : Ml} {e : Nat} {Q : Kq} {x1 : Int32} {x2 : Int32} {x3 : Int32} {x5 : Int32} {x6 : Int32} {x7 : Int32} (h :
    Wp 315 0 [(0, .ref 58), (1, .int x7), (2, .int (Int32.ofInt 0)), (3, .int (Int32.ofInt 0))] [] (gE Lx) I L e (kcp (Wp 325) 325 143 0 [(0, .ref 58), (1, .int x1), (2, .int x2), (3, .int x3), (5, .int x5), (6, .int x6), (7, .int x7)] 71 [] Q)) :
    Wp 325 138 [(0, .ref 58), (1, .int x1), (2, .int x2), (3, .int x3), (5, .int x5), (6, .int x6), (7, .int x7)] [] (gE Lx) I L e Q := by
  refine w_a f_325_138 ?_
  refine w_a f_325_139 ?_
  refine w_a f_325_141 ?_
  refine w_a f_325_142 ?_
  exact w_c (ks := [0, 1, 2, 3, 5, 6, 7]) f_325_143 rfl rfl h
set_option maxRecDepth 10000 in
set_option maxHeartbeats 4000000 in
theorem s_325_146 {Lx : Nat} {I : Mi} {L : Ml} {e : Nat} {Q : Kq} {x1 : Int32} {x2 : Int32} {x3 : Int32} {x5 : Int32} {x6 : Int32} {x7 : Int32} (h :
    Wp 325 83 [(0, .ref 58), (1, .int x1), (2, .int x2), (3, .int x3), (5, .int x5), (6, .int x6), (7, .int (x7 + Int32.ofInt 1))] [] (gE Lx) I L e Q) :
    Wp 325 146 [(0, .ref 58), (1, .int x1), (2, .int x2), (3, .int x3), (5, .int x5), (6, .int x6), (7, .int x7)] [] (gE Lx) I L e Q := by
  refine w_a f_325_146 ?_
  refine w_a (ls := [(7, .int (x7 + Int32.ofInt 1)), (0, .ref 58), (1, .int x1), (2, .int x2), (3, .int x3), (5, .int x5), (6, .int x6)]) f_325_149 ?_
  exact w_n (ks := [0, 1, 2, 3, 5, 6, 7]) rfl h
set_option maxRecDepth 10000 in
set_option maxHeartbeats 4000000 in
theorem s_325_191 {Lx : Nat} {I : Mi} {L : Ml} {e : Nat} {Q : Kq} {r : Int32} (h :
    Q (.inl (some (.int r))) (gE Lx) I L e) :
    Wp 325 191 [(0, .ref 58)] [.int r] (gE Lx) I L e Q := by
  refine w_a f_325_191 ?_
  exact h
set_option maxRecDepth 10000 in
set_option maxHeartbeats 4000000 in
theorem s_326_58 {Lx : Nat} {I : Mi} {L : Ml} {e : Nat} {Q : Kq} {x1 : Int32} {x2 : Int32} {x3 : Int32} (h :
    (if x3 < ((Int32.ofInt 2) * (I 58 7)) then
     (inb (x3 / (Int32.ofInt 2)) 184 (
      (inb (x3 / (Int32.ofInt 2)) 184 (
       Wp 245 0 [(0, .ref 58), (1, .long (I 61 ((x3 / (Int32.ofInt 2)).toNatClampNeg)).toInt64), (3, .long (I 62 ((x3 / (Int32.ofInt 2)).toNatClampNeg)).toInt64), (5, .int x1)] [] (gE Lx) I L e (kcp (Wp 327) 327 16 0 [(0, .ref 58), (3, .int ((Int32.ofInt 1) - (x3 - x3 / (Int32.ofInt 2) * (Int32.ofInt 2))))] 71 [] (kcp (Wp 326) 326 78 0 [(0, .ref 58), (1, .int x1), (2, .int x2), (3, .int x3)] 71 [] Q)))
      False))
     False)
    else
     (if (I 58 30) = 0 then
      Q (.inl (some (.int (Int32.ofInt (-1))))) (gE Lx) I L e
     else
      (if (L 58 25) = (L 58 26) then
       Q (.inl (some (.int (Int32.ofInt (-1))))) (gE Lx) I L e
      else
       (if x2 = 0 then
        (inb (I 58 27) 184 (
         Wp 326 214 [(0, .ref 58)] [.int (I 61 ((I 58 27).toNatClampNeg))] (gE Lx) I L e Q)
        False)
       else
        (if x2 = (Int32.ofInt 1) then
         (inb (I 58 27) 184 (
          Wp 326 214 [(0, .ref 58)] [.int (I 62 ((I 58 27).toNatClampNeg))] (gE Lx) I L e Q)
         False)
        else
         (if x2 = (Int32.ofInt 2) then
          Wp 326 214 [(0, .ref 58)] [.int (I 58 28)] (gE Lx) I L e Q
         else
          Wp 320 0 [(0, .long (L 58 25)), (2, .long (L 58 26))] [] (gE Lx) I L e (kcp (Wp 319) 319 8 0 [(0, .ref 58)] 71 [] (kcp (Wp 326) 326 211 0 [(0, .ref 58)] 71 [] Q))))))))) :
    Wp 326 58 [(0, .ref 58), (1, .int x1), (2, .int x2), (3, .int x3)] [] (gE Lx) I L e Q := by
  refine w_a f_326_58 ?_
  refine w_a f_326_59 ?_
  refine w_a f_326_60 ?_
  refine w_a f_326_61 ?_
  refine w_a f_326_64 ?_
  refine w_a f_326_65 ?_
  refine i_m (fun h => ?_) (fun h => ?_) h
  · refine w_a f_326_68 ?_
    refine w_a f_326_69 ?_
    refine w_a f_326_70 ?_
    refine w_a f_326_71 ?_
    refine w_a f_326_72 ?_
    refine w_a f_326_73 ?_
    refine w_a f_326_74 ?_
    refine w_a f_326_75 ?_
    refine w_a f_326_76 ?_
    refine w_a f_326_77 ?_
    refine w_c (ks := [0, 1, 2, 3]) f_326_78 rfl rfl ?_
    refine w_a (ls := [(0, .ref 58), (1, .int x1), (2, .int (x3 / (Int32.ofInt 2))), (3, .int ((Int32.ofInt 1) - (x3 - x3 / (Int32.ofInt 2) * (Int32.ofInt 2))))]) f_327_0 ?_
    refine w_a f_327_1 ?_
    refine w_a f_327_2 ?_
    refine w_a f_327_5 ?_
    refine w_a f_327_6 ?_
    refine n_m (fun h => ?_) h
    refine w_a f_327_7 ?_
    refine w_a f_327_8 ?_
    refine w_a f_327_9 ?_
    refine w_a f_327_12 ?_
    refine w_a f_327_13 ?_
    refine n_m (fun h => ?_) h
    refine w_a f_327_14 ?_
    refine w_a f_327_15 ?_
    exact w_c (ks := [0, 3]) f_327_16 rfl rfl h
  · refine w_a f_326_144 ?_
    refine w_a f_326_145 ?_
    refine w_a f_326_148 ?_
    refine i_m (fun h => ?_) (fun h => ?_) h
    · refine w_a f_326_163 ?_
      refine w_a f_326_164 ?_
      exact h
    · refine w_a f_326_151 ?_
      refine w_a f_326_152 ?_
      refine w_a f_326_155 ?_
      refine w_a f_326_156 ?_
      refine w_a f_326_159 ?_
      refine i_m (fun h => ?_) (fun h => ?_) h
      · refine w_a f_326_163 ?_
        refine w_a f_326_164 ?_
        exact h
      · refine w_a f_326_165 ?_
        refine w_a f_326_166 ?_
        refine i_m (fun h => ?_) (fun h => ?_) h
        · refine w_a f_326_169 ?_
          refine w_a f_326_170 ?_
          refine w_a f_326_173 ?_
          refine w_a f_326_174 ?_
          refine w_a f_326_177 ?_
          refine n_m (fun h => ?_) h
          refine w_a f_326_178 ?_
          exact w_n (ks := [0]) rfl h
        · refine w_a f_326_181 ?_
          refine w_a f_326_182 ?_
          refine w_a f_326_183 ?_
          refine i_m (fun h => ?_) (fun h => ?_) h
          · refine w_a f_326_186 ?_
            refine w_a f_326_187 ?_
            refine w_a f_326_190 ?_
            refine w_a f_326_191 ?_
            refine w_a f_326_194 ?_
            refine n_m (fun h => ?_) h
            refine w_a f_326_195 ?_
            exact w_n (ks := [0]) rfl h
          · refine w_a f_326_198 ?_
            refine w_a f_326_199 ?_
            refine w_a f_326_200 ?_
            refine i_m (fun h => ?_) (fun h => ?_) h
            · refine w_a f_326_203 ?_
              refine w_a f_326_204 ?_
              refine w_a f_326_207 ?_
              exact w_n (ks := [0]) rfl h
            · refine w_a f_326_210 ?_
              refine w_c (ks := [0]) f_326_211 rfl rfl ?_
              refine w_a (ls := [(0, .ref 58)]) f_319_0 ?_
              refine w_a f_319_1 ?_
              refine w_a f_319_4 ?_
              refine w_a f_319_5 ?_
              exact w_c (ks := [0]) f_319_8 rfl rfl h
set_option maxRecDepth 10000 in
set_option maxHeartbeats 4000000 in
theorem s_326_81 {Lx : Nat} {I : Mi} {L : Ml} {e : Nat} {Q : Kq} {x1 : Int32} {x2 : Int32} {x3 : Int32} {r : Int32} (h :
    (if r = 0 then
     Wp 326 138 [(0, .ref 58), (1, .int x1), (2, .int x2), (3, .int x3)] [] (gE Lx) I L e Q
    else
     Wp 227 0 [(0, .ref 58), (1, .int (I 59 3))] [] (gE Lx) I L e (kcp (Wp 326) 326 92 0 [(0, .ref 58), (1, .int x1), (2, .int x2), (3, .int x3)] 71 [] Q))) :
    Wp 326 81 [(0, .ref 58), (1, .int x1), (2, .int x2), (3, .int x3)] [.int r] (gE Lx) I L e Q := by
  refine w_a f_326_81 ?_
  refine i_m (fun h => ?_) (fun h => ?_) h
  · refine w_a f_326_84 ?_
    exact w_n (ks := [0, 1, 2, 3]) rfl h
  · refine w_a f_326_87 ?_
    refine w_a f_326_88 ?_
    refine w_a f_326_89 ?_
    refine w_a (ls := [(0, .ref 58)]) f_215_0 ?_
    refine w_a f_215_1 ?_
    refine w_a f_215_4 ?_
    refine w_a f_215_5 ?_
    refine w_a f_215_6 ?_
    exact w_c (ls := [(0, .ref 58), (1, .int x1), (2, .int x2), (3, .int x3)]) (ks := [0, 1, 2, 3]) f_326_92 rfl rfl h
set_option maxRecDepth 10000 in
set_option maxHeartbeats 4000000 in
theorem s_326_95 {Lx : Nat} {I : Mi} {L : Ml} {e : Nat} {Q : Kq} {x1 : Int32} {x2 : Int32} {x3 : Int32} (h :
    (if ((Int32.ofInt 1) - (x3 - x3 / (Int32.ofInt 2) * (Int32.ofInt 2))) = (Int32.ofInt 1) then
     (inb (x3 / (Int32.ofInt 2)) 184 (
      (inb (x3 / (Int32.ofInt 2)) 184 (
       Wp 229 0 [(0, .ref 58), (1, .int (Int32.ofInt 1)), (2, .long (I 61 ((x3 / (Int32.ofInt 2)).toNatClampNeg)).toInt64), (4, .long (I 62 ((x3 / (Int32.ofInt 2)).toNatClampNeg)).toInt64)] [] (gE Lx) I L e (kcp (Wp 326) 326 122 0 [(0, .ref 58), (1, .int x1), (2, .int x2), (3, .int x3)] 71 [] Q))
      False))
     False)
    else
     (inb (x3 / (Int32.ofInt 2)) 184 (
      (inb (x3 / (Int32.ofInt 2)) 184 (
       Wp 229 0 [(0, .ref 58), (1, .int (Int32.ofInt 2)), (2, .long (I 61 ((x3 / (Int32.ofInt 2)).toNatClampNeg)).toInt64), (4, .long (I 62 ((x3 / (Int32.ofInt 2)).toNatClampNeg)).toInt64)] [] (gE Lx) I L e (kcp (Wp 326) 326 122 0 [(0, .ref 58), (1, .int x1), (2, .int x2), (3, .int x3)] 71 [] Q))
      False))
     False))) :
    Wp 326 95 [(0, .ref 58), (1, .int x1), (2, .int x2), (3, .int x3)] [] (gE Lx) I L e Q := by
  refine w_a f_326_95 ?_
  refine w_a f_326_96 ?_
  refine w_a f_326_97 ?_
  refine w_a f_326_98 ?_
  refine w_a f_326_99 ?_
  refine w_a f_326_100 ?_
  refine w_a f_326_101 ?_
  refine w_a (ls := [(0, .int ((Int32.ofInt 1) - (x3 - x3 / (Int32.ofInt 2) * (Int32.ofInt 2))))]) f_314_0 ?_
  refine w_a f_314_1 ?_
  refine w_a f_314_2 ?_
  refine i_m (fun h => ?_) (fun h => ?_) h
  · refine w_a f_314_5 ?_
    refine w_a f_314_6 ?_
    refine w_a f_314_10 ?_
    refine w_a (ls := [(0, .ref 58), (1, .int x1), (2, .int x2), (3, .int x3)]) f_326_104 ?_
    refine w_a f_326_105 ?_
    refine w_a f_326_108 ?_
    refine w_a f_326_109 ?_
    refine w_a f_326_110 ?_
    refine w_a f_326_111 ?_
    refine n_m (fun h => ?_) h
    refine w_a f_326_112 ?_
    refine w_a f_326_113 ?_
    refine w_a f_326_114 ?_
    refine w_a f_326_117 ?_
    refine w_a f_326_118 ?_
    refine w_a f_326_119 ?_
    refine w_a f_326_120 ?_
    refine n_m (fun h => ?_) h
    refine w_a f_326_121 ?_
    exact w_c (ks := [0, 1, 2, 3]) f_326_122 rfl rfl h
  · refine w_a f_314_9 ?_
    refine w_a f_314_10 ?_
    refine w_a (ls := [(0, .ref 58), (1, .int x1), (2, .int x2), (3, .int x3)]) f_326_104 ?_
    refine w_a f_326_105 ?_
    refine w_a f_326_108 ?_
    refine w_a f_326_109 ?_
    refine w_a f_326_110 ?_
    refine w_a f_326_111 ?_
    refine n_m (fun h => ?_) h
    refine w_a f_326_112 ?_
    refine w_a f_326_113 ?_
    refine w_a f_326_114 ?_
    refine w_a f_326_117 ?_
    refine w_a f_326_118 ?_
    refine w_a f_326_119 ?_
    refine w_a f_326_120 ?_
    refine n_m (fun h => ?_) h
    refine w_a f_326_121 ?_
    exact w_c (ks := [0, 1, 2, 3]) f_326_122 rfl rfl h
set_option maxRecDepth 10000 in
set_option maxHeartbeats 4000000 in
theorem s_326_125 {Lx : Nat} {I : Mi} {L : Ml} {e : Nat} {Q : Kq} {x1 : Int32} {x2 : Int32} {x3 : Int32} (h :
    Wp 315 0 [(0, .ref 58), (1, .int (x3 / (Int32.ofInt 2))), (2, .int ((Int32.ofInt 1) - (x3 - x3 / (Int32.ofInt 2) * (Int32.ofInt 2)))), (3, .int (Int32.ofInt 0))] [] (gE Lx) I L e (kcp (Wp 326) 326 135 0 [(0, .ref 58), (1, .int x1), (2, .int x2), (3, .int x3)] 71 [] Q)) :
    Wp 326 125 [(0, .ref 58), (1, .int x1), (2, .int x2), (3, .int x3)] [] (gE Lx) I L e Q := by
  refine w_a f_326_125 ?_
  refine w_a f_326_126 ?_
  refine w_a f_326_127 ?_
  refine w_a f_326_128 ?_
  refine w_a f_326_129 ?_
  refine w_a f_326_130 ?_
  refine w_a f_326_131 ?_
  refine w_a f_326_132 ?_
  refine w_a f_326_133 ?_
  refine w_a f_326_134 ?_
  exact w_c (ks := [0, 1, 2, 3]) f_326_135 rfl rfl h
set_option maxRecDepth 10000 in
set_option maxHeartbeats 4000000 in
theorem s_326_138 {Lx : Nat} {I : Mi} {L : Ml} {e : Nat} {Q : Kq} {x1 : Int32} {x2 : Int32} {x3 : Int32} (h :
    Wp 326 58 [(0, .ref 58), (1, .int x1), (2, .int x2), (3, .int (x3 + Int32.ofInt 1))] [] (gE Lx) I L e Q) :
    Wp 326 138 [(0, .ref 58), (1, .int x1), (2, .int x2), (3, .int x3)] [] (gE Lx) I L e Q := by
  refine w_a f_326_138 ?_
  refine w_a (ls := [(3, .int (x3 + Int32.ofInt 1)), (0, .ref 58), (1, .int x1), (2, .int x2)]) f_326_141 ?_
  exact w_n (ks := [0, 1, 2, 3]) rfl h
set_option maxRecDepth 10000 in
set_option maxHeartbeats 4000000 in
theorem s_326_214 {Lx : Nat} {I : Mi} {L : Ml} {e : Nat} {Q : Kq} {r : Int32} (h :
    Q (.inl (some (.int r))) (gE Lx) I L e) :
    Wp 326 214 [(0, .ref 58)] [.int r] (gE Lx) I L e Q := by
  refine w_a f_326_214 ?_
  exact h
set_option maxRecDepth 10000 in
set_option maxHeartbeats 4000000 in
theorem s_327_19 {Lx : Nat} {I : Mi} {L : Ml} {e : Nat} {Q : Kq} {x3 : Int32} (h :
    (if x3 = (Int32.ofInt 1) then
     (if (L 58 9) = (Int64.ofInt 0) then
      Q (.inl (some (.int (Int32.ofInt 1)))) (gE Lx) I L e
     else
      Q (.inl (some (.int (Int32.ofInt 0)))) (gE Lx) I L e)
    else
     (if (L 58 8) = (Int64.ofInt 0) then
      Q (.inl (some (.int (Int32.ofInt 1)))) (gE Lx) I L e
     else
      Q (.inl (some (.int (Int32.ofInt 0)))) (gE Lx) I L e))) :
    Wp 327 19 [(0, .ref 58), (3, .int x3)] [] (gE Lx) I L e Q := by
  refine w_a f_327_19 ?_
  refine w_a f_327_20 ?_
  refine w_a f_327_21 ?_
  refine i_m (fun h => ?_) (fun h => ?_) h
  · refine w_a f_327_24 ?_
    refine w_a f_327_25 ?_
    refine w_a f_327_28 ?_
    refine w_a f_327_29 ?_
    refine i_m (fun h => ?_) (fun h => ?_) h
    · refine w_a f_327_33 ?_
      refine w_a f_327_34 ?_
      refine w_a f_327_55 ?_
      exact h
    · refine w_a f_327_37 ?_
      refine w_a f_327_38 ?_
      refine w_a f_327_55 ?_
      exact h
  · refine w_a f_327_41 ?_
    refine w_a f_327_42 ?_
    refine w_a f_327_45 ?_
    refine w_a f_327_46 ?_
    refine i_m (fun h => ?_) (fun h => ?_) h
    · refine w_a f_327_50 ?_
      refine w_a f_327_51 ?_
      refine w_a f_327_55 ?_
      exact h
    · refine w_a f_327_54 ?_
      refine w_a f_327_55 ?_
      exact h
set_option maxRecDepth 10000 in
set_option maxHeartbeats 4000000 in
theorem s_328_17 {Lx : Nat} {I : Mi} {L : Ml} {e : Nat} {Q : Kq} {x1 : Int32} {r : Int32} (h :
    Q (.inl (some (.int ((r >>> (((Int32.ofInt 2) * ((Int32.ofInt 3) - x1)) &&& 31)) &&& (Int32.ofInt 3))))) (gE Lx) I L e) :
    Wp 328 17 [(0, .ref 58), (1, .int x1)] [.int r] (gE Lx) I L e Q := by
  refine w_a f_328_17 ?_
  refine w_a f_328_18 ?_
  refine w_a (ls := [(0, .int r), (1, .int x1)]) f_331_0 ?_
  refine w_a f_331_1 ?_
  refine w_a f_331_2 ?_
  refine w_a f_331_3 ?_
  refine w_a f_331_4 ?_
  refine w_a f_331_5 ?_
  refine w_a f_331_6 ?_
  refine w_a f_331_7 ?_
  refine w_a f_331_8 ?_
  refine w_a f_331_9 ?_
  refine w_a (ls := [(0, .ref 58), (1, .int x1)]) f_328_21 ?_
  refine w_a f_328_25 ?_
  exact h
set_option maxRecDepth 10000 in
set_option maxHeartbeats 4000000 in
theorem s_329_0 {Lx : Nat} {I : Mi} {L : Ml} {e : Nat} {Q : Kq} (h :
    Wp 329 6 [(0, .ref 58), (1, .int (Int32.ofInt 0))] [] (gE Lx) (ui I 58 30 (Int32.ofInt 0)) L e Q) :
    Wp 329 0 [(0, .ref 58)] [] (gE Lx) I L e Q := by
  refine w_a f_329_0 ?_
  refine w_a f_329_1 ?_
  refine w_a (ls := [(0, .ref 58)]) f_311_0 ?_
  refine w_a f_311_1 ?_
  refine w_a f_311_2 ?_
  refine w_a f_311_5 ?_
  refine w_a (ls := [(0, .ref 58)]) f_329_4 ?_
  refine w_a f_329_5 ?_
  exact w_n (ks := [0, 1]) rfl h
set_option maxRecDepth 10000 in
set_option maxHeartbeats 4000000 in
theorem s_329_6 {Lx : Nat} {I : Mi} {L : Ml} {e : Nat} {Q : Kq} {x1 : Int32} (h :
    (if x1 < (Int32.ofInt 256) then
     Wp 330 0 [(0, .ref 58), (1, .int x1)] [] (gE Lx) I L e (kcp (Wp 329) 329 15 0 [(0, .ref 58), (1, .int x1)] 71 [] Q)
    else
     Q (.inl (some (.int (I 58 27)))) (gE Lx) I L e)) :
    Wp 329 6 [(0, .ref 58), (1, .int x1)] [] (gE Lx) I L e Q := by
  refine w_a f_329_6 ?_
  refine w_a f_329_7 ?_
  refine w_a f_329_10 ?_
  refine i_m (fun h => ?_) (fun h => ?_) h
  · refine w_a f_329_13 ?_
    refine w_a f_329_14 ?_
    exact w_c (ks := [0, 1]) f_329_15 rfl rfl h
  · refine w_a f_329_112 ?_
    refine w_a f_329_113 ?_
    refine w_a f_329_116 ?_
    exact h
set_option maxRecDepth 10000 in
set_option maxHeartbeats 4000000 in
theorem s_329_18 {Lx : Nat} {I : Mi} {L : Ml} {e : Nat} {Q : Kq} {x1 : Int32} {r : Int32} (h :
    (if r = 0 then
     Wp 329 106 [(0, .ref 58), (1, .int x1)] [] (gE Lx) I L e Q
    else
     Wp 228 0 [(0, .ref 58), (1, .long (I 59 0).toInt64), (3, .long (I 59 1).toInt64), (5, .long (I 59 2).toInt64), (7, .long (Int64.ofInt 0))] [] (gE Lx) I L e (kcp (Wp 329) 329 47 0 [(0, .ref 58), (1, .int x1)] 71 [] Q))) :
    Wp 329 18 [(0, .ref 58), (1, .int x1)] [.int r] (gE Lx) I L e Q := by
  refine w_a f_329_18 ?_
  refine i_m (fun h => ?_) (fun h => ?_) h
  · refine w_a f_329_21 ?_
    exact w_n (ks := [0, 1]) rfl h
  · refine w_a f_329_24 ?_
    refine w_a f_329_25 ?_
    refine w_a f_329_26 ?_
    refine w_a f_329_29 ?_
    refine w_a f_329_30 ?_
    refine w_a f_329_31 ?_
    refine w_a f_329_32 ?_
    refine w_a f_329_33 ?_
    refine w_a f_329_36 ?_
    refine w_a f_329_37 ?_
    refine w_a f_329_38 ?_
    refine w_a f_329_39 ?_
    refine w_a f_329_40 ?_
    refine w_a f_329_43 ?_
    refine w_a f_329_44 ?_
    refine w_a f_329_45 ?_
    refine w_a f_329_46 ?_
    exact w_c (ks := [0, 1]) f_329_47 rfl rfl h
set_option maxRecDepth 10000 in
set_option maxHeartbeats 4000000 in
theorem s_329_50 {Lx : Nat} {I : Mi} {L : Ml} {e : Nat} {Q : Kq} {x1 : Int32} (h :
    Wp 329 52 [(0, .ref 58), (1, .int x1), (2, .int (Int32.ofInt 0))] [] (gE Lx) I L e Q) :
    Wp 329 50 [(0, .ref 58), (1, .int x1)] [] (gE Lx) I L e Q := by
  refine w_a f_329_50 ?_
  refine w_a f_329_51 ?_
  exact w_n (ks := [0, 1, 2]) rfl h
set_option maxRecDepth 10000 in
set_option maxHeartbeats 4000000 in
theorem s_329_52 {Lx : Nat} {I : Mi} {L : Ml} {e : Nat} {Q : Kq} {x1 : Int32} {x2 : Int32} (h :
    (if x2 < (I 59 3) then
     Wp 220 0 [(0, .ref 58), (1, .int ((x1 >>> (((Int32.ofInt 2) * ((Int32.ofInt 3) - x2)) &&& 31)) &&& (Int32.ofInt 3)))] [] (gE Lx) I L e (kcp (Wp 329) 329 67 0 [(0, .ref 58), (1, .int x1), (2, .int x2)] 71 [.ref 58] Q)
    else
     Wp 315 0 [(0, .ref 58), (1, .int x1), (2, .int (Int32.ofInt 0)), (3, .int (Int32.ofInt 0))] [] (gE Lx) I L e (kcp (Wp 329) 329 103 0 [(0, .ref 58), (1, .int x1)] 71 [] Q))) :
    Wp 329 52 [(0, .ref 58), (1, .int x1), (2, .int x2)] [] (gE Lx) I L e Q := by
  refine w_a f_329_52 ?_
  refine w_a f_329_53 ?_
  refine w_a f_329_54 ?_
  refine w_a (ls := [(0, .ref 58)]) f_215_0 ?_
  refine w_a f_215_1 ?_
  refine w_a f_215_4 ?_
  refine w_a f_215_5 ?_
  refine w_a f_215_6 ?_
  refine w_a (ls := [(0, .ref 58), (1, .int x1), (2, .int x2)]) f_329_57 ?_
  refine i_m (fun h => ?_) (fun h => ?_) h
  · refine w_a f_329_60 ?_
    refine w_a f_329_61 ?_
    refine w_a f_329_62 ?_
    refine w_a f_329_63 ?_
    refine w_a f_329_64 ?_
    refine w_a (ls := [(0, .int x1), (1, .int x2)]) f_331_0 ?_
    refine w_a f_331_1 ?_
    refine w_a f_331_2 ?_
    refine w_a f_331_3 ?_
    refine w_a f_331_4 ?_
    refine w_a f_331_5 ?_
    refine w_a f_331_6 ?_
    refine w_a f_331_7 ?_
    refine w_a f_331_8 ?_
    refine w_a f_331_9 ?_
    exact w_c (ls := [(0, .ref 58), (1, .int x1), (2, .int x2)]) (ks := [0, 1, 2]) f_329_67 rfl rfl h
  · refine w_a f_329_99 ?_
    refine w_a f_329_100 ?_
    refine w_a f_329_101 ?_
    refine w_a f_329_102 ?_
    exact w_c (ks := [0, 1]) f_329_103 rfl rfl h
set_option maxRecDepth 10000 in
set_option maxHeartbeats 4000000 in
theorem s_329_70 {Lx : Nat} {I : Mi} {L : Ml} {e : Nat} {Q : Kq} {x1 : Int32} {x2 : Int32} {r : Int32} (h :
    Wp 223 0 [(0, .ref 58), (1, .int ((x1 >>> (((Int32.ofInt 2) * ((Int32.ofInt 3) - x2)) &&& 31)) &&& (Int32.ofInt 3)))] [] (gE Lx) I L e (kcp (Wp 329) 329 76 0 [(0, .ref 58), (1, .int x1), (2, .int x2)] 71 [.int r, .ref 58] Q)) :
    Wp 329 70 [(0, .ref 58), (1, .int x1), (2, .int x2)] [.int r, .ref 58] (gE Lx) I L e Q := by
  refine w_a f_329_70 ?_
  refine w_a f_329_71 ?_
  refine w_a f_329_72 ?_
  refine w_a f_329_73 ?_
  refine w_a (ls := [(0, .int x1), (1, .int x2)]) f_331_0 ?_
  refine w_a f_331_1 ?_
  refine w_a f_331_2 ?_
  refine w_a f_331_3 ?_
  refine w_a f_331_4 ?_
  refine w_a f_331_5 ?_
  refine w_a f_331_6 ?_
  refine w_a f_331_7 ?_
  refine w_a f_331_8 ?_
  refine w_a f_331_9 ?_
  exact w_c (ls := [(0, .ref 58), (1, .int x1), (2, .int x2)]) (ks := [0, 1, 2]) f_329_76 rfl rfl h
set_option maxRecDepth 10000 in
set_option maxHeartbeats 4000000 in
theorem s_329_79 {Lx : Nat} {I : Mi} {L : Ml} {e : Nat} {Q : Kq} {x1 : Int32} {x2 : Int32} {r1 : Int32} {r : Int32} (h :
    Wp 224 0 [(0, .ref 58), (1, .int ((x1 >>> (((Int32.ofInt 2) * ((Int32.ofInt 3) - x2)) &&& 31)) &&& (Int32.ofInt 3)))] [] (gE Lx) I L e (kcp (Wp 329) 329 86 0 [(0, .ref 58), (1, .int x1), (2, .int x2)] 71 [.long r.toInt64, .int r1, .ref 58] Q)) :
    Wp 329 79 [(0, .ref 58), (1, .int x1), (2, .int x2)] [.int r, .int r1, .ref 58] (gE Lx) I L e Q := by
  refine w_a f_329_79 ?_
  refine w_a f_329_80 ?_
  refine w_a f_329_81 ?_
  refine w_a f_329_82 ?_
  refine w_a f_329_83 ?_
  refine w_a (ls := [(0, .int x1), (1, .int x2)]) f_331_0 ?_
  refine w_a f_331_1 ?_
  refine w_a f_331_2 ?_
  refine w_a f_331_3 ?_
  refine w_a f_331_4 ?_
  refine w_a f_331_5 ?_
  refine w_a f_331_6 ?_
  refine w_a f_331_7 ?_
  refine w_a f_331_8 ?_
  refine w_a f_331_9 ?_
  exact w_c (ls := [(0, .ref 58), (1, .int x1), (2, .int x2)]) (ks := [0, 1, 2]) f_329_86 rfl rfl h
set_option maxRecDepth 10000 in
set_option maxHeartbeats 4000000 in
theorem s_329_89 {Lx : Nat} {I : Mi} {L : Ml} {e : Nat} {Q : Kq} {x1 : Int32} {x2 : Int32} {r1 : Int32} {rl2 : Int64} {r : Int32} (h :
    Wp 229 0 [(0, .ref 58), (1, .int r1), (2, .long rl2), (4, .long r.toInt64)] [] (gE Lx) I L e (kcp (Wp 329) 329 90 0 [(0, .ref 58), (1, .int x1), (2, .int x2)] 71 [] Q)) :
    Wp 329 89 [(0, .ref 58), (1, .int x1), (2, .int x2)] [.int r, .long rl2, .int r1, .ref 58] (gE Lx) I L e Q := by
  refine w_a f_329_89 ?_
  exact w_c (ks := [0, 1, 2]) f_329_90 rfl rfl h
set_option maxRecDepth 10000 in
set_option maxHeartbeats 4000000 in
theorem s_329_93 {Lx : Nat} {I : Mi} {L : Ml} {e : Nat} {Q : Kq} {x1 : Int32} {x2 : Int32} (h :
    Wp 329 52 [(0, .ref 58), (1, .int x1), (2, .int (x2 + Int32.ofInt 1))] [] (gE Lx) I L e Q) :
    Wp 329 93 [(0, .ref 58), (1, .int x1), (2, .int x2)] [] (gE Lx) I L e Q := by
  refine w_a f_329_93 ?_
  refine w_a (ls := [(2, .int (x2 + Int32.ofInt 1)), (0, .ref 58), (1, .int x1)]) f_329_96 ?_
  exact w_n (ks := [0, 1, 2]) rfl h
set_option maxRecDepth 10000 in
set_option maxHeartbeats 4000000 in
theorem s_329_106 {Lx : Nat} {I : Mi} {L : Ml} {e : Nat} {Q : Kq} {x1 : Int32} (h :
    Wp 329 6 [(0, .ref 58), (1, .int (x1 + Int32.ofInt 1))] [] (gE Lx) I L e Q) :
    Wp 329 106 [(0, .ref 58), (1, .int x1)] [] (gE Lx) I L e Q := by
  refine w_a f_329_106 ?_
  refine w_a (ls := [(1, .int (x1 + Int32.ofInt 1)), (0, .ref 58)]) f_329_109 ?_
  exact w_n (ks := [0, 1]) rfl h
set_option maxRecDepth 10000 in
set_option maxHeartbeats 4000000 in
theorem s_330_0 {Lx : Nat} {I : Mi} {L : Ml} {e : Nat} {Q : Kq} {x1 : Int32} (h :
    Wp 330 4 [(0, .ref 58), (1, .int x1), (2, .int (Int32.ofInt 0)), (3, .int (Int32.ofInt 0))] [] (gE Lx) I L e Q) :
    Wp 330 0 [(0, .ref 58), (1, .int x1)] [] (gE Lx) I L e Q := by
  refine w_a f_330_0 ?_
  refine w_a f_330_1 ?_
  refine w_a (ls := [(2, .int (Int32.ofInt 0)), (0, .ref 58), (1, .int x1)]) f_330_2 ?_
  refine w_a f_330_3 ?_
  exact w_n (ks := [0, 1, 2, 3]) rfl h
set_option maxRecDepth 10000 in
set_option maxHeartbeats 4000000 in
theorem s_330_4 {Lx : Nat} {I : Mi} {L : Ml} {e : Nat} {Q : Kq} {x1 : Int32} {x2 : Int32} {x3 : Int32} (h :
    (if x3 < (Int32.ofInt 4) then
     (if x3 < (I 59 3) then
      (if ((x1 >>> (((Int32.ofInt 2) * ((Int32.ofInt 3) - x3)) &&& 31)) &&& (Int32.ofInt 3)) < (I 59 3) then
       (if x3 < (I 59 3) then
        Wp 330 4 [(0, .ref 58), (1, .int x1), (2, .int (x2 ||| ((Int32.ofInt 1) <<< (((x1 >>> (((Int32.ofInt 2) * ((Int32.ofInt 3) - x3)) &&& 31)) &&& (Int32.ofInt 3)) &&& 31)))), (3, .int (x3 + Int32.ofInt 1))] [] (gE Lx) I L e Q
       else
        (if ((x1 >>> (((Int32.ofInt 2) * ((Int32.ofInt 3) - x3)) &&& 31)) &&& (Int32.ofInt 3)) = x3 then
         Wp 330 4 [(0, .ref 58), (1, .int x1), (2, .int (x2 ||| ((Int32.ofInt 1) <<< (((x1 >>> (((Int32.ofInt 2) * ((Int32.ofInt 3) - x3)) &&& 31)) &&& (Int32.ofInt 3)) &&& 31)))), (3, .int (x3 + Int32.ofInt 1))] [] (gE Lx) I L e Q
        else
         Q (.inl (some (.int (Int32.ofInt 0)))) (gE Lx) I L e))
      else
       Q (.inl (some (.int (Int32.ofInt 0)))) (gE Lx) I L e)
     else
      (if ((x1 >>> (((Int32.ofInt 2) * ((Int32.ofInt 3) - x3)) &&& 31)) &&& (Int32.ofInt 3)) < (I 59 3) then
       Q (.inl (some (.int (Int32.ofInt 0)))) (gE Lx) I L e
      else
       (if x3 < (I 59 3) then
        Wp 330 4 [(0, .ref 58), (1, .int x1), (2, .int (x2 ||| ((Int32.ofInt 1) <<< (((x1 >>> (((Int32.ofInt 2) * ((Int32.ofInt 3) - x3)) &&& 31)) &&& (Int32.ofInt 3)) &&& 31)))), (3, .int (x3 + Int32.ofInt 1))] [] (gE Lx) I L e Q
       else
        (if ((x1 >>> (((Int32.ofInt 2) * ((Int32.ofInt 3) - x3)) &&& 31)) &&& (Int32.ofInt 3)) = x3 then
         Wp 330 4 [(0, .ref 58), (1, .int x1), (2, .int (x2 ||| ((Int32.ofInt 1) <<< (((x1 >>> (((Int32.ofInt 2) * ((Int32.ofInt 3) - x3)) &&& 31)) &&& (Int32.ofInt 3)) &&& 31)))), (3, .int (x3 + Int32.ofInt 1))] [] (gE Lx) I L e Q
        else
         Q (.inl (some (.int (Int32.ofInt 0)))) (gE Lx) I L e))))
    else
     (if x2 = (Int32.ofInt 15) then
      Q (.inl (some (.int (Int32.ofInt 1)))) (gE Lx) I L e
     else
      Q (.inl (some (.int (Int32.ofInt 0)))) (gE Lx) I L e))) :
    Wp 330 4 [(0, .ref 58), (1, .int x1), (2, .int x2), (3, .int x3)] [] (gE Lx) I L e Q := by
  refine w_a f_330_4 ?_
  refine w_a f_330_5 ?_
  refine w_a f_330_6 ?_
  refine i_m (fun h => ?_) (fun h => ?_) h
  · refine w_a f_330_9 ?_
    refine w_a f_330_10 ?_
    refine w_a f_330_11 ?_
    refine w_a (ls := [(0, .int x1), (1, .int x3)]) f_331_0 ?_
    refine w_a f_331_1 ?_
    refine w_a f_331_2 ?_
    refine w_a f_331_3 ?_
    refine w_a f_331_4 ?_
    refine w_a f_331_5 ?_
    refine w_a f_331_6 ?_
    refine w_a f_331_7 ?_
    refine w_a f_331_8 ?_
    refine w_a f_331_9 ?_
    refine w_a (ls := [(0, .ref 58), (1, .int x1), (2, .int x2), (3, .int x3)]) f_330_14 ?_
    refine w_a (ls := [(4, .int ((x1 >>> (((Int32.ofInt 2) * ((Int32.ofInt 3) - x3)) &&& 31)) &&& (Int32.ofInt 3))), (0, .ref 58), (1, .int x1), (2, .int x2), (3, .int x3)]) f_330_16 ?_
    refine w_a f_330_17 ?_
    refine w_a f_330_18 ?_
    refine w_a (ls := [(0, .ref 58)]) f_215_0 ?_
    refine w_a f_215_1 ?_
    refine w_a f_215_4 ?_
    refine w_a f_215_5 ?_
    refine w_a f_215_6 ?_
    refine w_a (ls := [(4, .int ((x1 >>> (((Int32.ofInt 2) * ((Int32.ofInt 3) - x3)) &&& 31)) &&& (Int32.ofInt 3))), (0, .ref 58), (1, .int x1), (2, .int x2), (3, .int x3)]) f_330_21 ?_
    refine i_m (fun h => ?_) (fun h => ?_) h
    · refine w_a f_330_28 ?_
      refine w_a f_330_29 ?_
      refine w_a f_330_31 ?_
      refine w_a f_330_32 ?_
      refine w_a (ls := [(0, .ref 58)]) f_215_0 ?_
      refine w_a f_215_1 ?_
      refine w_a f_215_4 ?_
      refine w_a f_215_5 ?_
      refine w_a f_215_6 ?_
      refine w_a (ls := [(4, .int ((x1 >>> (((Int32.ofInt 2) * ((Int32.ofInt 3) - x3)) &&& 31)) &&& (Int32.ofInt 3))), (0, .ref 58), (1, .int x1), (2, .int x2), (3, .int x3)]) f_330_35 ?_
      refine i_m (fun h => ?_) (fun h => ?_) h
      · refine w_a f_330_42 ?_
        refine w_a f_330_43 ?_
        refine w_a f_330_46 ?_
        refine w_a f_330_47 ?_
        refine w_a f_330_48 ?_
        refine w_a (ls := [(0, .ref 58)]) f_215_0 ?_
        refine w_a f_215_1 ?_
        refine w_a f_215_4 ?_
        refine w_a f_215_5 ?_
        refine w_a f_215_6 ?_
        refine w_a (ls := [(4, .int ((x1 >>> (((Int32.ofInt 2) * ((Int32.ofInt 3) - x3)) &&& 31)) &&& (Int32.ofInt 3))), (0, .ref 58), (1, .int x1), (2, .int x2), (3, .int x3)]) f_330_51 ?_
        refine i_m (fun h => ?_) (fun h => ?_) h
        · refine w_a f_330_62 ?_
          refine w_a f_330_63 ?_
          refine w_a f_330_64 ?_
          refine w_a f_330_66 ?_
          refine w_a f_330_67 ?_
          refine w_a f_330_68 ?_
          refine w_a (ls := [(2, .int (x2 ||| ((Int32.ofInt 1) <<< (((x1 >>> (((Int32.ofInt 2) * ((Int32.ofInt 3) - x3)) &&& 31)) &&& (Int32.ofInt 3)) &&& 31)))), (4, .int ((x1 >>> (((Int32.ofInt 2) * ((Int32.ofInt 3) - x3)) &&& 31)) &&& (Int32.ofInt 3))), (0, .ref 58), (1, .int x1), (3, .int x3)]) f_330_69 ?_
          refine w_a (ls := [(3, .int (x3 + Int32.ofInt 1)), (2, .int (x2 ||| ((Int32.ofInt 1) <<< (((x1 >>> (((Int32.ofInt 2) * ((Int32.ofInt 3) - x3)) &&& 31)) &&& (Int32.ofInt 3)) &&& 31)))), (4, .int ((x1 >>> (((Int32.ofInt 2) * ((Int32.ofInt 3) - x3)) &&& 31)) &&& (Int32.ofInt 3))), (0, .ref 58), (1, .int x1)]) f_330_72 ?_
          exact w_n (ks := [0, 1, 2, 3]) rfl h
        · refine w_a f_330_54 ?_
          refine w_a f_330_56 ?_
          refine w_a f_330_57 ?_
          refine i_m (fun h => ?_) (fun h => ?_) h
          · refine w_a f_330_62 ?_
            refine w_a f_330_63 ?_
            refine w_a f_330_64 ?_
            refine w_a f_330_66 ?_
            refine w_a f_330_67 ?_
            refine w_a f_330_68 ?_
            refine w_a (ls := [(2, .int (x2 ||| ((Int32.ofInt 1) <<< (((x1 >>> (((Int32.ofInt 2) * ((Int32.ofInt 3) - x3)) &&& 31)) &&& (Int32.ofInt 3)) &&& 31)))), (4, .int ((x1 >>> (((Int32.ofInt 2) * ((Int32.ofInt 3) - x3)) &&& 31)) &&& (Int32.ofInt 3))), (0, .ref 58), (1, .int x1), (3, .int x3)]) f_330_69 ?_
            refine w_a (ls := [(3, .int (x3 + Int32.ofInt 1)), (2, .int (x2 ||| ((Int32.ofInt 1) <<< (((x1 >>> (((Int32.ofInt 2) * ((Int32.ofInt 3) - x3)) &&& 31)) &&& (Int32.ofInt 3)) &&& 31)))), (4, .int ((x1 >>> (((Int32.ofInt 2) * ((Int32.ofInt 3) - x3)) &&& 31)) &&& (Int32.ofInt 3))), (0, .ref 58), (1, .int x1)]) f_330_72 ?_
            exact w_n (ks := [0, 1, 2, 3]) rfl h
          · refine w_a f_330_60 ?_
            refine w_a f_330_61 ?_
            exact h
      · refine w_a f_330_38 ?_
        refine w_a f_330_39 ?_
        refine w_a f_330_43 ?_
        refine w_a f_330_60 ?_
        refine w_a f_330_61 ?_
        exact h
    · refine w_a f_330_24 ?_
      refine w_a f_330_25 ?_
      refine w_a f_330_29 ?_
      refine w_a f_330_31 ?_
      refine w_a f_330_32 ?_
      refine w_a (ls := [(0, .ref 58)]) f_215_0 ?_
      refine w_a f_215_1 ?_
      refine w_a f_215_4 ?_
      refine w_a f_215_5 ?_
      refine w_a f_215_6 ?_
      refine w_a (ls := [(4, .int ((x1 >>> (((Int32.ofInt 2) * ((Int32.ofInt 3) - x3)) &&& 31)) &&& (Int32.ofInt 3))), (0, .ref 58), (1, .int x1), (2, .int x2), (3, .int x3)]) f_330_35 ?_
      refine i_m (fun h => ?_) (fun h => ?_) h
      · refine w_a f_330_42 ?_
        refine w_a f_330_43 ?_
        refine w_a f_330_60 ?_
        refine w_a f_330_61 ?_
        exact h
      · refine w_a f_330_38 ?_
        refine w_a f_330_39 ?_
        refine w_a f_330_43 ?_
        refine w_a f_330_46 ?_
        refine w_a f_330_47 ?_
        refine w_a f_330_48 ?_
        refine w_a (ls := [(0, .ref 58)]) f_215_0 ?_
        refine w_a f_215_1 ?_
        refine w_a f_215_4 ?_
        refine w_a f_215_5 ?_
        refine w_a f_215_6 ?_
        refine w_a (ls := [(4, .int ((x1 >>> (((Int32.ofInt 2) * ((Int32.ofInt 3) - x3)) &&& 31)) &&& (Int32.ofInt 3))), (0, .ref 58), (1, .int x1), (2, .int x2), (3, .int x3)]) f_330_51 ?_
        refine i_m (fun h => ?_) (fun h => ?_) h
        · refine w_a f_330_62 ?_
          refine w_a f_330_63 ?_
          refine w_a f_330_64 ?_
          refine w_a f_330_66 ?_
          refine w_a f_330_67 ?_
          refine w_a f_330_68 ?_
          refine w_a (ls := [(2, .int (x2 ||| ((Int32.ofInt 1) <<< (((x1 >>> (((Int32.ofInt 2) * ((Int32.ofInt 3) - x3)) &&& 31)) &&& (Int32.ofInt 3)) &&& 31)))), (4, .int ((x1 >>> (((Int32.ofInt 2) * ((Int32.ofInt 3) - x3)) &&& 31)) &&& (Int32.ofInt 3))), (0, .ref 58), (1, .int x1), (3, .int x3)]) f_330_69 ?_
          refine w_a (ls := [(3, .int (x3 + Int32.ofInt 1)), (2, .int (x2 ||| ((Int32.ofInt 1) <<< (((x1 >>> (((Int32.ofInt 2) * ((Int32.ofInt 3) - x3)) &&& 31)) &&& (Int32.ofInt 3)) &&& 31)))), (4, .int ((x1 >>> (((Int32.ofInt 2) * ((Int32.ofInt 3) - x3)) &&& 31)) &&& (Int32.ofInt 3))), (0, .ref 58), (1, .int x1)]) f_330_72 ?_
          exact w_n (ks := [0, 1, 2, 3]) rfl h
        · refine w_a f_330_54 ?_
          refine w_a f_330_56 ?_
          refine w_a f_330_57 ?_
          refine i_m (fun h => ?_) (fun h => ?_) h
          · refine w_a f_330_62 ?_
            refine w_a f_330_63 ?_
            refine w_a f_330_64 ?_
            refine w_a f_330_66 ?_
            refine w_a f_330_67 ?_
            refine w_a f_330_68 ?_
            refine w_a (ls := [(2, .int (x2 ||| ((Int32.ofInt 1) <<< (((x1 >>> (((Int32.ofInt 2) * ((Int32.ofInt 3) - x3)) &&& 31)) &&& (Int32.ofInt 3)) &&& 31)))), (4, .int ((x1 >>> (((Int32.ofInt 2) * ((Int32.ofInt 3) - x3)) &&& 31)) &&& (Int32.ofInt 3))), (0, .ref 58), (1, .int x1), (3, .int x3)]) f_330_69 ?_
            refine w_a (ls := [(3, .int (x3 + Int32.ofInt 1)), (2, .int (x2 ||| ((Int32.ofInt 1) <<< (((x1 >>> (((Int32.ofInt 2) * ((Int32.ofInt 3) - x3)) &&& 31)) &&& (Int32.ofInt 3)) &&& 31)))), (4, .int ((x1 >>> (((Int32.ofInt 2) * ((Int32.ofInt 3) - x3)) &&& 31)) &&& (Int32.ofInt 3))), (0, .ref 58), (1, .int x1)]) f_330_72 ?_
            exact w_n (ks := [0, 1, 2, 3]) rfl h
          · refine w_a f_330_60 ?_
            refine w_a f_330_61 ?_
            exact h
  · refine w_a f_330_75 ?_
    refine w_a f_330_76 ?_
    refine w_a f_330_78 ?_
    refine i_m (fun h => ?_) (fun h => ?_) h
    · refine w_a f_330_81 ?_
      refine w_a f_330_82 ?_
      refine w_a f_330_86 ?_
      exact h
    · refine w_a f_330_85 ?_
      refine w_a f_330_86 ?_
      exact h
