/-! Pieces of methods, by program out of the tables: 230 to 262. -/
theorem f_211_0 : ftc (PT 211) 0 = some (0, .lload_n 0, 1, 0, 0, 0) := by decide +kernel
theorem f_211_1 : ftc (PT 211) 1 = some (1, .lconst 0, 1, 0, 0, 0) := by decide +kernel
theorem f_211_2 : ftc (PT 211) 2 = some (2, .lcmp, 1, 0, 0, 0) := by decide +kernel
theorem f_211_3 : ftc (PT 211) 3 = some (3, .ifCond .ge 7, 3, 10, 0, 0) := by decide +kernel
theorem f_211_6 : ftc (PT 211) 6 = some (6, .iconst 1, 1, 0, 0, 0) := by decide +kernel
theorem f_211_7 : ftc (PT 211) 7 = some (7, .goto 4, 3, 11, 0, 0) := by decide +kernel
theorem f_211_10 : ftc (PT 211) 10 = some (10, .iconst 0, 1, 0, 0, 0) := by decide +kernel
theorem f_211_11 : ftc (PT 211) 11 = some (11, .istore 8, 2, 0, 0, 0) := by decide +kernel
theorem f_211_13 : ftc (PT 211) 13 = some (13, .lload 4, 2, 0, 0, 0) := by decide +kernel
theorem f_211_15 : ftc (PT 211) 15 = some (15, .lconst 0, 1, 0, 0, 0) := by decide +kernel
theorem f_211_16 : ftc (PT 211) 16 = some (16, .lcmp, 1, 0, 0, 0) := by decide +kernel
theorem f_211_17 : ftc (PT 211) 17 = some (17, .ifCond .ge 7, 3, 24, 0, 0) := by decide +kernel
theorem f_211_20 : ftc (PT 211) 20 = some (20, .iconst 1, 1, 0, 0, 0) := by decide +kernel
theorem f_211_21 : ftc (PT 211) 21 = some (21, .goto 4, 3, 25, 0, 0) := by decide +kernel
theorem f_211_24 : ftc (PT 211) 24 = some (24, .iconst 0, 1, 0, 0, 0) := by decide +kernel
theorem f_211_25 : ftc (PT 211) 25 = some (25, .istore 9, 2, 0, 0, 0) := by decide +kernel
theorem f_211_27 : ftc (PT 211) 27 = some (27, .iload 8, 2, 0, 0, 0) := by decide +kernel
theorem f_211_29 : ftc (PT 211) 29 = some (29, .iload 9, 2, 0, 0, 0) := by decide +kernel
theorem f_211_31 : ftc (PT 211) 31 = some (31, .if_icmp .eq 14, 3, 45, 0, 0) := by decide +kernel
theorem f_211_34 : ftc (PT 211) 34 = some (34, .iload 8, 2, 0, 0, 0) := by decide +kernel
theorem f_211_36 : ftc (PT 211) 36 = some (36, .ifCond .eq 7, 3, 43, 0, 0) := by decide +kernel
theorem f_211_39 : ftc (PT 211) 39 = some (39, .iconst 1, 1, 0, 0, 0) := by decide +kernel
theorem f_211_40 : ftc (PT 211) 40 = some (40, .goto 4, 3, 44, 0, 0) := by decide +kernel
theorem f_211_43 : ftc (PT 211) 43 = some (43, .iconst (-1), 1, 0, 0, 0) := by decide +kernel
theorem f_211_44 : ftc (PT 211) 44 = some (44, .ireturn, 1, 0, 0, 0) := by decide +kernel
theorem f_211_45 : ftc (PT 211) 45 = some (45, .lload_n 0, 1, 0, 0, 0) := by decide +kernel
theorem f_211_46 : ftc (PT 211) 46 = some (46, .lload 6, 2, 0, 0, 0) := by decide +kernel
theorem f_211_48 : ftc (PT 211) 48 = some (48, .lmul, 1, 0, 0, 0) := by decide +kernel
theorem f_211_49 : ftc (PT 211) 49 = some (49, .lload 4, 2, 0, 0, 0) := by decide +kernel
theorem f_211_51 : ftc (PT 211) 51 = some (51, .lload_n 2, 1, 0, 0, 0) := by decide +kernel
theorem f_211_52 : ftc (PT 211) 52 = some (52, .lmul, 1, 0, 0, 0) := by decide +kernel
theorem f_211_53 : ftc (PT 211) 53 = some (53, .lsub, 1, 0, 0, 0) := by decide +kernel
theorem f_211_54 : ftc (PT 211) 54 = some (54, .lstore 10, 2, 0, 0, 0) := by decide +kernel
theorem f_211_56 : ftc (PT 211) 56 = some (56, .lload 10, 2, 0, 0, 0) := by decide +kernel
theorem f_211_58 : ftc (PT 211) 58 = some (58, .lconst 0, 1, 0, 0, 0) := by decide +kernel
theorem f_211_59 : ftc (PT 211) 59 = some (59, .lcmp, 1, 0, 0, 0) := by decide +kernel
theorem f_211_60 : ftc (PT 211) 60 = some (60, .ifCond .ge 7, 3, 67, 0, 0) := by decide +kernel
theorem f_211_63 : ftc (PT 211) 63 = some (63, .iconst (-1), 1, 0, 0, 0) := by decide +kernel
theorem f_211_64 : ftc (PT 211) 64 = some (64, .goto 15, 3, 79, 0, 0) := by decide +kernel
theorem f_211_67 : ftc (PT 211) 67 = some (67, .lload 10, 2, 0, 0, 0) := by decide +kernel
theorem f_211_69 : ftc (PT 211) 69 = some (69, .lconst 0, 1, 0, 0, 0) := by decide +kernel
theorem f_211_70 : ftc (PT 211) 70 = some (70, .lcmp, 1, 0, 0, 0) := by decide +kernel
theorem f_211_71 : ftc (PT 211) 71 = some (71, .ifCond .le 7, 3, 78, 0, 0) := by decide +kernel
theorem f_211_74 : ftc (PT 211) 74 = some (74, .iconst 1, 1, 0, 0, 0) := by decide +kernel
theorem f_211_75 : ftc (PT 211) 75 = some (75, .goto 4, 3, 79, 0, 0) := by decide +kernel
theorem f_211_78 : ftc (PT 211) 78 = some (78, .iconst 0, 1, 0, 0, 0) := by decide +kernel
theorem f_211_79 : ftc (PT 211) 79 = some (79, .ireturn, 1, 0, 0, 0) := by decide +kernel
theorem f_226_0 : ftc (PT 226) 0 = some (0, .iload_n 1, 1, 0, 0, 0) := by decide +kernel
theorem f_226_1 : ftc (PT 226) 1 = some (1, .iconst 0, 1, 0, 0, 0) := by decide +kernel
theorem f_226_2 : ftc (PT 226) 2 = some (2, .aload_n 0, 1, 0, 0, 0) := by decide +kernel
theorem f_226_3 : ftc (PT 226) 3 = some (3, .invokevirtual 92, 3, 215, 1036, 1781) := by decide +kernel
theorem f_226_6 : ftc (PT 226) 6 = some (6, .invokestatic 62, 3, 208, 3075, 1624) := by decide +kernel
theorem f_226_9 : ftc (PT 226) 9 = some (9, .ireturn, 1, 1, 0, 0) := by decide +kernel
theorem f_230_0 : ftc (PT 230) 0 = some (0, .iload_n 0, 1, 0, 0, 0) := by decide +kernel
theorem f_230_1 : ftc (PT 230) 1 = some (1, .invokestatic 126, 3, 231, 1025, 1844) := by decide +kernel
theorem f_230_4 : ftc (PT 230) 4 = some (4, .ifCond .eq 7, 3, 11, 0, 0) := by decide +kernel
theorem f_230_7 : ftc (PT 230) 7 = some (7, .lload_n 1, 1, 0, 0, 0) := by decide +kernel
theorem f_230_8 : ftc (PT 230) 8 = some (8, .goto 25, 3, 33, 0, 0) := by decide +kernel
theorem f_230_11 : ftc (PT 230) 11 = some (11, .lload_n 1, 1, 0, 0, 0) := by decide +kernel
theorem f_230_12 : ftc (PT 230) 12 = some (12, .lconst 0, 1, 0, 0, 0) := by decide +kernel
theorem f_230_13 : ftc (PT 230) 13 = some (13, .lcmp, 1, 0, 0, 0) := by decide +kernel
theorem f_230_14 : ftc (PT 230) 14 = some (14, .ifCond .le 8, 3, 22, 0, 0) := by decide +kernel
theorem f_230_17 : ftc (PT 230) 17 = some (17, .lload_n 3, 1, 0, 0, 0) := by decide +kernel
theorem f_230_18 : ftc (PT 230) 18 = some (18, .lneg, 1, 0, 0, 0) := by decide +kernel
theorem f_230_19 : ftc (PT 230) 19 = some (19, .goto 14, 3, 33, 0, 0) := by decide +kernel
theorem f_230_22 : ftc (PT 230) 22 = some (22, .lload_n 1, 1, 0, 0, 0) := by decide +kernel
theorem f_230_23 : ftc (PT 230) 23 = some (23, .lconst 0, 1, 0, 0, 0) := by decide +kernel
theorem f_230_24 : ftc (PT 230) 24 = some (24, .lcmp, 1, 0, 0, 0) := by decide +kernel
theorem f_230_25 : ftc (PT 230) 25 = some (25, .ifCond .ge 7, 3, 32, 0, 0) := by decide +kernel
theorem f_230_28 : ftc (PT 230) 28 = some (28, .lload_n 3, 1, 0, 0, 0) := by decide +kernel
theorem f_230_29 : ftc (PT 230) 29 = some (29, .goto 4, 3, 33, 0, 0) := by decide +kernel
theorem f_230_32 : ftc (PT 230) 32 = some (32, .lconst 1, 1, 0, 0, 0) := by decide +kernel
theorem f_230_33 : ftc (PT 230) 33 = some (33, .lreturn, 1, 0, 0, 0) := by decide +kernel
theorem f_231_0 : ftc (PT 231) 0 = some (0, .iload_n 0, 1, 0, 0, 0) := by decide +kernel
theorem f_231_1 : ftc (PT 231) 1 = some (1, .iconst 1, 1, 0, 0, 0) := by decide +kernel
theorem f_231_2 : ftc (PT 231) 2 = some (2, .if_icmp .eq 8, 3, 10, 0, 0) := by decide +kernel
theorem f_231_5 : ftc (PT 231) 5 = some (5, .iload_n 0, 1, 0, 0, 0) := by decide +kernel
theorem f_231_6 : ftc (PT 231) 6 = some (6, .iconst 4, 1, 0, 0, 0) := by decide +kernel
theorem f_231_7 : ftc (PT 231) 7 = some (7, .if_icmp .ne 7, 3, 14, 0, 0) := by decide +kernel
theorem f_231_10 : ftc (PT 231) 10 = some (10, .iconst 1, 1, 0, 0, 0) := by decide +kernel
theorem f_231_11 : ftc (PT 231) 11 = some (11, .goto 4, 3, 15, 0, 0) := by decide +kernel
theorem f_231_14 : ftc (PT 231) 14 = some (14, .iconst 0, 1, 0, 0, 0) := by decide +kernel
theorem f_231_15 : ftc (PT 231) 15 = some (15, .ireturn, 1, 1, 0, 0) := by decide +kernel
theorem f_232_0 : ftc (PT 232) 0 = some (0, .iload_n 0, 1, 0, 0, 0) := by decide +kernel
theorem f_232_1 : ftc (PT 232) 1 = some (1, .invokestatic 126, 3, 231, 1025, 1844) := by decide +kernel
theorem f_232_4 : ftc (PT 232) 4 = some (4, .ifCond .eq 7, 3, 11, 0, 0) := by decide +kernel
theorem f_232_7 : ftc (PT 232) 7 = some (7, .lload_n 3, 1, 0, 0, 0) := by decide +kernel
theorem f_232_8 : ftc (PT 232) 8 = some (8, .goto 15, 3, 23, 0, 0) := by decide +kernel
theorem f_232_11 : ftc (PT 232) 11 = some (11, .lload_n 1, 1, 0, 0, 0) := by decide +kernel
theorem f_232_12 : ftc (PT 232) 12 = some (12, .lconst 0, 1, 0, 0, 0) := by decide +kernel
theorem f_232_13 : ftc (PT 232) 13 = some (13, .lcmp, 1, 0, 0, 0) := by decide +kernel
theorem f_232_14 : ftc (PT 232) 14 = some (14, .ifCond .ge 8, 3, 22, 0, 0) := by decide +kernel
theorem f_232_17 : ftc (PT 232) 17 = some (17, .lload_n 1, 1, 0, 0, 0) := by decide +kernel
theorem f_232_18 : ftc (PT 232) 18 = some (18, .lneg, 1, 0, 0, 0) := by decide +kernel
theorem f_232_19 : ftc (PT 232) 19 = some (19, .goto 4, 3, 23, 0, 0) := by decide +kernel
theorem f_232_22 : ftc (PT 232) 22 = some (22, .lload_n 1, 1, 0, 0, 0) := by decide +kernel
theorem f_232_23 : ftc (PT 232) 23 = some (23, .lreturn, 1, 0, 0, 0) := by decide +kernel
theorem f_236_0 : ftc (PT 236) 0 = some (0, .lload_n 1, 1, 0, 0, 0) := by decide +kernel
theorem f_236_1 : ftc (PT 236) 1 = some (1, .lload_n 3, 1, 0, 0, 0) := by decide +kernel
theorem f_236_2 : ftc (PT 236) 2 = some (2, .invokestatic 66, 3, 209, 10242, 1627) := by decide +kernel
theorem f_236_5 : ftc (PT 236) 5 = some (5, .lstore 5, 2, 0, 0, 0) := by decide +kernel
theorem f_236_7 : ftc (PT 236) 7 = some (7, .lload 5, 2, 0, 0, 0) := by decide +kernel
theorem f_236_9 : ftc (PT 236) 9 = some (9, .lconst 0, 1, 0, 0, 0) := by decide +kernel
theorem f_236_10 : ftc (PT 236) 10 = some (10, .lcmp, 1, 0, 0, 0) := by decide +kernel
theorem f_236_11 : ftc (PT 236) 11 = some (11, .ifCond .ne 6, 3, 17, 0, 0) := by decide +kernel
theorem f_236_14 : ftc (PT 236) 14 = some (14, .lconst 1, 1, 0, 0, 0) := by decide +kernel
theorem f_236_15 : ftc (PT 236) 15 = some (15, .lstore 5, 2, 0, 0, 0) := by decide +kernel
theorem f_236_17 : ftc (PT 236) 17 = some (17, .lload_n 3, 1, 0, 0, 0) := by decide +kernel
theorem f_236_18 : ftc (PT 236) 18 = some (18, .lconst 0, 1, 0, 0, 0) := by decide +kernel
theorem f_236_19 : ftc (PT 236) 19 = some (19, .lcmp, 1, 0, 0, 0) := by decide +kernel
theorem f_236_20 : ftc (PT 236) 20 = some (20, .ifCond .ge 7, 3, 27, 0, 0) := by decide +kernel
theorem f_236_23 : ftc (PT 236) 23 = some (23, .iconst 1, 1, 0, 0, 0) := by decide +kernel
theorem f_236_24 : ftc (PT 236) 24 = some (24, .goto 4, 3, 28, 0, 0) := by decide +kernel
theorem f_236_27 : ftc (PT 236) 27 = some (27, .iconst 0, 1, 0, 0, 0) := by decide +kernel
theorem f_236_28 : ftc (PT 236) 28 = some (28, .istore 7, 2, 0, 0, 0) := by decide +kernel
theorem f_236_30 : ftc (PT 236) 30 = some (30, .aload_n 0, 1, 0, 0, 0) := by decide +kernel
theorem f_236_31 : ftc (PT 236) 31 = some (31, .iload 7, 2, 0, 0, 0) := by decide +kernel
theorem f_236_33 : ftc (PT 236) 33 = some (33, .ifCond .eq 11, 3, 44, 0, 0) := by decide +kernel
theorem f_236_36 : ftc (PT 236) 36 = some (36, .lload_n 1, 1, 0, 0, 0) := by decide +kernel
theorem f_236_37 : ftc (PT 236) 37 = some (37, .lneg, 1, 0, 0, 0) := by decide +kernel
theorem f_236_38 : ftc (PT 236) 38 = some (38, .lload 5, 2, 0, 0, 0) := by decide +kernel
theorem f_236_40 : ftc (PT 236) 40 = some (40, .ldiv, 1, 0, 0, 0) := by decide +kernel
theorem f_236_41 : ftc (PT 236) 41 = some (41, .goto 7, 3, 48, 0, 0) := by decide +kernel
theorem f_236_44 : ftc (PT 236) 44 = some (44, .lload_n 1, 1, 0, 0, 0) := by decide +kernel
theorem f_236_45 : ftc (PT 236) 45 = some (45, .lload 5, 2, 0, 0, 0) := by decide +kernel
theorem f_236_47 : ftc (PT 236) 47 = some (47, .ldiv, 1, 0, 0, 0) := by decide +kernel
theorem f_236_48 : ftc (PT 236) 48 = some (48, .putfield 81, 3, 12, 8, 1644) := by decide +kernel
theorem f_236_51 : ftc (PT 236) 51 = some (51, .aload_n 0, 1, 0, 0, 0) := by decide +kernel
theorem f_236_52 : ftc (PT 236) 52 = some (52, .iload 7, 2, 0, 0, 0) := by decide +kernel
theorem f_236_54 : ftc (PT 236) 54 = some (54, .ifCond .eq 11, 3, 65, 0, 0) := by decide +kernel
theorem f_236_57 : ftc (PT 236) 57 = some (57, .lload_n 3, 1, 0, 0, 0) := by decide +kernel
theorem f_236_58 : ftc (PT 236) 58 = some (58, .lneg, 1, 0, 0, 0) := by decide +kernel
theorem f_236_59 : ftc (PT 236) 59 = some (59, .lload 5, 2, 0, 0, 0) := by decide +kernel
theorem f_236_61 : ftc (PT 236) 61 = some (61, .ldiv, 1, 0, 0, 0) := by decide +kernel
theorem f_236_62 : ftc (PT 236) 62 = some (62, .goto 7, 3, 69, 0, 0) := by decide +kernel
theorem f_236_65 : ftc (PT 236) 65 = some (65, .lload_n 3, 1, 0, 0, 0) := by decide +kernel
theorem f_236_66 : ftc (PT 236) 66 = some (66, .lload 5, 2, 0, 0, 0) := by decide +kernel
theorem f_236_68 : ftc (PT 236) 68 = some (68, .ldiv, 1, 0, 0, 0) := by decide +kernel
theorem f_236_69 : ftc (PT 236) 69 = some (69, .putfield 85, 3, 12, 9, 1645) := by decide +kernel
theorem f_236_72 : ftc (PT 236) 72 = some (72, .return_, 1, 0, 0, 0) := by decide +kernel
theorem f_238_31 : ftc (PT 238) 31 = some (31, .aload_n 0, 1, 0, 0, 0) := by decide +kernel
theorem f_238_32 : ftc (PT 238) 32 = some (32, .invokevirtual 157, 3, 234, 1036, 1853) := by decide +kernel
theorem f_238_35 : ftc (PT 238) 35 = some (35, .ireturn, 1, 1, 0, 0) := by decide +kernel
theorem f_239_31 : ftc (PT 239) 31 = some (31, .aload_n 0, 1, 0, 0, 0) := by decide +kernel
theorem f_239_32 : ftc (PT 239) 32 = some (32, .invokevirtual 165, 3, 240, 1036, 1876) := by decide +kernel
theorem f_239_35 : ftc (PT 239) 35 = some (35, .aload_n 0, 1, 0, 0, 0) := by decide +kernel
theorem f_239_36 : ftc (PT 239) 36 = some (36, .iload_n 2, 1, 0, 0, 0) := by decide +kernel
theorem f_239_37 : ftc (PT 239) 37 = some (37, .invokevirtual 161, 3, 237, 2092, 1864) := by decide +kernel
theorem f_239_40 : ftc (PT 239) 40 = some (40, .lreturn, 1, 0, 0, 0) := by decide +kernel
theorem f_240_0 : ftc (PT 240) 0 = some (0, .aload_n 0, 1, 0, 0, 0) := by decide +kernel
theorem f_240_1 : ftc (PT 240) 1 = some (1, .aload_n 0, 1, 0, 0, 0) := by decide +kernel
theorem f_240_2 : ftc (PT 240) 2 = some (2, .getfield 114, 3, 12, 10, 1646) := by decide +kernel
theorem f_240_5 : ftc (PT 240) 5 = some (5, .aload_n 0, 1, 0, 0, 0) := by decide +kernel
theorem f_240_6 : ftc (PT 240) 6 = some (6, .getfield 120, 3, 12, 12, 1648) := by decide +kernel
theorem f_240_9 : ftc (PT 240) 9 = some (9, .lsub, 1, 0, 0, 0) := by decide +kernel
theorem f_240_10 : ftc (PT 240) 10 = some (10, .aload_n 0, 1, 0, 0, 0) := by decide +kernel
theorem f_240_11 : ftc (PT 240) 11 = some (11, .getfield 117, 3, 12, 11, 1647) := by decide +kernel
theorem f_240_14 : ftc (PT 240) 14 = some (14, .aload_n 0, 1, 0, 0, 0) := by decide +kernel
theorem f_240_15 : ftc (PT 240) 15 = some (15, .getfield 123, 3, 12, 13, 1649) := by decide +kernel
theorem f_240_18 : ftc (PT 240) 18 = some (18, .lsub, 1, 0, 0, 0) := by decide +kernel
theorem f_240_19 : ftc (PT 240) 19 = some (19, .invokestatic 147, 3, 235, 4098, 1857) := by decide +kernel
theorem f_240_22 : ftc (PT 240) 22 = some (22, .aload_n 0, 1, 0, 0, 0) := by decide +kernel
theorem f_240_23 : ftc (PT 240) 23 = some (23, .getfield 114, 3, 12, 10, 1646) := by decide +kernel
theorem f_240_26 : ftc (PT 240) 26 = some (26, .aload_n 0, 1, 0, 0, 0) := by decide +kernel
theorem f_240_27 : ftc (PT 240) 27 = some (27, .getfield 120, 3, 12, 12, 1648) := by decide +kernel
theorem f_240_30 : ftc (PT 240) 30 = some (30, .ladd, 1, 0, 0, 0) := by decide +kernel
theorem f_240_31 : ftc (PT 240) 31 = some (31, .aload_n 0, 1, 0, 0, 0) := by decide +kernel
theorem f_240_32 : ftc (PT 240) 32 = some (32, .getfield 117, 3, 12, 11, 1647) := by decide +kernel
theorem f_240_35 : ftc (PT 240) 35 = some (35, .aload_n 0, 1, 0, 0, 0) := by decide +kernel
theorem f_240_36 : ftc (PT 240) 36 = some (36, .getfield 123, 3, 12, 13, 1649) := by decide +kernel
theorem f_240_39 : ftc (PT 240) 39 = some (39, .ladd, 1, 0, 0, 0) := by decide +kernel
theorem f_240_40 : ftc (PT 240) 40 = some (40, .invokestatic 147, 3, 235, 4098, 1857) := by decide +kernel
theorem f_240_43 : ftc (PT 240) 43 = some (43, .invokevirtual 88, 3, 236, 8268, 1860) := by decide +kernel
theorem f_240_46 : ftc (PT 240) 46 = some (46, .return_, 1, 0, 0, 0) := by decide +kernel
theorem f_241_6 : ftc (PT 241) 6 = some (6, .ifCond .ne 7, 3, 13, 0, 0) := by decide +kernel
theorem f_241_9 : ftc (PT 241) 9 = some (9, .iconst 1, 1, 0, 0, 0) := by decide +kernel
theorem f_241_10 : ftc (PT 241) 10 = some (10, .goto 21, 3, 31, 0, 0) := by decide +kernel
theorem f_241_13 : ftc (PT 241) 13 = some (13, .iload_n 1, 1, 0, 0, 0) := by decide +kernel
theorem f_241_14 : ftc (PT 241) 14 = some (14, .i2l, 1, 0, 0, 0) := by decide +kernel
theorem f_241_15 : ftc (PT 241) 15 = some (15, .iload_n 2, 1, 0, 0, 0) := by decide +kernel
theorem f_241_16 : ftc (PT 241) 16 = some (16, .i2l, 1, 0, 0, 0) := by decide +kernel
theorem f_241_17 : ftc (PT 241) 17 = some (17, .invokestatic 147, 3, 235, 4098, 1857) := by decide +kernel
theorem f_241_20 : ftc (PT 241) 20 = some (20, .invokestatic 175, 3, 242, 4097, 1884) := by decide +kernel
theorem f_241_23 : ftc (PT 241) 23 = some (23, .ifCond .ne 7, 3, 30, 0, 0) := by decide +kernel
theorem f_241_26 : ftc (PT 241) 26 = some (26, .iconst 2, 1, 0, 0, 0) := by decide +kernel
theorem f_241_27 : ftc (PT 241) 27 = some (27, .goto 4, 3, 31, 0, 0) := by decide +kernel
theorem f_241_30 : ftc (PT 241) 30 = some (30, .iconst 0, 1, 0, 0, 0) := by decide +kernel
theorem f_241_31 : ftc (PT 241) 31 = some (31, .putfield 55, 3, 12, 0, 1636) := by decide +kernel
theorem f_241_34 : ftc (PT 241) 34 = some (34, .aload_n 0, 1, 0, 0, 0) := by decide +kernel
theorem f_241_35 : ftc (PT 241) 35 = some (35, .getfield 55, 3, 12, 0, 1636) := by decide +kernel
theorem f_241_38 : ftc (PT 241) 38 = some (38, .ifCond .le 5, 3, 43, 0, 0) := by decide +kernel
theorem f_241_41 : ftc (PT 241) 41 = some (41, .iconst 0, 1, 0, 0, 0) := by decide +kernel
theorem f_241_42 : ftc (PT 241) 42 = some (42, .ireturn, 1, 0, 0, 0) := by decide +kernel
theorem f_241_43 : ftc (PT 241) 43 = some (43, .iload_n 1, 1, 0, 0, 0) := by decide +kernel
theorem f_241_44 : ftc (PT 241) 44 = some (44, .i2l, 1, 0, 0, 0) := by decide +kernel
theorem f_241_45 : ftc (PT 241) 45 = some (45, .iload_n 2, 1, 0, 0, 0) := by decide +kernel
theorem f_241_46 : ftc (PT 241) 46 = some (46, .i2l, 1, 0, 0, 0) := by decide +kernel
theorem f_241_47 : ftc (PT 241) 47 = some (47, .invokestatic 147, 3, 235, 4098, 1857) := by decide +kernel
theorem f_241_50 : ftc (PT 241) 50 = some (50, .invokestatic 172, 3, 243, 8193, 1887) := by decide +kernel
theorem f_241_53 : ftc (PT 241) 53 = some (53, .lstore 4, 2, 0, 0, 0) := by decide +kernel
theorem f_241_55 : ftc (PT 241) 55 = some (55, .iload_n 1, 1, 0, 0, 0) := by decide +kernel
theorem f_241_56 : ftc (PT 241) 56 = some (56, .ifCond .ne 12, 3, 68, 0, 0) := by decide +kernel
theorem f_241_59 : ftc (PT 241) 59 = some (59, .aload_n 0, 1, 0, 0, 0) := by decide +kernel
theorem f_241_60 : ftc (PT 241) 60 = some (60, .lconst 0, 1, 0, 0, 0) := by decide +kernel
theorem f_241_61 : ftc (PT 241) 61 = some (61, .lconst 1, 1, 0, 0, 0) := by decide +kernel
theorem f_241_62 : ftc (PT 241) 62 = some (62, .invokevirtual 88, 3, 236, 8268, 1860) := by decide +kernel
theorem f_241_65 : ftc (PT 241) 65 = some (65, .goto 36, 3, 101, 0, 0) := by decide +kernel
theorem f_241_68 : ftc (PT 241) 68 = some (68, .aload_n 0, 1, 0, 0, 0) := by decide +kernel
theorem f_241_69 : ftc (PT 241) 69 = some (69, .iload_n 1, 1, 0, 0, 0) := by decide +kernel
theorem f_241_70 : ftc (PT 241) 70 = some (70, .ifCond .le 11, 3, 81, 0, 0) := by decide +kernel
theorem f_241_73 : ftc (PT 241) 73 = some (73, .lload 4, 2, 0, 0, 0) := by decide +kernel
theorem f_241_75 : ftc (PT 241) 75 = some (75, .iload_n 2, 1, 0, 0, 0) := by decide +kernel
theorem f_241_76 : ftc (PT 241) 76 = some (76, .i2l, 1, 0, 0, 0) := by decide +kernel
theorem f_241_77 : ftc (PT 241) 77 = some (77, .lsub, 1, 0, 0, 0) := by decide +kernel
theorem f_241_78 : ftc (PT 241) 78 = some (78, .goto 8, 3, 86, 0, 0) := by decide +kernel
theorem f_241_81 : ftc (PT 241) 81 = some (81, .lload 4, 2, 0, 0, 0) := by decide +kernel
theorem f_241_83 : ftc (PT 241) 83 = some (83, .iload_n 2, 1, 0, 0, 0) := by decide +kernel
theorem f_241_84 : ftc (PT 241) 84 = some (84, .i2l, 1, 0, 0, 0) := by decide +kernel
theorem f_241_85 : ftc (PT 241) 85 = some (85, .ladd, 1, 0, 0, 0) := by decide +kernel
theorem f_241_86 : ftc (PT 241) 86 = some (86, .iload_n 1, 1, 0, 0, 0) := by decide +kernel
theorem f_241_87 : ftc (PT 241) 87 = some (87, .ifCond .le 8, 3, 95, 0, 0) := by decide +kernel
theorem f_241_90 : ftc (PT 241) 90 = some (90, .iload_n 1, 1, 0, 0, 0) := by decide +kernel
theorem f_241_91 : ftc (PT 241) 91 = some (91, .i2l, 1, 0, 0, 0) := by decide +kernel
theorem f_241_92 : ftc (PT 241) 92 = some (92, .goto 6, 3, 98, 0, 0) := by decide +kernel
theorem f_241_95 : ftc (PT 241) 95 = some (95, .iload_n 1, 1, 0, 0, 0) := by decide +kernel
theorem f_241_96 : ftc (PT 241) 96 = some (96, .ineg, 1, 0, 0, 0) := by decide +kernel
theorem f_241_97 : ftc (PT 241) 97 = some (97, .i2l, 1, 0, 0, 0) := by decide +kernel
theorem f_241_98 : ftc (PT 241) 98 = some (98, .invokevirtual 88, 3, 236, 8268, 1860) := by decide +kernel
theorem f_241_101 : ftc (PT 241) 101 = some (101, .aload_n 0, 1, 0, 0, 0) := by decide +kernel
theorem f_241_102 : ftc (PT 241) 102 = some (102, .iload_n 3, 1, 0, 0, 0) := by decide +kernel
theorem f_241_103 : ftc (PT 241) 103 = some (103, .invokevirtual 161, 3, 237, 2092, 1864) := by decide +kernel
theorem f_241_106 : ftc (PT 241) 106 = some (106, .l2i, 1, 0, 0, 0) := by decide +kernel
theorem f_241_107 : ftc (PT 241) 107 = some (107, .ireturn, 1, 0, 0, 0) := by decide +kernel
theorem f_242_0 : ftc (PT 242) 0 = some (0, .lload_n 0, 1, 0, 0, 0) := by decide +kernel
theorem f_242_1 : ftc (PT 242) 1 = some (1, .invokestatic 172, 3, 243, 8193, 1887) := by decide +kernel
theorem f_242_4 : ftc (PT 242) 4 = some (4, .lstore_n 2, 1, 0, 0, 0) := by decide +kernel
theorem f_242_5 : ftc (PT 242) 5 = some (5, .lload_n 2, 1, 0, 0, 0) := by decide +kernel
theorem f_242_6 : ftc (PT 242) 6 = some (6, .lload_n 2, 1, 0, 0, 0) := by decide +kernel
theorem f_242_7 : ftc (PT 242) 7 = some (7, .lmul, 1, 0, 0, 0) := by decide +kernel
theorem f_242_8 : ftc (PT 242) 8 = some (8, .lload_n 0, 1, 0, 0, 0) := by decide +kernel
theorem f_242_9 : ftc (PT 242) 9 = some (9, .lcmp, 1, 0, 0, 0) := by decide +kernel
theorem f_242_10 : ftc (PT 242) 10 = some (10, .ifCond .ne 7, 3, 17, 0, 0) := by decide +kernel
theorem f_242_13 : ftc (PT 242) 13 = some (13, .iconst 1, 1, 0, 0, 0) := by decide +kernel
theorem f_242_14 : ftc (PT 242) 14 = some (14, .goto 4, 3, 18, 0, 0) := by decide +kernel
theorem f_242_17 : ftc (PT 242) 17 = some (17, .iconst 0, 1, 0, 0, 0) := by decide +kernel
theorem f_242_18 : ftc (PT 242) 18 = some (18, .ireturn, 1, 1, 0, 0) := by decide +kernel
theorem f_243_0 : ftc (PT 243) 0 = some (0, .lconst 0, 1, 0, 0, 0) := by decide +kernel
theorem f_243_1 : ftc (PT 243) 1 = some (1, .lstore_n 2, 1, 0, 0, 0) := by decide +kernel
theorem f_243_2 : ftc (PT 243) 2 = some (2, .ldc2_w 168, 3, 1890, 0, 3000000000) := by decide +kernel
theorem f_243_5 : ftc (PT 243) 5 = some (5, .lstore 4, 2, 0, 0, 0) := by decide +kernel
theorem f_243_7 : ftc (PT 243) 7 = some (7, .lload_n 2, 1, 0, 0, 0) := by decide +kernel
theorem f_243_8 : ftc (PT 243) 8 = some (8, .lload 4, 2, 0, 0, 0) := by decide +kernel
theorem f_243_10 : ftc (PT 243) 10 = some (10, .lcmp, 1, 0, 0, 0) := by decide +kernel
theorem f_243_11 : ftc (PT 243) 11 = some (11, .ifCond .ge 40, 3, 51, 0, 0) := by decide +kernel
theorem f_243_14 : ftc (PT 243) 14 = some (14, .lload_n 2, 1, 0, 0, 0) := by decide +kernel
theorem f_243_15 : ftc (PT 243) 15 = some (15, .lload 4, 2, 0, 0, 0) := by decide +kernel
theorem f_243_17 : ftc (PT 243) 17 = some (17, .ladd, 1, 0, 0, 0) := by decide +kernel
theorem f_243_18 : ftc (PT 243) 18 = some (18, .lconst 1, 1, 0, 0, 0) := by decide +kernel
theorem f_243_19 : ftc (PT 243) 19 = some (19, .ladd, 1, 0, 0, 0) := by decide +kernel
theorem f_243_20 : ftc (PT 243) 20 = some (20, .ldc2_w 170, 3, 1891, 0, 2) := by decide +kernel
theorem f_243_23 : ftc (PT 243) 23 = some (23, .ldiv, 1, 0, 0, 0) := by decide +kernel
theorem f_243_24 : ftc (PT 243) 24 = some (24, .lstore 6, 2, 0, 0, 0) := by decide +kernel
theorem f_243_26 : ftc (PT 243) 26 = some (26, .lload 6, 2, 0, 0, 0) := by decide +kernel
theorem f_243_28 : ftc (PT 243) 28 = some (28, .lload 6, 2, 0, 0, 0) := by decide +kernel
theorem f_243_30 : ftc (PT 243) 30 = some (30, .lmul, 1, 0, 0, 0) := by decide +kernel
theorem f_243_31 : ftc (PT 243) 31 = some (31, .lload_n 0, 1, 0, 0, 0) := by decide +kernel
theorem f_243_32 : ftc (PT 243) 32 = some (32, .lcmp, 1, 0, 0, 0) := by decide +kernel
theorem f_243_33 : ftc (PT 243) 33 = some (33, .ifCond .gt 9, 3, 42, 0, 0) := by decide +kernel
theorem f_243_36 : ftc (PT 243) 36 = some (36, .lload 6, 2, 0, 0, 0) := by decide +kernel
theorem f_243_38 : ftc (PT 243) 38 = some (38, .lstore_n 2, 1, 0, 0, 0) := by decide +kernel
theorem f_243_39 : ftc (PT 243) 39 = some (39, .goto 9, 3, 48, 0, 0) := by decide +kernel
theorem f_243_42 : ftc (PT 243) 42 = some (42, .lload 6, 2, 0, 0, 0) := by decide +kernel
theorem f_243_44 : ftc (PT 243) 44 = some (44, .lconst 1, 1, 0, 0, 0) := by decide +kernel
theorem f_243_45 : ftc (PT 243) 45 = some (45, .lsub, 1, 0, 0, 0) := by decide +kernel
theorem f_243_46 : ftc (PT 243) 46 = some (46, .lstore 4, 2, 0, 0, 0) := by decide +kernel
theorem f_243_48 : ftc (PT 243) 48 = some (48, .goto (-41), 3, 7, 0, 0) := by decide +kernel
theorem f_243_51 : ftc (PT 243) 51 = some (51, .lload_n 2, 1, 0, 0, 0) := by decide +kernel
theorem f_243_52 : ftc (PT 243) 52 = some (52, .lreturn, 1, 0, 0, 0) := by decide +kernel
theorem f_244_6 : ftc (PT 244) 6 = some (6, .ifCond .eq 16, 3, 22, 0, 0) := by decide +kernel
theorem f_244_9 : ftc (PT 244) 9 = some (9, .iload_n 3, 1, 0, 0, 0) := by decide +kernel
theorem f_244_10 : ftc (PT 244) 10 = some (10, .iconst 1, 1, 0, 0, 0) := by decide +kernel
theorem f_244_11 : ftc (PT 244) 11 = some (11, .iconst 4, 1, 0, 0, 0) := by decide +kernel
theorem f_244_12 : ftc (PT 244) 12 = some (12, .invokestatic 62, 3, 208, 3075, 1624) := by decide +kernel
theorem f_244_15 : ftc (PT 244) 15 = some (15, .ifCond .eq 7, 3, 22, 0, 0) := by decide +kernel
theorem f_244_18 : ftc (PT 244) 18 = some (18, .iconst 0, 1, 0, 0, 0) := by decide +kernel
theorem f_244_19 : ftc (PT 244) 19 = some (19, .goto 4, 3, 23, 0, 0) := by decide +kernel
theorem f_244_22 : ftc (PT 244) 22 = some (22, .iconst 1, 1, 0, 0, 0) := by decide +kernel
theorem f_244_23 : ftc (PT 244) 23 = some (23, .putfield 55, 3, 12, 0, 1636) := by decide +kernel
theorem f_244_26 : ftc (PT 244) 26 = some (26, .aload_n 0, 1, 0, 0, 0) := by decide +kernel
theorem f_244_27 : ftc (PT 244) 27 = some (27, .getfield 55, 3, 12, 0, 1636) := by decide +kernel
theorem f_244_30 : ftc (PT 244) 30 = some (30, .ifCond .le 5, 3, 35, 0, 0) := by decide +kernel
theorem f_244_33 : ftc (PT 244) 33 = some (33, .iconst 0, 1, 0, 0, 0) := by decide +kernel
theorem f_244_34 : ftc (PT 244) 34 = some (34, .ireturn, 1, 0, 0, 0) := by decide +kernel
theorem f_244_35 : ftc (PT 244) 35 = some (35, .aload_n 0, 1, 0, 0, 0) := by decide +kernel
theorem f_244_36 : ftc (PT 244) 36 = some (36, .iload_n 1, 1, 0, 0, 0) := by decide +kernel
theorem f_244_37 : ftc (PT 244) 37 = some (37, .i2l, 1, 0, 0, 0) := by decide +kernel
theorem f_244_38 : ftc (PT 244) 38 = some (38, .iload_n 2, 1, 0, 0, 0) := by decide +kernel
theorem f_244_39 : ftc (PT 244) 39 = some (39, .i2l, 1, 0, 0, 0) := by decide +kernel
theorem f_244_40 : ftc (PT 244) 40 = some (40, .iload_n 3, 1, 0, 0, 0) := by decide +kernel
theorem f_244_41 : ftc (PT 244) 41 = some (41, .invokevirtual 185, 3, 245, 7276, 1896) := by decide +kernel
theorem f_244_44 : ftc (PT 244) 44 = some (44, .aload_n 0, 1, 0, 0, 0) := by decide +kernel
theorem f_244_45 : ftc (PT 244) 45 = some (45, .iload 4, 2, 0, 0, 0) := by decide +kernel
theorem f_244_47 : ftc (PT 244) 47 = some (47, .invokevirtual 161, 3, 237, 2092, 1864) := by decide +kernel
theorem f_244_50 : ftc (PT 244) 50 = some (50, .l2i, 1, 0, 0, 0) := by decide +kernel
theorem f_244_51 : ftc (PT 244) 51 = some (51, .ireturn, 1, 0, 0, 0) := by decide +kernel
theorem f_245_0 : ftc (PT 245) 0 = some (0, .aload_n 0, 1, 0, 0, 0) := by decide +kernel
theorem f_245_1 : ftc (PT 245) 1 = some (1, .lload_n 1, 1, 0, 0, 0) := by decide +kernel
theorem f_245_2 : ftc (PT 245) 2 = some (2, .lload_n 3, 1, 0, 0, 0) := by decide +kernel
theorem f_245_3 : ftc (PT 245) 3 = some (3, .invokevirtual 179, 3, 246, 5196, 1900) := by decide +kernel
theorem f_245_6 : ftc (PT 245) 6 = some (6, .iconst 1, 1, 0, 0, 0) := by decide +kernel
theorem f_245_7 : ftc (PT 245) 7 = some (7, .istore 6, 2, 0, 0, 0) := by decide +kernel
theorem f_245_9 : ftc (PT 245) 9 = some (9, .iload 6, 2, 0, 0, 0) := by decide +kernel
theorem f_245_11 : ftc (PT 245) 11 = some (11, .iload 5, 2, 0, 0, 0) := by decide +kernel
theorem f_245_13 : ftc (PT 245) 13 = some (13, .if_icmp .ge 23, 3, 36, 0, 0) := by decide +kernel
theorem f_245_16 : ftc (PT 245) 16 = some (16, .aload_n 0, 1, 0, 0, 0) := by decide +kernel
theorem f_245_17 : ftc (PT 245) 17 = some (17, .aload_n 0, 1, 0, 0, 0) := by decide +kernel
theorem f_245_18 : ftc (PT 245) 18 = some (18, .getfield 81, 3, 12, 8, 1644) := by decide +kernel
theorem f_245_21 : ftc (PT 245) 21 = some (21, .aload_n 0, 1, 0, 0, 0) := by decide +kernel
theorem f_245_22 : ftc (PT 245) 22 = some (22, .getfield 85, 3, 12, 9, 1645) := by decide +kernel
theorem f_245_25 : ftc (PT 245) 25 = some (25, .lload_n 1, 1, 0, 0, 0) := by decide +kernel
theorem f_245_26 : ftc (PT 245) 26 = some (26, .lload_n 3, 1, 0, 0, 0) := by decide +kernel
theorem f_245_27 : ftc (PT 245) 27 = some (27, .invokevirtual 182, 3, 247, 9356, 1904) := by decide +kernel
theorem f_245_30 : ftc (PT 245) 30 = some (30, .iinc 6 1, 3, 0, 0, 0) := by decide +kernel
theorem f_245_33 : ftc (PT 245) 33 = some (33, .goto (-24), 3, 9, 0, 0) := by decide +kernel
theorem f_245_36 : ftc (PT 245) 36 = some (36, .return_, 1, 0, 0, 0) := by decide +kernel
theorem f_246_0 : ftc (PT 246) 0 = some (0, .aload_n 0, 1, 0, 0, 0) := by decide +kernel
theorem f_246_1 : ftc (PT 246) 1 = some (1, .lload_n 1, 1, 0, 0, 0) := by decide +kernel
theorem f_246_2 : ftc (PT 246) 2 = some (2, .lload_n 3, 1, 0, 0, 0) := by decide +kernel
theorem f_246_3 : ftc (PT 246) 3 = some (3, .invokevirtual 88, 3, 236, 8268, 1860) := by decide +kernel
theorem f_246_6 : ftc (PT 246) 6 = some (6, .aload_n 0, 1, 0, 0, 0) := by decide +kernel
theorem f_246_7 : ftc (PT 246) 7 = some (7, .getfield 85, 3, 12, 9, 1645) := by decide +kernel
theorem f_246_10 : ftc (PT 246) 10 = some (10, .lconst 0, 1, 0, 0, 0) := by decide +kernel
theorem f_246_11 : ftc (PT 246) 11 = some (11, .lcmp, 1, 0, 0, 0) := by decide +kernel
theorem f_246_12 : ftc (PT 246) 12 = some (12, .ifCond .ne 8, 3, 20, 0, 0) := by decide +kernel
theorem f_246_15 : ftc (PT 246) 15 = some (15, .aload_n 0, 1, 0, 0, 0) := by decide +kernel
theorem f_246_16 : ftc (PT 246) 16 = some (16, .lconst 1, 1, 0, 0, 0) := by decide +kernel
theorem f_246_17 : ftc (PT 246) 17 = some (17, .putfield 81, 3, 12, 8, 1644) := by decide +kernel
theorem f_246_20 : ftc (PT 246) 20 = some (20, .return_, 1, 0, 0, 0) := by decide +kernel
theorem f_247_0 : ftc (PT 247) 0 = some (0, .aload_n 0, 1, 0, 0, 0) := by decide +kernel
theorem f_247_1 : ftc (PT 247) 1 = some (1, .lload_n 1, 1, 0, 0, 0) := by decide +kernel
theorem f_247_2 : ftc (PT 247) 2 = some (2, .lload 7, 2, 0, 0, 0) := by decide +kernel
theorem f_247_4 : ftc (PT 247) 4 = some (4, .lmul, 1, 0, 0, 0) := by decide +kernel
theorem f_247_5 : ftc (PT 247) 5 = some (5, .lload_n 3, 1, 0, 0, 0) := by decide +kernel
theorem f_247_6 : ftc (PT 247) 6 = some (6, .lload 5, 2, 0, 0, 0) := by decide +kernel
theorem f_247_8 : ftc (PT 247) 8 = some (8, .lmul, 1, 0, 0, 0) := by decide +kernel
theorem f_247_9 : ftc (PT 247) 9 = some (9, .ladd, 1, 0, 0, 0) := by decide +kernel
theorem f_247_10 : ftc (PT 247) 10 = some (10, .lload_n 3, 1, 0, 0, 0) := by decide +kernel
theorem f_247_11 : ftc (PT 247) 11 = some (11, .lload 7, 2, 0, 0, 0) := by decide +kernel
theorem f_247_13 : ftc (PT 247) 13 = some (13, .lmul, 1, 0, 0, 0) := by decide +kernel
theorem f_247_14 : ftc (PT 247) 14 = some (14, .lload_n 1, 1, 0, 0, 0) := by decide +kernel
theorem f_247_15 : ftc (PT 247) 15 = some (15, .lload 5, 2, 0, 0, 0) := by decide +kernel
theorem f_247_17 : ftc (PT 247) 17 = some (17, .lmul, 1, 0, 0, 0) := by decide +kernel
theorem f_247_18 : ftc (PT 247) 18 = some (18, .lsub, 1, 0, 0, 0) := by decide +kernel
theorem f_247_19 : ftc (PT 247) 19 = some (19, .invokevirtual 179, 3, 246, 5196, 1900) := by decide +kernel
theorem f_247_22 : ftc (PT 247) 22 = some (22, .return_, 1, 0, 0, 0) := by decide +kernel
theorem f_248_6 : ftc (PT 248) 6 = some (6, .ifCond .eq 16, 3, 22, 0, 0) := by decide +kernel
theorem f_248_9 : ftc (PT 248) 9 = some (9, .iload_n 3, 1, 0, 0, 0) := by decide +kernel
theorem f_248_10 : ftc (PT 248) 10 = some (10, .iload 4, 2, 0, 0, 0) := by decide +kernel
theorem f_248_12 : ftc (PT 248) 12 = some (12, .invokestatic 70, 3, 207, 2050, 1621) := by decide +kernel
theorem f_248_15 : ftc (PT 248) 15 = some (15, .ifCond .eq 7, 3, 22, 0, 0) := by decide +kernel
theorem f_248_18 : ftc (PT 248) 18 = some (18, .iconst 0, 1, 0, 0, 0) := by decide +kernel
theorem f_248_19 : ftc (PT 248) 19 = some (19, .goto 4, 3, 23, 0, 0) := by decide +kernel
theorem f_248_22 : ftc (PT 248) 22 = some (22, .iconst 1, 1, 0, 0, 0) := by decide +kernel
theorem f_248_23 : ftc (PT 248) 23 = some (23, .putfield 55, 3, 12, 0, 1636) := by decide +kernel
theorem f_248_26 : ftc (PT 248) 26 = some (26, .aload_n 0, 1, 0, 0, 0) := by decide +kernel
theorem f_248_27 : ftc (PT 248) 27 = some (27, .getfield 55, 3, 12, 0, 1636) := by decide +kernel
theorem f_248_30 : ftc (PT 248) 30 = some (30, .ifCond .le 5, 3, 35, 0, 0) := by decide +kernel
theorem f_248_33 : ftc (PT 248) 33 = some (33, .iconst 0, 1, 0, 0, 0) := by decide +kernel
theorem f_248_34 : ftc (PT 248) 34 = some (34, .ireturn, 1, 0, 0, 0) := by decide +kernel
theorem f_248_35 : ftc (PT 248) 35 = some (35, .aload_n 0, 1, 0, 0, 0) := by decide +kernel
theorem f_248_36 : ftc (PT 248) 36 = some (36, .iload_n 1, 1, 0, 0, 0) := by decide +kernel
theorem f_248_37 : ftc (PT 248) 37 = some (37, .i2l, 1, 0, 0, 0) := by decide +kernel
theorem f_248_38 : ftc (PT 248) 38 = some (38, .iload_n 2, 1, 0, 0, 0) := by decide +kernel
theorem f_248_39 : ftc (PT 248) 39 = some (39, .i2l, 1, 0, 0, 0) := by decide +kernel
theorem f_248_40 : ftc (PT 248) 40 = some (40, .iload_n 3, 1, 0, 0, 0) := by decide +kernel
theorem f_248_41 : ftc (PT 248) 41 = some (41, .i2l, 1, 0, 0, 0) := by decide +kernel
theorem f_248_42 : ftc (PT 248) 42 = some (42, .iload 4, 2, 0, 0, 0) := by decide +kernel
theorem f_248_44 : ftc (PT 248) 44 = some (44, .i2l, 1, 0, 0, 0) := by decide +kernel
theorem f_248_45 : ftc (PT 248) 45 = some (45, .invokevirtual 182, 3, 247, 9356, 1904) := by decide +kernel
theorem f_248_48 : ftc (PT 248) 48 = some (48, .aload_n 0, 1, 0, 0, 0) := by decide +kernel
theorem f_248_49 : ftc (PT 248) 49 = some (49, .iload 5, 2, 0, 0, 0) := by decide +kernel
theorem f_248_51 : ftc (PT 248) 51 = some (51, .invokevirtual 161, 3, 237, 2092, 1864) := by decide +kernel
theorem f_248_54 : ftc (PT 248) 54 = some (54, .l2i, 1, 0, 0, 0) := by decide +kernel
theorem f_248_55 : ftc (PT 248) 55 = some (55, .ireturn, 1, 0, 0, 0) := by decide +kernel
theorem f_249_6 : ftc (PT 249) 6 = some (6, .ifCond .eq 16, 3, 22, 0, 0) := by decide +kernel
theorem f_249_9 : ftc (PT 249) 9 = some (9, .iload_n 3, 1, 0, 0, 0) := by decide +kernel
theorem f_249_10 : ftc (PT 249) 10 = some (10, .iload 4, 2, 0, 0, 0) := by decide +kernel
theorem f_249_12 : ftc (PT 249) 12 = some (12, .invokestatic 70, 3, 207, 2050, 1621) := by decide +kernel
theorem f_249_15 : ftc (PT 249) 15 = some (15, .ifCond .eq 7, 3, 22, 0, 0) := by decide +kernel
theorem f_249_18 : ftc (PT 249) 18 = some (18, .iconst 0, 1, 0, 0, 0) := by decide +kernel
theorem f_249_19 : ftc (PT 249) 19 = some (19, .goto 4, 3, 23, 0, 0) := by decide +kernel
theorem f_249_22 : ftc (PT 249) 22 = some (22, .iconst 1, 1, 0, 0, 0) := by decide +kernel
theorem f_249_23 : ftc (PT 249) 23 = some (23, .putfield 55, 3, 12, 0, 1636) := by decide +kernel
theorem f_249_26 : ftc (PT 249) 26 = some (26, .aload_n 0, 1, 0, 0, 0) := by decide +kernel
theorem f_249_27 : ftc (PT 249) 27 = some (27, .getfield 55, 3, 12, 0, 1636) := by decide +kernel
theorem f_249_30 : ftc (PT 249) 30 = some (30, .ifCond .le 7, 3, 37, 0, 0) := by decide +kernel
theorem f_249_33 : ftc (PT 249) 33 = some (33, .iconst 0, 1, 0, 0, 0) := by decide +kernel
theorem f_249_34 : ftc (PT 249) 34 = some (34, .goto 15, 3, 49, 0, 0) := by decide +kernel
theorem f_249_37 : ftc (PT 249) 37 = some (37, .iload_n 1, 1, 0, 0, 0) := by decide +kernel
theorem f_249_38 : ftc (PT 249) 38 = some (38, .i2l, 1, 0, 0, 0) := by decide +kernel
theorem f_249_39 : ftc (PT 249) 39 = some (39, .iload_n 2, 1, 0, 0, 0) := by decide +kernel
theorem f_249_40 : ftc (PT 249) 40 = some (40, .i2l, 1, 0, 0, 0) := by decide +kernel
theorem f_249_41 : ftc (PT 249) 41 = some (41, .iload_n 3, 1, 0, 0, 0) := by decide +kernel
theorem f_249_42 : ftc (PT 249) 42 = some (42, .i2l, 1, 0, 0, 0) := by decide +kernel
theorem f_249_43 : ftc (PT 249) 43 = some (43, .iload 4, 2, 0, 0, 0) := by decide +kernel
theorem f_249_45 : ftc (PT 249) 45 = some (45, .i2l, 1, 0, 0, 0) := by decide +kernel
theorem f_249_46 : ftc (PT 249) 46 = some (46, .invokestatic 77, 3, 211, 12292, 1633) := by decide +kernel
theorem f_249_49 : ftc (PT 249) 49 = some (49, .ireturn, 1, 0, 0, 0) := by decide +kernel
theorem f_250_18 : ftc (PT 250) 18 = some (18, .ifCond .ne 7, 3, 25, 0, 0) := by decide +kernel
theorem f_250_21 : ftc (PT 250) 21 = some (21, .iconst 2, 1, 0, 0, 0) := by decide +kernel
theorem f_250_22 : ftc (PT 250) 22 = some (22, .goto 4, 3, 26, 0, 0) := by decide +kernel
theorem f_250_25 : ftc (PT 250) 25 = some (25, .iconst 0, 1, 0, 0, 0) := by decide +kernel
theorem f_250_26 : ftc (PT 250) 26 = some (26, .putfield 55, 3, 12, 0, 1636) := by decide +kernel
theorem f_250_29 : ftc (PT 250) 29 = some (29, .aload_n 0, 1, 0, 0, 0) := by decide +kernel
theorem f_250_30 : ftc (PT 250) 30 = some (30, .getfield 55, 3, 12, 0, 1636) := by decide +kernel
theorem f_250_33 : ftc (PT 250) 33 = some (33, .ifCond .gt 10, 3, 43, 0, 0) := by decide +kernel
theorem f_250_36 : ftc (PT 250) 36 = some (36, .aload_n 0, 1, 0, 0, 0) := by decide +kernel
theorem f_250_37 : ftc (PT 250) 37 = some (37, .invokevirtual 230, 3, 253, 1036, 1929) := by decide +kernel
theorem f_250_40 : ftc (PT 250) 40 = some (40, .ifCond .ne 7, 3, 47, 0, 0) := by decide +kernel
theorem f_250_43 : ftc (PT 250) 43 = some (43, .iconst 0, 1, 0, 0, 0) := by decide +kernel
theorem f_250_44 : ftc (PT 250) 44 = some (44, .goto 4, 3, 48, 0, 0) := by decide +kernel
theorem f_250_47 : ftc (PT 250) 47 = some (47, .iconst 2, 1, 0, 0, 0) := by decide +kernel
theorem f_250_48 : ftc (PT 250) 48 = some (48, .ireturn, 1, 0, 0, 0) := by decide +kernel
theorem f_251_0 : ftc (PT 251) 0 = some (0, .aload_n 0, 1, 0, 0, 0) := by decide +kernel
theorem f_251_1 : ftc (PT 251) 1 = some (1, .iload_n 1, 1, 0, 0, 0) := by decide +kernel
theorem f_251_2 : ftc (PT 251) 2 = some (2, .invokevirtual 153, 3, 227, 3116, 1829) := by decide +kernel
theorem f_251_5 : ftc (PT 251) 5 = some (5, .aload_n 0, 1, 0, 0, 0) := by decide +kernel
theorem f_251_6 : ftc (PT 251) 6 = some (6, .invokevirtual 189, 3, 252, 9228, 1924) := by decide +kernel
theorem f_251_9 : ftc (PT 251) 9 = some (9, .ireturn, 1, 1, 0, 0) := by decide +kernel
theorem f_252_0 : ftc (PT 252) 0 = some (0, .aload_n 0, 1, 0, 0, 0) := by decide +kernel
theorem f_252_1 : ftc (PT 252) 1 = some (1, .invokevirtual 157, 3, 234, 1036, 1853) := by decide +kernel
theorem f_252_4 : ftc (PT 252) 4 = some (4, .ifCond .eq 5, 3, 9, 0, 0) := by decide +kernel
theorem f_252_7 : ftc (PT 252) 7 = some (7, .iconst 0, 1, 0, 0, 0) := by decide +kernel
theorem f_252_8 : ftc (PT 252) 8 = some (8, .ireturn, 1, 1, 0, 0) := by decide +kernel
theorem f_252_9 : ftc (PT 252) 9 = some (9, .aload_n 0, 1, 0, 0, 0) := by decide +kernel
theorem f_252_10 : ftc (PT 252) 10 = some (10, .getfield 114, 3, 12, 10, 1646) := by decide +kernel
theorem f_252_13 : ftc (PT 252) 13 = some (13, .aload_n 0, 1, 0, 0, 0) := by decide +kernel
theorem f_252_14 : ftc (PT 252) 14 = some (14, .getfield 120, 3, 12, 12, 1648) := by decide +kernel
theorem f_252_17 : ftc (PT 252) 17 = some (17, .lmul, 1, 0, 0, 0) := by decide +kernel
theorem f_252_18 : ftc (PT 252) 18 = some (18, .aload_n 0, 1, 0, 0, 0) := by decide +kernel
theorem f_252_19 : ftc (PT 252) 19 = some (19, .getfield 117, 3, 12, 11, 1647) := by decide +kernel
theorem f_252_22 : ftc (PT 252) 22 = some (22, .aload_n 0, 1, 0, 0, 0) := by decide +kernel
theorem f_252_23 : ftc (PT 252) 23 = some (23, .getfield 123, 3, 12, 13, 1649) := by decide +kernel
theorem f_252_26 : ftc (PT 252) 26 = some (26, .lmul, 1, 0, 0, 0) := by decide +kernel
theorem f_252_27 : ftc (PT 252) 27 = some (27, .ladd, 1, 0, 0, 0) := by decide +kernel
theorem f_252_28 : ftc (PT 252) 28 = some (28, .lstore_n 1, 1, 0, 0, 0) := by decide +kernel
theorem f_252_29 : ftc (PT 252) 29 = some (29, .aload_n 0, 1, 0, 0, 0) := by decide +kernel
theorem f_252_30 : ftc (PT 252) 30 = some (30, .getfield 117, 3, 12, 11, 1647) := by decide +kernel
theorem f_252_33 : ftc (PT 252) 33 = some (33, .aload_n 0, 1, 0, 0, 0) := by decide +kernel
theorem f_252_34 : ftc (PT 252) 34 = some (34, .getfield 120, 3, 12, 12, 1648) := by decide +kernel
theorem f_252_37 : ftc (PT 252) 37 = some (37, .lmul, 1, 0, 0, 0) := by decide +kernel
theorem f_252_38 : ftc (PT 252) 38 = some (38, .aload_n 0, 1, 0, 0, 0) := by decide +kernel
theorem f_252_39 : ftc (PT 252) 39 = some (39, .getfield 114, 3, 12, 10, 1646) := by decide +kernel
theorem f_252_42 : ftc (PT 252) 42 = some (42, .aload_n 0, 1, 0, 0, 0) := by decide +kernel
theorem f_252_43 : ftc (PT 252) 43 = some (43, .getfield 123, 3, 12, 13, 1649) := by decide +kernel
theorem f_252_46 : ftc (PT 252) 46 = some (46, .lmul, 1, 0, 0, 0) := by decide +kernel
theorem f_252_47 : ftc (PT 252) 47 = some (47, .lsub, 1, 0, 0, 0) := by decide +kernel
theorem f_252_48 : ftc (PT 252) 48 = some (48, .lstore_n 3, 1, 0, 0, 0) := by decide +kernel
theorem f_252_49 : ftc (PT 252) 49 = some (49, .aload_n 0, 1, 0, 0, 0) := by decide +kernel
theorem f_252_50 : ftc (PT 252) 50 = some (50, .getfield 120, 3, 12, 12, 1648) := by decide +kernel
theorem f_252_53 : ftc (PT 252) 53 = some (53, .aload_n 0, 1, 0, 0, 0) := by decide +kernel
theorem f_252_54 : ftc (PT 252) 54 = some (54, .getfield 123, 3, 12, 13, 1649) := by decide +kernel
theorem f_252_57 : ftc (PT 252) 57 = some (57, .invokestatic 147, 3, 235, 4098, 1857) := by decide +kernel
theorem f_252_60 : ftc (PT 252) 60 = some (60, .lstore 5, 2, 0, 0, 0) := by decide +kernel
theorem f_252_62 : ftc (PT 252) 62 = some (62, .lload_n 1, 1, 0, 0, 0) := by decide +kernel
theorem f_252_63 : ftc (PT 252) 63 = some (63, .lload_n 3, 1, 0, 0, 0) := by decide +kernel
theorem f_252_64 : ftc (PT 252) 64 = some (64, .invokestatic 66, 3, 209, 10242, 1627) := by decide +kernel
theorem f_252_67 : ftc (PT 252) 67 = some (67, .lload 5, 2, 0, 0, 0) := by decide +kernel
theorem f_252_69 : ftc (PT 252) 69 = some (69, .invokestatic 66, 3, 209, 10242, 1627) := by decide +kernel
theorem f_252_72 : ftc (PT 252) 72 = some (72, .lstore 7, 2, 0, 0, 0) := by decide +kernel
theorem f_252_74 : ftc (PT 252) 74 = some (74, .aload_n 0, 1, 0, 0, 0) := by decide +kernel
theorem f_252_75 : ftc (PT 252) 75 = some (75, .lload_n 1, 1, 0, 0, 0) := by decide +kernel
theorem f_252_76 : ftc (PT 252) 76 = some (76, .lload 7, 2, 0, 0, 0) := by decide +kernel
theorem f_252_78 : ftc (PT 252) 78 = some (78, .ldiv, 1, 0, 0, 0) := by decide +kernel
theorem f_252_79 : ftc (PT 252) 79 = some (79, .putfield 192, 3, 12, 14, 1650) := by decide +kernel
theorem f_252_82 : ftc (PT 252) 82 = some (82, .aload_n 0, 1, 0, 0, 0) := by decide +kernel
theorem f_252_83 : ftc (PT 252) 83 = some (83, .lload_n 3, 1, 0, 0, 0) := by decide +kernel
theorem f_252_84 : ftc (PT 252) 84 = some (84, .lload 7, 2, 0, 0, 0) := by decide +kernel
theorem f_252_86 : ftc (PT 252) 86 = some (86, .ldiv, 1, 0, 0, 0) := by decide +kernel
theorem f_252_87 : ftc (PT 252) 87 = some (87, .putfield 195, 3, 12, 15, 1651) := by decide +kernel
theorem f_252_90 : ftc (PT 252) 90 = some (90, .aload_n 0, 1, 0, 0, 0) := by decide +kernel
theorem f_252_91 : ftc (PT 252) 91 = some (91, .lload 5, 2, 0, 0, 0) := by decide +kernel
theorem f_252_93 : ftc (PT 252) 93 = some (93, .lload 7, 2, 0, 0, 0) := by decide +kernel
theorem f_252_95 : ftc (PT 252) 95 = some (95, .ldiv, 1, 0, 0, 0) := by decide +kernel
theorem f_252_96 : ftc (PT 252) 96 = some (96, .putfield 198, 3, 12, 16, 1652) := by decide +kernel
theorem f_252_99 : ftc (PT 252) 99 = some (99, .aload_n 0, 1, 0, 0, 0) := by decide +kernel
theorem f_252_100 : ftc (PT 252) 100 = some (100, .getfield 192, 3, 12, 14, 1650) := by decide +kernel
theorem f_252_103 : ftc (PT 252) 103 = some (103, .ldc2_w 201, 3, 1928, 0, 1000) := by decide +kernel
theorem f_252_106 : ftc (PT 252) 106 = some (106, .lcmp, 1, 0, 0, 0) := by decide +kernel
theorem f_252_107 : ftc (PT 252) 107 = some (107, .ifCond .gt 32, 3, 139, 0, 0) := by decide +kernel
theorem f_252_110 : ftc (PT 252) 110 = some (110, .aload_n 0, 1, 0, 0, 0) := by decide +kernel
theorem f_252_111 : ftc (PT 252) 111 = some (111, .getfield 195, 3, 12, 15, 1651) := by decide +kernel
theorem f_252_114 : ftc (PT 252) 114 = some (114, .invokestatic 58, 3, 210, 2049, 1630) := by decide +kernel
theorem f_252_117 : ftc (PT 252) 117 = some (117, .ldc2_w 201, 3, 1928, 0, 1000) := by decide +kernel
theorem f_252_120 : ftc (PT 252) 120 = some (120, .lcmp, 1, 0, 0, 0) := by decide +kernel
theorem f_252_121 : ftc (PT 252) 121 = some (121, .ifCond .gt 18, 3, 139, 0, 0) := by decide +kernel
theorem f_252_124 : ftc (PT 252) 124 = some (124, .aload_n 0, 1, 0, 0, 0) := by decide +kernel
theorem f_252_125 : ftc (PT 252) 125 = some (125, .getfield 198, 3, 12, 16, 1652) := by decide +kernel
theorem f_252_128 : ftc (PT 252) 128 = some (128, .ldc2_w 201, 3, 1928, 0, 1000) := by decide +kernel
theorem f_252_131 : ftc (PT 252) 131 = some (131, .lcmp, 1, 0, 0, 0) := by decide +kernel
theorem f_252_132 : ftc (PT 252) 132 = some (132, .ifCond .gt 7, 3, 139, 0, 0) := by decide +kernel
theorem f_252_135 : ftc (PT 252) 135 = some (135, .iconst 1, 1, 0, 0, 0) := by decide +kernel
theorem f_252_136 : ftc (PT 252) 136 = some (136, .goto 4, 3, 140, 0, 0) := by decide +kernel
theorem f_252_139 : ftc (PT 252) 139 = some (139, .iconst 0, 1, 0, 0, 0) := by decide +kernel
theorem f_252_140 : ftc (PT 252) 140 = some (140, .ireturn, 1, 1, 0, 0) := by decide +kernel
theorem f_253_0 : ftc (PT 253) 0 = some (0, .aload_n 0, 1, 0, 0, 0) := by decide +kernel
theorem f_253_1 : ftc (PT 253) 1 = some (1, .getfield 192, 3, 12, 14, 1650) := by decide +kernel
theorem f_253_4 : ftc (PT 253) 4 = some (4, .lconst 0, 1, 0, 0, 0) := by decide +kernel
theorem f_253_5 : ftc (PT 253) 5 = some (5, .lcmp, 1, 0, 0, 0) := by decide +kernel
theorem f_253_6 : ftc (PT 253) 6 = some (6, .ifCond .le 14, 3, 20, 0, 0) := by decide +kernel
theorem f_253_9 : ftc (PT 253) 9 = some (9, .aload_n 0, 1, 0, 0, 0) := by decide +kernel
theorem f_253_10 : ftc (PT 253) 10 = some (10, .invokevirtual 203, 3, 254, 1036, 1933) := by decide +kernel
theorem f_253_13 : ftc (PT 253) 13 = some (13, .ifCond .ne 7, 3, 20, 0, 0) := by decide +kernel
theorem f_253_16 : ftc (PT 253) 16 = some (16, .iconst 1, 1, 0, 0, 0) := by decide +kernel
theorem f_253_17 : ftc (PT 253) 17 = some (17, .goto 4, 3, 21, 0, 0) := by decide +kernel
theorem f_253_20 : ftc (PT 253) 20 = some (20, .iconst 0, 1, 0, 0, 0) := by decide +kernel
theorem f_253_21 : ftc (PT 253) 21 = some (21, .ireturn, 1, 1, 0, 0) := by decide +kernel
theorem f_254_0 : ftc (PT 254) 0 = some (0, .aload_n 0, 1, 0, 0, 0) := by decide +kernel
theorem f_254_1 : ftc (PT 254) 1 = some (1, .getfield 192, 3, 12, 14, 1650) := by decide +kernel
theorem f_254_4 : ftc (PT 254) 4 = some (4, .aload_n 0, 1, 0, 0, 0) := by decide +kernel
theorem f_254_5 : ftc (PT 254) 5 = some (5, .getfield 198, 3, 12, 16, 1652) := by decide +kernel
theorem f_254_8 : ftc (PT 254) 8 = some (8, .lcmp, 1, 0, 0, 0) := by decide +kernel
theorem f_254_9 : ftc (PT 254) 9 = some (9, .ifCond .ne 16, 3, 25, 0, 0) := by decide +kernel
theorem f_254_12 : ftc (PT 254) 12 = some (12, .aload_n 0, 1, 0, 0, 0) := by decide +kernel
theorem f_254_13 : ftc (PT 254) 13 = some (13, .getfield 195, 3, 12, 15, 1651) := by decide +kernel
theorem f_254_16 : ftc (PT 254) 16 = some (16, .lconst 0, 1, 0, 0, 0) := by decide +kernel
theorem f_254_17 : ftc (PT 254) 17 = some (17, .lcmp, 1, 0, 0, 0) := by decide +kernel
theorem f_254_18 : ftc (PT 254) 18 = some (18, .ifCond .ne 7, 3, 25, 0, 0) := by decide +kernel
theorem f_254_21 : ftc (PT 254) 21 = some (21, .iconst 1, 1, 0, 0, 0) := by decide +kernel
theorem f_254_22 : ftc (PT 254) 22 = some (22, .goto 4, 3, 26, 0, 0) := by decide +kernel
theorem f_254_25 : ftc (PT 254) 25 = some (25, .iconst 0, 1, 0, 0, 0) := by decide +kernel
theorem f_254_26 : ftc (PT 254) 26 = some (26, .ireturn, 1, 1, 0, 0) := by decide +kernel
theorem f_255_8 : ftc (PT 255) 8 = some (8, .putfield 55, 3, 12, 0, 1636) := by decide +kernel
theorem f_255_11 : ftc (PT 255) 11 = some (11, .aload_n 0, 1, 0, 0, 0) := by decide +kernel
theorem f_255_12 : ftc (PT 255) 12 = some (12, .getfield 55, 3, 12, 0, 1636) := by decide +kernel
theorem f_255_15 : ftc (PT 255) 15 = some (15, .ifCond .ne 17, 3, 32, 0, 0) := by decide +kernel
theorem f_255_18 : ftc (PT 255) 18 = some (18, .aload_n 0, 1, 0, 0, 0) := by decide +kernel
theorem f_255_19 : ftc (PT 255) 19 = some (19, .getfield 215, 3, 12, 18, 1654) := by decide +kernel
theorem f_255_22 : ftc (PT 255) 22 = some (22, .invokestatic 175, 3, 242, 4097, 1884) := by decide +kernel
theorem f_255_25 : ftc (PT 255) 25 = some (25, .ifCond .eq 7, 3, 32, 0, 0) := by decide +kernel
theorem f_255_28 : ftc (PT 255) 28 = some (28, .iconst 1, 1, 0, 0, 0) := by decide +kernel
theorem f_255_29 : ftc (PT 255) 29 = some (29, .goto 4, 3, 33, 0, 0) := by decide +kernel
theorem f_255_32 : ftc (PT 255) 32 = some (32, .iconst 0, 1, 0, 0, 0) := by decide +kernel
theorem f_255_33 : ftc (PT 255) 33 = some (33, .ireturn, 1, 1, 0, 0) := by decide +kernel
theorem f_256_0 : ftc (PT 256) 0 = some (0, .aload_n 0, 1, 0, 0, 0) := by decide +kernel
theorem f_256_1 : ftc (PT 256) 1 = some (1, .iload_n 1, 1, 0, 0, 0) := by decide +kernel
theorem f_256_2 : ftc (PT 256) 2 = some (2, .invokevirtual 150, 3, 226, 2092, 1825) := by decide +kernel
theorem f_256_5 : ftc (PT 256) 5 = some (5, .ifCond .ne 5, 3, 10, 0, 0) := by decide +kernel
theorem f_256_8 : ftc (PT 256) 8 = some (8, .iconst 1, 1, 0, 0, 0) := by decide +kernel
theorem f_256_9 : ftc (PT 256) 9 = some (9, .ireturn, 1, 0, 0, 0) := by decide +kernel
theorem f_256_10 : ftc (PT 256) 10 = some (10, .aload_n 0, 1, 0, 0, 0) := by decide +kernel
theorem f_256_11 : ftc (PT 256) 11 = some (11, .iload_n 1, 1, 0, 0, 0) := by decide +kernel
theorem f_256_12 : ftc (PT 256) 12 = some (12, .invokevirtual 227, 3, 251, 2092, 1920) := by decide +kernel
theorem f_256_15 : ftc (PT 256) 15 = some (15, .ifCond .eq 19, 3, 34, 0, 0) := by decide +kernel
theorem f_256_18 : ftc (PT 256) 18 = some (18, .aload_n 0, 1, 0, 0, 0) := by decide +kernel
theorem f_256_19 : ftc (PT 256) 19 = some (19, .invokevirtual 230, 3, 253, 1036, 1929) := by decide +kernel
theorem f_256_22 : ftc (PT 256) 22 = some (22, .ifCond .eq 12, 3, 34, 0, 0) := by decide +kernel
theorem f_256_25 : ftc (PT 256) 25 = some (25, .iload_n 3, 1, 0, 0, 0) := by decide +kernel
theorem f_256_26 : ftc (PT 256) 26 = some (26, .iconst 0, 1, 0, 0, 0) := by decide +kernel
theorem f_256_27 : ftc (PT 256) 27 = some (27, .iconst 1, 1, 0, 0, 0) := by decide +kernel
theorem f_256_28 : ftc (PT 256) 28 = some (28, .invokestatic 62, 3, 208, 3075, 1624) := by decide +kernel
theorem f_256_31 : ftc (PT 256) 31 = some (31, .ifCond .ne 5, 3, 36, 0, 0) := by decide +kernel
theorem f_256_34 : ftc (PT 256) 34 = some (34, .iconst 2, 1, 0, 0, 0) := by decide +kernel
theorem f_256_35 : ftc (PT 256) 35 = some (35, .ireturn, 1, 0, 0, 0) := by decide +kernel
theorem f_256_36 : ftc (PT 256) 36 = some (36, .aload_n 0, 1, 0, 0, 0) := by decide +kernel
theorem f_256_37 : ftc (PT 256) 37 = some (37, .iload_n 2, 1, 0, 0, 0) := by decide +kernel
theorem f_256_38 : ftc (PT 256) 38 = some (38, .invokevirtual 233, 3, 257, 6188, 1945) := by decide +kernel
theorem f_256_41 : ftc (PT 256) 41 = some (41, .iconst 0, 1, 0, 0, 0) := by decide +kernel
theorem f_256_42 : ftc (PT 256) 42 = some (42, .ireturn, 1, 0, 0, 0) := by decide +kernel
theorem f_257_0 : ftc (PT 257) 0 = some (0, .aload_n 0, 1, 0, 0, 0) := by decide +kernel
theorem f_257_1 : ftc (PT 257) 1 = some (1, .getfield 192, 3, 12, 14, 1650) := by decide +kernel
theorem f_257_4 : ftc (PT 257) 4 = some (4, .aload_n 0, 1, 0, 0, 0) := by decide +kernel
theorem f_257_5 : ftc (PT 257) 5 = some (5, .getfield 195, 3, 12, 15, 1651) := by decide +kernel
theorem f_257_8 : ftc (PT 257) 8 = some (8, .invokestatic 147, 3, 235, 4098, 1857) := by decide +kernel
theorem f_257_11 : ftc (PT 257) 11 = some (11, .aload_n 0, 1, 0, 0, 0) := by decide +kernel
theorem f_257_12 : ftc (PT 257) 12 = some (12, .getfield 192, 3, 12, 14, 1650) := by decide +kernel
theorem f_257_15 : ftc (PT 257) 15 = some (15, .aload_n 0, 1, 0, 0, 0) := by decide +kernel
theorem f_257_16 : ftc (PT 257) 16 = some (16, .getfield 198, 3, 12, 16, 1652) := by decide +kernel
theorem f_257_19 : ftc (PT 257) 19 = some (19, .lmul, 1, 0, 0, 0) := by decide +kernel
theorem f_257_20 : ftc (PT 257) 20 = some (20, .lsub, 1, 0, 0, 0) := by decide +kernel
theorem f_257_21 : ftc (PT 257) 21 = some (21, .lstore_n 2, 1, 0, 0, 0) := by decide +kernel
theorem f_257_22 : ftc (PT 257) 22 = some (22, .aload_n 0, 1, 0, 0, 0) := by decide +kernel
theorem f_257_23 : ftc (PT 257) 23 = some (23, .getfield 198, 3, 12, 16, 1652) := by decide +kernel
theorem f_257_26 : ftc (PT 257) 26 = some (26, .aload_n 0, 1, 0, 0, 0) := by decide +kernel
theorem f_257_27 : ftc (PT 257) 27 = some (27, .getfield 198, 3, 12, 16, 1652) := by decide +kernel
theorem f_257_30 : ftc (PT 257) 30 = some (30, .aload_n 0, 1, 0, 0, 0) := by decide +kernel
theorem f_257_31 : ftc (PT 257) 31 = some (31, .getfield 192, 3, 12, 14, 1650) := by decide +kernel
theorem f_257_34 : ftc (PT 257) 34 = some (34, .lsub, 1, 0, 0, 0) := by decide +kernel
theorem f_257_35 : ftc (PT 257) 35 = some (35, .lmul, 1, 0, 0, 0) := by decide +kernel
theorem f_257_36 : ftc (PT 257) 36 = some (36, .lstore 4, 2, 0, 0, 0) := by decide +kernel
theorem f_257_38 : ftc (PT 257) 38 = some (38, .aload_n 0, 1, 0, 0, 0) := by decide +kernel
theorem f_257_39 : ftc (PT 257) 39 = some (39, .iload_n 1, 1, 0, 0, 0) := by decide +kernel
theorem f_257_40 : ftc (PT 257) 40 = some (40, .ifCond .eq 7, 3, 47, 0, 0) := by decide +kernel
theorem f_257_43 : ftc (PT 257) 43 = some (43, .lload_n 2, 1, 0, 0, 0) := by decide +kernel
theorem f_257_44 : ftc (PT 257) 44 = some (44, .goto 5, 3, 49, 0, 0) := by decide +kernel
theorem f_257_47 : ftc (PT 257) 47 = some (47, .lload 4, 2, 0, 0, 0) := by decide +kernel
theorem f_257_49 : ftc (PT 257) 49 = some (49, .putfield 206, 3, 12, 19, 1655) := by decide +kernel
theorem f_257_52 : ftc (PT 257) 52 = some (52, .aload_n 0, 1, 0, 0, 0) := by decide +kernel
theorem f_257_53 : ftc (PT 257) 53 = some (53, .iload_n 1, 1, 0, 0, 0) := by decide +kernel
theorem f_257_54 : ftc (PT 257) 54 = some (54, .ifCond .eq 8, 3, 62, 0, 0) := by decide +kernel
theorem f_257_57 : ftc (PT 257) 57 = some (57, .lload 4, 2, 0, 0, 0) := by decide +kernel
theorem f_257_59 : ftc (PT 257) 59 = some (59, .goto 4, 3, 63, 0, 0) := by decide +kernel
theorem f_257_62 : ftc (PT 257) 62 = some (62, .lload_n 2, 1, 0, 0, 0) := by decide +kernel
theorem f_257_63 : ftc (PT 257) 63 = some (63, .putfield 209, 3, 12, 20, 1656) := by decide +kernel
theorem f_257_66 : ftc (PT 257) 66 = some (66, .aload_n 0, 1, 0, 0, 0) := by decide +kernel
theorem f_257_67 : ftc (PT 257) 67 = some (67, .iload_n 1, 1, 0, 0, 0) := by decide +kernel
theorem f_257_68 : ftc (PT 257) 68 = some (68, .ifCond .eq 15, 3, 83, 0, 0) := by decide +kernel
theorem f_257_71 : ftc (PT 257) 71 = some (71, .aload_n 0, 1, 0, 0, 0) := by decide +kernel
theorem f_257_72 : ftc (PT 257) 72 = some (72, .getfield 195, 3, 12, 15, 1651) := by decide +kernel
theorem f_257_75 : ftc (PT 257) 75 = some (75, .aload_n 0, 1, 0, 0, 0) := by decide +kernel
theorem f_257_76 : ftc (PT 257) 76 = some (76, .getfield 198, 3, 12, 16, 1652) := by decide +kernel
theorem f_257_79 : ftc (PT 257) 79 = some (79, .lmul, 1, 0, 0, 0) := by decide +kernel
theorem f_257_80 : ftc (PT 257) 80 = some (80, .goto 13, 3, 93, 0, 0) := by decide +kernel
theorem f_257_83 : ftc (PT 257) 83 = some (83, .aload_n 0, 1, 0, 0, 0) := by decide +kernel
theorem f_257_84 : ftc (PT 257) 84 = some (84, .getfield 195, 3, 12, 15, 1651) := by decide +kernel
theorem f_257_87 : ftc (PT 257) 87 = some (87, .lneg, 1, 0, 0, 0) := by decide +kernel
theorem f_257_88 : ftc (PT 257) 88 = some (88, .aload_n 0, 1, 0, 0, 0) := by decide +kernel
theorem f_257_89 : ftc (PT 257) 89 = some (89, .getfield 198, 3, 12, 16, 1652) := by decide +kernel
theorem f_257_92 : ftc (PT 257) 92 = some (92, .lmul, 1, 0, 0, 0) := by decide +kernel
theorem f_257_93 : ftc (PT 257) 93 = some (93, .putfield 212, 3, 12, 17, 1653) := by decide +kernel
theorem f_257_96 : ftc (PT 257) 96 = some (96, .aload_n 0, 1, 0, 0, 0) := by decide +kernel
theorem f_257_97 : ftc (PT 257) 97 = some (97, .aload_n 0, 1, 0, 0, 0) := by decide +kernel
theorem f_257_98 : ftc (PT 257) 98 = some (98, .getfield 192, 3, 12, 14, 1650) := by decide +kernel
theorem f_257_101 : ftc (PT 257) 101 = some (101, .aload_n 0, 1, 0, 0, 0) := by decide +kernel
theorem f_257_102 : ftc (PT 257) 102 = some (102, .getfield 198, 3, 12, 16, 1652) := by decide +kernel
theorem f_257_105 : ftc (PT 257) 105 = some (105, .lmul, 1, 0, 0, 0) := by decide +kernel
theorem f_257_106 : ftc (PT 257) 106 = some (106, .aload_n 0, 1, 0, 0, 0) := by decide +kernel
theorem f_257_107 : ftc (PT 257) 107 = some (107, .getfield 192, 3, 12, 14, 1650) := by decide +kernel
theorem f_257_110 : ftc (PT 257) 110 = some (110, .aload_n 0, 1, 0, 0, 0) := by decide +kernel
theorem f_257_111 : ftc (PT 257) 111 = some (111, .getfield 198, 3, 12, 16, 1652) := by decide +kernel
theorem f_257_114 : ftc (PT 257) 114 = some (114, .lsub, 1, 0, 0, 0) := by decide +kernel
theorem f_257_115 : ftc (PT 257) 115 = some (115, .aload_n 0, 1, 0, 0, 0) := by decide +kernel
theorem f_257_116 : ftc (PT 257) 116 = some (116, .getfield 195, 3, 12, 15, 1651) := by decide +kernel
theorem f_257_119 : ftc (PT 257) 119 = some (119, .invokestatic 147, 3, 235, 4098, 1857) := by decide +kernel
theorem f_257_122 : ftc (PT 257) 122 = some (122, .lmul, 1, 0, 0, 0) := by decide +kernel
theorem f_257_123 : ftc (PT 257) 123 = some (123, .putfield 215, 3, 12, 18, 1654) := by decide +kernel
theorem f_257_126 : ftc (PT 257) 126 = some (126, .return_, 1, 0, 0, 0) := by decide +kernel
theorem f_258_8 : ftc (PT 258) 8 = some (8, .putfield 55, 3, 12, 0, 1636) := by decide +kernel
theorem f_258_11 : ftc (PT 258) 11 = some (11, .aload_n 0, 1, 0, 0, 0) := by decide +kernel
theorem f_258_12 : ftc (PT 258) 12 = some (12, .getfield 55, 3, 12, 0, 1636) := by decide +kernel
theorem f_258_15 : ftc (PT 258) 15 = some (15, .ifCond .le 5, 3, 20, 0, 0) := by decide +kernel
theorem f_258_18 : ftc (PT 258) 18 = some (18, .lconst 0, 1, 0, 0, 0) := by decide +kernel
theorem f_258_19 : ftc (PT 258) 19 = some (19, .lreturn, 1, 0, 0, 0) := by decide +kernel
theorem f_258_20 : ftc (PT 258) 20 = some (20, .aload_n 0, 1, 0, 0, 0) := by decide +kernel
theorem f_258_21 : ftc (PT 258) 21 = some (21, .aload_n 0, 1, 0, 0, 0) := by decide +kernel
theorem f_258_22 : ftc (PT 258) 22 = some (22, .iload_n 3, 1, 0, 0, 0) := by decide +kernel
theorem f_258_23 : ftc (PT 258) 23 = some (23, .invokevirtual 247, 3, 260, 2092, 1957) := by decide +kernel
theorem f_258_26 : ftc (PT 258) 26 = some (26, .invokevirtual 250, 3, 264, 4140, 1973) := by decide +kernel
theorem f_258_29 : ftc (PT 258) 29 = some (29, .aload_n 0, 1, 0, 0, 0) := by decide +kernel
theorem f_258_30 : ftc (PT 258) 30 = some (30, .iload 4, 2, 0, 0, 0) := by decide +kernel
theorem f_258_32 : ftc (PT 258) 32 = some (32, .invokevirtual 161, 3, 237, 2092, 1864) := by decide +kernel
theorem f_258_35 : ftc (PT 258) 35 = some (35, .lreturn, 1, 0, 0, 0) := by decide +kernel
theorem f_259_0 : ftc (PT 259) 0 = some (0, .aload_n 0, 1, 0, 0, 0) := by decide +kernel
theorem f_259_1 : ftc (PT 259) 1 = some (1, .iload_n 1, 1, 0, 0, 0) := by decide +kernel
theorem f_259_2 : ftc (PT 259) 2 = some (2, .iload_n 2, 1, 0, 0, 0) := by decide +kernel
theorem f_259_3 : ftc (PT 259) 3 = some (3, .iload_n 3, 1, 0, 0, 0) := by decide +kernel
theorem f_259_4 : ftc (PT 259) 4 = some (4, .invokevirtual 237, 3, 256, 4204, 1941) := by decide +kernel
theorem f_259_7 : ftc (PT 259) 7 = some (7, .istore 4, 2, 0, 0, 0) := by decide +kernel
theorem f_259_9 : ftc (PT 259) 9 = some (9, .iload 4, 2, 0, 0, 0) := by decide +kernel
theorem f_259_11 : ftc (PT 259) 11 = some (11, .ifCond .le 8, 3, 19, 0, 0) := by decide +kernel
theorem f_259_14 : ftc (PT 259) 14 = some (14, .iload 4, 2, 0, 0, 0) := by decide +kernel
theorem f_259_16 : ftc (PT 259) 16 = some (16, .goto 18, 3, 34, 0, 0) := by decide +kernel
theorem f_259_19 : ftc (PT 259) 19 = some (19, .aload_n 0, 1, 0, 0, 0) := by decide +kernel
theorem f_259_20 : ftc (PT 259) 20 = some (20, .getfield 215, 3, 12, 18, 1654) := by decide +kernel
theorem f_259_23 : ftc (PT 259) 23 = some (23, .invokestatic 175, 3, 242, 4097, 1884) := by decide +kernel
theorem f_259_26 : ftc (PT 259) 26 = some (26, .ifCond .eq 7, 3, 33, 0, 0) := by decide +kernel
theorem f_259_29 : ftc (PT 259) 29 = some (29, .iconst 0, 1, 0, 0, 0) := by decide +kernel
theorem f_259_30 : ftc (PT 259) 30 = some (30, .goto 4, 3, 34, 0, 0) := by decide +kernel
theorem f_259_33 : ftc (PT 259) 33 = some (33, .iconst 2, 1, 0, 0, 0) := by decide +kernel
theorem f_259_34 : ftc (PT 259) 34 = some (34, .ireturn, 1, 0, 0, 0) := by decide +kernel
theorem f_260_0 : ftc (PT 260) 0 = some (0, .iload_n 1, 1, 0, 0, 0) := by decide +kernel
theorem f_260_1 : ftc (PT 260) 1 = some (1, .ifCond .ne 7, 3, 8, 0, 0) := by decide +kernel
theorem f_260_4 : ftc (PT 260) 4 = some (4, .iconst 1, 1, 0, 0, 0) := by decide +kernel
theorem f_260_5 : ftc (PT 260) 5 = some (5, .goto 4, 3, 9, 0, 0) := by decide +kernel
theorem f_260_8 : ftc (PT 260) 8 = some (8, .iconst 0, 1, 0, 0, 0) := by decide +kernel
theorem f_260_9 : ftc (PT 260) 9 = some (9, .aload_n 0, 1, 0, 0, 0) := by decide +kernel
theorem f_260_10 : ftc (PT 260) 10 = some (10, .invokevirtual 224, 3, 261, 3084, 1961) := by decide +kernel
theorem f_260_13 : ftc (PT 260) 13 = some (13, .if_icmp .ne 7, 3, 20, 0, 0) := by decide +kernel
theorem f_260_16 : ftc (PT 260) 16 = some (16, .iconst 1, 1, 0, 0, 0) := by decide +kernel
theorem f_260_17 : ftc (PT 260) 17 = some (17, .goto 4, 3, 21, 0, 0) := by decide +kernel
theorem f_260_20 : ftc (PT 260) 20 = some (20, .iconst (-1), 1, 0, 0, 0) := by decide +kernel
theorem f_260_21 : ftc (PT 260) 21 = some (21, .ireturn, 1, 0, 0, 0) := by decide +kernel
theorem f_261_0 : ftc (PT 261) 0 = some (0, .aload_n 0, 1, 0, 0, 0) := by decide +kernel
theorem f_261_1 : ftc (PT 261) 1 = some (1, .getfield 206, 3, 12, 19, 1655) := by decide +kernel
theorem f_261_4 : ftc (PT 261) 4 = some (4, .lconst 0, 1, 0, 0, 0) := by decide +kernel
theorem f_261_5 : ftc (PT 261) 5 = some (5, .lcmp, 1, 0, 0, 0) := by decide +kernel
theorem f_261_6 : ftc (PT 261) 6 = some (6, .ifCond .ne 30, 3, 36, 0, 0) := by decide +kernel
theorem f_261_9 : ftc (PT 261) 9 = some (9, .aload_n 0, 1, 0, 0, 0) := by decide +kernel
theorem f_261_10 : ftc (PT 261) 10 = some (10, .invokevirtual 218, 3, 262, 1036, 1965) := by decide +kernel
theorem f_261_13 : ftc (PT 261) 13 = some (13, .aload_n 0, 1, 0, 0, 0) := by decide +kernel
theorem f_261_14 : ftc (PT 261) 14 = some (14, .getfield 212, 3, 12, 17, 1653) := by decide +kernel
theorem f_261_17 : ftc (PT 261) 17 = some (17, .lconst 0, 1, 0, 0, 0) := by decide +kernel
theorem f_261_18 : ftc (PT 261) 18 = some (18, .lcmp, 1, 0, 0, 0) := by decide +kernel
theorem f_261_19 : ftc (PT 261) 19 = some (19, .ifCond .le 7, 3, 26, 0, 0) := by decide +kernel
theorem f_261_22 : ftc (PT 261) 22 = some (22, .iconst 1, 1, 0, 0, 0) := by decide +kernel
theorem f_261_23 : ftc (PT 261) 23 = some (23, .goto 4, 3, 27, 0, 0) := by decide +kernel
theorem f_261_26 : ftc (PT 261) 26 = some (26, .iconst 0, 1, 0, 0, 0) := by decide +kernel
theorem f_261_27 : ftc (PT 261) 27 = some (27, .if_icmp .ne 7, 3, 34, 0, 0) := by decide +kernel
theorem f_261_30 : ftc (PT 261) 30 = some (30, .iconst 1, 1, 0, 0, 0) := by decide +kernel
theorem f_261_31 : ftc (PT 261) 31 = some (31, .goto 4, 3, 35, 0, 0) := by decide +kernel
theorem f_261_34 : ftc (PT 261) 34 = some (34, .iconst 0, 1, 0, 0, 0) := by decide +kernel
theorem f_261_35 : ftc (PT 261) 35 = some (35, .ireturn, 1, 1, 0, 0) := by decide +kernel
theorem f_261_36 : ftc (PT 261) 36 = some (36, .aload_n 0, 1, 0, 0, 0) := by decide +kernel
theorem f_261_37 : ftc (PT 261) 37 = some (37, .iconst 1, 1, 0, 0, 0) := by decide +kernel
theorem f_261_38 : ftc (PT 261) 38 = some (38, .invokevirtual 221, 3, 263, 7212, 1969) := by decide +kernel
theorem f_261_41 : ftc (PT 261) 41 = some (41, .istore_n 1, 1, 0, 0, 0) := by decide +kernel
theorem f_261_42 : ftc (PT 261) 42 = some (42, .aload_n 0, 1, 0, 0, 0) := by decide +kernel
theorem f_261_43 : ftc (PT 261) 43 = some (43, .iconst (-1), 1, 0, 0, 0) := by decide +kernel
theorem f_261_44 : ftc (PT 261) 44 = some (44, .invokevirtual 221, 3, 263, 7212, 1969) := by decide +kernel
theorem f_261_47 : ftc (PT 261) 47 = some (47, .istore_n 2, 1, 0, 0, 0) := by decide +kernel
theorem f_261_48 : ftc (PT 261) 48 = some (48, .iload_n 1, 1, 0, 0, 0) := by decide +kernel
theorem f_261_49 : ftc (PT 261) 49 = some (49, .ifCond .ge 7, 3, 56, 0, 0) := by decide +kernel
theorem f_261_52 : ftc (PT 261) 52 = some (52, .iconst 1, 1, 0, 0, 0) := by decide +kernel
theorem f_261_53 : ftc (PT 261) 53 = some (53, .goto 4, 3, 57, 0, 0) := by decide +kernel
theorem f_261_56 : ftc (PT 261) 56 = some (56, .iconst 0, 1, 0, 0, 0) := by decide +kernel
theorem f_261_57 : ftc (PT 261) 57 = some (57, .iload_n 2, 1, 0, 0, 0) := by decide +kernel
theorem f_261_58 : ftc (PT 261) 58 = some (58, .ifCond .ge 7, 3, 65, 0, 0) := by decide +kernel
theorem f_261_61 : ftc (PT 261) 61 = some (61, .iconst 1, 1, 0, 0, 0) := by decide +kernel
theorem f_261_62 : ftc (PT 261) 62 = some (62, .goto 4, 3, 66, 0, 0) := by decide +kernel
theorem f_261_65 : ftc (PT 261) 65 = some (65, .iconst 0, 1, 0, 0, 0) := by decide +kernel
theorem f_261_66 : ftc (PT 261) 66 = some (66, .if_icmp .eq 13, 3, 79, 0, 0) := by decide +kernel
theorem f_261_69 : ftc (PT 261) 69 = some (69, .iload_n 1, 1, 0, 0, 0) := by decide +kernel
theorem f_261_70 : ftc (PT 261) 70 = some (70, .ifCond .lt 7, 3, 77, 0, 0) := by decide +kernel
theorem f_261_73 : ftc (PT 261) 73 = some (73, .iconst 1, 1, 0, 0, 0) := by decide +kernel
theorem f_261_74 : ftc (PT 261) 74 = some (74, .goto 4, 3, 78, 0, 0) := by decide +kernel
theorem f_261_77 : ftc (PT 261) 77 = some (77, .iconst 0, 1, 0, 0, 0) := by decide +kernel
theorem f_261_78 : ftc (PT 261) 78 = some (78, .ireturn, 1, 1, 0, 0) := by decide +kernel
theorem f_261_79 : ftc (PT 261) 79 = some (79, .aload_n 0, 1, 0, 0, 0) := by decide +kernel
theorem f_261_80 : ftc (PT 261) 80 = some (80, .getfield 206, 3, 12, 19, 1655) := by decide +kernel
theorem f_261_83 : ftc (PT 261) 83 = some (83, .lconst 0, 1, 0, 0, 0) := by decide +kernel
theorem f_261_84 : ftc (PT 261) 84 = some (84, .lcmp, 1, 0, 0, 0) := by decide +kernel
theorem f_261_85 : ftc (PT 261) 85 = some (85, .ifCond .ge 7, 3, 92, 0, 0) := by decide +kernel
theorem f_261_88 : ftc (PT 261) 88 = some (88, .iconst 1, 1, 0, 0, 0) := by decide +kernel
theorem f_261_89 : ftc (PT 261) 89 = some (89, .goto 4, 3, 93, 0, 0) := by decide +kernel
theorem f_261_92 : ftc (PT 261) 92 = some (92, .iconst 0, 1, 0, 0, 0) := by decide +kernel
theorem f_261_93 : ftc (PT 261) 93 = some (93, .ireturn, 1, 1, 0, 0) := by decide +kernel
theorem f_262_0 : ftc (PT 262) 0 = some (0, .aload_n 0, 1, 0, 0, 0) := by decide +kernel
theorem f_262_1 : ftc (PT 262) 1 = some (1, .getfield 209, 3, 12, 20, 1656) := by decide +kernel
theorem f_262_4 : ftc (PT 262) 4 = some (4, .aload_n 0, 1, 0, 0, 0) := by decide +kernel
theorem f_262_5 : ftc (PT 262) 5 = some (5, .getfield 212, 3, 12, 17, 1653) := by decide +kernel
theorem f_262_8 : ftc (PT 262) 8 = some (8, .lmul, 1, 0, 0, 0) := by decide +kernel
theorem f_262_9 : ftc (PT 262) 9 = some (9, .lconst 0, 1, 0, 0, 0) := by decide +kernel
theorem f_262_10 : ftc (PT 262) 10 = some (10, .lcmp, 1, 0, 0, 0) := by decide +kernel
theorem f_262_11 : ftc (PT 262) 11 = some (11, .ifCond .ge 7, 3, 18, 0, 0) := by decide +kernel
theorem f_262_14 : ftc (PT 262) 14 = some (14, .iconst 1, 1, 0, 0, 0) := by decide +kernel
theorem f_262_15 : ftc (PT 262) 15 = some (15, .goto 4, 3, 19, 0, 0) := by decide +kernel
theorem f_262_18 : ftc (PT 262) 18 = some (18, .iconst 0, 1, 0, 0, 0) := by decide +kernel
theorem f_262_19 : ftc (PT 262) 19 = some (19, .ireturn, 1, 1, 0, 0) := by decide +kernel
set_option maxRecDepth 10000 in
set_option maxHeartbeats 4000000 in
theorem s_230_0 {Lx : Nat} {I : Mi} {L : Ml} {e : Nat} {Q : Kq} {x0 : Int32} {y1 : Int64} {y3 : Int64} (h :
    (if x0 = (Int32.ofInt 1) then
     Q (.inl (some (.long y1))) (gE Lx) I L e
    else
     (if x0 = (Int32.ofInt 4) then
      Q (.inl (some (.long y1))) (gE Lx) I L e
     else
      (if (Int64.ofInt 0) < y1 then
       Q (.inl (some (.long (-y3)))) (gE Lx) I L e
      else
       (if y1 < (Int64.ofInt 0) then
        Q (.inl (some (.long y3))) (gE Lx) I L e
       else
        Q (.inl (some (.long (Int64.ofInt 1)))) (gE Lx) I L e))))) :
    Wp 230 0 [(0, .int x0), (1, .long y1), (3, .long y3)] [] (gE Lx) I L e Q := by
  refine w_a f_230_0 ?_
  refine w_a f_230_1 ?_
  refine w_a (ls := [(0, .int x0)]) f_231_0 ?_
  refine w_a f_231_1 ?_
  refine w_a f_231_2 ?_
  refine i_m (fun h => ?_) (fun h => ?_) h
  · refine w_a f_231_10 ?_
    refine w_a f_231_11 ?_
    refine w_a f_231_15 ?_
    refine w_a (ls := [(0, .int x0), (1, .long y1), (3, .long y3)]) f_230_4 ?_
    refine w_a f_230_7 ?_
    refine w_a f_230_8 ?_
    refine w_a f_230_33 ?_
    exact h
  · refine w_a f_231_5 ?_
    refine w_a f_231_6 ?_
    refine w_a f_231_7 ?_
    refine i_m (fun h => ?_) (fun h => ?_) h
    · refine w_a f_231_10 ?_
      refine w_a f_231_11 ?_
      refine w_a f_231_15 ?_
      refine w_a (ls := [(0, .int x0), (1, .long y1), (3, .long y3)]) f_230_4 ?_
      refine w_a f_230_7 ?_
      refine w_a f_230_8 ?_
      refine w_a f_230_33 ?_
      exact h
    · refine w_a f_231_14 ?_
      refine w_a f_231_15 ?_
      refine w_a (ls := [(0, .int x0), (1, .long y1), (3, .long y3)]) f_230_4 ?_
      refine w_a f_230_11 ?_
      refine w_a f_230_12 ?_
      refine w_a f_230_13 ?_
      refine i_m (fun h => ?_) (fun h => ?_) h
      · refine w_a f_230_17 ?_
        refine w_a f_230_18 ?_
        refine w_a f_230_19 ?_
        refine w_a f_230_33 ?_
        exact h
      · refine w_a f_230_22 ?_
        refine w_a f_230_23 ?_
        refine w_a f_230_24 ?_
        refine i_m (fun h => ?_) (fun h => ?_) h
        · refine w_a f_230_28 ?_
          refine w_a f_230_29 ?_
          refine w_a f_230_33 ?_
          exact h
        · refine w_a f_230_32 ?_
          refine w_a f_230_33 ?_
          exact h
set_option maxRecDepth 10000 in
set_option maxHeartbeats 4000000 in
theorem s_232_0 {Lx : Nat} {I : Mi} {L : Ml} {e : Nat} {Q : Kq} {x0 : Int32} {y1 : Int64} {y3 : Int64} (h :
    (if x0 = (Int32.ofInt 1) then
     Q (.inl (some (.long y3))) (gE Lx) I L e
    else
     (if x0 = (Int32.ofInt 4) then
      Q (.inl (some (.long y3))) (gE Lx) I L e
     else
      (if y1 < (Int64.ofInt 0) then
       Q (.inl (some (.long (-y1)))) (gE Lx) I L e
      else
       Q (.inl (some (.long y1))) (gE Lx) I L e)))) :
    Wp 232 0 [(0, .int x0), (1, .long y1), (3, .long y3)] [] (gE Lx) I L e Q := by
  refine w_a f_232_0 ?_
  refine w_a f_232_1 ?_
  refine w_a (ls := [(0, .int x0)]) f_231_0 ?_
  refine w_a f_231_1 ?_
  refine w_a f_231_2 ?_
  refine i_m (fun h => ?_) (fun h => ?_) h
  · refine w_a f_231_10 ?_
    refine w_a f_231_11 ?_
    refine w_a f_231_15 ?_
    refine w_a (ls := [(0, .int x0), (1, .long y1), (3, .long y3)]) f_232_4 ?_
    refine w_a f_232_7 ?_
    refine w_a f_232_8 ?_
    refine w_a f_232_23 ?_
    exact h
  · refine w_a f_231_5 ?_
    refine w_a f_231_6 ?_
    refine w_a f_231_7 ?_
    refine i_m (fun h => ?_) (fun h => ?_) h
    · refine w_a f_231_10 ?_
      refine w_a f_231_11 ?_
      refine w_a f_231_15 ?_
      refine w_a (ls := [(0, .int x0), (1, .long y1), (3, .long y3)]) f_232_4 ?_
      refine w_a f_232_7 ?_
      refine w_a f_232_8 ?_
      refine w_a f_232_23 ?_
      exact h
    · refine w_a f_231_14 ?_
      refine w_a f_231_15 ?_
      refine w_a (ls := [(0, .int x0), (1, .long y1), (3, .long y3)]) f_232_4 ?_
      refine w_a f_232_11 ?_
      refine w_a f_232_12 ?_
      refine w_a f_232_13 ?_
      refine i_m (fun h => ?_) (fun h => ?_) h
      · refine w_a f_232_17 ?_
        refine w_a f_232_18 ?_
        refine w_a f_232_19 ?_
        refine w_a f_232_23 ?_
        exact h
      · refine w_a f_232_22 ?_
        refine w_a f_232_23 ?_
        exact h
set_option maxRecDepth 10000 in
set_option maxHeartbeats 4000000 in
theorem s_236_0 {Lx : Nat} {I : Mi} {L : Ml} {e : Nat} {Q : Kq} {y1 : Int64} {y3 : Int64} (h :
    Wp 209 0 [(0, .long y1), (2, .long y3)] [] (gE Lx) I L e (kcp (Wp 236) 236 2 0 [(0, .ref 58), (1, .long y1), (3, .long y3)] 71 [] Q)) :
    Wp 236 0 [(0, .ref 58), (1, .long y1), (3, .long y3)] [] (gE Lx) I L e Q := by
  refine w_a f_236_0 ?_
  refine w_a f_236_1 ?_
  exact w_c (ks := [0, 1, 3]) f_236_2 rfl rfl h
set_option maxRecDepth 10000 in
set_option maxHeartbeats 4000000 in
theorem s_236_5 {Lx : Nat} {I : Mi} {L : Ml} {e : Nat} {Q : Kq} {y1 : Int64} {y3 : Int64} {rl : Int64} (h :
    (if rl = (Int64.ofInt 0) then
     (if y3 < (Int64.ofInt 0) then
      Q (.inl none) (gE Lx) I (ul (ul L 58 8 ((-y1) / (Int64.ofInt 1))) 58 9 ((-y3) / (Int64.ofInt 1))) e
     else
      Q (.inl none) (gE Lx) I (ul (ul L 58 8 (y1 / (Int64.ofInt 1))) 58 9 (y3 / (Int64.ofInt 1))) e)
    else
     (if y3 < (Int64.ofInt 0) then
      (if rl = 0 then False else
       (if rl = 0 then False else
        Q (.inl none) (gE Lx) I (ul (ul L 58 8 ((-y1) / rl)) 58 9 ((-y3) / rl)) e))
     else
      (if rl = 0 then False else
       (if rl = 0 then False else
        Q (.inl none) (gE Lx) I (ul (ul L 58 8 (y1 / rl)) 58 9 (y3 / rl)) e))))) :
    Wp 236 5 [(0, .ref 58), (1, .long y1), (3, .long y3)] [.long rl] (gE Lx) I L e Q := by
  refine w_a f_236_5 ?_
  refine w_a (ls := [(5, .long rl), (0, .ref 58), (1, .long y1), (3, .long y3)]) f_236_7 ?_
  refine w_a f_236_9 ?_
  refine w_a f_236_10 ?_
  refine i_m (fun h => ?_) (fun h => ?_) h
  · refine w_a f_236_14 ?_
    refine w_a f_236_15 ?_
    refine w_a (ls := [(5, .long (Int64.ofInt 1)), (0, .ref 58), (1, .long y1), (3, .long y3)]) f_236_17 ?_
    refine w_a f_236_18 ?_
    refine w_a f_236_19 ?_
    refine i_m (fun h => ?_) (fun h => ?_) h
    · refine w_a f_236_23 ?_
      refine w_a f_236_24 ?_
      refine w_a f_236_28 ?_
      refine w_a (ls := [(7, .int (Int32.ofInt 1)), (5, .long (Int64.ofInt 1)), (0, .ref 58), (1, .long y1), (3, .long y3)]) f_236_30 ?_
      refine w_a f_236_31 ?_
      refine w_a f_236_33 ?_
      refine w_a f_236_36 ?_
      refine w_a f_236_37 ?_
      refine w_a f_236_38 ?_
      refine w_a f_236_40 ?_
      refine w_a f_236_41 ?_
      refine w_a f_236_48 ?_
      refine w_a f_236_51 ?_
      refine w_a f_236_52 ?_
      refine w_a f_236_54 ?_
      refine w_a f_236_57 ?_
      refine w_a f_236_58 ?_
      refine w_a f_236_59 ?_
      refine w_a f_236_61 ?_
      refine w_a f_236_62 ?_
      refine w_a f_236_69 ?_
      refine w_a f_236_72 ?_
      exact h
    · refine w_a f_236_27 ?_
      refine w_a f_236_28 ?_
      refine w_a (ls := [(7, .int (Int32.ofInt 0)), (5, .long (Int64.ofInt 1)), (0, .ref 58), (1, .long y1), (3, .long y3)]) f_236_30 ?_
      refine w_a f_236_31 ?_
      refine w_a f_236_33 ?_
      refine w_a f_236_44 ?_
      refine w_a f_236_45 ?_
      refine w_a f_236_47 ?_
      refine w_a f_236_48 ?_
      refine w_a f_236_51 ?_
      refine w_a f_236_52 ?_
      refine w_a f_236_54 ?_
      refine w_a f_236_65 ?_
      refine w_a f_236_66 ?_
      refine w_a f_236_68 ?_
      refine w_a f_236_69 ?_
      refine w_a f_236_72 ?_
      exact h
  · refine w_a f_236_17 ?_
    refine w_a f_236_18 ?_
    refine w_a f_236_19 ?_
    refine i_m (fun h => ?_) (fun h => ?_) h
    · refine w_a f_236_23 ?_
      refine w_a f_236_24 ?_
      refine w_a f_236_28 ?_
      refine w_a (ls := [(7, .int (Int32.ofInt 1)), (5, .long rl), (0, .ref 58), (1, .long y1), (3, .long y3)]) f_236_30 ?_
      refine w_a f_236_31 ?_
      refine w_a f_236_33 ?_
      refine w_a f_236_36 ?_
      refine w_a f_236_37 ?_
      refine w_a f_236_38 ?_
      refine w_a f_236_40 ?_
      refine i_m id (fun h => ?_) h
      refine w_a f_236_41 ?_
      refine w_a f_236_48 ?_
      refine w_a f_236_51 ?_
      refine w_a f_236_52 ?_
      refine w_a f_236_54 ?_
      refine w_a f_236_57 ?_
      refine w_a f_236_58 ?_
      refine w_a f_236_59 ?_
      refine w_a f_236_61 ?_
      refine i_m id (fun h => ?_) h
      refine w_a f_236_62 ?_
      refine w_a f_236_69 ?_
      refine w_a f_236_72 ?_
      exact h
    · refine w_a f_236_27 ?_
      refine w_a f_236_28 ?_
      refine w_a (ls := [(7, .int (Int32.ofInt 0)), (5, .long rl), (0, .ref 58), (1, .long y1), (3, .long y3)]) f_236_30 ?_
      refine w_a f_236_31 ?_
      refine w_a f_236_33 ?_
      refine w_a f_236_44 ?_
      refine w_a f_236_45 ?_
      refine w_a f_236_47 ?_
      refine i_m id (fun h => ?_) h
      refine w_a f_236_48 ?_
      refine w_a f_236_51 ?_
      refine w_a f_236_52 ?_
      refine w_a f_236_54 ?_
      refine w_a f_236_65 ?_
      refine w_a f_236_66 ?_
      refine w_a f_236_68 ?_
      refine i_m id (fun h => ?_) h
      refine w_a f_236_69 ?_
      refine w_a f_236_72 ?_
      exact h
set_option maxRecDepth 10000 in
set_option maxHeartbeats 4000000 in
theorem s_238_31 {Lx : Nat} {I : Mi} {L : Ml} {e : Nat} {Q : Kq} (h :
    (if (L 58 12) = (Int64.ofInt 0) then
     (if (L 58 13) = (Int64.ofInt 0) then
      Q (.inl (some (.int (Int32.ofInt 1)))) (gE Lx) I L e
     else
      Q (.inl (some (.int (Int32.ofInt 0)))) (gE Lx) I L e)
    else
     Q (.inl (some (.int (Int32.ofInt 0)))) (gE Lx) I L e)) :
    Wp 238 31 [(0, .ref 58)] [] (gE Lx) I L e Q := by
  refine w_a f_238_31 ?_
  refine w_a f_238_32 ?_
  refine w_a (ls := [(0, .ref 58)]) f_234_0 ?_
  refine w_a f_234_1 ?_
  refine w_a f_234_4 ?_
  refine w_a f_234_5 ?_
  refine i_m (fun h => ?_) (fun h => ?_) h
  · refine w_a f_234_9 ?_
    refine w_a f_234_10 ?_
    refine w_a f_234_13 ?_
    refine w_a f_234_14 ?_
    refine i_m (fun h => ?_) (fun h => ?_) h
    · refine w_a f_234_18 ?_
      refine w_a f_234_19 ?_
      refine w_a f_234_23 ?_
      refine w_a (ls := [(0, .ref 58)]) f_238_35 ?_
      exact h
    · refine w_a f_234_22 ?_
      refine w_a f_234_23 ?_
      refine w_a (ls := [(0, .ref 58)]) f_238_35 ?_
      exact h
  · refine w_a f_234_22 ?_
    refine w_a f_234_23 ?_
    refine w_a (ls := [(0, .ref 58)]) f_238_35 ?_
    exact h
set_option maxRecDepth 10000 in
set_option maxHeartbeats 4000000 in
theorem s_239_31 {Lx : Nat} {I : Mi} {L : Ml} {e : Nat} {Q : Kq} {x2 : Int32} (h :
    Wp 240 0 [(0, .ref 58)] [] (gE Lx) I L e (kcp (Wp 239) 239 32 0 [(0, .ref 58), (2, .int x2)] 71 [] Q)) :
    Wp 239 31 [(0, .ref 58), (2, .int x2)] [] (gE Lx) I L e Q := by
  refine w_a f_239_31 ?_
  exact w_c (ks := [0, 2]) f_239_32 rfl rfl h
set_option maxRecDepth 10000 in
set_option maxHeartbeats 4000000 in
theorem s_239_35 {Lx : Nat} {I : Mi} {L : Ml} {e : Nat} {Q : Kq} {x2 : Int32} (h :
    (if x2 = 0 then
     Q (.inl (some (.long (L 58 8)))) (gE Lx) I L e
    else
     Q (.inl (some (.long (L 58 9)))) (gE Lx) I L e)) :
    Wp 239 35 [(0, .ref 58), (2, .int x2)] [] (gE Lx) I L e Q := by
  refine w_a f_239_35 ?_
  refine w_a f_239_36 ?_
  refine w_a f_239_37 ?_
  refine w_a (ls := [(0, .ref 58), (1, .int x2)]) f_237_0 ?_
  refine w_a f_237_1 ?_
  refine i_m (fun h => ?_) (fun h => ?_) h
  · refine w_a f_237_11 ?_
    refine w_a f_237_12 ?_
    refine w_a f_237_15 ?_
    refine w_a (ls := [(0, .ref 58), (2, .int x2)]) f_239_40 ?_
    exact h
  · refine w_a f_237_4 ?_
    refine w_a f_237_5 ?_
    refine w_a f_237_8 ?_
    refine w_a f_237_15 ?_
    refine w_a (ls := [(0, .ref 58), (2, .int x2)]) f_239_40 ?_
    exact h
set_option maxRecDepth 10000 in
set_option maxHeartbeats 4000000 in
theorem s_240_0 {Lx : Nat} {I : Mi} {L : Ml} {e : Nat} {Q : Kq} (h :
    Wp 236 0 [(0, .ref 58), (1, .long ((((L 58 10) - (L 58 12)) * ((L 58 10) - (L 58 12))) + (((L 58 11) - (L 58 13)) * ((L 58 11) - (L 58 13))))), (3, .long ((((L 58 10) + (L 58 12)) * ((L 58 10) + (L 58 12))) + (((L 58 11) + (L 58 13)) * ((L 58 11) + (L 58 13)))))] [] (gE Lx) I L e (kcp (Wp 240) 240 43 0 [(0, .ref 58)] 71 [] Q)) :
    Wp 240 0 [(0, .ref 58)] [] (gE Lx) I L e Q := by
  refine w_a f_240_0 ?_
  refine w_a f_240_1 ?_
  refine w_a f_240_2 ?_
  refine w_a f_240_5 ?_
  refine w_a f_240_6 ?_
  refine w_a f_240_9 ?_
  refine w_a f_240_10 ?_
  refine w_a f_240_11 ?_
  refine w_a f_240_14 ?_
  refine w_a f_240_15 ?_
  refine w_a f_240_18 ?_
  refine w_a f_240_19 ?_
  refine w_a (ls := [(0, .long ((L 58 10) - (L 58 12))), (2, .long ((L 58 11) - (L 58 13)))]) f_235_0 ?_
  refine w_a f_235_1 ?_
  refine w_a f_235_2 ?_
  refine w_a f_235_3 ?_
  refine w_a f_235_4 ?_
  refine w_a f_235_5 ?_
  refine w_a f_235_6 ?_
  refine w_a f_235_7 ?_
  refine w_a (ls := [(0, .ref 58)]) f_240_22 ?_
  refine w_a f_240_23 ?_
  refine w_a f_240_26 ?_
  refine w_a f_240_27 ?_
  refine w_a f_240_30 ?_
  refine w_a f_240_31 ?_
  refine w_a f_240_32 ?_
  refine w_a f_240_35 ?_
  refine w_a f_240_36 ?_
  refine w_a f_240_39 ?_
  refine w_a f_240_40 ?_
  refine w_a (ls := [(0, .long ((L 58 10) + (L 58 12))), (2, .long ((L 58 11) + (L 58 13)))]) f_235_0 ?_
  refine w_a f_235_1 ?_
  refine w_a f_235_2 ?_
  refine w_a f_235_3 ?_
  refine w_a f_235_4 ?_
  refine w_a f_235_5 ?_
  refine w_a f_235_6 ?_
  refine w_a f_235_7 ?_
  exact w_c (ls := [(0, .ref 58)]) (ks := [0]) f_240_43 rfl rfl h
set_option maxRecDepth 10000 in
set_option maxHeartbeats 4000000 in
theorem s_240_46 {Lx : Nat} {I : Mi} {L : Ml} {e : Nat} {Q : Kq} (h :
    Q (.inl none) (gE Lx) I L e) :
    Wp 240 46 [(0, .ref 58)] [] (gE Lx) I L e Q := by
  refine w_a f_240_46 ?_
  exact h
set_option maxRecDepth 10000 in
set_option maxHeartbeats 4000000 in
theorem s_241_6 {Lx : Nat} {I : Mi} {L : Ml} {e : Nat} {Q : Kq} {x1 : Int32} {x2 : Int32} {x3 : Int32} {r : Int32} (h :
    (if r = 0 then
     Q (.inl (some (.int (Int32.ofInt 0)))) (gE Lx) (ui I 58 0 (Int32.ofInt 1)) L e
    else
     Wp 243 0 [(0, .long ((x1.toInt64 * x1.toInt64) + (x2.toInt64 * x2.toInt64)))] [] (gE Lx) I L e (kcp (Wp 242) 242 1 0 [(0, .long ((x1.toInt64 * x1.toInt64) + (x2.toInt64 * x2.toInt64)))] 71 [] (kcp (Wp 241) 241 20 0 [(0, .ref 58), (1, .int x1), (2, .int x2), (3, .int x3)] 71 [.ref 58] Q)))) :
    Wp 241 6 [(0, .ref 58), (1, .int x1), (2, .int x2), (3, .int x3)] [.int r, .ref 58] (gE Lx) I L e Q := by
  refine w_a f_241_6 ?_
  refine i_m (fun h => ?_) (fun h => ?_) h
  · refine w_a f_241_9 ?_
    refine w_a f_241_10 ?_
    refine w_a f_241_31 ?_
    refine w_a f_241_34 ?_
    refine w_a f_241_35 ?_
    refine w_a f_241_38 ?_
    refine w_a f_241_41 ?_
    refine w_a f_241_42 ?_
    exact h
  · refine w_a f_241_13 ?_
    refine w_a f_241_14 ?_
    refine w_a f_241_15 ?_
    refine w_a f_241_16 ?_
    refine w_a f_241_17 ?_
    refine w_a (ls := [(0, .long x1.toInt64), (2, .long x2.toInt64)]) f_235_0 ?_
    refine w_a f_235_1 ?_
    refine w_a f_235_2 ?_
    refine w_a f_235_3 ?_
    refine w_a f_235_4 ?_
    refine w_a f_235_5 ?_
    refine w_a f_235_6 ?_
    refine w_a f_235_7 ?_
    refine w_c (ls := [(0, .ref 58), (1, .int x1), (2, .int x2), (3, .int x3)]) (ks := [0, 1, 2, 3]) f_241_20 rfl rfl ?_
    refine w_a (ls := [(0, .long ((x1.toInt64 * x1.toInt64) + (x2.toInt64 * x2.toInt64)))]) f_242_0 ?_
    exact w_c (ks := [0]) f_242_1 rfl rfl h
set_option maxRecDepth 10000 in
set_option maxHeartbeats 4000000 in
theorem s_241_23 {Lx : Nat} {I : Mi} {L : Ml} {e : Nat} {Q : Kq} {x1 : Int32} {x2 : Int32} {x3 : Int32} {r : Int32} (h :
    (if r = 0 then
     Q (.inl (some (.int (Int32.ofInt 0)))) (gE Lx) (ui I 58 0 (Int32.ofInt 2)) L e
    else
     Wp 243 0 [(0, .long ((x1.toInt64 * x1.toInt64) + (x2.toInt64 * x2.toInt64)))] [] (gE Lx) (ui I 58 0 (Int32.ofInt 0)) L e (kcp (Wp 241) 241 50 0 [(0, .ref 58), (1, .int x1), (2, .int x2), (3, .int x3)] 71 [] Q))) :
    Wp 241 23 [(0, .ref 58), (1, .int x1), (2, .int x2), (3, .int x3)] [.int r, .ref 58] (gE Lx) I L e Q := by
  refine w_a f_241_23 ?_
  refine i_m (fun h => ?_) (fun h => ?_) h
  · refine w_a f_241_26 ?_
    refine w_a f_241_27 ?_
    refine w_a f_241_31 ?_
    refine w_a f_241_34 ?_
    refine w_a f_241_35 ?_
    refine w_a f_241_38 ?_
    refine w_a f_241_41 ?_
    refine w_a f_241_42 ?_
    exact h
  · refine w_a f_241_30 ?_
    refine w_a f_241_31 ?_
    refine w_a f_241_34 ?_
    refine w_a f_241_35 ?_
    refine w_a f_241_38 ?_
    refine w_a f_241_43 ?_
    refine w_a f_241_44 ?_
    refine w_a f_241_45 ?_
    refine w_a f_241_46 ?_
    refine w_a f_241_47 ?_
    refine w_a (ls := [(0, .long x1.toInt64), (2, .long x2.toInt64)]) f_235_0 ?_
    refine w_a f_235_1 ?_
    refine w_a f_235_2 ?_
    refine w_a f_235_3 ?_
    refine w_a f_235_4 ?_
    refine w_a f_235_5 ?_
    refine w_a f_235_6 ?_
    refine w_a f_235_7 ?_
    exact w_c (ls := [(0, .ref 58), (1, .int x1), (2, .int x2), (3, .int x3)]) (ks := [0, 1, 2, 3]) f_241_50 rfl rfl h
set_option maxRecDepth 10000 in
set_option maxHeartbeats 4000000 in
theorem s_241_53 {Lx : Nat} {I : Mi} {L : Ml} {e : Nat} {Q : Kq} {x1 : Int32} {x2 : Int32} {x3 : Int32} {rl : Int64} (h :
    (if x1 = 0 then
     Wp 236 0 [(0, .ref 58), (1, .long (Int64.ofInt 0)), (3, .long (Int64.ofInt 1))] [] (gE Lx) I L e (kcp (Wp 241) 241 62 0 [(0, .ref 58), (3, .int x3)] 71 [] Q)
    else
     (if 0 < x1 then
      (if 0 < x1 then
       Wp 236 0 [(0, .ref 58), (1, .long (rl - x2.toInt64)), (3, .long x1.toInt64)] [] (gE Lx) I L e (kcp (Wp 241) 241 98 0 [(0, .ref 58), (3, .int x3)] 71 [] Q)
      else
       Wp 236 0 [(0, .ref 58), (1, .long (rl - x2.toInt64)), (3, .long (-x1).toInt64)] [] (gE Lx) I L e (kcp (Wp 241) 241 98 0 [(0, .ref 58), (3, .int x3)] 71 [] Q))
     else
      (if 0 < x1 then
       Wp 236 0 [(0, .ref 58), (1, .long (rl + x2.toInt64)), (3, .long x1.toInt64)] [] (gE Lx) I L e (kcp (Wp 241) 241 98 0 [(0, .ref 58), (3, .int x3)] 71 [] Q)
      else
       Wp 236 0 [(0, .ref 58), (1, .long (rl + x2.toInt64)), (3, .long (-x1).toInt64)] [] (gE Lx) I L e (kcp (Wp 241) 241 98 0 [(0, .ref 58), (3, .int x3)] 71 [] Q))))) :
    Wp 241 53 [(0, .ref 58), (1, .int x1), (2, .int x2), (3, .int x3)] [.long rl] (gE Lx) I L e Q := by
  refine w_a f_241_53 ?_
  refine w_a (ls := [(4, .long rl), (0, .ref 58), (1, .int x1), (2, .int x2), (3, .int x3)]) f_241_55 ?_
  refine w_a f_241_56 ?_
  refine i_m (fun h => ?_) (fun h => ?_) h
  · refine w_a f_241_59 ?_
    refine w_a f_241_60 ?_
    refine w_a f_241_61 ?_
    exact w_c (ks := [0, 3]) f_241_62 rfl rfl h
  · refine w_a f_241_68 ?_
    refine w_a f_241_69 ?_
    refine w_a f_241_70 ?_
    refine i_m (fun h => ?_) (fun h => ?_) h
    · refine w_a f_241_73 ?_
      refine w_a f_241_75 ?_
      refine w_a f_241_76 ?_
      refine w_a f_241_77 ?_
      refine w_a f_241_78 ?_
      refine w_a f_241_86 ?_
      refine w_a f_241_87 ?_
      refine i_m (fun h => ?_) (fun h => ?_) h
      · refine w_a f_241_90 ?_
        refine w_a f_241_91 ?_
        refine w_a f_241_92 ?_
        exact w_c (ks := [0, 3]) f_241_98 rfl rfl h
      · refine w_a f_241_95 ?_
        refine w_a f_241_96 ?_
        refine w_a f_241_97 ?_
        exact w_c (ks := [0, 3]) f_241_98 rfl rfl h
    · refine w_a f_241_81 ?_
      refine w_a f_241_83 ?_
      refine w_a f_241_84 ?_
      refine w_a f_241_85 ?_
      refine w_a f_241_86 ?_
      refine w_a f_241_87 ?_
      refine i_m (fun h => ?_) (fun h => ?_) h
      · refine w_a f_241_90 ?_
        refine w_a f_241_91 ?_
        refine w_a f_241_92 ?_
        exact w_c (ks := [0, 3]) f_241_98 rfl rfl h
      · refine w_a f_241_95 ?_
        refine w_a f_241_96 ?_
        refine w_a f_241_97 ?_
        exact w_c (ks := [0, 3]) f_241_98 rfl rfl h
set_option maxRecDepth 10000 in
set_option maxHeartbeats 4000000 in
theorem s_241_65 {Lx : Nat} {I : Mi} {L : Ml} {e : Nat} {Q : Kq} {x3 : Int32} (h :
    Wp 241 101 [(0, .ref 58), (3, .int x3)] [] (gE Lx) I L e Q) :
    Wp 241 65 [(0, .ref 58), (3, .int x3)] [] (gE Lx) I L e Q := by
  refine w_a f_241_65 ?_
  exact w_n (ks := [0, 3]) rfl h
set_option maxRecDepth 10000 in
set_option maxHeartbeats 4000000 in
theorem s_241_101 {Lx : Nat} {I : Mi} {L : Ml} {e : Nat} {Q : Kq} {x3 : Int32} (h :
    (if x3 = 0 then
     Q (.inl (some (.int (L 58 8).toInt32))) (gE Lx) I L e
    else
     Q (.inl (some (.int (L 58 9).toInt32))) (gE Lx) I L e)) :
    Wp 241 101 [(0, .ref 58), (3, .int x3)] [] (gE Lx) I L e Q := by
  refine w_a f_241_101 ?_
  refine w_a f_241_102 ?_
  refine w_a f_241_103 ?_
  refine w_a (ls := [(0, .ref 58), (1, .int x3)]) f_237_0 ?_
  refine w_a f_237_1 ?_
  refine i_m (fun h => ?_) (fun h => ?_) h
  · refine w_a f_237_11 ?_
    refine w_a f_237_12 ?_
    refine w_a f_237_15 ?_
    refine w_a (ls := [(0, .ref 58), (3, .int x3)]) f_241_106 ?_
    refine w_a f_241_107 ?_
    exact h
  · refine w_a f_237_4 ?_
    refine w_a f_237_5 ?_
    refine w_a f_237_8 ?_
    refine w_a f_237_15 ?_
    refine w_a (ls := [(0, .ref 58), (3, .int x3)]) f_241_106 ?_
    refine w_a f_241_107 ?_
    exact h
set_option maxRecDepth 10000 in
set_option maxHeartbeats 4000000 in
theorem s_242_4 {Lx : Nat} {I : Mi} {L : Ml} {e : Nat} {Q : Kq} {y0 : Int64} {rl : Int64} (h :
    (if (rl * rl) = y0 then
     Q (.inl (some (.int (Int32.ofInt 1)))) (gE Lx) I L e
    else
     Q (.inl (some (.int (Int32.ofInt 0)))) (gE Lx) I L e)) :
    Wp 242 4 [(0, .long y0)] [.long rl] (gE Lx) I L e Q := by
  refine w_a f_242_4 ?_
  refine w_a (ls := [(2, .long rl), (0, .long y0)]) f_242_5 ?_
  refine w_a f_242_6 ?_
  refine w_a f_242_7 ?_
  refine w_a f_242_8 ?_
  refine w_a f_242_9 ?_
  refine i_m (fun h => ?_) (fun h => ?_) h
  · refine w_a f_242_13 ?_
    refine w_a f_242_14 ?_
    refine w_a f_242_18 ?_
    exact h
  · refine w_a f_242_17 ?_
    refine w_a f_242_18 ?_
    exact h
set_option maxRecDepth 10000 in
set_option maxHeartbeats 4000000 in
theorem s_243_0 {Lx : Nat} {I : Mi} {L : Ml} {e : Nat} {Q : Kq} {y0 : Int64} (h :
    Wp 243 7 [(0, .long y0), (2, .long (Int64.ofInt 0)), (4, .long (Int64.ofInt 3000000000))] [] (gE Lx) I L e Q) :
    Wp 243 0 [(0, .long y0)] [] (gE Lx) I L e Q := by
  refine w_a f_243_0 ?_
  refine w_a f_243_1 ?_
  refine w_a (ls := [(2, .long (Int64.ofInt 0)), (0, .long y0)]) f_243_2 ?_
  refine w_a f_243_5 ?_
  exact w_n (ks := [0, 2, 4]) rfl h
set_option maxRecDepth 10000 in
set_option maxHeartbeats 4000000 in
theorem s_243_7 {Lx : Nat} {I : Mi} {L : Ml} {e : Nat} {Q : Kq} {y0 : Int64} {y2 : Int64} {y4 : Int64} (h :
    (if y2 < y4 then
     (if y0 < ((((y2 + y4) + (Int64.ofInt 1)) / (Int64.ofInt 2)) * (((y2 + y4) + (Int64.ofInt 1)) / (Int64.ofInt 2))) then
      Wp 243 7 [(0, .long y0), (2, .long y2), (4, .long ((((y2 + y4) + (Int64.ofInt 1)) / (Int64.ofInt 2)) - (Int64.ofInt 1)))] [] (gE Lx) I L e Q
     else
      Wp 243 7 [(0, .long y0), (2, .long (((y2 + y4) + (Int64.ofInt 1)) / (Int64.ofInt 2))), (4, .long y4)] [] (gE Lx) I L e Q)
    else
     Q (.inl (some (.long y2))) (gE Lx) I L e)) :
    Wp 243 7 [(0, .long y0), (2, .long y2), (4, .long y4)] [] (gE Lx) I L e Q := by
  refine w_a f_243_7 ?_
  refine w_a f_243_8 ?_
  refine w_a f_243_10 ?_
  refine i_m (fun h => ?_) (fun h => ?_) h
  · refine w_a f_243_14 ?_
    refine w_a f_243_15 ?_
    refine w_a f_243_17 ?_
    refine w_a f_243_18 ?_
    refine w_a f_243_19 ?_
    refine w_a f_243_20 ?_
    refine w_a f_243_23 ?_
    refine w_a f_243_24 ?_
    refine w_a (ls := [(6, .long (((y2 + y4) + (Int64.ofInt 1)) / (Int64.ofInt 2))), (0, .long y0), (2, .long y2), (4, .long y4)]) f_243_26 ?_
    refine w_a f_243_28 ?_
    refine w_a f_243_30 ?_
    refine w_a f_243_31 ?_
    refine w_a f_243_32 ?_
    refine i_m (fun h => ?_) (fun h => ?_) h
    · refine w_a f_243_42 ?_
      refine w_a f_243_44 ?_
      refine w_a f_243_45 ?_
      refine w_a f_243_46 ?_
      refine w_a (ls := [(4, .long ((((y2 + y4) + (Int64.ofInt 1)) / (Int64.ofInt 2)) - (Int64.ofInt 1))), (6, .long (((y2 + y4) + (Int64.ofInt 1)) / (Int64.ofInt 2))), (0, .long y0), (2, .long y2)]) f_243_48 ?_
      exact w_n (ks := [0, 2, 4]) rfl h
    · refine w_a f_243_36 ?_
      refine w_a f_243_38 ?_
      refine w_a (ls := [(2, .long (((y2 + y4) + (Int64.ofInt 1)) / (Int64.ofInt 2))), (6, .long (((y2 + y4) + (Int64.ofInt 1)) / (Int64.ofInt 2))), (0, .long y0), (4, .long y4)]) f_243_39 ?_
      refine w_a f_243_48 ?_
      exact w_n (ks := [0, 2, 4]) rfl h
  · refine w_a f_243_51 ?_
    refine w_a f_243_52 ?_
    exact h
set_option maxRecDepth 10000 in
set_option maxHeartbeats 4000000 in
theorem s_244_6 {Lx : Nat} {I : Mi} {L : Ml} {e : Nat} {Q : Kq} {x1 : Int32} {x2 : Int32} {x3 : Int32} {x4 : Int32} {r : Int32} (h :
    (if r = 0 then
     Q (.inl (some (.int (Int32.ofInt 0)))) (gE Lx) (ui I 58 0 (Int32.ofInt 1)) L e
    else
     (if x3 < (Int32.ofInt 1) then
      Q (.inl (some (.int (Int32.ofInt 0)))) (gE Lx) (ui I 58 0 (Int32.ofInt 1)) L e
     else
      (if (Int32.ofInt 4) < x3 then
       Q (.inl (some (.int (Int32.ofInt 0)))) (gE Lx) (ui I 58 0 (Int32.ofInt 1)) L e
      else
       Wp 245 0 [(0, .ref 58), (1, .long x1.toInt64), (3, .long x2.toInt64), (5, .int x3)] [] (gE Lx) (ui I 58 0 (Int32.ofInt 0)) L e (kcp (Wp 244) 244 41 0 [(0, .ref 58), (4, .int x4)] 71 [] Q))))) :
    Wp 244 6 [(0, .ref 58), (1, .int x1), (2, .int x2), (3, .int x3), (4, .int x4)] [.int r, .ref 58] (gE Lx) I L e Q := by
  refine w_a f_244_6 ?_
  refine i_m (fun h => ?_) (fun h => ?_) h
  · refine w_a f_244_22 ?_
    refine w_a f_244_23 ?_
    refine w_a f_244_26 ?_
    refine w_a f_244_27 ?_
    refine w_a f_244_30 ?_
    refine w_a f_244_33 ?_
    refine w_a f_244_34 ?_
    exact h
  · refine w_a f_244_9 ?_
    refine w_a f_244_10 ?_
    refine w_a f_244_11 ?_
    refine w_a f_244_12 ?_
    refine w_a (ls := [(0, .int x3), (1, .int (Int32.ofInt 1)), (2, .int (Int32.ofInt 4))]) f_208_0 ?_
    refine w_a f_208_1 ?_
    refine w_a f_208_2 ?_
    refine i_m (fun h => ?_) (fun h => ?_) h
    · refine w_a f_208_14 ?_
      refine w_a f_208_15 ?_
      refine w_a (ls := [(0, .ref 58), (1, .int x1), (2, .int x2), (3, .int x3), (4, .int x4)]) f_244_15 ?_
      refine w_a f_244_22 ?_
      refine w_a f_244_23 ?_
      refine w_a f_244_26 ?_
      refine w_a f_244_27 ?_
      refine w_a f_244_30 ?_
      refine w_a f_244_33 ?_
      refine w_a f_244_34 ?_
      exact h
    · refine w_a f_208_5 ?_
      refine w_a f_208_6 ?_
      refine w_a f_208_7 ?_
      refine i_m (fun h => ?_) (fun h => ?_) h
      · refine w_a f_208_14 ?_
        refine w_a f_208_15 ?_
        refine w_a (ls := [(0, .ref 58), (1, .int x1), (2, .int x2), (3, .int x3), (4, .int x4)]) f_244_15 ?_
        refine w_a f_244_22 ?_
        refine w_a f_244_23 ?_
        refine w_a f_244_26 ?_
        refine w_a f_244_27 ?_
        refine w_a f_244_30 ?_
        refine w_a f_244_33 ?_
        refine w_a f_244_34 ?_
        exact h
      · refine w_a f_208_10 ?_
        refine w_a f_208_11 ?_
        refine w_a f_208_15 ?_
        refine w_a (ls := [(0, .ref 58), (1, .int x1), (2, .int x2), (3, .int x3), (4, .int x4)]) f_244_15 ?_
        refine w_a f_244_18 ?_
        refine w_a f_244_19 ?_
        refine w_a f_244_23 ?_
        refine w_a f_244_26 ?_
        refine w_a f_244_27 ?_
        refine w_a f_244_30 ?_
        refine w_a f_244_35 ?_
        refine w_a f_244_36 ?_
        refine w_a f_244_37 ?_
        refine w_a f_244_38 ?_
        refine w_a f_244_39 ?_
        refine w_a f_244_40 ?_
        exact w_c (ks := [0, 4]) f_244_41 rfl rfl h
set_option maxRecDepth 10000 in
set_option maxHeartbeats 4000000 in
theorem s_244_44 {Lx : Nat} {I : Mi} {L : Ml} {e : Nat} {Q : Kq} {x4 : Int32} (h :
    (if x4 = 0 then
     Q (.inl (some (.int (L 58 8).toInt32))) (gE Lx) I L e
    else
     Q (.inl (some (.int (L 58 9).toInt32))) (gE Lx) I L e)) :
    Wp 244 44 [(0, .ref 58), (4, .int x4)] [] (gE Lx) I L e Q := by
  refine w_a f_244_44 ?_
  refine w_a f_244_45 ?_
  refine w_a f_244_47 ?_
  refine w_a (ls := [(0, .ref 58), (1, .int x4)]) f_237_0 ?_
  refine w_a f_237_1 ?_
  refine i_m (fun h => ?_) (fun h => ?_) h
  · refine w_a f_237_11 ?_
    refine w_a f_237_12 ?_
    refine w_a f_237_15 ?_
    refine w_a (ls := [(0, .ref 58), (4, .int x4)]) f_244_50 ?_
    refine w_a f_244_51 ?_
    exact h
  · refine w_a f_237_4 ?_
    refine w_a f_237_5 ?_
    refine w_a f_237_8 ?_
    refine w_a f_237_15 ?_
    refine w_a (ls := [(0, .ref 58), (4, .int x4)]) f_244_50 ?_
    refine w_a f_244_51 ?_
    exact h
set_option maxRecDepth 10000 in
set_option maxHeartbeats 4000000 in
theorem s_245_0 {Lx : Nat} {I : Mi} {L : Ml} {e : Nat} {Q : Kq} {y1 : Int64} {y3 : Int64} {x5 : Int32} (h :
    Wp 246 0 [(0, .ref 58), (1, .long y1), (3, .long y3)] [] (gE Lx) I L e (kcp (Wp 245) 245 3 0 [(0, .ref 58), (1, .long y1), (3, .long y3), (5, .int x5)] 71 [] Q)) :
    Wp 245 0 [(0, .ref 58), (1, .long y1), (3, .long y3), (5, .int x5)] [] (gE Lx) I L e Q := by
  refine w_a f_245_0 ?_
  refine w_a f_245_1 ?_
  refine w_a f_245_2 ?_
  exact w_c (ks := [0, 1, 3, 5]) f_245_3 rfl rfl h
set_option maxRecDepth 10000 in
set_option maxHeartbeats 4000000 in
theorem s_245_6 {Lx : Nat} {I : Mi} {L : Ml} {e : Nat} {Q : Kq} {y1 : Int64} {y3 : Int64} {x5 : Int32} (h :
    Wp 245 9 [(0, .ref 58), (1, .long y1), (3, .long y3), (5, .int x5), (6, .int (Int32.ofInt 1))] [] (gE Lx) I L e Q) :
    Wp 245 6 [(0, .ref 58), (1, .long y1), (3, .long y3), (5, .int x5)] [] (gE Lx) I L e Q := by
  refine w_a f_245_6 ?_
  refine w_a f_245_7 ?_
  exact w_n (ks := [0, 1, 3, 5, 6]) rfl h
set_option maxRecDepth 10000 in
set_option maxHeartbeats 4000000 in
theorem s_245_9 {Lx : Nat} {I : Mi} {L : Ml} {e : Nat} {Q : Kq} {y1 : Int64} {y3 : Int64} {x5 : Int32} {x6 : Int32} (h :
    (if x6 < x5 then
     Wp 247 0 [(0, .ref 58), (1, .long (L 58 8)), (3, .long (L 58 9)), (5, .long y1), (7, .long y3)] [] (gE Lx) I L e (kcp (Wp 245) 245 27 0 [(0, .ref 58), (1, .long y1), (3, .long y3), (5, .int x5), (6, .int x6)] 71 [] Q)
    else
     Q (.inl none) (gE Lx) I L e)) :
    Wp 245 9 [(0, .ref 58), (1, .long y1), (3, .long y3), (5, .int x5), (6, .int x6)] [] (gE Lx) I L e Q := by
  refine w_a f_245_9 ?_
  refine w_a f_245_11 ?_
  refine w_a f_245_13 ?_
  refine i_m (fun h => ?_) (fun h => ?_) h
  · refine w_a f_245_16 ?_
    refine w_a f_245_17 ?_
    refine w_a f_245_18 ?_
    refine w_a f_245_21 ?_
    refine w_a f_245_22 ?_
    refine w_a f_245_25 ?_
    refine w_a f_245_26 ?_
    exact w_c (ks := [0, 1, 3, 5, 6]) f_245_27 rfl rfl h
  · refine w_a f_245_36 ?_
    exact h
set_option maxRecDepth 10000 in
set_option maxHeartbeats 4000000 in
theorem s_245_30 {Lx : Nat} {I : Mi} {L : Ml} {e : Nat} {Q : Kq} {y1 : Int64} {y3 : Int64} {x5 : Int32} {x6 : Int32} (h :
    Wp 245 9 [(0, .ref 58), (1, .long y1), (3, .long y3), (5, .int x5), (6, .int (x6 + Int32.ofInt 1))] [] (gE Lx) I L e Q) :
    Wp 245 30 [(0, .ref 58), (1, .long y1), (3, .long y3), (5, .int x5), (6, .int x6)] [] (gE Lx) I L e Q := by
  refine w_a f_245_30 ?_
  refine w_a (ls := [(6, .int (x6 + Int32.ofInt 1)), (0, .ref 58), (1, .long y1), (3, .long y3), (5, .int x5)]) f_245_33 ?_
  exact w_n (ks := [0, 1, 3, 5, 6]) rfl h
set_option maxRecDepth 10000 in
set_option maxHeartbeats 4000000 in
theorem s_246_0 {Lx : Nat} {I : Mi} {L : Ml} {e : Nat} {Q : Kq} {y1 : Int64} {y3 : Int64} (h :
    Wp 236 0 [(0, .ref 58), (1, .long y1), (3, .long y3)] [] (gE Lx) I L e (kcp (Wp 246) 246 3 0 [(0, .ref 58)] 71 [] Q)) :
    Wp 246 0 [(0, .ref 58), (1, .long y1), (3, .long y3)] [] (gE Lx) I L e Q := by
  refine w_a f_246_0 ?_
  refine w_a f_246_1 ?_
  refine w_a f_246_2 ?_
  exact w_c (ks := [0]) f_246_3 rfl rfl h
set_option maxRecDepth 10000 in
set_option maxHeartbeats 4000000 in
theorem s_246_6 {Lx : Nat} {I : Mi} {L : Ml} {e : Nat} {Q : Kq} (h :
    (if (L 58 9) = (Int64.ofInt 0) then
     Q (.inl none) (gE Lx) I (ul L 58 8 (Int64.ofInt 1)) e
    else
     Q (.inl none) (gE Lx) I L e)) :
    Wp 246 6 [(0, .ref 58)] [] (gE Lx) I L e Q := by
  refine w_a f_246_6 ?_
  refine w_a f_246_7 ?_
  refine w_a f_246_10 ?_
  refine w_a f_246_11 ?_
  refine i_m (fun h => ?_) (fun h => ?_) h
  · refine w_a f_246_15 ?_
    refine w_a f_246_16 ?_
    refine w_a f_246_17 ?_
    refine w_a f_246_20 ?_
    exact h
  · refine w_a f_246_20 ?_
    exact h
set_option maxRecDepth 10000 in
set_option maxHeartbeats 4000000 in
theorem s_247_0 {Lx : Nat} {I : Mi} {L : Ml} {e : Nat} {Q : Kq} {y1 : Int64} {y3 : Int64} {y5 : Int64} {y7 : Int64} (h :
    Wp 246 0 [(0, .ref 58), (1, .long ((y1 * y7) + (y3 * y5))), (3, .long ((y3 * y7) - (y1 * y5)))] [] (gE Lx) I L e (kcp (Wp 247) 247 19 0 [(0, .ref 58)] 71 [] Q)) :
    Wp 247 0 [(0, .ref 58), (1, .long y1), (3, .long y3), (5, .long y5), (7, .long y7)] [] (gE Lx) I L e Q := by
  refine w_a f_247_0 ?_
  refine w_a f_247_1 ?_
  refine w_a f_247_2 ?_
  refine w_a f_247_4 ?_
  refine w_a f_247_5 ?_
  refine w_a f_247_6 ?_
  refine w_a f_247_8 ?_
  refine w_a f_247_9 ?_
  refine w_a f_247_10 ?_
  refine w_a f_247_11 ?_
  refine w_a f_247_13 ?_
  refine w_a f_247_14 ?_
  refine w_a f_247_15 ?_
  refine w_a f_247_17 ?_
  refine w_a f_247_18 ?_
  exact w_c (ks := [0]) f_247_19 rfl rfl h
set_option maxRecDepth 10000 in
set_option maxHeartbeats 4000000 in
theorem s_247_22 {Lx : Nat} {I : Mi} {L : Ml} {e : Nat} {Q : Kq} (h :
    Q (.inl none) (gE Lx) I L e) :
    Wp 247 22 [(0, .ref 58)] [] (gE Lx) I L e Q := by
  refine w_a f_247_22 ?_
  exact h
set_option maxRecDepth 10000 in
set_option maxHeartbeats 4000000 in
theorem s_248_6 {Lx : Nat} {I : Mi} {L : Ml} {e : Nat} {Q : Kq} {x1 : Int32} {x2 : Int32} {x3 : Int32} {x4 : Int32} {x5 : Int32} {r : Int32} (h :
    (if r = 0 then
     Q (.inl (some (.int (Int32.ofInt 0)))) (gE Lx) (ui I 58 0 (Int32.ofInt 1)) L e
    else
     Wp 207 0 [(0, .int x3), (1, .int x4)] [] (gE Lx) I L e (kcp (Wp 248) 248 12 0 [(0, .ref 58), (1, .int x1), (2, .int x2), (3, .int x3), (4, .int x4), (5, .int x5)] 71 [.ref 58] Q))) :
    Wp 248 6 [(0, .ref 58), (1, .int x1), (2, .int x2), (3, .int x3), (4, .int x4), (5, .int x5)] [.int r, .ref 58] (gE Lx) I L e Q := by
  refine w_a f_248_6 ?_
  refine i_m (fun h => ?_) (fun h => ?_) h
  · refine w_a f_248_22 ?_
    refine w_a f_248_23 ?_
    refine w_a f_248_26 ?_
    refine w_a f_248_27 ?_
    refine w_a f_248_30 ?_
    refine w_a f_248_33 ?_
    refine w_a f_248_34 ?_
    exact h
  · refine w_a f_248_9 ?_
    refine w_a f_248_10 ?_
    exact w_c (ks := [0, 1, 2, 3, 4, 5]) f_248_12 rfl rfl h
set_option maxRecDepth 10000 in
set_option maxHeartbeats 4000000 in
theorem s_248_15 {Lx : Nat} {I : Mi} {L : Ml} {e : Nat} {Q : Kq} {x1 : Int32} {x2 : Int32} {x3 : Int32} {x4 : Int32} {x5 : Int32} {r : Int32} (h :
    (if r = 0 then
     Q (.inl (some (.int (Int32.ofInt 0)))) (gE Lx) (ui I 58 0 (Int32.ofInt 1)) L e
    else
     Wp 247 0 [(0, .ref 58), (1, .long x1.toInt64), (3, .long x2.toInt64), (5, .long x3.toInt64), (7, .long x4.toInt64)] [] (gE Lx) (ui I 58 0 (Int32.ofInt 0)) L e (kcp (Wp 248) 248 45 0 [(0, .ref 58), (5, .int x5)] 71 [] Q))) :
    Wp 248 15 [(0, .ref 58), (1, .int x1), (2, .int x2), (3, .int x3), (4, .int x4), (5, .int x5)] [.int r, .ref 58] (gE Lx) I L e Q := by
  refine w_a f_248_15 ?_
  refine i_m (fun h => ?_) (fun h => ?_) h
  · refine w_a f_248_22 ?_
    refine w_a f_248_23 ?_
    refine w_a f_248_26 ?_
    refine w_a f_248_27 ?_
    refine w_a f_248_30 ?_
    refine w_a f_248_33 ?_
    refine w_a f_248_34 ?_
    exact h
  · refine w_a f_248_18 ?_
    refine w_a f_248_19 ?_
    refine w_a f_248_23 ?_
    refine w_a f_248_26 ?_
    refine w_a f_248_27 ?_
    refine w_a f_248_30 ?_
    refine w_a f_248_35 ?_
    refine w_a f_248_36 ?_
    refine w_a f_248_37 ?_
    refine w_a f_248_38 ?_
    refine w_a f_248_39 ?_
    refine w_a f_248_40 ?_
    refine w_a f_248_41 ?_
    refine w_a f_248_42 ?_
    refine w_a f_248_44 ?_
    exact w_c (ks := [0, 5]) f_248_45 rfl rfl h
set_option maxRecDepth 10000 in
set_option maxHeartbeats 4000000 in
theorem s_248_48 {Lx : Nat} {I : Mi} {L : Ml} {e : Nat} {Q : Kq} {x5 : Int32} (h :
    (if x5 = 0 then
     Q (.inl (some (.int (L 58 8).toInt32))) (gE Lx) I L e
    else
     Q (.inl (some (.int (L 58 9).toInt32))) (gE Lx) I L e)) :
    Wp 248 48 [(0, .ref 58), (5, .int x5)] [] (gE Lx) I L e Q := by
  refine w_a f_248_48 ?_
  refine w_a f_248_49 ?_
  refine w_a f_248_51 ?_
  refine w_a (ls := [(0, .ref 58), (1, .int x5)]) f_237_0 ?_
  refine w_a f_237_1 ?_
  refine i_m (fun h => ?_) (fun h => ?_) h
  · refine w_a f_237_11 ?_
    refine w_a f_237_12 ?_
    refine w_a f_237_15 ?_
    refine w_a (ls := [(0, .ref 58), (5, .int x5)]) f_248_54 ?_
    refine w_a f_248_55 ?_
    exact h
  · refine w_a f_237_4 ?_
    refine w_a f_237_5 ?_
    refine w_a f_237_8 ?_
    refine w_a f_237_15 ?_
    refine w_a (ls := [(0, .ref 58), (5, .int x5)]) f_248_54 ?_
    refine w_a f_248_55 ?_
    exact h
set_option maxRecDepth 10000 in
set_option maxHeartbeats 4000000 in
theorem s_249_6 {Lx : Nat} {I : Mi} {L : Ml} {e : Nat} {Q : Kq} {x1 : Int32} {x2 : Int32} {x3 : Int32} {x4 : Int32} {r : Int32} (h :
    (if r = 0 then
     Q (.inl (some (.int (Int32.ofInt 0)))) (gE Lx) (ui I 58 0 (Int32.ofInt 1)) L e
    else
     Wp 207 0 [(0, .int x3), (1, .int x4)] [] (gE Lx) I L e (kcp (Wp 249) 249 12 0 [(0, .ref 58), (1, .int x1), (2, .int x2), (3, .int x3), (4, .int x4)] 71 [.ref 58] Q))) :
    Wp 249 6 [(0, .ref 58), (1, .int x1), (2, .int x2), (3, .int x3), (4, .int x4)] [.int r, .ref 58] (gE Lx) I L e Q := by
  refine w_a f_249_6 ?_
  refine i_m (fun h => ?_) (fun h => ?_) h
  · refine w_a f_249_22 ?_
    refine w_a f_249_23 ?_
    refine w_a f_249_26 ?_
    refine w_a f_249_27 ?_
    refine w_a f_249_30 ?_
    refine w_a f_249_33 ?_
    refine w_a f_249_34 ?_
    refine w_a f_249_49 ?_
    exact h
  · refine w_a f_249_9 ?_
    refine w_a f_249_10 ?_
    exact w_c (ks := [0, 1, 2, 3, 4]) f_249_12 rfl rfl h
set_option maxRecDepth 10000 in
set_option maxHeartbeats 4000000 in
theorem s_249_15 {Lx : Nat} {I : Mi} {L : Ml} {e : Nat} {Q : Kq} {x1 : Int32} {x2 : Int32} {x3 : Int32} {x4 : Int32} {r : Int32} (h :
    (if r = 0 then
     Q (.inl (some (.int (Int32.ofInt 0)))) (gE Lx) (ui I 58 0 (Int32.ofInt 1)) L e
    else
     (if x1.toInt64 < (Int64.ofInt 0) then
      (if x3.toInt64 < (Int64.ofInt 0) then
       (if ((x1.toInt64 * x4.toInt64) - (x3.toInt64 * x2.toInt64)) < (Int64.ofInt 0) then
        Q (.inl (some (.int (Int32.ofInt (-1))))) (gE Lx) (ui I 58 0 (Int32.ofInt 0)) L e
       else
        (if (Int64.ofInt 0) < ((x1.toInt64 * x4.toInt64) - (x3.toInt64 * x2.toInt64)) then
         Q (.inl (some (.int (Int32.ofInt 1)))) (gE Lx) (ui I 58 0 (Int32.ofInt 0)) L e
        else
         Q (.inl (some (.int (Int32.ofInt 0)))) (gE Lx) (ui I 58 0 (Int32.ofInt 0)) L e))
      else
       Q (.inl (some (.int (Int32.ofInt 1)))) (gE Lx) (ui I 58 0 (Int32.ofInt 0)) L e)
     else
      (if x3.toInt64 < (Int64.ofInt 0) then
       Q (.inl (some (.int (Int32.ofInt (-1))))) (gE Lx) (ui I 58 0 (Int32.ofInt 0)) L e
      else
       (if ((x1.toInt64 * x4.toInt64) - (x3.toInt64 * x2.toInt64)) < (Int64.ofInt 0) then
        Q (.inl (some (.int (Int32.ofInt (-1))))) (gE Lx) (ui I 58 0 (Int32.ofInt 0)) L e
       else
        (if (Int64.ofInt 0) < ((x1.toInt64 * x4.toInt64) - (x3.toInt64 * x2.toInt64)) then
         Q (.inl (some (.int (Int32.ofInt 1)))) (gE Lx) (ui I 58 0 (Int32.ofInt 0)) L e
        else
         Q (.inl (some (.int (Int32.ofInt 0)))) (gE Lx) (ui I 58 0 (Int32.ofInt 0)) L e)))))) :
    Wp 249 15 [(0, .ref 58), (1, .int x1), (2, .int x2), (3, .int x3), (4, .int x4)] [.int r, .ref 58] (gE Lx) I L e Q := by
  refine w_a f_249_15 ?_
  refine i_m (fun h => ?_) (fun h => ?_) h
  · refine w_a f_249_22 ?_
    refine w_a f_249_23 ?_
    refine w_a f_249_26 ?_
    refine w_a f_249_27 ?_
    refine w_a f_249_30 ?_
    refine w_a f_249_33 ?_
    refine w_a f_249_34 ?_
    refine w_a f_249_49 ?_
    exact h
  · refine w_a f_249_18 ?_
    refine w_a f_249_19 ?_
    refine w_a f_249_23 ?_
    refine w_a f_249_26 ?_
    refine w_a f_249_27 ?_
    refine w_a f_249_30 ?_
    refine w_a f_249_37 ?_
    refine w_a f_249_38 ?_
    refine w_a f_249_39 ?_
    refine w_a f_249_40 ?_
    refine w_a f_249_41 ?_
    refine w_a f_249_42 ?_
    refine w_a f_249_43 ?_
    refine w_a f_249_45 ?_
    refine w_a f_249_46 ?_
    refine w_a (ls := [(0, .long x1.toInt64), (2, .long x2.toInt64), (4, .long x3.toInt64), (6, .long x4.toInt64)]) f_211_0 ?_
    refine w_a f_211_1 ?_
    refine w_a f_211_2 ?_
    refine i_m (fun h => ?_) (fun h => ?_) h
    · refine w_a f_211_6 ?_
      refine w_a f_211_7 ?_
      refine w_a f_211_11 ?_
      refine w_a (ls := [(8, .int (Int32.ofInt 1)), (0, .long x1.toInt64), (2, .long x2.toInt64), (4, .long x3.toInt64), (6, .long x4.toInt64)]) f_211_13 ?_
      refine w_a f_211_15 ?_
      refine w_a f_211_16 ?_
      refine i_m (fun h => ?_) (fun h => ?_) h
      · refine w_a f_211_20 ?_
        refine w_a f_211_21 ?_
        refine w_a f_211_25 ?_
        refine w_a (ls := [(9, .int (Int32.ofInt 1)), (8, .int (Int32.ofInt 1)), (0, .long x1.toInt64), (2, .long x2.toInt64), (4, .long x3.toInt64), (6, .long x4.toInt64)]) f_211_27 ?_
        refine w_a f_211_29 ?_
        refine w_a f_211_31 ?_
        refine w_a f_211_45 ?_
        refine w_a f_211_46 ?_
        refine w_a f_211_48 ?_
        refine w_a f_211_49 ?_
        refine w_a f_211_51 ?_
        refine w_a f_211_52 ?_
        refine w_a f_211_53 ?_
        refine w_a f_211_54 ?_
        refine w_a (ls := [(10, .long ((x1.toInt64 * x4.toInt64) - (x3.toInt64 * x2.toInt64))), (9, .int (Int32.ofInt 1)), (8, .int (Int32.ofInt 1)), (0, .long x1.toInt64), (2, .long x2.toInt64), (4, .long x3.toInt64), (6, .long x4.toInt64)]) f_211_56 ?_
        refine w_a f_211_58 ?_
        refine w_a f_211_59 ?_
        refine i_m (fun h => ?_) (fun h => ?_) h
        · refine w_a f_211_63 ?_
          refine w_a f_211_64 ?_
          refine w_a f_211_79 ?_
          refine w_a (ls := [(0, .ref 58), (1, .int x1), (2, .int x2), (3, .int x3), (4, .int x4)]) f_249_49 ?_
          exact h
        · refine w_a f_211_67 ?_
          refine w_a f_211_69 ?_
          refine w_a f_211_70 ?_
          refine i_m (fun h => ?_) (fun h => ?_) h
          · refine w_a f_211_74 ?_
            refine w_a f_211_75 ?_
            refine w_a f_211_79 ?_
            refine w_a (ls := [(0, .ref 58), (1, .int x1), (2, .int x2), (3, .int x3), (4, .int x4)]) f_249_49 ?_
            exact h
          · refine w_a f_211_78 ?_
            refine w_a f_211_79 ?_
            refine w_a (ls := [(0, .ref 58), (1, .int x1), (2, .int x2), (3, .int x3), (4, .int x4)]) f_249_49 ?_
            exact h
      · refine w_a f_211_24 ?_
        refine w_a f_211_25 ?_
        refine w_a (ls := [(9, .int (Int32.ofInt 0)), (8, .int (Int32.ofInt 1)), (0, .long x1.toInt64), (2, .long x2.toInt64), (4, .long x3.toInt64), (6, .long x4.toInt64)]) f_211_27 ?_
        refine w_a f_211_29 ?_
        refine w_a f_211_31 ?_
        refine w_a f_211_34 ?_
        refine w_a f_211_36 ?_
        refine w_a f_211_39 ?_
        refine w_a f_211_40 ?_
        refine w_a f_211_44 ?_
        refine w_a (ls := [(0, .ref 58), (1, .int x1), (2, .int x2), (3, .int x3), (4, .int x4)]) f_249_49 ?_
        exact h
    · refine w_a f_211_10 ?_
      refine w_a f_211_11 ?_
      refine w_a (ls := [(8, .int (Int32.ofInt 0)), (0, .long x1.toInt64), (2, .long x2.toInt64), (4, .long x3.toInt64), (6, .long x4.toInt64)]) f_211_13 ?_
      refine w_a f_211_15 ?_
      refine w_a f_211_16 ?_
      refine i_m (fun h => ?_) (fun h => ?_) h
      · refine w_a f_211_20 ?_
        refine w_a f_211_21 ?_
        refine w_a f_211_25 ?_
        refine w_a (ls := [(9, .int (Int32.ofInt 1)), (8, .int (Int32.ofInt 0)), (0, .long x1.toInt64), (2, .long x2.toInt64), (4, .long x3.toInt64), (6, .long x4.toInt64)]) f_211_27 ?_
        refine w_a f_211_29 ?_
        refine w_a f_211_31 ?_
        refine w_a f_211_34 ?_
        refine w_a f_211_36 ?_
        refine w_a f_211_43 ?_
        refine w_a f_211_44 ?_
        refine w_a (ls := [(0, .ref 58), (1, .int x1), (2, .int x2), (3, .int x3), (4, .int x4)]) f_249_49 ?_
        exact h
      · refine w_a f_211_24 ?_
        refine w_a f_211_25 ?_
        refine w_a (ls := [(9, .int (Int32.ofInt 0)), (8, .int (Int32.ofInt 0)), (0, .long x1.toInt64), (2, .long x2.toInt64), (4, .long x3.toInt64), (6, .long x4.toInt64)]) f_211_27 ?_
        refine w_a f_211_29 ?_
        refine w_a f_211_31 ?_
        refine w_a f_211_45 ?_
        refine w_a f_211_46 ?_
        refine w_a f_211_48 ?_
        refine w_a f_211_49 ?_
        refine w_a f_211_51 ?_
        refine w_a f_211_52 ?_
        refine w_a f_211_53 ?_
        refine w_a f_211_54 ?_
        refine w_a (ls := [(10, .long ((x1.toInt64 * x4.toInt64) - (x3.toInt64 * x2.toInt64))), (9, .int (Int32.ofInt 0)), (8, .int (Int32.ofInt 0)), (0, .long x1.toInt64), (2, .long x2.toInt64), (4, .long x3.toInt64), (6, .long x4.toInt64)]) f_211_56 ?_
        refine w_a f_211_58 ?_
        refine w_a f_211_59 ?_
        refine i_m (fun h => ?_) (fun h => ?_) h
        · refine w_a f_211_63 ?_
          refine w_a f_211_64 ?_
          refine w_a f_211_79 ?_
          refine w_a (ls := [(0, .ref 58), (1, .int x1), (2, .int x2), (3, .int x3), (4, .int x4)]) f_249_49 ?_
          exact h
        · refine w_a f_211_67 ?_
          refine w_a f_211_69 ?_
          refine w_a f_211_70 ?_
          refine i_m (fun h => ?_) (fun h => ?_) h
          · refine w_a f_211_74 ?_
            refine w_a f_211_75 ?_
            refine w_a f_211_79 ?_
            refine w_a (ls := [(0, .ref 58), (1, .int x1), (2, .int x2), (3, .int x3), (4, .int x4)]) f_249_49 ?_
            exact h
          · refine w_a f_211_78 ?_
            refine w_a f_211_79 ?_
            refine w_a (ls := [(0, .ref 58), (1, .int x1), (2, .int x2), (3, .int x3), (4, .int x4)]) f_249_49 ?_
            exact h
set_option maxRecDepth 10000 in
set_option maxHeartbeats 4000000 in
theorem s_250_18 {Lx : Nat} {I : Mi} {L : Ml} {e : Nat} {Q : Kq} {r : Int32} (h :
    (if r = 0 then
     Q (.inl (some (.int (Int32.ofInt 0)))) (gE Lx) (ui I 58 0 (Int32.ofInt 2)) L e
    else
     (if (Int64.ofInt 0) < (L 58 14) then
      (if (L 58 14) = (L 58 16) then
       (if (L 58 15) = (Int64.ofInt 0) then
        Q (.inl (some (.int (Int32.ofInt 0)))) (gE Lx) (ui I 58 0 (Int32.ofInt 0)) L e
       else
        Q (.inl (some (.int (Int32.ofInt 2)))) (gE Lx) (ui I 58 0 (Int32.ofInt 0)) L e)
      else
       Q (.inl (some (.int (Int32.ofInt 2)))) (gE Lx) (ui I 58 0 (Int32.ofInt 0)) L e)
     else
      Q (.inl (some (.int (Int32.ofInt 0)))) (gE Lx) (ui I 58 0 (Int32.ofInt 0)) L e))) :
    Wp 250 18 [(0, .ref 58)] [.int r, .ref 58] (gE Lx) I L e Q := by
  refine w_a f_250_18 ?_
  refine i_m (fun h => ?_) (fun h => ?_) h
  · refine w_a f_250_21 ?_
    refine w_a f_250_22 ?_
    refine w_a f_250_26 ?_
    refine w_a f_250_29 ?_
    refine w_a f_250_30 ?_
    refine w_a f_250_33 ?_
    refine w_a f_250_43 ?_
    refine w_a f_250_44 ?_
    refine w_a f_250_48 ?_
    exact h
  · refine w_a f_250_25 ?_
    refine w_a f_250_26 ?_
    refine w_a f_250_29 ?_
    refine w_a f_250_30 ?_
    refine w_a f_250_33 ?_
    refine w_a f_250_36 ?_
    refine w_a f_250_37 ?_
    refine w_a (ls := [(0, .ref 58)]) f_253_0 ?_
    refine w_a f_253_1 ?_
    refine w_a f_253_4 ?_
    refine w_a f_253_5 ?_
    refine i_m (fun h => ?_) (fun h => ?_) h
    · refine w_a f_253_9 ?_
      refine w_a f_253_10 ?_
      refine w_a (ls := [(0, .ref 58)]) f_254_0 ?_
      refine w_a f_254_1 ?_
      refine w_a f_254_4 ?_
      refine w_a f_254_5 ?_
      refine w_a f_254_8 ?_
      refine i_m (fun h => ?_) (fun h => ?_) h
      · refine w_a f_254_12 ?_
        refine w_a f_254_13 ?_
        refine w_a f_254_16 ?_
        refine w_a f_254_17 ?_
        refine i_m (fun h => ?_) (fun h => ?_) h
        · refine w_a f_254_21 ?_
          refine w_a f_254_22 ?_
          refine w_a f_254_26 ?_
          refine w_a (ls := [(0, .ref 58)]) f_253_13 ?_
          refine w_a f_253_20 ?_
          refine w_a f_253_21 ?_
          refine w_a (ls := [(0, .ref 58)]) f_250_40 ?_
          refine w_a f_250_43 ?_
          refine w_a f_250_44 ?_
          refine w_a f_250_48 ?_
          exact h
        · refine w_a f_254_25 ?_
          refine w_a f_254_26 ?_
          refine w_a (ls := [(0, .ref 58)]) f_253_13 ?_
          refine w_a f_253_16 ?_
          refine w_a f_253_17 ?_
          refine w_a f_253_21 ?_
          refine w_a (ls := [(0, .ref 58)]) f_250_40 ?_
          refine w_a f_250_47 ?_
          refine w_a f_250_48 ?_
          exact h
      · refine w_a f_254_25 ?_
        refine w_a f_254_26 ?_
        refine w_a (ls := [(0, .ref 58)]) f_253_13 ?_
        refine w_a f_253_16 ?_
        refine w_a f_253_17 ?_
        refine w_a f_253_21 ?_
        refine w_a (ls := [(0, .ref 58)]) f_250_40 ?_
        refine w_a f_250_47 ?_
        refine w_a f_250_48 ?_
        exact h
    · refine w_a f_253_20 ?_
      refine w_a f_253_21 ?_
      refine w_a (ls := [(0, .ref 58)]) f_250_40 ?_
      refine w_a f_250_43 ?_
      refine w_a f_250_44 ?_
      refine w_a f_250_48 ?_
      exact h
set_option maxRecDepth 10000 in
set_option maxHeartbeats 4000000 in
theorem s_251_0 {Lx : Nat} {I : Mi} {L : Ml} {e : Nat} {Q : Kq} {x1 : Int32} (h :
    Wp 227 0 [(0, .ref 58), (1, .int x1)] [] (gE Lx) I L e (kcp (Wp 251) 251 2 0 [(0, .ref 58)] 71 [] Q)) :
    Wp 251 0 [(0, .ref 58), (1, .int x1)] [] (gE Lx) I L e Q := by
  refine w_a f_251_0 ?_
  refine w_a f_251_1 ?_
  exact w_c (ks := [0]) f_251_2 rfl rfl h
set_option maxRecDepth 10000 in
set_option maxHeartbeats 4000000 in
theorem s_251_5 {Lx : Nat} {I : Mi} {L : Ml} {e : Nat} {Q : Kq} (h :
    Wp 252 0 [(0, .ref 58)] [] (gE Lx) I L e (kcp (Wp 251) 251 6 0 [(0, .ref 58)] 71 [] Q)) :
    Wp 251 5 [(0, .ref 58)] [] (gE Lx) I L e Q := by
  refine w_a f_251_5 ?_
  exact w_c (ks := [0]) f_251_6 rfl rfl h
set_option maxRecDepth 10000 in
set_option maxHeartbeats 4000000 in
theorem s_251_9 {Lx : Nat} {I : Mi} {L : Ml} {e : Nat} {Q : Kq} {r : Int32} (h :
    (if r = 0 then
     Q (.inl (some (.int (Int32.ofInt 0)))) (gE Lx) I L e
    else if r = 1 then
     Q (.inl (some (.int (Int32.ofInt 1)))) (gE Lx) I L e
    else False)) :
    Wp 251 9 [(0, .ref 58)] [.int r] (gE Lx) I L e Q := by
  refine w_a f_251_9 ?_
  refine i_m (fun h => ?_) (i_m (fun h => ?_) id) h
  · exact h
  · exact h
set_option maxRecDepth 10000 in
set_option maxHeartbeats 4000000 in
theorem s_252_0 {Lx : Nat} {I : Mi} {L : Ml} {e : Nat} {Q : Kq} (h :
    (if (L 58 12) = (Int64.ofInt 0) then
     (if (L 58 13) = (Int64.ofInt 0) then
      Q (.inl (some (.int (Int32.ofInt 0)))) (gE Lx) I L e
     else
      Wp 209 0 [(0, .long (((L 58 10) * (L 58 12)) + ((L 58 11) * (L 58 13)))), (2, .long (((L 58 11) * (L 58 12)) - ((L 58 10) * (L 58 13))))] [] (gE Lx) I L e (kcp (Wp 252) 252 64 0 [(0, .ref 58), (1, .long (((L 58 10) * (L 58 12)) + ((L 58 11) * (L 58 13)))), (3, .long (((L 58 11) * (L 58 12)) - ((L 58 10) * (L 58 13)))), (5, .long (((L 58 12) * (L 58 12)) + ((L 58 13) * (L 58 13))))] 71 [] Q))
    else
     Wp 209 0 [(0, .long (((L 58 10) * (L 58 12)) + ((L 58 11) * (L 58 13)))), (2, .long (((L 58 11) * (L 58 12)) - ((L 58 10) * (L 58 13))))] [] (gE Lx) I L e (kcp (Wp 252) 252 64 0 [(0, .ref 58), (1, .long (((L 58 10) * (L 58 12)) + ((L 58 11) * (L 58 13)))), (3, .long (((L 58 11) * (L 58 12)) - ((L 58 10) * (L 58 13)))), (5, .long (((L 58 12) * (L 58 12)) + ((L 58 13) * (L 58 13))))] 71 [] Q))) :
    Wp 252 0 [(0, .ref 58)] [] (gE Lx) I L e Q := by
  refine w_a f_252_0 ?_
  refine w_a f_252_1 ?_
  refine w_a (ls := [(0, .ref 58)]) f_234_0 ?_
  refine w_a f_234_1 ?_
  refine w_a f_234_4 ?_
  refine w_a f_234_5 ?_
  refine i_m (fun h => ?_) (fun h => ?_) h
  · refine w_a f_234_9 ?_
    refine w_a f_234_10 ?_
    refine w_a f_234_13 ?_
    refine w_a f_234_14 ?_
    refine i_m (fun h => ?_) (fun h => ?_) h
    · refine w_a f_234_18 ?_
      refine w_a f_234_19 ?_
      refine w_a f_234_23 ?_
      refine w_a (ls := [(0, .ref 58)]) f_252_4 ?_
      refine w_a f_252_7 ?_
      refine w_a f_252_8 ?_
      exact h
    · refine w_a f_234_22 ?_
      refine w_a f_234_23 ?_
      refine w_a (ls := [(0, .ref 58)]) f_252_4 ?_
      refine w_a f_252_9 ?_
      refine w_a f_252_10 ?_
      refine w_a f_252_13 ?_
      refine w_a f_252_14 ?_
      refine w_a f_252_17 ?_
      refine w_a f_252_18 ?_
      refine w_a f_252_19 ?_
      refine w_a f_252_22 ?_
      refine w_a f_252_23 ?_
      refine w_a f_252_26 ?_
      refine w_a f_252_27 ?_
      refine w_a f_252_28 ?_
      refine w_a (ls := [(1, .long (((L 58 10) * (L 58 12)) + ((L 58 11) * (L 58 13)))), (0, .ref 58)]) f_252_29 ?_
      refine w_a f_252_30 ?_
      refine w_a f_252_33 ?_
      refine w_a f_252_34 ?_
      refine w_a f_252_37 ?_
      refine w_a f_252_38 ?_
      refine w_a f_252_39 ?_
      refine w_a f_252_42 ?_
      refine w_a f_252_43 ?_
      refine w_a f_252_46 ?_
      refine w_a f_252_47 ?_
      refine w_a f_252_48 ?_
      refine w_a (ls := [(3, .long (((L 58 11) * (L 58 12)) - ((L 58 10) * (L 58 13)))), (1, .long (((L 58 10) * (L 58 12)) + ((L 58 11) * (L 58 13)))), (0, .ref 58)]) f_252_49 ?_
      refine w_a f_252_50 ?_
      refine w_a f_252_53 ?_
      refine w_a f_252_54 ?_
      refine w_a f_252_57 ?_
      refine w_a (ls := [(0, .long (L 58 12)), (2, .long (L 58 13))]) f_235_0 ?_
      refine w_a f_235_1 ?_
      refine w_a f_235_2 ?_
      refine w_a f_235_3 ?_
      refine w_a f_235_4 ?_
      refine w_a f_235_5 ?_
      refine w_a f_235_6 ?_
      refine w_a f_235_7 ?_
      refine w_a (ls := [(3, .long (((L 58 11) * (L 58 12)) - ((L 58 10) * (L 58 13)))), (1, .long (((L 58 10) * (L 58 12)) + ((L 58 11) * (L 58 13)))), (0, .ref 58)]) f_252_60 ?_
      refine w_a (ls := [(5, .long (((L 58 12) * (L 58 12)) + ((L 58 13) * (L 58 13)))), (3, .long (((L 58 11) * (L 58 12)) - ((L 58 10) * (L 58 13)))), (1, .long (((L 58 10) * (L 58 12)) + ((L 58 11) * (L 58 13)))), (0, .ref 58)]) f_252_62 ?_
      refine w_a f_252_63 ?_
      exact w_c (ks := [0, 1, 3, 5]) f_252_64 rfl rfl h
  · refine w_a f_234_22 ?_
    refine w_a f_234_23 ?_
    refine w_a (ls := [(0, .ref 58)]) f_252_4 ?_
    refine w_a f_252_9 ?_
    refine w_a f_252_10 ?_
    refine w_a f_252_13 ?_
    refine w_a f_252_14 ?_
    refine w_a f_252_17 ?_
    refine w_a f_252_18 ?_
    refine w_a f_252_19 ?_
    refine w_a f_252_22 ?_
    refine w_a f_252_23 ?_
    refine w_a f_252_26 ?_
    refine w_a f_252_27 ?_
    refine w_a f_252_28 ?_
    refine w_a (ls := [(1, .long (((L 58 10) * (L 58 12)) + ((L 58 11) * (L 58 13)))), (0, .ref 58)]) f_252_29 ?_
    refine w_a f_252_30 ?_
    refine w_a f_252_33 ?_
    refine w_a f_252_34 ?_
    refine w_a f_252_37 ?_
    refine w_a f_252_38 ?_
    refine w_a f_252_39 ?_
    refine w_a f_252_42 ?_
    refine w_a f_252_43 ?_
    refine w_a f_252_46 ?_
    refine w_a f_252_47 ?_
    refine w_a f_252_48 ?_
    refine w_a (ls := [(3, .long (((L 58 11) * (L 58 12)) - ((L 58 10) * (L 58 13)))), (1, .long (((L 58 10) * (L 58 12)) + ((L 58 11) * (L 58 13)))), (0, .ref 58)]) f_252_49 ?_
    refine w_a f_252_50 ?_
    refine w_a f_252_53 ?_
    refine w_a f_252_54 ?_
    refine w_a f_252_57 ?_
    refine w_a (ls := [(0, .long (L 58 12)), (2, .long (L 58 13))]) f_235_0 ?_
    refine w_a f_235_1 ?_
    refine w_a f_235_2 ?_
    refine w_a f_235_3 ?_
    refine w_a f_235_4 ?_
    refine w_a f_235_5 ?_
    refine w_a f_235_6 ?_
    refine w_a f_235_7 ?_
    refine w_a (ls := [(3, .long (((L 58 11) * (L 58 12)) - ((L 58 10) * (L 58 13)))), (1, .long (((L 58 10) * (L 58 12)) + ((L 58 11) * (L 58 13)))), (0, .ref 58)]) f_252_60 ?_
    refine w_a (ls := [(5, .long (((L 58 12) * (L 58 12)) + ((L 58 13) * (L 58 13)))), (3, .long (((L 58 11) * (L 58 12)) - ((L 58 10) * (L 58 13)))), (1, .long (((L 58 10) * (L 58 12)) + ((L 58 11) * (L 58 13)))), (0, .ref 58)]) f_252_62 ?_
    refine w_a f_252_63 ?_
    exact w_c (ks := [0, 1, 3, 5]) f_252_64 rfl rfl h
set_option maxRecDepth 10000 in
set_option maxHeartbeats 4000000 in
theorem s_252_67 {Lx : Nat} {I : Mi} {L : Ml} {e : Nat} {Q : Kq} {y1 : Int64} {y3 : Int64} {y5 : Int64} {rl : Int64} (h :
    Wp 209 0 [(0, .long rl), (2, .long y5)] [] (gE Lx) I L e (kcp (Wp 252) 252 69 0 [(0, .ref 58), (1, .long y1), (3, .long y3), (5, .long y5)] 71 [] Q)) :
    Wp 252 67 [(0, .ref 58), (1, .long y1), (3, .long y3), (5, .long y5)] [.long rl] (gE Lx) I L e Q := by
  refine w_a f_252_67 ?_
  exact w_c (ks := [0, 1, 3, 5]) f_252_69 rfl rfl h
set_option maxRecDepth 10000 in
set_option maxHeartbeats 4000000 in
theorem s_252_72 {Lx : Nat} {I : Mi} {L : Ml} {e : Nat} {Q : Kq} {y1 : Int64} {y3 : Int64} {y5 : Int64} {rl : Int64} (h :
    (if rl = 0 then False else
     (if rl = 0 then False else
      (if rl = 0 then False else
       (if (Int64.ofInt 1000) < (y1 / rl) then
        Q (.inl (some (.int (Int32.ofInt 0)))) (gE Lx) I (ul (ul (ul L 58 14 (y1 / rl)) 58 15 (y3 / rl)) 58 16 (y5 / rl)) e
       else
        Wp 210 0 [(0, .long (y3 / rl))] [] (gE Lx) I (ul (ul (ul L 58 14 (y1 / rl)) 58 15 (y3 / rl)) 58 16 (y5 / rl)) e (kcp (Wp 252) 252 114 0 [(0, .ref 58)] 71 [] Q)))))) :
    Wp 252 72 [(0, .ref 58), (1, .long y1), (3, .long y3), (5, .long y5)] [.long rl] (gE Lx) I L e Q := by
  refine w_a f_252_72 ?_
  refine w_a (ls := [(7, .long rl), (0, .ref 58), (1, .long y1), (3, .long y3), (5, .long y5)]) f_252_74 ?_
  refine w_a f_252_75 ?_
  refine w_a f_252_76 ?_
  refine w_a f_252_78 ?_
  refine i_m id (fun h => ?_) h
  refine w_a f_252_79 ?_
  refine w_a f_252_82 ?_
  refine w_a f_252_83 ?_
  refine w_a f_252_84 ?_
  refine w_a f_252_86 ?_
  refine i_m id (fun h => ?_) h
  refine w_a f_252_87 ?_
  refine w_a f_252_90 ?_
  refine w_a f_252_91 ?_
  refine w_a f_252_93 ?_
  refine w_a f_252_95 ?_
  refine i_m id (fun h => ?_) h
  refine w_a f_252_96 ?_
  refine w_a f_252_99 ?_
  refine w_a f_252_100 ?_
  refine w_a f_252_103 ?_
  refine w_a f_252_106 ?_
  refine i_m (fun h => ?_) (fun h => ?_) h
  · refine w_a f_252_139 ?_
    refine w_a f_252_140 ?_
    exact h
  · refine w_a f_252_110 ?_
    refine w_a f_252_111 ?_
    exact w_c (ks := [0]) f_252_114 rfl rfl h
set_option maxRecDepth 10000 in
set_option maxHeartbeats 4000000 in
theorem s_252_117 {Lx : Nat} {I : Mi} {L : Ml} {e : Nat} {Q : Kq} {rl : Int64} (h :
    (if (Int64.ofInt 1000) < rl then
     Q (.inl (some (.int (Int32.ofInt 0)))) (gE Lx) I L e
    else
     (if (Int64.ofInt 1000) < (L 58 16) then
      Q (.inl (some (.int (Int32.ofInt 0)))) (gE Lx) I L e
     else
      Q (.inl (some (.int (Int32.ofInt 1)))) (gE Lx) I L e))) :
    Wp 252 117 [(0, .ref 58)] [.long rl] (gE Lx) I L e Q := by
  refine w_a f_252_117 ?_
  refine w_a f_252_120 ?_
  refine i_m (fun h => ?_) (fun h => ?_) h
  · refine w_a f_252_139 ?_
    refine w_a f_252_140 ?_
    exact h
  · refine w_a f_252_124 ?_
    refine w_a f_252_125 ?_
    refine w_a f_252_128 ?_
    refine w_a f_252_131 ?_
    refine i_m (fun h => ?_) (fun h => ?_) h
    · refine w_a f_252_139 ?_
      refine w_a f_252_140 ?_
      exact h
    · refine w_a f_252_135 ?_
      refine w_a f_252_136 ?_
      refine w_a f_252_140 ?_
      exact h
set_option maxRecDepth 10000 in
set_option maxHeartbeats 4000000 in
theorem s_255_8 {Lx : Nat} {I : Mi} {L : Ml} {e : Nat} {Q : Kq} {r : Int32} (h :
    (if r = 0 then
     Wp 243 0 [(0, .long (L 58 18))] [] (gE Lx) (ui I 58 0 r) L e (kcp (Wp 242) 242 1 0 [(0, .long (L 58 18))] 71 [] (kcp (Wp 255) 255 22 0 [(0, .ref 58)] 71 [] Q))
    else
     Q (.inl (some (.int (Int32.ofInt 0)))) (gE Lx) (ui I 58 0 r) L e)) :
    Wp 255 8 [(0, .ref 58)] [.int r, .ref 58] (gE Lx) I L e Q := by
  refine w_a f_255_8 ?_
  refine w_a f_255_11 ?_
  refine w_a f_255_12 ?_
  refine w_a f_255_15 ?_
  refine i_m (fun h => ?_) (fun h => ?_) h
  · refine w_a f_255_18 ?_
    refine w_a f_255_19 ?_
    refine w_c (ks := [0]) f_255_22 rfl rfl ?_
    refine w_a (ls := [(0, .long (L 58 18))]) f_242_0 ?_
    exact w_c (ks := [0]) f_242_1 rfl rfl h
  · refine w_a f_255_32 ?_
    refine w_a f_255_33 ?_
    exact h
set_option maxRecDepth 10000 in
set_option maxHeartbeats 4000000 in
theorem s_255_25 {Lx : Nat} {I : Mi} {L : Ml} {e : Nat} {Q : Kq} {r : Int32} (h :
    (if r = 0 then
     Q (.inl (some (.int (Int32.ofInt 0)))) (gE Lx) I L e
    else
     Q (.inl (some (.int (Int32.ofInt 1)))) (gE Lx) I L e)) :
    Wp 255 25 [(0, .ref 58)] [.int r] (gE Lx) I L e Q := by
  refine w_a f_255_25 ?_
  refine i_m (fun h => ?_) (fun h => ?_) h
  · refine w_a f_255_32 ?_
    refine w_a f_255_33 ?_
    exact h
  · refine w_a f_255_28 ?_
    refine w_a f_255_29 ?_
    refine w_a f_255_33 ?_
    exact h
set_option maxRecDepth 10000 in
set_option maxHeartbeats 4000000 in
theorem s_256_0 {Lx : Nat} {I : Mi} {L : Ml} {e : Nat} {Q : Kq} {x1 : Int32} {x2 : Int32} {x3 : Int32} (h :
    (if x1 < (Int32.ofInt 0) then
     Q (.inl (some (.int (Int32.ofInt 1)))) (gE Lx) I L e
    else
     (if (I 59 3) < x1 then
      Q (.inl (some (.int (Int32.ofInt 1)))) (gE Lx) I L e
     else
      Wp 251 0 [(0, .ref 58), (1, .int x1)] [] (gE Lx) I L e (kcp (Wp 256) 256 12 0 [(0, .ref 58), (2, .int x2), (3, .int x3)] 71 [] Q)))) :
    Wp 256 0 [(0, .ref 58), (1, .int x1), (2, .int x2), (3, .int x3)] [] (gE Lx) I L e Q := by
  refine w_a f_256_0 ?_
  refine w_a f_256_1 ?_
  refine w_a f_256_2 ?_
  refine w_a (ls := [(0, .ref 58), (1, .int x1)]) f_226_0 ?_
  refine w_a f_226_1 ?_
  refine w_a f_226_2 ?_
  refine w_a f_226_3 ?_
  refine w_a (ls := [(0, .ref 58)]) f_215_0 ?_
  refine w_a f_215_1 ?_
  refine w_a f_215_4 ?_
  refine w_a f_215_5 ?_
  refine w_a f_215_6 ?_
  refine w_a (ls := [(0, .ref 58), (1, .int x1)]) f_226_6 ?_
  refine w_a (ls := [(0, .int x1), (1, .int (Int32.ofInt 0)), (2, .int (I 59 3))]) f_208_0 ?_
  refine w_a f_208_1 ?_
  refine w_a f_208_2 ?_
  refine i_m (fun h => ?_) (fun h => ?_) h
  · refine w_a f_208_14 ?_
    refine w_a f_208_15 ?_
    refine w_a (ls := [(0, .ref 58), (1, .int x1)]) f_226_9 ?_
    refine w_a (ls := [(0, .ref 58), (1, .int x1), (2, .int x2), (3, .int x3)]) f_256_5 ?_
    refine w_a f_256_8 ?_
    refine w_a f_256_9 ?_
    exact h
  · refine w_a f_208_5 ?_
    refine w_a f_208_6 ?_
    refine w_a f_208_7 ?_
    refine i_m (fun h => ?_) (fun h => ?_) h
    · refine w_a f_208_14 ?_
      refine w_a f_208_15 ?_
      refine w_a (ls := [(0, .ref 58), (1, .int x1)]) f_226_9 ?_
      refine w_a (ls := [(0, .ref 58), (1, .int x1), (2, .int x2), (3, .int x3)]) f_256_5 ?_
      refine w_a f_256_8 ?_
      refine w_a f_256_9 ?_
      exact h
    · refine w_a f_208_10 ?_
      refine w_a f_208_11 ?_
      refine w_a f_208_15 ?_
      refine w_a (ls := [(0, .ref 58), (1, .int x1)]) f_226_9 ?_
      refine w_a (ls := [(0, .ref 58), (1, .int x1), (2, .int x2), (3, .int x3)]) f_256_5 ?_
      refine w_a f_256_10 ?_
      refine w_a f_256_11 ?_
      exact w_c (ks := [0, 2, 3]) f_256_12 rfl rfl h
set_option maxRecDepth 10000 in
set_option maxHeartbeats 4000000 in
theorem s_256_15 {Lx : Nat} {I : Mi} {L : Ml} {e : Nat} {Q : Kq} {x2 : Int32} {x3 : Int32} {r : Int32} (h :
    (if r = 0 then
     Q (.inl (some (.int (Int32.ofInt 2)))) (gE Lx) I L e
    else
     (if (Int64.ofInt 0) < (L 58 14) then
      (if (L 58 14) = (L 58 16) then
       (if (L 58 15) = (Int64.ofInt 0) then
        Q (.inl (some (.int (Int32.ofInt 2)))) (gE Lx) I L e
       else
        (if x3 < (Int32.ofInt 0) then
         Q (.inl (some (.int (Int32.ofInt 2)))) (gE Lx) I L e
        else
         (if (Int32.ofInt 1) < x3 then
          Q (.inl (some (.int (Int32.ofInt 2)))) (gE Lx) I L e
         else
          (if x2 = 0 then
           (if x2 = 0 then
            (if x2 = 0 then
             Q (.inl (some (.int (Int32.ofInt 0)))) (gE Lx) I (ul (ul (ul (ul L 58 19 ((L 58 16) * ((L 58 16) - (L 58 14)))) 58 20 ((((L 58 14) * (L 58 14)) + ((L 58 15) * (L 58 15))) - ((L 58 14) * (L 58 16)))) 58 17 ((-(L 58 15)) * (L 58 16))) 58 18 (((L 58 14) * (L 58 16)) * ((((L 58 14) - (L 58 16)) * ((L 58 14) - (L 58 16))) + ((L 58 15) * (L 58 15))))) e
            else
             Q (.inl (some (.int (Int32.ofInt 0)))) (gE Lx) I (ul (ul (ul (ul L 58 19 ((L 58 16) * ((L 58 16) - (L 58 14)))) 58 20 ((((L 58 14) * (L 58 14)) + ((L 58 15) * (L 58 15))) - ((L 58 14) * (L 58 16)))) 58 17 ((L 58 15) * (L 58 16))) 58 18 (((L 58 14) * (L 58 16)) * ((((L 58 14) - (L 58 16)) * ((L 58 14) - (L 58 16))) + ((L 58 15) * (L 58 15))))) e)
           else
            (if x2 = 0 then
             Q (.inl (some (.int (Int32.ofInt 0)))) (gE Lx) I (ul (ul (ul (ul L 58 19 ((L 58 16) * ((L 58 16) - (L 58 14)))) 58 20 ((L 58 16) * ((L 58 16) - (L 58 14)))) 58 17 ((-(L 58 15)) * (L 58 16))) 58 18 (((L 58 14) * (L 58 16)) * ((((L 58 14) - (L 58 16)) * ((L 58 14) - (L 58 16))) + ((L 58 15) * (L 58 15))))) e
            else
             Q (.inl (some (.int (Int32.ofInt 0)))) (gE Lx) I (ul (ul (ul (ul L 58 19 ((L 58 16) * ((L 58 16) - (L 58 14)))) 58 20 ((L 58 16) * ((L 58 16) - (L 58 14)))) 58 17 ((L 58 15) * (L 58 16))) 58 18 (((L 58 14) * (L 58 16)) * ((((L 58 14) - (L 58 16)) * ((L 58 14) - (L 58 16))) + ((L 58 15) * (L 58 15))))) e))
          else
           (if x2 = 0 then
            (if x2 = 0 then
             Q (.inl (some (.int (Int32.ofInt 0)))) (gE Lx) I (ul (ul (ul (ul L 58 19 ((((L 58 14) * (L 58 14)) + ((L 58 15) * (L 58 15))) - ((L 58 14) * (L 58 16)))) 58 20 ((((L 58 14) * (L 58 14)) + ((L 58 15) * (L 58 15))) - ((L 58 14) * (L 58 16)))) 58 17 ((-(L 58 15)) * (L 58 16))) 58 18 (((L 58 14) * (L 58 16)) * ((((L 58 14) - (L 58 16)) * ((L 58 14) - (L 58 16))) + ((L 58 15) * (L 58 15))))) e
            else
             Q (.inl (some (.int (Int32.ofInt 0)))) (gE Lx) I (ul (ul (ul (ul L 58 19 ((((L 58 14) * (L 58 14)) + ((L 58 15) * (L 58 15))) - ((L 58 14) * (L 58 16)))) 58 20 ((((L 58 14) * (L 58 14)) + ((L 58 15) * (L 58 15))) - ((L 58 14) * (L 58 16)))) 58 17 ((L 58 15) * (L 58 16))) 58 18 (((L 58 14) * (L 58 16)) * ((((L 58 14) - (L 58 16)) * ((L 58 14) - (L 58 16))) + ((L 58 15) * (L 58 15))))) e)
           else
            (if x2 = 0 then
             Q (.inl (some (.int (Int32.ofInt 0)))) (gE Lx) I (ul (ul (ul (ul L 58 19 ((((L 58 14) * (L 58 14)) + ((L 58 15) * (L 58 15))) - ((L 58 14) * (L 58 16)))) 58 20 ((L 58 16) * ((L 58 16) - (L 58 14)))) 58 17 ((-(L 58 15)) * (L 58 16))) 58 18 (((L 58 14) * (L 58 16)) * ((((L 58 14) - (L 58 16)) * ((L 58 14) - (L 58 16))) + ((L 58 15) * (L 58 15))))) e
            else
             Q (.inl (some (.int (Int32.ofInt 0)))) (gE Lx) I (ul (ul (ul (ul L 58 19 ((((L 58 14) * (L 58 14)) + ((L 58 15) * (L 58 15))) - ((L 58 14) * (L 58 16)))) 58 20 ((L 58 16) * ((L 58 16) - (L 58 14)))) 58 17 ((L 58 15) * (L 58 16))) 58 18 (((L 58 14) * (L 58 16)) * ((((L 58 14) - (L 58 16)) * ((L 58 14) - (L 58 16))) + ((L 58 15) * (L 58 15))))) e))))))
      else
       (if x3 < (Int32.ofInt 0) then
        Q (.inl (some (.int (Int32.ofInt 2)))) (gE Lx) I L e
       else
        (if (Int32.ofInt 1) < x3 then
         Q (.inl (some (.int (Int32.ofInt 2)))) (gE Lx) I L e
        else
         (if x2 = 0 then
          (if x2 = 0 then
           (if x2 = 0 then
            Q (.inl (some (.int (Int32.ofInt 0)))) (gE Lx) I (ul (ul (ul (ul L 58 19 ((L 58 16) * ((L 58 16) - (L 58 14)))) 58 20 ((((L 58 14) * (L 58 14)) + ((L 58 15) * (L 58 15))) - ((L 58 14) * (L 58 16)))) 58 17 ((-(L 58 15)) * (L 58 16))) 58 18 (((L 58 14) * (L 58 16)) * ((((L 58 14) - (L 58 16)) * ((L 58 14) - (L 58 16))) + ((L 58 15) * (L 58 15))))) e
           else
            Q (.inl (some (.int (Int32.ofInt 0)))) (gE Lx) I (ul (ul (ul (ul L 58 19 ((L 58 16) * ((L 58 16) - (L 58 14)))) 58 20 ((((L 58 14) * (L 58 14)) + ((L 58 15) * (L 58 15))) - ((L 58 14) * (L 58 16)))) 58 17 ((L 58 15) * (L 58 16))) 58 18 (((L 58 14) * (L 58 16)) * ((((L 58 14) - (L 58 16)) * ((L 58 14) - (L 58 16))) + ((L 58 15) * (L 58 15))))) e)
          else
           (if x2 = 0 then
            Q (.inl (some (.int (Int32.ofInt 0)))) (gE Lx) I (ul (ul (ul (ul L 58 19 ((L 58 16) * ((L 58 16) - (L 58 14)))) 58 20 ((L 58 16) * ((L 58 16) - (L 58 14)))) 58 17 ((-(L 58 15)) * (L 58 16))) 58 18 (((L 58 14) * (L 58 16)) * ((((L 58 14) - (L 58 16)) * ((L 58 14) - (L 58 16))) + ((L 58 15) * (L 58 15))))) e
           else
            Q (.inl (some (.int (Int32.ofInt 0)))) (gE Lx) I (ul (ul (ul (ul L 58 19 ((L 58 16) * ((L 58 16) - (L 58 14)))) 58 20 ((L 58 16) * ((L 58 16) - (L 58 14)))) 58 17 ((L 58 15) * (L 58 16))) 58 18 (((L 58 14) * (L 58 16)) * ((((L 58 14) - (L 58 16)) * ((L 58 14) - (L 58 16))) + ((L 58 15) * (L 58 15))))) e))
         else
          (if x2 = 0 then
           (if x2 = 0 then
            Q (.inl (some (.int (Int32.ofInt 0)))) (gE Lx) I (ul (ul (ul (ul L 58 19 ((((L 58 14) * (L 58 14)) + ((L 58 15) * (L 58 15))) - ((L 58 14) * (L 58 16)))) 58 20 ((((L 58 14) * (L 58 14)) + ((L 58 15) * (L 58 15))) - ((L 58 14) * (L 58 16)))) 58 17 ((-(L 58 15)) * (L 58 16))) 58 18 (((L 58 14) * (L 58 16)) * ((((L 58 14) - (L 58 16)) * ((L 58 14) - (L 58 16))) + ((L 58 15) * (L 58 15))))) e
           else
            Q (.inl (some (.int (Int32.ofInt 0)))) (gE Lx) I (ul (ul (ul (ul L 58 19 ((((L 58 14) * (L 58 14)) + ((L 58 15) * (L 58 15))) - ((L 58 14) * (L 58 16)))) 58 20 ((((L 58 14) * (L 58 14)) + ((L 58 15) * (L 58 15))) - ((L 58 14) * (L 58 16)))) 58 17 ((L 58 15) * (L 58 16))) 58 18 (((L 58 14) * (L 58 16)) * ((((L 58 14) - (L 58 16)) * ((L 58 14) - (L 58 16))) + ((L 58 15) * (L 58 15))))) e)
          else
           (if x2 = 0 then
            Q (.inl (some (.int (Int32.ofInt 0)))) (gE Lx) I (ul (ul (ul (ul L 58 19 ((((L 58 14) * (L 58 14)) + ((L 58 15) * (L 58 15))) - ((L 58 14) * (L 58 16)))) 58 20 ((L 58 16) * ((L 58 16) - (L 58 14)))) 58 17 ((-(L 58 15)) * (L 58 16))) 58 18 (((L 58 14) * (L 58 16)) * ((((L 58 14) - (L 58 16)) * ((L 58 14) - (L 58 16))) + ((L 58 15) * (L 58 15))))) e
           else
            Q (.inl (some (.int (Int32.ofInt 0)))) (gE Lx) I (ul (ul (ul (ul L 58 19 ((((L 58 14) * (L 58 14)) + ((L 58 15) * (L 58 15))) - ((L 58 14) * (L 58 16)))) 58 20 ((L 58 16) * ((L 58 16) - (L 58 14)))) 58 17 ((L 58 15) * (L 58 16))) 58 18 (((L 58 14) * (L 58 16)) * ((((L 58 14) - (L 58 16)) * ((L 58 14) - (L 58 16))) + ((L 58 15) * (L 58 15))))) e))))))
     else
      Q (.inl (some (.int (Int32.ofInt 2)))) (gE Lx) I L e))) :
    Wp 256 15 [(0, .ref 58), (2, .int x2), (3, .int x3)] [.int r] (gE Lx) I L e Q := by
  refine w_a f_256_15 ?_
  refine i_m (fun h => ?_) (fun h => ?_) h
  · refine w_a f_256_34 ?_
    refine w_a f_256_35 ?_
    exact h
  · refine w_a f_256_18 ?_
    refine w_a f_256_19 ?_
    refine w_a (ls := [(0, .ref 58)]) f_253_0 ?_
    refine w_a f_253_1 ?_
    refine w_a f_253_4 ?_
    refine w_a f_253_5 ?_
    refine i_m (fun h => ?_) (fun h => ?_) h
    · refine w_a f_253_9 ?_
      refine w_a f_253_10 ?_
      refine w_a (ls := [(0, .ref 58)]) f_254_0 ?_
      refine w_a f_254_1 ?_
      refine w_a f_254_4 ?_
      refine w_a f_254_5 ?_
      refine w_a f_254_8 ?_
      refine i_m (fun h => ?_) (fun h => ?_) h
      · refine w_a f_254_12 ?_
        refine w_a f_254_13 ?_
        refine w_a f_254_16 ?_
        refine w_a f_254_17 ?_
        refine i_m (fun h => ?_) (fun h => ?_) h
        · refine w_a f_254_21 ?_
          refine w_a f_254_22 ?_
          refine w_a f_254_26 ?_
          refine w_a (ls := [(0, .ref 58)]) f_253_13 ?_
          refine w_a f_253_20 ?_
          refine w_a f_253_21 ?_
          refine w_a (ls := [(0, .ref 58), (2, .int x2), (3, .int x3)]) f_256_22 ?_
          refine w_a f_256_34 ?_
          refine w_a f_256_35 ?_
          exact h
        · refine w_a f_254_25 ?_
          refine w_a f_254_26 ?_
          refine w_a (ls := [(0, .ref 58)]) f_253_13 ?_
          refine w_a f_253_16 ?_
          refine w_a f_253_17 ?_
          refine w_a f_253_21 ?_
          refine w_a (ls := [(0, .ref 58), (2, .int x2), (3, .int x3)]) f_256_22 ?_
          refine w_a f_256_25 ?_
          refine w_a f_256_26 ?_
          refine w_a f_256_27 ?_
          refine w_a f_256_28 ?_
          refine w_a (ls := [(0, .int x3), (1, .int (Int32.ofInt 0)), (2, .int (Int32.ofInt 1))]) f_208_0 ?_
          refine w_a f_208_1 ?_
          refine w_a f_208_2 ?_
          refine i_m (fun h => ?_) (fun h => ?_) h
          · refine w_a f_208_14 ?_
            refine w_a f_208_15 ?_
            refine w_a (ls := [(0, .ref 58), (2, .int x2), (3, .int x3)]) f_256_31 ?_
            refine w_a f_256_34 ?_
            refine w_a f_256_35 ?_
            exact h
          · refine w_a f_208_5 ?_
            refine w_a f_208_6 ?_
            refine w_a f_208_7 ?_
            refine i_m (fun h => ?_) (fun h => ?_) h
            · refine w_a f_208_14 ?_
              refine w_a f_208_15 ?_
              refine w_a (ls := [(0, .ref 58), (2, .int x2), (3, .int x3)]) f_256_31 ?_
              refine w_a f_256_34 ?_
              refine w_a f_256_35 ?_
              exact h
            · refine w_a f_208_10 ?_
              refine w_a f_208_11 ?_
              refine w_a f_208_15 ?_
              refine w_a (ls := [(0, .ref 58), (2, .int x2), (3, .int x3)]) f_256_31 ?_
              refine w_a f_256_36 ?_
              refine w_a f_256_37 ?_
              refine w_a f_256_38 ?_
              refine w_a (ls := [(0, .ref 58), (1, .int x2)]) f_257_0 ?_
              refine w_a f_257_1 ?_
              refine w_a f_257_4 ?_
              refine w_a f_257_5 ?_
              refine w_a f_257_8 ?_
              refine w_a (ls := [(0, .long (L 58 14)), (2, .long (L 58 15))]) f_235_0 ?_
              refine w_a f_235_1 ?_
              refine w_a f_235_2 ?_
              refine w_a f_235_3 ?_
              refine w_a f_235_4 ?_
              refine w_a f_235_5 ?_
              refine w_a f_235_6 ?_
              refine w_a f_235_7 ?_
              refine w_a (ls := [(0, .ref 58), (1, .int x2)]) f_257_11 ?_
              refine w_a f_257_12 ?_
              refine w_a f_257_15 ?_
              refine w_a f_257_16 ?_
              refine w_a f_257_19 ?_
              refine w_a f_257_20 ?_
              refine w_a f_257_21 ?_
              refine w_a (ls := [(2, .long ((((L 58 14) * (L 58 14)) + ((L 58 15) * (L 58 15))) - ((L 58 14) * (L 58 16)))), (0, .ref 58), (1, .int x2)]) f_257_22 ?_
              refine w_a f_257_23 ?_
              refine w_a f_257_26 ?_
              refine w_a f_257_27 ?_
              refine w_a f_257_30 ?_
              refine w_a f_257_31 ?_
              refine w_a f_257_34 ?_
              refine w_a f_257_35 ?_
              refine w_a f_257_36 ?_
              refine w_a (ls := [(4, .long ((L 58 16) * ((L 58 16) - (L 58 14)))), (2, .long ((((L 58 14) * (L 58 14)) + ((L 58 15) * (L 58 15))) - ((L 58 14) * (L 58 16)))), (0, .ref 58), (1, .int x2)]) f_257_38 ?_
              refine w_a f_257_39 ?_
              refine w_a f_257_40 ?_
              refine i_m (fun h => ?_) (fun h => ?_) h
              · refine w_a f_257_47 ?_
                refine w_a f_257_49 ?_
                refine w_a f_257_52 ?_
                refine w_a f_257_53 ?_
                refine w_a f_257_54 ?_
                refine i_m (fun h => ?_) (fun h => ?_) h
                · refine w_a f_257_62 ?_
                  refine w_a f_257_63 ?_
                  refine w_a f_257_66 ?_
                  refine w_a f_257_67 ?_
                  refine w_a f_257_68 ?_
                  refine i_m (fun h => ?_) (fun h => ?_) h
                  · refine w_a f_257_83 ?_
                    refine w_a f_257_84 ?_
                    refine w_a f_257_87 ?_
                    refine w_a f_257_88 ?_
                    refine w_a f_257_89 ?_
                    refine w_a f_257_92 ?_
                    refine w_a f_257_93 ?_
                    refine w_a f_257_96 ?_
                    refine w_a f_257_97 ?_
                    refine w_a f_257_98 ?_
                    refine w_a f_257_101 ?_
                    refine w_a f_257_102 ?_
                    refine w_a f_257_105 ?_
                    refine w_a f_257_106 ?_
                    refine w_a f_257_107 ?_
                    refine w_a f_257_110 ?_
                    refine w_a f_257_111 ?_
                    refine w_a f_257_114 ?_
                    refine w_a f_257_115 ?_
                    refine w_a f_257_116 ?_
                    refine w_a f_257_119 ?_
                    refine w_a (ls := [(0, .long ((L 58 14) - (L 58 16))), (2, .long (L 58 15))]) f_235_0 ?_
                    refine w_a f_235_1 ?_
                    refine w_a f_235_2 ?_
                    refine w_a f_235_3 ?_
                    refine w_a f_235_4 ?_
                    refine w_a f_235_5 ?_
                    refine w_a f_235_6 ?_
                    refine w_a f_235_7 ?_
                    refine w_a (ls := [(4, .long ((L 58 16) * ((L 58 16) - (L 58 14)))), (2, .long ((((L 58 14) * (L 58 14)) + ((L 58 15) * (L 58 15))) - ((L 58 14) * (L 58 16)))), (0, .ref 58), (1, .int x2)]) f_257_122 ?_
                    refine w_a f_257_123 ?_
                    refine w_a f_257_126 ?_
                    refine w_a (ls := [(0, .ref 58), (2, .int x2), (3, .int x3)]) f_256_41 ?_
                    refine w_a f_256_42 ?_
                    exact h
                  · refine w_a f_257_71 ?_
                    refine w_a f_257_72 ?_
                    refine w_a f_257_75 ?_
                    refine w_a f_257_76 ?_
                    refine w_a f_257_79 ?_
                    refine w_a f_257_80 ?_
                    refine w_a f_257_93 ?_
                    refine w_a f_257_96 ?_
                    refine w_a f_257_97 ?_
                    refine w_a f_257_98 ?_
                    refine w_a f_257_101 ?_
                    refine w_a f_257_102 ?_
                    refine w_a f_257_105 ?_
                    refine w_a f_257_106 ?_
                    refine w_a f_257_107 ?_
                    refine w_a f_257_110 ?_
                    refine w_a f_257_111 ?_
                    refine w_a f_257_114 ?_
                    refine w_a f_257_115 ?_
                    refine w_a f_257_116 ?_
                    refine w_a f_257_119 ?_
                    refine w_a (ls := [(0, .long ((L 58 14) - (L 58 16))), (2, .long (L 58 15))]) f_235_0 ?_
                    refine w_a f_235_1 ?_
                    refine w_a f_235_2 ?_
                    refine w_a f_235_3 ?_
                    refine w_a f_235_4 ?_
                    refine w_a f_235_5 ?_
                    refine w_a f_235_6 ?_
                    refine w_a f_235_7 ?_
                    refine w_a (ls := [(4, .long ((L 58 16) * ((L 58 16) - (L 58 14)))), (2, .long ((((L 58 14) * (L 58 14)) + ((L 58 15) * (L 58 15))) - ((L 58 14) * (L 58 16)))), (0, .ref 58), (1, .int x2)]) f_257_122 ?_
                    refine w_a f_257_123 ?_
                    refine w_a f_257_126 ?_
                    refine w_a (ls := [(0, .ref 58), (2, .int x2), (3, .int x3)]) f_256_41 ?_
                    refine w_a f_256_42 ?_
                    exact h
                · refine w_a f_257_57 ?_
                  refine w_a f_257_59 ?_
                  refine w_a f_257_63 ?_
                  refine w_a f_257_66 ?_
                  refine w_a f_257_67 ?_
                  refine w_a f_257_68 ?_
                  refine i_m (fun h => ?_) (fun h => ?_) h
                  · refine w_a f_257_83 ?_
                    refine w_a f_257_84 ?_
                    refine w_a f_257_87 ?_
                    refine w_a f_257_88 ?_
                    refine w_a f_257_89 ?_
                    refine w_a f_257_92 ?_
                    refine w_a f_257_93 ?_
                    refine w_a f_257_96 ?_
                    refine w_a f_257_97 ?_
                    refine w_a f_257_98 ?_
                    refine w_a f_257_101 ?_
                    refine w_a f_257_102 ?_
                    refine w_a f_257_105 ?_
                    refine w_a f_257_106 ?_
                    refine w_a f_257_107 ?_
                    refine w_a f_257_110 ?_
                    refine w_a f_257_111 ?_
                    refine w_a f_257_114 ?_
                    refine w_a f_257_115 ?_
                    refine w_a f_257_116 ?_
                    refine w_a f_257_119 ?_
                    refine w_a (ls := [(0, .long ((L 58 14) - (L 58 16))), (2, .long (L 58 15))]) f_235_0 ?_
                    refine w_a f_235_1 ?_
                    refine w_a f_235_2 ?_
                    refine w_a f_235_3 ?_
                    refine w_a f_235_4 ?_
                    refine w_a f_235_5 ?_
                    refine w_a f_235_6 ?_
                    refine w_a f_235_7 ?_
                    refine w_a (ls := [(4, .long ((L 58 16) * ((L 58 16) - (L 58 14)))), (2, .long ((((L 58 14) * (L 58 14)) + ((L 58 15) * (L 58 15))) - ((L 58 14) * (L 58 16)))), (0, .ref 58), (1, .int x2)]) f_257_122 ?_
                    refine w_a f_257_123 ?_
                    refine w_a f_257_126 ?_
                    refine w_a (ls := [(0, .ref 58), (2, .int x2), (3, .int x3)]) f_256_41 ?_
                    refine w_a f_256_42 ?_
                    exact h
                  · refine w_a f_257_71 ?_
                    refine w_a f_257_72 ?_
                    refine w_a f_257_75 ?_
                    refine w_a f_257_76 ?_
                    refine w_a f_257_79 ?_
                    refine w_a f_257_80 ?_
                    refine w_a f_257_93 ?_
                    refine w_a f_257_96 ?_
                    refine w_a f_257_97 ?_
                    refine w_a f_257_98 ?_
                    refine w_a f_257_101 ?_
                    refine w_a f_257_102 ?_
                    refine w_a f_257_105 ?_
                    refine w_a f_257_106 ?_
                    refine w_a f_257_107 ?_
                    refine w_a f_257_110 ?_
                    refine w_a f_257_111 ?_
                    refine w_a f_257_114 ?_
                    refine w_a f_257_115 ?_
                    refine w_a f_257_116 ?_
                    refine w_a f_257_119 ?_
                    refine w_a (ls := [(0, .long ((L 58 14) - (L 58 16))), (2, .long (L 58 15))]) f_235_0 ?_
                    refine w_a f_235_1 ?_
                    refine w_a f_235_2 ?_
                    refine w_a f_235_3 ?_
                    refine w_a f_235_4 ?_
                    refine w_a f_235_5 ?_
                    refine w_a f_235_6 ?_
                    refine w_a f_235_7 ?_
                    refine w_a (ls := [(4, .long ((L 58 16) * ((L 58 16) - (L 58 14)))), (2, .long ((((L 58 14) * (L 58 14)) + ((L 58 15) * (L 58 15))) - ((L 58 14) * (L 58 16)))), (0, .ref 58), (1, .int x2)]) f_257_122 ?_
                    refine w_a f_257_123 ?_
                    refine w_a f_257_126 ?_
                    refine w_a (ls := [(0, .ref 58), (2, .int x2), (3, .int x3)]) f_256_41 ?_
                    refine w_a f_256_42 ?_
                    exact h
              · refine w_a f_257_43 ?_
                refine w_a f_257_44 ?_
                refine w_a f_257_49 ?_
                refine w_a f_257_52 ?_
                refine w_a f_257_53 ?_
                refine w_a f_257_54 ?_
                refine i_m (fun h => ?_) (fun h => ?_) h
                · refine w_a f_257_62 ?_
                  refine w_a f_257_63 ?_
                  refine w_a f_257_66 ?_
                  refine w_a f_257_67 ?_
                  refine w_a f_257_68 ?_
                  refine i_m (fun h => ?_) (fun h => ?_) h
                  · refine w_a f_257_83 ?_
                    refine w_a f_257_84 ?_
                    refine w_a f_257_87 ?_
                    refine w_a f_257_88 ?_
                    refine w_a f_257_89 ?_
                    refine w_a f_257_92 ?_
                    refine w_a f_257_93 ?_
                    refine w_a f_257_96 ?_
                    refine w_a f_257_97 ?_
                    refine w_a f_257_98 ?_
                    refine w_a f_257_101 ?_
                    refine w_a f_257_102 ?_
                    refine w_a f_257_105 ?_
                    refine w_a f_257_106 ?_
                    refine w_a f_257_107 ?_
                    refine w_a f_257_110 ?_
                    refine w_a f_257_111 ?_
                    refine w_a f_257_114 ?_
                    refine w_a f_257_115 ?_
                    refine w_a f_257_116 ?_
                    refine w_a f_257_119 ?_
                    refine w_a (ls := [(0, .long ((L 58 14) - (L 58 16))), (2, .long (L 58 15))]) f_235_0 ?_
                    refine w_a f_235_1 ?_
                    refine w_a f_235_2 ?_
                    refine w_a f_235_3 ?_
                    refine w_a f_235_4 ?_
                    refine w_a f_235_5 ?_
                    refine w_a f_235_6 ?_
                    refine w_a f_235_7 ?_
                    refine w_a (ls := [(4, .long ((L 58 16) * ((L 58 16) - (L 58 14)))), (2, .long ((((L 58 14) * (L 58 14)) + ((L 58 15) * (L 58 15))) - ((L 58 14) * (L 58 16)))), (0, .ref 58), (1, .int x2)]) f_257_122 ?_
                    refine w_a f_257_123 ?_
                    refine w_a f_257_126 ?_
                    refine w_a (ls := [(0, .ref 58), (2, .int x2), (3, .int x3)]) f_256_41 ?_
                    refine w_a f_256_42 ?_
                    exact h
                  · refine w_a f_257_71 ?_
                    refine w_a f_257_72 ?_
                    refine w_a f_257_75 ?_
                    refine w_a f_257_76 ?_
                    refine w_a f_257_79 ?_
                    refine w_a f_257_80 ?_
                    refine w_a f_257_93 ?_
                    refine w_a f_257_96 ?_
                    refine w_a f_257_97 ?_
                    refine w_a f_257_98 ?_
                    refine w_a f_257_101 ?_
                    refine w_a f_257_102 ?_
                    refine w_a f_257_105 ?_
                    refine w_a f_257_106 ?_
                    refine w_a f_257_107 ?_
                    refine w_a f_257_110 ?_
                    refine w_a f_257_111 ?_
                    refine w_a f_257_114 ?_
                    refine w_a f_257_115 ?_
                    refine w_a f_257_116 ?_
                    refine w_a f_257_119 ?_
                    refine w_a (ls := [(0, .long ((L 58 14) - (L 58 16))), (2, .long (L 58 15))]) f_235_0 ?_
                    refine w_a f_235_1 ?_
                    refine w_a f_235_2 ?_
                    refine w_a f_235_3 ?_
                    refine w_a f_235_4 ?_
                    refine w_a f_235_5 ?_
                    refine w_a f_235_6 ?_
                    refine w_a f_235_7 ?_
                    refine w_a (ls := [(4, .long ((L 58 16) * ((L 58 16) - (L 58 14)))), (2, .long ((((L 58 14) * (L 58 14)) + ((L 58 15) * (L 58 15))) - ((L 58 14) * (L 58 16)))), (0, .ref 58), (1, .int x2)]) f_257_122 ?_
                    refine w_a f_257_123 ?_
                    refine w_a f_257_126 ?_
                    refine w_a (ls := [(0, .ref 58), (2, .int x2), (3, .int x3)]) f_256_41 ?_
                    refine w_a f_256_42 ?_
                    exact h
                · refine w_a f_257_57 ?_
                  refine w_a f_257_59 ?_
                  refine w_a f_257_63 ?_
                  refine w_a f_257_66 ?_
                  refine w_a f_257_67 ?_
                  refine w_a f_257_68 ?_
                  refine i_m (fun h => ?_) (fun h => ?_) h
                  · refine w_a f_257_83 ?_
                    refine w_a f_257_84 ?_
                    refine w_a f_257_87 ?_
                    refine w_a f_257_88 ?_
                    refine w_a f_257_89 ?_
                    refine w_a f_257_92 ?_
                    refine w_a f_257_93 ?_
                    refine w_a f_257_96 ?_
                    refine w_a f_257_97 ?_
                    refine w_a f_257_98 ?_
                    refine w_a f_257_101 ?_
                    refine w_a f_257_102 ?_
                    refine w_a f_257_105 ?_
                    refine w_a f_257_106 ?_
                    refine w_a f_257_107 ?_
                    refine w_a f_257_110 ?_
                    refine w_a f_257_111 ?_
                    refine w_a f_257_114 ?_
                    refine w_a f_257_115 ?_
                    refine w_a f_257_116 ?_
                    refine w_a f_257_119 ?_
                    refine w_a (ls := [(0, .long ((L 58 14) - (L 58 16))), (2, .long (L 58 15))]) f_235_0 ?_
                    refine w_a f_235_1 ?_
                    refine w_a f_235_2 ?_
                    refine w_a f_235_3 ?_
                    refine w_a f_235_4 ?_
                    refine w_a f_235_5 ?_
                    refine w_a f_235_6 ?_
                    refine w_a f_235_7 ?_
                    refine w_a (ls := [(4, .long ((L 58 16) * ((L 58 16) - (L 58 14)))), (2, .long ((((L 58 14) * (L 58 14)) + ((L 58 15) * (L 58 15))) - ((L 58 14) * (L 58 16)))), (0, .ref 58), (1, .int x2)]) f_257_122 ?_
                    refine w_a f_257_123 ?_
                    refine w_a f_257_126 ?_
                    refine w_a (ls := [(0, .ref 58), (2, .int x2), (3, .int x3)]) f_256_41 ?_
                    refine w_a f_256_42 ?_
                    exact h
                  · refine w_a f_257_71 ?_
                    refine w_a f_257_72 ?_
                    refine w_a f_257_75 ?_
                    refine w_a f_257_76 ?_
                    refine w_a f_257_79 ?_
                    refine w_a f_257_80 ?_
                    refine w_a f_257_93 ?_
                    refine w_a f_257_96 ?_
                    refine w_a f_257_97 ?_
                    refine w_a f_257_98 ?_
                    refine w_a f_257_101 ?_
                    refine w_a f_257_102 ?_
                    refine w_a f_257_105 ?_
                    refine w_a f_257_106 ?_
                    refine w_a f_257_107 ?_
                    refine w_a f_257_110 ?_
                    refine w_a f_257_111 ?_
                    refine w_a f_257_114 ?_
                    refine w_a f_257_115 ?_
                    refine w_a f_257_116 ?_
                    refine w_a f_257_119 ?_
                    refine w_a (ls := [(0, .long ((L 58 14) - (L 58 16))), (2, .long (L 58 15))]) f_235_0 ?_
                    refine w_a f_235_1 ?_
                    refine w_a f_235_2 ?_
                    refine w_a f_235_3 ?_
                    refine w_a f_235_4 ?_
                    refine w_a f_235_5 ?_
                    refine w_a f_235_6 ?_
                    refine w_a f_235_7 ?_
                    refine w_a (ls := [(4, .long ((L 58 16) * ((L 58 16) - (L 58 14)))), (2, .long ((((L 58 14) * (L 58 14)) + ((L 58 15) * (L 58 15))) - ((L 58 14) * (L 58 16)))), (0, .ref 58), (1, .int x2)]) f_257_122 ?_
                    refine w_a f_257_123 ?_
                    refine w_a f_257_126 ?_
                    refine w_a (ls := [(0, .ref 58), (2, .int x2), (3, .int x3)]) f_256_41 ?_
                    refine w_a f_256_42 ?_
                    exact h
      · refine w_a f_254_25 ?_
        refine w_a f_254_26 ?_
        refine w_a (ls := [(0, .ref 58)]) f_253_13 ?_
        refine w_a f_253_16 ?_
        refine w_a f_253_17 ?_
        refine w_a f_253_21 ?_
        refine w_a (ls := [(0, .ref 58), (2, .int x2), (3, .int x3)]) f_256_22 ?_
        refine w_a f_256_25 ?_
        refine w_a f_256_26 ?_
        refine w_a f_256_27 ?_
        refine w_a f_256_28 ?_
        refine w_a (ls := [(0, .int x3), (1, .int (Int32.ofInt 0)), (2, .int (Int32.ofInt 1))]) f_208_0 ?_
        refine w_a f_208_1 ?_
        refine w_a f_208_2 ?_
        refine i_m (fun h => ?_) (fun h => ?_) h
        · refine w_a f_208_14 ?_
          refine w_a f_208_15 ?_
          refine w_a (ls := [(0, .ref 58), (2, .int x2), (3, .int x3)]) f_256_31 ?_
          refine w_a f_256_34 ?_
          refine w_a f_256_35 ?_
          exact h
        · refine w_a f_208_5 ?_
          refine w_a f_208_6 ?_
          refine w_a f_208_7 ?_
          refine i_m (fun h => ?_) (fun h => ?_) h
          · refine w_a f_208_14 ?_
            refine w_a f_208_15 ?_
            refine w_a (ls := [(0, .ref 58), (2, .int x2), (3, .int x3)]) f_256_31 ?_
            refine w_a f_256_34 ?_
            refine w_a f_256_35 ?_
            exact h
          · refine w_a f_208_10 ?_
            refine w_a f_208_11 ?_
            refine w_a f_208_15 ?_
            refine w_a (ls := [(0, .ref 58), (2, .int x2), (3, .int x3)]) f_256_31 ?_
            refine w_a f_256_36 ?_
            refine w_a f_256_37 ?_
            refine w_a f_256_38 ?_
            refine w_a (ls := [(0, .ref 58), (1, .int x2)]) f_257_0 ?_
            refine w_a f_257_1 ?_
            refine w_a f_257_4 ?_
            refine w_a f_257_5 ?_
            refine w_a f_257_8 ?_
            refine w_a (ls := [(0, .long (L 58 14)), (2, .long (L 58 15))]) f_235_0 ?_
            refine w_a f_235_1 ?_
            refine w_a f_235_2 ?_
            refine w_a f_235_3 ?_
            refine w_a f_235_4 ?_
            refine w_a f_235_5 ?_
            refine w_a f_235_6 ?_
            refine w_a f_235_7 ?_
            refine w_a (ls := [(0, .ref 58), (1, .int x2)]) f_257_11 ?_
            refine w_a f_257_12 ?_
            refine w_a f_257_15 ?_
            refine w_a f_257_16 ?_
            refine w_a f_257_19 ?_
            refine w_a f_257_20 ?_
            refine w_a f_257_21 ?_
            refine w_a (ls := [(2, .long ((((L 58 14) * (L 58 14)) + ((L 58 15) * (L 58 15))) - ((L 58 14) * (L 58 16)))), (0, .ref 58), (1, .int x2)]) f_257_22 ?_
            refine w_a f_257_23 ?_
            refine w_a f_257_26 ?_
            refine w_a f_257_27 ?_
            refine w_a f_257_30 ?_
            refine w_a f_257_31 ?_
            refine w_a f_257_34 ?_
            refine w_a f_257_35 ?_
            refine w_a f_257_36 ?_
            refine w_a (ls := [(4, .long ((L 58 16) * ((L 58 16) - (L 58 14)))), (2, .long ((((L 58 14) * (L 58 14)) + ((L 58 15) * (L 58 15))) - ((L 58 14) * (L 58 16)))), (0, .ref 58), (1, .int x2)]) f_257_38 ?_
            refine w_a f_257_39 ?_
            refine w_a f_257_40 ?_
            refine i_m (fun h => ?_) (fun h => ?_) h
            · refine w_a f_257_47 ?_
              refine w_a f_257_49 ?_
              refine w_a f_257_52 ?_
              refine w_a f_257_53 ?_
              refine w_a f_257_54 ?_
              refine i_m (fun h => ?_) (fun h => ?_) h
              · refine w_a f_257_62 ?_
                refine w_a f_257_63 ?_
                refine w_a f_257_66 ?_
                refine w_a f_257_67 ?_
                refine w_a f_257_68 ?_
                refine i_m (fun h => ?_) (fun h => ?_) h
                · refine w_a f_257_83 ?_
                  refine w_a f_257_84 ?_
                  refine w_a f_257_87 ?_
                  refine w_a f_257_88 ?_
                  refine w_a f_257_89 ?_
                  refine w_a f_257_92 ?_
                  refine w_a f_257_93 ?_
                  refine w_a f_257_96 ?_
                  refine w_a f_257_97 ?_
                  refine w_a f_257_98 ?_
                  refine w_a f_257_101 ?_
                  refine w_a f_257_102 ?_
                  refine w_a f_257_105 ?_
                  refine w_a f_257_106 ?_
                  refine w_a f_257_107 ?_
                  refine w_a f_257_110 ?_
                  refine w_a f_257_111 ?_
                  refine w_a f_257_114 ?_
                  refine w_a f_257_115 ?_
                  refine w_a f_257_116 ?_
                  refine w_a f_257_119 ?_
                  refine w_a (ls := [(0, .long ((L 58 14) - (L 58 16))), (2, .long (L 58 15))]) f_235_0 ?_
                  refine w_a f_235_1 ?_
                  refine w_a f_235_2 ?_
                  refine w_a f_235_3 ?_
                  refine w_a f_235_4 ?_
                  refine w_a f_235_5 ?_
                  refine w_a f_235_6 ?_
                  refine w_a f_235_7 ?_
                  refine w_a (ls := [(4, .long ((L 58 16) * ((L 58 16) - (L 58 14)))), (2, .long ((((L 58 14) * (L 58 14)) + ((L 58 15) * (L 58 15))) - ((L 58 14) * (L 58 16)))), (0, .ref 58), (1, .int x2)]) f_257_122 ?_
                  refine w_a f_257_123 ?_
                  refine w_a f_257_126 ?_
                  refine w_a (ls := [(0, .ref 58), (2, .int x2), (3, .int x3)]) f_256_41 ?_
                  refine w_a f_256_42 ?_
                  exact h
                · refine w_a f_257_71 ?_
                  refine w_a f_257_72 ?_
                  refine w_a f_257_75 ?_
                  refine w_a f_257_76 ?_
                  refine w_a f_257_79 ?_
                  refine w_a f_257_80 ?_
                  refine w_a f_257_93 ?_
                  refine w_a f_257_96 ?_
                  refine w_a f_257_97 ?_
                  refine w_a f_257_98 ?_
                  refine w_a f_257_101 ?_
                  refine w_a f_257_102 ?_
                  refine w_a f_257_105 ?_
                  refine w_a f_257_106 ?_
                  refine w_a f_257_107 ?_
                  refine w_a f_257_110 ?_
                  refine w_a f_257_111 ?_
                  refine w_a f_257_114 ?_
                  refine w_a f_257_115 ?_
                  refine w_a f_257_116 ?_
                  refine w_a f_257_119 ?_
                  refine w_a (ls := [(0, .long ((L 58 14) - (L 58 16))), (2, .long (L 58 15))]) f_235_0 ?_
                  refine w_a f_235_1 ?_
                  refine w_a f_235_2 ?_
                  refine w_a f_235_3 ?_
                  refine w_a f_235_4 ?_
                  refine w_a f_235_5 ?_
                  refine w_a f_235_6 ?_
                  refine w_a f_235_7 ?_
                  refine w_a (ls := [(4, .long ((L 58 16) * ((L 58 16) - (L 58 14)))), (2, .long ((((L 58 14) * (L 58 14)) + ((L 58 15) * (L 58 15))) - ((L 58 14) * (L 58 16)))), (0, .ref 58), (1, .int x2)]) f_257_122 ?_
                  refine w_a f_257_123 ?_
                  refine w_a f_257_126 ?_
                  refine w_a (ls := [(0, .ref 58), (2, .int x2), (3, .int x3)]) f_256_41 ?_
                  refine w_a f_256_42 ?_
                  exact h
              · refine w_a f_257_57 ?_
                refine w_a f_257_59 ?_
                refine w_a f_257_63 ?_
                refine w_a f_257_66 ?_
                refine w_a f_257_67 ?_
                refine w_a f_257_68 ?_
                refine i_m (fun h => ?_) (fun h => ?_) h
                · refine w_a f_257_83 ?_
                  refine w_a f_257_84 ?_
                  refine w_a f_257_87 ?_
                  refine w_a f_257_88 ?_
                  refine w_a f_257_89 ?_
                  refine w_a f_257_92 ?_
                  refine w_a f_257_93 ?_
                  refine w_a f_257_96 ?_
                  refine w_a f_257_97 ?_
                  refine w_a f_257_98 ?_
                  refine w_a f_257_101 ?_
                  refine w_a f_257_102 ?_
                  refine w_a f_257_105 ?_
                  refine w_a f_257_106 ?_
                  refine w_a f_257_107 ?_
                  refine w_a f_257_110 ?_
                  refine w_a f_257_111 ?_
                  refine w_a f_257_114 ?_
                  refine w_a f_257_115 ?_
                  refine w_a f_257_116 ?_
                  refine w_a f_257_119 ?_
                  refine w_a (ls := [(0, .long ((L 58 14) - (L 58 16))), (2, .long (L 58 15))]) f_235_0 ?_
                  refine w_a f_235_1 ?_
                  refine w_a f_235_2 ?_
                  refine w_a f_235_3 ?_
                  refine w_a f_235_4 ?_
                  refine w_a f_235_5 ?_
                  refine w_a f_235_6 ?_
                  refine w_a f_235_7 ?_
                  refine w_a (ls := [(4, .long ((L 58 16) * ((L 58 16) - (L 58 14)))), (2, .long ((((L 58 14) * (L 58 14)) + ((L 58 15) * (L 58 15))) - ((L 58 14) * (L 58 16)))), (0, .ref 58), (1, .int x2)]) f_257_122 ?_
                  refine w_a f_257_123 ?_
                  refine w_a f_257_126 ?_
                  refine w_a (ls := [(0, .ref 58), (2, .int x2), (3, .int x3)]) f_256_41 ?_
                  refine w_a f_256_42 ?_
                  exact h
                · refine w_a f_257_71 ?_
                  refine w_a f_257_72 ?_
                  refine w_a f_257_75 ?_
                  refine w_a f_257_76 ?_
                  refine w_a f_257_79 ?_
                  refine w_a f_257_80 ?_
                  refine w_a f_257_93 ?_
                  refine w_a f_257_96 ?_
                  refine w_a f_257_97 ?_
                  refine w_a f_257_98 ?_
                  refine w_a f_257_101 ?_
                  refine w_a f_257_102 ?_
                  refine w_a f_257_105 ?_
                  refine w_a f_257_106 ?_
                  refine w_a f_257_107 ?_
                  refine w_a f_257_110 ?_
                  refine w_a f_257_111 ?_
                  refine w_a f_257_114 ?_
                  refine w_a f_257_115 ?_
                  refine w_a f_257_116 ?_
                  refine w_a f_257_119 ?_
                  refine w_a (ls := [(0, .long ((L 58 14) - (L 58 16))), (2, .long (L 58 15))]) f_235_0 ?_
                  refine w_a f_235_1 ?_
                  refine w_a f_235_2 ?_
                  refine w_a f_235_3 ?_
                  refine w_a f_235_4 ?_
                  refine w_a f_235_5 ?_
                  refine w_a f_235_6 ?_
                  refine w_a f_235_7 ?_
                  refine w_a (ls := [(4, .long ((L 58 16) * ((L 58 16) - (L 58 14)))), (2, .long ((((L 58 14) * (L 58 14)) + ((L 58 15) * (L 58 15))) - ((L 58 14) * (L 58 16)))), (0, .ref 58), (1, .int x2)]) f_257_122 ?_
                  refine w_a f_257_123 ?_
                  refine w_a f_257_126 ?_
                  refine w_a (ls := [(0, .ref 58), (2, .int x2), (3, .int x3)]) f_256_41 ?_
                  refine w_a f_256_42 ?_
                  exact h
            · refine w_a f_257_43 ?_
              refine w_a f_257_44 ?_
              refine w_a f_257_49 ?_
              refine w_a f_257_52 ?_
              refine w_a f_257_53 ?_
              refine w_a f_257_54 ?_
              refine i_m (fun h => ?_) (fun h => ?_) h
              · refine w_a f_257_62 ?_
                refine w_a f_257_63 ?_
                refine w_a f_257_66 ?_
                refine w_a f_257_67 ?_
                refine w_a f_257_68 ?_
                refine i_m (fun h => ?_) (fun h => ?_) h
                · refine w_a f_257_83 ?_
                  refine w_a f_257_84 ?_
                  refine w_a f_257_87 ?_
                  refine w_a f_257_88 ?_
                  refine w_a f_257_89 ?_
                  refine w_a f_257_92 ?_
                  refine w_a f_257_93 ?_
                  refine w_a f_257_96 ?_
                  refine w_a f_257_97 ?_
                  refine w_a f_257_98 ?_
                  refine w_a f_257_101 ?_
                  refine w_a f_257_102 ?_
                  refine w_a f_257_105 ?_
                  refine w_a f_257_106 ?_
                  refine w_a f_257_107 ?_
                  refine w_a f_257_110 ?_
                  refine w_a f_257_111 ?_
                  refine w_a f_257_114 ?_
                  refine w_a f_257_115 ?_
                  refine w_a f_257_116 ?_
                  refine w_a f_257_119 ?_
                  refine w_a (ls := [(0, .long ((L 58 14) - (L 58 16))), (2, .long (L 58 15))]) f_235_0 ?_
                  refine w_a f_235_1 ?_
                  refine w_a f_235_2 ?_
                  refine w_a f_235_3 ?_
                  refine w_a f_235_4 ?_
                  refine w_a f_235_5 ?_
                  refine w_a f_235_6 ?_
                  refine w_a f_235_7 ?_
                  refine w_a (ls := [(4, .long ((L 58 16) * ((L 58 16) - (L 58 14)))), (2, .long ((((L 58 14) * (L 58 14)) + ((L 58 15) * (L 58 15))) - ((L 58 14) * (L 58 16)))), (0, .ref 58), (1, .int x2)]) f_257_122 ?_
                  refine w_a f_257_123 ?_
                  refine w_a f_257_126 ?_
                  refine w_a (ls := [(0, .ref 58), (2, .int x2), (3, .int x3)]) f_256_41 ?_
                  refine w_a f_256_42 ?_
                  exact h
                · refine w_a f_257_71 ?_
                  refine w_a f_257_72 ?_
                  refine w_a f_257_75 ?_
                  refine w_a f_257_76 ?_
                  refine w_a f_257_79 ?_
                  refine w_a f_257_80 ?_
                  refine w_a f_257_93 ?_
                  refine w_a f_257_96 ?_
                  refine w_a f_257_97 ?_
                  refine w_a f_257_98 ?_
                  refine w_a f_257_101 ?_
                  refine w_a f_257_102 ?_
                  refine w_a f_257_105 ?_
                  refine w_a f_257_106 ?_
                  refine w_a f_257_107 ?_
                  refine w_a f_257_110 ?_
                  refine w_a f_257_111 ?_
                  refine w_a f_257_114 ?_
                  refine w_a f_257_115 ?_
                  refine w_a f_257_116 ?_
                  refine w_a f_257_119 ?_
                  refine w_a (ls := [(0, .long ((L 58 14) - (L 58 16))), (2, .long (L 58 15))]) f_235_0 ?_
                  refine w_a f_235_1 ?_
                  refine w_a f_235_2 ?_
                  refine w_a f_235_3 ?_
                  refine w_a f_235_4 ?_
                  refine w_a f_235_5 ?_
                  refine w_a f_235_6 ?_
                  refine w_a f_235_7 ?_
                  refine w_a (ls := [(4, .long ((L 58 16) * ((L 58 16) - (L 58 14)))), (2, .long ((((L 58 14) * (L 58 14)) + ((L 58 15) * (L 58 15))) - ((L 58 14) * (L 58 16)))), (0, .ref 58), (1, .int x2)]) f_257_122 ?_
                  refine w_a f_257_123 ?_
                  refine w_a f_257_126 ?_
                  refine w_a (ls := [(0, .ref 58), (2, .int x2), (3, .int x3)]) f_256_41 ?_
                  refine w_a f_256_42 ?_
                  exact h
              · refine w_a f_257_57 ?_
                refine w_a f_257_59 ?_
                refine w_a f_257_63 ?_
                refine w_a f_257_66 ?_
                refine w_a f_257_67 ?_
                refine w_a f_257_68 ?_
                refine i_m (fun h => ?_) (fun h => ?_) h
                · refine w_a f_257_83 ?_
                  refine w_a f_257_84 ?_
                  refine w_a f_257_87 ?_
                  refine w_a f_257_88 ?_
                  refine w_a f_257_89 ?_
                  refine w_a f_257_92 ?_
                  refine w_a f_257_93 ?_
                  refine w_a f_257_96 ?_
                  refine w_a f_257_97 ?_
                  refine w_a f_257_98 ?_
                  refine w_a f_257_101 ?_
                  refine w_a f_257_102 ?_
                  refine w_a f_257_105 ?_
                  refine w_a f_257_106 ?_
                  refine w_a f_257_107 ?_
                  refine w_a f_257_110 ?_
                  refine w_a f_257_111 ?_
                  refine w_a f_257_114 ?_
                  refine w_a f_257_115 ?_
                  refine w_a f_257_116 ?_
                  refine w_a f_257_119 ?_
                  refine w_a (ls := [(0, .long ((L 58 14) - (L 58 16))), (2, .long (L 58 15))]) f_235_0 ?_
                  refine w_a f_235_1 ?_
                  refine w_a f_235_2 ?_
                  refine w_a f_235_3 ?_
                  refine w_a f_235_4 ?_
                  refine w_a f_235_5 ?_
                  refine w_a f_235_6 ?_
                  refine w_a f_235_7 ?_
                  refine w_a (ls := [(4, .long ((L 58 16) * ((L 58 16) - (L 58 14)))), (2, .long ((((L 58 14) * (L 58 14)) + ((L 58 15) * (L 58 15))) - ((L 58 14) * (L 58 16)))), (0, .ref 58), (1, .int x2)]) f_257_122 ?_
                  refine w_a f_257_123 ?_
                  refine w_a f_257_126 ?_
                  refine w_a (ls := [(0, .ref 58), (2, .int x2), (3, .int x3)]) f_256_41 ?_
                  refine w_a f_256_42 ?_
                  exact h
                · refine w_a f_257_71 ?_
                  refine w_a f_257_72 ?_
                  refine w_a f_257_75 ?_
                  refine w_a f_257_76 ?_
                  refine w_a f_257_79 ?_
                  refine w_a f_257_80 ?_
                  refine w_a f_257_93 ?_
                  refine w_a f_257_96 ?_
                  refine w_a f_257_97 ?_
                  refine w_a f_257_98 ?_
                  refine w_a f_257_101 ?_
                  refine w_a f_257_102 ?_
                  refine w_a f_257_105 ?_
                  refine w_a f_257_106 ?_
                  refine w_a f_257_107 ?_
                  refine w_a f_257_110 ?_
                  refine w_a f_257_111 ?_
                  refine w_a f_257_114 ?_
                  refine w_a f_257_115 ?_
                  refine w_a f_257_116 ?_
                  refine w_a f_257_119 ?_
                  refine w_a (ls := [(0, .long ((L 58 14) - (L 58 16))), (2, .long (L 58 15))]) f_235_0 ?_
                  refine w_a f_235_1 ?_
                  refine w_a f_235_2 ?_
                  refine w_a f_235_3 ?_
                  refine w_a f_235_4 ?_
                  refine w_a f_235_5 ?_
                  refine w_a f_235_6 ?_
                  refine w_a f_235_7 ?_
                  refine w_a (ls := [(4, .long ((L 58 16) * ((L 58 16) - (L 58 14)))), (2, .long ((((L 58 14) * (L 58 14)) + ((L 58 15) * (L 58 15))) - ((L 58 14) * (L 58 16)))), (0, .ref 58), (1, .int x2)]) f_257_122 ?_
                  refine w_a f_257_123 ?_
                  refine w_a f_257_126 ?_
                  refine w_a (ls := [(0, .ref 58), (2, .int x2), (3, .int x3)]) f_256_41 ?_
                  refine w_a f_256_42 ?_
                  exact h
    · refine w_a f_253_20 ?_
      refine w_a f_253_21 ?_
      refine w_a (ls := [(0, .ref 58), (2, .int x2), (3, .int x3)]) f_256_22 ?_
      refine w_a f_256_34 ?_
      refine w_a f_256_35 ?_
      exact h
set_option maxRecDepth 10000 in
set_option maxHeartbeats 4000000 in
theorem s_258_8 {Lx : Nat} {I : Mi} {L : Ml} {e : Nat} {Q : Kq} {x3 : Int32} {x4 : Int32} {r : Int32} (h :
    (if 0 < r then
     Q (.inl (some (.long (Int64.ofInt 0)))) (gE Lx) (ui I 58 0 r) L e
    else
     Wp 260 0 [(0, .ref 58), (1, .int x3)] [] (gE Lx) (ui I 58 0 r) L e (kcp (Wp 258) 258 23 0 [(0, .ref 58), (4, .int x4)] 71 [.ref 58] Q))) :
    Wp 258 8 [(0, .ref 58), (3, .int x3), (4, .int x4)] [.int r, .ref 58] (gE Lx) I L e Q := by
  refine w_a f_258_8 ?_
  refine w_a f_258_11 ?_
  refine w_a f_258_12 ?_
  refine w_a f_258_15 ?_
  refine i_m (fun h => ?_) (fun h => ?_) h
  · refine w_a f_258_18 ?_
    refine w_a f_258_19 ?_
    exact h
  · refine w_a f_258_20 ?_
    refine w_a f_258_21 ?_
    refine w_a f_258_22 ?_
    exact w_c (ks := [0, 4]) f_258_23 rfl rfl h
set_option maxRecDepth 10000 in
set_option maxHeartbeats 4000000 in
theorem s_258_26 {Lx : Nat} {I : Mi} {L : Ml} {e : Nat} {Q : Kq} {x4 : Int32} {r : Int32} (h :
    Wp 264 0 [(0, .ref 58), (1, .int r)] [] (gE Lx) I L e (kcp (Wp 258) 258 26 0 [(0, .ref 58), (4, .int x4)] 71 [] Q)) :
    Wp 258 26 [(0, .ref 58), (4, .int x4)] [.int r, .ref 58] (gE Lx) I L e Q := by
  exact w_c (ks := [0, 4]) f_258_26 rfl rfl h
set_option maxRecDepth 10000 in
set_option maxHeartbeats 4000000 in
theorem s_258_29 {Lx : Nat} {I : Mi} {L : Ml} {e : Nat} {Q : Kq} {x4 : Int32} (h :
    (if x4 = 0 then
     Q (.inl (some (.long (L 58 8)))) (gE Lx) I L e
    else
     Q (.inl (some (.long (L 58 9)))) (gE Lx) I L e)) :
    Wp 258 29 [(0, .ref 58), (4, .int x4)] [] (gE Lx) I L e Q := by
  refine w_a f_258_29 ?_
  refine w_a f_258_30 ?_
  refine w_a f_258_32 ?_
  refine w_a (ls := [(0, .ref 58), (1, .int x4)]) f_237_0 ?_
  refine w_a f_237_1 ?_
  refine i_m (fun h => ?_) (fun h => ?_) h
  · refine w_a f_237_11 ?_
    refine w_a f_237_12 ?_
    refine w_a f_237_15 ?_
    refine w_a (ls := [(0, .ref 58), (4, .int x4)]) f_258_35 ?_
    exact h
  · refine w_a f_237_4 ?_
    refine w_a f_237_5 ?_
    refine w_a f_237_8 ?_
    refine w_a f_237_15 ?_
    refine w_a (ls := [(0, .ref 58), (4, .int x4)]) f_258_35 ?_
    exact h
set_option maxRecDepth 10000 in
set_option maxHeartbeats 4000000 in
theorem s_259_0 {Lx : Nat} {I : Mi} {L : Ml} {e : Nat} {Q : Kq} {x1 : Int32} {x2 : Int32} {x3 : Int32} (h :
    Wp 256 0 [(0, .ref 58), (1, .int x1), (2, .int x2), (3, .int x3)] [] (gE Lx) I L e (kcp (Wp 259) 259 4 0 [(0, .ref 58)] 71 [] Q)) :
    Wp 259 0 [(0, .ref 58), (1, .int x1), (2, .int x2), (3, .int x3)] [] (gE Lx) I L e Q := by
  refine w_a f_259_0 ?_
  refine w_a f_259_1 ?_
  refine w_a f_259_2 ?_
  refine w_a f_259_3 ?_
  exact w_c (ks := [0]) f_259_4 rfl rfl h
set_option maxRecDepth 10000 in
set_option maxHeartbeats 4000000 in
theorem s_259_7 {Lx : Nat} {I : Mi} {L : Ml} {e : Nat} {Q : Kq} {r : Int32} (h :
    (if 0 < r then
     Q (.inl (some (.int r))) (gE Lx) I L e
    else
     Wp 243 0 [(0, .long (L 58 18))] [] (gE Lx) I L e (kcp (Wp 242) 242 1 0 [(0, .long (L 58 18))] 71 [] (kcp (Wp 259) 259 23 0 [(0, .ref 58)] 71 [] Q)))) :
    Wp 259 7 [(0, .ref 58)] [.int r] (gE Lx) I L e Q := by
  refine w_a f_259_7 ?_
  refine w_a (ls := [(4, .int r), (0, .ref 58)]) f_259_9 ?_
  refine w_a f_259_11 ?_
  refine i_m (fun h => ?_) (fun h => ?_) h
  · refine w_a f_259_14 ?_
    refine w_a f_259_16 ?_
    refine w_a f_259_34 ?_
    exact h
  · refine w_a f_259_19 ?_
    refine w_a f_259_20 ?_
    refine w_c (ks := [0]) f_259_23 rfl rfl ?_
    refine w_a (ls := [(0, .long (L 58 18))]) f_242_0 ?_
    exact w_c (ks := [0]) f_242_1 rfl rfl h
set_option maxRecDepth 10000 in
set_option maxHeartbeats 4000000 in
theorem s_259_26 {Lx : Nat} {I : Mi} {L : Ml} {e : Nat} {Q : Kq} {r : Int32} (h :
    (if r = 0 then
     Q (.inl (some (.int (Int32.ofInt 2)))) (gE Lx) I L e
    else
     Q (.inl (some (.int (Int32.ofInt 0)))) (gE Lx) I L e)) :
    Wp 259 26 [(0, .ref 58)] [.int r] (gE Lx) I L e Q := by
  refine w_a f_259_26 ?_
  refine i_m (fun h => ?_) (fun h => ?_) h
  · refine w_a f_259_33 ?_
    refine w_a f_259_34 ?_
    exact h
  · refine w_a f_259_29 ?_
    refine w_a f_259_30 ?_
    refine w_a f_259_34 ?_
    exact h
set_option maxRecDepth 10000 in
set_option maxHeartbeats 4000000 in
theorem s_260_0 {Lx : Nat} {I : Mi} {L : Ml} {e : Nat} {Q : Kq} {x1 : Int32} (h :
    (if x1 = 0 then
     Wp 261 0 [(0, .ref 58)] [] (gE Lx) I L e (kcp (Wp 260) 260 10 0 [(0, .ref 58)] 71 [.int (Int32.ofInt 1)] Q)
    else
     Wp 261 0 [(0, .ref 58)] [] (gE Lx) I L e (kcp (Wp 260) 260 10 0 [(0, .ref 58)] 71 [.int (Int32.ofInt 0)] Q))) :
    Wp 260 0 [(0, .ref 58), (1, .int x1)] [] (gE Lx) I L e Q := by
  refine w_a f_260_0 ?_
  refine w_a f_260_1 ?_
  refine i_m (fun h => ?_) (fun h => ?_) h
  · refine w_a f_260_4 ?_
    refine w_a f_260_5 ?_
    refine w_a f_260_9 ?_
    exact w_c (ks := [0]) f_260_10 rfl rfl h
  · refine w_a f_260_8 ?_
    refine w_a f_260_9 ?_
    exact w_c (ks := [0]) f_260_10 rfl rfl h
set_option maxRecDepth 10000 in
set_option maxHeartbeats 4000000 in
theorem s_260_13 {Lx : Nat} {I : Mi} {L : Ml} {e : Nat} {Q : Kq} {r0 : Int32} {r : Int32} (h :
    (if r0 = r then
     Q (.inl (some (.int (Int32.ofInt 1)))) (gE Lx) I L e
    else
     Q (.inl (some (.int (Int32.ofInt (-1))))) (gE Lx) I L e)) :
    Wp 260 13 [(0, .ref 58)] [.int r, .int r0] (gE Lx) I L e Q := by
  refine w_a f_260_13 ?_
  refine i_m (fun h => ?_) (fun h => ?_) h
  · refine w_a f_260_16 ?_
    refine w_a f_260_17 ?_
    refine w_a f_260_21 ?_
    exact h
  · refine w_a f_260_20 ?_
    refine w_a f_260_21 ?_
    exact h
set_option maxRecDepth 10000 in
set_option maxHeartbeats 4000000 in
theorem s_261_0 {Lx : Nat} {I : Mi} {L : Ml} {e : Nat} {Q : Kq} (h :
    (if (L 58 19) = (Int64.ofInt 0) then
     Wp 262 0 [(0, .ref 58)] [] (gE Lx) I L e (kcp (Wp 261) 261 10 0 [(0, .ref 58)] 71 [] Q)
    else
     Wp 263 0 [(0, .ref 58), (1, .int (Int32.ofInt 1))] [] (gE Lx) I L e (kcp (Wp 261) 261 38 0 [(0, .ref 58)] 71 [] Q))) :
    Wp 261 0 [(0, .ref 58)] [] (gE Lx) I L e Q := by
  refine w_a f_261_0 ?_
  refine w_a f_261_1 ?_
  refine w_a f_261_4 ?_
  refine w_a f_261_5 ?_
  refine i_m (fun h => ?_) (fun h => ?_) h
  · refine w_a f_261_9 ?_
    exact w_c (ks := [0]) f_261_10 rfl rfl h
  · refine w_a f_261_36 ?_
    refine w_a f_261_37 ?_
    exact w_c (ks := [0]) f_261_38 rfl rfl h
set_option maxRecDepth 10000 in
set_option maxHeartbeats 4000000 in
theorem s_261_13 {Lx : Nat} {I : Mi} {L : Ml} {e : Nat} {Q : Kq} {r : Int32} (h :
    (if (Int64.ofInt 0) < (L 58 17) then
     (if r = (Int32.ofInt 1) then
      Q (.inl (some (.int (Int32.ofInt 1)))) (gE Lx) I L e
     else
      Q (.inl (some (.int (Int32.ofInt 0)))) (gE Lx) I L e)
    else
     (if r = (Int32.ofInt 0) then
      Q (.inl (some (.int (Int32.ofInt 1)))) (gE Lx) I L e
     else
      Q (.inl (some (.int (Int32.ofInt 0)))) (gE Lx) I L e))) :
    Wp 261 13 [(0, .ref 58)] [.int r] (gE Lx) I L e Q := by
  refine w_a f_261_13 ?_
  refine w_a f_261_14 ?_
  refine w_a f_261_17 ?_
  refine w_a f_261_18 ?_
  refine i_m (fun h => ?_) (fun h => ?_) h
  · refine w_a f_261_22 ?_
    refine w_a f_261_23 ?_
    refine w_a f_261_27 ?_
    refine i_m (fun h => ?_) (fun h => ?_) h
    · refine w_a f_261_30 ?_
      refine w_a f_261_31 ?_
      refine w_a f_261_35 ?_
      exact h
    · refine w_a f_261_34 ?_
      refine w_a f_261_35 ?_
      exact h
  · refine w_a f_261_26 ?_
    refine w_a f_261_27 ?_
    refine i_m (fun h => ?_) (fun h => ?_) h
    · refine w_a f_261_30 ?_
      refine w_a f_261_31 ?_
      refine w_a f_261_35 ?_
      exact h
    · refine w_a f_261_34 ?_
      refine w_a f_261_35 ?_
      exact h
set_option maxRecDepth 10000 in
set_option maxHeartbeats 4000000 in
theorem s_261_41 {Lx : Nat} {I : Mi} {L : Ml} {e : Nat} {Q : Kq} {r : Int32} (h :
    Wp 263 0 [(0, .ref 58), (1, .int (Int32.ofInt (-1)))] [] (gE Lx) I L e (kcp (Wp 261) 261 44 0 [(0, .ref 58), (1, .int r)] 71 [] Q)) :
    Wp 261 41 [(0, .ref 58)] [.int r] (gE Lx) I L e Q := by
  refine w_a f_261_41 ?_
  refine w_a (ls := [(1, .int r), (0, .ref 58)]) f_261_42 ?_
  refine w_a f_261_43 ?_
  exact w_c (ks := [0, 1]) f_261_44 rfl rfl h
set_option maxRecDepth 10000 in
set_option maxHeartbeats 4000000 in
theorem s_261_47 {Lx : Nat} {I : Mi} {L : Ml} {e : Nat} {Q : Kq} {x1 : Int32} {r : Int32} (h :
    (if x1 < 0 then
     (if r < 0 then
      (if (L 58 19) < (Int64.ofInt 0) then
       Q (.inl (some (.int (Int32.ofInt 1)))) (gE Lx) I L e
      else
       Q (.inl (some (.int (Int32.ofInt 0)))) (gE Lx) I L e)
     else
      (if x1 < 0 then
       Q (.inl (some (.int (Int32.ofInt 0)))) (gE Lx) I L e
      else
       Q (.inl (some (.int (Int32.ofInt 1)))) (gE Lx) I L e))
    else
     (if r < 0 then
      (if x1 < 0 then
       Q (.inl (some (.int (Int32.ofInt 0)))) (gE Lx) I L e
      else
       Q (.inl (some (.int (Int32.ofInt 1)))) (gE Lx) I L e)
     else
      (if (L 58 19) < (Int64.ofInt 0) then
       Q (.inl (some (.int (Int32.ofInt 1)))) (gE Lx) I L e
      else
       Q (.inl (some (.int (Int32.ofInt 0)))) (gE Lx) I L e)))) :
    Wp 261 47 [(0, .ref 58), (1, .int x1)] [.int r] (gE Lx) I L e Q := by
  refine w_a f_261_47 ?_
  refine w_a (ls := [(2, .int r), (0, .ref 58), (1, .int x1)]) f_261_48 ?_
  refine w_a f_261_49 ?_
  refine i_m (fun h => ?_) (fun h => ?_) h
  · refine w_a f_261_52 ?_
    refine w_a f_261_53 ?_
    refine w_a f_261_57 ?_
    refine w_a f_261_58 ?_
    refine i_m (fun h => ?_) (fun h => ?_) h
    · refine w_a f_261_61 ?_
      refine w_a f_261_62 ?_
      refine w_a f_261_66 ?_
      refine w_a f_261_79 ?_
      refine w_a f_261_80 ?_
      refine w_a f_261_83 ?_
      refine w_a f_261_84 ?_
      refine i_m (fun h => ?_) (fun h => ?_) h
      · refine w_a f_261_88 ?_
        refine w_a f_261_89 ?_
        refine w_a f_261_93 ?_
        exact h
      · refine w_a f_261_92 ?_
        refine w_a f_261_93 ?_
        exact h
    · refine w_a f_261_65 ?_
      refine w_a f_261_66 ?_
      refine w_a f_261_69 ?_
      refine w_a f_261_70 ?_
      refine i_m (fun h => ?_) (fun h => ?_) h
      · refine w_a f_261_77 ?_
        refine w_a f_261_78 ?_
        exact h
      · refine w_a f_261_73 ?_
        refine w_a f_261_74 ?_
        refine w_a f_261_78 ?_
        exact h
  · refine w_a f_261_56 ?_
    refine w_a f_261_57 ?_
    refine w_a f_261_58 ?_
    refine i_m (fun h => ?_) (fun h => ?_) h
    · refine w_a f_261_61 ?_
      refine w_a f_261_62 ?_
      refine w_a f_261_66 ?_
      refine w_a f_261_69 ?_
      refine w_a f_261_70 ?_
      refine i_m (fun h => ?_) (fun h => ?_) h
      · refine w_a f_261_77 ?_
        refine w_a f_261_78 ?_
        exact h
      · refine w_a f_261_73 ?_
        refine w_a f_261_74 ?_
        refine w_a f_261_78 ?_
        exact h
    · refine w_a f_261_65 ?_
      refine w_a f_261_66 ?_
      refine w_a f_261_79 ?_
      refine w_a f_261_80 ?_
      refine w_a f_261_83 ?_
      refine w_a f_261_84 ?_
      refine i_m (fun h => ?_) (fun h => ?_) h
      · refine w_a f_261_88 ?_
        refine w_a f_261_89 ?_
        refine w_a f_261_93 ?_
        exact h
      · refine w_a f_261_92 ?_
        refine w_a f_261_93 ?_
        exact h
set_option maxRecDepth 10000 in
set_option maxHeartbeats 4000000 in
theorem s_262_0 {Lx : Nat} {I : Mi} {L : Ml} {e : Nat} {Q : Kq} (h :
    (if ((L 58 20) * (L 58 17)) < (Int64.ofInt 0) then
     Q (.inl (some (.int (Int32.ofInt 1)))) (gE Lx) I L e
    else
     Q (.inl (some (.int (Int32.ofInt 0)))) (gE Lx) I L e)) :
    Wp 262 0 [(0, .ref 58)] [] (gE Lx) I L e Q := by
  refine w_a f_262_0 ?_
  refine w_a f_262_1 ?_
  refine w_a f_262_4 ?_
  refine w_a f_262_5 ?_
  refine w_a f_262_8 ?_
  refine w_a f_262_9 ?_
  refine w_a f_262_10 ?_
  refine i_m (fun h => ?_) (fun h => ?_) h
  · refine w_a f_262_14 ?_
    refine w_a f_262_15 ?_
    refine w_a f_262_19 ?_
    exact h
  · refine w_a f_262_18 ?_
    refine w_a f_262_19 ?_
    exact h
