/-! Pieces of the law and of the calls that it makes, by program out of the tables. -/
theorem f_88_0 : ftc (PT 88) 0 = some (0, .iload_n 1, 1, 0, 0, 0) := by decide +kernel
theorem f_88_1 : ftc (PT 88) 1 = some (1, .ifCond .lt 23, 3, 24, 0, 0) := by decide +kernel
theorem f_88_4 : ftc (PT 88) 4 = some (4, .iload_n 1, 1, 0, 0, 0) := by decide +kernel
theorem f_88_5 : ftc (PT 88) 5 = some (5, .aload_n 0, 1, 0, 0, 0) := by decide +kernel
theorem f_88_6 : ftc (PT 88) 6 = some (6, .getfield 19, 3, 11, 1, 469) := by decide +kernel
theorem f_88_9 : ftc (PT 88) 9 = some (9, .getfield 127, 3, 2, 3, 221) := by decide +kernel
theorem f_88_12 : ftc (PT 88) 12 = some (12, .if_icmp .ge 12, 3, 24, 0, 0) := by decide +kernel
theorem f_88_15 : ftc (PT 88) 15 = some (15, .iload_n 1, 1, 0, 0, 0) := by decide +kernel
theorem f_88_16 : ftc (PT 88) 16 = some (16, .aload_n 0, 1, 0, 0, 0) := by decide +kernel
theorem f_88_17 : ftc (PT 88) 17 = some (17, .getfield 108, 3, 11, 18, 486) := by decide +kernel
theorem f_88_20 : ftc (PT 88) 20 = some (20, .arraylength, 1, 0, 0, 0) := by decide +kernel
theorem f_88_21 : ftc (PT 88) 21 = some (21, .if_icmp .lt 5, 3, 26, 0, 0) := by decide +kernel
theorem f_88_24 : ftc (PT 88) 24 = some (24, .iconst (-1), 1, 0, 0, 0) := by decide +kernel
theorem f_88_25 : ftc (PT 88) 25 = some (25, .ireturn, 1, 0, 0, 0) := by decide +kernel
theorem f_88_26 : ftc (PT 88) 26 = some (26, .aload_n 0, 1, 0, 0, 0) := by decide +kernel
theorem f_88_27 : ftc (PT 88) 27 = some (27, .invokevirtual 418, 3, 89, 4107, 530) := by decide +kernel
theorem f_93_0 : ftc (PT 93) 0 = some (0, .aload_n 0, 1, 0, 0, 0) := by decide +kernel
theorem f_93_1 : ftc (PT 93) 1 = some (1, .invokevirtual 418, 3, 89, 4107, 530) := by decide +kernel
theorem f_94_0 : ftc (PT 94) 0 = some (0, .aload_n 0, 1, 0, 0, 0) := by decide +kernel
theorem f_94_1 : ftc (PT 94) 1 = some (1, .aload_n 0, 1, 0, 0, 0) := by decide +kernel
theorem f_94_2 : ftc (PT 94) 2 = some (2, .getfield 19, 3, 11, 1, 469) := by decide +kernel
theorem f_94_5 : ftc (PT 94) 5 = some (5, .invokevirtual 430, 3, 95, 4139, 639) := by decide +kernel
theorem f_100_0 : ftc (PT 100) 0 = some (0, .aload_n 0, 1, 0, 0, 0) := by decide +kernel
theorem f_100_1 : ftc (PT 100) 1 = some (1, .invokevirtual 443, 3, 101, 2059, 693) := by decide +kernel
theorem f_103_0 : ftc (PT 103) 0 = some (0, .iload_n 1, 1, 0, 0, 0) := by decide +kernel
theorem f_103_1 : ftc (PT 103) 1 = some (1, .tableswitch 125 0 9 #[55, 63, 71, 79, 87, 92, 97, 102, 115, 120], 55, 0, 0, 0) := by decide +kernel
theorem f_103_56 : ftc (PT 103) 56 = some (56, .aload_n 0, 1, 0, 0, 0) := by decide +kernel
theorem f_103_57 : ftc (PT 103) 57 = some (57, .getfield 19, 3, 11, 1, 469) := by decide +kernel
theorem f_103_60 : ftc (PT 103) 60 = some (60, .getfield 127, 3, 2, 3, 221) := by decide +kernel
theorem f_103_63 : ftc (PT 103) 63 = some (63, .ireturn, 1, 0, 0, 0) := by decide +kernel
theorem f_103_64 : ftc (PT 103) 64 = some (64, .aload_n 0, 1, 0, 0, 0) := by decide +kernel
theorem f_103_65 : ftc (PT 103) 65 = some (65, .getfield 19, 3, 11, 1, 469) := by decide +kernel
theorem f_103_68 : ftc (PT 103) 68 = some (68, .getfield 156, 3, 2, 0, 214) := by decide +kernel
theorem f_103_71 : ftc (PT 103) 71 = some (71, .ireturn, 1, 0, 0, 0) := by decide +kernel
theorem f_103_72 : ftc (PT 103) 72 = some (72, .aload_n 0, 1, 0, 0, 0) := by decide +kernel
theorem f_103_73 : ftc (PT 103) 73 = some (73, .getfield 19, 3, 11, 1, 469) := by decide +kernel
theorem f_103_76 : ftc (PT 103) 76 = some (76, .getfield 159, 3, 2, 1, 216) := by decide +kernel
theorem f_103_79 : ftc (PT 103) 79 = some (79, .ireturn, 1, 0, 0, 0) := by decide +kernel
theorem f_103_80 : ftc (PT 103) 80 = some (80, .aload_n 0, 1, 0, 0, 0) := by decide +kernel
theorem f_103_81 : ftc (PT 103) 81 = some (81, .getfield 19, 3, 11, 1, 469) := by decide +kernel
theorem f_103_84 : ftc (PT 103) 84 = some (84, .getfield 162, 3, 2, 2, 218) := by decide +kernel
theorem f_103_87 : ftc (PT 103) 87 = some (87, .ireturn, 1, 0, 0, 0) := by decide +kernel
theorem f_103_88 : ftc (PT 103) 88 = some (88, .aload_n 0, 1, 0, 0, 0) := by decide +kernel
theorem f_103_89 : ftc (PT 103) 89 = some (89, .getfield 32, 3, 11, 4, 472) := by decide +kernel
theorem f_103_92 : ftc (PT 103) 92 = some (92, .ireturn, 1, 0, 0, 0) := by decide +kernel
theorem f_103_93 : ftc (PT 103) 93 = some (93, .aload_n 0, 1, 0, 0, 0) := by decide +kernel
theorem f_103_94 : ftc (PT 103) 94 = some (94, .getfield 36, 3, 11, 5, 473) := by decide +kernel
theorem f_103_97 : ftc (PT 103) 97 = some (97, .ireturn, 1, 0, 0, 0) := by decide +kernel
theorem f_103_98 : ftc (PT 103) 98 = some (98, .aload_n 0, 1, 0, 0, 0) := by decide +kernel
theorem f_103_99 : ftc (PT 103) 99 = some (99, .invokevirtual 449, 3, 104, 3083, 734) := by decide +kernel
theorem f_103_103 : ftc (PT 103) 103 = some (103, .aload_n 0, 1, 0, 0, 0) := by decide +kernel
theorem f_103_104 : ftc (PT 103) 104 = some (104, .invokevirtual 452, 3, 105, 1035, 738) := by decide +kernel
theorem f_103_116 : ftc (PT 103) 116 = some (116, .aload_n 0, 1, 0, 0, 0) := by decide +kernel
theorem f_103_117 : ftc (PT 103) 117 = some (117, .invokevirtual 455, 3, 107, 2059, 745) := by decide +kernel
theorem f_103_121 : ftc (PT 103) 121 = some (121, .aload_n 0, 1, 0, 0, 0) := by decide +kernel
theorem f_103_122 : ftc (PT 103) 122 = some (122, .invokevirtual 458, 3, 109, 3083, 758) := by decide +kernel
theorem f_103_126 : ftc (PT 103) 126 = some (126, .iconst (-1), 1, 0, 0, 0) := by decide +kernel
theorem f_103_127 : ftc (PT 103) 127 = some (127, .ireturn, 1, 0, 0, 0) := by decide +kernel
theorem f_104_0 : ftc (PT 104) 0 = some (0, .iconst 0, 1, 0, 0, 0) := by decide +kernel
theorem f_104_1 : ftc (PT 104) 1 = some (1, .istore_n 1, 1, 0, 0, 0) := by decide +kernel
theorem f_104_2 : ftc (PT 104) 2 = some (2, .iconst 0, 1, 0, 0, 0) := by decide +kernel
theorem f_104_3 : ftc (PT 104) 3 = some (3, .istore_n 2, 1, 0, 0, 0) := by decide +kernel
theorem f_105_0 : ftc (PT 105) 0 = some (0, .aload_n 0, 1, 0, 0, 0) := by decide +kernel
theorem f_105_1 : ftc (PT 105) 1 = some (1, .getfield 19, 3, 11, 1, 469) := by decide +kernel
theorem f_105_4 : ftc (PT 105) 4 = some (4, .aload_n 0, 1, 0, 0, 0) := by decide +kernel
theorem f_105_5 : ftc (PT 105) 5 = some (5, .getfield 19, 3, 11, 1, 469) := by decide +kernel
theorem f_105_8 : ftc (PT 105) 8 = some (8, .getfield 127, 3, 2, 3, 221) := by decide +kernel
theorem f_105_11 : ftc (PT 105) 11 = some (11, .aload_n 0, 1, 0, 0, 0) := by decide +kernel
theorem f_105_12 : ftc (PT 105) 12 = some (12, .getfield 42, 3, 11, 6, 474) := by decide +kernel
theorem f_105_15 : ftc (PT 105) 15 = some (15, .invokestatic 196, 3, 106, 4099, 742) := by decide +kernel
theorem f_107_0 : ftc (PT 107) 0 = some (0, .iconst 3, 1, 0, 0, 0) := by decide +kernel
theorem f_107_1 : ftc (PT 107) 1 = some (1, .istore_n 1, 1, 0, 0, 0) := by decide +kernel
theorem f_109_0 : ftc (PT 109) 0 = some (0, .iconst 0, 1, 0, 0, 0) := by decide +kernel
theorem f_109_1 : ftc (PT 109) 1 = some (1, .istore_n 1, 1, 0, 0, 0) := by decide +kernel
theorem f_109_2 : ftc (PT 109) 2 = some (2, .iconst 1, 1, 0, 0, 0) := by decide +kernel
theorem f_109_3 : ftc (PT 109) 3 = some (3, .istore_n 2, 1, 0, 0, 0) := by decide +kernel
theorem f_213_0 : ftc (PT 213) 0 = some (0, .aload_n 0, 1, 0, 0, 0) := by decide +kernel
theorem f_213_1 : ftc (PT 213) 1 = some (1, .iload_n 1, 1, 0, 0, 0) := by decide +kernel
theorem f_213_2 : ftc (PT 213) 2 = some (2, .iconst 0, 1, 0, 0, 0) := by decide +kernel
theorem f_213_3 : ftc (PT 213) 3 = some (3, .bipush 99, 2, 0, 0, 0) := by decide +kernel
theorem f_213_5 : ftc (PT 213) 5 = some (5, .invokestatic 62, 3, 208, 3075, 1624) := by decide +kernel
theorem f_213_8 : ftc (PT 213) 8 = some (8, .ifCond .eq 28, 3, 36, 0, 0) := by decide +kernel
theorem f_213_11 : ftc (PT 213) 11 = some (11, .iload_n 2, 1, 0, 0, 0) := by decide +kernel
theorem f_213_12 : ftc (PT 213) 12 = some (12, .bipush (-99), 2, 0, 0, 0) := by decide +kernel
theorem f_213_14 : ftc (PT 213) 14 = some (14, .bipush 99, 2, 0, 0, 0) := by decide +kernel
theorem f_213_16 : ftc (PT 213) 16 = some (16, .invokestatic 62, 3, 208, 3075, 1624) := by decide +kernel
theorem f_213_19 : ftc (PT 213) 19 = some (19, .ifCond .eq 17, 3, 36, 0, 0) := by decide +kernel
theorem f_213_22 : ftc (PT 213) 22 = some (22, .iload_n 3, 1, 0, 0, 0) := by decide +kernel
theorem f_213_23 : ftc (PT 213) 23 = some (23, .iconst 1, 1, 0, 0, 0) := by decide +kernel
theorem f_213_24 : ftc (PT 213) 24 = some (24, .bipush 20, 2, 0, 0, 0) := by decide +kernel
theorem f_213_26 : ftc (PT 213) 26 = some (26, .invokestatic 62, 3, 208, 3075, 1624) := by decide +kernel
theorem f_213_29 : ftc (PT 213) 29 = some (29, .ifCond .eq 7, 3, 36, 0, 0) := by decide +kernel
theorem f_213_32 : ftc (PT 213) 32 = some (32, .iconst 0, 1, 0, 0, 0) := by decide +kernel
theorem f_213_33 : ftc (PT 213) 33 = some (33, .goto 4, 3, 37, 0, 0) := by decide +kernel
theorem f_213_36 : ftc (PT 213) 36 = some (36, .iconst 1, 1, 0, 0, 0) := by decide +kernel
theorem f_213_37 : ftc (PT 213) 37 = some (37, .putfield 55, 3, 12, 0, 1636) := by decide +kernel
theorem f_213_40 : ftc (PT 213) 40 = some (40, .aload_n 0, 1, 0, 0, 0) := by decide +kernel
theorem f_213_41 : ftc (PT 213) 41 = some (41, .getfield 55, 3, 12, 0, 1636) := by decide +kernel
theorem f_213_44 : ftc (PT 213) 44 = some (44, .ifCond .le 5, 3, 49, 0, 0) := by decide +kernel
theorem f_213_47 : ftc (PT 213) 47 = some (47, .iconst 0, 1, 0, 0, 0) := by decide +kernel
theorem f_213_48 : ftc (PT 213) 48 = some (48, .ireturn, 1, 0, 0, 0) := by decide +kernel
theorem f_213_49 : ftc (PT 213) 49 = some (49, .aload_n 0, 1, 0, 0, 0) := by decide +kernel
theorem f_213_50 : ftc (PT 213) 50 = some (50, .getfield 7, 3, 12, 1, 1637) := by decide +kernel
theorem f_213_53 : ftc (PT 213) 53 = some (53, .iconst 0, 1, 0, 0, 0) := by decide +kernel
theorem f_213_54 : ftc (PT 213) 54 = some (54, .iload_n 1, 1, 0, 0, 0) := by decide +kernel
theorem f_213_55 : ftc (PT 213) 55 = some (55, .iastore, 1, 0, 0, 0) := by decide +kernel
theorem f_213_56 : ftc (PT 213) 56 = some (56, .aload_n 0, 1, 0, 0, 0) := by decide +kernel
theorem f_213_57 : ftc (PT 213) 57 = some (57, .getfield 7, 3, 12, 1, 1637) := by decide +kernel
theorem f_213_60 : ftc (PT 213) 60 = some (60, .iconst 1, 1, 0, 0, 0) := by decide +kernel
theorem f_213_61 : ftc (PT 213) 61 = some (61, .iload_n 2, 1, 0, 0, 0) := by decide +kernel
theorem f_213_62 : ftc (PT 213) 62 = some (62, .iastore, 1, 0, 0, 0) := by decide +kernel
theorem f_213_63 : ftc (PT 213) 63 = some (63, .aload_n 0, 1, 0, 0, 0) := by decide +kernel
theorem f_213_64 : ftc (PT 213) 64 = some (64, .getfield 7, 3, 12, 1, 1637) := by decide +kernel
theorem f_213_67 : ftc (PT 213) 67 = some (67, .iconst 2, 1, 0, 0, 0) := by decide +kernel
theorem f_213_68 : ftc (PT 213) 68 = some (68, .iload_n 3, 1, 0, 0, 0) := by decide +kernel
theorem f_213_69 : ftc (PT 213) 69 = some (69, .iastore, 1, 0, 0, 0) := by decide +kernel
theorem f_213_70 : ftc (PT 213) 70 = some (70, .iconst 0, 1, 0, 0, 0) := by decide +kernel
theorem f_213_71 : ftc (PT 213) 71 = some (71, .ireturn, 1, 0, 0, 0) := by decide +kernel
theorem f_214_0 : ftc (PT 214) 0 = some (0, .aload_n 0, 1, 0, 0, 0) := by decide +kernel
theorem f_214_1 : ftc (PT 214) 1 = some (1, .iload_n 1, 1, 0, 0, 0) := by decide +kernel
theorem f_214_2 : ftc (PT 214) 2 = some (2, .iconst 0, 1, 0, 0, 0) := by decide +kernel
theorem f_214_3 : ftc (PT 214) 3 = some (3, .iconst 4, 1, 0, 0, 0) := by decide +kernel
theorem f_214_4 : ftc (PT 214) 4 = some (4, .invokestatic 62, 3, 208, 3075, 1624) := by decide +kernel
theorem f_214_7 : ftc (PT 214) 7 = some (7, .ifCond .eq 11, 3, 18, 0, 0) := by decide +kernel
theorem f_214_10 : ftc (PT 214) 10 = some (10, .iload_n 2, 1, 0, 0, 0) := by decide +kernel
theorem f_214_11 : ftc (PT 214) 11 = some (11, .iload_n 3, 1, 0, 0, 0) := by decide +kernel
theorem f_214_12 : ftc (PT 214) 12 = some (12, .invokestatic 70, 3, 207, 2050, 1621) := by decide +kernel
theorem f_217_0 : ftc (PT 217) 0 = some (0, .aload_n 0, 1, 0, 0, 0) := by decide +kernel
theorem f_217_1 : ftc (PT 217) 1 = some (1, .aload_n 0, 1, 0, 0, 0) := by decide +kernel
theorem f_217_2 : ftc (PT 217) 2 = some (2, .invokevirtual 92, 3, 215, 1036, 1781) := by decide +kernel
theorem f_217_5 : ftc (PT 217) 5 = some (5, .ifCond .ne 7, 3, 12, 0, 0) := by decide +kernel
theorem f_217_8 : ftc (PT 217) 8 = some (8, .iconst 1, 1, 0, 0, 0) := by decide +kernel
theorem f_217_9 : ftc (PT 217) 9 = some (9, .goto 4, 3, 13, 0, 0) := by decide +kernel
theorem f_217_12 : ftc (PT 217) 12 = some (12, .iconst 0, 1, 0, 0, 0) := by decide +kernel
theorem f_217_13 : ftc (PT 217) 13 = some (13, .putfield 55, 3, 12, 0, 1636) := by decide +kernel
theorem f_217_16 : ftc (PT 217) 16 = some (16, .aload_n 0, 1, 0, 0, 0) := by decide +kernel
theorem f_217_17 : ftc (PT 217) 17 = some (17, .getfield 55, 3, 12, 0, 1636) := by decide +kernel
theorem f_217_20 : ftc (PT 217) 20 = some (20, .ifCond .le 5, 3, 25, 0, 0) := by decide +kernel
theorem f_217_23 : ftc (PT 217) 23 = some (23, .iconst 0, 1, 0, 0, 0) := by decide +kernel
theorem f_217_24 : ftc (PT 217) 24 = some (24, .ireturn, 1, 0, 0, 0) := by decide +kernel
theorem f_217_25 : ftc (PT 217) 25 = some (25, .aload_n 0, 1, 0, 0, 0) := by decide +kernel
theorem f_217_26 : ftc (PT 217) 26 = some (26, .getfield 7, 3, 12, 1, 1637) := by decide +kernel
theorem f_217_29 : ftc (PT 217) 29 = some (29, .iconst 3, 1, 0, 0, 0) := by decide +kernel
theorem f_217_30 : ftc (PT 217) 30 = some (30, .dup2, 1, 0, 0, 0) := by decide +kernel
theorem f_217_31 : ftc (PT 217) 31 = some (31, .iaload, 1, 0, 0, 0) := by decide +kernel
theorem f_217_32 : ftc (PT 217) 32 = some (32, .iconst 1, 1, 0, 0, 0) := by decide +kernel
theorem f_217_33 : ftc (PT 217) 33 = some (33, .isub, 1, 0, 0, 0) := by decide +kernel
theorem f_217_34 : ftc (PT 217) 34 = some (34, .iastore, 1, 0, 0, 0) := by decide +kernel
theorem f_217_35 : ftc (PT 217) 35 = some (35, .aload_n 0, 1, 0, 0, 0) := by decide +kernel
theorem f_217_36 : ftc (PT 217) 36 = some (36, .invokevirtual 92, 3, 215, 1036, 1781) := by decide +kernel
theorem f_217_39 : ftc (PT 217) 39 = some (39, .ireturn, 1, 0, 0, 0) := by decide +kernel
theorem f_218_0 : ftc (PT 218) 0 = some (0, .aload_n 0, 1, 0, 0, 0) := by decide +kernel
theorem f_218_1 : ftc (PT 218) 1 = some (1, .aload_n 0, 1, 0, 0, 0) := by decide +kernel
theorem f_218_2 : ftc (PT 218) 2 = some (2, .iload_n 1, 1, 0, 0, 0) := by decide +kernel
theorem f_218_3 : ftc (PT 218) 3 = some (3, .invokevirtual 100, 3, 219, 2092, 1797) := by decide +kernel
theorem f_218_6 : ftc (PT 218) 6 = some (6, .ifCond .ne 7, 3, 13, 0, 0) := by decide +kernel
theorem f_218_9 : ftc (PT 218) 9 = some (9, .iconst 1, 1, 0, 0, 0) := by decide +kernel
theorem f_218_10 : ftc (PT 218) 10 = some (10, .goto 16, 3, 26, 0, 0) := by decide +kernel
theorem f_218_13 : ftc (PT 218) 13 = some (13, .iload_n 2, 1, 0, 0, 0) := by decide +kernel
theorem f_218_14 : ftc (PT 218) 14 = some (14, .iload_n 3, 1, 0, 0, 0) := by decide +kernel
theorem f_218_15 : ftc (PT 218) 15 = some (15, .invokestatic 70, 3, 207, 2050, 1621) := by decide +kernel
theorem f_219_0 : ftc (PT 219) 0 = some (0, .iload_n 1, 1, 0, 0, 0) := by decide +kernel
theorem f_219_1 : ftc (PT 219) 1 = some (1, .iconst 0, 1, 0, 0, 0) := by decide +kernel
theorem f_219_2 : ftc (PT 219) 2 = some (2, .aload_n 0, 1, 0, 0, 0) := by decide +kernel
theorem f_219_3 : ftc (PT 219) 3 = some (3, .invokevirtual 92, 3, 215, 1036, 1781) := by decide +kernel
theorem f_219_6 : ftc (PT 219) 6 = some (6, .iconst 1, 1, 0, 0, 0) := by decide +kernel
theorem f_219_7 : ftc (PT 219) 7 = some (7, .isub, 1, 0, 0, 0) := by decide +kernel
theorem f_219_8 : ftc (PT 219) 8 = some (8, .invokestatic 62, 3, 208, 3075, 1624) := by decide +kernel
theorem f_219_11 : ftc (PT 219) 11 = some (11, .ireturn, 1, 1, 0, 0) := by decide +kernel
theorem f_221_0 : ftc (PT 221) 0 = some (0, .aload_n 0, 1, 0, 0, 0) := by decide +kernel
theorem f_221_1 : ftc (PT 221) 1 = some (1, .iload_n 1, 1, 0, 0, 0) := by decide +kernel
theorem f_221_2 : ftc (PT 221) 2 = some (2, .iconst 0, 1, 0, 0, 0) := by decide +kernel
theorem f_221_3 : ftc (PT 221) 3 = some (3, .bipush 19, 2, 0, 0, 0) := by decide +kernel
theorem f_221_5 : ftc (PT 221) 5 = some (5, .invokestatic 62, 3, 208, 3075, 1624) := by decide +kernel
theorem f_221_8 : ftc (PT 221) 8 = some (8, .ifCond .eq 22, 3, 30, 0, 0) := by decide +kernel
theorem f_221_11 : ftc (PT 221) 11 = some (11, .iload_n 2, 1, 0, 0, 0) := by decide +kernel
theorem f_221_12 : ftc (PT 221) 12 = some (12, .iconst 1, 1, 0, 0, 0) := by decide +kernel
theorem f_221_13 : ftc (PT 221) 13 = some (13, .bipush 20, 2, 0, 0, 0) := by decide +kernel
theorem f_221_15 : ftc (PT 221) 15 = some (15, .invokestatic 62, 3, 208, 3075, 1624) := by decide +kernel
theorem f_221_18 : ftc (PT 221) 18 = some (18, .ifCond .eq 12, 3, 30, 0, 0) := by decide +kernel
theorem f_221_21 : ftc (PT 221) 21 = some (21, .iload_n 1, 1, 0, 0, 0) := by decide +kernel
theorem f_221_22 : ftc (PT 221) 22 = some (22, .iload_n 2, 1, 0, 0, 0) := by decide +kernel
theorem f_221_23 : ftc (PT 221) 23 = some (23, .if_icmp .ge 7, 3, 30, 0, 0) := by decide +kernel
theorem f_221_26 : ftc (PT 221) 26 = some (26, .iconst 0, 1, 0, 0, 0) := by decide +kernel
theorem f_221_27 : ftc (PT 221) 27 = some (27, .goto 4, 3, 31, 0, 0) := by decide +kernel
theorem f_221_30 : ftc (PT 221) 30 = some (30, .iconst 1, 1, 0, 0, 0) := by decide +kernel
theorem f_221_31 : ftc (PT 221) 31 = some (31, .putfield 55, 3, 12, 0, 1636) := by decide +kernel
theorem f_221_34 : ftc (PT 221) 34 = some (34, .aload_n 0, 1, 0, 0, 0) := by decide +kernel
theorem f_221_35 : ftc (PT 221) 35 = some (35, .getfield 55, 3, 12, 0, 1636) := by decide +kernel
theorem f_221_38 : ftc (PT 221) 38 = some (38, .ifCond .le 5, 3, 43, 0, 0) := by decide +kernel
theorem f_221_41 : ftc (PT 221) 41 = some (41, .iconst 0, 1, 0, 0, 0) := by decide +kernel
theorem f_221_42 : ftc (PT 221) 42 = some (42, .ireturn, 1, 0, 0, 0) := by decide +kernel
theorem f_221_43 : ftc (PT 221) 43 = some (43, .aload_n 0, 1, 0, 0, 0) := by decide +kernel
theorem f_221_44 : ftc (PT 221) 44 = some (44, .iload_n 1, 1, 0, 0, 0) := by decide +kernel
theorem f_221_45 : ftc (PT 221) 45 = some (45, .putfield 44, 3, 12, 3, 1639) := by decide +kernel
theorem f_221_48 : ftc (PT 221) 48 = some (48, .aload_n 0, 1, 0, 0, 0) := by decide +kernel
theorem f_221_49 : ftc (PT 221) 49 = some (49, .iload_n 2, 1, 0, 0, 0) := by decide +kernel
theorem f_221_50 : ftc (PT 221) 50 = some (50, .putfield 48, 3, 12, 4, 1640) := by decide +kernel
theorem f_221_53 : ftc (PT 221) 53 = some (53, .iconst 0, 1, 0, 0, 0) := by decide +kernel
theorem f_221_54 : ftc (PT 221) 54 = some (54, .ireturn, 1, 0, 0, 0) := by decide +kernel
theorem f_222_0 : ftc (PT 222) 0 = some (0, .aload_n 0, 1, 0, 0, 0) := by decide +kernel
theorem f_222_1 : ftc (PT 222) 1 = some (1, .aload_n 0, 1, 0, 0, 0) := by decide +kernel
theorem f_222_2 : ftc (PT 222) 2 = some (2, .iload_n 1, 1, 0, 0, 0) := by decide +kernel
theorem f_222_3 : ftc (PT 222) 3 = some (3, .invokevirtual 100, 3, 219, 2092, 1797) := by decide +kernel
theorem f_222_6 : ftc (PT 222) 6 = some (6, .ifCond .ne 7, 3, 13, 0, 0) := by decide +kernel
theorem f_222_9 : ftc (PT 222) 9 = some (9, .iconst 1, 1, 0, 0, 0) := by decide +kernel
theorem f_222_10 : ftc (PT 222) 10 = some (10, .goto 17, 3, 27, 0, 0) := by decide +kernel
theorem f_222_13 : ftc (PT 222) 13 = some (13, .iload_n 2, 1, 0, 0, 0) := by decide +kernel
theorem f_222_14 : ftc (PT 222) 14 = some (14, .iconst 0, 1, 0, 0, 0) := by decide +kernel
theorem f_222_15 : ftc (PT 222) 15 = some (15, .iconst 2, 1, 0, 0, 0) := by decide +kernel
theorem f_222_16 : ftc (PT 222) 16 = some (16, .invokestatic 62, 3, 208, 3075, 1624) := by decide +kernel
theorem f_222_19 : ftc (PT 222) 19 = some (19, .ifCond .ne 7, 3, 26, 0, 0) := by decide +kernel
theorem f_222_22 : ftc (PT 222) 22 = some (22, .iconst 2, 1, 0, 0, 0) := by decide +kernel
theorem f_222_23 : ftc (PT 222) 23 = some (23, .goto 4, 3, 27, 0, 0) := by decide +kernel
theorem f_222_26 : ftc (PT 222) 26 = some (26, .iconst 0, 1, 0, 0, 0) := by decide +kernel
theorem f_222_27 : ftc (PT 222) 27 = some (27, .putfield 55, 3, 12, 0, 1636) := by decide +kernel
theorem f_222_30 : ftc (PT 222) 30 = some (30, .aload_n 0, 1, 0, 0, 0) := by decide +kernel
theorem f_222_31 : ftc (PT 222) 31 = some (31, .getfield 55, 3, 12, 0, 1636) := by decide +kernel
theorem f_222_34 : ftc (PT 222) 34 = some (34, .ifCond .le 7, 3, 41, 0, 0) := by decide +kernel
theorem f_222_37 : ftc (PT 222) 37 = some (37, .iconst 0, 1, 0, 0, 0) := by decide +kernel
theorem f_222_38 : ftc (PT 222) 38 = some (38, .goto 33, 3, 71, 0, 0) := by decide +kernel
theorem f_222_41 : ftc (PT 222) 41 = some (41, .iload_n 2, 1, 0, 0, 0) := by decide +kernel
theorem f_222_42 : ftc (PT 222) 42 = some (42, .ifCond .ne 11, 3, 53, 0, 0) := by decide +kernel
theorem f_222_45 : ftc (PT 222) 45 = some (45, .aload_n 0, 1, 0, 0, 0) := by decide +kernel
theorem f_222_46 : ftc (PT 222) 46 = some (46, .iload_n 1, 1, 0, 0, 0) := by decide +kernel
theorem f_222_47 : ftc (PT 222) 47 = some (47, .invokevirtual 104, 3, 220, 2092, 1801) := by decide +kernel
theorem f_222_53 : ftc (PT 222) 53 = some (53, .iload_n 2, 1, 0, 0, 0) := by decide +kernel
theorem f_222_54 : ftc (PT 222) 54 = some (54, .iconst 1, 1, 0, 0, 0) := by decide +kernel
theorem f_222_55 : ftc (PT 222) 55 = some (55, .if_icmp .ne 11, 3, 66, 0, 0) := by decide +kernel
theorem f_222_58 : ftc (PT 222) 58 = some (58, .aload_n 0, 1, 0, 0, 0) := by decide +kernel
theorem f_222_59 : ftc (PT 222) 59 = some (59, .iload_n 1, 1, 0, 0, 0) := by decide +kernel
theorem f_222_60 : ftc (PT 222) 60 = some (60, .invokevirtual 108, 3, 223, 2092, 1813) := by decide +kernel
theorem f_222_66 : ftc (PT 222) 66 = some (66, .aload_n 0, 1, 0, 0, 0) := by decide +kernel
theorem f_222_67 : ftc (PT 222) 67 = some (67, .iload_n 1, 1, 0, 0, 0) := by decide +kernel
theorem f_222_68 : ftc (PT 222) 68 = some (68, .invokevirtual 111, 3, 224, 2092, 1817) := by decide +kernel
theorem f_225_0 : ftc (PT 225) 0 = some (0, .aload_n 0, 1, 0, 0, 0) := by decide +kernel
theorem f_225_1 : ftc (PT 225) 1 = some (1, .aload_n 0, 1, 0, 0, 0) := by decide +kernel
theorem f_225_2 : ftc (PT 225) 2 = some (2, .iload_n 1, 1, 0, 0, 0) := by decide +kernel
theorem f_225_3 : ftc (PT 225) 3 = some (3, .invokevirtual 150, 3, 226, 2092, 1825) := by decide +kernel
theorem f_225_6 : ftc (PT 225) 6 = some (6, .ifCond .eq 7, 3, 13, 0, 0) := by decide +kernel
theorem f_225_9 : ftc (PT 225) 9 = some (9, .iconst 0, 1, 0, 0, 0) := by decide +kernel
theorem f_225_10 : ftc (PT 225) 10 = some (10, .goto 4, 3, 14, 0, 0) := by decide +kernel
theorem f_225_13 : ftc (PT 225) 13 = some (13, .iconst 1, 1, 0, 0, 0) := by decide +kernel
theorem f_225_14 : ftc (PT 225) 14 = some (14, .putfield 55, 3, 12, 0, 1636) := by decide +kernel
theorem f_225_17 : ftc (PT 225) 17 = some (17, .aload_n 0, 1, 0, 0, 0) := by decide +kernel
theorem f_225_18 : ftc (PT 225) 18 = some (18, .getfield 55, 3, 12, 0, 1636) := by decide +kernel
theorem f_225_21 : ftc (PT 225) 21 = some (21, .ifCond .le 5, 3, 26, 0, 0) := by decide +kernel
theorem f_225_24 : ftc (PT 225) 24 = some (24, .lconst 0, 1, 0, 0, 0) := by decide +kernel
theorem f_225_25 : ftc (PT 225) 25 = some (25, .lreturn, 1, 0, 0, 0) := by decide +kernel
theorem f_225_26 : ftc (PT 225) 26 = some (26, .aload_n 0, 1, 0, 0, 0) := by decide +kernel
theorem f_225_27 : ftc (PT 225) 27 = some (27, .iload_n 1, 1, 0, 0, 0) := by decide +kernel
theorem f_225_28 : ftc (PT 225) 28 = some (28, .invokevirtual 153, 3, 227, 3116, 1829) := by decide +kernel
theorem f_238_0 : ftc (PT 238) 0 = some (0, .aload_n 0, 1, 0, 0, 0) := by decide +kernel
theorem f_238_1 : ftc (PT 238) 1 = some (1, .aload_n 0, 1, 0, 0, 0) := by decide +kernel
theorem f_238_2 : ftc (PT 238) 2 = some (2, .iload_n 1, 1, 0, 0, 0) := by decide +kernel
theorem f_238_3 : ftc (PT 238) 3 = some (3, .invokevirtual 150, 3, 226, 2092, 1825) := by decide +kernel
theorem f_238_6 : ftc (PT 238) 6 = some (6, .ifCond .eq 7, 3, 13, 0, 0) := by decide +kernel
theorem f_238_9 : ftc (PT 238) 9 = some (9, .iconst 0, 1, 0, 0, 0) := by decide +kernel
theorem f_238_10 : ftc (PT 238) 10 = some (10, .goto 4, 3, 14, 0, 0) := by decide +kernel
theorem f_238_13 : ftc (PT 238) 13 = some (13, .iconst 1, 1, 0, 0, 0) := by decide +kernel
theorem f_238_14 : ftc (PT 238) 14 = some (14, .putfield 55, 3, 12, 0, 1636) := by decide +kernel
theorem f_238_17 : ftc (PT 238) 17 = some (17, .aload_n 0, 1, 0, 0, 0) := by decide +kernel
theorem f_238_18 : ftc (PT 238) 18 = some (18, .getfield 55, 3, 12, 0, 1636) := by decide +kernel
theorem f_238_21 : ftc (PT 238) 21 = some (21, .ifCond .le 5, 3, 26, 0, 0) := by decide +kernel
theorem f_238_24 : ftc (PT 238) 24 = some (24, .iconst 0, 1, 0, 0, 0) := by decide +kernel
theorem f_238_25 : ftc (PT 238) 25 = some (25, .ireturn, 1, 1, 0, 0) := by decide +kernel
theorem f_238_26 : ftc (PT 238) 26 = some (26, .aload_n 0, 1, 0, 0, 0) := by decide +kernel
theorem f_238_27 : ftc (PT 238) 27 = some (27, .iload_n 1, 1, 0, 0, 0) := by decide +kernel
theorem f_238_28 : ftc (PT 238) 28 = some (28, .invokevirtual 153, 3, 227, 3116, 1829) := by decide +kernel
theorem f_239_0 : ftc (PT 239) 0 = some (0, .aload_n 0, 1, 0, 0, 0) := by decide +kernel
theorem f_239_1 : ftc (PT 239) 1 = some (1, .aload_n 0, 1, 0, 0, 0) := by decide +kernel
theorem f_239_2 : ftc (PT 239) 2 = some (2, .iload_n 1, 1, 0, 0, 0) := by decide +kernel
theorem f_239_3 : ftc (PT 239) 3 = some (3, .invokevirtual 150, 3, 226, 2092, 1825) := by decide +kernel
theorem f_239_6 : ftc (PT 239) 6 = some (6, .ifCond .eq 7, 3, 13, 0, 0) := by decide +kernel
theorem f_239_9 : ftc (PT 239) 9 = some (9, .iconst 0, 1, 0, 0, 0) := by decide +kernel
theorem f_239_10 : ftc (PT 239) 10 = some (10, .goto 4, 3, 14, 0, 0) := by decide +kernel
theorem f_239_13 : ftc (PT 239) 13 = some (13, .iconst 1, 1, 0, 0, 0) := by decide +kernel
theorem f_239_14 : ftc (PT 239) 14 = some (14, .putfield 55, 3, 12, 0, 1636) := by decide +kernel
theorem f_239_17 : ftc (PT 239) 17 = some (17, .aload_n 0, 1, 0, 0, 0) := by decide +kernel
theorem f_239_18 : ftc (PT 239) 18 = some (18, .getfield 55, 3, 12, 0, 1636) := by decide +kernel
theorem f_239_21 : ftc (PT 239) 21 = some (21, .ifCond .le 5, 3, 26, 0, 0) := by decide +kernel
theorem f_239_24 : ftc (PT 239) 24 = some (24, .lconst 0, 1, 0, 0, 0) := by decide +kernel
theorem f_239_25 : ftc (PT 239) 25 = some (25, .lreturn, 1, 0, 0, 0) := by decide +kernel
theorem f_239_26 : ftc (PT 239) 26 = some (26, .aload_n 0, 1, 0, 0, 0) := by decide +kernel
theorem f_239_27 : ftc (PT 239) 27 = some (27, .iload_n 1, 1, 0, 0, 0) := by decide +kernel
theorem f_239_28 : ftc (PT 239) 28 = some (28, .invokevirtual 153, 3, 227, 3116, 1829) := by decide +kernel
theorem f_241_0 : ftc (PT 241) 0 = some (0, .aload_n 0, 1, 0, 0, 0) := by decide +kernel
theorem f_241_1 : ftc (PT 241) 1 = some (1, .iload_n 1, 1, 0, 0, 0) := by decide +kernel
theorem f_241_2 : ftc (PT 241) 2 = some (2, .iload_n 2, 1, 0, 0, 0) := by decide +kernel
theorem f_241_3 : ftc (PT 241) 3 = some (3, .invokestatic 70, 3, 207, 2050, 1621) := by decide +kernel
theorem f_244_0 : ftc (PT 244) 0 = some (0, .aload_n 0, 1, 0, 0, 0) := by decide +kernel
theorem f_244_1 : ftc (PT 244) 1 = some (1, .iload_n 1, 1, 0, 0, 0) := by decide +kernel
theorem f_244_2 : ftc (PT 244) 2 = some (2, .iload_n 2, 1, 0, 0, 0) := by decide +kernel
theorem f_244_3 : ftc (PT 244) 3 = some (3, .invokestatic 70, 3, 207, 2050, 1621) := by decide +kernel
theorem f_248_0 : ftc (PT 248) 0 = some (0, .aload_n 0, 1, 0, 0, 0) := by decide +kernel
theorem f_248_1 : ftc (PT 248) 1 = some (1, .iload_n 1, 1, 0, 0, 0) := by decide +kernel
theorem f_248_2 : ftc (PT 248) 2 = some (2, .iload_n 2, 1, 0, 0, 0) := by decide +kernel
theorem f_248_3 : ftc (PT 248) 3 = some (3, .invokestatic 70, 3, 207, 2050, 1621) := by decide +kernel
theorem f_249_0 : ftc (PT 249) 0 = some (0, .aload_n 0, 1, 0, 0, 0) := by decide +kernel
theorem f_249_1 : ftc (PT 249) 1 = some (1, .iload_n 1, 1, 0, 0, 0) := by decide +kernel
theorem f_249_2 : ftc (PT 249) 2 = some (2, .iload_n 2, 1, 0, 0, 0) := by decide +kernel
theorem f_249_3 : ftc (PT 249) 3 = some (3, .invokestatic 70, 3, 207, 2050, 1621) := by decide +kernel
theorem f_250_0 : ftc (PT 250) 0 = some (0, .aload_n 0, 1, 0, 0, 0) := by decide +kernel
theorem f_250_1 : ftc (PT 250) 1 = some (1, .aload_n 0, 1, 0, 0, 0) := by decide +kernel
theorem f_250_2 : ftc (PT 250) 2 = some (2, .iload_n 1, 1, 0, 0, 0) := by decide +kernel
theorem f_250_3 : ftc (PT 250) 3 = some (3, .invokevirtual 150, 3, 226, 2092, 1825) := by decide +kernel
theorem f_250_6 : ftc (PT 250) 6 = some (6, .ifCond .ne 7, 3, 13, 0, 0) := by decide +kernel
theorem f_250_9 : ftc (PT 250) 9 = some (9, .iconst 1, 1, 0, 0, 0) := by decide +kernel
theorem f_250_10 : ftc (PT 250) 10 = some (10, .goto 16, 3, 26, 0, 0) := by decide +kernel
theorem f_250_13 : ftc (PT 250) 13 = some (13, .aload_n 0, 1, 0, 0, 0) := by decide +kernel
theorem f_250_14 : ftc (PT 250) 14 = some (14, .iload_n 1, 1, 0, 0, 0) := by decide +kernel
theorem f_250_15 : ftc (PT 250) 15 = some (15, .invokevirtual 227, 3, 251, 2092, 1920) := by decide +kernel
theorem f_255_0 : ftc (PT 255) 0 = some (0, .aload_n 0, 1, 0, 0, 0) := by decide +kernel
theorem f_255_1 : ftc (PT 255) 1 = some (1, .aload_n 0, 1, 0, 0, 0) := by decide +kernel
theorem f_255_2 : ftc (PT 255) 2 = some (2, .iload_n 1, 1, 0, 0, 0) := by decide +kernel
theorem f_255_3 : ftc (PT 255) 3 = some (3, .iload_n 2, 1, 0, 0, 0) := by decide +kernel
theorem f_255_4 : ftc (PT 255) 4 = some (4, .iload_n 3, 1, 0, 0, 0) := by decide +kernel
theorem f_255_5 : ftc (PT 255) 5 = some (5, .invokevirtual 237, 3, 256, 4204, 1941) := by decide +kernel
theorem f_258_0 : ftc (PT 258) 0 = some (0, .aload_n 0, 1, 0, 0, 0) := by decide +kernel
theorem f_258_1 : ftc (PT 258) 1 = some (1, .aload_n 0, 1, 0, 0, 0) := by decide +kernel
theorem f_258_2 : ftc (PT 258) 2 = some (2, .iload_n 1, 1, 0, 0, 0) := by decide +kernel
theorem f_258_3 : ftc (PT 258) 3 = some (3, .iload_n 2, 1, 0, 0, 0) := by decide +kernel
theorem f_258_4 : ftc (PT 258) 4 = some (4, .iload_n 3, 1, 0, 0, 0) := by decide +kernel
theorem f_258_5 : ftc (PT 258) 5 = some (5, .invokevirtual 244, 3, 259, 5228, 1953) := by decide +kernel
theorem f_266_0 : ftc (PT 266) 0 = some (0, .aload_n 0, 1, 0, 0, 0) := by decide +kernel
theorem f_266_1 : ftc (PT 266) 1 = some (1, .aload_n 0, 1, 0, 0, 0) := by decide +kernel
theorem f_266_2 : ftc (PT 266) 2 = some (2, .iload_n 1, 1, 0, 0, 0) := by decide +kernel
theorem f_266_3 : ftc (PT 266) 3 = some (3, .iload_n 2, 1, 0, 0, 0) := by decide +kernel
theorem f_266_4 : ftc (PT 266) 4 = some (4, .iload_n 3, 1, 0, 0, 0) := by decide +kernel
theorem f_266_5 : ftc (PT 266) 5 = some (5, .invokevirtual 237, 3, 256, 4204, 1941) := by decide +kernel
theorem f_268_0 : ftc (PT 268) 0 = some (0, .aload_n 0, 1, 0, 0, 0) := by decide +kernel
theorem f_268_1 : ftc (PT 268) 1 = some (1, .aload_n 0, 1, 0, 0, 0) := by decide +kernel
theorem f_268_2 : ftc (PT 268) 2 = some (2, .iload_n 1, 1, 0, 0, 0) := by decide +kernel
theorem f_268_3 : ftc (PT 268) 3 = some (3, .iload_n 2, 1, 0, 0, 0) := by decide +kernel
theorem f_268_4 : ftc (PT 268) 4 = some (4, .iload_n 3, 1, 0, 0, 0) := by decide +kernel
theorem f_268_5 : ftc (PT 268) 5 = some (5, .invokevirtual 244, 3, 259, 5228, 1953) := by decide +kernel
theorem f_269_0 : ftc (PT 269) 0 = some (0, .aload_n 0, 1, 0, 0, 0) := by decide +kernel
theorem f_269_1 : ftc (PT 269) 1 = some (1, .aload_n 0, 1, 0, 0, 0) := by decide +kernel
theorem f_269_2 : ftc (PT 269) 2 = some (2, .iload_n 1, 1, 0, 0, 0) := by decide +kernel
theorem f_269_3 : ftc (PT 269) 3 = some (3, .invokevirtual 150, 3, 226, 2092, 1825) := by decide +kernel
theorem f_269_6 : ftc (PT 269) 6 = some (6, .ifCond .ne 7, 3, 13, 0, 0) := by decide +kernel
theorem f_269_9 : ftc (PT 269) 9 = some (9, .iconst 1, 1, 0, 0, 0) := by decide +kernel
theorem f_269_10 : ftc (PT 269) 10 = some (10, .goto 23, 3, 33, 0, 0) := by decide +kernel
theorem f_269_13 : ftc (PT 269) 13 = some (13, .aload_n 0, 1, 0, 0, 0) := by decide +kernel
theorem f_269_14 : ftc (PT 269) 14 = some (14, .iload_n 1, 1, 0, 0, 0) := by decide +kernel
theorem f_269_15 : ftc (PT 269) 15 = some (15, .invokevirtual 227, 3, 251, 2092, 1920) := by decide +kernel
theorem f_270_0 : ftc (PT 270) 0 = some (0, .aload_n 0, 1, 0, 0, 0) := by decide +kernel
theorem f_270_1 : ftc (PT 270) 1 = some (1, .aload_n 0, 1, 0, 0, 0) := by decide +kernel
theorem f_270_2 : ftc (PT 270) 2 = some (2, .iload_n 1, 1, 0, 0, 0) := by decide +kernel
theorem f_270_3 : ftc (PT 270) 3 = some (3, .iload_n 2, 1, 0, 0, 0) := by decide +kernel
theorem f_270_4 : ftc (PT 270) 4 = some (4, .iload_n 3, 1, 0, 0, 0) := by decide +kernel
theorem f_270_5 : ftc (PT 270) 5 = some (5, .invokevirtual 237, 3, 256, 4204, 1941) := by decide +kernel
theorem f_271_0 : ftc (PT 271) 0 = some (0, .aload_n 0, 1, 0, 0, 0) := by decide +kernel
theorem f_271_1 : ftc (PT 271) 1 = some (1, .aload_n 0, 1, 0, 0, 0) := by decide +kernel
theorem f_271_2 : ftc (PT 271) 2 = some (2, .aload_n 0, 1, 0, 0, 0) := by decide +kernel
theorem f_271_3 : ftc (PT 271) 3 = some (3, .invokevirtual 92, 3, 215, 1036, 1781) := by decide +kernel
theorem f_271_6 : ftc (PT 271) 6 = some (6, .iload_n 1, 1, 0, 0, 0) := by decide +kernel
theorem f_271_7 : ftc (PT 271) 7 = some (7, .iload_n 2, 1, 0, 0, 0) := by decide +kernel
theorem f_271_8 : ftc (PT 271) 8 = some (8, .invokevirtual 244, 3, 259, 5228, 1953) := by decide +kernel
theorem f_273_0 : ftc (PT 273) 0 = some (0, .aload_n 0, 1, 0, 0, 0) := by decide +kernel
theorem f_273_1 : ftc (PT 273) 1 = some (1, .aload_n 0, 1, 0, 0, 0) := by decide +kernel
theorem f_273_2 : ftc (PT 273) 2 = some (2, .iload_n 1, 1, 0, 0, 0) := by decide +kernel
theorem f_273_3 : ftc (PT 273) 3 = some (3, .invokevirtual 150, 3, 226, 2092, 1825) := by decide +kernel
theorem f_273_6 : ftc (PT 273) 6 = some (6, .ifCond .ne 7, 3, 13, 0, 0) := by decide +kernel
theorem f_273_9 : ftc (PT 273) 9 = some (9, .iconst 1, 1, 0, 0, 0) := by decide +kernel
theorem f_273_10 : ftc (PT 273) 10 = some (10, .goto 17, 3, 27, 0, 0) := by decide +kernel
theorem f_273_13 : ftc (PT 273) 13 = some (13, .aload_n 0, 1, 0, 0, 0) := by decide +kernel
theorem f_273_14 : ftc (PT 273) 14 = some (14, .iload_n 1, 1, 0, 0, 0) := by decide +kernel
theorem f_273_15 : ftc (PT 273) 15 = some (15, .iload_n 2, 1, 0, 0, 0) := by decide +kernel
theorem f_273_16 : ftc (PT 273) 16 = some (16, .invokevirtual 271, 3, 274, 3148, 2015) := by decide +kernel
theorem f_279_0 : ftc (PT 279) 0 = some (0, .aload_n 0, 1, 0, 0, 0) := by decide +kernel
theorem f_279_1 : ftc (PT 279) 1 = some (1, .iload_n 1, 1, 0, 0, 0) := by decide +kernel
theorem f_279_2 : ftc (PT 279) 2 = some (2, .iload_n 2, 1, 0, 0, 0) := by decide +kernel
theorem f_279_3 : ftc (PT 279) 3 = some (3, .invokestatic 285, 3, 280, 2050, 2039) := by decide +kernel
theorem f_280_0 : ftc (PT 280) 0 = some (0, .iload_n 0, 1, 0, 0, 0) := by decide +kernel
theorem f_280_1 : ftc (PT 280) 1 = some (1, .iload_n 1, 1, 0, 0, 0) := by decide +kernel
theorem f_280_2 : ftc (PT 280) 2 = some (2, .invokestatic 70, 3, 207, 2050, 1621) := by decide +kernel
theorem f_281_0 : ftc (PT 281) 0 = some (0, .aload_n 0, 1, 0, 0, 0) := by decide +kernel
theorem f_281_1 : ftc (PT 281) 1 = some (1, .aload_n 0, 1, 0, 0, 0) := by decide +kernel
theorem f_281_2 : ftc (PT 281) 2 = some (2, .iload_n 1, 1, 0, 0, 0) := by decide +kernel
theorem f_281_3 : ftc (PT 281) 3 = some (3, .iload_n 2, 1, 0, 0, 0) := by decide +kernel
theorem f_281_4 : ftc (PT 281) 4 = some (4, .iload_n 3, 1, 0, 0, 0) := by decide +kernel
theorem f_281_5 : ftc (PT 281) 5 = some (5, .iload 4, 2, 0, 0, 0) := by decide +kernel
theorem f_281_7 : ftc (PT 281) 7 = some (7, .invokevirtual 297, 3, 282, 5260, 2046) := by decide +kernel
theorem f_282_0 : ftc (PT 282) 0 = some (0, .aload_n 0, 1, 0, 0, 0) := by decide +kernel
theorem f_282_1 : ftc (PT 282) 1 = some (1, .iload_n 1, 1, 0, 0, 0) := by decide +kernel
theorem f_282_2 : ftc (PT 282) 2 = some (2, .invokevirtual 150, 3, 226, 2092, 1825) := by decide +kernel
theorem f_282_5 : ftc (PT 282) 5 = some (5, .ifCond .ne 7, 3, 12, 0, 0) := by decide +kernel
theorem f_282_8 : ftc (PT 282) 8 = some (8, .iconst 1, 1, 0, 0, 0) := by decide +kernel
theorem f_282_9 : ftc (PT 282) 9 = some (9, .goto 30, 3, 39, 0, 0) := by decide +kernel
theorem f_282_12 : ftc (PT 282) 12 = some (12, .iload_n 3, 1, 0, 0, 0) := by decide +kernel
theorem f_282_13 : ftc (PT 282) 13 = some (13, .iload 4, 2, 0, 0, 0) := by decide +kernel
theorem f_282_15 : ftc (PT 282) 15 = some (15, .invokestatic 285, 3, 280, 2050, 2039) := by decide +kernel
theorem f_285_0 : ftc (PT 285) 0 = some (0, .aload_n 0, 1, 0, 0, 0) := by decide +kernel
theorem f_285_1 : ftc (PT 285) 1 = some (1, .aload_n 0, 1, 0, 0, 0) := by decide +kernel
theorem f_285_2 : ftc (PT 285) 2 = some (2, .iload_n 1, 1, 0, 0, 0) := by decide +kernel
theorem f_285_3 : ftc (PT 285) 3 = some (3, .iload_n 2, 1, 0, 0, 0) := by decide +kernel
theorem f_285_4 : ftc (PT 285) 4 = some (4, .iload_n 3, 1, 0, 0, 0) := by decide +kernel
theorem f_285_5 : ftc (PT 285) 5 = some (5, .iload 4, 2, 0, 0, 0) := by decide +kernel
theorem f_285_7 : ftc (PT 285) 7 = some (7, .invokevirtual 297, 3, 282, 5260, 2046) := by decide +kernel
theorem f_288_0 : ftc (PT 288) 0 = some (0, .aload_n 0, 1, 0, 0, 0) := by decide +kernel
theorem f_288_1 : ftc (PT 288) 1 = some (1, .aload_n 0, 1, 0, 0, 0) := by decide +kernel
theorem f_288_2 : ftc (PT 288) 2 = some (2, .iload_n 1, 1, 0, 0, 0) := by decide +kernel
theorem f_288_3 : ftc (PT 288) 3 = some (3, .iload_n 2, 1, 0, 0, 0) := by decide +kernel
theorem f_288_4 : ftc (PT 288) 4 = some (4, .iload_n 3, 1, 0, 0, 0) := by decide +kernel
theorem f_288_5 : ftc (PT 288) 5 = some (5, .iload 4, 2, 0, 0, 0) := by decide +kernel
theorem f_288_7 : ftc (PT 288) 7 = some (7, .iload 5, 2, 0, 0, 0) := by decide +kernel
theorem f_288_9 : ftc (PT 288) 9 = some (9, .iload 6, 2, 0, 0, 0) := by decide +kernel
theorem f_288_11 : ftc (PT 288) 11 = some (11, .invokevirtual 320, 3, 289, 8396, 2074) := by decide +kernel
theorem f_289_0 : ftc (PT 289) 0 = some (0, .aload_n 0, 1, 0, 0, 0) := by decide +kernel
theorem f_289_1 : ftc (PT 289) 1 = some (1, .iload_n 1, 1, 0, 0, 0) := by decide +kernel
theorem f_289_2 : ftc (PT 289) 2 = some (2, .invokevirtual 150, 3, 226, 2092, 1825) := by decide +kernel
theorem f_289_5 : ftc (PT 289) 5 = some (5, .ifCond .ne 7, 3, 12, 0, 0) := by decide +kernel
theorem f_289_8 : ftc (PT 289) 8 = some (8, .iconst 1, 1, 0, 0, 0) := by decide +kernel
theorem f_289_9 : ftc (PT 289) 9 = some (9, .goto 53, 3, 62, 0, 0) := by decide +kernel
theorem f_289_12 : ftc (PT 289) 12 = some (12, .iload_n 3, 1, 0, 0, 0) := by decide +kernel
theorem f_289_13 : ftc (PT 289) 13 = some (13, .iload 4, 2, 0, 0, 0) := by decide +kernel
theorem f_289_15 : ftc (PT 289) 15 = some (15, .invokestatic 285, 3, 280, 2050, 2039) := by decide +kernel
theorem f_291_0 : ftc (PT 291) 0 = some (0, .aload_n 0, 1, 0, 0, 0) := by decide +kernel
theorem f_291_1 : ftc (PT 291) 1 = some (1, .aload_n 0, 1, 0, 0, 0) := by decide +kernel
theorem f_291_2 : ftc (PT 291) 2 = some (2, .iload_n 1, 1, 0, 0, 0) := by decide +kernel
theorem f_291_3 : ftc (PT 291) 3 = some (3, .iload_n 2, 1, 0, 0, 0) := by decide +kernel
theorem f_291_4 : ftc (PT 291) 4 = some (4, .iload_n 3, 1, 0, 0, 0) := by decide +kernel
theorem f_291_5 : ftc (PT 291) 5 = some (5, .iload 4, 2, 0, 0, 0) := by decide +kernel
theorem f_291_7 : ftc (PT 291) 7 = some (7, .iload 5, 2, 0, 0, 0) := by decide +kernel
theorem f_291_9 : ftc (PT 291) 9 = some (9, .iload 6, 2, 0, 0, 0) := by decide +kernel
theorem f_291_11 : ftc (PT 291) 11 = some (11, .invokevirtual 320, 3, 289, 8396, 2074) := by decide +kernel
theorem f_292_0 : ftc (PT 292) 0 = some (0, .aload_n 0, 1, 0, 0, 0) := by decide +kernel
theorem f_292_1 : ftc (PT 292) 1 = some (1, .aload_n 0, 1, 0, 0, 0) := by decide +kernel
theorem f_292_2 : ftc (PT 292) 2 = some (2, .iload_n 1, 1, 0, 0, 0) := by decide +kernel
theorem f_292_3 : ftc (PT 292) 3 = some (3, .iload_n 2, 1, 0, 0, 0) := by decide +kernel
theorem f_292_4 : ftc (PT 292) 4 = some (4, .iload_n 3, 1, 0, 0, 0) := by decide +kernel
theorem f_292_5 : ftc (PT 292) 5 = some (5, .iload 4, 2, 0, 0, 0) := by decide +kernel
theorem f_292_7 : ftc (PT 292) 7 = some (7, .invokevirtual 324, 3, 293, 6284, 2090) := by decide +kernel
theorem f_293_0 : ftc (PT 293) 0 = some (0, .aload_n 0, 1, 0, 0, 0) := by decide +kernel
theorem f_293_1 : ftc (PT 293) 1 = some (1, .iload_n 1, 1, 0, 0, 0) := by decide +kernel
theorem f_293_2 : ftc (PT 293) 2 = some (2, .iload_n 2, 1, 0, 0, 0) := by decide +kernel
theorem f_293_3 : ftc (PT 293) 3 = some (3, .iload_n 3, 1, 0, 0, 0) := by decide +kernel
theorem f_293_4 : ftc (PT 293) 4 = some (4, .iload 4, 2, 0, 0, 0) := by decide +kernel
theorem f_293_6 : ftc (PT 293) 6 = some (6, .invokevirtual 297, 3, 282, 5260, 2046) := by decide +kernel
theorem f_295_0 : ftc (PT 295) 0 = some (0, .aload_n 0, 1, 0, 0, 0) := by decide +kernel
theorem f_295_1 : ftc (PT 295) 1 = some (1, .aload_n 0, 1, 0, 0, 0) := by decide +kernel
theorem f_295_2 : ftc (PT 295) 2 = some (2, .iload_n 1, 1, 0, 0, 0) := by decide +kernel
theorem f_295_3 : ftc (PT 295) 3 = some (3, .invokevirtual 150, 3, 226, 2092, 1825) := by decide +kernel
theorem f_295_6 : ftc (PT 295) 6 = some (6, .ifCond .ne 7, 3, 13, 0, 0) := by decide +kernel
theorem f_295_9 : ftc (PT 295) 9 = some (9, .iconst 1, 1, 0, 0, 0) := by decide +kernel
theorem f_295_10 : ftc (PT 295) 10 = some (10, .goto 18, 3, 28, 0, 0) := by decide +kernel
theorem f_295_13 : ftc (PT 295) 13 = some (13, .iload 5, 2, 0, 0, 0) := by decide +kernel
theorem f_295_15 : ftc (PT 295) 15 = some (15, .iconst 0, 1, 0, 0, 0) := by decide +kernel
theorem f_295_16 : ftc (PT 295) 16 = some (16, .iconst 2, 1, 0, 0, 0) := by decide +kernel
theorem f_295_17 : ftc (PT 295) 17 = some (17, .invokestatic 62, 3, 208, 3075, 1624) := by decide +kernel
theorem f_295_20 : ftc (PT 295) 20 = some (20, .ifCond .ne 7, 3, 27, 0, 0) := by decide +kernel
theorem f_295_23 : ftc (PT 295) 23 = some (23, .iconst 2, 1, 0, 0, 0) := by decide +kernel
theorem f_295_24 : ftc (PT 295) 24 = some (24, .goto 4, 3, 28, 0, 0) := by decide +kernel
theorem f_295_27 : ftc (PT 295) 27 = some (27, .iconst 0, 1, 0, 0, 0) := by decide +kernel
theorem f_295_28 : ftc (PT 295) 28 = some (28, .putfield 55, 3, 12, 0, 1636) := by decide +kernel
theorem f_295_31 : ftc (PT 295) 31 = some (31, .aload_n 0, 1, 0, 0, 0) := by decide +kernel
theorem f_295_32 : ftc (PT 295) 32 = some (32, .getfield 55, 3, 12, 0, 1636) := by decide +kernel
theorem f_295_35 : ftc (PT 295) 35 = some (35, .ifCond .le 5, 3, 40, 0, 0) := by decide +kernel
theorem f_295_38 : ftc (PT 295) 38 = some (38, .iconst 0, 1, 0, 0, 0) := by decide +kernel
theorem f_295_39 : ftc (PT 295) 39 = some (39, .ireturn, 1, 0, 0, 0) := by decide +kernel
theorem f_295_40 : ftc (PT 295) 40 = some (40, .aload_n 0, 1, 0, 0, 0) := by decide +kernel
theorem f_295_41 : ftc (PT 295) 41 = some (41, .iload_n 1, 1, 0, 0, 0) := by decide +kernel
theorem f_295_42 : ftc (PT 295) 42 = some (42, .iload_n 2, 1, 0, 0, 0) := by decide +kernel
theorem f_295_43 : ftc (PT 295) 43 = some (43, .iload_n 3, 1, 0, 0, 0) := by decide +kernel
theorem f_295_44 : ftc (PT 295) 44 = some (44, .iload 4, 2, 0, 0, 0) := by decide +kernel
theorem f_295_46 : ftc (PT 295) 46 = some (46, .invokevirtual 324, 3, 293, 6284, 2090) := by decide +kernel
theorem f_297_0 : ftc (PT 297) 0 = some (0, .aload_n 0, 1, 0, 0, 0) := by decide +kernel
theorem f_297_1 : ftc (PT 297) 1 = some (1, .aload_n 0, 1, 0, 0, 0) := by decide +kernel
theorem f_297_2 : ftc (PT 297) 2 = some (2, .iload_n 1, 1, 0, 0, 0) := by decide +kernel
theorem f_297_3 : ftc (PT 297) 3 = some (3, .iload_n 2, 1, 0, 0, 0) := by decide +kernel
theorem f_297_4 : ftc (PT 297) 4 = some (4, .invokevirtual 335, 3, 298, 3148, 2110) := by decide +kernel
theorem f_298_0 : ftc (PT 298) 0 = some (0, .aload_n 0, 1, 0, 0, 0) := by decide +kernel
theorem f_298_1 : ftc (PT 298) 1 = some (1, .iload_n 1, 1, 0, 0, 0) := by decide +kernel
theorem f_298_2 : ftc (PT 298) 2 = some (2, .invokevirtual 150, 3, 226, 2092, 1825) := by decide +kernel
theorem f_298_5 : ftc (PT 298) 5 = some (5, .ifCond .ne 7, 3, 12, 0, 0) := by decide +kernel
theorem f_298_8 : ftc (PT 298) 8 = some (8, .iconst 1, 1, 0, 0, 0) := by decide +kernel
theorem f_298_9 : ftc (PT 298) 9 = some (9, .goto 17, 3, 26, 0, 0) := by decide +kernel
theorem f_298_12 : ftc (PT 298) 12 = some (12, .aload_n 0, 1, 0, 0, 0) := by decide +kernel
theorem f_298_13 : ftc (PT 298) 13 = some (13, .iload_n 1, 1, 0, 0, 0) := by decide +kernel
theorem f_298_14 : ftc (PT 298) 14 = some (14, .iload_n 2, 1, 0, 0, 0) := by decide +kernel
theorem f_298_15 : ftc (PT 298) 15 = some (15, .invokevirtual 271, 3, 274, 3148, 2015) := by decide +kernel
theorem f_299_0 : ftc (PT 299) 0 = some (0, .aload_n 0, 1, 0, 0, 0) := by decide +kernel
theorem f_299_1 : ftc (PT 299) 1 = some (1, .aload_n 0, 1, 0, 0, 0) := by decide +kernel
theorem f_299_2 : ftc (PT 299) 2 = some (2, .iload_n 1, 1, 0, 0, 0) := by decide +kernel
theorem f_299_3 : ftc (PT 299) 3 = some (3, .iload_n 2, 1, 0, 0, 0) := by decide +kernel
theorem f_299_4 : ftc (PT 299) 4 = some (4, .invokevirtual 335, 3, 298, 3148, 2110) := by decide +kernel
theorem f_300_0 : ftc (PT 300) 0 = some (0, .aload_n 0, 1, 0, 0, 0) := by decide +kernel
theorem f_300_1 : ftc (PT 300) 1 = some (1, .aload_n 0, 1, 0, 0, 0) := by decide +kernel
theorem f_300_2 : ftc (PT 300) 2 = some (2, .iload_n 1, 1, 0, 0, 0) := by decide +kernel
theorem f_300_3 : ftc (PT 300) 3 = some (3, .invokevirtual 339, 3, 301, 2092, 2122) := by decide +kernel
theorem f_301_0 : ftc (PT 301) 0 = some (0, .aload_n 0, 1, 0, 0, 0) := by decide +kernel
theorem f_301_1 : ftc (PT 301) 1 = some (1, .iload_n 1, 1, 0, 0, 0) := by decide +kernel
theorem f_301_2 : ftc (PT 301) 2 = some (2, .invokevirtual 150, 3, 226, 2092, 1825) := by decide +kernel
theorem f_301_5 : ftc (PT 301) 5 = some (5, .ifCond .ne 7, 3, 12, 0, 0) := by decide +kernel
theorem f_301_8 : ftc (PT 301) 8 = some (8, .iconst 1, 1, 0, 0, 0) := by decide +kernel
theorem f_301_9 : ftc (PT 301) 9 = some (9, .goto 23, 3, 32, 0, 0) := by decide +kernel
theorem f_301_12 : ftc (PT 301) 12 = some (12, .aload_n 0, 1, 0, 0, 0) := by decide +kernel
theorem f_301_13 : ftc (PT 301) 13 = some (13, .iload_n 1, 1, 0, 0, 0) := by decide +kernel
theorem f_301_14 : ftc (PT 301) 14 = some (14, .invokevirtual 227, 3, 251, 2092, 1920) := by decide +kernel
theorem f_303_0 : ftc (PT 303) 0 = some (0, .aload_n 0, 1, 0, 0, 0) := by decide +kernel
theorem f_303_1 : ftc (PT 303) 1 = some (1, .aload_n 0, 1, 0, 0, 0) := by decide +kernel
theorem f_303_2 : ftc (PT 303) 2 = some (2, .iload_n 1, 1, 0, 0, 0) := by decide +kernel
theorem f_303_3 : ftc (PT 303) 3 = some (3, .invokevirtual 150, 3, 226, 2092, 1825) := by decide +kernel
theorem f_303_6 : ftc (PT 303) 6 = some (6, .ifCond .ne 7, 3, 13, 0, 0) := by decide +kernel
theorem f_303_9 : ftc (PT 303) 9 = some (9, .iconst 1, 1, 0, 0, 0) := by decide +kernel
theorem f_303_10 : ftc (PT 303) 10 = some (10, .goto 26, 3, 36, 0, 0) := by decide +kernel
theorem f_303_13 : ftc (PT 303) 13 = some (13, .aload_n 0, 1, 0, 0, 0) := by decide +kernel
theorem f_303_14 : ftc (PT 303) 14 = some (14, .iload_n 1, 1, 0, 0, 0) := by decide +kernel
theorem f_303_15 : ftc (PT 303) 15 = some (15, .invokevirtual 227, 3, 251, 2092, 1920) := by decide +kernel
theorem f_304_0 : ftc (PT 304) 0 = some (0, .aload_n 0, 1, 0, 0, 0) := by decide +kernel
theorem f_304_1 : ftc (PT 304) 1 = some (1, .aload_n 0, 1, 0, 0, 0) := by decide +kernel
theorem f_304_2 : ftc (PT 304) 2 = some (2, .iload_n 1, 1, 0, 0, 0) := by decide +kernel
theorem f_304_3 : ftc (PT 304) 3 = some (3, .invokevirtual 339, 3, 301, 2092, 2122) := by decide +kernel
theorem f_305_0 : ftc (PT 305) 0 = some (0, .aload_n 0, 1, 0, 0, 0) := by decide +kernel
theorem f_305_1 : ftc (PT 305) 1 = some (1, .aload_n 0, 1, 0, 0, 0) := by decide +kernel
theorem f_305_2 : ftc (PT 305) 2 = some (2, .iload_n 1, 1, 0, 0, 0) := by decide +kernel
theorem f_305_3 : ftc (PT 305) 3 = some (3, .invokevirtual 150, 3, 226, 2092, 1825) := by decide +kernel
theorem f_305_6 : ftc (PT 305) 6 = some (6, .ifCond .ne 7, 3, 13, 0, 0) := by decide +kernel
theorem f_305_9 : ftc (PT 305) 9 = some (9, .iconst 1, 1, 0, 0, 0) := by decide +kernel
theorem f_305_10 : ftc (PT 305) 10 = some (10, .goto 45, 3, 55, 0, 0) := by decide +kernel
theorem f_305_13 : ftc (PT 305) 13 = some (13, .iload_n 3, 1, 0, 0, 0) := by decide +kernel
theorem f_305_14 : ftc (PT 305) 14 = some (14, .iconst 1, 1, 0, 0, 0) := by decide +kernel
theorem f_305_15 : ftc (PT 305) 15 = some (15, .bipush 12, 2, 0, 0, 0) := by decide +kernel
theorem f_305_17 : ftc (PT 305) 17 = some (17, .invokestatic 62, 3, 208, 3075, 1624) := by decide +kernel
theorem f_305_20 : ftc (PT 305) 20 = some (20, .ifCond .eq 25, 3, 45, 0, 0) := by decide +kernel
theorem f_305_23 : ftc (PT 305) 23 = some (23, .iload 4, 2, 0, 0, 0) := by decide +kernel
theorem f_305_25 : ftc (PT 305) 25 = some (25, .iconst 0, 1, 0, 0, 0) := by decide +kernel
theorem f_305_26 : ftc (PT 305) 26 = some (26, .bipush 99, 2, 0, 0, 0) := by decide +kernel
theorem f_305_28 : ftc (PT 305) 28 = some (28, .invokestatic 62, 3, 208, 3075, 1624) := by decide +kernel
theorem f_305_31 : ftc (PT 305) 31 = some (31, .ifCond .eq 14, 3, 45, 0, 0) := by decide +kernel
theorem f_305_34 : ftc (PT 305) 34 = some (34, .iload 5, 2, 0, 0, 0) := by decide +kernel
theorem f_305_36 : ftc (PT 305) 36 = some (36, .iconst 1, 1, 0, 0, 0) := by decide +kernel
theorem f_305_37 : ftc (PT 305) 37 = some (37, .bipush 20, 2, 0, 0, 0) := by decide +kernel
theorem f_305_39 : ftc (PT 305) 39 = some (39, .invokestatic 62, 3, 208, 3075, 1624) := by decide +kernel
theorem f_305_42 : ftc (PT 305) 42 = some (42, .ifCond .ne 7, 3, 49, 0, 0) := by decide +kernel
theorem f_305_45 : ftc (PT 305) 45 = some (45, .iconst 2, 1, 0, 0, 0) := by decide +kernel
theorem f_305_46 : ftc (PT 305) 46 = some (46, .goto 9, 3, 55, 0, 0) := by decide +kernel
theorem f_305_49 : ftc (PT 305) 49 = some (49, .aload_n 0, 1, 0, 0, 0) := by decide +kernel
theorem f_305_50 : ftc (PT 305) 50 = some (50, .iload_n 1, 1, 0, 0, 0) := by decide +kernel
theorem f_305_51 : ftc (PT 305) 51 = some (51, .iload_n 2, 1, 0, 0, 0) := by decide +kernel
theorem f_305_52 : ftc (PT 305) 52 = some (52, .invokevirtual 347, 3, 306, 3148, 2143) := by decide +kernel
theorem f_306_0 : ftc (PT 306) 0 = some (0, .aload_n 0, 1, 0, 0, 0) := by decide +kernel
theorem f_306_1 : ftc (PT 306) 1 = some (1, .iload_n 1, 1, 0, 0, 0) := by decide +kernel
theorem f_306_2 : ftc (PT 306) 2 = some (2, .iload_n 2, 1, 0, 0, 0) := by decide +kernel
theorem f_306_3 : ftc (PT 306) 3 = some (3, .invokevirtual 271, 3, 274, 3148, 2015) := by decide +kernel
theorem f_308_0 : ftc (PT 308) 0 = some (0, .aload_n 0, 1, 0, 0, 0) := by decide +kernel
theorem f_308_1 : ftc (PT 308) 1 = some (1, .aload_n 0, 1, 0, 0, 0) := by decide +kernel
theorem f_308_2 : ftc (PT 308) 2 = some (2, .iload_n 1, 1, 0, 0, 0) := by decide +kernel
theorem f_308_3 : ftc (PT 308) 3 = some (3, .invokevirtual 150, 3, 226, 2092, 1825) := by decide +kernel
theorem f_308_6 : ftc (PT 308) 6 = some (6, .ifCond .ne 7, 3, 13, 0, 0) := by decide +kernel
theorem f_308_9 : ftc (PT 308) 9 = some (9, .iconst 1, 1, 0, 0, 0) := by decide +kernel
theorem f_308_10 : ftc (PT 308) 10 = some (10, .goto 45, 3, 55, 0, 0) := by decide +kernel
theorem f_308_13 : ftc (PT 308) 13 = some (13, .iload 5, 2, 0, 0, 0) := by decide +kernel
theorem f_308_15 : ftc (PT 308) 15 = some (15, .iconst 0, 1, 0, 0, 0) := by decide +kernel
theorem f_308_16 : ftc (PT 308) 16 = some (16, .iconst 3, 1, 0, 0, 0) := by decide +kernel
theorem f_308_17 : ftc (PT 308) 17 = some (17, .invokestatic 62, 3, 208, 3075, 1624) := by decide +kernel
theorem f_308_20 : ftc (PT 308) 20 = some (20, .ifCond .ne 7, 3, 27, 0, 0) := by decide +kernel
theorem f_308_23 : ftc (PT 308) 23 = some (23, .iconst 2, 1, 0, 0, 0) := by decide +kernel
theorem f_308_24 : ftc (PT 308) 24 = some (24, .goto 31, 3, 55, 0, 0) := by decide +kernel
theorem f_308_27 : ftc (PT 308) 27 = some (27, .iload_n 3, 1, 0, 0, 0) := by decide +kernel
theorem f_308_28 : ftc (PT 308) 28 = some (28, .iconst 1, 1, 0, 0, 0) := by decide +kernel
theorem f_308_29 : ftc (PT 308) 29 = some (29, .bipush 12, 2, 0, 0, 0) := by decide +kernel
theorem f_308_31 : ftc (PT 308) 31 = some (31, .invokestatic 62, 3, 208, 3075, 1624) := by decide +kernel
theorem f_308_34 : ftc (PT 308) 34 = some (34, .ifCond .ne 7, 3, 41, 0, 0) := by decide +kernel
theorem f_308_37 : ftc (PT 308) 37 = some (37, .iconst 3, 1, 0, 0, 0) := by decide +kernel
theorem f_308_38 : ftc (PT 308) 38 = some (38, .goto 17, 3, 55, 0, 0) := by decide +kernel
theorem f_308_41 : ftc (PT 308) 41 = some (41, .aload_n 0, 1, 0, 0, 0) := by decide +kernel
theorem f_308_42 : ftc (PT 308) 42 = some (42, .iload_n 1, 1, 0, 0, 0) := by decide +kernel
theorem f_308_43 : ftc (PT 308) 43 = some (43, .iload_n 2, 1, 0, 0, 0) := by decide +kernel
theorem f_308_44 : ftc (PT 308) 44 = some (44, .invokevirtual 271, 3, 274, 3148, 2015) := by decide +kernel
theorem f_309_0 : ftc (PT 309) 0 = some (0, .aload_n 0, 1, 0, 0, 0) := by decide +kernel
theorem f_309_1 : ftc (PT 309) 1 = some (1, .iload_n 2, 1, 0, 0, 0) := by decide +kernel
theorem f_309_2 : ftc (PT 309) 2 = some (2, .iconst 0, 1, 0, 0, 0) := by decide +kernel
theorem f_309_3 : ftc (PT 309) 3 = some (3, .iconst 5, 1, 0, 0, 0) := by decide +kernel
theorem f_309_4 : ftc (PT 309) 4 = some (4, .invokestatic 62, 3, 208, 3075, 1624) := by decide +kernel
theorem f_309_7 : ftc (PT 309) 7 = some (7, .ifCond .ne 7, 3, 14, 0, 0) := by decide +kernel
theorem f_309_10 : ftc (PT 309) 10 = some (10, .iconst 1, 1, 0, 0, 0) := by decide +kernel
theorem f_309_11 : ftc (PT 309) 11 = some (11, .goto 29, 3, 40, 0, 0) := by decide +kernel
theorem f_309_14 : ftc (PT 309) 14 = some (14, .iload_n 1, 1, 0, 0, 0) := by decide +kernel
theorem f_309_15 : ftc (PT 309) 15 = some (15, .iconst 1, 1, 0, 0, 0) := by decide +kernel
theorem f_309_16 : ftc (PT 309) 16 = some (16, .iconst 4, 1, 0, 0, 0) := by decide +kernel
theorem f_309_17 : ftc (PT 309) 17 = some (17, .invokestatic 62, 3, 208, 3075, 1624) := by decide +kernel
theorem f_309_20 : ftc (PT 309) 20 = some (20, .ifCond .ne 7, 3, 27, 0, 0) := by decide +kernel
theorem f_309_23 : ftc (PT 309) 23 = some (23, .iconst 2, 1, 0, 0, 0) := by decide +kernel
theorem f_309_24 : ftc (PT 309) 24 = some (24, .goto 16, 3, 40, 0, 0) := by decide +kernel
theorem f_309_27 : ftc (PT 309) 27 = some (27, .aload_n 0, 1, 0, 0, 0) := by decide +kernel
theorem f_309_28 : ftc (PT 309) 28 = some (28, .invokevirtual 92, 3, 215, 1036, 1781) := by decide +kernel
theorem f_309_31 : ftc (PT 309) 31 = some (31, .iconst 2, 1, 0, 0, 0) := by decide +kernel
theorem f_309_32 : ftc (PT 309) 32 = some (32, .if_icmp .le 7, 3, 39, 0, 0) := by decide +kernel
theorem f_309_35 : ftc (PT 309) 35 = some (35, .iconst 3, 1, 0, 0, 0) := by decide +kernel
theorem f_309_36 : ftc (PT 309) 36 = some (36, .goto 4, 3, 40, 0, 0) := by decide +kernel
theorem f_309_39 : ftc (PT 309) 39 = some (39, .iconst 0, 1, 0, 0, 0) := by decide +kernel
theorem f_309_40 : ftc (PT 309) 40 = some (40, .putfield 55, 3, 12, 0, 1636) := by decide +kernel
theorem f_309_43 : ftc (PT 309) 43 = some (43, .aload_n 0, 1, 0, 0, 0) := by decide +kernel
theorem f_309_44 : ftc (PT 309) 44 = some (44, .getfield 55, 3, 12, 0, 1636) := by decide +kernel
theorem f_309_47 : ftc (PT 309) 47 = some (47, .ifCond .le 5, 3, 52, 0, 0) := by decide +kernel
theorem f_309_50 : ftc (PT 309) 50 = some (50, .iconst 0, 1, 0, 0, 0) := by decide +kernel
theorem f_309_51 : ftc (PT 309) 51 = some (51, .ireturn, 1, 0, 0, 0) := by decide +kernel
theorem f_309_52 : ftc (PT 309) 52 = some (52, .aload_n 0, 1, 0, 0, 0) := by decide +kernel
theorem f_309_53 : ftc (PT 309) 53 = some (53, .iload_n 1, 1, 0, 0, 0) := by decide +kernel
theorem f_309_54 : ftc (PT 309) 54 = some (54, .iconst 0, 1, 0, 0, 0) := by decide +kernel
theorem f_309_55 : ftc (PT 309) 55 = some (55, .invokevirtual 421, 3, 310, 5196, 2159) := by decide +kernel
theorem f_322_0 : ftc (PT 322) 0 = some (0, .aload_n 0, 1, 0, 0, 0) := by decide +kernel
theorem f_322_1 : ftc (PT 322) 1 = some (1, .iload_n 3, 1, 0, 0, 0) := by decide +kernel
theorem f_322_2 : ftc (PT 322) 2 = some (2, .iconst 0, 1, 0, 0, 0) := by decide +kernel
theorem f_322_3 : ftc (PT 322) 3 = some (3, .iconst 4, 1, 0, 0, 0) := by decide +kernel
theorem f_322_4 : ftc (PT 322) 4 = some (4, .invokestatic 62, 3, 208, 3075, 1624) := by decide +kernel
theorem f_322_7 : ftc (PT 322) 7 = some (7, .ifCond .ne 7, 3, 14, 0, 0) := by decide +kernel
theorem f_322_10 : ftc (PT 322) 10 = some (10, .iconst 1, 1, 0, 0, 0) := by decide +kernel
theorem f_322_11 : ftc (PT 322) 11 = some (11, .goto 30, 3, 41, 0, 0) := by decide +kernel
theorem f_322_14 : ftc (PT 322) 14 = some (14, .iload_n 1, 1, 0, 0, 0) := by decide +kernel
theorem f_322_15 : ftc (PT 322) 15 = some (15, .iconst 1, 1, 0, 0, 0) := by decide +kernel
theorem f_322_16 : ftc (PT 322) 16 = some (16, .bipush 12, 2, 0, 0, 0) := by decide +kernel
theorem f_322_18 : ftc (PT 322) 18 = some (18, .invokestatic 62, 3, 208, 3075, 1624) := by decide +kernel
theorem f_322_21 : ftc (PT 322) 21 = some (21, .ifCond .ne 7, 3, 28, 0, 0) := by decide +kernel
theorem f_322_24 : ftc (PT 322) 24 = some (24, .iconst 2, 1, 0, 0, 0) := by decide +kernel
theorem f_322_25 : ftc (PT 322) 25 = some (25, .goto 16, 3, 41, 0, 0) := by decide +kernel
theorem f_322_28 : ftc (PT 322) 28 = some (28, .aload_n 0, 1, 0, 0, 0) := by decide +kernel
theorem f_322_29 : ftc (PT 322) 29 = some (29, .invokevirtual 92, 3, 215, 1036, 1781) := by decide +kernel
theorem f_322_32 : ftc (PT 322) 32 = some (32, .iconst 2, 1, 0, 0, 0) := by decide +kernel
theorem f_322_33 : ftc (PT 322) 33 = some (33, .if_icmp .le 7, 3, 40, 0, 0) := by decide +kernel
theorem f_322_36 : ftc (PT 322) 36 = some (36, .iconst 3, 1, 0, 0, 0) := by decide +kernel
theorem f_322_37 : ftc (PT 322) 37 = some (37, .goto 4, 3, 41, 0, 0) := by decide +kernel
theorem f_322_40 : ftc (PT 322) 40 = some (40, .iconst 0, 1, 0, 0, 0) := by decide +kernel
theorem f_322_41 : ftc (PT 322) 41 = some (41, .putfield 55, 3, 12, 0, 1636) := by decide +kernel
theorem f_322_44 : ftc (PT 322) 44 = some (44, .aload_n 0, 1, 0, 0, 0) := by decide +kernel
theorem f_322_45 : ftc (PT 322) 45 = some (45, .getfield 55, 3, 12, 0, 1636) := by decide +kernel
theorem f_322_48 : ftc (PT 322) 48 = some (48, .ifCond .le 5, 3, 53, 0, 0) := by decide +kernel
theorem f_322_51 : ftc (PT 322) 51 = some (51, .iconst 0, 1, 0, 0, 0) := by decide +kernel
theorem f_322_52 : ftc (PT 322) 52 = some (52, .ireturn, 1, 0, 0, 0) := by decide +kernel
theorem f_322_53 : ftc (PT 322) 53 = some (53, .aload_n 0, 1, 0, 0, 0) := by decide +kernel
theorem f_322_54 : ftc (PT 322) 54 = some (54, .iload_n 2, 1, 0, 0, 0) := by decide +kernel
theorem f_322_55 : ftc (PT 322) 55 = some (55, .putfield 409, 3, 12, 33, 1669) := by decide +kernel
theorem f_322_58 : ftc (PT 322) 58 = some (58, .aload_n 0, 1, 0, 0, 0) := by decide +kernel
theorem f_322_59 : ftc (PT 322) 59 = some (59, .iload_n 1, 1, 0, 0, 0) := by decide +kernel
theorem f_322_60 : ftc (PT 322) 60 = some (60, .iconst 1, 1, 0, 0, 0) := by decide +kernel
theorem f_322_61 : ftc (PT 322) 61 = some (61, .invokevirtual 421, 3, 310, 5196, 2159) := by decide +kernel
theorem f_323_0 : ftc (PT 323) 0 = some (0, .aload_n 0, 1, 0, 0, 0) := by decide +kernel
theorem f_323_1 : ftc (PT 323) 1 = some (1, .iload_n 2, 1, 0, 0, 0) := by decide +kernel
theorem f_323_2 : ftc (PT 323) 2 = some (2, .iconst 0, 1, 0, 0, 0) := by decide +kernel
theorem f_323_3 : ftc (PT 323) 3 = some (3, .iconst 3, 1, 0, 0, 0) := by decide +kernel
theorem f_323_4 : ftc (PT 323) 4 = some (4, .invokestatic 62, 3, 208, 3075, 1624) := by decide +kernel
theorem f_323_7 : ftc (PT 323) 7 = some (7, .ifCond .ne 7, 3, 14, 0, 0) := by decide +kernel
theorem f_323_10 : ftc (PT 323) 10 = some (10, .iconst 1, 1, 0, 0, 0) := by decide +kernel
theorem f_323_11 : ftc (PT 323) 11 = some (11, .goto 29, 3, 40, 0, 0) := by decide +kernel
theorem f_323_14 : ftc (PT 323) 14 = some (14, .iload_n 1, 1, 0, 0, 0) := by decide +kernel
theorem f_323_15 : ftc (PT 323) 15 = some (15, .iconst 1, 1, 0, 0, 0) := by decide +kernel
theorem f_323_16 : ftc (PT 323) 16 = some (16, .bipush 12, 2, 0, 0, 0) := by decide +kernel
theorem f_323_18 : ftc (PT 323) 18 = some (18, .invokestatic 62, 3, 208, 3075, 1624) := by decide +kernel
theorem f_323_21 : ftc (PT 323) 21 = some (21, .ifCond .ne 7, 3, 28, 0, 0) := by decide +kernel
theorem f_323_24 : ftc (PT 323) 24 = some (24, .iconst 2, 1, 0, 0, 0) := by decide +kernel
theorem f_323_25 : ftc (PT 323) 25 = some (25, .goto 15, 3, 40, 0, 0) := by decide +kernel
theorem f_323_28 : ftc (PT 323) 28 = some (28, .aload_n 0, 1, 0, 0, 0) := by decide +kernel
theorem f_323_29 : ftc (PT 323) 29 = some (29, .invokevirtual 92, 3, 215, 1036, 1781) := by decide +kernel
theorem f_323_32 : ftc (PT 323) 32 = some (32, .ifCond .ne 7, 3, 39, 0, 0) := by decide +kernel
theorem f_323_35 : ftc (PT 323) 35 = some (35, .iconst 3, 1, 0, 0, 0) := by decide +kernel
theorem f_323_36 : ftc (PT 323) 36 = some (36, .goto 4, 3, 40, 0, 0) := by decide +kernel
theorem f_323_39 : ftc (PT 323) 39 = some (39, .iconst 0, 1, 0, 0, 0) := by decide +kernel
theorem f_323_40 : ftc (PT 323) 40 = some (40, .putfield 55, 3, 12, 0, 1636) := by decide +kernel
theorem f_323_43 : ftc (PT 323) 43 = some (43, .aload_n 0, 1, 0, 0, 0) := by decide +kernel
theorem f_323_44 : ftc (PT 323) 44 = some (44, .getfield 55, 3, 12, 0, 1636) := by decide +kernel
theorem f_323_47 : ftc (PT 323) 47 = some (47, .ifCond .le 5, 3, 52, 0, 0) := by decide +kernel
theorem f_323_50 : ftc (PT 323) 50 = some (50, .iconst 0, 1, 0, 0, 0) := by decide +kernel
theorem f_323_51 : ftc (PT 323) 51 = some (51, .ireturn, 1, 0, 0, 0) := by decide +kernel
theorem f_323_52 : ftc (PT 323) 52 = some (52, .aload_n 0, 1, 0, 0, 0) := by decide +kernel
theorem f_323_53 : ftc (PT 323) 53 = some (53, .invokevirtual 384, 3, 311, 1036, 2163) := by decide +kernel
theorem f_323_56 : ftc (PT 323) 56 = some (56, .iconst 0, 1, 0, 0, 0) := by decide +kernel
theorem f_323_57 : ftc (PT 323) 57 = some (57, .istore_n 3, 1, 0, 0, 0) := by decide +kernel
set_option maxRecDepth 10000 in
set_option maxHeartbeats 4000000 in
theorem s_88_0 {Lx : Nat} {I : Mi} {L : Ml} {e : Nat} {Q : Kq} {x1 : Int32} (h :
    (if x1 < 0 then
     Q (.inl (some (.int (Int32.ofInt (-1))))) (gE Lx) I L e
    else
     (if x1 < (I 5 3) then
      (if x1 < (Int32.ofInt 4) then
       Wp 89 0 [(0, .ref 1)] [] (gE Lx) I L e (kcp (Wp 88) 88 27 0 [(0, .ref 1), (1, .int x1)] 71 [] Q)
      else
       Q (.inl (some (.int (Int32.ofInt (-1))))) (gE Lx) I L e)
     else
      Q (.inl (some (.int (Int32.ofInt (-1))))) (gE Lx) I L e))) :
    Wp 88 0 [(0, .ref 1), (1, .int x1)] [] (gE Lx) I L e Q := by
  refine w_a f_88_0 ?_
  refine w_a f_88_1 ?_
  refine i_m (fun h => ?_) (fun h => ?_) h
  · refine w_a f_88_24 ?_
    refine w_a f_88_25 ?_
    exact h
  · refine w_a f_88_4 ?_
    refine w_a f_88_5 ?_
    refine w_a f_88_6 ?_
    refine w_a f_88_9 ?_
    refine w_a f_88_12 ?_
    refine i_m (fun h => ?_) (fun h => ?_) h
    · refine w_a f_88_15 ?_
      refine w_a f_88_16 ?_
      refine w_a f_88_17 ?_
      refine w_a f_88_20 ?_
      refine w_a f_88_21 ?_
      refine i_m (fun h => ?_) (fun h => ?_) h
      · refine w_a f_88_26 ?_
        exact w_c (ks := [0, 1]) f_88_27 rfl rfl h
      · refine w_a f_88_24 ?_
        refine w_a f_88_25 ?_
        exact h
    · refine w_a f_88_24 ?_
      refine w_a f_88_25 ?_
      exact h
set_option maxRecDepth 10000 in
set_option maxHeartbeats 4000000 in
theorem s_93_0 {Lx : Nat} {I : Mi} {L : Ml} {e : Nat} {Q : Kq} (h :
    Wp 89 0 [(0, .ref 1)] [] (gE Lx) I L e (kcp (Wp 93) 93 1 0 [(0, .ref 1)] 71 [] Q)) :
    Wp 93 0 [(0, .ref 1)] [] (gE Lx) I L e Q := by
  refine w_a f_93_0 ?_
  exact w_c (ks := [0]) f_93_1 rfl rfl h
set_option maxRecDepth 10000 in
set_option maxHeartbeats 4000000 in
theorem s_94_0 {Lx : Nat} {I : Mi} {L : Ml} {e : Nat} {Q : Kq} (h :
    Wp 95 0 [(0, .ref 1), (1, .ref 5)] [] (gE Lx) I L e (kcp (Wp 94) 94 5 0 [(0, .ref 1)] 71 [] Q)) :
    Wp 94 0 [(0, .ref 1)] [] (gE Lx) I L e Q := by
  refine w_a f_94_0 ?_
  refine w_a f_94_1 ?_
  refine w_a f_94_2 ?_
  exact w_c (ks := [0]) f_94_5 rfl rfl h
set_option maxRecDepth 10000 in
set_option maxHeartbeats 4000000 in
theorem s_100_0 {Lx : Nat} {I : Mi} {L : Ml} {e : Nat} {Q : Kq} {x1 : Int32} (h :
    Wp 101 0 [(0, .ref 1)] [] (gE Lx) I L e (kcp (Wp 100) 100 1 0 [(0, .ref 1), (1, .int x1)] 71 [] Q)) :
    Wp 100 0 [(0, .ref 1), (1, .int x1)] [] (gE Lx) I L e Q := by
  refine w_a f_100_0 ?_
  exact w_c (ks := [0, 1]) f_100_1 rfl rfl h
set_option maxRecDepth 10000 in
set_option maxHeartbeats 4000000 in
theorem s_103_0 {Lx : Nat} {I : Mi} {L : Ml} {e : Nat} {Q : Kq} {x1 : Int32} (h :
    (if x1 = Int32.ofInt 0 then
     Q (.inl (some (.int (I 5 3)))) (gE Lx) I L e
    else
    (if x1 = Int32.ofInt 1 then
     Q (.inl (some (.int (I 5 0)))) (gE Lx) I L e
    else
    (if x1 = Int32.ofInt 2 then
     Q (.inl (some (.int (I 5 1)))) (gE Lx) I L e
    else
    (if x1 = Int32.ofInt 3 then
     Q (.inl (some (.int (I 5 2)))) (gE Lx) I L e
    else
    (if x1 = Int32.ofInt 4 then
     Q (.inl (some (.int (I 1 4)))) (gE Lx) I L e
    else
    (if x1 = Int32.ofInt 5 then
     Q (.inl (some (.int (I 1 5)))) (gE Lx) I L e
    else
    (if x1 = Int32.ofInt 6 then
     Wp 104 4 [(0, .ref 1), (1, .int (Int32.ofInt 0)), (2, .int (Int32.ofInt 0))] [] (gE Lx) I L e (kcp (Wp 103) 103 99 0 [(0, .ref 1)] 71 [] Q)
    else
    (if x1 = Int32.ofInt 7 then
     Wp 106 0 [(0, .ref 5), (1, .int (I 5 3)), (2, .ref 14)] [] (gE Lx) I L e (kcp (Wp 105) 105 15 0 [(0, .ref 1)] 71 [] (kcp (Wp 103) 103 104 0 [(0, .ref 1)] 71 [] Q))
    else
    (if x1 = Int32.ofInt 8 then
     Wp 107 2 [(0, .ref 1), (1, .int (Int32.ofInt 3))] [] (gE Lx) I L e (kcp (Wp 103) 103 117 0 [(0, .ref 1)] 71 [] Q)
    else
    (if x1 = Int32.ofInt 9 then
     Wp 109 4 [(0, .ref 1), (1, .int (Int32.ofInt 0)), (2, .int (Int32.ofInt 1))] [] (gE Lx) I L e (kcp (Wp 103) 103 122 0 [(0, .ref 1)] 71 [] Q)
    else
     Q (.inl (some (.int (Int32.ofInt (-1))))) (gE Lx) I L e))))))))))) :
    Wp 103 0 [(0, .ref 1), (1, .int x1)] [] (gE Lx) I L e Q := by
  refine w_a f_103_0 ?_
  refine w_a f_103_1 ?_
  refine i_m (fun h => ?_) (fun h => ?_) h
  · refine w_a f_103_56 ?_
    refine w_a f_103_57 ?_
    refine w_a f_103_60 ?_
    refine w_a f_103_63 ?_
    exact h
  · refine i_m (fun h => ?_) (fun h => ?_) h
    · refine w_a f_103_64 ?_
      refine w_a f_103_65 ?_
      refine w_a f_103_68 ?_
      refine w_a f_103_71 ?_
      exact h
    · refine i_m (fun h => ?_) (fun h => ?_) h
      · refine w_a f_103_72 ?_
        refine w_a f_103_73 ?_
        refine w_a f_103_76 ?_
        refine w_a f_103_79 ?_
        exact h
      · refine i_m (fun h => ?_) (fun h => ?_) h
        · refine w_a f_103_80 ?_
          refine w_a f_103_81 ?_
          refine w_a f_103_84 ?_
          refine w_a f_103_87 ?_
          exact h
        · refine i_m (fun h => ?_) (fun h => ?_) h
          · refine w_a f_103_88 ?_
            refine w_a f_103_89 ?_
            refine w_a f_103_92 ?_
            exact h
          · refine i_m (fun h => ?_) (fun h => ?_) h
            · refine w_a f_103_93 ?_
              refine w_a f_103_94 ?_
              refine w_a f_103_97 ?_
              exact h
            · refine i_m (fun h => ?_) (fun h => ?_) h
              · refine w_a f_103_98 ?_
                refine w_c (ks := [0]) f_103_99 rfl rfl ?_
                refine w_a (ls := [(0, .ref 1)]) f_104_0 ?_
                refine w_a f_104_1 ?_
                refine w_a (ls := [(1, .int (Int32.ofInt 0)), (0, .ref 1)]) f_104_2 ?_
                refine w_a f_104_3 ?_
                exact w_n (ks := [0, 1, 2]) rfl h
              · refine i_m (fun h => ?_) (fun h => ?_) h
                · refine w_a f_103_103 ?_
                  refine w_c (ks := [0]) f_103_104 rfl rfl ?_
                  refine w_a (ls := [(0, .ref 1)]) f_105_0 ?_
                  refine w_a f_105_1 ?_
                  refine w_a f_105_4 ?_
                  refine w_a f_105_5 ?_
                  refine w_a f_105_8 ?_
                  refine w_a f_105_11 ?_
                  refine w_a f_105_12 ?_
                  exact w_c (ks := [0]) f_105_15 rfl rfl h
                · refine i_m (fun h => ?_) (fun h => ?_) h
                  · refine w_a f_103_116 ?_
                    refine w_c (ks := [0]) f_103_117 rfl rfl ?_
                    refine w_a (ls := [(0, .ref 1)]) f_107_0 ?_
                    refine w_a f_107_1 ?_
                    exact w_n (ks := [0, 1]) rfl h
                  · refine i_m (fun h => ?_) (fun h => ?_) h
                    · refine w_a f_103_121 ?_
                      refine w_c (ks := [0]) f_103_122 rfl rfl ?_
                      refine w_a (ls := [(0, .ref 1)]) f_109_0 ?_
                      refine w_a f_109_1 ?_
                      refine w_a (ls := [(1, .int (Int32.ofInt 0)), (0, .ref 1)]) f_109_2 ?_
                      refine w_a f_109_3 ?_
                      exact w_n (ks := [0, 1, 2]) rfl h
                    · refine w_a f_103_126 ?_
                      refine w_a f_103_127 ?_
                      exact h
set_option maxRecDepth 10000 in
set_option maxHeartbeats 4000000 in
theorem s_213_0 {Lx : Nat} {I : Mi} {L : Ml} {e : Nat} {Q : Kq} {x1 : Int32} {x2 : Int32} {x3 : Int32} (h :
    (if x1 < (Int32.ofInt 0) then
     Q (.inl (some (.int (Int32.ofInt 0)))) (gE Lx) (ui I 58 0 (Int32.ofInt 1)) L e
    else
     (if (Int32.ofInt 99) < x1 then
      Q (.inl (some (.int (Int32.ofInt 0)))) (gE Lx) (ui I 58 0 (Int32.ofInt 1)) L e
     else
      (if x2 < (Int32.ofInt (-99)) then
       Q (.inl (some (.int (Int32.ofInt 0)))) (gE Lx) (ui I 58 0 (Int32.ofInt 1)) L e
      else
       (if (Int32.ofInt 99) < x2 then
        Q (.inl (some (.int (Int32.ofInt 0)))) (gE Lx) (ui I 58 0 (Int32.ofInt 1)) L e
       else
        (if x3 < (Int32.ofInt 1) then
         Q (.inl (some (.int (Int32.ofInt 0)))) (gE Lx) (ui I 58 0 (Int32.ofInt 1)) L e
        else
         (if (Int32.ofInt 20) < x3 then
          Q (.inl (some (.int (Int32.ofInt 0)))) (gE Lx) (ui I 58 0 (Int32.ofInt 1)) L e
         else
          Q (.inl (some (.int (Int32.ofInt 0)))) (gE Lx) (ui (ui (ui (ui I 58 0 (Int32.ofInt 0)) 59 0 x1) 59 1 x2) 59 2 x3) L e))))))) :
    Wp 213 0 [(0, .ref 58), (1, .int x1), (2, .int x2), (3, .int x3)] [] (gE Lx) I L e Q := by
  refine w_a f_213_0 ?_
  refine w_a f_213_1 ?_
  refine w_a f_213_2 ?_
  refine w_a f_213_3 ?_
  refine w_a f_213_5 ?_
  refine w_a (ls := [(0, .int x1), (1, .int (Int32.ofInt 0)), (2, .int (Int32.ofInt 99))]) f_208_0 ?_
  refine w_a f_208_1 ?_
  refine w_a f_208_2 ?_
  refine i_m (fun h => ?_) (fun h => ?_) h
  · refine w_a f_208_14 ?_
    refine w_a f_208_15 ?_
    refine w_a (ls := [(0, .ref 58), (1, .int x1), (2, .int x2), (3, .int x3)]) f_213_8 ?_
    refine w_a f_213_36 ?_
    refine w_a f_213_37 ?_
    refine w_a f_213_40 ?_
    refine w_a f_213_41 ?_
    refine w_a f_213_44 ?_
    refine w_a f_213_47 ?_
    refine w_a f_213_48 ?_
    exact h
  · refine w_a f_208_5 ?_
    refine w_a f_208_6 ?_
    refine w_a f_208_7 ?_
    refine i_m (fun h => ?_) (fun h => ?_) h
    · refine w_a f_208_14 ?_
      refine w_a f_208_15 ?_
      refine w_a (ls := [(0, .ref 58), (1, .int x1), (2, .int x2), (3, .int x3)]) f_213_8 ?_
      refine w_a f_213_36 ?_
      refine w_a f_213_37 ?_
      refine w_a f_213_40 ?_
      refine w_a f_213_41 ?_
      refine w_a f_213_44 ?_
      refine w_a f_213_47 ?_
      refine w_a f_213_48 ?_
      exact h
    · refine w_a f_208_10 ?_
      refine w_a f_208_11 ?_
      refine w_a f_208_15 ?_
      refine w_a (ls := [(0, .ref 58), (1, .int x1), (2, .int x2), (3, .int x3)]) f_213_8 ?_
      refine w_a f_213_11 ?_
      refine w_a f_213_12 ?_
      refine w_a f_213_14 ?_
      refine w_a f_213_16 ?_
      refine w_a (ls := [(0, .int x2), (1, .int (Int32.ofInt (-99))), (2, .int (Int32.ofInt 99))]) f_208_0 ?_
      refine w_a f_208_1 ?_
      refine w_a f_208_2 ?_
      refine i_m (fun h => ?_) (fun h => ?_) h
      · refine w_a f_208_14 ?_
        refine w_a f_208_15 ?_
        refine w_a (ls := [(0, .ref 58), (1, .int x1), (2, .int x2), (3, .int x3)]) f_213_19 ?_
        refine w_a f_213_36 ?_
        refine w_a f_213_37 ?_
        refine w_a f_213_40 ?_
        refine w_a f_213_41 ?_
        refine w_a f_213_44 ?_
        refine w_a f_213_47 ?_
        refine w_a f_213_48 ?_
        exact h
      · refine w_a f_208_5 ?_
        refine w_a f_208_6 ?_
        refine w_a f_208_7 ?_
        refine i_m (fun h => ?_) (fun h => ?_) h
        · refine w_a f_208_14 ?_
          refine w_a f_208_15 ?_
          refine w_a (ls := [(0, .ref 58), (1, .int x1), (2, .int x2), (3, .int x3)]) f_213_19 ?_
          refine w_a f_213_36 ?_
          refine w_a f_213_37 ?_
          refine w_a f_213_40 ?_
          refine w_a f_213_41 ?_
          refine w_a f_213_44 ?_
          refine w_a f_213_47 ?_
          refine w_a f_213_48 ?_
          exact h
        · refine w_a f_208_10 ?_
          refine w_a f_208_11 ?_
          refine w_a f_208_15 ?_
          refine w_a (ls := [(0, .ref 58), (1, .int x1), (2, .int x2), (3, .int x3)]) f_213_19 ?_
          refine w_a f_213_22 ?_
          refine w_a f_213_23 ?_
          refine w_a f_213_24 ?_
          refine w_a f_213_26 ?_
          refine w_a (ls := [(0, .int x3), (1, .int (Int32.ofInt 1)), (2, .int (Int32.ofInt 20))]) f_208_0 ?_
          refine w_a f_208_1 ?_
          refine w_a f_208_2 ?_
          refine i_m (fun h => ?_) (fun h => ?_) h
          · refine w_a f_208_14 ?_
            refine w_a f_208_15 ?_
            refine w_a (ls := [(0, .ref 58), (1, .int x1), (2, .int x2), (3, .int x3)]) f_213_29 ?_
            refine w_a f_213_36 ?_
            refine w_a f_213_37 ?_
            refine w_a f_213_40 ?_
            refine w_a f_213_41 ?_
            refine w_a f_213_44 ?_
            refine w_a f_213_47 ?_
            refine w_a f_213_48 ?_
            exact h
          · refine w_a f_208_5 ?_
            refine w_a f_208_6 ?_
            refine w_a f_208_7 ?_
            refine i_m (fun h => ?_) (fun h => ?_) h
            · refine w_a f_208_14 ?_
              refine w_a f_208_15 ?_
              refine w_a (ls := [(0, .ref 58), (1, .int x1), (2, .int x2), (3, .int x3)]) f_213_29 ?_
              refine w_a f_213_36 ?_
              refine w_a f_213_37 ?_
              refine w_a f_213_40 ?_
              refine w_a f_213_41 ?_
              refine w_a f_213_44 ?_
              refine w_a f_213_47 ?_
              refine w_a f_213_48 ?_
              exact h
            · refine w_a f_208_10 ?_
              refine w_a f_208_11 ?_
              refine w_a f_208_15 ?_
              refine w_a (ls := [(0, .ref 58), (1, .int x1), (2, .int x2), (3, .int x3)]) f_213_29 ?_
              refine w_a f_213_32 ?_
              refine w_a f_213_33 ?_
              refine w_a f_213_37 ?_
              refine w_a f_213_40 ?_
              refine w_a f_213_41 ?_
              refine w_a f_213_44 ?_
              refine w_a f_213_49 ?_
              refine w_a f_213_50 ?_
              refine w_a f_213_53 ?_
              refine w_a f_213_54 ?_
              refine w_a f_213_55 ?_
              refine w_a f_213_56 ?_
              refine w_a f_213_57 ?_
              refine w_a f_213_60 ?_
              refine w_a f_213_61 ?_
              refine w_a f_213_62 ?_
              refine w_a f_213_63 ?_
              refine w_a f_213_64 ?_
              refine w_a f_213_67 ?_
              refine w_a f_213_68 ?_
              refine w_a f_213_69 ?_
              refine w_a f_213_70 ?_
              refine w_a f_213_71 ?_
              exact h
set_option maxRecDepth 10000 in
set_option maxHeartbeats 4000000 in
theorem s_214_0 {Lx : Nat} {I : Mi} {L : Ml} {e : Nat} {Q : Kq} {x1 : Int32} {x2 : Int32} {x3 : Int32} (h :
    (if x1 < (Int32.ofInt 0) then
     Q (.inl (some (.int (Int32.ofInt 0)))) (gE Lx) (ui I 58 0 (Int32.ofInt 1)) L e
    else
     (if (Int32.ofInt 4) < x1 then
      Q (.inl (some (.int (Int32.ofInt 0)))) (gE Lx) (ui I 58 0 (Int32.ofInt 1)) L e
     else
      Wp 207 0 [(0, .int x2), (1, .int x3)] [] (gE Lx) I L e (kcp (Wp 214) 214 12 0 [(0, .ref 58), (1, .int x1), (2, .int x2), (3, .int x3)] 71 [.ref 58] Q)))) :
    Wp 214 0 [(0, .ref 58), (1, .int x1), (2, .int x2), (3, .int x3)] [] (gE Lx) I L e Q := by
  refine w_a f_214_0 ?_
  refine w_a f_214_1 ?_
  refine w_a f_214_2 ?_
  refine w_a f_214_3 ?_
  refine w_a f_214_4 ?_
  refine w_a (ls := [(0, .int x1), (1, .int (Int32.ofInt 0)), (2, .int (Int32.ofInt 4))]) f_208_0 ?_
  refine w_a f_208_1 ?_
  refine w_a f_208_2 ?_
  refine i_m (fun h => ?_) (fun h => ?_) h
  · refine w_a f_208_14 ?_
    refine w_a f_208_15 ?_
    refine w_a (ls := [(0, .ref 58), (1, .int x1), (2, .int x2), (3, .int x3)]) f_214_7 ?_
    refine w_a f_214_18 ?_
    refine w_a f_214_19 ?_
    refine w_a f_214_35 ?_
    refine w_a f_214_38 ?_
    refine w_a f_214_39 ?_
    refine w_a f_214_42 ?_
    refine w_a f_214_45 ?_
    refine w_a f_214_46 ?_
    exact h
  · refine w_a f_208_5 ?_
    refine w_a f_208_6 ?_
    refine w_a f_208_7 ?_
    refine i_m (fun h => ?_) (fun h => ?_) h
    · refine w_a f_208_14 ?_
      refine w_a f_208_15 ?_
      refine w_a (ls := [(0, .ref 58), (1, .int x1), (2, .int x2), (3, .int x3)]) f_214_7 ?_
      refine w_a f_214_18 ?_
      refine w_a f_214_19 ?_
      refine w_a f_214_35 ?_
      refine w_a f_214_38 ?_
      refine w_a f_214_39 ?_
      refine w_a f_214_42 ?_
      refine w_a f_214_45 ?_
      refine w_a f_214_46 ?_
      exact h
    · refine w_a f_208_10 ?_
      refine w_a f_208_11 ?_
      refine w_a f_208_15 ?_
      refine w_a (ls := [(0, .ref 58), (1, .int x1), (2, .int x2), (3, .int x3)]) f_214_7 ?_
      refine w_a f_214_10 ?_
      refine w_a f_214_11 ?_
      exact w_c (ks := [0, 1, 2, 3]) f_214_12 rfl rfl h
set_option maxRecDepth 10000 in
set_option maxHeartbeats 4000000 in
theorem s_217_0 {Lx : Nat} {I : Mi} {L : Ml} {e : Nat} {Q : Kq} (h :
    (if (I 59 3) = 0 then
     Q (.inl (some (.int (Int32.ofInt 0)))) (gE Lx) (ui I 58 0 (Int32.ofInt 1)) L e
    else
     Q (.inl (some (.int ((I 59 3) - (Int32.ofInt 1))))) (gE Lx) (ui (ui I 58 0 (Int32.ofInt 0)) 59 3 ((I 59 3) - (Int32.ofInt 1))) L e)) :
    Wp 217 0 [(0, .ref 58)] [] (gE Lx) I L e Q := by
  refine w_a f_217_0 ?_
  refine w_a f_217_1 ?_
  refine w_a f_217_2 ?_
  refine w_a (ls := [(0, .ref 58)]) f_215_0 ?_
  refine w_a f_215_1 ?_
  refine w_a f_215_4 ?_
  refine w_a f_215_5 ?_
  refine w_a f_215_6 ?_
  refine w_a (ls := [(0, .ref 58)]) f_217_5 ?_
  refine i_m (fun h => ?_) (fun h => ?_) h
  · refine w_a f_217_8 ?_
    refine w_a f_217_9 ?_
    refine w_a f_217_13 ?_
    refine w_a f_217_16 ?_
    refine w_a f_217_17 ?_
    refine w_a f_217_20 ?_
    refine w_a f_217_23 ?_
    refine w_a f_217_24 ?_
    exact h
  · refine w_a f_217_12 ?_
    refine w_a f_217_13 ?_
    refine w_a f_217_16 ?_
    refine w_a f_217_17 ?_
    refine w_a f_217_20 ?_
    refine w_a f_217_25 ?_
    refine w_a f_217_26 ?_
    refine w_a f_217_29 ?_
    refine w_a f_217_30 ?_
    refine w_a f_217_31 ?_
    refine w_a f_217_32 ?_
    refine w_a f_217_33 ?_
    refine w_a f_217_34 ?_
    refine w_a f_217_35 ?_
    refine w_a f_217_36 ?_
    refine w_a (ls := [(0, .ref 58)]) f_215_0 ?_
    refine w_a f_215_1 ?_
    refine w_a f_215_4 ?_
    refine w_a f_215_5 ?_
    refine w_a f_215_6 ?_
    refine w_a (ls := [(0, .ref 58)]) f_217_39 ?_
    exact h
set_option maxRecDepth 10000 in
set_option maxHeartbeats 4000000 in
theorem s_218_0 {Lx : Nat} {I : Mi} {L : Ml} {e : Nat} {Q : Kq} {x1 : Int32} {x2 : Int32} {x3 : Int32} (h :
    (if x1 < (Int32.ofInt 0) then
     Q (.inl (some (.int (Int32.ofInt 0)))) (gE Lx) (ui I 58 0 (Int32.ofInt 1)) L e
    else
     (if ((I 59 3) - (Int32.ofInt 1)) < x1 then
      Q (.inl (some (.int (Int32.ofInt 0)))) (gE Lx) (ui I 58 0 (Int32.ofInt 1)) L e
     else
      Wp 207 0 [(0, .int x2), (1, .int x3)] [] (gE Lx) I L e (kcp (Wp 218) 218 15 0 [(0, .ref 58), (1, .int x1), (2, .int x2), (3, .int x3)] 71 [.ref 58] Q)))) :
    Wp 218 0 [(0, .ref 58), (1, .int x1), (2, .int x2), (3, .int x3)] [] (gE Lx) I L e Q := by
  refine w_a f_218_0 ?_
  refine w_a f_218_1 ?_
  refine w_a f_218_2 ?_
  refine w_a f_218_3 ?_
  refine w_a (ls := [(0, .ref 58), (1, .int x1)]) f_219_0 ?_
  refine w_a f_219_1 ?_
  refine w_a f_219_2 ?_
  refine w_a f_219_3 ?_
  refine w_a (ls := [(0, .ref 58)]) f_215_0 ?_
  refine w_a f_215_1 ?_
  refine w_a f_215_4 ?_
  refine w_a f_215_5 ?_
  refine w_a f_215_6 ?_
  refine w_a (ls := [(0, .ref 58), (1, .int x1)]) f_219_6 ?_
  refine w_a f_219_7 ?_
  refine w_a f_219_8 ?_
  refine w_a (ls := [(0, .int x1), (1, .int (Int32.ofInt 0)), (2, .int ((I 59 3) - (Int32.ofInt 1)))]) f_208_0 ?_
  refine w_a f_208_1 ?_
  refine w_a f_208_2 ?_
  refine i_m (fun h => ?_) (fun h => ?_) h
  · refine w_a f_208_14 ?_
    refine w_a f_208_15 ?_
    refine w_a (ls := [(0, .ref 58), (1, .int x1)]) f_219_11 ?_
    refine w_a (ls := [(0, .ref 58), (1, .int x1), (2, .int x2), (3, .int x3)]) f_218_6 ?_
    refine w_a f_218_9 ?_
    refine w_a f_218_10 ?_
    refine w_a f_218_26 ?_
    refine w_a f_218_29 ?_
    refine w_a f_218_30 ?_
    refine w_a f_218_33 ?_
    refine w_a f_218_36 ?_
    refine w_a f_218_37 ?_
    exact h
  · refine w_a f_208_5 ?_
    refine w_a f_208_6 ?_
    refine w_a f_208_7 ?_
    refine i_m (fun h => ?_) (fun h => ?_) h
    · refine w_a f_208_14 ?_
      refine w_a f_208_15 ?_
      refine w_a (ls := [(0, .ref 58), (1, .int x1)]) f_219_11 ?_
      refine w_a (ls := [(0, .ref 58), (1, .int x1), (2, .int x2), (3, .int x3)]) f_218_6 ?_
      refine w_a f_218_9 ?_
      refine w_a f_218_10 ?_
      refine w_a f_218_26 ?_
      refine w_a f_218_29 ?_
      refine w_a f_218_30 ?_
      refine w_a f_218_33 ?_
      refine w_a f_218_36 ?_
      refine w_a f_218_37 ?_
      exact h
    · refine w_a f_208_10 ?_
      refine w_a f_208_11 ?_
      refine w_a f_208_15 ?_
      refine w_a (ls := [(0, .ref 58), (1, .int x1)]) f_219_11 ?_
      refine w_a (ls := [(0, .ref 58), (1, .int x1), (2, .int x2), (3, .int x3)]) f_218_6 ?_
      refine w_a f_218_13 ?_
      refine w_a f_218_14 ?_
      exact w_c (ks := [0, 1, 2, 3]) f_218_15 rfl rfl h
set_option maxRecDepth 10000 in
set_option maxHeartbeats 4000000 in
theorem s_221_0 {Lx : Nat} {I : Mi} {L : Ml} {e : Nat} {Q : Kq} {x1 : Int32} {x2 : Int32} (h :
    (if x1 < (Int32.ofInt 0) then
     Q (.inl (some (.int (Int32.ofInt 0)))) (gE Lx) (ui I 58 0 (Int32.ofInt 1)) L e
    else
     (if (Int32.ofInt 19) < x1 then
      Q (.inl (some (.int (Int32.ofInt 0)))) (gE Lx) (ui I 58 0 (Int32.ofInt 1)) L e
     else
      (if x2 < (Int32.ofInt 1) then
       Q (.inl (some (.int (Int32.ofInt 0)))) (gE Lx) (ui I 58 0 (Int32.ofInt 1)) L e
      else
       (if (Int32.ofInt 20) < x2 then
        Q (.inl (some (.int (Int32.ofInt 0)))) (gE Lx) (ui I 58 0 (Int32.ofInt 1)) L e
       else
        (if x1 < x2 then
         Q (.inl (some (.int (Int32.ofInt 0)))) (gE Lx) (ui (ui (ui I 58 0 (Int32.ofInt 0)) 58 3 x1) 58 4 x2) L e
        else
         Q (.inl (some (.int (Int32.ofInt 0)))) (gE Lx) (ui I 58 0 (Int32.ofInt 1)) L e)))))) :
    Wp 221 0 [(0, .ref 58), (1, .int x1), (2, .int x2)] [] (gE Lx) I L e Q := by
  refine w_a f_221_0 ?_
  refine w_a f_221_1 ?_
  refine w_a f_221_2 ?_
  refine w_a f_221_3 ?_
  refine w_a f_221_5 ?_
  refine w_a (ls := [(0, .int x1), (1, .int (Int32.ofInt 0)), (2, .int (Int32.ofInt 19))]) f_208_0 ?_
  refine w_a f_208_1 ?_
  refine w_a f_208_2 ?_
  refine i_m (fun h => ?_) (fun h => ?_) h
  · refine w_a f_208_14 ?_
    refine w_a f_208_15 ?_
    refine w_a (ls := [(0, .ref 58), (1, .int x1), (2, .int x2)]) f_221_8 ?_
    refine w_a f_221_30 ?_
    refine w_a f_221_31 ?_
    refine w_a f_221_34 ?_
    refine w_a f_221_35 ?_
    refine w_a f_221_38 ?_
    refine w_a f_221_41 ?_
    refine w_a f_221_42 ?_
    exact h
  · refine w_a f_208_5 ?_
    refine w_a f_208_6 ?_
    refine w_a f_208_7 ?_
    refine i_m (fun h => ?_) (fun h => ?_) h
    · refine w_a f_208_14 ?_
      refine w_a f_208_15 ?_
      refine w_a (ls := [(0, .ref 58), (1, .int x1), (2, .int x2)]) f_221_8 ?_
      refine w_a f_221_30 ?_
      refine w_a f_221_31 ?_
      refine w_a f_221_34 ?_
      refine w_a f_221_35 ?_
      refine w_a f_221_38 ?_
      refine w_a f_221_41 ?_
      refine w_a f_221_42 ?_
      exact h
    · refine w_a f_208_10 ?_
      refine w_a f_208_11 ?_
      refine w_a f_208_15 ?_
      refine w_a (ls := [(0, .ref 58), (1, .int x1), (2, .int x2)]) f_221_8 ?_
      refine w_a f_221_11 ?_
      refine w_a f_221_12 ?_
      refine w_a f_221_13 ?_
      refine w_a f_221_15 ?_
      refine w_a (ls := [(0, .int x2), (1, .int (Int32.ofInt 1)), (2, .int (Int32.ofInt 20))]) f_208_0 ?_
      refine w_a f_208_1 ?_
      refine w_a f_208_2 ?_
      refine i_m (fun h => ?_) (fun h => ?_) h
      · refine w_a f_208_14 ?_
        refine w_a f_208_15 ?_
        refine w_a (ls := [(0, .ref 58), (1, .int x1), (2, .int x2)]) f_221_18 ?_
        refine w_a f_221_30 ?_
        refine w_a f_221_31 ?_
        refine w_a f_221_34 ?_
        refine w_a f_221_35 ?_
        refine w_a f_221_38 ?_
        refine w_a f_221_41 ?_
        refine w_a f_221_42 ?_
        exact h
      · refine w_a f_208_5 ?_
        refine w_a f_208_6 ?_
        refine w_a f_208_7 ?_
        refine i_m (fun h => ?_) (fun h => ?_) h
        · refine w_a f_208_14 ?_
          refine w_a f_208_15 ?_
          refine w_a (ls := [(0, .ref 58), (1, .int x1), (2, .int x2)]) f_221_18 ?_
          refine w_a f_221_30 ?_
          refine w_a f_221_31 ?_
          refine w_a f_221_34 ?_
          refine w_a f_221_35 ?_
          refine w_a f_221_38 ?_
          refine w_a f_221_41 ?_
          refine w_a f_221_42 ?_
          exact h
        · refine w_a f_208_10 ?_
          refine w_a f_208_11 ?_
          refine w_a f_208_15 ?_
          refine w_a (ls := [(0, .ref 58), (1, .int x1), (2, .int x2)]) f_221_18 ?_
          refine w_a f_221_21 ?_
          refine w_a f_221_22 ?_
          refine w_a f_221_23 ?_
          refine i_m (fun h => ?_) (fun h => ?_) h
          · refine w_a f_221_26 ?_
            refine w_a f_221_27 ?_
            refine w_a f_221_31 ?_
            refine w_a f_221_34 ?_
            refine w_a f_221_35 ?_
            refine w_a f_221_38 ?_
            refine w_a f_221_43 ?_
            refine w_a f_221_44 ?_
            refine w_a f_221_45 ?_
            refine w_a f_221_48 ?_
            refine w_a f_221_49 ?_
            refine w_a f_221_50 ?_
            refine w_a f_221_53 ?_
            refine w_a f_221_54 ?_
            exact h
          · refine w_a f_221_30 ?_
            refine w_a f_221_31 ?_
            refine w_a f_221_34 ?_
            refine w_a f_221_35 ?_
            refine w_a f_221_38 ?_
            refine w_a f_221_41 ?_
            refine w_a f_221_42 ?_
            exact h
set_option maxRecDepth 10000 in
set_option maxHeartbeats 4000000 in
theorem s_222_0 {Lx : Nat} {I : Mi} {L : Ml} {e : Nat} {Q : Kq} {x1 : Int32} {x2 : Int32} (h :
    (if x1 < (Int32.ofInt 0) then
     Wp 222 71 [(0, .ref 58)] [.int (Int32.ofInt 0)] (gE Lx) (ui I 58 0 (Int32.ofInt 1)) L e Q
    else
     (if ((I 59 3) - (Int32.ofInt 1)) < x1 then
      Wp 222 71 [(0, .ref 58)] [.int (Int32.ofInt 0)] (gE Lx) (ui I 58 0 (Int32.ofInt 1)) L e Q
     else
      (if x2 < (Int32.ofInt 0) then
       Wp 222 71 [(0, .ref 58)] [.int (Int32.ofInt 0)] (gE Lx) (ui I 58 0 (Int32.ofInt 2)) L e Q
      else
       (if (Int32.ofInt 2) < x2 then
        Wp 222 71 [(0, .ref 58)] [.int (Int32.ofInt 0)] (gE Lx) (ui I 58 0 (Int32.ofInt 2)) L e Q
       else
        (if x2 = 0 then
         Wp 220 0 [(0, .ref 58), (1, .int x1)] [] (gE Lx) (ui I 58 0 (Int32.ofInt 0)) L e (kcp (Wp 222) 222 47 0 [(0, .ref 58)] 71 [] Q)
        else
         (if x2 = (Int32.ofInt 1) then
          Wp 223 0 [(0, .ref 58), (1, .int x1)] [] (gE Lx) (ui I 58 0 (Int32.ofInt 0)) L e (kcp (Wp 222) 222 60 0 [(0, .ref 58)] 71 [] Q)
         else
          Wp 224 0 [(0, .ref 58), (1, .int x1)] [] (gE Lx) (ui I 58 0 (Int32.ofInt 0)) L e (kcp (Wp 222) 222 68 0 [(0, .ref 58)] 71 [] Q)))))))) :
    Wp 222 0 [(0, .ref 58), (1, .int x1), (2, .int x2)] [] (gE Lx) I L e Q := by
  refine w_a f_222_0 ?_
  refine w_a f_222_1 ?_
  refine w_a f_222_2 ?_
  refine w_a f_222_3 ?_
  refine w_a (ls := [(0, .ref 58), (1, .int x1)]) f_219_0 ?_
  refine w_a f_219_1 ?_
  refine w_a f_219_2 ?_
  refine w_a f_219_3 ?_
  refine w_a (ls := [(0, .ref 58)]) f_215_0 ?_
  refine w_a f_215_1 ?_
  refine w_a f_215_4 ?_
  refine w_a f_215_5 ?_
  refine w_a f_215_6 ?_
  refine w_a (ls := [(0, .ref 58), (1, .int x1)]) f_219_6 ?_
  refine w_a f_219_7 ?_
  refine w_a f_219_8 ?_
  refine w_a (ls := [(0, .int x1), (1, .int (Int32.ofInt 0)), (2, .int ((I 59 3) - (Int32.ofInt 1)))]) f_208_0 ?_
  refine w_a f_208_1 ?_
  refine w_a f_208_2 ?_
  refine i_m (fun h => ?_) (fun h => ?_) h
  · refine w_a f_208_14 ?_
    refine w_a f_208_15 ?_
    refine w_a (ls := [(0, .ref 58), (1, .int x1)]) f_219_11 ?_
    refine w_a (ls := [(0, .ref 58), (1, .int x1), (2, .int x2)]) f_222_6 ?_
    refine w_a f_222_9 ?_
    refine w_a f_222_10 ?_
    refine w_a f_222_27 ?_
    refine w_a f_222_30 ?_
    refine w_a f_222_31 ?_
    refine w_a f_222_34 ?_
    refine w_a f_222_37 ?_
    refine w_a f_222_38 ?_
    exact w_n (ks := [0]) rfl h
  · refine w_a f_208_5 ?_
    refine w_a f_208_6 ?_
    refine w_a f_208_7 ?_
    refine i_m (fun h => ?_) (fun h => ?_) h
    · refine w_a f_208_14 ?_
      refine w_a f_208_15 ?_
      refine w_a (ls := [(0, .ref 58), (1, .int x1)]) f_219_11 ?_
      refine w_a (ls := [(0, .ref 58), (1, .int x1), (2, .int x2)]) f_222_6 ?_
      refine w_a f_222_9 ?_
      refine w_a f_222_10 ?_
      refine w_a f_222_27 ?_
      refine w_a f_222_30 ?_
      refine w_a f_222_31 ?_
      refine w_a f_222_34 ?_
      refine w_a f_222_37 ?_
      refine w_a f_222_38 ?_
      exact w_n (ks := [0]) rfl h
    · refine w_a f_208_10 ?_
      refine w_a f_208_11 ?_
      refine w_a f_208_15 ?_
      refine w_a (ls := [(0, .ref 58), (1, .int x1)]) f_219_11 ?_
      refine w_a (ls := [(0, .ref 58), (1, .int x1), (2, .int x2)]) f_222_6 ?_
      refine w_a f_222_13 ?_
      refine w_a f_222_14 ?_
      refine w_a f_222_15 ?_
      refine w_a f_222_16 ?_
      refine w_a (ls := [(0, .int x2), (1, .int (Int32.ofInt 0)), (2, .int (Int32.ofInt 2))]) f_208_0 ?_
      refine w_a f_208_1 ?_
      refine w_a f_208_2 ?_
      refine i_m (fun h => ?_) (fun h => ?_) h
      · refine w_a f_208_14 ?_
        refine w_a f_208_15 ?_
        refine w_a (ls := [(0, .ref 58), (1, .int x1), (2, .int x2)]) f_222_19 ?_
        refine w_a f_222_22 ?_
        refine w_a f_222_23 ?_
        refine w_a f_222_27 ?_
        refine w_a f_222_30 ?_
        refine w_a f_222_31 ?_
        refine w_a f_222_34 ?_
        refine w_a f_222_37 ?_
        refine w_a f_222_38 ?_
        exact w_n (ks := [0]) rfl h
      · refine w_a f_208_5 ?_
        refine w_a f_208_6 ?_
        refine w_a f_208_7 ?_
        refine i_m (fun h => ?_) (fun h => ?_) h
        · refine w_a f_208_14 ?_
          refine w_a f_208_15 ?_
          refine w_a (ls := [(0, .ref 58), (1, .int x1), (2, .int x2)]) f_222_19 ?_
          refine w_a f_222_22 ?_
          refine w_a f_222_23 ?_
          refine w_a f_222_27 ?_
          refine w_a f_222_30 ?_
          refine w_a f_222_31 ?_
          refine w_a f_222_34 ?_
          refine w_a f_222_37 ?_
          refine w_a f_222_38 ?_
          exact w_n (ks := [0]) rfl h
        · refine w_a f_208_10 ?_
          refine w_a f_208_11 ?_
          refine w_a f_208_15 ?_
          refine w_a (ls := [(0, .ref 58), (1, .int x1), (2, .int x2)]) f_222_19 ?_
          refine w_a f_222_26 ?_
          refine w_a f_222_27 ?_
          refine w_a f_222_30 ?_
          refine w_a f_222_31 ?_
          refine w_a f_222_34 ?_
          refine w_a f_222_41 ?_
          refine w_a f_222_42 ?_
          refine i_m (fun h => ?_) (fun h => ?_) h
          · refine w_a f_222_45 ?_
            refine w_a f_222_46 ?_
            exact w_c (ks := [0]) f_222_47 rfl rfl h
          · refine w_a f_222_53 ?_
            refine w_a f_222_54 ?_
            refine w_a f_222_55 ?_
            refine i_m (fun h => ?_) (fun h => ?_) h
            · refine w_a f_222_58 ?_
              refine w_a f_222_59 ?_
              exact w_c (ks := [0]) f_222_60 rfl rfl h
            · refine w_a f_222_66 ?_
              refine w_a f_222_67 ?_
              exact w_c (ks := [0]) f_222_68 rfl rfl h
set_option maxRecDepth 10000 in
set_option maxHeartbeats 4000000 in
theorem s_225_0 {Lx : Nat} {I : Mi} {L : Ml} {e : Nat} {Q : Kq} {x1 : Int32} {x2 : Int32} {x3 : Int32} (h :
    (if x1 < (Int32.ofInt 0) then
     Q (.inl (some (.long (Int64.ofInt 0)))) (gE Lx) (ui I 58 0 (Int32.ofInt 1)) L e
    else
     (if (I 59 3) < x1 then
      Q (.inl (some (.long (Int64.ofInt 0)))) (gE Lx) (ui I 58 0 (Int32.ofInt 1)) L e
     else
      Wp 227 0 [(0, .ref 58), (1, .int x1)] [] (gE Lx) (ui I 58 0 (Int32.ofInt 0)) L e (kcp (Wp 225) 225 28 0 [(0, .ref 58), (2, .int x2), (3, .int x3)] 71 [] Q)))) :
    Wp 225 0 [(0, .ref 58), (1, .int x1), (2, .int x2), (3, .int x3)] [] (gE Lx) I L e Q := by
  refine w_a f_225_0 ?_
  refine w_a f_225_1 ?_
  refine w_a f_225_2 ?_
  refine w_a f_225_3 ?_
  refine w_a (ls := [(0, .ref 58), (1, .int x1)]) f_226_0 ?_
  refine w_a f_226_1 ?_
  refine w_a f_226_2 ?_
  refine w_a f_226_3 ?_
  refine w_a (ls := [(0, .ref 58)]) f_215_0 ?_
  refine w_a f_215_1 ?_
  refine w_a f_215_4 ?_
  refine w_a f_215_5 ?_
  refine w_a f_215_6 ?_
  refine w_a (ls := [(0, .ref 58), (1, .int x1)]) f_226_6 ?_
  refine w_a (ls := [(0, .int x1), (1, .int (Int32.ofInt 0)), (2, .int (I 59 3))]) f_208_0 ?_
  refine w_a f_208_1 ?_
  refine w_a f_208_2 ?_
  refine i_m (fun h => ?_) (fun h => ?_) h
  · refine w_a f_208_14 ?_
    refine w_a f_208_15 ?_
    refine w_a (ls := [(0, .ref 58), (1, .int x1)]) f_226_9 ?_
    refine w_a (ls := [(0, .ref 58), (1, .int x1), (2, .int x2), (3, .int x3)]) f_225_6 ?_
    refine w_a f_225_13 ?_
    refine w_a f_225_14 ?_
    refine w_a f_225_17 ?_
    refine w_a f_225_18 ?_
    refine w_a f_225_21 ?_
    refine w_a f_225_24 ?_
    refine w_a f_225_25 ?_
    exact h
  · refine w_a f_208_5 ?_
    refine w_a f_208_6 ?_
    refine w_a f_208_7 ?_
    refine i_m (fun h => ?_) (fun h => ?_) h
    · refine w_a f_208_14 ?_
      refine w_a f_208_15 ?_
      refine w_a (ls := [(0, .ref 58), (1, .int x1)]) f_226_9 ?_
      refine w_a (ls := [(0, .ref 58), (1, .int x1), (2, .int x2), (3, .int x3)]) f_225_6 ?_
      refine w_a f_225_13 ?_
      refine w_a f_225_14 ?_
      refine w_a f_225_17 ?_
      refine w_a f_225_18 ?_
      refine w_a f_225_21 ?_
      refine w_a f_225_24 ?_
      refine w_a f_225_25 ?_
      exact h
    · refine w_a f_208_10 ?_
      refine w_a f_208_11 ?_
      refine w_a f_208_15 ?_
      refine w_a (ls := [(0, .ref 58), (1, .int x1)]) f_226_9 ?_
      refine w_a (ls := [(0, .ref 58), (1, .int x1), (2, .int x2), (3, .int x3)]) f_225_6 ?_
      refine w_a f_225_9 ?_
      refine w_a f_225_10 ?_
      refine w_a f_225_14 ?_
      refine w_a f_225_17 ?_
      refine w_a f_225_18 ?_
      refine w_a f_225_21 ?_
      refine w_a f_225_26 ?_
      refine w_a f_225_27 ?_
      exact w_c (ks := [0, 2, 3]) f_225_28 rfl rfl h
set_option maxRecDepth 10000 in
set_option maxHeartbeats 4000000 in
theorem s_238_0 {Lx : Nat} {I : Mi} {L : Ml} {e : Nat} {Q : Kq} {x1 : Int32} (h :
    (if x1 < (Int32.ofInt 0) then
     Q (.inl (some (.int (Int32.ofInt 0)))) (gE Lx) (ui I 58 0 (Int32.ofInt 1)) L e
    else
     (if (I 59 3) < x1 then
      Q (.inl (some (.int (Int32.ofInt 0)))) (gE Lx) (ui I 58 0 (Int32.ofInt 1)) L e
     else
      Wp 227 0 [(0, .ref 58), (1, .int x1)] [] (gE Lx) (ui I 58 0 (Int32.ofInt 0)) L e (kcp (Wp 238) 238 28 0 [(0, .ref 58)] 71 [] Q)))) :
    Wp 238 0 [(0, .ref 58), (1, .int x1)] [] (gE Lx) I L e Q := by
  refine w_a f_238_0 ?_
  refine w_a f_238_1 ?_
  refine w_a f_238_2 ?_
  refine w_a f_238_3 ?_
  refine w_a (ls := [(0, .ref 58), (1, .int x1)]) f_226_0 ?_
  refine w_a f_226_1 ?_
  refine w_a f_226_2 ?_
  refine w_a f_226_3 ?_
  refine w_a (ls := [(0, .ref 58)]) f_215_0 ?_
  refine w_a f_215_1 ?_
  refine w_a f_215_4 ?_
  refine w_a f_215_5 ?_
  refine w_a f_215_6 ?_
  refine w_a (ls := [(0, .ref 58), (1, .int x1)]) f_226_6 ?_
  refine w_a (ls := [(0, .int x1), (1, .int (Int32.ofInt 0)), (2, .int (I 59 3))]) f_208_0 ?_
  refine w_a f_208_1 ?_
  refine w_a f_208_2 ?_
  refine i_m (fun h => ?_) (fun h => ?_) h
  · refine w_a f_208_14 ?_
    refine w_a f_208_15 ?_
    refine w_a (ls := [(0, .ref 58), (1, .int x1)]) f_226_9 ?_
    refine w_a (ls := [(0, .ref 58), (1, .int x1)]) f_238_6 ?_
    refine w_a f_238_13 ?_
    refine w_a f_238_14 ?_
    refine w_a f_238_17 ?_
    refine w_a f_238_18 ?_
    refine w_a f_238_21 ?_
    refine w_a f_238_24 ?_
    refine w_a f_238_25 ?_
    exact h
  · refine w_a f_208_5 ?_
    refine w_a f_208_6 ?_
    refine w_a f_208_7 ?_
    refine i_m (fun h => ?_) (fun h => ?_) h
    · refine w_a f_208_14 ?_
      refine w_a f_208_15 ?_
      refine w_a (ls := [(0, .ref 58), (1, .int x1)]) f_226_9 ?_
      refine w_a (ls := [(0, .ref 58), (1, .int x1)]) f_238_6 ?_
      refine w_a f_238_13 ?_
      refine w_a f_238_14 ?_
      refine w_a f_238_17 ?_
      refine w_a f_238_18 ?_
      refine w_a f_238_21 ?_
      refine w_a f_238_24 ?_
      refine w_a f_238_25 ?_
      exact h
    · refine w_a f_208_10 ?_
      refine w_a f_208_11 ?_
      refine w_a f_208_15 ?_
      refine w_a (ls := [(0, .ref 58), (1, .int x1)]) f_226_9 ?_
      refine w_a (ls := [(0, .ref 58), (1, .int x1)]) f_238_6 ?_
      refine w_a f_238_9 ?_
      refine w_a f_238_10 ?_
      refine w_a f_238_14 ?_
      refine w_a f_238_17 ?_
      refine w_a f_238_18 ?_
      refine w_a f_238_21 ?_
      refine w_a f_238_26 ?_
      refine w_a f_238_27 ?_
      exact w_c (ks := [0]) f_238_28 rfl rfl h
set_option maxRecDepth 10000 in
set_option maxHeartbeats 4000000 in
theorem s_239_0 {Lx : Nat} {I : Mi} {L : Ml} {e : Nat} {Q : Kq} {x1 : Int32} {x2 : Int32} (h :
    (if x1 < (Int32.ofInt 0) then
     Q (.inl (some (.long (Int64.ofInt 0)))) (gE Lx) (ui I 58 0 (Int32.ofInt 1)) L e
    else
     (if (I 59 3) < x1 then
      Q (.inl (some (.long (Int64.ofInt 0)))) (gE Lx) (ui I 58 0 (Int32.ofInt 1)) L e
     else
      Wp 227 0 [(0, .ref 58), (1, .int x1)] [] (gE Lx) (ui I 58 0 (Int32.ofInt 0)) L e (kcp (Wp 239) 239 28 0 [(0, .ref 58), (2, .int x2)] 71 [] Q)))) :
    Wp 239 0 [(0, .ref 58), (1, .int x1), (2, .int x2)] [] (gE Lx) I L e Q := by
  refine w_a f_239_0 ?_
  refine w_a f_239_1 ?_
  refine w_a f_239_2 ?_
  refine w_a f_239_3 ?_
  refine w_a (ls := [(0, .ref 58), (1, .int x1)]) f_226_0 ?_
  refine w_a f_226_1 ?_
  refine w_a f_226_2 ?_
  refine w_a f_226_3 ?_
  refine w_a (ls := [(0, .ref 58)]) f_215_0 ?_
  refine w_a f_215_1 ?_
  refine w_a f_215_4 ?_
  refine w_a f_215_5 ?_
  refine w_a f_215_6 ?_
  refine w_a (ls := [(0, .ref 58), (1, .int x1)]) f_226_6 ?_
  refine w_a (ls := [(0, .int x1), (1, .int (Int32.ofInt 0)), (2, .int (I 59 3))]) f_208_0 ?_
  refine w_a f_208_1 ?_
  refine w_a f_208_2 ?_
  refine i_m (fun h => ?_) (fun h => ?_) h
  · refine w_a f_208_14 ?_
    refine w_a f_208_15 ?_
    refine w_a (ls := [(0, .ref 58), (1, .int x1)]) f_226_9 ?_
    refine w_a (ls := [(0, .ref 58), (1, .int x1), (2, .int x2)]) f_239_6 ?_
    refine w_a f_239_13 ?_
    refine w_a f_239_14 ?_
    refine w_a f_239_17 ?_
    refine w_a f_239_18 ?_
    refine w_a f_239_21 ?_
    refine w_a f_239_24 ?_
    refine w_a f_239_25 ?_
    exact h
  · refine w_a f_208_5 ?_
    refine w_a f_208_6 ?_
    refine w_a f_208_7 ?_
    refine i_m (fun h => ?_) (fun h => ?_) h
    · refine w_a f_208_14 ?_
      refine w_a f_208_15 ?_
      refine w_a (ls := [(0, .ref 58), (1, .int x1)]) f_226_9 ?_
      refine w_a (ls := [(0, .ref 58), (1, .int x1), (2, .int x2)]) f_239_6 ?_
      refine w_a f_239_13 ?_
      refine w_a f_239_14 ?_
      refine w_a f_239_17 ?_
      refine w_a f_239_18 ?_
      refine w_a f_239_21 ?_
      refine w_a f_239_24 ?_
      refine w_a f_239_25 ?_
      exact h
    · refine w_a f_208_10 ?_
      refine w_a f_208_11 ?_
      refine w_a f_208_15 ?_
      refine w_a (ls := [(0, .ref 58), (1, .int x1)]) f_226_9 ?_
      refine w_a (ls := [(0, .ref 58), (1, .int x1), (2, .int x2)]) f_239_6 ?_
      refine w_a f_239_9 ?_
      refine w_a f_239_10 ?_
      refine w_a f_239_14 ?_
      refine w_a f_239_17 ?_
      refine w_a f_239_18 ?_
      refine w_a f_239_21 ?_
      refine w_a f_239_26 ?_
      refine w_a f_239_27 ?_
      exact w_c (ks := [0, 2]) f_239_28 rfl rfl h
set_option maxRecDepth 10000 in
set_option maxHeartbeats 4000000 in
theorem s_241_0 {Lx : Nat} {I : Mi} {L : Ml} {e : Nat} {Q : Kq} {x1 : Int32} {x2 : Int32} {x3 : Int32} (h :
    Wp 207 0 [(0, .int x1), (1, .int x2)] [] (gE Lx) I L e (kcp (Wp 241) 241 3 0 [(0, .ref 58), (1, .int x1), (2, .int x2), (3, .int x3)] 71 [.ref 58] Q)) :
    Wp 241 0 [(0, .ref 58), (1, .int x1), (2, .int x2), (3, .int x3)] [] (gE Lx) I L e Q := by
  refine w_a f_241_0 ?_
  refine w_a f_241_1 ?_
  refine w_a f_241_2 ?_
  exact w_c (ks := [0, 1, 2, 3]) f_241_3 rfl rfl h
set_option maxRecDepth 10000 in
set_option maxHeartbeats 4000000 in
theorem s_244_0 {Lx : Nat} {I : Mi} {L : Ml} {e : Nat} {Q : Kq} {x1 : Int32} {x2 : Int32} {x3 : Int32} {x4 : Int32} (h :
    Wp 207 0 [(0, .int x1), (1, .int x2)] [] (gE Lx) I L e (kcp (Wp 244) 244 3 0 [(0, .ref 58), (1, .int x1), (2, .int x2), (3, .int x3), (4, .int x4)] 71 [.ref 58] Q)) :
    Wp 244 0 [(0, .ref 58), (1, .int x1), (2, .int x2), (3, .int x3), (4, .int x4)] [] (gE Lx) I L e Q := by
  refine w_a f_244_0 ?_
  refine w_a f_244_1 ?_
  refine w_a f_244_2 ?_
  exact w_c (ks := [0, 1, 2, 3, 4]) f_244_3 rfl rfl h
set_option maxRecDepth 10000 in
set_option maxHeartbeats 4000000 in
theorem s_248_0 {Lx : Nat} {I : Mi} {L : Ml} {e : Nat} {Q : Kq} {x1 : Int32} {x2 : Int32} {x3 : Int32} {x4 : Int32} {x5 : Int32} (h :
    Wp 207 0 [(0, .int x1), (1, .int x2)] [] (gE Lx) I L e (kcp (Wp 248) 248 3 0 [(0, .ref 58), (1, .int x1), (2, .int x2), (3, .int x3), (4, .int x4), (5, .int x5)] 71 [.ref 58] Q)) :
    Wp 248 0 [(0, .ref 58), (1, .int x1), (2, .int x2), (3, .int x3), (4, .int x4), (5, .int x5)] [] (gE Lx) I L e Q := by
  refine w_a f_248_0 ?_
  refine w_a f_248_1 ?_
  refine w_a f_248_2 ?_
  exact w_c (ks := [0, 1, 2, 3, 4, 5]) f_248_3 rfl rfl h
set_option maxRecDepth 10000 in
set_option maxHeartbeats 4000000 in
theorem s_249_0 {Lx : Nat} {I : Mi} {L : Ml} {e : Nat} {Q : Kq} {x1 : Int32} {x2 : Int32} {x3 : Int32} {x4 : Int32} (h :
    Wp 207 0 [(0, .int x1), (1, .int x2)] [] (gE Lx) I L e (kcp (Wp 249) 249 3 0 [(0, .ref 58), (1, .int x1), (2, .int x2), (3, .int x3), (4, .int x4)] 71 [.ref 58] Q)) :
    Wp 249 0 [(0, .ref 58), (1, .int x1), (2, .int x2), (3, .int x3), (4, .int x4)] [] (gE Lx) I L e Q := by
  refine w_a f_249_0 ?_
  refine w_a f_249_1 ?_
  refine w_a f_249_2 ?_
  exact w_c (ks := [0, 1, 2, 3, 4]) f_249_3 rfl rfl h
set_option maxRecDepth 10000 in
set_option maxHeartbeats 4000000 in
theorem s_250_0 {Lx : Nat} {I : Mi} {L : Ml} {e : Nat} {Q : Kq} {x1 : Int32} (h :
    (if x1 < (Int32.ofInt 0) then
     Q (.inl (some (.int (Int32.ofInt 0)))) (gE Lx) (ui I 58 0 (Int32.ofInt 1)) L e
    else
     (if (I 59 3) < x1 then
      Q (.inl (some (.int (Int32.ofInt 0)))) (gE Lx) (ui I 58 0 (Int32.ofInt 1)) L e
     else
      Wp 251 0 [(0, .ref 58), (1, .int x1)] [] (gE Lx) I L e (kcp (Wp 250) 250 15 0 [(0, .ref 58)] 71 [.ref 58] Q)))) :
    Wp 250 0 [(0, .ref 58), (1, .int x1)] [] (gE Lx) I L e Q := by
  refine w_a f_250_0 ?_
  refine w_a f_250_1 ?_
  refine w_a f_250_2 ?_
  refine w_a f_250_3 ?_
  refine w_a (ls := [(0, .ref 58), (1, .int x1)]) f_226_0 ?_
  refine w_a f_226_1 ?_
  refine w_a f_226_2 ?_
  refine w_a f_226_3 ?_
  refine w_a (ls := [(0, .ref 58)]) f_215_0 ?_
  refine w_a f_215_1 ?_
  refine w_a f_215_4 ?_
  refine w_a f_215_5 ?_
  refine w_a f_215_6 ?_
  refine w_a (ls := [(0, .ref 58), (1, .int x1)]) f_226_6 ?_
  refine w_a (ls := [(0, .int x1), (1, .int (Int32.ofInt 0)), (2, .int (I 59 3))]) f_208_0 ?_
  refine w_a f_208_1 ?_
  refine w_a f_208_2 ?_
  refine i_m (fun h => ?_) (fun h => ?_) h
  · refine w_a f_208_14 ?_
    refine w_a f_208_15 ?_
    refine w_a (ls := [(0, .ref 58), (1, .int x1)]) f_226_9 ?_
    refine w_a (ls := [(0, .ref 58), (1, .int x1)]) f_250_6 ?_
    refine w_a f_250_9 ?_
    refine w_a f_250_10 ?_
    refine w_a f_250_26 ?_
    refine w_a f_250_29 ?_
    refine w_a f_250_30 ?_
    refine w_a f_250_33 ?_
    refine w_a f_250_43 ?_
    refine w_a f_250_44 ?_
    refine w_a f_250_48 ?_
    exact h
  · refine w_a f_208_5 ?_
    refine w_a f_208_6 ?_
    refine w_a f_208_7 ?_
    refine i_m (fun h => ?_) (fun h => ?_) h
    · refine w_a f_208_14 ?_
      refine w_a f_208_15 ?_
      refine w_a (ls := [(0, .ref 58), (1, .int x1)]) f_226_9 ?_
      refine w_a (ls := [(0, .ref 58), (1, .int x1)]) f_250_6 ?_
      refine w_a f_250_9 ?_
      refine w_a f_250_10 ?_
      refine w_a f_250_26 ?_
      refine w_a f_250_29 ?_
      refine w_a f_250_30 ?_
      refine w_a f_250_33 ?_
      refine w_a f_250_43 ?_
      refine w_a f_250_44 ?_
      refine w_a f_250_48 ?_
      exact h
    · refine w_a f_208_10 ?_
      refine w_a f_208_11 ?_
      refine w_a f_208_15 ?_
      refine w_a (ls := [(0, .ref 58), (1, .int x1)]) f_226_9 ?_
      refine w_a (ls := [(0, .ref 58), (1, .int x1)]) f_250_6 ?_
      refine w_a f_250_13 ?_
      refine w_a f_250_14 ?_
      exact w_c (ks := [0]) f_250_15 rfl rfl h
set_option maxRecDepth 10000 in
set_option maxHeartbeats 4000000 in
theorem s_255_0 {Lx : Nat} {I : Mi} {L : Ml} {e : Nat} {Q : Kq} {x1 : Int32} {x2 : Int32} {x3 : Int32} (h :
    Wp 256 0 [(0, .ref 58), (1, .int x1), (2, .int x2), (3, .int x3)] [] (gE Lx) I L e (kcp (Wp 255) 255 5 0 [(0, .ref 58)] 71 [.ref 58] Q)) :
    Wp 255 0 [(0, .ref 58), (1, .int x1), (2, .int x2), (3, .int x3)] [] (gE Lx) I L e Q := by
  refine w_a f_255_0 ?_
  refine w_a f_255_1 ?_
  refine w_a f_255_2 ?_
  refine w_a f_255_3 ?_
  refine w_a f_255_4 ?_
  exact w_c (ks := [0]) f_255_5 rfl rfl h
set_option maxRecDepth 10000 in
set_option maxHeartbeats 4000000 in
theorem s_258_0 {Lx : Nat} {I : Mi} {L : Ml} {e : Nat} {Q : Kq} {x1 : Int32} {x2 : Int32} {x3 : Int32} {x4 : Int32} (h :
    Wp 259 0 [(0, .ref 58), (1, .int x1), (2, .int x2), (3, .int x3)] [] (gE Lx) I L e (kcp (Wp 258) 258 5 0 [(0, .ref 58), (3, .int x3), (4, .int x4)] 71 [.ref 58] Q)) :
    Wp 258 0 [(0, .ref 58), (1, .int x1), (2, .int x2), (3, .int x3), (4, .int x4)] [] (gE Lx) I L e Q := by
  refine w_a f_258_0 ?_
  refine w_a f_258_1 ?_
  refine w_a f_258_2 ?_
  refine w_a f_258_3 ?_
  refine w_a f_258_4 ?_
  exact w_c (ks := [0, 3, 4]) f_258_5 rfl rfl h
set_option maxRecDepth 10000 in
set_option maxHeartbeats 4000000 in
theorem s_266_0 {Lx : Nat} {I : Mi} {L : Ml} {e : Nat} {Q : Kq} {x1 : Int32} {x2 : Int32} {x3 : Int32} (h :
    Wp 256 0 [(0, .ref 58), (1, .int x1), (2, .int x2), (3, .int x3)] [] (gE Lx) I L e (kcp (Wp 266) 266 5 0 [(0, .ref 58), (3, .int x3)] 71 [.ref 58] Q)) :
    Wp 266 0 [(0, .ref 58), (1, .int x1), (2, .int x2), (3, .int x3)] [] (gE Lx) I L e Q := by
  refine w_a f_266_0 ?_
  refine w_a f_266_1 ?_
  refine w_a f_266_2 ?_
  refine w_a f_266_3 ?_
  refine w_a f_266_4 ?_
  exact w_c (ks := [0, 3]) f_266_5 rfl rfl h
set_option maxRecDepth 10000 in
set_option maxHeartbeats 4000000 in
theorem s_268_0 {Lx : Nat} {I : Mi} {L : Ml} {e : Nat} {Q : Kq} {x1 : Int32} {x2 : Int32} {x3 : Int32} {x4 : Int32} (h :
    Wp 259 0 [(0, .ref 58), (1, .int x1), (2, .int x2), (3, .int x3)] [] (gE Lx) I L e (kcp (Wp 268) 268 5 0 [(0, .ref 58), (3, .int x3), (4, .int x4)] 71 [.ref 58] Q)) :
    Wp 268 0 [(0, .ref 58), (1, .int x1), (2, .int x2), (3, .int x3), (4, .int x4)] [] (gE Lx) I L e Q := by
  refine w_a f_268_0 ?_
  refine w_a f_268_1 ?_
  refine w_a f_268_2 ?_
  refine w_a f_268_3 ?_
  refine w_a f_268_4 ?_
  exact w_c (ks := [0, 3, 4]) f_268_5 rfl rfl h
set_option maxRecDepth 10000 in
set_option maxHeartbeats 4000000 in
theorem s_269_0 {Lx : Nat} {I : Mi} {L : Ml} {e : Nat} {Q : Kq} {x1 : Int32} {x3 : Int32} (h :
    (if x1 < (Int32.ofInt 0) then
     Q (.inl (some (.long (Int64.ofInt 0)))) (gE Lx) (ui I 58 0 (Int32.ofInt 1)) L e
    else
     (if (I 59 3) < x1 then
      Q (.inl (some (.long (Int64.ofInt 0)))) (gE Lx) (ui I 58 0 (Int32.ofInt 1)) L e
     else
      Wp 251 0 [(0, .ref 58), (1, .int x1)] [] (gE Lx) I L e (kcp (Wp 269) 269 15 0 [(0, .ref 58), (3, .int x3)] 71 [.ref 58] Q)))) :
    Wp 269 0 [(0, .ref 58), (1, .int x1), (3, .int x3)] [] (gE Lx) I L e Q := by
  refine w_a f_269_0 ?_
  refine w_a f_269_1 ?_
  refine w_a f_269_2 ?_
  refine w_a f_269_3 ?_
  refine w_a (ls := [(0, .ref 58), (1, .int x1)]) f_226_0 ?_
  refine w_a f_226_1 ?_
  refine w_a f_226_2 ?_
  refine w_a f_226_3 ?_
  refine w_a (ls := [(0, .ref 58)]) f_215_0 ?_
  refine w_a f_215_1 ?_
  refine w_a f_215_4 ?_
  refine w_a f_215_5 ?_
  refine w_a f_215_6 ?_
  refine w_a (ls := [(0, .ref 58), (1, .int x1)]) f_226_6 ?_
  refine w_a (ls := [(0, .int x1), (1, .int (Int32.ofInt 0)), (2, .int (I 59 3))]) f_208_0 ?_
  refine w_a f_208_1 ?_
  refine w_a f_208_2 ?_
  refine i_m (fun h => ?_) (fun h => ?_) h
  · refine w_a f_208_14 ?_
    refine w_a f_208_15 ?_
    refine w_a (ls := [(0, .ref 58), (1, .int x1)]) f_226_9 ?_
    refine w_a (ls := [(0, .ref 58), (1, .int x1), (3, .int x3)]) f_269_6 ?_
    refine w_a f_269_9 ?_
    refine w_a f_269_10 ?_
    refine w_a f_269_33 ?_
    refine w_a f_269_36 ?_
    refine w_a f_269_37 ?_
    refine w_a f_269_40 ?_
    refine w_a f_269_43 ?_
    refine w_a f_269_44 ?_
    exact h
  · refine w_a f_208_5 ?_
    refine w_a f_208_6 ?_
    refine w_a f_208_7 ?_
    refine i_m (fun h => ?_) (fun h => ?_) h
    · refine w_a f_208_14 ?_
      refine w_a f_208_15 ?_
      refine w_a (ls := [(0, .ref 58), (1, .int x1)]) f_226_9 ?_
      refine w_a (ls := [(0, .ref 58), (1, .int x1), (3, .int x3)]) f_269_6 ?_
      refine w_a f_269_9 ?_
      refine w_a f_269_10 ?_
      refine w_a f_269_33 ?_
      refine w_a f_269_36 ?_
      refine w_a f_269_37 ?_
      refine w_a f_269_40 ?_
      refine w_a f_269_43 ?_
      refine w_a f_269_44 ?_
      exact h
    · refine w_a f_208_10 ?_
      refine w_a f_208_11 ?_
      refine w_a f_208_15 ?_
      refine w_a (ls := [(0, .ref 58), (1, .int x1)]) f_226_9 ?_
      refine w_a (ls := [(0, .ref 58), (1, .int x1), (3, .int x3)]) f_269_6 ?_
      refine w_a f_269_13 ?_
      refine w_a f_269_14 ?_
      exact w_c (ks := [0, 3]) f_269_15 rfl rfl h
set_option maxRecDepth 10000 in
set_option maxHeartbeats 4000000 in
theorem s_270_0 {Lx : Nat} {I : Mi} {L : Ml} {e : Nat} {Q : Kq} {x1 : Int32} {x2 : Int32} {x3 : Int32} (h :
    Wp 256 0 [(0, .ref 58), (1, .int x1), (2, .int x2), (3, .int x3)] [] (gE Lx) I L e (kcp (Wp 270) 270 5 0 [(0, .ref 58), (3, .int x3)] 71 [.ref 58] Q)) :
    Wp 270 0 [(0, .ref 58), (1, .int x1), (2, .int x2), (3, .int x3)] [] (gE Lx) I L e Q := by
  refine w_a f_270_0 ?_
  refine w_a f_270_1 ?_
  refine w_a f_270_2 ?_
  refine w_a f_270_3 ?_
  refine w_a f_270_4 ?_
  exact w_c (ks := [0, 3]) f_270_5 rfl rfl h
set_option maxRecDepth 10000 in
set_option maxHeartbeats 4000000 in
theorem s_271_0 {Lx : Nat} {I : Mi} {L : Ml} {e : Nat} {Q : Kq} {x1 : Int32} {x2 : Int32} {x3 : Int32} (h :
    Wp 259 0 [(0, .ref 58), (1, .int (I 59 3)), (2, .int x1), (3, .int x2)] [] (gE Lx) I L e (kcp (Wp 271) 271 8 0 [(0, .ref 58), (1, .int x1), (2, .int x2), (3, .int x3)] 71 [.ref 58] Q)) :
    Wp 271 0 [(0, .ref 58), (1, .int x1), (2, .int x2), (3, .int x3)] [] (gE Lx) I L e Q := by
  refine w_a f_271_0 ?_
  refine w_a f_271_1 ?_
  refine w_a f_271_2 ?_
  refine w_a f_271_3 ?_
  refine w_a (ls := [(0, .ref 58)]) f_215_0 ?_
  refine w_a f_215_1 ?_
  refine w_a f_215_4 ?_
  refine w_a f_215_5 ?_
  refine w_a f_215_6 ?_
  refine w_a (ls := [(0, .ref 58), (1, .int x1), (2, .int x2), (3, .int x3)]) f_271_6 ?_
  refine w_a f_271_7 ?_
  exact w_c (ks := [0, 1, 2, 3]) f_271_8 rfl rfl h
set_option maxRecDepth 10000 in
set_option maxHeartbeats 4000000 in
theorem s_273_0 {Lx : Nat} {I : Mi} {L : Ml} {e : Nat} {Q : Kq} {x1 : Int32} {x2 : Int32} {x3 : Int32} (h :
    (if x1 < (Int32.ofInt 0) then
     Q (.inl (some (.long (Int64.ofInt 0)))) (gE Lx) (ui I 58 0 (Int32.ofInt 1)) L e
    else
     (if (I 59 3) < x1 then
      Q (.inl (some (.long (Int64.ofInt 0)))) (gE Lx) (ui I 58 0 (Int32.ofInt 1)) L e
     else
      Wp 251 0 [(0, .ref 58), (1, .int x1)] [] (gE Lx) I L e (kcp (Wp 274) 274 2 0 [(0, .ref 58), (2, .int x2)] 71 [] (kcp (Wp 273) 273 16 0 [(0, .ref 58), (2, .int x2), (3, .int x3)] 71 [.ref 58] Q))))) :
    Wp 273 0 [(0, .ref 58), (1, .int x1), (2, .int x2), (3, .int x3)] [] (gE Lx) I L e Q := by
  refine w_a f_273_0 ?_
  refine w_a f_273_1 ?_
  refine w_a f_273_2 ?_
  refine w_a f_273_3 ?_
  refine w_a (ls := [(0, .ref 58), (1, .int x1)]) f_226_0 ?_
  refine w_a f_226_1 ?_
  refine w_a f_226_2 ?_
  refine w_a f_226_3 ?_
  refine w_a (ls := [(0, .ref 58)]) f_215_0 ?_
  refine w_a f_215_1 ?_
  refine w_a f_215_4 ?_
  refine w_a f_215_5 ?_
  refine w_a f_215_6 ?_
  refine w_a (ls := [(0, .ref 58), (1, .int x1)]) f_226_6 ?_
  refine w_a (ls := [(0, .int x1), (1, .int (Int32.ofInt 0)), (2, .int (I 59 3))]) f_208_0 ?_
  refine w_a f_208_1 ?_
  refine w_a f_208_2 ?_
  refine i_m (fun h => ?_) (fun h => ?_) h
  · refine w_a f_208_14 ?_
    refine w_a f_208_15 ?_
    refine w_a (ls := [(0, .ref 58), (1, .int x1)]) f_226_9 ?_
    refine w_a (ls := [(0, .ref 58), (1, .int x1), (2, .int x2), (3, .int x3)]) f_273_6 ?_
    refine w_a f_273_9 ?_
    refine w_a f_273_10 ?_
    refine w_a f_273_27 ?_
    refine w_a f_273_30 ?_
    refine w_a f_273_31 ?_
    refine w_a f_273_34 ?_
    refine w_a f_273_37 ?_
    refine w_a f_273_38 ?_
    exact h
  · refine w_a f_208_5 ?_
    refine w_a f_208_6 ?_
    refine w_a f_208_7 ?_
    refine i_m (fun h => ?_) (fun h => ?_) h
    · refine w_a f_208_14 ?_
      refine w_a f_208_15 ?_
      refine w_a (ls := [(0, .ref 58), (1, .int x1)]) f_226_9 ?_
      refine w_a (ls := [(0, .ref 58), (1, .int x1), (2, .int x2), (3, .int x3)]) f_273_6 ?_
      refine w_a f_273_9 ?_
      refine w_a f_273_10 ?_
      refine w_a f_273_27 ?_
      refine w_a f_273_30 ?_
      refine w_a f_273_31 ?_
      refine w_a f_273_34 ?_
      refine w_a f_273_37 ?_
      refine w_a f_273_38 ?_
      exact h
    · refine w_a f_208_10 ?_
      refine w_a f_208_11 ?_
      refine w_a f_208_15 ?_
      refine w_a (ls := [(0, .ref 58), (1, .int x1)]) f_226_9 ?_
      refine w_a (ls := [(0, .ref 58), (1, .int x1), (2, .int x2), (3, .int x3)]) f_273_6 ?_
      refine w_a f_273_13 ?_
      refine w_a f_273_14 ?_
      refine w_a f_273_15 ?_
      refine w_c (ks := [0, 2, 3]) f_273_16 rfl rfl ?_
      refine w_a (ls := [(0, .ref 58), (1, .int x1), (2, .int x2)]) f_274_0 ?_
      refine w_a f_274_1 ?_
      exact w_c (ks := [0, 2]) f_274_2 rfl rfl h
set_option maxRecDepth 10000 in
set_option maxHeartbeats 4000000 in
theorem s_279_0 {Lx : Nat} {I : Mi} {L : Ml} {e : Nat} {Q : Kq} {x1 : Int32} {x2 : Int32} {x3 : Int32} (h :
    Wp 207 0 [(0, .int x1), (1, .int x2)] [] (gE Lx) I L e (kcp (Wp 280) 280 2 0 [(0, .int x1)] 71 [] (kcp (Wp 279) 279 3 0 [(0, .ref 58), (1, .int x1), (2, .int x2), (3, .int x3)] 71 [.ref 58] Q))) :
    Wp 279 0 [(0, .ref 58), (1, .int x1), (2, .int x2), (3, .int x3)] [] (gE Lx) I L e Q := by
  refine w_a f_279_0 ?_
  refine w_a f_279_1 ?_
  refine w_a f_279_2 ?_
  refine w_c (ks := [0, 1, 2, 3]) f_279_3 rfl rfl ?_
  refine w_a (ls := [(0, .int x1), (1, .int x2)]) f_280_0 ?_
  refine w_a f_280_1 ?_
  exact w_c (ks := [0]) f_280_2 rfl rfl h
set_option maxRecDepth 10000 in
set_option maxHeartbeats 4000000 in
theorem s_281_0 {Lx : Nat} {I : Mi} {L : Ml} {e : Nat} {Q : Kq} {x1 : Int32} {x2 : Int32} {x3 : Int32} {x4 : Int32} (h :
    (if x1 < (Int32.ofInt 0) then
     Wp 281 10 [(0, .ref 58), (2, .int x2), (3, .int x3), (4, .int x4)] [.int (Int32.ofInt 1), .ref 58] (gE Lx) I L e Q
    else
     (if (I 59 3) < x1 then
      Wp 281 10 [(0, .ref 58), (2, .int x2), (3, .int x3), (4, .int x4)] [.int (Int32.ofInt 1), .ref 58] (gE Lx) I L e Q
     else
      Wp 207 0 [(0, .int x3), (1, .int x4)] [] (gE Lx) I L e (kcp (Wp 280) 280 2 0 [(0, .int x3)] 71 [] (kcp (Wp 282) 282 15 0 [(0, .ref 58), (1, .int x1), (2, .int x2)] 71 [] (kcp (Wp 281) 281 7 0 [(0, .ref 58), (2, .int x2), (3, .int x3), (4, .int x4)] 71 [.ref 58] Q)))))) :
    Wp 281 0 [(0, .ref 58), (1, .int x1), (2, .int x2), (3, .int x3), (4, .int x4)] [] (gE Lx) I L e Q := by
  refine w_a f_281_0 ?_
  refine w_a f_281_1 ?_
  refine w_a f_281_2 ?_
  refine w_a f_281_3 ?_
  refine w_a f_281_4 ?_
  refine w_a f_281_5 ?_
  refine w_c (ks := [0, 2, 3, 4]) f_281_7 rfl rfl ?_
  refine w_a (ls := [(0, .ref 58), (1, .int x1), (2, .int x2), (3, .int x3), (4, .int x4)]) f_282_0 ?_
  refine w_a f_282_1 ?_
  refine w_a f_282_2 ?_
  refine w_a (ls := [(0, .ref 58), (1, .int x1)]) f_226_0 ?_
  refine w_a f_226_1 ?_
  refine w_a f_226_2 ?_
  refine w_a f_226_3 ?_
  refine w_a (ls := [(0, .ref 58)]) f_215_0 ?_
  refine w_a f_215_1 ?_
  refine w_a f_215_4 ?_
  refine w_a f_215_5 ?_
  refine w_a f_215_6 ?_
  refine w_a (ls := [(0, .ref 58), (1, .int x1)]) f_226_6 ?_
  refine w_a (ls := [(0, .int x1), (1, .int (Int32.ofInt 0)), (2, .int (I 59 3))]) f_208_0 ?_
  refine w_a f_208_1 ?_
  refine w_a f_208_2 ?_
  refine i_m (fun h => ?_) (fun h => ?_) h
  · refine w_a f_208_14 ?_
    refine w_a f_208_15 ?_
    refine w_a (ls := [(0, .ref 58), (1, .int x1)]) f_226_9 ?_
    refine w_a (ls := [(0, .ref 58), (1, .int x1), (2, .int x2), (3, .int x3), (4, .int x4)]) f_282_5 ?_
    refine w_a f_282_8 ?_
    refine w_a f_282_9 ?_
    refine w_a f_282_39 ?_
    exact h
  · refine w_a f_208_5 ?_
    refine w_a f_208_6 ?_
    refine w_a f_208_7 ?_
    refine i_m (fun h => ?_) (fun h => ?_) h
    · refine w_a f_208_14 ?_
      refine w_a f_208_15 ?_
      refine w_a (ls := [(0, .ref 58), (1, .int x1)]) f_226_9 ?_
      refine w_a (ls := [(0, .ref 58), (1, .int x1), (2, .int x2), (3, .int x3), (4, .int x4)]) f_282_5 ?_
      refine w_a f_282_8 ?_
      refine w_a f_282_9 ?_
      refine w_a f_282_39 ?_
      exact h
    · refine w_a f_208_10 ?_
      refine w_a f_208_11 ?_
      refine w_a f_208_15 ?_
      refine w_a (ls := [(0, .ref 58), (1, .int x1)]) f_226_9 ?_
      refine w_a (ls := [(0, .ref 58), (1, .int x1), (2, .int x2), (3, .int x3), (4, .int x4)]) f_282_5 ?_
      refine w_a f_282_12 ?_
      refine w_a f_282_13 ?_
      refine w_c (ks := [0, 1, 2]) f_282_15 rfl rfl ?_
      refine w_a (ls := [(0, .int x3), (1, .int x4)]) f_280_0 ?_
      refine w_a f_280_1 ?_
      exact w_c (ks := [0]) f_280_2 rfl rfl h
set_option maxRecDepth 10000 in
set_option maxHeartbeats 4000000 in
theorem s_285_0 {Lx : Nat} {I : Mi} {L : Ml} {e : Nat} {Q : Kq} {x1 : Int32} {x2 : Int32} {x3 : Int32} {x4 : Int32} {x5 : Int32} {x6 : Int32} {x7 : Int32} (h :
    (if x1 < (Int32.ofInt 0) then
     Wp 285 10 [(0, .ref 58), (2, .int x2), (3, .int x3), (4, .int x4), (5, .int x5), (6, .int x6), (7, .int x7)] [.int (Int32.ofInt 1), .ref 58] (gE Lx) I L e Q
    else
     (if (I 59 3) < x1 then
      Wp 285 10 [(0, .ref 58), (2, .int x2), (3, .int x3), (4, .int x4), (5, .int x5), (6, .int x6), (7, .int x7)] [.int (Int32.ofInt 1), .ref 58] (gE Lx) I L e Q
     else
      Wp 207 0 [(0, .int x3), (1, .int x4)] [] (gE Lx) I L e (kcp (Wp 280) 280 2 0 [(0, .int x3)] 71 [] (kcp (Wp 282) 282 15 0 [(0, .ref 58), (1, .int x1), (2, .int x2)] 71 [] (kcp (Wp 285) 285 7 0 [(0, .ref 58), (2, .int x2), (3, .int x3), (4, .int x4), (5, .int x5), (6, .int x6), (7, .int x7)] 71 [.ref 58] Q)))))) :
    Wp 285 0 [(0, .ref 58), (1, .int x1), (2, .int x2), (3, .int x3), (4, .int x4), (5, .int x5), (6, .int x6), (7, .int x7)] [] (gE Lx) I L e Q := by
  refine w_a f_285_0 ?_
  refine w_a f_285_1 ?_
  refine w_a f_285_2 ?_
  refine w_a f_285_3 ?_
  refine w_a f_285_4 ?_
  refine w_a f_285_5 ?_
  refine w_c (ks := [0, 2, 3, 4, 5, 6, 7]) f_285_7 rfl rfl ?_
  refine w_a (ls := [(0, .ref 58), (1, .int x1), (2, .int x2), (3, .int x3), (4, .int x4)]) f_282_0 ?_
  refine w_a f_282_1 ?_
  refine w_a f_282_2 ?_
  refine w_a (ls := [(0, .ref 58), (1, .int x1)]) f_226_0 ?_
  refine w_a f_226_1 ?_
  refine w_a f_226_2 ?_
  refine w_a f_226_3 ?_
  refine w_a (ls := [(0, .ref 58)]) f_215_0 ?_
  refine w_a f_215_1 ?_
  refine w_a f_215_4 ?_
  refine w_a f_215_5 ?_
  refine w_a f_215_6 ?_
  refine w_a (ls := [(0, .ref 58), (1, .int x1)]) f_226_6 ?_
  refine w_a (ls := [(0, .int x1), (1, .int (Int32.ofInt 0)), (2, .int (I 59 3))]) f_208_0 ?_
  refine w_a f_208_1 ?_
  refine w_a f_208_2 ?_
  refine i_m (fun h => ?_) (fun h => ?_) h
  · refine w_a f_208_14 ?_
    refine w_a f_208_15 ?_
    refine w_a (ls := [(0, .ref 58), (1, .int x1)]) f_226_9 ?_
    refine w_a (ls := [(0, .ref 58), (1, .int x1), (2, .int x2), (3, .int x3), (4, .int x4)]) f_282_5 ?_
    refine w_a f_282_8 ?_
    refine w_a f_282_9 ?_
    refine w_a f_282_39 ?_
    exact h
  · refine w_a f_208_5 ?_
    refine w_a f_208_6 ?_
    refine w_a f_208_7 ?_
    refine i_m (fun h => ?_) (fun h => ?_) h
    · refine w_a f_208_14 ?_
      refine w_a f_208_15 ?_
      refine w_a (ls := [(0, .ref 58), (1, .int x1)]) f_226_9 ?_
      refine w_a (ls := [(0, .ref 58), (1, .int x1), (2, .int x2), (3, .int x3), (4, .int x4)]) f_282_5 ?_
      refine w_a f_282_8 ?_
      refine w_a f_282_9 ?_
      refine w_a f_282_39 ?_
      exact h
    · refine w_a f_208_10 ?_
      refine w_a f_208_11 ?_
      refine w_a f_208_15 ?_
      refine w_a (ls := [(0, .ref 58), (1, .int x1)]) f_226_9 ?_
      refine w_a (ls := [(0, .ref 58), (1, .int x1), (2, .int x2), (3, .int x3), (4, .int x4)]) f_282_5 ?_
      refine w_a f_282_12 ?_
      refine w_a f_282_13 ?_
      refine w_c (ks := [0, 1, 2]) f_282_15 rfl rfl ?_
      refine w_a (ls := [(0, .int x3), (1, .int x4)]) f_280_0 ?_
      refine w_a f_280_1 ?_
      exact w_c (ks := [0]) f_280_2 rfl rfl h
set_option maxRecDepth 10000 in
set_option maxHeartbeats 4000000 in
theorem s_288_0 {Lx : Nat} {I : Mi} {L : Ml} {e : Nat} {Q : Kq} {x1 : Int32} {x2 : Int32} {x3 : Int32} {x4 : Int32} {x5 : Int32} {x6 : Int32} (h :
    (if x1 < (Int32.ofInt 0) then
     Wp 288 14 [(0, .ref 58), (2, .int x2), (3, .int x3), (4, .int x4)] [.int (Int32.ofInt 1), .ref 58] (gE Lx) I L e Q
    else
     (if (I 59 3) < x1 then
      Wp 288 14 [(0, .ref 58), (2, .int x2), (3, .int x3), (4, .int x4)] [.int (Int32.ofInt 1), .ref 58] (gE Lx) I L e Q
     else
      Wp 207 0 [(0, .int x3), (1, .int x4)] [] (gE Lx) I L e (kcp (Wp 280) 280 2 0 [(0, .int x3)] 71 [] (kcp (Wp 289) 289 15 0 [(0, .ref 58), (1, .int x1), (2, .int x2), (3, .int x3), (4, .int x4), (5, .int x5), (6, .int x6)] 71 [] (kcp (Wp 288) 288 11 0 [(0, .ref 58), (2, .int x2), (3, .int x3), (4, .int x4)] 71 [.ref 58] Q)))))) :
    Wp 288 0 [(0, .ref 58), (1, .int x1), (2, .int x2), (3, .int x3), (4, .int x4), (5, .int x5), (6, .int x6)] [] (gE Lx) I L e Q := by
  refine w_a f_288_0 ?_
  refine w_a f_288_1 ?_
  refine w_a f_288_2 ?_
  refine w_a f_288_3 ?_
  refine w_a f_288_4 ?_
  refine w_a f_288_5 ?_
  refine w_a f_288_7 ?_
  refine w_a f_288_9 ?_
  refine w_c (ks := [0, 2, 3, 4]) f_288_11 rfl rfl ?_
  refine w_a (ls := [(0, .ref 58), (1, .int x1), (2, .int x2), (3, .int x3), (4, .int x4), (5, .int x5), (6, .int x6)]) f_289_0 ?_
  refine w_a f_289_1 ?_
  refine w_a f_289_2 ?_
  refine w_a (ls := [(0, .ref 58), (1, .int x1)]) f_226_0 ?_
  refine w_a f_226_1 ?_
  refine w_a f_226_2 ?_
  refine w_a f_226_3 ?_
  refine w_a (ls := [(0, .ref 58)]) f_215_0 ?_
  refine w_a f_215_1 ?_
  refine w_a f_215_4 ?_
  refine w_a f_215_5 ?_
  refine w_a f_215_6 ?_
  refine w_a (ls := [(0, .ref 58), (1, .int x1)]) f_226_6 ?_
  refine w_a (ls := [(0, .int x1), (1, .int (Int32.ofInt 0)), (2, .int (I 59 3))]) f_208_0 ?_
  refine w_a f_208_1 ?_
  refine w_a f_208_2 ?_
  refine i_m (fun h => ?_) (fun h => ?_) h
  · refine w_a f_208_14 ?_
    refine w_a f_208_15 ?_
    refine w_a (ls := [(0, .ref 58), (1, .int x1)]) f_226_9 ?_
    refine w_a (ls := [(0, .ref 58), (1, .int x1), (2, .int x2), (3, .int x3), (4, .int x4), (5, .int x5), (6, .int x6)]) f_289_5 ?_
    refine w_a f_289_8 ?_
    refine w_a f_289_9 ?_
    refine w_a f_289_62 ?_
    refine w_a (ls := [(7, .int (Int32.ofInt 1)), (0, .ref 58), (1, .int x1), (2, .int x2), (3, .int x3), (4, .int x4), (5, .int x5), (6, .int x6)]) f_289_64 ?_
    refine w_a f_289_66 ?_
    refine w_a f_289_69 ?_
    refine w_a f_289_71 ?_
    exact h
  · refine w_a f_208_5 ?_
    refine w_a f_208_6 ?_
    refine w_a f_208_7 ?_
    refine i_m (fun h => ?_) (fun h => ?_) h
    · refine w_a f_208_14 ?_
      refine w_a f_208_15 ?_
      refine w_a (ls := [(0, .ref 58), (1, .int x1)]) f_226_9 ?_
      refine w_a (ls := [(0, .ref 58), (1, .int x1), (2, .int x2), (3, .int x3), (4, .int x4), (5, .int x5), (6, .int x6)]) f_289_5 ?_
      refine w_a f_289_8 ?_
      refine w_a f_289_9 ?_
      refine w_a f_289_62 ?_
      refine w_a (ls := [(7, .int (Int32.ofInt 1)), (0, .ref 58), (1, .int x1), (2, .int x2), (3, .int x3), (4, .int x4), (5, .int x5), (6, .int x6)]) f_289_64 ?_
      refine w_a f_289_66 ?_
      refine w_a f_289_69 ?_
      refine w_a f_289_71 ?_
      exact h
    · refine w_a f_208_10 ?_
      refine w_a f_208_11 ?_
      refine w_a f_208_15 ?_
      refine w_a (ls := [(0, .ref 58), (1, .int x1)]) f_226_9 ?_
      refine w_a (ls := [(0, .ref 58), (1, .int x1), (2, .int x2), (3, .int x3), (4, .int x4), (5, .int x5), (6, .int x6)]) f_289_5 ?_
      refine w_a f_289_12 ?_
      refine w_a f_289_13 ?_
      refine w_c (ks := [0, 1, 2, 3, 4, 5, 6]) f_289_15 rfl rfl ?_
      refine w_a (ls := [(0, .int x3), (1, .int x4)]) f_280_0 ?_
      refine w_a f_280_1 ?_
      exact w_c (ks := [0]) f_280_2 rfl rfl h
set_option maxRecDepth 10000 in
set_option maxHeartbeats 4000000 in
theorem s_291_0 {Lx : Nat} {I : Mi} {L : Ml} {e : Nat} {Q : Kq} {x1 : Int32} {x2 : Int32} {x3 : Int32} {x4 : Int32} {x5 : Int32} {x6 : Int32} {x7 : Int32} {x8 : Int32} {x9 : Int32} (h :
    (if x1 < (Int32.ofInt 0) then
     Wp 291 14 [(0, .ref 58), (2, .int x2), (3, .int x3), (4, .int x4), (7, .int x7), (8, .int x8), (9, .int x9)] [.int (Int32.ofInt 1), .ref 58] (gE Lx) I L e Q
    else
     (if (I 59 3) < x1 then
      Wp 291 14 [(0, .ref 58), (2, .int x2), (3, .int x3), (4, .int x4), (7, .int x7), (8, .int x8), (9, .int x9)] [.int (Int32.ofInt 1), .ref 58] (gE Lx) I L e Q
     else
      Wp 207 0 [(0, .int x3), (1, .int x4)] [] (gE Lx) I L e (kcp (Wp 280) 280 2 0 [(0, .int x3)] 71 [] (kcp (Wp 289) 289 15 0 [(0, .ref 58), (1, .int x1), (2, .int x2), (3, .int x3), (4, .int x4), (5, .int x5), (6, .int x6)] 71 [] (kcp (Wp 291) 291 11 0 [(0, .ref 58), (2, .int x2), (3, .int x3), (4, .int x4), (7, .int x7), (8, .int x8), (9, .int x9)] 71 [.ref 58] Q)))))) :
    Wp 291 0 [(0, .ref 58), (1, .int x1), (2, .int x2), (3, .int x3), (4, .int x4), (5, .int x5), (6, .int x6), (7, .int x7), (8, .int x8), (9, .int x9)] [] (gE Lx) I L e Q := by
  refine w_a f_291_0 ?_
  refine w_a f_291_1 ?_
  refine w_a f_291_2 ?_
  refine w_a f_291_3 ?_
  refine w_a f_291_4 ?_
  refine w_a f_291_5 ?_
  refine w_a f_291_7 ?_
  refine w_a f_291_9 ?_
  refine w_c (ks := [0, 2, 3, 4, 7, 8, 9]) f_291_11 rfl rfl ?_
  refine w_a (ls := [(0, .ref 58), (1, .int x1), (2, .int x2), (3, .int x3), (4, .int x4), (5, .int x5), (6, .int x6)]) f_289_0 ?_
  refine w_a f_289_1 ?_
  refine w_a f_289_2 ?_
  refine w_a (ls := [(0, .ref 58), (1, .int x1)]) f_226_0 ?_
  refine w_a f_226_1 ?_
  refine w_a f_226_2 ?_
  refine w_a f_226_3 ?_
  refine w_a (ls := [(0, .ref 58)]) f_215_0 ?_
  refine w_a f_215_1 ?_
  refine w_a f_215_4 ?_
  refine w_a f_215_5 ?_
  refine w_a f_215_6 ?_
  refine w_a (ls := [(0, .ref 58), (1, .int x1)]) f_226_6 ?_
  refine w_a (ls := [(0, .int x1), (1, .int (Int32.ofInt 0)), (2, .int (I 59 3))]) f_208_0 ?_
  refine w_a f_208_1 ?_
  refine w_a f_208_2 ?_
  refine i_m (fun h => ?_) (fun h => ?_) h
  · refine w_a f_208_14 ?_
    refine w_a f_208_15 ?_
    refine w_a (ls := [(0, .ref 58), (1, .int x1)]) f_226_9 ?_
    refine w_a (ls := [(0, .ref 58), (1, .int x1), (2, .int x2), (3, .int x3), (4, .int x4), (5, .int x5), (6, .int x6)]) f_289_5 ?_
    refine w_a f_289_8 ?_
    refine w_a f_289_9 ?_
    refine w_a f_289_62 ?_
    refine w_a (ls := [(7, .int (Int32.ofInt 1)), (0, .ref 58), (1, .int x1), (2, .int x2), (3, .int x3), (4, .int x4), (5, .int x5), (6, .int x6)]) f_289_64 ?_
    refine w_a f_289_66 ?_
    refine w_a f_289_69 ?_
    refine w_a f_289_71 ?_
    exact h
  · refine w_a f_208_5 ?_
    refine w_a f_208_6 ?_
    refine w_a f_208_7 ?_
    refine i_m (fun h => ?_) (fun h => ?_) h
    · refine w_a f_208_14 ?_
      refine w_a f_208_15 ?_
      refine w_a (ls := [(0, .ref 58), (1, .int x1)]) f_226_9 ?_
      refine w_a (ls := [(0, .ref 58), (1, .int x1), (2, .int x2), (3, .int x3), (4, .int x4), (5, .int x5), (6, .int x6)]) f_289_5 ?_
      refine w_a f_289_8 ?_
      refine w_a f_289_9 ?_
      refine w_a f_289_62 ?_
      refine w_a (ls := [(7, .int (Int32.ofInt 1)), (0, .ref 58), (1, .int x1), (2, .int x2), (3, .int x3), (4, .int x4), (5, .int x5), (6, .int x6)]) f_289_64 ?_
      refine w_a f_289_66 ?_
      refine w_a f_289_69 ?_
      refine w_a f_289_71 ?_
      exact h
    · refine w_a f_208_10 ?_
      refine w_a f_208_11 ?_
      refine w_a f_208_15 ?_
      refine w_a (ls := [(0, .ref 58), (1, .int x1)]) f_226_9 ?_
      refine w_a (ls := [(0, .ref 58), (1, .int x1), (2, .int x2), (3, .int x3), (4, .int x4), (5, .int x5), (6, .int x6)]) f_289_5 ?_
      refine w_a f_289_12 ?_
      refine w_a f_289_13 ?_
      refine w_c (ks := [0, 1, 2, 3, 4, 5, 6]) f_289_15 rfl rfl ?_
      refine w_a (ls := [(0, .int x3), (1, .int x4)]) f_280_0 ?_
      refine w_a f_280_1 ?_
      exact w_c (ks := [0]) f_280_2 rfl rfl h
set_option maxRecDepth 10000 in
set_option maxHeartbeats 4000000 in
theorem s_292_0 {Lx : Nat} {I : Mi} {L : Ml} {e : Nat} {Q : Kq} {x1 : Int32} {x2 : Int32} {x3 : Int32} {x4 : Int32} {x5 : Int32} (h :
    (if x1 < (Int32.ofInt 0) then
     Wp 293 9 [(0, .ref 58)] [.int (Int32.ofInt 1)] (gE Lx) I L e (kcp (Wp 292) 292 7 0 [(0, .ref 58), (2, .int x2), (3, .int x3), (4, .int x4), (5, .int x5)] 71 [.ref 58] Q)
    else
     (if (I 59 3) < x1 then
      Wp 293 9 [(0, .ref 58)] [.int (Int32.ofInt 1)] (gE Lx) I L e (kcp (Wp 292) 292 7 0 [(0, .ref 58), (2, .int x2), (3, .int x3), (4, .int x4), (5, .int x5)] 71 [.ref 58] Q)
     else
      Wp 207 0 [(0, .int x3), (1, .int x4)] [] (gE Lx) I L e (kcp (Wp 280) 280 2 0 [(0, .int x3)] 71 [] (kcp (Wp 282) 282 15 0 [(0, .ref 58), (1, .int x1), (2, .int x2)] 71 [] (kcp (Wp 293) 293 6 0 [(0, .ref 58)] 71 [] (kcp (Wp 292) 292 7 0 [(0, .ref 58), (2, .int x2), (3, .int x3), (4, .int x4), (5, .int x5)] 71 [.ref 58] Q))))))) :
    Wp 292 0 [(0, .ref 58), (1, .int x1), (2, .int x2), (3, .int x3), (4, .int x4), (5, .int x5)] [] (gE Lx) I L e Q := by
  refine w_a f_292_0 ?_
  refine w_a f_292_1 ?_
  refine w_a f_292_2 ?_
  refine w_a f_292_3 ?_
  refine w_a f_292_4 ?_
  refine w_a f_292_5 ?_
  refine w_c (ks := [0, 2, 3, 4, 5]) f_292_7 rfl rfl ?_
  refine w_a (ls := [(0, .ref 58), (1, .int x1), (2, .int x2), (3, .int x3), (4, .int x4)]) f_293_0 ?_
  refine w_a f_293_1 ?_
  refine w_a f_293_2 ?_
  refine w_a f_293_3 ?_
  refine w_a f_293_4 ?_
  refine w_c (ks := [0]) f_293_6 rfl rfl ?_
  refine w_a (ls := [(0, .ref 58), (1, .int x1), (2, .int x2), (3, .int x3), (4, .int x4)]) f_282_0 ?_
  refine w_a f_282_1 ?_
  refine w_a f_282_2 ?_
  refine w_a (ls := [(0, .ref 58), (1, .int x1)]) f_226_0 ?_
  refine w_a f_226_1 ?_
  refine w_a f_226_2 ?_
  refine w_a f_226_3 ?_
  refine w_a (ls := [(0, .ref 58)]) f_215_0 ?_
  refine w_a f_215_1 ?_
  refine w_a f_215_4 ?_
  refine w_a f_215_5 ?_
  refine w_a f_215_6 ?_
  refine w_a (ls := [(0, .ref 58), (1, .int x1)]) f_226_6 ?_
  refine w_a (ls := [(0, .int x1), (1, .int (Int32.ofInt 0)), (2, .int (I 59 3))]) f_208_0 ?_
  refine w_a f_208_1 ?_
  refine w_a f_208_2 ?_
  refine i_m (fun h => ?_) (fun h => ?_) h
  · refine w_a f_208_14 ?_
    refine w_a f_208_15 ?_
    refine w_a (ls := [(0, .ref 58), (1, .int x1)]) f_226_9 ?_
    refine w_a (ls := [(0, .ref 58), (1, .int x1), (2, .int x2), (3, .int x3), (4, .int x4)]) f_282_5 ?_
    refine w_a f_282_8 ?_
    refine w_a f_282_9 ?_
    refine w_a f_282_39 ?_
    exact h
  · refine w_a f_208_5 ?_
    refine w_a f_208_6 ?_
    refine w_a f_208_7 ?_
    refine i_m (fun h => ?_) (fun h => ?_) h
    · refine w_a f_208_14 ?_
      refine w_a f_208_15 ?_
      refine w_a (ls := [(0, .ref 58), (1, .int x1)]) f_226_9 ?_
      refine w_a (ls := [(0, .ref 58), (1, .int x1), (2, .int x2), (3, .int x3), (4, .int x4)]) f_282_5 ?_
      refine w_a f_282_8 ?_
      refine w_a f_282_9 ?_
      refine w_a f_282_39 ?_
      exact h
    · refine w_a f_208_10 ?_
      refine w_a f_208_11 ?_
      refine w_a f_208_15 ?_
      refine w_a (ls := [(0, .ref 58), (1, .int x1)]) f_226_9 ?_
      refine w_a (ls := [(0, .ref 58), (1, .int x1), (2, .int x2), (3, .int x3), (4, .int x4)]) f_282_5 ?_
      refine w_a f_282_12 ?_
      refine w_a f_282_13 ?_
      refine w_c (ks := [0, 1, 2]) f_282_15 rfl rfl ?_
      refine w_a (ls := [(0, .int x3), (1, .int x4)]) f_280_0 ?_
      refine w_a f_280_1 ?_
      exact w_c (ks := [0]) f_280_2 rfl rfl h
set_option maxRecDepth 10000 in
set_option maxHeartbeats 4000000 in
theorem s_295_0 {Lx : Nat} {I : Mi} {L : Ml} {e : Nat} {Q : Kq} {x1 : Int32} {x2 : Int32} {x3 : Int32} {x4 : Int32} {x5 : Int32} (h :
    (if x1 < (Int32.ofInt 0) then
     Q (.inl (some (.int (Int32.ofInt 0)))) (gE Lx) (ui I 58 0 (Int32.ofInt 1)) L e
    else
     (if (I 59 3) < x1 then
      Q (.inl (some (.int (Int32.ofInt 0)))) (gE Lx) (ui I 58 0 (Int32.ofInt 1)) L e
     else
      (if x5 < (Int32.ofInt 0) then
       Q (.inl (some (.int (Int32.ofInt 0)))) (gE Lx) (ui I 58 0 (Int32.ofInt 2)) L e
      else
       (if (Int32.ofInt 2) < x5 then
        Q (.inl (some (.int (Int32.ofInt 0)))) (gE Lx) (ui I 58 0 (Int32.ofInt 2)) L e
       else
        (if x1 < (Int32.ofInt 0) then
         Wp 293 9 [(0, .ref 58)] [.int (Int32.ofInt 1)] (gE Lx) (ui I 58 0 (Int32.ofInt 0)) L e (kcp (Wp 295) 295 46 0 [(0, .ref 58), (2, .int x2), (3, .int x3), (4, .int x4), (5, .int x5)] 71 [] Q)
        else
         (if (I 59 3) < x1 then
          Wp 293 9 [(0, .ref 58)] [.int (Int32.ofInt 1)] (gE Lx) (ui I 58 0 (Int32.ofInt 0)) L e (kcp (Wp 295) 295 46 0 [(0, .ref 58), (2, .int x2), (3, .int x3), (4, .int x4), (5, .int x5)] 71 [] Q)
         else
          Wp 207 0 [(0, .int x3), (1, .int x4)] [] (gE Lx) (ui I 58 0 (Int32.ofInt 0)) L e (kcp (Wp 280) 280 2 0 [(0, .int x3)] 71 [] (kcp (Wp 282) 282 15 0 [(0, .ref 58), (1, .int x1), (2, .int x2)] 71 [] (kcp (Wp 293) 293 6 0 [(0, .ref 58)] 71 [] (kcp (Wp 295) 295 46 0 [(0, .ref 58), (2, .int x2), (3, .int x3), (4, .int x4), (5, .int x5)] 71 [] Q))))))))))) :
    Wp 295 0 [(0, .ref 58), (1, .int x1), (2, .int x2), (3, .int x3), (4, .int x4), (5, .int x5)] [] (gE Lx) I L e Q := by
  refine w_a f_295_0 ?_
  refine w_a f_295_1 ?_
  refine w_a f_295_2 ?_
  refine w_a f_295_3 ?_
  refine w_a (ls := [(0, .ref 58), (1, .int x1)]) f_226_0 ?_
  refine w_a f_226_1 ?_
  refine w_a f_226_2 ?_
  refine w_a f_226_3 ?_
  refine w_a (ls := [(0, .ref 58)]) f_215_0 ?_
  refine w_a f_215_1 ?_
  refine w_a f_215_4 ?_
  refine w_a f_215_5 ?_
  refine w_a f_215_6 ?_
  refine w_a (ls := [(0, .ref 58), (1, .int x1)]) f_226_6 ?_
  refine w_a (ls := [(0, .int x1), (1, .int (Int32.ofInt 0)), (2, .int (I 59 3))]) f_208_0 ?_
  refine w_a f_208_1 ?_
  refine w_a f_208_2 ?_
  refine i_m (fun h => ?_) (fun h => ?_) h
  · refine w_a f_208_14 ?_
    refine w_a f_208_15 ?_
    refine w_a (ls := [(0, .ref 58), (1, .int x1)]) f_226_9 ?_
    refine w_a (ls := [(0, .ref 58), (1, .int x1), (2, .int x2), (3, .int x3), (4, .int x4), (5, .int x5)]) f_295_6 ?_
    refine w_a f_295_9 ?_
    refine w_a f_295_10 ?_
    refine w_a f_295_28 ?_
    refine w_a f_295_31 ?_
    refine w_a f_295_32 ?_
    refine w_a f_295_35 ?_
    refine w_a f_295_38 ?_
    refine w_a f_295_39 ?_
    exact h
  · refine w_a f_208_5 ?_
    refine w_a f_208_6 ?_
    refine w_a f_208_7 ?_
    refine i_m (fun h => ?_) (fun h => ?_) h
    · refine w_a f_208_14 ?_
      refine w_a f_208_15 ?_
      refine w_a (ls := [(0, .ref 58), (1, .int x1)]) f_226_9 ?_
      refine w_a (ls := [(0, .ref 58), (1, .int x1), (2, .int x2), (3, .int x3), (4, .int x4), (5, .int x5)]) f_295_6 ?_
      refine w_a f_295_9 ?_
      refine w_a f_295_10 ?_
      refine w_a f_295_28 ?_
      refine w_a f_295_31 ?_
      refine w_a f_295_32 ?_
      refine w_a f_295_35 ?_
      refine w_a f_295_38 ?_
      refine w_a f_295_39 ?_
      exact h
    · refine w_a f_208_10 ?_
      refine w_a f_208_11 ?_
      refine w_a f_208_15 ?_
      refine w_a (ls := [(0, .ref 58), (1, .int x1)]) f_226_9 ?_
      refine w_a (ls := [(0, .ref 58), (1, .int x1), (2, .int x2), (3, .int x3), (4, .int x4), (5, .int x5)]) f_295_6 ?_
      refine w_a f_295_13 ?_
      refine w_a f_295_15 ?_
      refine w_a f_295_16 ?_
      refine w_a f_295_17 ?_
      refine w_a (ls := [(0, .int x5), (1, .int (Int32.ofInt 0)), (2, .int (Int32.ofInt 2))]) f_208_0 ?_
      refine w_a f_208_1 ?_
      refine w_a f_208_2 ?_
      refine i_m (fun h => ?_) (fun h => ?_) h
      · refine w_a f_208_14 ?_
        refine w_a f_208_15 ?_
        refine w_a (ls := [(0, .ref 58), (1, .int x1), (2, .int x2), (3, .int x3), (4, .int x4), (5, .int x5)]) f_295_20 ?_
        refine w_a f_295_23 ?_
        refine w_a f_295_24 ?_
        refine w_a f_295_28 ?_
        refine w_a f_295_31 ?_
        refine w_a f_295_32 ?_
        refine w_a f_295_35 ?_
        refine w_a f_295_38 ?_
        refine w_a f_295_39 ?_
        exact h
      · refine w_a f_208_5 ?_
        refine w_a f_208_6 ?_
        refine w_a f_208_7 ?_
        refine i_m (fun h => ?_) (fun h => ?_) h
        · refine w_a f_208_14 ?_
          refine w_a f_208_15 ?_
          refine w_a (ls := [(0, .ref 58), (1, .int x1), (2, .int x2), (3, .int x3), (4, .int x4), (5, .int x5)]) f_295_20 ?_
          refine w_a f_295_23 ?_
          refine w_a f_295_24 ?_
          refine w_a f_295_28 ?_
          refine w_a f_295_31 ?_
          refine w_a f_295_32 ?_
          refine w_a f_295_35 ?_
          refine w_a f_295_38 ?_
          refine w_a f_295_39 ?_
          exact h
        · refine w_a f_208_10 ?_
          refine w_a f_208_11 ?_
          refine w_a f_208_15 ?_
          refine w_a (ls := [(0, .ref 58), (1, .int x1), (2, .int x2), (3, .int x3), (4, .int x4), (5, .int x5)]) f_295_20 ?_
          refine w_a f_295_27 ?_
          refine w_a f_295_28 ?_
          refine w_a f_295_31 ?_
          refine w_a f_295_32 ?_
          refine w_a f_295_35 ?_
          refine w_a f_295_40 ?_
          refine w_a f_295_41 ?_
          refine w_a f_295_42 ?_
          refine w_a f_295_43 ?_
          refine w_a f_295_44 ?_
          refine w_c (ks := [0, 2, 3, 4, 5]) f_295_46 rfl rfl ?_
          refine w_a (ls := [(0, .ref 58), (1, .int x1), (2, .int x2), (3, .int x3), (4, .int x4)]) f_293_0 ?_
          refine w_a f_293_1 ?_
          refine w_a f_293_2 ?_
          refine w_a f_293_3 ?_
          refine w_a f_293_4 ?_
          refine w_c (ks := [0]) f_293_6 rfl rfl ?_
          refine w_a (ls := [(0, .ref 58), (1, .int x1), (2, .int x2), (3, .int x3), (4, .int x4)]) f_282_0 ?_
          refine w_a f_282_1 ?_
          refine w_a f_282_2 ?_
          refine w_a (ls := [(0, .ref 58), (1, .int x1)]) f_226_0 ?_
          refine w_a f_226_1 ?_
          refine w_a f_226_2 ?_
          refine w_a f_226_3 ?_
          refine w_a (ls := [(0, .ref 58)]) f_215_0 ?_
          refine w_a f_215_1 ?_
          refine w_a f_215_4 ?_
          refine w_a f_215_5 ?_
          refine w_a f_215_6 ?_
          refine w_a (ls := [(0, .ref 58), (1, .int x1)]) f_226_6 ?_
          refine w_a (ls := [(0, .int x1), (1, .int (Int32.ofInt 0)), (2, .int (I 59 3))]) f_208_0 ?_
          refine w_a f_208_1 ?_
          refine w_a f_208_2 ?_
          refine i_m (fun h => ?_) (fun h => ?_) h
          · refine w_a f_208_14 ?_
            refine w_a f_208_15 ?_
            refine w_a (ls := [(0, .ref 58), (1, .int x1)]) f_226_9 ?_
            refine w_a (ls := [(0, .ref 58), (1, .int x1), (2, .int x2), (3, .int x3), (4, .int x4)]) f_282_5 ?_
            refine w_a f_282_8 ?_
            refine w_a f_282_9 ?_
            refine w_a f_282_39 ?_
            exact h
          · refine w_a f_208_5 ?_
            refine w_a f_208_6 ?_
            refine w_a f_208_7 ?_
            refine i_m (fun h => ?_) (fun h => ?_) h
            · refine w_a f_208_14 ?_
              refine w_a f_208_15 ?_
              refine w_a (ls := [(0, .ref 58), (1, .int x1)]) f_226_9 ?_
              refine w_a (ls := [(0, .ref 58), (1, .int x1), (2, .int x2), (3, .int x3), (4, .int x4)]) f_282_5 ?_
              refine w_a f_282_8 ?_
              refine w_a f_282_9 ?_
              refine w_a f_282_39 ?_
              exact h
            · refine w_a f_208_10 ?_
              refine w_a f_208_11 ?_
              refine w_a f_208_15 ?_
              refine w_a (ls := [(0, .ref 58), (1, .int x1)]) f_226_9 ?_
              refine w_a (ls := [(0, .ref 58), (1, .int x1), (2, .int x2), (3, .int x3), (4, .int x4)]) f_282_5 ?_
              refine w_a f_282_12 ?_
              refine w_a f_282_13 ?_
              refine w_c (ks := [0, 1, 2]) f_282_15 rfl rfl ?_
              refine w_a (ls := [(0, .int x3), (1, .int x4)]) f_280_0 ?_
              refine w_a f_280_1 ?_
              exact w_c (ks := [0]) f_280_2 rfl rfl h
set_option maxRecDepth 10000 in
set_option maxHeartbeats 4000000 in
theorem s_297_0 {Lx : Nat} {I : Mi} {L : Ml} {e : Nat} {Q : Kq} {x1 : Int32} {x2 : Int32} (h :
    (if x1 < (Int32.ofInt 0) then
     Wp 297 7 [(0, .ref 58), (2, .int x2)] [.int (Int32.ofInt 1), .ref 58] (gE Lx) I L e Q
    else
     (if (I 59 3) < x1 then
      Wp 297 7 [(0, .ref 58), (2, .int x2)] [.int (Int32.ofInt 1), .ref 58] (gE Lx) I L e Q
     else
      Wp 251 0 [(0, .ref 58), (1, .int x1)] [] (gE Lx) I L e (kcp (Wp 274) 274 2 0 [(0, .ref 58), (2, .int x2)] 71 [] (kcp (Wp 298) 298 15 0 [(0, .ref 58)] 71 [] (kcp (Wp 297) 297 4 0 [(0, .ref 58), (2, .int x2)] 71 [.ref 58] Q)))))) :
    Wp 297 0 [(0, .ref 58), (1, .int x1), (2, .int x2)] [] (gE Lx) I L e Q := by
  refine w_a f_297_0 ?_
  refine w_a f_297_1 ?_
  refine w_a f_297_2 ?_
  refine w_a f_297_3 ?_
  refine w_c (ks := [0, 2]) f_297_4 rfl rfl ?_
  refine w_a (ls := [(0, .ref 58), (1, .int x1), (2, .int x2)]) f_298_0 ?_
  refine w_a f_298_1 ?_
  refine w_a f_298_2 ?_
  refine w_a (ls := [(0, .ref 58), (1, .int x1)]) f_226_0 ?_
  refine w_a f_226_1 ?_
  refine w_a f_226_2 ?_
  refine w_a f_226_3 ?_
  refine w_a (ls := [(0, .ref 58)]) f_215_0 ?_
  refine w_a f_215_1 ?_
  refine w_a f_215_4 ?_
  refine w_a f_215_5 ?_
  refine w_a f_215_6 ?_
  refine w_a (ls := [(0, .ref 58), (1, .int x1)]) f_226_6 ?_
  refine w_a (ls := [(0, .int x1), (1, .int (Int32.ofInt 0)), (2, .int (I 59 3))]) f_208_0 ?_
  refine w_a f_208_1 ?_
  refine w_a f_208_2 ?_
  refine i_m (fun h => ?_) (fun h => ?_) h
  · refine w_a f_208_14 ?_
    refine w_a f_208_15 ?_
    refine w_a (ls := [(0, .ref 58), (1, .int x1)]) f_226_9 ?_
    refine w_a (ls := [(0, .ref 58), (1, .int x1), (2, .int x2)]) f_298_5 ?_
    refine w_a f_298_8 ?_
    refine w_a f_298_9 ?_
    refine w_a f_298_26 ?_
    exact h
  · refine w_a f_208_5 ?_
    refine w_a f_208_6 ?_
    refine w_a f_208_7 ?_
    refine i_m (fun h => ?_) (fun h => ?_) h
    · refine w_a f_208_14 ?_
      refine w_a f_208_15 ?_
      refine w_a (ls := [(0, .ref 58), (1, .int x1)]) f_226_9 ?_
      refine w_a (ls := [(0, .ref 58), (1, .int x1), (2, .int x2)]) f_298_5 ?_
      refine w_a f_298_8 ?_
      refine w_a f_298_9 ?_
      refine w_a f_298_26 ?_
      exact h
    · refine w_a f_208_10 ?_
      refine w_a f_208_11 ?_
      refine w_a f_208_15 ?_
      refine w_a (ls := [(0, .ref 58), (1, .int x1)]) f_226_9 ?_
      refine w_a (ls := [(0, .ref 58), (1, .int x1), (2, .int x2)]) f_298_5 ?_
      refine w_a f_298_12 ?_
      refine w_a f_298_13 ?_
      refine w_a f_298_14 ?_
      refine w_c (ks := [0]) f_298_15 rfl rfl ?_
      refine w_a (ls := [(0, .ref 58), (1, .int x1), (2, .int x2)]) f_274_0 ?_
      refine w_a f_274_1 ?_
      exact w_c (ks := [0, 2]) f_274_2 rfl rfl h
set_option maxRecDepth 10000 in
set_option maxHeartbeats 4000000 in
theorem s_299_0 {Lx : Nat} {I : Mi} {L : Ml} {e : Nat} {Q : Kq} {x1 : Int32} {x2 : Int32} {x3 : Int32} {x4 : Int32} {x5 : Int32} (h :
    (if x1 < (Int32.ofInt 0) then
     Wp 299 7 [(0, .ref 58), (2, .int x2), (3, .int x3), (4, .int x4), (5, .int x5)] [.int (Int32.ofInt 1), .ref 58] (gE Lx) I L e Q
    else
     (if (I 59 3) < x1 then
      Wp 299 7 [(0, .ref 58), (2, .int x2), (3, .int x3), (4, .int x4), (5, .int x5)] [.int (Int32.ofInt 1), .ref 58] (gE Lx) I L e Q
     else
      Wp 251 0 [(0, .ref 58), (1, .int x1)] [] (gE Lx) I L e (kcp (Wp 274) 274 2 0 [(0, .ref 58), (2, .int x2)] 71 [] (kcp (Wp 298) 298 15 0 [(0, .ref 58)] 71 [] (kcp (Wp 299) 299 4 0 [(0, .ref 58), (2, .int x2), (3, .int x3), (4, .int x4), (5, .int x5)] 71 [.ref 58] Q)))))) :
    Wp 299 0 [(0, .ref 58), (1, .int x1), (2, .int x2), (3, .int x3), (4, .int x4), (5, .int x5)] [] (gE Lx) I L e Q := by
  refine w_a f_299_0 ?_
  refine w_a f_299_1 ?_
  refine w_a f_299_2 ?_
  refine w_a f_299_3 ?_
  refine w_c (ks := [0, 2, 3, 4, 5]) f_299_4 rfl rfl ?_
  refine w_a (ls := [(0, .ref 58), (1, .int x1), (2, .int x2)]) f_298_0 ?_
  refine w_a f_298_1 ?_
  refine w_a f_298_2 ?_
  refine w_a (ls := [(0, .ref 58), (1, .int x1)]) f_226_0 ?_
  refine w_a f_226_1 ?_
  refine w_a f_226_2 ?_
  refine w_a f_226_3 ?_
  refine w_a (ls := [(0, .ref 58)]) f_215_0 ?_
  refine w_a f_215_1 ?_
  refine w_a f_215_4 ?_
  refine w_a f_215_5 ?_
  refine w_a f_215_6 ?_
  refine w_a (ls := [(0, .ref 58), (1, .int x1)]) f_226_6 ?_
  refine w_a (ls := [(0, .int x1), (1, .int (Int32.ofInt 0)), (2, .int (I 59 3))]) f_208_0 ?_
  refine w_a f_208_1 ?_
  refine w_a f_208_2 ?_
  refine i_m (fun h => ?_) (fun h => ?_) h
  · refine w_a f_208_14 ?_
    refine w_a f_208_15 ?_
    refine w_a (ls := [(0, .ref 58), (1, .int x1)]) f_226_9 ?_
    refine w_a (ls := [(0, .ref 58), (1, .int x1), (2, .int x2)]) f_298_5 ?_
    refine w_a f_298_8 ?_
    refine w_a f_298_9 ?_
    refine w_a f_298_26 ?_
    exact h
  · refine w_a f_208_5 ?_
    refine w_a f_208_6 ?_
    refine w_a f_208_7 ?_
    refine i_m (fun h => ?_) (fun h => ?_) h
    · refine w_a f_208_14 ?_
      refine w_a f_208_15 ?_
      refine w_a (ls := [(0, .ref 58), (1, .int x1)]) f_226_9 ?_
      refine w_a (ls := [(0, .ref 58), (1, .int x1), (2, .int x2)]) f_298_5 ?_
      refine w_a f_298_8 ?_
      refine w_a f_298_9 ?_
      refine w_a f_298_26 ?_
      exact h
    · refine w_a f_208_10 ?_
      refine w_a f_208_11 ?_
      refine w_a f_208_15 ?_
      refine w_a (ls := [(0, .ref 58), (1, .int x1)]) f_226_9 ?_
      refine w_a (ls := [(0, .ref 58), (1, .int x1), (2, .int x2)]) f_298_5 ?_
      refine w_a f_298_12 ?_
      refine w_a f_298_13 ?_
      refine w_a f_298_14 ?_
      refine w_c (ks := [0]) f_298_15 rfl rfl ?_
      refine w_a (ls := [(0, .ref 58), (1, .int x1), (2, .int x2)]) f_274_0 ?_
      refine w_a f_274_1 ?_
      exact w_c (ks := [0, 2]) f_274_2 rfl rfl h
set_option maxRecDepth 10000 in
set_option maxHeartbeats 4000000 in
theorem s_300_0 {Lx : Nat} {I : Mi} {L : Ml} {e : Nat} {Q : Kq} {x1 : Int32} {x2 : Int32} {x3 : Int32} (h :
    (if x1 < (Int32.ofInt 0) then
     Wp 300 6 [(0, .ref 58), (2, .int x2), (3, .int x3)] [.int (Int32.ofInt 1), .ref 58] (gE Lx) I L e Q
    else
     (if (I 59 3) < x1 then
      Wp 300 6 [(0, .ref 58), (2, .int x2), (3, .int x3)] [.int (Int32.ofInt 1), .ref 58] (gE Lx) I L e Q
     else
      Wp 251 0 [(0, .ref 58), (1, .int x1)] [] (gE Lx) I L e (kcp (Wp 301) 301 14 0 [(0, .ref 58)] 71 [] (kcp (Wp 300) 300 3 0 [(0, .ref 58), (2, .int x2), (3, .int x3)] 71 [.ref 58] Q))))) :
    Wp 300 0 [(0, .ref 58), (1, .int x1), (2, .int x2), (3, .int x3)] [] (gE Lx) I L e Q := by
  refine w_a f_300_0 ?_
  refine w_a f_300_1 ?_
  refine w_a f_300_2 ?_
  refine w_c (ks := [0, 2, 3]) f_300_3 rfl rfl ?_
  refine w_a (ls := [(0, .ref 58), (1, .int x1)]) f_301_0 ?_
  refine w_a f_301_1 ?_
  refine w_a f_301_2 ?_
  refine w_a (ls := [(0, .ref 58), (1, .int x1)]) f_226_0 ?_
  refine w_a f_226_1 ?_
  refine w_a f_226_2 ?_
  refine w_a f_226_3 ?_
  refine w_a (ls := [(0, .ref 58)]) f_215_0 ?_
  refine w_a f_215_1 ?_
  refine w_a f_215_4 ?_
  refine w_a f_215_5 ?_
  refine w_a f_215_6 ?_
  refine w_a (ls := [(0, .ref 58), (1, .int x1)]) f_226_6 ?_
  refine w_a (ls := [(0, .int x1), (1, .int (Int32.ofInt 0)), (2, .int (I 59 3))]) f_208_0 ?_
  refine w_a f_208_1 ?_
  refine w_a f_208_2 ?_
  refine i_m (fun h => ?_) (fun h => ?_) h
  · refine w_a f_208_14 ?_
    refine w_a f_208_15 ?_
    refine w_a (ls := [(0, .ref 58), (1, .int x1)]) f_226_9 ?_
    refine w_a (ls := [(0, .ref 58), (1, .int x1)]) f_301_5 ?_
    refine w_a f_301_8 ?_
    refine w_a f_301_9 ?_
    refine w_a f_301_32 ?_
    exact h
  · refine w_a f_208_5 ?_
    refine w_a f_208_6 ?_
    refine w_a f_208_7 ?_
    refine i_m (fun h => ?_) (fun h => ?_) h
    · refine w_a f_208_14 ?_
      refine w_a f_208_15 ?_
      refine w_a (ls := [(0, .ref 58), (1, .int x1)]) f_226_9 ?_
      refine w_a (ls := [(0, .ref 58), (1, .int x1)]) f_301_5 ?_
      refine w_a f_301_8 ?_
      refine w_a f_301_9 ?_
      refine w_a f_301_32 ?_
      exact h
    · refine w_a f_208_10 ?_
      refine w_a f_208_11 ?_
      refine w_a f_208_15 ?_
      refine w_a (ls := [(0, .ref 58), (1, .int x1)]) f_226_9 ?_
      refine w_a (ls := [(0, .ref 58), (1, .int x1)]) f_301_5 ?_
      refine w_a f_301_12 ?_
      refine w_a f_301_13 ?_
      exact w_c (ks := [0]) f_301_14 rfl rfl h
set_option maxRecDepth 10000 in
set_option maxHeartbeats 4000000 in
theorem s_303_0 {Lx : Nat} {I : Mi} {L : Ml} {e : Nat} {Q : Kq} {x1 : Int32} {x2 : Int32} (h :
    (if x1 < (Int32.ofInt 0) then
     Q (.inl (some (.long (Int64.ofInt 0)))) (gE Lx) (ui I 58 0 (Int32.ofInt 1)) L e
    else
     (if (I 59 3) < x1 then
      Q (.inl (some (.long (Int64.ofInt 0)))) (gE Lx) (ui I 58 0 (Int32.ofInt 1)) L e
     else
      Wp 251 0 [(0, .ref 58), (1, .int x1)] [] (gE Lx) I L e (kcp (Wp 303) 303 15 0 [(0, .ref 58), (2, .int x2)] 71 [.ref 58] Q)))) :
    Wp 303 0 [(0, .ref 58), (1, .int x1), (2, .int x2)] [] (gE Lx) I L e Q := by
  refine w_a f_303_0 ?_
  refine w_a f_303_1 ?_
  refine w_a f_303_2 ?_
  refine w_a f_303_3 ?_
  refine w_a (ls := [(0, .ref 58), (1, .int x1)]) f_226_0 ?_
  refine w_a f_226_1 ?_
  refine w_a f_226_2 ?_
  refine w_a f_226_3 ?_
  refine w_a (ls := [(0, .ref 58)]) f_215_0 ?_
  refine w_a f_215_1 ?_
  refine w_a f_215_4 ?_
  refine w_a f_215_5 ?_
  refine w_a f_215_6 ?_
  refine w_a (ls := [(0, .ref 58), (1, .int x1)]) f_226_6 ?_
  refine w_a (ls := [(0, .int x1), (1, .int (Int32.ofInt 0)), (2, .int (I 59 3))]) f_208_0 ?_
  refine w_a f_208_1 ?_
  refine w_a f_208_2 ?_
  refine i_m (fun h => ?_) (fun h => ?_) h
  · refine w_a f_208_14 ?_
    refine w_a f_208_15 ?_
    refine w_a (ls := [(0, .ref 58), (1, .int x1)]) f_226_9 ?_
    refine w_a (ls := [(0, .ref 58), (1, .int x1), (2, .int x2)]) f_303_6 ?_
    refine w_a f_303_9 ?_
    refine w_a f_303_10 ?_
    refine w_a f_303_36 ?_
    refine w_a f_303_39 ?_
    refine w_a f_303_40 ?_
    refine w_a f_303_43 ?_
    refine w_a f_303_46 ?_
    refine w_a f_303_47 ?_
    exact h
  · refine w_a f_208_5 ?_
    refine w_a f_208_6 ?_
    refine w_a f_208_7 ?_
    refine i_m (fun h => ?_) (fun h => ?_) h
    · refine w_a f_208_14 ?_
      refine w_a f_208_15 ?_
      refine w_a (ls := [(0, .ref 58), (1, .int x1)]) f_226_9 ?_
      refine w_a (ls := [(0, .ref 58), (1, .int x1), (2, .int x2)]) f_303_6 ?_
      refine w_a f_303_9 ?_
      refine w_a f_303_10 ?_
      refine w_a f_303_36 ?_
      refine w_a f_303_39 ?_
      refine w_a f_303_40 ?_
      refine w_a f_303_43 ?_
      refine w_a f_303_46 ?_
      refine w_a f_303_47 ?_
      exact h
    · refine w_a f_208_10 ?_
      refine w_a f_208_11 ?_
      refine w_a f_208_15 ?_
      refine w_a (ls := [(0, .ref 58), (1, .int x1)]) f_226_9 ?_
      refine w_a (ls := [(0, .ref 58), (1, .int x1), (2, .int x2)]) f_303_6 ?_
      refine w_a f_303_13 ?_
      refine w_a f_303_14 ?_
      exact w_c (ks := [0, 2]) f_303_15 rfl rfl h
set_option maxRecDepth 10000 in
set_option maxHeartbeats 4000000 in
theorem s_304_0 {Lx : Nat} {I : Mi} {L : Ml} {e : Nat} {Q : Kq} {x1 : Int32} (h :
    (if x1 < (Int32.ofInt 0) then
     Wp 304 6 [(0, .ref 58)] [.int (Int32.ofInt 1), .ref 58] (gE Lx) I L e Q
    else
     (if (I 59 3) < x1 then
      Wp 304 6 [(0, .ref 58)] [.int (Int32.ofInt 1), .ref 58] (gE Lx) I L e Q
     else
      Wp 251 0 [(0, .ref 58), (1, .int x1)] [] (gE Lx) I L e (kcp (Wp 301) 301 14 0 [(0, .ref 58)] 71 [] (kcp (Wp 304) 304 3 0 [(0, .ref 58)] 71 [.ref 58] Q))))) :
    Wp 304 0 [(0, .ref 58), (1, .int x1)] [] (gE Lx) I L e Q := by
  refine w_a f_304_0 ?_
  refine w_a f_304_1 ?_
  refine w_a f_304_2 ?_
  refine w_c (ks := [0]) f_304_3 rfl rfl ?_
  refine w_a (ls := [(0, .ref 58), (1, .int x1)]) f_301_0 ?_
  refine w_a f_301_1 ?_
  refine w_a f_301_2 ?_
  refine w_a (ls := [(0, .ref 58), (1, .int x1)]) f_226_0 ?_
  refine w_a f_226_1 ?_
  refine w_a f_226_2 ?_
  refine w_a f_226_3 ?_
  refine w_a (ls := [(0, .ref 58)]) f_215_0 ?_
  refine w_a f_215_1 ?_
  refine w_a f_215_4 ?_
  refine w_a f_215_5 ?_
  refine w_a f_215_6 ?_
  refine w_a (ls := [(0, .ref 58), (1, .int x1)]) f_226_6 ?_
  refine w_a (ls := [(0, .int x1), (1, .int (Int32.ofInt 0)), (2, .int (I 59 3))]) f_208_0 ?_
  refine w_a f_208_1 ?_
  refine w_a f_208_2 ?_
  refine i_m (fun h => ?_) (fun h => ?_) h
  · refine w_a f_208_14 ?_
    refine w_a f_208_15 ?_
    refine w_a (ls := [(0, .ref 58), (1, .int x1)]) f_226_9 ?_
    refine w_a (ls := [(0, .ref 58), (1, .int x1)]) f_301_5 ?_
    refine w_a f_301_8 ?_
    refine w_a f_301_9 ?_
    refine w_a f_301_32 ?_
    exact h
  · refine w_a f_208_5 ?_
    refine w_a f_208_6 ?_
    refine w_a f_208_7 ?_
    refine i_m (fun h => ?_) (fun h => ?_) h
    · refine w_a f_208_14 ?_
      refine w_a f_208_15 ?_
      refine w_a (ls := [(0, .ref 58), (1, .int x1)]) f_226_9 ?_
      refine w_a (ls := [(0, .ref 58), (1, .int x1)]) f_301_5 ?_
      refine w_a f_301_8 ?_
      refine w_a f_301_9 ?_
      refine w_a f_301_32 ?_
      exact h
    · refine w_a f_208_10 ?_
      refine w_a f_208_11 ?_
      refine w_a f_208_15 ?_
      refine w_a (ls := [(0, .ref 58), (1, .int x1)]) f_226_9 ?_
      refine w_a (ls := [(0, .ref 58), (1, .int x1)]) f_301_5 ?_
      refine w_a f_301_12 ?_
      refine w_a f_301_13 ?_
      exact w_c (ks := [0]) f_301_14 rfl rfl h
set_option maxRecDepth 10000 in
set_option maxHeartbeats 4000000 in
theorem s_305_0 {Lx : Nat} {I : Mi} {L : Ml} {e : Nat} {Q : Kq} {x1 : Int32} {x2 : Int32} {x3 : Int32} {x4 : Int32} {x5 : Int32} (h :
    (if x1 < (Int32.ofInt 0) then
     Wp 305 55 [(0, .ref 58), (2, .int x2), (3, .int x3), (4, .int x4), (5, .int x5)] [.int (Int32.ofInt 1), .ref 58] (gE Lx) I L e Q
    else
     (if (I 59 3) < x1 then
      Wp 305 55 [(0, .ref 58), (2, .int x2), (3, .int x3), (4, .int x4), (5, .int x5)] [.int (Int32.ofInt 1), .ref 58] (gE Lx) I L e Q
     else
      (if x3 < (Int32.ofInt 1) then
       Wp 305 55 [(0, .ref 58), (2, .int x2), (3, .int x3), (4, .int x4), (5, .int x5)] [.int (Int32.ofInt 2), .ref 58] (gE Lx) I L e Q
      else
       (if (Int32.ofInt 12) < x3 then
        Wp 305 55 [(0, .ref 58), (2, .int x2), (3, .int x3), (4, .int x4), (5, .int x5)] [.int (Int32.ofInt 2), .ref 58] (gE Lx) I L e Q
       else
        (if x4 < (Int32.ofInt 0) then
         Wp 305 55 [(0, .ref 58), (2, .int x2), (3, .int x3), (4, .int x4), (5, .int x5)] [.int (Int32.ofInt 2), .ref 58] (gE Lx) I L e Q
        else
         (if (Int32.ofInt 99) < x4 then
          Wp 305 55 [(0, .ref 58), (2, .int x2), (3, .int x3), (4, .int x4), (5, .int x5)] [.int (Int32.ofInt 2), .ref 58] (gE Lx) I L e Q
         else
          (if x5 < (Int32.ofInt 1) then
           Wp 305 55 [(0, .ref 58), (2, .int x2), (3, .int x3), (4, .int x4), (5, .int x5)] [.int (Int32.ofInt 2), .ref 58] (gE Lx) I L e Q
          else
           (if (Int32.ofInt 20) < x5 then
            Wp 305 55 [(0, .ref 58), (2, .int x2), (3, .int x3), (4, .int x4), (5, .int x5)] [.int (Int32.ofInt 2), .ref 58] (gE Lx) I L e Q
           else
            Wp 251 0 [(0, .ref 58), (1, .int x1)] [] (gE Lx) I L e (kcp (Wp 274) 274 2 0 [(0, .ref 58), (2, .int x2)] 71 [] (kcp (Wp 306) 306 3 0 [(0, .ref 58)] 71 [] (kcp (Wp 305) 305 52 0 [(0, .ref 58), (2, .int x2), (3, .int x3), (4, .int x4), (5, .int x5)] 71 [.ref 58] Q)))))))))))) :
    Wp 305 0 [(0, .ref 58), (1, .int x1), (2, .int x2), (3, .int x3), (4, .int x4), (5, .int x5)] [] (gE Lx) I L e Q := by
  refine w_a f_305_0 ?_
  refine w_a f_305_1 ?_
  refine w_a f_305_2 ?_
  refine w_a f_305_3 ?_
  refine w_a (ls := [(0, .ref 58), (1, .int x1)]) f_226_0 ?_
  refine w_a f_226_1 ?_
  refine w_a f_226_2 ?_
  refine w_a f_226_3 ?_
  refine w_a (ls := [(0, .ref 58)]) f_215_0 ?_
  refine w_a f_215_1 ?_
  refine w_a f_215_4 ?_
  refine w_a f_215_5 ?_
  refine w_a f_215_6 ?_
  refine w_a (ls := [(0, .ref 58), (1, .int x1)]) f_226_6 ?_
  refine w_a (ls := [(0, .int x1), (1, .int (Int32.ofInt 0)), (2, .int (I 59 3))]) f_208_0 ?_
  refine w_a f_208_1 ?_
  refine w_a f_208_2 ?_
  refine i_m (fun h => ?_) (fun h => ?_) h
  · refine w_a f_208_14 ?_
    refine w_a f_208_15 ?_
    refine w_a (ls := [(0, .ref 58), (1, .int x1)]) f_226_9 ?_
    refine w_a (ls := [(0, .ref 58), (1, .int x1), (2, .int x2), (3, .int x3), (4, .int x4), (5, .int x5)]) f_305_6 ?_
    refine w_a f_305_9 ?_
    refine w_a f_305_10 ?_
    exact w_n (ks := [0, 2, 3, 4, 5]) rfl h
  · refine w_a f_208_5 ?_
    refine w_a f_208_6 ?_
    refine w_a f_208_7 ?_
    refine i_m (fun h => ?_) (fun h => ?_) h
    · refine w_a f_208_14 ?_
      refine w_a f_208_15 ?_
      refine w_a (ls := [(0, .ref 58), (1, .int x1)]) f_226_9 ?_
      refine w_a (ls := [(0, .ref 58), (1, .int x1), (2, .int x2), (3, .int x3), (4, .int x4), (5, .int x5)]) f_305_6 ?_
      refine w_a f_305_9 ?_
      refine w_a f_305_10 ?_
      exact w_n (ks := [0, 2, 3, 4, 5]) rfl h
    · refine w_a f_208_10 ?_
      refine w_a f_208_11 ?_
      refine w_a f_208_15 ?_
      refine w_a (ls := [(0, .ref 58), (1, .int x1)]) f_226_9 ?_
      refine w_a (ls := [(0, .ref 58), (1, .int x1), (2, .int x2), (3, .int x3), (4, .int x4), (5, .int x5)]) f_305_6 ?_
      refine w_a f_305_13 ?_
      refine w_a f_305_14 ?_
      refine w_a f_305_15 ?_
      refine w_a f_305_17 ?_
      refine w_a (ls := [(0, .int x3), (1, .int (Int32.ofInt 1)), (2, .int (Int32.ofInt 12))]) f_208_0 ?_
      refine w_a f_208_1 ?_
      refine w_a f_208_2 ?_
      refine i_m (fun h => ?_) (fun h => ?_) h
      · refine w_a f_208_14 ?_
        refine w_a f_208_15 ?_
        refine w_a (ls := [(0, .ref 58), (1, .int x1), (2, .int x2), (3, .int x3), (4, .int x4), (5, .int x5)]) f_305_20 ?_
        refine w_a f_305_45 ?_
        refine w_a f_305_46 ?_
        exact w_n (ks := [0, 2, 3, 4, 5]) rfl h
      · refine w_a f_208_5 ?_
        refine w_a f_208_6 ?_
        refine w_a f_208_7 ?_
        refine i_m (fun h => ?_) (fun h => ?_) h
        · refine w_a f_208_14 ?_
          refine w_a f_208_15 ?_
          refine w_a (ls := [(0, .ref 58), (1, .int x1), (2, .int x2), (3, .int x3), (4, .int x4), (5, .int x5)]) f_305_20 ?_
          refine w_a f_305_45 ?_
          refine w_a f_305_46 ?_
          exact w_n (ks := [0, 2, 3, 4, 5]) rfl h
        · refine w_a f_208_10 ?_
          refine w_a f_208_11 ?_
          refine w_a f_208_15 ?_
          refine w_a (ls := [(0, .ref 58), (1, .int x1), (2, .int x2), (3, .int x3), (4, .int x4), (5, .int x5)]) f_305_20 ?_
          refine w_a f_305_23 ?_
          refine w_a f_305_25 ?_
          refine w_a f_305_26 ?_
          refine w_a f_305_28 ?_
          refine w_a (ls := [(0, .int x4), (1, .int (Int32.ofInt 0)), (2, .int (Int32.ofInt 99))]) f_208_0 ?_
          refine w_a f_208_1 ?_
          refine w_a f_208_2 ?_
          refine i_m (fun h => ?_) (fun h => ?_) h
          · refine w_a f_208_14 ?_
            refine w_a f_208_15 ?_
            refine w_a (ls := [(0, .ref 58), (1, .int x1), (2, .int x2), (3, .int x3), (4, .int x4), (5, .int x5)]) f_305_31 ?_
            refine w_a f_305_45 ?_
            refine w_a f_305_46 ?_
            exact w_n (ks := [0, 2, 3, 4, 5]) rfl h
          · refine w_a f_208_5 ?_
            refine w_a f_208_6 ?_
            refine w_a f_208_7 ?_
            refine i_m (fun h => ?_) (fun h => ?_) h
            · refine w_a f_208_14 ?_
              refine w_a f_208_15 ?_
              refine w_a (ls := [(0, .ref 58), (1, .int x1), (2, .int x2), (3, .int x3), (4, .int x4), (5, .int x5)]) f_305_31 ?_
              refine w_a f_305_45 ?_
              refine w_a f_305_46 ?_
              exact w_n (ks := [0, 2, 3, 4, 5]) rfl h
            · refine w_a f_208_10 ?_
              refine w_a f_208_11 ?_
              refine w_a f_208_15 ?_
              refine w_a (ls := [(0, .ref 58), (1, .int x1), (2, .int x2), (3, .int x3), (4, .int x4), (5, .int x5)]) f_305_31 ?_
              refine w_a f_305_34 ?_
              refine w_a f_305_36 ?_
              refine w_a f_305_37 ?_
              refine w_a f_305_39 ?_
              refine w_a (ls := [(0, .int x5), (1, .int (Int32.ofInt 1)), (2, .int (Int32.ofInt 20))]) f_208_0 ?_
              refine w_a f_208_1 ?_
              refine w_a f_208_2 ?_
              refine i_m (fun h => ?_) (fun h => ?_) h
              · refine w_a f_208_14 ?_
                refine w_a f_208_15 ?_
                refine w_a (ls := [(0, .ref 58), (1, .int x1), (2, .int x2), (3, .int x3), (4, .int x4), (5, .int x5)]) f_305_42 ?_
                refine w_a f_305_45 ?_
                refine w_a f_305_46 ?_
                exact w_n (ks := [0, 2, 3, 4, 5]) rfl h
              · refine w_a f_208_5 ?_
                refine w_a f_208_6 ?_
                refine w_a f_208_7 ?_
                refine i_m (fun h => ?_) (fun h => ?_) h
                · refine w_a f_208_14 ?_
                  refine w_a f_208_15 ?_
                  refine w_a (ls := [(0, .ref 58), (1, .int x1), (2, .int x2), (3, .int x3), (4, .int x4), (5, .int x5)]) f_305_42 ?_
                  refine w_a f_305_45 ?_
                  refine w_a f_305_46 ?_
                  exact w_n (ks := [0, 2, 3, 4, 5]) rfl h
                · refine w_a f_208_10 ?_
                  refine w_a f_208_11 ?_
                  refine w_a f_208_15 ?_
                  refine w_a (ls := [(0, .ref 58), (1, .int x1), (2, .int x2), (3, .int x3), (4, .int x4), (5, .int x5)]) f_305_42 ?_
                  refine w_a f_305_49 ?_
                  refine w_a f_305_50 ?_
                  refine w_a f_305_51 ?_
                  refine w_c (ks := [0, 2, 3, 4, 5]) f_305_52 rfl rfl ?_
                  refine w_a (ls := [(0, .ref 58), (1, .int x1), (2, .int x2)]) f_306_0 ?_
                  refine w_a f_306_1 ?_
                  refine w_a f_306_2 ?_
                  refine w_c (ks := [0]) f_306_3 rfl rfl ?_
                  refine w_a (ls := [(0, .ref 58), (1, .int x1), (2, .int x2)]) f_274_0 ?_
                  refine w_a f_274_1 ?_
                  exact w_c (ks := [0, 2]) f_274_2 rfl rfl h
set_option maxRecDepth 10000 in
set_option maxHeartbeats 4000000 in
theorem s_308_0 {Lx : Nat} {I : Mi} {L : Ml} {e : Nat} {Q : Kq} {x1 : Int32} {x2 : Int32} {x3 : Int32} {x4 : Int32} {x5 : Int32} (h :
    (if x1 < (Int32.ofInt 0) then
     Q (.inl (some (.long (Int64.ofInt 0)))) (gE Lx) (ui I 58 0 (Int32.ofInt 1)) L e
    else
     (if (I 59 3) < x1 then
      Q (.inl (some (.long (Int64.ofInt 0)))) (gE Lx) (ui I 58 0 (Int32.ofInt 1)) L e
     else
      (if x5 < (Int32.ofInt 0) then
       Q (.inl (some (.long (Int64.ofInt 0)))) (gE Lx) (ui I 58 0 (Int32.ofInt 2)) L e
      else
       (if (Int32.ofInt 3) < x5 then
        Q (.inl (some (.long (Int64.ofInt 0)))) (gE Lx) (ui I 58 0 (Int32.ofInt 2)) L e
       else
        (if x3 < (Int32.ofInt 1) then
         Q (.inl (some (.long (Int64.ofInt 0)))) (gE Lx) (ui I 58 0 (Int32.ofInt 3)) L e
        else
         (if (Int32.ofInt 12) < x3 then
          Q (.inl (some (.long (Int64.ofInt 0)))) (gE Lx) (ui I 58 0 (Int32.ofInt 3)) L e
         else
          Wp 251 0 [(0, .ref 58), (1, .int x1)] [] (gE Lx) I L e (kcp (Wp 274) 274 2 0 [(0, .ref 58), (2, .int x2)] 71 [] (kcp (Wp 308) 308 44 0 [(0, .ref 58), (2, .int x2), (3, .int x3), (4, .int x4), (5, .int x5)] 71 [.ref 58] Q))))))))) :
    Wp 308 0 [(0, .ref 58), (1, .int x1), (2, .int x2), (3, .int x3), (4, .int x4), (5, .int x5)] [] (gE Lx) I L e Q := by
  refine w_a f_308_0 ?_
  refine w_a f_308_1 ?_
  refine w_a f_308_2 ?_
  refine w_a f_308_3 ?_
  refine w_a (ls := [(0, .ref 58), (1, .int x1)]) f_226_0 ?_
  refine w_a f_226_1 ?_
  refine w_a f_226_2 ?_
  refine w_a f_226_3 ?_
  refine w_a (ls := [(0, .ref 58)]) f_215_0 ?_
  refine w_a f_215_1 ?_
  refine w_a f_215_4 ?_
  refine w_a f_215_5 ?_
  refine w_a f_215_6 ?_
  refine w_a (ls := [(0, .ref 58), (1, .int x1)]) f_226_6 ?_
  refine w_a (ls := [(0, .int x1), (1, .int (Int32.ofInt 0)), (2, .int (I 59 3))]) f_208_0 ?_
  refine w_a f_208_1 ?_
  refine w_a f_208_2 ?_
  refine i_m (fun h => ?_) (fun h => ?_) h
  · refine w_a f_208_14 ?_
    refine w_a f_208_15 ?_
    refine w_a (ls := [(0, .ref 58), (1, .int x1)]) f_226_9 ?_
    refine w_a (ls := [(0, .ref 58), (1, .int x1), (2, .int x2), (3, .int x3), (4, .int x4), (5, .int x5)]) f_308_6 ?_
    refine w_a f_308_9 ?_
    refine w_a f_308_10 ?_
    refine w_a f_308_55 ?_
    refine w_a f_308_58 ?_
    refine w_a f_308_59 ?_
    refine w_a f_308_62 ?_
    refine w_a f_308_65 ?_
    refine w_a f_308_66 ?_
    exact h
  · refine w_a f_208_5 ?_
    refine w_a f_208_6 ?_
    refine w_a f_208_7 ?_
    refine i_m (fun h => ?_) (fun h => ?_) h
    · refine w_a f_208_14 ?_
      refine w_a f_208_15 ?_
      refine w_a (ls := [(0, .ref 58), (1, .int x1)]) f_226_9 ?_
      refine w_a (ls := [(0, .ref 58), (1, .int x1), (2, .int x2), (3, .int x3), (4, .int x4), (5, .int x5)]) f_308_6 ?_
      refine w_a f_308_9 ?_
      refine w_a f_308_10 ?_
      refine w_a f_308_55 ?_
      refine w_a f_308_58 ?_
      refine w_a f_308_59 ?_
      refine w_a f_308_62 ?_
      refine w_a f_308_65 ?_
      refine w_a f_308_66 ?_
      exact h
    · refine w_a f_208_10 ?_
      refine w_a f_208_11 ?_
      refine w_a f_208_15 ?_
      refine w_a (ls := [(0, .ref 58), (1, .int x1)]) f_226_9 ?_
      refine w_a (ls := [(0, .ref 58), (1, .int x1), (2, .int x2), (3, .int x3), (4, .int x4), (5, .int x5)]) f_308_6 ?_
      refine w_a f_308_13 ?_
      refine w_a f_308_15 ?_
      refine w_a f_308_16 ?_
      refine w_a f_308_17 ?_
      refine w_a (ls := [(0, .int x5), (1, .int (Int32.ofInt 0)), (2, .int (Int32.ofInt 3))]) f_208_0 ?_
      refine w_a f_208_1 ?_
      refine w_a f_208_2 ?_
      refine i_m (fun h => ?_) (fun h => ?_) h
      · refine w_a f_208_14 ?_
        refine w_a f_208_15 ?_
        refine w_a (ls := [(0, .ref 58), (1, .int x1), (2, .int x2), (3, .int x3), (4, .int x4), (5, .int x5)]) f_308_20 ?_
        refine w_a f_308_23 ?_
        refine w_a f_308_24 ?_
        refine w_a f_308_55 ?_
        refine w_a f_308_58 ?_
        refine w_a f_308_59 ?_
        refine w_a f_308_62 ?_
        refine w_a f_308_65 ?_
        refine w_a f_308_66 ?_
        exact h
      · refine w_a f_208_5 ?_
        refine w_a f_208_6 ?_
        refine w_a f_208_7 ?_
        refine i_m (fun h => ?_) (fun h => ?_) h
        · refine w_a f_208_14 ?_
          refine w_a f_208_15 ?_
          refine w_a (ls := [(0, .ref 58), (1, .int x1), (2, .int x2), (3, .int x3), (4, .int x4), (5, .int x5)]) f_308_20 ?_
          refine w_a f_308_23 ?_
          refine w_a f_308_24 ?_
          refine w_a f_308_55 ?_
          refine w_a f_308_58 ?_
          refine w_a f_308_59 ?_
          refine w_a f_308_62 ?_
          refine w_a f_308_65 ?_
          refine w_a f_308_66 ?_
          exact h
        · refine w_a f_208_10 ?_
          refine w_a f_208_11 ?_
          refine w_a f_208_15 ?_
          refine w_a (ls := [(0, .ref 58), (1, .int x1), (2, .int x2), (3, .int x3), (4, .int x4), (5, .int x5)]) f_308_20 ?_
          refine w_a f_308_27 ?_
          refine w_a f_308_28 ?_
          refine w_a f_308_29 ?_
          refine w_a f_308_31 ?_
          refine w_a (ls := [(0, .int x3), (1, .int (Int32.ofInt 1)), (2, .int (Int32.ofInt 12))]) f_208_0 ?_
          refine w_a f_208_1 ?_
          refine w_a f_208_2 ?_
          refine i_m (fun h => ?_) (fun h => ?_) h
          · refine w_a f_208_14 ?_
            refine w_a f_208_15 ?_
            refine w_a (ls := [(0, .ref 58), (1, .int x1), (2, .int x2), (3, .int x3), (4, .int x4), (5, .int x5)]) f_308_34 ?_
            refine w_a f_308_37 ?_
            refine w_a f_308_38 ?_
            refine w_a f_308_55 ?_
            refine w_a f_308_58 ?_
            refine w_a f_308_59 ?_
            refine w_a f_308_62 ?_
            refine w_a f_308_65 ?_
            refine w_a f_308_66 ?_
            exact h
          · refine w_a f_208_5 ?_
            refine w_a f_208_6 ?_
            refine w_a f_208_7 ?_
            refine i_m (fun h => ?_) (fun h => ?_) h
            · refine w_a f_208_14 ?_
              refine w_a f_208_15 ?_
              refine w_a (ls := [(0, .ref 58), (1, .int x1), (2, .int x2), (3, .int x3), (4, .int x4), (5, .int x5)]) f_308_34 ?_
              refine w_a f_308_37 ?_
              refine w_a f_308_38 ?_
              refine w_a f_308_55 ?_
              refine w_a f_308_58 ?_
              refine w_a f_308_59 ?_
              refine w_a f_308_62 ?_
              refine w_a f_308_65 ?_
              refine w_a f_308_66 ?_
              exact h
            · refine w_a f_208_10 ?_
              refine w_a f_208_11 ?_
              refine w_a f_208_15 ?_
              refine w_a (ls := [(0, .ref 58), (1, .int x1), (2, .int x2), (3, .int x3), (4, .int x4), (5, .int x5)]) f_308_34 ?_
              refine w_a f_308_41 ?_
              refine w_a f_308_42 ?_
              refine w_a f_308_43 ?_
              refine w_c (ks := [0, 2, 3, 4, 5]) f_308_44 rfl rfl ?_
              refine w_a (ls := [(0, .ref 58), (1, .int x1), (2, .int x2)]) f_274_0 ?_
              refine w_a f_274_1 ?_
              exact w_c (ks := [0, 2]) f_274_2 rfl rfl h
set_option maxRecDepth 10000 in
set_option maxHeartbeats 4000000 in
theorem s_309_0 {Lx : Nat} {I : Mi} {L : Ml} {e : Nat} {Q : Kq} {x1 : Int32} {x2 : Int32} (h :
    (if x2 < (Int32.ofInt 0) then
     Q (.inl (some (.int (Int32.ofInt 0)))) (gE Lx) (ui I 58 0 (Int32.ofInt 1)) L e
    else
     (if (Int32.ofInt 5) < x2 then
      Q (.inl (some (.int (Int32.ofInt 0)))) (gE Lx) (ui I 58 0 (Int32.ofInt 1)) L e
     else
      (if x1 < (Int32.ofInt 1) then
       Q (.inl (some (.int (Int32.ofInt 0)))) (gE Lx) (ui I 58 0 (Int32.ofInt 2)) L e
      else
       (if (Int32.ofInt 4) < x1 then
        Q (.inl (some (.int (Int32.ofInt 0)))) (gE Lx) (ui I 58 0 (Int32.ofInt 2)) L e
       else
        (if (Int32.ofInt 2) < (I 59 3) then
         Q (.inl (some (.int (Int32.ofInt 0)))) (gE Lx) (ui I 58 0 (Int32.ofInt 3)) L e
        else
         Wp 310 0 [(0, .ref 58), (1, .int x1), (2, .int (Int32.ofInt 0))] [] (gE Lx) (ui I 58 0 (Int32.ofInt 0)) L e (kcp (Wp 309) 309 55 0 [(0, .ref 58), (2, .int x2)] 71 [] Q))))))) :
    Wp 309 0 [(0, .ref 58), (1, .int x1), (2, .int x2)] [] (gE Lx) I L e Q := by
  refine w_a f_309_0 ?_
  refine w_a f_309_1 ?_
  refine w_a f_309_2 ?_
  refine w_a f_309_3 ?_
  refine w_a f_309_4 ?_
  refine w_a (ls := [(0, .int x2), (1, .int (Int32.ofInt 0)), (2, .int (Int32.ofInt 5))]) f_208_0 ?_
  refine w_a f_208_1 ?_
  refine w_a f_208_2 ?_
  refine i_m (fun h => ?_) (fun h => ?_) h
  · refine w_a f_208_14 ?_
    refine w_a f_208_15 ?_
    refine w_a (ls := [(0, .ref 58), (1, .int x1), (2, .int x2)]) f_309_7 ?_
    refine w_a f_309_10 ?_
    refine w_a f_309_11 ?_
    refine w_a f_309_40 ?_
    refine w_a f_309_43 ?_
    refine w_a f_309_44 ?_
    refine w_a f_309_47 ?_
    refine w_a f_309_50 ?_
    refine w_a f_309_51 ?_
    exact h
  · refine w_a f_208_5 ?_
    refine w_a f_208_6 ?_
    refine w_a f_208_7 ?_
    refine i_m (fun h => ?_) (fun h => ?_) h
    · refine w_a f_208_14 ?_
      refine w_a f_208_15 ?_
      refine w_a (ls := [(0, .ref 58), (1, .int x1), (2, .int x2)]) f_309_7 ?_
      refine w_a f_309_10 ?_
      refine w_a f_309_11 ?_
      refine w_a f_309_40 ?_
      refine w_a f_309_43 ?_
      refine w_a f_309_44 ?_
      refine w_a f_309_47 ?_
      refine w_a f_309_50 ?_
      refine w_a f_309_51 ?_
      exact h
    · refine w_a f_208_10 ?_
      refine w_a f_208_11 ?_
      refine w_a f_208_15 ?_
      refine w_a (ls := [(0, .ref 58), (1, .int x1), (2, .int x2)]) f_309_7 ?_
      refine w_a f_309_14 ?_
      refine w_a f_309_15 ?_
      refine w_a f_309_16 ?_
      refine w_a f_309_17 ?_
      refine w_a (ls := [(0, .int x1), (1, .int (Int32.ofInt 1)), (2, .int (Int32.ofInt 4))]) f_208_0 ?_
      refine w_a f_208_1 ?_
      refine w_a f_208_2 ?_
      refine i_m (fun h => ?_) (fun h => ?_) h
      · refine w_a f_208_14 ?_
        refine w_a f_208_15 ?_
        refine w_a (ls := [(0, .ref 58), (1, .int x1), (2, .int x2)]) f_309_20 ?_
        refine w_a f_309_23 ?_
        refine w_a f_309_24 ?_
        refine w_a f_309_40 ?_
        refine w_a f_309_43 ?_
        refine w_a f_309_44 ?_
        refine w_a f_309_47 ?_
        refine w_a f_309_50 ?_
        refine w_a f_309_51 ?_
        exact h
      · refine w_a f_208_5 ?_
        refine w_a f_208_6 ?_
        refine w_a f_208_7 ?_
        refine i_m (fun h => ?_) (fun h => ?_) h
        · refine w_a f_208_14 ?_
          refine w_a f_208_15 ?_
          refine w_a (ls := [(0, .ref 58), (1, .int x1), (2, .int x2)]) f_309_20 ?_
          refine w_a f_309_23 ?_
          refine w_a f_309_24 ?_
          refine w_a f_309_40 ?_
          refine w_a f_309_43 ?_
          refine w_a f_309_44 ?_
          refine w_a f_309_47 ?_
          refine w_a f_309_50 ?_
          refine w_a f_309_51 ?_
          exact h
        · refine w_a f_208_10 ?_
          refine w_a f_208_11 ?_
          refine w_a f_208_15 ?_
          refine w_a (ls := [(0, .ref 58), (1, .int x1), (2, .int x2)]) f_309_20 ?_
          refine w_a f_309_27 ?_
          refine w_a f_309_28 ?_
          refine w_a (ls := [(0, .ref 58)]) f_215_0 ?_
          refine w_a f_215_1 ?_
          refine w_a f_215_4 ?_
          refine w_a f_215_5 ?_
          refine w_a f_215_6 ?_
          refine w_a (ls := [(0, .ref 58), (1, .int x1), (2, .int x2)]) f_309_31 ?_
          refine w_a f_309_32 ?_
          refine i_m (fun h => ?_) (fun h => ?_) h
          · refine w_a f_309_35 ?_
            refine w_a f_309_36 ?_
            refine w_a f_309_40 ?_
            refine w_a f_309_43 ?_
            refine w_a f_309_44 ?_
            refine w_a f_309_47 ?_
            refine w_a f_309_50 ?_
            refine w_a f_309_51 ?_
            exact h
          · refine w_a f_309_39 ?_
            refine w_a f_309_40 ?_
            refine w_a f_309_43 ?_
            refine w_a f_309_44 ?_
            refine w_a f_309_47 ?_
            refine w_a f_309_52 ?_
            refine w_a f_309_53 ?_
            refine w_a f_309_54 ?_
            exact w_c (ks := [0, 2]) f_309_55 rfl rfl h
set_option maxRecDepth 10000 in
set_option maxHeartbeats 4000000 in
theorem s_322_0 {Lx : Nat} {I : Mi} {L : Ml} {e : Nat} {Q : Kq} {x1 : Int32} {x2 : Int32} {x3 : Int32} (h :
    (if x3 < (Int32.ofInt 0) then
     Q (.inl (some (.int (Int32.ofInt 0)))) (gE Lx) (ui I 58 0 (Int32.ofInt 1)) L e
    else
     (if (Int32.ofInt 4) < x3 then
      Q (.inl (some (.int (Int32.ofInt 0)))) (gE Lx) (ui I 58 0 (Int32.ofInt 1)) L e
     else
      (if x1 < (Int32.ofInt 1) then
       Q (.inl (some (.int (Int32.ofInt 0)))) (gE Lx) (ui I 58 0 (Int32.ofInt 2)) L e
      else
       (if (Int32.ofInt 12) < x1 then
        Q (.inl (some (.int (Int32.ofInt 0)))) (gE Lx) (ui I 58 0 (Int32.ofInt 2)) L e
       else
        (if (Int32.ofInt 2) < (I 59 3) then
         Q (.inl (some (.int (Int32.ofInt 0)))) (gE Lx) (ui I 58 0 (Int32.ofInt 3)) L e
        else
         Wp 310 0 [(0, .ref 58), (1, .int x1), (2, .int (Int32.ofInt 1))] [] (gE Lx) (ui (ui I 58 0 (Int32.ofInt 0)) 58 33 x2) L e (kcp (Wp 322) 322 61 0 [(0, .ref 58), (2, .int x2), (3, .int x3)] 71 [] Q))))))) :
    Wp 322 0 [(0, .ref 58), (1, .int x1), (2, .int x2), (3, .int x3)] [] (gE Lx) I L e Q := by
  refine w_a f_322_0 ?_
  refine w_a f_322_1 ?_
  refine w_a f_322_2 ?_
  refine w_a f_322_3 ?_
  refine w_a f_322_4 ?_
  refine w_a (ls := [(0, .int x3), (1, .int (Int32.ofInt 0)), (2, .int (Int32.ofInt 4))]) f_208_0 ?_
  refine w_a f_208_1 ?_
  refine w_a f_208_2 ?_
  refine i_m (fun h => ?_) (fun h => ?_) h
  · refine w_a f_208_14 ?_
    refine w_a f_208_15 ?_
    refine w_a (ls := [(0, .ref 58), (1, .int x1), (2, .int x2), (3, .int x3)]) f_322_7 ?_
    refine w_a f_322_10 ?_
    refine w_a f_322_11 ?_
    refine w_a f_322_41 ?_
    refine w_a f_322_44 ?_
    refine w_a f_322_45 ?_
    refine w_a f_322_48 ?_
    refine w_a f_322_51 ?_
    refine w_a f_322_52 ?_
    exact h
  · refine w_a f_208_5 ?_
    refine w_a f_208_6 ?_
    refine w_a f_208_7 ?_
    refine i_m (fun h => ?_) (fun h => ?_) h
    · refine w_a f_208_14 ?_
      refine w_a f_208_15 ?_
      refine w_a (ls := [(0, .ref 58), (1, .int x1), (2, .int x2), (3, .int x3)]) f_322_7 ?_
      refine w_a f_322_10 ?_
      refine w_a f_322_11 ?_
      refine w_a f_322_41 ?_
      refine w_a f_322_44 ?_
      refine w_a f_322_45 ?_
      refine w_a f_322_48 ?_
      refine w_a f_322_51 ?_
      refine w_a f_322_52 ?_
      exact h
    · refine w_a f_208_10 ?_
      refine w_a f_208_11 ?_
      refine w_a f_208_15 ?_
      refine w_a (ls := [(0, .ref 58), (1, .int x1), (2, .int x2), (3, .int x3)]) f_322_7 ?_
      refine w_a f_322_14 ?_
      refine w_a f_322_15 ?_
      refine w_a f_322_16 ?_
      refine w_a f_322_18 ?_
      refine w_a (ls := [(0, .int x1), (1, .int (Int32.ofInt 1)), (2, .int (Int32.ofInt 12))]) f_208_0 ?_
      refine w_a f_208_1 ?_
      refine w_a f_208_2 ?_
      refine i_m (fun h => ?_) (fun h => ?_) h
      · refine w_a f_208_14 ?_
        refine w_a f_208_15 ?_
        refine w_a (ls := [(0, .ref 58), (1, .int x1), (2, .int x2), (3, .int x3)]) f_322_21 ?_
        refine w_a f_322_24 ?_
        refine w_a f_322_25 ?_
        refine w_a f_322_41 ?_
        refine w_a f_322_44 ?_
        refine w_a f_322_45 ?_
        refine w_a f_322_48 ?_
        refine w_a f_322_51 ?_
        refine w_a f_322_52 ?_
        exact h
      · refine w_a f_208_5 ?_
        refine w_a f_208_6 ?_
        refine w_a f_208_7 ?_
        refine i_m (fun h => ?_) (fun h => ?_) h
        · refine w_a f_208_14 ?_
          refine w_a f_208_15 ?_
          refine w_a (ls := [(0, .ref 58), (1, .int x1), (2, .int x2), (3, .int x3)]) f_322_21 ?_
          refine w_a f_322_24 ?_
          refine w_a f_322_25 ?_
          refine w_a f_322_41 ?_
          refine w_a f_322_44 ?_
          refine w_a f_322_45 ?_
          refine w_a f_322_48 ?_
          refine w_a f_322_51 ?_
          refine w_a f_322_52 ?_
          exact h
        · refine w_a f_208_10 ?_
          refine w_a f_208_11 ?_
          refine w_a f_208_15 ?_
          refine w_a (ls := [(0, .ref 58), (1, .int x1), (2, .int x2), (3, .int x3)]) f_322_21 ?_
          refine w_a f_322_28 ?_
          refine w_a f_322_29 ?_
          refine w_a (ls := [(0, .ref 58)]) f_215_0 ?_
          refine w_a f_215_1 ?_
          refine w_a f_215_4 ?_
          refine w_a f_215_5 ?_
          refine w_a f_215_6 ?_
          refine w_a (ls := [(0, .ref 58), (1, .int x1), (2, .int x2), (3, .int x3)]) f_322_32 ?_
          refine w_a f_322_33 ?_
          refine i_m (fun h => ?_) (fun h => ?_) h
          · refine w_a f_322_36 ?_
            refine w_a f_322_37 ?_
            refine w_a f_322_41 ?_
            refine w_a f_322_44 ?_
            refine w_a f_322_45 ?_
            refine w_a f_322_48 ?_
            refine w_a f_322_51 ?_
            refine w_a f_322_52 ?_
            exact h
          · refine w_a f_322_40 ?_
            refine w_a f_322_41 ?_
            refine w_a f_322_44 ?_
            refine w_a f_322_45 ?_
            refine w_a f_322_48 ?_
            refine w_a f_322_53 ?_
            refine w_a f_322_54 ?_
            refine w_a f_322_55 ?_
            refine w_a f_322_58 ?_
            refine w_a f_322_59 ?_
            refine w_a f_322_60 ?_
            exact w_c (ks := [0, 2, 3]) f_322_61 rfl rfl h
set_option maxRecDepth 10000 in
set_option maxHeartbeats 4000000 in
theorem s_323_0 {Lx : Nat} {I : Mi} {L : Ml} {e : Nat} {Q : Kq} {x1 : Int32} {x2 : Int32} (h :
    (if x2 < (Int32.ofInt 0) then
     Q (.inl (some (.int (Int32.ofInt 0)))) (gE Lx) (ui I 58 0 (Int32.ofInt 1)) L e
    else
     (if (Int32.ofInt 3) < x2 then
      Q (.inl (some (.int (Int32.ofInt 0)))) (gE Lx) (ui I 58 0 (Int32.ofInt 1)) L e
     else
      (if x1 < (Int32.ofInt 1) then
       Q (.inl (some (.int (Int32.ofInt 0)))) (gE Lx) (ui I 58 0 (Int32.ofInt 2)) L e
      else
       (if (Int32.ofInt 12) < x1 then
        Q (.inl (some (.int (Int32.ofInt 0)))) (gE Lx) (ui I 58 0 (Int32.ofInt 2)) L e
       else
        (if (I 59 3) = 0 then
         Q (.inl (some (.int (Int32.ofInt 0)))) (gE Lx) (ui I 58 0 (Int32.ofInt 3)) L e
        else
         Wp 323 58 [(0, .ref 58), (1, .int x1), (2, .int x2), (3, .int (Int32.ofInt 0))] [] (gE Lx) (ui (ui I 58 0 (Int32.ofInt 0)) 58 30 (Int32.ofInt 0)) L e Q)))))) :
    Wp 323 0 [(0, .ref 58), (1, .int x1), (2, .int x2)] [] (gE Lx) I L e Q := by
  refine w_a f_323_0 ?_
  refine w_a f_323_1 ?_
  refine w_a f_323_2 ?_
  refine w_a f_323_3 ?_
  refine w_a f_323_4 ?_
  refine w_a (ls := [(0, .int x2), (1, .int (Int32.ofInt 0)), (2, .int (Int32.ofInt 3))]) f_208_0 ?_
  refine w_a f_208_1 ?_
  refine w_a f_208_2 ?_
  refine i_m (fun h => ?_) (fun h => ?_) h
  · refine w_a f_208_14 ?_
    refine w_a f_208_15 ?_
    refine w_a (ls := [(0, .ref 58), (1, .int x1), (2, .int x2)]) f_323_7 ?_
    refine w_a f_323_10 ?_
    refine w_a f_323_11 ?_
    refine w_a f_323_40 ?_
    refine w_a f_323_43 ?_
    refine w_a f_323_44 ?_
    refine w_a f_323_47 ?_
    refine w_a f_323_50 ?_
    refine w_a f_323_51 ?_
    exact h
  · refine w_a f_208_5 ?_
    refine w_a f_208_6 ?_
    refine w_a f_208_7 ?_
    refine i_m (fun h => ?_) (fun h => ?_) h
    · refine w_a f_208_14 ?_
      refine w_a f_208_15 ?_
      refine w_a (ls := [(0, .ref 58), (1, .int x1), (2, .int x2)]) f_323_7 ?_
      refine w_a f_323_10 ?_
      refine w_a f_323_11 ?_
      refine w_a f_323_40 ?_
      refine w_a f_323_43 ?_
      refine w_a f_323_44 ?_
      refine w_a f_323_47 ?_
      refine w_a f_323_50 ?_
      refine w_a f_323_51 ?_
      exact h
    · refine w_a f_208_10 ?_
      refine w_a f_208_11 ?_
      refine w_a f_208_15 ?_
      refine w_a (ls := [(0, .ref 58), (1, .int x1), (2, .int x2)]) f_323_7 ?_
      refine w_a f_323_14 ?_
      refine w_a f_323_15 ?_
      refine w_a f_323_16 ?_
      refine w_a f_323_18 ?_
      refine w_a (ls := [(0, .int x1), (1, .int (Int32.ofInt 1)), (2, .int (Int32.ofInt 12))]) f_208_0 ?_
      refine w_a f_208_1 ?_
      refine w_a f_208_2 ?_
      refine i_m (fun h => ?_) (fun h => ?_) h
      · refine w_a f_208_14 ?_
        refine w_a f_208_15 ?_
        refine w_a (ls := [(0, .ref 58), (1, .int x1), (2, .int x2)]) f_323_21 ?_
        refine w_a f_323_24 ?_
        refine w_a f_323_25 ?_
        refine w_a f_323_40 ?_
        refine w_a f_323_43 ?_
        refine w_a f_323_44 ?_
        refine w_a f_323_47 ?_
        refine w_a f_323_50 ?_
        refine w_a f_323_51 ?_
        exact h
      · refine w_a f_208_5 ?_
        refine w_a f_208_6 ?_
        refine w_a f_208_7 ?_
        refine i_m (fun h => ?_) (fun h => ?_) h
        · refine w_a f_208_14 ?_
          refine w_a f_208_15 ?_
          refine w_a (ls := [(0, .ref 58), (1, .int x1), (2, .int x2)]) f_323_21 ?_
          refine w_a f_323_24 ?_
          refine w_a f_323_25 ?_
          refine w_a f_323_40 ?_
          refine w_a f_323_43 ?_
          refine w_a f_323_44 ?_
          refine w_a f_323_47 ?_
          refine w_a f_323_50 ?_
          refine w_a f_323_51 ?_
          exact h
        · refine w_a f_208_10 ?_
          refine w_a f_208_11 ?_
          refine w_a f_208_15 ?_
          refine w_a (ls := [(0, .ref 58), (1, .int x1), (2, .int x2)]) f_323_21 ?_
          refine w_a f_323_28 ?_
          refine w_a f_323_29 ?_
          refine w_a (ls := [(0, .ref 58)]) f_215_0 ?_
          refine w_a f_215_1 ?_
          refine w_a f_215_4 ?_
          refine w_a f_215_5 ?_
          refine w_a f_215_6 ?_
          refine w_a (ls := [(0, .ref 58), (1, .int x1), (2, .int x2)]) f_323_32 ?_
          refine i_m (fun h => ?_) (fun h => ?_) h
          · refine w_a f_323_35 ?_
            refine w_a f_323_36 ?_
            refine w_a f_323_40 ?_
            refine w_a f_323_43 ?_
            refine w_a f_323_44 ?_
            refine w_a f_323_47 ?_
            refine w_a f_323_50 ?_
            refine w_a f_323_51 ?_
            exact h
          · refine w_a f_323_39 ?_
            refine w_a f_323_40 ?_
            refine w_a f_323_43 ?_
            refine w_a f_323_44 ?_
            refine w_a f_323_47 ?_
            refine w_a f_323_52 ?_
            refine w_a f_323_53 ?_
            refine w_a (ls := [(0, .ref 58)]) f_311_0 ?_
            refine w_a f_311_1 ?_
            refine w_a f_311_2 ?_
            refine w_a f_311_5 ?_
            refine w_a (ls := [(0, .ref 58), (1, .int x1), (2, .int x2)]) f_323_56 ?_
            refine w_a f_323_57 ?_
            exact w_n (ks := [0, 1, 2, 3]) rfl h
