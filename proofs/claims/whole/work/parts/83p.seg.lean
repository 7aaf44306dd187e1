/-! Pieces of the law and of the calls that it makes, by program out of the tables. -/
theorem f_187_0 : ftc (PT 187) 0 = some (0, .aload_n 0, 1, 0, 0, 0) := by decide +kernel
theorem f_187_1 : ftc (PT 187) 1 = some (1, .iload_n 1, 1, 0, 0, 0) := by decide +kernel
theorem f_187_2 : ftc (PT 187) 2 = some (2, .iload_n 3, 1, 0, 0, 0) := by decide +kernel
theorem f_187_3 : ftc (PT 187) 3 = some (3, .iload 4, 2, 0, 0, 0) := by decide +kernel
theorem f_187_5 : ftc (PT 187) 5 = some (5, .iload 5, 2, 0, 0, 0) := by decide +kernel
theorem f_187_7 : ftc (PT 187) 7 = some (7, .iload 6, 2, 0, 0, 0) := by decide +kernel
theorem f_187_9 : ftc (PT 187) 9 = some (9, .invokevirtual 345, 3, 185, 6315, 1501) := by decide +kernel
theorem f_188_0 : ftc (PT 188) 0 = some (0, .aload_n 0, 1, 0, 0, 0) := by decide +kernel
theorem f_188_1 : ftc (PT 188) 1 = some (1, .iload_n 1, 1, 0, 0, 0) := by decide +kernel
theorem f_188_2 : ftc (PT 188) 2 = some (2, .invokevirtual 193, 3, 122, 2091, 954) := by decide +kernel
theorem f_188_5 : ftc (PT 188) 5 = some (5, .aload_n 0, 1, 0, 0, 0) := by decide +kernel
theorem f_188_6 : ftc (PT 188) 6 = some (6, .iload_n 3, 1, 0, 0, 0) := by decide +kernel
theorem f_188_7 : ftc (PT 188) 7 = some (7, .bipush 12, 2, 0, 0, 0) := by decide +kernel
theorem f_188_9 : ftc (PT 188) 9 = some (9, .invokevirtual 367, 3, 169, 3147, 1404) := by decide +kernel
theorem f_188_12 : ftc (PT 188) 12 = some (12, .iload 4, 2, 0, 0, 0) := by decide +kernel
theorem f_188_14 : ftc (PT 188) 14 = some (14, .ifCond .lt 23, 3, 37, 0, 0) := by decide +kernel
theorem f_188_17 : ftc (PT 188) 17 = some (17, .iload 4, 2, 0, 0, 0) := by decide +kernel
theorem f_188_19 : ftc (PT 188) 19 = some (19, .bipush 99, 2, 0, 0, 0) := by decide +kernel
theorem f_188_21 : ftc (PT 188) 21 = some (21, .if_icmp .gt 16, 3, 37, 0, 0) := by decide +kernel
theorem f_188_24 : ftc (PT 188) 24 = some (24, .iload 5, 2, 0, 0, 0) := by decide +kernel
theorem f_188_26 : ftc (PT 188) 26 = some (26, .iconst 1, 1, 0, 0, 0) := by decide +kernel
theorem f_188_27 : ftc (PT 188) 27 = some (27, .if_icmp .lt 10, 3, 37, 0, 0) := by decide +kernel
theorem f_188_30 : ftc (PT 188) 30 = some (30, .iload 5, 2, 0, 0, 0) := by decide +kernel
theorem f_188_32 : ftc (PT 188) 32 = some (32, .bipush 20, 2, 0, 0, 0) := by decide +kernel
theorem f_188_34 : ftc (PT 188) 34 = some (34, .if_icmp .le 11, 3, 45, 0, 0) := by decide +kernel
theorem f_188_37 : ftc (PT 188) 37 = some (37, .new 116, 3, 101, 6, 773) := by decide +kernel
theorem f_188_45 : ftc (PT 188) 45 = some (45, .aload_n 0, 1, 0, 0, 0) := by decide +kernel
theorem f_188_46 : ftc (PT 188) 46 = some (46, .iload_n 1, 1, 0, 0, 0) := by decide +kernel
theorem f_188_47 : ftc (PT 188) 47 = some (47, .iload_n 2, 1, 0, 0, 0) := by decide +kernel
theorem f_188_48 : ftc (PT 188) 48 = some (48, .invokevirtual 305, 3, 148, 3147, 1218) := by decide +kernel
theorem f_190_0 : ftc (PT 190) 0 = some (0, .aload_n 0, 1, 0, 0, 0) := by decide +kernel
theorem f_190_1 : ftc (PT 190) 1 = some (1, .iload_n 1, 1, 0, 0, 0) := by decide +kernel
theorem f_190_2 : ftc (PT 190) 2 = some (2, .invokevirtual 193, 3, 122, 2091, 954) := by decide +kernel
theorem f_190_5 : ftc (PT 190) 5 = some (5, .aload_n 0, 1, 0, 0, 0) := by decide +kernel
theorem f_190_6 : ftc (PT 190) 6 = some (6, .iload 5, 2, 0, 0, 0) := by decide +kernel
theorem f_190_8 : ftc (PT 190) 8 = some (8, .iconst 3, 1, 0, 0, 0) := by decide +kernel
theorem f_190_9 : ftc (PT 190) 9 = some (9, .invokevirtual 143, 3, 120, 3147, 928) := by decide +kernel
theorem f_190_12 : ftc (PT 190) 12 = some (12, .aload_n 0, 1, 0, 0, 0) := by decide +kernel
theorem f_190_13 : ftc (PT 190) 13 = some (13, .iload_n 3, 1, 0, 0, 0) := by decide +kernel
theorem f_190_14 : ftc (PT 190) 14 = some (14, .bipush 12, 2, 0, 0, 0) := by decide +kernel
theorem f_190_16 : ftc (PT 190) 16 = some (16, .invokevirtual 367, 3, 169, 3147, 1404) := by decide +kernel
theorem f_190_19 : ftc (PT 190) 19 = some (19, .aload_n 0, 1, 0, 0, 0) := by decide +kernel
theorem f_190_20 : ftc (PT 190) 20 = some (20, .iload_n 1, 1, 0, 0, 0) := by decide +kernel
theorem f_190_21 : ftc (PT 190) 21 = some (21, .iload_n 2, 1, 0, 0, 0) := by decide +kernel
theorem f_190_22 : ftc (PT 190) 22 = some (22, .invokevirtual 305, 3, 148, 3147, 1218) := by decide +kernel
theorem f_192_0 : ftc (PT 192) 0 = some (0, .aload_n 0, 1, 0, 0, 0) := by decide +kernel
theorem f_192_1 : ftc (PT 192) 1 = some (1, .iload_n 1, 1, 0, 0, 0) := by decide +kernel
theorem f_192_2 : ftc (PT 192) 2 = some (2, .invokevirtual 193, 3, 122, 2091, 954) := by decide +kernel
theorem f_192_5 : ftc (PT 192) 5 = some (5, .aload_n 0, 1, 0, 0, 0) := by decide +kernel
theorem f_192_6 : ftc (PT 192) 6 = some (6, .iload 5, 2, 0, 0, 0) := by decide +kernel
theorem f_192_8 : ftc (PT 192) 8 = some (8, .iconst 2, 1, 0, 0, 0) := by decide +kernel
theorem f_192_9 : ftc (PT 192) 9 = some (9, .invokevirtual 143, 3, 120, 3147, 928) := by decide +kernel
theorem f_192_12 : ftc (PT 192) 12 = some (12, .aload_n 0, 1, 0, 0, 0) := by decide +kernel
theorem f_192_13 : ftc (PT 192) 13 = some (13, .iload_n 2, 1, 0, 0, 0) := by decide +kernel
theorem f_192_14 : ftc (PT 192) 14 = some (14, .iload_n 3, 1, 0, 0, 0) := by decide +kernel
theorem f_192_15 : ftc (PT 192) 15 = some (15, .invokevirtual 123, 3, 113, 3147, 846) := by decide +kernel
theorem f_194_0 : ftc (PT 194) 0 = some (0, .aload_n 0, 1, 0, 0, 0) := by decide +kernel
theorem f_194_1 : ftc (PT 194) 1 = some (1, .iload_n 2, 1, 0, 0, 0) := by decide +kernel
theorem f_194_2 : ftc (PT 194) 2 = some (2, .iconst 3, 1, 0, 0, 0) := by decide +kernel
theorem f_194_3 : ftc (PT 194) 3 = some (3, .invokevirtual 143, 3, 120, 3147, 928) := by decide +kernel
theorem f_194_6 : ftc (PT 194) 6 = some (6, .iload_n 1, 1, 0, 0, 0) := by decide +kernel
theorem f_194_7 : ftc (PT 194) 7 = some (7, .iconst 2, 1, 0, 0, 0) := by decide +kernel
theorem f_194_8 : ftc (PT 194) 8 = some (8, .if_icmp .lt 8, 3, 16, 0, 0) := by decide +kernel
theorem f_194_11 : ftc (PT 194) 11 = some (11, .iload_n 1, 1, 0, 0, 0) := by decide +kernel
theorem f_194_12 : ftc (PT 194) 12 = some (12, .iconst 3, 1, 0, 0, 0) := by decide +kernel
theorem f_194_13 : ftc (PT 194) 13 = some (13, .if_icmp .le 11, 3, 24, 0, 0) := by decide +kernel
theorem f_194_16 : ftc (PT 194) 16 = some (16, .new 116, 3, 101, 6, 773) := by decide +kernel
theorem f_194_24 : ftc (PT 194) 24 = some (24, .aload_n 0, 1, 0, 0, 0) := by decide +kernel
theorem f_194_25 : ftc (PT 194) 25 = some (25, .getfield 19, 3, 11, 1, 469) := by decide +kernel
theorem f_194_28 : ftc (PT 194) 28 = some (28, .getfield 127, 3, 2, 3, 221) := by decide +kernel
theorem f_194_31 : ftc (PT 194) 31 = some (31, .iconst 4, 1, 0, 0, 0) := by decide +kernel
theorem f_194_32 : ftc (PT 194) 32 = some (32, .if_icmp .lt 11, 3, 43, 0, 0) := by decide +kernel
theorem f_194_35 : ftc (PT 194) 35 = some (35, .new 130, 3, 102, 6, 856) := by decide +kernel
theorem f_194_43 : ftc (PT 194) 43 = some (43, .aload_n 0, 1, 0, 0, 0) := by decide +kernel
theorem f_194_44 : ftc (PT 194) 44 = some (44, .iload_n 1, 1, 0, 0, 0) := by decide +kernel
theorem f_194_45 : ftc (PT 194) 45 = some (45, .invokevirtual 412, 3, 195, 3115, 1558) := by decide +kernel
theorem f_197_0 : ftc (PT 197) 0 = some (0, .aload_n 0, 1, 0, 0, 0) := by decide +kernel
theorem f_197_1 : ftc (PT 197) 1 = some (1, .iload_n 1, 1, 0, 0, 0) := by decide +kernel
theorem f_197_2 : ftc (PT 197) 2 = some (2, .iconst 1, 1, 0, 0, 0) := by decide +kernel
theorem f_197_3 : ftc (PT 197) 3 = some (3, .invokevirtual 143, 3, 120, 3147, 928) := by decide +kernel
theorem f_197_6 : ftc (PT 197) 6 = some (6, .aload_n 0, 1, 0, 0, 0) := by decide +kernel
theorem f_197_7 : ftc (PT 197) 7 = some (7, .invokevirtual 424, 3, 198, 1035, 1573) := by decide +kernel
theorem f_198_0 : ftc (PT 198) 0 = some (0, .aload_n 0, 1, 0, 0, 0) := by decide +kernel
theorem f_198_1 : ftc (PT 198) 1 = some (1, .getfield 19, 3, 11, 1, 469) := by decide +kernel
theorem f_198_4 : ftc (PT 198) 4 = some (4, .aload_n 0, 1, 0, 0, 0) := by decide +kernel
theorem f_198_5 : ftc (PT 198) 5 = some (5, .getfield 19, 3, 11, 1, 469) := by decide +kernel
theorem f_198_8 : ftc (PT 198) 8 = some (8, .getfield 127, 3, 2, 3, 221) := by decide +kernel
theorem f_198_11 : ftc (PT 198) 11 = some (11, .aload_n 0, 1, 0, 0, 0) := by decide +kernel
theorem f_198_12 : ftc (PT 198) 12 = some (12, .getfield 42, 3, 11, 6, 474) := by decide +kernel
theorem f_198_15 : ftc (PT 198) 15 = some (15, .invokestatic 196, 3, 106, 4099, 742) := by decide +kernel
theorem f_201_0 : ftc (PT 201) 0 = some (0, .aload_n 0, 1, 0, 0, 0) := by decide +kernel
theorem f_201_1 : ftc (PT 201) 1 = some (1, .iload_n 1, 1, 0, 0, 0) := by decide +kernel
theorem f_201_2 : ftc (PT 201) 2 = some (2, .iconst 2, 1, 0, 0, 0) := by decide +kernel
theorem f_201_3 : ftc (PT 201) 3 = some (3, .invokevirtual 143, 3, 120, 3147, 928) := by decide +kernel
theorem f_201_6 : ftc (PT 201) 6 = some (6, .aload_n 0, 1, 0, 0, 0) := by decide +kernel
theorem f_201_7 : ftc (PT 201) 7 = some (7, .getfield 90, 3, 11, 14, 482) := by decide +kernel
theorem f_201_10 : ftc (PT 201) 10 = some (10, .aload_n 0, 1, 0, 0, 0) := by decide +kernel
theorem f_201_11 : ftc (PT 201) 11 = some (11, .getfield 19, 3, 11, 1, 469) := by decide +kernel
theorem f_201_14 : ftc (PT 201) 14 = some (14, .invokevirtual 434, 3, 65, 7208, 697) := by decide +kernel
theorem f_212_0 : ftc (PT 212) 0 = some (0, .aload_n 0, 1, 0, 0, 0) := by decide +kernel
theorem f_212_1 : ftc (PT 212) 1 = some (1, .getfield 55, 3, 12, 0, 1636) := by decide +kernel
theorem f_212_4 : ftc (PT 212) 4 = some (4, .ireturn, 1, 0, 0, 0) := by decide +kernel
theorem f_406_0 : ftc (PT 406) 0 = some (0, .aload 10, 2, 0, 0, 0) := by decide +kernel
theorem f_406_2 : ftc (PT 406) 2 = some (2, .iconst 0, 1, 0, 0, 0) := by decide +kernel
theorem f_406_3 : ftc (PT 406) 3 = some (3, .aload_n 0, 1, 0, 0, 0) := by decide +kernel
theorem f_406_4 : ftc (PT 406) 4 = some (4, .iload_n 1, 1, 0, 0, 0) := by decide +kernel
theorem f_406_5 : ftc (PT 406) 5 = some (5, .iload_n 2, 1, 0, 0, 0) := by decide +kernel
theorem f_406_6 : ftc (PT 406) 6 = some (6, .iload_n 3, 1, 0, 0, 0) := by decide +kernel
theorem f_406_7 : ftc (PT 406) 7 = some (7, .iload 4, 2, 0, 0, 0) := by decide +kernel
theorem f_406_9 : ftc (PT 406) 9 = some (9, .iload 5, 2, 0, 0, 0) := by decide +kernel
theorem f_406_11 : ftc (PT 406) 11 = some (11, .iload 6, 2, 0, 0, 0) := by decide +kernel
theorem f_406_13 : ftc (PT 406) 13 = some (13, .iload 7, 2, 0, 0, 0) := by decide +kernel
theorem f_406_15 : ftc (PT 406) 15 = some (15, .iload 8, 2, 0, 0, 0) := by decide +kernel
theorem f_406_17 : ftc (PT 406) 17 = some (17, .iload 9, 2, 0, 0, 0) := by decide +kernel
theorem f_406_19 : ftc (PT 406) 19 = some (19, .invokevirtual 159, 3, 187, 10539, 1513) := by decide +kernel
theorem f_407_0 : ftc (PT 407) 0 = some (0, .aload 6, 2, 0, 0, 0) := by decide +kernel
theorem f_407_2 : ftc (PT 407) 2 = some (2, .iconst 0, 1, 0, 0, 0) := by decide +kernel
theorem f_407_3 : ftc (PT 407) 3 = some (3, .aload_n 0, 1, 0, 0, 0) := by decide +kernel
theorem f_407_4 : ftc (PT 407) 4 = some (4, .iload_n 1, 1, 0, 0, 0) := by decide +kernel
theorem f_407_5 : ftc (PT 407) 5 = some (5, .iload_n 2, 1, 0, 0, 0) := by decide +kernel
theorem f_407_6 : ftc (PT 407) 6 = some (6, .iload_n 3, 1, 0, 0, 0) := by decide +kernel
theorem f_407_7 : ftc (PT 407) 7 = some (7, .iload 4, 2, 0, 0, 0) := by decide +kernel
theorem f_407_9 : ftc (PT 407) 9 = some (9, .iload 5, 2, 0, 0, 0) := by decide +kernel
theorem f_407_11 : ftc (PT 407) 11 = some (11, .invokevirtual 163, 3, 188, 6315, 1520) := by decide +kernel
theorem f_408_0 : ftc (PT 408) 0 = some (0, .aload 6, 2, 0, 0, 0) := by decide +kernel
theorem f_408_2 : ftc (PT 408) 2 = some (2, .iconst 0, 1, 0, 0, 0) := by decide +kernel
theorem f_408_3 : ftc (PT 408) 3 = some (3, .aload_n 0, 1, 0, 0, 0) := by decide +kernel
theorem f_408_4 : ftc (PT 408) 4 = some (4, .iload_n 1, 1, 0, 0, 0) := by decide +kernel
theorem f_408_5 : ftc (PT 408) 5 = some (5, .iload_n 2, 1, 0, 0, 0) := by decide +kernel
theorem f_408_6 : ftc (PT 408) 6 = some (6, .iload_n 3, 1, 0, 0, 0) := by decide +kernel
theorem f_408_7 : ftc (PT 408) 7 = some (7, .iload 4, 2, 0, 0, 0) := by decide +kernel
theorem f_408_9 : ftc (PT 408) 9 = some (9, .iload 5, 2, 0, 0, 0) := by decide +kernel
theorem f_408_11 : ftc (PT 408) 11 = some (11, .invokevirtual 166, 3, 190, 6315, 1531) := by decide +kernel
theorem f_409_0 : ftc (PT 409) 0 = some (0, .aload 6, 2, 0, 0, 0) := by decide +kernel
theorem f_409_2 : ftc (PT 409) 2 = some (2, .iconst 0, 1, 0, 0, 0) := by decide +kernel
theorem f_409_3 : ftc (PT 409) 3 = some (3, .aload_n 0, 1, 0, 0, 0) := by decide +kernel
theorem f_409_4 : ftc (PT 409) 4 = some (4, .iload_n 1, 1, 0, 0, 0) := by decide +kernel
theorem f_409_5 : ftc (PT 409) 5 = some (5, .iload_n 2, 1, 0, 0, 0) := by decide +kernel
theorem f_409_6 : ftc (PT 409) 6 = some (6, .iload_n 3, 1, 0, 0, 0) := by decide +kernel
theorem f_409_7 : ftc (PT 409) 7 = some (7, .iload 4, 2, 0, 0, 0) := by decide +kernel
theorem f_409_9 : ftc (PT 409) 9 = some (9, .iload 5, 2, 0, 0, 0) := by decide +kernel
theorem f_409_11 : ftc (PT 409) 11 = some (11, .invokevirtual 170, 3, 192, 6315, 1543) := by decide +kernel
theorem f_410_0 : ftc (PT 410) 0 = some (0, .aload_n 3, 1, 0, 0, 0) := by decide +kernel
theorem f_410_1 : ftc (PT 410) 1 = some (1, .iconst 0, 1, 0, 0, 0) := by decide +kernel
theorem f_410_2 : ftc (PT 410) 2 = some (2, .aload_n 0, 1, 0, 0, 0) := by decide +kernel
theorem f_410_3 : ftc (PT 410) 3 = some (3, .iload_n 1, 1, 0, 0, 0) := by decide +kernel
theorem f_410_4 : ftc (PT 410) 4 = some (4, .iload_n 2, 1, 0, 0, 0) := by decide +kernel
theorem f_410_5 : ftc (PT 410) 5 = some (5, .invokevirtual 174, 3, 194, 3147, 1554) := by decide +kernel
theorem f_411_0 : ftc (PT 411) 0 = some (0, .aload_n 2, 1, 0, 0, 0) := by decide +kernel
theorem f_411_1 : ftc (PT 411) 1 = some (1, .iconst 0, 1, 0, 0, 0) := by decide +kernel
theorem f_411_2 : ftc (PT 411) 2 = some (2, .aload_n 0, 1, 0, 0, 0) := by decide +kernel
theorem f_411_3 : ftc (PT 411) 3 = some (3, .iload_n 1, 1, 0, 0, 0) := by decide +kernel
theorem f_411_4 : ftc (PT 411) 4 = some (4, .invokevirtual 177, 3, 197, 7211, 1569) := by decide +kernel
theorem f_412_0 : ftc (PT 412) 0 = some (0, .aload_n 2, 1, 0, 0, 0) := by decide +kernel
theorem f_412_1 : ftc (PT 412) 1 = some (1, .iconst 0, 1, 0, 0, 0) := by decide +kernel
theorem f_412_2 : ftc (PT 412) 2 = some (2, .aload_n 0, 1, 0, 0, 0) := by decide +kernel
theorem f_412_3 : ftc (PT 412) 3 = some (3, .iload_n 1, 1, 0, 0, 0) := by decide +kernel
theorem f_412_4 : ftc (PT 412) 4 = some (4, .invokevirtual 181, 3, 201, 2091, 1589) := by decide +kernel
theorem f_420_23 : ftc (PT 420) 23 = some (23, .iload 4, 2, 0, 0, 0) := by decide +kernel
theorem f_420_25 : ftc (PT 420) 25 = some (25, .aload_n 0, 1, 0, 0, 0) := by decide +kernel
theorem f_420_26 : ftc (PT 420) 26 = some (26, .arraylength, 1, 0, 0, 0) := by decide +kernel
theorem f_420_27 : ftc (PT 420) 27 = some (27, .bipush 10, 2, 0, 0, 0) := by decide +kernel
theorem f_420_29 : ftc (PT 420) 29 = some (29, .isub, 1, 0, 0, 0) := by decide +kernel
theorem f_420_30 : ftc (PT 420) 30 = some (30, .if_icmp .gt 4893, 3, 4923, 0, 0) := by decide +kernel
theorem f_420_33 : ftc (PT 420) 33 = some (33, .aload_n 0, 1, 0, 0, 0) := by decide +kernel
theorem f_420_34 : ftc (PT 420) 34 = some (34, .iload 4, 2, 0, 0, 0) := by decide +kernel
theorem f_420_36 : ftc (PT 420) 36 = some (36, .iaload, 1, 0, 0, 0) := by decide +kernel
theorem f_420_37 : ftc (PT 420) 37 = some (37, .bipush 63, 2, 0, 0, 0) := by decide +kernel
theorem f_420_39 : ftc (PT 420) 39 = some (39, .iand, 1, 0, 0, 0) := by decide +kernel
theorem f_420_40 : ftc (PT 420) 40 = some (40, .tableswitch 4877 0 52 #[228, 289, 369, 413, 474, 523, 591, 702, 765, 848, 932, 1023, 1119, 1227, 1347, 1439, 1523, 1626, 1749, 1844, 1967, 2078, 2174, 2286, 2397, 2493, 2601, 2780, 2916, 3036, 3120, 3271, 3382, 3465, 3528, 3608, 3676, 3701, 3769, 3903, 4110, 4230, 4365, 4485, 4553, 4578, 4591, 4647, 4660, 4715, 4771, 4827, 4852], 228, 0, 0, 0) := by decide +kernel
theorem f_420_268 : ftc (PT 420) 268 = some (268, .aload_n 1, 1, 0, 0, 0) := by decide +kernel
theorem f_420_269 : ftc (PT 420) 269 = some (269, .aload_n 0, 1, 0, 0, 0) := by decide +kernel
theorem f_420_270 : ftc (PT 420) 270 = some (270, .iload 4, 2, 0, 0, 0) := by decide +kernel
theorem f_420_272 : ftc (PT 420) 272 = some (272, .iconst 1, 1, 0, 0, 0) := by decide +kernel
theorem f_420_273 : ftc (PT 420) 273 = some (273, .iadd, 1, 0, 0, 0) := by decide +kernel
theorem f_420_274 : ftc (PT 420) 274 = some (274, .iaload, 1, 0, 0, 0) := by decide +kernel
theorem f_420_275 : ftc (PT 420) 275 = some (275, .aload_n 0, 1, 0, 0, 0) := by decide +kernel
theorem f_420_276 : ftc (PT 420) 276 = some (276, .iload 4, 2, 0, 0, 0) := by decide +kernel
theorem f_420_278 : ftc (PT 420) 278 = some (278, .iconst 2, 1, 0, 0, 0) := by decide +kernel
theorem f_420_279 : ftc (PT 420) 279 = some (279, .iadd, 1, 0, 0, 0) := by decide +kernel
theorem f_420_280 : ftc (PT 420) 280 = some (280, .iaload, 1, 0, 0, 0) := by decide +kernel
theorem f_420_281 : ftc (PT 420) 281 = some (281, .aload_n 0, 1, 0, 0, 0) := by decide +kernel
theorem f_420_282 : ftc (PT 420) 282 = some (282, .iload 4, 2, 0, 0, 0) := by decide +kernel
theorem f_420_284 : ftc (PT 420) 284 = some (284, .iconst 3, 1, 0, 0, 0) := by decide +kernel
theorem f_420_285 : ftc (PT 420) 285 = some (285, .iadd, 1, 0, 0, 0) := by decide +kernel
theorem f_420_286 : ftc (PT 420) 286 = some (286, .iaload, 1, 0, 0, 0) := by decide +kernel
theorem f_420_287 : ftc (PT 420) 287 = some (287, .invokestatic 195, 3, 367, 5124, 762) := by decide +kernel
theorem f_420_290 : ftc (PT 420) 290 = some (290, .istore 5, 2, 0, 0, 0) := by decide +kernel
theorem f_420_292 : ftc (PT 420) 292 = some (292, .aload_n 2, 1, 0, 0, 0) := by decide +kernel
theorem f_420_293 : ftc (PT 420) 293 = some (293, .aload_n 0, 1, 0, 0, 0) := by decide +kernel
theorem f_420_294 : ftc (PT 420) 294 = some (294, .iload 4, 2, 0, 0, 0) := by decide +kernel
theorem f_420_296 : ftc (PT 420) 296 = some (296, .iconst 1, 1, 0, 0, 0) := by decide +kernel
theorem f_420_297 : ftc (PT 420) 297 = some (297, .iadd, 1, 0, 0, 0) := by decide +kernel
theorem f_420_298 : ftc (PT 420) 298 = some (298, .iaload, 1, 0, 0, 0) := by decide +kernel
theorem f_420_299 : ftc (PT 420) 299 = some (299, .aload_n 0, 1, 0, 0, 0) := by decide +kernel
theorem f_420_300 : ftc (PT 420) 300 = some (300, .iload 4, 2, 0, 0, 0) := by decide +kernel
theorem f_420_302 : ftc (PT 420) 302 = some (302, .iconst 2, 1, 0, 0, 0) := by decide +kernel
theorem f_420_303 : ftc (PT 420) 303 = some (303, .iadd, 1, 0, 0, 0) := by decide +kernel
theorem f_420_304 : ftc (PT 420) 304 = some (304, .iaload, 1, 0, 0, 0) := by decide +kernel
theorem f_420_305 : ftc (PT 420) 305 = some (305, .aload_n 0, 1, 0, 0, 0) := by decide +kernel
theorem f_420_306 : ftc (PT 420) 306 = some (306, .iload 4, 2, 0, 0, 0) := by decide +kernel
theorem f_420_308 : ftc (PT 420) 308 = some (308, .iconst 3, 1, 0, 0, 0) := by decide +kernel
theorem f_420_309 : ftc (PT 420) 309 = some (309, .iadd, 1, 0, 0, 0) := by decide +kernel
theorem f_420_310 : ftc (PT 420) 310 = some (310, .iaload, 1, 0, 0, 0) := by decide +kernel
theorem f_420_311 : ftc (PT 420) 311 = some (311, .invokevirtual 200, 3, 213, 4204, 1773) := by decide +kernel
theorem f_420_314 : ftc (PT 420) 314 = some (314, .pop, 1, 0, 0, 0) := by decide +kernel
theorem f_420_315 : ftc (PT 420) 315 = some (315, .aload_n 2, 1, 0, 0, 0) := by decide +kernel
theorem f_420_316 : ftc (PT 420) 316 = some (316, .invokevirtual 202, 3, 212, 1036, 1769) := by decide +kernel
theorem f_420_319 : ftc (PT 420) 319 = some (319, .iload 5, 2, 0, 0, 0) := by decide +kernel
theorem f_420_321 : ftc (PT 420) 321 = some (321, .if_icmp .eq 5, 3, 326, 0, 0) := by decide +kernel
theorem f_420_324 : ftc (PT 420) 324 = some (324, .iconst 0, 1, 0, 0, 0) := by decide +kernel
theorem f_420_325 : ftc (PT 420) 325 = some (325, .ireturn, 1, 1, 0, 0) := by decide +kernel
theorem f_420_326 : ftc (PT 420) 326 = some (326, .goto 4591, 3, 4917, 0, 0) := by decide +kernel
theorem f_420_329 : ftc (PT 420) 329 = some (329, .aload_n 1, 1, 0, 0, 0) := by decide +kernel
theorem f_420_330 : ftc (PT 420) 330 = some (330, .aload_n 0, 1, 0, 0, 0) := by decide +kernel
theorem f_420_331 : ftc (PT 420) 331 = some (331, .iload 4, 2, 0, 0, 0) := by decide +kernel
theorem f_420_333 : ftc (PT 420) 333 = some (333, .iconst 1, 1, 0, 0, 0) := by decide +kernel
theorem f_420_334 : ftc (PT 420) 334 = some (334, .iadd, 1, 0, 0, 0) := by decide +kernel
theorem f_420_335 : ftc (PT 420) 335 = some (335, .iaload, 1, 0, 0, 0) := by decide +kernel
theorem f_420_336 : ftc (PT 420) 336 = some (336, .aload_n 0, 1, 0, 0, 0) := by decide +kernel
theorem f_420_337 : ftc (PT 420) 337 = some (337, .iload 4, 2, 0, 0, 0) := by decide +kernel
theorem f_420_339 : ftc (PT 420) 339 = some (339, .iconst 2, 1, 0, 0, 0) := by decide +kernel
theorem f_420_340 : ftc (PT 420) 340 = some (340, .iadd, 1, 0, 0, 0) := by decide +kernel
theorem f_420_341 : ftc (PT 420) 341 = some (341, .iaload, 1, 0, 0, 0) := by decide +kernel
theorem f_420_342 : ftc (PT 420) 342 = some (342, .aload_n 0, 1, 0, 0, 0) := by decide +kernel
theorem f_420_343 : ftc (PT 420) 343 = some (343, .iload 4, 2, 0, 0, 0) := by decide +kernel
theorem f_420_345 : ftc (PT 420) 345 = some (345, .iconst 3, 1, 0, 0, 0) := by decide +kernel
theorem f_420_346 : ftc (PT 420) 346 = some (346, .iadd, 1, 0, 0, 0) := by decide +kernel
theorem f_420_347 : ftc (PT 420) 347 = some (347, .iaload, 1, 0, 0, 0) := by decide +kernel
theorem f_420_348 : ftc (PT 420) 348 = some (348, .aload_n 3, 1, 0, 0, 0) := by decide +kernel
theorem f_420_349 : ftc (PT 420) 349 = some (349, .invokestatic 205, 3, 368, 6149, 838) := by decide +kernel
theorem f_420_352 : ftc (PT 420) 352 = some (352, .istore 5, 2, 0, 0, 0) := by decide +kernel
theorem f_420_354 : ftc (PT 420) 354 = some (354, .aload_n 2, 1, 0, 0, 0) := by decide +kernel
theorem f_420_355 : ftc (PT 420) 355 = some (355, .aload_n 0, 1, 0, 0, 0) := by decide +kernel
theorem f_420_356 : ftc (PT 420) 356 = some (356, .iload 4, 2, 0, 0, 0) := by decide +kernel
theorem f_420_358 : ftc (PT 420) 358 = some (358, .iconst 1, 1, 0, 0, 0) := by decide +kernel
theorem f_420_359 : ftc (PT 420) 359 = some (359, .iadd, 1, 0, 0, 0) := by decide +kernel
theorem f_420_360 : ftc (PT 420) 360 = some (360, .iaload, 1, 0, 0, 0) := by decide +kernel
theorem f_420_361 : ftc (PT 420) 361 = some (361, .aload_n 0, 1, 0, 0, 0) := by decide +kernel
theorem f_420_362 : ftc (PT 420) 362 = some (362, .iload 4, 2, 0, 0, 0) := by decide +kernel
theorem f_420_364 : ftc (PT 420) 364 = some (364, .iconst 2, 1, 0, 0, 0) := by decide +kernel
theorem f_420_365 : ftc (PT 420) 365 = some (365, .iadd, 1, 0, 0, 0) := by decide +kernel
theorem f_420_366 : ftc (PT 420) 366 = some (366, .iaload, 1, 0, 0, 0) := by decide +kernel
theorem f_420_367 : ftc (PT 420) 367 = some (367, .aload_n 0, 1, 0, 0, 0) := by decide +kernel
theorem f_420_368 : ftc (PT 420) 368 = some (368, .iload 4, 2, 0, 0, 0) := by decide +kernel
theorem f_420_370 : ftc (PT 420) 370 = some (370, .iconst 3, 1, 0, 0, 0) := by decide +kernel
theorem f_420_371 : ftc (PT 420) 371 = some (371, .iadd, 1, 0, 0, 0) := by decide +kernel
theorem f_420_372 : ftc (PT 420) 372 = some (372, .iaload, 1, 0, 0, 0) := by decide +kernel
theorem f_420_373 : ftc (PT 420) 373 = some (373, .invokevirtual 208, 3, 214, 4204, 1777) := by decide +kernel
theorem f_420_376 : ftc (PT 420) 376 = some (376, .istore 6, 2, 0, 0, 0) := by decide +kernel
theorem f_420_378 : ftc (PT 420) 378 = some (378, .aload_n 2, 1, 0, 0, 0) := by decide +kernel
theorem f_420_379 : ftc (PT 420) 379 = some (379, .invokevirtual 202, 3, 212, 1036, 1769) := by decide +kernel
theorem f_420_382 : ftc (PT 420) 382 = some (382, .iload 5, 2, 0, 0, 0) := by decide +kernel
theorem f_420_384 : ftc (PT 420) 384 = some (384, .if_icmp .eq 5, 3, 389, 0, 0) := by decide +kernel
theorem f_420_387 : ftc (PT 420) 387 = some (387, .iconst 0, 1, 0, 0, 0) := by decide +kernel
theorem f_420_388 : ftc (PT 420) 388 = some (388, .ireturn, 1, 1, 0, 0) := by decide +kernel
theorem f_420_389 : ftc (PT 420) 389 = some (389, .iload 5, 2, 0, 0, 0) := by decide +kernel
theorem f_420_391 : ftc (PT 420) 391 = some (391, .ifCond .ne 15, 3, 406, 0, 0) := by decide +kernel
theorem f_420_394 : ftc (PT 420) 394 = some (394, .aload_n 3, 1, 0, 0, 0) := by decide +kernel
theorem f_420_395 : ftc (PT 420) 395 = some (395, .iconst 0, 1, 0, 0, 0) := by decide +kernel
theorem f_420_396 : ftc (PT 420) 396 = some (396, .laload, 1, 0, 0, 0) := by decide +kernel
theorem f_420_397 : ftc (PT 420) 397 = some (397, .iload 6, 2, 0, 0, 0) := by decide +kernel
theorem f_420_399 : ftc (PT 420) 399 = some (399, .i2l, 1, 0, 0, 0) := by decide +kernel
theorem f_420_400 : ftc (PT 420) 400 = some (400, .lcmp, 1, 0, 0, 0) := by decide +kernel
theorem f_420_401 : ftc (PT 420) 401 = some (401, .ifCond .eq 5, 3, 406, 0, 0) := by decide +kernel
theorem f_420_404 : ftc (PT 420) 404 = some (404, .iconst 0, 1, 0, 0, 0) := by decide +kernel
theorem f_420_405 : ftc (PT 420) 405 = some (405, .ireturn, 1, 1, 0, 0) := by decide +kernel
theorem f_420_406 : ftc (PT 420) 406 = some (406, .goto 4511, 3, 4917, 0, 0) := by decide +kernel
theorem f_420_409 : ftc (PT 420) 409 = some (409, .aload_n 1, 1, 0, 0, 0) := by decide +kernel
theorem f_420_410 : ftc (PT 420) 410 = some (410, .aload_n 3, 1, 0, 0, 0) := by decide +kernel
theorem f_420_411 : ftc (PT 420) 411 = some (411, .invokestatic 209, 3, 369, 3074, 875) := by decide +kernel
theorem f_420_414 : ftc (PT 420) 414 = some (414, .istore 5, 2, 0, 0, 0) := by decide +kernel
theorem f_420_416 : ftc (PT 420) 416 = some (416, .aload_n 2, 1, 0, 0, 0) := by decide +kernel
theorem f_420_417 : ftc (PT 420) 417 = some (417, .invokevirtual 212, 3, 217, 1036, 1789) := by decide +kernel
theorem f_420_420 : ftc (PT 420) 420 = some (420, .istore 6, 2, 0, 0, 0) := by decide +kernel
theorem f_420_422 : ftc (PT 420) 422 = some (422, .aload_n 2, 1, 0, 0, 0) := by decide +kernel
theorem f_420_423 : ftc (PT 420) 423 = some (423, .invokevirtual 202, 3, 212, 1036, 1769) := by decide +kernel
theorem f_420_426 : ftc (PT 420) 426 = some (426, .iload 5, 2, 0, 0, 0) := by decide +kernel
theorem f_420_428 : ftc (PT 420) 428 = some (428, .if_icmp .eq 5, 3, 433, 0, 0) := by decide +kernel
theorem f_420_431 : ftc (PT 420) 431 = some (431, .iconst 0, 1, 0, 0, 0) := by decide +kernel
theorem f_420_432 : ftc (PT 420) 432 = some (432, .ireturn, 1, 1, 0, 0) := by decide +kernel
theorem f_420_433 : ftc (PT 420) 433 = some (433, .iload 5, 2, 0, 0, 0) := by decide +kernel
theorem f_420_435 : ftc (PT 420) 435 = some (435, .ifCond .ne 15, 3, 450, 0, 0) := by decide +kernel
theorem f_420_438 : ftc (PT 420) 438 = some (438, .aload_n 3, 1, 0, 0, 0) := by decide +kernel
theorem f_420_439 : ftc (PT 420) 439 = some (439, .iconst 0, 1, 0, 0, 0) := by decide +kernel
theorem f_420_440 : ftc (PT 420) 440 = some (440, .laload, 1, 0, 0, 0) := by decide +kernel
theorem f_420_441 : ftc (PT 420) 441 = some (441, .iload 6, 2, 0, 0, 0) := by decide +kernel
theorem f_420_443 : ftc (PT 420) 443 = some (443, .i2l, 1, 0, 0, 0) := by decide +kernel
theorem f_420_444 : ftc (PT 420) 444 = some (444, .lcmp, 1, 0, 0, 0) := by decide +kernel
theorem f_420_445 : ftc (PT 420) 445 = some (445, .ifCond .eq 5, 3, 450, 0, 0) := by decide +kernel
theorem f_420_448 : ftc (PT 420) 448 = some (448, .iconst 0, 1, 0, 0, 0) := by decide +kernel
theorem f_420_449 : ftc (PT 420) 449 = some (449, .ireturn, 1, 1, 0, 0) := by decide +kernel
theorem f_420_450 : ftc (PT 420) 450 = some (450, .goto 4467, 3, 4917, 0, 0) := by decide +kernel
theorem f_420_453 : ftc (PT 420) 453 = some (453, .aload_n 1, 1, 0, 0, 0) := by decide +kernel
theorem f_420_454 : ftc (PT 420) 454 = some (454, .aload_n 0, 1, 0, 0, 0) := by decide +kernel
theorem f_420_455 : ftc (PT 420) 455 = some (455, .iload 4, 2, 0, 0, 0) := by decide +kernel
theorem f_420_457 : ftc (PT 420) 457 = some (457, .iconst 1, 1, 0, 0, 0) := by decide +kernel
theorem f_420_458 : ftc (PT 420) 458 = some (458, .iadd, 1, 0, 0, 0) := by decide +kernel
theorem f_420_459 : ftc (PT 420) 459 = some (459, .iaload, 1, 0, 0, 0) := by decide +kernel
theorem f_420_460 : ftc (PT 420) 460 = some (460, .aload_n 0, 1, 0, 0, 0) := by decide +kernel
theorem f_420_461 : ftc (PT 420) 461 = some (461, .iload 4, 2, 0, 0, 0) := by decide +kernel
theorem f_420_463 : ftc (PT 420) 463 = some (463, .iconst 2, 1, 0, 0, 0) := by decide +kernel
theorem f_420_464 : ftc (PT 420) 464 = some (464, .iadd, 1, 0, 0, 0) := by decide +kernel
theorem f_420_465 : ftc (PT 420) 465 = some (465, .iaload, 1, 0, 0, 0) := by decide +kernel
theorem f_420_466 : ftc (PT 420) 466 = some (466, .aload_n 0, 1, 0, 0, 0) := by decide +kernel
theorem f_420_467 : ftc (PT 420) 467 = some (467, .iload 4, 2, 0, 0, 0) := by decide +kernel
theorem f_420_469 : ftc (PT 420) 469 = some (469, .iconst 3, 1, 0, 0, 0) := by decide +kernel
theorem f_420_470 : ftc (PT 420) 470 = some (470, .iadd, 1, 0, 0, 0) := by decide +kernel
theorem f_420_471 : ftc (PT 420) 471 = some (471, .iaload, 1, 0, 0, 0) := by decide +kernel
theorem f_420_472 : ftc (PT 420) 472 = some (472, .invokestatic 213, 3, 370, 5124, 882) := by decide +kernel
theorem f_420_475 : ftc (PT 420) 475 = some (475, .istore 5, 2, 0, 0, 0) := by decide +kernel
theorem f_420_477 : ftc (PT 420) 477 = some (477, .aload_n 2, 1, 0, 0, 0) := by decide +kernel
theorem f_420_478 : ftc (PT 420) 478 = some (478, .aload_n 0, 1, 0, 0, 0) := by decide +kernel
theorem f_420_479 : ftc (PT 420) 479 = some (479, .iload 4, 2, 0, 0, 0) := by decide +kernel
theorem f_420_481 : ftc (PT 420) 481 = some (481, .iconst 1, 1, 0, 0, 0) := by decide +kernel
theorem f_420_482 : ftc (PT 420) 482 = some (482, .iadd, 1, 0, 0, 0) := by decide +kernel
theorem f_420_483 : ftc (PT 420) 483 = some (483, .iaload, 1, 0, 0, 0) := by decide +kernel
theorem f_420_484 : ftc (PT 420) 484 = some (484, .aload_n 0, 1, 0, 0, 0) := by decide +kernel
theorem f_420_485 : ftc (PT 420) 485 = some (485, .iload 4, 2, 0, 0, 0) := by decide +kernel
theorem f_420_487 : ftc (PT 420) 487 = some (487, .iconst 2, 1, 0, 0, 0) := by decide +kernel
theorem f_420_488 : ftc (PT 420) 488 = some (488, .iadd, 1, 0, 0, 0) := by decide +kernel
theorem f_420_489 : ftc (PT 420) 489 = some (489, .iaload, 1, 0, 0, 0) := by decide +kernel
theorem f_420_490 : ftc (PT 420) 490 = some (490, .aload_n 0, 1, 0, 0, 0) := by decide +kernel
theorem f_420_491 : ftc (PT 420) 491 = some (491, .iload 4, 2, 0, 0, 0) := by decide +kernel
theorem f_420_493 : ftc (PT 420) 493 = some (493, .iconst 3, 1, 0, 0, 0) := by decide +kernel
theorem f_420_494 : ftc (PT 420) 494 = some (494, .iadd, 1, 0, 0, 0) := by decide +kernel
theorem f_420_495 : ftc (PT 420) 495 = some (495, .iaload, 1, 0, 0, 0) := by decide +kernel
theorem f_420_496 : ftc (PT 420) 496 = some (496, .invokevirtual 215, 3, 218, 4204, 1793) := by decide +kernel
theorem f_420_499 : ftc (PT 420) 499 = some (499, .pop, 1, 0, 0, 0) := by decide +kernel
theorem f_420_500 : ftc (PT 420) 500 = some (500, .aload_n 2, 1, 0, 0, 0) := by decide +kernel
theorem f_420_501 : ftc (PT 420) 501 = some (501, .invokevirtual 202, 3, 212, 1036, 1769) := by decide +kernel
theorem f_420_504 : ftc (PT 420) 504 = some (504, .iload 5, 2, 0, 0, 0) := by decide +kernel
theorem f_420_506 : ftc (PT 420) 506 = some (506, .if_icmp .eq 5, 3, 511, 0, 0) := by decide +kernel
theorem f_420_509 : ftc (PT 420) 509 = some (509, .iconst 0, 1, 0, 0, 0) := by decide +kernel
theorem f_420_510 : ftc (PT 420) 510 = some (510, .ireturn, 1, 1, 0, 0) := by decide +kernel
theorem f_420_511 : ftc (PT 420) 511 = some (511, .goto 4406, 3, 4917, 0, 0) := by decide +kernel
theorem f_420_514 : ftc (PT 420) 514 = some (514, .aload_n 1, 1, 0, 0, 0) := by decide +kernel
theorem f_420_515 : ftc (PT 420) 515 = some (515, .aload_n 0, 1, 0, 0, 0) := by decide +kernel
theorem f_420_516 : ftc (PT 420) 516 = some (516, .iload 4, 2, 0, 0, 0) := by decide +kernel
theorem f_420_518 : ftc (PT 420) 518 = some (518, .iconst 1, 1, 0, 0, 0) := by decide +kernel
theorem f_420_519 : ftc (PT 420) 519 = some (519, .iadd, 1, 0, 0, 0) := by decide +kernel
theorem f_420_520 : ftc (PT 420) 520 = some (520, .iaload, 1, 0, 0, 0) := by decide +kernel
theorem f_420_521 : ftc (PT 420) 521 = some (521, .aload_n 0, 1, 0, 0, 0) := by decide +kernel
theorem f_420_522 : ftc (PT 420) 522 = some (522, .iload 4, 2, 0, 0, 0) := by decide +kernel
theorem f_420_524 : ftc (PT 420) 524 = some (524, .iconst 2, 1, 0, 0, 0) := by decide +kernel
theorem f_420_525 : ftc (PT 420) 525 = some (525, .iadd, 1, 0, 0, 0) := by decide +kernel
theorem f_420_526 : ftc (PT 420) 526 = some (526, .iaload, 1, 0, 0, 0) := by decide +kernel
theorem f_420_527 : ftc (PT 420) 527 = some (527, .invokestatic 217, 3, 371, 4099, 913) := by decide +kernel
theorem f_420_530 : ftc (PT 420) 530 = some (530, .istore 5, 2, 0, 0, 0) := by decide +kernel
theorem f_420_532 : ftc (PT 420) 532 = some (532, .aload_n 2, 1, 0, 0, 0) := by decide +kernel
theorem f_420_533 : ftc (PT 420) 533 = some (533, .aload_n 0, 1, 0, 0, 0) := by decide +kernel
theorem f_420_534 : ftc (PT 420) 534 = some (534, .iload 4, 2, 0, 0, 0) := by decide +kernel
theorem f_420_536 : ftc (PT 420) 536 = some (536, .iconst 1, 1, 0, 0, 0) := by decide +kernel
theorem f_420_537 : ftc (PT 420) 537 = some (537, .iadd, 1, 0, 0, 0) := by decide +kernel
theorem f_420_538 : ftc (PT 420) 538 = some (538, .iaload, 1, 0, 0, 0) := by decide +kernel
theorem f_420_539 : ftc (PT 420) 539 = some (539, .aload_n 0, 1, 0, 0, 0) := by decide +kernel
theorem f_420_540 : ftc (PT 420) 540 = some (540, .iload 4, 2, 0, 0, 0) := by decide +kernel
theorem f_420_542 : ftc (PT 420) 542 = some (542, .iconst 2, 1, 0, 0, 0) := by decide +kernel
theorem f_420_543 : ftc (PT 420) 543 = some (543, .iadd, 1, 0, 0, 0) := by decide +kernel
theorem f_420_544 : ftc (PT 420) 544 = some (544, .iaload, 1, 0, 0, 0) := by decide +kernel
theorem f_420_545 : ftc (PT 420) 545 = some (545, .invokevirtual 220, 3, 221, 3148, 1805) := by decide +kernel
theorem f_420_548 : ftc (PT 420) 548 = some (548, .pop, 1, 0, 0, 0) := by decide +kernel
theorem f_420_549 : ftc (PT 420) 549 = some (549, .aload_n 2, 1, 0, 0, 0) := by decide +kernel
theorem f_420_550 : ftc (PT 420) 550 = some (550, .invokevirtual 202, 3, 212, 1036, 1769) := by decide +kernel
theorem f_420_553 : ftc (PT 420) 553 = some (553, .iload 5, 2, 0, 0, 0) := by decide +kernel
theorem f_420_555 : ftc (PT 420) 555 = some (555, .if_icmp .eq 5, 3, 560, 0, 0) := by decide +kernel
theorem f_420_558 : ftc (PT 420) 558 = some (558, .iconst 0, 1, 0, 0, 0) := by decide +kernel
theorem f_420_559 : ftc (PT 420) 559 = some (559, .ireturn, 1, 1, 0, 0) := by decide +kernel
theorem f_420_560 : ftc (PT 420) 560 = some (560, .goto 4357, 3, 4917, 0, 0) := by decide +kernel
theorem f_420_563 : ftc (PT 420) 563 = some (563, .aload_n 1, 1, 0, 0, 0) := by decide +kernel
theorem f_420_564 : ftc (PT 420) 564 = some (564, .aload_n 0, 1, 0, 0, 0) := by decide +kernel
theorem f_420_565 : ftc (PT 420) 565 = some (565, .iload 4, 2, 0, 0, 0) := by decide +kernel
theorem f_420_567 : ftc (PT 420) 567 = some (567, .iconst 1, 1, 0, 0, 0) := by decide +kernel
theorem f_420_568 : ftc (PT 420) 568 = some (568, .iadd, 1, 0, 0, 0) := by decide +kernel
theorem f_420_569 : ftc (PT 420) 569 = some (569, .iaload, 1, 0, 0, 0) := by decide +kernel
theorem f_420_570 : ftc (PT 420) 570 = some (570, .aload_n 0, 1, 0, 0, 0) := by decide +kernel
theorem f_420_571 : ftc (PT 420) 571 = some (571, .iload 4, 2, 0, 0, 0) := by decide +kernel
theorem f_420_573 : ftc (PT 420) 573 = some (573, .iconst 2, 1, 0, 0, 0) := by decide +kernel
theorem f_420_574 : ftc (PT 420) 574 = some (574, .iadd, 1, 0, 0, 0) := by decide +kernel
theorem f_420_575 : ftc (PT 420) 575 = some (575, .iaload, 1, 0, 0, 0) := by decide +kernel
theorem f_420_576 : ftc (PT 420) 576 = some (576, .aload_n 3, 1, 0, 0, 0) := by decide +kernel
theorem f_420_577 : ftc (PT 420) 577 = some (577, .invokestatic 222, 3, 372, 5124, 920) := by decide +kernel
theorem f_420_580 : ftc (PT 420) 580 = some (580, .istore 5, 2, 0, 0, 0) := by decide +kernel
theorem f_420_582 : ftc (PT 420) 582 = some (582, .aload_n 2, 1, 0, 0, 0) := by decide +kernel
theorem f_420_583 : ftc (PT 420) 583 = some (583, .aload_n 0, 1, 0, 0, 0) := by decide +kernel
theorem f_420_584 : ftc (PT 420) 584 = some (584, .iload 4, 2, 0, 0, 0) := by decide +kernel
theorem f_420_586 : ftc (PT 420) 586 = some (586, .iconst 1, 1, 0, 0, 0) := by decide +kernel
theorem f_420_587 : ftc (PT 420) 587 = some (587, .iadd, 1, 0, 0, 0) := by decide +kernel
theorem f_420_588 : ftc (PT 420) 588 = some (588, .iaload, 1, 0, 0, 0) := by decide +kernel
theorem f_420_589 : ftc (PT 420) 589 = some (589, .aload_n 0, 1, 0, 0, 0) := by decide +kernel
theorem f_420_590 : ftc (PT 420) 590 = some (590, .iload 4, 2, 0, 0, 0) := by decide +kernel
theorem f_420_592 : ftc (PT 420) 592 = some (592, .iconst 2, 1, 0, 0, 0) := by decide +kernel
theorem f_420_593 : ftc (PT 420) 593 = some (593, .iadd, 1, 0, 0, 0) := by decide +kernel
theorem f_420_594 : ftc (PT 420) 594 = some (594, .iaload, 1, 0, 0, 0) := by decide +kernel
theorem f_420_595 : ftc (PT 420) 595 = some (595, .invokevirtual 225, 3, 222, 3148, 1809) := by decide +kernel
theorem f_420_598 : ftc (PT 420) 598 = some (598, .istore 6, 2, 0, 0, 0) := by decide +kernel
theorem f_420_600 : ftc (PT 420) 600 = some (600, .aload_n 2, 1, 0, 0, 0) := by decide +kernel
theorem f_420_601 : ftc (PT 420) 601 = some (601, .invokevirtual 202, 3, 212, 1036, 1769) := by decide +kernel
theorem f_420_604 : ftc (PT 420) 604 = some (604, .iload 5, 2, 0, 0, 0) := by decide +kernel
theorem f_420_606 : ftc (PT 420) 606 = some (606, .if_icmp .eq 5, 3, 611, 0, 0) := by decide +kernel
theorem f_420_609 : ftc (PT 420) 609 = some (609, .iconst 0, 1, 0, 0, 0) := by decide +kernel
theorem f_420_610 : ftc (PT 420) 610 = some (610, .ireturn, 1, 1, 0, 0) := by decide +kernel
theorem f_420_611 : ftc (PT 420) 611 = some (611, .iload 5, 2, 0, 0, 0) := by decide +kernel
theorem f_420_613 : ftc (PT 420) 613 = some (613, .ifCond .ne 15, 3, 628, 0, 0) := by decide +kernel
theorem f_420_616 : ftc (PT 420) 616 = some (616, .aload_n 3, 1, 0, 0, 0) := by decide +kernel
theorem f_420_617 : ftc (PT 420) 617 = some (617, .iconst 0, 1, 0, 0, 0) := by decide +kernel
theorem f_420_618 : ftc (PT 420) 618 = some (618, .laload, 1, 0, 0, 0) := by decide +kernel
theorem f_420_619 : ftc (PT 420) 619 = some (619, .iload 6, 2, 0, 0, 0) := by decide +kernel
theorem f_420_621 : ftc (PT 420) 621 = some (621, .i2l, 1, 0, 0, 0) := by decide +kernel
theorem f_420_622 : ftc (PT 420) 622 = some (622, .lcmp, 1, 0, 0, 0) := by decide +kernel
theorem f_420_623 : ftc (PT 420) 623 = some (623, .ifCond .eq 5, 3, 628, 0, 0) := by decide +kernel
theorem f_420_626 : ftc (PT 420) 626 = some (626, .iconst 0, 1, 0, 0, 0) := by decide +kernel
theorem f_420_627 : ftc (PT 420) 627 = some (627, .ireturn, 1, 1, 0, 0) := by decide +kernel
theorem f_420_628 : ftc (PT 420) 628 = some (628, .goto 4289, 3, 4917, 0, 0) := by decide +kernel
theorem f_420_631 : ftc (PT 420) 631 = some (631, .aload_n 1, 1, 0, 0, 0) := by decide +kernel
theorem f_420_632 : ftc (PT 420) 632 = some (632, .aload_n 0, 1, 0, 0, 0) := by decide +kernel
theorem f_420_633 : ftc (PT 420) 633 = some (633, .iload 4, 2, 0, 0, 0) := by decide +kernel
theorem f_420_635 : ftc (PT 420) 635 = some (635, .iconst 1, 1, 0, 0, 0) := by decide +kernel
theorem f_420_636 : ftc (PT 420) 636 = some (636, .iadd, 1, 0, 0, 0) := by decide +kernel
theorem f_420_637 : ftc (PT 420) 637 = some (637, .iaload, 1, 0, 0, 0) := by decide +kernel
theorem f_420_638 : ftc (PT 420) 638 = some (638, .aload_n 0, 1, 0, 0, 0) := by decide +kernel
theorem f_420_639 : ftc (PT 420) 639 = some (639, .iload 4, 2, 0, 0, 0) := by decide +kernel
theorem f_420_641 : ftc (PT 420) 641 = some (641, .iconst 2, 1, 0, 0, 0) := by decide +kernel
theorem f_420_642 : ftc (PT 420) 642 = some (642, .iadd, 1, 0, 0, 0) := by decide +kernel
theorem f_420_643 : ftc (PT 420) 643 = some (643, .iaload, 1, 0, 0, 0) := by decide +kernel
theorem f_420_644 : ftc (PT 420) 644 = some (644, .ifCond .eq 7, 3, 651, 0, 0) := by decide +kernel
theorem f_420_647 : ftc (PT 420) 647 = some (647, .iconst 1, 1, 0, 0, 0) := by decide +kernel
theorem f_420_648 : ftc (PT 420) 648 = some (648, .goto 4, 3, 652, 0, 0) := by decide +kernel
theorem f_420_651 : ftc (PT 420) 651 = some (651, .iconst 0, 1, 0, 0, 0) := by decide +kernel
theorem f_420_652 : ftc (PT 420) 652 = some (652, .aload_n 0, 1, 0, 0, 0) := by decide +kernel
theorem f_420_653 : ftc (PT 420) 653 = some (653, .iload 4, 2, 0, 0, 0) := by decide +kernel
theorem f_420_655 : ftc (PT 420) 655 = some (655, .iconst 3, 1, 0, 0, 0) := by decide +kernel
theorem f_420_656 : ftc (PT 420) 656 = some (656, .iadd, 1, 0, 0, 0) := by decide +kernel
theorem f_420_657 : ftc (PT 420) 657 = some (657, .iaload, 1, 0, 0, 0) := by decide +kernel
theorem f_420_658 : ftc (PT 420) 658 = some (658, .ifCond .eq 7, 3, 665, 0, 0) := by decide +kernel
theorem f_420_661 : ftc (PT 420) 661 = some (661, .iconst 1, 1, 0, 0, 0) := by decide +kernel
theorem f_420_662 : ftc (PT 420) 662 = some (662, .goto 4, 3, 666, 0, 0) := by decide +kernel
theorem f_420_665 : ftc (PT 420) 665 = some (665, .iconst 0, 1, 0, 0, 0) := by decide +kernel
theorem f_420_666 : ftc (PT 420) 666 = some (666, .aload_n 3, 1, 0, 0, 0) := by decide +kernel
theorem f_420_667 : ftc (PT 420) 667 = some (667, .invokestatic 226, 3, 373, 6149, 947) := by decide +kernel
theorem f_420_670 : ftc (PT 420) 670 = some (670, .istore 5, 2, 0, 0, 0) := by decide +kernel
theorem f_420_672 : ftc (PT 420) 672 = some (672, .aload_n 2, 1, 0, 0, 0) := by decide +kernel
theorem f_420_673 : ftc (PT 420) 673 = some (673, .aload_n 0, 1, 0, 0, 0) := by decide +kernel
theorem f_420_674 : ftc (PT 420) 674 = some (674, .iload 4, 2, 0, 0, 0) := by decide +kernel
theorem f_420_676 : ftc (PT 420) 676 = some (676, .iconst 1, 1, 0, 0, 0) := by decide +kernel
theorem f_420_677 : ftc (PT 420) 677 = some (677, .iadd, 1, 0, 0, 0) := by decide +kernel
theorem f_420_678 : ftc (PT 420) 678 = some (678, .iaload, 1, 0, 0, 0) := by decide +kernel
theorem f_420_679 : ftc (PT 420) 679 = some (679, .aload_n 0, 1, 0, 0, 0) := by decide +kernel
theorem f_420_680 : ftc (PT 420) 680 = some (680, .iload 4, 2, 0, 0, 0) := by decide +kernel
theorem f_420_682 : ftc (PT 420) 682 = some (682, .iconst 2, 1, 0, 0, 0) := by decide +kernel
theorem f_420_683 : ftc (PT 420) 683 = some (683, .iadd, 1, 0, 0, 0) := by decide +kernel
theorem f_420_684 : ftc (PT 420) 684 = some (684, .iaload, 1, 0, 0, 0) := by decide +kernel
theorem f_420_685 : ftc (PT 420) 685 = some (685, .ifCond .eq 7, 3, 692, 0, 0) := by decide +kernel
theorem f_420_688 : ftc (PT 420) 688 = some (688, .iconst 1, 1, 0, 0, 0) := by decide +kernel
theorem f_420_689 : ftc (PT 420) 689 = some (689, .goto 4, 3, 693, 0, 0) := by decide +kernel
theorem f_420_692 : ftc (PT 420) 692 = some (692, .iconst 0, 1, 0, 0, 0) := by decide +kernel
theorem f_420_693 : ftc (PT 420) 693 = some (693, .aload_n 0, 1, 0, 0, 0) := by decide +kernel
theorem f_420_694 : ftc (PT 420) 694 = some (694, .iload 4, 2, 0, 0, 0) := by decide +kernel
theorem f_420_696 : ftc (PT 420) 696 = some (696, .iconst 3, 1, 0, 0, 0) := by decide +kernel
theorem f_420_697 : ftc (PT 420) 697 = some (697, .iadd, 1, 0, 0, 0) := by decide +kernel
theorem f_420_698 : ftc (PT 420) 698 = some (698, .iaload, 1, 0, 0, 0) := by decide +kernel
theorem f_420_699 : ftc (PT 420) 699 = some (699, .ifCond .eq 7, 3, 706, 0, 0) := by decide +kernel
theorem f_420_702 : ftc (PT 420) 702 = some (702, .iconst 1, 1, 0, 0, 0) := by decide +kernel
theorem f_420_703 : ftc (PT 420) 703 = some (703, .goto 4, 3, 707, 0, 0) := by decide +kernel
theorem f_420_706 : ftc (PT 420) 706 = some (706, .iconst 0, 1, 0, 0, 0) := by decide +kernel
theorem f_420_707 : ftc (PT 420) 707 = some (707, .invokevirtual 229, 3, 225, 6252, 1821) := by decide +kernel
theorem f_420_710 : ftc (PT 420) 710 = some (710, .lstore 6, 2, 0, 0, 0) := by decide +kernel
theorem f_420_712 : ftc (PT 420) 712 = some (712, .aload_n 2, 1, 0, 0, 0) := by decide +kernel
theorem f_420_713 : ftc (PT 420) 713 = some (713, .invokevirtual 202, 3, 212, 1036, 1769) := by decide +kernel
theorem f_420_716 : ftc (PT 420) 716 = some (716, .iload 5, 2, 0, 0, 0) := by decide +kernel
theorem f_420_718 : ftc (PT 420) 718 = some (718, .if_icmp .eq 5, 3, 723, 0, 0) := by decide +kernel
theorem f_420_721 : ftc (PT 420) 721 = some (721, .iconst 0, 1, 0, 0, 0) := by decide +kernel
theorem f_420_722 : ftc (PT 420) 722 = some (722, .ireturn, 1, 1, 0, 0) := by decide +kernel
theorem f_420_723 : ftc (PT 420) 723 = some (723, .iload 5, 2, 0, 0, 0) := by decide +kernel
theorem f_420_725 : ftc (PT 420) 725 = some (725, .ifCond .ne 14, 3, 739, 0, 0) := by decide +kernel
theorem f_420_728 : ftc (PT 420) 728 = some (728, .aload_n 3, 1, 0, 0, 0) := by decide +kernel
theorem f_420_729 : ftc (PT 420) 729 = some (729, .iconst 0, 1, 0, 0, 0) := by decide +kernel
theorem f_420_730 : ftc (PT 420) 730 = some (730, .laload, 1, 0, 0, 0) := by decide +kernel
theorem f_420_731 : ftc (PT 420) 731 = some (731, .lload 6, 2, 0, 0, 0) := by decide +kernel
theorem f_420_733 : ftc (PT 420) 733 = some (733, .lcmp, 1, 0, 0, 0) := by decide +kernel
theorem f_420_734 : ftc (PT 420) 734 = some (734, .ifCond .eq 5, 3, 739, 0, 0) := by decide +kernel
theorem f_420_737 : ftc (PT 420) 737 = some (737, .iconst 0, 1, 0, 0, 0) := by decide +kernel
theorem f_420_738 : ftc (PT 420) 738 = some (738, .ireturn, 1, 1, 0, 0) := by decide +kernel
theorem f_420_739 : ftc (PT 420) 739 = some (739, .goto 4178, 3, 4917, 0, 0) := by decide +kernel
theorem f_420_742 : ftc (PT 420) 742 = some (742, .aload_n 1, 1, 0, 0, 0) := by decide +kernel
theorem f_420_743 : ftc (PT 420) 743 = some (743, .aload_n 0, 1, 0, 0, 0) := by decide +kernel
theorem f_420_744 : ftc (PT 420) 744 = some (744, .iload 4, 2, 0, 0, 0) := by decide +kernel
theorem f_420_746 : ftc (PT 420) 746 = some (746, .iconst 1, 1, 0, 0, 0) := by decide +kernel
theorem f_420_747 : ftc (PT 420) 747 = some (747, .iadd, 1, 0, 0, 0) := by decide +kernel
theorem f_420_748 : ftc (PT 420) 748 = some (748, .iaload, 1, 0, 0, 0) := by decide +kernel
theorem f_420_749 : ftc (PT 420) 749 = some (749, .aload_n 3, 1, 0, 0, 0) := by decide +kernel
theorem f_420_750 : ftc (PT 420) 750 = some (750, .invokestatic 230, 3, 374, 4099, 978) := by decide +kernel
theorem f_420_753 : ftc (PT 420) 753 = some (753, .istore 5, 2, 0, 0, 0) := by decide +kernel
theorem f_420_755 : ftc (PT 420) 755 = some (755, .aload_n 2, 1, 0, 0, 0) := by decide +kernel
theorem f_420_756 : ftc (PT 420) 756 = some (756, .aload_n 0, 1, 0, 0, 0) := by decide +kernel
theorem f_420_757 : ftc (PT 420) 757 = some (757, .iload 4, 2, 0, 0, 0) := by decide +kernel
theorem f_420_759 : ftc (PT 420) 759 = some (759, .iconst 1, 1, 0, 0, 0) := by decide +kernel
theorem f_420_760 : ftc (PT 420) 760 = some (760, .iadd, 1, 0, 0, 0) := by decide +kernel
theorem f_420_761 : ftc (PT 420) 761 = some (761, .iaload, 1, 0, 0, 0) := by decide +kernel
theorem f_420_762 : ftc (PT 420) 762 = some (762, .invokevirtual 233, 3, 238, 2092, 1868) := by decide +kernel
theorem f_420_765 : ftc (PT 420) 765 = some (765, .istore 6, 2, 0, 0, 0) := by decide +kernel
theorem f_420_767 : ftc (PT 420) 767 = some (767, .aload_n 2, 1, 0, 0, 0) := by decide +kernel
theorem f_420_768 : ftc (PT 420) 768 = some (768, .invokevirtual 202, 3, 212, 1036, 1769) := by decide +kernel
theorem f_420_771 : ftc (PT 420) 771 = some (771, .iload 5, 2, 0, 0, 0) := by decide +kernel
theorem f_420_773 : ftc (PT 420) 773 = some (773, .if_icmp .eq 5, 3, 778, 0, 0) := by decide +kernel
theorem f_420_776 : ftc (PT 420) 776 = some (776, .iconst 0, 1, 0, 0, 0) := by decide +kernel
theorem f_420_777 : ftc (PT 420) 777 = some (777, .ireturn, 1, 1, 0, 0) := by decide +kernel
theorem f_420_778 : ftc (PT 420) 778 = some (778, .iload 5, 2, 0, 0, 0) := by decide +kernel
theorem f_420_780 : ftc (PT 420) 780 = some (780, .ifCond .ne 22, 3, 802, 0, 0) := by decide +kernel
theorem f_420_783 : ftc (PT 420) 783 = some (783, .aload_n 3, 1, 0, 0, 0) := by decide +kernel
theorem f_420_784 : ftc (PT 420) 784 = some (784, .iconst 0, 1, 0, 0, 0) := by decide +kernel
theorem f_420_785 : ftc (PT 420) 785 = some (785, .laload, 1, 0, 0, 0) := by decide +kernel
theorem f_420_786 : ftc (PT 420) 786 = some (786, .iload 6, 2, 0, 0, 0) := by decide +kernel
theorem f_420_788 : ftc (PT 420) 788 = some (788, .ifCond .eq 7, 3, 795, 0, 0) := by decide +kernel
theorem f_420_791 : ftc (PT 420) 791 = some (791, .lconst 1, 1, 0, 0, 0) := by decide +kernel
theorem f_420_792 : ftc (PT 420) 792 = some (792, .goto 4, 3, 796, 0, 0) := by decide +kernel
theorem f_420_795 : ftc (PT 420) 795 = some (795, .lconst 0, 1, 0, 0, 0) := by decide +kernel
theorem f_420_796 : ftc (PT 420) 796 = some (796, .lcmp, 1, 0, 0, 0) := by decide +kernel
theorem f_420_797 : ftc (PT 420) 797 = some (797, .ifCond .eq 5, 3, 802, 0, 0) := by decide +kernel
theorem f_420_800 : ftc (PT 420) 800 = some (800, .iconst 0, 1, 0, 0, 0) := by decide +kernel
theorem f_420_801 : ftc (PT 420) 801 = some (801, .ireturn, 1, 1, 0, 0) := by decide +kernel
theorem f_420_802 : ftc (PT 420) 802 = some (802, .goto 4115, 3, 4917, 0, 0) := by decide +kernel
theorem f_420_805 : ftc (PT 420) 805 = some (805, .aload_n 1, 1, 0, 0, 0) := by decide +kernel
theorem f_420_806 : ftc (PT 420) 806 = some (806, .aload_n 0, 1, 0, 0, 0) := by decide +kernel
theorem f_420_807 : ftc (PT 420) 807 = some (807, .iload 4, 2, 0, 0, 0) := by decide +kernel
theorem f_420_809 : ftc (PT 420) 809 = some (809, .iconst 1, 1, 0, 0, 0) := by decide +kernel
theorem f_420_810 : ftc (PT 420) 810 = some (810, .iadd, 1, 0, 0, 0) := by decide +kernel
theorem f_420_811 : ftc (PT 420) 811 = some (811, .iaload, 1, 0, 0, 0) := by decide +kernel
theorem f_420_812 : ftc (PT 420) 812 = some (812, .aload_n 0, 1, 0, 0, 0) := by decide +kernel
theorem f_420_813 : ftc (PT 420) 813 = some (813, .iload 4, 2, 0, 0, 0) := by decide +kernel
theorem f_420_815 : ftc (PT 420) 815 = some (815, .iconst 2, 1, 0, 0, 0) := by decide +kernel
theorem f_420_816 : ftc (PT 420) 816 = some (816, .iadd, 1, 0, 0, 0) := by decide +kernel
theorem f_420_817 : ftc (PT 420) 817 = some (817, .iaload, 1, 0, 0, 0) := by decide +kernel
theorem f_420_818 : ftc (PT 420) 818 = some (818, .ifCond .eq 7, 3, 825, 0, 0) := by decide +kernel
theorem f_420_821 : ftc (PT 420) 821 = some (821, .iconst 1, 1, 0, 0, 0) := by decide +kernel
theorem f_420_822 : ftc (PT 420) 822 = some (822, .goto 4, 3, 826, 0, 0) := by decide +kernel
theorem f_420_825 : ftc (PT 420) 825 = some (825, .iconst 0, 1, 0, 0, 0) := by decide +kernel
theorem f_420_826 : ftc (PT 420) 826 = some (826, .aload_n 3, 1, 0, 0, 0) := by decide +kernel
theorem f_420_827 : ftc (PT 420) 827 = some (827, .invokestatic 234, 3, 375, 5124, 985) := by decide +kernel
theorem f_420_830 : ftc (PT 420) 830 = some (830, .istore 5, 2, 0, 0, 0) := by decide +kernel
theorem f_420_832 : ftc (PT 420) 832 = some (832, .aload_n 2, 1, 0, 0, 0) := by decide +kernel
theorem f_420_833 : ftc (PT 420) 833 = some (833, .aload_n 0, 1, 0, 0, 0) := by decide +kernel
theorem f_420_834 : ftc (PT 420) 834 = some (834, .iload 4, 2, 0, 0, 0) := by decide +kernel
theorem f_420_836 : ftc (PT 420) 836 = some (836, .iconst 1, 1, 0, 0, 0) := by decide +kernel
theorem f_420_837 : ftc (PT 420) 837 = some (837, .iadd, 1, 0, 0, 0) := by decide +kernel
theorem f_420_838 : ftc (PT 420) 838 = some (838, .iaload, 1, 0, 0, 0) := by decide +kernel
theorem f_420_839 : ftc (PT 420) 839 = some (839, .aload_n 0, 1, 0, 0, 0) := by decide +kernel
theorem f_420_840 : ftc (PT 420) 840 = some (840, .iload 4, 2, 0, 0, 0) := by decide +kernel
theorem f_420_842 : ftc (PT 420) 842 = some (842, .iconst 2, 1, 0, 0, 0) := by decide +kernel
theorem f_420_843 : ftc (PT 420) 843 = some (843, .iadd, 1, 0, 0, 0) := by decide +kernel
theorem f_420_844 : ftc (PT 420) 844 = some (844, .iaload, 1, 0, 0, 0) := by decide +kernel
theorem f_420_845 : ftc (PT 420) 845 = some (845, .ifCond .eq 7, 3, 852, 0, 0) := by decide +kernel
theorem f_420_848 : ftc (PT 420) 848 = some (848, .iconst 1, 1, 0, 0, 0) := by decide +kernel
theorem f_420_849 : ftc (PT 420) 849 = some (849, .goto 4, 3, 853, 0, 0) := by decide +kernel
theorem f_420_852 : ftc (PT 420) 852 = some (852, .iconst 0, 1, 0, 0, 0) := by decide +kernel
theorem f_420_853 : ftc (PT 420) 853 = some (853, .invokevirtual 237, 3, 239, 3148, 1872) := by decide +kernel
theorem f_420_856 : ftc (PT 420) 856 = some (856, .lstore 6, 2, 0, 0, 0) := by decide +kernel
theorem f_420_858 : ftc (PT 420) 858 = some (858, .aload_n 2, 1, 0, 0, 0) := by decide +kernel
theorem f_420_859 : ftc (PT 420) 859 = some (859, .invokevirtual 202, 3, 212, 1036, 1769) := by decide +kernel
theorem f_420_862 : ftc (PT 420) 862 = some (862, .iload 5, 2, 0, 0, 0) := by decide +kernel
theorem f_420_864 : ftc (PT 420) 864 = some (864, .if_icmp .eq 5, 3, 869, 0, 0) := by decide +kernel
theorem f_420_867 : ftc (PT 420) 867 = some (867, .iconst 0, 1, 0, 0, 0) := by decide +kernel
theorem f_420_868 : ftc (PT 420) 868 = some (868, .ireturn, 1, 1, 0, 0) := by decide +kernel
theorem f_420_869 : ftc (PT 420) 869 = some (869, .iload 5, 2, 0, 0, 0) := by decide +kernel
theorem f_420_871 : ftc (PT 420) 871 = some (871, .ifCond .ne 14, 3, 885, 0, 0) := by decide +kernel
theorem f_420_874 : ftc (PT 420) 874 = some (874, .aload_n 3, 1, 0, 0, 0) := by decide +kernel
theorem f_420_875 : ftc (PT 420) 875 = some (875, .iconst 0, 1, 0, 0, 0) := by decide +kernel
theorem f_420_876 : ftc (PT 420) 876 = some (876, .laload, 1, 0, 0, 0) := by decide +kernel
theorem f_420_877 : ftc (PT 420) 877 = some (877, .lload 6, 2, 0, 0, 0) := by decide +kernel
theorem f_420_879 : ftc (PT 420) 879 = some (879, .lcmp, 1, 0, 0, 0) := by decide +kernel
theorem f_420_880 : ftc (PT 420) 880 = some (880, .ifCond .eq 5, 3, 885, 0, 0) := by decide +kernel
theorem f_420_883 : ftc (PT 420) 883 = some (883, .iconst 0, 1, 0, 0, 0) := by decide +kernel
theorem f_420_884 : ftc (PT 420) 884 = some (884, .ireturn, 1, 1, 0, 0) := by decide +kernel
theorem f_420_885 : ftc (PT 420) 885 = some (885, .goto 4032, 3, 4917, 0, 0) := by decide +kernel
theorem f_420_888 : ftc (PT 420) 888 = some (888, .aload_n 1, 1, 0, 0, 0) := by decide +kernel
theorem f_420_889 : ftc (PT 420) 889 = some (889, .aload_n 0, 1, 0, 0, 0) := by decide +kernel
theorem f_420_890 : ftc (PT 420) 890 = some (890, .iload 4, 2, 0, 0, 0) := by decide +kernel
theorem f_420_892 : ftc (PT 420) 892 = some (892, .iconst 1, 1, 0, 0, 0) := by decide +kernel
theorem f_420_893 : ftc (PT 420) 893 = some (893, .iadd, 1, 0, 0, 0) := by decide +kernel
theorem f_420_894 : ftc (PT 420) 894 = some (894, .iaload, 1, 0, 0, 0) := by decide +kernel
theorem f_420_895 : ftc (PT 420) 895 = some (895, .aload_n 0, 1, 0, 0, 0) := by decide +kernel
theorem f_420_896 : ftc (PT 420) 896 = some (896, .iload 4, 2, 0, 0, 0) := by decide +kernel
theorem f_420_898 : ftc (PT 420) 898 = some (898, .iconst 2, 1, 0, 0, 0) := by decide +kernel
theorem f_420_899 : ftc (PT 420) 899 = some (899, .iadd, 1, 0, 0, 0) := by decide +kernel
theorem f_420_900 : ftc (PT 420) 900 = some (900, .iaload, 1, 0, 0, 0) := by decide +kernel
theorem f_420_901 : ftc (PT 420) 901 = some (901, .ifCond .eq 7, 3, 908, 0, 0) := by decide +kernel
theorem f_420_904 : ftc (PT 420) 904 = some (904, .iconst 1, 1, 0, 0, 0) := by decide +kernel
theorem f_420_905 : ftc (PT 420) 905 = some (905, .goto 4, 3, 909, 0, 0) := by decide +kernel
theorem f_420_908 : ftc (PT 420) 908 = some (908, .iconst 0, 1, 0, 0, 0) := by decide +kernel
theorem f_420_909 : ftc (PT 420) 909 = some (909, .aload_n 3, 1, 0, 0, 0) := by decide +kernel
theorem f_420_910 : ftc (PT 420) 910 = some (910, .invokestatic 238, 3, 376, 5124, 992) := by decide +kernel
theorem f_420_913 : ftc (PT 420) 913 = some (913, .istore 5, 2, 0, 0, 0) := by decide +kernel
theorem f_420_915 : ftc (PT 420) 915 = some (915, .aload_n 2, 1, 0, 0, 0) := by decide +kernel
theorem f_420_916 : ftc (PT 420) 916 = some (916, .aload_n 0, 1, 0, 0, 0) := by decide +kernel
theorem f_420_917 : ftc (PT 420) 917 = some (917, .iload 4, 2, 0, 0, 0) := by decide +kernel
theorem f_420_919 : ftc (PT 420) 919 = some (919, .iconst 1, 1, 0, 0, 0) := by decide +kernel
theorem f_420_920 : ftc (PT 420) 920 = some (920, .iadd, 1, 0, 0, 0) := by decide +kernel
theorem f_420_921 : ftc (PT 420) 921 = some (921, .iaload, 1, 0, 0, 0) := by decide +kernel
theorem f_420_922 : ftc (PT 420) 922 = some (922, .aload_n 0, 1, 0, 0, 0) := by decide +kernel
theorem f_420_923 : ftc (PT 420) 923 = some (923, .iload 4, 2, 0, 0, 0) := by decide +kernel
theorem f_420_925 : ftc (PT 420) 925 = some (925, .iconst 2, 1, 0, 0, 0) := by decide +kernel
theorem f_420_926 : ftc (PT 420) 926 = some (926, .iadd, 1, 0, 0, 0) := by decide +kernel
theorem f_420_927 : ftc (PT 420) 927 = some (927, .iaload, 1, 0, 0, 0) := by decide +kernel
theorem f_420_928 : ftc (PT 420) 928 = some (928, .ifCond .eq 7, 3, 935, 0, 0) := by decide +kernel
theorem f_420_931 : ftc (PT 420) 931 = some (931, .iconst 1, 1, 0, 0, 0) := by decide +kernel
theorem f_420_932 : ftc (PT 420) 932 = some (932, .goto 4, 3, 936, 0, 0) := by decide +kernel
theorem f_420_935 : ftc (PT 420) 935 = some (935, .iconst 0, 1, 0, 0, 0) := by decide +kernel
theorem f_420_936 : ftc (PT 420) 936 = some (936, .invokevirtual 240, 3, 337, 6220, 2266) := by decide +kernel
theorem f_420_939 : ftc (PT 420) 939 = some (939, .istore 6, 2, 0, 0, 0) := by decide +kernel
theorem f_420_941 : ftc (PT 420) 941 = some (941, .aload_n 2, 1, 0, 0, 0) := by decide +kernel
theorem f_420_942 : ftc (PT 420) 942 = some (942, .invokevirtual 202, 3, 212, 1036, 1769) := by decide +kernel
theorem f_420_945 : ftc (PT 420) 945 = some (945, .iload 5, 2, 0, 0, 0) := by decide +kernel
theorem f_420_947 : ftc (PT 420) 947 = some (947, .if_icmp .eq 5, 3, 952, 0, 0) := by decide +kernel
theorem f_420_950 : ftc (PT 420) 950 = some (950, .iconst 0, 1, 0, 0, 0) := by decide +kernel
theorem f_420_951 : ftc (PT 420) 951 = some (951, .ireturn, 1, 1, 0, 0) := by decide +kernel
theorem f_420_952 : ftc (PT 420) 952 = some (952, .iload 5, 2, 0, 0, 0) := by decide +kernel
theorem f_420_954 : ftc (PT 420) 954 = some (954, .ifCond .ne 15, 3, 969, 0, 0) := by decide +kernel
theorem f_420_957 : ftc (PT 420) 957 = some (957, .aload_n 3, 1, 0, 0, 0) := by decide +kernel
theorem f_420_958 : ftc (PT 420) 958 = some (958, .iconst 0, 1, 0, 0, 0) := by decide +kernel
theorem f_420_959 : ftc (PT 420) 959 = some (959, .laload, 1, 0, 0, 0) := by decide +kernel
theorem f_420_960 : ftc (PT 420) 960 = some (960, .iload 6, 2, 0, 0, 0) := by decide +kernel
theorem f_420_962 : ftc (PT 420) 962 = some (962, .i2l, 1, 0, 0, 0) := by decide +kernel
theorem f_420_963 : ftc (PT 420) 963 = some (963, .lcmp, 1, 0, 0, 0) := by decide +kernel
theorem f_420_964 : ftc (PT 420) 964 = some (964, .ifCond .eq 5, 3, 969, 0, 0) := by decide +kernel
theorem f_420_967 : ftc (PT 420) 967 = some (967, .iconst 0, 1, 0, 0, 0) := by decide +kernel
theorem f_420_968 : ftc (PT 420) 968 = some (968, .ireturn, 1, 1, 0, 0) := by decide +kernel
theorem f_420_969 : ftc (PT 420) 969 = some (969, .goto 3948, 3, 4917, 0, 0) := by decide +kernel
theorem f_420_972 : ftc (PT 420) 972 = some (972, .aload_n 1, 1, 0, 0, 0) := by decide +kernel
theorem f_420_973 : ftc (PT 420) 973 = some (973, .aload_n 0, 1, 0, 0, 0) := by decide +kernel
theorem f_420_974 : ftc (PT 420) 974 = some (974, .iload 4, 2, 0, 0, 0) := by decide +kernel
theorem f_420_976 : ftc (PT 420) 976 = some (976, .iconst 1, 1, 0, 0, 0) := by decide +kernel
theorem f_420_977 : ftc (PT 420) 977 = some (977, .iadd, 1, 0, 0, 0) := by decide +kernel
theorem f_420_978 : ftc (PT 420) 978 = some (978, .iaload, 1, 0, 0, 0) := by decide +kernel
theorem f_420_979 : ftc (PT 420) 979 = some (979, .aload_n 0, 1, 0, 0, 0) := by decide +kernel
theorem f_420_980 : ftc (PT 420) 980 = some (980, .iload 4, 2, 0, 0, 0) := by decide +kernel
theorem f_420_982 : ftc (PT 420) 982 = some (982, .iconst 2, 1, 0, 0, 0) := by decide +kernel
theorem f_420_983 : ftc (PT 420) 983 = some (983, .iadd, 1, 0, 0, 0) := by decide +kernel
theorem f_420_984 : ftc (PT 420) 984 = some (984, .iaload, 1, 0, 0, 0) := by decide +kernel
theorem f_420_985 : ftc (PT 420) 985 = some (985, .ifCond .eq 7, 3, 992, 0, 0) := by decide +kernel
theorem f_420_988 : ftc (PT 420) 988 = some (988, .iconst 1, 1, 0, 0, 0) := by decide +kernel
theorem f_420_989 : ftc (PT 420) 989 = some (989, .goto 4, 3, 993, 0, 0) := by decide +kernel
theorem f_420_992 : ftc (PT 420) 992 = some (992, .iconst 0, 1, 0, 0, 0) := by decide +kernel
theorem f_420_993 : ftc (PT 420) 993 = some (993, .aload_n 3, 1, 0, 0, 0) := by decide +kernel
theorem f_420_994 : ftc (PT 420) 994 = some (994, .invokestatic 241, 3, 377, 5124, 1015) := by decide +kernel
theorem f_420_997 : ftc (PT 420) 997 = some (997, .istore 5, 2, 0, 0, 0) := by decide +kernel
theorem f_420_999 : ftc (PT 420) 999 = some (999, .aload_n 2, 1, 0, 0, 0) := by decide +kernel
theorem f_420_1000 : ftc (PT 420) 1000 = some (1000, .aload_n 0, 1, 0, 0, 0) := by decide +kernel
theorem f_420_1001 : ftc (PT 420) 1001 = some (1001, .iload 4, 2, 0, 0, 0) := by decide +kernel
theorem f_420_1003 : ftc (PT 420) 1003 = some (1003, .iconst 1, 1, 0, 0, 0) := by decide +kernel
theorem f_420_1004 : ftc (PT 420) 1004 = some (1004, .iadd, 1, 0, 0, 0) := by decide +kernel
theorem f_420_1005 : ftc (PT 420) 1005 = some (1005, .iaload, 1, 0, 0, 0) := by decide +kernel
theorem f_420_1006 : ftc (PT 420) 1006 = some (1006, .aload_n 0, 1, 0, 0, 0) := by decide +kernel
theorem f_420_1007 : ftc (PT 420) 1007 = some (1007, .iload 4, 2, 0, 0, 0) := by decide +kernel
theorem f_420_1009 : ftc (PT 420) 1009 = some (1009, .iconst 2, 1, 0, 0, 0) := by decide +kernel
theorem f_420_1010 : ftc (PT 420) 1010 = some (1010, .iadd, 1, 0, 0, 0) := by decide +kernel
theorem f_420_1011 : ftc (PT 420) 1011 = some (1011, .iaload, 1, 0, 0, 0) := by decide +kernel
theorem f_420_1012 : ftc (PT 420) 1012 = some (1012, .ifCond .eq 7, 3, 1019, 0, 0) := by decide +kernel
theorem f_420_1015 : ftc (PT 420) 1015 = some (1015, .iconst 1, 1, 0, 0, 0) := by decide +kernel
theorem f_420_1016 : ftc (PT 420) 1016 = some (1016, .goto 4, 3, 1020, 0, 0) := by decide +kernel
theorem f_420_1019 : ftc (PT 420) 1019 = some (1019, .iconst 0, 1, 0, 0, 0) := by decide +kernel
theorem f_420_1020 : ftc (PT 420) 1020 = some (1020, .invokevirtual 243, 3, 347, 3148, 2308) := by decide +kernel
theorem f_420_1023 : ftc (PT 420) 1023 = some (1023, .istore 6, 2, 0, 0, 0) := by decide +kernel
theorem f_420_1025 : ftc (PT 420) 1025 = some (1025, .aload_n 2, 1, 0, 0, 0) := by decide +kernel
theorem f_420_1026 : ftc (PT 420) 1026 = some (1026, .invokevirtual 202, 3, 212, 1036, 1769) := by decide +kernel
theorem f_420_1029 : ftc (PT 420) 1029 = some (1029, .iload 5, 2, 0, 0, 0) := by decide +kernel
theorem f_420_1031 : ftc (PT 420) 1031 = some (1031, .if_icmp .eq 5, 3, 1036, 0, 0) := by decide +kernel
theorem f_420_1034 : ftc (PT 420) 1034 = some (1034, .iconst 0, 1, 0, 0, 0) := by decide +kernel
theorem f_420_1035 : ftc (PT 420) 1035 = some (1035, .ireturn, 1, 1, 0, 0) := by decide +kernel
theorem f_420_1036 : ftc (PT 420) 1036 = some (1036, .iload 5, 2, 0, 0, 0) := by decide +kernel
theorem f_420_1038 : ftc (PT 420) 1038 = some (1038, .ifCond .ne 22, 3, 1060, 0, 0) := by decide +kernel
theorem f_420_1041 : ftc (PT 420) 1041 = some (1041, .aload_n 3, 1, 0, 0, 0) := by decide +kernel
theorem f_420_1042 : ftc (PT 420) 1042 = some (1042, .iconst 0, 1, 0, 0, 0) := by decide +kernel
theorem f_420_1043 : ftc (PT 420) 1043 = some (1043, .laload, 1, 0, 0, 0) := by decide +kernel
theorem f_420_1044 : ftc (PT 420) 1044 = some (1044, .iload 6, 2, 0, 0, 0) := by decide +kernel
theorem f_420_1046 : ftc (PT 420) 1046 = some (1046, .ifCond .eq 7, 3, 1053, 0, 0) := by decide +kernel
theorem f_420_1049 : ftc (PT 420) 1049 = some (1049, .lconst 1, 1, 0, 0, 0) := by decide +kernel
theorem f_420_1050 : ftc (PT 420) 1050 = some (1050, .goto 4, 3, 1054, 0, 0) := by decide +kernel
theorem f_420_1053 : ftc (PT 420) 1053 = some (1053, .lconst 0, 1, 0, 0, 0) := by decide +kernel
theorem f_420_1054 : ftc (PT 420) 1054 = some (1054, .lcmp, 1, 0, 0, 0) := by decide +kernel
theorem f_420_1055 : ftc (PT 420) 1055 = some (1055, .ifCond .eq 5, 3, 1060, 0, 0) := by decide +kernel
theorem f_420_1058 : ftc (PT 420) 1058 = some (1058, .iconst 0, 1, 0, 0, 0) := by decide +kernel
theorem f_420_1059 : ftc (PT 420) 1059 = some (1059, .ireturn, 1, 1, 0, 0) := by decide +kernel
theorem f_420_1060 : ftc (PT 420) 1060 = some (1060, .goto 3857, 3, 4917, 0, 0) := by decide +kernel
theorem f_420_1063 : ftc (PT 420) 1063 = some (1063, .aload_n 1, 1, 0, 0, 0) := by decide +kernel
theorem f_420_1064 : ftc (PT 420) 1064 = some (1064, .aload_n 0, 1, 0, 0, 0) := by decide +kernel
theorem f_420_1065 : ftc (PT 420) 1065 = some (1065, .iload 4, 2, 0, 0, 0) := by decide +kernel
theorem f_420_1067 : ftc (PT 420) 1067 = some (1067, .iconst 1, 1, 0, 0, 0) := by decide +kernel
theorem f_420_1068 : ftc (PT 420) 1068 = some (1068, .iadd, 1, 0, 0, 0) := by decide +kernel
theorem f_420_1069 : ftc (PT 420) 1069 = some (1069, .iaload, 1, 0, 0, 0) := by decide +kernel
theorem f_420_1070 : ftc (PT 420) 1070 = some (1070, .aload_n 0, 1, 0, 0, 0) := by decide +kernel
theorem f_420_1071 : ftc (PT 420) 1071 = some (1071, .iload 4, 2, 0, 0, 0) := by decide +kernel
theorem f_420_1073 : ftc (PT 420) 1073 = some (1073, .iconst 2, 1, 0, 0, 0) := by decide +kernel
theorem f_420_1074 : ftc (PT 420) 1074 = some (1074, .iadd, 1, 0, 0, 0) := by decide +kernel
theorem f_420_1075 : ftc (PT 420) 1075 = some (1075, .iaload, 1, 0, 0, 0) := by decide +kernel
theorem f_420_1076 : ftc (PT 420) 1076 = some (1076, .aload_n 0, 1, 0, 0, 0) := by decide +kernel
theorem f_420_1077 : ftc (PT 420) 1077 = some (1077, .iload 4, 2, 0, 0, 0) := by decide +kernel
theorem f_420_1079 : ftc (PT 420) 1079 = some (1079, .iconst 3, 1, 0, 0, 0) := by decide +kernel
theorem f_420_1080 : ftc (PT 420) 1080 = some (1080, .iadd, 1, 0, 0, 0) := by decide +kernel
theorem f_420_1081 : ftc (PT 420) 1081 = some (1081, .iaload, 1, 0, 0, 0) := by decide +kernel
theorem f_420_1082 : ftc (PT 420) 1082 = some (1082, .ifCond .eq 7, 3, 1089, 0, 0) := by decide +kernel
theorem f_420_1085 : ftc (PT 420) 1085 = some (1085, .iconst 1, 1, 0, 0, 0) := by decide +kernel
theorem f_420_1086 : ftc (PT 420) 1086 = some (1086, .goto 4, 3, 1090, 0, 0) := by decide +kernel
theorem f_420_1089 : ftc (PT 420) 1089 = some (1089, .iconst 0, 1, 0, 0, 0) := by decide +kernel
theorem f_420_1090 : ftc (PT 420) 1090 = some (1090, .aload_n 3, 1, 0, 0, 0) := by decide +kernel
theorem f_420_1091 : ftc (PT 420) 1091 = some (1091, .invokestatic 244, 3, 378, 6149, 1022) := by decide +kernel
theorem f_420_1094 : ftc (PT 420) 1094 = some (1094, .istore 5, 2, 0, 0, 0) := by decide +kernel
theorem f_420_1096 : ftc (PT 420) 1096 = some (1096, .aload_n 2, 1, 0, 0, 0) := by decide +kernel
theorem f_420_1097 : ftc (PT 420) 1097 = some (1097, .aload_n 0, 1, 0, 0, 0) := by decide +kernel
theorem f_420_1098 : ftc (PT 420) 1098 = some (1098, .iload 4, 2, 0, 0, 0) := by decide +kernel
theorem f_420_1100 : ftc (PT 420) 1100 = some (1100, .iconst 1, 1, 0, 0, 0) := by decide +kernel
theorem f_420_1101 : ftc (PT 420) 1101 = some (1101, .iadd, 1, 0, 0, 0) := by decide +kernel
theorem f_420_1102 : ftc (PT 420) 1102 = some (1102, .iaload, 1, 0, 0, 0) := by decide +kernel
theorem f_420_1103 : ftc (PT 420) 1103 = some (1103, .aload_n 0, 1, 0, 0, 0) := by decide +kernel
theorem f_420_1104 : ftc (PT 420) 1104 = some (1104, .iload 4, 2, 0, 0, 0) := by decide +kernel
theorem f_420_1106 : ftc (PT 420) 1106 = some (1106, .iconst 2, 1, 0, 0, 0) := by decide +kernel
theorem f_420_1107 : ftc (PT 420) 1107 = some (1107, .iadd, 1, 0, 0, 0) := by decide +kernel
theorem f_420_1108 : ftc (PT 420) 1108 = some (1108, .iaload, 1, 0, 0, 0) := by decide +kernel
theorem f_420_1109 : ftc (PT 420) 1109 = some (1109, .aload_n 0, 1, 0, 0, 0) := by decide +kernel
theorem f_420_1110 : ftc (PT 420) 1110 = some (1110, .iload 4, 2, 0, 0, 0) := by decide +kernel
theorem f_420_1112 : ftc (PT 420) 1112 = some (1112, .iconst 3, 1, 0, 0, 0) := by decide +kernel
theorem f_420_1113 : ftc (PT 420) 1113 = some (1113, .iadd, 1, 0, 0, 0) := by decide +kernel
theorem f_420_1114 : ftc (PT 420) 1114 = some (1114, .iaload, 1, 0, 0, 0) := by decide +kernel
theorem f_420_1115 : ftc (PT 420) 1115 = some (1115, .ifCond .eq 7, 3, 1122, 0, 0) := by decide +kernel
theorem f_420_1118 : ftc (PT 420) 1118 = some (1118, .iconst 1, 1, 0, 0, 0) := by decide +kernel
theorem f_420_1119 : ftc (PT 420) 1119 = some (1119, .goto 4, 3, 1123, 0, 0) := by decide +kernel
theorem f_420_1122 : ftc (PT 420) 1122 = some (1122, .iconst 0, 1, 0, 0, 0) := by decide +kernel
theorem f_420_1123 : ftc (PT 420) 1123 = some (1123, .invokevirtual 247, 3, 241, 6252, 1880) := by decide +kernel
theorem f_420_1126 : ftc (PT 420) 1126 = some (1126, .istore 6, 2, 0, 0, 0) := by decide +kernel
theorem f_420_1128 : ftc (PT 420) 1128 = some (1128, .aload_n 2, 1, 0, 0, 0) := by decide +kernel
theorem f_420_1129 : ftc (PT 420) 1129 = some (1129, .invokevirtual 202, 3, 212, 1036, 1769) := by decide +kernel
theorem f_420_1132 : ftc (PT 420) 1132 = some (1132, .iload 5, 2, 0, 0, 0) := by decide +kernel
theorem f_420_1134 : ftc (PT 420) 1134 = some (1134, .if_icmp .eq 5, 3, 1139, 0, 0) := by decide +kernel
theorem f_420_1137 : ftc (PT 420) 1137 = some (1137, .iconst 0, 1, 0, 0, 0) := by decide +kernel
theorem f_420_1138 : ftc (PT 420) 1138 = some (1138, .ireturn, 1, 1, 0, 0) := by decide +kernel
theorem f_420_1139 : ftc (PT 420) 1139 = some (1139, .iload 5, 2, 0, 0, 0) := by decide +kernel
theorem f_420_1141 : ftc (PT 420) 1141 = some (1141, .ifCond .ne 15, 3, 1156, 0, 0) := by decide +kernel
theorem f_420_1144 : ftc (PT 420) 1144 = some (1144, .aload_n 3, 1, 0, 0, 0) := by decide +kernel
theorem f_420_1145 : ftc (PT 420) 1145 = some (1145, .iconst 0, 1, 0, 0, 0) := by decide +kernel
theorem f_420_1146 : ftc (PT 420) 1146 = some (1146, .laload, 1, 0, 0, 0) := by decide +kernel
theorem f_420_1147 : ftc (PT 420) 1147 = some (1147, .iload 6, 2, 0, 0, 0) := by decide +kernel
theorem f_420_1149 : ftc (PT 420) 1149 = some (1149, .i2l, 1, 0, 0, 0) := by decide +kernel
theorem f_420_1150 : ftc (PT 420) 1150 = some (1150, .lcmp, 1, 0, 0, 0) := by decide +kernel
theorem f_420_1151 : ftc (PT 420) 1151 = some (1151, .ifCond .eq 5, 3, 1156, 0, 0) := by decide +kernel
theorem f_420_1154 : ftc (PT 420) 1154 = some (1154, .iconst 0, 1, 0, 0, 0) := by decide +kernel
theorem f_420_1155 : ftc (PT 420) 1155 = some (1155, .ireturn, 1, 1, 0, 0) := by decide +kernel
theorem f_420_1156 : ftc (PT 420) 1156 = some (1156, .goto 3761, 3, 4917, 0, 0) := by decide +kernel
theorem f_420_1159 : ftc (PT 420) 1159 = some (1159, .aload_n 1, 1, 0, 0, 0) := by decide +kernel
theorem f_420_1160 : ftc (PT 420) 1160 = some (1160, .aload_n 0, 1, 0, 0, 0) := by decide +kernel
theorem f_420_1161 : ftc (PT 420) 1161 = some (1161, .iload 4, 2, 0, 0, 0) := by decide +kernel
theorem f_420_1163 : ftc (PT 420) 1163 = some (1163, .iconst 1, 1, 0, 0, 0) := by decide +kernel
theorem f_420_1164 : ftc (PT 420) 1164 = some (1164, .iadd, 1, 0, 0, 0) := by decide +kernel
theorem f_420_1165 : ftc (PT 420) 1165 = some (1165, .iaload, 1, 0, 0, 0) := by decide +kernel
theorem f_420_1166 : ftc (PT 420) 1166 = some (1166, .aload_n 0, 1, 0, 0, 0) := by decide +kernel
theorem f_420_1167 : ftc (PT 420) 1167 = some (1167, .iload 4, 2, 0, 0, 0) := by decide +kernel
theorem f_420_1169 : ftc (PT 420) 1169 = some (1169, .iconst 2, 1, 0, 0, 0) := by decide +kernel
theorem f_420_1170 : ftc (PT 420) 1170 = some (1170, .iadd, 1, 0, 0, 0) := by decide +kernel
theorem f_420_1171 : ftc (PT 420) 1171 = some (1171, .iaload, 1, 0, 0, 0) := by decide +kernel
theorem f_420_1172 : ftc (PT 420) 1172 = some (1172, .aload_n 0, 1, 0, 0, 0) := by decide +kernel
theorem f_420_1173 : ftc (PT 420) 1173 = some (1173, .iload 4, 2, 0, 0, 0) := by decide +kernel
theorem f_420_1175 : ftc (PT 420) 1175 = some (1175, .iconst 3, 1, 0, 0, 0) := by decide +kernel
theorem f_420_1176 : ftc (PT 420) 1176 = some (1176, .iadd, 1, 0, 0, 0) := by decide +kernel
theorem f_420_1177 : ftc (PT 420) 1177 = some (1177, .iaload, 1, 0, 0, 0) := by decide +kernel
theorem f_420_1178 : ftc (PT 420) 1178 = some (1178, .aload_n 0, 1, 0, 0, 0) := by decide +kernel
theorem f_420_1179 : ftc (PT 420) 1179 = some (1179, .iload 4, 2, 0, 0, 0) := by decide +kernel
theorem f_420_1181 : ftc (PT 420) 1181 = some (1181, .iconst 4, 1, 0, 0, 0) := by decide +kernel
theorem f_420_1182 : ftc (PT 420) 1182 = some (1182, .iadd, 1, 0, 0, 0) := by decide +kernel
theorem f_420_1183 : ftc (PT 420) 1183 = some (1183, .iaload, 1, 0, 0, 0) := by decide +kernel
theorem f_420_1184 : ftc (PT 420) 1184 = some (1184, .ifCond .eq 7, 3, 1191, 0, 0) := by decide +kernel
theorem f_420_1187 : ftc (PT 420) 1187 = some (1187, .iconst 1, 1, 0, 0, 0) := by decide +kernel
theorem f_420_1188 : ftc (PT 420) 1188 = some (1188, .goto 4, 3, 1192, 0, 0) := by decide +kernel
theorem f_420_1191 : ftc (PT 420) 1191 = some (1191, .iconst 0, 1, 0, 0, 0) := by decide +kernel
theorem f_420_1192 : ftc (PT 420) 1192 = some (1192, .aload_n 3, 1, 0, 0, 0) := by decide +kernel
theorem f_420_1193 : ftc (PT 420) 1193 = some (1193, .invokestatic 248, 3, 379, 7174, 1032) := by decide +kernel
theorem f_420_1196 : ftc (PT 420) 1196 = some (1196, .istore 5, 2, 0, 0, 0) := by decide +kernel
theorem f_420_1198 : ftc (PT 420) 1198 = some (1198, .aload_n 2, 1, 0, 0, 0) := by decide +kernel
theorem f_420_1199 : ftc (PT 420) 1199 = some (1199, .aload_n 0, 1, 0, 0, 0) := by decide +kernel
theorem f_420_1200 : ftc (PT 420) 1200 = some (1200, .iload 4, 2, 0, 0, 0) := by decide +kernel
theorem f_420_1202 : ftc (PT 420) 1202 = some (1202, .iconst 1, 1, 0, 0, 0) := by decide +kernel
theorem f_420_1203 : ftc (PT 420) 1203 = some (1203, .iadd, 1, 0, 0, 0) := by decide +kernel
theorem f_420_1204 : ftc (PT 420) 1204 = some (1204, .iaload, 1, 0, 0, 0) := by decide +kernel
theorem f_420_1205 : ftc (PT 420) 1205 = some (1205, .aload_n 0, 1, 0, 0, 0) := by decide +kernel
theorem f_420_1206 : ftc (PT 420) 1206 = some (1206, .iload 4, 2, 0, 0, 0) := by decide +kernel
theorem f_420_1208 : ftc (PT 420) 1208 = some (1208, .iconst 2, 1, 0, 0, 0) := by decide +kernel
theorem f_420_1209 : ftc (PT 420) 1209 = some (1209, .iadd, 1, 0, 0, 0) := by decide +kernel
theorem f_420_1210 : ftc (PT 420) 1210 = some (1210, .iaload, 1, 0, 0, 0) := by decide +kernel
theorem f_420_1211 : ftc (PT 420) 1211 = some (1211, .aload_n 0, 1, 0, 0, 0) := by decide +kernel
theorem f_420_1212 : ftc (PT 420) 1212 = some (1212, .iload 4, 2, 0, 0, 0) := by decide +kernel
theorem f_420_1214 : ftc (PT 420) 1214 = some (1214, .iconst 3, 1, 0, 0, 0) := by decide +kernel
theorem f_420_1215 : ftc (PT 420) 1215 = some (1215, .iadd, 1, 0, 0, 0) := by decide +kernel
theorem f_420_1216 : ftc (PT 420) 1216 = some (1216, .iaload, 1, 0, 0, 0) := by decide +kernel
theorem f_420_1217 : ftc (PT 420) 1217 = some (1217, .aload_n 0, 1, 0, 0, 0) := by decide +kernel
theorem f_420_1218 : ftc (PT 420) 1218 = some (1218, .iload 4, 2, 0, 0, 0) := by decide +kernel
theorem f_420_1220 : ftc (PT 420) 1220 = some (1220, .iconst 4, 1, 0, 0, 0) := by decide +kernel
theorem f_420_1221 : ftc (PT 420) 1221 = some (1221, .iadd, 1, 0, 0, 0) := by decide +kernel
theorem f_420_1222 : ftc (PT 420) 1222 = some (1222, .iaload, 1, 0, 0, 0) := by decide +kernel
theorem f_420_1223 : ftc (PT 420) 1223 = some (1223, .ifCond .eq 7, 3, 1230, 0, 0) := by decide +kernel
theorem f_420_1226 : ftc (PT 420) 1226 = some (1226, .iconst 1, 1, 0, 0, 0) := by decide +kernel
theorem f_420_1227 : ftc (PT 420) 1227 = some (1227, .goto 4, 3, 1231, 0, 0) := by decide +kernel
theorem f_420_1230 : ftc (PT 420) 1230 = some (1230, .iconst 0, 1, 0, 0, 0) := by decide +kernel
theorem f_420_1231 : ftc (PT 420) 1231 = some (1231, .invokevirtual 251, 3, 244, 5260, 1892) := by decide +kernel
theorem f_420_1234 : ftc (PT 420) 1234 = some (1234, .istore 6, 2, 0, 0, 0) := by decide +kernel
theorem f_420_1236 : ftc (PT 420) 1236 = some (1236, .aload_n 2, 1, 0, 0, 0) := by decide +kernel
theorem f_420_1237 : ftc (PT 420) 1237 = some (1237, .invokevirtual 202, 3, 212, 1036, 1769) := by decide +kernel
theorem f_420_1240 : ftc (PT 420) 1240 = some (1240, .iload 5, 2, 0, 0, 0) := by decide +kernel
theorem f_420_1242 : ftc (PT 420) 1242 = some (1242, .if_icmp .eq 5, 3, 1247, 0, 0) := by decide +kernel
theorem f_420_1245 : ftc (PT 420) 1245 = some (1245, .iconst 0, 1, 0, 0, 0) := by decide +kernel
theorem f_420_1246 : ftc (PT 420) 1246 = some (1246, .ireturn, 1, 1, 0, 0) := by decide +kernel
theorem f_420_1247 : ftc (PT 420) 1247 = some (1247, .iload 5, 2, 0, 0, 0) := by decide +kernel
theorem f_420_1249 : ftc (PT 420) 1249 = some (1249, .ifCond .ne 15, 3, 1264, 0, 0) := by decide +kernel
theorem f_420_1252 : ftc (PT 420) 1252 = some (1252, .aload_n 3, 1, 0, 0, 0) := by decide +kernel
theorem f_420_1253 : ftc (PT 420) 1253 = some (1253, .iconst 0, 1, 0, 0, 0) := by decide +kernel
theorem f_420_1254 : ftc (PT 420) 1254 = some (1254, .laload, 1, 0, 0, 0) := by decide +kernel
theorem f_420_1255 : ftc (PT 420) 1255 = some (1255, .iload 6, 2, 0, 0, 0) := by decide +kernel
theorem f_420_1257 : ftc (PT 420) 1257 = some (1257, .i2l, 1, 0, 0, 0) := by decide +kernel
theorem f_420_1258 : ftc (PT 420) 1258 = some (1258, .lcmp, 1, 0, 0, 0) := by decide +kernel
theorem f_420_1259 : ftc (PT 420) 1259 = some (1259, .ifCond .eq 5, 3, 1264, 0, 0) := by decide +kernel
theorem f_420_1262 : ftc (PT 420) 1262 = some (1262, .iconst 0, 1, 0, 0, 0) := by decide +kernel
theorem f_420_1263 : ftc (PT 420) 1263 = some (1263, .ireturn, 1, 1, 0, 0) := by decide +kernel
theorem f_420_1264 : ftc (PT 420) 1264 = some (1264, .goto 3653, 3, 4917, 0, 0) := by decide +kernel
theorem f_420_1267 : ftc (PT 420) 1267 = some (1267, .aload_n 1, 1, 0, 0, 0) := by decide +kernel
theorem f_420_1268 : ftc (PT 420) 1268 = some (1268, .aload_n 0, 1, 0, 0, 0) := by decide +kernel
theorem f_420_1269 : ftc (PT 420) 1269 = some (1269, .iload 4, 2, 0, 0, 0) := by decide +kernel
theorem f_420_1271 : ftc (PT 420) 1271 = some (1271, .iconst 1, 1, 0, 0, 0) := by decide +kernel
theorem f_420_1272 : ftc (PT 420) 1272 = some (1272, .iadd, 1, 0, 0, 0) := by decide +kernel
theorem f_420_1273 : ftc (PT 420) 1273 = some (1273, .iaload, 1, 0, 0, 0) := by decide +kernel
theorem f_420_1274 : ftc (PT 420) 1274 = some (1274, .aload_n 0, 1, 0, 0, 0) := by decide +kernel
theorem f_420_1275 : ftc (PT 420) 1275 = some (1275, .iload 4, 2, 0, 0, 0) := by decide +kernel
theorem f_420_1277 : ftc (PT 420) 1277 = some (1277, .iconst 2, 1, 0, 0, 0) := by decide +kernel
theorem f_420_1278 : ftc (PT 420) 1278 = some (1278, .iadd, 1, 0, 0, 0) := by decide +kernel
theorem f_420_1279 : ftc (PT 420) 1279 = some (1279, .iaload, 1, 0, 0, 0) := by decide +kernel
theorem f_420_1280 : ftc (PT 420) 1280 = some (1280, .aload_n 0, 1, 0, 0, 0) := by decide +kernel
theorem f_420_1281 : ftc (PT 420) 1281 = some (1281, .iload 4, 2, 0, 0, 0) := by decide +kernel
theorem f_420_1283 : ftc (PT 420) 1283 = some (1283, .iconst 3, 1, 0, 0, 0) := by decide +kernel
theorem f_420_1284 : ftc (PT 420) 1284 = some (1284, .iadd, 1, 0, 0, 0) := by decide +kernel
theorem f_420_1285 : ftc (PT 420) 1285 = some (1285, .iaload, 1, 0, 0, 0) := by decide +kernel
theorem f_420_1286 : ftc (PT 420) 1286 = some (1286, .aload_n 0, 1, 0, 0, 0) := by decide +kernel
theorem f_420_1287 : ftc (PT 420) 1287 = some (1287, .iload 4, 2, 0, 0, 0) := by decide +kernel
theorem f_420_1289 : ftc (PT 420) 1289 = some (1289, .iconst 4, 1, 0, 0, 0) := by decide +kernel
theorem f_420_1290 : ftc (PT 420) 1290 = some (1290, .iadd, 1, 0, 0, 0) := by decide +kernel
theorem f_420_1291 : ftc (PT 420) 1291 = some (1291, .iaload, 1, 0, 0, 0) := by decide +kernel
theorem f_420_1292 : ftc (PT 420) 1292 = some (1292, .aload_n 0, 1, 0, 0, 0) := by decide +kernel
theorem f_420_1293 : ftc (PT 420) 1293 = some (1293, .iload 4, 2, 0, 0, 0) := by decide +kernel
theorem f_420_1295 : ftc (PT 420) 1295 = some (1295, .iconst 5, 1, 0, 0, 0) := by decide +kernel
theorem f_420_1296 : ftc (PT 420) 1296 = some (1296, .iadd, 1, 0, 0, 0) := by decide +kernel
theorem f_420_1297 : ftc (PT 420) 1297 = some (1297, .iaload, 1, 0, 0, 0) := by decide +kernel
theorem f_420_1298 : ftc (PT 420) 1298 = some (1298, .ifCond .eq 7, 3, 1305, 0, 0) := by decide +kernel
theorem f_420_1301 : ftc (PT 420) 1301 = some (1301, .iconst 1, 1, 0, 0, 0) := by decide +kernel
theorem f_420_1302 : ftc (PT 420) 1302 = some (1302, .goto 4, 3, 1306, 0, 0) := by decide +kernel
theorem f_420_1305 : ftc (PT 420) 1305 = some (1305, .iconst 0, 1, 0, 0, 0) := by decide +kernel
theorem f_420_1306 : ftc (PT 420) 1306 = some (1306, .aload_n 3, 1, 0, 0, 0) := by decide +kernel
theorem f_420_1307 : ftc (PT 420) 1307 = some (1307, .invokestatic 252, 3, 380, 8199, 1039) := by decide +kernel
theorem f_420_1310 : ftc (PT 420) 1310 = some (1310, .istore 5, 2, 0, 0, 0) := by decide +kernel
theorem f_420_1312 : ftc (PT 420) 1312 = some (1312, .aload_n 2, 1, 0, 0, 0) := by decide +kernel
theorem f_420_1313 : ftc (PT 420) 1313 = some (1313, .aload_n 0, 1, 0, 0, 0) := by decide +kernel
theorem f_420_1314 : ftc (PT 420) 1314 = some (1314, .iload 4, 2, 0, 0, 0) := by decide +kernel
theorem f_420_1316 : ftc (PT 420) 1316 = some (1316, .iconst 1, 1, 0, 0, 0) := by decide +kernel
theorem f_420_1317 : ftc (PT 420) 1317 = some (1317, .iadd, 1, 0, 0, 0) := by decide +kernel
theorem f_420_1318 : ftc (PT 420) 1318 = some (1318, .iaload, 1, 0, 0, 0) := by decide +kernel
theorem f_420_1319 : ftc (PT 420) 1319 = some (1319, .aload_n 0, 1, 0, 0, 0) := by decide +kernel
theorem f_420_1320 : ftc (PT 420) 1320 = some (1320, .iload 4, 2, 0, 0, 0) := by decide +kernel
theorem f_420_1322 : ftc (PT 420) 1322 = some (1322, .iconst 2, 1, 0, 0, 0) := by decide +kernel
theorem f_420_1323 : ftc (PT 420) 1323 = some (1323, .iadd, 1, 0, 0, 0) := by decide +kernel
theorem f_420_1324 : ftc (PT 420) 1324 = some (1324, .iaload, 1, 0, 0, 0) := by decide +kernel
theorem f_420_1325 : ftc (PT 420) 1325 = some (1325, .aload_n 0, 1, 0, 0, 0) := by decide +kernel
theorem f_420_1326 : ftc (PT 420) 1326 = some (1326, .iload 4, 2, 0, 0, 0) := by decide +kernel
theorem f_420_1328 : ftc (PT 420) 1328 = some (1328, .iconst 3, 1, 0, 0, 0) := by decide +kernel
theorem f_420_1329 : ftc (PT 420) 1329 = some (1329, .iadd, 1, 0, 0, 0) := by decide +kernel
theorem f_420_1330 : ftc (PT 420) 1330 = some (1330, .iaload, 1, 0, 0, 0) := by decide +kernel
theorem f_420_1331 : ftc (PT 420) 1331 = some (1331, .aload_n 0, 1, 0, 0, 0) := by decide +kernel
theorem f_420_1332 : ftc (PT 420) 1332 = some (1332, .iload 4, 2, 0, 0, 0) := by decide +kernel
theorem f_420_1334 : ftc (PT 420) 1334 = some (1334, .iconst 4, 1, 0, 0, 0) := by decide +kernel
theorem f_420_1335 : ftc (PT 420) 1335 = some (1335, .iadd, 1, 0, 0, 0) := by decide +kernel
theorem f_420_1336 : ftc (PT 420) 1336 = some (1336, .iaload, 1, 0, 0, 0) := by decide +kernel
theorem f_420_1337 : ftc (PT 420) 1337 = some (1337, .aload_n 0, 1, 0, 0, 0) := by decide +kernel
theorem f_420_1338 : ftc (PT 420) 1338 = some (1338, .iload 4, 2, 0, 0, 0) := by decide +kernel
theorem f_420_1340 : ftc (PT 420) 1340 = some (1340, .iconst 5, 1, 0, 0, 0) := by decide +kernel
theorem f_420_1341 : ftc (PT 420) 1341 = some (1341, .iadd, 1, 0, 0, 0) := by decide +kernel
theorem f_420_1342 : ftc (PT 420) 1342 = some (1342, .iaload, 1, 0, 0, 0) := by decide +kernel
theorem f_420_1343 : ftc (PT 420) 1343 = some (1343, .ifCond .eq 7, 3, 1350, 0, 0) := by decide +kernel
theorem f_420_1346 : ftc (PT 420) 1346 = some (1346, .iconst 1, 1, 0, 0, 0) := by decide +kernel
theorem f_420_1347 : ftc (PT 420) 1347 = some (1347, .goto 4, 3, 1351, 0, 0) := by decide +kernel
theorem f_420_1350 : ftc (PT 420) 1350 = some (1350, .iconst 0, 1, 0, 0, 0) := by decide +kernel
theorem f_420_1351 : ftc (PT 420) 1351 = some (1351, .invokevirtual 255, 3, 248, 6316, 1908) := by decide +kernel
theorem f_420_1354 : ftc (PT 420) 1354 = some (1354, .istore 6, 2, 0, 0, 0) := by decide +kernel
theorem f_420_1356 : ftc (PT 420) 1356 = some (1356, .aload_n 2, 1, 0, 0, 0) := by decide +kernel
theorem f_420_1357 : ftc (PT 420) 1357 = some (1357, .invokevirtual 202, 3, 212, 1036, 1769) := by decide +kernel
theorem f_420_1360 : ftc (PT 420) 1360 = some (1360, .iload 5, 2, 0, 0, 0) := by decide +kernel
theorem f_420_1362 : ftc (PT 420) 1362 = some (1362, .if_icmp .eq 5, 3, 1367, 0, 0) := by decide +kernel
theorem f_420_1365 : ftc (PT 420) 1365 = some (1365, .iconst 0, 1, 0, 0, 0) := by decide +kernel
theorem f_420_1366 : ftc (PT 420) 1366 = some (1366, .ireturn, 1, 1, 0, 0) := by decide +kernel
theorem f_420_1367 : ftc (PT 420) 1367 = some (1367, .iload 5, 2, 0, 0, 0) := by decide +kernel
theorem f_420_1369 : ftc (PT 420) 1369 = some (1369, .ifCond .ne 15, 3, 1384, 0, 0) := by decide +kernel
theorem f_420_1372 : ftc (PT 420) 1372 = some (1372, .aload_n 3, 1, 0, 0, 0) := by decide +kernel
theorem f_420_1373 : ftc (PT 420) 1373 = some (1373, .iconst 0, 1, 0, 0, 0) := by decide +kernel
theorem f_420_1374 : ftc (PT 420) 1374 = some (1374, .laload, 1, 0, 0, 0) := by decide +kernel
theorem f_420_1375 : ftc (PT 420) 1375 = some (1375, .iload 6, 2, 0, 0, 0) := by decide +kernel
theorem f_420_1377 : ftc (PT 420) 1377 = some (1377, .i2l, 1, 0, 0, 0) := by decide +kernel
theorem f_420_1378 : ftc (PT 420) 1378 = some (1378, .lcmp, 1, 0, 0, 0) := by decide +kernel
theorem f_420_1379 : ftc (PT 420) 1379 = some (1379, .ifCond .eq 5, 3, 1384, 0, 0) := by decide +kernel
theorem f_420_1382 : ftc (PT 420) 1382 = some (1382, .iconst 0, 1, 0, 0, 0) := by decide +kernel
theorem f_420_1383 : ftc (PT 420) 1383 = some (1383, .ireturn, 1, 1, 0, 0) := by decide +kernel
theorem f_420_1384 : ftc (PT 420) 1384 = some (1384, .goto 3533, 3, 4917, 0, 0) := by decide +kernel
theorem f_420_1387 : ftc (PT 420) 1387 = some (1387, .aload_n 1, 1, 0, 0, 0) := by decide +kernel
theorem f_420_1388 : ftc (PT 420) 1388 = some (1388, .aload_n 0, 1, 0, 0, 0) := by decide +kernel
theorem f_420_1389 : ftc (PT 420) 1389 = some (1389, .iload 4, 2, 0, 0, 0) := by decide +kernel
theorem f_420_1391 : ftc (PT 420) 1391 = some (1391, .iconst 1, 1, 0, 0, 0) := by decide +kernel
theorem f_420_1392 : ftc (PT 420) 1392 = some (1392, .iadd, 1, 0, 0, 0) := by decide +kernel
theorem f_420_1393 : ftc (PT 420) 1393 = some (1393, .iaload, 1, 0, 0, 0) := by decide +kernel
theorem f_420_1394 : ftc (PT 420) 1394 = some (1394, .aload_n 0, 1, 0, 0, 0) := by decide +kernel
theorem f_420_1395 : ftc (PT 420) 1395 = some (1395, .iload 4, 2, 0, 0, 0) := by decide +kernel
theorem f_420_1397 : ftc (PT 420) 1397 = some (1397, .iconst 2, 1, 0, 0, 0) := by decide +kernel
theorem f_420_1398 : ftc (PT 420) 1398 = some (1398, .iadd, 1, 0, 0, 0) := by decide +kernel
theorem f_420_1399 : ftc (PT 420) 1399 = some (1399, .iaload, 1, 0, 0, 0) := by decide +kernel
theorem f_420_1400 : ftc (PT 420) 1400 = some (1400, .aload_n 0, 1, 0, 0, 0) := by decide +kernel
theorem f_420_1401 : ftc (PT 420) 1401 = some (1401, .iload 4, 2, 0, 0, 0) := by decide +kernel
theorem f_420_1403 : ftc (PT 420) 1403 = some (1403, .iconst 3, 1, 0, 0, 0) := by decide +kernel
theorem f_420_1404 : ftc (PT 420) 1404 = some (1404, .iadd, 1, 0, 0, 0) := by decide +kernel
theorem f_420_1405 : ftc (PT 420) 1405 = some (1405, .iaload, 1, 0, 0, 0) := by decide +kernel
theorem f_420_1406 : ftc (PT 420) 1406 = some (1406, .aload_n 0, 1, 0, 0, 0) := by decide +kernel
theorem f_420_1407 : ftc (PT 420) 1407 = some (1407, .iload 4, 2, 0, 0, 0) := by decide +kernel
theorem f_420_1409 : ftc (PT 420) 1409 = some (1409, .iconst 4, 1, 0, 0, 0) := by decide +kernel
theorem f_420_1410 : ftc (PT 420) 1410 = some (1410, .iadd, 1, 0, 0, 0) := by decide +kernel
theorem f_420_1411 : ftc (PT 420) 1411 = some (1411, .iaload, 1, 0, 0, 0) := by decide +kernel
theorem f_420_1412 : ftc (PT 420) 1412 = some (1412, .aload_n 3, 1, 0, 0, 0) := by decide +kernel
theorem f_420_1413 : ftc (PT 420) 1413 = some (1413, .invokestatic 256, 3, 381, 7174, 1047) := by decide +kernel
theorem f_420_1416 : ftc (PT 420) 1416 = some (1416, .istore 5, 2, 0, 0, 0) := by decide +kernel
theorem f_420_1418 : ftc (PT 420) 1418 = some (1418, .aload_n 2, 1, 0, 0, 0) := by decide +kernel
theorem f_420_1419 : ftc (PT 420) 1419 = some (1419, .aload_n 0, 1, 0, 0, 0) := by decide +kernel
theorem f_420_1420 : ftc (PT 420) 1420 = some (1420, .iload 4, 2, 0, 0, 0) := by decide +kernel
theorem f_420_1422 : ftc (PT 420) 1422 = some (1422, .iconst 1, 1, 0, 0, 0) := by decide +kernel
theorem f_420_1423 : ftc (PT 420) 1423 = some (1423, .iadd, 1, 0, 0, 0) := by decide +kernel
theorem f_420_1424 : ftc (PT 420) 1424 = some (1424, .iaload, 1, 0, 0, 0) := by decide +kernel
theorem f_420_1425 : ftc (PT 420) 1425 = some (1425, .aload_n 0, 1, 0, 0, 0) := by decide +kernel
theorem f_420_1426 : ftc (PT 420) 1426 = some (1426, .iload 4, 2, 0, 0, 0) := by decide +kernel
theorem f_420_1428 : ftc (PT 420) 1428 = some (1428, .iconst 2, 1, 0, 0, 0) := by decide +kernel
theorem f_420_1429 : ftc (PT 420) 1429 = some (1429, .iadd, 1, 0, 0, 0) := by decide +kernel
theorem f_420_1430 : ftc (PT 420) 1430 = some (1430, .iaload, 1, 0, 0, 0) := by decide +kernel
theorem f_420_1431 : ftc (PT 420) 1431 = some (1431, .aload_n 0, 1, 0, 0, 0) := by decide +kernel
theorem f_420_1432 : ftc (PT 420) 1432 = some (1432, .iload 4, 2, 0, 0, 0) := by decide +kernel
theorem f_420_1434 : ftc (PT 420) 1434 = some (1434, .iconst 3, 1, 0, 0, 0) := by decide +kernel
theorem f_420_1435 : ftc (PT 420) 1435 = some (1435, .iadd, 1, 0, 0, 0) := by decide +kernel
theorem f_420_1436 : ftc (PT 420) 1436 = some (1436, .iaload, 1, 0, 0, 0) := by decide +kernel
theorem f_420_1437 : ftc (PT 420) 1437 = some (1437, .aload_n 0, 1, 0, 0, 0) := by decide +kernel
theorem f_420_1438 : ftc (PT 420) 1438 = some (1438, .iload 4, 2, 0, 0, 0) := by decide +kernel
theorem f_420_1440 : ftc (PT 420) 1440 = some (1440, .iconst 4, 1, 0, 0, 0) := by decide +kernel
theorem f_420_1441 : ftc (PT 420) 1441 = some (1441, .iadd, 1, 0, 0, 0) := by decide +kernel
theorem f_420_1442 : ftc (PT 420) 1442 = some (1442, .iaload, 1, 0, 0, 0) := by decide +kernel
theorem f_420_1443 : ftc (PT 420) 1443 = some (1443, .invokevirtual 259, 3, 249, 5260, 1912) := by decide +kernel
theorem f_420_1446 : ftc (PT 420) 1446 = some (1446, .istore 6, 2, 0, 0, 0) := by decide +kernel
theorem f_420_1448 : ftc (PT 420) 1448 = some (1448, .aload_n 2, 1, 0, 0, 0) := by decide +kernel
theorem f_420_1449 : ftc (PT 420) 1449 = some (1449, .invokevirtual 202, 3, 212, 1036, 1769) := by decide +kernel
theorem f_420_1452 : ftc (PT 420) 1452 = some (1452, .iload 5, 2, 0, 0, 0) := by decide +kernel
theorem f_420_1454 : ftc (PT 420) 1454 = some (1454, .if_icmp .eq 5, 3, 1459, 0, 0) := by decide +kernel
theorem f_420_1457 : ftc (PT 420) 1457 = some (1457, .iconst 0, 1, 0, 0, 0) := by decide +kernel
theorem f_420_1458 : ftc (PT 420) 1458 = some (1458, .ireturn, 1, 1, 0, 0) := by decide +kernel
theorem f_420_1459 : ftc (PT 420) 1459 = some (1459, .iload 5, 2, 0, 0, 0) := by decide +kernel
theorem f_420_1461 : ftc (PT 420) 1461 = some (1461, .ifCond .ne 15, 3, 1476, 0, 0) := by decide +kernel
theorem f_420_1464 : ftc (PT 420) 1464 = some (1464, .aload_n 3, 1, 0, 0, 0) := by decide +kernel
theorem f_420_1465 : ftc (PT 420) 1465 = some (1465, .iconst 0, 1, 0, 0, 0) := by decide +kernel
theorem f_420_1466 : ftc (PT 420) 1466 = some (1466, .laload, 1, 0, 0, 0) := by decide +kernel
theorem f_420_1467 : ftc (PT 420) 1467 = some (1467, .iload 6, 2, 0, 0, 0) := by decide +kernel
theorem f_420_1469 : ftc (PT 420) 1469 = some (1469, .i2l, 1, 0, 0, 0) := by decide +kernel
theorem f_420_1470 : ftc (PT 420) 1470 = some (1470, .lcmp, 1, 0, 0, 0) := by decide +kernel
theorem f_420_1471 : ftc (PT 420) 1471 = some (1471, .ifCond .eq 5, 3, 1476, 0, 0) := by decide +kernel
theorem f_420_1474 : ftc (PT 420) 1474 = some (1474, .iconst 0, 1, 0, 0, 0) := by decide +kernel
theorem f_420_1475 : ftc (PT 420) 1475 = some (1475, .ireturn, 1, 1, 0, 0) := by decide +kernel
theorem f_420_1476 : ftc (PT 420) 1476 = some (1476, .goto 3441, 3, 4917, 0, 0) := by decide +kernel
theorem f_420_1479 : ftc (PT 420) 1479 = some (1479, .aload_n 1, 1, 0, 0, 0) := by decide +kernel
theorem f_420_1480 : ftc (PT 420) 1480 = some (1480, .aload_n 0, 1, 0, 0, 0) := by decide +kernel
theorem f_420_1481 : ftc (PT 420) 1481 = some (1481, .iload 4, 2, 0, 0, 0) := by decide +kernel
theorem f_420_1483 : ftc (PT 420) 1483 = some (1483, .iconst 1, 1, 0, 0, 0) := by decide +kernel
theorem f_420_1484 : ftc (PT 420) 1484 = some (1484, .iadd, 1, 0, 0, 0) := by decide +kernel
theorem f_420_1485 : ftc (PT 420) 1485 = some (1485, .iaload, 1, 0, 0, 0) := by decide +kernel
theorem f_420_1486 : ftc (PT 420) 1486 = some (1486, .aload_n 0, 1, 0, 0, 0) := by decide +kernel
theorem f_420_1487 : ftc (PT 420) 1487 = some (1487, .iload 4, 2, 0, 0, 0) := by decide +kernel
theorem f_420_1489 : ftc (PT 420) 1489 = some (1489, .iconst 2, 1, 0, 0, 0) := by decide +kernel
theorem f_420_1490 : ftc (PT 420) 1490 = some (1490, .iadd, 1, 0, 0, 0) := by decide +kernel
theorem f_420_1491 : ftc (PT 420) 1491 = some (1491, .iaload, 1, 0, 0, 0) := by decide +kernel
theorem f_420_1492 : ftc (PT 420) 1492 = some (1492, .ifCond .eq 7, 3, 1499, 0, 0) := by decide +kernel
theorem f_420_1495 : ftc (PT 420) 1495 = some (1495, .iconst 1, 1, 0, 0, 0) := by decide +kernel
theorem f_420_1496 : ftc (PT 420) 1496 = some (1496, .goto 4, 3, 1500, 0, 0) := by decide +kernel
theorem f_420_1499 : ftc (PT 420) 1499 = some (1499, .iconst 0, 1, 0, 0, 0) := by decide +kernel
theorem f_420_1500 : ftc (PT 420) 1500 = some (1500, .aload_n 3, 1, 0, 0, 0) := by decide +kernel
theorem f_420_1501 : ftc (PT 420) 1501 = some (1501, .invokestatic 260, 3, 382, 5124, 1055) := by decide +kernel
theorem f_420_1504 : ftc (PT 420) 1504 = some (1504, .istore 5, 2, 0, 0, 0) := by decide +kernel
theorem f_420_1506 : ftc (PT 420) 1506 = some (1506, .aload_n 2, 1, 0, 0, 0) := by decide +kernel
theorem f_420_1507 : ftc (PT 420) 1507 = some (1507, .aload_n 0, 1, 0, 0, 0) := by decide +kernel
theorem f_420_1508 : ftc (PT 420) 1508 = some (1508, .iload 4, 2, 0, 0, 0) := by decide +kernel
theorem f_420_1510 : ftc (PT 420) 1510 = some (1510, .iconst 1, 1, 0, 0, 0) := by decide +kernel
theorem f_420_1511 : ftc (PT 420) 1511 = some (1511, .iadd, 1, 0, 0, 0) := by decide +kernel
theorem f_420_1512 : ftc (PT 420) 1512 = some (1512, .iaload, 1, 0, 0, 0) := by decide +kernel
theorem f_420_1513 : ftc (PT 420) 1513 = some (1513, .aload_n 0, 1, 0, 0, 0) := by decide +kernel
theorem f_420_1514 : ftc (PT 420) 1514 = some (1514, .iload 4, 2, 0, 0, 0) := by decide +kernel
theorem f_420_1516 : ftc (PT 420) 1516 = some (1516, .iconst 2, 1, 0, 0, 0) := by decide +kernel
theorem f_420_1517 : ftc (PT 420) 1517 = some (1517, .iadd, 1, 0, 0, 0) := by decide +kernel
theorem f_420_1518 : ftc (PT 420) 1518 = some (1518, .iaload, 1, 0, 0, 0) := by decide +kernel
theorem f_420_1519 : ftc (PT 420) 1519 = some (1519, .ifCond .eq 7, 3, 1526, 0, 0) := by decide +kernel
theorem f_420_1522 : ftc (PT 420) 1522 = some (1522, .iconst 1, 1, 0, 0, 0) := by decide +kernel
theorem f_420_1523 : ftc (PT 420) 1523 = some (1523, .goto 4, 3, 1527, 0, 0) := by decide +kernel
theorem f_420_1526 : ftc (PT 420) 1526 = some (1526, .iconst 0, 1, 0, 0, 0) := by decide +kernel
theorem f_420_1527 : ftc (PT 420) 1527 = some (1527, .invokevirtual 262, 3, 250, 3148, 1916) := by decide +kernel
theorem f_420_1530 : ftc (PT 420) 1530 = some (1530, .istore 6, 2, 0, 0, 0) := by decide +kernel
theorem f_420_1532 : ftc (PT 420) 1532 = some (1532, .aload_n 2, 1, 0, 0, 0) := by decide +kernel
theorem f_420_1533 : ftc (PT 420) 1533 = some (1533, .invokevirtual 202, 3, 212, 1036, 1769) := by decide +kernel
theorem f_420_1536 : ftc (PT 420) 1536 = some (1536, .iload 5, 2, 0, 0, 0) := by decide +kernel
theorem f_420_1538 : ftc (PT 420) 1538 = some (1538, .if_icmp .eq 5, 3, 1543, 0, 0) := by decide +kernel
theorem f_420_1541 : ftc (PT 420) 1541 = some (1541, .iconst 0, 1, 0, 0, 0) := by decide +kernel
theorem f_420_1542 : ftc (PT 420) 1542 = some (1542, .ireturn, 1, 1, 0, 0) := by decide +kernel
theorem f_420_1543 : ftc (PT 420) 1543 = some (1543, .iload 5, 2, 0, 0, 0) := by decide +kernel
theorem f_420_1545 : ftc (PT 420) 1545 = some (1545, .ifCond .ne 15, 3, 1560, 0, 0) := by decide +kernel
theorem f_420_1548 : ftc (PT 420) 1548 = some (1548, .aload_n 3, 1, 0, 0, 0) := by decide +kernel
theorem f_420_1549 : ftc (PT 420) 1549 = some (1549, .iconst 0, 1, 0, 0, 0) := by decide +kernel
theorem f_420_1550 : ftc (PT 420) 1550 = some (1550, .laload, 1, 0, 0, 0) := by decide +kernel
theorem f_420_1551 : ftc (PT 420) 1551 = some (1551, .iload 6, 2, 0, 0, 0) := by decide +kernel
theorem f_420_1553 : ftc (PT 420) 1553 = some (1553, .i2l, 1, 0, 0, 0) := by decide +kernel
theorem f_420_1554 : ftc (PT 420) 1554 = some (1554, .lcmp, 1, 0, 0, 0) := by decide +kernel
theorem f_420_1555 : ftc (PT 420) 1555 = some (1555, .ifCond .eq 5, 3, 1560, 0, 0) := by decide +kernel
theorem f_420_1558 : ftc (PT 420) 1558 = some (1558, .iconst 0, 1, 0, 0, 0) := by decide +kernel
theorem f_420_1559 : ftc (PT 420) 1559 = some (1559, .ireturn, 1, 1, 0, 0) := by decide +kernel
theorem f_420_1560 : ftc (PT 420) 1560 = some (1560, .goto 3357, 3, 4917, 0, 0) := by decide +kernel
theorem f_420_1563 : ftc (PT 420) 1563 = some (1563, .aload_n 1, 1, 0, 0, 0) := by decide +kernel
theorem f_420_1564 : ftc (PT 420) 1564 = some (1564, .aload_n 0, 1, 0, 0, 0) := by decide +kernel
theorem f_420_1565 : ftc (PT 420) 1565 = some (1565, .iload 4, 2, 0, 0, 0) := by decide +kernel
theorem f_420_1567 : ftc (PT 420) 1567 = some (1567, .iconst 1, 1, 0, 0, 0) := by decide +kernel
theorem f_420_1568 : ftc (PT 420) 1568 = some (1568, .iadd, 1, 0, 0, 0) := by decide +kernel
theorem f_420_1569 : ftc (PT 420) 1569 = some (1569, .iaload, 1, 0, 0, 0) := by decide +kernel
theorem f_420_1570 : ftc (PT 420) 1570 = some (1570, .aload_n 0, 1, 0, 0, 0) := by decide +kernel
theorem f_420_1571 : ftc (PT 420) 1571 = some (1571, .iload 4, 2, 0, 0, 0) := by decide +kernel
theorem f_420_1573 : ftc (PT 420) 1573 = some (1573, .iconst 2, 1, 0, 0, 0) := by decide +kernel
theorem f_420_1574 : ftc (PT 420) 1574 = some (1574, .iadd, 1, 0, 0, 0) := by decide +kernel
theorem f_420_1575 : ftc (PT 420) 1575 = some (1575, .iaload, 1, 0, 0, 0) := by decide +kernel
theorem f_420_1576 : ftc (PT 420) 1576 = some (1576, .ifCond .eq 7, 3, 1583, 0, 0) := by decide +kernel
theorem f_420_1579 : ftc (PT 420) 1579 = some (1579, .iconst 1, 1, 0, 0, 0) := by decide +kernel
theorem f_420_1580 : ftc (PT 420) 1580 = some (1580, .goto 4, 3, 1584, 0, 0) := by decide +kernel
theorem f_420_1583 : ftc (PT 420) 1583 = some (1583, .iconst 0, 1, 0, 0, 0) := by decide +kernel
theorem f_420_1584 : ftc (PT 420) 1584 = some (1584, .aload_n 0, 1, 0, 0, 0) := by decide +kernel
theorem f_420_1585 : ftc (PT 420) 1585 = some (1585, .iload 4, 2, 0, 0, 0) := by decide +kernel
theorem f_420_1587 : ftc (PT 420) 1587 = some (1587, .iconst 3, 1, 0, 0, 0) := by decide +kernel
theorem f_420_1588 : ftc (PT 420) 1588 = some (1588, .iadd, 1, 0, 0, 0) := by decide +kernel
theorem f_420_1589 : ftc (PT 420) 1589 = some (1589, .iaload, 1, 0, 0, 0) := by decide +kernel
theorem f_420_1590 : ftc (PT 420) 1590 = some (1590, .aload_n 3, 1, 0, 0, 0) := by decide +kernel
theorem f_420_1591 : ftc (PT 420) 1591 = some (1591, .invokestatic 263, 3, 383, 6149, 1114) := by decide +kernel
theorem f_420_1594 : ftc (PT 420) 1594 = some (1594, .istore 5, 2, 0, 0, 0) := by decide +kernel
theorem f_420_1596 : ftc (PT 420) 1596 = some (1596, .aload_n 2, 1, 0, 0, 0) := by decide +kernel
theorem f_420_1597 : ftc (PT 420) 1597 = some (1597, .aload_n 0, 1, 0, 0, 0) := by decide +kernel
theorem f_420_1598 : ftc (PT 420) 1598 = some (1598, .iload 4, 2, 0, 0, 0) := by decide +kernel
theorem f_420_1600 : ftc (PT 420) 1600 = some (1600, .iconst 1, 1, 0, 0, 0) := by decide +kernel
theorem f_420_1601 : ftc (PT 420) 1601 = some (1601, .iadd, 1, 0, 0, 0) := by decide +kernel
theorem f_420_1602 : ftc (PT 420) 1602 = some (1602, .iaload, 1, 0, 0, 0) := by decide +kernel
theorem f_420_1603 : ftc (PT 420) 1603 = some (1603, .aload_n 0, 1, 0, 0, 0) := by decide +kernel
theorem f_420_1604 : ftc (PT 420) 1604 = some (1604, .iload 4, 2, 0, 0, 0) := by decide +kernel
theorem f_420_1606 : ftc (PT 420) 1606 = some (1606, .iconst 2, 1, 0, 0, 0) := by decide +kernel
theorem f_420_1607 : ftc (PT 420) 1607 = some (1607, .iadd, 1, 0, 0, 0) := by decide +kernel
theorem f_420_1608 : ftc (PT 420) 1608 = some (1608, .iaload, 1, 0, 0, 0) := by decide +kernel
theorem f_420_1609 : ftc (PT 420) 1609 = some (1609, .ifCond .eq 7, 3, 1616, 0, 0) := by decide +kernel
theorem f_420_1612 : ftc (PT 420) 1612 = some (1612, .iconst 1, 1, 0, 0, 0) := by decide +kernel
theorem f_420_1613 : ftc (PT 420) 1613 = some (1613, .goto 4, 3, 1617, 0, 0) := by decide +kernel
theorem f_420_1616 : ftc (PT 420) 1616 = some (1616, .iconst 0, 1, 0, 0, 0) := by decide +kernel
theorem f_420_1617 : ftc (PT 420) 1617 = some (1617, .aload_n 0, 1, 0, 0, 0) := by decide +kernel
theorem f_420_1618 : ftc (PT 420) 1618 = some (1618, .iload 4, 2, 0, 0, 0) := by decide +kernel
theorem f_420_1620 : ftc (PT 420) 1620 = some (1620, .iconst 3, 1, 0, 0, 0) := by decide +kernel
theorem f_420_1621 : ftc (PT 420) 1621 = some (1621, .iadd, 1, 0, 0, 0) := by decide +kernel
theorem f_420_1622 : ftc (PT 420) 1622 = some (1622, .iaload, 1, 0, 0, 0) := by decide +kernel
theorem f_420_1623 : ftc (PT 420) 1623 = some (1623, .invokevirtual 266, 3, 255, 4204, 1937) := by decide +kernel
theorem f_420_1626 : ftc (PT 420) 1626 = some (1626, .istore 6, 2, 0, 0, 0) := by decide +kernel
theorem f_420_1628 : ftc (PT 420) 1628 = some (1628, .aload_n 2, 1, 0, 0, 0) := by decide +kernel
theorem f_420_1629 : ftc (PT 420) 1629 = some (1629, .invokevirtual 202, 3, 212, 1036, 1769) := by decide +kernel
theorem f_420_1632 : ftc (PT 420) 1632 = some (1632, .iload 5, 2, 0, 0, 0) := by decide +kernel
theorem f_420_1634 : ftc (PT 420) 1634 = some (1634, .if_icmp .eq 5, 3, 1639, 0, 0) := by decide +kernel
theorem f_420_1637 : ftc (PT 420) 1637 = some (1637, .iconst 0, 1, 0, 0, 0) := by decide +kernel
theorem f_420_1638 : ftc (PT 420) 1638 = some (1638, .ireturn, 1, 1, 0, 0) := by decide +kernel
theorem f_420_1639 : ftc (PT 420) 1639 = some (1639, .iload 5, 2, 0, 0, 0) := by decide +kernel
theorem f_420_1641 : ftc (PT 420) 1641 = some (1641, .ifCond .ne 22, 3, 1663, 0, 0) := by decide +kernel
theorem f_420_1644 : ftc (PT 420) 1644 = some (1644, .aload_n 3, 1, 0, 0, 0) := by decide +kernel
theorem f_420_1645 : ftc (PT 420) 1645 = some (1645, .iconst 0, 1, 0, 0, 0) := by decide +kernel
theorem f_420_1646 : ftc (PT 420) 1646 = some (1646, .laload, 1, 0, 0, 0) := by decide +kernel
theorem f_420_1647 : ftc (PT 420) 1647 = some (1647, .iload 6, 2, 0, 0, 0) := by decide +kernel
theorem f_420_1649 : ftc (PT 420) 1649 = some (1649, .ifCond .eq 7, 3, 1656, 0, 0) := by decide +kernel
theorem f_420_1652 : ftc (PT 420) 1652 = some (1652, .lconst 1, 1, 0, 0, 0) := by decide +kernel
theorem f_420_1653 : ftc (PT 420) 1653 = some (1653, .goto 4, 3, 1657, 0, 0) := by decide +kernel
theorem f_420_1656 : ftc (PT 420) 1656 = some (1656, .lconst 0, 1, 0, 0, 0) := by decide +kernel
theorem f_420_1657 : ftc (PT 420) 1657 = some (1657, .lcmp, 1, 0, 0, 0) := by decide +kernel
theorem f_420_1658 : ftc (PT 420) 1658 = some (1658, .ifCond .eq 5, 3, 1663, 0, 0) := by decide +kernel
theorem f_420_1661 : ftc (PT 420) 1661 = some (1661, .iconst 0, 1, 0, 0, 0) := by decide +kernel
theorem f_420_1662 : ftc (PT 420) 1662 = some (1662, .ireturn, 1, 1, 0, 0) := by decide +kernel
theorem f_420_1663 : ftc (PT 420) 1663 = some (1663, .goto 3254, 3, 4917, 0, 0) := by decide +kernel
theorem f_420_1666 : ftc (PT 420) 1666 = some (1666, .aload_n 1, 1, 0, 0, 0) := by decide +kernel
theorem f_420_1667 : ftc (PT 420) 1667 = some (1667, .aload_n 0, 1, 0, 0, 0) := by decide +kernel
theorem f_420_1668 : ftc (PT 420) 1668 = some (1668, .iload 4, 2, 0, 0, 0) := by decide +kernel
theorem f_420_1670 : ftc (PT 420) 1670 = some (1670, .iconst 1, 1, 0, 0, 0) := by decide +kernel
theorem f_420_1671 : ftc (PT 420) 1671 = some (1671, .iadd, 1, 0, 0, 0) := by decide +kernel
theorem f_420_1672 : ftc (PT 420) 1672 = some (1672, .iaload, 1, 0, 0, 0) := by decide +kernel
theorem f_420_1673 : ftc (PT 420) 1673 = some (1673, .aload_n 0, 1, 0, 0, 0) := by decide +kernel
theorem f_420_1674 : ftc (PT 420) 1674 = some (1674, .iload 4, 2, 0, 0, 0) := by decide +kernel
theorem f_420_1676 : ftc (PT 420) 1676 = some (1676, .iconst 2, 1, 0, 0, 0) := by decide +kernel
theorem f_420_1677 : ftc (PT 420) 1677 = some (1677, .iadd, 1, 0, 0, 0) := by decide +kernel
theorem f_420_1678 : ftc (PT 420) 1678 = some (1678, .iaload, 1, 0, 0, 0) := by decide +kernel
theorem f_420_1679 : ftc (PT 420) 1679 = some (1679, .ifCond .eq 7, 3, 1686, 0, 0) := by decide +kernel
theorem f_420_1682 : ftc (PT 420) 1682 = some (1682, .iconst 1, 1, 0, 0, 0) := by decide +kernel
theorem f_420_1683 : ftc (PT 420) 1683 = some (1683, .goto 4, 3, 1687, 0, 0) := by decide +kernel
theorem f_420_1686 : ftc (PT 420) 1686 = some (1686, .iconst 0, 1, 0, 0, 0) := by decide +kernel
theorem f_420_1687 : ftc (PT 420) 1687 = some (1687, .aload_n 0, 1, 0, 0, 0) := by decide +kernel
theorem f_420_1688 : ftc (PT 420) 1688 = some (1688, .iload 4, 2, 0, 0, 0) := by decide +kernel
theorem f_420_1690 : ftc (PT 420) 1690 = some (1690, .iconst 3, 1, 0, 0, 0) := by decide +kernel
theorem f_420_1691 : ftc (PT 420) 1691 = some (1691, .iadd, 1, 0, 0, 0) := by decide +kernel
theorem f_420_1692 : ftc (PT 420) 1692 = some (1692, .iaload, 1, 0, 0, 0) := by decide +kernel
theorem f_420_1693 : ftc (PT 420) 1693 = some (1693, .aload_n 0, 1, 0, 0, 0) := by decide +kernel
theorem f_420_1694 : ftc (PT 420) 1694 = some (1694, .iload 4, 2, 0, 0, 0) := by decide +kernel
theorem f_420_1696 : ftc (PT 420) 1696 = some (1696, .iconst 4, 1, 0, 0, 0) := by decide +kernel
theorem f_420_1697 : ftc (PT 420) 1697 = some (1697, .iadd, 1, 0, 0, 0) := by decide +kernel
theorem f_420_1698 : ftc (PT 420) 1698 = some (1698, .iaload, 1, 0, 0, 0) := by decide +kernel
theorem f_420_1699 : ftc (PT 420) 1699 = some (1699, .ifCond .eq 7, 3, 1706, 0, 0) := by decide +kernel
theorem f_420_1702 : ftc (PT 420) 1702 = some (1702, .iconst 1, 1, 0, 0, 0) := by decide +kernel
theorem f_420_1703 : ftc (PT 420) 1703 = some (1703, .goto 4, 3, 1707, 0, 0) := by decide +kernel
theorem f_420_1706 : ftc (PT 420) 1706 = some (1706, .iconst 0, 1, 0, 0, 0) := by decide +kernel
theorem f_420_1707 : ftc (PT 420) 1707 = some (1707, .aload_n 3, 1, 0, 0, 0) := by decide +kernel
theorem f_420_1708 : ftc (PT 420) 1708 = some (1708, .invokestatic 267, 3, 384, 7174, 1125) := by decide +kernel
theorem f_420_1711 : ftc (PT 420) 1711 = some (1711, .istore 5, 2, 0, 0, 0) := by decide +kernel
theorem f_420_1713 : ftc (PT 420) 1713 = some (1713, .aload_n 2, 1, 0, 0, 0) := by decide +kernel
theorem f_420_1714 : ftc (PT 420) 1714 = some (1714, .aload_n 0, 1, 0, 0, 0) := by decide +kernel
theorem f_420_1715 : ftc (PT 420) 1715 = some (1715, .iload 4, 2, 0, 0, 0) := by decide +kernel
theorem f_420_1717 : ftc (PT 420) 1717 = some (1717, .iconst 1, 1, 0, 0, 0) := by decide +kernel
theorem f_420_1718 : ftc (PT 420) 1718 = some (1718, .iadd, 1, 0, 0, 0) := by decide +kernel
theorem f_420_1719 : ftc (PT 420) 1719 = some (1719, .iaload, 1, 0, 0, 0) := by decide +kernel
theorem f_420_1720 : ftc (PT 420) 1720 = some (1720, .aload_n 0, 1, 0, 0, 0) := by decide +kernel
theorem f_420_1721 : ftc (PT 420) 1721 = some (1721, .iload 4, 2, 0, 0, 0) := by decide +kernel
theorem f_420_1723 : ftc (PT 420) 1723 = some (1723, .iconst 2, 1, 0, 0, 0) := by decide +kernel
theorem f_420_1724 : ftc (PT 420) 1724 = some (1724, .iadd, 1, 0, 0, 0) := by decide +kernel
theorem f_420_1725 : ftc (PT 420) 1725 = some (1725, .iaload, 1, 0, 0, 0) := by decide +kernel
theorem f_420_1726 : ftc (PT 420) 1726 = some (1726, .ifCond .eq 7, 3, 1733, 0, 0) := by decide +kernel
theorem f_420_1729 : ftc (PT 420) 1729 = some (1729, .iconst 1, 1, 0, 0, 0) := by decide +kernel
theorem f_420_1730 : ftc (PT 420) 1730 = some (1730, .goto 4, 3, 1734, 0, 0) := by decide +kernel
theorem f_420_1733 : ftc (PT 420) 1733 = some (1733, .iconst 0, 1, 0, 0, 0) := by decide +kernel
theorem f_420_1734 : ftc (PT 420) 1734 = some (1734, .aload_n 0, 1, 0, 0, 0) := by decide +kernel
theorem f_420_1735 : ftc (PT 420) 1735 = some (1735, .iload 4, 2, 0, 0, 0) := by decide +kernel
theorem f_420_1737 : ftc (PT 420) 1737 = some (1737, .iconst 3, 1, 0, 0, 0) := by decide +kernel
theorem f_420_1738 : ftc (PT 420) 1738 = some (1738, .iadd, 1, 0, 0, 0) := by decide +kernel
theorem f_420_1739 : ftc (PT 420) 1739 = some (1739, .iaload, 1, 0, 0, 0) := by decide +kernel
theorem f_420_1740 : ftc (PT 420) 1740 = some (1740, .aload_n 0, 1, 0, 0, 0) := by decide +kernel
theorem f_420_1741 : ftc (PT 420) 1741 = some (1741, .iload 4, 2, 0, 0, 0) := by decide +kernel
theorem f_420_1743 : ftc (PT 420) 1743 = some (1743, .iconst 4, 1, 0, 0, 0) := by decide +kernel
theorem f_420_1744 : ftc (PT 420) 1744 = some (1744, .iadd, 1, 0, 0, 0) := by decide +kernel
theorem f_420_1745 : ftc (PT 420) 1745 = some (1745, .iaload, 1, 0, 0, 0) := by decide +kernel
theorem f_420_1746 : ftc (PT 420) 1746 = some (1746, .ifCond .eq 7, 3, 1753, 0, 0) := by decide +kernel
theorem f_420_1749 : ftc (PT 420) 1749 = some (1749, .iconst 1, 1, 0, 0, 0) := by decide +kernel
theorem f_420_1750 : ftc (PT 420) 1750 = some (1750, .goto 4, 3, 1754, 0, 0) := by decide +kernel
theorem f_420_1753 : ftc (PT 420) 1753 = some (1753, .iconst 0, 1, 0, 0, 0) := by decide +kernel
theorem f_420_1754 : ftc (PT 420) 1754 = some (1754, .invokevirtual 270, 3, 258, 5260, 1949) := by decide +kernel
theorem f_420_1757 : ftc (PT 420) 1757 = some (1757, .lstore 6, 2, 0, 0, 0) := by decide +kernel
theorem f_420_1759 : ftc (PT 420) 1759 = some (1759, .aload_n 2, 1, 0, 0, 0) := by decide +kernel
theorem f_420_1760 : ftc (PT 420) 1760 = some (1760, .invokevirtual 202, 3, 212, 1036, 1769) := by decide +kernel
theorem f_420_1763 : ftc (PT 420) 1763 = some (1763, .iload 5, 2, 0, 0, 0) := by decide +kernel
theorem f_420_1765 : ftc (PT 420) 1765 = some (1765, .if_icmp .eq 5, 3, 1770, 0, 0) := by decide +kernel
theorem f_420_1768 : ftc (PT 420) 1768 = some (1768, .iconst 0, 1, 0, 0, 0) := by decide +kernel
theorem f_420_1769 : ftc (PT 420) 1769 = some (1769, .ireturn, 1, 1, 0, 0) := by decide +kernel
theorem f_420_1770 : ftc (PT 420) 1770 = some (1770, .iload 5, 2, 0, 0, 0) := by decide +kernel
theorem f_420_1772 : ftc (PT 420) 1772 = some (1772, .ifCond .ne 14, 3, 1786, 0, 0) := by decide +kernel
theorem f_420_1775 : ftc (PT 420) 1775 = some (1775, .aload_n 3, 1, 0, 0, 0) := by decide +kernel
theorem f_420_1776 : ftc (PT 420) 1776 = some (1776, .iconst 0, 1, 0, 0, 0) := by decide +kernel
theorem f_420_1777 : ftc (PT 420) 1777 = some (1777, .laload, 1, 0, 0, 0) := by decide +kernel
theorem f_420_1778 : ftc (PT 420) 1778 = some (1778, .lload 6, 2, 0, 0, 0) := by decide +kernel
theorem f_420_1780 : ftc (PT 420) 1780 = some (1780, .lcmp, 1, 0, 0, 0) := by decide +kernel
theorem f_420_1781 : ftc (PT 420) 1781 = some (1781, .ifCond .eq 5, 3, 1786, 0, 0) := by decide +kernel
theorem f_420_1784 : ftc (PT 420) 1784 = some (1784, .iconst 0, 1, 0, 0, 0) := by decide +kernel
theorem f_420_1785 : ftc (PT 420) 1785 = some (1785, .ireturn, 1, 1, 0, 0) := by decide +kernel
theorem f_420_1786 : ftc (PT 420) 1786 = some (1786, .goto 3131, 3, 4917, 0, 0) := by decide +kernel
theorem f_420_1789 : ftc (PT 420) 1789 = some (1789, .aload_n 1, 1, 0, 0, 0) := by decide +kernel
theorem f_420_1790 : ftc (PT 420) 1790 = some (1790, .aload_n 0, 1, 0, 0, 0) := by decide +kernel
theorem f_420_1791 : ftc (PT 420) 1791 = some (1791, .iload 4, 2, 0, 0, 0) := by decide +kernel
theorem f_420_1793 : ftc (PT 420) 1793 = some (1793, .iconst 1, 1, 0, 0, 0) := by decide +kernel
theorem f_420_1794 : ftc (PT 420) 1794 = some (1794, .iadd, 1, 0, 0, 0) := by decide +kernel
theorem f_420_1795 : ftc (PT 420) 1795 = some (1795, .iaload, 1, 0, 0, 0) := by decide +kernel
theorem f_420_1796 : ftc (PT 420) 1796 = some (1796, .aload_n 0, 1, 0, 0, 0) := by decide +kernel
theorem f_420_1797 : ftc (PT 420) 1797 = some (1797, .iload 4, 2, 0, 0, 0) := by decide +kernel
theorem f_420_1799 : ftc (PT 420) 1799 = some (1799, .iconst 2, 1, 0, 0, 0) := by decide +kernel
theorem f_420_1800 : ftc (PT 420) 1800 = some (1800, .iadd, 1, 0, 0, 0) := by decide +kernel
theorem f_420_1801 : ftc (PT 420) 1801 = some (1801, .iaload, 1, 0, 0, 0) := by decide +kernel
theorem f_420_1802 : ftc (PT 420) 1802 = some (1802, .ifCond .eq 7, 3, 1809, 0, 0) := by decide +kernel
theorem f_420_1805 : ftc (PT 420) 1805 = some (1805, .iconst 1, 1, 0, 0, 0) := by decide +kernel
theorem f_420_1806 : ftc (PT 420) 1806 = some (1806, .goto 4, 3, 1810, 0, 0) := by decide +kernel
theorem f_420_1809 : ftc (PT 420) 1809 = some (1809, .iconst 0, 1, 0, 0, 0) := by decide +kernel
theorem f_420_1810 : ftc (PT 420) 1810 = some (1810, .aload_n 0, 1, 0, 0, 0) := by decide +kernel
theorem f_420_1811 : ftc (PT 420) 1811 = some (1811, .iload 4, 2, 0, 0, 0) := by decide +kernel
theorem f_420_1813 : ftc (PT 420) 1813 = some (1813, .iconst 3, 1, 0, 0, 0) := by decide +kernel
theorem f_420_1814 : ftc (PT 420) 1814 = some (1814, .iadd, 1, 0, 0, 0) := by decide +kernel
theorem f_420_1815 : ftc (PT 420) 1815 = some (1815, .iaload, 1, 0, 0, 0) := by decide +kernel
theorem f_420_1816 : ftc (PT 420) 1816 = some (1816, .aload_n 3, 1, 0, 0, 0) := by decide +kernel
theorem f_420_1817 : ftc (PT 420) 1817 = some (1817, .invokestatic 271, 3, 385, 6149, 1146) := by decide +kernel
theorem f_420_1820 : ftc (PT 420) 1820 = some (1820, .istore 5, 2, 0, 0, 0) := by decide +kernel
theorem f_420_1822 : ftc (PT 420) 1822 = some (1822, .aload_n 2, 1, 0, 0, 0) := by decide +kernel
theorem f_420_1823 : ftc (PT 420) 1823 = some (1823, .aload_n 0, 1, 0, 0, 0) := by decide +kernel
theorem f_420_1824 : ftc (PT 420) 1824 = some (1824, .iload 4, 2, 0, 0, 0) := by decide +kernel
theorem f_420_1826 : ftc (PT 420) 1826 = some (1826, .iconst 1, 1, 0, 0, 0) := by decide +kernel
theorem f_420_1827 : ftc (PT 420) 1827 = some (1827, .iadd, 1, 0, 0, 0) := by decide +kernel
theorem f_420_1828 : ftc (PT 420) 1828 = some (1828, .iaload, 1, 0, 0, 0) := by decide +kernel
theorem f_420_1829 : ftc (PT 420) 1829 = some (1829, .aload_n 0, 1, 0, 0, 0) := by decide +kernel
theorem f_420_1830 : ftc (PT 420) 1830 = some (1830, .iload 4, 2, 0, 0, 0) := by decide +kernel
theorem f_420_1832 : ftc (PT 420) 1832 = some (1832, .iconst 2, 1, 0, 0, 0) := by decide +kernel
theorem f_420_1833 : ftc (PT 420) 1833 = some (1833, .iadd, 1, 0, 0, 0) := by decide +kernel
theorem f_420_1834 : ftc (PT 420) 1834 = some (1834, .iaload, 1, 0, 0, 0) := by decide +kernel
theorem f_420_1835 : ftc (PT 420) 1835 = some (1835, .ifCond .eq 7, 3, 1842, 0, 0) := by decide +kernel
theorem f_420_1838 : ftc (PT 420) 1838 = some (1838, .iconst 1, 1, 0, 0, 0) := by decide +kernel
theorem f_420_1839 : ftc (PT 420) 1839 = some (1839, .goto 4, 3, 1843, 0, 0) := by decide +kernel
theorem f_420_1842 : ftc (PT 420) 1842 = some (1842, .iconst 0, 1, 0, 0, 0) := by decide +kernel
theorem f_420_1843 : ftc (PT 420) 1843 = some (1843, .aload_n 0, 1, 0, 0, 0) := by decide +kernel
theorem f_420_1844 : ftc (PT 420) 1844 = some (1844, .iload 4, 2, 0, 0, 0) := by decide +kernel
theorem f_420_1846 : ftc (PT 420) 1846 = some (1846, .iconst 3, 1, 0, 0, 0) := by decide +kernel
theorem f_420_1847 : ftc (PT 420) 1847 = some (1847, .iadd, 1, 0, 0, 0) := by decide +kernel
theorem f_420_1848 : ftc (PT 420) 1848 = some (1848, .iaload, 1, 0, 0, 0) := by decide +kernel
theorem f_420_1849 : ftc (PT 420) 1849 = some (1849, .invokevirtual 273, 3, 266, 13420, 1981) := by decide +kernel
theorem f_420_1852 : ftc (PT 420) 1852 = some (1852, .lstore 6, 2, 0, 0, 0) := by decide +kernel
theorem f_420_1854 : ftc (PT 420) 1854 = some (1854, .aload_n 2, 1, 0, 0, 0) := by decide +kernel
theorem f_420_1855 : ftc (PT 420) 1855 = some (1855, .invokevirtual 202, 3, 212, 1036, 1769) := by decide +kernel
theorem f_420_1858 : ftc (PT 420) 1858 = some (1858, .iload 5, 2, 0, 0, 0) := by decide +kernel
theorem f_420_1860 : ftc (PT 420) 1860 = some (1860, .if_icmp .eq 5, 3, 1865, 0, 0) := by decide +kernel
theorem f_420_1863 : ftc (PT 420) 1863 = some (1863, .iconst 0, 1, 0, 0, 0) := by decide +kernel
theorem f_420_1864 : ftc (PT 420) 1864 = some (1864, .ireturn, 1, 1, 0, 0) := by decide +kernel
theorem f_420_1865 : ftc (PT 420) 1865 = some (1865, .iload 5, 2, 0, 0, 0) := by decide +kernel
theorem f_420_1867 : ftc (PT 420) 1867 = some (1867, .ifCond .ne 14, 3, 1881, 0, 0) := by decide +kernel
theorem f_420_1870 : ftc (PT 420) 1870 = some (1870, .aload_n 3, 1, 0, 0, 0) := by decide +kernel
theorem f_420_1871 : ftc (PT 420) 1871 = some (1871, .iconst 0, 1, 0, 0, 0) := by decide +kernel
theorem f_420_1872 : ftc (PT 420) 1872 = some (1872, .laload, 1, 0, 0, 0) := by decide +kernel
theorem f_420_1873 : ftc (PT 420) 1873 = some (1873, .lload 6, 2, 0, 0, 0) := by decide +kernel
theorem f_420_1875 : ftc (PT 420) 1875 = some (1875, .lcmp, 1, 0, 0, 0) := by decide +kernel
theorem f_420_1876 : ftc (PT 420) 1876 = some (1876, .ifCond .eq 5, 3, 1881, 0, 0) := by decide +kernel
theorem f_420_1879 : ftc (PT 420) 1879 = some (1879, .iconst 0, 1, 0, 0, 0) := by decide +kernel
theorem f_420_1880 : ftc (PT 420) 1880 = some (1880, .ireturn, 1, 1, 0, 0) := by decide +kernel
theorem f_420_1881 : ftc (PT 420) 1881 = some (1881, .goto 3036, 3, 4917, 0, 0) := by decide +kernel
theorem f_420_1884 : ftc (PT 420) 1884 = some (1884, .aload_n 1, 1, 0, 0, 0) := by decide +kernel
theorem f_420_1885 : ftc (PT 420) 1885 = some (1885, .aload_n 0, 1, 0, 0, 0) := by decide +kernel
theorem f_420_1886 : ftc (PT 420) 1886 = some (1886, .iload 4, 2, 0, 0, 0) := by decide +kernel
theorem f_420_1888 : ftc (PT 420) 1888 = some (1888, .iconst 1, 1, 0, 0, 0) := by decide +kernel
theorem f_420_1889 : ftc (PT 420) 1889 = some (1889, .iadd, 1, 0, 0, 0) := by decide +kernel
theorem f_420_1890 : ftc (PT 420) 1890 = some (1890, .iaload, 1, 0, 0, 0) := by decide +kernel
theorem f_420_1891 : ftc (PT 420) 1891 = some (1891, .aload_n 0, 1, 0, 0, 0) := by decide +kernel
theorem f_420_1892 : ftc (PT 420) 1892 = some (1892, .iload 4, 2, 0, 0, 0) := by decide +kernel
theorem f_420_1894 : ftc (PT 420) 1894 = some (1894, .iconst 2, 1, 0, 0, 0) := by decide +kernel
theorem f_420_1895 : ftc (PT 420) 1895 = some (1895, .iadd, 1, 0, 0, 0) := by decide +kernel
theorem f_420_1896 : ftc (PT 420) 1896 = some (1896, .iaload, 1, 0, 0, 0) := by decide +kernel
theorem f_420_1897 : ftc (PT 420) 1897 = some (1897, .ifCond .eq 7, 3, 1904, 0, 0) := by decide +kernel
theorem f_420_1900 : ftc (PT 420) 1900 = some (1900, .iconst 1, 1, 0, 0, 0) := by decide +kernel
theorem f_420_1901 : ftc (PT 420) 1901 = some (1901, .goto 4, 3, 1905, 0, 0) := by decide +kernel
theorem f_420_1904 : ftc (PT 420) 1904 = some (1904, .iconst 0, 1, 0, 0, 0) := by decide +kernel
theorem f_420_1905 : ftc (PT 420) 1905 = some (1905, .aload_n 0, 1, 0, 0, 0) := by decide +kernel
theorem f_420_1906 : ftc (PT 420) 1906 = some (1906, .iload 4, 2, 0, 0, 0) := by decide +kernel
theorem f_420_1908 : ftc (PT 420) 1908 = some (1908, .iconst 3, 1, 0, 0, 0) := by decide +kernel
theorem f_420_1909 : ftc (PT 420) 1909 = some (1909, .iadd, 1, 0, 0, 0) := by decide +kernel
theorem f_420_1910 : ftc (PT 420) 1910 = some (1910, .iaload, 1, 0, 0, 0) := by decide +kernel
theorem f_420_1911 : ftc (PT 420) 1911 = some (1911, .aload_n 0, 1, 0, 0, 0) := by decide +kernel
theorem f_420_1912 : ftc (PT 420) 1912 = some (1912, .iload 4, 2, 0, 0, 0) := by decide +kernel
theorem f_420_1914 : ftc (PT 420) 1914 = some (1914, .iconst 4, 1, 0, 0, 0) := by decide +kernel
theorem f_420_1915 : ftc (PT 420) 1915 = some (1915, .iadd, 1, 0, 0, 0) := by decide +kernel
theorem f_420_1916 : ftc (PT 420) 1916 = some (1916, .iaload, 1, 0, 0, 0) := by decide +kernel
theorem f_420_1917 : ftc (PT 420) 1917 = some (1917, .ifCond .eq 7, 3, 1924, 0, 0) := by decide +kernel
theorem f_420_1920 : ftc (PT 420) 1920 = some (1920, .iconst 1, 1, 0, 0, 0) := by decide +kernel
theorem f_420_1921 : ftc (PT 420) 1921 = some (1921, .goto 4, 3, 1925, 0, 0) := by decide +kernel
theorem f_420_1924 : ftc (PT 420) 1924 = some (1924, .iconst 0, 1, 0, 0, 0) := by decide +kernel
theorem f_420_1925 : ftc (PT 420) 1925 = some (1925, .aload_n 3, 1, 0, 0, 0) := by decide +kernel
theorem f_420_1926 : ftc (PT 420) 1926 = some (1926, .invokestatic 274, 3, 386, 7174, 1167) := by decide +kernel
theorem f_420_1929 : ftc (PT 420) 1929 = some (1929, .istore 5, 2, 0, 0, 0) := by decide +kernel
theorem f_420_1931 : ftc (PT 420) 1931 = some (1931, .aload_n 2, 1, 0, 0, 0) := by decide +kernel
theorem f_420_1932 : ftc (PT 420) 1932 = some (1932, .aload_n 0, 1, 0, 0, 0) := by decide +kernel
theorem f_420_1933 : ftc (PT 420) 1933 = some (1933, .iload 4, 2, 0, 0, 0) := by decide +kernel
theorem f_420_1935 : ftc (PT 420) 1935 = some (1935, .iconst 1, 1, 0, 0, 0) := by decide +kernel
theorem f_420_1936 : ftc (PT 420) 1936 = some (1936, .iadd, 1, 0, 0, 0) := by decide +kernel
theorem f_420_1937 : ftc (PT 420) 1937 = some (1937, .iaload, 1, 0, 0, 0) := by decide +kernel
theorem f_420_1938 : ftc (PT 420) 1938 = some (1938, .aload_n 0, 1, 0, 0, 0) := by decide +kernel
theorem f_420_1939 : ftc (PT 420) 1939 = some (1939, .iload 4, 2, 0, 0, 0) := by decide +kernel
theorem f_420_1941 : ftc (PT 420) 1941 = some (1941, .iconst 2, 1, 0, 0, 0) := by decide +kernel
theorem f_420_1942 : ftc (PT 420) 1942 = some (1942, .iadd, 1, 0, 0, 0) := by decide +kernel
theorem f_420_1943 : ftc (PT 420) 1943 = some (1943, .iaload, 1, 0, 0, 0) := by decide +kernel
theorem f_420_1944 : ftc (PT 420) 1944 = some (1944, .ifCond .eq 7, 3, 1951, 0, 0) := by decide +kernel
theorem f_420_1947 : ftc (PT 420) 1947 = some (1947, .iconst 1, 1, 0, 0, 0) := by decide +kernel
theorem f_420_1948 : ftc (PT 420) 1948 = some (1948, .goto 4, 3, 1952, 0, 0) := by decide +kernel
theorem f_420_1951 : ftc (PT 420) 1951 = some (1951, .iconst 0, 1, 0, 0, 0) := by decide +kernel
theorem f_420_1952 : ftc (PT 420) 1952 = some (1952, .aload_n 0, 1, 0, 0, 0) := by decide +kernel
theorem f_420_1953 : ftc (PT 420) 1953 = some (1953, .iload 4, 2, 0, 0, 0) := by decide +kernel
theorem f_420_1955 : ftc (PT 420) 1955 = some (1955, .iconst 3, 1, 0, 0, 0) := by decide +kernel
theorem f_420_1956 : ftc (PT 420) 1956 = some (1956, .iadd, 1, 0, 0, 0) := by decide +kernel
theorem f_420_1957 : ftc (PT 420) 1957 = some (1957, .iaload, 1, 0, 0, 0) := by decide +kernel
theorem f_420_1958 : ftc (PT 420) 1958 = some (1958, .aload_n 0, 1, 0, 0, 0) := by decide +kernel
theorem f_420_1959 : ftc (PT 420) 1959 = some (1959, .iload 4, 2, 0, 0, 0) := by decide +kernel
theorem f_420_1961 : ftc (PT 420) 1961 = some (1961, .iconst 4, 1, 0, 0, 0) := by decide +kernel
theorem f_420_1962 : ftc (PT 420) 1962 = some (1962, .iadd, 1, 0, 0, 0) := by decide +kernel
theorem f_420_1963 : ftc (PT 420) 1963 = some (1963, .iaload, 1, 0, 0, 0) := by decide +kernel
theorem f_420_1964 : ftc (PT 420) 1964 = some (1964, .ifCond .eq 7, 3, 1971, 0, 0) := by decide +kernel
theorem f_420_1967 : ftc (PT 420) 1967 = some (1967, .iconst 1, 1, 0, 0, 0) := by decide +kernel
theorem f_420_1968 : ftc (PT 420) 1968 = some (1968, .goto 4, 3, 1972, 0, 0) := by decide +kernel
theorem f_420_1971 : ftc (PT 420) 1971 = some (1971, .iconst 0, 1, 0, 0, 0) := by decide +kernel
theorem f_420_1972 : ftc (PT 420) 1972 = some (1972, .invokevirtual 276, 3, 268, 5260, 1991) := by decide +kernel
theorem f_420_1975 : ftc (PT 420) 1975 = some (1975, .lstore 6, 2, 0, 0, 0) := by decide +kernel
theorem f_420_1977 : ftc (PT 420) 1977 = some (1977, .aload_n 2, 1, 0, 0, 0) := by decide +kernel
theorem f_420_1978 : ftc (PT 420) 1978 = some (1978, .invokevirtual 202, 3, 212, 1036, 1769) := by decide +kernel
theorem f_420_1981 : ftc (PT 420) 1981 = some (1981, .iload 5, 2, 0, 0, 0) := by decide +kernel
theorem f_420_1983 : ftc (PT 420) 1983 = some (1983, .if_icmp .eq 5, 3, 1988, 0, 0) := by decide +kernel
theorem f_420_1986 : ftc (PT 420) 1986 = some (1986, .iconst 0, 1, 0, 0, 0) := by decide +kernel
theorem f_420_1987 : ftc (PT 420) 1987 = some (1987, .ireturn, 1, 1, 0, 0) := by decide +kernel
theorem f_420_1988 : ftc (PT 420) 1988 = some (1988, .iload 5, 2, 0, 0, 0) := by decide +kernel
theorem f_420_1990 : ftc (PT 420) 1990 = some (1990, .ifCond .ne 14, 3, 2004, 0, 0) := by decide +kernel
theorem f_420_1993 : ftc (PT 420) 1993 = some (1993, .aload_n 3, 1, 0, 0, 0) := by decide +kernel
theorem f_420_1994 : ftc (PT 420) 1994 = some (1994, .iconst 0, 1, 0, 0, 0) := by decide +kernel
theorem f_420_1995 : ftc (PT 420) 1995 = some (1995, .laload, 1, 0, 0, 0) := by decide +kernel
theorem f_420_1996 : ftc (PT 420) 1996 = some (1996, .lload 6, 2, 0, 0, 0) := by decide +kernel
theorem f_420_1998 : ftc (PT 420) 1998 = some (1998, .lcmp, 1, 0, 0, 0) := by decide +kernel
theorem f_420_1999 : ftc (PT 420) 1999 = some (1999, .ifCond .eq 5, 3, 2004, 0, 0) := by decide +kernel
theorem f_420_2002 : ftc (PT 420) 2002 = some (2002, .iconst 0, 1, 0, 0, 0) := by decide +kernel
theorem f_420_2003 : ftc (PT 420) 2003 = some (2003, .ireturn, 1, 1, 0, 0) := by decide +kernel
theorem f_420_2004 : ftc (PT 420) 2004 = some (2004, .goto 2913, 3, 4917, 0, 0) := by decide +kernel
theorem f_420_2007 : ftc (PT 420) 2007 = some (2007, .aload_n 1, 1, 0, 0, 0) := by decide +kernel
theorem f_420_2008 : ftc (PT 420) 2008 = some (2008, .aload_n 0, 1, 0, 0, 0) := by decide +kernel
theorem f_420_2009 : ftc (PT 420) 2009 = some (2009, .iload 4, 2, 0, 0, 0) := by decide +kernel
theorem f_420_2011 : ftc (PT 420) 2011 = some (2011, .iconst 1, 1, 0, 0, 0) := by decide +kernel
theorem f_420_2012 : ftc (PT 420) 2012 = some (2012, .iadd, 1, 0, 0, 0) := by decide +kernel
theorem f_420_2013 : ftc (PT 420) 2013 = some (2013, .iaload, 1, 0, 0, 0) := by decide +kernel
theorem f_420_2014 : ftc (PT 420) 2014 = some (2014, .aload_n 0, 1, 0, 0, 0) := by decide +kernel
theorem f_420_2015 : ftc (PT 420) 2015 = some (2015, .iload 4, 2, 0, 0, 0) := by decide +kernel
theorem f_420_2017 : ftc (PT 420) 2017 = some (2017, .iconst 2, 1, 0, 0, 0) := by decide +kernel
theorem f_420_2018 : ftc (PT 420) 2018 = some (2018, .iadd, 1, 0, 0, 0) := by decide +kernel
theorem f_420_2019 : ftc (PT 420) 2019 = some (2019, .iaload, 1, 0, 0, 0) := by decide +kernel
theorem f_420_2020 : ftc (PT 420) 2020 = some (2020, .ifCond .eq 7, 3, 2027, 0, 0) := by decide +kernel
theorem f_420_2023 : ftc (PT 420) 2023 = some (2023, .iconst 1, 1, 0, 0, 0) := by decide +kernel
theorem f_420_2024 : ftc (PT 420) 2024 = some (2024, .goto 4, 3, 2028, 0, 0) := by decide +kernel
theorem f_420_2027 : ftc (PT 420) 2027 = some (2027, .iconst 0, 1, 0, 0, 0) := by decide +kernel
theorem f_420_2028 : ftc (PT 420) 2028 = some (2028, .aload_n 0, 1, 0, 0, 0) := by decide +kernel
theorem f_420_2029 : ftc (PT 420) 2029 = some (2029, .iload 4, 2, 0, 0, 0) := by decide +kernel
theorem f_420_2031 : ftc (PT 420) 2031 = some (2031, .iconst 3, 1, 0, 0, 0) := by decide +kernel
theorem f_420_2032 : ftc (PT 420) 2032 = some (2032, .iadd, 1, 0, 0, 0) := by decide +kernel
theorem f_420_2033 : ftc (PT 420) 2033 = some (2033, .iaload, 1, 0, 0, 0) := by decide +kernel
theorem f_420_2034 : ftc (PT 420) 2034 = some (2034, .ifCond .eq 7, 3, 2041, 0, 0) := by decide +kernel
theorem f_420_2037 : ftc (PT 420) 2037 = some (2037, .iconst 1, 1, 0, 0, 0) := by decide +kernel
theorem f_420_2038 : ftc (PT 420) 2038 = some (2038, .goto 4, 3, 2042, 0, 0) := by decide +kernel
theorem f_420_2041 : ftc (PT 420) 2041 = some (2041, .iconst 0, 1, 0, 0, 0) := by decide +kernel
theorem f_420_2042 : ftc (PT 420) 2042 = some (2042, .aload_n 3, 1, 0, 0, 0) := by decide +kernel
theorem f_420_2043 : ftc (PT 420) 2043 = some (2043, .invokestatic 277, 3, 387, 6149, 1182) := by decide +kernel
theorem f_420_2046 : ftc (PT 420) 2046 = some (2046, .istore 5, 2, 0, 0, 0) := by decide +kernel
theorem f_420_2048 : ftc (PT 420) 2048 = some (2048, .aload_n 2, 1, 0, 0, 0) := by decide +kernel
theorem f_420_2049 : ftc (PT 420) 2049 = some (2049, .aload_n 0, 1, 0, 0, 0) := by decide +kernel
theorem f_420_2050 : ftc (PT 420) 2050 = some (2050, .iload 4, 2, 0, 0, 0) := by decide +kernel
theorem f_420_2052 : ftc (PT 420) 2052 = some (2052, .iconst 1, 1, 0, 0, 0) := by decide +kernel
theorem f_420_2053 : ftc (PT 420) 2053 = some (2053, .iadd, 1, 0, 0, 0) := by decide +kernel
theorem f_420_2054 : ftc (PT 420) 2054 = some (2054, .iaload, 1, 0, 0, 0) := by decide +kernel
theorem f_420_2055 : ftc (PT 420) 2055 = some (2055, .aload_n 0, 1, 0, 0, 0) := by decide +kernel
theorem f_420_2056 : ftc (PT 420) 2056 = some (2056, .iload 4, 2, 0, 0, 0) := by decide +kernel
theorem f_420_2058 : ftc (PT 420) 2058 = some (2058, .iconst 2, 1, 0, 0, 0) := by decide +kernel
theorem f_420_2059 : ftc (PT 420) 2059 = some (2059, .iadd, 1, 0, 0, 0) := by decide +kernel
theorem f_420_2060 : ftc (PT 420) 2060 = some (2060, .iaload, 1, 0, 0, 0) := by decide +kernel
theorem f_420_2061 : ftc (PT 420) 2061 = some (2061, .ifCond .eq 7, 3, 2068, 0, 0) := by decide +kernel
theorem f_420_2064 : ftc (PT 420) 2064 = some (2064, .iconst 1, 1, 0, 0, 0) := by decide +kernel
theorem f_420_2065 : ftc (PT 420) 2065 = some (2065, .goto 4, 3, 2069, 0, 0) := by decide +kernel
theorem f_420_2068 : ftc (PT 420) 2068 = some (2068, .iconst 0, 1, 0, 0, 0) := by decide +kernel
theorem f_420_2069 : ftc (PT 420) 2069 = some (2069, .aload_n 0, 1, 0, 0, 0) := by decide +kernel
theorem f_420_2070 : ftc (PT 420) 2070 = some (2070, .iload 4, 2, 0, 0, 0) := by decide +kernel
theorem f_420_2072 : ftc (PT 420) 2072 = some (2072, .iconst 3, 1, 0, 0, 0) := by decide +kernel
theorem f_420_2073 : ftc (PT 420) 2073 = some (2073, .iadd, 1, 0, 0, 0) := by decide +kernel
theorem f_420_2074 : ftc (PT 420) 2074 = some (2074, .iaload, 1, 0, 0, 0) := by decide +kernel
theorem f_420_2075 : ftc (PT 420) 2075 = some (2075, .ifCond .eq 7, 3, 2082, 0, 0) := by decide +kernel
theorem f_420_2078 : ftc (PT 420) 2078 = some (2078, .iconst 1, 1, 0, 0, 0) := by decide +kernel
theorem f_420_2079 : ftc (PT 420) 2079 = some (2079, .goto 4, 3, 2083, 0, 0) := by decide +kernel
theorem f_420_2082 : ftc (PT 420) 2082 = some (2082, .iconst 0, 1, 0, 0, 0) := by decide +kernel
theorem f_420_2083 : ftc (PT 420) 2083 = some (2083, .invokevirtual 279, 3, 269, 4204, 1995) := by decide +kernel
theorem f_420_2086 : ftc (PT 420) 2086 = some (2086, .lstore 6, 2, 0, 0, 0) := by decide +kernel
theorem f_420_2088 : ftc (PT 420) 2088 = some (2088, .aload_n 2, 1, 0, 0, 0) := by decide +kernel
theorem f_420_2089 : ftc (PT 420) 2089 = some (2089, .invokevirtual 202, 3, 212, 1036, 1769) := by decide +kernel
theorem f_420_2092 : ftc (PT 420) 2092 = some (2092, .iload 5, 2, 0, 0, 0) := by decide +kernel
theorem f_420_2094 : ftc (PT 420) 2094 = some (2094, .if_icmp .eq 5, 3, 2099, 0, 0) := by decide +kernel
theorem f_420_2097 : ftc (PT 420) 2097 = some (2097, .iconst 0, 1, 0, 0, 0) := by decide +kernel
theorem f_420_2098 : ftc (PT 420) 2098 = some (2098, .ireturn, 1, 1, 0, 0) := by decide +kernel
theorem f_420_2099 : ftc (PT 420) 2099 = some (2099, .iload 5, 2, 0, 0, 0) := by decide +kernel
theorem f_420_2101 : ftc (PT 420) 2101 = some (2101, .ifCond .ne 14, 3, 2115, 0, 0) := by decide +kernel
theorem f_420_2104 : ftc (PT 420) 2104 = some (2104, .aload_n 3, 1, 0, 0, 0) := by decide +kernel
theorem f_420_2105 : ftc (PT 420) 2105 = some (2105, .iconst 0, 1, 0, 0, 0) := by decide +kernel
theorem f_420_2106 : ftc (PT 420) 2106 = some (2106, .laload, 1, 0, 0, 0) := by decide +kernel
theorem f_420_2107 : ftc (PT 420) 2107 = some (2107, .lload 6, 2, 0, 0, 0) := by decide +kernel
theorem f_420_2109 : ftc (PT 420) 2109 = some (2109, .lcmp, 1, 0, 0, 0) := by decide +kernel
theorem f_420_2110 : ftc (PT 420) 2110 = some (2110, .ifCond .eq 5, 3, 2115, 0, 0) := by decide +kernel
theorem f_420_2113 : ftc (PT 420) 2113 = some (2113, .iconst 0, 1, 0, 0, 0) := by decide +kernel
theorem f_420_2114 : ftc (PT 420) 2114 = some (2114, .ireturn, 1, 1, 0, 0) := by decide +kernel
theorem f_420_2115 : ftc (PT 420) 2115 = some (2115, .goto 2802, 3, 4917, 0, 0) := by decide +kernel
theorem f_420_2118 : ftc (PT 420) 2118 = some (2118, .aload_n 1, 1, 0, 0, 0) := by decide +kernel
theorem f_420_2119 : ftc (PT 420) 2119 = some (2119, .aload_n 0, 1, 0, 0, 0) := by decide +kernel
theorem f_420_2120 : ftc (PT 420) 2120 = some (2120, .iload 4, 2, 0, 0, 0) := by decide +kernel
theorem f_420_2122 : ftc (PT 420) 2122 = some (2122, .iconst 1, 1, 0, 0, 0) := by decide +kernel
theorem f_420_2123 : ftc (PT 420) 2123 = some (2123, .iadd, 1, 0, 0, 0) := by decide +kernel
theorem f_420_2124 : ftc (PT 420) 2124 = some (2124, .iaload, 1, 0, 0, 0) := by decide +kernel
theorem f_420_2125 : ftc (PT 420) 2125 = some (2125, .aload_n 0, 1, 0, 0, 0) := by decide +kernel
theorem f_420_2126 : ftc (PT 420) 2126 = some (2126, .iload 4, 2, 0, 0, 0) := by decide +kernel
theorem f_420_2128 : ftc (PT 420) 2128 = some (2128, .iconst 2, 1, 0, 0, 0) := by decide +kernel
theorem f_420_2129 : ftc (PT 420) 2129 = some (2129, .iadd, 1, 0, 0, 0) := by decide +kernel
theorem f_420_2130 : ftc (PT 420) 2130 = some (2130, .iaload, 1, 0, 0, 0) := by decide +kernel
theorem f_420_2131 : ftc (PT 420) 2131 = some (2131, .ifCond .eq 7, 3, 2138, 0, 0) := by decide +kernel
theorem f_420_2134 : ftc (PT 420) 2134 = some (2134, .iconst 1, 1, 0, 0, 0) := by decide +kernel
theorem f_420_2135 : ftc (PT 420) 2135 = some (2135, .goto 4, 3, 2139, 0, 0) := by decide +kernel
theorem f_420_2138 : ftc (PT 420) 2138 = some (2138, .iconst 0, 1, 0, 0, 0) := by decide +kernel
theorem f_420_2139 : ftc (PT 420) 2139 = some (2139, .aload_n 0, 1, 0, 0, 0) := by decide +kernel
theorem f_420_2140 : ftc (PT 420) 2140 = some (2140, .iload 4, 2, 0, 0, 0) := by decide +kernel
theorem f_420_2142 : ftc (PT 420) 2142 = some (2142, .iconst 3, 1, 0, 0, 0) := by decide +kernel
theorem f_420_2143 : ftc (PT 420) 2143 = some (2143, .iadd, 1, 0, 0, 0) := by decide +kernel
theorem f_420_2144 : ftc (PT 420) 2144 = some (2144, .iaload, 1, 0, 0, 0) := by decide +kernel
theorem f_420_2145 : ftc (PT 420) 2145 = some (2145, .aload_n 3, 1, 0, 0, 0) := by decide +kernel
theorem f_420_2146 : ftc (PT 420) 2146 = some (2146, .invokestatic 280, 3, 388, 6149, 1193) := by decide +kernel
theorem f_420_4923 : ftc (PT 420) 4923 = some (4923, .iconst 1, 1, 0, 0, 0) := by decide +kernel
theorem f_420_4924 : ftc (PT 420) 4924 = some (4924, .ireturn, 1, 1, 0, 0) := by decide +kernel
set_option maxRecDepth 10000 in
set_option maxHeartbeats 4000000 in
theorem s_406_0 {Lx : Nat} {I : Mi} {L : Ml} {e : Nat} {Q : Kq} {x1 : Int32} {x2 : Int32} {x3 : Int32} {x4 : Int32} {x5 : Int32} {x6 : Int32} {x7 : Int32} {x8 : Int32} {x9 : Int32} (h :
    (if x1 < 0 then
     Q (.inl (some (.int (Int32.ofInt 1)))) (gE Lx) I L (e + 1)
    else
     (if (I 5 3) < x1 then
      Q (.inl (some (.int (Int32.ofInt 1)))) (gE Lx) I L (e + 1)
     else
      Wp 114 0 [(0, .long x3.toInt64), (2, .long x4.toInt64)] [] (gE Lx) I L e (kcp (Wp 151) 151 4 0 [(0, .ref 1), (1, .int x3)] 71 [] (kcp (Wp 185) 185 8 0 [(0, .ref 1), (4, .int x5), (5, .int x6)] 71 [] (kcp (Wp 187) 187 9 0 [(0, .ref 1), (1, .int x1), (2, .int x2), (3, .int x3), (4, .int x4), (5, .int x5), (6, .int x6), (7, .int x7), (8, .int x8), (9, .int x9)] 71 [] (kcp (Wp 406) 406 19 0 [(0, .ref 1), (10, .ref 70)] 71 [.int (Int32.ofInt 0), .ref 70] Q))))))) :
    Wp 406 0 [(0, .ref 1), (1, .int x1), (2, .int x2), (3, .int x3), (4, .int x4), (5, .int x5), (6, .int x6), (7, .int x7), (8, .int x8), (9, .int x9), (10, .ref 70)] [] (gE Lx) I L e Q := by
  refine w_a f_406_0 ?_
  refine w_a f_406_2 ?_
  refine w_a f_406_3 ?_
  refine w_a f_406_4 ?_
  refine w_a f_406_5 ?_
  refine w_a f_406_6 ?_
  refine w_a f_406_7 ?_
  refine w_a f_406_9 ?_
  refine w_a f_406_11 ?_
  refine w_a f_406_13 ?_
  refine w_a f_406_15 ?_
  refine w_a f_406_17 ?_
  refine w_c (ks := [0, 10]) f_406_19 rfl rfl ?_
  refine w_a (ls := [(0, .ref 1), (1, .int x1), (2, .int x2), (3, .int x3), (4, .int x4), (5, .int x5), (6, .int x6), (7, .int x7), (8, .int x8), (9, .int x9)]) f_187_0 ?_
  refine w_a f_187_1 ?_
  refine w_a f_187_2 ?_
  refine w_a f_187_3 ?_
  refine w_a f_187_5 ?_
  refine w_a f_187_7 ?_
  refine w_c (ks := [0, 1, 2, 3, 4, 5, 6, 7, 8, 9]) f_187_9 rfl rfl ?_
  refine w_a (ls := [(0, .ref 1), (1, .int x1), (2, .int x3), (3, .int x4), (4, .int x5), (5, .int x6)]) f_185_0 ?_
  refine w_a f_185_1 ?_
  refine w_a f_185_2 ?_
  refine w_a (ls := [(0, .ref 1), (1, .int x1)]) f_122_0 ?_
  refine w_a f_122_1 ?_
  refine i_m (fun h => ?_) (fun h => ?_) h
  · refine w_a f_122_15 ?_
    exact h
  · refine w_a f_122_4 ?_
    refine w_a f_122_5 ?_
    refine w_a f_122_6 ?_
    refine w_a f_122_9 ?_
    refine w_a f_122_12 ?_
    refine i_m (fun h => ?_) (fun h => ?_) h
    · refine w_a f_122_15 ?_
      exact h
    · refine w_a f_122_23 ?_
      refine w_a (ls := [(0, .ref 1), (1, .int x1), (2, .int x3), (3, .int x4), (4, .int x5), (5, .int x6)]) f_185_5 ?_
      refine w_a f_185_6 ?_
      refine w_a f_185_7 ?_
      refine w_c (ks := [0, 4, 5]) f_185_8 rfl rfl ?_
      refine w_a (ls := [(0, .ref 1), (1, .int x3), (2, .int x4)]) f_151_0 ?_
      refine w_a f_151_1 ?_
      refine w_a f_151_2 ?_
      refine w_a f_151_3 ?_
      exact w_c (ks := [0, 1]) f_151_4 rfl rfl h
set_option maxRecDepth 10000 in
set_option maxHeartbeats 4000000 in
theorem s_407_0 {Lx : Nat} {I : Mi} {L : Ml} {e : Nat} {Q : Kq} {x1 : Int32} {x2 : Int32} {x3 : Int32} {x4 : Int32} {x5 : Int32} (h :
    (if x1 < 0 then
     Q (.inl (some (.int (Int32.ofInt 1)))) (gE Lx) I L (e + 1)
    else
     (if (I 5 3) < x1 then
      Q (.inl (some (.int (Int32.ofInt 1)))) (gE Lx) I L (e + 1)
     else
      (if x3 < (Int32.ofInt 1) then
       Q (.inl (some (.int (Int32.ofInt 2)))) (gE Lx) I L (e + 1)
      else
       (if (Int32.ofInt 12) < x3 then
        Q (.inl (some (.int (Int32.ofInt 2)))) (gE Lx) I L (e + 1)
       else
        (if x4 < 0 then
         Q (.inl (some (.int (Int32.ofInt 2)))) (gE Lx) I L (e + 1)
        else
         (if (Int32.ofInt 99) < x4 then
          Q (.inl (some (.int (Int32.ofInt 2)))) (gE Lx) I L (e + 1)
         else
          (if x5 < (Int32.ofInt 1) then
           Q (.inl (some (.int (Int32.ofInt 2)))) (gE Lx) I L (e + 1)
          else
           (if (Int32.ofInt 20) < x5 then
            Q (.inl (some (.int (Int32.ofInt 2)))) (gE Lx) I L (e + 1)
           else
            Wp 136 0 [(0, .ref 1), (1, .int x1)] [] (gE Lx) I L e (kcp (Wp 148) 148 2 0 [(0, .ref 1), (2, .int x2)] 71 [] (kcp (Wp 188) 188 48 0 [(0, .ref 1), (2, .int x2), (3, .int x3), (4, .int x4), (5, .int x5)] 71 [] (kcp (Wp 407) 407 11 0 [(0, .ref 1), (6, .ref 70)] 71 [.int (Int32.ofInt 0), .ref 70] Q)))))))))))) :
    Wp 407 0 [(0, .ref 1), (1, .int x1), (2, .int x2), (3, .int x3), (4, .int x4), (5, .int x5), (6, .ref 70)] [] (gE Lx) I L e Q := by
  refine w_a f_407_0 ?_
  refine w_a f_407_2 ?_
  refine w_a f_407_3 ?_
  refine w_a f_407_4 ?_
  refine w_a f_407_5 ?_
  refine w_a f_407_6 ?_
  refine w_a f_407_7 ?_
  refine w_a f_407_9 ?_
  refine w_c (ks := [0, 6]) f_407_11 rfl rfl ?_
  refine w_a (ls := [(0, .ref 1), (1, .int x1), (2, .int x2), (3, .int x3), (4, .int x4), (5, .int x5)]) f_188_0 ?_
  refine w_a f_188_1 ?_
  refine w_a f_188_2 ?_
  refine w_a (ls := [(0, .ref 1), (1, .int x1)]) f_122_0 ?_
  refine w_a f_122_1 ?_
  refine i_m (fun h => ?_) (fun h => ?_) h
  · refine w_a f_122_15 ?_
    exact h
  · refine w_a f_122_4 ?_
    refine w_a f_122_5 ?_
    refine w_a f_122_6 ?_
    refine w_a f_122_9 ?_
    refine w_a f_122_12 ?_
    refine i_m (fun h => ?_) (fun h => ?_) h
    · refine w_a f_122_15 ?_
      exact h
    · refine w_a f_122_23 ?_
      refine w_a (ls := [(0, .ref 1), (1, .int x1), (2, .int x2), (3, .int x3), (4, .int x4), (5, .int x5)]) f_188_5 ?_
      refine w_a f_188_6 ?_
      refine w_a f_188_7 ?_
      refine w_a f_188_9 ?_
      refine w_a (ls := [(0, .ref 1), (1, .int x3), (2, .int (Int32.ofInt 12))]) f_169_0 ?_
      refine w_a f_169_1 ?_
      refine w_a f_169_2 ?_
      refine i_m (fun h => ?_) (fun h => ?_) h
      · refine w_a f_169_10 ?_
        exact h
      · refine w_a f_169_5 ?_
        refine w_a f_169_6 ?_
        refine w_a f_169_7 ?_
        refine i_m (fun h => ?_) (fun h => ?_) h
        · refine w_a f_169_10 ?_
          exact h
        · refine w_a f_169_18 ?_
          refine w_a (ls := [(0, .ref 1), (1, .int x1), (2, .int x2), (3, .int x3), (4, .int x4), (5, .int x5)]) f_188_12 ?_
          refine w_a f_188_14 ?_
          refine i_m (fun h => ?_) (fun h => ?_) h
          · refine w_a f_188_37 ?_
            exact h
          · refine w_a f_188_17 ?_
            refine w_a f_188_19 ?_
            refine w_a f_188_21 ?_
            refine i_m (fun h => ?_) (fun h => ?_) h
            · refine w_a f_188_37 ?_
              exact h
            · refine w_a f_188_24 ?_
              refine w_a f_188_26 ?_
              refine w_a f_188_27 ?_
              refine i_m (fun h => ?_) (fun h => ?_) h
              · refine w_a f_188_37 ?_
                exact h
              · refine w_a f_188_30 ?_
                refine w_a f_188_32 ?_
                refine w_a f_188_34 ?_
                refine i_m (fun h => ?_) (fun h => ?_) h
                · refine w_a f_188_37 ?_
                  exact h
                · refine w_a f_188_45 ?_
                  refine w_a f_188_46 ?_
                  refine w_a f_188_47 ?_
                  refine w_c (ks := [0, 2, 3, 4, 5]) f_188_48 rfl rfl ?_
                  refine w_a (ls := [(0, .ref 1), (1, .int x1), (2, .int x2)]) f_148_0 ?_
                  refine w_a f_148_1 ?_
                  exact w_c (ks := [0, 2]) f_148_2 rfl rfl h
set_option maxRecDepth 10000 in
set_option maxHeartbeats 4000000 in
theorem s_408_0 {Lx : Nat} {I : Mi} {L : Ml} {e : Nat} {Q : Kq} {x1 : Int32} {x2 : Int32} {x3 : Int32} {x4 : Int32} {x5 : Int32} (h :
    (if x1 < 0 then
     Q (.inl (some (.int (Int32.ofInt 1)))) (gE Lx) I L (e + 1)
    else
     (if (I 5 3) < x1 then
      Q (.inl (some (.int (Int32.ofInt 1)))) (gE Lx) I L (e + 1)
     else
      (if x5 < 0 then
       Q (.inl (some (.int (Int32.ofInt 2)))) (gE Lx) I L (e + 1)
      else
       (if (Int32.ofInt 3) < x5 then
        Q (.inl (some (.int (Int32.ofInt 2)))) (gE Lx) I L (e + 1)
       else
        (if x3 < (Int32.ofInt 1) then
         Q (.inl (some (.int (Int32.ofInt 3)))) (gE Lx) I L (e + 1)
        else
         (if (Int32.ofInt 12) < x3 then
          Q (.inl (some (.int (Int32.ofInt 3)))) (gE Lx) I L (e + 1)
         else
          Wp 136 0 [(0, .ref 1), (1, .int x1)] [] (gE Lx) I L e (kcp (Wp 148) 148 2 0 [(0, .ref 1), (2, .int x2)] 71 [] (kcp (Wp 190) 190 22 0 [(0, .ref 1), (2, .int x2), (3, .int x3), (4, .int x4), (5, .int x5)] 71 [] (kcp (Wp 408) 408 11 0 [(0, .ref 1), (6, .ref 70)] 71 [.int (Int32.ofInt 0), .ref 70] Q)))))))))) :
    Wp 408 0 [(0, .ref 1), (1, .int x1), (2, .int x2), (3, .int x3), (4, .int x4), (5, .int x5), (6, .ref 70)] [] (gE Lx) I L e Q := by
  refine w_a f_408_0 ?_
  refine w_a f_408_2 ?_
  refine w_a f_408_3 ?_
  refine w_a f_408_4 ?_
  refine w_a f_408_5 ?_
  refine w_a f_408_6 ?_
  refine w_a f_408_7 ?_
  refine w_a f_408_9 ?_
  refine w_c (ks := [0, 6]) f_408_11 rfl rfl ?_
  refine w_a (ls := [(0, .ref 1), (1, .int x1), (2, .int x2), (3, .int x3), (4, .int x4), (5, .int x5)]) f_190_0 ?_
  refine w_a f_190_1 ?_
  refine w_a f_190_2 ?_
  refine w_a (ls := [(0, .ref 1), (1, .int x1)]) f_122_0 ?_
  refine w_a f_122_1 ?_
  refine i_m (fun h => ?_) (fun h => ?_) h
  · refine w_a f_122_15 ?_
    exact h
  · refine w_a f_122_4 ?_
    refine w_a f_122_5 ?_
    refine w_a f_122_6 ?_
    refine w_a f_122_9 ?_
    refine w_a f_122_12 ?_
    refine i_m (fun h => ?_) (fun h => ?_) h
    · refine w_a f_122_15 ?_
      exact h
    · refine w_a f_122_23 ?_
      refine w_a (ls := [(0, .ref 1), (1, .int x1), (2, .int x2), (3, .int x3), (4, .int x4), (5, .int x5)]) f_190_5 ?_
      refine w_a f_190_6 ?_
      refine w_a f_190_8 ?_
      refine w_a f_190_9 ?_
      refine w_a (ls := [(0, .ref 1), (1, .int x5), (2, .int (Int32.ofInt 3))]) f_120_0 ?_
      refine w_a f_120_1 ?_
      refine i_m (fun h => ?_) (fun h => ?_) h
      · refine w_a f_120_9 ?_
        exact h
      · refine w_a f_120_4 ?_
        refine w_a f_120_5 ?_
        refine w_a f_120_6 ?_
        refine i_m (fun h => ?_) (fun h => ?_) h
        · refine w_a f_120_9 ?_
          exact h
        · refine w_a f_120_17 ?_
          refine w_a (ls := [(0, .ref 1), (1, .int x1), (2, .int x2), (3, .int x3), (4, .int x4), (5, .int x5)]) f_190_12 ?_
          refine w_a f_190_13 ?_
          refine w_a f_190_14 ?_
          refine w_a f_190_16 ?_
          refine w_a (ls := [(0, .ref 1), (1, .int x3), (2, .int (Int32.ofInt 12))]) f_169_0 ?_
          refine w_a f_169_1 ?_
          refine w_a f_169_2 ?_
          refine i_m (fun h => ?_) (fun h => ?_) h
          · refine w_a f_169_10 ?_
            exact h
          · refine w_a f_169_5 ?_
            refine w_a f_169_6 ?_
            refine w_a f_169_7 ?_
            refine i_m (fun h => ?_) (fun h => ?_) h
            · refine w_a f_169_10 ?_
              exact h
            · refine w_a f_169_18 ?_
              refine w_a (ls := [(0, .ref 1), (1, .int x1), (2, .int x2), (3, .int x3), (4, .int x4), (5, .int x5)]) f_190_19 ?_
              refine w_a f_190_20 ?_
              refine w_a f_190_21 ?_
              refine w_c (ks := [0, 2, 3, 4, 5]) f_190_22 rfl rfl ?_
              refine w_a (ls := [(0, .ref 1), (1, .int x1), (2, .int x2)]) f_148_0 ?_
              refine w_a f_148_1 ?_
              exact w_c (ks := [0, 2]) f_148_2 rfl rfl h
set_option maxRecDepth 10000 in
set_option maxHeartbeats 4000000 in
theorem s_409_0 {Lx : Nat} {I : Mi} {L : Ml} {e : Nat} {Q : Kq} {x1 : Int32} {x2 : Int32} {x3 : Int32} {x4 : Int32} {x5 : Int32} (h :
    (if x1 < 0 then
     Q (.inl (some (.int (Int32.ofInt 1)))) (gE Lx) I L (e + 1)
    else
     (if (I 5 3) < x1 then
      Q (.inl (some (.int (Int32.ofInt 1)))) (gE Lx) I L (e + 1)
     else
      (if x5 < 0 then
       Q (.inl (some (.int (Int32.ofInt 2)))) (gE Lx) I L (e + 1)
      else
       (if (Int32.ofInt 2) < x5 then
        Q (.inl (some (.int (Int32.ofInt 2)))) (gE Lx) I L (e + 1)
       else
        Wp 114 0 [(0, .long x2.toInt64), (2, .long x3.toInt64)] [] (gE Lx) I L e (kcp (Wp 113) 113 4 0 [(0, .ref 1)] 71 [] (kcp (Wp 192) 192 15 0 [(0, .ref 1), (1, .int x1), (2, .int x2), (3, .int x3), (4, .int x4), (5, .int x5)] 71 [] (kcp (Wp 409) 409 11 0 [(0, .ref 1), (6, .ref 70)] 71 [.int (Int32.ofInt 0), .ref 70] Q)))))))) :
    Wp 409 0 [(0, .ref 1), (1, .int x1), (2, .int x2), (3, .int x3), (4, .int x4), (5, .int x5), (6, .ref 70)] [] (gE Lx) I L e Q := by
  refine w_a f_409_0 ?_
  refine w_a f_409_2 ?_
  refine w_a f_409_3 ?_
  refine w_a f_409_4 ?_
  refine w_a f_409_5 ?_
  refine w_a f_409_6 ?_
  refine w_a f_409_7 ?_
  refine w_a f_409_9 ?_
  refine w_c (ks := [0, 6]) f_409_11 rfl rfl ?_
  refine w_a (ls := [(0, .ref 1), (1, .int x1), (2, .int x2), (3, .int x3), (4, .int x4), (5, .int x5)]) f_192_0 ?_
  refine w_a f_192_1 ?_
  refine w_a f_192_2 ?_
  refine w_a (ls := [(0, .ref 1), (1, .int x1)]) f_122_0 ?_
  refine w_a f_122_1 ?_
  refine i_m (fun h => ?_) (fun h => ?_) h
  · refine w_a f_122_15 ?_
    exact h
  · refine w_a f_122_4 ?_
    refine w_a f_122_5 ?_
    refine w_a f_122_6 ?_
    refine w_a f_122_9 ?_
    refine w_a f_122_12 ?_
    refine i_m (fun h => ?_) (fun h => ?_) h
    · refine w_a f_122_15 ?_
      exact h
    · refine w_a f_122_23 ?_
      refine w_a (ls := [(0, .ref 1), (1, .int x1), (2, .int x2), (3, .int x3), (4, .int x4), (5, .int x5)]) f_192_5 ?_
      refine w_a f_192_6 ?_
      refine w_a f_192_8 ?_
      refine w_a f_192_9 ?_
      refine w_a (ls := [(0, .ref 1), (1, .int x5), (2, .int (Int32.ofInt 2))]) f_120_0 ?_
      refine w_a f_120_1 ?_
      refine i_m (fun h => ?_) (fun h => ?_) h
      · refine w_a f_120_9 ?_
        exact h
      · refine w_a f_120_4 ?_
        refine w_a f_120_5 ?_
        refine w_a f_120_6 ?_
        refine i_m (fun h => ?_) (fun h => ?_) h
        · refine w_a f_120_9 ?_
          exact h
        · refine w_a f_120_17 ?_
          refine w_a (ls := [(0, .ref 1), (1, .int x1), (2, .int x2), (3, .int x3), (4, .int x4), (5, .int x5)]) f_192_12 ?_
          refine w_a f_192_13 ?_
          refine w_a f_192_14 ?_
          refine w_c (ks := [0, 1, 2, 3, 4, 5]) f_192_15 rfl rfl ?_
          refine w_a (ls := [(0, .ref 1), (1, .int x2), (2, .int x3)]) f_113_0 ?_
          refine w_a f_113_1 ?_
          refine w_a f_113_2 ?_
          refine w_a f_113_3 ?_
          exact w_c (ks := [0]) f_113_4 rfl rfl h
set_option maxRecDepth 10000 in
set_option maxHeartbeats 4000000 in
theorem s_410_0 {Lx : Nat} {I : Mi} {L : Ml} {e : Nat} {Q : Kq} {x1 : Int32} {x2 : Int32} (h :
    (if x2 < 0 then
     Q (.inl (some (.int (Int32.ofInt 1)))) (gE Lx) I L (e + 1)
    else
     (if (Int32.ofInt 3) < x2 then
      Q (.inl (some (.int (Int32.ofInt 1)))) (gE Lx) I L (e + 1)
     else
      (if x1 < (Int32.ofInt 2) then
       Q (.inl (some (.int (Int32.ofInt 2)))) (gE Lx) I L (e + 1)
      else
       (if (Int32.ofInt 3) < x1 then
        Q (.inl (some (.int (Int32.ofInt 2)))) (gE Lx) I L (e + 1)
       else
        (if (I 5 3) < (Int32.ofInt 4) then
         Wp 195 0 [(0, .ref 1), (1, .int x1)] [] (gE Lx) I L e (kcp (Wp 194) 194 45 0 [(0, .ref 1), (2, .int x2)] 71 [] (kcp (Wp 410) 410 5 0 [(0, .ref 1), (3, .ref 70)] 71 [.int (Int32.ofInt 0), .ref 70] Q))
        else
         Q (.inl (some (.int (Int32.ofInt 3)))) (gE Lx) I L (e + 1))))))) :
    Wp 410 0 [(0, .ref 1), (1, .int x1), (2, .int x2), (3, .ref 70)] [] (gE Lx) I L e Q := by
  refine w_a f_410_0 ?_
  refine w_a f_410_1 ?_
  refine w_a f_410_2 ?_
  refine w_a f_410_3 ?_
  refine w_a f_410_4 ?_
  refine w_c (ks := [0, 3]) f_410_5 rfl rfl ?_
  refine w_a (ls := [(0, .ref 1), (1, .int x1), (2, .int x2)]) f_194_0 ?_
  refine w_a f_194_1 ?_
  refine w_a f_194_2 ?_
  refine w_a f_194_3 ?_
  refine w_a (ls := [(0, .ref 1), (1, .int x2), (2, .int (Int32.ofInt 3))]) f_120_0 ?_
  refine w_a f_120_1 ?_
  refine i_m (fun h => ?_) (fun h => ?_) h
  · refine w_a f_120_9 ?_
    exact h
  · refine w_a f_120_4 ?_
    refine w_a f_120_5 ?_
    refine w_a f_120_6 ?_
    refine i_m (fun h => ?_) (fun h => ?_) h
    · refine w_a f_120_9 ?_
      exact h
    · refine w_a f_120_17 ?_
      refine w_a (ls := [(0, .ref 1), (1, .int x1), (2, .int x2)]) f_194_6 ?_
      refine w_a f_194_7 ?_
      refine w_a f_194_8 ?_
      refine i_m (fun h => ?_) (fun h => ?_) h
      · refine w_a f_194_16 ?_
        exact h
      · refine w_a f_194_11 ?_
        refine w_a f_194_12 ?_
        refine w_a f_194_13 ?_
        refine i_m (fun h => ?_) (fun h => ?_) h
        · refine w_a f_194_16 ?_
          exact h
        · refine w_a f_194_24 ?_
          refine w_a f_194_25 ?_
          refine w_a f_194_28 ?_
          refine w_a f_194_31 ?_
          refine w_a f_194_32 ?_
          refine i_m (fun h => ?_) (fun h => ?_) h
          · refine w_a f_194_43 ?_
            refine w_a f_194_44 ?_
            exact w_c (ks := [0, 2]) f_194_45 rfl rfl h
          · refine w_a f_194_35 ?_
            exact h
set_option maxRecDepth 10000 in
set_option maxHeartbeats 4000000 in
theorem s_411_0 {Lx : Nat} {I : Mi} {L : Ml} {e : Nat} {Q : Kq} {x1 : Int32} (h :
    (if x1 < 0 then
     Q (.inl (some (.int (Int32.ofInt 1)))) (gE Lx) I L (e + 1)
    else
     (if (Int32.ofInt 1) < x1 then
      Q (.inl (some (.int (Int32.ofInt 1)))) (gE Lx) I L (e + 1)
     else
      Wp 106 0 [(0, .ref 5), (1, .int (I 5 3)), (2, .ref 14)] [] (gE Lx) I L e (kcp (Wp 198) 198 15 0 [(0, .ref 1)] 71 [] (kcp (Wp 197) 197 7 0 [(0, .ref 1), (1, .int x1)] 71 [] (kcp (Wp 411) 411 4 0 [(0, .ref 1), (2, .ref 70)] 71 [.int (Int32.ofInt 0), .ref 70] Q)))))) :
    Wp 411 0 [(0, .ref 1), (1, .int x1), (2, .ref 70)] [] (gE Lx) I L e Q := by
  refine w_a f_411_0 ?_
  refine w_a f_411_1 ?_
  refine w_a f_411_2 ?_
  refine w_a f_411_3 ?_
  refine w_c (ks := [0, 2]) f_411_4 rfl rfl ?_
  refine w_a (ls := [(0, .ref 1), (1, .int x1)]) f_197_0 ?_
  refine w_a f_197_1 ?_
  refine w_a f_197_2 ?_
  refine w_a f_197_3 ?_
  refine w_a (ls := [(0, .ref 1), (1, .int x1), (2, .int (Int32.ofInt 1))]) f_120_0 ?_
  refine w_a f_120_1 ?_
  refine i_m (fun h => ?_) (fun h => ?_) h
  · refine w_a f_120_9 ?_
    exact h
  · refine w_a f_120_4 ?_
    refine w_a f_120_5 ?_
    refine w_a f_120_6 ?_
    refine i_m (fun h => ?_) (fun h => ?_) h
    · refine w_a f_120_9 ?_
      exact h
    · refine w_a f_120_17 ?_
      refine w_a (ls := [(0, .ref 1), (1, .int x1)]) f_197_6 ?_
      refine w_c (ks := [0, 1]) f_197_7 rfl rfl ?_
      refine w_a (ls := [(0, .ref 1)]) f_198_0 ?_
      refine w_a f_198_1 ?_
      refine w_a f_198_4 ?_
      refine w_a f_198_5 ?_
      refine w_a f_198_8 ?_
      refine w_a f_198_11 ?_
      refine w_a f_198_12 ?_
      exact w_c (ks := [0]) f_198_15 rfl rfl h
set_option maxRecDepth 10000 in
set_option maxHeartbeats 4000000 in
theorem s_412_0 {Lx : Nat} {I : Mi} {L : Ml} {e : Nat} {Q : Kq} {x1 : Int32} (h :
    (if x1 < 0 then
     Q (.inl (some (.int (Int32.ofInt 1)))) (gE Lx) I L (e + 1)
    else
     (if (Int32.ofInt 2) < x1 then
      Q (.inl (some (.int (Int32.ofInt 1)))) (gE Lx) I L (e + 1)
     else
      Wp 65 0 [(0, .ref 22), (1, .ref 5)] [] (gE Lx) I L e (kcp (Wp 201) 201 14 0 [(0, .ref 1), (1, .int x1)] 71 [] (kcp (Wp 412) 412 4 0 [(0, .ref 1), (2, .ref 70)] 71 [.int (Int32.ofInt 0), .ref 70] Q))))) :
    Wp 412 0 [(0, .ref 1), (1, .int x1), (2, .ref 70)] [] (gE Lx) I L e Q := by
  refine w_a f_412_0 ?_
  refine w_a f_412_1 ?_
  refine w_a f_412_2 ?_
  refine w_a f_412_3 ?_
  refine w_c (ks := [0, 2]) f_412_4 rfl rfl ?_
  refine w_a (ls := [(0, .ref 1), (1, .int x1)]) f_201_0 ?_
  refine w_a f_201_1 ?_
  refine w_a f_201_2 ?_
  refine w_a f_201_3 ?_
  refine w_a (ls := [(0, .ref 1), (1, .int x1), (2, .int (Int32.ofInt 2))]) f_120_0 ?_
  refine w_a f_120_1 ?_
  refine i_m (fun h => ?_) (fun h => ?_) h
  · refine w_a f_120_9 ?_
    exact h
  · refine w_a f_120_4 ?_
    refine w_a f_120_5 ?_
    refine w_a f_120_6 ?_
    refine i_m (fun h => ?_) (fun h => ?_) h
    · refine w_a f_120_9 ?_
      exact h
    · refine w_a f_120_17 ?_
      refine w_a (ls := [(0, .ref 1), (1, .int x1)]) f_201_6 ?_
      refine w_a f_201_7 ?_
      refine w_a f_201_10 ?_
      refine w_a f_201_11 ?_
      exact w_c (ks := [0, 1]) f_201_14 rfl rfl h
set_option maxRecDepth 10000 in
set_option maxHeartbeats 4000000 in
theorem s_420_23 {Lx : Nat} {I : Mi} {L : Ml} {e : Nat} {Q : Kq} {x4 : Int32} (h :
    (if ((Int32.ofNat Lx) - (Int32.ofInt 10)) < x4 then
     Q (.inl (some (.int (Int32.ofInt 1)))) (gE Lx) I L e
    else
     (inb x4 Lx (
      (if ((I 0 x4.toNatClampNeg) &&& (Int32.ofInt 63)) = Int32.ofInt 0 then
       Wp 420 268 [(0, .ref 0), (1, .ref 1), (2, .ref 58), (3, .ref 70), (4, .int x4)] [] (gE Lx) I L e Q
      else
      (if ((I 0 x4.toNatClampNeg) &&& (Int32.ofInt 63)) = Int32.ofInt 1 then
       Wp 420 329 [(0, .ref 0), (1, .ref 1), (2, .ref 58), (3, .ref 70), (4, .int x4)] [] (gE Lx) I L e Q
      else
      (if ((I 0 x4.toNatClampNeg) &&& (Int32.ofInt 63)) = Int32.ofInt 2 then
       Wp 420 409 [(0, .ref 0), (1, .ref 1), (2, .ref 58), (3, .ref 70), (4, .int x4)] [] (gE Lx) I L e Q
      else
      (if ((I 0 x4.toNatClampNeg) &&& (Int32.ofInt 63)) = Int32.ofInt 3 then
       Wp 420 453 [(0, .ref 0), (1, .ref 1), (2, .ref 58), (3, .ref 70), (4, .int x4)] [] (gE Lx) I L e Q
      else
      (if ((I 0 x4.toNatClampNeg) &&& (Int32.ofInt 63)) = Int32.ofInt 4 then
       Wp 420 514 [(0, .ref 0), (1, .ref 1), (2, .ref 58), (3, .ref 70), (4, .int x4)] [] (gE Lx) I L e Q
      else
      (if ((I 0 x4.toNatClampNeg) &&& (Int32.ofInt 63)) = Int32.ofInt 5 then
       Wp 420 563 [(0, .ref 0), (1, .ref 1), (2, .ref 58), (3, .ref 70), (4, .int x4)] [] (gE Lx) I L e Q
      else
      (if ((I 0 x4.toNatClampNeg) &&& (Int32.ofInt 63)) = Int32.ofInt 6 then
       Wp 420 631 [(0, .ref 0), (1, .ref 1), (2, .ref 58), (3, .ref 70), (4, .int x4)] [] (gE Lx) I L e Q
      else
      (if ((I 0 x4.toNatClampNeg) &&& (Int32.ofInt 63)) = Int32.ofInt 7 then
       Wp 420 742 [(0, .ref 0), (1, .ref 1), (2, .ref 58), (3, .ref 70), (4, .int x4)] [] (gE Lx) I L e Q
      else
      (if ((I 0 x4.toNatClampNeg) &&& (Int32.ofInt 63)) = Int32.ofInt 8 then
       Wp 420 805 [(0, .ref 0), (1, .ref 1), (2, .ref 58), (3, .ref 70), (4, .int x4)] [] (gE Lx) I L e Q
      else
      (if ((I 0 x4.toNatClampNeg) &&& (Int32.ofInt 63)) = Int32.ofInt 9 then
       Wp 420 888 [(0, .ref 0), (1, .ref 1), (2, .ref 58), (3, .ref 70), (4, .int x4)] [] (gE Lx) I L e Q
      else
      (if ((I 0 x4.toNatClampNeg) &&& (Int32.ofInt 63)) = Int32.ofInt 10 then
       Wp 420 972 [(0, .ref 0), (1, .ref 1), (2, .ref 58), (3, .ref 70), (4, .int x4)] [] (gE Lx) I L e Q
      else
      (if ((I 0 x4.toNatClampNeg) &&& (Int32.ofInt 63)) = Int32.ofInt 11 then
       Wp 420 1063 [(0, .ref 0), (1, .ref 1), (2, .ref 58), (3, .ref 70), (4, .int x4)] [] (gE Lx) I L e Q
      else
      (if ((I 0 x4.toNatClampNeg) &&& (Int32.ofInt 63)) = Int32.ofInt 12 then
       Wp 420 1159 [(0, .ref 0), (1, .ref 1), (2, .ref 58), (3, .ref 70), (4, .int x4)] [] (gE Lx) I L e Q
      else
      (if ((I 0 x4.toNatClampNeg) &&& (Int32.ofInt 63)) = Int32.ofInt 13 then
       Wp 420 1267 [(0, .ref 0), (1, .ref 1), (2, .ref 58), (3, .ref 70), (4, .int x4)] [] (gE Lx) I L e Q
      else
      (if ((I 0 x4.toNatClampNeg) &&& (Int32.ofInt 63)) = Int32.ofInt 14 then
       Wp 420 1387 [(0, .ref 0), (1, .ref 1), (2, .ref 58), (3, .ref 70), (4, .int x4)] [] (gE Lx) I L e Q
      else
      (if ((I 0 x4.toNatClampNeg) &&& (Int32.ofInt 63)) = Int32.ofInt 15 then
       Wp 420 1479 [(0, .ref 0), (1, .ref 1), (2, .ref 58), (3, .ref 70), (4, .int x4)] [] (gE Lx) I L e Q
      else
      (if ((I 0 x4.toNatClampNeg) &&& (Int32.ofInt 63)) = Int32.ofInt 16 then
       Wp 420 1563 [(0, .ref 0), (1, .ref 1), (2, .ref 58), (3, .ref 70), (4, .int x4)] [] (gE Lx) I L e Q
      else
      (if ((I 0 x4.toNatClampNeg) &&& (Int32.ofInt 63)) = Int32.ofInt 17 then
       Wp 420 1666 [(0, .ref 0), (1, .ref 1), (2, .ref 58), (3, .ref 70), (4, .int x4)] [] (gE Lx) I L e Q
      else
      (if ((I 0 x4.toNatClampNeg) &&& (Int32.ofInt 63)) = Int32.ofInt 18 then
       Wp 420 1789 [(0, .ref 0), (1, .ref 1), (2, .ref 58), (3, .ref 70), (4, .int x4)] [] (gE Lx) I L e Q
      else
      (if ((I 0 x4.toNatClampNeg) &&& (Int32.ofInt 63)) = Int32.ofInt 19 then
       Wp 420 1884 [(0, .ref 0), (1, .ref 1), (2, .ref 58), (3, .ref 70), (4, .int x4)] [] (gE Lx) I L e Q
      else
      (if ((I 0 x4.toNatClampNeg) &&& (Int32.ofInt 63)) = Int32.ofInt 20 then
       Wp 420 2007 [(0, .ref 0), (1, .ref 1), (2, .ref 58), (3, .ref 70), (4, .int x4)] [] (gE Lx) I L e Q
      else
      (if ((I 0 x4.toNatClampNeg) &&& (Int32.ofInt 63)) = Int32.ofInt 21 then
       Wp 420 2118 [(0, .ref 0), (1, .ref 1), (2, .ref 58), (3, .ref 70), (4, .int x4)] [] (gE Lx) I L e Q
      else
      (if ((I 0 x4.toNatClampNeg) &&& (Int32.ofInt 63)) = Int32.ofInt 22 then
       Wp 420 2214 [(0, .ref 0), (1, .ref 1), (2, .ref 58), (3, .ref 70), (4, .int x4)] [] (gE Lx) I L e Q
      else
      (if ((I 0 x4.toNatClampNeg) &&& (Int32.ofInt 63)) = Int32.ofInt 23 then
       Wp 420 2326 [(0, .ref 0), (1, .ref 1), (2, .ref 58), (3, .ref 70), (4, .int x4)] [] (gE Lx) I L e Q
      else
      (if ((I 0 x4.toNatClampNeg) &&& (Int32.ofInt 63)) = Int32.ofInt 24 then
       Wp 420 2437 [(0, .ref 0), (1, .ref 1), (2, .ref 58), (3, .ref 70), (4, .int x4)] [] (gE Lx) I L e Q
      else
      (if ((I 0 x4.toNatClampNeg) &&& (Int32.ofInt 63)) = Int32.ofInt 25 then
       Wp 420 2533 [(0, .ref 0), (1, .ref 1), (2, .ref 58), (3, .ref 70), (4, .int x4)] [] (gE Lx) I L e Q
      else
      (if ((I 0 x4.toNatClampNeg) &&& (Int32.ofInt 63)) = Int32.ofInt 26 then
       Wp 420 2641 [(0, .ref 0), (1, .ref 1), (2, .ref 58), (3, .ref 70), (4, .int x4)] [] (gE Lx) I L e Q
      else
      (if ((I 0 x4.toNatClampNeg) &&& (Int32.ofInt 63)) = Int32.ofInt 27 then
       Wp 420 2820 [(0, .ref 0), (1, .ref 1), (2, .ref 58), (3, .ref 70), (4, .int x4)] [] (gE Lx) I L e Q
      else
      (if ((I 0 x4.toNatClampNeg) &&& (Int32.ofInt 63)) = Int32.ofInt 28 then
       Wp 420 2956 [(0, .ref 0), (1, .ref 1), (2, .ref 58), (3, .ref 70), (4, .int x4)] [] (gE Lx) I L e Q
      else
      (if ((I 0 x4.toNatClampNeg) &&& (Int32.ofInt 63)) = Int32.ofInt 29 then
       Wp 420 3076 [(0, .ref 0), (1, .ref 1), (2, .ref 58), (3, .ref 70), (4, .int x4)] [] (gE Lx) I L e Q
      else
      (if ((I 0 x4.toNatClampNeg) &&& (Int32.ofInt 63)) = Int32.ofInt 30 then
       Wp 420 3160 [(0, .ref 0), (1, .ref 1), (2, .ref 58), (3, .ref 70), (4, .int x4)] [] (gE Lx) I L e Q
      else
      (if ((I 0 x4.toNatClampNeg) &&& (Int32.ofInt 63)) = Int32.ofInt 31 then
       Wp 420 3311 [(0, .ref 0), (1, .ref 1), (2, .ref 58), (3, .ref 70), (4, .int x4)] [] (gE Lx) I L e Q
      else
      (if ((I 0 x4.toNatClampNeg) &&& (Int32.ofInt 63)) = Int32.ofInt 32 then
       Wp 420 3422 [(0, .ref 0), (1, .ref 1), (2, .ref 58), (3, .ref 70), (4, .int x4)] [] (gE Lx) I L e Q
      else
      (if ((I 0 x4.toNatClampNeg) &&& (Int32.ofInt 63)) = Int32.ofInt 33 then
       Wp 420 3505 [(0, .ref 0), (1, .ref 1), (2, .ref 58), (3, .ref 70), (4, .int x4)] [] (gE Lx) I L e Q
      else
      (if ((I 0 x4.toNatClampNeg) &&& (Int32.ofInt 63)) = Int32.ofInt 34 then
       Wp 420 3568 [(0, .ref 0), (1, .ref 1), (2, .ref 58), (3, .ref 70), (4, .int x4)] [] (gE Lx) I L e Q
      else
      (if ((I 0 x4.toNatClampNeg) &&& (Int32.ofInt 63)) = Int32.ofInt 35 then
       Wp 420 3648 [(0, .ref 0), (1, .ref 1), (2, .ref 58), (3, .ref 70), (4, .int x4)] [] (gE Lx) I L e Q
      else
      (if ((I 0 x4.toNatClampNeg) &&& (Int32.ofInt 63)) = Int32.ofInt 36 then
       Wp 420 3716 [(0, .ref 0), (1, .ref 1), (2, .ref 58), (3, .ref 70), (4, .int x4)] [] (gE Lx) I L e Q
      else
      (if ((I 0 x4.toNatClampNeg) &&& (Int32.ofInt 63)) = Int32.ofInt 37 then
       Wp 420 3741 [(0, .ref 0), (1, .ref 1), (2, .ref 58), (3, .ref 70), (4, .int x4)] [] (gE Lx) I L e Q
      else
      (if ((I 0 x4.toNatClampNeg) &&& (Int32.ofInt 63)) = Int32.ofInt 38 then
       Wp 420 3809 [(0, .ref 0), (1, .ref 1), (2, .ref 58), (3, .ref 70), (4, .int x4)] [] (gE Lx) I L e Q
      else
      (if ((I 0 x4.toNatClampNeg) &&& (Int32.ofInt 63)) = Int32.ofInt 39 then
       Wp 420 3943 [(0, .ref 0), (1, .ref 1), (2, .ref 58), (3, .ref 70), (4, .int x4)] [] (gE Lx) I L e Q
      else
      (if ((I 0 x4.toNatClampNeg) &&& (Int32.ofInt 63)) = Int32.ofInt 40 then
       Wp 420 4150 [(0, .ref 0), (1, .ref 1), (2, .ref 58), (3, .ref 70), (4, .int x4)] [] (gE Lx) I L e Q
      else
      (if ((I 0 x4.toNatClampNeg) &&& (Int32.ofInt 63)) = Int32.ofInt 41 then
       Wp 420 4270 [(0, .ref 0), (1, .ref 1), (2, .ref 58), (3, .ref 70), (4, .int x4)] [] (gE Lx) I L e Q
      else
      (if ((I 0 x4.toNatClampNeg) &&& (Int32.ofInt 63)) = Int32.ofInt 42 then
       Wp 420 4405 [(0, .ref 0), (1, .ref 1), (2, .ref 58), (3, .ref 70), (4, .int x4)] [] (gE Lx) I L e Q
      else
      (if ((I 0 x4.toNatClampNeg) &&& (Int32.ofInt 63)) = Int32.ofInt 43 then
       Wp 420 4525 [(0, .ref 0), (1, .ref 1), (2, .ref 58), (3, .ref 70), (4, .int x4)] [] (gE Lx) I L e Q
      else
      (if ((I 0 x4.toNatClampNeg) &&& (Int32.ofInt 63)) = Int32.ofInt 44 then
       Wp 420 4593 [(0, .ref 0), (1, .ref 1), (2, .ref 58), (3, .ref 70), (4, .int x4)] [] (gE Lx) I L e Q
      else
      (if ((I 0 x4.toNatClampNeg) &&& (Int32.ofInt 63)) = Int32.ofInt 45 then
       Wp 420 4618 [(0, .ref 0), (1, .ref 1), (2, .ref 58), (3, .ref 70), (4, .int x4)] [] (gE Lx) I L e Q
      else
      (if ((I 0 x4.toNatClampNeg) &&& (Int32.ofInt 63)) = Int32.ofInt 46 then
       Wp 420 4631 [(0, .ref 0), (1, .ref 1), (2, .ref 58), (3, .ref 70), (4, .int x4)] [] (gE Lx) I L e Q
      else
      (if ((I 0 x4.toNatClampNeg) &&& (Int32.ofInt 63)) = Int32.ofInt 47 then
       Wp 420 4687 [(0, .ref 0), (1, .ref 1), (2, .ref 58), (3, .ref 70), (4, .int x4)] [] (gE Lx) I L e Q
      else
      (if ((I 0 x4.toNatClampNeg) &&& (Int32.ofInt 63)) = Int32.ofInt 48 then
       Wp 420 4700 [(0, .ref 0), (1, .ref 1), (2, .ref 58), (3, .ref 70), (4, .int x4)] [] (gE Lx) I L e Q
      else
      (if ((I 0 x4.toNatClampNeg) &&& (Int32.ofInt 63)) = Int32.ofInt 49 then
       Wp 420 4755 [(0, .ref 0), (1, .ref 1), (2, .ref 58), (3, .ref 70), (4, .int x4)] [] (gE Lx) I L e Q
      else
      (if ((I 0 x4.toNatClampNeg) &&& (Int32.ofInt 63)) = Int32.ofInt 50 then
       Wp 420 4811 [(0, .ref 0), (1, .ref 1), (2, .ref 58), (3, .ref 70), (4, .int x4)] [] (gE Lx) I L e Q
      else
      (if ((I 0 x4.toNatClampNeg) &&& (Int32.ofInt 63)) = Int32.ofInt 51 then
       Wp 420 4867 [(0, .ref 0), (1, .ref 1), (2, .ref 58), (3, .ref 70), (4, .int x4)] [] (gE Lx) I L e Q
      else
      (if ((I 0 x4.toNatClampNeg) &&& (Int32.ofInt 63)) = Int32.ofInt 52 then
       Wp 420 4892 [(0, .ref 0), (1, .ref 1), (2, .ref 58), (3, .ref 70), (4, .int x4)] [] (gE Lx) I L e Q
      else
       Wp 420 4917 [(0, .ref 0), (1, .ref 1), (2, .ref 58), (3, .ref 70), (4, .int x4)] [] (gE Lx) I L e Q))))))))))))))))))))))))))))))))))))))))))))))))))))))
     False))) :
    Wp 420 23 [(0, .ref 0), (1, .ref 1), (2, .ref 58), (3, .ref 70), (4, .int x4)] [] (gE Lx) I L e Q := by
  refine w_a f_420_23 ?_
  refine w_a f_420_25 ?_
  refine w_a f_420_26 ?_
  refine w_a f_420_27 ?_
  refine w_a f_420_29 ?_
  refine w_a f_420_30 ?_
  refine i_m (fun h => ?_) (fun h => ?_) h
  · refine w_a f_420_4923 ?_
    refine w_a f_420_4924 ?_
    exact h
  · refine w_a f_420_33 ?_
    refine w_a f_420_34 ?_
    refine w_a f_420_36 ?_
    refine n_m (fun h => ?_) h
    refine w_a f_420_37 ?_
    refine w_a f_420_39 ?_
    refine w_a f_420_40 ?_
    refine i_m (fun h => ?_) (fun h => ?_) h
    · exact w_n (ks := [0, 1, 2, 3, 4]) rfl h
    · refine i_m (fun h => ?_) (fun h => ?_) h
      · exact w_n (ks := [0, 1, 2, 3, 4]) rfl h
      · refine i_m (fun h => ?_) (fun h => ?_) h
        · exact w_n (ks := [0, 1, 2, 3, 4]) rfl h
        · refine i_m (fun h => ?_) (fun h => ?_) h
          · exact w_n (ks := [0, 1, 2, 3, 4]) rfl h
          · refine i_m (fun h => ?_) (fun h => ?_) h
            · exact w_n (ks := [0, 1, 2, 3, 4]) rfl h
            · refine i_m (fun h => ?_) (fun h => ?_) h
              · exact w_n (ks := [0, 1, 2, 3, 4]) rfl h
              · refine i_m (fun h => ?_) (fun h => ?_) h
                · exact w_n (ks := [0, 1, 2, 3, 4]) rfl h
                · refine i_m (fun h => ?_) (fun h => ?_) h
                  · exact w_n (ks := [0, 1, 2, 3, 4]) rfl h
                  · refine i_m (fun h => ?_) (fun h => ?_) h
                    · exact w_n (ks := [0, 1, 2, 3, 4]) rfl h
                    · refine i_m (fun h => ?_) (fun h => ?_) h
                      · exact w_n (ks := [0, 1, 2, 3, 4]) rfl h
                      · refine i_m (fun h => ?_) (fun h => ?_) h
                        · exact w_n (ks := [0, 1, 2, 3, 4]) rfl h
                        · refine i_m (fun h => ?_) (fun h => ?_) h
                          · exact w_n (ks := [0, 1, 2, 3, 4]) rfl h
                          · refine i_m (fun h => ?_) (fun h => ?_) h
                            · exact w_n (ks := [0, 1, 2, 3, 4]) rfl h
                            · refine i_m (fun h => ?_) (fun h => ?_) h
                              · exact w_n (ks := [0, 1, 2, 3, 4]) rfl h
                              · refine i_m (fun h => ?_) (fun h => ?_) h
                                · exact w_n (ks := [0, 1, 2, 3, 4]) rfl h
                                · refine i_m (fun h => ?_) (fun h => ?_) h
                                  · exact w_n (ks := [0, 1, 2, 3, 4]) rfl h
                                  · refine i_m (fun h => ?_) (fun h => ?_) h
                                    · exact w_n (ks := [0, 1, 2, 3, 4]) rfl h
                                    · refine i_m (fun h => ?_) (fun h => ?_) h
                                      · exact w_n (ks := [0, 1, 2, 3, 4]) rfl h
                                      · refine i_m (fun h => ?_) (fun h => ?_) h
                                        · exact w_n (ks := [0, 1, 2, 3, 4]) rfl h
                                        · refine i_m (fun h => ?_) (fun h => ?_) h
                                          · exact w_n (ks := [0, 1, 2, 3, 4]) rfl h
                                          · refine i_m (fun h => ?_) (fun h => ?_) h
                                            · exact w_n (ks := [0, 1, 2, 3, 4]) rfl h
                                            · refine i_m (fun h => ?_) (fun h => ?_) h
                                              · exact w_n (ks := [0, 1, 2, 3, 4]) rfl h
                                              · refine i_m (fun h => ?_) (fun h => ?_) h
                                                · exact w_n (ks := [0, 1, 2, 3, 4]) rfl h
                                                · refine i_m (fun h => ?_) (fun h => ?_) h
                                                  · exact w_n (ks := [0, 1, 2, 3, 4]) rfl h
                                                  · refine i_m (fun h => ?_) (fun h => ?_) h
                                                    · exact w_n (ks := [0, 1, 2, 3, 4]) rfl h
                                                    · refine i_m (fun h => ?_) (fun h => ?_) h
                                                      · exact w_n (ks := [0, 1, 2, 3, 4]) rfl h
                                                      · refine i_m (fun h => ?_) (fun h => ?_) h
                                                        · exact w_n (ks := [0, 1, 2, 3, 4]) rfl h
                                                        · refine i_m (fun h => ?_) (fun h => ?_) h
                                                          · exact w_n (ks := [0, 1, 2, 3, 4]) rfl h
                                                          · refine i_m (fun h => ?_) (fun h => ?_) h
                                                            · exact w_n (ks := [0, 1, 2, 3, 4]) rfl h
                                                            · refine i_m (fun h => ?_) (fun h => ?_) h
                                                              · exact w_n (ks := [0, 1, 2, 3, 4]) rfl h
                                                              · refine i_m (fun h => ?_) (fun h => ?_) h
                                                                · exact w_n (ks := [0, 1, 2, 3, 4]) rfl h
                                                                · refine i_m (fun h => ?_) (fun h => ?_) h
                                                                  · exact w_n (ks := [0, 1, 2, 3, 4]) rfl h
                                                                  · refine i_m (fun h => ?_) (fun h => ?_) h
                                                                    · exact w_n (ks := [0, 1, 2, 3, 4]) rfl h
                                                                    · refine i_m (fun h => ?_) (fun h => ?_) h
                                                                      · exact w_n (ks := [0, 1, 2, 3, 4]) rfl h
                                                                      · refine i_m (fun h => ?_) (fun h => ?_) h
                                                                        · exact w_n (ks := [0, 1, 2, 3, 4]) rfl h
                                                                        · refine i_m (fun h => ?_) (fun h => ?_) h
                                                                          · exact w_n (ks := [0, 1, 2, 3, 4]) rfl h
                                                                          · refine i_m (fun h => ?_) (fun h => ?_) h
                                                                            · exact w_n (ks := [0, 1, 2, 3, 4]) rfl h
                                                                            · refine i_m (fun h => ?_) (fun h => ?_) h
                                                                              · exact w_n (ks := [0, 1, 2, 3, 4]) rfl h
                                                                              · refine i_m (fun h => ?_) (fun h => ?_) h
                                                                                · exact w_n (ks := [0, 1, 2, 3, 4]) rfl h
                                                                                · refine i_m (fun h => ?_) (fun h => ?_) h
                                                                                  · exact w_n (ks := [0, 1, 2, 3, 4]) rfl h
                                                                                  · refine i_m (fun h => ?_) (fun h => ?_) h
                                                                                    · exact w_n (ks := [0, 1, 2, 3, 4]) rfl h
                                                                                    · refine i_m (fun h => ?_) (fun h => ?_) h
                                                                                      · exact w_n (ks := [0, 1, 2, 3, 4]) rfl h
                                                                                      · refine i_m (fun h => ?_) (fun h => ?_) h
                                                                                        · exact w_n (ks := [0, 1, 2, 3, 4]) rfl h
                                                                                        · refine i_m (fun h => ?_) (fun h => ?_) h
                                                                                          · exact w_n (ks := [0, 1, 2, 3, 4]) rfl h
                                                                                          · refine i_m (fun h => ?_) (fun h => ?_) h
                                                                                            · exact w_n (ks := [0, 1, 2, 3, 4]) rfl h
                                                                                            · refine i_m (fun h => ?_) (fun h => ?_) h
                                                                                              · exact w_n (ks := [0, 1, 2, 3, 4]) rfl h
                                                                                              · refine i_m (fun h => ?_) (fun h => ?_) h
                                                                                                · exact w_n (ks := [0, 1, 2, 3, 4]) rfl h
                                                                                                · refine i_m (fun h => ?_) (fun h => ?_) h
                                                                                                  · exact w_n (ks := [0, 1, 2, 3, 4]) rfl h
                                                                                                  · refine i_m (fun h => ?_) (fun h => ?_) h
                                                                                                    · exact w_n (ks := [0, 1, 2, 3, 4]) rfl h
                                                                                                    · refine i_m (fun h => ?_) (fun h => ?_) h
                                                                                                      · exact w_n (ks := [0, 1, 2, 3, 4]) rfl h
                                                                                                      · refine i_m (fun h => ?_) (fun h => ?_) h
                                                                                                        · exact w_n (ks := [0, 1, 2, 3, 4]) rfl h
                                                                                                        · refine i_m (fun h => ?_) (fun h => ?_) h
                                                                                                          · exact w_n (ks := [0, 1, 2, 3, 4]) rfl h
                                                                                                          · refine i_m (fun h => ?_) (fun h => ?_) h
                                                                                                            · exact w_n (ks := [0, 1, 2, 3, 4]) rfl h
                                                                                                            · exact w_n (ks := [0, 1, 2, 3, 4]) rfl h
set_option maxRecDepth 10000 in
set_option maxHeartbeats 4000000 in
theorem s_420_268 {Lx : Nat} {I : Mi} {L : Ml} {e : Nat} {Q : Kq} {x4 : Int32} (h :
    (inb (x4 + (Int32.ofInt 1)) Lx (
     (inb (x4 + (Int32.ofInt 2)) Lx (
      (inb (x4 + (Int32.ofInt 3)) Lx (
       Wp 367 0 [(0, .ref 1), (1, .int (I 0 ((x4 + (Int32.ofInt 1)).toNatClampNeg))), (2, .int (I 0 ((x4 + (Int32.ofInt 2)).toNatClampNeg))), (3, .int (I 0 ((x4 + (Int32.ofInt 3)).toNatClampNeg)))] [] (gE Lx) I L e (kcp (Wp 420) 420 287 0 [(0, .ref 0), (1, .ref 1), (2, .ref 58), (3, .ref 70), (4, .int x4)] 71 [] Q))
      False))
     False))
    False)) :
    Wp 420 268 [(0, .ref 0), (1, .ref 1), (2, .ref 58), (3, .ref 70), (4, .int x4)] [] (gE Lx) I L e Q := by
  refine w_a f_420_268 ?_
  refine w_a f_420_269 ?_
  refine w_a f_420_270 ?_
  refine w_a f_420_272 ?_
  refine w_a f_420_273 ?_
  refine w_a f_420_274 ?_
  refine n_m (fun h => ?_) h
  refine w_a f_420_275 ?_
  refine w_a f_420_276 ?_
  refine w_a f_420_278 ?_
  refine w_a f_420_279 ?_
  refine w_a f_420_280 ?_
  refine n_m (fun h => ?_) h
  refine w_a f_420_281 ?_
  refine w_a f_420_282 ?_
  refine w_a f_420_284 ?_
  refine w_a f_420_285 ?_
  refine w_a f_420_286 ?_
  refine n_m (fun h => ?_) h
  exact w_c (ks := [0, 1, 2, 3, 4]) f_420_287 rfl rfl h
set_option maxRecDepth 10000 in
set_option maxHeartbeats 4000000 in
theorem s_420_290 {Lx : Nat} {I : Mi} {L : Ml} {e : Nat} {Q : Kq} {x4 : Int32} {r : Int32} (h :
    (inb (x4 + (Int32.ofInt 1)) Lx (
     (inb (x4 + (Int32.ofInt 2)) Lx (
      (inb (x4 + (Int32.ofInt 3)) Lx (
       Wp 213 0 [(0, .ref 58), (1, .int (I 0 ((x4 + (Int32.ofInt 1)).toNatClampNeg))), (2, .int (I 0 ((x4 + (Int32.ofInt 2)).toNatClampNeg))), (3, .int (I 0 ((x4 + (Int32.ofInt 3)).toNatClampNeg)))] [] (gE Lx) I L e (kcp (Wp 420) 420 311 0 [(0, .ref 0), (1, .ref 1), (2, .ref 58), (3, .ref 70), (4, .int x4), (5, .int r)] 71 [] Q))
      False))
     False))
    False)) :
    Wp 420 290 [(0, .ref 0), (1, .ref 1), (2, .ref 58), (3, .ref 70), (4, .int x4)] [.int r] (gE Lx) I L e Q := by
  refine w_a f_420_290 ?_
  refine w_a (ls := [(5, .int r), (0, .ref 0), (1, .ref 1), (2, .ref 58), (3, .ref 70), (4, .int x4)]) f_420_292 ?_
  refine w_a f_420_293 ?_
  refine w_a f_420_294 ?_
  refine w_a f_420_296 ?_
  refine w_a f_420_297 ?_
  refine w_a f_420_298 ?_
  refine n_m (fun h => ?_) h
  refine w_a f_420_299 ?_
  refine w_a f_420_300 ?_
  refine w_a f_420_302 ?_
  refine w_a f_420_303 ?_
  refine w_a f_420_304 ?_
  refine n_m (fun h => ?_) h
  refine w_a f_420_305 ?_
  refine w_a f_420_306 ?_
  refine w_a f_420_308 ?_
  refine w_a f_420_309 ?_
  refine w_a f_420_310 ?_
  refine n_m (fun h => ?_) h
  exact w_c (ks := [0, 1, 2, 3, 4, 5]) f_420_311 rfl rfl h
set_option maxRecDepth 10000 in
set_option maxHeartbeats 4000000 in
theorem s_420_314 {Lx : Nat} {I : Mi} {L : Ml} {e : Nat} {Q : Kq} {x4 : Int32} {x5 : Int32} {r : Int32} (h :
    (if (I 58 0) = x5 then
     Wp 420 4917 [(0, .ref 0), (1, .ref 1), (2, .ref 58), (3, .ref 70), (4, .int x4)] [] (gE Lx) I L e Q
    else
     Q (.inl (some (.int (Int32.ofInt 0)))) (gE Lx) I L e)) :
    Wp 420 314 [(0, .ref 0), (1, .ref 1), (2, .ref 58), (3, .ref 70), (4, .int x4), (5, .int x5)] [.int r] (gE Lx) I L e Q := by
  refine w_a f_420_314 ?_
  refine w_a f_420_315 ?_
  refine w_a f_420_316 ?_
  refine w_a (ls := [(0, .ref 58)]) f_212_0 ?_
  refine w_a f_212_1 ?_
  refine w_a f_212_4 ?_
  refine w_a (ls := [(0, .ref 0), (1, .ref 1), (2, .ref 58), (3, .ref 70), (4, .int x4), (5, .int x5)]) f_420_319 ?_
  refine w_a f_420_321 ?_
  refine i_m (fun h => ?_) (fun h => ?_) h
  · refine w_a f_420_326 ?_
    exact w_n (ks := [0, 1, 2, 3, 4]) rfl h
  · refine w_a f_420_324 ?_
    refine w_a f_420_325 ?_
    exact h
set_option maxRecDepth 10000 in
set_option maxHeartbeats 4000000 in
theorem s_420_329 {Lx : Nat} {I : Mi} {L : Ml} {e : Nat} {Q : Kq} {x4 : Int32} (h :
    (inb (x4 + (Int32.ofInt 1)) Lx (
     (inb (x4 + (Int32.ofInt 2)) Lx (
      (inb (x4 + (Int32.ofInt 3)) Lx (
       Wp 368 0 [(0, .ref 1), (1, .int (I 0 ((x4 + (Int32.ofInt 1)).toNatClampNeg))), (2, .int (I 0 ((x4 + (Int32.ofInt 2)).toNatClampNeg))), (3, .int (I 0 ((x4 + (Int32.ofInt 3)).toNatClampNeg))), (4, .ref 70)] [] (gE Lx) I L e (kcp (Wp 420) 420 349 0 [(0, .ref 0), (1, .ref 1), (2, .ref 58), (3, .ref 70), (4, .int x4)] 71 [] Q))
      False))
     False))
    False)) :
    Wp 420 329 [(0, .ref 0), (1, .ref 1), (2, .ref 58), (3, .ref 70), (4, .int x4)] [] (gE Lx) I L e Q := by
  refine w_a f_420_329 ?_
  refine w_a f_420_330 ?_
  refine w_a f_420_331 ?_
  refine w_a f_420_333 ?_
  refine w_a f_420_334 ?_
  refine w_a f_420_335 ?_
  refine n_m (fun h => ?_) h
  refine w_a f_420_336 ?_
  refine w_a f_420_337 ?_
  refine w_a f_420_339 ?_
  refine w_a f_420_340 ?_
  refine w_a f_420_341 ?_
  refine n_m (fun h => ?_) h
  refine w_a f_420_342 ?_
  refine w_a f_420_343 ?_
  refine w_a f_420_345 ?_
  refine w_a f_420_346 ?_
  refine w_a f_420_347 ?_
  refine n_m (fun h => ?_) h
  refine w_a f_420_348 ?_
  exact w_c (ks := [0, 1, 2, 3, 4]) f_420_349 rfl rfl h
set_option maxRecDepth 10000 in
set_option maxHeartbeats 4000000 in
theorem s_420_352 {Lx : Nat} {I : Mi} {L : Ml} {e : Nat} {Q : Kq} {x4 : Int32} {r : Int32} (h :
    (inb (x4 + (Int32.ofInt 1)) Lx (
     (inb (x4 + (Int32.ofInt 2)) Lx (
      (inb (x4 + (Int32.ofInt 3)) Lx (
       Wp 214 0 [(0, .ref 58), (1, .int (I 0 ((x4 + (Int32.ofInt 1)).toNatClampNeg))), (2, .int (I 0 ((x4 + (Int32.ofInt 2)).toNatClampNeg))), (3, .int (I 0 ((x4 + (Int32.ofInt 3)).toNatClampNeg)))] [] (gE Lx) I L e (kcp (Wp 420) 420 373 0 [(0, .ref 0), (1, .ref 1), (2, .ref 58), (3, .ref 70), (4, .int x4), (5, .int r)] 71 [] Q))
      False))
     False))
    False)) :
    Wp 420 352 [(0, .ref 0), (1, .ref 1), (2, .ref 58), (3, .ref 70), (4, .int x4)] [.int r] (gE Lx) I L e Q := by
  refine w_a f_420_352 ?_
  refine w_a (ls := [(5, .int r), (0, .ref 0), (1, .ref 1), (2, .ref 58), (3, .ref 70), (4, .int x4)]) f_420_354 ?_
  refine w_a f_420_355 ?_
  refine w_a f_420_356 ?_
  refine w_a f_420_358 ?_
  refine w_a f_420_359 ?_
  refine w_a f_420_360 ?_
  refine n_m (fun h => ?_) h
  refine w_a f_420_361 ?_
  refine w_a f_420_362 ?_
  refine w_a f_420_364 ?_
  refine w_a f_420_365 ?_
  refine w_a f_420_366 ?_
  refine n_m (fun h => ?_) h
  refine w_a f_420_367 ?_
  refine w_a f_420_368 ?_
  refine w_a f_420_370 ?_
  refine w_a f_420_371 ?_
  refine w_a f_420_372 ?_
  refine n_m (fun h => ?_) h
  exact w_c (ks := [0, 1, 2, 3, 4, 5]) f_420_373 rfl rfl h
set_option maxRecDepth 10000 in
set_option maxHeartbeats 4000000 in
theorem s_420_376 {Lx : Nat} {I : Mi} {L : Ml} {e : Nat} {Q : Kq} {x4 : Int32} {x5 : Int32} {r : Int32} (h :
    (if (I 58 0) = x5 then
     (if x5 = 0 then
      (if (L 70 0) = r.toInt64 then
       Wp 420 4917 [(0, .ref 0), (1, .ref 1), (2, .ref 58), (3, .ref 70), (4, .int x4)] [] (gE Lx) I L e Q
      else
       Q (.inl (some (.int (Int32.ofInt 0)))) (gE Lx) I L e)
     else
      Wp 420 4917 [(0, .ref 0), (1, .ref 1), (2, .ref 58), (3, .ref 70), (4, .int x4)] [] (gE Lx) I L e Q)
    else
     Q (.inl (some (.int (Int32.ofInt 0)))) (gE Lx) I L e)) :
    Wp 420 376 [(0, .ref 0), (1, .ref 1), (2, .ref 58), (3, .ref 70), (4, .int x4), (5, .int x5)] [.int r] (gE Lx) I L e Q := by
  refine w_a f_420_376 ?_
  refine w_a (ls := [(6, .int r), (0, .ref 0), (1, .ref 1), (2, .ref 58), (3, .ref 70), (4, .int x4), (5, .int x5)]) f_420_378 ?_
  refine w_a f_420_379 ?_
  refine w_a (ls := [(0, .ref 58)]) f_212_0 ?_
  refine w_a f_212_1 ?_
  refine w_a f_212_4 ?_
  refine w_a (ls := [(6, .int r), (0, .ref 0), (1, .ref 1), (2, .ref 58), (3, .ref 70), (4, .int x4), (5, .int x5)]) f_420_382 ?_
  refine w_a f_420_384 ?_
  refine i_m (fun h => ?_) (fun h => ?_) h
  · refine w_a f_420_389 ?_
    refine w_a f_420_391 ?_
    refine i_m (fun h => ?_) (fun h => ?_) h
    · refine w_a f_420_394 ?_
      refine w_a f_420_395 ?_
      refine w_a f_420_396 ?_
      refine w_a f_420_397 ?_
      refine w_a f_420_399 ?_
      refine w_a f_420_400 ?_
      refine i_m (fun h => ?_) (fun h => ?_) h
      · refine w_a f_420_406 ?_
        exact w_n (ks := [0, 1, 2, 3, 4]) rfl h
      · refine w_a f_420_404 ?_
        refine w_a f_420_405 ?_
        exact h
    · refine w_a f_420_406 ?_
      exact w_n (ks := [0, 1, 2, 3, 4]) rfl h
  · refine w_a f_420_387 ?_
    refine w_a f_420_388 ?_
    exact h
set_option maxRecDepth 10000 in
set_option maxHeartbeats 4000000 in
theorem s_420_409 {Lx : Nat} {I : Mi} {L : Ml} {e : Nat} {Q : Kq} {x4 : Int32} (h :
    Wp 369 0 [(0, .ref 1), (1, .ref 70)] [] (gE Lx) I L e (kcp (Wp 420) 420 411 0 [(0, .ref 0), (1, .ref 1), (2, .ref 58), (3, .ref 70), (4, .int x4)] 71 [] Q)) :
    Wp 420 409 [(0, .ref 0), (1, .ref 1), (2, .ref 58), (3, .ref 70), (4, .int x4)] [] (gE Lx) I L e Q := by
  refine w_a f_420_409 ?_
  refine w_a f_420_410 ?_
  exact w_c (ks := [0, 1, 2, 3, 4]) f_420_411 rfl rfl h
set_option maxRecDepth 10000 in
set_option maxHeartbeats 4000000 in
theorem s_420_414 {Lx : Nat} {I : Mi} {L : Ml} {e : Nat} {Q : Kq} {x4 : Int32} {r : Int32} (h :
    Wp 217 0 [(0, .ref 58)] [] (gE Lx) I L e (kcp (Wp 420) 420 417 0 [(0, .ref 0), (1, .ref 1), (2, .ref 58), (3, .ref 70), (4, .int x4), (5, .int r)] 71 [] Q)) :
    Wp 420 414 [(0, .ref 0), (1, .ref 1), (2, .ref 58), (3, .ref 70), (4, .int x4)] [.int r] (gE Lx) I L e Q := by
  refine w_a f_420_414 ?_
  refine w_a (ls := [(5, .int r), (0, .ref 0), (1, .ref 1), (2, .ref 58), (3, .ref 70), (4, .int x4)]) f_420_416 ?_
  exact w_c (ks := [0, 1, 2, 3, 4, 5]) f_420_417 rfl rfl h
set_option maxRecDepth 10000 in
set_option maxHeartbeats 4000000 in
theorem s_420_420 {Lx : Nat} {I : Mi} {L : Ml} {e : Nat} {Q : Kq} {x4 : Int32} {x5 : Int32} {r : Int32} (h :
    (if (I 58 0) = x5 then
     (if x5 = 0 then
      (if (L 70 0) = r.toInt64 then
       Wp 420 4917 [(0, .ref 0), (1, .ref 1), (2, .ref 58), (3, .ref 70), (4, .int x4)] [] (gE Lx) I L e Q
      else
       Q (.inl (some (.int (Int32.ofInt 0)))) (gE Lx) I L e)
     else
      Wp 420 4917 [(0, .ref 0), (1, .ref 1), (2, .ref 58), (3, .ref 70), (4, .int x4)] [] (gE Lx) I L e Q)
    else
     Q (.inl (some (.int (Int32.ofInt 0)))) (gE Lx) I L e)) :
    Wp 420 420 [(0, .ref 0), (1, .ref 1), (2, .ref 58), (3, .ref 70), (4, .int x4), (5, .int x5)] [.int r] (gE Lx) I L e Q := by
  refine w_a f_420_420 ?_
  refine w_a (ls := [(6, .int r), (0, .ref 0), (1, .ref 1), (2, .ref 58), (3, .ref 70), (4, .int x4), (5, .int x5)]) f_420_422 ?_
  refine w_a f_420_423 ?_
  refine w_a (ls := [(0, .ref 58)]) f_212_0 ?_
  refine w_a f_212_1 ?_
  refine w_a f_212_4 ?_
  refine w_a (ls := [(6, .int r), (0, .ref 0), (1, .ref 1), (2, .ref 58), (3, .ref 70), (4, .int x4), (5, .int x5)]) f_420_426 ?_
  refine w_a f_420_428 ?_
  refine i_m (fun h => ?_) (fun h => ?_) h
  · refine w_a f_420_433 ?_
    refine w_a f_420_435 ?_
    refine i_m (fun h => ?_) (fun h => ?_) h
    · refine w_a f_420_438 ?_
      refine w_a f_420_439 ?_
      refine w_a f_420_440 ?_
      refine w_a f_420_441 ?_
      refine w_a f_420_443 ?_
      refine w_a f_420_444 ?_
      refine i_m (fun h => ?_) (fun h => ?_) h
      · refine w_a f_420_450 ?_
        exact w_n (ks := [0, 1, 2, 3, 4]) rfl h
      · refine w_a f_420_448 ?_
        refine w_a f_420_449 ?_
        exact h
    · refine w_a f_420_450 ?_
      exact w_n (ks := [0, 1, 2, 3, 4]) rfl h
  · refine w_a f_420_431 ?_
    refine w_a f_420_432 ?_
    exact h
set_option maxRecDepth 10000 in
set_option maxHeartbeats 4000000 in
theorem s_420_453 {Lx : Nat} {I : Mi} {L : Ml} {e : Nat} {Q : Kq} {x4 : Int32} (h :
    (inb (x4 + (Int32.ofInt 1)) Lx (
     (inb (x4 + (Int32.ofInt 2)) Lx (
      (inb (x4 + (Int32.ofInt 3)) Lx (
       Wp 370 0 [(0, .ref 1), (1, .int (I 0 ((x4 + (Int32.ofInt 1)).toNatClampNeg))), (2, .int (I 0 ((x4 + (Int32.ofInt 2)).toNatClampNeg))), (3, .int (I 0 ((x4 + (Int32.ofInt 3)).toNatClampNeg)))] [] (gE Lx) I L e (kcp (Wp 420) 420 472 0 [(0, .ref 0), (1, .ref 1), (2, .ref 58), (3, .ref 70), (4, .int x4)] 71 [] Q))
      False))
     False))
    False)) :
    Wp 420 453 [(0, .ref 0), (1, .ref 1), (2, .ref 58), (3, .ref 70), (4, .int x4)] [] (gE Lx) I L e Q := by
  refine w_a f_420_453 ?_
  refine w_a f_420_454 ?_
  refine w_a f_420_455 ?_
  refine w_a f_420_457 ?_
  refine w_a f_420_458 ?_
  refine w_a f_420_459 ?_
  refine n_m (fun h => ?_) h
  refine w_a f_420_460 ?_
  refine w_a f_420_461 ?_
  refine w_a f_420_463 ?_
  refine w_a f_420_464 ?_
  refine w_a f_420_465 ?_
  refine n_m (fun h => ?_) h
  refine w_a f_420_466 ?_
  refine w_a f_420_467 ?_
  refine w_a f_420_469 ?_
  refine w_a f_420_470 ?_
  refine w_a f_420_471 ?_
  refine n_m (fun h => ?_) h
  exact w_c (ks := [0, 1, 2, 3, 4]) f_420_472 rfl rfl h
set_option maxRecDepth 10000 in
set_option maxHeartbeats 4000000 in
theorem s_420_475 {Lx : Nat} {I : Mi} {L : Ml} {e : Nat} {Q : Kq} {x4 : Int32} {r : Int32} (h :
    (inb (x4 + (Int32.ofInt 1)) Lx (
     (inb (x4 + (Int32.ofInt 2)) Lx (
      (inb (x4 + (Int32.ofInt 3)) Lx (
       Wp 218 0 [(0, .ref 58), (1, .int (I 0 ((x4 + (Int32.ofInt 1)).toNatClampNeg))), (2, .int (I 0 ((x4 + (Int32.ofInt 2)).toNatClampNeg))), (3, .int (I 0 ((x4 + (Int32.ofInt 3)).toNatClampNeg)))] [] (gE Lx) I L e (kcp (Wp 420) 420 496 0 [(0, .ref 0), (1, .ref 1), (2, .ref 58), (3, .ref 70), (4, .int x4), (5, .int r)] 71 [] Q))
      False))
     False))
    False)) :
    Wp 420 475 [(0, .ref 0), (1, .ref 1), (2, .ref 58), (3, .ref 70), (4, .int x4)] [.int r] (gE Lx) I L e Q := by
  refine w_a f_420_475 ?_
  refine w_a (ls := [(5, .int r), (0, .ref 0), (1, .ref 1), (2, .ref 58), (3, .ref 70), (4, .int x4)]) f_420_477 ?_
  refine w_a f_420_478 ?_
  refine w_a f_420_479 ?_
  refine w_a f_420_481 ?_
  refine w_a f_420_482 ?_
  refine w_a f_420_483 ?_
  refine n_m (fun h => ?_) h
  refine w_a f_420_484 ?_
  refine w_a f_420_485 ?_
  refine w_a f_420_487 ?_
  refine w_a f_420_488 ?_
  refine w_a f_420_489 ?_
  refine n_m (fun h => ?_) h
  refine w_a f_420_490 ?_
  refine w_a f_420_491 ?_
  refine w_a f_420_493 ?_
  refine w_a f_420_494 ?_
  refine w_a f_420_495 ?_
  refine n_m (fun h => ?_) h
  exact w_c (ks := [0, 1, 2, 3, 4, 5]) f_420_496 rfl rfl h
set_option maxRecDepth 10000 in
set_option maxHeartbeats 4000000 in
theorem s_420_499 {Lx : Nat} {I : Mi} {L : Ml} {e : Nat} {Q : Kq} {x4 : Int32} {x5 : Int32} {r : Int32} (h :
    (if (I 58 0) = x5 then
     Wp 420 4917 [(0, .ref 0), (1, .ref 1), (2, .ref 58), (3, .ref 70), (4, .int x4)] [] (gE Lx) I L e Q
    else
     Q (.inl (some (.int (Int32.ofInt 0)))) (gE Lx) I L e)) :
    Wp 420 499 [(0, .ref 0), (1, .ref 1), (2, .ref 58), (3, .ref 70), (4, .int x4), (5, .int x5)] [.int r] (gE Lx) I L e Q := by
  refine w_a f_420_499 ?_
  refine w_a f_420_500 ?_
  refine w_a f_420_501 ?_
  refine w_a (ls := [(0, .ref 58)]) f_212_0 ?_
  refine w_a f_212_1 ?_
  refine w_a f_212_4 ?_
  refine w_a (ls := [(0, .ref 0), (1, .ref 1), (2, .ref 58), (3, .ref 70), (4, .int x4), (5, .int x5)]) f_420_504 ?_
  refine w_a f_420_506 ?_
  refine i_m (fun h => ?_) (fun h => ?_) h
  · refine w_a f_420_511 ?_
    exact w_n (ks := [0, 1, 2, 3, 4]) rfl h
  · refine w_a f_420_509 ?_
    refine w_a f_420_510 ?_
    exact h
set_option maxRecDepth 10000 in
set_option maxHeartbeats 4000000 in
theorem s_420_514 {Lx : Nat} {I : Mi} {L : Ml} {e : Nat} {Q : Kq} {x4 : Int32} (h :
    (inb (x4 + (Int32.ofInt 1)) Lx (
     (inb (x4 + (Int32.ofInt 2)) Lx (
      Wp 371 0 [(0, .ref 1), (1, .int (I 0 ((x4 + (Int32.ofInt 1)).toNatClampNeg))), (2, .int (I 0 ((x4 + (Int32.ofInt 2)).toNatClampNeg)))] [] (gE Lx) I L e (kcp (Wp 420) 420 527 0 [(0, .ref 0), (1, .ref 1), (2, .ref 58), (3, .ref 70), (4, .int x4)] 71 [] Q))
     False))
    False)) :
    Wp 420 514 [(0, .ref 0), (1, .ref 1), (2, .ref 58), (3, .ref 70), (4, .int x4)] [] (gE Lx) I L e Q := by
  refine w_a f_420_514 ?_
  refine w_a f_420_515 ?_
  refine w_a f_420_516 ?_
  refine w_a f_420_518 ?_
  refine w_a f_420_519 ?_
  refine w_a f_420_520 ?_
  refine n_m (fun h => ?_) h
  refine w_a f_420_521 ?_
  refine w_a f_420_522 ?_
  refine w_a f_420_524 ?_
  refine w_a f_420_525 ?_
  refine w_a f_420_526 ?_
  refine n_m (fun h => ?_) h
  exact w_c (ks := [0, 1, 2, 3, 4]) f_420_527 rfl rfl h
set_option maxRecDepth 10000 in
set_option maxHeartbeats 4000000 in
theorem s_420_530 {Lx : Nat} {I : Mi} {L : Ml} {e : Nat} {Q : Kq} {x4 : Int32} {r : Int32} (h :
    (inb (x4 + (Int32.ofInt 1)) Lx (
     (inb (x4 + (Int32.ofInt 2)) Lx (
      Wp 221 0 [(0, .ref 58), (1, .int (I 0 ((x4 + (Int32.ofInt 1)).toNatClampNeg))), (2, .int (I 0 ((x4 + (Int32.ofInt 2)).toNatClampNeg)))] [] (gE Lx) I L e (kcp (Wp 420) 420 545 0 [(0, .ref 0), (1, .ref 1), (2, .ref 58), (3, .ref 70), (4, .int x4), (5, .int r)] 71 [] Q))
     False))
    False)) :
    Wp 420 530 [(0, .ref 0), (1, .ref 1), (2, .ref 58), (3, .ref 70), (4, .int x4)] [.int r] (gE Lx) I L e Q := by
  refine w_a f_420_530 ?_
  refine w_a (ls := [(5, .int r), (0, .ref 0), (1, .ref 1), (2, .ref 58), (3, .ref 70), (4, .int x4)]) f_420_532 ?_
  refine w_a f_420_533 ?_
  refine w_a f_420_534 ?_
  refine w_a f_420_536 ?_
  refine w_a f_420_537 ?_
  refine w_a f_420_538 ?_
  refine n_m (fun h => ?_) h
  refine w_a f_420_539 ?_
  refine w_a f_420_540 ?_
  refine w_a f_420_542 ?_
  refine w_a f_420_543 ?_
  refine w_a f_420_544 ?_
  refine n_m (fun h => ?_) h
  exact w_c (ks := [0, 1, 2, 3, 4, 5]) f_420_545 rfl rfl h
set_option maxRecDepth 10000 in
set_option maxHeartbeats 4000000 in
theorem s_420_548 {Lx : Nat} {I : Mi} {L : Ml} {e : Nat} {Q : Kq} {x4 : Int32} {x5 : Int32} {r : Int32} (h :
    (if (I 58 0) = x5 then
     Wp 420 4917 [(0, .ref 0), (1, .ref 1), (2, .ref 58), (3, .ref 70), (4, .int x4)] [] (gE Lx) I L e Q
    else
     Q (.inl (some (.int (Int32.ofInt 0)))) (gE Lx) I L e)) :
    Wp 420 548 [(0, .ref 0), (1, .ref 1), (2, .ref 58), (3, .ref 70), (4, .int x4), (5, .int x5)] [.int r] (gE Lx) I L e Q := by
  refine w_a f_420_548 ?_
  refine w_a f_420_549 ?_
  refine w_a f_420_550 ?_
  refine w_a (ls := [(0, .ref 58)]) f_212_0 ?_
  refine w_a f_212_1 ?_
  refine w_a f_212_4 ?_
  refine w_a (ls := [(0, .ref 0), (1, .ref 1), (2, .ref 58), (3, .ref 70), (4, .int x4), (5, .int x5)]) f_420_553 ?_
  refine w_a f_420_555 ?_
  refine i_m (fun h => ?_) (fun h => ?_) h
  · refine w_a f_420_560 ?_
    exact w_n (ks := [0, 1, 2, 3, 4]) rfl h
  · refine w_a f_420_558 ?_
    refine w_a f_420_559 ?_
    exact h
set_option maxRecDepth 10000 in
set_option maxHeartbeats 4000000 in
theorem s_420_563 {Lx : Nat} {I : Mi} {L : Ml} {e : Nat} {Q : Kq} {x4 : Int32} (h :
    (inb (x4 + (Int32.ofInt 1)) Lx (
     (inb (x4 + (Int32.ofInt 2)) Lx (
      Wp 372 0 [(0, .ref 1), (1, .int (I 0 ((x4 + (Int32.ofInt 1)).toNatClampNeg))), (2, .int (I 0 ((x4 + (Int32.ofInt 2)).toNatClampNeg))), (3, .ref 70)] [] (gE Lx) I L e (kcp (Wp 420) 420 577 0 [(0, .ref 0), (1, .ref 1), (2, .ref 58), (3, .ref 70), (4, .int x4)] 71 [] Q))
     False))
    False)) :
    Wp 420 563 [(0, .ref 0), (1, .ref 1), (2, .ref 58), (3, .ref 70), (4, .int x4)] [] (gE Lx) I L e Q := by
  refine w_a f_420_563 ?_
  refine w_a f_420_564 ?_
  refine w_a f_420_565 ?_
  refine w_a f_420_567 ?_
  refine w_a f_420_568 ?_
  refine w_a f_420_569 ?_
  refine n_m (fun h => ?_) h
  refine w_a f_420_570 ?_
  refine w_a f_420_571 ?_
  refine w_a f_420_573 ?_
  refine w_a f_420_574 ?_
  refine w_a f_420_575 ?_
  refine n_m (fun h => ?_) h
  refine w_a f_420_576 ?_
  exact w_c (ks := [0, 1, 2, 3, 4]) f_420_577 rfl rfl h
set_option maxRecDepth 10000 in
set_option maxHeartbeats 4000000 in
theorem s_420_580 {Lx : Nat} {I : Mi} {L : Ml} {e : Nat} {Q : Kq} {x4 : Int32} {r : Int32} (h :
    (inb (x4 + (Int32.ofInt 1)) Lx (
     (inb (x4 + (Int32.ofInt 2)) Lx (
      Wp 222 0 [(0, .ref 58), (1, .int (I 0 ((x4 + (Int32.ofInt 1)).toNatClampNeg))), (2, .int (I 0 ((x4 + (Int32.ofInt 2)).toNatClampNeg)))] [] (gE Lx) I L e (kcp (Wp 420) 420 595 0 [(0, .ref 0), (1, .ref 1), (2, .ref 58), (3, .ref 70), (4, .int x4), (5, .int r)] 71 [] Q))
     False))
    False)) :
    Wp 420 580 [(0, .ref 0), (1, .ref 1), (2, .ref 58), (3, .ref 70), (4, .int x4)] [.int r] (gE Lx) I L e Q := by
  refine w_a f_420_580 ?_
  refine w_a (ls := [(5, .int r), (0, .ref 0), (1, .ref 1), (2, .ref 58), (3, .ref 70), (4, .int x4)]) f_420_582 ?_
  refine w_a f_420_583 ?_
  refine w_a f_420_584 ?_
  refine w_a f_420_586 ?_
  refine w_a f_420_587 ?_
  refine w_a f_420_588 ?_
  refine n_m (fun h => ?_) h
  refine w_a f_420_589 ?_
  refine w_a f_420_590 ?_
  refine w_a f_420_592 ?_
  refine w_a f_420_593 ?_
  refine w_a f_420_594 ?_
  refine n_m (fun h => ?_) h
  exact w_c (ks := [0, 1, 2, 3, 4, 5]) f_420_595 rfl rfl h
set_option maxRecDepth 10000 in
set_option maxHeartbeats 4000000 in
theorem s_420_598 {Lx : Nat} {I : Mi} {L : Ml} {e : Nat} {Q : Kq} {x4 : Int32} {x5 : Int32} {r : Int32} (h :
    (if (I 58 0) = x5 then
     (if x5 = 0 then
      (if (L 70 0) = r.toInt64 then
       Wp 420 4917 [(0, .ref 0), (1, .ref 1), (2, .ref 58), (3, .ref 70), (4, .int x4)] [] (gE Lx) I L e Q
      else
       Q (.inl (some (.int (Int32.ofInt 0)))) (gE Lx) I L e)
     else
      Wp 420 4917 [(0, .ref 0), (1, .ref 1), (2, .ref 58), (3, .ref 70), (4, .int x4)] [] (gE Lx) I L e Q)
    else
     Q (.inl (some (.int (Int32.ofInt 0)))) (gE Lx) I L e)) :
    Wp 420 598 [(0, .ref 0), (1, .ref 1), (2, .ref 58), (3, .ref 70), (4, .int x4), (5, .int x5)] [.int r] (gE Lx) I L e Q := by
  refine w_a f_420_598 ?_
  refine w_a (ls := [(6, .int r), (0, .ref 0), (1, .ref 1), (2, .ref 58), (3, .ref 70), (4, .int x4), (5, .int x5)]) f_420_600 ?_
  refine w_a f_420_601 ?_
  refine w_a (ls := [(0, .ref 58)]) f_212_0 ?_
  refine w_a f_212_1 ?_
  refine w_a f_212_4 ?_
  refine w_a (ls := [(6, .int r), (0, .ref 0), (1, .ref 1), (2, .ref 58), (3, .ref 70), (4, .int x4), (5, .int x5)]) f_420_604 ?_
  refine w_a f_420_606 ?_
  refine i_m (fun h => ?_) (fun h => ?_) h
  · refine w_a f_420_611 ?_
    refine w_a f_420_613 ?_
    refine i_m (fun h => ?_) (fun h => ?_) h
    · refine w_a f_420_616 ?_
      refine w_a f_420_617 ?_
      refine w_a f_420_618 ?_
      refine w_a f_420_619 ?_
      refine w_a f_420_621 ?_
      refine w_a f_420_622 ?_
      refine i_m (fun h => ?_) (fun h => ?_) h
      · refine w_a f_420_628 ?_
        exact w_n (ks := [0, 1, 2, 3, 4]) rfl h
      · refine w_a f_420_626 ?_
        refine w_a f_420_627 ?_
        exact h
    · refine w_a f_420_628 ?_
      exact w_n (ks := [0, 1, 2, 3, 4]) rfl h
  · refine w_a f_420_609 ?_
    refine w_a f_420_610 ?_
    exact h
set_option maxRecDepth 10000 in
set_option maxHeartbeats 4000000 in
theorem s_420_631 {Lx : Nat} {I : Mi} {L : Ml} {e : Nat} {Q : Kq} {x4 : Int32} (h :
    (inb (x4 + (Int32.ofInt 1)) Lx (
     (inb (x4 + (Int32.ofInt 2)) Lx (
      (if (I 0 ((x4 + (Int32.ofInt 2)).toNatClampNeg)) = 0 then
       (inb (x4 + (Int32.ofInt 3)) Lx (
        (if (I 0 ((x4 + (Int32.ofInt 3)).toNatClampNeg)) = 0 then
         Wp 373 0 [(0, .ref 1), (1, .int (I 0 ((x4 + (Int32.ofInt 1)).toNatClampNeg))), (2, .int (Int32.ofInt 0)), (3, .int (Int32.ofInt 0)), (4, .ref 70)] [] (gE Lx) I L e (kcp (Wp 420) 420 667 0 [(0, .ref 0), (1, .ref 1), (2, .ref 58), (3, .ref 70), (4, .int x4)] 71 [] Q)
        else
         Wp 373 0 [(0, .ref 1), (1, .int (I 0 ((x4 + (Int32.ofInt 1)).toNatClampNeg))), (2, .int (Int32.ofInt 0)), (3, .int (Int32.ofInt 1)), (4, .ref 70)] [] (gE Lx) I L e (kcp (Wp 420) 420 667 0 [(0, .ref 0), (1, .ref 1), (2, .ref 58), (3, .ref 70), (4, .int x4)] 71 [] Q)))
       False)
      else
       (inb (x4 + (Int32.ofInt 3)) Lx (
        (if (I 0 ((x4 + (Int32.ofInt 3)).toNatClampNeg)) = 0 then
         Wp 373 0 [(0, .ref 1), (1, .int (I 0 ((x4 + (Int32.ofInt 1)).toNatClampNeg))), (2, .int (Int32.ofInt 1)), (3, .int (Int32.ofInt 0)), (4, .ref 70)] [] (gE Lx) I L e (kcp (Wp 420) 420 667 0 [(0, .ref 0), (1, .ref 1), (2, .ref 58), (3, .ref 70), (4, .int x4)] 71 [] Q)
        else
         Wp 373 0 [(0, .ref 1), (1, .int (I 0 ((x4 + (Int32.ofInt 1)).toNatClampNeg))), (2, .int (Int32.ofInt 1)), (3, .int (Int32.ofInt 1)), (4, .ref 70)] [] (gE Lx) I L e (kcp (Wp 420) 420 667 0 [(0, .ref 0), (1, .ref 1), (2, .ref 58), (3, .ref 70), (4, .int x4)] 71 [] Q)))
       False)))
     False))
    False)) :
    Wp 420 631 [(0, .ref 0), (1, .ref 1), (2, .ref 58), (3, .ref 70), (4, .int x4)] [] (gE Lx) I L e Q := by
  refine w_a f_420_631 ?_
  refine w_a f_420_632 ?_
  refine w_a f_420_633 ?_
  refine w_a f_420_635 ?_
  refine w_a f_420_636 ?_
  refine w_a f_420_637 ?_
  refine n_m (fun h => ?_) h
  refine w_a f_420_638 ?_
  refine w_a f_420_639 ?_
  refine w_a f_420_641 ?_
  refine w_a f_420_642 ?_
  refine w_a f_420_643 ?_
  refine n_m (fun h => ?_) h
  refine w_a f_420_644 ?_
  refine i_m (fun h => ?_) (fun h => ?_) h
  · refine w_a f_420_651 ?_
    refine w_a f_420_652 ?_
    refine w_a f_420_653 ?_
    refine w_a f_420_655 ?_
    refine w_a f_420_656 ?_
    refine w_a f_420_657 ?_
    refine n_m (fun h => ?_) h
    refine w_a f_420_658 ?_
    refine i_m (fun h => ?_) (fun h => ?_) h
    · refine w_a f_420_665 ?_
      refine w_a f_420_666 ?_
      exact w_c (ks := [0, 1, 2, 3, 4]) f_420_667 rfl rfl h
    · refine w_a f_420_661 ?_
      refine w_a f_420_662 ?_
      refine w_a f_420_666 ?_
      exact w_c (ks := [0, 1, 2, 3, 4]) f_420_667 rfl rfl h
  · refine w_a f_420_647 ?_
    refine w_a f_420_648 ?_
    refine w_a f_420_652 ?_
    refine w_a f_420_653 ?_
    refine w_a f_420_655 ?_
    refine w_a f_420_656 ?_
    refine w_a f_420_657 ?_
    refine n_m (fun h => ?_) h
    refine w_a f_420_658 ?_
    refine i_m (fun h => ?_) (fun h => ?_) h
    · refine w_a f_420_665 ?_
      refine w_a f_420_666 ?_
      exact w_c (ks := [0, 1, 2, 3, 4]) f_420_667 rfl rfl h
    · refine w_a f_420_661 ?_
      refine w_a f_420_662 ?_
      refine w_a f_420_666 ?_
      exact w_c (ks := [0, 1, 2, 3, 4]) f_420_667 rfl rfl h
set_option maxRecDepth 10000 in
set_option maxHeartbeats 4000000 in
theorem s_420_670 {Lx : Nat} {I : Mi} {L : Ml} {e : Nat} {Q : Kq} {x4 : Int32} {r : Int32} (h :
    (inb (x4 + (Int32.ofInt 1)) Lx (
     (inb (x4 + (Int32.ofInt 2)) Lx (
      (if (I 0 ((x4 + (Int32.ofInt 2)).toNatClampNeg)) = 0 then
       (inb (x4 + (Int32.ofInt 3)) Lx (
        (if (I 0 ((x4 + (Int32.ofInt 3)).toNatClampNeg)) = 0 then
         Wp 225 0 [(0, .ref 58), (1, .int (I 0 ((x4 + (Int32.ofInt 1)).toNatClampNeg))), (2, .int (Int32.ofInt 0)), (3, .int (Int32.ofInt 0))] [] (gE Lx) I L e (kcp (Wp 420) 420 707 0 [(0, .ref 0), (1, .ref 1), (2, .ref 58), (3, .ref 70), (4, .int x4), (5, .int r)] 71 [] Q)
        else
         Wp 225 0 [(0, .ref 58), (1, .int (I 0 ((x4 + (Int32.ofInt 1)).toNatClampNeg))), (2, .int (Int32.ofInt 0)), (3, .int (Int32.ofInt 1))] [] (gE Lx) I L e (kcp (Wp 420) 420 707 0 [(0, .ref 0), (1, .ref 1), (2, .ref 58), (3, .ref 70), (4, .int x4), (5, .int r)] 71 [] Q)))
       False)
      else
       (inb (x4 + (Int32.ofInt 3)) Lx (
        (if (I 0 ((x4 + (Int32.ofInt 3)).toNatClampNeg)) = 0 then
         Wp 225 0 [(0, .ref 58), (1, .int (I 0 ((x4 + (Int32.ofInt 1)).toNatClampNeg))), (2, .int (Int32.ofInt 1)), (3, .int (Int32.ofInt 0))] [] (gE Lx) I L e (kcp (Wp 420) 420 707 0 [(0, .ref 0), (1, .ref 1), (2, .ref 58), (3, .ref 70), (4, .int x4), (5, .int r)] 71 [] Q)
        else
         Wp 225 0 [(0, .ref 58), (1, .int (I 0 ((x4 + (Int32.ofInt 1)).toNatClampNeg))), (2, .int (Int32.ofInt 1)), (3, .int (Int32.ofInt 1))] [] (gE Lx) I L e (kcp (Wp 420) 420 707 0 [(0, .ref 0), (1, .ref 1), (2, .ref 58), (3, .ref 70), (4, .int x4), (5, .int r)] 71 [] Q)))
       False)))
     False))
    False)) :
    Wp 420 670 [(0, .ref 0), (1, .ref 1), (2, .ref 58), (3, .ref 70), (4, .int x4)] [.int r] (gE Lx) I L e Q := by
  refine w_a f_420_670 ?_
  refine w_a (ls := [(5, .int r), (0, .ref 0), (1, .ref 1), (2, .ref 58), (3, .ref 70), (4, .int x4)]) f_420_672 ?_
  refine w_a f_420_673 ?_
  refine w_a f_420_674 ?_
  refine w_a f_420_676 ?_
  refine w_a f_420_677 ?_
  refine w_a f_420_678 ?_
  refine n_m (fun h => ?_) h
  refine w_a f_420_679 ?_
  refine w_a f_420_680 ?_
  refine w_a f_420_682 ?_
  refine w_a f_420_683 ?_
  refine w_a f_420_684 ?_
  refine n_m (fun h => ?_) h
  refine w_a f_420_685 ?_
  refine i_m (fun h => ?_) (fun h => ?_) h
  · refine w_a f_420_692 ?_
    refine w_a f_420_693 ?_
    refine w_a f_420_694 ?_
    refine w_a f_420_696 ?_
    refine w_a f_420_697 ?_
    refine w_a f_420_698 ?_
    refine n_m (fun h => ?_) h
    refine w_a f_420_699 ?_
    refine i_m (fun h => ?_) (fun h => ?_) h
    · refine w_a f_420_706 ?_
      exact w_c (ks := [0, 1, 2, 3, 4, 5]) f_420_707 rfl rfl h
    · refine w_a f_420_702 ?_
      refine w_a f_420_703 ?_
      exact w_c (ks := [0, 1, 2, 3, 4, 5]) f_420_707 rfl rfl h
  · refine w_a f_420_688 ?_
    refine w_a f_420_689 ?_
    refine w_a f_420_693 ?_
    refine w_a f_420_694 ?_
    refine w_a f_420_696 ?_
    refine w_a f_420_697 ?_
    refine w_a f_420_698 ?_
    refine n_m (fun h => ?_) h
    refine w_a f_420_699 ?_
    refine i_m (fun h => ?_) (fun h => ?_) h
    · refine w_a f_420_706 ?_
      exact w_c (ks := [0, 1, 2, 3, 4, 5]) f_420_707 rfl rfl h
    · refine w_a f_420_702 ?_
      refine w_a f_420_703 ?_
      exact w_c (ks := [0, 1, 2, 3, 4, 5]) f_420_707 rfl rfl h
set_option maxRecDepth 10000 in
set_option maxHeartbeats 4000000 in
theorem s_420_710 {Lx : Nat} {I : Mi} {L : Ml} {e : Nat} {Q : Kq} {x4 : Int32} {x5 : Int32} {rl : Int64} (h :
    (if (I 58 0) = x5 then
     (if x5 = 0 then
      (if (L 70 0) = rl then
       Wp 420 4917 [(0, .ref 0), (1, .ref 1), (2, .ref 58), (3, .ref 70), (4, .int x4)] [] (gE Lx) I L e Q
      else
       Q (.inl (some (.int (Int32.ofInt 0)))) (gE Lx) I L e)
     else
      Wp 420 4917 [(0, .ref 0), (1, .ref 1), (2, .ref 58), (3, .ref 70), (4, .int x4)] [] (gE Lx) I L e Q)
    else
     Q (.inl (some (.int (Int32.ofInt 0)))) (gE Lx) I L e)) :
    Wp 420 710 [(0, .ref 0), (1, .ref 1), (2, .ref 58), (3, .ref 70), (4, .int x4), (5, .int x5)] [.long rl] (gE Lx) I L e Q := by
  refine w_a f_420_710 ?_
  refine w_a (ls := [(6, .long rl), (0, .ref 0), (1, .ref 1), (2, .ref 58), (3, .ref 70), (4, .int x4), (5, .int x5)]) f_420_712 ?_
  refine w_a f_420_713 ?_
  refine w_a (ls := [(0, .ref 58)]) f_212_0 ?_
  refine w_a f_212_1 ?_
  refine w_a f_212_4 ?_
  refine w_a (ls := [(6, .long rl), (0, .ref 0), (1, .ref 1), (2, .ref 58), (3, .ref 70), (4, .int x4), (5, .int x5)]) f_420_716 ?_
  refine w_a f_420_718 ?_
  refine i_m (fun h => ?_) (fun h => ?_) h
  · refine w_a f_420_723 ?_
    refine w_a f_420_725 ?_
    refine i_m (fun h => ?_) (fun h => ?_) h
    · refine w_a f_420_728 ?_
      refine w_a f_420_729 ?_
      refine w_a f_420_730 ?_
      refine w_a f_420_731 ?_
      refine w_a f_420_733 ?_
      refine i_m (fun h => ?_) (fun h => ?_) h
      · refine w_a f_420_739 ?_
        exact w_n (ks := [0, 1, 2, 3, 4]) rfl h
      · refine w_a f_420_737 ?_
        refine w_a f_420_738 ?_
        exact h
    · refine w_a f_420_739 ?_
      exact w_n (ks := [0, 1, 2, 3, 4]) rfl h
  · refine w_a f_420_721 ?_
    refine w_a f_420_722 ?_
    exact h
set_option maxRecDepth 10000 in
set_option maxHeartbeats 4000000 in
theorem s_420_742 {Lx : Nat} {I : Mi} {L : Ml} {e : Nat} {Q : Kq} {x4 : Int32} (h :
    (inb (x4 + (Int32.ofInt 1)) Lx (
     Wp 374 0 [(0, .ref 1), (1, .int (I 0 ((x4 + (Int32.ofInt 1)).toNatClampNeg))), (2, .ref 70)] [] (gE Lx) I L e (kcp (Wp 420) 420 750 0 [(0, .ref 0), (1, .ref 1), (2, .ref 58), (3, .ref 70), (4, .int x4)] 71 [] Q))
    False)) :
    Wp 420 742 [(0, .ref 0), (1, .ref 1), (2, .ref 58), (3, .ref 70), (4, .int x4)] [] (gE Lx) I L e Q := by
  refine w_a f_420_742 ?_
  refine w_a f_420_743 ?_
  refine w_a f_420_744 ?_
  refine w_a f_420_746 ?_
  refine w_a f_420_747 ?_
  refine w_a f_420_748 ?_
  refine n_m (fun h => ?_) h
  refine w_a f_420_749 ?_
  exact w_c (ks := [0, 1, 2, 3, 4]) f_420_750 rfl rfl h
set_option maxRecDepth 10000 in
set_option maxHeartbeats 4000000 in
theorem s_420_753 {Lx : Nat} {I : Mi} {L : Ml} {e : Nat} {Q : Kq} {x4 : Int32} {r : Int32} (h :
    (inb (x4 + (Int32.ofInt 1)) Lx (
     Wp 238 0 [(0, .ref 58), (1, .int (I 0 ((x4 + (Int32.ofInt 1)).toNatClampNeg)))] [] (gE Lx) I L e (kcp (Wp 420) 420 762 0 [(0, .ref 0), (1, .ref 1), (2, .ref 58), (3, .ref 70), (4, .int x4), (5, .int r)] 71 [] Q))
    False)) :
    Wp 420 753 [(0, .ref 0), (1, .ref 1), (2, .ref 58), (3, .ref 70), (4, .int x4)] [.int r] (gE Lx) I L e Q := by
  refine w_a f_420_753 ?_
  refine w_a (ls := [(5, .int r), (0, .ref 0), (1, .ref 1), (2, .ref 58), (3, .ref 70), (4, .int x4)]) f_420_755 ?_
  refine w_a f_420_756 ?_
  refine w_a f_420_757 ?_
  refine w_a f_420_759 ?_
  refine w_a f_420_760 ?_
  refine w_a f_420_761 ?_
  refine n_m (fun h => ?_) h
  exact w_c (ks := [0, 1, 2, 3, 4, 5]) f_420_762 rfl rfl h
set_option maxRecDepth 10000 in
set_option maxHeartbeats 4000000 in
theorem s_420_765 {Lx : Nat} {I : Mi} {L : Ml} {e : Nat} {Q : Kq} {x4 : Int32} {x5 : Int32} {r : Int32} (h :
    (if (I 58 0) = x5 then
     (if x5 = 0 then
      (if r = 0 then
       (if (L 70 0) = (Int64.ofInt 0) then
        Wp 420 4917 [(0, .ref 0), (1, .ref 1), (2, .ref 58), (3, .ref 70), (4, .int x4)] [] (gE Lx) I L e Q
       else
        Q (.inl (some (.int (Int32.ofInt 0)))) (gE Lx) I L e)
      else
       (if (L 70 0) = (Int64.ofInt 1) then
        Wp 420 4917 [(0, .ref 0), (1, .ref 1), (2, .ref 58), (3, .ref 70), (4, .int x4)] [] (gE Lx) I L e Q
       else
        Q (.inl (some (.int (Int32.ofInt 0)))) (gE Lx) I L e))
     else
      Wp 420 4917 [(0, .ref 0), (1, .ref 1), (2, .ref 58), (3, .ref 70), (4, .int x4)] [] (gE Lx) I L e Q)
    else
     Q (.inl (some (.int (Int32.ofInt 0)))) (gE Lx) I L e)) :
    Wp 420 765 [(0, .ref 0), (1, .ref 1), (2, .ref 58), (3, .ref 70), (4, .int x4), (5, .int x5)] [.int r] (gE Lx) I L e Q := by
  refine w_a f_420_765 ?_
  refine w_a (ls := [(6, .int r), (0, .ref 0), (1, .ref 1), (2, .ref 58), (3, .ref 70), (4, .int x4), (5, .int x5)]) f_420_767 ?_
  refine w_a f_420_768 ?_
  refine w_a (ls := [(0, .ref 58)]) f_212_0 ?_
  refine w_a f_212_1 ?_
  refine w_a f_212_4 ?_
  refine w_a (ls := [(6, .int r), (0, .ref 0), (1, .ref 1), (2, .ref 58), (3, .ref 70), (4, .int x4), (5, .int x5)]) f_420_771 ?_
  refine w_a f_420_773 ?_
  refine i_m (fun h => ?_) (fun h => ?_) h
  · refine w_a f_420_778 ?_
    refine w_a f_420_780 ?_
    refine i_m (fun h => ?_) (fun h => ?_) h
    · refine w_a f_420_783 ?_
      refine w_a f_420_784 ?_
      refine w_a f_420_785 ?_
      refine w_a f_420_786 ?_
      refine w_a f_420_788 ?_
      refine i_m (fun h => ?_) (fun h => ?_) h
      · refine w_a f_420_795 ?_
        refine w_a f_420_796 ?_
        refine i_m (fun h => ?_) (fun h => ?_) h
        · refine w_a f_420_802 ?_
          exact w_n (ks := [0, 1, 2, 3, 4]) rfl h
        · refine w_a f_420_800 ?_
          refine w_a f_420_801 ?_
          exact h
      · refine w_a f_420_791 ?_
        refine w_a f_420_792 ?_
        refine w_a f_420_796 ?_
        refine i_m (fun h => ?_) (fun h => ?_) h
        · refine w_a f_420_802 ?_
          exact w_n (ks := [0, 1, 2, 3, 4]) rfl h
        · refine w_a f_420_800 ?_
          refine w_a f_420_801 ?_
          exact h
    · refine w_a f_420_802 ?_
      exact w_n (ks := [0, 1, 2, 3, 4]) rfl h
  · refine w_a f_420_776 ?_
    refine w_a f_420_777 ?_
    exact h
set_option maxRecDepth 10000 in
set_option maxHeartbeats 4000000 in
theorem s_420_805 {Lx : Nat} {I : Mi} {L : Ml} {e : Nat} {Q : Kq} {x4 : Int32} (h :
    (inb (x4 + (Int32.ofInt 1)) Lx (
     (inb (x4 + (Int32.ofInt 2)) Lx (
      (if (I 0 ((x4 + (Int32.ofInt 2)).toNatClampNeg)) = 0 then
       Wp 375 0 [(0, .ref 1), (1, .int (I 0 ((x4 + (Int32.ofInt 1)).toNatClampNeg))), (2, .int (Int32.ofInt 0)), (3, .ref 70)] [] (gE Lx) I L e (kcp (Wp 420) 420 827 0 [(0, .ref 0), (1, .ref 1), (2, .ref 58), (3, .ref 70), (4, .int x4)] 71 [] Q)
      else
       Wp 375 0 [(0, .ref 1), (1, .int (I 0 ((x4 + (Int32.ofInt 1)).toNatClampNeg))), (2, .int (Int32.ofInt 1)), (3, .ref 70)] [] (gE Lx) I L e (kcp (Wp 420) 420 827 0 [(0, .ref 0), (1, .ref 1), (2, .ref 58), (3, .ref 70), (4, .int x4)] 71 [] Q)))
     False))
    False)) :
    Wp 420 805 [(0, .ref 0), (1, .ref 1), (2, .ref 58), (3, .ref 70), (4, .int x4)] [] (gE Lx) I L e Q := by
  refine w_a f_420_805 ?_
  refine w_a f_420_806 ?_
  refine w_a f_420_807 ?_
  refine w_a f_420_809 ?_
  refine w_a f_420_810 ?_
  refine w_a f_420_811 ?_
  refine n_m (fun h => ?_) h
  refine w_a f_420_812 ?_
  refine w_a f_420_813 ?_
  refine w_a f_420_815 ?_
  refine w_a f_420_816 ?_
  refine w_a f_420_817 ?_
  refine n_m (fun h => ?_) h
  refine w_a f_420_818 ?_
  refine i_m (fun h => ?_) (fun h => ?_) h
  · refine w_a f_420_825 ?_
    refine w_a f_420_826 ?_
    exact w_c (ks := [0, 1, 2, 3, 4]) f_420_827 rfl rfl h
  · refine w_a f_420_821 ?_
    refine w_a f_420_822 ?_
    refine w_a f_420_826 ?_
    exact w_c (ks := [0, 1, 2, 3, 4]) f_420_827 rfl rfl h
set_option maxRecDepth 10000 in
set_option maxHeartbeats 4000000 in
theorem s_420_830 {Lx : Nat} {I : Mi} {L : Ml} {e : Nat} {Q : Kq} {x4 : Int32} {r : Int32} (h :
    (inb (x4 + (Int32.ofInt 1)) Lx (
     (inb (x4 + (Int32.ofInt 2)) Lx (
      (if (I 0 ((x4 + (Int32.ofInt 2)).toNatClampNeg)) = 0 then
       Wp 239 0 [(0, .ref 58), (1, .int (I 0 ((x4 + (Int32.ofInt 1)).toNatClampNeg))), (2, .int (Int32.ofInt 0))] [] (gE Lx) I L e (kcp (Wp 420) 420 853 0 [(0, .ref 0), (1, .ref 1), (2, .ref 58), (3, .ref 70), (4, .int x4), (5, .int r)] 71 [] Q)
      else
       Wp 239 0 [(0, .ref 58), (1, .int (I 0 ((x4 + (Int32.ofInt 1)).toNatClampNeg))), (2, .int (Int32.ofInt 1))] [] (gE Lx) I L e (kcp (Wp 420) 420 853 0 [(0, .ref 0), (1, .ref 1), (2, .ref 58), (3, .ref 70), (4, .int x4), (5, .int r)] 71 [] Q)))
     False))
    False)) :
    Wp 420 830 [(0, .ref 0), (1, .ref 1), (2, .ref 58), (3, .ref 70), (4, .int x4)] [.int r] (gE Lx) I L e Q := by
  refine w_a f_420_830 ?_
  refine w_a (ls := [(5, .int r), (0, .ref 0), (1, .ref 1), (2, .ref 58), (3, .ref 70), (4, .int x4)]) f_420_832 ?_
  refine w_a f_420_833 ?_
  refine w_a f_420_834 ?_
  refine w_a f_420_836 ?_
  refine w_a f_420_837 ?_
  refine w_a f_420_838 ?_
  refine n_m (fun h => ?_) h
  refine w_a f_420_839 ?_
  refine w_a f_420_840 ?_
  refine w_a f_420_842 ?_
  refine w_a f_420_843 ?_
  refine w_a f_420_844 ?_
  refine n_m (fun h => ?_) h
  refine w_a f_420_845 ?_
  refine i_m (fun h => ?_) (fun h => ?_) h
  · refine w_a f_420_852 ?_
    exact w_c (ks := [0, 1, 2, 3, 4, 5]) f_420_853 rfl rfl h
  · refine w_a f_420_848 ?_
    refine w_a f_420_849 ?_
    exact w_c (ks := [0, 1, 2, 3, 4, 5]) f_420_853 rfl rfl h
set_option maxRecDepth 10000 in
set_option maxHeartbeats 4000000 in
theorem s_420_856 {Lx : Nat} {I : Mi} {L : Ml} {e : Nat} {Q : Kq} {x4 : Int32} {x5 : Int32} {rl : Int64} (h :
    (if (I 58 0) = x5 then
     (if x5 = 0 then
      (if (L 70 0) = rl then
       Wp 420 4917 [(0, .ref 0), (1, .ref 1), (2, .ref 58), (3, .ref 70), (4, .int x4)] [] (gE Lx) I L e Q
      else
       Q (.inl (some (.int (Int32.ofInt 0)))) (gE Lx) I L e)
     else
      Wp 420 4917 [(0, .ref 0), (1, .ref 1), (2, .ref 58), (3, .ref 70), (4, .int x4)] [] (gE Lx) I L e Q)
    else
     Q (.inl (some (.int (Int32.ofInt 0)))) (gE Lx) I L e)) :
    Wp 420 856 [(0, .ref 0), (1, .ref 1), (2, .ref 58), (3, .ref 70), (4, .int x4), (5, .int x5)] [.long rl] (gE Lx) I L e Q := by
  refine w_a f_420_856 ?_
  refine w_a (ls := [(6, .long rl), (0, .ref 0), (1, .ref 1), (2, .ref 58), (3, .ref 70), (4, .int x4), (5, .int x5)]) f_420_858 ?_
  refine w_a f_420_859 ?_
  refine w_a (ls := [(0, .ref 58)]) f_212_0 ?_
  refine w_a f_212_1 ?_
  refine w_a f_212_4 ?_
  refine w_a (ls := [(6, .long rl), (0, .ref 0), (1, .ref 1), (2, .ref 58), (3, .ref 70), (4, .int x4), (5, .int x5)]) f_420_862 ?_
  refine w_a f_420_864 ?_
  refine i_m (fun h => ?_) (fun h => ?_) h
  · refine w_a f_420_869 ?_
    refine w_a f_420_871 ?_
    refine i_m (fun h => ?_) (fun h => ?_) h
    · refine w_a f_420_874 ?_
      refine w_a f_420_875 ?_
      refine w_a f_420_876 ?_
      refine w_a f_420_877 ?_
      refine w_a f_420_879 ?_
      refine i_m (fun h => ?_) (fun h => ?_) h
      · refine w_a f_420_885 ?_
        exact w_n (ks := [0, 1, 2, 3, 4]) rfl h
      · refine w_a f_420_883 ?_
        refine w_a f_420_884 ?_
        exact h
    · refine w_a f_420_885 ?_
      exact w_n (ks := [0, 1, 2, 3, 4]) rfl h
  · refine w_a f_420_867 ?_
    refine w_a f_420_868 ?_
    exact h
set_option maxRecDepth 10000 in
set_option maxHeartbeats 4000000 in
theorem s_420_888 {Lx : Nat} {I : Mi} {L : Ml} {e : Nat} {Q : Kq} {x4 : Int32} (h :
    (inb (x4 + (Int32.ofInt 1)) Lx (
     (inb (x4 + (Int32.ofInt 2)) Lx (
      (if (I 0 ((x4 + (Int32.ofInt 2)).toNatClampNeg)) = 0 then
       Wp 376 0 [(0, .ref 1), (1, .int (I 0 ((x4 + (Int32.ofInt 1)).toNatClampNeg))), (2, .int (Int32.ofInt 0)), (3, .ref 70)] [] (gE Lx) I L e (kcp (Wp 420) 420 910 0 [(0, .ref 0), (1, .ref 1), (2, .ref 58), (3, .ref 70), (4, .int x4)] 71 [] Q)
      else
       Wp 376 0 [(0, .ref 1), (1, .int (I 0 ((x4 + (Int32.ofInt 1)).toNatClampNeg))), (2, .int (Int32.ofInt 1)), (3, .ref 70)] [] (gE Lx) I L e (kcp (Wp 420) 420 910 0 [(0, .ref 0), (1, .ref 1), (2, .ref 58), (3, .ref 70), (4, .int x4)] 71 [] Q)))
     False))
    False)) :
    Wp 420 888 [(0, .ref 0), (1, .ref 1), (2, .ref 58), (3, .ref 70), (4, .int x4)] [] (gE Lx) I L e Q := by
  refine w_a f_420_888 ?_
  refine w_a f_420_889 ?_
  refine w_a f_420_890 ?_
  refine w_a f_420_892 ?_
  refine w_a f_420_893 ?_
  refine w_a f_420_894 ?_
  refine n_m (fun h => ?_) h
  refine w_a f_420_895 ?_
  refine w_a f_420_896 ?_
  refine w_a f_420_898 ?_
  refine w_a f_420_899 ?_
  refine w_a f_420_900 ?_
  refine n_m (fun h => ?_) h
  refine w_a f_420_901 ?_
  refine i_m (fun h => ?_) (fun h => ?_) h
  · refine w_a f_420_908 ?_
    refine w_a f_420_909 ?_
    exact w_c (ks := [0, 1, 2, 3, 4]) f_420_910 rfl rfl h
  · refine w_a f_420_904 ?_
    refine w_a f_420_905 ?_
    refine w_a f_420_909 ?_
    exact w_c (ks := [0, 1, 2, 3, 4]) f_420_910 rfl rfl h
set_option maxRecDepth 10000 in
set_option maxHeartbeats 4000000 in
theorem s_420_913 {Lx : Nat} {I : Mi} {L : Ml} {e : Nat} {Q : Kq} {x4 : Int32} {r : Int32} (h :
    (inb (x4 + (Int32.ofInt 1)) Lx (
     (inb (x4 + (Int32.ofInt 2)) Lx (
      (if (I 0 ((x4 + (Int32.ofInt 2)).toNatClampNeg)) = 0 then
       Wp 337 0 [(0, .ref 58), (1, .int (I 0 ((x4 + (Int32.ofInt 1)).toNatClampNeg))), (2, .int (Int32.ofInt 0))] [] (gE Lx) I L e (kcp (Wp 420) 420 936 0 [(0, .ref 0), (1, .ref 1), (2, .ref 58), (3, .ref 70), (4, .int x4), (5, .int r)] 71 [] Q)
      else
       Wp 337 0 [(0, .ref 58), (1, .int (I 0 ((x4 + (Int32.ofInt 1)).toNatClampNeg))), (2, .int (Int32.ofInt 1))] [] (gE Lx) I L e (kcp (Wp 420) 420 936 0 [(0, .ref 0), (1, .ref 1), (2, .ref 58), (3, .ref 70), (4, .int x4), (5, .int r)] 71 [] Q)))
     False))
    False)) :
    Wp 420 913 [(0, .ref 0), (1, .ref 1), (2, .ref 58), (3, .ref 70), (4, .int x4)] [.int r] (gE Lx) I L e Q := by
  refine w_a f_420_913 ?_
  refine w_a (ls := [(5, .int r), (0, .ref 0), (1, .ref 1), (2, .ref 58), (3, .ref 70), (4, .int x4)]) f_420_915 ?_
  refine w_a f_420_916 ?_
  refine w_a f_420_917 ?_
  refine w_a f_420_919 ?_
  refine w_a f_420_920 ?_
  refine w_a f_420_921 ?_
  refine n_m (fun h => ?_) h
  refine w_a f_420_922 ?_
  refine w_a f_420_923 ?_
  refine w_a f_420_925 ?_
  refine w_a f_420_926 ?_
  refine w_a f_420_927 ?_
  refine n_m (fun h => ?_) h
  refine w_a f_420_928 ?_
  refine i_m (fun h => ?_) (fun h => ?_) h
  · refine w_a f_420_935 ?_
    exact w_c (ks := [0, 1, 2, 3, 4, 5]) f_420_936 rfl rfl h
  · refine w_a f_420_931 ?_
    refine w_a f_420_932 ?_
    exact w_c (ks := [0, 1, 2, 3, 4, 5]) f_420_936 rfl rfl h
set_option maxRecDepth 10000 in
set_option maxHeartbeats 4000000 in
theorem s_420_939 {Lx : Nat} {I : Mi} {L : Ml} {e : Nat} {Q : Kq} {x4 : Int32} {x5 : Int32} {r : Int32} (h :
    (if (I 58 0) = x5 then
     (if x5 = 0 then
      (if (L 70 0) = r.toInt64 then
       Wp 420 4917 [(0, .ref 0), (1, .ref 1), (2, .ref 58), (3, .ref 70), (4, .int x4)] [] (gE Lx) I L e Q
      else
       Q (.inl (some (.int (Int32.ofInt 0)))) (gE Lx) I L e)
     else
      Wp 420 4917 [(0, .ref 0), (1, .ref 1), (2, .ref 58), (3, .ref 70), (4, .int x4)] [] (gE Lx) I L e Q)
    else
     Q (.inl (some (.int (Int32.ofInt 0)))) (gE Lx) I L e)) :
    Wp 420 939 [(0, .ref 0), (1, .ref 1), (2, .ref 58), (3, .ref 70), (4, .int x4), (5, .int x5)] [.int r] (gE Lx) I L e Q := by
  refine w_a f_420_939 ?_
  refine w_a (ls := [(6, .int r), (0, .ref 0), (1, .ref 1), (2, .ref 58), (3, .ref 70), (4, .int x4), (5, .int x5)]) f_420_941 ?_
  refine w_a f_420_942 ?_
  refine w_a (ls := [(0, .ref 58)]) f_212_0 ?_
  refine w_a f_212_1 ?_
  refine w_a f_212_4 ?_
  refine w_a (ls := [(6, .int r), (0, .ref 0), (1, .ref 1), (2, .ref 58), (3, .ref 70), (4, .int x4), (5, .int x5)]) f_420_945 ?_
  refine w_a f_420_947 ?_
  refine i_m (fun h => ?_) (fun h => ?_) h
  · refine w_a f_420_952 ?_
    refine w_a f_420_954 ?_
    refine i_m (fun h => ?_) (fun h => ?_) h
    · refine w_a f_420_957 ?_
      refine w_a f_420_958 ?_
      refine w_a f_420_959 ?_
      refine w_a f_420_960 ?_
      refine w_a f_420_962 ?_
      refine w_a f_420_963 ?_
      refine i_m (fun h => ?_) (fun h => ?_) h
      · refine w_a f_420_969 ?_
        exact w_n (ks := [0, 1, 2, 3, 4]) rfl h
      · refine w_a f_420_967 ?_
        refine w_a f_420_968 ?_
        exact h
    · refine w_a f_420_969 ?_
      exact w_n (ks := [0, 1, 2, 3, 4]) rfl h
  · refine w_a f_420_950 ?_
    refine w_a f_420_951 ?_
    exact h
set_option maxRecDepth 10000 in
set_option maxHeartbeats 4000000 in
theorem s_420_972 {Lx : Nat} {I : Mi} {L : Ml} {e : Nat} {Q : Kq} {x4 : Int32} (h :
    (inb (x4 + (Int32.ofInt 1)) Lx (
     (inb (x4 + (Int32.ofInt 2)) Lx (
      (if (I 0 ((x4 + (Int32.ofInt 2)).toNatClampNeg)) = 0 then
       Wp 377 0 [(0, .ref 1), (1, .int (I 0 ((x4 + (Int32.ofInt 1)).toNatClampNeg))), (2, .int (Int32.ofInt 0)), (3, .ref 70)] [] (gE Lx) I L e (kcp (Wp 420) 420 994 0 [(0, .ref 0), (1, .ref 1), (2, .ref 58), (3, .ref 70), (4, .int x4)] 71 [] Q)
      else
       Wp 377 0 [(0, .ref 1), (1, .int (I 0 ((x4 + (Int32.ofInt 1)).toNatClampNeg))), (2, .int (Int32.ofInt 1)), (3, .ref 70)] [] (gE Lx) I L e (kcp (Wp 420) 420 994 0 [(0, .ref 0), (1, .ref 1), (2, .ref 58), (3, .ref 70), (4, .int x4)] 71 [] Q)))
     False))
    False)) :
    Wp 420 972 [(0, .ref 0), (1, .ref 1), (2, .ref 58), (3, .ref 70), (4, .int x4)] [] (gE Lx) I L e Q := by
  refine w_a f_420_972 ?_
  refine w_a f_420_973 ?_
  refine w_a f_420_974 ?_
  refine w_a f_420_976 ?_
  refine w_a f_420_977 ?_
  refine w_a f_420_978 ?_
  refine n_m (fun h => ?_) h
  refine w_a f_420_979 ?_
  refine w_a f_420_980 ?_
  refine w_a f_420_982 ?_
  refine w_a f_420_983 ?_
  refine w_a f_420_984 ?_
  refine n_m (fun h => ?_) h
  refine w_a f_420_985 ?_
  refine i_m (fun h => ?_) (fun h => ?_) h
  · refine w_a f_420_992 ?_
    refine w_a f_420_993 ?_
    exact w_c (ks := [0, 1, 2, 3, 4]) f_420_994 rfl rfl h
  · refine w_a f_420_988 ?_
    refine w_a f_420_989 ?_
    refine w_a f_420_993 ?_
    exact w_c (ks := [0, 1, 2, 3, 4]) f_420_994 rfl rfl h
set_option maxRecDepth 10000 in
set_option maxHeartbeats 4000000 in
theorem s_420_997 {Lx : Nat} {I : Mi} {L : Ml} {e : Nat} {Q : Kq} {x4 : Int32} {r : Int32} (h :
    (inb (x4 + (Int32.ofInt 1)) Lx (
     (inb (x4 + (Int32.ofInt 2)) Lx (
      (if (I 0 ((x4 + (Int32.ofInt 2)).toNatClampNeg)) = 0 then
       Wp 347 0 [(0, .ref 58), (1, .int (I 0 ((x4 + (Int32.ofInt 1)).toNatClampNeg))), (2, .int (Int32.ofInt 0))] [] (gE Lx) I L e (kcp (Wp 420) 420 1020 0 [(0, .ref 0), (1, .ref 1), (2, .ref 58), (3, .ref 70), (4, .int x4), (5, .int r)] 71 [] Q)
      else
       Wp 347 0 [(0, .ref 58), (1, .int (I 0 ((x4 + (Int32.ofInt 1)).toNatClampNeg))), (2, .int (Int32.ofInt 1))] [] (gE Lx) I L e (kcp (Wp 420) 420 1020 0 [(0, .ref 0), (1, .ref 1), (2, .ref 58), (3, .ref 70), (4, .int x4), (5, .int r)] 71 [] Q)))
     False))
    False)) :
    Wp 420 997 [(0, .ref 0), (1, .ref 1), (2, .ref 58), (3, .ref 70), (4, .int x4)] [.int r] (gE Lx) I L e Q := by
  refine w_a f_420_997 ?_
  refine w_a (ls := [(5, .int r), (0, .ref 0), (1, .ref 1), (2, .ref 58), (3, .ref 70), (4, .int x4)]) f_420_999 ?_
  refine w_a f_420_1000 ?_
  refine w_a f_420_1001 ?_
  refine w_a f_420_1003 ?_
  refine w_a f_420_1004 ?_
  refine w_a f_420_1005 ?_
  refine n_m (fun h => ?_) h
  refine w_a f_420_1006 ?_
  refine w_a f_420_1007 ?_
  refine w_a f_420_1009 ?_
  refine w_a f_420_1010 ?_
  refine w_a f_420_1011 ?_
  refine n_m (fun h => ?_) h
  refine w_a f_420_1012 ?_
  refine i_m (fun h => ?_) (fun h => ?_) h
  · refine w_a f_420_1019 ?_
    exact w_c (ks := [0, 1, 2, 3, 4, 5]) f_420_1020 rfl rfl h
  · refine w_a f_420_1015 ?_
    refine w_a f_420_1016 ?_
    exact w_c (ks := [0, 1, 2, 3, 4, 5]) f_420_1020 rfl rfl h
set_option maxRecDepth 10000 in
set_option maxHeartbeats 4000000 in
theorem s_420_1023 {Lx : Nat} {I : Mi} {L : Ml} {e : Nat} {Q : Kq} {x4 : Int32} {x5 : Int32} {r : Int32} (h :
    (if (I 58 0) = x5 then
     (if x5 = 0 then
      (if r = 0 then
       (if (L 70 0) = (Int64.ofInt 0) then
        Wp 420 4917 [(0, .ref 0), (1, .ref 1), (2, .ref 58), (3, .ref 70), (4, .int x4)] [] (gE Lx) I L e Q
       else
        Q (.inl (some (.int (Int32.ofInt 0)))) (gE Lx) I L e)
      else
       (if (L 70 0) = (Int64.ofInt 1) then
        Wp 420 4917 [(0, .ref 0), (1, .ref 1), (2, .ref 58), (3, .ref 70), (4, .int x4)] [] (gE Lx) I L e Q
       else
        Q (.inl (some (.int (Int32.ofInt 0)))) (gE Lx) I L e))
     else
      Wp 420 4917 [(0, .ref 0), (1, .ref 1), (2, .ref 58), (3, .ref 70), (4, .int x4)] [] (gE Lx) I L e Q)
    else
     Q (.inl (some (.int (Int32.ofInt 0)))) (gE Lx) I L e)) :
    Wp 420 1023 [(0, .ref 0), (1, .ref 1), (2, .ref 58), (3, .ref 70), (4, .int x4), (5, .int x5)] [.int r] (gE Lx) I L e Q := by
  refine w_a f_420_1023 ?_
  refine w_a (ls := [(6, .int r), (0, .ref 0), (1, .ref 1), (2, .ref 58), (3, .ref 70), (4, .int x4), (5, .int x5)]) f_420_1025 ?_
  refine w_a f_420_1026 ?_
  refine w_a (ls := [(0, .ref 58)]) f_212_0 ?_
  refine w_a f_212_1 ?_
  refine w_a f_212_4 ?_
  refine w_a (ls := [(6, .int r), (0, .ref 0), (1, .ref 1), (2, .ref 58), (3, .ref 70), (4, .int x4), (5, .int x5)]) f_420_1029 ?_
  refine w_a f_420_1031 ?_
  refine i_m (fun h => ?_) (fun h => ?_) h
  · refine w_a f_420_1036 ?_
    refine w_a f_420_1038 ?_
    refine i_m (fun h => ?_) (fun h => ?_) h
    · refine w_a f_420_1041 ?_
      refine w_a f_420_1042 ?_
      refine w_a f_420_1043 ?_
      refine w_a f_420_1044 ?_
      refine w_a f_420_1046 ?_
      refine i_m (fun h => ?_) (fun h => ?_) h
      · refine w_a f_420_1053 ?_
        refine w_a f_420_1054 ?_
        refine i_m (fun h => ?_) (fun h => ?_) h
        · refine w_a f_420_1060 ?_
          exact w_n (ks := [0, 1, 2, 3, 4]) rfl h
        · refine w_a f_420_1058 ?_
          refine w_a f_420_1059 ?_
          exact h
      · refine w_a f_420_1049 ?_
        refine w_a f_420_1050 ?_
        refine w_a f_420_1054 ?_
        refine i_m (fun h => ?_) (fun h => ?_) h
        · refine w_a f_420_1060 ?_
          exact w_n (ks := [0, 1, 2, 3, 4]) rfl h
        · refine w_a f_420_1058 ?_
          refine w_a f_420_1059 ?_
          exact h
    · refine w_a f_420_1060 ?_
      exact w_n (ks := [0, 1, 2, 3, 4]) rfl h
  · refine w_a f_420_1034 ?_
    refine w_a f_420_1035 ?_
    exact h
set_option maxRecDepth 10000 in
set_option maxHeartbeats 4000000 in
theorem s_420_1063 {Lx : Nat} {I : Mi} {L : Ml} {e : Nat} {Q : Kq} {x4 : Int32} (h :
    (inb (x4 + (Int32.ofInt 1)) Lx (
     (inb (x4 + (Int32.ofInt 2)) Lx (
      (inb (x4 + (Int32.ofInt 3)) Lx (
       (if (I 0 ((x4 + (Int32.ofInt 3)).toNatClampNeg)) = 0 then
        Wp 378 0 [(0, .ref 1), (1, .int (I 0 ((x4 + (Int32.ofInt 1)).toNatClampNeg))), (2, .int (I 0 ((x4 + (Int32.ofInt 2)).toNatClampNeg))), (3, .int (Int32.ofInt 0)), (4, .ref 70)] [] (gE Lx) I L e (kcp (Wp 420) 420 1091 0 [(0, .ref 0), (1, .ref 1), (2, .ref 58), (3, .ref 70), (4, .int x4)] 71 [] Q)
       else
        Wp 378 0 [(0, .ref 1), (1, .int (I 0 ((x4 + (Int32.ofInt 1)).toNatClampNeg))), (2, .int (I 0 ((x4 + (Int32.ofInt 2)).toNatClampNeg))), (3, .int (Int32.ofInt 1)), (4, .ref 70)] [] (gE Lx) I L e (kcp (Wp 420) 420 1091 0 [(0, .ref 0), (1, .ref 1), (2, .ref 58), (3, .ref 70), (4, .int x4)] 71 [] Q)))
      False))
     False))
    False)) :
    Wp 420 1063 [(0, .ref 0), (1, .ref 1), (2, .ref 58), (3, .ref 70), (4, .int x4)] [] (gE Lx) I L e Q := by
  refine w_a f_420_1063 ?_
  refine w_a f_420_1064 ?_
  refine w_a f_420_1065 ?_
  refine w_a f_420_1067 ?_
  refine w_a f_420_1068 ?_
  refine w_a f_420_1069 ?_
  refine n_m (fun h => ?_) h
  refine w_a f_420_1070 ?_
  refine w_a f_420_1071 ?_
  refine w_a f_420_1073 ?_
  refine w_a f_420_1074 ?_
  refine w_a f_420_1075 ?_
  refine n_m (fun h => ?_) h
  refine w_a f_420_1076 ?_
  refine w_a f_420_1077 ?_
  refine w_a f_420_1079 ?_
  refine w_a f_420_1080 ?_
  refine w_a f_420_1081 ?_
  refine n_m (fun h => ?_) h
  refine w_a f_420_1082 ?_
  refine i_m (fun h => ?_) (fun h => ?_) h
  · refine w_a f_420_1089 ?_
    refine w_a f_420_1090 ?_
    exact w_c (ks := [0, 1, 2, 3, 4]) f_420_1091 rfl rfl h
  · refine w_a f_420_1085 ?_
    refine w_a f_420_1086 ?_
    refine w_a f_420_1090 ?_
    exact w_c (ks := [0, 1, 2, 3, 4]) f_420_1091 rfl rfl h
set_option maxRecDepth 10000 in
set_option maxHeartbeats 4000000 in
theorem s_420_1094 {Lx : Nat} {I : Mi} {L : Ml} {e : Nat} {Q : Kq} {x4 : Int32} {r : Int32} (h :
    (inb (x4 + (Int32.ofInt 1)) Lx (
     (inb (x4 + (Int32.ofInt 2)) Lx (
      (inb (x4 + (Int32.ofInt 3)) Lx (
       (if (I 0 ((x4 + (Int32.ofInt 3)).toNatClampNeg)) = 0 then
        Wp 241 0 [(0, .ref 58), (1, .int (I 0 ((x4 + (Int32.ofInt 1)).toNatClampNeg))), (2, .int (I 0 ((x4 + (Int32.ofInt 2)).toNatClampNeg))), (3, .int (Int32.ofInt 0))] [] (gE Lx) I L e (kcp (Wp 420) 420 1123 0 [(0, .ref 0), (1, .ref 1), (2, .ref 58), (3, .ref 70), (4, .int x4), (5, .int r)] 71 [] Q)
       else
        Wp 241 0 [(0, .ref 58), (1, .int (I 0 ((x4 + (Int32.ofInt 1)).toNatClampNeg))), (2, .int (I 0 ((x4 + (Int32.ofInt 2)).toNatClampNeg))), (3, .int (Int32.ofInt 1))] [] (gE Lx) I L e (kcp (Wp 420) 420 1123 0 [(0, .ref 0), (1, .ref 1), (2, .ref 58), (3, .ref 70), (4, .int x4), (5, .int r)] 71 [] Q)))
      False))
     False))
    False)) :
    Wp 420 1094 [(0, .ref 0), (1, .ref 1), (2, .ref 58), (3, .ref 70), (4, .int x4)] [.int r] (gE Lx) I L e Q := by
  refine w_a f_420_1094 ?_
  refine w_a (ls := [(5, .int r), (0, .ref 0), (1, .ref 1), (2, .ref 58), (3, .ref 70), (4, .int x4)]) f_420_1096 ?_
  refine w_a f_420_1097 ?_
  refine w_a f_420_1098 ?_
  refine w_a f_420_1100 ?_
  refine w_a f_420_1101 ?_
  refine w_a f_420_1102 ?_
  refine n_m (fun h => ?_) h
  refine w_a f_420_1103 ?_
  refine w_a f_420_1104 ?_
  refine w_a f_420_1106 ?_
  refine w_a f_420_1107 ?_
  refine w_a f_420_1108 ?_
  refine n_m (fun h => ?_) h
  refine w_a f_420_1109 ?_
  refine w_a f_420_1110 ?_
  refine w_a f_420_1112 ?_
  refine w_a f_420_1113 ?_
  refine w_a f_420_1114 ?_
  refine n_m (fun h => ?_) h
  refine w_a f_420_1115 ?_
  refine i_m (fun h => ?_) (fun h => ?_) h
  · refine w_a f_420_1122 ?_
    exact w_c (ks := [0, 1, 2, 3, 4, 5]) f_420_1123 rfl rfl h
  · refine w_a f_420_1118 ?_
    refine w_a f_420_1119 ?_
    exact w_c (ks := [0, 1, 2, 3, 4, 5]) f_420_1123 rfl rfl h
set_option maxRecDepth 10000 in
set_option maxHeartbeats 4000000 in
theorem s_420_1126 {Lx : Nat} {I : Mi} {L : Ml} {e : Nat} {Q : Kq} {x4 : Int32} {x5 : Int32} {r : Int32} (h :
    (if (I 58 0) = x5 then
     (if x5 = 0 then
      (if (L 70 0) = r.toInt64 then
       Wp 420 4917 [(0, .ref 0), (1, .ref 1), (2, .ref 58), (3, .ref 70), (4, .int x4)] [] (gE Lx) I L e Q
      else
       Q (.inl (some (.int (Int32.ofInt 0)))) (gE Lx) I L e)
     else
      Wp 420 4917 [(0, .ref 0), (1, .ref 1), (2, .ref 58), (3, .ref 70), (4, .int x4)] [] (gE Lx) I L e Q)
    else
     Q (.inl (some (.int (Int32.ofInt 0)))) (gE Lx) I L e)) :
    Wp 420 1126 [(0, .ref 0), (1, .ref 1), (2, .ref 58), (3, .ref 70), (4, .int x4), (5, .int x5)] [.int r] (gE Lx) I L e Q := by
  refine w_a f_420_1126 ?_
  refine w_a (ls := [(6, .int r), (0, .ref 0), (1, .ref 1), (2, .ref 58), (3, .ref 70), (4, .int x4), (5, .int x5)]) f_420_1128 ?_
  refine w_a f_420_1129 ?_
  refine w_a (ls := [(0, .ref 58)]) f_212_0 ?_
  refine w_a f_212_1 ?_
  refine w_a f_212_4 ?_
  refine w_a (ls := [(6, .int r), (0, .ref 0), (1, .ref 1), (2, .ref 58), (3, .ref 70), (4, .int x4), (5, .int x5)]) f_420_1132 ?_
  refine w_a f_420_1134 ?_
  refine i_m (fun h => ?_) (fun h => ?_) h
  · refine w_a f_420_1139 ?_
    refine w_a f_420_1141 ?_
    refine i_m (fun h => ?_) (fun h => ?_) h
    · refine w_a f_420_1144 ?_
      refine w_a f_420_1145 ?_
      refine w_a f_420_1146 ?_
      refine w_a f_420_1147 ?_
      refine w_a f_420_1149 ?_
      refine w_a f_420_1150 ?_
      refine i_m (fun h => ?_) (fun h => ?_) h
      · refine w_a f_420_1156 ?_
        exact w_n (ks := [0, 1, 2, 3, 4]) rfl h
      · refine w_a f_420_1154 ?_
        refine w_a f_420_1155 ?_
        exact h
    · refine w_a f_420_1156 ?_
      exact w_n (ks := [0, 1, 2, 3, 4]) rfl h
  · refine w_a f_420_1137 ?_
    refine w_a f_420_1138 ?_
    exact h
set_option maxRecDepth 10000 in
set_option maxHeartbeats 4000000 in
theorem s_420_1159 {Lx : Nat} {I : Mi} {L : Ml} {e : Nat} {Q : Kq} {x4 : Int32} (h :
    (inb (x4 + (Int32.ofInt 1)) Lx (
     (inb (x4 + (Int32.ofInt 2)) Lx (
      (inb (x4 + (Int32.ofInt 3)) Lx (
       (inb (x4 + (Int32.ofInt 4)) Lx (
        (if (I 0 ((x4 + (Int32.ofInt 4)).toNatClampNeg)) = 0 then
         Wp 379 0 [(0, .ref 1), (1, .int (I 0 ((x4 + (Int32.ofInt 1)).toNatClampNeg))), (2, .int (I 0 ((x4 + (Int32.ofInt 2)).toNatClampNeg))), (3, .int (I 0 ((x4 + (Int32.ofInt 3)).toNatClampNeg))), (4, .int (Int32.ofInt 0)), (5, .ref 70)] [] (gE Lx) I L e (kcp (Wp 420) 420 1193 0 [(0, .ref 0), (1, .ref 1), (2, .ref 58), (3, .ref 70), (4, .int x4)] 71 [] Q)
        else
         Wp 379 0 [(0, .ref 1), (1, .int (I 0 ((x4 + (Int32.ofInt 1)).toNatClampNeg))), (2, .int (I 0 ((x4 + (Int32.ofInt 2)).toNatClampNeg))), (3, .int (I 0 ((x4 + (Int32.ofInt 3)).toNatClampNeg))), (4, .int (Int32.ofInt 1)), (5, .ref 70)] [] (gE Lx) I L e (kcp (Wp 420) 420 1193 0 [(0, .ref 0), (1, .ref 1), (2, .ref 58), (3, .ref 70), (4, .int x4)] 71 [] Q)))
       False))
      False))
     False))
    False)) :
    Wp 420 1159 [(0, .ref 0), (1, .ref 1), (2, .ref 58), (3, .ref 70), (4, .int x4)] [] (gE Lx) I L e Q := by
  refine w_a f_420_1159 ?_
  refine w_a f_420_1160 ?_
  refine w_a f_420_1161 ?_
  refine w_a f_420_1163 ?_
  refine w_a f_420_1164 ?_
  refine w_a f_420_1165 ?_
  refine n_m (fun h => ?_) h
  refine w_a f_420_1166 ?_
  refine w_a f_420_1167 ?_
  refine w_a f_420_1169 ?_
  refine w_a f_420_1170 ?_
  refine w_a f_420_1171 ?_
  refine n_m (fun h => ?_) h
  refine w_a f_420_1172 ?_
  refine w_a f_420_1173 ?_
  refine w_a f_420_1175 ?_
  refine w_a f_420_1176 ?_
  refine w_a f_420_1177 ?_
  refine n_m (fun h => ?_) h
  refine w_a f_420_1178 ?_
  refine w_a f_420_1179 ?_
  refine w_a f_420_1181 ?_
  refine w_a f_420_1182 ?_
  refine w_a f_420_1183 ?_
  refine n_m (fun h => ?_) h
  refine w_a f_420_1184 ?_
  refine i_m (fun h => ?_) (fun h => ?_) h
  · refine w_a f_420_1191 ?_
    refine w_a f_420_1192 ?_
    exact w_c (ks := [0, 1, 2, 3, 4]) f_420_1193 rfl rfl h
  · refine w_a f_420_1187 ?_
    refine w_a f_420_1188 ?_
    refine w_a f_420_1192 ?_
    exact w_c (ks := [0, 1, 2, 3, 4]) f_420_1193 rfl rfl h
set_option maxRecDepth 10000 in
set_option maxHeartbeats 4000000 in
theorem s_420_1196 {Lx : Nat} {I : Mi} {L : Ml} {e : Nat} {Q : Kq} {x4 : Int32} {r : Int32} (h :
    (inb (x4 + (Int32.ofInt 1)) Lx (
     (inb (x4 + (Int32.ofInt 2)) Lx (
      (inb (x4 + (Int32.ofInt 3)) Lx (
       (inb (x4 + (Int32.ofInt 4)) Lx (
        (if (I 0 ((x4 + (Int32.ofInt 4)).toNatClampNeg)) = 0 then
         Wp 244 0 [(0, .ref 58), (1, .int (I 0 ((x4 + (Int32.ofInt 1)).toNatClampNeg))), (2, .int (I 0 ((x4 + (Int32.ofInt 2)).toNatClampNeg))), (3, .int (I 0 ((x4 + (Int32.ofInt 3)).toNatClampNeg))), (4, .int (Int32.ofInt 0))] [] (gE Lx) I L e (kcp (Wp 420) 420 1231 0 [(0, .ref 0), (1, .ref 1), (2, .ref 58), (3, .ref 70), (4, .int x4), (5, .int r)] 71 [] Q)
        else
         Wp 244 0 [(0, .ref 58), (1, .int (I 0 ((x4 + (Int32.ofInt 1)).toNatClampNeg))), (2, .int (I 0 ((x4 + (Int32.ofInt 2)).toNatClampNeg))), (3, .int (I 0 ((x4 + (Int32.ofInt 3)).toNatClampNeg))), (4, .int (Int32.ofInt 1))] [] (gE Lx) I L e (kcp (Wp 420) 420 1231 0 [(0, .ref 0), (1, .ref 1), (2, .ref 58), (3, .ref 70), (4, .int x4), (5, .int r)] 71 [] Q)))
       False))
      False))
     False))
    False)) :
    Wp 420 1196 [(0, .ref 0), (1, .ref 1), (2, .ref 58), (3, .ref 70), (4, .int x4)] [.int r] (gE Lx) I L e Q := by
  refine w_a f_420_1196 ?_
  refine w_a (ls := [(5, .int r), (0, .ref 0), (1, .ref 1), (2, .ref 58), (3, .ref 70), (4, .int x4)]) f_420_1198 ?_
  refine w_a f_420_1199 ?_
  refine w_a f_420_1200 ?_
  refine w_a f_420_1202 ?_
  refine w_a f_420_1203 ?_
  refine w_a f_420_1204 ?_
  refine n_m (fun h => ?_) h
  refine w_a f_420_1205 ?_
  refine w_a f_420_1206 ?_
  refine w_a f_420_1208 ?_
  refine w_a f_420_1209 ?_
  refine w_a f_420_1210 ?_
  refine n_m (fun h => ?_) h
  refine w_a f_420_1211 ?_
  refine w_a f_420_1212 ?_
  refine w_a f_420_1214 ?_
  refine w_a f_420_1215 ?_
  refine w_a f_420_1216 ?_
  refine n_m (fun h => ?_) h
  refine w_a f_420_1217 ?_
  refine w_a f_420_1218 ?_
  refine w_a f_420_1220 ?_
  refine w_a f_420_1221 ?_
  refine w_a f_420_1222 ?_
  refine n_m (fun h => ?_) h
  refine w_a f_420_1223 ?_
  refine i_m (fun h => ?_) (fun h => ?_) h
  · refine w_a f_420_1230 ?_
    exact w_c (ks := [0, 1, 2, 3, 4, 5]) f_420_1231 rfl rfl h
  · refine w_a f_420_1226 ?_
    refine w_a f_420_1227 ?_
    exact w_c (ks := [0, 1, 2, 3, 4, 5]) f_420_1231 rfl rfl h
set_option maxRecDepth 10000 in
set_option maxHeartbeats 4000000 in
theorem s_420_1234 {Lx : Nat} {I : Mi} {L : Ml} {e : Nat} {Q : Kq} {x4 : Int32} {x5 : Int32} {r : Int32} (h :
    (if (I 58 0) = x5 then
     (if x5 = 0 then
      (if (L 70 0) = r.toInt64 then
       Wp 420 4917 [(0, .ref 0), (1, .ref 1), (2, .ref 58), (3, .ref 70), (4, .int x4)] [] (gE Lx) I L e Q
      else
       Q (.inl (some (.int (Int32.ofInt 0)))) (gE Lx) I L e)
     else
      Wp 420 4917 [(0, .ref 0), (1, .ref 1), (2, .ref 58), (3, .ref 70), (4, .int x4)] [] (gE Lx) I L e Q)
    else
     Q (.inl (some (.int (Int32.ofInt 0)))) (gE Lx) I L e)) :
    Wp 420 1234 [(0, .ref 0), (1, .ref 1), (2, .ref 58), (3, .ref 70), (4, .int x4), (5, .int x5)] [.int r] (gE Lx) I L e Q := by
  refine w_a f_420_1234 ?_
  refine w_a (ls := [(6, .int r), (0, .ref 0), (1, .ref 1), (2, .ref 58), (3, .ref 70), (4, .int x4), (5, .int x5)]) f_420_1236 ?_
  refine w_a f_420_1237 ?_
  refine w_a (ls := [(0, .ref 58)]) f_212_0 ?_
  refine w_a f_212_1 ?_
  refine w_a f_212_4 ?_
  refine w_a (ls := [(6, .int r), (0, .ref 0), (1, .ref 1), (2, .ref 58), (3, .ref 70), (4, .int x4), (5, .int x5)]) f_420_1240 ?_
  refine w_a f_420_1242 ?_
  refine i_m (fun h => ?_) (fun h => ?_) h
  · refine w_a f_420_1247 ?_
    refine w_a f_420_1249 ?_
    refine i_m (fun h => ?_) (fun h => ?_) h
    · refine w_a f_420_1252 ?_
      refine w_a f_420_1253 ?_
      refine w_a f_420_1254 ?_
      refine w_a f_420_1255 ?_
      refine w_a f_420_1257 ?_
      refine w_a f_420_1258 ?_
      refine i_m (fun h => ?_) (fun h => ?_) h
      · refine w_a f_420_1264 ?_
        exact w_n (ks := [0, 1, 2, 3, 4]) rfl h
      · refine w_a f_420_1262 ?_
        refine w_a f_420_1263 ?_
        exact h
    · refine w_a f_420_1264 ?_
      exact w_n (ks := [0, 1, 2, 3, 4]) rfl h
  · refine w_a f_420_1245 ?_
    refine w_a f_420_1246 ?_
    exact h
set_option maxRecDepth 10000 in
set_option maxHeartbeats 4000000 in
theorem s_420_1267 {Lx : Nat} {I : Mi} {L : Ml} {e : Nat} {Q : Kq} {x4 : Int32} (h :
    (inb (x4 + (Int32.ofInt 1)) Lx (
     (inb (x4 + (Int32.ofInt 2)) Lx (
      (inb (x4 + (Int32.ofInt 3)) Lx (
       (inb (x4 + (Int32.ofInt 4)) Lx (
        (inb (x4 + (Int32.ofInt 5)) Lx (
         (if (I 0 ((x4 + (Int32.ofInt 5)).toNatClampNeg)) = 0 then
          Wp 380 0 [(0, .ref 1), (1, .int (I 0 ((x4 + (Int32.ofInt 1)).toNatClampNeg))), (2, .int (I 0 ((x4 + (Int32.ofInt 2)).toNatClampNeg))), (3, .int (I 0 ((x4 + (Int32.ofInt 3)).toNatClampNeg))), (4, .int (I 0 ((x4 + (Int32.ofInt 4)).toNatClampNeg))), (5, .int (Int32.ofInt 0)), (6, .ref 70)] [] (gE Lx) I L e (kcp (Wp 420) 420 1307 0 [(0, .ref 0), (1, .ref 1), (2, .ref 58), (3, .ref 70), (4, .int x4)] 71 [] Q)
         else
          Wp 380 0 [(0, .ref 1), (1, .int (I 0 ((x4 + (Int32.ofInt 1)).toNatClampNeg))), (2, .int (I 0 ((x4 + (Int32.ofInt 2)).toNatClampNeg))), (3, .int (I 0 ((x4 + (Int32.ofInt 3)).toNatClampNeg))), (4, .int (I 0 ((x4 + (Int32.ofInt 4)).toNatClampNeg))), (5, .int (Int32.ofInt 1)), (6, .ref 70)] [] (gE Lx) I L e (kcp (Wp 420) 420 1307 0 [(0, .ref 0), (1, .ref 1), (2, .ref 58), (3, .ref 70), (4, .int x4)] 71 [] Q)))
        False))
       False))
      False))
     False))
    False)) :
    Wp 420 1267 [(0, .ref 0), (1, .ref 1), (2, .ref 58), (3, .ref 70), (4, .int x4)] [] (gE Lx) I L e Q := by
  refine w_a f_420_1267 ?_
  refine w_a f_420_1268 ?_
  refine w_a f_420_1269 ?_
  refine w_a f_420_1271 ?_
  refine w_a f_420_1272 ?_
  refine w_a f_420_1273 ?_
  refine n_m (fun h => ?_) h
  refine w_a f_420_1274 ?_
  refine w_a f_420_1275 ?_
  refine w_a f_420_1277 ?_
  refine w_a f_420_1278 ?_
  refine w_a f_420_1279 ?_
  refine n_m (fun h => ?_) h
  refine w_a f_420_1280 ?_
  refine w_a f_420_1281 ?_
  refine w_a f_420_1283 ?_
  refine w_a f_420_1284 ?_
  refine w_a f_420_1285 ?_
  refine n_m (fun h => ?_) h
  refine w_a f_420_1286 ?_
  refine w_a f_420_1287 ?_
  refine w_a f_420_1289 ?_
  refine w_a f_420_1290 ?_
  refine w_a f_420_1291 ?_
  refine n_m (fun h => ?_) h
  refine w_a f_420_1292 ?_
  refine w_a f_420_1293 ?_
  refine w_a f_420_1295 ?_
  refine w_a f_420_1296 ?_
  refine w_a f_420_1297 ?_
  refine n_m (fun h => ?_) h
  refine w_a f_420_1298 ?_
  refine i_m (fun h => ?_) (fun h => ?_) h
  · refine w_a f_420_1305 ?_
    refine w_a f_420_1306 ?_
    exact w_c (ks := [0, 1, 2, 3, 4]) f_420_1307 rfl rfl h
  · refine w_a f_420_1301 ?_
    refine w_a f_420_1302 ?_
    refine w_a f_420_1306 ?_
    exact w_c (ks := [0, 1, 2, 3, 4]) f_420_1307 rfl rfl h
set_option maxRecDepth 10000 in
set_option maxHeartbeats 4000000 in
theorem s_420_1310 {Lx : Nat} {I : Mi} {L : Ml} {e : Nat} {Q : Kq} {x4 : Int32} {r : Int32} (h :
    (inb (x4 + (Int32.ofInt 1)) Lx (
     (inb (x4 + (Int32.ofInt 2)) Lx (
      (inb (x4 + (Int32.ofInt 3)) Lx (
       (inb (x4 + (Int32.ofInt 4)) Lx (
        (inb (x4 + (Int32.ofInt 5)) Lx (
         (if (I 0 ((x4 + (Int32.ofInt 5)).toNatClampNeg)) = 0 then
          Wp 248 0 [(0, .ref 58), (1, .int (I 0 ((x4 + (Int32.ofInt 1)).toNatClampNeg))), (2, .int (I 0 ((x4 + (Int32.ofInt 2)).toNatClampNeg))), (3, .int (I 0 ((x4 + (Int32.ofInt 3)).toNatClampNeg))), (4, .int (I 0 ((x4 + (Int32.ofInt 4)).toNatClampNeg))), (5, .int (Int32.ofInt 0))] [] (gE Lx) I L e (kcp (Wp 420) 420 1351 0 [(0, .ref 0), (1, .ref 1), (2, .ref 58), (3, .ref 70), (4, .int x4), (5, .int r)] 71 [] Q)
         else
          Wp 248 0 [(0, .ref 58), (1, .int (I 0 ((x4 + (Int32.ofInt 1)).toNatClampNeg))), (2, .int (I 0 ((x4 + (Int32.ofInt 2)).toNatClampNeg))), (3, .int (I 0 ((x4 + (Int32.ofInt 3)).toNatClampNeg))), (4, .int (I 0 ((x4 + (Int32.ofInt 4)).toNatClampNeg))), (5, .int (Int32.ofInt 1))] [] (gE Lx) I L e (kcp (Wp 420) 420 1351 0 [(0, .ref 0), (1, .ref 1), (2, .ref 58), (3, .ref 70), (4, .int x4), (5, .int r)] 71 [] Q)))
        False))
       False))
      False))
     False))
    False)) :
    Wp 420 1310 [(0, .ref 0), (1, .ref 1), (2, .ref 58), (3, .ref 70), (4, .int x4)] [.int r] (gE Lx) I L e Q := by
  refine w_a f_420_1310 ?_
  refine w_a (ls := [(5, .int r), (0, .ref 0), (1, .ref 1), (2, .ref 58), (3, .ref 70), (4, .int x4)]) f_420_1312 ?_
  refine w_a f_420_1313 ?_
  refine w_a f_420_1314 ?_
  refine w_a f_420_1316 ?_
  refine w_a f_420_1317 ?_
  refine w_a f_420_1318 ?_
  refine n_m (fun h => ?_) h
  refine w_a f_420_1319 ?_
  refine w_a f_420_1320 ?_
  refine w_a f_420_1322 ?_
  refine w_a f_420_1323 ?_
  refine w_a f_420_1324 ?_
  refine n_m (fun h => ?_) h
  refine w_a f_420_1325 ?_
  refine w_a f_420_1326 ?_
  refine w_a f_420_1328 ?_
  refine w_a f_420_1329 ?_
  refine w_a f_420_1330 ?_
  refine n_m (fun h => ?_) h
  refine w_a f_420_1331 ?_
  refine w_a f_420_1332 ?_
  refine w_a f_420_1334 ?_
  refine w_a f_420_1335 ?_
  refine w_a f_420_1336 ?_
  refine n_m (fun h => ?_) h
  refine w_a f_420_1337 ?_
  refine w_a f_420_1338 ?_
  refine w_a f_420_1340 ?_
  refine w_a f_420_1341 ?_
  refine w_a f_420_1342 ?_
  refine n_m (fun h => ?_) h
  refine w_a f_420_1343 ?_
  refine i_m (fun h => ?_) (fun h => ?_) h
  · refine w_a f_420_1350 ?_
    exact w_c (ks := [0, 1, 2, 3, 4, 5]) f_420_1351 rfl rfl h
  · refine w_a f_420_1346 ?_
    refine w_a f_420_1347 ?_
    exact w_c (ks := [0, 1, 2, 3, 4, 5]) f_420_1351 rfl rfl h
set_option maxRecDepth 10000 in
set_option maxHeartbeats 4000000 in
theorem s_420_1354 {Lx : Nat} {I : Mi} {L : Ml} {e : Nat} {Q : Kq} {x4 : Int32} {x5 : Int32} {r : Int32} (h :
    (if (I 58 0) = x5 then
     (if x5 = 0 then
      (if (L 70 0) = r.toInt64 then
       Wp 420 4917 [(0, .ref 0), (1, .ref 1), (2, .ref 58), (3, .ref 70), (4, .int x4)] [] (gE Lx) I L e Q
      else
       Q (.inl (some (.int (Int32.ofInt 0)))) (gE Lx) I L e)
     else
      Wp 420 4917 [(0, .ref 0), (1, .ref 1), (2, .ref 58), (3, .ref 70), (4, .int x4)] [] (gE Lx) I L e Q)
    else
     Q (.inl (some (.int (Int32.ofInt 0)))) (gE Lx) I L e)) :
    Wp 420 1354 [(0, .ref 0), (1, .ref 1), (2, .ref 58), (3, .ref 70), (4, .int x4), (5, .int x5)] [.int r] (gE Lx) I L e Q := by
  refine w_a f_420_1354 ?_
  refine w_a (ls := [(6, .int r), (0, .ref 0), (1, .ref 1), (2, .ref 58), (3, .ref 70), (4, .int x4), (5, .int x5)]) f_420_1356 ?_
  refine w_a f_420_1357 ?_
  refine w_a (ls := [(0, .ref 58)]) f_212_0 ?_
  refine w_a f_212_1 ?_
  refine w_a f_212_4 ?_
  refine w_a (ls := [(6, .int r), (0, .ref 0), (1, .ref 1), (2, .ref 58), (3, .ref 70), (4, .int x4), (5, .int x5)]) f_420_1360 ?_
  refine w_a f_420_1362 ?_
  refine i_m (fun h => ?_) (fun h => ?_) h
  · refine w_a f_420_1367 ?_
    refine w_a f_420_1369 ?_
    refine i_m (fun h => ?_) (fun h => ?_) h
    · refine w_a f_420_1372 ?_
      refine w_a f_420_1373 ?_
      refine w_a f_420_1374 ?_
      refine w_a f_420_1375 ?_
      refine w_a f_420_1377 ?_
      refine w_a f_420_1378 ?_
      refine i_m (fun h => ?_) (fun h => ?_) h
      · refine w_a f_420_1384 ?_
        exact w_n (ks := [0, 1, 2, 3, 4]) rfl h
      · refine w_a f_420_1382 ?_
        refine w_a f_420_1383 ?_
        exact h
    · refine w_a f_420_1384 ?_
      exact w_n (ks := [0, 1, 2, 3, 4]) rfl h
  · refine w_a f_420_1365 ?_
    refine w_a f_420_1366 ?_
    exact h
set_option maxRecDepth 10000 in
set_option maxHeartbeats 4000000 in
theorem s_420_1387 {Lx : Nat} {I : Mi} {L : Ml} {e : Nat} {Q : Kq} {x4 : Int32} (h :
    (inb (x4 + (Int32.ofInt 1)) Lx (
     (inb (x4 + (Int32.ofInt 2)) Lx (
      (inb (x4 + (Int32.ofInt 3)) Lx (
       (inb (x4 + (Int32.ofInt 4)) Lx (
        Wp 381 0 [(0, .ref 1), (1, .int (I 0 ((x4 + (Int32.ofInt 1)).toNatClampNeg))), (2, .int (I 0 ((x4 + (Int32.ofInt 2)).toNatClampNeg))), (3, .int (I 0 ((x4 + (Int32.ofInt 3)).toNatClampNeg))), (4, .int (I 0 ((x4 + (Int32.ofInt 4)).toNatClampNeg))), (5, .ref 70)] [] (gE Lx) I L e (kcp (Wp 420) 420 1413 0 [(0, .ref 0), (1, .ref 1), (2, .ref 58), (3, .ref 70), (4, .int x4)] 71 [] Q))
       False))
      False))
     False))
    False)) :
    Wp 420 1387 [(0, .ref 0), (1, .ref 1), (2, .ref 58), (3, .ref 70), (4, .int x4)] [] (gE Lx) I L e Q := by
  refine w_a f_420_1387 ?_
  refine w_a f_420_1388 ?_
  refine w_a f_420_1389 ?_
  refine w_a f_420_1391 ?_
  refine w_a f_420_1392 ?_
  refine w_a f_420_1393 ?_
  refine n_m (fun h => ?_) h
  refine w_a f_420_1394 ?_
  refine w_a f_420_1395 ?_
  refine w_a f_420_1397 ?_
  refine w_a f_420_1398 ?_
  refine w_a f_420_1399 ?_
  refine n_m (fun h => ?_) h
  refine w_a f_420_1400 ?_
  refine w_a f_420_1401 ?_
  refine w_a f_420_1403 ?_
  refine w_a f_420_1404 ?_
  refine w_a f_420_1405 ?_
  refine n_m (fun h => ?_) h
  refine w_a f_420_1406 ?_
  refine w_a f_420_1407 ?_
  refine w_a f_420_1409 ?_
  refine w_a f_420_1410 ?_
  refine w_a f_420_1411 ?_
  refine n_m (fun h => ?_) h
  refine w_a f_420_1412 ?_
  exact w_c (ks := [0, 1, 2, 3, 4]) f_420_1413 rfl rfl h
set_option maxRecDepth 10000 in
set_option maxHeartbeats 4000000 in
theorem s_420_1416 {Lx : Nat} {I : Mi} {L : Ml} {e : Nat} {Q : Kq} {x4 : Int32} {r : Int32} (h :
    (inb (x4 + (Int32.ofInt 1)) Lx (
     (inb (x4 + (Int32.ofInt 2)) Lx (
      (inb (x4 + (Int32.ofInt 3)) Lx (
       (inb (x4 + (Int32.ofInt 4)) Lx (
        Wp 249 0 [(0, .ref 58), (1, .int (I 0 ((x4 + (Int32.ofInt 1)).toNatClampNeg))), (2, .int (I 0 ((x4 + (Int32.ofInt 2)).toNatClampNeg))), (3, .int (I 0 ((x4 + (Int32.ofInt 3)).toNatClampNeg))), (4, .int (I 0 ((x4 + (Int32.ofInt 4)).toNatClampNeg)))] [] (gE Lx) I L e (kcp (Wp 420) 420 1443 0 [(0, .ref 0), (1, .ref 1), (2, .ref 58), (3, .ref 70), (4, .int x4), (5, .int r)] 71 [] Q))
       False))
      False))
     False))
    False)) :
    Wp 420 1416 [(0, .ref 0), (1, .ref 1), (2, .ref 58), (3, .ref 70), (4, .int x4)] [.int r] (gE Lx) I L e Q := by
  refine w_a f_420_1416 ?_
  refine w_a (ls := [(5, .int r), (0, .ref 0), (1, .ref 1), (2, .ref 58), (3, .ref 70), (4, .int x4)]) f_420_1418 ?_
  refine w_a f_420_1419 ?_
  refine w_a f_420_1420 ?_
  refine w_a f_420_1422 ?_
  refine w_a f_420_1423 ?_
  refine w_a f_420_1424 ?_
  refine n_m (fun h => ?_) h
  refine w_a f_420_1425 ?_
  refine w_a f_420_1426 ?_
  refine w_a f_420_1428 ?_
  refine w_a f_420_1429 ?_
  refine w_a f_420_1430 ?_
  refine n_m (fun h => ?_) h
  refine w_a f_420_1431 ?_
  refine w_a f_420_1432 ?_
  refine w_a f_420_1434 ?_
  refine w_a f_420_1435 ?_
  refine w_a f_420_1436 ?_
  refine n_m (fun h => ?_) h
  refine w_a f_420_1437 ?_
  refine w_a f_420_1438 ?_
  refine w_a f_420_1440 ?_
  refine w_a f_420_1441 ?_
  refine w_a f_420_1442 ?_
  refine n_m (fun h => ?_) h
  exact w_c (ks := [0, 1, 2, 3, 4, 5]) f_420_1443 rfl rfl h
set_option maxRecDepth 10000 in
set_option maxHeartbeats 4000000 in
theorem s_420_1446 {Lx : Nat} {I : Mi} {L : Ml} {e : Nat} {Q : Kq} {x4 : Int32} {x5 : Int32} {r : Int32} (h :
    (if (I 58 0) = x5 then
     (if x5 = 0 then
      (if (L 70 0) = r.toInt64 then
       Wp 420 4917 [(0, .ref 0), (1, .ref 1), (2, .ref 58), (3, .ref 70), (4, .int x4)] [] (gE Lx) I L e Q
      else
       Q (.inl (some (.int (Int32.ofInt 0)))) (gE Lx) I L e)
     else
      Wp 420 4917 [(0, .ref 0), (1, .ref 1), (2, .ref 58), (3, .ref 70), (4, .int x4)] [] (gE Lx) I L e Q)
    else
     Q (.inl (some (.int (Int32.ofInt 0)))) (gE Lx) I L e)) :
    Wp 420 1446 [(0, .ref 0), (1, .ref 1), (2, .ref 58), (3, .ref 70), (4, .int x4), (5, .int x5)] [.int r] (gE Lx) I L e Q := by
  refine w_a f_420_1446 ?_
  refine w_a (ls := [(6, .int r), (0, .ref 0), (1, .ref 1), (2, .ref 58), (3, .ref 70), (4, .int x4), (5, .int x5)]) f_420_1448 ?_
  refine w_a f_420_1449 ?_
  refine w_a (ls := [(0, .ref 58)]) f_212_0 ?_
  refine w_a f_212_1 ?_
  refine w_a f_212_4 ?_
  refine w_a (ls := [(6, .int r), (0, .ref 0), (1, .ref 1), (2, .ref 58), (3, .ref 70), (4, .int x4), (5, .int x5)]) f_420_1452 ?_
  refine w_a f_420_1454 ?_
  refine i_m (fun h => ?_) (fun h => ?_) h
  · refine w_a f_420_1459 ?_
    refine w_a f_420_1461 ?_
    refine i_m (fun h => ?_) (fun h => ?_) h
    · refine w_a f_420_1464 ?_
      refine w_a f_420_1465 ?_
      refine w_a f_420_1466 ?_
      refine w_a f_420_1467 ?_
      refine w_a f_420_1469 ?_
      refine w_a f_420_1470 ?_
      refine i_m (fun h => ?_) (fun h => ?_) h
      · refine w_a f_420_1476 ?_
        exact w_n (ks := [0, 1, 2, 3, 4]) rfl h
      · refine w_a f_420_1474 ?_
        refine w_a f_420_1475 ?_
        exact h
    · refine w_a f_420_1476 ?_
      exact w_n (ks := [0, 1, 2, 3, 4]) rfl h
  · refine w_a f_420_1457 ?_
    refine w_a f_420_1458 ?_
    exact h
set_option maxRecDepth 10000 in
set_option maxHeartbeats 4000000 in
theorem s_420_1479 {Lx : Nat} {I : Mi} {L : Ml} {e : Nat} {Q : Kq} {x4 : Int32} (h :
    (inb (x4 + (Int32.ofInt 1)) Lx (
     (inb (x4 + (Int32.ofInt 2)) Lx (
      (if (I 0 ((x4 + (Int32.ofInt 2)).toNatClampNeg)) = 0 then
       Wp 382 0 [(0, .ref 1), (1, .int (I 0 ((x4 + (Int32.ofInt 1)).toNatClampNeg))), (2, .int (Int32.ofInt 0)), (3, .ref 70)] [] (gE Lx) I L e (kcp (Wp 420) 420 1501 0 [(0, .ref 0), (1, .ref 1), (2, .ref 58), (3, .ref 70), (4, .int x4)] 71 [] Q)
      else
       Wp 382 0 [(0, .ref 1), (1, .int (I 0 ((x4 + (Int32.ofInt 1)).toNatClampNeg))), (2, .int (Int32.ofInt 1)), (3, .ref 70)] [] (gE Lx) I L e (kcp (Wp 420) 420 1501 0 [(0, .ref 0), (1, .ref 1), (2, .ref 58), (3, .ref 70), (4, .int x4)] 71 [] Q)))
     False))
    False)) :
    Wp 420 1479 [(0, .ref 0), (1, .ref 1), (2, .ref 58), (3, .ref 70), (4, .int x4)] [] (gE Lx) I L e Q := by
  refine w_a f_420_1479 ?_
  refine w_a f_420_1480 ?_
  refine w_a f_420_1481 ?_
  refine w_a f_420_1483 ?_
  refine w_a f_420_1484 ?_
  refine w_a f_420_1485 ?_
  refine n_m (fun h => ?_) h
  refine w_a f_420_1486 ?_
  refine w_a f_420_1487 ?_
  refine w_a f_420_1489 ?_
  refine w_a f_420_1490 ?_
  refine w_a f_420_1491 ?_
  refine n_m (fun h => ?_) h
  refine w_a f_420_1492 ?_
  refine i_m (fun h => ?_) (fun h => ?_) h
  · refine w_a f_420_1499 ?_
    refine w_a f_420_1500 ?_
    exact w_c (ks := [0, 1, 2, 3, 4]) f_420_1501 rfl rfl h
  · refine w_a f_420_1495 ?_
    refine w_a f_420_1496 ?_
    refine w_a f_420_1500 ?_
    exact w_c (ks := [0, 1, 2, 3, 4]) f_420_1501 rfl rfl h
set_option maxRecDepth 10000 in
set_option maxHeartbeats 4000000 in
theorem s_420_1504 {Lx : Nat} {I : Mi} {L : Ml} {e : Nat} {Q : Kq} {x4 : Int32} {r : Int32} (h :
    (inb (x4 + (Int32.ofInt 1)) Lx (
     (inb (x4 + (Int32.ofInt 2)) Lx (
      (if (I 0 ((x4 + (Int32.ofInt 2)).toNatClampNeg)) = 0 then
       Wp 250 0 [(0, .ref 58), (1, .int (I 0 ((x4 + (Int32.ofInt 1)).toNatClampNeg))), (2, .int (Int32.ofInt 0))] [] (gE Lx) I L e (kcp (Wp 420) 420 1527 0 [(0, .ref 0), (1, .ref 1), (2, .ref 58), (3, .ref 70), (4, .int x4), (5, .int r)] 71 [] Q)
      else
       Wp 250 0 [(0, .ref 58), (1, .int (I 0 ((x4 + (Int32.ofInt 1)).toNatClampNeg))), (2, .int (Int32.ofInt 1))] [] (gE Lx) I L e (kcp (Wp 420) 420 1527 0 [(0, .ref 0), (1, .ref 1), (2, .ref 58), (3, .ref 70), (4, .int x4), (5, .int r)] 71 [] Q)))
     False))
    False)) :
    Wp 420 1504 [(0, .ref 0), (1, .ref 1), (2, .ref 58), (3, .ref 70), (4, .int x4)] [.int r] (gE Lx) I L e Q := by
  refine w_a f_420_1504 ?_
  refine w_a (ls := [(5, .int r), (0, .ref 0), (1, .ref 1), (2, .ref 58), (3, .ref 70), (4, .int x4)]) f_420_1506 ?_
  refine w_a f_420_1507 ?_
  refine w_a f_420_1508 ?_
  refine w_a f_420_1510 ?_
  refine w_a f_420_1511 ?_
  refine w_a f_420_1512 ?_
  refine n_m (fun h => ?_) h
  refine w_a f_420_1513 ?_
  refine w_a f_420_1514 ?_
  refine w_a f_420_1516 ?_
  refine w_a f_420_1517 ?_
  refine w_a f_420_1518 ?_
  refine n_m (fun h => ?_) h
  refine w_a f_420_1519 ?_
  refine i_m (fun h => ?_) (fun h => ?_) h
  · refine w_a f_420_1526 ?_
    exact w_c (ks := [0, 1, 2, 3, 4, 5]) f_420_1527 rfl rfl h
  · refine w_a f_420_1522 ?_
    refine w_a f_420_1523 ?_
    exact w_c (ks := [0, 1, 2, 3, 4, 5]) f_420_1527 rfl rfl h
set_option maxRecDepth 10000 in
set_option maxHeartbeats 4000000 in
theorem s_420_1530 {Lx : Nat} {I : Mi} {L : Ml} {e : Nat} {Q : Kq} {x4 : Int32} {x5 : Int32} {r : Int32} (h :
    (if (I 58 0) = x5 then
     (if x5 = 0 then
      (if (L 70 0) = r.toInt64 then
       Wp 420 4917 [(0, .ref 0), (1, .ref 1), (2, .ref 58), (3, .ref 70), (4, .int x4)] [] (gE Lx) I L e Q
      else
       Q (.inl (some (.int (Int32.ofInt 0)))) (gE Lx) I L e)
     else
      Wp 420 4917 [(0, .ref 0), (1, .ref 1), (2, .ref 58), (3, .ref 70), (4, .int x4)] [] (gE Lx) I L e Q)
    else
     Q (.inl (some (.int (Int32.ofInt 0)))) (gE Lx) I L e)) :
    Wp 420 1530 [(0, .ref 0), (1, .ref 1), (2, .ref 58), (3, .ref 70), (4, .int x4), (5, .int x5)] [.int r] (gE Lx) I L e Q := by
  refine w_a f_420_1530 ?_
  refine w_a (ls := [(6, .int r), (0, .ref 0), (1, .ref 1), (2, .ref 58), (3, .ref 70), (4, .int x4), (5, .int x5)]) f_420_1532 ?_
  refine w_a f_420_1533 ?_
  refine w_a (ls := [(0, .ref 58)]) f_212_0 ?_
  refine w_a f_212_1 ?_
  refine w_a f_212_4 ?_
  refine w_a (ls := [(6, .int r), (0, .ref 0), (1, .ref 1), (2, .ref 58), (3, .ref 70), (4, .int x4), (5, .int x5)]) f_420_1536 ?_
  refine w_a f_420_1538 ?_
  refine i_m (fun h => ?_) (fun h => ?_) h
  · refine w_a f_420_1543 ?_
    refine w_a f_420_1545 ?_
    refine i_m (fun h => ?_) (fun h => ?_) h
    · refine w_a f_420_1548 ?_
      refine w_a f_420_1549 ?_
      refine w_a f_420_1550 ?_
      refine w_a f_420_1551 ?_
      refine w_a f_420_1553 ?_
      refine w_a f_420_1554 ?_
      refine i_m (fun h => ?_) (fun h => ?_) h
      · refine w_a f_420_1560 ?_
        exact w_n (ks := [0, 1, 2, 3, 4]) rfl h
      · refine w_a f_420_1558 ?_
        refine w_a f_420_1559 ?_
        exact h
    · refine w_a f_420_1560 ?_
      exact w_n (ks := [0, 1, 2, 3, 4]) rfl h
  · refine w_a f_420_1541 ?_
    refine w_a f_420_1542 ?_
    exact h
set_option maxRecDepth 10000 in
set_option maxHeartbeats 4000000 in
theorem s_420_1563 {Lx : Nat} {I : Mi} {L : Ml} {e : Nat} {Q : Kq} {x4 : Int32} (h :
    (inb (x4 + (Int32.ofInt 1)) Lx (
     (inb (x4 + (Int32.ofInt 2)) Lx (
      (if (I 0 ((x4 + (Int32.ofInt 2)).toNatClampNeg)) = 0 then
       (inb (x4 + (Int32.ofInt 3)) Lx (
        Wp 383 0 [(0, .ref 1), (1, .int (I 0 ((x4 + (Int32.ofInt 1)).toNatClampNeg))), (2, .int (Int32.ofInt 0)), (3, .int (I 0 ((x4 + (Int32.ofInt 3)).toNatClampNeg))), (4, .ref 70)] [] (gE Lx) I L e (kcp (Wp 420) 420 1591 0 [(0, .ref 0), (1, .ref 1), (2, .ref 58), (3, .ref 70), (4, .int x4)] 71 [] Q))
       False)
      else
       (inb (x4 + (Int32.ofInt 3)) Lx (
        Wp 383 0 [(0, .ref 1), (1, .int (I 0 ((x4 + (Int32.ofInt 1)).toNatClampNeg))), (2, .int (Int32.ofInt 1)), (3, .int (I 0 ((x4 + (Int32.ofInt 3)).toNatClampNeg))), (4, .ref 70)] [] (gE Lx) I L e (kcp (Wp 420) 420 1591 0 [(0, .ref 0), (1, .ref 1), (2, .ref 58), (3, .ref 70), (4, .int x4)] 71 [] Q))
       False)))
     False))
    False)) :
    Wp 420 1563 [(0, .ref 0), (1, .ref 1), (2, .ref 58), (3, .ref 70), (4, .int x4)] [] (gE Lx) I L e Q := by
  refine w_a f_420_1563 ?_
  refine w_a f_420_1564 ?_
  refine w_a f_420_1565 ?_
  refine w_a f_420_1567 ?_
  refine w_a f_420_1568 ?_
  refine w_a f_420_1569 ?_
  refine n_m (fun h => ?_) h
  refine w_a f_420_1570 ?_
  refine w_a f_420_1571 ?_
  refine w_a f_420_1573 ?_
  refine w_a f_420_1574 ?_
  refine w_a f_420_1575 ?_
  refine n_m (fun h => ?_) h
  refine w_a f_420_1576 ?_
  refine i_m (fun h => ?_) (fun h => ?_) h
  · refine w_a f_420_1583 ?_
    refine w_a f_420_1584 ?_
    refine w_a f_420_1585 ?_
    refine w_a f_420_1587 ?_
    refine w_a f_420_1588 ?_
    refine w_a f_420_1589 ?_
    refine n_m (fun h => ?_) h
    refine w_a f_420_1590 ?_
    exact w_c (ks := [0, 1, 2, 3, 4]) f_420_1591 rfl rfl h
  · refine w_a f_420_1579 ?_
    refine w_a f_420_1580 ?_
    refine w_a f_420_1584 ?_
    refine w_a f_420_1585 ?_
    refine w_a f_420_1587 ?_
    refine w_a f_420_1588 ?_
    refine w_a f_420_1589 ?_
    refine n_m (fun h => ?_) h
    refine w_a f_420_1590 ?_
    exact w_c (ks := [0, 1, 2, 3, 4]) f_420_1591 rfl rfl h
set_option maxRecDepth 10000 in
set_option maxHeartbeats 4000000 in
theorem s_420_1594 {Lx : Nat} {I : Mi} {L : Ml} {e : Nat} {Q : Kq} {x4 : Int32} {r : Int32} (h :
    (inb (x4 + (Int32.ofInt 1)) Lx (
     (inb (x4 + (Int32.ofInt 2)) Lx (
      (if (I 0 ((x4 + (Int32.ofInt 2)).toNatClampNeg)) = 0 then
       (inb (x4 + (Int32.ofInt 3)) Lx (
        Wp 255 0 [(0, .ref 58), (1, .int (I 0 ((x4 + (Int32.ofInt 1)).toNatClampNeg))), (2, .int (Int32.ofInt 0)), (3, .int (I 0 ((x4 + (Int32.ofInt 3)).toNatClampNeg)))] [] (gE Lx) I L e (kcp (Wp 420) 420 1623 0 [(0, .ref 0), (1, .ref 1), (2, .ref 58), (3, .ref 70), (4, .int x4), (5, .int r)] 71 [] Q))
       False)
      else
       (inb (x4 + (Int32.ofInt 3)) Lx (
        Wp 255 0 [(0, .ref 58), (1, .int (I 0 ((x4 + (Int32.ofInt 1)).toNatClampNeg))), (2, .int (Int32.ofInt 1)), (3, .int (I 0 ((x4 + (Int32.ofInt 3)).toNatClampNeg)))] [] (gE Lx) I L e (kcp (Wp 420) 420 1623 0 [(0, .ref 0), (1, .ref 1), (2, .ref 58), (3, .ref 70), (4, .int x4), (5, .int r)] 71 [] Q))
       False)))
     False))
    False)) :
    Wp 420 1594 [(0, .ref 0), (1, .ref 1), (2, .ref 58), (3, .ref 70), (4, .int x4)] [.int r] (gE Lx) I L e Q := by
  refine w_a f_420_1594 ?_
  refine w_a (ls := [(5, .int r), (0, .ref 0), (1, .ref 1), (2, .ref 58), (3, .ref 70), (4, .int x4)]) f_420_1596 ?_
  refine w_a f_420_1597 ?_
  refine w_a f_420_1598 ?_
  refine w_a f_420_1600 ?_
  refine w_a f_420_1601 ?_
  refine w_a f_420_1602 ?_
  refine n_m (fun h => ?_) h
  refine w_a f_420_1603 ?_
  refine w_a f_420_1604 ?_
  refine w_a f_420_1606 ?_
  refine w_a f_420_1607 ?_
  refine w_a f_420_1608 ?_
  refine n_m (fun h => ?_) h
  refine w_a f_420_1609 ?_
  refine i_m (fun h => ?_) (fun h => ?_) h
  · refine w_a f_420_1616 ?_
    refine w_a f_420_1617 ?_
    refine w_a f_420_1618 ?_
    refine w_a f_420_1620 ?_
    refine w_a f_420_1621 ?_
    refine w_a f_420_1622 ?_
    refine n_m (fun h => ?_) h
    exact w_c (ks := [0, 1, 2, 3, 4, 5]) f_420_1623 rfl rfl h
  · refine w_a f_420_1612 ?_
    refine w_a f_420_1613 ?_
    refine w_a f_420_1617 ?_
    refine w_a f_420_1618 ?_
    refine w_a f_420_1620 ?_
    refine w_a f_420_1621 ?_
    refine w_a f_420_1622 ?_
    refine n_m (fun h => ?_) h
    exact w_c (ks := [0, 1, 2, 3, 4, 5]) f_420_1623 rfl rfl h
set_option maxRecDepth 10000 in
set_option maxHeartbeats 4000000 in
theorem s_420_1626 {Lx : Nat} {I : Mi} {L : Ml} {e : Nat} {Q : Kq} {x4 : Int32} {x5 : Int32} {r : Int32} (h :
    (if (I 58 0) = x5 then
     (if x5 = 0 then
      (if r = 0 then
       (if (L 70 0) = (Int64.ofInt 0) then
        Wp 420 4917 [(0, .ref 0), (1, .ref 1), (2, .ref 58), (3, .ref 70), (4, .int x4)] [] (gE Lx) I L e Q
       else
        Q (.inl (some (.int (Int32.ofInt 0)))) (gE Lx) I L e)
      else
       (if (L 70 0) = (Int64.ofInt 1) then
        Wp 420 4917 [(0, .ref 0), (1, .ref 1), (2, .ref 58), (3, .ref 70), (4, .int x4)] [] (gE Lx) I L e Q
       else
        Q (.inl (some (.int (Int32.ofInt 0)))) (gE Lx) I L e))
     else
      Wp 420 4917 [(0, .ref 0), (1, .ref 1), (2, .ref 58), (3, .ref 70), (4, .int x4)] [] (gE Lx) I L e Q)
    else
     Q (.inl (some (.int (Int32.ofInt 0)))) (gE Lx) I L e)) :
    Wp 420 1626 [(0, .ref 0), (1, .ref 1), (2, .ref 58), (3, .ref 70), (4, .int x4), (5, .int x5)] [.int r] (gE Lx) I L e Q := by
  refine w_a f_420_1626 ?_
  refine w_a (ls := [(6, .int r), (0, .ref 0), (1, .ref 1), (2, .ref 58), (3, .ref 70), (4, .int x4), (5, .int x5)]) f_420_1628 ?_
  refine w_a f_420_1629 ?_
  refine w_a (ls := [(0, .ref 58)]) f_212_0 ?_
  refine w_a f_212_1 ?_
  refine w_a f_212_4 ?_
  refine w_a (ls := [(6, .int r), (0, .ref 0), (1, .ref 1), (2, .ref 58), (3, .ref 70), (4, .int x4), (5, .int x5)]) f_420_1632 ?_
  refine w_a f_420_1634 ?_
  refine i_m (fun h => ?_) (fun h => ?_) h
  · refine w_a f_420_1639 ?_
    refine w_a f_420_1641 ?_
    refine i_m (fun h => ?_) (fun h => ?_) h
    · refine w_a f_420_1644 ?_
      refine w_a f_420_1645 ?_
      refine w_a f_420_1646 ?_
      refine w_a f_420_1647 ?_
      refine w_a f_420_1649 ?_
      refine i_m (fun h => ?_) (fun h => ?_) h
      · refine w_a f_420_1656 ?_
        refine w_a f_420_1657 ?_
        refine i_m (fun h => ?_) (fun h => ?_) h
        · refine w_a f_420_1663 ?_
          exact w_n (ks := [0, 1, 2, 3, 4]) rfl h
        · refine w_a f_420_1661 ?_
          refine w_a f_420_1662 ?_
          exact h
      · refine w_a f_420_1652 ?_
        refine w_a f_420_1653 ?_
        refine w_a f_420_1657 ?_
        refine i_m (fun h => ?_) (fun h => ?_) h
        · refine w_a f_420_1663 ?_
          exact w_n (ks := [0, 1, 2, 3, 4]) rfl h
        · refine w_a f_420_1661 ?_
          refine w_a f_420_1662 ?_
          exact h
    · refine w_a f_420_1663 ?_
      exact w_n (ks := [0, 1, 2, 3, 4]) rfl h
  · refine w_a f_420_1637 ?_
    refine w_a f_420_1638 ?_
    exact h
set_option maxRecDepth 10000 in
set_option maxHeartbeats 4000000 in
theorem s_420_1666 {Lx : Nat} {I : Mi} {L : Ml} {e : Nat} {Q : Kq} {x4 : Int32} (h :
    (inb (x4 + (Int32.ofInt 1)) Lx (
     (inb (x4 + (Int32.ofInt 2)) Lx (
      (if (I 0 ((x4 + (Int32.ofInt 2)).toNatClampNeg)) = 0 then
       (inb (x4 + (Int32.ofInt 3)) Lx (
        (inb (x4 + (Int32.ofInt 4)) Lx (
         (if (I 0 ((x4 + (Int32.ofInt 4)).toNatClampNeg)) = 0 then
          Wp 384 0 [(0, .ref 1), (1, .int (I 0 ((x4 + (Int32.ofInt 1)).toNatClampNeg))), (2, .int (Int32.ofInt 0)), (3, .int (I 0 ((x4 + (Int32.ofInt 3)).toNatClampNeg))), (4, .int (Int32.ofInt 0)), (5, .ref 70)] [] (gE Lx) I L e (kcp (Wp 420) 420 1708 0 [(0, .ref 0), (1, .ref 1), (2, .ref 58), (3, .ref 70), (4, .int x4)] 71 [] Q)
         else
          Wp 384 0 [(0, .ref 1), (1, .int (I 0 ((x4 + (Int32.ofInt 1)).toNatClampNeg))), (2, .int (Int32.ofInt 0)), (3, .int (I 0 ((x4 + (Int32.ofInt 3)).toNatClampNeg))), (4, .int (Int32.ofInt 1)), (5, .ref 70)] [] (gE Lx) I L e (kcp (Wp 420) 420 1708 0 [(0, .ref 0), (1, .ref 1), (2, .ref 58), (3, .ref 70), (4, .int x4)] 71 [] Q)))
        False))
       False)
      else
       (inb (x4 + (Int32.ofInt 3)) Lx (
        (inb (x4 + (Int32.ofInt 4)) Lx (
         (if (I 0 ((x4 + (Int32.ofInt 4)).toNatClampNeg)) = 0 then
          Wp 384 0 [(0, .ref 1), (1, .int (I 0 ((x4 + (Int32.ofInt 1)).toNatClampNeg))), (2, .int (Int32.ofInt 1)), (3, .int (I 0 ((x4 + (Int32.ofInt 3)).toNatClampNeg))), (4, .int (Int32.ofInt 0)), (5, .ref 70)] [] (gE Lx) I L e (kcp (Wp 420) 420 1708 0 [(0, .ref 0), (1, .ref 1), (2, .ref 58), (3, .ref 70), (4, .int x4)] 71 [] Q)
         else
          Wp 384 0 [(0, .ref 1), (1, .int (I 0 ((x4 + (Int32.ofInt 1)).toNatClampNeg))), (2, .int (Int32.ofInt 1)), (3, .int (I 0 ((x4 + (Int32.ofInt 3)).toNatClampNeg))), (4, .int (Int32.ofInt 1)), (5, .ref 70)] [] (gE Lx) I L e (kcp (Wp 420) 420 1708 0 [(0, .ref 0), (1, .ref 1), (2, .ref 58), (3, .ref 70), (4, .int x4)] 71 [] Q)))
        False))
       False)))
     False))
    False)) :
    Wp 420 1666 [(0, .ref 0), (1, .ref 1), (2, .ref 58), (3, .ref 70), (4, .int x4)] [] (gE Lx) I L e Q := by
  refine w_a f_420_1666 ?_
  refine w_a f_420_1667 ?_
  refine w_a f_420_1668 ?_
  refine w_a f_420_1670 ?_
  refine w_a f_420_1671 ?_
  refine w_a f_420_1672 ?_
  refine n_m (fun h => ?_) h
  refine w_a f_420_1673 ?_
  refine w_a f_420_1674 ?_
  refine w_a f_420_1676 ?_
  refine w_a f_420_1677 ?_
  refine w_a f_420_1678 ?_
  refine n_m (fun h => ?_) h
  refine w_a f_420_1679 ?_
  refine i_m (fun h => ?_) (fun h => ?_) h
  · refine w_a f_420_1686 ?_
    refine w_a f_420_1687 ?_
    refine w_a f_420_1688 ?_
    refine w_a f_420_1690 ?_
    refine w_a f_420_1691 ?_
    refine w_a f_420_1692 ?_
    refine n_m (fun h => ?_) h
    refine w_a f_420_1693 ?_
    refine w_a f_420_1694 ?_
    refine w_a f_420_1696 ?_
    refine w_a f_420_1697 ?_
    refine w_a f_420_1698 ?_
    refine n_m (fun h => ?_) h
    refine w_a f_420_1699 ?_
    refine i_m (fun h => ?_) (fun h => ?_) h
    · refine w_a f_420_1706 ?_
      refine w_a f_420_1707 ?_
      exact w_c (ks := [0, 1, 2, 3, 4]) f_420_1708 rfl rfl h
    · refine w_a f_420_1702 ?_
      refine w_a f_420_1703 ?_
      refine w_a f_420_1707 ?_
      exact w_c (ks := [0, 1, 2, 3, 4]) f_420_1708 rfl rfl h
  · refine w_a f_420_1682 ?_
    refine w_a f_420_1683 ?_
    refine w_a f_420_1687 ?_
    refine w_a f_420_1688 ?_
    refine w_a f_420_1690 ?_
    refine w_a f_420_1691 ?_
    refine w_a f_420_1692 ?_
    refine n_m (fun h => ?_) h
    refine w_a f_420_1693 ?_
    refine w_a f_420_1694 ?_
    refine w_a f_420_1696 ?_
    refine w_a f_420_1697 ?_
    refine w_a f_420_1698 ?_
    refine n_m (fun h => ?_) h
    refine w_a f_420_1699 ?_
    refine i_m (fun h => ?_) (fun h => ?_) h
    · refine w_a f_420_1706 ?_
      refine w_a f_420_1707 ?_
      exact w_c (ks := [0, 1, 2, 3, 4]) f_420_1708 rfl rfl h
    · refine w_a f_420_1702 ?_
      refine w_a f_420_1703 ?_
      refine w_a f_420_1707 ?_
      exact w_c (ks := [0, 1, 2, 3, 4]) f_420_1708 rfl rfl h
set_option maxRecDepth 10000 in
set_option maxHeartbeats 4000000 in
theorem s_420_1711 {Lx : Nat} {I : Mi} {L : Ml} {e : Nat} {Q : Kq} {x4 : Int32} {r : Int32} (h :
    (inb (x4 + (Int32.ofInt 1)) Lx (
     (inb (x4 + (Int32.ofInt 2)) Lx (
      (if (I 0 ((x4 + (Int32.ofInt 2)).toNatClampNeg)) = 0 then
       (inb (x4 + (Int32.ofInt 3)) Lx (
        (inb (x4 + (Int32.ofInt 4)) Lx (
         (if (I 0 ((x4 + (Int32.ofInt 4)).toNatClampNeg)) = 0 then
          Wp 258 0 [(0, .ref 58), (1, .int (I 0 ((x4 + (Int32.ofInt 1)).toNatClampNeg))), (2, .int (Int32.ofInt 0)), (3, .int (I 0 ((x4 + (Int32.ofInt 3)).toNatClampNeg))), (4, .int (Int32.ofInt 0))] [] (gE Lx) I L e (kcp (Wp 420) 420 1754 0 [(0, .ref 0), (1, .ref 1), (2, .ref 58), (3, .ref 70), (4, .int x4), (5, .int r)] 71 [] Q)
         else
          Wp 258 0 [(0, .ref 58), (1, .int (I 0 ((x4 + (Int32.ofInt 1)).toNatClampNeg))), (2, .int (Int32.ofInt 0)), (3, .int (I 0 ((x4 + (Int32.ofInt 3)).toNatClampNeg))), (4, .int (Int32.ofInt 1))] [] (gE Lx) I L e (kcp (Wp 420) 420 1754 0 [(0, .ref 0), (1, .ref 1), (2, .ref 58), (3, .ref 70), (4, .int x4), (5, .int r)] 71 [] Q)))
        False))
       False)
      else
       (inb (x4 + (Int32.ofInt 3)) Lx (
        (inb (x4 + (Int32.ofInt 4)) Lx (
         (if (I 0 ((x4 + (Int32.ofInt 4)).toNatClampNeg)) = 0 then
          Wp 258 0 [(0, .ref 58), (1, .int (I 0 ((x4 + (Int32.ofInt 1)).toNatClampNeg))), (2, .int (Int32.ofInt 1)), (3, .int (I 0 ((x4 + (Int32.ofInt 3)).toNatClampNeg))), (4, .int (Int32.ofInt 0))] [] (gE Lx) I L e (kcp (Wp 420) 420 1754 0 [(0, .ref 0), (1, .ref 1), (2, .ref 58), (3, .ref 70), (4, .int x4), (5, .int r)] 71 [] Q)
         else
          Wp 258 0 [(0, .ref 58), (1, .int (I 0 ((x4 + (Int32.ofInt 1)).toNatClampNeg))), (2, .int (Int32.ofInt 1)), (3, .int (I 0 ((x4 + (Int32.ofInt 3)).toNatClampNeg))), (4, .int (Int32.ofInt 1))] [] (gE Lx) I L e (kcp (Wp 420) 420 1754 0 [(0, .ref 0), (1, .ref 1), (2, .ref 58), (3, .ref 70), (4, .int x4), (5, .int r)] 71 [] Q)))
        False))
       False)))
     False))
    False)) :
    Wp 420 1711 [(0, .ref 0), (1, .ref 1), (2, .ref 58), (3, .ref 70), (4, .int x4)] [.int r] (gE Lx) I L e Q := by
  refine w_a f_420_1711 ?_
  refine w_a (ls := [(5, .int r), (0, .ref 0), (1, .ref 1), (2, .ref 58), (3, .ref 70), (4, .int x4)]) f_420_1713 ?_
  refine w_a f_420_1714 ?_
  refine w_a f_420_1715 ?_
  refine w_a f_420_1717 ?_
  refine w_a f_420_1718 ?_
  refine w_a f_420_1719 ?_
  refine n_m (fun h => ?_) h
  refine w_a f_420_1720 ?_
  refine w_a f_420_1721 ?_
  refine w_a f_420_1723 ?_
  refine w_a f_420_1724 ?_
  refine w_a f_420_1725 ?_
  refine n_m (fun h => ?_) h
  refine w_a f_420_1726 ?_
  refine i_m (fun h => ?_) (fun h => ?_) h
  · refine w_a f_420_1733 ?_
    refine w_a f_420_1734 ?_
    refine w_a f_420_1735 ?_
    refine w_a f_420_1737 ?_
    refine w_a f_420_1738 ?_
    refine w_a f_420_1739 ?_
    refine n_m (fun h => ?_) h
    refine w_a f_420_1740 ?_
    refine w_a f_420_1741 ?_
    refine w_a f_420_1743 ?_
    refine w_a f_420_1744 ?_
    refine w_a f_420_1745 ?_
    refine n_m (fun h => ?_) h
    refine w_a f_420_1746 ?_
    refine i_m (fun h => ?_) (fun h => ?_) h
    · refine w_a f_420_1753 ?_
      exact w_c (ks := [0, 1, 2, 3, 4, 5]) f_420_1754 rfl rfl h
    · refine w_a f_420_1749 ?_
      refine w_a f_420_1750 ?_
      exact w_c (ks := [0, 1, 2, 3, 4, 5]) f_420_1754 rfl rfl h
  · refine w_a f_420_1729 ?_
    refine w_a f_420_1730 ?_
    refine w_a f_420_1734 ?_
    refine w_a f_420_1735 ?_
    refine w_a f_420_1737 ?_
    refine w_a f_420_1738 ?_
    refine w_a f_420_1739 ?_
    refine n_m (fun h => ?_) h
    refine w_a f_420_1740 ?_
    refine w_a f_420_1741 ?_
    refine w_a f_420_1743 ?_
    refine w_a f_420_1744 ?_
    refine w_a f_420_1745 ?_
    refine n_m (fun h => ?_) h
    refine w_a f_420_1746 ?_
    refine i_m (fun h => ?_) (fun h => ?_) h
    · refine w_a f_420_1753 ?_
      exact w_c (ks := [0, 1, 2, 3, 4, 5]) f_420_1754 rfl rfl h
    · refine w_a f_420_1749 ?_
      refine w_a f_420_1750 ?_
      exact w_c (ks := [0, 1, 2, 3, 4, 5]) f_420_1754 rfl rfl h
set_option maxRecDepth 10000 in
set_option maxHeartbeats 4000000 in
theorem s_420_1757 {Lx : Nat} {I : Mi} {L : Ml} {e : Nat} {Q : Kq} {x4 : Int32} {x5 : Int32} {rl : Int64} (h :
    (if (I 58 0) = x5 then
     (if x5 = 0 then
      (if (L 70 0) = rl then
       Wp 420 4917 [(0, .ref 0), (1, .ref 1), (2, .ref 58), (3, .ref 70), (4, .int x4)] [] (gE Lx) I L e Q
      else
       Q (.inl (some (.int (Int32.ofInt 0)))) (gE Lx) I L e)
     else
      Wp 420 4917 [(0, .ref 0), (1, .ref 1), (2, .ref 58), (3, .ref 70), (4, .int x4)] [] (gE Lx) I L e Q)
    else
     Q (.inl (some (.int (Int32.ofInt 0)))) (gE Lx) I L e)) :
    Wp 420 1757 [(0, .ref 0), (1, .ref 1), (2, .ref 58), (3, .ref 70), (4, .int x4), (5, .int x5)] [.long rl] (gE Lx) I L e Q := by
  refine w_a f_420_1757 ?_
  refine w_a (ls := [(6, .long rl), (0, .ref 0), (1, .ref 1), (2, .ref 58), (3, .ref 70), (4, .int x4), (5, .int x5)]) f_420_1759 ?_
  refine w_a f_420_1760 ?_
  refine w_a (ls := [(0, .ref 58)]) f_212_0 ?_
  refine w_a f_212_1 ?_
  refine w_a f_212_4 ?_
  refine w_a (ls := [(6, .long rl), (0, .ref 0), (1, .ref 1), (2, .ref 58), (3, .ref 70), (4, .int x4), (5, .int x5)]) f_420_1763 ?_
  refine w_a f_420_1765 ?_
  refine i_m (fun h => ?_) (fun h => ?_) h
  · refine w_a f_420_1770 ?_
    refine w_a f_420_1772 ?_
    refine i_m (fun h => ?_) (fun h => ?_) h
    · refine w_a f_420_1775 ?_
      refine w_a f_420_1776 ?_
      refine w_a f_420_1777 ?_
      refine w_a f_420_1778 ?_
      refine w_a f_420_1780 ?_
      refine i_m (fun h => ?_) (fun h => ?_) h
      · refine w_a f_420_1786 ?_
        exact w_n (ks := [0, 1, 2, 3, 4]) rfl h
      · refine w_a f_420_1784 ?_
        refine w_a f_420_1785 ?_
        exact h
    · refine w_a f_420_1786 ?_
      exact w_n (ks := [0, 1, 2, 3, 4]) rfl h
  · refine w_a f_420_1768 ?_
    refine w_a f_420_1769 ?_
    exact h
set_option maxRecDepth 10000 in
set_option maxHeartbeats 4000000 in
theorem s_420_1789 {Lx : Nat} {I : Mi} {L : Ml} {e : Nat} {Q : Kq} {x4 : Int32} (h :
    (inb (x4 + (Int32.ofInt 1)) Lx (
     (inb (x4 + (Int32.ofInt 2)) Lx (
      (if (I 0 ((x4 + (Int32.ofInt 2)).toNatClampNeg)) = 0 then
       (inb (x4 + (Int32.ofInt 3)) Lx (
        Wp 385 0 [(0, .ref 1), (1, .int (I 0 ((x4 + (Int32.ofInt 1)).toNatClampNeg))), (2, .int (Int32.ofInt 0)), (3, .int (I 0 ((x4 + (Int32.ofInt 3)).toNatClampNeg))), (4, .ref 70)] [] (gE Lx) I L e (kcp (Wp 420) 420 1817 0 [(0, .ref 0), (1, .ref 1), (2, .ref 58), (3, .ref 70), (4, .int x4)] 71 [] Q))
       False)
      else
       (inb (x4 + (Int32.ofInt 3)) Lx (
        Wp 385 0 [(0, .ref 1), (1, .int (I 0 ((x4 + (Int32.ofInt 1)).toNatClampNeg))), (2, .int (Int32.ofInt 1)), (3, .int (I 0 ((x4 + (Int32.ofInt 3)).toNatClampNeg))), (4, .ref 70)] [] (gE Lx) I L e (kcp (Wp 420) 420 1817 0 [(0, .ref 0), (1, .ref 1), (2, .ref 58), (3, .ref 70), (4, .int x4)] 71 [] Q))
       False)))
     False))
    False)) :
    Wp 420 1789 [(0, .ref 0), (1, .ref 1), (2, .ref 58), (3, .ref 70), (4, .int x4)] [] (gE Lx) I L e Q := by
  refine w_a f_420_1789 ?_
  refine w_a f_420_1790 ?_
  refine w_a f_420_1791 ?_
  refine w_a f_420_1793 ?_
  refine w_a f_420_1794 ?_
  refine w_a f_420_1795 ?_
  refine n_m (fun h => ?_) h
  refine w_a f_420_1796 ?_
  refine w_a f_420_1797 ?_
  refine w_a f_420_1799 ?_
  refine w_a f_420_1800 ?_
  refine w_a f_420_1801 ?_
  refine n_m (fun h => ?_) h
  refine w_a f_420_1802 ?_
  refine i_m (fun h => ?_) (fun h => ?_) h
  · refine w_a f_420_1809 ?_
    refine w_a f_420_1810 ?_
    refine w_a f_420_1811 ?_
    refine w_a f_420_1813 ?_
    refine w_a f_420_1814 ?_
    refine w_a f_420_1815 ?_
    refine n_m (fun h => ?_) h
    refine w_a f_420_1816 ?_
    exact w_c (ks := [0, 1, 2, 3, 4]) f_420_1817 rfl rfl h
  · refine w_a f_420_1805 ?_
    refine w_a f_420_1806 ?_
    refine w_a f_420_1810 ?_
    refine w_a f_420_1811 ?_
    refine w_a f_420_1813 ?_
    refine w_a f_420_1814 ?_
    refine w_a f_420_1815 ?_
    refine n_m (fun h => ?_) h
    refine w_a f_420_1816 ?_
    exact w_c (ks := [0, 1, 2, 3, 4]) f_420_1817 rfl rfl h
set_option maxRecDepth 10000 in
set_option maxHeartbeats 4000000 in
theorem s_420_1820 {Lx : Nat} {I : Mi} {L : Ml} {e : Nat} {Q : Kq} {x4 : Int32} {r : Int32} (h :
    (inb (x4 + (Int32.ofInt 1)) Lx (
     (inb (x4 + (Int32.ofInt 2)) Lx (
      (if (I 0 ((x4 + (Int32.ofInt 2)).toNatClampNeg)) = 0 then
       (inb (x4 + (Int32.ofInt 3)) Lx (
        Wp 266 0 [(0, .ref 58), (1, .int (I 0 ((x4 + (Int32.ofInt 1)).toNatClampNeg))), (2, .int (Int32.ofInt 0)), (3, .int (I 0 ((x4 + (Int32.ofInt 3)).toNatClampNeg)))] [] (gE Lx) I L e (kcp (Wp 420) 420 1849 0 [(0, .ref 0), (1, .ref 1), (2, .ref 58), (3, .ref 70), (4, .int x4), (5, .int r)] 71 [] Q))
       False)
      else
       (inb (x4 + (Int32.ofInt 3)) Lx (
        Wp 266 0 [(0, .ref 58), (1, .int (I 0 ((x4 + (Int32.ofInt 1)).toNatClampNeg))), (2, .int (Int32.ofInt 1)), (3, .int (I 0 ((x4 + (Int32.ofInt 3)).toNatClampNeg)))] [] (gE Lx) I L e (kcp (Wp 420) 420 1849 0 [(0, .ref 0), (1, .ref 1), (2, .ref 58), (3, .ref 70), (4, .int x4), (5, .int r)] 71 [] Q))
       False)))
     False))
    False)) :
    Wp 420 1820 [(0, .ref 0), (1, .ref 1), (2, .ref 58), (3, .ref 70), (4, .int x4)] [.int r] (gE Lx) I L e Q := by
  refine w_a f_420_1820 ?_
  refine w_a (ls := [(5, .int r), (0, .ref 0), (1, .ref 1), (2, .ref 58), (3, .ref 70), (4, .int x4)]) f_420_1822 ?_
  refine w_a f_420_1823 ?_
  refine w_a f_420_1824 ?_
  refine w_a f_420_1826 ?_
  refine w_a f_420_1827 ?_
  refine w_a f_420_1828 ?_
  refine n_m (fun h => ?_) h
  refine w_a f_420_1829 ?_
  refine w_a f_420_1830 ?_
  refine w_a f_420_1832 ?_
  refine w_a f_420_1833 ?_
  refine w_a f_420_1834 ?_
  refine n_m (fun h => ?_) h
  refine w_a f_420_1835 ?_
  refine i_m (fun h => ?_) (fun h => ?_) h
  · refine w_a f_420_1842 ?_
    refine w_a f_420_1843 ?_
    refine w_a f_420_1844 ?_
    refine w_a f_420_1846 ?_
    refine w_a f_420_1847 ?_
    refine w_a f_420_1848 ?_
    refine n_m (fun h => ?_) h
    exact w_c (ks := [0, 1, 2, 3, 4, 5]) f_420_1849 rfl rfl h
  · refine w_a f_420_1838 ?_
    refine w_a f_420_1839 ?_
    refine w_a f_420_1843 ?_
    refine w_a f_420_1844 ?_
    refine w_a f_420_1846 ?_
    refine w_a f_420_1847 ?_
    refine w_a f_420_1848 ?_
    refine n_m (fun h => ?_) h
    exact w_c (ks := [0, 1, 2, 3, 4, 5]) f_420_1849 rfl rfl h
set_option maxRecDepth 10000 in
set_option maxHeartbeats 4000000 in
theorem s_420_1852 {Lx : Nat} {I : Mi} {L : Ml} {e : Nat} {Q : Kq} {x4 : Int32} {x5 : Int32} {rl : Int64} (h :
    (if (I 58 0) = x5 then
     (if x5 = 0 then
      (if (L 70 0) = rl then
       Wp 420 4917 [(0, .ref 0), (1, .ref 1), (2, .ref 58), (3, .ref 70), (4, .int x4)] [] (gE Lx) I L e Q
      else
       Q (.inl (some (.int (Int32.ofInt 0)))) (gE Lx) I L e)
     else
      Wp 420 4917 [(0, .ref 0), (1, .ref 1), (2, .ref 58), (3, .ref 70), (4, .int x4)] [] (gE Lx) I L e Q)
    else
     Q (.inl (some (.int (Int32.ofInt 0)))) (gE Lx) I L e)) :
    Wp 420 1852 [(0, .ref 0), (1, .ref 1), (2, .ref 58), (3, .ref 70), (4, .int x4), (5, .int x5)] [.long rl] (gE Lx) I L e Q := by
  refine w_a f_420_1852 ?_
  refine w_a (ls := [(6, .long rl), (0, .ref 0), (1, .ref 1), (2, .ref 58), (3, .ref 70), (4, .int x4), (5, .int x5)]) f_420_1854 ?_
  refine w_a f_420_1855 ?_
  refine w_a (ls := [(0, .ref 58)]) f_212_0 ?_
  refine w_a f_212_1 ?_
  refine w_a f_212_4 ?_
  refine w_a (ls := [(6, .long rl), (0, .ref 0), (1, .ref 1), (2, .ref 58), (3, .ref 70), (4, .int x4), (5, .int x5)]) f_420_1858 ?_
  refine w_a f_420_1860 ?_
  refine i_m (fun h => ?_) (fun h => ?_) h
  · refine w_a f_420_1865 ?_
    refine w_a f_420_1867 ?_
    refine i_m (fun h => ?_) (fun h => ?_) h
    · refine w_a f_420_1870 ?_
      refine w_a f_420_1871 ?_
      refine w_a f_420_1872 ?_
      refine w_a f_420_1873 ?_
      refine w_a f_420_1875 ?_
      refine i_m (fun h => ?_) (fun h => ?_) h
      · refine w_a f_420_1881 ?_
        exact w_n (ks := [0, 1, 2, 3, 4]) rfl h
      · refine w_a f_420_1879 ?_
        refine w_a f_420_1880 ?_
        exact h
    · refine w_a f_420_1881 ?_
      exact w_n (ks := [0, 1, 2, 3, 4]) rfl h
  · refine w_a f_420_1863 ?_
    refine w_a f_420_1864 ?_
    exact h
set_option maxRecDepth 10000 in
set_option maxHeartbeats 4000000 in
theorem s_420_1884 {Lx : Nat} {I : Mi} {L : Ml} {e : Nat} {Q : Kq} {x4 : Int32} (h :
    (inb (x4 + (Int32.ofInt 1)) Lx (
     (inb (x4 + (Int32.ofInt 2)) Lx (
      (if (I 0 ((x4 + (Int32.ofInt 2)).toNatClampNeg)) = 0 then
       (inb (x4 + (Int32.ofInt 3)) Lx (
        (inb (x4 + (Int32.ofInt 4)) Lx (
         (if (I 0 ((x4 + (Int32.ofInt 4)).toNatClampNeg)) = 0 then
          Wp 386 0 [(0, .ref 1), (1, .int (I 0 ((x4 + (Int32.ofInt 1)).toNatClampNeg))), (2, .int (Int32.ofInt 0)), (3, .int (I 0 ((x4 + (Int32.ofInt 3)).toNatClampNeg))), (4, .int (Int32.ofInt 0)), (5, .ref 70)] [] (gE Lx) I L e (kcp (Wp 420) 420 1926 0 [(0, .ref 0), (1, .ref 1), (2, .ref 58), (3, .ref 70), (4, .int x4)] 71 [] Q)
         else
          Wp 386 0 [(0, .ref 1), (1, .int (I 0 ((x4 + (Int32.ofInt 1)).toNatClampNeg))), (2, .int (Int32.ofInt 0)), (3, .int (I 0 ((x4 + (Int32.ofInt 3)).toNatClampNeg))), (4, .int (Int32.ofInt 1)), (5, .ref 70)] [] (gE Lx) I L e (kcp (Wp 420) 420 1926 0 [(0, .ref 0), (1, .ref 1), (2, .ref 58), (3, .ref 70), (4, .int x4)] 71 [] Q)))
        False))
       False)
      else
       (inb (x4 + (Int32.ofInt 3)) Lx (
        (inb (x4 + (Int32.ofInt 4)) Lx (
         (if (I 0 ((x4 + (Int32.ofInt 4)).toNatClampNeg)) = 0 then
          Wp 386 0 [(0, .ref 1), (1, .int (I 0 ((x4 + (Int32.ofInt 1)).toNatClampNeg))), (2, .int (Int32.ofInt 1)), (3, .int (I 0 ((x4 + (Int32.ofInt 3)).toNatClampNeg))), (4, .int (Int32.ofInt 0)), (5, .ref 70)] [] (gE Lx) I L e (kcp (Wp 420) 420 1926 0 [(0, .ref 0), (1, .ref 1), (2, .ref 58), (3, .ref 70), (4, .int x4)] 71 [] Q)
         else
          Wp 386 0 [(0, .ref 1), (1, .int (I 0 ((x4 + (Int32.ofInt 1)).toNatClampNeg))), (2, .int (Int32.ofInt 1)), (3, .int (I 0 ((x4 + (Int32.ofInt 3)).toNatClampNeg))), (4, .int (Int32.ofInt 1)), (5, .ref 70)] [] (gE Lx) I L e (kcp (Wp 420) 420 1926 0 [(0, .ref 0), (1, .ref 1), (2, .ref 58), (3, .ref 70), (4, .int x4)] 71 [] Q)))
        False))
       False)))
     False))
    False)) :
    Wp 420 1884 [(0, .ref 0), (1, .ref 1), (2, .ref 58), (3, .ref 70), (4, .int x4)] [] (gE Lx) I L e Q := by
  refine w_a f_420_1884 ?_
  refine w_a f_420_1885 ?_
  refine w_a f_420_1886 ?_
  refine w_a f_420_1888 ?_
  refine w_a f_420_1889 ?_
  refine w_a f_420_1890 ?_
  refine n_m (fun h => ?_) h
  refine w_a f_420_1891 ?_
  refine w_a f_420_1892 ?_
  refine w_a f_420_1894 ?_
  refine w_a f_420_1895 ?_
  refine w_a f_420_1896 ?_
  refine n_m (fun h => ?_) h
  refine w_a f_420_1897 ?_
  refine i_m (fun h => ?_) (fun h => ?_) h
  · refine w_a f_420_1904 ?_
    refine w_a f_420_1905 ?_
    refine w_a f_420_1906 ?_
    refine w_a f_420_1908 ?_
    refine w_a f_420_1909 ?_
    refine w_a f_420_1910 ?_
    refine n_m (fun h => ?_) h
    refine w_a f_420_1911 ?_
    refine w_a f_420_1912 ?_
    refine w_a f_420_1914 ?_
    refine w_a f_420_1915 ?_
    refine w_a f_420_1916 ?_
    refine n_m (fun h => ?_) h
    refine w_a f_420_1917 ?_
    refine i_m (fun h => ?_) (fun h => ?_) h
    · refine w_a f_420_1924 ?_
      refine w_a f_420_1925 ?_
      exact w_c (ks := [0, 1, 2, 3, 4]) f_420_1926 rfl rfl h
    · refine w_a f_420_1920 ?_
      refine w_a f_420_1921 ?_
      refine w_a f_420_1925 ?_
      exact w_c (ks := [0, 1, 2, 3, 4]) f_420_1926 rfl rfl h
  · refine w_a f_420_1900 ?_
    refine w_a f_420_1901 ?_
    refine w_a f_420_1905 ?_
    refine w_a f_420_1906 ?_
    refine w_a f_420_1908 ?_
    refine w_a f_420_1909 ?_
    refine w_a f_420_1910 ?_
    refine n_m (fun h => ?_) h
    refine w_a f_420_1911 ?_
    refine w_a f_420_1912 ?_
    refine w_a f_420_1914 ?_
    refine w_a f_420_1915 ?_
    refine w_a f_420_1916 ?_
    refine n_m (fun h => ?_) h
    refine w_a f_420_1917 ?_
    refine i_m (fun h => ?_) (fun h => ?_) h
    · refine w_a f_420_1924 ?_
      refine w_a f_420_1925 ?_
      exact w_c (ks := [0, 1, 2, 3, 4]) f_420_1926 rfl rfl h
    · refine w_a f_420_1920 ?_
      refine w_a f_420_1921 ?_
      refine w_a f_420_1925 ?_
      exact w_c (ks := [0, 1, 2, 3, 4]) f_420_1926 rfl rfl h
set_option maxRecDepth 10000 in
set_option maxHeartbeats 4000000 in
theorem s_420_1929 {Lx : Nat} {I : Mi} {L : Ml} {e : Nat} {Q : Kq} {x4 : Int32} {r : Int32} (h :
    (inb (x4 + (Int32.ofInt 1)) Lx (
     (inb (x4 + (Int32.ofInt 2)) Lx (
      (if (I 0 ((x4 + (Int32.ofInt 2)).toNatClampNeg)) = 0 then
       (inb (x4 + (Int32.ofInt 3)) Lx (
        (inb (x4 + (Int32.ofInt 4)) Lx (
         (if (I 0 ((x4 + (Int32.ofInt 4)).toNatClampNeg)) = 0 then
          Wp 268 0 [(0, .ref 58), (1, .int (I 0 ((x4 + (Int32.ofInt 1)).toNatClampNeg))), (2, .int (Int32.ofInt 0)), (3, .int (I 0 ((x4 + (Int32.ofInt 3)).toNatClampNeg))), (4, .int (Int32.ofInt 0))] [] (gE Lx) I L e (kcp (Wp 420) 420 1972 0 [(0, .ref 0), (1, .ref 1), (2, .ref 58), (3, .ref 70), (4, .int x4), (5, .int r)] 71 [] Q)
         else
          Wp 268 0 [(0, .ref 58), (1, .int (I 0 ((x4 + (Int32.ofInt 1)).toNatClampNeg))), (2, .int (Int32.ofInt 0)), (3, .int (I 0 ((x4 + (Int32.ofInt 3)).toNatClampNeg))), (4, .int (Int32.ofInt 1))] [] (gE Lx) I L e (kcp (Wp 420) 420 1972 0 [(0, .ref 0), (1, .ref 1), (2, .ref 58), (3, .ref 70), (4, .int x4), (5, .int r)] 71 [] Q)))
        False))
       False)
      else
       (inb (x4 + (Int32.ofInt 3)) Lx (
        (inb (x4 + (Int32.ofInt 4)) Lx (
         (if (I 0 ((x4 + (Int32.ofInt 4)).toNatClampNeg)) = 0 then
          Wp 268 0 [(0, .ref 58), (1, .int (I 0 ((x4 + (Int32.ofInt 1)).toNatClampNeg))), (2, .int (Int32.ofInt 1)), (3, .int (I 0 ((x4 + (Int32.ofInt 3)).toNatClampNeg))), (4, .int (Int32.ofInt 0))] [] (gE Lx) I L e (kcp (Wp 420) 420 1972 0 [(0, .ref 0), (1, .ref 1), (2, .ref 58), (3, .ref 70), (4, .int x4), (5, .int r)] 71 [] Q)
         else
          Wp 268 0 [(0, .ref 58), (1, .int (I 0 ((x4 + (Int32.ofInt 1)).toNatClampNeg))), (2, .int (Int32.ofInt 1)), (3, .int (I 0 ((x4 + (Int32.ofInt 3)).toNatClampNeg))), (4, .int (Int32.ofInt 1))] [] (gE Lx) I L e (kcp (Wp 420) 420 1972 0 [(0, .ref 0), (1, .ref 1), (2, .ref 58), (3, .ref 70), (4, .int x4), (5, .int r)] 71 [] Q)))
        False))
       False)))
     False))
    False)) :
    Wp 420 1929 [(0, .ref 0), (1, .ref 1), (2, .ref 58), (3, .ref 70), (4, .int x4)] [.int r] (gE Lx) I L e Q := by
  refine w_a f_420_1929 ?_
  refine w_a (ls := [(5, .int r), (0, .ref 0), (1, .ref 1), (2, .ref 58), (3, .ref 70), (4, .int x4)]) f_420_1931 ?_
  refine w_a f_420_1932 ?_
  refine w_a f_420_1933 ?_
  refine w_a f_420_1935 ?_
  refine w_a f_420_1936 ?_
  refine w_a f_420_1937 ?_
  refine n_m (fun h => ?_) h
  refine w_a f_420_1938 ?_
  refine w_a f_420_1939 ?_
  refine w_a f_420_1941 ?_
  refine w_a f_420_1942 ?_
  refine w_a f_420_1943 ?_
  refine n_m (fun h => ?_) h
  refine w_a f_420_1944 ?_
  refine i_m (fun h => ?_) (fun h => ?_) h
  · refine w_a f_420_1951 ?_
    refine w_a f_420_1952 ?_
    refine w_a f_420_1953 ?_
    refine w_a f_420_1955 ?_
    refine w_a f_420_1956 ?_
    refine w_a f_420_1957 ?_
    refine n_m (fun h => ?_) h
    refine w_a f_420_1958 ?_
    refine w_a f_420_1959 ?_
    refine w_a f_420_1961 ?_
    refine w_a f_420_1962 ?_
    refine w_a f_420_1963 ?_
    refine n_m (fun h => ?_) h
    refine w_a f_420_1964 ?_
    refine i_m (fun h => ?_) (fun h => ?_) h
    · refine w_a f_420_1971 ?_
      exact w_c (ks := [0, 1, 2, 3, 4, 5]) f_420_1972 rfl rfl h
    · refine w_a f_420_1967 ?_
      refine w_a f_420_1968 ?_
      exact w_c (ks := [0, 1, 2, 3, 4, 5]) f_420_1972 rfl rfl h
  · refine w_a f_420_1947 ?_
    refine w_a f_420_1948 ?_
    refine w_a f_420_1952 ?_
    refine w_a f_420_1953 ?_
    refine w_a f_420_1955 ?_
    refine w_a f_420_1956 ?_
    refine w_a f_420_1957 ?_
    refine n_m (fun h => ?_) h
    refine w_a f_420_1958 ?_
    refine w_a f_420_1959 ?_
    refine w_a f_420_1961 ?_
    refine w_a f_420_1962 ?_
    refine w_a f_420_1963 ?_
    refine n_m (fun h => ?_) h
    refine w_a f_420_1964 ?_
    refine i_m (fun h => ?_) (fun h => ?_) h
    · refine w_a f_420_1971 ?_
      exact w_c (ks := [0, 1, 2, 3, 4, 5]) f_420_1972 rfl rfl h
    · refine w_a f_420_1967 ?_
      refine w_a f_420_1968 ?_
      exact w_c (ks := [0, 1, 2, 3, 4, 5]) f_420_1972 rfl rfl h
set_option maxRecDepth 10000 in
set_option maxHeartbeats 4000000 in
theorem s_420_1975 {Lx : Nat} {I : Mi} {L : Ml} {e : Nat} {Q : Kq} {x4 : Int32} {x5 : Int32} {rl : Int64} (h :
    (if (I 58 0) = x5 then
     (if x5 = 0 then
      (if (L 70 0) = rl then
       Wp 420 4917 [(0, .ref 0), (1, .ref 1), (2, .ref 58), (3, .ref 70), (4, .int x4)] [] (gE Lx) I L e Q
      else
       Q (.inl (some (.int (Int32.ofInt 0)))) (gE Lx) I L e)
     else
      Wp 420 4917 [(0, .ref 0), (1, .ref 1), (2, .ref 58), (3, .ref 70), (4, .int x4)] [] (gE Lx) I L e Q)
    else
     Q (.inl (some (.int (Int32.ofInt 0)))) (gE Lx) I L e)) :
    Wp 420 1975 [(0, .ref 0), (1, .ref 1), (2, .ref 58), (3, .ref 70), (4, .int x4), (5, .int x5)] [.long rl] (gE Lx) I L e Q := by
  refine w_a f_420_1975 ?_
  refine w_a (ls := [(6, .long rl), (0, .ref 0), (1, .ref 1), (2, .ref 58), (3, .ref 70), (4, .int x4), (5, .int x5)]) f_420_1977 ?_
  refine w_a f_420_1978 ?_
  refine w_a (ls := [(0, .ref 58)]) f_212_0 ?_
  refine w_a f_212_1 ?_
  refine w_a f_212_4 ?_
  refine w_a (ls := [(6, .long rl), (0, .ref 0), (1, .ref 1), (2, .ref 58), (3, .ref 70), (4, .int x4), (5, .int x5)]) f_420_1981 ?_
  refine w_a f_420_1983 ?_
  refine i_m (fun h => ?_) (fun h => ?_) h
  · refine w_a f_420_1988 ?_
    refine w_a f_420_1990 ?_
    refine i_m (fun h => ?_) (fun h => ?_) h
    · refine w_a f_420_1993 ?_
      refine w_a f_420_1994 ?_
      refine w_a f_420_1995 ?_
      refine w_a f_420_1996 ?_
      refine w_a f_420_1998 ?_
      refine i_m (fun h => ?_) (fun h => ?_) h
      · refine w_a f_420_2004 ?_
        exact w_n (ks := [0, 1, 2, 3, 4]) rfl h
      · refine w_a f_420_2002 ?_
        refine w_a f_420_2003 ?_
        exact h
    · refine w_a f_420_2004 ?_
      exact w_n (ks := [0, 1, 2, 3, 4]) rfl h
  · refine w_a f_420_1986 ?_
    refine w_a f_420_1987 ?_
    exact h
set_option maxRecDepth 10000 in
set_option maxHeartbeats 4000000 in
theorem s_420_2007 {Lx : Nat} {I : Mi} {L : Ml} {e : Nat} {Q : Kq} {x4 : Int32} (h :
    (inb (x4 + (Int32.ofInt 1)) Lx (
     (inb (x4 + (Int32.ofInt 2)) Lx (
      (if (I 0 ((x4 + (Int32.ofInt 2)).toNatClampNeg)) = 0 then
       (inb (x4 + (Int32.ofInt 3)) Lx (
        (if (I 0 ((x4 + (Int32.ofInt 3)).toNatClampNeg)) = 0 then
         Wp 387 0 [(0, .ref 1), (1, .int (I 0 ((x4 + (Int32.ofInt 1)).toNatClampNeg))), (2, .int (Int32.ofInt 0)), (3, .int (Int32.ofInt 0)), (4, .ref 70)] [] (gE Lx) I L e (kcp (Wp 420) 420 2043 0 [(0, .ref 0), (1, .ref 1), (2, .ref 58), (3, .ref 70), (4, .int x4)] 71 [] Q)
        else
         Wp 387 0 [(0, .ref 1), (1, .int (I 0 ((x4 + (Int32.ofInt 1)).toNatClampNeg))), (2, .int (Int32.ofInt 0)), (3, .int (Int32.ofInt 1)), (4, .ref 70)] [] (gE Lx) I L e (kcp (Wp 420) 420 2043 0 [(0, .ref 0), (1, .ref 1), (2, .ref 58), (3, .ref 70), (4, .int x4)] 71 [] Q)))
       False)
      else
       (inb (x4 + (Int32.ofInt 3)) Lx (
        (if (I 0 ((x4 + (Int32.ofInt 3)).toNatClampNeg)) = 0 then
         Wp 387 0 [(0, .ref 1), (1, .int (I 0 ((x4 + (Int32.ofInt 1)).toNatClampNeg))), (2, .int (Int32.ofInt 1)), (3, .int (Int32.ofInt 0)), (4, .ref 70)] [] (gE Lx) I L e (kcp (Wp 420) 420 2043 0 [(0, .ref 0), (1, .ref 1), (2, .ref 58), (3, .ref 70), (4, .int x4)] 71 [] Q)
        else
         Wp 387 0 [(0, .ref 1), (1, .int (I 0 ((x4 + (Int32.ofInt 1)).toNatClampNeg))), (2, .int (Int32.ofInt 1)), (3, .int (Int32.ofInt 1)), (4, .ref 70)] [] (gE Lx) I L e (kcp (Wp 420) 420 2043 0 [(0, .ref 0), (1, .ref 1), (2, .ref 58), (3, .ref 70), (4, .int x4)] 71 [] Q)))
       False)))
     False))
    False)) :
    Wp 420 2007 [(0, .ref 0), (1, .ref 1), (2, .ref 58), (3, .ref 70), (4, .int x4)] [] (gE Lx) I L e Q := by
  refine w_a f_420_2007 ?_
  refine w_a f_420_2008 ?_
  refine w_a f_420_2009 ?_
  refine w_a f_420_2011 ?_
  refine w_a f_420_2012 ?_
  refine w_a f_420_2013 ?_
  refine n_m (fun h => ?_) h
  refine w_a f_420_2014 ?_
  refine w_a f_420_2015 ?_
  refine w_a f_420_2017 ?_
  refine w_a f_420_2018 ?_
  refine w_a f_420_2019 ?_
  refine n_m (fun h => ?_) h
  refine w_a f_420_2020 ?_
  refine i_m (fun h => ?_) (fun h => ?_) h
  · refine w_a f_420_2027 ?_
    refine w_a f_420_2028 ?_
    refine w_a f_420_2029 ?_
    refine w_a f_420_2031 ?_
    refine w_a f_420_2032 ?_
    refine w_a f_420_2033 ?_
    refine n_m (fun h => ?_) h
    refine w_a f_420_2034 ?_
    refine i_m (fun h => ?_) (fun h => ?_) h
    · refine w_a f_420_2041 ?_
      refine w_a f_420_2042 ?_
      exact w_c (ks := [0, 1, 2, 3, 4]) f_420_2043 rfl rfl h
    · refine w_a f_420_2037 ?_
      refine w_a f_420_2038 ?_
      refine w_a f_420_2042 ?_
      exact w_c (ks := [0, 1, 2, 3, 4]) f_420_2043 rfl rfl h
  · refine w_a f_420_2023 ?_
    refine w_a f_420_2024 ?_
    refine w_a f_420_2028 ?_
    refine w_a f_420_2029 ?_
    refine w_a f_420_2031 ?_
    refine w_a f_420_2032 ?_
    refine w_a f_420_2033 ?_
    refine n_m (fun h => ?_) h
    refine w_a f_420_2034 ?_
    refine i_m (fun h => ?_) (fun h => ?_) h
    · refine w_a f_420_2041 ?_
      refine w_a f_420_2042 ?_
      exact w_c (ks := [0, 1, 2, 3, 4]) f_420_2043 rfl rfl h
    · refine w_a f_420_2037 ?_
      refine w_a f_420_2038 ?_
      refine w_a f_420_2042 ?_
      exact w_c (ks := [0, 1, 2, 3, 4]) f_420_2043 rfl rfl h
set_option maxRecDepth 10000 in
set_option maxHeartbeats 4000000 in
theorem s_420_2046 {Lx : Nat} {I : Mi} {L : Ml} {e : Nat} {Q : Kq} {x4 : Int32} {r : Int32} (h :
    (inb (x4 + (Int32.ofInt 1)) Lx (
     (inb (x4 + (Int32.ofInt 2)) Lx (
      (if (I 0 ((x4 + (Int32.ofInt 2)).toNatClampNeg)) = 0 then
       (inb (x4 + (Int32.ofInt 3)) Lx (
        (if (I 0 ((x4 + (Int32.ofInt 3)).toNatClampNeg)) = 0 then
         Wp 269 0 [(0, .ref 58), (1, .int (I 0 ((x4 + (Int32.ofInt 1)).toNatClampNeg))), (2, .int (Int32.ofInt 0)), (3, .int (Int32.ofInt 0))] [] (gE Lx) I L e (kcp (Wp 420) 420 2083 0 [(0, .ref 0), (1, .ref 1), (2, .ref 58), (3, .ref 70), (4, .int x4), (5, .int r)] 71 [] Q)
        else
         Wp 269 0 [(0, .ref 58), (1, .int (I 0 ((x4 + (Int32.ofInt 1)).toNatClampNeg))), (2, .int (Int32.ofInt 0)), (3, .int (Int32.ofInt 1))] [] (gE Lx) I L e (kcp (Wp 420) 420 2083 0 [(0, .ref 0), (1, .ref 1), (2, .ref 58), (3, .ref 70), (4, .int x4), (5, .int r)] 71 [] Q)))
       False)
      else
       (inb (x4 + (Int32.ofInt 3)) Lx (
        (if (I 0 ((x4 + (Int32.ofInt 3)).toNatClampNeg)) = 0 then
         Wp 269 0 [(0, .ref 58), (1, .int (I 0 ((x4 + (Int32.ofInt 1)).toNatClampNeg))), (2, .int (Int32.ofInt 1)), (3, .int (Int32.ofInt 0))] [] (gE Lx) I L e (kcp (Wp 420) 420 2083 0 [(0, .ref 0), (1, .ref 1), (2, .ref 58), (3, .ref 70), (4, .int x4), (5, .int r)] 71 [] Q)
        else
         Wp 269 0 [(0, .ref 58), (1, .int (I 0 ((x4 + (Int32.ofInt 1)).toNatClampNeg))), (2, .int (Int32.ofInt 1)), (3, .int (Int32.ofInt 1))] [] (gE Lx) I L e (kcp (Wp 420) 420 2083 0 [(0, .ref 0), (1, .ref 1), (2, .ref 58), (3, .ref 70), (4, .int x4), (5, .int r)] 71 [] Q)))
       False)))
     False))
    False)) :
    Wp 420 2046 [(0, .ref 0), (1, .ref 1), (2, .ref 58), (3, .ref 70), (4, .int x4)] [.int r] (gE Lx) I L e Q := by
  refine w_a f_420_2046 ?_
  refine w_a (ls := [(5, .int r), (0, .ref 0), (1, .ref 1), (2, .ref 58), (3, .ref 70), (4, .int x4)]) f_420_2048 ?_
  refine w_a f_420_2049 ?_
  refine w_a f_420_2050 ?_
  refine w_a f_420_2052 ?_
  refine w_a f_420_2053 ?_
  refine w_a f_420_2054 ?_
  refine n_m (fun h => ?_) h
  refine w_a f_420_2055 ?_
  refine w_a f_420_2056 ?_
  refine w_a f_420_2058 ?_
  refine w_a f_420_2059 ?_
  refine w_a f_420_2060 ?_
  refine n_m (fun h => ?_) h
  refine w_a f_420_2061 ?_
  refine i_m (fun h => ?_) (fun h => ?_) h
  · refine w_a f_420_2068 ?_
    refine w_a f_420_2069 ?_
    refine w_a f_420_2070 ?_
    refine w_a f_420_2072 ?_
    refine w_a f_420_2073 ?_
    refine w_a f_420_2074 ?_
    refine n_m (fun h => ?_) h
    refine w_a f_420_2075 ?_
    refine i_m (fun h => ?_) (fun h => ?_) h
    · refine w_a f_420_2082 ?_
      exact w_c (ks := [0, 1, 2, 3, 4, 5]) f_420_2083 rfl rfl h
    · refine w_a f_420_2078 ?_
      refine w_a f_420_2079 ?_
      exact w_c (ks := [0, 1, 2, 3, 4, 5]) f_420_2083 rfl rfl h
  · refine w_a f_420_2064 ?_
    refine w_a f_420_2065 ?_
    refine w_a f_420_2069 ?_
    refine w_a f_420_2070 ?_
    refine w_a f_420_2072 ?_
    refine w_a f_420_2073 ?_
    refine w_a f_420_2074 ?_
    refine n_m (fun h => ?_) h
    refine w_a f_420_2075 ?_
    refine i_m (fun h => ?_) (fun h => ?_) h
    · refine w_a f_420_2082 ?_
      exact w_c (ks := [0, 1, 2, 3, 4, 5]) f_420_2083 rfl rfl h
    · refine w_a f_420_2078 ?_
      refine w_a f_420_2079 ?_
      exact w_c (ks := [0, 1, 2, 3, 4, 5]) f_420_2083 rfl rfl h
set_option maxRecDepth 10000 in
set_option maxHeartbeats 4000000 in
theorem s_420_2086 {Lx : Nat} {I : Mi} {L : Ml} {e : Nat} {Q : Kq} {x4 : Int32} {x5 : Int32} {rl : Int64} (h :
    (if (I 58 0) = x5 then
     (if x5 = 0 then
      (if (L 70 0) = rl then
       Wp 420 4917 [(0, .ref 0), (1, .ref 1), (2, .ref 58), (3, .ref 70), (4, .int x4)] [] (gE Lx) I L e Q
      else
       Q (.inl (some (.int (Int32.ofInt 0)))) (gE Lx) I L e)
     else
      Wp 420 4917 [(0, .ref 0), (1, .ref 1), (2, .ref 58), (3, .ref 70), (4, .int x4)] [] (gE Lx) I L e Q)
    else
     Q (.inl (some (.int (Int32.ofInt 0)))) (gE Lx) I L e)) :
    Wp 420 2086 [(0, .ref 0), (1, .ref 1), (2, .ref 58), (3, .ref 70), (4, .int x4), (5, .int x5)] [.long rl] (gE Lx) I L e Q := by
  refine w_a f_420_2086 ?_
  refine w_a (ls := [(6, .long rl), (0, .ref 0), (1, .ref 1), (2, .ref 58), (3, .ref 70), (4, .int x4), (5, .int x5)]) f_420_2088 ?_
  refine w_a f_420_2089 ?_
  refine w_a (ls := [(0, .ref 58)]) f_212_0 ?_
  refine w_a f_212_1 ?_
  refine w_a f_212_4 ?_
  refine w_a (ls := [(6, .long rl), (0, .ref 0), (1, .ref 1), (2, .ref 58), (3, .ref 70), (4, .int x4), (5, .int x5)]) f_420_2092 ?_
  refine w_a f_420_2094 ?_
  refine i_m (fun h => ?_) (fun h => ?_) h
  · refine w_a f_420_2099 ?_
    refine w_a f_420_2101 ?_
    refine i_m (fun h => ?_) (fun h => ?_) h
    · refine w_a f_420_2104 ?_
      refine w_a f_420_2105 ?_
      refine w_a f_420_2106 ?_
      refine w_a f_420_2107 ?_
      refine w_a f_420_2109 ?_
      refine i_m (fun h => ?_) (fun h => ?_) h
      · refine w_a f_420_2115 ?_
        exact w_n (ks := [0, 1, 2, 3, 4]) rfl h
      · refine w_a f_420_2113 ?_
        refine w_a f_420_2114 ?_
        exact h
    · refine w_a f_420_2115 ?_
      exact w_n (ks := [0, 1, 2, 3, 4]) rfl h
  · refine w_a f_420_2097 ?_
    refine w_a f_420_2098 ?_
    exact h
set_option maxRecDepth 10000 in
set_option maxHeartbeats 4000000 in
theorem s_420_2118 {Lx : Nat} {I : Mi} {L : Ml} {e : Nat} {Q : Kq} {x4 : Int32} (h :
    (inb (x4 + (Int32.ofInt 1)) Lx (
     (inb (x4 + (Int32.ofInt 2)) Lx (
      (if (I 0 ((x4 + (Int32.ofInt 2)).toNatClampNeg)) = 0 then
       (inb (x4 + (Int32.ofInt 3)) Lx (
        Wp 388 0 [(0, .ref 1), (1, .int (I 0 ((x4 + (Int32.ofInt 1)).toNatClampNeg))), (2, .int (Int32.ofInt 0)), (3, .int (I 0 ((x4 + (Int32.ofInt 3)).toNatClampNeg))), (4, .ref 70)] [] (gE Lx) I L e (kcp (Wp 420) 420 2146 0 [(0, .ref 0), (1, .ref 1), (2, .ref 58), (3, .ref 70), (4, .int x4)] 71 [] Q))
       False)
      else
       (inb (x4 + (Int32.ofInt 3)) Lx (
        Wp 388 0 [(0, .ref 1), (1, .int (I 0 ((x4 + (Int32.ofInt 1)).toNatClampNeg))), (2, .int (Int32.ofInt 1)), (3, .int (I 0 ((x4 + (Int32.ofInt 3)).toNatClampNeg))), (4, .ref 70)] [] (gE Lx) I L e (kcp (Wp 420) 420 2146 0 [(0, .ref 0), (1, .ref 1), (2, .ref 58), (3, .ref 70), (4, .int x4)] 71 [] Q))
       False)))
     False))
    False)) :
    Wp 420 2118 [(0, .ref 0), (1, .ref 1), (2, .ref 58), (3, .ref 70), (4, .int x4)] [] (gE Lx) I L e Q := by
  refine w_a f_420_2118 ?_
  refine w_a f_420_2119 ?_
  refine w_a f_420_2120 ?_
  refine w_a f_420_2122 ?_
  refine w_a f_420_2123 ?_
  refine w_a f_420_2124 ?_
  refine n_m (fun h => ?_) h
  refine w_a f_420_2125 ?_
  refine w_a f_420_2126 ?_
  refine w_a f_420_2128 ?_
  refine w_a f_420_2129 ?_
  refine w_a f_420_2130 ?_
  refine n_m (fun h => ?_) h
  refine w_a f_420_2131 ?_
  refine i_m (fun h => ?_) (fun h => ?_) h
  · refine w_a f_420_2138 ?_
    refine w_a f_420_2139 ?_
    refine w_a f_420_2140 ?_
    refine w_a f_420_2142 ?_
    refine w_a f_420_2143 ?_
    refine w_a f_420_2144 ?_
    refine n_m (fun h => ?_) h
    refine w_a f_420_2145 ?_
    exact w_c (ks := [0, 1, 2, 3, 4]) f_420_2146 rfl rfl h
  · refine w_a f_420_2134 ?_
    refine w_a f_420_2135 ?_
    refine w_a f_420_2139 ?_
    refine w_a f_420_2140 ?_
    refine w_a f_420_2142 ?_
    refine w_a f_420_2143 ?_
    refine w_a f_420_2144 ?_
    refine n_m (fun h => ?_) h
    refine w_a f_420_2145 ?_
    exact w_c (ks := [0, 1, 2, 3, 4]) f_420_2146 rfl rfl h
