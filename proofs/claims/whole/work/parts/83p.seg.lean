/-! Pieces of the law and of the calls that it makes, by program out of the tables. -/
theorem f_187_0 : ftc (PT 187) 0 = some (0, .aload_n 0, 1, 0, 0, 0) := by decide +kernel
theorem f_187_1 : ftc (PT 187) 1 = some (1, .iload_n 1, 1, 0, 0, 0) := by decide +kernel
theorem f_187_2 : ftc (PT 187) 2 = some (2, .iload_n 3, 1, 0, 0, 0) := by decide +kernel
theorem f_187_3 : ftc (PT 187) 3 = some (3, .iload 4, 2, 0, 0, 0) := by decide +kernel
theorem f_187_5 : ftc (PT 187) 5 = some (5, .iload 5, 2, 0, 0, 0) := by decide +kernel
theorem f_187_7 : ftc (PT 187) 7 = some (7, .iload 6, 2, 0, 0, 0) := by decide +kernel
theorem f_187_9 : ftc (PT 187) 9 = some (9, .invokevirtual 345, 3, 185, 6315, 1498) := by decide +kernel
theorem f_188_0 : ftc (PT 188) 0 = some (0, .aload_n 0, 1, 0, 0, 0) := by decide +kernel
theorem f_188_1 : ftc (PT 188) 1 = some (1, .iload_n 1, 1, 0, 0, 0) := by decide +kernel
theorem f_188_2 : ftc (PT 188) 2 = some (2, .invokevirtual 193, 3, 122, 2091, 951) := by decide +kernel
theorem f_188_5 : ftc (PT 188) 5 = some (5, .aload_n 0, 1, 0, 0, 0) := by decide +kernel
theorem f_188_6 : ftc (PT 188) 6 = some (6, .iload_n 3, 1, 0, 0, 0) := by decide +kernel
theorem f_188_7 : ftc (PT 188) 7 = some (7, .bipush 12, 2, 0, 0, 0) := by decide +kernel
theorem f_188_9 : ftc (PT 188) 9 = some (9, .invokevirtual 367, 3, 169, 3147, 1401) := by decide +kernel
theorem f_188_12 : ftc (PT 188) 12 = some (12, .iload 4, 2, 0, 0, 0) := by decide +kernel
theorem f_188_14 : ftc (PT 188) 14 = some (14, .ifCond .lt 23, 3, 37, 0, 0) := by decide +kernel
theorem f_188_17 : ftc (PT 188) 17 = some (17, .iload 4, 2, 0, 0, 0) := by decide +kernel
theorem f_188_19 : ftc (PT 188) 19 = some (19, .bipush 99, 2, 0, 0, 0) := by decide +kernel
theorem f_188_21 : ftc (PT 188) 21 = some (21, .if_icmp .gt 16, 3, 37, 0, 0) := by decide +kernel
theorem f_188_24 : ftc (PT 188) 24 = some (24, .iload 5, 2, 0, 0, 0) := by decide +kernel
theorem f_188_26 : ftc (PT 188) 26 = some (26, .iconst 1, 1, 0, 0, 0) := by decide +kernel
theorem f_188_27 : ftc (PT 188) 27 = some (27, .if_icmp .lt 10, 3, 37, 0, 0) := by decide +kernel
theorem f_188_30 : ftc (PT 188) 30 = some (30, .iload 5, 2, 0, 0, 0) := by decide +kernel
theorem f_188_32 : ftc (PT 188) 32 = some (32, .bipush 20, 2, 0, 0, 0) := by decide +kernel
theorem f_188_34 : ftc (PT 188) 34 = some (34, .if_icmp .le 11, 3, 45, 0, 0) := by decide +kernel
theorem f_188_37 : ftc (PT 188) 37 = some (37, .new 116, 3, 101, 6, 770) := by decide +kernel
theorem f_188_45 : ftc (PT 188) 45 = some (45, .aload_n 0, 1, 0, 0, 0) := by decide +kernel
theorem f_188_46 : ftc (PT 188) 46 = some (46, .iload_n 1, 1, 0, 0, 0) := by decide +kernel
theorem f_188_47 : ftc (PT 188) 47 = some (47, .iload_n 2, 1, 0, 0, 0) := by decide +kernel
theorem f_188_48 : ftc (PT 188) 48 = some (48, .invokevirtual 305, 3, 148, 3147, 1215) := by decide +kernel
theorem f_190_0 : ftc (PT 190) 0 = some (0, .aload_n 0, 1, 0, 0, 0) := by decide +kernel
theorem f_190_1 : ftc (PT 190) 1 = some (1, .iload_n 1, 1, 0, 0, 0) := by decide +kernel
theorem f_190_2 : ftc (PT 190) 2 = some (2, .invokevirtual 193, 3, 122, 2091, 951) := by decide +kernel
theorem f_190_5 : ftc (PT 190) 5 = some (5, .aload_n 0, 1, 0, 0, 0) := by decide +kernel
theorem f_190_6 : ftc (PT 190) 6 = some (6, .iload 5, 2, 0, 0, 0) := by decide +kernel
theorem f_190_8 : ftc (PT 190) 8 = some (8, .iconst 3, 1, 0, 0, 0) := by decide +kernel
theorem f_190_9 : ftc (PT 190) 9 = some (9, .invokevirtual 143, 3, 120, 3147, 925) := by decide +kernel
theorem f_190_12 : ftc (PT 190) 12 = some (12, .aload_n 0, 1, 0, 0, 0) := by decide +kernel
theorem f_190_13 : ftc (PT 190) 13 = some (13, .iload_n 3, 1, 0, 0, 0) := by decide +kernel
theorem f_190_14 : ftc (PT 190) 14 = some (14, .bipush 12, 2, 0, 0, 0) := by decide +kernel
theorem f_190_16 : ftc (PT 190) 16 = some (16, .invokevirtual 367, 3, 169, 3147, 1401) := by decide +kernel
theorem f_190_19 : ftc (PT 190) 19 = some (19, .aload_n 0, 1, 0, 0, 0) := by decide +kernel
theorem f_190_20 : ftc (PT 190) 20 = some (20, .iload_n 1, 1, 0, 0, 0) := by decide +kernel
theorem f_190_21 : ftc (PT 190) 21 = some (21, .iload_n 2, 1, 0, 0, 0) := by decide +kernel
theorem f_190_22 : ftc (PT 190) 22 = some (22, .invokevirtual 305, 3, 148, 3147, 1215) := by decide +kernel
theorem f_192_0 : ftc (PT 192) 0 = some (0, .aload_n 0, 1, 0, 0, 0) := by decide +kernel
theorem f_192_1 : ftc (PT 192) 1 = some (1, .iload_n 1, 1, 0, 0, 0) := by decide +kernel
theorem f_192_2 : ftc (PT 192) 2 = some (2, .invokevirtual 193, 3, 122, 2091, 951) := by decide +kernel
theorem f_192_5 : ftc (PT 192) 5 = some (5, .aload_n 0, 1, 0, 0, 0) := by decide +kernel
theorem f_192_6 : ftc (PT 192) 6 = some (6, .iload 5, 2, 0, 0, 0) := by decide +kernel
theorem f_192_8 : ftc (PT 192) 8 = some (8, .iconst 2, 1, 0, 0, 0) := by decide +kernel
theorem f_192_9 : ftc (PT 192) 9 = some (9, .invokevirtual 143, 3, 120, 3147, 925) := by decide +kernel
theorem f_192_12 : ftc (PT 192) 12 = some (12, .aload_n 0, 1, 0, 0, 0) := by decide +kernel
theorem f_192_13 : ftc (PT 192) 13 = some (13, .iload_n 2, 1, 0, 0, 0) := by decide +kernel
theorem f_192_14 : ftc (PT 192) 14 = some (14, .iload_n 3, 1, 0, 0, 0) := by decide +kernel
theorem f_192_15 : ftc (PT 192) 15 = some (15, .invokevirtual 123, 3, 113, 3147, 843) := by decide +kernel
theorem f_194_0 : ftc (PT 194) 0 = some (0, .aload_n 0, 1, 0, 0, 0) := by decide +kernel
theorem f_194_1 : ftc (PT 194) 1 = some (1, .iload_n 2, 1, 0, 0, 0) := by decide +kernel
theorem f_194_2 : ftc (PT 194) 2 = some (2, .iconst 3, 1, 0, 0, 0) := by decide +kernel
theorem f_194_3 : ftc (PT 194) 3 = some (3, .invokevirtual 143, 3, 120, 3147, 925) := by decide +kernel
theorem f_194_6 : ftc (PT 194) 6 = some (6, .iload_n 1, 1, 0, 0, 0) := by decide +kernel
theorem f_194_7 : ftc (PT 194) 7 = some (7, .iconst 2, 1, 0, 0, 0) := by decide +kernel
theorem f_194_8 : ftc (PT 194) 8 = some (8, .if_icmp .lt 8, 3, 16, 0, 0) := by decide +kernel
theorem f_194_11 : ftc (PT 194) 11 = some (11, .iload_n 1, 1, 0, 0, 0) := by decide +kernel
theorem f_194_12 : ftc (PT 194) 12 = some (12, .iconst 3, 1, 0, 0, 0) := by decide +kernel
theorem f_194_13 : ftc (PT 194) 13 = some (13, .if_icmp .le 11, 3, 24, 0, 0) := by decide +kernel
theorem f_194_16 : ftc (PT 194) 16 = some (16, .new 116, 3, 101, 6, 770) := by decide +kernel
theorem f_194_24 : ftc (PT 194) 24 = some (24, .aload_n 0, 1, 0, 0, 0) := by decide +kernel
theorem f_194_25 : ftc (PT 194) 25 = some (25, .getfield 19, 3, 11, 1, 469) := by decide +kernel
theorem f_194_28 : ftc (PT 194) 28 = some (28, .getfield 127, 3, 2, 3, 221) := by decide +kernel
theorem f_194_31 : ftc (PT 194) 31 = some (31, .iconst 4, 1, 0, 0, 0) := by decide +kernel
theorem f_194_32 : ftc (PT 194) 32 = some (32, .if_icmp .lt 11, 3, 43, 0, 0) := by decide +kernel
theorem f_194_35 : ftc (PT 194) 35 = some (35, .new 130, 3, 102, 6, 853) := by decide +kernel
theorem f_194_43 : ftc (PT 194) 43 = some (43, .aload_n 0, 1, 0, 0, 0) := by decide +kernel
theorem f_194_44 : ftc (PT 194) 44 = some (44, .iload_n 1, 1, 0, 0, 0) := by decide +kernel
theorem f_194_45 : ftc (PT 194) 45 = some (45, .invokevirtual 412, 3, 195, 3115, 1555) := by decide +kernel
theorem f_197_0 : ftc (PT 197) 0 = some (0, .aload_n 0, 1, 0, 0, 0) := by decide +kernel
theorem f_197_1 : ftc (PT 197) 1 = some (1, .iload_n 1, 1, 0, 0, 0) := by decide +kernel
theorem f_197_2 : ftc (PT 197) 2 = some (2, .iconst 1, 1, 0, 0, 0) := by decide +kernel
theorem f_197_3 : ftc (PT 197) 3 = some (3, .invokevirtual 143, 3, 120, 3147, 925) := by decide +kernel
theorem f_197_6 : ftc (PT 197) 6 = some (6, .aload_n 0, 1, 0, 0, 0) := by decide +kernel
theorem f_197_7 : ftc (PT 197) 7 = some (7, .invokevirtual 424, 3, 198, 1035, 1570) := by decide +kernel
theorem f_198_0 : ftc (PT 198) 0 = some (0, .aload_n 0, 1, 0, 0, 0) := by decide +kernel
theorem f_198_1 : ftc (PT 198) 1 = some (1, .getfield 19, 3, 11, 1, 469) := by decide +kernel
theorem f_198_4 : ftc (PT 198) 4 = some (4, .aload_n 0, 1, 0, 0, 0) := by decide +kernel
theorem f_198_5 : ftc (PT 198) 5 = some (5, .getfield 19, 3, 11, 1, 469) := by decide +kernel
theorem f_198_8 : ftc (PT 198) 8 = some (8, .getfield 127, 3, 2, 3, 221) := by decide +kernel
theorem f_198_11 : ftc (PT 198) 11 = some (11, .aload_n 0, 1, 0, 0, 0) := by decide +kernel
theorem f_198_12 : ftc (PT 198) 12 = some (12, .getfield 42, 3, 11, 6, 474) := by decide +kernel
theorem f_198_15 : ftc (PT 198) 15 = some (15, .invokestatic 196, 3, 106, 4099, 739) := by decide +kernel
theorem f_201_0 : ftc (PT 201) 0 = some (0, .aload_n 0, 1, 0, 0, 0) := by decide +kernel
theorem f_201_1 : ftc (PT 201) 1 = some (1, .iload_n 1, 1, 0, 0, 0) := by decide +kernel
theorem f_201_2 : ftc (PT 201) 2 = some (2, .iconst 2, 1, 0, 0, 0) := by decide +kernel
theorem f_201_3 : ftc (PT 201) 3 = some (3, .invokevirtual 143, 3, 120, 3147, 925) := by decide +kernel
theorem f_201_6 : ftc (PT 201) 6 = some (6, .aload_n 0, 1, 0, 0, 0) := by decide +kernel
theorem f_201_7 : ftc (PT 201) 7 = some (7, .getfield 90, 3, 11, 14, 482) := by decide +kernel
theorem f_201_10 : ftc (PT 201) 10 = some (10, .aload_n 0, 1, 0, 0, 0) := by decide +kernel
theorem f_201_11 : ftc (PT 201) 11 = some (11, .getfield 19, 3, 11, 1, 469) := by decide +kernel
theorem f_201_14 : ftc (PT 201) 14 = some (14, .invokevirtual 434, 3, 65, 7208, 694) := by decide +kernel
theorem f_212_0 : ftc (PT 212) 0 = some (0, .aload_n 0, 1, 0, 0, 0) := by decide +kernel
theorem f_212_1 : ftc (PT 212) 1 = some (1, .getfield 55, 3, 12, 0, 1633) := by decide +kernel
theorem f_212_4 : ftc (PT 212) 4 = some (4, .ireturn, 1, 0, 0, 0) := by decide +kernel
theorem f_406_0 : ftc (PT 406) 0 = some (0, .aload 10, 2, 0, 0, 0) := by decide +kernel
theorem f_406_2 : ftc (PT 406) 2 = some (2, .iconst 0, 1, 0, 0, 0) := by decide +kernel
theorem f_406_3 : ftc (PT 406) 3 = some (3, .aload_n 0, 1, 0, 0, 0) := by decide +kernel
theorem f_406_4 : ftc (PT 406) 4 = some (4, .iload_n 1, 1, 0, 0, 0) := by decide +kernel
theorem f_406_5 : ftc (PT 406) 5 = some (5, .iload_n 2, 1, 0, 0, 0) := by decide +kernel
theorem f_406_6 : ftc (PT 406) 6 = some (6, .iload_n 3, 1, 0, 0, 0) := by decide +kernel
theorem f_406_7 : ftc (PT 406) 7 = some (7, .iload 4, 2, 0, 0, 0) := by decide +kernel
theorem f_406_9 : ftc (PT 406) 9 = some (9, .iload 5, 2, 0, 0, 0) := by decide +kernel
theorem f_406_11 : ftc (PT 406) 11 = some (11, .iload 6, 2, 0, 0, 0) := by decide +kernel
theorem f_406_13 : ftc (PT 406) 13 = some (13, .iload 7, 2, 0, 0, 0) := by decide +kernel
theorem f_406_15 : ftc (PT 406) 15 = some (15, .iload 8, 2, 0, 0, 0) := by decide +kernel
theorem f_406_17 : ftc (PT 406) 17 = some (17, .iload 9, 2, 0, 0, 0) := by decide +kernel
theorem f_406_19 : ftc (PT 406) 19 = some (19, .invokevirtual 159, 3, 187, 10539, 1510) := by decide +kernel
theorem f_407_0 : ftc (PT 407) 0 = some (0, .aload 6, 2, 0, 0, 0) := by decide +kernel
theorem f_407_2 : ftc (PT 407) 2 = some (2, .iconst 0, 1, 0, 0, 0) := by decide +kernel
theorem f_407_3 : ftc (PT 407) 3 = some (3, .aload_n 0, 1, 0, 0, 0) := by decide +kernel
theorem f_407_4 : ftc (PT 407) 4 = some (4, .iload_n 1, 1, 0, 0, 0) := by decide +kernel
theorem f_407_5 : ftc (PT 407) 5 = some (5, .iload_n 2, 1, 0, 0, 0) := by decide +kernel
theorem f_407_6 : ftc (PT 407) 6 = some (6, .iload_n 3, 1, 0, 0, 0) := by decide +kernel
theorem f_407_7 : ftc (PT 407) 7 = some (7, .iload 4, 2, 0, 0, 0) := by decide +kernel
theorem f_407_9 : ftc (PT 407) 9 = some (9, .iload 5, 2, 0, 0, 0) := by decide +kernel
theorem f_407_11 : ftc (PT 407) 11 = some (11, .invokevirtual 163, 3, 188, 6315, 1517) := by decide +kernel
theorem f_408_0 : ftc (PT 408) 0 = some (0, .aload 6, 2, 0, 0, 0) := by decide +kernel
theorem f_408_2 : ftc (PT 408) 2 = some (2, .iconst 0, 1, 0, 0, 0) := by decide +kernel
theorem f_408_3 : ftc (PT 408) 3 = some (3, .aload_n 0, 1, 0, 0, 0) := by decide +kernel
theorem f_408_4 : ftc (PT 408) 4 = some (4, .iload_n 1, 1, 0, 0, 0) := by decide +kernel
theorem f_408_5 : ftc (PT 408) 5 = some (5, .iload_n 2, 1, 0, 0, 0) := by decide +kernel
theorem f_408_6 : ftc (PT 408) 6 = some (6, .iload_n 3, 1, 0, 0, 0) := by decide +kernel
theorem f_408_7 : ftc (PT 408) 7 = some (7, .iload 4, 2, 0, 0, 0) := by decide +kernel
theorem f_408_9 : ftc (PT 408) 9 = some (9, .iload 5, 2, 0, 0, 0) := by decide +kernel
theorem f_408_11 : ftc (PT 408) 11 = some (11, .invokevirtual 166, 3, 190, 6315, 1528) := by decide +kernel
theorem f_409_0 : ftc (PT 409) 0 = some (0, .aload 6, 2, 0, 0, 0) := by decide +kernel
theorem f_409_2 : ftc (PT 409) 2 = some (2, .iconst 0, 1, 0, 0, 0) := by decide +kernel
theorem f_409_3 : ftc (PT 409) 3 = some (3, .aload_n 0, 1, 0, 0, 0) := by decide +kernel
theorem f_409_4 : ftc (PT 409) 4 = some (4, .iload_n 1, 1, 0, 0, 0) := by decide +kernel
theorem f_409_5 : ftc (PT 409) 5 = some (5, .iload_n 2, 1, 0, 0, 0) := by decide +kernel
theorem f_409_6 : ftc (PT 409) 6 = some (6, .iload_n 3, 1, 0, 0, 0) := by decide +kernel
theorem f_409_7 : ftc (PT 409) 7 = some (7, .iload 4, 2, 0, 0, 0) := by decide +kernel
theorem f_409_9 : ftc (PT 409) 9 = some (9, .iload 5, 2, 0, 0, 0) := by decide +kernel
theorem f_409_11 : ftc (PT 409) 11 = some (11, .invokevirtual 170, 3, 192, 6315, 1540) := by decide +kernel
theorem f_410_0 : ftc (PT 410) 0 = some (0, .aload_n 3, 1, 0, 0, 0) := by decide +kernel
theorem f_410_1 : ftc (PT 410) 1 = some (1, .iconst 0, 1, 0, 0, 0) := by decide +kernel
theorem f_410_2 : ftc (PT 410) 2 = some (2, .aload_n 0, 1, 0, 0, 0) := by decide +kernel
theorem f_410_3 : ftc (PT 410) 3 = some (3, .iload_n 1, 1, 0, 0, 0) := by decide +kernel
theorem f_410_4 : ftc (PT 410) 4 = some (4, .iload_n 2, 1, 0, 0, 0) := by decide +kernel
theorem f_410_5 : ftc (PT 410) 5 = some (5, .invokevirtual 174, 3, 194, 3147, 1551) := by decide +kernel
theorem f_411_0 : ftc (PT 411) 0 = some (0, .aload_n 2, 1, 0, 0, 0) := by decide +kernel
theorem f_411_1 : ftc (PT 411) 1 = some (1, .iconst 0, 1, 0, 0, 0) := by decide +kernel
theorem f_411_2 : ftc (PT 411) 2 = some (2, .aload_n 0, 1, 0, 0, 0) := by decide +kernel
theorem f_411_3 : ftc (PT 411) 3 = some (3, .iload_n 1, 1, 0, 0, 0) := by decide +kernel
theorem f_411_4 : ftc (PT 411) 4 = some (4, .invokevirtual 177, 3, 197, 7211, 1566) := by decide +kernel
theorem f_412_0 : ftc (PT 412) 0 = some (0, .aload_n 2, 1, 0, 0, 0) := by decide +kernel
theorem f_412_1 : ftc (PT 412) 1 = some (1, .iconst 0, 1, 0, 0, 0) := by decide +kernel
theorem f_412_2 : ftc (PT 412) 2 = some (2, .aload_n 0, 1, 0, 0, 0) := by decide +kernel
theorem f_412_3 : ftc (PT 412) 3 = some (3, .iload_n 1, 1, 0, 0, 0) := by decide +kernel
theorem f_412_4 : ftc (PT 412) 4 = some (4, .invokevirtual 181, 3, 201, 2091, 1586) := by decide +kernel
theorem f_419_23 : ftc (PT 419) 23 = some (23, .iload 4, 2, 0, 0, 0) := by decide +kernel
theorem f_419_25 : ftc (PT 419) 25 = some (25, .aload_n 0, 1, 0, 0, 0) := by decide +kernel
theorem f_419_26 : ftc (PT 419) 26 = some (26, .arraylength, 1, 0, 0, 0) := by decide +kernel
theorem f_419_27 : ftc (PT 419) 27 = some (27, .bipush 10, 2, 0, 0, 0) := by decide +kernel
theorem f_419_29 : ftc (PT 419) 29 = some (29, .isub, 1, 0, 0, 0) := by decide +kernel
theorem f_419_30 : ftc (PT 419) 30 = some (30, .if_icmp .gt 4893, 3, 4923, 0, 0) := by decide +kernel
theorem f_419_33 : ftc (PT 419) 33 = some (33, .aload_n 0, 1, 0, 0, 0) := by decide +kernel
theorem f_419_34 : ftc (PT 419) 34 = some (34, .iload 4, 2, 0, 0, 0) := by decide +kernel
theorem f_419_36 : ftc (PT 419) 36 = some (36, .iaload, 1, 0, 0, 0) := by decide +kernel
theorem f_419_37 : ftc (PT 419) 37 = some (37, .bipush 63, 2, 0, 0, 0) := by decide +kernel
theorem f_419_39 : ftc (PT 419) 39 = some (39, .iand, 1, 0, 0, 0) := by decide +kernel
theorem f_419_40 : ftc (PT 419) 40 = some (40, .tableswitch 4877 0 52 #[228, 289, 369, 413, 474, 523, 591, 702, 765, 848, 932, 1023, 1119, 1227, 1347, 1439, 1523, 1626, 1749, 1844, 1967, 2078, 2174, 2286, 2397, 2493, 2601, 2780, 2916, 3036, 3120, 3271, 3382, 3465, 3528, 3608, 3676, 3701, 3769, 3903, 4110, 4230, 4365, 4485, 4553, 4578, 4591, 4647, 4660, 4715, 4771, 4827, 4852], 228, 0, 0, 0) := by decide +kernel
theorem f_419_268 : ftc (PT 419) 268 = some (268, .aload_n 1, 1, 0, 0, 0) := by decide +kernel
theorem f_419_269 : ftc (PT 419) 269 = some (269, .aload_n 0, 1, 0, 0, 0) := by decide +kernel
theorem f_419_270 : ftc (PT 419) 270 = some (270, .iload 4, 2, 0, 0, 0) := by decide +kernel
theorem f_419_272 : ftc (PT 419) 272 = some (272, .iconst 1, 1, 0, 0, 0) := by decide +kernel
theorem f_419_273 : ftc (PT 419) 273 = some (273, .iadd, 1, 0, 0, 0) := by decide +kernel
theorem f_419_274 : ftc (PT 419) 274 = some (274, .iaload, 1, 0, 0, 0) := by decide +kernel
theorem f_419_275 : ftc (PT 419) 275 = some (275, .aload_n 0, 1, 0, 0, 0) := by decide +kernel
theorem f_419_276 : ftc (PT 419) 276 = some (276, .iload 4, 2, 0, 0, 0) := by decide +kernel
theorem f_419_278 : ftc (PT 419) 278 = some (278, .iconst 2, 1, 0, 0, 0) := by decide +kernel
theorem f_419_279 : ftc (PT 419) 279 = some (279, .iadd, 1, 0, 0, 0) := by decide +kernel
theorem f_419_280 : ftc (PT 419) 280 = some (280, .iaload, 1, 0, 0, 0) := by decide +kernel
theorem f_419_281 : ftc (PT 419) 281 = some (281, .aload_n 0, 1, 0, 0, 0) := by decide +kernel
theorem f_419_282 : ftc (PT 419) 282 = some (282, .iload 4, 2, 0, 0, 0) := by decide +kernel
theorem f_419_284 : ftc (PT 419) 284 = some (284, .iconst 3, 1, 0, 0, 0) := by decide +kernel
theorem f_419_285 : ftc (PT 419) 285 = some (285, .iadd, 1, 0, 0, 0) := by decide +kernel
theorem f_419_286 : ftc (PT 419) 286 = some (286, .iaload, 1, 0, 0, 0) := by decide +kernel
theorem f_419_287 : ftc (PT 419) 287 = some (287, .invokestatic 195, 3, 367, 5124, 759) := by decide +kernel
theorem f_419_290 : ftc (PT 419) 290 = some (290, .istore 5, 2, 0, 0, 0) := by decide +kernel
theorem f_419_292 : ftc (PT 419) 292 = some (292, .aload_n 2, 1, 0, 0, 0) := by decide +kernel
theorem f_419_293 : ftc (PT 419) 293 = some (293, .aload_n 0, 1, 0, 0, 0) := by decide +kernel
theorem f_419_294 : ftc (PT 419) 294 = some (294, .iload 4, 2, 0, 0, 0) := by decide +kernel
theorem f_419_296 : ftc (PT 419) 296 = some (296, .iconst 1, 1, 0, 0, 0) := by decide +kernel
theorem f_419_297 : ftc (PT 419) 297 = some (297, .iadd, 1, 0, 0, 0) := by decide +kernel
theorem f_419_298 : ftc (PT 419) 298 = some (298, .iaload, 1, 0, 0, 0) := by decide +kernel
theorem f_419_299 : ftc (PT 419) 299 = some (299, .aload_n 0, 1, 0, 0, 0) := by decide +kernel
theorem f_419_300 : ftc (PT 419) 300 = some (300, .iload 4, 2, 0, 0, 0) := by decide +kernel
theorem f_419_302 : ftc (PT 419) 302 = some (302, .iconst 2, 1, 0, 0, 0) := by decide +kernel
theorem f_419_303 : ftc (PT 419) 303 = some (303, .iadd, 1, 0, 0, 0) := by decide +kernel
theorem f_419_304 : ftc (PT 419) 304 = some (304, .iaload, 1, 0, 0, 0) := by decide +kernel
theorem f_419_305 : ftc (PT 419) 305 = some (305, .aload_n 0, 1, 0, 0, 0) := by decide +kernel
theorem f_419_306 : ftc (PT 419) 306 = some (306, .iload 4, 2, 0, 0, 0) := by decide +kernel
theorem f_419_308 : ftc (PT 419) 308 = some (308, .iconst 3, 1, 0, 0, 0) := by decide +kernel
theorem f_419_309 : ftc (PT 419) 309 = some (309, .iadd, 1, 0, 0, 0) := by decide +kernel
theorem f_419_310 : ftc (PT 419) 310 = some (310, .iaload, 1, 0, 0, 0) := by decide +kernel
theorem f_419_311 : ftc (PT 419) 311 = some (311, .invokevirtual 200, 3, 213, 4204, 1770) := by decide +kernel
theorem f_419_314 : ftc (PT 419) 314 = some (314, .pop, 1, 0, 0, 0) := by decide +kernel
theorem f_419_315 : ftc (PT 419) 315 = some (315, .aload_n 2, 1, 0, 0, 0) := by decide +kernel
theorem f_419_316 : ftc (PT 419) 316 = some (316, .invokevirtual 202, 3, 212, 1036, 1766) := by decide +kernel
theorem f_419_319 : ftc (PT 419) 319 = some (319, .iload 5, 2, 0, 0, 0) := by decide +kernel
theorem f_419_321 : ftc (PT 419) 321 = some (321, .if_icmp .eq 5, 3, 326, 0, 0) := by decide +kernel
theorem f_419_324 : ftc (PT 419) 324 = some (324, .iconst 0, 1, 0, 0, 0) := by decide +kernel
theorem f_419_325 : ftc (PT 419) 325 = some (325, .ireturn, 1, 1, 0, 0) := by decide +kernel
theorem f_419_326 : ftc (PT 419) 326 = some (326, .goto 4591, 3, 4917, 0, 0) := by decide +kernel
theorem f_419_329 : ftc (PT 419) 329 = some (329, .aload_n 1, 1, 0, 0, 0) := by decide +kernel
theorem f_419_330 : ftc (PT 419) 330 = some (330, .aload_n 0, 1, 0, 0, 0) := by decide +kernel
theorem f_419_331 : ftc (PT 419) 331 = some (331, .iload 4, 2, 0, 0, 0) := by decide +kernel
theorem f_419_333 : ftc (PT 419) 333 = some (333, .iconst 1, 1, 0, 0, 0) := by decide +kernel
theorem f_419_334 : ftc (PT 419) 334 = some (334, .iadd, 1, 0, 0, 0) := by decide +kernel
theorem f_419_335 : ftc (PT 419) 335 = some (335, .iaload, 1, 0, 0, 0) := by decide +kernel
theorem f_419_336 : ftc (PT 419) 336 = some (336, .aload_n 0, 1, 0, 0, 0) := by decide +kernel
theorem f_419_337 : ftc (PT 419) 337 = some (337, .iload 4, 2, 0, 0, 0) := by decide +kernel
theorem f_419_339 : ftc (PT 419) 339 = some (339, .iconst 2, 1, 0, 0, 0) := by decide +kernel
theorem f_419_340 : ftc (PT 419) 340 = some (340, .iadd, 1, 0, 0, 0) := by decide +kernel
theorem f_419_341 : ftc (PT 419) 341 = some (341, .iaload, 1, 0, 0, 0) := by decide +kernel
theorem f_419_342 : ftc (PT 419) 342 = some (342, .aload_n 0, 1, 0, 0, 0) := by decide +kernel
theorem f_419_343 : ftc (PT 419) 343 = some (343, .iload 4, 2, 0, 0, 0) := by decide +kernel
theorem f_419_345 : ftc (PT 419) 345 = some (345, .iconst 3, 1, 0, 0, 0) := by decide +kernel
theorem f_419_346 : ftc (PT 419) 346 = some (346, .iadd, 1, 0, 0, 0) := by decide +kernel
theorem f_419_347 : ftc (PT 419) 347 = some (347, .iaload, 1, 0, 0, 0) := by decide +kernel
theorem f_419_348 : ftc (PT 419) 348 = some (348, .aload_n 3, 1, 0, 0, 0) := by decide +kernel
theorem f_419_349 : ftc (PT 419) 349 = some (349, .invokestatic 205, 3, 368, 6149, 835) := by decide +kernel
theorem f_419_352 : ftc (PT 419) 352 = some (352, .istore 5, 2, 0, 0, 0) := by decide +kernel
theorem f_419_354 : ftc (PT 419) 354 = some (354, .aload_n 2, 1, 0, 0, 0) := by decide +kernel
theorem f_419_355 : ftc (PT 419) 355 = some (355, .aload_n 0, 1, 0, 0, 0) := by decide +kernel
theorem f_419_356 : ftc (PT 419) 356 = some (356, .iload 4, 2, 0, 0, 0) := by decide +kernel
theorem f_419_358 : ftc (PT 419) 358 = some (358, .iconst 1, 1, 0, 0, 0) := by decide +kernel
theorem f_419_359 : ftc (PT 419) 359 = some (359, .iadd, 1, 0, 0, 0) := by decide +kernel
theorem f_419_360 : ftc (PT 419) 360 = some (360, .iaload, 1, 0, 0, 0) := by decide +kernel
theorem f_419_361 : ftc (PT 419) 361 = some (361, .aload_n 0, 1, 0, 0, 0) := by decide +kernel
theorem f_419_362 : ftc (PT 419) 362 = some (362, .iload 4, 2, 0, 0, 0) := by decide +kernel
theorem f_419_364 : ftc (PT 419) 364 = some (364, .iconst 2, 1, 0, 0, 0) := by decide +kernel
theorem f_419_365 : ftc (PT 419) 365 = some (365, .iadd, 1, 0, 0, 0) := by decide +kernel
theorem f_419_366 : ftc (PT 419) 366 = some (366, .iaload, 1, 0, 0, 0) := by decide +kernel
theorem f_419_367 : ftc (PT 419) 367 = some (367, .aload_n 0, 1, 0, 0, 0) := by decide +kernel
theorem f_419_368 : ftc (PT 419) 368 = some (368, .iload 4, 2, 0, 0, 0) := by decide +kernel
theorem f_419_370 : ftc (PT 419) 370 = some (370, .iconst 3, 1, 0, 0, 0) := by decide +kernel
theorem f_419_371 : ftc (PT 419) 371 = some (371, .iadd, 1, 0, 0, 0) := by decide +kernel
theorem f_419_372 : ftc (PT 419) 372 = some (372, .iaload, 1, 0, 0, 0) := by decide +kernel
theorem f_419_373 : ftc (PT 419) 373 = some (373, .invokevirtual 208, 3, 214, 4204, 1774) := by decide +kernel
theorem f_419_376 : ftc (PT 419) 376 = some (376, .istore 6, 2, 0, 0, 0) := by decide +kernel
theorem f_419_378 : ftc (PT 419) 378 = some (378, .aload_n 2, 1, 0, 0, 0) := by decide +kernel
theorem f_419_379 : ftc (PT 419) 379 = some (379, .invokevirtual 202, 3, 212, 1036, 1766) := by decide +kernel
theorem f_419_382 : ftc (PT 419) 382 = some (382, .iload 5, 2, 0, 0, 0) := by decide +kernel
theorem f_419_384 : ftc (PT 419) 384 = some (384, .if_icmp .eq 5, 3, 389, 0, 0) := by decide +kernel
theorem f_419_387 : ftc (PT 419) 387 = some (387, .iconst 0, 1, 0, 0, 0) := by decide +kernel
theorem f_419_388 : ftc (PT 419) 388 = some (388, .ireturn, 1, 1, 0, 0) := by decide +kernel
theorem f_419_389 : ftc (PT 419) 389 = some (389, .iload 5, 2, 0, 0, 0) := by decide +kernel
theorem f_419_391 : ftc (PT 419) 391 = some (391, .ifCond .ne 15, 3, 406, 0, 0) := by decide +kernel
theorem f_419_394 : ftc (PT 419) 394 = some (394, .aload_n 3, 1, 0, 0, 0) := by decide +kernel
theorem f_419_395 : ftc (PT 419) 395 = some (395, .iconst 0, 1, 0, 0, 0) := by decide +kernel
theorem f_419_396 : ftc (PT 419) 396 = some (396, .laload, 1, 0, 0, 0) := by decide +kernel
theorem f_419_397 : ftc (PT 419) 397 = some (397, .iload 6, 2, 0, 0, 0) := by decide +kernel
theorem f_419_399 : ftc (PT 419) 399 = some (399, .i2l, 1, 0, 0, 0) := by decide +kernel
theorem f_419_400 : ftc (PT 419) 400 = some (400, .lcmp, 1, 0, 0, 0) := by decide +kernel
theorem f_419_401 : ftc (PT 419) 401 = some (401, .ifCond .eq 5, 3, 406, 0, 0) := by decide +kernel
theorem f_419_404 : ftc (PT 419) 404 = some (404, .iconst 0, 1, 0, 0, 0) := by decide +kernel
theorem f_419_405 : ftc (PT 419) 405 = some (405, .ireturn, 1, 1, 0, 0) := by decide +kernel
theorem f_419_406 : ftc (PT 419) 406 = some (406, .goto 4511, 3, 4917, 0, 0) := by decide +kernel
theorem f_419_409 : ftc (PT 419) 409 = some (409, .aload_n 1, 1, 0, 0, 0) := by decide +kernel
theorem f_419_410 : ftc (PT 419) 410 = some (410, .aload_n 3, 1, 0, 0, 0) := by decide +kernel
theorem f_419_411 : ftc (PT 419) 411 = some (411, .invokestatic 209, 3, 369, 3074, 872) := by decide +kernel
theorem f_419_414 : ftc (PT 419) 414 = some (414, .istore 5, 2, 0, 0, 0) := by decide +kernel
theorem f_419_416 : ftc (PT 419) 416 = some (416, .aload_n 2, 1, 0, 0, 0) := by decide +kernel
theorem f_419_417 : ftc (PT 419) 417 = some (417, .invokevirtual 212, 3, 217, 1036, 1786) := by decide +kernel
theorem f_419_420 : ftc (PT 419) 420 = some (420, .istore 6, 2, 0, 0, 0) := by decide +kernel
theorem f_419_422 : ftc (PT 419) 422 = some (422, .aload_n 2, 1, 0, 0, 0) := by decide +kernel
theorem f_419_423 : ftc (PT 419) 423 = some (423, .invokevirtual 202, 3, 212, 1036, 1766) := by decide +kernel
theorem f_419_426 : ftc (PT 419) 426 = some (426, .iload 5, 2, 0, 0, 0) := by decide +kernel
theorem f_419_428 : ftc (PT 419) 428 = some (428, .if_icmp .eq 5, 3, 433, 0, 0) := by decide +kernel
theorem f_419_431 : ftc (PT 419) 431 = some (431, .iconst 0, 1, 0, 0, 0) := by decide +kernel
theorem f_419_432 : ftc (PT 419) 432 = some (432, .ireturn, 1, 1, 0, 0) := by decide +kernel
theorem f_419_433 : ftc (PT 419) 433 = some (433, .iload 5, 2, 0, 0, 0) := by decide +kernel
theorem f_419_435 : ftc (PT 419) 435 = some (435, .ifCond .ne 15, 3, 450, 0, 0) := by decide +kernel
theorem f_419_438 : ftc (PT 419) 438 = some (438, .aload_n 3, 1, 0, 0, 0) := by decide +kernel
theorem f_419_439 : ftc (PT 419) 439 = some (439, .iconst 0, 1, 0, 0, 0) := by decide +kernel
theorem f_419_440 : ftc (PT 419) 440 = some (440, .laload, 1, 0, 0, 0) := by decide +kernel
theorem f_419_441 : ftc (PT 419) 441 = some (441, .iload 6, 2, 0, 0, 0) := by decide +kernel
theorem f_419_443 : ftc (PT 419) 443 = some (443, .i2l, 1, 0, 0, 0) := by decide +kernel
theorem f_419_444 : ftc (PT 419) 444 = some (444, .lcmp, 1, 0, 0, 0) := by decide +kernel
theorem f_419_445 : ftc (PT 419) 445 = some (445, .ifCond .eq 5, 3, 450, 0, 0) := by decide +kernel
theorem f_419_448 : ftc (PT 419) 448 = some (448, .iconst 0, 1, 0, 0, 0) := by decide +kernel
theorem f_419_449 : ftc (PT 419) 449 = some (449, .ireturn, 1, 1, 0, 0) := by decide +kernel
theorem f_419_450 : ftc (PT 419) 450 = some (450, .goto 4467, 3, 4917, 0, 0) := by decide +kernel
theorem f_419_453 : ftc (PT 419) 453 = some (453, .aload_n 1, 1, 0, 0, 0) := by decide +kernel
theorem f_419_454 : ftc (PT 419) 454 = some (454, .aload_n 0, 1, 0, 0, 0) := by decide +kernel
theorem f_419_455 : ftc (PT 419) 455 = some (455, .iload 4, 2, 0, 0, 0) := by decide +kernel
theorem f_419_457 : ftc (PT 419) 457 = some (457, .iconst 1, 1, 0, 0, 0) := by decide +kernel
theorem f_419_458 : ftc (PT 419) 458 = some (458, .iadd, 1, 0, 0, 0) := by decide +kernel
theorem f_419_459 : ftc (PT 419) 459 = some (459, .iaload, 1, 0, 0, 0) := by decide +kernel
theorem f_419_460 : ftc (PT 419) 460 = some (460, .aload_n 0, 1, 0, 0, 0) := by decide +kernel
theorem f_419_461 : ftc (PT 419) 461 = some (461, .iload 4, 2, 0, 0, 0) := by decide +kernel
theorem f_419_463 : ftc (PT 419) 463 = some (463, .iconst 2, 1, 0, 0, 0) := by decide +kernel
theorem f_419_464 : ftc (PT 419) 464 = some (464, .iadd, 1, 0, 0, 0) := by decide +kernel
theorem f_419_465 : ftc (PT 419) 465 = some (465, .iaload, 1, 0, 0, 0) := by decide +kernel
theorem f_419_466 : ftc (PT 419) 466 = some (466, .aload_n 0, 1, 0, 0, 0) := by decide +kernel
theorem f_419_467 : ftc (PT 419) 467 = some (467, .iload 4, 2, 0, 0, 0) := by decide +kernel
theorem f_419_469 : ftc (PT 419) 469 = some (469, .iconst 3, 1, 0, 0, 0) := by decide +kernel
theorem f_419_470 : ftc (PT 419) 470 = some (470, .iadd, 1, 0, 0, 0) := by decide +kernel
theorem f_419_471 : ftc (PT 419) 471 = some (471, .iaload, 1, 0, 0, 0) := by decide +kernel
theorem f_419_472 : ftc (PT 419) 472 = some (472, .invokestatic 213, 3, 370, 5124, 879) := by decide +kernel
theorem f_419_475 : ftc (PT 419) 475 = some (475, .istore 5, 2, 0, 0, 0) := by decide +kernel
theorem f_419_477 : ftc (PT 419) 477 = some (477, .aload_n 2, 1, 0, 0, 0) := by decide +kernel
theorem f_419_478 : ftc (PT 419) 478 = some (478, .aload_n 0, 1, 0, 0, 0) := by decide +kernel
theorem f_419_479 : ftc (PT 419) 479 = some (479, .iload 4, 2, 0, 0, 0) := by decide +kernel
theorem f_419_481 : ftc (PT 419) 481 = some (481, .iconst 1, 1, 0, 0, 0) := by decide +kernel
theorem f_419_482 : ftc (PT 419) 482 = some (482, .iadd, 1, 0, 0, 0) := by decide +kernel
theorem f_419_483 : ftc (PT 419) 483 = some (483, .iaload, 1, 0, 0, 0) := by decide +kernel
theorem f_419_484 : ftc (PT 419) 484 = some (484, .aload_n 0, 1, 0, 0, 0) := by decide +kernel
theorem f_419_485 : ftc (PT 419) 485 = some (485, .iload 4, 2, 0, 0, 0) := by decide +kernel
theorem f_419_487 : ftc (PT 419) 487 = some (487, .iconst 2, 1, 0, 0, 0) := by decide +kernel
theorem f_419_488 : ftc (PT 419) 488 = some (488, .iadd, 1, 0, 0, 0) := by decide +kernel
theorem f_419_489 : ftc (PT 419) 489 = some (489, .iaload, 1, 0, 0, 0) := by decide +kernel
theorem f_419_490 : ftc (PT 419) 490 = some (490, .aload_n 0, 1, 0, 0, 0) := by decide +kernel
theorem f_419_491 : ftc (PT 419) 491 = some (491, .iload 4, 2, 0, 0, 0) := by decide +kernel
theorem f_419_493 : ftc (PT 419) 493 = some (493, .iconst 3, 1, 0, 0, 0) := by decide +kernel
theorem f_419_494 : ftc (PT 419) 494 = some (494, .iadd, 1, 0, 0, 0) := by decide +kernel
theorem f_419_495 : ftc (PT 419) 495 = some (495, .iaload, 1, 0, 0, 0) := by decide +kernel
theorem f_419_496 : ftc (PT 419) 496 = some (496, .invokevirtual 215, 3, 218, 4204, 1790) := by decide +kernel
theorem f_419_499 : ftc (PT 419) 499 = some (499, .pop, 1, 0, 0, 0) := by decide +kernel
theorem f_419_500 : ftc (PT 419) 500 = some (500, .aload_n 2, 1, 0, 0, 0) := by decide +kernel
theorem f_419_501 : ftc (PT 419) 501 = some (501, .invokevirtual 202, 3, 212, 1036, 1766) := by decide +kernel
theorem f_419_504 : ftc (PT 419) 504 = some (504, .iload 5, 2, 0, 0, 0) := by decide +kernel
theorem f_419_506 : ftc (PT 419) 506 = some (506, .if_icmp .eq 5, 3, 511, 0, 0) := by decide +kernel
theorem f_419_509 : ftc (PT 419) 509 = some (509, .iconst 0, 1, 0, 0, 0) := by decide +kernel
theorem f_419_510 : ftc (PT 419) 510 = some (510, .ireturn, 1, 1, 0, 0) := by decide +kernel
theorem f_419_511 : ftc (PT 419) 511 = some (511, .goto 4406, 3, 4917, 0, 0) := by decide +kernel
theorem f_419_514 : ftc (PT 419) 514 = some (514, .aload_n 1, 1, 0, 0, 0) := by decide +kernel
theorem f_419_515 : ftc (PT 419) 515 = some (515, .aload_n 0, 1, 0, 0, 0) := by decide +kernel
theorem f_419_516 : ftc (PT 419) 516 = some (516, .iload 4, 2, 0, 0, 0) := by decide +kernel
theorem f_419_518 : ftc (PT 419) 518 = some (518, .iconst 1, 1, 0, 0, 0) := by decide +kernel
theorem f_419_519 : ftc (PT 419) 519 = some (519, .iadd, 1, 0, 0, 0) := by decide +kernel
theorem f_419_520 : ftc (PT 419) 520 = some (520, .iaload, 1, 0, 0, 0) := by decide +kernel
theorem f_419_521 : ftc (PT 419) 521 = some (521, .aload_n 0, 1, 0, 0, 0) := by decide +kernel
theorem f_419_522 : ftc (PT 419) 522 = some (522, .iload 4, 2, 0, 0, 0) := by decide +kernel
theorem f_419_524 : ftc (PT 419) 524 = some (524, .iconst 2, 1, 0, 0, 0) := by decide +kernel
theorem f_419_525 : ftc (PT 419) 525 = some (525, .iadd, 1, 0, 0, 0) := by decide +kernel
theorem f_419_526 : ftc (PT 419) 526 = some (526, .iaload, 1, 0, 0, 0) := by decide +kernel
theorem f_419_527 : ftc (PT 419) 527 = some (527, .invokestatic 217, 3, 371, 4099, 910) := by decide +kernel
theorem f_419_530 : ftc (PT 419) 530 = some (530, .istore 5, 2, 0, 0, 0) := by decide +kernel
theorem f_419_532 : ftc (PT 419) 532 = some (532, .aload_n 2, 1, 0, 0, 0) := by decide +kernel
theorem f_419_533 : ftc (PT 419) 533 = some (533, .aload_n 0, 1, 0, 0, 0) := by decide +kernel
theorem f_419_534 : ftc (PT 419) 534 = some (534, .iload 4, 2, 0, 0, 0) := by decide +kernel
theorem f_419_536 : ftc (PT 419) 536 = some (536, .iconst 1, 1, 0, 0, 0) := by decide +kernel
theorem f_419_537 : ftc (PT 419) 537 = some (537, .iadd, 1, 0, 0, 0) := by decide +kernel
theorem f_419_538 : ftc (PT 419) 538 = some (538, .iaload, 1, 0, 0, 0) := by decide +kernel
theorem f_419_539 : ftc (PT 419) 539 = some (539, .aload_n 0, 1, 0, 0, 0) := by decide +kernel
theorem f_419_540 : ftc (PT 419) 540 = some (540, .iload 4, 2, 0, 0, 0) := by decide +kernel
theorem f_419_542 : ftc (PT 419) 542 = some (542, .iconst 2, 1, 0, 0, 0) := by decide +kernel
theorem f_419_543 : ftc (PT 419) 543 = some (543, .iadd, 1, 0, 0, 0) := by decide +kernel
theorem f_419_544 : ftc (PT 419) 544 = some (544, .iaload, 1, 0, 0, 0) := by decide +kernel
theorem f_419_545 : ftc (PT 419) 545 = some (545, .invokevirtual 220, 3, 221, 3148, 1802) := by decide +kernel
theorem f_419_548 : ftc (PT 419) 548 = some (548, .pop, 1, 0, 0, 0) := by decide +kernel
theorem f_419_549 : ftc (PT 419) 549 = some (549, .aload_n 2, 1, 0, 0, 0) := by decide +kernel
theorem f_419_550 : ftc (PT 419) 550 = some (550, .invokevirtual 202, 3, 212, 1036, 1766) := by decide +kernel
theorem f_419_553 : ftc (PT 419) 553 = some (553, .iload 5, 2, 0, 0, 0) := by decide +kernel
theorem f_419_555 : ftc (PT 419) 555 = some (555, .if_icmp .eq 5, 3, 560, 0, 0) := by decide +kernel
theorem f_419_558 : ftc (PT 419) 558 = some (558, .iconst 0, 1, 0, 0, 0) := by decide +kernel
theorem f_419_559 : ftc (PT 419) 559 = some (559, .ireturn, 1, 1, 0, 0) := by decide +kernel
theorem f_419_560 : ftc (PT 419) 560 = some (560, .goto 4357, 3, 4917, 0, 0) := by decide +kernel
theorem f_419_563 : ftc (PT 419) 563 = some (563, .aload_n 1, 1, 0, 0, 0) := by decide +kernel
theorem f_419_564 : ftc (PT 419) 564 = some (564, .aload_n 0, 1, 0, 0, 0) := by decide +kernel
theorem f_419_565 : ftc (PT 419) 565 = some (565, .iload 4, 2, 0, 0, 0) := by decide +kernel
theorem f_419_567 : ftc (PT 419) 567 = some (567, .iconst 1, 1, 0, 0, 0) := by decide +kernel
theorem f_419_568 : ftc (PT 419) 568 = some (568, .iadd, 1, 0, 0, 0) := by decide +kernel
theorem f_419_569 : ftc (PT 419) 569 = some (569, .iaload, 1, 0, 0, 0) := by decide +kernel
theorem f_419_570 : ftc (PT 419) 570 = some (570, .aload_n 0, 1, 0, 0, 0) := by decide +kernel
theorem f_419_571 : ftc (PT 419) 571 = some (571, .iload 4, 2, 0, 0, 0) := by decide +kernel
theorem f_419_573 : ftc (PT 419) 573 = some (573, .iconst 2, 1, 0, 0, 0) := by decide +kernel
theorem f_419_574 : ftc (PT 419) 574 = some (574, .iadd, 1, 0, 0, 0) := by decide +kernel
theorem f_419_575 : ftc (PT 419) 575 = some (575, .iaload, 1, 0, 0, 0) := by decide +kernel
theorem f_419_576 : ftc (PT 419) 576 = some (576, .aload_n 3, 1, 0, 0, 0) := by decide +kernel
theorem f_419_577 : ftc (PT 419) 577 = some (577, .invokestatic 222, 3, 372, 5124, 917) := by decide +kernel
theorem f_419_580 : ftc (PT 419) 580 = some (580, .istore 5, 2, 0, 0, 0) := by decide +kernel
theorem f_419_582 : ftc (PT 419) 582 = some (582, .aload_n 2, 1, 0, 0, 0) := by decide +kernel
theorem f_419_583 : ftc (PT 419) 583 = some (583, .aload_n 0, 1, 0, 0, 0) := by decide +kernel
theorem f_419_584 : ftc (PT 419) 584 = some (584, .iload 4, 2, 0, 0, 0) := by decide +kernel
theorem f_419_586 : ftc (PT 419) 586 = some (586, .iconst 1, 1, 0, 0, 0) := by decide +kernel
theorem f_419_587 : ftc (PT 419) 587 = some (587, .iadd, 1, 0, 0, 0) := by decide +kernel
theorem f_419_588 : ftc (PT 419) 588 = some (588, .iaload, 1, 0, 0, 0) := by decide +kernel
theorem f_419_589 : ftc (PT 419) 589 = some (589, .aload_n 0, 1, 0, 0, 0) := by decide +kernel
theorem f_419_590 : ftc (PT 419) 590 = some (590, .iload 4, 2, 0, 0, 0) := by decide +kernel
theorem f_419_592 : ftc (PT 419) 592 = some (592, .iconst 2, 1, 0, 0, 0) := by decide +kernel
theorem f_419_593 : ftc (PT 419) 593 = some (593, .iadd, 1, 0, 0, 0) := by decide +kernel
theorem f_419_594 : ftc (PT 419) 594 = some (594, .iaload, 1, 0, 0, 0) := by decide +kernel
theorem f_419_595 : ftc (PT 419) 595 = some (595, .invokevirtual 225, 3, 222, 3148, 1806) := by decide +kernel
theorem f_419_598 : ftc (PT 419) 598 = some (598, .istore 6, 2, 0, 0, 0) := by decide +kernel
theorem f_419_600 : ftc (PT 419) 600 = some (600, .aload_n 2, 1, 0, 0, 0) := by decide +kernel
theorem f_419_601 : ftc (PT 419) 601 = some (601, .invokevirtual 202, 3, 212, 1036, 1766) := by decide +kernel
theorem f_419_604 : ftc (PT 419) 604 = some (604, .iload 5, 2, 0, 0, 0) := by decide +kernel
theorem f_419_606 : ftc (PT 419) 606 = some (606, .if_icmp .eq 5, 3, 611, 0, 0) := by decide +kernel
theorem f_419_609 : ftc (PT 419) 609 = some (609, .iconst 0, 1, 0, 0, 0) := by decide +kernel
theorem f_419_610 : ftc (PT 419) 610 = some (610, .ireturn, 1, 1, 0, 0) := by decide +kernel
theorem f_419_611 : ftc (PT 419) 611 = some (611, .iload 5, 2, 0, 0, 0) := by decide +kernel
theorem f_419_613 : ftc (PT 419) 613 = some (613, .ifCond .ne 15, 3, 628, 0, 0) := by decide +kernel
theorem f_419_616 : ftc (PT 419) 616 = some (616, .aload_n 3, 1, 0, 0, 0) := by decide +kernel
theorem f_419_617 : ftc (PT 419) 617 = some (617, .iconst 0, 1, 0, 0, 0) := by decide +kernel
theorem f_419_618 : ftc (PT 419) 618 = some (618, .laload, 1, 0, 0, 0) := by decide +kernel
theorem f_419_619 : ftc (PT 419) 619 = some (619, .iload 6, 2, 0, 0, 0) := by decide +kernel
theorem f_419_621 : ftc (PT 419) 621 = some (621, .i2l, 1, 0, 0, 0) := by decide +kernel
theorem f_419_622 : ftc (PT 419) 622 = some (622, .lcmp, 1, 0, 0, 0) := by decide +kernel
theorem f_419_623 : ftc (PT 419) 623 = some (623, .ifCond .eq 5, 3, 628, 0, 0) := by decide +kernel
theorem f_419_626 : ftc (PT 419) 626 = some (626, .iconst 0, 1, 0, 0, 0) := by decide +kernel
theorem f_419_627 : ftc (PT 419) 627 = some (627, .ireturn, 1, 1, 0, 0) := by decide +kernel
theorem f_419_628 : ftc (PT 419) 628 = some (628, .goto 4289, 3, 4917, 0, 0) := by decide +kernel
theorem f_419_631 : ftc (PT 419) 631 = some (631, .aload_n 1, 1, 0, 0, 0) := by decide +kernel
theorem f_419_632 : ftc (PT 419) 632 = some (632, .aload_n 0, 1, 0, 0, 0) := by decide +kernel
theorem f_419_633 : ftc (PT 419) 633 = some (633, .iload 4, 2, 0, 0, 0) := by decide +kernel
theorem f_419_635 : ftc (PT 419) 635 = some (635, .iconst 1, 1, 0, 0, 0) := by decide +kernel
theorem f_419_636 : ftc (PT 419) 636 = some (636, .iadd, 1, 0, 0, 0) := by decide +kernel
theorem f_419_637 : ftc (PT 419) 637 = some (637, .iaload, 1, 0, 0, 0) := by decide +kernel
theorem f_419_638 : ftc (PT 419) 638 = some (638, .aload_n 0, 1, 0, 0, 0) := by decide +kernel
theorem f_419_639 : ftc (PT 419) 639 = some (639, .iload 4, 2, 0, 0, 0) := by decide +kernel
theorem f_419_641 : ftc (PT 419) 641 = some (641, .iconst 2, 1, 0, 0, 0) := by decide +kernel
theorem f_419_642 : ftc (PT 419) 642 = some (642, .iadd, 1, 0, 0, 0) := by decide +kernel
theorem f_419_643 : ftc (PT 419) 643 = some (643, .iaload, 1, 0, 0, 0) := by decide +kernel
theorem f_419_644 : ftc (PT 419) 644 = some (644, .ifCond .eq 7, 3, 651, 0, 0) := by decide +kernel
theorem f_419_647 : ftc (PT 419) 647 = some (647, .iconst 1, 1, 0, 0, 0) := by decide +kernel
theorem f_419_648 : ftc (PT 419) 648 = some (648, .goto 4, 3, 652, 0, 0) := by decide +kernel
theorem f_419_651 : ftc (PT 419) 651 = some (651, .iconst 0, 1, 0, 0, 0) := by decide +kernel
theorem f_419_652 : ftc (PT 419) 652 = some (652, .aload_n 0, 1, 0, 0, 0) := by decide +kernel
theorem f_419_653 : ftc (PT 419) 653 = some (653, .iload 4, 2, 0, 0, 0) := by decide +kernel
theorem f_419_655 : ftc (PT 419) 655 = some (655, .iconst 3, 1, 0, 0, 0) := by decide +kernel
theorem f_419_656 : ftc (PT 419) 656 = some (656, .iadd, 1, 0, 0, 0) := by decide +kernel
theorem f_419_657 : ftc (PT 419) 657 = some (657, .iaload, 1, 0, 0, 0) := by decide +kernel
theorem f_419_658 : ftc (PT 419) 658 = some (658, .ifCond .eq 7, 3, 665, 0, 0) := by decide +kernel
theorem f_419_661 : ftc (PT 419) 661 = some (661, .iconst 1, 1, 0, 0, 0) := by decide +kernel
theorem f_419_662 : ftc (PT 419) 662 = some (662, .goto 4, 3, 666, 0, 0) := by decide +kernel
theorem f_419_665 : ftc (PT 419) 665 = some (665, .iconst 0, 1, 0, 0, 0) := by decide +kernel
theorem f_419_666 : ftc (PT 419) 666 = some (666, .aload_n 3, 1, 0, 0, 0) := by decide +kernel
theorem f_419_667 : ftc (PT 419) 667 = some (667, .invokestatic 226, 3, 373, 6149, 944) := by decide +kernel
theorem f_419_670 : ftc (PT 419) 670 = some (670, .istore 5, 2, 0, 0, 0) := by decide +kernel
theorem f_419_672 : ftc (PT 419) 672 = some (672, .aload_n 2, 1, 0, 0, 0) := by decide +kernel
theorem f_419_673 : ftc (PT 419) 673 = some (673, .aload_n 0, 1, 0, 0, 0) := by decide +kernel
theorem f_419_674 : ftc (PT 419) 674 = some (674, .iload 4, 2, 0, 0, 0) := by decide +kernel
theorem f_419_676 : ftc (PT 419) 676 = some (676, .iconst 1, 1, 0, 0, 0) := by decide +kernel
theorem f_419_677 : ftc (PT 419) 677 = some (677, .iadd, 1, 0, 0, 0) := by decide +kernel
theorem f_419_678 : ftc (PT 419) 678 = some (678, .iaload, 1, 0, 0, 0) := by decide +kernel
theorem f_419_679 : ftc (PT 419) 679 = some (679, .aload_n 0, 1, 0, 0, 0) := by decide +kernel
theorem f_419_680 : ftc (PT 419) 680 = some (680, .iload 4, 2, 0, 0, 0) := by decide +kernel
theorem f_419_682 : ftc (PT 419) 682 = some (682, .iconst 2, 1, 0, 0, 0) := by decide +kernel
theorem f_419_683 : ftc (PT 419) 683 = some (683, .iadd, 1, 0, 0, 0) := by decide +kernel
theorem f_419_684 : ftc (PT 419) 684 = some (684, .iaload, 1, 0, 0, 0) := by decide +kernel
theorem f_419_685 : ftc (PT 419) 685 = some (685, .ifCond .eq 7, 3, 692, 0, 0) := by decide +kernel
theorem f_419_688 : ftc (PT 419) 688 = some (688, .iconst 1, 1, 0, 0, 0) := by decide +kernel
theorem f_419_689 : ftc (PT 419) 689 = some (689, .goto 4, 3, 693, 0, 0) := by decide +kernel
theorem f_419_692 : ftc (PT 419) 692 = some (692, .iconst 0, 1, 0, 0, 0) := by decide +kernel
theorem f_419_693 : ftc (PT 419) 693 = some (693, .aload_n 0, 1, 0, 0, 0) := by decide +kernel
theorem f_419_694 : ftc (PT 419) 694 = some (694, .iload 4, 2, 0, 0, 0) := by decide +kernel
theorem f_419_696 : ftc (PT 419) 696 = some (696, .iconst 3, 1, 0, 0, 0) := by decide +kernel
theorem f_419_697 : ftc (PT 419) 697 = some (697, .iadd, 1, 0, 0, 0) := by decide +kernel
theorem f_419_698 : ftc (PT 419) 698 = some (698, .iaload, 1, 0, 0, 0) := by decide +kernel
theorem f_419_699 : ftc (PT 419) 699 = some (699, .ifCond .eq 7, 3, 706, 0, 0) := by decide +kernel
theorem f_419_702 : ftc (PT 419) 702 = some (702, .iconst 1, 1, 0, 0, 0) := by decide +kernel
theorem f_419_703 : ftc (PT 419) 703 = some (703, .goto 4, 3, 707, 0, 0) := by decide +kernel
theorem f_419_706 : ftc (PT 419) 706 = some (706, .iconst 0, 1, 0, 0, 0) := by decide +kernel
theorem f_419_707 : ftc (PT 419) 707 = some (707, .invokevirtual 229, 3, 225, 6252, 1818) := by decide +kernel
theorem f_419_710 : ftc (PT 419) 710 = some (710, .lstore 6, 2, 0, 0, 0) := by decide +kernel
theorem f_419_712 : ftc (PT 419) 712 = some (712, .aload_n 2, 1, 0, 0, 0) := by decide +kernel
theorem f_419_713 : ftc (PT 419) 713 = some (713, .invokevirtual 202, 3, 212, 1036, 1766) := by decide +kernel
theorem f_419_716 : ftc (PT 419) 716 = some (716, .iload 5, 2, 0, 0, 0) := by decide +kernel
theorem f_419_718 : ftc (PT 419) 718 = some (718, .if_icmp .eq 5, 3, 723, 0, 0) := by decide +kernel
theorem f_419_721 : ftc (PT 419) 721 = some (721, .iconst 0, 1, 0, 0, 0) := by decide +kernel
theorem f_419_722 : ftc (PT 419) 722 = some (722, .ireturn, 1, 1, 0, 0) := by decide +kernel
theorem f_419_723 : ftc (PT 419) 723 = some (723, .iload 5, 2, 0, 0, 0) := by decide +kernel
theorem f_419_725 : ftc (PT 419) 725 = some (725, .ifCond .ne 14, 3, 739, 0, 0) := by decide +kernel
theorem f_419_728 : ftc (PT 419) 728 = some (728, .aload_n 3, 1, 0, 0, 0) := by decide +kernel
theorem f_419_729 : ftc (PT 419) 729 = some (729, .iconst 0, 1, 0, 0, 0) := by decide +kernel
theorem f_419_730 : ftc (PT 419) 730 = some (730, .laload, 1, 0, 0, 0) := by decide +kernel
theorem f_419_731 : ftc (PT 419) 731 = some (731, .lload 6, 2, 0, 0, 0) := by decide +kernel
theorem f_419_733 : ftc (PT 419) 733 = some (733, .lcmp, 1, 0, 0, 0) := by decide +kernel
theorem f_419_734 : ftc (PT 419) 734 = some (734, .ifCond .eq 5, 3, 739, 0, 0) := by decide +kernel
theorem f_419_737 : ftc (PT 419) 737 = some (737, .iconst 0, 1, 0, 0, 0) := by decide +kernel
theorem f_419_738 : ftc (PT 419) 738 = some (738, .ireturn, 1, 1, 0, 0) := by decide +kernel
theorem f_419_739 : ftc (PT 419) 739 = some (739, .goto 4178, 3, 4917, 0, 0) := by decide +kernel
theorem f_419_742 : ftc (PT 419) 742 = some (742, .aload_n 1, 1, 0, 0, 0) := by decide +kernel
theorem f_419_743 : ftc (PT 419) 743 = some (743, .aload_n 0, 1, 0, 0, 0) := by decide +kernel
theorem f_419_744 : ftc (PT 419) 744 = some (744, .iload 4, 2, 0, 0, 0) := by decide +kernel
theorem f_419_746 : ftc (PT 419) 746 = some (746, .iconst 1, 1, 0, 0, 0) := by decide +kernel
theorem f_419_747 : ftc (PT 419) 747 = some (747, .iadd, 1, 0, 0, 0) := by decide +kernel
theorem f_419_748 : ftc (PT 419) 748 = some (748, .iaload, 1, 0, 0, 0) := by decide +kernel
theorem f_419_749 : ftc (PT 419) 749 = some (749, .aload_n 3, 1, 0, 0, 0) := by decide +kernel
theorem f_419_750 : ftc (PT 419) 750 = some (750, .invokestatic 230, 3, 374, 4099, 975) := by decide +kernel
theorem f_419_753 : ftc (PT 419) 753 = some (753, .istore 5, 2, 0, 0, 0) := by decide +kernel
theorem f_419_755 : ftc (PT 419) 755 = some (755, .aload_n 2, 1, 0, 0, 0) := by decide +kernel
theorem f_419_756 : ftc (PT 419) 756 = some (756, .aload_n 0, 1, 0, 0, 0) := by decide +kernel
theorem f_419_757 : ftc (PT 419) 757 = some (757, .iload 4, 2, 0, 0, 0) := by decide +kernel
theorem f_419_759 : ftc (PT 419) 759 = some (759, .iconst 1, 1, 0, 0, 0) := by decide +kernel
theorem f_419_760 : ftc (PT 419) 760 = some (760, .iadd, 1, 0, 0, 0) := by decide +kernel
theorem f_419_761 : ftc (PT 419) 761 = some (761, .iaload, 1, 0, 0, 0) := by decide +kernel
theorem f_419_762 : ftc (PT 419) 762 = some (762, .invokevirtual 233, 3, 238, 2092, 1865) := by decide +kernel
theorem f_419_765 : ftc (PT 419) 765 = some (765, .istore 6, 2, 0, 0, 0) := by decide +kernel
theorem f_419_767 : ftc (PT 419) 767 = some (767, .aload_n 2, 1, 0, 0, 0) := by decide +kernel
theorem f_419_768 : ftc (PT 419) 768 = some (768, .invokevirtual 202, 3, 212, 1036, 1766) := by decide +kernel
theorem f_419_771 : ftc (PT 419) 771 = some (771, .iload 5, 2, 0, 0, 0) := by decide +kernel
theorem f_419_773 : ftc (PT 419) 773 = some (773, .if_icmp .eq 5, 3, 778, 0, 0) := by decide +kernel
theorem f_419_776 : ftc (PT 419) 776 = some (776, .iconst 0, 1, 0, 0, 0) := by decide +kernel
theorem f_419_777 : ftc (PT 419) 777 = some (777, .ireturn, 1, 1, 0, 0) := by decide +kernel
theorem f_419_778 : ftc (PT 419) 778 = some (778, .iload 5, 2, 0, 0, 0) := by decide +kernel
theorem f_419_780 : ftc (PT 419) 780 = some (780, .ifCond .ne 22, 3, 802, 0, 0) := by decide +kernel
theorem f_419_783 : ftc (PT 419) 783 = some (783, .aload_n 3, 1, 0, 0, 0) := by decide +kernel
theorem f_419_784 : ftc (PT 419) 784 = some (784, .iconst 0, 1, 0, 0, 0) := by decide +kernel
theorem f_419_785 : ftc (PT 419) 785 = some (785, .laload, 1, 0, 0, 0) := by decide +kernel
theorem f_419_786 : ftc (PT 419) 786 = some (786, .iload 6, 2, 0, 0, 0) := by decide +kernel
theorem f_419_788 : ftc (PT 419) 788 = some (788, .ifCond .eq 7, 3, 795, 0, 0) := by decide +kernel
theorem f_419_791 : ftc (PT 419) 791 = some (791, .lconst 1, 1, 0, 0, 0) := by decide +kernel
theorem f_419_792 : ftc (PT 419) 792 = some (792, .goto 4, 3, 796, 0, 0) := by decide +kernel
theorem f_419_795 : ftc (PT 419) 795 = some (795, .lconst 0, 1, 0, 0, 0) := by decide +kernel
theorem f_419_796 : ftc (PT 419) 796 = some (796, .lcmp, 1, 0, 0, 0) := by decide +kernel
theorem f_419_797 : ftc (PT 419) 797 = some (797, .ifCond .eq 5, 3, 802, 0, 0) := by decide +kernel
theorem f_419_800 : ftc (PT 419) 800 = some (800, .iconst 0, 1, 0, 0, 0) := by decide +kernel
theorem f_419_801 : ftc (PT 419) 801 = some (801, .ireturn, 1, 1, 0, 0) := by decide +kernel
theorem f_419_802 : ftc (PT 419) 802 = some (802, .goto 4115, 3, 4917, 0, 0) := by decide +kernel
theorem f_419_805 : ftc (PT 419) 805 = some (805, .aload_n 1, 1, 0, 0, 0) := by decide +kernel
theorem f_419_806 : ftc (PT 419) 806 = some (806, .aload_n 0, 1, 0, 0, 0) := by decide +kernel
theorem f_419_807 : ftc (PT 419) 807 = some (807, .iload 4, 2, 0, 0, 0) := by decide +kernel
theorem f_419_809 : ftc (PT 419) 809 = some (809, .iconst 1, 1, 0, 0, 0) := by decide +kernel
theorem f_419_810 : ftc (PT 419) 810 = some (810, .iadd, 1, 0, 0, 0) := by decide +kernel
theorem f_419_811 : ftc (PT 419) 811 = some (811, .iaload, 1, 0, 0, 0) := by decide +kernel
theorem f_419_812 : ftc (PT 419) 812 = some (812, .aload_n 0, 1, 0, 0, 0) := by decide +kernel
theorem f_419_813 : ftc (PT 419) 813 = some (813, .iload 4, 2, 0, 0, 0) := by decide +kernel
theorem f_419_815 : ftc (PT 419) 815 = some (815, .iconst 2, 1, 0, 0, 0) := by decide +kernel
theorem f_419_816 : ftc (PT 419) 816 = some (816, .iadd, 1, 0, 0, 0) := by decide +kernel
theorem f_419_817 : ftc (PT 419) 817 = some (817, .iaload, 1, 0, 0, 0) := by decide +kernel
theorem f_419_818 : ftc (PT 419) 818 = some (818, .ifCond .eq 7, 3, 825, 0, 0) := by decide +kernel
theorem f_419_821 : ftc (PT 419) 821 = some (821, .iconst 1, 1, 0, 0, 0) := by decide +kernel
theorem f_419_822 : ftc (PT 419) 822 = some (822, .goto 4, 3, 826, 0, 0) := by decide +kernel
theorem f_419_825 : ftc (PT 419) 825 = some (825, .iconst 0, 1, 0, 0, 0) := by decide +kernel
theorem f_419_826 : ftc (PT 419) 826 = some (826, .aload_n 3, 1, 0, 0, 0) := by decide +kernel
theorem f_419_827 : ftc (PT 419) 827 = some (827, .invokestatic 234, 3, 375, 5124, 982) := by decide +kernel
theorem f_419_830 : ftc (PT 419) 830 = some (830, .istore 5, 2, 0, 0, 0) := by decide +kernel
theorem f_419_832 : ftc (PT 419) 832 = some (832, .aload_n 2, 1, 0, 0, 0) := by decide +kernel
theorem f_419_833 : ftc (PT 419) 833 = some (833, .aload_n 0, 1, 0, 0, 0) := by decide +kernel
theorem f_419_834 : ftc (PT 419) 834 = some (834, .iload 4, 2, 0, 0, 0) := by decide +kernel
theorem f_419_836 : ftc (PT 419) 836 = some (836, .iconst 1, 1, 0, 0, 0) := by decide +kernel
theorem f_419_837 : ftc (PT 419) 837 = some (837, .iadd, 1, 0, 0, 0) := by decide +kernel
theorem f_419_838 : ftc (PT 419) 838 = some (838, .iaload, 1, 0, 0, 0) := by decide +kernel
theorem f_419_839 : ftc (PT 419) 839 = some (839, .aload_n 0, 1, 0, 0, 0) := by decide +kernel
theorem f_419_840 : ftc (PT 419) 840 = some (840, .iload 4, 2, 0, 0, 0) := by decide +kernel
theorem f_419_842 : ftc (PT 419) 842 = some (842, .iconst 2, 1, 0, 0, 0) := by decide +kernel
theorem f_419_843 : ftc (PT 419) 843 = some (843, .iadd, 1, 0, 0, 0) := by decide +kernel
theorem f_419_844 : ftc (PT 419) 844 = some (844, .iaload, 1, 0, 0, 0) := by decide +kernel
theorem f_419_845 : ftc (PT 419) 845 = some (845, .ifCond .eq 7, 3, 852, 0, 0) := by decide +kernel
theorem f_419_848 : ftc (PT 419) 848 = some (848, .iconst 1, 1, 0, 0, 0) := by decide +kernel
theorem f_419_849 : ftc (PT 419) 849 = some (849, .goto 4, 3, 853, 0, 0) := by decide +kernel
theorem f_419_852 : ftc (PT 419) 852 = some (852, .iconst 0, 1, 0, 0, 0) := by decide +kernel
theorem f_419_853 : ftc (PT 419) 853 = some (853, .invokevirtual 237, 3, 239, 3148, 1869) := by decide +kernel
theorem f_419_856 : ftc (PT 419) 856 = some (856, .lstore 6, 2, 0, 0, 0) := by decide +kernel
theorem f_419_858 : ftc (PT 419) 858 = some (858, .aload_n 2, 1, 0, 0, 0) := by decide +kernel
theorem f_419_859 : ftc (PT 419) 859 = some (859, .invokevirtual 202, 3, 212, 1036, 1766) := by decide +kernel
theorem f_419_862 : ftc (PT 419) 862 = some (862, .iload 5, 2, 0, 0, 0) := by decide +kernel
theorem f_419_864 : ftc (PT 419) 864 = some (864, .if_icmp .eq 5, 3, 869, 0, 0) := by decide +kernel
theorem f_419_867 : ftc (PT 419) 867 = some (867, .iconst 0, 1, 0, 0, 0) := by decide +kernel
theorem f_419_868 : ftc (PT 419) 868 = some (868, .ireturn, 1, 1, 0, 0) := by decide +kernel
theorem f_419_869 : ftc (PT 419) 869 = some (869, .iload 5, 2, 0, 0, 0) := by decide +kernel
theorem f_419_871 : ftc (PT 419) 871 = some (871, .ifCond .ne 14, 3, 885, 0, 0) := by decide +kernel
theorem f_419_874 : ftc (PT 419) 874 = some (874, .aload_n 3, 1, 0, 0, 0) := by decide +kernel
theorem f_419_875 : ftc (PT 419) 875 = some (875, .iconst 0, 1, 0, 0, 0) := by decide +kernel
theorem f_419_876 : ftc (PT 419) 876 = some (876, .laload, 1, 0, 0, 0) := by decide +kernel
theorem f_419_877 : ftc (PT 419) 877 = some (877, .lload 6, 2, 0, 0, 0) := by decide +kernel
theorem f_419_879 : ftc (PT 419) 879 = some (879, .lcmp, 1, 0, 0, 0) := by decide +kernel
theorem f_419_880 : ftc (PT 419) 880 = some (880, .ifCond .eq 5, 3, 885, 0, 0) := by decide +kernel
theorem f_419_883 : ftc (PT 419) 883 = some (883, .iconst 0, 1, 0, 0, 0) := by decide +kernel
theorem f_419_884 : ftc (PT 419) 884 = some (884, .ireturn, 1, 1, 0, 0) := by decide +kernel
theorem f_419_885 : ftc (PT 419) 885 = some (885, .goto 4032, 3, 4917, 0, 0) := by decide +kernel
theorem f_419_888 : ftc (PT 419) 888 = some (888, .aload_n 1, 1, 0, 0, 0) := by decide +kernel
theorem f_419_889 : ftc (PT 419) 889 = some (889, .aload_n 0, 1, 0, 0, 0) := by decide +kernel
theorem f_419_890 : ftc (PT 419) 890 = some (890, .iload 4, 2, 0, 0, 0) := by decide +kernel
theorem f_419_892 : ftc (PT 419) 892 = some (892, .iconst 1, 1, 0, 0, 0) := by decide +kernel
theorem f_419_893 : ftc (PT 419) 893 = some (893, .iadd, 1, 0, 0, 0) := by decide +kernel
theorem f_419_894 : ftc (PT 419) 894 = some (894, .iaload, 1, 0, 0, 0) := by decide +kernel
theorem f_419_895 : ftc (PT 419) 895 = some (895, .aload_n 0, 1, 0, 0, 0) := by decide +kernel
theorem f_419_896 : ftc (PT 419) 896 = some (896, .iload 4, 2, 0, 0, 0) := by decide +kernel
theorem f_419_898 : ftc (PT 419) 898 = some (898, .iconst 2, 1, 0, 0, 0) := by decide +kernel
theorem f_419_899 : ftc (PT 419) 899 = some (899, .iadd, 1, 0, 0, 0) := by decide +kernel
theorem f_419_900 : ftc (PT 419) 900 = some (900, .iaload, 1, 0, 0, 0) := by decide +kernel
theorem f_419_901 : ftc (PT 419) 901 = some (901, .ifCond .eq 7, 3, 908, 0, 0) := by decide +kernel
theorem f_419_904 : ftc (PT 419) 904 = some (904, .iconst 1, 1, 0, 0, 0) := by decide +kernel
theorem f_419_905 : ftc (PT 419) 905 = some (905, .goto 4, 3, 909, 0, 0) := by decide +kernel
theorem f_419_908 : ftc (PT 419) 908 = some (908, .iconst 0, 1, 0, 0, 0) := by decide +kernel
theorem f_419_909 : ftc (PT 419) 909 = some (909, .aload_n 3, 1, 0, 0, 0) := by decide +kernel
theorem f_419_910 : ftc (PT 419) 910 = some (910, .invokestatic 238, 3, 376, 5124, 989) := by decide +kernel
theorem f_419_913 : ftc (PT 419) 913 = some (913, .istore 5, 2, 0, 0, 0) := by decide +kernel
theorem f_419_915 : ftc (PT 419) 915 = some (915, .aload_n 2, 1, 0, 0, 0) := by decide +kernel
theorem f_419_916 : ftc (PT 419) 916 = some (916, .aload_n 0, 1, 0, 0, 0) := by decide +kernel
theorem f_419_917 : ftc (PT 419) 917 = some (917, .iload 4, 2, 0, 0, 0) := by decide +kernel
theorem f_419_919 : ftc (PT 419) 919 = some (919, .iconst 1, 1, 0, 0, 0) := by decide +kernel
theorem f_419_920 : ftc (PT 419) 920 = some (920, .iadd, 1, 0, 0, 0) := by decide +kernel
theorem f_419_921 : ftc (PT 419) 921 = some (921, .iaload, 1, 0, 0, 0) := by decide +kernel
theorem f_419_922 : ftc (PT 419) 922 = some (922, .aload_n 0, 1, 0, 0, 0) := by decide +kernel
theorem f_419_923 : ftc (PT 419) 923 = some (923, .iload 4, 2, 0, 0, 0) := by decide +kernel
theorem f_419_925 : ftc (PT 419) 925 = some (925, .iconst 2, 1, 0, 0, 0) := by decide +kernel
theorem f_419_926 : ftc (PT 419) 926 = some (926, .iadd, 1, 0, 0, 0) := by decide +kernel
theorem f_419_927 : ftc (PT 419) 927 = some (927, .iaload, 1, 0, 0, 0) := by decide +kernel
theorem f_419_928 : ftc (PT 419) 928 = some (928, .ifCond .eq 7, 3, 935, 0, 0) := by decide +kernel
theorem f_419_931 : ftc (PT 419) 931 = some (931, .iconst 1, 1, 0, 0, 0) := by decide +kernel
theorem f_419_932 : ftc (PT 419) 932 = some (932, .goto 4, 3, 936, 0, 0) := by decide +kernel
theorem f_419_935 : ftc (PT 419) 935 = some (935, .iconst 0, 1, 0, 0, 0) := by decide +kernel
theorem f_419_936 : ftc (PT 419) 936 = some (936, .invokevirtual 240, 3, 337, 6220, 2263) := by decide +kernel
theorem f_419_939 : ftc (PT 419) 939 = some (939, .istore 6, 2, 0, 0, 0) := by decide +kernel
theorem f_419_941 : ftc (PT 419) 941 = some (941, .aload_n 2, 1, 0, 0, 0) := by decide +kernel
theorem f_419_942 : ftc (PT 419) 942 = some (942, .invokevirtual 202, 3, 212, 1036, 1766) := by decide +kernel
theorem f_419_945 : ftc (PT 419) 945 = some (945, .iload 5, 2, 0, 0, 0) := by decide +kernel
theorem f_419_947 : ftc (PT 419) 947 = some (947, .if_icmp .eq 5, 3, 952, 0, 0) := by decide +kernel
theorem f_419_950 : ftc (PT 419) 950 = some (950, .iconst 0, 1, 0, 0, 0) := by decide +kernel
theorem f_419_951 : ftc (PT 419) 951 = some (951, .ireturn, 1, 1, 0, 0) := by decide +kernel
theorem f_419_952 : ftc (PT 419) 952 = some (952, .iload 5, 2, 0, 0, 0) := by decide +kernel
theorem f_419_954 : ftc (PT 419) 954 = some (954, .ifCond .ne 15, 3, 969, 0, 0) := by decide +kernel
theorem f_419_957 : ftc (PT 419) 957 = some (957, .aload_n 3, 1, 0, 0, 0) := by decide +kernel
theorem f_419_958 : ftc (PT 419) 958 = some (958, .iconst 0, 1, 0, 0, 0) := by decide +kernel
theorem f_419_959 : ftc (PT 419) 959 = some (959, .laload, 1, 0, 0, 0) := by decide +kernel
theorem f_419_960 : ftc (PT 419) 960 = some (960, .iload 6, 2, 0, 0, 0) := by decide +kernel
theorem f_419_962 : ftc (PT 419) 962 = some (962, .i2l, 1, 0, 0, 0) := by decide +kernel
theorem f_419_963 : ftc (PT 419) 963 = some (963, .lcmp, 1, 0, 0, 0) := by decide +kernel
theorem f_419_964 : ftc (PT 419) 964 = some (964, .ifCond .eq 5, 3, 969, 0, 0) := by decide +kernel
theorem f_419_967 : ftc (PT 419) 967 = some (967, .iconst 0, 1, 0, 0, 0) := by decide +kernel
theorem f_419_968 : ftc (PT 419) 968 = some (968, .ireturn, 1, 1, 0, 0) := by decide +kernel
theorem f_419_969 : ftc (PT 419) 969 = some (969, .goto 3948, 3, 4917, 0, 0) := by decide +kernel
theorem f_419_972 : ftc (PT 419) 972 = some (972, .aload_n 1, 1, 0, 0, 0) := by decide +kernel
theorem f_419_973 : ftc (PT 419) 973 = some (973, .aload_n 0, 1, 0, 0, 0) := by decide +kernel
theorem f_419_974 : ftc (PT 419) 974 = some (974, .iload 4, 2, 0, 0, 0) := by decide +kernel
theorem f_419_976 : ftc (PT 419) 976 = some (976, .iconst 1, 1, 0, 0, 0) := by decide +kernel
theorem f_419_977 : ftc (PT 419) 977 = some (977, .iadd, 1, 0, 0, 0) := by decide +kernel
theorem f_419_978 : ftc (PT 419) 978 = some (978, .iaload, 1, 0, 0, 0) := by decide +kernel
theorem f_419_979 : ftc (PT 419) 979 = some (979, .aload_n 0, 1, 0, 0, 0) := by decide +kernel
theorem f_419_980 : ftc (PT 419) 980 = some (980, .iload 4, 2, 0, 0, 0) := by decide +kernel
theorem f_419_982 : ftc (PT 419) 982 = some (982, .iconst 2, 1, 0, 0, 0) := by decide +kernel
theorem f_419_983 : ftc (PT 419) 983 = some (983, .iadd, 1, 0, 0, 0) := by decide +kernel
theorem f_419_984 : ftc (PT 419) 984 = some (984, .iaload, 1, 0, 0, 0) := by decide +kernel
theorem f_419_985 : ftc (PT 419) 985 = some (985, .ifCond .eq 7, 3, 992, 0, 0) := by decide +kernel
theorem f_419_988 : ftc (PT 419) 988 = some (988, .iconst 1, 1, 0, 0, 0) := by decide +kernel
theorem f_419_989 : ftc (PT 419) 989 = some (989, .goto 4, 3, 993, 0, 0) := by decide +kernel
theorem f_419_992 : ftc (PT 419) 992 = some (992, .iconst 0, 1, 0, 0, 0) := by decide +kernel
theorem f_419_993 : ftc (PT 419) 993 = some (993, .aload_n 3, 1, 0, 0, 0) := by decide +kernel
theorem f_419_994 : ftc (PT 419) 994 = some (994, .invokestatic 241, 3, 377, 5124, 1012) := by decide +kernel
theorem f_419_997 : ftc (PT 419) 997 = some (997, .istore 5, 2, 0, 0, 0) := by decide +kernel
theorem f_419_999 : ftc (PT 419) 999 = some (999, .aload_n 2, 1, 0, 0, 0) := by decide +kernel
theorem f_419_1000 : ftc (PT 419) 1000 = some (1000, .aload_n 0, 1, 0, 0, 0) := by decide +kernel
theorem f_419_1001 : ftc (PT 419) 1001 = some (1001, .iload 4, 2, 0, 0, 0) := by decide +kernel
theorem f_419_1003 : ftc (PT 419) 1003 = some (1003, .iconst 1, 1, 0, 0, 0) := by decide +kernel
theorem f_419_1004 : ftc (PT 419) 1004 = some (1004, .iadd, 1, 0, 0, 0) := by decide +kernel
theorem f_419_1005 : ftc (PT 419) 1005 = some (1005, .iaload, 1, 0, 0, 0) := by decide +kernel
theorem f_419_1006 : ftc (PT 419) 1006 = some (1006, .aload_n 0, 1, 0, 0, 0) := by decide +kernel
theorem f_419_1007 : ftc (PT 419) 1007 = some (1007, .iload 4, 2, 0, 0, 0) := by decide +kernel
theorem f_419_1009 : ftc (PT 419) 1009 = some (1009, .iconst 2, 1, 0, 0, 0) := by decide +kernel
theorem f_419_1010 : ftc (PT 419) 1010 = some (1010, .iadd, 1, 0, 0, 0) := by decide +kernel
theorem f_419_1011 : ftc (PT 419) 1011 = some (1011, .iaload, 1, 0, 0, 0) := by decide +kernel
theorem f_419_1012 : ftc (PT 419) 1012 = some (1012, .ifCond .eq 7, 3, 1019, 0, 0) := by decide +kernel
theorem f_419_1015 : ftc (PT 419) 1015 = some (1015, .iconst 1, 1, 0, 0, 0) := by decide +kernel
theorem f_419_1016 : ftc (PT 419) 1016 = some (1016, .goto 4, 3, 1020, 0, 0) := by decide +kernel
theorem f_419_1019 : ftc (PT 419) 1019 = some (1019, .iconst 0, 1, 0, 0, 0) := by decide +kernel
theorem f_419_1020 : ftc (PT 419) 1020 = some (1020, .invokevirtual 243, 3, 347, 3148, 2305) := by decide +kernel
theorem f_419_1023 : ftc (PT 419) 1023 = some (1023, .istore 6, 2, 0, 0, 0) := by decide +kernel
theorem f_419_1025 : ftc (PT 419) 1025 = some (1025, .aload_n 2, 1, 0, 0, 0) := by decide +kernel
theorem f_419_1026 : ftc (PT 419) 1026 = some (1026, .invokevirtual 202, 3, 212, 1036, 1766) := by decide +kernel
theorem f_419_1029 : ftc (PT 419) 1029 = some (1029, .iload 5, 2, 0, 0, 0) := by decide +kernel
theorem f_419_1031 : ftc (PT 419) 1031 = some (1031, .if_icmp .eq 5, 3, 1036, 0, 0) := by decide +kernel
theorem f_419_1034 : ftc (PT 419) 1034 = some (1034, .iconst 0, 1, 0, 0, 0) := by decide +kernel
theorem f_419_1035 : ftc (PT 419) 1035 = some (1035, .ireturn, 1, 1, 0, 0) := by decide +kernel
theorem f_419_1036 : ftc (PT 419) 1036 = some (1036, .iload 5, 2, 0, 0, 0) := by decide +kernel
theorem f_419_1038 : ftc (PT 419) 1038 = some (1038, .ifCond .ne 22, 3, 1060, 0, 0) := by decide +kernel
theorem f_419_1041 : ftc (PT 419) 1041 = some (1041, .aload_n 3, 1, 0, 0, 0) := by decide +kernel
theorem f_419_1042 : ftc (PT 419) 1042 = some (1042, .iconst 0, 1, 0, 0, 0) := by decide +kernel
theorem f_419_1043 : ftc (PT 419) 1043 = some (1043, .laload, 1, 0, 0, 0) := by decide +kernel
theorem f_419_1044 : ftc (PT 419) 1044 = some (1044, .iload 6, 2, 0, 0, 0) := by decide +kernel
theorem f_419_1046 : ftc (PT 419) 1046 = some (1046, .ifCond .eq 7, 3, 1053, 0, 0) := by decide +kernel
theorem f_419_1049 : ftc (PT 419) 1049 = some (1049, .lconst 1, 1, 0, 0, 0) := by decide +kernel
theorem f_419_1050 : ftc (PT 419) 1050 = some (1050, .goto 4, 3, 1054, 0, 0) := by decide +kernel
theorem f_419_1053 : ftc (PT 419) 1053 = some (1053, .lconst 0, 1, 0, 0, 0) := by decide +kernel
theorem f_419_1054 : ftc (PT 419) 1054 = some (1054, .lcmp, 1, 0, 0, 0) := by decide +kernel
theorem f_419_1055 : ftc (PT 419) 1055 = some (1055, .ifCond .eq 5, 3, 1060, 0, 0) := by decide +kernel
theorem f_419_1058 : ftc (PT 419) 1058 = some (1058, .iconst 0, 1, 0, 0, 0) := by decide +kernel
theorem f_419_1059 : ftc (PT 419) 1059 = some (1059, .ireturn, 1, 1, 0, 0) := by decide +kernel
theorem f_419_1060 : ftc (PT 419) 1060 = some (1060, .goto 3857, 3, 4917, 0, 0) := by decide +kernel
theorem f_419_1063 : ftc (PT 419) 1063 = some (1063, .aload_n 1, 1, 0, 0, 0) := by decide +kernel
theorem f_419_1064 : ftc (PT 419) 1064 = some (1064, .aload_n 0, 1, 0, 0, 0) := by decide +kernel
theorem f_419_1065 : ftc (PT 419) 1065 = some (1065, .iload 4, 2, 0, 0, 0) := by decide +kernel
theorem f_419_1067 : ftc (PT 419) 1067 = some (1067, .iconst 1, 1, 0, 0, 0) := by decide +kernel
theorem f_419_1068 : ftc (PT 419) 1068 = some (1068, .iadd, 1, 0, 0, 0) := by decide +kernel
theorem f_419_1069 : ftc (PT 419) 1069 = some (1069, .iaload, 1, 0, 0, 0) := by decide +kernel
theorem f_419_1070 : ftc (PT 419) 1070 = some (1070, .aload_n 0, 1, 0, 0, 0) := by decide +kernel
theorem f_419_1071 : ftc (PT 419) 1071 = some (1071, .iload 4, 2, 0, 0, 0) := by decide +kernel
theorem f_419_1073 : ftc (PT 419) 1073 = some (1073, .iconst 2, 1, 0, 0, 0) := by decide +kernel
theorem f_419_1074 : ftc (PT 419) 1074 = some (1074, .iadd, 1, 0, 0, 0) := by decide +kernel
theorem f_419_1075 : ftc (PT 419) 1075 = some (1075, .iaload, 1, 0, 0, 0) := by decide +kernel
theorem f_419_1076 : ftc (PT 419) 1076 = some (1076, .aload_n 0, 1, 0, 0, 0) := by decide +kernel
theorem f_419_1077 : ftc (PT 419) 1077 = some (1077, .iload 4, 2, 0, 0, 0) := by decide +kernel
theorem f_419_1079 : ftc (PT 419) 1079 = some (1079, .iconst 3, 1, 0, 0, 0) := by decide +kernel
theorem f_419_1080 : ftc (PT 419) 1080 = some (1080, .iadd, 1, 0, 0, 0) := by decide +kernel
theorem f_419_1081 : ftc (PT 419) 1081 = some (1081, .iaload, 1, 0, 0, 0) := by decide +kernel
theorem f_419_1082 : ftc (PT 419) 1082 = some (1082, .ifCond .eq 7, 3, 1089, 0, 0) := by decide +kernel
theorem f_419_1085 : ftc (PT 419) 1085 = some (1085, .iconst 1, 1, 0, 0, 0) := by decide +kernel
theorem f_419_1086 : ftc (PT 419) 1086 = some (1086, .goto 4, 3, 1090, 0, 0) := by decide +kernel
theorem f_419_1089 : ftc (PT 419) 1089 = some (1089, .iconst 0, 1, 0, 0, 0) := by decide +kernel
theorem f_419_1090 : ftc (PT 419) 1090 = some (1090, .aload_n 3, 1, 0, 0, 0) := by decide +kernel
theorem f_419_1091 : ftc (PT 419) 1091 = some (1091, .invokestatic 244, 3, 378, 6149, 1019) := by decide +kernel
theorem f_419_1094 : ftc (PT 419) 1094 = some (1094, .istore 5, 2, 0, 0, 0) := by decide +kernel
theorem f_419_1096 : ftc (PT 419) 1096 = some (1096, .aload_n 2, 1, 0, 0, 0) := by decide +kernel
theorem f_419_1097 : ftc (PT 419) 1097 = some (1097, .aload_n 0, 1, 0, 0, 0) := by decide +kernel
theorem f_419_1098 : ftc (PT 419) 1098 = some (1098, .iload 4, 2, 0, 0, 0) := by decide +kernel
theorem f_419_1100 : ftc (PT 419) 1100 = some (1100, .iconst 1, 1, 0, 0, 0) := by decide +kernel
theorem f_419_1101 : ftc (PT 419) 1101 = some (1101, .iadd, 1, 0, 0, 0) := by decide +kernel
theorem f_419_1102 : ftc (PT 419) 1102 = some (1102, .iaload, 1, 0, 0, 0) := by decide +kernel
theorem f_419_1103 : ftc (PT 419) 1103 = some (1103, .aload_n 0, 1, 0, 0, 0) := by decide +kernel
theorem f_419_1104 : ftc (PT 419) 1104 = some (1104, .iload 4, 2, 0, 0, 0) := by decide +kernel
theorem f_419_1106 : ftc (PT 419) 1106 = some (1106, .iconst 2, 1, 0, 0, 0) := by decide +kernel
theorem f_419_1107 : ftc (PT 419) 1107 = some (1107, .iadd, 1, 0, 0, 0) := by decide +kernel
theorem f_419_1108 : ftc (PT 419) 1108 = some (1108, .iaload, 1, 0, 0, 0) := by decide +kernel
theorem f_419_1109 : ftc (PT 419) 1109 = some (1109, .aload_n 0, 1, 0, 0, 0) := by decide +kernel
theorem f_419_1110 : ftc (PT 419) 1110 = some (1110, .iload 4, 2, 0, 0, 0) := by decide +kernel
theorem f_419_1112 : ftc (PT 419) 1112 = some (1112, .iconst 3, 1, 0, 0, 0) := by decide +kernel
theorem f_419_1113 : ftc (PT 419) 1113 = some (1113, .iadd, 1, 0, 0, 0) := by decide +kernel
theorem f_419_1114 : ftc (PT 419) 1114 = some (1114, .iaload, 1, 0, 0, 0) := by decide +kernel
theorem f_419_1115 : ftc (PT 419) 1115 = some (1115, .ifCond .eq 7, 3, 1122, 0, 0) := by decide +kernel
theorem f_419_1118 : ftc (PT 419) 1118 = some (1118, .iconst 1, 1, 0, 0, 0) := by decide +kernel
theorem f_419_1119 : ftc (PT 419) 1119 = some (1119, .goto 4, 3, 1123, 0, 0) := by decide +kernel
theorem f_419_1122 : ftc (PT 419) 1122 = some (1122, .iconst 0, 1, 0, 0, 0) := by decide +kernel
theorem f_419_1123 : ftc (PT 419) 1123 = some (1123, .invokevirtual 247, 3, 241, 6252, 1877) := by decide +kernel
theorem f_419_1126 : ftc (PT 419) 1126 = some (1126, .istore 6, 2, 0, 0, 0) := by decide +kernel
theorem f_419_1128 : ftc (PT 419) 1128 = some (1128, .aload_n 2, 1, 0, 0, 0) := by decide +kernel
theorem f_419_1129 : ftc (PT 419) 1129 = some (1129, .invokevirtual 202, 3, 212, 1036, 1766) := by decide +kernel
theorem f_419_1132 : ftc (PT 419) 1132 = some (1132, .iload 5, 2, 0, 0, 0) := by decide +kernel
theorem f_419_1134 : ftc (PT 419) 1134 = some (1134, .if_icmp .eq 5, 3, 1139, 0, 0) := by decide +kernel
theorem f_419_1137 : ftc (PT 419) 1137 = some (1137, .iconst 0, 1, 0, 0, 0) := by decide +kernel
theorem f_419_1138 : ftc (PT 419) 1138 = some (1138, .ireturn, 1, 1, 0, 0) := by decide +kernel
theorem f_419_1139 : ftc (PT 419) 1139 = some (1139, .iload 5, 2, 0, 0, 0) := by decide +kernel
theorem f_419_1141 : ftc (PT 419) 1141 = some (1141, .ifCond .ne 15, 3, 1156, 0, 0) := by decide +kernel
theorem f_419_1144 : ftc (PT 419) 1144 = some (1144, .aload_n 3, 1, 0, 0, 0) := by decide +kernel
theorem f_419_1145 : ftc (PT 419) 1145 = some (1145, .iconst 0, 1, 0, 0, 0) := by decide +kernel
theorem f_419_1146 : ftc (PT 419) 1146 = some (1146, .laload, 1, 0, 0, 0) := by decide +kernel
theorem f_419_1147 : ftc (PT 419) 1147 = some (1147, .iload 6, 2, 0, 0, 0) := by decide +kernel
theorem f_419_1149 : ftc (PT 419) 1149 = some (1149, .i2l, 1, 0, 0, 0) := by decide +kernel
theorem f_419_1150 : ftc (PT 419) 1150 = some (1150, .lcmp, 1, 0, 0, 0) := by decide +kernel
theorem f_419_1151 : ftc (PT 419) 1151 = some (1151, .ifCond .eq 5, 3, 1156, 0, 0) := by decide +kernel
theorem f_419_1154 : ftc (PT 419) 1154 = some (1154, .iconst 0, 1, 0, 0, 0) := by decide +kernel
theorem f_419_1155 : ftc (PT 419) 1155 = some (1155, .ireturn, 1, 1, 0, 0) := by decide +kernel
theorem f_419_1156 : ftc (PT 419) 1156 = some (1156, .goto 3761, 3, 4917, 0, 0) := by decide +kernel
theorem f_419_1159 : ftc (PT 419) 1159 = some (1159, .aload_n 1, 1, 0, 0, 0) := by decide +kernel
theorem f_419_1160 : ftc (PT 419) 1160 = some (1160, .aload_n 0, 1, 0, 0, 0) := by decide +kernel
theorem f_419_1161 : ftc (PT 419) 1161 = some (1161, .iload 4, 2, 0, 0, 0) := by decide +kernel
theorem f_419_1163 : ftc (PT 419) 1163 = some (1163, .iconst 1, 1, 0, 0, 0) := by decide +kernel
theorem f_419_1164 : ftc (PT 419) 1164 = some (1164, .iadd, 1, 0, 0, 0) := by decide +kernel
theorem f_419_1165 : ftc (PT 419) 1165 = some (1165, .iaload, 1, 0, 0, 0) := by decide +kernel
theorem f_419_1166 : ftc (PT 419) 1166 = some (1166, .aload_n 0, 1, 0, 0, 0) := by decide +kernel
theorem f_419_1167 : ftc (PT 419) 1167 = some (1167, .iload 4, 2, 0, 0, 0) := by decide +kernel
theorem f_419_1169 : ftc (PT 419) 1169 = some (1169, .iconst 2, 1, 0, 0, 0) := by decide +kernel
theorem f_419_1170 : ftc (PT 419) 1170 = some (1170, .iadd, 1, 0, 0, 0) := by decide +kernel
theorem f_419_1171 : ftc (PT 419) 1171 = some (1171, .iaload, 1, 0, 0, 0) := by decide +kernel
theorem f_419_1172 : ftc (PT 419) 1172 = some (1172, .aload_n 0, 1, 0, 0, 0) := by decide +kernel
theorem f_419_1173 : ftc (PT 419) 1173 = some (1173, .iload 4, 2, 0, 0, 0) := by decide +kernel
theorem f_419_1175 : ftc (PT 419) 1175 = some (1175, .iconst 3, 1, 0, 0, 0) := by decide +kernel
theorem f_419_1176 : ftc (PT 419) 1176 = some (1176, .iadd, 1, 0, 0, 0) := by decide +kernel
theorem f_419_1177 : ftc (PT 419) 1177 = some (1177, .iaload, 1, 0, 0, 0) := by decide +kernel
theorem f_419_1178 : ftc (PT 419) 1178 = some (1178, .aload_n 0, 1, 0, 0, 0) := by decide +kernel
theorem f_419_1179 : ftc (PT 419) 1179 = some (1179, .iload 4, 2, 0, 0, 0) := by decide +kernel
theorem f_419_1181 : ftc (PT 419) 1181 = some (1181, .iconst 4, 1, 0, 0, 0) := by decide +kernel
theorem f_419_1182 : ftc (PT 419) 1182 = some (1182, .iadd, 1, 0, 0, 0) := by decide +kernel
theorem f_419_1183 : ftc (PT 419) 1183 = some (1183, .iaload, 1, 0, 0, 0) := by decide +kernel
theorem f_419_1184 : ftc (PT 419) 1184 = some (1184, .ifCond .eq 7, 3, 1191, 0, 0) := by decide +kernel
theorem f_419_1187 : ftc (PT 419) 1187 = some (1187, .iconst 1, 1, 0, 0, 0) := by decide +kernel
theorem f_419_1188 : ftc (PT 419) 1188 = some (1188, .goto 4, 3, 1192, 0, 0) := by decide +kernel
theorem f_419_1191 : ftc (PT 419) 1191 = some (1191, .iconst 0, 1, 0, 0, 0) := by decide +kernel
theorem f_419_1192 : ftc (PT 419) 1192 = some (1192, .aload_n 3, 1, 0, 0, 0) := by decide +kernel
theorem f_419_1193 : ftc (PT 419) 1193 = some (1193, .invokestatic 248, 3, 379, 7174, 1029) := by decide +kernel
theorem f_419_1196 : ftc (PT 419) 1196 = some (1196, .istore 5, 2, 0, 0, 0) := by decide +kernel
theorem f_419_1198 : ftc (PT 419) 1198 = some (1198, .aload_n 2, 1, 0, 0, 0) := by decide +kernel
theorem f_419_1199 : ftc (PT 419) 1199 = some (1199, .aload_n 0, 1, 0, 0, 0) := by decide +kernel
theorem f_419_1200 : ftc (PT 419) 1200 = some (1200, .iload 4, 2, 0, 0, 0) := by decide +kernel
theorem f_419_1202 : ftc (PT 419) 1202 = some (1202, .iconst 1, 1, 0, 0, 0) := by decide +kernel
theorem f_419_1203 : ftc (PT 419) 1203 = some (1203, .iadd, 1, 0, 0, 0) := by decide +kernel
theorem f_419_1204 : ftc (PT 419) 1204 = some (1204, .iaload, 1, 0, 0, 0) := by decide +kernel
theorem f_419_1205 : ftc (PT 419) 1205 = some (1205, .aload_n 0, 1, 0, 0, 0) := by decide +kernel
theorem f_419_1206 : ftc (PT 419) 1206 = some (1206, .iload 4, 2, 0, 0, 0) := by decide +kernel
theorem f_419_1208 : ftc (PT 419) 1208 = some (1208, .iconst 2, 1, 0, 0, 0) := by decide +kernel
theorem f_419_1209 : ftc (PT 419) 1209 = some (1209, .iadd, 1, 0, 0, 0) := by decide +kernel
theorem f_419_1210 : ftc (PT 419) 1210 = some (1210, .iaload, 1, 0, 0, 0) := by decide +kernel
theorem f_419_1211 : ftc (PT 419) 1211 = some (1211, .aload_n 0, 1, 0, 0, 0) := by decide +kernel
theorem f_419_1212 : ftc (PT 419) 1212 = some (1212, .iload 4, 2, 0, 0, 0) := by decide +kernel
theorem f_419_1214 : ftc (PT 419) 1214 = some (1214, .iconst 3, 1, 0, 0, 0) := by decide +kernel
theorem f_419_1215 : ftc (PT 419) 1215 = some (1215, .iadd, 1, 0, 0, 0) := by decide +kernel
theorem f_419_1216 : ftc (PT 419) 1216 = some (1216, .iaload, 1, 0, 0, 0) := by decide +kernel
theorem f_419_1217 : ftc (PT 419) 1217 = some (1217, .aload_n 0, 1, 0, 0, 0) := by decide +kernel
theorem f_419_1218 : ftc (PT 419) 1218 = some (1218, .iload 4, 2, 0, 0, 0) := by decide +kernel
theorem f_419_1220 : ftc (PT 419) 1220 = some (1220, .iconst 4, 1, 0, 0, 0) := by decide +kernel
theorem f_419_1221 : ftc (PT 419) 1221 = some (1221, .iadd, 1, 0, 0, 0) := by decide +kernel
theorem f_419_1222 : ftc (PT 419) 1222 = some (1222, .iaload, 1, 0, 0, 0) := by decide +kernel
theorem f_419_1223 : ftc (PT 419) 1223 = some (1223, .ifCond .eq 7, 3, 1230, 0, 0) := by decide +kernel
theorem f_419_1226 : ftc (PT 419) 1226 = some (1226, .iconst 1, 1, 0, 0, 0) := by decide +kernel
theorem f_419_1227 : ftc (PT 419) 1227 = some (1227, .goto 4, 3, 1231, 0, 0) := by decide +kernel
theorem f_419_1230 : ftc (PT 419) 1230 = some (1230, .iconst 0, 1, 0, 0, 0) := by decide +kernel
theorem f_419_1231 : ftc (PT 419) 1231 = some (1231, .invokevirtual 251, 3, 244, 5260, 1889) := by decide +kernel
theorem f_419_1234 : ftc (PT 419) 1234 = some (1234, .istore 6, 2, 0, 0, 0) := by decide +kernel
theorem f_419_1236 : ftc (PT 419) 1236 = some (1236, .aload_n 2, 1, 0, 0, 0) := by decide +kernel
theorem f_419_1237 : ftc (PT 419) 1237 = some (1237, .invokevirtual 202, 3, 212, 1036, 1766) := by decide +kernel
theorem f_419_1240 : ftc (PT 419) 1240 = some (1240, .iload 5, 2, 0, 0, 0) := by decide +kernel
theorem f_419_1242 : ftc (PT 419) 1242 = some (1242, .if_icmp .eq 5, 3, 1247, 0, 0) := by decide +kernel
theorem f_419_1245 : ftc (PT 419) 1245 = some (1245, .iconst 0, 1, 0, 0, 0) := by decide +kernel
theorem f_419_1246 : ftc (PT 419) 1246 = some (1246, .ireturn, 1, 1, 0, 0) := by decide +kernel
theorem f_419_1247 : ftc (PT 419) 1247 = some (1247, .iload 5, 2, 0, 0, 0) := by decide +kernel
theorem f_419_1249 : ftc (PT 419) 1249 = some (1249, .ifCond .ne 15, 3, 1264, 0, 0) := by decide +kernel
theorem f_419_1252 : ftc (PT 419) 1252 = some (1252, .aload_n 3, 1, 0, 0, 0) := by decide +kernel
theorem f_419_1253 : ftc (PT 419) 1253 = some (1253, .iconst 0, 1, 0, 0, 0) := by decide +kernel
theorem f_419_1254 : ftc (PT 419) 1254 = some (1254, .laload, 1, 0, 0, 0) := by decide +kernel
theorem f_419_1255 : ftc (PT 419) 1255 = some (1255, .iload 6, 2, 0, 0, 0) := by decide +kernel
theorem f_419_1257 : ftc (PT 419) 1257 = some (1257, .i2l, 1, 0, 0, 0) := by decide +kernel
theorem f_419_1258 : ftc (PT 419) 1258 = some (1258, .lcmp, 1, 0, 0, 0) := by decide +kernel
theorem f_419_1259 : ftc (PT 419) 1259 = some (1259, .ifCond .eq 5, 3, 1264, 0, 0) := by decide +kernel
theorem f_419_1262 : ftc (PT 419) 1262 = some (1262, .iconst 0, 1, 0, 0, 0) := by decide +kernel
theorem f_419_1263 : ftc (PT 419) 1263 = some (1263, .ireturn, 1, 1, 0, 0) := by decide +kernel
theorem f_419_1264 : ftc (PT 419) 1264 = some (1264, .goto 3653, 3, 4917, 0, 0) := by decide +kernel
theorem f_419_1267 : ftc (PT 419) 1267 = some (1267, .aload_n 1, 1, 0, 0, 0) := by decide +kernel
theorem f_419_1268 : ftc (PT 419) 1268 = some (1268, .aload_n 0, 1, 0, 0, 0) := by decide +kernel
theorem f_419_1269 : ftc (PT 419) 1269 = some (1269, .iload 4, 2, 0, 0, 0) := by decide +kernel
theorem f_419_1271 : ftc (PT 419) 1271 = some (1271, .iconst 1, 1, 0, 0, 0) := by decide +kernel
theorem f_419_1272 : ftc (PT 419) 1272 = some (1272, .iadd, 1, 0, 0, 0) := by decide +kernel
theorem f_419_1273 : ftc (PT 419) 1273 = some (1273, .iaload, 1, 0, 0, 0) := by decide +kernel
theorem f_419_1274 : ftc (PT 419) 1274 = some (1274, .aload_n 0, 1, 0, 0, 0) := by decide +kernel
theorem f_419_1275 : ftc (PT 419) 1275 = some (1275, .iload 4, 2, 0, 0, 0) := by decide +kernel
theorem f_419_1277 : ftc (PT 419) 1277 = some (1277, .iconst 2, 1, 0, 0, 0) := by decide +kernel
theorem f_419_1278 : ftc (PT 419) 1278 = some (1278, .iadd, 1, 0, 0, 0) := by decide +kernel
theorem f_419_1279 : ftc (PT 419) 1279 = some (1279, .iaload, 1, 0, 0, 0) := by decide +kernel
theorem f_419_1280 : ftc (PT 419) 1280 = some (1280, .aload_n 0, 1, 0, 0, 0) := by decide +kernel
theorem f_419_1281 : ftc (PT 419) 1281 = some (1281, .iload 4, 2, 0, 0, 0) := by decide +kernel
theorem f_419_1283 : ftc (PT 419) 1283 = some (1283, .iconst 3, 1, 0, 0, 0) := by decide +kernel
theorem f_419_1284 : ftc (PT 419) 1284 = some (1284, .iadd, 1, 0, 0, 0) := by decide +kernel
theorem f_419_1285 : ftc (PT 419) 1285 = some (1285, .iaload, 1, 0, 0, 0) := by decide +kernel
theorem f_419_1286 : ftc (PT 419) 1286 = some (1286, .aload_n 0, 1, 0, 0, 0) := by decide +kernel
theorem f_419_1287 : ftc (PT 419) 1287 = some (1287, .iload 4, 2, 0, 0, 0) := by decide +kernel
theorem f_419_1289 : ftc (PT 419) 1289 = some (1289, .iconst 4, 1, 0, 0, 0) := by decide +kernel
theorem f_419_1290 : ftc (PT 419) 1290 = some (1290, .iadd, 1, 0, 0, 0) := by decide +kernel
theorem f_419_1291 : ftc (PT 419) 1291 = some (1291, .iaload, 1, 0, 0, 0) := by decide +kernel
theorem f_419_1292 : ftc (PT 419) 1292 = some (1292, .aload_n 0, 1, 0, 0, 0) := by decide +kernel
theorem f_419_1293 : ftc (PT 419) 1293 = some (1293, .iload 4, 2, 0, 0, 0) := by decide +kernel
theorem f_419_1295 : ftc (PT 419) 1295 = some (1295, .iconst 5, 1, 0, 0, 0) := by decide +kernel
theorem f_419_1296 : ftc (PT 419) 1296 = some (1296, .iadd, 1, 0, 0, 0) := by decide +kernel
theorem f_419_1297 : ftc (PT 419) 1297 = some (1297, .iaload, 1, 0, 0, 0) := by decide +kernel
theorem f_419_1298 : ftc (PT 419) 1298 = some (1298, .ifCond .eq 7, 3, 1305, 0, 0) := by decide +kernel
theorem f_419_1301 : ftc (PT 419) 1301 = some (1301, .iconst 1, 1, 0, 0, 0) := by decide +kernel
theorem f_419_1302 : ftc (PT 419) 1302 = some (1302, .goto 4, 3, 1306, 0, 0) := by decide +kernel
theorem f_419_1305 : ftc (PT 419) 1305 = some (1305, .iconst 0, 1, 0, 0, 0) := by decide +kernel
theorem f_419_1306 : ftc (PT 419) 1306 = some (1306, .aload_n 3, 1, 0, 0, 0) := by decide +kernel
theorem f_419_1307 : ftc (PT 419) 1307 = some (1307, .invokestatic 252, 3, 380, 8199, 1036) := by decide +kernel
theorem f_419_1310 : ftc (PT 419) 1310 = some (1310, .istore 5, 2, 0, 0, 0) := by decide +kernel
theorem f_419_1312 : ftc (PT 419) 1312 = some (1312, .aload_n 2, 1, 0, 0, 0) := by decide +kernel
theorem f_419_1313 : ftc (PT 419) 1313 = some (1313, .aload_n 0, 1, 0, 0, 0) := by decide +kernel
theorem f_419_1314 : ftc (PT 419) 1314 = some (1314, .iload 4, 2, 0, 0, 0) := by decide +kernel
theorem f_419_1316 : ftc (PT 419) 1316 = some (1316, .iconst 1, 1, 0, 0, 0) := by decide +kernel
theorem f_419_1317 : ftc (PT 419) 1317 = some (1317, .iadd, 1, 0, 0, 0) := by decide +kernel
theorem f_419_1318 : ftc (PT 419) 1318 = some (1318, .iaload, 1, 0, 0, 0) := by decide +kernel
theorem f_419_1319 : ftc (PT 419) 1319 = some (1319, .aload_n 0, 1, 0, 0, 0) := by decide +kernel
theorem f_419_1320 : ftc (PT 419) 1320 = some (1320, .iload 4, 2, 0, 0, 0) := by decide +kernel
theorem f_419_1322 : ftc (PT 419) 1322 = some (1322, .iconst 2, 1, 0, 0, 0) := by decide +kernel
theorem f_419_1323 : ftc (PT 419) 1323 = some (1323, .iadd, 1, 0, 0, 0) := by decide +kernel
theorem f_419_1324 : ftc (PT 419) 1324 = some (1324, .iaload, 1, 0, 0, 0) := by decide +kernel
theorem f_419_1325 : ftc (PT 419) 1325 = some (1325, .aload_n 0, 1, 0, 0, 0) := by decide +kernel
theorem f_419_1326 : ftc (PT 419) 1326 = some (1326, .iload 4, 2, 0, 0, 0) := by decide +kernel
theorem f_419_1328 : ftc (PT 419) 1328 = some (1328, .iconst 3, 1, 0, 0, 0) := by decide +kernel
theorem f_419_1329 : ftc (PT 419) 1329 = some (1329, .iadd, 1, 0, 0, 0) := by decide +kernel
theorem f_419_1330 : ftc (PT 419) 1330 = some (1330, .iaload, 1, 0, 0, 0) := by decide +kernel
theorem f_419_1331 : ftc (PT 419) 1331 = some (1331, .aload_n 0, 1, 0, 0, 0) := by decide +kernel
theorem f_419_1332 : ftc (PT 419) 1332 = some (1332, .iload 4, 2, 0, 0, 0) := by decide +kernel
theorem f_419_1334 : ftc (PT 419) 1334 = some (1334, .iconst 4, 1, 0, 0, 0) := by decide +kernel
theorem f_419_1335 : ftc (PT 419) 1335 = some (1335, .iadd, 1, 0, 0, 0) := by decide +kernel
theorem f_419_1336 : ftc (PT 419) 1336 = some (1336, .iaload, 1, 0, 0, 0) := by decide +kernel
theorem f_419_1337 : ftc (PT 419) 1337 = some (1337, .aload_n 0, 1, 0, 0, 0) := by decide +kernel
theorem f_419_1338 : ftc (PT 419) 1338 = some (1338, .iload 4, 2, 0, 0, 0) := by decide +kernel
theorem f_419_1340 : ftc (PT 419) 1340 = some (1340, .iconst 5, 1, 0, 0, 0) := by decide +kernel
theorem f_419_1341 : ftc (PT 419) 1341 = some (1341, .iadd, 1, 0, 0, 0) := by decide +kernel
theorem f_419_1342 : ftc (PT 419) 1342 = some (1342, .iaload, 1, 0, 0, 0) := by decide +kernel
theorem f_419_1343 : ftc (PT 419) 1343 = some (1343, .ifCond .eq 7, 3, 1350, 0, 0) := by decide +kernel
theorem f_419_1346 : ftc (PT 419) 1346 = some (1346, .iconst 1, 1, 0, 0, 0) := by decide +kernel
theorem f_419_1347 : ftc (PT 419) 1347 = some (1347, .goto 4, 3, 1351, 0, 0) := by decide +kernel
theorem f_419_1350 : ftc (PT 419) 1350 = some (1350, .iconst 0, 1, 0, 0, 0) := by decide +kernel
theorem f_419_1351 : ftc (PT 419) 1351 = some (1351, .invokevirtual 255, 3, 248, 6316, 1905) := by decide +kernel
theorem f_419_1354 : ftc (PT 419) 1354 = some (1354, .istore 6, 2, 0, 0, 0) := by decide +kernel
theorem f_419_1356 : ftc (PT 419) 1356 = some (1356, .aload_n 2, 1, 0, 0, 0) := by decide +kernel
theorem f_419_1357 : ftc (PT 419) 1357 = some (1357, .invokevirtual 202, 3, 212, 1036, 1766) := by decide +kernel
theorem f_419_1360 : ftc (PT 419) 1360 = some (1360, .iload 5, 2, 0, 0, 0) := by decide +kernel
theorem f_419_1362 : ftc (PT 419) 1362 = some (1362, .if_icmp .eq 5, 3, 1367, 0, 0) := by decide +kernel
theorem f_419_1365 : ftc (PT 419) 1365 = some (1365, .iconst 0, 1, 0, 0, 0) := by decide +kernel
theorem f_419_1366 : ftc (PT 419) 1366 = some (1366, .ireturn, 1, 1, 0, 0) := by decide +kernel
theorem f_419_1367 : ftc (PT 419) 1367 = some (1367, .iload 5, 2, 0, 0, 0) := by decide +kernel
theorem f_419_1369 : ftc (PT 419) 1369 = some (1369, .ifCond .ne 15, 3, 1384, 0, 0) := by decide +kernel
theorem f_419_1372 : ftc (PT 419) 1372 = some (1372, .aload_n 3, 1, 0, 0, 0) := by decide +kernel
theorem f_419_1373 : ftc (PT 419) 1373 = some (1373, .iconst 0, 1, 0, 0, 0) := by decide +kernel
theorem f_419_1374 : ftc (PT 419) 1374 = some (1374, .laload, 1, 0, 0, 0) := by decide +kernel
theorem f_419_1375 : ftc (PT 419) 1375 = some (1375, .iload 6, 2, 0, 0, 0) := by decide +kernel
theorem f_419_1377 : ftc (PT 419) 1377 = some (1377, .i2l, 1, 0, 0, 0) := by decide +kernel
theorem f_419_1378 : ftc (PT 419) 1378 = some (1378, .lcmp, 1, 0, 0, 0) := by decide +kernel
theorem f_419_1379 : ftc (PT 419) 1379 = some (1379, .ifCond .eq 5, 3, 1384, 0, 0) := by decide +kernel
theorem f_419_1382 : ftc (PT 419) 1382 = some (1382, .iconst 0, 1, 0, 0, 0) := by decide +kernel
theorem f_419_1383 : ftc (PT 419) 1383 = some (1383, .ireturn, 1, 1, 0, 0) := by decide +kernel
theorem f_419_1384 : ftc (PT 419) 1384 = some (1384, .goto 3533, 3, 4917, 0, 0) := by decide +kernel
theorem f_419_1387 : ftc (PT 419) 1387 = some (1387, .aload_n 1, 1, 0, 0, 0) := by decide +kernel
theorem f_419_1388 : ftc (PT 419) 1388 = some (1388, .aload_n 0, 1, 0, 0, 0) := by decide +kernel
theorem f_419_1389 : ftc (PT 419) 1389 = some (1389, .iload 4, 2, 0, 0, 0) := by decide +kernel
theorem f_419_1391 : ftc (PT 419) 1391 = some (1391, .iconst 1, 1, 0, 0, 0) := by decide +kernel
theorem f_419_1392 : ftc (PT 419) 1392 = some (1392, .iadd, 1, 0, 0, 0) := by decide +kernel
theorem f_419_1393 : ftc (PT 419) 1393 = some (1393, .iaload, 1, 0, 0, 0) := by decide +kernel
theorem f_419_1394 : ftc (PT 419) 1394 = some (1394, .aload_n 0, 1, 0, 0, 0) := by decide +kernel
theorem f_419_1395 : ftc (PT 419) 1395 = some (1395, .iload 4, 2, 0, 0, 0) := by decide +kernel
theorem f_419_1397 : ftc (PT 419) 1397 = some (1397, .iconst 2, 1, 0, 0, 0) := by decide +kernel
theorem f_419_1398 : ftc (PT 419) 1398 = some (1398, .iadd, 1, 0, 0, 0) := by decide +kernel
theorem f_419_1399 : ftc (PT 419) 1399 = some (1399, .iaload, 1, 0, 0, 0) := by decide +kernel
theorem f_419_1400 : ftc (PT 419) 1400 = some (1400, .aload_n 0, 1, 0, 0, 0) := by decide +kernel
theorem f_419_1401 : ftc (PT 419) 1401 = some (1401, .iload 4, 2, 0, 0, 0) := by decide +kernel
theorem f_419_1403 : ftc (PT 419) 1403 = some (1403, .iconst 3, 1, 0, 0, 0) := by decide +kernel
theorem f_419_1404 : ftc (PT 419) 1404 = some (1404, .iadd, 1, 0, 0, 0) := by decide +kernel
theorem f_419_1405 : ftc (PT 419) 1405 = some (1405, .iaload, 1, 0, 0, 0) := by decide +kernel
theorem f_419_1406 : ftc (PT 419) 1406 = some (1406, .aload_n 0, 1, 0, 0, 0) := by decide +kernel
theorem f_419_1407 : ftc (PT 419) 1407 = some (1407, .iload 4, 2, 0, 0, 0) := by decide +kernel
theorem f_419_1409 : ftc (PT 419) 1409 = some (1409, .iconst 4, 1, 0, 0, 0) := by decide +kernel
theorem f_419_1410 : ftc (PT 419) 1410 = some (1410, .iadd, 1, 0, 0, 0) := by decide +kernel
theorem f_419_1411 : ftc (PT 419) 1411 = some (1411, .iaload, 1, 0, 0, 0) := by decide +kernel
theorem f_419_1412 : ftc (PT 419) 1412 = some (1412, .aload_n 3, 1, 0, 0, 0) := by decide +kernel
theorem f_419_1413 : ftc (PT 419) 1413 = some (1413, .invokestatic 256, 3, 381, 7174, 1044) := by decide +kernel
theorem f_419_1416 : ftc (PT 419) 1416 = some (1416, .istore 5, 2, 0, 0, 0) := by decide +kernel
theorem f_419_1418 : ftc (PT 419) 1418 = some (1418, .aload_n 2, 1, 0, 0, 0) := by decide +kernel
theorem f_419_1419 : ftc (PT 419) 1419 = some (1419, .aload_n 0, 1, 0, 0, 0) := by decide +kernel
theorem f_419_1420 : ftc (PT 419) 1420 = some (1420, .iload 4, 2, 0, 0, 0) := by decide +kernel
theorem f_419_1422 : ftc (PT 419) 1422 = some (1422, .iconst 1, 1, 0, 0, 0) := by decide +kernel
theorem f_419_1423 : ftc (PT 419) 1423 = some (1423, .iadd, 1, 0, 0, 0) := by decide +kernel
theorem f_419_1424 : ftc (PT 419) 1424 = some (1424, .iaload, 1, 0, 0, 0) := by decide +kernel
theorem f_419_1425 : ftc (PT 419) 1425 = some (1425, .aload_n 0, 1, 0, 0, 0) := by decide +kernel
theorem f_419_1426 : ftc (PT 419) 1426 = some (1426, .iload 4, 2, 0, 0, 0) := by decide +kernel
theorem f_419_1428 : ftc (PT 419) 1428 = some (1428, .iconst 2, 1, 0, 0, 0) := by decide +kernel
theorem f_419_1429 : ftc (PT 419) 1429 = some (1429, .iadd, 1, 0, 0, 0) := by decide +kernel
theorem f_419_1430 : ftc (PT 419) 1430 = some (1430, .iaload, 1, 0, 0, 0) := by decide +kernel
theorem f_419_1431 : ftc (PT 419) 1431 = some (1431, .aload_n 0, 1, 0, 0, 0) := by decide +kernel
theorem f_419_1432 : ftc (PT 419) 1432 = some (1432, .iload 4, 2, 0, 0, 0) := by decide +kernel
theorem f_419_1434 : ftc (PT 419) 1434 = some (1434, .iconst 3, 1, 0, 0, 0) := by decide +kernel
theorem f_419_1435 : ftc (PT 419) 1435 = some (1435, .iadd, 1, 0, 0, 0) := by decide +kernel
theorem f_419_1436 : ftc (PT 419) 1436 = some (1436, .iaload, 1, 0, 0, 0) := by decide +kernel
theorem f_419_1437 : ftc (PT 419) 1437 = some (1437, .aload_n 0, 1, 0, 0, 0) := by decide +kernel
theorem f_419_1438 : ftc (PT 419) 1438 = some (1438, .iload 4, 2, 0, 0, 0) := by decide +kernel
theorem f_419_1440 : ftc (PT 419) 1440 = some (1440, .iconst 4, 1, 0, 0, 0) := by decide +kernel
theorem f_419_1441 : ftc (PT 419) 1441 = some (1441, .iadd, 1, 0, 0, 0) := by decide +kernel
theorem f_419_1442 : ftc (PT 419) 1442 = some (1442, .iaload, 1, 0, 0, 0) := by decide +kernel
theorem f_419_1443 : ftc (PT 419) 1443 = some (1443, .invokevirtual 259, 3, 249, 5260, 1909) := by decide +kernel
theorem f_419_1446 : ftc (PT 419) 1446 = some (1446, .istore 6, 2, 0, 0, 0) := by decide +kernel
theorem f_419_1448 : ftc (PT 419) 1448 = some (1448, .aload_n 2, 1, 0, 0, 0) := by decide +kernel
theorem f_419_1449 : ftc (PT 419) 1449 = some (1449, .invokevirtual 202, 3, 212, 1036, 1766) := by decide +kernel
theorem f_419_1452 : ftc (PT 419) 1452 = some (1452, .iload 5, 2, 0, 0, 0) := by decide +kernel
theorem f_419_1454 : ftc (PT 419) 1454 = some (1454, .if_icmp .eq 5, 3, 1459, 0, 0) := by decide +kernel
theorem f_419_1457 : ftc (PT 419) 1457 = some (1457, .iconst 0, 1, 0, 0, 0) := by decide +kernel
theorem f_419_1458 : ftc (PT 419) 1458 = some (1458, .ireturn, 1, 1, 0, 0) := by decide +kernel
theorem f_419_1459 : ftc (PT 419) 1459 = some (1459, .iload 5, 2, 0, 0, 0) := by decide +kernel
theorem f_419_1461 : ftc (PT 419) 1461 = some (1461, .ifCond .ne 15, 3, 1476, 0, 0) := by decide +kernel
theorem f_419_1464 : ftc (PT 419) 1464 = some (1464, .aload_n 3, 1, 0, 0, 0) := by decide +kernel
theorem f_419_1465 : ftc (PT 419) 1465 = some (1465, .iconst 0, 1, 0, 0, 0) := by decide +kernel
theorem f_419_1466 : ftc (PT 419) 1466 = some (1466, .laload, 1, 0, 0, 0) := by decide +kernel
theorem f_419_1467 : ftc (PT 419) 1467 = some (1467, .iload 6, 2, 0, 0, 0) := by decide +kernel
theorem f_419_1469 : ftc (PT 419) 1469 = some (1469, .i2l, 1, 0, 0, 0) := by decide +kernel
theorem f_419_1470 : ftc (PT 419) 1470 = some (1470, .lcmp, 1, 0, 0, 0) := by decide +kernel
theorem f_419_1471 : ftc (PT 419) 1471 = some (1471, .ifCond .eq 5, 3, 1476, 0, 0) := by decide +kernel
theorem f_419_1474 : ftc (PT 419) 1474 = some (1474, .iconst 0, 1, 0, 0, 0) := by decide +kernel
theorem f_419_1475 : ftc (PT 419) 1475 = some (1475, .ireturn, 1, 1, 0, 0) := by decide +kernel
theorem f_419_1476 : ftc (PT 419) 1476 = some (1476, .goto 3441, 3, 4917, 0, 0) := by decide +kernel
theorem f_419_1479 : ftc (PT 419) 1479 = some (1479, .aload_n 1, 1, 0, 0, 0) := by decide +kernel
theorem f_419_1480 : ftc (PT 419) 1480 = some (1480, .aload_n 0, 1, 0, 0, 0) := by decide +kernel
theorem f_419_1481 : ftc (PT 419) 1481 = some (1481, .iload 4, 2, 0, 0, 0) := by decide +kernel
theorem f_419_1483 : ftc (PT 419) 1483 = some (1483, .iconst 1, 1, 0, 0, 0) := by decide +kernel
theorem f_419_1484 : ftc (PT 419) 1484 = some (1484, .iadd, 1, 0, 0, 0) := by decide +kernel
theorem f_419_1485 : ftc (PT 419) 1485 = some (1485, .iaload, 1, 0, 0, 0) := by decide +kernel
theorem f_419_1486 : ftc (PT 419) 1486 = some (1486, .aload_n 0, 1, 0, 0, 0) := by decide +kernel
theorem f_419_1487 : ftc (PT 419) 1487 = some (1487, .iload 4, 2, 0, 0, 0) := by decide +kernel
theorem f_419_1489 : ftc (PT 419) 1489 = some (1489, .iconst 2, 1, 0, 0, 0) := by decide +kernel
theorem f_419_1490 : ftc (PT 419) 1490 = some (1490, .iadd, 1, 0, 0, 0) := by decide +kernel
theorem f_419_1491 : ftc (PT 419) 1491 = some (1491, .iaload, 1, 0, 0, 0) := by decide +kernel
theorem f_419_1492 : ftc (PT 419) 1492 = some (1492, .ifCond .eq 7, 3, 1499, 0, 0) := by decide +kernel
theorem f_419_1495 : ftc (PT 419) 1495 = some (1495, .iconst 1, 1, 0, 0, 0) := by decide +kernel
theorem f_419_1496 : ftc (PT 419) 1496 = some (1496, .goto 4, 3, 1500, 0, 0) := by decide +kernel
theorem f_419_1499 : ftc (PT 419) 1499 = some (1499, .iconst 0, 1, 0, 0, 0) := by decide +kernel
theorem f_419_1500 : ftc (PT 419) 1500 = some (1500, .aload_n 3, 1, 0, 0, 0) := by decide +kernel
theorem f_419_1501 : ftc (PT 419) 1501 = some (1501, .invokestatic 260, 3, 382, 5124, 1052) := by decide +kernel
theorem f_419_1504 : ftc (PT 419) 1504 = some (1504, .istore 5, 2, 0, 0, 0) := by decide +kernel
theorem f_419_1506 : ftc (PT 419) 1506 = some (1506, .aload_n 2, 1, 0, 0, 0) := by decide +kernel
theorem f_419_1507 : ftc (PT 419) 1507 = some (1507, .aload_n 0, 1, 0, 0, 0) := by decide +kernel
theorem f_419_1508 : ftc (PT 419) 1508 = some (1508, .iload 4, 2, 0, 0, 0) := by decide +kernel
theorem f_419_1510 : ftc (PT 419) 1510 = some (1510, .iconst 1, 1, 0, 0, 0) := by decide +kernel
theorem f_419_1511 : ftc (PT 419) 1511 = some (1511, .iadd, 1, 0, 0, 0) := by decide +kernel
theorem f_419_1512 : ftc (PT 419) 1512 = some (1512, .iaload, 1, 0, 0, 0) := by decide +kernel
theorem f_419_1513 : ftc (PT 419) 1513 = some (1513, .aload_n 0, 1, 0, 0, 0) := by decide +kernel
theorem f_419_1514 : ftc (PT 419) 1514 = some (1514, .iload 4, 2, 0, 0, 0) := by decide +kernel
theorem f_419_1516 : ftc (PT 419) 1516 = some (1516, .iconst 2, 1, 0, 0, 0) := by decide +kernel
theorem f_419_1517 : ftc (PT 419) 1517 = some (1517, .iadd, 1, 0, 0, 0) := by decide +kernel
theorem f_419_1518 : ftc (PT 419) 1518 = some (1518, .iaload, 1, 0, 0, 0) := by decide +kernel
theorem f_419_1519 : ftc (PT 419) 1519 = some (1519, .ifCond .eq 7, 3, 1526, 0, 0) := by decide +kernel
theorem f_419_1522 : ftc (PT 419) 1522 = some (1522, .iconst 1, 1, 0, 0, 0) := by decide +kernel
theorem f_419_1523 : ftc (PT 419) 1523 = some (1523, .goto 4, 3, 1527, 0, 0) := by decide +kernel
theorem f_419_1526 : ftc (PT 419) 1526 = some (1526, .iconst 0, 1, 0, 0, 0) := by decide +kernel
theorem f_419_1527 : ftc (PT 419) 1527 = some (1527, .invokevirtual 262, 3, 250, 3148, 1913) := by decide +kernel
theorem f_419_1530 : ftc (PT 419) 1530 = some (1530, .istore 6, 2, 0, 0, 0) := by decide +kernel
theorem f_419_1532 : ftc (PT 419) 1532 = some (1532, .aload_n 2, 1, 0, 0, 0) := by decide +kernel
theorem f_419_1533 : ftc (PT 419) 1533 = some (1533, .invokevirtual 202, 3, 212, 1036, 1766) := by decide +kernel
theorem f_419_1536 : ftc (PT 419) 1536 = some (1536, .iload 5, 2, 0, 0, 0) := by decide +kernel
theorem f_419_1538 : ftc (PT 419) 1538 = some (1538, .if_icmp .eq 5, 3, 1543, 0, 0) := by decide +kernel
theorem f_419_1541 : ftc (PT 419) 1541 = some (1541, .iconst 0, 1, 0, 0, 0) := by decide +kernel
theorem f_419_1542 : ftc (PT 419) 1542 = some (1542, .ireturn, 1, 1, 0, 0) := by decide +kernel
theorem f_419_1543 : ftc (PT 419) 1543 = some (1543, .iload 5, 2, 0, 0, 0) := by decide +kernel
theorem f_419_1545 : ftc (PT 419) 1545 = some (1545, .ifCond .ne 15, 3, 1560, 0, 0) := by decide +kernel
theorem f_419_1548 : ftc (PT 419) 1548 = some (1548, .aload_n 3, 1, 0, 0, 0) := by decide +kernel
theorem f_419_1549 : ftc (PT 419) 1549 = some (1549, .iconst 0, 1, 0, 0, 0) := by decide +kernel
theorem f_419_1550 : ftc (PT 419) 1550 = some (1550, .laload, 1, 0, 0, 0) := by decide +kernel
theorem f_419_1551 : ftc (PT 419) 1551 = some (1551, .iload 6, 2, 0, 0, 0) := by decide +kernel
theorem f_419_1553 : ftc (PT 419) 1553 = some (1553, .i2l, 1, 0, 0, 0) := by decide +kernel
theorem f_419_1554 : ftc (PT 419) 1554 = some (1554, .lcmp, 1, 0, 0, 0) := by decide +kernel
theorem f_419_1555 : ftc (PT 419) 1555 = some (1555, .ifCond .eq 5, 3, 1560, 0, 0) := by decide +kernel
theorem f_419_1558 : ftc (PT 419) 1558 = some (1558, .iconst 0, 1, 0, 0, 0) := by decide +kernel
theorem f_419_1559 : ftc (PT 419) 1559 = some (1559, .ireturn, 1, 1, 0, 0) := by decide +kernel
theorem f_419_1560 : ftc (PT 419) 1560 = some (1560, .goto 3357, 3, 4917, 0, 0) := by decide +kernel
theorem f_419_1563 : ftc (PT 419) 1563 = some (1563, .aload_n 1, 1, 0, 0, 0) := by decide +kernel
theorem f_419_1564 : ftc (PT 419) 1564 = some (1564, .aload_n 0, 1, 0, 0, 0) := by decide +kernel
theorem f_419_1565 : ftc (PT 419) 1565 = some (1565, .iload 4, 2, 0, 0, 0) := by decide +kernel
theorem f_419_1567 : ftc (PT 419) 1567 = some (1567, .iconst 1, 1, 0, 0, 0) := by decide +kernel
theorem f_419_1568 : ftc (PT 419) 1568 = some (1568, .iadd, 1, 0, 0, 0) := by decide +kernel
theorem f_419_1569 : ftc (PT 419) 1569 = some (1569, .iaload, 1, 0, 0, 0) := by decide +kernel
theorem f_419_1570 : ftc (PT 419) 1570 = some (1570, .aload_n 0, 1, 0, 0, 0) := by decide +kernel
theorem f_419_1571 : ftc (PT 419) 1571 = some (1571, .iload 4, 2, 0, 0, 0) := by decide +kernel
theorem f_419_1573 : ftc (PT 419) 1573 = some (1573, .iconst 2, 1, 0, 0, 0) := by decide +kernel
theorem f_419_1574 : ftc (PT 419) 1574 = some (1574, .iadd, 1, 0, 0, 0) := by decide +kernel
theorem f_419_1575 : ftc (PT 419) 1575 = some (1575, .iaload, 1, 0, 0, 0) := by decide +kernel
theorem f_419_1576 : ftc (PT 419) 1576 = some (1576, .ifCond .eq 7, 3, 1583, 0, 0) := by decide +kernel
theorem f_419_1579 : ftc (PT 419) 1579 = some (1579, .iconst 1, 1, 0, 0, 0) := by decide +kernel
theorem f_419_1580 : ftc (PT 419) 1580 = some (1580, .goto 4, 3, 1584, 0, 0) := by decide +kernel
theorem f_419_1583 : ftc (PT 419) 1583 = some (1583, .iconst 0, 1, 0, 0, 0) := by decide +kernel
theorem f_419_1584 : ftc (PT 419) 1584 = some (1584, .aload_n 0, 1, 0, 0, 0) := by decide +kernel
theorem f_419_1585 : ftc (PT 419) 1585 = some (1585, .iload 4, 2, 0, 0, 0) := by decide +kernel
theorem f_419_1587 : ftc (PT 419) 1587 = some (1587, .iconst 3, 1, 0, 0, 0) := by decide +kernel
theorem f_419_1588 : ftc (PT 419) 1588 = some (1588, .iadd, 1, 0, 0, 0) := by decide +kernel
theorem f_419_1589 : ftc (PT 419) 1589 = some (1589, .iaload, 1, 0, 0, 0) := by decide +kernel
theorem f_419_1590 : ftc (PT 419) 1590 = some (1590, .aload_n 3, 1, 0, 0, 0) := by decide +kernel
theorem f_419_1591 : ftc (PT 419) 1591 = some (1591, .invokestatic 263, 3, 383, 6149, 1111) := by decide +kernel
theorem f_419_1594 : ftc (PT 419) 1594 = some (1594, .istore 5, 2, 0, 0, 0) := by decide +kernel
theorem f_419_1596 : ftc (PT 419) 1596 = some (1596, .aload_n 2, 1, 0, 0, 0) := by decide +kernel
theorem f_419_1597 : ftc (PT 419) 1597 = some (1597, .aload_n 0, 1, 0, 0, 0) := by decide +kernel
theorem f_419_1598 : ftc (PT 419) 1598 = some (1598, .iload 4, 2, 0, 0, 0) := by decide +kernel
theorem f_419_1600 : ftc (PT 419) 1600 = some (1600, .iconst 1, 1, 0, 0, 0) := by decide +kernel
theorem f_419_1601 : ftc (PT 419) 1601 = some (1601, .iadd, 1, 0, 0, 0) := by decide +kernel
theorem f_419_1602 : ftc (PT 419) 1602 = some (1602, .iaload, 1, 0, 0, 0) := by decide +kernel
theorem f_419_1603 : ftc (PT 419) 1603 = some (1603, .aload_n 0, 1, 0, 0, 0) := by decide +kernel
theorem f_419_1604 : ftc (PT 419) 1604 = some (1604, .iload 4, 2, 0, 0, 0) := by decide +kernel
theorem f_419_1606 : ftc (PT 419) 1606 = some (1606, .iconst 2, 1, 0, 0, 0) := by decide +kernel
theorem f_419_1607 : ftc (PT 419) 1607 = some (1607, .iadd, 1, 0, 0, 0) := by decide +kernel
theorem f_419_1608 : ftc (PT 419) 1608 = some (1608, .iaload, 1, 0, 0, 0) := by decide +kernel
theorem f_419_1609 : ftc (PT 419) 1609 = some (1609, .ifCond .eq 7, 3, 1616, 0, 0) := by decide +kernel
theorem f_419_1612 : ftc (PT 419) 1612 = some (1612, .iconst 1, 1, 0, 0, 0) := by decide +kernel
theorem f_419_1613 : ftc (PT 419) 1613 = some (1613, .goto 4, 3, 1617, 0, 0) := by decide +kernel
theorem f_419_1616 : ftc (PT 419) 1616 = some (1616, .iconst 0, 1, 0, 0, 0) := by decide +kernel
theorem f_419_1617 : ftc (PT 419) 1617 = some (1617, .aload_n 0, 1, 0, 0, 0) := by decide +kernel
theorem f_419_1618 : ftc (PT 419) 1618 = some (1618, .iload 4, 2, 0, 0, 0) := by decide +kernel
theorem f_419_1620 : ftc (PT 419) 1620 = some (1620, .iconst 3, 1, 0, 0, 0) := by decide +kernel
theorem f_419_1621 : ftc (PT 419) 1621 = some (1621, .iadd, 1, 0, 0, 0) := by decide +kernel
theorem f_419_1622 : ftc (PT 419) 1622 = some (1622, .iaload, 1, 0, 0, 0) := by decide +kernel
theorem f_419_1623 : ftc (PT 419) 1623 = some (1623, .invokevirtual 266, 3, 255, 4204, 1934) := by decide +kernel
theorem f_419_1626 : ftc (PT 419) 1626 = some (1626, .istore 6, 2, 0, 0, 0) := by decide +kernel
theorem f_419_1628 : ftc (PT 419) 1628 = some (1628, .aload_n 2, 1, 0, 0, 0) := by decide +kernel
theorem f_419_1629 : ftc (PT 419) 1629 = some (1629, .invokevirtual 202, 3, 212, 1036, 1766) := by decide +kernel
theorem f_419_1632 : ftc (PT 419) 1632 = some (1632, .iload 5, 2, 0, 0, 0) := by decide +kernel
theorem f_419_1634 : ftc (PT 419) 1634 = some (1634, .if_icmp .eq 5, 3, 1639, 0, 0) := by decide +kernel
theorem f_419_1637 : ftc (PT 419) 1637 = some (1637, .iconst 0, 1, 0, 0, 0) := by decide +kernel
theorem f_419_1638 : ftc (PT 419) 1638 = some (1638, .ireturn, 1, 1, 0, 0) := by decide +kernel
theorem f_419_1639 : ftc (PT 419) 1639 = some (1639, .iload 5, 2, 0, 0, 0) := by decide +kernel
theorem f_419_1641 : ftc (PT 419) 1641 = some (1641, .ifCond .ne 22, 3, 1663, 0, 0) := by decide +kernel
theorem f_419_1644 : ftc (PT 419) 1644 = some (1644, .aload_n 3, 1, 0, 0, 0) := by decide +kernel
theorem f_419_1645 : ftc (PT 419) 1645 = some (1645, .iconst 0, 1, 0, 0, 0) := by decide +kernel
theorem f_419_1646 : ftc (PT 419) 1646 = some (1646, .laload, 1, 0, 0, 0) := by decide +kernel
theorem f_419_1647 : ftc (PT 419) 1647 = some (1647, .iload 6, 2, 0, 0, 0) := by decide +kernel
theorem f_419_1649 : ftc (PT 419) 1649 = some (1649, .ifCond .eq 7, 3, 1656, 0, 0) := by decide +kernel
theorem f_419_1652 : ftc (PT 419) 1652 = some (1652, .lconst 1, 1, 0, 0, 0) := by decide +kernel
theorem f_419_1653 : ftc (PT 419) 1653 = some (1653, .goto 4, 3, 1657, 0, 0) := by decide +kernel
theorem f_419_1656 : ftc (PT 419) 1656 = some (1656, .lconst 0, 1, 0, 0, 0) := by decide +kernel
theorem f_419_1657 : ftc (PT 419) 1657 = some (1657, .lcmp, 1, 0, 0, 0) := by decide +kernel
theorem f_419_1658 : ftc (PT 419) 1658 = some (1658, .ifCond .eq 5, 3, 1663, 0, 0) := by decide +kernel
theorem f_419_1661 : ftc (PT 419) 1661 = some (1661, .iconst 0, 1, 0, 0, 0) := by decide +kernel
theorem f_419_1662 : ftc (PT 419) 1662 = some (1662, .ireturn, 1, 1, 0, 0) := by decide +kernel
theorem f_419_1663 : ftc (PT 419) 1663 = some (1663, .goto 3254, 3, 4917, 0, 0) := by decide +kernel
theorem f_419_1666 : ftc (PT 419) 1666 = some (1666, .aload_n 1, 1, 0, 0, 0) := by decide +kernel
theorem f_419_1667 : ftc (PT 419) 1667 = some (1667, .aload_n 0, 1, 0, 0, 0) := by decide +kernel
theorem f_419_1668 : ftc (PT 419) 1668 = some (1668, .iload 4, 2, 0, 0, 0) := by decide +kernel
theorem f_419_1670 : ftc (PT 419) 1670 = some (1670, .iconst 1, 1, 0, 0, 0) := by decide +kernel
theorem f_419_1671 : ftc (PT 419) 1671 = some (1671, .iadd, 1, 0, 0, 0) := by decide +kernel
theorem f_419_1672 : ftc (PT 419) 1672 = some (1672, .iaload, 1, 0, 0, 0) := by decide +kernel
theorem f_419_1673 : ftc (PT 419) 1673 = some (1673, .aload_n 0, 1, 0, 0, 0) := by decide +kernel
theorem f_419_1674 : ftc (PT 419) 1674 = some (1674, .iload 4, 2, 0, 0, 0) := by decide +kernel
theorem f_419_1676 : ftc (PT 419) 1676 = some (1676, .iconst 2, 1, 0, 0, 0) := by decide +kernel
theorem f_419_1677 : ftc (PT 419) 1677 = some (1677, .iadd, 1, 0, 0, 0) := by decide +kernel
theorem f_419_1678 : ftc (PT 419) 1678 = some (1678, .iaload, 1, 0, 0, 0) := by decide +kernel
theorem f_419_1679 : ftc (PT 419) 1679 = some (1679, .ifCond .eq 7, 3, 1686, 0, 0) := by decide +kernel
theorem f_419_1682 : ftc (PT 419) 1682 = some (1682, .iconst 1, 1, 0, 0, 0) := by decide +kernel
theorem f_419_1683 : ftc (PT 419) 1683 = some (1683, .goto 4, 3, 1687, 0, 0) := by decide +kernel
theorem f_419_1686 : ftc (PT 419) 1686 = some (1686, .iconst 0, 1, 0, 0, 0) := by decide +kernel
theorem f_419_1687 : ftc (PT 419) 1687 = some (1687, .aload_n 0, 1, 0, 0, 0) := by decide +kernel
theorem f_419_1688 : ftc (PT 419) 1688 = some (1688, .iload 4, 2, 0, 0, 0) := by decide +kernel
theorem f_419_1690 : ftc (PT 419) 1690 = some (1690, .iconst 3, 1, 0, 0, 0) := by decide +kernel
theorem f_419_1691 : ftc (PT 419) 1691 = some (1691, .iadd, 1, 0, 0, 0) := by decide +kernel
theorem f_419_1692 : ftc (PT 419) 1692 = some (1692, .iaload, 1, 0, 0, 0) := by decide +kernel
theorem f_419_1693 : ftc (PT 419) 1693 = some (1693, .aload_n 0, 1, 0, 0, 0) := by decide +kernel
theorem f_419_1694 : ftc (PT 419) 1694 = some (1694, .iload 4, 2, 0, 0, 0) := by decide +kernel
theorem f_419_1696 : ftc (PT 419) 1696 = some (1696, .iconst 4, 1, 0, 0, 0) := by decide +kernel
theorem f_419_1697 : ftc (PT 419) 1697 = some (1697, .iadd, 1, 0, 0, 0) := by decide +kernel
theorem f_419_1698 : ftc (PT 419) 1698 = some (1698, .iaload, 1, 0, 0, 0) := by decide +kernel
theorem f_419_1699 : ftc (PT 419) 1699 = some (1699, .ifCond .eq 7, 3, 1706, 0, 0) := by decide +kernel
theorem f_419_1702 : ftc (PT 419) 1702 = some (1702, .iconst 1, 1, 0, 0, 0) := by decide +kernel
theorem f_419_1703 : ftc (PT 419) 1703 = some (1703, .goto 4, 3, 1707, 0, 0) := by decide +kernel
theorem f_419_1706 : ftc (PT 419) 1706 = some (1706, .iconst 0, 1, 0, 0, 0) := by decide +kernel
theorem f_419_1707 : ftc (PT 419) 1707 = some (1707, .aload_n 3, 1, 0, 0, 0) := by decide +kernel
theorem f_419_1708 : ftc (PT 419) 1708 = some (1708, .invokestatic 267, 3, 384, 7174, 1122) := by decide +kernel
theorem f_419_1711 : ftc (PT 419) 1711 = some (1711, .istore 5, 2, 0, 0, 0) := by decide +kernel
theorem f_419_1713 : ftc (PT 419) 1713 = some (1713, .aload_n 2, 1, 0, 0, 0) := by decide +kernel
theorem f_419_1714 : ftc (PT 419) 1714 = some (1714, .aload_n 0, 1, 0, 0, 0) := by decide +kernel
theorem f_419_1715 : ftc (PT 419) 1715 = some (1715, .iload 4, 2, 0, 0, 0) := by decide +kernel
theorem f_419_1717 : ftc (PT 419) 1717 = some (1717, .iconst 1, 1, 0, 0, 0) := by decide +kernel
theorem f_419_1718 : ftc (PT 419) 1718 = some (1718, .iadd, 1, 0, 0, 0) := by decide +kernel
theorem f_419_1719 : ftc (PT 419) 1719 = some (1719, .iaload, 1, 0, 0, 0) := by decide +kernel
theorem f_419_1720 : ftc (PT 419) 1720 = some (1720, .aload_n 0, 1, 0, 0, 0) := by decide +kernel
theorem f_419_1721 : ftc (PT 419) 1721 = some (1721, .iload 4, 2, 0, 0, 0) := by decide +kernel
theorem f_419_1723 : ftc (PT 419) 1723 = some (1723, .iconst 2, 1, 0, 0, 0) := by decide +kernel
theorem f_419_1724 : ftc (PT 419) 1724 = some (1724, .iadd, 1, 0, 0, 0) := by decide +kernel
theorem f_419_1725 : ftc (PT 419) 1725 = some (1725, .iaload, 1, 0, 0, 0) := by decide +kernel
theorem f_419_1726 : ftc (PT 419) 1726 = some (1726, .ifCond .eq 7, 3, 1733, 0, 0) := by decide +kernel
theorem f_419_1729 : ftc (PT 419) 1729 = some (1729, .iconst 1, 1, 0, 0, 0) := by decide +kernel
theorem f_419_1730 : ftc (PT 419) 1730 = some (1730, .goto 4, 3, 1734, 0, 0) := by decide +kernel
theorem f_419_1733 : ftc (PT 419) 1733 = some (1733, .iconst 0, 1, 0, 0, 0) := by decide +kernel
theorem f_419_1734 : ftc (PT 419) 1734 = some (1734, .aload_n 0, 1, 0, 0, 0) := by decide +kernel
theorem f_419_1735 : ftc (PT 419) 1735 = some (1735, .iload 4, 2, 0, 0, 0) := by decide +kernel
theorem f_419_1737 : ftc (PT 419) 1737 = some (1737, .iconst 3, 1, 0, 0, 0) := by decide +kernel
theorem f_419_1738 : ftc (PT 419) 1738 = some (1738, .iadd, 1, 0, 0, 0) := by decide +kernel
theorem f_419_1739 : ftc (PT 419) 1739 = some (1739, .iaload, 1, 0, 0, 0) := by decide +kernel
theorem f_419_1740 : ftc (PT 419) 1740 = some (1740, .aload_n 0, 1, 0, 0, 0) := by decide +kernel
theorem f_419_1741 : ftc (PT 419) 1741 = some (1741, .iload 4, 2, 0, 0, 0) := by decide +kernel
theorem f_419_1743 : ftc (PT 419) 1743 = some (1743, .iconst 4, 1, 0, 0, 0) := by decide +kernel
theorem f_419_1744 : ftc (PT 419) 1744 = some (1744, .iadd, 1, 0, 0, 0) := by decide +kernel
theorem f_419_1745 : ftc (PT 419) 1745 = some (1745, .iaload, 1, 0, 0, 0) := by decide +kernel
theorem f_419_1746 : ftc (PT 419) 1746 = some (1746, .ifCond .eq 7, 3, 1753, 0, 0) := by decide +kernel
theorem f_419_1749 : ftc (PT 419) 1749 = some (1749, .iconst 1, 1, 0, 0, 0) := by decide +kernel
theorem f_419_1750 : ftc (PT 419) 1750 = some (1750, .goto 4, 3, 1754, 0, 0) := by decide +kernel
theorem f_419_1753 : ftc (PT 419) 1753 = some (1753, .iconst 0, 1, 0, 0, 0) := by decide +kernel
theorem f_419_1754 : ftc (PT 419) 1754 = some (1754, .invokevirtual 270, 3, 258, 5260, 1946) := by decide +kernel
theorem f_419_1757 : ftc (PT 419) 1757 = some (1757, .lstore 6, 2, 0, 0, 0) := by decide +kernel
theorem f_419_1759 : ftc (PT 419) 1759 = some (1759, .aload_n 2, 1, 0, 0, 0) := by decide +kernel
theorem f_419_1760 : ftc (PT 419) 1760 = some (1760, .invokevirtual 202, 3, 212, 1036, 1766) := by decide +kernel
theorem f_419_1763 : ftc (PT 419) 1763 = some (1763, .iload 5, 2, 0, 0, 0) := by decide +kernel
theorem f_419_1765 : ftc (PT 419) 1765 = some (1765, .if_icmp .eq 5, 3, 1770, 0, 0) := by decide +kernel
theorem f_419_1768 : ftc (PT 419) 1768 = some (1768, .iconst 0, 1, 0, 0, 0) := by decide +kernel
theorem f_419_1769 : ftc (PT 419) 1769 = some (1769, .ireturn, 1, 1, 0, 0) := by decide +kernel
theorem f_419_1770 : ftc (PT 419) 1770 = some (1770, .iload 5, 2, 0, 0, 0) := by decide +kernel
theorem f_419_1772 : ftc (PT 419) 1772 = some (1772, .ifCond .ne 14, 3, 1786, 0, 0) := by decide +kernel
theorem f_419_1775 : ftc (PT 419) 1775 = some (1775, .aload_n 3, 1, 0, 0, 0) := by decide +kernel
theorem f_419_1776 : ftc (PT 419) 1776 = some (1776, .iconst 0, 1, 0, 0, 0) := by decide +kernel
theorem f_419_1777 : ftc (PT 419) 1777 = some (1777, .laload, 1, 0, 0, 0) := by decide +kernel
theorem f_419_1778 : ftc (PT 419) 1778 = some (1778, .lload 6, 2, 0, 0, 0) := by decide +kernel
theorem f_419_1780 : ftc (PT 419) 1780 = some (1780, .lcmp, 1, 0, 0, 0) := by decide +kernel
theorem f_419_1781 : ftc (PT 419) 1781 = some (1781, .ifCond .eq 5, 3, 1786, 0, 0) := by decide +kernel
theorem f_419_1784 : ftc (PT 419) 1784 = some (1784, .iconst 0, 1, 0, 0, 0) := by decide +kernel
theorem f_419_1785 : ftc (PT 419) 1785 = some (1785, .ireturn, 1, 1, 0, 0) := by decide +kernel
theorem f_419_1786 : ftc (PT 419) 1786 = some (1786, .goto 3131, 3, 4917, 0, 0) := by decide +kernel
theorem f_419_1789 : ftc (PT 419) 1789 = some (1789, .aload_n 1, 1, 0, 0, 0) := by decide +kernel
theorem f_419_1790 : ftc (PT 419) 1790 = some (1790, .aload_n 0, 1, 0, 0, 0) := by decide +kernel
theorem f_419_1791 : ftc (PT 419) 1791 = some (1791, .iload 4, 2, 0, 0, 0) := by decide +kernel
theorem f_419_1793 : ftc (PT 419) 1793 = some (1793, .iconst 1, 1, 0, 0, 0) := by decide +kernel
theorem f_419_1794 : ftc (PT 419) 1794 = some (1794, .iadd, 1, 0, 0, 0) := by decide +kernel
theorem f_419_1795 : ftc (PT 419) 1795 = some (1795, .iaload, 1, 0, 0, 0) := by decide +kernel
theorem f_419_1796 : ftc (PT 419) 1796 = some (1796, .aload_n 0, 1, 0, 0, 0) := by decide +kernel
theorem f_419_1797 : ftc (PT 419) 1797 = some (1797, .iload 4, 2, 0, 0, 0) := by decide +kernel
theorem f_419_1799 : ftc (PT 419) 1799 = some (1799, .iconst 2, 1, 0, 0, 0) := by decide +kernel
theorem f_419_1800 : ftc (PT 419) 1800 = some (1800, .iadd, 1, 0, 0, 0) := by decide +kernel
theorem f_419_1801 : ftc (PT 419) 1801 = some (1801, .iaload, 1, 0, 0, 0) := by decide +kernel
theorem f_419_1802 : ftc (PT 419) 1802 = some (1802, .ifCond .eq 7, 3, 1809, 0, 0) := by decide +kernel
theorem f_419_1805 : ftc (PT 419) 1805 = some (1805, .iconst 1, 1, 0, 0, 0) := by decide +kernel
theorem f_419_1806 : ftc (PT 419) 1806 = some (1806, .goto 4, 3, 1810, 0, 0) := by decide +kernel
theorem f_419_1809 : ftc (PT 419) 1809 = some (1809, .iconst 0, 1, 0, 0, 0) := by decide +kernel
theorem f_419_1810 : ftc (PT 419) 1810 = some (1810, .aload_n 0, 1, 0, 0, 0) := by decide +kernel
theorem f_419_1811 : ftc (PT 419) 1811 = some (1811, .iload 4, 2, 0, 0, 0) := by decide +kernel
theorem f_419_1813 : ftc (PT 419) 1813 = some (1813, .iconst 3, 1, 0, 0, 0) := by decide +kernel
theorem f_419_1814 : ftc (PT 419) 1814 = some (1814, .iadd, 1, 0, 0, 0) := by decide +kernel
theorem f_419_1815 : ftc (PT 419) 1815 = some (1815, .iaload, 1, 0, 0, 0) := by decide +kernel
theorem f_419_1816 : ftc (PT 419) 1816 = some (1816, .aload_n 3, 1, 0, 0, 0) := by decide +kernel
theorem f_419_1817 : ftc (PT 419) 1817 = some (1817, .invokestatic 271, 3, 385, 6149, 1143) := by decide +kernel
theorem f_419_1820 : ftc (PT 419) 1820 = some (1820, .istore 5, 2, 0, 0, 0) := by decide +kernel
theorem f_419_1822 : ftc (PT 419) 1822 = some (1822, .aload_n 2, 1, 0, 0, 0) := by decide +kernel
theorem f_419_1823 : ftc (PT 419) 1823 = some (1823, .aload_n 0, 1, 0, 0, 0) := by decide +kernel
theorem f_419_1824 : ftc (PT 419) 1824 = some (1824, .iload 4, 2, 0, 0, 0) := by decide +kernel
theorem f_419_1826 : ftc (PT 419) 1826 = some (1826, .iconst 1, 1, 0, 0, 0) := by decide +kernel
theorem f_419_1827 : ftc (PT 419) 1827 = some (1827, .iadd, 1, 0, 0, 0) := by decide +kernel
theorem f_419_1828 : ftc (PT 419) 1828 = some (1828, .iaload, 1, 0, 0, 0) := by decide +kernel
theorem f_419_1829 : ftc (PT 419) 1829 = some (1829, .aload_n 0, 1, 0, 0, 0) := by decide +kernel
theorem f_419_1830 : ftc (PT 419) 1830 = some (1830, .iload 4, 2, 0, 0, 0) := by decide +kernel
theorem f_419_1832 : ftc (PT 419) 1832 = some (1832, .iconst 2, 1, 0, 0, 0) := by decide +kernel
theorem f_419_1833 : ftc (PT 419) 1833 = some (1833, .iadd, 1, 0, 0, 0) := by decide +kernel
theorem f_419_1834 : ftc (PT 419) 1834 = some (1834, .iaload, 1, 0, 0, 0) := by decide +kernel
theorem f_419_1835 : ftc (PT 419) 1835 = some (1835, .ifCond .eq 7, 3, 1842, 0, 0) := by decide +kernel
theorem f_419_1838 : ftc (PT 419) 1838 = some (1838, .iconst 1, 1, 0, 0, 0) := by decide +kernel
theorem f_419_1839 : ftc (PT 419) 1839 = some (1839, .goto 4, 3, 1843, 0, 0) := by decide +kernel
theorem f_419_1842 : ftc (PT 419) 1842 = some (1842, .iconst 0, 1, 0, 0, 0) := by decide +kernel
theorem f_419_1843 : ftc (PT 419) 1843 = some (1843, .aload_n 0, 1, 0, 0, 0) := by decide +kernel
theorem f_419_1844 : ftc (PT 419) 1844 = some (1844, .iload 4, 2, 0, 0, 0) := by decide +kernel
theorem f_419_1846 : ftc (PT 419) 1846 = some (1846, .iconst 3, 1, 0, 0, 0) := by decide +kernel
theorem f_419_1847 : ftc (PT 419) 1847 = some (1847, .iadd, 1, 0, 0, 0) := by decide +kernel
theorem f_419_1848 : ftc (PT 419) 1848 = some (1848, .iaload, 1, 0, 0, 0) := by decide +kernel
theorem f_419_1849 : ftc (PT 419) 1849 = some (1849, .invokevirtual 273, 3, 266, 13420, 1978) := by decide +kernel
theorem f_419_1852 : ftc (PT 419) 1852 = some (1852, .lstore 6, 2, 0, 0, 0) := by decide +kernel
theorem f_419_1854 : ftc (PT 419) 1854 = some (1854, .aload_n 2, 1, 0, 0, 0) := by decide +kernel
theorem f_419_1855 : ftc (PT 419) 1855 = some (1855, .invokevirtual 202, 3, 212, 1036, 1766) := by decide +kernel
theorem f_419_1858 : ftc (PT 419) 1858 = some (1858, .iload 5, 2, 0, 0, 0) := by decide +kernel
theorem f_419_1860 : ftc (PT 419) 1860 = some (1860, .if_icmp .eq 5, 3, 1865, 0, 0) := by decide +kernel
theorem f_419_1863 : ftc (PT 419) 1863 = some (1863, .iconst 0, 1, 0, 0, 0) := by decide +kernel
theorem f_419_1864 : ftc (PT 419) 1864 = some (1864, .ireturn, 1, 1, 0, 0) := by decide +kernel
theorem f_419_1865 : ftc (PT 419) 1865 = some (1865, .iload 5, 2, 0, 0, 0) := by decide +kernel
theorem f_419_1867 : ftc (PT 419) 1867 = some (1867, .ifCond .ne 14, 3, 1881, 0, 0) := by decide +kernel
theorem f_419_1870 : ftc (PT 419) 1870 = some (1870, .aload_n 3, 1, 0, 0, 0) := by decide +kernel
theorem f_419_1871 : ftc (PT 419) 1871 = some (1871, .iconst 0, 1, 0, 0, 0) := by decide +kernel
theorem f_419_1872 : ftc (PT 419) 1872 = some (1872, .laload, 1, 0, 0, 0) := by decide +kernel
theorem f_419_1873 : ftc (PT 419) 1873 = some (1873, .lload 6, 2, 0, 0, 0) := by decide +kernel
theorem f_419_1875 : ftc (PT 419) 1875 = some (1875, .lcmp, 1, 0, 0, 0) := by decide +kernel
theorem f_419_1876 : ftc (PT 419) 1876 = some (1876, .ifCond .eq 5, 3, 1881, 0, 0) := by decide +kernel
theorem f_419_1879 : ftc (PT 419) 1879 = some (1879, .iconst 0, 1, 0, 0, 0) := by decide +kernel
theorem f_419_1880 : ftc (PT 419) 1880 = some (1880, .ireturn, 1, 1, 0, 0) := by decide +kernel
theorem f_419_1881 : ftc (PT 419) 1881 = some (1881, .goto 3036, 3, 4917, 0, 0) := by decide +kernel
theorem f_419_1884 : ftc (PT 419) 1884 = some (1884, .aload_n 1, 1, 0, 0, 0) := by decide +kernel
theorem f_419_1885 : ftc (PT 419) 1885 = some (1885, .aload_n 0, 1, 0, 0, 0) := by decide +kernel
theorem f_419_1886 : ftc (PT 419) 1886 = some (1886, .iload 4, 2, 0, 0, 0) := by decide +kernel
theorem f_419_1888 : ftc (PT 419) 1888 = some (1888, .iconst 1, 1, 0, 0, 0) := by decide +kernel
theorem f_419_1889 : ftc (PT 419) 1889 = some (1889, .iadd, 1, 0, 0, 0) := by decide +kernel
theorem f_419_1890 : ftc (PT 419) 1890 = some (1890, .iaload, 1, 0, 0, 0) := by decide +kernel
theorem f_419_1891 : ftc (PT 419) 1891 = some (1891, .aload_n 0, 1, 0, 0, 0) := by decide +kernel
theorem f_419_1892 : ftc (PT 419) 1892 = some (1892, .iload 4, 2, 0, 0, 0) := by decide +kernel
theorem f_419_1894 : ftc (PT 419) 1894 = some (1894, .iconst 2, 1, 0, 0, 0) := by decide +kernel
theorem f_419_1895 : ftc (PT 419) 1895 = some (1895, .iadd, 1, 0, 0, 0) := by decide +kernel
theorem f_419_1896 : ftc (PT 419) 1896 = some (1896, .iaload, 1, 0, 0, 0) := by decide +kernel
theorem f_419_1897 : ftc (PT 419) 1897 = some (1897, .ifCond .eq 7, 3, 1904, 0, 0) := by decide +kernel
theorem f_419_1900 : ftc (PT 419) 1900 = some (1900, .iconst 1, 1, 0, 0, 0) := by decide +kernel
theorem f_419_1901 : ftc (PT 419) 1901 = some (1901, .goto 4, 3, 1905, 0, 0) := by decide +kernel
theorem f_419_1904 : ftc (PT 419) 1904 = some (1904, .iconst 0, 1, 0, 0, 0) := by decide +kernel
theorem f_419_1905 : ftc (PT 419) 1905 = some (1905, .aload_n 0, 1, 0, 0, 0) := by decide +kernel
theorem f_419_1906 : ftc (PT 419) 1906 = some (1906, .iload 4, 2, 0, 0, 0) := by decide +kernel
theorem f_419_1908 : ftc (PT 419) 1908 = some (1908, .iconst 3, 1, 0, 0, 0) := by decide +kernel
theorem f_419_1909 : ftc (PT 419) 1909 = some (1909, .iadd, 1, 0, 0, 0) := by decide +kernel
theorem f_419_1910 : ftc (PT 419) 1910 = some (1910, .iaload, 1, 0, 0, 0) := by decide +kernel
theorem f_419_1911 : ftc (PT 419) 1911 = some (1911, .aload_n 0, 1, 0, 0, 0) := by decide +kernel
theorem f_419_1912 : ftc (PT 419) 1912 = some (1912, .iload 4, 2, 0, 0, 0) := by decide +kernel
theorem f_419_1914 : ftc (PT 419) 1914 = some (1914, .iconst 4, 1, 0, 0, 0) := by decide +kernel
theorem f_419_1915 : ftc (PT 419) 1915 = some (1915, .iadd, 1, 0, 0, 0) := by decide +kernel
theorem f_419_1916 : ftc (PT 419) 1916 = some (1916, .iaload, 1, 0, 0, 0) := by decide +kernel
theorem f_419_1917 : ftc (PT 419) 1917 = some (1917, .ifCond .eq 7, 3, 1924, 0, 0) := by decide +kernel
theorem f_419_1920 : ftc (PT 419) 1920 = some (1920, .iconst 1, 1, 0, 0, 0) := by decide +kernel
theorem f_419_1921 : ftc (PT 419) 1921 = some (1921, .goto 4, 3, 1925, 0, 0) := by decide +kernel
theorem f_419_1924 : ftc (PT 419) 1924 = some (1924, .iconst 0, 1, 0, 0, 0) := by decide +kernel
theorem f_419_1925 : ftc (PT 419) 1925 = some (1925, .aload_n 3, 1, 0, 0, 0) := by decide +kernel
theorem f_419_1926 : ftc (PT 419) 1926 = some (1926, .invokestatic 274, 3, 386, 7174, 1164) := by decide +kernel
theorem f_419_1929 : ftc (PT 419) 1929 = some (1929, .istore 5, 2, 0, 0, 0) := by decide +kernel
theorem f_419_1931 : ftc (PT 419) 1931 = some (1931, .aload_n 2, 1, 0, 0, 0) := by decide +kernel
theorem f_419_1932 : ftc (PT 419) 1932 = some (1932, .aload_n 0, 1, 0, 0, 0) := by decide +kernel
theorem f_419_1933 : ftc (PT 419) 1933 = some (1933, .iload 4, 2, 0, 0, 0) := by decide +kernel
theorem f_419_1935 : ftc (PT 419) 1935 = some (1935, .iconst 1, 1, 0, 0, 0) := by decide +kernel
theorem f_419_1936 : ftc (PT 419) 1936 = some (1936, .iadd, 1, 0, 0, 0) := by decide +kernel
theorem f_419_1937 : ftc (PT 419) 1937 = some (1937, .iaload, 1, 0, 0, 0) := by decide +kernel
theorem f_419_1938 : ftc (PT 419) 1938 = some (1938, .aload_n 0, 1, 0, 0, 0) := by decide +kernel
theorem f_419_1939 : ftc (PT 419) 1939 = some (1939, .iload 4, 2, 0, 0, 0) := by decide +kernel
theorem f_419_1941 : ftc (PT 419) 1941 = some (1941, .iconst 2, 1, 0, 0, 0) := by decide +kernel
theorem f_419_1942 : ftc (PT 419) 1942 = some (1942, .iadd, 1, 0, 0, 0) := by decide +kernel
theorem f_419_1943 : ftc (PT 419) 1943 = some (1943, .iaload, 1, 0, 0, 0) := by decide +kernel
theorem f_419_1944 : ftc (PT 419) 1944 = some (1944, .ifCond .eq 7, 3, 1951, 0, 0) := by decide +kernel
theorem f_419_1947 : ftc (PT 419) 1947 = some (1947, .iconst 1, 1, 0, 0, 0) := by decide +kernel
theorem f_419_1948 : ftc (PT 419) 1948 = some (1948, .goto 4, 3, 1952, 0, 0) := by decide +kernel
theorem f_419_1951 : ftc (PT 419) 1951 = some (1951, .iconst 0, 1, 0, 0, 0) := by decide +kernel
theorem f_419_1952 : ftc (PT 419) 1952 = some (1952, .aload_n 0, 1, 0, 0, 0) := by decide +kernel
theorem f_419_1953 : ftc (PT 419) 1953 = some (1953, .iload 4, 2, 0, 0, 0) := by decide +kernel
theorem f_419_1955 : ftc (PT 419) 1955 = some (1955, .iconst 3, 1, 0, 0, 0) := by decide +kernel
theorem f_419_1956 : ftc (PT 419) 1956 = some (1956, .iadd, 1, 0, 0, 0) := by decide +kernel
theorem f_419_1957 : ftc (PT 419) 1957 = some (1957, .iaload, 1, 0, 0, 0) := by decide +kernel
theorem f_419_1958 : ftc (PT 419) 1958 = some (1958, .aload_n 0, 1, 0, 0, 0) := by decide +kernel
theorem f_419_1959 : ftc (PT 419) 1959 = some (1959, .iload 4, 2, 0, 0, 0) := by decide +kernel
theorem f_419_1961 : ftc (PT 419) 1961 = some (1961, .iconst 4, 1, 0, 0, 0) := by decide +kernel
theorem f_419_1962 : ftc (PT 419) 1962 = some (1962, .iadd, 1, 0, 0, 0) := by decide +kernel
theorem f_419_1963 : ftc (PT 419) 1963 = some (1963, .iaload, 1, 0, 0, 0) := by decide +kernel
theorem f_419_1964 : ftc (PT 419) 1964 = some (1964, .ifCond .eq 7, 3, 1971, 0, 0) := by decide +kernel
theorem f_419_1967 : ftc (PT 419) 1967 = some (1967, .iconst 1, 1, 0, 0, 0) := by decide +kernel
theorem f_419_1968 : ftc (PT 419) 1968 = some (1968, .goto 4, 3, 1972, 0, 0) := by decide +kernel
theorem f_419_1971 : ftc (PT 419) 1971 = some (1971, .iconst 0, 1, 0, 0, 0) := by decide +kernel
theorem f_419_1972 : ftc (PT 419) 1972 = some (1972, .invokevirtual 276, 3, 268, 5260, 1988) := by decide +kernel
theorem f_419_1975 : ftc (PT 419) 1975 = some (1975, .lstore 6, 2, 0, 0, 0) := by decide +kernel
theorem f_419_1977 : ftc (PT 419) 1977 = some (1977, .aload_n 2, 1, 0, 0, 0) := by decide +kernel
theorem f_419_1978 : ftc (PT 419) 1978 = some (1978, .invokevirtual 202, 3, 212, 1036, 1766) := by decide +kernel
theorem f_419_1981 : ftc (PT 419) 1981 = some (1981, .iload 5, 2, 0, 0, 0) := by decide +kernel
theorem f_419_1983 : ftc (PT 419) 1983 = some (1983, .if_icmp .eq 5, 3, 1988, 0, 0) := by decide +kernel
theorem f_419_1986 : ftc (PT 419) 1986 = some (1986, .iconst 0, 1, 0, 0, 0) := by decide +kernel
theorem f_419_1987 : ftc (PT 419) 1987 = some (1987, .ireturn, 1, 1, 0, 0) := by decide +kernel
theorem f_419_1988 : ftc (PT 419) 1988 = some (1988, .iload 5, 2, 0, 0, 0) := by decide +kernel
theorem f_419_1990 : ftc (PT 419) 1990 = some (1990, .ifCond .ne 14, 3, 2004, 0, 0) := by decide +kernel
theorem f_419_1993 : ftc (PT 419) 1993 = some (1993, .aload_n 3, 1, 0, 0, 0) := by decide +kernel
theorem f_419_1994 : ftc (PT 419) 1994 = some (1994, .iconst 0, 1, 0, 0, 0) := by decide +kernel
theorem f_419_1995 : ftc (PT 419) 1995 = some (1995, .laload, 1, 0, 0, 0) := by decide +kernel
theorem f_419_1996 : ftc (PT 419) 1996 = some (1996, .lload 6, 2, 0, 0, 0) := by decide +kernel
theorem f_419_1998 : ftc (PT 419) 1998 = some (1998, .lcmp, 1, 0, 0, 0) := by decide +kernel
theorem f_419_1999 : ftc (PT 419) 1999 = some (1999, .ifCond .eq 5, 3, 2004, 0, 0) := by decide +kernel
theorem f_419_2002 : ftc (PT 419) 2002 = some (2002, .iconst 0, 1, 0, 0, 0) := by decide +kernel
theorem f_419_2003 : ftc (PT 419) 2003 = some (2003, .ireturn, 1, 1, 0, 0) := by decide +kernel
theorem f_419_2004 : ftc (PT 419) 2004 = some (2004, .goto 2913, 3, 4917, 0, 0) := by decide +kernel
theorem f_419_2007 : ftc (PT 419) 2007 = some (2007, .aload_n 1, 1, 0, 0, 0) := by decide +kernel
theorem f_419_2008 : ftc (PT 419) 2008 = some (2008, .aload_n 0, 1, 0, 0, 0) := by decide +kernel
theorem f_419_2009 : ftc (PT 419) 2009 = some (2009, .iload 4, 2, 0, 0, 0) := by decide +kernel
theorem f_419_2011 : ftc (PT 419) 2011 = some (2011, .iconst 1, 1, 0, 0, 0) := by decide +kernel
theorem f_419_2012 : ftc (PT 419) 2012 = some (2012, .iadd, 1, 0, 0, 0) := by decide +kernel
theorem f_419_2013 : ftc (PT 419) 2013 = some (2013, .iaload, 1, 0, 0, 0) := by decide +kernel
theorem f_419_2014 : ftc (PT 419) 2014 = some (2014, .aload_n 0, 1, 0, 0, 0) := by decide +kernel
theorem f_419_2015 : ftc (PT 419) 2015 = some (2015, .iload 4, 2, 0, 0, 0) := by decide +kernel
theorem f_419_2017 : ftc (PT 419) 2017 = some (2017, .iconst 2, 1, 0, 0, 0) := by decide +kernel
theorem f_419_2018 : ftc (PT 419) 2018 = some (2018, .iadd, 1, 0, 0, 0) := by decide +kernel
theorem f_419_2019 : ftc (PT 419) 2019 = some (2019, .iaload, 1, 0, 0, 0) := by decide +kernel
theorem f_419_2020 : ftc (PT 419) 2020 = some (2020, .ifCond .eq 7, 3, 2027, 0, 0) := by decide +kernel
theorem f_419_2023 : ftc (PT 419) 2023 = some (2023, .iconst 1, 1, 0, 0, 0) := by decide +kernel
theorem f_419_2024 : ftc (PT 419) 2024 = some (2024, .goto 4, 3, 2028, 0, 0) := by decide +kernel
theorem f_419_2027 : ftc (PT 419) 2027 = some (2027, .iconst 0, 1, 0, 0, 0) := by decide +kernel
theorem f_419_2028 : ftc (PT 419) 2028 = some (2028, .aload_n 0, 1, 0, 0, 0) := by decide +kernel
theorem f_419_2029 : ftc (PT 419) 2029 = some (2029, .iload 4, 2, 0, 0, 0) := by decide +kernel
theorem f_419_2031 : ftc (PT 419) 2031 = some (2031, .iconst 3, 1, 0, 0, 0) := by decide +kernel
theorem f_419_2032 : ftc (PT 419) 2032 = some (2032, .iadd, 1, 0, 0, 0) := by decide +kernel
theorem f_419_2033 : ftc (PT 419) 2033 = some (2033, .iaload, 1, 0, 0, 0) := by decide +kernel
theorem f_419_2034 : ftc (PT 419) 2034 = some (2034, .ifCond .eq 7, 3, 2041, 0, 0) := by decide +kernel
theorem f_419_2037 : ftc (PT 419) 2037 = some (2037, .iconst 1, 1, 0, 0, 0) := by decide +kernel
theorem f_419_2038 : ftc (PT 419) 2038 = some (2038, .goto 4, 3, 2042, 0, 0) := by decide +kernel
theorem f_419_2041 : ftc (PT 419) 2041 = some (2041, .iconst 0, 1, 0, 0, 0) := by decide +kernel
theorem f_419_2042 : ftc (PT 419) 2042 = some (2042, .aload_n 3, 1, 0, 0, 0) := by decide +kernel
theorem f_419_2043 : ftc (PT 419) 2043 = some (2043, .invokestatic 277, 3, 387, 6149, 1179) := by decide +kernel
theorem f_419_2046 : ftc (PT 419) 2046 = some (2046, .istore 5, 2, 0, 0, 0) := by decide +kernel
theorem f_419_2048 : ftc (PT 419) 2048 = some (2048, .aload_n 2, 1, 0, 0, 0) := by decide +kernel
theorem f_419_2049 : ftc (PT 419) 2049 = some (2049, .aload_n 0, 1, 0, 0, 0) := by decide +kernel
theorem f_419_2050 : ftc (PT 419) 2050 = some (2050, .iload 4, 2, 0, 0, 0) := by decide +kernel
theorem f_419_2052 : ftc (PT 419) 2052 = some (2052, .iconst 1, 1, 0, 0, 0) := by decide +kernel
theorem f_419_2053 : ftc (PT 419) 2053 = some (2053, .iadd, 1, 0, 0, 0) := by decide +kernel
theorem f_419_2054 : ftc (PT 419) 2054 = some (2054, .iaload, 1, 0, 0, 0) := by decide +kernel
theorem f_419_2055 : ftc (PT 419) 2055 = some (2055, .aload_n 0, 1, 0, 0, 0) := by decide +kernel
theorem f_419_2056 : ftc (PT 419) 2056 = some (2056, .iload 4, 2, 0, 0, 0) := by decide +kernel
theorem f_419_2058 : ftc (PT 419) 2058 = some (2058, .iconst 2, 1, 0, 0, 0) := by decide +kernel
theorem f_419_2059 : ftc (PT 419) 2059 = some (2059, .iadd, 1, 0, 0, 0) := by decide +kernel
theorem f_419_2060 : ftc (PT 419) 2060 = some (2060, .iaload, 1, 0, 0, 0) := by decide +kernel
theorem f_419_2061 : ftc (PT 419) 2061 = some (2061, .ifCond .eq 7, 3, 2068, 0, 0) := by decide +kernel
theorem f_419_2064 : ftc (PT 419) 2064 = some (2064, .iconst 1, 1, 0, 0, 0) := by decide +kernel
theorem f_419_2065 : ftc (PT 419) 2065 = some (2065, .goto 4, 3, 2069, 0, 0) := by decide +kernel
theorem f_419_2068 : ftc (PT 419) 2068 = some (2068, .iconst 0, 1, 0, 0, 0) := by decide +kernel
theorem f_419_2069 : ftc (PT 419) 2069 = some (2069, .aload_n 0, 1, 0, 0, 0) := by decide +kernel
theorem f_419_2070 : ftc (PT 419) 2070 = some (2070, .iload 4, 2, 0, 0, 0) := by decide +kernel
theorem f_419_2072 : ftc (PT 419) 2072 = some (2072, .iconst 3, 1, 0, 0, 0) := by decide +kernel
theorem f_419_2073 : ftc (PT 419) 2073 = some (2073, .iadd, 1, 0, 0, 0) := by decide +kernel
theorem f_419_2074 : ftc (PT 419) 2074 = some (2074, .iaload, 1, 0, 0, 0) := by decide +kernel
theorem f_419_2075 : ftc (PT 419) 2075 = some (2075, .ifCond .eq 7, 3, 2082, 0, 0) := by decide +kernel
theorem f_419_2078 : ftc (PT 419) 2078 = some (2078, .iconst 1, 1, 0, 0, 0) := by decide +kernel
theorem f_419_2079 : ftc (PT 419) 2079 = some (2079, .goto 4, 3, 2083, 0, 0) := by decide +kernel
theorem f_419_2082 : ftc (PT 419) 2082 = some (2082, .iconst 0, 1, 0, 0, 0) := by decide +kernel
theorem f_419_2083 : ftc (PT 419) 2083 = some (2083, .invokevirtual 279, 3, 269, 4204, 1992) := by decide +kernel
theorem f_419_2086 : ftc (PT 419) 2086 = some (2086, .lstore 6, 2, 0, 0, 0) := by decide +kernel
theorem f_419_2088 : ftc (PT 419) 2088 = some (2088, .aload_n 2, 1, 0, 0, 0) := by decide +kernel
theorem f_419_2089 : ftc (PT 419) 2089 = some (2089, .invokevirtual 202, 3, 212, 1036, 1766) := by decide +kernel
theorem f_419_2092 : ftc (PT 419) 2092 = some (2092, .iload 5, 2, 0, 0, 0) := by decide +kernel
theorem f_419_2094 : ftc (PT 419) 2094 = some (2094, .if_icmp .eq 5, 3, 2099, 0, 0) := by decide +kernel
theorem f_419_2097 : ftc (PT 419) 2097 = some (2097, .iconst 0, 1, 0, 0, 0) := by decide +kernel
theorem f_419_2098 : ftc (PT 419) 2098 = some (2098, .ireturn, 1, 1, 0, 0) := by decide +kernel
theorem f_419_2099 : ftc (PT 419) 2099 = some (2099, .iload 5, 2, 0, 0, 0) := by decide +kernel
theorem f_419_2101 : ftc (PT 419) 2101 = some (2101, .ifCond .ne 14, 3, 2115, 0, 0) := by decide +kernel
theorem f_419_2104 : ftc (PT 419) 2104 = some (2104, .aload_n 3, 1, 0, 0, 0) := by decide +kernel
theorem f_419_2105 : ftc (PT 419) 2105 = some (2105, .iconst 0, 1, 0, 0, 0) := by decide +kernel
theorem f_419_2106 : ftc (PT 419) 2106 = some (2106, .laload, 1, 0, 0, 0) := by decide +kernel
theorem f_419_2107 : ftc (PT 419) 2107 = some (2107, .lload 6, 2, 0, 0, 0) := by decide +kernel
theorem f_419_2109 : ftc (PT 419) 2109 = some (2109, .lcmp, 1, 0, 0, 0) := by decide +kernel
theorem f_419_2110 : ftc (PT 419) 2110 = some (2110, .ifCond .eq 5, 3, 2115, 0, 0) := by decide +kernel
theorem f_419_2113 : ftc (PT 419) 2113 = some (2113, .iconst 0, 1, 0, 0, 0) := by decide +kernel
theorem f_419_2114 : ftc (PT 419) 2114 = some (2114, .ireturn, 1, 1, 0, 0) := by decide +kernel
theorem f_419_2115 : ftc (PT 419) 2115 = some (2115, .goto 2802, 3, 4917, 0, 0) := by decide +kernel
theorem f_419_2118 : ftc (PT 419) 2118 = some (2118, .aload_n 1, 1, 0, 0, 0) := by decide +kernel
theorem f_419_2119 : ftc (PT 419) 2119 = some (2119, .aload_n 0, 1, 0, 0, 0) := by decide +kernel
theorem f_419_2120 : ftc (PT 419) 2120 = some (2120, .iload 4, 2, 0, 0, 0) := by decide +kernel
theorem f_419_2122 : ftc (PT 419) 2122 = some (2122, .iconst 1, 1, 0, 0, 0) := by decide +kernel
theorem f_419_2123 : ftc (PT 419) 2123 = some (2123, .iadd, 1, 0, 0, 0) := by decide +kernel
theorem f_419_2124 : ftc (PT 419) 2124 = some (2124, .iaload, 1, 0, 0, 0) := by decide +kernel
theorem f_419_2125 : ftc (PT 419) 2125 = some (2125, .aload_n 0, 1, 0, 0, 0) := by decide +kernel
theorem f_419_2126 : ftc (PT 419) 2126 = some (2126, .iload 4, 2, 0, 0, 0) := by decide +kernel
theorem f_419_2128 : ftc (PT 419) 2128 = some (2128, .iconst 2, 1, 0, 0, 0) := by decide +kernel
theorem f_419_2129 : ftc (PT 419) 2129 = some (2129, .iadd, 1, 0, 0, 0) := by decide +kernel
theorem f_419_2130 : ftc (PT 419) 2130 = some (2130, .iaload, 1, 0, 0, 0) := by decide +kernel
theorem f_419_2131 : ftc (PT 419) 2131 = some (2131, .ifCond .eq 7, 3, 2138, 0, 0) := by decide +kernel
theorem f_419_2134 : ftc (PT 419) 2134 = some (2134, .iconst 1, 1, 0, 0, 0) := by decide +kernel
theorem f_419_2135 : ftc (PT 419) 2135 = some (2135, .goto 4, 3, 2139, 0, 0) := by decide +kernel
theorem f_419_2138 : ftc (PT 419) 2138 = some (2138, .iconst 0, 1, 0, 0, 0) := by decide +kernel
theorem f_419_2139 : ftc (PT 419) 2139 = some (2139, .aload_n 0, 1, 0, 0, 0) := by decide +kernel
theorem f_419_2140 : ftc (PT 419) 2140 = some (2140, .iload 4, 2, 0, 0, 0) := by decide +kernel
theorem f_419_2142 : ftc (PT 419) 2142 = some (2142, .iconst 3, 1, 0, 0, 0) := by decide +kernel
theorem f_419_2143 : ftc (PT 419) 2143 = some (2143, .iadd, 1, 0, 0, 0) := by decide +kernel
theorem f_419_2144 : ftc (PT 419) 2144 = some (2144, .iaload, 1, 0, 0, 0) := by decide +kernel
theorem f_419_2145 : ftc (PT 419) 2145 = some (2145, .aload_n 3, 1, 0, 0, 0) := by decide +kernel
theorem f_419_2146 : ftc (PT 419) 2146 = some (2146, .invokestatic 280, 3, 388, 6149, 1190) := by decide +kernel
theorem f_419_4923 : ftc (PT 419) 4923 = some (4923, .iconst 1, 1, 0, 0, 0) := by decide +kernel
theorem f_419_4924 : ftc (PT 419) 4924 = some (4924, .ireturn, 1, 1, 0, 0) := by decide +kernel
set_option maxRecDepth 10000 in
set_option maxHeartbeats 4000000 in
theorem s_406_0 {Lx : Nat} {I : Mi} {L : Ml} {e : Nat} {Q : Kq} {x1 : Int32} {x2 : Int32} {x3 : Int32} {x4 : Int32} {x5 : Int32} {x6 : Int32} {x7 : Int32} {x8 : Int32} {x9 : Int32} (h :
    (if x1 < 0 then
     Q (.inl (some (.int (Int32.ofInt 1)))) (gE Lx) I L (e + 1)
    else
     (if (I 5 3) < x1 then
      Q (.inl (some (.int (Int32.ofInt 1)))) (gE Lx) I L (e + 1)
     else
      Wp 114 0 [(0, .long x3.toInt64), (2, .long x4.toInt64)] [] (gE Lx) I L e (kcp (Wp 151) 151 4 0 [(0, .ref 1), (1, .int x3)] 71 [] (kcp (Wp 185) 185 8 0 [(0, .ref 1), (4, .int x5), (5, .int x6)] 71 [] (kcp (Wp 187) 187 9 0 [(0, .ref 1), (1, .int x1), (2, .int x2), (3, .int x3), (4, .int x4), (5, .int x5), (6, .int x6), (7, .int x7), (8, .int x8), (9, .int x9)] 71 [] (kcp (Wp 406) 406 19 0 [(0, .ref 1), (10, .ref 70)] 71 [.int (Int32.ofInt 0), .ref 70] Q))))))) :
    Wp 406 0 [(0, .ref 1), (1, .int x1), (2, .int x2), (3, .int x3), (4, .int x4), (5, .int x5), (6, .int x6), (7, .int x7), (8, .int x8), (9, .int x9), (10, .ref 70)] [] (gE Lx) I L e Q := by
  refine w_a f_406_0 ?_
  refine w_a f_406_2 ?_
  refine w_a f_406_3 ?_
  refine w_a f_406_4 ?_
  refine w_a f_406_5 ?_
  refine w_a f_406_6 ?_
  refine w_a f_406_7 ?_
  refine w_a f_406_9 ?_
  refine w_a f_406_11 ?_
  refine w_a f_406_13 ?_
  refine w_a f_406_15 ?_
  refine w_a f_406_17 ?_
  refine w_c (ks := [0, 10]) f_406_19 rfl rfl ?_
  refine w_a (ls := [(0, .ref 1), (1, .int x1), (2, .int x2), (3, .int x3), (4, .int x4), (5, .int x5), (6, .int x6), (7, .int x7), (8, .int x8), (9, .int x9)]) f_187_0 ?_
  refine w_a f_187_1 ?_
  refine w_a f_187_2 ?_
  refine w_a f_187_3 ?_
  refine w_a f_187_5 ?_
  refine w_a f_187_7 ?_
  refine w_c (ks := [0, 1, 2, 3, 4, 5, 6, 7, 8, 9]) f_187_9 rfl rfl ?_
  refine w_a (ls := [(0, .ref 1), (1, .int x1), (2, .int x3), (3, .int x4), (4, .int x5), (5, .int x6)]) f_185_0 ?_
  refine w_a f_185_1 ?_
  refine w_a f_185_2 ?_
  refine w_a (ls := [(0, .ref 1), (1, .int x1)]) f_122_0 ?_
  refine w_a f_122_1 ?_
  refine i_m (fun h => ?_) (fun h => ?_) h
  · refine w_a f_122_15 ?_
    exact h
  · refine w_a f_122_4 ?_
    refine w_a f_122_5 ?_
    refine w_a f_122_6 ?_
    refine w_a f_122_9 ?_
    refine w_a f_122_12 ?_
    refine i_m (fun h => ?_) (fun h => ?_) h
    · refine w_a f_122_15 ?_
      exact h
    · refine w_a f_122_23 ?_
      refine w_a (ls := [(0, .ref 1), (1, .int x1), (2, .int x3), (3, .int x4), (4, .int x5), (5, .int x6)]) f_185_5 ?_
      refine w_a f_185_6 ?_
      refine w_a f_185_7 ?_
      refine w_c (ks := [0, 4, 5]) f_185_8 rfl rfl ?_
      refine w_a (ls := [(0, .ref 1), (1, .int x3), (2, .int x4)]) f_151_0 ?_
      refine w_a f_151_1 ?_
      refine w_a f_151_2 ?_
      refine w_a f_151_3 ?_
      exact w_c (ks := [0, 1]) f_151_4 rfl rfl h
set_option maxRecDepth 10000 in
set_option maxHeartbeats 4000000 in
theorem s_407_0 {Lx : Nat} {I : Mi} {L : Ml} {e : Nat} {Q : Kq} {x1 : Int32} {x2 : Int32} {x3 : Int32} {x4 : Int32} {x5 : Int32} (h :
    (if x1 < 0 then
     Q (.inl (some (.int (Int32.ofInt 1)))) (gE Lx) I L (e + 1)
    else
     (if (I 5 3) < x1 then
      Q (.inl (some (.int (Int32.ofInt 1)))) (gE Lx) I L (e + 1)
     else
      (if x3 < (Int32.ofInt 1) then
       Q (.inl (some (.int (Int32.ofInt 2)))) (gE Lx) I L (e + 1)
      else
       (if (Int32.ofInt 12) < x3 then
        Q (.inl (some (.int (Int32.ofInt 2)))) (gE Lx) I L (e + 1)
       else
        (if x4 < 0 then
         Q (.inl (some (.int (Int32.ofInt 2)))) (gE Lx) I L (e + 1)
        else
         (if (Int32.ofInt 99) < x4 then
          Q (.inl (some (.int (Int32.ofInt 2)))) (gE Lx) I L (e + 1)
         else
          (if x5 < (Int32.ofInt 1) then
           Q (.inl (some (.int (Int32.ofInt 2)))) (gE Lx) I L (e + 1)
          else
           (if (Int32.ofInt 20) < x5 then
            Q (.inl (some (.int (Int32.ofInt 2)))) (gE Lx) I L (e + 1)
           else
            Wp 136 0 [(0, .ref 1), (1, .int x1)] [] (gE Lx) I L e (kcp (Wp 148) 148 2 0 [(0, .ref 1), (2, .int x2)] 71 [] (kcp (Wp 188) 188 48 0 [(0, .ref 1), (2, .int x2), (3, .int x3), (4, .int x4), (5, .int x5)] 71 [] (kcp (Wp 407) 407 11 0 [(0, .ref 1), (6, .ref 70)] 71 [.int (Int32.ofInt 0), .ref 70] Q)))))))))))) :
    Wp 407 0 [(0, .ref 1), (1, .int x1), (2, .int x2), (3, .int x3), (4, .int x4), (5, .int x5), (6, .ref 70)] [] (gE Lx) I L e Q := by
  refine w_a f_407_0 ?_
  refine w_a f_407_2 ?_
  refine w_a f_407_3 ?_
  refine w_a f_407_4 ?_
  refine w_a f_407_5 ?_
  refine w_a f_407_6 ?_
  refine w_a f_407_7 ?_
  refine w_a f_407_9 ?_
  refine w_c (ks := [0, 6]) f_407_11 rfl rfl ?_
  refine w_a (ls := [(0, .ref 1), (1, .int x1), (2, .int x2), (3, .int x3), (4, .int x4), (5, .int x5)]) f_188_0 ?_
  refine w_a f_188_1 ?_
  refine w_a f_188_2 ?_
  refine w_a (ls := [(0, .ref 1), (1, .int x1)]) f_122_0 ?_
  refine w_a f_122_1 ?_
  refine i_m (fun h => ?_) (fun h => ?_) h
  · refine w_a f_122_15 ?_
    exact h
  · refine w_a f_122_4 ?_
    refine w_a f_122_5 ?_
    refine w_a f_122_6 ?_
    refine w_a f_122_9 ?_
    refine w_a f_122_12 ?_
    refine i_m (fun h => ?_) (fun h => ?_) h
    · refine w_a f_122_15 ?_
      exact h
    · refine w_a f_122_23 ?_
      refine w_a (ls := [(0, .ref 1), (1, .int x1), (2, .int x2), (3, .int x3), (4, .int x4), (5, .int x5)]) f_188_5 ?_
      refine w_a f_188_6 ?_
      refine w_a f_188_7 ?_
      refine w_a f_188_9 ?_
      refine w_a (ls := [(0, .ref 1), (1, .int x3), (2, .int (Int32.ofInt 12))]) f_169_0 ?_
      refine w_a f_169_1 ?_
      refine w_a f_169_2 ?_
      refine i_m (fun h => ?_) (fun h => ?_) h
      · refine w_a f_169_10 ?_
        exact h
      · refine w_a f_169_5 ?_
        refine w_a f_169_6 ?_
        refine w_a f_169_7 ?_
        refine i_m (fun h => ?_) (fun h => ?_) h
        · refine w_a f_169_10 ?_
          exact h
        · refine w_a f_169_18 ?_
          refine w_a (ls := [(0, .ref 1), (1, .int x1), (2, .int x2), (3, .int x3), (4, .int x4), (5, .int x5)]) f_188_12 ?_
          refine w_a f_188_14 ?_
          refine i_m (fun h => ?_) (fun h => ?_) h
          · refine w_a f_188_37 ?_
            exact h
          · refine w_a f_188_17 ?_
            refine w_a f_188_19 ?_
            refine w_a f_188_21 ?_
            refine i_m (fun h => ?_) (fun h => ?_) h
            · refine w_a f_188_37 ?_
              exact h
            · refine w_a f_188_24 ?_
              refine w_a f_188_26 ?_
              refine w_a f_188_27 ?_
              refine i_m (fun h => ?_) (fun h => ?_) h
              · refine w_a f_188_37 ?_
                exact h
              · refine w_a f_188_30 ?_
                refine w_a f_188_32 ?_
                refine w_a f_188_34 ?_
                refine i_m (fun h => ?_) (fun h => ?_) h
                · refine w_a f_188_37 ?_
                  exact h
                · refine w_a f_188_45 ?_
                  refine w_a f_188_46 ?_
                  refine w_a f_188_47 ?_
                  refine w_c (ks := [0, 2, 3, 4, 5]) f_188_48 rfl rfl ?_
                  refine w_a (ls := [(0, .ref 1), (1, .int x1), (2, .int x2)]) f_148_0 ?_
                  refine w_a f_148_1 ?_
                  exact w_c (ks := [0, 2]) f_148_2 rfl rfl h
set_option maxRecDepth 10000 in
set_option maxHeartbeats 4000000 in
theorem s_408_0 {Lx : Nat} {I : Mi} {L : Ml} {e : Nat} {Q : Kq} {x1 : Int32} {x2 : Int32} {x3 : Int32} {x4 : Int32} {x5 : Int32} (h :
    (if x1 < 0 then
     Q (.inl (some (.int (Int32.ofInt 1)))) (gE Lx) I L (e + 1)
    else
     (if (I 5 3) < x1 then
      Q (.inl (some (.int (Int32.ofInt 1)))) (gE Lx) I L (e + 1)
     else
      (if x5 < 0 then
       Q (.inl (some (.int (Int32.ofInt 2)))) (gE Lx) I L (e + 1)
      else
       (if (Int32.ofInt 3) < x5 then
        Q (.inl (some (.int (Int32.ofInt 2)))) (gE Lx) I L (e + 1)
       else
        (if x3 < (Int32.ofInt 1) then
         Q (.inl (some (.int (Int32.ofInt 3)))) (gE Lx) I L (e + 1)
        else
         (if (Int32.ofInt 12) < x3 then
          Q (.inl (some (.int (Int32.ofInt 3)))) (gE Lx) I L (e + 1)
         else
          Wp 136 0 [(0, .ref 1), (1, .int x1)] [] (gE Lx) I L e (kcp (Wp 148) 148 2 0 [(0, .ref 1), (2, .int x2)] 71 [] (kcp (Wp 190) 190 22 0 [(0, .ref 1), (2, .int x2), (3, .int x3), (4, .int x4), (5, .int x5)] 71 [] (kcp (Wp 408) 408 11 0 [(0, .ref 1), (6, .ref 70)] 71 [.int (Int32.ofInt 0), .ref 70] Q)))))))))) :
    Wp 408 0 [(0, .ref 1), (1, .int x1), (2, .int x2), (3, .int x3), (4, .int x4), (5, .int x5), (6, .ref 70)] [] (gE Lx) I L e Q := by
  refine w_a f_408_0 ?_
  refine w_a f_408_2 ?_
  refine w_a f_408_3 ?_
  refine w_a f_408_4 ?_
  refine w_a f_408_5 ?_
  refine w_a f_408_6 ?_
  refine w_a f_408_7 ?_
  refine w_a f_408_9 ?_
  refine w_c (ks := [0, 6]) f_408_11 rfl rfl ?_
  refine w_a (ls := [(0, .ref 1), (1, .int x1), (2, .int x2), (3, .int x3), (4, .int x4), (5, .int x5)]) f_190_0 ?_
  refine w_a f_190_1 ?_
  refine w_a f_190_2 ?_
  refine w_a (ls := [(0, .ref 1), (1, .int x1)]) f_122_0 ?_
  refine w_a f_122_1 ?_
  refine i_m (fun h => ?_) (fun h => ?_) h
  · refine w_a f_122_15 ?_
    exact h
  · refine w_a f_122_4 ?_
    refine w_a f_122_5 ?_
    refine w_a f_122_6 ?_
    refine w_a f_122_9 ?_
    refine w_a f_122_12 ?_
    refine i_m (fun h => ?_) (fun h => ?_) h
    · refine w_a f_122_15 ?_
      exact h
    · refine w_a f_122_23 ?_
      refine w_a (ls := [(0, .ref 1), (1, .int x1), (2, .int x2), (3, .int x3), (4, .int x4), (5, .int x5)]) f_190_5 ?_
      refine w_a f_190_6 ?_
      refine w_a f_190_8 ?_
      refine w_a f_190_9 ?_
      refine w_a (ls := [(0, .ref 1), (1, .int x5), (2, .int (Int32.ofInt 3))]) f_120_0 ?_
      refine w_a f_120_1 ?_
      refine i_m (fun h => ?_) (fun h => ?_) h
      · refine w_a f_120_9 ?_
        exact h
      · refine w_a f_120_4 ?_
        refine w_a f_120_5 ?_
        refine w_a f_120_6 ?_
        refine i_m (fun h => ?_) (fun h => ?_) h
        · refine w_a f_120_9 ?_
          exact h
        · refine w_a f_120_17 ?_
          refine w_a (ls := [(0, .ref 1), (1, .int x1), (2, .int x2), (3, .int x3), (4, .int x4), (5, .int x5)]) f_190_12 ?_
          refine w_a f_190_13 ?_
          refine w_a f_190_14 ?_
          refine w_a f_190_16 ?_
          refine w_a (ls := [(0, .ref 1), (1, .int x3), (2, .int (Int32.ofInt 12))]) f_169_0 ?_
          refine w_a f_169_1 ?_
          refine w_a f_169_2 ?_
          refine i_m (fun h => ?_) (fun h => ?_) h
          · refine w_a f_169_10 ?_
            exact h
          · refine w_a f_169_5 ?_
            refine w_a f_169_6 ?_
            refine w_a f_169_7 ?_
            refine i_m (fun h => ?_) (fun h => ?_) h
            · refine w_a f_169_10 ?_
              exact h
            · refine w_a f_169_18 ?_
              refine w_a (ls := [(0, .ref 1), (1, .int x1), (2, .int x2), (3, .int x3), (4, .int x4), (5, .int x5)]) f_190_19 ?_
              refine w_a f_190_20 ?_
              refine w_a f_190_21 ?_
              refine w_c (ks := [0, 2, 3, 4, 5]) f_190_22 rfl rfl ?_
              refine w_a (ls := [(0, .ref 1), (1, .int x1), (2, .int x2)]) f_148_0 ?_
              refine w_a f_148_1 ?_
              exact w_c (ks := [0, 2]) f_148_2 rfl rfl h
set_option maxRecDepth 10000 in
set_option maxHeartbeats 4000000 in
theorem s_409_0 {Lx : Nat} {I : Mi} {L : Ml} {e : Nat} {Q : Kq} {x1 : Int32} {x2 : Int32} {x3 : Int32} {x4 : Int32} {x5 : Int32} (h :
    (if x1 < 0 then
     Q (.inl (some (.int (Int32.ofInt 1)))) (gE Lx) I L (e + 1)
    else
     (if (I 5 3) < x1 then
      Q (.inl (some (.int (Int32.ofInt 1)))) (gE Lx) I L (e + 1)
     else
      (if x5 < 0 then
       Q (.inl (some (.int (Int32.ofInt 2)))) (gE Lx) I L (e + 1)
      else
       (if (Int32.ofInt 2) < x5 then
        Q (.inl (some (.int (Int32.ofInt 2)))) (gE Lx) I L (e + 1)
       else
        Wp 114 0 [(0, .long x2.toInt64), (2, .long x3.toInt64)] [] (gE Lx) I L e (kcp (Wp 113) 113 4 0 [(0, .ref 1)] 71 [] (kcp (Wp 192) 192 15 0 [(0, .ref 1), (1, .int x1), (2, .int x2), (3, .int x3), (4, .int x4), (5, .int x5)] 71 [] (kcp (Wp 409) 409 11 0 [(0, .ref 1), (6, .ref 70)] 71 [.int (Int32.ofInt 0), .ref 70] Q)))))))) :
    Wp 409 0 [(0, .ref 1), (1, .int x1), (2, .int x2), (3, .int x3), (4, .int x4), (5, .int x5), (6, .ref 70)] [] (gE Lx) I L e Q := by
  refine w_a f_409_0 ?_
  refine w_a f_409_2 ?_
  refine w_a f_409_3 ?_
  refine w_a f_409_4 ?_
  refine w_a f_409_5 ?_
  refine w_a f_409_6 ?_
  refine w_a f_409_7 ?_
  refine w_a f_409_9 ?_
  refine w_c (ks := [0, 6]) f_409_11 rfl rfl ?_
  refine w_a (ls := [(0, .ref 1), (1, .int x1), (2, .int x2), (3, .int x3), (4, .int x4), (5, .int x5)]) f_192_0 ?_
  refine w_a f_192_1 ?_
  refine w_a f_192_2 ?_
  refine w_a (ls := [(0, .ref 1), (1, .int x1)]) f_122_0 ?_
  refine w_a f_122_1 ?_
  refine i_m (fun h => ?_) (fun h => ?_) h
  · refine w_a f_122_15 ?_
    exact h
  · refine w_a f_122_4 ?_
    refine w_a f_122_5 ?_
    refine w_a f_122_6 ?_
    refine w_a f_122_9 ?_
    refine w_a f_122_12 ?_
    refine i_m (fun h => ?_) (fun h => ?_) h
    · refine w_a f_122_15 ?_
      exact h
    · refine w_a f_122_23 ?_
      refine w_a (ls := [(0, .ref 1), (1, .int x1), (2, .int x2), (3, .int x3), (4, .int x4), (5, .int x5)]) f_192_5 ?_
      refine w_a f_192_6 ?_
      refine w_a f_192_8 ?_
      refine w_a f_192_9 ?_
      refine w_a (ls := [(0, .ref 1), (1, .int x5), (2, .int (Int32.ofInt 2))]) f_120_0 ?_
      refine w_a f_120_1 ?_
      refine i_m (fun h => ?_) (fun h => ?_) h
      · refine w_a f_120_9 ?_
        exact h
      · refine w_a f_120_4 ?_
        refine w_a f_120_5 ?_
        refine w_a f_120_6 ?_
        refine i_m (fun h => ?_) (fun h => ?_) h
        · refine w_a f_120_9 ?_
          exact h
        · refine w_a f_120_17 ?_
          refine w_a (ls := [(0, .ref 1), (1, .int x1), (2, .int x2), (3, .int x3), (4, .int x4), (5, .int x5)]) f_192_12 ?_
          refine w_a f_192_13 ?_
          refine w_a f_192_14 ?_
          refine w_c (ks := [0, 1, 2, 3, 4, 5]) f_192_15 rfl rfl ?_
          refine w_a (ls := [(0, .ref 1), (1, .int x2), (2, .int x3)]) f_113_0 ?_
          refine w_a f_113_1 ?_
          refine w_a f_113_2 ?_
          refine w_a f_113_3 ?_
          exact w_c (ks := [0]) f_113_4 rfl rfl h
set_option maxRecDepth 10000 in
set_option maxHeartbeats 4000000 in
theorem s_410_0 {Lx : Nat} {I : Mi} {L : Ml} {e : Nat} {Q : Kq} {x1 : Int32} {x2 : Int32} (h :
    (if x2 < 0 then
     Q (.inl (some (.int (Int32.ofInt 1)))) (gE Lx) I L (e + 1)
    else
     (if (Int32.ofInt 3) < x2 then
      Q (.inl (some (.int (Int32.ofInt 1)))) (gE Lx) I L (e + 1)
     else
      (if x1 < (Int32.ofInt 2) then
       Q (.inl (some (.int (Int32.ofInt 2)))) (gE Lx) I L (e + 1)
      else
       (if (Int32.ofInt 3) < x1 then
        Q (.inl (some (.int (Int32.ofInt 2)))) (gE Lx) I L (e + 1)
       else
        (if (I 5 3) < (Int32.ofInt 4) then
         Wp 195 0 [(0, .ref 1), (1, .int x1)] [] (gE Lx) I L e (kcp (Wp 194) 194 45 0 [(0, .ref 1), (2, .int x2)] 71 [] (kcp (Wp 410) 410 5 0 [(0, .ref 1), (3, .ref 70)] 71 [.int (Int32.ofInt 0), .ref 70] Q))
        else
         Q (.inl (some (.int (Int32.ofInt 3)))) (gE Lx) I L (e + 1))))))) :
    Wp 410 0 [(0, .ref 1), (1, .int x1), (2, .int x2), (3, .ref 70)] [] (gE Lx) I L e Q := by
  refine w_a f_410_0 ?_
  refine w_a f_410_1 ?_
  refine w_a f_410_2 ?_
  refine w_a f_410_3 ?_
  refine w_a f_410_4 ?_
  refine w_c (ks := [0, 3]) f_410_5 rfl rfl ?_
  refine w_a (ls := [(0, .ref 1), (1, .int x1), (2, .int x2)]) f_194_0 ?_
  refine w_a f_194_1 ?_
  refine w_a f_194_2 ?_
  refine w_a f_194_3 ?_
  refine w_a (ls := [(0, .ref 1), (1, .int x2), (2, .int (Int32.ofInt 3))]) f_120_0 ?_
  refine w_a f_120_1 ?_
  refine i_m (fun h => ?_) (fun h => ?_) h
  · refine w_a f_120_9 ?_
    exact h
  · refine w_a f_120_4 ?_
    refine w_a f_120_5 ?_
    refine w_a f_120_6 ?_
    refine i_m (fun h => ?_) (fun h => ?_) h
    · refine w_a f_120_9 ?_
      exact h
    · refine w_a f_120_17 ?_
      refine w_a (ls := [(0, .ref 1), (1, .int x1), (2, .int x2)]) f_194_6 ?_
      refine w_a f_194_7 ?_
      refine w_a f_194_8 ?_
      refine i_m (fun h => ?_) (fun h => ?_) h
      · refine w_a f_194_16 ?_
        exact h
      · refine w_a f_194_11 ?_
        refine w_a f_194_12 ?_
        refine w_a f_194_13 ?_
        refine i_m (fun h => ?_) (fun h => ?_) h
        · refine w_a f_194_16 ?_
          exact h
        · refine w_a f_194_24 ?_
          refine w_a f_194_25 ?_
          refine w_a f_194_28 ?_
          refine w_a f_194_31 ?_
          refine w_a f_194_32 ?_
          refine i_m (fun h => ?_) (fun h => ?_) h
          · refine w_a f_194_43 ?_
            refine w_a f_194_44 ?_
            exact w_c (ks := [0, 2]) f_194_45 rfl rfl h
          · refine w_a f_194_35 ?_
            exact h
set_option maxRecDepth 10000 in
set_option maxHeartbeats 4000000 in
theorem s_411_0 {Lx : Nat} {I : Mi} {L : Ml} {e : Nat} {Q : Kq} {x1 : Int32} (h :
    (if x1 < 0 then
     Q (.inl (some (.int (Int32.ofInt 1)))) (gE Lx) I L (e + 1)
    else
     (if (Int32.ofInt 1) < x1 then
      Q (.inl (some (.int (Int32.ofInt 1)))) (gE Lx) I L (e + 1)
     else
      Wp 106 0 [(0, .ref 5), (1, .int (I 5 3)), (2, .ref 14)] [] (gE Lx) I L e (kcp (Wp 198) 198 15 0 [(0, .ref 1)] 71 [] (kcp (Wp 197) 197 7 0 [(0, .ref 1), (1, .int x1)] 71 [] (kcp (Wp 411) 411 4 0 [(0, .ref 1), (2, .ref 70)] 71 [.int (Int32.ofInt 0), .ref 70] Q)))))) :
    Wp 411 0 [(0, .ref 1), (1, .int x1), (2, .ref 70)] [] (gE Lx) I L e Q := by
  refine w_a f_411_0 ?_
  refine w_a f_411_1 ?_
  refine w_a f_411_2 ?_
  refine w_a f_411_3 ?_
  refine w_c (ks := [0, 2]) f_411_4 rfl rfl ?_
  refine w_a (ls := [(0, .ref 1), (1, .int x1)]) f_197_0 ?_
  refine w_a f_197_1 ?_
  refine w_a f_197_2 ?_
  refine w_a f_197_3 ?_
  refine w_a (ls := [(0, .ref 1), (1, .int x1), (2, .int (Int32.ofInt 1))]) f_120_0 ?_
  refine w_a f_120_1 ?_
  refine i_m (fun h => ?_) (fun h => ?_) h
  · refine w_a f_120_9 ?_
    exact h
  · refine w_a f_120_4 ?_
    refine w_a f_120_5 ?_
    refine w_a f_120_6 ?_
    refine i_m (fun h => ?_) (fun h => ?_) h
    · refine w_a f_120_9 ?_
      exact h
    · refine w_a f_120_17 ?_
      refine w_a (ls := [(0, .ref 1), (1, .int x1)]) f_197_6 ?_
      refine w_c (ks := [0, 1]) f_197_7 rfl rfl ?_
      refine w_a (ls := [(0, .ref 1)]) f_198_0 ?_
      refine w_a f_198_1 ?_
      refine w_a f_198_4 ?_
      refine w_a f_198_5 ?_
      refine w_a f_198_8 ?_
      refine w_a f_198_11 ?_
      refine w_a f_198_12 ?_
      exact w_c (ks := [0]) f_198_15 rfl rfl h
set_option maxRecDepth 10000 in
set_option maxHeartbeats 4000000 in
theorem s_412_0 {Lx : Nat} {I : Mi} {L : Ml} {e : Nat} {Q : Kq} {x1 : Int32} (h :
    (if x1 < 0 then
     Q (.inl (some (.int (Int32.ofInt 1)))) (gE Lx) I L (e + 1)
    else
     (if (Int32.ofInt 2) < x1 then
      Q (.inl (some (.int (Int32.ofInt 1)))) (gE Lx) I L (e + 1)
     else
      Wp 65 0 [(0, .ref 22), (1, .ref 5)] [] (gE Lx) I L e (kcp (Wp 201) 201 14 0 [(0, .ref 1), (1, .int x1)] 71 [] (kcp (Wp 412) 412 4 0 [(0, .ref 1), (2, .ref 70)] 71 [.int (Int32.ofInt 0), .ref 70] Q))))) :
    Wp 412 0 [(0, .ref 1), (1, .int x1), (2, .ref 70)] [] (gE Lx) I L e Q := by
  refine w_a f_412_0 ?_
  refine w_a f_412_1 ?_
  refine w_a f_412_2 ?_
  refine w_a f_412_3 ?_
  refine w_c (ks := [0, 2]) f_412_4 rfl rfl ?_
  refine w_a (ls := [(0, .ref 1), (1, .int x1)]) f_201_0 ?_
  refine w_a f_201_1 ?_
  refine w_a f_201_2 ?_
  refine w_a f_201_3 ?_
  refine w_a (ls := [(0, .ref 1), (1, .int x1), (2, .int (Int32.ofInt 2))]) f_120_0 ?_
  refine w_a f_120_1 ?_
  refine i_m (fun h => ?_) (fun h => ?_) h
  · refine w_a f_120_9 ?_
    exact h
  · refine w_a f_120_4 ?_
    refine w_a f_120_5 ?_
    refine w_a f_120_6 ?_
    refine i_m (fun h => ?_) (fun h => ?_) h
    · refine w_a f_120_9 ?_
      exact h
    · refine w_a f_120_17 ?_
      refine w_a (ls := [(0, .ref 1), (1, .int x1)]) f_201_6 ?_
      refine w_a f_201_7 ?_
      refine w_a f_201_10 ?_
      refine w_a f_201_11 ?_
      exact w_c (ks := [0, 1]) f_201_14 rfl rfl h
set_option maxRecDepth 10000 in
set_option maxHeartbeats 4000000 in
theorem s_419_23 {Lx : Nat} {I : Mi} {L : Ml} {e : Nat} {Q : Kq} {x4 : Int32} (h :
    (if ((Int32.ofNat Lx) - (Int32.ofInt 10)) < x4 then
     Q (.inl (some (.int (Int32.ofInt 1)))) (gE Lx) I L e
    else
     (inb x4 Lx (
      (if ((I 0 x4.toNatClampNeg) &&& (Int32.ofInt 63)) = Int32.ofInt 0 then
       Wp 419 268 [(0, .ref 0), (1, .ref 1), (2, .ref 58), (3, .ref 70), (4, .int x4)] [] (gE Lx) I L e Q
      else
      (if ((I 0 x4.toNatClampNeg) &&& (Int32.ofInt 63)) = Int32.ofInt 1 then
       Wp 419 329 [(0, .ref 0), (1, .ref 1), (2, .ref 58), (3, .ref 70), (4, .int x4)] [] (gE Lx) I L e Q
      else
      (if ((I 0 x4.toNatClampNeg) &&& (Int32.ofInt 63)) = Int32.ofInt 2 then
       Wp 419 409 [(0, .ref 0), (1, .ref 1), (2, .ref 58), (3, .ref 70), (4, .int x4)] [] (gE Lx) I L e Q
      else
      (if ((I 0 x4.toNatClampNeg) &&& (Int32.ofInt 63)) = Int32.ofInt 3 then
       Wp 419 453 [(0, .ref 0), (1, .ref 1), (2, .ref 58), (3, .ref 70), (4, .int x4)] [] (gE Lx) I L e Q
      else
      (if ((I 0 x4.toNatClampNeg) &&& (Int32.ofInt 63)) = Int32.ofInt 4 then
       Wp 419 514 [(0, .ref 0), (1, .ref 1), (2, .ref 58), (3, .ref 70), (4, .int x4)] [] (gE Lx) I L e Q
      else
      (if ((I 0 x4.toNatClampNeg) &&& (Int32.ofInt 63)) = Int32.ofInt 5 then
       Wp 419 563 [(0, .ref 0), (1, .ref 1), (2, .ref 58), (3, .ref 70), (4, .int x4)] [] (gE Lx) I L e Q
      else
      (if ((I 0 x4.toNatClampNeg) &&& (Int32.ofInt 63)) = Int32.ofInt 6 then
       Wp 419 631 [(0, .ref 0), (1, .ref 1), (2, .ref 58), (3, .ref 70), (4, .int x4)] [] (gE Lx) I L e Q
      else
      (if ((I 0 x4.toNatClampNeg) &&& (Int32.ofInt 63)) = Int32.ofInt 7 then
       Wp 419 742 [(0, .ref 0), (1, .ref 1), (2, .ref 58), (3, .ref 70), (4, .int x4)] [] (gE Lx) I L e Q
      else
      (if ((I 0 x4.toNatClampNeg) &&& (Int32.ofInt 63)) = Int32.ofInt 8 then
       Wp 419 805 [(0, .ref 0), (1, .ref 1), (2, .ref 58), (3, .ref 70), (4, .int x4)] [] (gE Lx) I L e Q
      else
      (if ((I 0 x4.toNatClampNeg) &&& (Int32.ofInt 63)) = Int32.ofInt 9 then
       Wp 419 888 [(0, .ref 0), (1, .ref 1), (2, .ref 58), (3, .ref 70), (4, .int x4)] [] (gE Lx) I L e Q
      else
      (if ((I 0 x4.toNatClampNeg) &&& (Int32.ofInt 63)) = Int32.ofInt 10 then
       Wp 419 972 [(0, .ref 0), (1, .ref 1), (2, .ref 58), (3, .ref 70), (4, .int x4)] [] (gE Lx) I L e Q
      else
      (if ((I 0 x4.toNatClampNeg) &&& (Int32.ofInt 63)) = Int32.ofInt 11 then
       Wp 419 1063 [(0, .ref 0), (1, .ref 1), (2, .ref 58), (3, .ref 70), (4, .int x4)] [] (gE Lx) I L e Q
      else
      (if ((I 0 x4.toNatClampNeg) &&& (Int32.ofInt 63)) = Int32.ofInt 12 then
       Wp 419 1159 [(0, .ref 0), (1, .ref 1), (2, .ref 58), (3, .ref 70), (4, .int x4)] [] (gE Lx) I L e Q
      else
      (if ((I 0 x4.toNatClampNeg) &&& (Int32.ofInt 63)) = Int32.ofInt 13 then
       Wp 419 1267 [(0, .ref 0), (1, .ref 1), (2, .ref 58), (3, .ref 70), (4, .int x4)] [] (gE Lx) I L e Q
      else
      (if ((I 0 x4.toNatClampNeg) &&& (Int32.ofInt 63)) = Int32.ofInt 14 then
       Wp 419 1387 [(0, .ref 0), (1, .ref 1), (2, .ref 58), (3, .ref 70), (4, .int x4)] [] (gE Lx) I L e Q
      else
      (if ((I 0 x4.toNatClampNeg) &&& (Int32.ofInt 63)) = Int32.ofInt 15 then
       Wp 419 1479 [(0, .ref 0), (1, .ref 1), (2, .ref 58), (3, .ref 70), (4, .int x4)] [] (gE Lx) I L e Q
      else
      (if ((I 0 x4.toNatClampNeg) &&& (Int32.ofInt 63)) = Int32.ofInt 16 then
       Wp 419 1563 [(0, .ref 0), (1, .ref 1), (2, .ref 58), (3, .ref 70), (4, .int x4)] [] (gE Lx) I L e Q
      else
      (if ((I 0 x4.toNatClampNeg) &&& (Int32.ofInt 63)) = Int32.ofInt 17 then
       Wp 419 1666 [(0, .ref 0), (1, .ref 1), (2, .ref 58), (3, .ref 70), (4, .int x4)] [] (gE Lx) I L e Q
      else
      (if ((I 0 x4.toNatClampNeg) &&& (Int32.ofInt 63)) = Int32.ofInt 18 then
       Wp 419 1789 [(0, .ref 0), (1, .ref 1), (2, .ref 58), (3, .ref 70), (4, .int x4)] [] (gE Lx) I L e Q
      else
      (if ((I 0 x4.toNatClampNeg) &&& (Int32.ofInt 63)) = Int32.ofInt 19 then
       Wp 419 1884 [(0, .ref 0), (1, .ref 1), (2, .ref 58), (3, .ref 70), (4, .int x4)] [] (gE Lx) I L e Q
      else
      (if ((I 0 x4.toNatClampNeg) &&& (Int32.ofInt 63)) = Int32.ofInt 20 then
       Wp 419 2007 [(0, .ref 0), (1, .ref 1), (2, .ref 58), (3, .ref 70), (4, .int x4)] [] (gE Lx) I L e Q
      else
      (if ((I 0 x4.toNatClampNeg) &&& (Int32.ofInt 63)) = Int32.ofInt 21 then
       Wp 419 2118 [(0, .ref 0), (1, .ref 1), (2, .ref 58), (3, .ref 70), (4, .int x4)] [] (gE Lx) I L e Q
      else
      (if ((I 0 x4.toNatClampNeg) &&& (Int32.ofInt 63)) = Int32.ofInt 22 then
       Wp 419 2214 [(0, .ref 0), (1, .ref 1), (2, .ref 58), (3, .ref 70), (4, .int x4)] [] (gE Lx) I L e Q
      else
      (if ((I 0 x4.toNatClampNeg) &&& (Int32.ofInt 63)) = Int32.ofInt 23 then
       Wp 419 2326 [(0, .ref 0), (1, .ref 1), (2, .ref 58), (3, .ref 70), (4, .int x4)] [] (gE Lx) I L e Q
      else
      (if ((I 0 x4.toNatClampNeg) &&& (Int32.ofInt 63)) = Int32.ofInt 24 then
       Wp 419 2437 [(0, .ref 0), (1, .ref 1), (2, .ref 58), (3, .ref 70), (4, .int x4)] [] (gE Lx) I L e Q
      else
      (if ((I 0 x4.toNatClampNeg) &&& (Int32.ofInt 63)) = Int32.ofInt 25 then
       Wp 419 2533 [(0, .ref 0), (1, .ref 1), (2, .ref 58), (3, .ref 70), (4, .int x4)] [] (gE Lx) I L e Q
      else
      (if ((I 0 x4.toNatClampNeg) &&& (Int32.ofInt 63)) = Int32.ofInt 26 then
       Wp 419 2641 [(0, .ref 0), (1, .ref 1), (2, .ref 58), (3, .ref 70), (4, .int x4)] [] (gE Lx) I L e Q
      else
      (if ((I 0 x4.toNatClampNeg) &&& (Int32.ofInt 63)) = Int32.ofInt 27 then
       Wp 419 2820 [(0, .ref 0), (1, .ref 1), (2, .ref 58), (3, .ref 70), (4, .int x4)] [] (gE Lx) I L e Q
      else
      (if ((I 0 x4.toNatClampNeg) &&& (Int32.ofInt 63)) = Int32.ofInt 28 then
       Wp 419 2956 [(0, .ref 0), (1, .ref 1), (2, .ref 58), (3, .ref 70), (4, .int x4)] [] (gE Lx) I L e Q
      else
      (if ((I 0 x4.toNatClampNeg) &&& (Int32.ofInt 63)) = Int32.ofInt 29 then
       Wp 419 3076 [(0, .ref 0), (1, .ref 1), (2, .ref 58), (3, .ref 70), (4, .int x4)] [] (gE Lx) I L e Q
      else
      (if ((I 0 x4.toNatClampNeg) &&& (Int32.ofInt 63)) = Int32.ofInt 30 then
       Wp 419 3160 [(0, .ref 0), (1, .ref 1), (2, .ref 58), (3, .ref 70), (4, .int x4)] [] (gE Lx) I L e Q
      else
      (if ((I 0 x4.toNatClampNeg) &&& (Int32.ofInt 63)) = Int32.ofInt 31 then
       Wp 419 3311 [(0, .ref 0), (1, .ref 1), (2, .ref 58), (3, .ref 70), (4, .int x4)] [] (gE Lx) I L e Q
      else
      (if ((I 0 x4.toNatClampNeg) &&& (Int32.ofInt 63)) = Int32.ofInt 32 then
       Wp 419 3422 [(0, .ref 0), (1, .ref 1), (2, .ref 58), (3, .ref 70), (4, .int x4)] [] (gE Lx) I L e Q
      else
      (if ((I 0 x4.toNatClampNeg) &&& (Int32.ofInt 63)) = Int32.ofInt 33 then
       Wp 419 3505 [(0, .ref 0), (1, .ref 1), (2, .ref 58), (3, .ref 70), (4, .int x4)] [] (gE Lx) I L e Q
      else
      (if ((I 0 x4.toNatClampNeg) &&& (Int32.ofInt 63)) = Int32.ofInt 34 then
       Wp 419 3568 [(0, .ref 0), (1, .ref 1), (2, .ref 58), (3, .ref 70), (4, .int x4)] [] (gE Lx) I L e Q
      else
      (if ((I 0 x4.toNatClampNeg) &&& (Int32.ofInt 63)) = Int32.ofInt 35 then
       Wp 419 3648 [(0, .ref 0), (1, .ref 1), (2, .ref 58), (3, .ref 70), (4, .int x4)] [] (gE Lx) I L e Q
      else
      (if ((I 0 x4.toNatClampNeg) &&& (Int32.ofInt 63)) = Int32.ofInt 36 then
       Wp 419 3716 [(0, .ref 0), (1, .ref 1), (2, .ref 58), (3, .ref 70), (4, .int x4)] [] (gE Lx) I L e Q
      else
      (if ((I 0 x4.toNatClampNeg) &&& (Int32.ofInt 63)) = Int32.ofInt 37 then
       Wp 419 3741 [(0, .ref 0), (1, .ref 1), (2, .ref 58), (3, .ref 70), (4, .int x4)] [] (gE Lx) I L e Q
      else
      (if ((I 0 x4.toNatClampNeg) &&& (Int32.ofInt 63)) = Int32.ofInt 38 then
       Wp 419 3809 [(0, .ref 0), (1, .ref 1), (2, .ref 58), (3, .ref 70), (4, .int x4)] [] (gE Lx) I L e Q
      else
      (if ((I 0 x4.toNatClampNeg) &&& (Int32.ofInt 63)) = Int32.ofInt 39 then
       Wp 419 3943 [(0, .ref 0), (1, .ref 1), (2, .ref 58), (3, .ref 70), (4, .int x4)] [] (gE Lx) I L e Q
      else
      (if ((I 0 x4.toNatClampNeg) &&& (Int32.ofInt 63)) = Int32.ofInt 40 then
       Wp 419 4150 [(0, .ref 0), (1, .ref 1), (2, .ref 58), (3, .ref 70), (4, .int x4)] [] (gE Lx) I L e Q
      else
      (if ((I 0 x4.toNatClampNeg) &&& (Int32.ofInt 63)) = Int32.ofInt 41 then
       Wp 419 4270 [(0, .ref 0), (1, .ref 1), (2, .ref 58), (3, .ref 70), (4, .int x4)] [] (gE Lx) I L e Q
      else
      (if ((I 0 x4.toNatClampNeg) &&& (Int32.ofInt 63)) = Int32.ofInt 42 then
       Wp 419 4405 [(0, .ref 0), (1, .ref 1), (2, .ref 58), (3, .ref 70), (4, .int x4)] [] (gE Lx) I L e Q
      else
      (if ((I 0 x4.toNatClampNeg) &&& (Int32.ofInt 63)) = Int32.ofInt 43 then
       Wp 419 4525 [(0, .ref 0), (1, .ref 1), (2, .ref 58), (3, .ref 70), (4, .int x4)] [] (gE Lx) I L e Q
      else
      (if ((I 0 x4.toNatClampNeg) &&& (Int32.ofInt 63)) = Int32.ofInt 44 then
       Wp 419 4593 [(0, .ref 0), (1, .ref 1), (2, .ref 58), (3, .ref 70), (4, .int x4)] [] (gE Lx) I L e Q
      else
      (if ((I 0 x4.toNatClampNeg) &&& (Int32.ofInt 63)) = Int32.ofInt 45 then
       Wp 419 4618 [(0, .ref 0), (1, .ref 1), (2, .ref 58), (3, .ref 70), (4, .int x4)] [] (gE Lx) I L e Q
      else
      (if ((I 0 x4.toNatClampNeg) &&& (Int32.ofInt 63)) = Int32.ofInt 46 then
       Wp 419 4631 [(0, .ref 0), (1, .ref 1), (2, .ref 58), (3, .ref 70), (4, .int x4)] [] (gE Lx) I L e Q
      else
      (if ((I 0 x4.toNatClampNeg) &&& (Int32.ofInt 63)) = Int32.ofInt 47 then
       Wp 419 4687 [(0, .ref 0), (1, .ref 1), (2, .ref 58), (3, .ref 70), (4, .int x4)] [] (gE Lx) I L e Q
      else
      (if ((I 0 x4.toNatClampNeg) &&& (Int32.ofInt 63)) = Int32.ofInt 48 then
       Wp 419 4700 [(0, .ref 0), (1, .ref 1), (2, .ref 58), (3, .ref 70), (4, .int x4)] [] (gE Lx) I L e Q
      else
      (if ((I 0 x4.toNatClampNeg) &&& (Int32.ofInt 63)) = Int32.ofInt 49 then
       Wp 419 4755 [(0, .ref 0), (1, .ref 1), (2, .ref 58), (3, .ref 70), (4, .int x4)] [] (gE Lx) I L e Q
      else
      (if ((I 0 x4.toNatClampNeg) &&& (Int32.ofInt 63)) = Int32.ofInt 50 then
       Wp 419 4811 [(0, .ref 0), (1, .ref 1), (2, .ref 58), (3, .ref 70), (4, .int x4)] [] (gE Lx) I L e Q
      else
      (if ((I 0 x4.toNatClampNeg) &&& (Int32.ofInt 63)) = Int32.ofInt 51 then
       Wp 419 4867 [(0, .ref 0), (1, .ref 1), (2, .ref 58), (3, .ref 70), (4, .int x4)] [] (gE Lx) I L e Q
      else
      (if ((I 0 x4.toNatClampNeg) &&& (Int32.ofInt 63)) = Int32.ofInt 52 then
       Wp 419 4892 [(0, .ref 0), (1, .ref 1), (2, .ref 58), (3, .ref 70), (4, .int x4)] [] (gE Lx) I L e Q
      else
       Wp 419 4917 [(0, .ref 0), (1, .ref 1), (2, .ref 58), (3, .ref 70), (4, .int x4)] [] (gE Lx) I L e Q))))))))))))))))))))))))))))))))))))))))))))))))))))))
     False))) :
    Wp 419 23 [(0, .ref 0), (1, .ref 1), (2, .ref 58), (3, .ref 70), (4, .int x4)] [] (gE Lx) I L e Q := by
  refine w_a f_419_23 ?_
  refine w_a f_419_25 ?_
  refine w_a f_419_26 ?_
  refine w_a f_419_27 ?_
  refine w_a f_419_29 ?_
  refine w_a f_419_30 ?_
  refine i_m (fun h => ?_) (fun h => ?_) h
  · refine w_a f_419_4923 ?_
    refine w_a f_419_4924 ?_
    exact h
  · refine w_a f_419_33 ?_
    refine w_a f_419_34 ?_
    refine w_a f_419_36 ?_
    refine n_m (fun h => ?_) h
    refine w_a f_419_37 ?_
    refine w_a f_419_39 ?_
    refine w_a f_419_40 ?_
    refine i_m (fun h => ?_) (fun h => ?_) h
    · exact w_n (ks := [0, 1, 2, 3, 4]) rfl h
    · refine i_m (fun h => ?_) (fun h => ?_) h
      · exact w_n (ks := [0, 1, 2, 3, 4]) rfl h
      · refine i_m (fun h => ?_) (fun h => ?_) h
        · exact w_n (ks := [0, 1, 2, 3, 4]) rfl h
        · refine i_m (fun h => ?_) (fun h => ?_) h
          · exact w_n (ks := [0, 1, 2, 3, 4]) rfl h
          · refine i_m (fun h => ?_) (fun h => ?_) h
            · exact w_n (ks := [0, 1, 2, 3, 4]) rfl h
            · refine i_m (fun h => ?_) (fun h => ?_) h
              · exact w_n (ks := [0, 1, 2, 3, 4]) rfl h
              · refine i_m (fun h => ?_) (fun h => ?_) h
                · exact w_n (ks := [0, 1, 2, 3, 4]) rfl h
                · refine i_m (fun h => ?_) (fun h => ?_) h
                  · exact w_n (ks := [0, 1, 2, 3, 4]) rfl h
                  · refine i_m (fun h => ?_) (fun h => ?_) h
                    · exact w_n (ks := [0, 1, 2, 3, 4]) rfl h
                    · refine i_m (fun h => ?_) (fun h => ?_) h
                      · exact w_n (ks := [0, 1, 2, 3, 4]) rfl h
                      · refine i_m (fun h => ?_) (fun h => ?_) h
                        · exact w_n (ks := [0, 1, 2, 3, 4]) rfl h
                        · refine i_m (fun h => ?_) (fun h => ?_) h
                          · exact w_n (ks := [0, 1, 2, 3, 4]) rfl h
                          · refine i_m (fun h => ?_) (fun h => ?_) h
                            · exact w_n (ks := [0, 1, 2, 3, 4]) rfl h
                            · refine i_m (fun h => ?_) (fun h => ?_) h
                              · exact w_n (ks := [0, 1, 2, 3, 4]) rfl h
                              · refine i_m (fun h => ?_) (fun h => ?_) h
                                · exact w_n (ks := [0, 1, 2, 3, 4]) rfl h
                                · refine i_m (fun h => ?_) (fun h => ?_) h
                                  · exact w_n (ks := [0, 1, 2, 3, 4]) rfl h
                                  · refine i_m (fun h => ?_) (fun h => ?_) h
                                    · exact w_n (ks := [0, 1, 2, 3, 4]) rfl h
                                    · refine i_m (fun h => ?_) (fun h => ?_) h
                                      · exact w_n (ks := [0, 1, 2, 3, 4]) rfl h
                                      · refine i_m (fun h => ?_) (fun h => ?_) h
                                        · exact w_n (ks := [0, 1, 2, 3, 4]) rfl h
                                        · refine i_m (fun h => ?_) (fun h => ?_) h
                                          · exact w_n (ks := [0, 1, 2, 3, 4]) rfl h
                                          · refine i_m (fun h => ?_) (fun h => ?_) h
                                            · exact w_n (ks := [0, 1, 2, 3, 4]) rfl h
                                            · refine i_m (fun h => ?_) (fun h => ?_) h
                                              · exact w_n (ks := [0, 1, 2, 3, 4]) rfl h
                                              · refine i_m (fun h => ?_) (fun h => ?_) h
                                                · exact w_n (ks := [0, 1, 2, 3, 4]) rfl h
                                                · refine i_m (fun h => ?_) (fun h => ?_) h
                                                  · exact w_n (ks := [0, 1, 2, 3, 4]) rfl h
                                                  · refine i_m (fun h => ?_) (fun h => ?_) h
                                                    · exact w_n (ks := [0, 1, 2, 3, 4]) rfl h
                                                    · refine i_m (fun h => ?_) (fun h => ?_) h
                                                      · exact w_n (ks := [0, 1, 2, 3, 4]) rfl h
                                                      · refine i_m (fun h => ?_) (fun h => ?_) h
                                                        · exact w_n (ks := [0, 1, 2, 3, 4]) rfl h
                                                        · refine i_m (fun h => ?_) (fun h => ?_) h
                                                          · exact w_n (ks := [0, 1, 2, 3, 4]) rfl h
                                                          · refine i_m (fun h => ?_) (fun h => ?_) h
                                                            · exact w_n (ks := [0, 1, 2, 3, 4]) rfl h
                                                            · refine i_m (fun h => ?_) (fun h => ?_) h
                                                              · exact w_n (ks := [0, 1, 2, 3, 4]) rfl h
                                                              · refine i_m (fun h => ?_) (fun h => ?_) h
                                                                · exact w_n (ks := [0, 1, 2, 3, 4]) rfl h
                                                                · refine i_m (fun h => ?_) (fun h => ?_) h
                                                                  · exact w_n (ks := [0, 1, 2, 3, 4]) rfl h
                                                                  · refine i_m (fun h => ?_) (fun h => ?_) h
                                                                    · exact w_n (ks := [0, 1, 2, 3, 4]) rfl h
                                                                    · refine i_m (fun h => ?_) (fun h => ?_) h
                                                                      · exact w_n (ks := [0, 1, 2, 3, 4]) rfl h
                                                                      · refine i_m (fun h => ?_) (fun h => ?_) h
                                                                        · exact w_n (ks := [0, 1, 2, 3, 4]) rfl h
                                                                        · refine i_m (fun h => ?_) (fun h => ?_) h
                                                                          · exact w_n (ks := [0, 1, 2, 3, 4]) rfl h
                                                                          · refine i_m (fun h => ?_) (fun h => ?_) h
                                                                            · exact w_n (ks := [0, 1, 2, 3, 4]) rfl h
                                                                            · refine i_m (fun h => ?_) (fun h => ?_) h
                                                                              · exact w_n (ks := [0, 1, 2, 3, 4]) rfl h
                                                                              · refine i_m (fun h => ?_) (fun h => ?_) h
                                                                                · exact w_n (ks := [0, 1, 2, 3, 4]) rfl h
                                                                                · refine i_m (fun h => ?_) (fun h => ?_) h
                                                                                  · exact w_n (ks := [0, 1, 2, 3, 4]) rfl h
                                                                                  · refine i_m (fun h => ?_) (fun h => ?_) h
                                                                                    · exact w_n (ks := [0, 1, 2, 3, 4]) rfl h
                                                                                    · refine i_m (fun h => ?_) (fun h => ?_) h
                                                                                      · exact w_n (ks := [0, 1, 2, 3, 4]) rfl h
                                                                                      · refine i_m (fun h => ?_) (fun h => ?_) h
                                                                                        · exact w_n (ks := [0, 1, 2, 3, 4]) rfl h
                                                                                        · refine i_m (fun h => ?_) (fun h => ?_) h
                                                                                          · exact w_n (ks := [0, 1, 2, 3, 4]) rfl h
                                                                                          · refine i_m (fun h => ?_) (fun h => ?_) h
                                                                                            · exact w_n (ks := [0, 1, 2, 3, 4]) rfl h
                                                                                            · refine i_m (fun h => ?_) (fun h => ?_) h
                                                                                              · exact w_n (ks := [0, 1, 2, 3, 4]) rfl h
                                                                                              · refine i_m (fun h => ?_) (fun h => ?_) h
                                                                                                · exact w_n (ks := [0, 1, 2, 3, 4]) rfl h
                                                                                                · refine i_m (fun h => ?_) (fun h => ?_) h
                                                                                                  · exact w_n (ks := [0, 1, 2, 3, 4]) rfl h
                                                                                                  · refine i_m (fun h => ?_) (fun h => ?_) h
                                                                                                    · exact w_n (ks := [0, 1, 2, 3, 4]) rfl h
                                                                                                    · refine i_m (fun h => ?_) (fun h => ?_) h
                                                                                                      · exact w_n (ks := [0, 1, 2, 3, 4]) rfl h
                                                                                                      · refine i_m (fun h => ?_) (fun h => ?_) h
                                                                                                        · exact w_n (ks := [0, 1, 2, 3, 4]) rfl h
                                                                                                        · refine i_m (fun h => ?_) (fun h => ?_) h
                                                                                                          · exact w_n (ks := [0, 1, 2, 3, 4]) rfl h
                                                                                                          · refine i_m (fun h => ?_) (fun h => ?_) h
                                                                                                            · exact w_n (ks := [0, 1, 2, 3, 4]) rfl h
                                                                                                            · exact w_n (ks := [0, 1, 2, 3, 4]) rfl h
set_option maxRecDepth 10000 in
set_option maxHeartbeats 4000000 in
theorem s_419_268 {Lx : Nat} {I : Mi} {L : Ml} {e : Nat} {Q : Kq} {x4 : Int32} (h :
    (inb (x4 + (Int32.ofInt 1)) Lx (
     (inb (x4 + (Int32.ofInt 2)) Lx (
      (inb (x4 + (Int32.ofInt 3)) Lx (
       Wp 367 0 [(0, .ref 1), (1, .int (I 0 ((x4 + (Int32.ofInt 1)).toNatClampNeg))), (2, .int (I 0 ((x4 + (Int32.ofInt 2)).toNatClampNeg))), (3, .int (I 0 ((x4 + (Int32.ofInt 3)).toNatClampNeg)))] [] (gE Lx) I L e (kcp (Wp 419) 419 287 0 [(0, .ref 0), (1, .ref 1), (2, .ref 58), (3, .ref 70), (4, .int x4)] 71 [] Q))
      False))
     False))
    False)) :
    Wp 419 268 [(0, .ref 0), (1, .ref 1), (2, .ref 58), (3, .ref 70), (4, .int x4)] [] (gE Lx) I L e Q := by
  refine w_a f_419_268 ?_
  refine w_a f_419_269 ?_
  refine w_a f_419_270 ?_
  refine w_a f_419_272 ?_
  refine w_a f_419_273 ?_
  refine w_a f_419_274 ?_
  refine n_m (fun h => ?_) h
  refine w_a f_419_275 ?_
  refine w_a f_419_276 ?_
  refine w_a f_419_278 ?_
  refine w_a f_419_279 ?_
  refine w_a f_419_280 ?_
  refine n_m (fun h => ?_) h
  refine w_a f_419_281 ?_
  refine w_a f_419_282 ?_
  refine w_a f_419_284 ?_
  refine w_a f_419_285 ?_
  refine w_a f_419_286 ?_
  refine n_m (fun h => ?_) h
  exact w_c (ks := [0, 1, 2, 3, 4]) f_419_287 rfl rfl h
set_option maxRecDepth 10000 in
set_option maxHeartbeats 4000000 in
theorem s_419_290 {Lx : Nat} {I : Mi} {L : Ml} {e : Nat} {Q : Kq} {x4 : Int32} {r : Int32} (h :
    (inb (x4 + (Int32.ofInt 1)) Lx (
     (inb (x4 + (Int32.ofInt 2)) Lx (
      (inb (x4 + (Int32.ofInt 3)) Lx (
       Wp 213 0 [(0, .ref 58), (1, .int (I 0 ((x4 + (Int32.ofInt 1)).toNatClampNeg))), (2, .int (I 0 ((x4 + (Int32.ofInt 2)).toNatClampNeg))), (3, .int (I 0 ((x4 + (Int32.ofInt 3)).toNatClampNeg)))] [] (gE Lx) I L e (kcp (Wp 419) 419 311 0 [(0, .ref 0), (1, .ref 1), (2, .ref 58), (3, .ref 70), (4, .int x4), (5, .int r)] 71 [] Q))
      False))
     False))
    False)) :
    Wp 419 290 [(0, .ref 0), (1, .ref 1), (2, .ref 58), (3, .ref 70), (4, .int x4)] [.int r] (gE Lx) I L e Q := by
  refine w_a f_419_290 ?_
  refine w_a (ls := [(5, .int r), (0, .ref 0), (1, .ref 1), (2, .ref 58), (3, .ref 70), (4, .int x4)]) f_419_292 ?_
  refine w_a f_419_293 ?_
  refine w_a f_419_294 ?_
  refine w_a f_419_296 ?_
  refine w_a f_419_297 ?_
  refine w_a f_419_298 ?_
  refine n_m (fun h => ?_) h
  refine w_a f_419_299 ?_
  refine w_a f_419_300 ?_
  refine w_a f_419_302 ?_
  refine w_a f_419_303 ?_
  refine w_a f_419_304 ?_
  refine n_m (fun h => ?_) h
  refine w_a f_419_305 ?_
  refine w_a f_419_306 ?_
  refine w_a f_419_308 ?_
  refine w_a f_419_309 ?_
  refine w_a f_419_310 ?_
  refine n_m (fun h => ?_) h
  exact w_c (ks := [0, 1, 2, 3, 4, 5]) f_419_311 rfl rfl h
set_option maxRecDepth 10000 in
set_option maxHeartbeats 4000000 in
theorem s_419_314 {Lx : Nat} {I : Mi} {L : Ml} {e : Nat} {Q : Kq} {x4 : Int32} {x5 : Int32} {r : Int32} (h :
    (if (I 58 0) = x5 then
     Wp 419 4917 [(0, .ref 0), (1, .ref 1), (2, .ref 58), (3, .ref 70), (4, .int x4)] [] (gE Lx) I L e Q
    else
     Q (.inl (some (.int (Int32.ofInt 0)))) (gE Lx) I L e)) :
    Wp 419 314 [(0, .ref 0), (1, .ref 1), (2, .ref 58), (3, .ref 70), (4, .int x4), (5, .int x5)] [.int r] (gE Lx) I L e Q := by
  refine w_a f_419_314 ?_
  refine w_a f_419_315 ?_
  refine w_a f_419_316 ?_
  refine w_a (ls := [(0, .ref 58)]) f_212_0 ?_
  refine w_a f_212_1 ?_
  refine w_a f_212_4 ?_
  refine w_a (ls := [(0, .ref 0), (1, .ref 1), (2, .ref 58), (3, .ref 70), (4, .int x4), (5, .int x5)]) f_419_319 ?_
  refine w_a f_419_321 ?_
  refine i_m (fun h => ?_) (fun h => ?_) h
  · refine w_a f_419_326 ?_
    exact w_n (ks := [0, 1, 2, 3, 4]) rfl h
  · refine w_a f_419_324 ?_
    refine w_a f_419_325 ?_
    exact h
set_option maxRecDepth 10000 in
set_option maxHeartbeats 4000000 in
theorem s_419_329 {Lx : Nat} {I : Mi} {L : Ml} {e : Nat} {Q : Kq} {x4 : Int32} (h :
    (inb (x4 + (Int32.ofInt 1)) Lx (
     (inb (x4 + (Int32.ofInt 2)) Lx (
      (inb (x4 + (Int32.ofInt 3)) Lx (
       Wp 368 0 [(0, .ref 1), (1, .int (I 0 ((x4 + (Int32.ofInt 1)).toNatClampNeg))), (2, .int (I 0 ((x4 + (Int32.ofInt 2)).toNatClampNeg))), (3, .int (I 0 ((x4 + (Int32.ofInt 3)).toNatClampNeg))), (4, .ref 70)] [] (gE Lx) I L e (kcp (Wp 419) 419 349 0 [(0, .ref 0), (1, .ref 1), (2, .ref 58), (3, .ref 70), (4, .int x4)] 71 [] Q))
      False))
     False))
    False)) :
    Wp 419 329 [(0, .ref 0), (1, .ref 1), (2, .ref 58), (3, .ref 70), (4, .int x4)] [] (gE Lx) I L e Q := by
  refine w_a f_419_329 ?_
  refine w_a f_419_330 ?_
  refine w_a f_419_331 ?_
  refine w_a f_419_333 ?_
  refine w_a f_419_334 ?_
  refine w_a f_419_335 ?_
  refine n_m (fun h => ?_) h
  refine w_a f_419_336 ?_
  refine w_a f_419_337 ?_
  refine w_a f_419_339 ?_
  refine w_a f_419_340 ?_
  refine w_a f_419_341 ?_
  refine n_m (fun h => ?_) h
  refine w_a f_419_342 ?_
  refine w_a f_419_343 ?_
  refine w_a f_419_345 ?_
  refine w_a f_419_346 ?_
  refine w_a f_419_347 ?_
  refine n_m (fun h => ?_) h
  refine w_a f_419_348 ?_
  exact w_c (ks := [0, 1, 2, 3, 4]) f_419_349 rfl rfl h
set_option maxRecDepth 10000 in
set_option maxHeartbeats 4000000 in
theorem s_419_352 {Lx : Nat} {I : Mi} {L : Ml} {e : Nat} {Q : Kq} {x4 : Int32} {r : Int32} (h :
    (inb (x4 + (Int32.ofInt 1)) Lx (
     (inb (x4 + (Int32.ofInt 2)) Lx (
      (inb (x4 + (Int32.ofInt 3)) Lx (
       Wp 214 0 [(0, .ref 58), (1, .int (I 0 ((x4 + (Int32.ofInt 1)).toNatClampNeg))), (2, .int (I 0 ((x4 + (Int32.ofInt 2)).toNatClampNeg))), (3, .int (I 0 ((x4 + (Int32.ofInt 3)).toNatClampNeg)))] [] (gE Lx) I L e (kcp (Wp 419) 419 373 0 [(0, .ref 0), (1, .ref 1), (2, .ref 58), (3, .ref 70), (4, .int x4), (5, .int r)] 71 [] Q))
      False))
     False))
    False)) :
    Wp 419 352 [(0, .ref 0), (1, .ref 1), (2, .ref 58), (3, .ref 70), (4, .int x4)] [.int r] (gE Lx) I L e Q := by
  refine w_a f_419_352 ?_
  refine w_a (ls := [(5, .int r), (0, .ref 0), (1, .ref 1), (2, .ref 58), (3, .ref 70), (4, .int x4)]) f_419_354 ?_
  refine w_a f_419_355 ?_
  refine w_a f_419_356 ?_
  refine w_a f_419_358 ?_
  refine w_a f_419_359 ?_
  refine w_a f_419_360 ?_
  refine n_m (fun h => ?_) h
  refine w_a f_419_361 ?_
  refine w_a f_419_362 ?_
  refine w_a f_419_364 ?_
  refine w_a f_419_365 ?_
  refine w_a f_419_366 ?_
  refine n_m (fun h => ?_) h
  refine w_a f_419_367 ?_
  refine w_a f_419_368 ?_
  refine w_a f_419_370 ?_
  refine w_a f_419_371 ?_
  refine w_a f_419_372 ?_
  refine n_m (fun h => ?_) h
  exact w_c (ks := [0, 1, 2, 3, 4, 5]) f_419_373 rfl rfl h
set_option maxRecDepth 10000 in
set_option maxHeartbeats 4000000 in
theorem s_419_376 {Lx : Nat} {I : Mi} {L : Ml} {e : Nat} {Q : Kq} {x4 : Int32} {x5 : Int32} {r : Int32} (h :
    (if (I 58 0) = x5 then
     (if x5 = 0 then
      (if (L 70 0) = r.toInt64 then
       Wp 419 4917 [(0, .ref 0), (1, .ref 1), (2, .ref 58), (3, .ref 70), (4, .int x4)] [] (gE Lx) I L e Q
      else
       Q (.inl (some (.int (Int32.ofInt 0)))) (gE Lx) I L e)
     else
      Wp 419 4917 [(0, .ref 0), (1, .ref 1), (2, .ref 58), (3, .ref 70), (4, .int x4)] [] (gE Lx) I L e Q)
    else
     Q (.inl (some (.int (Int32.ofInt 0)))) (gE Lx) I L e)) :
    Wp 419 376 [(0, .ref 0), (1, .ref 1), (2, .ref 58), (3, .ref 70), (4, .int x4), (5, .int x5)] [.int r] (gE Lx) I L e Q := by
  refine w_a f_419_376 ?_
  refine w_a (ls := [(6, .int r), (0, .ref 0), (1, .ref 1), (2, .ref 58), (3, .ref 70), (4, .int x4), (5, .int x5)]) f_419_378 ?_
  refine w_a f_419_379 ?_
  refine w_a (ls := [(0, .ref 58)]) f_212_0 ?_
  refine w_a f_212_1 ?_
  refine w_a f_212_4 ?_
  refine w_a (ls := [(6, .int r), (0, .ref 0), (1, .ref 1), (2, .ref 58), (3, .ref 70), (4, .int x4), (5, .int x5)]) f_419_382 ?_
  refine w_a f_419_384 ?_
  refine i_m (fun h => ?_) (fun h => ?_) h
  · refine w_a f_419_389 ?_
    refine w_a f_419_391 ?_
    refine i_m (fun h => ?_) (fun h => ?_) h
    · refine w_a f_419_394 ?_
      refine w_a f_419_395 ?_
      refine w_a f_419_396 ?_
      refine w_a f_419_397 ?_
      refine w_a f_419_399 ?_
      refine w_a f_419_400 ?_
      refine i_m (fun h => ?_) (fun h => ?_) h
      · refine w_a f_419_406 ?_
        exact w_n (ks := [0, 1, 2, 3, 4]) rfl h
      · refine w_a f_419_404 ?_
        refine w_a f_419_405 ?_
        exact h
    · refine w_a f_419_406 ?_
      exact w_n (ks := [0, 1, 2, 3, 4]) rfl h
  · refine w_a f_419_387 ?_
    refine w_a f_419_388 ?_
    exact h
set_option maxRecDepth 10000 in
set_option maxHeartbeats 4000000 in
theorem s_419_409 {Lx : Nat} {I : Mi} {L : Ml} {e : Nat} {Q : Kq} {x4 : Int32} (h :
    Wp 369 0 [(0, .ref 1), (1, .ref 70)] [] (gE Lx) I L e (kcp (Wp 419) 419 411 0 [(0, .ref 0), (1, .ref 1), (2, .ref 58), (3, .ref 70), (4, .int x4)] 71 [] Q)) :
    Wp 419 409 [(0, .ref 0), (1, .ref 1), (2, .ref 58), (3, .ref 70), (4, .int x4)] [] (gE Lx) I L e Q := by
  refine w_a f_419_409 ?_
  refine w_a f_419_410 ?_
  exact w_c (ks := [0, 1, 2, 3, 4]) f_419_411 rfl rfl h
set_option maxRecDepth 10000 in
set_option maxHeartbeats 4000000 in
theorem s_419_414 {Lx : Nat} {I : Mi} {L : Ml} {e : Nat} {Q : Kq} {x4 : Int32} {r : Int32} (h :
    Wp 217 0 [(0, .ref 58)] [] (gE Lx) I L e (kcp (Wp 419) 419 417 0 [(0, .ref 0), (1, .ref 1), (2, .ref 58), (3, .ref 70), (4, .int x4), (5, .int r)] 71 [] Q)) :
    Wp 419 414 [(0, .ref 0), (1, .ref 1), (2, .ref 58), (3, .ref 70), (4, .int x4)] [.int r] (gE Lx) I L e Q := by
  refine w_a f_419_414 ?_
  refine w_a (ls := [(5, .int r), (0, .ref 0), (1, .ref 1), (2, .ref 58), (3, .ref 70), (4, .int x4)]) f_419_416 ?_
  exact w_c (ks := [0, 1, 2, 3, 4, 5]) f_419_417 rfl rfl h
set_option maxRecDepth 10000 in
set_option maxHeartbeats 4000000 in
theorem s_419_420 {Lx : Nat} {I : Mi} {L : Ml} {e : Nat} {Q : Kq} {x4 : Int32} {x5 : Int32} {r : Int32} (h :
    (if (I 58 0) = x5 then
     (if x5 = 0 then
      (if (L 70 0) = r.toInt64 then
       Wp 419 4917 [(0, .ref 0), (1, .ref 1), (2, .ref 58), (3, .ref 70), (4, .int x4)] [] (gE Lx) I L e Q
      else
       Q (.inl (some (.int (Int32.ofInt 0)))) (gE Lx) I L e)
     else
      Wp 419 4917 [(0, .ref 0), (1, .ref 1), (2, .ref 58), (3, .ref 70), (4, .int x4)] [] (gE Lx) I L e Q)
    else
     Q (.inl (some (.int (Int32.ofInt 0)))) (gE Lx) I L e)) :
    Wp 419 420 [(0, .ref 0), (1, .ref 1), (2, .ref 58), (3, .ref 70), (4, .int x4), (5, .int x5)] [.int r] (gE Lx) I L e Q := by
  refine w_a f_419_420 ?_
  refine w_a (ls := [(6, .int r), (0, .ref 0), (1, .ref 1), (2, .ref 58), (3, .ref 70), (4, .int x4), (5, .int x5)]) f_419_422 ?_
  refine w_a f_419_423 ?_
  refine w_a (ls := [(0, .ref 58)]) f_212_0 ?_
  refine w_a f_212_1 ?_
  refine w_a f_212_4 ?_
  refine w_a (ls := [(6, .int r), (0, .ref 0), (1, .ref 1), (2, .ref 58), (3, .ref 70), (4, .int x4), (5, .int x5)]) f_419_426 ?_
  refine w_a f_419_428 ?_
  refine i_m (fun h => ?_) (fun h => ?_) h
  · refine w_a f_419_433 ?_
    refine w_a f_419_435 ?_
    refine i_m (fun h => ?_) (fun h => ?_) h
    · refine w_a f_419_438 ?_
      refine w_a f_419_439 ?_
      refine w_a f_419_440 ?_
      refine w_a f_419_441 ?_
      refine w_a f_419_443 ?_
      refine w_a f_419_444 ?_
      refine i_m (fun h => ?_) (fun h => ?_) h
      · refine w_a f_419_450 ?_
        exact w_n (ks := [0, 1, 2, 3, 4]) rfl h
      · refine w_a f_419_448 ?_
        refine w_a f_419_449 ?_
        exact h
    · refine w_a f_419_450 ?_
      exact w_n (ks := [0, 1, 2, 3, 4]) rfl h
  · refine w_a f_419_431 ?_
    refine w_a f_419_432 ?_
    exact h
set_option maxRecDepth 10000 in
set_option maxHeartbeats 4000000 in
theorem s_419_453 {Lx : Nat} {I : Mi} {L : Ml} {e : Nat} {Q : Kq} {x4 : Int32} (h :
    (inb (x4 + (Int32.ofInt 1)) Lx (
     (inb (x4 + (Int32.ofInt 2)) Lx (
      (inb (x4 + (Int32.ofInt 3)) Lx (
       Wp 370 0 [(0, .ref 1), (1, .int (I 0 ((x4 + (Int32.ofInt 1)).toNatClampNeg))), (2, .int (I 0 ((x4 + (Int32.ofInt 2)).toNatClampNeg))), (3, .int (I 0 ((x4 + (Int32.ofInt 3)).toNatClampNeg)))] [] (gE Lx) I L e (kcp (Wp 419) 419 472 0 [(0, .ref 0), (1, .ref 1), (2, .ref 58), (3, .ref 70), (4, .int x4)] 71 [] Q))
      False))
     False))
    False)) :
    Wp 419 453 [(0, .ref 0), (1, .ref 1), (2, .ref 58), (3, .ref 70), (4, .int x4)] [] (gE Lx) I L e Q := by
  refine w_a f_419_453 ?_
  refine w_a f_419_454 ?_
  refine w_a f_419_455 ?_
  refine w_a f_419_457 ?_
  refine w_a f_419_458 ?_
  refine w_a f_419_459 ?_
  refine n_m (fun h => ?_) h
  refine w_a f_419_460 ?_
  refine w_a f_419_461 ?_
  refine w_a f_419_463 ?_
  refine w_a f_419_464 ?_
  refine w_a f_419_465 ?_
  refine n_m (fun h => ?_) h
  refine w_a f_419_466 ?_
  refine w_a f_419_467 ?_
  refine w_a f_419_469 ?_
  refine w_a f_419_470 ?_
  refine w_a f_419_471 ?_
  refine n_m (fun h => ?_) h
  exact w_c (ks := [0, 1, 2, 3, 4]) f_419_472 rfl rfl h
set_option maxRecDepth 10000 in
set_option maxHeartbeats 4000000 in
theorem s_419_475 {Lx : Nat} {I : Mi} {L : Ml} {e : Nat} {Q : Kq} {x4 : Int32} {r : Int32} (h :
    (inb (x4 + (Int32.ofInt 1)) Lx (
     (inb (x4 + (Int32.ofInt 2)) Lx (
      (inb (x4 + (Int32.ofInt 3)) Lx (
       Wp 218 0 [(0, .ref 58), (1, .int (I 0 ((x4 + (Int32.ofInt 1)).toNatClampNeg))), (2, .int (I 0 ((x4 + (Int32.ofInt 2)).toNatClampNeg))), (3, .int (I 0 ((x4 + (Int32.ofInt 3)).toNatClampNeg)))] [] (gE Lx) I L e (kcp (Wp 419) 419 496 0 [(0, .ref 0), (1, .ref 1), (2, .ref 58), (3, .ref 70), (4, .int x4), (5, .int r)] 71 [] Q))
      False))
     False))
    False)) :
    Wp 419 475 [(0, .ref 0), (1, .ref 1), (2, .ref 58), (3, .ref 70), (4, .int x4)] [.int r] (gE Lx) I L e Q := by
  refine w_a f_419_475 ?_
  refine w_a (ls := [(5, .int r), (0, .ref 0), (1, .ref 1), (2, .ref 58), (3, .ref 70), (4, .int x4)]) f_419_477 ?_
  refine w_a f_419_478 ?_
  refine w_a f_419_479 ?_
  refine w_a f_419_481 ?_
  refine w_a f_419_482 ?_
  refine w_a f_419_483 ?_
  refine n_m (fun h => ?_) h
  refine w_a f_419_484 ?_
  refine w_a f_419_485 ?_
  refine w_a f_419_487 ?_
  refine w_a f_419_488 ?_
  refine w_a f_419_489 ?_
  refine n_m (fun h => ?_) h
  refine w_a f_419_490 ?_
  refine w_a f_419_491 ?_
  refine w_a f_419_493 ?_
  refine w_a f_419_494 ?_
  refine w_a f_419_495 ?_
  refine n_m (fun h => ?_) h
  exact w_c (ks := [0, 1, 2, 3, 4, 5]) f_419_496 rfl rfl h
set_option maxRecDepth 10000 in
set_option maxHeartbeats 4000000 in
theorem s_419_499 {Lx : Nat} {I : Mi} {L : Ml} {e : Nat} {Q : Kq} {x4 : Int32} {x5 : Int32} {r : Int32} (h :
    (if (I 58 0) = x5 then
     Wp 419 4917 [(0, .ref 0), (1, .ref 1), (2, .ref 58), (3, .ref 70), (4, .int x4)] [] (gE Lx) I L e Q
    else
     Q (.inl (some (.int (Int32.ofInt 0)))) (gE Lx) I L e)) :
    Wp 419 499 [(0, .ref 0), (1, .ref 1), (2, .ref 58), (3, .ref 70), (4, .int x4), (5, .int x5)] [.int r] (gE Lx) I L e Q := by
  refine w_a f_419_499 ?_
  refine w_a f_419_500 ?_
  refine w_a f_419_501 ?_
  refine w_a (ls := [(0, .ref 58)]) f_212_0 ?_
  refine w_a f_212_1 ?_
  refine w_a f_212_4 ?_
  refine w_a (ls := [(0, .ref 0), (1, .ref 1), (2, .ref 58), (3, .ref 70), (4, .int x4), (5, .int x5)]) f_419_504 ?_
  refine w_a f_419_506 ?_
  refine i_m (fun h => ?_) (fun h => ?_) h
  · refine w_a f_419_511 ?_
    exact w_n (ks := [0, 1, 2, 3, 4]) rfl h
  · refine w_a f_419_509 ?_
    refine w_a f_419_510 ?_
    exact h
set_option maxRecDepth 10000 in
set_option maxHeartbeats 4000000 in
theorem s_419_514 {Lx : Nat} {I : Mi} {L : Ml} {e : Nat} {Q : Kq} {x4 : Int32} (h :
    (inb (x4 + (Int32.ofInt 1)) Lx (
     (inb (x4 + (Int32.ofInt 2)) Lx (
      Wp 371 0 [(0, .ref 1), (1, .int (I 0 ((x4 + (Int32.ofInt 1)).toNatClampNeg))), (2, .int (I 0 ((x4 + (Int32.ofInt 2)).toNatClampNeg)))] [] (gE Lx) I L e (kcp (Wp 419) 419 527 0 [(0, .ref 0), (1, .ref 1), (2, .ref 58), (3, .ref 70), (4, .int x4)] 71 [] Q))
     False))
    False)) :
    Wp 419 514 [(0, .ref 0), (1, .ref 1), (2, .ref 58), (3, .ref 70), (4, .int x4)] [] (gE Lx) I L e Q := by
  refine w_a f_419_514 ?_
  refine w_a f_419_515 ?_
  refine w_a f_419_516 ?_
  refine w_a f_419_518 ?_
  refine w_a f_419_519 ?_
  refine w_a f_419_520 ?_
  refine n_m (fun h => ?_) h
  refine w_a f_419_521 ?_
  refine w_a f_419_522 ?_
  refine w_a f_419_524 ?_
  refine w_a f_419_525 ?_
  refine w_a f_419_526 ?_
  refine n_m (fun h => ?_) h
  exact w_c (ks := [0, 1, 2, 3, 4]) f_419_527 rfl rfl h
set_option maxRecDepth 10000 in
set_option maxHeartbeats 4000000 in
theorem s_419_530 {Lx : Nat} {I : Mi} {L : Ml} {e : Nat} {Q : Kq} {x4 : Int32} {r : Int32} (h :
    (inb (x4 + (Int32.ofInt 1)) Lx (
     (inb (x4 + (Int32.ofInt 2)) Lx (
      Wp 221 0 [(0, .ref 58), (1, .int (I 0 ((x4 + (Int32.ofInt 1)).toNatClampNeg))), (2, .int (I 0 ((x4 + (Int32.ofInt 2)).toNatClampNeg)))] [] (gE Lx) I L e (kcp (Wp 419) 419 545 0 [(0, .ref 0), (1, .ref 1), (2, .ref 58), (3, .ref 70), (4, .int x4), (5, .int r)] 71 [] Q))
     False))
    False)) :
    Wp 419 530 [(0, .ref 0), (1, .ref 1), (2, .ref 58), (3, .ref 70), (4, .int x4)] [.int r] (gE Lx) I L e Q := by
  refine w_a f_419_530 ?_
  refine w_a (ls := [(5, .int r), (0, .ref 0), (1, .ref 1), (2, .ref 58), (3, .ref 70), (4, .int x4)]) f_419_532 ?_
  refine w_a f_419_533 ?_
  refine w_a f_419_534 ?_
  refine w_a f_419_536 ?_
  refine w_a f_419_537 ?_
  refine w_a f_419_538 ?_
  refine n_m (fun h => ?_) h
  refine w_a f_419_539 ?_
  refine w_a f_419_540 ?_
  refine w_a f_419_542 ?_
  refine w_a f_419_543 ?_
  refine w_a f_419_544 ?_
  refine n_m (fun h => ?_) h
  exact w_c (ks := [0, 1, 2, 3, 4, 5]) f_419_545 rfl rfl h
set_option maxRecDepth 10000 in
set_option maxHeartbeats 4000000 in
theorem s_419_548 {Lx : Nat} {I : Mi} {L : Ml} {e : Nat} {Q : Kq} {x4 : Int32} {x5 : Int32} {r : Int32} (h :
    (if (I 58 0) = x5 then
     Wp 419 4917 [(0, .ref 0), (1, .ref 1), (2, .ref 58), (3, .ref 70), (4, .int x4)] [] (gE Lx) I L e Q
    else
     Q (.inl (some (.int (Int32.ofInt 0)))) (gE Lx) I L e)) :
    Wp 419 548 [(0, .ref 0), (1, .ref 1), (2, .ref 58), (3, .ref 70), (4, .int x4), (5, .int x5)] [.int r] (gE Lx) I L e Q := by
  refine w_a f_419_548 ?_
  refine w_a f_419_549 ?_
  refine w_a f_419_550 ?_
  refine w_a (ls := [(0, .ref 58)]) f_212_0 ?_
  refine w_a f_212_1 ?_
  refine w_a f_212_4 ?_
  refine w_a (ls := [(0, .ref 0), (1, .ref 1), (2, .ref 58), (3, .ref 70), (4, .int x4), (5, .int x5)]) f_419_553 ?_
  refine w_a f_419_555 ?_
  refine i_m (fun h => ?_) (fun h => ?_) h
  · refine w_a f_419_560 ?_
    exact w_n (ks := [0, 1, 2, 3, 4]) rfl h
  · refine w_a f_419_558 ?_
    refine w_a f_419_559 ?_
    exact h
set_option maxRecDepth 10000 in
set_option maxHeartbeats 4000000 in
theorem s_419_563 {Lx : Nat} {I : Mi} {L : Ml} {e : Nat} {Q : Kq} {x4 : Int32} (h :
    (inb (x4 + (Int32.ofInt 1)) Lx (
     (inb (x4 + (Int32.ofInt 2)) Lx (
      Wp 372 0 [(0, .ref 1), (1, .int (I 0 ((x4 + (Int32.ofInt 1)).toNatClampNeg))), (2, .int (I 0 ((x4 + (Int32.ofInt 2)).toNatClampNeg))), (3, .ref 70)] [] (gE Lx) I L e (kcp (Wp 419) 419 577 0 [(0, .ref 0), (1, .ref 1), (2, .ref 58), (3, .ref 70), (4, .int x4)] 71 [] Q))
     False))
    False)) :
    Wp 419 563 [(0, .ref 0), (1, .ref 1), (2, .ref 58), (3, .ref 70), (4, .int x4)] [] (gE Lx) I L e Q := by
  refine w_a f_419_563 ?_
  refine w_a f_419_564 ?_
  refine w_a f_419_565 ?_
  refine w_a f_419_567 ?_
  refine w_a f_419_568 ?_
  refine w_a f_419_569 ?_
  refine n_m (fun h => ?_) h
  refine w_a f_419_570 ?_
  refine w_a f_419_571 ?_
  refine w_a f_419_573 ?_
  refine w_a f_419_574 ?_
  refine w_a f_419_575 ?_
  refine n_m (fun h => ?_) h
  refine w_a f_419_576 ?_
  exact w_c (ks := [0, 1, 2, 3, 4]) f_419_577 rfl rfl h
set_option maxRecDepth 10000 in
set_option maxHeartbeats 4000000 in
theorem s_419_580 {Lx : Nat} {I : Mi} {L : Ml} {e : Nat} {Q : Kq} {x4 : Int32} {r : Int32} (h :
    (inb (x4 + (Int32.ofInt 1)) Lx (
     (inb (x4 + (Int32.ofInt 2)) Lx (
      Wp 222 0 [(0, .ref 58), (1, .int (I 0 ((x4 + (Int32.ofInt 1)).toNatClampNeg))), (2, .int (I 0 ((x4 + (Int32.ofInt 2)).toNatClampNeg)))] [] (gE Lx) I L e (kcp (Wp 419) 419 595 0 [(0, .ref 0), (1, .ref 1), (2, .ref 58), (3, .ref 70), (4, .int x4), (5, .int r)] 71 [] Q))
     False))
    False)) :
    Wp 419 580 [(0, .ref 0), (1, .ref 1), (2, .ref 58), (3, .ref 70), (4, .int x4)] [.int r] (gE Lx) I L e Q := by
  refine w_a f_419_580 ?_
  refine w_a (ls := [(5, .int r), (0, .ref 0), (1, .ref 1), (2, .ref 58), (3, .ref 70), (4, .int x4)]) f_419_582 ?_
  refine w_a f_419_583 ?_
  refine w_a f_419_584 ?_
  refine w_a f_419_586 ?_
  refine w_a f_419_587 ?_
  refine w_a f_419_588 ?_
  refine n_m (fun h => ?_) h
  refine w_a f_419_589 ?_
  refine w_a f_419_590 ?_
  refine w_a f_419_592 ?_
  refine w_a f_419_593 ?_
  refine w_a f_419_594 ?_
  refine n_m (fun h => ?_) h
  exact w_c (ks := [0, 1, 2, 3, 4, 5]) f_419_595 rfl rfl h
set_option maxRecDepth 10000 in
set_option maxHeartbeats 4000000 in
theorem s_419_598 {Lx : Nat} {I : Mi} {L : Ml} {e : Nat} {Q : Kq} {x4 : Int32} {x5 : Int32} {r : Int32} (h :
    (if (I 58 0) = x5 then
     (if x5 = 0 then
      (if (L 70 0) = r.toInt64 then
       Wp 419 4917 [(0, .ref 0), (1, .ref 1), (2, .ref 58), (3, .ref 70), (4, .int x4)] [] (gE Lx) I L e Q
      else
       Q (.inl (some (.int (Int32.ofInt 0)))) (gE Lx) I L e)
     else
      Wp 419 4917 [(0, .ref 0), (1, .ref 1), (2, .ref 58), (3, .ref 70), (4, .int x4)] [] (gE Lx) I L e Q)
    else
     Q (.inl (some (.int (Int32.ofInt 0)))) (gE Lx) I L e)) :
    Wp 419 598 [(0, .ref 0), (1, .ref 1), (2, .ref 58), (3, .ref 70), (4, .int x4), (5, .int x5)] [.int r] (gE Lx) I L e Q := by
  refine w_a f_419_598 ?_
  refine w_a (ls := [(6, .int r), (0, .ref 0), (1, .ref 1), (2, .ref 58), (3, .ref 70), (4, .int x4), (5, .int x5)]) f_419_600 ?_
  refine w_a f_419_601 ?_
  refine w_a (ls := [(0, .ref 58)]) f_212_0 ?_
  refine w_a f_212_1 ?_
  refine w_a f_212_4 ?_
  refine w_a (ls := [(6, .int r), (0, .ref 0), (1, .ref 1), (2, .ref 58), (3, .ref 70), (4, .int x4), (5, .int x5)]) f_419_604 ?_
  refine w_a f_419_606 ?_
  refine i_m (fun h => ?_) (fun h => ?_) h
  · refine w_a f_419_611 ?_
    refine w_a f_419_613 ?_
    refine i_m (fun h => ?_) (fun h => ?_) h
    · refine w_a f_419_616 ?_
      refine w_a f_419_617 ?_
      refine w_a f_419_618 ?_
      refine w_a f_419_619 ?_
      refine w_a f_419_621 ?_
      refine w_a f_419_622 ?_
      refine i_m (fun h => ?_) (fun h => ?_) h
      · refine w_a f_419_628 ?_
        exact w_n (ks := [0, 1, 2, 3, 4]) rfl h
      · refine w_a f_419_626 ?_
        refine w_a f_419_627 ?_
        exact h
    · refine w_a f_419_628 ?_
      exact w_n (ks := [0, 1, 2, 3, 4]) rfl h
  · refine w_a f_419_609 ?_
    refine w_a f_419_610 ?_
    exact h
set_option maxRecDepth 10000 in
set_option maxHeartbeats 4000000 in
theorem s_419_631 {Lx : Nat} {I : Mi} {L : Ml} {e : Nat} {Q : Kq} {x4 : Int32} (h :
    (inb (x4 + (Int32.ofInt 1)) Lx (
     (inb (x4 + (Int32.ofInt 2)) Lx (
      (if (I 0 ((x4 + (Int32.ofInt 2)).toNatClampNeg)) = 0 then
       (inb (x4 + (Int32.ofInt 3)) Lx (
        (if (I 0 ((x4 + (Int32.ofInt 3)).toNatClampNeg)) = 0 then
         Wp 373 0 [(0, .ref 1), (1, .int (I 0 ((x4 + (Int32.ofInt 1)).toNatClampNeg))), (2, .int (Int32.ofInt 0)), (3, .int (Int32.ofInt 0)), (4, .ref 70)] [] (gE Lx) I L e (kcp (Wp 419) 419 667 0 [(0, .ref 0), (1, .ref 1), (2, .ref 58), (3, .ref 70), (4, .int x4)] 71 [] Q)
        else
         Wp 373 0 [(0, .ref 1), (1, .int (I 0 ((x4 + (Int32.ofInt 1)).toNatClampNeg))), (2, .int (Int32.ofInt 0)), (3, .int (Int32.ofInt 1)), (4, .ref 70)] [] (gE Lx) I L e (kcp (Wp 419) 419 667 0 [(0, .ref 0), (1, .ref 1), (2, .ref 58), (3, .ref 70), (4, .int x4)] 71 [] Q)))
       False)
      else
       (inb (x4 + (Int32.ofInt 3)) Lx (
        (if (I 0 ((x4 + (Int32.ofInt 3)).toNatClampNeg)) = 0 then
         Wp 373 0 [(0, .ref 1), (1, .int (I 0 ((x4 + (Int32.ofInt 1)).toNatClampNeg))), (2, .int (Int32.ofInt 1)), (3, .int (Int32.ofInt 0)), (4, .ref 70)] [] (gE Lx) I L e (kcp (Wp 419) 419 667 0 [(0, .ref 0), (1, .ref 1), (2, .ref 58), (3, .ref 70), (4, .int x4)] 71 [] Q)
        else
         Wp 373 0 [(0, .ref 1), (1, .int (I 0 ((x4 + (Int32.ofInt 1)).toNatClampNeg))), (2, .int (Int32.ofInt 1)), (3, .int (Int32.ofInt 1)), (4, .ref 70)] [] (gE Lx) I L e (kcp (Wp 419) 419 667 0 [(0, .ref 0), (1, .ref 1), (2, .ref 58), (3, .ref 70), (4, .int x4)] 71 [] Q)))
       False)))
     False))
    False)) :
    Wp 419 631 [(0, .ref 0), (1, .ref 1), (2, .ref 58), (3, .ref 70), (4, .int x4)] [] (gE Lx) I L e Q := by
  refine w_a f_419_631 ?_
  refine w_a f_419_632 ?_
  refine w_a f_419_633 ?_
  refine w_a f_419_635 ?_
  refine w_a f_419_636 ?_
  refine w_a f_419_637 ?_
  refine n_m (fun h => ?_) h
  refine w_a f_419_638 ?_
  refine w_a f_419_639 ?_
  refine w_a f_419_641 ?_
  refine w_a f_419_642 ?_
  refine w_a f_419_643 ?_
  refine n_m (fun h => ?_) h
  refine w_a f_419_644 ?_
  refine i_m (fun h => ?_) (fun h => ?_) h
  · refine w_a f_419_651 ?_
    refine w_a f_419_652 ?_
    refine w_a f_419_653 ?_
    refine w_a f_419_655 ?_
    refine w_a f_419_656 ?_
    refine w_a f_419_657 ?_
    refine n_m (fun h => ?_) h
    refine w_a f_419_658 ?_
    refine i_m (fun h => ?_) (fun h => ?_) h
    · refine w_a f_419_665 ?_
      refine w_a f_419_666 ?_
      exact w_c (ks := [0, 1, 2, 3, 4]) f_419_667 rfl rfl h
    · refine w_a f_419_661 ?_
      refine w_a f_419_662 ?_
      refine w_a f_419_666 ?_
      exact w_c (ks := [0, 1, 2, 3, 4]) f_419_667 rfl rfl h
  · refine w_a f_419_647 ?_
    refine w_a f_419_648 ?_
    refine w_a f_419_652 ?_
    refine w_a f_419_653 ?_
    refine w_a f_419_655 ?_
    refine w_a f_419_656 ?_
    refine w_a f_419_657 ?_
    refine n_m (fun h => ?_) h
    refine w_a f_419_658 ?_
    refine i_m (fun h => ?_) (fun h => ?_) h
    · refine w_a f_419_665 ?_
      refine w_a f_419_666 ?_
      exact w_c (ks := [0, 1, 2, 3, 4]) f_419_667 rfl rfl h
    · refine w_a f_419_661 ?_
      refine w_a f_419_662 ?_
      refine w_a f_419_666 ?_
      exact w_c (ks := [0, 1, 2, 3, 4]) f_419_667 rfl rfl h
set_option maxRecDepth 10000 in
set_option maxHeartbeats 4000000 in
theorem s_419_670 {Lx : Nat} {I : Mi} {L : Ml} {e : Nat} {Q : Kq} {x4 : Int32} {r : Int32} (h :
    (inb (x4 + (Int32.ofInt 1)) Lx (
     (inb (x4 + (Int32.ofInt 2)) Lx (
      (if (I 0 ((x4 + (Int32.ofInt 2)).toNatClampNeg)) = 0 then
       (inb (x4 + (Int32.ofInt 3)) Lx (
        (if (I 0 ((x4 + (Int32.ofInt 3)).toNatClampNeg)) = 0 then
         Wp 225 0 [(0, .ref 58), (1, .int (I 0 ((x4 + (Int32.ofInt 1)).toNatClampNeg))), (2, .int (Int32.ofInt 0)), (3, .int (Int32.ofInt 0))] [] (gE Lx) I L e (kcp (Wp 419) 419 707 0 [(0, .ref 0), (1, .ref 1), (2, .ref 58), (3, .ref 70), (4, .int x4), (5, .int r)] 71 [] Q)
        else
         Wp 225 0 [(0, .ref 58), (1, .int (I 0 ((x4 + (Int32.ofInt 1)).toNatClampNeg))), (2, .int (Int32.ofInt 0)), (3, .int (Int32.ofInt 1))] [] (gE Lx) I L e (kcp (Wp 419) 419 707 0 [(0, .ref 0), (1, .ref 1), (2, .ref 58), (3, .ref 70), (4, .int x4), (5, .int r)] 71 [] Q)))
       False)
      else
       (inb (x4 + (Int32.ofInt 3)) Lx (
        (if (I 0 ((x4 + (Int32.ofInt 3)).toNatClampNeg)) = 0 then
         Wp 225 0 [(0, .ref 58), (1, .int (I 0 ((x4 + (Int32.ofInt 1)).toNatClampNeg))), (2, .int (Int32.ofInt 1)), (3, .int (Int32.ofInt 0))] [] (gE Lx) I L e (kcp (Wp 419) 419 707 0 [(0, .ref 0), (1, .ref 1), (2, .ref 58), (3, .ref 70), (4, .int x4), (5, .int r)] 71 [] Q)
        else
         Wp 225 0 [(0, .ref 58), (1, .int (I 0 ((x4 + (Int32.ofInt 1)).toNatClampNeg))), (2, .int (Int32.ofInt 1)), (3, .int (Int32.ofInt 1))] [] (gE Lx) I L e (kcp (Wp 419) 419 707 0 [(0, .ref 0), (1, .ref 1), (2, .ref 58), (3, .ref 70), (4, .int x4), (5, .int r)] 71 [] Q)))
       False)))
     False))
    False)) :
    Wp 419 670 [(0, .ref 0), (1, .ref 1), (2, .ref 58), (3, .ref 70), (4, .int x4)] [.int r] (gE Lx) I L e Q := by
  refine w_a f_419_670 ?_
  refine w_a (ls := [(5, .int r), (0, .ref 0), (1, .ref 1), (2, .ref 58), (3, .ref 70), (4, .int x4)]) f_419_672 ?_
  refine w_a f_419_673 ?_
  refine w_a f_419_674 ?_
  refine w_a f_419_676 ?_
  refine w_a f_419_677 ?_
  refine w_a f_419_678 ?_
  refine n_m (fun h => ?_) h
  refine w_a f_419_679 ?_
  refine w_a f_419_680 ?_
  refine w_a f_419_682 ?_
  refine w_a f_419_683 ?_
  refine w_a f_419_684 ?_
  refine n_m (fun h => ?_) h
  refine w_a f_419_685 ?_
  refine i_m (fun h => ?_) (fun h => ?_) h
  · refine w_a f_419_692 ?_
    refine w_a f_419_693 ?_
    refine w_a f_419_694 ?_
    refine w_a f_419_696 ?_
    refine w_a f_419_697 ?_
    refine w_a f_419_698 ?_
    refine n_m (fun h => ?_) h
    refine w_a f_419_699 ?_
    refine i_m (fun h => ?_) (fun h => ?_) h
    · refine w_a f_419_706 ?_
      exact w_c (ks := [0, 1, 2, 3, 4, 5]) f_419_707 rfl rfl h
    · refine w_a f_419_702 ?_
      refine w_a f_419_703 ?_
      exact w_c (ks := [0, 1, 2, 3, 4, 5]) f_419_707 rfl rfl h
  · refine w_a f_419_688 ?_
    refine w_a f_419_689 ?_
    refine w_a f_419_693 ?_
    refine w_a f_419_694 ?_
    refine w_a f_419_696 ?_
    refine w_a f_419_697 ?_
    refine w_a f_419_698 ?_
    refine n_m (fun h => ?_) h
    refine w_a f_419_699 ?_
    refine i_m (fun h => ?_) (fun h => ?_) h
    · refine w_a f_419_706 ?_
      exact w_c (ks := [0, 1, 2, 3, 4, 5]) f_419_707 rfl rfl h
    · refine w_a f_419_702 ?_
      refine w_a f_419_703 ?_
      exact w_c (ks := [0, 1, 2, 3, 4, 5]) f_419_707 rfl rfl h
set_option maxRecDepth 10000 in
set_option maxHeartbeats 4000000 in
theorem s_419_710 {Lx : Nat} {I : Mi} {L : Ml} {e : Nat} {Q : Kq} {x4 : Int32} {x5 : Int32} {rl : Int64} (h :
    (if (I 58 0) = x5 then
     (if x5 = 0 then
      (if (L 70 0) = rl then
       Wp 419 4917 [(0, .ref 0), (1, .ref 1), (2, .ref 58), (3, .ref 70), (4, .int x4)] [] (gE Lx) I L e Q
      else
       Q (.inl (some (.int (Int32.ofInt 0)))) (gE Lx) I L e)
     else
      Wp 419 4917 [(0, .ref 0), (1, .ref 1), (2, .ref 58), (3, .ref 70), (4, .int x4)] [] (gE Lx) I L e Q)
    else
     Q (.inl (some (.int (Int32.ofInt 0)))) (gE Lx) I L e)) :
    Wp 419 710 [(0, .ref 0), (1, .ref 1), (2, .ref 58), (3, .ref 70), (4, .int x4), (5, .int x5)] [.long rl] (gE Lx) I L e Q := by
  refine w_a f_419_710 ?_
  refine w_a (ls := [(6, .long rl), (0, .ref 0), (1, .ref 1), (2, .ref 58), (3, .ref 70), (4, .int x4), (5, .int x5)]) f_419_712 ?_
  refine w_a f_419_713 ?_
  refine w_a (ls := [(0, .ref 58)]) f_212_0 ?_
  refine w_a f_212_1 ?_
  refine w_a f_212_4 ?_
  refine w_a (ls := [(6, .long rl), (0, .ref 0), (1, .ref 1), (2, .ref 58), (3, .ref 70), (4, .int x4), (5, .int x5)]) f_419_716 ?_
  refine w_a f_419_718 ?_
  refine i_m (fun h => ?_) (fun h => ?_) h
  · refine w_a f_419_723 ?_
    refine w_a f_419_725 ?_
    refine i_m (fun h => ?_) (fun h => ?_) h
    · refine w_a f_419_728 ?_
      refine w_a f_419_729 ?_
      refine w_a f_419_730 ?_
      refine w_a f_419_731 ?_
      refine w_a f_419_733 ?_
      refine i_m (fun h => ?_) (fun h => ?_) h
      · refine w_a f_419_739 ?_
        exact w_n (ks := [0, 1, 2, 3, 4]) rfl h
      · refine w_a f_419_737 ?_
        refine w_a f_419_738 ?_
        exact h
    · refine w_a f_419_739 ?_
      exact w_n (ks := [0, 1, 2, 3, 4]) rfl h
  · refine w_a f_419_721 ?_
    refine w_a f_419_722 ?_
    exact h
set_option maxRecDepth 10000 in
set_option maxHeartbeats 4000000 in
theorem s_419_742 {Lx : Nat} {I : Mi} {L : Ml} {e : Nat} {Q : Kq} {x4 : Int32} (h :
    (inb (x4 + (Int32.ofInt 1)) Lx (
     Wp 374 0 [(0, .ref 1), (1, .int (I 0 ((x4 + (Int32.ofInt 1)).toNatClampNeg))), (2, .ref 70)] [] (gE Lx) I L e (kcp (Wp 419) 419 750 0 [(0, .ref 0), (1, .ref 1), (2, .ref 58), (3, .ref 70), (4, .int x4)] 71 [] Q))
    False)) :
    Wp 419 742 [(0, .ref 0), (1, .ref 1), (2, .ref 58), (3, .ref 70), (4, .int x4)] [] (gE Lx) I L e Q := by
  refine w_a f_419_742 ?_
  refine w_a f_419_743 ?_
  refine w_a f_419_744 ?_
  refine w_a f_419_746 ?_
  refine w_a f_419_747 ?_
  refine w_a f_419_748 ?_
  refine n_m (fun h => ?_) h
  refine w_a f_419_749 ?_
  exact w_c (ks := [0, 1, 2, 3, 4]) f_419_750 rfl rfl h
set_option maxRecDepth 10000 in
set_option maxHeartbeats 4000000 in
theorem s_419_753 {Lx : Nat} {I : Mi} {L : Ml} {e : Nat} {Q : Kq} {x4 : Int32} {r : Int32} (h :
    (inb (x4 + (Int32.ofInt 1)) Lx (
     Wp 238 0 [(0, .ref 58), (1, .int (I 0 ((x4 + (Int32.ofInt 1)).toNatClampNeg)))] [] (gE Lx) I L e (kcp (Wp 419) 419 762 0 [(0, .ref 0), (1, .ref 1), (2, .ref 58), (3, .ref 70), (4, .int x4), (5, .int r)] 71 [] Q))
    False)) :
    Wp 419 753 [(0, .ref 0), (1, .ref 1), (2, .ref 58), (3, .ref 70), (4, .int x4)] [.int r] (gE Lx) I L e Q := by
  refine w_a f_419_753 ?_
  refine w_a (ls := [(5, .int r), (0, .ref 0), (1, .ref 1), (2, .ref 58), (3, .ref 70), (4, .int x4)]) f_419_755 ?_
  refine w_a f_419_756 ?_
  refine w_a f_419_757 ?_
  refine w_a f_419_759 ?_
  refine w_a f_419_760 ?_
  refine w_a f_419_761 ?_
  refine n_m (fun h => ?_) h
  exact w_c (ks := [0, 1, 2, 3, 4, 5]) f_419_762 rfl rfl h
set_option maxRecDepth 10000 in
set_option maxHeartbeats 4000000 in
theorem s_419_765 {Lx : Nat} {I : Mi} {L : Ml} {e : Nat} {Q : Kq} {x4 : Int32} {x5 : Int32} {r : Int32} (h :
    (if (I 58 0) = x5 then
     (if x5 = 0 then
      (if r = 0 then
       (if (L 70 0) = (Int64.ofInt 0) then
        Wp 419 4917 [(0, .ref 0), (1, .ref 1), (2, .ref 58), (3, .ref 70), (4, .int x4)] [] (gE Lx) I L e Q
       else
        Q (.inl (some (.int (Int32.ofInt 0)))) (gE Lx) I L e)
      else
       (if (L 70 0) = (Int64.ofInt 1) then
        Wp 419 4917 [(0, .ref 0), (1, .ref 1), (2, .ref 58), (3, .ref 70), (4, .int x4)] [] (gE Lx) I L e Q
       else
        Q (.inl (some (.int (Int32.ofInt 0)))) (gE Lx) I L e))
     else
      Wp 419 4917 [(0, .ref 0), (1, .ref 1), (2, .ref 58), (3, .ref 70), (4, .int x4)] [] (gE Lx) I L e Q)
    else
     Q (.inl (some (.int (Int32.ofInt 0)))) (gE Lx) I L e)) :
    Wp 419 765 [(0, .ref 0), (1, .ref 1), (2, .ref 58), (3, .ref 70), (4, .int x4), (5, .int x5)] [.int r] (gE Lx) I L e Q := by
  refine w_a f_419_765 ?_
  refine w_a (ls := [(6, .int r), (0, .ref 0), (1, .ref 1), (2, .ref 58), (3, .ref 70), (4, .int x4), (5, .int x5)]) f_419_767 ?_
  refine w_a f_419_768 ?_
  refine w_a (ls := [(0, .ref 58)]) f_212_0 ?_
  refine w_a f_212_1 ?_
  refine w_a f_212_4 ?_
  refine w_a (ls := [(6, .int r), (0, .ref 0), (1, .ref 1), (2, .ref 58), (3, .ref 70), (4, .int x4), (5, .int x5)]) f_419_771 ?_
  refine w_a f_419_773 ?_
  refine i_m (fun h => ?_) (fun h => ?_) h
  · refine w_a f_419_778 ?_
    refine w_a f_419_780 ?_
    refine i_m (fun h => ?_) (fun h => ?_) h
    · refine w_a f_419_783 ?_
      refine w_a f_419_784 ?_
      refine w_a f_419_785 ?_
      refine w_a f_419_786 ?_
      refine w_a f_419_788 ?_
      refine i_m (fun h => ?_) (fun h => ?_) h
      · refine w_a f_419_795 ?_
        refine w_a f_419_796 ?_
        refine i_m (fun h => ?_) (fun h => ?_) h
        · refine w_a f_419_802 ?_
          exact w_n (ks := [0, 1, 2, 3, 4]) rfl h
        · refine w_a f_419_800 ?_
          refine w_a f_419_801 ?_
          exact h
      · refine w_a f_419_791 ?_
        refine w_a f_419_792 ?_
        refine w_a f_419_796 ?_
        refine i_m (fun h => ?_) (fun h => ?_) h
        · refine w_a f_419_802 ?_
          exact w_n (ks := [0, 1, 2, 3, 4]) rfl h
        · refine w_a f_419_800 ?_
          refine w_a f_419_801 ?_
          exact h
    · refine w_a f_419_802 ?_
      exact w_n (ks := [0, 1, 2, 3, 4]) rfl h
  · refine w_a f_419_776 ?_
    refine w_a f_419_777 ?_
    exact h
set_option maxRecDepth 10000 in
set_option maxHeartbeats 4000000 in
theorem s_419_805 {Lx : Nat} {I : Mi} {L : Ml} {e : Nat} {Q : Kq} {x4 : Int32} (h :
    (inb (x4 + (Int32.ofInt 1)) Lx (
     (inb (x4 + (Int32.ofInt 2)) Lx (
      (if (I 0 ((x4 + (Int32.ofInt 2)).toNatClampNeg)) = 0 then
       Wp 375 0 [(0, .ref 1), (1, .int (I 0 ((x4 + (Int32.ofInt 1)).toNatClampNeg))), (2, .int (Int32.ofInt 0)), (3, .ref 70)] [] (gE Lx) I L e (kcp (Wp 419) 419 827 0 [(0, .ref 0), (1, .ref 1), (2, .ref 58), (3, .ref 70), (4, .int x4)] 71 [] Q)
      else
       Wp 375 0 [(0, .ref 1), (1, .int (I 0 ((x4 + (Int32.ofInt 1)).toNatClampNeg))), (2, .int (Int32.ofInt 1)), (3, .ref 70)] [] (gE Lx) I L e (kcp (Wp 419) 419 827 0 [(0, .ref 0), (1, .ref 1), (2, .ref 58), (3, .ref 70), (4, .int x4)] 71 [] Q)))
     False))
    False)) :
    Wp 419 805 [(0, .ref 0), (1, .ref 1), (2, .ref 58), (3, .ref 70), (4, .int x4)] [] (gE Lx) I L e Q := by
  refine w_a f_419_805 ?_
  refine w_a f_419_806 ?_
  refine w_a f_419_807 ?_
  refine w_a f_419_809 ?_
  refine w_a f_419_810 ?_
  refine w_a f_419_811 ?_
  refine n_m (fun h => ?_) h
  refine w_a f_419_812 ?_
  refine w_a f_419_813 ?_
  refine w_a f_419_815 ?_
  refine w_a f_419_816 ?_
  refine w_a f_419_817 ?_
  refine n_m (fun h => ?_) h
  refine w_a f_419_818 ?_
  refine i_m (fun h => ?_) (fun h => ?_) h
  · refine w_a f_419_825 ?_
    refine w_a f_419_826 ?_
    exact w_c (ks := [0, 1, 2, 3, 4]) f_419_827 rfl rfl h
  · refine w_a f_419_821 ?_
    refine w_a f_419_822 ?_
    refine w_a f_419_826 ?_
    exact w_c (ks := [0, 1, 2, 3, 4]) f_419_827 rfl rfl h
set_option maxRecDepth 10000 in
set_option maxHeartbeats 4000000 in
theorem s_419_830 {Lx : Nat} {I : Mi} {L : Ml} {e : Nat} {Q : Kq} {x4 : Int32} {r : Int32} (h :
    (inb (x4 + (Int32.ofInt 1)) Lx (
     (inb (x4 + (Int32.ofInt 2)) Lx (
      (if (I 0 ((x4 + (Int32.ofInt 2)).toNatClampNeg)) = 0 then
       Wp 239 0 [(0, .ref 58), (1, .int (I 0 ((x4 + (Int32.ofInt 1)).toNatClampNeg))), (2, .int (Int32.ofInt 0))] [] (gE Lx) I L e (kcp (Wp 419) 419 853 0 [(0, .ref 0), (1, .ref 1), (2, .ref 58), (3, .ref 70), (4, .int x4), (5, .int r)] 71 [] Q)
      else
       Wp 239 0 [(0, .ref 58), (1, .int (I 0 ((x4 + (Int32.ofInt 1)).toNatClampNeg))), (2, .int (Int32.ofInt 1))] [] (gE Lx) I L e (kcp (Wp 419) 419 853 0 [(0, .ref 0), (1, .ref 1), (2, .ref 58), (3, .ref 70), (4, .int x4), (5, .int r)] 71 [] Q)))
     False))
    False)) :
    Wp 419 830 [(0, .ref 0), (1, .ref 1), (2, .ref 58), (3, .ref 70), (4, .int x4)] [.int r] (gE Lx) I L e Q := by
  refine w_a f_419_830 ?_
  refine w_a (ls := [(5, .int r), (0, .ref 0), (1, .ref 1), (2, .ref 58), (3, .ref 70), (4, .int x4)]) f_419_832 ?_
  refine w_a f_419_833 ?_
  refine w_a f_419_834 ?_
  refine w_a f_419_836 ?_
  refine w_a f_419_837 ?_
  refine w_a f_419_838 ?_
  refine n_m (fun h => ?_) h
  refine w_a f_419_839 ?_
  refine w_a f_419_840 ?_
  refine w_a f_419_842 ?_
  refine w_a f_419_843 ?_
  refine w_a f_419_844 ?_
  refine n_m (fun h => ?_) h
  refine w_a f_419_845 ?_
  refine i_m (fun h => ?_) (fun h => ?_) h
  · refine w_a f_419_852 ?_
    exact w_c (ks := [0, 1, 2, 3, 4, 5]) f_419_853 rfl rfl h
  · refine w_a f_419_848 ?_
    refine w_a f_419_849 ?_
    exact w_c (ks := [0, 1, 2, 3, 4, 5]) f_419_853 rfl rfl h
set_option maxRecDepth 10000 in
set_option maxHeartbeats 4000000 in
theorem s_419_856 {Lx : Nat} {I : Mi} {L : Ml} {e : Nat} {Q : Kq} {x4 : Int32} {x5 : Int32} {rl : Int64} (h :
    (if (I 58 0) = x5 then
     (if x5 = 0 then
      (if (L 70 0) = rl then
       Wp 419 4917 [(0, .ref 0), (1, .ref 1), (2, .ref 58), (3, .ref 70), (4, .int x4)] [] (gE Lx) I L e Q
      else
       Q (.inl (some (.int (Int32.ofInt 0)))) (gE Lx) I L e)
     else
      Wp 419 4917 [(0, .ref 0), (1, .ref 1), (2, .ref 58), (3, .ref 70), (4, .int x4)] [] (gE Lx) I L e Q)
    else
     Q (.inl (some (.int (Int32.ofInt 0)))) (gE Lx) I L e)) :
    Wp 419 856 [(0, .ref 0), (1, .ref 1), (2, .ref 58), (3, .ref 70), (4, .int x4), (5, .int x5)] [.long rl] (gE Lx) I L e Q := by
  refine w_a f_419_856 ?_
  refine w_a (ls := [(6, .long rl), (0, .ref 0), (1, .ref 1), (2, .ref 58), (3, .ref 70), (4, .int x4), (5, .int x5)]) f_419_858 ?_
  refine w_a f_419_859 ?_
  refine w_a (ls := [(0, .ref 58)]) f_212_0 ?_
  refine w_a f_212_1 ?_
  refine w_a f_212_4 ?_
  refine w_a (ls := [(6, .long rl), (0, .ref 0), (1, .ref 1), (2, .ref 58), (3, .ref 70), (4, .int x4), (5, .int x5)]) f_419_862 ?_
  refine w_a f_419_864 ?_
  refine i_m (fun h => ?_) (fun h => ?_) h
  · refine w_a f_419_869 ?_
    refine w_a f_419_871 ?_
    refine i_m (fun h => ?_) (fun h => ?_) h
    · refine w_a f_419_874 ?_
      refine w_a f_419_875 ?_
      refine w_a f_419_876 ?_
      refine w_a f_419_877 ?_
      refine w_a f_419_879 ?_
      refine i_m (fun h => ?_) (fun h => ?_) h
      · refine w_a f_419_885 ?_
        exact w_n (ks := [0, 1, 2, 3, 4]) rfl h
      · refine w_a f_419_883 ?_
        refine w_a f_419_884 ?_
        exact h
    · refine w_a f_419_885 ?_
      exact w_n (ks := [0, 1, 2, 3, 4]) rfl h
  · refine w_a f_419_867 ?_
    refine w_a f_419_868 ?_
    exact h
set_option maxRecDepth 10000 in
set_option maxHeartbeats 4000000 in
theorem s_419_888 {Lx : Nat} {I : Mi} {L : Ml} {e : Nat} {Q : Kq} {x4 : Int32} (h :
    (inb (x4 + (Int32.ofInt 1)) Lx (
     (inb (x4 + (Int32.ofInt 2)) Lx (
      (if (I 0 ((x4 + (Int32.ofInt 2)).toNatClampNeg)) = 0 then
       Wp 376 0 [(0, .ref 1), (1, .int (I 0 ((x4 + (Int32.ofInt 1)).toNatClampNeg))), (2, .int (Int32.ofInt 0)), (3, .ref 70)] [] (gE Lx) I L e (kcp (Wp 419) 419 910 0 [(0, .ref 0), (1, .ref 1), (2, .ref 58), (3, .ref 70), (4, .int x4)] 71 [] Q)
      else
       Wp 376 0 [(0, .ref 1), (1, .int (I 0 ((x4 + (Int32.ofInt 1)).toNatClampNeg))), (2, .int (Int32.ofInt 1)), (3, .ref 70)] [] (gE Lx) I L e (kcp (Wp 419) 419 910 0 [(0, .ref 0), (1, .ref 1), (2, .ref 58), (3, .ref 70), (4, .int x4)] 71 [] Q)))
     False))
    False)) :
    Wp 419 888 [(0, .ref 0), (1, .ref 1), (2, .ref 58), (3, .ref 70), (4, .int x4)] [] (gE Lx) I L e Q := by
  refine w_a f_419_888 ?_
  refine w_a f_419_889 ?_
  refine w_a f_419_890 ?_
  refine w_a f_419_892 ?_
  refine w_a f_419_893 ?_
  refine w_a f_419_894 ?_
  refine n_m (fun h => ?_) h
  refine w_a f_419_895 ?_
  refine w_a f_419_896 ?_
  refine w_a f_419_898 ?_
  refine w_a f_419_899 ?_
  refine w_a f_419_900 ?_
  refine n_m (fun h => ?_) h
  refine w_a f_419_901 ?_
  refine i_m (fun h => ?_) (fun h => ?_) h
  · refine w_a f_419_908 ?_
    refine w_a f_419_909 ?_
    exact w_c (ks := [0, 1, 2, 3, 4]) f_419_910 rfl rfl h
  · refine w_a f_419_904 ?_
    refine w_a f_419_905 ?_
    refine w_a f_419_909 ?_
    exact w_c (ks := [0, 1, 2, 3, 4]) f_419_910 rfl rfl h
set_option maxRecDepth 10000 in
set_option maxHeartbeats 4000000 in
theorem s_419_913 {Lx : Nat} {I : Mi} {L : Ml} {e : Nat} {Q : Kq} {x4 : Int32} {r : Int32} (h :
    (inb (x4 + (Int32.ofInt 1)) Lx (
     (inb (x4 + (Int32.ofInt 2)) Lx (
      (if (I 0 ((x4 + (Int32.ofInt 2)).toNatClampNeg)) = 0 then
       Wp 337 0 [(0, .ref 58), (1, .int (I 0 ((x4 + (Int32.ofInt 1)).toNatClampNeg))), (2, .int (Int32.ofInt 0))] [] (gE Lx) I L e (kcp (Wp 419) 419 936 0 [(0, .ref 0), (1, .ref 1), (2, .ref 58), (3, .ref 70), (4, .int x4), (5, .int r)] 71 [] Q)
      else
       Wp 337 0 [(0, .ref 58), (1, .int (I 0 ((x4 + (Int32.ofInt 1)).toNatClampNeg))), (2, .int (Int32.ofInt 1))] [] (gE Lx) I L e (kcp (Wp 419) 419 936 0 [(0, .ref 0), (1, .ref 1), (2, .ref 58), (3, .ref 70), (4, .int x4), (5, .int r)] 71 [] Q)))
     False))
    False)) :
    Wp 419 913 [(0, .ref 0), (1, .ref 1), (2, .ref 58), (3, .ref 70), (4, .int x4)] [.int r] (gE Lx) I L e Q := by
  refine w_a f_419_913 ?_
  refine w_a (ls := [(5, .int r), (0, .ref 0), (1, .ref 1), (2, .ref 58), (3, .ref 70), (4, .int x4)]) f_419_915 ?_
  refine w_a f_419_916 ?_
  refine w_a f_419_917 ?_
  refine w_a f_419_919 ?_
  refine w_a f_419_920 ?_
  refine w_a f_419_921 ?_
  refine n_m (fun h => ?_) h
  refine w_a f_419_922 ?_
  refine w_a f_419_923 ?_
  refine w_a f_419_925 ?_
  refine w_a f_419_926 ?_
  refine w_a f_419_927 ?_
  refine n_m (fun h => ?_) h
  refine w_a f_419_928 ?_
  refine i_m (fun h => ?_) (fun h => ?_) h
  · refine w_a f_419_935 ?_
    exact w_c (ks := [0, 1, 2, 3, 4, 5]) f_419_936 rfl rfl h
  · refine w_a f_419_931 ?_
    refine w_a f_419_932 ?_
    exact w_c (ks := [0, 1, 2, 3, 4, 5]) f_419_936 rfl rfl h
set_option maxRecDepth 10000 in
set_option maxHeartbeats 4000000 in
theorem s_419_939 {Lx : Nat} {I : Mi} {L : Ml} {e : Nat} {Q : Kq} {x4 : Int32} {x5 : Int32} {r : Int32} (h :
    (if (I 58 0) = x5 then
     (if x5 = 0 then
      (if (L 70 0) = r.toInt64 then
       Wp 419 4917 [(0, .ref 0), (1, .ref 1), (2, .ref 58), (3, .ref 70), (4, .int x4)] [] (gE Lx) I L e Q
      else
       Q (.inl (some (.int (Int32.ofInt 0)))) (gE Lx) I L e)
     else
      Wp 419 4917 [(0, .ref 0), (1, .ref 1), (2, .ref 58), (3, .ref 70), (4, .int x4)] [] (gE Lx) I L e Q)
    else
     Q (.inl (some (.int (Int32.ofInt 0)))) (gE Lx) I L e)) :
    Wp 419 939 [(0, .ref 0), (1, .ref 1), (2, .ref 58), (3, .ref 70), (4, .int x4), (5, .int x5)] [.int r] (gE Lx) I L e Q := by
  refine w_a f_419_939 ?_
  refine w_a (ls := [(6, .int r), (0, .ref 0), (1, .ref 1), (2, .ref 58), (3, .ref 70), (4, .int x4), (5, .int x5)]) f_419_941 ?_
  refine w_a f_419_942 ?_
  refine w_a (ls := [(0, .ref 58)]) f_212_0 ?_
  refine w_a f_212_1 ?_
  refine w_a f_212_4 ?_
  refine w_a (ls := [(6, .int r), (0, .ref 0), (1, .ref 1), (2, .ref 58), (3, .ref 70), (4, .int x4), (5, .int x5)]) f_419_945 ?_
  refine w_a f_419_947 ?_
  refine i_m (fun h => ?_) (fun h => ?_) h
  · refine w_a f_419_952 ?_
    refine w_a f_419_954 ?_
    refine i_m (fun h => ?_) (fun h => ?_) h
    · refine w_a f_419_957 ?_
      refine w_a f_419_958 ?_
      refine w_a f_419_959 ?_
      refine w_a f_419_960 ?_
      refine w_a f_419_962 ?_
      refine w_a f_419_963 ?_
      refine i_m (fun h => ?_) (fun h => ?_) h
      · refine w_a f_419_969 ?_
        exact w_n (ks := [0, 1, 2, 3, 4]) rfl h
      · refine w_a f_419_967 ?_
        refine w_a f_419_968 ?_
        exact h
    · refine w_a f_419_969 ?_
      exact w_n (ks := [0, 1, 2, 3, 4]) rfl h
  · refine w_a f_419_950 ?_
    refine w_a f_419_951 ?_
    exact h
set_option maxRecDepth 10000 in
set_option maxHeartbeats 4000000 in
theorem s_419_972 {Lx : Nat} {I : Mi} {L : Ml} {e : Nat} {Q : Kq} {x4 : Int32} (h :
    (inb (x4 + (Int32.ofInt 1)) Lx (
     (inb (x4 + (Int32.ofInt 2)) Lx (
      (if (I 0 ((x4 + (Int32.ofInt 2)).toNatClampNeg)) = 0 then
       Wp 377 0 [(0, .ref 1), (1, .int (I 0 ((x4 + (Int32.ofInt 1)).toNatClampNeg))), (2, .int (Int32.ofInt 0)), (3, .ref 70)] [] (gE Lx) I L e (kcp (Wp 419) 419 994 0 [(0, .ref 0), (1, .ref 1), (2, .ref 58), (3, .ref 70), (4, .int x4)] 71 [] Q)
      else
       Wp 377 0 [(0, .ref 1), (1, .int (I 0 ((x4 + (Int32.ofInt 1)).toNatClampNeg))), (2, .int (Int32.ofInt 1)), (3, .ref 70)] [] (gE Lx) I L e (kcp (Wp 419) 419 994 0 [(0, .ref 0), (1, .ref 1), (2, .ref 58), (3, .ref 70), (4, .int x4)] 71 [] Q)))
     False))
    False)) :
    Wp 419 972 [(0, .ref 0), (1, .ref 1), (2, .ref 58), (3, .ref 70), (4, .int x4)] [] (gE Lx) I L e Q := by
  refine w_a f_419_972 ?_
  refine w_a f_419_973 ?_
  refine w_a f_419_974 ?_
  refine w_a f_419_976 ?_
  refine w_a f_419_977 ?_
  refine w_a f_419_978 ?_
  refine n_m (fun h => ?_) h
  refine w_a f_419_979 ?_
  refine w_a f_419_980 ?_
  refine w_a f_419_982 ?_
  refine w_a f_419_983 ?_
  refine w_a f_419_984 ?_
  refine n_m (fun h => ?_) h
  refine w_a f_419_985 ?_
  refine i_m (fun h => ?_) (fun h => ?_) h
  · refine w_a f_419_992 ?_
    refine w_a f_419_993 ?_
    exact w_c (ks := [0, 1, 2, 3, 4]) f_419_994 rfl rfl h
  · refine w_a f_419_988 ?_
    refine w_a f_419_989 ?_
    refine w_a f_419_993 ?_
    exact w_c (ks := [0, 1, 2, 3, 4]) f_419_994 rfl rfl h
set_option maxRecDepth 10000 in
set_option maxHeartbeats 4000000 in
theorem s_419_997 {Lx : Nat} {I : Mi} {L : Ml} {e : Nat} {Q : Kq} {x4 : Int32} {r : Int32} (h :
    (inb (x4 + (Int32.ofInt 1)) Lx (
     (inb (x4 + (Int32.ofInt 2)) Lx (
      (if (I 0 ((x4 + (Int32.ofInt 2)).toNatClampNeg)) = 0 then
       Wp 347 0 [(0, .ref 58), (1, .int (I 0 ((x4 + (Int32.ofInt 1)).toNatClampNeg))), (2, .int (Int32.ofInt 0))] [] (gE Lx) I L e (kcp (Wp 419) 419 1020 0 [(0, .ref 0), (1, .ref 1), (2, .ref 58), (3, .ref 70), (4, .int x4), (5, .int r)] 71 [] Q)
      else
       Wp 347 0 [(0, .ref 58), (1, .int (I 0 ((x4 + (Int32.ofInt 1)).toNatClampNeg))), (2, .int (Int32.ofInt 1))] [] (gE Lx) I L e (kcp (Wp 419) 419 1020 0 [(0, .ref 0), (1, .ref 1), (2, .ref 58), (3, .ref 70), (4, .int x4), (5, .int r)] 71 [] Q)))
     False))
    False)) :
    Wp 419 997 [(0, .ref 0), (1, .ref 1), (2, .ref 58), (3, .ref 70), (4, .int x4)] [.int r] (gE Lx) I L e Q := by
  refine w_a f_419_997 ?_
  refine w_a (ls := [(5, .int r), (0, .ref 0), (1, .ref 1), (2, .ref 58), (3, .ref 70), (4, .int x4)]) f_419_999 ?_
  refine w_a f_419_1000 ?_
  refine w_a f_419_1001 ?_
  refine w_a f_419_1003 ?_
  refine w_a f_419_1004 ?_
  refine w_a f_419_1005 ?_
  refine n_m (fun h => ?_) h
  refine w_a f_419_1006 ?_
  refine w_a f_419_1007 ?_
  refine w_a f_419_1009 ?_
  refine w_a f_419_1010 ?_
  refine w_a f_419_1011 ?_
  refine n_m (fun h => ?_) h
  refine w_a f_419_1012 ?_
  refine i_m (fun h => ?_) (fun h => ?_) h
  · refine w_a f_419_1019 ?_
    exact w_c (ks := [0, 1, 2, 3, 4, 5]) f_419_1020 rfl rfl h
  · refine w_a f_419_1015 ?_
    refine w_a f_419_1016 ?_
    exact w_c (ks := [0, 1, 2, 3, 4, 5]) f_419_1020 rfl rfl h
set_option maxRecDepth 10000 in
set_option maxHeartbeats 4000000 in
theorem s_419_1023 {Lx : Nat} {I : Mi} {L : Ml} {e : Nat} {Q : Kq} {x4 : Int32} {x5 : Int32} {r : Int32} (h :
    (if (I 58 0) = x5 then
     (if x5 = 0 then
      (if r = 0 then
       (if (L 70 0) = (Int64.ofInt 0) then
        Wp 419 4917 [(0, .ref 0), (1, .ref 1), (2, .ref 58), (3, .ref 70), (4, .int x4)] [] (gE Lx) I L e Q
       else
        Q (.inl (some (.int (Int32.ofInt 0)))) (gE Lx) I L e)
      else
       (if (L 70 0) = (Int64.ofInt 1) then
        Wp 419 4917 [(0, .ref 0), (1, .ref 1), (2, .ref 58), (3, .ref 70), (4, .int x4)] [] (gE Lx) I L e Q
       else
        Q (.inl (some (.int (Int32.ofInt 0)))) (gE Lx) I L e))
     else
      Wp 419 4917 [(0, .ref 0), (1, .ref 1), (2, .ref 58), (3, .ref 70), (4, .int x4)] [] (gE Lx) I L e Q)
    else
     Q (.inl (some (.int (Int32.ofInt 0)))) (gE Lx) I L e)) :
    Wp 419 1023 [(0, .ref 0), (1, .ref 1), (2, .ref 58), (3, .ref 70), (4, .int x4), (5, .int x5)] [.int r] (gE Lx) I L e Q := by
  refine w_a f_419_1023 ?_
  refine w_a (ls := [(6, .int r), (0, .ref 0), (1, .ref 1), (2, .ref 58), (3, .ref 70), (4, .int x4), (5, .int x5)]) f_419_1025 ?_
  refine w_a f_419_1026 ?_
  refine w_a (ls := [(0, .ref 58)]) f_212_0 ?_
  refine w_a f_212_1 ?_
  refine w_a f_212_4 ?_
  refine w_a (ls := [(6, .int r), (0, .ref 0), (1, .ref 1), (2, .ref 58), (3, .ref 70), (4, .int x4), (5, .int x5)]) f_419_1029 ?_
  refine w_a f_419_1031 ?_
  refine i_m (fun h => ?_) (fun h => ?_) h
  · refine w_a f_419_1036 ?_
    refine w_a f_419_1038 ?_
    refine i_m (fun h => ?_) (fun h => ?_) h
    · refine w_a f_419_1041 ?_
      refine w_a f_419_1042 ?_
      refine w_a f_419_1043 ?_
      refine w_a f_419_1044 ?_
      refine w_a f_419_1046 ?_
      refine i_m (fun h => ?_) (fun h => ?_) h
      · refine w_a f_419_1053 ?_
        refine w_a f_419_1054 ?_
        refine i_m (fun h => ?_) (fun h => ?_) h
        · refine w_a f_419_1060 ?_
          exact w_n (ks := [0, 1, 2, 3, 4]) rfl h
        · refine w_a f_419_1058 ?_
          refine w_a f_419_1059 ?_
          exact h
      · refine w_a f_419_1049 ?_
        refine w_a f_419_1050 ?_
        refine w_a f_419_1054 ?_
        refine i_m (fun h => ?_) (fun h => ?_) h
        · refine w_a f_419_1060 ?_
          exact w_n (ks := [0, 1, 2, 3, 4]) rfl h
        · refine w_a f_419_1058 ?_
          refine w_a f_419_1059 ?_
          exact h
    · refine w_a f_419_1060 ?_
      exact w_n (ks := [0, 1, 2, 3, 4]) rfl h
  · refine w_a f_419_1034 ?_
    refine w_a f_419_1035 ?_
    exact h
set_option maxRecDepth 10000 in
set_option maxHeartbeats 4000000 in
theorem s_419_1063 {Lx : Nat} {I : Mi} {L : Ml} {e : Nat} {Q : Kq} {x4 : Int32} (h :
    (inb (x4 + (Int32.ofInt 1)) Lx (
     (inb (x4 + (Int32.ofInt 2)) Lx (
      (inb (x4 + (Int32.ofInt 3)) Lx (
       (if (I 0 ((x4 + (Int32.ofInt 3)).toNatClampNeg)) = 0 then
        Wp 378 0 [(0, .ref 1), (1, .int (I 0 ((x4 + (Int32.ofInt 1)).toNatClampNeg))), (2, .int (I 0 ((x4 + (Int32.ofInt 2)).toNatClampNeg))), (3, .int (Int32.ofInt 0)), (4, .ref 70)] [] (gE Lx) I L e (kcp (Wp 419) 419 1091 0 [(0, .ref 0), (1, .ref 1), (2, .ref 58), (3, .ref 70), (4, .int x4)] 71 [] Q)
       else
        Wp 378 0 [(0, .ref 1), (1, .int (I 0 ((x4 + (Int32.ofInt 1)).toNatClampNeg))), (2, .int (I 0 ((x4 + (Int32.ofInt 2)).toNatClampNeg))), (3, .int (Int32.ofInt 1)), (4, .ref 70)] [] (gE Lx) I L e (kcp (Wp 419) 419 1091 0 [(0, .ref 0), (1, .ref 1), (2, .ref 58), (3, .ref 70), (4, .int x4)] 71 [] Q)))
      False))
     False))
    False)) :
    Wp 419 1063 [(0, .ref 0), (1, .ref 1), (2, .ref 58), (3, .ref 70), (4, .int x4)] [] (gE Lx) I L e Q := by
  refine w_a f_419_1063 ?_
  refine w_a f_419_1064 ?_
  refine w_a f_419_1065 ?_
  refine w_a f_419_1067 ?_
  refine w_a f_419_1068 ?_
  refine w_a f_419_1069 ?_
  refine n_m (fun h => ?_) h
  refine w_a f_419_1070 ?_
  refine w_a f_419_1071 ?_
  refine w_a f_419_1073 ?_
  refine w_a f_419_1074 ?_
  refine w_a f_419_1075 ?_
  refine n_m (fun h => ?_) h
  refine w_a f_419_1076 ?_
  refine w_a f_419_1077 ?_
  refine w_a f_419_1079 ?_
  refine w_a f_419_1080 ?_
  refine w_a f_419_1081 ?_
  refine n_m (fun h => ?_) h
  refine w_a f_419_1082 ?_
  refine i_m (fun h => ?_) (fun h => ?_) h
  · refine w_a f_419_1089 ?_
    refine w_a f_419_1090 ?_
    exact w_c (ks := [0, 1, 2, 3, 4]) f_419_1091 rfl rfl h
  · refine w_a f_419_1085 ?_
    refine w_a f_419_1086 ?_
    refine w_a f_419_1090 ?_
    exact w_c (ks := [0, 1, 2, 3, 4]) f_419_1091 rfl rfl h
set_option maxRecDepth 10000 in
set_option maxHeartbeats 4000000 in
theorem s_419_1094 {Lx : Nat} {I : Mi} {L : Ml} {e : Nat} {Q : Kq} {x4 : Int32} {r : Int32} (h :
    (inb (x4 + (Int32.ofInt 1)) Lx (
     (inb (x4 + (Int32.ofInt 2)) Lx (
      (inb (x4 + (Int32.ofInt 3)) Lx (
       (if (I 0 ((x4 + (Int32.ofInt 3)).toNatClampNeg)) = 0 then
        Wp 241 0 [(0, .ref 58), (1, .int (I 0 ((x4 + (Int32.ofInt 1)).toNatClampNeg))), (2, .int (I 0 ((x4 + (Int32.ofInt 2)).toNatClampNeg))), (3, .int (Int32.ofInt 0))] [] (gE Lx) I L e (kcp (Wp 419) 419 1123 0 [(0, .ref 0), (1, .ref 1), (2, .ref 58), (3, .ref 70), (4, .int x4), (5, .int r)] 71 [] Q)
       else
        Wp 241 0 [(0, .ref 58), (1, .int (I 0 ((x4 + (Int32.ofInt 1)).toNatClampNeg))), (2, .int (I 0 ((x4 + (Int32.ofInt 2)).toNatClampNeg))), (3, .int (Int32.ofInt 1))] [] (gE Lx) I L e (kcp (Wp 419) 419 1123 0 [(0, .ref 0), (1, .ref 1), (2, .ref 58), (3, .ref 70), (4, .int x4), (5, .int r)] 71 [] Q)))
      False))
     False))
    False)) :
    Wp 419 1094 [(0, .ref 0), (1, .ref 1), (2, .ref 58), (3, .ref 70), (4, .int x4)] [.int r] (gE Lx) I L e Q := by
  refine w_a f_419_1094 ?_
  refine w_a (ls := [(5, .int r), (0, .ref 0), (1, .ref 1), (2, .ref 58), (3, .ref 70), (4, .int x4)]) f_419_1096 ?_
  refine w_a f_419_1097 ?_
  refine w_a f_419_1098 ?_
  refine w_a f_419_1100 ?_
  refine w_a f_419_1101 ?_
  refine w_a f_419_1102 ?_
  refine n_m (fun h => ?_) h
  refine w_a f_419_1103 ?_
  refine w_a f_419_1104 ?_
  refine w_a f_419_1106 ?_
  refine w_a f_419_1107 ?_
  refine w_a f_419_1108 ?_
  refine n_m (fun h => ?_) h
  refine w_a f_419_1109 ?_
  refine w_a f_419_1110 ?_
  refine w_a f_419_1112 ?_
  refine w_a f_419_1113 ?_
  refine w_a f_419_1114 ?_
  refine n_m (fun h => ?_) h
  refine w_a f_419_1115 ?_
  refine i_m (fun h => ?_) (fun h => ?_) h
  · refine w_a f_419_1122 ?_
    exact w_c (ks := [0, 1, 2, 3, 4, 5]) f_419_1123 rfl rfl h
  · refine w_a f_419_1118 ?_
    refine w_a f_419_1119 ?_
    exact w_c (ks := [0, 1, 2, 3, 4, 5]) f_419_1123 rfl rfl h
set_option maxRecDepth 10000 in
set_option maxHeartbeats 4000000 in
theorem s_419_1126 {Lx : Nat} {I : Mi} {L : Ml} {e : Nat} {Q : Kq} {x4 : Int32} {x5 : Int32} {r : Int32} (h :
    (if (I 58 0) = x5 then
     (if x5 = 0 then
      (if (L 70 0) = r.toInt64 then
       Wp 419 4917 [(0, .ref 0), (1, .ref 1), (2, .ref 58), (3, .ref 70), (4, .int x4)] [] (gE Lx) I L e Q
      else
       Q (.inl (some (.int (Int32.ofInt 0)))) (gE Lx) I L e)
     else
      Wp 419 4917 [(0, .ref 0), (1, .ref 1), (2, .ref 58), (3, .ref 70), (4, .int x4)] [] (gE Lx) I L e Q)
    else
     Q (.inl (some (.int (Int32.ofInt 0)))) (gE Lx) I L e)) :
    Wp 419 1126 [(0, .ref 0), (1, .ref 1), (2, .ref 58), (3, .ref 70), (4, .int x4), (5, .int x5)] [.int r] (gE Lx) I L e Q := by
  refine w_a f_419_1126 ?_
  refine w_a (ls := [(6, .int r), (0, .ref 0), (1, .ref 1), (2, .ref 58), (3, .ref 70), (4, .int x4), (5, .int x5)]) f_419_1128 ?_
  refine w_a f_419_1129 ?_
  refine w_a (ls := [(0, .ref 58)]) f_212_0 ?_
  refine w_a f_212_1 ?_
  refine w_a f_212_4 ?_
  refine w_a (ls := [(6, .int r), (0, .ref 0), (1, .ref 1), (2, .ref 58), (3, .ref 70), (4, .int x4), (5, .int x5)]) f_419_1132 ?_
  refine w_a f_419_1134 ?_
  refine i_m (fun h => ?_) (fun h => ?_) h
  · refine w_a f_419_1139 ?_
    refine w_a f_419_1141 ?_
    refine i_m (fun h => ?_) (fun h => ?_) h
    · refine w_a f_419_1144 ?_
      refine w_a f_419_1145 ?_
      refine w_a f_419_1146 ?_
      refine w_a f_419_1147 ?_
      refine w_a f_419_1149 ?_
      refine w_a f_419_1150 ?_
      refine i_m (fun h => ?_) (fun h => ?_) h
      · refine w_a f_419_1156 ?_
        exact w_n (ks := [0, 1, 2, 3, 4]) rfl h
      · refine w_a f_419_1154 ?_
        refine w_a f_419_1155 ?_
        exact h
    · refine w_a f_419_1156 ?_
      exact w_n (ks := [0, 1, 2, 3, 4]) rfl h
  · refine w_a f_419_1137 ?_
    refine w_a f_419_1138 ?_
    exact h
set_option maxRecDepth 10000 in
set_option maxHeartbeats 4000000 in
theorem s_419_1159 {Lx : Nat} {I : Mi} {L : Ml} {e : Nat} {Q : Kq} {x4 : Int32} (h :
    (inb (x4 + (Int32.ofInt 1)) Lx (
     (inb (x4 + (Int32.ofInt 2)) Lx (
      (inb (x4 + (Int32.ofInt 3)) Lx (
       (inb (x4 + (Int32.ofInt 4)) Lx (
        (if (I 0 ((x4 + (Int32.ofInt 4)).toNatClampNeg)) = 0 then
         Wp 379 0 [(0, .ref 1), (1, .int (I 0 ((x4 + (Int32.ofInt 1)).toNatClampNeg))), (2, .int (I 0 ((x4 + (Int32.ofInt 2)).toNatClampNeg))), (3, .int (I 0 ((x4 + (Int32.ofInt 3)).toNatClampNeg))), (4, .int (Int32.ofInt 0)), (5, .ref 70)] [] (gE Lx) I L e (kcp (Wp 419) 419 1193 0 [(0, .ref 0), (1, .ref 1), (2, .ref 58), (3, .ref 70), (4, .int x4)] 71 [] Q)
        else
         Wp 379 0 [(0, .ref 1), (1, .int (I 0 ((x4 + (Int32.ofInt 1)).toNatClampNeg))), (2, .int (I 0 ((x4 + (Int32.ofInt 2)).toNatClampNeg))), (3, .int (I 0 ((x4 + (Int32.ofInt 3)).toNatClampNeg))), (4, .int (Int32.ofInt 1)), (5, .ref 70)] [] (gE Lx) I L e (kcp (Wp 419) 419 1193 0 [(0, .ref 0), (1, .ref 1), (2, .ref 58), (3, .ref 70), (4, .int x4)] 71 [] Q)))
       False))
      False))
     False))
    False)) :
    Wp 419 1159 [(0, .ref 0), (1, .ref 1), (2, .ref 58), (3, .ref 70), (4, .int x4)] [] (gE Lx) I L e Q := by
  refine w_a f_419_1159 ?_
  refine w_a f_419_1160 ?_
  refine w_a f_419_1161 ?_
  refine w_a f_419_1163 ?_
  refine w_a f_419_1164 ?_
  refine w_a f_419_1165 ?_
  refine n_m (fun h => ?_) h
  refine w_a f_419_1166 ?_
  refine w_a f_419_1167 ?_
  refine w_a f_419_1169 ?_
  refine w_a f_419_1170 ?_
  refine w_a f_419_1171 ?_
  refine n_m (fun h => ?_) h
  refine w_a f_419_1172 ?_
  refine w_a f_419_1173 ?_
  refine w_a f_419_1175 ?_
  refine w_a f_419_1176 ?_
  refine w_a f_419_1177 ?_
  refine n_m (fun h => ?_) h
  refine w_a f_419_1178 ?_
  refine w_a f_419_1179 ?_
  refine w_a f_419_1181 ?_
  refine w_a f_419_1182 ?_
  refine w_a f_419_1183 ?_
  refine n_m (fun h => ?_) h
  refine w_a f_419_1184 ?_
  refine i_m (fun h => ?_) (fun h => ?_) h
  · refine w_a f_419_1191 ?_
    refine w_a f_419_1192 ?_
    exact w_c (ks := [0, 1, 2, 3, 4]) f_419_1193 rfl rfl h
  · refine w_a f_419_1187 ?_
    refine w_a f_419_1188 ?_
    refine w_a f_419_1192 ?_
    exact w_c (ks := [0, 1, 2, 3, 4]) f_419_1193 rfl rfl h
set_option maxRecDepth 10000 in
set_option maxHeartbeats 4000000 in
theorem s_419_1196 {Lx : Nat} {I : Mi} {L : Ml} {e : Nat} {Q : Kq} {x4 : Int32} {r : Int32} (h :
    (inb (x4 + (Int32.ofInt 1)) Lx (
     (inb (x4 + (Int32.ofInt 2)) Lx (
      (inb (x4 + (Int32.ofInt 3)) Lx (
       (inb (x4 + (Int32.ofInt 4)) Lx (
        (if (I 0 ((x4 + (Int32.ofInt 4)).toNatClampNeg)) = 0 then
         Wp 244 0 [(0, .ref 58), (1, .int (I 0 ((x4 + (Int32.ofInt 1)).toNatClampNeg))), (2, .int (I 0 ((x4 + (Int32.ofInt 2)).toNatClampNeg))), (3, .int (I 0 ((x4 + (Int32.ofInt 3)).toNatClampNeg))), (4, .int (Int32.ofInt 0))] [] (gE Lx) I L e (kcp (Wp 419) 419 1231 0 [(0, .ref 0), (1, .ref 1), (2, .ref 58), (3, .ref 70), (4, .int x4), (5, .int r)] 71 [] Q)
        else
         Wp 244 0 [(0, .ref 58), (1, .int (I 0 ((x4 + (Int32.ofInt 1)).toNatClampNeg))), (2, .int (I 0 ((x4 + (Int32.ofInt 2)).toNatClampNeg))), (3, .int (I 0 ((x4 + (Int32.ofInt 3)).toNatClampNeg))), (4, .int (Int32.ofInt 1))] [] (gE Lx) I L e (kcp (Wp 419) 419 1231 0 [(0, .ref 0), (1, .ref 1), (2, .ref 58), (3, .ref 70), (4, .int x4), (5, .int r)] 71 [] Q)))
       False))
      False))
     False))
    False)) :
    Wp 419 1196 [(0, .ref 0), (1, .ref 1), (2, .ref 58), (3, .ref 70), (4, .int x4)] [.int r] (gE Lx) I L e Q := by
  refine w_a f_419_1196 ?_
  refine w_a (ls := [(5, .int r), (0, .ref 0), (1, .ref 1), (2, .ref 58), (3, .ref 70), (4, .int x4)]) f_419_1198 ?_
  refine w_a f_419_1199 ?_
  refine w_a f_419_1200 ?_
  refine w_a f_419_1202 ?_
  refine w_a f_419_1203 ?_
  refine w_a f_419_1204 ?_
  refine n_m (fun h => ?_) h
  refine w_a f_419_1205 ?_
  refine w_a f_419_1206 ?_
  refine w_a f_419_1208 ?_
  refine w_a f_419_1209 ?_
  refine w_a f_419_1210 ?_
  refine n_m (fun h => ?_) h
  refine w_a f_419_1211 ?_
  refine w_a f_419_1212 ?_
  refine w_a f_419_1214 ?_
  refine w_a f_419_1215 ?_
  refine w_a f_419_1216 ?_
  refine n_m (fun h => ?_) h
  refine w_a f_419_1217 ?_
  refine w_a f_419_1218 ?_
  refine w_a f_419_1220 ?_
  refine w_a f_419_1221 ?_
  refine w_a f_419_1222 ?_
  refine n_m (fun h => ?_) h
  refine w_a f_419_1223 ?_
  refine i_m (fun h => ?_) (fun h => ?_) h
  · refine w_a f_419_1230 ?_
    exact w_c (ks := [0, 1, 2, 3, 4, 5]) f_419_1231 rfl rfl h
  · refine w_a f_419_1226 ?_
    refine w_a f_419_1227 ?_
    exact w_c (ks := [0, 1, 2, 3, 4, 5]) f_419_1231 rfl rfl h
set_option maxRecDepth 10000 in
set_option maxHeartbeats 4000000 in
theorem s_419_1234 {Lx : Nat} {I : Mi} {L : Ml} {e : Nat} {Q : Kq} {x4 : Int32} {x5 : Int32} {r : Int32} (h :
    (if (I 58 0) = x5 then
     (if x5 = 0 then
      (if (L 70 0) = r.toInt64 then
       Wp 419 4917 [(0, .ref 0), (1, .ref 1), (2, .ref 58), (3, .ref 70), (4, .int x4)] [] (gE Lx) I L e Q
      else
       Q (.inl (some (.int (Int32.ofInt 0)))) (gE Lx) I L e)
     else
      Wp 419 4917 [(0, .ref 0), (1, .ref 1), (2, .ref 58), (3, .ref 70), (4, .int x4)] [] (gE Lx) I L e Q)
    else
     Q (.inl (some (.int (Int32.ofInt 0)))) (gE Lx) I L e)) :
    Wp 419 1234 [(0, .ref 0), (1, .ref 1), (2, .ref 58), (3, .ref 70), (4, .int x4), (5, .int x5)] [.int r] (gE Lx) I L e Q := by
  refine w_a f_419_1234 ?_
  refine w_a (ls := [(6, .int r), (0, .ref 0), (1, .ref 1), (2, .ref 58), (3, .ref 70), (4, .int x4), (5, .int x5)]) f_419_1236 ?_
  refine w_a f_419_1237 ?_
  refine w_a (ls := [(0, .ref 58)]) f_212_0 ?_
  refine w_a f_212_1 ?_
  refine w_a f_212_4 ?_
  refine w_a (ls := [(6, .int r), (0, .ref 0), (1, .ref 1), (2, .ref 58), (3, .ref 70), (4, .int x4), (5, .int x5)]) f_419_1240 ?_
  refine w_a f_419_1242 ?_
  refine i_m (fun h => ?_) (fun h => ?_) h
  · refine w_a f_419_1247 ?_
    refine w_a f_419_1249 ?_
    refine i_m (fun h => ?_) (fun h => ?_) h
    · refine w_a f_419_1252 ?_
      refine w_a f_419_1253 ?_
      refine w_a f_419_1254 ?_
      refine w_a f_419_1255 ?_
      refine w_a f_419_1257 ?_
      refine w_a f_419_1258 ?_
      refine i_m (fun h => ?_) (fun h => ?_) h
      · refine w_a f_419_1264 ?_
        exact w_n (ks := [0, 1, 2, 3, 4]) rfl h
      · refine w_a f_419_1262 ?_
        refine w_a f_419_1263 ?_
        exact h
    · refine w_a f_419_1264 ?_
      exact w_n (ks := [0, 1, 2, 3, 4]) rfl h
  · refine w_a f_419_1245 ?_
    refine w_a f_419_1246 ?_
    exact h
set_option maxRecDepth 10000 in
set_option maxHeartbeats 4000000 in
theorem s_419_1267 {Lx : Nat} {I : Mi} {L : Ml} {e : Nat} {Q : Kq} {x4 : Int32} (h :
    (inb (x4 + (Int32.ofInt 1)) Lx (
     (inb (x4 + (Int32.ofInt 2)) Lx (
      (inb (x4 + (Int32.ofInt 3)) Lx (
       (inb (x4 + (Int32.ofInt 4)) Lx (
        (inb (x4 + (Int32.ofInt 5)) Lx (
         (if (I 0 ((x4 + (Int32.ofInt 5)).toNatClampNeg)) = 0 then
          Wp 380 0 [(0, .ref 1), (1, .int (I 0 ((x4 + (Int32.ofInt 1)).toNatClampNeg))), (2, .int (I 0 ((x4 + (Int32.ofInt 2)).toNatClampNeg))), (3, .int (I 0 ((x4 + (Int32.ofInt 3)).toNatClampNeg))), (4, .int (I 0 ((x4 + (Int32.ofInt 4)).toNatClampNeg))), (5, .int (Int32.ofInt 0)), (6, .ref 70)] [] (gE Lx) I L e (kcp (Wp 419) 419 1307 0 [(0, .ref 0), (1, .ref 1), (2, .ref 58), (3, .ref 70), (4, .int x4)] 71 [] Q)
         else
          Wp 380 0 [(0, .ref 1), (1, .int (I 0 ((x4 + (Int32.ofInt 1)).toNatClampNeg))), (2, .int (I 0 ((x4 + (Int32.ofInt 2)).toNatClampNeg))), (3, .int (I 0 ((x4 + (Int32.ofInt 3)).toNatClampNeg))), (4, .int (I 0 ((x4 + (Int32.ofInt 4)).toNatClampNeg))), (5, .int (Int32.ofInt 1)), (6, .ref 70)] [] (gE Lx) I L e (kcp (Wp 419) 419 1307 0 [(0, .ref 0), (1, .ref 1), (2, .ref 58), (3, .ref 70), (4, .int x4)] 71 [] Q)))
        False))
       False))
      False))
     False))
    False)) :
    Wp 419 1267 [(0, .ref 0), (1, .ref 1), (2, .ref 58), (3, .ref 70), (4, .int x4)] [] (gE Lx) I L e Q := by
  refine w_a f_419_1267 ?_
  refine w_a f_419_1268 ?_
  refine w_a f_419_1269 ?_
  refine w_a f_419_1271 ?_
  refine w_a f_419_1272 ?_
  refine w_a f_419_1273 ?_
  refine n_m (fun h => ?_) h
  refine w_a f_419_1274 ?_
  refine w_a f_419_1275 ?_
  refine w_a f_419_1277 ?_
  refine w_a f_419_1278 ?_
  refine w_a f_419_1279 ?_
  refine n_m (fun h => ?_) h
  refine w_a f_419_1280 ?_
  refine w_a f_419_1281 ?_
  refine w_a f_419_1283 ?_
  refine w_a f_419_1284 ?_
  refine w_a f_419_1285 ?_
  refine n_m (fun h => ?_) h
  refine w_a f_419_1286 ?_
  refine w_a f_419_1287 ?_
  refine w_a f_419_1289 ?_
  refine w_a f_419_1290 ?_
  refine w_a f_419_1291 ?_
  refine n_m (fun h => ?_) h
  refine w_a f_419_1292 ?_
  refine w_a f_419_1293 ?_
  refine w_a f_419_1295 ?_
  refine w_a f_419_1296 ?_
  refine w_a f_419_1297 ?_
  refine n_m (fun h => ?_) h
  refine w_a f_419_1298 ?_
  refine i_m (fun h => ?_) (fun h => ?_) h
  · refine w_a f_419_1305 ?_
    refine w_a f_419_1306 ?_
    exact w_c (ks := [0, 1, 2, 3, 4]) f_419_1307 rfl rfl h
  · refine w_a f_419_1301 ?_
    refine w_a f_419_1302 ?_
    refine w_a f_419_1306 ?_
    exact w_c (ks := [0, 1, 2, 3, 4]) f_419_1307 rfl rfl h
set_option maxRecDepth 10000 in
set_option maxHeartbeats 4000000 in
theorem s_419_1310 {Lx : Nat} {I : Mi} {L : Ml} {e : Nat} {Q : Kq} {x4 : Int32} {r : Int32} (h :
    (inb (x4 + (Int32.ofInt 1)) Lx (
     (inb (x4 + (Int32.ofInt 2)) Lx (
      (inb (x4 + (Int32.ofInt 3)) Lx (
       (inb (x4 + (Int32.ofInt 4)) Lx (
        (inb (x4 + (Int32.ofInt 5)) Lx (
         (if (I 0 ((x4 + (Int32.ofInt 5)).toNatClampNeg)) = 0 then
          Wp 248 0 [(0, .ref 58), (1, .int (I 0 ((x4 + (Int32.ofInt 1)).toNatClampNeg))), (2, .int (I 0 ((x4 + (Int32.ofInt 2)).toNatClampNeg))), (3, .int (I 0 ((x4 + (Int32.ofInt 3)).toNatClampNeg))), (4, .int (I 0 ((x4 + (Int32.ofInt 4)).toNatClampNeg))), (5, .int (Int32.ofInt 0))] [] (gE Lx) I L e (kcp (Wp 419) 419 1351 0 [(0, .ref 0), (1, .ref 1), (2, .ref 58), (3, .ref 70), (4, .int x4), (5, .int r)] 71 [] Q)
         else
          Wp 248 0 [(0, .ref 58), (1, .int (I 0 ((x4 + (Int32.ofInt 1)).toNatClampNeg))), (2, .int (I 0 ((x4 + (Int32.ofInt 2)).toNatClampNeg))), (3, .int (I 0 ((x4 + (Int32.ofInt 3)).toNatClampNeg))), (4, .int (I 0 ((x4 + (Int32.ofInt 4)).toNatClampNeg))), (5, .int (Int32.ofInt 1))] [] (gE Lx) I L e (kcp (Wp 419) 419 1351 0 [(0, .ref 0), (1, .ref 1), (2, .ref 58), (3, .ref 70), (4, .int x4), (5, .int r)] 71 [] Q)))
        False))
       False))
      False))
     False))
    False)) :
    Wp 419 1310 [(0, .ref 0), (1, .ref 1), (2, .ref 58), (3, .ref 70), (4, .int x4)] [.int r] (gE Lx) I L e Q := by
  refine w_a f_419_1310 ?_
  refine w_a (ls := [(5, .int r), (0, .ref 0), (1, .ref 1), (2, .ref 58), (3, .ref 70), (4, .int x4)]) f_419_1312 ?_
  refine w_a f_419_1313 ?_
  refine w_a f_419_1314 ?_
  refine w_a f_419_1316 ?_
  refine w_a f_419_1317 ?_
  refine w_a f_419_1318 ?_
  refine n_m (fun h => ?_) h
  refine w_a f_419_1319 ?_
  refine w_a f_419_1320 ?_
  refine w_a f_419_1322 ?_
  refine w_a f_419_1323 ?_
  refine w_a f_419_1324 ?_
  refine n_m (fun h => ?_) h
  refine w_a f_419_1325 ?_
  refine w_a f_419_1326 ?_
  refine w_a f_419_1328 ?_
  refine w_a f_419_1329 ?_
  refine w_a f_419_1330 ?_
  refine n_m (fun h => ?_) h
  refine w_a f_419_1331 ?_
  refine w_a f_419_1332 ?_
  refine w_a f_419_1334 ?_
  refine w_a f_419_1335 ?_
  refine w_a f_419_1336 ?_
  refine n_m (fun h => ?_) h
  refine w_a f_419_1337 ?_
  refine w_a f_419_1338 ?_
  refine w_a f_419_1340 ?_
  refine w_a f_419_1341 ?_
  refine w_a f_419_1342 ?_
  refine n_m (fun h => ?_) h
  refine w_a f_419_1343 ?_
  refine i_m (fun h => ?_) (fun h => ?_) h
  · refine w_a f_419_1350 ?_
    exact w_c (ks := [0, 1, 2, 3, 4, 5]) f_419_1351 rfl rfl h
  · refine w_a f_419_1346 ?_
    refine w_a f_419_1347 ?_
    exact w_c (ks := [0, 1, 2, 3, 4, 5]) f_419_1351 rfl rfl h
set_option maxRecDepth 10000 in
set_option maxHeartbeats 4000000 in
theorem s_419_1354 {Lx : Nat} {I : Mi} {L : Ml} {e : Nat} {Q : Kq} {x4 : Int32} {x5 : Int32} {r : Int32} (h :
    (if (I 58 0) = x5 then
     (if x5 = 0 then
      (if (L 70 0) = r.toInt64 then
       Wp 419 4917 [(0, .ref 0), (1, .ref 1), (2, .ref 58), (3, .ref 70), (4, .int x4)] [] (gE Lx) I L e Q
      else
       Q (.inl (some (.int (Int32.ofInt 0)))) (gE Lx) I L e)
     else
      Wp 419 4917 [(0, .ref 0), (1, .ref 1), (2, .ref 58), (3, .ref 70), (4, .int x4)] [] (gE Lx) I L e Q)
    else
     Q (.inl (some (.int (Int32.ofInt 0)))) (gE Lx) I L e)) :
    Wp 419 1354 [(0, .ref 0), (1, .ref 1), (2, .ref 58), (3, .ref 70), (4, .int x4), (5, .int x5)] [.int r] (gE Lx) I L e Q := by
  refine w_a f_419_1354 ?_
  refine w_a (ls := [(6, .int r), (0, .ref 0), (1, .ref 1), (2, .ref 58), (3, .ref 70), (4, .int x4), (5, .int x5)]) f_419_1356 ?_
  refine w_a f_419_1357 ?_
  refine w_a (ls := [(0, .ref 58)]) f_212_0 ?_
  refine w_a f_212_1 ?_
  refine w_a f_212_4 ?_
  refine w_a (ls := [(6, .int r), (0, .ref 0), (1, .ref 1), (2, .ref 58), (3, .ref 70), (4, .int x4), (5, .int x5)]) f_419_1360 ?_
  refine w_a f_419_1362 ?_
  refine i_m (fun h => ?_) (fun h => ?_) h
  · refine w_a f_419_1367 ?_
    refine w_a f_419_1369 ?_
    refine i_m (fun h => ?_) (fun h => ?_) h
    · refine w_a f_419_1372 ?_
      refine w_a f_419_1373 ?_
      refine w_a f_419_1374 ?_
      refine w_a f_419_1375 ?_
      refine w_a f_419_1377 ?_
      refine w_a f_419_1378 ?_
      refine i_m (fun h => ?_) (fun h => ?_) h
      · refine w_a f_419_1384 ?_
        exact w_n (ks := [0, 1, 2, 3, 4]) rfl h
      · refine w_a f_419_1382 ?_
        refine w_a f_419_1383 ?_
        exact h
    · refine w_a f_419_1384 ?_
      exact w_n (ks := [0, 1, 2, 3, 4]) rfl h
  · refine w_a f_419_1365 ?_
    refine w_a f_419_1366 ?_
    exact h
set_option maxRecDepth 10000 in
set_option maxHeartbeats 4000000 in
theorem s_419_1387 {Lx : Nat} {I : Mi} {L : Ml} {e : Nat} {Q : Kq} {x4 : Int32} (h :
    (inb (x4 + (Int32.ofInt 1)) Lx (
     (inb (x4 + (Int32.ofInt 2)) Lx (
      (inb (x4 + (Int32.ofInt 3)) Lx (
       (inb (x4 + (Int32.ofInt 4)) Lx (
        Wp 381 0 [(0, .ref 1), (1, .int (I 0 ((x4 + (Int32.ofInt 1)).toNatClampNeg))), (2, .int (I 0 ((x4 + (Int32.ofInt 2)).toNatClampNeg))), (3, .int (I 0 ((x4 + (Int32.ofInt 3)).toNatClampNeg))), (4, .int (I 0 ((x4 + (Int32.ofInt 4)).toNatClampNeg))), (5, .ref 70)] [] (gE Lx) I L e (kcp (Wp 419) 419 1413 0 [(0, .ref 0), (1, .ref 1), (2, .ref 58), (3, .ref 70), (4, .int x4)] 71 [] Q))
       False))
      False))
     False))
    False)) :
    Wp 419 1387 [(0, .ref 0), (1, .ref 1), (2, .ref 58), (3, .ref 70), (4, .int x4)] [] (gE Lx) I L e Q := by
  refine w_a f_419_1387 ?_
  refine w_a f_419_1388 ?_
  refine w_a f_419_1389 ?_
  refine w_a f_419_1391 ?_
  refine w_a f_419_1392 ?_
  refine w_a f_419_1393 ?_
  refine n_m (fun h => ?_) h
  refine w_a f_419_1394 ?_
  refine w_a f_419_1395 ?_
  refine w_a f_419_1397 ?_
  refine w_a f_419_1398 ?_
  refine w_a f_419_1399 ?_
  refine n_m (fun h => ?_) h
  refine w_a f_419_1400 ?_
  refine w_a f_419_1401 ?_
  refine w_a f_419_1403 ?_
  refine w_a f_419_1404 ?_
  refine w_a f_419_1405 ?_
  refine n_m (fun h => ?_) h
  refine w_a f_419_1406 ?_
  refine w_a f_419_1407 ?_
  refine w_a f_419_1409 ?_
  refine w_a f_419_1410 ?_
  refine w_a f_419_1411 ?_
  refine n_m (fun h => ?_) h
  refine w_a f_419_1412 ?_
  exact w_c (ks := [0, 1, 2, 3, 4]) f_419_1413 rfl rfl h
set_option maxRecDepth 10000 in
set_option maxHeartbeats 4000000 in
theorem s_419_1416 {Lx : Nat} {I : Mi} {L : Ml} {e : Nat} {Q : Kq} {x4 : Int32} {r : Int32} (h :
    (inb (x4 + (Int32.ofInt 1)) Lx (
     (inb (x4 + (Int32.ofInt 2)) Lx (
      (inb (x4 + (Int32.ofInt 3)) Lx (
       (inb (x4 + (Int32.ofInt 4)) Lx (
        Wp 249 0 [(0, .ref 58), (1, .int (I 0 ((x4 + (Int32.ofInt 1)).toNatClampNeg))), (2, .int (I 0 ((x4 + (Int32.ofInt 2)).toNatClampNeg))), (3, .int (I 0 ((x4 + (Int32.ofInt 3)).toNatClampNeg))), (4, .int (I 0 ((x4 + (Int32.ofInt 4)).toNatClampNeg)))] [] (gE Lx) I L e (kcp (Wp 419) 419 1443 0 [(0, .ref 0), (1, .ref 1), (2, .ref 58), (3, .ref 70), (4, .int x4), (5, .int r)] 71 [] Q))
       False))
      False))
     False))
    False)) :
    Wp 419 1416 [(0, .ref 0), (1, .ref 1), (2, .ref 58), (3, .ref 70), (4, .int x4)] [.int r] (gE Lx) I L e Q := by
  refine w_a f_419_1416 ?_
  refine w_a (ls := [(5, .int r), (0, .ref 0), (1, .ref 1), (2, .ref 58), (3, .ref 70), (4, .int x4)]) f_419_1418 ?_
  refine w_a f_419_1419 ?_
  refine w_a f_419_1420 ?_
  refine w_a f_419_1422 ?_
  refine w_a f_419_1423 ?_
  refine w_a f_419_1424 ?_
  refine n_m (fun h => ?_) h
  refine w_a f_419_1425 ?_
  refine w_a f_419_1426 ?_
  refine w_a f_419_1428 ?_
  refine w_a f_419_1429 ?_
  refine w_a f_419_1430 ?_
  refine n_m (fun h => ?_) h
  refine w_a f_419_1431 ?_
  refine w_a f_419_1432 ?_
  refine w_a f_419_1434 ?_
  refine w_a f_419_1435 ?_
  refine w_a f_419_1436 ?_
  refine n_m (fun h => ?_) h
  refine w_a f_419_1437 ?_
  refine w_a f_419_1438 ?_
  refine w_a f_419_1440 ?_
  refine w_a f_419_1441 ?_
  refine w_a f_419_1442 ?_
  refine n_m (fun h => ?_) h
  exact w_c (ks := [0, 1, 2, 3, 4, 5]) f_419_1443 rfl rfl h
set_option maxRecDepth 10000 in
set_option maxHeartbeats 4000000 in
theorem s_419_1446 {Lx : Nat} {I : Mi} {L : Ml} {e : Nat} {Q : Kq} {x4 : Int32} {x5 : Int32} {r : Int32} (h :
    (if (I 58 0) = x5 then
     (if x5 = 0 then
      (if (L 70 0) = r.toInt64 then
       Wp 419 4917 [(0, .ref 0), (1, .ref 1), (2, .ref 58), (3, .ref 70), (4, .int x4)] [] (gE Lx) I L e Q
      else
       Q (.inl (some (.int (Int32.ofInt 0)))) (gE Lx) I L e)
     else
      Wp 419 4917 [(0, .ref 0), (1, .ref 1), (2, .ref 58), (3, .ref 70), (4, .int x4)] [] (gE Lx) I L e Q)
    else
     Q (.inl (some (.int (Int32.ofInt 0)))) (gE Lx) I L e)) :
    Wp 419 1446 [(0, .ref 0), (1, .ref 1), (2, .ref 58), (3, .ref 70), (4, .int x4), (5, .int x5)] [.int r] (gE Lx) I L e Q := by
  refine w_a f_419_1446 ?_
  refine w_a (ls := [(6, .int r), (0, .ref 0), (1, .ref 1), (2, .ref 58), (3, .ref 70), (4, .int x4), (5, .int x5)]) f_419_1448 ?_
  refine w_a f_419_1449 ?_
  refine w_a (ls := [(0, .ref 58)]) f_212_0 ?_
  refine w_a f_212_1 ?_
  refine w_a f_212_4 ?_
  refine w_a (ls := [(6, .int r), (0, .ref 0), (1, .ref 1), (2, .ref 58), (3, .ref 70), (4, .int x4), (5, .int x5)]) f_419_1452 ?_
  refine w_a f_419_1454 ?_
  refine i_m (fun h => ?_) (fun h => ?_) h
  · refine w_a f_419_1459 ?_
    refine w_a f_419_1461 ?_
    refine i_m (fun h => ?_) (fun h => ?_) h
    · refine w_a f_419_1464 ?_
      refine w_a f_419_1465 ?_
      refine w_a f_419_1466 ?_
      refine w_a f_419_1467 ?_
      refine w_a f_419_1469 ?_
      refine w_a f_419_1470 ?_
      refine i_m (fun h => ?_) (fun h => ?_) h
      · refine w_a f_419_1476 ?_
        exact w_n (ks := [0, 1, 2, 3, 4]) rfl h
      · refine w_a f_419_1474 ?_
        refine w_a f_419_1475 ?_
        exact h
    · refine w_a f_419_1476 ?_
      exact w_n (ks := [0, 1, 2, 3, 4]) rfl h
  · refine w_a f_419_1457 ?_
    refine w_a f_419_1458 ?_
    exact h
set_option maxRecDepth 10000 in
set_option maxHeartbeats 4000000 in
theorem s_419_1479 {Lx : Nat} {I : Mi} {L : Ml} {e : Nat} {Q : Kq} {x4 : Int32} (h :
    (inb (x4 + (Int32.ofInt 1)) Lx (
     (inb (x4 + (Int32.ofInt 2)) Lx (
      (if (I 0 ((x4 + (Int32.ofInt 2)).toNatClampNeg)) = 0 then
       Wp 382 0 [(0, .ref 1), (1, .int (I 0 ((x4 + (Int32.ofInt 1)).toNatClampNeg))), (2, .int (Int32.ofInt 0)), (3, .ref 70)] [] (gE Lx) I L e (kcp (Wp 419) 419 1501 0 [(0, .ref 0), (1, .ref 1), (2, .ref 58), (3, .ref 70), (4, .int x4)] 71 [] Q)
      else
       Wp 382 0 [(0, .ref 1), (1, .int (I 0 ((x4 + (Int32.ofInt 1)).toNatClampNeg))), (2, .int (Int32.ofInt 1)), (3, .ref 70)] [] (gE Lx) I L e (kcp (Wp 419) 419 1501 0 [(0, .ref 0), (1, .ref 1), (2, .ref 58), (3, .ref 70), (4, .int x4)] 71 [] Q)))
     False))
    False)) :
    Wp 419 1479 [(0, .ref 0), (1, .ref 1), (2, .ref 58), (3, .ref 70), (4, .int x4)] [] (gE Lx) I L e Q := by
  refine w_a f_419_1479 ?_
  refine w_a f_419_1480 ?_
  refine w_a f_419_1481 ?_
  refine w_a f_419_1483 ?_
  refine w_a f_419_1484 ?_
  refine w_a f_419_1485 ?_
  refine n_m (fun h => ?_) h
  refine w_a f_419_1486 ?_
  refine w_a f_419_1487 ?_
  refine w_a f_419_1489 ?_
  refine w_a f_419_1490 ?_
  refine w_a f_419_1491 ?_
  refine n_m (fun h => ?_) h
  refine w_a f_419_1492 ?_
  refine i_m (fun h => ?_) (fun h => ?_) h
  · refine w_a f_419_1499 ?_
    refine w_a f_419_1500 ?_
    exact w_c (ks := [0, 1, 2, 3, 4]) f_419_1501 rfl rfl h
  · refine w_a f_419_1495 ?_
    refine w_a f_419_1496 ?_
    refine w_a f_419_1500 ?_
    exact w_c (ks := [0, 1, 2, 3, 4]) f_419_1501 rfl rfl h
set_option maxRecDepth 10000 in
set_option maxHeartbeats 4000000 in
theorem s_419_1504 {Lx : Nat} {I : Mi} {L : Ml} {e : Nat} {Q : Kq} {x4 : Int32} {r : Int32} (h :
    (inb (x4 + (Int32.ofInt 1)) Lx (
     (inb (x4 + (Int32.ofInt 2)) Lx (
      (if (I 0 ((x4 + (Int32.ofInt 2)).toNatClampNeg)) = 0 then
       Wp 250 0 [(0, .ref 58), (1, .int (I 0 ((x4 + (Int32.ofInt 1)).toNatClampNeg))), (2, .int (Int32.ofInt 0))] [] (gE Lx) I L e (kcp (Wp 419) 419 1527 0 [(0, .ref 0), (1, .ref 1), (2, .ref 58), (3, .ref 70), (4, .int x4), (5, .int r)] 71 [] Q)
      else
       Wp 250 0 [(0, .ref 58), (1, .int (I 0 ((x4 + (Int32.ofInt 1)).toNatClampNeg))), (2, .int (Int32.ofInt 1))] [] (gE Lx) I L e (kcp (Wp 419) 419 1527 0 [(0, .ref 0), (1, .ref 1), (2, .ref 58), (3, .ref 70), (4, .int x4), (5, .int r)] 71 [] Q)))
     False))
    False)) :
    Wp 419 1504 [(0, .ref 0), (1, .ref 1), (2, .ref 58), (3, .ref 70), (4, .int x4)] [.int r] (gE Lx) I L e Q := by
  refine w_a f_419_1504 ?_
  refine w_a (ls := [(5, .int r), (0, .ref 0), (1, .ref 1), (2, .ref 58), (3, .ref 70), (4, .int x4)]) f_419_1506 ?_
  refine w_a f_419_1507 ?_
  refine w_a f_419_1508 ?_
  refine w_a f_419_1510 ?_
  refine w_a f_419_1511 ?_
  refine w_a f_419_1512 ?_
  refine n_m (fun h => ?_) h
  refine w_a f_419_1513 ?_
  refine w_a f_419_1514 ?_
  refine w_a f_419_1516 ?_
  refine w_a f_419_1517 ?_
  refine w_a f_419_1518 ?_
  refine n_m (fun h => ?_) h
  refine w_a f_419_1519 ?_
  refine i_m (fun h => ?_) (fun h => ?_) h
  · refine w_a f_419_1526 ?_
    exact w_c (ks := [0, 1, 2, 3, 4, 5]) f_419_1527 rfl rfl h
  · refine w_a f_419_1522 ?_
    refine w_a f_419_1523 ?_
    exact w_c (ks := [0, 1, 2, 3, 4, 5]) f_419_1527 rfl rfl h
set_option maxRecDepth 10000 in
set_option maxHeartbeats 4000000 in
theorem s_419_1530 {Lx : Nat} {I : Mi} {L : Ml} {e : Nat} {Q : Kq} {x4 : Int32} {x5 : Int32} {r : Int32} (h :
    (if (I 58 0) = x5 then
     (if x5 = 0 then
      (if (L 70 0) = r.toInt64 then
       Wp 419 4917 [(0, .ref 0), (1, .ref 1), (2, .ref 58), (3, .ref 70), (4, .int x4)] [] (gE Lx) I L e Q
      else
       Q (.inl (some (.int (Int32.ofInt 0)))) (gE Lx) I L e)
     else
      Wp 419 4917 [(0, .ref 0), (1, .ref 1), (2, .ref 58), (3, .ref 70), (4, .int x4)] [] (gE Lx) I L e Q)
    else
     Q (.inl (some (.int (Int32.ofInt 0)))) (gE Lx) I L e)) :
    Wp 419 1530 [(0, .ref 0), (1, .ref 1), (2, .ref 58), (3, .ref 70), (4, .int x4), (5, .int x5)] [.int r] (gE Lx) I L e Q := by
  refine w_a f_419_1530 ?_
  refine w_a (ls := [(6, .int r), (0, .ref 0), (1, .ref 1), (2, .ref 58), (3, .ref 70), (4, .int x4), (5, .int x5)]) f_419_1532 ?_
  refine w_a f_419_1533 ?_
  refine w_a (ls := [(0, .ref 58)]) f_212_0 ?_
  refine w_a f_212_1 ?_
  refine w_a f_212_4 ?_
  refine w_a (ls := [(6, .int r), (0, .ref 0), (1, .ref 1), (2, .ref 58), (3, .ref 70), (4, .int x4), (5, .int x5)]) f_419_1536 ?_
  refine w_a f_419_1538 ?_
  refine i_m (fun h => ?_) (fun h => ?_) h
  · refine w_a f_419_1543 ?_
    refine w_a f_419_1545 ?_
    refine i_m (fun h => ?_) (fun h => ?_) h
    · refine w_a f_419_1548 ?_
      refine w_a f_419_1549 ?_
      refine w_a f_419_1550 ?_
      refine w_a f_419_1551 ?_
      refine w_a f_419_1553 ?_
      refine w_a f_419_1554 ?_
      refine i_m (fun h => ?_) (fun h => ?_) h
      · refine w_a f_419_1560 ?_
        exact w_n (ks := [0, 1, 2, 3, 4]) rfl h
      · refine w_a f_419_1558 ?_
        refine w_a f_419_1559 ?_
        exact h
    · refine w_a f_419_1560 ?_
      exact w_n (ks := [0, 1, 2, 3, 4]) rfl h
  · refine w_a f_419_1541 ?_
    refine w_a f_419_1542 ?_
    exact h
set_option maxRecDepth 10000 in
set_option maxHeartbeats 4000000 in
theorem s_419_1563 {Lx : Nat} {I : Mi} {L : Ml} {e : Nat} {Q : Kq} {x4 : Int32} (h :
    (inb (x4 + (Int32.ofInt 1)) Lx (
     (inb (x4 + (Int32.ofInt 2)) Lx (
      (if (I 0 ((x4 + (Int32.ofInt 2)).toNatClampNeg)) = 0 then
       (inb (x4 + (Int32.ofInt 3)) Lx (
        Wp 383 0 [(0, .ref 1), (1, .int (I 0 ((x4 + (Int32.ofInt 1)).toNatClampNeg))), (2, .int (Int32.ofInt 0)), (3, .int (I 0 ((x4 + (Int32.ofInt 3)).toNatClampNeg))), (4, .ref 70)] [] (gE Lx) I L e (kcp (Wp 419) 419 1591 0 [(0, .ref 0), (1, .ref 1), (2, .ref 58), (3, .ref 70), (4, .int x4)] 71 [] Q))
       False)
      else
       (inb (x4 + (Int32.ofInt 3)) Lx (
        Wp 383 0 [(0, .ref 1), (1, .int (I 0 ((x4 + (Int32.ofInt 1)).toNatClampNeg))), (2, .int (Int32.ofInt 1)), (3, .int (I 0 ((x4 + (Int32.ofInt 3)).toNatClampNeg))), (4, .ref 70)] [] (gE Lx) I L e (kcp (Wp 419) 419 1591 0 [(0, .ref 0), (1, .ref 1), (2, .ref 58), (3, .ref 70), (4, .int x4)] 71 [] Q))
       False)))
     False))
    False)) :
    Wp 419 1563 [(0, .ref 0), (1, .ref 1), (2, .ref 58), (3, .ref 70), (4, .int x4)] [] (gE Lx) I L e Q := by
  refine w_a f_419_1563 ?_
  refine w_a f_419_1564 ?_
  refine w_a f_419_1565 ?_
  refine w_a f_419_1567 ?_
  refine w_a f_419_1568 ?_
  refine w_a f_419_1569 ?_
  refine n_m (fun h => ?_) h
  refine w_a f_419_1570 ?_
  refine w_a f_419_1571 ?_
  refine w_a f_419_1573 ?_
  refine w_a f_419_1574 ?_
  refine w_a f_419_1575 ?_
  refine n_m (fun h => ?_) h
  refine w_a f_419_1576 ?_
  refine i_m (fun h => ?_) (fun h => ?_) h
  · refine w_a f_419_1583 ?_
    refine w_a f_419_1584 ?_
    refine w_a f_419_1585 ?_
    refine w_a f_419_1587 ?_
    refine w_a f_419_1588 ?_
    refine w_a f_419_1589 ?_
    refine n_m (fun h => ?_) h
    refine w_a f_419_1590 ?_
    exact w_c (ks := [0, 1, 2, 3, 4]) f_419_1591 rfl rfl h
  · refine w_a f_419_1579 ?_
    refine w_a f_419_1580 ?_
    refine w_a f_419_1584 ?_
    refine w_a f_419_1585 ?_
    refine w_a f_419_1587 ?_
    refine w_a f_419_1588 ?_
    refine w_a f_419_1589 ?_
    refine n_m (fun h => ?_) h
    refine w_a f_419_1590 ?_
    exact w_c (ks := [0, 1, 2, 3, 4]) f_419_1591 rfl rfl h
set_option maxRecDepth 10000 in
set_option maxHeartbeats 4000000 in
theorem s_419_1594 {Lx : Nat} {I : Mi} {L : Ml} {e : Nat} {Q : Kq} {x4 : Int32} {r : Int32} (h :
    (inb (x4 + (Int32.ofInt 1)) Lx (
     (inb (x4 + (Int32.ofInt 2)) Lx (
      (if (I 0 ((x4 + (Int32.ofInt 2)).toNatClampNeg)) = 0 then
       (inb (x4 + (Int32.ofInt 3)) Lx (
        Wp 255 0 [(0, .ref 58), (1, .int (I 0 ((x4 + (Int32.ofInt 1)).toNatClampNeg))), (2, .int (Int32.ofInt 0)), (3, .int (I 0 ((x4 + (Int32.ofInt 3)).toNatClampNeg)))] [] (gE Lx) I L e (kcp (Wp 419) 419 1623 0 [(0, .ref 0), (1, .ref 1), (2, .ref 58), (3, .ref 70), (4, .int x4), (5, .int r)] 71 [] Q))
       False)
      else
       (inb (x4 + (Int32.ofInt 3)) Lx (
        Wp 255 0 [(0, .ref 58), (1, .int (I 0 ((x4 + (Int32.ofInt 1)).toNatClampNeg))), (2, .int (Int32.ofInt 1)), (3, .int (I 0 ((x4 + (Int32.ofInt 3)).toNatClampNeg)))] [] (gE Lx) I L e (kcp (Wp 419) 419 1623 0 [(0, .ref 0), (1, .ref 1), (2, .ref 58), (3, .ref 70), (4, .int x4), (5, .int r)] 71 [] Q))
       False)))
     False))
    False)) :
    Wp 419 1594 [(0, .ref 0), (1, .ref 1), (2, .ref 58), (3, .ref 70), (4, .int x4)] [.int r] (gE Lx) I L e Q := by
  refine w_a f_419_1594 ?_
  refine w_a (ls := [(5, .int r), (0, .ref 0), (1, .ref 1), (2, .ref 58), (3, .ref 70), (4, .int x4)]) f_419_1596 ?_
  refine w_a f_419_1597 ?_
  refine w_a f_419_1598 ?_
  refine w_a f_419_1600 ?_
  refine w_a f_419_1601 ?_
  refine w_a f_419_1602 ?_
  refine n_m (fun h => ?_) h
  refine w_a f_419_1603 ?_
  refine w_a f_419_1604 ?_
  refine w_a f_419_1606 ?_
  refine w_a f_419_1607 ?_
  refine w_a f_419_1608 ?_
  refine n_m (fun h => ?_) h
  refine w_a f_419_1609 ?_
  refine i_m (fun h => ?_) (fun h => ?_) h
  · refine w_a f_419_1616 ?_
    refine w_a f_419_1617 ?_
    refine w_a f_419_1618 ?_
    refine w_a f_419_1620 ?_
    refine w_a f_419_1621 ?_
    refine w_a f_419_1622 ?_
    refine n_m (fun h => ?_) h
    exact w_c (ks := [0, 1, 2, 3, 4, 5]) f_419_1623 rfl rfl h
  · refine w_a f_419_1612 ?_
    refine w_a f_419_1613 ?_
    refine w_a f_419_1617 ?_
    refine w_a f_419_1618 ?_
    refine w_a f_419_1620 ?_
    refine w_a f_419_1621 ?_
    refine w_a f_419_1622 ?_
    refine n_m (fun h => ?_) h
    exact w_c (ks := [0, 1, 2, 3, 4, 5]) f_419_1623 rfl rfl h
set_option maxRecDepth 10000 in
set_option maxHeartbeats 4000000 in
theorem s_419_1626 {Lx : Nat} {I : Mi} {L : Ml} {e : Nat} {Q : Kq} {x4 : Int32} {x5 : Int32} {r : Int32} (h :
    (if (I 58 0) = x5 then
     (if x5 = 0 then
      (if r = 0 then
       (if (L 70 0) = (Int64.ofInt 0) then
        Wp 419 4917 [(0, .ref 0), (1, .ref 1), (2, .ref 58), (3, .ref 70), (4, .int x4)] [] (gE Lx) I L e Q
       else
        Q (.inl (some (.int (Int32.ofInt 0)))) (gE Lx) I L e)
      else
       (if (L 70 0) = (Int64.ofInt 1) then
        Wp 419 4917 [(0, .ref 0), (1, .ref 1), (2, .ref 58), (3, .ref 70), (4, .int x4)] [] (gE Lx) I L e Q
       else
        Q (.inl (some (.int (Int32.ofInt 0)))) (gE Lx) I L e))
     else
      Wp 419 4917 [(0, .ref 0), (1, .ref 1), (2, .ref 58), (3, .ref 70), (4, .int x4)] [] (gE Lx) I L e Q)
    else
     Q (.inl (some (.int (Int32.ofInt 0)))) (gE Lx) I L e)) :
    Wp 419 1626 [(0, .ref 0), (1, .ref 1), (2, .ref 58), (3, .ref 70), (4, .int x4), (5, .int x5)] [.int r] (gE Lx) I L e Q := by
  refine w_a f_419_1626 ?_
  refine w_a (ls := [(6, .int r), (0, .ref 0), (1, .ref 1), (2, .ref 58), (3, .ref 70), (4, .int x4), (5, .int x5)]) f_419_1628 ?_
  refine w_a f_419_1629 ?_
  refine w_a (ls := [(0, .ref 58)]) f_212_0 ?_
  refine w_a f_212_1 ?_
  refine w_a f_212_4 ?_
  refine w_a (ls := [(6, .int r), (0, .ref 0), (1, .ref 1), (2, .ref 58), (3, .ref 70), (4, .int x4), (5, .int x5)]) f_419_1632 ?_
  refine w_a f_419_1634 ?_
  refine i_m (fun h => ?_) (fun h => ?_) h
  · refine w_a f_419_1639 ?_
    refine w_a f_419_1641 ?_
    refine i_m (fun h => ?_) (fun h => ?_) h
    · refine w_a f_419_1644 ?_
      refine w_a f_419_1645 ?_
      refine w_a f_419_1646 ?_
      refine w_a f_419_1647 ?_
      refine w_a f_419_1649 ?_
      refine i_m (fun h => ?_) (fun h => ?_) h
      · refine w_a f_419_1656 ?_
        refine w_a f_419_1657 ?_
        refine i_m (fun h => ?_) (fun h => ?_) h
        · refine w_a f_419_1663 ?_
          exact w_n (ks := [0, 1, 2, 3, 4]) rfl h
        · refine w_a f_419_1661 ?_
          refine w_a f_419_1662 ?_
          exact h
      · refine w_a f_419_1652 ?_
        refine w_a f_419_1653 ?_
        refine w_a f_419_1657 ?_
        refine i_m (fun h => ?_) (fun h => ?_) h
        · refine w_a f_419_1663 ?_
          exact w_n (ks := [0, 1, 2, 3, 4]) rfl h
        · refine w_a f_419_1661 ?_
          refine w_a f_419_1662 ?_
          exact h
    · refine w_a f_419_1663 ?_
      exact w_n (ks := [0, 1, 2, 3, 4]) rfl h
  · refine w_a f_419_1637 ?_
    refine w_a f_419_1638 ?_
    exact h
set_option maxRecDepth 10000 in
set_option maxHeartbeats 4000000 in
theorem s_419_1666 {Lx : Nat} {I : Mi} {L : Ml} {e : Nat} {Q : Kq} {x4 : Int32} (h :
    (inb (x4 + (Int32.ofInt 1)) Lx (
     (inb (x4 + (Int32.ofInt 2)) Lx (
      (if (I 0 ((x4 + (Int32.ofInt 2)).toNatClampNeg)) = 0 then
       (inb (x4 + (Int32.ofInt 3)) Lx (
        (inb (x4 + (Int32.ofInt 4)) Lx (
         (if (I 0 ((x4 + (Int32.ofInt 4)).toNatClampNeg)) = 0 then
          Wp 384 0 [(0, .ref 1), (1, .int (I 0 ((x4 + (Int32.ofInt 1)).toNatClampNeg))), (2, .int (Int32.ofInt 0)), (3, .int (I 0 ((x4 + (Int32.ofInt 3)).toNatClampNeg))), (4, .int (Int32.ofInt 0)), (5, .ref 70)] [] (gE Lx) I L e (kcp (Wp 419) 419 1708 0 [(0, .ref 0), (1, .ref 1), (2, .ref 58), (3, .ref 70), (4, .int x4)] 71 [] Q)
         else
          Wp 384 0 [(0, .ref 1), (1, .int (I 0 ((x4 + (Int32.ofInt 1)).toNatClampNeg))), (2, .int (Int32.ofInt 0)), (3, .int (I 0 ((x4 + (Int32.ofInt 3)).toNatClampNeg))), (4, .int (Int32.ofInt 1)), (5, .ref 70)] [] (gE Lx) I L e (kcp (Wp 419) 419 1708 0 [(0, .ref 0), (1, .ref 1), (2, .ref 58), (3, .ref 70), (4, .int x4)] 71 [] Q)))
        False))
       False)
      else
       (inb (x4 + (Int32.ofInt 3)) Lx (
        (inb (x4 + (Int32.ofInt 4)) Lx (
         (if (I 0 ((x4 + (Int32.ofInt 4)).toNatClampNeg)) = 0 then
          Wp 384 0 [(0, .ref 1), (1, .int (I 0 ((x4 + (Int32.ofInt 1)).toNatClampNeg))), (2, .int (Int32.ofInt 1)), (3, .int (I 0 ((x4 + (Int32.ofInt 3)).toNatClampNeg))), (4, .int (Int32.ofInt 0)), (5, .ref 70)] [] (gE Lx) I L e (kcp (Wp 419) 419 1708 0 [(0, .ref 0), (1, .ref 1), (2, .ref 58), (3, .ref 70), (4, .int x4)] 71 [] Q)
         else
          Wp 384 0 [(0, .ref 1), (1, .int (I 0 ((x4 + (Int32.ofInt 1)).toNatClampNeg))), (2, .int (Int32.ofInt 1)), (3, .int (I 0 ((x4 + (Int32.ofInt 3)).toNatClampNeg))), (4, .int (Int32.ofInt 1)), (5, .ref 70)] [] (gE Lx) I L e (kcp (Wp 419) 419 1708 0 [(0, .ref 0), (1, .ref 1), (2, .ref 58), (3, .ref 70), (4, .int x4)] 71 [] Q)))
        False))
       False)))
     False))
    False)) :
    Wp 419 1666 [(0, .ref 0), (1, .ref 1), (2, .ref 58), (3, .ref 70), (4, .int x4)] [] (gE Lx) I L e Q := by
  refine w_a f_419_1666 ?_
  refine w_a f_419_1667 ?_
  refine w_a f_419_1668 ?_
  refine w_a f_419_1670 ?_
  refine w_a f_419_1671 ?_
  refine w_a f_419_1672 ?_
  refine n_m (fun h => ?_) h
  refine w_a f_419_1673 ?_
  refine w_a f_419_1674 ?_
  refine w_a f_419_1676 ?_
  refine w_a f_419_1677 ?_
  refine w_a f_419_1678 ?_
  refine n_m (fun h => ?_) h
  refine w_a f_419_1679 ?_
  refine i_m (fun h => ?_) (fun h => ?_) h
  · refine w_a f_419_1686 ?_
    refine w_a f_419_1687 ?_
    refine w_a f_419_1688 ?_
    refine w_a f_419_1690 ?_
    refine w_a f_419_1691 ?_
    refine w_a f_419_1692 ?_
    refine n_m (fun h => ?_) h
    refine w_a f_419_1693 ?_
    refine w_a f_419_1694 ?_
    refine w_a f_419_1696 ?_
    refine w_a f_419_1697 ?_
    refine w_a f_419_1698 ?_
    refine n_m (fun h => ?_) h
    refine w_a f_419_1699 ?_
    refine i_m (fun h => ?_) (fun h => ?_) h
    · refine w_a f_419_1706 ?_
      refine w_a f_419_1707 ?_
      exact w_c (ks := [0, 1, 2, 3, 4]) f_419_1708 rfl rfl h
    · refine w_a f_419_1702 ?_
      refine w_a f_419_1703 ?_
      refine w_a f_419_1707 ?_
      exact w_c (ks := [0, 1, 2, 3, 4]) f_419_1708 rfl rfl h
  · refine w_a f_419_1682 ?_
    refine w_a f_419_1683 ?_
    refine w_a f_419_1687 ?_
    refine w_a f_419_1688 ?_
    refine w_a f_419_1690 ?_
    refine w_a f_419_1691 ?_
    refine w_a f_419_1692 ?_
    refine n_m (fun h => ?_) h
    refine w_a f_419_1693 ?_
    refine w_a f_419_1694 ?_
    refine w_a f_419_1696 ?_
    refine w_a f_419_1697 ?_
    refine w_a f_419_1698 ?_
    refine n_m (fun h => ?_) h
    refine w_a f_419_1699 ?_
    refine i_m (fun h => ?_) (fun h => ?_) h
    · refine w_a f_419_1706 ?_
      refine w_a f_419_1707 ?_
      exact w_c (ks := [0, 1, 2, 3, 4]) f_419_1708 rfl rfl h
    · refine w_a f_419_1702 ?_
      refine w_a f_419_1703 ?_
      refine w_a f_419_1707 ?_
      exact w_c (ks := [0, 1, 2, 3, 4]) f_419_1708 rfl rfl h
set_option maxRecDepth 10000 in
set_option maxHeartbeats 4000000 in
theorem s_419_1711 {Lx : Nat} {I : Mi} {L : Ml} {e : Nat} {Q : Kq} {x4 : Int32} {r : Int32} (h :
    (inb (x4 + (Int32.ofInt 1)) Lx (
     (inb (x4 + (Int32.ofInt 2)) Lx (
      (if (I 0 ((x4 + (Int32.ofInt 2)).toNatClampNeg)) = 0 then
       (inb (x4 + (Int32.ofInt 3)) Lx (
        (inb (x4 + (Int32.ofInt 4)) Lx (
         (if (I 0 ((x4 + (Int32.ofInt 4)).toNatClampNeg)) = 0 then
          Wp 258 0 [(0, .ref 58), (1, .int (I 0 ((x4 + (Int32.ofInt 1)).toNatClampNeg))), (2, .int (Int32.ofInt 0)), (3, .int (I 0 ((x4 + (Int32.ofInt 3)).toNatClampNeg))), (4, .int (Int32.ofInt 0))] [] (gE Lx) I L e (kcp (Wp 419) 419 1754 0 [(0, .ref 0), (1, .ref 1), (2, .ref 58), (3, .ref 70), (4, .int x4), (5, .int r)] 71 [] Q)
         else
          Wp 258 0 [(0, .ref 58), (1, .int (I 0 ((x4 + (Int32.ofInt 1)).toNatClampNeg))), (2, .int (Int32.ofInt 0)), (3, .int (I 0 ((x4 + (Int32.ofInt 3)).toNatClampNeg))), (4, .int (Int32.ofInt 1))] [] (gE Lx) I L e (kcp (Wp 419) 419 1754 0 [(0, .ref 0), (1, .ref 1), (2, .ref 58), (3, .ref 70), (4, .int x4), (5, .int r)] 71 [] Q)))
        False))
       False)
      else
       (inb (x4 + (Int32.ofInt 3)) Lx (
        (inb (x4 + (Int32.ofInt 4)) Lx (
         (if (I 0 ((x4 + (Int32.ofInt 4)).toNatClampNeg)) = 0 then
          Wp 258 0 [(0, .ref 58), (1, .int (I 0 ((x4 + (Int32.ofInt 1)).toNatClampNeg))), (2, .int (Int32.ofInt 1)), (3, .int (I 0 ((x4 + (Int32.ofInt 3)).toNatClampNeg))), (4, .int (Int32.ofInt 0))] [] (gE Lx) I L e (kcp (Wp 419) 419 1754 0 [(0, .ref 0), (1, .ref 1), (2, .ref 58), (3, .ref 70), (4, .int x4), (5, .int r)] 71 [] Q)
         else
          Wp 258 0 [(0, .ref 58), (1, .int (I 0 ((x4 + (Int32.ofInt 1)).toNatClampNeg))), (2, .int (Int32.ofInt 1)), (3, .int (I 0 ((x4 + (Int32.ofInt 3)).toNatClampNeg))), (4, .int (Int32.ofInt 1))] [] (gE Lx) I L e (kcp (Wp 419) 419 1754 0 [(0, .ref 0), (1, .ref 1), (2, .ref 58), (3, .ref 70), (4, .int x4), (5, .int r)] 71 [] Q)))
        False))
       False)))
     False))
    False)) :
    Wp 419 1711 [(0, .ref 0), (1, .ref 1), (2, .ref 58), (3, .ref 70), (4, .int x4)] [.int r] (gE Lx) I L e Q := by
  refine w_a f_419_1711 ?_
  refine w_a (ls := [(5, .int r), (0, .ref 0), (1, .ref 1), (2, .ref 58), (3, .ref 70), (4, .int x4)]) f_419_1713 ?_
  refine w_a f_419_1714 ?_
  refine w_a f_419_1715 ?_
  refine w_a f_419_1717 ?_
  refine w_a f_419_1718 ?_
  refine w_a f_419_1719 ?_
  refine n_m (fun h => ?_) h
  refine w_a f_419_1720 ?_
  refine w_a f_419_1721 ?_
  refine w_a f_419_1723 ?_
  refine w_a f_419_1724 ?_
  refine w_a f_419_1725 ?_
  refine n_m (fun h => ?_) h
  refine w_a f_419_1726 ?_
  refine i_m (fun h => ?_) (fun h => ?_) h
  · refine w_a f_419_1733 ?_
    refine w_a f_419_1734 ?_
    refine w_a f_419_1735 ?_
    refine w_a f_419_1737 ?_
    refine w_a f_419_1738 ?_
    refine w_a f_419_1739 ?_
    refine n_m (fun h => ?_) h
    refine w_a f_419_1740 ?_
    refine w_a f_419_1741 ?_
    refine w_a f_419_1743 ?_
    refine w_a f_419_1744 ?_
    refine w_a f_419_1745 ?_
    refine n_m (fun h => ?_) h
    refine w_a f_419_1746 ?_
    refine i_m (fun h => ?_) (fun h => ?_) h
    · refine w_a f_419_1753 ?_
      exact w_c (ks := [0, 1, 2, 3, 4, 5]) f_419_1754 rfl rfl h
    · refine w_a f_419_1749 ?_
      refine w_a f_419_1750 ?_
      exact w_c (ks := [0, 1, 2, 3, 4, 5]) f_419_1754 rfl rfl h
  · refine w_a f_419_1729 ?_
    refine w_a f_419_1730 ?_
    refine w_a f_419_1734 ?_
    refine w_a f_419_1735 ?_
    refine w_a f_419_1737 ?_
    refine w_a f_419_1738 ?_
    refine w_a f_419_1739 ?_
    refine n_m (fun h => ?_) h
    refine w_a f_419_1740 ?_
    refine w_a f_419_1741 ?_
    refine w_a f_419_1743 ?_
    refine w_a f_419_1744 ?_
    refine w_a f_419_1745 ?_
    refine n_m (fun h => ?_) h
    refine w_a f_419_1746 ?_
    refine i_m (fun h => ?_) (fun h => ?_) h
    · refine w_a f_419_1753 ?_
      exact w_c (ks := [0, 1, 2, 3, 4, 5]) f_419_1754 rfl rfl h
    · refine w_a f_419_1749 ?_
      refine w_a f_419_1750 ?_
      exact w_c (ks := [0, 1, 2, 3, 4, 5]) f_419_1754 rfl rfl h
set_option maxRecDepth 10000 in
set_option maxHeartbeats 4000000 in
theorem s_419_1757 {Lx : Nat} {I : Mi} {L : Ml} {e : Nat} {Q : Kq} {x4 : Int32} {x5 : Int32} {rl : Int64} (h :
    (if (I 58 0) = x5 then
     (if x5 = 0 then
      (if (L 70 0) = rl then
       Wp 419 4917 [(0, .ref 0), (1, .ref 1), (2, .ref 58), (3, .ref 70), (4, .int x4)] [] (gE Lx) I L e Q
      else
       Q (.inl (some (.int (Int32.ofInt 0)))) (gE Lx) I L e)
     else
      Wp 419 4917 [(0, .ref 0), (1, .ref 1), (2, .ref 58), (3, .ref 70), (4, .int x4)] [] (gE Lx) I L e Q)
    else
     Q (.inl (some (.int (Int32.ofInt 0)))) (gE Lx) I L e)) :
    Wp 419 1757 [(0, .ref 0), (1, .ref 1), (2, .ref 58), (3, .ref 70), (4, .int x4), (5, .int x5)] [.long rl] (gE Lx) I L e Q := by
  refine w_a f_419_1757 ?_
  refine w_a (ls := [(6, .long rl), (0, .ref 0), (1, .ref 1), (2, .ref 58), (3, .ref 70), (4, .int x4), (5, .int x5)]) f_419_1759 ?_
  refine w_a f_419_1760 ?_
  refine w_a (ls := [(0, .ref 58)]) f_212_0 ?_
  refine w_a f_212_1 ?_
  refine w_a f_212_4 ?_
  refine w_a (ls := [(6, .long rl), (0, .ref 0), (1, .ref 1), (2, .ref 58), (3, .ref 70), (4, .int x4), (5, .int x5)]) f_419_1763 ?_
  refine w_a f_419_1765 ?_
  refine i_m (fun h => ?_) (fun h => ?_) h
  · refine w_a f_419_1770 ?_
    refine w_a f_419_1772 ?_
    refine i_m (fun h => ?_) (fun h => ?_) h
    · refine w_a f_419_1775 ?_
      refine w_a f_419_1776 ?_
      refine w_a f_419_1777 ?_
      refine w_a f_419_1778 ?_
      refine w_a f_419_1780 ?_
      refine i_m (fun h => ?_) (fun h => ?_) h
      · refine w_a f_419_1786 ?_
        exact w_n (ks := [0, 1, 2, 3, 4]) rfl h
      · refine w_a f_419_1784 ?_
        refine w_a f_419_1785 ?_
        exact h
    · refine w_a f_419_1786 ?_
      exact w_n (ks := [0, 1, 2, 3, 4]) rfl h
  · refine w_a f_419_1768 ?_
    refine w_a f_419_1769 ?_
    exact h
set_option maxRecDepth 10000 in
set_option maxHeartbeats 4000000 in
theorem s_419_1789 {Lx : Nat} {I : Mi} {L : Ml} {e : Nat} {Q : Kq} {x4 : Int32} (h :
    (inb (x4 + (Int32.ofInt 1)) Lx (
     (inb (x4 + (Int32.ofInt 2)) Lx (
      (if (I 0 ((x4 + (Int32.ofInt 2)).toNatClampNeg)) = 0 then
       (inb (x4 + (Int32.ofInt 3)) Lx (
        Wp 385 0 [(0, .ref 1), (1, .int (I 0 ((x4 + (Int32.ofInt 1)).toNatClampNeg))), (2, .int (Int32.ofInt 0)), (3, .int (I 0 ((x4 + (Int32.ofInt 3)).toNatClampNeg))), (4, .ref 70)] [] (gE Lx) I L e (kcp (Wp 419) 419 1817 0 [(0, .ref 0), (1, .ref 1), (2, .ref 58), (3, .ref 70), (4, .int x4)] 71 [] Q))
       False)
      else
       (inb (x4 + (Int32.ofInt 3)) Lx (
        Wp 385 0 [(0, .ref 1), (1, .int (I 0 ((x4 + (Int32.ofInt 1)).toNatClampNeg))), (2, .int (Int32.ofInt 1)), (3, .int (I 0 ((x4 + (Int32.ofInt 3)).toNatClampNeg))), (4, .ref 70)] [] (gE Lx) I L e (kcp (Wp 419) 419 1817 0 [(0, .ref 0), (1, .ref 1), (2, .ref 58), (3, .ref 70), (4, .int x4)] 71 [] Q))
       False)))
     False))
    False)) :
    Wp 419 1789 [(0, .ref 0), (1, .ref 1), (2, .ref 58), (3, .ref 70), (4, .int x4)] [] (gE Lx) I L e Q := by
  refine w_a f_419_1789 ?_
  refine w_a f_419_1790 ?_
  refine w_a f_419_1791 ?_
  refine w_a f_419_1793 ?_
  refine w_a f_419_1794 ?_
  refine w_a f_419_1795 ?_
  refine n_m (fun h => ?_) h
  refine w_a f_419_1796 ?_
  refine w_a f_419_1797 ?_
  refine w_a f_419_1799 ?_
  refine w_a f_419_1800 ?_
  refine w_a f_419_1801 ?_
  refine n_m (fun h => ?_) h
  refine w_a f_419_1802 ?_
  refine i_m (fun h => ?_) (fun h => ?_) h
  · refine w_a f_419_1809 ?_
    refine w_a f_419_1810 ?_
    refine w_a f_419_1811 ?_
    refine w_a f_419_1813 ?_
    refine w_a f_419_1814 ?_
    refine w_a f_419_1815 ?_
    refine n_m (fun h => ?_) h
    refine w_a f_419_1816 ?_
    exact w_c (ks := [0, 1, 2, 3, 4]) f_419_1817 rfl rfl h
  · refine w_a f_419_1805 ?_
    refine w_a f_419_1806 ?_
    refine w_a f_419_1810 ?_
    refine w_a f_419_1811 ?_
    refine w_a f_419_1813 ?_
    refine w_a f_419_1814 ?_
    refine w_a f_419_1815 ?_
    refine n_m (fun h => ?_) h
    refine w_a f_419_1816 ?_
    exact w_c (ks := [0, 1, 2, 3, 4]) f_419_1817 rfl rfl h
set_option maxRecDepth 10000 in
set_option maxHeartbeats 4000000 in
theorem s_419_1820 {Lx : Nat} {I : Mi} {L : Ml} {e : Nat} {Q : Kq} {x4 : Int32} {r : Int32} (h :
    (inb (x4 + (Int32.ofInt 1)) Lx (
     (inb (x4 + (Int32.ofInt 2)) Lx (
      (if (I 0 ((x4 + (Int32.ofInt 2)).toNatClampNeg)) = 0 then
       (inb (x4 + (Int32.ofInt 3)) Lx (
        Wp 266 0 [(0, .ref 58), (1, .int (I 0 ((x4 + (Int32.ofInt 1)).toNatClampNeg))), (2, .int (Int32.ofInt 0)), (3, .int (I 0 ((x4 + (Int32.ofInt 3)).toNatClampNeg)))] [] (gE Lx) I L e (kcp (Wp 419) 419 1849 0 [(0, .ref 0), (1, .ref 1), (2, .ref 58), (3, .ref 70), (4, .int x4), (5, .int r)] 71 [] Q))
       False)
      else
       (inb (x4 + (Int32.ofInt 3)) Lx (
        Wp 266 0 [(0, .ref 58), (1, .int (I 0 ((x4 + (Int32.ofInt 1)).toNatClampNeg))), (2, .int (Int32.ofInt 1)), (3, .int (I 0 ((x4 + (Int32.ofInt 3)).toNatClampNeg)))] [] (gE Lx) I L e (kcp (Wp 419) 419 1849 0 [(0, .ref 0), (1, .ref 1), (2, .ref 58), (3, .ref 70), (4, .int x4), (5, .int r)] 71 [] Q))
       False)))
     False))
    False)) :
    Wp 419 1820 [(0, .ref 0), (1, .ref 1), (2, .ref 58), (3, .ref 70), (4, .int x4)] [.int r] (gE Lx) I L e Q := by
  refine w_a f_419_1820 ?_
  refine w_a (ls := [(5, .int r), (0, .ref 0), (1, .ref 1), (2, .ref 58), (3, .ref 70), (4, .int x4)]) f_419_1822 ?_
  refine w_a f_419_1823 ?_
  refine w_a f_419_1824 ?_
  refine w_a f_419_1826 ?_
  refine w_a f_419_1827 ?_
  refine w_a f_419_1828 ?_
  refine n_m (fun h => ?_) h
  refine w_a f_419_1829 ?_
  refine w_a f_419_1830 ?_
  refine w_a f_419_1832 ?_
  refine w_a f_419_1833 ?_
  refine w_a f_419_1834 ?_
  refine n_m (fun h => ?_) h
  refine w_a f_419_1835 ?_
  refine i_m (fun h => ?_) (fun h => ?_) h
  · refine w_a f_419_1842 ?_
    refine w_a f_419_1843 ?_
    refine w_a f_419_1844 ?_
    refine w_a f_419_1846 ?_
    refine w_a f_419_1847 ?_
    refine w_a f_419_1848 ?_
    refine n_m (fun h => ?_) h
    exact w_c (ks := [0, 1, 2, 3, 4, 5]) f_419_1849 rfl rfl h
  · refine w_a f_419_1838 ?_
    refine w_a f_419_1839 ?_
    refine w_a f_419_1843 ?_
    refine w_a f_419_1844 ?_
    refine w_a f_419_1846 ?_
    refine w_a f_419_1847 ?_
    refine w_a f_419_1848 ?_
    refine n_m (fun h => ?_) h
    exact w_c (ks := [0, 1, 2, 3, 4, 5]) f_419_1849 rfl rfl h
set_option maxRecDepth 10000 in
set_option maxHeartbeats 4000000 in
theorem s_419_1852 {Lx : Nat} {I : Mi} {L : Ml} {e : Nat} {Q : Kq} {x4 : Int32} {x5 : Int32} {rl : Int64} (h :
    (if (I 58 0) = x5 then
     (if x5 = 0 then
      (if (L 70 0) = rl then
       Wp 419 4917 [(0, .ref 0), (1, .ref 1), (2, .ref 58), (3, .ref 70), (4, .int x4)] [] (gE Lx) I L e Q
      else
       Q (.inl (some (.int (Int32.ofInt 0)))) (gE Lx) I L e)
     else
      Wp 419 4917 [(0, .ref 0), (1, .ref 1), (2, .ref 58), (3, .ref 70), (4, .int x4)] [] (gE Lx) I L e Q)
    else
     Q (.inl (some (.int (Int32.ofInt 0)))) (gE Lx) I L e)) :
    Wp 419 1852 [(0, .ref 0), (1, .ref 1), (2, .ref 58), (3, .ref 70), (4, .int x4), (5, .int x5)] [.long rl] (gE Lx) I L e Q := by
  refine w_a f_419_1852 ?_
  refine w_a (ls := [(6, .long rl), (0, .ref 0), (1, .ref 1), (2, .ref 58), (3, .ref 70), (4, .int x4), (5, .int x5)]) f_419_1854 ?_
  refine w_a f_419_1855 ?_
  refine w_a (ls := [(0, .ref 58)]) f_212_0 ?_
  refine w_a f_212_1 ?_
  refine w_a f_212_4 ?_
  refine w_a (ls := [(6, .long rl), (0, .ref 0), (1, .ref 1), (2, .ref 58), (3, .ref 70), (4, .int x4), (5, .int x5)]) f_419_1858 ?_
  refine w_a f_419_1860 ?_
  refine i_m (fun h => ?_) (fun h => ?_) h
  · refine w_a f_419_1865 ?_
    refine w_a f_419_1867 ?_
    refine i_m (fun h => ?_) (fun h => ?_) h
    · refine w_a f_419_1870 ?_
      refine w_a f_419_1871 ?_
      refine w_a f_419_1872 ?_
      refine w_a f_419_1873 ?_
      refine w_a f_419_1875 ?_
      refine i_m (fun h => ?_) (fun h => ?_) h
      · refine w_a f_419_1881 ?_
        exact w_n (ks := [0, 1, 2, 3, 4]) rfl h
      · refine w_a f_419_1879 ?_
        refine w_a f_419_1880 ?_
        exact h
    · refine w_a f_419_1881 ?_
      exact w_n (ks := [0, 1, 2, 3, 4]) rfl h
  · refine w_a f_419_1863 ?_
    refine w_a f_419_1864 ?_
    exact h
set_option maxRecDepth 10000 in
set_option maxHeartbeats 4000000 in
theorem s_419_1884 {Lx : Nat} {I : Mi} {L : Ml} {e : Nat} {Q : Kq} {x4 : Int32} (h :
    (inb (x4 + (Int32.ofInt 1)) Lx (
     (inb (x4 + (Int32.ofInt 2)) Lx (
      (if (I 0 ((x4 + (Int32.ofInt 2)).toNatClampNeg)) = 0 then
       (inb (x4 + (Int32.ofInt 3)) Lx (
        (inb (x4 + (Int32.ofInt 4)) Lx (
         (if (I 0 ((x4 + (Int32.ofInt 4)).toNatClampNeg)) = 0 then
          Wp 386 0 [(0, .ref 1), (1, .int (I 0 ((x4 + (Int32.ofInt 1)).toNatClampNeg))), (2, .int (Int32.ofInt 0)), (3, .int (I 0 ((x4 + (Int32.ofInt 3)).toNatClampNeg))), (4, .int (Int32.ofInt 0)), (5, .ref 70)] [] (gE Lx) I L e (kcp (Wp 419) 419 1926 0 [(0, .ref 0), (1, .ref 1), (2, .ref 58), (3, .ref 70), (4, .int x4)] 71 [] Q)
         else
          Wp 386 0 [(0, .ref 1), (1, .int (I 0 ((x4 + (Int32.ofInt 1)).toNatClampNeg))), (2, .int (Int32.ofInt 0)), (3, .int (I 0 ((x4 + (Int32.ofInt 3)).toNatClampNeg))), (4, .int (Int32.ofInt 1)), (5, .ref 70)] [] (gE Lx) I L e (kcp (Wp 419) 419 1926 0 [(0, .ref 0), (1, .ref 1), (2, .ref 58), (3, .ref 70), (4, .int x4)] 71 [] Q)))
        False))
       False)
      else
       (inb (x4 + (Int32.ofInt 3)) Lx (
        (inb (x4 + (Int32.ofInt 4)) Lx (
         (if (I 0 ((x4 + (Int32.ofInt 4)).toNatClampNeg)) = 0 then
          Wp 386 0 [(0, .ref 1), (1, .int (I 0 ((x4 + (Int32.ofInt 1)).toNatClampNeg))), (2, .int (Int32.ofInt 1)), (3, .int (I 0 ((x4 + (Int32.ofInt 3)).toNatClampNeg))), (4, .int (Int32.ofInt 0)), (5, .ref 70)] [] (gE Lx) I L e (kcp (Wp 419) 419 1926 0 [(0, .ref 0), (1, .ref 1), (2, .ref 58), (3, .ref 70), (4, .int x4)] 71 [] Q)
         else
          Wp 386 0 [(0, .ref 1), (1, .int (I 0 ((x4 + (Int32.ofInt 1)).toNatClampNeg))), (2, .int (Int32.ofInt 1)), (3, .int (I 0 ((x4 + (Int32.ofInt 3)).toNatClampNeg))), (4, .int (Int32.ofInt 1)), (5, .ref 70)] [] (gE Lx) I L e (kcp (Wp 419) 419 1926 0 [(0, .ref 0), (1, .ref 1), (2, .ref 58), (3, .ref 70), (4, .int x4)] 71 [] Q)))
        False))
       False)))
     False))
    False)) :
    Wp 419 1884 [(0, .ref 0), (1, .ref 1), (2, .ref 58), (3, .ref 70), (4, .int x4)] [] (gE Lx) I L e Q := by
  refine w_a f_419_1884 ?_
  refine w_a f_419_1885 ?_
  refine w_a f_419_1886 ?_
  refine w_a f_419_1888 ?_
  refine w_a f_419_1889 ?_
  refine w_a f_419_1890 ?_
  refine n_m (fun h => ?_) h
  refine w_a f_419_1891 ?_
  refine w_a f_419_1892 ?_
  refine w_a f_419_1894 ?_
  refine w_a f_419_1895 ?_
  refine w_a f_419_1896 ?_
  refine n_m (fun h => ?_) h
  refine w_a f_419_1897 ?_
  refine i_m (fun h => ?_) (fun h => ?_) h
  · refine w_a f_419_1904 ?_
    refine w_a f_419_1905 ?_
    refine w_a f_419_1906 ?_
    refine w_a f_419_1908 ?_
    refine w_a f_419_1909 ?_
    refine w_a f_419_1910 ?_
    refine n_m (fun h => ?_) h
    refine w_a f_419_1911 ?_
    refine w_a f_419_1912 ?_
    refine w_a f_419_1914 ?_
    refine w_a f_419_1915 ?_
    refine w_a f_419_1916 ?_
    refine n_m (fun h => ?_) h
    refine w_a f_419_1917 ?_
    refine i_m (fun h => ?_) (fun h => ?_) h
    · refine w_a f_419_1924 ?_
      refine w_a f_419_1925 ?_
      exact w_c (ks := [0, 1, 2, 3, 4]) f_419_1926 rfl rfl h
    · refine w_a f_419_1920 ?_
      refine w_a f_419_1921 ?_
      refine w_a f_419_1925 ?_
      exact w_c (ks := [0, 1, 2, 3, 4]) f_419_1926 rfl rfl h
  · refine w_a f_419_1900 ?_
    refine w_a f_419_1901 ?_
    refine w_a f_419_1905 ?_
    refine w_a f_419_1906 ?_
    refine w_a f_419_1908 ?_
    refine w_a f_419_1909 ?_
    refine w_a f_419_1910 ?_
    refine n_m (fun h => ?_) h
    refine w_a f_419_1911 ?_
    refine w_a f_419_1912 ?_
    refine w_a f_419_1914 ?_
    refine w_a f_419_1915 ?_
    refine w_a f_419_1916 ?_
    refine n_m (fun h => ?_) h
    refine w_a f_419_1917 ?_
    refine i_m (fun h => ?_) (fun h => ?_) h
    · refine w_a f_419_1924 ?_
      refine w_a f_419_1925 ?_
      exact w_c (ks := [0, 1, 2, 3, 4]) f_419_1926 rfl rfl h
    · refine w_a f_419_1920 ?_
      refine w_a f_419_1921 ?_
      refine w_a f_419_1925 ?_
      exact w_c (ks := [0, 1, 2, 3, 4]) f_419_1926 rfl rfl h
set_option maxRecDepth 10000 in
set_option maxHeartbeats 4000000 in
theorem s_419_1929 {Lx : Nat} {I : Mi} {L : Ml} {e : Nat} {Q : Kq} {x4 : Int32} {r : Int32} (h :
    (inb (x4 + (Int32.ofInt 1)) Lx (
     (inb (x4 + (Int32.ofInt 2)) Lx (
      (if (I 0 ((x4 + (Int32.ofInt 2)).toNatClampNeg)) = 0 then
       (inb (x4 + (Int32.ofInt 3)) Lx (
        (inb (x4 + (Int32.ofInt 4)) Lx (
         (if (I 0 ((x4 + (Int32.ofInt 4)).toNatClampNeg)) = 0 then
          Wp 268 0 [(0, .ref 58), (1, .int (I 0 ((x4 + (Int32.ofInt 1)).toNatClampNeg))), (2, .int (Int32.ofInt 0)), (3, .int (I 0 ((x4 + (Int32.ofInt 3)).toNatClampNeg))), (4, .int (Int32.ofInt 0))] [] (gE Lx) I L e (kcp (Wp 419) 419 1972 0 [(0, .ref 0), (1, .ref 1), (2, .ref 58), (3, .ref 70), (4, .int x4), (5, .int r)] 71 [] Q)
         else
          Wp 268 0 [(0, .ref 58), (1, .int (I 0 ((x4 + (Int32.ofInt 1)).toNatClampNeg))), (2, .int (Int32.ofInt 0)), (3, .int (I 0 ((x4 + (Int32.ofInt 3)).toNatClampNeg))), (4, .int (Int32.ofInt 1))] [] (gE Lx) I L e (kcp (Wp 419) 419 1972 0 [(0, .ref 0), (1, .ref 1), (2, .ref 58), (3, .ref 70), (4, .int x4), (5, .int r)] 71 [] Q)))
        False))
       False)
      else
       (inb (x4 + (Int32.ofInt 3)) Lx (
        (inb (x4 + (Int32.ofInt 4)) Lx (
         (if (I 0 ((x4 + (Int32.ofInt 4)).toNatClampNeg)) = 0 then
          Wp 268 0 [(0, .ref 58), (1, .int (I 0 ((x4 + (Int32.ofInt 1)).toNatClampNeg))), (2, .int (Int32.ofInt 1)), (3, .int (I 0 ((x4 + (Int32.ofInt 3)).toNatClampNeg))), (4, .int (Int32.ofInt 0))] [] (gE Lx) I L e (kcp (Wp 419) 419 1972 0 [(0, .ref 0), (1, .ref 1), (2, .ref 58), (3, .ref 70), (4, .int x4), (5, .int r)] 71 [] Q)
         else
          Wp 268 0 [(0, .ref 58), (1, .int (I 0 ((x4 + (Int32.ofInt 1)).toNatClampNeg))), (2, .int (Int32.ofInt 1)), (3, .int (I 0 ((x4 + (Int32.ofInt 3)).toNatClampNeg))), (4, .int (Int32.ofInt 1))] [] (gE Lx) I L e (kcp (Wp 419) 419 1972 0 [(0, .ref 0), (1, .ref 1), (2, .ref 58), (3, .ref 70), (4, .int x4), (5, .int r)] 71 [] Q)))
        False))
       False)))
     False))
    False)) :
    Wp 419 1929 [(0, .ref 0), (1, .ref 1), (2, .ref 58), (3, .ref 70), (4, .int x4)] [.int r] (gE Lx) I L e Q := by
  refine w_a f_419_1929 ?_
  refine w_a (ls := [(5, .int r), (0, .ref 0), (1, .ref 1), (2, .ref 58), (3, .ref 70), (4, .int x4)]) f_419_1931 ?_
  refine w_a f_419_1932 ?_
  refine w_a f_419_1933 ?_
  refine w_a f_419_1935 ?_
  refine w_a f_419_1936 ?_
  refine w_a f_419_1937 ?_
  refine n_m (fun h => ?_) h
  refine w_a f_419_1938 ?_
  refine w_a f_419_1939 ?_
  refine w_a f_419_1941 ?_
  refine w_a f_419_1942 ?_
  refine w_a f_419_1943 ?_
  refine n_m (fun h => ?_) h
  refine w_a f_419_1944 ?_
  refine i_m (fun h => ?_) (fun h => ?_) h
  · refine w_a f_419_1951 ?_
    refine w_a f_419_1952 ?_
    refine w_a f_419_1953 ?_
    refine w_a f_419_1955 ?_
    refine w_a f_419_1956 ?_
    refine w_a f_419_1957 ?_
    refine n_m (fun h => ?_) h
    refine w_a f_419_1958 ?_
    refine w_a f_419_1959 ?_
    refine w_a f_419_1961 ?_
    refine w_a f_419_1962 ?_
    refine w_a f_419_1963 ?_
    refine n_m (fun h => ?_) h
    refine w_a f_419_1964 ?_
    refine i_m (fun h => ?_) (fun h => ?_) h
    · refine w_a f_419_1971 ?_
      exact w_c (ks := [0, 1, 2, 3, 4, 5]) f_419_1972 rfl rfl h
    · refine w_a f_419_1967 ?_
      refine w_a f_419_1968 ?_
      exact w_c (ks := [0, 1, 2, 3, 4, 5]) f_419_1972 rfl rfl h
  · refine w_a f_419_1947 ?_
    refine w_a f_419_1948 ?_
    refine w_a f_419_1952 ?_
    refine w_a f_419_1953 ?_
    refine w_a f_419_1955 ?_
    refine w_a f_419_1956 ?_
    refine w_a f_419_1957 ?_
    refine n_m (fun h => ?_) h
    refine w_a f_419_1958 ?_
    refine w_a f_419_1959 ?_
    refine w_a f_419_1961 ?_
    refine w_a f_419_1962 ?_
    refine w_a f_419_1963 ?_
    refine n_m (fun h => ?_) h
    refine w_a f_419_1964 ?_
    refine i_m (fun h => ?_) (fun h => ?_) h
    · refine w_a f_419_1971 ?_
      exact w_c (ks := [0, 1, 2, 3, 4, 5]) f_419_1972 rfl rfl h
    · refine w_a f_419_1967 ?_
      refine w_a f_419_1968 ?_
      exact w_c (ks := [0, 1, 2, 3, 4, 5]) f_419_1972 rfl rfl h
set_option maxRecDepth 10000 in
set_option maxHeartbeats 4000000 in
theorem s_419_1975 {Lx : Nat} {I : Mi} {L : Ml} {e : Nat} {Q : Kq} {x4 : Int32} {x5 : Int32} {rl : Int64} (h :
    (if (I 58 0) = x5 then
     (if x5 = 0 then
      (if (L 70 0) = rl then
       Wp 419 4917 [(0, .ref 0), (1, .ref 1), (2, .ref 58), (3, .ref 70), (4, .int x4)] [] (gE Lx) I L e Q
      else
       Q (.inl (some (.int (Int32.ofInt 0)))) (gE Lx) I L e)
     else
      Wp 419 4917 [(0, .ref 0), (1, .ref 1), (2, .ref 58), (3, .ref 70), (4, .int x4)] [] (gE Lx) I L e Q)
    else
     Q (.inl (some (.int (Int32.ofInt 0)))) (gE Lx) I L e)) :
    Wp 419 1975 [(0, .ref 0), (1, .ref 1), (2, .ref 58), (3, .ref 70), (4, .int x4), (5, .int x5)] [.long rl] (gE Lx) I L e Q := by
  refine w_a f_419_1975 ?_
  refine w_a (ls := [(6, .long rl), (0, .ref 0), (1, .ref 1), (2, .ref 58), (3, .ref 70), (4, .int x4), (5, .int x5)]) f_419_1977 ?_
  refine w_a f_419_1978 ?_
  refine w_a (ls := [(0, .ref 58)]) f_212_0 ?_
  refine w_a f_212_1 ?_
  refine w_a f_212_4 ?_
  refine w_a (ls := [(6, .long rl), (0, .ref 0), (1, .ref 1), (2, .ref 58), (3, .ref 70), (4, .int x4), (5, .int x5)]) f_419_1981 ?_
  refine w_a f_419_1983 ?_
  refine i_m (fun h => ?_) (fun h => ?_) h
  · refine w_a f_419_1988 ?_
    refine w_a f_419_1990 ?_
    refine i_m (fun h => ?_) (fun h => ?_) h
    · refine w_a f_419_1993 ?_
      refine w_a f_419_1994 ?_
      refine w_a f_419_1995 ?_
      refine w_a f_419_1996 ?_
      refine w_a f_419_1998 ?_
      refine i_m (fun h => ?_) (fun h => ?_) h
      · refine w_a f_419_2004 ?_
        exact w_n (ks := [0, 1, 2, 3, 4]) rfl h
      · refine w_a f_419_2002 ?_
        refine w_a f_419_2003 ?_
        exact h
    · refine w_a f_419_2004 ?_
      exact w_n (ks := [0, 1, 2, 3, 4]) rfl h
  · refine w_a f_419_1986 ?_
    refine w_a f_419_1987 ?_
    exact h
set_option maxRecDepth 10000 in
set_option maxHeartbeats 4000000 in
theorem s_419_2007 {Lx : Nat} {I : Mi} {L : Ml} {e : Nat} {Q : Kq} {x4 : Int32} (h :
    (inb (x4 + (Int32.ofInt 1)) Lx (
     (inb (x4 + (Int32.ofInt 2)) Lx (
      (if (I 0 ((x4 + (Int32.ofInt 2)).toNatClampNeg)) = 0 then
       (inb (x4 + (Int32.ofInt 3)) Lx (
        (if (I 0 ((x4 + (Int32.ofInt 3)).toNatClampNeg)) = 0 then
         Wp 387 0 [(0, .ref 1), (1, .int (I 0 ((x4 + (Int32.ofInt 1)).toNatClampNeg))), (2, .int (Int32.ofInt 0)), (3, .int (Int32.ofInt 0)), (4, .ref 70)] [] (gE Lx) I L e (kcp (Wp 419) 419 2043 0 [(0, .ref 0), (1, .ref 1), (2, .ref 58), (3, .ref 70), (4, .int x4)] 71 [] Q)
        else
         Wp 387 0 [(0, .ref 1), (1, .int (I 0 ((x4 + (Int32.ofInt 1)).toNatClampNeg))), (2, .int (Int32.ofInt 0)), (3, .int (Int32.ofInt 1)), (4, .ref 70)] [] (gE Lx) I L e (kcp (Wp 419) 419 2043 0 [(0, .ref 0), (1, .ref 1), (2, .ref 58), (3, .ref 70), (4, .int x4)] 71 [] Q)))
       False)
      else
       (inb (x4 + (Int32.ofInt 3)) Lx (
        (if (I 0 ((x4 + (Int32.ofInt 3)).toNatClampNeg)) = 0 then
         Wp 387 0 [(0, .ref 1), (1, .int (I 0 ((x4 + (Int32.ofInt 1)).toNatClampNeg))), (2, .int (Int32.ofInt 1)), (3, .int (Int32.ofInt 0)), (4, .ref 70)] [] (gE Lx) I L e (kcp (Wp 419) 419 2043 0 [(0, .ref 0), (1, .ref 1), (2, .ref 58), (3, .ref 70), (4, .int x4)] 71 [] Q)
        else
         Wp 387 0 [(0, .ref 1), (1, .int (I 0 ((x4 + (Int32.ofInt 1)).toNatClampNeg))), (2, .int (Int32.ofInt 1)), (3, .int (Int32.ofInt 1)), (4, .ref 70)] [] (gE Lx) I L e (kcp (Wp 419) 419 2043 0 [(0, .ref 0), (1, .ref 1), (2, .ref 58), (3, .ref 70), (4, .int x4)] 71 [] Q)))
       False)))
     False))
    False)) :
    Wp 419 2007 [(0, .ref 0), (1, .ref 1), (2, .ref 58), (3, .ref 70), (4, .int x4)] [] (gE Lx) I L e Q := by
  refine w_a f_419_2007 ?_
  refine w_a f_419_2008 ?_
  refine w_a f_419_2009 ?_
  refine w_a f_419_2011 ?_
  refine w_a f_419_2012 ?_
  refine w_a f_419_2013 ?_
  refine n_m (fun h => ?_) h
  refine w_a f_419_2014 ?_
  refine w_a f_419_2015 ?_
  refine w_a f_419_2017 ?_
  refine w_a f_419_2018 ?_
  refine w_a f_419_2019 ?_
  refine n_m (fun h => ?_) h
  refine w_a f_419_2020 ?_
  refine i_m (fun h => ?_) (fun h => ?_) h
  · refine w_a f_419_2027 ?_
    refine w_a f_419_2028 ?_
    refine w_a f_419_2029 ?_
    refine w_a f_419_2031 ?_
    refine w_a f_419_2032 ?_
    refine w_a f_419_2033 ?_
    refine n_m (fun h => ?_) h
    refine w_a f_419_2034 ?_
    refine i_m (fun h => ?_) (fun h => ?_) h
    · refine w_a f_419_2041 ?_
      refine w_a f_419_2042 ?_
      exact w_c (ks := [0, 1, 2, 3, 4]) f_419_2043 rfl rfl h
    · refine w_a f_419_2037 ?_
      refine w_a f_419_2038 ?_
      refine w_a f_419_2042 ?_
      exact w_c (ks := [0, 1, 2, 3, 4]) f_419_2043 rfl rfl h
  · refine w_a f_419_2023 ?_
    refine w_a f_419_2024 ?_
    refine w_a f_419_2028 ?_
    refine w_a f_419_2029 ?_
    refine w_a f_419_2031 ?_
    refine w_a f_419_2032 ?_
    refine w_a f_419_2033 ?_
    refine n_m (fun h => ?_) h
    refine w_a f_419_2034 ?_
    refine i_m (fun h => ?_) (fun h => ?_) h
    · refine w_a f_419_2041 ?_
      refine w_a f_419_2042 ?_
      exact w_c (ks := [0, 1, 2, 3, 4]) f_419_2043 rfl rfl h
    · refine w_a f_419_2037 ?_
      refine w_a f_419_2038 ?_
      refine w_a f_419_2042 ?_
      exact w_c (ks := [0, 1, 2, 3, 4]) f_419_2043 rfl rfl h
set_option maxRecDepth 10000 in
set_option maxHeartbeats 4000000 in
theorem s_419_2046 {Lx : Nat} {I : Mi} {L : Ml} {e : Nat} {Q : Kq} {x4 : Int32} {r : Int32} (h :
    (inb (x4 + (Int32.ofInt 1)) Lx (
     (inb (x4 + (Int32.ofInt 2)) Lx (
      (if (I 0 ((x4 + (Int32.ofInt 2)).toNatClampNeg)) = 0 then
       (inb (x4 + (Int32.ofInt 3)) Lx (
        (if (I 0 ((x4 + (Int32.ofInt 3)).toNatClampNeg)) = 0 then
         Wp 269 0 [(0, .ref 58), (1, .int (I 0 ((x4 + (Int32.ofInt 1)).toNatClampNeg))), (2, .int (Int32.ofInt 0)), (3, .int (Int32.ofInt 0))] [] (gE Lx) I L e (kcp (Wp 419) 419 2083 0 [(0, .ref 0), (1, .ref 1), (2, .ref 58), (3, .ref 70), (4, .int x4), (5, .int r)] 71 [] Q)
        else
         Wp 269 0 [(0, .ref 58), (1, .int (I 0 ((x4 + (Int32.ofInt 1)).toNatClampNeg))), (2, .int (Int32.ofInt 0)), (3, .int (Int32.ofInt 1))] [] (gE Lx) I L e (kcp (Wp 419) 419 2083 0 [(0, .ref 0), (1, .ref 1), (2, .ref 58), (3, .ref 70), (4, .int x4), (5, .int r)] 71 [] Q)))
       False)
      else
       (inb (x4 + (Int32.ofInt 3)) Lx (
        (if (I 0 ((x4 + (Int32.ofInt 3)).toNatClampNeg)) = 0 then
         Wp 269 0 [(0, .ref 58), (1, .int (I 0 ((x4 + (Int32.ofInt 1)).toNatClampNeg))), (2, .int (Int32.ofInt 1)), (3, .int (Int32.ofInt 0))] [] (gE Lx) I L e (kcp (Wp 419) 419 2083 0 [(0, .ref 0), (1, .ref 1), (2, .ref 58), (3, .ref 70), (4, .int x4), (5, .int r)] 71 [] Q)
        else
         Wp 269 0 [(0, .ref 58), (1, .int (I 0 ((x4 + (Int32.ofInt 1)).toNatClampNeg))), (2, .int (Int32.ofInt 1)), (3, .int (Int32.ofInt 1))] [] (gE Lx) I L e (kcp (Wp 419) 419 2083 0 [(0, .ref 0), (1, .ref 1), (2, .ref 58), (3, .ref 70), (4, .int x4), (5, .int r)] 71 [] Q)))
       False)))
     False))
    False)) :
    Wp 419 2046 [(0, .ref 0), (1, .ref 1), (2, .ref 58), (3, .ref 70), (4, .int x4)] [.int r] (gE Lx) I L e Q := by
  refine w_a f_419_2046 ?_
  refine w_a (ls := [(5, .int r), (0, .ref 0), (1, .ref 1), (2, .ref 58), (3, .ref 70), (4, .int x4)]) f_419_2048 ?_
  refine w_a f_419_2049 ?_
  refine w_a f_419_2050 ?_
  refine w_a f_419_2052 ?_
  refine w_a f_419_2053 ?_
  refine w_a f_419_2054 ?_
  refine n_m (fun h => ?_) h
  refine w_a f_419_2055 ?_
  refine w_a f_419_2056 ?_
  refine w_a f_419_2058 ?_
  refine w_a f_419_2059 ?_
  refine w_a f_419_2060 ?_
  refine n_m (fun h => ?_) h
  refine w_a f_419_2061 ?_
  refine i_m (fun h => ?_) (fun h => ?_) h
  · refine w_a f_419_2068 ?_
    refine w_a f_419_2069 ?_
    refine w_a f_419_2070 ?_
    refine w_a f_419_2072 ?_
    refine w_a f_419_2073 ?_
    refine w_a f_419_2074 ?_
    refine n_m (fun h => ?_) h
    refine w_a f_419_2075 ?_
    refine i_m (fun h => ?_) (fun h => ?_) h
    · refine w_a f_419_2082 ?_
      exact w_c (ks := [0, 1, 2, 3, 4, 5]) f_419_2083 rfl rfl h
    · refine w_a f_419_2078 ?_
      refine w_a f_419_2079 ?_
      exact w_c (ks := [0, 1, 2, 3, 4, 5]) f_419_2083 rfl rfl h
  · refine w_a f_419_2064 ?_
    refine w_a f_419_2065 ?_
    refine w_a f_419_2069 ?_
    refine w_a f_419_2070 ?_
    refine w_a f_419_2072 ?_
    refine w_a f_419_2073 ?_
    refine w_a f_419_2074 ?_
    refine n_m (fun h => ?_) h
    refine w_a f_419_2075 ?_
    refine i_m (fun h => ?_) (fun h => ?_) h
    · refine w_a f_419_2082 ?_
      exact w_c (ks := [0, 1, 2, 3, 4, 5]) f_419_2083 rfl rfl h
    · refine w_a f_419_2078 ?_
      refine w_a f_419_2079 ?_
      exact w_c (ks := [0, 1, 2, 3, 4, 5]) f_419_2083 rfl rfl h
set_option maxRecDepth 10000 in
set_option maxHeartbeats 4000000 in
theorem s_419_2086 {Lx : Nat} {I : Mi} {L : Ml} {e : Nat} {Q : Kq} {x4 : Int32} {x5 : Int32} {rl : Int64} (h :
    (if (I 58 0) = x5 then
     (if x5 = 0 then
      (if (L 70 0) = rl then
       Wp 419 4917 [(0, .ref 0), (1, .ref 1), (2, .ref 58), (3, .ref 70), (4, .int x4)] [] (gE Lx) I L e Q
      else
       Q (.inl (some (.int (Int32.ofInt 0)))) (gE Lx) I L e)
     else
      Wp 419 4917 [(0, .ref 0), (1, .ref 1), (2, .ref 58), (3, .ref 70), (4, .int x4)] [] (gE Lx) I L e Q)
    else
     Q (.inl (some (.int (Int32.ofInt 0)))) (gE Lx) I L e)) :
    Wp 419 2086 [(0, .ref 0), (1, .ref 1), (2, .ref 58), (3, .ref 70), (4, .int x4), (5, .int x5)] [.long rl] (gE Lx) I L e Q := by
  refine w_a f_419_2086 ?_
  refine w_a (ls := [(6, .long rl), (0, .ref 0), (1, .ref 1), (2, .ref 58), (3, .ref 70), (4, .int x4), (5, .int x5)]) f_419_2088 ?_
  refine w_a f_419_2089 ?_
  refine w_a (ls := [(0, .ref 58)]) f_212_0 ?_
  refine w_a f_212_1 ?_
  refine w_a f_212_4 ?_
  refine w_a (ls := [(6, .long rl), (0, .ref 0), (1, .ref 1), (2, .ref 58), (3, .ref 70), (4, .int x4), (5, .int x5)]) f_419_2092 ?_
  refine w_a f_419_2094 ?_
  refine i_m (fun h => ?_) (fun h => ?_) h
  · refine w_a f_419_2099 ?_
    refine w_a f_419_2101 ?_
    refine i_m (fun h => ?_) (fun h => ?_) h
    · refine w_a f_419_2104 ?_
      refine w_a f_419_2105 ?_
      refine w_a f_419_2106 ?_
      refine w_a f_419_2107 ?_
      refine w_a f_419_2109 ?_
      refine i_m (fun h => ?_) (fun h => ?_) h
      · refine w_a f_419_2115 ?_
        exact w_n (ks := [0, 1, 2, 3, 4]) rfl h
      · refine w_a f_419_2113 ?_
        refine w_a f_419_2114 ?_
        exact h
    · refine w_a f_419_2115 ?_
      exact w_n (ks := [0, 1, 2, 3, 4]) rfl h
  · refine w_a f_419_2097 ?_
    refine w_a f_419_2098 ?_
    exact h
set_option maxRecDepth 10000 in
set_option maxHeartbeats 4000000 in
theorem s_419_2118 {Lx : Nat} {I : Mi} {L : Ml} {e : Nat} {Q : Kq} {x4 : Int32} (h :
    (inb (x4 + (Int32.ofInt 1)) Lx (
     (inb (x4 + (Int32.ofInt 2)) Lx (
      (if (I 0 ((x4 + (Int32.ofInt 2)).toNatClampNeg)) = 0 then
       (inb (x4 + (Int32.ofInt 3)) Lx (
        Wp 388 0 [(0, .ref 1), (1, .int (I 0 ((x4 + (Int32.ofInt 1)).toNatClampNeg))), (2, .int (Int32.ofInt 0)), (3, .int (I 0 ((x4 + (Int32.ofInt 3)).toNatClampNeg))), (4, .ref 70)] [] (gE Lx) I L e (kcp (Wp 419) 419 2146 0 [(0, .ref 0), (1, .ref 1), (2, .ref 58), (3, .ref 70), (4, .int x4)] 71 [] Q))
       False)
      else
       (inb (x4 + (Int32.ofInt 3)) Lx (
        Wp 388 0 [(0, .ref 1), (1, .int (I 0 ((x4 + (Int32.ofInt 1)).toNatClampNeg))), (2, .int (Int32.ofInt 1)), (3, .int (I 0 ((x4 + (Int32.ofInt 3)).toNatClampNeg))), (4, .ref 70)] [] (gE Lx) I L e (kcp (Wp 419) 419 2146 0 [(0, .ref 0), (1, .ref 1), (2, .ref 58), (3, .ref 70), (4, .int x4)] 71 [] Q))
       False)))
     False))
    False)) :
    Wp 419 2118 [(0, .ref 0), (1, .ref 1), (2, .ref 58), (3, .ref 70), (4, .int x4)] [] (gE Lx) I L e Q := by
  refine w_a f_419_2118 ?_
  refine w_a f_419_2119 ?_
  refine w_a f_419_2120 ?_
  refine w_a f_419_2122 ?_
  refine w_a f_419_2123 ?_
  refine w_a f_419_2124 ?_
  refine n_m (fun h => ?_) h
  refine w_a f_419_2125 ?_
  refine w_a f_419_2126 ?_
  refine w_a f_419_2128 ?_
  refine w_a f_419_2129 ?_
  refine w_a f_419_2130 ?_
  refine n_m (fun h => ?_) h
  refine w_a f_419_2131 ?_
  refine i_m (fun h => ?_) (fun h => ?_) h
  · refine w_a f_419_2138 ?_
    refine w_a f_419_2139 ?_
    refine w_a f_419_2140 ?_
    refine w_a f_419_2142 ?_
    refine w_a f_419_2143 ?_
    refine w_a f_419_2144 ?_
    refine n_m (fun h => ?_) h
    refine w_a f_419_2145 ?_
    exact w_c (ks := [0, 1, 2, 3, 4]) f_419_2146 rfl rfl h
  · refine w_a f_419_2134 ?_
    refine w_a f_419_2135 ?_
    refine w_a f_419_2139 ?_
    refine w_a f_419_2140 ?_
    refine w_a f_419_2142 ?_
    refine w_a f_419_2143 ?_
    refine w_a f_419_2144 ?_
    refine n_m (fun h => ?_) h
    refine w_a f_419_2145 ?_
    exact w_c (ks := [0, 1, 2, 3, 4]) f_419_2146 rfl rfl h
