/-! Pieces with constants: the shelves, by program. -/
theorem f_63_0 : ftc (PT 63) 0 = some (0, .aload_n 0, 1, 0, 0, 0) := by decide +kernel
theorem f_63_1 : ftc (PT 63) 1 = some (1, .getfield 22, 3, 7, 2, 455) := by decide +kernel
theorem f_63_4 : ftc (PT 63) 4 = some (4, .aload_n 1, 1, 0, 0, 0) := by decide +kernel
theorem f_63_5 : ftc (PT 63) 5 = some (5, .getfield 22, 3, 7, 2, 455) := by decide +kernel
theorem f_63_8 : ftc (PT 63) 8 = some (8, .if_icmp .eq 20, 3, 28, 0, 0) := by decide +kernel
theorem f_63_11 : ftc (PT 63) 11 = some (11, .aload_n 0, 1, 0, 0, 0) := by decide +kernel
theorem f_63_12 : ftc (PT 63) 12 = some (12, .getfield 22, 3, 7, 2, 455) := by decide +kernel
theorem f_63_15 : ftc (PT 63) 15 = some (15, .aload_n 1, 1, 0, 0, 0) := by decide +kernel
theorem f_63_16 : ftc (PT 63) 16 = some (16, .getfield 22, 3, 7, 2, 455) := by decide +kernel
theorem f_63_19 : ftc (PT 63) 19 = some (19, .if_icmp .le 7, 3, 26, 0, 0) := by decide +kernel
theorem f_63_22 : ftc (PT 63) 22 = some (22, .iconst 1, 1, 0, 0, 0) := by decide +kernel
theorem f_63_23 : ftc (PT 63) 23 = some (23, .goto 4, 3, 27, 0, 0) := by decide +kernel
theorem f_63_26 : ftc (PT 63) 26 = some (26, .iconst 0, 1, 0, 0, 0) := by decide +kernel
theorem f_63_27 : ftc (PT 63) 27 = some (27, .ireturn, 1, 1, 0, 0) := by decide +kernel
theorem f_63_28 : ftc (PT 63) 28 = some (28, .aload_n 0, 1, 0, 0, 0) := by decide +kernel
theorem f_63_29 : ftc (PT 63) 29 = some (29, .getfield 29, 3, 7, 3, 457) := by decide +kernel
theorem f_63_32 : ftc (PT 63) 32 = some (32, .aload_n 1, 1, 0, 0, 0) := by decide +kernel
theorem f_63_33 : ftc (PT 63) 33 = some (33, .getfield 29, 3, 7, 3, 457) := by decide +kernel
theorem f_63_36 : ftc (PT 63) 36 = some (36, .invokevirtual 33, 3, 66, 2088, 726) := by decide +kernel
theorem f_63_39 : ftc (PT 63) 39 = some (39, .ifCond .ge 7, 3, 46, 0, 0) := by decide +kernel
theorem f_63_42 : ftc (PT 63) 42 = some (42, .iconst 1, 1, 0, 0, 0) := by decide +kernel
theorem f_63_43 : ftc (PT 63) 43 = some (43, .goto 4, 3, 47, 0, 0) := by decide +kernel
theorem f_63_46 : ftc (PT 63) 46 = some (46, .iconst 0, 1, 0, 0, 0) := by decide +kernel
theorem f_63_47 : ftc (PT 63) 47 = some (47, .ireturn, 1, 1, 0, 0) := by decide +kernel
theorem f_66_0 : ftc (PT 66) 0 = some (0, .aload_n 0, 1, 0, 0, 0) := by decide +kernel
theorem f_66_1 : ftc (PT 66) 1 = some (1, .getfield 7, 3, 8, 0, 422) := by decide +kernel
theorem f_66_4 : ftc (PT 66) 4 = some (4, .aload_n 1, 1, 0, 0, 0) := by decide +kernel
theorem f_66_5 : ftc (PT 66) 5 = some (5, .getfield 7, 3, 8, 0, 422) := by decide +kernel
theorem f_66_8 : ftc (PT 66) 8 = some (8, .if_icmp .eq 20, 3, 28, 0, 0) := by decide +kernel
theorem f_66_11 : ftc (PT 66) 11 = some (11, .aload_n 0, 1, 0, 0, 0) := by decide +kernel
theorem f_66_12 : ftc (PT 66) 12 = some (12, .getfield 7, 3, 8, 0, 422) := by decide +kernel
theorem f_66_15 : ftc (PT 66) 15 = some (15, .aload_n 1, 1, 0, 0, 0) := by decide +kernel
theorem f_66_16 : ftc (PT 66) 16 = some (16, .getfield 7, 3, 8, 0, 422) := by decide +kernel
theorem f_66_19 : ftc (PT 66) 19 = some (19, .if_icmp .ge 7, 3, 26, 0, 0) := by decide +kernel
theorem f_66_22 : ftc (PT 66) 22 = some (22, .iconst (-1), 1, 0, 0, 0) := by decide +kernel
theorem f_66_23 : ftc (PT 66) 23 = some (23, .goto 4, 3, 27, 0, 0) := by decide +kernel
theorem f_66_26 : ftc (PT 66) 26 = some (26, .iconst 1, 1, 0, 0, 0) := by decide +kernel
theorem f_66_27 : ftc (PT 66) 27 = some (27, .ireturn, 1, 0, 0, 0) := by decide +kernel
theorem f_66_28 : ftc (PT 66) 28 = some (28, .aload_n 0, 1, 0, 0, 0) := by decide +kernel
theorem f_66_29 : ftc (PT 66) 29 = some (29, .getfield 16, 3, 8, 1, 424) := by decide +kernel
theorem f_66_32 : ftc (PT 66) 32 = some (32, .getfield 29, 3, 3, 0, 297) := by decide +kernel
theorem f_66_35 : ftc (PT 66) 35 = some (35, .aload_n 0, 1, 0, 0, 0) := by decide +kernel
theorem f_66_36 : ftc (PT 66) 36 = some (36, .getfield 16, 3, 8, 1, 424) := by decide +kernel
theorem f_66_39 : ftc (PT 66) 39 = some (39, .getfield 33, 3, 3, 1, 300) := by decide +kernel
theorem f_66_42 : ftc (PT 66) 42 = some (42, .aload_n 1, 1, 0, 0, 0) := by decide +kernel
theorem f_66_43 : ftc (PT 66) 43 = some (43, .getfield 16, 3, 8, 1, 424) := by decide +kernel
theorem f_66_46 : ftc (PT 66) 46 = some (46, .getfield 29, 3, 3, 0, 297) := by decide +kernel
theorem f_66_49 : ftc (PT 66) 49 = some (49, .aload_n 1, 1, 0, 0, 0) := by decide +kernel
theorem f_66_50 : ftc (PT 66) 50 = some (50, .getfield 16, 3, 8, 1, 424) := by decide +kernel
theorem f_66_53 : ftc (PT 66) 53 = some (53, .getfield 33, 3, 3, 1, 300) := by decide +kernel
theorem f_66_56 : ftc (PT 66) 56 = some (56, .invokestatic 46, 3, 28, 10244, 709) := by decide +kernel
theorem f_66_59 : ftc (PT 66) 59 = some (59, .ireturn, 1, 0, 0, 0) := by decide +kernel
theorem f_100_6 : ftc (PT 100) 6 = some (6, .iload_n 2, 1, 0, 0, 0) := by decide +kernel
theorem f_100_7 : ftc (PT 100) 7 = some (7, .iconst 4, 1, 0, 0, 0) := by decide +kernel
theorem f_100_8 : ftc (PT 100) 8 = some (8, .if_icmp .ge 32, 3, 40, 0, 0) := by decide +kernel
theorem f_100_11 : ftc (PT 100) 11 = some (11, .aload_n 0, 1, 0, 0, 0) := by decide +kernel
theorem f_100_12 : ftc (PT 100) 12 = some (12, .getfield 28, 3, 11, 3, 471) := by decide +kernel
theorem f_100_15 : ftc (PT 100) 15 = some (15, .iload_n 2, 1, 0, 0, 0) := by decide +kernel
theorem f_100_16 : ftc (PT 100) 16 = some (16, .aaload, 1, 0, 0, 0) := by decide +kernel
theorem f_100_17 : ftc (PT 100) 17 = some (17, .getfield 182, 3, 7, 0, 452) := by decide +kernel
theorem f_100_20 : ftc (PT 100) 20 = some (20, .ifCond .eq 14, 3, 34, 0, 0) := by decide +kernel
theorem f_100_23 : ftc (PT 100) 23 = some (23, .aload_n 0, 1, 0, 0, 0) := by decide +kernel
theorem f_100_24 : ftc (PT 100) 24 = some (24, .iload_n 2, 1, 0, 0, 0) := by decide +kernel
theorem f_100_25 : ftc (PT 100) 25 = some (25, .invokevirtual 446, 3, 102, 4139, 718) := by decide +kernel
theorem f_100_40 : ftc (PT 100) 40 = some (40, .iconst (-1), 1, 0, 0, 0) := by decide +kernel
theorem f_100_41 : ftc (PT 100) 41 = some (41, .ireturn, 1, 0, 0, 0) := by decide +kernel
theorem f_101_2 : ftc (PT 101) 2 = some (2, .iload_n 1, 1, 0, 0, 0) := by decide +kernel
theorem f_101_3 : ftc (PT 101) 3 = some (3, .iconst 4, 1, 0, 0, 0) := by decide +kernel
theorem f_101_4 : ftc (PT 101) 4 = some (4, .if_icmp .ge 64, 3, 68, 0, 0) := by decide +kernel
theorem f_101_7 : ftc (PT 101) 7 = some (7, .aload_n 0, 1, 0, 0, 0) := by decide +kernel
theorem f_101_8 : ftc (PT 101) 8 = some (8, .getfield 28, 3, 11, 3, 471) := by decide +kernel
theorem f_101_11 : ftc (PT 101) 11 = some (11, .iload_n 1, 1, 0, 0, 0) := by decide +kernel
theorem f_101_12 : ftc (PT 101) 12 = some (12, .aaload, 1, 0, 0, 0) := by decide +kernel
theorem f_101_13 : ftc (PT 101) 13 = some (13, .getfield 182, 3, 7, 0, 452) := by decide +kernel
theorem f_101_16 : ftc (PT 101) 16 = some (16, .ifCond .eq 46, 3, 62, 0, 0) := by decide +kernel
theorem f_101_19 : ftc (PT 101) 19 = some (19, .aload_n 0, 1, 0, 0, 0) := by decide +kernel
theorem f_101_20 : ftc (PT 101) 20 = some (20, .getfield 28, 3, 11, 3, 471) := by decide +kernel
theorem f_101_23 : ftc (PT 101) 23 = some (23, .iload_n 1, 1, 0, 0, 0) := by decide +kernel
theorem f_101_24 : ftc (PT 101) 24 = some (24, .aaload, 1, 0, 0, 0) := by decide +kernel
theorem f_101_25 : ftc (PT 101) 25 = some (25, .aload_n 0, 1, 0, 0, 0) := by decide +kernel
theorem f_101_26 : ftc (PT 101) 26 = some (26, .aload_n 0, 1, 0, 0, 0) := by decide +kernel
theorem f_101_27 : ftc (PT 101) 27 = some (27, .getfield 28, 3, 11, 3, 471) := by decide +kernel
theorem f_101_30 : ftc (PT 101) 30 = some (30, .iload_n 1, 1, 0, 0, 0) := by decide +kernel
theorem f_101_31 : ftc (PT 101) 31 = some (31, .aaload, 1, 0, 0, 0) := by decide +kernel
theorem f_101_32 : ftc (PT 101) 32 = some (32, .getfield 186, 3, 7, 1, 454) := by decide +kernel
theorem f_101_35 : ftc (PT 101) 35 = some (35, .invokevirtual 430, 3, 95, 4139, 639) := by decide +kernel
theorem f_101_38 : ftc (PT 101) 38 = some (38, .putfield 537, 3, 7, 2, 456) := by decide +kernel
theorem f_101_41 : ftc (PT 101) 41 = some (41, .aload_n 0, 1, 0, 0, 0) := by decide +kernel
theorem f_101_42 : ftc (PT 101) 42 = some (42, .getfield 28, 3, 11, 3, 471) := by decide +kernel
theorem f_101_45 : ftc (PT 101) 45 = some (45, .iload_n 1, 1, 0, 0, 0) := by decide +kernel
theorem f_101_46 : ftc (PT 101) 46 = some (46, .aaload, 1, 0, 0, 0) := by decide +kernel
theorem f_101_47 : ftc (PT 101) 47 = some (47, .getfield 540, 3, 7, 3, 458) := by decide +kernel
theorem f_101_50 : ftc (PT 101) 50 = some (50, .aload_n 0, 1, 0, 0, 0) := by decide +kernel
theorem f_101_51 : ftc (PT 101) 51 = some (51, .getfield 28, 3, 11, 3, 471) := by decide +kernel
theorem f_101_54 : ftc (PT 101) 54 = some (54, .iload_n 1, 1, 0, 0, 0) := by decide +kernel
theorem f_101_55 : ftc (PT 101) 55 = some (55, .aaload, 1, 0, 0, 0) := by decide +kernel
theorem f_101_56 : ftc (PT 101) 56 = some (56, .getfield 186, 3, 7, 1, 454) := by decide +kernel
theorem f_101_59 : ftc (PT 101) 59 = some (59, .invokevirtual 434, 3, 65, 7208, 697) := by decide +kernel
theorem f_101_68 : ftc (PT 101) 68 = some (68, .return_, 1, 0, 0, 0) := by decide +kernel
theorem f_102_4 : ftc (PT 102) 4 = some (4, .iload_n 3, 1, 0, 0, 0) := by decide +kernel
theorem f_102_5 : ftc (PT 102) 5 = some (5, .iconst 4, 1, 0, 0, 0) := by decide +kernel
theorem f_102_6 : ftc (PT 102) 6 = some (6, .if_icmp .ge 65, 3, 71, 0, 0) := by decide +kernel
theorem f_102_9 : ftc (PT 102) 9 = some (9, .aload_n 0, 1, 0, 0, 0) := by decide +kernel
theorem f_102_10 : ftc (PT 102) 10 = some (10, .getfield 28, 3, 11, 3, 471) := by decide +kernel
theorem f_102_13 : ftc (PT 102) 13 = some (13, .iload_n 3, 1, 0, 0, 0) := by decide +kernel
theorem f_102_14 : ftc (PT 102) 14 = some (14, .aaload, 1, 0, 0, 0) := by decide +kernel
theorem f_102_15 : ftc (PT 102) 15 = some (15, .getfield 182, 3, 7, 0, 452) := by decide +kernel
theorem f_102_18 : ftc (PT 102) 18 = some (18, .ifCond .eq 47, 3, 65, 0, 0) := by decide +kernel
theorem f_102_21 : ftc (PT 102) 21 = some (21, .aload_n 0, 1, 0, 0, 0) := by decide +kernel
theorem f_102_22 : ftc (PT 102) 22 = some (22, .getfield 28, 3, 11, 3, 471) := by decide +kernel
theorem f_102_25 : ftc (PT 102) 25 = some (25, .iload_n 3, 1, 0, 0, 0) := by decide +kernel
theorem f_102_26 : ftc (PT 102) 26 = some (26, .aaload, 1, 0, 0, 0) := by decide +kernel
theorem f_102_27 : ftc (PT 102) 27 = some (27, .aload_n 0, 1, 0, 0, 0) := by decide +kernel
theorem f_102_28 : ftc (PT 102) 28 = some (28, .getfield 28, 3, 11, 3, 471) := by decide +kernel
theorem f_102_31 : ftc (PT 102) 31 = some (31, .iload_n 1, 1, 0, 0, 0) := by decide +kernel
theorem f_102_32 : ftc (PT 102) 32 = some (32, .aaload, 1, 0, 0, 0) := by decide +kernel
theorem f_102_33 : ftc (PT 102) 33 = some (33, .invokevirtual 541, 3, 63, 2087, 722) := by decide +kernel
theorem f_102_36 : ftc (PT 102) 36 = some (36, .ifCond .ne 26, 3, 62, 0, 0) := by decide +kernel
theorem f_102_39 : ftc (PT 102) 39 = some (39, .iload_n 3, 1, 0, 0, 0) := by decide +kernel
theorem f_102_40 : ftc (PT 102) 40 = some (40, .iload_n 1, 1, 0, 0, 0) := by decide +kernel
theorem f_102_41 : ftc (PT 102) 41 = some (41, .if_icmp .ge 24, 3, 65, 0, 0) := by decide +kernel
theorem f_102_44 : ftc (PT 102) 44 = some (44, .aload_n 0, 1, 0, 0, 0) := by decide +kernel
theorem f_102_45 : ftc (PT 102) 45 = some (45, .getfield 28, 3, 11, 3, 471) := by decide +kernel
theorem f_102_48 : ftc (PT 102) 48 = some (48, .iload_n 1, 1, 0, 0, 0) := by decide +kernel
theorem f_102_49 : ftc (PT 102) 49 = some (49, .aaload, 1, 0, 0, 0) := by decide +kernel
theorem f_102_50 : ftc (PT 102) 50 = some (50, .aload_n 0, 1, 0, 0, 0) := by decide +kernel
theorem f_102_51 : ftc (PT 102) 51 = some (51, .getfield 28, 3, 11, 3, 471) := by decide +kernel
theorem f_102_54 : ftc (PT 102) 54 = some (54, .iload_n 3, 1, 0, 0, 0) := by decide +kernel
theorem f_102_55 : ftc (PT 102) 55 = some (55, .aaload, 1, 0, 0, 0) := by decide +kernel
theorem f_102_56 : ftc (PT 102) 56 = some (56, .invokevirtual 541, 3, 63, 2087, 722) := by decide +kernel
theorem f_102_71 : ftc (PT 102) 71 = some (71, .iload_n 2, 1, 0, 0, 0) := by decide +kernel
theorem f_102_72 : ftc (PT 102) 72 = some (72, .ireturn, 1, 0, 0, 0) := by decide +kernel
theorem f_104_4 : ftc (PT 104) 4 = some (4, .iload_n 2, 1, 0, 0, 0) := by decide +kernel
theorem f_104_5 : ftc (PT 104) 5 = some (5, .iconst 4, 1, 0, 0, 0) := by decide +kernel
theorem f_104_6 : ftc (PT 104) 6 = some (6, .if_icmp .ge 27, 3, 33, 0, 0) := by decide +kernel
theorem f_104_9 : ftc (PT 104) 9 = some (9, .aload_n 0, 1, 0, 0, 0) := by decide +kernel
theorem f_104_10 : ftc (PT 104) 10 = some (10, .getfield 28, 3, 11, 3, 471) := by decide +kernel
theorem f_104_13 : ftc (PT 104) 13 = some (13, .iload_n 2, 1, 0, 0, 0) := by decide +kernel
theorem f_104_14 : ftc (PT 104) 14 = some (14, .aaload, 1, 0, 0, 0) := by decide +kernel
theorem f_104_15 : ftc (PT 104) 15 = some (15, .getfield 182, 3, 7, 0, 452) := by decide +kernel
theorem f_104_18 : ftc (PT 104) 18 = some (18, .ifCond .eq 9, 3, 27, 0, 0) := by decide +kernel
theorem f_104_21 : ftc (PT 104) 21 = some (21, .iload_n 1, 1, 0, 0, 0) := by decide +kernel
theorem f_104_22 : ftc (PT 104) 22 = some (22, .iconst 1, 1, 0, 0, 0) := by decide +kernel
theorem f_104_23 : ftc (PT 104) 23 = some (23, .iload_n 2, 1, 0, 0, 0) := by decide +kernel
theorem f_104_24 : ftc (PT 104) 24 = some (24, .ishl, 1, 0, 0, 0) := by decide +kernel
theorem f_104_25 : ftc (PT 104) 25 = some (25, .ior, 1, 0, 0, 0) := by decide +kernel
theorem f_104_26 : ftc (PT 104) 26 = some (26, .istore_n 1, 1, 0, 0, 0) := by decide +kernel
theorem f_104_27 : ftc (PT 104) 27 = some (27, .iinc 2 1, 3, 0, 0, 0) := by decide +kernel
theorem f_104_30 : ftc (PT 104) 30 = some (30, .goto (-26), 3, 4, 0, 0) := by decide +kernel
theorem f_104_33 : ftc (PT 104) 33 = some (33, .iload_n 1, 1, 0, 0, 0) := by decide +kernel
theorem f_104_34 : ftc (PT 104) 34 = some (34, .ireturn, 1, 0, 0, 0) := by decide +kernel
theorem f_202_0 : ftc (PT 202) 0 = some (0, .aload_n 0, 1, 0, 0, 0) := by decide +kernel
theorem f_202_1 : ftc (PT 202) 1 = some (1, .iload_n 1, 1, 0, 0, 0) := by decide +kernel
theorem f_202_2 : ftc (PT 202) 2 = some (2, .invokevirtual 179, 3, 203, 2091, 1600) := by decide +kernel
theorem f_202_5 : ftc (PT 202) 5 = some (5, .aload_n 0, 1, 0, 0, 0) := by decide +kernel
theorem f_202_6 : ftc (PT 202) 6 = some (6, .getfield 28, 3, 11, 3, 471) := by decide +kernel
theorem f_202_9 : ftc (PT 202) 9 = some (9, .iload_n 1, 1, 0, 0, 0) := by decide +kernel
theorem f_202_10 : ftc (PT 202) 10 = some (10, .aaload, 1, 0, 0, 0) := by decide +kernel
theorem f_202_11 : ftc (PT 202) 11 = some (11, .iconst 1, 1, 0, 0, 0) := by decide +kernel
theorem f_202_12 : ftc (PT 202) 12 = some (12, .putfield 182, 3, 7, 0, 452) := by decide +kernel
theorem f_202_15 : ftc (PT 202) 15 = some (15, .aload_n 0, 1, 0, 0, 0) := by decide +kernel
theorem f_202_16 : ftc (PT 202) 16 = some (16, .getfield 28, 3, 11, 3, 471) := by decide +kernel
theorem f_202_19 : ftc (PT 202) 19 = some (19, .iload_n 1, 1, 0, 0, 0) := by decide +kernel
theorem f_202_20 : ftc (PT 202) 20 = some (20, .aaload, 1, 0, 0, 0) := by decide +kernel
theorem f_202_21 : ftc (PT 202) 21 = some (21, .getfield 186, 3, 7, 1, 454) := by decide +kernel
theorem f_202_24 : ftc (PT 202) 24 = some (24, .aload_n 0, 1, 0, 0, 0) := by decide +kernel
theorem f_202_25 : ftc (PT 202) 25 = some (25, .getfield 19, 3, 11, 1, 469) := by decide +kernel
theorem f_202_28 : ftc (PT 202) 28 = some (28, .invokevirtual 189, 3, 16, 2082, 611) := by decide +kernel
theorem f_202_31 : ftc (PT 202) 31 = some (31, .aload_n 0, 1, 0, 0, 0) := by decide +kernel
theorem f_202_32 : ftc (PT 202) 32 = some (32, .getfield 19, 3, 11, 1, 469) := by decide +kernel
theorem f_202_35 : ftc (PT 202) 35 = some (35, .getfield 127, 3, 2, 3, 221) := by decide +kernel
theorem f_202_38 : ftc (PT 202) 38 = some (38, .ireturn, 1, 0, 0, 0) := by decide +kernel
theorem f_204_0 : ftc (PT 204) 0 = some (0, .aload_n 0, 1, 0, 0, 0) := by decide +kernel
theorem f_204_1 : ftc (PT 204) 1 = some (1, .iload_n 1, 1, 0, 0, 0) := by decide +kernel
theorem f_204_2 : ftc (PT 204) 2 = some (2, .invokevirtual 179, 3, 203, 2091, 1600) := by decide +kernel
theorem f_204_5 : ftc (PT 204) 5 = some (5, .aload_n 0, 1, 0, 0, 0) := by decide +kernel
theorem f_204_6 : ftc (PT 204) 6 = some (6, .getfield 28, 3, 11, 3, 471) := by decide +kernel
theorem f_204_9 : ftc (PT 204) 9 = some (9, .iload_n 1, 1, 0, 0, 0) := by decide +kernel
theorem f_204_10 : ftc (PT 204) 10 = some (10, .aaload, 1, 0, 0, 0) := by decide +kernel
theorem f_204_11 : ftc (PT 204) 11 = some (11, .getfield 182, 3, 7, 0, 452) := by decide +kernel
theorem f_204_14 : ftc (PT 204) 14 = some (14, .ifCond .ne 11, 3, 25, 0, 0) := by decide +kernel
theorem f_204_17 : ftc (PT 204) 17 = some (17, .new 130, 3, 102, 6, 856) := by decide +kernel
theorem f_204_25 : ftc (PT 204) 25 = some (25, .aload_n 0, 1, 0, 0, 0) := by decide +kernel
theorem f_204_26 : ftc (PT 204) 26 = some (26, .getfield 19, 3, 11, 1, 469) := by decide +kernel
theorem f_204_29 : ftc (PT 204) 29 = some (29, .aload_n 0, 1, 0, 0, 0) := by decide +kernel
theorem f_204_30 : ftc (PT 204) 30 = some (30, .getfield 28, 3, 11, 3, 471) := by decide +kernel
theorem f_204_33 : ftc (PT 204) 33 = some (33, .iload_n 1, 1, 0, 0, 0) := by decide +kernel
theorem f_204_34 : ftc (PT 204) 34 = some (34, .aaload, 1, 0, 0, 0) := by decide +kernel
theorem f_204_35 : ftc (PT 204) 35 = some (35, .getfield 186, 3, 7, 1, 454) := by decide +kernel
theorem f_204_38 : ftc (PT 204) 38 = some (38, .invokevirtual 189, 3, 16, 2082, 611) := by decide +kernel
theorem f_204_41 : ftc (PT 204) 41 = some (41, .aload_n 0, 1, 0, 0, 0) := by decide +kernel
theorem f_204_42 : ftc (PT 204) 42 = some (42, .getfield 19, 3, 11, 1, 469) := by decide +kernel
theorem f_204_45 : ftc (PT 204) 45 = some (45, .getfield 127, 3, 2, 3, 221) := by decide +kernel
theorem f_204_48 : ftc (PT 204) 48 = some (48, .ireturn, 1, 0, 0, 0) := by decide +kernel
theorem f_413_0 : ftc (PT 413) 0 = some (0, .aload_n 2, 1, 0, 0, 0) := by decide +kernel
theorem f_413_1 : ftc (PT 413) 1 = some (1, .iconst 0, 1, 0, 0, 0) := by decide +kernel
theorem f_413_2 : ftc (PT 413) 2 = some (2, .aload_n 0, 1, 0, 0, 0) := by decide +kernel
theorem f_413_3 : ftc (PT 413) 3 = some (3, .iload_n 1, 1, 0, 0, 0) := by decide +kernel
theorem f_413_4 : ftc (PT 413) 4 = some (4, .invokevirtual 185, 3, 202, 2091, 1596) := by decide +kernel
theorem f_413_7 : ftc (PT 413) 7 = some (7, .i2l, 1, 0, 0, 0) := by decide +kernel
theorem f_413_8 : ftc (PT 413) 8 = some (8, .lastore, 1, 0, 0, 0) := by decide +kernel
theorem f_413_9 : ftc (PT 413) 9 = some (9, .goto 6, 3, 15, 0, 0) := by decide +kernel
theorem f_413_15 : ftc (PT 413) 15 = some (15, .iconst 0, 1, 0, 0, 0) := by decide +kernel
theorem f_413_16 : ftc (PT 413) 16 = some (16, .ireturn, 1, 0, 0, 0) := by decide +kernel
theorem f_414_0 : ftc (PT 414) 0 = some (0, .aload_n 2, 1, 0, 0, 0) := by decide +kernel
theorem f_414_1 : ftc (PT 414) 1 = some (1, .iconst 0, 1, 0, 0, 0) := by decide +kernel
theorem f_414_2 : ftc (PT 414) 2 = some (2, .aload_n 0, 1, 0, 0, 0) := by decide +kernel
theorem f_414_3 : ftc (PT 414) 3 = some (3, .iload_n 1, 1, 0, 0, 0) := by decide +kernel
theorem f_414_4 : ftc (PT 414) 4 = some (4, .invokevirtual 188, 3, 204, 2091, 1607) := by decide +kernel
theorem f_414_7 : ftc (PT 414) 7 = some (7, .i2l, 1, 0, 0, 0) := by decide +kernel
theorem f_414_8 : ftc (PT 414) 8 = some (8, .lastore, 1, 0, 0, 0) := by decide +kernel
theorem f_414_9 : ftc (PT 414) 9 = some (9, .goto 9, 3, 18, 0, 0) := by decide +kernel
theorem f_414_18 : ftc (PT 414) 18 = some (18, .iconst 0, 1, 0, 0, 0) := by decide +kernel
theorem f_414_19 : ftc (PT 414) 19 = some (19, .ireturn, 1, 0, 0, 0) := by decide +kernel
set_option maxRecDepth 10000 in
set_option maxHeartbeats 4000000 in
theorem s_12_0_31 {Lx : Nat} {I : Mi} {L : Ml} {e : Nat} {Q : Kq} {x1 : Int32} (h :
    (if x1 < 0 then
     Q (.inl (some (.int (Int32.ofInt 0)))) (gE Lx) I L e
    else
     (if x1 < (Int32.ofInt 4) then
      (inb x1 4 (
       Q (.inl (some (.int (I 32 x1.toNatClampNeg)))) (gE Lx) I L e)
      False)
     else
      Q (.inl (some (.int (Int32.ofInt 0)))) (gE Lx) I L e))) :
    Wp 12 0 [(0, .ref 31), (1, .int x1)] [] (gE Lx) I L e Q := by
  refine w_a f_12_0 ?_
  refine w_a f_12_1 ?_
  refine w_a f_12_2 ?_
  refine w_a (ls := [(0, .ref 31), (1, .int x1)]) f_13_0 ?_
  refine w_a f_13_1 ?_
  refine i_m (fun h => ?_) (fun h => ?_) h
  · refine w_a f_13_13 ?_
    refine w_a f_13_14 ?_
    refine w_a (ls := [(0, .ref 31), (1, .int x1)]) f_12_5 ?_
    refine w_a f_12_17 ?_
    refine w_a f_12_18 ?_
    exact h
  · refine w_a f_13_4 ?_
    refine w_a f_13_5 ?_
    refine w_a f_13_6 ?_
    refine i_m (fun h => ?_) (fun h => ?_) h
    · refine w_a f_13_9 ?_
      refine w_a f_13_10 ?_
      refine w_a f_13_14 ?_
      refine w_a (ls := [(0, .ref 31), (1, .int x1)]) f_12_5 ?_
      refine w_a f_12_8 ?_
      refine w_a f_12_9 ?_
      refine w_a f_12_12 ?_
      refine w_a f_12_13 ?_
      refine n_m (fun h => ?_) h
      refine w_a f_12_14 ?_
      refine w_a f_12_18 ?_
      exact h
    · refine w_a f_13_13 ?_
      refine w_a f_13_14 ?_
      refine w_a (ls := [(0, .ref 31), (1, .int x1)]) f_12_5 ?_
      refine w_a f_12_17 ?_
      refine w_a f_12_18 ?_
      exact h
set_option maxRecDepth 10000 in
set_option maxHeartbeats 4000000 in
theorem s_14_0_31 {Lx : Nat} {I : Mi} {L : Ml} {e : Nat} {Q : Kq} {x1 : Int32} (h :
    (if x1 < 0 then
     Q (.inl (some (.int (Int32.ofInt 0)))) (gE Lx) I L e
    else
     (if x1 < (Int32.ofInt 4) then
      (inb x1 4 (
       Q (.inl (some (.int (I 33 x1.toNatClampNeg)))) (gE Lx) I L e)
      False)
     else
      Q (.inl (some (.int (Int32.ofInt 0)))) (gE Lx) I L e))) :
    Wp 14 0 [(0, .ref 31), (1, .int x1)] [] (gE Lx) I L e Q := by
  refine w_a f_14_0 ?_
  refine w_a f_14_1 ?_
  refine w_a f_14_2 ?_
  refine w_a (ls := [(0, .ref 31), (1, .int x1)]) f_13_0 ?_
  refine w_a f_13_1 ?_
  refine i_m (fun h => ?_) (fun h => ?_) h
  · refine w_a f_13_13 ?_
    refine w_a f_13_14 ?_
    refine w_a (ls := [(0, .ref 31), (1, .int x1)]) f_14_5 ?_
    refine w_a f_14_17 ?_
    refine w_a f_14_18 ?_
    exact h
  · refine w_a f_13_4 ?_
    refine w_a f_13_5 ?_
    refine w_a f_13_6 ?_
    refine i_m (fun h => ?_) (fun h => ?_) h
    · refine w_a f_13_9 ?_
      refine w_a f_13_10 ?_
      refine w_a f_13_14 ?_
      refine w_a (ls := [(0, .ref 31), (1, .int x1)]) f_14_5 ?_
      refine w_a f_14_8 ?_
      refine w_a f_14_9 ?_
      refine w_a f_14_12 ?_
      refine w_a f_14_13 ?_
      refine n_m (fun h => ?_) h
      refine w_a f_14_14 ?_
      refine w_a f_14_18 ?_
      exact h
    · refine w_a f_13_13 ?_
      refine w_a f_13_14 ?_
      refine w_a (ls := [(0, .ref 31), (1, .int x1)]) f_14_5 ?_
      refine w_a f_14_17 ?_
      refine w_a f_14_18 ?_
      exact h
set_option maxRecDepth 10000 in
set_option maxHeartbeats 4000000 in
theorem s_15_0_31 {Lx : Nat} {I : Mi} {L : Ml} {e : Nat} {Q : Kq} {x1 : Int32} (h :
    (if x1 < 0 then
     Q (.inl (some (.int (Int32.ofInt 1)))) (gE Lx) I L e
    else
     (if x1 < (Int32.ofInt 4) then
      (inb x1 4 (
       Q (.inl (some (.int (I 34 x1.toNatClampNeg)))) (gE Lx) I L e)
      False)
     else
      Q (.inl (some (.int (Int32.ofInt 1)))) (gE Lx) I L e))) :
    Wp 15 0 [(0, .ref 31), (1, .int x1)] [] (gE Lx) I L e Q := by
  refine w_a f_15_0 ?_
  refine w_a f_15_1 ?_
  refine w_a f_15_2 ?_
  refine w_a (ls := [(0, .ref 31), (1, .int x1)]) f_13_0 ?_
  refine w_a f_13_1 ?_
  refine i_m (fun h => ?_) (fun h => ?_) h
  · refine w_a f_13_13 ?_
    refine w_a f_13_14 ?_
    refine w_a (ls := [(0, .ref 31), (1, .int x1)]) f_15_5 ?_
    refine w_a f_15_17 ?_
    refine w_a f_15_18 ?_
    exact h
  · refine w_a f_13_4 ?_
    refine w_a f_13_5 ?_
    refine w_a f_13_6 ?_
    refine i_m (fun h => ?_) (fun h => ?_) h
    · refine w_a f_13_9 ?_
      refine w_a f_13_10 ?_
      refine w_a f_13_14 ?_
      refine w_a (ls := [(0, .ref 31), (1, .int x1)]) f_15_5 ?_
      refine w_a f_15_8 ?_
      refine w_a f_15_9 ?_
      refine w_a f_15_12 ?_
      refine w_a f_15_13 ?_
      refine n_m (fun h => ?_) h
      refine w_a f_15_14 ?_
      refine w_a f_15_18 ?_
      exact h
    · refine w_a f_13_13 ?_
      refine w_a f_13_14 ?_
      refine w_a (ls := [(0, .ref 31), (1, .int x1)]) f_15_5 ?_
      refine w_a f_15_17 ?_
      refine w_a f_15_18 ?_
      exact h
set_option maxRecDepth 10000 in
set_option maxHeartbeats 4000000 in
theorem s_25_0_36 {Lx : Nat} {I : Mi} {L : Ml} {e : Nat} {Q : Kq} {y1 : Int64} {y3 : Int64} (h :
    Wp 26 0 [(0, .long y1), (2, .long y3)] [] (gE Lx) I L e (kcp (Wp 25) 25 2 0 [(0, .ref 36), (1, .long y1), (3, .long y3)] 71 [] Q)) :
    Wp 25 0 [(0, .ref 36), (1, .long y1), (3, .long y3)] [] (gE Lx) I L e Q := by
  refine w_a f_25_0 ?_
  refine w_a f_25_1 ?_
  exact w_c (ks := [0, 1, 3]) f_25_2 rfl rfl h
set_option maxRecDepth 10000 in
set_option maxHeartbeats 4000000 in
theorem s_25_5_36 {Lx : Nat} {I : Mi} {L : Ml} {e : Nat} {Q : Kq} {y1 : Int64} {y3 : Int64} {rl : Int64} (h :
    (if rl = (Int64.ofInt 0) then
     Q (.inl none) (gE Lx) I (ul (ul L 36 0 (Int64.ofInt 0)) 36 1 (Int64.ofInt 1)) e
    else
     (if y3 < (Int64.ofInt 0) then
      (if (-rl) = 0 then False else
       (if (-rl) = 0 then False else
        Q (.inl none) (gE Lx) I (ul (ul L 36 0 (y1 / (-rl))) 36 1 (y3 / (-rl))) e))
     else
      (if y3 = (Int64.ofInt 0) then
       (if y1 < (Int64.ofInt 0) then
        (if (-rl) = 0 then False else
         (if (-rl) = 0 then False else
          Q (.inl none) (gE Lx) I (ul (ul L 36 0 (y1 / (-rl))) 36 1 (y3 / (-rl))) e))
       else
        (if rl = 0 then False else
         (if rl = 0 then False else
          Q (.inl none) (gE Lx) I (ul (ul L 36 0 (y1 / rl)) 36 1 (y3 / rl)) e)))
      else
       (if rl = 0 then False else
        (if rl = 0 then False else
         Q (.inl none) (gE Lx) I (ul (ul L 36 0 (y1 / rl)) 36 1 (y3 / rl)) e)))))) :
    Wp 25 5 [(0, .ref 36), (1, .long y1), (3, .long y3)] [.long rl] (gE Lx) I L e Q := by
  refine w_a f_25_5 ?_
  refine w_a (ls := [(5, .long rl), (0, .ref 36), (1, .long y1), (3, .long y3)]) f_25_7 ?_
  refine w_a f_25_9 ?_
  refine w_a f_25_10 ?_
  refine i_m (fun h => ?_) (fun h => ?_) h
  · refine w_a f_25_14 ?_
    refine w_a f_25_15 ?_
    refine w_a f_25_16 ?_
    refine w_a f_25_19 ?_
    refine w_a f_25_20 ?_
    refine w_a f_25_21 ?_
    refine w_a f_25_24 ?_
    exact h
  · refine w_a f_25_25 ?_
    refine w_a f_25_26 ?_
    refine w_a f_25_27 ?_
    refine i_m (fun h => ?_) (fun h => ?_) h
    · refine w_a f_25_43 ?_
      refine w_a f_25_45 ?_
      refine w_a f_25_46 ?_
      refine w_a f_25_51 ?_
      refine w_a (ls := [(7, .long (-rl)), (5, .long rl), (0, .ref 36), (1, .long y1), (3, .long y3)]) f_25_53 ?_
      refine w_a f_25_54 ?_
      refine w_a f_25_55 ?_
      refine w_a f_25_57 ?_
      refine i_m id (fun h => ?_) h
      refine w_a f_25_58 ?_
      refine w_a f_25_61 ?_
      refine w_a f_25_62 ?_
      refine w_a f_25_63 ?_
      refine w_a f_25_65 ?_
      refine i_m id (fun h => ?_) h
      refine w_a f_25_66 ?_
      refine w_a f_25_69 ?_
      exact h
    · refine w_a f_25_31 ?_
      refine w_a f_25_32 ?_
      refine w_a f_25_33 ?_
      refine i_m (fun h => ?_) (fun h => ?_) h
      · refine w_a f_25_37 ?_
        refine w_a f_25_38 ?_
        refine w_a f_25_39 ?_
        refine i_m (fun h => ?_) (fun h => ?_) h
        · refine w_a f_25_43 ?_
          refine w_a f_25_45 ?_
          refine w_a f_25_46 ?_
          refine w_a f_25_51 ?_
          refine w_a (ls := [(7, .long (-rl)), (5, .long rl), (0, .ref 36), (1, .long y1), (3, .long y3)]) f_25_53 ?_
          refine w_a f_25_54 ?_
          refine w_a f_25_55 ?_
          refine w_a f_25_57 ?_
          refine i_m id (fun h => ?_) h
          refine w_a f_25_58 ?_
          refine w_a f_25_61 ?_
          refine w_a f_25_62 ?_
          refine w_a f_25_63 ?_
          refine w_a f_25_65 ?_
          refine i_m id (fun h => ?_) h
          refine w_a f_25_66 ?_
          refine w_a f_25_69 ?_
          exact h
        · refine w_a f_25_49 ?_
          refine w_a f_25_51 ?_
          refine w_a (ls := [(7, .long rl), (5, .long rl), (0, .ref 36), (1, .long y1), (3, .long y3)]) f_25_53 ?_
          refine w_a f_25_54 ?_
          refine w_a f_25_55 ?_
          refine w_a f_25_57 ?_
          refine i_m id (fun h => ?_) h
          refine w_a f_25_58 ?_
          refine w_a f_25_61 ?_
          refine w_a f_25_62 ?_
          refine w_a f_25_63 ?_
          refine w_a f_25_65 ?_
          refine i_m id (fun h => ?_) h
          refine w_a f_25_66 ?_
          refine w_a f_25_69 ?_
          exact h
      · refine w_a f_25_49 ?_
        refine w_a f_25_51 ?_
        refine w_a (ls := [(7, .long rl), (5, .long rl), (0, .ref 36), (1, .long y1), (3, .long y3)]) f_25_53 ?_
        refine w_a f_25_54 ?_
        refine w_a f_25_55 ?_
        refine w_a f_25_57 ?_
        refine i_m id (fun h => ?_) h
        refine w_a f_25_58 ?_
        refine w_a f_25_61 ?_
        refine w_a f_25_62 ?_
        refine w_a f_25_63 ?_
        refine w_a f_25_65 ?_
        refine i_m id (fun h => ?_) h
        refine w_a f_25_66 ?_
        refine w_a f_25_69 ?_
        exact h
set_option maxRecDepth 10000 in
set_option maxHeartbeats 4000000 in
theorem s_27_30_36 {Lx : Nat} {I : Mi} {L : Ml} {e : Nat} {Q : Kq} (h :
    Q (.inl none) (gE Lx) I L e) :
    Wp 27 30 [(0, .ref 36)] [] (gE Lx) I L e Q := by
  refine w_a f_27_30 ?_
  exact h
set_option maxRecDepth 10000 in
set_option maxHeartbeats 4000000 in
theorem s_97_0_31 {Lx : Nat} {I : Mi} {L : Ml} {e : Nat} {Q : Kq} {x2 : Int32} (h :
    Wp 97 24 [(0, .ref 1), (1, .ref 31), (2, .int x2), (3, .int (Int32.ofInt 0))] [] (gE Lx) I (ul (ul (ul (ul L 14 0 ((I 31 0).toInt64)) 14 1 ((I 31 1).toInt64)) 14 2 ((I 31 2).toInt64)) 14 3 (Int64.ofInt 0)) e Q) :
    Wp 97 0 [(0, .ref 1), (1, .ref 31), (2, .int x2)] [] (gE Lx) I L e Q := by
  refine w_a f_97_0 ?_
  refine w_a f_97_1 ?_
  refine w_a f_97_4 ?_
  refine w_a f_97_5 ?_
  refine w_a f_97_8 ?_
  refine w_a f_97_9 ?_
  refine w_a f_97_10 ?_
  refine w_a f_97_13 ?_
  refine w_a f_97_14 ?_
  refine w_a f_97_15 ?_
  refine w_a f_97_18 ?_
  refine w_a f_97_19 ?_
  refine w_a (ls := [(0, .ref 14), (1, .long (I 31 0).toInt64), (3, .long (I 31 1).toInt64), (5, .long (I 31 2).toInt64)]) f_74_0 ?_
  refine w_a f_74_1 ?_
  refine w_a f_74_2 ?_
  refine w_a f_74_5 ?_
  refine w_a f_74_6 ?_
  refine w_a f_74_7 ?_
  refine w_a f_74_10 ?_
  refine w_a f_74_11 ?_
  refine w_a f_74_13 ?_
  refine w_a f_74_16 ?_
  refine w_a f_74_17 ?_
  refine w_a f_74_18 ?_
  refine w_a f_74_21 ?_
  refine w_a (ls := [(0, .ref 1), (1, .ref 31), (2, .int x2)]) f_97_22 ?_
  refine w_a f_97_23 ?_
  exact w_n (ks := [0, 1, 2, 3]) rfl h
set_option maxRecDepth 10000 in
set_option maxHeartbeats 4000000 in
theorem s_97_24_31 {Lx : Nat} {I : Mi} {L : Ml} {e : Nat} {Q : Kq} {x2 : Int32} {x3 : Int32} (h :
    (if x3 < (I 31 3) then
     Wp 14 0 [(0, .ref 31), (1, .int x3)] [] (gE Lx) I L e (kcp (Wp 97) 97 44 0 [(0, .ref 1), (1, .ref 31), (2, .int x2), (3, .int x3)] 71 [.long ((Int64.ofInt 20) + x2.toInt64), .ref 18] Q)
    else
     Q (.inl none) (gE Lx) I L e)) :
    Wp 97 24 [(0, .ref 1), (1, .ref 31), (2, .int x2), (3, .int x3)] [] (gE Lx) I L e Q := by
  refine w_a f_97_24 ?_
  refine w_a f_97_25 ?_
  refine w_a f_97_26 ?_
  refine w_a f_97_29 ?_
  refine i_m (fun h => ?_) (fun h => ?_) h
  · refine w_a f_97_32 ?_
    refine w_a f_97_33 ?_
    refine w_a f_97_36 ?_
    refine w_a f_97_39 ?_
    refine w_a f_97_40 ?_
    refine w_a f_97_41 ?_
    refine w_a f_97_42 ?_
    refine w_a f_97_43 ?_
    exact w_c (ks := [0, 1, 2, 3]) f_97_44 rfl rfl h
  · refine w_a f_97_94 ?_
    exact h
set_option maxRecDepth 10000 in
set_option maxHeartbeats 4000000 in
theorem s_97_47_31 {Lx : Nat} {I : Mi} {L : Ml} {e : Nat} {Q : Kq} {x2 : Int32} {x3 : Int32} {rl1 : Int64} {r : Int32} (h :
    Wp 15 0 [(0, .ref 31), (1, .int x3)] [] (gE Lx) I L e (kcp (Wp 97) 97 54 0 [(0, .ref 1), (1, .ref 31), (2, .int x2), (3, .int x3)] 71 [.long (Int64.ofInt 20), .long (rl1 * r.toInt64), .ref 18] Q)) :
    Wp 97 47 [(0, .ref 1), (1, .ref 31), (2, .int x2), (3, .int x3)] [.int r, .long rl1, .ref 18] (gE Lx) I L e Q := by
  refine w_a f_97_47 ?_
  refine w_a f_97_48 ?_
  refine w_a f_97_49 ?_
  refine w_a f_97_52 ?_
  refine w_a f_97_53 ?_
  exact w_c (ks := [0, 1, 2, 3]) f_97_54 rfl rfl h
set_option maxRecDepth 10000 in
set_option maxHeartbeats 4000000 in
theorem s_97_57_31 {Lx : Nat} {I : Mi} {L : Ml} {e : Nat} {Q : Kq} {x2 : Int32} {x3 : Int32} {rl1 : Int64} {rl2 : Int64} {r : Int32} (h :
    Wp 25 0 [(0, .ref 18), (1, .long rl1), (3, .long (rl2 * r.toInt64))] [] (gE Lx) I L e (kcp (Wp 97) 97 59 0 [(0, .ref 1), (1, .ref 31), (2, .int x2), (3, .int x3)] 71 [] Q)) :
    Wp 97 57 [(0, .ref 1), (1, .ref 31), (2, .int x2), (3, .int x3)] [.int r, .long rl2, .long rl1, .ref 18] (gE Lx) I L e Q := by
  refine w_a f_97_57 ?_
  refine w_a f_97_58 ?_
  exact w_c (ks := [0, 1, 2, 3]) f_97_59 rfl rfl h
set_option maxRecDepth 10000 in
set_option maxHeartbeats 4000000 in
theorem s_97_62_31 {Lx : Nat} {I : Mi} {L : Ml} {e : Nat} {Q : Kq} {x2 : Int32} {x3 : Int32} (h :
    Wp 12 0 [(0, .ref 31), (1, .int x3)] [] (gE Lx) I L e (kcp (Wp 97) 97 68 0 [(0, .ref 1), (1, .ref 31), (2, .int x2), (3, .int x3)] 71 [.ref 14] Q)) :
    Wp 97 62 [(0, .ref 1), (1, .ref 31), (2, .int x2), (3, .int x3)] [] (gE Lx) I L e Q := by
  refine w_a f_97_62 ?_
  refine w_a f_97_63 ?_
  refine w_a f_97_66 ?_
  refine w_a f_97_67 ?_
  exact w_c (ks := [0, 1, 2, 3]) f_97_68 rfl rfl h
set_option maxRecDepth 10000 in
set_option maxHeartbeats 4000000 in
theorem s_97_71_31 {Lx : Nat} {I : Mi} {L : Ml} {e : Nat} {Q : Kq} {x2 : Int32} {x3 : Int32} {r : Int32} (h :
    Wp 75 0 [(0, .ref 14), (1, .int r), (2, .long (L 18 0)), (4, .long (L 18 1))] [] (gE Lx) I L e (kcp (Wp 97) 97 85 0 [(0, .ref 1), (1, .ref 31), (2, .int x2), (3, .int x3)] 71 [] Q)) :
    Wp 97 71 [(0, .ref 1), (1, .ref 31), (2, .int x2), (3, .int x3)] [.int r, .ref 14] (gE Lx) I L e Q := by
  refine w_a f_97_71 ?_
  refine w_a f_97_72 ?_
  refine w_a f_97_75 ?_
  refine w_a f_97_78 ?_
  refine w_a f_97_79 ?_
  refine w_a f_97_82 ?_
  exact w_c (ks := [0, 1, 2, 3]) f_97_85 rfl rfl h
set_option maxRecDepth 10000 in
set_option maxHeartbeats 4000000 in
theorem s_97_88_31 {Lx : Nat} {I : Mi} {L : Ml} {e : Nat} {Q : Kq} {x2 : Int32} {x3 : Int32} (h :
    Wp 97 24 [(0, .ref 1), (1, .ref 31), (2, .int x2), (3, .int (x3 + Int32.ofInt 1))] [] (gE Lx) I L e Q) :
    Wp 97 88 [(0, .ref 1), (1, .ref 31), (2, .int x2), (3, .int x3)] [] (gE Lx) I L e Q := by
  refine w_a f_97_88 ?_
  refine w_a (ls := [(3, .int (x3 + Int32.ofInt 1)), (0, .ref 1), (1, .ref 31), (2, .int x2)]) f_97_91 ?_
  exact w_n (ks := [0, 1, 2, 3]) rfl h
set_option maxRecDepth 10000 in
set_option maxHeartbeats 4000000 in
theorem s_96_0_31 {Lx : Nat} {I : Mi} {L : Ml} {e : Nat} {Q : Kq} {x2 : Int32} (h :
    Wp 97 0 [(0, .ref 1), (1, .ref 31), (2, .int x2)] [] (gE Lx) I L e (kcp (Wp 96) 96 3 0 [(0, .ref 1), (1, .ref 31)] 71 [] Q)) :
    Wp 96 0 [(0, .ref 1), (1, .ref 31), (2, .int x2)] [] (gE Lx) I L e Q := by
  refine w_a f_96_0 ?_
  refine w_a f_96_1 ?_
  refine w_a f_96_2 ?_
  exact w_c (ks := [0, 1]) f_96_3 rfl rfl h
set_option maxRecDepth 10000 in
set_option maxHeartbeats 4000000 in
theorem s_96_6_31 {Lx : Nat} {I : Mi} {L : Ml} {e : Nat} {Q : Kq} (h :
    Wp 98 0 [(0, .ref 1)] [] (gE Lx) I L e (kcp (Wp 96) 96 7 0 [(0, .ref 1), (1, .ref 31)] 71 [] Q)) :
    Wp 96 6 [(0, .ref 1), (1, .ref 31)] [] (gE Lx) I L e Q := by
  refine w_a f_96_6 ?_
  exact w_c (ks := [0, 1]) f_96_7 rfl rfl h
set_option maxRecDepth 10000 in
set_option maxHeartbeats 4000000 in
theorem s_96_10_31 {Lx : Nat} {I : Mi} {L : Ml} {e : Nat} {Q : Kq} {r : Int32} (h :
    (if r = 0 then
     Q (.inl (some (.int (Int32.ofInt 0)))) (gE Lx) I L e
    else if r = 1 then
     Q (.inl (some (.int (Int32.ofInt 1)))) (gE Lx) I L e
    else False)) :
    Wp 96 10 [(0, .ref 1), (1, .ref 31)] [.int r] (gE Lx) I L e Q := by
  refine w_a f_96_10 ?_
  refine i_m (fun h => ?_) (i_m (fun h => ?_) id) h
  · exact h
  · exact h
set_option maxRecDepth 10000 in
set_option maxHeartbeats 4000000 in
theorem s_95_0_31 {Lx : Nat} {I : Mi} {L : Ml} {e : Nat} {Q : Kq} (h :
    Wp 95 4 [(0, .ref 1), (1, .ref 31), (2, .int (Int32.ofInt (-1))), (3, .int (Int32.ofInt 0))] [] (gE Lx) I L e Q) :
    Wp 95 0 [(0, .ref 1), (1, .ref 31)] [] (gE Lx) I L e Q := by
  refine w_a f_95_0 ?_
  refine w_a f_95_1 ?_
  refine w_a (ls := [(2, .int (Int32.ofInt (-1))), (0, .ref 1), (1, .ref 31)]) f_95_2 ?_
  refine w_a f_95_3 ?_
  exact w_n (ks := [0, 1, 2, 3]) rfl h
set_option maxRecDepth 10000 in
set_option maxHeartbeats 4000000 in
theorem s_95_4_31 {Lx : Nat} {I : Mi} {L : Ml} {e : Nat} {Q : Kq} {x2 : Int32} {x3 : Int32} (h :
    (if (Int32.ofInt 10) < x3 then
     Q (.inl (some (.int x2))) (gE Lx) I L e
    else
     Wp 97 0 [(0, .ref 1), (1, .ref 31), (2, .int x3)] [] (gE Lx) I L e (kcp (Wp 96) 96 3 0 [(0, .ref 1), (1, .ref 31)] 71 [] (kcp (Wp 95) 95 13 0 [(0, .ref 1), (1, .ref 31), (2, .int x2), (3, .int x3)] 71 [] Q)))) :
    Wp 95 4 [(0, .ref 1), (1, .ref 31), (2, .int x2), (3, .int x3)] [] (gE Lx) I L e Q := by
  refine w_a f_95_4 ?_
  refine w_a f_95_5 ?_
  refine w_a f_95_7 ?_
  refine i_m (fun h => ?_) (fun h => ?_) h
  · refine w_a f_95_39 ?_
    refine w_a f_95_40 ?_
    exact h
  · refine w_a f_95_10 ?_
    refine w_a f_95_11 ?_
    refine w_a f_95_12 ?_
    refine w_c (ks := [0, 1, 2, 3]) f_95_13 rfl rfl ?_
    refine w_a (ls := [(0, .ref 1), (1, .ref 31), (2, .int x3)]) f_96_0 ?_
    refine w_a f_96_1 ?_
    refine w_a f_96_2 ?_
    exact w_c (ks := [0, 1]) f_96_3 rfl rfl h
set_option maxRecDepth 10000 in
set_option maxHeartbeats 4000000 in
theorem s_95_16_31 {Lx : Nat} {I : Mi} {L : Ml} {e : Nat} {Q : Kq} {x2 : Int32} {x3 : Int32} {r : Int32} (h :
    (if r = 0 then
     Q (.inl (some (.int x2))) (gE Lx) I L e
    else
     Wp 97 0 [(0, .ref 1), (1, .ref 31), (2, .int (-x3))] [] (gE Lx) I L e (kcp (Wp 96) 96 3 0 [(0, .ref 1), (1, .ref 31)] 71 [] (kcp (Wp 95) 95 23 0 [(0, .ref 1), (1, .ref 31), (2, .int x2), (3, .int x3)] 71 [] Q)))) :
    Wp 95 16 [(0, .ref 1), (1, .ref 31), (2, .int x2), (3, .int x3)] [.int r] (gE Lx) I L e Q := by
  refine w_a f_95_16 ?_
  refine i_m (fun h => ?_) (fun h => ?_) h
  · refine w_a f_95_29 ?_
    refine w_a f_95_30 ?_
    exact h
  · refine w_a f_95_19 ?_
    refine w_a f_95_20 ?_
    refine w_a f_95_21 ?_
    refine w_a f_95_22 ?_
    refine w_c (ks := [0, 1, 2, 3]) f_95_23 rfl rfl ?_
    refine w_a (ls := [(0, .ref 1), (1, .ref 31), (2, .int (-x3))]) f_96_0 ?_
    refine w_a f_96_1 ?_
    refine w_a f_96_2 ?_
    exact w_c (ks := [0, 1]) f_96_3 rfl rfl h
set_option maxRecDepth 10000 in
set_option maxHeartbeats 4000000 in
theorem s_95_26_31 {Lx : Nat} {I : Mi} {L : Ml} {e : Nat} {Q : Kq} {x2 : Int32} {x3 : Int32} {r : Int32} (h :
    (if r = 0 then
     Q (.inl (some (.int x2))) (gE Lx) I L e
    else
     Wp 95 4 [(0, .ref 1), (1, .ref 31), (2, .int x3), (3, .int (x3 + Int32.ofInt 1))] [] (gE Lx) I L e Q)) :
    Wp 95 26 [(0, .ref 1), (1, .ref 31), (2, .int x2), (3, .int x3)] [.int r] (gE Lx) I L e Q := by
  refine w_a f_95_26 ?_
  refine i_m (fun h => ?_) (fun h => ?_) h
  · refine w_a f_95_29 ?_
    refine w_a f_95_30 ?_
    exact h
  · refine w_a f_95_31 ?_
    refine w_a f_95_32 ?_
    refine w_a (ls := [(2, .int x3), (0, .ref 1), (1, .ref 31), (3, .int x3)]) f_95_33 ?_
    refine w_a (ls := [(3, .int (x3 + Int32.ofInt 1)), (2, .int x3), (0, .ref 1), (1, .ref 31)]) f_95_36 ?_
    exact w_n (ks := [0, 1, 2, 3]) rfl h
set_option maxRecDepth 10000 in
set_option maxHeartbeats 4000000 in
theorem s_65_0_31 {Lx : Nat} {I : Mi} {L : Ml} {e : Nat} {Q : Kq} (h :
    Wp 25 0 [(0, .ref 36), (1, .long (Int64.ofInt 0)), (3, .long (Int64.ofInt 1))] [] (gE Lx) (ui I 35 0 (Int32.ofInt 0)) L e (kcp (Wp 65) 65 11 0 [(0, .ref 35), (1, .ref 31)] 71 [] Q)) :
    Wp 65 0 [(0, .ref 35), (1, .ref 31)] [] (gE Lx) I L e Q := by
  refine w_a f_65_0 ?_
  refine w_a f_65_1 ?_
  refine w_a f_65_2 ?_
  refine w_a f_65_5 ?_
  refine w_a f_65_6 ?_
  refine w_a f_65_9 ?_
  refine w_a f_65_10 ?_
  exact w_c (ks := [0, 1]) f_65_11 rfl rfl h
set_option maxRecDepth 10000 in
set_option maxHeartbeats 4000000 in
theorem s_65_14_31 {Lx : Nat} {I : Mi} {L : Ml} {e : Nat} {Q : Kq} (h :
    Wp 65 16 [(0, .ref 35), (1, .ref 31), (2, .int (Int32.ofInt 0))] [] (gE Lx) I L e Q) :
    Wp 65 14 [(0, .ref 35), (1, .ref 31)] [] (gE Lx) I L e Q := by
  refine w_a f_65_14 ?_
  refine w_a f_65_15 ?_
  exact w_n (ks := [0, 1, 2]) rfl h
set_option maxRecDepth 10000 in
set_option maxHeartbeats 4000000 in
theorem s_65_16_31 {Lx : Nat} {I : Mi} {L : Ml} {e : Nat} {Q : Kq} {x2 : Int32} (h :
    (if x2 < (I 31 3) then
     Wp 14 0 [(0, .ref 31), (1, .int x2)] [] (gE Lx) I L e (kcp (Wp 65) 65 47 0 [(0, .ref 35), (1, .ref 31), (2, .int x2), (3, .long (L 36 0)), (5, .long (L 36 1))] 71 [.ref 36] Q)
    else
     Q (.inl none) (gE Lx) I L e)) :
    Wp 65 16 [(0, .ref 35), (1, .ref 31), (2, .int x2)] [] (gE Lx) I L e Q := by
  refine w_a f_65_16 ?_
  refine w_a f_65_17 ?_
  refine w_a f_65_18 ?_
  refine w_a f_65_21 ?_
  refine i_m (fun h => ?_) (fun h => ?_) h
  · refine w_a f_65_24 ?_
    refine w_a f_65_25 ?_
    refine w_a f_65_28 ?_
    refine w_a f_65_31 ?_
    refine w_a (ls := [(3, .long (L 36 0)), (0, .ref 35), (1, .ref 31), (2, .int x2)]) f_65_32 ?_
    refine w_a f_65_33 ?_
    refine w_a f_65_36 ?_
    refine w_a f_65_39 ?_
    refine w_a (ls := [(5, .long (L 36 1)), (3, .long (L 36 0)), (0, .ref 35), (1, .ref 31), (2, .int x2)]) f_65_41 ?_
    refine w_a f_65_42 ?_
    refine w_a f_65_45 ?_
    refine w_a f_65_46 ?_
    exact w_c (ks := [0, 1, 2, 3, 5]) f_65_47 rfl rfl h
  · refine w_a f_65_99 ?_
    exact h
set_option maxRecDepth 10000 in
set_option maxHeartbeats 4000000 in
theorem s_65_50_31 {Lx : Nat} {I : Mi} {L : Ml} {e : Nat} {Q : Kq} {x2 : Int32} {y3 : Int64} {y5 : Int64} {r : Int32} (h :
    Wp 15 0 [(0, .ref 31), (1, .int x2)] [] (gE Lx) I L e (kcp (Wp 65) 65 53 0 [(0, .ref 35), (1, .ref 31), (2, .int x2), (3, .long y3), (5, .long y5)] 71 [.long r.toInt64, .ref 36] Q)) :
    Wp 65 50 [(0, .ref 35), (1, .ref 31), (2, .int x2), (3, .long y3), (5, .long y5)] [.int r, .ref 36] (gE Lx) I L e Q := by
  refine w_a f_65_50 ?_
  refine w_a f_65_51 ?_
  refine w_a f_65_52 ?_
  exact w_c (ks := [0, 1, 2, 3, 5]) f_65_53 rfl rfl h
set_option maxRecDepth 10000 in
set_option maxHeartbeats 4000000 in
theorem s_65_56_31 {Lx : Nat} {I : Mi} {L : Ml} {e : Nat} {Q : Kq} {x2 : Int32} {y3 : Int64} {y5 : Int64} {rl1 : Int64} {r : Int32} (h :
    Wp 25 0 [(0, .ref 36), (1, .long (((L 36 0) * r.toInt64) + ((L 36 1) * rl1))), (3, .long (((L 36 1) * r.toInt64) - ((L 36 0) * rl1)))] [] (gE Lx) I L e (kcp (Wp 27) 27 27 0 [(0, .ref 36)] 71 [] (kcp (Wp 65) 65 57 0 [(0, .ref 35), (1, .ref 31), (2, .int x2), (3, .long y3), (5, .long y5)] 71 [] Q))) :
    Wp 65 56 [(0, .ref 35), (1, .ref 31), (2, .int x2), (3, .long y3), (5, .long y5)] [.int r, .long rl1, .ref 36] (gE Lx) I L e Q := by
  refine w_a f_65_56 ?_
  refine w_c (ks := [0, 1, 2, 3, 5]) f_65_57 rfl rfl ?_
  refine w_a (ls := [(0, .ref 36), (1, .long rl1), (3, .long r.toInt64)]) f_27_0 ?_
  refine w_a f_27_1 ?_
  refine w_a f_27_2 ?_
  refine w_a f_27_5 ?_
  refine w_a f_27_6 ?_
  refine w_a f_27_7 ?_
  refine w_a f_27_8 ?_
  refine w_a f_27_11 ?_
  refine w_a f_27_12 ?_
  refine w_a f_27_13 ?_
  refine w_a f_27_14 ?_
  refine w_a f_27_15 ?_
  refine w_a f_27_18 ?_
  refine w_a f_27_19 ?_
  refine w_a f_27_20 ?_
  refine w_a f_27_21 ?_
  refine w_a f_27_24 ?_
  refine w_a f_27_25 ?_
  refine w_a f_27_26 ?_
  exact w_c (ks := [0]) f_27_27 rfl rfl h
set_option maxRecDepth 10000 in
set_option maxHeartbeats 4000000 in
theorem s_65_60_31 {Lx : Nat} {I : Mi} {L : Ml} {e : Nat} {Q : Kq} {x2 : Int32} {y3 : Int64} {y5 : Int64} (h :
    Wp 28 0 [(0, .long (L 36 0)), (2, .long (L 36 1)), (4, .long y3), (6, .long y5)] [] (gE Lx) I L e (kcp (Wp 65) 65 77 0 [(0, .ref 35), (1, .ref 31), (2, .int x2)] 71 [] Q)) :
    Wp 65 60 [(0, .ref 35), (1, .ref 31), (2, .int x2), (3, .long y3), (5, .long y5)] [] (gE Lx) I L e Q := by
  refine w_a f_65_60 ?_
  refine w_a f_65_61 ?_
  refine w_a f_65_64 ?_
  refine w_a f_65_67 ?_
  refine w_a f_65_68 ?_
  refine w_a f_65_71 ?_
  refine w_a f_65_74 ?_
  refine w_a f_65_75 ?_
  exact w_c (ks := [0, 1, 2]) f_65_77 rfl rfl h
set_option maxRecDepth 10000 in
set_option maxHeartbeats 4000000 in
theorem s_65_80_31 {Lx : Nat} {I : Mi} {L : Ml} {e : Nat} {Q : Kq} {x2 : Int32} {r : Int32} (h :
    (if r < 0 then
     Wp 65 16 [(0, .ref 35), (1, .ref 31), (2, .int (x2 + Int32.ofInt 1))] [] (gE Lx) (ui I 35 0 ((I 35 0) + (Int32.ofInt 1))) L e Q
    else
     Wp 65 16 [(0, .ref 35), (1, .ref 31), (2, .int (x2 + Int32.ofInt 1))] [] (gE Lx) I L e Q)) :
    Wp 65 80 [(0, .ref 35), (1, .ref 31), (2, .int x2)] [.int r] (gE Lx) I L e Q := by
  refine w_a f_65_80 ?_
  refine i_m (fun h => ?_) (fun h => ?_) h
  · refine w_a f_65_83 ?_
    refine w_a f_65_84 ?_
    refine w_a f_65_85 ?_
    refine w_a f_65_88 ?_
    refine w_a f_65_89 ?_
    refine w_a f_65_90 ?_
    refine w_a f_65_93 ?_
    refine w_a (ls := [(2, .int (x2 + Int32.ofInt 1)), (0, .ref 35), (1, .ref 31)]) f_65_96 ?_
    exact w_n (ks := [0, 1, 2]) rfl h
  · refine w_a f_65_93 ?_
    refine w_a (ls := [(2, .int (x2 + Int32.ofInt 1)), (0, .ref 35), (1, .ref 31)]) f_65_96 ?_
    exact w_n (ks := [0, 1, 2]) rfl h
set_option maxRecDepth 10000 in
set_option maxHeartbeats 4000000 in
theorem s_66_0_0_0 {Lx : Nat} {I : Mi} {L : Ml} {e : Nat} {Q : Kq} (h :
    (if (I 35 0) = (I 35 0) then
     Wp 28 0 [(0, .long (L 36 0)), (2, .long (L 36 1)), (4, .long (L 36 0)), (6, .long (L 36 1))] [] (gE Lx) I L e (kcp (Wp 66) 66 56 0 [(0, .ref 35), (1, .ref 35)] 71 [] Q)
    else
     (if (I 35 0) < (I 35 0) then
      Q (.inl (some (.int (Int32.ofInt (-1))))) (gE Lx) I L e
     else
      Q (.inl (some (.int (Int32.ofInt 1)))) (gE Lx) I L e))) :
    Wp 66 0 [(0, .ref 35), (1, .ref 35)] [] (gE Lx) I L e Q := by
  refine w_a f_66_0 ?_
  refine w_a f_66_1 ?_
  refine w_a f_66_4 ?_
  refine w_a f_66_5 ?_
  refine w_a f_66_8 ?_
  refine i_m (fun h => ?_) (fun h => ?_) h
  · refine w_a f_66_28 ?_
    refine w_a f_66_29 ?_
    refine w_a f_66_32 ?_
    refine w_a f_66_35 ?_
    refine w_a f_66_36 ?_
    refine w_a f_66_39 ?_
    refine w_a f_66_42 ?_
    refine w_a f_66_43 ?_
    refine w_a f_66_46 ?_
    refine w_a f_66_49 ?_
    refine w_a f_66_50 ?_
    refine w_a f_66_53 ?_
    exact w_c (ks := [0, 1]) f_66_56 rfl rfl h
  · refine w_a f_66_11 ?_
    refine w_a f_66_12 ?_
    refine w_a f_66_15 ?_
    refine w_a f_66_16 ?_
    refine w_a f_66_19 ?_
    refine i_m (fun h => ?_) (fun h => ?_) h
    · refine w_a f_66_22 ?_
      refine w_a f_66_23 ?_
      refine w_a f_66_27 ?_
      exact h
    · refine w_a f_66_26 ?_
      refine w_a f_66_27 ?_
      exact h
set_option maxRecDepth 10000 in
set_option maxHeartbeats 4000000 in
theorem s_66_59_0_0 {Lx : Nat} {I : Mi} {L : Ml} {e : Nat} {Q : Kq} {r : Int32} (h :
    Q (.inl (some (.int r))) (gE Lx) I L e) :
    Wp 66 59 [(0, .ref 35), (1, .ref 35)] [.int r] (gE Lx) I L e Q := by
  refine w_a f_66_59 ?_
  exact h
set_option maxRecDepth 10000 in
set_option maxHeartbeats 4000000 in
theorem s_63_39_0_0 {Lx : Nat} {I : Mi} {L : Ml} {e : Nat} {Q : Kq} {r : Int32} (h :
    (if r < 0 then
     Q (.inl (some (.int (Int32.ofInt 1)))) (gE Lx) I L e
    else
     Q (.inl (some (.int (Int32.ofInt 0)))) (gE Lx) I L e)) :
    Wp 63 39 [(0, .ref 30), (1, .ref 30)] [.int r] (gE Lx) I L e Q := by
  refine w_a f_63_39 ?_
  refine i_m (fun h => ?_) (fun h => ?_) h
  · refine w_a f_63_42 ?_
    refine w_a f_63_43 ?_
    refine w_a f_63_47 ?_
    exact h
  · refine w_a f_63_46 ?_
    refine w_a f_63_47 ?_
    exact h
set_option maxRecDepth 10000 in
set_option maxHeartbeats 4000000 in
theorem s_66_0_0_1 {Lx : Nat} {I : Mi} {L : Ml} {e : Nat} {Q : Kq} (h :
    (if (I 35 0) = (I 42 0) then
     Wp 28 0 [(0, .long (L 36 0)), (2, .long (L 36 1)), (4, .long (L 43 0)), (6, .long (L 43 1))] [] (gE Lx) I L e (kcp (Wp 66) 66 56 0 [(0, .ref 35), (1, .ref 42)] 71 [] Q)
    else
     (if (I 35 0) < (I 42 0) then
      Q (.inl (some (.int (Int32.ofInt (-1))))) (gE Lx) I L e
     else
      Q (.inl (some (.int (Int32.ofInt 1)))) (gE Lx) I L e))) :
    Wp 66 0 [(0, .ref 35), (1, .ref 42)] [] (gE Lx) I L e Q := by
  refine w_a f_66_0 ?_
  refine w_a f_66_1 ?_
  refine w_a f_66_4 ?_
  refine w_a f_66_5 ?_
  refine w_a f_66_8 ?_
  refine i_m (fun h => ?_) (fun h => ?_) h
  · refine w_a f_66_28 ?_
    refine w_a f_66_29 ?_
    refine w_a f_66_32 ?_
    refine w_a f_66_35 ?_
    refine w_a f_66_36 ?_
    refine w_a f_66_39 ?_
    refine w_a f_66_42 ?_
    refine w_a f_66_43 ?_
    refine w_a f_66_46 ?_
    refine w_a f_66_49 ?_
    refine w_a f_66_50 ?_
    refine w_a f_66_53 ?_
    exact w_c (ks := [0, 1]) f_66_56 rfl rfl h
  · refine w_a f_66_11 ?_
    refine w_a f_66_12 ?_
    refine w_a f_66_15 ?_
    refine w_a f_66_16 ?_
    refine w_a f_66_19 ?_
    refine i_m (fun h => ?_) (fun h => ?_) h
    · refine w_a f_66_22 ?_
      refine w_a f_66_23 ?_
      refine w_a f_66_27 ?_
      exact h
    · refine w_a f_66_26 ?_
      refine w_a f_66_27 ?_
      exact h
set_option maxRecDepth 10000 in
set_option maxHeartbeats 4000000 in
theorem s_66_59_0_1 {Lx : Nat} {I : Mi} {L : Ml} {e : Nat} {Q : Kq} {r : Int32} (h :
    Q (.inl (some (.int r))) (gE Lx) I L e) :
    Wp 66 59 [(0, .ref 35), (1, .ref 42)] [.int r] (gE Lx) I L e Q := by
  refine w_a f_66_59 ?_
  exact h
set_option maxRecDepth 10000 in
set_option maxHeartbeats 4000000 in
theorem s_63_39_0_1 {Lx : Nat} {I : Mi} {L : Ml} {e : Nat} {Q : Kq} {r : Int32} (h :
    (if r < 0 then
     Q (.inl (some (.int (Int32.ofInt 1)))) (gE Lx) I L e
    else
     Q (.inl (some (.int (Int32.ofInt 0)))) (gE Lx) I L e)) :
    Wp 63 39 [(0, .ref 30), (1, .ref 37)] [.int r] (gE Lx) I L e Q := by
  refine w_a f_63_39 ?_
  refine i_m (fun h => ?_) (fun h => ?_) h
  · refine w_a f_63_42 ?_
    refine w_a f_63_43 ?_
    refine w_a f_63_47 ?_
    exact h
  · refine w_a f_63_46 ?_
    refine w_a f_63_47 ?_
    exact h
set_option maxRecDepth 10000 in
set_option maxHeartbeats 4000000 in
theorem s_66_0_0_2 {Lx : Nat} {I : Mi} {L : Ml} {e : Nat} {Q : Kq} (h :
    (if (I 35 0) = (I 49 0) then
     Wp 28 0 [(0, .long (L 36 0)), (2, .long (L 36 1)), (4, .long (L 50 0)), (6, .long (L 50 1))] [] (gE Lx) I L e (kcp (Wp 66) 66 56 0 [(0, .ref 35), (1, .ref 49)] 71 [] Q)
    else
     (if (I 35 0) < (I 49 0) then
      Q (.inl (some (.int (Int32.ofInt (-1))))) (gE Lx) I L e
     else
      Q (.inl (some (.int (Int32.ofInt 1)))) (gE Lx) I L e))) :
    Wp 66 0 [(0, .ref 35), (1, .ref 49)] [] (gE Lx) I L e Q := by
  refine w_a f_66_0 ?_
  refine w_a f_66_1 ?_
  refine w_a f_66_4 ?_
  refine w_a f_66_5 ?_
  refine w_a f_66_8 ?_
  refine i_m (fun h => ?_) (fun h => ?_) h
  · refine w_a f_66_28 ?_
    refine w_a f_66_29 ?_
    refine w_a f_66_32 ?_
    refine w_a f_66_35 ?_
    refine w_a f_66_36 ?_
    refine w_a f_66_39 ?_
    refine w_a f_66_42 ?_
    refine w_a f_66_43 ?_
    refine w_a f_66_46 ?_
    refine w_a f_66_49 ?_
    refine w_a f_66_50 ?_
    refine w_a f_66_53 ?_
    exact w_c (ks := [0, 1]) f_66_56 rfl rfl h
  · refine w_a f_66_11 ?_
    refine w_a f_66_12 ?_
    refine w_a f_66_15 ?_
    refine w_a f_66_16 ?_
    refine w_a f_66_19 ?_
    refine i_m (fun h => ?_) (fun h => ?_) h
    · refine w_a f_66_22 ?_
      refine w_a f_66_23 ?_
      refine w_a f_66_27 ?_
      exact h
    · refine w_a f_66_26 ?_
      refine w_a f_66_27 ?_
      exact h
set_option maxRecDepth 10000 in
set_option maxHeartbeats 4000000 in
theorem s_66_59_0_2 {Lx : Nat} {I : Mi} {L : Ml} {e : Nat} {Q : Kq} {r : Int32} (h :
    Q (.inl (some (.int r))) (gE Lx) I L e) :
    Wp 66 59 [(0, .ref 35), (1, .ref 49)] [.int r] (gE Lx) I L e Q := by
  refine w_a f_66_59 ?_
  exact h
set_option maxRecDepth 10000 in
set_option maxHeartbeats 4000000 in
theorem s_63_39_0_2 {Lx : Nat} {I : Mi} {L : Ml} {e : Nat} {Q : Kq} {r : Int32} (h :
    (if r < 0 then
     Q (.inl (some (.int (Int32.ofInt 1)))) (gE Lx) I L e
    else
     Q (.inl (some (.int (Int32.ofInt 0)))) (gE Lx) I L e)) :
    Wp 63 39 [(0, .ref 30), (1, .ref 44)] [.int r] (gE Lx) I L e Q := by
  refine w_a f_63_39 ?_
  refine i_m (fun h => ?_) (fun h => ?_) h
  · refine w_a f_63_42 ?_
    refine w_a f_63_43 ?_
    refine w_a f_63_47 ?_
    exact h
  · refine w_a f_63_46 ?_
    refine w_a f_63_47 ?_
    exact h
set_option maxRecDepth 10000 in
set_option maxHeartbeats 4000000 in
theorem s_66_0_0_3 {Lx : Nat} {I : Mi} {L : Ml} {e : Nat} {Q : Kq} (h :
    (if (I 35 0) = (I 56 0) then
     Wp 28 0 [(0, .long (L 36 0)), (2, .long (L 36 1)), (4, .long (L 57 0)), (6, .long (L 57 1))] [] (gE Lx) I L e (kcp (Wp 66) 66 56 0 [(0, .ref 35), (1, .ref 56)] 71 [] Q)
    else
     (if (I 35 0) < (I 56 0) then
      Q (.inl (some (.int (Int32.ofInt (-1))))) (gE Lx) I L e
     else
      Q (.inl (some (.int (Int32.ofInt 1)))) (gE Lx) I L e))) :
    Wp 66 0 [(0, .ref 35), (1, .ref 56)] [] (gE Lx) I L e Q := by
  refine w_a f_66_0 ?_
  refine w_a f_66_1 ?_
  refine w_a f_66_4 ?_
  refine w_a f_66_5 ?_
  refine w_a f_66_8 ?_
  refine i_m (fun h => ?_) (fun h => ?_) h
  · refine w_a f_66_28 ?_
    refine w_a f_66_29 ?_
    refine w_a f_66_32 ?_
    refine w_a f_66_35 ?_
    refine w_a f_66_36 ?_
    refine w_a f_66_39 ?_
    refine w_a f_66_42 ?_
    refine w_a f_66_43 ?_
    refine w_a f_66_46 ?_
    refine w_a f_66_49 ?_
    refine w_a f_66_50 ?_
    refine w_a f_66_53 ?_
    exact w_c (ks := [0, 1]) f_66_56 rfl rfl h
  · refine w_a f_66_11 ?_
    refine w_a f_66_12 ?_
    refine w_a f_66_15 ?_
    refine w_a f_66_16 ?_
    refine w_a f_66_19 ?_
    refine i_m (fun h => ?_) (fun h => ?_) h
    · refine w_a f_66_22 ?_
      refine w_a f_66_23 ?_
      refine w_a f_66_27 ?_
      exact h
    · refine w_a f_66_26 ?_
      refine w_a f_66_27 ?_
      exact h
set_option maxRecDepth 10000 in
set_option maxHeartbeats 4000000 in
theorem s_66_59_0_3 {Lx : Nat} {I : Mi} {L : Ml} {e : Nat} {Q : Kq} {r : Int32} (h :
    Q (.inl (some (.int r))) (gE Lx) I L e) :
    Wp 66 59 [(0, .ref 35), (1, .ref 56)] [.int r] (gE Lx) I L e Q := by
  refine w_a f_66_59 ?_
  exact h
set_option maxRecDepth 10000 in
set_option maxHeartbeats 4000000 in
theorem s_63_39_0_3 {Lx : Nat} {I : Mi} {L : Ml} {e : Nat} {Q : Kq} {r : Int32} (h :
    (if r < 0 then
     Q (.inl (some (.int (Int32.ofInt 1)))) (gE Lx) I L e
    else
     Q (.inl (some (.int (Int32.ofInt 0)))) (gE Lx) I L e)) :
    Wp 63 39 [(0, .ref 30), (1, .ref 51)] [.int r] (gE Lx) I L e Q := by
  refine w_a f_63_39 ?_
  refine i_m (fun h => ?_) (fun h => ?_) h
  · refine w_a f_63_42 ?_
    refine w_a f_63_43 ?_
    refine w_a f_63_47 ?_
    exact h
  · refine w_a f_63_46 ?_
    refine w_a f_63_47 ?_
    exact h
set_option maxRecDepth 10000 in
set_option maxHeartbeats 4000000 in
theorem s_202_5_0 {Lx : Nat} {I : Mi} {L : Ml} {e : Nat} {Q : Kq} (h :
    Q (.inl (some (.int (I 5 3)))) (gE Lx) (ri (ri (ri (ui (ui (ui (ui (ui I 30 0 (Int32.ofInt 1)) 31 0 (I 5 0)) 31 1 (I 5 1)) 31 2 (I 5 2)) 31 3 (I 5 3)) 32 (va_cpy ((ui (ui (ui (ui (ui I 30 0 (Int32.ofInt 1)) 31 0 (I 5 0)) 31 1 (I 5 1)) 31 2 (I 5 2)) 31 3 (I 5 3)) 6) ((ui (ui (ui (ui (ui I 30 0 (Int32.ofInt 1)) 31 0 (I 5 0)) 31 1 (I 5 1)) 31 2 (I 5 2)) 31 3 (I 5 3)) 32) 0 0 4)) 33 (va_cpy ((ri (ui (ui (ui (ui (ui I 30 0 (Int32.ofInt 1)) 31 0 (I 5 0)) 31 1 (I 5 1)) 31 2 (I 5 2)) 31 3 (I 5 3)) 32 (va_cpy ((ui (ui (ui (ui (ui I 30 0 (Int32.ofInt 1)) 31 0 (I 5 0)) 31 1 (I 5 1)) 31 2 (I 5 2)) 31 3 (I 5 3)) 6) ((ui (ui (ui (ui (ui I 30 0 (Int32.ofInt 1)) 31 0 (I 5 0)) 31 1 (I 5 1)) 31 2 (I 5 2)) 31 3 (I 5 3)) 32) 0 0 4)) 7) ((ri (ui (ui (ui (ui (ui I 30 0 (Int32.ofInt 1)) 31 0 (I 5 0)) 31 1 (I 5 1)) 31 2 (I 5 2)) 31 3 (I 5 3)) 32 (va_cpy ((ui (ui (ui (ui (ui I 30 0 (Int32.ofInt 1)) 31 0 (I 5 0)) 31 1 (I 5 1)) 31 2 (I 5 2)) 31 3 (I 5 3)) 6) ((ui (ui (ui (ui (ui I 30 0 (Int32.ofInt 1)) 31 0 (I 5 0)) 31 1 (I 5 1)) 31 2 (I 5 2)) 31 3 (I 5 3)) 32) 0 0 4)) 33) 0 0 4)) 34 (va_cpy ((ri (ri (ui (ui (ui (ui (ui I 30 0 (Int32.ofInt 1)) 31 0 (I 5 0)) 31 1 (I 5 1)) 31 2 (I 5 2)) 31 3 (I 5 3)) 32 (va_cpy ((ui (ui (ui (ui (ui I 30 0 (Int32.ofInt 1)) 31 0 (I 5 0)) 31 1 (I 5 1)) 31 2 (I 5 2)) 31 3 (I 5 3)) 6) ((ui (ui (ui (ui (ui I 30 0 (Int32.ofInt 1)) 31 0 (I 5 0)) 31 1 (I 5 1)) 31 2 (I 5 2)) 31 3 (I 5 3)) 32) 0 0 4)) 33 (va_cpy ((ri (ui (ui (ui (ui (ui I 30 0 (Int32.ofInt 1)) 31 0 (I 5 0)) 31 1 (I 5 1)) 31 2 (I 5 2)) 31 3 (I 5 3)) 32 (va_cpy ((ui (ui (ui (ui (ui I 30 0 (Int32.ofInt 1)) 31 0 (I 5 0)) 31 1 (I 5 1)) 31 2 (I 5 2)) 31 3 (I 5 3)) 6) ((ui (ui (ui (ui (ui I 30 0 (Int32.ofInt 1)) 31 0 (I 5 0)) 31 1 (I 5 1)) 31 2 (I 5 2)) 31 3 (I 5 3)) 32) 0 0 4)) 7) ((ri (ui (ui (ui (ui (ui I 30 0 (Int32.ofInt 1)) 31 0 (I 5 0)) 31 1 (I 5 1)) 31 2 (I 5 2)) 31 3 (I 5 3)) 32 (va_cpy ((ui (ui (ui (ui (ui I 30 0 (Int32.ofInt 1)) 31 0 (I 5 0)) 31 1 (I 5 1)) 31 2 (I 5 2)) 31 3 (I 5 3)) 6) ((ui (ui (ui (ui (ui I 30 0 (Int32.ofInt 1)) 31 0 (I 5 0)) 31 1 (I 5 1)) 31 2 (I 5 2)) 31 3 (I 5 3)) 32) 0 0 4)) 33) 0 0 4)) 8) ((ri (ri (ui (ui (ui (ui (ui I 30 0 (Int32.ofInt 1)) 31 0 (I 5 0)) 31 1 (I 5 1)) 31 2 (I 5 2)) 31 3 (I 5 3)) 32 (va_cpy ((ui (ui (ui (ui (ui I 30 0 (Int32.ofInt 1)) 31 0 (I 5 0)) 31 1 (I 5 1)) 31 2 (I 5 2)) 31 3 (I 5 3)) 6) ((ui (ui (ui (ui (ui I 30 0 (Int32.ofInt 1)) 31 0 (I 5 0)) 31 1 (I 5 1)) 31 2 (I 5 2)) 31 3 (I 5 3)) 32) 0 0 4)) 33 (va_cpy ((ri (ui (ui (ui (ui (ui I 30 0 (Int32.ofInt 1)) 31 0 (I 5 0)) 31 1 (I 5 1)) 31 2 (I 5 2)) 31 3 (I 5 3)) 32 (va_cpy ((ui (ui (ui (ui (ui I 30 0 (Int32.ofInt 1)) 31 0 (I 5 0)) 31 1 (I 5 1)) 31 2 (I 5 2)) 31 3 (I 5 3)) 6) ((ui (ui (ui (ui (ui I 30 0 (Int32.ofInt 1)) 31 0 (I 5 0)) 31 1 (I 5 1)) 31 2 (I 5 2)) 31 3 (I 5 3)) 32) 0 0 4)) 7) ((ri (ui (ui (ui (ui (ui I 30 0 (Int32.ofInt 1)) 31 0 (I 5 0)) 31 1 (I 5 1)) 31 2 (I 5 2)) 31 3 (I 5 3)) 32 (va_cpy ((ui (ui (ui (ui (ui I 30 0 (Int32.ofInt 1)) 31 0 (I 5 0)) 31 1 (I 5 1)) 31 2 (I 5 2)) 31 3 (I 5 3)) 6) ((ui (ui (ui (ui (ui I 30 0 (Int32.ofInt 1)) 31 0 (I 5 0)) 31 1 (I 5 1)) 31 2 (I 5 2)) 31 3 (I 5 3)) 32) 0 0 4)) 33) 0 0 4)) 34) 0 0 4)) L e) :
    Wp 202 5 [(0, .ref 1), (1, .int (Int32.ofInt 0))] [] (gE Lx) I L e Q := by
  refine w_a f_202_5 ?_
  refine w_a f_202_6 ?_
  refine w_a f_202_9 ?_
  refine w_a f_202_10 ?_
  refine w_a f_202_11 ?_
  refine w_a f_202_12 ?_
  refine w_a f_202_15 ?_
  refine w_a f_202_16 ?_
  refine w_a f_202_19 ?_
  refine w_a f_202_20 ?_
  refine w_a f_202_21 ?_
  refine w_a f_202_24 ?_
  refine w_a f_202_25 ?_
  refine w_a f_202_28 ?_
  refine w_a (ls := [(0, .ref 31), (1, .ref 5)]) f_16_0 ?_
  refine w_a f_16_1 ?_
  refine w_a f_16_2 ?_
  refine w_a f_16_5 ?_
  refine w_a f_16_6 ?_
  refine w_a f_16_9 ?_
  refine w_a f_16_10 ?_
  refine w_a f_16_13 ?_
  refine w_a (ls := [(0, .ref 31), (1, .int (I 5 0)), (2, .int (I 5 1)), (3, .int (I 5 2))]) f_17_0 ?_
  refine w_a f_17_1 ?_
  refine w_a f_17_2 ?_
  refine w_a f_17_5 ?_
  refine w_a f_17_6 ?_
  refine w_a f_17_7 ?_
  refine w_a f_17_10 ?_
  refine w_a f_17_11 ?_
  refine w_a f_17_12 ?_
  refine w_a f_17_15 ?_
  refine w_a (ls := [(0, .ref 31), (1, .ref 5)]) f_16_16 ?_
  refine w_a f_16_17 ?_
  refine w_a f_16_18 ?_
  refine w_a f_16_21 ?_
  refine w_a f_16_24 ?_
  refine w_a f_16_25 ?_
  refine w_a f_16_28 ?_
  refine w_a f_16_29 ?_
  refine w_a f_16_30 ?_
  refine w_a f_16_33 ?_
  refine w_a f_16_34 ?_
  refine w_a f_16_35 ?_
  refine w_a f_16_38 ?_
  refine w_a f_16_39 ?_
  refine w_a f_16_42 ?_
  refine w_a f_16_43 ?_
  refine w_a f_16_44 ?_
  refine w_a f_16_47 ?_
  refine w_a f_16_48 ?_
  refine w_a f_16_49 ?_
  refine w_a f_16_52 ?_
  refine w_a f_16_53 ?_
  refine w_a f_16_56 ?_
  refine w_a f_16_57 ?_
  refine w_a f_16_58 ?_
  refine w_a f_16_61 ?_
  refine w_a f_16_62 ?_
  refine w_a f_16_63 ?_
  refine w_a f_16_66 ?_
  refine w_a (ls := [(0, .ref 1), (1, .int (Int32.ofInt 0))]) f_202_31 ?_
  refine w_a f_202_32 ?_
  refine w_a f_202_35 ?_
  refine w_a f_202_38 ?_
  exact h
set_option maxRecDepth 10000 in
set_option maxHeartbeats 4000000 in
theorem s_204_5_0 {Lx : Nat} {I : Mi} {L : Ml} {e : Nat} {Q : Kq} (h :
    (if (I 30 0) = 0 then
     Q (.inr 102) (gE Lx) I L (e + 1)
    else
     Q (.inl (some (.int (I 31 3)))) (gE Lx) (ri (ri (ri (ui (ui (ui (ui I 5 0 (I 31 0)) 5 1 (I 31 1)) 5 2 (I 31 2)) 5 3 (I 31 3)) 6 (va_cpy ((ui (ui (ui (ui I 5 0 (I 31 0)) 5 1 (I 31 1)) 5 2 (I 31 2)) 5 3 (I 31 3)) 32) ((ui (ui (ui (ui I 5 0 (I 31 0)) 5 1 (I 31 1)) 5 2 (I 31 2)) 5 3 (I 31 3)) 6) 0 0 4)) 7 (va_cpy ((ri (ui (ui (ui (ui I 5 0 (I 31 0)) 5 1 (I 31 1)) 5 2 (I 31 2)) 5 3 (I 31 3)) 6 (va_cpy ((ui (ui (ui (ui I 5 0 (I 31 0)) 5 1 (I 31 1)) 5 2 (I 31 2)) 5 3 (I 31 3)) 32) ((ui (ui (ui (ui I 5 0 (I 31 0)) 5 1 (I 31 1)) 5 2 (I 31 2)) 5 3 (I 31 3)) 6) 0 0 4)) 33) ((ri (ui (ui (ui (ui I 5 0 (I 31 0)) 5 1 (I 31 1)) 5 2 (I 31 2)) 5 3 (I 31 3)) 6 (va_cpy ((ui (ui (ui (ui I 5 0 (I 31 0)) 5 1 (I 31 1)) 5 2 (I 31 2)) 5 3 (I 31 3)) 32) ((ui (ui (ui (ui I 5 0 (I 31 0)) 5 1 (I 31 1)) 5 2 (I 31 2)) 5 3 (I 31 3)) 6) 0 0 4)) 7) 0 0 4)) 8 (va_cpy ((ri (ri (ui (ui (ui (ui I 5 0 (I 31 0)) 5 1 (I 31 1)) 5 2 (I 31 2)) 5 3 (I 31 3)) 6 (va_cpy ((ui (ui (ui (ui I 5 0 (I 31 0)) 5 1 (I 31 1)) 5 2 (I 31 2)) 5 3 (I 31 3)) 32) ((ui (ui (ui (ui I 5 0 (I 31 0)) 5 1 (I 31 1)) 5 2 (I 31 2)) 5 3 (I 31 3)) 6) 0 0 4)) 7 (va_cpy ((ri (ui (ui (ui (ui I 5 0 (I 31 0)) 5 1 (I 31 1)) 5 2 (I 31 2)) 5 3 (I 31 3)) 6 (va_cpy ((ui (ui (ui (ui I 5 0 (I 31 0)) 5 1 (I 31 1)) 5 2 (I 31 2)) 5 3 (I 31 3)) 32) ((ui (ui (ui (ui I 5 0 (I 31 0)) 5 1 (I 31 1)) 5 2 (I 31 2)) 5 3 (I 31 3)) 6) 0 0 4)) 33) ((ri (ui (ui (ui (ui I 5 0 (I 31 0)) 5 1 (I 31 1)) 5 2 (I 31 2)) 5 3 (I 31 3)) 6 (va_cpy ((ui (ui (ui (ui I 5 0 (I 31 0)) 5 1 (I 31 1)) 5 2 (I 31 2)) 5 3 (I 31 3)) 32) ((ui (ui (ui (ui I 5 0 (I 31 0)) 5 1 (I 31 1)) 5 2 (I 31 2)) 5 3 (I 31 3)) 6) 0 0 4)) 7) 0 0 4)) 34) ((ri (ri (ui (ui (ui (ui I 5 0 (I 31 0)) 5 1 (I 31 1)) 5 2 (I 31 2)) 5 3 (I 31 3)) 6 (va_cpy ((ui (ui (ui (ui I 5 0 (I 31 0)) 5 1 (I 31 1)) 5 2 (I 31 2)) 5 3 (I 31 3)) 32) ((ui (ui (ui (ui I 5 0 (I 31 0)) 5 1 (I 31 1)) 5 2 (I 31 2)) 5 3 (I 31 3)) 6) 0 0 4)) 7 (va_cpy ((ri (ui (ui (ui (ui I 5 0 (I 31 0)) 5 1 (I 31 1)) 5 2 (I 31 2)) 5 3 (I 31 3)) 6 (va_cpy ((ui (ui (ui (ui I 5 0 (I 31 0)) 5 1 (I 31 1)) 5 2 (I 31 2)) 5 3 (I 31 3)) 32) ((ui (ui (ui (ui I 5 0 (I 31 0)) 5 1 (I 31 1)) 5 2 (I 31 2)) 5 3 (I 31 3)) 6) 0 0 4)) 33) ((ri (ui (ui (ui (ui I 5 0 (I 31 0)) 5 1 (I 31 1)) 5 2 (I 31 2)) 5 3 (I 31 3)) 6 (va_cpy ((ui (ui (ui (ui I 5 0 (I 31 0)) 5 1 (I 31 1)) 5 2 (I 31 2)) 5 3 (I 31 3)) 32) ((ui (ui (ui (ui I 5 0 (I 31 0)) 5 1 (I 31 1)) 5 2 (I 31 2)) 5 3 (I 31 3)) 6) 0 0 4)) 7) 0 0 4)) 8) 0 0 4)) L e)) :
    Wp 204 5 [(0, .ref 1), (1, .int (Int32.ofInt 0))] [] (gE Lx) I L e Q := by
  refine w_a f_204_5 ?_
  refine w_a f_204_6 ?_
  refine w_a f_204_9 ?_
  refine w_a f_204_10 ?_
  refine w_a f_204_11 ?_
  refine w_a f_204_14 ?_
  refine i_m (fun h => ?_) (fun h => ?_) h
  · refine w_a f_204_17 ?_
    exact h
  · refine w_a f_204_25 ?_
    refine w_a f_204_26 ?_
    refine w_a f_204_29 ?_
    refine w_a f_204_30 ?_
    refine w_a f_204_33 ?_
    refine w_a f_204_34 ?_
    refine w_a f_204_35 ?_
    refine w_a f_204_38 ?_
    refine w_a (ls := [(0, .ref 5), (1, .ref 31)]) f_16_0 ?_
    refine w_a f_16_1 ?_
    refine w_a f_16_2 ?_
    refine w_a f_16_5 ?_
    refine w_a f_16_6 ?_
    refine w_a f_16_9 ?_
    refine w_a f_16_10 ?_
    refine w_a f_16_13 ?_
    refine w_a (ls := [(0, .ref 5), (1, .int (I 31 0)), (2, .int (I 31 1)), (3, .int (I 31 2))]) f_17_0 ?_
    refine w_a f_17_1 ?_
    refine w_a f_17_2 ?_
    refine w_a f_17_5 ?_
    refine w_a f_17_6 ?_
    refine w_a f_17_7 ?_
    refine w_a f_17_10 ?_
    refine w_a f_17_11 ?_
    refine w_a f_17_12 ?_
    refine w_a f_17_15 ?_
    refine w_a (ls := [(0, .ref 5), (1, .ref 31)]) f_16_16 ?_
    refine w_a f_16_17 ?_
    refine w_a f_16_18 ?_
    refine w_a f_16_21 ?_
    refine w_a f_16_24 ?_
    refine w_a f_16_25 ?_
    refine w_a f_16_28 ?_
    refine w_a f_16_29 ?_
    refine w_a f_16_30 ?_
    refine w_a f_16_33 ?_
    refine w_a f_16_34 ?_
    refine w_a f_16_35 ?_
    refine w_a f_16_38 ?_
    refine w_a f_16_39 ?_
    refine w_a f_16_42 ?_
    refine w_a f_16_43 ?_
    refine w_a f_16_44 ?_
    refine w_a f_16_47 ?_
    refine w_a f_16_48 ?_
    refine w_a f_16_49 ?_
    refine w_a f_16_52 ?_
    refine w_a f_16_53 ?_
    refine w_a f_16_56 ?_
    refine w_a f_16_57 ?_
    refine w_a f_16_58 ?_
    refine w_a f_16_61 ?_
    refine w_a f_16_62 ?_
    refine w_a f_16_63 ?_
    refine w_a f_16_66 ?_
    refine w_a (ls := [(0, .ref 1), (1, .int (Int32.ofInt 0))]) f_204_41 ?_
    refine w_a f_204_42 ?_
    refine w_a f_204_45 ?_
    refine w_a f_204_48 ?_
    exact h
set_option maxRecDepth 10000 in
set_option maxHeartbeats 4000000 in
theorem s_12_0_38 {Lx : Nat} {I : Mi} {L : Ml} {e : Nat} {Q : Kq} {x1 : Int32} (h :
    (if x1 < 0 then
     Q (.inl (some (.int (Int32.ofInt 0)))) (gE Lx) I L e
    else
     (if x1 < (Int32.ofInt 4) then
      (inb x1 4 (
       Q (.inl (some (.int (I 39 x1.toNatClampNeg)))) (gE Lx) I L e)
      False)
     else
      Q (.inl (some (.int (Int32.ofInt 0)))) (gE Lx) I L e))) :
    Wp 12 0 [(0, .ref 38), (1, .int x1)] [] (gE Lx) I L e Q := by
  refine w_a f_12_0 ?_
  refine w_a f_12_1 ?_
  refine w_a f_12_2 ?_
  refine w_a (ls := [(0, .ref 38), (1, .int x1)]) f_13_0 ?_
  refine w_a f_13_1 ?_
  refine i_m (fun h => ?_) (fun h => ?_) h
  · refine w_a f_13_13 ?_
    refine w_a f_13_14 ?_
    refine w_a (ls := [(0, .ref 38), (1, .int x1)]) f_12_5 ?_
    refine w_a f_12_17 ?_
    refine w_a f_12_18 ?_
    exact h
  · refine w_a f_13_4 ?_
    refine w_a f_13_5 ?_
    refine w_a f_13_6 ?_
    refine i_m (fun h => ?_) (fun h => ?_) h
    · refine w_a f_13_9 ?_
      refine w_a f_13_10 ?_
      refine w_a f_13_14 ?_
      refine w_a (ls := [(0, .ref 38), (1, .int x1)]) f_12_5 ?_
      refine w_a f_12_8 ?_
      refine w_a f_12_9 ?_
      refine w_a f_12_12 ?_
      refine w_a f_12_13 ?_
      refine n_m (fun h => ?_) h
      refine w_a f_12_14 ?_
      refine w_a f_12_18 ?_
      exact h
    · refine w_a f_13_13 ?_
      refine w_a f_13_14 ?_
      refine w_a (ls := [(0, .ref 38), (1, .int x1)]) f_12_5 ?_
      refine w_a f_12_17 ?_
      refine w_a f_12_18 ?_
      exact h
set_option maxRecDepth 10000 in
set_option maxHeartbeats 4000000 in
theorem s_14_0_38 {Lx : Nat} {I : Mi} {L : Ml} {e : Nat} {Q : Kq} {x1 : Int32} (h :
    (if x1 < 0 then
     Q (.inl (some (.int (Int32.ofInt 0)))) (gE Lx) I L e
    else
     (if x1 < (Int32.ofInt 4) then
      (inb x1 4 (
       Q (.inl (some (.int (I 40 x1.toNatClampNeg)))) (gE Lx) I L e)
      False)
     else
      Q (.inl (some (.int (Int32.ofInt 0)))) (gE Lx) I L e))) :
    Wp 14 0 [(0, .ref 38), (1, .int x1)] [] (gE Lx) I L e Q := by
  refine w_a f_14_0 ?_
  refine w_a f_14_1 ?_
  refine w_a f_14_2 ?_
  refine w_a (ls := [(0, .ref 38), (1, .int x1)]) f_13_0 ?_
  refine w_a f_13_1 ?_
  refine i_m (fun h => ?_) (fun h => ?_) h
  · refine w_a f_13_13 ?_
    refine w_a f_13_14 ?_
    refine w_a (ls := [(0, .ref 38), (1, .int x1)]) f_14_5 ?_
    refine w_a f_14_17 ?_
    refine w_a f_14_18 ?_
    exact h
  · refine w_a f_13_4 ?_
    refine w_a f_13_5 ?_
    refine w_a f_13_6 ?_
    refine i_m (fun h => ?_) (fun h => ?_) h
    · refine w_a f_13_9 ?_
      refine w_a f_13_10 ?_
      refine w_a f_13_14 ?_
      refine w_a (ls := [(0, .ref 38), (1, .int x1)]) f_14_5 ?_
      refine w_a f_14_8 ?_
      refine w_a f_14_9 ?_
      refine w_a f_14_12 ?_
      refine w_a f_14_13 ?_
      refine n_m (fun h => ?_) h
      refine w_a f_14_14 ?_
      refine w_a f_14_18 ?_
      exact h
    · refine w_a f_13_13 ?_
      refine w_a f_13_14 ?_
      refine w_a (ls := [(0, .ref 38), (1, .int x1)]) f_14_5 ?_
      refine w_a f_14_17 ?_
      refine w_a f_14_18 ?_
      exact h
set_option maxRecDepth 10000 in
set_option maxHeartbeats 4000000 in
theorem s_15_0_38 {Lx : Nat} {I : Mi} {L : Ml} {e : Nat} {Q : Kq} {x1 : Int32} (h :
    (if x1 < 0 then
     Q (.inl (some (.int (Int32.ofInt 1)))) (gE Lx) I L e
    else
     (if x1 < (Int32.ofInt 4) then
      (inb x1 4 (
       Q (.inl (some (.int (I 41 x1.toNatClampNeg)))) (gE Lx) I L e)
      False)
     else
      Q (.inl (some (.int (Int32.ofInt 1)))) (gE Lx) I L e))) :
    Wp 15 0 [(0, .ref 38), (1, .int x1)] [] (gE Lx) I L e Q := by
  refine w_a f_15_0 ?_
  refine w_a f_15_1 ?_
  refine w_a f_15_2 ?_
  refine w_a (ls := [(0, .ref 38), (1, .int x1)]) f_13_0 ?_
  refine w_a f_13_1 ?_
  refine i_m (fun h => ?_) (fun h => ?_) h
  · refine w_a f_13_13 ?_
    refine w_a f_13_14 ?_
    refine w_a (ls := [(0, .ref 38), (1, .int x1)]) f_15_5 ?_
    refine w_a f_15_17 ?_
    refine w_a f_15_18 ?_
    exact h
  · refine w_a f_13_4 ?_
    refine w_a f_13_5 ?_
    refine w_a f_13_6 ?_
    refine i_m (fun h => ?_) (fun h => ?_) h
    · refine w_a f_13_9 ?_
      refine w_a f_13_10 ?_
      refine w_a f_13_14 ?_
      refine w_a (ls := [(0, .ref 38), (1, .int x1)]) f_15_5 ?_
      refine w_a f_15_8 ?_
      refine w_a f_15_9 ?_
      refine w_a f_15_12 ?_
      refine w_a f_15_13 ?_
      refine n_m (fun h => ?_) h
      refine w_a f_15_14 ?_
      refine w_a f_15_18 ?_
      exact h
    · refine w_a f_13_13 ?_
      refine w_a f_13_14 ?_
      refine w_a (ls := [(0, .ref 38), (1, .int x1)]) f_15_5 ?_
      refine w_a f_15_17 ?_
      refine w_a f_15_18 ?_
      exact h
set_option maxRecDepth 10000 in
set_option maxHeartbeats 4000000 in
theorem s_25_0_43 {Lx : Nat} {I : Mi} {L : Ml} {e : Nat} {Q : Kq} {y1 : Int64} {y3 : Int64} (h :
    Wp 26 0 [(0, .long y1), (2, .long y3)] [] (gE Lx) I L e (kcp (Wp 25) 25 2 0 [(0, .ref 43), (1, .long y1), (3, .long y3)] 71 [] Q)) :
    Wp 25 0 [(0, .ref 43), (1, .long y1), (3, .long y3)] [] (gE Lx) I L e Q := by
  refine w_a f_25_0 ?_
  refine w_a f_25_1 ?_
  exact w_c (ks := [0, 1, 3]) f_25_2 rfl rfl h
set_option maxRecDepth 10000 in
set_option maxHeartbeats 4000000 in
theorem s_25_5_43 {Lx : Nat} {I : Mi} {L : Ml} {e : Nat} {Q : Kq} {y1 : Int64} {y3 : Int64} {rl : Int64} (h :
    (if rl = (Int64.ofInt 0) then
     Q (.inl none) (gE Lx) I (ul (ul L 43 0 (Int64.ofInt 0)) 43 1 (Int64.ofInt 1)) e
    else
     (if y3 < (Int64.ofInt 0) then
      (if (-rl) = 0 then False else
       (if (-rl) = 0 then False else
        Q (.inl none) (gE Lx) I (ul (ul L 43 0 (y1 / (-rl))) 43 1 (y3 / (-rl))) e))
     else
      (if y3 = (Int64.ofInt 0) then
       (if y1 < (Int64.ofInt 0) then
        (if (-rl) = 0 then False else
         (if (-rl) = 0 then False else
          Q (.inl none) (gE Lx) I (ul (ul L 43 0 (y1 / (-rl))) 43 1 (y3 / (-rl))) e))
       else
        (if rl = 0 then False else
         (if rl = 0 then False else
          Q (.inl none) (gE Lx) I (ul (ul L 43 0 (y1 / rl)) 43 1 (y3 / rl)) e)))
      else
       (if rl = 0 then False else
        (if rl = 0 then False else
         Q (.inl none) (gE Lx) I (ul (ul L 43 0 (y1 / rl)) 43 1 (y3 / rl)) e)))))) :
    Wp 25 5 [(0, .ref 43), (1, .long y1), (3, .long y3)] [.long rl] (gE Lx) I L e Q := by
  refine w_a f_25_5 ?_
  refine w_a (ls := [(5, .long rl), (0, .ref 43), (1, .long y1), (3, .long y3)]) f_25_7 ?_
  refine w_a f_25_9 ?_
  refine w_a f_25_10 ?_
  refine i_m (fun h => ?_) (fun h => ?_) h
  · refine w_a f_25_14 ?_
    refine w_a f_25_15 ?_
    refine w_a f_25_16 ?_
    refine w_a f_25_19 ?_
    refine w_a f_25_20 ?_
    refine w_a f_25_21 ?_
    refine w_a f_25_24 ?_
    exact h
  · refine w_a f_25_25 ?_
    refine w_a f_25_26 ?_
    refine w_a f_25_27 ?_
    refine i_m (fun h => ?_) (fun h => ?_) h
    · refine w_a f_25_43 ?_
      refine w_a f_25_45 ?_
      refine w_a f_25_46 ?_
      refine w_a f_25_51 ?_
      refine w_a (ls := [(7, .long (-rl)), (5, .long rl), (0, .ref 43), (1, .long y1), (3, .long y3)]) f_25_53 ?_
      refine w_a f_25_54 ?_
      refine w_a f_25_55 ?_
      refine w_a f_25_57 ?_
      refine i_m id (fun h => ?_) h
      refine w_a f_25_58 ?_
      refine w_a f_25_61 ?_
      refine w_a f_25_62 ?_
      refine w_a f_25_63 ?_
      refine w_a f_25_65 ?_
      refine i_m id (fun h => ?_) h
      refine w_a f_25_66 ?_
      refine w_a f_25_69 ?_
      exact h
    · refine w_a f_25_31 ?_
      refine w_a f_25_32 ?_
      refine w_a f_25_33 ?_
      refine i_m (fun h => ?_) (fun h => ?_) h
      · refine w_a f_25_37 ?_
        refine w_a f_25_38 ?_
        refine w_a f_25_39 ?_
        refine i_m (fun h => ?_) (fun h => ?_) h
        · refine w_a f_25_43 ?_
          refine w_a f_25_45 ?_
          refine w_a f_25_46 ?_
          refine w_a f_25_51 ?_
          refine w_a (ls := [(7, .long (-rl)), (5, .long rl), (0, .ref 43), (1, .long y1), (3, .long y3)]) f_25_53 ?_
          refine w_a f_25_54 ?_
          refine w_a f_25_55 ?_
          refine w_a f_25_57 ?_
          refine i_m id (fun h => ?_) h
          refine w_a f_25_58 ?_
          refine w_a f_25_61 ?_
          refine w_a f_25_62 ?_
          refine w_a f_25_63 ?_
          refine w_a f_25_65 ?_
          refine i_m id (fun h => ?_) h
          refine w_a f_25_66 ?_
          refine w_a f_25_69 ?_
          exact h
        · refine w_a f_25_49 ?_
          refine w_a f_25_51 ?_
          refine w_a (ls := [(7, .long rl), (5, .long rl), (0, .ref 43), (1, .long y1), (3, .long y3)]) f_25_53 ?_
          refine w_a f_25_54 ?_
          refine w_a f_25_55 ?_
          refine w_a f_25_57 ?_
          refine i_m id (fun h => ?_) h
          refine w_a f_25_58 ?_
          refine w_a f_25_61 ?_
          refine w_a f_25_62 ?_
          refine w_a f_25_63 ?_
          refine w_a f_25_65 ?_
          refine i_m id (fun h => ?_) h
          refine w_a f_25_66 ?_
          refine w_a f_25_69 ?_
          exact h
      · refine w_a f_25_49 ?_
        refine w_a f_25_51 ?_
        refine w_a (ls := [(7, .long rl), (5, .long rl), (0, .ref 43), (1, .long y1), (3, .long y3)]) f_25_53 ?_
        refine w_a f_25_54 ?_
        refine w_a f_25_55 ?_
        refine w_a f_25_57 ?_
        refine i_m id (fun h => ?_) h
        refine w_a f_25_58 ?_
        refine w_a f_25_61 ?_
        refine w_a f_25_62 ?_
        refine w_a f_25_63 ?_
        refine w_a f_25_65 ?_
        refine i_m id (fun h => ?_) h
        refine w_a f_25_66 ?_
        refine w_a f_25_69 ?_
        exact h
set_option maxRecDepth 10000 in
set_option maxHeartbeats 4000000 in
theorem s_27_30_43 {Lx : Nat} {I : Mi} {L : Ml} {e : Nat} {Q : Kq} (h :
    Q (.inl none) (gE Lx) I L e) :
    Wp 27 30 [(0, .ref 43)] [] (gE Lx) I L e Q := by
  refine w_a f_27_30 ?_
  exact h
set_option maxRecDepth 10000 in
set_option maxHeartbeats 4000000 in
theorem s_97_0_38 {Lx : Nat} {I : Mi} {L : Ml} {e : Nat} {Q : Kq} {x2 : Int32} (h :
    Wp 97 24 [(0, .ref 1), (1, .ref 38), (2, .int x2), (3, .int (Int32.ofInt 0))] [] (gE Lx) I (ul (ul (ul (ul L 14 0 ((I 38 0).toInt64)) 14 1 ((I 38 1).toInt64)) 14 2 ((I 38 2).toInt64)) 14 3 (Int64.ofInt 0)) e Q) :
    Wp 97 0 [(0, .ref 1), (1, .ref 38), (2, .int x2)] [] (gE Lx) I L e Q := by
  refine w_a f_97_0 ?_
  refine w_a f_97_1 ?_
  refine w_a f_97_4 ?_
  refine w_a f_97_5 ?_
  refine w_a f_97_8 ?_
  refine w_a f_97_9 ?_
  refine w_a f_97_10 ?_
  refine w_a f_97_13 ?_
  refine w_a f_97_14 ?_
  refine w_a f_97_15 ?_
  refine w_a f_97_18 ?_
  refine w_a f_97_19 ?_
  refine w_a (ls := [(0, .ref 14), (1, .long (I 38 0).toInt64), (3, .long (I 38 1).toInt64), (5, .long (I 38 2).toInt64)]) f_74_0 ?_
  refine w_a f_74_1 ?_
  refine w_a f_74_2 ?_
  refine w_a f_74_5 ?_
  refine w_a f_74_6 ?_
  refine w_a f_74_7 ?_
  refine w_a f_74_10 ?_
  refine w_a f_74_11 ?_
  refine w_a f_74_13 ?_
  refine w_a f_74_16 ?_
  refine w_a f_74_17 ?_
  refine w_a f_74_18 ?_
  refine w_a f_74_21 ?_
  refine w_a (ls := [(0, .ref 1), (1, .ref 38), (2, .int x2)]) f_97_22 ?_
  refine w_a f_97_23 ?_
  exact w_n (ks := [0, 1, 2, 3]) rfl h
set_option maxRecDepth 10000 in
set_option maxHeartbeats 4000000 in
theorem s_97_24_38 {Lx : Nat} {I : Mi} {L : Ml} {e : Nat} {Q : Kq} {x2 : Int32} {x3 : Int32} (h :
    (if x3 < (I 38 3) then
     Wp 14 0 [(0, .ref 38), (1, .int x3)] [] (gE Lx) I L e (kcp (Wp 97) 97 44 0 [(0, .ref 1), (1, .ref 38), (2, .int x2), (3, .int x3)] 71 [.long ((Int64.ofInt 20) + x2.toInt64), .ref 18] Q)
    else
     Q (.inl none) (gE Lx) I L e)) :
    Wp 97 24 [(0, .ref 1), (1, .ref 38), (2, .int x2), (3, .int x3)] [] (gE Lx) I L e Q := by
  refine w_a f_97_24 ?_
  refine w_a f_97_25 ?_
  refine w_a f_97_26 ?_
  refine w_a f_97_29 ?_
  refine i_m (fun h => ?_) (fun h => ?_) h
  · refine w_a f_97_32 ?_
    refine w_a f_97_33 ?_
    refine w_a f_97_36 ?_
    refine w_a f_97_39 ?_
    refine w_a f_97_40 ?_
    refine w_a f_97_41 ?_
    refine w_a f_97_42 ?_
    refine w_a f_97_43 ?_
    exact w_c (ks := [0, 1, 2, 3]) f_97_44 rfl rfl h
  · refine w_a f_97_94 ?_
    exact h
set_option maxRecDepth 10000 in
set_option maxHeartbeats 4000000 in
theorem s_97_47_38 {Lx : Nat} {I : Mi} {L : Ml} {e : Nat} {Q : Kq} {x2 : Int32} {x3 : Int32} {rl1 : Int64} {r : Int32} (h :
    Wp 15 0 [(0, .ref 38), (1, .int x3)] [] (gE Lx) I L e (kcp (Wp 97) 97 54 0 [(0, .ref 1), (1, .ref 38), (2, .int x2), (3, .int x3)] 71 [.long (Int64.ofInt 20), .long (rl1 * r.toInt64), .ref 18] Q)) :
    Wp 97 47 [(0, .ref 1), (1, .ref 38), (2, .int x2), (3, .int x3)] [.int r, .long rl1, .ref 18] (gE Lx) I L e Q := by
  refine w_a f_97_47 ?_
  refine w_a f_97_48 ?_
  refine w_a f_97_49 ?_
  refine w_a f_97_52 ?_
  refine w_a f_97_53 ?_
  exact w_c (ks := [0, 1, 2, 3]) f_97_54 rfl rfl h
set_option maxRecDepth 10000 in
set_option maxHeartbeats 4000000 in
theorem s_97_57_38 {Lx : Nat} {I : Mi} {L : Ml} {e : Nat} {Q : Kq} {x2 : Int32} {x3 : Int32} {rl1 : Int64} {rl2 : Int64} {r : Int32} (h :
    Wp 25 0 [(0, .ref 18), (1, .long rl1), (3, .long (rl2 * r.toInt64))] [] (gE Lx) I L e (kcp (Wp 97) 97 59 0 [(0, .ref 1), (1, .ref 38), (2, .int x2), (3, .int x3)] 71 [] Q)) :
    Wp 97 57 [(0, .ref 1), (1, .ref 38), (2, .int x2), (3, .int x3)] [.int r, .long rl2, .long rl1, .ref 18] (gE Lx) I L e Q := by
  refine w_a f_97_57 ?_
  refine w_a f_97_58 ?_
  exact w_c (ks := [0, 1, 2, 3]) f_97_59 rfl rfl h
set_option maxRecDepth 10000 in
set_option maxHeartbeats 4000000 in
theorem s_97_62_38 {Lx : Nat} {I : Mi} {L : Ml} {e : Nat} {Q : Kq} {x2 : Int32} {x3 : Int32} (h :
    Wp 12 0 [(0, .ref 38), (1, .int x3)] [] (gE Lx) I L e (kcp (Wp 97) 97 68 0 [(0, .ref 1), (1, .ref 38), (2, .int x2), (3, .int x3)] 71 [.ref 14] Q)) :
    Wp 97 62 [(0, .ref 1), (1, .ref 38), (2, .int x2), (3, .int x3)] [] (gE Lx) I L e Q := by
  refine w_a f_97_62 ?_
  refine w_a f_97_63 ?_
  refine w_a f_97_66 ?_
  refine w_a f_97_67 ?_
  exact w_c (ks := [0, 1, 2, 3]) f_97_68 rfl rfl h
set_option maxRecDepth 10000 in
set_option maxHeartbeats 4000000 in
theorem s_97_71_38 {Lx : Nat} {I : Mi} {L : Ml} {e : Nat} {Q : Kq} {x2 : Int32} {x3 : Int32} {r : Int32} (h :
    Wp 75 0 [(0, .ref 14), (1, .int r), (2, .long (L 18 0)), (4, .long (L 18 1))] [] (gE Lx) I L e (kcp (Wp 97) 97 85 0 [(0, .ref 1), (1, .ref 38), (2, .int x2), (3, .int x3)] 71 [] Q)) :
    Wp 97 71 [(0, .ref 1), (1, .ref 38), (2, .int x2), (3, .int x3)] [.int r, .ref 14] (gE Lx) I L e Q := by
  refine w_a f_97_71 ?_
  refine w_a f_97_72 ?_
  refine w_a f_97_75 ?_
  refine w_a f_97_78 ?_
  refine w_a f_97_79 ?_
  refine w_a f_97_82 ?_
  exact w_c (ks := [0, 1, 2, 3]) f_97_85 rfl rfl h
set_option maxRecDepth 10000 in
set_option maxHeartbeats 4000000 in
theorem s_97_88_38 {Lx : Nat} {I : Mi} {L : Ml} {e : Nat} {Q : Kq} {x2 : Int32} {x3 : Int32} (h :
    Wp 97 24 [(0, .ref 1), (1, .ref 38), (2, .int x2), (3, .int (x3 + Int32.ofInt 1))] [] (gE Lx) I L e Q) :
    Wp 97 88 [(0, .ref 1), (1, .ref 38), (2, .int x2), (3, .int x3)] [] (gE Lx) I L e Q := by
  refine w_a f_97_88 ?_
  refine w_a (ls := [(3, .int (x3 + Int32.ofInt 1)), (0, .ref 1), (1, .ref 38), (2, .int x2)]) f_97_91 ?_
  exact w_n (ks := [0, 1, 2, 3]) rfl h
set_option maxRecDepth 10000 in
set_option maxHeartbeats 4000000 in
theorem s_96_0_38 {Lx : Nat} {I : Mi} {L : Ml} {e : Nat} {Q : Kq} {x2 : Int32} (h :
    Wp 97 0 [(0, .ref 1), (1, .ref 38), (2, .int x2)] [] (gE Lx) I L e (kcp (Wp 96) 96 3 0 [(0, .ref 1), (1, .ref 38)] 71 [] Q)) :
    Wp 96 0 [(0, .ref 1), (1, .ref 38), (2, .int x2)] [] (gE Lx) I L e Q := by
  refine w_a f_96_0 ?_
  refine w_a f_96_1 ?_
  refine w_a f_96_2 ?_
  exact w_c (ks := [0, 1]) f_96_3 rfl rfl h
set_option maxRecDepth 10000 in
set_option maxHeartbeats 4000000 in
theorem s_96_6_38 {Lx : Nat} {I : Mi} {L : Ml} {e : Nat} {Q : Kq} (h :
    Wp 98 0 [(0, .ref 1)] [] (gE Lx) I L e (kcp (Wp 96) 96 7 0 [(0, .ref 1), (1, .ref 38)] 71 [] Q)) :
    Wp 96 6 [(0, .ref 1), (1, .ref 38)] [] (gE Lx) I L e Q := by
  refine w_a f_96_6 ?_
  exact w_c (ks := [0, 1]) f_96_7 rfl rfl h
set_option maxRecDepth 10000 in
set_option maxHeartbeats 4000000 in
theorem s_96_10_38 {Lx : Nat} {I : Mi} {L : Ml} {e : Nat} {Q : Kq} {r : Int32} (h :
    (if r = 0 then
     Q (.inl (some (.int (Int32.ofInt 0)))) (gE Lx) I L e
    else if r = 1 then
     Q (.inl (some (.int (Int32.ofInt 1)))) (gE Lx) I L e
    else False)) :
    Wp 96 10 [(0, .ref 1), (1, .ref 38)] [.int r] (gE Lx) I L e Q := by
  refine w_a f_96_10 ?_
  refine i_m (fun h => ?_) (i_m (fun h => ?_) id) h
  · exact h
  · exact h
set_option maxRecDepth 10000 in
set_option maxHeartbeats 4000000 in
theorem s_95_0_38 {Lx : Nat} {I : Mi} {L : Ml} {e : Nat} {Q : Kq} (h :
    Wp 95 4 [(0, .ref 1), (1, .ref 38), (2, .int (Int32.ofInt (-1))), (3, .int (Int32.ofInt 0))] [] (gE Lx) I L e Q) :
    Wp 95 0 [(0, .ref 1), (1, .ref 38)] [] (gE Lx) I L e Q := by
  refine w_a f_95_0 ?_
  refine w_a f_95_1 ?_
  refine w_a (ls := [(2, .int (Int32.ofInt (-1))), (0, .ref 1), (1, .ref 38)]) f_95_2 ?_
  refine w_a f_95_3 ?_
  exact w_n (ks := [0, 1, 2, 3]) rfl h
set_option maxRecDepth 10000 in
set_option maxHeartbeats 4000000 in
theorem s_95_4_38 {Lx : Nat} {I : Mi} {L : Ml} {e : Nat} {Q : Kq} {x2 : Int32} {x3 : Int32} (h :
    (if (Int32.ofInt 10) < x3 then
     Q (.inl (some (.int x2))) (gE Lx) I L e
    else
     Wp 97 0 [(0, .ref 1), (1, .ref 38), (2, .int x3)] [] (gE Lx) I L e (kcp (Wp 96) 96 3 0 [(0, .ref 1), (1, .ref 38)] 71 [] (kcp (Wp 95) 95 13 0 [(0, .ref 1), (1, .ref 38), (2, .int x2), (3, .int x3)] 71 [] Q)))) :
    Wp 95 4 [(0, .ref 1), (1, .ref 38), (2, .int x2), (3, .int x3)] [] (gE Lx) I L e Q := by
  refine w_a f_95_4 ?_
  refine w_a f_95_5 ?_
  refine w_a f_95_7 ?_
  refine i_m (fun h => ?_) (fun h => ?_) h
  · refine w_a f_95_39 ?_
    refine w_a f_95_40 ?_
    exact h
  · refine w_a f_95_10 ?_
    refine w_a f_95_11 ?_
    refine w_a f_95_12 ?_
    refine w_c (ks := [0, 1, 2, 3]) f_95_13 rfl rfl ?_
    refine w_a (ls := [(0, .ref 1), (1, .ref 38), (2, .int x3)]) f_96_0 ?_
    refine w_a f_96_1 ?_
    refine w_a f_96_2 ?_
    exact w_c (ks := [0, 1]) f_96_3 rfl rfl h
set_option maxRecDepth 10000 in
set_option maxHeartbeats 4000000 in
theorem s_95_16_38 {Lx : Nat} {I : Mi} {L : Ml} {e : Nat} {Q : Kq} {x2 : Int32} {x3 : Int32} {r : Int32} (h :
    (if r = 0 then
     Q (.inl (some (.int x2))) (gE Lx) I L e
    else
     Wp 97 0 [(0, .ref 1), (1, .ref 38), (2, .int (-x3))] [] (gE Lx) I L e (kcp (Wp 96) 96 3 0 [(0, .ref 1), (1, .ref 38)] 71 [] (kcp (Wp 95) 95 23 0 [(0, .ref 1), (1, .ref 38), (2, .int x2), (3, .int x3)] 71 [] Q)))) :
    Wp 95 16 [(0, .ref 1), (1, .ref 38), (2, .int x2), (3, .int x3)] [.int r] (gE Lx) I L e Q := by
  refine w_a f_95_16 ?_
  refine i_m (fun h => ?_) (fun h => ?_) h
  · refine w_a f_95_29 ?_
    refine w_a f_95_30 ?_
    exact h
  · refine w_a f_95_19 ?_
    refine w_a f_95_20 ?_
    refine w_a f_95_21 ?_
    refine w_a f_95_22 ?_
    refine w_c (ks := [0, 1, 2, 3]) f_95_23 rfl rfl ?_
    refine w_a (ls := [(0, .ref 1), (1, .ref 38), (2, .int (-x3))]) f_96_0 ?_
    refine w_a f_96_1 ?_
    refine w_a f_96_2 ?_
    exact w_c (ks := [0, 1]) f_96_3 rfl rfl h
set_option maxRecDepth 10000 in
set_option maxHeartbeats 4000000 in
theorem s_95_26_38 {Lx : Nat} {I : Mi} {L : Ml} {e : Nat} {Q : Kq} {x2 : Int32} {x3 : Int32} {r : Int32} (h :
    (if r = 0 then
     Q (.inl (some (.int x2))) (gE Lx) I L e
    else
     Wp 95 4 [(0, .ref 1), (1, .ref 38), (2, .int x3), (3, .int (x3 + Int32.ofInt 1))] [] (gE Lx) I L e Q)) :
    Wp 95 26 [(0, .ref 1), (1, .ref 38), (2, .int x2), (3, .int x3)] [.int r] (gE Lx) I L e Q := by
  refine w_a f_95_26 ?_
  refine i_m (fun h => ?_) (fun h => ?_) h
  · refine w_a f_95_29 ?_
    refine w_a f_95_30 ?_
    exact h
  · refine w_a f_95_31 ?_
    refine w_a f_95_32 ?_
    refine w_a (ls := [(2, .int x3), (0, .ref 1), (1, .ref 38), (3, .int x3)]) f_95_33 ?_
    refine w_a (ls := [(3, .int (x3 + Int32.ofInt 1)), (2, .int x3), (0, .ref 1), (1, .ref 38)]) f_95_36 ?_
    exact w_n (ks := [0, 1, 2, 3]) rfl h
set_option maxRecDepth 10000 in
set_option maxHeartbeats 4000000 in
theorem s_65_0_38 {Lx : Nat} {I : Mi} {L : Ml} {e : Nat} {Q : Kq} (h :
    Wp 25 0 [(0, .ref 43), (1, .long (Int64.ofInt 0)), (3, .long (Int64.ofInt 1))] [] (gE Lx) (ui I 42 0 (Int32.ofInt 0)) L e (kcp (Wp 65) 65 11 0 [(0, .ref 42), (1, .ref 38)] 71 [] Q)) :
    Wp 65 0 [(0, .ref 42), (1, .ref 38)] [] (gE Lx) I L e Q := by
  refine w_a f_65_0 ?_
  refine w_a f_65_1 ?_
  refine w_a f_65_2 ?_
  refine w_a f_65_5 ?_
  refine w_a f_65_6 ?_
  refine w_a f_65_9 ?_
  refine w_a f_65_10 ?_
  exact w_c (ks := [0, 1]) f_65_11 rfl rfl h
set_option maxRecDepth 10000 in
set_option maxHeartbeats 4000000 in
theorem s_65_14_38 {Lx : Nat} {I : Mi} {L : Ml} {e : Nat} {Q : Kq} (h :
    Wp 65 16 [(0, .ref 42), (1, .ref 38), (2, .int (Int32.ofInt 0))] [] (gE Lx) I L e Q) :
    Wp 65 14 [(0, .ref 42), (1, .ref 38)] [] (gE Lx) I L e Q := by
  refine w_a f_65_14 ?_
  refine w_a f_65_15 ?_
  exact w_n (ks := [0, 1, 2]) rfl h
set_option maxRecDepth 10000 in
set_option maxHeartbeats 4000000 in
theorem s_65_16_38 {Lx : Nat} {I : Mi} {L : Ml} {e : Nat} {Q : Kq} {x2 : Int32} (h :
    (if x2 < (I 38 3) then
     Wp 14 0 [(0, .ref 38), (1, .int x2)] [] (gE Lx) I L e (kcp (Wp 65) 65 47 0 [(0, .ref 42), (1, .ref 38), (2, .int x2), (3, .long (L 43 0)), (5, .long (L 43 1))] 71 [.ref 43] Q)
    else
     Q (.inl none) (gE Lx) I L e)) :
    Wp 65 16 [(0, .ref 42), (1, .ref 38), (2, .int x2)] [] (gE Lx) I L e Q := by
  refine w_a f_65_16 ?_
  refine w_a f_65_17 ?_
  refine w_a f_65_18 ?_
  refine w_a f_65_21 ?_
  refine i_m (fun h => ?_) (fun h => ?_) h
  · refine w_a f_65_24 ?_
    refine w_a f_65_25 ?_
    refine w_a f_65_28 ?_
    refine w_a f_65_31 ?_
    refine w_a (ls := [(3, .long (L 43 0)), (0, .ref 42), (1, .ref 38), (2, .int x2)]) f_65_32 ?_
    refine w_a f_65_33 ?_
    refine w_a f_65_36 ?_
    refine w_a f_65_39 ?_
    refine w_a (ls := [(5, .long (L 43 1)), (3, .long (L 43 0)), (0, .ref 42), (1, .ref 38), (2, .int x2)]) f_65_41 ?_
    refine w_a f_65_42 ?_
    refine w_a f_65_45 ?_
    refine w_a f_65_46 ?_
    exact w_c (ks := [0, 1, 2, 3, 5]) f_65_47 rfl rfl h
  · refine w_a f_65_99 ?_
    exact h
set_option maxRecDepth 10000 in
set_option maxHeartbeats 4000000 in
theorem s_65_50_38 {Lx : Nat} {I : Mi} {L : Ml} {e : Nat} {Q : Kq} {x2 : Int32} {y3 : Int64} {y5 : Int64} {r : Int32} (h :
    Wp 15 0 [(0, .ref 38), (1, .int x2)] [] (gE Lx) I L e (kcp (Wp 65) 65 53 0 [(0, .ref 42), (1, .ref 38), (2, .int x2), (3, .long y3), (5, .long y5)] 71 [.long r.toInt64, .ref 43] Q)) :
    Wp 65 50 [(0, .ref 42), (1, .ref 38), (2, .int x2), (3, .long y3), (5, .long y5)] [.int r, .ref 43] (gE Lx) I L e Q := by
  refine w_a f_65_50 ?_
  refine w_a f_65_51 ?_
  refine w_a f_65_52 ?_
  exact w_c (ks := [0, 1, 2, 3, 5]) f_65_53 rfl rfl h
set_option maxRecDepth 10000 in
set_option maxHeartbeats 4000000 in
theorem s_65_56_38 {Lx : Nat} {I : Mi} {L : Ml} {e : Nat} {Q : Kq} {x2 : Int32} {y3 : Int64} {y5 : Int64} {rl1 : Int64} {r : Int32} (h :
    Wp 25 0 [(0, .ref 43), (1, .long (((L 43 0) * r.toInt64) + ((L 43 1) * rl1))), (3, .long (((L 43 1) * r.toInt64) - ((L 43 0) * rl1)))] [] (gE Lx) I L e (kcp (Wp 27) 27 27 0 [(0, .ref 43)] 71 [] (kcp (Wp 65) 65 57 0 [(0, .ref 42), (1, .ref 38), (2, .int x2), (3, .long y3), (5, .long y5)] 71 [] Q))) :
    Wp 65 56 [(0, .ref 42), (1, .ref 38), (2, .int x2), (3, .long y3), (5, .long y5)] [.int r, .long rl1, .ref 43] (gE Lx) I L e Q := by
  refine w_a f_65_56 ?_
  refine w_c (ks := [0, 1, 2, 3, 5]) f_65_57 rfl rfl ?_
  refine w_a (ls := [(0, .ref 43), (1, .long rl1), (3, .long r.toInt64)]) f_27_0 ?_
  refine w_a f_27_1 ?_
  refine w_a f_27_2 ?_
  refine w_a f_27_5 ?_
  refine w_a f_27_6 ?_
  refine w_a f_27_7 ?_
  refine w_a f_27_8 ?_
  refine w_a f_27_11 ?_
  refine w_a f_27_12 ?_
  refine w_a f_27_13 ?_
  refine w_a f_27_14 ?_
  refine w_a f_27_15 ?_
  refine w_a f_27_18 ?_
  refine w_a f_27_19 ?_
  refine w_a f_27_20 ?_
  refine w_a f_27_21 ?_
  refine w_a f_27_24 ?_
  refine w_a f_27_25 ?_
  refine w_a f_27_26 ?_
  exact w_c (ks := [0]) f_27_27 rfl rfl h
set_option maxRecDepth 10000 in
set_option maxHeartbeats 4000000 in
theorem s_65_60_38 {Lx : Nat} {I : Mi} {L : Ml} {e : Nat} {Q : Kq} {x2 : Int32} {y3 : Int64} {y5 : Int64} (h :
    Wp 28 0 [(0, .long (L 43 0)), (2, .long (L 43 1)), (4, .long y3), (6, .long y5)] [] (gE Lx) I L e (kcp (Wp 65) 65 77 0 [(0, .ref 42), (1, .ref 38), (2, .int x2)] 71 [] Q)) :
    Wp 65 60 [(0, .ref 42), (1, .ref 38), (2, .int x2), (3, .long y3), (5, .long y5)] [] (gE Lx) I L e Q := by
  refine w_a f_65_60 ?_
  refine w_a f_65_61 ?_
  refine w_a f_65_64 ?_
  refine w_a f_65_67 ?_
  refine w_a f_65_68 ?_
  refine w_a f_65_71 ?_
  refine w_a f_65_74 ?_
  refine w_a f_65_75 ?_
  exact w_c (ks := [0, 1, 2]) f_65_77 rfl rfl h
set_option maxRecDepth 10000 in
set_option maxHeartbeats 4000000 in
theorem s_65_80_38 {Lx : Nat} {I : Mi} {L : Ml} {e : Nat} {Q : Kq} {x2 : Int32} {r : Int32} (h :
    (if r < 0 then
     Wp 65 16 [(0, .ref 42), (1, .ref 38), (2, .int (x2 + Int32.ofInt 1))] [] (gE Lx) (ui I 42 0 ((I 42 0) + (Int32.ofInt 1))) L e Q
    else
     Wp 65 16 [(0, .ref 42), (1, .ref 38), (2, .int (x2 + Int32.ofInt 1))] [] (gE Lx) I L e Q)) :
    Wp 65 80 [(0, .ref 42), (1, .ref 38), (2, .int x2)] [.int r] (gE Lx) I L e Q := by
  refine w_a f_65_80 ?_
  refine i_m (fun h => ?_) (fun h => ?_) h
  · refine w_a f_65_83 ?_
    refine w_a f_65_84 ?_
    refine w_a f_65_85 ?_
    refine w_a f_65_88 ?_
    refine w_a f_65_89 ?_
    refine w_a f_65_90 ?_
    refine w_a f_65_93 ?_
    refine w_a (ls := [(2, .int (x2 + Int32.ofInt 1)), (0, .ref 42), (1, .ref 38)]) f_65_96 ?_
    exact w_n (ks := [0, 1, 2]) rfl h
  · refine w_a f_65_93 ?_
    refine w_a (ls := [(2, .int (x2 + Int32.ofInt 1)), (0, .ref 42), (1, .ref 38)]) f_65_96 ?_
    exact w_n (ks := [0, 1, 2]) rfl h
set_option maxRecDepth 10000 in
set_option maxHeartbeats 4000000 in
theorem s_66_0_1_0 {Lx : Nat} {I : Mi} {L : Ml} {e : Nat} {Q : Kq} (h :
    (if (I 42 0) = (I 35 0) then
     Wp 28 0 [(0, .long (L 43 0)), (2, .long (L 43 1)), (4, .long (L 36 0)), (6, .long (L 36 1))] [] (gE Lx) I L e (kcp (Wp 66) 66 56 0 [(0, .ref 42), (1, .ref 35)] 71 [] Q)
    else
     (if (I 42 0) < (I 35 0) then
      Q (.inl (some (.int (Int32.ofInt (-1))))) (gE Lx) I L e
     else
      Q (.inl (some (.int (Int32.ofInt 1)))) (gE Lx) I L e))) :
    Wp 66 0 [(0, .ref 42), (1, .ref 35)] [] (gE Lx) I L e Q := by
  refine w_a f_66_0 ?_
  refine w_a f_66_1 ?_
  refine w_a f_66_4 ?_
  refine w_a f_66_5 ?_
  refine w_a f_66_8 ?_
  refine i_m (fun h => ?_) (fun h => ?_) h
  · refine w_a f_66_28 ?_
    refine w_a f_66_29 ?_
    refine w_a f_66_32 ?_
    refine w_a f_66_35 ?_
    refine w_a f_66_36 ?_
    refine w_a f_66_39 ?_
    refine w_a f_66_42 ?_
    refine w_a f_66_43 ?_
    refine w_a f_66_46 ?_
    refine w_a f_66_49 ?_
    refine w_a f_66_50 ?_
    refine w_a f_66_53 ?_
    exact w_c (ks := [0, 1]) f_66_56 rfl rfl h
  · refine w_a f_66_11 ?_
    refine w_a f_66_12 ?_
    refine w_a f_66_15 ?_
    refine w_a f_66_16 ?_
    refine w_a f_66_19 ?_
    refine i_m (fun h => ?_) (fun h => ?_) h
    · refine w_a f_66_22 ?_
      refine w_a f_66_23 ?_
      refine w_a f_66_27 ?_
      exact h
    · refine w_a f_66_26 ?_
      refine w_a f_66_27 ?_
      exact h
set_option maxRecDepth 10000 in
set_option maxHeartbeats 4000000 in
theorem s_66_59_1_0 {Lx : Nat} {I : Mi} {L : Ml} {e : Nat} {Q : Kq} {r : Int32} (h :
    Q (.inl (some (.int r))) (gE Lx) I L e) :
    Wp 66 59 [(0, .ref 42), (1, .ref 35)] [.int r] (gE Lx) I L e Q := by
  refine w_a f_66_59 ?_
  exact h
set_option maxRecDepth 10000 in
set_option maxHeartbeats 4000000 in
theorem s_63_39_1_0 {Lx : Nat} {I : Mi} {L : Ml} {e : Nat} {Q : Kq} {r : Int32} (h :
    (if r < 0 then
     Q (.inl (some (.int (Int32.ofInt 1)))) (gE Lx) I L e
    else
     Q (.inl (some (.int (Int32.ofInt 0)))) (gE Lx) I L e)) :
    Wp 63 39 [(0, .ref 37), (1, .ref 30)] [.int r] (gE Lx) I L e Q := by
  refine w_a f_63_39 ?_
  refine i_m (fun h => ?_) (fun h => ?_) h
  · refine w_a f_63_42 ?_
    refine w_a f_63_43 ?_
    refine w_a f_63_47 ?_
    exact h
  · refine w_a f_63_46 ?_
    refine w_a f_63_47 ?_
    exact h
set_option maxRecDepth 10000 in
set_option maxHeartbeats 4000000 in
theorem s_66_0_1_1 {Lx : Nat} {I : Mi} {L : Ml} {e : Nat} {Q : Kq} (h :
    (if (I 42 0) = (I 42 0) then
     Wp 28 0 [(0, .long (L 43 0)), (2, .long (L 43 1)), (4, .long (L 43 0)), (6, .long (L 43 1))] [] (gE Lx) I L e (kcp (Wp 66) 66 56 0 [(0, .ref 42), (1, .ref 42)] 71 [] Q)
    else
     (if (I 42 0) < (I 42 0) then
      Q (.inl (some (.int (Int32.ofInt (-1))))) (gE Lx) I L e
     else
      Q (.inl (some (.int (Int32.ofInt 1)))) (gE Lx) I L e))) :
    Wp 66 0 [(0, .ref 42), (1, .ref 42)] [] (gE Lx) I L e Q := by
  refine w_a f_66_0 ?_
  refine w_a f_66_1 ?_
  refine w_a f_66_4 ?_
  refine w_a f_66_5 ?_
  refine w_a f_66_8 ?_
  refine i_m (fun h => ?_) (fun h => ?_) h
  · refine w_a f_66_28 ?_
    refine w_a f_66_29 ?_
    refine w_a f_66_32 ?_
    refine w_a f_66_35 ?_
    refine w_a f_66_36 ?_
    refine w_a f_66_39 ?_
    refine w_a f_66_42 ?_
    refine w_a f_66_43 ?_
    refine w_a f_66_46 ?_
    refine w_a f_66_49 ?_
    refine w_a f_66_50 ?_
    refine w_a f_66_53 ?_
    exact w_c (ks := [0, 1]) f_66_56 rfl rfl h
  · refine w_a f_66_11 ?_
    refine w_a f_66_12 ?_
    refine w_a f_66_15 ?_
    refine w_a f_66_16 ?_
    refine w_a f_66_19 ?_
    refine i_m (fun h => ?_) (fun h => ?_) h
    · refine w_a f_66_22 ?_
      refine w_a f_66_23 ?_
      refine w_a f_66_27 ?_
      exact h
    · refine w_a f_66_26 ?_
      refine w_a f_66_27 ?_
      exact h
set_option maxRecDepth 10000 in
set_option maxHeartbeats 4000000 in
theorem s_66_59_1_1 {Lx : Nat} {I : Mi} {L : Ml} {e : Nat} {Q : Kq} {r : Int32} (h :
    Q (.inl (some (.int r))) (gE Lx) I L e) :
    Wp 66 59 [(0, .ref 42), (1, .ref 42)] [.int r] (gE Lx) I L e Q := by
  refine w_a f_66_59 ?_
  exact h
set_option maxRecDepth 10000 in
set_option maxHeartbeats 4000000 in
theorem s_63_39_1_1 {Lx : Nat} {I : Mi} {L : Ml} {e : Nat} {Q : Kq} {r : Int32} (h :
    (if r < 0 then
     Q (.inl (some (.int (Int32.ofInt 1)))) (gE Lx) I L e
    else
     Q (.inl (some (.int (Int32.ofInt 0)))) (gE Lx) I L e)) :
    Wp 63 39 [(0, .ref 37), (1, .ref 37)] [.int r] (gE Lx) I L e Q := by
  refine w_a f_63_39 ?_
  refine i_m (fun h => ?_) (fun h => ?_) h
  · refine w_a f_63_42 ?_
    refine w_a f_63_43 ?_
    refine w_a f_63_47 ?_
    exact h
  · refine w_a f_63_46 ?_
    refine w_a f_63_47 ?_
    exact h
set_option maxRecDepth 10000 in
set_option maxHeartbeats 4000000 in
theorem s_66_0_1_2 {Lx : Nat} {I : Mi} {L : Ml} {e : Nat} {Q : Kq} (h :
    (if (I 42 0) = (I 49 0) then
     Wp 28 0 [(0, .long (L 43 0)), (2, .long (L 43 1)), (4, .long (L 50 0)), (6, .long (L 50 1))] [] (gE Lx) I L e (kcp (Wp 66) 66 56 0 [(0, .ref 42), (1, .ref 49)] 71 [] Q)
    else
     (if (I 42 0) < (I 49 0) then
      Q (.inl (some (.int (Int32.ofInt (-1))))) (gE Lx) I L e
     else
      Q (.inl (some (.int (Int32.ofInt 1)))) (gE Lx) I L e))) :
    Wp 66 0 [(0, .ref 42), (1, .ref 49)] [] (gE Lx) I L e Q := by
  refine w_a f_66_0 ?_
  refine w_a f_66_1 ?_
  refine w_a f_66_4 ?_
  refine w_a f_66_5 ?_
  refine w_a f_66_8 ?_
  refine i_m (fun h => ?_) (fun h => ?_) h
  · refine w_a f_66_28 ?_
    refine w_a f_66_29 ?_
    refine w_a f_66_32 ?_
    refine w_a f_66_35 ?_
    refine w_a f_66_36 ?_
    refine w_a f_66_39 ?_
    refine w_a f_66_42 ?_
    refine w_a f_66_43 ?_
    refine w_a f_66_46 ?_
    refine w_a f_66_49 ?_
    refine w_a f_66_50 ?_
    refine w_a f_66_53 ?_
    exact w_c (ks := [0, 1]) f_66_56 rfl rfl h
  · refine w_a f_66_11 ?_
    refine w_a f_66_12 ?_
    refine w_a f_66_15 ?_
    refine w_a f_66_16 ?_
    refine w_a f_66_19 ?_
    refine i_m (fun h => ?_) (fun h => ?_) h
    · refine w_a f_66_22 ?_
      refine w_a f_66_23 ?_
      refine w_a f_66_27 ?_
      exact h
    · refine w_a f_66_26 ?_
      refine w_a f_66_27 ?_
      exact h
set_option maxRecDepth 10000 in
set_option maxHeartbeats 4000000 in
theorem s_66_59_1_2 {Lx : Nat} {I : Mi} {L : Ml} {e : Nat} {Q : Kq} {r : Int32} (h :
    Q (.inl (some (.int r))) (gE Lx) I L e) :
    Wp 66 59 [(0, .ref 42), (1, .ref 49)] [.int r] (gE Lx) I L e Q := by
  refine w_a f_66_59 ?_
  exact h
set_option maxRecDepth 10000 in
set_option maxHeartbeats 4000000 in
theorem s_63_39_1_2 {Lx : Nat} {I : Mi} {L : Ml} {e : Nat} {Q : Kq} {r : Int32} (h :
    (if r < 0 then
     Q (.inl (some (.int (Int32.ofInt 1)))) (gE Lx) I L e
    else
     Q (.inl (some (.int (Int32.ofInt 0)))) (gE Lx) I L e)) :
    Wp 63 39 [(0, .ref 37), (1, .ref 44)] [.int r] (gE Lx) I L e Q := by
  refine w_a f_63_39 ?_
  refine i_m (fun h => ?_) (fun h => ?_) h
  · refine w_a f_63_42 ?_
    refine w_a f_63_43 ?_
    refine w_a f_63_47 ?_
    exact h
  · refine w_a f_63_46 ?_
    refine w_a f_63_47 ?_
    exact h
set_option maxRecDepth 10000 in
set_option maxHeartbeats 4000000 in
theorem s_66_0_1_3 {Lx : Nat} {I : Mi} {L : Ml} {e : Nat} {Q : Kq} (h :
    (if (I 42 0) = (I 56 0) then
     Wp 28 0 [(0, .long (L 43 0)), (2, .long (L 43 1)), (4, .long (L 57 0)), (6, .long (L 57 1))] [] (gE Lx) I L e (kcp (Wp 66) 66 56 0 [(0, .ref 42), (1, .ref 56)] 71 [] Q)
    else
     (if (I 42 0) < (I 56 0) then
      Q (.inl (some (.int (Int32.ofInt (-1))))) (gE Lx) I L e
     else
      Q (.inl (some (.int (Int32.ofInt 1)))) (gE Lx) I L e))) :
    Wp 66 0 [(0, .ref 42), (1, .ref 56)] [] (gE Lx) I L e Q := by
  refine w_a f_66_0 ?_
  refine w_a f_66_1 ?_
  refine w_a f_66_4 ?_
  refine w_a f_66_5 ?_
  refine w_a f_66_8 ?_
  refine i_m (fun h => ?_) (fun h => ?_) h
  · refine w_a f_66_28 ?_
    refine w_a f_66_29 ?_
    refine w_a f_66_32 ?_
    refine w_a f_66_35 ?_
    refine w_a f_66_36 ?_
    refine w_a f_66_39 ?_
    refine w_a f_66_42 ?_
    refine w_a f_66_43 ?_
    refine w_a f_66_46 ?_
    refine w_a f_66_49 ?_
    refine w_a f_66_50 ?_
    refine w_a f_66_53 ?_
    exact w_c (ks := [0, 1]) f_66_56 rfl rfl h
  · refine w_a f_66_11 ?_
    refine w_a f_66_12 ?_
    refine w_a f_66_15 ?_
    refine w_a f_66_16 ?_
    refine w_a f_66_19 ?_
    refine i_m (fun h => ?_) (fun h => ?_) h
    · refine w_a f_66_22 ?_
      refine w_a f_66_23 ?_
      refine w_a f_66_27 ?_
      exact h
    · refine w_a f_66_26 ?_
      refine w_a f_66_27 ?_
      exact h
set_option maxRecDepth 10000 in
set_option maxHeartbeats 4000000 in
theorem s_66_59_1_3 {Lx : Nat} {I : Mi} {L : Ml} {e : Nat} {Q : Kq} {r : Int32} (h :
    Q (.inl (some (.int r))) (gE Lx) I L e) :
    Wp 66 59 [(0, .ref 42), (1, .ref 56)] [.int r] (gE Lx) I L e Q := by
  refine w_a f_66_59 ?_
  exact h
set_option maxRecDepth 10000 in
set_option maxHeartbeats 4000000 in
theorem s_63_39_1_3 {Lx : Nat} {I : Mi} {L : Ml} {e : Nat} {Q : Kq} {r : Int32} (h :
    (if r < 0 then
     Q (.inl (some (.int (Int32.ofInt 1)))) (gE Lx) I L e
    else
     Q (.inl (some (.int (Int32.ofInt 0)))) (gE Lx) I L e)) :
    Wp 63 39 [(0, .ref 37), (1, .ref 51)] [.int r] (gE Lx) I L e Q := by
  refine w_a f_63_39 ?_
  refine i_m (fun h => ?_) (fun h => ?_) h
  · refine w_a f_63_42 ?_
    refine w_a f_63_43 ?_
    refine w_a f_63_47 ?_
    exact h
  · refine w_a f_63_46 ?_
    refine w_a f_63_47 ?_
    exact h
set_option maxRecDepth 10000 in
set_option maxHeartbeats 4000000 in
theorem s_202_5_1 {Lx : Nat} {I : Mi} {L : Ml} {e : Nat} {Q : Kq} (h :
    Q (.inl (some (.int (I 5 3)))) (gE Lx) (ri (ri (ri (ui (ui (ui (ui (ui I 37 0 (Int32.ofInt 1)) 38 0 (I 5 0)) 38 1 (I 5 1)) 38 2 (I 5 2)) 38 3 (I 5 3)) 39 (va_cpy ((ui (ui (ui (ui (ui I 37 0 (Int32.ofInt 1)) 38 0 (I 5 0)) 38 1 (I 5 1)) 38 2 (I 5 2)) 38 3 (I 5 3)) 6) ((ui (ui (ui (ui (ui I 37 0 (Int32.ofInt 1)) 38 0 (I 5 0)) 38 1 (I 5 1)) 38 2 (I 5 2)) 38 3 (I 5 3)) 39) 0 0 4)) 40 (va_cpy ((ri (ui (ui (ui (ui (ui I 37 0 (Int32.ofInt 1)) 38 0 (I 5 0)) 38 1 (I 5 1)) 38 2 (I 5 2)) 38 3 (I 5 3)) 39 (va_cpy ((ui (ui (ui (ui (ui I 37 0 (Int32.ofInt 1)) 38 0 (I 5 0)) 38 1 (I 5 1)) 38 2 (I 5 2)) 38 3 (I 5 3)) 6) ((ui (ui (ui (ui (ui I 37 0 (Int32.ofInt 1)) 38 0 (I 5 0)) 38 1 (I 5 1)) 38 2 (I 5 2)) 38 3 (I 5 3)) 39) 0 0 4)) 7) ((ri (ui (ui (ui (ui (ui I 37 0 (Int32.ofInt 1)) 38 0 (I 5 0)) 38 1 (I 5 1)) 38 2 (I 5 2)) 38 3 (I 5 3)) 39 (va_cpy ((ui (ui (ui (ui (ui I 37 0 (Int32.ofInt 1)) 38 0 (I 5 0)) 38 1 (I 5 1)) 38 2 (I 5 2)) 38 3 (I 5 3)) 6) ((ui (ui (ui (ui (ui I 37 0 (Int32.ofInt 1)) 38 0 (I 5 0)) 38 1 (I 5 1)) 38 2 (I 5 2)) 38 3 (I 5 3)) 39) 0 0 4)) 40) 0 0 4)) 41 (va_cpy ((ri (ri (ui (ui (ui (ui (ui I 37 0 (Int32.ofInt 1)) 38 0 (I 5 0)) 38 1 (I 5 1)) 38 2 (I 5 2)) 38 3 (I 5 3)) 39 (va_cpy ((ui (ui (ui (ui (ui I 37 0 (Int32.ofInt 1)) 38 0 (I 5 0)) 38 1 (I 5 1)) 38 2 (I 5 2)) 38 3 (I 5 3)) 6) ((ui (ui (ui (ui (ui I 37 0 (Int32.ofInt 1)) 38 0 (I 5 0)) 38 1 (I 5 1)) 38 2 (I 5 2)) 38 3 (I 5 3)) 39) 0 0 4)) 40 (va_cpy ((ri (ui (ui (ui (ui (ui I 37 0 (Int32.ofInt 1)) 38 0 (I 5 0)) 38 1 (I 5 1)) 38 2 (I 5 2)) 38 3 (I 5 3)) 39 (va_cpy ((ui (ui (ui (ui (ui I 37 0 (Int32.ofInt 1)) 38 0 (I 5 0)) 38 1 (I 5 1)) 38 2 (I 5 2)) 38 3 (I 5 3)) 6) ((ui (ui (ui (ui (ui I 37 0 (Int32.ofInt 1)) 38 0 (I 5 0)) 38 1 (I 5 1)) 38 2 (I 5 2)) 38 3 (I 5 3)) 39) 0 0 4)) 7) ((ri (ui (ui (ui (ui (ui I 37 0 (Int32.ofInt 1)) 38 0 (I 5 0)) 38 1 (I 5 1)) 38 2 (I 5 2)) 38 3 (I 5 3)) 39 (va_cpy ((ui (ui (ui (ui (ui I 37 0 (Int32.ofInt 1)) 38 0 (I 5 0)) 38 1 (I 5 1)) 38 2 (I 5 2)) 38 3 (I 5 3)) 6) ((ui (ui (ui (ui (ui I 37 0 (Int32.ofInt 1)) 38 0 (I 5 0)) 38 1 (I 5 1)) 38 2 (I 5 2)) 38 3 (I 5 3)) 39) 0 0 4)) 40) 0 0 4)) 8) ((ri (ri (ui (ui (ui (ui (ui I 37 0 (Int32.ofInt 1)) 38 0 (I 5 0)) 38 1 (I 5 1)) 38 2 (I 5 2)) 38 3 (I 5 3)) 39 (va_cpy ((ui (ui (ui (ui (ui I 37 0 (Int32.ofInt 1)) 38 0 (I 5 0)) 38 1 (I 5 1)) 38 2 (I 5 2)) 38 3 (I 5 3)) 6) ((ui (ui (ui (ui (ui I 37 0 (Int32.ofInt 1)) 38 0 (I 5 0)) 38 1 (I 5 1)) 38 2 (I 5 2)) 38 3 (I 5 3)) 39) 0 0 4)) 40 (va_cpy ((ri (ui (ui (ui (ui (ui I 37 0 (Int32.ofInt 1)) 38 0 (I 5 0)) 38 1 (I 5 1)) 38 2 (I 5 2)) 38 3 (I 5 3)) 39 (va_cpy ((ui (ui (ui (ui (ui I 37 0 (Int32.ofInt 1)) 38 0 (I 5 0)) 38 1 (I 5 1)) 38 2 (I 5 2)) 38 3 (I 5 3)) 6) ((ui (ui (ui (ui (ui I 37 0 (Int32.ofInt 1)) 38 0 (I 5 0)) 38 1 (I 5 1)) 38 2 (I 5 2)) 38 3 (I 5 3)) 39) 0 0 4)) 7) ((ri (ui (ui (ui (ui (ui I 37 0 (Int32.ofInt 1)) 38 0 (I 5 0)) 38 1 (I 5 1)) 38 2 (I 5 2)) 38 3 (I 5 3)) 39 (va_cpy ((ui (ui (ui (ui (ui I 37 0 (Int32.ofInt 1)) 38 0 (I 5 0)) 38 1 (I 5 1)) 38 2 (I 5 2)) 38 3 (I 5 3)) 6) ((ui (ui (ui (ui (ui I 37 0 (Int32.ofInt 1)) 38 0 (I 5 0)) 38 1 (I 5 1)) 38 2 (I 5 2)) 38 3 (I 5 3)) 39) 0 0 4)) 40) 0 0 4)) 41) 0 0 4)) L e) :
    Wp 202 5 [(0, .ref 1), (1, .int (Int32.ofInt 1))] [] (gE Lx) I L e Q := by
  refine w_a f_202_5 ?_
  refine w_a f_202_6 ?_
  refine w_a f_202_9 ?_
  refine w_a f_202_10 ?_
  refine w_a f_202_11 ?_
  refine w_a f_202_12 ?_
  refine w_a f_202_15 ?_
  refine w_a f_202_16 ?_
  refine w_a f_202_19 ?_
  refine w_a f_202_20 ?_
  refine w_a f_202_21 ?_
  refine w_a f_202_24 ?_
  refine w_a f_202_25 ?_
  refine w_a f_202_28 ?_
  refine w_a (ls := [(0, .ref 38), (1, .ref 5)]) f_16_0 ?_
  refine w_a f_16_1 ?_
  refine w_a f_16_2 ?_
  refine w_a f_16_5 ?_
  refine w_a f_16_6 ?_
  refine w_a f_16_9 ?_
  refine w_a f_16_10 ?_
  refine w_a f_16_13 ?_
  refine w_a (ls := [(0, .ref 38), (1, .int (I 5 0)), (2, .int (I 5 1)), (3, .int (I 5 2))]) f_17_0 ?_
  refine w_a f_17_1 ?_
  refine w_a f_17_2 ?_
  refine w_a f_17_5 ?_
  refine w_a f_17_6 ?_
  refine w_a f_17_7 ?_
  refine w_a f_17_10 ?_
  refine w_a f_17_11 ?_
  refine w_a f_17_12 ?_
  refine w_a f_17_15 ?_
  refine w_a (ls := [(0, .ref 38), (1, .ref 5)]) f_16_16 ?_
  refine w_a f_16_17 ?_
  refine w_a f_16_18 ?_
  refine w_a f_16_21 ?_
  refine w_a f_16_24 ?_
  refine w_a f_16_25 ?_
  refine w_a f_16_28 ?_
  refine w_a f_16_29 ?_
  refine w_a f_16_30 ?_
  refine w_a f_16_33 ?_
  refine w_a f_16_34 ?_
  refine w_a f_16_35 ?_
  refine w_a f_16_38 ?_
  refine w_a f_16_39 ?_
  refine w_a f_16_42 ?_
  refine w_a f_16_43 ?_
  refine w_a f_16_44 ?_
  refine w_a f_16_47 ?_
  refine w_a f_16_48 ?_
  refine w_a f_16_49 ?_
  refine w_a f_16_52 ?_
  refine w_a f_16_53 ?_
  refine w_a f_16_56 ?_
  refine w_a f_16_57 ?_
  refine w_a f_16_58 ?_
  refine w_a f_16_61 ?_
  refine w_a f_16_62 ?_
  refine w_a f_16_63 ?_
  refine w_a f_16_66 ?_
  refine w_a (ls := [(0, .ref 1), (1, .int (Int32.ofInt 1))]) f_202_31 ?_
  refine w_a f_202_32 ?_
  refine w_a f_202_35 ?_
  refine w_a f_202_38 ?_
  exact h
set_option maxRecDepth 10000 in
set_option maxHeartbeats 4000000 in
theorem s_204_5_1 {Lx : Nat} {I : Mi} {L : Ml} {e : Nat} {Q : Kq} (h :
    (if (I 37 0) = 0 then
     Q (.inr 102) (gE Lx) I L (e + 1)
    else
     Q (.inl (some (.int (I 38 3)))) (gE Lx) (ri (ri (ri (ui (ui (ui (ui I 5 0 (I 38 0)) 5 1 (I 38 1)) 5 2 (I 38 2)) 5 3 (I 38 3)) 6 (va_cpy ((ui (ui (ui (ui I 5 0 (I 38 0)) 5 1 (I 38 1)) 5 2 (I 38 2)) 5 3 (I 38 3)) 39) ((ui (ui (ui (ui I 5 0 (I 38 0)) 5 1 (I 38 1)) 5 2 (I 38 2)) 5 3 (I 38 3)) 6) 0 0 4)) 7 (va_cpy ((ri (ui (ui (ui (ui I 5 0 (I 38 0)) 5 1 (I 38 1)) 5 2 (I 38 2)) 5 3 (I 38 3)) 6 (va_cpy ((ui (ui (ui (ui I 5 0 (I 38 0)) 5 1 (I 38 1)) 5 2 (I 38 2)) 5 3 (I 38 3)) 39) ((ui (ui (ui (ui I 5 0 (I 38 0)) 5 1 (I 38 1)) 5 2 (I 38 2)) 5 3 (I 38 3)) 6) 0 0 4)) 40) ((ri (ui (ui (ui (ui I 5 0 (I 38 0)) 5 1 (I 38 1)) 5 2 (I 38 2)) 5 3 (I 38 3)) 6 (va_cpy ((ui (ui (ui (ui I 5 0 (I 38 0)) 5 1 (I 38 1)) 5 2 (I 38 2)) 5 3 (I 38 3)) 39) ((ui (ui (ui (ui I 5 0 (I 38 0)) 5 1 (I 38 1)) 5 2 (I 38 2)) 5 3 (I 38 3)) 6) 0 0 4)) 7) 0 0 4)) 8 (va_cpy ((ri (ri (ui (ui (ui (ui I 5 0 (I 38 0)) 5 1 (I 38 1)) 5 2 (I 38 2)) 5 3 (I 38 3)) 6 (va_cpy ((ui (ui (ui (ui I 5 0 (I 38 0)) 5 1 (I 38 1)) 5 2 (I 38 2)) 5 3 (I 38 3)) 39) ((ui (ui (ui (ui I 5 0 (I 38 0)) 5 1 (I 38 1)) 5 2 (I 38 2)) 5 3 (I 38 3)) 6) 0 0 4)) 7 (va_cpy ((ri (ui (ui (ui (ui I 5 0 (I 38 0)) 5 1 (I 38 1)) 5 2 (I 38 2)) 5 3 (I 38 3)) 6 (va_cpy ((ui (ui (ui (ui I 5 0 (I 38 0)) 5 1 (I 38 1)) 5 2 (I 38 2)) 5 3 (I 38 3)) 39) ((ui (ui (ui (ui I 5 0 (I 38 0)) 5 1 (I 38 1)) 5 2 (I 38 2)) 5 3 (I 38 3)) 6) 0 0 4)) 40) ((ri (ui (ui (ui (ui I 5 0 (I 38 0)) 5 1 (I 38 1)) 5 2 (I 38 2)) 5 3 (I 38 3)) 6 (va_cpy ((ui (ui (ui (ui I 5 0 (I 38 0)) 5 1 (I 38 1)) 5 2 (I 38 2)) 5 3 (I 38 3)) 39) ((ui (ui (ui (ui I 5 0 (I 38 0)) 5 1 (I 38 1)) 5 2 (I 38 2)) 5 3 (I 38 3)) 6) 0 0 4)) 7) 0 0 4)) 41) ((ri (ri (ui (ui (ui (ui I 5 0 (I 38 0)) 5 1 (I 38 1)) 5 2 (I 38 2)) 5 3 (I 38 3)) 6 (va_cpy ((ui (ui (ui (ui I 5 0 (I 38 0)) 5 1 (I 38 1)) 5 2 (I 38 2)) 5 3 (I 38 3)) 39) ((ui (ui (ui (ui I 5 0 (I 38 0)) 5 1 (I 38 1)) 5 2 (I 38 2)) 5 3 (I 38 3)) 6) 0 0 4)) 7 (va_cpy ((ri (ui (ui (ui (ui I 5 0 (I 38 0)) 5 1 (I 38 1)) 5 2 (I 38 2)) 5 3 (I 38 3)) 6 (va_cpy ((ui (ui (ui (ui I 5 0 (I 38 0)) 5 1 (I 38 1)) 5 2 (I 38 2)) 5 3 (I 38 3)) 39) ((ui (ui (ui (ui I 5 0 (I 38 0)) 5 1 (I 38 1)) 5 2 (I 38 2)) 5 3 (I 38 3)) 6) 0 0 4)) 40) ((ri (ui (ui (ui (ui I 5 0 (I 38 0)) 5 1 (I 38 1)) 5 2 (I 38 2)) 5 3 (I 38 3)) 6 (va_cpy ((ui (ui (ui (ui I 5 0 (I 38 0)) 5 1 (I 38 1)) 5 2 (I 38 2)) 5 3 (I 38 3)) 39) ((ui (ui (ui (ui I 5 0 (I 38 0)) 5 1 (I 38 1)) 5 2 (I 38 2)) 5 3 (I 38 3)) 6) 0 0 4)) 7) 0 0 4)) 8) 0 0 4)) L e)) :
    Wp 204 5 [(0, .ref 1), (1, .int (Int32.ofInt 1))] [] (gE Lx) I L e Q := by
  refine w_a f_204_5 ?_
  refine w_a f_204_6 ?_
  refine w_a f_204_9 ?_
  refine w_a f_204_10 ?_
  refine w_a f_204_11 ?_
  refine w_a f_204_14 ?_
  refine i_m (fun h => ?_) (fun h => ?_) h
  · refine w_a f_204_17 ?_
    exact h
  · refine w_a f_204_25 ?_
    refine w_a f_204_26 ?_
    refine w_a f_204_29 ?_
    refine w_a f_204_30 ?_
    refine w_a f_204_33 ?_
    refine w_a f_204_34 ?_
    refine w_a f_204_35 ?_
    refine w_a f_204_38 ?_
    refine w_a (ls := [(0, .ref 5), (1, .ref 38)]) f_16_0 ?_
    refine w_a f_16_1 ?_
    refine w_a f_16_2 ?_
    refine w_a f_16_5 ?_
    refine w_a f_16_6 ?_
    refine w_a f_16_9 ?_
    refine w_a f_16_10 ?_
    refine w_a f_16_13 ?_
    refine w_a (ls := [(0, .ref 5), (1, .int (I 38 0)), (2, .int (I 38 1)), (3, .int (I 38 2))]) f_17_0 ?_
    refine w_a f_17_1 ?_
    refine w_a f_17_2 ?_
    refine w_a f_17_5 ?_
    refine w_a f_17_6 ?_
    refine w_a f_17_7 ?_
    refine w_a f_17_10 ?_
    refine w_a f_17_11 ?_
    refine w_a f_17_12 ?_
    refine w_a f_17_15 ?_
    refine w_a (ls := [(0, .ref 5), (1, .ref 38)]) f_16_16 ?_
    refine w_a f_16_17 ?_
    refine w_a f_16_18 ?_
    refine w_a f_16_21 ?_
    refine w_a f_16_24 ?_
    refine w_a f_16_25 ?_
    refine w_a f_16_28 ?_
    refine w_a f_16_29 ?_
    refine w_a f_16_30 ?_
    refine w_a f_16_33 ?_
    refine w_a f_16_34 ?_
    refine w_a f_16_35 ?_
    refine w_a f_16_38 ?_
    refine w_a f_16_39 ?_
    refine w_a f_16_42 ?_
    refine w_a f_16_43 ?_
    refine w_a f_16_44 ?_
    refine w_a f_16_47 ?_
    refine w_a f_16_48 ?_
    refine w_a f_16_49 ?_
    refine w_a f_16_52 ?_
    refine w_a f_16_53 ?_
    refine w_a f_16_56 ?_
    refine w_a f_16_57 ?_
    refine w_a f_16_58 ?_
    refine w_a f_16_61 ?_
    refine w_a f_16_62 ?_
    refine w_a f_16_63 ?_
    refine w_a f_16_66 ?_
    refine w_a (ls := [(0, .ref 1), (1, .int (Int32.ofInt 1))]) f_204_41 ?_
    refine w_a f_204_42 ?_
    refine w_a f_204_45 ?_
    refine w_a f_204_48 ?_
    exact h
set_option maxRecDepth 10000 in
set_option maxHeartbeats 4000000 in
theorem s_12_0_45 {Lx : Nat} {I : Mi} {L : Ml} {e : Nat} {Q : Kq} {x1 : Int32} (h :
    (if x1 < 0 then
     Q (.inl (some (.int (Int32.ofInt 0)))) (gE Lx) I L e
    else
     (if x1 < (Int32.ofInt 4) then
      (inb x1 4 (
       Q (.inl (some (.int (I 46 x1.toNatClampNeg)))) (gE Lx) I L e)
      False)
     else
      Q (.inl (some (.int (Int32.ofInt 0)))) (gE Lx) I L e))) :
    Wp 12 0 [(0, .ref 45), (1, .int x1)] [] (gE Lx) I L e Q := by
  refine w_a f_12_0 ?_
  refine w_a f_12_1 ?_
  refine w_a f_12_2 ?_
  refine w_a (ls := [(0, .ref 45), (1, .int x1)]) f_13_0 ?_
  refine w_a f_13_1 ?_
  refine i_m (fun h => ?_) (fun h => ?_) h
  · refine w_a f_13_13 ?_
    refine w_a f_13_14 ?_
    refine w_a (ls := [(0, .ref 45), (1, .int x1)]) f_12_5 ?_
    refine w_a f_12_17 ?_
    refine w_a f_12_18 ?_
    exact h
  · refine w_a f_13_4 ?_
    refine w_a f_13_5 ?_
    refine w_a f_13_6 ?_
    refine i_m (fun h => ?_) (fun h => ?_) h
    · refine w_a f_13_9 ?_
      refine w_a f_13_10 ?_
      refine w_a f_13_14 ?_
      refine w_a (ls := [(0, .ref 45), (1, .int x1)]) f_12_5 ?_
      refine w_a f_12_8 ?_
      refine w_a f_12_9 ?_
      refine w_a f_12_12 ?_
      refine w_a f_12_13 ?_
      refine n_m (fun h => ?_) h
      refine w_a f_12_14 ?_
      refine w_a f_12_18 ?_
      exact h
    · refine w_a f_13_13 ?_
      refine w_a f_13_14 ?_
      refine w_a (ls := [(0, .ref 45), (1, .int x1)]) f_12_5 ?_
      refine w_a f_12_17 ?_
      refine w_a f_12_18 ?_
      exact h
set_option maxRecDepth 10000 in
set_option maxHeartbeats 4000000 in
theorem s_14_0_45 {Lx : Nat} {I : Mi} {L : Ml} {e : Nat} {Q : Kq} {x1 : Int32} (h :
    (if x1 < 0 then
     Q (.inl (some (.int (Int32.ofInt 0)))) (gE Lx) I L e
    else
     (if x1 < (Int32.ofInt 4) then
      (inb x1 4 (
       Q (.inl (some (.int (I 47 x1.toNatClampNeg)))) (gE Lx) I L e)
      False)
     else
      Q (.inl (some (.int (Int32.ofInt 0)))) (gE Lx) I L e))) :
    Wp 14 0 [(0, .ref 45), (1, .int x1)] [] (gE Lx) I L e Q := by
  refine w_a f_14_0 ?_
  refine w_a f_14_1 ?_
  refine w_a f_14_2 ?_
  refine w_a (ls := [(0, .ref 45), (1, .int x1)]) f_13_0 ?_
  refine w_a f_13_1 ?_
  refine i_m (fun h => ?_) (fun h => ?_) h
  · refine w_a f_13_13 ?_
    refine w_a f_13_14 ?_
    refine w_a (ls := [(0, .ref 45), (1, .int x1)]) f_14_5 ?_
    refine w_a f_14_17 ?_
    refine w_a f_14_18 ?_
    exact h
  · refine w_a f_13_4 ?_
    refine w_a f_13_5 ?_
    refine w_a f_13_6 ?_
    refine i_m (fun h => ?_) (fun h => ?_) h
    · refine w_a f_13_9 ?_
      refine w_a f_13_10 ?_
      refine w_a f_13_14 ?_
      refine w_a (ls := [(0, .ref 45), (1, .int x1)]) f_14_5 ?_
      refine w_a f_14_8 ?_
      refine w_a f_14_9 ?_
      refine w_a f_14_12 ?_
      refine w_a f_14_13 ?_
      refine n_m (fun h => ?_) h
      refine w_a f_14_14 ?_
      refine w_a f_14_18 ?_
      exact h
    · refine w_a f_13_13 ?_
      refine w_a f_13_14 ?_
      refine w_a (ls := [(0, .ref 45), (1, .int x1)]) f_14_5 ?_
      refine w_a f_14_17 ?_
      refine w_a f_14_18 ?_
      exact h
set_option maxRecDepth 10000 in
set_option maxHeartbeats 4000000 in
theorem s_15_0_45 {Lx : Nat} {I : Mi} {L : Ml} {e : Nat} {Q : Kq} {x1 : Int32} (h :
    (if x1 < 0 then
     Q (.inl (some (.int (Int32.ofInt 1)))) (gE Lx) I L e
    else
     (if x1 < (Int32.ofInt 4) then
      (inb x1 4 (
       Q (.inl (some (.int (I 48 x1.toNatClampNeg)))) (gE Lx) I L e)
      False)
     else
      Q (.inl (some (.int (Int32.ofInt 1)))) (gE Lx) I L e))) :
    Wp 15 0 [(0, .ref 45), (1, .int x1)] [] (gE Lx) I L e Q := by
  refine w_a f_15_0 ?_
  refine w_a f_15_1 ?_
  refine w_a f_15_2 ?_
  refine w_a (ls := [(0, .ref 45), (1, .int x1)]) f_13_0 ?_
  refine w_a f_13_1 ?_
  refine i_m (fun h => ?_) (fun h => ?_) h
  · refine w_a f_13_13 ?_
    refine w_a f_13_14 ?_
    refine w_a (ls := [(0, .ref 45), (1, .int x1)]) f_15_5 ?_
    refine w_a f_15_17 ?_
    refine w_a f_15_18 ?_
    exact h
  · refine w_a f_13_4 ?_
    refine w_a f_13_5 ?_
    refine w_a f_13_6 ?_
    refine i_m (fun h => ?_) (fun h => ?_) h
    · refine w_a f_13_9 ?_
      refine w_a f_13_10 ?_
      refine w_a f_13_14 ?_
      refine w_a (ls := [(0, .ref 45), (1, .int x1)]) f_15_5 ?_
      refine w_a f_15_8 ?_
      refine w_a f_15_9 ?_
      refine w_a f_15_12 ?_
      refine w_a f_15_13 ?_
      refine n_m (fun h => ?_) h
      refine w_a f_15_14 ?_
      refine w_a f_15_18 ?_
      exact h
    · refine w_a f_13_13 ?_
      refine w_a f_13_14 ?_
      refine w_a (ls := [(0, .ref 45), (1, .int x1)]) f_15_5 ?_
      refine w_a f_15_17 ?_
      refine w_a f_15_18 ?_
      exact h
set_option maxRecDepth 10000 in
set_option maxHeartbeats 4000000 in
theorem s_25_0_50 {Lx : Nat} {I : Mi} {L : Ml} {e : Nat} {Q : Kq} {y1 : Int64} {y3 : Int64} (h :
    Wp 26 0 [(0, .long y1), (2, .long y3)] [] (gE Lx) I L e (kcp (Wp 25) 25 2 0 [(0, .ref 50), (1, .long y1), (3, .long y3)] 71 [] Q)) :
    Wp 25 0 [(0, .ref 50), (1, .long y1), (3, .long y3)] [] (gE Lx) I L e Q := by
  refine w_a f_25_0 ?_
  refine w_a f_25_1 ?_
  exact w_c (ks := [0, 1, 3]) f_25_2 rfl rfl h
set_option maxRecDepth 10000 in
set_option maxHeartbeats 4000000 in
theorem s_25_5_50 {Lx : Nat} {I : Mi} {L : Ml} {e : Nat} {Q : Kq} {y1 : Int64} {y3 : Int64} {rl : Int64} (h :
    (if rl = (Int64.ofInt 0) then
     Q (.inl none) (gE Lx) I (ul (ul L 50 0 (Int64.ofInt 0)) 50 1 (Int64.ofInt 1)) e
    else
     (if y3 < (Int64.ofInt 0) then
      (if (-rl) = 0 then False else
       (if (-rl) = 0 then False else
        Q (.inl none) (gE Lx) I (ul (ul L 50 0 (y1 / (-rl))) 50 1 (y3 / (-rl))) e))
     else
      (if y3 = (Int64.ofInt 0) then
       (if y1 < (Int64.ofInt 0) then
        (if (-rl) = 0 then False else
         (if (-rl) = 0 then False else
          Q (.inl none) (gE Lx) I (ul (ul L 50 0 (y1 / (-rl))) 50 1 (y3 / (-rl))) e))
       else
        (if rl = 0 then False else
         (if rl = 0 then False else
          Q (.inl none) (gE Lx) I (ul (ul L 50 0 (y1 / rl)) 50 1 (y3 / rl)) e)))
      else
       (if rl = 0 then False else
        (if rl = 0 then False else
         Q (.inl none) (gE Lx) I (ul (ul L 50 0 (y1 / rl)) 50 1 (y3 / rl)) e)))))) :
    Wp 25 5 [(0, .ref 50), (1, .long y1), (3, .long y3)] [.long rl] (gE Lx) I L e Q := by
  refine w_a f_25_5 ?_
  refine w_a (ls := [(5, .long rl), (0, .ref 50), (1, .long y1), (3, .long y3)]) f_25_7 ?_
  refine w_a f_25_9 ?_
  refine w_a f_25_10 ?_
  refine i_m (fun h => ?_) (fun h => ?_) h
  · refine w_a f_25_14 ?_
    refine w_a f_25_15 ?_
    refine w_a f_25_16 ?_
    refine w_a f_25_19 ?_
    refine w_a f_25_20 ?_
    refine w_a f_25_21 ?_
    refine w_a f_25_24 ?_
    exact h
  · refine w_a f_25_25 ?_
    refine w_a f_25_26 ?_
    refine w_a f_25_27 ?_
    refine i_m (fun h => ?_) (fun h => ?_) h
    · refine w_a f_25_43 ?_
      refine w_a f_25_45 ?_
      refine w_a f_25_46 ?_
      refine w_a f_25_51 ?_
      refine w_a (ls := [(7, .long (-rl)), (5, .long rl), (0, .ref 50), (1, .long y1), (3, .long y3)]) f_25_53 ?_
      refine w_a f_25_54 ?_
      refine w_a f_25_55 ?_
      refine w_a f_25_57 ?_
      refine i_m id (fun h => ?_) h
      refine w_a f_25_58 ?_
      refine w_a f_25_61 ?_
      refine w_a f_25_62 ?_
      refine w_a f_25_63 ?_
      refine w_a f_25_65 ?_
      refine i_m id (fun h => ?_) h
      refine w_a f_25_66 ?_
      refine w_a f_25_69 ?_
      exact h
    · refine w_a f_25_31 ?_
      refine w_a f_25_32 ?_
      refine w_a f_25_33 ?_
      refine i_m (fun h => ?_) (fun h => ?_) h
      · refine w_a f_25_37 ?_
        refine w_a f_25_38 ?_
        refine w_a f_25_39 ?_
        refine i_m (fun h => ?_) (fun h => ?_) h
        · refine w_a f_25_43 ?_
          refine w_a f_25_45 ?_
          refine w_a f_25_46 ?_
          refine w_a f_25_51 ?_
          refine w_a (ls := [(7, .long (-rl)), (5, .long rl), (0, .ref 50), (1, .long y1), (3, .long y3)]) f_25_53 ?_
          refine w_a f_25_54 ?_
          refine w_a f_25_55 ?_
          refine w_a f_25_57 ?_
          refine i_m id (fun h => ?_) h
          refine w_a f_25_58 ?_
          refine w_a f_25_61 ?_
          refine w_a f_25_62 ?_
          refine w_a f_25_63 ?_
          refine w_a f_25_65 ?_
          refine i_m id (fun h => ?_) h
          refine w_a f_25_66 ?_
          refine w_a f_25_69 ?_
          exact h
        · refine w_a f_25_49 ?_
          refine w_a f_25_51 ?_
          refine w_a (ls := [(7, .long rl), (5, .long rl), (0, .ref 50), (1, .long y1), (3, .long y3)]) f_25_53 ?_
          refine w_a f_25_54 ?_
          refine w_a f_25_55 ?_
          refine w_a f_25_57 ?_
          refine i_m id (fun h => ?_) h
          refine w_a f_25_58 ?_
          refine w_a f_25_61 ?_
          refine w_a f_25_62 ?_
          refine w_a f_25_63 ?_
          refine w_a f_25_65 ?_
          refine i_m id (fun h => ?_) h
          refine w_a f_25_66 ?_
          refine w_a f_25_69 ?_
          exact h
      · refine w_a f_25_49 ?_
        refine w_a f_25_51 ?_
        refine w_a (ls := [(7, .long rl), (5, .long rl), (0, .ref 50), (1, .long y1), (3, .long y3)]) f_25_53 ?_
        refine w_a f_25_54 ?_
        refine w_a f_25_55 ?_
        refine w_a f_25_57 ?_
        refine i_m id (fun h => ?_) h
        refine w_a f_25_58 ?_
        refine w_a f_25_61 ?_
        refine w_a f_25_62 ?_
        refine w_a f_25_63 ?_
        refine w_a f_25_65 ?_
        refine i_m id (fun h => ?_) h
        refine w_a f_25_66 ?_
        refine w_a f_25_69 ?_
        exact h
set_option maxRecDepth 10000 in
set_option maxHeartbeats 4000000 in
theorem s_27_30_50 {Lx : Nat} {I : Mi} {L : Ml} {e : Nat} {Q : Kq} (h :
    Q (.inl none) (gE Lx) I L e) :
    Wp 27 30 [(0, .ref 50)] [] (gE Lx) I L e Q := by
  refine w_a f_27_30 ?_
  exact h
set_option maxRecDepth 10000 in
set_option maxHeartbeats 4000000 in
theorem s_97_0_45 {Lx : Nat} {I : Mi} {L : Ml} {e : Nat} {Q : Kq} {x2 : Int32} (h :
    Wp 97 24 [(0, .ref 1), (1, .ref 45), (2, .int x2), (3, .int (Int32.ofInt 0))] [] (gE Lx) I (ul (ul (ul (ul L 14 0 ((I 45 0).toInt64)) 14 1 ((I 45 1).toInt64)) 14 2 ((I 45 2).toInt64)) 14 3 (Int64.ofInt 0)) e Q) :
    Wp 97 0 [(0, .ref 1), (1, .ref 45), (2, .int x2)] [] (gE Lx) I L e Q := by
  refine w_a f_97_0 ?_
  refine w_a f_97_1 ?_
  refine w_a f_97_4 ?_
  refine w_a f_97_5 ?_
  refine w_a f_97_8 ?_
  refine w_a f_97_9 ?_
  refine w_a f_97_10 ?_
  refine w_a f_97_13 ?_
  refine w_a f_97_14 ?_
  refine w_a f_97_15 ?_
  refine w_a f_97_18 ?_
  refine w_a f_97_19 ?_
  refine w_a (ls := [(0, .ref 14), (1, .long (I 45 0).toInt64), (3, .long (I 45 1).toInt64), (5, .long (I 45 2).toInt64)]) f_74_0 ?_
  refine w_a f_74_1 ?_
  refine w_a f_74_2 ?_
  refine w_a f_74_5 ?_
  refine w_a f_74_6 ?_
  refine w_a f_74_7 ?_
  refine w_a f_74_10 ?_
  refine w_a f_74_11 ?_
  refine w_a f_74_13 ?_
  refine w_a f_74_16 ?_
  refine w_a f_74_17 ?_
  refine w_a f_74_18 ?_
  refine w_a f_74_21 ?_
  refine w_a (ls := [(0, .ref 1), (1, .ref 45), (2, .int x2)]) f_97_22 ?_
  refine w_a f_97_23 ?_
  exact w_n (ks := [0, 1, 2, 3]) rfl h
set_option maxRecDepth 10000 in
set_option maxHeartbeats 4000000 in
theorem s_97_24_45 {Lx : Nat} {I : Mi} {L : Ml} {e : Nat} {Q : Kq} {x2 : Int32} {x3 : Int32} (h :
    (if x3 < (I 45 3) then
     Wp 14 0 [(0, .ref 45), (1, .int x3)] [] (gE Lx) I L e (kcp (Wp 97) 97 44 0 [(0, .ref 1), (1, .ref 45), (2, .int x2), (3, .int x3)] 71 [.long ((Int64.ofInt 20) + x2.toInt64), .ref 18] Q)
    else
     Q (.inl none) (gE Lx) I L e)) :
    Wp 97 24 [(0, .ref 1), (1, .ref 45), (2, .int x2), (3, .int x3)] [] (gE Lx) I L e Q := by
  refine w_a f_97_24 ?_
  refine w_a f_97_25 ?_
  refine w_a f_97_26 ?_
  refine w_a f_97_29 ?_
  refine i_m (fun h => ?_) (fun h => ?_) h
  · refine w_a f_97_32 ?_
    refine w_a f_97_33 ?_
    refine w_a f_97_36 ?_
    refine w_a f_97_39 ?_
    refine w_a f_97_40 ?_
    refine w_a f_97_41 ?_
    refine w_a f_97_42 ?_
    refine w_a f_97_43 ?_
    exact w_c (ks := [0, 1, 2, 3]) f_97_44 rfl rfl h
  · refine w_a f_97_94 ?_
    exact h
set_option maxRecDepth 10000 in
set_option maxHeartbeats 4000000 in
theorem s_97_47_45 {Lx : Nat} {I : Mi} {L : Ml} {e : Nat} {Q : Kq} {x2 : Int32} {x3 : Int32} {rl1 : Int64} {r : Int32} (h :
    Wp 15 0 [(0, .ref 45), (1, .int x3)] [] (gE Lx) I L e (kcp (Wp 97) 97 54 0 [(0, .ref 1), (1, .ref 45), (2, .int x2), (3, .int x3)] 71 [.long (Int64.ofInt 20), .long (rl1 * r.toInt64), .ref 18] Q)) :
    Wp 97 47 [(0, .ref 1), (1, .ref 45), (2, .int x2), (3, .int x3)] [.int r, .long rl1, .ref 18] (gE Lx) I L e Q := by
  refine w_a f_97_47 ?_
  refine w_a f_97_48 ?_
  refine w_a f_97_49 ?_
  refine w_a f_97_52 ?_
  refine w_a f_97_53 ?_
  exact w_c (ks := [0, 1, 2, 3]) f_97_54 rfl rfl h
set_option maxRecDepth 10000 in
set_option maxHeartbeats 4000000 in
theorem s_97_57_45 {Lx : Nat} {I : Mi} {L : Ml} {e : Nat} {Q : Kq} {x2 : Int32} {x3 : Int32} {rl1 : Int64} {rl2 : Int64} {r : Int32} (h :
    Wp 25 0 [(0, .ref 18), (1, .long rl1), (3, .long (rl2 * r.toInt64))] [] (gE Lx) I L e (kcp (Wp 97) 97 59 0 [(0, .ref 1), (1, .ref 45), (2, .int x2), (3, .int x3)] 71 [] Q)) :
    Wp 97 57 [(0, .ref 1), (1, .ref 45), (2, .int x2), (3, .int x3)] [.int r, .long rl2, .long rl1, .ref 18] (gE Lx) I L e Q := by
  refine w_a f_97_57 ?_
  refine w_a f_97_58 ?_
  exact w_c (ks := [0, 1, 2, 3]) f_97_59 rfl rfl h
set_option maxRecDepth 10000 in
set_option maxHeartbeats 4000000 in
theorem s_97_62_45 {Lx : Nat} {I : Mi} {L : Ml} {e : Nat} {Q : Kq} {x2 : Int32} {x3 : Int32} (h :
    Wp 12 0 [(0, .ref 45), (1, .int x3)] [] (gE Lx) I L e (kcp (Wp 97) 97 68 0 [(0, .ref 1), (1, .ref 45), (2, .int x2), (3, .int x3)] 71 [.ref 14] Q)) :
    Wp 97 62 [(0, .ref 1), (1, .ref 45), (2, .int x2), (3, .int x3)] [] (gE Lx) I L e Q := by
  refine w_a f_97_62 ?_
  refine w_a f_97_63 ?_
  refine w_a f_97_66 ?_
  refine w_a f_97_67 ?_
  exact w_c (ks := [0, 1, 2, 3]) f_97_68 rfl rfl h
set_option maxRecDepth 10000 in
set_option maxHeartbeats 4000000 in
theorem s_97_71_45 {Lx : Nat} {I : Mi} {L : Ml} {e : Nat} {Q : Kq} {x2 : Int32} {x3 : Int32} {r : Int32} (h :
    Wp 75 0 [(0, .ref 14), (1, .int r), (2, .long (L 18 0)), (4, .long (L 18 1))] [] (gE Lx) I L e (kcp (Wp 97) 97 85 0 [(0, .ref 1), (1, .ref 45), (2, .int x2), (3, .int x3)] 71 [] Q)) :
    Wp 97 71 [(0, .ref 1), (1, .ref 45), (2, .int x2), (3, .int x3)] [.int r, .ref 14] (gE Lx) I L e Q := by
  refine w_a f_97_71 ?_
  refine w_a f_97_72 ?_
  refine w_a f_97_75 ?_
  refine w_a f_97_78 ?_
  refine w_a f_97_79 ?_
  refine w_a f_97_82 ?_
  exact w_c (ks := [0, 1, 2, 3]) f_97_85 rfl rfl h
set_option maxRecDepth 10000 in
set_option maxHeartbeats 4000000 in
theorem s_97_88_45 {Lx : Nat} {I : Mi} {L : Ml} {e : Nat} {Q : Kq} {x2 : Int32} {x3 : Int32} (h :
    Wp 97 24 [(0, .ref 1), (1, .ref 45), (2, .int x2), (3, .int (x3 + Int32.ofInt 1))] [] (gE Lx) I L e Q) :
    Wp 97 88 [(0, .ref 1), (1, .ref 45), (2, .int x2), (3, .int x3)] [] (gE Lx) I L e Q := by
  refine w_a f_97_88 ?_
  refine w_a (ls := [(3, .int (x3 + Int32.ofInt 1)), (0, .ref 1), (1, .ref 45), (2, .int x2)]) f_97_91 ?_
  exact w_n (ks := [0, 1, 2, 3]) rfl h
set_option maxRecDepth 10000 in
set_option maxHeartbeats 4000000 in
theorem s_96_0_45 {Lx : Nat} {I : Mi} {L : Ml} {e : Nat} {Q : Kq} {x2 : Int32} (h :
    Wp 97 0 [(0, .ref 1), (1, .ref 45), (2, .int x2)] [] (gE Lx) I L e (kcp (Wp 96) 96 3 0 [(0, .ref 1), (1, .ref 45)] 71 [] Q)) :
    Wp 96 0 [(0, .ref 1), (1, .ref 45), (2, .int x2)] [] (gE Lx) I L e Q := by
  refine w_a f_96_0 ?_
  refine w_a f_96_1 ?_
  refine w_a f_96_2 ?_
  exact w_c (ks := [0, 1]) f_96_3 rfl rfl h
set_option maxRecDepth 10000 in
set_option maxHeartbeats 4000000 in
theorem s_96_6_45 {Lx : Nat} {I : Mi} {L : Ml} {e : Nat} {Q : Kq} (h :
    Wp 98 0 [(0, .ref 1)] [] (gE Lx) I L e (kcp (Wp 96) 96 7 0 [(0, .ref 1), (1, .ref 45)] 71 [] Q)) :
    Wp 96 6 [(0, .ref 1), (1, .ref 45)] [] (gE Lx) I L e Q := by
  refine w_a f_96_6 ?_
  exact w_c (ks := [0, 1]) f_96_7 rfl rfl h
set_option maxRecDepth 10000 in
set_option maxHeartbeats 4000000 in
theorem s_96_10_45 {Lx : Nat} {I : Mi} {L : Ml} {e : Nat} {Q : Kq} {r : Int32} (h :
    (if r = 0 then
     Q (.inl (some (.int (Int32.ofInt 0)))) (gE Lx) I L e
    else if r = 1 then
     Q (.inl (some (.int (Int32.ofInt 1)))) (gE Lx) I L e
    else False)) :
    Wp 96 10 [(0, .ref 1), (1, .ref 45)] [.int r] (gE Lx) I L e Q := by
  refine w_a f_96_10 ?_
  refine i_m (fun h => ?_) (i_m (fun h => ?_) id) h
  · exact h
  · exact h
set_option maxRecDepth 10000 in
set_option maxHeartbeats 4000000 in
theorem s_95_0_45 {Lx : Nat} {I : Mi} {L : Ml} {e : Nat} {Q : Kq} (h :
    Wp 95 4 [(0, .ref 1), (1, .ref 45), (2, .int (Int32.ofInt (-1))), (3, .int (Int32.ofInt 0))] [] (gE Lx) I L e Q) :
    Wp 95 0 [(0, .ref 1), (1, .ref 45)] [] (gE Lx) I L e Q := by
  refine w_a f_95_0 ?_
  refine w_a f_95_1 ?_
  refine w_a (ls := [(2, .int (Int32.ofInt (-1))), (0, .ref 1), (1, .ref 45)]) f_95_2 ?_
  refine w_a f_95_3 ?_
  exact w_n (ks := [0, 1, 2, 3]) rfl h
set_option maxRecDepth 10000 in
set_option maxHeartbeats 4000000 in
theorem s_95_4_45 {Lx : Nat} {I : Mi} {L : Ml} {e : Nat} {Q : Kq} {x2 : Int32} {x3 : Int32} (h :
    (if (Int32.ofInt 10) < x3 then
     Q (.inl (some (.int x2))) (gE Lx) I L e
    else
     Wp 97 0 [(0, .ref 1), (1, .ref 45), (2, .int x3)] [] (gE Lx) I L e (kcp (Wp 96) 96 3 0 [(0, .ref 1), (1, .ref 45)] 71 [] (kcp (Wp 95) 95 13 0 [(0, .ref 1), (1, .ref 45), (2, .int x2), (3, .int x3)] 71 [] Q)))) :
    Wp 95 4 [(0, .ref 1), (1, .ref 45), (2, .int x2), (3, .int x3)] [] (gE Lx) I L e Q := by
  refine w_a f_95_4 ?_
  refine w_a f_95_5 ?_
  refine w_a f_95_7 ?_
  refine i_m (fun h => ?_) (fun h => ?_) h
  · refine w_a f_95_39 ?_
    refine w_a f_95_40 ?_
    exact h
  · refine w_a f_95_10 ?_
    refine w_a f_95_11 ?_
    refine w_a f_95_12 ?_
    refine w_c (ks := [0, 1, 2, 3]) f_95_13 rfl rfl ?_
    refine w_a (ls := [(0, .ref 1), (1, .ref 45), (2, .int x3)]) f_96_0 ?_
    refine w_a f_96_1 ?_
    refine w_a f_96_2 ?_
    exact w_c (ks := [0, 1]) f_96_3 rfl rfl h
set_option maxRecDepth 10000 in
set_option maxHeartbeats 4000000 in
theorem s_95_16_45 {Lx : Nat} {I : Mi} {L : Ml} {e : Nat} {Q : Kq} {x2 : Int32} {x3 : Int32} {r : Int32} (h :
    (if r = 0 then
     Q (.inl (some (.int x2))) (gE Lx) I L e
    else
     Wp 97 0 [(0, .ref 1), (1, .ref 45), (2, .int (-x3))] [] (gE Lx) I L e (kcp (Wp 96) 96 3 0 [(0, .ref 1), (1, .ref 45)] 71 [] (kcp (Wp 95) 95 23 0 [(0, .ref 1), (1, .ref 45), (2, .int x2), (3, .int x3)] 71 [] Q)))) :
    Wp 95 16 [(0, .ref 1), (1, .ref 45), (2, .int x2), (3, .int x3)] [.int r] (gE Lx) I L e Q := by
  refine w_a f_95_16 ?_
  refine i_m (fun h => ?_) (fun h => ?_) h
  · refine w_a f_95_29 ?_
    refine w_a f_95_30 ?_
    exact h
  · refine w_a f_95_19 ?_
    refine w_a f_95_20 ?_
    refine w_a f_95_21 ?_
    refine w_a f_95_22 ?_
    refine w_c (ks := [0, 1, 2, 3]) f_95_23 rfl rfl ?_
    refine w_a (ls := [(0, .ref 1), (1, .ref 45), (2, .int (-x3))]) f_96_0 ?_
    refine w_a f_96_1 ?_
    refine w_a f_96_2 ?_
    exact w_c (ks := [0, 1]) f_96_3 rfl rfl h
set_option maxRecDepth 10000 in
set_option maxHeartbeats 4000000 in
theorem s_95_26_45 {Lx : Nat} {I : Mi} {L : Ml} {e : Nat} {Q : Kq} {x2 : Int32} {x3 : Int32} {r : Int32} (h :
    (if r = 0 then
     Q (.inl (some (.int x2))) (gE Lx) I L e
    else
     Wp 95 4 [(0, .ref 1), (1, .ref 45), (2, .int x3), (3, .int (x3 + Int32.ofInt 1))] [] (gE Lx) I L e Q)) :
    Wp 95 26 [(0, .ref 1), (1, .ref 45), (2, .int x2), (3, .int x3)] [.int r] (gE Lx) I L e Q := by
  refine w_a f_95_26 ?_
  refine i_m (fun h => ?_) (fun h => ?_) h
  · refine w_a f_95_29 ?_
    refine w_a f_95_30 ?_
    exact h
  · refine w_a f_95_31 ?_
    refine w_a f_95_32 ?_
    refine w_a (ls := [(2, .int x3), (0, .ref 1), (1, .ref 45), (3, .int x3)]) f_95_33 ?_
    refine w_a (ls := [(3, .int (x3 + Int32.ofInt 1)), (2, .int x3), (0, .ref 1), (1, .ref 45)]) f_95_36 ?_
    exact w_n (ks := [0, 1, 2, 3]) rfl h
set_option maxRecDepth 10000 in
set_option maxHeartbeats 4000000 in
theorem s_65_0_45 {Lx : Nat} {I : Mi} {L : Ml} {e : Nat} {Q : Kq} (h :
    Wp 25 0 [(0, .ref 50), (1, .long (Int64.ofInt 0)), (3, .long (Int64.ofInt 1))] [] (gE Lx) (ui I 49 0 (Int32.ofInt 0)) L e (kcp (Wp 65) 65 11 0 [(0, .ref 49), (1, .ref 45)] 71 [] Q)) :
    Wp 65 0 [(0, .ref 49), (1, .ref 45)] [] (gE Lx) I L e Q := by
  refine w_a f_65_0 ?_
  refine w_a f_65_1 ?_
  refine w_a f_65_2 ?_
  refine w_a f_65_5 ?_
  refine w_a f_65_6 ?_
  refine w_a f_65_9 ?_
  refine w_a f_65_10 ?_
  exact w_c (ks := [0, 1]) f_65_11 rfl rfl h
set_option maxRecDepth 10000 in
set_option maxHeartbeats 4000000 in
theorem s_65_14_45 {Lx : Nat} {I : Mi} {L : Ml} {e : Nat} {Q : Kq} (h :
    Wp 65 16 [(0, .ref 49), (1, .ref 45), (2, .int (Int32.ofInt 0))] [] (gE Lx) I L e Q) :
    Wp 65 14 [(0, .ref 49), (1, .ref 45)] [] (gE Lx) I L e Q := by
  refine w_a f_65_14 ?_
  refine w_a f_65_15 ?_
  exact w_n (ks := [0, 1, 2]) rfl h
set_option maxRecDepth 10000 in
set_option maxHeartbeats 4000000 in
theorem s_65_16_45 {Lx : Nat} {I : Mi} {L : Ml} {e : Nat} {Q : Kq} {x2 : Int32} (h :
    (if x2 < (I 45 3) then
     Wp 14 0 [(0, .ref 45), (1, .int x2)] [] (gE Lx) I L e (kcp (Wp 65) 65 47 0 [(0, .ref 49), (1, .ref 45), (2, .int x2), (3, .long (L 50 0)), (5, .long (L 50 1))] 71 [.ref 50] Q)
    else
     Q (.inl none) (gE Lx) I L e)) :
    Wp 65 16 [(0, .ref 49), (1, .ref 45), (2, .int x2)] [] (gE Lx) I L e Q := by
  refine w_a f_65_16 ?_
  refine w_a f_65_17 ?_
  refine w_a f_65_18 ?_
  refine w_a f_65_21 ?_
  refine i_m (fun h => ?_) (fun h => ?_) h
  · refine w_a f_65_24 ?_
    refine w_a f_65_25 ?_
    refine w_a f_65_28 ?_
    refine w_a f_65_31 ?_
    refine w_a (ls := [(3, .long (L 50 0)), (0, .ref 49), (1, .ref 45), (2, .int x2)]) f_65_32 ?_
    refine w_a f_65_33 ?_
    refine w_a f_65_36 ?_
    refine w_a f_65_39 ?_
    refine w_a (ls := [(5, .long (L 50 1)), (3, .long (L 50 0)), (0, .ref 49), (1, .ref 45), (2, .int x2)]) f_65_41 ?_
    refine w_a f_65_42 ?_
    refine w_a f_65_45 ?_
    refine w_a f_65_46 ?_
    exact w_c (ks := [0, 1, 2, 3, 5]) f_65_47 rfl rfl h
  · refine w_a f_65_99 ?_
    exact h
set_option maxRecDepth 10000 in
set_option maxHeartbeats 4000000 in
theorem s_65_50_45 {Lx : Nat} {I : Mi} {L : Ml} {e : Nat} {Q : Kq} {x2 : Int32} {y3 : Int64} {y5 : Int64} {r : Int32} (h :
    Wp 15 0 [(0, .ref 45), (1, .int x2)] [] (gE Lx) I L e (kcp (Wp 65) 65 53 0 [(0, .ref 49), (1, .ref 45), (2, .int x2), (3, .long y3), (5, .long y5)] 71 [.long r.toInt64, .ref 50] Q)) :
    Wp 65 50 [(0, .ref 49), (1, .ref 45), (2, .int x2), (3, .long y3), (5, .long y5)] [.int r, .ref 50] (gE Lx) I L e Q := by
  refine w_a f_65_50 ?_
  refine w_a f_65_51 ?_
  refine w_a f_65_52 ?_
  exact w_c (ks := [0, 1, 2, 3, 5]) f_65_53 rfl rfl h
set_option maxRecDepth 10000 in
set_option maxHeartbeats 4000000 in
theorem s_65_56_45 {Lx : Nat} {I : Mi} {L : Ml} {e : Nat} {Q : Kq} {x2 : Int32} {y3 : Int64} {y5 : Int64} {rl1 : Int64} {r : Int32} (h :
    Wp 25 0 [(0, .ref 50), (1, .long (((L 50 0) * r.toInt64) + ((L 50 1) * rl1))), (3, .long (((L 50 1) * r.toInt64) - ((L 50 0) * rl1)))] [] (gE Lx) I L e (kcp (Wp 27) 27 27 0 [(0, .ref 50)] 71 [] (kcp (Wp 65) 65 57 0 [(0, .ref 49), (1, .ref 45), (2, .int x2), (3, .long y3), (5, .long y5)] 71 [] Q))) :
    Wp 65 56 [(0, .ref 49), (1, .ref 45), (2, .int x2), (3, .long y3), (5, .long y5)] [.int r, .long rl1, .ref 50] (gE Lx) I L e Q := by
  refine w_a f_65_56 ?_
  refine w_c (ks := [0, 1, 2, 3, 5]) f_65_57 rfl rfl ?_
  refine w_a (ls := [(0, .ref 50), (1, .long rl1), (3, .long r.toInt64)]) f_27_0 ?_
  refine w_a f_27_1 ?_
  refine w_a f_27_2 ?_
  refine w_a f_27_5 ?_
  refine w_a f_27_6 ?_
  refine w_a f_27_7 ?_
  refine w_a f_27_8 ?_
  refine w_a f_27_11 ?_
  refine w_a f_27_12 ?_
  refine w_a f_27_13 ?_
  refine w_a f_27_14 ?_
  refine w_a f_27_15 ?_
  refine w_a f_27_18 ?_
  refine w_a f_27_19 ?_
  refine w_a f_27_20 ?_
  refine w_a f_27_21 ?_
  refine w_a f_27_24 ?_
  refine w_a f_27_25 ?_
  refine w_a f_27_26 ?_
  exact w_c (ks := [0]) f_27_27 rfl rfl h
set_option maxRecDepth 10000 in
set_option maxHeartbeats 4000000 in
theorem s_65_60_45 {Lx : Nat} {I : Mi} {L : Ml} {e : Nat} {Q : Kq} {x2 : Int32} {y3 : Int64} {y5 : Int64} (h :
    Wp 28 0 [(0, .long (L 50 0)), (2, .long (L 50 1)), (4, .long y3), (6, .long y5)] [] (gE Lx) I L e (kcp (Wp 65) 65 77 0 [(0, .ref 49), (1, .ref 45), (2, .int x2)] 71 [] Q)) :
    Wp 65 60 [(0, .ref 49), (1, .ref 45), (2, .int x2), (3, .long y3), (5, .long y5)] [] (gE Lx) I L e Q := by
  refine w_a f_65_60 ?_
  refine w_a f_65_61 ?_
  refine w_a f_65_64 ?_
  refine w_a f_65_67 ?_
  refine w_a f_65_68 ?_
  refine w_a f_65_71 ?_
  refine w_a f_65_74 ?_
  refine w_a f_65_75 ?_
  exact w_c (ks := [0, 1, 2]) f_65_77 rfl rfl h
set_option maxRecDepth 10000 in
set_option maxHeartbeats 4000000 in
theorem s_65_80_45 {Lx : Nat} {I : Mi} {L : Ml} {e : Nat} {Q : Kq} {x2 : Int32} {r : Int32} (h :
    (if r < 0 then
     Wp 65 16 [(0, .ref 49), (1, .ref 45), (2, .int (x2 + Int32.ofInt 1))] [] (gE Lx) (ui I 49 0 ((I 49 0) + (Int32.ofInt 1))) L e Q
    else
     Wp 65 16 [(0, .ref 49), (1, .ref 45), (2, .int (x2 + Int32.ofInt 1))] [] (gE Lx) I L e Q)) :
    Wp 65 80 [(0, .ref 49), (1, .ref 45), (2, .int x2)] [.int r] (gE Lx) I L e Q := by
  refine w_a f_65_80 ?_
  refine i_m (fun h => ?_) (fun h => ?_) h
  · refine w_a f_65_83 ?_
    refine w_a f_65_84 ?_
    refine w_a f_65_85 ?_
    refine w_a f_65_88 ?_
    refine w_a f_65_89 ?_
    refine w_a f_65_90 ?_
    refine w_a f_65_93 ?_
    refine w_a (ls := [(2, .int (x2 + Int32.ofInt 1)), (0, .ref 49), (1, .ref 45)]) f_65_96 ?_
    exact w_n (ks := [0, 1, 2]) rfl h
  · refine w_a f_65_93 ?_
    refine w_a (ls := [(2, .int (x2 + Int32.ofInt 1)), (0, .ref 49), (1, .ref 45)]) f_65_96 ?_
    exact w_n (ks := [0, 1, 2]) rfl h
set_option maxRecDepth 10000 in
set_option maxHeartbeats 4000000 in
theorem s_66_0_2_0 {Lx : Nat} {I : Mi} {L : Ml} {e : Nat} {Q : Kq} (h :
    (if (I 49 0) = (I 35 0) then
     Wp 28 0 [(0, .long (L 50 0)), (2, .long (L 50 1)), (4, .long (L 36 0)), (6, .long (L 36 1))] [] (gE Lx) I L e (kcp (Wp 66) 66 56 0 [(0, .ref 49), (1, .ref 35)] 71 [] Q)
    else
     (if (I 49 0) < (I 35 0) then
      Q (.inl (some (.int (Int32.ofInt (-1))))) (gE Lx) I L e
     else
      Q (.inl (some (.int (Int32.ofInt 1)))) (gE Lx) I L e))) :
    Wp 66 0 [(0, .ref 49), (1, .ref 35)] [] (gE Lx) I L e Q := by
  refine w_a f_66_0 ?_
  refine w_a f_66_1 ?_
  refine w_a f_66_4 ?_
  refine w_a f_66_5 ?_
  refine w_a f_66_8 ?_
  refine i_m (fun h => ?_) (fun h => ?_) h
  · refine w_a f_66_28 ?_
    refine w_a f_66_29 ?_
    refine w_a f_66_32 ?_
    refine w_a f_66_35 ?_
    refine w_a f_66_36 ?_
    refine w_a f_66_39 ?_
    refine w_a f_66_42 ?_
    refine w_a f_66_43 ?_
    refine w_a f_66_46 ?_
    refine w_a f_66_49 ?_
    refine w_a f_66_50 ?_
    refine w_a f_66_53 ?_
    exact w_c (ks := [0, 1]) f_66_56 rfl rfl h
  · refine w_a f_66_11 ?_
    refine w_a f_66_12 ?_
    refine w_a f_66_15 ?_
    refine w_a f_66_16 ?_
    refine w_a f_66_19 ?_
    refine i_m (fun h => ?_) (fun h => ?_) h
    · refine w_a f_66_22 ?_
      refine w_a f_66_23 ?_
      refine w_a f_66_27 ?_
      exact h
    · refine w_a f_66_26 ?_
      refine w_a f_66_27 ?_
      exact h
set_option maxRecDepth 10000 in
set_option maxHeartbeats 4000000 in
theorem s_66_59_2_0 {Lx : Nat} {I : Mi} {L : Ml} {e : Nat} {Q : Kq} {r : Int32} (h :
    Q (.inl (some (.int r))) (gE Lx) I L e) :
    Wp 66 59 [(0, .ref 49), (1, .ref 35)] [.int r] (gE Lx) I L e Q := by
  refine w_a f_66_59 ?_
  exact h
set_option maxRecDepth 10000 in
set_option maxHeartbeats 4000000 in
theorem s_63_39_2_0 {Lx : Nat} {I : Mi} {L : Ml} {e : Nat} {Q : Kq} {r : Int32} (h :
    (if r < 0 then
     Q (.inl (some (.int (Int32.ofInt 1)))) (gE Lx) I L e
    else
     Q (.inl (some (.int (Int32.ofInt 0)))) (gE Lx) I L e)) :
    Wp 63 39 [(0, .ref 44), (1, .ref 30)] [.int r] (gE Lx) I L e Q := by
  refine w_a f_63_39 ?_
  refine i_m (fun h => ?_) (fun h => ?_) h
  · refine w_a f_63_42 ?_
    refine w_a f_63_43 ?_
    refine w_a f_63_47 ?_
    exact h
  · refine w_a f_63_46 ?_
    refine w_a f_63_47 ?_
    exact h
set_option maxRecDepth 10000 in
set_option maxHeartbeats 4000000 in
theorem s_66_0_2_1 {Lx : Nat} {I : Mi} {L : Ml} {e : Nat} {Q : Kq} (h :
    (if (I 49 0) = (I 42 0) then
     Wp 28 0 [(0, .long (L 50 0)), (2, .long (L 50 1)), (4, .long (L 43 0)), (6, .long (L 43 1))] [] (gE Lx) I L e (kcp (Wp 66) 66 56 0 [(0, .ref 49), (1, .ref 42)] 71 [] Q)
    else
     (if (I 49 0) < (I 42 0) then
      Q (.inl (some (.int (Int32.ofInt (-1))))) (gE Lx) I L e
     else
      Q (.inl (some (.int (Int32.ofInt 1)))) (gE Lx) I L e))) :
    Wp 66 0 [(0, .ref 49), (1, .ref 42)] [] (gE Lx) I L e Q := by
  refine w_a f_66_0 ?_
  refine w_a f_66_1 ?_
  refine w_a f_66_4 ?_
  refine w_a f_66_5 ?_
  refine w_a f_66_8 ?_
  refine i_m (fun h => ?_) (fun h => ?_) h
  · refine w_a f_66_28 ?_
    refine w_a f_66_29 ?_
    refine w_a f_66_32 ?_
    refine w_a f_66_35 ?_
    refine w_a f_66_36 ?_
    refine w_a f_66_39 ?_
    refine w_a f_66_42 ?_
    refine w_a f_66_43 ?_
    refine w_a f_66_46 ?_
    refine w_a f_66_49 ?_
    refine w_a f_66_50 ?_
    refine w_a f_66_53 ?_
    exact w_c (ks := [0, 1]) f_66_56 rfl rfl h
  · refine w_a f_66_11 ?_
    refine w_a f_66_12 ?_
    refine w_a f_66_15 ?_
    refine w_a f_66_16 ?_
    refine w_a f_66_19 ?_
    refine i_m (fun h => ?_) (fun h => ?_) h
    · refine w_a f_66_22 ?_
      refine w_a f_66_23 ?_
      refine w_a f_66_27 ?_
      exact h
    · refine w_a f_66_26 ?_
      refine w_a f_66_27 ?_
      exact h
set_option maxRecDepth 10000 in
set_option maxHeartbeats 4000000 in
theorem s_66_59_2_1 {Lx : Nat} {I : Mi} {L : Ml} {e : Nat} {Q : Kq} {r : Int32} (h :
    Q (.inl (some (.int r))) (gE Lx) I L e) :
    Wp 66 59 [(0, .ref 49), (1, .ref 42)] [.int r] (gE Lx) I L e Q := by
  refine w_a f_66_59 ?_
  exact h
set_option maxRecDepth 10000 in
set_option maxHeartbeats 4000000 in
theorem s_63_39_2_1 {Lx : Nat} {I : Mi} {L : Ml} {e : Nat} {Q : Kq} {r : Int32} (h :
    (if r < 0 then
     Q (.inl (some (.int (Int32.ofInt 1)))) (gE Lx) I L e
    else
     Q (.inl (some (.int (Int32.ofInt 0)))) (gE Lx) I L e)) :
    Wp 63 39 [(0, .ref 44), (1, .ref 37)] [.int r] (gE Lx) I L e Q := by
  refine w_a f_63_39 ?_
  refine i_m (fun h => ?_) (fun h => ?_) h
  · refine w_a f_63_42 ?_
    refine w_a f_63_43 ?_
    refine w_a f_63_47 ?_
    exact h
  · refine w_a f_63_46 ?_
    refine w_a f_63_47 ?_
    exact h
set_option maxRecDepth 10000 in
set_option maxHeartbeats 4000000 in
theorem s_66_0_2_2 {Lx : Nat} {I : Mi} {L : Ml} {e : Nat} {Q : Kq} (h :
    (if (I 49 0) = (I 49 0) then
     Wp 28 0 [(0, .long (L 50 0)), (2, .long (L 50 1)), (4, .long (L 50 0)), (6, .long (L 50 1))] [] (gE Lx) I L e (kcp (Wp 66) 66 56 0 [(0, .ref 49), (1, .ref 49)] 71 [] Q)
    else
     (if (I 49 0) < (I 49 0) then
      Q (.inl (some (.int (Int32.ofInt (-1))))) (gE Lx) I L e
     else
      Q (.inl (some (.int (Int32.ofInt 1)))) (gE Lx) I L e))) :
    Wp 66 0 [(0, .ref 49), (1, .ref 49)] [] (gE Lx) I L e Q := by
  refine w_a f_66_0 ?_
  refine w_a f_66_1 ?_
  refine w_a f_66_4 ?_
  refine w_a f_66_5 ?_
  refine w_a f_66_8 ?_
  refine i_m (fun h => ?_) (fun h => ?_) h
  · refine w_a f_66_28 ?_
    refine w_a f_66_29 ?_
    refine w_a f_66_32 ?_
    refine w_a f_66_35 ?_
    refine w_a f_66_36 ?_
    refine w_a f_66_39 ?_
    refine w_a f_66_42 ?_
    refine w_a f_66_43 ?_
    refine w_a f_66_46 ?_
    refine w_a f_66_49 ?_
    refine w_a f_66_50 ?_
    refine w_a f_66_53 ?_
    exact w_c (ks := [0, 1]) f_66_56 rfl rfl h
  · refine w_a f_66_11 ?_
    refine w_a f_66_12 ?_
    refine w_a f_66_15 ?_
    refine w_a f_66_16 ?_
    refine w_a f_66_19 ?_
    refine i_m (fun h => ?_) (fun h => ?_) h
    · refine w_a f_66_22 ?_
      refine w_a f_66_23 ?_
      refine w_a f_66_27 ?_
      exact h
    · refine w_a f_66_26 ?_
      refine w_a f_66_27 ?_
      exact h
set_option maxRecDepth 10000 in
set_option maxHeartbeats 4000000 in
theorem s_66_59_2_2 {Lx : Nat} {I : Mi} {L : Ml} {e : Nat} {Q : Kq} {r : Int32} (h :
    Q (.inl (some (.int r))) (gE Lx) I L e) :
    Wp 66 59 [(0, .ref 49), (1, .ref 49)] [.int r] (gE Lx) I L e Q := by
  refine w_a f_66_59 ?_
  exact h
set_option maxRecDepth 10000 in
set_option maxHeartbeats 4000000 in
theorem s_63_39_2_2 {Lx : Nat} {I : Mi} {L : Ml} {e : Nat} {Q : Kq} {r : Int32} (h :
    (if r < 0 then
     Q (.inl (some (.int (Int32.ofInt 1)))) (gE Lx) I L e
    else
     Q (.inl (some (.int (Int32.ofInt 0)))) (gE Lx) I L e)) :
    Wp 63 39 [(0, .ref 44), (1, .ref 44)] [.int r] (gE Lx) I L e Q := by
  refine w_a f_63_39 ?_
  refine i_m (fun h => ?_) (fun h => ?_) h
  · refine w_a f_63_42 ?_
    refine w_a f_63_43 ?_
    refine w_a f_63_47 ?_
    exact h
  · refine w_a f_63_46 ?_
    refine w_a f_63_47 ?_
    exact h
set_option maxRecDepth 10000 in
set_option maxHeartbeats 4000000 in
theorem s_66_0_2_3 {Lx : Nat} {I : Mi} {L : Ml} {e : Nat} {Q : Kq} (h :
    (if (I 49 0) = (I 56 0) then
     Wp 28 0 [(0, .long (L 50 0)), (2, .long (L 50 1)), (4, .long (L 57 0)), (6, .long (L 57 1))] [] (gE Lx) I L e (kcp (Wp 66) 66 56 0 [(0, .ref 49), (1, .ref 56)] 71 [] Q)
    else
     (if (I 49 0) < (I 56 0) then
      Q (.inl (some (.int (Int32.ofInt (-1))))) (gE Lx) I L e
     else
      Q (.inl (some (.int (Int32.ofInt 1)))) (gE Lx) I L e))) :
    Wp 66 0 [(0, .ref 49), (1, .ref 56)] [] (gE Lx) I L e Q := by
  refine w_a f_66_0 ?_
  refine w_a f_66_1 ?_
  refine w_a f_66_4 ?_
  refine w_a f_66_5 ?_
  refine w_a f_66_8 ?_
  refine i_m (fun h => ?_) (fun h => ?_) h
  · refine w_a f_66_28 ?_
    refine w_a f_66_29 ?_
    refine w_a f_66_32 ?_
    refine w_a f_66_35 ?_
    refine w_a f_66_36 ?_
    refine w_a f_66_39 ?_
    refine w_a f_66_42 ?_
    refine w_a f_66_43 ?_
    refine w_a f_66_46 ?_
    refine w_a f_66_49 ?_
    refine w_a f_66_50 ?_
    refine w_a f_66_53 ?_
    exact w_c (ks := [0, 1]) f_66_56 rfl rfl h
  · refine w_a f_66_11 ?_
    refine w_a f_66_12 ?_
    refine w_a f_66_15 ?_
    refine w_a f_66_16 ?_
    refine w_a f_66_19 ?_
    refine i_m (fun h => ?_) (fun h => ?_) h
    · refine w_a f_66_22 ?_
      refine w_a f_66_23 ?_
      refine w_a f_66_27 ?_
      exact h
    · refine w_a f_66_26 ?_
      refine w_a f_66_27 ?_
      exact h
set_option maxRecDepth 10000 in
set_option maxHeartbeats 4000000 in
theorem s_66_59_2_3 {Lx : Nat} {I : Mi} {L : Ml} {e : Nat} {Q : Kq} {r : Int32} (h :
    Q (.inl (some (.int r))) (gE Lx) I L e) :
    Wp 66 59 [(0, .ref 49), (1, .ref 56)] [.int r] (gE Lx) I L e Q := by
  refine w_a f_66_59 ?_
  exact h
set_option maxRecDepth 10000 in
set_option maxHeartbeats 4000000 in
theorem s_63_39_2_3 {Lx : Nat} {I : Mi} {L : Ml} {e : Nat} {Q : Kq} {r : Int32} (h :
    (if r < 0 then
     Q (.inl (some (.int (Int32.ofInt 1)))) (gE Lx) I L e
    else
     Q (.inl (some (.int (Int32.ofInt 0)))) (gE Lx) I L e)) :
    Wp 63 39 [(0, .ref 44), (1, .ref 51)] [.int r] (gE Lx) I L e Q := by
  refine w_a f_63_39 ?_
  refine i_m (fun h => ?_) (fun h => ?_) h
  · refine w_a f_63_42 ?_
    refine w_a f_63_43 ?_
    refine w_a f_63_47 ?_
    exact h
  · refine w_a f_63_46 ?_
    refine w_a f_63_47 ?_
    exact h
set_option maxRecDepth 10000 in
set_option maxHeartbeats 4000000 in
theorem s_202_5_2 {Lx : Nat} {I : Mi} {L : Ml} {e : Nat} {Q : Kq} (h :
    Q (.inl (some (.int (I 5 3)))) (gE Lx) (ri (ri (ri (ui (ui (ui (ui (ui I 44 0 (Int32.ofInt 1)) 45 0 (I 5 0)) 45 1 (I 5 1)) 45 2 (I 5 2)) 45 3 (I 5 3)) 46 (va_cpy ((ui (ui (ui (ui (ui I 44 0 (Int32.ofInt 1)) 45 0 (I 5 0)) 45 1 (I 5 1)) 45 2 (I 5 2)) 45 3 (I 5 3)) 6) ((ui (ui (ui (ui (ui I 44 0 (Int32.ofInt 1)) 45 0 (I 5 0)) 45 1 (I 5 1)) 45 2 (I 5 2)) 45 3 (I 5 3)) 46) 0 0 4)) 47 (va_cpy ((ri (ui (ui (ui (ui (ui I 44 0 (Int32.ofInt 1)) 45 0 (I 5 0)) 45 1 (I 5 1)) 45 2 (I 5 2)) 45 3 (I 5 3)) 46 (va_cpy ((ui (ui (ui (ui (ui I 44 0 (Int32.ofInt 1)) 45 0 (I 5 0)) 45 1 (I 5 1)) 45 2 (I 5 2)) 45 3 (I 5 3)) 6) ((ui (ui (ui (ui (ui I 44 0 (Int32.ofInt 1)) 45 0 (I 5 0)) 45 1 (I 5 1)) 45 2 (I 5 2)) 45 3 (I 5 3)) 46) 0 0 4)) 7) ((ri (ui (ui (ui (ui (ui I 44 0 (Int32.ofInt 1)) 45 0 (I 5 0)) 45 1 (I 5 1)) 45 2 (I 5 2)) 45 3 (I 5 3)) 46 (va_cpy ((ui (ui (ui (ui (ui I 44 0 (Int32.ofInt 1)) 45 0 (I 5 0)) 45 1 (I 5 1)) 45 2 (I 5 2)) 45 3 (I 5 3)) 6) ((ui (ui (ui (ui (ui I 44 0 (Int32.ofInt 1)) 45 0 (I 5 0)) 45 1 (I 5 1)) 45 2 (I 5 2)) 45 3 (I 5 3)) 46) 0 0 4)) 47) 0 0 4)) 48 (va_cpy ((ri (ri (ui (ui (ui (ui (ui I 44 0 (Int32.ofInt 1)) 45 0 (I 5 0)) 45 1 (I 5 1)) 45 2 (I 5 2)) 45 3 (I 5 3)) 46 (va_cpy ((ui (ui (ui (ui (ui I 44 0 (Int32.ofInt 1)) 45 0 (I 5 0)) 45 1 (I 5 1)) 45 2 (I 5 2)) 45 3 (I 5 3)) 6) ((ui (ui (ui (ui (ui I 44 0 (Int32.ofInt 1)) 45 0 (I 5 0)) 45 1 (I 5 1)) 45 2 (I 5 2)) 45 3 (I 5 3)) 46) 0 0 4)) 47 (va_cpy ((ri (ui (ui (ui (ui (ui I 44 0 (Int32.ofInt 1)) 45 0 (I 5 0)) 45 1 (I 5 1)) 45 2 (I 5 2)) 45 3 (I 5 3)) 46 (va_cpy ((ui (ui (ui (ui (ui I 44 0 (Int32.ofInt 1)) 45 0 (I 5 0)) 45 1 (I 5 1)) 45 2 (I 5 2)) 45 3 (I 5 3)) 6) ((ui (ui (ui (ui (ui I 44 0 (Int32.ofInt 1)) 45 0 (I 5 0)) 45 1 (I 5 1)) 45 2 (I 5 2)) 45 3 (I 5 3)) 46) 0 0 4)) 7) ((ri (ui (ui (ui (ui (ui I 44 0 (Int32.ofInt 1)) 45 0 (I 5 0)) 45 1 (I 5 1)) 45 2 (I 5 2)) 45 3 (I 5 3)) 46 (va_cpy ((ui (ui (ui (ui (ui I 44 0 (Int32.ofInt 1)) 45 0 (I 5 0)) 45 1 (I 5 1)) 45 2 (I 5 2)) 45 3 (I 5 3)) 6) ((ui (ui (ui (ui (ui I 44 0 (Int32.ofInt 1)) 45 0 (I 5 0)) 45 1 (I 5 1)) 45 2 (I 5 2)) 45 3 (I 5 3)) 46) 0 0 4)) 47) 0 0 4)) 8) ((ri (ri (ui (ui (ui (ui (ui I 44 0 (Int32.ofInt 1)) 45 0 (I 5 0)) 45 1 (I 5 1)) 45 2 (I 5 2)) 45 3 (I 5 3)) 46 (va_cpy ((ui (ui (ui (ui (ui I 44 0 (Int32.ofInt 1)) 45 0 (I 5 0)) 45 1 (I 5 1)) 45 2 (I 5 2)) 45 3 (I 5 3)) 6) ((ui (ui (ui (ui (ui I 44 0 (Int32.ofInt 1)) 45 0 (I 5 0)) 45 1 (I 5 1)) 45 2 (I 5 2)) 45 3 (I 5 3)) 46) 0 0 4)) 47 (va_cpy ((ri (ui (ui (ui (ui (ui I 44 0 (Int32.ofInt 1)) 45 0 (I 5 0)) 45 1 (I 5 1)) 45 2 (I 5 2)) 45 3 (I 5 3)) 46 (va_cpy ((ui (ui (ui (ui (ui I 44 0 (Int32.ofInt 1)) 45 0 (I 5 0)) 45 1 (I 5 1)) 45 2 (I 5 2)) 45 3 (I 5 3)) 6) ((ui (ui (ui (ui (ui I 44 0 (Int32.ofInt 1)) 45 0 (I 5 0)) 45 1 (I 5 1)) 45 2 (I 5 2)) 45 3 (I 5 3)) 46) 0 0 4)) 7) ((ri (ui (ui (ui (ui (ui I 44 0 (Int32.ofInt 1)) 45 0 (I 5 0)) 45 1 (I 5 1)) 45 2 (I 5 2)) 45 3 (I 5 3)) 46 (va_cpy ((ui (ui (ui (ui (ui I 44 0 (Int32.ofInt 1)) 45 0 (I 5 0)) 45 1 (I 5 1)) 45 2 (I 5 2)) 45 3 (I 5 3)) 6) ((ui (ui (ui (ui (ui I 44 0 (Int32.ofInt 1)) 45 0 (I 5 0)) 45 1 (I 5 1)) 45 2 (I 5 2)) 45 3 (I 5 3)) 46) 0 0 4)) 47) 0 0 4)) 48) 0 0 4)) L e) :
    Wp 202 5 [(0, .ref 1), (1, .int (Int32.ofInt 2))] [] (gE Lx) I L e Q := by
  refine w_a f_202_5 ?_
  refine w_a f_202_6 ?_
  refine w_a f_202_9 ?_
  refine w_a f_202_10 ?_
  refine w_a f_202_11 ?_
  refine w_a f_202_12 ?_
  refine w_a f_202_15 ?_
  refine w_a f_202_16 ?_
  refine w_a f_202_19 ?_
  refine w_a f_202_20 ?_
  refine w_a f_202_21 ?_
  refine w_a f_202_24 ?_
  refine w_a f_202_25 ?_
  refine w_a f_202_28 ?_
  refine w_a (ls := [(0, .ref 45), (1, .ref 5)]) f_16_0 ?_
  refine w_a f_16_1 ?_
  refine w_a f_16_2 ?_
  refine w_a f_16_5 ?_
  refine w_a f_16_6 ?_
  refine w_a f_16_9 ?_
  refine w_a f_16_10 ?_
  refine w_a f_16_13 ?_
  refine w_a (ls := [(0, .ref 45), (1, .int (I 5 0)), (2, .int (I 5 1)), (3, .int (I 5 2))]) f_17_0 ?_
  refine w_a f_17_1 ?_
  refine w_a f_17_2 ?_
  refine w_a f_17_5 ?_
  refine w_a f_17_6 ?_
  refine w_a f_17_7 ?_
  refine w_a f_17_10 ?_
  refine w_a f_17_11 ?_
  refine w_a f_17_12 ?_
  refine w_a f_17_15 ?_
  refine w_a (ls := [(0, .ref 45), (1, .ref 5)]) f_16_16 ?_
  refine w_a f_16_17 ?_
  refine w_a f_16_18 ?_
  refine w_a f_16_21 ?_
  refine w_a f_16_24 ?_
  refine w_a f_16_25 ?_
  refine w_a f_16_28 ?_
  refine w_a f_16_29 ?_
  refine w_a f_16_30 ?_
  refine w_a f_16_33 ?_
  refine w_a f_16_34 ?_
  refine w_a f_16_35 ?_
  refine w_a f_16_38 ?_
  refine w_a f_16_39 ?_
  refine w_a f_16_42 ?_
  refine w_a f_16_43 ?_
  refine w_a f_16_44 ?_
  refine w_a f_16_47 ?_
  refine w_a f_16_48 ?_
  refine w_a f_16_49 ?_
  refine w_a f_16_52 ?_
  refine w_a f_16_53 ?_
  refine w_a f_16_56 ?_
  refine w_a f_16_57 ?_
  refine w_a f_16_58 ?_
  refine w_a f_16_61 ?_
  refine w_a f_16_62 ?_
  refine w_a f_16_63 ?_
  refine w_a f_16_66 ?_
  refine w_a (ls := [(0, .ref 1), (1, .int (Int32.ofInt 2))]) f_202_31 ?_
  refine w_a f_202_32 ?_
  refine w_a f_202_35 ?_
  refine w_a f_202_38 ?_
  exact h
set_option maxRecDepth 10000 in
set_option maxHeartbeats 4000000 in
theorem s_204_5_2 {Lx : Nat} {I : Mi} {L : Ml} {e : Nat} {Q : Kq} (h :
    (if (I 44 0) = 0 then
     Q (.inr 102) (gE Lx) I L (e + 1)
    else
     Q (.inl (some (.int (I 45 3)))) (gE Lx) (ri (ri (ri (ui (ui (ui (ui I 5 0 (I 45 0)) 5 1 (I 45 1)) 5 2 (I 45 2)) 5 3 (I 45 3)) 6 (va_cpy ((ui (ui (ui (ui I 5 0 (I 45 0)) 5 1 (I 45 1)) 5 2 (I 45 2)) 5 3 (I 45 3)) 46) ((ui (ui (ui (ui I 5 0 (I 45 0)) 5 1 (I 45 1)) 5 2 (I 45 2)) 5 3 (I 45 3)) 6) 0 0 4)) 7 (va_cpy ((ri (ui (ui (ui (ui I 5 0 (I 45 0)) 5 1 (I 45 1)) 5 2 (I 45 2)) 5 3 (I 45 3)) 6 (va_cpy ((ui (ui (ui (ui I 5 0 (I 45 0)) 5 1 (I 45 1)) 5 2 (I 45 2)) 5 3 (I 45 3)) 46) ((ui (ui (ui (ui I 5 0 (I 45 0)) 5 1 (I 45 1)) 5 2 (I 45 2)) 5 3 (I 45 3)) 6) 0 0 4)) 47) ((ri (ui (ui (ui (ui I 5 0 (I 45 0)) 5 1 (I 45 1)) 5 2 (I 45 2)) 5 3 (I 45 3)) 6 (va_cpy ((ui (ui (ui (ui I 5 0 (I 45 0)) 5 1 (I 45 1)) 5 2 (I 45 2)) 5 3 (I 45 3)) 46) ((ui (ui (ui (ui I 5 0 (I 45 0)) 5 1 (I 45 1)) 5 2 (I 45 2)) 5 3 (I 45 3)) 6) 0 0 4)) 7) 0 0 4)) 8 (va_cpy ((ri (ri (ui (ui (ui (ui I 5 0 (I 45 0)) 5 1 (I 45 1)) 5 2 (I 45 2)) 5 3 (I 45 3)) 6 (va_cpy ((ui (ui (ui (ui I 5 0 (I 45 0)) 5 1 (I 45 1)) 5 2 (I 45 2)) 5 3 (I 45 3)) 46) ((ui (ui (ui (ui I 5 0 (I 45 0)) 5 1 (I 45 1)) 5 2 (I 45 2)) 5 3 (I 45 3)) 6) 0 0 4)) 7 (va_cpy ((ri (ui (ui (ui (ui I 5 0 (I 45 0)) 5 1 (I 45 1)) 5 2 (I 45 2)) 5 3 (I 45 3)) 6 (va_cpy ((ui (ui (ui (ui I 5 0 (I 45 0)) 5 1 (I 45 1)) 5 2 (I 45 2)) 5 3 (I 45 3)) 46) ((ui (ui (ui (ui I 5 0 (I 45 0)) 5 1 (I 45 1)) 5 2 (I 45 2)) 5 3 (I 45 3)) 6) 0 0 4)) 47) ((ri (ui (ui (ui (ui I 5 0 (I 45 0)) 5 1 (I 45 1)) 5 2 (I 45 2)) 5 3 (I 45 3)) 6 (va_cpy ((ui (ui (ui (ui I 5 0 (I 45 0)) 5 1 (I 45 1)) 5 2 (I 45 2)) 5 3 (I 45 3)) 46) ((ui (ui (ui (ui I 5 0 (I 45 0)) 5 1 (I 45 1)) 5 2 (I 45 2)) 5 3 (I 45 3)) 6) 0 0 4)) 7) 0 0 4)) 48) ((ri (ri (ui (ui (ui (ui I 5 0 (I 45 0)) 5 1 (I 45 1)) 5 2 (I 45 2)) 5 3 (I 45 3)) 6 (va_cpy ((ui (ui (ui (ui I 5 0 (I 45 0)) 5 1 (I 45 1)) 5 2 (I 45 2)) 5 3 (I 45 3)) 46) ((ui (ui (ui (ui I 5 0 (I 45 0)) 5 1 (I 45 1)) 5 2 (I 45 2)) 5 3 (I 45 3)) 6) 0 0 4)) 7 (va_cpy ((ri (ui (ui (ui (ui I 5 0 (I 45 0)) 5 1 (I 45 1)) 5 2 (I 45 2)) 5 3 (I 45 3)) 6 (va_cpy ((ui (ui (ui (ui I 5 0 (I 45 0)) 5 1 (I 45 1)) 5 2 (I 45 2)) 5 3 (I 45 3)) 46) ((ui (ui (ui (ui I 5 0 (I 45 0)) 5 1 (I 45 1)) 5 2 (I 45 2)) 5 3 (I 45 3)) 6) 0 0 4)) 47) ((ri (ui (ui (ui (ui I 5 0 (I 45 0)) 5 1 (I 45 1)) 5 2 (I 45 2)) 5 3 (I 45 3)) 6 (va_cpy ((ui (ui (ui (ui I 5 0 (I 45 0)) 5 1 (I 45 1)) 5 2 (I 45 2)) 5 3 (I 45 3)) 46) ((ui (ui (ui (ui I 5 0 (I 45 0)) 5 1 (I 45 1)) 5 2 (I 45 2)) 5 3 (I 45 3)) 6) 0 0 4)) 7) 0 0 4)) 8) 0 0 4)) L e)) :
    Wp 204 5 [(0, .ref 1), (1, .int (Int32.ofInt 2))] [] (gE Lx) I L e Q := by
  refine w_a f_204_5 ?_
  refine w_a f_204_6 ?_
  refine w_a f_204_9 ?_
  refine w_a f_204_10 ?_
  refine w_a f_204_11 ?_
  refine w_a f_204_14 ?_
  refine i_m (fun h => ?_) (fun h => ?_) h
  · refine w_a f_204_17 ?_
    exact h
  · refine w_a f_204_25 ?_
    refine w_a f_204_26 ?_
    refine w_a f_204_29 ?_
    refine w_a f_204_30 ?_
    refine w_a f_204_33 ?_
    refine w_a f_204_34 ?_
    refine w_a f_204_35 ?_
    refine w_a f_204_38 ?_
    refine w_a (ls := [(0, .ref 5), (1, .ref 45)]) f_16_0 ?_
    refine w_a f_16_1 ?_
    refine w_a f_16_2 ?_
    refine w_a f_16_5 ?_
    refine w_a f_16_6 ?_
    refine w_a f_16_9 ?_
    refine w_a f_16_10 ?_
    refine w_a f_16_13 ?_
    refine w_a (ls := [(0, .ref 5), (1, .int (I 45 0)), (2, .int (I 45 1)), (3, .int (I 45 2))]) f_17_0 ?_
    refine w_a f_17_1 ?_
    refine w_a f_17_2 ?_
    refine w_a f_17_5 ?_
    refine w_a f_17_6 ?_
    refine w_a f_17_7 ?_
    refine w_a f_17_10 ?_
    refine w_a f_17_11 ?_
    refine w_a f_17_12 ?_
    refine w_a f_17_15 ?_
    refine w_a (ls := [(0, .ref 5), (1, .ref 45)]) f_16_16 ?_
    refine w_a f_16_17 ?_
    refine w_a f_16_18 ?_
    refine w_a f_16_21 ?_
    refine w_a f_16_24 ?_
    refine w_a f_16_25 ?_
    refine w_a f_16_28 ?_
    refine w_a f_16_29 ?_
    refine w_a f_16_30 ?_
    refine w_a f_16_33 ?_
    refine w_a f_16_34 ?_
    refine w_a f_16_35 ?_
    refine w_a f_16_38 ?_
    refine w_a f_16_39 ?_
    refine w_a f_16_42 ?_
    refine w_a f_16_43 ?_
    refine w_a f_16_44 ?_
    refine w_a f_16_47 ?_
    refine w_a f_16_48 ?_
    refine w_a f_16_49 ?_
    refine w_a f_16_52 ?_
    refine w_a f_16_53 ?_
    refine w_a f_16_56 ?_
    refine w_a f_16_57 ?_
    refine w_a f_16_58 ?_
    refine w_a f_16_61 ?_
    refine w_a f_16_62 ?_
    refine w_a f_16_63 ?_
    refine w_a f_16_66 ?_
    refine w_a (ls := [(0, .ref 1), (1, .int (Int32.ofInt 2))]) f_204_41 ?_
    refine w_a f_204_42 ?_
    refine w_a f_204_45 ?_
    refine w_a f_204_48 ?_
    exact h
set_option maxRecDepth 10000 in
set_option maxHeartbeats 4000000 in
theorem s_12_0_52 {Lx : Nat} {I : Mi} {L : Ml} {e : Nat} {Q : Kq} {x1 : Int32} (h :
    (if x1 < 0 then
     Q (.inl (some (.int (Int32.ofInt 0)))) (gE Lx) I L e
    else
     (if x1 < (Int32.ofInt 4) then
      (inb x1 4 (
       Q (.inl (some (.int (I 53 x1.toNatClampNeg)))) (gE Lx) I L e)
      False)
     else
      Q (.inl (some (.int (Int32.ofInt 0)))) (gE Lx) I L e))) :
    Wp 12 0 [(0, .ref 52), (1, .int x1)] [] (gE Lx) I L e Q := by
  refine w_a f_12_0 ?_
  refine w_a f_12_1 ?_
  refine w_a f_12_2 ?_
  refine w_a (ls := [(0, .ref 52), (1, .int x1)]) f_13_0 ?_
  refine w_a f_13_1 ?_
  refine i_m (fun h => ?_) (fun h => ?_) h
  · refine w_a f_13_13 ?_
    refine w_a f_13_14 ?_
    refine w_a (ls := [(0, .ref 52), (1, .int x1)]) f_12_5 ?_
    refine w_a f_12_17 ?_
    refine w_a f_12_18 ?_
    exact h
  · refine w_a f_13_4 ?_
    refine w_a f_13_5 ?_
    refine w_a f_13_6 ?_
    refine i_m (fun h => ?_) (fun h => ?_) h
    · refine w_a f_13_9 ?_
      refine w_a f_13_10 ?_
      refine w_a f_13_14 ?_
      refine w_a (ls := [(0, .ref 52), (1, .int x1)]) f_12_5 ?_
      refine w_a f_12_8 ?_
      refine w_a f_12_9 ?_
      refine w_a f_12_12 ?_
      refine w_a f_12_13 ?_
      refine n_m (fun h => ?_) h
      refine w_a f_12_14 ?_
      refine w_a f_12_18 ?_
      exact h
    · refine w_a f_13_13 ?_
      refine w_a f_13_14 ?_
      refine w_a (ls := [(0, .ref 52), (1, .int x1)]) f_12_5 ?_
      refine w_a f_12_17 ?_
      refine w_a f_12_18 ?_
      exact h
