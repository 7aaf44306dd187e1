/-! Pieces of the law and of the calls that it makes, by program out of the tables. -/
theorem f_61_0 : ftc (PT 61) 0 = some (0, .aload_n 0, 1, 0, 0, 0) := by decide +kernel
theorem f_61_1 : ftc (PT 61) 1 = some (1, .lload_n 1, 1, 0, 0, 0) := by decide +kernel
theorem f_61_2 : ftc (PT 61) 2 = some (2, .lload 5, 2, 0, 0, 0) := by decide +kernel
theorem f_61_4 : ftc (PT 61) 4 = some (4, .lmul, 1, 0, 0, 0) := by decide +kernel
theorem f_61_5 : ftc (PT 61) 5 = some (5, .lload_n 3, 1, 0, 0, 0) := by decide +kernel
theorem f_61_6 : ftc (PT 61) 6 = some (6, .lneg, 1, 0, 0, 0) := by decide +kernel
theorem f_61_7 : ftc (PT 61) 7 = some (7, .lload 5, 2, 0, 0, 0) := by decide +kernel
theorem f_61_9 : ftc (PT 61) 9 = some (9, .lmul, 1, 0, 0, 0) := by decide +kernel
theorem f_61_10 : ftc (PT 61) 10 = some (10, .lload_n 1, 1, 0, 0, 0) := by decide +kernel
theorem f_61_11 : ftc (PT 61) 11 = some (11, .lload_n 1, 1, 0, 0, 0) := by decide +kernel
theorem f_61_12 : ftc (PT 61) 12 = some (12, .lmul, 1, 0, 0, 0) := by decide +kernel
theorem f_61_13 : ftc (PT 61) 13 = some (13, .lload_n 3, 1, 0, 0, 0) := by decide +kernel
theorem f_61_14 : ftc (PT 61) 14 = some (14, .lload_n 3, 1, 0, 0, 0) := by decide +kernel
theorem f_61_15 : ftc (PT 61) 15 = some (15, .lmul, 1, 0, 0, 0) := by decide +kernel
theorem f_61_16 : ftc (PT 61) 16 = some (16, .ladd, 1, 0, 0, 0) := by decide +kernel
theorem f_61_17 : ftc (PT 61) 17 = some (17, .invokevirtual 31, 3, 53, 9318, 1077) := by decide +kernel
theorem f_110_0 : ftc (PT 110) 0 = some (0, .iload_n 1, 1, 0, 0, 0) := by decide +kernel
theorem f_110_1 : ftc (PT 110) 1 = some (1, .iload_n 2, 1, 0, 0, 0) := by decide +kernel
theorem f_110_2 : ftc (PT 110) 2 = some (2, .iload_n 3, 1, 0, 0, 0) := by decide +kernel
theorem f_110_3 : ftc (PT 110) 3 = some (3, .invokestatic 112, 3, 111, 3075, 770) := by decide +kernel
theorem f_110_6 : ftc (PT 110) 6 = some (6, .ifCond .ne 11, 3, 17, 0, 0) := by decide +kernel
theorem f_110_9 : ftc (PT 110) 9 = some (9, .new 116, 3, 101, 6, 773) := by decide +kernel
theorem f_110_17 : ftc (PT 110) 17 = some (17, .aload_n 0, 1, 0, 0, 0) := by decide +kernel
theorem f_110_18 : ftc (PT 110) 18 = some (18, .getfield 19, 3, 11, 1, 469) := by decide +kernel
theorem f_110_21 : ftc (PT 110) 21 = some (21, .iload_n 1, 1, 0, 0, 0) := by decide +kernel
theorem f_110_22 : ftc (PT 110) 22 = some (22, .iload_n 2, 1, 0, 0, 0) := by decide +kernel
theorem f_110_23 : ftc (PT 110) 23 = some (23, .iload_n 3, 1, 0, 0, 0) := by decide +kernel
theorem f_110_24 : ftc (PT 110) 24 = some (24, .invokevirtual 119, 3, 17, 4194, 837) := by decide +kernel
theorem f_110_27 : ftc (PT 110) 27 = some (27, .return_, 1, 0, 0, 0) := by decide +kernel
theorem f_112_0 : ftc (PT 112) 0 = some (0, .iload_n 1, 1, 0, 0, 0) := by decide +kernel
theorem f_112_1 : ftc (PT 112) 1 = some (1, .ifCond .lt 8, 3, 9, 0, 0) := by decide +kernel
theorem f_112_4 : ftc (PT 112) 4 = some (4, .iload_n 1, 1, 0, 0, 0) := by decide +kernel
theorem f_112_5 : ftc (PT 112) 5 = some (5, .iconst 4, 1, 0, 0, 0) := by decide +kernel
theorem f_112_6 : ftc (PT 112) 6 = some (6, .if_icmp .le 11, 3, 17, 0, 0) := by decide +kernel
theorem f_112_9 : ftc (PT 112) 9 = some (9, .new 116, 3, 101, 6, 773) := by decide +kernel
theorem f_112_17 : ftc (PT 112) 17 = some (17, .aload_n 0, 1, 0, 0, 0) := by decide +kernel
theorem f_112_18 : ftc (PT 112) 18 = some (18, .iload_n 2, 1, 0, 0, 0) := by decide +kernel
theorem f_112_19 : ftc (PT 112) 19 = some (19, .iload_n 3, 1, 0, 0, 0) := by decide +kernel
theorem f_112_20 : ftc (PT 112) 20 = some (20, .invokevirtual 123, 3, 113, 3147, 846) := by decide +kernel
theorem f_115_0 : ftc (PT 115) 0 = some (0, .aload_n 0, 1, 0, 0, 0) := by decide +kernel
theorem f_115_1 : ftc (PT 115) 1 = some (1, .getfield 19, 3, 11, 1, 469) := by decide +kernel
theorem f_115_4 : ftc (PT 115) 4 = some (4, .getfield 127, 3, 2, 3, 221) := by decide +kernel
theorem f_115_7 : ftc (PT 115) 7 = some (7, .ifCond .gt 11, 3, 18, 0, 0) := by decide +kernel
theorem f_115_10 : ftc (PT 115) 10 = some (10, .new 130, 3, 102, 6, 856) := by decide +kernel
theorem f_115_18 : ftc (PT 115) 18 = some (18, .aload_n 0, 1, 0, 0, 0) := by decide +kernel
theorem f_115_19 : ftc (PT 115) 19 = some (19, .getfield 19, 3, 11, 1, 469) := by decide +kernel
theorem f_115_22 : ftc (PT 115) 22 = some (22, .dup, 1, 0, 0, 0) := by decide +kernel
theorem f_115_23 : ftc (PT 115) 23 = some (23, .getfield 127, 3, 2, 3, 221) := by decide +kernel
theorem f_115_26 : ftc (PT 115) 26 = some (26, .iconst 1, 1, 0, 0, 0) := by decide +kernel
theorem f_115_27 : ftc (PT 115) 27 = some (27, .isub, 1, 0, 0, 0) := by decide +kernel
theorem f_115_28 : ftc (PT 115) 28 = some (28, .putfield 127, 3, 2, 3, 221) := by decide +kernel
theorem f_115_31 : ftc (PT 115) 31 = some (31, .aload_n 0, 1, 0, 0, 0) := by decide +kernel
theorem f_115_32 : ftc (PT 115) 32 = some (32, .getfield 19, 3, 11, 1, 469) := by decide +kernel
theorem f_115_35 : ftc (PT 115) 35 = some (35, .getfield 127, 3, 2, 3, 221) := by decide +kernel
theorem f_115_38 : ftc (PT 115) 38 = some (38, .ireturn, 1, 0, 0, 0) := by decide +kernel
theorem f_116_0 : ftc (PT 116) 0 = some (0, .aload_n 0, 1, 0, 0, 0) := by decide +kernel
theorem f_116_1 : ftc (PT 116) 1 = some (1, .iload_n 1, 1, 0, 0, 0) := by decide +kernel
theorem f_116_2 : ftc (PT 116) 2 = some (2, .invokevirtual 136, 3, 117, 2091, 890) := by decide +kernel
theorem f_116_5 : ftc (PT 116) 5 = some (5, .aload_n 0, 1, 0, 0, 0) := by decide +kernel
theorem f_116_6 : ftc (PT 116) 6 = some (6, .iload_n 2, 1, 0, 0, 0) := by decide +kernel
theorem f_116_7 : ftc (PT 116) 7 = some (7, .iload_n 3, 1, 0, 0, 0) := by decide +kernel
theorem f_116_8 : ftc (PT 116) 8 = some (8, .invokevirtual 123, 3, 113, 3147, 846) := by decide +kernel
theorem f_117_0 : ftc (PT 117) 0 = some (0, .iload_n 1, 1, 0, 0, 0) := by decide +kernel
theorem f_117_1 : ftc (PT 117) 1 = some (1, .ifCond .lt 14, 3, 15, 0, 0) := by decide +kernel
theorem f_117_4 : ftc (PT 117) 4 = some (4, .iload_n 1, 1, 0, 0, 0) := by decide +kernel
theorem f_117_5 : ftc (PT 117) 5 = some (5, .aload_n 0, 1, 0, 0, 0) := by decide +kernel
theorem f_117_6 : ftc (PT 117) 6 = some (6, .getfield 19, 3, 11, 1, 469) := by decide +kernel
theorem f_117_9 : ftc (PT 117) 9 = some (9, .getfield 127, 3, 2, 3, 221) := by decide +kernel
theorem f_117_12 : ftc (PT 117) 12 = some (12, .if_icmp .lt 11, 3, 23, 0, 0) := by decide +kernel
theorem f_117_15 : ftc (PT 117) 15 = some (15, .new 472, 3, 103, 6, 894) := by decide +kernel
theorem f_117_23 : ftc (PT 117) 23 = some (23, .return_, 1, 0, 0, 0) := by decide +kernel
theorem f_118_0 : ftc (PT 118) 0 = some (0, .iload_n 1, 1, 0, 0, 0) := by decide +kernel
theorem f_118_1 : ftc (PT 118) 1 = some (1, .ifCond .lt 19, 3, 20, 0, 0) := by decide +kernel
theorem f_118_4 : ftc (PT 118) 4 = some (4, .iload_n 2, 1, 0, 0, 0) := by decide +kernel
theorem f_118_5 : ftc (PT 118) 5 = some (5, .iconst 1, 1, 0, 0, 0) := by decide +kernel
theorem f_118_6 : ftc (PT 118) 6 = some (6, .if_icmp .lt 14, 3, 20, 0, 0) := by decide +kernel
theorem f_118_9 : ftc (PT 118) 9 = some (9, .iload_n 2, 1, 0, 0, 0) := by decide +kernel
theorem f_118_10 : ftc (PT 118) 10 = some (10, .bipush 20, 2, 0, 0, 0) := by decide +kernel
theorem f_118_12 : ftc (PT 118) 12 = some (12, .if_icmp .gt 8, 3, 20, 0, 0) := by decide +kernel
theorem f_118_15 : ftc (PT 118) 15 = some (15, .iload_n 1, 1, 0, 0, 0) := by decide +kernel
theorem f_118_16 : ftc (PT 118) 16 = some (16, .iload_n 2, 1, 0, 0, 0) := by decide +kernel
theorem f_118_17 : ftc (PT 118) 17 = some (17, .if_icmp .lt 11, 3, 28, 0, 0) := by decide +kernel
theorem f_118_20 : ftc (PT 118) 20 = some (20, .new 116, 3, 101, 6, 773) := by decide +kernel
theorem f_118_28 : ftc (PT 118) 28 = some (28, .aload_n 0, 1, 0, 0, 0) := by decide +kernel
theorem f_118_29 : ftc (PT 118) 29 = some (29, .iload_n 1, 1, 0, 0, 0) := by decide +kernel
theorem f_118_30 : ftc (PT 118) 30 = some (30, .putfield 32, 3, 11, 4, 472) := by decide +kernel
theorem f_118_33 : ftc (PT 118) 33 = some (33, .aload_n 0, 1, 0, 0, 0) := by decide +kernel
theorem f_118_34 : ftc (PT 118) 34 = some (34, .iload_n 2, 1, 0, 0, 0) := by decide +kernel
theorem f_118_35 : ftc (PT 118) 35 = some (35, .putfield 36, 3, 11, 5, 473) := by decide +kernel
theorem f_118_38 : ftc (PT 118) 38 = some (38, .return_, 1, 0, 0, 0) := by decide +kernel
theorem f_119_0 : ftc (PT 119) 0 = some (0, .aload_n 0, 1, 0, 0, 0) := by decide +kernel
theorem f_119_1 : ftc (PT 119) 1 = some (1, .iload_n 1, 1, 0, 0, 0) := by decide +kernel
theorem f_119_2 : ftc (PT 119) 2 = some (2, .invokevirtual 136, 3, 117, 2091, 890) := by decide +kernel
theorem f_119_5 : ftc (PT 119) 5 = some (5, .aload_n 0, 1, 0, 0, 0) := by decide +kernel
theorem f_119_6 : ftc (PT 119) 6 = some (6, .iload_n 2, 1, 0, 0, 0) := by decide +kernel
theorem f_119_7 : ftc (PT 119) 7 = some (7, .iconst 2, 1, 0, 0, 0) := by decide +kernel
theorem f_119_8 : ftc (PT 119) 8 = some (8, .invokevirtual 143, 3, 120, 3147, 928) := by decide +kernel
theorem f_119_11 : ftc (PT 119) 11 = some (11, .iload_n 2, 1, 0, 0, 0) := by decide +kernel
theorem f_119_12 : ftc (PT 119) 12 = some (12, .ifCond .ne 12, 3, 24, 0, 0) := by decide +kernel
theorem f_119_15 : ftc (PT 119) 15 = some (15, .aload_n 0, 1, 0, 0, 0) := by decide +kernel
theorem f_119_16 : ftc (PT 119) 16 = some (16, .getfield 19, 3, 11, 1, 469) := by decide +kernel
theorem f_119_19 : ftc (PT 119) 19 = some (19, .iload_n 1, 1, 0, 0, 0) := by decide +kernel
theorem f_119_20 : ftc (PT 119) 20 = some (20, .invokevirtual 146, 3, 12, 2082, 549) := by decide +kernel
theorem f_119_24 : ftc (PT 119) 24 = some (24, .iload_n 2, 1, 0, 0, 0) := by decide +kernel
theorem f_119_25 : ftc (PT 119) 25 = some (25, .iconst 1, 1, 0, 0, 0) := by decide +kernel
theorem f_119_26 : ftc (PT 119) 26 = some (26, .if_icmp .ne 14, 3, 40, 0, 0) := by decide +kernel
theorem f_119_29 : ftc (PT 119) 29 = some (29, .aload_n 0, 1, 0, 0, 0) := by decide +kernel
theorem f_119_30 : ftc (PT 119) 30 = some (30, .getfield 19, 3, 11, 1, 469) := by decide +kernel
theorem f_119_33 : ftc (PT 119) 33 = some (33, .iload_n 1, 1, 0, 0, 0) := by decide +kernel
theorem f_119_34 : ftc (PT 119) 34 = some (34, .invokevirtual 150, 3, 14, 2082, 557) := by decide +kernel
theorem f_119_40 : ftc (PT 119) 40 = some (40, .aload_n 0, 1, 0, 0, 0) := by decide +kernel
theorem f_119_41 : ftc (PT 119) 41 = some (41, .getfield 19, 3, 11, 1, 469) := by decide +kernel
theorem f_119_44 : ftc (PT 119) 44 = some (44, .iload_n 1, 1, 0, 0, 0) := by decide +kernel
theorem f_119_45 : ftc (PT 119) 45 = some (45, .invokevirtual 153, 3, 15, 2082, 561) := by decide +kernel
theorem f_120_0 : ftc (PT 120) 0 = some (0, .iload_n 1, 1, 0, 0, 0) := by decide +kernel
theorem f_120_1 : ftc (PT 120) 1 = some (1, .ifCond .lt 8, 3, 9, 0, 0) := by decide +kernel
theorem f_120_4 : ftc (PT 120) 4 = some (4, .iload_n 1, 1, 0, 0, 0) := by decide +kernel
theorem f_120_5 : ftc (PT 120) 5 = some (5, .iload_n 2, 1, 0, 0, 0) := by decide +kernel
theorem f_120_6 : ftc (PT 120) 6 = some (6, .if_icmp .le 11, 3, 17, 0, 0) := by decide +kernel
theorem f_120_9 : ftc (PT 120) 9 = some (9, .new 469, 3, 104, 6, 932) := by decide +kernel
theorem f_120_17 : ftc (PT 120) 17 = some (17, .return_, 1, 0, 0, 0) := by decide +kernel
theorem f_121_0 : ftc (PT 121) 0 = some (0, .aload_n 0, 1, 0, 0, 0) := by decide +kernel
theorem f_121_1 : ftc (PT 121) 1 = some (1, .iload_n 1, 1, 0, 0, 0) := by decide +kernel
theorem f_121_2 : ftc (PT 121) 2 = some (2, .invokevirtual 193, 3, 122, 2091, 954) := by decide +kernel
theorem f_121_5 : ftc (PT 121) 5 = some (5, .aload_n 0, 1, 0, 0, 0) := by decide +kernel
theorem f_121_6 : ftc (PT 121) 6 = some (6, .getfield 19, 3, 11, 1, 469) := by decide +kernel
theorem f_121_9 : ftc (PT 121) 9 = some (9, .iload_n 1, 1, 0, 0, 0) := by decide +kernel
theorem f_121_10 : ftc (PT 121) 10 = some (10, .aload_n 0, 1, 0, 0, 0) := by decide +kernel
theorem f_121_11 : ftc (PT 121) 11 = some (11, .getfield 42, 3, 11, 6, 474) := by decide +kernel
theorem f_121_14 : ftc (PT 121) 14 = some (14, .invokestatic 196, 3, 106, 4099, 742) := by decide +kernel
theorem f_122_0 : ftc (PT 122) 0 = some (0, .iload_n 1, 1, 0, 0, 0) := by decide +kernel
theorem f_122_1 : ftc (PT 122) 1 = some (1, .ifCond .lt 14, 3, 15, 0, 0) := by decide +kernel
theorem f_122_4 : ftc (PT 122) 4 = some (4, .iload_n 1, 1, 0, 0, 0) := by decide +kernel
theorem f_122_5 : ftc (PT 122) 5 = some (5, .aload_n 0, 1, 0, 0, 0) := by decide +kernel
theorem f_122_6 : ftc (PT 122) 6 = some (6, .getfield 19, 3, 11, 1, 469) := by decide +kernel
theorem f_122_9 : ftc (PT 122) 9 = some (9, .getfield 127, 3, 2, 3, 221) := by decide +kernel
theorem f_122_12 : ftc (PT 122) 12 = some (12, .if_icmp .le 11, 3, 23, 0, 0) := by decide +kernel
theorem f_122_15 : ftc (PT 122) 15 = some (15, .new 472, 3, 103, 6, 894) := by decide +kernel
theorem f_122_23 : ftc (PT 122) 23 = some (23, .return_, 1, 0, 0, 0) := by decide +kernel
theorem f_123_0 : ftc (PT 123) 0 = some (0, .aload_n 0, 1, 0, 0, 0) := by decide +kernel
theorem f_123_1 : ftc (PT 123) 1 = some (1, .iload_n 1, 1, 0, 0, 0) := by decide +kernel
theorem f_123_2 : ftc (PT 123) 2 = some (2, .invokevirtual 193, 3, 122, 2091, 954) := by decide +kernel
theorem f_123_5 : ftc (PT 123) 5 = some (5, .aload_n 0, 1, 0, 0, 0) := by decide +kernel
theorem f_123_6 : ftc (PT 123) 6 = some (6, .getfield 19, 3, 11, 1, 469) := by decide +kernel
theorem f_123_9 : ftc (PT 123) 9 = some (9, .iload_n 1, 1, 0, 0, 0) := by decide +kernel
theorem f_123_10 : ftc (PT 123) 10 = some (10, .aload_n 0, 1, 0, 0, 0) := by decide +kernel
theorem f_123_11 : ftc (PT 123) 11 = some (11, .getfield 42, 3, 11, 6, 474) := by decide +kernel
theorem f_123_14 : ftc (PT 123) 14 = some (14, .invokestatic 196, 3, 106, 4099, 742) := by decide +kernel
theorem f_124_0 : ftc (PT 124) 0 = some (0, .aload_n 0, 1, 0, 0, 0) := by decide +kernel
theorem f_124_1 : ftc (PT 124) 1 = some (1, .iload_n 1, 1, 0, 0, 0) := by decide +kernel
theorem f_124_2 : ftc (PT 124) 2 = some (2, .invokevirtual 193, 3, 122, 2091, 954) := by decide +kernel
theorem f_124_5 : ftc (PT 124) 5 = some (5, .aload_n 0, 1, 0, 0, 0) := by decide +kernel
theorem f_124_6 : ftc (PT 124) 6 = some (6, .getfield 19, 3, 11, 1, 469) := by decide +kernel
theorem f_124_9 : ftc (PT 124) 9 = some (9, .iload_n 1, 1, 0, 0, 0) := by decide +kernel
theorem f_124_10 : ftc (PT 124) 10 = some (10, .aload_n 0, 1, 0, 0, 0) := by decide +kernel
theorem f_124_11 : ftc (PT 124) 11 = some (11, .getfield 42, 3, 11, 6, 474) := by decide +kernel
theorem f_124_14 : ftc (PT 124) 14 = some (14, .invokestatic 196, 3, 106, 4099, 742) := by decide +kernel
theorem f_125_0 : ftc (PT 125) 0 = some (0, .aload_n 0, 1, 0, 0, 0) := by decide +kernel
theorem f_125_1 : ftc (PT 125) 1 = some (1, .iload_n 1, 1, 0, 0, 0) := by decide +kernel
theorem f_125_2 : ftc (PT 125) 2 = some (2, .iload_n 2, 1, 0, 0, 0) := by decide +kernel
theorem f_125_3 : ftc (PT 125) 3 = some (3, .invokevirtual 228, 3, 126, 5195, 999) := by decide +kernel
theorem f_125_6 : ftc (PT 125) 6 = some (6, .aload_n 0, 1, 0, 0, 0) := by decide +kernel
theorem f_125_7 : ftc (PT 125) 7 = some (7, .aload_n 0, 1, 0, 0, 0) := by decide +kernel
theorem f_125_8 : ftc (PT 125) 8 = some (8, .getfield 19, 3, 11, 1, 469) := by decide +kernel
theorem f_125_11 : ftc (PT 125) 11 = some (11, .iload_n 1, 1, 0, 0, 0) := by decide +kernel
theorem f_125_12 : ftc (PT 125) 12 = some (12, .iload_n 2, 1, 0, 0, 0) := by decide +kernel
theorem f_125_13 : ftc (PT 125) 13 = some (13, .invokevirtual 232, 3, 127, 4203, 1003) := by decide +kernel
theorem f_126_0 : ftc (PT 126) 0 = some (0, .iload_n 2, 1, 0, 0, 0) := by decide +kernel
theorem f_126_1 : ftc (PT 126) 1 = some (1, .ifCond .eq 8, 3, 9, 0, 0) := by decide +kernel
theorem f_126_4 : ftc (PT 126) 4 = some (4, .bipush (-10), 2, 0, 0, 0) := by decide +kernel
theorem f_126_6 : ftc (PT 126) 6 = some (6, .goto 4, 3, 10, 0, 0) := by decide +kernel
theorem f_126_9 : ftc (PT 126) 9 = some (9, .iconst 1, 1, 0, 0, 0) := by decide +kernel
theorem f_126_10 : ftc (PT 126) 10 = some (10, .istore_n 3, 1, 0, 0, 0) := by decide +kernel
theorem f_126_11 : ftc (PT 126) 11 = some (11, .iload_n 2, 1, 0, 0, 0) := by decide +kernel
theorem f_126_12 : ftc (PT 126) 12 = some (12, .ifCond .eq 8, 3, 20, 0, 0) := by decide +kernel
theorem f_126_15 : ftc (PT 126) 15 = some (15, .bipush 10, 2, 0, 0, 0) := by decide +kernel
theorem f_126_17 : ftc (PT 126) 17 = some (17, .goto 4, 3, 21, 0, 0) := by decide +kernel
theorem f_126_20 : ftc (PT 126) 20 = some (20, .iconst 3, 1, 0, 0, 0) := by decide +kernel
theorem f_126_21 : ftc (PT 126) 21 = some (21, .istore 4, 2, 0, 0, 0) := by decide +kernel
theorem f_126_23 : ftc (PT 126) 23 = some (23, .iload_n 1, 1, 0, 0, 0) := by decide +kernel
theorem f_126_24 : ftc (PT 126) 24 = some (24, .iload_n 3, 1, 0, 0, 0) := by decide +kernel
theorem f_126_25 : ftc (PT 126) 25 = some (25, .if_icmp .lt 9, 3, 34, 0, 0) := by decide +kernel
theorem f_126_28 : ftc (PT 126) 28 = some (28, .iload_n 1, 1, 0, 0, 0) := by decide +kernel
theorem f_126_29 : ftc (PT 126) 29 = some (29, .iload 4, 2, 0, 0, 0) := by decide +kernel
theorem f_126_31 : ftc (PT 126) 31 = some (31, .if_icmp .le 11, 3, 42, 0, 0) := by decide +kernel
theorem f_126_34 : ftc (PT 126) 34 = some (34, .new 116, 3, 101, 6, 773) := by decide +kernel
theorem f_126_42 : ftc (PT 126) 42 = some (42, .return_, 1, 0, 0, 0) := by decide +kernel
theorem f_127_0 : ftc (PT 127) 0 = some (0, .iload_n 3, 1, 0, 0, 0) := by decide +kernel
theorem f_127_1 : ftc (PT 127) 1 = some (1, .ifCond .eq 12, 3, 13, 0, 0) := by decide +kernel
theorem f_127_4 : ftc (PT 127) 4 = some (4, .aload_n 0, 1, 0, 0, 0) := by decide +kernel
theorem f_127_5 : ftc (PT 127) 5 = some (5, .aload_n 1, 1, 0, 0, 0) := by decide +kernel
theorem f_127_6 : ftc (PT 127) 6 = some (6, .iload_n 2, 1, 0, 0, 0) := by decide +kernel
theorem f_127_7 : ftc (PT 127) 7 = some (7, .invokevirtual 495, 3, 97, 4171, 647) := by decide +kernel
theorem f_127_13 : ftc (PT 127) 13 = some (13, .aload_n 0, 1, 0, 0, 0) := by decide +kernel
theorem f_127_14 : ftc (PT 127) 14 = some (14, .aload_n 1, 1, 0, 0, 0) := by decide +kernel
theorem f_127_15 : ftc (PT 127) 15 = some (15, .iload_n 2, 1, 0, 0, 0) := by decide +kernel
theorem f_127_16 : ftc (PT 127) 16 = some (16, .invokevirtual 499, 3, 108, 4171, 749) := by decide +kernel
theorem f_129_0 : ftc (PT 129) 0 = some (0, .aload_n 0, 1, 0, 0, 0) := by decide +kernel
theorem f_129_1 : ftc (PT 129) 1 = some (1, .iload_n 1, 1, 0, 0, 0) := by decide +kernel
theorem f_129_2 : ftc (PT 129) 2 = some (2, .iload_n 2, 1, 0, 0, 0) := by decide +kernel
theorem f_129_3 : ftc (PT 129) 3 = some (3, .invokevirtual 228, 3, 126, 5195, 999) := by decide +kernel
theorem f_129_6 : ftc (PT 129) 6 = some (6, .aload_n 0, 1, 0, 0, 0) := by decide +kernel
theorem f_129_7 : ftc (PT 129) 7 = some (7, .aload_n 0, 1, 0, 0, 0) := by decide +kernel
theorem f_129_8 : ftc (PT 129) 8 = some (8, .getfield 19, 3, 11, 1, 469) := by decide +kernel
theorem f_129_11 : ftc (PT 129) 11 = some (11, .iload_n 1, 1, 0, 0, 0) := by decide +kernel
theorem f_129_12 : ftc (PT 129) 12 = some (12, .iload_n 2, 1, 0, 0, 0) := by decide +kernel
theorem f_129_13 : ftc (PT 129) 13 = some (13, .invokevirtual 232, 3, 127, 4203, 1003) := by decide +kernel
theorem f_130_0 : ftc (PT 130) 0 = some (0, .aload_n 0, 1, 0, 0, 0) := by decide +kernel
theorem f_130_1 : ftc (PT 130) 1 = some (1, .iload_n 1, 1, 0, 0, 0) := by decide +kernel
theorem f_130_2 : ftc (PT 130) 2 = some (2, .iload_n 2, 1, 0, 0, 0) := by decide +kernel
theorem f_130_3 : ftc (PT 130) 3 = some (3, .invokevirtual 123, 3, 113, 3147, 846) := by decide +kernel
theorem f_131_0 : ftc (PT 131) 0 = some (0, .aload_n 0, 1, 0, 0, 0) := by decide +kernel
theorem f_131_1 : ftc (PT 131) 1 = some (1, .iload_n 1, 1, 0, 0, 0) := by decide +kernel
theorem f_131_2 : ftc (PT 131) 2 = some (2, .iload_n 2, 1, 0, 0, 0) := by decide +kernel
theorem f_131_3 : ftc (PT 131) 3 = some (3, .invokevirtual 123, 3, 113, 3147, 846) := by decide +kernel
theorem f_132_0 : ftc (PT 132) 0 = some (0, .aload_n 0, 1, 0, 0, 0) := by decide +kernel
theorem f_132_1 : ftc (PT 132) 1 = some (1, .iload_n 1, 1, 0, 0, 0) := by decide +kernel
theorem f_132_2 : ftc (PT 132) 2 = some (2, .iload_n 2, 1, 0, 0, 0) := by decide +kernel
theorem f_132_3 : ftc (PT 132) 3 = some (3, .invokevirtual 123, 3, 113, 3147, 846) := by decide +kernel
theorem f_133_0 : ftc (PT 133) 0 = some (0, .aload_n 0, 1, 0, 0, 0) := by decide +kernel
theorem f_133_1 : ftc (PT 133) 1 = some (1, .iload_n 1, 1, 0, 0, 0) := by decide +kernel
theorem f_133_2 : ftc (PT 133) 2 = some (2, .iload_n 2, 1, 0, 0, 0) := by decide +kernel
theorem f_133_3 : ftc (PT 133) 3 = some (3, .invokevirtual 123, 3, 113, 3147, 846) := by decide +kernel
theorem f_134_0 : ftc (PT 134) 0 = some (0, .aload_n 0, 1, 0, 0, 0) := by decide +kernel
theorem f_134_1 : ftc (PT 134) 1 = some (1, .iload_n 1, 1, 0, 0, 0) := by decide +kernel
theorem f_134_2 : ftc (PT 134) 2 = some (2, .iload_n 2, 1, 0, 0, 0) := by decide +kernel
theorem f_134_3 : ftc (PT 134) 3 = some (3, .invokevirtual 258, 3, 135, 3147, 1062) := by decide +kernel
theorem f_135_0 : ftc (PT 135) 0 = some (0, .aload_n 0, 1, 0, 0, 0) := by decide +kernel
theorem f_135_1 : ftc (PT 135) 1 = some (1, .iload_n 1, 1, 0, 0, 0) := by decide +kernel
theorem f_135_2 : ftc (PT 135) 2 = some (2, .invokevirtual 193, 3, 122, 2091, 954) := by decide +kernel
theorem f_135_5 : ftc (PT 135) 5 = some (5, .aload_n 0, 1, 0, 0, 0) := by decide +kernel
theorem f_135_6 : ftc (PT 135) 6 = some (6, .iload_n 1, 1, 0, 0, 0) := by decide +kernel
theorem f_135_7 : ftc (PT 135) 7 = some (7, .invokevirtual 353, 3, 136, 2091, 1066) := by decide +kernel
theorem f_137_0 : ftc (PT 137) 0 = some (0, .aload_n 0, 1, 0, 0, 0) := by decide +kernel
theorem f_137_1 : ftc (PT 137) 1 = some (1, .iload_n 1, 1, 0, 0, 0) := by decide +kernel
theorem f_137_2 : ftc (PT 137) 2 = some (2, .iload_n 2, 1, 0, 0, 0) := by decide +kernel
theorem f_137_3 : ftc (PT 137) 3 = some (3, .invokevirtual 258, 3, 135, 3147, 1062) := by decide +kernel
theorem f_139_0 : ftc (PT 139) 0 = some (0, .aload_n 0, 1, 0, 0, 0) := by decide +kernel
theorem f_139_1 : ftc (PT 139) 1 = some (1, .iload_n 1, 1, 0, 0, 0) := by decide +kernel
theorem f_139_2 : ftc (PT 139) 2 = some (2, .iload_n 2, 1, 0, 0, 0) := by decide +kernel
theorem f_139_3 : ftc (PT 139) 3 = some (3, .invokevirtual 258, 3, 135, 3147, 1062) := by decide +kernel
theorem f_141_0 : ftc (PT 141) 0 = some (0, .aload_n 0, 1, 0, 0, 0) := by decide +kernel
theorem f_141_1 : ftc (PT 141) 1 = some (1, .iload_n 1, 1, 0, 0, 0) := by decide +kernel
theorem f_141_2 : ftc (PT 141) 2 = some (2, .iload_n 2, 1, 0, 0, 0) := by decide +kernel
theorem f_141_3 : ftc (PT 141) 3 = some (3, .invokevirtual 258, 3, 135, 3147, 1062) := by decide +kernel
theorem f_142_0 : ftc (PT 142) 0 = some (0, .aload_n 0, 1, 0, 0, 0) := by decide +kernel
theorem f_142_1 : ftc (PT 142) 1 = some (1, .iload_n 1, 1, 0, 0, 0) := by decide +kernel
theorem f_142_2 : ftc (PT 142) 2 = some (2, .iload_n 2, 1, 0, 0, 0) := by decide +kernel
theorem f_142_3 : ftc (PT 142) 3 = some (3, .invokevirtual 258, 3, 135, 3147, 1062) := by decide +kernel
theorem f_143_0 : ftc (PT 143) 0 = some (0, .aload_n 0, 1, 0, 0, 0) := by decide +kernel
theorem f_143_1 : ftc (PT 143) 1 = some (1, .iload_n 1, 1, 0, 0, 0) := by decide +kernel
theorem f_143_2 : ftc (PT 143) 2 = some (2, .iload_n 2, 1, 0, 0, 0) := by decide +kernel
theorem f_143_3 : ftc (PT 143) 3 = some (3, .invokevirtual 258, 3, 135, 3147, 1062) := by decide +kernel
theorem f_144_0 : ftc (PT 144) 0 = some (0, .aload_n 0, 1, 0, 0, 0) := by decide +kernel
theorem f_144_1 : ftc (PT 144) 1 = some (1, .iload_n 1, 1, 0, 0, 0) := by decide +kernel
theorem f_144_2 : ftc (PT 144) 2 = some (2, .iload_n 2, 1, 0, 0, 0) := by decide +kernel
theorem f_144_3 : ftc (PT 144) 3 = some (3, .invokevirtual 258, 3, 135, 3147, 1062) := by decide +kernel
theorem f_145_0 : ftc (PT 145) 0 = some (0, .aload_n 0, 1, 0, 0, 0) := by decide +kernel
theorem f_145_1 : ftc (PT 145) 1 = some (1, .aload_n 0, 1, 0, 0, 0) := by decide +kernel
theorem f_145_2 : ftc (PT 145) 2 = some (2, .getfield 19, 3, 11, 1, 469) := by decide +kernel
theorem f_145_5 : ftc (PT 145) 5 = some (5, .getfield 127, 3, 2, 3, 221) := by decide +kernel
theorem f_145_8 : ftc (PT 145) 8 = some (8, .iload_n 1, 1, 0, 0, 0) := by decide +kernel
theorem f_145_9 : ftc (PT 145) 9 = some (9, .invokevirtual 258, 3, 135, 3147, 1062) := by decide +kernel
theorem f_147_0 : ftc (PT 147) 0 = some (0, .aload_n 0, 1, 0, 0, 0) := by decide +kernel
theorem f_147_1 : ftc (PT 147) 1 = some (1, .iload_n 1, 1, 0, 0, 0) := by decide +kernel
theorem f_147_2 : ftc (PT 147) 2 = some (2, .invokevirtual 193, 3, 122, 2091, 954) := by decide +kernel
theorem f_147_5 : ftc (PT 147) 5 = some (5, .aload_n 0, 1, 0, 0, 0) := by decide +kernel
theorem f_147_6 : ftc (PT 147) 6 = some (6, .iload_n 1, 1, 0, 0, 0) := by decide +kernel
theorem f_147_7 : ftc (PT 147) 7 = some (7, .iload_n 2, 1, 0, 0, 0) := by decide +kernel
theorem f_147_8 : ftc (PT 147) 8 = some (8, .invokevirtual 305, 3, 148, 3147, 1218) := by decide +kernel
theorem f_150_0 : ftc (PT 150) 0 = some (0, .aload_n 0, 1, 0, 0, 0) := by decide +kernel
theorem f_150_1 : ftc (PT 150) 1 = some (1, .iload_n 1, 1, 0, 0, 0) := by decide +kernel
theorem f_150_2 : ftc (PT 150) 2 = some (2, .iload_n 2, 1, 0, 0, 0) := by decide +kernel
theorem f_150_3 : ftc (PT 150) 3 = some (3, .invokevirtual 312, 3, 151, 3147, 1243) := by decide +kernel
theorem f_151_0 : ftc (PT 151) 0 = some (0, .iload_n 1, 1, 0, 0, 0) := by decide +kernel
theorem f_151_1 : ftc (PT 151) 1 = some (1, .i2l, 1, 0, 0, 0) := by decide +kernel
theorem f_151_2 : ftc (PT 151) 2 = some (2, .iload_n 2, 1, 0, 0, 0) := by decide +kernel
theorem f_151_3 : ftc (PT 151) 3 = some (3, .i2l, 1, 0, 0, 0) := by decide +kernel
theorem f_151_4 : ftc (PT 151) 4 = some (4, .invokestatic 297, 3, 114, 4098, 850) := by decide +kernel
theorem f_152_0 : ftc (PT 152) 0 = some (0, .aload_n 0, 1, 0, 0, 0) := by decide +kernel
theorem f_152_1 : ftc (PT 152) 1 = some (1, .iload_n 1, 1, 0, 0, 0) := by decide +kernel
theorem f_152_2 : ftc (PT 152) 2 = some (2, .invokevirtual 193, 3, 122, 2091, 954) := by decide +kernel
theorem f_152_5 : ftc (PT 152) 5 = some (5, .aload_n 0, 1, 0, 0, 0) := by decide +kernel
theorem f_152_6 : ftc (PT 152) 6 = some (6, .iload_n 3, 1, 0, 0, 0) := by decide +kernel
theorem f_152_7 : ftc (PT 152) 7 = some (7, .iload 4, 2, 0, 0, 0) := by decide +kernel
theorem f_152_9 : ftc (PT 152) 9 = some (9, .invokevirtual 312, 3, 151, 3147, 1243) := by decide +kernel
theorem f_153_0 : ftc (PT 153) 0 = some (0, .aload_n 0, 1, 0, 0, 0) := by decide +kernel
theorem f_153_1 : ftc (PT 153) 1 = some (1, .iload_n 1, 1, 0, 0, 0) := by decide +kernel
theorem f_153_2 : ftc (PT 153) 2 = some (2, .invokevirtual 193, 3, 122, 2091, 954) := by decide +kernel
theorem f_153_5 : ftc (PT 153) 5 = some (5, .aload_n 0, 1, 0, 0, 0) := by decide +kernel
theorem f_153_6 : ftc (PT 153) 6 = some (6, .iload_n 3, 1, 0, 0, 0) := by decide +kernel
theorem f_153_7 : ftc (PT 153) 7 = some (7, .iload 4, 2, 0, 0, 0) := by decide +kernel
theorem f_153_9 : ftc (PT 153) 9 = some (9, .invokevirtual 312, 3, 151, 3147, 1243) := by decide +kernel
theorem f_155_0 : ftc (PT 155) 0 = some (0, .aload_n 0, 1, 0, 0, 0) := by decide +kernel
theorem f_155_1 : ftc (PT 155) 1 = some (1, .iload_n 1, 1, 0, 0, 0) := by decide +kernel
theorem f_155_2 : ftc (PT 155) 2 = some (2, .invokevirtual 193, 3, 122, 2091, 954) := by decide +kernel
theorem f_155_5 : ftc (PT 155) 5 = some (5, .aload_n 0, 1, 0, 0, 0) := by decide +kernel
theorem f_155_6 : ftc (PT 155) 6 = some (6, .iload_n 3, 1, 0, 0, 0) := by decide +kernel
theorem f_155_7 : ftc (PT 155) 7 = some (7, .iload 4, 2, 0, 0, 0) := by decide +kernel
theorem f_155_9 : ftc (PT 155) 9 = some (9, .invokevirtual 312, 3, 151, 3147, 1243) := by decide +kernel
theorem f_159_0 : ftc (PT 159) 0 = some (0, .aload_n 0, 1, 0, 0, 0) := by decide +kernel
theorem f_159_1 : ftc (PT 159) 1 = some (1, .iload_n 1, 1, 0, 0, 0) := by decide +kernel
theorem f_159_2 : ftc (PT 159) 2 = some (2, .invokevirtual 193, 3, 122, 2091, 954) := by decide +kernel
theorem f_159_5 : ftc (PT 159) 5 = some (5, .aload_n 0, 1, 0, 0, 0) := by decide +kernel
theorem f_159_6 : ftc (PT 159) 6 = some (6, .iload 5, 2, 0, 0, 0) := by decide +kernel
theorem f_159_8 : ftc (PT 159) 8 = some (8, .iconst 2, 1, 0, 0, 0) := by decide +kernel
theorem f_159_9 : ftc (PT 159) 9 = some (9, .invokevirtual 143, 3, 120, 3147, 928) := by decide +kernel
theorem f_159_12 : ftc (PT 159) 12 = some (12, .aload_n 0, 1, 0, 0, 0) := by decide +kernel
theorem f_159_13 : ftc (PT 159) 13 = some (13, .iload_n 3, 1, 0, 0, 0) := by decide +kernel
theorem f_159_14 : ftc (PT 159) 14 = some (14, .iload 4, 2, 0, 0, 0) := by decide +kernel
theorem f_159_16 : ftc (PT 159) 16 = some (16, .invokevirtual 312, 3, 151, 3147, 1243) := by decide +kernel
theorem f_162_0 : ftc (PT 162) 0 = some (0, .aload_n 0, 1, 0, 0, 0) := by decide +kernel
theorem f_162_1 : ftc (PT 162) 1 = some (1, .iload_n 1, 1, 0, 0, 0) := by decide +kernel
theorem f_162_2 : ftc (PT 162) 2 = some (2, .invokevirtual 193, 3, 122, 2091, 954) := by decide +kernel
theorem f_162_5 : ftc (PT 162) 5 = some (5, .aload_n 0, 1, 0, 0, 0) := by decide +kernel
theorem f_162_6 : ftc (PT 162) 6 = some (6, .iload_n 1, 1, 0, 0, 0) := by decide +kernel
theorem f_162_7 : ftc (PT 162) 7 = some (7, .iload_n 2, 1, 0, 0, 0) := by decide +kernel
theorem f_162_8 : ftc (PT 162) 8 = some (8, .invokevirtual 305, 3, 148, 3147, 1218) := by decide +kernel
theorem f_164_0 : ftc (PT 164) 0 = some (0, .aload_n 0, 1, 0, 0, 0) := by decide +kernel
theorem f_164_1 : ftc (PT 164) 1 = some (1, .iload_n 1, 1, 0, 0, 0) := by decide +kernel
theorem f_164_2 : ftc (PT 164) 2 = some (2, .invokevirtual 193, 3, 122, 2091, 954) := by decide +kernel
theorem f_164_5 : ftc (PT 164) 5 = some (5, .aload_n 0, 1, 0, 0, 0) := by decide +kernel
theorem f_164_6 : ftc (PT 164) 6 = some (6, .iload_n 1, 1, 0, 0, 0) := by decide +kernel
theorem f_164_7 : ftc (PT 164) 7 = some (7, .iload_n 2, 1, 0, 0, 0) := by decide +kernel
theorem f_164_8 : ftc (PT 164) 8 = some (8, .invokevirtual 305, 3, 148, 3147, 1218) := by decide +kernel
theorem f_165_0 : ftc (PT 165) 0 = some (0, .aload_n 0, 1, 0, 0, 0) := by decide +kernel
theorem f_165_1 : ftc (PT 165) 1 = some (1, .iload_n 1, 1, 0, 0, 0) := by decide +kernel
theorem f_165_2 : ftc (PT 165) 2 = some (2, .invokevirtual 193, 3, 122, 2091, 954) := by decide +kernel
theorem f_165_5 : ftc (PT 165) 5 = some (5, .aload_n 0, 1, 0, 0, 0) := by decide +kernel
theorem f_165_6 : ftc (PT 165) 6 = some (6, .iload_n 1, 1, 0, 0, 0) := by decide +kernel
theorem f_165_7 : ftc (PT 165) 7 = some (7, .invokevirtual 353, 3, 136, 2091, 1066) := by decide +kernel
theorem f_166_0 : ftc (PT 166) 0 = some (0, .aload_n 0, 1, 0, 0, 0) := by decide +kernel
theorem f_166_1 : ftc (PT 166) 1 = some (1, .iload_n 1, 1, 0, 0, 0) := by decide +kernel
theorem f_166_2 : ftc (PT 166) 2 = some (2, .invokevirtual 193, 3, 122, 2091, 954) := by decide +kernel
theorem f_166_5 : ftc (PT 166) 5 = some (5, .aload_n 0, 1, 0, 0, 0) := by decide +kernel
theorem f_166_6 : ftc (PT 166) 6 = some (6, .iload_n 1, 1, 0, 0, 0) := by decide +kernel
theorem f_166_7 : ftc (PT 166) 7 = some (7, .invokevirtual 353, 3, 136, 2091, 1066) := by decide +kernel
theorem f_167_0 : ftc (PT 167) 0 = some (0, .aload_n 0, 1, 0, 0, 0) := by decide +kernel
theorem f_167_1 : ftc (PT 167) 1 = some (1, .iload_n 1, 1, 0, 0, 0) := by decide +kernel
theorem f_167_2 : ftc (PT 167) 2 = some (2, .invokevirtual 193, 3, 122, 2091, 954) := by decide +kernel
theorem f_167_5 : ftc (PT 167) 5 = some (5, .aload_n 0, 1, 0, 0, 0) := by decide +kernel
theorem f_167_6 : ftc (PT 167) 6 = some (6, .iload_n 1, 1, 0, 0, 0) := by decide +kernel
theorem f_167_7 : ftc (PT 167) 7 = some (7, .invokevirtual 353, 3, 136, 2091, 1066) := by decide +kernel
theorem f_168_0 : ftc (PT 168) 0 = some (0, .aload_n 0, 1, 0, 0, 0) := by decide +kernel
theorem f_168_1 : ftc (PT 168) 1 = some (1, .iload_n 3, 1, 0, 0, 0) := by decide +kernel
theorem f_168_2 : ftc (PT 168) 2 = some (2, .iconst 4, 1, 0, 0, 0) := by decide +kernel
theorem f_168_3 : ftc (PT 168) 3 = some (3, .invokevirtual 143, 3, 120, 3147, 928) := by decide +kernel
theorem f_168_6 : ftc (PT 168) 6 = some (6, .aload_n 0, 1, 0, 0, 0) := by decide +kernel
theorem f_168_7 : ftc (PT 168) 7 = some (7, .iload_n 1, 1, 0, 0, 0) := by decide +kernel
theorem f_168_8 : ftc (PT 168) 8 = some (8, .bipush 12, 2, 0, 0, 0) := by decide +kernel
theorem f_168_10 : ftc (PT 168) 10 = some (10, .invokevirtual 367, 3, 169, 3147, 1404) := by decide +kernel
theorem f_168_13 : ftc (PT 168) 13 = some (13, .aload_n 0, 1, 0, 0, 0) := by decide +kernel
theorem f_168_14 : ftc (PT 168) 14 = some (14, .invokevirtual 370, 3, 170, 1035, 1408) := by decide +kernel
theorem f_168_17 : ftc (PT 168) 17 = some (17, .aload_n 0, 1, 0, 0, 0) := by decide +kernel
theorem f_168_18 : ftc (PT 168) 18 = some (18, .iload_n 1, 1, 0, 0, 0) := by decide +kernel
theorem f_168_19 : ftc (PT 168) 19 = some (19, .iload_n 2, 1, 0, 0, 0) := by decide +kernel
theorem f_168_20 : ftc (PT 168) 20 = some (20, .invokevirtual 373, 3, 171, 5195, 1412) := by decide +kernel
theorem f_169_0 : ftc (PT 169) 0 = some (0, .iload_n 1, 1, 0, 0, 0) := by decide +kernel
theorem f_169_1 : ftc (PT 169) 1 = some (1, .iconst 1, 1, 0, 0, 0) := by decide +kernel
theorem f_169_2 : ftc (PT 169) 2 = some (2, .if_icmp .lt 8, 3, 10, 0, 0) := by decide +kernel
theorem f_169_5 : ftc (PT 169) 5 = some (5, .iload_n 1, 1, 0, 0, 0) := by decide +kernel
theorem f_169_6 : ftc (PT 169) 6 = some (6, .iload_n 2, 1, 0, 0, 0) := by decide +kernel
theorem f_169_7 : ftc (PT 169) 7 = some (7, .if_icmp .le 11, 3, 18, 0, 0) := by decide +kernel
theorem f_169_10 : ftc (PT 169) 10 = some (10, .new 116, 3, 101, 6, 773) := by decide +kernel
theorem f_169_18 : ftc (PT 169) 18 = some (18, .return_, 1, 0, 0, 0) := by decide +kernel
theorem f_170_0 : ftc (PT 170) 0 = some (0, .aload_n 0, 1, 0, 0, 0) := by decide +kernel
theorem f_170_1 : ftc (PT 170) 1 = some (1, .getfield 19, 3, 11, 1, 469) := by decide +kernel
theorem f_170_4 : ftc (PT 170) 4 = some (4, .getfield 127, 3, 2, 3, 221) := by decide +kernel
theorem f_170_7 : ftc (PT 170) 7 = some (7, .iconst 2, 1, 0, 0, 0) := by decide +kernel
theorem f_170_8 : ftc (PT 170) 8 = some (8, .if_icmp .le 11, 3, 19, 0, 0) := by decide +kernel
theorem f_170_11 : ftc (PT 170) 11 = some (11, .new 130, 3, 102, 6, 856) := by decide +kernel
theorem f_170_19 : ftc (PT 170) 19 = some (19, .return_, 1, 0, 0, 0) := by decide +kernel
theorem f_175_0 : ftc (PT 175) 0 = some (0, .aload_n 0, 1, 0, 0, 0) := by decide +kernel
theorem f_175_1 : ftc (PT 175) 1 = some (1, .iload_n 2, 1, 0, 0, 0) := by decide +kernel
theorem f_175_2 : ftc (PT 175) 2 = some (2, .iconst 3, 1, 0, 0, 0) := by decide +kernel
theorem f_175_3 : ftc (PT 175) 3 = some (3, .invokevirtual 143, 3, 120, 3147, 928) := by decide +kernel
theorem f_175_6 : ftc (PT 175) 6 = some (6, .aload_n 0, 1, 0, 0, 0) := by decide +kernel
theorem f_175_7 : ftc (PT 175) 7 = some (7, .iload_n 1, 1, 0, 0, 0) := by decide +kernel
theorem f_175_8 : ftc (PT 175) 8 = some (8, .bipush 12, 2, 0, 0, 0) := by decide +kernel
theorem f_175_10 : ftc (PT 175) 10 = some (10, .invokevirtual 367, 3, 169, 3147, 1404) := by decide +kernel
theorem f_175_13 : ftc (PT 175) 13 = some (13, .aload_n 0, 1, 0, 0, 0) := by decide +kernel
theorem f_175_14 : ftc (PT 175) 14 = some (14, .getfield 19, 3, 11, 1, 469) := by decide +kernel
theorem f_175_17 : ftc (PT 175) 17 = some (17, .getfield 127, 3, 2, 3, 221) := by decide +kernel
theorem f_175_20 : ftc (PT 175) 20 = some (20, .ifCond .ne 11, 3, 31, 0, 0) := by decide +kernel
theorem f_175_23 : ftc (PT 175) 23 = some (23, .new 130, 3, 102, 6, 856) := by decide +kernel
theorem f_175_31 : ftc (PT 175) 31 = some (31, .aload_n 0, 1, 0, 0, 0) := by decide +kernel
theorem f_175_32 : ftc (PT 175) 32 = some (32, .iload_n 1, 1, 0, 0, 0) := by decide +kernel
theorem f_175_33 : ftc (PT 175) 33 = some (33, .invokevirtual 380, 3, 176, 3115, 1449) := by decide +kernel
theorem f_180_0 : ftc (PT 180) 0 = some (0, .aload_n 0, 1, 0, 0, 0) := by decide +kernel
theorem f_180_1 : ftc (PT 180) 1 = some (1, .getfield 55, 3, 11, 9, 477) := by decide +kernel
theorem f_180_4 : ftc (PT 180) 4 = some (4, .aload_n 0, 1, 0, 0, 0) := by decide +kernel
theorem f_180_5 : ftc (PT 180) 5 = some (5, .getfield 19, 3, 11, 1, 469) := by decide +kernel
theorem f_180_8 : ftc (PT 180) 8 = some (8, .getfield 156, 3, 2, 0, 214) := by decide +kernel
theorem f_180_11 : ftc (PT 180) 11 = some (11, .i2l, 1, 0, 0, 0) := by decide +kernel
theorem f_180_12 : ftc (PT 180) 12 = some (12, .aload_n 0, 1, 0, 0, 0) := by decide +kernel
theorem f_180_13 : ftc (PT 180) 13 = some (13, .getfield 19, 3, 11, 1, 469) := by decide +kernel
theorem f_180_16 : ftc (PT 180) 16 = some (16, .getfield 159, 3, 2, 1, 216) := by decide +kernel
theorem f_180_19 : ftc (PT 180) 19 = some (19, .i2l, 1, 0, 0, 0) := by decide +kernel
theorem f_180_20 : ftc (PT 180) 20 = some (20, .aload_n 0, 1, 0, 0, 0) := by decide +kernel
theorem f_180_21 : ftc (PT 180) 21 = some (21, .getfield 19, 3, 11, 1, 469) := by decide +kernel
theorem f_180_24 : ftc (PT 180) 24 = some (24, .getfield 162, 3, 2, 2, 218) := by decide +kernel
theorem f_180_27 : ftc (PT 180) 27 = some (27, .i2l, 1, 0, 0, 0) := by decide +kernel
theorem f_180_28 : ftc (PT 180) 28 = some (28, .invokevirtual 165, 3, 61, 7270, 1471) := by decide +kernel
theorem f_181_0 : ftc (PT 181) 0 = some (0, .aload_n 0, 1, 0, 0, 0) := by decide +kernel
theorem f_181_1 : ftc (PT 181) 1 = some (1, .iload_n 2, 1, 0, 0, 0) := by decide +kernel
theorem f_181_2 : ftc (PT 181) 2 = some (2, .iconst 5, 1, 0, 0, 0) := by decide +kernel
theorem f_181_3 : ftc (PT 181) 3 = some (3, .invokevirtual 143, 3, 120, 3147, 928) := by decide +kernel
theorem f_181_6 : ftc (PT 181) 6 = some (6, .aload_n 0, 1, 0, 0, 0) := by decide +kernel
theorem f_181_7 : ftc (PT 181) 7 = some (7, .iload_n 1, 1, 0, 0, 0) := by decide +kernel
theorem f_181_8 : ftc (PT 181) 8 = some (8, .iconst 4, 1, 0, 0, 0) := by decide +kernel
theorem f_181_9 : ftc (PT 181) 9 = some (9, .invokevirtual 367, 3, 169, 3147, 1404) := by decide +kernel
theorem f_181_12 : ftc (PT 181) 12 = some (12, .aload_n 0, 1, 0, 0, 0) := by decide +kernel
theorem f_181_13 : ftc (PT 181) 13 = some (13, .invokevirtual 370, 3, 170, 1035, 1408) := by decide +kernel
theorem f_181_16 : ftc (PT 181) 16 = some (16, .aload_n 0, 1, 0, 0, 0) := by decide +kernel
theorem f_181_17 : ftc (PT 181) 17 = some (17, .iload_n 1, 1, 0, 0, 0) := by decide +kernel
theorem f_181_18 : ftc (PT 181) 18 = some (18, .invokevirtual 392, 3, 182, 3115, 1486) := by decide +kernel
theorem f_184_0 : ftc (PT 184) 0 = some (0, .aload_n 0, 1, 0, 0, 0) := by decide +kernel
theorem f_184_1 : ftc (PT 184) 1 = some (1, .iload_n 1, 1, 0, 0, 0) := by decide +kernel
theorem f_184_2 : ftc (PT 184) 2 = some (2, .iload_n 3, 1, 0, 0, 0) := by decide +kernel
theorem f_184_3 : ftc (PT 184) 3 = some (3, .iload 4, 2, 0, 0, 0) := by decide +kernel
theorem f_184_5 : ftc (PT 184) 5 = some (5, .iload 5, 2, 0, 0, 0) := by decide +kernel
theorem f_184_7 : ftc (PT 184) 7 = some (7, .iload 6, 2, 0, 0, 0) := by decide +kernel
theorem f_184_9 : ftc (PT 184) 9 = some (9, .invokevirtual 345, 3, 185, 6315, 1501) := by decide +kernel
theorem f_185_0 : ftc (PT 185) 0 = some (0, .aload_n 0, 1, 0, 0, 0) := by decide +kernel
theorem f_185_1 : ftc (PT 185) 1 = some (1, .iload_n 1, 1, 0, 0, 0) := by decide +kernel
theorem f_185_2 : ftc (PT 185) 2 = some (2, .invokevirtual 193, 3, 122, 2091, 954) := by decide +kernel
theorem f_185_5 : ftc (PT 185) 5 = some (5, .aload_n 0, 1, 0, 0, 0) := by decide +kernel
theorem f_185_6 : ftc (PT 185) 6 = some (6, .iload_n 2, 1, 0, 0, 0) := by decide +kernel
theorem f_185_7 : ftc (PT 185) 7 = some (7, .iload_n 3, 1, 0, 0, 0) := by decide +kernel
theorem f_185_8 : ftc (PT 185) 8 = some (8, .invokevirtual 312, 3, 151, 3147, 1243) := by decide +kernel
theorem f_325_0 : ftc (PT 325) 0 = some (0, .aload_n 0, 1, 0, 0, 0) := by decide +kernel
theorem f_325_1 : ftc (PT 325) 1 = some (1, .aload_n 0, 1, 0, 0, 0) := by decide +kernel
theorem f_325_2 : ftc (PT 325) 2 = some (2, .iload_n 1, 1, 0, 0, 0) := by decide +kernel
theorem f_325_3 : ftc (PT 325) 3 = some (3, .invokevirtual 150, 3, 226, 2092, 1825) := by decide +kernel
theorem f_325_6 : ftc (PT 325) 6 = some (6, .ifCond .ne 7, 3, 13, 0, 0) := by decide +kernel
theorem f_325_9 : ftc (PT 325) 9 = some (9, .iconst 1, 1, 0, 0, 0) := by decide +kernel
theorem f_325_10 : ftc (PT 325) 10 = some (10, .goto 39, 3, 49, 0, 0) := by decide +kernel
theorem f_325_13 : ftc (PT 325) 13 = some (13, .iload 5, 2, 0, 0, 0) := by decide +kernel
theorem f_325_15 : ftc (PT 325) 15 = some (15, .iconst 0, 1, 0, 0, 0) := by decide +kernel
theorem f_325_16 : ftc (PT 325) 16 = some (16, .iconst 2, 1, 0, 0, 0) := by decide +kernel
theorem f_325_17 : ftc (PT 325) 17 = some (17, .invokestatic 62, 3, 208, 3075, 1624) := by decide +kernel
theorem f_325_20 : ftc (PT 325) 20 = some (20, .ifCond .ne 7, 3, 27, 0, 0) := by decide +kernel
theorem f_325_23 : ftc (PT 325) 23 = some (23, .iconst 2, 1, 0, 0, 0) := by decide +kernel
theorem f_325_24 : ftc (PT 325) 24 = some (24, .goto 25, 3, 49, 0, 0) := by decide +kernel
theorem f_325_27 : ftc (PT 325) 27 = some (27, .iload_n 2, 1, 0, 0, 0) := by decide +kernel
theorem f_325_28 : ftc (PT 325) 28 = some (28, .iload_n 3, 1, 0, 0, 0) := by decide +kernel
theorem f_325_29 : ftc (PT 325) 29 = some (29, .invokestatic 70, 3, 207, 2050, 1621) := by decide +kernel
theorem f_326_0 : ftc (PT 326) 0 = some (0, .aload_n 0, 1, 0, 0, 0) := by decide +kernel
theorem f_326_1 : ftc (PT 326) 1 = some (1, .iload_n 2, 1, 0, 0, 0) := by decide +kernel
theorem f_326_2 : ftc (PT 326) 2 = some (2, .iconst 0, 1, 0, 0, 0) := by decide +kernel
theorem f_326_3 : ftc (PT 326) 3 = some (3, .iconst 3, 1, 0, 0, 0) := by decide +kernel
theorem f_326_4 : ftc (PT 326) 4 = some (4, .invokestatic 62, 3, 208, 3075, 1624) := by decide +kernel
theorem f_326_7 : ftc (PT 326) 7 = some (7, .ifCond .ne 7, 3, 14, 0, 0) := by decide +kernel
theorem f_326_10 : ftc (PT 326) 10 = some (10, .iconst 1, 1, 0, 0, 0) := by decide +kernel
theorem f_326_11 : ftc (PT 326) 11 = some (11, .goto 29, 3, 40, 0, 0) := by decide +kernel
theorem f_326_14 : ftc (PT 326) 14 = some (14, .iload_n 1, 1, 0, 0, 0) := by decide +kernel
theorem f_326_15 : ftc (PT 326) 15 = some (15, .iconst 2, 1, 0, 0, 0) := by decide +kernel
theorem f_326_16 : ftc (PT 326) 16 = some (16, .iconst 3, 1, 0, 0, 0) := by decide +kernel
theorem f_326_17 : ftc (PT 326) 17 = some (17, .invokestatic 62, 3, 208, 3075, 1624) := by decide +kernel
theorem f_326_20 : ftc (PT 326) 20 = some (20, .ifCond .ne 7, 3, 27, 0, 0) := by decide +kernel
theorem f_326_23 : ftc (PT 326) 23 = some (23, .iconst 2, 1, 0, 0, 0) := by decide +kernel
theorem f_326_24 : ftc (PT 326) 24 = some (24, .goto 16, 3, 40, 0, 0) := by decide +kernel
theorem f_326_27 : ftc (PT 326) 27 = some (27, .aload_n 0, 1, 0, 0, 0) := by decide +kernel
theorem f_326_28 : ftc (PT 326) 28 = some (28, .invokevirtual 92, 3, 215, 1036, 1781) := by decide +kernel
theorem f_326_31 : ftc (PT 326) 31 = some (31, .iconst 4, 1, 0, 0, 0) := by decide +kernel
theorem f_326_32 : ftc (PT 326) 32 = some (32, .if_icmp .ne 7, 3, 39, 0, 0) := by decide +kernel
theorem f_326_35 : ftc (PT 326) 35 = some (35, .iconst 3, 1, 0, 0, 0) := by decide +kernel
theorem f_326_36 : ftc (PT 326) 36 = some (36, .goto 4, 3, 40, 0, 0) := by decide +kernel
theorem f_326_39 : ftc (PT 326) 39 = some (39, .iconst 0, 1, 0, 0, 0) := by decide +kernel
theorem f_326_40 : ftc (PT 326) 40 = some (40, .putfield 55, 3, 12, 0, 1636) := by decide +kernel
theorem f_326_43 : ftc (PT 326) 43 = some (43, .aload_n 0, 1, 0, 0, 0) := by decide +kernel
theorem f_326_44 : ftc (PT 326) 44 = some (44, .getfield 55, 3, 12, 0, 1636) := by decide +kernel
theorem f_326_47 : ftc (PT 326) 47 = some (47, .ifCond .le 5, 3, 52, 0, 0) := by decide +kernel
theorem f_326_50 : ftc (PT 326) 50 = some (50, .iconst 0, 1, 0, 0, 0) := by decide +kernel
theorem f_326_51 : ftc (PT 326) 51 = some (51, .ireturn, 1, 0, 0, 0) := by decide +kernel
theorem f_326_52 : ftc (PT 326) 52 = some (52, .aload_n 0, 1, 0, 0, 0) := by decide +kernel
theorem f_326_53 : ftc (PT 326) 53 = some (53, .invokevirtual 384, 3, 311, 1036, 2163) := by decide +kernel
theorem f_326_56 : ftc (PT 326) 56 = some (56, .iconst 0, 1, 0, 0, 0) := by decide +kernel
theorem f_326_57 : ftc (PT 326) 57 = some (57, .istore_n 3, 1, 0, 0, 0) := by decide +kernel
theorem f_328_0 : ftc (PT 328) 0 = some (0, .aload_n 0, 1, 0, 0, 0) := by decide +kernel
theorem f_328_1 : ftc (PT 328) 1 = some (1, .iconst 0, 1, 0, 0, 0) := by decide +kernel
theorem f_328_2 : ftc (PT 328) 2 = some (2, .putfield 55, 3, 12, 0, 1636) := by decide +kernel
theorem f_328_5 : ftc (PT 328) 5 = some (5, .aload_n 0, 1, 0, 0, 0) := by decide +kernel
theorem f_328_6 : ftc (PT 328) 6 = some (6, .iload_n 1, 1, 0, 0, 0) := by decide +kernel
theorem f_328_7 : ftc (PT 328) 7 = some (7, .invokevirtual 100, 3, 219, 2092, 1797) := by decide +kernel
theorem f_328_10 : ftc (PT 328) 10 = some (10, .ifCond .eq 14, 3, 24, 0, 0) := by decide +kernel
theorem f_328_13 : ftc (PT 328) 13 = some (13, .aload_n 0, 1, 0, 0, 0) := by decide +kernel
theorem f_328_14 : ftc (PT 328) 14 = some (14, .invokevirtual 445, 3, 329, 3084, 2233) := by decide +kernel
theorem f_328_24 : ftc (PT 328) 24 = some (24, .iconst (-1), 1, 0, 0, 0) := by decide +kernel
theorem f_332_0 : ftc (PT 332) 0 = some (0, .aload_n 0, 1, 0, 0, 0) := by decide +kernel
theorem f_332_1 : ftc (PT 332) 1 = some (1, .iconst 0, 1, 0, 0, 0) := by decide +kernel
theorem f_332_2 : ftc (PT 332) 2 = some (2, .putfield 55, 3, 12, 0, 1636) := by decide +kernel
theorem f_332_5 : ftc (PT 332) 5 = some (5, .aload_n 0, 1, 0, 0, 0) := by decide +kernel
theorem f_332_6 : ftc (PT 332) 6 = some (6, .invokevirtual 445, 3, 329, 3084, 2233) := by decide +kernel
theorem f_333_0 : ftc (PT 333) 0 = some (0, .aload_n 0, 1, 0, 0, 0) := by decide +kernel
theorem f_333_1 : ftc (PT 333) 1 = some (1, .iload_n 1, 1, 0, 0, 0) := by decide +kernel
theorem f_333_2 : ftc (PT 333) 2 = some (2, .iconst 0, 1, 0, 0, 0) := by decide +kernel
theorem f_333_3 : ftc (PT 333) 3 = some (3, .iconst 1, 1, 0, 0, 0) := by decide +kernel
theorem f_333_4 : ftc (PT 333) 4 = some (4, .invokestatic 62, 3, 208, 3075, 1624) := by decide +kernel
theorem f_333_7 : ftc (PT 333) 7 = some (7, .ifCond .eq 7, 3, 14, 0, 0) := by decide +kernel
theorem f_333_10 : ftc (PT 333) 10 = some (10, .iconst 0, 1, 0, 0, 0) := by decide +kernel
theorem f_333_11 : ftc (PT 333) 11 = some (11, .goto 4, 3, 15, 0, 0) := by decide +kernel
theorem f_333_14 : ftc (PT 333) 14 = some (14, .iconst 1, 1, 0, 0, 0) := by decide +kernel
theorem f_333_15 : ftc (PT 333) 15 = some (15, .putfield 55, 3, 12, 0, 1636) := by decide +kernel
theorem f_333_18 : ftc (PT 333) 18 = some (18, .aload_n 0, 1, 0, 0, 0) := by decide +kernel
theorem f_333_19 : ftc (PT 333) 19 = some (19, .getfield 55, 3, 12, 0, 1636) := by decide +kernel
theorem f_333_22 : ftc (PT 333) 22 = some (22, .ifCond .le 5, 3, 27, 0, 0) := by decide +kernel
theorem f_333_25 : ftc (PT 333) 25 = some (25, .iconst 0, 1, 0, 0, 0) := by decide +kernel
theorem f_333_26 : ftc (PT 333) 26 = some (26, .ireturn, 1, 0, 0, 0) := by decide +kernel
theorem f_333_27 : ftc (PT 333) 27 = some (27, .aload_n 0, 1, 0, 0, 0) := by decide +kernel
theorem f_333_28 : ftc (PT 333) 28 = some (28, .invokevirtual 92, 3, 215, 1036, 1781) := by decide +kernel
theorem f_333_31 : ftc (PT 333) 31 = some (31, .ifCond .ne 13, 3, 44, 0, 0) := by decide +kernel
theorem f_333_34 : ftc (PT 333) 34 = some (34, .iload_n 1, 1, 0, 0, 0) := by decide +kernel
theorem f_333_35 : ftc (PT 333) 35 = some (35, .ifCond .ne 7, 3, 42, 0, 0) := by decide +kernel
theorem f_333_38 : ftc (PT 333) 38 = some (38, .iconst (-1), 1, 0, 0, 0) := by decide +kernel
theorem f_333_39 : ftc (PT 333) 39 = some (39, .goto 4, 3, 43, 0, 0) := by decide +kernel
theorem f_333_42 : ftc (PT 333) 42 = some (42, .iconst 0, 1, 0, 0, 0) := by decide +kernel
theorem f_333_43 : ftc (PT 333) 43 = some (43, .ireturn, 1, 0, 0, 0) := by decide +kernel
theorem f_333_44 : ftc (PT 333) 44 = some (44, .aload_n 0, 1, 0, 0, 0) := by decide +kernel
theorem f_333_45 : ftc (PT 333) 45 = some (45, .aload_n 0, 1, 0, 0, 0) := by decide +kernel
theorem f_333_46 : ftc (PT 333) 46 = some (46, .invokevirtual 92, 3, 215, 1036, 1781) := by decide +kernel
theorem f_333_49 : ftc (PT 333) 49 = some (49, .invokevirtual 153, 3, 227, 3116, 1829) := by decide +kernel
theorem f_336_0 : ftc (PT 336) 0 = some (0, .aload_n 0, 1, 0, 0, 0) := by decide +kernel
theorem f_336_1 : ftc (PT 336) 1 = some (1, .iconst 0, 1, 0, 0, 0) := by decide +kernel
theorem f_336_2 : ftc (PT 336) 2 = some (2, .putfield 55, 3, 12, 0, 1636) := by decide +kernel
theorem f_336_5 : ftc (PT 336) 5 = some (5, .aload_n 0, 1, 0, 0, 0) := by decide +kernel
theorem f_336_6 : ftc (PT 336) 6 = some (6, .getfield 7, 3, 12, 1, 1637) := by decide +kernel
theorem f_336_9 : ftc (PT 336) 9 = some (9, .iconst 0, 1, 0, 0, 0) := by decide +kernel
theorem f_336_10 : ftc (PT 336) 10 = some (10, .iaload, 1, 0, 0, 0) := by decide +kernel
theorem f_336_11 : ftc (PT 336) 11 = some (11, .i2l, 1, 0, 0, 0) := by decide +kernel
theorem f_336_12 : ftc (PT 336) 12 = some (12, .lstore_n 1, 1, 0, 0, 0) := by decide +kernel
theorem f_336_13 : ftc (PT 336) 13 = some (13, .aload_n 0, 1, 0, 0, 0) := by decide +kernel
theorem f_336_14 : ftc (PT 336) 14 = some (14, .getfield 7, 3, 12, 1, 1637) := by decide +kernel
theorem f_336_17 : ftc (PT 336) 17 = some (17, .iconst 1, 1, 0, 0, 0) := by decide +kernel
theorem f_336_18 : ftc (PT 336) 18 = some (18, .iaload, 1, 0, 0, 0) := by decide +kernel
theorem f_336_19 : ftc (PT 336) 19 = some (19, .i2l, 1, 0, 0, 0) := by decide +kernel
theorem f_336_20 : ftc (PT 336) 20 = some (20, .lstore_n 3, 1, 0, 0, 0) := by decide +kernel
theorem f_336_21 : ftc (PT 336) 21 = some (21, .aload_n 0, 1, 0, 0, 0) := by decide +kernel
theorem f_336_22 : ftc (PT 336) 22 = some (22, .getfield 7, 3, 12, 1, 1637) := by decide +kernel
theorem f_336_25 : ftc (PT 336) 25 = some (25, .iconst 2, 1, 0, 0, 0) := by decide +kernel
theorem f_336_26 : ftc (PT 336) 26 = some (26, .iaload, 1, 0, 0, 0) := by decide +kernel
theorem f_336_27 : ftc (PT 336) 27 = some (27, .i2l, 1, 0, 0, 0) := by decide +kernel
theorem f_336_28 : ftc (PT 336) 28 = some (28, .lstore 5, 2, 0, 0, 0) := by decide +kernel
theorem f_336_30 : ftc (PT 336) 30 = some (30, .lload_n 1, 1, 0, 0, 0) := by decide +kernel
theorem f_336_31 : ftc (PT 336) 31 = some (31, .lload 5, 2, 0, 0, 0) := by decide +kernel
theorem f_336_33 : ftc (PT 336) 33 = some (33, .lmul, 1, 0, 0, 0) := by decide +kernel
theorem f_336_34 : ftc (PT 336) 34 = some (34, .lstore 7, 2, 0, 0, 0) := by decide +kernel
theorem f_336_36 : ftc (PT 336) 36 = some (36, .lload_n 3, 1, 0, 0, 0) := by decide +kernel
theorem f_336_37 : ftc (PT 336) 37 = some (37, .lneg, 1, 0, 0, 0) := by decide +kernel
theorem f_336_38 : ftc (PT 336) 38 = some (38, .lload 5, 2, 0, 0, 0) := by decide +kernel
theorem f_336_40 : ftc (PT 336) 40 = some (40, .lmul, 1, 0, 0, 0) := by decide +kernel
theorem f_336_41 : ftc (PT 336) 41 = some (41, .lstore 9, 2, 0, 0, 0) := by decide +kernel
theorem f_336_43 : ftc (PT 336) 43 = some (43, .lload_n 1, 1, 0, 0, 0) := by decide +kernel
theorem f_336_44 : ftc (PT 336) 44 = some (44, .lload_n 3, 1, 0, 0, 0) := by decide +kernel
theorem f_336_45 : ftc (PT 336) 45 = some (45, .invokestatic 147, 3, 235, 4098, 1857) := by decide +kernel
theorem f_336_48 : ftc (PT 336) 48 = some (48, .lstore 11, 2, 0, 0, 0) := by decide +kernel
theorem f_336_50 : ftc (PT 336) 50 = some (50, .lload 7, 2, 0, 0, 0) := by decide +kernel
theorem f_336_52 : ftc (PT 336) 52 = some (52, .lload 9, 2, 0, 0, 0) := by decide +kernel
theorem f_336_54 : ftc (PT 336) 54 = some (54, .invokestatic 66, 3, 209, 10242, 1627) := by decide +kernel
theorem f_347_0 : ftc (PT 347) 0 = some (0, .aload_n 0, 1, 0, 0, 0) := by decide +kernel
theorem f_347_1 : ftc (PT 347) 1 = some (1, .iload_n 1, 1, 0, 0, 0) := by decide +kernel
theorem f_347_2 : ftc (PT 347) 2 = some (2, .iload_n 2, 1, 0, 0, 0) := by decide +kernel
theorem f_347_3 : ftc (PT 347) 3 = some (3, .invokestatic 485, 3, 338, 2050, 2270) := by decide +kernel
theorem f_347_6 : ftc (PT 347) 6 = some (6, .ifCond .eq 7, 3, 13, 0, 0) := by decide +kernel
theorem f_347_9 : ftc (PT 347) 9 = some (9, .iconst 0, 1, 0, 0, 0) := by decide +kernel
theorem f_347_10 : ftc (PT 347) 10 = some (10, .goto 4, 3, 14, 0, 0) := by decide +kernel
theorem f_347_13 : ftc (PT 347) 13 = some (13, .iconst 1, 1, 0, 0, 0) := by decide +kernel
theorem f_347_14 : ftc (PT 347) 14 = some (14, .putfield 55, 3, 12, 0, 1636) := by decide +kernel
theorem f_347_17 : ftc (PT 347) 17 = some (17, .aload_n 0, 1, 0, 0, 0) := by decide +kernel
theorem f_347_18 : ftc (PT 347) 18 = some (18, .getfield 55, 3, 12, 0, 1636) := by decide +kernel
theorem f_347_21 : ftc (PT 347) 21 = some (21, .ifCond .ne 16, 3, 37, 0, 0) := by decide +kernel
theorem f_347_24 : ftc (PT 347) 24 = some (24, .aload_n 0, 1, 0, 0, 0) := by decide +kernel
theorem f_347_25 : ftc (PT 347) 25 = some (25, .iload_n 1, 1, 0, 0, 0) := by decide +kernel
theorem f_347_26 : ftc (PT 347) 26 = some (26, .iload_n 2, 1, 0, 0, 0) := by decide +kernel
theorem f_347_27 : ftc (PT 347) 27 = some (27, .invokevirtual 496, 3, 348, 3148, 2312) := by decide +kernel
theorem f_350_0 : ftc (PT 350) 0 = some (0, .aload_n 0, 1, 0, 0, 0) := by decide +kernel
theorem f_350_1 : ftc (PT 350) 1 = some (1, .iconst 0, 1, 0, 0, 0) := by decide +kernel
theorem f_350_2 : ftc (PT 350) 2 = some (2, .putfield 55, 3, 12, 0, 1636) := by decide +kernel
theorem f_350_5 : ftc (PT 350) 5 = some (5, .aload_n 0, 1, 0, 0, 0) := by decide +kernel
theorem f_350_6 : ftc (PT 350) 6 = some (6, .invokevirtual 499, 3, 351, 2060, 2324) := by decide +kernel
theorem f_352_0 : ftc (PT 352) 0 = some (0, .aload_n 0, 1, 0, 0, 0) := by decide +kernel
theorem f_352_1 : ftc (PT 352) 1 = some (1, .iload_n 1, 1, 0, 0, 0) := by decide +kernel
theorem f_352_2 : ftc (PT 352) 2 = some (2, .iconst 0, 1, 0, 0, 0) := by decide +kernel
theorem f_352_3 : ftc (PT 352) 3 = some (3, .iconst 2, 1, 0, 0, 0) := by decide +kernel
theorem f_352_4 : ftc (PT 352) 4 = some (4, .invokestatic 62, 3, 208, 3075, 1624) := by decide +kernel
theorem f_352_7 : ftc (PT 352) 7 = some (7, .ifCond .eq 7, 3, 14, 0, 0) := by decide +kernel
theorem f_352_10 : ftc (PT 352) 10 = some (10, .iconst 0, 1, 0, 0, 0) := by decide +kernel
theorem f_352_11 : ftc (PT 352) 11 = some (11, .goto 4, 3, 15, 0, 0) := by decide +kernel
theorem f_352_14 : ftc (PT 352) 14 = some (14, .iconst 1, 1, 0, 0, 0) := by decide +kernel
theorem f_352_15 : ftc (PT 352) 15 = some (15, .putfield 55, 3, 12, 0, 1636) := by decide +kernel
theorem f_352_18 : ftc (PT 352) 18 = some (18, .aload_n 0, 1, 0, 0, 0) := by decide +kernel
theorem f_352_19 : ftc (PT 352) 19 = some (19, .getfield 55, 3, 12, 0, 1636) := by decide +kernel
theorem f_352_22 : ftc (PT 352) 22 = some (22, .ifCond .le 5, 3, 27, 0, 0) := by decide +kernel
theorem f_352_25 : ftc (PT 352) 25 = some (25, .lconst 0, 1, 0, 0, 0) := by decide +kernel
theorem f_352_26 : ftc (PT 352) 26 = some (26, .lreturn, 1, 0, 0, 0) := by decide +kernel
theorem f_352_27 : ftc (PT 352) 27 = some (27, .aload_n 0, 1, 0, 0, 0) := by decide +kernel
theorem f_352_28 : ftc (PT 352) 28 = some (28, .invokevirtual 505, 3, 353, 10252, 2332) := by decide +kernel
theorem f_354_0 : ftc (PT 354) 0 = some (0, .aload_n 0, 1, 0, 0, 0) := by decide +kernel
theorem f_354_1 : ftc (PT 354) 1 = some (1, .iload_n 1, 1, 0, 0, 0) := by decide +kernel
theorem f_354_2 : ftc (PT 354) 2 = some (2, .invokestatic 508, 3, 355, 1025, 2340) := by decide +kernel
theorem f_354_5 : ftc (PT 354) 5 = some (5, .ifCond .eq 7, 3, 12, 0, 0) := by decide +kernel
theorem f_354_8 : ftc (PT 354) 8 = some (8, .iconst 0, 1, 0, 0, 0) := by decide +kernel
theorem f_354_9 : ftc (PT 354) 9 = some (9, .goto 4, 3, 13, 0, 0) := by decide +kernel
theorem f_354_12 : ftc (PT 354) 12 = some (12, .iconst 1, 1, 0, 0, 0) := by decide +kernel
theorem f_354_13 : ftc (PT 354) 13 = some (13, .putfield 55, 3, 12, 0, 1636) := by decide +kernel
theorem f_354_16 : ftc (PT 354) 16 = some (16, .aload_n 0, 1, 0, 0, 0) := by decide +kernel
theorem f_354_17 : ftc (PT 354) 17 = some (17, .getfield 55, 3, 12, 0, 1636) := by decide +kernel
theorem f_354_20 : ftc (PT 354) 20 = some (20, .ifCond .le 5, 3, 25, 0, 0) := by decide +kernel
theorem f_354_23 : ftc (PT 354) 23 = some (23, .iconst 0, 1, 0, 0, 0) := by decide +kernel
theorem f_354_24 : ftc (PT 354) 24 = some (24, .ireturn, 1, 0, 0, 0) := by decide +kernel
theorem f_354_25 : ftc (PT 354) 25 = some (25, .iconst 0, 1, 0, 0, 0) := by decide +kernel
theorem f_354_26 : ftc (PT 354) 26 = some (26, .istore_n 2, 1, 0, 0, 0) := by decide +kernel
theorem f_355_0 : ftc (PT 355) 0 = some (0, .iload_n 0, 1, 0, 0, 0) := by decide +kernel
theorem f_355_1 : ftc (PT 355) 1 = some (1, .iconst 0, 1, 0, 0, 0) := by decide +kernel
theorem f_355_2 : ftc (PT 355) 2 = some (2, .iconst 3, 1, 0, 0, 0) := by decide +kernel
theorem f_355_3 : ftc (PT 355) 3 = some (3, .invokestatic 62, 3, 208, 3075, 1624) := by decide +kernel
theorem f_355_6 : ftc (PT 355) 6 = some (6, .ireturn, 1, 1, 0, 0) := by decide +kernel
theorem f_356_0 : ftc (PT 356) 0 = some (0, .aload_n 0, 1, 0, 0, 0) := by decide +kernel
theorem f_356_1 : ftc (PT 356) 1 = some (1, .iload_n 1, 1, 0, 0, 0) := by decide +kernel
theorem f_356_2 : ftc (PT 356) 2 = some (2, .invokestatic 508, 3, 355, 1025, 2340) := by decide +kernel
theorem f_356_5 : ftc (PT 356) 5 = some (5, .ifCond .ne 7, 3, 12, 0, 0) := by decide +kernel
theorem f_356_8 : ftc (PT 356) 8 = some (8, .iconst 1, 1, 0, 0, 0) := by decide +kernel
theorem f_356_9 : ftc (PT 356) 9 = some (9, .goto 16, 3, 25, 0, 0) := by decide +kernel
theorem f_356_12 : ftc (PT 356) 12 = some (12, .aload_n 0, 1, 0, 0, 0) := by decide +kernel
theorem f_356_13 : ftc (PT 356) 13 = some (13, .iload_n 1, 1, 0, 0, 0) := by decide +kernel
theorem f_356_14 : ftc (PT 356) 14 = some (14, .invokevirtual 511, 3, 357, 2092, 2347) := by decide +kernel
theorem f_356_17 : ftc (PT 356) 17 = some (17, .ifCond .ne 7, 3, 24, 0, 0) := by decide +kernel
theorem f_356_20 : ftc (PT 356) 20 = some (20, .iconst 2, 1, 0, 0, 0) := by decide +kernel
theorem f_356_21 : ftc (PT 356) 21 = some (21, .goto 4, 3, 25, 0, 0) := by decide +kernel
theorem f_356_24 : ftc (PT 356) 24 = some (24, .iconst 0, 1, 0, 0, 0) := by decide +kernel
theorem f_356_25 : ftc (PT 356) 25 = some (25, .putfield 55, 3, 12, 0, 1636) := by decide +kernel
theorem f_356_28 : ftc (PT 356) 28 = some (28, .aload_n 0, 1, 0, 0, 0) := by decide +kernel
theorem f_356_29 : ftc (PT 356) 29 = some (29, .getfield 55, 3, 12, 0, 1636) := by decide +kernel
theorem f_356_32 : ftc (PT 356) 32 = some (32, .ifCond .le 5, 3, 37, 0, 0) := by decide +kernel
theorem f_356_35 : ftc (PT 356) 35 = some (35, .iconst 0, 1, 0, 0, 0) := by decide +kernel
theorem f_356_36 : ftc (PT 356) 36 = some (36, .ireturn, 1, 0, 0, 0) := by decide +kernel
theorem f_356_37 : ftc (PT 356) 37 = some (37, .aload_n 0, 1, 0, 0, 0) := by decide +kernel
theorem f_356_38 : ftc (PT 356) 38 = some (38, .iload_n 1, 1, 0, 0, 0) := by decide +kernel
theorem f_356_39 : ftc (PT 356) 39 = some (39, .invokevirtual 514, 3, 358, 3116, 2351) := by decide +kernel
theorem f_359_0 : ftc (PT 359) 0 = some (0, .aload_n 0, 1, 0, 0, 0) := by decide +kernel
theorem f_359_1 : ftc (PT 359) 1 = some (1, .iconst 0, 1, 0, 0, 0) := by decide +kernel
theorem f_359_2 : ftc (PT 359) 2 = some (2, .putfield 55, 3, 12, 0, 1636) := by decide +kernel
theorem f_359_5 : ftc (PT 359) 5 = some (5, .aload_n 0, 1, 0, 0, 0) := by decide +kernel
theorem f_359_6 : ftc (PT 359) 6 = some (6, .invokevirtual 517, 3, 360, 2060, 2359) := by decide +kernel
theorem f_362_0 : ftc (PT 362) 0 = some (0, .aload_n 0, 1, 0, 0, 0) := by decide +kernel
theorem f_362_1 : ftc (PT 362) 1 = some (1, .iconst 0, 1, 0, 0, 0) := by decide +kernel
theorem f_362_2 : ftc (PT 362) 2 = some (2, .putfield 55, 3, 12, 0, 1636) := by decide +kernel
theorem f_362_5 : ftc (PT 362) 5 = some (5, .iload_n 1, 1, 0, 0, 0) := by decide +kernel
theorem f_362_6 : ftc (PT 362) 6 = some (6, .tableswitch 118 0 9 #[54, 59, 66, 73, 80, 85, 90, 95, 108, 113], 54, 0, 0, 0) := by decide +kernel
theorem f_362_60 : ftc (PT 362) 60 = some (60, .aload_n 0, 1, 0, 0, 0) := by decide +kernel
theorem f_362_61 : ftc (PT 362) 61 = some (61, .invokevirtual 92, 3, 215, 1036, 1781) := by decide +kernel
theorem f_362_64 : ftc (PT 362) 64 = some (64, .ireturn, 1, 0, 0, 0) := by decide +kernel
theorem f_362_65 : ftc (PT 362) 65 = some (65, .aload_n 0, 1, 0, 0, 0) := by decide +kernel
theorem f_362_66 : ftc (PT 362) 66 = some (66, .getfield 7, 3, 12, 1, 1637) := by decide +kernel
theorem f_362_69 : ftc (PT 362) 69 = some (69, .iconst 0, 1, 0, 0, 0) := by decide +kernel
theorem f_362_70 : ftc (PT 362) 70 = some (70, .iaload, 1, 0, 0, 0) := by decide +kernel
theorem f_362_71 : ftc (PT 362) 71 = some (71, .ireturn, 1, 0, 0, 0) := by decide +kernel
theorem f_362_72 : ftc (PT 362) 72 = some (72, .aload_n 0, 1, 0, 0, 0) := by decide +kernel
theorem f_362_73 : ftc (PT 362) 73 = some (73, .getfield 7, 3, 12, 1, 1637) := by decide +kernel
theorem f_362_76 : ftc (PT 362) 76 = some (76, .iconst 1, 1, 0, 0, 0) := by decide +kernel
theorem f_362_77 : ftc (PT 362) 77 = some (77, .iaload, 1, 0, 0, 0) := by decide +kernel
theorem f_362_78 : ftc (PT 362) 78 = some (78, .ireturn, 1, 0, 0, 0) := by decide +kernel
theorem f_362_79 : ftc (PT 362) 79 = some (79, .aload_n 0, 1, 0, 0, 0) := by decide +kernel
theorem f_362_80 : ftc (PT 362) 80 = some (80, .getfield 7, 3, 12, 1, 1637) := by decide +kernel
theorem f_362_83 : ftc (PT 362) 83 = some (83, .iconst 2, 1, 0, 0, 0) := by decide +kernel
theorem f_362_84 : ftc (PT 362) 84 = some (84, .iaload, 1, 0, 0, 0) := by decide +kernel
theorem f_362_85 : ftc (PT 362) 85 = some (85, .ireturn, 1, 0, 0, 0) := by decide +kernel
theorem f_362_86 : ftc (PT 362) 86 = some (86, .aload_n 0, 1, 0, 0, 0) := by decide +kernel
theorem f_362_87 : ftc (PT 362) 87 = some (87, .getfield 44, 3, 12, 3, 1639) := by decide +kernel
theorem f_362_90 : ftc (PT 362) 90 = some (90, .ireturn, 1, 0, 0, 0) := by decide +kernel
theorem f_362_91 : ftc (PT 362) 91 = some (91, .aload_n 0, 1, 0, 0, 0) := by decide +kernel
theorem f_362_92 : ftc (PT 362) 92 = some (92, .getfield 48, 3, 12, 4, 1640) := by decide +kernel
theorem f_362_95 : ftc (PT 362) 95 = some (95, .ireturn, 1, 0, 0, 0) := by decide +kernel
theorem f_362_96 : ftc (PT 362) 96 = some (96, .aload_n 0, 1, 0, 0, 0) := by decide +kernel
theorem f_362_97 : ftc (PT 362) 97 = some (97, .invokevirtual 523, 3, 363, 3084, 2371) := by decide +kernel
theorem f_362_101 : ftc (PT 362) 101 = some (101, .aload_n 0, 1, 0, 0, 0) := by decide +kernel
theorem f_362_102 : ftc (PT 362) 102 = some (102, .invokevirtual 526, 3, 364, 1036, 2375) := by decide +kernel
theorem f_362_114 : ftc (PT 362) 114 = some (114, .aload_n 0, 1, 0, 0, 0) := by decide +kernel
theorem f_362_115 : ftc (PT 362) 115 = some (115, .invokevirtual 529, 3, 365, 2060, 2379) := by decide +kernel
theorem f_362_119 : ftc (PT 362) 119 = some (119, .aload_n 0, 1, 0, 0, 0) := by decide +kernel
theorem f_362_120 : ftc (PT 362) 120 = some (120, .invokevirtual 532, 3, 366, 3084, 2383) := by decide +kernel
theorem f_362_124 : ftc (PT 362) 124 = some (124, .iconst (-1), 1, 0, 0, 0) := by decide +kernel
theorem f_362_125 : ftc (PT 362) 125 = some (125, .ireturn, 1, 0, 0, 0) := by decide +kernel
theorem f_363_0 : ftc (PT 363) 0 = some (0, .iconst 0, 1, 0, 0, 0) := by decide +kernel
theorem f_363_1 : ftc (PT 363) 1 = some (1, .istore_n 1, 1, 0, 0, 0) := by decide +kernel
theorem f_363_2 : ftc (PT 363) 2 = some (2, .iconst 0, 1, 0, 0, 0) := by decide +kernel
theorem f_363_3 : ftc (PT 363) 3 = some (3, .istore_n 2, 1, 0, 0, 0) := by decide +kernel
theorem f_364_0 : ftc (PT 364) 0 = some (0, .aload_n 0, 1, 0, 0, 0) := by decide +kernel
theorem f_364_1 : ftc (PT 364) 1 = some (1, .aload_n 0, 1, 0, 0, 0) := by decide +kernel
theorem f_364_2 : ftc (PT 364) 2 = some (2, .invokevirtual 92, 3, 215, 1036, 1781) := by decide +kernel
theorem f_364_5 : ftc (PT 364) 5 = some (5, .invokevirtual 153, 3, 227, 3116, 1829) := by decide +kernel
theorem f_365_0 : ftc (PT 365) 0 = some (0, .iconst 3, 1, 0, 0, 0) := by decide +kernel
theorem f_365_1 : ftc (PT 365) 1 = some (1, .istore_n 1, 1, 0, 0, 0) := by decide +kernel
theorem f_366_0 : ftc (PT 366) 0 = some (0, .iconst 0, 1, 0, 0, 0) := by decide +kernel
theorem f_366_1 : ftc (PT 366) 1 = some (1, .istore_n 1, 1, 0, 0, 0) := by decide +kernel
theorem f_366_2 : ftc (PT 366) 2 = some (2, .iconst 1, 1, 0, 0, 0) := by decide +kernel
theorem f_366_3 : ftc (PT 366) 3 = some (3, .istore_n 2, 1, 0, 0, 0) := by decide +kernel
theorem f_367_0 : ftc (PT 367) 0 = some (0, .aload_n 0, 1, 0, 0, 0) := by decide +kernel
theorem f_367_1 : ftc (PT 367) 1 = some (1, .iload_n 1, 1, 0, 0, 0) := by decide +kernel
theorem f_367_2 : ftc (PT 367) 2 = some (2, .iload_n 2, 1, 0, 0, 0) := by decide +kernel
theorem f_367_3 : ftc (PT 367) 3 = some (3, .iload_n 3, 1, 0, 0, 0) := by decide +kernel
theorem f_367_4 : ftc (PT 367) 4 = some (4, .invokevirtual 7, 3, 110, 4203, 766) := by decide +kernel
theorem f_367_7 : ftc (PT 367) 7 = some (7, .goto 7, 3, 14, 0, 0) := by decide +kernel
theorem f_367_14 : ftc (PT 367) 14 = some (14, .iconst 0, 1, 0, 0, 0) := by decide +kernel
theorem f_367_15 : ftc (PT 367) 15 = some (15, .ireturn, 1, 0, 0, 0) := by decide +kernel
theorem f_368_0 : ftc (PT 368) 0 = some (0, .aload 4, 2, 0, 0, 0) := by decide +kernel
theorem f_368_2 : ftc (PT 368) 2 = some (2, .iconst 0, 1, 0, 0, 0) := by decide +kernel
theorem f_368_3 : ftc (PT 368) 3 = some (3, .aload_n 0, 1, 0, 0, 0) := by decide +kernel
theorem f_368_4 : ftc (PT 368) 4 = some (4, .iload_n 1, 1, 0, 0, 0) := by decide +kernel
theorem f_368_5 : ftc (PT 368) 5 = some (5, .iload_n 2, 1, 0, 0, 0) := by decide +kernel
theorem f_368_6 : ftc (PT 368) 6 = some (6, .iload_n 3, 1, 0, 0, 0) := by decide +kernel
theorem f_368_7 : ftc (PT 368) 7 = some (7, .invokevirtual 15, 3, 112, 4203, 842) := by decide +kernel
theorem f_369_0 : ftc (PT 369) 0 = some (0, .aload_n 1, 1, 0, 0, 0) := by decide +kernel
theorem f_369_1 : ftc (PT 369) 1 = some (1, .iconst 0, 1, 0, 0, 0) := by decide +kernel
theorem f_369_2 : ftc (PT 369) 2 = some (2, .aload_n 0, 1, 0, 0, 0) := by decide +kernel
theorem f_369_3 : ftc (PT 369) 3 = some (3, .invokevirtual 21, 3, 115, 1035, 878) := by decide +kernel
theorem f_369_6 : ftc (PT 369) 6 = some (6, .i2l, 1, 0, 0, 0) := by decide +kernel
theorem f_369_7 : ftc (PT 369) 7 = some (7, .lastore, 1, 0, 0, 0) := by decide +kernel
theorem f_369_8 : ftc (PT 369) 8 = some (8, .goto 6, 3, 14, 0, 0) := by decide +kernel
theorem f_369_14 : ftc (PT 369) 14 = some (14, .iconst 0, 1, 0, 0, 0) := by decide +kernel
theorem f_369_15 : ftc (PT 369) 15 = some (15, .ireturn, 1, 0, 0, 0) := by decide +kernel
theorem f_370_0 : ftc (PT 370) 0 = some (0, .aload_n 0, 1, 0, 0, 0) := by decide +kernel
theorem f_370_1 : ftc (PT 370) 1 = some (1, .iload_n 1, 1, 0, 0, 0) := by decide +kernel
theorem f_370_2 : ftc (PT 370) 2 = some (2, .iload_n 2, 1, 0, 0, 0) := by decide +kernel
theorem f_370_3 : ftc (PT 370) 3 = some (3, .iload_n 3, 1, 0, 0, 0) := by decide +kernel
theorem f_370_4 : ftc (PT 370) 4 = some (4, .invokevirtual 25, 3, 116, 4203, 886) := by decide +kernel
theorem f_371_0 : ftc (PT 371) 0 = some (0, .aload_n 0, 1, 0, 0, 0) := by decide +kernel
theorem f_371_1 : ftc (PT 371) 1 = some (1, .iload_n 1, 1, 0, 0, 0) := by decide +kernel
theorem f_371_2 : ftc (PT 371) 2 = some (2, .iload_n 2, 1, 0, 0, 0) := by decide +kernel
theorem f_371_3 : ftc (PT 371) 3 = some (3, .invokevirtual 30, 3, 118, 3147, 916) := by decide +kernel
theorem f_371_6 : ftc (PT 371) 6 = some (6, .goto 6, 3, 12, 0, 0) := by decide +kernel
theorem f_371_12 : ftc (PT 371) 12 = some (12, .iconst 0, 1, 0, 0, 0) := by decide +kernel
theorem f_371_13 : ftc (PT 371) 13 = some (13, .ireturn, 1, 0, 0, 0) := by decide +kernel
theorem f_372_0 : ftc (PT 372) 0 = some (0, .aload_n 3, 1, 0, 0, 0) := by decide +kernel
theorem f_372_1 : ftc (PT 372) 1 = some (1, .iconst 0, 1, 0, 0, 0) := by decide +kernel
theorem f_372_2 : ftc (PT 372) 2 = some (2, .aload_n 0, 1, 0, 0, 0) := by decide +kernel
theorem f_372_3 : ftc (PT 372) 3 = some (3, .iload_n 1, 1, 0, 0, 0) := by decide +kernel
theorem f_372_4 : ftc (PT 372) 4 = some (4, .iload_n 2, 1, 0, 0, 0) := by decide +kernel
theorem f_372_5 : ftc (PT 372) 5 = some (5, .invokevirtual 34, 3, 119, 3147, 924) := by decide +kernel
theorem f_373_0 : ftc (PT 373) 0 = some (0, .aload 4, 2, 0, 0, 0) := by decide +kernel
theorem f_373_2 : ftc (PT 373) 2 = some (2, .iconst 0, 1, 0, 0, 0) := by decide +kernel
theorem f_373_3 : ftc (PT 373) 3 = some (3, .aload_n 0, 1, 0, 0, 0) := by decide +kernel
theorem f_373_4 : ftc (PT 373) 4 = some (4, .iload_n 1, 1, 0, 0, 0) := by decide +kernel
theorem f_373_5 : ftc (PT 373) 5 = some (5, .iload_n 2, 1, 0, 0, 0) := by decide +kernel
theorem f_373_6 : ftc (PT 373) 6 = some (6, .iload_n 3, 1, 0, 0, 0) := by decide +kernel
theorem f_373_7 : ftc (PT 373) 7 = some (7, .invokevirtual 40, 3, 121, 4203, 950) := by decide +kernel
theorem f_374_0 : ftc (PT 374) 0 = some (0, .aload_n 2, 1, 0, 0, 0) := by decide +kernel
theorem f_374_1 : ftc (PT 374) 1 = some (1, .iconst 0, 1, 0, 0, 0) := by decide +kernel
theorem f_374_2 : ftc (PT 374) 2 = some (2, .aload_n 0, 1, 0, 0, 0) := by decide +kernel
theorem f_374_3 : ftc (PT 374) 3 = some (3, .iload_n 1, 1, 0, 0, 0) := by decide +kernel
theorem f_374_4 : ftc (PT 374) 4 = some (4, .invokevirtual 44, 3, 123, 2091, 981) := by decide +kernel
theorem f_375_0 : ftc (PT 375) 0 = some (0, .aload_n 3, 1, 0, 0, 0) := by decide +kernel
theorem f_375_1 : ftc (PT 375) 1 = some (1, .iconst 0, 1, 0, 0, 0) := by decide +kernel
theorem f_375_2 : ftc (PT 375) 2 = some (2, .aload_n 0, 1, 0, 0, 0) := by decide +kernel
theorem f_375_3 : ftc (PT 375) 3 = some (3, .iload_n 1, 1, 0, 0, 0) := by decide +kernel
theorem f_375_4 : ftc (PT 375) 4 = some (4, .iload_n 2, 1, 0, 0, 0) := by decide +kernel
theorem f_375_5 : ftc (PT 375) 5 = some (5, .invokevirtual 48, 3, 124, 3147, 988) := by decide +kernel
theorem f_376_0 : ftc (PT 376) 0 = some (0, .aload_n 3, 1, 0, 0, 0) := by decide +kernel
theorem f_376_1 : ftc (PT 376) 1 = some (1, .iconst 0, 1, 0, 0, 0) := by decide +kernel
theorem f_376_2 : ftc (PT 376) 2 = some (2, .aload_n 0, 1, 0, 0, 0) := by decide +kernel
theorem f_376_3 : ftc (PT 376) 3 = some (3, .iload_n 1, 1, 0, 0, 0) := by decide +kernel
theorem f_376_4 : ftc (PT 376) 4 = some (4, .iload_n 2, 1, 0, 0, 0) := by decide +kernel
theorem f_376_5 : ftc (PT 376) 5 = some (5, .invokevirtual 52, 3, 125, 3147, 995) := by decide +kernel
theorem f_377_0 : ftc (PT 377) 0 = some (0, .aload_n 3, 1, 0, 0, 0) := by decide +kernel
theorem f_377_1 : ftc (PT 377) 1 = some (1, .iconst 0, 1, 0, 0, 0) := by decide +kernel
theorem f_377_2 : ftc (PT 377) 2 = some (2, .aload_n 0, 1, 0, 0, 0) := by decide +kernel
theorem f_377_3 : ftc (PT 377) 3 = some (3, .iload_n 1, 1, 0, 0, 0) := by decide +kernel
theorem f_377_4 : ftc (PT 377) 4 = some (4, .iload_n 2, 1, 0, 0, 0) := by decide +kernel
theorem f_377_5 : ftc (PT 377) 5 = some (5, .invokevirtual 56, 3, 129, 3147, 1018) := by decide +kernel
theorem f_378_0 : ftc (PT 378) 0 = some (0, .aload 4, 2, 0, 0, 0) := by decide +kernel
theorem f_378_2 : ftc (PT 378) 2 = some (2, .iconst 0, 1, 0, 0, 0) := by decide +kernel
theorem f_378_3 : ftc (PT 378) 3 = some (3, .aload_n 0, 1, 0, 0, 0) := by decide +kernel
theorem f_378_4 : ftc (PT 378) 4 = some (4, .iload_n 1, 1, 0, 0, 0) := by decide +kernel
theorem f_378_5 : ftc (PT 378) 5 = some (5, .iload_n 2, 1, 0, 0, 0) := by decide +kernel
theorem f_378_6 : ftc (PT 378) 6 = some (6, .iload_n 3, 1, 0, 0, 0) := by decide +kernel
theorem f_378_7 : ftc (PT 378) 7 = some (7, .invokevirtual 60, 3, 130, 8299, 1025) := by decide +kernel
theorem f_379_0 : ftc (PT 379) 0 = some (0, .aload 5, 2, 0, 0, 0) := by decide +kernel
theorem f_379_2 : ftc (PT 379) 2 = some (2, .iconst 0, 1, 0, 0, 0) := by decide +kernel
theorem f_379_3 : ftc (PT 379) 3 = some (3, .aload_n 0, 1, 0, 0, 0) := by decide +kernel
theorem f_379_4 : ftc (PT 379) 4 = some (4, .iload_n 1, 1, 0, 0, 0) := by decide +kernel
theorem f_379_5 : ftc (PT 379) 5 = some (5, .iload_n 2, 1, 0, 0, 0) := by decide +kernel
theorem f_379_6 : ftc (PT 379) 6 = some (6, .iload_n 3, 1, 0, 0, 0) := by decide +kernel
theorem f_379_7 : ftc (PT 379) 7 = some (7, .iload 4, 2, 0, 0, 0) := by decide +kernel
theorem f_379_9 : ftc (PT 379) 9 = some (9, .invokevirtual 64, 3, 131, 5259, 1035) := by decide +kernel
theorem f_380_0 : ftc (PT 380) 0 = some (0, .aload 6, 2, 0, 0, 0) := by decide +kernel
theorem f_380_2 : ftc (PT 380) 2 = some (2, .iconst 0, 1, 0, 0, 0) := by decide +kernel
theorem f_380_3 : ftc (PT 380) 3 = some (3, .aload_n 0, 1, 0, 0, 0) := by decide +kernel
theorem f_380_4 : ftc (PT 380) 4 = some (4, .iload_n 1, 1, 0, 0, 0) := by decide +kernel
theorem f_380_5 : ftc (PT 380) 5 = some (5, .iload_n 2, 1, 0, 0, 0) := by decide +kernel
theorem f_380_6 : ftc (PT 380) 6 = some (6, .iload_n 3, 1, 0, 0, 0) := by decide +kernel
theorem f_380_7 : ftc (PT 380) 7 = some (7, .iload 4, 2, 0, 0, 0) := by decide +kernel
theorem f_380_9 : ftc (PT 380) 9 = some (9, .iload 5, 2, 0, 0, 0) := by decide +kernel
theorem f_380_11 : ftc (PT 380) 11 = some (11, .invokevirtual 68, 3, 132, 6315, 1042) := by decide +kernel
theorem f_381_0 : ftc (PT 381) 0 = some (0, .aload 5, 2, 0, 0, 0) := by decide +kernel
theorem f_381_2 : ftc (PT 381) 2 = some (2, .iconst 0, 1, 0, 0, 0) := by decide +kernel
theorem f_381_3 : ftc (PT 381) 3 = some (3, .aload_n 0, 1, 0, 0, 0) := by decide +kernel
theorem f_381_4 : ftc (PT 381) 4 = some (4, .iload_n 1, 1, 0, 0, 0) := by decide +kernel
theorem f_381_5 : ftc (PT 381) 5 = some (5, .iload_n 2, 1, 0, 0, 0) := by decide +kernel
theorem f_381_6 : ftc (PT 381) 6 = some (6, .iload_n 3, 1, 0, 0, 0) := by decide +kernel
theorem f_381_7 : ftc (PT 381) 7 = some (7, .iload 4, 2, 0, 0, 0) := by decide +kernel
theorem f_381_9 : ftc (PT 381) 9 = some (9, .invokevirtual 72, 3, 133, 5259, 1050) := by decide +kernel
theorem f_382_0 : ftc (PT 382) 0 = some (0, .aload_n 3, 1, 0, 0, 0) := by decide +kernel
theorem f_382_1 : ftc (PT 382) 1 = some (1, .iconst 0, 1, 0, 0, 0) := by decide +kernel
theorem f_382_2 : ftc (PT 382) 2 = some (2, .aload_n 0, 1, 0, 0, 0) := by decide +kernel
theorem f_382_3 : ftc (PT 382) 3 = some (3, .iload_n 1, 1, 0, 0, 0) := by decide +kernel
theorem f_382_4 : ftc (PT 382) 4 = some (4, .iload_n 2, 1, 0, 0, 0) := by decide +kernel
theorem f_382_5 : ftc (PT 382) 5 = some (5, .invokevirtual 76, 3, 134, 3147, 1058) := by decide +kernel
theorem f_383_0 : ftc (PT 383) 0 = some (0, .aload 4, 2, 0, 0, 0) := by decide +kernel
theorem f_383_2 : ftc (PT 383) 2 = some (2, .iconst 0, 1, 0, 0, 0) := by decide +kernel
theorem f_383_3 : ftc (PT 383) 3 = some (3, .aload_n 0, 1, 0, 0, 0) := by decide +kernel
theorem f_383_4 : ftc (PT 383) 4 = some (4, .iload_n 1, 1, 0, 0, 0) := by decide +kernel
theorem f_383_5 : ftc (PT 383) 5 = some (5, .iload_n 2, 1, 0, 0, 0) := by decide +kernel
theorem f_383_6 : ftc (PT 383) 6 = some (6, .iload_n 3, 1, 0, 0, 0) := by decide +kernel
theorem f_383_7 : ftc (PT 383) 7 = some (7, .invokevirtual 79, 3, 137, 4203, 1117) := by decide +kernel
theorem f_384_0 : ftc (PT 384) 0 = some (0, .aload 5, 2, 0, 0, 0) := by decide +kernel
theorem f_384_2 : ftc (PT 384) 2 = some (2, .iconst 0, 1, 0, 0, 0) := by decide +kernel
theorem f_384_3 : ftc (PT 384) 3 = some (3, .aload_n 0, 1, 0, 0, 0) := by decide +kernel
theorem f_384_4 : ftc (PT 384) 4 = some (4, .iload_n 1, 1, 0, 0, 0) := by decide +kernel
theorem f_384_5 : ftc (PT 384) 5 = some (5, .iload_n 2, 1, 0, 0, 0) := by decide +kernel
theorem f_384_6 : ftc (PT 384) 6 = some (6, .iload_n 3, 1, 0, 0, 0) := by decide +kernel
theorem f_384_7 : ftc (PT 384) 7 = some (7, .iload 4, 2, 0, 0, 0) := by decide +kernel
theorem f_384_9 : ftc (PT 384) 9 = some (9, .invokevirtual 83, 3, 139, 5259, 1128) := by decide +kernel
theorem f_385_0 : ftc (PT 385) 0 = some (0, .aload 4, 2, 0, 0, 0) := by decide +kernel
theorem f_385_2 : ftc (PT 385) 2 = some (2, .iconst 0, 1, 0, 0, 0) := by decide +kernel
theorem f_385_3 : ftc (PT 385) 3 = some (3, .aload_n 0, 1, 0, 0, 0) := by decide +kernel
theorem f_385_4 : ftc (PT 385) 4 = some (4, .iload_n 1, 1, 0, 0, 0) := by decide +kernel
theorem f_385_5 : ftc (PT 385) 5 = some (5, .iload_n 2, 1, 0, 0, 0) := by decide +kernel
theorem f_385_6 : ftc (PT 385) 6 = some (6, .iload_n 3, 1, 0, 0, 0) := by decide +kernel
theorem f_385_7 : ftc (PT 385) 7 = some (7, .invokevirtual 87, 3, 141, 4203, 1149) := by decide +kernel
theorem f_386_0 : ftc (PT 386) 0 = some (0, .aload 5, 2, 0, 0, 0) := by decide +kernel
theorem f_386_2 : ftc (PT 386) 2 = some (2, .iconst 0, 1, 0, 0, 0) := by decide +kernel
theorem f_386_3 : ftc (PT 386) 3 = some (3, .aload_n 0, 1, 0, 0, 0) := by decide +kernel
theorem f_386_4 : ftc (PT 386) 4 = some (4, .iload_n 1, 1, 0, 0, 0) := by decide +kernel
theorem f_386_5 : ftc (PT 386) 5 = some (5, .iload_n 2, 1, 0, 0, 0) := by decide +kernel
theorem f_386_6 : ftc (PT 386) 6 = some (6, .iload_n 3, 1, 0, 0, 0) := by decide +kernel
theorem f_386_7 : ftc (PT 386) 7 = some (7, .iload 4, 2, 0, 0, 0) := by decide +kernel
theorem f_386_9 : ftc (PT 386) 9 = some (9, .invokevirtual 91, 3, 142, 5259, 1170) := by decide +kernel
theorem f_387_0 : ftc (PT 387) 0 = some (0, .aload 4, 2, 0, 0, 0) := by decide +kernel
theorem f_387_2 : ftc (PT 387) 2 = some (2, .iconst 0, 1, 0, 0, 0) := by decide +kernel
theorem f_387_3 : ftc (PT 387) 3 = some (3, .aload_n 0, 1, 0, 0, 0) := by decide +kernel
theorem f_387_4 : ftc (PT 387) 4 = some (4, .iload_n 1, 1, 0, 0, 0) := by decide +kernel
theorem f_387_5 : ftc (PT 387) 5 = some (5, .iload_n 2, 1, 0, 0, 0) := by decide +kernel
theorem f_387_6 : ftc (PT 387) 6 = some (6, .iload_n 3, 1, 0, 0, 0) := by decide +kernel
theorem f_387_7 : ftc (PT 387) 7 = some (7, .invokevirtual 94, 3, 143, 4203, 1185) := by decide +kernel
theorem f_388_0 : ftc (PT 388) 0 = some (0, .aload 4, 2, 0, 0, 0) := by decide +kernel
theorem f_388_2 : ftc (PT 388) 2 = some (2, .iconst 0, 1, 0, 0, 0) := by decide +kernel
theorem f_388_3 : ftc (PT 388) 3 = some (3, .aload_n 0, 1, 0, 0, 0) := by decide +kernel
theorem f_388_4 : ftc (PT 388) 4 = some (4, .iload_n 1, 1, 0, 0, 0) := by decide +kernel
theorem f_388_5 : ftc (PT 388) 5 = some (5, .iload_n 2, 1, 0, 0, 0) := by decide +kernel
theorem f_388_6 : ftc (PT 388) 6 = some (6, .iload_n 3, 1, 0, 0, 0) := by decide +kernel
theorem f_388_7 : ftc (PT 388) 7 = some (7, .invokevirtual 97, 3, 144, 4203, 1196) := by decide +kernel
theorem f_389_0 : ftc (PT 389) 0 = some (0, .aload 4, 2, 0, 0, 0) := by decide +kernel
theorem f_389_2 : ftc (PT 389) 2 = some (2, .iconst 0, 1, 0, 0, 0) := by decide +kernel
theorem f_389_3 : ftc (PT 389) 3 = some (3, .aload_n 0, 1, 0, 0, 0) := by decide +kernel
theorem f_389_4 : ftc (PT 389) 4 = some (4, .iload_n 1, 1, 0, 0, 0) := by decide +kernel
theorem f_389_5 : ftc (PT 389) 5 = some (5, .iload_n 2, 1, 0, 0, 0) := by decide +kernel
theorem f_389_6 : ftc (PT 389) 6 = some (6, .iload_n 3, 1, 0, 0, 0) := by decide +kernel
theorem f_389_7 : ftc (PT 389) 7 = some (7, .invokevirtual 101, 3, 145, 8299, 1204) := by decide +kernel
theorem f_390_0 : ftc (PT 390) 0 = some (0, .aload 4, 2, 0, 0, 0) := by decide +kernel
theorem f_390_2 : ftc (PT 390) 2 = some (2, .iconst 0, 1, 0, 0, 0) := by decide +kernel
theorem f_390_3 : ftc (PT 390) 3 = some (3, .aload_n 0, 1, 0, 0, 0) := by decide +kernel
theorem f_390_4 : ftc (PT 390) 4 = some (4, .iload_n 1, 1, 0, 0, 0) := by decide +kernel
theorem f_390_5 : ftc (PT 390) 5 = some (5, .iload_n 2, 1, 0, 0, 0) := by decide +kernel
theorem f_390_6 : ftc (PT 390) 6 = some (6, .iload_n 3, 1, 0, 0, 0) := by decide +kernel
theorem f_390_7 : ftc (PT 390) 7 = some (7, .invokevirtual 105, 3, 147, 4203, 1214) := by decide +kernel
theorem f_391_0 : ftc (PT 391) 0 = some (0, .aload 4, 2, 0, 0, 0) := by decide +kernel
theorem f_391_2 : ftc (PT 391) 2 = some (2, .iconst 0, 1, 0, 0, 0) := by decide +kernel
theorem f_391_3 : ftc (PT 391) 3 = some (3, .aload_n 0, 1, 0, 0, 0) := by decide +kernel
theorem f_391_4 : ftc (PT 391) 4 = some (4, .iload_n 1, 1, 0, 0, 0) := by decide +kernel
theorem f_391_5 : ftc (PT 391) 5 = some (5, .iload_n 2, 1, 0, 0, 0) := by decide +kernel
theorem f_391_6 : ftc (PT 391) 6 = some (6, .iload_n 3, 1, 0, 0, 0) := by decide +kernel
theorem f_391_7 : ftc (PT 391) 7 = some (7, .invokevirtual 108, 3, 150, 4203, 1239) := by decide +kernel
theorem f_392_0 : ftc (PT 392) 0 = some (0, .aload 5, 2, 0, 0, 0) := by decide +kernel
theorem f_392_2 : ftc (PT 392) 2 = some (2, .iconst 0, 1, 0, 0, 0) := by decide +kernel
theorem f_392_3 : ftc (PT 392) 3 = some (3, .aload_n 0, 1, 0, 0, 0) := by decide +kernel
theorem f_392_4 : ftc (PT 392) 4 = some (4, .iload_n 1, 1, 0, 0, 0) := by decide +kernel
theorem f_392_5 : ftc (PT 392) 5 = some (5, .iload_n 2, 1, 0, 0, 0) := by decide +kernel
theorem f_392_6 : ftc (PT 392) 6 = some (6, .iload_n 3, 1, 0, 0, 0) := by decide +kernel
theorem f_392_7 : ftc (PT 392) 7 = some (7, .iload 4, 2, 0, 0, 0) := by decide +kernel
theorem f_392_9 : ftc (PT 392) 9 = some (9, .invokevirtual 111, 3, 152, 5259, 1250) := by decide +kernel
theorem f_393_0 : ftc (PT 393) 0 = some (0, .aload 8, 2, 0, 0, 0) := by decide +kernel
theorem f_393_2 : ftc (PT 393) 2 = some (2, .iconst 0, 1, 0, 0, 0) := by decide +kernel
theorem f_393_3 : ftc (PT 393) 3 = some (3, .aload_n 0, 1, 0, 0, 0) := by decide +kernel
theorem f_393_4 : ftc (PT 393) 4 = some (4, .iload_n 1, 1, 0, 0, 0) := by decide +kernel
theorem f_393_5 : ftc (PT 393) 5 = some (5, .iload_n 2, 1, 0, 0, 0) := by decide +kernel
theorem f_393_6 : ftc (PT 393) 6 = some (6, .iload_n 3, 1, 0, 0, 0) := by decide +kernel
theorem f_393_7 : ftc (PT 393) 7 = some (7, .iload 4, 2, 0, 0, 0) := by decide +kernel
theorem f_393_9 : ftc (PT 393) 9 = some (9, .iload 5, 2, 0, 0, 0) := by decide +kernel
theorem f_393_11 : ftc (PT 393) 11 = some (11, .iload 6, 2, 0, 0, 0) := by decide +kernel
theorem f_393_13 : ftc (PT 393) 13 = some (13, .iload 7, 2, 0, 0, 0) := by decide +kernel
theorem f_393_15 : ftc (PT 393) 15 = some (15, .invokevirtual 115, 3, 153, 8427, 1263) := by decide +kernel
theorem f_394_0 : ftc (PT 394) 0 = some (0, .aload 6, 2, 0, 0, 0) := by decide +kernel
theorem f_394_2 : ftc (PT 394) 2 = some (2, .iconst 0, 1, 0, 0, 0) := by decide +kernel
theorem f_394_3 : ftc (PT 394) 3 = some (3, .aload_n 0, 1, 0, 0, 0) := by decide +kernel
theorem f_394_4 : ftc (PT 394) 4 = some (4, .iload_n 1, 1, 0, 0, 0) := by decide +kernel
theorem f_394_5 : ftc (PT 394) 5 = some (5, .iload_n 2, 1, 0, 0, 0) := by decide +kernel
theorem f_394_6 : ftc (PT 394) 6 = some (6, .iload_n 3, 1, 0, 0, 0) := by decide +kernel
theorem f_394_7 : ftc (PT 394) 7 = some (7, .iload 4, 2, 0, 0, 0) := by decide +kernel
theorem f_394_9 : ftc (PT 394) 9 = some (9, .iload 5, 2, 0, 0, 0) := by decide +kernel
theorem f_394_11 : ftc (PT 394) 11 = some (11, .invokevirtual 119, 3, 155, 7339, 1287) := by decide +kernel
theorem f_395_0 : ftc (PT 395) 0 = some (0, .aload 6, 2, 0, 0, 0) := by decide +kernel
theorem f_395_2 : ftc (PT 395) 2 = some (2, .iconst 0, 1, 0, 0, 0) := by decide +kernel
theorem f_395_3 : ftc (PT 395) 3 = some (3, .aload_n 0, 1, 0, 0, 0) := by decide +kernel
theorem f_395_4 : ftc (PT 395) 4 = some (4, .iload_n 1, 1, 0, 0, 0) := by decide +kernel
theorem f_395_5 : ftc (PT 395) 5 = some (5, .iload_n 2, 1, 0, 0, 0) := by decide +kernel
theorem f_395_6 : ftc (PT 395) 6 = some (6, .iload_n 3, 1, 0, 0, 0) := by decide +kernel
theorem f_395_7 : ftc (PT 395) 7 = some (7, .iload 4, 2, 0, 0, 0) := by decide +kernel
theorem f_395_9 : ftc (PT 395) 9 = some (9, .iload 5, 2, 0, 0, 0) := by decide +kernel
theorem f_395_11 : ftc (PT 395) 11 = some (11, .invokevirtual 123, 3, 159, 6315, 1329) := by decide +kernel
theorem f_396_0 : ftc (PT 396) 0 = some (0, .aload_n 3, 1, 0, 0, 0) := by decide +kernel
theorem f_396_1 : ftc (PT 396) 1 = some (1, .iconst 0, 1, 0, 0, 0) := by decide +kernel
theorem f_396_2 : ftc (PT 396) 2 = some (2, .aload_n 0, 1, 0, 0, 0) := by decide +kernel
theorem f_396_3 : ftc (PT 396) 3 = some (3, .iload_n 1, 1, 0, 0, 0) := by decide +kernel
theorem f_396_4 : ftc (PT 396) 4 = some (4, .iload_n 2, 1, 0, 0, 0) := by decide +kernel
theorem f_396_5 : ftc (PT 396) 5 = some (5, .invokevirtual 127, 3, 162, 3147, 1344) := by decide +kernel
theorem f_397_0 : ftc (PT 397) 0 = some (0, .aload 6, 2, 0, 0, 0) := by decide +kernel
theorem f_397_2 : ftc (PT 397) 2 = some (2, .iconst 0, 1, 0, 0, 0) := by decide +kernel
theorem f_397_3 : ftc (PT 397) 3 = some (3, .aload_n 0, 1, 0, 0, 0) := by decide +kernel
theorem f_397_4 : ftc (PT 397) 4 = some (4, .iload_n 1, 1, 0, 0, 0) := by decide +kernel
theorem f_397_5 : ftc (PT 397) 5 = some (5, .iload_n 2, 1, 0, 0, 0) := by decide +kernel
theorem f_397_6 : ftc (PT 397) 6 = some (6, .iload_n 3, 1, 0, 0, 0) := by decide +kernel
theorem f_397_7 : ftc (PT 397) 7 = some (7, .iload 4, 2, 0, 0, 0) := by decide +kernel
theorem f_397_9 : ftc (PT 397) 9 = some (9, .iload 5, 2, 0, 0, 0) := by decide +kernel
theorem f_397_11 : ftc (PT 397) 11 = some (11, .invokevirtual 130, 3, 164, 6315, 1355) := by decide +kernel
theorem f_398_0 : ftc (PT 398) 0 = some (0, .aload 4, 2, 0, 0, 0) := by decide +kernel
theorem f_398_2 : ftc (PT 398) 2 = some (2, .iconst 0, 1, 0, 0, 0) := by decide +kernel
theorem f_398_3 : ftc (PT 398) 3 = some (3, .aload_n 0, 1, 0, 0, 0) := by decide +kernel
theorem f_398_4 : ftc (PT 398) 4 = some (4, .iload_n 1, 1, 0, 0, 0) := by decide +kernel
theorem f_398_5 : ftc (PT 398) 5 = some (5, .iload_n 2, 1, 0, 0, 0) := by decide +kernel
theorem f_398_6 : ftc (PT 398) 6 = some (6, .iload_n 3, 1, 0, 0, 0) := by decide +kernel
theorem f_398_7 : ftc (PT 398) 7 = some (7, .invokevirtual 134, 3, 165, 4203, 1362) := by decide +kernel
theorem f_399_0 : ftc (PT 399) 0 = some (0, .aload_n 3, 1, 0, 0, 0) := by decide +kernel
theorem f_399_1 : ftc (PT 399) 1 = some (1, .iconst 0, 1, 0, 0, 0) := by decide +kernel
theorem f_399_2 : ftc (PT 399) 2 = some (2, .aload_n 0, 1, 0, 0, 0) := by decide +kernel
theorem f_399_3 : ftc (PT 399) 3 = some (3, .iload_n 1, 1, 0, 0, 0) := by decide +kernel
theorem f_399_4 : ftc (PT 399) 4 = some (4, .iload_n 2, 1, 0, 0, 0) := by decide +kernel
theorem f_399_5 : ftc (PT 399) 5 = some (5, .invokevirtual 137, 3, 166, 3147, 1382) := by decide +kernel
theorem f_400_0 : ftc (PT 400) 0 = some (0, .aload_n 2, 1, 0, 0, 0) := by decide +kernel
theorem f_400_1 : ftc (PT 400) 1 = some (1, .iconst 0, 1, 0, 0, 0) := by decide +kernel
theorem f_400_2 : ftc (PT 400) 2 = some (2, .aload_n 0, 1, 0, 0, 0) := by decide +kernel
theorem f_400_3 : ftc (PT 400) 3 = some (3, .iload_n 1, 1, 0, 0, 0) := by decide +kernel
theorem f_400_4 : ftc (PT 400) 4 = some (4, .invokevirtual 140, 3, 167, 2091, 1393) := by decide +kernel
theorem f_401_0 : ftc (PT 401) 0 = some (0, .aload 4, 2, 0, 0, 0) := by decide +kernel
theorem f_401_2 : ftc (PT 401) 2 = some (2, .iconst 0, 1, 0, 0, 0) := by decide +kernel
theorem f_401_3 : ftc (PT 401) 3 = some (3, .aload_n 0, 1, 0, 0, 0) := by decide +kernel
theorem f_401_4 : ftc (PT 401) 4 = some (4, .iload_n 1, 1, 0, 0, 0) := by decide +kernel
theorem f_401_5 : ftc (PT 401) 5 = some (5, .iload_n 2, 1, 0, 0, 0) := by decide +kernel
theorem f_401_6 : ftc (PT 401) 6 = some (6, .iload_n 3, 1, 0, 0, 0) := by decide +kernel
theorem f_401_7 : ftc (PT 401) 7 = some (7, .invokevirtual 143, 3, 168, 5227, 1400) := by decide +kernel
theorem f_402_0 : ftc (PT 402) 0 = some (0, .aload_n 3, 1, 0, 0, 0) := by decide +kernel
theorem f_402_1 : ftc (PT 402) 1 = some (1, .iconst 0, 1, 0, 0, 0) := by decide +kernel
theorem f_402_2 : ftc (PT 402) 2 = some (2, .aload_n 0, 1, 0, 0, 0) := by decide +kernel
theorem f_402_3 : ftc (PT 402) 3 = some (3, .iload_n 1, 1, 0, 0, 0) := by decide +kernel
theorem f_402_4 : ftc (PT 402) 4 = some (4, .iload_n 2, 1, 0, 0, 0) := by decide +kernel
theorem f_402_5 : ftc (PT 402) 5 = some (5, .invokevirtual 146, 3, 175, 3147, 1445) := by decide +kernel
theorem f_403_0 : ftc (PT 403) 0 = some (0, .aload_n 0, 1, 0, 0, 0) := by decide +kernel
theorem f_403_1 : ftc (PT 403) 1 = some (1, .invokevirtual 149, 3, 180, 2059, 1467) := by decide +kernel
theorem f_404_0 : ftc (PT 404) 0 = some (0, .aload_n 3, 1, 0, 0, 0) := by decide +kernel
theorem f_404_1 : ftc (PT 404) 1 = some (1, .iconst 0, 1, 0, 0, 0) := by decide +kernel
theorem f_404_2 : ftc (PT 404) 2 = some (2, .aload_n 0, 1, 0, 0, 0) := by decide +kernel
theorem f_404_3 : ftc (PT 404) 3 = some (3, .iload_n 1, 1, 0, 0, 0) := by decide +kernel
theorem f_404_4 : ftc (PT 404) 4 = some (4, .iload_n 2, 1, 0, 0, 0) := by decide +kernel
theorem f_404_5 : ftc (PT 404) 5 = some (5, .invokevirtual 152, 3, 181, 3147, 1482) := by decide +kernel
theorem f_405_0 : ftc (PT 405) 0 = some (0, .aload 7, 2, 0, 0, 0) := by decide +kernel
theorem f_405_2 : ftc (PT 405) 2 = some (2, .iconst 0, 1, 0, 0, 0) := by decide +kernel
theorem f_405_3 : ftc (PT 405) 3 = some (3, .aload_n 0, 1, 0, 0, 0) := by decide +kernel
theorem f_405_4 : ftc (PT 405) 4 = some (4, .iload_n 1, 1, 0, 0, 0) := by decide +kernel
theorem f_405_5 : ftc (PT 405) 5 = some (5, .iload_n 2, 1, 0, 0, 0) := by decide +kernel
theorem f_405_6 : ftc (PT 405) 6 = some (6, .iload_n 3, 1, 0, 0, 0) := by decide +kernel
theorem f_405_7 : ftc (PT 405) 7 = some (7, .iload 4, 2, 0, 0, 0) := by decide +kernel
theorem f_405_9 : ftc (PT 405) 9 = some (9, .iload 5, 2, 0, 0, 0) := by decide +kernel
theorem f_405_11 : ftc (PT 405) 11 = some (11, .iload 6, 2, 0, 0, 0) := by decide +kernel
theorem f_405_13 : ftc (PT 405) 13 = some (13, .invokevirtual 155, 3, 184, 7371, 1497) := by decide +kernel
set_option maxRecDepth 10000 in
set_option maxHeartbeats 4000000 in
theorem s_325_0 {Lx : Nat} {I : Mi} {L : Ml} {e : Nat} {Q : Kq} {x1 : Int32} {x2 : Int32} {x3 : Int32} {x4 : Int32} {x5 : Int32} (h :
    (if x1 < (Int32.ofInt 0) then
     Q (.inl (some (.int (Int32.ofInt 0)))) (gE Lx) (ui I 58 0 (Int32.ofInt 1)) L e
    else
     (if (I 59 3) < x1 then
      Q (.inl (some (.int (Int32.ofInt 0)))) (gE Lx) (ui I 58 0 (Int32.ofInt 1)) L e
     else
      (if x5 < (Int32.ofInt 0) then
       Q (.inl (some (.int (Int32.ofInt 0)))) (gE Lx) (ui I 58 0 (Int32.ofInt 2)) L e
      else
       (if (Int32.ofInt 2) < x5 then
        Q (.inl (some (.int (Int32.ofInt 0)))) (gE Lx) (ui I 58 0 (Int32.ofInt 2)) L e
       else
        Wp 207 0 [(0, .int x2), (1, .int x3)] [] (gE Lx) I L e (kcp (Wp 325) 325 29 0 [(0, .ref 58), (1, .int x1), (2, .int x2), (3, .int x3), (4, .int x4), (5, .int x5)] 71 [.ref 58] Q)))))) :
    Wp 325 0 [(0, .ref 58), (1, .int x1), (2, .int x2), (3, .int x3), (4, .int x4), (5, .int x5)] [] (gE Lx) I L e Q := by
  refine w_a f_325_0 ?_
  refine w_a f_325_1 ?_
  refine w_a f_325_2 ?_
  refine w_a f_325_3 ?_
  refine w_a (ls := [(0, .ref 58), (1, .int x1)]) f_226_0 ?_
  refine w_a f_226_1 ?_
  refine w_a f_226_2 ?_
  refine w_a f_226_3 ?_
  refine w_a (ls := [(0, .ref 58)]) f_215_0 ?_
  refine w_a f_215_1 ?_
  refine w_a f_215_4 ?_
  refine w_a f_215_5 ?_
  refine w_a f_215_6 ?_
  refine w_a (ls := [(0, .ref 58), (1, .int x1)]) f_226_6 ?_
  refine w_a (ls := [(0, .int x1), (1, .int (Int32.ofInt 0)), (2, .int (I 59 3))]) f_208_0 ?_
  refine w_a f_208_1 ?_
  refine w_a f_208_2 ?_
  refine i_m (fun h => ?_) (fun h => ?_) h
  · refine w_a f_208_14 ?_
    refine w_a f_208_15 ?_
    refine w_a (ls := [(0, .ref 58), (1, .int x1)]) f_226_9 ?_
    refine w_a (ls := [(0, .ref 58), (1, .int x1), (2, .int x2), (3, .int x3), (4, .int x4), (5, .int x5)]) f_325_6 ?_
    refine w_a f_325_9 ?_
    refine w_a f_325_10 ?_
    refine w_a f_325_49 ?_
    refine w_a f_325_52 ?_
    refine w_a f_325_53 ?_
    refine w_a f_325_56 ?_
    refine w_a f_325_59 ?_
    refine w_a f_325_60 ?_
    exact h
  · refine w_a f_208_5 ?_
    refine w_a f_208_6 ?_
    refine w_a f_208_7 ?_
    refine i_m (fun h => ?_) (fun h => ?_) h
    · refine w_a f_208_14 ?_
      refine w_a f_208_15 ?_
      refine w_a (ls := [(0, .ref 58), (1, .int x1)]) f_226_9 ?_
      refine w_a (ls := [(0, .ref 58), (1, .int x1), (2, .int x2), (3, .int x3), (4, .int x4), (5, .int x5)]) f_325_6 ?_
      refine w_a f_325_9 ?_
      refine w_a f_325_10 ?_
      refine w_a f_325_49 ?_
      refine w_a f_325_52 ?_
      refine w_a f_325_53 ?_
      refine w_a f_325_56 ?_
      refine w_a f_325_59 ?_
      refine w_a f_325_60 ?_
      exact h
    · refine w_a f_208_10 ?_
      refine w_a f_208_11 ?_
      refine w_a f_208_15 ?_
      refine w_a (ls := [(0, .ref 58), (1, .int x1)]) f_226_9 ?_
      refine w_a (ls := [(0, .ref 58), (1, .int x1), (2, .int x2), (3, .int x3), (4, .int x4), (5, .int x5)]) f_325_6 ?_
      refine w_a f_325_13 ?_
      refine w_a f_325_15 ?_
      refine w_a f_325_16 ?_
      refine w_a f_325_17 ?_
      refine w_a (ls := [(0, .int x5), (1, .int (Int32.ofInt 0)), (2, .int (Int32.ofInt 2))]) f_208_0 ?_
      refine w_a f_208_1 ?_
      refine w_a f_208_2 ?_
      refine i_m (fun h => ?_) (fun h => ?_) h
      · refine w_a f_208_14 ?_
        refine w_a f_208_15 ?_
        refine w_a (ls := [(0, .ref 58), (1, .int x1), (2, .int x2), (3, .int x3), (4, .int x4), (5, .int x5)]) f_325_20 ?_
        refine w_a f_325_23 ?_
        refine w_a f_325_24 ?_
        refine w_a f_325_49 ?_
        refine w_a f_325_52 ?_
        refine w_a f_325_53 ?_
        refine w_a f_325_56 ?_
        refine w_a f_325_59 ?_
        refine w_a f_325_60 ?_
        exact h
      · refine w_a f_208_5 ?_
        refine w_a f_208_6 ?_
        refine w_a f_208_7 ?_
        refine i_m (fun h => ?_) (fun h => ?_) h
        · refine w_a f_208_14 ?_
          refine w_a f_208_15 ?_
          refine w_a (ls := [(0, .ref 58), (1, .int x1), (2, .int x2), (3, .int x3), (4, .int x4), (5, .int x5)]) f_325_20 ?_
          refine w_a f_325_23 ?_
          refine w_a f_325_24 ?_
          refine w_a f_325_49 ?_
          refine w_a f_325_52 ?_
          refine w_a f_325_53 ?_
          refine w_a f_325_56 ?_
          refine w_a f_325_59 ?_
          refine w_a f_325_60 ?_
          exact h
        · refine w_a f_208_10 ?_
          refine w_a f_208_11 ?_
          refine w_a f_208_15 ?_
          refine w_a (ls := [(0, .ref 58), (1, .int x1), (2, .int x2), (3, .int x3), (4, .int x4), (5, .int x5)]) f_325_20 ?_
          refine w_a f_325_27 ?_
          refine w_a f_325_28 ?_
          exact w_c (ks := [0, 1, 2, 3, 4, 5]) f_325_29 rfl rfl h
set_option maxRecDepth 10000 in
set_option maxHeartbeats 4000000 in
theorem s_326_0 {Lx : Nat} {I : Mi} {L : Ml} {e : Nat} {Q : Kq} {x1 : Int32} {x2 : Int32} (h :
    (if x2 < (Int32.ofInt 0) then
     Q (.inl (some (.int (Int32.ofInt 0)))) (gE Lx) (ui I 58 0 (Int32.ofInt 1)) L e
    else
     (if (Int32.ofInt 3) < x2 then
      Q (.inl (some (.int (Int32.ofInt 0)))) (gE Lx) (ui I 58 0 (Int32.ofInt 1)) L e
     else
      (if x1 < (Int32.ofInt 2) then
       Q (.inl (some (.int (Int32.ofInt 0)))) (gE Lx) (ui I 58 0 (Int32.ofInt 2)) L e
      else
       (if (Int32.ofInt 3) < x1 then
        Q (.inl (some (.int (Int32.ofInt 0)))) (gE Lx) (ui I 58 0 (Int32.ofInt 2)) L e
       else
        (if (I 59 3) = (Int32.ofInt 4) then
         Q (.inl (some (.int (Int32.ofInt 0)))) (gE Lx) (ui I 58 0 (Int32.ofInt 3)) L e
        else
         Wp 326 58 [(0, .ref 58), (1, .int x1), (2, .int x2), (3, .int (Int32.ofInt 0))] [] (gE Lx) (ui (ui I 58 0 (Int32.ofInt 0)) 58 30 (Int32.ofInt 0)) L e Q)))))) :
    Wp 326 0 [(0, .ref 58), (1, .int x1), (2, .int x2)] [] (gE Lx) I L e Q := by
  refine w_a f_326_0 ?_
  refine w_a f_326_1 ?_
  refine w_a f_326_2 ?_
  refine w_a f_326_3 ?_
  refine w_a f_326_4 ?_
  refine w_a (ls := [(0, .int x2), (1, .int (Int32.ofInt 0)), (2, .int (Int32.ofInt 3))]) f_208_0 ?_
  refine w_a f_208_1 ?_
  refine w_a f_208_2 ?_
  refine i_m (fun h => ?_) (fun h => ?_) h
  · refine w_a f_208_14 ?_
    refine w_a f_208_15 ?_
    refine w_a (ls := [(0, .ref 58), (1, .int x1), (2, .int x2)]) f_326_7 ?_
    refine w_a f_326_10 ?_
    refine w_a f_326_11 ?_
    refine w_a f_326_40 ?_
    refine w_a f_326_43 ?_
    refine w_a f_326_44 ?_
    refine w_a f_326_47 ?_
    refine w_a f_326_50 ?_
    refine w_a f_326_51 ?_
    exact h
  · refine w_a f_208_5 ?_
    refine w_a f_208_6 ?_
    refine w_a f_208_7 ?_
    refine i_m (fun h => ?_) (fun h => ?_) h
    · refine w_a f_208_14 ?_
      refine w_a f_208_15 ?_
      refine w_a (ls := [(0, .ref 58), (1, .int x1), (2, .int x2)]) f_326_7 ?_
      refine w_a f_326_10 ?_
      refine w_a f_326_11 ?_
      refine w_a f_326_40 ?_
      refine w_a f_326_43 ?_
      refine w_a f_326_44 ?_
      refine w_a f_326_47 ?_
      refine w_a f_326_50 ?_
      refine w_a f_326_51 ?_
      exact h
    · refine w_a f_208_10 ?_
      refine w_a f_208_11 ?_
      refine w_a f_208_15 ?_
      refine w_a (ls := [(0, .ref 58), (1, .int x1), (2, .int x2)]) f_326_7 ?_
      refine w_a f_326_14 ?_
      refine w_a f_326_15 ?_
      refine w_a f_326_16 ?_
      refine w_a f_326_17 ?_
      refine w_a (ls := [(0, .int x1), (1, .int (Int32.ofInt 2)), (2, .int (Int32.ofInt 3))]) f_208_0 ?_
      refine w_a f_208_1 ?_
      refine w_a f_208_2 ?_
      refine i_m (fun h => ?_) (fun h => ?_) h
      · refine w_a f_208_14 ?_
        refine w_a f_208_15 ?_
        refine w_a (ls := [(0, .ref 58), (1, .int x1), (2, .int x2)]) f_326_20 ?_
        refine w_a f_326_23 ?_
        refine w_a f_326_24 ?_
        refine w_a f_326_40 ?_
        refine w_a f_326_43 ?_
        refine w_a f_326_44 ?_
        refine w_a f_326_47 ?_
        refine w_a f_326_50 ?_
        refine w_a f_326_51 ?_
        exact h
      · refine w_a f_208_5 ?_
        refine w_a f_208_6 ?_
        refine w_a f_208_7 ?_
        refine i_m (fun h => ?_) (fun h => ?_) h
        · refine w_a f_208_14 ?_
          refine w_a f_208_15 ?_
          refine w_a (ls := [(0, .ref 58), (1, .int x1), (2, .int x2)]) f_326_20 ?_
          refine w_a f_326_23 ?_
          refine w_a f_326_24 ?_
          refine w_a f_326_40 ?_
          refine w_a f_326_43 ?_
          refine w_a f_326_44 ?_
          refine w_a f_326_47 ?_
          refine w_a f_326_50 ?_
          refine w_a f_326_51 ?_
          exact h
        · refine w_a f_208_10 ?_
          refine w_a f_208_11 ?_
          refine w_a f_208_15 ?_
          refine w_a (ls := [(0, .ref 58), (1, .int x1), (2, .int x2)]) f_326_20 ?_
          refine w_a f_326_27 ?_
          refine w_a f_326_28 ?_
          refine w_a (ls := [(0, .ref 58)]) f_215_0 ?_
          refine w_a f_215_1 ?_
          refine w_a f_215_4 ?_
          refine w_a f_215_5 ?_
          refine w_a f_215_6 ?_
          refine w_a (ls := [(0, .ref 58), (1, .int x1), (2, .int x2)]) f_326_31 ?_
          refine w_a f_326_32 ?_
          refine i_m (fun h => ?_) (fun h => ?_) h
          · refine w_a f_326_35 ?_
            refine w_a f_326_36 ?_
            refine w_a f_326_40 ?_
            refine w_a f_326_43 ?_
            refine w_a f_326_44 ?_
            refine w_a f_326_47 ?_
            refine w_a f_326_50 ?_
            refine w_a f_326_51 ?_
            exact h
          · refine w_a f_326_39 ?_
            refine w_a f_326_40 ?_
            refine w_a f_326_43 ?_
            refine w_a f_326_44 ?_
            refine w_a f_326_47 ?_
            refine w_a f_326_52 ?_
            refine w_a f_326_53 ?_
            refine w_a (ls := [(0, .ref 58)]) f_311_0 ?_
            refine w_a f_311_1 ?_
            refine w_a f_311_2 ?_
            refine w_a f_311_5 ?_
            refine w_a (ls := [(0, .ref 58), (1, .int x1), (2, .int x2)]) f_326_56 ?_
            refine w_a f_326_57 ?_
            exact w_n (ks := [0, 1, 2, 3]) rfl h
set_option maxRecDepth 10000 in
set_option maxHeartbeats 4000000 in
theorem s_328_0 {Lx : Nat} {I : Mi} {L : Ml} {e : Nat} {Q : Kq} {x1 : Int32} (h :
    (if x1 < (Int32.ofInt 0) then
     Q (.inl (some (.int (Int32.ofInt (-1))))) (gE Lx) (ui I 58 0 (Int32.ofInt 0)) L e
    else
     (if ((I 59 3) - (Int32.ofInt 1)) < x1 then
      Q (.inl (some (.int (Int32.ofInt (-1))))) (gE Lx) (ui I 58 0 (Int32.ofInt 0)) L e
     else
      Wp 329 0 [(0, .ref 58)] [] (gE Lx) (ui I 58 0 (Int32.ofInt 0)) L e (kcp (Wp 328) 328 14 0 [(0, .ref 58), (1, .int x1)] 71 [] Q)))) :
    Wp 328 0 [(0, .ref 58), (1, .int x1)] [] (gE Lx) I L e Q := by
  refine w_a f_328_0 ?_
  refine w_a f_328_1 ?_
  refine w_a f_328_2 ?_
  refine w_a f_328_5 ?_
  refine w_a f_328_6 ?_
  refine w_a f_328_7 ?_
  refine w_a (ls := [(0, .ref 58), (1, .int x1)]) f_219_0 ?_
  refine w_a f_219_1 ?_
  refine w_a f_219_2 ?_
  refine w_a f_219_3 ?_
  refine w_a (ls := [(0, .ref 58)]) f_215_0 ?_
  refine w_a f_215_1 ?_
  refine w_a f_215_4 ?_
  refine w_a f_215_5 ?_
  refine w_a f_215_6 ?_
  refine w_a (ls := [(0, .ref 58), (1, .int x1)]) f_219_6 ?_
  refine w_a f_219_7 ?_
  refine w_a f_219_8 ?_
  refine w_a (ls := [(0, .int x1), (1, .int (Int32.ofInt 0)), (2, .int ((I 59 3) - (Int32.ofInt 1)))]) f_208_0 ?_
  refine w_a f_208_1 ?_
  refine w_a f_208_2 ?_
  refine i_m (fun h => ?_) (fun h => ?_) h
  · refine w_a f_208_14 ?_
    refine w_a f_208_15 ?_
    refine w_a (ls := [(0, .ref 58), (1, .int x1)]) f_219_11 ?_
    refine w_a (ls := [(0, .ref 58), (1, .int x1)]) f_328_10 ?_
    refine w_a f_328_24 ?_
    refine w_a f_328_25 ?_
    exact h
  · refine w_a f_208_5 ?_
    refine w_a f_208_6 ?_
    refine w_a f_208_7 ?_
    refine i_m (fun h => ?_) (fun h => ?_) h
    · refine w_a f_208_14 ?_
      refine w_a f_208_15 ?_
      refine w_a (ls := [(0, .ref 58), (1, .int x1)]) f_219_11 ?_
      refine w_a (ls := [(0, .ref 58), (1, .int x1)]) f_328_10 ?_
      refine w_a f_328_24 ?_
      refine w_a f_328_25 ?_
      exact h
    · refine w_a f_208_10 ?_
      refine w_a f_208_11 ?_
      refine w_a f_208_15 ?_
      refine w_a (ls := [(0, .ref 58), (1, .int x1)]) f_219_11 ?_
      refine w_a (ls := [(0, .ref 58), (1, .int x1)]) f_328_10 ?_
      refine w_a f_328_13 ?_
      exact w_c (ks := [0, 1]) f_328_14 rfl rfl h
set_option maxRecDepth 10000 in
set_option maxHeartbeats 4000000 in
theorem s_332_0 {Lx : Nat} {I : Mi} {L : Ml} {e : Nat} {Q : Kq} (h :
    Wp 329 0 [(0, .ref 58)] [] (gE Lx) (ui I 58 0 (Int32.ofInt 0)) L e (kcp (Wp 332) 332 6 0 [(0, .ref 58)] 71 [] Q)) :
    Wp 332 0 [(0, .ref 58)] [] (gE Lx) I L e Q := by
  refine w_a f_332_0 ?_
  refine w_a f_332_1 ?_
  refine w_a f_332_2 ?_
  refine w_a f_332_5 ?_
  exact w_c (ks := [0]) f_332_6 rfl rfl h
set_option maxRecDepth 10000 in
set_option maxHeartbeats 4000000 in
theorem s_333_0 {Lx : Nat} {I : Mi} {L : Ml} {e : Nat} {Q : Kq} {x1 : Int32} (h :
    (if x1 < (Int32.ofInt 0) then
     Q (.inl (some (.int (Int32.ofInt 0)))) (gE Lx) (ui I 58 0 (Int32.ofInt 1)) L e
    else
     (if (Int32.ofInt 1) < x1 then
      Q (.inl (some (.int (Int32.ofInt 0)))) (gE Lx) (ui I 58 0 (Int32.ofInt 1)) L e
     else
      (if (I 59 3) = 0 then
       (if x1 = 0 then
        Q (.inl (some (.int (Int32.ofInt (-1))))) (gE Lx) (ui I 58 0 (Int32.ofInt 0)) L e
       else
        Q (.inl (some (.int (Int32.ofInt 0)))) (gE Lx) (ui I 58 0 (Int32.ofInt 0)) L e)
      else
       Wp 227 0 [(0, .ref 58), (1, .int (I 59 3))] [] (gE Lx) (ui I 58 0 (Int32.ofInt 0)) L e (kcp (Wp 333) 333 49 0 [(0, .ref 58), (1, .int x1)] 71 [] Q))))) :
    Wp 333 0 [(0, .ref 58), (1, .int x1)] [] (gE Lx) I L e Q := by
  refine w_a f_333_0 ?_
  refine w_a f_333_1 ?_
  refine w_a f_333_2 ?_
  refine w_a f_333_3 ?_
  refine w_a f_333_4 ?_
  refine w_a (ls := [(0, .int x1), (1, .int (Int32.ofInt 0)), (2, .int (Int32.ofInt 1))]) f_208_0 ?_
  refine w_a f_208_1 ?_
  refine w_a f_208_2 ?_
  refine i_m (fun h => ?_) (fun h => ?_) h
  · refine w_a f_208_14 ?_
    refine w_a f_208_15 ?_
    refine w_a (ls := [(0, .ref 58), (1, .int x1)]) f_333_7 ?_
    refine w_a f_333_14 ?_
    refine w_a f_333_15 ?_
    refine w_a f_333_18 ?_
    refine w_a f_333_19 ?_
    refine w_a f_333_22 ?_
    refine w_a f_333_25 ?_
    refine w_a f_333_26 ?_
    exact h
  · refine w_a f_208_5 ?_
    refine w_a f_208_6 ?_
    refine w_a f_208_7 ?_
    refine i_m (fun h => ?_) (fun h => ?_) h
    · refine w_a f_208_14 ?_
      refine w_a f_208_15 ?_
      refine w_a (ls := [(0, .ref 58), (1, .int x1)]) f_333_7 ?_
      refine w_a f_333_14 ?_
      refine w_a f_333_15 ?_
      refine w_a f_333_18 ?_
      refine w_a f_333_19 ?_
      refine w_a f_333_22 ?_
      refine w_a f_333_25 ?_
      refine w_a f_333_26 ?_
      exact h
    · refine w_a f_208_10 ?_
      refine w_a f_208_11 ?_
      refine w_a f_208_15 ?_
      refine w_a (ls := [(0, .ref 58), (1, .int x1)]) f_333_7 ?_
      refine w_a f_333_10 ?_
      refine w_a f_333_11 ?_
      refine w_a f_333_15 ?_
      refine w_a f_333_18 ?_
      refine w_a f_333_19 ?_
      refine w_a f_333_22 ?_
      refine w_a f_333_27 ?_
      refine w_a f_333_28 ?_
      refine w_a (ls := [(0, .ref 58)]) f_215_0 ?_
      refine w_a f_215_1 ?_
      refine w_a f_215_4 ?_
      refine w_a f_215_5 ?_
      refine w_a f_215_6 ?_
      refine w_a (ls := [(0, .ref 58), (1, .int x1)]) f_333_31 ?_
      refine i_m (fun h => ?_) (fun h => ?_) h
      · refine w_a f_333_34 ?_
        refine w_a f_333_35 ?_
        refine i_m (fun h => ?_) (fun h => ?_) h
        · refine w_a f_333_38 ?_
          refine w_a f_333_39 ?_
          refine w_a f_333_43 ?_
          exact h
        · refine w_a f_333_42 ?_
          refine w_a f_333_43 ?_
          exact h
      · refine w_a f_333_44 ?_
        refine w_a f_333_45 ?_
        refine w_a f_333_46 ?_
        refine w_a (ls := [(0, .ref 58)]) f_215_0 ?_
        refine w_a f_215_1 ?_
        refine w_a f_215_4 ?_
        refine w_a f_215_5 ?_
        refine w_a f_215_6 ?_
        exact w_c (ls := [(0, .ref 58), (1, .int x1)]) (ks := [0, 1]) f_333_49 rfl rfl h
set_option maxRecDepth 10000 in
set_option maxHeartbeats 4000000 in
theorem s_336_0 {Lx : Nat} {I : Mi} {L : Ml} {e : Nat} {Q : Kq} (h :
    Wp 209 0 [(0, .long ((I 59 0).toInt64 * (I 59 2).toInt64)), (2, .long ((-(I 59 1).toInt64) * (I 59 2).toInt64))] [] (gE Lx) (ui I 58 0 (Int32.ofInt 0)) L e (kcp (Wp 336) 336 54 0 [(0, .ref 58), (7, .long ((I 59 0).toInt64 * (I 59 2).toInt64)), (9, .long ((-(I 59 1).toInt64) * (I 59 2).toInt64)), (11, .long (((I 59 0).toInt64 * (I 59 0).toInt64) + ((I 59 1).toInt64 * (I 59 1).toInt64)))] 71 [] Q)) :
    Wp 336 0 [(0, .ref 58)] [] (gE Lx) I L e Q := by
  refine w_a f_336_0 ?_
  refine w_a f_336_1 ?_
  refine w_a f_336_2 ?_
  refine w_a f_336_5 ?_
  refine w_a f_336_6 ?_
  refine w_a f_336_9 ?_
  refine w_a f_336_10 ?_
  refine w_a f_336_11 ?_
  refine w_a f_336_12 ?_
  refine w_a (ls := [(1, .long (I 59 0).toInt64), (0, .ref 58)]) f_336_13 ?_
  refine w_a f_336_14 ?_
  refine w_a f_336_17 ?_
  refine w_a f_336_18 ?_
  refine w_a f_336_19 ?_
  refine w_a f_336_20 ?_
  refine w_a (ls := [(3, .long (I 59 1).toInt64), (1, .long (I 59 0).toInt64), (0, .ref 58)]) f_336_21 ?_
  refine w_a f_336_22 ?_
  refine w_a f_336_25 ?_
  refine w_a f_336_26 ?_
  refine w_a f_336_27 ?_
  refine w_a f_336_28 ?_
  refine w_a (ls := [(5, .long (I 59 2).toInt64), (3, .long (I 59 1).toInt64), (1, .long (I 59 0).toInt64), (0, .ref 58)]) f_336_30 ?_
  refine w_a f_336_31 ?_
  refine w_a f_336_33 ?_
  refine w_a f_336_34 ?_
  refine w_a (ls := [(7, .long ((I 59 0).toInt64 * (I 59 2).toInt64)), (5, .long (I 59 2).toInt64), (3, .long (I 59 1).toInt64), (1, .long (I 59 0).toInt64), (0, .ref 58)]) f_336_36 ?_
  refine w_a f_336_37 ?_
  refine w_a f_336_38 ?_
  refine w_a f_336_40 ?_
  refine w_a f_336_41 ?_
  refine w_a (ls := [(9, .long ((-(I 59 1).toInt64) * (I 59 2).toInt64)), (7, .long ((I 59 0).toInt64 * (I 59 2).toInt64)), (5, .long (I 59 2).toInt64), (3, .long (I 59 1).toInt64), (1, .long (I 59 0).toInt64), (0, .ref 58)]) f_336_43 ?_
  refine w_a f_336_44 ?_
  refine w_a f_336_45 ?_
  refine w_a (ls := [(0, .long (I 59 0).toInt64), (2, .long (I 59 1).toInt64)]) f_235_0 ?_
  refine w_a f_235_1 ?_
  refine w_a f_235_2 ?_
  refine w_a f_235_3 ?_
  refine w_a f_235_4 ?_
  refine w_a f_235_5 ?_
  refine w_a f_235_6 ?_
  refine w_a f_235_7 ?_
  refine w_a (ls := [(9, .long ((-(I 59 1).toInt64) * (I 59 2).toInt64)), (7, .long ((I 59 0).toInt64 * (I 59 2).toInt64)), (5, .long (I 59 2).toInt64), (3, .long (I 59 1).toInt64), (1, .long (I 59 0).toInt64), (0, .ref 58)]) f_336_48 ?_
  refine w_a (ls := [(11, .long (((I 59 0).toInt64 * (I 59 0).toInt64) + ((I 59 1).toInt64 * (I 59 1).toInt64))), (9, .long ((-(I 59 1).toInt64) * (I 59 2).toInt64)), (7, .long ((I 59 0).toInt64 * (I 59 2).toInt64)), (5, .long (I 59 2).toInt64), (3, .long (I 59 1).toInt64), (1, .long (I 59 0).toInt64), (0, .ref 58)]) f_336_50 ?_
  refine w_a f_336_52 ?_
  exact w_c (ks := [0, 7, 9, 11]) f_336_54 rfl rfl h
set_option maxRecDepth 10000 in
set_option maxHeartbeats 4000000 in
theorem s_347_0 {Lx : Nat} {I : Mi} {L : Ml} {e : Nat} {Q : Kq} {x1 : Int32} {x2 : Int32} (h :
    (if x2 = 0 then
     (if x1 < (Int32.ofInt 1) then
      Q (.inl (some (.int (Int32.ofInt 0)))) (gE Lx) (ui I 58 0 (Int32.ofInt 1)) L e
     else
      (if (Int32.ofInt 3) < x1 then
       Q (.inl (some (.int (Int32.ofInt 0)))) (gE Lx) (ui I 58 0 (Int32.ofInt 1)) L e
      else
       Wp 348 0 [(0, .ref 58), (1, .int x1), (2, .int x2)] [] (gE Lx) (ui I 58 0 (Int32.ofInt 0)) L e (kcp (Wp 347) 347 27 0 [(0, .ref 58)] 71 [] Q)))
    else
     (if x1 < (Int32.ofInt (-10)) then
      Q (.inl (some (.int (Int32.ofInt 0)))) (gE Lx) (ui I 58 0 (Int32.ofInt 1)) L e
     else
      (if (Int32.ofInt 10) < x1 then
       Q (.inl (some (.int (Int32.ofInt 0)))) (gE Lx) (ui I 58 0 (Int32.ofInt 1)) L e
      else
       Wp 348 0 [(0, .ref 58), (1, .int x1), (2, .int x2)] [] (gE Lx) (ui I 58 0 (Int32.ofInt 0)) L e (kcp (Wp 347) 347 27 0 [(0, .ref 58)] 71 [] Q))))) :
    Wp 347 0 [(0, .ref 58), (1, .int x1), (2, .int x2)] [] (gE Lx) I L e Q := by
  refine w_a f_347_0 ?_
  refine w_a f_347_1 ?_
  refine w_a f_347_2 ?_
  refine w_a f_347_3 ?_
  refine w_a (ls := [(0, .int x1), (1, .int x2)]) f_338_0 ?_
  refine w_a f_338_1 ?_
  refine i_m (fun h => ?_) (fun h => ?_) h
  · refine w_a f_338_15 ?_
    refine w_a f_338_16 ?_
    refine w_a f_338_17 ?_
    refine w_a f_338_18 ?_
    refine w_a (ls := [(0, .int x1), (1, .int (Int32.ofInt 1)), (2, .int (Int32.ofInt 3))]) f_208_0 ?_
    refine w_a f_208_1 ?_
    refine w_a f_208_2 ?_
    refine i_m (fun h => ?_) (fun h => ?_) h
    · refine w_a f_208_14 ?_
      refine w_a f_208_15 ?_
      refine w_a (ls := [(0, .int x1), (1, .int x2)]) f_338_21 ?_
      refine w_a (ls := [(0, .ref 58), (1, .int x1), (2, .int x2)]) f_347_6 ?_
      refine w_a f_347_13 ?_
      refine w_a f_347_14 ?_
      refine w_a f_347_17 ?_
      refine w_a f_347_18 ?_
      refine w_a f_347_21 ?_
      refine w_a f_347_37 ?_
      refine w_a f_347_38 ?_
      exact h
    · refine w_a f_208_5 ?_
      refine w_a f_208_6 ?_
      refine w_a f_208_7 ?_
      refine i_m (fun h => ?_) (fun h => ?_) h
      · refine w_a f_208_14 ?_
        refine w_a f_208_15 ?_
        refine w_a (ls := [(0, .int x1), (1, .int x2)]) f_338_21 ?_
        refine w_a (ls := [(0, .ref 58), (1, .int x1), (2, .int x2)]) f_347_6 ?_
        refine w_a f_347_13 ?_
        refine w_a f_347_14 ?_
        refine w_a f_347_17 ?_
        refine w_a f_347_18 ?_
        refine w_a f_347_21 ?_
        refine w_a f_347_37 ?_
        refine w_a f_347_38 ?_
        exact h
      · refine w_a f_208_10 ?_
        refine w_a f_208_11 ?_
        refine w_a f_208_15 ?_
        refine w_a (ls := [(0, .int x1), (1, .int x2)]) f_338_21 ?_
        refine w_a (ls := [(0, .ref 58), (1, .int x1), (2, .int x2)]) f_347_6 ?_
        refine w_a f_347_9 ?_
        refine w_a f_347_10 ?_
        refine w_a f_347_14 ?_
        refine w_a f_347_17 ?_
        refine w_a f_347_18 ?_
        refine w_a f_347_21 ?_
        refine w_a f_347_24 ?_
        refine w_a f_347_25 ?_
        refine w_a f_347_26 ?_
        exact w_c (ks := [0]) f_347_27 rfl rfl h
  · refine w_a f_338_4 ?_
    refine w_a f_338_5 ?_
    refine w_a f_338_7 ?_
    refine w_a f_338_9 ?_
    refine w_a (ls := [(0, .int x1), (1, .int (Int32.ofInt (-10))), (2, .int (Int32.ofInt 10))]) f_208_0 ?_
    refine w_a f_208_1 ?_
    refine w_a f_208_2 ?_
    refine i_m (fun h => ?_) (fun h => ?_) h
    · refine w_a f_208_14 ?_
      refine w_a f_208_15 ?_
      refine w_a (ls := [(0, .int x1), (1, .int x2)]) f_338_12 ?_
      refine w_a f_338_21 ?_
      refine w_a (ls := [(0, .ref 58), (1, .int x1), (2, .int x2)]) f_347_6 ?_
      refine w_a f_347_13 ?_
      refine w_a f_347_14 ?_
      refine w_a f_347_17 ?_
      refine w_a f_347_18 ?_
      refine w_a f_347_21 ?_
      refine w_a f_347_37 ?_
      refine w_a f_347_38 ?_
      exact h
    · refine w_a f_208_5 ?_
      refine w_a f_208_6 ?_
      refine w_a f_208_7 ?_
      refine i_m (fun h => ?_) (fun h => ?_) h
      · refine w_a f_208_14 ?_
        refine w_a f_208_15 ?_
        refine w_a (ls := [(0, .int x1), (1, .int x2)]) f_338_12 ?_
        refine w_a f_338_21 ?_
        refine w_a (ls := [(0, .ref 58), (1, .int x1), (2, .int x2)]) f_347_6 ?_
        refine w_a f_347_13 ?_
        refine w_a f_347_14 ?_
        refine w_a f_347_17 ?_
        refine w_a f_347_18 ?_
        refine w_a f_347_21 ?_
        refine w_a f_347_37 ?_
        refine w_a f_347_38 ?_
        exact h
      · refine w_a f_208_10 ?_
        refine w_a f_208_11 ?_
        refine w_a f_208_15 ?_
        refine w_a (ls := [(0, .int x1), (1, .int x2)]) f_338_12 ?_
        refine w_a f_338_21 ?_
        refine w_a (ls := [(0, .ref 58), (1, .int x1), (2, .int x2)]) f_347_6 ?_
        refine w_a f_347_9 ?_
        refine w_a f_347_10 ?_
        refine w_a f_347_14 ?_
        refine w_a f_347_17 ?_
        refine w_a f_347_18 ?_
        refine w_a f_347_21 ?_
        refine w_a f_347_24 ?_
        refine w_a f_347_25 ?_
        refine w_a f_347_26 ?_
        exact w_c (ks := [0]) f_347_27 rfl rfl h
set_option maxRecDepth 10000 in
set_option maxHeartbeats 4000000 in
theorem s_350_0 {Lx : Nat} {I : Mi} {L : Ml} {e : Nat} {Q : Kq} (h :
    Wp 351 0 [(0, .ref 58)] [] (gE Lx) (ui I 58 0 (Int32.ofInt 0)) L e (kcp (Wp 350) 350 6 0 [(0, .ref 58)] 71 [] Q)) :
    Wp 350 0 [(0, .ref 58)] [] (gE Lx) I L e Q := by
  refine w_a f_350_0 ?_
  refine w_a f_350_1 ?_
  refine w_a f_350_2 ?_
  refine w_a f_350_5 ?_
  exact w_c (ks := [0]) f_350_6 rfl rfl h
set_option maxRecDepth 10000 in
set_option maxHeartbeats 4000000 in
theorem s_352_0 {Lx : Nat} {I : Mi} {L : Ml} {e : Nat} {Q : Kq} {x1 : Int32} (h :
    (if x1 < (Int32.ofInt 0) then
     Q (.inl (some (.long (Int64.ofInt 0)))) (gE Lx) (ui I 58 0 (Int32.ofInt 1)) L e
    else
     (if (Int32.ofInt 2) < x1 then
      Q (.inl (some (.long (Int64.ofInt 0)))) (gE Lx) (ui I 58 0 (Int32.ofInt 1)) L e
     else
      Wp 353 0 [(0, .ref 58)] [] (gE Lx) (ui I 58 0 (Int32.ofInt 0)) L e (kcp (Wp 352) 352 28 0 [(0, .ref 58), (1, .int x1)] 71 [] Q)))) :
    Wp 352 0 [(0, .ref 58), (1, .int x1)] [] (gE Lx) I L e Q := by
  refine w_a f_352_0 ?_
  refine w_a f_352_1 ?_
  refine w_a f_352_2 ?_
  refine w_a f_352_3 ?_
  refine w_a f_352_4 ?_
  refine w_a (ls := [(0, .int x1), (1, .int (Int32.ofInt 0)), (2, .int (Int32.ofInt 2))]) f_208_0 ?_
  refine w_a f_208_1 ?_
  refine w_a f_208_2 ?_
  refine i_m (fun h => ?_) (fun h => ?_) h
  · refine w_a f_208_14 ?_
    refine w_a f_208_15 ?_
    refine w_a (ls := [(0, .ref 58), (1, .int x1)]) f_352_7 ?_
    refine w_a f_352_14 ?_
    refine w_a f_352_15 ?_
    refine w_a f_352_18 ?_
    refine w_a f_352_19 ?_
    refine w_a f_352_22 ?_
    refine w_a f_352_25 ?_
    refine w_a f_352_26 ?_
    exact h
  · refine w_a f_208_5 ?_
    refine w_a f_208_6 ?_
    refine w_a f_208_7 ?_
    refine i_m (fun h => ?_) (fun h => ?_) h
    · refine w_a f_208_14 ?_
      refine w_a f_208_15 ?_
      refine w_a (ls := [(0, .ref 58), (1, .int x1)]) f_352_7 ?_
      refine w_a f_352_14 ?_
      refine w_a f_352_15 ?_
      refine w_a f_352_18 ?_
      refine w_a f_352_19 ?_
      refine w_a f_352_22 ?_
      refine w_a f_352_25 ?_
      refine w_a f_352_26 ?_
      exact h
    · refine w_a f_208_10 ?_
      refine w_a f_208_11 ?_
      refine w_a f_208_15 ?_
      refine w_a (ls := [(0, .ref 58), (1, .int x1)]) f_352_7 ?_
      refine w_a f_352_10 ?_
      refine w_a f_352_11 ?_
      refine w_a f_352_15 ?_
      refine w_a f_352_18 ?_
      refine w_a f_352_19 ?_
      refine w_a f_352_22 ?_
      refine w_a f_352_27 ?_
      exact w_c (ks := [0, 1]) f_352_28 rfl rfl h
set_option maxRecDepth 10000 in
set_option maxHeartbeats 4000000 in
theorem s_354_0 {Lx : Nat} {I : Mi} {L : Ml} {e : Nat} {Q : Kq} {x1 : Int32} (h :
    (if x1 < (Int32.ofInt 0) then
     Q (.inl (some (.int (Int32.ofInt 0)))) (gE Lx) (ui I 58 0 (Int32.ofInt 1)) L e
    else
     (if (Int32.ofInt 3) < x1 then
      Q (.inl (some (.int (Int32.ofInt 0)))) (gE Lx) (ui I 58 0 (Int32.ofInt 1)) L e
     else
      Wp 354 27 [(0, .ref 58), (1, .int x1), (2, .int (Int32.ofInt 0))] [] (gE Lx) (ui I 58 0 (Int32.ofInt 0)) L e Q))) :
    Wp 354 0 [(0, .ref 58), (1, .int x1)] [] (gE Lx) I L e Q := by
  refine w_a f_354_0 ?_
  refine w_a f_354_1 ?_
  refine w_a f_354_2 ?_
  refine w_a (ls := [(0, .int x1)]) f_355_0 ?_
  refine w_a f_355_1 ?_
  refine w_a f_355_2 ?_
  refine w_a f_355_3 ?_
  refine w_a (ls := [(0, .int x1), (1, .int (Int32.ofInt 0)), (2, .int (Int32.ofInt 3))]) f_208_0 ?_
  refine w_a f_208_1 ?_
  refine w_a f_208_2 ?_
  refine i_m (fun h => ?_) (fun h => ?_) h
  · refine w_a f_208_14 ?_
    refine w_a f_208_15 ?_
    refine w_a (ls := [(0, .int x1)]) f_355_6 ?_
    refine w_a (ls := [(0, .ref 58), (1, .int x1)]) f_354_5 ?_
    refine w_a f_354_12 ?_
    refine w_a f_354_13 ?_
    refine w_a f_354_16 ?_
    refine w_a f_354_17 ?_
    refine w_a f_354_20 ?_
    refine w_a f_354_23 ?_
    refine w_a f_354_24 ?_
    exact h
  · refine w_a f_208_5 ?_
    refine w_a f_208_6 ?_
    refine w_a f_208_7 ?_
    refine i_m (fun h => ?_) (fun h => ?_) h
    · refine w_a f_208_14 ?_
      refine w_a f_208_15 ?_
      refine w_a (ls := [(0, .int x1)]) f_355_6 ?_
      refine w_a (ls := [(0, .ref 58), (1, .int x1)]) f_354_5 ?_
      refine w_a f_354_12 ?_
      refine w_a f_354_13 ?_
      refine w_a f_354_16 ?_
      refine w_a f_354_17 ?_
      refine w_a f_354_20 ?_
      refine w_a f_354_23 ?_
      refine w_a f_354_24 ?_
      exact h
    · refine w_a f_208_10 ?_
      refine w_a f_208_11 ?_
      refine w_a f_208_15 ?_
      refine w_a (ls := [(0, .int x1)]) f_355_6 ?_
      refine w_a (ls := [(0, .ref 58), (1, .int x1)]) f_354_5 ?_
      refine w_a f_354_8 ?_
      refine w_a f_354_9 ?_
      refine w_a f_354_13 ?_
      refine w_a f_354_16 ?_
      refine w_a f_354_17 ?_
      refine w_a f_354_20 ?_
      refine w_a f_354_25 ?_
      refine w_a f_354_26 ?_
      exact w_n (ks := [0, 1, 2]) rfl h
set_option maxRecDepth 10000 in
set_option maxHeartbeats 4000000 in
theorem s_356_0 {Lx : Nat} {I : Mi} {L : Ml} {e : Nat} {Q : Kq} {x1 : Int32} (h :
    (if x1 < (Int32.ofInt 0) then
     Q (.inl (some (.int (Int32.ofInt 0)))) (gE Lx) (ui I 58 0 (Int32.ofInt 1)) L e
    else
     (if (Int32.ofInt 3) < x1 then
      Q (.inl (some (.int (Int32.ofInt 0)))) (gE Lx) (ui I 58 0 (Int32.ofInt 1)) L e
     else
      (inb (((Int32.ofInt 17) * x1) + (Int32.ofInt 16)) 68 (
       (if (I 60 ((((Int32.ofInt 17) * x1) + (Int32.ofInt 16)).toNatClampNeg)) = (Int32.ofInt 1) then
        Wp 358 0 [(0, .ref 58), (1, .int x1)] [] (gE Lx) (ui I 58 0 (Int32.ofInt 0)) L e (kcp (Wp 356) 356 39 0 [(0, .ref 58)] 71 [] Q)
       else
        Q (.inl (some (.int (Int32.ofInt 0)))) (gE Lx) (ui I 58 0 (Int32.ofInt 2)) L e))
      False)))) :
    Wp 356 0 [(0, .ref 58), (1, .int x1)] [] (gE Lx) I L e Q := by
  refine w_a f_356_0 ?_
  refine w_a f_356_1 ?_
  refine w_a f_356_2 ?_
  refine w_a (ls := [(0, .int x1)]) f_355_0 ?_
  refine w_a f_355_1 ?_
  refine w_a f_355_2 ?_
  refine w_a f_355_3 ?_
  refine w_a (ls := [(0, .int x1), (1, .int (Int32.ofInt 0)), (2, .int (Int32.ofInt 3))]) f_208_0 ?_
  refine w_a f_208_1 ?_
  refine w_a f_208_2 ?_
  refine i_m (fun h => ?_) (fun h => ?_) h
  · refine w_a f_208_14 ?_
    refine w_a f_208_15 ?_
    refine w_a (ls := [(0, .int x1)]) f_355_6 ?_
    refine w_a (ls := [(0, .ref 58), (1, .int x1)]) f_356_5 ?_
    refine w_a f_356_8 ?_
    refine w_a f_356_9 ?_
    refine w_a f_356_25 ?_
    refine w_a f_356_28 ?_
    refine w_a f_356_29 ?_
    refine w_a f_356_32 ?_
    refine w_a f_356_35 ?_
    refine w_a f_356_36 ?_
    exact h
  · refine w_a f_208_5 ?_
    refine w_a f_208_6 ?_
    refine w_a f_208_7 ?_
    refine i_m (fun h => ?_) (fun h => ?_) h
    · refine w_a f_208_14 ?_
      refine w_a f_208_15 ?_
      refine w_a (ls := [(0, .int x1)]) f_355_6 ?_
      refine w_a (ls := [(0, .ref 58), (1, .int x1)]) f_356_5 ?_
      refine w_a f_356_8 ?_
      refine w_a f_356_9 ?_
      refine w_a f_356_25 ?_
      refine w_a f_356_28 ?_
      refine w_a f_356_29 ?_
      refine w_a f_356_32 ?_
      refine w_a f_356_35 ?_
      refine w_a f_356_36 ?_
      exact h
    · refine w_a f_208_10 ?_
      refine w_a f_208_11 ?_
      refine w_a f_208_15 ?_
      refine w_a (ls := [(0, .int x1)]) f_355_6 ?_
      refine w_a (ls := [(0, .ref 58), (1, .int x1)]) f_356_5 ?_
      refine w_a f_356_12 ?_
      refine w_a f_356_13 ?_
      refine w_a f_356_14 ?_
      refine w_a (ls := [(0, .ref 58), (1, .int x1)]) f_357_0 ?_
      refine w_a f_357_1 ?_
      refine w_a f_357_4 ?_
      refine w_a f_357_6 ?_
      refine w_a f_357_7 ?_
      refine w_a f_357_8 ?_
      refine w_a f_357_10 ?_
      refine w_a f_357_11 ?_
      refine n_m (fun h => ?_) h
      refine w_a f_357_12 ?_
      refine w_a f_357_13 ?_
      refine i_m (fun h => ?_) (fun h => ?_) h
      · refine w_a f_357_16 ?_
        refine w_a f_357_17 ?_
        refine w_a f_357_21 ?_
        refine w_a (ls := [(0, .ref 58), (1, .int x1)]) f_356_17 ?_
        refine w_a f_356_24 ?_
        refine w_a f_356_25 ?_
        refine w_a f_356_28 ?_
        refine w_a f_356_29 ?_
        refine w_a f_356_32 ?_
        refine w_a f_356_37 ?_
        refine w_a f_356_38 ?_
        exact w_c (ks := [0]) f_356_39 rfl rfl h
      · refine w_a f_357_20 ?_
        refine w_a f_357_21 ?_
        refine w_a (ls := [(0, .ref 58), (1, .int x1)]) f_356_17 ?_
        refine w_a f_356_20 ?_
        refine w_a f_356_21 ?_
        refine w_a f_356_25 ?_
        refine w_a f_356_28 ?_
        refine w_a f_356_29 ?_
        refine w_a f_356_32 ?_
        refine w_a f_356_35 ?_
        refine w_a f_356_36 ?_
        exact h
set_option maxRecDepth 10000 in
set_option maxHeartbeats 4000000 in
theorem s_359_0 {Lx : Nat} {I : Mi} {L : Ml} {e : Nat} {Q : Kq} {x1 : Int32} (h :
    Wp 360 0 [(0, .ref 58)] [] (gE Lx) (ui I 58 0 (Int32.ofInt 0)) L e (kcp (Wp 359) 359 6 0 [(0, .ref 58), (1, .int x1)] 71 [] Q)) :
    Wp 359 0 [(0, .ref 58), (1, .int x1)] [] (gE Lx) I L e Q := by
  refine w_a f_359_0 ?_
  refine w_a f_359_1 ?_
  refine w_a f_359_2 ?_
  refine w_a f_359_5 ?_
  exact w_c (ks := [0, 1]) f_359_6 rfl rfl h
set_option maxRecDepth 10000 in
set_option maxHeartbeats 4000000 in
theorem s_362_0 {Lx : Nat} {I : Mi} {L : Ml} {e : Nat} {Q : Kq} {x1 : Int32} (h :
    (if x1 = Int32.ofInt 0 then
     Q (.inl (some (.int (I 59 3)))) (gE Lx) (ui I 58 0 (Int32.ofInt 0)) L e
    else
    (if x1 = Int32.ofInt 1 then
     Q (.inl (some (.int (I 59 0)))) (gE Lx) (ui I 58 0 (Int32.ofInt 0)) L e
    else
    (if x1 = Int32.ofInt 2 then
     Q (.inl (some (.int (I 59 1)))) (gE Lx) (ui I 58 0 (Int32.ofInt 0)) L e
    else
    (if x1 = Int32.ofInt 3 then
     Q (.inl (some (.int (I 59 2)))) (gE Lx) (ui I 58 0 (Int32.ofInt 0)) L e
    else
    (if x1 = Int32.ofInt 4 then
     Q (.inl (some (.int (I 58 3)))) (gE Lx) (ui I 58 0 (Int32.ofInt 0)) L e
    else
    (if x1 = Int32.ofInt 5 then
     Q (.inl (some (.int (I 58 4)))) (gE Lx) (ui I 58 0 (Int32.ofInt 0)) L e
    else
    (if x1 = Int32.ofInt 6 then
     Wp 363 4 [(0, .ref 58), (1, .int (Int32.ofInt 0)), (2, .int (Int32.ofInt 0))] [] (gE Lx) (ui I 58 0 (Int32.ofInt 0)) L e (kcp (Wp 362) 362 97 0 [(0, .ref 58)] 71 [] Q)
    else
    (if x1 = Int32.ofInt 7 then
     Wp 227 0 [(0, .ref 58), (1, .int (I 59 3))] [] (gE Lx) (ui I 58 0 (Int32.ofInt 0)) L e (kcp (Wp 364) 364 5 0 [(0, .ref 58)] 71 [] (kcp (Wp 362) 362 102 0 [(0, .ref 58)] 71 [] Q))
    else
    (if x1 = Int32.ofInt 8 then
     Wp 365 2 [(0, .ref 58), (1, .int (Int32.ofInt 3))] [] (gE Lx) (ui I 58 0 (Int32.ofInt 0)) L e (kcp (Wp 362) 362 115 0 [(0, .ref 58)] 71 [] Q)
    else
    (if x1 = Int32.ofInt 9 then
     Wp 366 4 [(0, .ref 58), (1, .int (Int32.ofInt 0)), (2, .int (Int32.ofInt 1))] [] (gE Lx) (ui I 58 0 (Int32.ofInt 0)) L e (kcp (Wp 362) 362 120 0 [(0, .ref 58)] 71 [] Q)
    else
     Q (.inl (some (.int (Int32.ofInt (-1))))) (gE Lx) (ui I 58 0 (Int32.ofInt 0)) L e))))))))))) :
    Wp 362 0 [(0, .ref 58), (1, .int x1)] [] (gE Lx) I L e Q := by
  refine w_a f_362_0 ?_
  refine w_a f_362_1 ?_
  refine w_a f_362_2 ?_
  refine w_a f_362_5 ?_
  refine w_a f_362_6 ?_
  refine i_m (fun h => ?_) (fun h => ?_) h
  · refine w_a f_362_60 ?_
    refine w_a f_362_61 ?_
    refine w_a (ls := [(0, .ref 58)]) f_215_0 ?_
    refine w_a f_215_1 ?_
    refine w_a f_215_4 ?_
    refine w_a f_215_5 ?_
    refine w_a f_215_6 ?_
    refine w_a (ls := [(0, .ref 58), (1, .int x1)]) f_362_64 ?_
    exact h
  · refine i_m (fun h => ?_) (fun h => ?_) h
    · refine w_a f_362_65 ?_
      refine w_a f_362_66 ?_
      refine w_a f_362_69 ?_
      refine w_a f_362_70 ?_
      refine w_a f_362_71 ?_
      exact h
    · refine i_m (fun h => ?_) (fun h => ?_) h
      · refine w_a f_362_72 ?_
        refine w_a f_362_73 ?_
        refine w_a f_362_76 ?_
        refine w_a f_362_77 ?_
        refine w_a f_362_78 ?_
        exact h
      · refine i_m (fun h => ?_) (fun h => ?_) h
        · refine w_a f_362_79 ?_
          refine w_a f_362_80 ?_
          refine w_a f_362_83 ?_
          refine w_a f_362_84 ?_
          refine w_a f_362_85 ?_
          exact h
        · refine i_m (fun h => ?_) (fun h => ?_) h
          · refine w_a f_362_86 ?_
            refine w_a f_362_87 ?_
            refine w_a f_362_90 ?_
            exact h
          · refine i_m (fun h => ?_) (fun h => ?_) h
            · refine w_a f_362_91 ?_
              refine w_a f_362_92 ?_
              refine w_a f_362_95 ?_
              exact h
            · refine i_m (fun h => ?_) (fun h => ?_) h
              · refine w_a f_362_96 ?_
                refine w_c (ks := [0]) f_362_97 rfl rfl ?_
                refine w_a (ls := [(0, .ref 58)]) f_363_0 ?_
                refine w_a f_363_1 ?_
                refine w_a (ls := [(1, .int (Int32.ofInt 0)), (0, .ref 58)]) f_363_2 ?_
                refine w_a f_363_3 ?_
                exact w_n (ks := [0, 1, 2]) rfl h
              · refine i_m (fun h => ?_) (fun h => ?_) h
                · refine w_a f_362_101 ?_
                  refine w_c (ks := [0]) f_362_102 rfl rfl ?_
                  refine w_a (ls := [(0, .ref 58)]) f_364_0 ?_
                  refine w_a f_364_1 ?_
                  refine w_a f_364_2 ?_
                  refine w_a (ls := [(0, .ref 58)]) f_215_0 ?_
                  refine w_a f_215_1 ?_
                  refine w_a f_215_4 ?_
                  refine w_a f_215_5 ?_
                  refine w_a f_215_6 ?_
                  exact w_c (ls := [(0, .ref 58)]) (ks := [0]) f_364_5 rfl rfl h
                · refine i_m (fun h => ?_) (fun h => ?_) h
                  · refine w_a f_362_114 ?_
                    refine w_c (ks := [0]) f_362_115 rfl rfl ?_
                    refine w_a (ls := [(0, .ref 58)]) f_365_0 ?_
                    refine w_a f_365_1 ?_
                    exact w_n (ks := [0, 1]) rfl h
                  · refine i_m (fun h => ?_) (fun h => ?_) h
                    · refine w_a f_362_119 ?_
                      refine w_c (ks := [0]) f_362_120 rfl rfl ?_
                      refine w_a (ls := [(0, .ref 58)]) f_366_0 ?_
                      refine w_a f_366_1 ?_
                      refine w_a (ls := [(1, .int (Int32.ofInt 0)), (0, .ref 58)]) f_366_2 ?_
                      refine w_a f_366_3 ?_
                      exact w_n (ks := [0, 1, 2]) rfl h
                    · refine w_a f_362_124 ?_
                      refine w_a f_362_125 ?_
                      exact h
set_option maxRecDepth 10000 in
set_option maxHeartbeats 4000000 in
theorem s_367_0 {Lx : Nat} {I : Mi} {L : Ml} {e : Nat} {Q : Kq} {x1 : Int32} {x2 : Int32} {x3 : Int32} (h :
    (if x1 < 0 then
     Q (.inl (some (.int (Int32.ofInt 1)))) (gE Lx) I L (e + 1)
    else
     (if (Int32.ofInt 99) < x1 then
      Q (.inl (some (.int (Int32.ofInt 1)))) (gE Lx) I L (e + 1)
     else
      (if x2 < (Int32.ofInt (-99)) then
       Q (.inl (some (.int (Int32.ofInt 1)))) (gE Lx) I L (e + 1)
      else
       (if (Int32.ofInt 99) < x2 then
        Q (.inl (some (.int (Int32.ofInt 1)))) (gE Lx) I L (e + 1)
       else
        (if x3 < (Int32.ofInt 1) then
         Q (.inl (some (.int (Int32.ofInt 1)))) (gE Lx) I L (e + 1)
        else
         (if (Int32.ofInt 20) < x3 then
          Q (.inl (some (.int (Int32.ofInt 1)))) (gE Lx) I L (e + 1)
         else
          Q (.inl (some (.int (Int32.ofInt 0)))) (gE Lx) (ui (ui (ui I 5 0 x1) 5 1 x2) 5 2 x3) L e))))))) :
    Wp 367 0 [(0, .ref 1), (1, .int x1), (2, .int x2), (3, .int x3)] [] (gE Lx) I L e Q := by
  refine w_a f_367_0 ?_
  refine w_a f_367_1 ?_
  refine w_a f_367_2 ?_
  refine w_a f_367_3 ?_
  refine w_a f_367_4 ?_
  refine w_a (ls := [(0, .ref 1), (1, .int x1), (2, .int x2), (3, .int x3)]) f_110_0 ?_
  refine w_a f_110_1 ?_
  refine w_a f_110_2 ?_
  refine w_a f_110_3 ?_
  refine w_a (ls := [(0, .int x1), (1, .int x2), (2, .int x3)]) f_111_0 ?_
  refine w_a f_111_1 ?_
  refine i_m (fun h => ?_) (fun h => ?_) h
  · refine w_a f_111_37 ?_
    refine w_a f_111_38 ?_
    refine w_a (ls := [(0, .ref 1), (1, .int x1), (2, .int x2), (3, .int x3)]) f_110_6 ?_
    refine w_a f_110_9 ?_
    exact h
  · refine w_a f_111_4 ?_
    refine w_a f_111_5 ?_
    refine w_a f_111_7 ?_
    refine i_m (fun h => ?_) (fun h => ?_) h
    · refine w_a f_111_37 ?_
      refine w_a f_111_38 ?_
      refine w_a (ls := [(0, .ref 1), (1, .int x1), (2, .int x2), (3, .int x3)]) f_110_6 ?_
      refine w_a f_110_9 ?_
      exact h
    · refine w_a f_111_10 ?_
      refine w_a f_111_11 ?_
      refine w_a f_111_13 ?_
      refine i_m (fun h => ?_) (fun h => ?_) h
      · refine w_a f_111_37 ?_
        refine w_a f_111_38 ?_
        refine w_a (ls := [(0, .ref 1), (1, .int x1), (2, .int x2), (3, .int x3)]) f_110_6 ?_
        refine w_a f_110_9 ?_
        exact h
      · refine w_a f_111_16 ?_
        refine w_a f_111_17 ?_
        refine w_a f_111_19 ?_
        refine i_m (fun h => ?_) (fun h => ?_) h
        · refine w_a f_111_37 ?_
          refine w_a f_111_38 ?_
          refine w_a (ls := [(0, .ref 1), (1, .int x1), (2, .int x2), (3, .int x3)]) f_110_6 ?_
          refine w_a f_110_9 ?_
          exact h
        · refine w_a f_111_22 ?_
          refine w_a f_111_23 ?_
          refine w_a f_111_24 ?_
          refine i_m (fun h => ?_) (fun h => ?_) h
          · refine w_a f_111_37 ?_
            refine w_a f_111_38 ?_
            refine w_a (ls := [(0, .ref 1), (1, .int x1), (2, .int x2), (3, .int x3)]) f_110_6 ?_
            refine w_a f_110_9 ?_
            exact h
          · refine w_a f_111_27 ?_
            refine w_a f_111_28 ?_
            refine w_a f_111_30 ?_
            refine i_m (fun h => ?_) (fun h => ?_) h
            · refine w_a f_111_37 ?_
              refine w_a f_111_38 ?_
              refine w_a (ls := [(0, .ref 1), (1, .int x1), (2, .int x2), (3, .int x3)]) f_110_6 ?_
              refine w_a f_110_9 ?_
              exact h
            · refine w_a f_111_33 ?_
              refine w_a f_111_34 ?_
              refine w_a f_111_38 ?_
              refine w_a (ls := [(0, .ref 1), (1, .int x1), (2, .int x2), (3, .int x3)]) f_110_6 ?_
              refine w_a f_110_17 ?_
              refine w_a f_110_18 ?_
              refine w_a f_110_21 ?_
              refine w_a f_110_22 ?_
              refine w_a f_110_23 ?_
              refine w_a f_110_24 ?_
              refine w_a (ls := [(0, .ref 5), (1, .int x1), (2, .int x2), (3, .int x3)]) f_17_0 ?_
              refine w_a f_17_1 ?_
              refine w_a f_17_2 ?_
              refine w_a f_17_5 ?_
              refine w_a f_17_6 ?_
              refine w_a f_17_7 ?_
              refine w_a f_17_10 ?_
              refine w_a f_17_11 ?_
              refine w_a f_17_12 ?_
              refine w_a f_17_15 ?_
              refine w_a (ls := [(0, .ref 1), (1, .int x1), (2, .int x2), (3, .int x3)]) f_110_27 ?_
              refine w_a (ls := [(0, .ref 1), (1, .int x1), (2, .int x2), (3, .int x3)]) f_367_7 ?_
              refine w_a f_367_14 ?_
              refine w_a f_367_15 ?_
              exact h
set_option maxRecDepth 10000 in
set_option maxHeartbeats 4000000 in
theorem s_368_0 {Lx : Nat} {I : Mi} {L : Ml} {e : Nat} {Q : Kq} {x1 : Int32} {x2 : Int32} {x3 : Int32} (h :
    (if x1 < 0 then
     Q (.inl (some (.int (Int32.ofInt 1)))) (gE Lx) I L (e + 1)
    else
     (if (Int32.ofInt 4) < x1 then
      Q (.inl (some (.int (Int32.ofInt 1)))) (gE Lx) I L (e + 1)
     else
      Wp 114 0 [(0, .long x2.toInt64), (2, .long x3.toInt64)] [] (gE Lx) I L e (kcp (Wp 113) 113 4 0 [(0, .ref 1)] 71 [] (kcp (Wp 112) 112 20 0 [(0, .ref 1), (1, .int x1), (2, .int x2), (3, .int x3)] 71 [] (kcp (Wp 368) 368 7 0 [(0, .ref 1), (4, .ref 70)] 71 [.int (Int32.ofInt 0), .ref 70] Q)))))) :
    Wp 368 0 [(0, .ref 1), (1, .int x1), (2, .int x2), (3, .int x3), (4, .ref 70)] [] (gE Lx) I L e Q := by
  refine w_a f_368_0 ?_
  refine w_a f_368_2 ?_
  refine w_a f_368_3 ?_
  refine w_a f_368_4 ?_
  refine w_a f_368_5 ?_
  refine w_a f_368_6 ?_
  refine w_c (ks := [0, 4]) f_368_7 rfl rfl ?_
  refine w_a (ls := [(0, .ref 1), (1, .int x1), (2, .int x2), (3, .int x3)]) f_112_0 ?_
  refine w_a f_112_1 ?_
  refine i_m (fun h => ?_) (fun h => ?_) h
  · refine w_a f_112_9 ?_
    exact h
  · refine w_a f_112_4 ?_
    refine w_a f_112_5 ?_
    refine w_a f_112_6 ?_
    refine i_m (fun h => ?_) (fun h => ?_) h
    · refine w_a f_112_9 ?_
      exact h
    · refine w_a f_112_17 ?_
      refine w_a f_112_18 ?_
      refine w_a f_112_19 ?_
      refine w_c (ks := [0, 1, 2, 3]) f_112_20 rfl rfl ?_
      refine w_a (ls := [(0, .ref 1), (1, .int x2), (2, .int x3)]) f_113_0 ?_
      refine w_a f_113_1 ?_
      refine w_a f_113_2 ?_
      refine w_a f_113_3 ?_
      exact w_c (ks := [0]) f_113_4 rfl rfl h
set_option maxRecDepth 10000 in
set_option maxHeartbeats 4000000 in
theorem s_369_0 {Lx : Nat} {I : Mi} {L : Ml} {e : Nat} {Q : Kq} (h :
    (if 0 < (I 5 3) then
     Q (.inl (some (.int (Int32.ofInt 0)))) (gE Lx) (ui I 5 3 ((I 5 3) - (Int32.ofInt 1))) (ul L 70 0 (((I 5 3) - (Int32.ofInt 1)).toInt64)) e
    else
     Q (.inl (some (.int (Int32.ofInt 1)))) (gE Lx) I L (e + 1))) :
    Wp 369 0 [(0, .ref 1), (1, .ref 70)] [] (gE Lx) I L e Q := by
  refine w_a f_369_0 ?_
  refine w_a f_369_1 ?_
  refine w_a f_369_2 ?_
  refine w_a f_369_3 ?_
  refine w_a (ls := [(0, .ref 1)]) f_115_0 ?_
  refine w_a f_115_1 ?_
  refine w_a f_115_4 ?_
  refine w_a f_115_7 ?_
  refine i_m (fun h => ?_) (fun h => ?_) h
  · refine w_a f_115_18 ?_
    refine w_a f_115_19 ?_
    refine w_a f_115_22 ?_
    refine w_a f_115_23 ?_
    refine w_a f_115_26 ?_
    refine w_a f_115_27 ?_
    refine w_a f_115_28 ?_
    refine w_a f_115_31 ?_
    refine w_a f_115_32 ?_
    refine w_a f_115_35 ?_
    refine w_a f_115_38 ?_
    refine w_a (ls := [(0, .ref 1), (1, .ref 70)]) f_369_6 ?_
    refine w_a f_369_7 ?_
    refine w_a f_369_8 ?_
    refine w_a f_369_14 ?_
    refine w_a f_369_15 ?_
    exact h
  · refine w_a f_115_10 ?_
    exact h
set_option maxRecDepth 10000 in
set_option maxHeartbeats 4000000 in
theorem s_370_0 {Lx : Nat} {I : Mi} {L : Ml} {e : Nat} {Q : Kq} {x1 : Int32} {x2 : Int32} {x3 : Int32} (h :
    (if x1 < 0 then
     Q (.inl (some (.int (Int32.ofInt 1)))) (gE Lx) I L (e + 1)
    else
     (if x1 < (I 5 3) then
      Wp 114 0 [(0, .long x2.toInt64), (2, .long x3.toInt64)] [] (gE Lx) I L e (kcp (Wp 113) 113 4 0 [(0, .ref 1)] 71 [] (kcp (Wp 116) 116 8 0 [(0, .ref 1), (1, .int x1), (2, .int x2), (3, .int x3)] 71 [] (kcp (Wp 370) 370 4 0 [(0, .ref 1)] 71 [] Q)))
     else
      Q (.inl (some (.int (Int32.ofInt 1)))) (gE Lx) I L (e + 1)))) :
    Wp 370 0 [(0, .ref 1), (1, .int x1), (2, .int x2), (3, .int x3)] [] (gE Lx) I L e Q := by
  refine w_a f_370_0 ?_
  refine w_a f_370_1 ?_
  refine w_a f_370_2 ?_
  refine w_a f_370_3 ?_
  refine w_c (ks := [0]) f_370_4 rfl rfl ?_
  refine w_a (ls := [(0, .ref 1), (1, .int x1), (2, .int x2), (3, .int x3)]) f_116_0 ?_
  refine w_a f_116_1 ?_
  refine w_a f_116_2 ?_
  refine w_a (ls := [(0, .ref 1), (1, .int x1)]) f_117_0 ?_
  refine w_a f_117_1 ?_
  refine i_m (fun h => ?_) (fun h => ?_) h
  · refine w_a f_117_15 ?_
    exact h
  · refine w_a f_117_4 ?_
    refine w_a f_117_5 ?_
    refine w_a f_117_6 ?_
    refine w_a f_117_9 ?_
    refine w_a f_117_12 ?_
    refine i_m (fun h => ?_) (fun h => ?_) h
    · refine w_a f_117_23 ?_
      refine w_a (ls := [(0, .ref 1), (1, .int x1), (2, .int x2), (3, .int x3)]) f_116_5 ?_
      refine w_a f_116_6 ?_
      refine w_a f_116_7 ?_
      refine w_c (ks := [0, 1, 2, 3]) f_116_8 rfl rfl ?_
      refine w_a (ls := [(0, .ref 1), (1, .int x2), (2, .int x3)]) f_113_0 ?_
      refine w_a f_113_1 ?_
      refine w_a f_113_2 ?_
      refine w_a f_113_3 ?_
      exact w_c (ks := [0]) f_113_4 rfl rfl h
    · refine w_a f_117_15 ?_
      exact h
set_option maxRecDepth 10000 in
set_option maxHeartbeats 4000000 in
theorem s_371_0 {Lx : Nat} {I : Mi} {L : Ml} {e : Nat} {Q : Kq} {x1 : Int32} {x2 : Int32} (h :
    (if x1 < 0 then
     Q (.inl (some (.int (Int32.ofInt 1)))) (gE Lx) I L (e + 1)
    else
     (if x2 < (Int32.ofInt 1) then
      Q (.inl (some (.int (Int32.ofInt 1)))) (gE Lx) I L (e + 1)
     else
      (if (Int32.ofInt 20) < x2 then
       Q (.inl (some (.int (Int32.ofInt 1)))) (gE Lx) I L (e + 1)
      else
       (if x1 < x2 then
        Q (.inl (some (.int (Int32.ofInt 0)))) (gE Lx) (ui (ui I 1 4 x1) 1 5 x2) L e
       else
        Q (.inl (some (.int (Int32.ofInt 1)))) (gE Lx) I L (e + 1)))))) :
    Wp 371 0 [(0, .ref 1), (1, .int x1), (2, .int x2)] [] (gE Lx) I L e Q := by
  refine w_a f_371_0 ?_
  refine w_a f_371_1 ?_
  refine w_a f_371_2 ?_
  refine w_a f_371_3 ?_
  refine w_a (ls := [(0, .ref 1), (1, .int x1), (2, .int x2)]) f_118_0 ?_
  refine w_a f_118_1 ?_
  refine i_m (fun h => ?_) (fun h => ?_) h
  · refine w_a f_118_20 ?_
    exact h
  · refine w_a f_118_4 ?_
    refine w_a f_118_5 ?_
    refine w_a f_118_6 ?_
    refine i_m (fun h => ?_) (fun h => ?_) h
    · refine w_a f_118_20 ?_
      exact h
    · refine w_a f_118_9 ?_
      refine w_a f_118_10 ?_
      refine w_a f_118_12 ?_
      refine i_m (fun h => ?_) (fun h => ?_) h
      · refine w_a f_118_20 ?_
        exact h
      · refine w_a f_118_15 ?_
        refine w_a f_118_16 ?_
        refine w_a f_118_17 ?_
        refine i_m (fun h => ?_) (fun h => ?_) h
        · refine w_a f_118_28 ?_
          refine w_a f_118_29 ?_
          refine w_a f_118_30 ?_
          refine w_a f_118_33 ?_
          refine w_a f_118_34 ?_
          refine w_a f_118_35 ?_
          refine w_a f_118_38 ?_
          refine w_a (ls := [(0, .ref 1), (1, .int x1), (2, .int x2)]) f_371_6 ?_
          refine w_a f_371_12 ?_
          refine w_a f_371_13 ?_
          exact h
        · refine w_a f_118_20 ?_
          exact h
set_option maxRecDepth 10000 in
set_option maxHeartbeats 4000000 in
theorem s_372_0 {Lx : Nat} {I : Mi} {L : Ml} {e : Nat} {Q : Kq} {x1 : Int32} {x2 : Int32} (h :
    (if x1 < 0 then
     Q (.inl (some (.int (Int32.ofInt 1)))) (gE Lx) I L (e + 1)
    else
     (if x1 < (I 5 3) then
      (if x2 < 0 then
       Q (.inl (some (.int (Int32.ofInt 2)))) (gE Lx) I L (e + 1)
      else
       (if (Int32.ofInt 2) < x2 then
        Q (.inl (some (.int (Int32.ofInt 2)))) (gE Lx) I L (e + 1)
       else
        (if x2 = 0 then
         Wp 12 0 [(0, .ref 5), (1, .int x1)] [] (gE Lx) I L e (kcp (Wp 119) 119 20 0 [(0, .ref 1)] 71 [] (kcp (Wp 372) 372 5 0 [(0, .ref 1), (3, .ref 70)] 71 [.int (Int32.ofInt 0), .ref 70] Q))
        else
         (if x2 = (Int32.ofInt 1) then
          Wp 14 0 [(0, .ref 5), (1, .int x1)] [] (gE Lx) I L e (kcp (Wp 119) 119 34 0 [(0, .ref 1)] 71 [] (kcp (Wp 372) 372 5 0 [(0, .ref 1), (3, .ref 70)] 71 [.int (Int32.ofInt 0), .ref 70] Q))
         else
          Wp 15 0 [(0, .ref 5), (1, .int x1)] [] (gE Lx) I L e (kcp (Wp 119) 119 45 0 [(0, .ref 1)] 71 [] (kcp (Wp 372) 372 5 0 [(0, .ref 1), (3, .ref 70)] 71 [.int (Int32.ofInt 0), .ref 70] Q))))))
     else
      Q (.inl (some (.int (Int32.ofInt 1)))) (gE Lx) I L (e + 1)))) :
    Wp 372 0 [(0, .ref 1), (1, .int x1), (2, .int x2), (3, .ref 70)] [] (gE Lx) I L e Q := by
  refine w_a f_372_0 ?_
  refine w_a f_372_1 ?_
  refine w_a f_372_2 ?_
  refine w_a f_372_3 ?_
  refine w_a f_372_4 ?_
  refine w_c (ks := [0, 3]) f_372_5 rfl rfl ?_
  refine w_a (ls := [(0, .ref 1), (1, .int x1), (2, .int x2)]) f_119_0 ?_
  refine w_a f_119_1 ?_
  refine w_a f_119_2 ?_
  refine w_a (ls := [(0, .ref 1), (1, .int x1)]) f_117_0 ?_
  refine w_a f_117_1 ?_
  refine i_m (fun h => ?_) (fun h => ?_) h
  · refine w_a f_117_15 ?_
    exact h
  · refine w_a f_117_4 ?_
    refine w_a f_117_5 ?_
    refine w_a f_117_6 ?_
    refine w_a f_117_9 ?_
    refine w_a f_117_12 ?_
    refine i_m (fun h => ?_) (fun h => ?_) h
    · refine w_a f_117_23 ?_
      refine w_a (ls := [(0, .ref 1), (1, .int x1), (2, .int x2)]) f_119_5 ?_
      refine w_a f_119_6 ?_
      refine w_a f_119_7 ?_
      refine w_a f_119_8 ?_
      refine w_a (ls := [(0, .ref 1), (1, .int x2), (2, .int (Int32.ofInt 2))]) f_120_0 ?_
      refine w_a f_120_1 ?_
      refine i_m (fun h => ?_) (fun h => ?_) h
      · refine w_a f_120_9 ?_
        exact h
      · refine w_a f_120_4 ?_
        refine w_a f_120_5 ?_
        refine w_a f_120_6 ?_
        refine i_m (fun h => ?_) (fun h => ?_) h
        · refine w_a f_120_9 ?_
          exact h
        · refine w_a f_120_17 ?_
          refine w_a (ls := [(0, .ref 1), (1, .int x1), (2, .int x2)]) f_119_11 ?_
          refine w_a f_119_12 ?_
          refine i_m (fun h => ?_) (fun h => ?_) h
          · refine w_a f_119_15 ?_
            refine w_a f_119_16 ?_
            refine w_a f_119_19 ?_
            exact w_c (ks := [0]) f_119_20 rfl rfl h
          · refine w_a f_119_24 ?_
            refine w_a f_119_25 ?_
            refine w_a f_119_26 ?_
            refine i_m (fun h => ?_) (fun h => ?_) h
            · refine w_a f_119_29 ?_
              refine w_a f_119_30 ?_
              refine w_a f_119_33 ?_
              exact w_c (ks := [0]) f_119_34 rfl rfl h
            · refine w_a f_119_40 ?_
              refine w_a f_119_41 ?_
              refine w_a f_119_44 ?_
              exact w_c (ks := [0]) f_119_45 rfl rfl h
    · refine w_a f_117_15 ?_
      exact h
set_option maxRecDepth 10000 in
set_option maxHeartbeats 4000000 in
theorem s_373_0 {Lx : Nat} {I : Mi} {L : Ml} {e : Nat} {Q : Kq} {x1 : Int32} {x2 : Int32} {x3 : Int32} (h :
    (if x1 < 0 then
     Q (.inl (some (.int (Int32.ofInt 1)))) (gE Lx) I L (e + 1)
    else
     (if (I 5 3) < x1 then
      Q (.inl (some (.int (Int32.ofInt 1)))) (gE Lx) I L (e + 1)
     else
      Wp 106 0 [(0, .ref 5), (1, .int x1), (2, .ref 14)] [] (gE Lx) I L e (kcp (Wp 121) 121 14 0 [(0, .ref 1), (2, .int x2), (3, .int x3)] 71 [] (kcp (Wp 373) 373 7 0 [(0, .ref 1), (4, .ref 70)] 71 [.int (Int32.ofInt 0), .ref 70] Q))))) :
    Wp 373 0 [(0, .ref 1), (1, .int x1), (2, .int x2), (3, .int x3), (4, .ref 70)] [] (gE Lx) I L e Q := by
  refine w_a f_373_0 ?_
  refine w_a f_373_2 ?_
  refine w_a f_373_3 ?_
  refine w_a f_373_4 ?_
  refine w_a f_373_5 ?_
  refine w_a f_373_6 ?_
  refine w_c (ks := [0, 4]) f_373_7 rfl rfl ?_
  refine w_a (ls := [(0, .ref 1), (1, .int x1), (2, .int x2), (3, .int x3)]) f_121_0 ?_
  refine w_a f_121_1 ?_
  refine w_a f_121_2 ?_
  refine w_a (ls := [(0, .ref 1), (1, .int x1)]) f_122_0 ?_
  refine w_a f_122_1 ?_
  refine i_m (fun h => ?_) (fun h => ?_) h
  · refine w_a f_122_15 ?_
    exact h
  · refine w_a f_122_4 ?_
    refine w_a f_122_5 ?_
    refine w_a f_122_6 ?_
    refine w_a f_122_9 ?_
    refine w_a f_122_12 ?_
    refine i_m (fun h => ?_) (fun h => ?_) h
    · refine w_a f_122_15 ?_
      exact h
    · refine w_a f_122_23 ?_
      refine w_a (ls := [(0, .ref 1), (1, .int x1), (2, .int x2), (3, .int x3)]) f_121_5 ?_
      refine w_a f_121_6 ?_
      refine w_a f_121_9 ?_
      refine w_a f_121_10 ?_
      refine w_a f_121_11 ?_
      exact w_c (ks := [0, 2, 3]) f_121_14 rfl rfl h
set_option maxRecDepth 10000 in
set_option maxHeartbeats 4000000 in
theorem s_374_0 {Lx : Nat} {I : Mi} {L : Ml} {e : Nat} {Q : Kq} {x1 : Int32} (h :
    (if x1 < 0 then
     Q (.inl (some (.int (Int32.ofInt 1)))) (gE Lx) I L (e + 1)
    else
     (if (I 5 3) < x1 then
      Q (.inl (some (.int (Int32.ofInt 1)))) (gE Lx) I L (e + 1)
     else
      Wp 106 0 [(0, .ref 5), (1, .int x1), (2, .ref 14)] [] (gE Lx) I L e (kcp (Wp 123) 123 14 0 [(0, .ref 1)] 71 [] (kcp (Wp 374) 374 4 0 [(0, .ref 1), (2, .ref 70)] 71 [.int (Int32.ofInt 0), .ref 70] Q))))) :
    Wp 374 0 [(0, .ref 1), (1, .int x1), (2, .ref 70)] [] (gE Lx) I L e Q := by
  refine w_a f_374_0 ?_
  refine w_a f_374_1 ?_
  refine w_a f_374_2 ?_
  refine w_a f_374_3 ?_
  refine w_c (ks := [0, 2]) f_374_4 rfl rfl ?_
  refine w_a (ls := [(0, .ref 1), (1, .int x1)]) f_123_0 ?_
  refine w_a f_123_1 ?_
  refine w_a f_123_2 ?_
  refine w_a (ls := [(0, .ref 1), (1, .int x1)]) f_122_0 ?_
  refine w_a f_122_1 ?_
  refine i_m (fun h => ?_) (fun h => ?_) h
  · refine w_a f_122_15 ?_
    exact h
  · refine w_a f_122_4 ?_
    refine w_a f_122_5 ?_
    refine w_a f_122_6 ?_
    refine w_a f_122_9 ?_
    refine w_a f_122_12 ?_
    refine i_m (fun h => ?_) (fun h => ?_) h
    · refine w_a f_122_15 ?_
      exact h
    · refine w_a f_122_23 ?_
      refine w_a (ls := [(0, .ref 1), (1, .int x1)]) f_123_5 ?_
      refine w_a f_123_6 ?_
      refine w_a f_123_9 ?_
      refine w_a f_123_10 ?_
      refine w_a f_123_11 ?_
      exact w_c (ks := [0]) f_123_14 rfl rfl h
set_option maxRecDepth 10000 in
set_option maxHeartbeats 4000000 in
theorem s_375_0 {Lx : Nat} {I : Mi} {L : Ml} {e : Nat} {Q : Kq} {x1 : Int32} {x2 : Int32} (h :
    (if x1 < 0 then
     Q (.inl (some (.int (Int32.ofInt 1)))) (gE Lx) I L (e + 1)
    else
     (if (I 5 3) < x1 then
      Q (.inl (some (.int (Int32.ofInt 1)))) (gE Lx) I L (e + 1)
     else
      Wp 106 0 [(0, .ref 5), (1, .int x1), (2, .ref 14)] [] (gE Lx) I L e (kcp (Wp 124) 124 14 0 [(0, .ref 1), (2, .int x2)] 71 [] (kcp (Wp 375) 375 5 0 [(0, .ref 1), (3, .ref 70)] 71 [.int (Int32.ofInt 0), .ref 70] Q))))) :
    Wp 375 0 [(0, .ref 1), (1, .int x1), (2, .int x2), (3, .ref 70)] [] (gE Lx) I L e Q := by
  refine w_a f_375_0 ?_
  refine w_a f_375_1 ?_
  refine w_a f_375_2 ?_
  refine w_a f_375_3 ?_
  refine w_a f_375_4 ?_
  refine w_c (ks := [0, 3]) f_375_5 rfl rfl ?_
  refine w_a (ls := [(0, .ref 1), (1, .int x1), (2, .int x2)]) f_124_0 ?_
  refine w_a f_124_1 ?_
  refine w_a f_124_2 ?_
  refine w_a (ls := [(0, .ref 1), (1, .int x1)]) f_122_0 ?_
  refine w_a f_122_1 ?_
  refine i_m (fun h => ?_) (fun h => ?_) h
  · refine w_a f_122_15 ?_
    exact h
  · refine w_a f_122_4 ?_
    refine w_a f_122_5 ?_
    refine w_a f_122_6 ?_
    refine w_a f_122_9 ?_
    refine w_a f_122_12 ?_
    refine i_m (fun h => ?_) (fun h => ?_) h
    · refine w_a f_122_15 ?_
      exact h
    · refine w_a f_122_23 ?_
      refine w_a (ls := [(0, .ref 1), (1, .int x1), (2, .int x2)]) f_124_5 ?_
      refine w_a f_124_6 ?_
      refine w_a f_124_9 ?_
      refine w_a f_124_10 ?_
      refine w_a f_124_11 ?_
      exact w_c (ks := [0, 2]) f_124_14 rfl rfl h
set_option maxRecDepth 10000 in
set_option maxHeartbeats 4000000 in
theorem s_376_0 {Lx : Nat} {I : Mi} {L : Ml} {e : Nat} {Q : Kq} {x1 : Int32} {x2 : Int32} (h :
    (if x2 = 0 then
     (if x2 = 0 then
      (if x1 < (Int32.ofInt 1) then
       Q (.inl (some (.int (Int32.ofInt 1)))) (gE Lx) I L (e + 1)
      else
       (if (Int32.ofInt 3) < x1 then
        Q (.inl (some (.int (Int32.ofInt 1)))) (gE Lx) I L (e + 1)
       else
        (if x2 = 0 then
         Wp 108 0 [(0, .ref 1), (1, .ref 5), (2, .int x1)] [] (gE Lx) I L e (kcp (Wp 127) 127 16 0 [(0, .ref 1), (1, .ref 5)] 71 [] (kcp (Wp 125) 125 13 0 [(0, .ref 1)] 71 [] (kcp (Wp 376) 376 5 0 [(0, .ref 1), (3, .ref 70)] 71 [.int (Int32.ofInt 0), .ref 70] Q)))
        else
         Wp 97 0 [(0, .ref 1), (1, .ref 5), (2, .int x1)] [] (gE Lx) I L e (kcp (Wp 127) 127 7 0 [(0, .ref 1), (1, .ref 5)] 71 [] (kcp (Wp 125) 125 13 0 [(0, .ref 1)] 71 [] (kcp (Wp 376) 376 5 0 [(0, .ref 1), (3, .ref 70)] 71 [.int (Int32.ofInt 0), .ref 70] Q))))))
     else
      (if x1 < (Int32.ofInt 1) then
       Q (.inl (some (.int (Int32.ofInt 1)))) (gE Lx) I L (e + 1)
      else
       (if (Int32.ofInt 10) < x1 then
        Q (.inl (some (.int (Int32.ofInt 1)))) (gE Lx) I L (e + 1)
       else
        (if x2 = 0 then
         Wp 108 0 [(0, .ref 1), (1, .ref 5), (2, .int x1)] [] (gE Lx) I L e (kcp (Wp 127) 127 16 0 [(0, .ref 1), (1, .ref 5)] 71 [] (kcp (Wp 125) 125 13 0 [(0, .ref 1)] 71 [] (kcp (Wp 376) 376 5 0 [(0, .ref 1), (3, .ref 70)] 71 [.int (Int32.ofInt 0), .ref 70] Q)))
        else
         Wp 97 0 [(0, .ref 1), (1, .ref 5), (2, .int x1)] [] (gE Lx) I L e (kcp (Wp 127) 127 7 0 [(0, .ref 1), (1, .ref 5)] 71 [] (kcp (Wp 125) 125 13 0 [(0, .ref 1)] 71 [] (kcp (Wp 376) 376 5 0 [(0, .ref 1), (3, .ref 70)] 71 [.int (Int32.ofInt 0), .ref 70] Q)))))))
    else
     (if x2 = 0 then
      (if x1 < (Int32.ofInt (-10)) then
       Q (.inl (some (.int (Int32.ofInt 1)))) (gE Lx) I L (e + 1)
      else
       (if (Int32.ofInt 3) < x1 then
        Q (.inl (some (.int (Int32.ofInt 1)))) (gE Lx) I L (e + 1)
       else
        (if x2 = 0 then
         Wp 108 0 [(0, .ref 1), (1, .ref 5), (2, .int x1)] [] (gE Lx) I L e (kcp (Wp 127) 127 16 0 [(0, .ref 1), (1, .ref 5)] 71 [] (kcp (Wp 125) 125 13 0 [(0, .ref 1)] 71 [] (kcp (Wp 376) 376 5 0 [(0, .ref 1), (3, .ref 70)] 71 [.int (Int32.ofInt 0), .ref 70] Q)))
        else
         Wp 97 0 [(0, .ref 1), (1, .ref 5), (2, .int x1)] [] (gE Lx) I L e (kcp (Wp 127) 127 7 0 [(0, .ref 1), (1, .ref 5)] 71 [] (kcp (Wp 125) 125 13 0 [(0, .ref 1)] 71 [] (kcp (Wp 376) 376 5 0 [(0, .ref 1), (3, .ref 70)] 71 [.int (Int32.ofInt 0), .ref 70] Q))))))
     else
      (if x1 < (Int32.ofInt (-10)) then
       Q (.inl (some (.int (Int32.ofInt 1)))) (gE Lx) I L (e + 1)
      else
       (if (Int32.ofInt 10) < x1 then
        Q (.inl (some (.int (Int32.ofInt 1)))) (gE Lx) I L (e + 1)
       else
        (if x2 = 0 then
         Wp 108 0 [(0, .ref 1), (1, .ref 5), (2, .int x1)] [] (gE Lx) I L e (kcp (Wp 127) 127 16 0 [(0, .ref 1), (1, .ref 5)] 71 [] (kcp (Wp 125) 125 13 0 [(0, .ref 1)] 71 [] (kcp (Wp 376) 376 5 0 [(0, .ref 1), (3, .ref 70)] 71 [.int (Int32.ofInt 0), .ref 70] Q)))
        else
         Wp 97 0 [(0, .ref 1), (1, .ref 5), (2, .int x1)] [] (gE Lx) I L e (kcp (Wp 127) 127 7 0 [(0, .ref 1), (1, .ref 5)] 71 [] (kcp (Wp 125) 125 13 0 [(0, .ref 1)] 71 [] (kcp (Wp 376) 376 5 0 [(0, .ref 1), (3, .ref 70)] 71 [.int (Int32.ofInt 0), .ref 70] Q))))))))) :
    Wp 376 0 [(0, .ref 1), (1, .int x1), (2, .int x2), (3, .ref 70)] [] (gE Lx) I L e Q := by
  refine w_a f_376_0 ?_
  refine w_a f_376_1 ?_
  refine w_a f_376_2 ?_
  refine w_a f_376_3 ?_
  refine w_a f_376_4 ?_
  refine w_c (ks := [0, 3]) f_376_5 rfl rfl ?_
  refine w_a (ls := [(0, .ref 1), (1, .int x1), (2, .int x2)]) f_125_0 ?_
  refine w_a f_125_1 ?_
  refine w_a f_125_2 ?_
  refine w_a f_125_3 ?_
  refine w_a (ls := [(0, .ref 1), (1, .int x1), (2, .int x2)]) f_126_0 ?_
  refine w_a f_126_1 ?_
  refine i_m (fun h => ?_) (fun h => ?_) h
  · refine w_a f_126_9 ?_
    refine w_a f_126_10 ?_
    refine w_a (ls := [(3, .int (Int32.ofInt 1)), (0, .ref 1), (1, .int x1), (2, .int x2)]) f_126_11 ?_
    refine w_a f_126_12 ?_
    refine i_m (fun h => ?_) (fun h => ?_) h
    · refine w_a f_126_20 ?_
      refine w_a f_126_21 ?_
      refine w_a (ls := [(4, .int (Int32.ofInt 3)), (3, .int (Int32.ofInt 1)), (0, .ref 1), (1, .int x1), (2, .int x2)]) f_126_23 ?_
      refine w_a f_126_24 ?_
      refine w_a f_126_25 ?_
      refine i_m (fun h => ?_) (fun h => ?_) h
      · refine w_a f_126_34 ?_
        exact h
      · refine w_a f_126_28 ?_
        refine w_a f_126_29 ?_
        refine w_a f_126_31 ?_
        refine i_m (fun h => ?_) (fun h => ?_) h
        · refine w_a f_126_34 ?_
          exact h
        · refine w_a f_126_42 ?_
          refine w_a (ls := [(0, .ref 1), (1, .int x1), (2, .int x2)]) f_125_6 ?_
          refine w_a f_125_7 ?_
          refine w_a f_125_8 ?_
          refine w_a f_125_11 ?_
          refine w_a f_125_12 ?_
          refine w_c (ks := [0]) f_125_13 rfl rfl ?_
          refine w_a (ls := [(0, .ref 1), (1, .ref 5), (2, .int x1), (3, .int x2)]) f_127_0 ?_
          refine w_a f_127_1 ?_
          refine i_m (fun h => ?_) (fun h => ?_) h
          · refine w_a f_127_13 ?_
            refine w_a f_127_14 ?_
            refine w_a f_127_15 ?_
            exact w_c (ks := [0, 1]) f_127_16 rfl rfl h
          · refine w_a f_127_4 ?_
            refine w_a f_127_5 ?_
            refine w_a f_127_6 ?_
            exact w_c (ks := [0, 1]) f_127_7 rfl rfl h
    · refine w_a f_126_15 ?_
      refine w_a f_126_17 ?_
      refine w_a f_126_21 ?_
      refine w_a (ls := [(4, .int (Int32.ofInt 10)), (3, .int (Int32.ofInt 1)), (0, .ref 1), (1, .int x1), (2, .int x2)]) f_126_23 ?_
      refine w_a f_126_24 ?_
      refine w_a f_126_25 ?_
      refine i_m (fun h => ?_) (fun h => ?_) h
      · refine w_a f_126_34 ?_
        exact h
      · refine w_a f_126_28 ?_
        refine w_a f_126_29 ?_
        refine w_a f_126_31 ?_
        refine i_m (fun h => ?_) (fun h => ?_) h
        · refine w_a f_126_34 ?_
          exact h
        · refine w_a f_126_42 ?_
          refine w_a (ls := [(0, .ref 1), (1, .int x1), (2, .int x2)]) f_125_6 ?_
          refine w_a f_125_7 ?_
          refine w_a f_125_8 ?_
          refine w_a f_125_11 ?_
          refine w_a f_125_12 ?_
          refine w_c (ks := [0]) f_125_13 rfl rfl ?_
          refine w_a (ls := [(0, .ref 1), (1, .ref 5), (2, .int x1), (3, .int x2)]) f_127_0 ?_
          refine w_a f_127_1 ?_
          refine i_m (fun h => ?_) (fun h => ?_) h
          · refine w_a f_127_13 ?_
            refine w_a f_127_14 ?_
            refine w_a f_127_15 ?_
            exact w_c (ks := [0, 1]) f_127_16 rfl rfl h
          · refine w_a f_127_4 ?_
            refine w_a f_127_5 ?_
            refine w_a f_127_6 ?_
            exact w_c (ks := [0, 1]) f_127_7 rfl rfl h
  · refine w_a f_126_4 ?_
    refine w_a f_126_6 ?_
    refine w_a f_126_10 ?_
    refine w_a (ls := [(3, .int (Int32.ofInt (-10))), (0, .ref 1), (1, .int x1), (2, .int x2)]) f_126_11 ?_
    refine w_a f_126_12 ?_
    refine i_m (fun h => ?_) (fun h => ?_) h
    · refine w_a f_126_20 ?_
      refine w_a f_126_21 ?_
      refine w_a (ls := [(4, .int (Int32.ofInt 3)), (3, .int (Int32.ofInt (-10))), (0, .ref 1), (1, .int x1), (2, .int x2)]) f_126_23 ?_
      refine w_a f_126_24 ?_
      refine w_a f_126_25 ?_
      refine i_m (fun h => ?_) (fun h => ?_) h
      · refine w_a f_126_34 ?_
        exact h
      · refine w_a f_126_28 ?_
        refine w_a f_126_29 ?_
        refine w_a f_126_31 ?_
        refine i_m (fun h => ?_) (fun h => ?_) h
        · refine w_a f_126_34 ?_
          exact h
        · refine w_a f_126_42 ?_
          refine w_a (ls := [(0, .ref 1), (1, .int x1), (2, .int x2)]) f_125_6 ?_
          refine w_a f_125_7 ?_
          refine w_a f_125_8 ?_
          refine w_a f_125_11 ?_
          refine w_a f_125_12 ?_
          refine w_c (ks := [0]) f_125_13 rfl rfl ?_
          refine w_a (ls := [(0, .ref 1), (1, .ref 5), (2, .int x1), (3, .int x2)]) f_127_0 ?_
          refine w_a f_127_1 ?_
          refine i_m (fun h => ?_) (fun h => ?_) h
          · refine w_a f_127_13 ?_
            refine w_a f_127_14 ?_
            refine w_a f_127_15 ?_
            exact w_c (ks := [0, 1]) f_127_16 rfl rfl h
          · refine w_a f_127_4 ?_
            refine w_a f_127_5 ?_
            refine w_a f_127_6 ?_
            exact w_c (ks := [0, 1]) f_127_7 rfl rfl h
    · refine w_a f_126_15 ?_
      refine w_a f_126_17 ?_
      refine w_a f_126_21 ?_
      refine w_a (ls := [(4, .int (Int32.ofInt 10)), (3, .int (Int32.ofInt (-10))), (0, .ref 1), (1, .int x1), (2, .int x2)]) f_126_23 ?_
      refine w_a f_126_24 ?_
      refine w_a f_126_25 ?_
      refine i_m (fun h => ?_) (fun h => ?_) h
      · refine w_a f_126_34 ?_
        exact h
      · refine w_a f_126_28 ?_
        refine w_a f_126_29 ?_
        refine w_a f_126_31 ?_
        refine i_m (fun h => ?_) (fun h => ?_) h
        · refine w_a f_126_34 ?_
          exact h
        · refine w_a f_126_42 ?_
          refine w_a (ls := [(0, .ref 1), (1, .int x1), (2, .int x2)]) f_125_6 ?_
          refine w_a f_125_7 ?_
          refine w_a f_125_8 ?_
          refine w_a f_125_11 ?_
          refine w_a f_125_12 ?_
          refine w_c (ks := [0]) f_125_13 rfl rfl ?_
          refine w_a (ls := [(0, .ref 1), (1, .ref 5), (2, .int x1), (3, .int x2)]) f_127_0 ?_
          refine w_a f_127_1 ?_
          refine i_m (fun h => ?_) (fun h => ?_) h
          · refine w_a f_127_13 ?_
            refine w_a f_127_14 ?_
            refine w_a f_127_15 ?_
            exact w_c (ks := [0, 1]) f_127_16 rfl rfl h
          · refine w_a f_127_4 ?_
            refine w_a f_127_5 ?_
            refine w_a f_127_6 ?_
            exact w_c (ks := [0, 1]) f_127_7 rfl rfl h
set_option maxRecDepth 10000 in
set_option maxHeartbeats 4000000 in
theorem s_377_0 {Lx : Nat} {I : Mi} {L : Ml} {e : Nat} {Q : Kq} {x1 : Int32} {x2 : Int32} (h :
    (if x2 = 0 then
     (if x2 = 0 then
      (if x1 < (Int32.ofInt 1) then
       Q (.inl (some (.int (Int32.ofInt 1)))) (gE Lx) I L (e + 1)
      else
       (if (Int32.ofInt 3) < x1 then
        Q (.inl (some (.int (Int32.ofInt 1)))) (gE Lx) I L (e + 1)
       else
        (if x2 = 0 then
         Wp 108 0 [(0, .ref 1), (1, .ref 5), (2, .int x1)] [] (gE Lx) I L e (kcp (Wp 127) 127 16 0 [(0, .ref 1), (1, .ref 5)] 71 [] (kcp (Wp 129) 129 13 0 [(0, .ref 1)] 71 [] (kcp (Wp 377) 377 5 0 [(0, .ref 1), (3, .ref 70)] 71 [.int (Int32.ofInt 0), .ref 70] Q)))
        else
         Wp 97 0 [(0, .ref 1), (1, .ref 5), (2, .int x1)] [] (gE Lx) I L e (kcp (Wp 127) 127 7 0 [(0, .ref 1), (1, .ref 5)] 71 [] (kcp (Wp 129) 129 13 0 [(0, .ref 1)] 71 [] (kcp (Wp 377) 377 5 0 [(0, .ref 1), (3, .ref 70)] 71 [.int (Int32.ofInt 0), .ref 70] Q))))))
     else
      (if x1 < (Int32.ofInt 1) then
       Q (.inl (some (.int (Int32.ofInt 1)))) (gE Lx) I L (e + 1)
      else
       (if (Int32.ofInt 10) < x1 then
        Q (.inl (some (.int (Int32.ofInt 1)))) (gE Lx) I L (e + 1)
       else
        (if x2 = 0 then
         Wp 108 0 [(0, .ref 1), (1, .ref 5), (2, .int x1)] [] (gE Lx) I L e (kcp (Wp 127) 127 16 0 [(0, .ref 1), (1, .ref 5)] 71 [] (kcp (Wp 129) 129 13 0 [(0, .ref 1)] 71 [] (kcp (Wp 377) 377 5 0 [(0, .ref 1), (3, .ref 70)] 71 [.int (Int32.ofInt 0), .ref 70] Q)))
        else
         Wp 97 0 [(0, .ref 1), (1, .ref 5), (2, .int x1)] [] (gE Lx) I L e (kcp (Wp 127) 127 7 0 [(0, .ref 1), (1, .ref 5)] 71 [] (kcp (Wp 129) 129 13 0 [(0, .ref 1)] 71 [] (kcp (Wp 377) 377 5 0 [(0, .ref 1), (3, .ref 70)] 71 [.int (Int32.ofInt 0), .ref 70] Q)))))))
    else
     (if x2 = 0 then
      (if x1 < (Int32.ofInt (-10)) then
       Q (.inl (some (.int (Int32.ofInt 1)))) (gE Lx) I L (e + 1)
      else
       (if (Int32.ofInt 3) < x1 then
        Q (.inl (some (.int (Int32.ofInt 1)))) (gE Lx) I L (e + 1)
       else
        (if x2 = 0 then
         Wp 108 0 [(0, .ref 1), (1, .ref 5), (2, .int x1)] [] (gE Lx) I L e (kcp (Wp 127) 127 16 0 [(0, .ref 1), (1, .ref 5)] 71 [] (kcp (Wp 129) 129 13 0 [(0, .ref 1)] 71 [] (kcp (Wp 377) 377 5 0 [(0, .ref 1), (3, .ref 70)] 71 [.int (Int32.ofInt 0), .ref 70] Q)))
        else
         Wp 97 0 [(0, .ref 1), (1, .ref 5), (2, .int x1)] [] (gE Lx) I L e (kcp (Wp 127) 127 7 0 [(0, .ref 1), (1, .ref 5)] 71 [] (kcp (Wp 129) 129 13 0 [(0, .ref 1)] 71 [] (kcp (Wp 377) 377 5 0 [(0, .ref 1), (3, .ref 70)] 71 [.int (Int32.ofInt 0), .ref 70] Q))))))
     else
      (if x1 < (Int32.ofInt (-10)) then
       Q (.inl (some (.int (Int32.ofInt 1)))) (gE Lx) I L (e + 1)
      else
       (if (Int32.ofInt 10) < x1 then
        Q (.inl (some (.int (Int32.ofInt 1)))) (gE Lx) I L (e + 1)
       else
        (if x2 = 0 then
         Wp 108 0 [(0, .ref 1), (1, .ref 5), (2, .int x1)] [] (gE Lx) I L e (kcp (Wp 127) 127 16 0 [(0, .ref 1), (1, .ref 5)] 71 [] (kcp (Wp 129) 129 13 0 [(0, .ref 1)] 71 [] (kcp (Wp 377) 377 5 0 [(0, .ref 1), (3, .ref 70)] 71 [.int (Int32.ofInt 0), .ref 70] Q)))
        else
         Wp 97 0 [(0, .ref 1), (1, .ref 5), (2, .int x1)] [] (gE Lx) I L e (kcp (Wp 127) 127 7 0 [(0, .ref 1), (1, .ref 5)] 71 [] (kcp (Wp 129) 129 13 0 [(0, .ref 1)] 71 [] (kcp (Wp 377) 377 5 0 [(0, .ref 1), (3, .ref 70)] 71 [.int (Int32.ofInt 0), .ref 70] Q))))))))) :
    Wp 377 0 [(0, .ref 1), (1, .int x1), (2, .int x2), (3, .ref 70)] [] (gE Lx) I L e Q := by
  refine w_a f_377_0 ?_
  refine w_a f_377_1 ?_
  refine w_a f_377_2 ?_
  refine w_a f_377_3 ?_
  refine w_a f_377_4 ?_
  refine w_c (ks := [0, 3]) f_377_5 rfl rfl ?_
  refine w_a (ls := [(0, .ref 1), (1, .int x1), (2, .int x2)]) f_129_0 ?_
  refine w_a f_129_1 ?_
  refine w_a f_129_2 ?_
  refine w_a f_129_3 ?_
  refine w_a (ls := [(0, .ref 1), (1, .int x1), (2, .int x2)]) f_126_0 ?_
  refine w_a f_126_1 ?_
  refine i_m (fun h => ?_) (fun h => ?_) h
  · refine w_a f_126_9 ?_
    refine w_a f_126_10 ?_
    refine w_a (ls := [(3, .int (Int32.ofInt 1)), (0, .ref 1), (1, .int x1), (2, .int x2)]) f_126_11 ?_
    refine w_a f_126_12 ?_
    refine i_m (fun h => ?_) (fun h => ?_) h
    · refine w_a f_126_20 ?_
      refine w_a f_126_21 ?_
      refine w_a (ls := [(4, .int (Int32.ofInt 3)), (3, .int (Int32.ofInt 1)), (0, .ref 1), (1, .int x1), (2, .int x2)]) f_126_23 ?_
      refine w_a f_126_24 ?_
      refine w_a f_126_25 ?_
      refine i_m (fun h => ?_) (fun h => ?_) h
      · refine w_a f_126_34 ?_
        exact h
      · refine w_a f_126_28 ?_
        refine w_a f_126_29 ?_
        refine w_a f_126_31 ?_
        refine i_m (fun h => ?_) (fun h => ?_) h
        · refine w_a f_126_34 ?_
          exact h
        · refine w_a f_126_42 ?_
          refine w_a (ls := [(0, .ref 1), (1, .int x1), (2, .int x2)]) f_129_6 ?_
          refine w_a f_129_7 ?_
          refine w_a f_129_8 ?_
          refine w_a f_129_11 ?_
          refine w_a f_129_12 ?_
          refine w_c (ks := [0]) f_129_13 rfl rfl ?_
          refine w_a (ls := [(0, .ref 1), (1, .ref 5), (2, .int x1), (3, .int x2)]) f_127_0 ?_
          refine w_a f_127_1 ?_
          refine i_m (fun h => ?_) (fun h => ?_) h
          · refine w_a f_127_13 ?_
            refine w_a f_127_14 ?_
            refine w_a f_127_15 ?_
            exact w_c (ks := [0, 1]) f_127_16 rfl rfl h
          · refine w_a f_127_4 ?_
            refine w_a f_127_5 ?_
            refine w_a f_127_6 ?_
            exact w_c (ks := [0, 1]) f_127_7 rfl rfl h
    · refine w_a f_126_15 ?_
      refine w_a f_126_17 ?_
      refine w_a f_126_21 ?_
      refine w_a (ls := [(4, .int (Int32.ofInt 10)), (3, .int (Int32.ofInt 1)), (0, .ref 1), (1, .int x1), (2, .int x2)]) f_126_23 ?_
      refine w_a f_126_24 ?_
      refine w_a f_126_25 ?_
      refine i_m (fun h => ?_) (fun h => ?_) h
      · refine w_a f_126_34 ?_
        exact h
      · refine w_a f_126_28 ?_
        refine w_a f_126_29 ?_
        refine w_a f_126_31 ?_
        refine i_m (fun h => ?_) (fun h => ?_) h
        · refine w_a f_126_34 ?_
          exact h
        · refine w_a f_126_42 ?_
          refine w_a (ls := [(0, .ref 1), (1, .int x1), (2, .int x2)]) f_129_6 ?_
          refine w_a f_129_7 ?_
          refine w_a f_129_8 ?_
          refine w_a f_129_11 ?_
          refine w_a f_129_12 ?_
          refine w_c (ks := [0]) f_129_13 rfl rfl ?_
          refine w_a (ls := [(0, .ref 1), (1, .ref 5), (2, .int x1), (3, .int x2)]) f_127_0 ?_
          refine w_a f_127_1 ?_
          refine i_m (fun h => ?_) (fun h => ?_) h
          · refine w_a f_127_13 ?_
            refine w_a f_127_14 ?_
            refine w_a f_127_15 ?_
            exact w_c (ks := [0, 1]) f_127_16 rfl rfl h
          · refine w_a f_127_4 ?_
            refine w_a f_127_5 ?_
            refine w_a f_127_6 ?_
            exact w_c (ks := [0, 1]) f_127_7 rfl rfl h
  · refine w_a f_126_4 ?_
    refine w_a f_126_6 ?_
    refine w_a f_126_10 ?_
    refine w_a (ls := [(3, .int (Int32.ofInt (-10))), (0, .ref 1), (1, .int x1), (2, .int x2)]) f_126_11 ?_
    refine w_a f_126_12 ?_
    refine i_m (fun h => ?_) (fun h => ?_) h
    · refine w_a f_126_20 ?_
      refine w_a f_126_21 ?_
      refine w_a (ls := [(4, .int (Int32.ofInt 3)), (3, .int (Int32.ofInt (-10))), (0, .ref 1), (1, .int x1), (2, .int x2)]) f_126_23 ?_
      refine w_a f_126_24 ?_
      refine w_a f_126_25 ?_
      refine i_m (fun h => ?_) (fun h => ?_) h
      · refine w_a f_126_34 ?_
        exact h
      · refine w_a f_126_28 ?_
        refine w_a f_126_29 ?_
        refine w_a f_126_31 ?_
        refine i_m (fun h => ?_) (fun h => ?_) h
        · refine w_a f_126_34 ?_
          exact h
        · refine w_a f_126_42 ?_
          refine w_a (ls := [(0, .ref 1), (1, .int x1), (2, .int x2)]) f_129_6 ?_
          refine w_a f_129_7 ?_
          refine w_a f_129_8 ?_
          refine w_a f_129_11 ?_
          refine w_a f_129_12 ?_
          refine w_c (ks := [0]) f_129_13 rfl rfl ?_
          refine w_a (ls := [(0, .ref 1), (1, .ref 5), (2, .int x1), (3, .int x2)]) f_127_0 ?_
          refine w_a f_127_1 ?_
          refine i_m (fun h => ?_) (fun h => ?_) h
          · refine w_a f_127_13 ?_
            refine w_a f_127_14 ?_
            refine w_a f_127_15 ?_
            exact w_c (ks := [0, 1]) f_127_16 rfl rfl h
          · refine w_a f_127_4 ?_
            refine w_a f_127_5 ?_
            refine w_a f_127_6 ?_
            exact w_c (ks := [0, 1]) f_127_7 rfl rfl h
    · refine w_a f_126_15 ?_
      refine w_a f_126_17 ?_
      refine w_a f_126_21 ?_
      refine w_a (ls := [(4, .int (Int32.ofInt 10)), (3, .int (Int32.ofInt (-10))), (0, .ref 1), (1, .int x1), (2, .int x2)]) f_126_23 ?_
      refine w_a f_126_24 ?_
      refine w_a f_126_25 ?_
      refine i_m (fun h => ?_) (fun h => ?_) h
      · refine w_a f_126_34 ?_
        exact h
      · refine w_a f_126_28 ?_
        refine w_a f_126_29 ?_
        refine w_a f_126_31 ?_
        refine i_m (fun h => ?_) (fun h => ?_) h
        · refine w_a f_126_34 ?_
          exact h
        · refine w_a f_126_42 ?_
          refine w_a (ls := [(0, .ref 1), (1, .int x1), (2, .int x2)]) f_129_6 ?_
          refine w_a f_129_7 ?_
          refine w_a f_129_8 ?_
          refine w_a f_129_11 ?_
          refine w_a f_129_12 ?_
          refine w_c (ks := [0]) f_129_13 rfl rfl ?_
          refine w_a (ls := [(0, .ref 1), (1, .ref 5), (2, .int x1), (3, .int x2)]) f_127_0 ?_
          refine w_a f_127_1 ?_
          refine i_m (fun h => ?_) (fun h => ?_) h
          · refine w_a f_127_13 ?_
            refine w_a f_127_14 ?_
            refine w_a f_127_15 ?_
            exact w_c (ks := [0, 1]) f_127_16 rfl rfl h
          · refine w_a f_127_4 ?_
            refine w_a f_127_5 ?_
            refine w_a f_127_6 ?_
            exact w_c (ks := [0, 1]) f_127_7 rfl rfl h
set_option maxRecDepth 10000 in
set_option maxHeartbeats 4000000 in
theorem s_378_0 {Lx : Nat} {I : Mi} {L : Ml} {e : Nat} {Q : Kq} {x1 : Int32} {x2 : Int32} {x3 : Int32} (h :
    Wp 114 0 [(0, .long x1.toInt64), (2, .long x2.toInt64)] [] (gE Lx) I L e (kcp (Wp 113) 113 4 0 [(0, .ref 1)] 71 [] (kcp (Wp 130) 130 3 0 [(0, .ref 1), (1, .int x1), (2, .int x2), (3, .int x3)] 71 [] (kcp (Wp 378) 378 7 0 [(0, .ref 1), (4, .ref 70)] 71 [.int (Int32.ofInt 0), .ref 70] Q)))) :
    Wp 378 0 [(0, .ref 1), (1, .int x1), (2, .int x2), (3, .int x3), (4, .ref 70)] [] (gE Lx) I L e Q := by
  refine w_a f_378_0 ?_
  refine w_a f_378_2 ?_
  refine w_a f_378_3 ?_
  refine w_a f_378_4 ?_
  refine w_a f_378_5 ?_
  refine w_a f_378_6 ?_
  refine w_c (ks := [0, 4]) f_378_7 rfl rfl ?_
  refine w_a (ls := [(0, .ref 1), (1, .int x1), (2, .int x2), (3, .int x3)]) f_130_0 ?_
  refine w_a f_130_1 ?_
  refine w_a f_130_2 ?_
  refine w_c (ks := [0, 1, 2, 3]) f_130_3 rfl rfl ?_
  refine w_a (ls := [(0, .ref 1), (1, .int x1), (2, .int x2)]) f_113_0 ?_
  refine w_a f_113_1 ?_
  refine w_a f_113_2 ?_
  refine w_a f_113_3 ?_
  exact w_c (ks := [0]) f_113_4 rfl rfl h
set_option maxRecDepth 10000 in
set_option maxHeartbeats 4000000 in
theorem s_379_0 {Lx : Nat} {I : Mi} {L : Ml} {e : Nat} {Q : Kq} {x1 : Int32} {x2 : Int32} {x3 : Int32} {x4 : Int32} (h :
    Wp 114 0 [(0, .long x1.toInt64), (2, .long x2.toInt64)] [] (gE Lx) I L e (kcp (Wp 113) 113 4 0 [(0, .ref 1)] 71 [] (kcp (Wp 131) 131 3 0 [(0, .ref 1), (1, .int x1), (2, .int x2), (3, .int x3), (4, .int x4)] 71 [] (kcp (Wp 379) 379 9 0 [(0, .ref 1), (5, .ref 70)] 71 [.int (Int32.ofInt 0), .ref 70] Q)))) :
    Wp 379 0 [(0, .ref 1), (1, .int x1), (2, .int x2), (3, .int x3), (4, .int x4), (5, .ref 70)] [] (gE Lx) I L e Q := by
  refine w_a f_379_0 ?_
  refine w_a f_379_2 ?_
  refine w_a f_379_3 ?_
  refine w_a f_379_4 ?_
  refine w_a f_379_5 ?_
  refine w_a f_379_6 ?_
  refine w_a f_379_7 ?_
  refine w_c (ks := [0, 5]) f_379_9 rfl rfl ?_
  refine w_a (ls := [(0, .ref 1), (1, .int x1), (2, .int x2), (3, .int x3), (4, .int x4)]) f_131_0 ?_
  refine w_a f_131_1 ?_
  refine w_a f_131_2 ?_
  refine w_c (ks := [0, 1, 2, 3, 4]) f_131_3 rfl rfl ?_
  refine w_a (ls := [(0, .ref 1), (1, .int x1), (2, .int x2)]) f_113_0 ?_
  refine w_a f_113_1 ?_
  refine w_a f_113_2 ?_
  refine w_a f_113_3 ?_
  exact w_c (ks := [0]) f_113_4 rfl rfl h
set_option maxRecDepth 10000 in
set_option maxHeartbeats 4000000 in
theorem s_380_0 {Lx : Nat} {I : Mi} {L : Ml} {e : Nat} {Q : Kq} {x1 : Int32} {x2 : Int32} {x3 : Int32} {x4 : Int32} {x5 : Int32} (h :
    Wp 114 0 [(0, .long x1.toInt64), (2, .long x2.toInt64)] [] (gE Lx) I L e (kcp (Wp 113) 113 4 0 [(0, .ref 1)] 71 [] (kcp (Wp 132) 132 3 0 [(0, .ref 1), (1, .int x1), (2, .int x2), (3, .int x3), (4, .int x4), (5, .int x5)] 71 [] (kcp (Wp 380) 380 11 0 [(0, .ref 1), (6, .ref 70)] 71 [.int (Int32.ofInt 0), .ref 70] Q)))) :
    Wp 380 0 [(0, .ref 1), (1, .int x1), (2, .int x2), (3, .int x3), (4, .int x4), (5, .int x5), (6, .ref 70)] [] (gE Lx) I L e Q := by
  refine w_a f_380_0 ?_
  refine w_a f_380_2 ?_
  refine w_a f_380_3 ?_
  refine w_a f_380_4 ?_
  refine w_a f_380_5 ?_
  refine w_a f_380_6 ?_
  refine w_a f_380_7 ?_
  refine w_a f_380_9 ?_
  refine w_c (ks := [0, 6]) f_380_11 rfl rfl ?_
  refine w_a (ls := [(0, .ref 1), (1, .int x1), (2, .int x2), (3, .int x3), (4, .int x4), (5, .int x5)]) f_132_0 ?_
  refine w_a f_132_1 ?_
  refine w_a f_132_2 ?_
  refine w_c (ks := [0, 1, 2, 3, 4, 5]) f_132_3 rfl rfl ?_
  refine w_a (ls := [(0, .ref 1), (1, .int x1), (2, .int x2)]) f_113_0 ?_
  refine w_a f_113_1 ?_
  refine w_a f_113_2 ?_
  refine w_a f_113_3 ?_
  exact w_c (ks := [0]) f_113_4 rfl rfl h
set_option maxRecDepth 10000 in
set_option maxHeartbeats 4000000 in
theorem s_381_0 {Lx : Nat} {I : Mi} {L : Ml} {e : Nat} {Q : Kq} {x1 : Int32} {x2 : Int32} {x3 : Int32} {x4 : Int32} (h :
    Wp 114 0 [(0, .long x1.toInt64), (2, .long x2.toInt64)] [] (gE Lx) I L e (kcp (Wp 113) 113 4 0 [(0, .ref 1)] 71 [] (kcp (Wp 133) 133 3 0 [(0, .ref 1), (1, .int x1), (2, .int x2), (3, .int x3), (4, .int x4)] 71 [] (kcp (Wp 381) 381 9 0 [(0, .ref 1), (5, .ref 70)] 71 [.int (Int32.ofInt 0), .ref 70] Q)))) :
    Wp 381 0 [(0, .ref 1), (1, .int x1), (2, .int x2), (3, .int x3), (4, .int x4), (5, .ref 70)] [] (gE Lx) I L e Q := by
  refine w_a f_381_0 ?_
  refine w_a f_381_2 ?_
  refine w_a f_381_3 ?_
  refine w_a f_381_4 ?_
  refine w_a f_381_5 ?_
  refine w_a f_381_6 ?_
  refine w_a f_381_7 ?_
  refine w_c (ks := [0, 5]) f_381_9 rfl rfl ?_
  refine w_a (ls := [(0, .ref 1), (1, .int x1), (2, .int x2), (3, .int x3), (4, .int x4)]) f_133_0 ?_
  refine w_a f_133_1 ?_
  refine w_a f_133_2 ?_
  refine w_c (ks := [0, 1, 2, 3, 4]) f_133_3 rfl rfl ?_
  refine w_a (ls := [(0, .ref 1), (1, .int x1), (2, .int x2)]) f_113_0 ?_
  refine w_a f_113_1 ?_
  refine w_a f_113_2 ?_
  refine w_a f_113_3 ?_
  exact w_c (ks := [0]) f_113_4 rfl rfl h
set_option maxRecDepth 10000 in
set_option maxHeartbeats 4000000 in
theorem s_382_0 {Lx : Nat} {I : Mi} {L : Ml} {e : Nat} {Q : Kq} {x1 : Int32} {x2 : Int32} (h :
    (if x1 < 0 then
     Q (.inl (some (.int (Int32.ofInt 1)))) (gE Lx) I L (e + 1)
    else
     (if (I 5 3) < x1 then
      Q (.inl (some (.int (Int32.ofInt 1)))) (gE Lx) I L (e + 1)
     else
      Wp 136 0 [(0, .ref 1), (1, .int x1)] [] (gE Lx) I L e (kcp (Wp 135) 135 7 0 [(0, .ref 1), (2, .int x2)] 71 [] (kcp (Wp 134) 134 3 0 [(0, .ref 1)] 71 [] (kcp (Wp 382) 382 5 0 [(0, .ref 1), (3, .ref 70)] 71 [.int (Int32.ofInt 0), .ref 70] Q)))))) :
    Wp 382 0 [(0, .ref 1), (1, .int x1), (2, .int x2), (3, .ref 70)] [] (gE Lx) I L e Q := by
  refine w_a f_382_0 ?_
  refine w_a f_382_1 ?_
  refine w_a f_382_2 ?_
  refine w_a f_382_3 ?_
  refine w_a f_382_4 ?_
  refine w_c (ks := [0, 3]) f_382_5 rfl rfl ?_
  refine w_a (ls := [(0, .ref 1), (1, .int x1), (2, .int x2)]) f_134_0 ?_
  refine w_a f_134_1 ?_
  refine w_a f_134_2 ?_
  refine w_c (ks := [0]) f_134_3 rfl rfl ?_
  refine w_a (ls := [(0, .ref 1), (1, .int x1), (2, .int x2)]) f_135_0 ?_
  refine w_a f_135_1 ?_
  refine w_a f_135_2 ?_
  refine w_a (ls := [(0, .ref 1), (1, .int x1)]) f_122_0 ?_
  refine w_a f_122_1 ?_
  refine i_m (fun h => ?_) (fun h => ?_) h
  · refine w_a f_122_15 ?_
    exact h
  · refine w_a f_122_4 ?_
    refine w_a f_122_5 ?_
    refine w_a f_122_6 ?_
    refine w_a f_122_9 ?_
    refine w_a f_122_12 ?_
    refine i_m (fun h => ?_) (fun h => ?_) h
    · refine w_a f_122_15 ?_
      exact h
    · refine w_a f_122_23 ?_
      refine w_a (ls := [(0, .ref 1), (1, .int x1), (2, .int x2)]) f_135_5 ?_
      refine w_a f_135_6 ?_
      exact w_c (ks := [0, 2]) f_135_7 rfl rfl h
set_option maxRecDepth 10000 in
set_option maxHeartbeats 4000000 in
theorem s_383_0 {Lx : Nat} {I : Mi} {L : Ml} {e : Nat} {Q : Kq} {x1 : Int32} {x2 : Int32} {x3 : Int32} (h :
    (if x1 < 0 then
     Q (.inl (some (.int (Int32.ofInt 1)))) (gE Lx) I L (e + 1)
    else
     (if (I 5 3) < x1 then
      Q (.inl (some (.int (Int32.ofInt 1)))) (gE Lx) I L (e + 1)
     else
      Wp 136 0 [(0, .ref 1), (1, .int x1)] [] (gE Lx) I L e (kcp (Wp 135) 135 7 0 [(0, .ref 1), (2, .int x2)] 71 [] (kcp (Wp 137) 137 3 0 [(0, .ref 1), (3, .int x3)] 71 [] (kcp (Wp 383) 383 7 0 [(0, .ref 1), (4, .ref 70)] 71 [.int (Int32.ofInt 0), .ref 70] Q)))))) :
    Wp 383 0 [(0, .ref 1), (1, .int x1), (2, .int x2), (3, .int x3), (4, .ref 70)] [] (gE Lx) I L e Q := by
  refine w_a f_383_0 ?_
  refine w_a f_383_2 ?_
  refine w_a f_383_3 ?_
  refine w_a f_383_4 ?_
  refine w_a f_383_5 ?_
  refine w_a f_383_6 ?_
  refine w_c (ks := [0, 4]) f_383_7 rfl rfl ?_
  refine w_a (ls := [(0, .ref 1), (1, .int x1), (2, .int x2), (3, .int x3)]) f_137_0 ?_
  refine w_a f_137_1 ?_
  refine w_a f_137_2 ?_
  refine w_c (ks := [0, 3]) f_137_3 rfl rfl ?_
  refine w_a (ls := [(0, .ref 1), (1, .int x1), (2, .int x2)]) f_135_0 ?_
  refine w_a f_135_1 ?_
  refine w_a f_135_2 ?_
  refine w_a (ls := [(0, .ref 1), (1, .int x1)]) f_122_0 ?_
  refine w_a f_122_1 ?_
  refine i_m (fun h => ?_) (fun h => ?_) h
  · refine w_a f_122_15 ?_
    exact h
  · refine w_a f_122_4 ?_
    refine w_a f_122_5 ?_
    refine w_a f_122_6 ?_
    refine w_a f_122_9 ?_
    refine w_a f_122_12 ?_
    refine i_m (fun h => ?_) (fun h => ?_) h
    · refine w_a f_122_15 ?_
      exact h
    · refine w_a f_122_23 ?_
      refine w_a (ls := [(0, .ref 1), (1, .int x1), (2, .int x2)]) f_135_5 ?_
      refine w_a f_135_6 ?_
      exact w_c (ks := [0, 2]) f_135_7 rfl rfl h
set_option maxRecDepth 10000 in
set_option maxHeartbeats 4000000 in
theorem s_384_0 {Lx : Nat} {I : Mi} {L : Ml} {e : Nat} {Q : Kq} {x1 : Int32} {x2 : Int32} {x3 : Int32} {x4 : Int32} (h :
    (if x1 < 0 then
     Q (.inl (some (.int (Int32.ofInt 1)))) (gE Lx) I L (e + 1)
    else
     (if (I 5 3) < x1 then
      Q (.inl (some (.int (Int32.ofInt 1)))) (gE Lx) I L (e + 1)
     else
      Wp 136 0 [(0, .ref 1), (1, .int x1)] [] (gE Lx) I L e (kcp (Wp 135) 135 7 0 [(0, .ref 1), (2, .int x2)] 71 [] (kcp (Wp 139) 139 3 0 [(0, .ref 1), (3, .int x3), (4, .int x4)] 71 [] (kcp (Wp 384) 384 9 0 [(0, .ref 1), (5, .ref 70)] 71 [.int (Int32.ofInt 0), .ref 70] Q)))))) :
    Wp 384 0 [(0, .ref 1), (1, .int x1), (2, .int x2), (3, .int x3), (4, .int x4), (5, .ref 70)] [] (gE Lx) I L e Q := by
  refine w_a f_384_0 ?_
  refine w_a f_384_2 ?_
  refine w_a f_384_3 ?_
  refine w_a f_384_4 ?_
  refine w_a f_384_5 ?_
  refine w_a f_384_6 ?_
  refine w_a f_384_7 ?_
  refine w_c (ks := [0, 5]) f_384_9 rfl rfl ?_
  refine w_a (ls := [(0, .ref 1), (1, .int x1), (2, .int x2), (3, .int x3), (4, .int x4)]) f_139_0 ?_
  refine w_a f_139_1 ?_
  refine w_a f_139_2 ?_
  refine w_c (ks := [0, 3, 4]) f_139_3 rfl rfl ?_
  refine w_a (ls := [(0, .ref 1), (1, .int x1), (2, .int x2)]) f_135_0 ?_
  refine w_a f_135_1 ?_
  refine w_a f_135_2 ?_
  refine w_a (ls := [(0, .ref 1), (1, .int x1)]) f_122_0 ?_
  refine w_a f_122_1 ?_
  refine i_m (fun h => ?_) (fun h => ?_) h
  · refine w_a f_122_15 ?_
    exact h
  · refine w_a f_122_4 ?_
    refine w_a f_122_5 ?_
    refine w_a f_122_6 ?_
    refine w_a f_122_9 ?_
    refine w_a f_122_12 ?_
    refine i_m (fun h => ?_) (fun h => ?_) h
    · refine w_a f_122_15 ?_
      exact h
    · refine w_a f_122_23 ?_
      refine w_a (ls := [(0, .ref 1), (1, .int x1), (2, .int x2)]) f_135_5 ?_
      refine w_a f_135_6 ?_
      exact w_c (ks := [0, 2]) f_135_7 rfl rfl h
set_option maxRecDepth 10000 in
set_option maxHeartbeats 4000000 in
theorem s_385_0 {Lx : Nat} {I : Mi} {L : Ml} {e : Nat} {Q : Kq} {x1 : Int32} {x2 : Int32} {x3 : Int32} (h :
    (if x1 < 0 then
     Q (.inl (some (.int (Int32.ofInt 1)))) (gE Lx) I L (e + 1)
    else
     (if (I 5 3) < x1 then
      Q (.inl (some (.int (Int32.ofInt 1)))) (gE Lx) I L (e + 1)
     else
      Wp 136 0 [(0, .ref 1), (1, .int x1)] [] (gE Lx) I L e (kcp (Wp 135) 135 7 0 [(0, .ref 1), (2, .int x2)] 71 [] (kcp (Wp 141) 141 3 0 [(0, .ref 1), (3, .int x3)] 71 [] (kcp (Wp 385) 385 7 0 [(0, .ref 1), (4, .ref 70)] 71 [.int (Int32.ofInt 0), .ref 70] Q)))))) :
    Wp 385 0 [(0, .ref 1), (1, .int x1), (2, .int x2), (3, .int x3), (4, .ref 70)] [] (gE Lx) I L e Q := by
  refine w_a f_385_0 ?_
  refine w_a f_385_2 ?_
  refine w_a f_385_3 ?_
  refine w_a f_385_4 ?_
  refine w_a f_385_5 ?_
  refine w_a f_385_6 ?_
  refine w_c (ks := [0, 4]) f_385_7 rfl rfl ?_
  refine w_a (ls := [(0, .ref 1), (1, .int x1), (2, .int x2), (3, .int x3)]) f_141_0 ?_
  refine w_a f_141_1 ?_
  refine w_a f_141_2 ?_
  refine w_c (ks := [0, 3]) f_141_3 rfl rfl ?_
  refine w_a (ls := [(0, .ref 1), (1, .int x1), (2, .int x2)]) f_135_0 ?_
  refine w_a f_135_1 ?_
  refine w_a f_135_2 ?_
  refine w_a (ls := [(0, .ref 1), (1, .int x1)]) f_122_0 ?_
  refine w_a f_122_1 ?_
  refine i_m (fun h => ?_) (fun h => ?_) h
  · refine w_a f_122_15 ?_
    exact h
  · refine w_a f_122_4 ?_
    refine w_a f_122_5 ?_
    refine w_a f_122_6 ?_
    refine w_a f_122_9 ?_
    refine w_a f_122_12 ?_
    refine i_m (fun h => ?_) (fun h => ?_) h
    · refine w_a f_122_15 ?_
      exact h
    · refine w_a f_122_23 ?_
      refine w_a (ls := [(0, .ref 1), (1, .int x1), (2, .int x2)]) f_135_5 ?_
      refine w_a f_135_6 ?_
      exact w_c (ks := [0, 2]) f_135_7 rfl rfl h
set_option maxRecDepth 10000 in
set_option maxHeartbeats 4000000 in
theorem s_386_0 {Lx : Nat} {I : Mi} {L : Ml} {e : Nat} {Q : Kq} {x1 : Int32} {x2 : Int32} {x3 : Int32} {x4 : Int32} (h :
    (if x1 < 0 then
     Q (.inl (some (.int (Int32.ofInt 1)))) (gE Lx) I L (e + 1)
    else
     (if (I 5 3) < x1 then
      Q (.inl (some (.int (Int32.ofInt 1)))) (gE Lx) I L (e + 1)
     else
      Wp 136 0 [(0, .ref 1), (1, .int x1)] [] (gE Lx) I L e (kcp (Wp 135) 135 7 0 [(0, .ref 1), (2, .int x2)] 71 [] (kcp (Wp 142) 142 3 0 [(0, .ref 1), (3, .int x3), (4, .int x4)] 71 [] (kcp (Wp 386) 386 9 0 [(0, .ref 1), (5, .ref 70)] 71 [.int (Int32.ofInt 0), .ref 70] Q)))))) :
    Wp 386 0 [(0, .ref 1), (1, .int x1), (2, .int x2), (3, .int x3), (4, .int x4), (5, .ref 70)] [] (gE Lx) I L e Q := by
  refine w_a f_386_0 ?_
  refine w_a f_386_2 ?_
  refine w_a f_386_3 ?_
  refine w_a f_386_4 ?_
  refine w_a f_386_5 ?_
  refine w_a f_386_6 ?_
  refine w_a f_386_7 ?_
  refine w_c (ks := [0, 5]) f_386_9 rfl rfl ?_
  refine w_a (ls := [(0, .ref 1), (1, .int x1), (2, .int x2), (3, .int x3), (4, .int x4)]) f_142_0 ?_
  refine w_a f_142_1 ?_
  refine w_a f_142_2 ?_
  refine w_c (ks := [0, 3, 4]) f_142_3 rfl rfl ?_
  refine w_a (ls := [(0, .ref 1), (1, .int x1), (2, .int x2)]) f_135_0 ?_
  refine w_a f_135_1 ?_
  refine w_a f_135_2 ?_
  refine w_a (ls := [(0, .ref 1), (1, .int x1)]) f_122_0 ?_
  refine w_a f_122_1 ?_
  refine i_m (fun h => ?_) (fun h => ?_) h
  · refine w_a f_122_15 ?_
    exact h
  · refine w_a f_122_4 ?_
    refine w_a f_122_5 ?_
    refine w_a f_122_6 ?_
    refine w_a f_122_9 ?_
    refine w_a f_122_12 ?_
    refine i_m (fun h => ?_) (fun h => ?_) h
    · refine w_a f_122_15 ?_
      exact h
    · refine w_a f_122_23 ?_
      refine w_a (ls := [(0, .ref 1), (1, .int x1), (2, .int x2)]) f_135_5 ?_
      refine w_a f_135_6 ?_
      exact w_c (ks := [0, 2]) f_135_7 rfl rfl h
set_option maxRecDepth 10000 in
set_option maxHeartbeats 4000000 in
theorem s_387_0 {Lx : Nat} {I : Mi} {L : Ml} {e : Nat} {Q : Kq} {x1 : Int32} {x2 : Int32} {x3 : Int32} (h :
    (if x1 < 0 then
     Q (.inl (some (.int (Int32.ofInt 1)))) (gE Lx) I L (e + 1)
    else
     (if (I 5 3) < x1 then
      Q (.inl (some (.int (Int32.ofInt 1)))) (gE Lx) I L (e + 1)
     else
      Wp 136 0 [(0, .ref 1), (1, .int x1)] [] (gE Lx) I L e (kcp (Wp 135) 135 7 0 [(0, .ref 1), (2, .int x2)] 71 [] (kcp (Wp 143) 143 3 0 [(0, .ref 1), (3, .int x3)] 71 [] (kcp (Wp 387) 387 7 0 [(0, .ref 1), (4, .ref 70)] 71 [.int (Int32.ofInt 0), .ref 70] Q)))))) :
    Wp 387 0 [(0, .ref 1), (1, .int x1), (2, .int x2), (3, .int x3), (4, .ref 70)] [] (gE Lx) I L e Q := by
  refine w_a f_387_0 ?_
  refine w_a f_387_2 ?_
  refine w_a f_387_3 ?_
  refine w_a f_387_4 ?_
  refine w_a f_387_5 ?_
  refine w_a f_387_6 ?_
  refine w_c (ks := [0, 4]) f_387_7 rfl rfl ?_
  refine w_a (ls := [(0, .ref 1), (1, .int x1), (2, .int x2), (3, .int x3)]) f_143_0 ?_
  refine w_a f_143_1 ?_
  refine w_a f_143_2 ?_
  refine w_c (ks := [0, 3]) f_143_3 rfl rfl ?_
  refine w_a (ls := [(0, .ref 1), (1, .int x1), (2, .int x2)]) f_135_0 ?_
  refine w_a f_135_1 ?_
  refine w_a f_135_2 ?_
  refine w_a (ls := [(0, .ref 1), (1, .int x1)]) f_122_0 ?_
  refine w_a f_122_1 ?_
  refine i_m (fun h => ?_) (fun h => ?_) h
  · refine w_a f_122_15 ?_
    exact h
  · refine w_a f_122_4 ?_
    refine w_a f_122_5 ?_
    refine w_a f_122_6 ?_
    refine w_a f_122_9 ?_
    refine w_a f_122_12 ?_
    refine i_m (fun h => ?_) (fun h => ?_) h
    · refine w_a f_122_15 ?_
      exact h
    · refine w_a f_122_23 ?_
      refine w_a (ls := [(0, .ref 1), (1, .int x1), (2, .int x2)]) f_135_5 ?_
      refine w_a f_135_6 ?_
      exact w_c (ks := [0, 2]) f_135_7 rfl rfl h
set_option maxRecDepth 10000 in
set_option maxHeartbeats 4000000 in
theorem s_388_0 {Lx : Nat} {I : Mi} {L : Ml} {e : Nat} {Q : Kq} {x1 : Int32} {x2 : Int32} {x3 : Int32} (h :
    (if x1 < 0 then
     Q (.inl (some (.int (Int32.ofInt 1)))) (gE Lx) I L (e + 1)
    else
     (if (I 5 3) < x1 then
      Q (.inl (some (.int (Int32.ofInt 1)))) (gE Lx) I L (e + 1)
     else
      Wp 136 0 [(0, .ref 1), (1, .int x1)] [] (gE Lx) I L e (kcp (Wp 135) 135 7 0 [(0, .ref 1), (2, .int x2)] 71 [] (kcp (Wp 144) 144 3 0 [(0, .ref 1), (3, .int x3)] 71 [] (kcp (Wp 388) 388 7 0 [(0, .ref 1), (4, .ref 70)] 71 [.int (Int32.ofInt 0), .ref 70] Q)))))) :
    Wp 388 0 [(0, .ref 1), (1, .int x1), (2, .int x2), (3, .int x3), (4, .ref 70)] [] (gE Lx) I L e Q := by
  refine w_a f_388_0 ?_
  refine w_a f_388_2 ?_
  refine w_a f_388_3 ?_
  refine w_a f_388_4 ?_
  refine w_a f_388_5 ?_
  refine w_a f_388_6 ?_
  refine w_c (ks := [0, 4]) f_388_7 rfl rfl ?_
  refine w_a (ls := [(0, .ref 1), (1, .int x1), (2, .int x2), (3, .int x3)]) f_144_0 ?_
  refine w_a f_144_1 ?_
  refine w_a f_144_2 ?_
  refine w_c (ks := [0, 3]) f_144_3 rfl rfl ?_
  refine w_a (ls := [(0, .ref 1), (1, .int x1), (2, .int x2)]) f_135_0 ?_
  refine w_a f_135_1 ?_
  refine w_a f_135_2 ?_
  refine w_a (ls := [(0, .ref 1), (1, .int x1)]) f_122_0 ?_
  refine w_a f_122_1 ?_
  refine i_m (fun h => ?_) (fun h => ?_) h
  · refine w_a f_122_15 ?_
    exact h
  · refine w_a f_122_4 ?_
    refine w_a f_122_5 ?_
    refine w_a f_122_6 ?_
    refine w_a f_122_9 ?_
    refine w_a f_122_12 ?_
    refine i_m (fun h => ?_) (fun h => ?_) h
    · refine w_a f_122_15 ?_
      exact h
    · refine w_a f_122_23 ?_
      refine w_a (ls := [(0, .ref 1), (1, .int x1), (2, .int x2)]) f_135_5 ?_
      refine w_a f_135_6 ?_
      exact w_c (ks := [0, 2]) f_135_7 rfl rfl h
set_option maxRecDepth 10000 in
set_option maxHeartbeats 4000000 in
theorem s_389_0 {Lx : Nat} {I : Mi} {L : Ml} {e : Nat} {Q : Kq} {x1 : Int32} {x2 : Int32} {x3 : Int32} (h :
    (if (I 5 3) < 0 then
     False
    else
     (if (I 5 3) < (I 5 3) then
      False
     else
      Wp 136 0 [(0, .ref 1), (1, .int (I 5 3))] [] (gE Lx) I L e (kcp (Wp 135) 135 7 0 [(0, .ref 1), (2, .int x1)] 71 [] (kcp (Wp 145) 145 9 0 [(0, .ref 1), (1, .int x1), (2, .int x2), (3, .int x3)] 71 [] (kcp (Wp 389) 389 7 0 [(0, .ref 1), (4, .ref 70)] 71 [.int (Int32.ofInt 0), .ref 70] Q)))))) :
    Wp 389 0 [(0, .ref 1), (1, .int x1), (2, .int x2), (3, .int x3), (4, .ref 70)] [] (gE Lx) I L e Q := by
  refine w_a f_389_0 ?_
  refine w_a f_389_2 ?_
  refine w_a f_389_3 ?_
  refine w_a f_389_4 ?_
  refine w_a f_389_5 ?_
  refine w_a f_389_6 ?_
  refine w_c (ks := [0, 4]) f_389_7 rfl rfl ?_
  refine w_a (ls := [(0, .ref 1), (1, .int x1), (2, .int x2), (3, .int x3)]) f_145_0 ?_
  refine w_a f_145_1 ?_
  refine w_a f_145_2 ?_
  refine w_a f_145_5 ?_
  refine w_a f_145_8 ?_
  refine w_c (ks := [0, 1, 2, 3]) f_145_9 rfl rfl ?_
  refine w_a (ls := [(0, .ref 1), (1, .int (I 5 3)), (2, .int x1)]) f_135_0 ?_
  refine w_a f_135_1 ?_
  refine w_a f_135_2 ?_
  refine w_a (ls := [(0, .ref 1), (1, .int (I 5 3))]) f_122_0 ?_
  refine w_a f_122_1 ?_
  refine i_m (fun h => ?_) (fun h => ?_) h
  · refine w_a f_122_15 ?_
    exact h
  · refine w_a f_122_4 ?_
    refine w_a f_122_5 ?_
    refine w_a f_122_6 ?_
    refine w_a f_122_9 ?_
    refine w_a f_122_12 ?_
    refine i_m (fun h => ?_) (fun h => ?_) h
    · refine w_a f_122_15 ?_
      exact h
    · refine w_a f_122_23 ?_
      refine w_a (ls := [(0, .ref 1), (1, .int (I 5 3)), (2, .int x1)]) f_135_5 ?_
      refine w_a f_135_6 ?_
      exact w_c (ks := [0, 2]) f_135_7 rfl rfl h
set_option maxRecDepth 10000 in
set_option maxHeartbeats 4000000 in
theorem s_390_0 {Lx : Nat} {I : Mi} {L : Ml} {e : Nat} {Q : Kq} {x1 : Int32} {x2 : Int32} {x3 : Int32} (h :
    (if x1 < 0 then
     Q (.inl (some (.int (Int32.ofInt 1)))) (gE Lx) I L (e + 1)
    else
     (if (I 5 3) < x1 then
      Q (.inl (some (.int (Int32.ofInt 1)))) (gE Lx) I L (e + 1)
     else
      Wp 136 0 [(0, .ref 1), (1, .int x1)] [] (gE Lx) I L e (kcp (Wp 148) 148 2 0 [(0, .ref 1), (2, .int x2)] 71 [] (kcp (Wp 147) 147 8 0 [(0, .ref 1), (2, .int x2), (3, .int x3)] 71 [] (kcp (Wp 390) 390 7 0 [(0, .ref 1), (4, .ref 70)] 71 [.int (Int32.ofInt 0), .ref 70] Q)))))) :
    Wp 390 0 [(0, .ref 1), (1, .int x1), (2, .int x2), (3, .int x3), (4, .ref 70)] [] (gE Lx) I L e Q := by
  refine w_a f_390_0 ?_
  refine w_a f_390_2 ?_
  refine w_a f_390_3 ?_
  refine w_a f_390_4 ?_
  refine w_a f_390_5 ?_
  refine w_a f_390_6 ?_
  refine w_c (ks := [0, 4]) f_390_7 rfl rfl ?_
  refine w_a (ls := [(0, .ref 1), (1, .int x1), (2, .int x2), (3, .int x3)]) f_147_0 ?_
  refine w_a f_147_1 ?_
  refine w_a f_147_2 ?_
  refine w_a (ls := [(0, .ref 1), (1, .int x1)]) f_122_0 ?_
  refine w_a f_122_1 ?_
  refine i_m (fun h => ?_) (fun h => ?_) h
  · refine w_a f_122_15 ?_
    exact h
  · refine w_a f_122_4 ?_
    refine w_a f_122_5 ?_
    refine w_a f_122_6 ?_
    refine w_a f_122_9 ?_
    refine w_a f_122_12 ?_
    refine i_m (fun h => ?_) (fun h => ?_) h
    · refine w_a f_122_15 ?_
      exact h
    · refine w_a f_122_23 ?_
      refine w_a (ls := [(0, .ref 1), (1, .int x1), (2, .int x2), (3, .int x3)]) f_147_5 ?_
      refine w_a f_147_6 ?_
      refine w_a f_147_7 ?_
      refine w_c (ks := [0, 2, 3]) f_147_8 rfl rfl ?_
      refine w_a (ls := [(0, .ref 1), (1, .int x1), (2, .int x2)]) f_148_0 ?_
      refine w_a f_148_1 ?_
      exact w_c (ks := [0, 2]) f_148_2 rfl rfl h
set_option maxRecDepth 10000 in
set_option maxHeartbeats 4000000 in
theorem s_391_0 {Lx : Nat} {I : Mi} {L : Ml} {e : Nat} {Q : Kq} {x1 : Int32} {x2 : Int32} {x3 : Int32} (h :
    Wp 114 0 [(0, .long x1.toInt64), (2, .long x2.toInt64)] [] (gE Lx) I L e (kcp (Wp 151) 151 4 0 [(0, .ref 1), (1, .int x1)] 71 [] (kcp (Wp 150) 150 3 0 [(0, .ref 1), (1, .int x1), (2, .int x2), (3, .int x3)] 71 [] (kcp (Wp 391) 391 7 0 [(0, .ref 1), (4, .ref 70)] 71 [.int (Int32.ofInt 0), .ref 70] Q)))) :
    Wp 391 0 [(0, .ref 1), (1, .int x1), (2, .int x2), (3, .int x3), (4, .ref 70)] [] (gE Lx) I L e Q := by
  refine w_a f_391_0 ?_
  refine w_a f_391_2 ?_
  refine w_a f_391_3 ?_
  refine w_a f_391_4 ?_
  refine w_a f_391_5 ?_
  refine w_a f_391_6 ?_
  refine w_c (ks := [0, 4]) f_391_7 rfl rfl ?_
  refine w_a (ls := [(0, .ref 1), (1, .int x1), (2, .int x2), (3, .int x3)]) f_150_0 ?_
  refine w_a f_150_1 ?_
  refine w_a f_150_2 ?_
  refine w_c (ks := [0, 1, 2, 3]) f_150_3 rfl rfl ?_
  refine w_a (ls := [(0, .ref 1), (1, .int x1), (2, .int x2)]) f_151_0 ?_
  refine w_a f_151_1 ?_
  refine w_a f_151_2 ?_
  refine w_a f_151_3 ?_
  exact w_c (ks := [0, 1]) f_151_4 rfl rfl h
set_option maxRecDepth 10000 in
set_option maxHeartbeats 4000000 in
theorem s_392_0 {Lx : Nat} {I : Mi} {L : Ml} {e : Nat} {Q : Kq} {x1 : Int32} {x2 : Int32} {x3 : Int32} {x4 : Int32} (h :
    (if x1 < 0 then
     Q (.inl (some (.int (Int32.ofInt 1)))) (gE Lx) I L (e + 1)
    else
     (if (I 5 3) < x1 then
      Q (.inl (some (.int (Int32.ofInt 1)))) (gE Lx) I L (e + 1)
     else
      Wp 114 0 [(0, .long x3.toInt64), (2, .long x4.toInt64)] [] (gE Lx) I L e (kcp (Wp 151) 151 4 0 [(0, .ref 1), (1, .int x3)] 71 [] (kcp (Wp 152) 152 9 0 [(0, .ref 1), (1, .int x1), (2, .int x2), (3, .int x3), (4, .int x4)] 71 [] (kcp (Wp 392) 392 9 0 [(0, .ref 1), (5, .ref 70)] 71 [.int (Int32.ofInt 0), .ref 70] Q)))))) :
    Wp 392 0 [(0, .ref 1), (1, .int x1), (2, .int x2), (3, .int x3), (4, .int x4), (5, .ref 70)] [] (gE Lx) I L e Q := by
  refine w_a f_392_0 ?_
  refine w_a f_392_2 ?_
  refine w_a f_392_3 ?_
  refine w_a f_392_4 ?_
  refine w_a f_392_5 ?_
  refine w_a f_392_6 ?_
  refine w_a f_392_7 ?_
  refine w_c (ks := [0, 5]) f_392_9 rfl rfl ?_
  refine w_a (ls := [(0, .ref 1), (1, .int x1), (2, .int x2), (3, .int x3), (4, .int x4)]) f_152_0 ?_
  refine w_a f_152_1 ?_
  refine w_a f_152_2 ?_
  refine w_a (ls := [(0, .ref 1), (1, .int x1)]) f_122_0 ?_
  refine w_a f_122_1 ?_
  refine i_m (fun h => ?_) (fun h => ?_) h
  · refine w_a f_122_15 ?_
    exact h
  · refine w_a f_122_4 ?_
    refine w_a f_122_5 ?_
    refine w_a f_122_6 ?_
    refine w_a f_122_9 ?_
    refine w_a f_122_12 ?_
    refine i_m (fun h => ?_) (fun h => ?_) h
    · refine w_a f_122_15 ?_
      exact h
    · refine w_a f_122_23 ?_
      refine w_a (ls := [(0, .ref 1), (1, .int x1), (2, .int x2), (3, .int x3), (4, .int x4)]) f_152_5 ?_
      refine w_a f_152_6 ?_
      refine w_a f_152_7 ?_
      refine w_c (ks := [0, 1, 2, 3, 4]) f_152_9 rfl rfl ?_
      refine w_a (ls := [(0, .ref 1), (1, .int x3), (2, .int x4)]) f_151_0 ?_
      refine w_a f_151_1 ?_
      refine w_a f_151_2 ?_
      refine w_a f_151_3 ?_
      exact w_c (ks := [0, 1]) f_151_4 rfl rfl h
set_option maxRecDepth 10000 in
set_option maxHeartbeats 4000000 in
theorem s_393_0 {Lx : Nat} {I : Mi} {L : Ml} {e : Nat} {Q : Kq} {x1 : Int32} {x2 : Int32} {x3 : Int32} {x4 : Int32} {x5 : Int32} {x6 : Int32} {x7 : Int32} (h :
    (if x1 < 0 then
     Q (.inl (some (.int (Int32.ofInt 1)))) (gE Lx) I L (e + 1)
    else
     (if (I 5 3) < x1 then
      Q (.inl (some (.int (Int32.ofInt 1)))) (gE Lx) I L (e + 1)
     else
      Wp 114 0 [(0, .long x3.toInt64), (2, .long x4.toInt64)] [] (gE Lx) I L e (kcp (Wp 151) 151 4 0 [(0, .ref 1), (1, .int x3)] 71 [] (kcp (Wp 153) 153 9 0 [(0, .ref 1), (1, .int x1), (2, .int x2), (3, .int x3), (4, .int x4), (5, .int x5), (6, .int x6), (7, .int x7)] 71 [] (kcp (Wp 393) 393 15 0 [(0, .ref 1), (8, .ref 70)] 71 [.int (Int32.ofInt 0), .ref 70] Q)))))) :
    Wp 393 0 [(0, .ref 1), (1, .int x1), (2, .int x2), (3, .int x3), (4, .int x4), (5, .int x5), (6, .int x6), (7, .int x7), (8, .ref 70)] [] (gE Lx) I L e Q := by
  refine w_a f_393_0 ?_
  refine w_a f_393_2 ?_
  refine w_a f_393_3 ?_
  refine w_a f_393_4 ?_
  refine w_a f_393_5 ?_
  refine w_a f_393_6 ?_
  refine w_a f_393_7 ?_
  refine w_a f_393_9 ?_
  refine w_a f_393_11 ?_
  refine w_a f_393_13 ?_
  refine w_c (ks := [0, 8]) f_393_15 rfl rfl ?_
  refine w_a (ls := [(0, .ref 1), (1, .int x1), (2, .int x2), (3, .int x3), (4, .int x4), (5, .int x5), (6, .int x6), (7, .int x7)]) f_153_0 ?_
  refine w_a f_153_1 ?_
  refine w_a f_153_2 ?_
  refine w_a (ls := [(0, .ref 1), (1, .int x1)]) f_122_0 ?_
  refine w_a f_122_1 ?_
  refine i_m (fun h => ?_) (fun h => ?_) h
  · refine w_a f_122_15 ?_
    exact h
  · refine w_a f_122_4 ?_
    refine w_a f_122_5 ?_
    refine w_a f_122_6 ?_
    refine w_a f_122_9 ?_
    refine w_a f_122_12 ?_
    refine i_m (fun h => ?_) (fun h => ?_) h
    · refine w_a f_122_15 ?_
      exact h
    · refine w_a f_122_23 ?_
      refine w_a (ls := [(0, .ref 1), (1, .int x1), (2, .int x2), (3, .int x3), (4, .int x4), (5, .int x5), (6, .int x6), (7, .int x7)]) f_153_5 ?_
      refine w_a f_153_6 ?_
      refine w_a f_153_7 ?_
      refine w_c (ks := [0, 1, 2, 3, 4, 5, 6, 7]) f_153_9 rfl rfl ?_
      refine w_a (ls := [(0, .ref 1), (1, .int x3), (2, .int x4)]) f_151_0 ?_
      refine w_a f_151_1 ?_
      refine w_a f_151_2 ?_
      refine w_a f_151_3 ?_
      exact w_c (ks := [0, 1]) f_151_4 rfl rfl h
set_option maxRecDepth 10000 in
set_option maxHeartbeats 4000000 in
theorem s_394_0 {Lx : Nat} {I : Mi} {L : Ml} {e : Nat} {Q : Kq} {x1 : Int32} {x2 : Int32} {x3 : Int32} {x4 : Int32} {x5 : Int32} (h :
    (if x1 < 0 then
     Q (.inl (some (.int (Int32.ofInt 1)))) (gE Lx) I L (e + 1)
    else
     (if (I 5 3) < x1 then
      Q (.inl (some (.int (Int32.ofInt 1)))) (gE Lx) I L (e + 1)
     else
      Wp 114 0 [(0, .long x3.toInt64), (2, .long x4.toInt64)] [] (gE Lx) I L e (kcp (Wp 151) 151 4 0 [(0, .ref 1), (1, .int x3)] 71 [] (kcp (Wp 155) 155 9 0 [(0, .ref 1), (1, .int x1), (2, .int x2), (3, .int x3), (4, .int x4), (5, .int x5)] 71 [] (kcp (Wp 394) 394 11 0 [(0, .ref 1), (6, .ref 70)] 71 [.int (Int32.ofInt 0), .ref 70] Q)))))) :
    Wp 394 0 [(0, .ref 1), (1, .int x1), (2, .int x2), (3, .int x3), (4, .int x4), (5, .int x5), (6, .ref 70)] [] (gE Lx) I L e Q := by
  refine w_a f_394_0 ?_
  refine w_a f_394_2 ?_
  refine w_a f_394_3 ?_
  refine w_a f_394_4 ?_
  refine w_a f_394_5 ?_
  refine w_a f_394_6 ?_
  refine w_a f_394_7 ?_
  refine w_a f_394_9 ?_
  refine w_c (ks := [0, 6]) f_394_11 rfl rfl ?_
  refine w_a (ls := [(0, .ref 1), (1, .int x1), (2, .int x2), (3, .int x3), (4, .int x4), (5, .int x5)]) f_155_0 ?_
  refine w_a f_155_1 ?_
  refine w_a f_155_2 ?_
  refine w_a (ls := [(0, .ref 1), (1, .int x1)]) f_122_0 ?_
  refine w_a f_122_1 ?_
  refine i_m (fun h => ?_) (fun h => ?_) h
  · refine w_a f_122_15 ?_
    exact h
  · refine w_a f_122_4 ?_
    refine w_a f_122_5 ?_
    refine w_a f_122_6 ?_
    refine w_a f_122_9 ?_
    refine w_a f_122_12 ?_
    refine i_m (fun h => ?_) (fun h => ?_) h
    · refine w_a f_122_15 ?_
      exact h
    · refine w_a f_122_23 ?_
      refine w_a (ls := [(0, .ref 1), (1, .int x1), (2, .int x2), (3, .int x3), (4, .int x4), (5, .int x5)]) f_155_5 ?_
      refine w_a f_155_6 ?_
      refine w_a f_155_7 ?_
      refine w_c (ks := [0, 1, 2, 3, 4, 5]) f_155_9 rfl rfl ?_
      refine w_a (ls := [(0, .ref 1), (1, .int x3), (2, .int x4)]) f_151_0 ?_
      refine w_a f_151_1 ?_
      refine w_a f_151_2 ?_
      refine w_a f_151_3 ?_
      exact w_c (ks := [0, 1]) f_151_4 rfl rfl h
set_option maxRecDepth 10000 in
set_option maxHeartbeats 4000000 in
theorem s_395_0 {Lx : Nat} {I : Mi} {L : Ml} {e : Nat} {Q : Kq} {x1 : Int32} {x2 : Int32} {x3 : Int32} {x4 : Int32} {x5 : Int32} (h :
    (if x1 < 0 then
     Q (.inl (some (.int (Int32.ofInt 1)))) (gE Lx) I L (e + 1)
    else
     (if (I 5 3) < x1 then
      Q (.inl (some (.int (Int32.ofInt 1)))) (gE Lx) I L (e + 1)
     else
      (if x5 < 0 then
       Q (.inl (some (.int (Int32.ofInt 2)))) (gE Lx) I L (e + 1)
      else
       (if (Int32.ofInt 2) < x5 then
        Q (.inl (some (.int (Int32.ofInt 2)))) (gE Lx) I L (e + 1)
       else
        Wp 114 0 [(0, .long x3.toInt64), (2, .long x4.toInt64)] [] (gE Lx) I L e (kcp (Wp 151) 151 4 0 [(0, .ref 1), (1, .int x3)] 71 [] (kcp (Wp 159) 159 16 0 [(0, .ref 1), (1, .int x1), (2, .int x2), (3, .int x3), (4, .int x4), (5, .int x5)] 71 [] (kcp (Wp 395) 395 11 0 [(0, .ref 1), (6, .ref 70)] 71 [.int (Int32.ofInt 0), .ref 70] Q)))))))) :
    Wp 395 0 [(0, .ref 1), (1, .int x1), (2, .int x2), (3, .int x3), (4, .int x4), (5, .int x5), (6, .ref 70)] [] (gE Lx) I L e Q := by
  refine w_a f_395_0 ?_
  refine w_a f_395_2 ?_
  refine w_a f_395_3 ?_
  refine w_a f_395_4 ?_
  refine w_a f_395_5 ?_
  refine w_a f_395_6 ?_
  refine w_a f_395_7 ?_
  refine w_a f_395_9 ?_
  refine w_c (ks := [0, 6]) f_395_11 rfl rfl ?_
  refine w_a (ls := [(0, .ref 1), (1, .int x1), (2, .int x2), (3, .int x3), (4, .int x4), (5, .int x5)]) f_159_0 ?_
  refine w_a f_159_1 ?_
  refine w_a f_159_2 ?_
  refine w_a (ls := [(0, .ref 1), (1, .int x1)]) f_122_0 ?_
  refine w_a f_122_1 ?_
  refine i_m (fun h => ?_) (fun h => ?_) h
  · refine w_a f_122_15 ?_
    exact h
  · refine w_a f_122_4 ?_
    refine w_a f_122_5 ?_
    refine w_a f_122_6 ?_
    refine w_a f_122_9 ?_
    refine w_a f_122_12 ?_
    refine i_m (fun h => ?_) (fun h => ?_) h
    · refine w_a f_122_15 ?_
      exact h
    · refine w_a f_122_23 ?_
      refine w_a (ls := [(0, .ref 1), (1, .int x1), (2, .int x2), (3, .int x3), (4, .int x4), (5, .int x5)]) f_159_5 ?_
      refine w_a f_159_6 ?_
      refine w_a f_159_8 ?_
      refine w_a f_159_9 ?_
      refine w_a (ls := [(0, .ref 1), (1, .int x5), (2, .int (Int32.ofInt 2))]) f_120_0 ?_
      refine w_a f_120_1 ?_
      refine i_m (fun h => ?_) (fun h => ?_) h
      · refine w_a f_120_9 ?_
        exact h
      · refine w_a f_120_4 ?_
        refine w_a f_120_5 ?_
        refine w_a f_120_6 ?_
        refine i_m (fun h => ?_) (fun h => ?_) h
        · refine w_a f_120_9 ?_
          exact h
        · refine w_a f_120_17 ?_
          refine w_a (ls := [(0, .ref 1), (1, .int x1), (2, .int x2), (3, .int x3), (4, .int x4), (5, .int x5)]) f_159_12 ?_
          refine w_a f_159_13 ?_
          refine w_a f_159_14 ?_
          refine w_c (ks := [0, 1, 2, 3, 4, 5]) f_159_16 rfl rfl ?_
          refine w_a (ls := [(0, .ref 1), (1, .int x3), (2, .int x4)]) f_151_0 ?_
          refine w_a f_151_1 ?_
          refine w_a f_151_2 ?_
          refine w_a f_151_3 ?_
          exact w_c (ks := [0, 1]) f_151_4 rfl rfl h
set_option maxRecDepth 10000 in
set_option maxHeartbeats 4000000 in
theorem s_396_0 {Lx : Nat} {I : Mi} {L : Ml} {e : Nat} {Q : Kq} {x1 : Int32} {x2 : Int32} (h :
    (if x1 < 0 then
     Q (.inl (some (.int (Int32.ofInt 1)))) (gE Lx) I L (e + 1)
    else
     (if (I 5 3) < x1 then
      Q (.inl (some (.int (Int32.ofInt 1)))) (gE Lx) I L (e + 1)
     else
      Wp 136 0 [(0, .ref 1), (1, .int x1)] [] (gE Lx) I L e (kcp (Wp 148) 148 2 0 [(0, .ref 1), (2, .int x2)] 71 [] (kcp (Wp 162) 162 8 0 [(0, .ref 1), (2, .int x2)] 71 [] (kcp (Wp 396) 396 5 0 [(0, .ref 1), (3, .ref 70)] 71 [.int (Int32.ofInt 0), .ref 70] Q)))))) :
    Wp 396 0 [(0, .ref 1), (1, .int x1), (2, .int x2), (3, .ref 70)] [] (gE Lx) I L e Q := by
  refine w_a f_396_0 ?_
  refine w_a f_396_1 ?_
  refine w_a f_396_2 ?_
  refine w_a f_396_3 ?_
  refine w_a f_396_4 ?_
  refine w_c (ks := [0, 3]) f_396_5 rfl rfl ?_
  refine w_a (ls := [(0, .ref 1), (1, .int x1), (2, .int x2)]) f_162_0 ?_
  refine w_a f_162_1 ?_
  refine w_a f_162_2 ?_
  refine w_a (ls := [(0, .ref 1), (1, .int x1)]) f_122_0 ?_
  refine w_a f_122_1 ?_
  refine i_m (fun h => ?_) (fun h => ?_) h
  · refine w_a f_122_15 ?_
    exact h
  · refine w_a f_122_4 ?_
    refine w_a f_122_5 ?_
    refine w_a f_122_6 ?_
    refine w_a f_122_9 ?_
    refine w_a f_122_12 ?_
    refine i_m (fun h => ?_) (fun h => ?_) h
    · refine w_a f_122_15 ?_
      exact h
    · refine w_a f_122_23 ?_
      refine w_a (ls := [(0, .ref 1), (1, .int x1), (2, .int x2)]) f_162_5 ?_
      refine w_a f_162_6 ?_
      refine w_a f_162_7 ?_
      refine w_c (ks := [0, 2]) f_162_8 rfl rfl ?_
      refine w_a (ls := [(0, .ref 1), (1, .int x1), (2, .int x2)]) f_148_0 ?_
      refine w_a f_148_1 ?_
      exact w_c (ks := [0, 2]) f_148_2 rfl rfl h
set_option maxRecDepth 10000 in
set_option maxHeartbeats 4000000 in
theorem s_397_0 {Lx : Nat} {I : Mi} {L : Ml} {e : Nat} {Q : Kq} {x1 : Int32} {x2 : Int32} {x3 : Int32} {x4 : Int32} {x5 : Int32} (h :
    (if x1 < 0 then
     Q (.inl (some (.int (Int32.ofInt 1)))) (gE Lx) I L (e + 1)
    else
     (if (I 5 3) < x1 then
      Q (.inl (some (.int (Int32.ofInt 1)))) (gE Lx) I L (e + 1)
     else
      Wp 136 0 [(0, .ref 1), (1, .int x1)] [] (gE Lx) I L e (kcp (Wp 148) 148 2 0 [(0, .ref 1), (2, .int x2)] 71 [] (kcp (Wp 164) 164 8 0 [(0, .ref 1), (2, .int x2), (3, .int x3), (4, .int x4), (5, .int x5)] 71 [] (kcp (Wp 397) 397 11 0 [(0, .ref 1), (6, .ref 70)] 71 [.int (Int32.ofInt 0), .ref 70] Q)))))) :
    Wp 397 0 [(0, .ref 1), (1, .int x1), (2, .int x2), (3, .int x3), (4, .int x4), (5, .int x5), (6, .ref 70)] [] (gE Lx) I L e Q := by
  refine w_a f_397_0 ?_
  refine w_a f_397_2 ?_
  refine w_a f_397_3 ?_
  refine w_a f_397_4 ?_
  refine w_a f_397_5 ?_
  refine w_a f_397_6 ?_
  refine w_a f_397_7 ?_
  refine w_a f_397_9 ?_
  refine w_c (ks := [0, 6]) f_397_11 rfl rfl ?_
  refine w_a (ls := [(0, .ref 1), (1, .int x1), (2, .int x2), (3, .int x3), (4, .int x4), (5, .int x5)]) f_164_0 ?_
  refine w_a f_164_1 ?_
  refine w_a f_164_2 ?_
  refine w_a (ls := [(0, .ref 1), (1, .int x1)]) f_122_0 ?_
  refine w_a f_122_1 ?_
  refine i_m (fun h => ?_) (fun h => ?_) h
  · refine w_a f_122_15 ?_
    exact h
  · refine w_a f_122_4 ?_
    refine w_a f_122_5 ?_
    refine w_a f_122_6 ?_
    refine w_a f_122_9 ?_
    refine w_a f_122_12 ?_
    refine i_m (fun h => ?_) (fun h => ?_) h
    · refine w_a f_122_15 ?_
      exact h
    · refine w_a f_122_23 ?_
      refine w_a (ls := [(0, .ref 1), (1, .int x1), (2, .int x2), (3, .int x3), (4, .int x4), (5, .int x5)]) f_164_5 ?_
      refine w_a f_164_6 ?_
      refine w_a f_164_7 ?_
      refine w_c (ks := [0, 2, 3, 4, 5]) f_164_8 rfl rfl ?_
      refine w_a (ls := [(0, .ref 1), (1, .int x1), (2, .int x2)]) f_148_0 ?_
      refine w_a f_148_1 ?_
      exact w_c (ks := [0, 2]) f_148_2 rfl rfl h
set_option maxRecDepth 10000 in
set_option maxHeartbeats 4000000 in
theorem s_398_0 {Lx : Nat} {I : Mi} {L : Ml} {e : Nat} {Q : Kq} {x1 : Int32} {x2 : Int32} {x3 : Int32} (h :
    (if x1 < 0 then
     Q (.inl (some (.int (Int32.ofInt 1)))) (gE Lx) I L (e + 1)
    else
     (if (I 5 3) < x1 then
      Q (.inl (some (.int (Int32.ofInt 1)))) (gE Lx) I L (e + 1)
     else
      Wp 136 0 [(0, .ref 1), (1, .int x1)] [] (gE Lx) I L e (kcp (Wp 165) 165 7 0 [(0, .ref 1), (2, .int x2), (3, .int x3)] 71 [] (kcp (Wp 398) 398 7 0 [(0, .ref 1), (4, .ref 70)] 71 [.int (Int32.ofInt 0), .ref 70] Q))))) :
    Wp 398 0 [(0, .ref 1), (1, .int x1), (2, .int x2), (3, .int x3), (4, .ref 70)] [] (gE Lx) I L e Q := by
  refine w_a f_398_0 ?_
  refine w_a f_398_2 ?_
  refine w_a f_398_3 ?_
  refine w_a f_398_4 ?_
  refine w_a f_398_5 ?_
  refine w_a f_398_6 ?_
  refine w_c (ks := [0, 4]) f_398_7 rfl rfl ?_
  refine w_a (ls := [(0, .ref 1), (1, .int x1), (2, .int x2), (3, .int x3)]) f_165_0 ?_
  refine w_a f_165_1 ?_
  refine w_a f_165_2 ?_
  refine w_a (ls := [(0, .ref 1), (1, .int x1)]) f_122_0 ?_
  refine w_a f_122_1 ?_
  refine i_m (fun h => ?_) (fun h => ?_) h
  · refine w_a f_122_15 ?_
    exact h
  · refine w_a f_122_4 ?_
    refine w_a f_122_5 ?_
    refine w_a f_122_6 ?_
    refine w_a f_122_9 ?_
    refine w_a f_122_12 ?_
    refine i_m (fun h => ?_) (fun h => ?_) h
    · refine w_a f_122_15 ?_
      exact h
    · refine w_a f_122_23 ?_
      refine w_a (ls := [(0, .ref 1), (1, .int x1), (2, .int x2), (3, .int x3)]) f_165_5 ?_
      refine w_a f_165_6 ?_
      exact w_c (ks := [0, 2, 3]) f_165_7 rfl rfl h
set_option maxRecDepth 10000 in
set_option maxHeartbeats 4000000 in
theorem s_399_0 {Lx : Nat} {I : Mi} {L : Ml} {e : Nat} {Q : Kq} {x1 : Int32} {x2 : Int32} (h :
    (if x1 < 0 then
     Q (.inl (some (.int (Int32.ofInt 1)))) (gE Lx) I L (e + 1)
    else
     (if (I 5 3) < x1 then
      Q (.inl (some (.int (Int32.ofInt 1)))) (gE Lx) I L (e + 1)
     else
      Wp 136 0 [(0, .ref 1), (1, .int x1)] [] (gE Lx) I L e (kcp (Wp 166) 166 7 0 [(0, .ref 1), (2, .int x2)] 71 [] (kcp (Wp 399) 399 5 0 [(0, .ref 1), (3, .ref 70)] 71 [.int (Int32.ofInt 0), .ref 70] Q))))) :
    Wp 399 0 [(0, .ref 1), (1, .int x1), (2, .int x2), (3, .ref 70)] [] (gE Lx) I L e Q := by
  refine w_a f_399_0 ?_
  refine w_a f_399_1 ?_
  refine w_a f_399_2 ?_
  refine w_a f_399_3 ?_
  refine w_a f_399_4 ?_
  refine w_c (ks := [0, 3]) f_399_5 rfl rfl ?_
  refine w_a (ls := [(0, .ref 1), (1, .int x1), (2, .int x2)]) f_166_0 ?_
  refine w_a f_166_1 ?_
  refine w_a f_166_2 ?_
  refine w_a (ls := [(0, .ref 1), (1, .int x1)]) f_122_0 ?_
  refine w_a f_122_1 ?_
  refine i_m (fun h => ?_) (fun h => ?_) h
  · refine w_a f_122_15 ?_
    exact h
  · refine w_a f_122_4 ?_
    refine w_a f_122_5 ?_
    refine w_a f_122_6 ?_
    refine w_a f_122_9 ?_
    refine w_a f_122_12 ?_
    refine i_m (fun h => ?_) (fun h => ?_) h
    · refine w_a f_122_15 ?_
      exact h
    · refine w_a f_122_23 ?_
      refine w_a (ls := [(0, .ref 1), (1, .int x1), (2, .int x2)]) f_166_5 ?_
      refine w_a f_166_6 ?_
      exact w_c (ks := [0, 2]) f_166_7 rfl rfl h
set_option maxRecDepth 10000 in
set_option maxHeartbeats 4000000 in
theorem s_400_0 {Lx : Nat} {I : Mi} {L : Ml} {e : Nat} {Q : Kq} {x1 : Int32} (h :
    (if x1 < 0 then
     Q (.inl (some (.int (Int32.ofInt 1)))) (gE Lx) I L (e + 1)
    else
     (if (I 5 3) < x1 then
      Q (.inl (some (.int (Int32.ofInt 1)))) (gE Lx) I L (e + 1)
     else
      Wp 136 0 [(0, .ref 1), (1, .int x1)] [] (gE Lx) I L e (kcp (Wp 167) 167 7 0 [(0, .ref 1)] 71 [] (kcp (Wp 400) 400 4 0 [(0, .ref 1), (2, .ref 70)] 71 [.int (Int32.ofInt 0), .ref 70] Q))))) :
    Wp 400 0 [(0, .ref 1), (1, .int x1), (2, .ref 70)] [] (gE Lx) I L e Q := by
  refine w_a f_400_0 ?_
  refine w_a f_400_1 ?_
  refine w_a f_400_2 ?_
  refine w_a f_400_3 ?_
  refine w_c (ks := [0, 2]) f_400_4 rfl rfl ?_
  refine w_a (ls := [(0, .ref 1), (1, .int x1)]) f_167_0 ?_
  refine w_a f_167_1 ?_
  refine w_a f_167_2 ?_
  refine w_a (ls := [(0, .ref 1), (1, .int x1)]) f_122_0 ?_
  refine w_a f_122_1 ?_
  refine i_m (fun h => ?_) (fun h => ?_) h
  · refine w_a f_122_15 ?_
    exact h
  · refine w_a f_122_4 ?_
    refine w_a f_122_5 ?_
    refine w_a f_122_6 ?_
    refine w_a f_122_9 ?_
    refine w_a f_122_12 ?_
    refine i_m (fun h => ?_) (fun h => ?_) h
    · refine w_a f_122_15 ?_
      exact h
    · refine w_a f_122_23 ?_
      refine w_a (ls := [(0, .ref 1), (1, .int x1)]) f_167_5 ?_
      refine w_a f_167_6 ?_
      exact w_c (ks := [0]) f_167_7 rfl rfl h
set_option maxRecDepth 10000 in
set_option maxHeartbeats 4000000 in
theorem s_401_0 {Lx : Nat} {I : Mi} {L : Ml} {e : Nat} {Q : Kq} {x1 : Int32} {x2 : Int32} {x3 : Int32} (h :
    (if x3 < 0 then
     Q (.inl (some (.int (Int32.ofInt 1)))) (gE Lx) I L (e + 1)
    else
     (if (Int32.ofInt 4) < x3 then
      Q (.inl (some (.int (Int32.ofInt 1)))) (gE Lx) I L (e + 1)
     else
      (if x1 < (Int32.ofInt 1) then
       Q (.inl (some (.int (Int32.ofInt 2)))) (gE Lx) I L (e + 1)
      else
       (if (Int32.ofInt 12) < x1 then
        Q (.inl (some (.int (Int32.ofInt 2)))) (gE Lx) I L (e + 1)
       else
        (if (Int32.ofInt 2) < (I 5 3) then
         Q (.inl (some (.int (Int32.ofInt 3)))) (gE Lx) I L (e + 1)
        else
         Wp 171 0 [(0, .ref 1), (1, .int x1), (2, .int x2)] [] (gE Lx) I L e (kcp (Wp 168) 168 20 0 [(0, .ref 1), (2, .int x2), (3, .int x3)] 71 [] (kcp (Wp 401) 401 7 0 [(0, .ref 1), (4, .ref 70)] 71 [.int (Int32.ofInt 0), .ref 70] Q)))))))) :
    Wp 401 0 [(0, .ref 1), (1, .int x1), (2, .int x2), (3, .int x3), (4, .ref 70)] [] (gE Lx) I L e Q := by
  refine w_a f_401_0 ?_
  refine w_a f_401_2 ?_
  refine w_a f_401_3 ?_
  refine w_a f_401_4 ?_
  refine w_a f_401_5 ?_
  refine w_a f_401_6 ?_
  refine w_c (ks := [0, 4]) f_401_7 rfl rfl ?_
  refine w_a (ls := [(0, .ref 1), (1, .int x1), (2, .int x2), (3, .int x3)]) f_168_0 ?_
  refine w_a f_168_1 ?_
  refine w_a f_168_2 ?_
  refine w_a f_168_3 ?_
  refine w_a (ls := [(0, .ref 1), (1, .int x3), (2, .int (Int32.ofInt 4))]) f_120_0 ?_
  refine w_a f_120_1 ?_
  refine i_m (fun h => ?_) (fun h => ?_) h
  · refine w_a f_120_9 ?_
    exact h
  · refine w_a f_120_4 ?_
    refine w_a f_120_5 ?_
    refine w_a f_120_6 ?_
    refine i_m (fun h => ?_) (fun h => ?_) h
    · refine w_a f_120_9 ?_
      exact h
    · refine w_a f_120_17 ?_
      refine w_a (ls := [(0, .ref 1), (1, .int x1), (2, .int x2), (3, .int x3)]) f_168_6 ?_
      refine w_a f_168_7 ?_
      refine w_a f_168_8 ?_
      refine w_a f_168_10 ?_
      refine w_a (ls := [(0, .ref 1), (1, .int x1), (2, .int (Int32.ofInt 12))]) f_169_0 ?_
      refine w_a f_169_1 ?_
      refine w_a f_169_2 ?_
      refine i_m (fun h => ?_) (fun h => ?_) h
      · refine w_a f_169_10 ?_
        exact h
      · refine w_a f_169_5 ?_
        refine w_a f_169_6 ?_
        refine w_a f_169_7 ?_
        refine i_m (fun h => ?_) (fun h => ?_) h
        · refine w_a f_169_10 ?_
          exact h
        · refine w_a f_169_18 ?_
          refine w_a (ls := [(0, .ref 1), (1, .int x1), (2, .int x2), (3, .int x3)]) f_168_13 ?_
          refine w_a f_168_14 ?_
          refine w_a (ls := [(0, .ref 1)]) f_170_0 ?_
          refine w_a f_170_1 ?_
          refine w_a f_170_4 ?_
          refine w_a f_170_7 ?_
          refine w_a f_170_8 ?_
          refine i_m (fun h => ?_) (fun h => ?_) h
          · refine w_a f_170_11 ?_
            exact h
          · refine w_a f_170_19 ?_
            refine w_a (ls := [(0, .ref 1), (1, .int x1), (2, .int x2), (3, .int x3)]) f_168_17 ?_
            refine w_a f_168_18 ?_
            refine w_a f_168_19 ?_
            exact w_c (ks := [0, 2, 3]) f_168_20 rfl rfl h
set_option maxRecDepth 10000 in
set_option maxHeartbeats 4000000 in
theorem s_402_0 {Lx : Nat} {I : Mi} {L : Ml} {e : Nat} {Q : Kq} {x1 : Int32} {x2 : Int32} (h :
    (if x2 < 0 then
     Q (.inl (some (.int (Int32.ofInt 1)))) (gE Lx) I L (e + 1)
    else
     (if (Int32.ofInt 3) < x2 then
      Q (.inl (some (.int (Int32.ofInt 1)))) (gE Lx) I L (e + 1)
     else
      (if x1 < (Int32.ofInt 1) then
       Q (.inl (some (.int (Int32.ofInt 2)))) (gE Lx) I L (e + 1)
      else
       (if (Int32.ofInt 12) < x1 then
        Q (.inl (some (.int (Int32.ofInt 2)))) (gE Lx) I L (e + 1)
       else
        (if (I 5 3) = 0 then
         Q (.inl (some (.int (Int32.ofInt 3)))) (gE Lx) I L (e + 1)
        else
         Wp 176 0 [(0, .ref 1), (1, .int x1)] [] (gE Lx) I L e (kcp (Wp 175) 175 33 0 [(0, .ref 1), (2, .int x2)] 71 [] (kcp (Wp 402) 402 5 0 [(0, .ref 1), (3, .ref 70)] 71 [.int (Int32.ofInt 0), .ref 70] Q)))))))) :
    Wp 402 0 [(0, .ref 1), (1, .int x1), (2, .int x2), (3, .ref 70)] [] (gE Lx) I L e Q := by
  refine w_a f_402_0 ?_
  refine w_a f_402_1 ?_
  refine w_a f_402_2 ?_
  refine w_a f_402_3 ?_
  refine w_a f_402_4 ?_
  refine w_c (ks := [0, 3]) f_402_5 rfl rfl ?_
  refine w_a (ls := [(0, .ref 1), (1, .int x1), (2, .int x2)]) f_175_0 ?_
  refine w_a f_175_1 ?_
  refine w_a f_175_2 ?_
  refine w_a f_175_3 ?_
  refine w_a (ls := [(0, .ref 1), (1, .int x2), (2, .int (Int32.ofInt 3))]) f_120_0 ?_
  refine w_a f_120_1 ?_
  refine i_m (fun h => ?_) (fun h => ?_) h
  · refine w_a f_120_9 ?_
    exact h
  · refine w_a f_120_4 ?_
    refine w_a f_120_5 ?_
    refine w_a f_120_6 ?_
    refine i_m (fun h => ?_) (fun h => ?_) h
    · refine w_a f_120_9 ?_
      exact h
    · refine w_a f_120_17 ?_
      refine w_a (ls := [(0, .ref 1), (1, .int x1), (2, .int x2)]) f_175_6 ?_
      refine w_a f_175_7 ?_
      refine w_a f_175_8 ?_
      refine w_a f_175_10 ?_
      refine w_a (ls := [(0, .ref 1), (1, .int x1), (2, .int (Int32.ofInt 12))]) f_169_0 ?_
      refine w_a f_169_1 ?_
      refine w_a f_169_2 ?_
      refine i_m (fun h => ?_) (fun h => ?_) h
      · refine w_a f_169_10 ?_
        exact h
      · refine w_a f_169_5 ?_
        refine w_a f_169_6 ?_
        refine w_a f_169_7 ?_
        refine i_m (fun h => ?_) (fun h => ?_) h
        · refine w_a f_169_10 ?_
          exact h
        · refine w_a f_169_18 ?_
          refine w_a (ls := [(0, .ref 1), (1, .int x1), (2, .int x2)]) f_175_13 ?_
          refine w_a f_175_14 ?_
          refine w_a f_175_17 ?_
          refine w_a f_175_20 ?_
          refine i_m (fun h => ?_) (fun h => ?_) h
          · refine w_a f_175_23 ?_
            exact h
          · refine w_a f_175_31 ?_
            refine w_a f_175_32 ?_
            exact w_c (ks := [0, 2]) f_175_33 rfl rfl h
set_option maxRecDepth 10000 in
set_option maxHeartbeats 4000000 in
theorem s_403_0 {Lx : Nat} {I : Mi} {L : Ml} {e : Nat} {Q : Kq} (h :
    Wp 53 0 [(0, .ref 17), (1, .long ((I 5 0).toInt64 * (I 5 2).toInt64)), (3, .long ((-(I 5 1).toInt64) * (I 5 2).toInt64)), (5, .long (((I 5 0).toInt64 * (I 5 0).toInt64) + ((I 5 1).toInt64 * (I 5 1).toInt64)))] [] (gE Lx) I L e (kcp (Wp 61) 61 17 0 [(0, .ref 17)] 71 [] (kcp (Wp 180) 180 28 0 [(0, .ref 1)] 71 [] (kcp (Wp 403) 403 1 0 [(0, .ref 1)] 71 [] Q)))) :
    Wp 403 0 [(0, .ref 1)] [] (gE Lx) I L e Q := by
  refine w_a f_403_0 ?_
  refine w_c (ks := [0]) f_403_1 rfl rfl ?_
  refine w_a (ls := [(0, .ref 1)]) f_180_0 ?_
  refine w_a f_180_1 ?_
  refine w_a f_180_4 ?_
  refine w_a f_180_5 ?_
  refine w_a f_180_8 ?_
  refine w_a f_180_11 ?_
  refine w_a f_180_12 ?_
  refine w_a f_180_13 ?_
  refine w_a f_180_16 ?_
  refine w_a f_180_19 ?_
  refine w_a f_180_20 ?_
  refine w_a f_180_21 ?_
  refine w_a f_180_24 ?_
  refine w_a f_180_27 ?_
  refine w_c (ks := [0]) f_180_28 rfl rfl ?_
  refine w_a (ls := [(0, .ref 17), (1, .long (I 5 0).toInt64), (3, .long (I 5 1).toInt64), (5, .long (I 5 2).toInt64)]) f_61_0 ?_
  refine w_a f_61_1 ?_
  refine w_a f_61_2 ?_
  refine w_a f_61_4 ?_
  refine w_a f_61_5 ?_
  refine w_a f_61_6 ?_
  refine w_a f_61_7 ?_
  refine w_a f_61_9 ?_
  refine w_a f_61_10 ?_
  refine w_a f_61_11 ?_
  refine w_a f_61_12 ?_
  refine w_a f_61_13 ?_
  refine w_a f_61_14 ?_
  refine w_a f_61_15 ?_
  refine w_a f_61_16 ?_
  exact w_c (ks := [0]) f_61_17 rfl rfl h
set_option maxRecDepth 10000 in
set_option maxHeartbeats 4000000 in
theorem s_404_0 {Lx : Nat} {I : Mi} {L : Ml} {e : Nat} {Q : Kq} {x1 : Int32} {x2 : Int32} (h :
    (if x2 < 0 then
     Q (.inl (some (.int (Int32.ofInt 1)))) (gE Lx) I L (e + 1)
    else
     (if (Int32.ofInt 5) < x2 then
      Q (.inl (some (.int (Int32.ofInt 1)))) (gE Lx) I L (e + 1)
     else
      (if x1 < (Int32.ofInt 1) then
       Q (.inl (some (.int (Int32.ofInt 2)))) (gE Lx) I L (e + 1)
      else
       (if (Int32.ofInt 4) < x1 then
        Q (.inl (some (.int (Int32.ofInt 2)))) (gE Lx) I L (e + 1)
       else
        (if (Int32.ofInt 2) < (I 5 3) then
         Q (.inl (some (.int (Int32.ofInt 3)))) (gE Lx) I L (e + 1)
        else
         Wp 182 0 [(0, .ref 1), (1, .int x1)] [] (gE Lx) I L e (kcp (Wp 181) 181 18 0 [(0, .ref 1), (2, .int x2)] 71 [] (kcp (Wp 404) 404 5 0 [(0, .ref 1), (3, .ref 70)] 71 [.int (Int32.ofInt 0), .ref 70] Q)))))))) :
    Wp 404 0 [(0, .ref 1), (1, .int x1), (2, .int x2), (3, .ref 70)] [] (gE Lx) I L e Q := by
  refine w_a f_404_0 ?_
  refine w_a f_404_1 ?_
  refine w_a f_404_2 ?_
  refine w_a f_404_3 ?_
  refine w_a f_404_4 ?_
  refine w_c (ks := [0, 3]) f_404_5 rfl rfl ?_
  refine w_a (ls := [(0, .ref 1), (1, .int x1), (2, .int x2)]) f_181_0 ?_
  refine w_a f_181_1 ?_
  refine w_a f_181_2 ?_
  refine w_a f_181_3 ?_
  refine w_a (ls := [(0, .ref 1), (1, .int x2), (2, .int (Int32.ofInt 5))]) f_120_0 ?_
  refine w_a f_120_1 ?_
  refine i_m (fun h => ?_) (fun h => ?_) h
  · refine w_a f_120_9 ?_
    exact h
  · refine w_a f_120_4 ?_
    refine w_a f_120_5 ?_
    refine w_a f_120_6 ?_
    refine i_m (fun h => ?_) (fun h => ?_) h
    · refine w_a f_120_9 ?_
      exact h
    · refine w_a f_120_17 ?_
      refine w_a (ls := [(0, .ref 1), (1, .int x1), (2, .int x2)]) f_181_6 ?_
      refine w_a f_181_7 ?_
      refine w_a f_181_8 ?_
      refine w_a f_181_9 ?_
      refine w_a (ls := [(0, .ref 1), (1, .int x1), (2, .int (Int32.ofInt 4))]) f_169_0 ?_
      refine w_a f_169_1 ?_
      refine w_a f_169_2 ?_
      refine i_m (fun h => ?_) (fun h => ?_) h
      · refine w_a f_169_10 ?_
        exact h
      · refine w_a f_169_5 ?_
        refine w_a f_169_6 ?_
        refine w_a f_169_7 ?_
        refine i_m (fun h => ?_) (fun h => ?_) h
        · refine w_a f_169_10 ?_
          exact h
        · refine w_a f_169_18 ?_
          refine w_a (ls := [(0, .ref 1), (1, .int x1), (2, .int x2)]) f_181_12 ?_
          refine w_a f_181_13 ?_
          refine w_a (ls := [(0, .ref 1)]) f_170_0 ?_
          refine w_a f_170_1 ?_
          refine w_a f_170_4 ?_
          refine w_a f_170_7 ?_
          refine w_a f_170_8 ?_
          refine i_m (fun h => ?_) (fun h => ?_) h
          · refine w_a f_170_11 ?_
            exact h
          · refine w_a f_170_19 ?_
            refine w_a (ls := [(0, .ref 1), (1, .int x1), (2, .int x2)]) f_181_16 ?_
            refine w_a f_181_17 ?_
            exact w_c (ks := [0, 2]) f_181_18 rfl rfl h
set_option maxRecDepth 10000 in
set_option maxHeartbeats 4000000 in
theorem s_405_0 {Lx : Nat} {I : Mi} {L : Ml} {e : Nat} {Q : Kq} {x1 : Int32} {x2 : Int32} {x3 : Int32} {x4 : Int32} {x5 : Int32} {x6 : Int32} (h :
    (if x1 < 0 then
     Q (.inl (some (.int (Int32.ofInt 1)))) (gE Lx) I L (e + 1)
    else
     (if (I 5 3) < x1 then
      Q (.inl (some (.int (Int32.ofInt 1)))) (gE Lx) I L (e + 1)
     else
      Wp 114 0 [(0, .long x3.toInt64), (2, .long x4.toInt64)] [] (gE Lx) I L e (kcp (Wp 151) 151 4 0 [(0, .ref 1), (1, .int x3)] 71 [] (kcp (Wp 185) 185 8 0 [(0, .ref 1), (4, .int x5), (5, .int x6)] 71 [] (kcp (Wp 184) 184 9 0 [(0, .ref 1), (1, .int x1), (2, .int x2), (3, .int x3), (4, .int x4), (5, .int x5), (6, .int x6)] 71 [] (kcp (Wp 405) 405 13 0 [(0, .ref 1), (7, .ref 70)] 71 [.int (Int32.ofInt 0), .ref 70] Q))))))) :
    Wp 405 0 [(0, .ref 1), (1, .int x1), (2, .int x2), (3, .int x3), (4, .int x4), (5, .int x5), (6, .int x6), (7, .ref 70)] [] (gE Lx) I L e Q := by
  refine w_a f_405_0 ?_
  refine w_a f_405_2 ?_
  refine w_a f_405_3 ?_
  refine w_a f_405_4 ?_
  refine w_a f_405_5 ?_
  refine w_a f_405_6 ?_
  refine w_a f_405_7 ?_
  refine w_a f_405_9 ?_
  refine w_a f_405_11 ?_
  refine w_c (ks := [0, 7]) f_405_13 rfl rfl ?_
  refine w_a (ls := [(0, .ref 1), (1, .int x1), (2, .int x2), (3, .int x3), (4, .int x4), (5, .int x5), (6, .int x6)]) f_184_0 ?_
  refine w_a f_184_1 ?_
  refine w_a f_184_2 ?_
  refine w_a f_184_3 ?_
  refine w_a f_184_5 ?_
  refine w_a f_184_7 ?_
  refine w_c (ks := [0, 1, 2, 3, 4, 5, 6]) f_184_9 rfl rfl ?_
  refine w_a (ls := [(0, .ref 1), (1, .int x1), (2, .int x3), (3, .int x4), (4, .int x5), (5, .int x6)]) f_185_0 ?_
  refine w_a f_185_1 ?_
  refine w_a f_185_2 ?_
  refine w_a (ls := [(0, .ref 1), (1, .int x1)]) f_122_0 ?_
  refine w_a f_122_1 ?_
  refine i_m (fun h => ?_) (fun h => ?_) h
  · refine w_a f_122_15 ?_
    exact h
  · refine w_a f_122_4 ?_
    refine w_a f_122_5 ?_
    refine w_a f_122_6 ?_
    refine w_a f_122_9 ?_
    refine w_a f_122_12 ?_
    refine i_m (fun h => ?_) (fun h => ?_) h
    · refine w_a f_122_15 ?_
      exact h
    · refine w_a f_122_23 ?_
      refine w_a (ls := [(0, .ref 1), (1, .int x1), (2, .int x3), (3, .int x4), (4, .int x5), (5, .int x6)]) f_185_5 ?_
      refine w_a f_185_6 ?_
      refine w_a f_185_7 ?_
      refine w_c (ks := [0, 4, 5]) f_185_8 rfl rfl ?_
      refine w_a (ls := [(0, .ref 1), (1, .int x3), (2, .int x4)]) f_151_0 ?_
      refine w_a f_151_1 ?_
      refine w_a f_151_2 ?_
      refine w_a f_151_3 ?_
      exact w_c (ks := [0, 1]) f_151_4 rfl rfl h
