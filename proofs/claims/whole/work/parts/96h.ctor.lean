/-! The constructors: how the cells come to be; by program. -/
noncomputable def mC (l : List (Nat × Nat × Nat)) : Mr := List.rec (fun _ _ => none) (fun q _ ih => cond (Nat.beq q.2.1 99) (rr ih q.1 (fun _ => none)) (ur ih q.1 q.2.1 (some q.2.2))) l
def ml0 : List (Nat × Nat × Nat) := []
def ml1 : List (Nat × Nat × Nat) := (1, 99, 0) :: ml0
def ml2 : List (Nat × Nat × Nat) := (2, 99, 0) :: ml1
def ml3 : List (Nat × Nat × Nat) := (3, 99, 0) :: ml2
def ml4 : List (Nat × Nat × Nat) := (2, 0, 3) :: ml3
def ml5 : List (Nat × Nat × Nat) := (4, 99, 0) :: ml4
def ml6 : List (Nat × Nat × Nat) := (2, 1, 4) :: ml5
def ml7 : List (Nat × Nat × Nat) := (1, 0, 2) :: ml6
def ml8 : List (Nat × Nat × Nat) := (5, 99, 0) :: ml7
def ml9 : List (Nat × Nat × Nat) := (6, 99, 0) :: ml8
def ml10 : List (Nat × Nat × Nat) := (5, 4, 6) :: ml9
def ml11 : List (Nat × Nat × Nat) := (7, 99, 0) :: ml10
def ml12 : List (Nat × Nat × Nat) := (5, 5, 7) :: ml11
def ml13 : List (Nat × Nat × Nat) := (8, 99, 0) :: ml12
def ml14 : List (Nat × Nat × Nat) := (5, 6, 8) :: ml13
def ml15 : List (Nat × Nat × Nat) := (1, 1, 5) :: ml14
def ml16 : List (Nat × Nat × Nat) := (9, 99, 0) :: ml15
def ml17 : List (Nat × Nat × Nat) := (10, 99, 0) :: ml16
def ml18 : List (Nat × Nat × Nat) := (9, 4, 10) :: ml17
def ml19 : List (Nat × Nat × Nat) := (11, 99, 0) :: ml18
def ml20 : List (Nat × Nat × Nat) := (9, 5, 11) :: ml19
def ml21 : List (Nat × Nat × Nat) := (12, 99, 0) :: ml20
def ml22 : List (Nat × Nat × Nat) := (9, 6, 12) :: ml21
def ml23 : List (Nat × Nat × Nat) := (1, 2, 9) :: ml22
def ml24 : List (Nat × Nat × Nat) := (13, 99, 0) :: ml23
def ml25 : List (Nat × Nat × Nat) := (1, 3, 13) :: ml24
def ml26 : List (Nat × Nat × Nat) := (14, 99, 0) :: ml25
def ml27 : List (Nat × Nat × Nat) := (1, 6, 14) :: ml26
def ml28 : List (Nat × Nat × Nat) := (15, 99, 0) :: ml27
def ml29 : List (Nat × Nat × Nat) := (1, 7, 15) :: ml28
def ml30 : List (Nat × Nat × Nat) := (16, 99, 0) :: ml29
def ml31 : List (Nat × Nat × Nat) := (1, 8, 16) :: ml30
def ml32 : List (Nat × Nat × Nat) := (17, 99, 0) :: ml31
def ml33 : List (Nat × Nat × Nat) := (1, 9, 17) :: ml32
def ml34 : List (Nat × Nat × Nat) := (18, 99, 0) :: ml33
def ml35 : List (Nat × Nat × Nat) := (1, 10, 18) :: ml34
def ml36 : List (Nat × Nat × Nat) := (19, 99, 0) :: ml35
def ml37 : List (Nat × Nat × Nat) := (1, 11, 19) :: ml36
def ml38 : List (Nat × Nat × Nat) := (20, 99, 0) :: ml37
def ml39 : List (Nat × Nat × Nat) := (1, 12, 20) :: ml38
def ml40 : List (Nat × Nat × Nat) := (21, 99, 0) :: ml39
def ml41 : List (Nat × Nat × Nat) := (1, 13, 21) :: ml40
def ml42 : List (Nat × Nat × Nat) := (22, 99, 0) :: ml41
def ml43 : List (Nat × Nat × Nat) := (23, 99, 0) :: ml42
def ml44 : List (Nat × Nat × Nat) := (22, 1, 23) :: ml43
def ml45 : List (Nat × Nat × Nat) := (1, 14, 22) :: ml44
def ml46 : List (Nat × Nat × Nat) := (24, 99, 0) :: ml45
def ml47 : List (Nat × Nat × Nat) := (25, 99, 0) :: ml46
def ml48 : List (Nat × Nat × Nat) := (24, 0, 25) :: ml47
def ml49 : List (Nat × Nat × Nat) := (1, 15, 24) :: ml48
def ml50 : List (Nat × Nat × Nat) := (26, 99, 0) :: ml49
def ml51 : List (Nat × Nat × Nat) := (27, 99, 0) :: ml50
def ml52 : List (Nat × Nat × Nat) := (26, 0, 27) :: ml51
def ml53 : List (Nat × Nat × Nat) := (1, 16, 26) :: ml52
def ml54 : List (Nat × Nat × Nat) := (28, 99, 0) :: ml53
def ml55 : List (Nat × Nat × Nat) := (1, 17, 28) :: ml54
def ml56 : List (Nat × Nat × Nat) := (29, 99, 0) :: ml55
def ml57 : List (Nat × Nat × Nat) := (1, 18, 29) :: ml56
def ml58 : List (Nat × Nat × Nat) := (30, 99, 0) :: ml57
def ml59 : List (Nat × Nat × Nat) := (31, 99, 0) :: ml58
def ml60 : List (Nat × Nat × Nat) := (32, 99, 0) :: ml59
def ml61 : List (Nat × Nat × Nat) := (31, 4, 32) :: ml60
def ml62 : List (Nat × Nat × Nat) := (33, 99, 0) :: ml61
def ml63 : List (Nat × Nat × Nat) := (31, 5, 33) :: ml62
def ml64 : List (Nat × Nat × Nat) := (34, 99, 0) :: ml63
def ml65 : List (Nat × Nat × Nat) := (31, 6, 34) :: ml64
def ml66 : List (Nat × Nat × Nat) := (30, 1, 31) :: ml65
def ml67 : List (Nat × Nat × Nat) := (35, 99, 0) :: ml66
def ml68 : List (Nat × Nat × Nat) := (36, 99, 0) :: ml67
def ml69 : List (Nat × Nat × Nat) := (35, 1, 36) :: ml68
def ml70 : List (Nat × Nat × Nat) := (30, 3, 35) :: ml69
def ml71 : List (Nat × Nat × Nat) := (13, 0, 30) :: ml70
def ml72 : List (Nat × Nat × Nat) := (37, 99, 0) :: ml71
def ml73 : List (Nat × Nat × Nat) := (38, 99, 0) :: ml72
def ml74 : List (Nat × Nat × Nat) := (39, 99, 0) :: ml73
def ml75 : List (Nat × Nat × Nat) := (38, 4, 39) :: ml74
def ml76 : List (Nat × Nat × Nat) := (40, 99, 0) :: ml75
def ml77 : List (Nat × Nat × Nat) := (38, 5, 40) :: ml76
def ml78 : List (Nat × Nat × Nat) := (41, 99, 0) :: ml77
def ml79 : List (Nat × Nat × Nat) := (38, 6, 41) :: ml78
def ml80 : List (Nat × Nat × Nat) := (37, 1, 38) :: ml79
def ml81 : List (Nat × Nat × Nat) := (42, 99, 0) :: ml80
def ml82 : List (Nat × Nat × Nat) := (43, 99, 0) :: ml81
def ml83 : List (Nat × Nat × Nat) := (42, 1, 43) :: ml82
def ml84 : List (Nat × Nat × Nat) := (37, 3, 42) :: ml83
def ml85 : List (Nat × Nat × Nat) := (13, 1, 37) :: ml84
def ml86 : List (Nat × Nat × Nat) := (44, 99, 0) :: ml85
def ml87 : List (Nat × Nat × Nat) := (45, 99, 0) :: ml86
def ml88 : List (Nat × Nat × Nat) := (46, 99, 0) :: ml87
def ml89 : List (Nat × Nat × Nat) := (45, 4, 46) :: ml88
def ml90 : List (Nat × Nat × Nat) := (47, 99, 0) :: ml89
def ml91 : List (Nat × Nat × Nat) := (45, 5, 47) :: ml90
def ml92 : List (Nat × Nat × Nat) := (48, 99, 0) :: ml91
def ml93 : List (Nat × Nat × Nat) := (45, 6, 48) :: ml92
def ml94 : List (Nat × Nat × Nat) := (44, 1, 45) :: ml93
def ml95 : List (Nat × Nat × Nat) := (49, 99, 0) :: ml94
def ml96 : List (Nat × Nat × Nat) := (50, 99, 0) :: ml95
def ml97 : List (Nat × Nat × Nat) := (49, 1, 50) :: ml96
def ml98 : List (Nat × Nat × Nat) := (44, 3, 49) :: ml97
def ml99 : List (Nat × Nat × Nat) := (13, 2, 44) :: ml98
def ml100 : List (Nat × Nat × Nat) := (51, 99, 0) :: ml99
def ml101 : List (Nat × Nat × Nat) := (52, 99, 0) :: ml100
def ml102 : List (Nat × Nat × Nat) := (53, 99, 0) :: ml101
def ml103 : List (Nat × Nat × Nat) := (52, 4, 53) :: ml102
def ml104 : List (Nat × Nat × Nat) := (54, 99, 0) :: ml103
def ml105 : List (Nat × Nat × Nat) := (52, 5, 54) :: ml104
def ml106 : List (Nat × Nat × Nat) := (55, 99, 0) :: ml105
def ml107 : List (Nat × Nat × Nat) := (52, 6, 55) :: ml106
def ml108 : List (Nat × Nat × Nat) := (51, 1, 52) :: ml107
def ml109 : List (Nat × Nat × Nat) := (56, 99, 0) :: ml108
def ml110 : List (Nat × Nat × Nat) := (57, 99, 0) :: ml109
def ml111 : List (Nat × Nat × Nat) := (56, 1, 57) :: ml110
def ml112 : List (Nat × Nat × Nat) := (51, 3, 56) :: ml111
def ml113 : List (Nat × Nat × Nat) := (13, 3, 51) :: ml112
def ml114 : List (Nat × Nat × Nat) := (58, 99, 0) :: ml113
def ml115 : List (Nat × Nat × Nat) := (59, 99, 0) :: ml114
def ml116 : List (Nat × Nat × Nat) := (58, 1, 59) :: ml115
def ml117 : List (Nat × Nat × Nat) := (60, 99, 0) :: ml116
def ml118 : List (Nat × Nat × Nat) := (58, 2, 60) :: ml117
def ml119 : List (Nat × Nat × Nat) := (61, 99, 0) :: ml118
def ml120 : List (Nat × Nat × Nat) := (58, 5, 61) :: ml119
def ml121 : List (Nat × Nat × Nat) := (62, 99, 0) :: ml120
def ml122 : List (Nat × Nat × Nat) := (58, 6, 62) :: ml121
def ml123 : List (Nat × Nat × Nat) := (63, 99, 0) :: ml122
def ml124 : List (Nat × Nat × Nat) := (58, 31, 63) :: ml123
def ml125 : List (Nat × Nat × Nat) := (64, 99, 0) :: ml124
def ml126 : List (Nat × Nat × Nat) := (58, 37, 64) :: ml125
def ml127 : List (Nat × Nat × Nat) := (65, 99, 0) :: ml126
def ml128 : List (Nat × Nat × Nat) := (58, 38, 65) :: ml127
def ml129 : List (Nat × Nat × Nat) := (66, 99, 0) :: ml128
def ml130 : List (Nat × Nat × Nat) := (58, 40, 66) :: ml129
def ml131 : List (Nat × Nat × Nat) := (67, 99, 0) :: ml130
def ml132 : List (Nat × Nat × Nat) := (58, 41, 67) :: ml131
def ml133 : List (Nat × Nat × Nat) := (68, 99, 0) :: ml132
def ml134 : List (Nat × Nat × Nat) := (58, 42, 68) :: ml133
def ml135 : List (Nat × Nat × Nat) := (69, 99, 0) :: ml134
def ml136 : List (Nat × Nat × Nat) := (58, 43, 69) :: ml135
def ml137 : List (Nat × Nat × Nat) := (70, 99, 0) :: ml136
noncomputable def gc (n s Lx : Nat) (l : List (Nat × Nat × Nat)) : GS := (n, s, (SHE Lx).take n, mC l)
noncomputable abbrev g5 (Lx : Nat) : GS := gc 5 389 Lx ml6
noncomputable abbrev gM (Lx : Nat) : GS := gc 70 1295 Lx ml136
theorem f_0_0 : ftc (PT 0) 0 = some (0, .aload_n 0, 1, 0, 0, 0) := by decide +kernel
theorem f_0_1 : ftc (PT 0) 1 = some (1, .invokespecial 1, 3, 1000, 0, 384) := by decide +kernel
theorem f_0_4 : ftc (PT 0) 4 = some (4, .aload_n 0, 1, 0, 0, 0) := by decide +kernel
theorem f_0_5 : ftc (PT 0) 5 = some (5, .iconst 0, 1, 0, 0, 0) := by decide +kernel
theorem f_0_6 : ftc (PT 0) 6 = some (6, .putfield 7, 3, 0, 0, 385) := by decide +kernel
theorem f_0_9 : ftc (PT 0) 9 = some (9, .aload_n 0, 1, 0, 0, 0) := by decide +kernel
theorem f_0_10 : ftc (PT 0) 10 = some (10, .lconst 0, 1, 0, 0, 0) := by decide +kernel
theorem f_0_11 : ftc (PT 0) 11 = some (11, .putfield 13, 3, 0, 1, 387) := by decide +kernel
theorem f_0_14 : ftc (PT 0) 14 = some (14, .aload_n 0, 1, 0, 0, 0) := by decide +kernel
theorem f_0_15 : ftc (PT 0) 15 = some (15, .lconst 1, 1, 0, 0, 0) := by decide +kernel
theorem f_0_16 : ftc (PT 0) 16 = some (16, .putfield 17, 3, 0, 2, 389) := by decide +kernel
theorem f_0_19 : ftc (PT 0) 19 = some (19, .aload_n 0, 1, 0, 0, 0) := by decide +kernel
theorem f_0_20 : ftc (PT 0) 20 = some (20, .iconst 0, 1, 0, 0, 0) := by decide +kernel
theorem f_0_21 : ftc (PT 0) 21 = some (21, .putfield 20, 3, 0, 3, 391) := by decide +kernel
theorem f_0_24 : ftc (PT 0) 24 = some (24, .aload_n 0, 1, 0, 0, 0) := by decide +kernel
theorem f_0_25 : ftc (PT 0) 25 = some (25, .iconst 0, 1, 0, 0, 0) := by decide +kernel
theorem f_0_26 : ftc (PT 0) 26 = some (26, .putfield 24, 3, 0, 4, 393) := by decide +kernel
theorem f_0_29 : ftc (PT 0) 29 = some (29, .aload_n 0, 1, 0, 0, 0) := by decide +kernel
theorem f_0_30 : ftc (PT 0) 30 = some (30, .iconst 0, 1, 0, 0, 0) := by decide +kernel
theorem f_0_31 : ftc (PT 0) 31 = some (31, .putfield 27, 3, 0, 5, 395) := by decide +kernel
theorem f_0_34 : ftc (PT 0) 34 = some (34, .aload_n 0, 1, 0, 0, 0) := by decide +kernel
theorem f_0_35 : ftc (PT 0) 35 = some (35, .iconst 0, 1, 0, 0, 0) := by decide +kernel
theorem f_0_36 : ftc (PT 0) 36 = some (36, .putfield 30, 3, 0, 6, 397) := by decide +kernel
theorem f_0_39 : ftc (PT 0) 39 = some (39, .return_, 1, 0, 0, 0) := by decide +kernel
theorem f_5_0 : ftc (PT 5) 0 = some (0, .aload_n 0, 1, 0, 0, 0) := by decide +kernel
theorem f_5_1 : ftc (PT 5) 1 = some (1, .invokespecial 3, 3, 1000, 0, 436) := by decide +kernel
theorem f_5_4 : ftc (PT 5) 4 = some (4, .aload_n 0, 1, 0, 0, 0) := by decide +kernel
theorem f_5_5 : ftc (PT 5) 5 = some (5, .iconst 5, 1, 0, 0, 0) := by decide +kernel
theorem f_5_6 : ftc (PT 5) 6 = some (6, .newarray .long, 2, 21, 0, 0) := by decide +kernel
theorem f_5_8 : ftc (PT 5) 8 = some (8, .putfield 9, 3, 1, 0, 437) := by decide +kernel
theorem f_5_11 : ftc (PT 5) 11 = some (11, .return_, 1, 0, 0, 0) := by decide +kernel
theorem f_11_0 : ftc (PT 11) 0 = some (0, .aload_n 0, 1, 0, 0, 0) := by decide +kernel
theorem f_11_1 : ftc (PT 11) 1 = some (1, .invokespecial 3, 3, 1000, 0, 212) := by decide +kernel
theorem f_11_4 : ftc (PT 11) 4 = some (4, .aload_n 0, 1, 0, 0, 0) := by decide +kernel
theorem f_11_5 : ftc (PT 11) 5 = some (5, .iconst 1, 1, 0, 0, 0) := by decide +kernel
theorem f_11_6 : ftc (PT 11) 6 = some (6, .putfield 9, 3, 2, 0, 213) := by decide +kernel
theorem f_11_9 : ftc (PT 11) 9 = some (9, .aload_n 0, 1, 0, 0, 0) := by decide +kernel
theorem f_11_10 : ftc (PT 11) 10 = some (10, .iconst 0, 1, 0, 0, 0) := by decide +kernel
theorem f_11_11 : ftc (PT 11) 11 = some (11, .putfield 15, 3, 2, 1, 215) := by decide +kernel
theorem f_11_14 : ftc (PT 11) 14 = some (14, .aload_n 0, 1, 0, 0, 0) := by decide +kernel
theorem f_11_15 : ftc (PT 11) 15 = some (15, .iconst 1, 1, 0, 0, 0) := by decide +kernel
theorem f_11_16 : ftc (PT 11) 16 = some (16, .putfield 18, 3, 2, 2, 217) := by decide +kernel
theorem f_11_19 : ftc (PT 11) 19 = some (19, .aload_n 0, 1, 0, 0, 0) := by decide +kernel
theorem f_11_20 : ftc (PT 11) 20 = some (20, .iconst 0, 1, 0, 0, 0) := by decide +kernel
theorem f_11_21 : ftc (PT 11) 21 = some (21, .putfield 21, 3, 2, 3, 219) := by decide +kernel
theorem f_11_24 : ftc (PT 11) 24 = some (24, .aload_n 0, 1, 0, 0, 0) := by decide +kernel
theorem f_11_25 : ftc (PT 11) 25 = some (25, .iconst 4, 1, 0, 0, 0) := by decide +kernel
theorem f_11_26 : ftc (PT 11) 26 = some (26, .newarray .int, 2, 20, 0, 0) := by decide +kernel
theorem f_11_28 : ftc (PT 11) 28 = some (28, .putfield 24, 3, 2, 4, 222) := by decide +kernel
theorem f_11_31 : ftc (PT 11) 31 = some (31, .aload_n 0, 1, 0, 0, 0) := by decide +kernel
theorem f_11_32 : ftc (PT 11) 32 = some (32, .iconst 4, 1, 0, 0, 0) := by decide +kernel
theorem f_11_33 : ftc (PT 11) 33 = some (33, .newarray .int, 2, 20, 0, 0) := by decide +kernel
theorem f_11_35 : ftc (PT 11) 35 = some (35, .putfield 28, 3, 2, 5, 223) := by decide +kernel
theorem f_11_38 : ftc (PT 11) 38 = some (38, .aload_n 0, 1, 0, 0, 0) := by decide +kernel
theorem f_11_39 : ftc (PT 11) 39 = some (39, .iconst 4, 1, 0, 0, 0) := by decide +kernel
theorem f_11_40 : ftc (PT 11) 40 = some (40, .newarray .int, 2, 20, 0, 0) := by decide +kernel
theorem f_11_42 : ftc (PT 11) 42 = some (42, .putfield 31, 3, 2, 6, 224) := by decide +kernel
theorem f_11_45 : ftc (PT 11) 45 = some (45, .return_, 1, 0, 0, 0) := by decide +kernel
theorem f_22_0 : ftc (PT 22) 0 = some (0, .aload_n 0, 1, 0, 0, 0) := by decide +kernel
theorem f_22_1 : ftc (PT 22) 1 = some (1, .invokespecial 1, 3, 1000, 0, 295) := by decide +kernel
theorem f_22_4 : ftc (PT 22) 4 = some (4, .aload_n 0, 1, 0, 0, 0) := by decide +kernel
theorem f_22_5 : ftc (PT 22) 5 = some (5, .lconst 0, 1, 0, 0, 0) := by decide +kernel
theorem f_22_6 : ftc (PT 22) 6 = some (6, .putfield 7, 3, 3, 0, 296) := by decide +kernel
theorem f_22_9 : ftc (PT 22) 9 = some (9, .aload_n 0, 1, 0, 0, 0) := by decide +kernel
theorem f_22_10 : ftc (PT 22) 10 = some (10, .lconst 1, 1, 0, 0, 0) := by decide +kernel
theorem f_22_11 : ftc (PT 22) 11 = some (11, .putfield 13, 3, 3, 1, 299) := by decide +kernel
theorem f_22_14 : ftc (PT 22) 14 = some (14, .return_, 1, 0, 0, 0) := by decide +kernel
theorem f_33_0 : ftc (PT 33) 0 = some (0, .aload_n 0, 1, 0, 0, 0) := by decide +kernel
theorem f_33_1 : ftc (PT 33) 1 = some (1, .invokespecial 1, 3, 1000, 0, 351) := by decide +kernel
theorem f_33_4 : ftc (PT 33) 4 = some (4, .aload_n 0, 1, 0, 0, 0) := by decide +kernel
theorem f_33_5 : ftc (PT 33) 5 = some (5, .iconst 0, 1, 0, 0, 0) := by decide +kernel
theorem f_33_6 : ftc (PT 33) 6 = some (6, .putfield 7, 3, 4, 0, 352) := by decide +kernel
theorem f_33_9 : ftc (PT 33) 9 = some (9, .aload_n 0, 1, 0, 0, 0) := by decide +kernel
theorem f_33_10 : ftc (PT 33) 10 = some (10, .iconst 0, 1, 0, 0, 0) := by decide +kernel
theorem f_33_11 : ftc (PT 33) 11 = some (11, .putfield 13, 3, 4, 1, 354) := by decide +kernel
theorem f_33_14 : ftc (PT 33) 14 = some (14, .aload_n 0, 1, 0, 0, 0) := by decide +kernel
theorem f_33_15 : ftc (PT 33) 15 = some (15, .lconst 0, 1, 0, 0, 0) := by decide +kernel
theorem f_33_16 : ftc (PT 33) 16 = some (16, .putfield 17, 3, 4, 2, 356) := by decide +kernel
theorem f_33_19 : ftc (PT 33) 19 = some (19, .aload_n 0, 1, 0, 0, 0) := by decide +kernel
theorem f_33_20 : ftc (PT 33) 20 = some (20, .lconst 1, 1, 0, 0, 0) := by decide +kernel
theorem f_33_21 : ftc (PT 33) 21 = some (21, .putfield 21, 3, 4, 3, 357) := by decide +kernel
theorem f_33_24 : ftc (PT 33) 24 = some (24, .aload_n 0, 1, 0, 0, 0) := by decide +kernel
theorem f_33_25 : ftc (PT 33) 25 = some (25, .lconst 0, 1, 0, 0, 0) := by decide +kernel
theorem f_33_26 : ftc (PT 33) 26 = some (26, .putfield 24, 3, 4, 4, 358) := by decide +kernel
theorem f_33_29 : ftc (PT 33) 29 = some (29, .aload_n 0, 1, 0, 0, 0) := by decide +kernel
theorem f_33_30 : ftc (PT 33) 30 = some (30, .lconst 0, 1, 0, 0, 0) := by decide +kernel
theorem f_33_31 : ftc (PT 33) 31 = some (31, .putfield 27, 3, 4, 5, 359) := by decide +kernel
theorem f_33_34 : ftc (PT 33) 34 = some (34, .aload_n 0, 1, 0, 0, 0) := by decide +kernel
theorem f_33_35 : ftc (PT 33) 35 = some (35, .lconst 1, 1, 0, 0, 0) := by decide +kernel
theorem f_33_36 : ftc (PT 33) 36 = some (36, .putfield 30, 3, 4, 6, 360) := by decide +kernel
theorem f_33_39 : ftc (PT 33) 39 = some (39, .aload_n 0, 1, 0, 0, 0) := by decide +kernel
theorem f_33_40 : ftc (PT 33) 40 = some (40, .lconst 0, 1, 0, 0, 0) := by decide +kernel
theorem f_33_41 : ftc (PT 33) 41 = some (41, .putfield 33, 3, 4, 7, 361) := by decide +kernel
theorem f_33_44 : ftc (PT 33) 44 = some (44, .return_, 1, 0, 0, 0) := by decide +kernel
theorem f_38_0 : ftc (PT 38) 0 = some (0, .aload_n 0, 1, 0, 0, 0) := by decide +kernel
theorem f_38_1 : ftc (PT 38) 1 = some (1, .invokespecial 3, 3, 1000, 0, 312) := by decide +kernel
theorem f_38_4 : ftc (PT 38) 4 = some (4, .aload_n 0, 1, 0, 0, 0) := by decide +kernel
theorem f_38_5 : ftc (PT 38) 5 = some (5, .iconst 0, 1, 0, 0, 0) := by decide +kernel
theorem f_38_6 : ftc (PT 38) 6 = some (6, .putfield 9, 3, 5, 0, 313) := by decide +kernel
theorem f_38_9 : ftc (PT 38) 9 = some (9, .aload_n 0, 1, 0, 0, 0) := by decide +kernel
theorem f_38_10 : ftc (PT 38) 10 = some (10, .iconst 0, 1, 0, 0, 0) := by decide +kernel
theorem f_38_11 : ftc (PT 38) 11 = some (11, .putfield 15, 3, 5, 1, 315) := by decide +kernel
theorem f_38_14 : ftc (PT 38) 14 = some (14, .aload_n 0, 1, 0, 0, 0) := by decide +kernel
theorem f_38_15 : ftc (PT 38) 15 = some (15, .iconst 0, 1, 0, 0, 0) := by decide +kernel
theorem f_38_16 : ftc (PT 38) 16 = some (16, .putfield 19, 3, 5, 2, 317) := by decide +kernel
theorem f_38_19 : ftc (PT 38) 19 = some (19, .aload_n 0, 1, 0, 0, 0) := by decide +kernel
theorem f_38_20 : ftc (PT 38) 20 = some (20, .iconst 0, 1, 0, 0, 0) := by decide +kernel
theorem f_38_21 : ftc (PT 38) 21 = some (21, .putfield 22, 3, 5, 3, 318) := by decide +kernel
theorem f_38_24 : ftc (PT 38) 24 = some (24, .aload_n 0, 1, 0, 0, 0) := by decide +kernel
theorem f_38_25 : ftc (PT 38) 25 = some (25, .lconst 0, 1, 0, 0, 0) := by decide +kernel
theorem f_38_26 : ftc (PT 38) 26 = some (26, .putfield 25, 3, 5, 4, 319) := by decide +kernel
theorem f_38_29 : ftc (PT 38) 29 = some (29, .aload_n 0, 1, 0, 0, 0) := by decide +kernel
theorem f_38_30 : ftc (PT 38) 30 = some (30, .lconst 0, 1, 0, 0, 0) := by decide +kernel
theorem f_38_31 : ftc (PT 38) 31 = some (31, .putfield 29, 3, 5, 5, 320) := by decide +kernel
theorem f_38_34 : ftc (PT 38) 34 = some (34, .aload_n 0, 1, 0, 0, 0) := by decide +kernel
theorem f_38_35 : ftc (PT 38) 35 = some (35, .lconst 0, 1, 0, 0, 0) := by decide +kernel
theorem f_38_36 : ftc (PT 38) 36 = some (36, .putfield 32, 3, 5, 6, 321) := by decide +kernel
theorem f_38_39 : ftc (PT 38) 39 = some (39, .aload_n 0, 1, 0, 0, 0) := by decide +kernel
theorem f_38_40 : ftc (PT 38) 40 = some (40, .lconst 0, 1, 0, 0, 0) := by decide +kernel
theorem f_38_41 : ftc (PT 38) 41 = some (41, .putfield 35, 3, 5, 7, 322) := by decide +kernel
theorem f_38_44 : ftc (PT 38) 44 = some (44, .aload_n 0, 1, 0, 0, 0) := by decide +kernel
theorem f_38_45 : ftc (PT 38) 45 = some (45, .lconst 0, 1, 0, 0, 0) := by decide +kernel
theorem f_38_46 : ftc (PT 38) 46 = some (46, .putfield 38, 3, 5, 8, 323) := by decide +kernel
theorem f_38_49 : ftc (PT 38) 49 = some (49, .aload_n 0, 1, 0, 0, 0) := by decide +kernel
theorem f_38_50 : ftc (PT 38) 50 = some (50, .lconst 0, 1, 0, 0, 0) := by decide +kernel
theorem f_38_51 : ftc (PT 38) 51 = some (51, .putfield 41, 3, 5, 9, 324) := by decide +kernel
theorem f_38_54 : ftc (PT 38) 54 = some (54, .return_, 1, 0, 0, 0) := by decide +kernel
theorem f_51_0 : ftc (PT 51) 0 = some (0, .aload_n 0, 1, 0, 0, 0) := by decide +kernel
theorem f_51_1 : ftc (PT 51) 1 = some (1, .invokespecial 1, 3, 1000, 0, 270) := by decide +kernel
theorem f_51_4 : ftc (PT 51) 4 = some (4, .aload_n 0, 1, 0, 0, 0) := by decide +kernel
theorem f_51_5 : ftc (PT 51) 5 = some (5, .lconst 1, 1, 0, 0, 0) := by decide +kernel
theorem f_51_6 : ftc (PT 51) 6 = some (6, .putfield 7, 3, 6, 0, 271) := by decide +kernel
theorem f_51_9 : ftc (PT 51) 9 = some (9, .aload_n 0, 1, 0, 0, 0) := by decide +kernel
theorem f_51_10 : ftc (PT 51) 10 = some (10, .lconst 0, 1, 0, 0, 0) := by decide +kernel
theorem f_51_11 : ftc (PT 51) 11 = some (11, .putfield 13, 3, 6, 1, 275) := by decide +kernel
theorem f_51_14 : ftc (PT 51) 14 = some (14, .aload_n 0, 1, 0, 0, 0) := by decide +kernel
theorem f_51_15 : ftc (PT 51) 15 = some (15, .lconst 1, 1, 0, 0, 0) := by decide +kernel
theorem f_51_16 : ftc (PT 51) 16 = some (16, .putfield 16, 3, 6, 2, 279) := by decide +kernel
theorem f_51_19 : ftc (PT 51) 19 = some (19, .return_, 1, 0, 0, 0) := by decide +kernel
theorem f_62_0 : ftc (PT 62) 0 = some (0, .aload_n 0, 1, 0, 0, 0) := by decide +kernel
theorem f_62_1 : ftc (PT 62) 1 = some (1, .invokespecial 3, 3, 1000, 0, 446) := by decide +kernel
theorem f_62_4 : ftc (PT 62) 4 = some (4, .aload_n 0, 1, 0, 0, 0) := by decide +kernel
theorem f_62_5 : ftc (PT 62) 5 = some (5, .iconst 0, 1, 0, 0, 0) := by decide +kernel
theorem f_62_6 : ftc (PT 62) 6 = some (6, .putfield 9, 3, 7, 0, 451) := by decide +kernel
theorem f_62_9 : ftc (PT 62) 9 = some (9, .aload_n 0, 1, 0, 0, 0) := by decide +kernel
theorem f_62_10 : ftc (PT 62) 10 = some (10, .new 15, 3, 2, 7, 447) := by decide +kernel
theorem f_62_13 : ftc (PT 62) 13 = some (13, .dup, 1, 0, 0, 0) := by decide +kernel
theorem f_62_14 : ftc (PT 62) 14 = some (14, .invokespecial 17, 3, 11, 1026, 448) := by decide +kernel
theorem f_62_17 : ftc (PT 62) 17 = some (17, .putfield 18, 3, 7, 1, 453) := by decide +kernel
theorem f_62_20 : ftc (PT 62) 20 = some (20, .aload_n 0, 1, 0, 0, 0) := by decide +kernel
theorem f_62_21 : ftc (PT 62) 21 = some (21, .iconst (-1), 1, 0, 0, 0) := by decide +kernel
theorem f_62_22 : ftc (PT 62) 22 = some (22, .putfield 22, 3, 7, 2, 455) := by decide +kernel
theorem f_62_25 : ftc (PT 62) 25 = some (25, .aload_n 0, 1, 0, 0, 0) := by decide +kernel
theorem f_62_26 : ftc (PT 62) 26 = some (26, .new 26, 3, 8, 2, 449) := by decide +kernel
theorem f_62_29 : ftc (PT 62) 29 = some (29, .dup, 1, 0, 0, 0) := by decide +kernel
theorem f_62_30 : ftc (PT 62) 30 = some (30, .invokespecial 28, 3, 64, 1032, 450) := by decide +kernel
theorem f_62_33 : ftc (PT 62) 33 = some (33, .putfield 29, 3, 7, 3, 457) := by decide +kernel
theorem f_62_36 : ftc (PT 62) 36 = some (36, .return_, 1, 0, 0, 0) := by decide +kernel
theorem f_64_0 : ftc (PT 64) 0 = some (0, .aload_n 0, 1, 0, 0, 0) := by decide +kernel
theorem f_64_1 : ftc (PT 64) 1 = some (1, .invokespecial 1, 3, 1000, 0, 419) := by decide +kernel
theorem f_64_4 : ftc (PT 64) 4 = some (4, .aload_n 0, 1, 0, 0, 0) := by decide +kernel
theorem f_64_5 : ftc (PT 64) 5 = some (5, .iconst 0, 1, 0, 0, 0) := by decide +kernel
theorem f_64_6 : ftc (PT 64) 6 = some (6, .putfield 7, 3, 8, 0, 422) := by decide +kernel
theorem f_64_9 : ftc (PT 64) 9 = some (9, .aload_n 0, 1, 0, 0, 0) := by decide +kernel
theorem f_64_10 : ftc (PT 64) 10 = some (10, .new 13, 3, 3, 2, 420) := by decide +kernel
theorem f_64_13 : ftc (PT 64) 13 = some (13, .dup, 1, 0, 0, 0) := by decide +kernel
theorem f_64_14 : ftc (PT 64) 14 = some (14, .invokespecial 15, 3, 22, 1027, 421) := by decide +kernel
theorem f_64_17 : ftc (PT 64) 17 = some (17, .putfield 16, 3, 8, 1, 424) := by decide +kernel
theorem f_64_20 : ftc (PT 64) 20 = some (20, .return_, 1, 0, 0, 0) := by decide +kernel
theorem f_67_0 : ftc (PT 67) 0 = some (0, .aload_n 0, 1, 0, 0, 0) := by decide +kernel
theorem f_67_1 : ftc (PT 67) 1 = some (1, .invokespecial 1, 3, 1000, 0, 194) := by decide +kernel
theorem f_67_4 : ftc (PT 67) 4 = some (4, .aload_n 0, 1, 0, 0, 0) := by decide +kernel
theorem f_67_5 : ftc (PT 67) 5 = some (5, .sipush 184, 3, 0, 0, 0) := by decide +kernel
theorem f_67_8 : ftc (PT 67) 8 = some (8, .newarray .int, 2, 20, 0, 0) := by decide +kernel
theorem f_67_10 : ftc (PT 67) 10 = some (10, .putfield 9, 3, 9, 0, 199) := by decide +kernel
theorem f_67_13 : ftc (PT 67) 13 = some (13, .aload_n 0, 1, 0, 0, 0) := by decide +kernel
theorem f_67_14 : ftc (PT 67) 14 = some (14, .sipush 184, 3, 0, 0, 0) := by decide +kernel
theorem f_67_17 : ftc (PT 67) 17 = some (17, .newarray .int, 2, 20, 0, 0) := by decide +kernel
theorem f_67_19 : ftc (PT 67) 19 = some (19, .putfield 13, 3, 9, 1, 200) := by decide +kernel
theorem f_67_22 : ftc (PT 67) 22 = some (22, .aload_n 0, 1, 0, 0, 0) := by decide +kernel
theorem f_67_23 : ftc (PT 67) 23 = some (23, .invokevirtual 16, 3, 68, 9225, 195) := by decide +kernel
theorem f_67_26 : ftc (PT 67) 26 = some (26, .bipush 93, 2, 0, 0, 0) := by decide +kernel
theorem f_67_28 : ftc (PT 67) 28 = some (28, .istore_n 1, 1, 0, 0, 0) := by decide +kernel
theorem f_67_29 : ftc (PT 67) 29 = some (29, .iload_n 1, 1, 0, 0, 0) := by decide +kernel
theorem f_67_30 : ftc (PT 67) 30 = some (30, .sipush 184, 3, 0, 0, 0) := by decide +kernel
theorem f_67_33 : ftc (PT 67) 33 = some (33, .if_icmp .ge 42, 3, 75, 0, 0) := by decide +kernel
theorem f_67_36 : ftc (PT 67) 36 = some (36, .aload_n 0, 1, 0, 0, 0) := by decide +kernel
theorem f_67_37 : ftc (PT 67) 37 = some (37, .getfield 9, 3, 9, 0, 199) := by decide +kernel
theorem f_67_40 : ftc (PT 67) 40 = some (40, .iload_n 1, 1, 0, 0, 0) := by decide +kernel
theorem f_67_41 : ftc (PT 67) 41 = some (41, .aload_n 0, 1, 0, 0, 0) := by decide +kernel
theorem f_67_42 : ftc (PT 67) 42 = some (42, .getfield 9, 3, 9, 0, 199) := by decide +kernel
theorem f_67_45 : ftc (PT 67) 45 = some (45, .sipush 184, 3, 0, 0, 0) := by decide +kernel
theorem f_67_48 : ftc (PT 67) 48 = some (48, .iload_n 1, 1, 0, 0, 0) := by decide +kernel
theorem f_67_49 : ftc (PT 67) 49 = some (49, .isub, 1, 0, 0, 0) := by decide +kernel
theorem f_67_50 : ftc (PT 67) 50 = some (50, .iaload, 1, 0, 0, 0) := by decide +kernel
theorem f_67_51 : ftc (PT 67) 51 = some (51, .ineg, 1, 0, 0, 0) := by decide +kernel
theorem f_67_52 : ftc (PT 67) 52 = some (52, .iastore, 1, 0, 0, 0) := by decide +kernel
theorem f_67_53 : ftc (PT 67) 53 = some (53, .aload_n 0, 1, 0, 0, 0) := by decide +kernel
theorem f_67_54 : ftc (PT 67) 54 = some (54, .getfield 13, 3, 9, 1, 200) := by decide +kernel
theorem f_67_57 : ftc (PT 67) 57 = some (57, .iload_n 1, 1, 0, 0, 0) := by decide +kernel
theorem f_67_58 : ftc (PT 67) 58 = some (58, .aload_n 0, 1, 0, 0, 0) := by decide +kernel
theorem f_67_59 : ftc (PT 67) 59 = some (59, .getfield 13, 3, 9, 1, 200) := by decide +kernel
theorem f_67_62 : ftc (PT 67) 62 = some (62, .sipush 184, 3, 0, 0, 0) := by decide +kernel
theorem f_67_65 : ftc (PT 67) 65 = some (65, .iload_n 1, 1, 0, 0, 0) := by decide +kernel
theorem f_67_66 : ftc (PT 67) 66 = some (66, .isub, 1, 0, 0, 0) := by decide +kernel
theorem f_67_67 : ftc (PT 67) 67 = some (67, .iaload, 1, 0, 0, 0) := by decide +kernel
theorem f_67_68 : ftc (PT 67) 68 = some (68, .iastore, 1, 0, 0, 0) := by decide +kernel
theorem f_67_69 : ftc (PT 67) 69 = some (69, .iinc 1 1, 3, 0, 0, 0) := by decide +kernel
theorem f_67_72 : ftc (PT 67) 72 = some (72, .goto (-43), 3, 29, 0, 0) := by decide +kernel
theorem f_67_75 : ftc (PT 67) 75 = some (75, .return_, 1, 0, 0, 0) := by decide +kernel
theorem f_68_0 : ftc (PT 68) 0 = some (0, .iconst 0, 1, 0, 0, 0) := by decide +kernel
theorem f_68_1 : ftc (PT 68) 1 = some (1, .istore_n 1, 1, 0, 0, 0) := by decide +kernel
theorem f_68_2 : ftc (PT 68) 2 = some (2, .iconst 1, 1, 0, 0, 0) := by decide +kernel
theorem f_68_3 : ftc (PT 68) 3 = some (3, .istore_n 2, 1, 0, 0, 0) := by decide +kernel
theorem f_68_4 : ftc (PT 68) 4 = some (4, .iconst 1, 1, 0, 0, 0) := by decide +kernel
theorem f_68_5 : ftc (PT 68) 5 = some (5, .istore_n 3, 1, 0, 0, 0) := by decide +kernel
theorem f_68_6 : ftc (PT 68) 6 = some (6, .bipush 12, 2, 0, 0, 0) := by decide +kernel
theorem f_68_8 : ftc (PT 68) 8 = some (8, .istore 4, 2, 0, 0, 0) := by decide +kernel
theorem f_68_10 : ftc (PT 68) 10 = some (10, .iconst 0, 1, 0, 0, 0) := by decide +kernel
theorem f_68_11 : ftc (PT 68) 11 = some (11, .istore 5, 2, 0, 0, 0) := by decide +kernel
theorem f_68_13 : ftc (PT 68) 13 = some (13, .iload 5, 2, 0, 0, 0) := by decide +kernel
theorem f_68_15 : ftc (PT 68) 15 = some (15, .bipush 46, 2, 0, 0, 0) := by decide +kernel
theorem f_68_17 : ftc (PT 68) 17 = some (17, .if_icmp .gt 94, 3, 111, 0, 0) := by decide +kernel
theorem f_68_20 : ftc (PT 68) 20 = some (20, .aload_n 0, 1, 0, 0, 0) := by decide +kernel
theorem f_68_21 : ftc (PT 68) 21 = some (21, .getfield 9, 3, 9, 0, 199) := by decide +kernel
theorem f_68_24 : ftc (PT 68) 24 = some (24, .iload 5, 2, 0, 0, 0) := by decide +kernel
theorem f_68_26 : ftc (PT 68) 26 = some (26, .iload_n 1, 1, 0, 0, 0) := by decide +kernel
theorem f_68_27 : ftc (PT 68) 27 = some (27, .iastore, 1, 0, 0, 0) := by decide +kernel
theorem f_68_28 : ftc (PT 68) 28 = some (28, .aload_n 0, 1, 0, 0, 0) := by decide +kernel
theorem f_68_29 : ftc (PT 68) 29 = some (29, .getfield 13, 3, 9, 1, 200) := by decide +kernel
theorem f_68_32 : ftc (PT 68) 32 = some (32, .iload 5, 2, 0, 0, 0) := by decide +kernel
theorem f_68_34 : ftc (PT 68) 34 = some (34, .iload_n 2, 1, 0, 0, 0) := by decide +kernel
theorem f_68_35 : ftc (PT 68) 35 = some (35, .iastore, 1, 0, 0, 0) := by decide +kernel
theorem f_68_36 : ftc (PT 68) 36 = some (36, .aload_n 0, 1, 0, 0, 0) := by decide +kernel
theorem f_68_37 : ftc (PT 68) 37 = some (37, .getfield 9, 3, 9, 0, 199) := by decide +kernel
theorem f_68_40 : ftc (PT 68) 40 = some (40, .bipush 92, 2, 0, 0, 0) := by decide +kernel
theorem f_68_42 : ftc (PT 68) 42 = some (42, .iload 5, 2, 0, 0, 0) := by decide +kernel
theorem f_68_44 : ftc (PT 68) 44 = some (44, .isub, 1, 0, 0, 0) := by decide +kernel
theorem f_68_45 : ftc (PT 68) 45 = some (45, .iload_n 2, 1, 0, 0, 0) := by decide +kernel
theorem f_68_46 : ftc (PT 68) 46 = some (46, .iastore, 1, 0, 0, 0) := by decide +kernel
theorem f_68_47 : ftc (PT 68) 47 = some (47, .aload_n 0, 1, 0, 0, 0) := by decide +kernel
theorem f_68_48 : ftc (PT 68) 48 = some (48, .getfield 13, 3, 9, 1, 200) := by decide +kernel
theorem f_68_51 : ftc (PT 68) 51 = some (51, .bipush 92, 2, 0, 0, 0) := by decide +kernel
theorem f_68_53 : ftc (PT 68) 53 = some (53, .iload 5, 2, 0, 0, 0) := by decide +kernel
theorem f_68_55 : ftc (PT 68) 55 = some (55, .isub, 1, 0, 0, 0) := by decide +kernel
theorem f_68_56 : ftc (PT 68) 56 = some (56, .iload_n 1, 1, 0, 0, 0) := by decide +kernel
theorem f_68_57 : ftc (PT 68) 57 = some (57, .iastore, 1, 0, 0, 0) := by decide +kernel
theorem f_68_58 : ftc (PT 68) 58 = some (58, .iload 4, 2, 0, 0, 0) := by decide +kernel
theorem f_68_60 : ftc (PT 68) 60 = some (60, .ifCond .ne 7, 3, 67, 0, 0) := by decide +kernel
theorem f_68_63 : ftc (PT 68) 63 = some (63, .iconst 0, 1, 0, 0, 0) := by decide +kernel
theorem f_68_64 : ftc (PT 68) 64 = some (64, .goto 10, 3, 74, 0, 0) := by decide +kernel
theorem f_68_67 : ftc (PT 68) 67 = some (67, .bipush 12, 2, 0, 0, 0) := by decide +kernel
theorem f_68_69 : ftc (PT 68) 69 = some (69, .iload_n 2, 1, 0, 0, 0) := by decide +kernel
theorem f_68_70 : ftc (PT 68) 70 = some (70, .iadd, 1, 0, 0, 0) := by decide +kernel
theorem f_68_71 : ftc (PT 68) 71 = some (71, .iload 4, 2, 0, 0, 0) := by decide +kernel
theorem f_68_73 : ftc (PT 68) 73 = some (73, .idiv, 1, 0, 0, 0) := by decide +kernel
theorem f_68_74 : ftc (PT 68) 74 = some (74, .istore 6, 2, 0, 0, 0) := by decide +kernel
theorem f_68_76 : ftc (PT 68) 76 = some (76, .iload 6, 2, 0, 0, 0) := by decide +kernel
theorem f_68_78 : ftc (PT 68) 78 = some (78, .iload_n 3, 1, 0, 0, 0) := by decide +kernel
theorem f_68_79 : ftc (PT 68) 79 = some (79, .imul, 1, 0, 0, 0) := by decide +kernel
theorem f_68_80 : ftc (PT 68) 80 = some (80, .iload_n 1, 1, 0, 0, 0) := by decide +kernel
theorem f_68_81 : ftc (PT 68) 81 = some (81, .isub, 1, 0, 0, 0) := by decide +kernel
theorem f_68_82 : ftc (PT 68) 82 = some (82, .istore 7, 2, 0, 0, 0) := by decide +kernel
theorem f_68_84 : ftc (PT 68) 84 = some (84, .iload 6, 2, 0, 0, 0) := by decide +kernel
theorem f_68_86 : ftc (PT 68) 86 = some (86, .iload 4, 2, 0, 0, 0) := by decide +kernel
theorem f_68_88 : ftc (PT 68) 88 = some (88, .imul, 1, 0, 0, 0) := by decide +kernel
theorem f_68_89 : ftc (PT 68) 89 = some (89, .iload_n 2, 1, 0, 0, 0) := by decide +kernel
theorem f_68_90 : ftc (PT 68) 90 = some (90, .isub, 1, 0, 0, 0) := by decide +kernel
theorem f_68_91 : ftc (PT 68) 91 = some (91, .istore 8, 2, 0, 0, 0) := by decide +kernel
theorem f_68_93 : ftc (PT 68) 93 = some (93, .iload_n 3, 1, 0, 0, 0) := by decide +kernel
theorem f_68_94 : ftc (PT 68) 94 = some (94, .istore_n 1, 1, 0, 0, 0) := by decide +kernel
theorem f_68_95 : ftc (PT 68) 95 = some (95, .iload 4, 2, 0, 0, 0) := by decide +kernel
theorem f_68_97 : ftc (PT 68) 97 = some (97, .istore_n 2, 1, 0, 0, 0) := by decide +kernel
theorem f_68_98 : ftc (PT 68) 98 = some (98, .iload 7, 2, 0, 0, 0) := by decide +kernel
theorem f_68_100 : ftc (PT 68) 100 = some (100, .istore_n 3, 1, 0, 0, 0) := by decide +kernel
theorem f_68_101 : ftc (PT 68) 101 = some (101, .iload 8, 2, 0, 0, 0) := by decide +kernel
theorem f_68_103 : ftc (PT 68) 103 = some (103, .istore 4, 2, 0, 0, 0) := by decide +kernel
theorem f_68_105 : ftc (PT 68) 105 = some (105, .iinc 5 1, 3, 0, 0, 0) := by decide +kernel
theorem f_68_108 : ftc (PT 68) 108 = some (108, .goto (-95), 3, 13, 0, 0) := by decide +kernel
theorem f_68_111 : ftc (PT 68) 111 = some (111, .return_, 1, 0, 0, 0) := by decide +kernel
theorem f_73_0 : ftc (PT 73) 0 = some (0, .aload_n 0, 1, 0, 0, 0) := by decide +kernel
theorem f_73_1 : ftc (PT 73) 1 = some (1, .invokespecial 3, 3, 1000, 0, 247) := by decide +kernel
theorem f_73_4 : ftc (PT 73) 4 = some (4, .aload_n 0, 1, 0, 0, 0) := by decide +kernel
theorem f_73_5 : ftc (PT 73) 5 = some (5, .lconst 1, 1, 0, 0, 0) := by decide +kernel
theorem f_73_6 : ftc (PT 73) 6 = some (6, .putfield 9, 3, 10, 0, 248) := by decide +kernel
theorem f_73_9 : ftc (PT 73) 9 = some (9, .aload_n 0, 1, 0, 0, 0) := by decide +kernel
theorem f_73_10 : ftc (PT 73) 10 = some (10, .lconst 0, 1, 0, 0, 0) := by decide +kernel
theorem f_73_11 : ftc (PT 73) 11 = some (11, .putfield 15, 3, 10, 1, 250) := by decide +kernel
theorem f_73_14 : ftc (PT 73) 14 = some (14, .aload_n 0, 1, 0, 0, 0) := by decide +kernel
theorem f_73_15 : ftc (PT 73) 15 = some (15, .lconst 1, 1, 0, 0, 0) := by decide +kernel
theorem f_73_16 : ftc (PT 73) 16 = some (16, .putfield 18, 3, 10, 2, 252) := by decide +kernel
theorem f_73_19 : ftc (PT 73) 19 = some (19, .aload_n 0, 1, 0, 0, 0) := by decide +kernel
theorem f_73_20 : ftc (PT 73) 20 = some (20, .lconst 0, 1, 0, 0, 0) := by decide +kernel
theorem f_73_21 : ftc (PT 73) 21 = some (21, .putfield 21, 3, 10, 3, 254) := by decide +kernel
theorem f_73_24 : ftc (PT 73) 24 = some (24, .return_, 1, 0, 0, 0) := by decide +kernel
theorem f_87_0 : ftc (PT 87) 0 = some (0, .aload_n 0, 1, 0, 0, 0) := by decide +kernel
theorem f_87_1 : ftc (PT 87) 1 = some (1, .invokespecial 1, 3, 1000, 0, 186) := by decide +kernel
theorem f_87_4 : ftc (PT 87) 4 = some (4, .aload_n 0, 1, 0, 0, 0) := by decide +kernel
theorem f_87_5 : ftc (PT 87) 5 = some (5, .new 7, 3, 9, 2, 189) := by decide +kernel
theorem f_87_8 : ftc (PT 87) 8 = some (8, .dup, 1, 0, 0, 0) := by decide +kernel
theorem f_87_9 : ftc (PT 87) 9 = some (9, .invokespecial 9, 3, 67, 2057, 191) := by decide +kernel
theorem f_87_12 : ftc (PT 87) 12 = some (12, .putfield 10, 3, 11, 0, 468) := by decide +kernel
theorem f_87_15 : ftc (PT 87) 15 = some (15, .aload_n 0, 1, 0, 0, 0) := by decide +kernel
theorem f_87_16 : ftc (PT 87) 16 = some (16, .new 16, 3, 2, 7, 207) := by decide +kernel
theorem f_87_19 : ftc (PT 87) 19 = some (19, .dup, 1, 0, 0, 0) := by decide +kernel
theorem f_87_20 : ftc (PT 87) 20 = some (20, .invokespecial 18, 3, 11, 1026, 209) := by decide +kernel
theorem f_87_23 : ftc (PT 87) 23 = some (23, .putfield 19, 3, 11, 1, 469) := by decide +kernel
theorem f_87_26 : ftc (PT 87) 26 = some (26, .aload_n 0, 1, 0, 0, 0) := by decide +kernel
theorem f_87_27 : ftc (PT 87) 27 = some (27, .new 16, 3, 2, 7, 207) := by decide +kernel
theorem f_87_30 : ftc (PT 87) 30 = some (30, .dup, 1, 0, 0, 0) := by decide +kernel
theorem f_87_31 : ftc (PT 87) 31 = some (31, .invokespecial 18, 3, 11, 1026, 209) := by decide +kernel
theorem f_87_34 : ftc (PT 87) 34 = some (34, .putfield 23, 3, 11, 2, 470) := by decide +kernel
theorem f_87_37 : ftc (PT 87) 37 = some (37, .aload_n 0, 1, 0, 0, 0) := by decide +kernel
theorem f_87_38 : ftc (PT 87) 38 = some (38, .iconst 4, 1, 0, 0, 0) := by decide +kernel
theorem f_87_39 : ftc (PT 87) 39 = some (39, .anewarray 26, 3, 7, 4, 240) := by decide +kernel
theorem f_87_42 : ftc (PT 87) 42 = some (42, .putfield 28, 3, 11, 3, 471) := by decide +kernel
theorem f_87_45 : ftc (PT 87) 45 = some (45, .aload_n 0, 1, 0, 0, 0) := by decide +kernel
theorem f_87_46 : ftc (PT 87) 46 = some (46, .iconst 1, 1, 0, 0, 0) := by decide +kernel
theorem f_87_47 : ftc (PT 87) 47 = some (47, .putfield 32, 3, 11, 4, 472) := by decide +kernel
theorem f_87_50 : ftc (PT 87) 50 = some (50, .aload_n 0, 1, 0, 0, 0) := by decide +kernel
theorem f_87_51 : ftc (PT 87) 51 = some (51, .bipush 10, 2, 0, 0, 0) := by decide +kernel
theorem f_87_53 : ftc (PT 87) 53 = some (53, .putfield 36, 3, 11, 5, 473) := by decide +kernel
theorem f_87_56 : ftc (PT 87) 56 = some (56, .aload_n 0, 1, 0, 0, 0) := by decide +kernel
theorem f_87_57 : ftc (PT 87) 57 = some (57, .new 39, 3, 10, 4, 242) := by decide +kernel
theorem f_87_60 : ftc (PT 87) 60 = some (60, .dup, 1, 0, 0, 0) := by decide +kernel
theorem f_87_61 : ftc (PT 87) 61 = some (61, .invokespecial 41, 3, 73, 1034, 244) := by decide +kernel
theorem f_87_64 : ftc (PT 87) 64 = some (64, .putfield 42, 3, 11, 6, 474) := by decide +kernel
theorem f_87_67 : ftc (PT 87) 67 = some (67, .aload_n 0, 1, 0, 0, 0) := by decide +kernel
theorem f_87_68 : ftc (PT 87) 68 = some (68, .new 39, 3, 10, 4, 242) := by decide +kernel
theorem f_87_71 : ftc (PT 87) 71 = some (71, .dup, 1, 0, 0, 0) := by decide +kernel
theorem f_87_72 : ftc (PT 87) 72 = some (72, .invokespecial 41, 3, 73, 1034, 244) := by decide +kernel
theorem f_87_75 : ftc (PT 87) 75 = some (75, .putfield 46, 3, 11, 7, 475) := by decide +kernel
theorem f_87_78 : ftc (PT 87) 78 = some (78, .aload_n 0, 1, 0, 0, 0) := by decide +kernel
theorem f_87_79 : ftc (PT 87) 79 = some (79, .new 39, 3, 10, 4, 242) := by decide +kernel
theorem f_87_82 : ftc (PT 87) 82 = some (82, .dup, 1, 0, 0, 0) := by decide +kernel
theorem f_87_83 : ftc (PT 87) 83 = some (83, .invokespecial 41, 3, 73, 1034, 244) := by decide +kernel
theorem f_87_86 : ftc (PT 87) 86 = some (86, .putfield 49, 3, 11, 8, 476) := by decide +kernel
theorem f_87_89 : ftc (PT 87) 89 = some (89, .aload_n 0, 1, 0, 0, 0) := by decide +kernel
theorem f_87_90 : ftc (PT 87) 90 = some (90, .new 52, 3, 6, 3, 265) := by decide +kernel
theorem f_87_93 : ftc (PT 87) 93 = some (93, .dup, 1, 0, 0, 0) := by decide +kernel
theorem f_87_94 : ftc (PT 87) 94 = some (94, .invokespecial 54, 3, 51, 1030, 267) := by decide +kernel
theorem f_87_97 : ftc (PT 87) 97 = some (97, .putfield 55, 3, 11, 9, 477) := by decide +kernel
theorem f_87_100 : ftc (PT 87) 100 = some (100, .aload_n 0, 1, 0, 0, 0) := by decide +kernel
theorem f_87_101 : ftc (PT 87) 101 = some (101, .new 59, 3, 3, 2, 290) := by decide +kernel
theorem f_87_104 : ftc (PT 87) 104 = some (104, .dup, 1, 0, 0, 0) := by decide +kernel
theorem f_87_105 : ftc (PT 87) 105 = some (105, .invokespecial 61, 3, 22, 1027, 292) := by decide +kernel
theorem f_87_108 : ftc (PT 87) 108 = some (108, .putfield 62, 3, 11, 10, 478) := by decide +kernel
theorem f_87_111 : ftc (PT 87) 111 = some (111, .aload_n 0, 1, 0, 0, 0) := by decide +kernel
theorem f_87_112 : ftc (PT 87) 112 = some (112, .new 66, 3, 5, 10, 307) := by decide +kernel
theorem f_87_115 : ftc (PT 87) 115 = some (115, .dup, 1, 0, 0, 0) := by decide +kernel
theorem f_87_116 : ftc (PT 87) 116 = some (116, .invokespecial 68, 3, 38, 1029, 309) := by decide +kernel
theorem f_87_119 : ftc (PT 87) 119 = some (119, .putfield 69, 3, 11, 11, 479) := by decide +kernel
theorem f_87_122 : ftc (PT 87) 122 = some (122, .aload_n 0, 1, 0, 0, 0) := by decide +kernel
theorem f_87_123 : ftc (PT 87) 123 = some (123, .new 73, 3, 4, 8, 346) := by decide +kernel
theorem f_87_126 : ftc (PT 87) 126 = some (126, .dup, 1, 0, 0, 0) := by decide +kernel
theorem f_87_127 : ftc (PT 87) 127 = some (127, .invokespecial 75, 3, 33, 1028, 348) := by decide +kernel
theorem f_87_130 : ftc (PT 87) 130 = some (130, .putfield 76, 3, 11, 12, 480) := by decide +kernel
theorem f_87_133 : ftc (PT 87) 133 = some (133, .aload_n 0, 1, 0, 0, 0) := by decide +kernel
theorem f_87_134 : ftc (PT 87) 134 = some (134, .new 80, 3, 0, 7, 379) := by decide +kernel
theorem f_87_137 : ftc (PT 87) 137 = some (137, .dup, 1, 0, 0, 0) := by decide +kernel
theorem f_87_138 : ftc (PT 87) 138 = some (138, .invokespecial 82, 3, 0, 1024, 381) := by decide +kernel
theorem f_87_141 : ftc (PT 87) 141 = some (141, .putfield 83, 3, 11, 13, 481) := by decide +kernel
theorem f_87_144 : ftc (PT 87) 144 = some (144, .aload_n 0, 1, 0, 0, 0) := by decide +kernel
theorem f_87_145 : ftc (PT 87) 145 = some (145, .new 87, 3, 8, 2, 414) := by decide +kernel
theorem f_87_148 : ftc (PT 87) 148 = some (148, .dup, 1, 0, 0, 0) := by decide +kernel
theorem f_87_149 : ftc (PT 87) 149 = some (149, .invokespecial 89, 3, 64, 1032, 416) := by decide +kernel
theorem f_87_152 : ftc (PT 87) 152 = some (152, .putfield 90, 3, 11, 14, 482) := by decide +kernel
theorem f_87_155 : ftc (PT 87) 155 = some (155, .aload_n 0, 1, 0, 0, 0) := by decide +kernel
theorem f_87_156 : ftc (PT 87) 156 = some (156, .new 94, 3, 1, 1, 431) := by decide +kernel
theorem f_87_159 : ftc (PT 87) 159 = some (159, .dup, 1, 0, 0, 0) := by decide +kernel
theorem f_87_160 : ftc (PT 87) 160 = some (160, .invokespecial 96, 3, 5, 1025, 433) := by decide +kernel
theorem f_87_163 : ftc (PT 87) 163 = some (163, .putfield 97, 3, 11, 15, 483) := by decide +kernel
theorem f_87_166 : ftc (PT 87) 166 = some (166, .aload_n 0, 1, 0, 0, 0) := by decide +kernel
theorem f_87_167 : ftc (PT 87) 167 = some (167, .new 94, 3, 1, 1, 431) := by decide +kernel
theorem f_87_170 : ftc (PT 87) 170 = some (170, .dup, 1, 0, 0, 0) := by decide +kernel
theorem f_87_171 : ftc (PT 87) 171 = some (171, .invokespecial 96, 3, 5, 1025, 433) := by decide +kernel
theorem f_87_174 : ftc (PT 87) 174 = some (174, .putfield 101, 3, 11, 16, 484) := by decide +kernel
theorem f_87_177 : ftc (PT 87) 177 = some (177, .aload_n 0, 1, 0, 0, 0) := by decide +kernel
theorem f_87_178 : ftc (PT 87) 178 = some (178, .iconst 4, 1, 0, 0, 0) := by decide +kernel
theorem f_87_179 : ftc (PT 87) 179 = some (179, .newarray .int, 2, 20, 0, 0) := by decide +kernel
theorem f_87_181 : ftc (PT 87) 181 = some (181, .putfield 104, 3, 11, 17, 485) := by decide +kernel
theorem f_87_184 : ftc (PT 87) 184 = some (184, .aload_n 0, 1, 0, 0, 0) := by decide +kernel
theorem f_87_185 : ftc (PT 87) 185 = some (185, .iconst 4, 1, 0, 0, 0) := by decide +kernel
theorem f_87_186 : ftc (PT 87) 186 = some (186, .newarray .int, 2, 20, 0, 0) := by decide +kernel
theorem f_87_188 : ftc (PT 87) 188 = some (188, .putfield 108, 3, 11, 18, 486) := by decide +kernel
theorem f_87_191 : ftc (PT 87) 191 = some (191, .iconst 0, 1, 0, 0, 0) := by decide +kernel
theorem f_87_192 : ftc (PT 87) 192 = some (192, .istore_n 1, 1, 0, 0, 0) := by decide +kernel
theorem f_87_193 : ftc (PT 87) 193 = some (193, .iload_n 1, 1, 0, 0, 0) := by decide +kernel
theorem f_87_194 : ftc (PT 87) 194 = some (194, .iconst 4, 1, 0, 0, 0) := by decide +kernel
theorem f_87_195 : ftc (PT 87) 195 = some (195, .if_icmp .ge 22, 3, 217, 0, 0) := by decide +kernel
theorem f_87_198 : ftc (PT 87) 198 = some (198, .aload_n 0, 1, 0, 0, 0) := by decide +kernel
theorem f_87_199 : ftc (PT 87) 199 = some (199, .getfield 28, 3, 11, 3, 471) := by decide +kernel
theorem f_87_202 : ftc (PT 87) 202 = some (202, .iload_n 1, 1, 0, 0, 0) := by decide +kernel
theorem f_87_203 : ftc (PT 87) 203 = some (203, .new 26, 3, 7, 4, 240) := by decide +kernel
theorem f_87_206 : ftc (PT 87) 206 = some (206, .dup, 1, 0, 0, 0) := by decide +kernel
theorem f_87_207 : ftc (PT 87) 207 = some (207, .invokespecial 111, 3, 62, 1031, 443) := by decide +kernel
theorem f_87_210 : ftc (PT 87) 210 = some (210, .aastore, 1, 0, 0, 0) := by decide +kernel
theorem f_87_211 : ftc (PT 87) 211 = some (211, .iinc 1 1, 3, 0, 0, 0) := by decide +kernel
theorem f_87_214 : ftc (PT 87) 214 = some (214, .goto (-21), 3, 193, 0, 0) := by decide +kernel
theorem f_87_217 : ftc (PT 87) 217 = some (217, .return_, 1, 0, 0, 0) := by decide +kernel
theorem f_205_0 : ftc (PT 205) 0 = some (0, .aload_n 0, 1, 0, 0, 0) := by decide +kernel
theorem f_205_1 : ftc (PT 205) 1 = some (1, .invokespecial 1, 3, 1000, 0, 1616) := by decide +kernel
theorem f_205_4 : ftc (PT 205) 4 = some (4, .aload_n 0, 1, 0, 0, 0) := by decide +kernel
theorem f_205_5 : ftc (PT 205) 5 = some (5, .bipush 16, 2, 0, 0, 0) := by decide +kernel
theorem f_205_7 : ftc (PT 205) 7 = some (7, .newarray .int, 2, 20, 0, 0) := by decide +kernel
theorem f_205_9 : ftc (PT 205) 9 = some (9, .putfield 7, 3, 12, 1, 1637) := by decide +kernel
theorem f_205_12 : ftc (PT 205) 12 = some (12, .aload_n 0, 1, 0, 0, 0) := by decide +kernel
theorem f_205_13 : ftc (PT 205) 13 = some (13, .bipush 68, 2, 0, 0, 0) := by decide +kernel
theorem f_205_15 : ftc (PT 205) 15 = some (15, .newarray .int, 2, 20, 0, 0) := by decide +kernel
theorem f_205_17 : ftc (PT 205) 17 = some (17, .putfield 13, 3, 12, 2, 1638) := by decide +kernel
theorem f_205_20 : ftc (PT 205) 20 = some (20, .aload_n 0, 1, 0, 0, 0) := by decide +kernel
theorem f_205_21 : ftc (PT 205) 21 = some (21, .sipush 184, 3, 0, 0, 0) := by decide +kernel
theorem f_205_24 : ftc (PT 205) 24 = some (24, .newarray .int, 2, 20, 0, 0) := by decide +kernel
theorem f_205_26 : ftc (PT 205) 26 = some (26, .putfield 16, 3, 12, 5, 1641) := by decide +kernel
theorem f_205_29 : ftc (PT 205) 29 = some (29, .aload_n 0, 1, 0, 0, 0) := by decide +kernel
theorem f_205_30 : ftc (PT 205) 30 = some (30, .sipush 184, 3, 0, 0, 0) := by decide +kernel
theorem f_205_33 : ftc (PT 205) 33 = some (33, .newarray .int, 2, 20, 0, 0) := by decide +kernel
theorem f_205_35 : ftc (PT 205) 35 = some (35, .putfield 19, 3, 12, 6, 1642) := by decide +kernel
theorem f_205_38 : ftc (PT 205) 38 = some (38, .aload_n 0, 1, 0, 0, 0) := by decide +kernel
theorem f_205_39 : ftc (PT 205) 39 = some (39, .bipush 8, 2, 0, 0, 0) := by decide +kernel
theorem f_205_41 : ftc (PT 205) 41 = some (41, .newarray .long, 2, 21, 0, 0) := by decide +kernel
theorem f_205_43 : ftc (PT 205) 43 = some (43, .putfield 22, 3, 12, 31, 1667) := by decide +kernel
theorem f_205_46 : ftc (PT 205) 46 = some (46, .aload_n 0, 1, 0, 0, 0) := by decide +kernel
theorem f_205_47 : ftc (PT 205) 47 = some (47, .bipush 16, 2, 0, 0, 0) := by decide +kernel
theorem f_205_49 : ftc (PT 205) 49 = some (49, .newarray .int, 2, 20, 0, 0) := by decide +kernel
theorem f_205_51 : ftc (PT 205) 51 = some (51, .putfield 26, 3, 12, 37, 1673) := by decide +kernel
theorem f_205_54 : ftc (PT 205) 54 = some (54, .aload_n 0, 1, 0, 0, 0) := by decide +kernel
theorem f_205_55 : ftc (PT 205) 55 = some (55, .sipush 154, 3, 0, 0, 0) := by decide +kernel
theorem f_205_58 : ftc (PT 205) 58 = some (58, .newarray .long, 2, 21, 0, 0) := by decide +kernel
theorem f_205_60 : ftc (PT 205) 60 = some (60, .putfield 29, 3, 12, 38, 1674) := by decide +kernel
theorem f_205_63 : ftc (PT 205) 63 = some (63, .aload_n 0, 1, 0, 0, 0) := by decide +kernel
theorem f_205_64 : ftc (PT 205) 64 = some (64, .iconst 4, 1, 0, 0, 0) := by decide +kernel
theorem f_205_65 : ftc (PT 205) 65 = some (65, .newarray .int, 2, 20, 0, 0) := by decide +kernel
theorem f_205_67 : ftc (PT 205) 67 = some (67, .putfield 32, 3, 12, 40, 1676) := by decide +kernel
theorem f_205_70 : ftc (PT 205) 70 = some (70, .aload_n 0, 1, 0, 0, 0) := by decide +kernel
theorem f_205_71 : ftc (PT 205) 71 = some (71, .iconst 4, 1, 0, 0, 0) := by decide +kernel
theorem f_205_72 : ftc (PT 205) 72 = some (72, .newarray .int, 2, 20, 0, 0) := by decide +kernel
theorem f_205_74 : ftc (PT 205) 74 = some (74, .putfield 35, 3, 12, 41, 1677) := by decide +kernel
theorem f_205_77 : ftc (PT 205) 77 = some (77, .aload_n 0, 1, 0, 0, 0) := by decide +kernel
theorem f_205_78 : ftc (PT 205) 78 = some (78, .iconst 4, 1, 0, 0, 0) := by decide +kernel
theorem f_205_79 : ftc (PT 205) 79 = some (79, .newarray .long, 2, 21, 0, 0) := by decide +kernel
theorem f_205_81 : ftc (PT 205) 81 = some (81, .putfield 38, 3, 12, 42, 1678) := by decide +kernel
theorem f_205_84 : ftc (PT 205) 84 = some (84, .aload_n 0, 1, 0, 0, 0) := by decide +kernel
theorem f_205_85 : ftc (PT 205) 85 = some (85, .iconst 4, 1, 0, 0, 0) := by decide +kernel
theorem f_205_86 : ftc (PT 205) 86 = some (86, .newarray .long, 2, 21, 0, 0) := by decide +kernel
theorem f_205_88 : ftc (PT 205) 88 = some (88, .putfield 41, 3, 12, 43, 1679) := by decide +kernel
theorem f_205_91 : ftc (PT 205) 91 = some (91, .aload_n 0, 1, 0, 0, 0) := by decide +kernel
theorem f_205_92 : ftc (PT 205) 92 = some (92, .getfield 7, 3, 12, 1, 1637) := by decide +kernel
theorem f_205_95 : ftc (PT 205) 95 = some (95, .iconst 0, 1, 0, 0, 0) := by decide +kernel
theorem f_205_96 : ftc (PT 205) 96 = some (96, .iconst 1, 1, 0, 0, 0) := by decide +kernel
theorem f_205_97 : ftc (PT 205) 97 = some (97, .iastore, 1, 0, 0, 0) := by decide +kernel
theorem f_205_98 : ftc (PT 205) 98 = some (98, .aload_n 0, 1, 0, 0, 0) := by decide +kernel
theorem f_205_99 : ftc (PT 205) 99 = some (99, .getfield 7, 3, 12, 1, 1637) := by decide +kernel
theorem f_205_102 : ftc (PT 205) 102 = some (102, .iconst 2, 1, 0, 0, 0) := by decide +kernel
theorem f_205_103 : ftc (PT 205) 103 = some (103, .iconst 1, 1, 0, 0, 0) := by decide +kernel
theorem f_205_104 : ftc (PT 205) 104 = some (104, .iastore, 1, 0, 0, 0) := by decide +kernel
theorem f_205_105 : ftc (PT 205) 105 = some (105, .aload_n 0, 1, 0, 0, 0) := by decide +kernel
theorem f_205_106 : ftc (PT 205) 106 = some (106, .iconst 1, 1, 0, 0, 0) := by decide +kernel
theorem f_205_107 : ftc (PT 205) 107 = some (107, .putfield 44, 3, 12, 3, 1639) := by decide +kernel
theorem f_205_110 : ftc (PT 205) 110 = some (110, .aload_n 0, 1, 0, 0, 0) := by decide +kernel
theorem f_205_111 : ftc (PT 205) 111 = some (111, .bipush 10, 2, 0, 0, 0) := by decide +kernel
theorem f_205_113 : ftc (PT 205) 113 = some (113, .putfield 48, 3, 12, 4, 1640) := by decide +kernel
theorem f_205_116 : ftc (PT 205) 116 = some (116, .iconst 0, 1, 0, 0, 0) := by decide +kernel
theorem f_205_117 : ftc (PT 205) 117 = some (117, .istore_n 1, 1, 0, 0, 0) := by decide +kernel
theorem f_205_118 : ftc (PT 205) 118 = some (118, .iload_n 1, 1, 0, 0, 0) := by decide +kernel
theorem f_205_119 : ftc (PT 205) 119 = some (119, .bipush 12, 2, 0, 0, 0) := by decide +kernel
theorem f_205_121 : ftc (PT 205) 121 = some (121, .if_icmp .gt 29, 3, 150, 0, 0) := by decide +kernel
theorem f_205_124 : ftc (PT 205) 124 = some (124, .iconst 0, 1, 0, 0, 0) := by decide +kernel
theorem f_205_125 : ftc (PT 205) 125 = some (125, .istore_n 2, 1, 0, 0, 0) := by decide +kernel
theorem f_205_126 : ftc (PT 205) 126 = some (126, .iload_n 2, 1, 0, 0, 0) := by decide +kernel
theorem f_205_127 : ftc (PT 205) 127 = some (127, .bipush 12, 2, 0, 0, 0) := by decide +kernel
theorem f_205_129 : ftc (PT 205) 129 = some (129, .if_icmp .gt 15, 3, 144, 0, 0) := by decide +kernel
theorem f_205_132 : ftc (PT 205) 132 = some (132, .aload_n 0, 1, 0, 0, 0) := by decide +kernel
theorem f_205_133 : ftc (PT 205) 133 = some (133, .iload_n 1, 1, 0, 0, 0) := by decide +kernel
theorem f_205_134 : ftc (PT 205) 134 = some (134, .iload_n 2, 1, 0, 0, 0) := by decide +kernel
theorem f_205_135 : ftc (PT 205) 135 = some (135, .invokevirtual 51, 3, 206, 4172, 1617) := by decide +kernel
theorem f_205_138 : ftc (PT 205) 138 = some (138, .iinc 2 1, 3, 0, 0, 0) := by decide +kernel
theorem f_205_141 : ftc (PT 205) 141 = some (141, .goto (-15), 3, 126, 0, 0) := by decide +kernel
theorem f_205_144 : ftc (PT 205) 144 = some (144, .iinc 1 1, 3, 0, 0, 0) := by decide +kernel
theorem f_205_147 : ftc (PT 205) 147 = some (147, .goto (-29), 3, 118, 0, 0) := by decide +kernel
theorem f_205_150 : ftc (PT 205) 150 = some (150, .bipush (-12), 2, 0, 0, 0) := by decide +kernel
theorem f_205_152 : ftc (PT 205) 152 = some (152, .istore_n 1, 1, 0, 0, 0) := by decide +kernel
theorem f_205_153 : ftc (PT 205) 153 = some (153, .iload_n 1, 1, 0, 0, 0) := by decide +kernel
theorem f_205_154 : ftc (PT 205) 154 = some (154, .ifCond .ge 29, 3, 183, 0, 0) := by decide +kernel
theorem f_205_157 : ftc (PT 205) 157 = some (157, .iconst 1, 1, 0, 0, 0) := by decide +kernel
theorem f_205_158 : ftc (PT 205) 158 = some (158, .istore_n 2, 1, 0, 0, 0) := by decide +kernel
theorem f_205_159 : ftc (PT 205) 159 = some (159, .iload_n 2, 1, 0, 0, 0) := by decide +kernel
theorem f_205_160 : ftc (PT 205) 160 = some (160, .bipush 12, 2, 0, 0, 0) := by decide +kernel
theorem f_205_162 : ftc (PT 205) 162 = some (162, .if_icmp .gt 15, 3, 177, 0, 0) := by decide +kernel
theorem f_205_165 : ftc (PT 205) 165 = some (165, .aload_n 0, 1, 0, 0, 0) := by decide +kernel
theorem f_205_166 : ftc (PT 205) 166 = some (166, .iload_n 1, 1, 0, 0, 0) := by decide +kernel
theorem f_205_167 : ftc (PT 205) 167 = some (167, .iload_n 2, 1, 0, 0, 0) := by decide +kernel
theorem f_205_168 : ftc (PT 205) 168 = some (168, .invokevirtual 51, 3, 206, 4172, 1617) := by decide +kernel
theorem f_205_171 : ftc (PT 205) 171 = some (171, .iinc 2 1, 3, 0, 0, 0) := by decide +kernel
theorem f_205_174 : ftc (PT 205) 174 = some (174, .goto (-15), 3, 159, 0, 0) := by decide +kernel
theorem f_205_177 : ftc (PT 205) 177 = some (177, .iinc 1 1, 3, 0, 0, 0) := by decide +kernel
theorem f_205_180 : ftc (PT 205) 180 = some (180, .goto (-27), 3, 153, 0, 0) := by decide +kernel
theorem f_205_183 : ftc (PT 205) 183 = some (183, .return_, 1, 0, 0, 0) := by decide +kernel
theorem f_206_0 : ftc (PT 206) 0 = some (0, .iload_n 1, 1, 0, 0, 0) := by decide +kernel
theorem f_206_1 : ftc (PT 206) 1 = some (1, .iload_n 2, 1, 0, 0, 0) := by decide +kernel
theorem f_206_2 : ftc (PT 206) 2 = some (2, .invokestatic 70, 3, 207, 2050, 1621) := by decide +kernel
theorem f_206_5 : ftc (PT 206) 5 = some (5, .ifCond .ne 4, 3, 9, 0, 0) := by decide +kernel
theorem f_206_8 : ftc (PT 206) 8 = some (8, .return_, 1, 0, 0, 0) := by decide +kernel
theorem f_206_9 : ftc (PT 206) 9 = some (9, .aload_n 0, 1, 0, 0, 0) := by decide +kernel
theorem f_206_10 : ftc (PT 206) 10 = some (10, .getfield 74, 3, 12, 7, 1643) := by decide +kernel
theorem f_206_13 : ftc (PT 206) 13 = some (13, .istore_n 3, 1, 0, 0, 0) := by decide +kernel
theorem f_206_14 : ftc (PT 206) 14 = some (14, .iload_n 3, 1, 0, 0, 0) := by decide +kernel
theorem f_206_15 : ftc (PT 206) 15 = some (15, .ifCond .le 65, 3, 80, 0, 0) := by decide +kernel
theorem f_206_18 : ftc (PT 206) 18 = some (18, .iload_n 1, 1, 0, 0, 0) := by decide +kernel
theorem f_206_19 : ftc (PT 206) 19 = some (19, .i2l, 1, 0, 0, 0) := by decide +kernel
theorem f_206_20 : ftc (PT 206) 20 = some (20, .iload_n 2, 1, 0, 0, 0) := by decide +kernel
theorem f_206_21 : ftc (PT 206) 21 = some (21, .i2l, 1, 0, 0, 0) := by decide +kernel
theorem f_206_22 : ftc (PT 206) 22 = some (22, .aload_n 0, 1, 0, 0, 0) := by decide +kernel
theorem f_206_23 : ftc (PT 206) 23 = some (23, .getfield 16, 3, 12, 5, 1641) := by decide +kernel
theorem f_206_26 : ftc (PT 206) 26 = some (26, .iload_n 3, 1, 0, 0, 0) := by decide +kernel
theorem f_206_27 : ftc (PT 206) 27 = some (27, .iconst 1, 1, 0, 0, 0) := by decide +kernel
theorem f_206_28 : ftc (PT 206) 28 = some (28, .isub, 1, 0, 0, 0) := by decide +kernel
theorem f_206_29 : ftc (PT 206) 29 = some (29, .iaload, 1, 0, 0, 0) := by decide +kernel
theorem f_206_30 : ftc (PT 206) 30 = some (30, .i2l, 1, 0, 0, 0) := by decide +kernel
theorem f_206_31 : ftc (PT 206) 31 = some (31, .aload_n 0, 1, 0, 0, 0) := by decide +kernel
theorem f_206_32 : ftc (PT 206) 32 = some (32, .getfield 19, 3, 12, 6, 1642) := by decide +kernel
theorem f_206_35 : ftc (PT 206) 35 = some (35, .iload_n 3, 1, 0, 0, 0) := by decide +kernel
theorem f_206_36 : ftc (PT 206) 36 = some (36, .iconst 1, 1, 0, 0, 0) := by decide +kernel
theorem f_206_37 : ftc (PT 206) 37 = some (37, .isub, 1, 0, 0, 0) := by decide +kernel
theorem f_206_38 : ftc (PT 206) 38 = some (38, .iaload, 1, 0, 0, 0) := by decide +kernel
theorem f_206_39 : ftc (PT 206) 39 = some (39, .i2l, 1, 0, 0, 0) := by decide +kernel
theorem f_206_40 : ftc (PT 206) 40 = some (40, .invokestatic 77, 3, 211, 12292, 1633) := by decide +kernel
theorem f_206_43 : ftc (PT 206) 43 = some (43, .ifCond .ge 37, 3, 80, 0, 0) := by decide +kernel
theorem f_206_46 : ftc (PT 206) 46 = some (46, .aload_n 0, 1, 0, 0, 0) := by decide +kernel
theorem f_206_47 : ftc (PT 206) 47 = some (47, .getfield 16, 3, 12, 5, 1641) := by decide +kernel
theorem f_206_50 : ftc (PT 206) 50 = some (50, .iload_n 3, 1, 0, 0, 0) := by decide +kernel
theorem f_206_51 : ftc (PT 206) 51 = some (51, .aload_n 0, 1, 0, 0, 0) := by decide +kernel
theorem f_206_52 : ftc (PT 206) 52 = some (52, .getfield 16, 3, 12, 5, 1641) := by decide +kernel
theorem f_206_55 : ftc (PT 206) 55 = some (55, .iload_n 3, 1, 0, 0, 0) := by decide +kernel
theorem f_206_56 : ftc (PT 206) 56 = some (56, .iconst 1, 1, 0, 0, 0) := by decide +kernel
theorem f_206_57 : ftc (PT 206) 57 = some (57, .isub, 1, 0, 0, 0) := by decide +kernel
theorem f_206_58 : ftc (PT 206) 58 = some (58, .iaload, 1, 0, 0, 0) := by decide +kernel
theorem f_206_59 : ftc (PT 206) 59 = some (59, .iastore, 1, 0, 0, 0) := by decide +kernel
theorem f_206_60 : ftc (PT 206) 60 = some (60, .aload_n 0, 1, 0, 0, 0) := by decide +kernel
theorem f_206_61 : ftc (PT 206) 61 = some (61, .getfield 19, 3, 12, 6, 1642) := by decide +kernel
theorem f_206_64 : ftc (PT 206) 64 = some (64, .iload_n 3, 1, 0, 0, 0) := by decide +kernel
theorem f_206_65 : ftc (PT 206) 65 = some (65, .aload_n 0, 1, 0, 0, 0) := by decide +kernel
theorem f_206_66 : ftc (PT 206) 66 = some (66, .getfield 19, 3, 12, 6, 1642) := by decide +kernel
theorem f_206_69 : ftc (PT 206) 69 = some (69, .iload_n 3, 1, 0, 0, 0) := by decide +kernel
theorem f_206_70 : ftc (PT 206) 70 = some (70, .iconst 1, 1, 0, 0, 0) := by decide +kernel
theorem f_206_71 : ftc (PT 206) 71 = some (71, .isub, 1, 0, 0, 0) := by decide +kernel
theorem f_206_72 : ftc (PT 206) 72 = some (72, .iaload, 1, 0, 0, 0) := by decide +kernel
theorem f_206_73 : ftc (PT 206) 73 = some (73, .iastore, 1, 0, 0, 0) := by decide +kernel
theorem f_206_74 : ftc (PT 206) 74 = some (74, .iinc 3 (-1), 3, 0, 0, 0) := by decide +kernel
theorem f_206_77 : ftc (PT 206) 77 = some (77, .goto (-63), 3, 14, 0, 0) := by decide +kernel
theorem f_206_80 : ftc (PT 206) 80 = some (80, .aload_n 0, 1, 0, 0, 0) := by decide +kernel
theorem f_206_81 : ftc (PT 206) 81 = some (81, .getfield 16, 3, 12, 5, 1641) := by decide +kernel
theorem f_206_84 : ftc (PT 206) 84 = some (84, .iload_n 3, 1, 0, 0, 0) := by decide +kernel
theorem f_206_85 : ftc (PT 206) 85 = some (85, .iload_n 1, 1, 0, 0, 0) := by decide +kernel
theorem f_206_86 : ftc (PT 206) 86 = some (86, .iastore, 1, 0, 0, 0) := by decide +kernel
theorem f_206_87 : ftc (PT 206) 87 = some (87, .aload_n 0, 1, 0, 0, 0) := by decide +kernel
theorem f_206_88 : ftc (PT 206) 88 = some (88, .getfield 19, 3, 12, 6, 1642) := by decide +kernel
theorem f_206_91 : ftc (PT 206) 91 = some (91, .iload_n 3, 1, 0, 0, 0) := by decide +kernel
theorem f_206_92 : ftc (PT 206) 92 = some (92, .iload_n 2, 1, 0, 0, 0) := by decide +kernel
theorem f_206_93 : ftc (PT 206) 93 = some (93, .iastore, 1, 0, 0, 0) := by decide +kernel
theorem f_206_94 : ftc (PT 206) 94 = some (94, .aload_n 0, 1, 0, 0, 0) := by decide +kernel
theorem f_206_95 : ftc (PT 206) 95 = some (95, .dup, 1, 0, 0, 0) := by decide +kernel
theorem f_206_96 : ftc (PT 206) 96 = some (96, .getfield 74, 3, 12, 7, 1643) := by decide +kernel
theorem f_206_99 : ftc (PT 206) 99 = some (99, .iconst 1, 1, 0, 0, 0) := by decide +kernel
theorem f_206_100 : ftc (PT 206) 100 = some (100, .iadd, 1, 0, 0, 0) := by decide +kernel
theorem f_206_101 : ftc (PT 206) 101 = some (101, .putfield 74, 3, 12, 7, 1643) := by decide +kernel
theorem f_206_104 : ftc (PT 206) 104 = some (104, .return_, 1, 0, 0, 0) := by decide +kernel
theorem f_420_0 : ftc (PT 420) 0 = some (0, .new 8, 3, 11, 19, 181) := by decide +kernel
theorem f_420_3 : ftc (PT 420) 3 = some (3, .dup, 1, 0, 0, 0) := by decide +kernel
theorem f_420_4 : ftc (PT 420) 4 = some (4, .invokespecial 191, 3, 87, 2059, 183) := by decide +kernel
theorem f_420_7 : ftc (PT 420) 7 = some (7, .astore_n 1, 1, 0, 0, 0) := by decide +kernel
theorem f_420_8 : ftc (PT 420) 8 = some (8, .new 192, 3, 12, 44, 1611) := by decide +kernel
theorem f_420_11 : ftc (PT 420) 11 = some (11, .dup, 1, 0, 0, 0) := by decide +kernel
theorem f_420_12 : ftc (PT 420) 12 = some (12, .invokespecial 194, 3, 205, 3084, 1613) := by decide +kernel
theorem f_420_15 : ftc (PT 420) 15 = some (15, .astore_n 2, 1, 0, 0, 0) := by decide +kernel
theorem f_420_16 : ftc (PT 420) 16 = some (16, .iconst 1, 1, 0, 0, 0) := by decide +kernel
theorem f_420_17 : ftc (PT 420) 17 = some (17, .newarray .long, 2, 21, 0, 0) := by decide +kernel
theorem f_420_19 : ftc (PT 420) 19 = some (19, .astore_n 3, 1, 0, 0, 0) := by decide +kernel
theorem f_420_20 : ftc (PT 420) 20 = some (20, .iconst 0, 1, 0, 0, 0) := by decide +kernel
theorem f_420_21 : ftc (PT 420) 21 = some (21, .istore 4, 2, 0, 0, 0) := by decide +kernel
set_option maxRecDepth 10000 in
set_option maxHeartbeats 4000000 in
theorem s5_68_0 {Lx : Nat} {I : Mi} {L : Ml} {e : Nat} {Q : Kq} (h :
    Wp 68 13 [(0, .ref 2), (1, .int (Int32.ofInt 0)), (2, .int (Int32.ofInt 1)), (3, .int (Int32.ofInt 1)), (4, .int (Int32.ofInt 12)), (5, .int (Int32.ofInt 0))] [] (g5 Lx) I L e Q) :
    Wp 68 0 [(0, .ref 2)] [] (g5 Lx) I L e Q := by
  refine w_a f_68_0 ?_
  refine w_a f_68_1 ?_
  refine w_a (ls := [(1, .int (Int32.ofInt 0)), (0, .ref 2)]) f_68_2 ?_
  refine w_a f_68_3 ?_
  refine w_a (ls := [(2, .int (Int32.ofInt 1)), (1, .int (Int32.ofInt 0)), (0, .ref 2)]) f_68_4 ?_
  refine w_a f_68_5 ?_
  refine w_a (ls := [(3, .int (Int32.ofInt 1)), (2, .int (Int32.ofInt 1)), (1, .int (Int32.ofInt 0)), (0, .ref 2)]) f_68_6 ?_
  refine w_a f_68_8 ?_
  refine w_a (ls := [(4, .int (Int32.ofInt 12)), (3, .int (Int32.ofInt 1)), (2, .int (Int32.ofInt 1)), (1, .int (Int32.ofInt 0)), (0, .ref 2)]) f_68_10 ?_
  refine w_a f_68_11 ?_
  exact w_n (ks := [0, 1, 2, 3, 4, 5]) rfl h
set_option maxRecDepth 10000 in
set_option maxHeartbeats 4000000 in
theorem s5_68_13 {Lx : Nat} {I : Mi} {L : Ml} {e : Nat} {Q : Kq} {x1 : Int32} {x2 : Int32} {x3 : Int32} {x4 : Int32} {x5 : Int32} (h :
    (if (Int32.ofInt 46) < x5 then
     Q (.inl none) (g5 Lx) I L e
    else
     (inb x5 184 (
      (inb x5 184 (
       (inb ((Int32.ofInt 92) - x5) 184 (
        (inb ((Int32.ofInt 92) - x5) 184 (
         (if x4 = 0 then
          Wp 68 13 [(0, .ref 2), (1, .int x3), (2, .int x4), (3, .int (((Int32.ofInt 0) * x3) - x1)), (4, .int (((Int32.ofInt 0) * x4) - x2)), (5, .int (x5 + Int32.ofInt 1))] [] (g5 Lx) (ui (ui (ui (ui I 3 x5.toNatClampNeg x1) 4 x5.toNatClampNeg x2) 3 (((Int32.ofInt 92) - x5).toNatClampNeg) x2) 4 (((Int32.ofInt 92) - x5).toNatClampNeg) x1) L e Q
         else
          (if x4 = 0 then False else
           Wp 68 13 [(0, .ref 2), (1, .int x3), (2, .int x4), (3, .int (((((Int32.ofInt 12) + x2) / x4) * x3) - x1)), (4, .int (((((Int32.ofInt 12) + x2) / x4) * x4) - x2)), (5, .int (x5 + Int32.ofInt 1))] [] (g5 Lx) (ui (ui (ui (ui I 3 x5.toNatClampNeg x1) 4 x5.toNatClampNeg x2) 3 (((Int32.ofInt 92) - x5).toNatClampNeg) x2) 4 (((Int32.ofInt 92) - x5).toNatClampNeg) x1) L e Q)))
        False))
       False))
      False))
     False))) :
    Wp 68 13 [(0, .ref 2), (1, .int x1), (2, .int x2), (3, .int x3), (4, .int x4), (5, .int x5)] [] (g5 Lx) I L e Q := by
  refine w_a f_68_13 ?_
  refine w_a f_68_15 ?_
  refine w_a f_68_17 ?_
  refine i_m (fun h => ?_) (fun h => ?_) h
  · refine w_a f_68_111 ?_
    exact h
  · refine w_a f_68_20 ?_
    refine w_a f_68_21 ?_
    refine w_a f_68_24 ?_
    refine w_a f_68_26 ?_
    refine w_a f_68_27 ?_
    refine n_m (fun h => ?_) h
    refine w_a f_68_28 ?_
    refine w_a f_68_29 ?_
    refine w_a f_68_32 ?_
    refine w_a f_68_34 ?_
    refine w_a f_68_35 ?_
    refine n_m (fun h => ?_) h
    refine w_a f_68_36 ?_
    refine w_a f_68_37 ?_
    refine w_a f_68_40 ?_
    refine w_a f_68_42 ?_
    refine w_a f_68_44 ?_
    refine w_a f_68_45 ?_
    refine w_a f_68_46 ?_
    refine n_m (fun h => ?_) h
    refine w_a f_68_47 ?_
    refine w_a f_68_48 ?_
    refine w_a f_68_51 ?_
    refine w_a f_68_53 ?_
    refine w_a f_68_55 ?_
    refine w_a f_68_56 ?_
    refine w_a f_68_57 ?_
    refine n_m (fun h => ?_) h
    refine w_a f_68_58 ?_
    refine w_a f_68_60 ?_
    refine i_m (fun h => ?_) (fun h => ?_) h
    · refine w_a f_68_63 ?_
      refine w_a f_68_64 ?_
      refine w_a f_68_74 ?_
      refine w_a (ls := [(6, .int (Int32.ofInt 0)), (0, .ref 2), (1, .int x1), (2, .int x2), (3, .int x3), (4, .int x4), (5, .int x5)]) f_68_76 ?_
      refine w_a f_68_78 ?_
      refine w_a f_68_79 ?_
      refine w_a f_68_80 ?_
      refine w_a f_68_81 ?_
      refine w_a f_68_82 ?_
      refine w_a (ls := [(7, .int (((Int32.ofInt 0) * x3) - x1)), (6, .int (Int32.ofInt 0)), (0, .ref 2), (1, .int x1), (2, .int x2), (3, .int x3), (4, .int x4), (5, .int x5)]) f_68_84 ?_
      refine w_a f_68_86 ?_
      refine w_a f_68_88 ?_
      refine w_a f_68_89 ?_
      refine w_a f_68_90 ?_
      refine w_a f_68_91 ?_
      refine w_a (ls := [(8, .int (((Int32.ofInt 0) * x4) - x2)), (7, .int (((Int32.ofInt 0) * x3) - x1)), (6, .int (Int32.ofInt 0)), (0, .ref 2), (1, .int x1), (2, .int x2), (3, .int x3), (4, .int x4), (5, .int x5)]) f_68_93 ?_
      refine w_a f_68_94 ?_
      refine w_a (ls := [(1, .int x3), (8, .int (((Int32.ofInt 0) * x4) - x2)), (7, .int (((Int32.ofInt 0) * x3) - x1)), (6, .int (Int32.ofInt 0)), (0, .ref 2), (2, .int x2), (3, .int x3), (4, .int x4), (5, .int x5)]) f_68_95 ?_
      refine w_a f_68_97 ?_
      refine w_a (ls := [(2, .int x4), (1, .int x3), (8, .int (((Int32.ofInt 0) * x4) - x2)), (7, .int (((Int32.ofInt 0) * x3) - x1)), (6, .int (Int32.ofInt 0)), (0, .ref 2), (3, .int x3), (4, .int x4), (5, .int x5)]) f_68_98 ?_
      refine w_a f_68_100 ?_
      refine w_a (ls := [(3, .int (((Int32.ofInt 0) * x3) - x1)), (2, .int x4), (1, .int x3), (8, .int (((Int32.ofInt 0) * x4) - x2)), (7, .int (((Int32.ofInt 0) * x3) - x1)), (6, .int (Int32.ofInt 0)), (0, .ref 2), (4, .int x4), (5, .int x5)]) f_68_101 ?_
      refine w_a f_68_103 ?_
      refine w_a (ls := [(4, .int (((Int32.ofInt 0) * x4) - x2)), (3, .int (((Int32.ofInt 0) * x3) - x1)), (2, .int x4), (1, .int x3), (8, .int (((Int32.ofInt 0) * x4) - x2)), (7, .int (((Int32.ofInt 0) * x3) - x1)), (6, .int (Int32.ofInt 0)), (0, .ref 2), (5, .int x5)]) f_68_105 ?_
      refine w_a (ls := [(5, .int (x5 + Int32.ofInt 1)), (4, .int (((Int32.ofInt 0) * x4) - x2)), (3, .int (((Int32.ofInt 0) * x3) - x1)), (2, .int x4), (1, .int x3), (8, .int (((Int32.ofInt 0) * x4) - x2)), (7, .int (((Int32.ofInt 0) * x3) - x1)), (6, .int (Int32.ofInt 0)), (0, .ref 2)]) f_68_108 ?_
      exact w_n (ks := [0, 1, 2, 3, 4, 5]) rfl h
    · refine w_a f_68_67 ?_
      refine w_a f_68_69 ?_
      refine w_a f_68_70 ?_
      refine w_a f_68_71 ?_
      refine w_a f_68_73 ?_
      refine i_m id (fun h => ?_) h
      refine w_a f_68_74 ?_
      refine w_a (ls := [(6, .int (((Int32.ofInt 12) + x2) / x4)), (0, .ref 2), (1, .int x1), (2, .int x2), (3, .int x3), (4, .int x4), (5, .int x5)]) f_68_76 ?_
      refine w_a f_68_78 ?_
      refine w_a f_68_79 ?_
      refine w_a f_68_80 ?_
      refine w_a f_68_81 ?_
      refine w_a f_68_82 ?_
      refine w_a (ls := [(7, .int (((((Int32.ofInt 12) + x2) / x4) * x3) - x1)), (6, .int (((Int32.ofInt 12) + x2) / x4)), (0, .ref 2), (1, .int x1), (2, .int x2), (3, .int x3), (4, .int x4), (5, .int x5)]) f_68_84 ?_
      refine w_a f_68_86 ?_
      refine w_a f_68_88 ?_
      refine w_a f_68_89 ?_
      refine w_a f_68_90 ?_
      refine w_a f_68_91 ?_
      refine w_a (ls := [(8, .int (((((Int32.ofInt 12) + x2) / x4) * x4) - x2)), (7, .int (((((Int32.ofInt 12) + x2) / x4) * x3) - x1)), (6, .int (((Int32.ofInt 12) + x2) / x4)), (0, .ref 2), (1, .int x1), (2, .int x2), (3, .int x3), (4, .int x4), (5, .int x5)]) f_68_93 ?_
      refine w_a f_68_94 ?_
      refine w_a (ls := [(1, .int x3), (8, .int (((((Int32.ofInt 12) + x2) / x4) * x4) - x2)), (7, .int (((((Int32.ofInt 12) + x2) / x4) * x3) - x1)), (6, .int (((Int32.ofInt 12) + x2) / x4)), (0, .ref 2), (2, .int x2), (3, .int x3), (4, .int x4), (5, .int x5)]) f_68_95 ?_
      refine w_a f_68_97 ?_
      refine w_a (ls := [(2, .int x4), (1, .int x3), (8, .int (((((Int32.ofInt 12) + x2) / x4) * x4) - x2)), (7, .int (((((Int32.ofInt 12) + x2) / x4) * x3) - x1)), (6, .int (((Int32.ofInt 12) + x2) / x4)), (0, .ref 2), (3, .int x3), (4, .int x4), (5, .int x5)]) f_68_98 ?_
      refine w_a f_68_100 ?_
      refine w_a (ls := [(3, .int (((((Int32.ofInt 12) + x2) / x4) * x3) - x1)), (2, .int x4), (1, .int x3), (8, .int (((((Int32.ofInt 12) + x2) / x4) * x4) - x2)), (7, .int (((((Int32.ofInt 12) + x2) / x4) * x3) - x1)), (6, .int (((Int32.ofInt 12) + x2) / x4)), (0, .ref 2), (4, .int x4), (5, .int x5)]) f_68_101 ?_
      refine w_a f_68_103 ?_
      refine w_a (ls := [(4, .int (((((Int32.ofInt 12) + x2) / x4) * x4) - x2)), (3, .int (((((Int32.ofInt 12) + x2) / x4) * x3) - x1)), (2, .int x4), (1, .int x3), (8, .int (((((Int32.ofInt 12) + x2) / x4) * x4) - x2)), (7, .int (((((Int32.ofInt 12) + x2) / x4) * x3) - x1)), (6, .int (((Int32.ofInt 12) + x2) / x4)), (0, .ref 2), (5, .int x5)]) f_68_105 ?_
      refine w_a (ls := [(5, .int (x5 + Int32.ofInt 1)), (4, .int (((((Int32.ofInt 12) + x2) / x4) * x4) - x2)), (3, .int (((((Int32.ofInt 12) + x2) / x4) * x3) - x1)), (2, .int x4), (1, .int x3), (8, .int (((((Int32.ofInt 12) + x2) / x4) * x4) - x2)), (7, .int (((((Int32.ofInt 12) + x2) / x4) * x3) - x1)), (6, .int (((Int32.ofInt 12) + x2) / x4)), (0, .ref 2)]) f_68_108 ?_
      exact w_n (ks := [0, 1, 2, 3, 4, 5]) rfl h
set_option maxRecDepth 10000 in
set_option maxHeartbeats 4000000 in
theorem s5_67_29 {Lx : Nat} {I : Mi} {L : Ml} {e : Nat} {Q : Kq} {x1 : Int32} (h :
    (if x1 < (Int32.ofInt 184) then
     (inb ((Int32.ofInt 184) - x1) 184 (
      (inb x1 184 (
       (inb ((Int32.ofInt 184) - x1) 184 (
        (inb x1 184 (
         Wp 67 29 [(0, .ref 2), (1, .int (x1 + Int32.ofInt 1))] [] (g5 Lx) (ui (ui I 3 x1.toNatClampNeg (-(I 3 (((Int32.ofInt 184) - x1).toNatClampNeg)))) 4 x1.toNatClampNeg (I 4 (((Int32.ofInt 184) - x1).toNatClampNeg))) L e Q)
        False))
       False))
      False))
     False)
    else
     Q (.inl none) (g5 Lx) I L e)) :
    Wp 67 29 [(0, .ref 2), (1, .int x1)] [] (g5 Lx) I L e Q := by
  refine w_a f_67_29 ?_
  refine w_a f_67_30 ?_
  refine w_a f_67_33 ?_
  refine i_m (fun h => ?_) (fun h => ?_) h
  · refine w_a f_67_36 ?_
    refine w_a f_67_37 ?_
    refine w_a f_67_40 ?_
    refine w_a f_67_41 ?_
    refine w_a f_67_42 ?_
    refine w_a f_67_45 ?_
    refine w_a f_67_48 ?_
    refine w_a f_67_49 ?_
    refine w_a f_67_50 ?_
    refine n_m (fun h => ?_) h
    refine w_a f_67_51 ?_
    refine w_a f_67_52 ?_
    refine n_m (fun h => ?_) h
    refine w_a f_67_53 ?_
    refine w_a f_67_54 ?_
    refine w_a f_67_57 ?_
    refine w_a f_67_58 ?_
    refine w_a f_67_59 ?_
    refine w_a f_67_62 ?_
    refine w_a f_67_65 ?_
    refine w_a f_67_66 ?_
    refine w_a f_67_67 ?_
    refine n_m (fun h => ?_) h
    refine w_a f_67_68 ?_
    refine n_m (fun h => ?_) h
    refine w_a f_67_69 ?_
    refine w_a (ls := [(1, .int (x1 + Int32.ofInt 1)), (0, .ref 2)]) f_67_72 ?_
    exact w_n (ks := [0, 1]) rfl h
  · refine w_a f_67_75 ?_
    exact h
set_option maxRecDepth 10000 in
set_option maxHeartbeats 4000000 in
theorem sM_210_0 {Lx : Nat} {I : Mi} {L : Ml} {e : Nat} {Q : Kq} {y0 : Int64} (h :
    (if y0 < (Int64.ofInt 0) then
     Q (.inl (some (.long (-y0)))) (gM Lx) I L e
    else
     Q (.inl (some (.long y0))) (gM Lx) I L e)) :
    Wp 210 0 [(0, .long y0)] [] (gM Lx) I L e Q := by
  refine w_a f_210_0 ?_
  refine w_a f_210_1 ?_
  refine w_a f_210_2 ?_
  refine i_m (fun h => ?_) (fun h => ?_) h
  · refine w_a f_210_6 ?_
    refine w_a f_210_7 ?_
    refine w_a f_210_8 ?_
    refine w_a f_210_12 ?_
    exact h
  · refine w_a f_210_11 ?_
    refine w_a f_210_12 ?_
    exact h
set_option maxRecDepth 10000 in
set_option maxHeartbeats 4000000 in
theorem sM_209_0 {Lx : Nat} {I : Mi} {L : Ml} {e : Nat} {Q : Kq} {y0 : Int64} {y2 : Int64} (h :
    Wp 210 0 [(0, .long y0)] [] (gM Lx) I L e (kcp (Wp 209) 209 1 0 [(2, .long y2)] 70 [] Q)) :
    Wp 209 0 [(0, .long y0), (2, .long y2)] [] (gM Lx) I L e Q := by
  refine w_a f_209_0 ?_
  exact w_c (ks := [2]) f_209_1 rfl rfl h
set_option maxRecDepth 10000 in
set_option maxHeartbeats 4000000 in
theorem sM_209_4 {Lx : Nat} {I : Mi} {L : Ml} {e : Nat} {Q : Kq} {y2 : Int64} {rl : Int64} (h :
    Wp 210 0 [(0, .long y2)] [] (gM Lx) I L e (kcp (Wp 209) 209 7 0 [(4, .long rl)] 70 [] Q)) :
    Wp 209 4 [(2, .long y2)] [.long rl] (gM Lx) I L e Q := by
  refine w_a f_209_4 ?_
  refine w_a (ls := [(4, .long rl), (2, .long y2)]) f_209_6 ?_
  exact w_c (ks := [4]) f_209_7 rfl rfl h
set_option maxRecDepth 10000 in
set_option maxHeartbeats 4000000 in
theorem sM_209_10 {Lx : Nat} {I : Mi} {L : Ml} {e : Nat} {Q : Kq} {y4 : Int64} {rl : Int64} (h :
    Wp 209 12 [(4, .long y4), (6, .long rl)] [] (gM Lx) I L e Q) :
    Wp 209 10 [(4, .long y4)] [.long rl] (gM Lx) I L e Q := by
  refine w_a f_209_10 ?_
  exact w_n (ks := [4, 6]) rfl h
set_option maxRecDepth 10000 in
set_option maxHeartbeats 4000000 in
theorem sM_209_12 {Lx : Nat} {I : Mi} {L : Ml} {e : Nat} {Q : Kq} {y4 : Int64} {y6 : Int64} (h :
    (if y6 = (Int64.ofInt 0) then
     Q (.inl (some (.long y4))) (gM Lx) I L e
    else
     (if y6 = 0 then False else
      Wp 209 12 [(4, .long y6), (6, .long (y4 - y4 / y6 * y6))] [] (gM Lx) I L e Q))) :
    Wp 209 12 [(4, .long y4), (6, .long y6)] [] (gM Lx) I L e Q := by
  refine w_a f_209_12 ?_
  refine w_a f_209_14 ?_
  refine w_a f_209_15 ?_
  refine i_m (fun h => ?_) (fun h => ?_) h
  · refine w_a f_209_37 ?_
    refine w_a f_209_39 ?_
    exact h
  · refine w_a f_209_19 ?_
    refine w_a f_209_21 ?_
    refine w_a f_209_23 ?_
    refine i_m id (fun h => ?_) h
    refine w_a f_209_24 ?_
    refine w_a (ls := [(8, .long (y4 - y4 / y6 * y6)), (4, .long y4), (6, .long y6)]) f_209_26 ?_
    refine w_a f_209_28 ?_
    refine w_a (ls := [(4, .long y6), (8, .long (y4 - y4 / y6 * y6)), (6, .long y6)]) f_209_30 ?_
    refine w_a f_209_32 ?_
    refine w_a (ls := [(6, .long (y4 - y4 / y6 * y6)), (4, .long y6), (8, .long (y4 - y4 / y6 * y6))]) f_209_34 ?_
    exact w_n (ks := [4, 6]) rfl h
set_option maxRecDepth 10000 in
set_option maxHeartbeats 4000000 in
theorem sM_207_0 {Lx : Nat} {I : Mi} {L : Ml} {e : Nat} {Q : Kq} {x0 : Int32} {x1 : Int32} (h :
    (if x0 < (Int32.ofInt (-12)) then
     Q (.inl (some (.int (Int32.ofInt 0)))) (gM Lx) I L e
    else
     (if (Int32.ofInt 12) < x0 then
      Q (.inl (some (.int (Int32.ofInt 0)))) (gM Lx) I L e
     else
      (if x1 < (Int32.ofInt 0) then
       Q (.inl (some (.int (Int32.ofInt 0)))) (gM Lx) I L e
      else
       (if (Int32.ofInt 12) < x1 then
        Q (.inl (some (.int (Int32.ofInt 0)))) (gM Lx) I L e
       else
        Wp 209 0 [(0, .long x0.toInt64), (2, .long x1.toInt64)] [] (gM Lx) I L e (kcp (Wp 207) 207 25 0 [(0, .int x0), (1, .int x1)] 70 [] Q)))))) :
    Wp 207 0 [(0, .int x0), (1, .int x1)] [] (gM Lx) I L e Q := by
  refine w_a f_207_0 ?_
  refine w_a f_207_1 ?_
  refine w_a f_207_3 ?_
  refine w_a f_207_5 ?_
  refine w_a (ls := [(0, .int x0), (1, .int (Int32.ofInt (-12))), (2, .int (Int32.ofInt 12))]) f_208_0 ?_
  refine w_a f_208_1 ?_
  refine w_a f_208_2 ?_
  refine i_m (fun h => ?_) (fun h => ?_) h
  · refine w_a f_208_14 ?_
    refine w_a f_208_15 ?_
    refine w_a (ls := [(0, .int x0), (1, .int x1)]) f_207_8 ?_
    refine w_a f_207_46 ?_
    refine w_a f_207_47 ?_
    exact h
  · refine w_a f_208_5 ?_
    refine w_a f_208_6 ?_
    refine w_a f_208_7 ?_
    refine i_m (fun h => ?_) (fun h => ?_) h
    · refine w_a f_208_14 ?_
      refine w_a f_208_15 ?_
      refine w_a (ls := [(0, .int x0), (1, .int x1)]) f_207_8 ?_
      refine w_a f_207_46 ?_
      refine w_a f_207_47 ?_
      exact h
    · refine w_a f_208_10 ?_
      refine w_a f_208_11 ?_
      refine w_a f_208_15 ?_
      refine w_a (ls := [(0, .int x0), (1, .int x1)]) f_207_8 ?_
      refine w_a f_207_11 ?_
      refine w_a f_207_12 ?_
      refine w_a f_207_13 ?_
      refine w_a f_207_15 ?_
      refine w_a (ls := [(0, .int x1), (1, .int (Int32.ofInt 0)), (2, .int (Int32.ofInt 12))]) f_208_0 ?_
      refine w_a f_208_1 ?_
      refine w_a f_208_2 ?_
      refine i_m (fun h => ?_) (fun h => ?_) h
      · refine w_a f_208_14 ?_
        refine w_a f_208_15 ?_
        refine w_a (ls := [(0, .int x0), (1, .int x1)]) f_207_18 ?_
        refine w_a f_207_46 ?_
        refine w_a f_207_47 ?_
        exact h
      · refine w_a f_208_5 ?_
        refine w_a f_208_6 ?_
        refine w_a f_208_7 ?_
        refine i_m (fun h => ?_) (fun h => ?_) h
        · refine w_a f_208_14 ?_
          refine w_a f_208_15 ?_
          refine w_a (ls := [(0, .int x0), (1, .int x1)]) f_207_18 ?_
          refine w_a f_207_46 ?_
          refine w_a f_207_47 ?_
          exact h
        · refine w_a f_208_10 ?_
          refine w_a f_208_11 ?_
          refine w_a f_208_15 ?_
          refine w_a (ls := [(0, .int x0), (1, .int x1)]) f_207_18 ?_
          refine w_a f_207_21 ?_
          refine w_a f_207_22 ?_
          refine w_a f_207_23 ?_
          refine w_a f_207_24 ?_
          exact w_c (ks := [0, 1]) f_207_25 rfl rfl h
set_option maxRecDepth 10000 in
set_option maxHeartbeats 4000000 in
theorem sM_207_28 {Lx : Nat} {I : Mi} {L : Ml} {e : Nat} {Q : Kq} {x0 : Int32} {x1 : Int32} {rl : Int64} (h :
    (if rl = (Int64.ofInt 1) then
     (if 0 < x1 then
      Q (.inl (some (.int (Int32.ofInt 1)))) (gM Lx) I L e
     else
      (if x0 = (Int32.ofInt 1) then
       Q (.inl (some (.int (Int32.ofInt 1)))) (gM Lx) I L e
      else
       Q (.inl (some (.int (Int32.ofInt 0)))) (gM Lx) I L e))
    else
     Q (.inl (some (.int (Int32.ofInt 0)))) (gM Lx) I L e)) :
    Wp 207 28 [(0, .int x0), (1, .int x1)] [.long rl] (gM Lx) I L e Q := by
  refine w_a f_207_28 ?_
  refine w_a f_207_29 ?_
  refine i_m (fun h => ?_) (fun h => ?_) h
  · refine w_a f_207_33 ?_
    refine w_a f_207_34 ?_
    refine i_m (fun h => ?_) (fun h => ?_) h
    · refine w_a f_207_42 ?_
      refine w_a f_207_43 ?_
      refine w_a f_207_47 ?_
      exact h
    · refine w_a f_207_37 ?_
      refine w_a f_207_38 ?_
      refine w_a f_207_39 ?_
      refine i_m (fun h => ?_) (fun h => ?_) h
      · refine w_a f_207_42 ?_
        refine w_a f_207_43 ?_
        refine w_a f_207_47 ?_
        exact h
      · refine w_a f_207_46 ?_
        refine w_a f_207_47 ?_
        exact h
  · refine w_a f_207_46 ?_
    refine w_a f_207_47 ?_
    exact h
set_option maxRecDepth 10000 in
set_option maxHeartbeats 4000000 in
theorem sM_206_0 {Lx : Nat} {I : Mi} {L : Ml} {e : Nat} {Q : Kq} {x1 : Int32} {x2 : Int32} (h :
    Wp 207 0 [(0, .int x1), (1, .int x2)] [] (gM Lx) I L e (kcp (Wp 206) 206 2 0 [(0, .ref 58), (1, .int x1), (2, .int x2)] 70 [] Q)) :
    Wp 206 0 [(0, .ref 58), (1, .int x1), (2, .int x2)] [] (gM Lx) I L e Q := by
  refine w_a f_206_0 ?_
  refine w_a f_206_1 ?_
  exact w_c (ks := [0, 1, 2]) f_206_2 rfl rfl h
set_option maxRecDepth 10000 in
set_option maxHeartbeats 4000000 in
theorem sM_206_5 {Lx : Nat} {I : Mi} {L : Ml} {e : Nat} {Q : Kq} {x1 : Int32} {x2 : Int32} {r : Int32} (h :
    (if r = 0 then
     Q (.inl none) (gM Lx) I L e
    else
     Wp 206 14 [(0, .ref 58), (1, .int x1), (2, .int x2), (3, .int (I 58 7))] [] (gM Lx) I L e Q)) :
    Wp 206 5 [(0, .ref 58), (1, .int x1), (2, .int x2)] [.int r] (gM Lx) I L e Q := by
  refine w_a f_206_5 ?_
  refine i_m (fun h => ?_) (fun h => ?_) h
  · refine w_a f_206_8 ?_
    exact h
  · refine w_a f_206_9 ?_
    refine w_a f_206_10 ?_
    refine w_a f_206_13 ?_
    exact w_n (ks := [0, 1, 2, 3]) rfl h
set_option maxRecDepth 10000 in
set_option maxHeartbeats 4000000 in
theorem sM_206_14 {Lx : Nat} {I : Mi} {L : Ml} {e : Nat} {Q : Kq} {x1 : Int32} {x2 : Int32} {x3 : Int32} (h :
    (if 0 < x3 then
     (inb (x3 - (Int32.ofInt 1)) 184 (
      (inb (x3 - (Int32.ofInt 1)) 184 (
       (if x1.toInt64 < (Int64.ofInt 0) then
        (if (I 61 ((x3 - (Int32.ofInt 1)).toNatClampNeg)).toInt64 < (Int64.ofInt 0) then
         (if ((x1.toInt64 * (I 62 ((x3 - (Int32.ofInt 1)).toNatClampNeg)).toInt64) - ((I 61 ((x3 - (Int32.ofInt 1)).toNatClampNeg)).toInt64 * x2.toInt64)) < (Int64.ofInt 0) then
          (inb (x3 - (Int32.ofInt 1)) 184 (
           (inb x3 184 (
            (inb (x3 - (Int32.ofInt 1)) 184 (
             (inb x3 184 (
              Wp 206 14 [(0, .ref 58), (1, .int x1), (2, .int x2), (3, .int (x3 + Int32.ofInt (-1)))] [] (gM Lx) (ui (ui I 61 x3.toNatClampNeg (I 61 ((x3 - (Int32.ofInt 1)).toNatClampNeg))) 62 x3.toNatClampNeg (I 62 ((x3 - (Int32.ofInt 1)).toNatClampNeg))) L e Q)
             False))
            False))
           False))
          False)
         else
          (if (Int64.ofInt 0) < ((x1.toInt64 * (I 62 ((x3 - (Int32.ofInt 1)).toNatClampNeg)).toInt64) - ((I 61 ((x3 - (Int32.ofInt 1)).toNatClampNeg)).toInt64 * x2.toInt64)) then
           Wp 206 80 [(0, .ref 58), (1, .int x1), (2, .int x2), (3, .int x3)] [] (gM Lx) I L e Q
          else
           Wp 206 80 [(0, .ref 58), (1, .int x1), (2, .int x2), (3, .int x3)] [] (gM Lx) I L e Q))
        else
         Wp 206 80 [(0, .ref 58), (1, .int x1), (2, .int x2), (3, .int x3)] [] (gM Lx) I L e Q)
       else
        (if (I 61 ((x3 - (Int32.ofInt 1)).toNatClampNeg)).toInt64 < (Int64.ofInt 0) then
         (inb (x3 - (Int32.ofInt 1)) 184 (
          (inb x3 184 (
           (inb (x3 - (Int32.ofInt 1)) 184 (
            (inb x3 184 (
             Wp 206 14 [(0, .ref 58), (1, .int x1), (2, .int x2), (3, .int (x3 + Int32.ofInt (-1)))] [] (gM Lx) (ui (ui I 61 x3.toNatClampNeg (I 61 ((x3 - (Int32.ofInt 1)).toNatClampNeg))) 62 x3.toNatClampNeg (I 62 ((x3 - (Int32.ofInt 1)).toNatClampNeg))) L e Q)
            False))
           False))
          False))
         False)
        else
         (if ((x1.toInt64 * (I 62 ((x3 - (Int32.ofInt 1)).toNatClampNeg)).toInt64) - ((I 61 ((x3 - (Int32.ofInt 1)).toNatClampNeg)).toInt64 * x2.toInt64)) < (Int64.ofInt 0) then
          (inb (x3 - (Int32.ofInt 1)) 184 (
           (inb x3 184 (
            (inb (x3 - (Int32.ofInt 1)) 184 (
             (inb x3 184 (
              Wp 206 14 [(0, .ref 58), (1, .int x1), (2, .int x2), (3, .int (x3 + Int32.ofInt (-1)))] [] (gM Lx) (ui (ui I 61 x3.toNatClampNeg (I 61 ((x3 - (Int32.ofInt 1)).toNatClampNeg))) 62 x3.toNatClampNeg (I 62 ((x3 - (Int32.ofInt 1)).toNatClampNeg))) L e Q)
             False))
            False))
           False))
          False)
         else
          (if (Int64.ofInt 0) < ((x1.toInt64 * (I 62 ((x3 - (Int32.ofInt 1)).toNatClampNeg)).toInt64) - ((I 61 ((x3 - (Int32.ofInt 1)).toNatClampNeg)).toInt64 * x2.toInt64)) then
           Wp 206 80 [(0, .ref 58), (1, .int x1), (2, .int x2), (3, .int x3)] [] (gM Lx) I L e Q
          else
           Wp 206 80 [(0, .ref 58), (1, .int x1), (2, .int x2), (3, .int x3)] [] (gM Lx) I L e Q)))))
      False))
     False)
    else
     Wp 206 80 [(0, .ref 58), (1, .int x1), (2, .int x2), (3, .int x3)] [] (gM Lx) I L e Q)) :
    Wp 206 14 [(0, .ref 58), (1, .int x1), (2, .int x2), (3, .int x3)] [] (gM Lx) I L e Q := by
  refine w_a f_206_14 ?_
  refine w_a f_206_15 ?_
  refine i_m (fun h => ?_) (fun h => ?_) h
  · refine w_a f_206_18 ?_
    refine w_a f_206_19 ?_
    refine w_a f_206_20 ?_
    refine w_a f_206_21 ?_
    refine w_a f_206_22 ?_
    refine w_a f_206_23 ?_
    refine w_a f_206_26 ?_
    refine w_a f_206_27 ?_
    refine w_a f_206_28 ?_
    refine w_a f_206_29 ?_
    refine n_m (fun h => ?_) h
    refine w_a f_206_30 ?_
    refine w_a f_206_31 ?_
    refine w_a f_206_32 ?_
    refine w_a f_206_35 ?_
    refine w_a f_206_36 ?_
    refine w_a f_206_37 ?_
    refine w_a f_206_38 ?_
    refine n_m (fun h => ?_) h
    refine w_a f_206_39 ?_
    refine w_a f_206_40 ?_
    refine w_a (ls := [(0, .long x1.toInt64), (2, .long x2.toInt64), (4, .long (I 61 ((x3 - (Int32.ofInt 1)).toNatClampNeg)).toInt64), (6, .long (I 62 ((x3 - (Int32.ofInt 1)).toNatClampNeg)).toInt64)]) f_211_0 ?_
    refine w_a f_211_1 ?_
    refine w_a f_211_2 ?_
    refine i_m (fun h => ?_) (fun h => ?_) h
    · refine w_a f_211_6 ?_
      refine w_a f_211_7 ?_
      refine w_a f_211_11 ?_
      refine w_a (ls := [(8, .int (Int32.ofInt 1)), (0, .long x1.toInt64), (2, .long x2.toInt64), (4, .long (I 61 ((x3 - (Int32.ofInt 1)).toNatClampNeg)).toInt64), (6, .long (I 62 ((x3 - (Int32.ofInt 1)).toNatClampNeg)).toInt64)]) f_211_13 ?_
      refine w_a f_211_15 ?_
      refine w_a f_211_16 ?_
      refine i_m (fun h => ?_) (fun h => ?_) h
      · refine w_a f_211_20 ?_
        refine w_a f_211_21 ?_
        refine w_a f_211_25 ?_
        refine w_a (ls := [(9, .int (Int32.ofInt 1)), (8, .int (Int32.ofInt 1)), (0, .long x1.toInt64), (2, .long x2.toInt64), (4, .long (I 61 ((x3 - (Int32.ofInt 1)).toNatClampNeg)).toInt64), (6, .long (I 62 ((x3 - (Int32.ofInt 1)).toNatClampNeg)).toInt64)]) f_211_27 ?_
        refine w_a f_211_29 ?_
        refine w_a f_211_31 ?_
        refine w_a f_211_45 ?_
        refine w_a f_211_46 ?_
        refine w_a f_211_48 ?_
        refine w_a f_211_49 ?_
        refine w_a f_211_51 ?_
        refine w_a f_211_52 ?_
        refine w_a f_211_53 ?_
        refine w_a f_211_54 ?_
        refine w_a (ls := [(10, .long ((x1.toInt64 * (I 62 ((x3 - (Int32.ofInt 1)).toNatClampNeg)).toInt64) - ((I 61 ((x3 - (Int32.ofInt 1)).toNatClampNeg)).toInt64 * x2.toInt64))), (9, .int (Int32.ofInt 1)), (8, .int (Int32.ofInt 1)), (0, .long x1.toInt64), (2, .long x2.toInt64), (4, .long (I 61 ((x3 - (Int32.ofInt 1)).toNatClampNeg)).toInt64), (6, .long (I 62 ((x3 - (Int32.ofInt 1)).toNatClampNeg)).toInt64)]) f_211_56 ?_
        refine w_a f_211_58 ?_
        refine w_a f_211_59 ?_
        refine i_m (fun h => ?_) (fun h => ?_) h
        · refine w_a f_211_63 ?_
          refine w_a f_211_64 ?_
          refine w_a f_211_79 ?_
          refine w_a (ls := [(0, .ref 58), (1, .int x1), (2, .int x2), (3, .int x3)]) f_206_43 ?_
          refine w_a f_206_46 ?_
          refine w_a f_206_47 ?_
          refine w_a f_206_50 ?_
          refine w_a f_206_51 ?_
          refine w_a f_206_52 ?_
          refine w_a f_206_55 ?_
          refine w_a f_206_56 ?_
          refine w_a f_206_57 ?_
          refine w_a f_206_58 ?_
          refine n_m (fun h => ?_) h
          refine w_a f_206_59 ?_
          refine n_m (fun h => ?_) h
          refine w_a f_206_60 ?_
          refine w_a f_206_61 ?_
          refine w_a f_206_64 ?_
          refine w_a f_206_65 ?_
          refine w_a f_206_66 ?_
          refine w_a f_206_69 ?_
          refine w_a f_206_70 ?_
          refine w_a f_206_71 ?_
          refine w_a f_206_72 ?_
          refine n_m (fun h => ?_) h
          refine w_a f_206_73 ?_
          refine n_m (fun h => ?_) h
          refine w_a f_206_74 ?_
          refine w_a (ls := [(3, .int (x3 + Int32.ofInt (-1))), (0, .ref 58), (1, .int x1), (2, .int x2)]) f_206_77 ?_
          exact w_n (ks := [0, 1, 2, 3]) rfl h
        · refine w_a f_211_67 ?_
          refine w_a f_211_69 ?_
          refine w_a f_211_70 ?_
          refine i_m (fun h => ?_) (fun h => ?_) h
          · refine w_a f_211_74 ?_
            refine w_a f_211_75 ?_
            refine w_a f_211_79 ?_
            refine w_a (ls := [(0, .ref 58), (1, .int x1), (2, .int x2), (3, .int x3)]) f_206_43 ?_
            exact w_n (ks := [0, 1, 2, 3]) rfl h
          · refine w_a f_211_78 ?_
            refine w_a f_211_79 ?_
            refine w_a (ls := [(0, .ref 58), (1, .int x1), (2, .int x2), (3, .int x3)]) f_206_43 ?_
            exact w_n (ks := [0, 1, 2, 3]) rfl h
      · refine w_a f_211_24 ?_
        refine w_a f_211_25 ?_
        refine w_a (ls := [(9, .int (Int32.ofInt 0)), (8, .int (Int32.ofInt 1)), (0, .long x1.toInt64), (2, .long x2.toInt64), (4, .long (I 61 ((x3 - (Int32.ofInt 1)).toNatClampNeg)).toInt64), (6, .long (I 62 ((x3 - (Int32.ofInt 1)).toNatClampNeg)).toInt64)]) f_211_27 ?_
        refine w_a f_211_29 ?_
        refine w_a f_211_31 ?_
        refine w_a f_211_34 ?_
        refine w_a f_211_36 ?_
        refine w_a f_211_39 ?_
        refine w_a f_211_40 ?_
        refine w_a f_211_44 ?_
        refine w_a (ls := [(0, .ref 58), (1, .int x1), (2, .int x2), (3, .int x3)]) f_206_43 ?_
        exact w_n (ks := [0, 1, 2, 3]) rfl h
    · refine w_a f_211_10 ?_
      refine w_a f_211_11 ?_
      refine w_a (ls := [(8, .int (Int32.ofInt 0)), (0, .long x1.toInt64), (2, .long x2.toInt64), (4, .long (I 61 ((x3 - (Int32.ofInt 1)).toNatClampNeg)).toInt64), (6, .long (I 62 ((x3 - (Int32.ofInt 1)).toNatClampNeg)).toInt64)]) f_211_13 ?_
      refine w_a f_211_15 ?_
      refine w_a f_211_16 ?_
      refine i_m (fun h => ?_) (fun h => ?_) h
      · refine w_a f_211_20 ?_
        refine w_a f_211_21 ?_
        refine w_a f_211_25 ?_
        refine w_a (ls := [(9, .int (Int32.ofInt 1)), (8, .int (Int32.ofInt 0)), (0, .long x1.toInt64), (2, .long x2.toInt64), (4, .long (I 61 ((x3 - (Int32.ofInt 1)).toNatClampNeg)).toInt64), (6, .long (I 62 ((x3 - (Int32.ofInt 1)).toNatClampNeg)).toInt64)]) f_211_27 ?_
        refine w_a f_211_29 ?_
        refine w_a f_211_31 ?_
        refine w_a f_211_34 ?_
        refine w_a f_211_36 ?_
        refine w_a f_211_43 ?_
        refine w_a f_211_44 ?_
        refine w_a (ls := [(0, .ref 58), (1, .int x1), (2, .int x2), (3, .int x3)]) f_206_43 ?_
        refine w_a f_206_46 ?_
        refine w_a f_206_47 ?_
        refine w_a f_206_50 ?_
        refine w_a f_206_51 ?_
        refine w_a f_206_52 ?_
        refine w_a f_206_55 ?_
        refine w_a f_206_56 ?_
        refine w_a f_206_57 ?_
        refine w_a f_206_58 ?_
        refine n_m (fun h => ?_) h
        refine w_a f_206_59 ?_
        refine n_m (fun h => ?_) h
        refine w_a f_206_60 ?_
        refine w_a f_206_61 ?_
        refine w_a f_206_64 ?_
        refine w_a f_206_65 ?_
        refine w_a f_206_66 ?_
        refine w_a f_206_69 ?_
        refine w_a f_206_70 ?_
        refine w_a f_206_71 ?_
        refine w_a f_206_72 ?_
        refine n_m (fun h => ?_) h
        refine w_a f_206_73 ?_
        refine n_m (fun h => ?_) h
        refine w_a f_206_74 ?_
        refine w_a (ls := [(3, .int (x3 + Int32.ofInt (-1))), (0, .ref 58), (1, .int x1), (2, .int x2)]) f_206_77 ?_
        exact w_n (ks := [0, 1, 2, 3]) rfl h
      · refine w_a f_211_24 ?_
        refine w_a f_211_25 ?_
        refine w_a (ls := [(9, .int (Int32.ofInt 0)), (8, .int (Int32.ofInt 0)), (0, .long x1.toInt64), (2, .long x2.toInt64), (4, .long (I 61 ((x3 - (Int32.ofInt 1)).toNatClampNeg)).toInt64), (6, .long (I 62 ((x3 - (Int32.ofInt 1)).toNatClampNeg)).toInt64)]) f_211_27 ?_
        refine w_a f_211_29 ?_
        refine w_a f_211_31 ?_
        refine w_a f_211_45 ?_
        refine w_a f_211_46 ?_
        refine w_a f_211_48 ?_
        refine w_a f_211_49 ?_
        refine w_a f_211_51 ?_
        refine w_a f_211_52 ?_
        refine w_a f_211_53 ?_
        refine w_a f_211_54 ?_
        refine w_a (ls := [(10, .long ((x1.toInt64 * (I 62 ((x3 - (Int32.ofInt 1)).toNatClampNeg)).toInt64) - ((I 61 ((x3 - (Int32.ofInt 1)).toNatClampNeg)).toInt64 * x2.toInt64))), (9, .int (Int32.ofInt 0)), (8, .int (Int32.ofInt 0)), (0, .long x1.toInt64), (2, .long x2.toInt64), (4, .long (I 61 ((x3 - (Int32.ofInt 1)).toNatClampNeg)).toInt64), (6, .long (I 62 ((x3 - (Int32.ofInt 1)).toNatClampNeg)).toInt64)]) f_211_56 ?_
        refine w_a f_211_58 ?_
        refine w_a f_211_59 ?_
        refine i_m (fun h => ?_) (fun h => ?_) h
        · refine w_a f_211_63 ?_
          refine w_a f_211_64 ?_
          refine w_a f_211_79 ?_
          refine w_a (ls := [(0, .ref 58), (1, .int x1), (2, .int x2), (3, .int x3)]) f_206_43 ?_
          refine w_a f_206_46 ?_
          refine w_a f_206_47 ?_
          refine w_a f_206_50 ?_
          refine w_a f_206_51 ?_
          refine w_a f_206_52 ?_
          refine w_a f_206_55 ?_
          refine w_a f_206_56 ?_
          refine w_a f_206_57 ?_
          refine w_a f_206_58 ?_
          refine n_m (fun h => ?_) h
          refine w_a f_206_59 ?_
          refine n_m (fun h => ?_) h
          refine w_a f_206_60 ?_
          refine w_a f_206_61 ?_
          refine w_a f_206_64 ?_
          refine w_a f_206_65 ?_
          refine w_a f_206_66 ?_
          refine w_a f_206_69 ?_
          refine w_a f_206_70 ?_
          refine w_a f_206_71 ?_
          refine w_a f_206_72 ?_
          refine n_m (fun h => ?_) h
          refine w_a f_206_73 ?_
          refine n_m (fun h => ?_) h
          refine w_a f_206_74 ?_
          refine w_a (ls := [(3, .int (x3 + Int32.ofInt (-1))), (0, .ref 58), (1, .int x1), (2, .int x2)]) f_206_77 ?_
          exact w_n (ks := [0, 1, 2, 3]) rfl h
        · refine w_a f_211_67 ?_
          refine w_a f_211_69 ?_
          refine w_a f_211_70 ?_
          refine i_m (fun h => ?_) (fun h => ?_) h
          · refine w_a f_211_74 ?_
            refine w_a f_211_75 ?_
            refine w_a f_211_79 ?_
            refine w_a (ls := [(0, .ref 58), (1, .int x1), (2, .int x2), (3, .int x3)]) f_206_43 ?_
            exact w_n (ks := [0, 1, 2, 3]) rfl h
          · refine w_a f_211_78 ?_
            refine w_a f_211_79 ?_
            refine w_a (ls := [(0, .ref 58), (1, .int x1), (2, .int x2), (3, .int x3)]) f_206_43 ?_
            exact w_n (ks := [0, 1, 2, 3]) rfl h
  · exact w_n (ks := [0, 1, 2, 3]) rfl h
set_option maxRecDepth 10000 in
set_option maxHeartbeats 4000000 in
theorem sM_206_80 {Lx : Nat} {I : Mi} {L : Ml} {e : Nat} {Q : Kq} {x1 : Int32} {x2 : Int32} {x3 : Int32} (h :
    (inb x3 184 (
     (inb x3 184 (
      Q (.inl none) (gM Lx) (ui (ui (ui I 61 x3.toNatClampNeg x1) 62 x3.toNatClampNeg x2) 58 7 ((I 58 7) + (Int32.ofInt 1))) L e)
     False))
    False)) :
    Wp 206 80 [(0, .ref 58), (1, .int x1), (2, .int x2), (3, .int x3)] [] (gM Lx) I L e Q := by
  refine w_a f_206_80 ?_
  refine w_a f_206_81 ?_
  refine w_a f_206_84 ?_
  refine w_a f_206_85 ?_
  refine w_a f_206_86 ?_
  refine n_m (fun h => ?_) h
  refine w_a f_206_87 ?_
  refine w_a f_206_88 ?_
  refine w_a f_206_91 ?_
  refine w_a f_206_92 ?_
  refine w_a f_206_93 ?_
  refine n_m (fun h => ?_) h
  refine w_a f_206_94 ?_
  refine w_a f_206_95 ?_
  refine w_a f_206_96 ?_
  refine w_a f_206_99 ?_
  refine w_a f_206_100 ?_
  refine w_a f_206_101 ?_
  refine w_a f_206_104 ?_
  exact h
set_option maxRecDepth 10000 in
set_option maxHeartbeats 4000000 in
theorem sM_205_118 {Lx : Nat} {I : Mi} {L : Ml} {e : Nat} {Q : Kq} {x1 : Int32} (h :
    (if (Int32.ofInt 12) < x1 then
     Wp 205 150 [(0, .ref 58)] [] (gM Lx) I L e Q
    else
     Wp 205 126 [(0, .ref 58), (1, .int x1), (2, .int (Int32.ofInt 0))] [] (gM Lx) I L e Q)) :
    Wp 205 118 [(0, .ref 58), (1, .int x1)] [] (gM Lx) I L e Q := by
  refine w_a f_205_118 ?_
  refine w_a f_205_119 ?_
  refine w_a f_205_121 ?_
  refine i_m (fun h => ?_) (fun h => ?_) h
  · exact w_n (ks := [0]) rfl h
  · refine w_a f_205_124 ?_
    refine w_a f_205_125 ?_
    exact w_n (ks := [0, 1, 2]) rfl h
set_option maxRecDepth 10000 in
set_option maxHeartbeats 4000000 in
theorem sM_205_126 {Lx : Nat} {I : Mi} {L : Ml} {e : Nat} {Q : Kq} {x1 : Int32} {x2 : Int32} (h :
    (if (Int32.ofInt 12) < x2 then
     Wp 205 144 [(0, .ref 58), (1, .int x1)] [] (gM Lx) I L e Q
    else
     Wp 206 0 [(0, .ref 58), (1, .int x1), (2, .int x2)] [] (gM Lx) I L e (kcp (Wp 205) 205 135 0 [(0, .ref 58), (1, .int x1), (2, .int x2)] 70 [] Q))) :
    Wp 205 126 [(0, .ref 58), (1, .int x1), (2, .int x2)] [] (gM Lx) I L e Q := by
  refine w_a f_205_126 ?_
  refine w_a f_205_127 ?_
  refine w_a f_205_129 ?_
  refine i_m (fun h => ?_) (fun h => ?_) h
  · exact w_n (ks := [0, 1]) rfl h
  · refine w_a f_205_132 ?_
    refine w_a f_205_133 ?_
    refine w_a f_205_134 ?_
    exact w_c (ks := [0, 1, 2]) f_205_135 rfl rfl h
set_option maxRecDepth 10000 in
set_option maxHeartbeats 4000000 in
theorem sM_205_138 {Lx : Nat} {I : Mi} {L : Ml} {e : Nat} {Q : Kq} {x1 : Int32} {x2 : Int32} (h :
    Wp 205 126 [(0, .ref 58), (1, .int x1), (2, .int (x2 + Int32.ofInt 1))] [] (gM Lx) I L e Q) :
    Wp 205 138 [(0, .ref 58), (1, .int x1), (2, .int x2)] [] (gM Lx) I L e Q := by
  refine w_a f_205_138 ?_
  refine w_a (ls := [(2, .int (x2 + Int32.ofInt 1)), (0, .ref 58), (1, .int x1)]) f_205_141 ?_
  exact w_n (ks := [0, 1, 2]) rfl h
set_option maxRecDepth 10000 in
set_option maxHeartbeats 4000000 in
theorem sM_205_144 {Lx : Nat} {I : Mi} {L : Ml} {e : Nat} {Q : Kq} {x1 : Int32} (h :
    Wp 205 118 [(0, .ref 58), (1, .int (x1 + Int32.ofInt 1))] [] (gM Lx) I L e Q) :
    Wp 205 144 [(0, .ref 58), (1, .int x1)] [] (gM Lx) I L e Q := by
  refine w_a f_205_144 ?_
  refine w_a (ls := [(1, .int (x1 + Int32.ofInt 1)), (0, .ref 58)]) f_205_147 ?_
  exact w_n (ks := [0, 1]) rfl h
set_option maxRecDepth 10000 in
set_option maxHeartbeats 4000000 in
theorem sM_205_150 {Lx : Nat} {I : Mi} {L : Ml} {e : Nat} {Q : Kq} (h :
    Wp 205 153 [(0, .ref 58), (1, .int (Int32.ofInt (-12)))] [] (gM Lx) I L e Q) :
    Wp 205 150 [(0, .ref 58)] [] (gM Lx) I L e Q := by
  refine w_a f_205_150 ?_
  refine w_a f_205_152 ?_
  exact w_n (ks := [0, 1]) rfl h
set_option maxRecDepth 10000 in
set_option maxHeartbeats 4000000 in
theorem sM_205_153 {Lx : Nat} {I : Mi} {L : Ml} {e : Nat} {Q : Kq} {x1 : Int32} (h :
    (if x1 < 0 then
     Wp 205 159 [(0, .ref 58), (1, .int x1), (2, .int (Int32.ofInt 1))] [] (gM Lx) I L e Q
    else
     Q (.inl none) (gM Lx) I L e)) :
    Wp 205 153 [(0, .ref 58), (1, .int x1)] [] (gM Lx) I L e Q := by
  refine w_a f_205_153 ?_
  refine w_a f_205_154 ?_
  refine i_m (fun h => ?_) (fun h => ?_) h
  · refine w_a f_205_157 ?_
    refine w_a f_205_158 ?_
    exact w_n (ks := [0, 1, 2]) rfl h
  · refine w_a f_205_183 ?_
    exact h
set_option maxRecDepth 10000 in
set_option maxHeartbeats 4000000 in
theorem sM_205_159 {Lx : Nat} {I : Mi} {L : Ml} {e : Nat} {Q : Kq} {x1 : Int32} {x2 : Int32} (h :
    (if (Int32.ofInt 12) < x2 then
     Wp 205 177 [(0, .ref 58), (1, .int x1)] [] (gM Lx) I L e Q
    else
     Wp 206 0 [(0, .ref 58), (1, .int x1), (2, .int x2)] [] (gM Lx) I L e (kcp (Wp 205) 205 168 0 [(0, .ref 58), (1, .int x1), (2, .int x2)] 70 [] Q))) :
    Wp 205 159 [(0, .ref 58), (1, .int x1), (2, .int x2)] [] (gM Lx) I L e Q := by
  refine w_a f_205_159 ?_
  refine w_a f_205_160 ?_
  refine w_a f_205_162 ?_
  refine i_m (fun h => ?_) (fun h => ?_) h
  · exact w_n (ks := [0, 1]) rfl h
  · refine w_a f_205_165 ?_
    refine w_a f_205_166 ?_
    refine w_a f_205_167 ?_
    exact w_c (ks := [0, 1, 2]) f_205_168 rfl rfl h
set_option maxRecDepth 10000 in
set_option maxHeartbeats 4000000 in
theorem sM_205_171 {Lx : Nat} {I : Mi} {L : Ml} {e : Nat} {Q : Kq} {x1 : Int32} {x2 : Int32} (h :
    Wp 205 159 [(0, .ref 58), (1, .int x1), (2, .int (x2 + Int32.ofInt 1))] [] (gM Lx) I L e Q) :
    Wp 205 171 [(0, .ref 58), (1, .int x1), (2, .int x2)] [] (gM Lx) I L e Q := by
  refine w_a f_205_171 ?_
  refine w_a (ls := [(2, .int (x2 + Int32.ofInt 1)), (0, .ref 58), (1, .int x1)]) f_205_174 ?_
  exact w_n (ks := [0, 1, 2]) rfl h
set_option maxRecDepth 10000 in
set_option maxHeartbeats 4000000 in
theorem sM_205_177 {Lx : Nat} {I : Mi} {L : Ml} {e : Nat} {Q : Kq} {x1 : Int32} (h :
    Wp 205 153 [(0, .ref 58), (1, .int (x1 + Int32.ofInt 1))] [] (gM Lx) I L e Q) :
    Wp 205 177 [(0, .ref 58), (1, .int x1)] [] (gM Lx) I L e Q := by
  refine w_a f_205_177 ?_
  refine w_a (ls := [(1, .int (x1 + Int32.ofInt 1)), (0, .ref 58)]) f_205_180 ?_
  exact w_n (ks := [0, 1]) rfl h
