/-! Every method holds. -/
set_option maxRecDepth 100000 in
set_option maxHeartbeats 4000000 in
theorem hmt_all : ∀ i, i < 420 → mthC2 i = true := by
  intro i h
  rcases Nat.lt_or_ge i 210 with a1 | a1
  ·
    rcases Nat.lt_or_ge i 105 with a2 | a2
    ·
      rcases Nat.lt_or_ge i 52 with a3 | a3
      ·
        rcases Nat.lt_or_ge i 26 with a4 | a4
        ·
          rcases Nat.lt_or_ge i 13 with a5 | a5
          ·
            rcases Nat.lt_or_ge i 6 with a6 | a6
            ·
              rcases Nat.lt_or_ge i 3 with a7 | a7
              ·
                rcases Nat.lt_or_ge i 1 with a8 | a8
                ·
                  have e : i = 0 := by omega
                  subst e
                  exact mh9_0
                ·
                  rcases Nat.lt_or_ge i 2 with a9 | a9
                  ·
                    have e : i = 1 := by omega
                    subst e
                    exact mh9_1
                  ·
                    have e : i = 2 := by omega
                    subst e
                    exact mh9_2
              ·
                rcases Nat.lt_or_ge i 4 with a8 | a8
                ·
                  have e : i = 3 := by omega
                  subst e
                  exact mh9_3
                ·
                  rcases Nat.lt_or_ge i 5 with a9 | a9
                  ·
                    have e : i = 4 := by omega
                    subst e
                    exact mh9_4
                  ·
                    have e : i = 5 := by omega
                    subst e
                    exact mh9_5
            ·
              rcases Nat.lt_or_ge i 9 with a7 | a7
              ·
                rcases Nat.lt_or_ge i 7 with a8 | a8
                ·
                  have e : i = 6 := by omega
                  subst e
                  exact mh9_6
                ·
                  rcases Nat.lt_or_ge i 8 with a9 | a9
                  ·
                    have e : i = 7 := by omega
                    subst e
                    exact mh9_7
                  ·
                    have e : i = 8 := by omega
                    subst e
                    exact mh9_8
              ·
                rcases Nat.lt_or_ge i 11 with a8 | a8
                ·
                  rcases Nat.lt_or_ge i 10 with a9 | a9
                  ·
                    have e : i = 9 := by omega
                    subst e
                    exact mh9_9
                  ·
                    have e : i = 10 := by omega
                    subst e
                    exact mh9_10
                ·
                  rcases Nat.lt_or_ge i 12 with a9 | a9
                  ·
                    have e : i = 11 := by omega
                    subst e
                    exact mh9_11
                  ·
                    have e : i = 12 := by omega
                    subst e
                    exact mh9_12
          ·
            rcases Nat.lt_or_ge i 19 with a6 | a6
            ·
              rcases Nat.lt_or_ge i 16 with a7 | a7
              ·
                rcases Nat.lt_or_ge i 14 with a8 | a8
                ·
                  have e : i = 13 := by omega
                  subst e
                  exact mh9_13
                ·
                  rcases Nat.lt_or_ge i 15 with a9 | a9
                  ·
                    have e : i = 14 := by omega
                    subst e
                    exact mh9_14
                  ·
                    have e : i = 15 := by omega
                    subst e
                    exact mh9_15
              ·
                rcases Nat.lt_or_ge i 17 with a8 | a8
                ·
                  have e : i = 16 := by omega
                  subst e
                  exact mh9_16
                ·
                  rcases Nat.lt_or_ge i 18 with a9 | a9
                  ·
                    have e : i = 17 := by omega
                    subst e
                    exact mh9_17
                  ·
                    have e : i = 18 := by omega
                    subst e
                    exact mh9_18
            ·
              rcases Nat.lt_or_ge i 22 with a7 | a7
              ·
                rcases Nat.lt_or_ge i 20 with a8 | a8
                ·
                  have e : i = 19 := by omega
                  subst e
                  exact mh9_19
                ·
                  rcases Nat.lt_or_ge i 21 with a9 | a9
                  ·
                    have e : i = 20 := by omega
                    subst e
                    exact mh9_20
                  ·
                    have e : i = 21 := by omega
                    subst e
                    exact mh9_21
              ·
                rcases Nat.lt_or_ge i 24 with a8 | a8
                ·
                  rcases Nat.lt_or_ge i 23 with a9 | a9
                  ·
                    have e : i = 22 := by omega
                    subst e
                    exact mh9_22
                  ·
                    have e : i = 23 := by omega
                    subst e
                    exact mh9_23
                ·
                  rcases Nat.lt_or_ge i 25 with a9 | a9
                  ·
                    have e : i = 24 := by omega
                    subst e
                    exact mh9_24
                  ·
                    have e : i = 25 := by omega
                    subst e
                    exact mh9_25
        ·
          rcases Nat.lt_or_ge i 39 with a5 | a5
          ·
            rcases Nat.lt_or_ge i 32 with a6 | a6
            ·
              rcases Nat.lt_or_ge i 29 with a7 | a7
              ·
                rcases Nat.lt_or_ge i 27 with a8 | a8
                ·
                  have e : i = 26 := by omega
                  subst e
                  exact mh9_26
                ·
                  rcases Nat.lt_or_ge i 28 with a9 | a9
                  ·
                    have e : i = 27 := by omega
                    subst e
                    exact mh9_27
                  ·
                    have e : i = 28 := by omega
                    subst e
                    exact mh9_28
              ·
                rcases Nat.lt_or_ge i 30 with a8 | a8
                ·
                  have e : i = 29 := by omega
                  subst e
                  exact mh9_29
                ·
                  rcases Nat.lt_or_ge i 31 with a9 | a9
                  ·
                    have e : i = 30 := by omega
                    subst e
                    exact mh9_30
                  ·
                    have e : i = 31 := by omega
                    subst e
                    exact mh9_31
            ·
              rcases Nat.lt_or_ge i 35 with a7 | a7
              ·
                rcases Nat.lt_or_ge i 33 with a8 | a8
                ·
                  have e : i = 32 := by omega
                  subst e
                  exact mh9_32
                ·
                  rcases Nat.lt_or_ge i 34 with a9 | a9
                  ·
                    have e : i = 33 := by omega
                    subst e
                    exact mh9_33
                  ·
                    have e : i = 34 := by omega
                    subst e
                    exact mh9_34
              ·
                rcases Nat.lt_or_ge i 37 with a8 | a8
                ·
                  rcases Nat.lt_or_ge i 36 with a9 | a9
                  ·
                    have e : i = 35 := by omega
                    subst e
                    exact mh9_35
                  ·
                    have e : i = 36 := by omega
                    subst e
                    exact mh9_36
                ·
                  rcases Nat.lt_or_ge i 38 with a9 | a9
                  ·
                    have e : i = 37 := by omega
                    subst e
                    exact mh9_37
                  ·
                    have e : i = 38 := by omega
                    subst e
                    exact mh9_38
          ·
            rcases Nat.lt_or_ge i 45 with a6 | a6
            ·
              rcases Nat.lt_or_ge i 42 with a7 | a7
              ·
                rcases Nat.lt_or_ge i 40 with a8 | a8
                ·
                  have e : i = 39 := by omega
                  subst e
                  exact mh9_39
                ·
                  rcases Nat.lt_or_ge i 41 with a9 | a9
                  ·
                    have e : i = 40 := by omega
                    subst e
                    exact mh9_40
                  ·
                    have e : i = 41 := by omega
                    subst e
                    exact mh9_41
              ·
                rcases Nat.lt_or_ge i 43 with a8 | a8
                ·
                  have e : i = 42 := by omega
                  subst e
                  exact mh9_42
                ·
                  rcases Nat.lt_or_ge i 44 with a9 | a9
                  ·
                    have e : i = 43 := by omega
                    subst e
                    exact mh9_43
                  ·
                    have e : i = 44 := by omega
                    subst e
                    exact mh9_44
            ·
              rcases Nat.lt_or_ge i 48 with a7 | a7
              ·
                rcases Nat.lt_or_ge i 46 with a8 | a8
                ·
                  have e : i = 45 := by omega
                  subst e
                  exact mh9_45
                ·
                  rcases Nat.lt_or_ge i 47 with a9 | a9
                  ·
                    have e : i = 46 := by omega
                    subst e
                    exact mh9_46
                  ·
                    have e : i = 47 := by omega
                    subst e
                    exact mh9_47
              ·
                rcases Nat.lt_or_ge i 50 with a8 | a8
                ·
                  rcases Nat.lt_or_ge i 49 with a9 | a9
                  ·
                    have e : i = 48 := by omega
                    subst e
                    exact mh9_48
                  ·
                    have e : i = 49 := by omega
                    subst e
                    exact mh9_49
                ·
                  rcases Nat.lt_or_ge i 51 with a9 | a9
                  ·
                    have e : i = 50 := by omega
                    subst e
                    exact mh9_50
                  ·
                    have e : i = 51 := by omega
                    subst e
                    exact mh9_51
      ·
        rcases Nat.lt_or_ge i 78 with a4 | a4
        ·
          rcases Nat.lt_or_ge i 65 with a5 | a5
          ·
            rcases Nat.lt_or_ge i 58 with a6 | a6
            ·
              rcases Nat.lt_or_ge i 55 with a7 | a7
              ·
                rcases Nat.lt_or_ge i 53 with a8 | a8
                ·
                  have e : i = 52 := by omega
                  subst e
                  exact mh9_52
                ·
                  rcases Nat.lt_or_ge i 54 with a9 | a9
                  ·
                    have e : i = 53 := by omega
                    subst e
                    exact mh9_53
                  ·
                    have e : i = 54 := by omega
                    subst e
                    exact mh9_54
              ·
                rcases Nat.lt_or_ge i 56 with a8 | a8
                ·
                  have e : i = 55 := by omega
                  subst e
                  exact mh9_55
                ·
                  rcases Nat.lt_or_ge i 57 with a9 | a9
                  ·
                    have e : i = 56 := by omega
                    subst e
                    exact mh9_56
                  ·
                    have e : i = 57 := by omega
                    subst e
                    exact mh9_57
            ·
              rcases Nat.lt_or_ge i 61 with a7 | a7
              ·
                rcases Nat.lt_or_ge i 59 with a8 | a8
                ·
                  have e : i = 58 := by omega
                  subst e
                  exact mh9_58
                ·
                  rcases Nat.lt_or_ge i 60 with a9 | a9
                  ·
                    have e : i = 59 := by omega
                    subst e
                    exact mh9_59
                  ·
                    have e : i = 60 := by omega
                    subst e
                    exact mh9_60
              ·
                rcases Nat.lt_or_ge i 63 with a8 | a8
                ·
                  rcases Nat.lt_or_ge i 62 with a9 | a9
                  ·
                    have e : i = 61 := by omega
                    subst e
                    exact mh9_61
                  ·
                    have e : i = 62 := by omega
                    subst e
                    exact mh9_62
                ·
                  rcases Nat.lt_or_ge i 64 with a9 | a9
                  ·
                    have e : i = 63 := by omega
                    subst e
                    exact mh9_63
                  ·
                    have e : i = 64 := by omega
                    subst e
                    exact mh9_64
          ·
            rcases Nat.lt_or_ge i 71 with a6 | a6
            ·
              rcases Nat.lt_or_ge i 68 with a7 | a7
              ·
                rcases Nat.lt_or_ge i 66 with a8 | a8
                ·
                  have e : i = 65 := by omega
                  subst e
                  exact mh9_65
                ·
                  rcases Nat.lt_or_ge i 67 with a9 | a9
                  ·
                    have e : i = 66 := by omega
                    subst e
                    exact mh9_66
                  ·
                    have e : i = 67 := by omega
                    subst e
                    exact mh9_67
              ·
                rcases Nat.lt_or_ge i 69 with a8 | a8
                ·
                  have e : i = 68 := by omega
                  subst e
                  exact mh9_68
                ·
                  rcases Nat.lt_or_ge i 70 with a9 | a9
                  ·
                    have e : i = 69 := by omega
                    subst e
                    exact mh9_69
                  ·
                    have e : i = 70 := by omega
                    subst e
                    exact mh9_70
            ·
              rcases Nat.lt_or_ge i 74 with a7 | a7
              ·
                rcases Nat.lt_or_ge i 72 with a8 | a8
                ·
                  have e : i = 71 := by omega
                  subst e
                  exact mh9_71
                ·
                  rcases Nat.lt_or_ge i 73 with a9 | a9
                  ·
                    have e : i = 72 := by omega
                    subst e
                    exact mh9_72
                  ·
                    have e : i = 73 := by omega
                    subst e
                    exact mh9_73
              ·
                rcases Nat.lt_or_ge i 76 with a8 | a8
                ·
                  rcases Nat.lt_or_ge i 75 with a9 | a9
                  ·
                    have e : i = 74 := by omega
                    subst e
                    exact mh9_74
                  ·
                    have e : i = 75 := by omega
                    subst e
                    exact mh9_75
                ·
                  rcases Nat.lt_or_ge i 77 with a9 | a9
                  ·
                    have e : i = 76 := by omega
                    subst e
                    exact mh9_76
                  ·
                    have e : i = 77 := by omega
                    subst e
                    exact mh9_77
        ·
          rcases Nat.lt_or_ge i 91 with a5 | a5
          ·
            rcases Nat.lt_or_ge i 84 with a6 | a6
            ·
              rcases Nat.lt_or_ge i 81 with a7 | a7
              ·
                rcases Nat.lt_or_ge i 79 with a8 | a8
                ·
                  have e : i = 78 := by omega
                  subst e
                  exact mh9_78
                ·
                  rcases Nat.lt_or_ge i 80 with a9 | a9
                  ·
                    have e : i = 79 := by omega
                    subst e
                    exact mh9_79
                  ·
                    have e : i = 80 := by omega
                    subst e
                    exact mh9_80
              ·
                rcases Nat.lt_or_ge i 82 with a8 | a8
                ·
                  have e : i = 81 := by omega
                  subst e
                  exact mh9_81
                ·
                  rcases Nat.lt_or_ge i 83 with a9 | a9
                  ·
                    have e : i = 82 := by omega
                    subst e
                    exact mh9_82
                  ·
                    have e : i = 83 := by omega
                    subst e
                    exact mh9_83
            ·
              rcases Nat.lt_or_ge i 87 with a7 | a7
              ·
                rcases Nat.lt_or_ge i 85 with a8 | a8
                ·
                  have e : i = 84 := by omega
                  subst e
                  exact mh9_84
                ·
                  rcases Nat.lt_or_ge i 86 with a9 | a9
                  ·
                    have e : i = 85 := by omega
                    subst e
                    exact mh9_85
                  ·
                    have e : i = 86 := by omega
                    subst e
                    exact mh9_86
              ·
                rcases Nat.lt_or_ge i 89 with a8 | a8
                ·
                  rcases Nat.lt_or_ge i 88 with a9 | a9
                  ·
                    have e : i = 87 := by omega
                    subst e
                    exact mh9_87
                  ·
                    have e : i = 88 := by omega
                    subst e
                    exact mh9_88
                ·
                  rcases Nat.lt_or_ge i 90 with a9 | a9
                  ·
                    have e : i = 89 := by omega
                    subst e
                    exact mh9_89
                  ·
                    have e : i = 90 := by omega
                    subst e
                    exact mh9_90
          ·
            rcases Nat.lt_or_ge i 98 with a6 | a6
            ·
              rcases Nat.lt_or_ge i 94 with a7 | a7
              ·
                rcases Nat.lt_or_ge i 92 with a8 | a8
                ·
                  have e : i = 91 := by omega
                  subst e
                  exact mh9_91
                ·
                  rcases Nat.lt_or_ge i 93 with a9 | a9
                  ·
                    have e : i = 92 := by omega
                    subst e
                    exact mh9_92
                  ·
                    have e : i = 93 := by omega
                    subst e
                    exact mh9_93
              ·
                rcases Nat.lt_or_ge i 96 with a8 | a8
                ·
                  rcases Nat.lt_or_ge i 95 with a9 | a9
                  ·
                    have e : i = 94 := by omega
                    subst e
                    exact mh9_94
                  ·
                    have e : i = 95 := by omega
                    subst e
                    exact mh9_95
                ·
                  rcases Nat.lt_or_ge i 97 with a9 | a9
                  ·
                    have e : i = 96 := by omega
                    subst e
                    exact mh9_96
                  ·
                    have e : i = 97 := by omega
                    subst e
                    exact mh9_97
            ·
              rcases Nat.lt_or_ge i 101 with a7 | a7
              ·
                rcases Nat.lt_or_ge i 99 with a8 | a8
                ·
                  have e : i = 98 := by omega
                  subst e
                  exact mh9_98
                ·
                  rcases Nat.lt_or_ge i 100 with a9 | a9
                  ·
                    have e : i = 99 := by omega
                    subst e
                    exact mh9_99
                  ·
                    have e : i = 100 := by omega
                    subst e
                    exact mh9_100
              ·
                rcases Nat.lt_or_ge i 103 with a8 | a8
                ·
                  rcases Nat.lt_or_ge i 102 with a9 | a9
                  ·
                    have e : i = 101 := by omega
                    subst e
                    exact mh9_101
                  ·
                    have e : i = 102 := by omega
                    subst e
                    exact mh9_102
                ·
                  rcases Nat.lt_or_ge i 104 with a9 | a9
                  ·
                    have e : i = 103 := by omega
                    subst e
                    exact mh9_103
                  ·
                    have e : i = 104 := by omega
                    subst e
                    exact mh9_104
    ·
      rcases Nat.lt_or_ge i 157 with a3 | a3
      ·
        rcases Nat.lt_or_ge i 131 with a4 | a4
        ·
          rcases Nat.lt_or_ge i 118 with a5 | a5
          ·
            rcases Nat.lt_or_ge i 111 with a6 | a6
            ·
              rcases Nat.lt_or_ge i 108 with a7 | a7
              ·
                rcases Nat.lt_or_ge i 106 with a8 | a8
                ·
                  have e : i = 105 := by omega
                  subst e
                  exact mh9_105
                ·
                  rcases Nat.lt_or_ge i 107 with a9 | a9
                  ·
                    have e : i = 106 := by omega
                    subst e
                    exact mh9_106
                  ·
                    have e : i = 107 := by omega
                    subst e
                    exact mh9_107
              ·
                rcases Nat.lt_or_ge i 109 with a8 | a8
                ·
                  have e : i = 108 := by omega
                  subst e
                  exact mh9_108
                ·
                  rcases Nat.lt_or_ge i 110 with a9 | a9
                  ·
                    have e : i = 109 := by omega
                    subst e
                    exact mh9_109
                  ·
                    have e : i = 110 := by omega
                    subst e
                    exact mh9_110
            ·
              rcases Nat.lt_or_ge i 114 with a7 | a7
              ·
                rcases Nat.lt_or_ge i 112 with a8 | a8
                ·
                  have e : i = 111 := by omega
                  subst e
                  exact mh9_111
                ·
                  rcases Nat.lt_or_ge i 113 with a9 | a9
                  ·
                    have e : i = 112 := by omega
                    subst e
                    exact mh9_112
                  ·
                    have e : i = 113 := by omega
                    subst e
                    exact mh9_113
              ·
                rcases Nat.lt_or_ge i 116 with a8 | a8
                ·
                  rcases Nat.lt_or_ge i 115 with a9 | a9
                  ·
                    have e : i = 114 := by omega
                    subst e
                    exact mh9_114
                  ·
                    have e : i = 115 := by omega
                    subst e
                    exact mh9_115
                ·
                  rcases Nat.lt_or_ge i 117 with a9 | a9
                  ·
                    have e : i = 116 := by omega
                    subst e
                    exact mh9_116
                  ·
                    have e : i = 117 := by omega
                    subst e
                    exact mh9_117
          ·
            rcases Nat.lt_or_ge i 124 with a6 | a6
            ·
              rcases Nat.lt_or_ge i 121 with a7 | a7
              ·
                rcases Nat.lt_or_ge i 119 with a8 | a8
                ·
                  have e : i = 118 := by omega
                  subst e
                  exact mh9_118
                ·
                  rcases Nat.lt_or_ge i 120 with a9 | a9
                  ·
                    have e : i = 119 := by omega
                    subst e
                    exact mh9_119
                  ·
                    have e : i = 120 := by omega
                    subst e
                    exact mh9_120
              ·
                rcases Nat.lt_or_ge i 122 with a8 | a8
                ·
                  have e : i = 121 := by omega
                  subst e
                  exact mh9_121
                ·
                  rcases Nat.lt_or_ge i 123 with a9 | a9
                  ·
                    have e : i = 122 := by omega
                    subst e
                    exact mh9_122
                  ·
                    have e : i = 123 := by omega
                    subst e
                    exact mh9_123
            ·
              rcases Nat.lt_or_ge i 127 with a7 | a7
              ·
                rcases Nat.lt_or_ge i 125 with a8 | a8
                ·
                  have e : i = 124 := by omega
                  subst e
                  exact mh9_124
                ·
                  rcases Nat.lt_or_ge i 126 with a9 | a9
                  ·
                    have e : i = 125 := by omega
                    subst e
                    exact mh9_125
                  ·
                    have e : i = 126 := by omega
                    subst e
                    exact mh9_126
              ·
                rcases Nat.lt_or_ge i 129 with a8 | a8
                ·
                  rcases Nat.lt_or_ge i 128 with a9 | a9
                  ·
                    have e : i = 127 := by omega
                    subst e
                    exact mh9_127
                  ·
                    have e : i = 128 := by omega
                    subst e
                    exact mh9_128
                ·
                  rcases Nat.lt_or_ge i 130 with a9 | a9
                  ·
                    have e : i = 129 := by omega
                    subst e
                    exact mh9_129
                  ·
                    have e : i = 130 := by omega
                    subst e
                    exact mh9_130
        ·
          rcases Nat.lt_or_ge i 144 with a5 | a5
          ·
            rcases Nat.lt_or_ge i 137 with a6 | a6
            ·
              rcases Nat.lt_or_ge i 134 with a7 | a7
              ·
                rcases Nat.lt_or_ge i 132 with a8 | a8
                ·
                  have e : i = 131 := by omega
                  subst e
                  exact mh9_131
                ·
                  rcases Nat.lt_or_ge i 133 with a9 | a9
                  ·
                    have e : i = 132 := by omega
                    subst e
                    exact mh9_132
                  ·
                    have e : i = 133 := by omega
                    subst e
                    exact mh9_133
              ·
                rcases Nat.lt_or_ge i 135 with a8 | a8
                ·
                  have e : i = 134 := by omega
                  subst e
                  exact mh9_134
                ·
                  rcases Nat.lt_or_ge i 136 with a9 | a9
                  ·
                    have e : i = 135 := by omega
                    subst e
                    exact mh9_135
                  ·
                    have e : i = 136 := by omega
                    subst e
                    exact mh9_136
            ·
              rcases Nat.lt_or_ge i 140 with a7 | a7
              ·
                rcases Nat.lt_or_ge i 138 with a8 | a8
                ·
                  have e : i = 137 := by omega
                  subst e
                  exact mh9_137
                ·
                  rcases Nat.lt_or_ge i 139 with a9 | a9
                  ·
                    have e : i = 138 := by omega
                    subst e
                    exact mh9_138
                  ·
                    have e : i = 139 := by omega
                    subst e
                    exact mh9_139
              ·
                rcases Nat.lt_or_ge i 142 with a8 | a8
                ·
                  rcases Nat.lt_or_ge i 141 with a9 | a9
                  ·
                    have e : i = 140 := by omega
                    subst e
                    exact mh9_140
                  ·
                    have e : i = 141 := by omega
                    subst e
                    exact mh9_141
                ·
                  rcases Nat.lt_or_ge i 143 with a9 | a9
                  ·
                    have e : i = 142 := by omega
                    subst e
                    exact mh9_142
                  ·
                    have e : i = 143 := by omega
                    subst e
                    exact mh9_143
          ·
            rcases Nat.lt_or_ge i 150 with a6 | a6
            ·
              rcases Nat.lt_or_ge i 147 with a7 | a7
              ·
                rcases Nat.lt_or_ge i 145 with a8 | a8
                ·
                  have e : i = 144 := by omega
                  subst e
                  exact mh9_144
                ·
                  rcases Nat.lt_or_ge i 146 with a9 | a9
                  ·
                    have e : i = 145 := by omega
                    subst e
                    exact mh9_145
                  ·
                    have e : i = 146 := by omega
                    subst e
                    exact mh9_146
              ·
                rcases Nat.lt_or_ge i 148 with a8 | a8
                ·
                  have e : i = 147 := by omega
                  subst e
                  exact mh9_147
                ·
                  rcases Nat.lt_or_ge i 149 with a9 | a9
                  ·
                    have e : i = 148 := by omega
                    subst e
                    exact mh9_148
                  ·
                    have e : i = 149 := by omega
                    subst e
                    exact mh9_149
            ·
              rcases Nat.lt_or_ge i 153 with a7 | a7
              ·
                rcases Nat.lt_or_ge i 151 with a8 | a8
                ·
                  have e : i = 150 := by omega
                  subst e
                  exact mh9_150
                ·
                  rcases Nat.lt_or_ge i 152 with a9 | a9
                  ·
                    have e : i = 151 := by omega
                    subst e
                    exact mh9_151
                  ·
                    have e : i = 152 := by omega
                    subst e
                    exact mh9_152
              ·
                rcases Nat.lt_or_ge i 155 with a8 | a8
                ·
                  rcases Nat.lt_or_ge i 154 with a9 | a9
                  ·
                    have e : i = 153 := by omega
                    subst e
                    exact mh9_153
                  ·
                    have e : i = 154 := by omega
                    subst e
                    exact mh9_154
                ·
                  rcases Nat.lt_or_ge i 156 with a9 | a9
                  ·
                    have e : i = 155 := by omega
                    subst e
                    exact mh9_155
                  ·
                    have e : i = 156 := by omega
                    subst e
                    exact mh9_156
      ·
        rcases Nat.lt_or_ge i 183 with a4 | a4
        ·
          rcases Nat.lt_or_ge i 170 with a5 | a5
          ·
            rcases Nat.lt_or_ge i 163 with a6 | a6
            ·
              rcases Nat.lt_or_ge i 160 with a7 | a7
              ·
                rcases Nat.lt_or_ge i 158 with a8 | a8
                ·
                  have e : i = 157 := by omega
                  subst e
                  exact mh9_157
                ·
                  rcases Nat.lt_or_ge i 159 with a9 | a9
                  ·
                    have e : i = 158 := by omega
                    subst e
                    exact mh9_158
                  ·
                    have e : i = 159 := by omega
                    subst e
                    exact mh9_159
              ·
                rcases Nat.lt_or_ge i 161 with a8 | a8
                ·
                  have e : i = 160 := by omega
                  subst e
                  exact mh9_160
                ·
                  rcases Nat.lt_or_ge i 162 with a9 | a9
                  ·
                    have e : i = 161 := by omega
                    subst e
                    exact mh9_161
                  ·
                    have e : i = 162 := by omega
                    subst e
                    exact mh9_162
            ·
              rcases Nat.lt_or_ge i 166 with a7 | a7
              ·
                rcases Nat.lt_or_ge i 164 with a8 | a8
                ·
                  have e : i = 163 := by omega
                  subst e
                  exact mh9_163
                ·
                  rcases Nat.lt_or_ge i 165 with a9 | a9
                  ·
                    have e : i = 164 := by omega
                    subst e
                    exact mh9_164
                  ·
                    have e : i = 165 := by omega
                    subst e
                    exact mh9_165
              ·
                rcases Nat.lt_or_ge i 168 with a8 | a8
                ·
                  rcases Nat.lt_or_ge i 167 with a9 | a9
                  ·
                    have e : i = 166 := by omega
                    subst e
                    exact mh9_166
                  ·
                    have e : i = 167 := by omega
                    subst e
                    exact mh9_167
                ·
                  rcases Nat.lt_or_ge i 169 with a9 | a9
                  ·
                    have e : i = 168 := by omega
                    subst e
                    exact mh9_168
                  ·
                    have e : i = 169 := by omega
                    subst e
                    exact mh9_169
          ·
            rcases Nat.lt_or_ge i 176 with a6 | a6
            ·
              rcases Nat.lt_or_ge i 173 with a7 | a7
              ·
                rcases Nat.lt_or_ge i 171 with a8 | a8
                ·
                  have e : i = 170 := by omega
                  subst e
                  exact mh9_170
                ·
                  rcases Nat.lt_or_ge i 172 with a9 | a9
                  ·
                    have e : i = 171 := by omega
                    subst e
                    exact mh9_171
                  ·
                    have e : i = 172 := by omega
                    subst e
                    exact mh9_172
              ·
                rcases Nat.lt_or_ge i 174 with a8 | a8
                ·
                  have e : i = 173 := by omega
                  subst e
                  exact mh9_173
                ·
                  rcases Nat.lt_or_ge i 175 with a9 | a9
                  ·
                    have e : i = 174 := by omega
                    subst e
                    exact mh9_174
                  ·
                    have e : i = 175 := by omega
                    subst e
                    exact mh9_175
            ·
              rcases Nat.lt_or_ge i 179 with a7 | a7
              ·
                rcases Nat.lt_or_ge i 177 with a8 | a8
                ·
                  have e : i = 176 := by omega
                  subst e
                  exact mh9_176
                ·
                  rcases Nat.lt_or_ge i 178 with a9 | a9
                  ·
                    have e : i = 177 := by omega
                    subst e
                    exact mh9_177
                  ·
                    have e : i = 178 := by omega
                    subst e
                    exact mh9_178
              ·
                rcases Nat.lt_or_ge i 181 with a8 | a8
                ·
                  rcases Nat.lt_or_ge i 180 with a9 | a9
                  ·
                    have e : i = 179 := by omega
                    subst e
                    exact mh9_179
                  ·
                    have e : i = 180 := by omega
                    subst e
                    exact mh9_180
                ·
                  rcases Nat.lt_or_ge i 182 with a9 | a9
                  ·
                    have e : i = 181 := by omega
                    subst e
                    exact mh9_181
                  ·
                    have e : i = 182 := by omega
                    subst e
                    exact mh9_182
        ·
          rcases Nat.lt_or_ge i 196 with a5 | a5
          ·
            rcases Nat.lt_or_ge i 189 with a6 | a6
            ·
              rcases Nat.lt_or_ge i 186 with a7 | a7
              ·
                rcases Nat.lt_or_ge i 184 with a8 | a8
                ·
                  have e : i = 183 := by omega
                  subst e
                  exact mh9_183
                ·
                  rcases Nat.lt_or_ge i 185 with a9 | a9
                  ·
                    have e : i = 184 := by omega
                    subst e
                    exact mh9_184
                  ·
                    have e : i = 185 := by omega
                    subst e
                    exact mh9_185
              ·
                rcases Nat.lt_or_ge i 187 with a8 | a8
                ·
                  have e : i = 186 := by omega
                  subst e
                  exact mh9_186
                ·
                  rcases Nat.lt_or_ge i 188 with a9 | a9
                  ·
                    have e : i = 187 := by omega
                    subst e
                    exact mh9_187
                  ·
                    have e : i = 188 := by omega
                    subst e
                    exact mh9_188
            ·
              rcases Nat.lt_or_ge i 192 with a7 | a7
              ·
                rcases Nat.lt_or_ge i 190 with a8 | a8
                ·
                  have e : i = 189 := by omega
                  subst e
                  exact mh9_189
                ·
                  rcases Nat.lt_or_ge i 191 with a9 | a9
                  ·
                    have e : i = 190 := by omega
                    subst e
                    exact mh9_190
                  ·
                    have e : i = 191 := by omega
                    subst e
                    exact mh9_191
              ·
                rcases Nat.lt_or_ge i 194 with a8 | a8
                ·
                  rcases Nat.lt_or_ge i 193 with a9 | a9
                  ·
                    have e : i = 192 := by omega
                    subst e
                    exact mh9_192
                  ·
                    have e : i = 193 := by omega
                    subst e
                    exact mh9_193
                ·
                  rcases Nat.lt_or_ge i 195 with a9 | a9
                  ·
                    have e : i = 194 := by omega
                    subst e
                    exact mh9_194
                  ·
                    have e : i = 195 := by omega
                    subst e
                    exact mh9_195
          ·
            rcases Nat.lt_or_ge i 203 with a6 | a6
            ·
              rcases Nat.lt_or_ge i 199 with a7 | a7
              ·
                rcases Nat.lt_or_ge i 197 with a8 | a8
                ·
                  have e : i = 196 := by omega
                  subst e
                  exact mh9_196
                ·
                  rcases Nat.lt_or_ge i 198 with a9 | a9
                  ·
                    have e : i = 197 := by omega
                    subst e
                    exact mh9_197
                  ·
                    have e : i = 198 := by omega
                    subst e
                    exact mh9_198
              ·
                rcases Nat.lt_or_ge i 201 with a8 | a8
                ·
                  rcases Nat.lt_or_ge i 200 with a9 | a9
                  ·
                    have e : i = 199 := by omega
                    subst e
                    exact mh9_199
                  ·
                    have e : i = 200 := by omega
                    subst e
                    exact mh9_200
                ·
                  rcases Nat.lt_or_ge i 202 with a9 | a9
                  ·
                    have e : i = 201 := by omega
                    subst e
                    exact mh9_201
                  ·
                    have e : i = 202 := by omega
                    subst e
                    exact mh9_202
            ·
              rcases Nat.lt_or_ge i 206 with a7 | a7
              ·
                rcases Nat.lt_or_ge i 204 with a8 | a8
                ·
                  have e : i = 203 := by omega
                  subst e
                  exact mh9_203
                ·
                  rcases Nat.lt_or_ge i 205 with a9 | a9
                  ·
                    have e : i = 204 := by omega
                    subst e
                    exact mh9_204
                  ·
                    have e : i = 205 := by omega
                    subst e
                    exact mh9_205
              ·
                rcases Nat.lt_or_ge i 208 with a8 | a8
                ·
                  rcases Nat.lt_or_ge i 207 with a9 | a9
                  ·
                    have e : i = 206 := by omega
                    subst e
                    exact mh9_206
                  ·
                    have e : i = 207 := by omega
                    subst e
                    exact mh9_207
                ·
                  rcases Nat.lt_or_ge i 209 with a9 | a9
                  ·
                    have e : i = 208 := by omega
                    subst e
                    exact mh9_208
                  ·
                    have e : i = 209 := by omega
                    subst e
                    exact mh9_209
  ·
    rcases Nat.lt_or_ge i 315 with a2 | a2
    ·
      rcases Nat.lt_or_ge i 262 with a3 | a3
      ·
        rcases Nat.lt_or_ge i 236 with a4 | a4
        ·
          rcases Nat.lt_or_ge i 223 with a5 | a5
          ·
            rcases Nat.lt_or_ge i 216 with a6 | a6
            ·
              rcases Nat.lt_or_ge i 213 with a7 | a7
              ·
                rcases Nat.lt_or_ge i 211 with a8 | a8
                ·
                  have e : i = 210 := by omega
                  subst e
                  exact mh9_210
                ·
                  rcases Nat.lt_or_ge i 212 with a9 | a9
                  ·
                    have e : i = 211 := by omega
                    subst e
                    exact mh9_211
                  ·
                    have e : i = 212 := by omega
                    subst e
                    exact mh9_212
              ·
                rcases Nat.lt_or_ge i 214 with a8 | a8
                ·
                  have e : i = 213 := by omega
                  subst e
                  exact mh9_213
                ·
                  rcases Nat.lt_or_ge i 215 with a9 | a9
                  ·
                    have e : i = 214 := by omega
                    subst e
                    exact mh9_214
                  ·
                    have e : i = 215 := by omega
                    subst e
                    exact mh9_215
            ·
              rcases Nat.lt_or_ge i 219 with a7 | a7
              ·
                rcases Nat.lt_or_ge i 217 with a8 | a8
                ·
                  have e : i = 216 := by omega
                  subst e
                  exact mh9_216
                ·
                  rcases Nat.lt_or_ge i 218 with a9 | a9
                  ·
                    have e : i = 217 := by omega
                    subst e
                    exact mh9_217
                  ·
                    have e : i = 218 := by omega
                    subst e
                    exact mh9_218
              ·
                rcases Nat.lt_or_ge i 221 with a8 | a8
                ·
                  rcases Nat.lt_or_ge i 220 with a9 | a9
                  ·
                    have e : i = 219 := by omega
                    subst e
                    exact mh9_219
                  ·
                    have e : i = 220 := by omega
                    subst e
                    exact mh9_220
                ·
                  rcases Nat.lt_or_ge i 222 with a9 | a9
                  ·
                    have e : i = 221 := by omega
                    subst e
                    exact mh9_221
                  ·
                    have e : i = 222 := by omega
                    subst e
                    exact mh9_222
          ·
            rcases Nat.lt_or_ge i 229 with a6 | a6
            ·
              rcases Nat.lt_or_ge i 226 with a7 | a7
              ·
                rcases Nat.lt_or_ge i 224 with a8 | a8
                ·
                  have e : i = 223 := by omega
                  subst e
                  exact mh9_223
                ·
                  rcases Nat.lt_or_ge i 225 with a9 | a9
                  ·
                    have e : i = 224 := by omega
                    subst e
                    exact mh9_224
                  ·
                    have e : i = 225 := by omega
                    subst e
                    exact mh9_225
              ·
                rcases Nat.lt_or_ge i 227 with a8 | a8
                ·
                  have e : i = 226 := by omega
                  subst e
                  exact mh9_226
                ·
                  rcases Nat.lt_or_ge i 228 with a9 | a9
                  ·
                    have e : i = 227 := by omega
                    subst e
                    exact mh9_227
                  ·
                    have e : i = 228 := by omega
                    subst e
                    exact mh9_228
            ·
              rcases Nat.lt_or_ge i 232 with a7 | a7
              ·
                rcases Nat.lt_or_ge i 230 with a8 | a8
                ·
                  have e : i = 229 := by omega
                  subst e
                  exact mh9_229
                ·
                  rcases Nat.lt_or_ge i 231 with a9 | a9
                  ·
                    have e : i = 230 := by omega
                    subst e
                    exact mh9_230
                  ·
                    have e : i = 231 := by omega
                    subst e
                    exact mh9_231
              ·
                rcases Nat.lt_or_ge i 234 with a8 | a8
                ·
                  rcases Nat.lt_or_ge i 233 with a9 | a9
                  ·
                    have e : i = 232 := by omega
                    subst e
                    exact mh9_232
                  ·
                    have e : i = 233 := by omega
                    subst e
                    exact mh9_233
                ·
                  rcases Nat.lt_or_ge i 235 with a9 | a9
                  ·
                    have e : i = 234 := by omega
                    subst e
                    exact mh9_234
                  ·
                    have e : i = 235 := by omega
                    subst e
                    exact mh9_235
        ·
          rcases Nat.lt_or_ge i 249 with a5 | a5
          ·
            rcases Nat.lt_or_ge i 242 with a6 | a6
            ·
              rcases Nat.lt_or_ge i 239 with a7 | a7
              ·
                rcases Nat.lt_or_ge i 237 with a8 | a8
                ·
                  have e : i = 236 := by omega
                  subst e
                  exact mh9_236
                ·
                  rcases Nat.lt_or_ge i 238 with a9 | a9
                  ·
                    have e : i = 237 := by omega
                    subst e
                    exact mh9_237
                  ·
                    have e : i = 238 := by omega
                    subst e
                    exact mh9_238
              ·
                rcases Nat.lt_or_ge i 240 with a8 | a8
                ·
                  have e : i = 239 := by omega
                  subst e
                  exact mh9_239
                ·
                  rcases Nat.lt_or_ge i 241 with a9 | a9
                  ·
                    have e : i = 240 := by omega
                    subst e
                    exact mh9_240
                  ·
                    have e : i = 241 := by omega
                    subst e
                    exact mh9_241
            ·
              rcases Nat.lt_or_ge i 245 with a7 | a7
              ·
                rcases Nat.lt_or_ge i 243 with a8 | a8
                ·
                  have e : i = 242 := by omega
                  subst e
                  exact mh9_242
                ·
                  rcases Nat.lt_or_ge i 244 with a9 | a9
                  ·
                    have e : i = 243 := by omega
                    subst e
                    exact mh9_243
                  ·
                    have e : i = 244 := by omega
                    subst e
                    exact mh9_244
              ·
                rcases Nat.lt_or_ge i 247 with a8 | a8
                ·
                  rcases Nat.lt_or_ge i 246 with a9 | a9
                  ·
                    have e : i = 245 := by omega
                    subst e
                    exact mh9_245
                  ·
                    have e : i = 246 := by omega
                    subst e
                    exact mh9_246
                ·
                  rcases Nat.lt_or_ge i 248 with a9 | a9
                  ·
                    have e : i = 247 := by omega
                    subst e
                    exact mh9_247
                  ·
                    have e : i = 248 := by omega
                    subst e
                    exact mh9_248
          ·
            rcases Nat.lt_or_ge i 255 with a6 | a6
            ·
              rcases Nat.lt_or_ge i 252 with a7 | a7
              ·
                rcases Nat.lt_or_ge i 250 with a8 | a8
                ·
                  have e : i = 249 := by omega
                  subst e
                  exact mh9_249
                ·
                  rcases Nat.lt_or_ge i 251 with a9 | a9
                  ·
                    have e : i = 250 := by omega
                    subst e
                    exact mh9_250
                  ·
                    have e : i = 251 := by omega
                    subst e
                    exact mh9_251
              ·
                rcases Nat.lt_or_ge i 253 with a8 | a8
                ·
                  have e : i = 252 := by omega
                  subst e
                  exact mh9_252
                ·
                  rcases Nat.lt_or_ge i 254 with a9 | a9
                  ·
                    have e : i = 253 := by omega
                    subst e
                    exact mh9_253
                  ·
                    have e : i = 254 := by omega
                    subst e
                    exact mh9_254
            ·
              rcases Nat.lt_or_ge i 258 with a7 | a7
              ·
                rcases Nat.lt_or_ge i 256 with a8 | a8
                ·
                  have e : i = 255 := by omega
                  subst e
                  exact mh9_255
                ·
                  rcases Nat.lt_or_ge i 257 with a9 | a9
                  ·
                    have e : i = 256 := by omega
                    subst e
                    exact mh9_256
                  ·
                    have e : i = 257 := by omega
                    subst e
                    exact mh9_257
              ·
                rcases Nat.lt_or_ge i 260 with a8 | a8
                ·
                  rcases Nat.lt_or_ge i 259 with a9 | a9
                  ·
                    have e : i = 258 := by omega
                    subst e
                    exact mh9_258
                  ·
                    have e : i = 259 := by omega
                    subst e
                    exact mh9_259
                ·
                  rcases Nat.lt_or_ge i 261 with a9 | a9
                  ·
                    have e : i = 260 := by omega
                    subst e
                    exact mh9_260
                  ·
                    have e : i = 261 := by omega
                    subst e
                    exact mh9_261
      ·
        rcases Nat.lt_or_ge i 288 with a4 | a4
        ·
          rcases Nat.lt_or_ge i 275 with a5 | a5
          ·
            rcases Nat.lt_or_ge i 268 with a6 | a6
            ·
              rcases Nat.lt_or_ge i 265 with a7 | a7
              ·
                rcases Nat.lt_or_ge i 263 with a8 | a8
                ·
                  have e : i = 262 := by omega
                  subst e
                  exact mh9_262
                ·
                  rcases Nat.lt_or_ge i 264 with a9 | a9
                  ·
                    have e : i = 263 := by omega
                    subst e
                    exact mh9_263
                  ·
                    have e : i = 264 := by omega
                    subst e
                    exact mh9_264
              ·
                rcases Nat.lt_or_ge i 266 with a8 | a8
                ·
                  have e : i = 265 := by omega
                  subst e
                  exact mh9_265
                ·
                  rcases Nat.lt_or_ge i 267 with a9 | a9
                  ·
                    have e : i = 266 := by omega
                    subst e
                    exact mh9_266
                  ·
                    have e : i = 267 := by omega
                    subst e
                    exact mh9_267
            ·
              rcases Nat.lt_or_ge i 271 with a7 | a7
              ·
                rcases Nat.lt_or_ge i 269 with a8 | a8
                ·
                  have e : i = 268 := by omega
                  subst e
                  exact mh9_268
                ·
                  rcases Nat.lt_or_ge i 270 with a9 | a9
                  ·
                    have e : i = 269 := by omega
                    subst e
                    exact mh9_269
                  ·
                    have e : i = 270 := by omega
                    subst e
                    exact mh9_270
              ·
                rcases Nat.lt_or_ge i 273 with a8 | a8
                ·
                  rcases Nat.lt_or_ge i 272 with a9 | a9
                  ·
                    have e : i = 271 := by omega
                    subst e
                    exact mh9_271
                  ·
                    have e : i = 272 := by omega
                    subst e
                    exact mh9_272
                ·
                  rcases Nat.lt_or_ge i 274 with a9 | a9
                  ·
                    have e : i = 273 := by omega
                    subst e
                    exact mh9_273
                  ·
                    have e : i = 274 := by omega
                    subst e
                    exact mh9_274
          ·
            rcases Nat.lt_or_ge i 281 with a6 | a6
            ·
              rcases Nat.lt_or_ge i 278 with a7 | a7
              ·
                rcases Nat.lt_or_ge i 276 with a8 | a8
                ·
                  have e : i = 275 := by omega
                  subst e
                  exact mh9_275
                ·
                  rcases Nat.lt_or_ge i 277 with a9 | a9
                  ·
                    have e : i = 276 := by omega
                    subst e
                    exact mh9_276
                  ·
                    have e : i = 277 := by omega
                    subst e
                    exact mh9_277
              ·
                rcases Nat.lt_or_ge i 279 with a8 | a8
                ·
                  have e : i = 278 := by omega
                  subst e
                  exact mh9_278
                ·
                  rcases Nat.lt_or_ge i 280 with a9 | a9
                  ·
                    have e : i = 279 := by omega
                    subst e
                    exact mh9_279
                  ·
                    have e : i = 280 := by omega
                    subst e
                    exact mh9_280
            ·
              rcases Nat.lt_or_ge i 284 with a7 | a7
              ·
                rcases Nat.lt_or_ge i 282 with a8 | a8
                ·
                  have e : i = 281 := by omega
                  subst e
                  exact mh9_281
                ·
                  rcases Nat.lt_or_ge i 283 with a9 | a9
                  ·
                    have e : i = 282 := by omega
                    subst e
                    exact mh9_282
                  ·
                    have e : i = 283 := by omega
                    subst e
                    exact mh9_283
              ·
                rcases Nat.lt_or_ge i 286 with a8 | a8
                ·
                  rcases Nat.lt_or_ge i 285 with a9 | a9
                  ·
                    have e : i = 284 := by omega
                    subst e
                    exact mh9_284
                  ·
                    have e : i = 285 := by omega
                    subst e
                    exact mh9_285
                ·
                  rcases Nat.lt_or_ge i 287 with a9 | a9
                  ·
                    have e : i = 286 := by omega
                    subst e
                    exact mh9_286
                  ·
                    have e : i = 287 := by omega
                    subst e
                    exact mh9_287
        ·
          rcases Nat.lt_or_ge i 301 with a5 | a5
          ·
            rcases Nat.lt_or_ge i 294 with a6 | a6
            ·
              rcases Nat.lt_or_ge i 291 with a7 | a7
              ·
                rcases Nat.lt_or_ge i 289 with a8 | a8
                ·
                  have e : i = 288 := by omega
                  subst e
                  exact mh9_288
                ·
                  rcases Nat.lt_or_ge i 290 with a9 | a9
                  ·
                    have e : i = 289 := by omega
                    subst e
                    exact mh9_289
                  ·
                    have e : i = 290 := by omega
                    subst e
                    exact mh9_290
              ·
                rcases Nat.lt_or_ge i 292 with a8 | a8
                ·
                  have e : i = 291 := by omega
                  subst e
                  exact mh9_291
                ·
                  rcases Nat.lt_or_ge i 293 with a9 | a9
                  ·
                    have e : i = 292 := by omega
                    subst e
                    exact mh9_292
                  ·
                    have e : i = 293 := by omega
                    subst e
                    exact mh9_293
            ·
              rcases Nat.lt_or_ge i 297 with a7 | a7
              ·
                rcases Nat.lt_or_ge i 295 with a8 | a8
                ·
                  have e : i = 294 := by omega
                  subst e
                  exact mh9_294
                ·
                  rcases Nat.lt_or_ge i 296 with a9 | a9
                  ·
                    have e : i = 295 := by omega
                    subst e
                    exact mh9_295
                  ·
                    have e : i = 296 := by omega
                    subst e
                    exact mh9_296
              ·
                rcases Nat.lt_or_ge i 299 with a8 | a8
                ·
                  rcases Nat.lt_or_ge i 298 with a9 | a9
                  ·
                    have e : i = 297 := by omega
                    subst e
                    exact mh9_297
                  ·
                    have e : i = 298 := by omega
                    subst e
                    exact mh9_298
                ·
                  rcases Nat.lt_or_ge i 300 with a9 | a9
                  ·
                    have e : i = 299 := by omega
                    subst e
                    exact mh9_299
                  ·
                    have e : i = 300 := by omega
                    subst e
                    exact mh9_300
          ·
            rcases Nat.lt_or_ge i 308 with a6 | a6
            ·
              rcases Nat.lt_or_ge i 304 with a7 | a7
              ·
                rcases Nat.lt_or_ge i 302 with a8 | a8
                ·
                  have e : i = 301 := by omega
                  subst e
                  exact mh9_301
                ·
                  rcases Nat.lt_or_ge i 303 with a9 | a9
                  ·
                    have e : i = 302 := by omega
                    subst e
                    exact mh9_302
                  ·
                    have e : i = 303 := by omega
                    subst e
                    exact mh9_303
              ·
                rcases Nat.lt_or_ge i 306 with a8 | a8
                ·
                  rcases Nat.lt_or_ge i 305 with a9 | a9
                  ·
                    have e : i = 304 := by omega
                    subst e
                    exact mh9_304
                  ·
                    have e : i = 305 := by omega
                    subst e
                    exact mh9_305
                ·
                  rcases Nat.lt_or_ge i 307 with a9 | a9
                  ·
                    have e : i = 306 := by omega
                    subst e
                    exact mh9_306
                  ·
                    have e : i = 307 := by omega
                    subst e
                    exact mh9_307
            ·
              rcases Nat.lt_or_ge i 311 with a7 | a7
              ·
                rcases Nat.lt_or_ge i 309 with a8 | a8
                ·
                  have e : i = 308 := by omega
                  subst e
                  exact mh9_308
                ·
                  rcases Nat.lt_or_ge i 310 with a9 | a9
                  ·
                    have e : i = 309 := by omega
                    subst e
                    exact mh9_309
                  ·
                    have e : i = 310 := by omega
                    subst e
                    exact mh9_310
              ·
                rcases Nat.lt_or_ge i 313 with a8 | a8
                ·
                  rcases Nat.lt_or_ge i 312 with a9 | a9
                  ·
                    have e : i = 311 := by omega
                    subst e
                    exact mh9_311
                  ·
                    have e : i = 312 := by omega
                    subst e
                    exact mh9_312
                ·
                  rcases Nat.lt_or_ge i 314 with a9 | a9
                  ·
                    have e : i = 313 := by omega
                    subst e
                    exact mh9_313
                  ·
                    have e : i = 314 := by omega
                    subst e
                    exact mh9_314
    ·
      rcases Nat.lt_or_ge i 367 with a3 | a3
      ·
        rcases Nat.lt_or_ge i 341 with a4 | a4
        ·
          rcases Nat.lt_or_ge i 328 with a5 | a5
          ·
            rcases Nat.lt_or_ge i 321 with a6 | a6
            ·
              rcases Nat.lt_or_ge i 318 with a7 | a7
              ·
                rcases Nat.lt_or_ge i 316 with a8 | a8
                ·
                  have e : i = 315 := by omega
                  subst e
                  exact mh9_315
                ·
                  rcases Nat.lt_or_ge i 317 with a9 | a9
                  ·
                    have e : i = 316 := by omega
                    subst e
                    exact mh9_316
                  ·
                    have e : i = 317 := by omega
                    subst e
                    exact mh9_317
              ·
                rcases Nat.lt_or_ge i 319 with a8 | a8
                ·
                  have e : i = 318 := by omega
                  subst e
                  exact mh9_318
                ·
                  rcases Nat.lt_or_ge i 320 with a9 | a9
                  ·
                    have e : i = 319 := by omega
                    subst e
                    exact mh9_319
                  ·
                    have e : i = 320 := by omega
                    subst e
                    exact mh9_320
            ·
              rcases Nat.lt_or_ge i 324 with a7 | a7
              ·
                rcases Nat.lt_or_ge i 322 with a8 | a8
                ·
                  have e : i = 321 := by omega
                  subst e
                  exact mh9_321
                ·
                  rcases Nat.lt_or_ge i 323 with a9 | a9
                  ·
                    have e : i = 322 := by omega
                    subst e
                    exact mh9_322
                  ·
                    have e : i = 323 := by omega
                    subst e
                    exact mh9_323
              ·
                rcases Nat.lt_or_ge i 326 with a8 | a8
                ·
                  rcases Nat.lt_or_ge i 325 with a9 | a9
                  ·
                    have e : i = 324 := by omega
                    subst e
                    exact mh9_324
                  ·
                    have e : i = 325 := by omega
                    subst e
                    exact mh9_325
                ·
                  rcases Nat.lt_or_ge i 327 with a9 | a9
                  ·
                    have e : i = 326 := by omega
                    subst e
                    exact mh9_326
                  ·
                    have e : i = 327 := by omega
                    subst e
                    exact mh9_327
          ·
            rcases Nat.lt_or_ge i 334 with a6 | a6
            ·
              rcases Nat.lt_or_ge i 331 with a7 | a7
              ·
                rcases Nat.lt_or_ge i 329 with a8 | a8
                ·
                  have e : i = 328 := by omega
                  subst e
                  exact mh9_328
                ·
                  rcases Nat.lt_or_ge i 330 with a9 | a9
                  ·
                    have e : i = 329 := by omega
                    subst e
                    exact mh9_329
                  ·
                    have e : i = 330 := by omega
                    subst e
                    exact mh9_330
              ·
                rcases Nat.lt_or_ge i 332 with a8 | a8
                ·
                  have e : i = 331 := by omega
                  subst e
                  exact mh9_331
                ·
                  rcases Nat.lt_or_ge i 333 with a9 | a9
                  ·
                    have e : i = 332 := by omega
                    subst e
                    exact mh9_332
                  ·
                    have e : i = 333 := by omega
                    subst e
                    exact mh9_333
            ·
              rcases Nat.lt_or_ge i 337 with a7 | a7
              ·
                rcases Nat.lt_or_ge i 335 with a8 | a8
                ·
                  have e : i = 334 := by omega
                  subst e
                  exact mh9_334
                ·
                  rcases Nat.lt_or_ge i 336 with a9 | a9
                  ·
                    have e : i = 335 := by omega
                    subst e
                    exact mh9_335
                  ·
                    have e : i = 336 := by omega
                    subst e
                    exact mh9_336
              ·
                rcases Nat.lt_or_ge i 339 with a8 | a8
                ·
                  rcases Nat.lt_or_ge i 338 with a9 | a9
                  ·
                    have e : i = 337 := by omega
                    subst e
                    exact mh9_337
                  ·
                    have e : i = 338 := by omega
                    subst e
                    exact mh9_338
                ·
                  rcases Nat.lt_or_ge i 340 with a9 | a9
                  ·
                    have e : i = 339 := by omega
                    subst e
                    exact mh9_339
                  ·
                    have e : i = 340 := by omega
                    subst e
                    exact mh9_340
        ·
          rcases Nat.lt_or_ge i 354 with a5 | a5
          ·
            rcases Nat.lt_or_ge i 347 with a6 | a6
            ·
              rcases Nat.lt_or_ge i 344 with a7 | a7
              ·
                rcases Nat.lt_or_ge i 342 with a8 | a8
                ·
                  have e : i = 341 := by omega
                  subst e
                  exact mh9_341
                ·
                  rcases Nat.lt_or_ge i 343 with a9 | a9
                  ·
                    have e : i = 342 := by omega
                    subst e
                    exact mh9_342
                  ·
                    have e : i = 343 := by omega
                    subst e
                    exact mh9_343
              ·
                rcases Nat.lt_or_ge i 345 with a8 | a8
                ·
                  have e : i = 344 := by omega
                  subst e
                  exact mh9_344
                ·
                  rcases Nat.lt_or_ge i 346 with a9 | a9
                  ·
                    have e : i = 345 := by omega
                    subst e
                    exact mh9_345
                  ·
                    have e : i = 346 := by omega
                    subst e
                    exact mh9_346
            ·
              rcases Nat.lt_or_ge i 350 with a7 | a7
              ·
                rcases Nat.lt_or_ge i 348 with a8 | a8
                ·
                  have e : i = 347 := by omega
                  subst e
                  exact mh9_347
                ·
                  rcases Nat.lt_or_ge i 349 with a9 | a9
                  ·
                    have e : i = 348 := by omega
                    subst e
                    exact mh9_348
                  ·
                    have e : i = 349 := by omega
                    subst e
                    exact mh9_349
              ·
                rcases Nat.lt_or_ge i 352 with a8 | a8
                ·
                  rcases Nat.lt_or_ge i 351 with a9 | a9
                  ·
                    have e : i = 350 := by omega
                    subst e
                    exact mh9_350
                  ·
                    have e : i = 351 := by omega
                    subst e
                    exact mh9_351
                ·
                  rcases Nat.lt_or_ge i 353 with a9 | a9
                  ·
                    have e : i = 352 := by omega
                    subst e
                    exact mh9_352
                  ·
                    have e : i = 353 := by omega
                    subst e
                    exact mh9_353
          ·
            rcases Nat.lt_or_ge i 360 with a6 | a6
            ·
              rcases Nat.lt_or_ge i 357 with a7 | a7
              ·
                rcases Nat.lt_or_ge i 355 with a8 | a8
                ·
                  have e : i = 354 := by omega
                  subst e
                  exact mh9_354
                ·
                  rcases Nat.lt_or_ge i 356 with a9 | a9
                  ·
                    have e : i = 355 := by omega
                    subst e
                    exact mh9_355
                  ·
                    have e : i = 356 := by omega
                    subst e
                    exact mh9_356
              ·
                rcases Nat.lt_or_ge i 358 with a8 | a8
                ·
                  have e : i = 357 := by omega
                  subst e
                  exact mh9_357
                ·
                  rcases Nat.lt_or_ge i 359 with a9 | a9
                  ·
                    have e : i = 358 := by omega
                    subst e
                    exact mh9_358
                  ·
                    have e : i = 359 := by omega
                    subst e
                    exact mh9_359
            ·
              rcases Nat.lt_or_ge i 363 with a7 | a7
              ·
                rcases Nat.lt_or_ge i 361 with a8 | a8
                ·
                  have e : i = 360 := by omega
                  subst e
                  exact mh9_360
                ·
                  rcases Nat.lt_or_ge i 362 with a9 | a9
                  ·
                    have e : i = 361 := by omega
                    subst e
                    exact mh9_361
                  ·
                    have e : i = 362 := by omega
                    subst e
                    exact mh9_362
              ·
                rcases Nat.lt_or_ge i 365 with a8 | a8
                ·
                  rcases Nat.lt_or_ge i 364 with a9 | a9
                  ·
                    have e : i = 363 := by omega
                    subst e
                    exact mh9_363
                  ·
                    have e : i = 364 := by omega
                    subst e
                    exact mh9_364
                ·
                  rcases Nat.lt_or_ge i 366 with a9 | a9
                  ·
                    have e : i = 365 := by omega
                    subst e
                    exact mh9_365
                  ·
                    have e : i = 366 := by omega
                    subst e
                    exact mh9_366
      ·
        rcases Nat.lt_or_ge i 393 with a4 | a4
        ·
          rcases Nat.lt_or_ge i 380 with a5 | a5
          ·
            rcases Nat.lt_or_ge i 373 with a6 | a6
            ·
              rcases Nat.lt_or_ge i 370 with a7 | a7
              ·
                rcases Nat.lt_or_ge i 368 with a8 | a8
                ·
                  have e : i = 367 := by omega
                  subst e
                  exact mh9_367
                ·
                  rcases Nat.lt_or_ge i 369 with a9 | a9
                  ·
                    have e : i = 368 := by omega
                    subst e
                    exact mh9_368
                  ·
                    have e : i = 369 := by omega
                    subst e
                    exact mh9_369
              ·
                rcases Nat.lt_or_ge i 371 with a8 | a8
                ·
                  have e : i = 370 := by omega
                  subst e
                  exact mh9_370
                ·
                  rcases Nat.lt_or_ge i 372 with a9 | a9
                  ·
                    have e : i = 371 := by omega
                    subst e
                    exact mh9_371
                  ·
                    have e : i = 372 := by omega
                    subst e
                    exact mh9_372
            ·
              rcases Nat.lt_or_ge i 376 with a7 | a7
              ·
                rcases Nat.lt_or_ge i 374 with a8 | a8
                ·
                  have e : i = 373 := by omega
                  subst e
                  exact mh9_373
                ·
                  rcases Nat.lt_or_ge i 375 with a9 | a9
                  ·
                    have e : i = 374 := by omega
                    subst e
                    exact mh9_374
                  ·
                    have e : i = 375 := by omega
                    subst e
                    exact mh9_375
              ·
                rcases Nat.lt_or_ge i 378 with a8 | a8
                ·
                  rcases Nat.lt_or_ge i 377 with a9 | a9
                  ·
                    have e : i = 376 := by omega
                    subst e
                    exact mh9_376
                  ·
                    have e : i = 377 := by omega
                    subst e
                    exact mh9_377
                ·
                  rcases Nat.lt_or_ge i 379 with a9 | a9
                  ·
                    have e : i = 378 := by omega
                    subst e
                    exact mh9_378
                  ·
                    have e : i = 379 := by omega
                    subst e
                    exact mh9_379
          ·
            rcases Nat.lt_or_ge i 386 with a6 | a6
            ·
              rcases Nat.lt_or_ge i 383 with a7 | a7
              ·
                rcases Nat.lt_or_ge i 381 with a8 | a8
                ·
                  have e : i = 380 := by omega
                  subst e
                  exact mh9_380
                ·
                  rcases Nat.lt_or_ge i 382 with a9 | a9
                  ·
                    have e : i = 381 := by omega
                    subst e
                    exact mh9_381
                  ·
                    have e : i = 382 := by omega
                    subst e
                    exact mh9_382
              ·
                rcases Nat.lt_or_ge i 384 with a8 | a8
                ·
                  have e : i = 383 := by omega
                  subst e
                  exact mh9_383
                ·
                  rcases Nat.lt_or_ge i 385 with a9 | a9
                  ·
                    have e : i = 384 := by omega
                    subst e
                    exact mh9_384
                  ·
                    have e : i = 385 := by omega
                    subst e
                    exact mh9_385
            ·
              rcases Nat.lt_or_ge i 389 with a7 | a7
              ·
                rcases Nat.lt_or_ge i 387 with a8 | a8
                ·
                  have e : i = 386 := by omega
                  subst e
                  exact mh9_386
                ·
                  rcases Nat.lt_or_ge i 388 with a9 | a9
                  ·
                    have e : i = 387 := by omega
                    subst e
                    exact mh9_387
                  ·
                    have e : i = 388 := by omega
                    subst e
                    exact mh9_388
              ·
                rcases Nat.lt_or_ge i 391 with a8 | a8
                ·
                  rcases Nat.lt_or_ge i 390 with a9 | a9
                  ·
                    have e : i = 389 := by omega
                    subst e
                    exact mh9_389
                  ·
                    have e : i = 390 := by omega
                    subst e
                    exact mh9_390
                ·
                  rcases Nat.lt_or_ge i 392 with a9 | a9
                  ·
                    have e : i = 391 := by omega
                    subst e
                    exact mh9_391
                  ·
                    have e : i = 392 := by omega
                    subst e
                    exact mh9_392
        ·
          rcases Nat.lt_or_ge i 406 with a5 | a5
          ·
            rcases Nat.lt_or_ge i 399 with a6 | a6
            ·
              rcases Nat.lt_or_ge i 396 with a7 | a7
              ·
                rcases Nat.lt_or_ge i 394 with a8 | a8
                ·
                  have e : i = 393 := by omega
                  subst e
                  exact mh9_393
                ·
                  rcases Nat.lt_or_ge i 395 with a9 | a9
                  ·
                    have e : i = 394 := by omega
                    subst e
                    exact mh9_394
                  ·
                    have e : i = 395 := by omega
                    subst e
                    exact mh9_395
              ·
                rcases Nat.lt_or_ge i 397 with a8 | a8
                ·
                  have e : i = 396 := by omega
                  subst e
                  exact mh9_396
                ·
                  rcases Nat.lt_or_ge i 398 with a9 | a9
                  ·
                    have e : i = 397 := by omega
                    subst e
                    exact mh9_397
                  ·
                    have e : i = 398 := by omega
                    subst e
                    exact mh9_398
            ·
              rcases Nat.lt_or_ge i 402 with a7 | a7
              ·
                rcases Nat.lt_or_ge i 400 with a8 | a8
                ·
                  have e : i = 399 := by omega
                  subst e
                  exact mh9_399
                ·
                  rcases Nat.lt_or_ge i 401 with a9 | a9
                  ·
                    have e : i = 400 := by omega
                    subst e
                    exact mh9_400
                  ·
                    have e : i = 401 := by omega
                    subst e
                    exact mh9_401
              ·
                rcases Nat.lt_or_ge i 404 with a8 | a8
                ·
                  rcases Nat.lt_or_ge i 403 with a9 | a9
                  ·
                    have e : i = 402 := by omega
                    subst e
                    exact mh9_402
                  ·
                    have e : i = 403 := by omega
                    subst e
                    exact mh9_403
                ·
                  rcases Nat.lt_or_ge i 405 with a9 | a9
                  ·
                    have e : i = 404 := by omega
                    subst e
                    exact mh9_404
                  ·
                    have e : i = 405 := by omega
                    subst e
                    exact mh9_405
          ·
            rcases Nat.lt_or_ge i 413 with a6 | a6
            ·
              rcases Nat.lt_or_ge i 409 with a7 | a7
              ·
                rcases Nat.lt_or_ge i 407 with a8 | a8
                ·
                  have e : i = 406 := by omega
                  subst e
                  exact mh9_406
                ·
                  rcases Nat.lt_or_ge i 408 with a9 | a9
                  ·
                    have e : i = 407 := by omega
                    subst e
                    exact mh9_407
                  ·
                    have e : i = 408 := by omega
                    subst e
                    exact mh9_408
              ·
                rcases Nat.lt_or_ge i 411 with a8 | a8
                ·
                  rcases Nat.lt_or_ge i 410 with a9 | a9
                  ·
                    have e : i = 409 := by omega
                    subst e
                    exact mh9_409
                  ·
                    have e : i = 410 := by omega
                    subst e
                    exact mh9_410
                ·
                  rcases Nat.lt_or_ge i 412 with a9 | a9
                  ·
                    have e : i = 411 := by omega
                    subst e
                    exact mh9_411
                  ·
                    have e : i = 412 := by omega
                    subst e
                    exact mh9_412
            ·
              rcases Nat.lt_or_ge i 416 with a7 | a7
              ·
                rcases Nat.lt_or_ge i 414 with a8 | a8
                ·
                  have e : i = 413 := by omega
                  subst e
                  exact mh9_413
                ·
                  rcases Nat.lt_or_ge i 415 with a9 | a9
                  ·
                    have e : i = 414 := by omega
                    subst e
                    exact mh9_414
                  ·
                    have e : i = 415 := by omega
                    subst e
                    exact mh9_415
              ·
                rcases Nat.lt_or_ge i 418 with a8 | a8
                ·
                  rcases Nat.lt_or_ge i 417 with a9 | a9
                  ·
                    have e : i = 416 := by omega
                    subst e
                    exact mh9_416
                  ·
                    have e : i = 417 := by omega
                    subst e
                    exact mh9_417
                ·
                  rcases Nat.lt_or_ge i 419 with a9 | a9
                  ·
                    have e : i = 418 := by omega
                    subst e
                    exact mh9_418
                  ·
                    have e : i = 419 := by omega
                    subst e
                    exact mh9_419
