/-! Every method holds: 0 to 104. -/
set_option maxRecDepth 1000000 in
theorem mh9_0 : mthC2 0 = true := by decide +kernel
set_option maxRecDepth 1000000 in
theorem mh9_1 : mthC2 1 = true := by decide +kernel
set_option maxRecDepth 1000000 in
theorem mh9_2 : mthC2 2 = true := by decide +kernel
set_option maxRecDepth 1000000 in
theorem mh9_3 : mthC2 3 = true := by decide +kernel
set_option maxRecDepth 1000000 in
theorem mh9_4 : mthC2 4 = true := by decide +kernel
set_option maxRecDepth 1000000 in
theorem mh9_5 : mthC2 5 = true := by decide +kernel
set_option maxRecDepth 1000000 in
theorem mh9_6 : mthC2 6 = true := by decide +kernel
set_option maxRecDepth 1000000 in
theorem mh9_7 : mthC2 7 = true := by decide +kernel
set_option maxRecDepth 1000000 in
theorem mh9_8 : mthC2 8 = true := by decide +kernel
set_option maxRecDepth 1000000 in
theorem mh9_9 : mthC2 9 = true := by decide +kernel
set_option maxRecDepth 1000000 in
theorem mh9_10 : mthC2 10 = true := by decide +kernel
set_option maxRecDepth 1000000 in
theorem mh9_11 : mthC2 11 = true := by decide +kernel
set_option maxRecDepth 1000000 in
theorem mh9_12 : mthC2 12 = true := by decide +kernel
set_option maxRecDepth 1000000 in
theorem mh9_13 : mthC2 13 = true := by decide +kernel
set_option maxRecDepth 1000000 in
theorem mh9_14 : mthC2 14 = true := by decide +kernel
set_option maxRecDepth 1000000 in
theorem mh9_15 : mthC2 15 = true := by decide +kernel
set_option maxRecDepth 1000000 in
theorem mh9_16 : mthC2 16 = true := by decide +kernel
set_option maxRecDepth 1000000 in
theorem mh9_17 : mthC2 17 = true := by decide +kernel
set_option maxRecDepth 1000000 in
theorem mh9_18 : mthC2 18 = true := by decide +kernel
set_option maxRecDepth 1000000 in
theorem mh9_19 : mthC2 19 = true := by decide +kernel
set_option maxRecDepth 1000000 in
theorem mh9_20 : mthC2 20 = true := by decide +kernel
set_option maxRecDepth 1000000 in
theorem mh9_21 : mthC2 21 = true := by decide +kernel
set_option maxRecDepth 1000000 in
theorem mh9_22 : mthC2 22 = true := by decide +kernel
set_option maxRecDepth 1000000 in
theorem mh9_23 : mthC2 23 = true := by decide +kernel
set_option maxRecDepth 1000000 in
theorem mh9_24 : mthC2 24 = true := by decide +kernel
set_option maxRecDepth 1000000 in
theorem mh9_25 : mthC2 25 = true := by decide +kernel
set_option maxRecDepth 1000000 in
theorem mh9_26 : mthC2 26 = true := by decide +kernel
set_option maxRecDepth 1000000 in
theorem mh9_27 : mthC2 27 = true := by decide +kernel
set_option maxRecDepth 1000000 in
theorem mh9_28 : mthC2 28 = true := by decide +kernel
set_option maxRecDepth 1000000 in
theorem mh9_29 : mthC2 29 = true := by decide +kernel
set_option maxRecDepth 1000000 in
theorem mh9_30 : mthC2 30 = true := by decide +kernel
set_option maxRecDepth 1000000 in
theorem mh9_31 : mthC2 31 = true := by decide +kernel
set_option maxRecDepth 1000000 in
theorem mh9_32 : mthC2 32 = true := by decide +kernel
set_option maxRecDepth 1000000 in
theorem mh9_33 : mthC2 33 = true := by decide +kernel
set_option maxRecDepth 1000000 in
theorem mh9_34 : mthC2 34 = true := by decide +kernel
set_option maxRecDepth 1000000 in
theorem mh9_35 : mthC2 35 = true := by decide +kernel
set_option maxRecDepth 1000000 in
theorem mh9_36 : mthC2 36 = true := by decide +kernel
set_option maxRecDepth 1000000 in
theorem mh9_37 : mthC2 37 = true := by decide +kernel
set_option maxRecDepth 1000000 in
theorem mh9_38 : mthC2 38 = true := by decide +kernel
set_option maxRecDepth 1000000 in
theorem mh9_39 : mthC2 39 = true := by decide +kernel
set_option maxRecDepth 1000000 in
theorem mh9_40 : mthC2 40 = true := by decide +kernel
set_option maxRecDepth 1000000 in
theorem mh9_41 : mthC2 41 = true := by decide +kernel
set_option maxRecDepth 1000000 in
theorem mh9_42 : mthC2 42 = true := by decide +kernel
set_option maxRecDepth 1000000 in
theorem mh9_43 : mthC2 43 = true := by decide +kernel
set_option maxRecDepth 1000000 in
theorem mh9_44 : mthC2 44 = true := by decide +kernel
set_option maxRecDepth 1000000 in
theorem mh9_45 : mthC2 45 = true := by decide +kernel
set_option maxRecDepth 1000000 in
theorem mh9_46 : mthC2 46 = true := by decide +kernel
set_option maxRecDepth 1000000 in
theorem mh9_47 : mthC2 47 = true := by decide +kernel
set_option maxRecDepth 1000000 in
theorem mh9_48 : mthC2 48 = true := by decide +kernel
set_option maxRecDepth 1000000 in
theorem mh9_49 : mthC2 49 = true := by decide +kernel
set_option maxRecDepth 1000000 in
theorem mh9_50 : mthC2 50 = true := by decide +kernel
set_option maxRecDepth 1000000 in
theorem mh9_51 : mthC2 51 = true := by decide +kernel
set_option maxRecDepth 1000000 in
theorem mh9_52 : mthC2 52 = true := by decide +kernel
set_option maxRecDepth 1000000 in
theorem mh9_53 : mthC2 53 = true := by decide +kernel
set_option maxRecDepth 1000000 in
theorem mh9_54 : mthC2 54 = true := by decide +kernel
set_option maxRecDepth 1000000 in
theorem mh9_55 : mthC2 55 = true := by decide +kernel
set_option maxRecDepth 1000000 in
theorem mh9_56 : mthC2 56 = true := by decide +kernel
set_option maxRecDepth 1000000 in
theorem mh9_57 : mthC2 57 = true := by decide +kernel
set_option maxRecDepth 1000000 in
theorem mh9_58 : mthC2 58 = true := by decide +kernel
set_option maxRecDepth 1000000 in
theorem mh9_59 : mthC2 59 = true := by decide +kernel
set_option maxRecDepth 1000000 in
theorem mh9_60 : mthC2 60 = true := by decide +kernel
set_option maxRecDepth 1000000 in
theorem mh9_61 : mthC2 61 = true := by decide +kernel
set_option maxRecDepth 1000000 in
theorem mh9_62 : mthC2 62 = true := by decide +kernel
set_option maxRecDepth 1000000 in
theorem mh9_63 : mthC2 63 = true := by decide +kernel
set_option maxRecDepth 1000000 in
theorem mh9_64 : mthC2 64 = true := by decide +kernel
set_option maxRecDepth 1000000 in
theorem mh9_65 : mthC2 65 = true := by decide +kernel
set_option maxRecDepth 1000000 in
theorem mh9_66 : mthC2 66 = true := by decide +kernel
set_option maxRecDepth 1000000 in
theorem mh9_67 : mthC2 67 = true := by decide +kernel
set_option maxRecDepth 1000000 in
theorem mh9_68 : mthC2 68 = true := by decide +kernel
set_option maxRecDepth 1000000 in
theorem mh9_69 : mthC2 69 = true := by decide +kernel
set_option maxRecDepth 1000000 in
theorem mh9_70 : mthC2 70 = true := by decide +kernel
set_option maxRecDepth 1000000 in
theorem mh9_71 : mthC2 71 = true := by decide +kernel
set_option maxRecDepth 1000000 in
theorem mh9_72 : mthC2 72 = true := by decide +kernel
set_option maxRecDepth 1000000 in
theorem mh9_73 : mthC2 73 = true := by decide +kernel
set_option maxRecDepth 1000000 in
theorem mh9_74 : mthC2 74 = true := by decide +kernel
set_option maxRecDepth 1000000 in
theorem mh9_75 : mthC2 75 = true := by decide +kernel
set_option maxRecDepth 1000000 in
theorem mh9_76 : mthC2 76 = true := by decide +kernel
set_option maxRecDepth 1000000 in
theorem mh9_77 : mthC2 77 = true := by decide +kernel
set_option maxRecDepth 1000000 in
theorem mh9_78 : mthC2 78 = true := by decide +kernel
set_option maxRecDepth 1000000 in
theorem mh9_79 : mthC2 79 = true := by decide +kernel
set_option maxRecDepth 1000000 in
theorem mh9_80 : mthC2 80 = true := by decide +kernel
set_option maxRecDepth 1000000 in
theorem mh9_81 : mthC2 81 = true := by decide +kernel
set_option maxRecDepth 1000000 in
theorem mh9_82 : mthC2 82 = true := by decide +kernel
set_option maxRecDepth 1000000 in
theorem mh9_83 : mthC2 83 = true := by decide +kernel
set_option maxRecDepth 1000000 in
theorem mh9_84 : mthC2 84 = true := by decide +kernel
set_option maxRecDepth 1000000 in
theorem mh9_85 : mthC2 85 = true := by decide +kernel
set_option maxRecDepth 1000000 in
theorem mh9_86 : mthC2 86 = true := by decide +kernel
set_option maxRecDepth 1000000 in
theorem mh9_87 : mthC2 87 = true := by decide +kernel
set_option maxRecDepth 1000000 in
theorem mh9_88 : mthC2 88 = true := by decide +kernel
set_option maxRecDepth 1000000 in
theorem mh9_89 : mthC2 89 = true := by decide +kernel
set_option maxRecDepth 1000000 in
theorem mh9_90 : mthC2 90 = true := by decide +kernel
set_option maxRecDepth 1000000 in
theorem mh9_91 : mthC2 91 = true := by decide +kernel
set_option maxRecDepth 1000000 in
theorem mh9_92 : mthC2 92 = true := by decide +kernel
set_option maxRecDepth 1000000 in
theorem mh9_93 : mthC2 93 = true := by decide +kernel
set_option maxRecDepth 1000000 in
theorem mh9_94 : mthC2 94 = true := by decide +kernel
set_option maxRecDepth 1000000 in
theorem mh9_95 : mthC2 95 = true := by decide +kernel
set_option maxRecDepth 1000000 in
theorem mh9_96 : mthC2 96 = true := by decide +kernel
set_option maxRecDepth 1000000 in
theorem mh9_97 : mthC2 97 = true := by decide +kernel
set_option maxRecDepth 1000000 in
theorem mh9_98 : mthC2 98 = true := by decide +kernel
set_option maxRecDepth 1000000 in
theorem mh9_99 : mthC2 99 = true := by decide +kernel
set_option maxRecDepth 1000000 in
theorem mh9_100 : mthC2 100 = true := by decide +kernel
set_option maxRecDepth 1000000 in
theorem mh9_101 : mthC2 101 = true := by decide +kernel
set_option maxRecDepth 1000000 in
theorem mh9_102 : mthC2 102 = true := by decide +kernel
set_option maxRecDepth 1000000 in
theorem mh9_103 : mthC2 103 = true := by decide +kernel
set_option maxRecDepth 1000000 in
theorem mh9_104 : mthC2 104 = true := by decide +kernel
