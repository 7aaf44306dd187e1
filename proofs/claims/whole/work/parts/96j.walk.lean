/-! The walk from the law's entry to where the other side's table is laid; by program. -/
def ch0 : Ch := (1, 0, 1, 0, fun _ => (0, 0, 1))
def FsL (I : Mi) : Prop := CSt I ch0 (fun _ => none) 1 10 ∧ (BnAt I 59 0 ch0 ∧ LimRt I 1 10 ∧ ∀ k, k < 4 → ShRt I k none) ∧ TM I []
set_option maxRecDepth 100000 in
set_option maxHeartbeats 40000000 in
theorem walk {Lx : Nat} {I : Mi} {L : Ml} {e : Nat} {Q : Kq} (fin : ∀ I' L', FsL I' → Wp 205 118 [(0, .ref 58), (1, .int (Int32.ofInt 0))] [] (gM Lx) I' L' e (kcp (Wp 420) 420 12 1 [(1, .ref 1), (0, .ref 0)] 59 [.ref 58] Q)) :
    Wp 420 0 [(0, .ref 0)] [] (gc 1 0 Lx ml0) I L e Q := by
  show Wp 420 0 [(0, .ref 0)] [] (gc 1 0 Lx ml0) _ _ e _
  refine w_a f_420_0 ?_
  show Wp 420 3 [(0, .ref 0)] [.ref 1] (gc 2 19 Lx ml1) _ _ e _
  refine w_a f_420_3 ?_
  refine w_a f_420_4 ?_
  show Wp 87 0 [(0, .ref 1)] [] (gc 2 19 Lx ml1) _ _ e _
  refine w_a f_87_0 ?_
  refine w_a f_87_1 ?_
  show Wp 87 4 [(0, .ref 1)] [] (gc 2 19 Lx ml1) _ _ e _
  refine w_a f_87_4 ?_
  refine w_a f_87_5 ?_
  show Wp 87 8 [(0, .ref 1)] [.ref 2, .ref 1] (gc 3 21 Lx ml2) _ _ e _
  refine w_a f_87_8 ?_
  refine w_a f_87_9 ?_
  show Wp 67 0 [(0, .ref 2)] [] (gc 3 21 Lx ml2) _ _ e _
  refine w_a f_67_0 ?_
  refine w_a f_67_1 ?_
  show Wp 67 4 [(0, .ref 2)] [] (gc 3 21 Lx ml2) _ _ e _
  refine w_a f_67_4 ?_
  refine w_a f_67_5 ?_
  refine w_a f_67_8 ?_
  show Wp 67 10 [(0, .ref 2)] [.ref 3, .ref 2] (gc 4 205 Lx ml3) _ _ e _
  refine w_a f_67_10 ?_
  show Wp 67 13 [(0, .ref 2)] [] (gc 4 205 Lx ml4) _ _ e _
  refine w_a f_67_13 ?_
  refine w_a f_67_14 ?_
  refine w_a f_67_17 ?_
  show Wp 67 19 [(0, .ref 2)] [.ref 4, .ref 2] (gc 5 389 Lx ml5) _ _ e _
  refine w_a f_67_19 ?_
  show Wp 67 22 [(0, .ref 2)] [] (gc 5 389 Lx ml6) _ _ e _
  refine w_a f_67_22 ?_
  refine w_a f_67_23 ?_
  show Wp 68 0 [(0, .ref 2)] [] (gc 5 389 Lx ml6) _ _ e _
  refine c5_68 (fun I1 hf1 ht1 => ?_)
  show Wp 67 26 [(0, .ref 2)] [] (gc 5 389 Lx ml6) _ _ e _
  refine w_a f_67_26 ?_
  refine w_a f_67_28 ?_
  show Wp 67 29 [(1, .int (Int32.ofInt 93)), (0, .ref 2)] [] (gc 5 389 Lx ml6) _ _ e _
  refine w_n (ks := [0, 1]) rfl ?_
  refine c5_67 ht1 (fun I2 hf2 ht2 => ?_)
  show Wp 87 12 [(0, .ref 1)] [.ref 2, .ref 1] (gc 5 389 Lx ml6) _ _ e _
  refine w_a f_87_12 ?_
  show Wp 87 15 [(0, .ref 1)] [] (gc 5 389 Lx ml7) _ _ e _
  refine w_a f_87_15 ?_
  refine w_a f_87_16 ?_
  show Wp 87 19 [(0, .ref 1)] [.ref 5, .ref 1] (gc 6 396 Lx ml8) _ _ e _
  refine w_a f_87_19 ?_
  refine w_a f_87_20 ?_
  show Wp 11 0 [(0, .ref 5)] [] (gc 6 396 Lx ml8) _ _ e _
  refine w_a f_11_0 ?_
  refine w_a f_11_1 ?_
  show Wp 11 4 [(0, .ref 5)] [] (gc 6 396 Lx ml8) _ _ e _
  refine w_a f_11_4 ?_
  refine w_a f_11_5 ?_
  refine w_a f_11_6 ?_
  show Wp 11 9 [(0, .ref 5)] [] (gc 6 396 Lx ml8) _ _ e _
  refine w_a f_11_9 ?_
  refine w_a f_11_10 ?_
  refine w_a f_11_11 ?_
  show Wp 11 14 [(0, .ref 5)] [] (gc 6 396 Lx ml8) _ _ e _
  refine w_a f_11_14 ?_
  refine w_a f_11_15 ?_
  refine w_a f_11_16 ?_
  show Wp 11 19 [(0, .ref 5)] [] (gc 6 396 Lx ml8) _ _ e _
  refine w_a f_11_19 ?_
  refine w_a f_11_20 ?_
  refine w_a f_11_21 ?_
  show Wp 11 24 [(0, .ref 5)] [] (gc 6 396 Lx ml8) _ _ e _
  refine w_a f_11_24 ?_
  refine w_a f_11_25 ?_
  refine w_a f_11_26 ?_
  show Wp 11 28 [(0, .ref 5)] [.ref 6, .ref 5] (gc 7 400 Lx ml9) _ _ e _
  refine w_a f_11_28 ?_
  show Wp 11 31 [(0, .ref 5)] [] (gc 7 400 Lx ml10) _ _ e _
  refine w_a f_11_31 ?_
  refine w_a f_11_32 ?_
  refine w_a f_11_33 ?_
  show Wp 11 35 [(0, .ref 5)] [.ref 7, .ref 5] (gc 8 404 Lx ml11) _ _ e _
  refine w_a f_11_35 ?_
  show Wp 11 38 [(0, .ref 5)] [] (gc 8 404 Lx ml12) _ _ e _
  refine w_a f_11_38 ?_
  refine w_a f_11_39 ?_
  refine w_a f_11_40 ?_
  show Wp 11 42 [(0, .ref 5)] [.ref 8, .ref 5] (gc 9 408 Lx ml13) _ _ e _
  refine w_a f_11_42 ?_
  show Wp 11 45 [(0, .ref 5)] [] (gc 9 408 Lx ml14) _ _ e _
  refine w_a f_11_45 ?_
  show Wp 87 23 [(0, .ref 1)] [.ref 5, .ref 1] (gc 9 408 Lx ml14) _ _ e _
  refine w_a f_87_23 ?_
  show Wp 87 26 [(0, .ref 1)] [] (gc 9 408 Lx ml15) _ _ e _
  refine w_a f_87_26 ?_
  refine w_a f_87_27 ?_
  show Wp 87 30 [(0, .ref 1)] [.ref 9, .ref 1] (gc 10 415 Lx ml16) _ _ e _
  refine w_a f_87_30 ?_
  refine w_a f_87_31 ?_
  show Wp 11 0 [(0, .ref 9)] [] (gc 10 415 Lx ml16) _ _ e _
  refine w_a f_11_0 ?_
  refine w_a f_11_1 ?_
  show Wp 11 4 [(0, .ref 9)] [] (gc 10 415 Lx ml16) _ _ e _
  refine w_a f_11_4 ?_
  refine w_a f_11_5 ?_
  refine w_a f_11_6 ?_
  show Wp 11 9 [(0, .ref 9)] [] (gc 10 415 Lx ml16) _ _ e _
  refine w_a f_11_9 ?_
  refine w_a f_11_10 ?_
  refine w_a f_11_11 ?_
  show Wp 11 14 [(0, .ref 9)] [] (gc 10 415 Lx ml16) _ _ e _
  refine w_a f_11_14 ?_
  refine w_a f_11_15 ?_
  refine w_a f_11_16 ?_
  show Wp 11 19 [(0, .ref 9)] [] (gc 10 415 Lx ml16) _ _ e _
  refine w_a f_11_19 ?_
  refine w_a f_11_20 ?_
  refine w_a f_11_21 ?_
  show Wp 11 24 [(0, .ref 9)] [] (gc 10 415 Lx ml16) _ _ e _
  refine w_a f_11_24 ?_
  refine w_a f_11_25 ?_
  refine w_a f_11_26 ?_
  show Wp 11 28 [(0, .ref 9)] [.ref 10, .ref 9] (gc 11 419 Lx ml17) _ _ e _
  refine w_a f_11_28 ?_
  show Wp 11 31 [(0, .ref 9)] [] (gc 11 419 Lx ml18) _ _ e _
  refine w_a f_11_31 ?_
  refine w_a f_11_32 ?_
  refine w_a f_11_33 ?_
  show Wp 11 35 [(0, .ref 9)] [.ref 11, .ref 9] (gc 12 423 Lx ml19) _ _ e _
  refine w_a f_11_35 ?_
  show Wp 11 38 [(0, .ref 9)] [] (gc 12 423 Lx ml20) _ _ e _
  refine w_a f_11_38 ?_
  refine w_a f_11_39 ?_
  refine w_a f_11_40 ?_
  show Wp 11 42 [(0, .ref 9)] [.ref 12, .ref 9] (gc 13 427 Lx ml21) _ _ e _
  refine w_a f_11_42 ?_
  show Wp 11 45 [(0, .ref 9)] [] (gc 13 427 Lx ml22) _ _ e _
  refine w_a f_11_45 ?_
  show Wp 87 34 [(0, .ref 1)] [.ref 9, .ref 1] (gc 13 427 Lx ml22) _ _ e _
  refine w_a f_87_34 ?_
  show Wp 87 37 [(0, .ref 1)] [] (gc 13 427 Lx ml23) _ _ e _
  refine w_a f_87_37 ?_
  refine w_a f_87_38 ?_
  refine w_a f_87_39 ?_
  show Wp 87 42 [(0, .ref 1)] [.ref 13, .ref 1] (gc 14 431 Lx ml24) _ _ e _
  refine w_a f_87_42 ?_
  show Wp 87 45 [(0, .ref 1)] [] (gc 14 431 Lx ml25) _ _ e _
  refine w_a f_87_45 ?_
  refine w_a f_87_46 ?_
  refine w_a f_87_47 ?_
  show Wp 87 50 [(0, .ref 1)] [] (gc 14 431 Lx ml25) _ _ e _
  refine w_a f_87_50 ?_
  refine w_a f_87_51 ?_
  refine w_a f_87_53 ?_
  show Wp 87 56 [(0, .ref 1)] [] (gc 14 431 Lx ml25) _ _ e _
  refine w_a f_87_56 ?_
  refine w_a f_87_57 ?_
  show Wp 87 60 [(0, .ref 1)] [.ref 14, .ref 1] (gc 15 435 Lx ml26) _ _ e _
  refine w_a f_87_60 ?_
  refine w_a f_87_61 ?_
  show Wp 73 0 [(0, .ref 14)] [] (gc 15 435 Lx ml26) _ _ e _
  refine w_a f_73_0 ?_
  refine w_a f_73_1 ?_
  show Wp 73 4 [(0, .ref 14)] [] (gc 15 435 Lx ml26) _ _ e _
  refine w_a f_73_4 ?_
  refine w_a f_73_5 ?_
  refine w_a f_73_6 ?_
  show Wp 73 9 [(0, .ref 14)] [] (gc 15 435 Lx ml26) _ _ e _
  refine w_a f_73_9 ?_
  refine w_a f_73_10 ?_
  refine w_a f_73_11 ?_
  show Wp 73 14 [(0, .ref 14)] [] (gc 15 435 Lx ml26) _ _ e _
  refine w_a f_73_14 ?_
  refine w_a f_73_15 ?_
  refine w_a f_73_16 ?_
  show Wp 73 19 [(0, .ref 14)] [] (gc 15 435 Lx ml26) _ _ e _
  refine w_a f_73_19 ?_
  refine w_a f_73_20 ?_
  refine w_a f_73_21 ?_
  show Wp 73 24 [(0, .ref 14)] [] (gc 15 435 Lx ml26) _ _ e _
  refine w_a f_73_24 ?_
  show Wp 87 64 [(0, .ref 1)] [.ref 14, .ref 1] (gc 15 435 Lx ml26) _ _ e _
  refine w_a f_87_64 ?_
  show Wp 87 67 [(0, .ref 1)] [] (gc 15 435 Lx ml27) _ _ e _
  refine w_a f_87_67 ?_
  refine w_a f_87_68 ?_
  show Wp 87 71 [(0, .ref 1)] [.ref 15, .ref 1] (gc 16 439 Lx ml28) _ _ e _
  refine w_a f_87_71 ?_
  refine w_a f_87_72 ?_
  show Wp 73 0 [(0, .ref 15)] [] (gc 16 439 Lx ml28) _ _ e _
  refine w_a f_73_0 ?_
  refine w_a f_73_1 ?_
  show Wp 73 4 [(0, .ref 15)] [] (gc 16 439 Lx ml28) _ _ e _
  refine w_a f_73_4 ?_
  refine w_a f_73_5 ?_
  refine w_a f_73_6 ?_
  show Wp 73 9 [(0, .ref 15)] [] (gc 16 439 Lx ml28) _ _ e _
  refine w_a f_73_9 ?_
  refine w_a f_73_10 ?_
  refine w_a f_73_11 ?_
  show Wp 73 14 [(0, .ref 15)] [] (gc 16 439 Lx ml28) _ _ e _
  refine w_a f_73_14 ?_
  refine w_a f_73_15 ?_
  refine w_a f_73_16 ?_
  show Wp 73 19 [(0, .ref 15)] [] (gc 16 439 Lx ml28) _ _ e _
  refine w_a f_73_19 ?_
  refine w_a f_73_20 ?_
  refine w_a f_73_21 ?_
  show Wp 73 24 [(0, .ref 15)] [] (gc 16 439 Lx ml28) _ _ e _
  refine w_a f_73_24 ?_
  show Wp 87 75 [(0, .ref 1)] [.ref 15, .ref 1] (gc 16 439 Lx ml28) _ _ e _
  refine w_a f_87_75 ?_
  show Wp 87 78 [(0, .ref 1)] [] (gc 16 439 Lx ml29) _ _ e _
  refine w_a f_87_78 ?_
  refine w_a f_87_79 ?_
  show Wp 87 82 [(0, .ref 1)] [.ref 16, .ref 1] (gc 17 443 Lx ml30) _ _ e _
  refine w_a f_87_82 ?_
  refine w_a f_87_83 ?_
  show Wp 73 0 [(0, .ref 16)] [] (gc 17 443 Lx ml30) _ _ e _
  refine w_a f_73_0 ?_
  refine w_a f_73_1 ?_
  show Wp 73 4 [(0, .ref 16)] [] (gc 17 443 Lx ml30) _ _ e _
  refine w_a f_73_4 ?_
  refine w_a f_73_5 ?_
  refine w_a f_73_6 ?_
  show Wp 73 9 [(0, .ref 16)] [] (gc 17 443 Lx ml30) _ _ e _
  refine w_a f_73_9 ?_
  refine w_a f_73_10 ?_
  refine w_a f_73_11 ?_
  show Wp 73 14 [(0, .ref 16)] [] (gc 17 443 Lx ml30) _ _ e _
  refine w_a f_73_14 ?_
  refine w_a f_73_15 ?_
  refine w_a f_73_16 ?_
  show Wp 73 19 [(0, .ref 16)] [] (gc 17 443 Lx ml30) _ _ e _
  refine w_a f_73_19 ?_
  refine w_a f_73_20 ?_
  refine w_a f_73_21 ?_
  show Wp 73 24 [(0, .ref 16)] [] (gc 17 443 Lx ml30) _ _ e _
  refine w_a f_73_24 ?_
  show Wp 87 86 [(0, .ref 1)] [.ref 16, .ref 1] (gc 17 443 Lx ml30) _ _ e _
  refine w_a f_87_86 ?_
  show Wp 87 89 [(0, .ref 1)] [] (gc 17 443 Lx ml31) _ _ e _
  refine w_a f_87_89 ?_
  refine w_a f_87_90 ?_
  show Wp 87 93 [(0, .ref 1)] [.ref 17, .ref 1] (gc 18 446 Lx ml32) _ _ e _
  refine w_a f_87_93 ?_
  refine w_a f_87_94 ?_
  show Wp 51 0 [(0, .ref 17)] [] (gc 18 446 Lx ml32) _ _ e _
  refine w_a f_51_0 ?_
  refine w_a f_51_1 ?_
  show Wp 51 4 [(0, .ref 17)] [] (gc 18 446 Lx ml32) _ _ e _
  refine w_a f_51_4 ?_
  refine w_a f_51_5 ?_
  refine w_a f_51_6 ?_
  show Wp 51 9 [(0, .ref 17)] [] (gc 18 446 Lx ml32) _ _ e _
  refine w_a f_51_9 ?_
  refine w_a f_51_10 ?_
  refine w_a f_51_11 ?_
  show Wp 51 14 [(0, .ref 17)] [] (gc 18 446 Lx ml32) _ _ e _
  refine w_a f_51_14 ?_
  refine w_a f_51_15 ?_
  refine w_a f_51_16 ?_
  show Wp 51 19 [(0, .ref 17)] [] (gc 18 446 Lx ml32) _ _ e _
  refine w_a f_51_19 ?_
  show Wp 87 97 [(0, .ref 1)] [.ref 17, .ref 1] (gc 18 446 Lx ml32) _ _ e _
  refine w_a f_87_97 ?_
  show Wp 87 100 [(0, .ref 1)] [] (gc 18 446 Lx ml33) _ _ e _
  refine w_a f_87_100 ?_
  refine w_a f_87_101 ?_
  show Wp 87 104 [(0, .ref 1)] [.ref 18, .ref 1] (gc 19 448 Lx ml34) _ _ e _
  refine w_a f_87_104 ?_
  refine w_a f_87_105 ?_
  show Wp 22 0 [(0, .ref 18)] [] (gc 19 448 Lx ml34) _ _ e _
  refine w_a f_22_0 ?_
  refine w_a f_22_1 ?_
  show Wp 22 4 [(0, .ref 18)] [] (gc 19 448 Lx ml34) _ _ e _
  refine w_a f_22_4 ?_
  refine w_a f_22_5 ?_
  refine w_a f_22_6 ?_
  show Wp 22 9 [(0, .ref 18)] [] (gc 19 448 Lx ml34) _ _ e _
  refine w_a f_22_9 ?_
  refine w_a f_22_10 ?_
  refine w_a f_22_11 ?_
  show Wp 22 14 [(0, .ref 18)] [] (gc 19 448 Lx ml34) _ _ e _
  refine w_a f_22_14 ?_
  show Wp 87 108 [(0, .ref 1)] [.ref 18, .ref 1] (gc 19 448 Lx ml34) _ _ e _
  refine w_a f_87_108 ?_
  show Wp 87 111 [(0, .ref 1)] [] (gc 19 448 Lx ml35) _ _ e _
  refine w_a f_87_111 ?_
  refine w_a f_87_112 ?_
  show Wp 87 115 [(0, .ref 1)] [.ref 19, .ref 1] (gc 20 458 Lx ml36) _ _ e _
  refine w_a f_87_115 ?_
  refine w_a f_87_116 ?_
  show Wp 38 0 [(0, .ref 19)] [] (gc 20 458 Lx ml36) _ _ e _
  refine w_a f_38_0 ?_
  refine w_a f_38_1 ?_
  show Wp 38 4 [(0, .ref 19)] [] (gc 20 458 Lx ml36) _ _ e _
  refine w_a f_38_4 ?_
  refine w_a f_38_5 ?_
  refine w_a f_38_6 ?_
  show Wp 38 9 [(0, .ref 19)] [] (gc 20 458 Lx ml36) _ _ e _
  refine w_a f_38_9 ?_
  refine w_a f_38_10 ?_
  refine w_a f_38_11 ?_
  show Wp 38 14 [(0, .ref 19)] [] (gc 20 458 Lx ml36) _ _ e _
  refine w_a f_38_14 ?_
  refine w_a f_38_15 ?_
  refine w_a f_38_16 ?_
  show Wp 38 19 [(0, .ref 19)] [] (gc 20 458 Lx ml36) _ _ e _
  refine w_a f_38_19 ?_
  refine w_a f_38_20 ?_
  refine w_a f_38_21 ?_
  show Wp 38 24 [(0, .ref 19)] [] (gc 20 458 Lx ml36) _ _ e _
  refine w_a f_38_24 ?_
  refine w_a f_38_25 ?_
  refine w_a f_38_26 ?_
  show Wp 38 29 [(0, .ref 19)] [] (gc 20 458 Lx ml36) _ _ e _
  refine w_a f_38_29 ?_
  refine w_a f_38_30 ?_
  refine w_a f_38_31 ?_
  show Wp 38 34 [(0, .ref 19)] [] (gc 20 458 Lx ml36) _ _ e _
  refine w_a f_38_34 ?_
  refine w_a f_38_35 ?_
  refine w_a f_38_36 ?_
  show Wp 38 39 [(0, .ref 19)] [] (gc 20 458 Lx ml36) _ _ e _
  refine w_a f_38_39 ?_
  refine w_a f_38_40 ?_
  refine w_a f_38_41 ?_
  show Wp 38 44 [(0, .ref 19)] [] (gc 20 458 Lx ml36) _ _ e _
  refine w_a f_38_44 ?_
  refine w_a f_38_45 ?_
  refine w_a f_38_46 ?_
  show Wp 38 49 [(0, .ref 19)] [] (gc 20 458 Lx ml36) _ _ e _
  refine w_a f_38_49 ?_
  refine w_a f_38_50 ?_
  refine w_a f_38_51 ?_
  show Wp 38 54 [(0, .ref 19)] [] (gc 20 458 Lx ml36) _ _ e _
  refine w_a f_38_54 ?_
  show Wp 87 119 [(0, .ref 1)] [.ref 19, .ref 1] (gc 20 458 Lx ml36) _ _ e _
  refine w_a f_87_119 ?_
  show Wp 87 122 [(0, .ref 1)] [] (gc 20 458 Lx ml37) _ _ e _
  refine w_a f_87_122 ?_
  refine w_a f_87_123 ?_
  show Wp 87 126 [(0, .ref 1)] [.ref 20, .ref 1] (gc 21 466 Lx ml38) _ _ e _
  refine w_a f_87_126 ?_
  refine w_a f_87_127 ?_
  show Wp 33 0 [(0, .ref 20)] [] (gc 21 466 Lx ml38) _ _ e _
  refine w_a f_33_0 ?_
  refine w_a f_33_1 ?_
  show Wp 33 4 [(0, .ref 20)] [] (gc 21 466 Lx ml38) _ _ e _
  refine w_a f_33_4 ?_
  refine w_a f_33_5 ?_
  refine w_a f_33_6 ?_
  show Wp 33 9 [(0, .ref 20)] [] (gc 21 466 Lx ml38) _ _ e _
  refine w_a f_33_9 ?_
  refine w_a f_33_10 ?_
  refine w_a f_33_11 ?_
  show Wp 33 14 [(0, .ref 20)] [] (gc 21 466 Lx ml38) _ _ e _
  refine w_a f_33_14 ?_
  refine w_a f_33_15 ?_
  refine w_a f_33_16 ?_
  show Wp 33 19 [(0, .ref 20)] [] (gc 21 466 Lx ml38) _ _ e _
  refine w_a f_33_19 ?_
  refine w_a f_33_20 ?_
  refine w_a f_33_21 ?_
  show Wp 33 24 [(0, .ref 20)] [] (gc 21 466 Lx ml38) _ _ e _
  refine w_a f_33_24 ?_
  refine w_a f_33_25 ?_
  refine w_a f_33_26 ?_
  show Wp 33 29 [(0, .ref 20)] [] (gc 21 466 Lx ml38) _ _ e _
  refine w_a f_33_29 ?_
  refine w_a f_33_30 ?_
  refine w_a f_33_31 ?_
  show Wp 33 34 [(0, .ref 20)] [] (gc 21 466 Lx ml38) _ _ e _
  refine w_a f_33_34 ?_
  refine w_a f_33_35 ?_
  refine w_a f_33_36 ?_
  show Wp 33 39 [(0, .ref 20)] [] (gc 21 466 Lx ml38) _ _ e _
  refine w_a f_33_39 ?_
  refine w_a f_33_40 ?_
  refine w_a f_33_41 ?_
  show Wp 33 44 [(0, .ref 20)] [] (gc 21 466 Lx ml38) _ _ e _
  refine w_a f_33_44 ?_
  show Wp 87 130 [(0, .ref 1)] [.ref 20, .ref 1] (gc 21 466 Lx ml38) _ _ e _
  refine w_a f_87_130 ?_
  show Wp 87 133 [(0, .ref 1)] [] (gc 21 466 Lx ml39) _ _ e _
  refine w_a f_87_133 ?_
  refine w_a f_87_134 ?_
  show Wp 87 137 [(0, .ref 1)] [.ref 21, .ref 1] (gc 22 473 Lx ml40) _ _ e _
  refine w_a f_87_137 ?_
  refine w_a f_87_138 ?_
  show Wp 0 0 [(0, .ref 21)] [] (gc 22 473 Lx ml40) _ _ e _
  refine w_a f_0_0 ?_
  refine w_a f_0_1 ?_
  show Wp 0 4 [(0, .ref 21)] [] (gc 22 473 Lx ml40) _ _ e _
  refine w_a f_0_4 ?_
  refine w_a f_0_5 ?_
  refine w_a f_0_6 ?_
  show Wp 0 9 [(0, .ref 21)] [] (gc 22 473 Lx ml40) _ _ e _
  refine w_a f_0_9 ?_
  refine w_a f_0_10 ?_
  refine w_a f_0_11 ?_
  show Wp 0 14 [(0, .ref 21)] [] (gc 22 473 Lx ml40) _ _ e _
  refine w_a f_0_14 ?_
  refine w_a f_0_15 ?_
  refine w_a f_0_16 ?_
  show Wp 0 19 [(0, .ref 21)] [] (gc 22 473 Lx ml40) _ _ e _
  refine w_a f_0_19 ?_
  refine w_a f_0_20 ?_
  refine w_a f_0_21 ?_
  show Wp 0 24 [(0, .ref 21)] [] (gc 22 473 Lx ml40) _ _ e _
  refine w_a f_0_24 ?_
  refine w_a f_0_25 ?_
  refine w_a f_0_26 ?_
  show Wp 0 29 [(0, .ref 21)] [] (gc 22 473 Lx ml40) _ _ e _
  refine w_a f_0_29 ?_
  refine w_a f_0_30 ?_
  refine w_a f_0_31 ?_
  show Wp 0 34 [(0, .ref 21)] [] (gc 22 473 Lx ml40) _ _ e _
  refine w_a f_0_34 ?_
  refine w_a f_0_35 ?_
  refine w_a f_0_36 ?_
  show Wp 0 39 [(0, .ref 21)] [] (gc 22 473 Lx ml40) _ _ e _
  refine w_a f_0_39 ?_
  show Wp 87 141 [(0, .ref 1)] [.ref 21, .ref 1] (gc 22 473 Lx ml40) _ _ e _
  refine w_a f_87_141 ?_
  show Wp 87 144 [(0, .ref 1)] [] (gc 22 473 Lx ml41) _ _ e _
  refine w_a f_87_144 ?_
  refine w_a f_87_145 ?_
  show Wp 87 148 [(0, .ref 1)] [.ref 22, .ref 1] (gc 23 475 Lx ml42) _ _ e _
  refine w_a f_87_148 ?_
  refine w_a f_87_149 ?_
  show Wp 64 0 [(0, .ref 22)] [] (gc 23 475 Lx ml42) _ _ e _
  refine w_a f_64_0 ?_
  refine w_a f_64_1 ?_
  show Wp 64 4 [(0, .ref 22)] [] (gc 23 475 Lx ml42) _ _ e _
  refine w_a f_64_4 ?_
  refine w_a f_64_5 ?_
  refine w_a f_64_6 ?_
  show Wp 64 9 [(0, .ref 22)] [] (gc 23 475 Lx ml42) _ _ e _
  refine w_a f_64_9 ?_
  refine w_a f_64_10 ?_
  show Wp 64 13 [(0, .ref 22)] [.ref 23, .ref 22] (gc 24 477 Lx ml43) _ _ e _
  refine w_a f_64_13 ?_
  refine w_a f_64_14 ?_
  show Wp 22 0 [(0, .ref 23)] [] (gc 24 477 Lx ml43) _ _ e _
  refine w_a f_22_0 ?_
  refine w_a f_22_1 ?_
  show Wp 22 4 [(0, .ref 23)] [] (gc 24 477 Lx ml43) _ _ e _
  refine w_a f_22_4 ?_
  refine w_a f_22_5 ?_
  refine w_a f_22_6 ?_
  show Wp 22 9 [(0, .ref 23)] [] (gc 24 477 Lx ml43) _ _ e _
  refine w_a f_22_9 ?_
  refine w_a f_22_10 ?_
  refine w_a f_22_11 ?_
  show Wp 22 14 [(0, .ref 23)] [] (gc 24 477 Lx ml43) _ _ e _
  refine w_a f_22_14 ?_
  show Wp 64 17 [(0, .ref 22)] [.ref 23, .ref 22] (gc 24 477 Lx ml43) _ _ e _
  refine w_a f_64_17 ?_
  show Wp 64 20 [(0, .ref 22)] [] (gc 24 477 Lx ml44) _ _ e _
  refine w_a f_64_20 ?_
  show Wp 87 152 [(0, .ref 1)] [.ref 22, .ref 1] (gc 24 477 Lx ml44) _ _ e _
  refine w_a f_87_152 ?_
  show Wp 87 155 [(0, .ref 1)] [] (gc 24 477 Lx ml45) _ _ e _
  refine w_a f_87_155 ?_
  refine w_a f_87_156 ?_
  show Wp 87 159 [(0, .ref 1)] [.ref 24, .ref 1] (gc 25 478 Lx ml46) _ _ e _
  refine w_a f_87_159 ?_
  refine w_a f_87_160 ?_
  show Wp 5 0 [(0, .ref 24)] [] (gc 25 478 Lx ml46) _ _ e _
  refine w_a f_5_0 ?_
  refine w_a f_5_1 ?_
  show Wp 5 4 [(0, .ref 24)] [] (gc 25 478 Lx ml46) _ _ e _
  refine w_a f_5_4 ?_
  refine w_a f_5_5 ?_
  refine w_a f_5_6 ?_
  show Wp 5 8 [(0, .ref 24)] [.ref 25, .ref 24] (gc 26 483 Lx ml47) _ _ e _
  refine w_a f_5_8 ?_
  show Wp 5 11 [(0, .ref 24)] [] (gc 26 483 Lx ml48) _ _ e _
  refine w_a f_5_11 ?_
  show Wp 87 163 [(0, .ref 1)] [.ref 24, .ref 1] (gc 26 483 Lx ml48) _ _ e _
  refine w_a f_87_163 ?_
  show Wp 87 166 [(0, .ref 1)] [] (gc 26 483 Lx ml49) _ _ e _
  refine w_a f_87_166 ?_
  refine w_a f_87_167 ?_
  show Wp 87 170 [(0, .ref 1)] [.ref 26, .ref 1] (gc 27 484 Lx ml50) _ _ e _
  refine w_a f_87_170 ?_
  refine w_a f_87_171 ?_
  show Wp 5 0 [(0, .ref 26)] [] (gc 27 484 Lx ml50) _ _ e _
  refine w_a f_5_0 ?_
  refine w_a f_5_1 ?_
  show Wp 5 4 [(0, .ref 26)] [] (gc 27 484 Lx ml50) _ _ e _
  refine w_a f_5_4 ?_
  refine w_a f_5_5 ?_
  refine w_a f_5_6 ?_
  show Wp 5 8 [(0, .ref 26)] [.ref 27, .ref 26] (gc 28 489 Lx ml51) _ _ e _
  refine w_a f_5_8 ?_
  show Wp 5 11 [(0, .ref 26)] [] (gc 28 489 Lx ml52) _ _ e _
  refine w_a f_5_11 ?_
  show Wp 87 174 [(0, .ref 1)] [.ref 26, .ref 1] (gc 28 489 Lx ml52) _ _ e _
  refine w_a f_87_174 ?_
  show Wp 87 177 [(0, .ref 1)] [] (gc 28 489 Lx ml53) _ _ e _
  refine w_a f_87_177 ?_
  refine w_a f_87_178 ?_
  refine w_a f_87_179 ?_
  show Wp 87 181 [(0, .ref 1)] [.ref 28, .ref 1] (gc 29 493 Lx ml54) _ _ e _
  refine w_a f_87_181 ?_
  show Wp 87 184 [(0, .ref 1)] [] (gc 29 493 Lx ml55) _ _ e _
  refine w_a f_87_184 ?_
  refine w_a f_87_185 ?_
  refine w_a f_87_186 ?_
  show Wp 87 188 [(0, .ref 1)] [.ref 29, .ref 1] (gc 30 497 Lx ml56) _ _ e _
  refine w_a f_87_188 ?_
  show Wp 87 191 [(0, .ref 1)] [] (gc 30 497 Lx ml57) _ _ e _
  refine w_a f_87_191 ?_
  refine w_a f_87_192 ?_
  show Wp 87 193 [(1, .int (Int32.ofInt 0)), (0, .ref 1)] [] (gc 30 497 Lx ml57) _ _ e _
  refine w_a f_87_193 ?_
  refine w_a f_87_194 ?_
  refine w_a f_87_195 ?_
  show Wp 87 198 [(1, .int (Int32.ofInt 0)), (0, .ref 1)] [] (gc 30 497 Lx ml57) _ _ e _
  refine w_a f_87_198 ?_
  refine w_a f_87_199 ?_
  show Wp 87 202 [(1, .int (Int32.ofInt 0)), (0, .ref 1)] [.ref 13] (gc 30 497 Lx ml57) _ _ e _
  refine w_a f_87_202 ?_
  refine w_a f_87_203 ?_
  show Wp 87 206 [(1, .int (Int32.ofInt 0)), (0, .ref 1)] [.ref 30, .int (Int32.ofInt 0), .ref 13] (gc 31 501 Lx ml58) _ _ e _
  refine w_a f_87_206 ?_
  refine w_a f_87_207 ?_
  show Wp 62 0 [(0, .ref 30)] [] (gc 31 501 Lx ml58) _ _ e _
  refine w_a f_62_0 ?_
  refine w_a f_62_1 ?_
  show Wp 62 4 [(0, .ref 30)] [] (gc 31 501 Lx ml58) _ _ e _
  refine w_a f_62_4 ?_
  refine w_a f_62_5 ?_
  refine w_a f_62_6 ?_
  show Wp 62 9 [(0, .ref 30)] [] (gc 31 501 Lx ml58) _ _ e _
  refine w_a f_62_9 ?_
  refine w_a f_62_10 ?_
  show Wp 62 13 [(0, .ref 30)] [.ref 31, .ref 30] (gc 32 508 Lx ml59) _ _ e _
  refine w_a f_62_13 ?_
  refine w_a f_62_14 ?_
  show Wp 11 0 [(0, .ref 31)] [] (gc 32 508 Lx ml59) _ _ e _
  refine w_a f_11_0 ?_
  refine w_a f_11_1 ?_
  show Wp 11 4 [(0, .ref 31)] [] (gc 32 508 Lx ml59) _ _ e _
  refine w_a f_11_4 ?_
  refine w_a f_11_5 ?_
  refine w_a f_11_6 ?_
  show Wp 11 9 [(0, .ref 31)] [] (gc 32 508 Lx ml59) _ _ e _
  refine w_a f_11_9 ?_
  refine w_a f_11_10 ?_
  refine w_a f_11_11 ?_
  show Wp 11 14 [(0, .ref 31)] [] (gc 32 508 Lx ml59) _ _ e _
  refine w_a f_11_14 ?_
  refine w_a f_11_15 ?_
  refine w_a f_11_16 ?_
  show Wp 11 19 [(0, .ref 31)] [] (gc 32 508 Lx ml59) _ _ e _
  refine w_a f_11_19 ?_
  refine w_a f_11_20 ?_
  refine w_a f_11_21 ?_
  show Wp 11 24 [(0, .ref 31)] [] (gc 32 508 Lx ml59) _ _ e _
  refine w_a f_11_24 ?_
  refine w_a f_11_25 ?_
  refine w_a f_11_26 ?_
  show Wp 11 28 [(0, .ref 31)] [.ref 32, .ref 31] (gc 33 512 Lx ml60) _ _ e _
  refine w_a f_11_28 ?_
  show Wp 11 31 [(0, .ref 31)] [] (gc 33 512 Lx ml61) _ _ e _
  refine w_a f_11_31 ?_
  refine w_a f_11_32 ?_
  refine w_a f_11_33 ?_
  show Wp 11 35 [(0, .ref 31)] [.ref 33, .ref 31] (gc 34 516 Lx ml62) _ _ e _
  refine w_a f_11_35 ?_
  show Wp 11 38 [(0, .ref 31)] [] (gc 34 516 Lx ml63) _ _ e _
  refine w_a f_11_38 ?_
  refine w_a f_11_39 ?_
  refine w_a f_11_40 ?_
  show Wp 11 42 [(0, .ref 31)] [.ref 34, .ref 31] (gc 35 520 Lx ml64) _ _ e _
  refine w_a f_11_42 ?_
  show Wp 11 45 [(0, .ref 31)] [] (gc 35 520 Lx ml65) _ _ e _
  refine w_a f_11_45 ?_
  show Wp 62 17 [(0, .ref 30)] [.ref 31, .ref 30] (gc 35 520 Lx ml65) _ _ e _
  refine w_a f_62_17 ?_
  show Wp 62 20 [(0, .ref 30)] [] (gc 35 520 Lx ml66) _ _ e _
  refine w_a f_62_20 ?_
  refine w_a f_62_21 ?_
  refine w_a f_62_22 ?_
  show Wp 62 25 [(0, .ref 30)] [] (gc 35 520 Lx ml66) _ _ e _
  refine w_a f_62_25 ?_
  refine w_a f_62_26 ?_
  show Wp 62 29 [(0, .ref 30)] [.ref 35, .ref 30] (gc 36 522 Lx ml67) _ _ e _
  refine w_a f_62_29 ?_
  refine w_a f_62_30 ?_
  show Wp 64 0 [(0, .ref 35)] [] (gc 36 522 Lx ml67) _ _ e _
  refine w_a f_64_0 ?_
  refine w_a f_64_1 ?_
  show Wp 64 4 [(0, .ref 35)] [] (gc 36 522 Lx ml67) _ _ e _
  refine w_a f_64_4 ?_
  refine w_a f_64_5 ?_
  refine w_a f_64_6 ?_
  show Wp 64 9 [(0, .ref 35)] [] (gc 36 522 Lx ml67) _ _ e _
  refine w_a f_64_9 ?_
  refine w_a f_64_10 ?_
  show Wp 64 13 [(0, .ref 35)] [.ref 36, .ref 35] (gc 37 524 Lx ml68) _ _ e _
  refine w_a f_64_13 ?_
  refine w_a f_64_14 ?_
  show Wp 22 0 [(0, .ref 36)] [] (gc 37 524 Lx ml68) _ _ e _
  refine w_a f_22_0 ?_
  refine w_a f_22_1 ?_
  show Wp 22 4 [(0, .ref 36)] [] (gc 37 524 Lx ml68) _ _ e _
  refine w_a f_22_4 ?_
  refine w_a f_22_5 ?_
  refine w_a f_22_6 ?_
  show Wp 22 9 [(0, .ref 36)] [] (gc 37 524 Lx ml68) _ _ e _
  refine w_a f_22_9 ?_
  refine w_a f_22_10 ?_
  refine w_a f_22_11 ?_
  show Wp 22 14 [(0, .ref 36)] [] (gc 37 524 Lx ml68) _ _ e _
  refine w_a f_22_14 ?_
  show Wp 64 17 [(0, .ref 35)] [.ref 36, .ref 35] (gc 37 524 Lx ml68) _ _ e _
  refine w_a f_64_17 ?_
  show Wp 64 20 [(0, .ref 35)] [] (gc 37 524 Lx ml69) _ _ e _
  refine w_a f_64_20 ?_
  show Wp 62 33 [(0, .ref 30)] [.ref 35, .ref 30] (gc 37 524 Lx ml69) _ _ e _
  refine w_a f_62_33 ?_
  show Wp 62 36 [(0, .ref 30)] [] (gc 37 524 Lx ml70) _ _ e _
  refine w_a f_62_36 ?_
  show Wp 87 210 [(1, .int (Int32.ofInt 0)), (0, .ref 1)] [.ref 30, .int (Int32.ofInt 0), .ref 13] (gc 37 524 Lx ml70) _ _ e _
  refine w_a f_87_210 ?_
  show Wp 87 211 [(1, .int (Int32.ofInt 0)), (0, .ref 1)] [] (gc 37 524 Lx ml71) _ _ e _
  refine w_a f_87_211 ?_
  show Wp 87 214 [(1, .int (Int32.ofInt 1)), (0, .ref 1)] [] (gc 37 524 Lx ml71) _ _ e _
  refine w_a f_87_214 ?_
  refine w_a f_87_193 ?_
  refine w_a f_87_194 ?_
  refine w_a f_87_195 ?_
  show Wp 87 198 [(1, .int (Int32.ofInt 1)), (0, .ref 1)] [] (gc 37 524 Lx ml71) _ _ e _
  refine w_a f_87_198 ?_
  refine w_a f_87_199 ?_
  show Wp 87 202 [(1, .int (Int32.ofInt 1)), (0, .ref 1)] [.ref 13] (gc 37 524 Lx ml71) _ _ e _
  refine w_a f_87_202 ?_
  refine w_a f_87_203 ?_
  show Wp 87 206 [(1, .int (Int32.ofInt 1)), (0, .ref 1)] [.ref 37, .int (Int32.ofInt 1), .ref 13] (gc 38 528 Lx ml72) _ _ e _
  refine w_a f_87_206 ?_
  refine w_a f_87_207 ?_
  show Wp 62 0 [(0, .ref 37)] [] (gc 38 528 Lx ml72) _ _ e _
  refine w_a f_62_0 ?_
  refine w_a f_62_1 ?_
  show Wp 62 4 [(0, .ref 37)] [] (gc 38 528 Lx ml72) _ _ e _
  refine w_a f_62_4 ?_
  refine w_a f_62_5 ?_
  refine w_a f_62_6 ?_
  show Wp 62 9 [(0, .ref 37)] [] (gc 38 528 Lx ml72) _ _ e _
  refine w_a f_62_9 ?_
  refine w_a f_62_10 ?_
  show Wp 62 13 [(0, .ref 37)] [.ref 38, .ref 37] (gc 39 535 Lx ml73) _ _ e _
  refine w_a f_62_13 ?_
  refine w_a f_62_14 ?_
  show Wp 11 0 [(0, .ref 38)] [] (gc 39 535 Lx ml73) _ _ e _
  refine w_a f_11_0 ?_
  refine w_a f_11_1 ?_
  show Wp 11 4 [(0, .ref 38)] [] (gc 39 535 Lx ml73) _ _ e _
  refine w_a f_11_4 ?_
  refine w_a f_11_5 ?_
  refine w_a f_11_6 ?_
  show Wp 11 9 [(0, .ref 38)] [] (gc 39 535 Lx ml73) _ _ e _
  refine w_a f_11_9 ?_
  refine w_a f_11_10 ?_
  refine w_a f_11_11 ?_
  show Wp 11 14 [(0, .ref 38)] [] (gc 39 535 Lx ml73) _ _ e _
  refine w_a f_11_14 ?_
  refine w_a f_11_15 ?_
  refine w_a f_11_16 ?_
  show Wp 11 19 [(0, .ref 38)] [] (gc 39 535 Lx ml73) _ _ e _
  refine w_a f_11_19 ?_
  refine w_a f_11_20 ?_
  refine w_a f_11_21 ?_
  show Wp 11 24 [(0, .ref 38)] [] (gc 39 535 Lx ml73) _ _ e _
  refine w_a f_11_24 ?_
  refine w_a f_11_25 ?_
  refine w_a f_11_26 ?_
  show Wp 11 28 [(0, .ref 38)] [.ref 39, .ref 38] (gc 40 539 Lx ml74) _ _ e _
  refine w_a f_11_28 ?_
  show Wp 11 31 [(0, .ref 38)] [] (gc 40 539 Lx ml75) _ _ e _
  refine w_a f_11_31 ?_
  refine w_a f_11_32 ?_
  refine w_a f_11_33 ?_
  show Wp 11 35 [(0, .ref 38)] [.ref 40, .ref 38] (gc 41 543 Lx ml76) _ _ e _
  refine w_a f_11_35 ?_
  show Wp 11 38 [(0, .ref 38)] [] (gc 41 543 Lx ml77) _ _ e _
  refine w_a f_11_38 ?_
  refine w_a f_11_39 ?_
  refine w_a f_11_40 ?_
  show Wp 11 42 [(0, .ref 38)] [.ref 41, .ref 38] (gc 42 547 Lx ml78) _ _ e _
  refine w_a f_11_42 ?_
  show Wp 11 45 [(0, .ref 38)] [] (gc 42 547 Lx ml79) _ _ e _
  refine w_a f_11_45 ?_
  show Wp 62 17 [(0, .ref 37)] [.ref 38, .ref 37] (gc 42 547 Lx ml79) _ _ e _
  refine w_a f_62_17 ?_
  show Wp 62 20 [(0, .ref 37)] [] (gc 42 547 Lx ml80) _ _ e _
  refine w_a f_62_20 ?_
  refine w_a f_62_21 ?_
  refine w_a f_62_22 ?_
  show Wp 62 25 [(0, .ref 37)] [] (gc 42 547 Lx ml80) _ _ e _
  refine w_a f_62_25 ?_
  refine w_a f_62_26 ?_
  show Wp 62 29 [(0, .ref 37)] [.ref 42, .ref 37] (gc 43 549 Lx ml81) _ _ e _
  refine w_a f_62_29 ?_
  refine w_a f_62_30 ?_
  show Wp 64 0 [(0, .ref 42)] [] (gc 43 549 Lx ml81) _ _ e _
  refine w_a f_64_0 ?_
  refine w_a f_64_1 ?_
  show Wp 64 4 [(0, .ref 42)] [] (gc 43 549 Lx ml81) _ _ e _
  refine w_a f_64_4 ?_
  refine w_a f_64_5 ?_
  refine w_a f_64_6 ?_
  show Wp 64 9 [(0, .ref 42)] [] (gc 43 549 Lx ml81) _ _ e _
  refine w_a f_64_9 ?_
  refine w_a f_64_10 ?_
  show Wp 64 13 [(0, .ref 42)] [.ref 43, .ref 42] (gc 44 551 Lx ml82) _ _ e _
  refine w_a f_64_13 ?_
  refine w_a f_64_14 ?_
  show Wp 22 0 [(0, .ref 43)] [] (gc 44 551 Lx ml82) _ _ e _
  refine w_a f_22_0 ?_
  refine w_a f_22_1 ?_
  show Wp 22 4 [(0, .ref 43)] [] (gc 44 551 Lx ml82) _ _ e _
  refine w_a f_22_4 ?_
  refine w_a f_22_5 ?_
  refine w_a f_22_6 ?_
  show Wp 22 9 [(0, .ref 43)] [] (gc 44 551 Lx ml82) _ _ e _
  refine w_a f_22_9 ?_
  refine w_a f_22_10 ?_
  refine w_a f_22_11 ?_
  show Wp 22 14 [(0, .ref 43)] [] (gc 44 551 Lx ml82) _ _ e _
  refine w_a f_22_14 ?_
  show Wp 64 17 [(0, .ref 42)] [.ref 43, .ref 42] (gc 44 551 Lx ml82) _ _ e _
  refine w_a f_64_17 ?_
  show Wp 64 20 [(0, .ref 42)] [] (gc 44 551 Lx ml83) _ _ e _
  refine w_a f_64_20 ?_
  show Wp 62 33 [(0, .ref 37)] [.ref 42, .ref 37] (gc 44 551 Lx ml83) _ _ e _
  refine w_a f_62_33 ?_
  show Wp 62 36 [(0, .ref 37)] [] (gc 44 551 Lx ml84) _ _ e _
  refine w_a f_62_36 ?_
  show Wp 87 210 [(1, .int (Int32.ofInt 1)), (0, .ref 1)] [.ref 37, .int (Int32.ofInt 1), .ref 13] (gc 44 551 Lx ml84) _ _ e _
  refine w_a f_87_210 ?_
  show Wp 87 211 [(1, .int (Int32.ofInt 1)), (0, .ref 1)] [] (gc 44 551 Lx ml85) _ _ e _
  refine w_a f_87_211 ?_
  show Wp 87 214 [(1, .int (Int32.ofInt 2)), (0, .ref 1)] [] (gc 44 551 Lx ml85) _ _ e _
  refine w_a f_87_214 ?_
  refine w_a f_87_193 ?_
  refine w_a f_87_194 ?_
  refine w_a f_87_195 ?_
  show Wp 87 198 [(1, .int (Int32.ofInt 2)), (0, .ref 1)] [] (gc 44 551 Lx ml85) _ _ e _
  refine w_a f_87_198 ?_
  refine w_a f_87_199 ?_
  show Wp 87 202 [(1, .int (Int32.ofInt 2)), (0, .ref 1)] [.ref 13] (gc 44 551 Lx ml85) _ _ e _
  refine w_a f_87_202 ?_
  refine w_a f_87_203 ?_
  show Wp 87 206 [(1, .int (Int32.ofInt 2)), (0, .ref 1)] [.ref 44, .int (Int32.ofInt 2), .ref 13] (gc 45 555 Lx ml86) _ _ e _
  refine w_a f_87_206 ?_
  refine w_a f_87_207 ?_
  show Wp 62 0 [(0, .ref 44)] [] (gc 45 555 Lx ml86) _ _ e _
  refine w_a f_62_0 ?_
  refine w_a f_62_1 ?_
  show Wp 62 4 [(0, .ref 44)] [] (gc 45 555 Lx ml86) _ _ e _
  refine w_a f_62_4 ?_
  refine w_a f_62_5 ?_
  refine w_a f_62_6 ?_
  show Wp 62 9 [(0, .ref 44)] [] (gc 45 555 Lx ml86) _ _ e _
  refine w_a f_62_9 ?_
  refine w_a f_62_10 ?_
  show Wp 62 13 [(0, .ref 44)] [.ref 45, .ref 44] (gc 46 562 Lx ml87) _ _ e _
  refine w_a f_62_13 ?_
  refine w_a f_62_14 ?_
  show Wp 11 0 [(0, .ref 45)] [] (gc 46 562 Lx ml87) _ _ e _
  refine w_a f_11_0 ?_
  refine w_a f_11_1 ?_
  show Wp 11 4 [(0, .ref 45)] [] (gc 46 562 Lx ml87) _ _ e _
  refine w_a f_11_4 ?_
  refine w_a f_11_5 ?_
  refine w_a f_11_6 ?_
  show Wp 11 9 [(0, .ref 45)] [] (gc 46 562 Lx ml87) _ _ e _
  refine w_a f_11_9 ?_
  refine w_a f_11_10 ?_
  refine w_a f_11_11 ?_
  show Wp 11 14 [(0, .ref 45)] [] (gc 46 562 Lx ml87) _ _ e _
  refine w_a f_11_14 ?_
  refine w_a f_11_15 ?_
  refine w_a f_11_16 ?_
  show Wp 11 19 [(0, .ref 45)] [] (gc 46 562 Lx ml87) _ _ e _
  refine w_a f_11_19 ?_
  refine w_a f_11_20 ?_
  refine w_a f_11_21 ?_
  show Wp 11 24 [(0, .ref 45)] [] (gc 46 562 Lx ml87) _ _ e _
  refine w_a f_11_24 ?_
  refine w_a f_11_25 ?_
  refine w_a f_11_26 ?_
  show Wp 11 28 [(0, .ref 45)] [.ref 46, .ref 45] (gc 47 566 Lx ml88) _ _ e _
  refine w_a f_11_28 ?_
  show Wp 11 31 [(0, .ref 45)] [] (gc 47 566 Lx ml89) _ _ e _
  refine w_a f_11_31 ?_
  refine w_a f_11_32 ?_
  refine w_a f_11_33 ?_
  show Wp 11 35 [(0, .ref 45)] [.ref 47, .ref 45] (gc 48 570 Lx ml90) _ _ e _
  refine w_a f_11_35 ?_
  show Wp 11 38 [(0, .ref 45)] [] (gc 48 570 Lx ml91) _ _ e _
  refine w_a f_11_38 ?_
  refine w_a f_11_39 ?_
  refine w_a f_11_40 ?_
  show Wp 11 42 [(0, .ref 45)] [.ref 48, .ref 45] (gc 49 574 Lx ml92) _ _ e _
  refine w_a f_11_42 ?_
  show Wp 11 45 [(0, .ref 45)] [] (gc 49 574 Lx ml93) _ _ e _
  refine w_a f_11_45 ?_
  show Wp 62 17 [(0, .ref 44)] [.ref 45, .ref 44] (gc 49 574 Lx ml93) _ _ e _
  refine w_a f_62_17 ?_
  show Wp 62 20 [(0, .ref 44)] [] (gc 49 574 Lx ml94) _ _ e _
  refine w_a f_62_20 ?_
  refine w_a f_62_21 ?_
  refine w_a f_62_22 ?_
  show Wp 62 25 [(0, .ref 44)] [] (gc 49 574 Lx ml94) _ _ e _
  refine w_a f_62_25 ?_
  refine w_a f_62_26 ?_
  show Wp 62 29 [(0, .ref 44)] [.ref 49, .ref 44] (gc 50 576 Lx ml95) _ _ e _
  refine w_a f_62_29 ?_
  refine w_a f_62_30 ?_
  show Wp 64 0 [(0, .ref 49)] [] (gc 50 576 Lx ml95) _ _ e _
  refine w_a f_64_0 ?_
  refine w_a f_64_1 ?_
  show Wp 64 4 [(0, .ref 49)] [] (gc 50 576 Lx ml95) _ _ e _
  refine w_a f_64_4 ?_
  refine w_a f_64_5 ?_
  refine w_a f_64_6 ?_
  show Wp 64 9 [(0, .ref 49)] [] (gc 50 576 Lx ml95) _ _ e _
  refine w_a f_64_9 ?_
  refine w_a f_64_10 ?_
  show Wp 64 13 [(0, .ref 49)] [.ref 50, .ref 49] (gc 51 578 Lx ml96) _ _ e _
  refine w_a f_64_13 ?_
  refine w_a f_64_14 ?_
  show Wp 22 0 [(0, .ref 50)] [] (gc 51 578 Lx ml96) _ _ e _
  refine w_a f_22_0 ?_
  refine w_a f_22_1 ?_
  show Wp 22 4 [(0, .ref 50)] [] (gc 51 578 Lx ml96) _ _ e _
  refine w_a f_22_4 ?_
  refine w_a f_22_5 ?_
  refine w_a f_22_6 ?_
  show Wp 22 9 [(0, .ref 50)] [] (gc 51 578 Lx ml96) _ _ e _
  refine w_a f_22_9 ?_
  refine w_a f_22_10 ?_
  refine w_a f_22_11 ?_
  show Wp 22 14 [(0, .ref 50)] [] (gc 51 578 Lx ml96) _ _ e _
  refine w_a f_22_14 ?_
  show Wp 64 17 [(0, .ref 49)] [.ref 50, .ref 49] (gc 51 578 Lx ml96) _ _ e _
  refine w_a f_64_17 ?_
  show Wp 64 20 [(0, .ref 49)] [] (gc 51 578 Lx ml97) _ _ e _
  refine w_a f_64_20 ?_
  show Wp 62 33 [(0, .ref 44)] [.ref 49, .ref 44] (gc 51 578 Lx ml97) _ _ e _
  refine w_a f_62_33 ?_
  show Wp 62 36 [(0, .ref 44)] [] (gc 51 578 Lx ml98) _ _ e _
  refine w_a f_62_36 ?_
  show Wp 87 210 [(1, .int (Int32.ofInt 2)), (0, .ref 1)] [.ref 44, .int (Int32.ofInt 2), .ref 13] (gc 51 578 Lx ml98) _ _ e _
  refine w_a f_87_210 ?_
  show Wp 87 211 [(1, .int (Int32.ofInt 2)), (0, .ref 1)] [] (gc 51 578 Lx ml99) _ _ e _
  refine w_a f_87_211 ?_
  show Wp 87 214 [(1, .int (Int32.ofInt 3)), (0, .ref 1)] [] (gc 51 578 Lx ml99) _ _ e _
  refine w_a f_87_214 ?_
  refine w_a f_87_193 ?_
  refine w_a f_87_194 ?_
  refine w_a f_87_195 ?_
  show Wp 87 198 [(1, .int (Int32.ofInt 3)), (0, .ref 1)] [] (gc 51 578 Lx ml99) _ _ e _
  refine w_a f_87_198 ?_
  refine w_a f_87_199 ?_
  show Wp 87 202 [(1, .int (Int32.ofInt 3)), (0, .ref 1)] [.ref 13] (gc 51 578 Lx ml99) _ _ e _
  refine w_a f_87_202 ?_
  refine w_a f_87_203 ?_
  show Wp 87 206 [(1, .int (Int32.ofInt 3)), (0, .ref 1)] [.ref 51, .int (Int32.ofInt 3), .ref 13] (gc 52 582 Lx ml100) _ _ e _
  refine w_a f_87_206 ?_
  refine w_a f_87_207 ?_
  show Wp 62 0 [(0, .ref 51)] [] (gc 52 582 Lx ml100) _ _ e _
  refine w_a f_62_0 ?_
  refine w_a f_62_1 ?_
  show Wp 62 4 [(0, .ref 51)] [] (gc 52 582 Lx ml100) _ _ e _
  refine w_a f_62_4 ?_
  refine w_a f_62_5 ?_
  refine w_a f_62_6 ?_
  show Wp 62 9 [(0, .ref 51)] [] (gc 52 582 Lx ml100) _ _ e _
  refine w_a f_62_9 ?_
  refine w_a f_62_10 ?_
  show Wp 62 13 [(0, .ref 51)] [.ref 52, .ref 51] (gc 53 589 Lx ml101) _ _ e _
  refine w_a f_62_13 ?_
  refine w_a f_62_14 ?_
  show Wp 11 0 [(0, .ref 52)] [] (gc 53 589 Lx ml101) _ _ e _
  refine w_a f_11_0 ?_
  refine w_a f_11_1 ?_
  show Wp 11 4 [(0, .ref 52)] [] (gc 53 589 Lx ml101) _ _ e _
  refine w_a f_11_4 ?_
  refine w_a f_11_5 ?_
  refine w_a f_11_6 ?_
  show Wp 11 9 [(0, .ref 52)] [] (gc 53 589 Lx ml101) _ _ e _
  refine w_a f_11_9 ?_
  refine w_a f_11_10 ?_
  refine w_a f_11_11 ?_
  show Wp 11 14 [(0, .ref 52)] [] (gc 53 589 Lx ml101) _ _ e _
  refine w_a f_11_14 ?_
  refine w_a f_11_15 ?_
  refine w_a f_11_16 ?_
  show Wp 11 19 [(0, .ref 52)] [] (gc 53 589 Lx ml101) _ _ e _
  refine w_a f_11_19 ?_
  refine w_a f_11_20 ?_
  refine w_a f_11_21 ?_
  show Wp 11 24 [(0, .ref 52)] [] (gc 53 589 Lx ml101) _ _ e _
  refine w_a f_11_24 ?_
  refine w_a f_11_25 ?_
  refine w_a f_11_26 ?_
  show Wp 11 28 [(0, .ref 52)] [.ref 53, .ref 52] (gc 54 593 Lx ml102) _ _ e _
  refine w_a f_11_28 ?_
  show Wp 11 31 [(0, .ref 52)] [] (gc 54 593 Lx ml103) _ _ e _
  refine w_a f_11_31 ?_
  refine w_a f_11_32 ?_
  refine w_a f_11_33 ?_
  show Wp 11 35 [(0, .ref 52)] [.ref 54, .ref 52] (gc 55 597 Lx ml104) _ _ e _
  refine w_a f_11_35 ?_
  show Wp 11 38 [(0, .ref 52)] [] (gc 55 597 Lx ml105) _ _ e _
  refine w_a f_11_38 ?_
  refine w_a f_11_39 ?_
  refine w_a f_11_40 ?_
  show Wp 11 42 [(0, .ref 52)] [.ref 55, .ref 52] (gc 56 601 Lx ml106) _ _ e _
  refine w_a f_11_42 ?_
  show Wp 11 45 [(0, .ref 52)] [] (gc 56 601 Lx ml107) _ _ e _
  refine w_a f_11_45 ?_
  show Wp 62 17 [(0, .ref 51)] [.ref 52, .ref 51] (gc 56 601 Lx ml107) _ _ e _
  refine w_a f_62_17 ?_
  show Wp 62 20 [(0, .ref 51)] [] (gc 56 601 Lx ml108) _ _ e _
  refine w_a f_62_20 ?_
  refine w_a f_62_21 ?_
  refine w_a f_62_22 ?_
  show Wp 62 25 [(0, .ref 51)] [] (gc 56 601 Lx ml108) _ _ e _
  refine w_a f_62_25 ?_
  refine w_a f_62_26 ?_
  show Wp 62 29 [(0, .ref 51)] [.ref 56, .ref 51] (gc 57 603 Lx ml109) _ _ e _
  refine w_a f_62_29 ?_
  refine w_a f_62_30 ?_
  show Wp 64 0 [(0, .ref 56)] [] (gc 57 603 Lx ml109) _ _ e _
  refine w_a f_64_0 ?_
  refine w_a f_64_1 ?_
  show Wp 64 4 [(0, .ref 56)] [] (gc 57 603 Lx ml109) _ _ e _
  refine w_a f_64_4 ?_
  refine w_a f_64_5 ?_
  refine w_a f_64_6 ?_
  show Wp 64 9 [(0, .ref 56)] [] (gc 57 603 Lx ml109) _ _ e _
  refine w_a f_64_9 ?_
  refine w_a f_64_10 ?_
  show Wp 64 13 [(0, .ref 56)] [.ref 57, .ref 56] (gc 58 605 Lx ml110) _ _ e _
  refine w_a f_64_13 ?_
  refine w_a f_64_14 ?_
  show Wp 22 0 [(0, .ref 57)] [] (gc 58 605 Lx ml110) _ _ e _
  refine w_a f_22_0 ?_
  refine w_a f_22_1 ?_
  show Wp 22 4 [(0, .ref 57)] [] (gc 58 605 Lx ml110) _ _ e _
  refine w_a f_22_4 ?_
  refine w_a f_22_5 ?_
  refine w_a f_22_6 ?_
  show Wp 22 9 [(0, .ref 57)] [] (gc 58 605 Lx ml110) _ _ e _
  refine w_a f_22_9 ?_
  refine w_a f_22_10 ?_
  refine w_a f_22_11 ?_
  show Wp 22 14 [(0, .ref 57)] [] (gc 58 605 Lx ml110) _ _ e _
  refine w_a f_22_14 ?_
  show Wp 64 17 [(0, .ref 56)] [.ref 57, .ref 56] (gc 58 605 Lx ml110) _ _ e _
  refine w_a f_64_17 ?_
  show Wp 64 20 [(0, .ref 56)] [] (gc 58 605 Lx ml111) _ _ e _
  refine w_a f_64_20 ?_
  show Wp 62 33 [(0, .ref 51)] [.ref 56, .ref 51] (gc 58 605 Lx ml111) _ _ e _
  refine w_a f_62_33 ?_
  show Wp 62 36 [(0, .ref 51)] [] (gc 58 605 Lx ml112) _ _ e _
  refine w_a f_62_36 ?_
  show Wp 87 210 [(1, .int (Int32.ofInt 3)), (0, .ref 1)] [.ref 51, .int (Int32.ofInt 3), .ref 13] (gc 58 605 Lx ml112) _ _ e _
  refine w_a f_87_210 ?_
  show Wp 87 211 [(1, .int (Int32.ofInt 3)), (0, .ref 1)] [] (gc 58 605 Lx ml113) _ _ e _
  refine w_a f_87_211 ?_
  show Wp 87 214 [(1, .int (Int32.ofInt 4)), (0, .ref 1)] [] (gc 58 605 Lx ml113) _ _ e _
  refine w_a f_87_214 ?_
  refine w_a f_87_193 ?_
  refine w_a f_87_194 ?_
  refine w_a f_87_195 ?_
  show Wp 87 217 [(1, .int (Int32.ofInt 4)), (0, .ref 1)] [] (gc 58 605 Lx ml113) _ _ e _
  refine w_a f_87_217 ?_
  show Wp 420 7 [(0, .ref 0)] [.ref 1] (gc 58 605 Lx ml113) _ _ e _
  refine w_a f_420_7 ?_
  show Wp 420 8 [(1, .ref 1), (0, .ref 0)] [] (gc 58 605 Lx ml113) _ _ e _
  refine w_a f_420_8 ?_
  show Wp 420 11 [(1, .ref 1), (0, .ref 0)] [.ref 58] (gc 59 649 Lx ml114) _ _ e _
  refine w_a f_420_11 ?_
  refine w_a f_420_12 ?_
  show Wp 205 0 [(0, .ref 58)] [] (gc 59 649 Lx ml114) _ _ e _
  refine w_a f_205_0 ?_
  refine w_a f_205_1 ?_
  show Wp 205 4 [(0, .ref 58)] [] (gc 59 649 Lx ml114) _ _ e _
  refine w_a f_205_4 ?_
  refine w_a f_205_5 ?_
  refine w_a f_205_7 ?_
  show Wp 205 9 [(0, .ref 58)] [.ref 59, .ref 58] (gc 60 665 Lx ml115) _ _ e _
  refine w_a f_205_9 ?_
  show Wp 205 12 [(0, .ref 58)] [] (gc 60 665 Lx ml116) _ _ e _
  refine w_a f_205_12 ?_
  refine w_a f_205_13 ?_
  refine w_a f_205_15 ?_
  show Wp 205 17 [(0, .ref 58)] [.ref 60, .ref 58] (gc 61 733 Lx ml117) _ _ e _
  refine w_a f_205_17 ?_
  show Wp 205 20 [(0, .ref 58)] [] (gc 61 733 Lx ml118) _ _ e _
  refine w_a f_205_20 ?_
  refine w_a f_205_21 ?_
  refine w_a f_205_24 ?_
  show Wp 205 26 [(0, .ref 58)] [.ref 61, .ref 58] (gc 62 917 Lx ml119) _ _ e _
  refine w_a f_205_26 ?_
  show Wp 205 29 [(0, .ref 58)] [] (gc 62 917 Lx ml120) _ _ e _
  refine w_a f_205_29 ?_
  refine w_a f_205_30 ?_
  refine w_a f_205_33 ?_
  show Wp 205 35 [(0, .ref 58)] [.ref 62, .ref 58] (gc 63 1101 Lx ml121) _ _ e _
  refine w_a f_205_35 ?_
  show Wp 205 38 [(0, .ref 58)] [] (gc 63 1101 Lx ml122) _ _ e _
  refine w_a f_205_38 ?_
  refine w_a f_205_39 ?_
  refine w_a f_205_41 ?_
  show Wp 205 43 [(0, .ref 58)] [.ref 63, .ref 58] (gc 64 1109 Lx ml123) _ _ e _
  refine w_a f_205_43 ?_
  show Wp 205 46 [(0, .ref 58)] [] (gc 64 1109 Lx ml124) _ _ e _
  refine w_a f_205_46 ?_
  refine w_a f_205_47 ?_
  refine w_a f_205_49 ?_
  show Wp 205 51 [(0, .ref 58)] [.ref 64, .ref 58] (gc 65 1125 Lx ml125) _ _ e _
  refine w_a f_205_51 ?_
  show Wp 205 54 [(0, .ref 58)] [] (gc 65 1125 Lx ml126) _ _ e _
  refine w_a f_205_54 ?_
  refine w_a f_205_55 ?_
  refine w_a f_205_58 ?_
  show Wp 205 60 [(0, .ref 58)] [.ref 65, .ref 58] (gc 66 1279 Lx ml127) _ _ e _
  refine w_a f_205_60 ?_
  show Wp 205 63 [(0, .ref 58)] [] (gc 66 1279 Lx ml128) _ _ e _
  refine w_a f_205_63 ?_
  refine w_a f_205_64 ?_
  refine w_a f_205_65 ?_
  show Wp 205 67 [(0, .ref 58)] [.ref 66, .ref 58] (gc 67 1283 Lx ml129) _ _ e _
  refine w_a f_205_67 ?_
  show Wp 205 70 [(0, .ref 58)] [] (gc 67 1283 Lx ml130) _ _ e _
  refine w_a f_205_70 ?_
  refine w_a f_205_71 ?_
  refine w_a f_205_72 ?_
  show Wp 205 74 [(0, .ref 58)] [.ref 67, .ref 58] (gc 68 1287 Lx ml131) _ _ e _
  refine w_a f_205_74 ?_
  show Wp 205 77 [(0, .ref 58)] [] (gc 68 1287 Lx ml132) _ _ e _
  refine w_a f_205_77 ?_
  refine w_a f_205_78 ?_
  refine w_a f_205_79 ?_
  show Wp 205 81 [(0, .ref 58)] [.ref 68, .ref 58] (gc 69 1291 Lx ml133) _ _ e _
  refine w_a f_205_81 ?_
  show Wp 205 84 [(0, .ref 58)] [] (gc 69 1291 Lx ml134) _ _ e _
  refine w_a f_205_84 ?_
  refine w_a f_205_85 ?_
  refine w_a f_205_86 ?_
  show Wp 205 88 [(0, .ref 58)] [.ref 69, .ref 58] (gc 70 1295 Lx ml135) _ _ e _
  refine w_a f_205_88 ?_
  show Wp 205 91 [(0, .ref 58)] [] (gc 70 1295 Lx ml136) _ _ e _
  refine w_a f_205_91 ?_
  refine w_a f_205_92 ?_
  show Wp 205 95 [(0, .ref 58)] [.ref 59] (gc 70 1295 Lx ml136) _ _ e _
  refine w_a f_205_95 ?_
  refine w_a f_205_96 ?_
  refine w_a f_205_97 ?_
  show Wp 205 98 [(0, .ref 58)] [] (gc 70 1295 Lx ml136) _ _ e _
  refine w_a f_205_98 ?_
  refine w_a f_205_99 ?_
  show Wp 205 102 [(0, .ref 58)] [.ref 59] (gc 70 1295 Lx ml136) _ _ e _
  refine w_a f_205_102 ?_
  refine w_a f_205_103 ?_
  refine w_a f_205_104 ?_
  show Wp 205 105 [(0, .ref 58)] [] (gc 70 1295 Lx ml136) _ _ e _
  refine w_a f_205_105 ?_
  refine w_a f_205_106 ?_
  refine w_a f_205_107 ?_
  show Wp 205 110 [(0, .ref 58)] [] (gc 70 1295 Lx ml136) _ _ e _
  refine w_a f_205_110 ?_
  refine w_a f_205_111 ?_
  refine w_a f_205_113 ?_
  show Wp 205 116 [(0, .ref 58)] [] (gc 70 1295 Lx ml136) _ _ e _
  refine w_a f_205_116 ?_
  refine w_a f_205_117 ?_
  show Wp 205 118 [(1, .int (Int32.ofInt 0)), (0, .ref 58)] [] (gc 70 1295 Lx ml136) _ _ e _
  refine w_n (ks := [0, 1]) rfl ?_
  refine fin _ _ ?_
  refine ⟨⟨⟨rfl, rfl, rfl, rfl, fun k hk => absurd hk (Nat.not_lt_zero k)⟩, ⟨⟨rfl, rfl⟩, by omega, by omega⟩, fun k hk => ht2 k hk, fun k hk => ⟨fun _ => ?_, fun c w => by cases w⟩⟩, ⟨⟨rfl, rfl, rfl, rfl, fun k hk => absurd hk (Nat.not_lt_zero k)⟩, ⟨⟨rfl, rfl⟩, by omega, by omega⟩, fun k hk => ⟨fun _ => ?_, fun c w => by cases w⟩⟩, rfl, fun k hk => absurd hk (Nat.not_lt_zero k)⟩
  · have : k = 0 ∨ k = 1 ∨ k = 2 ∨ k = 3 := by omega
    rcases this with rfl | rfl | rfl | rfl
    · rfl
    · rfl
    · rfl
    · rfl
  · have : k = 0 ∨ k = 1 ∨ k = 2 ∨ k = 3 := by omega
    rcases this with rfl | rfl | rfl | rfl
    · rfl
    · rfl
    · rfl
    · rfl
