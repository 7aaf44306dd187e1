/-! Pieces with constants: the shelves, by program. -/
set_option maxRecDepth 10000 in
set_option maxHeartbeats 4000000 in
theorem s_14_0_52 {Lx : Nat} {I : Mi} {L : Ml} {e : Nat} {Q : Kq} {x1 : Int32} (h :
    (if x1 < 0 then
     Q (.inl (some (.int (Int32.ofInt 0)))) (gE Lx) I L e
    else
     (if x1 < (Int32.ofInt 4) then
      (inb x1 4 (
       Q (.inl (some (.int (I 54 x1.toNatClampNeg)))) (gE Lx) I L e)
      False)
     else
      Q (.inl (some (.int (Int32.ofInt 0)))) (gE Lx) I L e))) :
    Wp 14 0 [(0, .ref 52), (1, .int x1)] [] (gE Lx) I L e Q := by
  refine w_a f_14_0 ?_
  refine w_a f_14_1 ?_
  refine w_a f_14_2 ?_
  refine w_a (ls := [(0, .ref 52), (1, .int x1)]) f_13_0 ?_
  refine w_a f_13_1 ?_
  refine i_m (fun h => ?_) (fun h => ?_) h
  · refine w_a f_13_13 ?_
    refine w_a f_13_14 ?_
    refine w_a (ls := [(0, .ref 52), (1, .int x1)]) f_14_5 ?_
    refine w_a f_14_17 ?_
    refine w_a f_14_18 ?_
    exact h
  · refine w_a f_13_4 ?_
    refine w_a f_13_5 ?_
    refine w_a f_13_6 ?_
    refine i_m (fun h => ?_) (fun h => ?_) h
    · refine w_a f_13_9 ?_
      refine w_a f_13_10 ?_
      refine w_a f_13_14 ?_
      refine w_a (ls := [(0, .ref 52), (1, .int x1)]) f_14_5 ?_
      refine w_a f_14_8 ?_
      refine w_a f_14_9 ?_
      refine w_a f_14_12 ?_
      refine w_a f_14_13 ?_
      refine n_m (fun h => ?_) h
      refine w_a f_14_14 ?_
      refine w_a f_14_18 ?_
      exact h
    · refine w_a f_13_13 ?_
      refine w_a f_13_14 ?_
      refine w_a (ls := [(0, .ref 52), (1, .int x1)]) f_14_5 ?_
      refine w_a f_14_17 ?_
      refine w_a f_14_18 ?_
      exact h
set_option maxRecDepth 10000 in
set_option maxHeartbeats 4000000 in
theorem s_15_0_52 {Lx : Nat} {I : Mi} {L : Ml} {e : Nat} {Q : Kq} {x1 : Int32} (h :
    (if x1 < 0 then
     Q (.inl (some (.int (Int32.ofInt 1)))) (gE Lx) I L e
    else
     (if x1 < (Int32.ofInt 4) then
      (inb x1 4 (
       Q (.inl (some (.int (I 55 x1.toNatClampNeg)))) (gE Lx) I L e)
      False)
     else
      Q (.inl (some (.int (Int32.ofInt 1)))) (gE Lx) I L e))) :
    Wp 15 0 [(0, .ref 52), (1, .int x1)] [] (gE Lx) I L e Q := by
  refine w_a f_15_0 ?_
  refine w_a f_15_1 ?_
  refine w_a f_15_2 ?_
  refine w_a (ls := [(0, .ref 52), (1, .int x1)]) f_13_0 ?_
  refine w_a f_13_1 ?_
  refine i_m (fun h => ?_) (fun h => ?_) h
  · refine w_a f_13_13 ?_
    refine w_a f_13_14 ?_
    refine w_a (ls := [(0, .ref 52), (1, .int x1)]) f_15_5 ?_
    refine w_a f_15_17 ?_
    refine w_a f_15_18 ?_
    exact h
  · refine w_a f_13_4 ?_
    refine w_a f_13_5 ?_
    refine w_a f_13_6 ?_
    refine i_m (fun h => ?_) (fun h => ?_) h
    · refine w_a f_13_9 ?_
      refine w_a f_13_10 ?_
      refine w_a f_13_14 ?_
      refine w_a (ls := [(0, .ref 52), (1, .int x1)]) f_15_5 ?_
      refine w_a f_15_8 ?_
      refine w_a f_15_9 ?_
      refine w_a f_15_12 ?_
      refine w_a f_15_13 ?_
      refine n_m (fun h => ?_) h
      refine w_a f_15_14 ?_
      refine w_a f_15_18 ?_
      exact h
    · refine w_a f_13_13 ?_
      refine w_a f_13_14 ?_
      refine w_a (ls := [(0, .ref 52), (1, .int x1)]) f_15_5 ?_
      refine w_a f_15_17 ?_
      refine w_a f_15_18 ?_
      exact h
set_option maxRecDepth 10000 in
set_option maxHeartbeats 4000000 in
theorem s_25_0_57 {Lx : Nat} {I : Mi} {L : Ml} {e : Nat} {Q : Kq} {y1 : Int64} {y3 : Int64} (h :
    Wp 26 0 [(0, .long y1), (2, .long y3)] [] (gE Lx) I L e (kcp (Wp 25) 25 2 0 [(0, .ref 57), (1, .long y1), (3, .long y3)] 71 [] Q)) :
    Wp 25 0 [(0, .ref 57), (1, .long y1), (3, .long y3)] [] (gE Lx) I L e Q := by
  refine w_a f_25_0 ?_
  refine w_a f_25_1 ?_
  exact w_c (ks := [0, 1, 3]) f_25_2 rfl rfl h
set_option maxRecDepth 10000 in
set_option maxHeartbeats 4000000 in
theorem s_25_5_57 {Lx : Nat} {I : Mi} {L : Ml} {e : Nat} {Q : Kq} {y1 : Int64} {y3 : Int64} {rl : Int64} (h :
    (if rl = (Int64.ofInt 0) then
     Q (.inl none) (gE Lx) I (ul (ul L 57 0 (Int64.ofInt 0)) 57 1 (Int64.ofInt 1)) e
    else
     (if y3 < (Int64.ofInt 0) then
      (if (-rl) = 0 then False else
       (if (-rl) = 0 then False else
        Q (.inl none) (gE Lx) I (ul (ul L 57 0 (y1 / (-rl))) 57 1 (y3 / (-rl))) e))
     else
      (if y3 = (Int64.ofInt 0) then
       (if y1 < (Int64.ofInt 0) then
        (if (-rl) = 0 then False else
         (if (-rl) = 0 then False else
          Q (.inl none) (gE Lx) I (ul (ul L 57 0 (y1 / (-rl))) 57 1 (y3 / (-rl))) e))
       else
        (if rl = 0 then False else
         (if rl = 0 then False else
          Q (.inl none) (gE Lx) I (ul (ul L 57 0 (y1 / rl)) 57 1 (y3 / rl)) e)))
      else
       (if rl = 0 then False else
        (if rl = 0 then False else
         Q (.inl none) (gE Lx) I (ul (ul L 57 0 (y1 / rl)) 57 1 (y3 / rl)) e)))))) :
    Wp 25 5 [(0, .ref 57), (1, .long y1), (3, .long y3)] [.long rl] (gE Lx) I L e Q := by
  refine w_a f_25_5 ?_
  refine w_a (ls := [(5, .long rl), (0, .ref 57), (1, .long y1), (3, .long y3)]) f_25_7 ?_
  refine w_a f_25_9 ?_
  refine w_a f_25_10 ?_
  refine i_m (fun h => ?_) (fun h => ?_) h
  · refine w_a f_25_14 ?_
    refine w_a f_25_15 ?_
    refine w_a f_25_16 ?_
    refine w_a f_25_19 ?_
    refine w_a f_25_20 ?_
    refine w_a f_25_21 ?_
    refine w_a f_25_24 ?_
    exact h
  · refine w_a f_25_25 ?_
    refine w_a f_25_26 ?_
    refine w_a f_25_27 ?_
    refine i_m (fun h => ?_) (fun h => ?_) h
    · refine w_a f_25_43 ?_
      refine w_a f_25_45 ?_
      refine w_a f_25_46 ?_
      refine w_a f_25_51 ?_
      refine w_a (ls := [(7, .long (-rl)), (5, .long rl), (0, .ref 57), (1, .long y1), (3, .long y3)]) f_25_53 ?_
      refine w_a f_25_54 ?_
      refine w_a f_25_55 ?_
      refine w_a f_25_57 ?_
      refine i_m id (fun h => ?_) h
      refine w_a f_25_58 ?_
      refine w_a f_25_61 ?_
      refine w_a f_25_62 ?_
      refine w_a f_25_63 ?_
      refine w_a f_25_65 ?_
      refine i_m id (fun h => ?_) h
      refine w_a f_25_66 ?_
      refine w_a f_25_69 ?_
      exact h
    · refine w_a f_25_31 ?_
      refine w_a f_25_32 ?_
      refine w_a f_25_33 ?_
      refine i_m (fun h => ?_) (fun h => ?_) h
      · refine w_a f_25_37 ?_
        refine w_a f_25_38 ?_
        refine w_a f_25_39 ?_
        refine i_m (fun h => ?_) (fun h => ?_) h
        · refine w_a f_25_43 ?_
          refine w_a f_25_45 ?_
          refine w_a f_25_46 ?_
          refine w_a f_25_51 ?_
          refine w_a (ls := [(7, .long (-rl)), (5, .long rl), (0, .ref 57), (1, .long y1), (3, .long y3)]) f_25_53 ?_
          refine w_a f_25_54 ?_
          refine w_a f_25_55 ?_
          refine w_a f_25_57 ?_
          refine i_m id (fun h => ?_) h
          refine w_a f_25_58 ?_
          refine w_a f_25_61 ?_
          refine w_a f_25_62 ?_
          refine w_a f_25_63 ?_
          refine w_a f_25_65 ?_
          refine i_m id (fun h => ?_) h
          refine w_a f_25_66 ?_
          refine w_a f_25_69 ?_
          exact h
        · refine w_a f_25_49 ?_
          refine w_a f_25_51 ?_
          refine w_a (ls := [(7, .long rl), (5, .long rl), (0, .ref 57), (1, .long y1), (3, .long y3)]) f_25_53 ?_
          refine w_a f_25_54 ?_
          refine w_a f_25_55 ?_
          refine w_a f_25_57 ?_
          refine i_m id (fun h => ?_) h
          refine w_a f_25_58 ?_
          refine w_a f_25_61 ?_
          refine w_a f_25_62 ?_
          refine w_a f_25_63 ?_
          refine w_a f_25_65 ?_
          refine i_m id (fun h => ?_) h
          refine w_a f_25_66 ?_
          refine w_a f_25_69 ?_
          exact h
      · refine w_a f_25_49 ?_
        refine w_a f_25_51 ?_
        refine w_a (ls := [(7, .long rl), (5, .long rl), (0, .ref 57), (1, .long y1), (3, .long y3)]) f_25_53 ?_
        refine w_a f_25_54 ?_
        refine w_a f_25_55 ?_
        refine w_a f_25_57 ?_
        refine i_m id (fun h => ?_) h
        refine w_a f_25_58 ?_
        refine w_a f_25_61 ?_
        refine w_a f_25_62 ?_
        refine w_a f_25_63 ?_
        refine w_a f_25_65 ?_
        refine i_m id (fun h => ?_) h
        refine w_a f_25_66 ?_
        refine w_a f_25_69 ?_
        exact h
set_option maxRecDepth 10000 in
set_option maxHeartbeats 4000000 in
theorem s_27_30_57 {Lx : Nat} {I : Mi} {L : Ml} {e : Nat} {Q : Kq} (h :
    Q (.inl none) (gE Lx) I L e) :
    Wp 27 30 [(0, .ref 57)] [] (gE Lx) I L e Q := by
  refine w_a f_27_30 ?_
  exact h
set_option maxRecDepth 10000 in
set_option maxHeartbeats 4000000 in
theorem s_97_0_52 {Lx : Nat} {I : Mi} {L : Ml} {e : Nat} {Q : Kq} {x2 : Int32} (h :
    Wp 97 24 [(0, .ref 1), (1, .ref 52), (2, .int x2), (3, .int (Int32.ofInt 0))] [] (gE Lx) I (ul (ul (ul (ul L 14 0 ((I 52 0).toInt64)) 14 1 ((I 52 1).toInt64)) 14 2 ((I 52 2).toInt64)) 14 3 (Int64.ofInt 0)) e Q) :
    Wp 97 0 [(0, .ref 1), (1, .ref 52), (2, .int x2)] [] (gE Lx) I L e Q := by
  refine w_a f_97_0 ?_
  refine w_a f_97_1 ?_
  refine w_a f_97_4 ?_
  refine w_a f_97_5 ?_
  refine w_a f_97_8 ?_
  refine w_a f_97_9 ?_
  refine w_a f_97_10 ?_
  refine w_a f_97_13 ?_
  refine w_a f_97_14 ?_
  refine w_a f_97_15 ?_
  refine w_a f_97_18 ?_
  refine w_a f_97_19 ?_
  refine w_a (ls := [(0, .ref 14), (1, .long (I 52 0).toInt64), (3, .long (I 52 1).toInt64), (5, .long (I 52 2).toInt64)]) f_74_0 ?_
  refine w_a f_74_1 ?_
  refine w_a f_74_2 ?_
  refine w_a f_74_5 ?_
  refine w_a f_74_6 ?_
  refine w_a f_74_7 ?_
  refine w_a f_74_10 ?_
  refine w_a f_74_11 ?_
  refine w_a f_74_13 ?_
  refine w_a f_74_16 ?_
  refine w_a f_74_17 ?_
  refine w_a f_74_18 ?_
  refine w_a f_74_21 ?_
  refine w_a (ls := [(0, .ref 1), (1, .ref 52), (2, .int x2)]) f_97_22 ?_
  refine w_a f_97_23 ?_
  exact w_n (ks := [0, 1, 2, 3]) rfl h
set_option maxRecDepth 10000 in
set_option maxHeartbeats 4000000 in
theorem s_97_24_52 {Lx : Nat} {I : Mi} {L : Ml} {e : Nat} {Q : Kq} {x2 : Int32} {x3 : Int32} (h :
    (if x3 < (I 52 3) then
     Wp 14 0 [(0, .ref 52), (1, .int x3)] [] (gE Lx) I L e (kcp (Wp 97) 97 44 0 [(0, .ref 1), (1, .ref 52), (2, .int x2), (3, .int x3)] 71 [.long ((Int64.ofInt 20) + x2.toInt64), .ref 18] Q)
    else
     Q (.inl none) (gE Lx) I L e)) :
    Wp 97 24 [(0, .ref 1), (1, .ref 52), (2, .int x2), (3, .int x3)] [] (gE Lx) I L e Q := by
  refine w_a f_97_24 ?_
  refine w_a f_97_25 ?_
  refine w_a f_97_26 ?_
  refine w_a f_97_29 ?_
  refine i_m (fun h => ?_) (fun h => ?_) h
  · refine w_a f_97_32 ?_
    refine w_a f_97_33 ?_
    refine w_a f_97_36 ?_
    refine w_a f_97_39 ?_
    refine w_a f_97_40 ?_
    refine w_a f_97_41 ?_
    refine w_a f_97_42 ?_
    refine w_a f_97_43 ?_
    exact w_c (ks := [0, 1, 2, 3]) f_97_44 rfl rfl h
  · refine w_a f_97_94 ?_
    exact h
set_option maxRecDepth 10000 in
set_option maxHeartbeats 4000000 in
theorem s_97_47_52 {Lx : Nat} {I : Mi} {L : Ml} {e : Nat} {Q : Kq} {x2 : Int32} {x3 : Int32} {rl1 : Int64} {r : Int32} (h :
    Wp 15 0 [(0, .ref 52), (1, .int x3)] [] (gE Lx) I L e (kcp (Wp 97) 97 54 0 [(0, .ref 1), (1, .ref 52), (2, .int x2), (3, .int x3)] 71 [.long (Int64.ofInt 20), .long (rl1 * r.toInt64), .ref 18] Q)) :
    Wp 97 47 [(0, .ref 1), (1, .ref 52), (2, .int x2), (3, .int x3)] [.int r, .long rl1, .ref 18] (gE Lx) I L e Q := by
  refine w_a f_97_47 ?_
  refine w_a f_97_48 ?_
  refine w_a f_97_49 ?_
  refine w_a f_97_52 ?_
  refine w_a f_97_53 ?_
  exact w_c (ks := [0, 1, 2, 3]) f_97_54 rfl rfl h
set_option maxRecDepth 10000 in
set_option maxHeartbeats 4000000 in
theorem s_97_57_52 {Lx : Nat} {I : Mi} {L : Ml} {e : Nat} {Q : Kq} {x2 : Int32} {x3 : Int32} {rl1 : Int64} {rl2 : Int64} {r : Int32} (h :
    Wp 25 0 [(0, .ref 18), (1, .long rl1), (3, .long (rl2 * r.toInt64))] [] (gE Lx) I L e (kcp (Wp 97) 97 59 0 [(0, .ref 1), (1, .ref 52), (2, .int x2), (3, .int x3)] 71 [] Q)) :
    Wp 97 57 [(0, .ref 1), (1, .ref 52), (2, .int x2), (3, .int x3)] [.int r, .long rl2, .long rl1, .ref 18] (gE Lx) I L e Q := by
  refine w_a f_97_57 ?_
  refine w_a f_97_58 ?_
  exact w_c (ks := [0, 1, 2, 3]) f_97_59 rfl rfl h
set_option maxRecDepth 10000 in
set_option maxHeartbeats 4000000 in
theorem s_97_62_52 {Lx : Nat} {I : Mi} {L : Ml} {e : Nat} {Q : Kq} {x2 : Int32} {x3 : Int32} (h :
    Wp 12 0 [(0, .ref 52), (1, .int x3)] [] (gE Lx) I L e (kcp (Wp 97) 97 68 0 [(0, .ref 1), (1, .ref 52), (2, .int x2), (3, .int x3)] 71 [.ref 14] Q)) :
    Wp 97 62 [(0, .ref 1), (1, .ref 52), (2, .int x2), (3, .int x3)] [] (gE Lx) I L e Q := by
  refine w_a f_97_62 ?_
  refine w_a f_97_63 ?_
  refine w_a f_97_66 ?_
  refine w_a f_97_67 ?_
  exact w_c (ks := [0, 1, 2, 3]) f_97_68 rfl rfl h
set_option maxRecDepth 10000 in
set_option maxHeartbeats 4000000 in
theorem s_97_71_52 {Lx : Nat} {I : Mi} {L : Ml} {e : Nat} {Q : Kq} {x2 : Int32} {x3 : Int32} {r : Int32} (h :
    Wp 75 0 [(0, .ref 14), (1, .int r), (2, .long (L 18 0)), (4, .long (L 18 1))] [] (gE Lx) I L e (kcp (Wp 97) 97 85 0 [(0, .ref 1), (1, .ref 52), (2, .int x2), (3, .int x3)] 71 [] Q)) :
    Wp 97 71 [(0, .ref 1), (1, .ref 52), (2, .int x2), (3, .int x3)] [.int r, .ref 14] (gE Lx) I L e Q := by
  refine w_a f_97_71 ?_
  refine w_a f_97_72 ?_
  refine w_a f_97_75 ?_
  refine w_a f_97_78 ?_
  refine w_a f_97_79 ?_
  refine w_a f_97_82 ?_
  exact w_c (ks := [0, 1, 2, 3]) f_97_85 rfl rfl h
set_option maxRecDepth 10000 in
set_option maxHeartbeats 4000000 in
theorem s_97_88_52 {Lx : Nat} {I : Mi} {L : Ml} {e : Nat} {Q : Kq} {x2 : Int32} {x3 : Int32} (h :
    Wp 97 24 [(0, .ref 1), (1, .ref 52), (2, .int x2), (3, .int (x3 + Int32.ofInt 1))] [] (gE Lx) I L e Q) :
    Wp 97 88 [(0, .ref 1), (1, .ref 52), (2, .int x2), (3, .int x3)] [] (gE Lx) I L e Q := by
  refine w_a f_97_88 ?_
  refine w_a (ls := [(3, .int (x3 + Int32.ofInt 1)), (0, .ref 1), (1, .ref 52), (2, .int x2)]) f_97_91 ?_
  exact w_n (ks := [0, 1, 2, 3]) rfl h
set_option maxRecDepth 10000 in
set_option maxHeartbeats 4000000 in
theorem s_96_0_52 {Lx : Nat} {I : Mi} {L : Ml} {e : Nat} {Q : Kq} {x2 : Int32} (h :
    Wp 97 0 [(0, .ref 1), (1, .ref 52), (2, .int x2)] [] (gE Lx) I L e (kcp (Wp 96) 96 3 0 [(0, .ref 1), (1, .ref 52)] 71 [] Q)) :
    Wp 96 0 [(0, .ref 1), (1, .ref 52), (2, .int x2)] [] (gE Lx) I L e Q := by
  refine w_a f_96_0 ?_
  refine w_a f_96_1 ?_
  refine w_a f_96_2 ?_
  exact w_c (ks := [0, 1]) f_96_3 rfl rfl h
set_option maxRecDepth 10000 in
set_option maxHeartbeats 4000000 in
theorem s_96_6_52 {Lx : Nat} {I : Mi} {L : Ml} {e : Nat} {Q : Kq} (h :
    Wp 98 0 [(0, .ref 1)] [] (gE Lx) I L e (kcp (Wp 96) 96 7 0 [(0, .ref 1), (1, .ref 52)] 71 [] Q)) :
    Wp 96 6 [(0, .ref 1), (1, .ref 52)] [] (gE Lx) I L e Q := by
  refine w_a f_96_6 ?_
  exact w_c (ks := [0, 1]) f_96_7 rfl rfl h
set_option maxRecDepth 10000 in
set_option maxHeartbeats 4000000 in
theorem s_96_10_52 {Lx : Nat} {I : Mi} {L : Ml} {e : Nat} {Q : Kq} {r : Int32} (h :
    (if r = 0 then
     Q (.inl (some (.int (Int32.ofInt 0)))) (gE Lx) I L e
    else if r = 1 then
     Q (.inl (some (.int (Int32.ofInt 1)))) (gE Lx) I L e
    else False)) :
    Wp 96 10 [(0, .ref 1), (1, .ref 52)] [.int r] (gE Lx) I L e Q := by
  refine w_a f_96_10 ?_
  refine i_m (fun h => ?_) (i_m (fun h => ?_) id) h
  · exact h
  · exact h
set_option maxRecDepth 10000 in
set_option maxHeartbeats 4000000 in
theorem s_95_0_52 {Lx : Nat} {I : Mi} {L : Ml} {e : Nat} {Q : Kq} (h :
    Wp 95 4 [(0, .ref 1), (1, .ref 52), (2, .int (Int32.ofInt (-1))), (3, .int (Int32.ofInt 0))] [] (gE Lx) I L e Q) :
    Wp 95 0 [(0, .ref 1), (1, .ref 52)] [] (gE Lx) I L e Q := by
  refine w_a f_95_0 ?_
  refine w_a f_95_1 ?_
  refine w_a (ls := [(2, .int (Int32.ofInt (-1))), (0, .ref 1), (1, .ref 52)]) f_95_2 ?_
  refine w_a f_95_3 ?_
  exact w_n (ks := [0, 1, 2, 3]) rfl h
set_option maxRecDepth 10000 in
set_option maxHeartbeats 4000000 in
theorem s_95_4_52 {Lx : Nat} {I : Mi} {L : Ml} {e : Nat} {Q : Kq} {x2 : Int32} {x3 : Int32} (h :
    (if (Int32.ofInt 10) < x3 then
     Q (.inl (some (.int x2))) (gE Lx) I L e
    else
     Wp 97 0 [(0, .ref 1), (1, .ref 52), (2, .int x3)] [] (gE Lx) I L e (kcp (Wp 96) 96 3 0 [(0, .ref 1), (1, .ref 52)] 71 [] (kcp (Wp 95) 95 13 0 [(0, .ref 1), (1, .ref 52), (2, .int x2), (3, .int x3)] 71 [] Q)))) :
    Wp 95 4 [(0, .ref 1), (1, .ref 52), (2, .int x2), (3, .int x3)] [] (gE Lx) I L e Q := by
  refine w_a f_95_4 ?_
  refine w_a f_95_5 ?_
  refine w_a f_95_7 ?_
  refine i_m (fun h => ?_) (fun h => ?_) h
  · refine w_a f_95_39 ?_
    refine w_a f_95_40 ?_
    exact h
  · refine w_a f_95_10 ?_
    refine w_a f_95_11 ?_
    refine w_a f_95_12 ?_
    refine w_c (ks := [0, 1, 2, 3]) f_95_13 rfl rfl ?_
    refine w_a (ls := [(0, .ref 1), (1, .ref 52), (2, .int x3)]) f_96_0 ?_
    refine w_a f_96_1 ?_
    refine w_a f_96_2 ?_
    exact w_c (ks := [0, 1]) f_96_3 rfl rfl h
set_option maxRecDepth 10000 in
set_option maxHeartbeats 4000000 in
theorem s_95_16_52 {Lx : Nat} {I : Mi} {L : Ml} {e : Nat} {Q : Kq} {x2 : Int32} {x3 : Int32} {r : Int32} (h :
    (if r = 0 then
     Q (.inl (some (.int x2))) (gE Lx) I L e
    else
     Wp 97 0 [(0, .ref 1), (1, .ref 52), (2, .int (-x3))] [] (gE Lx) I L e (kcp (Wp 96) 96 3 0 [(0, .ref 1), (1, .ref 52)] 71 [] (kcp (Wp 95) 95 23 0 [(0, .ref 1), (1, .ref 52), (2, .int x2), (3, .int x3)] 71 [] Q)))) :
    Wp 95 16 [(0, .ref 1), (1, .ref 52), (2, .int x2), (3, .int x3)] [.int r] (gE Lx) I L e Q := by
  refine w_a f_95_16 ?_
  refine i_m (fun h => ?_) (fun h => ?_) h
  · refine w_a f_95_29 ?_
    refine w_a f_95_30 ?_
    exact h
  · refine w_a f_95_19 ?_
    refine w_a f_95_20 ?_
    refine w_a f_95_21 ?_
    refine w_a f_95_22 ?_
    refine w_c (ks := [0, 1, 2, 3]) f_95_23 rfl rfl ?_
    refine w_a (ls := [(0, .ref 1), (1, .ref 52), (2, .int (-x3))]) f_96_0 ?_
    refine w_a f_96_1 ?_
    refine w_a f_96_2 ?_
    exact w_c (ks := [0, 1]) f_96_3 rfl rfl h
set_option maxRecDepth 10000 in
set_option maxHeartbeats 4000000 in
theorem s_95_26_52 {Lx : Nat} {I : Mi} {L : Ml} {e : Nat} {Q : Kq} {x2 : Int32} {x3 : Int32} {r : Int32} (h :
    (if r = 0 then
     Q (.inl (some (.int x2))) (gE Lx) I L e
    else
     Wp 95 4 [(0, .ref 1), (1, .ref 52), (2, .int x3), (3, .int (x3 + Int32.ofInt 1))] [] (gE Lx) I L e Q)) :
    Wp 95 26 [(0, .ref 1), (1, .ref 52), (2, .int x2), (3, .int x3)] [.int r] (gE Lx) I L e Q := by
  refine w_a f_95_26 ?_
  refine i_m (fun h => ?_) (fun h => ?_) h
  · refine w_a f_95_29 ?_
    refine w_a f_95_30 ?_
    exact h
  · refine w_a f_95_31 ?_
    refine w_a f_95_32 ?_
    refine w_a (ls := [(2, .int x3), (0, .ref 1), (1, .ref 52), (3, .int x3)]) f_95_33 ?_
    refine w_a (ls := [(3, .int (x3 + Int32.ofInt 1)), (2, .int x3), (0, .ref 1), (1, .ref 52)]) f_95_36 ?_
    exact w_n (ks := [0, 1, 2, 3]) rfl h
set_option maxRecDepth 10000 in
set_option maxHeartbeats 4000000 in
theorem s_65_0_52 {Lx : Nat} {I : Mi} {L : Ml} {e : Nat} {Q : Kq} (h :
    Wp 25 0 [(0, .ref 57), (1, .long (Int64.ofInt 0)), (3, .long (Int64.ofInt 1))] [] (gE Lx) (ui I 56 0 (Int32.ofInt 0)) L e (kcp (Wp 65) 65 11 0 [(0, .ref 56), (1, .ref 52)] 71 [] Q)) :
    Wp 65 0 [(0, .ref 56), (1, .ref 52)] [] (gE Lx) I L e Q := by
  refine w_a f_65_0 ?_
  refine w_a f_65_1 ?_
  refine w_a f_65_2 ?_
  refine w_a f_65_5 ?_
  refine w_a f_65_6 ?_
  refine w_a f_65_9 ?_
  refine w_a f_65_10 ?_
  exact w_c (ks := [0, 1]) f_65_11 rfl rfl h
set_option maxRecDepth 10000 in
set_option maxHeartbeats 4000000 in
theorem s_65_14_52 {Lx : Nat} {I : Mi} {L : Ml} {e : Nat} {Q : Kq} (h :
    Wp 65 16 [(0, .ref 56), (1, .ref 52), (2, .int (Int32.ofInt 0))] [] (gE Lx) I L e Q) :
    Wp 65 14 [(0, .ref 56), (1, .ref 52)] [] (gE Lx) I L e Q := by
  refine w_a f_65_14 ?_
  refine w_a f_65_15 ?_
  exact w_n (ks := [0, 1, 2]) rfl h
set_option maxRecDepth 10000 in
set_option maxHeartbeats 4000000 in
theorem s_65_16_52 {Lx : Nat} {I : Mi} {L : Ml} {e : Nat} {Q : Kq} {x2 : Int32} (h :
    (if x2 < (I 52 3) then
     Wp 14 0 [(0, .ref 52), (1, .int x2)] [] (gE Lx) I L e (kcp (Wp 65) 65 47 0 [(0, .ref 56), (1, .ref 52), (2, .int x2), (3, .long (L 57 0)), (5, .long (L 57 1))] 71 [.ref 57] Q)
    else
     Q (.inl none) (gE Lx) I L e)) :
    Wp 65 16 [(0, .ref 56), (1, .ref 52), (2, .int x2)] [] (gE Lx) I L e Q := by
  refine w_a f_65_16 ?_
  refine w_a f_65_17 ?_
  refine w_a f_65_18 ?_
  refine w_a f_65_21 ?_
  refine i_m (fun h => ?_) (fun h => ?_) h
  · refine w_a f_65_24 ?_
    refine w_a f_65_25 ?_
    refine w_a f_65_28 ?_
    refine w_a f_65_31 ?_
    refine w_a (ls := [(3, .long (L 57 0)), (0, .ref 56), (1, .ref 52), (2, .int x2)]) f_65_32 ?_
    refine w_a f_65_33 ?_
    refine w_a f_65_36 ?_
    refine w_a f_65_39 ?_
    refine w_a (ls := [(5, .long (L 57 1)), (3, .long (L 57 0)), (0, .ref 56), (1, .ref 52), (2, .int x2)]) f_65_41 ?_
    refine w_a f_65_42 ?_
    refine w_a f_65_45 ?_
    refine w_a f_65_46 ?_
    exact w_c (ks := [0, 1, 2, 3, 5]) f_65_47 rfl rfl h
  · refine w_a f_65_99 ?_
    exact h
set_option maxRecDepth 10000 in
set_option maxHeartbeats 4000000 in
theorem s_65_50_52 {Lx : Nat} {I : Mi} {L : Ml} {e : Nat} {Q : Kq} {x2 : Int32} {y3 : Int64} {y5 : Int64} {r : Int32} (h :
    Wp 15 0 [(0, .ref 52), (1, .int x2)] [] (gE Lx) I L e (kcp (Wp 65) 65 53 0 [(0, .ref 56), (1, .ref 52), (2, .int x2), (3, .long y3), (5, .long y5)] 71 [.long r.toInt64, .ref 57] Q)) :
    Wp 65 50 [(0, .ref 56), (1, .ref 52), (2, .int x2), (3, .long y3), (5, .long y5)] [.int r, .ref 57] (gE Lx) I L e Q := by
  refine w_a f_65_50 ?_
  refine w_a f_65_51 ?_
  refine w_a f_65_52 ?_
  exact w_c (ks := [0, 1, 2, 3, 5]) f_65_53 rfl rfl h
set_option maxRecDepth 10000 in
set_option maxHeartbeats 4000000 in
theorem s_65_56_52 {Lx : Nat} {I : Mi} {L : Ml} {e : Nat} {Q : Kq} {x2 : Int32} {y3 : Int64} {y5 : Int64} {rl1 : Int64} {r : Int32} (h :
    Wp 25 0 [(0, .ref 57), (1, .long (((L 57 0) * r.toInt64) + ((L 57 1) * rl1))), (3, .long (((L 57 1) * r.toInt64) - ((L 57 0) * rl1)))] [] (gE Lx) I L e (kcp (Wp 27) 27 27 0 [(0, .ref 57)] 71 [] (kcp (Wp 65) 65 57 0 [(0, .ref 56), (1, .ref 52), (2, .int x2), (3, .long y3), (5, .long y5)] 71 [] Q))) :
    Wp 65 56 [(0, .ref 56), (1, .ref 52), (2, .int x2), (3, .long y3), (5, .long y5)] [.int r, .long rl1, .ref 57] (gE Lx) I L e Q := by
  refine w_a f_65_56 ?_
  refine w_c (ks := [0, 1, 2, 3, 5]) f_65_57 rfl rfl ?_
  refine w_a (ls := [(0, .ref 57), (1, .long rl1), (3, .long r.toInt64)]) f_27_0 ?_
  refine w_a f_27_1 ?_
  refine w_a f_27_2 ?_
  refine w_a f_27_5 ?_
  refine w_a f_27_6 ?_
  refine w_a f_27_7 ?_
  refine w_a f_27_8 ?_
  refine w_a f_27_11 ?_
  refine w_a f_27_12 ?_
  refine w_a f_27_13 ?_
  refine w_a f_27_14 ?_
  refine w_a f_27_15 ?_
  refine w_a f_27_18 ?_
  refine w_a f_27_19 ?_
  refine w_a f_27_20 ?_
  refine w_a f_27_21 ?_
  refine w_a f_27_24 ?_
  refine w_a f_27_25 ?_
  refine w_a f_27_26 ?_
  exact w_c (ks := [0]) f_27_27 rfl rfl h
set_option maxRecDepth 10000 in
set_option maxHeartbeats 4000000 in
theorem s_65_60_52 {Lx : Nat} {I : Mi} {L : Ml} {e : Nat} {Q : Kq} {x2 : Int32} {y3 : Int64} {y5 : Int64} (h :
    Wp 28 0 [(0, .long (L 57 0)), (2, .long (L 57 1)), (4, .long y3), (6, .long y5)] [] (gE Lx) I L e (kcp (Wp 65) 65 77 0 [(0, .ref 56), (1, .ref 52), (2, .int x2)] 71 [] Q)) :
    Wp 65 60 [(0, .ref 56), (1, .ref 52), (2, .int x2), (3, .long y3), (5, .long y5)] [] (gE Lx) I L e Q := by
  refine w_a f_65_60 ?_
  refine w_a f_65_61 ?_
  refine w_a f_65_64 ?_
  refine w_a f_65_67 ?_
  refine w_a f_65_68 ?_
  refine w_a f_65_71 ?_
  refine w_a f_65_74 ?_
  refine w_a f_65_75 ?_
  exact w_c (ks := [0, 1, 2]) f_65_77 rfl rfl h
set_option maxRecDepth 10000 in
set_option maxHeartbeats 4000000 in
theorem s_65_80_52 {Lx : Nat} {I : Mi} {L : Ml} {e : Nat} {Q : Kq} {x2 : Int32} {r : Int32} (h :
    (if r < 0 then
     Wp 65 16 [(0, .ref 56), (1, .ref 52), (2, .int (x2 + Int32.ofInt 1))] [] (gE Lx) (ui I 56 0 ((I 56 0) + (Int32.ofInt 1))) L e Q
    else
     Wp 65 16 [(0, .ref 56), (1, .ref 52), (2, .int (x2 + Int32.ofInt 1))] [] (gE Lx) I L e Q)) :
    Wp 65 80 [(0, .ref 56), (1, .ref 52), (2, .int x2)] [.int r] (gE Lx) I L e Q := by
  refine w_a f_65_80 ?_
  refine i_m (fun h => ?_) (fun h => ?_) h
  · refine w_a f_65_83 ?_
    refine w_a f_65_84 ?_
    refine w_a f_65_85 ?_
    refine w_a f_65_88 ?_
    refine w_a f_65_89 ?_
    refine w_a f_65_90 ?_
    refine w_a f_65_93 ?_
    refine w_a (ls := [(2, .int (x2 + Int32.ofInt 1)), (0, .ref 56), (1, .ref 52)]) f_65_96 ?_
    exact w_n (ks := [0, 1, 2]) rfl h
  · refine w_a f_65_93 ?_
    refine w_a (ls := [(2, .int (x2 + Int32.ofInt 1)), (0, .ref 56), (1, .ref 52)]) f_65_96 ?_
    exact w_n (ks := [0, 1, 2]) rfl h
set_option maxRecDepth 10000 in
set_option maxHeartbeats 4000000 in
theorem s_66_0_3_0 {Lx : Nat} {I : Mi} {L : Ml} {e : Nat} {Q : Kq} (h :
    (if (I 56 0) = (I 35 0) then
     Wp 28 0 [(0, .long (L 57 0)), (2, .long (L 57 1)), (4, .long (L 36 0)), (6, .long (L 36 1))] [] (gE Lx) I L e (kcp (Wp 66) 66 56 0 [(0, .ref 56), (1, .ref 35)] 71 [] Q)
    else
     (if (I 56 0) < (I 35 0) then
      Q (.inl (some (.int (Int32.ofInt (-1))))) (gE Lx) I L e
     else
      Q (.inl (some (.int (Int32.ofInt 1)))) (gE Lx) I L e))) :
    Wp 66 0 [(0, .ref 56), (1, .ref 35)] [] (gE Lx) I L e Q := by
  refine w_a f_66_0 ?_
  refine w_a f_66_1 ?_
  refine w_a f_66_4 ?_
  refine w_a f_66_5 ?_
  refine w_a f_66_8 ?_
  refine i_m (fun h => ?_) (fun h => ?_) h
  · refine w_a f_66_28 ?_
    refine w_a f_66_29 ?_
    refine w_a f_66_32 ?_
    refine w_a f_66_35 ?_
    refine w_a f_66_36 ?_
    refine w_a f_66_39 ?_
    refine w_a f_66_42 ?_
    refine w_a f_66_43 ?_
    refine w_a f_66_46 ?_
    refine w_a f_66_49 ?_
    refine w_a f_66_50 ?_
    refine w_a f_66_53 ?_
    exact w_c (ks := [0, 1]) f_66_56 rfl rfl h
  · refine w_a f_66_11 ?_
    refine w_a f_66_12 ?_
    refine w_a f_66_15 ?_
    refine w_a f_66_16 ?_
    refine w_a f_66_19 ?_
    refine i_m (fun h => ?_) (fun h => ?_) h
    · refine w_a f_66_22 ?_
      refine w_a f_66_23 ?_
      refine w_a f_66_27 ?_
      exact h
    · refine w_a f_66_26 ?_
      refine w_a f_66_27 ?_
      exact h
set_option maxRecDepth 10000 in
set_option maxHeartbeats 4000000 in
theorem s_66_59_3_0 {Lx : Nat} {I : Mi} {L : Ml} {e : Nat} {Q : Kq} {r : Int32} (h :
    Q (.inl (some (.int r))) (gE Lx) I L e) :
    Wp 66 59 [(0, .ref 56), (1, .ref 35)] [.int r] (gE Lx) I L e Q := by
  refine w_a f_66_59 ?_
  exact h
set_option maxRecDepth 10000 in
set_option maxHeartbeats 4000000 in
theorem s_63_39_3_0 {Lx : Nat} {I : Mi} {L : Ml} {e : Nat} {Q : Kq} {r : Int32} (h :
    (if r < 0 then
     Q (.inl (some (.int (Int32.ofInt 1)))) (gE Lx) I L e
    else
     Q (.inl (some (.int (Int32.ofInt 0)))) (gE Lx) I L e)) :
    Wp 63 39 [(0, .ref 51), (1, .ref 30)] [.int r] (gE Lx) I L e Q := by
  refine w_a f_63_39 ?_
  refine i_m (fun h => ?_) (fun h => ?_) h
  · refine w_a f_63_42 ?_
    refine w_a f_63_43 ?_
    refine w_a f_63_47 ?_
    exact h
  · refine w_a f_63_46 ?_
    refine w_a f_63_47 ?_
    exact h
set_option maxRecDepth 10000 in
set_option maxHeartbeats 4000000 in
theorem s_66_0_3_1 {Lx : Nat} {I : Mi} {L : Ml} {e : Nat} {Q : Kq} (h :
    (if (I 56 0) = (I 42 0) then
     Wp 28 0 [(0, .long (L 57 0)), (2, .long (L 57 1)), (4, .long (L 43 0)), (6, .long (L 43 1))] [] (gE Lx) I L e (kcp (Wp 66) 66 56 0 [(0, .ref 56), (1, .ref 42)] 71 [] Q)
    else
     (if (I 56 0) < (I 42 0) then
      Q (.inl (some (.int (Int32.ofInt (-1))))) (gE Lx) I L e
     else
      Q (.inl (some (.int (Int32.ofInt 1)))) (gE Lx) I L e))) :
    Wp 66 0 [(0, .ref 56), (1, .ref 42)] [] (gE Lx) I L e Q := by
  refine w_a f_66_0 ?_
  refine w_a f_66_1 ?_
  refine w_a f_66_4 ?_
  refine w_a f_66_5 ?_
  refine w_a f_66_8 ?_
  refine i_m (fun h => ?_) (fun h => ?_) h
  · refine w_a f_66_28 ?_
    refine w_a f_66_29 ?_
    refine w_a f_66_32 ?_
    refine w_a f_66_35 ?_
    refine w_a f_66_36 ?_
    refine w_a f_66_39 ?_
    refine w_a f_66_42 ?_
    refine w_a f_66_43 ?_
    refine w_a f_66_46 ?_
    refine w_a f_66_49 ?_
    refine w_a f_66_50 ?_
    refine w_a f_66_53 ?_
    exact w_c (ks := [0, 1]) f_66_56 rfl rfl h
  · refine w_a f_66_11 ?_
    refine w_a f_66_12 ?_
    refine w_a f_66_15 ?_
    refine w_a f_66_16 ?_
    refine w_a f_66_19 ?_
    refine i_m (fun h => ?_) (fun h => ?_) h
    · refine w_a f_66_22 ?_
      refine w_a f_66_23 ?_
      refine w_a f_66_27 ?_
      exact h
    · refine w_a f_66_26 ?_
      refine w_a f_66_27 ?_
      exact h
set_option maxRecDepth 10000 in
set_option maxHeartbeats 4000000 in
theorem s_66_59_3_1 {Lx : Nat} {I : Mi} {L : Ml} {e : Nat} {Q : Kq} {r : Int32} (h :
    Q (.inl (some (.int r))) (gE Lx) I L e) :
    Wp 66 59 [(0, .ref 56), (1, .ref 42)] [.int r] (gE Lx) I L e Q := by
  refine w_a f_66_59 ?_
  exact h
set_option maxRecDepth 10000 in
set_option maxHeartbeats 4000000 in
theorem s_63_39_3_1 {Lx : Nat} {I : Mi} {L : Ml} {e : Nat} {Q : Kq} {r : Int32} (h :
    (if r < 0 then
     Q (.inl (some (.int (Int32.ofInt 1)))) (gE Lx) I L e
    else
     Q (.inl (some (.int (Int32.ofInt 0)))) (gE Lx) I L e)) :
    Wp 63 39 [(0, .ref 51), (1, .ref 37)] [.int r] (gE Lx) I L e Q := by
  refine w_a f_63_39 ?_
  refine i_m (fun h => ?_) (fun h => ?_) h
  · refine w_a f_63_42 ?_
    refine w_a f_63_43 ?_
    refine w_a f_63_47 ?_
    exact h
  · refine w_a f_63_46 ?_
    refine w_a f_63_47 ?_
    exact h
set_option maxRecDepth 10000 in
set_option maxHeartbeats 4000000 in
theorem s_66_0_3_2 {Lx : Nat} {I : Mi} {L : Ml} {e : Nat} {Q : Kq} (h :
    (if (I 56 0) = (I 49 0) then
     Wp 28 0 [(0, .long (L 57 0)), (2, .long (L 57 1)), (4, .long (L 50 0)), (6, .long (L 50 1))] [] (gE Lx) I L e (kcp (Wp 66) 66 56 0 [(0, .ref 56), (1, .ref 49)] 71 [] Q)
    else
     (if (I 56 0) < (I 49 0) then
      Q (.inl (some (.int (Int32.ofInt (-1))))) (gE Lx) I L e
     else
      Q (.inl (some (.int (Int32.ofInt 1)))) (gE Lx) I L e))) :
    Wp 66 0 [(0, .ref 56), (1, .ref 49)] [] (gE Lx) I L e Q := by
  refine w_a f_66_0 ?_
  refine w_a f_66_1 ?_
  refine w_a f_66_4 ?_
  refine w_a f_66_5 ?_
  refine w_a f_66_8 ?_
  refine i_m (fun h => ?_) (fun h => ?_) h
  · refine w_a f_66_28 ?_
    refine w_a f_66_29 ?_
    refine w_a f_66_32 ?_
    refine w_a f_66_35 ?_
    refine w_a f_66_36 ?_
    refine w_a f_66_39 ?_
    refine w_a f_66_42 ?_
    refine w_a f_66_43 ?_
    refine w_a f_66_46 ?_
    refine w_a f_66_49 ?_
    refine w_a f_66_50 ?_
    refine w_a f_66_53 ?_
    exact w_c (ks := [0, 1]) f_66_56 rfl rfl h
  · refine w_a f_66_11 ?_
    refine w_a f_66_12 ?_
    refine w_a f_66_15 ?_
    refine w_a f_66_16 ?_
    refine w_a f_66_19 ?_
    refine i_m (fun h => ?_) (fun h => ?_) h
    · refine w_a f_66_22 ?_
      refine w_a f_66_23 ?_
      refine w_a f_66_27 ?_
      exact h
    · refine w_a f_66_26 ?_
      refine w_a f_66_27 ?_
      exact h
set_option maxRecDepth 10000 in
set_option maxHeartbeats 4000000 in
theorem s_66_59_3_2 {Lx : Nat} {I : Mi} {L : Ml} {e : Nat} {Q : Kq} {r : Int32} (h :
    Q (.inl (some (.int r))) (gE Lx) I L e) :
    Wp 66 59 [(0, .ref 56), (1, .ref 49)] [.int r] (gE Lx) I L e Q := by
  refine w_a f_66_59 ?_
  exact h
set_option maxRecDepth 10000 in
set_option maxHeartbeats 4000000 in
theorem s_63_39_3_2 {Lx : Nat} {I : Mi} {L : Ml} {e : Nat} {Q : Kq} {r : Int32} (h :
    (if r < 0 then
     Q (.inl (some (.int (Int32.ofInt 1)))) (gE Lx) I L e
    else
     Q (.inl (some (.int (Int32.ofInt 0)))) (gE Lx) I L e)) :
    Wp 63 39 [(0, .ref 51), (1, .ref 44)] [.int r] (gE Lx) I L e Q := by
  refine w_a f_63_39 ?_
  refine i_m (fun h => ?_) (fun h => ?_) h
  · refine w_a f_63_42 ?_
    refine w_a f_63_43 ?_
    refine w_a f_63_47 ?_
    exact h
  · refine w_a f_63_46 ?_
    refine w_a f_63_47 ?_
    exact h
set_option maxRecDepth 10000 in
set_option maxHeartbeats 4000000 in
theorem s_66_0_3_3 {Lx : Nat} {I : Mi} {L : Ml} {e : Nat} {Q : Kq} (h :
    (if (I 56 0) = (I 56 0) then
     Wp 28 0 [(0, .long (L 57 0)), (2, .long (L 57 1)), (4, .long (L 57 0)), (6, .long (L 57 1))] [] (gE Lx) I L e (kcp (Wp 66) 66 56 0 [(0, .ref 56), (1, .ref 56)] 71 [] Q)
    else
     (if (I 56 0) < (I 56 0) then
      Q (.inl (some (.int (Int32.ofInt (-1))))) (gE Lx) I L e
     else
      Q (.inl (some (.int (Int32.ofInt 1)))) (gE Lx) I L e))) :
    Wp 66 0 [(0, .ref 56), (1, .ref 56)] [] (gE Lx) I L e Q := by
  refine w_a f_66_0 ?_
  refine w_a f_66_1 ?_
  refine w_a f_66_4 ?_
  refine w_a f_66_5 ?_
  refine w_a f_66_8 ?_
  refine i_m (fun h => ?_) (fun h => ?_) h
  · refine w_a f_66_28 ?_
    refine w_a f_66_29 ?_
    refine w_a f_66_32 ?_
    refine w_a f_66_35 ?_
    refine w_a f_66_36 ?_
    refine w_a f_66_39 ?_
    refine w_a f_66_42 ?_
    refine w_a f_66_43 ?_
    refine w_a f_66_46 ?_
    refine w_a f_66_49 ?_
    refine w_a f_66_50 ?_
    refine w_a f_66_53 ?_
    exact w_c (ks := [0, 1]) f_66_56 rfl rfl h
  · refine w_a f_66_11 ?_
    refine w_a f_66_12 ?_
    refine w_a f_66_15 ?_
    refine w_a f_66_16 ?_
    refine w_a f_66_19 ?_
    refine i_m (fun h => ?_) (fun h => ?_) h
    · refine w_a f_66_22 ?_
      refine w_a f_66_23 ?_
      refine w_a f_66_27 ?_
      exact h
    · refine w_a f_66_26 ?_
      refine w_a f_66_27 ?_
      exact h
set_option maxRecDepth 10000 in
set_option maxHeartbeats 4000000 in
theorem s_66_59_3_3 {Lx : Nat} {I : Mi} {L : Ml} {e : Nat} {Q : Kq} {r : Int32} (h :
    Q (.inl (some (.int r))) (gE Lx) I L e) :
    Wp 66 59 [(0, .ref 56), (1, .ref 56)] [.int r] (gE Lx) I L e Q := by
  refine w_a f_66_59 ?_
  exact h
set_option maxRecDepth 10000 in
set_option maxHeartbeats 4000000 in
theorem s_63_39_3_3 {Lx : Nat} {I : Mi} {L : Ml} {e : Nat} {Q : Kq} {r : Int32} (h :
    (if r < 0 then
     Q (.inl (some (.int (Int32.ofInt 1)))) (gE Lx) I L e
    else
     Q (.inl (some (.int (Int32.ofInt 0)))) (gE Lx) I L e)) :
    Wp 63 39 [(0, .ref 51), (1, .ref 51)] [.int r] (gE Lx) I L e Q := by
  refine w_a f_63_39 ?_
  refine i_m (fun h => ?_) (fun h => ?_) h
  · refine w_a f_63_42 ?_
    refine w_a f_63_43 ?_
    refine w_a f_63_47 ?_
    exact h
  · refine w_a f_63_46 ?_
    refine w_a f_63_47 ?_
    exact h
set_option maxRecDepth 10000 in
set_option maxHeartbeats 4000000 in
theorem s_202_5_3 {Lx : Nat} {I : Mi} {L : Ml} {e : Nat} {Q : Kq} (h :
    Q (.inl (some (.int (I 5 3)))) (gE Lx) (ri (ri (ri (ui (ui (ui (ui (ui I 51 0 (Int32.ofInt 1)) 52 0 (I 5 0)) 52 1 (I 5 1)) 52 2 (I 5 2)) 52 3 (I 5 3)) 53 (va_cpy ((ui (ui (ui (ui (ui I 51 0 (Int32.ofInt 1)) 52 0 (I 5 0)) 52 1 (I 5 1)) 52 2 (I 5 2)) 52 3 (I 5 3)) 6) ((ui (ui (ui (ui (ui I 51 0 (Int32.ofInt 1)) 52 0 (I 5 0)) 52 1 (I 5 1)) 52 2 (I 5 2)) 52 3 (I 5 3)) 53) 0 0 4)) 54 (va_cpy ((ri (ui (ui (ui (ui (ui I 51 0 (Int32.ofInt 1)) 52 0 (I 5 0)) 52 1 (I 5 1)) 52 2 (I 5 2)) 52 3 (I 5 3)) 53 (va_cpy ((ui (ui (ui (ui (ui I 51 0 (Int32.ofInt 1)) 52 0 (I 5 0)) 52 1 (I 5 1)) 52 2 (I 5 2)) 52 3 (I 5 3)) 6) ((ui (ui (ui (ui (ui I 51 0 (Int32.ofInt 1)) 52 0 (I 5 0)) 52 1 (I 5 1)) 52 2 (I 5 2)) 52 3 (I 5 3)) 53) 0 0 4)) 7) ((ri (ui (ui (ui (ui (ui I 51 0 (Int32.ofInt 1)) 52 0 (I 5 0)) 52 1 (I 5 1)) 52 2 (I 5 2)) 52 3 (I 5 3)) 53 (va_cpy ((ui (ui (ui (ui (ui I 51 0 (Int32.ofInt 1)) 52 0 (I 5 0)) 52 1 (I 5 1)) 52 2 (I 5 2)) 52 3 (I 5 3)) 6) ((ui (ui (ui (ui (ui I 51 0 (Int32.ofInt 1)) 52 0 (I 5 0)) 52 1 (I 5 1)) 52 2 (I 5 2)) 52 3 (I 5 3)) 53) 0 0 4)) 54) 0 0 4)) 55 (va_cpy ((ri (ri (ui (ui (ui (ui (ui I 51 0 (Int32.ofInt 1)) 52 0 (I 5 0)) 52 1 (I 5 1)) 52 2 (I 5 2)) 52 3 (I 5 3)) 53 (va_cpy ((ui (ui (ui (ui (ui I 51 0 (Int32.ofInt 1)) 52 0 (I 5 0)) 52 1 (I 5 1)) 52 2 (I 5 2)) 52 3 (I 5 3)) 6) ((ui (ui (ui (ui (ui I 51 0 (Int32.ofInt 1)) 52 0 (I 5 0)) 52 1 (I 5 1)) 52 2 (I 5 2)) 52 3 (I 5 3)) 53) 0 0 4)) 54 (va_cpy ((ri (ui (ui (ui (ui (ui I 51 0 (Int32.ofInt 1)) 52 0 (I 5 0)) 52 1 (I 5 1)) 52 2 (I 5 2)) 52 3 (I 5 3)) 53 (va_cpy ((ui (ui (ui (ui (ui I 51 0 (Int32.ofInt 1)) 52 0 (I 5 0)) 52 1 (I 5 1)) 52 2 (I 5 2)) 52 3 (I 5 3)) 6) ((ui (ui (ui (ui (ui I 51 0 (Int32.ofInt 1)) 52 0 (I 5 0)) 52 1 (I 5 1)) 52 2 (I 5 2)) 52 3 (I 5 3)) 53) 0 0 4)) 7) ((ri (ui (ui (ui (ui (ui I 51 0 (Int32.ofInt 1)) 52 0 (I 5 0)) 52 1 (I 5 1)) 52 2 (I 5 2)) 52 3 (I 5 3)) 53 (va_cpy ((ui (ui (ui (ui (ui I 51 0 (Int32.ofInt 1)) 52 0 (I 5 0)) 52 1 (I 5 1)) 52 2 (I 5 2)) 52 3 (I 5 3)) 6) ((ui (ui (ui (ui (ui I 51 0 (Int32.ofInt 1)) 52 0 (I 5 0)) 52 1 (I 5 1)) 52 2 (I 5 2)) 52 3 (I 5 3)) 53) 0 0 4)) 54) 0 0 4)) 8) ((ri (ri (ui (ui (ui (ui (ui I 51 0 (Int32.ofInt 1)) 52 0 (I 5 0)) 52 1 (I 5 1)) 52 2 (I 5 2)) 52 3 (I 5 3)) 53 (va_cpy ((ui (ui (ui (ui (ui I 51 0 (Int32.ofInt 1)) 52 0 (I 5 0)) 52 1 (I 5 1)) 52 2 (I 5 2)) 52 3 (I 5 3)) 6) ((ui (ui (ui (ui (ui I 51 0 (Int32.ofInt 1)) 52 0 (I 5 0)) 52 1 (I 5 1)) 52 2 (I 5 2)) 52 3 (I 5 3)) 53) 0 0 4)) 54 (va_cpy ((ri (ui (ui (ui (ui (ui I 51 0 (Int32.ofInt 1)) 52 0 (I 5 0)) 52 1 (I 5 1)) 52 2 (I 5 2)) 52 3 (I 5 3)) 53 (va_cpy ((ui (ui (ui (ui (ui I 51 0 (Int32.ofInt 1)) 52 0 (I 5 0)) 52 1 (I 5 1)) 52 2 (I 5 2)) 52 3 (I 5 3)) 6) ((ui (ui (ui (ui (ui I 51 0 (Int32.ofInt 1)) 52 0 (I 5 0)) 52 1 (I 5 1)) 52 2 (I 5 2)) 52 3 (I 5 3)) 53) 0 0 4)) 7) ((ri (ui (ui (ui (ui (ui I 51 0 (Int32.ofInt 1)) 52 0 (I 5 0)) 52 1 (I 5 1)) 52 2 (I 5 2)) 52 3 (I 5 3)) 53 (va_cpy ((ui (ui (ui (ui (ui I 51 0 (Int32.ofInt 1)) 52 0 (I 5 0)) 52 1 (I 5 1)) 52 2 (I 5 2)) 52 3 (I 5 3)) 6) ((ui (ui (ui (ui (ui I 51 0 (Int32.ofInt 1)) 52 0 (I 5 0)) 52 1 (I 5 1)) 52 2 (I 5 2)) 52 3 (I 5 3)) 53) 0 0 4)) 54) 0 0 4)) 55) 0 0 4)) L e) :
    Wp 202 5 [(0, .ref 1), (1, .int (Int32.ofInt 3))] [] (gE Lx) I L e Q := by
  refine w_a f_202_5 ?_
  refine w_a f_202_6 ?_
  refine w_a f_202_9 ?_
  refine w_a f_202_10 ?_
  refine w_a f_202_11 ?_
  refine w_a f_202_12 ?_
  refine w_a f_202_15 ?_
  refine w_a f_202_16 ?_
  refine w_a f_202_19 ?_
  refine w_a f_202_20 ?_
  refine w_a f_202_21 ?_
  refine w_a f_202_24 ?_
  refine w_a f_202_25 ?_
  refine w_a f_202_28 ?_
  refine w_a (ls := [(0, .ref 52), (1, .ref 5)]) f_16_0 ?_
  refine w_a f_16_1 ?_
  refine w_a f_16_2 ?_
  refine w_a f_16_5 ?_
  refine w_a f_16_6 ?_
  refine w_a f_16_9 ?_
  refine w_a f_16_10 ?_
  refine w_a f_16_13 ?_
  refine w_a (ls := [(0, .ref 52), (1, .int (I 5 0)), (2, .int (I 5 1)), (3, .int (I 5 2))]) f_17_0 ?_
  refine w_a f_17_1 ?_
  refine w_a f_17_2 ?_
  refine w_a f_17_5 ?_
  refine w_a f_17_6 ?_
  refine w_a f_17_7 ?_
  refine w_a f_17_10 ?_
  refine w_a f_17_11 ?_
  refine w_a f_17_12 ?_
  refine w_a f_17_15 ?_
  refine w_a (ls := [(0, .ref 52), (1, .ref 5)]) f_16_16 ?_
  refine w_a f_16_17 ?_
  refine w_a f_16_18 ?_
  refine w_a f_16_21 ?_
  refine w_a f_16_24 ?_
  refine w_a f_16_25 ?_
  refine w_a f_16_28 ?_
  refine w_a f_16_29 ?_
  refine w_a f_16_30 ?_
  refine w_a f_16_33 ?_
  refine w_a f_16_34 ?_
  refine w_a f_16_35 ?_
  refine w_a f_16_38 ?_
  refine w_a f_16_39 ?_
  refine w_a f_16_42 ?_
  refine w_a f_16_43 ?_
  refine w_a f_16_44 ?_
  refine w_a f_16_47 ?_
  refine w_a f_16_48 ?_
  refine w_a f_16_49 ?_
  refine w_a f_16_52 ?_
  refine w_a f_16_53 ?_
  refine w_a f_16_56 ?_
  refine w_a f_16_57 ?_
  refine w_a f_16_58 ?_
  refine w_a f_16_61 ?_
  refine w_a f_16_62 ?_
  refine w_a f_16_63 ?_
  refine w_a f_16_66 ?_
  refine w_a (ls := [(0, .ref 1), (1, .int (Int32.ofInt 3))]) f_202_31 ?_
  refine w_a f_202_32 ?_
  refine w_a f_202_35 ?_
  refine w_a f_202_38 ?_
  exact h
set_option maxRecDepth 10000 in
set_option maxHeartbeats 4000000 in
theorem s_204_5_3 {Lx : Nat} {I : Mi} {L : Ml} {e : Nat} {Q : Kq} (h :
    (if (I 51 0) = 0 then
     Q (.inr 102) (gE Lx) I L (e + 1)
    else
     Q (.inl (some (.int (I 52 3)))) (gE Lx) (ri (ri (ri (ui (ui (ui (ui I 5 0 (I 52 0)) 5 1 (I 52 1)) 5 2 (I 52 2)) 5 3 (I 52 3)) 6 (va_cpy ((ui (ui (ui (ui I 5 0 (I 52 0)) 5 1 (I 52 1)) 5 2 (I 52 2)) 5 3 (I 52 3)) 53) ((ui (ui (ui (ui I 5 0 (I 52 0)) 5 1 (I 52 1)) 5 2 (I 52 2)) 5 3 (I 52 3)) 6) 0 0 4)) 7 (va_cpy ((ri (ui (ui (ui (ui I 5 0 (I 52 0)) 5 1 (I 52 1)) 5 2 (I 52 2)) 5 3 (I 52 3)) 6 (va_cpy ((ui (ui (ui (ui I 5 0 (I 52 0)) 5 1 (I 52 1)) 5 2 (I 52 2)) 5 3 (I 52 3)) 53) ((ui (ui (ui (ui I 5 0 (I 52 0)) 5 1 (I 52 1)) 5 2 (I 52 2)) 5 3 (I 52 3)) 6) 0 0 4)) 54) ((ri (ui (ui (ui (ui I 5 0 (I 52 0)) 5 1 (I 52 1)) 5 2 (I 52 2)) 5 3 (I 52 3)) 6 (va_cpy ((ui (ui (ui (ui I 5 0 (I 52 0)) 5 1 (I 52 1)) 5 2 (I 52 2)) 5 3 (I 52 3)) 53) ((ui (ui (ui (ui I 5 0 (I 52 0)) 5 1 (I 52 1)) 5 2 (I 52 2)) 5 3 (I 52 3)) 6) 0 0 4)) 7) 0 0 4)) 8 (va_cpy ((ri (ri (ui (ui (ui (ui I 5 0 (I 52 0)) 5 1 (I 52 1)) 5 2 (I 52 2)) 5 3 (I 52 3)) 6 (va_cpy ((ui (ui (ui (ui I 5 0 (I 52 0)) 5 1 (I 52 1)) 5 2 (I 52 2)) 5 3 (I 52 3)) 53) ((ui (ui (ui (ui I 5 0 (I 52 0)) 5 1 (I 52 1)) 5 2 (I 52 2)) 5 3 (I 52 3)) 6) 0 0 4)) 7 (va_cpy ((ri (ui (ui (ui (ui I 5 0 (I 52 0)) 5 1 (I 52 1)) 5 2 (I 52 2)) 5 3 (I 52 3)) 6 (va_cpy ((ui (ui (ui (ui I 5 0 (I 52 0)) 5 1 (I 52 1)) 5 2 (I 52 2)) 5 3 (I 52 3)) 53) ((ui (ui (ui (ui I 5 0 (I 52 0)) 5 1 (I 52 1)) 5 2 (I 52 2)) 5 3 (I 52 3)) 6) 0 0 4)) 54) ((ri (ui (ui (ui (ui I 5 0 (I 52 0)) 5 1 (I 52 1)) 5 2 (I 52 2)) 5 3 (I 52 3)) 6 (va_cpy ((ui (ui (ui (ui I 5 0 (I 52 0)) 5 1 (I 52 1)) 5 2 (I 52 2)) 5 3 (I 52 3)) 53) ((ui (ui (ui (ui I 5 0 (I 52 0)) 5 1 (I 52 1)) 5 2 (I 52 2)) 5 3 (I 52 3)) 6) 0 0 4)) 7) 0 0 4)) 55) ((ri (ri (ui (ui (ui (ui I 5 0 (I 52 0)) 5 1 (I 52 1)) 5 2 (I 52 2)) 5 3 (I 52 3)) 6 (va_cpy ((ui (ui (ui (ui I 5 0 (I 52 0)) 5 1 (I 52 1)) 5 2 (I 52 2)) 5 3 (I 52 3)) 53) ((ui (ui (ui (ui I 5 0 (I 52 0)) 5 1 (I 52 1)) 5 2 (I 52 2)) 5 3 (I 52 3)) 6) 0 0 4)) 7 (va_cpy ((ri (ui (ui (ui (ui I 5 0 (I 52 0)) 5 1 (I 52 1)) 5 2 (I 52 2)) 5 3 (I 52 3)) 6 (va_cpy ((ui (ui (ui (ui I 5 0 (I 52 0)) 5 1 (I 52 1)) 5 2 (I 52 2)) 5 3 (I 52 3)) 53) ((ui (ui (ui (ui I 5 0 (I 52 0)) 5 1 (I 52 1)) 5 2 (I 52 2)) 5 3 (I 52 3)) 6) 0 0 4)) 54) ((ri (ui (ui (ui (ui I 5 0 (I 52 0)) 5 1 (I 52 1)) 5 2 (I 52 2)) 5 3 (I 52 3)) 6 (va_cpy ((ui (ui (ui (ui I 5 0 (I 52 0)) 5 1 (I 52 1)) 5 2 (I 52 2)) 5 3 (I 52 3)) 53) ((ui (ui (ui (ui I 5 0 (I 52 0)) 5 1 (I 52 1)) 5 2 (I 52 2)) 5 3 (I 52 3)) 6) 0 0 4)) 7) 0 0 4)) 8) 0 0 4)) L e)) :
    Wp 204 5 [(0, .ref 1), (1, .int (Int32.ofInt 3))] [] (gE Lx) I L e Q := by
  refine w_a f_204_5 ?_
  refine w_a f_204_6 ?_
  refine w_a f_204_9 ?_
  refine w_a f_204_10 ?_
  refine w_a f_204_11 ?_
  refine w_a f_204_14 ?_
  refine i_m (fun h => ?_) (fun h => ?_) h
  · refine w_a f_204_17 ?_
    exact h
  · refine w_a f_204_25 ?_
    refine w_a f_204_26 ?_
    refine w_a f_204_29 ?_
    refine w_a f_204_30 ?_
    refine w_a f_204_33 ?_
    refine w_a f_204_34 ?_
    refine w_a f_204_35 ?_
    refine w_a f_204_38 ?_
    refine w_a (ls := [(0, .ref 5), (1, .ref 52)]) f_16_0 ?_
    refine w_a f_16_1 ?_
    refine w_a f_16_2 ?_
    refine w_a f_16_5 ?_
    refine w_a f_16_6 ?_
    refine w_a f_16_9 ?_
    refine w_a f_16_10 ?_
    refine w_a f_16_13 ?_
    refine w_a (ls := [(0, .ref 5), (1, .int (I 52 0)), (2, .int (I 52 1)), (3, .int (I 52 2))]) f_17_0 ?_
    refine w_a f_17_1 ?_
    refine w_a f_17_2 ?_
    refine w_a f_17_5 ?_
    refine w_a f_17_6 ?_
    refine w_a f_17_7 ?_
    refine w_a f_17_10 ?_
    refine w_a f_17_11 ?_
    refine w_a f_17_12 ?_
    refine w_a f_17_15 ?_
    refine w_a (ls := [(0, .ref 5), (1, .ref 52)]) f_16_16 ?_
    refine w_a f_16_17 ?_
    refine w_a f_16_18 ?_
    refine w_a f_16_21 ?_
    refine w_a f_16_24 ?_
    refine w_a f_16_25 ?_
    refine w_a f_16_28 ?_
    refine w_a f_16_29 ?_
    refine w_a f_16_30 ?_
    refine w_a f_16_33 ?_
    refine w_a f_16_34 ?_
    refine w_a f_16_35 ?_
    refine w_a f_16_38 ?_
    refine w_a f_16_39 ?_
    refine w_a f_16_42 ?_
    refine w_a f_16_43 ?_
    refine w_a f_16_44 ?_
    refine w_a f_16_47 ?_
    refine w_a f_16_48 ?_
    refine w_a f_16_49 ?_
    refine w_a f_16_52 ?_
    refine w_a f_16_53 ?_
    refine w_a f_16_56 ?_
    refine w_a f_16_57 ?_
    refine w_a f_16_58 ?_
    refine w_a f_16_61 ?_
    refine w_a f_16_62 ?_
    refine w_a f_16_63 ?_
    refine w_a f_16_66 ?_
    refine w_a (ls := [(0, .ref 1), (1, .int (Int32.ofInt 3))]) f_204_41 ?_
    refine w_a f_204_42 ?_
    refine w_a f_204_45 ?_
    refine w_a f_204_48 ?_
    exact h
set_option maxRecDepth 10000 in
set_option maxHeartbeats 4000000 in
theorem s_100_6_0 {Lx : Nat} {I : Mi} {L : Ml} {e : Nat} {Q : Kq} {x1 : Int32} (h :
    (if (I 30 0) = 0 then
     Wp 100 6 [(0, .ref 1), (1, .int x1), (2, .int (Int32.ofInt 1))] [] (gE Lx) I L e Q
    else
     Wp 102 0 [(0, .ref 1), (1, .int (Int32.ofInt 0))] [] (gE Lx) I L e (kcp (Wp 100) 100 25 0 [(0, .ref 1), (1, .int x1), (2, .int (Int32.ofInt 0))] 71 [] Q))) :
    Wp 100 6 [(0, .ref 1), (1, .int x1), (2, .int (Int32.ofInt 0))] [] (gE Lx) I L e Q := by
  refine w_a f_100_6 ?_
  refine w_a f_100_7 ?_
  refine w_a f_100_8 ?_
  refine w_a f_100_11 ?_
  refine w_a f_100_12 ?_
  refine w_a f_100_15 ?_
  refine w_a f_100_16 ?_
  refine w_a f_100_17 ?_
  refine w_a f_100_20 ?_
  refine i_m (fun h => ?_) (fun h => ?_) h
  · refine w_a f_100_34 ?_
    refine w_a (ls := [(2, .int (Int32.ofInt 1)), (0, .ref 1), (1, .int x1)]) f_100_37 ?_
    exact w_n (ks := [0, 1, 2]) rfl h
  · refine w_a f_100_23 ?_
    refine w_a f_100_24 ?_
    exact w_c (ks := [0, 1, 2]) f_100_25 rfl rfl h
set_option maxRecDepth 10000 in
set_option maxHeartbeats 4000000 in
theorem s_101_2_0 {Lx : Nat} {I : Mi} {L : Ml} {e : Nat} {Q : Kq} (h :
    (if (I 30 0) = 0 then
     Wp 101 62 [(0, .ref 1), (1, .int (Int32.ofInt 0))] [] (gE Lx) I L e Q
    else
     Wp 95 0 [(0, .ref 1), (1, .ref 31)] [] (gE Lx) I L e (kcp (Wp 101) 101 35 0 [(0, .ref 1), (1, .int (Int32.ofInt 0))] 71 [.ref 30] Q))) :
    Wp 101 2 [(0, .ref 1), (1, .int (Int32.ofInt 0))] [] (gE Lx) I L e Q := by
  refine w_a f_101_2 ?_
  refine w_a f_101_3 ?_
  refine w_a f_101_4 ?_
  refine w_a f_101_7 ?_
  refine w_a f_101_8 ?_
  refine w_a f_101_11 ?_
  refine w_a f_101_12 ?_
  refine w_a f_101_13 ?_
  refine w_a f_101_16 ?_
  refine i_m (fun h => ?_) (fun h => ?_) h
  · exact w_n (ks := [0, 1]) rfl h
  · refine w_a f_101_19 ?_
    refine w_a f_101_20 ?_
    refine w_a f_101_23 ?_
    refine w_a f_101_24 ?_
    refine w_a f_101_25 ?_
    refine w_a f_101_26 ?_
    refine w_a f_101_27 ?_
    refine w_a f_101_30 ?_
    refine w_a f_101_31 ?_
    refine w_a f_101_32 ?_
    exact w_c (ks := [0, 1]) f_101_35 rfl rfl h
set_option maxRecDepth 10000 in
set_option maxHeartbeats 4000000 in
theorem s_104_4_0 {Lx : Nat} {I : Mi} {L : Ml} {e : Nat} {Q : Kq} {x1 : Int32} (h :
    (if (I 30 0) = 0 then
     Wp 104 4 [(0, .ref 1), (1, .int x1), (2, .int (Int32.ofInt 1))] [] (gE Lx) I L e Q
    else
     Wp 104 4 [(0, .ref 1), (1, .int (x1 ||| (Int32.ofInt 1))), (2, .int (Int32.ofInt 1))] [] (gE Lx) I L e Q)) :
    Wp 104 4 [(0, .ref 1), (1, .int x1), (2, .int (Int32.ofInt 0))] [] (gE Lx) I L e Q := by
  refine w_a f_104_4 ?_
  refine w_a f_104_5 ?_
  refine w_a f_104_6 ?_
  refine w_a f_104_9 ?_
  refine w_a f_104_10 ?_
  refine w_a f_104_13 ?_
  refine w_a f_104_14 ?_
  refine w_a f_104_15 ?_
  refine w_a f_104_18 ?_
  refine i_m (fun h => ?_) (fun h => ?_) h
  · refine w_a f_104_27 ?_
    refine w_a (ls := [(2, .int (Int32.ofInt 1)), (0, .ref 1), (1, .int x1)]) f_104_30 ?_
    exact w_n (ks := [0, 1, 2]) rfl h
  · refine w_a f_104_21 ?_
    refine w_a f_104_22 ?_
    refine w_a f_104_23 ?_
    refine w_a f_104_24 ?_
    refine w_a f_104_25 ?_
    refine w_a f_104_26 ?_
    refine w_a (ls := [(1, .int (x1 ||| (Int32.ofInt 1))), (0, .ref 1), (2, .int (Int32.ofInt 0))]) f_104_27 ?_
    refine w_a (ls := [(2, .int (Int32.ofInt 1)), (1, .int (x1 ||| (Int32.ofInt 1))), (0, .ref 1)]) f_104_30 ?_
    exact w_n (ks := [0, 1, 2]) rfl h
set_option maxRecDepth 10000 in
set_option maxHeartbeats 4000000 in
theorem s_101_38_0 {Lx : Nat} {I : Mi} {L : Ml} {e : Nat} {Q : Kq} {r : Int32} (h :
    Wp 65 0 [(0, .ref 35), (1, .ref 31)] [] (gE Lx) (ui I 30 2 r) L e (kcp (Wp 101) 101 59 0 [(0, .ref 1), (1, .int (Int32.ofInt 0))] 71 [] Q)) :
    Wp 101 38 [(0, .ref 1), (1, .int (Int32.ofInt 0))] [.int r, .ref 30] (gE Lx) I L e Q := by
  refine w_a f_101_38 ?_
  refine w_a f_101_41 ?_
  refine w_a f_101_42 ?_
  refine w_a f_101_45 ?_
  refine w_a f_101_46 ?_
  refine w_a f_101_47 ?_
  refine w_a f_101_50 ?_
  refine w_a f_101_51 ?_
  refine w_a f_101_54 ?_
  refine w_a f_101_55 ?_
  refine w_a f_101_56 ?_
  exact w_c (ks := [0, 1]) f_101_59 rfl rfl h
set_option maxRecDepth 10000 in
set_option maxHeartbeats 4000000 in
theorem s_100_28_0 {Lx : Nat} {I : Mi} {L : Ml} {e : Nat} {Q : Kq} {x1 : Int32} {r : Int32} (h :
    (if r = x1 then
     Q (.inl (some (.int (Int32.ofInt 0)))) (gE Lx) I L e
    else
     Wp 100 6 [(0, .ref 1), (1, .int x1), (2, .int (Int32.ofInt 1))] [] (gE Lx) I L e Q)) :
    Wp 100 28 [(0, .ref 1), (1, .int x1), (2, .int (Int32.ofInt 0))] [.int r] (gE Lx) I L e Q := by
  refine w_a f_100_28 ?_
  refine w_a f_100_29 ?_
  refine i_m (fun h => ?_) (fun h => ?_) h
  · refine w_a f_100_32 ?_
    refine w_a f_100_33 ?_
    exact h
  · refine w_a f_100_34 ?_
    refine w_a (ls := [(2, .int (Int32.ofInt 1)), (0, .ref 1), (1, .int x1)]) f_100_37 ?_
    exact w_n (ks := [0, 1, 2]) rfl h
set_option maxRecDepth 10000 in
set_option maxHeartbeats 4000000 in
theorem s_101_62_0 {Lx : Nat} {I : Mi} {L : Ml} {e : Nat} {Q : Kq} (h :
    Wp 101 2 [(0, .ref 1), (1, .int (Int32.ofInt 1))] [] (gE Lx) I L e Q) :
    Wp 101 62 [(0, .ref 1), (1, .int (Int32.ofInt 0))] [] (gE Lx) I L e Q := by
  refine w_a f_101_62 ?_
  refine w_a (ls := [(1, .int (Int32.ofInt 1)), (0, .ref 1)]) f_101_65 ?_
  exact w_n (ks := [0, 1]) rfl h
set_option maxRecDepth 10000 in
set_option maxHeartbeats 4000000 in
theorem s_102_4_0_0 {Lx : Nat} {I : Mi} {L : Ml} {e : Nat} {Q : Kq} {x2 : Int32} (h :
    (if (I 30 0) = 0 then
     Wp 102 4 [(0, .ref 1), (1, .int (Int32.ofInt 0)), (2, .int x2), (3, .int (Int32.ofInt 1))] [] (gE Lx) I L e Q
    else
     (if (I 30 2) = (I 30 2) then
      Wp 66 0 [(0, .ref 35), (1, .ref 35)] [] (gE Lx) I L e (kcp (Wp 63) 63 36 0 [(0, .ref 30), (1, .ref 30)] 71 [] (kcp (Wp 102) 102 33 0 [(0, .ref 1), (1, .int (Int32.ofInt 0)), (2, .int x2), (3, .int (Int32.ofInt 0))] 71 [] Q))
     else
      (if (I 30 2) < (I 30 2) then
       Wp 102 36 [(0, .ref 1), (1, .int (Int32.ofInt 0)), (2, .int x2), (3, .int (Int32.ofInt 0))] [.int (Int32.ofInt 1)] (gE Lx) I L e Q
      else
       Wp 102 36 [(0, .ref 1), (1, .int (Int32.ofInt 0)), (2, .int x2), (3, .int (Int32.ofInt 0))] [.int (Int32.ofInt 0)] (gE Lx) I L e Q)))) :
    Wp 102 4 [(0, .ref 1), (1, .int (Int32.ofInt 0)), (2, .int x2), (3, .int (Int32.ofInt 0))] [] (gE Lx) I L e Q := by
  refine w_a f_102_4 ?_
  refine w_a f_102_5 ?_
  refine w_a f_102_6 ?_
  refine w_a f_102_9 ?_
  refine w_a f_102_10 ?_
  refine w_a f_102_13 ?_
  refine w_a f_102_14 ?_
  refine w_a f_102_15 ?_
  refine w_a f_102_18 ?_
  refine i_m (fun h => ?_) (fun h => ?_) h
  · refine w_a f_102_65 ?_
    refine w_a (ls := [(3, .int (Int32.ofInt 1)), (0, .ref 1), (1, .int (Int32.ofInt 0)), (2, .int x2)]) f_102_68 ?_
    exact w_n (ks := [0, 1, 2, 3]) rfl h
  · refine w_a f_102_21 ?_
    refine w_a f_102_22 ?_
    refine w_a f_102_25 ?_
    refine w_a f_102_26 ?_
    refine w_a f_102_27 ?_
    refine w_a f_102_28 ?_
    refine w_a f_102_31 ?_
    refine w_a f_102_32 ?_
    refine w_c (ks := [0, 1, 2, 3]) f_102_33 rfl rfl ?_
    refine w_a (ls := [(0, .ref 30), (1, .ref 30)]) f_63_0 ?_
    refine w_a f_63_1 ?_
    refine w_a f_63_4 ?_
    refine w_a f_63_5 ?_
    refine w_a f_63_8 ?_
    refine i_m (fun h => ?_) (fun h => ?_) h
    · refine w_a f_63_28 ?_
      refine w_a f_63_29 ?_
      refine w_a f_63_32 ?_
      refine w_a f_63_33 ?_
      exact w_c (ks := [0, 1]) f_63_36 rfl rfl h
    · refine w_a f_63_11 ?_
      refine w_a f_63_12 ?_
      refine w_a f_63_15 ?_
      refine w_a f_63_16 ?_
      refine w_a f_63_19 ?_
      refine i_m (fun h => ?_) (fun h => ?_) h
      · refine w_a f_63_22 ?_
        refine w_a f_63_23 ?_
        refine w_a f_63_27 ?_
        exact h
      · refine w_a f_63_26 ?_
        refine w_a f_63_27 ?_
        exact h
set_option maxRecDepth 10000 in
set_option maxHeartbeats 4000000 in
theorem s_102_36_0_0 {Lx : Nat} {I : Mi} {L : Ml} {e : Nat} {Q : Kq} {x2 : Int32} {r : Int32} (h :
    (if r = 0 then
     Wp 102 4 [(0, .ref 1), (1, .int (Int32.ofInt 0)), (2, .int x2), (3, .int (Int32.ofInt 1))] [] (gE Lx) I L e Q
    else
     Wp 102 4 [(0, .ref 1), (1, .int (Int32.ofInt 0)), (2, .int (x2 + Int32.ofInt 1)), (3, .int (Int32.ofInt 1))] [] (gE Lx) I L e Q)) :
    Wp 102 36 [(0, .ref 1), (1, .int (Int32.ofInt 0)), (2, .int x2), (3, .int (Int32.ofInt 0))] [.int r] (gE Lx) I L e Q := by
  refine w_a f_102_36 ?_
  refine i_m (fun h => ?_) (fun h => ?_) h
  · refine w_a f_102_39 ?_
    refine w_a f_102_40 ?_
    refine w_a f_102_41 ?_
    refine w_a f_102_65 ?_
    refine w_a (ls := [(3, .int (Int32.ofInt 1)), (0, .ref 1), (1, .int (Int32.ofInt 0)), (2, .int x2)]) f_102_68 ?_
    exact w_n (ks := [0, 1, 2, 3]) rfl h
  · refine w_a f_102_62 ?_
    refine w_a (ls := [(2, .int (x2 + Int32.ofInt 1)), (0, .ref 1), (1, .int (Int32.ofInt 0)), (3, .int (Int32.ofInt 0))]) f_102_65 ?_
    refine w_a (ls := [(3, .int (Int32.ofInt 1)), (2, .int (x2 + Int32.ofInt 1)), (0, .ref 1), (1, .int (Int32.ofInt 0))]) f_102_68 ?_
    exact w_n (ks := [0, 1, 2, 3]) rfl h
set_option maxRecDepth 10000 in
set_option maxHeartbeats 4000000 in
theorem s_102_59_0_0 {Lx : Nat} {I : Mi} {L : Ml} {e : Nat} {Q : Kq} {x2 : Int32} {r : Int32} (h :
    (if r = 0 then
     Wp 102 4 [(0, .ref 1), (1, .int (Int32.ofInt 0)), (2, .int (x2 + Int32.ofInt 1)), (3, .int (Int32.ofInt 1))] [] (gE Lx) I L e Q
    else
     Wp 102 4 [(0, .ref 1), (1, .int (Int32.ofInt 0)), (2, .int x2), (3, .int (Int32.ofInt 1))] [] (gE Lx) I L e Q)) :
    Wp 102 59 [(0, .ref 1), (1, .int (Int32.ofInt 0)), (2, .int x2), (3, .int (Int32.ofInt 0))] [.int r] (gE Lx) I L e Q := by
  refine w_a f_102_59 ?_
  refine i_m (fun h => ?_) (fun h => ?_) h
  · refine w_a f_102_62 ?_
    refine w_a (ls := [(2, .int (x2 + Int32.ofInt 1)), (0, .ref 1), (1, .int (Int32.ofInt 0)), (3, .int (Int32.ofInt 0))]) f_102_65 ?_
    refine w_a (ls := [(3, .int (Int32.ofInt 1)), (2, .int (x2 + Int32.ofInt 1)), (0, .ref 1), (1, .int (Int32.ofInt 0))]) f_102_68 ?_
    exact w_n (ks := [0, 1, 2, 3]) rfl h
  · refine w_a f_102_65 ?_
    refine w_a (ls := [(3, .int (Int32.ofInt 1)), (0, .ref 1), (1, .int (Int32.ofInt 0)), (2, .int x2)]) f_102_68 ?_
    exact w_n (ks := [0, 1, 2, 3]) rfl h
set_option maxRecDepth 10000 in
set_option maxHeartbeats 4000000 in
theorem s_102_4_0_1 {Lx : Nat} {I : Mi} {L : Ml} {e : Nat} {Q : Kq} {x2 : Int32} (h :
    (if (I 37 0) = 0 then
     Wp 102 4 [(0, .ref 1), (1, .int (Int32.ofInt 0)), (2, .int x2), (3, .int (Int32.ofInt 2))] [] (gE Lx) I L e Q
    else
     (if (I 37 2) = (I 30 2) then
      Wp 66 0 [(0, .ref 42), (1, .ref 35)] [] (gE Lx) I L e (kcp (Wp 63) 63 36 0 [(0, .ref 37), (1, .ref 30)] 71 [] (kcp (Wp 102) 102 33 0 [(0, .ref 1), (1, .int (Int32.ofInt 0)), (2, .int x2), (3, .int (Int32.ofInt 1))] 71 [] Q))
     else
      (if (I 30 2) < (I 37 2) then
       Wp 102 36 [(0, .ref 1), (1, .int (Int32.ofInt 0)), (2, .int x2), (3, .int (Int32.ofInt 1))] [.int (Int32.ofInt 1)] (gE Lx) I L e Q
      else
       Wp 102 36 [(0, .ref 1), (1, .int (Int32.ofInt 0)), (2, .int x2), (3, .int (Int32.ofInt 1))] [.int (Int32.ofInt 0)] (gE Lx) I L e Q)))) :
    Wp 102 4 [(0, .ref 1), (1, .int (Int32.ofInt 0)), (2, .int x2), (3, .int (Int32.ofInt 1))] [] (gE Lx) I L e Q := by
  refine w_a f_102_4 ?_
  refine w_a f_102_5 ?_
  refine w_a f_102_6 ?_
  refine w_a f_102_9 ?_
  refine w_a f_102_10 ?_
  refine w_a f_102_13 ?_
  refine w_a f_102_14 ?_
  refine w_a f_102_15 ?_
  refine w_a f_102_18 ?_
  refine i_m (fun h => ?_) (fun h => ?_) h
  · refine w_a f_102_65 ?_
    refine w_a (ls := [(3, .int (Int32.ofInt 2)), (0, .ref 1), (1, .int (Int32.ofInt 0)), (2, .int x2)]) f_102_68 ?_
    exact w_n (ks := [0, 1, 2, 3]) rfl h
  · refine w_a f_102_21 ?_
    refine w_a f_102_22 ?_
    refine w_a f_102_25 ?_
    refine w_a f_102_26 ?_
    refine w_a f_102_27 ?_
    refine w_a f_102_28 ?_
    refine w_a f_102_31 ?_
    refine w_a f_102_32 ?_
    refine w_c (ks := [0, 1, 2, 3]) f_102_33 rfl rfl ?_
    refine w_a (ls := [(0, .ref 37), (1, .ref 30)]) f_63_0 ?_
    refine w_a f_63_1 ?_
    refine w_a f_63_4 ?_
    refine w_a f_63_5 ?_
    refine w_a f_63_8 ?_
    refine i_m (fun h => ?_) (fun h => ?_) h
    · refine w_a f_63_28 ?_
      refine w_a f_63_29 ?_
      refine w_a f_63_32 ?_
      refine w_a f_63_33 ?_
      exact w_c (ks := [0, 1]) f_63_36 rfl rfl h
    · refine w_a f_63_11 ?_
      refine w_a f_63_12 ?_
      refine w_a f_63_15 ?_
      refine w_a f_63_16 ?_
      refine w_a f_63_19 ?_
      refine i_m (fun h => ?_) (fun h => ?_) h
      · refine w_a f_63_22 ?_
        refine w_a f_63_23 ?_
        refine w_a f_63_27 ?_
        exact h
      · refine w_a f_63_26 ?_
        refine w_a f_63_27 ?_
        exact h
set_option maxRecDepth 10000 in
set_option maxHeartbeats 4000000 in
theorem s_102_36_0_1 {Lx : Nat} {I : Mi} {L : Ml} {e : Nat} {Q : Kq} {x2 : Int32} {r : Int32} (h :
    (if r = 0 then
     Wp 102 4 [(0, .ref 1), (1, .int (Int32.ofInt 0)), (2, .int x2), (3, .int (Int32.ofInt 2))] [] (gE Lx) I L e Q
    else
     Wp 102 4 [(0, .ref 1), (1, .int (Int32.ofInt 0)), (2, .int (x2 + Int32.ofInt 1)), (3, .int (Int32.ofInt 2))] [] (gE Lx) I L e Q)) :
    Wp 102 36 [(0, .ref 1), (1, .int (Int32.ofInt 0)), (2, .int x2), (3, .int (Int32.ofInt 1))] [.int r] (gE Lx) I L e Q := by
  refine w_a f_102_36 ?_
  refine i_m (fun h => ?_) (fun h => ?_) h
  · refine w_a f_102_39 ?_
    refine w_a f_102_40 ?_
    refine w_a f_102_41 ?_
    refine w_a f_102_65 ?_
    refine w_a (ls := [(3, .int (Int32.ofInt 2)), (0, .ref 1), (1, .int (Int32.ofInt 0)), (2, .int x2)]) f_102_68 ?_
    exact w_n (ks := [0, 1, 2, 3]) rfl h
  · refine w_a f_102_62 ?_
    refine w_a (ls := [(2, .int (x2 + Int32.ofInt 1)), (0, .ref 1), (1, .int (Int32.ofInt 0)), (3, .int (Int32.ofInt 1))]) f_102_65 ?_
    refine w_a (ls := [(3, .int (Int32.ofInt 2)), (2, .int (x2 + Int32.ofInt 1)), (0, .ref 1), (1, .int (Int32.ofInt 0))]) f_102_68 ?_
    exact w_n (ks := [0, 1, 2, 3]) rfl h
set_option maxRecDepth 10000 in
set_option maxHeartbeats 4000000 in
theorem s_102_59_0_1 {Lx : Nat} {I : Mi} {L : Ml} {e : Nat} {Q : Kq} {x2 : Int32} {r : Int32} (h :
    (if r = 0 then
     Wp 102 4 [(0, .ref 1), (1, .int (Int32.ofInt 0)), (2, .int (x2 + Int32.ofInt 1)), (3, .int (Int32.ofInt 2))] [] (gE Lx) I L e Q
    else
     Wp 102 4 [(0, .ref 1), (1, .int (Int32.ofInt 0)), (2, .int x2), (3, .int (Int32.ofInt 2))] [] (gE Lx) I L e Q)) :
    Wp 102 59 [(0, .ref 1), (1, .int (Int32.ofInt 0)), (2, .int x2), (3, .int (Int32.ofInt 1))] [.int r] (gE Lx) I L e Q := by
  refine w_a f_102_59 ?_
  refine i_m (fun h => ?_) (fun h => ?_) h
  · refine w_a f_102_62 ?_
    refine w_a (ls := [(2, .int (x2 + Int32.ofInt 1)), (0, .ref 1), (1, .int (Int32.ofInt 0)), (3, .int (Int32.ofInt 1))]) f_102_65 ?_
    refine w_a (ls := [(3, .int (Int32.ofInt 2)), (2, .int (x2 + Int32.ofInt 1)), (0, .ref 1), (1, .int (Int32.ofInt 0))]) f_102_68 ?_
    exact w_n (ks := [0, 1, 2, 3]) rfl h
  · refine w_a f_102_65 ?_
    refine w_a (ls := [(3, .int (Int32.ofInt 2)), (0, .ref 1), (1, .int (Int32.ofInt 0)), (2, .int x2)]) f_102_68 ?_
    exact w_n (ks := [0, 1, 2, 3]) rfl h
set_option maxRecDepth 10000 in
set_option maxHeartbeats 4000000 in
theorem s_102_4_0_2 {Lx : Nat} {I : Mi} {L : Ml} {e : Nat} {Q : Kq} {x2 : Int32} (h :
    (if (I 44 0) = 0 then
     Wp 102 4 [(0, .ref 1), (1, .int (Int32.ofInt 0)), (2, .int x2), (3, .int (Int32.ofInt 3))] [] (gE Lx) I L e Q
    else
     (if (I 44 2) = (I 30 2) then
      Wp 66 0 [(0, .ref 49), (1, .ref 35)] [] (gE Lx) I L e (kcp (Wp 63) 63 36 0 [(0, .ref 44), (1, .ref 30)] 71 [] (kcp (Wp 102) 102 33 0 [(0, .ref 1), (1, .int (Int32.ofInt 0)), (2, .int x2), (3, .int (Int32.ofInt 2))] 71 [] Q))
     else
      (if (I 30 2) < (I 44 2) then
       Wp 102 36 [(0, .ref 1), (1, .int (Int32.ofInt 0)), (2, .int x2), (3, .int (Int32.ofInt 2))] [.int (Int32.ofInt 1)] (gE Lx) I L e Q
      else
       Wp 102 36 [(0, .ref 1), (1, .int (Int32.ofInt 0)), (2, .int x2), (3, .int (Int32.ofInt 2))] [.int (Int32.ofInt 0)] (gE Lx) I L e Q)))) :
    Wp 102 4 [(0, .ref 1), (1, .int (Int32.ofInt 0)), (2, .int x2), (3, .int (Int32.ofInt 2))] [] (gE Lx) I L e Q := by
  refine w_a f_102_4 ?_
  refine w_a f_102_5 ?_
  refine w_a f_102_6 ?_
  refine w_a f_102_9 ?_
  refine w_a f_102_10 ?_
  refine w_a f_102_13 ?_
  refine w_a f_102_14 ?_
  refine w_a f_102_15 ?_
  refine w_a f_102_18 ?_
  refine i_m (fun h => ?_) (fun h => ?_) h
  · refine w_a f_102_65 ?_
    refine w_a (ls := [(3, .int (Int32.ofInt 3)), (0, .ref 1), (1, .int (Int32.ofInt 0)), (2, .int x2)]) f_102_68 ?_
    exact w_n (ks := [0, 1, 2, 3]) rfl h
  · refine w_a f_102_21 ?_
    refine w_a f_102_22 ?_
    refine w_a f_102_25 ?_
    refine w_a f_102_26 ?_
    refine w_a f_102_27 ?_
    refine w_a f_102_28 ?_
    refine w_a f_102_31 ?_
    refine w_a f_102_32 ?_
    refine w_c (ks := [0, 1, 2, 3]) f_102_33 rfl rfl ?_
    refine w_a (ls := [(0, .ref 44), (1, .ref 30)]) f_63_0 ?_
    refine w_a f_63_1 ?_
    refine w_a f_63_4 ?_
    refine w_a f_63_5 ?_
    refine w_a f_63_8 ?_
    refine i_m (fun h => ?_) (fun h => ?_) h
    · refine w_a f_63_28 ?_
      refine w_a f_63_29 ?_
      refine w_a f_63_32 ?_
      refine w_a f_63_33 ?_
      exact w_c (ks := [0, 1]) f_63_36 rfl rfl h
    · refine w_a f_63_11 ?_
      refine w_a f_63_12 ?_
      refine w_a f_63_15 ?_
      refine w_a f_63_16 ?_
      refine w_a f_63_19 ?_
      refine i_m (fun h => ?_) (fun h => ?_) h
      · refine w_a f_63_22 ?_
        refine w_a f_63_23 ?_
        refine w_a f_63_27 ?_
        exact h
      · refine w_a f_63_26 ?_
        refine w_a f_63_27 ?_
        exact h
set_option maxRecDepth 10000 in
set_option maxHeartbeats 4000000 in
theorem s_102_36_0_2 {Lx : Nat} {I : Mi} {L : Ml} {e : Nat} {Q : Kq} {x2 : Int32} {r : Int32} (h :
    (if r = 0 then
     Wp 102 4 [(0, .ref 1), (1, .int (Int32.ofInt 0)), (2, .int x2), (3, .int (Int32.ofInt 3))] [] (gE Lx) I L e Q
    else
     Wp 102 4 [(0, .ref 1), (1, .int (Int32.ofInt 0)), (2, .int (x2 + Int32.ofInt 1)), (3, .int (Int32.ofInt 3))] [] (gE Lx) I L e Q)) :
    Wp 102 36 [(0, .ref 1), (1, .int (Int32.ofInt 0)), (2, .int x2), (3, .int (Int32.ofInt 2))] [.int r] (gE Lx) I L e Q := by
  refine w_a f_102_36 ?_
  refine i_m (fun h => ?_) (fun h => ?_) h
  · refine w_a f_102_39 ?_
    refine w_a f_102_40 ?_
    refine w_a f_102_41 ?_
    refine w_a f_102_65 ?_
    refine w_a (ls := [(3, .int (Int32.ofInt 3)), (0, .ref 1), (1, .int (Int32.ofInt 0)), (2, .int x2)]) f_102_68 ?_
    exact w_n (ks := [0, 1, 2, 3]) rfl h
  · refine w_a f_102_62 ?_
    refine w_a (ls := [(2, .int (x2 + Int32.ofInt 1)), (0, .ref 1), (1, .int (Int32.ofInt 0)), (3, .int (Int32.ofInt 2))]) f_102_65 ?_
    refine w_a (ls := [(3, .int (Int32.ofInt 3)), (2, .int (x2 + Int32.ofInt 1)), (0, .ref 1), (1, .int (Int32.ofInt 0))]) f_102_68 ?_
    exact w_n (ks := [0, 1, 2, 3]) rfl h
set_option maxRecDepth 10000 in
set_option maxHeartbeats 4000000 in
theorem s_102_59_0_2 {Lx : Nat} {I : Mi} {L : Ml} {e : Nat} {Q : Kq} {x2 : Int32} {r : Int32} (h :
    (if r = 0 then
     Wp 102 4 [(0, .ref 1), (1, .int (Int32.ofInt 0)), (2, .int (x2 + Int32.ofInt 1)), (3, .int (Int32.ofInt 3))] [] (gE Lx) I L e Q
    else
     Wp 102 4 [(0, .ref 1), (1, .int (Int32.ofInt 0)), (2, .int x2), (3, .int (Int32.ofInt 3))] [] (gE Lx) I L e Q)) :
    Wp 102 59 [(0, .ref 1), (1, .int (Int32.ofInt 0)), (2, .int x2), (3, .int (Int32.ofInt 2))] [.int r] (gE Lx) I L e Q := by
  refine w_a f_102_59 ?_
  refine i_m (fun h => ?_) (fun h => ?_) h
  · refine w_a f_102_62 ?_
    refine w_a (ls := [(2, .int (x2 + Int32.ofInt 1)), (0, .ref 1), (1, .int (Int32.ofInt 0)), (3, .int (Int32.ofInt 2))]) f_102_65 ?_
    refine w_a (ls := [(3, .int (Int32.ofInt 3)), (2, .int (x2 + Int32.ofInt 1)), (0, .ref 1), (1, .int (Int32.ofInt 0))]) f_102_68 ?_
    exact w_n (ks := [0, 1, 2, 3]) rfl h
  · refine w_a f_102_65 ?_
    refine w_a (ls := [(3, .int (Int32.ofInt 3)), (0, .ref 1), (1, .int (Int32.ofInt 0)), (2, .int x2)]) f_102_68 ?_
    exact w_n (ks := [0, 1, 2, 3]) rfl h
set_option maxRecDepth 10000 in
set_option maxHeartbeats 4000000 in
theorem s_102_4_0_3 {Lx : Nat} {I : Mi} {L : Ml} {e : Nat} {Q : Kq} {x2 : Int32} (h :
    (if (I 51 0) = 0 then
     Wp 102 4 [(0, .ref 1), (1, .int (Int32.ofInt 0)), (2, .int x2), (3, .int (Int32.ofInt 4))] [] (gE Lx) I L e Q
    else
     (if (I 51 2) = (I 30 2) then
      Wp 66 0 [(0, .ref 56), (1, .ref 35)] [] (gE Lx) I L e (kcp (Wp 63) 63 36 0 [(0, .ref 51), (1, .ref 30)] 71 [] (kcp (Wp 102) 102 33 0 [(0, .ref 1), (1, .int (Int32.ofInt 0)), (2, .int x2), (3, .int (Int32.ofInt 3))] 71 [] Q))
     else
      (if (I 30 2) < (I 51 2) then
       Wp 102 36 [(0, .ref 1), (1, .int (Int32.ofInt 0)), (2, .int x2), (3, .int (Int32.ofInt 3))] [.int (Int32.ofInt 1)] (gE Lx) I L e Q
      else
       Wp 102 36 [(0, .ref 1), (1, .int (Int32.ofInt 0)), (2, .int x2), (3, .int (Int32.ofInt 3))] [.int (Int32.ofInt 0)] (gE Lx) I L e Q)))) :
    Wp 102 4 [(0, .ref 1), (1, .int (Int32.ofInt 0)), (2, .int x2), (3, .int (Int32.ofInt 3))] [] (gE Lx) I L e Q := by
  refine w_a f_102_4 ?_
  refine w_a f_102_5 ?_
  refine w_a f_102_6 ?_
  refine w_a f_102_9 ?_
  refine w_a f_102_10 ?_
  refine w_a f_102_13 ?_
  refine w_a f_102_14 ?_
  refine w_a f_102_15 ?_
  refine w_a f_102_18 ?_
  refine i_m (fun h => ?_) (fun h => ?_) h
  · refine w_a f_102_65 ?_
    refine w_a (ls := [(3, .int (Int32.ofInt 4)), (0, .ref 1), (1, .int (Int32.ofInt 0)), (2, .int x2)]) f_102_68 ?_
    exact w_n (ks := [0, 1, 2, 3]) rfl h
  · refine w_a f_102_21 ?_
    refine w_a f_102_22 ?_
    refine w_a f_102_25 ?_
    refine w_a f_102_26 ?_
    refine w_a f_102_27 ?_
    refine w_a f_102_28 ?_
    refine w_a f_102_31 ?_
    refine w_a f_102_32 ?_
    refine w_c (ks := [0, 1, 2, 3]) f_102_33 rfl rfl ?_
    refine w_a (ls := [(0, .ref 51), (1, .ref 30)]) f_63_0 ?_
    refine w_a f_63_1 ?_
    refine w_a f_63_4 ?_
    refine w_a f_63_5 ?_
    refine w_a f_63_8 ?_
    refine i_m (fun h => ?_) (fun h => ?_) h
    · refine w_a f_63_28 ?_
      refine w_a f_63_29 ?_
      refine w_a f_63_32 ?_
      refine w_a f_63_33 ?_
      exact w_c (ks := [0, 1]) f_63_36 rfl rfl h
    · refine w_a f_63_11 ?_
      refine w_a f_63_12 ?_
      refine w_a f_63_15 ?_
      refine w_a f_63_16 ?_
      refine w_a f_63_19 ?_
      refine i_m (fun h => ?_) (fun h => ?_) h
      · refine w_a f_63_22 ?_
        refine w_a f_63_23 ?_
        refine w_a f_63_27 ?_
        exact h
      · refine w_a f_63_26 ?_
        refine w_a f_63_27 ?_
        exact h
set_option maxRecDepth 10000 in
set_option maxHeartbeats 4000000 in
theorem s_102_36_0_3 {Lx : Nat} {I : Mi} {L : Ml} {e : Nat} {Q : Kq} {x2 : Int32} {r : Int32} (h :
    (if r = 0 then
     Wp 102 4 [(0, .ref 1), (1, .int (Int32.ofInt 0)), (2, .int x2), (3, .int (Int32.ofInt 4))] [] (gE Lx) I L e Q
    else
     Wp 102 4 [(0, .ref 1), (1, .int (Int32.ofInt 0)), (2, .int (x2 + Int32.ofInt 1)), (3, .int (Int32.ofInt 4))] [] (gE Lx) I L e Q)) :
    Wp 102 36 [(0, .ref 1), (1, .int (Int32.ofInt 0)), (2, .int x2), (3, .int (Int32.ofInt 3))] [.int r] (gE Lx) I L e Q := by
  refine w_a f_102_36 ?_
  refine i_m (fun h => ?_) (fun h => ?_) h
  · refine w_a f_102_39 ?_
    refine w_a f_102_40 ?_
    refine w_a f_102_41 ?_
    refine w_a f_102_65 ?_
    refine w_a (ls := [(3, .int (Int32.ofInt 4)), (0, .ref 1), (1, .int (Int32.ofInt 0)), (2, .int x2)]) f_102_68 ?_
    exact w_n (ks := [0, 1, 2, 3]) rfl h
  · refine w_a f_102_62 ?_
    refine w_a (ls := [(2, .int (x2 + Int32.ofInt 1)), (0, .ref 1), (1, .int (Int32.ofInt 0)), (3, .int (Int32.ofInt 3))]) f_102_65 ?_
    refine w_a (ls := [(3, .int (Int32.ofInt 4)), (2, .int (x2 + Int32.ofInt 1)), (0, .ref 1), (1, .int (Int32.ofInt 0))]) f_102_68 ?_
    exact w_n (ks := [0, 1, 2, 3]) rfl h
set_option maxRecDepth 10000 in
set_option maxHeartbeats 4000000 in
theorem s_102_59_0_3 {Lx : Nat} {I : Mi} {L : Ml} {e : Nat} {Q : Kq} {x2 : Int32} {r : Int32} (h :
    (if r = 0 then
     Wp 102 4 [(0, .ref 1), (1, .int (Int32.ofInt 0)), (2, .int (x2 + Int32.ofInt 1)), (3, .int (Int32.ofInt 4))] [] (gE Lx) I L e Q
    else
     Wp 102 4 [(0, .ref 1), (1, .int (Int32.ofInt 0)), (2, .int x2), (3, .int (Int32.ofInt 4))] [] (gE Lx) I L e Q)) :
    Wp 102 59 [(0, .ref 1), (1, .int (Int32.ofInt 0)), (2, .int x2), (3, .int (Int32.ofInt 3))] [.int r] (gE Lx) I L e Q := by
  refine w_a f_102_59 ?_
  refine i_m (fun h => ?_) (fun h => ?_) h
  · refine w_a f_102_62 ?_
    refine w_a (ls := [(2, .int (x2 + Int32.ofInt 1)), (0, .ref 1), (1, .int (Int32.ofInt 0)), (3, .int (Int32.ofInt 3))]) f_102_65 ?_
    refine w_a (ls := [(3, .int (Int32.ofInt 4)), (2, .int (x2 + Int32.ofInt 1)), (0, .ref 1), (1, .int (Int32.ofInt 0))]) f_102_68 ?_
    exact w_n (ks := [0, 1, 2, 3]) rfl h
  · refine w_a f_102_65 ?_
    refine w_a (ls := [(3, .int (Int32.ofInt 4)), (0, .ref 1), (1, .int (Int32.ofInt 0)), (2, .int x2)]) f_102_68 ?_
    exact w_n (ks := [0, 1, 2, 3]) rfl h
set_option maxRecDepth 10000 in
set_option maxHeartbeats 4000000 in
theorem s_102_4_0_4 {Lx : Nat} {I : Mi} {L : Ml} {e : Nat} {Q : Kq} {x2 : Int32} (h :
    Q (.inl (some (.int x2))) (gE Lx) I L e) :
    Wp 102 4 [(0, .ref 1), (1, .int (Int32.ofInt 0)), (2, .int x2), (3, .int (Int32.ofInt 4))] [] (gE Lx) I L e Q := by
  refine w_a f_102_4 ?_
  refine w_a f_102_5 ?_
  refine w_a f_102_6 ?_
  refine w_a f_102_71 ?_
  refine w_a f_102_72 ?_
  exact h
set_option maxRecDepth 10000 in
set_option maxHeartbeats 4000000 in
theorem s_100_6_1 {Lx : Nat} {I : Mi} {L : Ml} {e : Nat} {Q : Kq} {x1 : Int32} (h :
    (if (I 37 0) = 0 then
     Wp 100 6 [(0, .ref 1), (1, .int x1), (2, .int (Int32.ofInt 2))] [] (gE Lx) I L e Q
    else
     Wp 102 0 [(0, .ref 1), (1, .int (Int32.ofInt 1))] [] (gE Lx) I L e (kcp (Wp 100) 100 25 0 [(0, .ref 1), (1, .int x1), (2, .int (Int32.ofInt 1))] 71 [] Q))) :
    Wp 100 6 [(0, .ref 1), (1, .int x1), (2, .int (Int32.ofInt 1))] [] (gE Lx) I L e Q := by
  refine w_a f_100_6 ?_
  refine w_a f_100_7 ?_
  refine w_a f_100_8 ?_
  refine w_a f_100_11 ?_
  refine w_a f_100_12 ?_
  refine w_a f_100_15 ?_
  refine w_a f_100_16 ?_
  refine w_a f_100_17 ?_
  refine w_a f_100_20 ?_
  refine i_m (fun h => ?_) (fun h => ?_) h
  · refine w_a f_100_34 ?_
    refine w_a (ls := [(2, .int (Int32.ofInt 2)), (0, .ref 1), (1, .int x1)]) f_100_37 ?_
    exact w_n (ks := [0, 1, 2]) rfl h
  · refine w_a f_100_23 ?_
    refine w_a f_100_24 ?_
    exact w_c (ks := [0, 1, 2]) f_100_25 rfl rfl h
set_option maxRecDepth 10000 in
set_option maxHeartbeats 4000000 in
theorem s_101_2_1 {Lx : Nat} {I : Mi} {L : Ml} {e : Nat} {Q : Kq} (h :
    (if (I 37 0) = 0 then
     Wp 101 62 [(0, .ref 1), (1, .int (Int32.ofInt 1))] [] (gE Lx) I L e Q
    else
     Wp 95 0 [(0, .ref 1), (1, .ref 38)] [] (gE Lx) I L e (kcp (Wp 101) 101 35 0 [(0, .ref 1), (1, .int (Int32.ofInt 1))] 71 [.ref 37] Q))) :
    Wp 101 2 [(0, .ref 1), (1, .int (Int32.ofInt 1))] [] (gE Lx) I L e Q := by
  refine w_a f_101_2 ?_
  refine w_a f_101_3 ?_
  refine w_a f_101_4 ?_
  refine w_a f_101_7 ?_
  refine w_a f_101_8 ?_
  refine w_a f_101_11 ?_
  refine w_a f_101_12 ?_
  refine w_a f_101_13 ?_
  refine w_a f_101_16 ?_
  refine i_m (fun h => ?_) (fun h => ?_) h
  · exact w_n (ks := [0, 1]) rfl h
  · refine w_a f_101_19 ?_
    refine w_a f_101_20 ?_
    refine w_a f_101_23 ?_
    refine w_a f_101_24 ?_
    refine w_a f_101_25 ?_
    refine w_a f_101_26 ?_
    refine w_a f_101_27 ?_
    refine w_a f_101_30 ?_
    refine w_a f_101_31 ?_
    refine w_a f_101_32 ?_
    exact w_c (ks := [0, 1]) f_101_35 rfl rfl h
set_option maxRecDepth 10000 in
set_option maxHeartbeats 4000000 in
theorem s_104_4_1 {Lx : Nat} {I : Mi} {L : Ml} {e : Nat} {Q : Kq} {x1 : Int32} (h :
    (if (I 37 0) = 0 then
     Wp 104 4 [(0, .ref 1), (1, .int x1), (2, .int (Int32.ofInt 2))] [] (gE Lx) I L e Q
    else
     Wp 104 4 [(0, .ref 1), (1, .int (x1 ||| (Int32.ofInt 2))), (2, .int (Int32.ofInt 2))] [] (gE Lx) I L e Q)) :
    Wp 104 4 [(0, .ref 1), (1, .int x1), (2, .int (Int32.ofInt 1))] [] (gE Lx) I L e Q := by
  refine w_a f_104_4 ?_
  refine w_a f_104_5 ?_
  refine w_a f_104_6 ?_
  refine w_a f_104_9 ?_
  refine w_a f_104_10 ?_
  refine w_a f_104_13 ?_
  refine w_a f_104_14 ?_
  refine w_a f_104_15 ?_
  refine w_a f_104_18 ?_
  refine i_m (fun h => ?_) (fun h => ?_) h
  · refine w_a f_104_27 ?_
    refine w_a (ls := [(2, .int (Int32.ofInt 2)), (0, .ref 1), (1, .int x1)]) f_104_30 ?_
    exact w_n (ks := [0, 1, 2]) rfl h
  · refine w_a f_104_21 ?_
    refine w_a f_104_22 ?_
    refine w_a f_104_23 ?_
    refine w_a f_104_24 ?_
    refine w_a f_104_25 ?_
    refine w_a f_104_26 ?_
    refine w_a (ls := [(1, .int (x1 ||| (Int32.ofInt 2))), (0, .ref 1), (2, .int (Int32.ofInt 1))]) f_104_27 ?_
    refine w_a (ls := [(2, .int (Int32.ofInt 2)), (1, .int (x1 ||| (Int32.ofInt 2))), (0, .ref 1)]) f_104_30 ?_
    exact w_n (ks := [0, 1, 2]) rfl h
set_option maxRecDepth 10000 in
set_option maxHeartbeats 4000000 in
theorem s_101_38_1 {Lx : Nat} {I : Mi} {L : Ml} {e : Nat} {Q : Kq} {r : Int32} (h :
    Wp 65 0 [(0, .ref 42), (1, .ref 38)] [] (gE Lx) (ui I 37 2 r) L e (kcp (Wp 101) 101 59 0 [(0, .ref 1), (1, .int (Int32.ofInt 1))] 71 [] Q)) :
    Wp 101 38 [(0, .ref 1), (1, .int (Int32.ofInt 1))] [.int r, .ref 37] (gE Lx) I L e Q := by
  refine w_a f_101_38 ?_
  refine w_a f_101_41 ?_
  refine w_a f_101_42 ?_
  refine w_a f_101_45 ?_
  refine w_a f_101_46 ?_
  refine w_a f_101_47 ?_
  refine w_a f_101_50 ?_
  refine w_a f_101_51 ?_
  refine w_a f_101_54 ?_
  refine w_a f_101_55 ?_
  refine w_a f_101_56 ?_
  exact w_c (ks := [0, 1]) f_101_59 rfl rfl h
set_option maxRecDepth 10000 in
set_option maxHeartbeats 4000000 in
theorem s_100_28_1 {Lx : Nat} {I : Mi} {L : Ml} {e : Nat} {Q : Kq} {x1 : Int32} {r : Int32} (h :
    (if r = x1 then
     Q (.inl (some (.int (Int32.ofInt 1)))) (gE Lx) I L e
    else
     Wp 100 6 [(0, .ref 1), (1, .int x1), (2, .int (Int32.ofInt 2))] [] (gE Lx) I L e Q)) :
    Wp 100 28 [(0, .ref 1), (1, .int x1), (2, .int (Int32.ofInt 1))] [.int r] (gE Lx) I L e Q := by
  refine w_a f_100_28 ?_
  refine w_a f_100_29 ?_
  refine i_m (fun h => ?_) (fun h => ?_) h
  · refine w_a f_100_32 ?_
    refine w_a f_100_33 ?_
    exact h
  · refine w_a f_100_34 ?_
    refine w_a (ls := [(2, .int (Int32.ofInt 2)), (0, .ref 1), (1, .int x1)]) f_100_37 ?_
    exact w_n (ks := [0, 1, 2]) rfl h
set_option maxRecDepth 10000 in
set_option maxHeartbeats 4000000 in
theorem s_101_62_1 {Lx : Nat} {I : Mi} {L : Ml} {e : Nat} {Q : Kq} (h :
    Wp 101 2 [(0, .ref 1), (1, .int (Int32.ofInt 2))] [] (gE Lx) I L e Q) :
    Wp 101 62 [(0, .ref 1), (1, .int (Int32.ofInt 1))] [] (gE Lx) I L e Q := by
  refine w_a f_101_62 ?_
  refine w_a (ls := [(1, .int (Int32.ofInt 2)), (0, .ref 1)]) f_101_65 ?_
  exact w_n (ks := [0, 1]) rfl h
set_option maxRecDepth 10000 in
set_option maxHeartbeats 4000000 in
theorem s_102_4_1_0 {Lx : Nat} {I : Mi} {L : Ml} {e : Nat} {Q : Kq} {x2 : Int32} (h :
    (if (I 30 0) = 0 then
     Wp 102 4 [(0, .ref 1), (1, .int (Int32.ofInt 1)), (2, .int x2), (3, .int (Int32.ofInt 1))] [] (gE Lx) I L e Q
    else
     (if (I 30 2) = (I 37 2) then
      Wp 66 0 [(0, .ref 35), (1, .ref 42)] [] (gE Lx) I L e (kcp (Wp 63) 63 36 0 [(0, .ref 30), (1, .ref 37)] 71 [] (kcp (Wp 102) 102 33 0 [(0, .ref 1), (1, .int (Int32.ofInt 1)), (2, .int x2), (3, .int (Int32.ofInt 0))] 71 [] Q))
     else
      (if (I 37 2) < (I 30 2) then
       Wp 102 36 [(0, .ref 1), (1, .int (Int32.ofInt 1)), (2, .int x2), (3, .int (Int32.ofInt 0))] [.int (Int32.ofInt 1)] (gE Lx) I L e Q
      else
       Wp 102 36 [(0, .ref 1), (1, .int (Int32.ofInt 1)), (2, .int x2), (3, .int (Int32.ofInt 0))] [.int (Int32.ofInt 0)] (gE Lx) I L e Q)))) :
    Wp 102 4 [(0, .ref 1), (1, .int (Int32.ofInt 1)), (2, .int x2), (3, .int (Int32.ofInt 0))] [] (gE Lx) I L e Q := by
  refine w_a f_102_4 ?_
  refine w_a f_102_5 ?_
  refine w_a f_102_6 ?_
  refine w_a f_102_9 ?_
  refine w_a f_102_10 ?_
  refine w_a f_102_13 ?_
  refine w_a f_102_14 ?_
  refine w_a f_102_15 ?_
  refine w_a f_102_18 ?_
  refine i_m (fun h => ?_) (fun h => ?_) h
  · refine w_a f_102_65 ?_
    refine w_a (ls := [(3, .int (Int32.ofInt 1)), (0, .ref 1), (1, .int (Int32.ofInt 1)), (2, .int x2)]) f_102_68 ?_
    exact w_n (ks := [0, 1, 2, 3]) rfl h
  · refine w_a f_102_21 ?_
    refine w_a f_102_22 ?_
    refine w_a f_102_25 ?_
    refine w_a f_102_26 ?_
    refine w_a f_102_27 ?_
    refine w_a f_102_28 ?_
    refine w_a f_102_31 ?_
    refine w_a f_102_32 ?_
    refine w_c (ks := [0, 1, 2, 3]) f_102_33 rfl rfl ?_
    refine w_a (ls := [(0, .ref 30), (1, .ref 37)]) f_63_0 ?_
    refine w_a f_63_1 ?_
    refine w_a f_63_4 ?_
    refine w_a f_63_5 ?_
    refine w_a f_63_8 ?_
    refine i_m (fun h => ?_) (fun h => ?_) h
    · refine w_a f_63_28 ?_
      refine w_a f_63_29 ?_
      refine w_a f_63_32 ?_
      refine w_a f_63_33 ?_
      exact w_c (ks := [0, 1]) f_63_36 rfl rfl h
    · refine w_a f_63_11 ?_
      refine w_a f_63_12 ?_
      refine w_a f_63_15 ?_
      refine w_a f_63_16 ?_
      refine w_a f_63_19 ?_
      refine i_m (fun h => ?_) (fun h => ?_) h
      · refine w_a f_63_22 ?_
        refine w_a f_63_23 ?_
        refine w_a f_63_27 ?_
        exact h
      · refine w_a f_63_26 ?_
        refine w_a f_63_27 ?_
        exact h
set_option maxRecDepth 10000 in
set_option maxHeartbeats 4000000 in
theorem s_102_36_1_0 {Lx : Nat} {I : Mi} {L : Ml} {e : Nat} {Q : Kq} {x2 : Int32} {r : Int32} (h :
    (if r = 0 then
     (if (I 37 2) = (I 30 2) then
      Wp 66 0 [(0, .ref 42), (1, .ref 35)] [] (gE Lx) I L e (kcp (Wp 63) 63 36 0 [(0, .ref 37), (1, .ref 30)] 71 [] (kcp (Wp 102) 102 56 0 [(0, .ref 1), (1, .int (Int32.ofInt 1)), (2, .int x2), (3, .int (Int32.ofInt 0))] 71 [] Q))
     else
      (if (I 30 2) < (I 37 2) then
       Wp 102 59 [(0, .ref 1), (1, .int (Int32.ofInt 1)), (2, .int x2), (3, .int (Int32.ofInt 0))] [.int (Int32.ofInt 1)] (gE Lx) I L e Q
      else
       Wp 102 59 [(0, .ref 1), (1, .int (Int32.ofInt 1)), (2, .int x2), (3, .int (Int32.ofInt 0))] [.int (Int32.ofInt 0)] (gE Lx) I L e Q))
    else
     Wp 102 4 [(0, .ref 1), (1, .int (Int32.ofInt 1)), (2, .int (x2 + Int32.ofInt 1)), (3, .int (Int32.ofInt 1))] [] (gE Lx) I L e Q)) :
    Wp 102 36 [(0, .ref 1), (1, .int (Int32.ofInt 1)), (2, .int x2), (3, .int (Int32.ofInt 0))] [.int r] (gE Lx) I L e Q := by
  refine w_a f_102_36 ?_
  refine i_m (fun h => ?_) (fun h => ?_) h
  · refine w_a f_102_39 ?_
    refine w_a f_102_40 ?_
    refine w_a f_102_41 ?_
    refine w_a f_102_44 ?_
    refine w_a f_102_45 ?_
    refine w_a f_102_48 ?_
    refine w_a f_102_49 ?_
    refine w_a f_102_50 ?_
    refine w_a f_102_51 ?_
    refine w_a f_102_54 ?_
    refine w_a f_102_55 ?_
    refine w_c (ks := [0, 1, 2, 3]) f_102_56 rfl rfl ?_
    refine w_a (ls := [(0, .ref 37), (1, .ref 30)]) f_63_0 ?_
    refine w_a f_63_1 ?_
    refine w_a f_63_4 ?_
    refine w_a f_63_5 ?_
    refine w_a f_63_8 ?_
    refine i_m (fun h => ?_) (fun h => ?_) h
    · refine w_a f_63_28 ?_
      refine w_a f_63_29 ?_
      refine w_a f_63_32 ?_
      refine w_a f_63_33 ?_
      exact w_c (ks := [0, 1]) f_63_36 rfl rfl h
    · refine w_a f_63_11 ?_
      refine w_a f_63_12 ?_
      refine w_a f_63_15 ?_
      refine w_a f_63_16 ?_
      refine w_a f_63_19 ?_
      refine i_m (fun h => ?_) (fun h => ?_) h
      · refine w_a f_63_22 ?_
        refine w_a f_63_23 ?_
        refine w_a f_63_27 ?_
        exact h
      · refine w_a f_63_26 ?_
        refine w_a f_63_27 ?_
        exact h
  · refine w_a f_102_62 ?_
    refine w_a (ls := [(2, .int (x2 + Int32.ofInt 1)), (0, .ref 1), (1, .int (Int32.ofInt 1)), (3, .int (Int32.ofInt 0))]) f_102_65 ?_
    refine w_a (ls := [(3, .int (Int32.ofInt 1)), (2, .int (x2 + Int32.ofInt 1)), (0, .ref 1), (1, .int (Int32.ofInt 1))]) f_102_68 ?_
    exact w_n (ks := [0, 1, 2, 3]) rfl h
set_option maxRecDepth 10000 in
set_option maxHeartbeats 4000000 in
theorem s_102_59_1_0 {Lx : Nat} {I : Mi} {L : Ml} {e : Nat} {Q : Kq} {x2 : Int32} {r : Int32} (h :
    (if r = 0 then
     Wp 102 4 [(0, .ref 1), (1, .int (Int32.ofInt 1)), (2, .int (x2 + Int32.ofInt 1)), (3, .int (Int32.ofInt 1))] [] (gE Lx) I L e Q
    else
     Wp 102 4 [(0, .ref 1), (1, .int (Int32.ofInt 1)), (2, .int x2), (3, .int (Int32.ofInt 1))] [] (gE Lx) I L e Q)) :
    Wp 102 59 [(0, .ref 1), (1, .int (Int32.ofInt 1)), (2, .int x2), (3, .int (Int32.ofInt 0))] [.int r] (gE Lx) I L e Q := by
  refine w_a f_102_59 ?_
  refine i_m (fun h => ?_) (fun h => ?_) h
  · refine w_a f_102_62 ?_
    refine w_a (ls := [(2, .int (x2 + Int32.ofInt 1)), (0, .ref 1), (1, .int (Int32.ofInt 1)), (3, .int (Int32.ofInt 0))]) f_102_65 ?_
    refine w_a (ls := [(3, .int (Int32.ofInt 1)), (2, .int (x2 + Int32.ofInt 1)), (0, .ref 1), (1, .int (Int32.ofInt 1))]) f_102_68 ?_
    exact w_n (ks := [0, 1, 2, 3]) rfl h
  · refine w_a f_102_65 ?_
    refine w_a (ls := [(3, .int (Int32.ofInt 1)), (0, .ref 1), (1, .int (Int32.ofInt 1)), (2, .int x2)]) f_102_68 ?_
    exact w_n (ks := [0, 1, 2, 3]) rfl h
set_option maxRecDepth 10000 in
set_option maxHeartbeats 4000000 in
theorem s_102_4_1_1 {Lx : Nat} {I : Mi} {L : Ml} {e : Nat} {Q : Kq} {x2 : Int32} (h :
    (if (I 37 0) = 0 then
     Wp 102 4 [(0, .ref 1), (1, .int (Int32.ofInt 1)), (2, .int x2), (3, .int (Int32.ofInt 2))] [] (gE Lx) I L e Q
    else
     (if (I 37 2) = (I 37 2) then
      Wp 66 0 [(0, .ref 42), (1, .ref 42)] [] (gE Lx) I L e (kcp (Wp 63) 63 36 0 [(0, .ref 37), (1, .ref 37)] 71 [] (kcp (Wp 102) 102 33 0 [(0, .ref 1), (1, .int (Int32.ofInt 1)), (2, .int x2), (3, .int (Int32.ofInt 1))] 71 [] Q))
     else
      (if (I 37 2) < (I 37 2) then
       Wp 102 36 [(0, .ref 1), (1, .int (Int32.ofInt 1)), (2, .int x2), (3, .int (Int32.ofInt 1))] [.int (Int32.ofInt 1)] (gE Lx) I L e Q
      else
       Wp 102 36 [(0, .ref 1), (1, .int (Int32.ofInt 1)), (2, .int x2), (3, .int (Int32.ofInt 1))] [.int (Int32.ofInt 0)] (gE Lx) I L e Q)))) :
    Wp 102 4 [(0, .ref 1), (1, .int (Int32.ofInt 1)), (2, .int x2), (3, .int (Int32.ofInt 1))] [] (gE Lx) I L e Q := by
  refine w_a f_102_4 ?_
  refine w_a f_102_5 ?_
  refine w_a f_102_6 ?_
  refine w_a f_102_9 ?_
  refine w_a f_102_10 ?_
  refine w_a f_102_13 ?_
  refine w_a f_102_14 ?_
  refine w_a f_102_15 ?_
  refine w_a f_102_18 ?_
  refine i_m (fun h => ?_) (fun h => ?_) h
  · refine w_a f_102_65 ?_
    refine w_a (ls := [(3, .int (Int32.ofInt 2)), (0, .ref 1), (1, .int (Int32.ofInt 1)), (2, .int x2)]) f_102_68 ?_
    exact w_n (ks := [0, 1, 2, 3]) rfl h
  · refine w_a f_102_21 ?_
    refine w_a f_102_22 ?_
    refine w_a f_102_25 ?_
    refine w_a f_102_26 ?_
    refine w_a f_102_27 ?_
    refine w_a f_102_28 ?_
    refine w_a f_102_31 ?_
    refine w_a f_102_32 ?_
    refine w_c (ks := [0, 1, 2, 3]) f_102_33 rfl rfl ?_
    refine w_a (ls := [(0, .ref 37), (1, .ref 37)]) f_63_0 ?_
    refine w_a f_63_1 ?_
    refine w_a f_63_4 ?_
    refine w_a f_63_5 ?_
    refine w_a f_63_8 ?_
    refine i_m (fun h => ?_) (fun h => ?_) h
    · refine w_a f_63_28 ?_
      refine w_a f_63_29 ?_
      refine w_a f_63_32 ?_
      refine w_a f_63_33 ?_
      exact w_c (ks := [0, 1]) f_63_36 rfl rfl h
    · refine w_a f_63_11 ?_
      refine w_a f_63_12 ?_
      refine w_a f_63_15 ?_
      refine w_a f_63_16 ?_
      refine w_a f_63_19 ?_
      refine i_m (fun h => ?_) (fun h => ?_) h
      · refine w_a f_63_22 ?_
        refine w_a f_63_23 ?_
        refine w_a f_63_27 ?_
        exact h
      · refine w_a f_63_26 ?_
        refine w_a f_63_27 ?_
        exact h
set_option maxRecDepth 10000 in
set_option maxHeartbeats 4000000 in
theorem s_102_36_1_1 {Lx : Nat} {I : Mi} {L : Ml} {e : Nat} {Q : Kq} {x2 : Int32} {r : Int32} (h :
    (if r = 0 then
     Wp 102 4 [(0, .ref 1), (1, .int (Int32.ofInt 1)), (2, .int x2), (3, .int (Int32.ofInt 2))] [] (gE Lx) I L e Q
    else
     Wp 102 4 [(0, .ref 1), (1, .int (Int32.ofInt 1)), (2, .int (x2 + Int32.ofInt 1)), (3, .int (Int32.ofInt 2))] [] (gE Lx) I L e Q)) :
    Wp 102 36 [(0, .ref 1), (1, .int (Int32.ofInt 1)), (2, .int x2), (3, .int (Int32.ofInt 1))] [.int r] (gE Lx) I L e Q := by
  refine w_a f_102_36 ?_
  refine i_m (fun h => ?_) (fun h => ?_) h
  · refine w_a f_102_39 ?_
    refine w_a f_102_40 ?_
    refine w_a f_102_41 ?_
    refine w_a f_102_65 ?_
    refine w_a (ls := [(3, .int (Int32.ofInt 2)), (0, .ref 1), (1, .int (Int32.ofInt 1)), (2, .int x2)]) f_102_68 ?_
    exact w_n (ks := [0, 1, 2, 3]) rfl h
  · refine w_a f_102_62 ?_
    refine w_a (ls := [(2, .int (x2 + Int32.ofInt 1)), (0, .ref 1), (1, .int (Int32.ofInt 1)), (3, .int (Int32.ofInt 1))]) f_102_65 ?_
    refine w_a (ls := [(3, .int (Int32.ofInt 2)), (2, .int (x2 + Int32.ofInt 1)), (0, .ref 1), (1, .int (Int32.ofInt 1))]) f_102_68 ?_
    exact w_n (ks := [0, 1, 2, 3]) rfl h
set_option maxRecDepth 10000 in
set_option maxHeartbeats 4000000 in
theorem s_102_59_1_1 {Lx : Nat} {I : Mi} {L : Ml} {e : Nat} {Q : Kq} {x2 : Int32} {r : Int32} (h :
    (if r = 0 then
     Wp 102 4 [(0, .ref 1), (1, .int (Int32.ofInt 1)), (2, .int (x2 + Int32.ofInt 1)), (3, .int (Int32.ofInt 2))] [] (gE Lx) I L e Q
    else
     Wp 102 4 [(0, .ref 1), (1, .int (Int32.ofInt 1)), (2, .int x2), (3, .int (Int32.ofInt 2))] [] (gE Lx) I L e Q)) :
    Wp 102 59 [(0, .ref 1), (1, .int (Int32.ofInt 1)), (2, .int x2), (3, .int (Int32.ofInt 1))] [.int r] (gE Lx) I L e Q := by
  refine w_a f_102_59 ?_
  refine i_m (fun h => ?_) (fun h => ?_) h
  · refine w_a f_102_62 ?_
    refine w_a (ls := [(2, .int (x2 + Int32.ofInt 1)), (0, .ref 1), (1, .int (Int32.ofInt 1)), (3, .int (Int32.ofInt 1))]) f_102_65 ?_
    refine w_a (ls := [(3, .int (Int32.ofInt 2)), (2, .int (x2 + Int32.ofInt 1)), (0, .ref 1), (1, .int (Int32.ofInt 1))]) f_102_68 ?_
    exact w_n (ks := [0, 1, 2, 3]) rfl h
  · refine w_a f_102_65 ?_
    refine w_a (ls := [(3, .int (Int32.ofInt 2)), (0, .ref 1), (1, .int (Int32.ofInt 1)), (2, .int x2)]) f_102_68 ?_
    exact w_n (ks := [0, 1, 2, 3]) rfl h
set_option maxRecDepth 10000 in
set_option maxHeartbeats 4000000 in
theorem s_102_4_1_2 {Lx : Nat} {I : Mi} {L : Ml} {e : Nat} {Q : Kq} {x2 : Int32} (h :
    (if (I 44 0) = 0 then
     Wp 102 4 [(0, .ref 1), (1, .int (Int32.ofInt 1)), (2, .int x2), (3, .int (Int32.ofInt 3))] [] (gE Lx) I L e Q
    else
     (if (I 44 2) = (I 37 2) then
      Wp 66 0 [(0, .ref 49), (1, .ref 42)] [] (gE Lx) I L e (kcp (Wp 63) 63 36 0 [(0, .ref 44), (1, .ref 37)] 71 [] (kcp (Wp 102) 102 33 0 [(0, .ref 1), (1, .int (Int32.ofInt 1)), (2, .int x2), (3, .int (Int32.ofInt 2))] 71 [] Q))
     else
      (if (I 37 2) < (I 44 2) then
       Wp 102 36 [(0, .ref 1), (1, .int (Int32.ofInt 1)), (2, .int x2), (3, .int (Int32.ofInt 2))] [.int (Int32.ofInt 1)] (gE Lx) I L e Q
      else
       Wp 102 36 [(0, .ref 1), (1, .int (Int32.ofInt 1)), (2, .int x2), (3, .int (Int32.ofInt 2))] [.int (Int32.ofInt 0)] (gE Lx) I L e Q)))) :
    Wp 102 4 [(0, .ref 1), (1, .int (Int32.ofInt 1)), (2, .int x2), (3, .int (Int32.ofInt 2))] [] (gE Lx) I L e Q := by
  refine w_a f_102_4 ?_
  refine w_a f_102_5 ?_
  refine w_a f_102_6 ?_
  refine w_a f_102_9 ?_
  refine w_a f_102_10 ?_
  refine w_a f_102_13 ?_
  refine w_a f_102_14 ?_
  refine w_a f_102_15 ?_
  refine w_a f_102_18 ?_
  refine i_m (fun h => ?_) (fun h => ?_) h
  · refine w_a f_102_65 ?_
    refine w_a (ls := [(3, .int (Int32.ofInt 3)), (0, .ref 1), (1, .int (Int32.ofInt 1)), (2, .int x2)]) f_102_68 ?_
    exact w_n (ks := [0, 1, 2, 3]) rfl h
  · refine w_a f_102_21 ?_
    refine w_a f_102_22 ?_
    refine w_a f_102_25 ?_
    refine w_a f_102_26 ?_
    refine w_a f_102_27 ?_
    refine w_a f_102_28 ?_
    refine w_a f_102_31 ?_
    refine w_a f_102_32 ?_
    refine w_c (ks := [0, 1, 2, 3]) f_102_33 rfl rfl ?_
    refine w_a (ls := [(0, .ref 44), (1, .ref 37)]) f_63_0 ?_
    refine w_a f_63_1 ?_
    refine w_a f_63_4 ?_
    refine w_a f_63_5 ?_
    refine w_a f_63_8 ?_
    refine i_m (fun h => ?_) (fun h => ?_) h
    · refine w_a f_63_28 ?_
      refine w_a f_63_29 ?_
      refine w_a f_63_32 ?_
      refine w_a f_63_33 ?_
      exact w_c (ks := [0, 1]) f_63_36 rfl rfl h
    · refine w_a f_63_11 ?_
      refine w_a f_63_12 ?_
      refine w_a f_63_15 ?_
      refine w_a f_63_16 ?_
      refine w_a f_63_19 ?_
      refine i_m (fun h => ?_) (fun h => ?_) h
      · refine w_a f_63_22 ?_
        refine w_a f_63_23 ?_
        refine w_a f_63_27 ?_
        exact h
      · refine w_a f_63_26 ?_
        refine w_a f_63_27 ?_
        exact h
set_option maxRecDepth 10000 in
set_option maxHeartbeats 4000000 in
theorem s_102_36_1_2 {Lx : Nat} {I : Mi} {L : Ml} {e : Nat} {Q : Kq} {x2 : Int32} {r : Int32} (h :
    (if r = 0 then
     Wp 102 4 [(0, .ref 1), (1, .int (Int32.ofInt 1)), (2, .int x2), (3, .int (Int32.ofInt 3))] [] (gE Lx) I L e Q
    else
     Wp 102 4 [(0, .ref 1), (1, .int (Int32.ofInt 1)), (2, .int (x2 + Int32.ofInt 1)), (3, .int (Int32.ofInt 3))] [] (gE Lx) I L e Q)) :
    Wp 102 36 [(0, .ref 1), (1, .int (Int32.ofInt 1)), (2, .int x2), (3, .int (Int32.ofInt 2))] [.int r] (gE Lx) I L e Q := by
  refine w_a f_102_36 ?_
  refine i_m (fun h => ?_) (fun h => ?_) h
  · refine w_a f_102_39 ?_
    refine w_a f_102_40 ?_
    refine w_a f_102_41 ?_
    refine w_a f_102_65 ?_
    refine w_a (ls := [(3, .int (Int32.ofInt 3)), (0, .ref 1), (1, .int (Int32.ofInt 1)), (2, .int x2)]) f_102_68 ?_
    exact w_n (ks := [0, 1, 2, 3]) rfl h
  · refine w_a f_102_62 ?_
    refine w_a (ls := [(2, .int (x2 + Int32.ofInt 1)), (0, .ref 1), (1, .int (Int32.ofInt 1)), (3, .int (Int32.ofInt 2))]) f_102_65 ?_
    refine w_a (ls := [(3, .int (Int32.ofInt 3)), (2, .int (x2 + Int32.ofInt 1)), (0, .ref 1), (1, .int (Int32.ofInt 1))]) f_102_68 ?_
    exact w_n (ks := [0, 1, 2, 3]) rfl h
set_option maxRecDepth 10000 in
set_option maxHeartbeats 4000000 in
theorem s_102_59_1_2 {Lx : Nat} {I : Mi} {L : Ml} {e : Nat} {Q : Kq} {x2 : Int32} {r : Int32} (h :
    (if r = 0 then
     Wp 102 4 [(0, .ref 1), (1, .int (Int32.ofInt 1)), (2, .int (x2 + Int32.ofInt 1)), (3, .int (Int32.ofInt 3))] [] (gE Lx) I L e Q
    else
     Wp 102 4 [(0, .ref 1), (1, .int (Int32.ofInt 1)), (2, .int x2), (3, .int (Int32.ofInt 3))] [] (gE Lx) I L e Q)) :
    Wp 102 59 [(0, .ref 1), (1, .int (Int32.ofInt 1)), (2, .int x2), (3, .int (Int32.ofInt 2))] [.int r] (gE Lx) I L e Q := by
  refine w_a f_102_59 ?_
  refine i_m (fun h => ?_) (fun h => ?_) h
  · refine w_a f_102_62 ?_
    refine w_a (ls := [(2, .int (x2 + Int32.ofInt 1)), (0, .ref 1), (1, .int (Int32.ofInt 1)), (3, .int (Int32.ofInt 2))]) f_102_65 ?_
    refine w_a (ls := [(3, .int (Int32.ofInt 3)), (2, .int (x2 + Int32.ofInt 1)), (0, .ref 1), (1, .int (Int32.ofInt 1))]) f_102_68 ?_
    exact w_n (ks := [0, 1, 2, 3]) rfl h
  · refine w_a f_102_65 ?_
    refine w_a (ls := [(3, .int (Int32.ofInt 3)), (0, .ref 1), (1, .int (Int32.ofInt 1)), (2, .int x2)]) f_102_68 ?_
    exact w_n (ks := [0, 1, 2, 3]) rfl h
set_option maxRecDepth 10000 in
set_option maxHeartbeats 4000000 in
theorem s_102_4_1_3 {Lx : Nat} {I : Mi} {L : Ml} {e : Nat} {Q : Kq} {x2 : Int32} (h :
    (if (I 51 0) = 0 then
     Wp 102 4 [(0, .ref 1), (1, .int (Int32.ofInt 1)), (2, .int x2), (3, .int (Int32.ofInt 4))] [] (gE Lx) I L e Q
    else
     (if (I 51 2) = (I 37 2) then
      Wp 66 0 [(0, .ref 56), (1, .ref 42)] [] (gE Lx) I L e (kcp (Wp 63) 63 36 0 [(0, .ref 51), (1, .ref 37)] 71 [] (kcp (Wp 102) 102 33 0 [(0, .ref 1), (1, .int (Int32.ofInt 1)), (2, .int x2), (3, .int (Int32.ofInt 3))] 71 [] Q))
     else
      (if (I 37 2) < (I 51 2) then
       Wp 102 36 [(0, .ref 1), (1, .int (Int32.ofInt 1)), (2, .int x2), (3, .int (Int32.ofInt 3))] [.int (Int32.ofInt 1)] (gE Lx) I L e Q
      else
       Wp 102 36 [(0, .ref 1), (1, .int (Int32.ofInt 1)), (2, .int x2), (3, .int (Int32.ofInt 3))] [.int (Int32.ofInt 0)] (gE Lx) I L e Q)))) :
    Wp 102 4 [(0, .ref 1), (1, .int (Int32.ofInt 1)), (2, .int x2), (3, .int (Int32.ofInt 3))] [] (gE Lx) I L e Q := by
  refine w_a f_102_4 ?_
  refine w_a f_102_5 ?_
  refine w_a f_102_6 ?_
  refine w_a f_102_9 ?_
  refine w_a f_102_10 ?_
  refine w_a f_102_13 ?_
  refine w_a f_102_14 ?_
  refine w_a f_102_15 ?_
  refine w_a f_102_18 ?_
  refine i_m (fun h => ?_) (fun h => ?_) h
  · refine w_a f_102_65 ?_
    refine w_a (ls := [(3, .int (Int32.ofInt 4)), (0, .ref 1), (1, .int (Int32.ofInt 1)), (2, .int x2)]) f_102_68 ?_
    exact w_n (ks := [0, 1, 2, 3]) rfl h
  · refine w_a f_102_21 ?_
    refine w_a f_102_22 ?_
    refine w_a f_102_25 ?_
    refine w_a f_102_26 ?_
    refine w_a f_102_27 ?_
    refine w_a f_102_28 ?_
    refine w_a f_102_31 ?_
    refine w_a f_102_32 ?_
    refine w_c (ks := [0, 1, 2, 3]) f_102_33 rfl rfl ?_
    refine w_a (ls := [(0, .ref 51), (1, .ref 37)]) f_63_0 ?_
    refine w_a f_63_1 ?_
    refine w_a f_63_4 ?_
    refine w_a f_63_5 ?_
    refine w_a f_63_8 ?_
    refine i_m (fun h => ?_) (fun h => ?_) h
    · refine w_a f_63_28 ?_
      refine w_a f_63_29 ?_
      refine w_a f_63_32 ?_
      refine w_a f_63_33 ?_
      exact w_c (ks := [0, 1]) f_63_36 rfl rfl h
    · refine w_a f_63_11 ?_
      refine w_a f_63_12 ?_
      refine w_a f_63_15 ?_
      refine w_a f_63_16 ?_
      refine w_a f_63_19 ?_
      refine i_m (fun h => ?_) (fun h => ?_) h
      · refine w_a f_63_22 ?_
        refine w_a f_63_23 ?_
        refine w_a f_63_27 ?_
        exact h
      · refine w_a f_63_26 ?_
        refine w_a f_63_27 ?_
        exact h
set_option maxRecDepth 10000 in
set_option maxHeartbeats 4000000 in
theorem s_102_36_1_3 {Lx : Nat} {I : Mi} {L : Ml} {e : Nat} {Q : Kq} {x2 : Int32} {r : Int32} (h :
    (if r = 0 then
     Wp 102 4 [(0, .ref 1), (1, .int (Int32.ofInt 1)), (2, .int x2), (3, .int (Int32.ofInt 4))] [] (gE Lx) I L e Q
    else
     Wp 102 4 [(0, .ref 1), (1, .int (Int32.ofInt 1)), (2, .int (x2 + Int32.ofInt 1)), (3, .int (Int32.ofInt 4))] [] (gE Lx) I L e Q)) :
    Wp 102 36 [(0, .ref 1), (1, .int (Int32.ofInt 1)), (2, .int x2), (3, .int (Int32.ofInt 3))] [.int r] (gE Lx) I L e Q := by
  refine w_a f_102_36 ?_
  refine i_m (fun h => ?_) (fun h => ?_) h
  · refine w_a f_102_39 ?_
    refine w_a f_102_40 ?_
    refine w_a f_102_41 ?_
    refine w_a f_102_65 ?_
    refine w_a (ls := [(3, .int (Int32.ofInt 4)), (0, .ref 1), (1, .int (Int32.ofInt 1)), (2, .int x2)]) f_102_68 ?_
    exact w_n (ks := [0, 1, 2, 3]) rfl h
  · refine w_a f_102_62 ?_
    refine w_a (ls := [(2, .int (x2 + Int32.ofInt 1)), (0, .ref 1), (1, .int (Int32.ofInt 1)), (3, .int (Int32.ofInt 3))]) f_102_65 ?_
    refine w_a (ls := [(3, .int (Int32.ofInt 4)), (2, .int (x2 + Int32.ofInt 1)), (0, .ref 1), (1, .int (Int32.ofInt 1))]) f_102_68 ?_
    exact w_n (ks := [0, 1, 2, 3]) rfl h
set_option maxRecDepth 10000 in
set_option maxHeartbeats 4000000 in
theorem s_102_59_1_3 {Lx : Nat} {I : Mi} {L : Ml} {e : Nat} {Q : Kq} {x2 : Int32} {r : Int32} (h :
    (if r = 0 then
     Wp 102 4 [(0, .ref 1), (1, .int (Int32.ofInt 1)), (2, .int (x2 + Int32.ofInt 1)), (3, .int (Int32.ofInt 4))] [] (gE Lx) I L e Q
    else
     Wp 102 4 [(0, .ref 1), (1, .int (Int32.ofInt 1)), (2, .int x2), (3, .int (Int32.ofInt 4))] [] (gE Lx) I L e Q)) :
    Wp 102 59 [(0, .ref 1), (1, .int (Int32.ofInt 1)), (2, .int x2), (3, .int (Int32.ofInt 3))] [.int r] (gE Lx) I L e Q := by
  refine w_a f_102_59 ?_
  refine i_m (fun h => ?_) (fun h => ?_) h
  · refine w_a f_102_62 ?_
    refine w_a (ls := [(2, .int (x2 + Int32.ofInt 1)), (0, .ref 1), (1, .int (Int32.ofInt 1)), (3, .int (Int32.ofInt 3))]) f_102_65 ?_
    refine w_a (ls := [(3, .int (Int32.ofInt 4)), (2, .int (x2 + Int32.ofInt 1)), (0, .ref 1), (1, .int (Int32.ofInt 1))]) f_102_68 ?_
    exact w_n (ks := [0, 1, 2, 3]) rfl h
  · refine w_a f_102_65 ?_
    refine w_a (ls := [(3, .int (Int32.ofInt 4)), (0, .ref 1), (1, .int (Int32.ofInt 1)), (2, .int x2)]) f_102_68 ?_
    exact w_n (ks := [0, 1, 2, 3]) rfl h
set_option maxRecDepth 10000 in
set_option maxHeartbeats 4000000 in
theorem s_102_4_1_4 {Lx : Nat} {I : Mi} {L : Ml} {e : Nat} {Q : Kq} {x2 : Int32} (h :
    Q (.inl (some (.int x2))) (gE Lx) I L e) :
    Wp 102 4 [(0, .ref 1), (1, .int (Int32.ofInt 1)), (2, .int x2), (3, .int (Int32.ofInt 4))] [] (gE Lx) I L e Q := by
  refine w_a f_102_4 ?_
  refine w_a f_102_5 ?_
  refine w_a f_102_6 ?_
  refine w_a f_102_71 ?_
  refine w_a f_102_72 ?_
  exact h
set_option maxRecDepth 10000 in
set_option maxHeartbeats 4000000 in
theorem s_100_6_2 {Lx : Nat} {I : Mi} {L : Ml} {e : Nat} {Q : Kq} {x1 : Int32} (h :
    (if (I 44 0) = 0 then
     Wp 100 6 [(0, .ref 1), (1, .int x1), (2, .int (Int32.ofInt 3))] [] (gE Lx) I L e Q
    else
     Wp 102 0 [(0, .ref 1), (1, .int (Int32.ofInt 2))] [] (gE Lx) I L e (kcp (Wp 100) 100 25 0 [(0, .ref 1), (1, .int x1), (2, .int (Int32.ofInt 2))] 71 [] Q))) :
    Wp 100 6 [(0, .ref 1), (1, .int x1), (2, .int (Int32.ofInt 2))] [] (gE Lx) I L e Q := by
  refine w_a f_100_6 ?_
  refine w_a f_100_7 ?_
  refine w_a f_100_8 ?_
  refine w_a f_100_11 ?_
  refine w_a f_100_12 ?_
  refine w_a f_100_15 ?_
  refine w_a f_100_16 ?_
  refine w_a f_100_17 ?_
  refine w_a f_100_20 ?_
  refine i_m (fun h => ?_) (fun h => ?_) h
  · refine w_a f_100_34 ?_
    refine w_a (ls := [(2, .int (Int32.ofInt 3)), (0, .ref 1), (1, .int x1)]) f_100_37 ?_
    exact w_n (ks := [0, 1, 2]) rfl h
  · refine w_a f_100_23 ?_
    refine w_a f_100_24 ?_
    exact w_c (ks := [0, 1, 2]) f_100_25 rfl rfl h
set_option maxRecDepth 10000 in
set_option maxHeartbeats 4000000 in
theorem s_101_2_2 {Lx : Nat} {I : Mi} {L : Ml} {e : Nat} {Q : Kq} (h :
    (if (I 44 0) = 0 then
     Wp 101 62 [(0, .ref 1), (1, .int (Int32.ofInt 2))] [] (gE Lx) I L e Q
    else
     Wp 95 0 [(0, .ref 1), (1, .ref 45)] [] (gE Lx) I L e (kcp (Wp 101) 101 35 0 [(0, .ref 1), (1, .int (Int32.ofInt 2))] 71 [.ref 44] Q))) :
    Wp 101 2 [(0, .ref 1), (1, .int (Int32.ofInt 2))] [] (gE Lx) I L e Q := by
  refine w_a f_101_2 ?_
  refine w_a f_101_3 ?_
  refine w_a f_101_4 ?_
  refine w_a f_101_7 ?_
  refine w_a f_101_8 ?_
  refine w_a f_101_11 ?_
  refine w_a f_101_12 ?_
  refine w_a f_101_13 ?_
  refine w_a f_101_16 ?_
  refine i_m (fun h => ?_) (fun h => ?_) h
  · exact w_n (ks := [0, 1]) rfl h
  · refine w_a f_101_19 ?_
    refine w_a f_101_20 ?_
    refine w_a f_101_23 ?_
    refine w_a f_101_24 ?_
    refine w_a f_101_25 ?_
    refine w_a f_101_26 ?_
    refine w_a f_101_27 ?_
    refine w_a f_101_30 ?_
    refine w_a f_101_31 ?_
    refine w_a f_101_32 ?_
    exact w_c (ks := [0, 1]) f_101_35 rfl rfl h
set_option maxRecDepth 10000 in
set_option maxHeartbeats 4000000 in
theorem s_104_4_2 {Lx : Nat} {I : Mi} {L : Ml} {e : Nat} {Q : Kq} {x1 : Int32} (h :
    (if (I 44 0) = 0 then
     Wp 104 4 [(0, .ref 1), (1, .int x1), (2, .int (Int32.ofInt 3))] [] (gE Lx) I L e Q
    else
     Wp 104 4 [(0, .ref 1), (1, .int (x1 ||| (Int32.ofInt 4))), (2, .int (Int32.ofInt 3))] [] (gE Lx) I L e Q)) :
    Wp 104 4 [(0, .ref 1), (1, .int x1), (2, .int (Int32.ofInt 2))] [] (gE Lx) I L e Q := by
  refine w_a f_104_4 ?_
  refine w_a f_104_5 ?_
  refine w_a f_104_6 ?_
  refine w_a f_104_9 ?_
  refine w_a f_104_10 ?_
  refine w_a f_104_13 ?_
  refine w_a f_104_14 ?_
  refine w_a f_104_15 ?_
  refine w_a f_104_18 ?_
  refine i_m (fun h => ?_) (fun h => ?_) h
  · refine w_a f_104_27 ?_
    refine w_a (ls := [(2, .int (Int32.ofInt 3)), (0, .ref 1), (1, .int x1)]) f_104_30 ?_
    exact w_n (ks := [0, 1, 2]) rfl h
  · refine w_a f_104_21 ?_
    refine w_a f_104_22 ?_
    refine w_a f_104_23 ?_
    refine w_a f_104_24 ?_
    refine w_a f_104_25 ?_
    refine w_a f_104_26 ?_
    refine w_a (ls := [(1, .int (x1 ||| (Int32.ofInt 4))), (0, .ref 1), (2, .int (Int32.ofInt 2))]) f_104_27 ?_
    refine w_a (ls := [(2, .int (Int32.ofInt 3)), (1, .int (x1 ||| (Int32.ofInt 4))), (0, .ref 1)]) f_104_30 ?_
    exact w_n (ks := [0, 1, 2]) rfl h
set_option maxRecDepth 10000 in
set_option maxHeartbeats 4000000 in
theorem s_101_38_2 {Lx : Nat} {I : Mi} {L : Ml} {e : Nat} {Q : Kq} {r : Int32} (h :
    Wp 65 0 [(0, .ref 49), (1, .ref 45)] [] (gE Lx) (ui I 44 2 r) L e (kcp (Wp 101) 101 59 0 [(0, .ref 1), (1, .int (Int32.ofInt 2))] 71 [] Q)) :
    Wp 101 38 [(0, .ref 1), (1, .int (Int32.ofInt 2))] [.int r, .ref 44] (gE Lx) I L e Q := by
  refine w_a f_101_38 ?_
  refine w_a f_101_41 ?_
  refine w_a f_101_42 ?_
  refine w_a f_101_45 ?_
  refine w_a f_101_46 ?_
  refine w_a f_101_47 ?_
  refine w_a f_101_50 ?_
  refine w_a f_101_51 ?_
  refine w_a f_101_54 ?_
  refine w_a f_101_55 ?_
  refine w_a f_101_56 ?_
  exact w_c (ks := [0, 1]) f_101_59 rfl rfl h
set_option maxRecDepth 10000 in
set_option maxHeartbeats 4000000 in
theorem s_100_28_2 {Lx : Nat} {I : Mi} {L : Ml} {e : Nat} {Q : Kq} {x1 : Int32} {r : Int32} (h :
    (if r = x1 then
     Q (.inl (some (.int (Int32.ofInt 2)))) (gE Lx) I L e
    else
     Wp 100 6 [(0, .ref 1), (1, .int x1), (2, .int (Int32.ofInt 3))] [] (gE Lx) I L e Q)) :
    Wp 100 28 [(0, .ref 1), (1, .int x1), (2, .int (Int32.ofInt 2))] [.int r] (gE Lx) I L e Q := by
  refine w_a f_100_28 ?_
  refine w_a f_100_29 ?_
  refine i_m (fun h => ?_) (fun h => ?_) h
  · refine w_a f_100_32 ?_
    refine w_a f_100_33 ?_
    exact h
  · refine w_a f_100_34 ?_
    refine w_a (ls := [(2, .int (Int32.ofInt 3)), (0, .ref 1), (1, .int x1)]) f_100_37 ?_
    exact w_n (ks := [0, 1, 2]) rfl h
set_option maxRecDepth 10000 in
set_option maxHeartbeats 4000000 in
theorem s_101_62_2 {Lx : Nat} {I : Mi} {L : Ml} {e : Nat} {Q : Kq} (h :
    Wp 101 2 [(0, .ref 1), (1, .int (Int32.ofInt 3))] [] (gE Lx) I L e Q) :
    Wp 101 62 [(0, .ref 1), (1, .int (Int32.ofInt 2))] [] (gE Lx) I L e Q := by
  refine w_a f_101_62 ?_
  refine w_a (ls := [(1, .int (Int32.ofInt 3)), (0, .ref 1)]) f_101_65 ?_
  exact w_n (ks := [0, 1]) rfl h
set_option maxRecDepth 10000 in
set_option maxHeartbeats 4000000 in
theorem s_102_4_2_0 {Lx : Nat} {I : Mi} {L : Ml} {e : Nat} {Q : Kq} {x2 : Int32} (h :
    (if (I 30 0) = 0 then
     Wp 102 4 [(0, .ref 1), (1, .int (Int32.ofInt 2)), (2, .int x2), (3, .int (Int32.ofInt 1))] [] (gE Lx) I L e Q
    else
     (if (I 30 2) = (I 44 2) then
      Wp 66 0 [(0, .ref 35), (1, .ref 49)] [] (gE Lx) I L e (kcp (Wp 63) 63 36 0 [(0, .ref 30), (1, .ref 44)] 71 [] (kcp (Wp 102) 102 33 0 [(0, .ref 1), (1, .int (Int32.ofInt 2)), (2, .int x2), (3, .int (Int32.ofInt 0))] 71 [] Q))
     else
      (if (I 44 2) < (I 30 2) then
       Wp 102 36 [(0, .ref 1), (1, .int (Int32.ofInt 2)), (2, .int x2), (3, .int (Int32.ofInt 0))] [.int (Int32.ofInt 1)] (gE Lx) I L e Q
      else
       Wp 102 36 [(0, .ref 1), (1, .int (Int32.ofInt 2)), (2, .int x2), (3, .int (Int32.ofInt 0))] [.int (Int32.ofInt 0)] (gE Lx) I L e Q)))) :
    Wp 102 4 [(0, .ref 1), (1, .int (Int32.ofInt 2)), (2, .int x2), (3, .int (Int32.ofInt 0))] [] (gE Lx) I L e Q := by
  refine w_a f_102_4 ?_
  refine w_a f_102_5 ?_
  refine w_a f_102_6 ?_
  refine w_a f_102_9 ?_
  refine w_a f_102_10 ?_
  refine w_a f_102_13 ?_
  refine w_a f_102_14 ?_
  refine w_a f_102_15 ?_
  refine w_a f_102_18 ?_
  refine i_m (fun h => ?_) (fun h => ?_) h
  · refine w_a f_102_65 ?_
    refine w_a (ls := [(3, .int (Int32.ofInt 1)), (0, .ref 1), (1, .int (Int32.ofInt 2)), (2, .int x2)]) f_102_68 ?_
    exact w_n (ks := [0, 1, 2, 3]) rfl h
  · refine w_a f_102_21 ?_
    refine w_a f_102_22 ?_
    refine w_a f_102_25 ?_
    refine w_a f_102_26 ?_
    refine w_a f_102_27 ?_
    refine w_a f_102_28 ?_
    refine w_a f_102_31 ?_
    refine w_a f_102_32 ?_
    refine w_c (ks := [0, 1, 2, 3]) f_102_33 rfl rfl ?_
    refine w_a (ls := [(0, .ref 30), (1, .ref 44)]) f_63_0 ?_
    refine w_a f_63_1 ?_
    refine w_a f_63_4 ?_
    refine w_a f_63_5 ?_
    refine w_a f_63_8 ?_
    refine i_m (fun h => ?_) (fun h => ?_) h
    · refine w_a f_63_28 ?_
      refine w_a f_63_29 ?_
      refine w_a f_63_32 ?_
      refine w_a f_63_33 ?_
      exact w_c (ks := [0, 1]) f_63_36 rfl rfl h
    · refine w_a f_63_11 ?_
      refine w_a f_63_12 ?_
      refine w_a f_63_15 ?_
      refine w_a f_63_16 ?_
      refine w_a f_63_19 ?_
      refine i_m (fun h => ?_) (fun h => ?_) h
      · refine w_a f_63_22 ?_
        refine w_a f_63_23 ?_
        refine w_a f_63_27 ?_
        exact h
      · refine w_a f_63_26 ?_
        refine w_a f_63_27 ?_
        exact h
set_option maxRecDepth 10000 in
set_option maxHeartbeats 4000000 in
theorem s_102_36_2_0 {Lx : Nat} {I : Mi} {L : Ml} {e : Nat} {Q : Kq} {x2 : Int32} {r : Int32} (h :
    (if r = 0 then
     (if (I 44 2) = (I 30 2) then
      Wp 66 0 [(0, .ref 49), (1, .ref 35)] [] (gE Lx) I L e (kcp (Wp 63) 63 36 0 [(0, .ref 44), (1, .ref 30)] 71 [] (kcp (Wp 102) 102 56 0 [(0, .ref 1), (1, .int (Int32.ofInt 2)), (2, .int x2), (3, .int (Int32.ofInt 0))] 71 [] Q))
     else
      (if (I 30 2) < (I 44 2) then
       Wp 102 59 [(0, .ref 1), (1, .int (Int32.ofInt 2)), (2, .int x2), (3, .int (Int32.ofInt 0))] [.int (Int32.ofInt 1)] (gE Lx) I L e Q
      else
       Wp 102 59 [(0, .ref 1), (1, .int (Int32.ofInt 2)), (2, .int x2), (3, .int (Int32.ofInt 0))] [.int (Int32.ofInt 0)] (gE Lx) I L e Q))
    else
     Wp 102 4 [(0, .ref 1), (1, .int (Int32.ofInt 2)), (2, .int (x2 + Int32.ofInt 1)), (3, .int (Int32.ofInt 1))] [] (gE Lx) I L e Q)) :
    Wp 102 36 [(0, .ref 1), (1, .int (Int32.ofInt 2)), (2, .int x2), (3, .int (Int32.ofInt 0))] [.int r] (gE Lx) I L e Q := by
  refine w_a f_102_36 ?_
  refine i_m (fun h => ?_) (fun h => ?_) h
  · refine w_a f_102_39 ?_
    refine w_a f_102_40 ?_
    refine w_a f_102_41 ?_
    refine w_a f_102_44 ?_
    refine w_a f_102_45 ?_
    refine w_a f_102_48 ?_
    refine w_a f_102_49 ?_
    refine w_a f_102_50 ?_
    refine w_a f_102_51 ?_
    refine w_a f_102_54 ?_
    refine w_a f_102_55 ?_
    refine w_c (ks := [0, 1, 2, 3]) f_102_56 rfl rfl ?_
    refine w_a (ls := [(0, .ref 44), (1, .ref 30)]) f_63_0 ?_
    refine w_a f_63_1 ?_
    refine w_a f_63_4 ?_
    refine w_a f_63_5 ?_
    refine w_a f_63_8 ?_
    refine i_m (fun h => ?_) (fun h => ?_) h
    · refine w_a f_63_28 ?_
      refine w_a f_63_29 ?_
      refine w_a f_63_32 ?_
      refine w_a f_63_33 ?_
      exact w_c (ks := [0, 1]) f_63_36 rfl rfl h
    · refine w_a f_63_11 ?_
      refine w_a f_63_12 ?_
      refine w_a f_63_15 ?_
      refine w_a f_63_16 ?_
      refine w_a f_63_19 ?_
      refine i_m (fun h => ?_) (fun h => ?_) h
      · refine w_a f_63_22 ?_
        refine w_a f_63_23 ?_
        refine w_a f_63_27 ?_
        exact h
      · refine w_a f_63_26 ?_
        refine w_a f_63_27 ?_
        exact h
  · refine w_a f_102_62 ?_
    refine w_a (ls := [(2, .int (x2 + Int32.ofInt 1)), (0, .ref 1), (1, .int (Int32.ofInt 2)), (3, .int (Int32.ofInt 0))]) f_102_65 ?_
    refine w_a (ls := [(3, .int (Int32.ofInt 1)), (2, .int (x2 + Int32.ofInt 1)), (0, .ref 1), (1, .int (Int32.ofInt 2))]) f_102_68 ?_
    exact w_n (ks := [0, 1, 2, 3]) rfl h
set_option maxRecDepth 10000 in
set_option maxHeartbeats 4000000 in
theorem s_102_59_2_0 {Lx : Nat} {I : Mi} {L : Ml} {e : Nat} {Q : Kq} {x2 : Int32} {r : Int32} (h :
    (if r = 0 then
     Wp 102 4 [(0, .ref 1), (1, .int (Int32.ofInt 2)), (2, .int (x2 + Int32.ofInt 1)), (3, .int (Int32.ofInt 1))] [] (gE Lx) I L e Q
    else
     Wp 102 4 [(0, .ref 1), (1, .int (Int32.ofInt 2)), (2, .int x2), (3, .int (Int32.ofInt 1))] [] (gE Lx) I L e Q)) :
    Wp 102 59 [(0, .ref 1), (1, .int (Int32.ofInt 2)), (2, .int x2), (3, .int (Int32.ofInt 0))] [.int r] (gE Lx) I L e Q := by
  refine w_a f_102_59 ?_
  refine i_m (fun h => ?_) (fun h => ?_) h
  · refine w_a f_102_62 ?_
    refine w_a (ls := [(2, .int (x2 + Int32.ofInt 1)), (0, .ref 1), (1, .int (Int32.ofInt 2)), (3, .int (Int32.ofInt 0))]) f_102_65 ?_
    refine w_a (ls := [(3, .int (Int32.ofInt 1)), (2, .int (x2 + Int32.ofInt 1)), (0, .ref 1), (1, .int (Int32.ofInt 2))]) f_102_68 ?_
    exact w_n (ks := [0, 1, 2, 3]) rfl h
  · refine w_a f_102_65 ?_
    refine w_a (ls := [(3, .int (Int32.ofInt 1)), (0, .ref 1), (1, .int (Int32.ofInt 2)), (2, .int x2)]) f_102_68 ?_
    exact w_n (ks := [0, 1, 2, 3]) rfl h
set_option maxRecDepth 10000 in
set_option maxHeartbeats 4000000 in
theorem s_102_4_2_1 {Lx : Nat} {I : Mi} {L : Ml} {e : Nat} {Q : Kq} {x2 : Int32} (h :
    (if (I 37 0) = 0 then
     Wp 102 4 [(0, .ref 1), (1, .int (Int32.ofInt 2)), (2, .int x2), (3, .int (Int32.ofInt 2))] [] (gE Lx) I L e Q
    else
     (if (I 37 2) = (I 44 2) then
      Wp 66 0 [(0, .ref 42), (1, .ref 49)] [] (gE Lx) I L e (kcp (Wp 63) 63 36 0 [(0, .ref 37), (1, .ref 44)] 71 [] (kcp (Wp 102) 102 33 0 [(0, .ref 1), (1, .int (Int32.ofInt 2)), (2, .int x2), (3, .int (Int32.ofInt 1))] 71 [] Q))
     else
      (if (I 44 2) < (I 37 2) then
       Wp 102 36 [(0, .ref 1), (1, .int (Int32.ofInt 2)), (2, .int x2), (3, .int (Int32.ofInt 1))] [.int (Int32.ofInt 1)] (gE Lx) I L e Q
      else
       Wp 102 36 [(0, .ref 1), (1, .int (Int32.ofInt 2)), (2, .int x2), (3, .int (Int32.ofInt 1))] [.int (Int32.ofInt 0)] (gE Lx) I L e Q)))) :
    Wp 102 4 [(0, .ref 1), (1, .int (Int32.ofInt 2)), (2, .int x2), (3, .int (Int32.ofInt 1))] [] (gE Lx) I L e Q := by
  refine w_a f_102_4 ?_
  refine w_a f_102_5 ?_
  refine w_a f_102_6 ?_
  refine w_a f_102_9 ?_
  refine w_a f_102_10 ?_
  refine w_a f_102_13 ?_
  refine w_a f_102_14 ?_
  refine w_a f_102_15 ?_
  refine w_a f_102_18 ?_
  refine i_m (fun h => ?_) (fun h => ?_) h
  · refine w_a f_102_65 ?_
    refine w_a (ls := [(3, .int (Int32.ofInt 2)), (0, .ref 1), (1, .int (Int32.ofInt 2)), (2, .int x2)]) f_102_68 ?_
    exact w_n (ks := [0, 1, 2, 3]) rfl h
  · refine w_a f_102_21 ?_
    refine w_a f_102_22 ?_
    refine w_a f_102_25 ?_
    refine w_a f_102_26 ?_
    refine w_a f_102_27 ?_
    refine w_a f_102_28 ?_
    refine w_a f_102_31 ?_
    refine w_a f_102_32 ?_
    refine w_c (ks := [0, 1, 2, 3]) f_102_33 rfl rfl ?_
    refine w_a (ls := [(0, .ref 37), (1, .ref 44)]) f_63_0 ?_
    refine w_a f_63_1 ?_
    refine w_a f_63_4 ?_
    refine w_a f_63_5 ?_
    refine w_a f_63_8 ?_
    refine i_m (fun h => ?_) (fun h => ?_) h
    · refine w_a f_63_28 ?_
      refine w_a f_63_29 ?_
      refine w_a f_63_32 ?_
      refine w_a f_63_33 ?_
      exact w_c (ks := [0, 1]) f_63_36 rfl rfl h
    · refine w_a f_63_11 ?_
      refine w_a f_63_12 ?_
      refine w_a f_63_15 ?_
      refine w_a f_63_16 ?_
      refine w_a f_63_19 ?_
      refine i_m (fun h => ?_) (fun h => ?_) h
      · refine w_a f_63_22 ?_
        refine w_a f_63_23 ?_
        refine w_a f_63_27 ?_
        exact h
      · refine w_a f_63_26 ?_
        refine w_a f_63_27 ?_
        exact h
set_option maxRecDepth 10000 in
set_option maxHeartbeats 4000000 in
theorem s_102_36_2_1 {Lx : Nat} {I : Mi} {L : Ml} {e : Nat} {Q : Kq} {x2 : Int32} {r : Int32} (h :
    (if r = 0 then
     (if (I 44 2) = (I 37 2) then
      Wp 66 0 [(0, .ref 49), (1, .ref 42)] [] (gE Lx) I L e (kcp (Wp 63) 63 36 0 [(0, .ref 44), (1, .ref 37)] 71 [] (kcp (Wp 102) 102 56 0 [(0, .ref 1), (1, .int (Int32.ofInt 2)), (2, .int x2), (3, .int (Int32.ofInt 1))] 71 [] Q))
     else
      (if (I 37 2) < (I 44 2) then
       Wp 102 59 [(0, .ref 1), (1, .int (Int32.ofInt 2)), (2, .int x2), (3, .int (Int32.ofInt 1))] [.int (Int32.ofInt 1)] (gE Lx) I L e Q
      else
       Wp 102 59 [(0, .ref 1), (1, .int (Int32.ofInt 2)), (2, .int x2), (3, .int (Int32.ofInt 1))] [.int (Int32.ofInt 0)] (gE Lx) I L e Q))
    else
     Wp 102 4 [(0, .ref 1), (1, .int (Int32.ofInt 2)), (2, .int (x2 + Int32.ofInt 1)), (3, .int (Int32.ofInt 2))] [] (gE Lx) I L e Q)) :
    Wp 102 36 [(0, .ref 1), (1, .int (Int32.ofInt 2)), (2, .int x2), (3, .int (Int32.ofInt 1))] [.int r] (gE Lx) I L e Q := by
  refine w_a f_102_36 ?_
  refine i_m (fun h => ?_) (fun h => ?_) h
  · refine w_a f_102_39 ?_
    refine w_a f_102_40 ?_
    refine w_a f_102_41 ?_
    refine w_a f_102_44 ?_
    refine w_a f_102_45 ?_
    refine w_a f_102_48 ?_
    refine w_a f_102_49 ?_
    refine w_a f_102_50 ?_
    refine w_a f_102_51 ?_
    refine w_a f_102_54 ?_
    refine w_a f_102_55 ?_
    refine w_c (ks := [0, 1, 2, 3]) f_102_56 rfl rfl ?_
    refine w_a (ls := [(0, .ref 44), (1, .ref 37)]) f_63_0 ?_
    refine w_a f_63_1 ?_
    refine w_a f_63_4 ?_
    refine w_a f_63_5 ?_
    refine w_a f_63_8 ?_
    refine i_m (fun h => ?_) (fun h => ?_) h
    · refine w_a f_63_28 ?_
      refine w_a f_63_29 ?_
      refine w_a f_63_32 ?_
      refine w_a f_63_33 ?_
      exact w_c (ks := [0, 1]) f_63_36 rfl rfl h
    · refine w_a f_63_11 ?_
      refine w_a f_63_12 ?_
      refine w_a f_63_15 ?_
      refine w_a f_63_16 ?_
      refine w_a f_63_19 ?_
      refine i_m (fun h => ?_) (fun h => ?_) h
      · refine w_a f_63_22 ?_
        refine w_a f_63_23 ?_
        refine w_a f_63_27 ?_
        exact h
      · refine w_a f_63_26 ?_
        refine w_a f_63_27 ?_
        exact h
  · refine w_a f_102_62 ?_
    refine w_a (ls := [(2, .int (x2 + Int32.ofInt 1)), (0, .ref 1), (1, .int (Int32.ofInt 2)), (3, .int (Int32.ofInt 1))]) f_102_65 ?_
    refine w_a (ls := [(3, .int (Int32.ofInt 2)), (2, .int (x2 + Int32.ofInt 1)), (0, .ref 1), (1, .int (Int32.ofInt 2))]) f_102_68 ?_
    exact w_n (ks := [0, 1, 2, 3]) rfl h
set_option maxRecDepth 10000 in
set_option maxHeartbeats 4000000 in
theorem s_102_59_2_1 {Lx : Nat} {I : Mi} {L : Ml} {e : Nat} {Q : Kq} {x2 : Int32} {r : Int32} (h :
    (if r = 0 then
     Wp 102 4 [(0, .ref 1), (1, .int (Int32.ofInt 2)), (2, .int (x2 + Int32.ofInt 1)), (3, .int (Int32.ofInt 2))] [] (gE Lx) I L e Q
    else
     Wp 102 4 [(0, .ref 1), (1, .int (Int32.ofInt 2)), (2, .int x2), (3, .int (Int32.ofInt 2))] [] (gE Lx) I L e Q)) :
    Wp 102 59 [(0, .ref 1), (1, .int (Int32.ofInt 2)), (2, .int x2), (3, .int (Int32.ofInt 1))] [.int r] (gE Lx) I L e Q := by
  refine w_a f_102_59 ?_
  refine i_m (fun h => ?_) (fun h => ?_) h
  · refine w_a f_102_62 ?_
    refine w_a (ls := [(2, .int (x2 + Int32.ofInt 1)), (0, .ref 1), (1, .int (Int32.ofInt 2)), (3, .int (Int32.ofInt 1))]) f_102_65 ?_
    refine w_a (ls := [(3, .int (Int32.ofInt 2)), (2, .int (x2 + Int32.ofInt 1)), (0, .ref 1), (1, .int (Int32.ofInt 2))]) f_102_68 ?_
    exact w_n (ks := [0, 1, 2, 3]) rfl h
  · refine w_a f_102_65 ?_
    refine w_a (ls := [(3, .int (Int32.ofInt 2)), (0, .ref 1), (1, .int (Int32.ofInt 2)), (2, .int x2)]) f_102_68 ?_
    exact w_n (ks := [0, 1, 2, 3]) rfl h
set_option maxRecDepth 10000 in
set_option maxHeartbeats 4000000 in
theorem s_102_4_2_2 {Lx : Nat} {I : Mi} {L : Ml} {e : Nat} {Q : Kq} {x2 : Int32} (h :
    (if (I 44 0) = 0 then
     Wp 102 4 [(0, .ref 1), (1, .int (Int32.ofInt 2)), (2, .int x2), (3, .int (Int32.ofInt 3))] [] (gE Lx) I L e Q
    else
     (if (I 44 2) = (I 44 2) then
      Wp 66 0 [(0, .ref 49), (1, .ref 49)] [] (gE Lx) I L e (kcp (Wp 63) 63 36 0 [(0, .ref 44), (1, .ref 44)] 71 [] (kcp (Wp 102) 102 33 0 [(0, .ref 1), (1, .int (Int32.ofInt 2)), (2, .int x2), (3, .int (Int32.ofInt 2))] 71 [] Q))
     else
      (if (I 44 2) < (I 44 2) then
       Wp 102 36 [(0, .ref 1), (1, .int (Int32.ofInt 2)), (2, .int x2), (3, .int (Int32.ofInt 2))] [.int (Int32.ofInt 1)] (gE Lx) I L e Q
      else
       Wp 102 36 [(0, .ref 1), (1, .int (Int32.ofInt 2)), (2, .int x2), (3, .int (Int32.ofInt 2))] [.int (Int32.ofInt 0)] (gE Lx) I L e Q)))) :
    Wp 102 4 [(0, .ref 1), (1, .int (Int32.ofInt 2)), (2, .int x2), (3, .int (Int32.ofInt 2))] [] (gE Lx) I L e Q := by
  refine w_a f_102_4 ?_
  refine w_a f_102_5 ?_
  refine w_a f_102_6 ?_
  refine w_a f_102_9 ?_
  refine w_a f_102_10 ?_
  refine w_a f_102_13 ?_
  refine w_a f_102_14 ?_
  refine w_a f_102_15 ?_
  refine w_a f_102_18 ?_
  refine i_m (fun h => ?_) (fun h => ?_) h
  · refine w_a f_102_65 ?_
    refine w_a (ls := [(3, .int (Int32.ofInt 3)), (0, .ref 1), (1, .int (Int32.ofInt 2)), (2, .int x2)]) f_102_68 ?_
    exact w_n (ks := [0, 1, 2, 3]) rfl h
  · refine w_a f_102_21 ?_
    refine w_a f_102_22 ?_
    refine w_a f_102_25 ?_
    refine w_a f_102_26 ?_
    refine w_a f_102_27 ?_
    refine w_a f_102_28 ?_
    refine w_a f_102_31 ?_
    refine w_a f_102_32 ?_
    refine w_c (ks := [0, 1, 2, 3]) f_102_33 rfl rfl ?_
    refine w_a (ls := [(0, .ref 44), (1, .ref 44)]) f_63_0 ?_
    refine w_a f_63_1 ?_
    refine w_a f_63_4 ?_
    refine w_a f_63_5 ?_
    refine w_a f_63_8 ?_
    refine i_m (fun h => ?_) (fun h => ?_) h
    · refine w_a f_63_28 ?_
      refine w_a f_63_29 ?_
      refine w_a f_63_32 ?_
      refine w_a f_63_33 ?_
      exact w_c (ks := [0, 1]) f_63_36 rfl rfl h
    · refine w_a f_63_11 ?_
      refine w_a f_63_12 ?_
      refine w_a f_63_15 ?_
      refine w_a f_63_16 ?_
      refine w_a f_63_19 ?_
      refine i_m (fun h => ?_) (fun h => ?_) h
      · refine w_a f_63_22 ?_
        refine w_a f_63_23 ?_
        refine w_a f_63_27 ?_
        exact h
      · refine w_a f_63_26 ?_
        refine w_a f_63_27 ?_
        exact h
set_option maxRecDepth 10000 in
set_option maxHeartbeats 4000000 in
theorem s_102_36_2_2 {Lx : Nat} {I : Mi} {L : Ml} {e : Nat} {Q : Kq} {x2 : Int32} {r : Int32} (h :
    (if r = 0 then
     Wp 102 4 [(0, .ref 1), (1, .int (Int32.ofInt 2)), (2, .int x2), (3, .int (Int32.ofInt 3))] [] (gE Lx) I L e Q
    else
     Wp 102 4 [(0, .ref 1), (1, .int (Int32.ofInt 2)), (2, .int (x2 + Int32.ofInt 1)), (3, .int (Int32.ofInt 3))] [] (gE Lx) I L e Q)) :
    Wp 102 36 [(0, .ref 1), (1, .int (Int32.ofInt 2)), (2, .int x2), (3, .int (Int32.ofInt 2))] [.int r] (gE Lx) I L e Q := by
  refine w_a f_102_36 ?_
  refine i_m (fun h => ?_) (fun h => ?_) h
  · refine w_a f_102_39 ?_
    refine w_a f_102_40 ?_
    refine w_a f_102_41 ?_
    refine w_a f_102_65 ?_
    refine w_a (ls := [(3, .int (Int32.ofInt 3)), (0, .ref 1), (1, .int (Int32.ofInt 2)), (2, .int x2)]) f_102_68 ?_
    exact w_n (ks := [0, 1, 2, 3]) rfl h
  · refine w_a f_102_62 ?_
    refine w_a (ls := [(2, .int (x2 + Int32.ofInt 1)), (0, .ref 1), (1, .int (Int32.ofInt 2)), (3, .int (Int32.ofInt 2))]) f_102_65 ?_
    refine w_a (ls := [(3, .int (Int32.ofInt 3)), (2, .int (x2 + Int32.ofInt 1)), (0, .ref 1), (1, .int (Int32.ofInt 2))]) f_102_68 ?_
    exact w_n (ks := [0, 1, 2, 3]) rfl h
set_option maxRecDepth 10000 in
set_option maxHeartbeats 4000000 in
theorem s_102_59_2_2 {Lx : Nat} {I : Mi} {L : Ml} {e : Nat} {Q : Kq} {x2 : Int32} {r : Int32} (h :
    (if r = 0 then
     Wp 102 4 [(0, .ref 1), (1, .int (Int32.ofInt 2)), (2, .int (x2 + Int32.ofInt 1)), (3, .int (Int32.ofInt 3))] [] (gE Lx) I L e Q
    else
     Wp 102 4 [(0, .ref 1), (1, .int (Int32.ofInt 2)), (2, .int x2), (3, .int (Int32.ofInt 3))] [] (gE Lx) I L e Q)) :
    Wp 102 59 [(0, .ref 1), (1, .int (Int32.ofInt 2)), (2, .int x2), (3, .int (Int32.ofInt 2))] [.int r] (gE Lx) I L e Q := by
  refine w_a f_102_59 ?_
  refine i_m (fun h => ?_) (fun h => ?_) h
  · refine w_a f_102_62 ?_
    refine w_a (ls := [(2, .int (x2 + Int32.ofInt 1)), (0, .ref 1), (1, .int (Int32.ofInt 2)), (3, .int (Int32.ofInt 2))]) f_102_65 ?_
    refine w_a (ls := [(3, .int (Int32.ofInt 3)), (2, .int (x2 + Int32.ofInt 1)), (0, .ref 1), (1, .int (Int32.ofInt 2))]) f_102_68 ?_
    exact w_n (ks := [0, 1, 2, 3]) rfl h
  · refine w_a f_102_65 ?_
    refine w_a (ls := [(3, .int (Int32.ofInt 3)), (0, .ref 1), (1, .int (Int32.ofInt 2)), (2, .int x2)]) f_102_68 ?_
    exact w_n (ks := [0, 1, 2, 3]) rfl h
set_option maxRecDepth 10000 in
set_option maxHeartbeats 4000000 in
theorem s_102_4_2_3 {Lx : Nat} {I : Mi} {L : Ml} {e : Nat} {Q : Kq} {x2 : Int32} (h :
    (if (I 51 0) = 0 then
     Wp 102 4 [(0, .ref 1), (1, .int (Int32.ofInt 2)), (2, .int x2), (3, .int (Int32.ofInt 4))] [] (gE Lx) I L e Q
    else
     (if (I 51 2) = (I 44 2) then
      Wp 66 0 [(0, .ref 56), (1, .ref 49)] [] (gE Lx) I L e (kcp (Wp 63) 63 36 0 [(0, .ref 51), (1, .ref 44)] 71 [] (kcp (Wp 102) 102 33 0 [(0, .ref 1), (1, .int (Int32.ofInt 2)), (2, .int x2), (3, .int (Int32.ofInt 3))] 71 [] Q))
     else
      (if (I 44 2) < (I 51 2) then
       Wp 102 36 [(0, .ref 1), (1, .int (Int32.ofInt 2)), (2, .int x2), (3, .int (Int32.ofInt 3))] [.int (Int32.ofInt 1)] (gE Lx) I L e Q
      else
       Wp 102 36 [(0, .ref 1), (1, .int (Int32.ofInt 2)), (2, .int x2), (3, .int (Int32.ofInt 3))] [.int (Int32.ofInt 0)] (gE Lx) I L e Q)))) :
    Wp 102 4 [(0, .ref 1), (1, .int (Int32.ofInt 2)), (2, .int x2), (3, .int (Int32.ofInt 3))] [] (gE Lx) I L e Q := by
  refine w_a f_102_4 ?_
  refine w_a f_102_5 ?_
  refine w_a f_102_6 ?_
  refine w_a f_102_9 ?_
  refine w_a f_102_10 ?_
  refine w_a f_102_13 ?_
  refine w_a f_102_14 ?_
  refine w_a f_102_15 ?_
  refine w_a f_102_18 ?_
  refine i_m (fun h => ?_) (fun h => ?_) h
  · refine w_a f_102_65 ?_
    refine w_a (ls := [(3, .int (Int32.ofInt 4)), (0, .ref 1), (1, .int (Int32.ofInt 2)), (2, .int x2)]) f_102_68 ?_
    exact w_n (ks := [0, 1, 2, 3]) rfl h
  · refine w_a f_102_21 ?_
    refine w_a f_102_22 ?_
    refine w_a f_102_25 ?_
    refine w_a f_102_26 ?_
    refine w_a f_102_27 ?_
    refine w_a f_102_28 ?_
    refine w_a f_102_31 ?_
    refine w_a f_102_32 ?_
    refine w_c (ks := [0, 1, 2, 3]) f_102_33 rfl rfl ?_
    refine w_a (ls := [(0, .ref 51), (1, .ref 44)]) f_63_0 ?_
    refine w_a f_63_1 ?_
    refine w_a f_63_4 ?_
    refine w_a f_63_5 ?_
    refine w_a f_63_8 ?_
    refine i_m (fun h => ?_) (fun h => ?_) h
    · refine w_a f_63_28 ?_
      refine w_a f_63_29 ?_
      refine w_a f_63_32 ?_
      refine w_a f_63_33 ?_
      exact w_c (ks := [0, 1]) f_63_36 rfl rfl h
    · refine w_a f_63_11 ?_
      refine w_a f_63_12 ?_
      refine w_a f_63_15 ?_
      refine w_a f_63_16 ?_
      refine w_a f_63_19 ?_
      refine i_m (fun h => ?_) (fun h => ?_) h
      · refine w_a f_63_22 ?_
        refine w_a f_63_23 ?_
        refine w_a f_63_27 ?_
        exact h
      · refine w_a f_63_26 ?_
        refine w_a f_63_27 ?_
        exact h
set_option maxRecDepth 10000 in
set_option maxHeartbeats 4000000 in
theorem s_102_36_2_3 {Lx : Nat} {I : Mi} {L : Ml} {e : Nat} {Q : Kq} {x2 : Int32} {r : Int32} (h :
    (if r = 0 then
     Wp 102 4 [(0, .ref 1), (1, .int (Int32.ofInt 2)), (2, .int x2), (3, .int (Int32.ofInt 4))] [] (gE Lx) I L e Q
    else
     Wp 102 4 [(0, .ref 1), (1, .int (Int32.ofInt 2)), (2, .int (x2 + Int32.ofInt 1)), (3, .int (Int32.ofInt 4))] [] (gE Lx) I L e Q)) :
    Wp 102 36 [(0, .ref 1), (1, .int (Int32.ofInt 2)), (2, .int x2), (3, .int (Int32.ofInt 3))] [.int r] (gE Lx) I L e Q := by
  refine w_a f_102_36 ?_
  refine i_m (fun h => ?_) (fun h => ?_) h
  · refine w_a f_102_39 ?_
    refine w_a f_102_40 ?_
    refine w_a f_102_41 ?_
    refine w_a f_102_65 ?_
    refine w_a (ls := [(3, .int (Int32.ofInt 4)), (0, .ref 1), (1, .int (Int32.ofInt 2)), (2, .int x2)]) f_102_68 ?_
    exact w_n (ks := [0, 1, 2, 3]) rfl h
  · refine w_a f_102_62 ?_
    refine w_a (ls := [(2, .int (x2 + Int32.ofInt 1)), (0, .ref 1), (1, .int (Int32.ofInt 2)), (3, .int (Int32.ofInt 3))]) f_102_65 ?_
    refine w_a (ls := [(3, .int (Int32.ofInt 4)), (2, .int (x2 + Int32.ofInt 1)), (0, .ref 1), (1, .int (Int32.ofInt 2))]) f_102_68 ?_
    exact w_n (ks := [0, 1, 2, 3]) rfl h
set_option maxRecDepth 10000 in
set_option maxHeartbeats 4000000 in
theorem s_102_59_2_3 {Lx : Nat} {I : Mi} {L : Ml} {e : Nat} {Q : Kq} {x2 : Int32} {r : Int32} (h :
    (if r = 0 then
     Wp 102 4 [(0, .ref 1), (1, .int (Int32.ofInt 2)), (2, .int (x2 + Int32.ofInt 1)), (3, .int (Int32.ofInt 4))] [] (gE Lx) I L e Q
    else
     Wp 102 4 [(0, .ref 1), (1, .int (Int32.ofInt 2)), (2, .int x2), (3, .int (Int32.ofInt 4))] [] (gE Lx) I L e Q)) :
    Wp 102 59 [(0, .ref 1), (1, .int (Int32.ofInt 2)), (2, .int x2), (3, .int (Int32.ofInt 3))] [.int r] (gE Lx) I L e Q := by
  refine w_a f_102_59 ?_
  refine i_m (fun h => ?_) (fun h => ?_) h
  · refine w_a f_102_62 ?_
    refine w_a (ls := [(2, .int (x2 + Int32.ofInt 1)), (0, .ref 1), (1, .int (Int32.ofInt 2)), (3, .int (Int32.ofInt 3))]) f_102_65 ?_
    refine w_a (ls := [(3, .int (Int32.ofInt 4)), (2, .int (x2 + Int32.ofInt 1)), (0, .ref 1), (1, .int (Int32.ofInt 2))]) f_102_68 ?_
    exact w_n (ks := [0, 1, 2, 3]) rfl h
  · refine w_a f_102_65 ?_
    refine w_a (ls := [(3, .int (Int32.ofInt 4)), (0, .ref 1), (1, .int (Int32.ofInt 2)), (2, .int x2)]) f_102_68 ?_
    exact w_n (ks := [0, 1, 2, 3]) rfl h
set_option maxRecDepth 10000 in
set_option maxHeartbeats 4000000 in
theorem s_102_4_2_4 {Lx : Nat} {I : Mi} {L : Ml} {e : Nat} {Q : Kq} {x2 : Int32} (h :
    Q (.inl (some (.int x2))) (gE Lx) I L e) :
    Wp 102 4 [(0, .ref 1), (1, .int (Int32.ofInt 2)), (2, .int x2), (3, .int (Int32.ofInt 4))] [] (gE Lx) I L e Q := by
  refine w_a f_102_4 ?_
  refine w_a f_102_5 ?_
  refine w_a f_102_6 ?_
  refine w_a f_102_71 ?_
  refine w_a f_102_72 ?_
  exact h
set_option maxRecDepth 10000 in
set_option maxHeartbeats 4000000 in
theorem s_100_6_3 {Lx : Nat} {I : Mi} {L : Ml} {e : Nat} {Q : Kq} {x1 : Int32} (h :
    (if (I 51 0) = 0 then
     Wp 100 6 [(0, .ref 1), (1, .int x1), (2, .int (Int32.ofInt 4))] [] (gE Lx) I L e Q
    else
     Wp 102 0 [(0, .ref 1), (1, .int (Int32.ofInt 3))] [] (gE Lx) I L e (kcp (Wp 100) 100 25 0 [(0, .ref 1), (1, .int x1), (2, .int (Int32.ofInt 3))] 71 [] Q))) :
    Wp 100 6 [(0, .ref 1), (1, .int x1), (2, .int (Int32.ofInt 3))] [] (gE Lx) I L e Q := by
  refine w_a f_100_6 ?_
  refine w_a f_100_7 ?_
  refine w_a f_100_8 ?_
  refine w_a f_100_11 ?_
  refine w_a f_100_12 ?_
  refine w_a f_100_15 ?_
  refine w_a f_100_16 ?_
  refine w_a f_100_17 ?_
  refine w_a f_100_20 ?_
  refine i_m (fun h => ?_) (fun h => ?_) h
  · refine w_a f_100_34 ?_
    refine w_a (ls := [(2, .int (Int32.ofInt 4)), (0, .ref 1), (1, .int x1)]) f_100_37 ?_
    exact w_n (ks := [0, 1, 2]) rfl h
  · refine w_a f_100_23 ?_
    refine w_a f_100_24 ?_
    exact w_c (ks := [0, 1, 2]) f_100_25 rfl rfl h
set_option maxRecDepth 10000 in
set_option maxHeartbeats 4000000 in
theorem s_101_2_3 {Lx : Nat} {I : Mi} {L : Ml} {e : Nat} {Q : Kq} (h :
    (if (I 51 0) = 0 then
     Wp 101 62 [(0, .ref 1), (1, .int (Int32.ofInt 3))] [] (gE Lx) I L e Q
    else
     Wp 95 0 [(0, .ref 1), (1, .ref 52)] [] (gE Lx) I L e (kcp (Wp 101) 101 35 0 [(0, .ref 1), (1, .int (Int32.ofInt 3))] 71 [.ref 51] Q))) :
    Wp 101 2 [(0, .ref 1), (1, .int (Int32.ofInt 3))] [] (gE Lx) I L e Q := by
  refine w_a f_101_2 ?_
  refine w_a f_101_3 ?_
  refine w_a f_101_4 ?_
  refine w_a f_101_7 ?_
  refine w_a f_101_8 ?_
  refine w_a f_101_11 ?_
  refine w_a f_101_12 ?_
  refine w_a f_101_13 ?_
  refine w_a f_101_16 ?_
  refine i_m (fun h => ?_) (fun h => ?_) h
  · exact w_n (ks := [0, 1]) rfl h
  · refine w_a f_101_19 ?_
    refine w_a f_101_20 ?_
    refine w_a f_101_23 ?_
    refine w_a f_101_24 ?_
    refine w_a f_101_25 ?_
    refine w_a f_101_26 ?_
    refine w_a f_101_27 ?_
    refine w_a f_101_30 ?_
    refine w_a f_101_31 ?_
    refine w_a f_101_32 ?_
    exact w_c (ks := [0, 1]) f_101_35 rfl rfl h
set_option maxRecDepth 10000 in
set_option maxHeartbeats 4000000 in
theorem s_104_4_3 {Lx : Nat} {I : Mi} {L : Ml} {e : Nat} {Q : Kq} {x1 : Int32} (h :
    (if (I 51 0) = 0 then
     Wp 104 4 [(0, .ref 1), (1, .int x1), (2, .int (Int32.ofInt 4))] [] (gE Lx) I L e Q
    else
     Wp 104 4 [(0, .ref 1), (1, .int (x1 ||| (Int32.ofInt 8))), (2, .int (Int32.ofInt 4))] [] (gE Lx) I L e Q)) :
    Wp 104 4 [(0, .ref 1), (1, .int x1), (2, .int (Int32.ofInt 3))] [] (gE Lx) I L e Q := by
  refine w_a f_104_4 ?_
  refine w_a f_104_5 ?_
  refine w_a f_104_6 ?_
  refine w_a f_104_9 ?_
  refine w_a f_104_10 ?_
  refine w_a f_104_13 ?_
  refine w_a f_104_14 ?_
  refine w_a f_104_15 ?_
  refine w_a f_104_18 ?_
  refine i_m (fun h => ?_) (fun h => ?_) h
  · refine w_a f_104_27 ?_
    refine w_a (ls := [(2, .int (Int32.ofInt 4)), (0, .ref 1), (1, .int x1)]) f_104_30 ?_
    exact w_n (ks := [0, 1, 2]) rfl h
  · refine w_a f_104_21 ?_
    refine w_a f_104_22 ?_
    refine w_a f_104_23 ?_
    refine w_a f_104_24 ?_
    refine w_a f_104_25 ?_
    refine w_a f_104_26 ?_
    refine w_a (ls := [(1, .int (x1 ||| (Int32.ofInt 8))), (0, .ref 1), (2, .int (Int32.ofInt 3))]) f_104_27 ?_
    refine w_a (ls := [(2, .int (Int32.ofInt 4)), (1, .int (x1 ||| (Int32.ofInt 8))), (0, .ref 1)]) f_104_30 ?_
    exact w_n (ks := [0, 1, 2]) rfl h
set_option maxRecDepth 10000 in
set_option maxHeartbeats 4000000 in
theorem s_101_38_3 {Lx : Nat} {I : Mi} {L : Ml} {e : Nat} {Q : Kq} {r : Int32} (h :
    Wp 65 0 [(0, .ref 56), (1, .ref 52)] [] (gE Lx) (ui I 51 2 r) L e (kcp (Wp 101) 101 59 0 [(0, .ref 1), (1, .int (Int32.ofInt 3))] 71 [] Q)) :
    Wp 101 38 [(0, .ref 1), (1, .int (Int32.ofInt 3))] [.int r, .ref 51] (gE Lx) I L e Q := by
  refine w_a f_101_38 ?_
  refine w_a f_101_41 ?_
  refine w_a f_101_42 ?_
  refine w_a f_101_45 ?_
  refine w_a f_101_46 ?_
  refine w_a f_101_47 ?_
  refine w_a f_101_50 ?_
  refine w_a f_101_51 ?_
  refine w_a f_101_54 ?_
  refine w_a f_101_55 ?_
  refine w_a f_101_56 ?_
  exact w_c (ks := [0, 1]) f_101_59 rfl rfl h
set_option maxRecDepth 10000 in
set_option maxHeartbeats 4000000 in
theorem s_100_28_3 {Lx : Nat} {I : Mi} {L : Ml} {e : Nat} {Q : Kq} {x1 : Int32} {r : Int32} (h :
    (if r = x1 then
     Q (.inl (some (.int (Int32.ofInt 3)))) (gE Lx) I L e
    else
     Wp 100 6 [(0, .ref 1), (1, .int x1), (2, .int (Int32.ofInt 4))] [] (gE Lx) I L e Q)) :
    Wp 100 28 [(0, .ref 1), (1, .int x1), (2, .int (Int32.ofInt 3))] [.int r] (gE Lx) I L e Q := by
  refine w_a f_100_28 ?_
  refine w_a f_100_29 ?_
  refine i_m (fun h => ?_) (fun h => ?_) h
  · refine w_a f_100_32 ?_
    refine w_a f_100_33 ?_
    exact h
  · refine w_a f_100_34 ?_
    refine w_a (ls := [(2, .int (Int32.ofInt 4)), (0, .ref 1), (1, .int x1)]) f_100_37 ?_
    exact w_n (ks := [0, 1, 2]) rfl h
set_option maxRecDepth 10000 in
set_option maxHeartbeats 4000000 in
theorem s_101_62_3 {Lx : Nat} {I : Mi} {L : Ml} {e : Nat} {Q : Kq} (h :
    Wp 101 2 [(0, .ref 1), (1, .int (Int32.ofInt 4))] [] (gE Lx) I L e Q) :
    Wp 101 62 [(0, .ref 1), (1, .int (Int32.ofInt 3))] [] (gE Lx) I L e Q := by
  refine w_a f_101_62 ?_
  refine w_a (ls := [(1, .int (Int32.ofInt 4)), (0, .ref 1)]) f_101_65 ?_
  exact w_n (ks := [0, 1]) rfl h
set_option maxRecDepth 10000 in
set_option maxHeartbeats 4000000 in
theorem s_102_4_3_0 {Lx : Nat} {I : Mi} {L : Ml} {e : Nat} {Q : Kq} {x2 : Int32} (h :
    (if (I 30 0) = 0 then
     Wp 102 4 [(0, .ref 1), (1, .int (Int32.ofInt 3)), (2, .int x2), (3, .int (Int32.ofInt 1))] [] (gE Lx) I L e Q
    else
     (if (I 30 2) = (I 51 2) then
      Wp 66 0 [(0, .ref 35), (1, .ref 56)] [] (gE Lx) I L e (kcp (Wp 63) 63 36 0 [(0, .ref 30), (1, .ref 51)] 71 [] (kcp (Wp 102) 102 33 0 [(0, .ref 1), (1, .int (Int32.ofInt 3)), (2, .int x2), (3, .int (Int32.ofInt 0))] 71 [] Q))
     else
      (if (I 51 2) < (I 30 2) then
       Wp 102 36 [(0, .ref 1), (1, .int (Int32.ofInt 3)), (2, .int x2), (3, .int (Int32.ofInt 0))] [.int (Int32.ofInt 1)] (gE Lx) I L e Q
      else
       Wp 102 36 [(0, .ref 1), (1, .int (Int32.ofInt 3)), (2, .int x2), (3, .int (Int32.ofInt 0))] [.int (Int32.ofInt 0)] (gE Lx) I L e Q)))) :
    Wp 102 4 [(0, .ref 1), (1, .int (Int32.ofInt 3)), (2, .int x2), (3, .int (Int32.ofInt 0))] [] (gE Lx) I L e Q := by
  refine w_a f_102_4 ?_
  refine w_a f_102_5 ?_
  refine w_a f_102_6 ?_
  refine w_a f_102_9 ?_
  refine w_a f_102_10 ?_
  refine w_a f_102_13 ?_
  refine w_a f_102_14 ?_
  refine w_a f_102_15 ?_
  refine w_a f_102_18 ?_
  refine i_m (fun h => ?_) (fun h => ?_) h
  · refine w_a f_102_65 ?_
    refine w_a (ls := [(3, .int (Int32.ofInt 1)), (0, .ref 1), (1, .int (Int32.ofInt 3)), (2, .int x2)]) f_102_68 ?_
    exact w_n (ks := [0, 1, 2, 3]) rfl h
  · refine w_a f_102_21 ?_
    refine w_a f_102_22 ?_
    refine w_a f_102_25 ?_
    refine w_a f_102_26 ?_
    refine w_a f_102_27 ?_
    refine w_a f_102_28 ?_
    refine w_a f_102_31 ?_
    refine w_a f_102_32 ?_
    refine w_c (ks := [0, 1, 2, 3]) f_102_33 rfl rfl ?_
    refine w_a (ls := [(0, .ref 30), (1, .ref 51)]) f_63_0 ?_
    refine w_a f_63_1 ?_
    refine w_a f_63_4 ?_
    refine w_a f_63_5 ?_
    refine w_a f_63_8 ?_
    refine i_m (fun h => ?_) (fun h => ?_) h
    · refine w_a f_63_28 ?_
      refine w_a f_63_29 ?_
      refine w_a f_63_32 ?_
      refine w_a f_63_33 ?_
      exact w_c (ks := [0, 1]) f_63_36 rfl rfl h
    · refine w_a f_63_11 ?_
      refine w_a f_63_12 ?_
      refine w_a f_63_15 ?_
      refine w_a f_63_16 ?_
      refine w_a f_63_19 ?_
      refine i_m (fun h => ?_) (fun h => ?_) h
      · refine w_a f_63_22 ?_
        refine w_a f_63_23 ?_
        refine w_a f_63_27 ?_
        exact h
      · refine w_a f_63_26 ?_
        refine w_a f_63_27 ?_
        exact h
set_option maxRecDepth 10000 in
set_option maxHeartbeats 4000000 in
theorem s_102_36_3_0 {Lx : Nat} {I : Mi} {L : Ml} {e : Nat} {Q : Kq} {x2 : Int32} {r : Int32} (h :
    (if r = 0 then
     (if (I 51 2) = (I 30 2) then
      Wp 66 0 [(0, .ref 56), (1, .ref 35)] [] (gE Lx) I L e (kcp (Wp 63) 63 36 0 [(0, .ref 51), (1, .ref 30)] 71 [] (kcp (Wp 102) 102 56 0 [(0, .ref 1), (1, .int (Int32.ofInt 3)), (2, .int x2), (3, .int (Int32.ofInt 0))] 71 [] Q))
     else
      (if (I 30 2) < (I 51 2) then
       Wp 102 59 [(0, .ref 1), (1, .int (Int32.ofInt 3)), (2, .int x2), (3, .int (Int32.ofInt 0))] [.int (Int32.ofInt 1)] (gE Lx) I L e Q
      else
       Wp 102 59 [(0, .ref 1), (1, .int (Int32.ofInt 3)), (2, .int x2), (3, .int (Int32.ofInt 0))] [.int (Int32.ofInt 0)] (gE Lx) I L e Q))
    else
     Wp 102 4 [(0, .ref 1), (1, .int (Int32.ofInt 3)), (2, .int (x2 + Int32.ofInt 1)), (3, .int (Int32.ofInt 1))] [] (gE Lx) I L e Q)) :
    Wp 102 36 [(0, .ref 1), (1, .int (Int32.ofInt 3)), (2, .int x2), (3, .int (Int32.ofInt 0))] [.int r] (gE Lx) I L e Q := by
  refine w_a f_102_36 ?_
  refine i_m (fun h => ?_) (fun h => ?_) h
  · refine w_a f_102_39 ?_
    refine w_a f_102_40 ?_
    refine w_a f_102_41 ?_
    refine w_a f_102_44 ?_
    refine w_a f_102_45 ?_
    refine w_a f_102_48 ?_
    refine w_a f_102_49 ?_
    refine w_a f_102_50 ?_
    refine w_a f_102_51 ?_
    refine w_a f_102_54 ?_
    refine w_a f_102_55 ?_
    refine w_c (ks := [0, 1, 2, 3]) f_102_56 rfl rfl ?_
    refine w_a (ls := [(0, .ref 51), (1, .ref 30)]) f_63_0 ?_
    refine w_a f_63_1 ?_
    refine w_a f_63_4 ?_
    refine w_a f_63_5 ?_
    refine w_a f_63_8 ?_
    refine i_m (fun h => ?_) (fun h => ?_) h
    · refine w_a f_63_28 ?_
      refine w_a f_63_29 ?_
      refine w_a f_63_32 ?_
      refine w_a f_63_33 ?_
      exact w_c (ks := [0, 1]) f_63_36 rfl rfl h
    · refine w_a f_63_11 ?_
      refine w_a f_63_12 ?_
      refine w_a f_63_15 ?_
      refine w_a f_63_16 ?_
      refine w_a f_63_19 ?_
      refine i_m (fun h => ?_) (fun h => ?_) h
      · refine w_a f_63_22 ?_
        refine w_a f_63_23 ?_
        refine w_a f_63_27 ?_
        exact h
      · refine w_a f_63_26 ?_
        refine w_a f_63_27 ?_
        exact h
  · refine w_a f_102_62 ?_
    refine w_a (ls := [(2, .int (x2 + Int32.ofInt 1)), (0, .ref 1), (1, .int (Int32.ofInt 3)), (3, .int (Int32.ofInt 0))]) f_102_65 ?_
    refine w_a (ls := [(3, .int (Int32.ofInt 1)), (2, .int (x2 + Int32.ofInt 1)), (0, .ref 1), (1, .int (Int32.ofInt 3))]) f_102_68 ?_
    exact w_n (ks := [0, 1, 2, 3]) rfl h
set_option maxRecDepth 10000 in
set_option maxHeartbeats 4000000 in
theorem s_102_59_3_0 {Lx : Nat} {I : Mi} {L : Ml} {e : Nat} {Q : Kq} {x2 : Int32} {r : Int32} (h :
    (if r = 0 then
     Wp 102 4 [(0, .ref 1), (1, .int (Int32.ofInt 3)), (2, .int (x2 + Int32.ofInt 1)), (3, .int (Int32.ofInt 1))] [] (gE Lx) I L e Q
    else
     Wp 102 4 [(0, .ref 1), (1, .int (Int32.ofInt 3)), (2, .int x2), (3, .int (Int32.ofInt 1))] [] (gE Lx) I L e Q)) :
    Wp 102 59 [(0, .ref 1), (1, .int (Int32.ofInt 3)), (2, .int x2), (3, .int (Int32.ofInt 0))] [.int r] (gE Lx) I L e Q := by
  refine w_a f_102_59 ?_
  refine i_m (fun h => ?_) (fun h => ?_) h
  · refine w_a f_102_62 ?_
    refine w_a (ls := [(2, .int (x2 + Int32.ofInt 1)), (0, .ref 1), (1, .int (Int32.ofInt 3)), (3, .int (Int32.ofInt 0))]) f_102_65 ?_
    refine w_a (ls := [(3, .int (Int32.ofInt 1)), (2, .int (x2 + Int32.ofInt 1)), (0, .ref 1), (1, .int (Int32.ofInt 3))]) f_102_68 ?_
    exact w_n (ks := [0, 1, 2, 3]) rfl h
  · refine w_a f_102_65 ?_
    refine w_a (ls := [(3, .int (Int32.ofInt 1)), (0, .ref 1), (1, .int (Int32.ofInt 3)), (2, .int x2)]) f_102_68 ?_
    exact w_n (ks := [0, 1, 2, 3]) rfl h
set_option maxRecDepth 10000 in
set_option maxHeartbeats 4000000 in
theorem s_102_4_3_1 {Lx : Nat} {I : Mi} {L : Ml} {e : Nat} {Q : Kq} {x2 : Int32} (h :
    (if (I 37 0) = 0 then
     Wp 102 4 [(0, .ref 1), (1, .int (Int32.ofInt 3)), (2, .int x2), (3, .int (Int32.ofInt 2))] [] (gE Lx) I L e Q
    else
     (if (I 37 2) = (I 51 2) then
      Wp 66 0 [(0, .ref 42), (1, .ref 56)] [] (gE Lx) I L e (kcp (Wp 63) 63 36 0 [(0, .ref 37), (1, .ref 51)] 71 [] (kcp (Wp 102) 102 33 0 [(0, .ref 1), (1, .int (Int32.ofInt 3)), (2, .int x2), (3, .int (Int32.ofInt 1))] 71 [] Q))
     else
      (if (I 51 2) < (I 37 2) then
       Wp 102 36 [(0, .ref 1), (1, .int (Int32.ofInt 3)), (2, .int x2), (3, .int (Int32.ofInt 1))] [.int (Int32.ofInt 1)] (gE Lx) I L e Q
      else
       Wp 102 36 [(0, .ref 1), (1, .int (Int32.ofInt 3)), (2, .int x2), (3, .int (Int32.ofInt 1))] [.int (Int32.ofInt 0)] (gE Lx) I L e Q)))) :
    Wp 102 4 [(0, .ref 1), (1, .int (Int32.ofInt 3)), (2, .int x2), (3, .int (Int32.ofInt 1))] [] (gE Lx) I L e Q := by
  refine w_a f_102_4 ?_
  refine w_a f_102_5 ?_
  refine w_a f_102_6 ?_
  refine w_a f_102_9 ?_
  refine w_a f_102_10 ?_
  refine w_a f_102_13 ?_
  refine w_a f_102_14 ?_
  refine w_a f_102_15 ?_
  refine w_a f_102_18 ?_
  refine i_m (fun h => ?_) (fun h => ?_) h
  · refine w_a f_102_65 ?_
    refine w_a (ls := [(3, .int (Int32.ofInt 2)), (0, .ref 1), (1, .int (Int32.ofInt 3)), (2, .int x2)]) f_102_68 ?_
    exact w_n (ks := [0, 1, 2, 3]) rfl h
  · refine w_a f_102_21 ?_
    refine w_a f_102_22 ?_
    refine w_a f_102_25 ?_
    refine w_a f_102_26 ?_
    refine w_a f_102_27 ?_
    refine w_a f_102_28 ?_
    refine w_a f_102_31 ?_
    refine w_a f_102_32 ?_
    refine w_c (ks := [0, 1, 2, 3]) f_102_33 rfl rfl ?_
    refine w_a (ls := [(0, .ref 37), (1, .ref 51)]) f_63_0 ?_
    refine w_a f_63_1 ?_
    refine w_a f_63_4 ?_
    refine w_a f_63_5 ?_
    refine w_a f_63_8 ?_
    refine i_m (fun h => ?_) (fun h => ?_) h
    · refine w_a f_63_28 ?_
      refine w_a f_63_29 ?_
      refine w_a f_63_32 ?_
      refine w_a f_63_33 ?_
      exact w_c (ks := [0, 1]) f_63_36 rfl rfl h
    · refine w_a f_63_11 ?_
      refine w_a f_63_12 ?_
      refine w_a f_63_15 ?_
      refine w_a f_63_16 ?_
      refine w_a f_63_19 ?_
      refine i_m (fun h => ?_) (fun h => ?_) h
      · refine w_a f_63_22 ?_
        refine w_a f_63_23 ?_
        refine w_a f_63_27 ?_
        exact h
      · refine w_a f_63_26 ?_
        refine w_a f_63_27 ?_
        exact h
set_option maxRecDepth 10000 in
set_option maxHeartbeats 4000000 in
theorem s_102_36_3_1 {Lx : Nat} {I : Mi} {L : Ml} {e : Nat} {Q : Kq} {x2 : Int32} {r : Int32} (h :
    (if r = 0 then
     (if (I 51 2) = (I 37 2) then
      Wp 66 0 [(0, .ref 56), (1, .ref 42)] [] (gE Lx) I L e (kcp (Wp 63) 63 36 0 [(0, .ref 51), (1, .ref 37)] 71 [] (kcp (Wp 102) 102 56 0 [(0, .ref 1), (1, .int (Int32.ofInt 3)), (2, .int x2), (3, .int (Int32.ofInt 1))] 71 [] Q))
     else
      (if (I 37 2) < (I 51 2) then
       Wp 102 59 [(0, .ref 1), (1, .int (Int32.ofInt 3)), (2, .int x2), (3, .int (Int32.ofInt 1))] [.int (Int32.ofInt 1)] (gE Lx) I L e Q
      else
       Wp 102 59 [(0, .ref 1), (1, .int (Int32.ofInt 3)), (2, .int x2), (3, .int (Int32.ofInt 1))] [.int (Int32.ofInt 0)] (gE Lx) I L e Q))
    else
     Wp 102 4 [(0, .ref 1), (1, .int (Int32.ofInt 3)), (2, .int (x2 + Int32.ofInt 1)), (3, .int (Int32.ofInt 2))] [] (gE Lx) I L e Q)) :
    Wp 102 36 [(0, .ref 1), (1, .int (Int32.ofInt 3)), (2, .int x2), (3, .int (Int32.ofInt 1))] [.int r] (gE Lx) I L e Q := by
  refine w_a f_102_36 ?_
  refine i_m (fun h => ?_) (fun h => ?_) h
  · refine w_a f_102_39 ?_
    refine w_a f_102_40 ?_
    refine w_a f_102_41 ?_
    refine w_a f_102_44 ?_
    refine w_a f_102_45 ?_
    refine w_a f_102_48 ?_
    refine w_a f_102_49 ?_
    refine w_a f_102_50 ?_
    refine w_a f_102_51 ?_
    refine w_a f_102_54 ?_
    refine w_a f_102_55 ?_
    refine w_c (ks := [0, 1, 2, 3]) f_102_56 rfl rfl ?_
    refine w_a (ls := [(0, .ref 51), (1, .ref 37)]) f_63_0 ?_
    refine w_a f_63_1 ?_
    refine w_a f_63_4 ?_
    refine w_a f_63_5 ?_
    refine w_a f_63_8 ?_
    refine i_m (fun h => ?_) (fun h => ?_) h
    · refine w_a f_63_28 ?_
      refine w_a f_63_29 ?_
      refine w_a f_63_32 ?_
      refine w_a f_63_33 ?_
      exact w_c (ks := [0, 1]) f_63_36 rfl rfl h
    · refine w_a f_63_11 ?_
      refine w_a f_63_12 ?_
      refine w_a f_63_15 ?_
      refine w_a f_63_16 ?_
      refine w_a f_63_19 ?_
      refine i_m (fun h => ?_) (fun h => ?_) h
      · refine w_a f_63_22 ?_
        refine w_a f_63_23 ?_
        refine w_a f_63_27 ?_
        exact h
      · refine w_a f_63_26 ?_
        refine w_a f_63_27 ?_
        exact h
  · refine w_a f_102_62 ?_
    refine w_a (ls := [(2, .int (x2 + Int32.ofInt 1)), (0, .ref 1), (1, .int (Int32.ofInt 3)), (3, .int (Int32.ofInt 1))]) f_102_65 ?_
    refine w_a (ls := [(3, .int (Int32.ofInt 2)), (2, .int (x2 + Int32.ofInt 1)), (0, .ref 1), (1, .int (Int32.ofInt 3))]) f_102_68 ?_
    exact w_n (ks := [0, 1, 2, 3]) rfl h
set_option maxRecDepth 10000 in
set_option maxHeartbeats 4000000 in
theorem s_102_59_3_1 {Lx : Nat} {I : Mi} {L : Ml} {e : Nat} {Q : Kq} {x2 : Int32} {r : Int32} (h :
    (if r = 0 then
     Wp 102 4 [(0, .ref 1), (1, .int (Int32.ofInt 3)), (2, .int (x2 + Int32.ofInt 1)), (3, .int (Int32.ofInt 2))] [] (gE Lx) I L e Q
    else
     Wp 102 4 [(0, .ref 1), (1, .int (Int32.ofInt 3)), (2, .int x2), (3, .int (Int32.ofInt 2))] [] (gE Lx) I L e Q)) :
    Wp 102 59 [(0, .ref 1), (1, .int (Int32.ofInt 3)), (2, .int x2), (3, .int (Int32.ofInt 1))] [.int r] (gE Lx) I L e Q := by
  refine w_a f_102_59 ?_
  refine i_m (fun h => ?_) (fun h => ?_) h
  · refine w_a f_102_62 ?_
    refine w_a (ls := [(2, .int (x2 + Int32.ofInt 1)), (0, .ref 1), (1, .int (Int32.ofInt 3)), (3, .int (Int32.ofInt 1))]) f_102_65 ?_
    refine w_a (ls := [(3, .int (Int32.ofInt 2)), (2, .int (x2 + Int32.ofInt 1)), (0, .ref 1), (1, .int (Int32.ofInt 3))]) f_102_68 ?_
    exact w_n (ks := [0, 1, 2, 3]) rfl h
  · refine w_a f_102_65 ?_
    refine w_a (ls := [(3, .int (Int32.ofInt 2)), (0, .ref 1), (1, .int (Int32.ofInt 3)), (2, .int x2)]) f_102_68 ?_
    exact w_n (ks := [0, 1, 2, 3]) rfl h
set_option maxRecDepth 10000 in
set_option maxHeartbeats 4000000 in
theorem s_102_4_3_2 {Lx : Nat} {I : Mi} {L : Ml} {e : Nat} {Q : Kq} {x2 : Int32} (h :
    (if (I 44 0) = 0 then
     Wp 102 4 [(0, .ref 1), (1, .int (Int32.ofInt 3)), (2, .int x2), (3, .int (Int32.ofInt 3))] [] (gE Lx) I L e Q
    else
     (if (I 44 2) = (I 51 2) then
      Wp 66 0 [(0, .ref 49), (1, .ref 56)] [] (gE Lx) I L e (kcp (Wp 63) 63 36 0 [(0, .ref 44), (1, .ref 51)] 71 [] (kcp (Wp 102) 102 33 0 [(0, .ref 1), (1, .int (Int32.ofInt 3)), (2, .int x2), (3, .int (Int32.ofInt 2))] 71 [] Q))
     else
      (if (I 51 2) < (I 44 2) then
       Wp 102 36 [(0, .ref 1), (1, .int (Int32.ofInt 3)), (2, .int x2), (3, .int (Int32.ofInt 2))] [.int (Int32.ofInt 1)] (gE Lx) I L e Q
      else
       Wp 102 36 [(0, .ref 1), (1, .int (Int32.ofInt 3)), (2, .int x2), (3, .int (Int32.ofInt 2))] [.int (Int32.ofInt 0)] (gE Lx) I L e Q)))) :
    Wp 102 4 [(0, .ref 1), (1, .int (Int32.ofInt 3)), (2, .int x2), (3, .int (Int32.ofInt 2))] [] (gE Lx) I L e Q := by
  refine w_a f_102_4 ?_
  refine w_a f_102_5 ?_
  refine w_a f_102_6 ?_
  refine w_a f_102_9 ?_
  refine w_a f_102_10 ?_
  refine w_a f_102_13 ?_
  refine w_a f_102_14 ?_
  refine w_a f_102_15 ?_
  refine w_a f_102_18 ?_
  refine i_m (fun h => ?_) (fun h => ?_) h
  · refine w_a f_102_65 ?_
    refine w_a (ls := [(3, .int (Int32.ofInt 3)), (0, .ref 1), (1, .int (Int32.ofInt 3)), (2, .int x2)]) f_102_68 ?_
    exact w_n (ks := [0, 1, 2, 3]) rfl h
  · refine w_a f_102_21 ?_
    refine w_a f_102_22 ?_
    refine w_a f_102_25 ?_
    refine w_a f_102_26 ?_
    refine w_a f_102_27 ?_
    refine w_a f_102_28 ?_
    refine w_a f_102_31 ?_
    refine w_a f_102_32 ?_
    refine w_c (ks := [0, 1, 2, 3]) f_102_33 rfl rfl ?_
    refine w_a (ls := [(0, .ref 44), (1, .ref 51)]) f_63_0 ?_
    refine w_a f_63_1 ?_
    refine w_a f_63_4 ?_
    refine w_a f_63_5 ?_
    refine w_a f_63_8 ?_
    refine i_m (fun h => ?_) (fun h => ?_) h
    · refine w_a f_63_28 ?_
      refine w_a f_63_29 ?_
      refine w_a f_63_32 ?_
      refine w_a f_63_33 ?_
      exact w_c (ks := [0, 1]) f_63_36 rfl rfl h
    · refine w_a f_63_11 ?_
      refine w_a f_63_12 ?_
      refine w_a f_63_15 ?_
      refine w_a f_63_16 ?_
      refine w_a f_63_19 ?_
      refine i_m (fun h => ?_) (fun h => ?_) h
      · refine w_a f_63_22 ?_
        refine w_a f_63_23 ?_
        refine w_a f_63_27 ?_
        exact h
      · refine w_a f_63_26 ?_
        refine w_a f_63_27 ?_
        exact h
set_option maxRecDepth 10000 in
set_option maxHeartbeats 4000000 in
theorem s_102_36_3_2 {Lx : Nat} {I : Mi} {L : Ml} {e : Nat} {Q : Kq} {x2 : Int32} {r : Int32} (h :
    (if r = 0 then
     (if (I 51 2) = (I 44 2) then
      Wp 66 0 [(0, .ref 56), (1, .ref 49)] [] (gE Lx) I L e (kcp (Wp 63) 63 36 0 [(0, .ref 51), (1, .ref 44)] 71 [] (kcp (Wp 102) 102 56 0 [(0, .ref 1), (1, .int (Int32.ofInt 3)), (2, .int x2), (3, .int (Int32.ofInt 2))] 71 [] Q))
     else
      (if (I 44 2) < (I 51 2) then
       Wp 102 59 [(0, .ref 1), (1, .int (Int32.ofInt 3)), (2, .int x2), (3, .int (Int32.ofInt 2))] [.int (Int32.ofInt 1)] (gE Lx) I L e Q
      else
       Wp 102 59 [(0, .ref 1), (1, .int (Int32.ofInt 3)), (2, .int x2), (3, .int (Int32.ofInt 2))] [.int (Int32.ofInt 0)] (gE Lx) I L e Q))
    else
     Wp 102 4 [(0, .ref 1), (1, .int (Int32.ofInt 3)), (2, .int (x2 + Int32.ofInt 1)), (3, .int (Int32.ofInt 3))] [] (gE Lx) I L e Q)) :
    Wp 102 36 [(0, .ref 1), (1, .int (Int32.ofInt 3)), (2, .int x2), (3, .int (Int32.ofInt 2))] [.int r] (gE Lx) I L e Q := by
  refine w_a f_102_36 ?_
  refine i_m (fun h => ?_) (fun h => ?_) h
  · refine w_a f_102_39 ?_
    refine w_a f_102_40 ?_
    refine w_a f_102_41 ?_
    refine w_a f_102_44 ?_
    refine w_a f_102_45 ?_
    refine w_a f_102_48 ?_
    refine w_a f_102_49 ?_
    refine w_a f_102_50 ?_
    refine w_a f_102_51 ?_
    refine w_a f_102_54 ?_
    refine w_a f_102_55 ?_
    refine w_c (ks := [0, 1, 2, 3]) f_102_56 rfl rfl ?_
    refine w_a (ls := [(0, .ref 51), (1, .ref 44)]) f_63_0 ?_
    refine w_a f_63_1 ?_
    refine w_a f_63_4 ?_
    refine w_a f_63_5 ?_
    refine w_a f_63_8 ?_
    refine i_m (fun h => ?_) (fun h => ?_) h
    · refine w_a f_63_28 ?_
      refine w_a f_63_29 ?_
      refine w_a f_63_32 ?_
      refine w_a f_63_33 ?_
      exact w_c (ks := [0, 1]) f_63_36 rfl rfl h
    · refine w_a f_63_11 ?_
      refine w_a f_63_12 ?_
      refine w_a f_63_15 ?_
      refine w_a f_63_16 ?_
      refine w_a f_63_19 ?_
      refine i_m (fun h => ?_) (fun h => ?_) h
      · refine w_a f_63_22 ?_
        refine w_a f_63_23 ?_
        refine w_a f_63_27 ?_
        exact h
      · refine w_a f_63_26 ?_
        refine w_a f_63_27 ?_
        exact h
  · refine w_a f_102_62 ?_
    refine w_a (ls := [(2, .int (x2 + Int32.ofInt 1)), (0, .ref 1), (1, .int (Int32.ofInt 3)), (3, .int (Int32.ofInt 2))]) f_102_65 ?_
    refine w_a (ls := [(3, .int (Int32.ofInt 3)), (2, .int (x2 + Int32.ofInt 1)), (0, .ref 1), (1, .int (Int32.ofInt 3))]) f_102_68 ?_
    exact w_n (ks := [0, 1, 2, 3]) rfl h
set_option maxRecDepth 10000 in
set_option maxHeartbeats 4000000 in
theorem s_102_59_3_2 {Lx : Nat} {I : Mi} {L : Ml} {e : Nat} {Q : Kq} {x2 : Int32} {r : Int32} (h :
    (if r = 0 then
     Wp 102 4 [(0, .ref 1), (1, .int (Int32.ofInt 3)), (2, .int (x2 + Int32.ofInt 1)), (3, .int (Int32.ofInt 3))] [] (gE Lx) I L e Q
    else
     Wp 102 4 [(0, .ref 1), (1, .int (Int32.ofInt 3)), (2, .int x2), (3, .int (Int32.ofInt 3))] [] (gE Lx) I L e Q)) :
    Wp 102 59 [(0, .ref 1), (1, .int (Int32.ofInt 3)), (2, .int x2), (3, .int (Int32.ofInt 2))] [.int r] (gE Lx) I L e Q := by
  refine w_a f_102_59 ?_
  refine i_m (fun h => ?_) (fun h => ?_) h
  · refine w_a f_102_62 ?_
    refine w_a (ls := [(2, .int (x2 + Int32.ofInt 1)), (0, .ref 1), (1, .int (Int32.ofInt 3)), (3, .int (Int32.ofInt 2))]) f_102_65 ?_
    refine w_a (ls := [(3, .int (Int32.ofInt 3)), (2, .int (x2 + Int32.ofInt 1)), (0, .ref 1), (1, .int (Int32.ofInt 3))]) f_102_68 ?_
    exact w_n (ks := [0, 1, 2, 3]) rfl h
  · refine w_a f_102_65 ?_
    refine w_a (ls := [(3, .int (Int32.ofInt 3)), (0, .ref 1), (1, .int (Int32.ofInt 3)), (2, .int x2)]) f_102_68 ?_
    exact w_n (ks := [0, 1, 2, 3]) rfl h
set_option maxRecDepth 10000 in
set_option maxHeartbeats 4000000 in
theorem s_102_4_3_3 {Lx : Nat} {I : Mi} {L : Ml} {e : Nat} {Q : Kq} {x2 : Int32} (h :
    (if (I 51 0) = 0 then
     Wp 102 4 [(0, .ref 1), (1, .int (Int32.ofInt 3)), (2, .int x2), (3, .int (Int32.ofInt 4))] [] (gE Lx) I L e Q
    else
     (if (I 51 2) = (I 51 2) then
      Wp 66 0 [(0, .ref 56), (1, .ref 56)] [] (gE Lx) I L e (kcp (Wp 63) 63 36 0 [(0, .ref 51), (1, .ref 51)] 71 [] (kcp (Wp 102) 102 33 0 [(0, .ref 1), (1, .int (Int32.ofInt 3)), (2, .int x2), (3, .int (Int32.ofInt 3))] 71 [] Q))
     else
      (if (I 51 2) < (I 51 2) then
       Wp 102 36 [(0, .ref 1), (1, .int (Int32.ofInt 3)), (2, .int x2), (3, .int (Int32.ofInt 3))] [.int (Int32.ofInt 1)] (gE Lx) I L e Q
      else
       Wp 102 36 [(0, .ref 1), (1, .int (Int32.ofInt 3)), (2, .int x2), (3, .int (Int32.ofInt 3))] [.int (Int32.ofInt 0)] (gE Lx) I L e Q)))) :
    Wp 102 4 [(0, .ref 1), (1, .int (Int32.ofInt 3)), (2, .int x2), (3, .int (Int32.ofInt 3))] [] (gE Lx) I L e Q := by
  refine w_a f_102_4 ?_
  refine w_a f_102_5 ?_
  refine w_a f_102_6 ?_
  refine w_a f_102_9 ?_
  refine w_a f_102_10 ?_
  refine w_a f_102_13 ?_
  refine w_a f_102_14 ?_
  refine w_a f_102_15 ?_
  refine w_a f_102_18 ?_
  refine i_m (fun h => ?_) (fun h => ?_) h
  · refine w_a f_102_65 ?_
    refine w_a (ls := [(3, .int (Int32.ofInt 4)), (0, .ref 1), (1, .int (Int32.ofInt 3)), (2, .int x2)]) f_102_68 ?_
    exact w_n (ks := [0, 1, 2, 3]) rfl h
  · refine w_a f_102_21 ?_
    refine w_a f_102_22 ?_
    refine w_a f_102_25 ?_
    refine w_a f_102_26 ?_
    refine w_a f_102_27 ?_
    refine w_a f_102_28 ?_
    refine w_a f_102_31 ?_
    refine w_a f_102_32 ?_
    refine w_c (ks := [0, 1, 2, 3]) f_102_33 rfl rfl ?_
    refine w_a (ls := [(0, .ref 51), (1, .ref 51)]) f_63_0 ?_
    refine w_a f_63_1 ?_
    refine w_a f_63_4 ?_
    refine w_a f_63_5 ?_
    refine w_a f_63_8 ?_
    refine i_m (fun h => ?_) (fun h => ?_) h
    · refine w_a f_63_28 ?_
      refine w_a f_63_29 ?_
      refine w_a f_63_32 ?_
      refine w_a f_63_33 ?_
      exact w_c (ks := [0, 1]) f_63_36 rfl rfl h
    · refine w_a f_63_11 ?_
      refine w_a f_63_12 ?_
      refine w_a f_63_15 ?_
      refine w_a f_63_16 ?_
      refine w_a f_63_19 ?_
      refine i_m (fun h => ?_) (fun h => ?_) h
      · refine w_a f_63_22 ?_
        refine w_a f_63_23 ?_
        refine w_a f_63_27 ?_
        exact h
      · refine w_a f_63_26 ?_
        refine w_a f_63_27 ?_
        exact h
set_option maxRecDepth 10000 in
set_option maxHeartbeats 4000000 in
theorem s_102_36_3_3 {Lx : Nat} {I : Mi} {L : Ml} {e : Nat} {Q : Kq} {x2 : Int32} {r : Int32} (h :
    (if r = 0 then
     Wp 102 4 [(0, .ref 1), (1, .int (Int32.ofInt 3)), (2, .int x2), (3, .int (Int32.ofInt 4))] [] (gE Lx) I L e Q
    else
     Wp 102 4 [(0, .ref 1), (1, .int (Int32.ofInt 3)), (2, .int (x2 + Int32.ofInt 1)), (3, .int (Int32.ofInt 4))] [] (gE Lx) I L e Q)) :
    Wp 102 36 [(0, .ref 1), (1, .int (Int32.ofInt 3)), (2, .int x2), (3, .int (Int32.ofInt 3))] [.int r] (gE Lx) I L e Q := by
  refine w_a f_102_36 ?_
  refine i_m (fun h => ?_) (fun h => ?_) h
  · refine w_a f_102_39 ?_
    refine w_a f_102_40 ?_
    refine w_a f_102_41 ?_
    refine w_a f_102_65 ?_
    refine w_a (ls := [(3, .int (Int32.ofInt 4)), (0, .ref 1), (1, .int (Int32.ofInt 3)), (2, .int x2)]) f_102_68 ?_
    exact w_n (ks := [0, 1, 2, 3]) rfl h
  · refine w_a f_102_62 ?_
    refine w_a (ls := [(2, .int (x2 + Int32.ofInt 1)), (0, .ref 1), (1, .int (Int32.ofInt 3)), (3, .int (Int32.ofInt 3))]) f_102_65 ?_
    refine w_a (ls := [(3, .int (Int32.ofInt 4)), (2, .int (x2 + Int32.ofInt 1)), (0, .ref 1), (1, .int (Int32.ofInt 3))]) f_102_68 ?_
    exact w_n (ks := [0, 1, 2, 3]) rfl h
set_option maxRecDepth 10000 in
set_option maxHeartbeats 4000000 in
theorem s_102_59_3_3 {Lx : Nat} {I : Mi} {L : Ml} {e : Nat} {Q : Kq} {x2 : Int32} {r : Int32} (h :
    (if r = 0 then
     Wp 102 4 [(0, .ref 1), (1, .int (Int32.ofInt 3)), (2, .int (x2 + Int32.ofInt 1)), (3, .int (Int32.ofInt 4))] [] (gE Lx) I L e Q
    else
     Wp 102 4 [(0, .ref 1), (1, .int (Int32.ofInt 3)), (2, .int x2), (3, .int (Int32.ofInt 4))] [] (gE Lx) I L e Q)) :
    Wp 102 59 [(0, .ref 1), (1, .int (Int32.ofInt 3)), (2, .int x2), (3, .int (Int32.ofInt 3))] [.int r] (gE Lx) I L e Q := by
  refine w_a f_102_59 ?_
  refine i_m (fun h => ?_) (fun h => ?_) h
  · refine w_a f_102_62 ?_
    refine w_a (ls := [(2, .int (x2 + Int32.ofInt 1)), (0, .ref 1), (1, .int (Int32.ofInt 3)), (3, .int (Int32.ofInt 3))]) f_102_65 ?_
    refine w_a (ls := [(3, .int (Int32.ofInt 4)), (2, .int (x2 + Int32.ofInt 1)), (0, .ref 1), (1, .int (Int32.ofInt 3))]) f_102_68 ?_
    exact w_n (ks := [0, 1, 2, 3]) rfl h
  · refine w_a f_102_65 ?_
    refine w_a (ls := [(3, .int (Int32.ofInt 4)), (0, .ref 1), (1, .int (Int32.ofInt 3)), (2, .int x2)]) f_102_68 ?_
    exact w_n (ks := [0, 1, 2, 3]) rfl h
set_option maxRecDepth 10000 in
set_option maxHeartbeats 4000000 in
theorem s_102_4_3_4 {Lx : Nat} {I : Mi} {L : Ml} {e : Nat} {Q : Kq} {x2 : Int32} (h :
    Q (.inl (some (.int x2))) (gE Lx) I L e) :
    Wp 102 4 [(0, .ref 1), (1, .int (Int32.ofInt 3)), (2, .int x2), (3, .int (Int32.ofInt 4))] [] (gE Lx) I L e Q := by
  refine w_a f_102_4 ?_
  refine w_a f_102_5 ?_
  refine w_a f_102_6 ?_
  refine w_a f_102_71 ?_
  refine w_a f_102_72 ?_
  exact h
set_option maxRecDepth 10000 in
set_option maxHeartbeats 4000000 in
theorem s_100_6_4 {Lx : Nat} {I : Mi} {L : Ml} {e : Nat} {Q : Kq} {x1 : Int32} (h :
    Q (.inl (some (.int (Int32.ofInt (-1))))) (gE Lx) I L e) :
    Wp 100 6 [(0, .ref 1), (1, .int x1), (2, .int (Int32.ofInt 4))] [] (gE Lx) I L e Q := by
  refine w_a f_100_6 ?_
  refine w_a f_100_7 ?_
  refine w_a f_100_8 ?_
  refine w_a f_100_40 ?_
  refine w_a f_100_41 ?_
  exact h
set_option maxRecDepth 10000 in
set_option maxHeartbeats 4000000 in
theorem s_101_2_4 {Lx : Nat} {I : Mi} {L : Ml} {e : Nat} {Q : Kq} (h :
    Q (.inl none) (gE Lx) I L e) :
    Wp 101 2 [(0, .ref 1), (1, .int (Int32.ofInt 4))] [] (gE Lx) I L e Q := by
  refine w_a f_101_2 ?_
  refine w_a f_101_3 ?_
  refine w_a f_101_4 ?_
  refine w_a f_101_68 ?_
  exact h
set_option maxRecDepth 10000 in
set_option maxHeartbeats 4000000 in
theorem s_104_4_4 {Lx : Nat} {I : Mi} {L : Ml} {e : Nat} {Q : Kq} {x1 : Int32} (h :
    Q (.inl (some (.int x1))) (gE Lx) I L e) :
    Wp 104 4 [(0, .ref 1), (1, .int x1), (2, .int (Int32.ofInt 4))] [] (gE Lx) I L e Q := by
  refine w_a f_104_4 ?_
  refine w_a f_104_5 ?_
  refine w_a f_104_6 ?_
  refine w_a f_104_33 ?_
  refine w_a f_104_34 ?_
  exact h
set_option maxRecDepth 10000 in
set_option maxHeartbeats 4000000 in
theorem s_202_0 {Lx : Nat} {I : Mi} {L : Ml} {e : Nat} {Q : Kq} {x1 : Int32} (h :
    Wp 203 0 [(0, .ref 1), (1, .int x1)] [] (gE Lx) I L e (kcp (Wp 202) 202 2 0 [(0, .ref 1), (1, .int x1)] 71 [] Q)) :
    Wp 202 0 [(0, .ref 1), (1, .int x1)] [] (gE Lx) I L e Q := by
  refine w_a f_202_0 ?_
  refine w_a f_202_1 ?_
  exact w_c (ks := [0, 1]) f_202_2 rfl rfl h
set_option maxRecDepth 10000 in
set_option maxHeartbeats 4000000 in
theorem s_204_0 {Lx : Nat} {I : Mi} {L : Ml} {e : Nat} {Q : Kq} {x1 : Int32} (h :
    Wp 203 0 [(0, .ref 1), (1, .int x1)] [] (gE Lx) I L e (kcp (Wp 204) 204 2 0 [(0, .ref 1), (1, .int x1)] 71 [] Q)) :
    Wp 204 0 [(0, .ref 1), (1, .int x1)] [] (gE Lx) I L e Q := by
  refine w_a f_204_0 ?_
  refine w_a f_204_1 ?_
  exact w_c (ks := [0, 1]) f_204_2 rfl rfl h
set_option maxRecDepth 10000 in
set_option maxHeartbeats 4000000 in
theorem s_413_0 {Lx : Nat} {I : Mi} {L : Ml} {e : Nat} {Q : Kq} {x1 : Int32} (h :
    Wp 202 0 [(0, .ref 1), (1, .int x1)] [] (gE Lx) I L e (kcp (Wp 413) 413 4 0 [(0, .ref 1), (2, .ref 70)] 71 [.int (Int32.ofInt 0), .ref 70] Q)) :
    Wp 413 0 [(0, .ref 1), (1, .int x1), (2, .ref 70)] [] (gE Lx) I L e Q := by
  refine w_a f_413_0 ?_
  refine w_a f_413_1 ?_
  refine w_a f_413_2 ?_
  refine w_a f_413_3 ?_
  exact w_c (ks := [0, 2]) f_413_4 rfl rfl h
set_option maxRecDepth 10000 in
set_option maxHeartbeats 4000000 in
theorem s_413_7 {Lx : Nat} {I : Mi} {L : Ml} {e : Nat} {Q : Kq} {r1 : Int32} {r : Int32} (h :
    (inb r1 1 (
     Q (.inl (some (.int (Int32.ofInt 0)))) (gE Lx) I (ul L 70 r1.toNatClampNeg r.toInt64) e)
    False)) :
    Wp 413 7 [(0, .ref 1), (2, .ref 70)] [.int r, .int r1, .ref 70] (gE Lx) I L e Q := by
  refine w_a f_413_7 ?_
  refine w_a f_413_8 ?_
  refine n_m (fun h => ?_) h
  refine w_a f_413_9 ?_
  refine w_a f_413_15 ?_
  refine w_a f_413_16 ?_
  exact h
set_option maxRecDepth 10000 in
set_option maxHeartbeats 4000000 in
theorem s_414_0 {Lx : Nat} {I : Mi} {L : Ml} {e : Nat} {Q : Kq} {x1 : Int32} (h :
    Wp 204 0 [(0, .ref 1), (1, .int x1)] [] (gE Lx) I L e (kcp (Wp 414) 414 4 0 [(0, .ref 1), (2, .ref 70)] 71 [.int (Int32.ofInt 0), .ref 70] Q)) :
    Wp 414 0 [(0, .ref 1), (1, .int x1), (2, .ref 70)] [] (gE Lx) I L e Q := by
  refine w_a f_414_0 ?_
  refine w_a f_414_1 ?_
  refine w_a f_414_2 ?_
  refine w_a f_414_3 ?_
  exact w_c (ks := [0, 2]) f_414_4 rfl rfl h
set_option maxRecDepth 10000 in
set_option maxHeartbeats 4000000 in
theorem s_414_7 {Lx : Nat} {I : Mi} {L : Ml} {e : Nat} {Q : Kq} {r1 : Int32} {r : Int32} (h :
    (inb r1 1 (
     Q (.inl (some (.int (Int32.ofInt 0)))) (gE Lx) I (ul L 70 r1.toNatClampNeg r.toInt64) e)
    False)) :
    Wp 414 7 [(0, .ref 1), (2, .ref 70)] [.int r, .int r1, .ref 70] (gE Lx) I L e Q := by
  refine w_a f_414_7 ?_
  refine w_a f_414_8 ?_
  refine n_m (fun h => ?_) h
  refine w_a f_414_9 ?_
  refine w_a f_414_18 ?_
  refine w_a f_414_19 ?_
  exact h
