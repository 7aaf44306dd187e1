/-! Pieces of methods, by program out of the tables: 2 to 37. -/
theorem s_2_7 {Lx : Nat} {I : Mi} {L : Ml} {e : Nat} {Q : Kq} {r : Int32} (h :
    (if r = 0 then
     Q (.inl (some (.int (Int32.ofInt 0)))) (gE Lx) I L e
    else if r = 1 then
     Q (.inl (some (.int (Int32.ofInt 1)))) (gE Lx) I L e
    else False)) :
    Wp 2 7 [(0, .ref 21)] [.int r] (gE Lx) I L e Q := Wp.go [] 1000 h
theorem s_3_0 {Lx : Nat} {I : Mi} {L : Ml} {e : Nat} {Q : Kq} {y1 : Int64} {y3 : Int64} {x5 : Int32} (h :
    (if (I 21 0) = 0 then
     Q (.inl (some (.int (Int32.ofInt 1)))) (gE Lx) (ui I 21 0 (Int32.ofInt 1)) (ul (ul L 21 1 y1) 21 2 y3) e
    else
     Wp 23 0 [(0, .long y1), (2, .long y3), (4, .long (L 21 1)), (6, .long (L 21 2))] [] (gE Lx) I L e (kcp (Wp 3) 3 17 0 [(0, .ref 21), (1, .long y1), (3, .long y3), (5, .int x5)] 71 [] Q))) :
    Wp 3 0 [(0, .ref 21), (1, .long y1), (3, .long y3), (5, .int x5)] [] (gE Lx) I L e Q := Wp.go [(3, 20, [0, 1, 3, 5]), (23, 0, [])] 1000 h
theorem s_3_20 {Lx : Nat} {I : Mi} {L : Ml} {e : Nat} {Q : Kq} {y1 : Int64} {y3 : Int64} {x5 : Int32} {r : Int32} (h :
    (if r = x5 then
     Q (.inl (some (.int (Int32.ofInt 1)))) (gE Lx) (ui I 21 0 (Int32.ofInt 1)) (ul (ul L 21 1 y1) 21 2 y3) e
    else
     Q (.inl (some (.int (Int32.ofInt 0)))) (gE Lx) I L e)) :
    Wp 3 20 [(0, .ref 21), (1, .long y1), (3, .long y3), (5, .int x5)] [.int r] (gE Lx) I L e Q := Wp.go [] 1000 h
set_option maxRecDepth 10000 in
set_option maxHeartbeats 4000000 in
theorem s_6_0_24 {Lx : Nat} {I : Mi} {L : Ml} {e : Nat} {Q : Kq} {y1 : Int64} {y3 : Int64} (h :
    (if y1 < (Int64.ofInt 0) then
     (if y3 < (Int64.ofInt 0) then
      Wp 7 2 [(0, .ref 24), (1, .int (Int32.ofInt 0))] [] (gE Lx) I (ul (ul (ul (ul (ul L 25 0 ((((-y1) &&& (Int64.ofInt 1073741823)) * ((-y1) &&& (Int64.ofInt 1073741823))) + (((-y3) &&& (Int64.ofInt 1073741823)) * ((-y3) &&& (Int64.ofInt 1073741823))))) 25 1 ((Int64.ofInt 2) * ((((-y1) &&& (Int64.ofInt 1073741823)) * ((-y1) >>> ((Int32.ofInt 30).toInt64 &&& 63))) + (((-y3) &&& (Int64.ofInt 1073741823)) * ((-y3) >>> ((Int32.ofInt 30).toInt64 &&& 63)))))) 25 2 ((((-y1) >>> ((Int32.ofInt 30).toInt64 &&& 63)) * ((-y1) >>> ((Int32.ofInt 30).toInt64 &&& 63))) + (((-y3) >>> ((Int32.ofInt 30).toInt64 &&& 63)) * ((-y3) >>> ((Int32.ofInt 30).toInt64 &&& 63))))) 25 3 (Int64.ofInt 0)) 25 4 (Int64.ofInt 0)) e (kcp (Wp 6) 6 112 0 [(0, .ref 24)] 71 [] Q)
     else
      Wp 7 2 [(0, .ref 24), (1, .int (Int32.ofInt 0))] [] (gE Lx) I (ul (ul (ul (ul (ul L 25 0 ((((-y1) &&& (Int64.ofInt 1073741823)) * ((-y1) &&& (Int64.ofInt 1073741823))) + ((y3 &&& (Int64.ofInt 1073741823)) * (y3 &&& (Int64.ofInt 1073741823))))) 25 1 ((Int64.ofInt 2) * ((((-y1) &&& (Int64.ofInt 1073741823)) * ((-y1) >>> ((Int32.ofInt 30).toInt64 &&& 63))) + ((y3 &&& (Int64.ofInt 1073741823)) * (y3 >>> ((Int32.ofInt 30).toInt64 &&& 63)))))) 25 2 ((((-y1) >>> ((Int32.ofInt 30).toInt64 &&& 63)) * ((-y1) >>> ((Int32.ofInt 30).toInt64 &&& 63))) + ((y3 >>> ((Int32.ofInt 30).toInt64 &&& 63)) * (y3 >>> ((Int32.ofInt 30).toInt64 &&& 63))))) 25 3 (Int64.ofInt 0)) 25 4 (Int64.ofInt 0)) e (kcp (Wp 6) 6 112 0 [(0, .ref 24)] 71 [] Q))
    else
     (if y3 < (Int64.ofInt 0) then
      Wp 7 2 [(0, .ref 24), (1, .int (Int32.ofInt 0))] [] (gE Lx) I (ul (ul (ul (ul (ul L 25 0 (((y1 &&& (Int64.ofInt 1073741823)) * (y1 &&& (Int64.ofInt 1073741823))) + (((-y3) &&& (Int64.ofInt 1073741823)) * ((-y3) &&& (Int64.ofInt 1073741823))))) 25 1 ((Int64.ofInt 2) * (((y1 &&& (Int64.ofInt 1073741823)) * (y1 >>> ((Int32.ofInt 30).toInt64 &&& 63))) + (((-y3) &&& (Int64.ofInt 1073741823)) * ((-y3) >>> ((Int32.ofInt 30).toInt64 &&& 63)))))) 25 2 (((y1 >>> ((Int32.ofInt 30).toInt64 &&& 63)) * (y1 >>> ((Int32.ofInt 30).toInt64 &&& 63))) + (((-y3) >>> ((Int32.ofInt 30).toInt64 &&& 63)) * ((-y3) >>> ((Int32.ofInt 30).toInt64 &&& 63))))) 25 3 (Int64.ofInt 0)) 25 4 (Int64.ofInt 0)) e (kcp (Wp 6) 6 112 0 [(0, .ref 24)] 71 [] Q)
     else
      Wp 7 2 [(0, .ref 24), (1, .int (Int32.ofInt 0))] [] (gE Lx) I (ul (ul (ul (ul (ul L 25 0 (((y1 &&& (Int64.ofInt 1073741823)) * (y1 &&& (Int64.ofInt 1073741823))) + ((y3 &&& (Int64.ofInt 1073741823)) * (y3 &&& (Int64.ofInt 1073741823))))) 25 1 ((Int64.ofInt 2) * (((y1 &&& (Int64.ofInt 1073741823)) * (y1 >>> ((Int32.ofInt 30).toInt64 &&& 63))) + ((y3 &&& (Int64.ofInt 1073741823)) * (y3 >>> ((Int32.ofInt 30).toInt64 &&& 63)))))) 25 2 (((y1 >>> ((Int32.ofInt 30).toInt64 &&& 63)) * (y1 >>> ((Int32.ofInt 30).toInt64 &&& 63))) + ((y3 >>> ((Int32.ofInt 30).toInt64 &&& 63)) * (y3 >>> ((Int32.ofInt 30).toInt64 &&& 63))))) 25 3 (Int64.ofInt 0)) 25 4 (Int64.ofInt 0)) e (kcp (Wp 6) 6 112 0 [(0, .ref 24)] 71 [] Q)))) :
    Wp 6 0 [(0, .ref 24), (1, .long y1), (3, .long y3)] [] (gE Lx) I L e Q := Wp.go [(6, 115, [0]), (7, 2, [0, 1])] 1000 h
theorem s_6_115_24 {Lx : Nat} {I : Mi} {L : Ml} {e : Nat} {Q : Kq} (h :
    Q (.inl none) (gE Lx) I L e) :
    Wp 6 115 [(0, .ref 24)] [] (gE Lx) I L e Q := Wp.go [] 1000 h
set_option maxRecDepth 10000 in
set_option maxHeartbeats 4000000 in
theorem s_6_0_26 {Lx : Nat} {I : Mi} {L : Ml} {e : Nat} {Q : Kq} {y1 : Int64} {y3 : Int64} (h :
    (if y1 < (Int64.ofInt 0) then
     (if y3 < (Int64.ofInt 0) then
      Wp 7 2 [(0, .ref 26), (1, .int (Int32.ofInt 0))] [] (gE Lx) I (ul (ul (ul (ul (ul L 27 0 ((((-y1) &&& (Int64.ofInt 1073741823)) * ((-y1) &&& (Int64.ofInt 1073741823))) + (((-y3) &&& (Int64.ofInt 1073741823)) * ((-y3) &&& (Int64.ofInt 1073741823))))) 27 1 ((Int64.ofInt 2) * ((((-y1) &&& (Int64.ofInt 1073741823)) * ((-y1) >>> ((Int32.ofInt 30).toInt64 &&& 63))) + (((-y3) &&& (Int64.ofInt 1073741823)) * ((-y3) >>> ((Int32.ofInt 30).toInt64 &&& 63)))))) 27 2 ((((-y1) >>> ((Int32.ofInt 30).toInt64 &&& 63)) * ((-y1) >>> ((Int32.ofInt 30).toInt64 &&& 63))) + (((-y3) >>> ((Int32.ofInt 30).toInt64 &&& 63)) * ((-y3) >>> ((Int32.ofInt 30).toInt64 &&& 63))))) 27 3 (Int64.ofInt 0)) 27 4 (Int64.ofInt 0)) e (kcp (Wp 6) 6 112 0 [(0, .ref 26)] 71 [] Q)
     else
      Wp 7 2 [(0, .ref 26), (1, .int (Int32.ofInt 0))] [] (gE Lx) I (ul (ul (ul (ul (ul L 27 0 ((((-y1) &&& (Int64.ofInt 1073741823)) * ((-y1) &&& (Int64.ofInt 1073741823))) + ((y3 &&& (Int64.ofInt 1073741823)) * (y3 &&& (Int64.ofInt 1073741823))))) 27 1 ((Int64.ofInt 2) * ((((-y1) &&& (Int64.ofInt 1073741823)) * ((-y1) >>> ((Int32.ofInt 30).toInt64 &&& 63))) + ((y3 &&& (Int64.ofInt 1073741823)) * (y3 >>> ((Int32.ofInt 30).toInt64 &&& 63)))))) 27 2 ((((-y1) >>> ((Int32.ofInt 30).toInt64 &&& 63)) * ((-y1) >>> ((Int32.ofInt 30).toInt64 &&& 63))) + ((y3 >>> ((Int32.ofInt 30).toInt64 &&& 63)) * (y3 >>> ((Int32.ofInt 30).toInt64 &&& 63))))) 27 3 (Int64.ofInt 0)) 27 4 (Int64.ofInt 0)) e (kcp (Wp 6) 6 112 0 [(0, .ref 26)] 71 [] Q))
    else
     (if y3 < (Int64.ofInt 0) then
      Wp 7 2 [(0, .ref 26), (1, .int (Int32.ofInt 0))] [] (gE Lx) I (ul (ul (ul (ul (ul L 27 0 (((y1 &&& (Int64.ofInt 1073741823)) * (y1 &&& (Int64.ofInt 1073741823))) + (((-y3) &&& (Int64.ofInt 1073741823)) * ((-y3) &&& (Int64.ofInt 1073741823))))) 27 1 ((Int64.ofInt 2) * (((y1 &&& (Int64.ofInt 1073741823)) * (y1 >>> ((Int32.ofInt 30).toInt64 &&& 63))) + (((-y3) &&& (Int64.ofInt 1073741823)) * ((-y3) >>> ((Int32.ofInt 30).toInt64 &&& 63)))))) 27 2 (((y1 >>> ((Int32.ofInt 30).toInt64 &&& 63)) * (y1 >>> ((Int32.ofInt 30).toInt64 &&& 63))) + (((-y3) >>> ((Int32.ofInt 30).toInt64 &&& 63)) * ((-y3) >>> ((Int32.ofInt 30).toInt64 &&& 63))))) 27 3 (Int64.ofInt 0)) 27 4 (Int64.ofInt 0)) e (kcp (Wp 6) 6 112 0 [(0, .ref 26)] 71 [] Q)
     else
      Wp 7 2 [(0, .ref 26), (1, .int (Int32.ofInt 0))] [] (gE Lx) I (ul (ul (ul (ul (ul L 27 0 (((y1 &&& (Int64.ofInt 1073741823)) * (y1 &&& (Int64.ofInt 1073741823))) + ((y3 &&& (Int64.ofInt 1073741823)) * (y3 &&& (Int64.ofInt 1073741823))))) 27 1 ((Int64.ofInt 2) * (((y1 &&& (Int64.ofInt 1073741823)) * (y1 >>> ((Int32.ofInt 30).toInt64 &&& 63))) + ((y3 &&& (Int64.ofInt 1073741823)) * (y3 >>> ((Int32.ofInt 30).toInt64 &&& 63)))))) 27 2 (((y1 >>> ((Int32.ofInt 30).toInt64 &&& 63)) * (y1 >>> ((Int32.ofInt 30).toInt64 &&& 63))) + ((y3 >>> ((Int32.ofInt 30).toInt64 &&& 63)) * (y3 >>> ((Int32.ofInt 30).toInt64 &&& 63))))) 27 3 (Int64.ofInt 0)) 27 4 (Int64.ofInt 0)) e (kcp (Wp 6) 6 112 0 [(0, .ref 26)] 71 [] Q)))) :
    Wp 6 0 [(0, .ref 26), (1, .long y1), (3, .long y3)] [] (gE Lx) I L e Q := Wp.go [(6, 115, [0]), (7, 2, [0, 1])] 1000 h
theorem s_6_115_26 {Lx : Nat} {I : Mi} {L : Ml} {e : Nat} {Q : Kq} (h :
    Q (.inl none) (gE Lx) I L e) :
    Wp 6 115 [(0, .ref 26)] [] (gE Lx) I L e Q := Wp.go [] 1000 h
theorem s_7_2_24 {Lx : Nat} {I : Mi} {L : Ml} {e : Nat} {Q : Kq} {x1 : Int32} (h :
    (if (x1 + (Int32.ofInt 1)) < (Int32.ofInt 5) then
     (inb (x1 + (Int32.ofInt 1)) 5
      (inb x1 5
       (inb (x1 + (Int32.ofInt 1)) 5
        (inb x1 5
         (inb x1 5
          Wp 7 2 [(0, .ref 24), (1, .int (x1 + Int32.ofInt 1))] [] (gE Lx) I (ul (ul L 25 ((x1 + (Int32.ofInt 1)).toNatClampNeg) ((L 25 ((x1 + (Int32.ofInt 1)).toNatClampNeg)) + ((L 25 x1.toNatClampNeg) >>> ((Int32.ofInt 30).toInt64 &&& 63)))) 25 x1.toNatClampNeg (((ul L 25 ((x1 + (Int32.ofInt 1)).toNatClampNeg) ((L 25 ((x1 + (Int32.ofInt 1)).toNatClampNeg)) + ((L 25 x1.toNatClampNeg) >>> ((Int32.ofInt 30).toInt64 &&& 63)))) 25 x1.toNatClampNeg) &&& (Int64.ofInt 1073741823))) e Q
         False)
        False)
       False)
      False)
     False)
    else
     Q (.inl none) (gE Lx) I L e)) :
    Wp 7 2 [(0, .ref 24), (1, .int x1)] [] (gE Lx) I L e Q := Wp.go [(7, 2, [0, 1])] 1000 h
theorem s_7_2_26 {Lx : Nat} {I : Mi} {L : Ml} {e : Nat} {Q : Kq} {x1 : Int32} (h :
    (if (x1 + (Int32.ofInt 1)) < (Int32.ofInt 5) then
     (inb (x1 + (Int32.ofInt 1)) 5
      (inb x1 5
       (inb (x1 + (Int32.ofInt 1)) 5
        (inb x1 5
         (inb x1 5
          Wp 7 2 [(0, .ref 26), (1, .int (x1 + Int32.ofInt 1))] [] (gE Lx) I (ul (ul L 27 ((x1 + (Int32.ofInt 1)).toNatClampNeg) ((L 27 ((x1 + (Int32.ofInt 1)).toNatClampNeg)) + ((L 27 x1.toNatClampNeg) >>> ((Int32.ofInt 30).toInt64 &&& 63)))) 27 x1.toNatClampNeg (((ul L 27 ((x1 + (Int32.ofInt 1)).toNatClampNeg) ((L 27 ((x1 + (Int32.ofInt 1)).toNatClampNeg)) + ((L 27 x1.toNatClampNeg) >>> ((Int32.ofInt 30).toInt64 &&& 63)))) 27 x1.toNatClampNeg) &&& (Int64.ofInt 1073741823))) e Q
         False)
        False)
       False)
      False)
     False)
    else
     Q (.inl none) (gE Lx) I L e)) :
    Wp 7 2 [(0, .ref 26), (1, .int x1)] [] (gE Lx) I L e Q := Wp.go [(7, 2, [0, 1])] 1000 h
theorem s_8_0_24 {Lx : Nat} {I : Mi} {L : Ml} {e : Nat} {Q : Kq} {x1 : Int32} (h :
    Wp 8 2 [(0, .ref 24), (1, .int x1), (2, .int (Int32.ofInt 0))] [] (gE Lx) I L e Q) :
    Wp 8 0 [(0, .ref 24), (1, .int x1)] [] (gE Lx) I L e Q := Wp.go [(8, 2, [0, 1, 2])] 1000 h
theorem s_8_2_24 {Lx : Nat} {I : Mi} {L : Ml} {e : Nat} {Q : Kq} {x1 : Int32} {x2 : Int32} (h :
    (if x2 < (Int32.ofInt 5) then
     (inb x2 5
      (inb x2 5
       Wp 8 2 [(0, .ref 24), (1, .int x1), (2, .int (x2 + Int32.ofInt 1))] [] (gE Lx) I (ul L 25 x2.toNatClampNeg ((L 25 x2.toNatClampNeg) * x1.toInt64)) e Q
      False)
     False)
    else
     Wp 7 2 [(0, .ref 24), (1, .int (Int32.ofInt 0))] [] (gE Lx) I L e (kcp (Wp 8) 8 25 0 [(0, .ref 24)] 71 [] Q))) :
    Wp 8 2 [(0, .ref 24), (1, .int x1), (2, .int x2)] [] (gE Lx) I L e Q := Wp.go [(7, 2, [0, 1]), (8, 2, [0, 1, 2]), (8, 28, [0])] 1000 h
theorem s_8_28_24 {Lx : Nat} {I : Mi} {L : Ml} {e : Nat} {Q : Kq} (h :
    Q (.inl none) (gE Lx) I L e) :
    Wp 8 28 [(0, .ref 24)] [] (gE Lx) I L e Q := Wp.go [] 1000 h
theorem s_8_0_26 {Lx : Nat} {I : Mi} {L : Ml} {e : Nat} {Q : Kq} {x1 : Int32} (h :
    Wp 8 2 [(0, .ref 26), (1, .int x1), (2, .int (Int32.ofInt 0))] [] (gE Lx) I L e Q) :
    Wp 8 0 [(0, .ref 26), (1, .int x1)] [] (gE Lx) I L e Q := Wp.go [(8, 2, [0, 1, 2])] 1000 h
theorem s_8_2_26 {Lx : Nat} {I : Mi} {L : Ml} {e : Nat} {Q : Kq} {x1 : Int32} {x2 : Int32} (h :
    (if x2 < (Int32.ofInt 5) then
     (inb x2 5
      (inb x2 5
       Wp 8 2 [(0, .ref 26), (1, .int x1), (2, .int (x2 + Int32.ofInt 1))] [] (gE Lx) I (ul L 27 x2.toNatClampNeg ((L 27 x2.toNatClampNeg) * x1.toInt64)) e Q
      False)
     False)
    else
     Wp 7 2 [(0, .ref 26), (1, .int (Int32.ofInt 0))] [] (gE Lx) I L e (kcp (Wp 8) 8 25 0 [(0, .ref 26)] 71 [] Q))) :
    Wp 8 2 [(0, .ref 26), (1, .int x1), (2, .int x2)] [] (gE Lx) I L e Q := Wp.go [(7, 2, [0, 1]), (8, 2, [0, 1, 2]), (8, 28, [0])] 1000 h
theorem s_8_28_26 {Lx : Nat} {I : Mi} {L : Ml} {e : Nat} {Q : Kq} (h :
    Q (.inl none) (gE Lx) I L e) :
    Wp 8 28 [(0, .ref 26)] [] (gE Lx) I L e Q := Wp.go [] 1000 h
theorem s_9_0 {Lx : Nat} {I : Mi} {L : Ml} {e : Nat} {Q : Kq} (h :
    Wp 9 2 [(0, .ref 24), (1, .ref 26), (2, .int (Int32.ofInt 4))] [] (gE Lx) I L e Q) :
    Wp 9 0 [(0, .ref 24), (1, .ref 26)] [] (gE Lx) I L e Q := Wp.go [(9, 2, [0, 1, 2])] 1000 h
theorem s_9_2 {Lx : Nat} {I : Mi} {L : Ml} {e : Nat} {Q : Kq} {x2 : Int32} (h :
    (if x2 < 0 then
     Q (.inl (some (.int (Int32.ofInt 0)))) (gE Lx) I L e
    else
     (inb x2 5
      (inb x2 5
       (if (L 25 x2.toNatClampNeg) = (L 27 x2.toNatClampNeg) then
        Wp 9 2 [(0, .ref 24), (1, .ref 26), (2, .int (x2 + Int32.ofInt (-1)))] [] (gE Lx) I L e Q
       else
        (inb x2 5
         (inb x2 5
          (if (L 25 x2.toNatClampNeg) < (L 27 x2.toNatClampNeg) then
           Q (.inl (some (.int (Int32.ofInt (-1))))) (gE Lx) I L e
          else
           Q (.inl (some (.int (Int32.ofInt 1)))) (gE Lx) I L e)
         False)
        False))
      False)
     False))) :
    Wp 9 2 [(0, .ref 24), (1, .ref 26), (2, .int x2)] [] (gE Lx) I L e Q := Wp.go [(9, 2, [0, 1, 2])] 1000 h
theorem s_10_0 {Lx : Nat} {I : Mi} {L : Ml} {e : Nat} {Q : Kq} (h :
    Wp 10 2 [(0, .ref 24), (1, .ref 26), (2, .int (Int32.ofInt 0))] [] (gE Lx) I L e Q) :
    Wp 10 0 [(0, .ref 24), (1, .ref 26)] [] (gE Lx) I L e Q := Wp.go [(10, 2, [0, 1, 2])] 1000 h
theorem s_10_2 {Lx : Nat} {I : Mi} {L : Ml} {e : Nat} {Q : Kq} {x2 : Int32} (h :
    (if x2 < (Int32.ofInt 5) then
     (inb x2 5
      (inb x2 5
       (inb x2 5
        Wp 10 2 [(0, .ref 24), (1, .ref 26), (2, .int (x2 + Int32.ofInt 1))] [] (gE Lx) I (ul L 25 x2.toNatClampNeg ((L 25 x2.toNatClampNeg) - (L 27 x2.toNatClampNeg))) e Q
       False)
      False)
     False)
    else
     Wp 7 2 [(0, .ref 24), (1, .int (Int32.ofInt 0))] [] (gE Lx) I L e (kcp (Wp 10) 10 29 0 [(0, .ref 24), (1, .ref 26)] 71 [] Q))) :
    Wp 10 2 [(0, .ref 24), (1, .ref 26), (2, .int x2)] [] (gE Lx) I L e Q := Wp.go [(7, 2, [0, 1]), (10, 2, [0, 1, 2]), (10, 32, [0, 1])] 1000 h
theorem s_10_32 {Lx : Nat} {I : Mi} {L : Ml} {e : Nat} {Q : Kq} (h :
    Q (.inl none) (gE Lx) I L e) :
    Wp 10 32 [(0, .ref 24), (1, .ref 26)] [] (gE Lx) I L e Q := Wp.go [] 1000 h
theorem s_12_0_5 {Lx : Nat} {I : Mi} {L : Ml} {e : Nat} {Q : Kq} {x1 : Int32} (h :
    (if x1 < 0 then
     Q (.inl (some (.int (Int32.ofInt 0)))) (gE Lx) I L e
    else
     (if x1 < (Int32.ofInt 4) then
      (inb x1 4
       Q (.inl (some (.int (I 6 x1.toNatClampNeg)))) (gE Lx) I L e
      False)
     else
      Q (.inl (some (.int (Int32.ofInt 0)))) (gE Lx) I L e))) :
    Wp 12 0 [(0, .ref 5), (1, .int x1)] [] (gE Lx) I L e Q := Wp.go [] 1000 h
theorem s_12_0_9 {Lx : Nat} {I : Mi} {L : Ml} {e : Nat} {Q : Kq} {x1 : Int32} (h :
    (if x1 < 0 then
     Q (.inl (some (.int (Int32.ofInt 0)))) (gE Lx) I L e
    else
     (if x1 < (Int32.ofInt 4) then
      (inb x1 4
       Q (.inl (some (.int (I 10 x1.toNatClampNeg)))) (gE Lx) I L e
      False)
     else
      Q (.inl (some (.int (Int32.ofInt 0)))) (gE Lx) I L e))) :
    Wp 12 0 [(0, .ref 9), (1, .int x1)] [] (gE Lx) I L e Q := Wp.go [] 1000 h
theorem s_14_0_5 {Lx : Nat} {I : Mi} {L : Ml} {e : Nat} {Q : Kq} {x1 : Int32} (h :
    (if x1 < 0 then
     Q (.inl (some (.int (Int32.ofInt 0)))) (gE Lx) I L e
    else
     (if x1 < (Int32.ofInt 4) then
      (inb x1 4
       Q (.inl (some (.int (I 7 x1.toNatClampNeg)))) (gE Lx) I L e
      False)
     else
      Q (.inl (some (.int (Int32.ofInt 0)))) (gE Lx) I L e))) :
    Wp 14 0 [(0, .ref 5), (1, .int x1)] [] (gE Lx) I L e Q := Wp.go [] 1000 h
theorem s_14_0_9 {Lx : Nat} {I : Mi} {L : Ml} {e : Nat} {Q : Kq} {x1 : Int32} (h :
    (if x1 < 0 then
     Q (.inl (some (.int (Int32.ofInt 0)))) (gE Lx) I L e
    else
     (if x1 < (Int32.ofInt 4) then
      (inb x1 4
       Q (.inl (some (.int (I 11 x1.toNatClampNeg)))) (gE Lx) I L e
      False)
     else
      Q (.inl (some (.int (Int32.ofInt 0)))) (gE Lx) I L e))) :
    Wp 14 0 [(0, .ref 9), (1, .int x1)] [] (gE Lx) I L e Q := Wp.go [] 1000 h
theorem s_15_0_5 {Lx : Nat} {I : Mi} {L : Ml} {e : Nat} {Q : Kq} {x1 : Int32} (h :
    (if x1 < 0 then
     Q (.inl (some (.int (Int32.ofInt 1)))) (gE Lx) I L e
    else
     (if x1 < (Int32.ofInt 4) then
      (inb x1 4
       Q (.inl (some (.int (I 8 x1.toNatClampNeg)))) (gE Lx) I L e
      False)
     else
      Q (.inl (some (.int (Int32.ofInt 1)))) (gE Lx) I L e))) :
    Wp 15 0 [(0, .ref 5), (1, .int x1)] [] (gE Lx) I L e Q := Wp.go [] 1000 h
theorem s_15_0_9 {Lx : Nat} {I : Mi} {L : Ml} {e : Nat} {Q : Kq} {x1 : Int32} (h :
    (if x1 < 0 then
     Q (.inl (some (.int (Int32.ofInt 1)))) (gE Lx) I L e
    else
     (if x1 < (Int32.ofInt 4) then
      (inb x1 4
       Q (.inl (some (.int (I 12 x1.toNatClampNeg)))) (gE Lx) I L e
      False)
     else
      Q (.inl (some (.int (Int32.ofInt 1)))) (gE Lx) I L e))) :
    Wp 15 0 [(0, .ref 9), (1, .int x1)] [] (gE Lx) I L e Q := Wp.go [] 1000 h
theorem s_18_18 {Lx : Nat} {I : Mi} {L : Ml} {e : Nat} {Q : Kq} {x1 : Int32} {x3 : Int32} {r1 : Int32} {r : Int32} (h :
    (inb r1 4
     Wp 14 0 [(0, .ref 9), (1, .int x3)] [] (gE Lx) (ui I 6 r1.toNatClampNeg r) L e (kcp (Wp 18) 18 26 0 [(0, .ref 5), (1, .int x1), (2, .ref 9), (3, .int x3)] 71 [.int x1, .ref 7] Q)
    False)) :
    Wp 18 18 [(0, .ref 5), (1, .int x1), (2, .ref 9), (3, .int x3)] [.int r, .int r1, .ref 6] (gE Lx) I L e Q := Wp.go [(14, 0, []), (18, 29, [0, 1, 2, 3])] 1000 h
theorem s_18_29 {Lx : Nat} {I : Mi} {L : Ml} {e : Nat} {Q : Kq} {x1 : Int32} {x3 : Int32} {r1 : Int32} {r : Int32} (h :
    (inb r1 4
     Wp 15 0 [(0, .ref 9), (1, .int x3)] [] (gE Lx) (ui I 7 r1.toNatClampNeg r) L e (kcp (Wp 18) 18 37 0 [(0, .ref 5), (2, .ref 9)] 71 [.int x1, .ref 8] Q)
    False)) :
    Wp 18 29 [(0, .ref 5), (1, .int x1), (2, .ref 9), (3, .int x3)] [.int r, .int r1, .ref 7] (gE Lx) I L e Q := Wp.go [(15, 0, []), (18, 40, [0, 2])] 1000 h
theorem s_18_40 {Lx : Nat} {I : Mi} {L : Ml} {e : Nat} {Q : Kq} {r1 : Int32} {r : Int32} (h :
    (inb r1 4
     Q (.inl none) (gE Lx) (ui I 8 r1.toNatClampNeg r) L e
    False)) :
    Wp 18 40 [(0, .ref 5), (2, .ref 9)] [.int r, .int r1, .ref 8] (gE Lx) I L e Q := Wp.go [] 1000 h
theorem s_23_0 {Lx : Nat} {I : Mi} {L : Ml} {e : Nat} {Q : Kq} {y0 : Int64} {y2 : Int64} {y4 : Int64} {y6 : Int64} (h :
    Wp 23 6 [(0, .long y0), (2, .long y2), (4, .long y4), (6, .long y6), (8, .int (Int32.ofInt 1)), (9, .int (Int32.ofInt 0))] [] (gE Lx) I L e Q) :
    Wp 23 0 [(0, .long y0), (2, .long y2), (4, .long y4), (6, .long y6)] [] (gE Lx) I L e Q := Wp.go [(23, 6, [0, 2, 4, 6, 8, 9])] 1000 h
set_option maxRecDepth 10000 in
set_option maxHeartbeats 4000000 in
theorem s_23_6 {Lx : Nat} {I : Mi} {L : Ml} {e : Nat} {Q : Kq} {y0 : Int64} {y2 : Int64} {y4 : Int64} {y6 : Int64} {x8 : Int32} {x9 : Int32} (h :
    (if x9 < (Int32.ofInt 100) then
     (if y2 = (Int64.ofInt 0) then
      (if y2 = (Int64.ofInt 0) then
       (if y6 = (Int64.ofInt 0) then
        Q (.inl (some (.int (x8 * (Int32.ofInt 0))))) (gE Lx) I L e
       else
        Q (.inl (some (.int (x8 * (Int32.ofInt 1))))) (gE Lx) I L e)
      else
       (if y6 = (Int64.ofInt 0) then
        Q (.inl (some (.int (x8 * (Int32.ofInt (-1)))))) (gE Lx) I L e
       else
        Q (.inl (some (.int (x8 * (Int32.ofInt 0))))) (gE Lx) I L e))
     else
      (if y6 = (Int64.ofInt 0) then
       (if y2 = (Int64.ofInt 0) then
        (if y6 = (Int64.ofInt 0) then
         Q (.inl (some (.int (x8 * (Int32.ofInt 0))))) (gE Lx) I L e
        else
         Q (.inl (some (.int (x8 * (Int32.ofInt 1))))) (gE Lx) I L e)
       else
        (if y6 = (Int64.ofInt 0) then
         Q (.inl (some (.int (x8 * (Int32.ofInt (-1)))))) (gE Lx) I L e
        else
         Q (.inl (some (.int (x8 * (Int32.ofInt 0))))) (gE Lx) I L e))
      else
       (if y2 = 0 then False else
        (if y6 = 0 then False else
         (if (y0 / y2) = (y4 / y6) then
          Wp 23 6 [(0, .long y2), (2, .long (y0 - ((y0 / y2) * y2))), (4, .long y6), (6, .long (y4 - ((y4 / y6) * y6))), (8, .int (-x8)), (9, .int (x9 + Int32.ofInt 1))] [] (gE Lx) I L e Q
         else
          (if (y0 / y2) < (y4 / y6) then
           Q (.inl (some (.int (-x8)))) (gE Lx) I L e
          else
           Q (.inl (some (.int x8))) (gE Lx) I L e))))))
    else
     Q (.inl (some (.int (Int32.ofInt 0)))) (gE Lx) I L e)) :
    Wp 23 6 [(0, .long y0), (2, .long y2), (4, .long y4), (6, .long y6), (8, .int x8), (9, .int x9)] [] (gE Lx) I L e Q := Wp.go [(23, 6, [0, 2, 4, 6, 8, 9])] 1000 h
theorem s_25_0_18 {Lx : Nat} {I : Mi} {L : Ml} {e : Nat} {Q : Kq} {y1 : Int64} {y3 : Int64} (h :
    Wp 26 0 [(0, .long y1), (2, .long y3)] [] (gE Lx) I L e (kcp (Wp 25) 25 2 0 [(0, .ref 18), (1, .long y1), (3, .long y3)] 71 [] Q)) :
    Wp 25 0 [(0, .ref 18), (1, .long y1), (3, .long y3)] [] (gE Lx) I L e Q := Wp.go [(25, 5, [0, 1, 3]), (26, 0, [])] 1000 h
set_option maxRecDepth 10000 in
set_option maxHeartbeats 4000000 in
theorem s_25_5_18 {Lx : Nat} {I : Mi} {L : Ml} {e : Nat} {Q : Kq} {y1 : Int64} {y3 : Int64} {rl : Int64} (h :
    (if rl = (Int64.ofInt 0) then
     Q (.inl none) (gE Lx) I (ul (ul L 18 0 (Int64.ofInt 0)) 18 1 (Int64.ofInt 1)) e
    else
     (if y3 < (Int64.ofInt 0) then
      (if (-rl) = 0 then False else
       (if (-rl) = 0 then False else
        Q (.inl none) (gE Lx) I (ul (ul L 18 0 (y1 / (-rl))) 18 1 (y3 / (-rl))) e))
     else
      (if y3 = (Int64.ofInt 0) then
       (if y1 < (Int64.ofInt 0) then
        (if (-rl) = 0 then False else
         (if (-rl) = 0 then False else
          Q (.inl none) (gE Lx) I (ul (ul L 18 0 (y1 / (-rl))) 18 1 (y3 / (-rl))) e))
       else
        (if rl = 0 then False else
         (if rl = 0 then False else
          Q (.inl none) (gE Lx) I (ul (ul L 18 0 (y1 / rl)) 18 1 (y3 / rl)) e)))
      else
       (if rl = 0 then False else
        (if rl = 0 then False else
         Q (.inl none) (gE Lx) I (ul (ul L 18 0 (y1 / rl)) 18 1 (y3 / rl)) e)))))) :
    Wp 25 5 [(0, .ref 18), (1, .long y1), (3, .long y3)] [.long rl] (gE Lx) I L e Q := Wp.go [] 1000 h
theorem s_25_0_23 {Lx : Nat} {I : Mi} {L : Ml} {e : Nat} {Q : Kq} {y1 : Int64} {y3 : Int64} (h :
    Wp 26 0 [(0, .long y1), (2, .long y3)] [] (gE Lx) I L e (kcp (Wp 25) 25 2 0 [(0, .ref 23), (1, .long y1), (3, .long y3)] 71 [] Q)) :
    Wp 25 0 [(0, .ref 23), (1, .long y1), (3, .long y3)] [] (gE Lx) I L e Q := Wp.go [(25, 5, [0, 1, 3]), (26, 0, [])] 1000 h
set_option maxRecDepth 10000 in
set_option maxHeartbeats 4000000 in
theorem s_25_5_23 {Lx : Nat} {I : Mi} {L : Ml} {e : Nat} {Q : Kq} {y1 : Int64} {y3 : Int64} {rl : Int64} (h :
    (if rl = (Int64.ofInt 0) then
     Q (.inl none) (gE Lx) I (ul (ul L 23 0 (Int64.ofInt 0)) 23 1 (Int64.ofInt 1)) e
    else
     (if y3 < (Int64.ofInt 0) then
      (if (-rl) = 0 then False else
       (if (-rl) = 0 then False else
        Q (.inl none) (gE Lx) I (ul (ul L 23 0 (y1 / (-rl))) 23 1 (y3 / (-rl))) e))
     else
      (if y3 = (Int64.ofInt 0) then
       (if y1 < (Int64.ofInt 0) then
        (if (-rl) = 0 then False else
         (if (-rl) = 0 then False else
          Q (.inl none) (gE Lx) I (ul (ul L 23 0 (y1 / (-rl))) 23 1 (y3 / (-rl))) e))
       else
        (if rl = 0 then False else
         (if rl = 0 then False else
          Q (.inl none) (gE Lx) I (ul (ul L 23 0 (y1 / rl)) 23 1 (y3 / rl)) e)))
      else
       (if rl = 0 then False else
        (if rl = 0 then False else
         Q (.inl none) (gE Lx) I (ul (ul L 23 0 (y1 / rl)) 23 1 (y3 / rl)) e)))))) :
    Wp 25 5 [(0, .ref 23), (1, .long y1), (3, .long y3)] [.long rl] (gE Lx) I L e Q := Wp.go [] 1000 h
theorem s_26_0 {Lx : Nat} {I : Mi} {L : Ml} {e : Nat} {Q : Kq} {y0 : Int64} {y2 : Int64} (h :
    (if y0 < (Int64.ofInt 0) then
     (if y2 < (Int64.ofInt 0) then
      Wp 26 15 [(4, .long (-y0)), (6, .long (-y2)), (8, .int (Int32.ofInt 0))] [] (gE Lx) I L e Q
     else
      Wp 26 15 [(4, .long (-y0)), (6, .long y2), (8, .int (Int32.ofInt 0))] [] (gE Lx) I L e Q)
    else
     (if y2 < (Int64.ofInt 0) then
      Wp 26 15 [(4, .long y0), (6, .long (-y2)), (8, .int (Int32.ofInt 0))] [] (gE Lx) I L e Q
     else
      Wp 26 15 [(4, .long y0), (6, .long y2), (8, .int (Int32.ofInt 0))] [] (gE Lx) I L e Q))) :
    Wp 26 0 [(0, .long y0), (2, .long y2)] [] (gE Lx) I L e Q := Wp.go [(26, 15, [4, 6, 8])] 1000 h
theorem s_26_15 {Lx : Nat} {I : Mi} {L : Ml} {e : Nat} {Q : Kq} {y4 : Int64} {y6 : Int64} {x8 : Int32} (h :
    (if x8 < (Int32.ofInt 100) then
     (if y6 = (Int64.ofInt 0) then
      Q (.inl (some (.long y4))) (gE Lx) I L e
     else
      (if y6 = 0 then False else
       Wp 26 15 [(4, .long y6), (6, .long (y4 - y4 / y6 * y6)), (8, .int (x8 + Int32.ofInt 1))] [] (gE Lx) I L e Q))
    else
     Q (.inl (some (.long y4))) (gE Lx) I L e)) :
    Wp 26 15 [(4, .long y4), (6, .long y6), (8, .int x8)] [] (gE Lx) I L e Q := Wp.go [(26, 15, [4, 6, 8])] 1000 h
theorem s_27_30_18 {Lx : Nat} {I : Mi} {L : Ml} {e : Nat} {Q : Kq} (h :
    Q (.inl none) (gE Lx) I L e) :
    Wp 27 30 [(0, .ref 18)] [] (gE Lx) I L e Q := Wp.go [] 1000 h
theorem s_27_30_23 {Lx : Nat} {I : Mi} {L : Ml} {e : Nat} {Q : Kq} (h :
    Q (.inl none) (gE Lx) I L e) :
    Wp 27 30 [(0, .ref 23)] [] (gE Lx) I L e Q := Wp.go [] 1000 h
set_option maxRecDepth 10000 in
set_option maxHeartbeats 4000000 in
theorem s_28_0 {Lx : Nat} {I : Mi} {L : Ml} {e : Nat} {Q : Kq} {y0 : Int64} {y2 : Int64} {y4 : Int64} {y6 : Int64} (h :
    (if y2 = (Int64.ofInt 0) then
     (if y6 = (Int64.ofInt 0) then
      Q (.inl (some (.int (Int32.ofInt 0)))) (gE Lx) I L e
     else
      (if y4 < (Int64.ofInt 0) then
       Q (.inl (some (.int (Int32.ofInt (-1))))) (gE Lx) I L e
      else
       Q (.inl (some (.int (Int32.ofInt 1)))) (gE Lx) I L e))
    else
     (if y0 < (Int64.ofInt 0) then
      (if y6 = (Int64.ofInt 0) then
       Q (.inl (some (.int (Int32.ofInt 1)))) (gE Lx) I L e
      else
       (if y4 < (Int64.ofInt 0) then
        (if (y0 * y6) < (y4 * y2) then
         Q (.inl (some (.int (Int32.ofInt (-1))))) (gE Lx) I L e
        else
         (if (y0 * y6) = (y4 * y2) then
          Q (.inl (some (.int (Int32.ofInt 0)))) (gE Lx) I L e
         else
          Q (.inl (some (.int (Int32.ofInt 1)))) (gE Lx) I L e))
       else
        Q (.inl (some (.int (Int32.ofInt 1)))) (gE Lx) I L e))
     else
      (if y6 = (Int64.ofInt 0) then
       Q (.inl (some (.int (Int32.ofInt (-1))))) (gE Lx) I L e
      else
       (if y4 < (Int64.ofInt 0) then
        Q (.inl (some (.int (Int32.ofInt (-1))))) (gE Lx) I L e
       else
        (if (y0 * y6) < (y4 * y2) then
         Q (.inl (some (.int (Int32.ofInt (-1))))) (gE Lx) I L e
        else
         (if (y0 * y6) = (y4 * y2) then
          Q (.inl (some (.int (Int32.ofInt 0)))) (gE Lx) I L e
         else
          Q (.inl (some (.int (Int32.ofInt 1)))) (gE Lx) I L e))))))) :
    Wp 28 0 [(0, .long y0), (2, .long y2), (4, .long y4), (6, .long y6)] [] (gE Lx) I L e Q := Wp.go [] 1000 h
theorem s_30_0 {Lx : Nat} {I : Mi} {L : Ml} {e : Nat} {Q : Kq} {y1 : Int64} {y3 : Int64} {x5 : Int32} (h :
    Wp 25 0 [(0, .ref 18), (1, .long y1), (3, .long y3)] [] (gE Lx) I L e (kcp (Wp 30) 30 3 0 [(0, .ref 18), (1, .long y1), (3, .long y3), (5, .int x5)] 71 [] Q)) :
    Wp 30 0 [(0, .ref 18), (1, .long y1), (3, .long y3), (5, .int x5)] [] (gE Lx) I L e Q := Wp.go [(25, 0, []), (30, 6, [0, 1, 3, 5])] 1000 h
theorem s_30_6 {Lx : Nat} {I : Mi} {L : Ml} {e : Nat} {Q : Kq} {y1 : Int64} {y3 : Int64} {x5 : Int32} (h :
    Wp 30 9 [(0, .ref 18), (1, .long y1), (3, .long y3), (5, .int x5), (6, .int (Int32.ofInt 1))] [] (gE Lx) I L e Q) :
    Wp 30 6 [(0, .ref 18), (1, .long y1), (3, .long y3), (5, .int x5)] [] (gE Lx) I L e Q := Wp.go [(30, 9, [0, 1, 3, 5, 6])] 1000 h
theorem s_30_9 {Lx : Nat} {I : Mi} {L : Ml} {e : Nat} {Q : Kq} {y1 : Int64} {y3 : Int64} {x5 : Int32} {x6 : Int32} (h :
    (if x6 < x5 then
     Wp 25 0 [(0, .ref 18), (1, .long (((L 18 0) * y3) + ((L 18 1) * y1))), (3, .long (((L 18 1) * y3) - ((L 18 0) * y1)))] [] (gE Lx) I L e (kcp (Wp 27) 27 27 0 [(0, .ref 18)] 71 [] (kcp (Wp 30) 30 19 0 [(0, .ref 18), (1, .long y1), (3, .long y3), (5, .int x5), (6, .int x6)] 71 [] Q))
    else
     Q (.inl none) (gE Lx) I L e)) :
    Wp 30 9 [(0, .ref 18), (1, .long y1), (3, .long y3), (5, .int x5), (6, .int x6)] [] (gE Lx) I L e Q := Wp.go [(25, 0, []), (27, 30, [0]), (30, 22, [0, 1, 3, 5, 6])] 1000 h
theorem s_30_22 {Lx : Nat} {I : Mi} {L : Ml} {e : Nat} {Q : Kq} {y1 : Int64} {y3 : Int64} {x5 : Int32} {x6 : Int32} (h :
    Wp 30 9 [(0, .ref 18), (1, .long y1), (3, .long y3), (5, .int x5), (6, .int (x6 + Int32.ofInt 1))] [] (gE Lx) I L e Q) :
    Wp 30 22 [(0, .ref 18), (1, .long y1), (3, .long y3), (5, .int x5), (6, .int x6)] [] (gE Lx) I L e Q := Wp.go [(30, 9, [0, 1, 3, 5, 6])] 1000 h
theorem s_32_0 {Lx : Nat} {I : Mi} {L : Ml} {e : Nat} {Q : Kq} {y0 : Int64} (h :
    Wp 32 6 [(0, .long y0), (2, .long (Int64.ofInt 0)), (4, .int (Int32.ofInt 30))] [] (gE Lx) I L e Q) :
    Wp 32 0 [(0, .long y0)] [] (gE Lx) I L e Q := Wp.go [(32, 6, [0, 2, 4])] 1000 h
theorem s_32_6 {Lx : Nat} {I : Mi} {L : Ml} {e : Nat} {Q : Kq} {y0 : Int64} {y2 : Int64} {x4 : Int32} (h :
    (if x4 < 0 then
     Q (.inl (some (.long y2))) (gE Lx) I L e
    else
     (if y0 < ((y2 + ((Int64.ofInt 1) <<< (x4.toInt64 &&& 63))) * (y2 + ((Int64.ofInt 1) <<< (x4.toInt64 &&& 63)))) then
      Wp 32 6 [(0, .long y0), (2, .long y2), (4, .int (x4 + Int32.ofInt (-1)))] [] (gE Lx) I L e Q
     else
      Wp 32 6 [(0, .long y0), (2, .long (y2 + ((Int64.ofInt 1) <<< (x4.toInt64 &&& 63)))), (4, .int (x4 + Int32.ofInt (-1)))] [] (gE Lx) I L e Q))) :
    Wp 32 6 [(0, .long y0), (2, .long y2), (4, .int x4)] [] (gE Lx) I L e Q := Wp.go [(32, 6, [0, 2, 4])] 1000 h
set_option maxRecDepth 10000 in
set_option maxHeartbeats 4000000 in
theorem s_34_0 {Lx : Nat} {I : Mi} {L : Ml} {e : Nat} {Q : Kq} {x2 : Int32} {x3 : Int32} {x4 : Int32} (h :
    (if x2 = 0 then
     (if x2 = 0 then
      (if x2 = 0 then
       (if (((L 17 0) * (L 17 2)) * (((((L 17 0) * (L 17 0)) + ((L 17 1) * (L 17 1))) * ((x3.toInt64 * x3.toInt64) + (x4.toInt64 * x4.toInt64))) - ((((L 17 0) * (L 17 2)) * x3.toInt64) * x3.toInt64))) < (Int64.ofInt 0) then
        Wp 34 144 [(0, .ref 20), (1, .ref 17), (5, .long (((L 17 0) * (L 17 2)) * (((((L 17 0) * (L 17 0)) + ((L 17 1) * (L 17 1))) * ((x3.toInt64 * x3.toInt64) + (x4.toInt64 * x4.toInt64))) - ((((L 17 0) * (L 17 2)) * x3.toInt64) * x3.toInt64))))] [.long (Int64.ofInt 0), .ref 20] (gE Lx) I (ul (ul (ul (ul (ul L 20 6 x3.toInt64) 20 7 x4.toInt64) 20 2 ((L 17 0) * (L 17 2))) 20 3 (((L 17 0) * (L 17 0)) + ((L 17 1) * (L 17 1)))) 20 4 ((-(L 17 1)) * (L 17 2))) e Q
       else
        Wp 32 0 [(0, .long (((L 17 0) * (L 17 2)) * (((((L 17 0) * (L 17 0)) + ((L 17 1) * (L 17 1))) * ((x3.toInt64 * x3.toInt64) + (x4.toInt64 * x4.toInt64))) - ((((L 17 0) * (L 17 2)) * x3.toInt64) * x3.toInt64))))] [] (gE Lx) I (ul (ul (ul (ul (ul L 20 6 x3.toInt64) 20 7 x4.toInt64) 20 2 ((L 17 0) * (L 17 2))) 20 3 (((L 17 0) * (L 17 0)) + ((L 17 1) * (L 17 1)))) 20 4 ((-(L 17 1)) * (L 17 2))) e (kcp (Wp 34) 34 141 0 [(0, .ref 20), (1, .ref 17), (5, .long (((L 17 0) * (L 17 2)) * (((((L 17 0) * (L 17 0)) + ((L 17 1) * (L 17 1))) * ((x3.toInt64 * x3.toInt64) + (x4.toInt64 * x4.toInt64))) - ((((L 17 0) * (L 17 2)) * x3.toInt64) * x3.toInt64))))] 71 [.ref 20] Q))
      else
       (if (((L 17 0) * (L 17 2)) * (((((L 17 0) * (L 17 0)) + ((L 17 1) * (L 17 1))) * ((x3.toInt64 * x3.toInt64) + (x4.toInt64 * x4.toInt64))) - ((((L 17 0) * (L 17 2)) * x3.toInt64) * x3.toInt64))) < (Int64.ofInt 0) then
        Wp 34 144 [(0, .ref 20), (1, .ref 17), (5, .long (((L 17 0) * (L 17 2)) * (((((L 17 0) * (L 17 0)) + ((L 17 1) * (L 17 1))) * ((x3.toInt64 * x3.toInt64) + (x4.toInt64 * x4.toInt64))) - ((((L 17 0) * (L 17 2)) * x3.toInt64) * x3.toInt64))))] [.long (Int64.ofInt 0), .ref 20] (gE Lx) I (ul (ul (ul (ul (ul L 20 6 x3.toInt64) 20 7 x4.toInt64) 20 2 ((L 17 0) * (L 17 2))) 20 3 (((L 17 0) * (L 17 0)) + ((L 17 1) * (L 17 1)))) 20 4 (L 17 1)) e Q
       else
        Wp 32 0 [(0, .long (((L 17 0) * (L 17 2)) * (((((L 17 0) * (L 17 0)) + ((L 17 1) * (L 17 1))) * ((x3.toInt64 * x3.toInt64) + (x4.toInt64 * x4.toInt64))) - ((((L 17 0) * (L 17 2)) * x3.toInt64) * x3.toInt64))))] [] (gE Lx) I (ul (ul (ul (ul (ul L 20 6 x3.toInt64) 20 7 x4.toInt64) 20 2 ((L 17 0) * (L 17 2))) 20 3 (((L 17 0) * (L 17 0)) + ((L 17 1) * (L 17 1)))) 20 4 (L 17 1)) e (kcp (Wp 34) 34 141 0 [(0, .ref 20), (1, .ref 17), (5, .long (((L 17 0) * (L 17 2)) * (((((L 17 0) * (L 17 0)) + ((L 17 1) * (L 17 1))) * ((x3.toInt64 * x3.toInt64) + (x4.toInt64 * x4.toInt64))) - ((((L 17 0) * (L 17 2)) * x3.toInt64) * x3.toInt64))))] 71 [.ref 20] Q)))
     else
      (if x2 = 0 then
       (if (((L 17 0) * (L 17 2)) * (((L 17 2) * ((x3.toInt64 * x3.toInt64) + (x4.toInt64 * x4.toInt64))) - ((((L 17 0) * (L 17 2)) * x3.toInt64) * x3.toInt64))) < (Int64.ofInt 0) then
        Wp 34 144 [(0, .ref 20), (1, .ref 17), (5, .long (((L 17 0) * (L 17 2)) * (((L 17 2) * ((x3.toInt64 * x3.toInt64) + (x4.toInt64 * x4.toInt64))) - ((((L 17 0) * (L 17 2)) * x3.toInt64) * x3.toInt64))))] [.long (Int64.ofInt 0), .ref 20] (gE Lx) I (ul (ul (ul (ul (ul L 20 6 x3.toInt64) 20 7 x4.toInt64) 20 2 ((L 17 0) * (L 17 2))) 20 3 (L 17 2)) 20 4 ((-(L 17 1)) * (L 17 2))) e Q
       else
        Wp 32 0 [(0, .long (((L 17 0) * (L 17 2)) * (((L 17 2) * ((x3.toInt64 * x3.toInt64) + (x4.toInt64 * x4.toInt64))) - ((((L 17 0) * (L 17 2)) * x3.toInt64) * x3.toInt64))))] [] (gE Lx) I (ul (ul (ul (ul (ul L 20 6 x3.toInt64) 20 7 x4.toInt64) 20 2 ((L 17 0) * (L 17 2))) 20 3 (L 17 2)) 20 4 ((-(L 17 1)) * (L 17 2))) e (kcp (Wp 34) 34 141 0 [(0, .ref 20), (1, .ref 17), (5, .long (((L 17 0) * (L 17 2)) * (((L 17 2) * ((x3.toInt64 * x3.toInt64) + (x4.toInt64 * x4.toInt64))) - ((((L 17 0) * (L 17 2)) * x3.toInt64) * x3.toInt64))))] 71 [.ref 20] Q))
      else
       (if (((L 17 0) * (L 17 2)) * (((L 17 2) * ((x3.toInt64 * x3.toInt64) + (x4.toInt64 * x4.toInt64))) - ((((L 17 0) * (L 17 2)) * x3.toInt64) * x3.toInt64))) < (Int64.ofInt 0) then
        Wp 34 144 [(0, .ref 20), (1, .ref 17), (5, .long (((L 17 0) * (L 17 2)) * (((L 17 2) * ((x3.toInt64 * x3.toInt64) + (x4.toInt64 * x4.toInt64))) - ((((L 17 0) * (L 17 2)) * x3.toInt64) * x3.toInt64))))] [.long (Int64.ofInt 0), .ref 20] (gE Lx) I (ul (ul (ul (ul (ul L 20 6 x3.toInt64) 20 7 x4.toInt64) 20 2 ((L 17 0) * (L 17 2))) 20 3 (L 17 2)) 20 4 (L 17 1)) e Q
       else
        Wp 32 0 [(0, .long (((L 17 0) * (L 17 2)) * (((L 17 2) * ((x3.toInt64 * x3.toInt64) + (x4.toInt64 * x4.toInt64))) - ((((L 17 0) * (L 17 2)) * x3.toInt64) * x3.toInt64))))] [] (gE Lx) I (ul (ul (ul (ul (ul L 20 6 x3.toInt64) 20 7 x4.toInt64) 20 2 ((L 17 0) * (L 17 2))) 20 3 (L 17 2)) 20 4 (L 17 1)) e (kcp (Wp 34) 34 141 0 [(0, .ref 20), (1, .ref 17), (5, .long (((L 17 0) * (L 17 2)) * (((L 17 2) * ((x3.toInt64 * x3.toInt64) + (x4.toInt64 * x4.toInt64))) - ((((L 17 0) * (L 17 2)) * x3.toInt64) * x3.toInt64))))] 71 [.ref 20] Q))))
    else
     (if x2 = 0 then
      (if x2 = 0 then
       (if ((L 17 0) * (((((L 17 0) * (L 17 0)) + ((L 17 1) * (L 17 1))) * ((x3.toInt64 * x3.toInt64) + (x4.toInt64 * x4.toInt64))) - (((L 17 0) * x3.toInt64) * x3.toInt64))) < (Int64.ofInt 0) then
        Wp 34 144 [(0, .ref 20), (1, .ref 17), (5, .long ((L 17 0) * (((((L 17 0) * (L 17 0)) + ((L 17 1) * (L 17 1))) * ((x3.toInt64 * x3.toInt64) + (x4.toInt64 * x4.toInt64))) - (((L 17 0) * x3.toInt64) * x3.toInt64))))] [.long (Int64.ofInt 0), .ref 20] (gE Lx) I (ul (ul (ul (ul (ul L 20 6 x3.toInt64) 20 7 x4.toInt64) 20 2 (L 17 0)) 20 3 (((L 17 0) * (L 17 0)) + ((L 17 1) * (L 17 1)))) 20 4 ((-(L 17 1)) * (L 17 2))) e Q
       else
        Wp 32 0 [(0, .long ((L 17 0) * (((((L 17 0) * (L 17 0)) + ((L 17 1) * (L 17 1))) * ((x3.toInt64 * x3.toInt64) + (x4.toInt64 * x4.toInt64))) - (((L 17 0) * x3.toInt64) * x3.toInt64))))] [] (gE Lx) I (ul (ul (ul (ul (ul L 20 6 x3.toInt64) 20 7 x4.toInt64) 20 2 (L 17 0)) 20 3 (((L 17 0) * (L 17 0)) + ((L 17 1) * (L 17 1)))) 20 4 ((-(L 17 1)) * (L 17 2))) e (kcp (Wp 34) 34 141 0 [(0, .ref 20), (1, .ref 17), (5, .long ((L 17 0) * (((((L 17 0) * (L 17 0)) + ((L 17 1) * (L 17 1))) * ((x3.toInt64 * x3.toInt64) + (x4.toInt64 * x4.toInt64))) - (((L 17 0) * x3.toInt64) * x3.toInt64))))] 71 [.ref 20] Q))
      else
       (if ((L 17 0) * (((((L 17 0) * (L 17 0)) + ((L 17 1) * (L 17 1))) * ((x3.toInt64 * x3.toInt64) + (x4.toInt64 * x4.toInt64))) - (((L 17 0) * x3.toInt64) * x3.toInt64))) < (Int64.ofInt 0) then
        Wp 34 144 [(0, .ref 20), (1, .ref 17), (5, .long ((L 17 0) * (((((L 17 0) * (L 17 0)) + ((L 17 1) * (L 17 1))) * ((x3.toInt64 * x3.toInt64) + (x4.toInt64 * x4.toInt64))) - (((L 17 0) * x3.toInt64) * x3.toInt64))))] [.long (Int64.ofInt 0), .ref 20] (gE Lx) I (ul (ul (ul (ul (ul L 20 6 x3.toInt64) 20 7 x4.toInt64) 20 2 (L 17 0)) 20 3 (((L 17 0) * (L 17 0)) + ((L 17 1) * (L 17 1)))) 20 4 (L 17 1)) e Q
       else
        Wp 32 0 [(0, .long ((L 17 0) * (((((L 17 0) * (L 17 0)) + ((L 17 1) * (L 17 1))) * ((x3.toInt64 * x3.toInt64) + (x4.toInt64 * x4.toInt64))) - (((L 17 0) * x3.toInt64) * x3.toInt64))))] [] (gE Lx) I (ul (ul (ul (ul (ul L 20 6 x3.toInt64) 20 7 x4.toInt64) 20 2 (L 17 0)) 20 3 (((L 17 0) * (L 17 0)) + ((L 17 1) * (L 17 1)))) 20 4 (L 17 1)) e (kcp (Wp 34) 34 141 0 [(0, .ref 20), (1, .ref 17), (5, .long ((L 17 0) * (((((L 17 0) * (L 17 0)) + ((L 17 1) * (L 17 1))) * ((x3.toInt64 * x3.toInt64) + (x4.toInt64 * x4.toInt64))) - (((L 17 0) * x3.toInt64) * x3.toInt64))))] 71 [.ref 20] Q)))
     else
      (if x2 = 0 then
       (if ((L 17 0) * (((L 17 2) * ((x3.toInt64 * x3.toInt64) + (x4.toInt64 * x4.toInt64))) - (((L 17 0) * x3.toInt64) * x3.toInt64))) < (Int64.ofInt 0) then
        Wp 34 144 [(0, .ref 20), (1, .ref 17), (5, .long ((L 17 0) * (((L 17 2) * ((x3.toInt64 * x3.toInt64) + (x4.toInt64 * x4.toInt64))) - (((L 17 0) * x3.toInt64) * x3.toInt64))))] [.long (Int64.ofInt 0), .ref 20] (gE Lx) I (ul (ul (ul (ul (ul L 20 6 x3.toInt64) 20 7 x4.toInt64) 20 2 (L 17 0)) 20 3 (L 17 2)) 20 4 ((-(L 17 1)) * (L 17 2))) e Q
       else
        Wp 32 0 [(0, .long ((L 17 0) * (((L 17 2) * ((x3.toInt64 * x3.toInt64) + (x4.toInt64 * x4.toInt64))) - (((L 17 0) * x3.toInt64) * x3.toInt64))))] [] (gE Lx) I (ul (ul (ul (ul (ul L 20 6 x3.toInt64) 20 7 x4.toInt64) 20 2 (L 17 0)) 20 3 (L 17 2)) 20 4 ((-(L 17 1)) * (L 17 2))) e (kcp (Wp 34) 34 141 0 [(0, .ref 20), (1, .ref 17), (5, .long ((L 17 0) * (((L 17 2) * ((x3.toInt64 * x3.toInt64) + (x4.toInt64 * x4.toInt64))) - (((L 17 0) * x3.toInt64) * x3.toInt64))))] 71 [.ref 20] Q))
      else
       (if ((L 17 0) * (((L 17 2) * ((x3.toInt64 * x3.toInt64) + (x4.toInt64 * x4.toInt64))) - (((L 17 0) * x3.toInt64) * x3.toInt64))) < (Int64.ofInt 0) then
        Wp 34 144 [(0, .ref 20), (1, .ref 17), (5, .long ((L 17 0) * (((L 17 2) * ((x3.toInt64 * x3.toInt64) + (x4.toInt64 * x4.toInt64))) - (((L 17 0) * x3.toInt64) * x3.toInt64))))] [.long (Int64.ofInt 0), .ref 20] (gE Lx) I (ul (ul (ul (ul (ul L 20 6 x3.toInt64) 20 7 x4.toInt64) 20 2 (L 17 0)) 20 3 (L 17 2)) 20 4 (L 17 1)) e Q
       else
        Wp 32 0 [(0, .long ((L 17 0) * (((L 17 2) * ((x3.toInt64 * x3.toInt64) + (x4.toInt64 * x4.toInt64))) - (((L 17 0) * x3.toInt64) * x3.toInt64))))] [] (gE Lx) I (ul (ul (ul (ul (ul L 20 6 x3.toInt64) 20 7 x4.toInt64) 20 2 (L 17 0)) 20 3 (L 17 2)) 20 4 (L 17 1)) e (kcp (Wp 34) 34 141 0 [(0, .ref 20), (1, .ref 17), (5, .long ((L 17 0) * (((L 17 2) * ((x3.toInt64 * x3.toInt64) + (x4.toInt64 * x4.toInt64))) - (((L 17 0) * x3.toInt64) * x3.toInt64))))] 71 [.ref 20] Q)))))) :
    Wp 34 0 [(0, .ref 20), (1, .ref 17), (2, .int x2), (3, .int x3), (4, .int x4)] [] (gE Lx) I L e Q := Wp.go [(32, 0, []), (34, 144, [0, 1, 5])] 1000 h
set_option maxRecDepth 10000 in
set_option maxHeartbeats 4000000 in
theorem s_34_144 {Lx : Nat} {I : Mi} {L : Ml} {e : Nat} {Q : Kq} {y5 : Int64} {rl : Int64} (h :
    (if (rl * rl) = y5 then
     (if (L 20 2) = (Int64.ofInt 0) then
      Q (.inl none) (gE Lx) (ui (ui I 20 1 (Int32.ofInt 1)) 20 0 (Int32.ofInt 0)) (ul L 20 5 rl) e
     else
      (if y5 < (Int64.ofInt 0) then
       Q (.inl none) (gE Lx) (ui (ui I 20 1 (Int32.ofInt 1)) 20 0 (Int32.ofInt 0)) (ul L 20 5 rl) e
      else
       (if y5 = (Int64.ofInt 0) then
        Q (.inl none) (gE Lx) (ui (ui I 20 1 (Int32.ofInt 1)) 20 0 (Int32.ofInt 1)) (ul L 20 5 rl) e
       else
        Q (.inl none) (gE Lx) (ui (ui I 20 1 (Int32.ofInt 1)) 20 0 (Int32.ofInt 2)) (ul L 20 5 rl) e)))
    else
     (if (L 20 2) = (Int64.ofInt 0) then
      Q (.inl none) (gE Lx) (ui (ui I 20 1 (Int32.ofInt 0)) 20 0 (Int32.ofInt 0)) (ul L 20 5 rl) e
     else
      (if y5 < (Int64.ofInt 0) then
       Q (.inl none) (gE Lx) (ui (ui I 20 1 (Int32.ofInt 0)) 20 0 (Int32.ofInt 0)) (ul L 20 5 rl) e
      else
       (if y5 = (Int64.ofInt 0) then
        Q (.inl none) (gE Lx) (ui (ui I 20 1 (Int32.ofInt 0)) 20 0 (Int32.ofInt 1)) (ul L 20 5 rl) e
       else
        Q (.inl none) (gE Lx) (ui (ui I 20 1 (Int32.ofInt 0)) 20 0 (Int32.ofInt 2)) (ul L 20 5 rl) e))))) :
    Wp 34 144 [(0, .ref 20), (1, .ref 17), (5, .long y5)] [.long rl, .ref 20] (gE Lx) I L e Q := Wp.go [] 1000 h
theorem s_35_28 {Lx : Nat} {I : Mi} {L : Ml} {e : Nat} {Q : Kq} (h :
    Q (.inl none) (gE Lx) I L e) :
    Wp 35 28 [(0, .ref 20), (2, .ref 18)] [] (gE Lx) I L e Q := Wp.go [] 1000 h
theorem s_37_38 {Lx : Nat} {I : Mi} {L : Ml} {e : Nat} {Q : Kq} (h :
    Q (.inl none) (gE Lx) I L e) :
    Wp 37 38 [(0, .ref 20), (2, .ref 18)] [] (gE Lx) I L e Q := Wp.go [] 1000 h
