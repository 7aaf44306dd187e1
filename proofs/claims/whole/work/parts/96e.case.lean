/-! Cases of the law: 27 to 38, by program. -/
set_option maxHeartbeats 4000000 in
theorem k_27 {Lx i : Nat} {I : Mi} {L : Ml} {e : Nat} {Q : Kq} {ch : Ch} {sh : Nat → Option Ch} {a b : Int} (hL : Lx ≤ 5120) (hi : i + 9 < Lx) (hok : ChOk ch) (hsh : ShOk sh) (hc : CSt I ch sh a b) (hr : RSt I ch sh a b) (hn : NX Lx i Q e) : Wp 420 2820 [(0, .ref 0), (1, .ref 1), (2, .ref 58), (3, .ref 70), (4, .int (Int32.ofInt (i : Int)))] [] (gE Lx) I L e Q := by
  obtain ⟨z1, r1, q1⟩ := o32 (I 0 ((Int32.ofInt (i : Int) + Int32.ofInt 1).toNatClampNeg))
  obtain ⟨z3, r3, q3⟩ := o32 (I 0 ((Int32.ofInt (i : Int) + Int32.ofInt 3).toNatClampNeg))
  obtain ⟨z4, r4, q4⟩ := o32 (I 0 ((Int32.ofInt (i : Int) + Int32.ofInt 4).toNatClampNeg))
  by_cases b2 : I 0 ((Int32.ofInt (i : Int) + Int32.ofInt 2).toNatClampNeg) = 0
  all_goals by_cases b5 : I 0 ((Int32.ofInt (i : Int) + Int32.ofInt 5).toNatClampNeg) = 0
  all_goals
    refine s_420_2820 ?_
    refine n_go hL (by decide) (by omega) ?_
    refine n_go hL (by decide) (by omega) ?_
    first | refine i_t b2 ?_ | refine i_f b2 ?_
    refine n_go hL (by decide) (by omega) ?_
    refine n_go hL (by decide) (by omega) ?_
    refine n_go hL (by decide) (by omega) ?_
    first | refine i_t b5 ?_ | refine i_f b5 ?_
    rw [q1, q3, q4]
    refine cqi (fun Q h => h_394 hok hc.c hc.t r1 (by omega) r3 r4 (by omega) h) (fun Q h => v_394 h) (fun I1 L1 e1 hf he hv => kcp_v rfl (s_420_2871 ?_))
    rw [show I1 0 = I 0 from hf.at rfl]
    refine n_go hL (by decide) (by omega) ?_
    refine n_go hL (by decide) (by omega) ?_
    first | refine i_t b2 ?_ | refine i_f b2 ?_
    refine n_go hL (by decide) (by omega) ?_
    refine n_go hL (by decide) (by omega) ?_
    refine n_go hL (by decide) (by omega) ?_
    first | refine i_t b5 ?_ | refine i_f b5 ?_
    rw [q1, q3, q4]
    have hr1 : RSt I1 ch sh a b := hr.cw (hf.up rfl)
    exact r_292 hok hr1.c hr1.t r1 (by omega) r3 r4 (by omega) (fun I2 L2 v hf2 hl hc2 hv2 => kcp_v rfl (s_420_2923 (tl_i cd_394 hc2 hv2 (fun k => by rw [hl]; exact hv k) (hn I2 L2 e1 (LwS.rd hok hsh hc hr hf hf2) he))))
set_option maxHeartbeats 4000000 in
theorem k_28 {Lx i : Nat} {I : Mi} {L : Ml} {e : Nat} {Q : Kq} {ch : Ch} {sh : Nat → Option Ch} {a b : Int} (hL : Lx ≤ 5120) (hi : i + 9 < Lx) (hok : ChOk ch) (hsh : ShOk sh) (hc : CSt I ch sh a b) (hr : RSt I ch sh a b) (hn : NX Lx i Q e) : Wp 420 2956 [(0, .ref 0), (1, .ref 1), (2, .ref 58), (3, .ref 70), (4, .int (Int32.ofInt (i : Int)))] [] (gE Lx) I L e Q := by
  obtain ⟨z1, r1, q1⟩ := o32 (I 0 ((Int32.ofInt (i : Int) + Int32.ofInt 1).toNatClampNeg))
  obtain ⟨z3, r3, q3⟩ := o32 (I 0 ((Int32.ofInt (i : Int) + Int32.ofInt 3).toNatClampNeg))
  obtain ⟨z4, r4, q4⟩ := o32 (I 0 ((Int32.ofInt (i : Int) + Int32.ofInt 4).toNatClampNeg))
  obtain ⟨z5, r5, q5⟩ := o32 (I 0 ((Int32.ofInt (i : Int) + Int32.ofInt 5).toNatClampNeg))
  by_cases b2 : I 0 ((Int32.ofInt (i : Int) + Int32.ofInt 2).toNatClampNeg) = 0
  all_goals
    refine s_420_2956 ?_
    refine n_go hL (by decide) (by omega) ?_
    refine n_go hL (by decide) (by omega) ?_
    first | refine i_t b2 ?_ | refine i_f b2 ?_
    refine n_go hL (by decide) (by omega) ?_
    refine n_go hL (by decide) (by omega) ?_
    refine n_go hL (by decide) (by omega) ?_
    rw [q1, q3, q4, q5]
    refine cqi (fun Q h => h_395 hok hc.c hc.t r1 (by omega) r3 r4 r5 h) (fun Q h => v_395 h) (fun I1 L1 e1 hf he hv => kcp_v rfl (s_420_2999 ?_))
    rw [show I1 0 = I 0 from hf.at rfl]
    refine n_go hL (by decide) (by omega) ?_
    refine n_go hL (by decide) (by omega) ?_
    first | refine i_t b2 ?_ | refine i_f b2 ?_
    refine n_go hL (by decide) (by omega) ?_
    refine n_go hL (by decide) (by omega) ?_
    refine n_go hL (by decide) (by omega) ?_
    rw [q1, q3, q4, q5]
    have hr1 : RSt I1 ch sh a b := hr.cw (hf.up rfl)
    exact r_295 hok hr1.c hr1.t r1 (by omega) r3 r4 r5 (fun I2 L2 v hf2 hl hc2 hv2 => kcp_v rfl (s_420_3043 (tl_i cd_395 hc2 hv2 (fun k => by rw [hl]; exact hv k) (hn I2 L2 e1 (LwS.rd hok hsh hc hr hf hf2) he))))
set_option maxHeartbeats 4000000 in
theorem k_29 {Lx i : Nat} {I : Mi} {L : Ml} {e : Nat} {Q : Kq} {ch : Ch} {sh : Nat → Option Ch} {a b : Int} (hL : Lx ≤ 5120) (hi : i + 9 < Lx) (hok : ChOk ch) (hsh : ShOk sh) (hc : CSt I ch sh a b) (hr : RSt I ch sh a b) (hn : NX Lx i Q e) : Wp 420 3076 [(0, .ref 0), (1, .ref 1), (2, .ref 58), (3, .ref 70), (4, .int (Int32.ofInt (i : Int)))] [] (gE Lx) I L e Q := by
  obtain ⟨z1, r1, q1⟩ := o32 (I 0 ((Int32.ofInt (i : Int) + Int32.ofInt 1).toNatClampNeg))
  by_cases b2 : I 0 ((Int32.ofInt (i : Int) + Int32.ofInt 2).toNatClampNeg) = 0
  all_goals
    refine s_420_3076 ?_
    refine n_go hL (by decide) (by omega) ?_
    refine n_go hL (by decide) (by omega) ?_
    first | refine i_t b2 ?_ | refine i_f b2 ?_
    rw [q1]
    refine cqi (fun Q h => h_396 hok hc.c r1 (by omega) h) (fun Q h => v_396 h) (fun I1 L1 e1 hf he hv => kcp_v rfl (s_420_3101 ?_))
    rw [show I1 0 = I 0 from hf.at rfl]
    refine n_go hL (by decide) (by omega) ?_
    refine n_go hL (by decide) (by omega) ?_
    first | refine i_t b2 ?_ | refine i_f b2 ?_
    rw [q1]
    have hr1 : RSt I1 ch sh a b := hr.cw (hf.up rfl)
    exact r_297 hok hr1.c r1 (by omega) (fun I2 L2 v hf2 hl hc2 hv2 => kcp_v rfl (s_420_3127 (tl_i cd_396 hc2 hv2 (fun k => by rw [hl]; exact hv k) (hn I2 L2 e1 (LwS.rd hok hsh hc hr hf hf2) he))))
set_option maxHeartbeats 4000000 in
theorem k_30 {Lx i : Nat} {I : Mi} {L : Ml} {e : Nat} {Q : Kq} {ch : Ch} {sh : Nat → Option Ch} {a b : Int} (hL : Lx ≤ 5120) (hi : i + 9 < Lx) (hok : ChOk ch) (hsh : ShOk sh) (hc : CSt I ch sh a b) (hr : RSt I ch sh a b) (hn : NX Lx i Q e) : Wp 420 3160 [(0, .ref 0), (1, .ref 1), (2, .ref 58), (3, .ref 70), (4, .int (Int32.ofInt (i : Int)))] [] (gE Lx) I L e Q := by
  obtain ⟨z1, r1, q1⟩ := o32 (I 0 ((Int32.ofInt (i : Int) + Int32.ofInt 1).toNatClampNeg))
  obtain ⟨z3, r3, q3⟩ := o32 (I 0 ((Int32.ofInt (i : Int) + Int32.ofInt 3).toNatClampNeg))
  by_cases b2 : I 0 ((Int32.ofInt (i : Int) + Int32.ofInt 2).toNatClampNeg) = 0
  all_goals by_cases b4 : I 0 ((Int32.ofInt (i : Int) + Int32.ofInt 4).toNatClampNeg) = 0
  all_goals by_cases b5 : I 0 ((Int32.ofInt (i : Int) + Int32.ofInt 5).toNatClampNeg) = 0
  all_goals
    refine s_420_3160 ?_
    refine n_go hL (by decide) (by omega) ?_
    refine n_go hL (by decide) (by omega) ?_
    first | refine i_t b2 ?_ | refine i_f b2 ?_
    refine n_go hL (by decide) (by omega) ?_
    refine n_go hL (by decide) (by omega) ?_
    first | refine i_t b4 ?_ | refine i_f b4 ?_
    refine n_go hL (by decide) (by omega) ?_
    first | refine i_t b5 ?_ | refine i_f b5 ?_
    rw [q1, q3]
    refine h_397 hok hc.c r1 (by omega) r3 (by omega) (by omega) (fun I1 L1 e1 hf he hv => kcp_v rfl (s_420_3219 ?_))
    rw [show I1 0 = I 0 from hf.at rfl]
    refine n_go hL (by decide) (by omega) ?_
    refine n_go hL (by decide) (by omega) ?_
    first | refine i_t b2 ?_ | refine i_f b2 ?_
    refine n_go hL (by decide) (by omega) ?_
    refine n_go hL (by decide) (by omega) ?_
    first | refine i_t b4 ?_ | refine i_f b4 ?_
    refine n_go hL (by decide) (by omega) ?_
    first | refine i_t b5 ?_ | refine i_f b5 ?_
    rw [q1, q3]
    have hr1 : RSt I1 ch sh a b := hr.cw (hf.up rfl)
    exact r_299 hok hr1.c r1 (by omega) r3 (by omega) (by omega) (fun I2 L2 v hf2 hl hc2 hv2 => kcp_v rfl (s_420_3279 (tl_l cd_397 hc2 hv2 (fun k => by rw [hl]; exact hv k) (hn I2 L2 e1 (LwS.rd hok hsh hc hr hf hf2) he))))
set_option maxHeartbeats 4000000 in
theorem k_31 {Lx i : Nat} {I : Mi} {L : Ml} {e : Nat} {Q : Kq} {ch : Ch} {sh : Nat → Option Ch} {a b : Int} (hL : Lx ≤ 5120) (hi : i + 9 < Lx) (hok : ChOk ch) (hsh : ShOk sh) (hc : CSt I ch sh a b) (hr : RSt I ch sh a b) (hn : NX Lx i Q e) : Wp 420 3311 [(0, .ref 0), (1, .ref 1), (2, .ref 58), (3, .ref 70), (4, .int (Int32.ofInt (i : Int)))] [] (gE Lx) I L e Q := by
  obtain ⟨z1, r1, q1⟩ := o32 (I 0 ((Int32.ofInt (i : Int) + Int32.ofInt 1).toNatClampNeg))
  by_cases b2 : I 0 ((Int32.ofInt (i : Int) + Int32.ofInt 2).toNatClampNeg) = 0
  all_goals by_cases b3 : I 0 ((Int32.ofInt (i : Int) + Int32.ofInt 3).toNatClampNeg) = 0
  all_goals
    refine s_420_3311 ?_
    refine n_go hL (by decide) (by omega) ?_
    refine n_go hL (by decide) (by omega) ?_
    first | refine i_t b2 ?_ | refine i_f b2 ?_
    refine n_go hL (by decide) (by omega) ?_
    first | refine i_t b3 ?_ | refine i_f b3 ?_
    rw [q1]
    refine h_398 hok hc.c r1 (by omega) (by omega) (fun I1 L1 e1 hf he hv => kcp_v rfl (s_420_3350 ?_))
    rw [show I1 0 = I 0 from hf.at rfl]
    refine n_go hL (by decide) (by omega) ?_
    refine n_go hL (by decide) (by omega) ?_
    first | refine i_t b2 ?_ | refine i_f b2 ?_
    refine n_go hL (by decide) (by omega) ?_
    first | refine i_t b3 ?_ | refine i_f b3 ?_
    rw [q1]
    have hr1 : RSt I1 ch sh a b := hr.cw (hf.up rfl)
    exact r_300 hok hr1.c r1 (by omega) (by omega) (fun I2 L2 v hf2 hl hc2 hv2 => kcp_v rfl (s_420_3390 (tl_l cd_398 hc2 hv2 (fun k => by rw [hl]; exact hv k) (hn I2 L2 e1 (LwS.rd hok hsh hc hr hf hf2) he))))
set_option maxHeartbeats 4000000 in
theorem k_32 {Lx i : Nat} {I : Mi} {L : Ml} {e : Nat} {Q : Kq} {ch : Ch} {sh : Nat → Option Ch} {a b : Int} (hL : Lx ≤ 5120) (hi : i + 9 < Lx) (hok : ChOk ch) (hsh : ShOk sh) (hc : CSt I ch sh a b) (hr : RSt I ch sh a b) (hn : NX Lx i Q e) : Wp 420 3422 [(0, .ref 0), (1, .ref 1), (2, .ref 58), (3, .ref 70), (4, .int (Int32.ofInt (i : Int)))] [] (gE Lx) I L e Q := by
  obtain ⟨z1, r1, q1⟩ := o32 (I 0 ((Int32.ofInt (i : Int) + Int32.ofInt 1).toNatClampNeg))
  by_cases b2 : I 0 ((Int32.ofInt (i : Int) + Int32.ofInt 2).toNatClampNeg) = 0
  all_goals
    refine s_420_3422 ?_
    refine n_go hL (by decide) (by omega) ?_
    refine n_go hL (by decide) (by omega) ?_
    first | refine i_t b2 ?_ | refine i_f b2 ?_
    rw [q1]
    refine h_399 hok hc.c r1 (by omega) (fun I1 L1 e1 hf he hv => kcp_v rfl (s_420_3447 ?_))
    rw [show I1 0 = I 0 from hf.at rfl]
    refine n_go hL (by decide) (by omega) ?_
    refine n_go hL (by decide) (by omega) ?_
    first | refine i_t b2 ?_ | refine i_f b2 ?_
    rw [q1]
    have hr1 : RSt I1 ch sh a b := hr.cw (hf.up rfl)
    exact r_303 hok hr1.c r1 (by omega) (fun I2 L2 v hf2 hl hc2 hv2 => kcp_v rfl (s_420_3473 (tl_l cd_399 hc2 hv2 (fun k => by rw [hl]; exact hv k) (hn I2 L2 e1 (LwS.rd hok hsh hc hr hf hf2) he))))
set_option maxHeartbeats 4000000 in
theorem k_33 {Lx i : Nat} {I : Mi} {L : Ml} {e : Nat} {Q : Kq} {ch : Ch} {sh : Nat → Option Ch} {a b : Int} (hL : Lx ≤ 5120) (hi : i + 9 < Lx) (hok : ChOk ch) (hsh : ShOk sh) (hc : CSt I ch sh a b) (hr : RSt I ch sh a b) (hn : NX Lx i Q e) : Wp 420 3505 [(0, .ref 0), (1, .ref 1), (2, .ref 58), (3, .ref 70), (4, .int (Int32.ofInt (i : Int)))] [] (gE Lx) I L e Q := by
  obtain ⟨z1, r1, q1⟩ := o32 (I 0 ((Int32.ofInt (i : Int) + Int32.ofInt 1).toNatClampNeg))
  all_goals
    refine s_420_3505 ?_
    refine n_go hL (by decide) (by omega) ?_
    rw [q1]
    refine h_400 hok hc.c r1 (fun I1 L1 e1 hf he hv => kcp_v rfl (s_420_3516 ?_))
    rw [show I1 0 = I 0 from hf.at rfl]
    refine n_go hL (by decide) (by omega) ?_
    rw [q1]
    have hr1 : RSt I1 ch sh a b := hr.cw (hf.up rfl)
    exact r_304 hok hr1.c r1 (fun I2 L2 v hf2 hl hc2 hv2 => kcp_v rfl (s_420_3528 (tl_b cd_400 (fun _ => vb_400) hc2 hv2 (fun k => by rw [hl]; exact hv k) (hn I2 L2 e1 (LwS.rd hok hsh hc hr hf hf2) he))))
set_option maxHeartbeats 4000000 in
theorem k_34 {Lx i : Nat} {I : Mi} {L : Ml} {e : Nat} {Q : Kq} {ch : Ch} {sh : Nat → Option Ch} {a b : Int} (hL : Lx ≤ 5120) (hi : i + 9 < Lx) (hok : ChOk ch) (hsh : ShOk sh) (hc : CSt I ch sh a b) (hr : RSt I ch sh a b) (hn : NX Lx i Q e) : Wp 420 3568 [(0, .ref 0), (1, .ref 1), (2, .ref 58), (3, .ref 70), (4, .int (Int32.ofInt (i : Int)))] [] (gE Lx) I L e Q := by
  obtain ⟨z1, r1, q1⟩ := o32 (I 0 ((Int32.ofInt (i : Int) + Int32.ofInt 1).toNatClampNeg))
  obtain ⟨z2, r2, q2⟩ := o32 (I 0 ((Int32.ofInt (i : Int) + Int32.ofInt 2).toNatClampNeg))
  obtain ⟨z3, r3, q3⟩ := o32 (I 0 ((Int32.ofInt (i : Int) + Int32.ofInt 3).toNatClampNeg))
  all_goals
    refine s_420_3568 ?_
    refine n_go hL (by decide) (by omega) ?_
    refine n_go hL (by decide) (by omega) ?_
    refine n_go hL (by decide) (by omega) ?_
    rw [q1, q2, q3]
    refine cqi (fun Q h => h_401 hok hc.c hc.t r1 r2 r3 h) (fun Q h => v_401 h) (fun I1 L1 e1 hf he hv => kcp_v rfl (s_420_3591 ?_))
    rw [show I1 0 = I 0 from hf.at rfl]
    refine n_go hL (by decide) (by omega) ?_
    refine n_go hL (by decide) (by omega) ?_
    refine n_go hL (by decide) (by omega) ?_
    rw [q1, q2, q3]
    have hr1 : RSt I1 ch sh a b := hr.cw (hf.up rfl)
    exact r_322 hok hr1.c hr1.t r1 r2 r3 (fun I2 L2 v hf2 hl hc2 hv2 => kcp_v rfl (s_420_3615 (tl_i cd_401 hc2 hv2 (fun k => by rw [hl]; exact hv k) (hn I2 L2 e1 (LwS.rd hok hsh hc hr hf hf2) he))))
set_option maxHeartbeats 4000000 in
theorem k_35 {Lx i : Nat} {I : Mi} {L : Ml} {e : Nat} {Q : Kq} {ch : Ch} {sh : Nat → Option Ch} {a b : Int} (hL : Lx ≤ 5120) (hi : i + 9 < Lx) (hok : ChOk ch) (hsh : ShOk sh) (hc : CSt I ch sh a b) (hr : RSt I ch sh a b) (hn : NX Lx i Q e) : Wp 420 3648 [(0, .ref 0), (1, .ref 1), (2, .ref 58), (3, .ref 70), (4, .int (Int32.ofInt (i : Int)))] [] (gE Lx) I L e Q := by
  obtain ⟨z1, r1, q1⟩ := o32 (I 0 ((Int32.ofInt (i : Int) + Int32.ofInt 1).toNatClampNeg))
  obtain ⟨z2, r2, q2⟩ := o32 (I 0 ((Int32.ofInt (i : Int) + Int32.ofInt 2).toNatClampNeg))
  all_goals
    refine s_420_3648 ?_
    refine n_go hL (by decide) (by omega) ?_
    refine n_go hL (by decide) (by omega) ?_
    rw [q1, q2]
    refine cqi (fun Q h => h_402 hok hc.c hc.t r1 r2 h) (fun Q h => v_402 h) (fun I1 L1 e1 hf he hv => kcp_v rfl (s_420_3665 ?_))
    rw [show I1 0 = I 0 from hf.at rfl]
    refine n_go hL (by decide) (by omega) ?_
    refine n_go hL (by decide) (by omega) ?_
    rw [q1, q2]
    have hr1 : RSt I1 ch sh a b := hr.cw (hf.up rfl)
    exact r_323 hok hr1.c hr1.t r1 r2 (fun I2 L2 v hf2 hl hc2 hv2 => kcp_v rfl (s_420_3683 (tl_i cd_402 hc2 hv2 (fun k => by rw [hl]; exact hv k) (hn I2 L2 e1 (LwS.rd hok hsh hc hr hf hf2) he))))
set_option maxHeartbeats 4000000 in
theorem k_36 {Lx i : Nat} {I : Mi} {L : Ml} {e : Nat} {Q : Kq} {ch : Ch} {sh : Nat → Option Ch} {a b : Int} (hL : Lx ≤ 5120) (hi : i + 9 < Lx) (hok : ChOk ch) (hsh : ShOk sh) (hc : CSt I ch sh a b) (hr : RSt I ch sh a b) (hn : NX Lx i Q e) : Wp 420 3716 [(0, .ref 0), (1, .ref 1), (2, .ref 58), (3, .ref 70), (4, .int (Int32.ofInt (i : Int)))] [] (gE Lx) I L e Q := by
  all_goals
    refine s_420_3716 ?_
    refine h_403 hok hc.c (fun I1 L1 e1 hf hch he hv => kcp_v rfl (s_420_3720 ?_))
    have hr1 : RSt I1 ch sh a b := hr.cw hf
    exact r_336 hok hr1.c (fun I2 L2 v hf2 hbn hl hc2 hv2 => kcp_v rfl (s_420_3726 (i_t hc2 (hn I2 L2 e1 (LwS.wr (spDual_ok hok) hsh hc hr hf hch hf2 hbn) he))))
set_option maxHeartbeats 4000000 in
theorem k_37 {Lx i : Nat} {I : Mi} {L : Ml} {e : Nat} {Q : Kq} {ch : Ch} {sh : Nat → Option Ch} {a b : Int} (hL : Lx ≤ 5120) (hi : i + 9 < Lx) (hok : ChOk ch) (hsh : ShOk sh) (hc : CSt I ch sh a b) (hr : RSt I ch sh a b) (hn : NX Lx i Q e) : Wp 420 3741 [(0, .ref 0), (1, .ref 1), (2, .ref 58), (3, .ref 70), (4, .int (Int32.ofInt (i : Int)))] [] (gE Lx) I L e Q := by
  obtain ⟨z1, r1, q1⟩ := o32 (I 0 ((Int32.ofInt (i : Int) + Int32.ofInt 1).toNatClampNeg))
  obtain ⟨z2, r2, q2⟩ := o32 (I 0 ((Int32.ofInt (i : Int) + Int32.ofInt 2).toNatClampNeg))
  all_goals
    refine s_420_3741 ?_
    refine n_go hL (by decide) (by omega) ?_
    refine n_go hL (by decide) (by omega) ?_
    rw [q1, q2]
    refine cqi (fun Q h => h_404 hok hc.c hc.t r1 r2 h) (fun Q h => v_404 h) (fun I1 L1 e1 hf he hv => kcp_v rfl (s_420_3758 ?_))
    rw [show I1 0 = I 0 from hf.at rfl]
    refine n_go hL (by decide) (by omega) ?_
    refine n_go hL (by decide) (by omega) ?_
    rw [q1, q2]
    have hr1 : RSt I1 ch sh a b := hr.cw (hf.up rfl)
    exact r_309 hok hr1.c hr1.t r1 r2 (fun I2 L2 v hf2 hl hc2 hv2 => kcp_v rfl (s_420_3776 (tl_i cd_404 hc2 hv2 (fun k => by rw [hl]; exact hv k) (hn I2 L2 e1 (LwS.rd hok hsh hc hr hf hf2) he))))
set_option maxHeartbeats 4000000 in
theorem k_38 {Lx i : Nat} {I : Mi} {L : Ml} {e : Nat} {Q : Kq} {ch : Ch} {sh : Nat → Option Ch} {a b : Int} (hL : Lx ≤ 5120) (hi : i + 9 < Lx) (hok : ChOk ch) (hsh : ShOk sh) (hc : CSt I ch sh a b) (hr : RSt I ch sh a b) (hn : NX Lx i Q e) : Wp 420 3809 [(0, .ref 0), (1, .ref 1), (2, .ref 58), (3, .ref 70), (4, .int (Int32.ofInt (i : Int)))] [] (gE Lx) I L e Q := by
  obtain ⟨z1, r1, q1⟩ := o32 (I 0 ((Int32.ofInt (i : Int) + Int32.ofInt 1).toNatClampNeg))
  obtain ⟨z3, r3, q3⟩ := o32 (I 0 ((Int32.ofInt (i : Int) + Int32.ofInt 3).toNatClampNeg))
  obtain ⟨z4, r4, q4⟩ := o32 (I 0 ((Int32.ofInt (i : Int) + Int32.ofInt 4).toNatClampNeg))
  obtain ⟨z5, r5, q5⟩ := o32 (I 0 ((Int32.ofInt (i : Int) + Int32.ofInt 5).toNatClampNeg))
  obtain ⟨z6, r6, q6⟩ := o32 (I 0 ((Int32.ofInt (i : Int) + Int32.ofInt 6).toNatClampNeg))
  by_cases b2 : I 0 ((Int32.ofInt (i : Int) + Int32.ofInt 2).toNatClampNeg) = 0
  all_goals
    refine s_420_3809 ?_
    refine n_go hL (by decide) (by omega) ?_
    refine n_go hL (by decide) (by omega) ?_
    first | refine i_t b2 ?_ | refine i_f b2 ?_
    refine n_go hL (by decide) (by omega) ?_
    refine n_go hL (by decide) (by omega) ?_
    refine n_go hL (by decide) (by omega) ?_
    refine n_go hL (by decide) (by omega) ?_
    rw [q1, q3, q4, q5, q6]
    refine cqi (fun Q h => h_405 hok hc.c r1 (by omega) r3 r4 r5 r6 h) (fun Q h => v_405 h) (fun I1 L1 e1 hf he hv => kcp_v rfl (s_420_3859 ?_))
    rw [show I1 0 = I 0 from hf.at rfl]
    refine n_go hL (by decide) (by omega) ?_
    refine n_go hL (by decide) (by omega) ?_
    first | refine i_t b2 ?_ | refine i_f b2 ?_
    refine n_go hL (by decide) (by omega) ?_
    refine n_go hL (by decide) (by omega) ?_
    refine n_go hL (by decide) (by omega) ?_
    refine n_go hL (by decide) (by omega) ?_
    rw [q1, q3, q4, q5, q6]
    have hr1 : RSt I1 ch sh a b := hr.cw (hf.up rfl)
    exact r_288 hok hr1.c r1 (by omega) r3 r4 r5 r6 (fun I2 L2 v hf2 hl hc2 hv2 => kcp_v rfl (s_420_3910 (tl_i cd_405 hc2 hv2 (fun k => by rw [hl]; exact hv k) (hn I2 L2 e1 (LwS.rd hok hsh hc hr hf hf2) he))))
