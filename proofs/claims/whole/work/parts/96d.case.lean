/-! Cases of the law: 15 to 26, by program. -/
set_option maxHeartbeats 4000000 in
theorem k_15 {Lx i : Nat} {I : Mi} {L : Ml} {e : Nat} {Q : Kq} {ch : Ch} {sh : Nat → Option Ch} {a b : Int} (hL : Lx ≤ 5120) (hi : i + 9 < Lx) (hok : ChOk ch) (hsh : ShOk sh) (hc : CSt I ch sh a b) (hr : RSt I ch sh a b) (hn : NX Lx i Q e) : Wp 420 1479 [(0, .ref 0), (1, .ref 1), (2, .ref 58), (3, .ref 70), (4, .int (Int32.ofInt (i : Int)))] [] (gE Lx) I L e Q := by
  obtain ⟨z1, r1, q1⟩ := o32 (I 0 ((Int32.ofInt (i : Int) + Int32.ofInt 1).toNatClampNeg))
  by_cases b2 : I 0 ((Int32.ofInt (i : Int) + Int32.ofInt 2).toNatClampNeg) = 0
  all_goals
    refine s_420_1479 ?_
    refine n_go hL (by decide) (by omega) ?_
    refine n_go hL (by decide) (by omega) ?_
    first | refine i_t b2 ?_ | refine i_f b2 ?_
    rw [q1]
    refine cqi (fun Q h => h_382 hok hc.c r1 (by omega) h) (fun Q h => v_382 h) (fun I1 L1 e1 hf he hv => kcp_v rfl (s_420_1504 ?_))
    rw [show I1 0 = I 0 from hf.at rfl]
    refine n_go hL (by decide) (by omega) ?_
    refine n_go hL (by decide) (by omega) ?_
    first | refine i_t b2 ?_ | refine i_f b2 ?_
    rw [q1]
    have hr1 : RSt I1 ch sh a b := hr.cw (hf.up rfl)
    exact r_250 hok hr1.c r1 (fun I2 L2 v hf2 hl hc2 hv2 => kcp_v rfl (s_420_1530 (tl_i cd_382 hc2 hv2 (fun k => by rw [hl]; exact hv k) (hn I2 L2 e1 (LwS.rd hok hsh hc hr hf hf2) he))))
set_option maxHeartbeats 4000000 in
theorem k_16 {Lx i : Nat} {I : Mi} {L : Ml} {e : Nat} {Q : Kq} {ch : Ch} {sh : Nat → Option Ch} {a b : Int} (hL : Lx ≤ 5120) (hi : i + 9 < Lx) (hok : ChOk ch) (hsh : ShOk sh) (hc : CSt I ch sh a b) (hr : RSt I ch sh a b) (hn : NX Lx i Q e) : Wp 420 1563 [(0, .ref 0), (1, .ref 1), (2, .ref 58), (3, .ref 70), (4, .int (Int32.ofInt (i : Int)))] [] (gE Lx) I L e Q := by
  obtain ⟨z1, r1, q1⟩ := o32 (I 0 ((Int32.ofInt (i : Int) + Int32.ofInt 1).toNatClampNeg))
  obtain ⟨z3, r3, q3⟩ := o32 (I 0 ((Int32.ofInt (i : Int) + Int32.ofInt 3).toNatClampNeg))
  by_cases b2 : I 0 ((Int32.ofInt (i : Int) + Int32.ofInt 2).toNatClampNeg) = 0
  all_goals
    refine s_420_1563 ?_
    refine n_go hL (by decide) (by omega) ?_
    refine n_go hL (by decide) (by omega) ?_
    first | refine i_t b2 ?_ | refine i_f b2 ?_
    refine n_go hL (by decide) (by omega) ?_
    rw [q1, q3]
    refine h_383 hok hc.c r1 (by omega) r3 (fun I1 L1 e1 hf he hv => kcp_v rfl (s_420_1594 ?_))
    rw [show I1 0 = I 0 from hf.at rfl]
    refine n_go hL (by decide) (by omega) ?_
    refine n_go hL (by decide) (by omega) ?_
    first | refine i_t b2 ?_ | refine i_f b2 ?_
    refine n_go hL (by decide) (by omega) ?_
    rw [q1, q3]
    have hr1 : RSt I1 ch sh a b := hr.cw (hf.up rfl)
    exact r_255 hok hr1.c r1 (by omega) r3 (fun I2 L2 v hf2 hl hc2 hv2 => kcp_v rfl (s_420_1626 (tl_b cd_383 (fun _ => vb_383) hc2 hv2 (fun k => by rw [hl]; exact hv k) (hn I2 L2 e1 (LwS.rd hok hsh hc hr hf hf2) he))))
set_option maxHeartbeats 4000000 in
theorem k_17 {Lx i : Nat} {I : Mi} {L : Ml} {e : Nat} {Q : Kq} {ch : Ch} {sh : Nat → Option Ch} {a b : Int} (hL : Lx ≤ 5120) (hi : i + 9 < Lx) (hok : ChOk ch) (hsh : ShOk sh) (hc : CSt I ch sh a b) (hr : RSt I ch sh a b) (hn : NX Lx i Q e) : Wp 420 1666 [(0, .ref 0), (1, .ref 1), (2, .ref 58), (3, .ref 70), (4, .int (Int32.ofInt (i : Int)))] [] (gE Lx) I L e Q := by
  obtain ⟨z1, r1, q1⟩ := o32 (I 0 ((Int32.ofInt (i : Int) + Int32.ofInt 1).toNatClampNeg))
  obtain ⟨z3, r3, q3⟩ := o32 (I 0 ((Int32.ofInt (i : Int) + Int32.ofInt 3).toNatClampNeg))
  by_cases b2 : I 0 ((Int32.ofInt (i : Int) + Int32.ofInt 2).toNatClampNeg) = 0
  all_goals by_cases b4 : I 0 ((Int32.ofInt (i : Int) + Int32.ofInt 4).toNatClampNeg) = 0
  all_goals
    refine s_420_1666 ?_
    refine n_go hL (by decide) (by omega) ?_
    refine n_go hL (by decide) (by omega) ?_
    first | refine i_t b2 ?_ | refine i_f b2 ?_
    refine n_go hL (by decide) (by omega) ?_
    refine n_go hL (by decide) (by omega) ?_
    first | refine i_t b4 ?_ | refine i_f b4 ?_
    rw [q1, q3]
    refine h_384 hok hc.c r1 (by omega) r3 (by omega) (fun I1 L1 e1 hf he hv => kcp_v rfl (s_420_1711 ?_))
    rw [show I1 0 = I 0 from hf.at rfl]
    refine n_go hL (by decide) (by omega) ?_
    refine n_go hL (by decide) (by omega) ?_
    first | refine i_t b2 ?_ | refine i_f b2 ?_
    refine n_go hL (by decide) (by omega) ?_
    refine n_go hL (by decide) (by omega) ?_
    first | refine i_t b4 ?_ | refine i_f b4 ?_
    rw [q1, q3]
    have hr1 : RSt I1 ch sh a b := hr.cw (hf.up rfl)
    exact r_258 hok hr1.c r1 (by omega) r3 (by omega) (fun I2 L2 v hf2 hl hc2 hv2 => kcp_v rfl (s_420_1757 (tl_l cd_384 hc2 hv2 (fun k => by rw [hl]; exact hv k) (hn I2 L2 e1 (LwS.rd hok hsh hc hr hf hf2) he))))
set_option maxHeartbeats 4000000 in
theorem k_18 {Lx i : Nat} {I : Mi} {L : Ml} {e : Nat} {Q : Kq} {ch : Ch} {sh : Nat → Option Ch} {a b : Int} (hL : Lx ≤ 5120) (hi : i + 9 < Lx) (hok : ChOk ch) (hsh : ShOk sh) (hc : CSt I ch sh a b) (hr : RSt I ch sh a b) (hn : NX Lx i Q e) : Wp 420 1789 [(0, .ref 0), (1, .ref 1), (2, .ref 58), (3, .ref 70), (4, .int (Int32.ofInt (i : Int)))] [] (gE Lx) I L e Q := by
  obtain ⟨z1, r1, q1⟩ := o32 (I 0 ((Int32.ofInt (i : Int) + Int32.ofInt 1).toNatClampNeg))
  obtain ⟨z3, r3, q3⟩ := o32 (I 0 ((Int32.ofInt (i : Int) + Int32.ofInt 3).toNatClampNeg))
  by_cases b2 : I 0 ((Int32.ofInt (i : Int) + Int32.ofInt 2).toNatClampNeg) = 0
  all_goals
    refine s_420_1789 ?_
    refine n_go hL (by decide) (by omega) ?_
    refine n_go hL (by decide) (by omega) ?_
    first | refine i_t b2 ?_ | refine i_f b2 ?_
    refine n_go hL (by decide) (by omega) ?_
    rw [q1, q3]
    refine h_385 hok hc.c r1 (by omega) r3 (fun I1 L1 e1 hf he hv => kcp_v rfl (s_420_1820 ?_))
    rw [show I1 0 = I 0 from hf.at rfl]
    refine n_go hL (by decide) (by omega) ?_
    refine n_go hL (by decide) (by omega) ?_
    first | refine i_t b2 ?_ | refine i_f b2 ?_
    refine n_go hL (by decide) (by omega) ?_
    rw [q1, q3]
    have hr1 : RSt I1 ch sh a b := hr.cw (hf.up rfl)
    exact r_266 hok hr1.c r1 (by omega) r3 (fun I2 L2 v hf2 hl hc2 hv2 => kcp_v rfl (s_420_1852 (tl_l cd_385 hc2 hv2 (fun k => by rw [hl]; exact hv k) (hn I2 L2 e1 (LwS.rd hok hsh hc hr hf hf2) he))))
set_option maxHeartbeats 4000000 in
theorem k_19 {Lx i : Nat} {I : Mi} {L : Ml} {e : Nat} {Q : Kq} {ch : Ch} {sh : Nat → Option Ch} {a b : Int} (hL : Lx ≤ 5120) (hi : i + 9 < Lx) (hok : ChOk ch) (hsh : ShOk sh) (hc : CSt I ch sh a b) (hr : RSt I ch sh a b) (hn : NX Lx i Q e) : Wp 420 1884 [(0, .ref 0), (1, .ref 1), (2, .ref 58), (3, .ref 70), (4, .int (Int32.ofInt (i : Int)))] [] (gE Lx) I L e Q := by
  obtain ⟨z1, r1, q1⟩ := o32 (I 0 ((Int32.ofInt (i : Int) + Int32.ofInt 1).toNatClampNeg))
  obtain ⟨z3, r3, q3⟩ := o32 (I 0 ((Int32.ofInt (i : Int) + Int32.ofInt 3).toNatClampNeg))
  by_cases b2 : I 0 ((Int32.ofInt (i : Int) + Int32.ofInt 2).toNatClampNeg) = 0
  all_goals by_cases b4 : I 0 ((Int32.ofInt (i : Int) + Int32.ofInt 4).toNatClampNeg) = 0
  all_goals
    refine s_420_1884 ?_
    refine n_go hL (by decide) (by omega) ?_
    refine n_go hL (by decide) (by omega) ?_
    first | refine i_t b2 ?_ | refine i_f b2 ?_
    refine n_go hL (by decide) (by omega) ?_
    refine n_go hL (by decide) (by omega) ?_
    first | refine i_t b4 ?_ | refine i_f b4 ?_
    rw [q1, q3]
    refine h_386 hok hc.c r1 (by omega) r3 (by omega) (fun I1 L1 e1 hf he hv => kcp_v rfl (s_420_1929 ?_))
    rw [show I1 0 = I 0 from hf.at rfl]
    refine n_go hL (by decide) (by omega) ?_
    refine n_go hL (by decide) (by omega) ?_
    first | refine i_t b2 ?_ | refine i_f b2 ?_
    refine n_go hL (by decide) (by omega) ?_
    refine n_go hL (by decide) (by omega) ?_
    first | refine i_t b4 ?_ | refine i_f b4 ?_
    rw [q1, q3]
    have hr1 : RSt I1 ch sh a b := hr.cw (hf.up rfl)
    exact r_268 hok hr1.c r1 (by omega) r3 (by omega) (fun I2 L2 v hf2 hl hc2 hv2 => kcp_v rfl (s_420_1975 (tl_l cd_386 hc2 hv2 (fun k => by rw [hl]; exact hv k) (hn I2 L2 e1 (LwS.rd hok hsh hc hr hf hf2) he))))
set_option maxHeartbeats 4000000 in
theorem k_20 {Lx i : Nat} {I : Mi} {L : Ml} {e : Nat} {Q : Kq} {ch : Ch} {sh : Nat → Option Ch} {a b : Int} (hL : Lx ≤ 5120) (hi : i + 9 < Lx) (hok : ChOk ch) (hsh : ShOk sh) (hc : CSt I ch sh a b) (hr : RSt I ch sh a b) (hn : NX Lx i Q e) : Wp 420 2007 [(0, .ref 0), (1, .ref 1), (2, .ref 58), (3, .ref 70), (4, .int (Int32.ofInt (i : Int)))] [] (gE Lx) I L e Q := by
  obtain ⟨z1, r1, q1⟩ := o32 (I 0 ((Int32.ofInt (i : Int) + Int32.ofInt 1).toNatClampNeg))
  by_cases b2 : I 0 ((Int32.ofInt (i : Int) + Int32.ofInt 2).toNatClampNeg) = 0
  all_goals by_cases b3 : I 0 ((Int32.ofInt (i : Int) + Int32.ofInt 3).toNatClampNeg) = 0
  all_goals
    refine s_420_2007 ?_
    refine n_go hL (by decide) (by omega) ?_
    refine n_go hL (by decide) (by omega) ?_
    first | refine i_t b2 ?_ | refine i_f b2 ?_
    refine n_go hL (by decide) (by omega) ?_
    first | refine i_t b3 ?_ | refine i_f b3 ?_
    rw [q1]
    refine h_387 hok hc.c r1 (by omega) (by omega) (fun I1 L1 e1 hf he hv => kcp_v rfl (s_420_2046 ?_))
    rw [show I1 0 = I 0 from hf.at rfl]
    refine n_go hL (by decide) (by omega) ?_
    refine n_go hL (by decide) (by omega) ?_
    first | refine i_t b2 ?_ | refine i_f b2 ?_
    refine n_go hL (by decide) (by omega) ?_
    first | refine i_t b3 ?_ | refine i_f b3 ?_
    rw [q1]
    have hr1 : RSt I1 ch sh a b := hr.cw (hf.up rfl)
    exact r_269 hok hr1.c r1 (by omega) (fun I2 L2 v hf2 hl hc2 hv2 => kcp_v rfl (s_420_2086 (tl_l cd_387 hc2 hv2 (fun k => by rw [hl]; exact hv k) (hn I2 L2 e1 (LwS.rd hok hsh hc hr hf hf2) he))))
set_option maxHeartbeats 4000000 in
theorem k_21 {Lx i : Nat} {I : Mi} {L : Ml} {e : Nat} {Q : Kq} {ch : Ch} {sh : Nat → Option Ch} {a b : Int} (hL : Lx ≤ 5120) (hi : i + 9 < Lx) (hok : ChOk ch) (hsh : ShOk sh) (hc : CSt I ch sh a b) (hr : RSt I ch sh a b) (hn : NX Lx i Q e) : Wp 420 2118 [(0, .ref 0), (1, .ref 1), (2, .ref 58), (3, .ref 70), (4, .int (Int32.ofInt (i : Int)))] [] (gE Lx) I L e Q := by
  obtain ⟨z1, r1, q1⟩ := o32 (I 0 ((Int32.ofInt (i : Int) + Int32.ofInt 1).toNatClampNeg))
  obtain ⟨z3, r3, q3⟩ := o32 (I 0 ((Int32.ofInt (i : Int) + Int32.ofInt 3).toNatClampNeg))
  by_cases b2 : I 0 ((Int32.ofInt (i : Int) + Int32.ofInt 2).toNatClampNeg) = 0
  all_goals
    refine s_420_2118 ?_
    refine n_go hL (by decide) (by omega) ?_
    refine n_go hL (by decide) (by omega) ?_
    first | refine i_t b2 ?_ | refine i_f b2 ?_
    refine n_go hL (by decide) (by omega) ?_
    rw [q1, q3]
    refine cqi (fun Q h => h_388 hok hc.c r1 (by omega) r3 h) (fun Q h => v_388 h) (fun I1 L1 e1 hf he hv => kcp_v rfl (s_420_2149 ?_))
    rw [show I1 0 = I 0 from hf.at rfl]
    refine n_go hL (by decide) (by omega) ?_
    refine n_go hL (by decide) (by omega) ?_
    first | refine i_t b2 ?_ | refine i_f b2 ?_
    refine n_go hL (by decide) (by omega) ?_
    rw [q1, q3]
    have hr1 : RSt I1 ch sh a b := hr.cw (hf.up rfl)
    exact r_270 hok hr1.c r1 (by omega) r3 (fun I2 L2 v hf2 hl hc2 hv2 => kcp_v rfl (s_420_2181 (tl_i cd_388 hc2 hv2 (fun k => by rw [hl]; exact hv k) (hn I2 L2 e1 (LwS.rd hok hsh hc hr hf hf2) he))))
set_option maxHeartbeats 4000000 in
theorem k_22 {Lx i : Nat} {I : Mi} {L : Ml} {e : Nat} {Q : Kq} {ch : Ch} {sh : Nat → Option Ch} {a b : Int} (hL : Lx ≤ 5120) (hi : i + 9 < Lx) (hok : ChOk ch) (hsh : ShOk sh) (hc : CSt I ch sh a b) (hr : RSt I ch sh a b) (hn : NX Lx i Q e) : Wp 420 2214 [(0, .ref 0), (1, .ref 1), (2, .ref 58), (3, .ref 70), (4, .int (Int32.ofInt (i : Int)))] [] (gE Lx) I L e Q := by
  obtain ⟨z2, r2, q2⟩ := o32 (I 0 ((Int32.ofInt (i : Int) + Int32.ofInt 2).toNatClampNeg))
  by_cases b1 : I 0 ((Int32.ofInt (i : Int) + Int32.ofInt 1).toNatClampNeg) = 0
  all_goals by_cases b3 : I 0 ((Int32.ofInt (i : Int) + Int32.ofInt 3).toNatClampNeg) = 0
  all_goals
    refine s_420_2214 ?_
    refine n_go hL (by decide) (by omega) ?_
    first | refine i_t b1 ?_ | refine i_f b1 ?_
    refine n_go hL (by decide) (by omega) ?_
    refine n_go hL (by decide) (by omega) ?_
    first | refine i_t b3 ?_ | refine i_f b3 ?_
    rw [q2]
    refine cwi (fun Q h => h_389 hok hc.c (by omega) r2 (by omega) h) (fun Q h => v_389 h) (fun I1 L1 e1 hf hch he hv => kcp_v rfl (s_420_2253 ?_))
    rw [show I1 0 = I 0 from hf.at rfl]
    refine n_go hL (by decide) (by omega) ?_
    first | refine i_t b1 ?_ | refine i_f b1 ?_
    refine n_go hL (by decide) (by omega) ?_
    refine n_go hL (by decide) (by omega) ?_
    first | refine i_t b3 ?_ | refine i_f b3 ?_
    rw [q2]
    have hr1 : RSt I1 ch sh a b := hr.cw hf
    exact r_271 hok hr1.c (by omega) r2 (by omega) (fun I2 L2 v hf2 hbn hl hc2 hv2 => kcp_v rfl (s_420_2293 (tl_i cd_389 hc2 (fun k => hv2 k rfl) (fun k => by rw [hl]; exact hv k) (hn I2 L2 e1 (LwS.wr (spBuild_ok hok) hsh hc hr hf hch hf2 hbn) he))))
set_option maxHeartbeats 4000000 in
theorem k_23 {Lx i : Nat} {I : Mi} {L : Ml} {e : Nat} {Q : Kq} {ch : Ch} {sh : Nat → Option Ch} {a b : Int} (hL : Lx ≤ 5120) (hi : i + 9 < Lx) (hok : ChOk ch) (hsh : ShOk sh) (hc : CSt I ch sh a b) (hr : RSt I ch sh a b) (hn : NX Lx i Q e) : Wp 420 2326 [(0, .ref 0), (1, .ref 1), (2, .ref 58), (3, .ref 70), (4, .int (Int32.ofInt (i : Int)))] [] (gE Lx) I L e Q := by
  obtain ⟨z1, r1, q1⟩ := o32 (I 0 ((Int32.ofInt (i : Int) + Int32.ofInt 1).toNatClampNeg))
  by_cases b2 : I 0 ((Int32.ofInt (i : Int) + Int32.ofInt 2).toNatClampNeg) = 0
  all_goals by_cases b3 : I 0 ((Int32.ofInt (i : Int) + Int32.ofInt 3).toNatClampNeg) = 0
  all_goals
    refine s_420_2326 ?_
    refine n_go hL (by decide) (by omega) ?_
    refine n_go hL (by decide) (by omega) ?_
    first | refine i_t b2 ?_ | refine i_f b2 ?_
    refine n_go hL (by decide) (by omega) ?_
    first | refine i_t b3 ?_ | refine i_f b3 ?_
    rw [q1]
    refine h_390 hok hc.c r1 (by omega) (by omega) (fun I1 L1 e1 hf he hv => kcp_v rfl (s_420_2365 ?_))
    rw [show I1 0 = I 0 from hf.at rfl]
    refine n_go hL (by decide) (by omega) ?_
    refine n_go hL (by decide) (by omega) ?_
    first | refine i_t b2 ?_ | refine i_f b2 ?_
    refine n_go hL (by decide) (by omega) ?_
    first | refine i_t b3 ?_ | refine i_f b3 ?_
    rw [q1]
    have hr1 : RSt I1 ch sh a b := hr.cw (hf.up rfl)
    exact r_273 hok hr1.c r1 (by omega) (by omega) (fun I2 L2 v hf2 hl hc2 hv2 => kcp_v rfl (s_420_2405 (tl_l cd_390 hc2 hv2 (fun k => by rw [hl]; exact hv k) (hn I2 L2 e1 (LwS.rd hok hsh hc hr hf hf2) he))))
set_option maxHeartbeats 4000000 in
theorem k_24 {Lx i : Nat} {I : Mi} {L : Ml} {e : Nat} {Q : Kq} {ch : Ch} {sh : Nat → Option Ch} {a b : Int} (hL : Lx ≤ 5120) (hi : i + 9 < Lx) (hok : ChOk ch) (hsh : ShOk sh) (hc : CSt I ch sh a b) (hr : RSt I ch sh a b) (hn : NX Lx i Q e) : Wp 420 2437 [(0, .ref 0), (1, .ref 1), (2, .ref 58), (3, .ref 70), (4, .int (Int32.ofInt (i : Int)))] [] (gE Lx) I L e Q := by
  obtain ⟨z1, r1, q1⟩ := o32 (I 0 ((Int32.ofInt (i : Int) + Int32.ofInt 1).toNatClampNeg))
  obtain ⟨z2, r2, q2⟩ := o32 (I 0 ((Int32.ofInt (i : Int) + Int32.ofInt 2).toNatClampNeg))
  by_cases b3 : I 0 ((Int32.ofInt (i : Int) + Int32.ofInt 3).toNatClampNeg) = 0
  all_goals
    refine s_420_2437 ?_
    refine n_go hL (by decide) (by omega) ?_
    refine n_go hL (by decide) (by omega) ?_
    refine n_go hL (by decide) (by omega) ?_
    first | refine i_t b3 ?_ | refine i_f b3 ?_
    rw [q1, q2]
    refine cqi (fun Q h => h_391 r1 r2 (by omega) h) (fun Q h => v_391 h) (fun I1 L1 e1 hf he hv => kcp_v rfl (s_420_2468 ?_))
    rw [show I1 0 = I 0 from hf.at rfl]
    refine n_go hL (by decide) (by omega) ?_
    refine n_go hL (by decide) (by omega) ?_
    refine n_go hL (by decide) (by omega) ?_
    first | refine i_t b3 ?_ | refine i_f b3 ?_
    rw [q1, q2]
    have hr1 : RSt I1 ch sh a b := hr.cw (hf.up rfl)
    exact r_279 r1 r2 (by omega) (fun I2 L2 v hf2 hl hc2 hv2 => kcp_v rfl (s_420_2500 (tl_i cd_391 hc2 hv2 (fun k => by rw [hl]; exact hv k) (hn I2 L2 e1 (LwS.rd hok hsh hc hr hf hf2) he))))
set_option maxHeartbeats 4000000 in
theorem k_25 {Lx i : Nat} {I : Mi} {L : Ml} {e : Nat} {Q : Kq} {ch : Ch} {sh : Nat → Option Ch} {a b : Int} (hL : Lx ≤ 5120) (hi : i + 9 < Lx) (hok : ChOk ch) (hsh : ShOk sh) (hc : CSt I ch sh a b) (hr : RSt I ch sh a b) (hn : NX Lx i Q e) : Wp 420 2533 [(0, .ref 0), (1, .ref 1), (2, .ref 58), (3, .ref 70), (4, .int (Int32.ofInt (i : Int)))] [] (gE Lx) I L e Q := by
  obtain ⟨z1, r1, q1⟩ := o32 (I 0 ((Int32.ofInt (i : Int) + Int32.ofInt 1).toNatClampNeg))
  obtain ⟨z3, r3, q3⟩ := o32 (I 0 ((Int32.ofInt (i : Int) + Int32.ofInt 3).toNatClampNeg))
  obtain ⟨z4, r4, q4⟩ := o32 (I 0 ((Int32.ofInt (i : Int) + Int32.ofInt 4).toNatClampNeg))
  by_cases b2 : I 0 ((Int32.ofInt (i : Int) + Int32.ofInt 2).toNatClampNeg) = 0
  all_goals
    refine s_420_2533 ?_
    refine n_go hL (by decide) (by omega) ?_
    refine n_go hL (by decide) (by omega) ?_
    first | refine i_t b2 ?_ | refine i_f b2 ?_
    refine n_go hL (by decide) (by omega) ?_
    refine n_go hL (by decide) (by omega) ?_
    rw [q1, q3, q4]
    refine cqi (fun Q h => h_392 hok hc.c r1 (by omega) r3 r4 h) (fun Q h => v_392 h) (fun I1 L1 e1 hf he hv => kcp_v rfl (s_420_2570 ?_))
    rw [show I1 0 = I 0 from hf.at rfl]
    refine n_go hL (by decide) (by omega) ?_
    refine n_go hL (by decide) (by omega) ?_
    first | refine i_t b2 ?_ | refine i_f b2 ?_
    refine n_go hL (by decide) (by omega) ?_
    refine n_go hL (by decide) (by omega) ?_
    rw [q1, q3, q4]
    have hr1 : RSt I1 ch sh a b := hr.cw (hf.up rfl)
    exact r_281 hok hr1.c r1 (by omega) r3 r4 (fun I2 L2 v hf2 hl hc2 hv2 => kcp_v rfl (s_420_2608 (tl_i cd_392 hc2 hv2 (fun k => by rw [hl]; exact hv k) (hn I2 L2 e1 (LwS.rd hok hsh hc hr hf hf2) he))))
set_option maxHeartbeats 4000000 in
theorem k_26 {Lx i : Nat} {I : Mi} {L : Ml} {e : Nat} {Q : Kq} {ch : Ch} {sh : Nat → Option Ch} {a b : Int} (hL : Lx ≤ 5120) (hi : i + 9 < Lx) (hok : ChOk ch) (hsh : ShOk sh) (hc : CSt I ch sh a b) (hr : RSt I ch sh a b) (hn : NX Lx i Q e) : Wp 420 2641 [(0, .ref 0), (1, .ref 1), (2, .ref 58), (3, .ref 70), (4, .int (Int32.ofInt (i : Int)))] [] (gE Lx) I L e Q := by
  obtain ⟨z1, r1, q1⟩ := o32 (I 0 ((Int32.ofInt (i : Int) + Int32.ofInt 1).toNatClampNeg))
  obtain ⟨z3, r3, q3⟩ := o32 (I 0 ((Int32.ofInt (i : Int) + Int32.ofInt 3).toNatClampNeg))
  obtain ⟨z4, r4, q4⟩ := o32 (I 0 ((Int32.ofInt (i : Int) + Int32.ofInt 4).toNatClampNeg))
  obtain ⟨z5, r5, q5⟩ := o32 (I 0 ((Int32.ofInt (i : Int) + Int32.ofInt 5).toNatClampNeg))
  by_cases b2 : I 0 ((Int32.ofInt (i : Int) + Int32.ofInt 2).toNatClampNeg) = 0
  all_goals by_cases b6 : I 0 ((Int32.ofInt (i : Int) + Int32.ofInt 6).toNatClampNeg) = 0
  all_goals by_cases b7 : I 0 ((Int32.ofInt (i : Int) + Int32.ofInt 7).toNatClampNeg) = 0
  all_goals
    refine s_420_2641 ?_
    refine n_go hL (by decide) (by omega) ?_
    refine n_go hL (by decide) (by omega) ?_
    first | refine i_t b2 ?_ | refine i_f b2 ?_
    refine n_go hL (by decide) (by omega) ?_
    refine n_go hL (by decide) (by omega) ?_
    refine n_go hL (by decide) (by omega) ?_
    refine n_go hL (by decide) (by omega) ?_
    first | refine i_t b6 ?_ | refine i_f b6 ?_
    refine n_go hL (by decide) (by omega) ?_
    first | refine i_t b7 ?_ | refine i_f b7 ?_
    rw [q1, q3, q4, q5]
    refine h_393 hok hc.c r1 (by omega) r3 r4 r5 (by omega) (by omega) (fun I1 L1 e1 hf he hv => kcp_v rfl (s_420_2714 ?_))
    rw [show I1 0 = I 0 from hf.at rfl]
    refine n_go hL (by decide) (by omega) ?_
    refine n_go hL (by decide) (by omega) ?_
    first | refine i_t b2 ?_ | refine i_f b2 ?_
    refine n_go hL (by decide) (by omega) ?_
    refine n_go hL (by decide) (by omega) ?_
    refine n_go hL (by decide) (by omega) ?_
    refine n_go hL (by decide) (by omega) ?_
    first | refine i_t b6 ?_ | refine i_f b6 ?_
    refine n_go hL (by decide) (by omega) ?_
    first | refine i_t b7 ?_ | refine i_f b7 ?_
    rw [q1, q3, q4, q5]
    have hr1 : RSt I1 ch sh a b := hr.cw (hf.up rfl)
    exact r_285 hok hr1.c r1 (by omega) r3 r4 r5 (by omega) (by omega) (fun I2 L2 v hf2 hl hc2 hv2 => kcp_v rfl (s_420_2788 (tl_l cd_393 hc2 hv2 (fun k => by rw [hl]; exact hv k) (hn I2 L2 e1 (LwS.rd hok hsh hc hr hf hf2) he))))
