/-! Cases of the law: 0 to 14, by program. -/
set_option maxHeartbeats 4000000 in
theorem k_0 {Lx i : Nat} {I : Mi} {L : Ml} {e : Nat} {Q : Kq} {ch : Ch} {sh : Nat → Option Ch} {a b : Int} (hL : Lx ≤ 5120) (hi : i + 9 < Lx) (hok : ChOk ch) (hsh : ShOk sh) (hc : CSt I ch sh a b) (hr : RSt I ch sh a b) (hn : NX Lx i Q e) : Wp 420 268 [(0, .ref 0), (1, .ref 1), (2, .ref 58), (3, .ref 70), (4, .int (Int32.ofInt (i : Int)))] [] (gE Lx) I L e Q := by
  obtain ⟨z1, r1, q1⟩ := o32 (I 0 ((Int32.ofInt (i : Int) + Int32.ofInt 1).toNatClampNeg))
  obtain ⟨z2, r2, q2⟩ := o32 (I 0 ((Int32.ofInt (i : Int) + Int32.ofInt 2).toNatClampNeg))
  obtain ⟨z3, r3, q3⟩ := o32 (I 0 ((Int32.ofInt (i : Int) + Int32.ofInt 3).toNatClampNeg))
  all_goals
    refine s_420_268 ?_
    refine n_go hL (by decide) (by omega) ?_
    refine n_go hL (by decide) (by omega) ?_
    refine n_go hL (by decide) (by omega) ?_
    rw [q1, q2, q3]
    refine h_367 hc.c r1 r2 r3 (fun I1 L1 e1 hf hch he hv => kcp_v rfl (s_420_290 ?_))
    rw [show I1 0 = I 0 from hf.at rfl]
    refine n_go hL (by decide) (by omega) ?_
    refine n_go hL (by decide) (by omega) ?_
    refine n_go hL (by decide) (by omega) ?_
    rw [q1, q2, q3]
    have hr1 : RSt I1 ch sh a b := hr.cw hf
    exact r_213 hr1.c r1 r2 r3 (fun I2 L2 v hf2 hbn hl hc2 hv2 => kcp_v rfl (s_420_314 (i_t hc2 (hn I2 L2 e1 (LwS.wr (spLoad_ok hok) hsh hc hr hf hch hf2 hbn) he))))
set_option maxHeartbeats 4000000 in
theorem k_1 {Lx i : Nat} {I : Mi} {L : Ml} {e : Nat} {Q : Kq} {ch : Ch} {sh : Nat → Option Ch} {a b : Int} (hL : Lx ≤ 5120) (hi : i + 9 < Lx) (hok : ChOk ch) (hsh : ShOk sh) (hc : CSt I ch sh a b) (hr : RSt I ch sh a b) (hn : NX Lx i Q e) : Wp 420 329 [(0, .ref 0), (1, .ref 1), (2, .ref 58), (3, .ref 70), (4, .int (Int32.ofInt (i : Int)))] [] (gE Lx) I L e Q := by
  obtain ⟨z1, r1, q1⟩ := o32 (I 0 ((Int32.ofInt (i : Int) + Int32.ofInt 1).toNatClampNeg))
  obtain ⟨z2, r2, q2⟩ := o32 (I 0 ((Int32.ofInt (i : Int) + Int32.ofInt 2).toNatClampNeg))
  obtain ⟨z3, r3, q3⟩ := o32 (I 0 ((Int32.ofInt (i : Int) + Int32.ofInt 3).toNatClampNeg))
  all_goals
    refine s_420_329 ?_
    refine n_go hL (by decide) (by omega) ?_
    refine n_go hL (by decide) (by omega) ?_
    refine n_go hL (by decide) (by omega) ?_
    rw [q1, q2, q3]
    refine cwi (fun Q h => h_368 hok hc.c r1 r2 r3 h) (fun Q h => v_368 h) (fun I1 L1 e1 hf hch he hv => kcp_v rfl (s_420_352 ?_))
    rw [show I1 0 = I 0 from hf.at rfl]
    refine n_go hL (by decide) (by omega) ?_
    refine n_go hL (by decide) (by omega) ?_
    refine n_go hL (by decide) (by omega) ?_
    rw [q1, q2, q3]
    have hr1 : RSt I1 ch sh a b := hr.cw hf
    exact r_214 hok hr1.c r1 r2 r3 (fun I2 L2 v hf2 hbn hl hc2 hv2 => kcp_v rfl (s_420_376 (tl_i cd_368 hc2 (fun k => hv2 k rfl) (fun k => by rw [hl]; exact hv k) (hn I2 L2 e1 (LwS.wr (spAdd_ok hok) hsh hc hr hf hch hf2 hbn) he))))
set_option maxHeartbeats 4000000 in
theorem k_2 {Lx i : Nat} {I : Mi} {L : Ml} {e : Nat} {Q : Kq} {ch : Ch} {sh : Nat → Option Ch} {a b : Int} (hL : Lx ≤ 5120) (hi : i + 9 < Lx) (hok : ChOk ch) (hsh : ShOk sh) (hc : CSt I ch sh a b) (hr : RSt I ch sh a b) (hn : NX Lx i Q e) : Wp 420 409 [(0, .ref 0), (1, .ref 1), (2, .ref 58), (3, .ref 70), (4, .int (Int32.ofInt (i : Int)))] [] (gE Lx) I L e Q := by
  all_goals
    refine s_420_409 ?_
    refine cwi (fun Q h => h_369 hok hc.c h) (fun Q h => v_369 h) (fun I1 L1 e1 hf hch he hv => kcp_v rfl (s_420_414 ?_))
    have hr1 : RSt I1 ch sh a b := hr.cw hf
    exact r_217 hok hr1.c (fun I2 L2 v hf2 hbn hl hc2 hv2 => kcp_v rfl (s_420_420 (tl_i cd_369 hc2 (fun k => hv2 k rfl) (fun k => by rw [hl]; exact hv k) (hn I2 L2 e1 (LwS.wr (spDrop_ok hok) hsh hc hr hf hch hf2 hbn) he))))
set_option maxHeartbeats 4000000 in
theorem k_3 {Lx i : Nat} {I : Mi} {L : Ml} {e : Nat} {Q : Kq} {ch : Ch} {sh : Nat → Option Ch} {a b : Int} (hL : Lx ≤ 5120) (hi : i + 9 < Lx) (hok : ChOk ch) (hsh : ShOk sh) (hc : CSt I ch sh a b) (hr : RSt I ch sh a b) (hn : NX Lx i Q e) : Wp 420 453 [(0, .ref 0), (1, .ref 1), (2, .ref 58), (3, .ref 70), (4, .int (Int32.ofInt (i : Int)))] [] (gE Lx) I L e Q := by
  obtain ⟨z1, r1, q1⟩ := o32 (I 0 ((Int32.ofInt (i : Int) + Int32.ofInt 1).toNatClampNeg))
  obtain ⟨z2, r2, q2⟩ := o32 (I 0 ((Int32.ofInt (i : Int) + Int32.ofInt 2).toNatClampNeg))
  obtain ⟨z3, r3, q3⟩ := o32 (I 0 ((Int32.ofInt (i : Int) + Int32.ofInt 3).toNatClampNeg))
  all_goals
    refine s_420_453 ?_
    refine n_go hL (by decide) (by omega) ?_
    refine n_go hL (by decide) (by omega) ?_
    refine n_go hL (by decide) (by omega) ?_
    rw [q1, q2, q3]
    refine h_370 hok hc.c r1 r2 r3 (fun I1 L1 e1 hf hch he hv => kcp_v rfl (s_420_475 ?_))
    rw [show I1 0 = I 0 from hf.at rfl]
    refine n_go hL (by decide) (by omega) ?_
    refine n_go hL (by decide) (by omega) ?_
    refine n_go hL (by decide) (by omega) ?_
    rw [q1, q2, q3]
    have hr1 : RSt I1 ch sh a b := hr.cw hf
    exact r_218 hok hr1.c r1 r2 r3 (fun I2 L2 v hf2 hbn hl hc2 hv2 => kcp_v rfl (s_420_499 (i_t hc2 (hn I2 L2 e1 (LwS.wr (spTrim_ok hok) hsh hc hr hf hch hf2 hbn) he))))
set_option maxHeartbeats 4000000 in
theorem k_5 {Lx i : Nat} {I : Mi} {L : Ml} {e : Nat} {Q : Kq} {ch : Ch} {sh : Nat → Option Ch} {a b : Int} (hL : Lx ≤ 5120) (hi : i + 9 < Lx) (hok : ChOk ch) (hsh : ShOk sh) (hc : CSt I ch sh a b) (hr : RSt I ch sh a b) (hn : NX Lx i Q e) : Wp 420 563 [(0, .ref 0), (1, .ref 1), (2, .ref 58), (3, .ref 70), (4, .int (Int32.ofInt (i : Int)))] [] (gE Lx) I L e Q := by
  obtain ⟨z1, r1, q1⟩ := o32 (I 0 ((Int32.ofInt (i : Int) + Int32.ofInt 1).toNatClampNeg))
  obtain ⟨z2, r2, q2⟩ := o32 (I 0 ((Int32.ofInt (i : Int) + Int32.ofInt 2).toNatClampNeg))
  all_goals
    refine s_420_563 ?_
    refine n_go hL (by decide) (by omega) ?_
    refine n_go hL (by decide) (by omega) ?_
    rw [q1, q2]
    refine cqi (fun Q h => h_372 hok hc.c r1 r2 h) (fun Q h => v_372 h) (fun I1 L1 e1 hf he hv => kcp_v rfl (s_420_580 ?_))
    rw [show I1 0 = I 0 from hf.at rfl]
    refine n_go hL (by decide) (by omega) ?_
    refine n_go hL (by decide) (by omega) ?_
    rw [q1, q2]
    have hr1 : RSt I1 ch sh a b := hr.cw (hf.up rfl)
    exact r_222 hok hr1.c r1 r2 (fun I2 L2 v hf2 hl hc2 hv2 => kcp_v rfl (s_420_598 (tl_i cd_372 hc2 hv2 (fun k => by rw [hl]; exact hv k) (hn I2 L2 e1 (LwS.rd hok hsh hc hr hf hf2) he))))
set_option maxHeartbeats 4000000 in
theorem k_6 {Lx i : Nat} {I : Mi} {L : Ml} {e : Nat} {Q : Kq} {ch : Ch} {sh : Nat → Option Ch} {a b : Int} (hL : Lx ≤ 5120) (hi : i + 9 < Lx) (hok : ChOk ch) (hsh : ShOk sh) (hc : CSt I ch sh a b) (hr : RSt I ch sh a b) (hn : NX Lx i Q e) : Wp 420 631 [(0, .ref 0), (1, .ref 1), (2, .ref 58), (3, .ref 70), (4, .int (Int32.ofInt (i : Int)))] [] (gE Lx) I L e Q := by
  obtain ⟨z1, r1, q1⟩ := o32 (I 0 ((Int32.ofInt (i : Int) + Int32.ofInt 1).toNatClampNeg))
  by_cases b2 : I 0 ((Int32.ofInt (i : Int) + Int32.ofInt 2).toNatClampNeg) = 0
  all_goals by_cases b3 : I 0 ((Int32.ofInt (i : Int) + Int32.ofInt 3).toNatClampNeg) = 0
  all_goals
    refine s_420_631 ?_
    refine n_go hL (by decide) (by omega) ?_
    refine n_go hL (by decide) (by omega) ?_
    first | refine i_t b2 ?_ | refine i_f b2 ?_
    refine n_go hL (by decide) (by omega) ?_
    first | refine i_t b3 ?_ | refine i_f b3 ?_
    rw [q1]
    refine h_373 hok hc.c r1 (by omega) (by omega) (fun I1 L1 e1 hf he hv => kcp_v rfl (s_420_670 ?_))
    rw [show I1 0 = I 0 from hf.at rfl]
    refine n_go hL (by decide) (by omega) ?_
    refine n_go hL (by decide) (by omega) ?_
    first | refine i_t b2 ?_ | refine i_f b2 ?_
    refine n_go hL (by decide) (by omega) ?_
    first | refine i_t b3 ?_ | refine i_f b3 ?_
    rw [q1]
    have hr1 : RSt I1 ch sh a b := hr.cw (hf.up rfl)
    exact r_225 hok hr1.c r1 (by omega) (by omega) (fun I2 L2 v hf2 hl hc2 hv2 => kcp_v rfl (s_420_710 (tl_l cd_373 hc2 hv2 (fun k => by rw [hl]; exact hv k) (hn I2 L2 e1 (LwS.rd hok hsh hc hr hf hf2) he))))
set_option maxHeartbeats 4000000 in
theorem k_7 {Lx i : Nat} {I : Mi} {L : Ml} {e : Nat} {Q : Kq} {ch : Ch} {sh : Nat → Option Ch} {a b : Int} (hL : Lx ≤ 5120) (hi : i + 9 < Lx) (hok : ChOk ch) (hsh : ShOk sh) (hc : CSt I ch sh a b) (hr : RSt I ch sh a b) (hn : NX Lx i Q e) : Wp 420 742 [(0, .ref 0), (1, .ref 1), (2, .ref 58), (3, .ref 70), (4, .int (Int32.ofInt (i : Int)))] [] (gE Lx) I L e Q := by
  obtain ⟨z1, r1, q1⟩ := o32 (I 0 ((Int32.ofInt (i : Int) + Int32.ofInt 1).toNatClampNeg))
  all_goals
    refine s_420_742 ?_
    refine n_go hL (by decide) (by omega) ?_
    rw [q1]
    refine h_374 hok hc.c r1 (fun I1 L1 e1 hf he hv => kcp_v rfl (s_420_753 ?_))
    rw [show I1 0 = I 0 from hf.at rfl]
    refine n_go hL (by decide) (by omega) ?_
    rw [q1]
    have hr1 : RSt I1 ch sh a b := hr.cw (hf.up rfl)
    exact r_238 hok hr1.c r1 (fun I2 L2 v hf2 hl hc2 hv2 => kcp_v rfl (s_420_765 (tl_b cd_374 (fun _ => vb_374) hc2 hv2 (fun k => by rw [hl]; exact hv k) (hn I2 L2 e1 (LwS.rd hok hsh hc hr hf hf2) he))))
set_option maxHeartbeats 4000000 in
theorem k_8 {Lx i : Nat} {I : Mi} {L : Ml} {e : Nat} {Q : Kq} {ch : Ch} {sh : Nat → Option Ch} {a b : Int} (hL : Lx ≤ 5120) (hi : i + 9 < Lx) (hok : ChOk ch) (hsh : ShOk sh) (hc : CSt I ch sh a b) (hr : RSt I ch sh a b) (hn : NX Lx i Q e) : Wp 420 805 [(0, .ref 0), (1, .ref 1), (2, .ref 58), (3, .ref 70), (4, .int (Int32.ofInt (i : Int)))] [] (gE Lx) I L e Q := by
  obtain ⟨z1, r1, q1⟩ := o32 (I 0 ((Int32.ofInt (i : Int) + Int32.ofInt 1).toNatClampNeg))
  by_cases b2 : I 0 ((Int32.ofInt (i : Int) + Int32.ofInt 2).toNatClampNeg) = 0
  all_goals
    refine s_420_805 ?_
    refine n_go hL (by decide) (by omega) ?_
    refine n_go hL (by decide) (by omega) ?_
    first | refine i_t b2 ?_ | refine i_f b2 ?_
    rw [q1]
    refine h_375 hok hc.c r1 (by omega) (fun I1 L1 e1 hf he hv => kcp_v rfl (s_420_830 ?_))
    rw [show I1 0 = I 0 from hf.at rfl]
    refine n_go hL (by decide) (by omega) ?_
    refine n_go hL (by decide) (by omega) ?_
    first | refine i_t b2 ?_ | refine i_f b2 ?_
    rw [q1]
    have hr1 : RSt I1 ch sh a b := hr.cw (hf.up rfl)
    exact r_239 hok hr1.c r1 (by omega) (fun I2 L2 v hf2 hl hc2 hv2 => kcp_v rfl (s_420_856 (tl_l cd_375 hc2 hv2 (fun k => by rw [hl]; exact hv k) (hn I2 L2 e1 (LwS.rd hok hsh hc hr hf hf2) he))))
set_option maxHeartbeats 4000000 in
theorem k_9 {Lx i : Nat} {I : Mi} {L : Ml} {e : Nat} {Q : Kq} {ch : Ch} {sh : Nat → Option Ch} {a b : Int} (hL : Lx ≤ 5120) (hi : i + 9 < Lx) (hok : ChOk ch) (hsh : ShOk sh) (hc : CSt I ch sh a b) (hr : RSt I ch sh a b) (hn : NX Lx i Q e) : Wp 420 888 [(0, .ref 0), (1, .ref 1), (2, .ref 58), (3, .ref 70), (4, .int (Int32.ofInt (i : Int)))] [] (gE Lx) I L e Q := by
  obtain ⟨z1, r1, q1⟩ := o32 (I 0 ((Int32.ofInt (i : Int) + Int32.ofInt 1).toNatClampNeg))
  by_cases b2 : I 0 ((Int32.ofInt (i : Int) + Int32.ofInt 2).toNatClampNeg) = 0
  all_goals
    refine s_420_888 ?_
    refine n_go hL (by decide) (by omega) ?_
    refine n_go hL (by decide) (by omega) ?_
    first | refine i_t b2 ?_ | refine i_f b2 ?_
    rw [q1]
    refine cqi (fun Q h => h_376 hok hc.c r1 (by omega) h) (fun Q h => v_376 h) (fun I1 L1 e1 hf he hv => kcp_v rfl (s_420_913 ?_))
    rw [show I1 0 = I 0 from hf.at rfl]
    refine n_go hL (by decide) (by omega) ?_
    refine n_go hL (by decide) (by omega) ?_
    first | refine i_t b2 ?_ | refine i_f b2 ?_
    rw [q1]
    have hr1 : RSt I1 ch sh a b := hr.cw (hf.up rfl)
    exact r_337 hok hr1.c r1 (by omega) (fun I2 L2 v hf2 hl hc2 hv2 => kcp_v rfl (s_420_939 (tl_i cd_376 hc2 hv2 (fun k => by rw [hl]; exact hv k) (hn I2 L2 e1 (LwS.rd hok hsh hc hr hf hf2) he))))
set_option maxHeartbeats 4000000 in
theorem k_10 {Lx i : Nat} {I : Mi} {L : Ml} {e : Nat} {Q : Kq} {ch : Ch} {sh : Nat → Option Ch} {a b : Int} (hL : Lx ≤ 5120) (hi : i + 9 < Lx) (hok : ChOk ch) (hsh : ShOk sh) (hc : CSt I ch sh a b) (hr : RSt I ch sh a b) (hn : NX Lx i Q e) : Wp 420 972 [(0, .ref 0), (1, .ref 1), (2, .ref 58), (3, .ref 70), (4, .int (Int32.ofInt (i : Int)))] [] (gE Lx) I L e Q := by
  obtain ⟨z1, r1, q1⟩ := o32 (I 0 ((Int32.ofInt (i : Int) + Int32.ofInt 1).toNatClampNeg))
  by_cases b2 : I 0 ((Int32.ofInt (i : Int) + Int32.ofInt 2).toNatClampNeg) = 0
  all_goals
    refine s_420_972 ?_
    refine n_go hL (by decide) (by omega) ?_
    refine n_go hL (by decide) (by omega) ?_
    first | refine i_t b2 ?_ | refine i_f b2 ?_
    rw [q1]
    refine h_377 hok hc.c hc.l r1 (by omega) (fun I1 L1 e1 hf he hv => kcp_v rfl (s_420_997 ?_))
    rw [show I1 0 = I 0 from hf.at rfl]
    refine n_go hL (by decide) (by omega) ?_
    refine n_go hL (by decide) (by omega) ?_
    first | refine i_t b2 ?_ | refine i_f b2 ?_
    rw [q1]
    have hr1 : RSt I1 ch sh a b := hr.cw (hf.up rfl)
    exact r_347 hok hr1.c hr1.l r1 (by omega) (fun I2 L2 v hf2 hl hc2 hv2 => kcp_v rfl (s_420_1023 (tl_b cd_377 (fun _ => vb_377) hc2 hv2 (fun k => by rw [hl]; exact hv k) (hn I2 L2 e1 (LwS.rd hok hsh hc hr hf hf2) he))))
set_option maxHeartbeats 4000000 in
theorem k_11 {Lx i : Nat} {I : Mi} {L : Ml} {e : Nat} {Q : Kq} {ch : Ch} {sh : Nat → Option Ch} {a b : Int} (hL : Lx ≤ 5120) (hi : i + 9 < Lx) (hok : ChOk ch) (hsh : ShOk sh) (hc : CSt I ch sh a b) (hr : RSt I ch sh a b) (hn : NX Lx i Q e) : Wp 420 1063 [(0, .ref 0), (1, .ref 1), (2, .ref 58), (3, .ref 70), (4, .int (Int32.ofInt (i : Int)))] [] (gE Lx) I L e Q := by
  obtain ⟨z1, r1, q1⟩ := o32 (I 0 ((Int32.ofInt (i : Int) + Int32.ofInt 1).toNatClampNeg))
  obtain ⟨z2, r2, q2⟩ := o32 (I 0 ((Int32.ofInt (i : Int) + Int32.ofInt 2).toNatClampNeg))
  by_cases b3 : I 0 ((Int32.ofInt (i : Int) + Int32.ofInt 3).toNatClampNeg) = 0
  all_goals
    refine s_420_1063 ?_
    refine n_go hL (by decide) (by omega) ?_
    refine n_go hL (by decide) (by omega) ?_
    refine n_go hL (by decide) (by omega) ?_
    first | refine i_t b3 ?_ | refine i_f b3 ?_
    rw [q1, q2]
    refine cqi (fun Q h => h_378 r1 r2 (by omega) h) (fun Q h => v_378 h) (fun I1 L1 e1 hf he hv => kcp_v rfl (s_420_1094 ?_))
    rw [show I1 0 = I 0 from hf.at rfl]
    refine n_go hL (by decide) (by omega) ?_
    refine n_go hL (by decide) (by omega) ?_
    refine n_go hL (by decide) (by omega) ?_
    first | refine i_t b3 ?_ | refine i_f b3 ?_
    rw [q1, q2]
    have hr1 : RSt I1 ch sh a b := hr.cw (hf.up rfl)
    exact r_241 r1 r2 (by omega) (fun I2 L2 v hf2 hl hc2 hv2 => kcp_v rfl (s_420_1126 (tl_i cd_378 hc2 hv2 (fun k => by rw [hl]; exact hv k) (hn I2 L2 e1 (LwS.rd hok hsh hc hr hf hf2) he))))
set_option maxHeartbeats 4000000 in
theorem k_12 {Lx i : Nat} {I : Mi} {L : Ml} {e : Nat} {Q : Kq} {ch : Ch} {sh : Nat → Option Ch} {a b : Int} (hL : Lx ≤ 5120) (hi : i + 9 < Lx) (hok : ChOk ch) (hsh : ShOk sh) (hc : CSt I ch sh a b) (hr : RSt I ch sh a b) (hn : NX Lx i Q e) : Wp 420 1159 [(0, .ref 0), (1, .ref 1), (2, .ref 58), (3, .ref 70), (4, .int (Int32.ofInt (i : Int)))] [] (gE Lx) I L e Q := by
  obtain ⟨z1, r1, q1⟩ := o32 (I 0 ((Int32.ofInt (i : Int) + Int32.ofInt 1).toNatClampNeg))
  obtain ⟨z2, r2, q2⟩ := o32 (I 0 ((Int32.ofInt (i : Int) + Int32.ofInt 2).toNatClampNeg))
  obtain ⟨z3, r3, q3⟩ := o32 (I 0 ((Int32.ofInt (i : Int) + Int32.ofInt 3).toNatClampNeg))
  by_cases b4 : I 0 ((Int32.ofInt (i : Int) + Int32.ofInt 4).toNatClampNeg) = 0
  all_goals
    refine s_420_1159 ?_
    refine n_go hL (by decide) (by omega) ?_
    refine n_go hL (by decide) (by omega) ?_
    refine n_go hL (by decide) (by omega) ?_
    refine n_go hL (by decide) (by omega) ?_
    first | refine i_t b4 ?_ | refine i_f b4 ?_
    rw [q1, q2, q3]
    refine cqi (fun Q h => h_379 r1 r2 r3 (by omega) h) (fun Q h => v_379 h) (fun I1 L1 e1 hf he hv => kcp_v rfl (s_420_1196 ?_))
    rw [show I1 0 = I 0 from hf.at rfl]
    refine n_go hL (by decide) (by omega) ?_
    refine n_go hL (by decide) (by omega) ?_
    refine n_go hL (by decide) (by omega) ?_
    refine n_go hL (by decide) (by omega) ?_
    first | refine i_t b4 ?_ | refine i_f b4 ?_
    rw [q1, q2, q3]
    have hr1 : RSt I1 ch sh a b := hr.cw (hf.up rfl)
    exact r_244 r1 r2 r3 (by omega) (fun I2 L2 v hf2 hl hc2 hv2 => kcp_v rfl (s_420_1234 (tl_i cd_379 hc2 hv2 (fun k => by rw [hl]; exact hv k) (hn I2 L2 e1 (LwS.rd hok hsh hc hr hf hf2) he))))
set_option maxHeartbeats 4000000 in
theorem k_13 {Lx i : Nat} {I : Mi} {L : Ml} {e : Nat} {Q : Kq} {ch : Ch} {sh : Nat → Option Ch} {a b : Int} (hL : Lx ≤ 5120) (hi : i + 9 < Lx) (hok : ChOk ch) (hsh : ShOk sh) (hc : CSt I ch sh a b) (hr : RSt I ch sh a b) (hn : NX Lx i Q e) : Wp 420 1267 [(0, .ref 0), (1, .ref 1), (2, .ref 58), (3, .ref 70), (4, .int (Int32.ofInt (i : Int)))] [] (gE Lx) I L e Q := by
  obtain ⟨z1, r1, q1⟩ := o32 (I 0 ((Int32.ofInt (i : Int) + Int32.ofInt 1).toNatClampNeg))
  obtain ⟨z2, r2, q2⟩ := o32 (I 0 ((Int32.ofInt (i : Int) + Int32.ofInt 2).toNatClampNeg))
  obtain ⟨z3, r3, q3⟩ := o32 (I 0 ((Int32.ofInt (i : Int) + Int32.ofInt 3).toNatClampNeg))
  obtain ⟨z4, r4, q4⟩ := o32 (I 0 ((Int32.ofInt (i : Int) + Int32.ofInt 4).toNatClampNeg))
  by_cases b5 : I 0 ((Int32.ofInt (i : Int) + Int32.ofInt 5).toNatClampNeg) = 0
  all_goals
    refine s_420_1267 ?_
    refine n_go hL (by decide) (by omega) ?_
    refine n_go hL (by decide) (by omega) ?_
    refine n_go hL (by decide) (by omega) ?_
    refine n_go hL (by decide) (by omega) ?_
    refine n_go hL (by decide) (by omega) ?_
    first | refine i_t b5 ?_ | refine i_f b5 ?_
    rw [q1, q2, q3, q4]
    refine cqi (fun Q h => h_380 r1 r2 r3 r4 (by omega) h) (fun Q h => v_380 h) (fun I1 L1 e1 hf he hv => kcp_v rfl (s_420_1310 ?_))
    rw [show I1 0 = I 0 from hf.at rfl]
    refine n_go hL (by decide) (by omega) ?_
    refine n_go hL (by decide) (by omega) ?_
    refine n_go hL (by decide) (by omega) ?_
    refine n_go hL (by decide) (by omega) ?_
    refine n_go hL (by decide) (by omega) ?_
    first | refine i_t b5 ?_ | refine i_f b5 ?_
    rw [q1, q2, q3, q4]
    have hr1 : RSt I1 ch sh a b := hr.cw (hf.up rfl)
    exact r_248 r1 r2 r3 r4 (by omega) (fun I2 L2 v hf2 hl hc2 hv2 => kcp_v rfl (s_420_1354 (tl_i cd_380 hc2 hv2 (fun k => by rw [hl]; exact hv k) (hn I2 L2 e1 (LwS.rd hok hsh hc hr hf hf2) he))))
set_option maxHeartbeats 4000000 in
theorem k_14 {Lx i : Nat} {I : Mi} {L : Ml} {e : Nat} {Q : Kq} {ch : Ch} {sh : Nat → Option Ch} {a b : Int} (hL : Lx ≤ 5120) (hi : i + 9 < Lx) (hok : ChOk ch) (hsh : ShOk sh) (hc : CSt I ch sh a b) (hr : RSt I ch sh a b) (hn : NX Lx i Q e) : Wp 420 1387 [(0, .ref 0), (1, .ref 1), (2, .ref 58), (3, .ref 70), (4, .int (Int32.ofInt (i : Int)))] [] (gE Lx) I L e Q := by
  obtain ⟨z1, r1, q1⟩ := o32 (I 0 ((Int32.ofInt (i : Int) + Int32.ofInt 1).toNatClampNeg))
  obtain ⟨z2, r2, q2⟩ := o32 (I 0 ((Int32.ofInt (i : Int) + Int32.ofInt 2).toNatClampNeg))
  obtain ⟨z3, r3, q3⟩ := o32 (I 0 ((Int32.ofInt (i : Int) + Int32.ofInt 3).toNatClampNeg))
  obtain ⟨z4, r4, q4⟩ := o32 (I 0 ((Int32.ofInt (i : Int) + Int32.ofInt 4).toNatClampNeg))
  all_goals
    refine s_420_1387 ?_
    refine n_go hL (by decide) (by omega) ?_
    refine n_go hL (by decide) (by omega) ?_
    refine n_go hL (by decide) (by omega) ?_
    refine n_go hL (by decide) (by omega) ?_
    rw [q1, q2, q3, q4]
    refine cqi (fun Q h => h_381 r1 r2 r3 r4 h) (fun Q h => v_381 h) (fun I1 L1 e1 hf he hv => kcp_v rfl (s_420_1416 ?_))
    rw [show I1 0 = I 0 from hf.at rfl]
    refine n_go hL (by decide) (by omega) ?_
    refine n_go hL (by decide) (by omega) ?_
    refine n_go hL (by decide) (by omega) ?_
    refine n_go hL (by decide) (by omega) ?_
    rw [q1, q2, q3, q4]
    have hr1 : RSt I1 ch sh a b := hr.cw (hf.up rfl)
    exact r_249 r1 r2 r3 r4 (fun I2 L2 v hf2 hl hc2 hv2 => kcp_v rfl (s_420_1446 (tl_i cd_381 hc2 hv2 (fun k => by rw [hl]; exact hv k) (hn I2 L2 e1 (LwS.rd hok hsh hc hr hf hf2) he))))
