/-! Cases of the law: 39 to 52, by program. -/
set_option maxHeartbeats 4000000 in
theorem k_39 {Lx i : Nat} {I : Mi} {L : Ml} {e : Nat} {Q : Kq} {ch : Ch} {sh : Nat → Option Ch} {a b : Int} (hL : Lx ≤ 5120) (hi : i + 9 < Lx) (hok : ChOk ch) (hsh : ShOk sh) (hc : CSt I ch sh a b) (hr : RSt I ch sh a b) (hn : NX Lx i Q e) : Wp 420 3943 [(0, .ref 0), (1, .ref 1), (2, .ref 58), (3, .ref 70), (4, .int (Int32.ofInt (i : Int)))] [] (gE Lx) I L e Q := by
  obtain ⟨z1, r1, q1⟩ := o32 (I 0 ((Int32.ofInt (i : Int) + Int32.ofInt 1).toNatClampNeg))
  obtain ⟨z3, r3, q3⟩ := o32 (I 0 ((Int32.ofInt (i : Int) + Int32.ofInt 3).toNatClampNeg))
  obtain ⟨z4, r4, q4⟩ := o32 (I 0 ((Int32.ofInt (i : Int) + Int32.ofInt 4).toNatClampNeg))
  obtain ⟨z5, r5, q5⟩ := o32 (I 0 ((Int32.ofInt (i : Int) + Int32.ofInt 5).toNatClampNeg))
  obtain ⟨z6, r6, q6⟩ := o32 (I 0 ((Int32.ofInt (i : Int) + Int32.ofInt 6).toNatClampNeg))
  obtain ⟨z7, r7, q7⟩ := o32 (I 0 ((Int32.ofInt (i : Int) + Int32.ofInt 7).toNatClampNeg))
  by_cases b2 : I 0 ((Int32.ofInt (i : Int) + Int32.ofInt 2).toNatClampNeg) = 0
  all_goals by_cases b8 : I 0 ((Int32.ofInt (i : Int) + Int32.ofInt 8).toNatClampNeg) = 0
  all_goals by_cases b9 : I 0 ((Int32.ofInt (i : Int) + Int32.ofInt 9).toNatClampNeg) = 0
  all_goals
    refine s_420_3943 ?_
    refine n_go hL (by decide) (by omega) ?_
    refine n_go hL (by decide) (by omega) ?_
    first | refine i_t b2 ?_ | refine i_f b2 ?_
    refine n_go hL (by decide) (by omega) ?_
    refine n_go hL (by decide) (by omega) ?_
    refine n_go hL (by decide) (by omega) ?_
    refine n_go hL (by decide) (by omega) ?_
    refine n_go hL (by decide) (by omega) ?_
    refine n_go hL (by decide) (by omega) ?_
    first | refine i_t b8 ?_ | refine i_f b8 ?_
    refine n_go hL (by decide) (by omega) ?_
    first | refine i_t b9 ?_ | refine i_f b9 ?_
    rw [q1, q3, q4, q5, q6, q7]
    refine h_406 hok hc.c r1 (by omega) r3 r4 r5 r6 r7 (by omega) (by omega) (fun I1 L1 e1 hf he hv => kcp_v rfl (s_420_4030 ?_))
    rw [show I1 0 = I 0 from hf.at rfl]
    refine n_go hL (by decide) (by omega) ?_
    refine n_go hL (by decide) (by omega) ?_
    first | refine i_t b2 ?_ | refine i_f b2 ?_
    refine n_go hL (by decide) (by omega) ?_
    refine n_go hL (by decide) (by omega) ?_
    refine n_go hL (by decide) (by omega) ?_
    refine n_go hL (by decide) (by omega) ?_
    refine n_go hL (by decide) (by omega) ?_
    refine n_go hL (by decide) (by omega) ?_
    first | refine i_t b8 ?_ | refine i_f b8 ?_
    refine n_go hL (by decide) (by omega) ?_
    first | refine i_t b9 ?_ | refine i_f b9 ?_
    rw [q1, q3, q4, q5, q6, q7]
    have hr1 : RSt I1 ch sh a b := hr.cw (hf.up rfl)
    exact r_291 hok hr1.c r1 (by omega) r3 r4 r5 r6 r7 (by omega) (by omega) (fun I2 L2 v hf2 hl hc2 hv2 => kcp_v rfl (s_420_4118 (tl_l cd_406 hc2 hv2 (fun k => by rw [hl]; exact hv k) (hn I2 L2 e1 (LwS.rd hok hsh hc hr hf hf2) he))))
set_option maxHeartbeats 4000000 in
theorem k_40 {Lx i : Nat} {I : Mi} {L : Ml} {e : Nat} {Q : Kq} {ch : Ch} {sh : Nat → Option Ch} {a b : Int} (hL : Lx ≤ 5120) (hi : i + 9 < Lx) (hok : ChOk ch) (hsh : ShOk sh) (hc : CSt I ch sh a b) (hr : RSt I ch sh a b) (hn : NX Lx i Q e) : Wp 420 4150 [(0, .ref 0), (1, .ref 1), (2, .ref 58), (3, .ref 70), (4, .int (Int32.ofInt (i : Int)))] [] (gE Lx) I L e Q := by
  obtain ⟨z1, r1, q1⟩ := o32 (I 0 ((Int32.ofInt (i : Int) + Int32.ofInt 1).toNatClampNeg))
  obtain ⟨z3, r3, q3⟩ := o32 (I 0 ((Int32.ofInt (i : Int) + Int32.ofInt 3).toNatClampNeg))
  obtain ⟨z4, r4, q4⟩ := o32 (I 0 ((Int32.ofInt (i : Int) + Int32.ofInt 4).toNatClampNeg))
  obtain ⟨z5, r5, q5⟩ := o32 (I 0 ((Int32.ofInt (i : Int) + Int32.ofInt 5).toNatClampNeg))
  by_cases b2 : I 0 ((Int32.ofInt (i : Int) + Int32.ofInt 2).toNatClampNeg) = 0
  all_goals
    refine s_420_4150 ?_
    refine n_go hL (by decide) (by omega) ?_
    refine n_go hL (by decide) (by omega) ?_
    first | refine i_t b2 ?_ | refine i_f b2 ?_
    refine n_go hL (by decide) (by omega) ?_
    refine n_go hL (by decide) (by omega) ?_
    refine n_go hL (by decide) (by omega) ?_
    rw [q1, q3, q4, q5]
    refine cqi (fun Q h => h_407 hok hc.c hc.t r1 (by omega) r3 r4 r5 h) (fun Q h => v_407 h) (fun I1 L1 e1 hf he hv => kcp_v rfl (s_420_4193 ?_))
    rw [show I1 0 = I 0 from hf.at rfl]
    refine n_go hL (by decide) (by omega) ?_
    refine n_go hL (by decide) (by omega) ?_
    first | refine i_t b2 ?_ | refine i_f b2 ?_
    refine n_go hL (by decide) (by omega) ?_
    refine n_go hL (by decide) (by omega) ?_
    refine n_go hL (by decide) (by omega) ?_
    rw [q1, q3, q4, q5]
    have hr1 : RSt I1 ch sh a b := hr.cw (hf.up rfl)
    exact r_305 hok hr1.c hr1.t r1 (by omega) r3 r4 r5 (fun I2 L2 v hf2 hl hc2 hv2 => kcp_v rfl (s_420_4237 (tl_i cd_407 hc2 hv2 (fun k => by rw [hl]; exact hv k) (hn I2 L2 e1 (LwS.rd hok hsh hc hr hf hf2) he))))
set_option maxHeartbeats 4000000 in
theorem k_41 {Lx i : Nat} {I : Mi} {L : Ml} {e : Nat} {Q : Kq} {ch : Ch} {sh : Nat → Option Ch} {a b : Int} (hL : Lx ≤ 5120) (hi : i + 9 < Lx) (hok : ChOk ch) (hsh : ShOk sh) (hc : CSt I ch sh a b) (hr : RSt I ch sh a b) (hn : NX Lx i Q e) : Wp 420 4270 [(0, .ref 0), (1, .ref 1), (2, .ref 58), (3, .ref 70), (4, .int (Int32.ofInt (i : Int)))] [] (gE Lx) I L e Q := by
  obtain ⟨z1, r1, q1⟩ := o32 (I 0 ((Int32.ofInt (i : Int) + Int32.ofInt 1).toNatClampNeg))
  obtain ⟨z3, r3, q3⟩ := o32 (I 0 ((Int32.ofInt (i : Int) + Int32.ofInt 3).toNatClampNeg))
  obtain ⟨z5, r5, q5⟩ := o32 (I 0 ((Int32.ofInt (i : Int) + Int32.ofInt 5).toNatClampNeg))
  by_cases b2 : I 0 ((Int32.ofInt (i : Int) + Int32.ofInt 2).toNatClampNeg) = 0
  all_goals by_cases b4 : I 0 ((Int32.ofInt (i : Int) + Int32.ofInt 4).toNatClampNeg) = 0
  all_goals
    refine s_420_4270 ?_
    refine n_go hL (by decide) (by omega) ?_
    refine n_go hL (by decide) (by omega) ?_
    first | refine i_t b2 ?_ | refine i_f b2 ?_
    refine n_go hL (by decide) (by omega) ?_
    refine n_go hL (by decide) (by omega) ?_
    first | refine i_t b4 ?_ | refine i_f b4 ?_
    refine n_go hL (by decide) (by omega) ?_
    rw [q1, q3, q5]
    refine h_408 hok hc.c hc.t r1 (by omega) r3 (by omega) r5 (fun I1 L1 e1 hf he hv => kcp_v rfl (s_420_4321 ?_))
    rw [show I1 0 = I 0 from hf.at rfl]
    refine n_go hL (by decide) (by omega) ?_
    refine n_go hL (by decide) (by omega) ?_
    first | refine i_t b2 ?_ | refine i_f b2 ?_
    refine n_go hL (by decide) (by omega) ?_
    refine n_go hL (by decide) (by omega) ?_
    first | refine i_t b4 ?_ | refine i_f b4 ?_
    refine n_go hL (by decide) (by omega) ?_
    rw [q1, q3, q5]
    have hr1 : RSt I1 ch sh a b := hr.cw (hf.up rfl)
    exact r_308 hok hr1.c hr1.t r1 (by omega) r3 (by omega) r5 (fun I2 L2 v hf2 hl hc2 hv2 => kcp_v rfl (s_420_4373 (tl_l cd_408 hc2 hv2 (fun k => by rw [hl]; exact hv k) (hn I2 L2 e1 (LwS.rd hok hsh hc hr hf hf2) he))))
set_option maxHeartbeats 4000000 in
theorem k_42 {Lx i : Nat} {I : Mi} {L : Ml} {e : Nat} {Q : Kq} {ch : Ch} {sh : Nat → Option Ch} {a b : Int} (hL : Lx ≤ 5120) (hi : i + 9 < Lx) (hok : ChOk ch) (hsh : ShOk sh) (hc : CSt I ch sh a b) (hr : RSt I ch sh a b) (hn : NX Lx i Q e) : Wp 420 4405 [(0, .ref 0), (1, .ref 1), (2, .ref 58), (3, .ref 70), (4, .int (Int32.ofInt (i : Int)))] [] (gE Lx) I L e Q := by
  obtain ⟨z1, r1, q1⟩ := o32 (I 0 ((Int32.ofInt (i : Int) + Int32.ofInt 1).toNatClampNeg))
  obtain ⟨z2, r2, q2⟩ := o32 (I 0 ((Int32.ofInt (i : Int) + Int32.ofInt 2).toNatClampNeg))
  obtain ⟨z3, r3, q3⟩ := o32 (I 0 ((Int32.ofInt (i : Int) + Int32.ofInt 3).toNatClampNeg))
  obtain ⟨z5, r5, q5⟩ := o32 (I 0 ((Int32.ofInt (i : Int) + Int32.ofInt 5).toNatClampNeg))
  by_cases b4 : I 0 ((Int32.ofInt (i : Int) + Int32.ofInt 4).toNatClampNeg) = 0
  all_goals
    refine s_420_4405 ?_
    refine n_go hL (by decide) (by omega) ?_
    refine n_go hL (by decide) (by omega) ?_
    refine n_go hL (by decide) (by omega) ?_
    refine n_go hL (by decide) (by omega) ?_
    first | refine i_t b4 ?_ | refine i_f b4 ?_
    refine n_go hL (by decide) (by omega) ?_
    rw [q1, q2, q3, q5]
    refine cqi (fun Q h => h_409 hok hc.c hc.t r1 r2 r3 (by omega) r5 h) (fun Q h => v_409 h) (fun I1 L1 e1 hf he hv => kcp_v rfl (s_420_4448 ?_))
    rw [show I1 0 = I 0 from hf.at rfl]
    refine n_go hL (by decide) (by omega) ?_
    refine n_go hL (by decide) (by omega) ?_
    refine n_go hL (by decide) (by omega) ?_
    refine n_go hL (by decide) (by omega) ?_
    first | refine i_t b4 ?_ | refine i_f b4 ?_
    refine n_go hL (by decide) (by omega) ?_
    rw [q1, q2, q3, q5]
    have hr1 : RSt I1 ch sh a b := hr.cw (hf.up rfl)
    exact r_325 hok hr1.c hr1.t r1 r2 r3 (by omega) r5 (fun I2 L2 v hf2 hl hc2 hv2 => kcp_v rfl (s_420_4492 (tl_i cd_409 hc2 hv2 (fun k => by rw [hl]; exact hv k) (hn I2 L2 e1 (LwS.rd hok hsh hc hr hf hf2) he))))
set_option maxHeartbeats 4000000 in
theorem k_43 {Lx i : Nat} {I : Mi} {L : Ml} {e : Nat} {Q : Kq} {ch : Ch} {sh : Nat → Option Ch} {a b : Int} (hL : Lx ≤ 5120) (hi : i + 9 < Lx) (hok : ChOk ch) (hsh : ShOk sh) (hc : CSt I ch sh a b) (hr : RSt I ch sh a b) (hn : NX Lx i Q e) : Wp 420 4525 [(0, .ref 0), (1, .ref 1), (2, .ref 58), (3, .ref 70), (4, .int (Int32.ofInt (i : Int)))] [] (gE Lx) I L e Q := by
  obtain ⟨z1, r1, q1⟩ := o32 (I 0 ((Int32.ofInt (i : Int) + Int32.ofInt 1).toNatClampNeg))
  obtain ⟨z2, r2, q2⟩ := o32 (I 0 ((Int32.ofInt (i : Int) + Int32.ofInt 2).toNatClampNeg))
  all_goals
    refine s_420_4525 ?_
    refine n_go hL (by decide) (by omega) ?_
    refine n_go hL (by decide) (by omega) ?_
    rw [q1, q2]
    refine cqi (fun Q h => h_410 hok hc.c hc.t r1 r2 h) (fun Q h => v_410 h) (fun I1 L1 e1 hf he hv => kcp_v rfl (s_420_4542 ?_))
    rw [show I1 0 = I 0 from hf.at rfl]
    refine n_go hL (by decide) (by omega) ?_
    refine n_go hL (by decide) (by omega) ?_
    rw [q1, q2]
    have hr1 : RSt I1 ch sh a b := hr.cw (hf.up rfl)
    exact r_326 hok hr1.c hr1.t r1 r2 (fun I2 L2 v hf2 hl hc2 hv2 => kcp_v rfl (s_420_4560 (tl_i cd_410 hc2 hv2 (fun k => by rw [hl]; exact hv k) (hn I2 L2 e1 (LwS.rd hok hsh hc hr hf hf2) he))))
set_option maxHeartbeats 4000000 in
theorem k_44 {Lx i : Nat} {I : Mi} {L : Ml} {e : Nat} {Q : Kq} {ch : Ch} {sh : Nat → Option Ch} {a b : Int} (hL : Lx ≤ 5120) (hi : i + 9 < Lx) (hok : ChOk ch) (hsh : ShOk sh) (hc : CSt I ch sh a b) (hr : RSt I ch sh a b) (hn : NX Lx i Q e) : Wp 420 4593 [(0, .ref 0), (1, .ref 1), (2, .ref 58), (3, .ref 70), (4, .int (Int32.ofInt (i : Int)))] [] (gE Lx) I L e Q := by
  obtain ⟨z1, r1, q1⟩ := o32 (I 0 ((Int32.ofInt (i : Int) + Int32.ofInt 1).toNatClampNeg))
  all_goals
    refine s_420_4593 ?_
    refine n_go hL (by decide) (by omega) ?_
    rw [q1]
    refine c_88 hok hc.c r1 (fun I1 L1 hf => kcp_v rfl (s_420_4603 ?_))
    refine n_go hL (by decide) (by omega) ?_
    rw [show I1 0 = I 0 from hf.at rfl, q1]
    have hr1 : RSt I1 ch sh a b := hr.cw (hf.up rfl)
    exact r_328 hok hr1.c r1 (fun I2 L2 hf2 hl hc2 => kcp_v rfl (s_420_4613 (i_t rfl (hn I2 L2 e (LwS.rd hok hsh hc hr hf hf2) (Nat.le_succ e)))))
set_option maxHeartbeats 4000000 in
theorem k_45 {Lx i : Nat} {I : Mi} {L : Ml} {e : Nat} {Q : Kq} {ch : Ch} {sh : Nat → Option Ch} {a b : Int} (hL : Lx ≤ 5120) (hi : i + 9 < Lx) (hok : ChOk ch) (hsh : ShOk sh) (hc : CSt I ch sh a b) (hr : RSt I ch sh a b) (hn : NX Lx i Q e) : Wp 420 4618 [(0, .ref 0), (1, .ref 1), (2, .ref 58), (3, .ref 70), (4, .int (Int32.ofInt (i : Int)))] [] (gE Lx) I L e Q := by
  all_goals
    refine s_420_4618 ?_
    refine c_93 hok hc.c (fun I1 L1 hf hch => kcp_v rfl (s_420_4622 ?_))
    have hr1 : RSt I1 ch sh a b := hr.cw hf
    exact r_332 hok hr1.c (fun I2 L2 hf2 hbn hl hc2 => kcp_v rfl (s_420_4626 (i_t rfl (hn I2 L2 e (LwS.wr (spArr_ok hok).1 hsh hc hr hf hch hf2 hbn) (Nat.le_succ e)))))
set_option maxHeartbeats 4000000 in
theorem k_46 {Lx i : Nat} {I : Mi} {L : Ml} {e : Nat} {Q : Kq} {ch : Ch} {sh : Nat → Option Ch} {a b : Int} (hL : Lx ≤ 5120) (hi : i + 9 < Lx) (hok : ChOk ch) (hsh : ShOk sh) (hc : CSt I ch sh a b) (hr : RSt I ch sh a b) (hn : NX Lx i Q e) : Wp 420 4631 [(0, .ref 0), (1, .ref 1), (2, .ref 58), (3, .ref 70), (4, .int (Int32.ofInt (i : Int)))] [] (gE Lx) I L e Q := by
  obtain ⟨z1, r1, q1⟩ := o32 (I 0 ((Int32.ofInt (i : Int) + Int32.ofInt 1).toNatClampNeg))
  all_goals
    refine s_420_4631 ?_
    refine n_go hL (by decide) (by omega) ?_
    rw [q1]
    refine cqi (fun Q h => h_411 hok hc.c hc.t r1 h) (fun Q h => v_411 h) (fun I1 L1 e1 hf he hv => kcp_v rfl (s_420_4642 ?_))
    rw [show I1 0 = I 0 from hf.at rfl]
    refine n_go hL (by decide) (by omega) ?_
    rw [q1]
    have hr1 : RSt I1 ch sh a b := hr.cw (hf.up rfl)
    exact r_333 hok hr1.c hr1.t r1 (fun I2 L2 v hf2 hl hc2 hv2 => kcp_v rfl (s_420_4654 (tl_i cd_411 hc2 hv2 (fun k => by rw [hl]; exact hv k) (hn I2 L2 e1 (LwS.rd hok hsh hc hr hf hf2) he))))
set_option maxHeartbeats 4000000 in
theorem k_47 {Lx i : Nat} {I : Mi} {L : Ml} {e : Nat} {Q : Kq} {ch : Ch} {sh : Nat → Option Ch} {a b : Int} (hL : Lx ≤ 5120) (hi : i + 9 < Lx) (hok : ChOk ch) (hsh : ShOk sh) (hc : CSt I ch sh a b) (hr : RSt I ch sh a b) (hn : NX Lx i Q e) : Wp 420 4687 [(0, .ref 0), (1, .ref 1), (2, .ref 58), (3, .ref 70), (4, .int (Int32.ofInt (i : Int)))] [] (gE Lx) I L e Q := by
  all_goals
    refine s_420_4687 ?_
    refine c_94 hok hc.c hc.l (fun I1 L1 hf => kcp_v rfl (s_420_4691 ?_))
    have hr1 : RSt I1 ch sh a b := hr.cw (hf.up rfl)
    exact r_350 hok hr1.c hr1.l (fun I2 L2 hf2 hl hc2 => kcp_v rfl (s_420_4695 (i_t rfl (hn I2 L2 e (LwS.rd hok hsh hc hr hf hf2) (Nat.le_succ e)))))
set_option maxHeartbeats 4000000 in
theorem k_48 {Lx i : Nat} {I : Mi} {L : Ml} {e : Nat} {Q : Kq} {ch : Ch} {sh : Nat → Option Ch} {a b : Int} (hL : Lx ≤ 5120) (hi : i + 9 < Lx) (hok : ChOk ch) (hsh : ShOk sh) (hc : CSt I ch sh a b) (hr : RSt I ch sh a b) (hn : NX Lx i Q e) : Wp 420 4700 [(0, .ref 0), (1, .ref 1), (2, .ref 58), (3, .ref 70), (4, .int (Int32.ofInt (i : Int)))] [] (gE Lx) I L e Q := by
  obtain ⟨z1, r1, q1⟩ := o32 (I 0 ((Int32.ofInt (i : Int) + Int32.ofInt 1).toNatClampNeg))
  all_goals
    refine s_420_4700 ?_
    refine n_go hL (by decide) (by omega) ?_
    rw [q1]
    refine h_412 hok hc.c r1 (fun I1 L1 e1 hf he hv => kcp_v rfl (s_420_4711 ?_))
    rw [show I1 0 = I 0 from hf.at rfl]
    refine n_go hL (by decide) (by omega) ?_
    rw [q1]
    have hr1 : RSt I1 ch sh a b := hr.cw (hf.up rfl)
    exact r_352 hok hr1.c r1 (fun I2 L2 v hf2 hl hc2 hv2 => kcp_v rfl (s_420_4723 (tl_l cd_412 hc2 hv2 (fun k => by rw [hl]; exact hv k) (hn I2 L2 e1 (LwS.rd hok hsh hc hr hf hf2) he))))
set_option maxHeartbeats 4000000 in
theorem k_50 {Lx i : Nat} {I : Mi} {L : Ml} {e : Nat} {Q : Kq} {ch : Ch} {sh : Nat → Option Ch} {a b : Int} (hL : Lx ≤ 5120) (hi : i + 9 < Lx) (hok : ChOk ch) (hsh : ShOk sh) (hc : CSt I ch sh a b) (hr : RSt I ch sh a b) (hn : NX Lx i Q e) : Wp 420 4811 [(0, .ref 0), (1, .ref 1), (2, .ref 58), (3, .ref 70), (4, .int (Int32.ofInt (i : Int)))] [] (gE Lx) I L e Q := by
  obtain ⟨z1, r1, q1⟩ := o32 (I 0 ((Int32.ofInt (i : Int) + Int32.ofInt 1).toNatClampNeg))
  all_goals
    refine s_420_4811 ?_
    refine n_go hL (by decide) (by omega) ?_
    rw [q1]
    refine cwi (fun Q h => h_414 hsh hc r1 h) (fun Q h => v_414 h) (fun I1 L1 e1 hf hch he hv => kcp_v rfl (s_420_4822 ?_))
    rw [show I1 0 = I 0 from hf.at rfl]
    refine n_go hL (by decide) (by omega) ?_
    rw [q1]
    have hr1 : RSt I1 ch sh a b := hr.cw hf
    exact r_356 hsh hr1 r1 (fun I2 L2 v hf2 hbn hl hc2 hv2 => kcp_v rfl (s_420_4834 (tl_i cd_414 hc2 (fun k => hv2 k rfl) (fun k => by rw [hl]; exact hv k) (hn I2 L2 e1 (LwS.wr (spBring_ok hok hsh) hsh hc hr hf hch hf2 hbn) he))))
set_option maxHeartbeats 4000000 in
theorem k_51 {Lx i : Nat} {I : Mi} {L : Ml} {e : Nat} {Q : Kq} {ch : Ch} {sh : Nat → Option Ch} {a b : Int} (hL : Lx ≤ 5120) (hi : i + 9 < Lx) (hok : ChOk ch) (hsh : ShOk sh) (hc : CSt I ch sh a b) (hr : RSt I ch sh a b) (hn : NX Lx i Q e) : Wp 420 4867 [(0, .ref 0), (1, .ref 1), (2, .ref 58), (3, .ref 70), (4, .int (Int32.ofInt (i : Int)))] [] (gE Lx) I L e Q := by
  obtain ⟨z1, r1, q1⟩ := o32 (I 0 ((Int32.ofInt (i : Int) + Int32.ofInt 1).toNatClampNeg))
  all_goals
    refine s_420_4867 ?_
    refine n_go hL (by decide) (by omega) ?_
    rw [q1]
    refine c_100 hsh hc r1 (fun I1 L1 hf => kcp_v rfl (s_420_4877 ?_))
    refine n_go hL (by decide) (by omega) ?_
    rw [show I1 0 = I 0 from hf.at rfl, q1]
    have hr1 : RSt I1 ch sh a b := hr.cw (hf.up rfl)
    exact r_359 hsh hr1 r1 (fun I2 L2 hf2 hl hc2 => kcp_v rfl (s_420_4887 (i_t rfl (hn I2 L2 e (LwS.rd hok hsh hc hr hf hf2) (Nat.le_succ e)))))
set_option maxHeartbeats 4000000 in
theorem k_52 {Lx i : Nat} {I : Mi} {L : Ml} {e : Nat} {Q : Kq} {ch : Ch} {sh : Nat → Option Ch} {a b : Int} (hL : Lx ≤ 5120) (hi : i + 9 < Lx) (hok : ChOk ch) (hsh : ShOk sh) (hc : CSt I ch sh a b) (hr : RSt I ch sh a b) (hn : NX Lx i Q e) : Wp 420 4892 [(0, .ref 0), (1, .ref 1), (2, .ref 58), (3, .ref 70), (4, .int (Int32.ofInt (i : Int)))] [] (gE Lx) I L e Q := by
  obtain ⟨z1, r1, q1⟩ := o32 (I 0 ((Int32.ofInt (i : Int) + Int32.ofInt 1).toNatClampNeg))
  all_goals
    refine s_420_4892 ?_
    refine n_go hL (by decide) (by omega) ?_
    rw [q1]
    refine c_103 hok hc r1 (fun I1 L1 hf => kcp_v rfl (s_420_4902 ?_))
    refine n_go hL (by decide) (by omega) ?_
    rw [show I1 0 = I 0 from hf.at rfl, q1]
    have hr1 : RSt I1 ch sh a b := hr.cw (hf.up rfl)
    exact r_362 hok hr1 r1 (fun I2 L2 hf2 hl hc2 => kcp_v rfl (s_420_4912 (i_t rfl (hn I2 L2 e (LwS.rd hok hsh hc hr hf hf2) (Nat.le_succ e)))))
