/-! times, together, longer. -/
noncomputable def iT {α : Type} (p q : Int) (a b : α) : α := @ite α (isT p q) (Classical.propDecidable _) a b
theorem iT_t {α : Type} {p q : Int} {a b : α} (h : isT p q) : iT p q a b = a := if_pos h
theorem iT_f {α : Type} {p q : Int} {a b : α} (h : ¬ isT p q) : iT p q a b = b := if_neg h
noncomputable def spTimes (p q n lo : Int) : Nat × Int := iT p q (if n < 1 ∨ 4 < n then (1, 0) else (0, if lo = 0 then (tN p q (n.toNat - 1)).1 else (tN p q (n.toNat - 1)).2)) (1, 0)
noncomputable def spTog (p q r s lo : Int) : Nat × Int := iT p q (iT r s (0, if lo = 0 then (tS p q r s).1 else (tS p q r s).2) (1, 0)) (1, 0)
/-- which length is more -/
def lenC (p q r s : Int) : Int := if p < 0 then (if r < 0 then sg (p * s - r * q) else 1) else (if r < 0 then -1 else sg (p * s - r * q))
noncomputable def spLonger (p q r s : Int) : Nat × Int := iT p q (iT r s (0, lenC p q r s) (1, 0)) (1, 0)
theorem tS_b {p q r s : Int} (h1 : isT p q) (h2 : isT r s) : (-288 ≤ (tS p q r s).1 ∧ (tS p q r s).1 ≤ 288) ∧ (-288 ≤ (tS p q r s).2 ∧ (tS p q r s).2 ≤ 288) := by
  have hr := rot_b h1.b.1 h1.b.2 h2.b.1 h2.b.2
  exact fUL_b (rot_nz h1.nz h2.nz) hr.1 hr.2
theorem f_id {p q : Int} (h : isT p q) : fU p q = p ∧ fL p q = q := by
  have hg := h.2.2.1
  have hq := h.2.1
  unfold fU fL
  rw [if_neg h.nz, if_neg h.nz, hg, Int.ediv_one, Int.ediv_one, if_neg (by omega : ¬ q < 0)]
  refine ⟨?_, rfl⟩
  rw [if_neg]
  rintro (k | k)
  · omega
  · rcases h.2.2.2 with z | z <;> omega
section
variable {Lx : Nat} {I : Mi} {L : Ml} {e : Nat} {Q : Kq}
set_option maxHeartbeats 4000000 in
theorem h_379 {p q n lo : Int} (hp : R32 p) (hq : R32 q) (hn : R32 n) (hlo : R32 lo) (h : CQ Lx I e Q (spTimes p q n lo).1 (spTimes p q n lo).2) :
    Wp 379 0 [(0, .ref 1), (1, .int (Int32.ofInt p)), (2, .int (Int32.ofInt q)), (3, .int (Int32.ofInt n)), (4, .int (Int32.ofInt lo)), (5, .ref 70)] [] (gE Lx) I L e Q := by
  unfold spTimes at h
  refine s_379_0 (n_113 hp hq (fun ht => kcp_v rfl (s_131_6 ?_)) (fun ht => ?_))
  · rw [iT_t ht] at h
    by_cases hb : n < 1 ∨ 4 < n
    · rw [if_pos hb] at h
      have bad := kcp_h (mi := 379) (pc := 9) (sp := 0) (ls := [(0, .ref 1), (5, .ref 70)]) (n := 71) (r := [.int (Int32.ofInt 0), .ref 70]) (x := 101) (c := Int32.ofInt 1) rfl (h.mk (c := 1) (L' := L) (e' := e + 1) FrI.rf (by omega) rfl (fun z => by cases z))
      exact i_lt32 hn (by omega) (fun _ => bad) (fun _ => i_lt32 (by omega) hn (fun _ => bad) (fun _ => by omega))
    · rw [if_neg hb] at h
      obtain ⟨m, rfl, hm⟩ := nat_of (m := n) (n := 4) (by omega) (by omega)
      rw [Int.toNat_natCast] at h
      rw [i2l hp, i2l hq]
      refine i_lt32 hn (by omega) (fun _ => by omega) (fun _ => i_lt32 (by omega) hn (fun _ => by omega) (fun _ => c_30 (by omega) ht.nz ht.b.1 ht.b.2 (fun L1 hf1 hv1 => kcp_v rfl (s_131_36 ?_))))
      have hb2 := tN_b ht.nz ht.b.1 ht.b.2 (m - 1)
      have hj : m - 1 = 0 ∨ m - 1 = 1 ∨ m - 1 = 2 ∨ m - 1 = 3 := by omega
      have hbb : (-165888 ≤ (tN p q (m - 1)).1 ∧ (tN p q (m - 1)).1 ≤ 165888) ∧ (-165888 ≤ (tN p q (m - 1)).2 ∧ (tN p q (m - 1)).2 ≤ 165888) := by
        rcases hj with hj | hj | hj | hj <;> (rw [hj] at hb2 ⊢; simp only [Int.pow_zero, Int.pow_succ] at hb2; omega)
      rw [hv1.1, hv1.2, l2i, l2i]
      refine i_eqz hlo (fun k0 => kcp_v rfl (s_379_12 (i_inb0 (by decide) ?_))) (fun k0 => kcp_v rfl (s_379_12 (i_inb0 (by decide) ?_)))
      · rw [if_pos k0] at h
        exact h.mk (c := 0) FrI.rf (by omega) rfl (fun _ => by rw [tnc0, l_at, i2l (by omega)])
      · rw [if_neg k0] at h
        exact h.mk (c := 0) FrI.rf (by omega) rfl (fun _ => by rw [tnc0, l_at, i2l (by omega)])
  · rw [iT_f ht] at h
    exact kcp_x rfl (kcp_h rfl (h.mk (c := 1) FrI.rf (by omega) rfl (fun z => by cases z)))
set_option maxHeartbeats 4000000 in
theorem r_244 {p q n lo : Int} (hp : R32 p) (hq : R32 q) (hn : R32 n) (hlo : R32 lo) (h : RQ Lx I L e Q (spTimes p q n lo).1 vI (spTimes p q n lo).2) :
    Wp 244 0 [(0, .ref 58), (1, .int (Int32.ofInt p)), (2, .int (Int32.ofInt q)), (3, .int (Int32.ofInt n)), (4, .int (Int32.ofInt lo))] [] (gE Lx) I L e Q := by
  unfold spTimes at h
  refine s_244_0 (c_207 hp hq (fun ht => kcp_v rfl (s_244_6 ?_)) (fun ht => kcp_v rfl (s_244_6 ?_)))
  · rw [iT_t ht] at h
    refine i_eqz (by omega) (fun k => by cases k) (fun _ => ?_)
    by_cases hb : n < 1 ∨ 4 < n
    · rw [if_pos hb] at h
      exact i_lt32 hn (by omega) (fun _ => h.mk (v := 0) (FrI.wu FrI.rf rfl) rfl (c := 1) u_at rfl (fun z => by cases z)) (fun _ => i_lt32 (by omega) hn (fun _ => h.mk (v := 0) (FrI.wu FrI.rf rfl) rfl (c := 1) u_at rfl (fun z => by cases z)) (fun _ => by omega))
    · rw [if_neg hb] at h
      obtain ⟨m, rfl, hm⟩ := nat_of (m := n) (n := 4) (by omega) (by omega)
      rw [Int.toNat_natCast] at h
      rw [i2l hp, i2l hq]
      refine i_lt32 hn (by omega) (fun _ => by omega) (fun _ => i_lt32 (by omega) hn (fun _ => by omega) (fun _ => c_245 (by omega) ht.nz ht.b.1 ht.b.2 (fun L1 hf1 k8 k9 => kcp_v rfl (s_244_44 ?_))))
      rw [k8, k9, l2i, l2i]
      refine i_eqz hlo (fun k0 => ?_) (fun k0 => ?_)
      · rw [if_pos k0] at h
        exact h.mk (FrI.wu FrI.rf rfl) (hf1.at rfl) (c := 0) u_at rfl (fun _ => rfl)
      · rw [if_neg k0] at h
        exact h.mk (FrI.wu FrI.rf rfl) (hf1.at rfl) (c := 0) u_at rfl (fun _ => rfl)
  · rw [iT_f ht] at h
    exact i_eqz (by omega) (fun _ => h.mk (v := 0) (FrI.wu FrI.rf rfl) rfl (c := 1) u_at rfl (fun z => by cases z)) (fun k => absurd rfl k)
set_option maxHeartbeats 4000000 in
theorem h_380 {p q r s lo : Int} (hp : R32 p) (hq : R32 q) (hr : R32 r) (hs : R32 s) (hlo : R32 lo) (h : CQ Lx I e Q (spTog p q r s lo).1 (spTog p q r s lo).2) :
    Wp 380 0 [(0, .ref 1), (1, .int (Int32.ofInt p)), (2, .int (Int32.ofInt q)), (3, .int (Int32.ofInt r)), (4, .int (Int32.ofInt s)), (5, .int (Int32.ofInt lo)), (6, .ref 70)] [] (gE Lx) I L e Q := by
  unfold spTog at h
  refine s_380_0 (n_113 hp hq (fun ht => kcp_v rfl (s_132_6 (n_113 hr hs (fun ht2 => kcp_v rfl (s_132_13 ?_)) (fun ht2 => ?_)))) (fun ht => ?_))
  · rw [iT_t ht, iT_t ht2] at h
    rw [i2l hp, i2l hq]
    refine c_25 (Or.inl rfl) (by omega) (by omega) (fun L1 hf1 hv1 => kcp_v rfl (s_132_24 ?_))
    rw [hv1.1, hv1.2, (f_id ht).1, (f_id ht).2, i2l hr, i2l hs, mul64, mul64, mul64, mul64, add64, sub64]
    have hb := rot_b ht.b.1 ht.b.2 ht2.b.1 ht2.b.2
    have hbb := tS_b ht ht2
    unfold tS at hbb
    dsimp only at hbb
    refine c_25 (Or.inl rfl) (by omega) (by omega) (fun L2 hf2 hv2 => kcp_v rfl (s_27_30_18 (kcp_v rfl (s_132_36 ?_))))
    rw [hv2.1, hv2.2, l2i, l2i]
    refine i_eqz hlo (fun k0 => kcp_v rfl (s_380_14 (i_inb0 (by decide) ?_))) (fun k0 => kcp_v rfl (s_380_14 (i_inb0 (by decide) ?_)))
    · rw [if_pos k0] at h
      exact h.mk (c := 0) FrI.rf (by omega) rfl (fun _ => by rw [tnc0, l_at]; exact i2l (by have := hbb.1; omega))
    · rw [if_neg k0] at h
      exact h.mk (c := 0) FrI.rf (by omega) rfl (fun _ => by rw [tnc0, l_at]; exact i2l (by have := hbb.2; omega))
  · rw [iT_t ht, iT_f ht2] at h
    exact kcp_x rfl (kcp_h rfl (h.mk (c := 1) FrI.rf (by omega) rfl (fun z => by cases z)))
  · rw [iT_f ht] at h
    exact kcp_x rfl (kcp_h rfl (h.mk (c := 1) FrI.rf (by omega) rfl (fun z => by cases z)))
set_option maxHeartbeats 4000000 in
theorem r_248 {p q r s lo : Int} (hp : R32 p) (hq : R32 q) (hr : R32 r) (hs : R32 s) (hlo : R32 lo) (h : RQ Lx I L e Q (spTog p q r s lo).1 vI (spTog p q r s lo).2) :
    Wp 248 0 [(0, .ref 58), (1, .int (Int32.ofInt p)), (2, .int (Int32.ofInt q)), (3, .int (Int32.ofInt r)), (4, .int (Int32.ofInt s)), (5, .int (Int32.ofInt lo))] [] (gE Lx) I L e Q := by
  unfold spTog at h
  refine s_248_0 (c_207 hp hq (fun ht => kcp_v rfl (s_248_6 ?_)) (fun ht => kcp_v rfl (s_248_6 ?_)))
  · refine i_eqz (by omega) (fun k => by cases k) (fun _ => c_207 hr hs (fun ht2 => kcp_v rfl (s_248_15 ?_)) (fun ht2 => kcp_v rfl (s_248_15 ?_)))
    · rw [iT_t ht, iT_t ht2] at h
      rw [i2l hp, i2l hq, i2l hr, i2l hs]
      have hb := rot_b ht.b.1 ht.b.2 ht2.b.1 ht2.b.2
      refine i_eqz (by omega) (fun k => by cases k) (fun _ => c_247 (by omega) ht.nz ht2.nz (fun L1 hf1 k8 k9 => kcp_v rfl (s_248_48 ?_)))
      rw [k8, k9, l2i, l2i]
      refine i_eqz hlo (fun k0 => ?_) (fun k0 => ?_)
      · rw [if_pos k0] at h
        exact h.mk (FrI.wu FrI.rf rfl) (hf1.at rfl) (c := 0) u_at rfl (fun _ => rfl)
      · rw [if_neg k0] at h
        exact h.mk (FrI.wu FrI.rf rfl) (hf1.at rfl) (c := 0) u_at rfl (fun _ => rfl)
    · rw [iT_t ht, iT_f ht2] at h
      exact i_eqz (by omega) (fun _ => h.mk (v := 0) (FrI.wu FrI.rf rfl) rfl (c := 1) u_at rfl (fun z => by cases z)) (fun k => absurd rfl k)
  · rw [iT_f ht] at h
    exact i_eqz (by omega) (fun _ => h.mk (v := 0) (FrI.wu FrI.rf rfl) rfl (c := 1) u_at rfl (fun z => by cases z)) (fun k => absurd rfl k)
/-- the class compares lengths -/
theorem c_28 {p q r s : Int} (hp : -1000000000 ≤ p ∧ p ≤ 1000000000) (hq : 0 ≤ q ∧ q ≤ 1000000000) (hr : -1000000000 ≤ r ∧ r ≤ 1000000000) (hs : 0 ≤ s ∧ s ≤ 1000000000) (hq0 : q = 0 → 0 < p) (hs0 : s = 0 → 0 < r) (h : Q (.inl (some (.int (Int32.ofInt (lenC p q r s))))) (gE Lx) I L e) :
    Wp 28 0 [(0, .long (Int64.ofInt p)), (2, .long (Int64.ofInt q)), (4, .long (Int64.ofInt r)), (6, .long (Int64.ofInt s))] [] (gE Lx) I L e Q := by
  unfold lenC at h
  have m1 := mulB hp (show -1000000000 ≤ s ∧ s ≤ 1000000000 by omega)
  have m2 := mulB hr (show -1000000000 ≤ q ∧ q ≤ 1000000000 by omega)
  refine s_28_0 ?_
  rw [mul64, mul64]
  refine i_eq64 (by omega) (by omega) (fun k1 => i_eq64 (by omega) (by omega) (fun k2 => ?_) (fun k2 => i_lt64 (by omega) (by omega) (fun k3 => ?_) (fun k3 => ?_))) (fun k1 => i_lt64 (by omega) (by omega) (fun k2 => i_eq64 (by omega) (by omega) (fun k3 => ?_) (fun k3 => i_lt64 (by omega) (by omega) (fun k4 => i_lt64 (by omega) (by omega) (fun k5 => ?_) (fun k5 => i_eq64 (by omega) (by omega) (fun k6 => ?_) (fun k6 => ?_))) (fun k4 => ?_)))
    (fun k2 => i_eq64 (by omega) (by omega) (fun k3 => ?_) (fun k3 => i_lt64 (by omega) (by omega) (fun k4 => ?_) (fun k4 => i_lt64 (by omega) (by omega) (fun k5 => ?_) (fun k5 => i_eq64 (by omega) (by omega) (fun k6 => ?_) (fun k6 => ?_))))))
  · have := hq0 k1; have := hs0 k2
    rw [if_neg (by omega), if_neg (by omega), k1, k2, sg_z (by omega)] at h; exact h
  · have := hq0 k1
    rw [if_neg (by omega), if_pos k3] at h; exact h
  · have := hq0 k1
    have : 0 < p * s := Int.mul_pos (by omega) (by omega)
    rw [if_neg (by omega), if_neg (by omega), k1, sg_p (by omega)] at h; exact h
  · have := hs0 k3
    rw [if_pos k2, if_neg (by omega)] at h; exact h
  · rw [if_pos k2, if_pos k4, sg_n (by omega)] at h; exact h
  · rw [if_pos k2, if_pos k4, sg_z (by omega)] at h; exact h
  · rw [if_pos k2, if_pos k4, sg_p (by omega)] at h; exact h
  · rw [if_pos k2, if_neg (by omega)] at h; exact h
  · have := hs0 k3
    have : 0 < r * q := Int.mul_pos (by omega) (by omega)
    rw [if_neg (by omega), if_neg (by omega), k3, sg_n (by omega)] at h; exact h
  · rw [if_neg (by omega), if_pos k4] at h; exact h
  · rw [if_neg (by omega), if_neg (by omega), sg_n (by omega)] at h; exact h
  · rw [if_neg (by omega), if_neg (by omega), sg_z (by omega)] at h; exact h
  · rw [if_neg (by omega), if_neg (by omega), sg_p (by omega)] at h; exact h
theorem lenC_r (p q r s : Int) : -1 ≤ lenC p q r s ∧ lenC p q r s ≤ 1 := by
  unfold lenC sg
  repeat' split
  all_goals omega
theorem isT.q0 {p q : Int} (h : isT p q) : q = 0 → 0 < p := fun k => by rcases h.2.2.2 with z | z <;> omega
set_option maxHeartbeats 4000000 in
theorem h_381 {p q r s : Int} (hp : R32 p) (hq : R32 q) (hr : R32 r) (hs : R32 s) (h : CQ Lx I e Q (spLonger p q r s).1 (spLonger p q r s).2) :
    Wp 381 0 [(0, .ref 1), (1, .int (Int32.ofInt p)), (2, .int (Int32.ofInt q)), (3, .int (Int32.ofInt r)), (4, .int (Int32.ofInt s)), (5, .ref 70)] [] (gE Lx) I L e Q := by
  unfold spLonger at h
  refine s_381_0 (n_113 hp hq (fun ht => kcp_v rfl (s_133_6 (n_113 hr hs (fun ht2 => kcp_v rfl (s_133_13 ?_)) (fun ht2 => ?_)))) (fun ht => ?_))
  · rw [iT_t ht, iT_t ht2] at h
    rw [i2l hp, i2l hq, i2l hr, i2l hs]
    have b1 := ht.1; have b2 := ht.2.1; have b3 := ht2.1; have b4 := ht2.2.1
    have hl := lenC_r p q r s
    refine c_28 (by omega) (by omega) (by omega) (by omega) ht.q0 ht2.q0 (kcp_v rfl (s_133_25 (kcp_v rfl (s_381_12 (i_inb0 (by decide) ?_)))))
    exact h.mk (c := 0) FrI.rf (by omega) rfl (fun _ => by rw [tnc0, l_at]; exact i2l (by omega))
  · rw [iT_t ht, iT_f ht2] at h
    exact kcp_x rfl (kcp_h rfl (h.mk (c := 1) FrI.rf (by omega) rfl (fun z => by cases z)))
  · rw [iT_f ht] at h
    exact kcp_x rfl (kcp_h rfl (h.mk (c := 1) FrI.rf (by omega) rfl (fun z => by cases z)))
set_option maxHeartbeats 4000000 in
theorem r_249 {p q r s : Int} (hp : R32 p) (hq : R32 q) (hr : R32 r) (hs : R32 s) (h : RQ Lx I L e Q (spLonger p q r s).1 vI (spLonger p q r s).2) :
    Wp 249 0 [(0, .ref 58), (1, .int (Int32.ofInt p)), (2, .int (Int32.ofInt q)), (3, .int (Int32.ofInt r)), (4, .int (Int32.ofInt s))] [] (gE Lx) I L e Q := by
  unfold spLonger at h
  refine s_249_0 (c_207 hp hq (fun ht => kcp_v rfl (s_249_6 ?_)) (fun ht => kcp_v rfl (s_249_6 ?_)))
  · refine i_eqz (by omega) (fun k => by cases k) (fun _ => c_207 hr hs (fun ht2 => kcp_v rfl (s_249_15 ?_)) (fun ht2 => kcp_v rfl (s_249_15 ?_)))
    · rw [iT_t ht, iT_t ht2] at h
      rw [i2l hp, i2l hq, i2l hr, i2l hs, mul64, mul64, sub64]
      have b1 := ht.b; have b3 := ht2.b
      have m1 := mulB b1.1 b3.2
      have m2 := mulB b3.1 b1.2
      have ok : ∀ v : Int, v = lenC p q r s → Q (.inl (some (.int (Int32.ofInt v)))) (gE Lx) (ui I 58 0 (Int32.ofInt 0)) L e := fun v hv => h.mk (v := v) (FrI.wu FrI.rf rfl) rfl (c := 0) u_at rfl (fun _ => hv)
      refine i_eqz (by omega) (fun k => by cases k) (fun _ => i_lt64 (by omega) (by omega) (fun k1 => i_lt64 (by omega) (by omega) (fun k2 => i_lt64 (by omega) (by omega) (fun k3 => ok _ ?_) (fun k3 => i_lt64 (by omega) (by omega) (fun k4 => ok _ ?_) (fun k4 => ok _ ?_))) (fun k2 => ok _ ?_)) (fun k1 => i_lt64 (by omega) (by omega) (fun k2 => ok _ ?_) (fun k2 => i_lt64 (by omega) (by omega) (fun k3 => ok _ ?_) (fun k3 => i_lt64 (by omega) (by omega) (fun k4 => ok _ ?_) (fun k4 => ok _ ?_)))))
      · rw [lenC, if_pos k1, if_pos k2, sg_n k3]
      · rw [lenC, if_pos k1, if_pos k2, sg_p k4]
      · rw [lenC, if_pos k1, if_pos k2, sg_z (by omega)]
      · rw [lenC, if_pos k1, if_neg (by omega)]
      · rw [lenC, if_neg (by omega), if_pos k2]
      · rw [lenC, if_neg (by omega), if_neg (by omega), sg_n k3]
      · rw [lenC, if_neg (by omega), if_neg (by omega), sg_p k4]
      · rw [lenC, if_neg (by omega), if_neg (by omega), sg_z (by omega)]
    · rw [iT_t ht, iT_f ht2] at h
      exact i_eqz (by omega) (fun _ => h.mk (v := 0) (FrI.wu FrI.rf rfl) rfl (c := 1) u_at rfl (fun z => by cases z)) (fun k => absurd rfl k)
  · rw [iT_f ht] at h
    exact i_eqz (by omega) (fun _ => h.mk (v := 0) (FrI.wu FrI.rf rfl) rfl (c := 1) u_at rfl (fun z => by cases z)) (fun k => absurd rfl k)
end
