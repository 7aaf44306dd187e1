/-! real, greatest. -/
def rlN (al : Int) (z : Pt) : Int × Int := if al = 0 then (z.1 * z.2.2, z.1 * z.1 + z.2.1 * z.2.1) else (z.1, z.2.2)
noncomputable def fReal (al lo : Int) (z : Pt) : Nat × Int := if al = 0 ∧ z.1 = 0 ∧ z.2.1 = 0 then (2, 0) else (0, told lo (fU (rlN al z).1 (rlN al z).2) (fL (rlN al z).1 (rlN al z).2))
noncomputable def spGreat (p q lo : Int) : Nat × Int := iT p q (if p = 0 then (1, 0) else (0, told lo (fU (p * p + q * q) (p * p)) (fL (p * p + q * q) (p * p)))) (1, 0)
section
variable {Lx : Nat} {I : Mi} {L : Ml} {e : Nat} {Q : Kq}
set_option maxHeartbeats 4000000 in
theorem h_390 {ch : Ch} (hok : ChOk ch) (hc : ChAt I 5 ch) {m al lo : Int} (hm : R32 m) (hal : R32 al) (hlo : R32 lo) (h : CQ Lx I e Q (spP ch m (fReal al lo)).1 (spP ch m (fReal al lo)).2) :
    Wp 390 0 [(0, .ref 1), (1, .int (Int32.ofInt m)), (2, .int (Int32.ofInt al)), (3, .int (Int32.ofInt lo)), (4, .ref 70)] [] (gE Lx) I L e Q := by
  refine s_390_0 ?_
  rw [hc.2.2.2.1]
  refine mk_pre hm hok.2.2.2.1 (fun hb => (spP_1 h hb).mk (c := 1) FrI.rf (by omega) rfl (fun z => by cases z)) (fun j hj hjn => ?_)
  subst hj
  refine c_148 hok hc hjn hal (fun hfi hnn L1 hf1 hp => kcp_v rfl (s_147_11 ?_)) (fun hn L1 hf1 => kcp_x rfl (kcp_h rfl ?_))
  · have hq := spP_0 h hjn hfi
    have ho := hfi.ok (wSeen_g hok j hjn)
    generalize pt (wSeen ch j) = z at *
    rw [fReal, if_neg hnn] at hq
    obtain ⟨p0, p1, p2⟩ := hp
    obtain ⟨o1, o2, o3⟩ := ho
    have m1 := mulB (x := z.1) (y := z.1) (A := 1000) (B := 1000) (by omega) (by omega)
    have m2 := mulB o2 o2
    have m3 := mulB (x := z.1) (y := z.2.2) (A := 1000) (B := 1000) (by omega) (by omega)
    rw [p0, p1, p2]
    simp only [mul64, add64]
    have fin : ∀ L2 : Ml, FrcAt L2 18 (fU (rlN al z).1 (rlN al z).2) (fL (rlN al z).1 (rlN al z).2) → Wp 147 23 [(0, .ref 1), (3, .int (Int32.ofInt lo))] [] (gE Lx) I L2 e (kcp (Wp 390) 390 7 0 [(0, .ref 1), (4, .ref 70)] 71 [.int (Int32.ofInt 0), .ref 70] Q) := by
      intro L2 hv
      refine s_147_23 ?_
      rw [hv.1, hv.2]
      refine i_eqz hlo (fun k0 => kcp_v rfl (s_390_10 (i_inb0 (by decide) (hq.mk (c := 0) FrI.rf (by omega) rfl (fun _ => ?_))))) (fun k0 => kcp_v rfl (s_390_10 (i_inb0 (by decide) (hq.mk (c := 0) FrI.rf (by omega) rfl (fun _ => ?_)))))
      · rw [o70, told, if_pos k0]
      · rw [o70, told, if_neg k0]
    unfold rlN at fin
    refine i_eqz hal (fun k0 => ?_) (fun k0 => ?_)
    · rw [if_pos k0] at fin
      exact c_25 (Or.inl rfl) (by omega) (by omega) (fun L2 hf2 hv2 => kcp_v rfl (s_57_36 (kcp_v rfl (fin L2 hv2))))
    · rw [if_neg k0] at fin
      exact c_25 (Or.inl rfl) (by omega) (by omega) (fun L2 hf2 hv2 => kcp_v rfl (s_57_16 (s_57_36 (kcp_v rfl (fin L2 hv2)))))
  · have h2 : CQ Lx I e Q 2 0 := by
      rcases Classical.em (fine (wSeen ch j)) with hfi | hfi
      · have hq := spP_0 h hjn hfi
        rw [fReal, if_pos (Classical.byContradiction fun k => hn ⟨hfi, k⟩)] at hq
        exact hq
      · exact spP_2 h hjn hfi
    exact h2.mk (c := 2) FrI.rf (by omega) rfl (fun z => by cases z)
set_option maxHeartbeats 4000000 in
theorem r_273 {ch : Ch} (hok : ChOk ch) (hc : BnAt I 59 0 ch) {m al lo : Int} (hm : R32 m) (hal : R32 al) (hlo : R32 lo) (h : RQ Lx I L e Q (spP ch m (fReal al lo)).1 vL (spP ch m (fReal al lo)).2) :
    Wp 273 0 [(0, .ref 58), (1, .int (Int32.ofInt m)), (2, .int (Int32.ofInt al)), (3, .int (Int32.ofInt lo))] [] (gE Lx) I L e Q := by
  have e3 : I 59 3 = Int32.ofInt (ch.2.2.2.1 : Int) := hc.2.2.2.1
  refine s_273_0 ?_
  rw [e3]
  refine mk_pre2 hm hok.2.2.2.1 (fun hb => ?_) (fun j hj hjn => ?_)
  · rw [spP_b hb] at h
    exact h.mk (v := 0) (FrI.wu FrI.rf rfl) rfl (c := 1) u_at rfl (fun z => by cases z)
  · subst hj
    refine c_274 hok hc hjn hal (fun hfi hnn L1 hf1 hp => kcp_v rfl (s_273_19 (j_1 ?_))) (fun hn L1 hf1 => kcp_v rfl (s_273_19 (j_0 ?_)))
    · rw [spP_f hjn hfi] at h
      have ho := hfi.ok (wSeen_g hok j hjn)
      have hl : L1 70 = L 70 := hf1.at rfl
      generalize pt (wSeen ch j) = z at *
      rw [fReal, if_neg hnn] at h
      obtain ⟨p0, p1, p2⟩ := hp
      obtain ⟨o1, o2, o3⟩ := ho
      have hB : WB 1000 (z.1, z.2.1, z.2.2, 0) := ⟨show -1000 ≤ z.1 ∧ z.1 ≤ 1000 by omega, o2, show -1000 ≤ z.2.2 ∧ z.2.2 ≤ 1000 by omega, show -1000 ≤ (0 : Int) ∧ (0 : Int) ≤ 1000 by decide⟩
      have hz : ¬ (z.1 = 0 ∧ z.2.1 = 0 ∧ z.2.2 = 0 ∧ (0 : Int) = 0) := by omega
      rw [p0, p1, p2]
      refine c_228 (x := (z.1, z.2.1, z.2.2, 0)) (hB.le (by decide)) hz (fun L2 hf2 hW => kcp_v rfl (s_276_17 (kcp_v rfl (s_273_43 ?_))))
      have hl2 : L2 70 = L 70 := (hf2.at rfl).trans hl
      have hB2 := (nW_B (x := (z.1, z.2.1, z.2.2, 0)) hz hB).le (show (1000 : Int) ≤ 32845824 by decide)
      obtain ⟨c, hc0, hs⟩ := nW_sc (x := (z.1, z.2.1, z.2.2, 0)) hz
      have a1 : wRe (z.1, z.2.1, z.2.2, 0) = (c * c) * wRe (nW (z.1, z.2.1, z.2.2, 0)) := by rw [← wRe_sm, ← hs]
      have a2 : wUp (z.1, z.2.1, z.2.2, 0) = (c * c) * wUp (nW (z.1, z.2.1, z.2.2, 0)) := by rw [← wUp_sm, ← hs]
      have a3 : wLo (z.1, z.2.1, z.2.2, 0) = (c * c) * wLo (nW (z.1, z.2.1, z.2.2, 0)) := by rw [← wLo_sm, ← hs]
      have b1 : wRe (z.1, z.2.1, z.2.2, 0) = z.1 * z.2.2 := by unfold wRe; simp
      have b2 : wUp (z.1, z.2.1, z.2.2, 0) = z.1 * z.1 + z.2.1 * z.2.1 := rfl
      have b3 : wLo (z.1, z.2.1, z.2.2, 0) = z.2.2 * z.2.2 := by unfold wLo; simp
      generalize nW (z.1, z.2.1, z.2.2, 0) = r at *
      have hcc := sq_pos hc0
      obtain ⟨v1, v2, v3, v4, v5, v6⟩ := wv_b hB2
      have v7 := wLo_nn r
      have v8 := wUp_nn r
      obtain ⟨w0, w1, w2, w3⟩ := hW
      rw [w0, w1, w2, w3]
      simp only [mul64, add64]
      have fin : ∀ n d : Int, (-2157696310910976 ≤ n ∧ n ≤ 2157696310910976) → (-2157696310910976 ≤ d ∧ d ≤ 2157696310910976) → d ≠ 0 → fU n d = fU (rlN al z).1 (rlN al z).2 → fL n d = fL (rlN al z).1 (rlN al z).2 → Wp 236 0 [(0, .ref 58), (1, .long (Int64.ofInt n)), (3, .long (Int64.ofInt d))] [] (gE Lx) (ui I 58 0 (Int32.ofInt 0)) L2 e (kcp (Wp 273) 273 53 0 [(0, .ref 58), (3, .int (Int32.ofInt lo))] 71 [] Q) := by
        intro n d hn hd hd0 f1 f2
        refine c_236 (by omega) (by omega) (fun L3 hf3 k8 k9 => kcp_v rfl (s_273_56 ?_))
        have hl3 : L3 70 = L 70 := (hf3.at rfl).trans hl2
        rw [k8, k9, rU_f hd0, rL_f hd0, f1, f2]
        refine i_eqz hlo (fun k0 => h.mk (FrI.wu FrI.rf rfl) hl3 (c := 0) u_at rfl (fun _ => ?_)) (fun k0 => h.mk (FrI.wu FrI.rf rfl) hl3 (c := 0) u_at rfl (fun _ => ?_))
        · rw [told, if_pos k0]
        · rw [told, if_neg k0]
      unfold rlN at fin
      refine i_eqz hal (fun k0 => ?_) (fun k0 => ?_)
      · simp only [if_pos k0] at fin
        have hnz : wUp r ≠ 0 := fun k => by
          rw [k, Int.mul_zero] at a2
          have := sq2_pos (x := z.1) (y := z.2.1) (by omega)
          omega
        refine fin (wRe r) (wUp r) v1 (by omega) hnz ?_ ?_
        · rw [← b1, ← b2, a1, a2, fU_mul hcc]
        · rw [← b1, ← b2, a1, a2, fL_mul hcc]
      · simp only [if_neg k0] at fin
        have h3 : 0 < z.2.2 * z.2.2 := sq_pos (by omega)
        have hnz : wLo r ≠ 0 := fun k => by
          rw [k, Int.mul_zero] at a3
          omega
        have g1 : fU (z.2.2 * z.1) (z.2.2 * z.2.2) = fU z.1 z.2.2 := fU_mul (by omega)
        have g2 : fL (z.2.2 * z.1) (z.2.2 * z.2.2) = fL z.1 z.2.2 := fL_mul (by omega)
        refine fin (wRe r) (wLo r) v1 (by omega) hnz ?_ ?_
        · rw [← g1, Int.mul_comm z.2.2 z.1, ← b1, ← b3, a1, a3, fU_mul hcc]
        · rw [← g2, Int.mul_comm z.2.2 z.1, ← b1, ← b3, a1, a3, fL_mul hcc]
    · have h2 : RQ Lx I L e Q 2 vL 0 := by
        rcases Classical.em (fine (wSeen ch j)) with hfi | hfi
        · rw [spP_f hjn hfi, fReal, if_pos (Classical.byContradiction fun k => hn ⟨hfi, k⟩)] at h
          exact h
        · rw [spP_n hjn hfi] at h; exact h
      exact h2.mk (v := 0) (FrI.wu FrI.rf rfl) (hf1.at rfl) (c := 2) u_at rfl (fun z => by cases z)
set_option maxHeartbeats 4000000 in
theorem h_391 {p q lo : Int} (hp : R32 p) (hq : R32 q) (hlo : R32 lo) (h : CQ Lx I e Q (spGreat p q lo).1 (spGreat p q lo).2) :
    Wp 391 0 [(0, .ref 1), (1, .int (Int32.ofInt p)), (2, .int (Int32.ofInt q)), (3, .int (Int32.ofInt lo)), (4, .ref 70)] [] (gE Lx) I L e Q := by
  unfold spGreat at h
  refine s_391_0 ?_
  rw [i2l hp, i2l hq]
  have bad : (isT p q → p = 0) → kcp (Wp 150) 150 3 0 [(0, .ref 1), (1, .int (Int32.ofInt p)), (2, .int (Int32.ofInt q)), (3, .int (Int32.ofInt lo))] 71 [] (kcp (Wp 391) 391 7 0 [(0, .ref 1), (4, .ref 70)] 71 [.int (Int32.ofInt 0), .ref 70] Q) (.inr 101) (gE Lx) I L (e + 1) := by
    intro k
    have h2 : CQ Lx I e Q 1 0 := by
      rcases Classical.em (isT p q) with ht | ht
      · rw [iT_t ht, if_pos (k ht)] at h; exact h
      · rw [iT_f ht] at h; exact h
    exact kcp_x rfl (kcp_h rfl (h2.mk (c := 1) FrI.rf (by omega) rfl (fun z => by cases z)))
  refine c_114 (by omega) (by omega) (fun ht => kcp_v rfl (s_151_7 (j_1 (i_eqz hp (fun k0 => bad (fun _ => k0)) (fun k0 => kcp_v rfl (s_150_6 ?_)))))) (fun ht => kcp_v rfl (s_151_7 (j_0 (bad (fun z => absurd z ht)))))
  rw [iT_t ht, if_neg k0] at h
  have b := ht.b
  have m1 := mulB b.1 b.1
  have m2 := mulB b.2 b.2
  have hpp := sq_pos k0
  have fb := fUL_b (a := p * p + q * q) (b := p * p) (B := 288) (by omega) (by omega) (by omega)
  rw [i2l hp, i2l hq, mul64, mul64, add64]
  refine c_25 (Or.inl rfl) (by omega) (by omega) (fun L2 hf2 hv2 => kcp_v rfl (s_150_29 ?_))
  rw [hv2.1, hv2.2, l2i, l2i]
  refine i_eqz hlo (fun k0 => kcp_v rfl (s_391_10 (i_inb0 (by decide) (h.mk (c := 0) FrI.rf (by omega) rfl (fun _ => ?_))))) (fun k0 => kcp_v rfl (s_391_10 (i_inb0 (by decide) (h.mk (c := 0) FrI.rf (by omega) rfl (fun _ => ?_)))))
  · rw [o70, told, if_pos k0, i2l (by omega)]
  · rw [o70, told, if_neg k0, i2l (by omega)]
set_option maxHeartbeats 4000000 in
theorem r_279 {p q lo : Int} (hp : R32 p) (hq : R32 q) (hlo : R32 lo) (h : RQ Lx I L e Q (spGreat p q lo).1 vI (spGreat p q lo).2) :
    Wp 279 0 [(0, .ref 58), (1, .int (Int32.ofInt p)), (2, .int (Int32.ofInt q)), (3, .int (Int32.ofInt lo))] [] (gE Lx) I L e Q := by
  unfold spGreat at h
  have bad : (isT p q → p = 0) → Wp 279 6 [(0, .ref 58), (1, .int (Int32.ofInt p)), (2, .int (Int32.ofInt q)), (3, .int (Int32.ofInt lo))] [.int (Int32.ofInt 0), .ref 58] (gE Lx) I L e Q := by
    intro k
    have h2 : RQ Lx I L e Q 1 vI 0 := by
      rcases Classical.em (isT p q) with ht | ht
      · rw [iT_t ht, if_pos (k ht)] at h; exact h
      · rw [iT_f ht] at h; exact h
    exact s_279_6 (j_0 (h2.mk (v := 0) (FrI.wu FrI.rf rfl) rfl (c := 1) u_at rfl (fun z => by cases z)))
  refine s_279_0 (c_207 hp hq (fun ht => kcp_v rfl (s_280_5 (j_1 (i_eqz hp (fun k0 => kcp_v rfl (bad (fun _ => k0))) (fun k0 => kcp_v rfl (s_279_6 (j_1 ?_))))))) (fun ht => kcp_v rfl (s_280_5 (j_0 (kcp_v rfl (bad (fun z => absurd z ht)))))))
  rw [iT_t ht, if_neg k0] at h
  have b := ht.b
  have m1 := mulB b.1 b.1
  have m2 := mulB b.2 b.2
  have hpp := sq_pos k0
  rw [i2l hp, i2l hq, mul64, mul64, add64]
  refine c_236 (by omega) (by omega) (fun L2 hf2 k8 k9 => kcp_v rfl (s_279_42 ?_))
  have hl : L2 70 = L 70 := hf2.at rfl
  rw [k8, k9, rU_f (by omega), rL_f (by omega), l2i, l2i]
  refine i_eqz hlo (fun k0 => h.mk (FrI.wu FrI.rf rfl) hl (c := 0) u_at rfl (fun _ => ?_)) (fun k0 => h.mk (FrI.wu FrI.rf rfl) hl (c := 0) u_at rfl (fun _ => ?_))
  · rw [told, if_pos k0]
  · rw [told, if_neg k0]
end
