/-! swell. -/
section
variable {Lx : Nat} {I : Mi} {L : Ml} {e : Nat} {Q : Kq}
theorem sw_b {z : Pt} (h : PtOk z) : (0 ≤ z.1 * z.1 ∧ z.1 * z.1 ≤ 1000000) ∧ (0 ≤ z.2.1 * z.2.1 ∧ z.2.1 * z.2.1 ≤ 1000000) ∧ (1 ≤ z.2.2 * z.2.2 ∧ z.2.2 * z.2.2 ≤ 1000000) ∧ (0 ≤ z.1 * z.2.2 ∧ z.1 * z.2.2 ≤ 1000000) ∧ 2 * z.1 * z.2.2 = 2 * (z.1 * z.2.2) ∧ 4 * z.1 * z.2.2 = 2 * (2 * z.1 * z.2.2) := by
  obtain ⟨o1, o2, o3⟩ := h
  have m1 := mulB (x := z.1) (y := z.1) (A := 1000) (B := 1000) (by omega) (by omega)
  have m2 := mulB o2 o2
  have m3 := mulB (x := z.2.2) (y := z.2.2) (A := 1000) (B := 1000) (by omega) (by omega)
  have m4 := mulB (x := z.1) (y := z.2.2) (A := 1000) (B := 1000) (by omega) (by omega)
  have n1 := sq_nn z.1
  have n2 := sq_nn z.2.1
  have n3 := sq_pos (x := z.2.2) (by omega)
  have n4 : 0 ≤ z.1 * z.2.2 := Int.mul_nonneg (by omega) (by omega)
  have e1 : 2 * z.1 * z.2.2 = 2 * (z.1 * z.2.2) := Int.mul_assoc ..
  have e2 : 4 * z.1 * z.2.2 = 4 * (z.1 * z.2.2) := Int.mul_assoc ..
  omega
theorem sw_0 {z : Pt} (h : PtOk z) (k : z.1 = 0) : rt (pV z) * rt (pV z) = pV z ∧ fU (swN z) (2 * z.1 * z.2.2) = fU 1 0 ∧ fL (swN z) (2 * z.1 * z.2.2) = fL 1 0 := by
  obtain ⟨b1, b2, b3⟩ := pV_b h
  obtain ⟨c1, c2, c3, c4, c5, c6⟩ := sw_b h
  have e : pV z = (z.2.1 * z.2.1 + z.2.2 * z.2.2) * (z.2.1 * z.2.1 + z.2.2 * z.2.2) := by unfold pV; rw [k]; grind
  have r : IsRt (pV z) (z.2.1 * z.2.1 + z.2.2 * z.2.2) := by
    refine ⟨by omega, by rw [e]; omega, ?_⟩
    rw [e]
    have : (z.2.1 * z.2.1 + z.2.2 * z.2.2 + 1) * (z.2.1 * z.2.1 + z.2.2 * z.2.2 + 1) = (z.2.1 * z.2.1 + z.2.2 * z.2.2) * (z.2.1 * z.2.1 + z.2.2 * z.2.2) + 2 * (z.2.1 * z.2.1 + z.2.2 * z.2.2) + 1 := by grind
    omega
  have hr := rt_eq r
  have d : 2 * z.1 * z.2.2 = 0 := by rw [k]; simp
  have hp : 0 < swN z := by unfold swN; omega
  have x1 : fU (swN z * 1) (swN z * 0) = fU 1 0 := fU_mul hp
  have x2 : fL (swN z * 1) (swN z * 0) = fL 1 0 := fL_mul hp
  rw [Int.mul_one, Int.mul_zero] at x1 x2
  rw [d]
  exact ⟨by rw [hr, e], x1, x2⟩
set_option maxHeartbeats 4000000 in
theorem h_399 {ch : Ch} (hok : ChOk ch) (hc : ChAt I 5 ch) {m lo : Int} (hm : R32 m) (hlo : R32 lo) (h : CQ Lx I e Q (spP ch m (fSwell lo)).1 (spP ch m (fSwell lo)).2) :
    Wp 399 0 [(0, .ref 1), (1, .int (Int32.ofInt m)), (2, .int (Int32.ofInt lo)), (3, .ref 70)] [] (gE Lx) I L e Q := by
  refine s_399_0 ?_
  rw [hc.2.2.2.1]
  refine mk_pre hm hok.2.2.2.1 (fun hb => (spP_1 h hb).mk (c := 1) FrI.rf (by omega) rfl (fun z => by cases z)) (fun j hj hjn => ?_)
  subst hj
  refine c_136 hok hc hjn (fun hfi L1 hf1 hp => kcp_v rfl (s_166_10 (s_60_0 ?_))) (fun hfi L1 hf1 => kcp_x rfl (kcp_h rfl ((spP_2 h hjn hfi).mk (c := 2) FrI.rf (by omega) rfl (fun z => by cases z))))
  have hq := spP_0 h hjn hfi
  have ho := hfi.ok (wSeen_g hok j hjn)
  generalize pt (wSeen ch j) = z at *
  obtain ⟨p0, p1, p2⟩ := id hp
  obtain ⟨b1, b2, b3⟩ := pV_b ho
  obtain ⟨c1, c2, c3, c4, c5, c6⟩ := sw_b ho
  rw [p0, p1, p2]
  simp only [mul64, add64, sub64]
  show Wp 32 0 [(0, .long (Int64.ofInt (pV z)))] [] (gE Lx) I L1 e (kcp (Wp 60) 60 6 0 [(0, .ref 17), (1, .ref 18), (2, .long (Int64.ofInt (pV z)))] 71 [] _)
  refine c_32 (by omega) (fun r hr => kcp_v rfl (s_60_9 ?_))
  have hre := rt_eq hr
  rw [← hre]
  rw [p0, p1, p2]
  simp only [mul64, add64]
  have m := mulB (x := rt (pV z)) (y := rt (pV z)) (A := 5000000) (B := 5000000) (by omega) (by omega)
  have fin : ∀ L2 : Ml, FrcAt L2 18 (fU (swN z) (2 * z.1 * z.2.2)) (fL (swN z) (2 * z.1 * z.2.2)) → rt (pV z) * rt (pV z) = pV z → Wp 166 21 [(0, .ref 1), (2, .int (Int32.ofInt lo))] [.int (Int32.ofInt 1)] (gE Lx) I L2 e (kcp (Wp 399) 399 5 0 [(0, .ref 1), (3, .ref 70)] 71 [.int (Int32.ofInt 0), .ref 70] Q) := by
    intro L2 hv hs
    unfold fSwell at hq
    rw [iP_t hs] at hq
    refine s_166_21 (j_1 ?_)
    rw [hv.1, hv.2]
    refine i_eqz hlo (fun k0 => kcp_v rfl (s_399_8 (i_inb0 (by decide) (hq.mk (c := 0) FrI.rf (by omega) rfl (fun _ => ?_))))) (fun k0 => kcp_v rfl (s_399_8 (i_inb0 (by decide) (hq.mk (c := 0) FrI.rf (by omega) rfl (fun _ => ?_)))))
    · rw [o70, told, if_pos k0]
    · rw [o70, told, if_neg k0]
  refine c_25 (Or.inl rfl) (by omega) (by omega) (fun L2 hf2 hv2 => kcp_v rfl (s_60_45 ?_))
  have p0' : L2 17 0 = .ofInt z.1 := by rw [hf2.at (k := 17) rfl]; exact p0
  rw [p0']
  have ho1 := ho.1
  refine i_eq64 (by omega) (by omega) (fun k0 => ?_) (fun k0 => s_60_60 ?_)
  · obtain ⟨x0, x1, x2⟩ := sw_0 ho k0
    refine c_25 (Or.inl rfl) (by omega) (by omega) (fun L3 hf3 hv3 => kcp_v rfl (s_60_60 ?_))
    have p0'' : L3 17 0 = .ofInt z.1 := by rw [hf3.at (k := 17) rfl]; exact p0'
    rw [p0'']
    exact i_eq64 (by omega) (by omega) (fun _ => kcp_v rfl (fin L3 (by rw [x1, x2]; exact hv3) x0)) (fun q => absurd k0 q)
  · rw [p0', mul64]
    refine i_eq64 (by omega) (by omega) (fun q => absurd q k0) (fun _ => i_eq64 (by omega) (by omega) (fun k1 => kcp_v rfl (fin L2 hv2 k1)) (fun k1 => kcp_v rfl (s_166_21 (j_0 ?_))))
    unfold fSwell at hq
    rw [iP_f k1] at hq
    exact kcp_h rfl (hq.mk (c := 2) FrI.rf (by omega) rfl (fun z => by cases z))
set_option maxHeartbeats 4000000 in
theorem r_303 {ch : Ch} (hok : ChOk ch) (hc : BnAt I 59 0 ch) {m lo : Int} (hm : R32 m) (hlo : R32 lo) (h : RQ Lx I L e Q (spP ch m (fSwell lo)).1 vL (spP ch m (fSwell lo)).2) :
    Wp 303 0 [(0, .ref 58), (1, .int (Int32.ofInt m)), (2, .int (Int32.ofInt lo))] [] (gE Lx) I L e Q := by
  have e3 : I 59 3 = Int32.ofInt (ch.2.2.2.1 : Int) := hc.2.2.2.1
  refine s_303_0 ?_
  rw [e3]
  refine mk_pre2 hm hok.2.2.2.1 (fun hb => ?_) (fun j hj hjn => ?_)
  · rw [spP_b hb] at h
    exact h.mk (v := 0) (FrI.wu FrI.rf rfl) rfl (c := 1) u_at rfl (fun z => by cases z)
  · subst hj
    refine c_251 hok hc hjn (fun hfi L1 hf1 hp => kcp_v rfl (s_303_18 (j_1 ?_))) (fun hfi L1 hf1 => kcp_v rfl (s_303_18 (j_0 ?_)))
    · rw [spP_f hjn hfi] at h
      have ho := hfi.ok (wSeen_g hok j hjn)
      have hl : L1 70 = L 70 := hf1.at rfl
      generalize pt (wSeen ch j) = z at *
      obtain ⟨p0, p1, p2⟩ := id hp
      obtain ⟨b1, b2, b3⟩ := pV_b ho
      obtain ⟨c1, c2, c3, c4, c5, c6⟩ := sw_b ho
      have ho1 := ho.1
      have ho2 := ho.2
      rw [p0, p1, p2]
      simp only [mul64, add64, sub64, pV_eq]
      refine c_242 (by omega) (fun hs _ => kcp_v rfl (s_303_28 (j_1 ?_))) (fun hs => kcp_v rfl (s_303_28 (j_0 ?_)))
      · unfold fSwell at h
        rw [iP_t hs] at h
        rw [p0, p1, p2]
        simp only [mul64, add64, sub64, pV_eq]
        have fin : ∀ L2 : Ml, L2 70 = L 70 → L2 58 8 = .ofInt (fU (swN z) (2 * z.1 * z.2.2)) → L2 58 9 = .ofInt (fL (swN z) (2 * z.1 * z.2.2)) → Wp 303 126 [(0, .ref 58), (2, .int (Int32.ofInt lo))] [] (gE Lx) (ui I 58 0 (Int32.ofInt 0)) L2 e Q := by
          intro L2 hl2 k8 k9
          refine s_303_126 ?_
          rw [k8, k9]
          refine i_eqz hlo (fun k0 => h.mk (FrI.wu FrI.rf rfl) hl2 (c := 0) u_at rfl (fun _ => ?_)) (fun k0 => h.mk (FrI.wu FrI.rf rfl) hl2 (c := 0) u_at rfl (fun _ => ?_))
          · rw [told, if_pos k0]
          · rw [told, if_neg k0]
        have gen : ∀ n d : Int, n = 2 * swN z → d = 4 * z.1 * z.2.2 → Wp 246 0 [(0, .ref 58), (1, .long (Int64.ofInt n)), (3, .long (Int64.ofInt d))] [] (gE Lx) (ui I 58 0 (Int32.ofInt 0)) L1 e (kcp (Wp 303) 303 123 0 [(0, .ref 58), (2, .int (Int32.ofInt lo))] 71 [] Q) := by
          intro n d hn hd
          have y1 : fU (2 * swN z) (2 * (2 * z.1 * z.2.2)) = fU (swN z) (2 * z.1 * z.2.2) := fU_mul (by decide)
          have y2 : fL (2 * swN z) (2 * (2 * z.1 * z.2.2)) = fL (swN z) (2 * z.1 * z.2.2) := fL_mul (by decide)
          rw [c6] at hd
          rw [hn, hd]
          have sb : 1 ≤ swN z ∧ swN z ≤ 10000000 := by unfold swN; omega
          refine c_246 (by omega) (by omega) (by omega) (fun L2 hf2 k8 k9 => kcp_v rfl (fin L2 ((hf2.at rfl).trans hl) ?_ ?_))
          · rw [k8, y1]
          · rw [k9, y2]
        have root : Wp 243 0 [(0, .long (Int64.ofInt (pV z)))] [] (gE Lx) (ui I 58 0 (Int32.ofInt 0)) L1 e (kcp (Wp 303) 303 105 0 [(0, .ref 58), (2, .int (Int32.ofInt lo))] 71 [.long (Int64.ofInt 2), .long (Int64.ofInt ((z.1 - z.2.2) * (z.1 - z.2.2) + z.2.1 * z.2.1 + ((z.1 + z.2.2) * (z.1 + z.2.2) + z.2.1 * z.2.1))), .ref 58] Q) := by
          refine c_243 (by omega) (fun r hr => kcp_v rfl (s_303_108 ?_))
          rw [p0, p2, ← rt_eq hr]
          simp only [mul64, add64]
          refine gen _ _ ?_ rfl
          unfold swN
          grind
        refine i_eq64 (by omega) (by omega) (fun k0 => i_eq64 (by omega) (by omega) (fun k1 => ?_) (fun _ => root)) (fun _ => root)
        have v0 : pV z = 0 := by unfold pV; rw [k0, k1]; simp
        have r0 : rt (pV z) = 0 := by rw [v0]; exact rt_eq ⟨by omega, by omega, by omega⟩
        have n0 : swN z = 2 * (z.2.2 * z.2.2) := by unfold swN; rw [r0, k0, k1]; omega
        have d0 : 2 * z.1 * z.2.2 = 2 * (z.2.2 * z.2.2) := by rw [c5, k0]
        have y1 : fU (2 * (z.2.2 * z.2.2) * 1) (2 * (z.2.2 * z.2.2) * 1) = fU 1 1 := fU_mul (by omega)
        have y2 : fL (2 * (z.2.2 * z.2.2) * 1) (2 * (z.2.2 * z.2.2) * 1) = fL 1 1 := fL_mul (by omega)
        rw [Int.mul_one] at y1 y2
        refine c_236 (by omega) (by omega) (fun L2 hf2 k8 k9 => kcp_v rfl (s_303_61 (fin L2 ((hf2.at rfl).trans hl) ?_ ?_)))
        · rw [k8, rU_f (by decide), n0, d0, y1]
        · rw [k9, rL_f (by decide), n0, d0, y2]
      · unfold fSwell at h
        rw [iP_f hs] at h
        exact h.mk (v := 0) (FrI.wu FrI.rf rfl) hl (c := 2) u_at rfl (fun z => by cases z)
    · rw [spP_n hjn hfi] at h
      exact h.mk (v := 0) (FrI.wu FrI.rf rfl) (hf1.at rfl) (c := 2) u_at rfl (fun z => by cases z)
end
