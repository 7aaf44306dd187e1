/-! corners on the other side; ways. -/
noncomputable def fWays (al x y : Int) (z : Pt) : Nat × Int := if al = 0 ∧ z.1 = 0 ∧ z.2.1 = 0 then (3, 0) else (0, fWay al x y z)
noncomputable def spWays (ch : Ch) (m al x y : Int) : Nat × Int := if m < 0 ∨ (ch.2.2.2.1 : Int) < m then (1, 0) else iT x y (if x = 0 then (2, 0) else iP (fine (wSeen ch m.toNat)) (fWays al x y (pt (wSeen ch m.toNat))) (3, 0)) (2, 0)
section
variable {Lx : Nat} {I : Mi} {L : Ml} {e : Nat} {Q : Kq}
set_option maxHeartbeats 4000000 in
theorem r_297 {ch : Ch} (hok : ChOk ch) (hc : BnAt I 59 0 ch) {m al : Int} (hm : R32 m) (hal : al = 0 ∨ al = 1) (h : RQ Lx I L e Q (spP ch m (fCor al)).1 vI (spP ch m (fCor al)).2) :
    Wp 297 0 [(0, .ref 58), (1, .int (Int32.ofInt m)), (2, .int (Int32.ofInt al))] [] (gE Lx) I L e Q := by
  have e3 : I 59 3 = Int32.ofInt (ch.2.2.2.1 : Int) := hc.2.2.2.1
  refine s_297_0 ?_
  rw [e3]
  refine mk_pre2 hm hok.2.2.2.1 (fun hb => s_297_7 (i_zlt (by omega) (fun _ => ?_) (fun k => by omega))) (fun j hj hjn => ?_)
  · rw [spP_b hb] at h
    exact h.mk (v := 0) (FrI.wu FrI.rf rfl) rfl (c := 1) u_at rfl (fun z => by cases z)
  · subst hj
    refine c_274 hok hc hjn (show R32 al by omega) (fun hfi hnn L1 hf1 hp => kcp_v rfl (s_298_18 (j_1 (kcp_v rfl (s_297_7 (i_zlt (by omega) (fun k => by omega) (fun _ => ?_))))))) (fun hn L1 hf1 => kcp_v rfl (s_298_18 (j_0 (kcp_v rfl (s_297_7 (i_zlt (by omega) (fun _ => ?_) (fun k => by omega)))))))
    · rw [spP_f hjn hfi] at h
      have ho := hfi.ok (wSeen_g hok j hjn)
      have hl : L1 70 = L 70 := hf1.at rfl
      generalize pt (wSeen ch j) = z at *
      rw [fCor, if_neg hnn] at h
      obtain ⟨q1, q2, q3⟩ := rl_b ho hnn
      have fb := fUL_b (B := 2000000) q3 (by omega) (by omega)
      have lb := lay_b (x := 1) (y := 0) fb.1 fb.2 (by omega) (by omega)
      refine c_283 (show R32 al by omega) (by omega) (by omega) ho hnn hp (fun L2 hf2 k1 k2 k3 => kcp_v rfl (s_297_26 (n_ways fb.1 lb k1 k3 ?_)))
      rw [← way_red q1.1 q2.1 q3]
      exact h.mk (FrI.wu FrI.rf rfl) ((hf2.at rfl).trans hl) (c := 0) u_at rfl (fun _ => rfl)
    · have h2 : RQ Lx I L e Q 2 vI 0 := by
        rcases Classical.em (fine (wSeen ch j)) with hfi | hfi
        · rw [spP_f hjn hfi, fCor, if_pos (Classical.byContradiction fun k => hn ⟨hfi, k⟩)] at h
          exact h
        · rw [spP_n hjn hfi] at h; exact h
      exact h2.mk (v := 0) (FrI.wu FrI.rf rfl) (hf1.at rfl) (c := 2) u_at rfl (fun z => by cases z)
set_option maxHeartbeats 4000000 in
theorem h_392 {ch : Ch} (hok : ChOk ch) (hc : ChAt I 5 ch) {m al x y : Int} (hm : R32 m) (hal : al = 0 ∨ al = 1) (hx : R32 x) (hy : R32 y) (h : CQ Lx I e Q (spWays ch m al x y).1 (spWays ch m al x y).2) :
    Wp 392 0 [(0, .ref 1), (1, .int (Int32.ofInt m)), (2, .int (Int32.ofInt al)), (3, .int (Int32.ofInt x)), (4, .int (Int32.ofInt y)), (5, .ref 70)] [] (gE Lx) I L e Q := by
  refine s_392_0 ?_
  rw [hc.2.2.2.1]
  unfold spWays at h
  refine mk_pre hm hok.2.2.2.1 (fun hb => ?_) (fun j hj hjn => ?_)
  · rw [if_pos hb] at h
    exact h.mk (c := 1) FrI.rf (by omega) rfl (fun z => by cases z)
  · subst hj
    rw [if_neg (by omega), Int.toNat_natCast] at h
    rw [i2l hx, i2l hy]
    have bad : (isT x y → x = 0) → kcp (Wp 152) 152 9 0 [(0, .ref 1), (1, .int (Int32.ofInt j)), (2, .int (Int32.ofInt al)), (3, .int (Int32.ofInt x)), (4, .int (Int32.ofInt y))] 71 [] (kcp (Wp 392) 392 9 0 [(0, .ref 1), (5, .ref 70)] 71 [.int (Int32.ofInt 0), .ref 70] Q) (.inr 101) (gE Lx) I L (e + 1) := by
      intro k
      have h2 : CQ Lx I e Q 2 0 := by
        rcases Classical.em (isT x y) with ht | ht
        · rw [iT_t ht, if_pos (k ht)] at h; exact h
        · rw [iT_f ht] at h; exact h
      exact kcp_x rfl (kcp_h rfl (h2.mk (c := 2) FrI.rf (by omega) rfl (fun z => by cases z)))
    refine c_114 (by omega) (by omega) (fun ht => kcp_v rfl (s_151_7 (j_1 (i_eqz hx (fun k0 => bad (fun _ => k0)) (fun k0 => kcp_v rfl (s_152_12 ?_)))))) (fun ht => kcp_v rfl (s_151_7 (j_0 (bad (fun z => absurd z ht)))))
    rw [iT_t ht, if_neg k0] at h
    have tb := ht.b
    refine c_148 hok hc hjn (show R32 al by omega) (fun hfi hnn L1 hf1 hp => kcp_v rfl (s_152_18 ?_)) (fun hn L1 hf1 => kcp_x rfl (kcp_h rfl ?_))
    · rw [iP_t hfi] at h
      have ho := hfi.ok (wSeen_g hok j hjn)
      generalize pt (wSeen ch j) = z at *
      rw [fWays, if_neg hnn] at h
      refine c_34 hal tb.1 tb.2 ho hp (fun I2 L2 hfi2 hfl2 hs => kcp_v rfl (s_152_33 ?_))
      rw [hs.2.2.2.2.2.2.1]
      have hr := wayN_r (rlN al z).1 (lay (rlN al z).1 (rlN al z).2 x y)
      exact kcp_v rfl (s_392_12 (i_inb0 (by decide) (h.mk (c := 0) (hfi2.up rfl) (by omega) rfl (fun _ => by rw [o70, i2l (by omega)]; rfl))))
    · have h2 : CQ Lx I e Q 3 0 := by
        rcases Classical.em (fine (wSeen ch j)) with hfi | hfi
        · rw [iP_t hfi, fWays, if_pos (Classical.byContradiction fun k => hn ⟨hfi, k⟩)] at h
          exact h
        · rw [iP_f hfi] at h; exact h
      exact h2.mk (c := 3) FrI.rf (by omega) rfl (fun z => by cases z)
set_option maxHeartbeats 4000000 in
theorem r_281 {ch : Ch} (hok : ChOk ch) (hc : BnAt I 59 0 ch) {m al x y : Int} (hm : R32 m) (hal : al = 0 ∨ al = 1) (hx : R32 x) (hy : R32 y) (h : RQ Lx I L e Q (spWays ch m al x y).1 vI (spWays ch m al x y).2) :
    Wp 281 0 [(0, .ref 58), (1, .int (Int32.ofInt m)), (2, .int (Int32.ofInt al)), (3, .int (Int32.ofInt x)), (4, .int (Int32.ofInt y))] [] (gE Lx) I L e Q := by
  have e3 : I 59 3 = Int32.ofInt (ch.2.2.2.1 : Int) := hc.2.2.2.1
  refine s_281_0 ?_
  rw [e3]
  unfold spWays at h
  have no : ∀ c : Nat, (c : Int) = 1 ∨ (c : Int) = 2 ∨ (c : Int) = 3 → RQ Lx I L e Q c vI 0 → ∀ L1 : Ml, L1 70 = L 70 → Wp 281 10 [(0, .ref 58), (2, .int (Int32.ofInt al)), (3, .int (Int32.ofInt x)), (4, .int (Int32.ofInt y))] [.int (Int32.ofInt (c : Int)), .ref 58] (gE Lx) I L1 e Q := fun c hcc h2 L1 hl =>
    s_281_10 (i_zlt (by omega) (fun _ => h2.mk (v := 0) (FrI.wu FrI.rf rfl) hl (c := (c : Int)) u_at rfl (fun z => by omega)) (fun k => by omega))
  refine mk_pre2 hm hok.2.2.2.1 (fun hb => ?_) (fun j hj hjn => ?_)
  · rw [if_pos hb] at h
    exact no 1 (by omega) h L rfl
  · subst hj
    rw [if_neg (by omega), Int.toNat_natCast] at h
    have bad : (isT x y → x = 0) → Wp 281 10 [(0, .ref 58), (2, .int (Int32.ofInt al)), (3, .int (Int32.ofInt x)), (4, .int (Int32.ofInt y))] [.int (Int32.ofInt 2), .ref 58] (gE Lx) I L e Q := by
      intro k
      have h2 : RQ Lx I L e Q 2 vI 0 := by
        rcases Classical.em (isT x y) with ht | ht
        · rw [iT_t ht, if_pos (k ht)] at h; exact h
        · rw [iT_f ht] at h; exact h
      exact no 2 (by omega) h2 L rfl
    refine c_207 hx hy (fun ht => kcp_v rfl (s_280_5 (j_1 (i_eqz hx (fun k0 => kcp_v rfl (s_282_18 (j_0 (kcp_v rfl (bad (fun _ => k0)))))) (fun k0 => kcp_v rfl (s_282_18 (j_1 ?_))))))) (fun ht => kcp_v rfl (s_280_5 (j_0 (kcp_v rfl (s_282_18 (j_0 (kcp_v rfl (bad (fun z => absurd z ht)))))))))
    rw [iT_t ht, if_neg k0] at h
    have tb := ht.b
    refine c_274 hok hc hjn (show R32 al by omega) (fun hfi hnn L1 hf1 hp => kcp_v rfl (s_282_31 (j_1 (kcp_v rfl (s_281_10 (i_zlt (by omega) (fun k => by omega) (fun _ => ?_))))))) (fun hn L1 hf1 => kcp_v rfl (s_282_31 (j_0 (kcp_v rfl (no 3 (by omega) ?_ L1 (hf1.at rfl))))))
    · rw [iP_t hfi] at h
      have ho := hfi.ok (wSeen_g hok j hjn)
      have hl : L1 70 = L 70 := hf1.at rfl
      generalize pt (wSeen ch j) = z at *
      rw [fWays, if_neg hnn] at h
      obtain ⟨q1, q2, q3⟩ := rl_b ho hnn
      have fb := fUL_b (B := 2000000) q3 (by omega) (by omega)
      have lb := lay_b (x := x) (y := y) fb.1 fb.2 tb.1 tb.2
      refine c_283 (show R32 al by omega) hx hy ho hnn hp (fun L2 hf2 k1 k2 k3 => kcp_v rfl (s_281_30 (n_ways fb.1 lb k1 k3 ?_)))
      rw [← way_red q1.1 q2.1 q3]
      exact h.mk (FrI.wu FrI.rf rfl) ((hf2.at rfl).trans hl) (c := 0) u_at rfl (fun _ => rfl)
    · rcases Classical.em (fine (wSeen ch j)) with hfi | hfi
      · rw [iP_t hfi, fWays, if_pos (Classical.byContradiction fun k => hn ⟨hfi, k⟩)] at h
        exact h
      · rw [iP_f hfi] at h; exact h
end
