/-! stub, corner: both sides. -/
theorem fPair_0 {c : Nat} {al x y k se lo : Int} {z : Pt} (h : ¬ (0 ≤ k ∧ k < fWay al x y z ∧ prS (plV al x y z))) : fPair c al x y k se lo z = (c, 0) := by
  unfold fPair
  split
  · rename_i h2
    exact iP_f (fun q => h ⟨h2.1, h2.2, q⟩)
  · rfl
theorem fPair_1 {c : Nat} {al x y k se lo : Int} {z : Pt} (h1 : 0 ≤ k) (h2 : k < fWay al x y z) (h3 : prS (plV al x y z)) : fPair c al x y k se lo z = (0, told lo (fU (tlZ k se al x y z).1 (tlZ k se al x y z).2) (fL (tlZ k se al x y z).1 (tlZ k se al x y z).2)) := by
  unfold fPair
  rw [if_pos ⟨h1, h2⟩, iP_t h3]
noncomputable def fStub (al x y k se lo : Int) (z : Pt) : Nat × Int := if al = 0 ∧ z.1 = 0 ∧ z.2.1 = 0 then (3, 0) else fPair 3 al x y k se lo z
noncomputable def fCorn (al k se lo : Int) (z : Pt) : Nat × Int := if al = 0 ∧ z.1 = 0 ∧ z.2.1 = 0 then (2, 0) else fPair 2 al 1 0 k se lo z
noncomputable def spStub (ch : Ch) (m al x y k se lo : Int) : Nat × Int := if m < 0 ∨ (ch.2.2.2.1 : Int) < m then (1, 0) else iT x y (if x = 0 then (2, 0) else iP (fine (wSeen ch m.toNat)) (fStub al x y k se lo (pt (wSeen ch m.toNat))) (3, 0)) (2, 0)
section
variable {Lx : Nat} {I : Mi} {L : Ml} {e : Nat} {Q : Kq}
set_option maxHeartbeats 4000000 in
theorem h_393 {ch : Ch} (hok : ChOk ch) (hc : ChAt I 5 ch) {m al x y k se lo : Int} (hm : R32 m) (hal : al = 0 ∨ al = 1) (hx : R32 x) (hy : R32 y) (hk : R32 k) (hse : R32 se) (hlo : R32 lo) (h : CQ Lx I e Q (spStub ch m al x y k se lo).1 (spStub ch m al x y k se lo).2) :
    Wp 393 0 [(0, .ref 1), (1, .int (Int32.ofInt m)), (2, .int (Int32.ofInt al)), (3, .int (Int32.ofInt x)), (4, .int (Int32.ofInt y)), (5, .int (Int32.ofInt k)), (6, .int (Int32.ofInt se)), (7, .int (Int32.ofInt lo)), (8, .ref 70)] [] (gE Lx) I L e Q := by
  refine s_393_0 ?_
  rw [hc.2.2.2.1]
  unfold spStub at h
  refine mk_pre hm hok.2.2.2.1 (fun hb => ?_) (fun j hj hjn => ?_)
  · rw [if_pos hb] at h
    exact h.mk (c := 1) FrI.rf (by omega) rfl (fun z => by cases z)
  · subst hj
    rw [if_neg (by omega), Int.toNat_natCast] at h
    rw [i2l hx, i2l hy]
    have bad : (isT x y → x = 0) → kcp (Wp 153) 153 9 0 [(0, .ref 1), (1, .int (Int32.ofInt j)), (2, .int (Int32.ofInt al)), (3, .int (Int32.ofInt x)), (4, .int (Int32.ofInt y)), (5, .int (Int32.ofInt k)), (6, .int (Int32.ofInt se)), (7, .int (Int32.ofInt lo))] 71 [] (kcp (Wp 393) 393 15 0 [(0, .ref 1), (8, .ref 70)] 71 [.int (Int32.ofInt 0), .ref 70] Q) (.inr 101) (gE Lx) I L (e + 1) := by
      intro k
      have h2 : CQ Lx I e Q 2 0 := by
        rcases Classical.em (isT x y) with ht | ht
        · rw [iT_t ht, if_pos (k ht)] at h; exact h
        · rw [iT_f ht] at h; exact h
      exact kcp_x rfl (kcp_h rfl (h2.mk (c := 2) FrI.rf (by omega) rfl (fun z => by cases z)))
    refine c_114 (by omega) (by omega) (fun ht => kcp_v rfl (s_151_7 (j_1 (i_eqz hx (fun k0 => bad (fun _ => k0)) (fun k0 => kcp_v rfl (s_153_12 ?_)))))) (fun ht => kcp_v rfl (s_151_7 (j_0 (bad (fun z => absurd z ht)))))
    rw [iT_t ht, if_neg k0] at h
    have tb := ht.b
    refine c_148 hok hc hjn (show R32 al by omega) (fun hfi hnn L1 hf1 hp => kcp_v rfl (s_153_18 ?_)) (fun hn L1 hf1 => kcp_x rfl (kcp_h rfl ?_))
    · rw [iP_t hfi] at h
      have ho := hfi.ok (wSeen_g hok j hjn)
      generalize pt (wSeen ch j) = z at *
      rw [fStub, if_neg hnn] at h
      refine c_34 hal tb.1 tb.2 ho hp (fun I2 L2 hfi2 hfl2 hs => kcp_v rfl (s_153_33 (n_tp ho hnn tb.1 tb.2 hk hse hlo hs (fun hn => kcp_h rfl ?_) (fun k1 k2 k3 L3 => kcp_v rfl (s_153_43 (kcp_v rfl (s_393_18 (i_inb0 (by decide) ?_))))))))
      · rw [fPair_0 hn] at h
        exact h.mk (c := 3) (hfi2.up rfl) (by omega) rfl (fun z => by cases z)
      · rw [fPair_1 k1 k2 k3] at h
        exact h.mk (c := 0) (hfi2.up rfl) (by omega) rfl (fun _ => o70)
    · have h2 : CQ Lx I e Q 3 0 := by
        rcases Classical.em (fine (wSeen ch j)) with hfi | hfi
        · rw [iP_t hfi, fStub, if_pos (Classical.byContradiction fun k => hn ⟨hfi, k⟩)] at h
          exact h
        · rw [iP_f hfi] at h; exact h
      exact h2.mk (c := 3) FrI.rf (by omega) rfl (fun z => by cases z)
set_option maxHeartbeats 4000000 in
theorem h_397 {ch : Ch} (hok : ChOk ch) (hc : ChAt I 5 ch) {m al k se lo : Int} (hm : R32 m) (hal : al = 0 ∨ al = 1) (hk : R32 k) (hse : R32 se) (hlo : R32 lo) (h : CQ Lx I e Q (spP ch m (fCorn al k se lo)).1 (spP ch m (fCorn al k se lo)).2) :
    Wp 397 0 [(0, .ref 1), (1, .int (Int32.ofInt m)), (2, .int (Int32.ofInt al)), (3, .int (Int32.ofInt k)), (4, .int (Int32.ofInt se)), (5, .int (Int32.ofInt lo)), (6, .ref 70)] [] (gE Lx) I L e Q := by
  refine s_397_0 ?_
  rw [hc.2.2.2.1]
  refine mk_pre hm hok.2.2.2.1 (fun hb => (spP_1 h hb).mk (c := 1) FrI.rf (by omega) rfl (fun z => by cases z)) (fun j hj hjn => ?_)
  subst hj
  refine c_148 hok hc hjn (show R32 al by omega) (fun hfi hnn L1 hf1 hp => kcp_v rfl (s_164_11 ?_)) (fun hn L1 hf1 => kcp_x rfl (kcp_h rfl ?_))
  · have hq := spP_0 h hjn hfi
    have ho := hfi.ok (wSeen_g hok j hjn)
    generalize pt (wSeen ch j) = z at *
    rw [fCorn, if_neg hnn] at hq
    refine c_34 hal (by omega) (by omega) ho hp (fun I2 L2 hfi2 hfl2 hs => kcp_v rfl (s_163_14 (kcp_v rfl (s_164_16 (n_tp ho hnn (by omega) (by omega) hk hse hlo hs (fun hn => kcp_h rfl ?_) (fun k1 k2 k3 L3 => kcp_v rfl (s_164_25 (kcp_v rfl (s_397_14 (i_inb0 (by decide) ?_))))))))))
    · rw [fPair_0 hn] at hq
      exact hq.mk (c := 2) (hfi2.up rfl) (by omega) rfl (fun z => by cases z)
    · rw [fPair_1 k1 k2 k3] at hq
      exact hq.mk (c := 0) (hfi2.up rfl) (by omega) rfl (fun _ => o70)
  · have h2 : CQ Lx I e Q 2 0 := by
      rcases Classical.em (fine (wSeen ch j)) with hfi | hfi
      · have hq := spP_0 h hjn hfi
        rw [fCorn, if_pos (Classical.byContradiction fun k => hn ⟨hfi, k⟩)] at hq
        exact hq
      · exact spP_2 h hjn hfi
    exact h2.mk (c := 2) FrI.rf (by omega) rfl (fun z => by cases z)
set_option maxHeartbeats 4000000 in
theorem r_285 {ch : Ch} (hok : ChOk ch) (hc : BnAt I 59 0 ch) {m al x y k se lo : Int} (hm : R32 m) (hal : al = 0 ∨ al = 1) (hx : R32 x) (hy : R32 y) (hk : R32 k) (hse : R32 se) (hlo : R32 lo) (h : RQ Lx I L e Q (spStub ch m al x y k se lo).1 vL (spStub ch m al x y k se lo).2) :
    Wp 285 0 [(0, .ref 58), (1, .int (Int32.ofInt m)), (2, .int (Int32.ofInt al)), (3, .int (Int32.ofInt x)), (4, .int (Int32.ofInt y)), (5, .int (Int32.ofInt k)), (6, .int (Int32.ofInt se)), (7, .int (Int32.ofInt lo))] [] (gE Lx) I L e Q := by
  have e3 : I 59 3 = Int32.ofInt (ch.2.2.2.1 : Int) := hc.2.2.2.1
  refine s_285_0 ?_
  rw [e3]
  unfold spStub at h
  have no : ∀ c : Nat, (c : Int) = 1 ∨ (c : Int) = 2 ∨ (c : Int) = 3 → RQ Lx I L e Q c vL 0 → ∀ L1 : Ml, L1 70 = L 70 → Wp 285 10 [(0, .ref 58), (2, .int (Int32.ofInt al)), (3, .int (Int32.ofInt x)), (4, .int (Int32.ofInt y)), (5, .int (Int32.ofInt k)), (6, .int (Int32.ofInt se)), (7, .int (Int32.ofInt lo))] [.int (Int32.ofInt (c : Int)), .ref 58] (gE Lx) I L1 e Q := fun c hcc h2 L1 hl =>
    s_285_10 (i_zlt (by omega) (fun _ => s_285_38 (h2.mk (v := 0) (FrI.wu FrI.rf rfl) hl (c := (c : Int)) u_at rfl (fun z => by omega))) (fun k => by omega))
  refine mk_pre2 hm hok.2.2.2.1 (fun hb => ?_) (fun j hj hjn => ?_)
  · rw [if_pos hb] at h
    exact no 1 (by omega) h L rfl
  · subst hj
    rw [if_neg (by omega), Int.toNat_natCast] at h
    have bad : (isT x y → x = 0) → Wp 285 10 [(0, .ref 58), (2, .int (Int32.ofInt al)), (3, .int (Int32.ofInt x)), (4, .int (Int32.ofInt y)), (5, .int (Int32.ofInt k)), (6, .int (Int32.ofInt se)), (7, .int (Int32.ofInt lo))] [.int (Int32.ofInt 2), .ref 58] (gE Lx) I L e Q := by
      intro k
      have h2 : RQ Lx I L e Q 2 vL 0 := by
        rcases Classical.em (isT x y) with ht | ht
        · rw [iT_t ht, if_pos (k ht)] at h; exact h
        · rw [iT_f ht] at h; exact h
      exact no 2 (by omega) h2 L rfl
    refine c_207 hx hy (fun ht => kcp_v rfl (s_280_5 (j_1 (i_eqz hx (fun k0 => kcp_v rfl (s_282_18 (j_0 (kcp_v rfl (bad (fun _ => k0)))))) (fun k0 => kcp_v rfl (s_282_18 (j_1 ?_))))))) (fun ht => kcp_v rfl (s_280_5 (j_0 (kcp_v rfl (s_282_18 (j_0 (kcp_v rfl (bad (fun z => absurd z ht)))))))))
    rw [iT_t ht, if_neg k0] at h
    have tb := ht.b
    refine c_274 hok hc hjn (show R32 al by omega) (fun hfi hnn L1 hf1 hp => kcp_v rfl (s_282_31 (j_1 (kcp_v rfl (s_285_10 (i_zlt (by omega) (fun k => by omega) (fun _ => ?_))))))) (fun hn L1 hf1 => kcp_v rfl (s_282_31 (j_0 (kcp_v rfl (no 3 (by omega) ?_ L1 (hf1.at rfl))))))
    · rw [iP_t hfi] at h
      have ho := hfi.ok (wSeen_g hok j hjn)
      have hl : L1 70 = L 70 := hf1.at rfl
      generalize pt (wSeen ch j) = z at *
      rw [fStub, if_neg hnn] at h
      refine c_283 (show R32 al by omega) hx hy ho hnn hp (fun L2 hf2 k1 k2 k3 => kcp_v rfl (c_286 (show R32 al by omega) tb.1 tb.2 k0 hk hse hlo ho hnn ?_ k1 k2 k3 (fun hn => kcp_v rfl (s_285_38 ?_)) (fun a1 a2 a3 L3 hf3 => kcp_v rfl (s_285_38 ?_))))
      · obtain ⟨p0, p1, p2⟩ := hp
        exact ⟨(hf2 58 14 rfl).trans p0, (hf2 58 15 rfl).trans p1, (hf2 58 16 rfl).trans p2⟩
      · rw [fPair_0 hn] at h
        exact h.mk (v := 0) (FrI.wu (FrI.wu FrI.rf rfl) rfl) ((hf2.at rfl).trans hl) (c := 3) u_at rfl (fun z => by cases z)
      · rw [fPair_1 a1 a2 a3] at h
        exact h.mk (FrI.wu FrI.rf rfl) ((hf3.at rfl).trans ((hf2.at rfl).trans hl)) (c := 0) u_at rfl (fun _ => rfl)
    · rcases Classical.em (fine (wSeen ch j)) with hfi | hfi
      · rw [iP_t hfi, fStub, if_pos (Classical.byContradiction fun k => hn ⟨hfi, k⟩)] at h
        exact h
      · rw [iP_f hfi] at h; exact h
set_option maxHeartbeats 4000000 in
theorem r_299 {ch : Ch} (hok : ChOk ch) (hc : BnAt I 59 0 ch) {m al k se lo : Int} (hm : R32 m) (hal : al = 0 ∨ al = 1) (hk : R32 k) (hse : R32 se) (hlo : R32 lo) (h : RQ Lx I L e Q (spP ch m (fCorn al k se lo)).1 vL (spP ch m (fCorn al k se lo)).2) :
    Wp 299 0 [(0, .ref 58), (1, .int (Int32.ofInt m)), (2, .int (Int32.ofInt al)), (3, .int (Int32.ofInt k)), (4, .int (Int32.ofInt se)), (5, .int (Int32.ofInt lo))] [] (gE Lx) I L e Q := by
  have e3 : I 59 3 = Int32.ofInt (ch.2.2.2.1 : Int) := hc.2.2.2.1
  refine s_299_0 ?_
  rw [e3]
  refine mk_pre2 hm hok.2.2.2.1 (fun hb => s_299_7 (i_zlt (by omega) (fun _ => ?_) (fun k => by omega))) (fun j hj hjn => ?_)
  · rw [spP_b hb] at h
    exact h.mk (v := 0) (FrI.wu FrI.rf rfl) rfl (c := 1) u_at rfl (fun z => by cases z)
  · subst hj
    refine c_274 hok hc hjn (show R32 al by omega) (fun hfi hnn L1 hf1 hp => kcp_v rfl (s_298_18 (j_1 (kcp_v rfl (s_299_7 (i_zlt (by omega) (fun k => by omega) (fun _ => ?_))))))) (fun hn L1 hf1 => kcp_v rfl (s_298_18 (j_0 (kcp_v rfl (s_299_7 (i_zlt (by omega) (fun _ => ?_) (fun k => by omega)))))))
    · rw [spP_f hjn hfi] at h
      have ho := hfi.ok (wSeen_g hok j hjn)
      have hl : L1 70 = L 70 := hf1.at rfl
      generalize pt (wSeen ch j) = z at *
      rw [fCorn, if_neg hnn] at h
      refine c_283 (show R32 al by omega) (by omega) (by omega) ho hnn hp (fun L2 hf2 k1 k2 k3 => kcp_v rfl (c_286 (show R32 al by omega) (by omega) (by omega) (by omega) hk hse hlo ho hnn ?_ k1 k2 k3 (fun hn => kcp_v rfl (s_299_31 ?_)) (fun a1 a2 a3 L3 hf3 => kcp_v rfl (s_299_31 ?_))))
      · obtain ⟨p0, p1, p2⟩ := hp
        exact ⟨(hf2 58 14 rfl).trans p0, (hf2 58 15 rfl).trans p1, (hf2 58 16 rfl).trans p2⟩
      · rw [fPair_0 hn] at h
        rw [u_at]
        exact i_zlt (by omega) (fun _ => h.mk (v := 0) (FrI.wu (FrI.wu (FrI.wu FrI.rf rfl) rfl) rfl) ((hf2.at rfl).trans hl) (c := 2) u_at rfl (fun z => by cases z)) (fun k => by omega)
      · rw [fPair_1 a1 a2 a3] at h
        rw [u_at]
        exact i_zlt (by omega) (fun k => by omega) (fun _ => h.mk (FrI.wu (FrI.wu FrI.rf rfl) rfl) ((hf3.at rfl).trans ((hf2.at rfl).trans hl)) (c := 0) u_at rfl (fun _ => rfl))
    · have h2 : RQ Lx I L e Q 2 vL 0 := by
        rcases Classical.em (fine (wSeen ch j)) with hfi | hfi
        · rw [spP_f hjn hfi, fCorn, if_pos (Classical.byContradiction fun k => hn ⟨hfi, k⟩)] at h
          exact h
        · rw [spP_n hjn hfi] at h; exact h
      exact h2.mk (v := 0) (FrI.wu FrI.rf rfl) (hf1.at rfl) (c := 2) u_at rfl (fun z => by cases z)
end
