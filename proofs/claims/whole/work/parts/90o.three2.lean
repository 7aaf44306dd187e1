/-! three, ofThree: both sides' calls. -/
noncomputable def fThree (al x y u v : Int) (f : Pt → Nat × Int) (z : Pt) : Nat × Int := iP (gdP al (thW al x y u v z)) (f (pt (thW al x y u v z))) (3, 0)
noncomputable def spT (ch : Ch) (m al x y u v : Int) (f : Pt → Nat × Int) : Nat × Int := if m < 0 ∨ (ch.2.2.2.1 : Int) < m then (1, 0) else iP (isT x y ∧ x ≠ 0 ∧ uvP u v) (iP (gdP al (wSeen ch m.toNat)) (fThree al x y u v f (pt (wSeen ch m.toNat))) (3, 0)) (2, 0)
noncomputable def f3w (al x y : Int) (z : Pt) : Nat × Int := (0, fWay al x y z)
theorem spT_1 {ch : Ch} {m al x y u v : Int} {f : Pt → Nat × Int} (hb : m < 0 ∨ (ch.2.2.2.1 : Int) < m) : spT ch m al x y u v f = (1, 0) := by rw [spT, if_pos hb]
theorem spT_2 {ch : Ch} {j : Nat} {al x y u v : Int} {f : Pt → Nat × Int} (hj : j ≤ ch.2.2.2.1) (h : ¬ (isT x y ∧ x ≠ 0 ∧ uvP u v)) : spT ch j al x y u v f = (2, 0) := by rw [spT, if_neg (by omega), iP_f h]
theorem spT_3 {ch : Ch} {j : Nat} {al x y u v : Int} {f : Pt → Nat × Int} (hj : j ≤ ch.2.2.2.1) (h : isT x y ∧ x ≠ 0 ∧ uvP u v) (h3 : ¬ (gdP al (wSeen ch j) ∧ gdP al (thW al x y u v (pt (wSeen ch j))))) : spT ch j al x y u v f = (3, 0) := by
  rw [spT, if_neg (by omega), iP_t h, Int.toNat_natCast]
  rcases Classical.em (gdP al (wSeen ch j)) with q | q
  · rw [iP_t q, fThree, iP_f (fun w => h3 ⟨q, w⟩)]
  · rw [iP_f q]
theorem spT_0 {ch : Ch} {j : Nat} {al x y u v : Int} {f : Pt → Nat × Int} (hj : j ≤ ch.2.2.2.1) (h : isT x y ∧ x ≠ 0 ∧ uvP u v) (h3 : gdP al (wSeen ch j)) (h4 : gdP al (thW al x y u v (pt (wSeen ch j)))) : spT ch j al x y u v f = f (pt (thW al x y u v (pt (wSeen ch j)))) := by
  rw [spT, if_neg (by omega), iP_t h, Int.toNat_natCast, iP_t h3, fThree, iP_t h4]
section
variable {Lx : Nat} {I : Mi} {L : Ml} {e : Nat} {Q : Kq}
/-- the numbers of the first stub, on the class' side -/
theorem n_185 {u v : Int} (hu : R32 u) (hv : R32 v) {x y : Int} (hx : R32 x) (hy : R32 y) (h1 : isT x y → x ≠ 0 → uvP u v → Q (.inl none) (gE Lx) I L e) (h0 : ¬ (isT x y ∧ x ≠ 0 ∧ uvP u v) → Q (.inr 101) (gE Lx) I L (e + 1)) :
    Wp 114 0 [(0, .long (Int32.ofInt x).toInt64), (2, .long (Int32.ofInt y).toInt64)] [] (gE Lx) I L e (kcp (Wp 151) 151 4 0 [(0, .ref 1), (1, .int (Int32.ofInt x))] 71 [] (kcp (Wp 185) 185 8 0 [(0, .ref 1), (4, .int (Int32.ofInt u)), (5, .int (Int32.ofInt v))] 71 [] Q)) := by
  refine n_dist hx hy (fun ht k0 => kcp_v rfl (s_185_11 ?_)) (fun q => kcp_x rfl (h0 (fun w => q ⟨w.1, w.2.1⟩)))
  have bad : ¬ uvP u v → Q (.inr 101) (gE Lx) I L (e + 1) := fun q => h0 (fun w => q w.2.2)
  have good := h1 ht k0
  unfold uvP at bad good
  exact i_lt32 hu (by omega) (fun k => bad (by omega)) (fun k1 => i_lt32 (by omega) hu (fun k => bad (by omega)) (fun k2 => i_lt32 hv (by omega) (fun k => bad (by omega)) (fun k3 => i_lt32 (by omega) hv (fun k => bad (by omega)) (fun k4 => good ⟨⟨k1, k2⟩, ⟨k3, k4⟩⟩))))
set_option maxHeartbeats 4000000 in
theorem h_405 {ch : Ch} (hok : ChOk ch) (hc : ChAt I 5 ch) {m al x y u v : Int} (hm : R32 m) (hal : al = 0 ∨ al = 1) (hx : R32 x) (hy : R32 y) (hu : R32 u) (hv : R32 v) (h : CQ Lx I e Q (spT ch m al x y u v (f3w al x y)).1 (spT ch m al x y u v (f3w al x y)).2) :
    Wp 405 0 [(0, .ref 1), (1, .int (Int32.ofInt m)), (2, .int (Int32.ofInt al)), (3, .int (Int32.ofInt x)), (4, .int (Int32.ofInt y)), (5, .int (Int32.ofInt u)), (6, .int (Int32.ofInt v)), (7, .ref 70)] [] (gE Lx) I L e Q := by
  refine s_405_0 ?_
  rw [hc.2.2.2.1]
  refine mk_pre hm hok.2.2.2.1 (fun hb => ?_) (fun j hj hjn => ?_)
  · rw [spT_1 hb] at h
    exact h.mk (c := 1) FrI.rf (by omega) rfl (fun z => by cases z)
  · subst hj
    refine n_185 hu hv hx hy (fun ht k0 huv => kcp_v rfl (s_184_12 ?_)) (fun q => kcp_x rfl (kcp_h rfl ?_))
    rotate_left
    · rw [spT_2 hjn q] at h
      exact h.mk (c := 2) FrI.rf (by omega) rfl (fun z => by cases z)
    have tb := ht.b
    refine c_186 hok hc hjn hal tb.1 tb.2 k0 huv (fun q1 q2 I2 L2 hf2 hp2 => kcp_v rfl (s_184_25 ?_)) (fun q L2 => kcp_x rfl (kcp_h rfl ?_))
    · rw [spT_0 hjn ⟨ht, k0, huv⟩ q1 q2] at h
      unfold f3w at h
      rw [hp2.2.2.2.2.2.2.1]
      generalize pt (thW al x y u v (pt (wSeen ch j))) = z at *
      have hr := wayN_r (rlN al z).1 (lay (rlN al z).1 (rlN al z).2 x y)
      exact kcp_v rfl (s_405_16 (i_inb0 (by decide) (h.mk (c := 0) (hf2.up rfl) (by omega) rfl (fun _ => by rw [o70, i2l (by omega)]; rfl))))
    · rw [spT_3 hjn ⟨ht, k0, huv⟩ q] at h
      exact h.mk (c := 3) FrI.rf (by omega) rfl (fun z => by cases z)
set_option maxHeartbeats 4000000 in
theorem h_406 {ch : Ch} (hok : ChOk ch) (hc : ChAt I 5 ch) {m al x y u v k se lo : Int} (hm : R32 m) (hal : al = 0 ∨ al = 1) (hx : R32 x) (hy : R32 y) (hu : R32 u) (hv : R32 v) (hk : R32 k) (hse : R32 se) (hlo : R32 lo) (h : CQ Lx I e Q (spT ch m al x y u v (fPair 3 al x y k se lo)).1 (spT ch m al x y u v (fPair 3 al x y k se lo)).2) :
    Wp 406 0 [(0, .ref 1), (1, .int (Int32.ofInt m)), (2, .int (Int32.ofInt al)), (3, .int (Int32.ofInt x)), (4, .int (Int32.ofInt y)), (5, .int (Int32.ofInt u)), (6, .int (Int32.ofInt v)), (7, .int (Int32.ofInt k)), (8, .int (Int32.ofInt se)), (9, .int (Int32.ofInt lo)), (10, .ref 70)] [] (gE Lx) I L e Q := by
  refine s_406_0 ?_
  rw [hc.2.2.2.1]
  refine mk_pre hm hok.2.2.2.1 (fun hb => ?_) (fun j hj hjn => ?_)
  · rw [spT_1 hb] at h
    exact h.mk (c := 1) FrI.rf (by omega) rfl (fun z => by cases z)
  · subst hj
    refine n_185 hu hv hx hy (fun ht k0 huv => kcp_v rfl (s_187_12 ?_)) (fun q => kcp_x rfl (kcp_h rfl ?_))
    rotate_left
    · rw [spT_2 hjn q] at h
      exact h.mk (c := 2) FrI.rf (by omega) rfl (fun z => by cases z)
    have tb := ht.b
    refine c_186 hok hc hjn hal tb.1 tb.2 k0 huv (fun q1 q2 I2 L2 hf2 hp2 => kcp_v rfl (s_187_25 ?_)) (fun q L2 => kcp_x rfl (kcp_h rfl ?_))
    · rw [spT_0 hjn ⟨ht, k0, huv⟩ q1 q2] at h
      have hoz := q1.1.ok (wSeen_g hok j hjn)
      have gW := (thW_g (al := al) hoz huv tb.1 tb.2 k0).1
      have ho := q2.1.ok gW
      have hnn := q2.2
      generalize pt (thW al x y u v (pt (wSeen ch j))) = z at *
      refine n_tp ho hnn tb.1 tb.2 hk hse hlo hp2 (fun hn => kcp_h rfl ?_) (fun k1 k2 k3 L3 => kcp_v rfl (s_187_35 (kcp_v rfl (s_406_22 (i_inb0 (by decide) ?_)))))
      · rw [fPair_0 hn] at h
        exact h.mk (c := 3) (hf2.up rfl) (by omega) rfl (fun z => by cases z)
      · rw [fPair_1 k1 k2 k3] at h
        exact h.mk (c := 0) (hf2.up rfl) (by omega) rfl (fun _ => o70)
    · rw [spT_3 hjn ⟨ht, k0, huv⟩ q] at h
      exact h.mk (c := 3) FrI.rf (by omega) rfl (fun z => by cases z)
set_option maxHeartbeats 4000000 in
theorem r_288 {ch : Ch} (hok : ChOk ch) (hc : BnAt I 59 0 ch) {m al x y u v : Int} (hm : R32 m) (hal : al = 0 ∨ al = 1) (hx : R32 x) (hy : R32 y) (hu : R32 u) (hv : R32 v) (h : RQ Lx I L e Q (spT ch m al x y u v (f3w al x y)).1 vI (spT ch m al x y u v (f3w al x y)).2) :
    Wp 288 0 [(0, .ref 58), (1, .int (Int32.ofInt m)), (2, .int (Int32.ofInt al)), (3, .int (Int32.ofInt x)), (4, .int (Int32.ofInt y)), (5, .int (Int32.ofInt u)), (6, .int (Int32.ofInt v))] [] (gE Lx) I L e Q := by
  have e3 : I 59 3 = Int32.ofInt (ch.2.2.2.1 : Int) := hc.2.2.2.1
  refine s_288_0 ?_
  rw [e3]
  have no : ∀ c : Nat, (c : Int) = 1 ∨ (c : Int) = 2 ∨ (c : Int) = 3 → RQ Lx I L e Q c vI 0 → ∀ L1 : Ml, L1 70 = L 70 → Wp 288 14 [(0, .ref 58), (2, .int (Int32.ofInt al)), (3, .int (Int32.ofInt x)), (4, .int (Int32.ofInt y))] [.int (Int32.ofInt (c : Int)), .ref 58] (gE Lx) I L1 e Q := fun c hcc h2 L1 hl =>
    s_288_14 (i_zlt (by omega) (fun _ => h2.mk (v := 0) (FrI.wu FrI.rf rfl) hl (c := (c : Int)) u_at rfl (fun z => by omega)) (fun k => by omega))
  refine mk_pre2 hm hok.2.2.2.1 (fun hb => ?_) (fun j hj hjn => ?_)
  · rw [spT_1 hb] at h
    exact no 1 (by omega) h L rfl
  · subst hj
    refine n_289 hok hc hjn hal hx hy hu hv (fun q => kcp_v rfl ?_) (fun ht k0 huv q L1 hl => kcp_v rfl ?_) (fun ht k0 huv q1 q2 L1 hl hp => kcp_v rfl (s_288_14 (i_zlt (by omega) (fun k => by omega) (fun _ => ?_))))
    · rw [spT_2 hjn q] at h
      exact no 2 (by omega) h L rfl
    · rw [spT_3 hjn ⟨ht, k0, huv⟩ q] at h
      exact no 3 (by omega) h L1 hl
    · rw [spT_0 hjn ⟨ht, k0, huv⟩ q1 q2] at h
      have tb := ht.b
      have gW := (thW_g (al := al) (q1.1.ok (wSeen_g hok j hjn)) huv tb.1 tb.2 k0).1
      have ho := q2.1.ok gW
      have hnn := q2.2
      generalize pt (thW al x y u v (pt (wSeen ch j))) = z at *
      unfold f3w at h
      obtain ⟨z1, z2, z3⟩ := rl_b ho hnn
      have fb := fUL_b (B := 2000000) z3 (by omega) (by omega)
      have lb := lay_b (x := x) (y := y) fb.1 fb.2 tb.1 tb.2
      refine c_283 (show R32 al by omega) hx hy ho hnn hp (fun L2 hf2 k1 k2 k3 => kcp_v rfl (s_288_34 (n_ways fb.1 lb k1 k3 ?_)))
      rw [← way_red z1.1 z2.1 z3]
      exact h.mk (FrI.wu FrI.rf rfl) ((hf2.at rfl).trans hl) (c := 0) u_at rfl (fun _ => rfl)
set_option maxHeartbeats 4000000 in
theorem r_291 {ch : Ch} (hok : ChOk ch) (hc : BnAt I 59 0 ch) {m al x y u v k se lo : Int} (hm : R32 m) (hal : al = 0 ∨ al = 1) (hx : R32 x) (hy : R32 y) (hu : R32 u) (hv : R32 v) (hk : R32 k) (hse : R32 se) (hlo : R32 lo) (h : RQ Lx I L e Q (spT ch m al x y u v (fPair 3 al x y k se lo)).1 vL (spT ch m al x y u v (fPair 3 al x y k se lo)).2) :
    Wp 291 0 [(0, .ref 58), (1, .int (Int32.ofInt m)), (2, .int (Int32.ofInt al)), (3, .int (Int32.ofInt x)), (4, .int (Int32.ofInt y)), (5, .int (Int32.ofInt u)), (6, .int (Int32.ofInt v)), (7, .int (Int32.ofInt k)), (8, .int (Int32.ofInt se)), (9, .int (Int32.ofInt lo))] [] (gE Lx) I L e Q := by
  have e3 : I 59 3 = Int32.ofInt (ch.2.2.2.1 : Int) := hc.2.2.2.1
  refine s_291_0 ?_
  rw [e3]
  have no : ∀ c : Nat, (c : Int) = 1 ∨ (c : Int) = 2 ∨ (c : Int) = 3 → RQ Lx I L e Q c vL 0 → ∀ L1 : Ml, L1 70 = L 70 → Wp 291 14 [(0, .ref 58), (2, .int (Int32.ofInt al)), (3, .int (Int32.ofInt x)), (4, .int (Int32.ofInt y)), (7, .int (Int32.ofInt k)), (8, .int (Int32.ofInt se)), (9, .int (Int32.ofInt lo))] [.int (Int32.ofInt (c : Int)), .ref 58] (gE Lx) I L1 e Q := fun c hcc h2 L1 hl =>
    s_291_14 (i_zlt (by omega) (fun _ => s_291_42 (h2.mk (v := 0) (FrI.wu FrI.rf rfl) hl (c := (c : Int)) u_at rfl (fun z => by omega))) (fun k => by omega))
  refine mk_pre2 hm hok.2.2.2.1 (fun hb => ?_) (fun j hj hjn => ?_)
  · rw [spT_1 hb] at h
    exact no 1 (by omega) h L rfl
  · subst hj
    refine n_289 hok hc hjn hal hx hy hu hv (fun q => kcp_v rfl ?_) (fun ht k0 huv q L1 hl => kcp_v rfl ?_) (fun ht k0 huv q1 q2 L1 hl hp => kcp_v rfl (s_291_14 (i_zlt (by omega) (fun k => by omega) (fun _ => ?_))))
    · rw [spT_2 hjn q] at h
      exact no 2 (by omega) h L rfl
    · rw [spT_3 hjn ⟨ht, k0, huv⟩ q] at h
      exact no 3 (by omega) h L1 hl
    · rw [spT_0 hjn ⟨ht, k0, huv⟩ q1 q2] at h
      have tb := ht.b
      have gW := (thW_g (al := al) (q1.1.ok (wSeen_g hok j hjn)) huv tb.1 tb.2 k0).1
      have ho := q2.1.ok gW
      have hnn := q2.2
      generalize pt (thW al x y u v (pt (wSeen ch j))) = z at *
      refine c_283 (show R32 al by omega) hx hy ho hnn hp (fun L2 hf2 k1 k2 k3 => kcp_v rfl (c_286 (show R32 al by omega) tb.1 tb.2 k0 hk hse hlo ho hnn ?_ k1 k2 k3 (fun hn => kcp_v rfl (s_291_42 ?_)) (fun a1 a2 a3 L3 hf3 => kcp_v rfl (s_291_42 ?_))))
      · obtain ⟨p0, p1, p2⟩ := hp
        exact ⟨(hf2 58 14 rfl).trans p0, (hf2 58 15 rfl).trans p1, (hf2 58 16 rfl).trans p2⟩
      · rw [fPair_0 hn] at h
        exact h.mk (v := 0) (FrI.wu (FrI.wu FrI.rf rfl) rfl) ((hf2.at rfl).trans hl) (c := 3) u_at rfl (fun z => by cases z)
      · rw [fPair_1 a1 a2 a3] at h
        exact h.mk (FrI.wu FrI.rf rfl) ((hf3.at rfl).trans ((hf2.at rfl).trans hl)) (c := 0) u_at rfl (fun _ => rfl)
end
