/-! places, isFraction, place, needs, square, sign: the other side's calls. -/
theorem spP_b {ch : Ch} {m : Int} {f : Pt → Nat × Int} (hb : m < 0 ∨ (ch.2.2.2.1 : Int) < m) : spP ch m f = (1, 0) := by rw [spP, if_pos hb]
theorem spP_n {ch : Ch} {k : Nat} {f : Pt → Nat × Int} (hk : k ≤ ch.2.2.2.1) (hf : ¬ fine (wSeen ch k)) : spP ch k f = (2, 0) := by rw [spP, if_neg (by omega), Int.toNat_natCast, iP_f hf]
theorem spP_f {ch : Ch} {k : Nat} {f : Pt → Nat × Int} (hk : k ≤ ch.2.2.2.1) (hf : fine (wSeen ch k)) : spP ch k f = f (pt (wSeen ch k)) := by rw [spP, if_neg (by omega), Int.toNat_natCast, iP_t hf]
section
variable {Lx : Nat} {I : Mi} {L : Ml} {e : Nat} {Q : Kq}
set_option maxHeartbeats 4000000 in
theorem r_250 {ch : Ch} (hok : ChOk ch) (hc : BnAt I 59 0 ch) {m : Int} (hm : R32 m) (h : RQ Lx I L e Q (spP ch m fPlaces).1 vI (spP ch m fPlaces).2) {al : Int} :
    Wp 250 0 [(0, .ref 58), (1, .int (Int32.ofInt m)), (2, .int (Int32.ofInt al))] [] (gE Lx) I L e Q := by
  have e3 : I 59 3 = Int32.ofInt (ch.2.2.2.1 : Int) := hc.2.2.2.1
  refine w_n (ks := [0, 1]) rfl (s_250_0 ?_)
  rw [e3]
  refine mk_pre2 hm hok.2.2.2.1 (fun hb => ?_) (fun j hj hjn => ?_)
  · rw [spP_b hb] at h
    exact h.mk (v := 0) (FrI.wu FrI.rf rfl) rfl (c := 1) u_at rfl (fun z => by cases z)
  · subst hj
    refine c_251 hok hc hjn (fun hfi L1 hf1 hp => kcp_v rfl (s_250_18 (j_1 ?_))) (fun hfi L1 hf1 => kcp_v rfl (s_250_18 (j_0 ?_)))
    · rw [spP_f hjn hfi] at h
      have ho := hfi.ok (wSeen_g hok j hjn)
      generalize pt (wSeen ch j) = z at *
      obtain ⟨o1, o2, o3⟩ := id ho
      obtain ⟨p1, p2, p3⟩ := hp
      rw [p1, p2, p3]
      have fin : ∀ v : Int, v = pM z → Q (.inl (some (.int (Int32.ofInt v)))) (gE Lx) (ui I 58 0 (Int32.ofInt 0)) L1 e := fun v hv => h.mk (v := v) (FrI.wu FrI.rf rfl) (hf1.at rfl) (c := 0) u_at rfl (fun _ => hv)
      refine i_lt64 (by omega) (by omega) (fun a => i_eq64 (by omega) (by omega) (fun b => i_eq64 (by omega) (by omega) (fun c => fin 0 ?_) (fun c => fin 2 ?_)) (fun b => fin 2 ?_)) (fun a => fin 0 ?_)
      · exact (if_pos (Or.inr ⟨b, c⟩)).symm
      · exact (if_neg (by omega)).symm
      · exact (if_neg (by omega)).symm
      · exact (if_pos (Or.inl (by omega))).symm
    · rw [spP_n hjn hfi] at h
      exact h.mk (v := 0) (FrI.wu FrI.rf rfl) (hf1.at rfl) (c := 2) u_at rfl (fun z => by cases z)
set_option maxHeartbeats 4000000 in
theorem r_255 {ch : Ch} (hok : ChOk ch) (hc : BnAt I 59 0 ch) {m al k : Int} (hm : R32 m) (hal : al = 0 ∨ al = 1) (hk : R32 k) (h : RQ Lx I L e Q (spP ch m (fIsFr k)).1 vI (spP ch m (fIsFr k)).2) :
    Wp 255 0 [(0, .ref 58), (1, .int (Int32.ofInt m)), (2, .int (Int32.ofInt al)), (3, .int (Int32.ofInt k))] [] (gE Lx) I L e Q := by
  refine s_255_0 (c_256 hok hc hm hal hk (fun hb => kcp_v rfl (s_255_8 (i_eqz (by omega) (fun k => by omega) (fun _ => ?_)))) (fun j hj hjn hn L' hl => kcp_v rfl (s_255_8 (i_eqz (by omega) (fun k => by omega) (fun _ => ?_)))) (fun j hj hjn hfi k1 k2 L' hl ho hs => kcp_v rfl (s_255_8 (j_0 ?_))))
  · rw [spP_b hb] at h
    exact h.mk (v := 0) (FrI.wu FrI.rf rfl) rfl (c := 1) u_at rfl (fun z => by cases z)
  · subst hj
    have h : RQ Lx I L e Q 2 vI 0 := by
      rcases Classical.em (fine (wSeen ch j)) with hfi | hfi
      · rw [spP_f hjn hfi, fIsFr, if_neg (fun z => hn ⟨hfi, z⟩)] at h; exact h
      · rw [spP_n hjn hfi] at h; exact h
    exact h.mk (v := 0) (FrI.wu FrI.rf rfl) hl (c := 2) u_at rfl (fun z => by cases z)
  · subst hj
    rw [spP_f hjn hfi, fIsFr, if_pos ⟨k1, k2⟩] at h
    rw [hs.2.1]
    obtain ⟨q1, q2, q3, q4, q5, q6⟩ := pt_b ho al
    refine c_242 (by omega) (fun hsq _ => kcp_v rfl (s_255_25 (j_1 ?_))) (fun hsq => kcp_v rfl (s_255_25 (j_0 ?_)))
    · rw [iP_t (show pSq (pt (wSeen ch j)) from hsq)] at h
      exact h.mk (FrI.wu FrI.rf rfl) hl (c := 0) u_at rfl (fun _ => rfl)
    · rw [iP_f (show ¬ pSq (pt (wSeen ch j)) from hsq)] at h
      exact h.mk (FrI.wu FrI.rf rfl) hl (c := 0) u_at rfl (fun _ => rfl)
theorem RQ.two {ch : Ch} {k : Nat} {f : Pt → Nat × Int} {g : Int → Value} (h : RQ Lx I L e Q (spP ch k f).1 g (spP ch k f).2) (hk : k ≤ ch.2.2.2.1) (hn : fine (wSeen ch k) → f (pt (wSeen ch k)) = (2, 0)) : RQ Lx I L e Q 2 g 0 := by
  rcases Classical.em (fine (wSeen ch k)) with hfi | hfi
  · rw [spP_f hk hfi, hn hfi] at h; exact h
  · rw [spP_n hk hfi] at h; exact h
set_option maxHeartbeats 4000000 in
theorem r_258 {ch : Ch} (hok : ChOk ch) (hc : BnAt I 59 0 ch) {m al k lo : Int} (hm : R32 m) (hal : al = 0 ∨ al = 1) (hk : R32 k) (hlo : R32 lo) (h : RQ Lx I L e Q (spP ch m (fPlace k al lo)).1 vL (spP ch m (fPlace k al lo)).2) :
    Wp 258 0 [(0, .ref 58), (1, .int (Int32.ofInt m)), (2, .int (Int32.ofInt al)), (3, .int (Int32.ofInt k)), (4, .int (Int32.ofInt lo))] [] (gE Lx) I L e Q := by
  refine s_258_0 (c_259 hok hc hm hal hk (fun hb => kcp_v rfl (s_258_8 (i_zlt (by omega) (fun _ => ?_) (fun k => by omega)))) (fun j hj hjn hn L' hl => kcp_v rfl (s_258_8 (i_zlt (by omega) (fun _ => ?_) (fun k => by omega)))) (fun j hj hjn hfi k1 k2 hsq L' hl ho hs => kcp_v rfl (s_258_8 (i_zlt (by omega) (fun k => by omega) (fun _ => ?_)))))
  · rw [spP_b hb] at h
    exact h.mk (v := 0) (FrI.wu FrI.rf rfl) rfl (c := 1) u_at rfl (fun z => by cases z)
  · subst hj
    have h2 := h.two hjn (fun hfi => by
      unfold fPlace
      by_cases hk2 : 0 ≤ k ∧ k < pM (pt (wSeen ch j))
      · rw [if_pos hk2, iP_f (fun z => hn ⟨hfi, hk2, z⟩)]
      · rw [if_neg hk2])
    exact h2.mk (v := 0) (FrI.wu FrI.rf rfl) hl (c := 2) u_at rfl (fun z => by cases z)
  · subst hj
    rw [spP_f hjn hfi, fPlace, if_pos ⟨k1, k2⟩, iP_t hsq] at h
    refine c_260 hal hk ho (by omega) hs (kcp_v rfl (s_258_26 (c_264 hal ho (by omega) hs (fun L2 hf2 k8 k9 => kcp_v rfl (s_258_29 ?_)))))
    rw [k8, k9]
    have hl2 : L2 70 = L 70 := (hf2.at rfl).trans hl
    refine i_eqz hlo (fun k0 => h.mk (FrI.wu FrI.rf rfl) hl2 (c := 0) u_at rfl (fun _ => ?_)) (fun k0 => h.mk (FrI.wu FrI.rf rfl) hl2 (c := 0) u_at rfl (fun _ => ?_))
    · rw [told, if_pos k0]
    · rw [told, if_neg k0]
set_option maxHeartbeats 4000000 in
theorem r_268 {ch : Ch} (hok : ChOk ch) (hc : BnAt I 59 0 ch) {m al k lo : Int} (hm : R32 m) (hal : al = 0 ∨ al = 1) (hk : R32 k) (hlo : R32 lo) (h : RQ Lx I L e Q (spP ch m (fNeeds k al lo)).1 vL (spP ch m (fNeeds k al lo)).2) :
    Wp 268 0 [(0, .ref 58), (1, .int (Int32.ofInt m)), (2, .int (Int32.ofInt al)), (3, .int (Int32.ofInt k)), (4, .int (Int32.ofInt lo))] [] (gE Lx) I L e Q := by
  refine s_268_0 (c_259 hok hc hm hal hk (fun hb => kcp_v rfl (s_268_8 (i_zlt (by omega) (fun _ => ?_) (fun k => by omega)))) (fun j hj hjn hn L' hl => kcp_v rfl (s_268_8 (i_zlt (by omega) (fun _ => ?_) (fun k => by omega)))) (fun j hj hjn hfi k1 k2 hsq L' hl ho hs => kcp_v rfl (s_268_8 (i_zlt (by omega) (fun k => by omega) (fun _ => ?_)))))
  · rw [spP_b hb] at h
    exact h.mk (v := 0) (FrI.wu FrI.rf rfl) rfl (c := 1) u_at rfl (fun z => by cases z)
  · subst hj
    have h2 := h.two hjn (fun hfi => by
      unfold fNeeds
      by_cases hk2 : 0 ≤ k ∧ k < pM (pt (wSeen ch j))
      · rw [if_pos hk2, iP_f (fun z => hn ⟨hfi, hk2, z⟩)]
      · rw [if_neg hk2])
    exact h2.mk (v := 0) (FrI.wu FrI.rf rfl) hl (c := 2) u_at rfl (fun z => by cases z)
  · subst hj
    rw [spP_f hjn hfi, fNeeds, if_pos ⟨k1, k2⟩, iP_t hsq] at h
    generalize pt (wSeen ch j) = z at *
    obtain ⟨q1, q2, q3, q4, q5, q6⟩ := pt_b ho al
    have hp := pM_n ho (by omega)
    have hpos : 0 < z.1 * z.2.2 := Int.mul_pos hp.1 (by have := ho.2.2; omega)
    have hn := nsg_r k al z
    refine c_260 hal hk ho (by omega) hs (kcp_v rfl (s_268_26 ?_))
    rw [hs.2.1]
    refine c_243 (by omega) (fun r hr => kcp_v rfl (s_268_34 ?_))
    have hr0 := hr.1
    have hrb : r < 2000000 := hr.b (by omega) (by omega)
    have hrt := rt_eq hr
    rw [hrt] at h
    have mr : -2000000 ≤ nsg k al z * r ∧ nsg k al z * r ≤ 2000000 := by rcases hn with q | q <;> rw [q] <;> omega
    rw [hs.2.2.2.2.1, hs.2.2.2.2.2.2, i2l (by omega), mul64, mul64]
    refine c_236 (by omega) (by omega) (fun L2 hf2 k8 k9 => kcp_v rfl (s_268_47 ?_))
    rw [k8, k9, rU_f (by omega), rL_f (by omega)]
    have hl2 : L2 70 = L 70 := (hf2.at rfl).trans hl
    refine i_eqz hlo (fun k0 => h.mk (FrI.wu FrI.rf rfl) hl2 (c := 0) u_at rfl (fun _ => ?_)) (fun k0 => h.mk (FrI.wu FrI.rf rfl) hl2 (c := 0) u_at rfl (fun _ => ?_))
    · rw [told, if_pos k0]
    · rw [told, if_neg k0]
set_option maxHeartbeats 4000000 in
theorem r_269 {ch : Ch} (hok : ChOk ch) (hc : BnAt I 59 0 ch) {m al lo : Int} (hm : R32 m) (hlo : R32 lo) (h : RQ Lx I L e Q (spP ch m (fSquare lo)).1 vL (spP ch m (fSquare lo)).2) :
    Wp 269 0 [(0, .ref 58), (1, .int (Int32.ofInt m)), (2, .int (Int32.ofInt al)), (3, .int (Int32.ofInt lo))] [] (gE Lx) I L e Q := by
  have e3 : I 59 3 = Int32.ofInt (ch.2.2.2.1 : Int) := hc.2.2.2.1
  refine w_n (ks := [0, 1, 3]) rfl (s_269_0 ?_)
  rw [e3]
  refine mk_pre2 hm hok.2.2.2.1 (fun hb => ?_) (fun j hj hjn => ?_)
  · rw [spP_b hb] at h
    exact h.mk (v := 0) (FrI.wu FrI.rf rfl) rfl (c := 1) u_at rfl (fun z => by cases z)
  · subst hj
    refine c_251 hok hc hjn (fun hfi L1 hf1 hp => kcp_v rfl (s_269_18 (j_1 ?_))) (fun hfi L1 hf1 => kcp_v rfl (s_269_18 (j_0 ?_)))
    · rw [spP_f hjn hfi] at h
      have ho := hfi.ok (wSeen_g hok j hjn)
      have hl : L1 70 = L 70 := hf1.at rfl
      generalize pt (wSeen ch j) = z at *
      obtain ⟨o1, o2, o3⟩ := id ho
      obtain ⟨p1, p2, p3⟩ := hp
      obtain ⟨q1, q2, q3, q4, q5, q6⟩ := pt_b ho 0
      simp only [p1, p2, p3, mul64, sub64, add64]
      have bad : pM z = 0 → Q (.inl (some (.long (Int64.ofInt 0)))) (gE Lx) (ui I 58 0 (Int32.ofInt 2)) L1 e := fun hz => by
        rw [fSquare, if_neg (by omega)] at h
        exact h.mk (v := 0) (FrI.wu FrI.rf rfl) hl (c := 2) u_at rfl (fun z => by cases z)
      have go : 0 < pM z → Wp 236 0 [(0, .ref 58), (1, .long (Int64.ofInt ((z.1 - z.2.2) * (z.1 - z.2.2) + z.2.1 * z.2.1))), (3, .long (Int64.ofInt (z.1 * z.2.2)))] [] (gE Lx) (ui I 58 0 (Int32.ofInt 0)) L1 e (kcp (Wp 269) 269 71 0 [(0, .ref 58), (3, .int (Int32.ofInt lo))] 71 [] Q) := by
        intro hz
        rw [fSquare, if_pos hz] at h
        have hpos : 0 < z.1 * z.2.2 := Int.mul_pos (pM_n ho hz).1 (by omega)
        have n1 := sq_nn (z.1 - z.2.2)
        have n2 := sq_nn z.2.1
        have m1 := mulB (x := z.1 - z.2.2) (y := z.1 - z.2.2) (A := 1000) (B := 1000) (by omega) (by omega)
        have m2 := mulB o2 o2
        refine c_236 (by omega) (by omega) (fun L2 hf2 k8 k9 => kcp_v rfl (s_269_74 ?_))
        rw [k8, k9, rU_f (by omega), rL_f (by omega)]
        have hl2 : L2 70 = L 70 := (hf2.at rfl).trans hl
        have f1 : fU (pU z) (z.1 * z.2.2 * (z.1 * z.2.2)) = fU ((z.1 - z.2.2) * (z.1 - z.2.2) + z.2.1 * z.2.1) (z.1 * z.2.2) := fU_mul hpos
        have f2 : fL (pU z) (z.1 * z.2.2 * (z.1 * z.2.2)) = fL ((z.1 - z.2.2) * (z.1 - z.2.2) + z.2.1 * z.2.1) (z.1 * z.2.2) := fL_mul hpos
        rw [f1, f2] at h
        refine i_eqz hlo (fun k0 => h.mk (FrI.wu FrI.rf rfl) hl2 (c := 0) u_at rfl (fun _ => ?_)) (fun k0 => h.mk (FrI.wu FrI.rf rfl) hl2 (c := 0) u_at rfl (fun _ => ?_))
        · rw [told, if_pos k0]
        · rw [told, if_neg k0]
      have z0 : (z.1 = 0 ∨ (z.1 = z.2.2 ∧ z.2.1 = 0)) → pM z = 0 := fun q => if_pos q
      have z2 : ¬ (z.1 = 0 ∨ (z.1 = z.2.2 ∧ z.2.1 = 0)) → 0 < pM z := fun q => by rw [pM, if_neg q]; decide
      exact i_lt64 (by omega) (by omega) (fun a => i_eq64 (by omega) (by omega) (fun b => i_eq64 (by omega) (by omega) (fun c => bad (z0 (Or.inr ⟨b, c⟩))) (fun c => go (z2 (by omega)))) (fun b => go (z2 (by omega)))) (fun a => bad (z0 (Or.inl (by omega))))
    · rw [spP_n hjn hfi] at h
      exact h.mk (v := 0) (FrI.wu FrI.rf rfl) (hf1.at rfl) (c := 2) u_at rfl (fun z => by cases z)
set_option maxHeartbeats 4000000 in
theorem r_270 {ch : Ch} (hok : ChOk ch) (hc : BnAt I 59 0 ch) {m al k : Int} (hm : R32 m) (hal : al = 0 ∨ al = 1) (hk : R32 k) (h : RQ Lx I L e Q (spP ch m (fSign k al)).1 vI (spP ch m (fSign k al)).2) :
    Wp 270 0 [(0, .ref 58), (1, .int (Int32.ofInt m)), (2, .int (Int32.ofInt al)), (3, .int (Int32.ofInt k))] [] (gE Lx) I L e Q := by
  refine s_270_0 (c_256 hok hc hm hal hk (fun hb => kcp_v rfl (s_270_8 (i_zlt (by omega) (fun _ => s_270_27 ?_) (fun k => by omega)))) (fun j hj hjn hn L' hl => kcp_v rfl (s_270_8 (i_zlt (by omega) (fun _ => s_270_27 ?_) (fun k => by omega)))) (fun j hj hjn hfi k1 k2 L' hl ho hs => kcp_v rfl (s_270_8 (i_zlt (by omega) (fun k => by omega) (fun _ => ?_)))))
  · rw [spP_b hb] at h
    exact h.mk (v := 0) (FrI.wu FrI.rf rfl) rfl (c := 1) u_at rfl (fun z => by cases z)
  · subst hj
    have h2 := h.two hjn (fun hfi => by rw [fSign, if_neg (fun z => hn ⟨hfi, z⟩)])
    exact h2.mk (v := 0) (FrI.wu FrI.rf rfl) hl (c := 2) u_at rfl (fun z => by cases z)
  · subst hj
    rw [spP_f hjn hfi, fSign, if_pos ⟨k1, k2⟩] at h
    exact c_260 hal hk ho (by omega) hs (kcp_v rfl (s_270_27 (h.mk (FrI.wu FrI.rf rfl) hl (c := 0) u_at rfl (fun _ => rfl))))
end
