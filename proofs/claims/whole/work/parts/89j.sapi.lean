/-! places, isFraction, place, needs, square, sign on the class' side. -/
noncomputable def spP (ch : Ch) (m : Int) (f : Pt → Nat × Int) : Nat × Int := if m < 0 ∨ (ch.2.2.2.1 : Int) < m then (1, 0) else iP (fine (wSeen ch m.toNat)) (f (pt (wSeen ch m.toNat))) (2, 0)
noncomputable def fPlaces (z : Pt) : Nat × Int := (0, pM z)
noncomputable def fIsFr (k : Int) (z : Pt) : Nat × Int := if 0 ≤ k ∧ k < pM z then (0, iP (pSq z) 1 0) else (2, 0)
def told (lo u l : Int) : Int := if lo = 0 then u else l
/-- the place as a fraction: what is above and below -/
noncomputable def plN (k al : Int) (z : Pt) : Int × Int := if pL al z = 0 then (if 0 < pH z * side k al z then (1, 0) else (pR al z, 2 * pH z)) else (pH z + side k al z * rt (pU z), pL al z)
noncomputable def fPlace (k al lo : Int) (z : Pt) : Nat × Int := if 0 ≤ k ∧ k < pM z then iP (pSq z) (0, told lo (fU (plN k al z).1 (plN k al z).2) (fL (plN k al z).1 (plN k al z).2)) (2, 0) else (2, 0)
/-- the sign of what is needed -/
noncomputable def nsg (k al : Int) (z : Pt) : Int := if al = 0 then -side k al z else side k al z
noncomputable def fNeeds (k al lo : Int) (z : Pt) : Nat × Int := if 0 ≤ k ∧ k < pM z then iP (pSq z) (0, told lo (fU (nsg k al z * rt (pU z)) (z.1 * z.2.2)) (fL (nsg k al z * rt (pU z)) (z.1 * z.2.2))) (2, 0) else (2, 0)
noncomputable def fSquare (lo : Int) (z : Pt) : Nat × Int := if 0 < pM z then (0, told lo (fU (pU z) (z.1 * z.2.2 * (z.1 * z.2.2))) (fL (pU z) (z.1 * z.2.2 * (z.1 * z.2.2)))) else (2, 0)
noncomputable def fSign (k al : Int) (z : Pt) : Nat × Int := if 0 ≤ k ∧ k < pM z then (0, nsg k al z) else (2, 0)
theorem pM_r (z : Pt) : 0 ≤ pM z ∧ pM z ≤ 2 := by unfold pM; split <;> omega
theorem pM_n {z : Pt} (h : PtOk z) (k : 0 < pM z) : 0 < z.1 ∧ ¬ (z.1 = z.2.2 ∧ z.2.1 = 0) ∧ 0 < pU z := by
  have h1 : ¬ (z.1 = 0 ∨ (z.1 = z.2.2 ∧ z.2.1 = 0)) := fun q => by unfold pM at k; rw [if_pos q] at k; omega
  obtain ⟨o1, o2, o3⟩ := h
  have p1 : 0 < z.1 := by omega
  have p2 : 0 < (z.1 - z.2.2) * (z.1 - z.2.2) + z.2.1 * z.2.1 := sq2_pos (by omega)
  exact ⟨p1, by omega, Int.mul_pos (Int.mul_pos p1 (by omega)) p2⟩
theorem plN_nz {k al : Int} {z : Pt} (h : PtOk z) (hm : 0 < pM z) : ¬ ((plN k al z).1 = 0 ∧ (plN k al z).2 = 0) := by
  unfold plN
  by_cases hl : pL al z = 0
  · rw [if_pos hl]
    split
    · simp
    · intro q
      have q2 : 2 * pH z = 0 := q.2
      have e := pU_eq al z
      have := (pM_n h hm).2.2
      have hz : pH z = 0 := by omega
      rw [hl, hz] at e
      omega
  · rw [if_neg hl]
    exact fun q => hl q.2
section
variable {A B : Prop}
theorem mk_pre {m : Int} {n : Nat} (hm : R32 m) (hn : n ≤ 4) (h1 : (m < 0 ∨ (n : Int) < m) → A) (h0 : ∀ k : Nat, m = k → k ≤ n → B) : if Int32.ofInt m < 0 then A else if Int32.ofInt (n : Int) < Int32.ofInt m then A else B :=
  i_ltz hm (fun k => h1 (Or.inl k)) (fun k => i_lt32 (by omega) hm (fun k2 => h1 (Or.inr k2)) (fun k2 => h0 m.toNat (by omega) (by omega)))
theorem mk_pre2 {m : Int} {n : Nat} (hm : R32 m) (hn : n ≤ 4) (h1 : (m < 0 ∨ (n : Int) < m) → A) (h0 : ∀ k : Nat, m = k → k ≤ n → B) : if Int32.ofInt m < Int32.ofInt 0 then A else if Int32.ofInt (n : Int) < Int32.ofInt m then A else B :=
  i_lt32 hm (by omega) (fun k => h1 (Or.inl k)) (fun k => i_lt32 (by omega) hm (fun k2 => h1 (Or.inr k2)) (fun k2 => h0 m.toNat (by omega) (by omega)))
end
section
variable {Lx : Nat} {I : Mi} {L : Ml} {e : Nat} {Q : Kq}
theorem spP_1 {ch : Ch} {m : Int} {f : Pt → Nat × Int} (h : CQ Lx I e Q (spP ch m f).1 (spP ch m f).2) (hb : m < 0 ∨ (ch.2.2.2.1 : Int) < m) : CQ Lx I e Q 1 0 := by rw [spP, if_pos hb] at h; exact h
theorem spP_2 {ch : Ch} {k : Nat} {f : Pt → Nat × Int} (h : CQ Lx I e Q (spP ch k f).1 (spP ch k f).2) (hk : k ≤ ch.2.2.2.1) (hf : ¬ fine (wSeen ch k)) : CQ Lx I e Q 2 0 := by
  rw [spP, if_neg (by omega), Int.toNat_natCast, iP_f hf] at h
  exact h
theorem spP_0 {ch : Ch} {k : Nat} {f : Pt → Nat × Int} (h : CQ Lx I e Q (spP ch k f).1 (spP ch k f).2) (hk : k ≤ ch.2.2.2.1) (hf : fine (wSeen ch k)) : CQ Lx I e Q (f (pt (wSeen ch k))).1 (f (pt (wSeen ch k))).2 := by
  rw [spP, if_neg (by omega), Int.toNat_natCast, iP_t hf] at h
  exact h
theorem fs {ch : Ch} (hok : ChOk ch) (hc : ChAt I 5 ch) {k : Nat} (hk : k ≤ ch.2.2.2.1) {al : Int} (hal : al = 0 ∨ al = 1) (h1 : fine (wSeen ch k) → ∀ I' L', FrI cS I I' → PtOk (pt (wSeen ch k)) → SpAt I' L' al (pt (wSeen ch k)) → Q (.inl none) (gE Lx) I' L' e) (h0 : ¬ fine (wSeen ch k) → ∀ L', Q (.inr 102) (gE Lx) I L' (e + 1)) :
    Wp 136 0 [(0, .ref 1), (1, .int (Int32.ofInt k))] [] (gE Lx) I L e (kcp (Wp 135) 135 7 0 [(0, .ref 1), (2, .int (Int32.ofInt al))] 71 [] Q) := by
  refine c_136 hok hc hk (fun hfi L1 hf1 hp => kcp_v rfl (s_135_10 ?_)) (fun hfi L1 _ => kcp_x rfl (h0 hfi L1))
  have ho := hfi.ok (wSeen_g hok k hk)
  exact c_39 hal ho hp (fun I' L' hfi2 hfl2 hs => kcp_v rfl (s_135_22 (h1 hfi I' L' (hfi2.up rfl) ho hs)))
/-- the way out of a helper, with what it tells -/
theorem o70 {x : Int64} : ul L 70 (Int32.ofInt 0).toNatClampNeg x 70 0 = x := by rw [tnc0]; exact l_at
set_option maxHeartbeats 4000000 in
theorem h_382 {ch : Ch} (hok : ChOk ch) (hc : ChAt I 5 ch) {m al : Int} (hm : R32 m) (hal : al = 0 ∨ al = 1) (h : CQ Lx I e Q (spP ch m fPlaces).1 (spP ch m fPlaces).2) :
    Wp 382 0 [(0, .ref 1), (1, .int (Int32.ofInt m)), (2, .int (Int32.ofInt al)), (3, .ref 70)] [] (gE Lx) I L e Q := by
  refine s_382_0 ?_
  rw [hc.2.2.2.1]
  refine mk_pre hm hok.2.2.2.1 (fun hb => (spP_1 h hb).mk (c := 1) FrI.rf (by omega) rfl (fun z => by cases z)) (fun k hk hkn => ?_)
  subst hk
  refine fs hok hc hkn hal (fun hfi I1 L1 hf1 ho hs => kcp_v rfl (s_134_6 ?_)) (fun hfi L1 => kcp_x rfl (kcp_h rfl ((spP_2 h hkn hfi).mk (c := 2) FrI.rf (by omega) rfl (fun z => by cases z))))
  have hq := spP_0 h hkn hfi
  have hr := pM_r (pt (wSeen ch k))
  rw [hs.1]
  exact kcp_v rfl (s_382_8 (i_inb0 (by decide) (hq.mk (c := 0) hf1 (by omega) rfl (fun _ => by rw [o70]; exact i2l (by omega)))))
set_option maxHeartbeats 4000000 in
theorem h_383 {ch : Ch} (hok : ChOk ch) (hc : ChAt I 5 ch) {m al k : Int} (hm : R32 m) (hal : al = 0 ∨ al = 1) (hk : R32 k) (h : CQ Lx I e Q (spP ch m (fIsFr k)).1 (spP ch m (fIsFr k)).2) :
    Wp 383 0 [(0, .ref 1), (1, .int (Int32.ofInt m)), (2, .int (Int32.ofInt al)), (3, .int (Int32.ofInt k)), (4, .ref 70)] [] (gE Lx) I L e Q := by
  refine s_383_0 ?_
  rw [hc.2.2.2.1]
  refine mk_pre hm hok.2.2.2.1 (fun hb => (spP_1 h hb).mk (c := 1) FrI.rf (by omega) rfl (fun z => by cases z)) (fun j hj hjn => ?_)
  subst hj
  refine fs hok hc hjn hal (fun hfi I1 L1 hf1 ho hs => kcp_v rfl (s_137_6 ?_)) (fun hfi L1 => kcp_x rfl (kcp_h rfl ((spP_2 h hjn hfi).mk (c := 2) FrI.rf (by omega) rfl (fun z => by cases z))))
  have hq := spP_0 h hjn hfi
  have hr := pM_r (pt (wSeen ch j))
  rw [hs.1]
  unfold fIsFr at hq
  refine i_ltz hk (fun k1 => ?_) (fun k1 => i_lt32 hk (by omega) (fun k2 => ?_) (fun k2 => ?_))
  · rw [if_neg (by omega)] at hq
    exact kcp_h rfl (hq.mk (c := 2) hf1 (by omega) rfl (fun z => by cases z))
  · rw [if_pos (by omega)] at hq
    rcases hs.2.2.1 with ⟨s1, s2⟩ | ⟨s1, s2⟩ <;> rw [s1]
    · rw [iP_t s2] at hq
      exact b_1 (kcp_v rfl (s_383_10 (j_1 (i_inb0 (by decide) (hq.mk (c := 0) hf1 (by omega) rfl (fun _ => o70))))))
    · rw [iP_f s2] at hq
      exact b_0 (kcp_v rfl (s_383_10 (j_0 (i_inb0 (by decide) (hq.mk (c := 0) hf1 (by omega) rfl (fun _ => o70))))))
  · rw [if_neg (by omega)] at hq
    exact kcp_h rfl (hq.mk (c := 2) hf1 (by omega) rfl (fun z => by cases z))
/-- the k-th place goes to the answer's row -/
theorem c_44 {al k : Int} (hk : R32 k) {z : Pt} (ho : PtOk z) (hm : 0 < pM z) (hs : SpAt I L al z) (h : ∀ L', FrL [(18, 0, 2)] L L' → FrcAt L' 18 (fU (plN k al z).1 (plN k al z).2) (fL (plN k al z).1 (plN k al z).2) → Q (.inl none) (gE Lx) I L' e) :
    Wp 45 0 [(0, .ref 19), (1, .int (Int32.ofInt k))] [] (gE Lx) I L e (kcp (Wp 44) 44 2 0 [(0, .ref 19), (2, .ref 18)] 71 [] Q) := by
  obtain ⟨p1, p2, p3, p4, p5, p6⟩ := pt_b ho al
  obtain ⟨-, -, -, -, s4, s5, s6, s7, s8, s9⟩ := id hs
  have hr := side_r k al z
  have q1 := rt_sp p4.1
  have q2 : rt (pU z) < 2000000 := q1.b (by omega) (by omega)
  have q0 := q1.1
  have mr : -2000000 ≤ side k al z * rt (pU z) ∧ side k al z * rt (pU z) ≤ 2000000 := by rcases hr with k | k <;> rw [k] <;> omega
  have mh := mul_sg hr p1
  refine c_45 hk hs (kcp_v rfl (s_44_5 ?_))
  rw [s4, s5, s6, s8, i2l (by omega), mul64, mul64, mul64, add64]
  have hnz := plN_nz (k := k) (al := al) ho hm
  have B : ∀ L' : Ml, FrL [(18, 0, 2)] L L' → ∀ a b : Int, FrcAt L' 18 (fU a b) (fL a b) → (a, b) = plN k al z → Q (.inl none) (gE Lx) I L' e := fun L' hf a b hv he => h L' hf (by rw [← he]; exact hv)
  refine i_eq64 (by omega) (by omega) (fun k0 => i_lt64 (by omega) mh (fun k1 => c_25 (Or.inl rfl) (by omega) (by omega) (fun L' hf hv => kcp_v rfl (s_44_20 (s_44_71 (B L' hf 1 0 hv ?_))))) (fun k1 => i_eq64 (by omega) (by omega) (fun _ => c_25 (Or.inl rfl) (by omega) (by omega) (fun L' hf hv => kcp_v rfl (s_44_48 (s_44_71 (B L' hf _ _ hv ?_))))) (fun q => absurd k0 q)))
    (fun k0 => i_eq64 (by omega) (by omega) (fun q => absurd q k0) (fun _ => c_25 (Or.inl rfl) (by omega) (by omega) (fun L' hf hv => kcp_v rfl (s_44_71 (B L' hf _ _ hv ?_)))))
  · rw [plN, if_pos k0, if_pos k1]
  · rw [plN, if_pos k0, if_neg (by omega)]
  · rw [plN, if_neg k0]
set_option maxHeartbeats 4000000 in
theorem h_384 {ch : Ch} (hok : ChOk ch) (hc : ChAt I 5 ch) {m al k lo : Int} (hm : R32 m) (hal : al = 0 ∨ al = 1) (hk : R32 k) (hlo : R32 lo) (h : CQ Lx I e Q (spP ch m (fPlace k al lo)).1 (spP ch m (fPlace k al lo)).2) :
    Wp 384 0 [(0, .ref 1), (1, .int (Int32.ofInt m)), (2, .int (Int32.ofInt al)), (3, .int (Int32.ofInt k)), (4, .int (Int32.ofInt lo)), (5, .ref 70)] [] (gE Lx) I L e Q := by
  refine s_384_0 ?_
  rw [hc.2.2.2.1]
  refine mk_pre hm hok.2.2.2.1 (fun hb => (spP_1 h hb).mk (c := 1) FrI.rf (by omega) rfl (fun z => by cases z)) (fun j hj hjn => ?_)
  subst hj
  refine fs hok hc hjn hal (fun hfi I1 L1 hf1 ho hs => kcp_v rfl (s_139_6 ?_)) (fun hfi L1 => kcp_x rfl (kcp_h rfl ((spP_2 h hjn hfi).mk (c := 2) FrI.rf (by omega) rfl (fun z => by cases z))))
  have hq := spP_0 h hjn hfi
  have hr := pM_r (pt (wSeen ch j))
  rw [hs.1]
  unfold fPlace at hq
  refine i_ltz hk (fun k1 => ?_) (fun k1 => i_lt32 hk (by omega) (fun k2 => ?_) (fun k2 => ?_))
  · rw [if_neg (by omega)] at hq
    exact kcp_h rfl (hq.mk (c := 2) hf1 (by omega) rfl (fun z => by cases z))
  · rw [if_pos (by omega)] at hq
    rcases hs.2.2.1 with ⟨s1, s2⟩ | ⟨s1, s2⟩ <;> rw [s1]
    · rw [iP_t s2] at hq
      refine j_1 (c_44 hk ho (by omega) hs (fun L2 hf2 hv => kcp_v rfl (s_139_23 ?_)))
      rw [hv.1, hv.2]
      refine i_eqz hlo (fun k0 => kcp_v rfl (s_384_12 (i_inb0 (by decide) (hq.mk (c := 0) hf1 (by omega) rfl (fun _ => ?_))))) (fun k0 => kcp_v rfl (s_384_12 (i_inb0 (by decide) (hq.mk (c := 0) hf1 (by omega) rfl (fun _ => ?_)))))
      · rw [o70, told, if_pos k0]
      · rw [o70, told, if_neg k0]
    · rw [iP_f s2] at hq
      exact j_0 (kcp_h rfl (hq.mk (c := 2) hf1 (by omega) rfl (fun z => by cases z)))
  · rw [if_neg (by omega)] at hq
    exact kcp_h rfl (hq.mk (c := 2) hf1 (by omega) rfl (fun z => by cases z))
theorem c_49 {al k : Int} (hal : al = 0 ∨ al = 1) (hk : R32 k) {z : Pt} (hs : SpAt I L al z) (h : Q (.inl (some (.int (Int32.ofInt (nsg k al z))))) (gE Lx) I L e) : if I 19 2 = 0 then Wp 45 0 [(0, .ref 19), (1, .int (Int32.ofInt k))] [] (gE Lx) I L e (kcp (Wp 49) 49 17 0 [(0, .ref 19)] 71 [] Q) else Wp 45 0 [(0, .ref 19), (1, .int (Int32.ofInt k))] [] (gE Lx) I L e (kcp (Wp 49) 49 9 0 [(0, .ref 19)] 71 [] Q) := by
  rw [hs.2.1]
  unfold nsg at h
  rcases hal with rfl | rfl
  · rw [if_pos rfl] at h
    exact j_0 (c_45 hk hs (kcp_v rfl (s_49_20 (by rw [neg32]; exact h))))
  · rw [if_neg (by omega)] at h
    exact j_1 (c_45 hk hs (kcp_v rfl (s_49_12 h)))
theorem nsg_r (k al : Int) (z : Pt) : nsg k al z = 1 ∨ nsg k al z = -1 := by
  unfold nsg
  rcases side_r k al z with h | h <;> rw [h] <;> split <;> omega
theorem c_48 {al k : Int} (hal : al = 0 ∨ al = 1) (hk : R32 k) {z : Pt} (ho : PtOk z) (hs : SpAt I L al z) (h : ∀ L', FrL [(18, 0, 2)] L L' → FrcAt L' 18 (fU (nsg k al z * rt (pU z)) (z.1 * z.2.2)) (fL (nsg k al z * rt (pU z)) (z.1 * z.2.2)) → Q (.inl none) (gE Lx) I L' e) :
    if I 19 2 = 0 then Wp 45 0 [(0, .ref 19), (1, .int (Int32.ofInt k))] [] (gE Lx) I L e (kcp (Wp 49) 49 17 0 [(0, .ref 19)] 71 [] (kcp (Wp 48) 48 3 0 [(0, .ref 19), (2, .ref 18)] 71 [.ref 18] Q)) else Wp 45 0 [(0, .ref 19), (1, .int (Int32.ofInt k))] [] (gE Lx) I L e (kcp (Wp 49) 49 9 0 [(0, .ref 19)] 71 [] (kcp (Wp 48) 48 3 0 [(0, .ref 19), (2, .ref 18)] 71 [.ref 18] Q)) := by
  obtain ⟨p1, p2, p3, p4, p5, p6⟩ := pt_b ho al
  obtain ⟨-, -, -, -, s4, s5, s6, s7, s8, s9⟩ := id hs
  have hr := nsg_r k al z
  have q1 := rt_sp p4.1
  have q2 : rt (pU z) < 2000000 := q1.b (by omega) (by omega)
  have q0 := q1.1
  have mr : -2000000 ≤ nsg k al z * rt (pU z) ∧ nsg k al z * rt (pU z) ≤ 2000000 := by rcases hr with k | k <;> rw [k] <;> omega
  refine c_49 hal hk hs (kcp_v rfl (s_48_6 ?_))
  rw [s8, s9, i2l (by omega), mul64]
  exact c_25 (Or.inl rfl) (by omega) (by omega) (fun L' hf hv => kcp_v rfl (s_48_19 (h L' hf hv)))
set_option maxHeartbeats 4000000 in
theorem h_386 {ch : Ch} (hok : ChOk ch) (hc : ChAt I 5 ch) {m al k lo : Int} (hm : R32 m) (hal : al = 0 ∨ al = 1) (hk : R32 k) (hlo : R32 lo) (h : CQ Lx I e Q (spP ch m (fNeeds k al lo)).1 (spP ch m (fNeeds k al lo)).2) :
    Wp 386 0 [(0, .ref 1), (1, .int (Int32.ofInt m)), (2, .int (Int32.ofInt al)), (3, .int (Int32.ofInt k)), (4, .int (Int32.ofInt lo)), (5, .ref 70)] [] (gE Lx) I L e Q := by
  refine s_386_0 ?_
  rw [hc.2.2.2.1]
  refine mk_pre hm hok.2.2.2.1 (fun hb => (spP_1 h hb).mk (c := 1) FrI.rf (by omega) rfl (fun z => by cases z)) (fun j hj hjn => ?_)
  subst hj
  refine fs hok hc hjn hal (fun hfi I1 L1 hf1 ho hs => kcp_v rfl (s_142_6 ?_)) (fun hfi L1 => kcp_x rfl (kcp_h rfl ((spP_2 h hjn hfi).mk (c := 2) FrI.rf (by omega) rfl (fun z => by cases z))))
  have hq := spP_0 h hjn hfi
  have hr := pM_r (pt (wSeen ch j))
  rw [hs.1]
  unfold fNeeds at hq
  refine i_ltz hk (fun k1 => ?_) (fun k1 => i_lt32 hk (by omega) (fun k2 => ?_) (fun k2 => ?_))
  · rw [if_neg (by omega)] at hq
    exact kcp_h rfl (hq.mk (c := 2) hf1 (by omega) rfl (fun z => by cases z))
  · rw [if_pos (by omega)] at hq
    rcases hs.2.2.1 with ⟨s1, s2⟩ | ⟨s1, s2⟩ <;> rw [s1]
    · rw [iP_t s2] at hq
      refine j_1 (c_48 hal hk ho hs (fun L2 hf2 hv => kcp_v rfl (s_142_23 ?_)))
      rw [hv.1, hv.2]
      refine i_eqz hlo (fun k0 => kcp_v rfl (s_386_12 (i_inb0 (by decide) (hq.mk (c := 0) hf1 (by omega) rfl (fun _ => ?_))))) (fun k0 => kcp_v rfl (s_386_12 (i_inb0 (by decide) (hq.mk (c := 0) hf1 (by omega) rfl (fun _ => ?_)))))
      · rw [o70, told, if_pos k0]
      · rw [o70, told, if_neg k0]
    · rw [iP_f s2] at hq
      exact j_0 (kcp_h rfl (hq.mk (c := 2) hf1 (by omega) rfl (fun z => by cases z)))
  · rw [if_neg (by omega)] at hq
    exact kcp_h rfl (hq.mk (c := 2) hf1 (by omega) rfl (fun z => by cases z))
set_option maxHeartbeats 4000000 in
theorem h_387 {ch : Ch} (hok : ChOk ch) (hc : ChAt I 5 ch) {m al lo : Int} (hm : R32 m) (hal : al = 0 ∨ al = 1) (hlo : R32 lo) (h : CQ Lx I e Q (spP ch m (fSquare lo)).1 (spP ch m (fSquare lo)).2) :
    Wp 387 0 [(0, .ref 1), (1, .int (Int32.ofInt m)), (2, .int (Int32.ofInt al)), (3, .int (Int32.ofInt lo)), (4, .ref 70)] [] (gE Lx) I L e Q := by
  refine s_387_0 ?_
  rw [hc.2.2.2.1]
  refine mk_pre hm hok.2.2.2.1 (fun hb => (spP_1 h hb).mk (c := 1) FrI.rf (by omega) rfl (fun z => by cases z)) (fun j hj hjn => ?_)
  subst hj
  refine fs hok hc hjn hal (fun hfi I1 L1 hf1 ho hs => kcp_v rfl (s_143_6 ?_)) (fun hfi L1 => kcp_x rfl (kcp_h rfl ((spP_2 h hjn hfi).mk (c := 2) FrI.rf (by omega) rfl (fun z => by cases z))))
  have hq := spP_0 h hjn hfi
  have hr := pM_r (pt (wSeen ch j))
  obtain ⟨p1, p2, p3, p4, p5, p6⟩ := pt_b ho al
  have m5 := mulB (x := (pt (wSeen ch j)).1 * (pt (wSeen ch j)).2.2) (y := (pt (wSeen ch j)).1 * (pt (wSeen ch j)).2.2) (A := 1000000) (B := 1000000) (by omega) (by omega)
  obtain ⟨s0, -, -, -, s4, s5, s6, s7, s8, s9⟩ := id hs
  rw [s0, s7, s9, mul64]
  unfold fSquare at hq
  refine i_lt32 (by omega) (by omega) (fun k1 => ?_) (fun k1 => ?_)
  · rw [if_pos k1] at hq
    refine c_25 (Or.inl rfl) (by omega) (by omega) (fun L2 hf2 hv => kcp_v rfl (s_50_17 (kcp_v rfl (s_143_22 ?_))))
    rw [hv.1, hv.2]
    refine i_eqz hlo (fun k0 => kcp_v rfl (s_387_10 (i_inb0 (by decide) (hq.mk (c := 0) hf1 (by omega) rfl (fun _ => ?_))))) (fun k0 => kcp_v rfl (s_387_10 (i_inb0 (by decide) (hq.mk (c := 0) hf1 (by omega) rfl (fun _ => ?_)))))
    · rw [o70, told, if_pos k0]
    · rw [o70, told, if_neg k0]
  · rw [if_neg (by omega)] at hq
    exact kcp_h rfl (hq.mk (c := 2) hf1 (by omega) rfl (fun z => by cases z))
set_option maxHeartbeats 4000000 in
theorem h_388 {ch : Ch} (hok : ChOk ch) (hc : ChAt I 5 ch) {m al k : Int} (hm : R32 m) (hal : al = 0 ∨ al = 1) (hk : R32 k) (h : CQ Lx I e Q (spP ch m (fSign k al)).1 (spP ch m (fSign k al)).2) :
    Wp 388 0 [(0, .ref 1), (1, .int (Int32.ofInt m)), (2, .int (Int32.ofInt al)), (3, .int (Int32.ofInt k)), (4, .ref 70)] [] (gE Lx) I L e Q := by
  refine s_388_0 ?_
  rw [hc.2.2.2.1]
  refine mk_pre hm hok.2.2.2.1 (fun hb => (spP_1 h hb).mk (c := 1) FrI.rf (by omega) rfl (fun z => by cases z)) (fun j hj hjn => ?_)
  subst hj
  refine fs hok hc hjn hal (fun hfi I1 L1 hf1 ho hs => kcp_v rfl (s_144_6 ?_)) (fun hfi L1 => kcp_x rfl (kcp_h rfl ((spP_2 h hjn hfi).mk (c := 2) FrI.rf (by omega) rfl (fun z => by cases z))))
  have hq := spP_0 h hjn hfi
  have hr := pM_r (pt (wSeen ch j))
  have hn := nsg_r k al (pt (wSeen ch j))
  rw [hs.1]
  unfold fSign at hq
  refine i_ltz hk (fun k1 => ?_) (fun k1 => i_lt32 hk (by omega) (fun k2 => ?_) (fun k2 => ?_))
  · rw [if_neg (by omega)] at hq
    exact kcp_h rfl (hq.mk (c := 2) hf1 (by omega) rfl (fun z => by cases z))
  · rw [if_pos (by omega)] at hq
    exact c_49 hal hk hs (kcp_v rfl (s_144_19 (kcp_v rfl (s_388_10 (i_inb0 (by decide) (hq.mk (c := 0) hf1 (by omega) rfl (fun _ => by rw [o70]; exact i2l (by omega))))))))
  · rw [if_neg (by omega)] at hq
    exact kcp_h rfl (hq.mk (c := 2) hf1 (by omega) rfl (fun z => by cases z))
end
