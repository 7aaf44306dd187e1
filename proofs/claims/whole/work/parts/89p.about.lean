/-! about. -/
/-- the floor of the root, taken with a sign -/
noncomputable def frt (s v : Int) : Int := if 0 < s then rt v else if rt v * rt v = v then -rt v else -rt v - 1
noncomputable def abV (k al : Int) (z : Pt) : Int := if pL al z = 0 then (if 0 < pH z * side k al z then 1000000000 else fl (1000 * pR al z) (2 * pH z)) else fl (sg (pL al z) * (1000 * pH z) + frt (sg (pL al z) * side k al z) (1000000 * pU z)) (sg (pL al z) * pL al z)
noncomputable def fAbout (k al : Int) (z : Pt) : Nat × Int := if 0 ≤ k ∧ k < pM z then (0, abV k al z) else (2, 0)
theorem frt_b {s v : Int} (h : 0 ≤ v) (h2 : v ≤ 2000000000000000000) : -1500000001 ≤ frt s v ∧ frt s v ≤ 1500000000 := by
  have q1 := rt_sp h
  have q2 : rt v < 1500000000 := q1.b (by omega) (by omega)
  have q0 := q1.1
  unfold frt
  split
  · omega
  · split <;> omega
section
variable {Lx : Nat} {I : Mi} {L : Ml} {e : Nat} {Q : Kq}
set_option maxHeartbeats 8000000 in
/-- the class' about, from the side on -/
theorem c_46 {al k : Int} (hk : R32 k) {z : Pt} (ho : PtOk z) (hm : 0 < pM z) (hs : SpAt I L al z) (h : Q (.inl (some (.long (Int64.ofInt (abV k al z))))) (gE Lx) I L e) :
    Wp 45 0 [(0, .ref 19), (1, .int (Int32.ofInt k))] [] (gE Lx) I L e (kcp (Wp 46) 46 2 0 [(0, .ref 19)] 71 [] Q) := by
  obtain ⟨p1, p2, p3, p4, p5, p6⟩ := pt_b ho al
  obtain ⟨-, -, -, -, s4, s5, s6, s7, s8, s9⟩ := id hs
  have hr := side_r k al z
  have mh := mul_sg hr p1
  have ez := pU_eq al z
  have hp := (pM_n ho hm).2.2
  have hz0 : pL al z = 0 → pH z ≠ 0 := fun a b => by rw [a, b] at ez; omega
  have hv : 0 ≤ 1000000 * pU z ∧ 1000000 * pU z ≤ 2000000000000000000 := by omega
  refine c_45 hk hs (kcp_v rfl (s_46_5 ?_))
  rw [s4, s5, s6, s7]
  unfold abV at h
  have hb : -2000000000 ≤ pH z * side k al z ∧ pH z * side k al z ≤ 2000000000 := by rcases hr with q | q <;> rw [q] <;> omega
  have hg : pL al z ≠ 0 → ∀ g : Int, (g = 1 ∨ g = -1) → g = sg (pL al z) → Wp 32 0 [(0, .long (Int64.ofInt (1000000 * pU z)))] [] (gE Lx) I L e (kcp (Wp 47) 47 10 0 [(0, .ref 19), (1, .int (Int32.ofInt (side k al z * g))), (2, .long (Int64.ofInt (1000000 * pU z)))] 71 [] (kcp (Wp 46) 46 90 0 [(0, .ref 19), (3, .int (Int32.ofInt g))] 71 [.long (Int64.ofInt (g * 1000 * pH z))] Q)) := by
    intro hl g hg1 hg2
    rw [if_neg hl, ← hg2] at h
    refine c_32 (by omega) (fun r hr2 => kcp_v rfl (s_47_13 ?_))
    have hrb : r < 1500000000 := hr2.b (by omega) (by omega)
    have hr0 := hr2.1
    have m := mulB (x := r) (y := r) (A := 1500000000) (B := 1500000000) (by omega) (by omega)
    have hre := rt_eq hr2
    have go : ∀ f : Int, f = frt (g * side k al z) (1000000 * pU z) → -1500000001 ≤ f ∧ f ≤ 1500000000 → kcp (Wp 46) 46 90 0 [(0, .ref 19), (3, .int (Int32.ofInt g))] 71 [.long (Int64.ofInt (g * 1000 * pH z))] Q (.inl (some (.long (Int64.ofInt f)))) (gE Lx) I L e := by
      intro f hf hfb
      rw [← hf] at h
      refine kcp_v rfl (s_46_93 ?_)
      rw [s4, i2l (by omega), add64]
      have e1 : g * 1000 * pH z = g * (1000 * pH z) := by grind
      rw [e1, mul64]
      have b1 : -1000000000 ≤ g * (1000 * pH z) ∧ g * (1000 * pH z) ≤ 1000000000 := by rcases hg1 with q | q <;> rw [q] <;> omega
      have b2 : -2000000 ≤ g * pL al z ∧ g * pL al z ≤ 2000000 ∧ g * pL al z ≠ 0 := by rcases hg1 with q | q <;> rw [q] <;> omega
      exact n_fl (by omega) (by omega) b2.2.2 h
    rw [mul64, neg64, sub64]
    have sb : -1 ≤ side k al z * g ∧ side k al z * g ≤ 1 := by rcases hg1 with q | q <;> rcases hr with u | u <;> rw [q, u] <;> omega
    have sc : g * side k al z = side k al z * g := Int.mul_comm _ _
    refine i_zlt (by omega) (fun k1 => go _ ?_ (by omega)) (fun k1 => i_eq64 (by omega) (by omega) (fun k2 => go _ ?_ (by omega)) (fun k2 => go _ ?_ (by omega)))
    · rw [frt, if_pos (by omega), hre]
    · rw [frt, if_neg (by omega), hre, if_pos k2]
    · rw [frt, if_neg (by omega), hre, if_neg k2]
  have r1 : (Int32.ofInt (side k al z) * Int32.ofInt 1) = Int32.ofInt (side k al z * 1) := mul32
  have r2 : (Int32.ofInt (side k al z) * Int32.ofInt (-1)) = Int32.ofInt (side k al z * -1) := mul32
  have bot : ∀ P : Prop, (pL al z = 0 → ¬ 0 < pH z * side k al z → P) → P → P := fun _ _ p => p
  rw [i2l (by omega)]
  simp only [mul64, r1, r2]
  refine i_eq64 (by omega) (by omega) (fun k0 => i_lt64 (by omega) (by omega) (fun k1 => ?_) (fun k1 => i_eq64 (by omega) (by omega) (fun _ => i_eq64 (by omega) (by omega) (fun k3 => absurd k3 (hz0 k0)) (fun k3 => ?_)) (fun q => absurd k0 q))) (fun k0 => i_eq64 (by omega) (by omega) (fun q => absurd q k0) (fun _ => i_lt64 (by omega) (by omega) (fun k1 => ?_) (fun k1 => ?_)))
  · rw [if_pos k0, if_pos k1] at h; exact h
  · rw [if_pos k0, if_neg (by omega)] at h
    have := n_fl (a := 1000 * pR al z) (b := 2 * pH z) (by omega) (by omega) (by omega) h
    exact this
  · have := hg k0 1 (Or.inl rfl) (sg_p k1).symm
    exact this
  · have := hg k0 (-1) (Or.inr rfl) (sg_n (by omega)).symm
    exact this
set_option maxHeartbeats 4000000 in
theorem h_385 {ch : Ch} (hok : ChOk ch) (hc : ChAt I 5 ch) {m al k : Int} (hm : R32 m) (hal : al = 0 ∨ al = 1) (hk : R32 k) (h : CQ Lx I e Q (spP ch m (fAbout k al)).1 (spP ch m (fAbout k al)).2) :
    Wp 385 0 [(0, .ref 1), (1, .int (Int32.ofInt m)), (2, .int (Int32.ofInt al)), (3, .int (Int32.ofInt k)), (4, .ref 70)] [] (gE Lx) I L e Q := by
  refine s_385_0 ?_
  rw [hc.2.2.2.1]
  refine mk_pre hm hok.2.2.2.1 (fun hb => (spP_1 h hb).mk (c := 1) FrI.rf (by omega) rfl (fun z => by cases z)) (fun j hj hjn => ?_)
  subst hj
  refine fs hok hc hjn hal (fun hfi I1 L1 hf1 ho hs => kcp_v rfl (s_141_6 ?_)) (fun hfi L1 => kcp_x rfl (kcp_h rfl ((spP_2 h hjn hfi).mk (c := 2) FrI.rf (by omega) rfl (fun z => by cases z))))
  have hq := spP_0 h hjn hfi
  have hr := pM_r (pt (wSeen ch j))
  rw [hs.1]
  unfold fAbout at hq
  refine i_ltz hk (fun k1 => ?_) (fun k1 => i_lt32 hk (by omega) (fun k2 => ?_) (fun k2 => ?_))
  · rw [if_neg (by omega)] at hq
    exact kcp_h rfl (hq.mk (c := 2) hf1 (by omega) rfl (fun z => by cases z))
  · rw [if_pos (by omega)] at hq
    exact c_46 hk ho (by omega) hs (kcp_v rfl (s_141_19 (kcp_v rfl (s_385_10 (i_inb0 (by decide) (hq.mk (c := 0) hf1 (by omega) rfl (fun _ => o70)))))))
  · rw [if_neg (by omega)] at hq
    exact kcp_h rfl (hq.mk (c := 2) hf1 (by omega) rfl (fun z => by cases z))
/-- what both sides tell, from above and below, the sign and the square -/
noncomputable def abG (h l r u s : Int) : Int := if l = 0 then (if 0 < h * s then 1000000000 else fl (1000 * r) (2 * h)) else fl (sg l * (1000 * h) + frt (sg l * s) (1000000 * u)) (sg l * l)
theorem abG_eq {k al : Int} {z : Pt} (h0 : pL al z = 0 → pH z ≠ 0) : abG (sgA al (pH z)) (sgA al (pL al z)) (sgA al (pR al z)) (pU z) (nsg k al z) = abV k al z := by
  unfold abG abV sgA nsg
  by_cases ha : al = 0
  · simp only [if_pos ha]
    by_cases hl : pL al z = 0
    · have hh := h0 hl
      rw [if_pos (by omega), if_pos hl, Int.neg_mul_neg, Int.mul_neg, Int.mul_neg, fl_neg _ _ (by omega)]
    · rw [if_neg (by omega), if_neg hl, sg_neg, Int.neg_mul_neg, Int.neg_mul_neg, Int.mul_neg, Int.neg_mul_neg]
  · simp only [if_neg ha]
set_option maxHeartbeats 8000000 in
theorem n_266 {h l r u s : Int} (hs : s = 1 ∨ s = -1) (hh : -1000000 ≤ h ∧ h ≤ 1000000) (hl : -4000000 ≤ l ∧ l ≤ 4000000) (hr : -4000000 ≤ r ∧ r ≤ 4000000) (hu : 0 ≤ u ∧ u ≤ 2000000000000) (hh0 : l = 0 → h ≠ 0) (h17 : L 58 17 = .ofInt h) (h18 : L 58 18 = .ofInt u) (h19 : L 58 19 = .ofInt l) (h20 : L 58 20 = .ofInt r) (hq : Q (.inl (some (.long (Int64.ofInt (abG h l r u s))))) (gE Lx) I L e) :
    Wp 266 25 [(0, .ref 58)] [.int (Int32.ofInt s)] (gE Lx) I L e Q := by
  unfold abG at hq
  refine s_266_25 ?_
  have n2 : (Int32.ofInt s).neg = Int32.ofInt (-s) := neg32
  have n3 : (-Int32.ofInt s) = Int32.ofInt (-s) := neg32
  rw [h17, h18, h19, h20]
  simp only [mul64, n3]
  have root : l ≠ 0 → ∀ g : Int, (g = 1 ∨ g = -1) → g = sg l → ∀ x5 y6 : Int, x5 = g * s → y6 = g * (1000 * h) → Wp 243 0 [(0, .long (Int64.ofInt (1000000 * u)))] [] (gE Lx) I L e (kcp (Wp 266) 266 130 0 [(0, .ref 58), (5, .int (Int32.ofInt x5)), (6, .long (Int64.ofInt y6)), (8, .long (Int64.ofInt (1000000 * u)))] 71 [] Q) := by
    intro hl0 g hg1 hg2 x5 y6 hx hy
    rw [if_neg hl0, ← hg2, ← hx, ← hy] at hq
    have xb : x5 = 1 ∨ x5 = -1 := by rcases hg1 with q | q <;> rcases hs with v | v <;> rw [hx, q, v] <;> omega
    have yb : -1000000000 ≤ y6 ∧ y6 ≤ 1000000000 := by rcases hg1 with q | q <;> rw [hy, q] <;> omega
    refine c_243 (by omega) (fun r hr2 => kcp_v rfl (s_266_133 ?_))
    have hrb : r < 1500000000 := hr2.b (by omega) (by omega)
    have hr0 := hr2.1
    have m := mulB (x := r) (y := r) (A := 1500000000) (B := 1500000000) (by omega) (by omega)
    have hre := rt_eq hr2
    have go : ∀ w : Int, w = y6 + frt x5 (1000000 * u) → -4000000000 ≤ w ∧ w ≤ 4000000000 → Wp 210 0 [(0, .long (L 58 19))] [] (gE Lx) I L e (kcp (Wp 266) 266 186 0 [(0, .ref 58)] 71 [.long (Int64.ofInt w)] Q) := by
      intro w hw hwb
      rw [h19]
      refine c_210 (by omega) (fun x hx0 hx1 => kcp_v rfl (s_266_189 ?_))
      have e1 : x = g * l := by
        rcases hg1 with q | q
        · rw [q]; rcases Int.lt_trichotomy l 0 with k | k | k
          · rw [sg_n k] at hg2; omega
          · omega
          · omega
        · rw [q]; rcases Int.lt_trichotomy l 0 with k | k | k
          · omega
          · omega
          · rw [sg_p k] at hg2; omega
      rw [← e1, ← hw] at hq
      exact n_rf (by omega) (by omega) (by omega) hq
    simp only [mul64, neg64, sub64, add64]
    refine i_eq64 (by omega) (by omega) (fun k1 => i_zlt (by omega) (fun k2 => go _ ?_ (by omega)) (fun k2 => go _ ?_ (by omega))) (fun k1 => i_zlt (by omega) (fun k2 => go _ ?_ (by omega)) (fun k2 => go _ ?_ (by omega)))
    · rw [frt, if_pos k2, hre]
    · rw [frt, if_neg (by omega), hre, if_pos k1]
    · rw [frt, if_pos k2, hre]
    · rw [frt, if_neg (by omega), hre, if_neg k1]
  have bot : l = 0 → ¬ 0 < h * s → if Int64.ofInt (2 * h) = 0 then False else if Int64.ofInt (2 * h) = 0 then False else if (Int64.ofInt (1000 * r) - Int64.ofInt (1000 * r) / Int64.ofInt (2 * h) * Int64.ofInt (2 * h)) = Int64.ofInt 0 then Q (.inl (some (.long (Int64.ofInt (1000 * r) / Int64.ofInt (2 * h))))) (gE Lx) I L e else
      if Int64.ofInt (1000 * r) < Int64.ofInt 0 then (if Int64.ofInt (2 * h) < Int64.ofInt 0 then Q (.inl (some (.long (Int64.ofInt (1000 * r) / Int64.ofInt (2 * h))))) (gE Lx) I L e else Q (.inl (some (.long (Int64.ofInt (1000 * r) / Int64.ofInt (2 * h) - Int64.ofInt 1)))) (gE Lx) I L e)
      else (if Int64.ofInt (2 * h) < Int64.ofInt 0 then Q (.inl (some (.long (Int64.ofInt (1000 * r) / Int64.ofInt (2 * h) - Int64.ofInt 1)))) (gE Lx) I L e else Q (.inl (some (.long (Int64.ofInt (1000 * r) / Int64.ofInt (2 * h))))) (gE Lx) I L e) := by
    intro hl0 hn
    have hz := hh0 hl0
    rw [if_pos hl0, if_neg hn] at hq
    exact n_rf (by omega) (by omega) (by omega) hq
  have top : l = 0 → 0 < h * s → Q (.inl (some (.long (Int64.ofInt 1000000000)))) (gE Lx) I L e := fun a b => by rw [if_pos a, if_pos b] at hq; exact hq
  have lo : l ≠ 0 → if Int64.ofInt l < Int64.ofInt 0 then (if Int64.ofInt l < Int64.ofInt 0 then Wp 243 0 [(0, .long (Int64.ofInt (1000000 * u)))] [] (gE Lx) I L e (kcp (Wp 266) 266 130 0 [(0, .ref 58), (5, .int (Int32.ofInt (-s))), (6, .long (Int64.ofInt (-1000 * h))), (8, .long (Int64.ofInt (1000000 * u)))] 71 [] Q) else Wp 243 0 [(0, .long (Int64.ofInt (1000000 * u)))] [] (gE Lx) I L e (kcp (Wp 266) 266 130 0 [(0, .ref 58), (5, .int (Int32.ofInt (-s))), (6, .long (Int64.ofInt (1000 * h))), (8, .long (Int64.ofInt (1000000 * u)))] 71 [] Q))
      else (if Int64.ofInt l < Int64.ofInt 0 then Wp 243 0 [(0, .long (Int64.ofInt (1000000 * u)))] [] (gE Lx) I L e (kcp (Wp 266) 266 130 0 [(0, .ref 58), (5, .int (Int32.ofInt s)), (6, .long (Int64.ofInt (-1000 * h))), (8, .long (Int64.ofInt (1000000 * u)))] 71 [] Q) else Wp 243 0 [(0, .long (Int64.ofInt (1000000 * u)))] [] (gE Lx) I L e (kcp (Wp 266) 266 130 0 [(0, .ref 58), (5, .int (Int32.ofInt s)), (6, .long (Int64.ofInt (1000 * h))), (8, .long (Int64.ofInt (1000000 * u)))] 71 [] Q)) := by
    intro hl0
    refine i_lt64 (by omega) (by omega) (fun k => i_lt64 (by omega) (by omega) (fun _ => ?_) (fun _ => by omega)) (fun k => i_lt64 (by omega) (by omega) (fun _ => by omega) (fun _ => ?_))
    · exact root hl0 (-1) (Or.inr rfl) (sg_n k).symm _ _ (by omega) (by omega)
    · exact root hl0 1 (Or.inl rfl) (sg_p (by omega)).symm _ _ (by omega) (by omega)
  have ps : 0 < s → 0 < h → 0 < h * s := fun a b => Int.mul_pos b a
  have pn : ¬ 0 < s → ¬ 0 < h → l = 0 → 0 < h * s := fun a b c => by have := hh0 c; exact Int.mul_pos_of_neg_of_neg (by omega) (by omega)
  have qs : 0 < s → ¬ 0 < h → ¬ 0 < h * s := fun a b => by rcases hs with q | q <;> rw [q] <;> omega
  have qn : ¬ 0 < s → 0 < h → ¬ 0 < h * s := fun a b => by rcases hs with q | q <;> rw [q] <;> omega
  refine i_eq64 (by omega) (by omega) (fun k0 => i_zlt (by omega) (fun k1 => i_lt64 (by omega) (by omega) (fun k2 => top k0 (ps k1 k2)) (fun k2 => i_eq64 (by omega) (by omega) (fun _ => bot k0 (qs k1 (by omega))) (fun q => absurd k0 q))) (fun k1 => i_lt64 (by omega) (by omega) (fun k2 => i_eq64 (by omega) (by omega) (fun _ => bot k0 (qn (by omega) k2)) (fun q => absurd k0 q)) (fun k2 => top k0 (pn (by omega) (by omega) k0)))) (fun k0 => i_eq64 (by omega) (by omega) (fun q => absurd q k0) (fun _ => lo k0))
set_option maxHeartbeats 4000000 in
theorem r_266 {ch : Ch} (hok : ChOk ch) (hc : BnAt I 59 0 ch) {m al k : Int} (hm : R32 m) (hal : al = 0 ∨ al = 1) (hk : R32 k) (h : RQ Lx I L e Q (spP ch m (fAbout k al)).1 vL (spP ch m (fAbout k al)).2) :
    Wp 266 0 [(0, .ref 58), (1, .int (Int32.ofInt m)), (2, .int (Int32.ofInt al)), (3, .int (Int32.ofInt k))] [] (gE Lx) I L e Q := by
  refine s_266_0 (c_256 hok hc hm hal hk (fun hb => kcp_v rfl (s_266_8 (i_zlt (by omega) (fun _ => ?_) (fun k => by omega)))) (fun j hj hjn hn L' hl => kcp_v rfl (s_266_8 (i_zlt (by omega) (fun _ => ?_) (fun k => by omega)))) (fun j hj hjn hfi k1 k2 L' hl ho hs => kcp_v rfl (s_266_8 (i_zlt (by omega) (fun k => by omega) (fun _ => ?_)))))
  · rw [spP_b hb] at h
    exact h.mk (v := 0) (FrI.wu FrI.rf rfl) rfl (c := 1) u_at rfl (fun z => by cases z)
  · subst hj
    have h2 := h.two hjn (fun hfi => by rw [fAbout, if_neg (fun z => hn ⟨hfi, z⟩)])
    exact h2.mk (v := 0) (FrI.wu FrI.rf rfl) hl (c := 2) u_at rfl (fun z => by cases z)
  · subst hj
    rw [spP_f hjn hfi, fAbout, if_pos ⟨k1, k2⟩] at h
    have hm2 : 0 < pM (pt (wSeen ch j)) := by omega
    generalize pt (wSeen ch j) = z at *
    obtain ⟨p1, p2, p3, p4, p5, p6⟩ := pt_b ho al
    have ez := pU_eq al z
    have hp := (pM_n ho hm2).2.2
    have hz0 : pL al z = 0 → pH z ≠ 0 := fun a b => by rw [a, b] at ez; omega
    have sA : ∀ x : Int, sgA al x = x ∨ sgA al x = -x := fun x => by unfold sgA; split <;> omega
    have x1 := sA (pH z); have x2 := sA (pL al z); have x3 := sA (pR al z)
    refine c_260 hal hk ho hm2 hs (kcp_v rfl ?_)
    have hr := nsg_r k al z
    exact n_266 hr (by omega) (by omega) (by omega) p4 (by omega) hs.1 hs.2.1 hs.2.2.1 hs.2.2.2.1 (by rw [abG_eq hz0]; exact h.mk (FrI.wu FrI.rf rfl) hl (c := 0) u_at rfl (fun _ => rfl))
end
