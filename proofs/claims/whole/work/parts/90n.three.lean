/-! three, ofThree: what is seen behind the first stub and a line, on both sides. -/
def thS (al u v : Int) (z : Pt) : Wv := if al = 0 then wAc u v (wZ z) else wAl u v (wZ z)
def thW (al x y u v : Int) (z : Pt) : Wv := wLine x y (thS al u v z)
def uvP (u v : Int) : Prop := (-99 ≤ u ∧ u ≤ 99) ∧ (1 ≤ v ∧ v ≤ 20)
theorem thS_g {al u v : Int} {z : Pt} (ho : PtOk z) (h : uvP u v) : Good (thS al u v z) ∧ WB 119000 (thS al u v z) := by
  obtain ⟨h1, h2⟩ := h
  have hg := wZ_g ho
  have hB := wZ_B ho
  unfold thS
  split
  · exact ⟨hg.ac (fun q => by omega), (hB.ac (P := 99) (Q := 20) h1 (by omega) (by omega)).le (by decide)⟩
  · exact ⟨hg.al (fun q => by omega), (hB.al (P := 99) (Q := 20) h1 (by omega) (by omega)).le (by decide)⟩
theorem thW_g {al x y u v : Int} {z : Pt} (ho : PtOk z) (h : uvP u v) (hx : -12 ≤ x ∧ x ≤ 12) (hy : -12 ≤ y ∧ y ≤ 12) (hx0 : x ≠ 0) : Good (thW al x y u v z) ∧ WB 32845824 (thW al x y u v z) := by
  obtain ⟨g, b⟩ := thS_g (al := al) ho h
  exact ⟨g.line (fun q => hx0 q.1), (b.line hx hy).le (by decide)⟩
theorem thS_0 {u v : Int} {z : Pt} (h : ¬ (z.1 = 0 ∧ z.2.1 = 0)) : thS 0 u v z = (v * z.1, v * z.2.1, v * z.2.2 - u * z.2.1, 0 + u * z.1) := by
  have h : ¬ ((wZ z).1 = 0 ∧ (wZ z).2.1 = 0) := h
  unfold thS wAc
  rw [if_pos rfl, if_neg h]
  unfold wZ
  simp only [Int.mul_zero]
theorem thS_1 {al u v : Int} {z : Pt} (ho : PtOk z) (h : al ≠ 0) : thS al u v z = (v * z.1 - 0, v * z.2.1 + u * z.2.2, v * z.2.2, 0) := by
  have o3 := ho.2.2
  unfold thS wAl
  rw [if_neg h, if_neg (fun q => by have : z.2.2 = 0 := q.1; omega)]
  unfold wZ
  simp only [Int.mul_zero]
section
variable {Lx : Nat} {I : Mi} {L : Ml} {e : Nat} {Q : Kq}
set_option maxHeartbeats 4000000 in
theorem c_186 {ch : Ch} (hok : ChOk ch) (hc : ChAt I 5 ch) {j : Nat} (hj : j ≤ ch.2.2.2.1) {al x y u v : Int} (hal : al = 0 ∨ al = 1) (hx : -12 ≤ x ∧ x ≤ 12) (hy : -12 ≤ y ∧ y ≤ 12) (hx0 : x ≠ 0) (huv : uvP u v)
    (h1 : gdP al (wSeen ch j) → gdP al (thW al x y u v (pt (wSeen ch j))) → ∀ I' L', FrI [(20, 0, 0)] I I' → PrAt I' L' al x y (pt (thW al x y u v (pt (wSeen ch j)))) → Q (.inl none) (gE Lx) I' L' e)
    (h0 : ¬ (gdP al (wSeen ch j) ∧ gdP al (thW al x y u v (pt (wSeen ch j)))) → ∀ L', Q (.inr 102) (gE Lx) I L' (e + 1)) :
    Wp 136 0 [(0, .ref 1), (1, .int (Int32.ofInt j))] [] (gE Lx) I L e (kcp (Wp 148) 148 2 0 [(0, .ref 1), (2, .int (Int32.ofInt al))] 71 [] (kcp (Wp 186) 186 3 0 [(0, .ref 1), (2, .int (Int32.ofInt al)), (3, .int (Int32.ofInt x)), (4, .int (Int32.ofInt y)), (5, .int (Int32.ofInt u)), (6, .int (Int32.ofInt v))] 71 [] Q)) := by
  obtain ⟨hu, hv⟩ := id huv
  refine c_148 hok hc hj (show R32 al by omega) (fun hfi hnn L1 hf1 hp => kcp_v rfl (s_186_6 ?_)) (fun hn L1 hf1 => kcp_x rfl (h0 (fun q => hn q.1) L1))
  have ho := hfi.ok (wSeen_g hok j hj)
  have hgd : gdP al (wSeen ch j) := ⟨hfi, hnn⟩
  have h1 := h1 hgd
  have h0 : ¬ gdP al (thW al x y u v (pt (wSeen ch j))) → ∀ L', Q (.inr 102) (gE Lx) I L' (e + 1) := fun q => h0 (fun w => q w.2)
  generalize pt (wSeen ch j) = z at *
  obtain ⟨g1, b1⟩ := thW_g (al := al) ho huv hx hy hx0
  obtain ⟨p0, p1, p2⟩ := hp
  obtain ⟨o1, o2, o3⟩ := id ho
  have go : ∀ L2 : Ml, WvAt L2 14 (thS al u v z) → Wp 76 0 [(0, .ref 14), (1, .long (Int64.ofInt x)), (3, .long (Int64.ofInt y))] [] (gE Lx) I L2 e (kcp (Wp 186) 186 37 0 [(0, .ref 1), (2, .int (Int32.ofInt al)), (3, .int (Int32.ofInt x)), (4, .int (Int32.ofInt y))] 71 [] Q) := by
    intro L2 hW2
    refine c_76 (Or.inl rfl) hW2 (fun L3 hf3 hW3 => kcp_v rfl (s_186_40 ?_))
    have hW3 : WvAt L3 14 (thW al x y u v z) := hW3
    generalize thW al x y u v z = w at *
    obtain ⟨w0, w1, w2, w3⟩ := hW3
    obtain ⟨v1, v2, v3, v4, v5, v6⟩ := wv_b b1
    have v7 := wLo_nn w
    simp only [w0, w1, w2, w3, mul64, add64, sub64]
    refine c_53 (a := wRe w) (b := wIm w) (d := wLo w) (by omega) (by omega) (by omega) (fun k1 k2 L4 hf4 hp4 => kcp_v rfl (s_52_16 (b_1 (kcp_v rfl (s_186_51 (j_1 ?_)))))) (fun k L4 hf4 => kcp_v rfl (s_52_16 (b_0 (kcp_v rfl (s_186_51 (j_0 (h0 (fun z => by rcases k with k | k; exact z.1.1 k; exact k z.1.2) L4)))))))
    have hfi2 : fine w := ⟨k1, k2⟩
    have ho2 := hfi2.ok g1
    have hp4 : PtAt L4 (pt w) := hp4
    have fin : ¬ (al = 0 ∧ (pt w).1 = 0 ∧ (pt w).2.1 = 0) → Wp 34 0 [(0, .ref 20), (1, .ref 17), (2, .int (Int32.ofInt al)), (3, .int (Int32.ofInt x)), (4, .int (Int32.ofInt y))] [] (gE Lx) I L4 e (kcp (Wp 186) 186 79 0 [(0, .ref 1)] 71 [] Q) := fun q =>
      c_34 hal hx hy ho2 hp4 (fun I5 L5 hfi5 hfl5 hs => kcp_v rfl (s_186_82 (h1 ⟨hfi2, q⟩ I5 L5 hfi5 hs)))
    have n0 : (al = 0 ∧ (pt w).1 = 0 ∧ (pt w).2.1 = 0) → Q (.inr 102) (gE Lx) I L4 (e + 1) := fun q => h0 (fun w => w.2 q) L4
    obtain ⟨a1, a2, a3⟩ := ho2
    rw [hp4.1, hp4.2.1]
    exact i_eqz (by omega) (fun k => i_eq64 (by omega) (by omega) (fun k3 => i_eq64 (by omega) (by omega) (fun k4 => n0 ⟨k, k3, k4⟩) (fun k4 => fin (fun q => k4 q.2.2))) (fun k3 => fin (fun q => k3 q.2.1))) (fun k => fin (fun q => k q.1))
  rw [p0, p1, p2, i2l (by omega), i2l (by omega), i2l (by omega), i2l (by omega)]
  simp only [mul64, add64, sub64]
  rcases hal with rfl | rfl
  · have hz : ¬ (z.1 = 0 ∧ z.2.1 = 0) := fun q => hnn ⟨rfl, q⟩
    have eS := thS_0 (u := u) (v := v) hz
    rw [eS] at go
    exact j_0 (i_eq64 (by omega) (by omega) (fun k => i_eq64 (by omega) (by omega) (fun k2 => absurd ⟨k, k2⟩ hz) (fun k2 => go _ ⟨rfl, rfl, rfl, rfl⟩)) (fun k => go _ ⟨rfl, rfl, rfl, rfl⟩))
  · have eS := thS_1 (al := 1) (u := u) (v := v) ho (by decide)
    rw [eS] at go
    exact j_1 (i_eq64 (by omega) (by omega) (fun k => by omega) (fun k => go _ ⟨rfl, rfl, rfl, rfl⟩))
set_option maxHeartbeats 4000000 in
theorem n_289 {ch : Ch} (hok : ChOk ch) (hc : BnAt I 59 0 ch) {j : Nat} (hj : j ≤ ch.2.2.2.1) {al x y u v : Int} (hal : al = 0 ∨ al = 1) (hx : R32 x) (hy : R32 y) (hu : R32 u) (hv : R32 v)
    (h2 : ¬ (isT x y ∧ x ≠ 0 ∧ uvP u v) → Q (.inl (some (.int (Int32.ofInt 2)))) (gE Lx) I L e)
    (h3 : isT x y → x ≠ 0 → uvP u v → ¬ (gdP al (wSeen ch j) ∧ gdP al (thW al x y u v (pt (wSeen ch j)))) → ∀ L', L' 70 = L 70 → Q (.inl (some (.int (Int32.ofInt 3)))) (gE Lx) I L' e)
    (h0 : isT x y → x ≠ 0 → uvP u v → gdP al (wSeen ch j) → gdP al (thW al x y u v (pt (wSeen ch j))) → ∀ L', L' 70 = L 70 → RpAt L' (pt (thW al x y u v (pt (wSeen ch j)))) → Q (.inl (some (.int (Int32.ofInt 0)))) (gE Lx) I L' e) :
    Wp 207 0 [(0, .int (Int32.ofInt x)), (1, .int (Int32.ofInt y))] [] (gE Lx) I L e (kcp (Wp 280) 280 2 0 [(0, .int (Int32.ofInt x))] 71 [] (kcp (Wp 289) 289 15 0 [(0, .ref 58), (1, .int (Int32.ofInt j)), (2, .int (Int32.ofInt al)), (3, .int (Int32.ofInt x)), (4, .int (Int32.ofInt y)), (5, .int (Int32.ofInt u)), (6, .int (Int32.ofInt v))] 71 [] Q)) := by
  refine c_207 hx hy (fun ht => kcp_v rfl (s_280_5 (j_1 (i_eqz hx (fun k0 => kcp_v rfl (s_289_18 (j_0 (h2 (fun q => q.2.1 k0))))) (fun k0 => kcp_v rfl (s_289_18 (j_1 ?_))))))) (fun ht => kcp_v rfl (s_280_5 (j_0 (kcp_v rfl (s_289_18 (j_0 (h2 (fun q => ht q.1))))))))
  have tb := ht.b
  have nuv : ¬ uvP u v → Q (.inl (some (.int (Int32.ofInt 2)))) (gE Lx) I L e := fun q => h2 (fun w => q w.2.2)
  unfold uvP at nuv
  refine i_lt32 hu (by omega) (fun k => nuv (by omega)) (fun k1 => i_lt32 (by omega) hu (fun k => nuv (by omega)) (fun k2 => i_lt32 hv (by omega) (fun k => nuv (by omega)) (fun k3 => i_lt32 (by omega) hv (fun k => nuv (by omega)) (fun k4 => ?_))))
  have huv : uvP u v := ⟨⟨k1, k2⟩, ⟨k3, k4⟩⟩
  have h3 := h3 ht k0 huv
  have h0 := h0 ht k0 huv
  refine c_274 hok hc hj (show R32 al by omega) (fun hfi hnn L1 hf1 hp => kcp_v rfl (s_289_54 (j_1 ?_))) (fun hn L1 hf1 => kcp_v rfl (s_289_54 (j_0 (h3 (fun q => hn q.1) L1 (hf1.at rfl)))))
  have ho := hfi.ok (wSeen_g hok j hj)
  have hgd : gdP al (wSeen ch j) := ⟨hfi, hnn⟩
  have h0 := h0 hgd
  have h3 : ¬ gdP al (thW al x y u v (pt (wSeen ch j))) → ∀ L', L' 70 = L 70 → Q (.inl (some (.int (Int32.ofInt 3)))) (gE Lx) I L' e := fun q => h3 (fun w => q w.2)
  have hl1 : L1 70 = L 70 := hf1.at rfl
  generalize pt (wSeen ch j) = z at *
  have hZg := wZ_g ho
  obtain ⟨gS, bS⟩ := thS_g (al := al) ho huv
  have nuv0 : ¬ (u = 0 ∧ v = 0) := fun q => by omega
  refine n_276 ho hp (fun L2 r hf2 hr hs hB => kcp_v rfl (s_289_76 ?_))
  have hl2 : L2 70 = L 70 := (hf2.at rfl).trans hl1
  obtain ⟨w0, w1, w2, w3⟩ := hr
  rw [w0, w1, w2, w3, i2l (by omega), i2l (by omega)]
  simp only [mul64, add64, sub64]
  have go : ∀ (L3 : Ml) (q : Wv), L3 70 = L 70 → RvAt L3 q → Sc (thS al u v z) q → WB 119000 q → Wp 289 87 [(0, .ref 58), (2, .int (Int32.ofInt al)), (3, .int (Int32.ofInt x)), (4, .int (Int32.ofInt y))] [] (gE Lx) I L3 e Q := by
    intro L3 q hl3 hr3 hs3 hB3
    refine s_289_87 ?_
    rw [i2l (by omega), i2l (by omega)]
    refine c_229 (P := 12) (B := 119000) (s := 0) hr3 hB3 (by omega) tb.1 tb.2 (by omega) (by omega) (by omega) (by omega) (gS.sc hs3) (fun q => absurd q k0) (fun L4 r4 hf4 hr4 hs4 hB4 => kcp_v rfl (s_289_97 ?_))
    have hs5 : Sc (thW al x y u v z) r4 := (hs3.line x y).tr hs4
    obtain ⟨gW, bW⟩ := thW_g (al := al) ho huv tb.1 tb.2 k0
    have hl4 : L4 70 = L 70 := (hf4.at rfl).trans hl3
    refine c_252 hr4 (hB4.le (by decide)) (gW.sc hs5) (fun hf5 L5 hff5 hp5 => kcp_v rfl (s_289_101 (j_1 ?_))) (fun hf5 L5 hff5 => kcp_v rfl (s_289_101 (j_0 (h3 (fun w => hf5 (hs5.fn.mp w.1)) L5 ((hff5.at rfl).trans hl4)))))
    have hfiW := hs5.fn.mpr hf5
    have hoW := hfiW.ok gW
    rw [← hs5.ptq] at hp5
    have hl5 : L5 70 = L 70 := (hff5.at rfl).trans hl4
    have good : ¬ (al = 0 ∧ (pt (thW al x y u v z)).1 = 0 ∧ (pt (thW al x y u v z)).2.1 = 0) → Q (.inl (some (.int (Int32.ofInt 0)))) (gE Lx) I L5 e := fun w => h0 ⟨hfiW, w⟩ L5 hl5 hp5
    have bad : (al = 0 ∧ (pt (thW al x y u v z)).1 = 0 ∧ (pt (thW al x y u v z)).2.1 = 0) → Q (.inl (some (.int (Int32.ofInt 3)))) (gE Lx) I L5 e := fun w => h3 (fun w2 => w2.2 w) L5 hl5
    rw [hp5.1, hp5.2.1]
    obtain ⟨a1, a2, a3⟩ := hoW
    exact i_eqz (by omega) (fun k => i_eq64 (by omega) (by omega) (fun k3 => i_eq64 (by omega) (by omega) (fun k4 => bad ⟨k, k3, k4⟩) (fun k4 => good (fun q => k4 q.2.2))) (fun k3 => good (fun q => k3 q.2.1))) (fun k => good (fun q => k q.1))
  rcases hal with rfl | rfl
  · have hz : ¬ (z.1 = 0 ∧ z.2.1 = 0) := fun q => hnn ⟨rfl, q⟩
    have hzr : ¬ (r.1 = 0 ∧ r.2.1 = 0) := fun q => hz (by
      have := hs.up.mpr (wUp_z.mpr q)
      exact wUp_z.mp this)
    have eT : wAc u v r = tAc u v r := by unfold wAc; rw [if_neg hzr]; rfl
    have hS : Sc (thS 0 u v z) (tAc u v r) := by rw [← eT]; exact hs.ac u v
    have bT : WB 119000 (tAc u v r) := by rw [← eT]; exact (hB.ac (P := 99) (Q := 20) ⟨k1, k2⟩ (by omega) (by omega)).le (by decide)
    have gT := gS.sc hS
    exact j_0 (c_228 (x := tAc u v r) (bT.le (by decide)) gT.2 (fun L3 hf3 hr3 => kcp_v rfl (s_290_99 (kcp_v rfl (go L3 _ ((hf3.at rfl).trans hl2) hr3 (hS.tr (nW_sc gT.2)) (nW_B gT.2 bT))))))
  · have o3 := ho.2.2
    have hzr : ¬ (r.2.2.1 = 0 ∧ r.2.2.2 = 0) := fun q => by
      have := wLo_z.mp (hs.lo.mpr (wLo_z.mpr q))
      have h7 : z.2.2 = 0 := this.1
      omega
    have eT : wAl u v r = tAl u v r := by unfold wAl; rw [if_neg hzr]; rfl
    have hS : Sc (thS 1 u v z) (tAl u v r) := by rw [← eT]; exact hs.al u v
    have bT : WB 119000 (tAl u v r) := by rw [← eT]; exact (hB.al (P := 99) (Q := 20) ⟨k1, k2⟩ (by omega) (by omega)).le (by decide)
    have gT := gS.sc hS
    exact j_1 (c_228 (x := tAl u v r) (bT.le (by decide)) gT.2 (fun L3 hf3 hr3 => kcp_v rfl (s_290_62 (s_290_99 (kcp_v rfl (go L3 _ ((hf3.at rfl).trans hl2) hr3 (hS.tr (nW_sc gT.2)) (nW_B gT.2 bT)))))))
end
