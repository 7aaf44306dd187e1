/-! What is seen as a and j b by d, on both sides. -/
abbrev Pt : Type := Int × Int × Int
def g3 (a b d : Int) : Int := gI (gI a b) d
def n3 (a b d : Int) : Pt := (a / g3 a b d, b / g3 a b d, d / g3 a b d)
def P3 (z : Pt) : Prop := z.1 ≤ 1000 ∧ (-1000 ≤ z.2.1 ∧ z.2.1 ≤ 1000) ∧ z.2.2 ≤ 1000
def pt (w : Wv) : Pt := n3 (wRe w) (wIm w) (wLo w)
def fine (w : Wv) : Prop := wLo w ≠ 0 ∧ P3 (pt w)
def PtOk (z : Pt) : Prop := (0 ≤ z.1 ∧ z.1 ≤ 1000) ∧ (-1000 ≤ z.2.1 ∧ z.2.1 ≤ 1000) ∧ (1 ≤ z.2.2 ∧ z.2.2 ≤ 1000)
theorem g3_pos {a b d : Int} (h : d ≠ 0) : 0 < g3 a b d := gI_pos (fun k => h k.2)
theorem g3_d (a b d : Int) : g3 a b d ∣ a ∧ g3 a b d ∣ b ∧ g3 a b d ∣ d := ⟨Int.dvd_trans (gI_dl ..) (gI_dl ..), Int.dvd_trans (gI_dl ..) (gI_dr ..), gI_dr ..⟩
theorem n3_mul {k a b d : Int} (hk : 0 < k) : n3 (k * a) (k * b) (k * d) = n3 a b d := by
  have e : g3 (k * a) (k * b) (k * d) = k * g3 a b d := by unfold g3; rw [gI_mul hk, gI_mul hk]
  unfold n3
  rw [e, Int.mul_ediv_mul_of_pos _ _ hk, Int.mul_ediv_mul_of_pos _ _ hk, Int.mul_ediv_mul_of_pos _ _ hk]
theorem Sc.ptq {w r : Wv} (h : Sc w r) : pt w = pt r := by
  obtain ⟨c, hc, rfl⟩ := h
  unfold pt
  rw [wRe_sm, wIm_sm, wLo_sm, n3_mul (sq_pos hc)]
theorem Sc.fn {w r : Wv} (h : Sc w r) : fine w ↔ fine r := by
  unfold fine
  rw [h.ptq, Ne, h.lo, Ne]
theorem n3_ok {a b d : Int} (ha : 0 ≤ a) (hd : 0 < d) (h : P3 (n3 a b d)) : PtOk (n3 a b d) := by
  have hg := g3_pos (a := a) (b := b) (show d ≠ 0 by omega)
  obtain ⟨h1, h2, h3⟩ := h
  have e1 : 0 ≤ a / g3 a b d := Int.ediv_nonneg ha (by omega)
  have e3 := Int.mul_ediv_cancel' (g3_d a b d).2.2
  have e4 : 0 ≤ d / g3 a b d := Int.ediv_nonneg (by omega) (by omega)
  have e5 : d / g3 a b d ≠ 0 := fun k => by rw [k] at e3; omega
  unfold n3 at *
  exact ⟨⟨e1, h1⟩, h2, ⟨by show 1 ≤ d / g3 a b d; omega, h3⟩⟩
theorem fine.ok {w : Wv} (h : fine w) (hg : Good w) : PtOk (pt w) := n3_ok hg.1 (by have := wLo_nn w; have := h.1; omega) h.2
def PtAt (L : Ml) (z : Pt) : Prop := L 17 0 = .ofInt z.1 ∧ L 17 1 = .ofInt z.2.1 ∧ L 17 2 = .ofInt z.2.2
def RpAt (L : Ml) (z : Pt) : Prop := L 58 14 = .ofInt z.1 ∧ L 58 15 = .ofInt z.2.1 ∧ L 58 16 = .ofInt z.2.2
theorem b_0 {A B : Prop} (h : A) : if Int32.ofInt 0 = 0 then A else if Int32.ofInt 0 = 1 then B else False := by rw [if_pos (by decide)]; exact h
theorem b_1 {A B : Prop} (h : B) : if Int32.ofInt 1 = 0 then A else if Int32.ofInt 1 = 1 then B else False := by rw [if_neg (by decide), if_pos (by decide)]; exact h
theorem j_0 {A B : Prop} (h : A) : if Int32.ofInt 0 = 0 then A else B := by rw [if_pos (by decide)]; exact h
theorem j_1 {A B : Prop} (h : B) : if Int32.ofInt 1 = 0 then A else B := by rw [if_neg (by decide)]; exact h
section
variable {Lx : Nat} {I : Mi} {L : Ml} {e : Nat} {Q : Kq}
set_option maxHeartbeats 4000000 in
theorem c_53 {a b d : Int} (ha : R63 a) (hb : R63 b) (hd : R63 d) (h1 : d ≠ 0 → P3 (n3 a b d) → ∀ L', FrL [(17, 0, 3)] L L' → PtAt L' (n3 a b d) → Q (.inl (some (.int (Int32.ofInt 1)))) (gE Lx) I L' e) (h0 : (d = 0 ∨ ¬ P3 (n3 a b d)) → ∀ L', FrL [(17, 0, 3)] L L' → Q (.inl (some (.int (Int32.ofInt 0)))) (gE Lx) I L' e) :
    Wp 53 0 [(0, .ref 17), (1, .long (Int64.ofInt a)), (3, .long (Int64.ofInt b)), (5, .long (Int64.ofInt d))] [] (gE Lx) I L e Q := by
  have n1 := gI_nn a b
  have m1 := gI_r ha hb
  have n2 : 0 ≤ g3 a b d := gI_nn _ _
  have m2 : g3 a b d ≤ 9223372036854775807 := gI_r (by omega) hd
  refine s_53_0 (c_26 ha hb (kcp_v rfl (s_53_5 (c_26 (by omega) hd (kcp_v rfl (s_53_10 ?_))))))
  rw [show gI (gI a b) d = g3 a b d from rfl]
  refine i_eq64 (by omega) (by omega) (fun k => h0 (Or.inl k) L FrL.rf) (fun hd0 => ?_)
  have hg := g3_pos (a := a) (b := b) hd0
  obtain ⟨d1, d2, d3⟩ := g3_d a b d
  have b1 := dv_b hg (show -9223372036854775807 ≤ a ∧ a ≤ 9223372036854775807 from ha) d1
  have b2 := dv_b hg (show -9223372036854775807 ≤ b ∧ b ≤ 9223372036854775807 from hb) d2
  have b3 := dv_b hg (show -9223372036854775807 ≤ d ∧ d ≤ 9223372036854775807 from hd) d3
  rw [dv64 (x := a) (by omega) (by omega) (by omega), dv64 (x := b) (by omega) (by omega) (by omega), dv64 (x := d) (by omega) (by omega) (by omega), Int.tdiv_eq_ediv_of_dvd d1, Int.tdiv_eq_ediv_of_dvd d2, Int.tdiv_eq_ediv_of_dvd d3]
  have hf : FrL [(17, 0, 3)] L (ul (ul (ul L 17 0 (Int64.ofInt (a / g3 a b d))) 17 1 (Int64.ofInt (b / g3 a b d))) 17 2 (Int64.ofInt (d / g3 a b d))) := FrL.wu (FrL.wu (FrL.wu FrL.rf rfl) rfl) rfl
  have no : ¬ P3 (n3 a b d) → Q (.inl (some (.int (Int32.ofInt 0)))) (gE Lx) I (ul (ul (ul L 17 0 (Int64.ofInt (a / g3 a b d))) 17 1 (Int64.ofInt (b / g3 a b d))) 17 2 (Int64.ofInt (d / g3 a b d))) e := fun k => h0 (Or.inr k) _ hf
  refine i_eq64 (by omega) (by omega) (fun k => by omega) (fun _ => i_nz64 (by omega) (by omega) (i_nz64 (by omega) (by omega) (i_nz64 (by omega) (by omega) ?_)))
  refine i_lt64 (by omega) (by omega) (fun k => no (fun z => by have : a / g3 a b d ≤ 1000 := z.1; omega)) (fun k1 => i_lt64 (by omega) (by omega) (fun k => no (fun z => by have : b / g3 a b d ≤ 1000 := z.2.1.2; omega)) (fun k2 => i_lt64 (by omega) (by omega) (fun k => no (fun z => by have : -1000 ≤ b / g3 a b d := z.2.1.1; omega)) (fun k3 => i_lt64 (by omega) (by omega) (fun k => no (fun z => by have : d / g3 a b d ≤ 1000 := z.2.2; omega)) (fun k4 => h1 hd0 ⟨k1, ⟨k3, k2⟩, k4⟩ _ hf ⟨rfl, rfl, rfl⟩))))
theorem c_136 {ch : Ch} (hok : ChOk ch) (hc : ChAt I 5 ch) {m : Nat} (hm : m ≤ ch.2.2.2.1) (h1 : fine (wSeen ch m) → ∀ L', FrL [(14, 0, 4), (17, 0, 3)] L L' → PtAt L' (pt (wSeen ch m)) → Q (.inl none) (gE Lx) I L' e) (h0 : ¬ fine (wSeen ch m) → ∀ L', FrL [(14, 0, 4), (17, 0, 3)] L L' → Q (.inr 102) (gE Lx) I L' (e + 1)) :
    Wp 136 0 [(0, .ref 1), (1, .int (Int32.ofInt m))] [] (gE Lx) I L e Q := by
  refine s_136_0 (c_106 (Or.inl rfl) hok hc hm (fun L1 hf1 hW => kcp_v rfl (s_136_12 ?_)))
  have hB := wSeen_B hok hm
  generalize wSeen ch m = w at *
  obtain ⟨w0, w1, w2, w3⟩ := hW
  obtain ⟨v1, v2, v3, v4, v5, v6⟩ := wv_b hB
  have v7 := wLo_nn w
  simp only [w0, w1, w2, w3, mul64, add64, sub64]
  refine c_53 (a := wRe w) (b := wIm w) (d := wLo w) (by omega) (by omega) (by omega) (fun k1 k2 L2 hf2 hp => kcp_v rfl ?_) (fun k L2 hf2 => kcp_v rfl ?_)
  · exact s_52_16 (b_1 (kcp_v rfl (s_136_23 (j_1 (h1 ⟨k1, k2⟩ L2 (FrL.tr hf1 hf2 rfl rfl) hp)))))
  · exact s_52_16 (b_0 (kcp_v rfl (s_136_23 (j_0 (h0 (fun z => by rcases k with k | k; exact z.1 k; exact k z.2) L2 (FrL.tr hf1 hf2 rfl rfl))))))
theorem c_148 {ch : Ch} (hok : ChOk ch) (hc : ChAt I 5 ch) {m : Nat} (hm : m ≤ ch.2.2.2.1) {al : Int} (hal : R32 al) (h1 : fine (wSeen ch m) → ¬ (al = 0 ∧ (pt (wSeen ch m)).1 = 0 ∧ (pt (wSeen ch m)).2.1 = 0) → ∀ L', FrL [(14, 0, 4), (17, 0, 3)] L L' → PtAt L' (pt (wSeen ch m)) → Q (.inl none) (gE Lx) I L' e)
    (h0 : ¬ (fine (wSeen ch m) ∧ ¬ (al = 0 ∧ (pt (wSeen ch m)).1 = 0 ∧ (pt (wSeen ch m)).2.1 = 0)) → ∀ L', FrL [(14, 0, 4), (17, 0, 3)] L L' → Q (.inr 102) (gE Lx) I L' (e + 1)) :
    Wp 136 0 [(0, .ref 1), (1, .int (Int32.ofInt m))] [] (gE Lx) I L e (kcp (Wp 148) 148 2 0 [(0, .ref 1), (2, .int (Int32.ofInt al))] 71 [] Q) := by
  refine c_136 hok hc hm (fun hfi L' hf hp => kcp_v rfl (s_148_5 ?_)) (fun hfi L' hf => kcp_x rfl (h0 (fun z => hfi z.1) L' hf))
  have ho := hfi.ok (wSeen_g hok m hm)
  obtain ⟨o1, o2, o3⟩ := ho
  rw [hp.1, hp.2.1]
  exact i_eqz hal (fun k => i_eq64 (by omega) (by omega) (fun k1 => i_eq64 (by omega) (by omega) (fun k2 => h0 (fun z => z.2 ⟨k, k1, k2⟩) L' hf) (fun k2 => h1 hfi (fun z => k2 z.2.2) L' hf hp)) (fun k1 => h1 hfi (fun z => k1 z.2.1) L' hf hp)) (fun k => h1 hfi (fun z => k z.1) L' hf hp)
set_option maxHeartbeats 4000000 in
theorem c_252 {r : Wv} (hr : RvAt L r) (hB : WB 32845824 r) (hG : Good r) (h1 : fine r → ∀ L', FrL [(58, 14, 3)] L L' → RpAt L' (pt r) → Q (.inl (some (.int (Int32.ofInt 1)))) (gE Lx) I L' e) (h0 : ¬ fine r → ∀ L', FrL [(58, 14, 3)] L L' → Q (.inl (some (.int (Int32.ofInt 0)))) (gE Lx) I L' e) :
    Wp 252 0 [(0, .ref 58)] [] (gE Lx) I L e Q := by
  obtain ⟨w0, w1, w2, w3⟩ := hr
  obtain ⟨v1, v2, v3, v4, v5, v6⟩ := wv_b hB
  have v7 := wLo_nn r
  have v8 := hG.1
  refine s_252_0 ?_
  simp only [w0, w1, w2, w3, mul64, add64, sub64]
  have go : wLo r ≠ 0 → Wp 209 0 [(0, .long (Int64.ofInt (wRe r))), (2, .long (Int64.ofInt (wIm r)))] [] (gE Lx) I L e (kcp (Wp 252) 252 64 0 [(0, .ref 58), (1, .long (Int64.ofInt (wRe r))), (3, .long (Int64.ofInt (wIm r))), (5, .long (Int64.ofInt (wLo r)))] 71 [] Q) := by
    intro hz
    have n1 := gI_nn (wRe r) (wIm r)
    have m1 := gI_r (a := wRe r) (b := wIm r) (by omega) (by omega)
    have m2 : g3 (wRe r) (wIm r) (wLo r) ≤ 9223372036854775807 := gI_r (by omega) (by omega)
    have hg := g3_pos (a := wRe r) (b := wIm r) hz
    obtain ⟨d1, d2, d3⟩ := g3_d (wRe r) (wIm r) (wLo r)
    have b1 := dv_b hg v1 d1
    have b2 := dv_b hg v2 d2
    have b3 := dv_b (B := 2157696310910976) hg (by omega) d3
    refine c_209 (by omega) (by omega) (kcp_v rfl (s_252_67 (c_209 (by omega) (by omega) (kcp_v rfl (s_252_72 ?_)))))
    rw [show gI (gI (wRe r) (wIm r)) (wLo r) = g3 (wRe r) (wIm r) (wLo r) from rfl]
    rw [dv64 (x := wRe r) (by omega) (by omega) (by omega), dv64 (x := wIm r) (by omega) (by omega) (by omega), dv64 (x := wLo r) (by omega) (by omega) (by omega), Int.tdiv_eq_ediv_of_dvd d1, Int.tdiv_eq_ediv_of_dvd d2, Int.tdiv_eq_ediv_of_dvd d3]
    have hf : FrL [(58, 14, 3)] L (ul (ul (ul L 58 14 (Int64.ofInt (wRe r / g3 (wRe r) (wIm r) (wLo r)))) 58 15 (Int64.ofInt (wIm r / g3 (wRe r) (wIm r) (wLo r)))) 58 16 (Int64.ofInt (wLo r / g3 (wRe r) (wIm r) (wLo r)))) := FrL.wu (FrL.wu (FrL.wu FrL.rf rfl) rfl) rfl
    have no : ¬ P3 (pt r) → Q (.inl (some (.int (Int32.ofInt 0)))) (gE Lx) I (ul (ul (ul L 58 14 (Int64.ofInt (wRe r / g3 (wRe r) (wIm r) (wLo r)))) 58 15 (Int64.ofInt (wIm r / g3 (wRe r) (wIm r) (wLo r)))) 58 16 (Int64.ofInt (wLo r / g3 (wRe r) (wIm r) (wLo r)))) e := fun k => h0 (fun z => k z.2) _ hf
    refine i_nz64 (by omega) (by omega) (i_nz64 (by omega) (by omega) (i_nz64 (by omega) (by omega) (i_lt64 (by omega) (by omega) (fun k => no (fun z => by have : wRe r / g3 (wRe r) (wIm r) (wLo r) ≤ 1000 := z.1; omega)) (fun k1 => ?_))))
    refine c_210 (by omega) (fun x hx0 hx => kcp_v rfl (s_252_117 ?_))
    refine i_lt64 (by omega) (by omega) (fun k => no (fun z => by have : -1000 ≤ wIm r / g3 (wRe r) (wIm r) (wLo r) ∧ wIm r / g3 (wRe r) (wIm r) (wLo r) ≤ 1000 := z.2.1; omega)) (fun k2 => ?_)
    show if Int64.ofInt 1000 < Int64.ofInt (wLo r / g3 (wRe r) (wIm r) (wLo r)) then _ else _
    refine i_lt64 (by omega) (by omega) (fun k => no (fun z => by have : wLo r / g3 (wRe r) (wIm r) (wLo r) ≤ 1000 := z.2.2; omega)) (fun k3 => ?_)
    exact h1 ⟨hz, k1, ⟨by show -1000 ≤ wIm r / g3 (wRe r) (wIm r) (wLo r); omega, by show wIm r / g3 (wRe r) (wIm r) (wLo r) ≤ 1000; omega⟩, k3⟩ _ hf ⟨rfl, rfl, rfl⟩
  exact i_eq64 (by have := hB.2.2.1; omega) (by omega) (fun k1 => i_eq64 (by have := hB.2.2.2; omega) (by omega) (fun k2 => h0 (fun z => z.1 (wLo_z.mpr ⟨k1, k2⟩)) L FrL.rf) (fun k2 => go (fun z => k2 (wLo_z.mp z).2))) (fun k1 => go (fun z => k1 (wLo_z.mp z).1))
theorem c_251 {ch : Ch} (hok : ChOk ch) (hc : BnAt I 59 0 ch) {m : Nat} (hm : m ≤ ch.2.2.2.1) (h1 : fine (wSeen ch m) → ∀ L', FrL [(58, 10, 7)] L L' → RpAt L' (pt (wSeen ch m)) → Q (.inl (some (.int (Int32.ofInt 1)))) (gE Lx) I L' e) (h0 : ¬ fine (wSeen ch m) → ∀ L', FrL [(58, 10, 7)] L L' → Q (.inl (some (.int (Int32.ofInt 0)))) (gE Lx) I L' e) :
    Wp 251 0 [(0, .ref 58), (1, .int (Int32.ofInt m))] [] (gE Lx) I L e Q := by
  refine s_251_0 (c_227 hok hc hm (fun L1 r hf1 hr hs hB => kcp_v rfl (s_251_5 (c_252 hr hB ((wSeen_g hok m hm).sc hs) (fun hfi L2 hf2 hp => kcp_v rfl (s_251_9 (b_1 (h1 (hs.fn.mpr hfi) L2 (FrL.tr hf1 hf2 rfl rfl) (by rw [hs.ptq]; exact hp))))) (fun hfi L2 hf2 => kcp_v rfl (s_251_9 (b_0 (h0 (fun z => hfi (hs.fn.mp z)) L2 (FrL.tr hf1 hf2 rfl rfl)))))))))
theorem c_274 {ch : Ch} (hok : ChOk ch) (hc : BnAt I 59 0 ch) {m : Nat} (hm : m ≤ ch.2.2.2.1) {al : Int} (hal : R32 al) (h1 : fine (wSeen ch m) → ¬ (al = 0 ∧ (pt (wSeen ch m)).1 = 0 ∧ (pt (wSeen ch m)).2.1 = 0) → ∀ L', FrL [(58, 10, 7)] L L' → RpAt L' (pt (wSeen ch m)) → Q (.inl (some (.int (Int32.ofInt 1)))) (gE Lx) I L' e)
    (h0 : ¬ (fine (wSeen ch m) ∧ ¬ (al = 0 ∧ (pt (wSeen ch m)).1 = 0 ∧ (pt (wSeen ch m)).2.1 = 0)) → ∀ L', FrL [(58, 10, 7)] L L' → Q (.inl (some (.int (Int32.ofInt 0)))) (gE Lx) I L' e) :
    Wp 251 0 [(0, .ref 58), (1, .int (Int32.ofInt m))] [] (gE Lx) I L e (kcp (Wp 274) 274 2 0 [(0, .ref 58), (2, .int (Int32.ofInt al))] 71 [] Q) := by
  refine c_251 hok hc hm (fun hfi L' hf hp => kcp_v rfl (s_274_5 (j_1 ?_))) (fun hfi L' hf => kcp_v rfl (s_274_5 (j_0 (h0 (fun z => hfi z.1) L' hf))))
  have ho := hfi.ok (wSeen_g hok m hm)
  obtain ⟨o1, o2, o3⟩ := ho
  rw [hp.1, hp.2.1]
  exact i_eqz hal (fun k => i_eq64 (by omega) (by omega) (fun k1 => i_eq64 (by omega) (by omega) (fun k2 => h0 (fun z => z.2 ⟨k, k1, k2⟩) L' hf) (fun k2 => h1 hfi (fun z => k2 z.2.2) L' hf hp)) (fun k1 => h1 hfi (fun z => k1 z.2.1) L' hf hp)) (fun k => h1 hfi (fun z => k z.1) L' hf hp)
end
