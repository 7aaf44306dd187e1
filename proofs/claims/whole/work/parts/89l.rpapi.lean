/-! places, isFraction, place, needs, square, sign on the other side. -/
theorem fU_neg {a b : Int} : fU (-a) (-b) = fU a b := by
  have hg : gI (-a) (-b) = gI a b := gI_abs (Or.inr rfl) (Or.inr rfl)
  unfold fU
  rw [hg, Int.neg_ediv_of_dvd (gI_dl a b)]
  by_cases h0 : a = 0 ∧ b = 0
  · rw [if_pos h0, if_pos (by omega)]
  · rw [if_neg h0, if_neg (by omega)]
    rcases Int.lt_trichotomy b 0 with k | k | k
    · rw [if_neg (show ¬ (-b < 0 ∨ (-b = 0 ∧ -a < 0)) by omega), if_pos (show b < 0 ∨ (b = 0 ∧ a < 0) from Or.inl k)]
    · have : a ≠ 0 := fun z => h0 ⟨z, k⟩
      by_cases ka : a < 0
      · rw [if_neg (show ¬ (-b < 0 ∨ (-b = 0 ∧ -a < 0)) by omega), if_pos (show b < 0 ∨ (b = 0 ∧ a < 0) from Or.inr ⟨k, ka⟩)]
      · rw [if_pos (show -b < 0 ∨ (-b = 0 ∧ -a < 0) by omega), if_neg (show ¬ (b < 0 ∨ (b = 0 ∧ a < 0)) by omega), Int.neg_neg]
    · rw [if_pos (show -b < 0 ∨ (-b = 0 ∧ -a < 0) by omega), if_neg (show ¬ (b < 0 ∨ (b = 0 ∧ a < 0)) by omega), Int.neg_neg]
theorem fL_neg {a b : Int} : fL (-a) (-b) = fL a b := by
  have hg : gI (-a) (-b) = gI a b := gI_abs (Or.inr rfl) (Or.inr rfl)
  unfold fL
  rw [hg, Int.neg_ediv_of_dvd (gI_dr a b)]
  by_cases h0 : a = 0 ∧ b = 0
  · rw [if_pos h0, if_pos (by omega)]
  · rw [if_neg h0, if_neg (by omega)]
    rcases Int.lt_trichotomy b 0 with k | k | k
    · rw [if_neg (show ¬ -b < 0 by omega), if_pos k]
    · subst k; simp
    · rw [if_pos (show -b < 0 by omega), if_neg (show ¬ b < 0 by omega), Int.neg_neg]
theorem jj0 {A B : Prop} : (if Int32.ofInt 0 = 0 then A else B) = A := if_pos (by decide)
theorem jj1 {A B : Prop} : (if Int32.ofInt 1 = 0 then A else B) = B := if_neg (by decide)
section
variable {Lx : Nat} {I : Mi} {L : Ml} {e : Nat} {Q : Kq}
set_option maxHeartbeats 8000000 in
theorem c_256 {ch : Ch} (hok : ChOk ch) (hc : BnAt I 59 0 ch) {m al k : Int} (hm : R32 m) (hal : al = 0 ∨ al = 1) (hk : R32 k) (h1 : (m < 0 ∨ (ch.2.2.2.1 : Int) < m) → Q (.inl (some (.int (Int32.ofInt 1)))) (gE Lx) I L e)
    (h2 : ∀ j : Nat, m = j → j ≤ ch.2.2.2.1 → ¬ (fine (wSeen ch j) ∧ 0 ≤ k ∧ k < pM (pt (wSeen ch j))) → ∀ L', L' 70 = L 70 → Q (.inl (some (.int (Int32.ofInt 2)))) (gE Lx) I L' e)
    (h0 : ∀ j : Nat, m = j → j ≤ ch.2.2.2.1 → fine (wSeen ch j) → 0 ≤ k → k < pM (pt (wSeen ch j)) → ∀ L', L' 70 = L 70 → PtOk (pt (wSeen ch j)) → RsAt L' al (pt (wSeen ch j)) → Q (.inl (some (.int (Int32.ofInt 0)))) (gE Lx) I L' e) :
    Wp 256 0 [(0, .ref 58), (1, .int (Int32.ofInt m)), (2, .int (Int32.ofInt al)), (3, .int (Int32.ofInt k))] [] (gE Lx) I L e Q := by
  have e3 : I 59 3 = Int32.ofInt (ch.2.2.2.1 : Int) := hc.2.2.2.1
  refine s_256_0 ?_
  rw [e3]
  refine mk_pre2 hm hok.2.2.2.1 h1 (fun j hj hjn => ?_)
  have g2 := h2 j hj hjn
  have g0 := h0 j hj hjn
  clear h2 h0
  subst hj
  refine c_251 hok hc hjn (fun hfi L1 hf1 hp => kcp_v rfl (s_256_15 (j_1 ?_))) (fun hfi L1 hf1 => kcp_v rfl (s_256_15 (j_0 (g2 (fun z => hfi z.1) L1 (hf1.at rfl)))))
  have ho := hfi.ok (wSeen_g hok j hjn)
  have g0 := g0 hfi
  have hl1 : L1 70 = L 70 := hf1.at rfl
  generalize pt (wSeen ch j) = z at *
  obtain ⟨p1, p2, p3⟩ := hp
  obtain ⟨o1, o2, o3⟩ := id ho
  have no : (¬ (0 ≤ k ∧ k < pM z)) → Q (.inl (some (.int (Int32.ofInt 2)))) (gE Lx) I L1 e := fun q => g2 (fun w => q w.2) L1 hl1
  have bad : (z.1 = 0 ∨ (z.1 = z.2.2 ∧ z.2.1 = 0)) → Q (.inl (some (.int (Int32.ofInt 2)))) (gE Lx) I L1 e := fun q => no (fun w => by unfold pM at w; rw [if_pos q] at w; omega)
  have go : ¬ (z.1 = 0 ∨ (z.1 = z.2.2 ∧ z.2.1 = 0)) → ∀ x y u v : Int64, (x = .ofInt (sgA al (pL al z)) ∧ y = .ofInt (sgA al (pR al z)) ∧ u = .ofInt (sgA al (pH z)) ∧ v = .ofInt (pU z)) →
      if Int32.ofInt k < Int32.ofInt 0 then Q (.inl (some (.int (Int32.ofInt 2)))) (gE Lx) I L1 e else if Int32.ofInt 1 < Int32.ofInt k then Q (.inl (some (.int (Int32.ofInt 2)))) (gE Lx) I L1 e else Q (.inl (some (.int (Int32.ofInt 0)))) (gE Lx) I (ul (ul (ul (ul L1 58 19 x) 58 20 y) 58 17 u) 58 18 v) e := by
    intro q x y u v hv
    have hpm : pM z = 2 := if_neg q
    refine i_lt32 hk (by omega) (fun _ => no (by omega)) (fun _ => i_lt32 (by omega) hk (fun _ => no (by omega)) (fun _ => ?_))
    obtain ⟨rfl, rfl, rfl, rfl⟩ := hv
    exact g0 (by omega) (by omega) _ hl1 ho ⟨rfl, rfl, rfl, rfl, p1, p2, p3⟩
  rw [p1, p2, p3]
  rcases hal with rfl | rfl
  · simp only [jj0, mul64, sub64, add64, neg64]
    have ev : z.2.2 * (z.2.2 - z.1) = sgA 0 (pL 0 z) ∧ z.1 * z.1 + z.2.1 * z.2.1 - z.1 * z.2.2 = sgA 0 (pR 0 z) ∧ -z.2.1 * z.2.2 = sgA 0 (pH z) := by
      unfold sgA pL pR pH pS
      simp only [if_true]
      refine ⟨by grind, by grind, by grind⟩
    refine i_lt64 (by omega) (by omega) (fun a => i_eq64 (by omega) (by omega) (fun b => i_eq64 (by omega) (by omega) (fun c => bad (Or.inr ⟨b, c⟩)) (fun c => ?_)) (fun b => ?_)) (fun a => bad (Or.inl (by omega)))
    · exact go (by omega) _ _ _ _ ⟨by rw [ev.1], by rw [ev.2.1], by rw [ev.2.2], rfl⟩
    · exact go (by omega) _ _ _ _ ⟨by rw [ev.1], by rw [ev.2.1], by rw [ev.2.2], rfl⟩
  · simp only [jj1, mul64, sub64, add64, neg64]
    have ev : z.1 * z.1 + z.2.1 * z.2.1 - z.1 * z.2.2 = sgA 1 (pL 1 z) ∧ z.2.2 * (z.2.2 - z.1) = sgA 1 (pR 1 z) ∧ z.2.1 * z.2.2 = sgA 1 (pH z) := by
      unfold sgA pL pR pH pS
      simp only [show ¬ ((1 : Int) = 0) by decide, if_false]
      refine ⟨trivial, by grind, trivial⟩
    refine i_lt64 (by omega) (by omega) (fun a => i_eq64 (by omega) (by omega) (fun b => i_eq64 (by omega) (by omega) (fun c => bad (Or.inr ⟨b, c⟩)) (fun c => ?_)) (fun b => ?_)) (fun a => bad (Or.inl (by omega)))
    · exact go (by omega) _ _ _ _ ⟨by rw [ev.1], by rw [ev.2.1], by rw [ev.2.2], rfl⟩
    · exact go (by omega) _ _ _ _ ⟨by rw [ev.1], by rw [ev.2.1], by rw [ev.2.2], rfl⟩
theorem c_259 {ch : Ch} (hok : ChOk ch) (hc : BnAt I 59 0 ch) {m al k : Int} (hm : R32 m) (hal : al = 0 ∨ al = 1) (hk : R32 k) (h1 : (m < 0 ∨ (ch.2.2.2.1 : Int) < m) → Q (.inl (some (.int (Int32.ofInt 1)))) (gE Lx) I L e)
    (h2 : ∀ j : Nat, m = j → j ≤ ch.2.2.2.1 → ¬ (fine (wSeen ch j) ∧ (0 ≤ k ∧ k < pM (pt (wSeen ch j))) ∧ pSq (pt (wSeen ch j))) → ∀ L', L' 70 = L 70 → Q (.inl (some (.int (Int32.ofInt 2)))) (gE Lx) I L' e)
    (h0 : ∀ j : Nat, m = j → j ≤ ch.2.2.2.1 → fine (wSeen ch j) → 0 ≤ k → k < pM (pt (wSeen ch j)) → pSq (pt (wSeen ch j)) → ∀ L', L' 70 = L 70 → PtOk (pt (wSeen ch j)) → RsAt L' al (pt (wSeen ch j)) → Q (.inl (some (.int (Int32.ofInt 0)))) (gE Lx) I L' e) :
    Wp 259 0 [(0, .ref 58), (1, .int (Int32.ofInt m)), (2, .int (Int32.ofInt al)), (3, .int (Int32.ofInt k))] [] (gE Lx) I L e Q := by
  refine s_259_0 (c_256 hok hc hm hal hk (fun hb => kcp_v rfl (s_259_7 (i_zlt (by omega) (fun _ => h1 hb) (fun k => by omega)))) (fun j hj hjn hn L' hl => kcp_v rfl (s_259_7 (i_zlt (by omega) (fun _ => h2 j hj hjn (fun z => hn ⟨z.1, z.2.1⟩) L' hl) (fun k => by omega)))) (fun j hj hjn hfi k1 k2 L' hl ho hs => kcp_v rfl (s_259_7 (i_zlt (by omega) (fun k => by omega) (fun _ => ?_)))))
  rw [hs.2.1]
  obtain ⟨q1, q2, q3, q4, q5, q6⟩ := pt_b ho al
  exact c_242 (by omega) (fun hsq _ => kcp_v rfl (s_259_26 (j_1 (h0 j hj hjn hfi k1 k2 hsq L' hl ho hs)))) (fun hsq => kcp_v rfl (s_259_26 (j_0 (h2 j hj hjn (fun z => hsq z.2.2) L' hl))))
set_option maxHeartbeats 8000000 in
theorem c_264 {al k : Int} (hal : al = 0 ∨ al = 1) {z : Pt} (ho : PtOk z) (hm : 0 < pM z) (hs : RsAt L al z) (h : ∀ L', FrL [(58, 8, 2)] L L' → L' 58 8 = .ofInt (fU (plN k al z).1 (plN k al z).2) → L' 58 9 = .ofInt (fL (plN k al z).1 (plN k al z).2) → Q (.inl none) (gE Lx) I L' e) :
    Wp 264 0 [(0, .ref 58), (1, .int (Int32.ofInt (nsg k al z)))] [] (gE Lx) I L e Q := by
  obtain ⟨p1, p2, p3, p4, p5, p6⟩ := pt_b ho al
  obtain ⟨s1, s2, s3, s4, s5⟩ := id hs
  have hn := nsg_r k al z
  have hnz := plN_nz (k := k) (al := al) ho hm
  refine s_264_0 ?_
  rw [s2]
  refine c_243 (by omega) (fun r hr => kcp_v rfl (s_264_9 ?_))
  have hr0 := hr.1
  have hrb : r < 2000000 := hr.b (by omega) (by omega)
  have hrt := rt_eq hr
  have mr : -2000000 ≤ nsg k al z * r ∧ nsg k al z * r ≤ 2000000 := by rcases hn with q | q <;> rw [q] <;> omega
  rw [s1, s3, s4, i2l (by omega), mul64, mul64, add64]
  have fin : ∀ a b : Int, (a, b) = plN k al z ∨ (-a, -b) = plN k al z → ∀ L', FrL [(58, 8, 2)] L L' → L' 58 8 = .ofInt (fU a b) → L' 58 9 = .ofInt (fL a b) → Wp 264 70 [(0, .ref 58)] [] (gE Lx) I L' e Q := by
    intro a b hab L' hf k8 k9
    refine s_264_70 (h L' hf ?_ ?_)
    · rcases hab with q | q <;> rw [← q, k8]
      dsimp only
      rw [fU_neg]
    · rcases hab with q | q <;> rw [← q, k9]
      dsimp only
      rw [fL_neg]
  have nz : ∀ a b : Int, (a, b) = plN k al z ∨ (-a, -b) = plN k al z → ¬ (a = 0 ∧ b = 0) := by
    intro a b hab q
    rcases hab with w | w <;> rw [← w] at hnz <;> exact hnz ⟨by dsimp only; omega, by dsimp only; omega⟩
  have hA : ∀ x : Int, sgA al x = 0 ↔ x = 0 := fun x => by unfold sgA; split <;> omega
  have hh0 : pL al z = 0 → pH z ≠ 0 := fun a b => by
    have ez := pU_eq al z
    have := (pM_n ho hm).2.2
    rw [a, b] at ez; omega
  have sA : ∀ x : Int, sgA al x = x ∨ sgA al x = -x := fun x => by unfold sgA; split <;> omega
  have x1 := sA (pH z); have x2 := sA (pL al z); have x3 := sA (pR al z)
  have eend : pL al z = 0 → (0 < nsg k al z ↔ 0 < sgA al (pH z)) → (1, 0) = plN k al z := fun q w => by
    have hz := hh0 q
    rw [plN, if_pos q, if_pos]
    unfold nsg sgA at w
    have hsd := side_r k al z
    rcases hal with rfl | rfl
    · simp only [if_true] at w
      rcases hsd with v | v <;> rw [v] at w ⊢ <;> omega
    · simp only [show ¬ ((1 : Int) = 0) by decide, if_false] at w
      rcases hsd with v | v <;> rw [v] at w ⊢ <;> omega
  have eoth : pL al z = 0 → ¬ (0 < nsg k al z ↔ 0 < sgA al (pH z)) → (sgA al (pR al z), 2 * sgA al (pH z)) = plN k al z ∨ (-sgA al (pR al z), -(2 * sgA al (pH z))) = plN k al z := fun q w => by
    have hz := hh0 q
    rw [plN, if_pos q, if_neg]
    · unfold sgA
      rcases hal with rfl | rfl
      · right; simp only [if_true]; rw [Int.neg_neg]; congr 1; omega
      · left; simp
    · unfold nsg sgA at w
      have hsd := side_r k al z
      rcases hal with rfl | rfl
      · simp only [if_true] at w
        rcases hsd with v | v <;> rw [v] at w ⊢ <;> omega
      · simp only [show ¬ ((1 : Int) = 0) by decide, if_false] at w
        rcases hsd with v | v <;> rw [v] at w ⊢ <;> omega
  have egen : pL al z ≠ 0 → (sgA al (pH z) + nsg k al z * r, sgA al (pL al z)) = plN k al z ∨ (-(sgA al (pH z) + nsg k al z * r), -sgA al (pL al z)) = plN k al z := fun q => by
    rw [plN, if_neg q, hrt]
    unfold sgA nsg
    rcases hal with rfl | rfl
    · right; simp only [if_true]; rw [Int.neg_neg, Int.neg_mul]; congr 1; omega
    · left; simp
  have tEnd : pL al z = 0 → (0 < nsg k al z ↔ 0 < sgA al (pH z)) → Wp 246 0 [(0, .ref 58), (1, .long (Int64.ofInt 1)), (3, .long (Int64.ofInt 0))] [] (gE Lx) I L e (kcp (Wp 264) 264 48 0 [(0, .ref 58)] 71 [] Q) := fun q w =>
    c_246 (by omega) (by omega) (by decide) (fun L' hf k8 k9 => kcp_v rfl (s_264_51 (fin 1 0 (Or.inl (eend q w)) L' hf k8 k9)))
  have tOth : pL al z = 0 → ¬ (0 < nsg k al z ↔ 0 < sgA al (pH z)) → Wp 246 0 [(0, .ref 58), (1, .long (Int64.ofInt (sgA al (pR al z)))), (3, .long (Int64.ofInt (2 * sgA al (pH z))))] [] (gE Lx) I L e (kcp (Wp 264) 264 67 0 [(0, .ref 58)] 71 [] Q) := fun q w =>
    c_246 (by omega) (by omega) (nz _ _ (eoth q w)) (fun L' hf k8 k9 => kcp_v rfl (fin _ _ (eoth q w) L' hf k8 k9))
  refine i_eq64 (by omega) (by omega) (fun q => i_eq64 (by omega) (by omega) (fun _ => i_zlt (by omega) (fun a => i_lt64 (by omega) (by omega) (fun b => tEnd ((hA _).mp q) ⟨fun _ => b, fun _ => a⟩) (fun b => tOth ((hA _).mp q) (fun w => by have := w.mp a; omega))) (fun a => i_lt64 (by omega) (by omega) (fun b => tOth ((hA _).mp q) (fun w => by have := w.mpr b; omega)) (fun b => tEnd ((hA _).mp q) ⟨fun z => by omega, fun z => by omega⟩))) (fun w => absurd q w))
    (fun q => c_246 (by omega) (by omega) (nz _ _ (egen (fun w => q ((hA _).mpr w)))) (fun L' hf k8 k9 => kcp_v rfl (s_264_34 (fin _ _ (egen (fun w => q ((hA _).mpr w))) L' hf k8 k9))))
end
