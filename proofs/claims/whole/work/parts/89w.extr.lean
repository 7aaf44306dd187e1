/-! extreme. -/
noncomputable def xtN (x : Int) (z : Pt) : Int × Int := if z.2.1 = 0 then (if x = 0 then (0, 1) else (1, 0)) else (z.2.2 * z.2.2 - z.1 * z.1 - z.2.1 * z.2.1 + (if (x = 0 ↔ 0 < z.2.1) then rt (pV z) else -rt (pV z)), 2 * z.2.1 * z.2.2)
noncomputable def fExt (x lo : Int) (z : Pt) : Nat × Int := if z.1 = z.2.2 ∧ z.2.1 = 0 then (2, 0) else iP (rt (pV z) * rt (pV z) = pV z) (0, told lo (fU (xtN x z).1 (xtN x z).2) (fL (xtN x z).1 (xtN x z).2)) (2, 0)
theorem ex_0 {z : Pt} (k : z.2.1 = 0) : rt (pV z) * rt (pV z) = pV z := by
  have e : pV z = (z.1 * z.1 - z.2.2 * z.2.2) * (z.1 * z.1 - z.2.2 * z.2.2) := by unfold pV; rw [k]; grind
  have key : ∀ a v : Int, 0 ≤ a → v = a * a → rt v * rt v = v := by
    intro a v h0 hv
    have r : IsRt v a := by
      refine ⟨h0, by omega, ?_⟩
      have : (a + 1) * (a + 1) = a * a + 2 * a + 1 := by grind
      omega
    rw [rt_eq r, hv]
  rcases (show 0 ≤ z.1 * z.1 - z.2.2 * z.2.2 ∨ 0 ≤ -(z.1 * z.1 - z.2.2 * z.2.2) by omega) with q | q
  · exact key _ _ q e
  · exact key _ _ q (by rw [e, Int.neg_mul_neg])
section
variable {Lx : Nat} {I : Mi} {L : Ml} {e : Nat} {Q : Kq}
theorem ex_b {z : Pt} (h : PtOk z) : -1000000 ≤ z.2.1 * z.2.2 ∧ z.2.1 * z.2.2 ≤ 1000000 ∧ 2 * z.2.1 * z.2.2 = 2 * (z.2.1 * z.2.2) ∧ 2 * -z.2.1 * z.2.2 = -(2 * z.2.1 * z.2.2) ∧ (z.2.1 ≠ 0 → z.2.1 * z.2.2 ≠ 0) := by
  obtain ⟨o1, o2, o3⟩ := h
  have m4 := mulB (x := z.2.1) (y := z.2.2) (A := 1000) (B := 1000) (by omega) (by omega)
  refine ⟨by omega, by omega, Int.mul_assoc .., by grind, fun k q => ?_⟩
  rcases Int.mul_eq_zero.mp q with q | q <;> omega
set_option maxHeartbeats 8000000 in
theorem c_58 {x : Int} (hx : x = 0 ∨ x = 1) {z : Pt} (ho : PtOk z) (hp : PtAt L z) (h1 : rt (pV z) * rt (pV z) = pV z → ∀ L', FrL [(18, 0, 2)] L L' → FrcAt L' 18 (fU (xtN x z).1 (xtN x z).2) (fL (xtN x z).1 (xtN x z).2) → Q (.inl (some (.int (Int32.ofInt 1)))) (gE Lx) I L' e)
    (h0 : ¬ rt (pV z) * rt (pV z) = pV z → ∀ L', Q (.inl (some (.int (Int32.ofInt 0)))) (gE Lx) I L' e) :
    Wp 58 0 [(0, .ref 17), (1, .int (Int32.ofInt x)), (2, .ref 18)] [] (gE Lx) I L e Q := by
  obtain ⟨p0, p1, p2⟩ := id hp
  obtain ⟨b1, b2, b3⟩ := pV_b ho
  obtain ⟨c1, c2, c3, c4, c5, c6⟩ := sw_b ho
  obtain ⟨d1, d2, d3, d4, d5⟩ := ex_b ho
  obtain ⟨o1, o2, o3⟩ := id ho
  have m := mulB (x := rt (pV z)) (y := rt (pV z)) (A := 5000000) (B := 5000000) (by omega) (by omega)
  unfold xtN at h1
  refine s_58_0 ?_
  rw [p0, p1, p2]
  simp only [mul64, add64, sub64]
  refine i_eq64 (by omega) (by omega) (fun k => ?_) (fun k => ?_)
  · simp only [if_pos k] at h1
    have hs := ex_0 k
    rcases hx with rfl | rfl
    · refine j_0 (j_0 (c_25 (Or.inl rfl) (by omega) (by omega) (fun L2 hf2 hv => kcp_v rfl (s_58_31 (h1 hs L2 hf2 hv)))))
    · refine j_1 (j_1 (c_25 (Or.inl rfl) (by omega) (by omega) (fun L2 hf2 hv => kcp_v rfl (s_58_31 (h1 hs L2 hf2 hv)))))
  · simp only [if_neg k] at h1
    show Wp 32 0 [(0, .long (Int64.ofInt (pV z)))] [] (gE Lx) I L e (kcp (Wp 58) 58 39 0 [(0, .ref 17), (1, .int (Int32.ofInt x)), (2, .ref 18), (3, .long (Int64.ofInt (pV z)))] 71 [] Q)
    refine c_32 (by omega) (fun r hr => kcp_v rfl (s_58_42 ?_))
    rw [p0, p1, p2, ← rt_eq hr]
    simp only [mul64, add64, sub64, neg64]
    have go : ∀ n d : Int, (-10000000 ≤ n ∧ n ≤ 10000000) → (-10000000 ≤ d ∧ d ≤ 10000000) → fU n d = fU (z.2.2 * z.2.2 - z.1 * z.1 - z.2.1 * z.2.1 + (if (x = 0 ↔ 0 < z.2.1) then rt (pV z) else -rt (pV z))) (2 * z.2.1 * z.2.2) → fL n d = fL (z.2.2 * z.2.2 - z.1 * z.1 - z.2.1 * z.2.1 + (if (x = 0 ↔ 0 < z.2.1) then rt (pV z) else -rt (pV z))) (2 * z.2.1 * z.2.2) →
        Wp 25 0 [(0, .ref 18), (1, .long (Int64.ofInt n)), (3, .long (Int64.ofInt d))] [] (gE Lx) I L e (kcp (Wp 58) 58 118 0 [(0, .ref 17), (2, .ref 18), (3, .long (Int64.ofInt (pV z))), (5, .long (Int64.ofInt (rt (pV z))))] 71 [] Q) := by
      intro n d hn hd f1 f2
      refine c_25 (Or.inl rfl) (by omega) (by omega) (fun L2 hf2 hv => kcp_v rfl (s_58_121 ?_))
      rw [f1, f2] at hv
      rw [mul64]
      exact i_eq64 (by omega) (by omega) (fun q => h1 q L2 hf2 hv) (fun q => h0 q L2)
    have ng : ∀ n d : Int, d ≠ 0 → fU (-n) (-d) = fU n d ∧ fL (-n) (-d) = fL n d := fun n d hd => ⟨fU_neg, fL_neg⟩
    rcases (show z.2.1 < 0 ∨ 0 < z.2.1 by omega) with kz | kz
    · have := d5 k
      refine i_lt64 (by omega) (by omega) (fun _ => by omega) (fun _ => ?_)
      rcases hx with rfl | rfl
      · refine j_0 (i_lt64 (by omega) (by omega) (fun _ => ?_) (fun _ => by omega))
        rw [if_neg (show ¬ ((0 : Int) = 0 ↔ 0 < z.2.1) by omega)] at go
        have q := ng (z.2.2 * z.2.2 - z.1 * z.1 - z.2.1 * z.2.1 + -rt (pV z)) (2 * z.2.1 * z.2.2) (by omega)
        refine go _ _ (by omega) (by omega) ?_ ?_
        · rw [d4, ← q.1]; congr 1; omega
        · rw [d4, ← q.2]; congr 1; omega
      · refine j_1 (i_lt64 (by omega) (by omega) (fun _ => ?_) (fun _ => by omega))
        rw [if_pos (show ((1 : Int) = 0 ↔ 0 < z.2.1) by omega)] at go
        have q := ng (z.2.2 * z.2.2 - z.1 * z.1 - z.2.1 * z.2.1 + rt (pV z)) (2 * z.2.1 * z.2.2) (by omega)
        refine go _ _ (by omega) (by omega) ?_ ?_
        · rw [d4, ← q.1]; congr 1; omega
        · rw [d4, ← q.2]; congr 1; omega
    · refine i_lt64 (by omega) (by omega) (fun _ => ?_) (fun _ => by omega)
      rcases hx with rfl | rfl
      · refine j_0 (i_lt64 (by omega) (by omega) (fun _ => by omega) (fun _ => ?_))
        rw [if_pos (show ((0 : Int) = 0 ↔ 0 < z.2.1) by omega)] at go
        refine go _ _ (by omega) (by omega) ?_ ?_ <;> (congr 1; omega)
      · refine j_1 (i_lt64 (by omega) (by omega) (fun _ => by omega) (fun _ => ?_))
        rw [if_neg (show ¬ ((1 : Int) = 0 ↔ 0 < z.2.1) by omega)] at go
        refine go _ _ (by omega) (by omega) ?_ ?_ <;> (congr 1; omega)
set_option maxHeartbeats 4000000 in
theorem h_398 {ch : Ch} (hok : ChOk ch) (hc : ChAt I 5 ch) {m x lo : Int} (hm : R32 m) (hx : x = 0 ∨ x = 1) (hlo : R32 lo) (h : CQ Lx I e Q (spP ch m (fExt x lo)).1 (spP ch m (fExt x lo)).2) :
    Wp 398 0 [(0, .ref 1), (1, .int (Int32.ofInt m)), (2, .int (Int32.ofInt x)), (3, .int (Int32.ofInt lo)), (4, .ref 70)] [] (gE Lx) I L e Q := by
  refine s_398_0 ?_
  rw [hc.2.2.2.1]
  refine mk_pre hm hok.2.2.2.1 (fun hb => (spP_1 h hb).mk (c := 1) FrI.rf (by omega) rfl (fun z => by cases z)) (fun j hj hjn => ?_)
  subst hj
  refine c_136 hok hc hjn (fun hfi L1 hf1 hp => kcp_v rfl (s_165_10 ?_)) (fun hfi L1 hf1 => kcp_x rfl (kcp_h rfl ((spP_2 h hjn hfi).mk (c := 2) FrI.rf (by omega) rfl (fun z => by cases z))))
  have hq := spP_0 h hjn hfi
  have ho := hfi.ok (wSeen_g hok j hjn)
  generalize pt (wSeen ch j) = z at *
  obtain ⟨p0, p1, p2⟩ := id hp
  obtain ⟨o1, o2, o3⟩ := id ho
  rw [p0, p1, p2]
  unfold fExt at hq
  have go : ¬ (z.1 = z.2.2 ∧ z.2.1 = 0) → Wp 58 0 [(0, .ref 17), (1, .int (Int32.ofInt x)), (2, .ref 18)] [] (gE Lx) I L1 e (kcp (Wp 165) 165 29 0 [(0, .ref 1), (3, .int (Int32.ofInt lo))] 71 [] (kcp (Wp 398) 398 7 0 [(0, .ref 1), (4, .ref 70)] 71 [.int (Int32.ofInt 0), .ref 70] Q)) := by
    intro hn
    rw [if_neg hn] at hq
    refine c_58 hx ho hp (fun hs L2 hf2 hv => kcp_v rfl (s_165_32 (j_1 ?_))) (fun hs L2 => kcp_v rfl (s_165_32 (j_0 ?_)))
    · rw [iP_t hs] at hq
      rw [hv.1, hv.2]
      refine i_eqz hlo (fun k0 => kcp_v rfl (s_398_10 (i_inb0 (by decide) (hq.mk (c := 0) FrI.rf (by omega) rfl (fun _ => ?_))))) (fun k0 => kcp_v rfl (s_398_10 (i_inb0 (by decide) (hq.mk (c := 0) FrI.rf (by omega) rfl (fun _ => ?_)))))
      · rw [o70, told, if_pos k0]
      · rw [o70, told, if_neg k0]
    · rw [iP_f hs] at hq
      exact kcp_h rfl (hq.mk (c := 2) FrI.rf (by omega) rfl (fun z => by cases z))
  refine i_eq64 (by omega) (by omega) (fun k => i_eq64 (by omega) (by omega) (fun k1 => ?_) (fun k1 => go (fun z => k1 z.2))) (fun k => go (fun z => k z.1))
  rw [if_pos ⟨k, k1⟩] at hq
  exact kcp_h rfl (hq.mk (c := 2) FrI.rf (by omega) rfl (fun z => by cases z))
end
