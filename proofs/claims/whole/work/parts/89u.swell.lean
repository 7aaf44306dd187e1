/-! isHigh, swell. -/
def fHigh (z : Pt) : Nat × Int := if z.1 = z.2.2 ∧ z.2.1 = 0 then (2, 0) else (0, if 0 < z.2.1 ∨ (z.2.1 = 0 ∧ z.2.2 < z.1) then 1 else 0)
/-- what is under the root -/
def pV (z : Pt) : Int := (z.1 * z.1 + z.2.1 * z.2.1 - z.2.2 * z.2.2) * (z.1 * z.1 + z.2.1 * z.2.1 - z.2.2 * z.2.2) + 4 * z.2.1 * z.2.2 * z.2.1 * z.2.2
noncomputable def swN (z : Pt) : Int := z.1 * z.1 + z.2.1 * z.2.1 + z.2.2 * z.2.2 + rt (pV z)
noncomputable def fSwell (lo : Int) (z : Pt) : Nat × Int := iP (rt (pV z) * rt (pV z) = pV z) (0, told lo (fU (swN z) (2 * z.1 * z.2.2)) (fL (swN z) (2 * z.1 * z.2.2))) (2, 0)
theorem pV_eq (z : Pt) : ((z.1 - z.2.2) * (z.1 - z.2.2) + z.2.1 * z.2.1) * ((z.1 + z.2.2) * (z.1 + z.2.2) + z.2.1 * z.2.1) = pV z := by unfold pV; grind
theorem pV_b {z : Pt} (h : PtOk z) : (0 ≤ pV z ∧ pV z ≤ 16000000000000) ∧ (0 ≤ rt (pV z) ∧ rt (pV z) < 5000000) ∧ IsRt (pV z) (rt (pV z)) := by
  obtain ⟨o1, o2, o3⟩ := h
  have a1 : -1000 ≤ z.1 - z.2.2 ∧ z.1 - z.2.2 ≤ 1000 := by omega
  have a2 : -2000 ≤ z.1 + z.2.2 ∧ z.1 + z.2.2 ≤ 2000 := by omega
  have m1 := mulB a1 a1
  have m2 := mulB a2 a2
  have m3 := mulB o2 o2
  have n1 := sq_nn (z.1 - z.2.2)
  have n2 := sq_nn (z.1 + z.2.2)
  have n3 := sq_nn z.2.1
  have e := pV_eq z
  have p1 : 0 ≤ ((z.1 - z.2.2) * (z.1 - z.2.2) + z.2.1 * z.2.1) * ((z.1 + z.2.2) * (z.1 + z.2.2) + z.2.1 * z.2.1) := Int.mul_nonneg (by omega) (by omega)
  have p2 := mulB (x := (z.1 - z.2.2) * (z.1 - z.2.2) + z.2.1 * z.2.1) (y := (z.1 + z.2.2) * (z.1 + z.2.2) + z.2.1 * z.2.1) (A := 2000000) (B := 5000000) (by omega) (by omega)
  have b1 : 0 ≤ pV z ∧ pV z ≤ 16000000000000 := by omega
  have r := rt_sp b1.1
  exact ⟨b1, ⟨r.1, r.b (by omega) (by omega)⟩, r⟩
section
variable {Lx : Nat} {I : Mi} {L : Ml} {e : Nat} {Q : Kq}
set_option maxHeartbeats 4000000 in
theorem h_400 {ch : Ch} (hok : ChOk ch) (hc : ChAt I 5 ch) {m : Int} (hm : R32 m) (h : CQ Lx I e Q (spP ch m fHigh).1 (spP ch m fHigh).2) :
    Wp 400 0 [(0, .ref 1), (1, .int (Int32.ofInt m)), (2, .ref 70)] [] (gE Lx) I L e Q := by
  refine s_400_0 ?_
  rw [hc.2.2.2.1]
  refine mk_pre hm hok.2.2.2.1 (fun hb => (spP_1 h hb).mk (c := 1) FrI.rf (by omega) rfl (fun z => by cases z)) (fun j hj hjn => ?_)
  subst hj
  refine c_136 hok hc hjn (fun hfi L1 hf1 hp => kcp_v rfl (s_167_10 ?_)) (fun hfi L1 hf1 => kcp_x rfl (kcp_h rfl ((spP_2 h hjn hfi).mk (c := 2) FrI.rf (by omega) rfl (fun z => by cases z))))
  have hq := spP_0 h hjn hfi
  have ho := hfi.ok (wSeen_g hok j hjn)
  generalize pt (wSeen ch j) = z at *
  obtain ⟨p0, p1, p2⟩ := hp
  obtain ⟨o1, o2, o3⟩ := ho
  rw [p0, p1, p2]
  unfold fHigh at hq
  have fin : ¬ (z.1 = z.2.2 ∧ z.2.1 = 0) → ∀ v : Int, (v = 0 ∨ v = 1) → v = (if 0 < z.2.1 ∨ (z.2.1 = 0 ∧ z.2.2 < z.1) then 1 else 0) → kcp (Wp 400) 400 4 0 [(0, .ref 1), (2, .ref 70)] 71 [.int (Int32.ofInt 0), .ref 70] Q (.inl (some (.int (Int32.ofInt v)))) (gE Lx) I L1 e := by
    intro hn v hv he
    rw [if_neg hn, ← he] at hq
    refine kcp_v rfl (s_400_7 ?_)
    rcases hv with rfl | rfl
    · exact j_0 (i_inb0 (by decide) (hq.mk (c := 0) FrI.rf (by omega) rfl (fun _ => o70)))
    · exact j_1 (i_inb0 (by decide) (hq.mk (c := 0) FrI.rf (by omega) rfl (fun _ => o70)))
  have dn : (z.1 = z.2.2 ∧ z.2.1 = 0) → kcp (Wp 400) 400 4 0 [(0, .ref 1), (2, .ref 70)] 71 [.int (Int32.ofInt 0), .ref 70] Q (.inr 102) (gE Lx) I L1 (e + 1) := fun k => by
    rw [if_pos k] at hq
    exact kcp_h rfl (hq.mk (c := 2) FrI.rf (by omega) rfl (fun z => by cases z))
  have rest : ¬ (z.1 = z.2.2 ∧ z.2.1 = 0) → if Int64.ofInt 0 < Int64.ofInt z.2.1 then kcp (Wp 400) 400 4 0 [(0, .ref 1), (2, .ref 70)] 71 [.int (Int32.ofInt 0), .ref 70] Q (.inl (some (.int (Int32.ofInt 1)))) (gE Lx) I L1 e else
      if Int64.ofInt z.2.1 = Int64.ofInt 0 then (if Int64.ofInt z.2.2 < Int64.ofInt z.1 then kcp (Wp 400) 400 4 0 [(0, .ref 1), (2, .ref 70)] 71 [.int (Int32.ofInt 0), .ref 70] Q (.inl (some (.int (Int32.ofInt 1)))) (gE Lx) I L1 e else kcp (Wp 400) 400 4 0 [(0, .ref 1), (2, .ref 70)] 71 [.int (Int32.ofInt 0), .ref 70] Q (.inl (some (.int (Int32.ofInt 0)))) (gE Lx) I L1 e)
      else kcp (Wp 400) 400 4 0 [(0, .ref 1), (2, .ref 70)] 71 [.int (Int32.ofInt 0), .ref 70] Q (.inl (some (.int (Int32.ofInt 0)))) (gE Lx) I L1 e := fun hn =>
    i_lt64 (by omega) (by omega) (fun k => fin hn 1 (Or.inr rfl) (if_pos (Or.inl k)).symm) (fun k => i_eq64 (by omega) (by omega) (fun k1 => i_lt64 (by omega) (by omega) (fun k2 => fin hn 1 (Or.inr rfl) (if_pos (Or.inr ⟨k1, k2⟩)).symm) (fun k2 => fin hn 0 (Or.inl rfl) (if_neg (by omega)).symm)) (fun k1 => fin hn 0 (Or.inl rfl) (if_neg (by omega)).symm))
  exact i_eq64 (by omega) (by omega) (fun k => i_eq64 (by omega) (by omega) (fun k1 => dn ⟨k, k1⟩) (fun k1 => rest (fun z => k1 z.2))) (fun k => rest (fun z => k z.1))
set_option maxHeartbeats 4000000 in
theorem r_304 {ch : Ch} (hok : ChOk ch) (hc : BnAt I 59 0 ch) {m : Int} (hm : R32 m) (h : RQ Lx I L e Q (spP ch m fHigh).1 vI (spP ch m fHigh).2) :
    Wp 304 0 [(0, .ref 58), (1, .int (Int32.ofInt m))] [] (gE Lx) I L e Q := by
  have e3 : I 59 3 = Int32.ofInt (ch.2.2.2.1 : Int) := hc.2.2.2.1
  refine s_304_0 ?_
  rw [e3]
  refine mk_pre2 hm hok.2.2.2.1 (fun hb => s_304_6 (j_1 ?_)) (fun j hj hjn => ?_)
  · rw [spP_b hb] at h
    exact h.mk (v := 0) (FrI.wu FrI.rf rfl) rfl (c := 1) u_at rfl (fun z => by cases z)
  · subst hj
    have two : RQ Lx I L e Q 2 vI 0 → ∀ L1 : Ml, L1 70 = L 70 → Wp 304 6 [(0, .ref 58)] [.int (Int32.ofInt 2), .ref 58] (gE Lx) I L1 e Q := fun h2 L1 hl =>
      s_304_6 (i_eqz (by omega) (fun k => by omega) (fun _ => h2.mk (v := 0) (FrI.wu FrI.rf rfl) hl (c := 2) u_at rfl (fun z => by cases z)))
    refine c_251 hok hc hjn (fun hfi L1 hf1 hp => kcp_v rfl (s_301_17 (j_1 ?_))) (fun hfi L1 hf1 => kcp_v rfl (s_301_17 (j_0 (kcp_v rfl (two ?_ L1 (hf1.at rfl))))))
    · rw [spP_f hjn hfi] at h
      have ho := hfi.ok (wSeen_g hok j hjn)
      have hl : L1 70 = L 70 := hf1.at rfl
      generalize pt (wSeen ch j) = z at *
      obtain ⟨p0, p1, p2⟩ := hp
      obtain ⟨o1, o2, o3⟩ := ho
      rw [p0, p1, p2]
      unfold fHigh at h
      have go : ¬ (z.1 = z.2.2 ∧ z.2.1 = 0) → Wp 304 6 [(0, .ref 58)] [.int (Int32.ofInt 0), .ref 58] (gE Lx) I L1 e Q := by
        intro hn
        rw [if_neg hn] at h
        refine s_304_6 (j_0 ?_)
        rw [p0, p1, p2]
        have fin : ∀ v : Int, v = (if 0 < z.2.1 ∨ (z.2.1 = 0 ∧ z.2.2 < z.1) then 1 else 0) → Q (.inl (some (.int (Int32.ofInt v)))) (gE Lx) (ui I 58 0 (Int32.ofInt 0)) L1 e := fun v hv => h.mk (v := v) (FrI.wu FrI.rf rfl) hl (c := 0) u_at rfl (fun _ => hv)
        exact i_lt64 (by omega) (by omega) (fun k => fin 1 (if_pos (Or.inl k)).symm) (fun k => i_eq64 (by omega) (by omega) (fun k1 => i_lt64 (by omega) (by omega) (fun k2 => fin 1 (if_pos (Or.inr ⟨k1, k2⟩)).symm) (fun k2 => fin 0 (if_neg (by omega)).symm)) (fun k1 => fin 0 (if_neg (by omega)).symm))
      exact i_eq64 (by omega) (by omega) (fun k => i_eq64 (by omega) (by omega) (fun k1 => kcp_v rfl (two (by rw [if_pos ⟨k, k1⟩] at h; exact h) L1 hl)) (fun k1 => kcp_v rfl (go (fun z => k1 z.2)))) (fun k => kcp_v rfl (go (fun z => k z.1)))
    · rw [spP_n hjn hfi] at h
      exact h
end
