/-! isEndless, echo. -/
theorem ev_b {w : Wv} (hB : WB 32845824 w) : (-20000000000000000 ≤ eUp w ∧ eUp w ≤ 20000000000000000) ∧ (-20000000000000000 ≤ eLo w ∧ eLo w ≤ 20000000000000000) := by
  obtain ⟨b1, b2, b3, b4⟩ := hB
  have m1 := mulB (x := w.1 - w.2.2.1) (y := w.1 - w.2.2.1) (A := 65691648) (B := 65691648) (by omega) (by omega)
  have m2 := mulB (x := w.2.1 - w.2.2.2) (y := w.2.1 - w.2.2.2) (A := 65691648) (B := 65691648) (by omega) (by omega)
  have m3 := mulB (x := w.1 + w.2.2.1) (y := w.1 + w.2.2.1) (A := 65691648) (B := 65691648) (by omega) (by omega)
  have m4 := mulB (x := w.2.1 + w.2.2.2) (y := w.2.1 + w.2.2.2) (A := 65691648) (B := 65691648) (by omega) (by omega)
  unfold eUp eLo
  omega
section
variable {Lx : Nat} {I : Mi} {L : Ml} {e : Nat} {Q : Kq}
set_option maxHeartbeats 4000000 in
theorem h_374 {ch : Ch} (hok : ChOk ch) (hc : ChAt I 5 ch) {m : Int} (hm : R32 m) (h : CQ Lx I e Q (spEndless ch m).1 (spEndless ch m).2) :
    Wp 374 0 [(0, .ref 1), (1, .int (Int32.ofInt m)), (2, .ref 70)] [] (gE Lx) I L e Q := by
  have h4 := hok.2.2.2.1
  have e3 := hc.2.2.2.1
  refine s_374_0 ?_
  rw [e3]
  unfold spEndless at h
  by_cases hb : m < 0 ∨ (ch.2.2.2.1 : Int) < m
  · rw [if_pos hb] at h
    exact i_ltz hm (fun _ => h.mk FrI.rf (by omega) rfl (fun z => by cases z)) (fun _ => i_lt32 (by omega) hm (fun _ => h.mk FrI.rf (by omega) rfl (fun z => by cases z)) (fun _ => by omega))
  · rw [if_neg hb] at h
    obtain ⟨k, rfl, hk⟩ := nat_of (m := m) (n := ch.2.2.2.1) (by omega) (by omega)
    rw [Int.toNat_natCast] at h
    refine i_ltz hm (fun _ => by omega) (fun _ => i_lt32 (by omega) hm (fun _ => by omega) (fun _ => c_106 (Or.inl rfl) hok hc hk (fun L1 hf1 hW1 => kcp_v rfl (s_123_17 ?_))))
    have hB := wSeen_B hok hk
    generalize wSeen ch k = w at *
    obtain ⟨w0, w1, w2, w3⟩ := hW1
    simp only [w2, w3]
    have fin : ∀ r : Int, (r = 0 ∨ r = 1) → (if wLo w = 0 then (1 : Int) else 0) = r → kcp (Wp 374) 374 4 0 [(0, .ref 1), (2, .ref 70)] 71 [.int (Int32.ofInt 0), .ref 70] Q (.inl (some (.int (Int32.ofInt r)))) (gE Lx) I L1 e := by
      intro r hr he
      rw [he] at h
      refine kcp_v rfl (s_374_7 ?_)
      rcases hr with rfl | rfl
      · exact i_eqz (by omega) (fun _ => i_inb0 (by decide) (h.mk (c := 0) FrI.rf (by omega) rfl (fun _ => l_at))) (fun k => absurd rfl k)
      · exact i_eqz (by omega) (fun k => by omega) (fun _ => i_inb0 (by decide) (h.mk (c := 0) FrI.rf (by omega) rfl (fun _ => l_at)))
    exact i_eq64 (by have := hB.2.2.1; omega) (by omega) (fun k1 => i_eq64 (by have := hB.2.2.2; omega) (by omega) (fun k2 => fin 1 (Or.inr rfl) (if_pos (wLo_z.mpr ⟨k1, k2⟩))) (fun k2 => fin 0 (Or.inl rfl) (if_neg (fun z => k2 (wLo_z.mp z).2)))) (fun k1 => fin 0 (Or.inl rfl) (if_neg (fun z => k1 (wLo_z.mp z).1)))
set_option maxHeartbeats 4000000 in
theorem r_238 {ch : Ch} (hok : ChOk ch) (hc : BnAt I 59 0 ch) {m : Int} (hm : R32 m) (h : RQ Lx I L e Q (spEndless ch m).1 vI (spEndless ch m).2) :
    Wp 238 0 [(0, .ref 58), (1, .int (Int32.ofInt m))] [] (gE Lx) I L e Q := by
  have h4 := hok.2.2.2.1
  have e3 : I 59 3 = Int32.ofInt (ch.2.2.2.1 : Int) := hc.2.2.2.1
  refine s_238_0 ?_
  rw [e3]
  unfold spEndless at h
  by_cases hb : m < 0 ∨ (ch.2.2.2.1 : Int) < m
  · rw [if_pos hb] at h
    exact i_lt32 hm (by omega) (fun _ => h.mk (v := 0) (FrI.wu FrI.rf rfl) rfl (c := 1) u_at rfl (fun z => by cases z)) (fun _ => i_lt32 (by omega) hm (fun _ => h.mk (v := 0) (FrI.wu FrI.rf rfl) rfl (c := 1) u_at rfl (fun z => by cases z)) (fun _ => by omega))
  · rw [if_neg hb] at h
    obtain ⟨k, rfl, hk⟩ := nat_of (m := m) (n := ch.2.2.2.1) (by omega) (by omega)
    rw [Int.toNat_natCast] at h
    refine i_lt32 hm (by omega) (fun _ => by omega) (fun _ => i_lt32 (by omega) hm (fun _ => by omega) (fun _ => c_227 hok (hc.th (by decide)) hk (fun L1 r hf1 hW1 hs hB => kcp_v rfl (s_238_31 ?_))))
    have fl1 : L1 70 = L 70 := hf1.at rfl
    have lz := hs.lo
    generalize wSeen ch k = w at *
    obtain ⟨w0, w1, w2, w3⟩ := hW1
    simp only [w2, w3]
    have fin : ∀ v : Int, (if wLo w = 0 then (1 : Int) else 0) = v → Q (.inl (some (.int (Int32.ofInt v)))) (gE Lx) (ui I 58 0 (Int32.ofInt 0)) L1 e := by
      intro v he
      exact h.mk (v := v) (FrI.wu FrI.rf rfl) fl1 (c := 0) u_at rfl (fun _ => he.symm)
    exact i_eq64 (by have := hB.2.2.1; omega) (by omega) (fun k1 => i_eq64 (by have := hB.2.2.2; omega) (by omega) (fun k2 => fin 1 (if_pos (lz.mpr (wLo_z.mpr ⟨k1, k2⟩)))) (fun k2 => fin 0 (if_neg (fun z => k2 (wLo_z.mp (lz.mp z)).2)))) (fun k1 => fin 0 (if_neg (fun z => k1 (wLo_z.mp (lz.mp z)).1)))
set_option maxHeartbeats 4000000 in
theorem h_375 {ch : Ch} (hok : ChOk ch) (hc : ChAt I 5 ch) {m lo : Int} (hm : R32 m) (hlo : R32 lo) (h : CQ Lx I e Q (spEcho ch m lo).1 (spEcho ch m lo).2) :
    Wp 375 0 [(0, .ref 1), (1, .int (Int32.ofInt m)), (2, .int (Int32.ofInt lo)), (3, .ref 70)] [] (gE Lx) I L e Q := by
  have h4 := hok.2.2.2.1
  have e3 := hc.2.2.2.1
  refine s_375_0 ?_
  rw [e3]
  unfold spEcho at h
  by_cases hb : m < 0 ∨ (ch.2.2.2.1 : Int) < m
  · rw [if_pos hb] at h
    exact i_ltz hm (fun _ => h.mk FrI.rf (by omega) rfl (fun z => by cases z)) (fun _ => i_lt32 (by omega) hm (fun _ => h.mk FrI.rf (by omega) rfl (fun z => by cases z)) (fun _ => by omega))
  · rw [if_neg hb] at h
    obtain ⟨k, rfl, hk⟩ := nat_of (m := m) (n := ch.2.2.2.1) (by omega) (by omega)
    rw [Int.toNat_natCast] at h
    refine i_ltz hm (fun _ => by omega) (fun _ => i_lt32 (by omega) hm (fun _ => by omega) (fun _ => c_106 (Or.inl rfl) hok hc hk (fun L1 hf1 hW1 => kcp_v rfl (s_124_17 ?_))))
    have hB := wSeen_B hok hk
    generalize wSeen ch k = w at *
    obtain ⟨w0, w1, w2, w3⟩ := hW1
    have v1 := ev_b hB
    simp only [w0, w1, w2, w3, mul64, add64, sub64]
    show Wp 25 0 [(0, .ref 18), (1, .long (Int64.ofInt (eUp w))), (3, .long (Int64.ofInt (eLo w)))] [] (gE Lx) I L1 e _
    refine c_25 (Or.inl rfl) (by omega) (by omega) (fun L2 hf2 hv2 => kcp_v rfl (s_124_38 ?_))
    rw [hv2.1, hv2.2]
    refine i_eqz hlo (fun k0 => kcp_v rfl (s_375_8 (i_inb0 (by decide) ?_))) (fun k0 => kcp_v rfl (s_375_8 (i_inb0 (by decide) ?_)))
    · rw [if_pos k0] at h
      exact h.mk (c := 0) FrI.rf (by omega) rfl (fun _ => l_at)
    · rw [if_neg k0] at h
      exact h.mk (c := 0) FrI.rf (by omega) rfl (fun _ => l_at)
set_option maxHeartbeats 4000000 in
theorem r_239 {ch : Ch} (hok : ChOk ch) (hc : BnAt I 59 0 ch) {m lo : Int} (hm : R32 m) (hlo : R32 lo) (h : RQ Lx I L e Q (spEcho ch m lo).1 vL (spEcho ch m lo).2) :
    Wp 239 0 [(0, .ref 58), (1, .int (Int32.ofInt m)), (2, .int (Int32.ofInt lo))] [] (gE Lx) I L e Q := by
  have h4 := hok.2.2.2.1
  have e3 : I 59 3 = Int32.ofInt (ch.2.2.2.1 : Int) := hc.2.2.2.1
  refine s_239_0 ?_
  rw [e3]
  unfold spEcho at h
  by_cases hb : m < 0 ∨ (ch.2.2.2.1 : Int) < m
  · rw [if_pos hb] at h
    exact i_lt32 hm (by omega) (fun _ => h.mk (v := 0) (FrI.wu FrI.rf rfl) rfl (c := 1) u_at rfl (fun z => by cases z)) (fun _ => i_lt32 (by omega) hm (fun _ => h.mk (v := 0) (FrI.wu FrI.rf rfl) rfl (c := 1) u_at rfl (fun z => by cases z)) (fun _ => by omega))
  · rw [if_neg hb] at h
    obtain ⟨k, rfl, hk⟩ := nat_of (m := m) (n := ch.2.2.2.1) (by omega) (by omega)
    rw [Int.toNat_natCast] at h
    refine i_lt32 hm (by omega) (fun _ => by omega) (fun _ => i_lt32 (by omega) hm (fun _ => by omega) (fun _ => c_227 hok (hc.th (by decide)) hk (fun L1 r hf1 hW1 hs hB => kcp_v rfl (s_239_31 (s_240_0 ?_)))))
    have fl1 : L1 70 = L 70 := hf1.at rfl
    have fe := hs.fE
    have hz : eLo r ≠ 0 := by
      intro z
      obtain ⟨c, hc, h9⟩ := hs
      have := eLo_pos (wSeen_g hok k hk)
      rw [h9, eLo_sm, z, Int.mul_zero] at this
      omega
    generalize wSeen ch k = w at *
    obtain ⟨w0, w1, w2, w3⟩ := hW1
    have v1 := ev_b hB
    simp only [w0, w1, w2, w3, mul64, add64, sub64]
    show Wp 236 0 [(0, .ref 58), (1, .long (Int64.ofInt (eUp r))), (3, .long (Int64.ofInt (eLo r)))] [] (gE Lx) (ui I 58 0 (Int32.ofInt 0)) L1 e _
    refine c_236 (by omega) (by omega) (fun L2 hf2 hu2 hl2 => kcp_v rfl (s_240_46 (kcp_v rfl (s_239_35 ?_))))
    have fl2 : L2 70 = L 70 := (hf2.at rfl).trans fl1
    rw [hu2, hl2, rU_f hz, rL_f hz]
    refine i_eqz hlo (fun k0 => ?_) (fun k0 => ?_)
    · rw [if_pos k0, fe.1] at h
      exact h.mk (FrI.wu FrI.rf rfl) fl2 (c := 0) u_at rfl (fun _ => rfl)
    · rw [if_neg k0, fe.2] at h
      exact h.mk (FrI.wu FrI.rf rfl) fl2 (c := 0) u_at rfl (fun _ => rfl)
end
