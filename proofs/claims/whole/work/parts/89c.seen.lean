/-! seen, isEndless, echo. -/
def spSeen (ch : Ch) (m x lo : Int) : Nat × Int := if m < 0 ∨ (ch.2.2.2.1 : Int) < m then (1, 0) else if wLo (wSeen ch m.toNat) = 0 then (2, 0) else
  (0, if x = 0 then (if lo = 0 then fU (wRe (wSeen ch m.toNat)) (wLo (wSeen ch m.toNat)) else fL (wRe (wSeen ch m.toNat)) (wLo (wSeen ch m.toNat))) else (if lo = 0 then fU (wIm (wSeen ch m.toNat)) (wLo (wSeen ch m.toNat)) else fL (wIm (wSeen ch m.toNat)) (wLo (wSeen ch m.toNat))))
def spEndless (ch : Ch) (m : Int) : Nat × Int := if m < 0 ∨ (ch.2.2.2.1 : Int) < m then (1, 0) else (0, if wLo (wSeen ch m.toNat) = 0 then 1 else 0)
def spEcho (ch : Ch) (m lo : Int) : Nat × Int := if m < 0 ∨ (ch.2.2.2.1 : Int) < m then (1, 0) else (0, if lo = 0 then fU (eUp (wSeen ch m.toNat)) (eLo (wSeen ch m.toNat)) else fL (eUp (wSeen ch m.toNat)) (eLo (wSeen ch m.toNat)))
section
variable {Lx : Nat} {I : Mi} {L : Ml} {e : Nat} {Q : Kq}
set_option maxHeartbeats 4000000 in
theorem h_373 {ch : Ch} (hok : ChOk ch) (hc : ChAt I 5 ch) {m x lo : Int} (hm : R32 m) (hx : R32 x) (hlo : R32 lo) (h : CQ Lx I e Q (spSeen ch m x lo).1 (spSeen ch m x lo).2) :
    Wp 373 0 [(0, .ref 1), (1, .int (Int32.ofInt m)), (2, .int (Int32.ofInt x)), (3, .int (Int32.ofInt lo)), (4, .ref 70)] [] (gE Lx) I L e Q := by
  have h4 := hok.2.2.2.1
  have e3 := hc.2.2.2.1
  refine s_373_0 ?_
  rw [e3]
  unfold spSeen at h
  by_cases hb : m < 0 ∨ (ch.2.2.2.1 : Int) < m
  · rw [if_pos hb] at h
    exact i_ltz hm (fun _ => h.mk FrI.rf (by omega) rfl (fun z => by cases z)) (fun _ => i_lt32 (by omega) hm (fun _ => h.mk FrI.rf (by omega) rfl (fun z => by cases z)) (fun _ => by omega))
  · rw [if_neg hb] at h
    obtain ⟨k, rfl, hk⟩ := nat_of (m := m) (n := ch.2.2.2.1) (by omega) (by omega)
    rw [Int.toNat_natCast] at h
    refine i_ltz hm (fun _ => by omega) (fun _ => i_lt32 (by omega) hm (fun _ => by omega) (fun _ => c_106 (Or.inl rfl) hok hc hk (fun L1 hf1 hW1 => kcp_v rfl (s_121_17 ?_))))
    have hB := wSeen_B hok hk
    have hG := wSeen_g hok k hk
    generalize wSeen ch k = w at *
    obtain ⟨w0, w1, w2, w3⟩ := hW1
    obtain ⟨v1, v2, v3, v4, v5, v6⟩ := wv_b hB
    have v7 := wLo_nn w
    simp only [w0, w1, w2, w3, mul64, add64, sub64]
    by_cases hz : wLo w = 0
    · rw [if_pos hz] at h
      obtain ⟨z1, z2⟩ := wLo_z.mp hz
      exact i_eq64 (by have := hB.2.2.1; omega) (by omega) (fun _ => i_eq64 (by have := hB.2.2.2; omega) (by omega) (fun _ => kcp_h rfl (h.mk (c := 2) FrI.rf (by omega) rfl (fun z => by cases z))) (fun k1 => absurd z2 k1)) (fun k1 => absurd z1 k1)
    · rw [if_neg hz] at h
      have go : ∀ (u : Int), (-2157696310910976 ≤ u ∧ u ≤ 2157696310910976) → CQ Lx I e Q 0 (if lo = 0 then fU u (wLo w) else fL u (wLo w)) →
          Wp 25 0 [(0, .ref 18), (1, .long (Int64.ofInt u)), (3, .long (Int64.ofInt (wLo w)))] [] (gE Lx) I L1 e (kcp (Wp 121) 121 67 0 [(0, .ref 1), (3, .int (Int32.ofInt lo))] 71 [] (kcp (Wp 373) 373 7 0 [(0, .ref 1), (4, .ref 70)] 71 [.int (Int32.ofInt 0), .ref 70] Q)) := by
        intro u hu hq
        refine c_25 (Or.inl rfl) (by omega) (by omega) (fun L2 hf2 hv2 => kcp_v rfl (s_121_70 ?_))
        rw [hv2.1, hv2.2]
        refine i_eqz hlo (fun k0 => kcp_v rfl (s_373_10 (i_inb0 (by decide) ?_))) (fun k0 => kcp_v rfl (s_373_10 (i_inb0 (by decide) ?_)))
        · rw [if_pos k0] at hq
          exact hq.mk (c := 0) FrI.rf (by omega) rfl (fun _ => l_at)
        · rw [if_neg k0] at hq
          exact hq.mk (c := 0) FrI.rf (by omega) rfl (fun _ => l_at)
      have both : if Int32.ofInt x = 0 then Wp 25 0 [(0, .ref 18), (1, .long (Int64.ofInt (wRe w))), (3, .long (Int64.ofInt (wLo w)))] [] (gE Lx) I L1 e (kcp (Wp 121) 121 67 0 [(0, .ref 1), (3, .int (Int32.ofInt lo))] 71 [] (kcp (Wp 373) 373 7 0 [(0, .ref 1), (4, .ref 70)] 71 [.int (Int32.ofInt 0), .ref 70] Q))
          else Wp 25 0 [(0, .ref 18), (1, .long (Int64.ofInt (wIm w))), (3, .long (Int64.ofInt (wLo w)))] [] (gE Lx) I L1 e (kcp (Wp 121) 121 67 0 [(0, .ref 1), (3, .int (Int32.ofInt lo))] 71 [] (kcp (Wp 373) 373 7 0 [(0, .ref 1), (4, .ref 70)] 71 [.int (Int32.ofInt 0), .ref 70] Q)) := by
        refine i_eqz hx (fun k0 => go _ v1 ?_) (fun k0 => go _ v2 ?_)
        · rw [if_pos k0] at h; exact h
        · rw [if_neg k0] at h; exact h
      exact i_eq64 (by have := hB.2.2.1; omega) (by omega) (fun k1 => i_eq64 (by have := hB.2.2.2; omega) (by omega) (fun k2 => absurd (wLo_z.mpr ⟨k1, k2⟩) hz) (fun _ => both)) (fun _ => both)
set_option maxHeartbeats 4000000 in
theorem r_225 {ch : Ch} (hok : ChOk ch) (hc : BnAt I 59 0 ch) {m x lo : Int} (hm : R32 m) (hx : R32 x) (hlo : R32 lo) (h : RQ Lx I L e Q (spSeen ch m x lo).1 vL (spSeen ch m x lo).2) :
    Wp 225 0 [(0, .ref 58), (1, .int (Int32.ofInt m)), (2, .int (Int32.ofInt x)), (3, .int (Int32.ofInt lo))] [] (gE Lx) I L e Q := by
  have h4 := hok.2.2.2.1
  have e3 : I 59 3 = Int32.ofInt (ch.2.2.2.1 : Int) := hc.2.2.2.1
  refine s_225_0 ?_
  rw [e3]
  unfold spSeen at h
  by_cases hb : m < 0 ∨ (ch.2.2.2.1 : Int) < m
  · rw [if_pos hb] at h
    exact i_lt32 hm (by omega) (fun _ => h.mk (v := 0) (FrI.wu FrI.rf rfl) rfl (c := 1) u_at rfl (fun z => by cases z)) (fun _ => i_lt32 (by omega) hm (fun _ => h.mk (v := 0) (FrI.wu FrI.rf rfl) rfl (c := 1) u_at rfl (fun z => by cases z)) (fun _ => by omega))
  · rw [if_neg hb] at h
    obtain ⟨k, rfl, hk⟩ := nat_of (m := m) (n := ch.2.2.2.1) (by omega) (by omega)
    rw [Int.toNat_natCast] at h
    refine i_lt32 hm (by omega) (fun _ => by omega) (fun _ => i_lt32 (by omega) hm (fun _ => by omega) (fun _ => c_227 hok (hc.th (by decide)) hk (fun L1 r hf1 hW1 hs hB => kcp_v rfl (s_225_31 ?_))))
    have fl1 : L1 70 = L 70 := hf1.at rfl
    have lz := hs.lo
    have fre := hs.fRe
    have fim := hs.fIm
    generalize wSeen ch k = w at *
    obtain ⟨w0, w1, w2, w3⟩ := hW1
    obtain ⟨v1, v2, v3, v4, v5, v6⟩ := wv_b hB
    have v7 := wLo_nn r
    simp only [w0, w1, w2, w3, mul64, add64, sub64]
    by_cases hz : wLo w = 0
    · rw [if_pos hz] at h
      obtain ⟨z1, z2⟩ := wLo_z.mp (lz.mp hz)
      exact i_eq64 (by have := hB.2.2.1; omega) (by omega) (fun _ => i_eq64 (by have := hB.2.2.2; omega) (by omega) (fun _ => h.mk (v := 0) (FrI.wu (FrI.wu FrI.rf rfl) rfl) fl1 (c := 2) u_at rfl (fun z => by cases z)) (fun k1 => absurd z2 k1)) (fun k1 => absurd z1 k1)
    · rw [if_neg hz] at h
      have hzr : wLo r ≠ 0 := fun k => hz (lz.mpr k)
      have go : ∀ (u : Int), (-2157696310910976 ≤ u ∧ u ≤ 2157696310910976) → RQ Lx I L e Q 0 vL (if lo = 0 then fU u (wLo r) else fL u (wLo r)) →
          Wp 236 0 [(0, .ref 58), (1, .long (Int64.ofInt u)), (3, .long (Int64.ofInt (wLo r)))] [] (gE Lx) (ui (ui I 58 0 (Int32.ofInt 0)) 58 0 (Int32.ofInt 0)) L1 e (kcp (Wp 225) 225 117 0 [(0, .ref 58), (3, .int (Int32.ofInt lo))] 71 [] Q) := by
        intro u hu hq
        refine c_236 (by omega) (by omega) (fun L2 hf2 hu2 hl2 => kcp_v rfl (s_225_120 ?_))
        have fl2 : L2 70 = L 70 := (hf2.at rfl).trans fl1
        rw [hu2, hl2, rU_f hzr, rL_f hzr]
        refine i_eqz hlo (fun k0 => ?_) (fun k0 => ?_)
        · rw [if_pos k0] at hq
          exact hq.mk (FrI.wu (FrI.wu FrI.rf rfl) rfl) fl2 (c := 0) u_at rfl (fun _ => rfl)
        · rw [if_neg k0] at hq
          exact hq.mk (FrI.wu (FrI.wu FrI.rf rfl) rfl) fl2 (c := 0) u_at rfl (fun _ => rfl)
      have both : if Int32.ofInt x = 0 then Wp 236 0 [(0, .ref 58), (1, .long (Int64.ofInt (wRe r))), (3, .long (Int64.ofInt (wLo r)))] [] (gE Lx) (ui (ui I 58 0 (Int32.ofInt 0)) 58 0 (Int32.ofInt 0)) L1 e (kcp (Wp 225) 225 117 0 [(0, .ref 58), (3, .int (Int32.ofInt lo))] 71 [] Q)
          else Wp 236 0 [(0, .ref 58), (1, .long (Int64.ofInt (wIm r))), (3, .long (Int64.ofInt (wLo r)))] [] (gE Lx) (ui (ui I 58 0 (Int32.ofInt 0)) 58 0 (Int32.ofInt 0)) L1 e (kcp (Wp 225) 225 117 0 [(0, .ref 58), (3, .int (Int32.ofInt lo))] 71 [] Q) := by
        refine i_eqz hx (fun k0 => go _ v1 ?_) (fun k0 => go _ v2 ?_)
        · rw [if_pos k0, fre.1, fre.2] at h; exact h
        · rw [if_neg k0, fim.1, fim.2] at h; exact h
      exact i_eq64 (by have := hB.2.2.1; omega) (by omega) (fun k1 => i_eq64 (by have := hB.2.2.2; omega) (by omega) (fun k2 => absurd (wLo_z.mpr ⟨k1, k2⟩) hzr) (fun _ => both)) (fun _ => both)
end
