/-! Looking at a MARK, on both sides. -/
section
variable {Lx : Nat} {I : Mi} {L : Ml} {e : Nat} {Q : Kq}
theorem el_r {x : Int × Int × Int} (h : ElOk x) : R32 x.1 ∧ R32 x.2.1 ∧ R32 x.2.2 := by
  have := h.1; have := h.2.1; have := h.2.2.1
  exact ⟨by omega, by omega, by omega⟩
theorem l_106 {w : Nat} (hw : w = 14 ∨ w = 15) {ch : Ch} (hok : ChOk ch) (hc : ChAt I 5 ch) {m : Nat} (hm : m ≤ ch.2.2.2.1) : ∀ (n k : Nat), k + n = m → ∀ L : Ml, WvAt L w (wSeen ch k) → (∀ L', FrL [(w, 0, 4)] L L' → WvAt L' w (wSeen ch m) → Q (.inl none) (gE Lx) I L' e) →
    Wp 106 21 [(0, .ref 5), (1, .int (Int32.ofInt m)), (2, .ref w), (3, .int (Int32.ofInt k))] [] (gE Lx) I L e Q := by
  have h4 := hok.2.2.2.1
  intro n
  induction n with
  | zero =>
    intro k hk L hL h
    have hkm : k = m := by omega
    subst hkm
    have key := h L FrL.rf hL
    rcases hw with rfl | rfl
    · exact s_106_21_5_14 (i_lt32 (by omega) (by omega) (fun _ => by omega) (fun _ => key))
    · exact s_106_21_5_15 (i_lt32 (by omega) (by omega) (fun _ => by omega) (fun _ => key))
  | succ n ih =>
    intro k hk L hL h
    have hel := hok.2.2.2.2 k (by omega)
    obtain ⟨r1, r2, r3⟩ := el_r hel
    obtain ⟨e1, e2, e3⟩ := hc.2.2.2.2 k (by omega)
    have hB := (wSeen_B hok (show k ≤ ch.2.2.2.1 by omega)).le (show (32845824 : Int) ≤ 4611686018427387904 by decide)
    have step : ∀ L', FrL [(w, 0, 4)] L L' → WvAt L' w (wPass (ch.2.2.2.2 k).1 (ch.2.2.2.2 k).2.1 (ch.2.2.2.2 k).2.2 (wSeen ch k)) → Wp 106 21 [(0, .ref 5), (1, .int (Int32.ofInt m)), (2, .ref w), (3, .int (Int32.ofInt (k : Int) + Int32.ofInt 1))] [] (gE Lx) I L' e Q := by
      intro L' hf hW
      rw [add32]
      have := ih (k + 1) (by omega) L' hW (fun L2 hf2 hW2 => h L2 (FrL.tr hf hf2 (by rcases hw with rfl | rfl <;> rfl) (by rcases hw with rfl | rfl <;> rfl)) hW2)
      exact this
    rcases hw with rfl | rfl
    · refine s_106_21_5_14 (i_lt32 (by omega) (by omega) (fun _ => ?_) (fun _ => by omega))
      refine c_12 (Or.inl rfl) (by omega) (kcp_v rfl (s_106_32_5_14 (c_14 (Or.inl rfl) (by omega) (kcp_v rfl (s_106_37_5_14 (c_15 (Or.inl rfl) (by omega) (kcp_v rfl (s_106_43_5_14 ?_))))))))
      rw [e1, e2, e3, i2l r2, i2l r3]
      exact c_75 (by simp) hL hB r1 (fun L' hf hW => kcp_v rfl (s_106_47_5_14 (step L' hf hW)))
    · refine s_106_21_5_15 (i_lt32 (by omega) (by omega) (fun _ => ?_) (fun _ => by omega))
      refine c_12 (Or.inl rfl) (by omega) (kcp_v rfl (s_106_32_5_15 (c_14 (Or.inl rfl) (by omega) (kcp_v rfl (s_106_37_5_15 (c_15 (Or.inl rfl) (by omega) (kcp_v rfl (s_106_43_5_15 ?_))))))))
      rw [e1, e2, e3, i2l r2, i2l r3]
      exact c_75 (by simp) hL hB r1 (fun L' hf hW => kcp_v rfl (s_106_47_5_15 (step L' hf hW)))
theorem c_106 {w : Nat} (hw : w = 14 ∨ w = 15) {ch : Ch} (hok : ChOk ch) (hc : ChAt I 5 ch) {m : Nat} (hm : m ≤ ch.2.2.2.1) (h : ∀ L', FrL [(w, 0, 4)] L L' → WvAt L' w (wSeen ch m) → Q (.inl none) (gE Lx) I L' e) :
    Wp 106 0 [(0, .ref 5), (1, .int (Int32.ofInt m)), (2, .ref w)] [] (gE Lx) I L e Q := by
  obtain ⟨h1, h2, h3, h4, -⟩ := id hc
  have b1 := hok.1; have b2 := hok.2.1; have b3 := hok.2.2.1
  have key : ∀ L0, FrL [(w, 0, 4)] L L0 → WvAt L0 w (wBeg ch) → Wp 106 21 [(0, .ref 5), (1, .int (Int32.ofInt m)), (2, .ref w), (3, .int (Int32.ofInt 0))] [] (gE Lx) I L0 e Q := by
    intro L0 hf hW
    have := l_106 (Lx := Lx) (e := e) (Q := Q) hw hok hc hm m 0 (by omega) L0 hW (fun L2 hf2 hW2 => h L2 (FrL.tr hf hf2 (by rcases hw with rfl | rfl <;> rfl) (by rcases hw with rfl | rfl <;> rfl)) hW2)
    exact this
  rcases hw with rfl | rfl
  · refine s_106_0_5_14 ?_
    rw [h1, h2, h3, i2l (by omega), i2l (by omega), i2l (by omega)]
    exact key _ (fr4 rfl rfl rfl rfl) ⟨rfl, rfl, rfl, rfl⟩
  · refine s_106_0_5_15 ?_
    rw [h1, h2, h3, i2l (by omega), i2l (by omega), i2l (by omega)]
    exact key _ (fr4 rfl rfl rfl rfl) ⟨rfl, rfl, rfl, rfl⟩
/-- what all four of them share -/
def g4 (x : Wv) : Int := gI (gI x.1 x.2.1) (gI x.2.2.1 x.2.2.2)
def nW (x : Wv) : Wv := (x.1 / g4 x, x.2.1 / g4 x, x.2.2.1 / g4 x, x.2.2.2 / g4 x)
theorem g4_d (x : Wv) : g4 x ∣ x.1 ∧ g4 x ∣ x.2.1 ∧ g4 x ∣ x.2.2.1 ∧ g4 x ∣ x.2.2.2 :=
  ⟨Int.dvd_trans (gI_dl ..) (gI_dl ..), Int.dvd_trans (gI_dl ..) (gI_dr ..), Int.dvd_trans (gI_dr ..) (gI_dl ..), Int.dvd_trans (gI_dr ..) (gI_dr ..)⟩
theorem g4_nz {x : Wv} (h : ¬ (x.1 = 0 ∧ x.2.1 = 0 ∧ x.2.2.1 = 0 ∧ x.2.2.2 = 0)) : 0 < g4 x := by
  have h0 : 0 ≤ g4 x := gI_nn _ _
  have h1 : g4 x ≠ 0 := fun k => by
    obtain ⟨k1, k2⟩ := gI_0.mp k
    exact h ⟨(gI_0.mp k1).1, (gI_0.mp k1).2, (gI_0.mp k2).1, (gI_0.mp k2).2⟩
  omega
theorem nW_sm {x : Wv} (h : ¬ (x.1 = 0 ∧ x.2.1 = 0 ∧ x.2.2.1 = 0 ∧ x.2.2.2 = 0)) : x = sm (g4 x) (nW x) := by
  obtain ⟨d1, d2, d3, d4⟩ := g4_d x
  simp only [sm, nW]
  rw [Int.mul_ediv_cancel' d1, Int.mul_ediv_cancel' d2, Int.mul_ediv_cancel' d3, Int.mul_ediv_cancel' d4]
theorem dv_b {x g B : Int} (hg : 0 < g) (hx : -B ≤ x ∧ x ≤ B) (hd : g ∣ x) : -B ≤ x / g ∧ x / g ≤ B := by
  have h1 := Int.mul_ediv_cancel' hd
  have hB : 0 ≤ B := by omega
  generalize x / g = y at *
  rcases Int.le_total 0 y with h | h
  · have : 1 * y ≤ g * y := Int.mul_le_mul_of_nonneg_right (by omega) h
    omega
  · have : g * y ≤ 1 * y := Int.mul_le_mul_of_nonpos_right (by omega) h
    omega
theorem nW_B {x : Wv} {B : Int} (h : ¬ (x.1 = 0 ∧ x.2.1 = 0 ∧ x.2.2.1 = 0 ∧ x.2.2.2 = 0)) (hB : WB B x) : WB B (nW x) := by
  obtain ⟨d1, d2, d3, d4⟩ := g4_d x
  have hg := g4_nz h
  exact ⟨dv_b hg hB.1 d1, dv_b hg hB.2.1 d2, dv_b hg hB.2.2.1 d3, dv_b hg hB.2.2.2 d4⟩
theorem nW_sc {x : Wv} (h : ¬ (x.1 = 0 ∧ x.2.1 = 0 ∧ x.2.2.1 = 0 ∧ x.2.2.2 = 0)) : Sc x (nW x) := ⟨g4 x, by have := g4_nz h; omega, nW_sm h⟩
set_option maxHeartbeats 4000000 in
theorem c_228 {x : Wv} (hB : WB 9223372036854775807 x) (hz : ¬ (x.1 = 0 ∧ x.2.1 = 0 ∧ x.2.2.1 = 0 ∧ x.2.2.2 = 0)) (h : ∀ L', FrL [(58, 10, 4)] L L' → RvAt L' (nW x) → Q (.inl none) (gE Lx) I L' e) :
    Wp 228 0 [(0, .ref 58), (1, .long (Int64.ofInt x.1)), (3, .long (Int64.ofInt x.2.1)), (5, .long (Int64.ofInt x.2.2.1)), (7, .long (Int64.ofInt x.2.2.2))] [] (gE Lx) I L e Q := by
  obtain ⟨b1, b2, b3, b4⟩ := hB
  have n1 := gI_nn x.1 x.2.1
  have n2 := gI_nn x.2.2.1 x.2.2.2
  have m1 := gI_r b1 b2
  have m2 := gI_r b3 b4
  have hg := g4_nz hz
  have hgr : g4 x ≤ 9223372036854775807 := gI_r (by omega) (by omega)
  obtain ⟨d1, d2, d3, d4⟩ := g4_d x
  refine s_228_0 (c_209 b1 b2 (kcp_v rfl (s_228_5 (c_209 b3 b4 (kcp_v rfl (s_228_12 (c_209 (by omega) (by omega) (kcp_v rfl (s_228_15 ?_)))))))))
  show if Int64.ofInt (g4 x) = 0 then False else if Int64.ofInt (g4 x) = 0 then False else if Int64.ofInt (g4 x) = 0 then False else if Int64.ofInt (g4 x) = 0 then False else _
  refine i_nz64 (by omega) (by omega) (i_nz64 (by omega) (by omega) (i_nz64 (by omega) (by omega) (i_nz64 (by omega) (by omega) (h _ (FrL.wu (FrL.wu (FrL.wu (FrL.wu FrL.rf rfl) rfl) rfl) rfl) ⟨?_, ?_, ?_, ?_⟩))))
  · show Int64.ofInt x.1 / Int64.ofInt (g4 x) = _
    rw [dv64 (by omega) (by omega) (by omega), Int.tdiv_eq_ediv_of_dvd d1]; rfl
  · show Int64.ofInt x.2.1 / Int64.ofInt (g4 x) = _
    rw [dv64 (by omega) (by omega) (by omega), Int.tdiv_eq_ediv_of_dvd d2]; rfl
  · show Int64.ofInt x.2.2.1 / Int64.ofInt (g4 x) = _
    rw [dv64 (by omega) (by omega) (by omega), Int.tdiv_eq_ediv_of_dvd d3]; rfl
  · show Int64.ofInt x.2.2.2 / Int64.ofInt (g4 x) = _
    rw [dv64 (by omega) (by omega) (by omega), Int.tdiv_eq_ediv_of_dvd d4]; rfl
theorem c_230 {s p q : Int} (hs : R32 s) (hp : R63 p) (h : Q (.inl (some (.long (Int64.ofInt (rUp s p q))))) (gE Lx) I L e) : Wp 230 0 [(0, .int (Int32.ofInt s)), (1, .long (Int64.ofInt p)), (3, .long (Int64.ofInt q))] [] (gE Lx) I L e Q := by
  unfold rUp at h
  refine s_230_0 (i_eq32 hs (by omega) (fun k => ?_) (fun k => i_eq32 hs (by omega) (fun k2 => ?_) (fun k2 => i_lt64 (by omega) (by omega) (fun k3 => ?_) (fun k3 => i_lt64 (by omega) (by omega) (fun k4 => ?_) (fun k4 => ?_)))))
  · rw [if_pos (Or.inl k)] at h; exact h
  · rw [if_pos (Or.inr k2)] at h; exact h
  · rw [if_neg (by omega), if_pos k3] at h; rw [neg64]; exact h
  · rw [if_neg (by omega), if_neg (by omega), if_pos k4] at h; exact h
  · rw [if_neg (by omega), if_neg (by omega), if_neg (by omega)] at h; exact h
theorem c_232 {s p q : Int} (hs : R32 s) (hp : R63 p) (h : Q (.inl (some (.long (Int64.ofInt (rLo s p q))))) (gE Lx) I L e) : Wp 232 0 [(0, .int (Int32.ofInt s)), (1, .long (Int64.ofInt p)), (3, .long (Int64.ofInt q))] [] (gE Lx) I L e Q := by
  unfold rLo at h
  refine s_232_0 (i_eq32 hs (by omega) (fun k => ?_) (fun k => i_eq32 hs (by omega) (fun k2 => ?_) (fun k2 => i_lt64 (by omega) (by omega) (fun k3 => ?_) (fun k3 => ?_))))
  · rw [if_pos (Or.inl k)] at h; exact h
  · rw [if_pos (Or.inr k2)] at h; exact h
  · rw [if_neg (by omega), if_pos k3] at h; rw [neg64]; exact h
  · rw [if_neg (by omega), if_neg (by omega)] at h; exact h
end
