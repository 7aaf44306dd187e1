/-! The pair on the other side: what is asked for is laid in two numbers without a common one, and what is under the root. -/
def lay (g b x y : Int) : Int := g * (b * (x * x + y * y) - g * x * x)
section
variable {Lx : Nat} {I : Mi} {L : Ml} {e : Nat} {Q : Kq}
set_option maxHeartbeats 4000000 in
theorem c_283 {al x y : Int} (hal : R32 al) (hx : R32 x) (hy : R32 y) {z : Pt} (ho : PtOk z) (hnn : ¬ (al = 0 ∧ z.1 = 0 ∧ z.2.1 = 0)) (hp : RpAt L z)
    (h : ∀ L', FrL [(58, 8, 6), (58, 21, 3)] L L' → L' 58 21 = .ofInt (fU (rlN al z).1 (rlN al z).2) → L' 58 22 = .ofInt (fL (rlN al z).1 (rlN al z).2) → L' 58 23 = .ofInt (lay (fU (rlN al z).1 (rlN al z).2) (fL (rlN al z).1 (rlN al z).2) x y) → Q (.inl none) (gE Lx) I L' e) :
    Wp 283 0 [(0, .ref 58), (1, .int (Int32.ofInt al)), (2, .int (Int32.ofInt x)), (3, .int (Int32.ofInt y))] [] (gE Lx) I L e Q := by
  obtain ⟨p0, p1, p2⟩ := hp
  obtain ⟨o1, o2, o3⟩ := ho
  have hB : WB 1000 (z.1, z.2.1, z.2.2, 0) := ⟨show -1000 ≤ z.1 ∧ z.1 ≤ 1000 by omega, o2, show -1000 ≤ z.2.2 ∧ z.2.2 ≤ 1000 by omega, show -1000 ≤ (0 : Int) ∧ (0 : Int) ≤ 1000 by decide⟩
  have hz : ¬ (z.1 = 0 ∧ z.2.1 = 0 ∧ z.2.2 = 0 ∧ (0 : Int) = 0) := by omega
  refine s_283_0 ?_
  rw [p0, p1, p2]
  refine c_228 (x := (z.1, z.2.1, z.2.2, 0)) (hB.le (by decide)) hz (fun L2 hf2 hW => kcp_v rfl (s_276_17 (kcp_v rfl (s_283_4 ?_))))
  have hB2 := (nW_B (x := (z.1, z.2.1, z.2.2, 0)) hz hB).le (show (1000 : Int) ≤ 32845824 by decide)
  obtain ⟨c, hc0, hs⟩ := nW_sc (x := (z.1, z.2.1, z.2.2, 0)) hz
  have a1 : wRe (z.1, z.2.1, z.2.2, 0) = (c * c) * wRe (nW (z.1, z.2.1, z.2.2, 0)) := by rw [← wRe_sm, ← hs]
  have a2 : wUp (z.1, z.2.1, z.2.2, 0) = (c * c) * wUp (nW (z.1, z.2.1, z.2.2, 0)) := by rw [← wUp_sm, ← hs]
  have a3 : wLo (z.1, z.2.1, z.2.2, 0) = (c * c) * wLo (nW (z.1, z.2.1, z.2.2, 0)) := by rw [← wLo_sm, ← hs]
  have b1 : wRe (z.1, z.2.1, z.2.2, 0) = z.1 * z.2.2 := by unfold wRe; simp
  have b2 : wUp (z.1, z.2.1, z.2.2, 0) = z.1 * z.1 + z.2.1 * z.2.1 := rfl
  have b3 : wLo (z.1, z.2.1, z.2.2, 0) = z.2.2 * z.2.2 := by unfold wLo; simp
  generalize nW (z.1, z.2.1, z.2.2, 0) = r at *
  have hcc := sq_pos hc0
  obtain ⟨v1, v2, v3, v4, v5, v6⟩ := wv_b hB2
  have v7 := wLo_nn r
  have v8 := wUp_nn r
  obtain ⟨w0, w1, w2, w3⟩ := hW
  rw [w0, w1, w2, w3]
  simp only [mul64, add64]
  have fin : ∀ n d : Int, (-2157696310910976 ≤ n ∧ n ≤ 2157696310910976) → (-2157696310910976 ≤ d ∧ d ≤ 2157696310910976) → d ≠ 0 → fU n d = fU (rlN al z).1 (rlN al z).2 → fL n d = fL (rlN al z).1 (rlN al z).2 → Wp 236 0 [(0, .ref 58), (1, .long (Int64.ofInt n)), (3, .long (Int64.ofInt d))] [] (gE Lx) I L2 e (kcp (Wp 283) 283 14 0 [(0, .ref 58), (2, .int (Int32.ofInt x)), (3, .int (Int32.ofInt y))] 71 [] Q) := by
    intro n d hn hd hd0 f1 f2
    refine c_236 (by omega) (by omega) (fun L3 hf3 k8 k9 => kcp_v rfl (s_283_17 ?_))
    have hf : FrL [(58, 8, 6), (58, 21, 3)] L L3 := FrL.tr hf2 hf3 rfl rfl
    rw [k8, k9, rU_f hd0, rL_f hd0, f1, f2, i2l hx, i2l hy]
    simp only [mul64, add64, sub64]
    exact h _ (FrL.wu (FrL.wu (FrL.wu hf rfl) rfl) rfl) rfl rfl rfl
  unfold rlN at fin
  refine i_eqz hal (fun k0 => ?_) (fun k0 => ?_)
  · simp only [if_pos k0] at fin
    have hnz : wUp r ≠ 0 := fun k => by
      rw [k, Int.mul_zero] at a2
      have := sq2_pos (x := z.1) (y := z.2.1) (by omega)
      omega
    refine fin (wRe r) (wUp r) v1 (by omega) hnz ?_ ?_
    · rw [← b1, ← b2, a1, a2, fU_mul hcc]
    · rw [← b1, ← b2, a1, a2, fL_mul hcc]
  · simp only [if_neg k0] at fin
    have h3 : 0 < z.2.2 * z.2.2 := sq_pos (by omega)
    have hnz : wLo r ≠ 0 := fun k => by
      rw [k, Int.mul_zero] at a3
      omega
    have g1 : fU (z.2.2 * z.1) (z.2.2 * z.2.2) = fU z.1 z.2.2 := fU_mul (by omega)
    have g2 : fL (z.2.2 * z.1) (z.2.2 * z.2.2) = fL z.1 z.2.2 := fL_mul (by omega)
    refine fin (wRe r) (wLo r) v1 (by omega) hnz ?_ ?_
    · rw [← g1, Int.mul_comm z.2.2 z.1, ← b1, ← b3, a1, a3, fU_mul hcc]
    · rw [← g2, Int.mul_comm z.2.2 z.1, ← b1, ← b3, a1, a3, fL_mul hcc]
/-- how many ways the numbers laid tell -/
def wayN (g v : Int) : Int := if g = 0 then 0 else if v < 0 then 0 else if v = 0 then 1 else 2
theorem lay_k {k g b x y : Int} : lay (k * g) (k * b) x y = k * k * lay g b x y := by unfold lay; grind
end
