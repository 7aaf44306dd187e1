/-! A fraction told in its least numbers is a TANGENT if the numbers are small. -/
theorem fr_is {n d : Int} (h : ¬ (n = 0 ∧ d = 0)) : 0 ≤ fL n d ∧ gI (fU n d) (fL n d) = 1 ∧ (0 < fL n d ∨ fU n d = 1) := by
  have hg := gI_pos h
  have e1 : gI n d * (n / gI n d) = n := Int.mul_ediv_cancel' (gI_dl n d)
  have e2 : gI n d * (d / gI n d) = d := Int.mul_ediv_cancel' (gI_dr n d)
  unfold fU fL
  rw [if_neg h, if_neg h]
  generalize n / gI n d = a at *
  generalize d / gI n d = b at *
  have e3 : gI (gI n d * a) (gI n d * b) = gI n d * gI a b := gI_mul hg
  rw [e1, e2] at e3
  generalize gI n d = g at *
  have e4 : gI a b = 1 := by
    have : g * gI a b = g * 1 := by omega
    exact Int.eq_of_mul_eq_mul_left (by omega) this
  rcases Int.lt_trichotomy d 0 with k | k | k
  · have hb : b < 0 := by
      refine Int.not_le.mp (fun q => ?_)
      have := Int.mul_nonneg (show 0 ≤ g by omega) q
      omega
    rw [if_pos (Or.inl k), if_pos k, gI_abs (a := a) (b := b) (Or.inr rfl) (Or.inr rfl)]
    exact ⟨by omega, e4, Or.inl (by omega)⟩
  · have hb : b = 0 := by
      rcases Int.mul_eq_zero.mp (e2.trans k) with q | q
      · omega
      · exact q
    subst hb
    have e5 : (a.natAbs : Int) = 1 := by
      unfold gI at e4
      rw [Int.gcd_zero_right] at e4
      exact e4
    rw [if_neg (show ¬ d < 0 by omega)]
    by_cases kn : n < 0
    · have ha : a < 0 := by
        refine Int.not_le.mp (fun q => ?_)
        have := Int.mul_nonneg (show 0 ≤ g by omega) q
        omega
      rw [if_pos (Or.inr ⟨k, kn⟩), gI_abs (a := a) (b := 0) (Or.inr rfl) (Or.inl rfl)]
      exact ⟨by omega, e4, Or.inr (by omega)⟩
    · have ha : 0 ≤ a := by
        refine Int.not_lt.mp (fun q => ?_)
        have := Int.mul_neg_of_pos_of_neg hg q
        omega
      rw [if_neg (by omega)]
      exact ⟨by omega, e4, Or.inr (by omega)⟩
  · have hb : 0 < b := by
      refine Int.not_le.mp (fun q => ?_)
      have : 0 ≤ g * -b := Int.mul_nonneg (by omega) (by omega)
      rw [Int.mul_neg] at this
      omega
    rw [if_neg (by omega), if_neg (by omega)]
    exact ⟨by omega, e4, Or.inl hb⟩
theorem isT_fr {n d : Int} (h : ¬ (n = 0 ∧ d = 0)) : isT (fU n d) (fL n d) ↔ (-12 ≤ fU n d ∧ fU n d ≤ 12) ∧ fL n d ≤ 12 := by
  obtain ⟨h1, h2, h3⟩ := fr_is h
  exact ⟨fun k => ⟨k.1, k.2.1.2⟩, fun k => ⟨k.1, ⟨h1, k.2⟩, h2, h3⟩⟩
