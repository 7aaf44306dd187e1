/-! Roots of what is told by a square. -/
theorem rt_sq {a : Int} (h : 0 ≤ a) : rt (a * a) = a := by
  refine rt_eq ⟨h, by omega, ?_⟩
  have : (a + 1) * (a + 1) = a * a + 2 * a + 1 := by grind
  omega
theorem prR_nn (v : Int) : 0 ≤ prR v := by
  unfold prR
  split
  · omega
  · exact (rt_sp (by omega)).1
theorem prS_i {v a : Int} (h : 0 ≤ a) (e : v = a * a) : prS v ∧ prR v = a := by
  have n := sq_nn a
  have : prR v = a := by unfold prR; rw [if_neg (by omega), e, rt_sq h]
  exact ⟨by unfold prS; rw [this, e], this⟩
theorem prR_k {k v : Int} (hk : 0 < k) (hs : prS v) : prS (k * k * v) ∧ prR (k * k * v) = k * prR v := by
  have e : k * k * v = (k * prR v) * (k * prR v) := by
    have : prR v * prR v = v := hs
    rw [← this]
    grind
  exact prS_i (Int.mul_nonneg (by omega) (prR_nn v)) e
theorem dvd_sq {k r : Int} (h : k * k ∣ r * r) : k ∣ r := by
  have h1 : k.natAbs ^ 2 ∣ r.natAbs ^ 2 := by
    have := Int.natAbs_dvd_natAbs.mpr h
    rw [Int.natAbs_mul, Int.natAbs_mul] at this
    rw [Nat.pow_two, Nat.pow_two]
    exact this
  exact Int.natAbs_dvd_natAbs.mp ((Nat.pow_dvd_pow_iff (by decide)).mp h1)
theorem prS_k {k v : Int} (hk : 0 < k) : prS (k * k * v) ↔ prS v := by
  constructor
  · intro h
    have h' : prR (k * k * v) * prR (k * k * v) = k * k * v := h
    obtain ⟨c, hc⟩ := dvd_sq (k := k) (r := prR (k * k * v)) ⟨v, h'⟩
    have hn := prR_nn (k * k * v)
    rw [hc] at h' hn
    have hc0 : 0 ≤ c := by
      refine Int.not_lt.mp (fun q => ?_)
      have := Int.mul_neg_of_pos_of_neg hk q
      omega
    have e : k * k * (c * c) = k * k * v := by rw [← h']; grind
    have hkk : k * k ≠ 0 := by have := Int.mul_pos hk hk; omega
    exact (prS_i hc0 (Int.eq_of_mul_eq_mul_left hkk e).symm).1
  · intro h
    exact (prR_k hk h).1
