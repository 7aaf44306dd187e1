/-! Floors of a quotient, as both sides take them. -/
def fl (a b : Int) : Int := if 0 < b then a / b else (-a) / (-b)
theorem fl_eq {a b q r : Int} (e : a = b * q + r) (h : (0 ≤ r ∧ r < b) ∨ (b < r ∧ r ≤ 0)) : fl a b = q := by
  unfold fl
  rcases h with h | h
  · rw [if_pos (by omega)]
    exact ((Int.ediv_emod_unique (by omega)).mpr ⟨by omega, h.1, h.2⟩ : a / b = q ∧ a % b = r).1
  · rw [if_neg (by omega)]
    exact ((Int.ediv_emod_unique (by omega)).mpr ⟨by rw [Int.neg_mul]; omega, by omega, by omega⟩ : (-a) / (-b) = q ∧ (-a) % (-b) = -r).1
theorem fl_neg (a b : Int) (hb : b ≠ 0) : fl (-a) (-b) = fl a b := by
  unfold fl
  by_cases h : 0 < b
  · rw [if_pos h, if_neg (by omega), Int.neg_neg, Int.neg_neg]
  · rw [if_neg h, if_pos (by omega)]
theorem td_s {a b : Int} (hb : b ≠ 0) : a = b * a.tdiv b + a.tmod b ∧ ((0 ≤ a → 0 ≤ a.tmod b) ∧ (a < 0 → a.tmod b ≤ 0)) ∧ (-a.tmod b < b ∨ -a.tmod b < -b) ∧ (a.tmod b < b ∨ a.tmod b < -b) := by
  refine ⟨(Int.mul_tdiv_add_tmod a b).symm, ⟨fun k => Int.tmod_nonneg b k, fun k => ?_⟩, ?_⟩
  · have := Int.tmod_nonneg b (show 0 ≤ -a by omega)
    rw [Int.neg_tmod] at this
    omega
  · rcases (show 0 < b ∨ b < 0 by omega) with k | k
    · have h1 := Int.tmod_lt_of_pos a k
      have h2 := Int.lt_tmod_of_pos a k
      omega
    · have h1 := Int.tmod_lt_of_pos a (show 0 < -b by omega)
      have h2 := Int.lt_tmod_of_pos a (show 0 < -b by omega)
      rw [Int.tmod_neg] at h1 h2
      omega
theorem td_b {a b A : Int} (h : -A ≤ a ∧ a ≤ A) : -A ≤ a.tdiv b ∧ a.tdiv b ≤ A := by
  have := Int.natAbs_tdiv_le_natAbs a b
  omega
theorem x64 {a b : Int} (ha : R64 a) (hb : R64 b) : (Int64.ofInt a ^^^ Int64.ofInt b) < Int64.ofInt 0 ↔ ((a < 0) ↔ ¬ (b < 0)) := by
  have e : ∀ x : Int64, x.toBitVec.msb = decide (x.toInt < 0) := fun x => BitVec.msb_eq_toInt
  have e1 := e (Int64.ofInt a)
  have e2 := e (Int64.ofInt b)
  have e3 := e (Int64.ofInt a ^^^ Int64.ofInt b)
  rw [Int64.toBitVec_xor, BitVec.msb_xor, e1, e2, ti64 ha, ti64 hb] at e3
  rw [Int64.lt_iff_toInt_lt, ti64 (show R64 0 by omega)]
  by_cases h1 : a < 0 <;> by_cases h2 : b < 0 <;> simp [h1, h2] at e3 ⊢ <;> omega
section
variable {Lx : Nat} {I : Mi} {L : Ml} {e : Nat} {Q : Kq}
/-- the class' floor -/
theorem n_fl {a b : Int} (ha : -2305843009213693952 ≤ a ∧ a ≤ 2305843009213693952) (hb : -2305843009213693952 ≤ b ∧ b ≤ 2305843009213693952) (hz : b ≠ 0) (h : Q (.inl (some (.long (Int64.ofInt (fl a b))))) (gE Lx) I L e) :
    if Int64.ofInt b = 0 then False else if (Int64.ofInt a ^^^ Int64.ofInt b) < Int64.ofInt 0 then (if (Int64.ofInt a / Int64.ofInt b) * Int64.ofInt b = Int64.ofInt a then Q (.inl (some (.long (Int64.ofInt a / Int64.ofInt b)))) (gE Lx) I L e else Q (.inl (some (.long (Int64.ofInt a / Int64.ofInt b - Int64.ofInt 1)))) (gE Lx) I L e) else Q (.inl (some (.long (Int64.ofInt a / Int64.ofInt b)))) (gE Lx) I L e := by
  have hs := td_s (a := a) hz
  have hq := td_b (b := b) ha
  have key : ∀ q : Int, fl a b = q → Q (.inl (some (.long (Int64.ofInt q)))) (gE Lx) I L e := fun q k => by rw [← k]; exact h
  rw [dv64 (by omega) (by omega) (by omega), mul64, sub64, Int.mul_comm]
  generalize a.tdiv b = q at *
  generalize a.tmod b = r at *
  obtain ⟨e1, ⟨s1, s2⟩, b1, b2⟩ := hs
  refine i_nz64 (by omega) hz ?_
  by_cases hx : (a < 0) ↔ ¬ (b < 0)
  · rw [if_pos ((x64 (by omega) (by omega)).mpr hx)]
    refine i_eq64 (by omega) (by omega) (fun k => key _ (fl_eq (r := 0) (by omega) (by omega))) (fun k => key _ (fl_eq (r := r + b) (by rw [Int.mul_sub]; omega) (by omega)))
  · rw [if_neg (fun k => hx ((x64 (by omega) (by omega)).mp k))]
    exact key _ (fl_eq (r := r) e1 (by omega))
/-- the other side's floor -/
theorem n_rf {a b : Int} (ha : -2305843009213693952 ≤ a ∧ a ≤ 2305843009213693952) (hb : -2305843009213693952 ≤ b ∧ b ≤ 2305843009213693952) (hz : b ≠ 0) (h : Q (.inl (some (.long (Int64.ofInt (fl a b))))) (gE Lx) I L e) :
    if Int64.ofInt b = 0 then False else if Int64.ofInt b = 0 then False else if (Int64.ofInt a - Int64.ofInt a / Int64.ofInt b * Int64.ofInt b) = Int64.ofInt 0 then Q (.inl (some (.long (Int64.ofInt a / Int64.ofInt b)))) (gE Lx) I L e else
      if Int64.ofInt a < Int64.ofInt 0 then (if Int64.ofInt b < Int64.ofInt 0 then Q (.inl (some (.long (Int64.ofInt a / Int64.ofInt b)))) (gE Lx) I L e else Q (.inl (some (.long (Int64.ofInt a / Int64.ofInt b - Int64.ofInt 1)))) (gE Lx) I L e)
      else (if Int64.ofInt b < Int64.ofInt 0 then Q (.inl (some (.long (Int64.ofInt a / Int64.ofInt b - Int64.ofInt 1)))) (gE Lx) I L e else Q (.inl (some (.long (Int64.ofInt a / Int64.ofInt b)))) (gE Lx) I L e) := by
  have hs := td_s (a := a) hz
  have hq := td_b (b := b) ha
  have key : ∀ q : Int, fl a b = q → Q (.inl (some (.long (Int64.ofInt q)))) (gE Lx) I L e := fun q k => by rw [← k]; exact h
  rw [dv64 (by omega) (by omega) (by omega), mul64, sub64, sub64, Int.mul_comm]
  generalize a.tdiv b = q at *
  generalize a.tmod b = r at *
  obtain ⟨e1, ⟨s1, s2⟩, b1, b2⟩ := hs
  refine i_nz64 (by omega) hz (i_nz64 (by omega) hz ?_)
  refine i_eq64 (by omega) (by omega) (fun k => key _ (fl_eq (r := 0) (by omega) (by omega))) (fun k => ?_)
  refine i_lt64 (by omega) (by omega) (fun k1 => i_lt64 (by omega) (by omega) (fun k2 => ?_) (fun k2 => ?_)) (fun k1 => i_lt64 (by omega) (by omega) (fun k2 => ?_) (fun k2 => ?_))
  · exact key _ (fl_eq (r := r) e1 (by omega))
  · exact key _ (fl_eq (r := r + b) (by rw [Int.mul_sub]; omega) (by omega))
  · exact key _ (fl_eq (r := r + b) (by rw [Int.mul_sub]; omega) (by omega))
  · exact key _ (fl_eq (r := r) e1 (by omega))
end
