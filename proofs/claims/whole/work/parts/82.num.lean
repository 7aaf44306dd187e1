/-! Numbers: Euclid's steps, roots, fractions in lowest terms. -/
def fb : Nat → Int
  | 0 => 1
  | 1 => 2
  | n + 2 => fb n + fb (n + 1)
theorem fb_pos : ∀ n, 0 < fb n ∧ 0 < fb (n + 1) := by
  intro n
  induction n with
  | zero => exact ⟨by decide, by decide⟩
  | succ n ih => exact ⟨ih.2, by show 0 < fb n + fb (n + 1); omega⟩
theorem fb_ten (n : Nat) : fb (n + 10) = 34 * fb n + 55 * fb (n + 1) ∧ fb (n + 11) = 55 * fb n + 89 * fb (n + 1) := by
  have e2 : fb (n + 2) = fb n + fb (n + 1) := rfl
  have e3 : fb (n + 3) = fb (n + 1) + fb (n + 2) := rfl
  have e4 : fb (n + 4) = fb (n + 2) + fb (n + 3) := rfl
  have e5 : fb (n + 5) = fb (n + 3) + fb (n + 4) := rfl
  have e6 : fb (n + 6) = fb (n + 4) + fb (n + 5) := rfl
  have e7 : fb (n + 7) = fb (n + 5) + fb (n + 6) := rfl
  have e8 : fb (n + 8) = fb (n + 6) + fb (n + 7) := rfl
  have e9 : fb (n + 9) = fb (n + 7) + fb (n + 8) := rfl
  have ea : fb (n + 10) = fb (n + 8) + fb (n + 9) := rfl
  have eb : fb (n + 11) = fb (n + 9) + fb (n + 10) := rfl
  omega
theorem fb_99 : 9223372036854775808 ≤ fb 99 := by
  have h0 : fb 0 = 1 := rfl
  have h1 : fb 1 = 2 := rfl
  have a : fb 10 = 34 * fb 0 + 55 * fb 1 ∧ fb 11 = 55 * fb 0 + 89 * fb 1 := fb_ten 0
  have b : fb 20 = 34 * fb 10 + 55 * fb 11 ∧ fb 21 = 55 * fb 10 + 89 * fb 11 := fb_ten 10
  have c : fb 30 = 34 * fb 20 + 55 * fb 21 ∧ fb 31 = 55 * fb 20 + 89 * fb 21 := fb_ten 20
  have d : fb 40 = 34 * fb 30 + 55 * fb 31 ∧ fb 41 = 55 * fb 30 + 89 * fb 31 := fb_ten 30
  have e : fb 50 = 34 * fb 40 + 55 * fb 41 ∧ fb 51 = 55 * fb 40 + 89 * fb 41 := fb_ten 40
  have f : fb 60 = 34 * fb 50 + 55 * fb 51 ∧ fb 61 = 55 * fb 50 + 89 * fb 51 := fb_ten 50
  have g : fb 70 = 34 * fb 60 + 55 * fb 61 ∧ fb 71 = 55 * fb 60 + 89 * fb 61 := fb_ten 60
  have h : fb 80 = 34 * fb 70 + 55 * fb 71 ∧ fb 81 = 55 * fb 70 + 89 * fb 71 := fb_ten 70
  have i : fb 90 = 34 * fb 80 + 55 * fb 81 ∧ fb 91 = 55 * fb 80 + 89 * fb 81 := fb_ten 80
  have j9 : fb 99 = fb 97 + fb 98 := rfl
  have j8 : fb 98 = fb 96 + fb 97 := rfl
  have j7 : fb 97 = fb 95 + fb 96 := rfl
  have j6 : fb 96 = fb 94 + fb 95 := rfl
  have j5 : fb 95 = fb 93 + fb 94 := rfl
  have j4 : fb 94 = fb 92 + fb 93 := rfl
  have j3 : fb 93 = fb 91 + fb 92 := rfl
  have j2 : fb 92 = fb 90 + fb 91 := rfl
  omega
/-- Euclid's steps end within n -/
def Eok : Nat → Int → Int → Prop
  | 0, _, y => y = 0
  | n + 1, x, y => y = 0 ∨ Eok n y (x % y)
theorem eok_lame : ∀ (n : Nat) (x y : Int), 0 ≤ y → y < x → ¬ Eok n x y → fb (n + 1) ≤ x ∧ fb n ≤ y := by
  intro n
  induction n with
  | zero =>
    intro x y h0 h1 h
    have : y ≠ 0 := h
    exact ⟨by show (2 : Int) ≤ x; omega, by show (1 : Int) ≤ y; omega⟩
  | succ n ih =>
    intro x y h0 h1 h
    have hy : y ≠ 0 := fun k => h (Or.inl k)
    have hyp : 0 < y := by omega
    have hlt := Int.emod_lt_of_pos x hyp
    have h2 := ih y (x % y) (Int.emod_nonneg x hy) hlt (fun k => h (Or.inr k))
    refine ⟨?_, h2.1⟩
    have hd := Int.mul_ediv_add_emod x y
    have hq : 1 ≤ x / y := Int.le_ediv_of_mul_le hyp (by omega)
    have hm : y * 1 ≤ y * (x / y) := Int.mul_le_mul_of_nonneg_left hq h0
    show fb n + fb (n + 1) ≤ x
    omega
theorem eok_100 {x y : Int} (h0 : 0 ≤ y) (h1 : y ≤ 9223372036854775807) : Eok 100 x y := by
  by_cases hy : y = 0
  · exact Or.inl hy
  · refine Or.inr (Classical.byContradiction fun h => ?_)
    have hyp : 0 < y := by omega
    have h2 := eok_lame 99 y (x % y) (Int.emod_nonneg x hy) (Int.emod_lt_of_pos x hyp) h
    have := fb_99
    have h3 : x % y < y := Int.emod_lt_of_pos x hyp
    omega
theorem gcd_step {x y : Int} : Int.gcd y (x % y) = Int.gcd x y := by
  rw [Int.gcd_comm x y]
  have h := Int.mul_ediv_add_emod x y
  conv => rhs; rw [← h]
  rw [Int.gcd_mul_left_add_right]
/-- the whole root, rounded down -/
def IsRt (v r : Int) : Prop := 0 ≤ r ∧ r * r ≤ v ∧ v < (r + 1) * (r + 1)
theorem IsRt.uq {v r s : Int} (h : IsRt v r) (k : IsRt v s) : r = s := by
  obtain ⟨h1, h2, h3⟩ := h
  obtain ⟨k1, k2, k3⟩ := k
  rcases Int.lt_trichotomy r s with a | a | a
  · have : (r + 1) * (r + 1) ≤ s * s := Int.mul_le_mul (by omega) (by omega) (by omega) (by omega)
    omega
  · exact a
  · have : (s + 1) * (s + 1) ≤ r * r := Int.mul_le_mul (by omega) (by omega) (by omega) (by omega)
    omega
theorem IsRt.sq {r : Int} (h : 0 ≤ r) : IsRt (r * r) r := ⟨h, Int.le_refl _, by
  have e : (r + 1) * (r + 1) = r * r + r + r + 1 := by rw [Int.add_mul, Int.mul_add]; omega
  omega⟩
theorem fb_98 : 4611686018427387904 ≤ fb 98 := by
  have a := fb_99
  have b : fb 99 = fb 97 + fb 98 := rfl
  have c : fb 98 = fb 96 + fb 97 := rfl
  have d := fb_pos 96
  omega
theorem eok_99 {x y : Int} (h0 : 0 ≤ y) (h1 : y ≤ 4611686018427387904) : Eok 99 x y := by
  by_cases hy : y = 0
  · exact Or.inl hy
  · refine Or.inr (Classical.byContradiction fun h => ?_)
    have hyp : 0 < y := by omega
    have h2 := eok_lame 98 y (x % y) (Int.emod_nonneg x hy) (Int.emod_lt_of_pos x hyp) h
    have h5 : fb (98 + 1) = fb 99 := rfl
    have := fb_98
    have h3 : x % y < y := Int.emod_lt_of_pos x hyp
    omega
