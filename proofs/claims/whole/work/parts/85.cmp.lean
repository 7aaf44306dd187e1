/-! TANGENTS; fractions compared, on both sides. -/
/-- a TANGENT -/
def isT (p q : Int) : Prop := (-12 ≤ p ∧ p ≤ 12) ∧ (0 ≤ q ∧ q ≤ 12) ∧ gI p q = 1 ∧ (0 < q ∨ p = 1)
def sg (x : Int) : Int := if x < 0 then -1 else if x = 0 then 0 else 1
theorem sg_n {x : Int} (h : x < 0) : sg x = -1 := if_pos h
theorem sg_z {x : Int} (h : x = 0) : sg x = 0 := by subst h; rfl
theorem sg_p {x : Int} (h : 0 < x) : sg x = 1 := by unfold sg; rw [if_neg (by omega), if_neg (by omega)]
theorem sg_neg (x : Int) : sg (-x) = -sg x := by
  rcases Int.lt_trichotomy x 0 with h | h | h
  · rw [sg_n h, sg_p (by omega)]; rfl
  · subst h; rfl
  · rw [sg_p h, sg_n (by omega)]
theorem quo_lt {x y z w : Int} (hy : 0 < y) (hw : 0 < w) (h : x / y < z / w) : x * w < z * y := by
  have h1 : x < (x / y + 1) * y := Int.lt_ediv_add_one_mul_self x hy
  have h2 : z / w * w ≤ z := Int.ediv_mul_le z (by omega)
  have h3 : (x / y + 1) * y ≤ z / w * y := Int.mul_le_mul_of_nonneg_right (by omega) (by omega)
  have h4 : x * w < z / w * y * w := Int.mul_lt_mul_of_pos_right (by omega) hw
  have h5 : z / w * w * y ≤ z * y := Int.mul_le_mul_of_nonneg_right h2 (by omega)
  have h6 : z / w * y * w = z / w * w * y := by rw [Int.mul_assoc, Int.mul_comm y w, ← Int.mul_assoc]
  omega
/-- one step of both fractions' whole parts -/
theorem cf_step {x y z w : Int} (h : x / y = z / w) : x * w - z * y = (x % y) * w - (z % w) * y := by
  have h1 := Int.mul_ediv_add_emod x y
  have h2 := Int.mul_ediv_add_emod z w
  rw [← h] at h2
  generalize x / y = q at h1 h2
  generalize x % y = r at *
  generalize z % w = s at *
  subst h1; subst h2
  rw [Int.add_mul, Int.add_mul, Int.mul_right_comm y q w, Int.mul_right_comm w q y, Int.mul_comm y w]
  omega
section
variable {Lx : Nat} {I : Mi} {L : Ml} {e : Nat} {Q : Kq}
theorem dvp {x y : Int} (h0 : 0 ≤ x) (h1 : x ≤ 9223372036854775807) (h2 : 0 < y) (h3 : y ≤ 9223372036854775807) : Int64.ofInt x / Int64.ofInt y = Int64.ofInt (x / y) := by
  rw [dv64 (by omega) (by omega) (by omega), Int.tdiv_eq_ediv_of_nonneg h0]
theorem rmp {x y : Int} (h0 : 0 ≤ x) (h1 : x ≤ 9223372036854775807) (h2 : 0 < y) (h3 : y ≤ 9223372036854775807) : Int64.ofInt x - Int64.ofInt x / Int64.ofInt y * Int64.ofInt y = Int64.ofInt (x % y) := by
  rw [rem64 (by omega) (by omega) (by omega), Int.tmod_eq_emod_of_nonneg h0]
theorem quo_r {x y : Int} (h0 : 0 ≤ x) (h1 : x ≤ 9223372036854775807) (h2 : 0 < y) : 0 ≤ x / y ∧ x / y ≤ 9223372036854775807 := by
  refine ⟨Int.ediv_nonneg h0 (by omega), ?_⟩
  have := Int.ediv_le_self y h0
  omega
theorem c_114 {p q : Int} (hp : R64 p) (hq : R64 q) (h1 : isT p q → Q (.inl (some (.int (Int32.ofInt 1)))) (gE Lx) I L e) (h0 : ¬ isT p q → Q (.inl (some (.int (Int32.ofInt 0)))) (gE Lx) I L e) : Wp 114 0 [(0, .long (Int64.ofInt p)), (2, .long (Int64.ofInt q))] [] (gE Lx) I L e Q := by
  refine s_114_0 (i_lt64 (by omega) (by omega) (fun k => h0 (fun z => ?_)) (fun k1 => i_lt64 (by omega) (by omega) (fun k => h0 (fun z => ?_)) (fun k2 => i_lt64 (by omega) (by omega) (fun k => h0 (fun z => ?_)) (fun k3 => i_lt64 (by omega) (by omega) (fun k => h0 (fun z => ?_)) (fun k4 => ?_)))))
  · have := z.1; omega
  · have := z.1; omega
  · have := z.2.1; omega
  · have := z.2.1; omega
  · refine c_26 (by omega) (by omega) (kcp_v rfl (s_114_37 ?_))
    have hn := gI_nn p q
    have hr := gI_r (a := p) (b := q) (by omega) (by omega)
    refine i_eq64 (by omega) (by omega) (fun k5 => ?_) (fun k5 => h0 (fun z => k5 z.2.2.1))
    refine i_lt64 (by omega) (by omega) (fun k6 => h1 ⟨⟨k1, k2⟩, ⟨k3, k4⟩, k5, Or.inl k6⟩) (fun k6 => ?_)
    have hq0 : q = 0 := by omega
    refine i_lt64 (by omega) (by omega) (fun k7 => h1 ⟨⟨k1, k2⟩, ⟨k3, k4⟩, k5, Or.inr ?_⟩) (fun k7 => h0 (fun z => ?_))
    · subst hq0
      have : gI p 0 = p.natAbs := by unfold gI; rw [Int.gcd_zero_right]
      omega
    · rcases z.2.2.2 with z | z <;> omega
theorem c_207 {p q : Int} (hp : R32 p) (hq : R32 q) (h1 : isT p q → Q (.inl (some (.int (Int32.ofInt 1)))) (gE Lx) I L e) (h0 : ¬ isT p q → Q (.inl (some (.int (Int32.ofInt 0)))) (gE Lx) I L e) : Wp 207 0 [(0, .int (Int32.ofInt p)), (1, .int (Int32.ofInt q))] [] (gE Lx) I L e Q := by
  refine s_207_0 (i_lt32 (by omega) (by omega) (fun k => h0 (fun z => ?_)) (fun k1 => i_lt32 (by omega) (by omega) (fun k => h0 (fun z => ?_)) (fun k2 => i_lt32 (by omega) (by omega) (fun k => h0 (fun z => ?_)) (fun k3 => i_lt32 (by omega) (by omega) (fun k => h0 (fun z => ?_)) (fun k4 => ?_)))))
  · have := z.1; omega
  · have := z.1; omega
  · have := z.2.1; omega
  · have := z.2.1; omega
  · rw [i2l hp, i2l hq]
    refine c_209 (by omega) (by omega) (kcp_v rfl (s_207_28 ?_))
    have hn := gI_nn p q
    have hr := gI_r (a := p) (b := q) (by omega) (by omega)
    refine i_eq64 (by omega) (by omega) (fun k5 => ?_) (fun k5 => h0 (fun z => k5 z.2.2.1))
    refine i_zlt (by omega) (fun k6 => h1 ⟨⟨k1, k2⟩, ⟨k3, k4⟩, k5, Or.inl k6⟩) (fun k6 => ?_)
    refine i_eq32 (by omega) (by omega) (fun k7 => h1 ⟨⟨k1, k2⟩, ⟨k3, k4⟩, k5, Or.inr k7⟩) (fun k7 => h0 (fun z => ?_))
    rcases z.2.2.2 with z | z
    · omega
    · exact k7 z
set_option maxHeartbeats 4000000 in
theorem l_23 : ∀ (n : Nat) (i t x y z w : Int), (t = 1 ∨ t = -1) → 0 ≤ x → x ≤ 9223372036854775807 → 0 ≤ y → y ≤ 9223372036854775807 → 0 ≤ z → z ≤ 9223372036854775807 → 0 ≤ w → w ≤ 9223372036854775807 → (y = 0 → 0 < x) → (w = 0 → 0 < z) → Eok n x y → 0 ≤ i → i + n = 99 →
    Q (.inl (some (.int (Int32.ofInt (t * sg (x * w - z * y)))))) (gE Lx) I L e →
    Wp 23 6 [(0, .long (Int64.ofInt x)), (2, .long (Int64.ofInt y)), (4, .long (Int64.ofInt z)), (6, .long (Int64.ofInt w)), (8, .int (Int32.ofInt t)), (9, .int (Int32.ofInt i))] [] (gE Lx) I L e Q := by
  intro n
  induction n with
  | zero =>
    intro i t x y z w ht hx hx2 hy hy2 hz hz2 hw hw2 hxy hzw hE h0 hi h
    have hy0 : y = 0 := hE
    subst hy0
    have hx0 := hxy rfl
    refine s_23_6 (i_lt32 (by omega) (by omega) (fun _ => i_eq64 (by omega) (by omega) (fun _ => i_eq64 (by omega) (by omega) (fun _ => i_eq64 (by omega) (by omega) (fun hw0 => ?_) (fun hw0 => ?_)) (fun k => absurd rfl k)) (fun k => absurd rfl k)) (fun _ => by omega))
    · subst hw0
      have e1 : sg (x * 0 - z * 0) = 0 := sg_z (by omega)
      rw [e1, Int.mul_zero] at h
      exact h
    · rw [mul32]
      have : 0 < x * w := Int.mul_pos hx0 (by omega)
      have e1 : sg (x * w - z * 0) = 1 := sg_p (by omega)
      rw [e1] at h
      exact h
  | succ n ih =>
    intro i t x y z w ht hx hx2 hy hy2 hz hz2 hw hw2 hxy hzw hE h0 hi h
    refine s_23_6 (i_lt32 (by omega) (by omega) (fun _ => i_eq64 (by omega) (by omega) (fun hy0 => i_eq64 (by omega) (by omega) (fun _ => i_eq64 (by omega) (by omega) (fun hw0 => ?_) (fun hw0 => ?_)) (fun k => absurd hy0 k)) (fun hy0 => i_eq64 (by omega) (by omega) (fun hw0 => ?_) (fun hw0 => i_nz64 (by omega) hy0 (i_nz64 (by omega) hw0 ?_)))) (fun _ => by omega))
    · subst hw0; subst hy0
      have e1 : sg (x * 0 - z * 0) = 0 := sg_z (by omega)
      rw [e1, Int.mul_zero] at h
      exact h
    · subst hy0
      rw [mul32]
      have : 0 < x * w := Int.mul_pos (hxy rfl) (by omega)
      have e1 : sg (x * w - z * 0) = 1 := sg_p (by omega)
      rw [e1] at h
      exact h
    · subst hw0
      refine i_eq64 (by omega) (by omega) (fun k => absurd k hy0) (fun _ => i_eq64 (by omega) (by omega) (fun _ => ?_) (fun k => absurd rfl k))
      rw [mul32]
      have : 0 < z * y := Int.mul_pos (hzw rfl) (by omega)
      have e1 : sg (x * 0 - z * y) = -1 := sg_n (by omega)
      rw [e1] at h
      exact h
    · have hyp : 0 < y := by omega
      have hwp : 0 < w := by omega
      have q1 := quo_r hx hx2 hyp
      have q2 := quo_r hz hz2 hwp
      rw [rmp hx hx2 hyp hy2, rmp hz hz2 hwp hw2, dvp hx hx2 hyp hy2, dvp hz hz2 hwp hw2, neg32, add32]
      refine i_eq64 (by omega) (by omega) (fun hq => ?_) (fun hq => i_lt64 (by omega) (by omega) (fun hl => ?_) (fun hl => ?_))
      · have a1 := Int.emod_nonneg x hy0
        have a2 := Int.emod_lt_of_pos x hyp
        have b1 := Int.emod_nonneg z hw0
        have b2 := Int.emod_lt_of_pos z hwp
        refine ih (i + 1) (-t) y (x % y) w (z % w) (by omega) hy hy2 a1 (by omega) hw hw2 b1 (by omega) (fun _ => hyp) (fun _ => hwp) (hE.resolve_left hy0) (by omega) (by omega) ?_
        have e1 : y * (z % w) - w * (x % y) = -(x * w - z * y) := by
          rw [cf_step hq, Int.mul_comm y, Int.mul_comm w]
          omega
        rw [e1, sg_neg, Int.neg_mul_neg]
        exact h
      · have := quo_lt hyp hwp hl
        have e1 : sg (x * w - z * y) = -1 := sg_n (by omega)
        rw [e1] at h
        rw [show -t = t * -1 by omega]
        exact h
      · have := quo_lt hwp hyp (show z / w < x / y by omega)
        have e1 : sg (x * w - z * y) = 1 := sg_p (by omega)
        rw [e1, Int.mul_one] at h
        exact h
theorem c_23 {a b c d : Int} (ha : 0 ≤ a ∧ a ≤ 9223372036854775807) (hb : 0 ≤ b ∧ b ≤ 4611686018427387904) (hc : 0 ≤ c ∧ c ≤ 9223372036854775807) (hd : 0 ≤ d ∧ d ≤ 9223372036854775807) (hab : b = 0 → 0 < a) (hcd : d = 0 → 0 < c) (h : Q (.inl (some (.int (Int32.ofInt (sg (a * d - c * b)))))) (gE Lx) I L e) :
    Wp 23 0 [(0, .long (Int64.ofInt a)), (2, .long (Int64.ofInt b)), (4, .long (Int64.ofInt c)), (6, .long (Int64.ofInt d))] [] (gE Lx) I L e Q := by
  refine s_23_0 (l_23 99 0 1 a b c d (Or.inl rfl) ha.1 ha.2 hb.1 (by omega) hc.1 hc.2 hd.1 hd.2 hab hcd (eok_99 hb.1 hb.2) (by omega) (by omega) ?_)
  rw [Int.one_mul]
  exact h
set_option maxHeartbeats 4000000 in
theorem l_316 : ∀ (n : Nat) (t x y z w : Int), y.toNat ≤ n → 0 ≤ x → x ≤ 9223372036854775807 → 0 < y → y ≤ 9223372036854775807 → 0 ≤ z → z ≤ 9223372036854775807 → 0 < w → w ≤ 9223372036854775807 →
    Q (.inl (some (.int (Int32.ofInt (t * sg (x * w - z * y)))))) (gE Lx) I L e →
    Wp 316 17 [(8, .long (Int64.ofInt x)), (10, .long (Int64.ofInt y)), (12, .long (Int64.ofInt z)), (14, .long (Int64.ofInt w)), (16, .int (Int32.ofInt t))] [] (gE Lx) I L e Q := by
  intro n
  induction n with
  | zero => intro t x y z w hn hx hx2 hy; omega
  | succ n ih =>
    intro t x y z w hn hx hx2 hyp hy2 hz hz2 hwp hw2 h
    have q1 := quo_r hx hx2 hyp
    have q2 := quo_r hz hz2 hwp
    have a1 := Int.emod_nonneg x (show y ≠ 0 by omega)
    have a2 := Int.emod_lt_of_pos x hyp
    have b1 := Int.emod_nonneg z (show w ≠ 0 by omega)
    have b2 := Int.emod_lt_of_pos z hwp
    refine s_316_17 (i_nz64 (by omega) (by omega) (i_nz64 (by omega) (by omega) ?_))
    rw [rmp hx hx2 hyp hy2, rmp hz hz2 hwp hw2, dvp hx hx2 hyp hy2, dvp hz hz2 hwp hw2, neg32]
    refine i_eq64 (by omega) (by omega) (fun hq => i_nz64 (by omega) (by omega) (i_nz64 (by omega) (by omega) ?_)) (fun hq => i_nz64 (by omega) (by omega) (i_nz64 (by omega) (by omega) (i_lt64 (by omega) (by omega) (fun hl => ?_) (fun hl => ?_))))
    · have e0 := cf_step hq
      refine i_eq64 (by omega) (by omega) (fun r0 => i_eq64 (by omega) (by omega) (fun r1 => ?_) (fun r1 => i_eq64 (by omega) (by omega) (fun _ => ?_) (fun k => absurd r0 k))) (fun r0 => i_eq64 (by omega) (by omega) (fun r2 => i_eq64 (by omega) (by omega) (fun r1 => by omega) (fun r1 => i_eq64 (by omega) (by omega) (fun k => absurd k r0) (fun _ => ?_))) (fun r2 => ?_))
      · rw [← r1, r0, Int.zero_mul, Int.zero_mul] at e0
        have e1 : sg (x * w - z * y) = 0 := sg_z (by omega)
        rw [e1, Int.mul_zero] at h
        exact h
      · rw [r0, Int.zero_mul] at e0
        have : 0 < z % w * y := Int.mul_pos (by omega) hyp
        have e1 : sg (x * w - z * y) = -1 := sg_n (by omega)
        rw [e1] at h
        rw [show -t = t * -1 by omega]
        exact h
      · rw [r2, Int.zero_mul] at e0
        have : 0 < x % y * w := Int.mul_pos (by omega) hwp
        have e1 : sg (x * w - z * y) = 1 := sg_p (by omega)
        rw [e1, Int.mul_one] at h
        exact h
      · refine ih (-t) y (x % y) w (z % w) (by omega) (by omega) hy2 (by omega) (by omega) (by omega) hw2 (by omega) (by omega) ?_
        have e1 : y * (z % w) - w * (x % y) = -(x * w - z * y) := by
          rw [e0, Int.mul_comm y, Int.mul_comm w]
          omega
        rw [e1, sg_neg, Int.neg_mul_neg]
        exact h
    · have := quo_lt hyp hwp hl
      have e1 : sg (x * w - z * y) = -1 := sg_n (by omega)
      rw [e1] at h
      rw [show -t = t * -1 by omega]
      exact h
    · have := quo_lt hwp hyp (show z / w < x / y by omega)
      have e1 : sg (x * w - z * y) = 1 := sg_p (by omega)
      rw [e1, Int.mul_one] at h
      exact h
theorem c_316 {a b c d : Int} (ha : 0 ≤ a ∧ a ≤ 9223372036854775807) (hb : 0 < b ∧ b ≤ 9223372036854775807) (hc : 0 ≤ c ∧ c ≤ 9223372036854775807) (hd : 0 < d ∧ d ≤ 9223372036854775807) (h : Q (.inl (some (.int (Int32.ofInt (sg (a * d - c * b)))))) (gE Lx) I L e) :
    Wp 316 0 [(0, .long (Int64.ofInt a)), (2, .long (Int64.ofInt b)), (4, .long (Int64.ofInt c)), (6, .long (Int64.ofInt d))] [] (gE Lx) I L e Q := by
  refine s_316_0 (l_316 b.toNat 1 a b c d (Nat.le_refl _) ha.1 ha.2 hb.1 hb.2 hc.1 hc.2 hd.1 hd.2 ?_)
  rw [Int.one_mul]
  exact h
end
