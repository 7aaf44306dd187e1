/-! LENGTHS one behind another: tangents of many times a length, of two together; in their order. -/
def tS (u l p q : Int) : Int × Int := (fU (u * q + l * p) (l * q - u * p), fL (u * q + l * p) (l * q - u * p))
def tN (p q : Int) : Nat → Int × Int
  | 0 => (fU p q, fL p q)
  | n + 1 => tS (tN p q n).1 (tN p q n).2 p q
theorem f_nz {a b : Int} (h : ¬ (a = 0 ∧ b = 0)) : ¬ (fU a b = 0 ∧ fL a b = 0) := by
  intro k
  have hg := gI_pos h
  have ha := Int.mul_ediv_cancel' (gI_dl a b)
  have hb := Int.mul_ediv_cancel' (gI_dr a b)
  have k1 : a / gI a b = 0 := by
    have := k.1
    unfold fU at this
    rw [if_neg h] at this
    split at this <;> omega
  have k2 : b / gI a b = 0 := by
    have := k.2
    unfold fL at this
    rw [if_neg h] at this
    split at this <;> omega
  rw [k1] at ha
  rw [k2] at hb
  exact h ⟨by omega, by omega⟩
theorem rot_nz {u l p q : Int} (h1 : ¬ (u = 0 ∧ l = 0)) (h2 : ¬ (p = 0 ∧ q = 0)) : ¬ (u * q + l * p = 0 ∧ l * q - u * p = 0) := by
  intro k
  have e : (u * q + l * p) * (u * q + l * p) + (l * q - u * p) * (l * q - u * p) = (u * u + l * l) * (p * p + q * q) := by grind
  have := Int.mul_pos (sq2_pos h1) (sq2_pos h2)
  rw [← e, k.1, k.2] at this
  simp at this
theorem tN_nz {p q : Int} (h : ¬ (p = 0 ∧ q = 0)) : ∀ n, ¬ ((tN p q n).1 = 0 ∧ (tN p q n).2 = 0) := by
  intro n
  induction n with
  | zero => exact f_nz h
  | succ n ih => exact f_nz (rot_nz ih h)
theorem rot_b {u l p q A P : Int} (hu : -A ≤ u ∧ u ≤ A) (hl : -A ≤ l ∧ l ≤ A) (hp : -P ≤ p ∧ p ≤ P) (hq : -P ≤ q ∧ q ≤ P) : (-(2 * (A * P)) ≤ u * q + l * p ∧ u * q + l * p ≤ 2 * (A * P)) ∧ (-(2 * (A * P)) ≤ l * q - u * p ∧ l * q - u * p ≤ 2 * (A * P)) := by
  have a1 := mulB hu hq; have a2 := mulB hl hp; have a3 := mulB hl hq; have a4 := mulB hu hp
  omega
theorem tN_b {p q : Int} (h : ¬ (p = 0 ∧ q = 0)) (hp : -12 ≤ p ∧ p ≤ 12) (hq : -12 ≤ q ∧ q ≤ 12) : ∀ n : Nat, (-(12 * 24 ^ n) ≤ (tN p q n).1 ∧ (tN p q n).1 ≤ 12 * 24 ^ n) ∧ (-(12 * 24 ^ n) ≤ (tN p q n).2 ∧ (tN p q n).2 ≤ 12 * 24 ^ n) := by
  intro n
  induction n with
  | zero => rw [Int.pow_zero]; exact fUL_b h hp hq
  | succ n ih =>
    have r := rot_b ih.1 ih.2 hp hq
    have e : (12 : Int) * 24 ^ (n + 1) = 2 * (12 * 24 ^ n * 12) := by rw [Int.pow_succ]; omega
    rw [e]
    exact fUL_b (rot_nz (tN_nz h n) h) r.1 r.2
/-- the other side's tangents -/
def tU (y x : Int) : Int := if rL y x = 0 then 1 else rU y x
theorem rL_0 {y : Int} : rL y 0 = 0 := by unfold rL; simp
theorem rL_z {y x : Int} : rL y x = 0 ↔ x = 0 := by
  constructor
  · intro h
    refine Classical.byContradiction fun k => ?_
    have hb := Int.mul_ediv_cancel' (gI_dr y x)
    unfold rL at h
    have : x / gI y x = 0 := by split at h <;> omega
    rw [this] at hb
    omega
  · rintro rfl; exact rL_0
theorem tan_f {y x : Int} (h : ¬ (y = 0 ∧ x = 0)) : tU y x = fU y x ∧ rL y x = fL y x := by
  by_cases hx : x = 0
  · subst hx
    have hy : y ≠ 0 := fun k => h ⟨k, rfl⟩
    have hg : gI y 0 = y.natAbs := by unfold gI; rw [Int.gcd_zero_right]
    constructor
    · unfold tU fU
      rw [if_pos rL_0, if_neg h]
      by_cases hn : y < 0
      · rw [if_pos (Or.inr ⟨rfl, hn⟩), hg, show ((y.natAbs : Nat) : Int) = -y by omega, Int.ediv_neg, Int.ediv_self hy]; rfl
      · rw [if_neg (by omega), hg, show ((y.natAbs : Nat) : Int) = y by omega, Int.ediv_self hy]
    · rw [rL_0]
      unfold fL
      rw [if_neg h]
      simp
  · constructor
    · unfold tU
      rw [if_neg (fun k => hx (rL_z.mp k)), rU_f hx]
    · exact rL_f hx
section
variable {Lx : Nat} {I : Mi} {L : Ml} {e : Nat} {Q : Kq}
theorem n_113 {p q : Int} (hp : R32 p) (hq : R32 q) (h1 : isT p q → Q (.inl none) (gE Lx) I L e) (h0 : ¬ isT p q → Q (.inr 101) (gE Lx) I L (e + 1)) :
    Wp 114 0 [(0, .long (Int32.ofInt p).toInt64), (2, .long (Int32.ofInt q).toInt64)] [] (gE Lx) I L e (kcp (Wp 113) 113 4 0 [(0, .ref 1)] 71 [] Q) := by
  rw [i2l hp, i2l hq]
  refine c_114 (by omega) (by omega) (fun z => kcp_v rfl (s_113_7 (i_eqz (by omega) (fun k => by cases k) (fun _ => h1 z)))) (fun z => kcp_v rfl (s_113_7 (i_eqz (by omega) (fun _ => h0 z) (fun k => absurd rfl k))))
theorem l_30 {p q : Int} {m : Nat} (hm : 1 ≤ m ∧ m ≤ 4) (hnz : ¬ (p = 0 ∧ q = 0)) (hp : -12 ≤ p ∧ p ≤ 12) (hq : -12 ≤ q ∧ q ≤ 12) : ∀ (n k : Nat), k + n = m → 1 ≤ k → ∀ L : Ml, FrcAt L 18 (tN p q (k - 1)).1 (tN p q (k - 1)).2 → (∀ L', FrL [(18, 0, 2)] L L' → FrcAt L' 18 (tN p q (m - 1)).1 (tN p q (m - 1)).2 → Q (.inl none) (gE Lx) I L' e) →
    Wp 30 9 [(0, .ref 18), (1, .long (Int64.ofInt p)), (3, .long (Int64.ofInt q)), (5, .int (Int32.ofInt m)), (6, .int (Int32.ofInt k))] [] (gE Lx) I L e Q := by
  intro n
  induction n with
  | zero =>
    intro k hk h1 L hL h
    have : k = m := by omega
    subst this
    exact s_30_9 (i_lt32 (by omega) (by omega) (fun _ => by omega) (fun _ => h L FrL.rf hL))
  | succ n ih =>
    intro k hk h1 L hL h
    obtain ⟨j, rfl⟩ : ∃ j, k = j + 1 := ⟨k - 1, by omega⟩
    rw [Nat.add_sub_cancel] at hL
    have hb := tN_b hnz hp hq j
    have hj : j = 0 ∨ j = 1 ∨ j = 2 := by omega
    have hbb : (-6912 ≤ (tN p q j).1 ∧ (tN p q j).1 ≤ 6912) ∧ (-6912 ≤ (tN p q j).2 ∧ (tN p q j).2 ≤ 6912) := by
      rcases hj with rfl | rfl | rfl <;> (simp only [Int.pow_zero, Int.pow_succ] at hb; omega)
    have hr := rot_b hbb.1 hbb.2 hp hq
    refine s_30_9 (i_lt32 (by omega) (by omega) (fun _ => ?_) (fun _ => by omega))
    rw [hL.1, hL.2, mul64, mul64, mul64, mul64, add64, sub64]
    refine c_25 (Or.inl rfl) (by omega) (by omega) (fun L1 hf1 hv1 => kcp_v rfl (s_27_30_18 (kcp_v rfl (s_30_22 ?_))))
    rw [add32]
    exact ih (j + 2) (by omega) (by omega) L1 hv1 (fun L2 hf2 hv2 => h L2 (FrL.tr hf1 hf2 rfl rfl) hv2)
theorem c_30 {p q : Int} {m : Nat} (hm : 1 ≤ m ∧ m ≤ 4) (hnz : ¬ (p = 0 ∧ q = 0)) (hp : -12 ≤ p ∧ p ≤ 12) (hq : -12 ≤ q ∧ q ≤ 12) (h : ∀ L', FrL [(18, 0, 2)] L L' → FrcAt L' 18 (tN p q (m - 1)).1 (tN p q (m - 1)).2 → Q (.inl none) (gE Lx) I L' e) :
    Wp 30 0 [(0, .ref 18), (1, .long (Int64.ofInt p)), (3, .long (Int64.ofInt q)), (5, .int (Int32.ofInt m))] [] (gE Lx) I L e Q := by
  refine s_30_0 (c_25 (Or.inl rfl) (by omega) (by omega) (fun L1 hf1 hv1 => kcp_v rfl (s_30_6 ?_)))
  exact l_30 hm hnz hp hq (m - 1) 1 (by omega) (by omega) L1 hv1 (fun L2 hf2 hv2 => h L2 (FrL.tr hf1 hf2 rfl rfl) hv2)
theorem c_246 {y x : Int} (hy : R63 y) (hx : R63 x) (hz : ¬ (y = 0 ∧ x = 0)) (h : ∀ L', FrL [(58, 8, 2)] L L' → L' 58 8 = .ofInt (fU y x) → L' 58 9 = .ofInt (fL y x) → Q (.inl none) (gE Lx) I L' e) : Wp 246 0 [(0, .ref 58), (1, .long (Int64.ofInt y)), (3, .long (Int64.ofInt x))] [] (gE Lx) I L e Q := by
  obtain ⟨t1, t2⟩ := tan_f hz
  refine s_246_0 (c_236 hy hx (fun L1 hf1 h8 h9 => kcp_v rfl (s_246_6 ?_)))
  rw [h9]
  have hb := dv_b (gI_pos hz) (show -9223372036854775807 ≤ x ∧ x ≤ 9223372036854775807 from hx) (gI_dr y x)
  have hR : R64 (rL y x) := by unfold rL; split <;> omega
  refine i_eq64 hR (by omega) (fun k => ?_) (fun k => ?_)
  · have e1 : (1 : Int) = fU y x := by rw [← t1, tU, if_pos k]
    refine h _ (FrL.wu (hf1) rfl) (by rw [l_at, e1]) ?_
    rw [l_ne (by decide), h9, t2]
  · refine h L1 hf1 ?_ (by rw [h9, t2])
    rw [h8, ← t1, tU, if_neg k]
theorem c_247 {u l p q : Int} (hr : R63 (u * q + l * p) ∧ R63 (l * q - u * p)) (h1 : ¬ (u = 0 ∧ l = 0)) (h2 : ¬ (p = 0 ∧ q = 0)) (h : ∀ L', FrL [(58, 8, 2)] L L' → L' 58 8 = .ofInt (tS u l p q).1 → L' 58 9 = .ofInt (tS u l p q).2 → Q (.inl none) (gE Lx) I L' e) :
    Wp 247 0 [(0, .ref 58), (1, .long (Int64.ofInt u)), (3, .long (Int64.ofInt l)), (5, .long (Int64.ofInt p)), (7, .long (Int64.ofInt q))] [] (gE Lx) I L e Q := by
  refine s_247_0 ?_
  rw [mul64, mul64, mul64, mul64, add64, sub64]
  exact c_246 hr.1 hr.2 (rot_nz h1 h2) (fun L1 hf1 h8 h9 => kcp_v rfl (s_247_22 (h L1 hf1 h8 h9)))
theorem l_245 {p q : Int} {m : Nat} (hm : 1 ≤ m ∧ m ≤ 4) (hnz : ¬ (p = 0 ∧ q = 0)) (hp : -12 ≤ p ∧ p ≤ 12) (hq : -12 ≤ q ∧ q ≤ 12) : ∀ (n k : Nat), k + n = m → 1 ≤ k → ∀ L : Ml, L 58 8 = .ofInt (tN p q (k - 1)).1 → L 58 9 = .ofInt (tN p q (k - 1)).2 → (∀ L', FrL [(58, 8, 2)] L L' → L' 58 8 = .ofInt (tN p q (m - 1)).1 → L' 58 9 = .ofInt (tN p q (m - 1)).2 → Q (.inl none) (gE Lx) I L' e) →
    Wp 245 9 [(0, .ref 58), (1, .long (Int64.ofInt p)), (3, .long (Int64.ofInt q)), (5, .int (Int32.ofInt m)), (6, .int (Int32.ofInt k))] [] (gE Lx) I L e Q := by
  intro n
  induction n with
  | zero =>
    intro k hk h1 L h8 h9 h
    have : k = m := by omega
    subst this
    exact s_245_9 (i_lt32 (by omega) (by omega) (fun _ => by omega) (fun _ => h L FrL.rf h8 h9))
  | succ n ih =>
    intro k hk h1 L h8 h9 h
    obtain ⟨j, rfl⟩ : ∃ j, k = j + 1 := ⟨k - 1, by omega⟩
    rw [Nat.add_sub_cancel] at h8 h9
    have hb := tN_b hnz hp hq j
    have hj : j = 0 ∨ j = 1 ∨ j = 2 := by omega
    have hbb : (-6912 ≤ (tN p q j).1 ∧ (tN p q j).1 ≤ 6912) ∧ (-6912 ≤ (tN p q j).2 ∧ (tN p q j).2 ≤ 6912) := by
      rcases hj with rfl | rfl | rfl <;> (simp only [Int.pow_zero, Int.pow_succ] at hb; omega)
    have hr := rot_b hbb.1 hbb.2 hp hq
    refine s_245_9 (i_lt32 (by omega) (by omega) (fun _ => ?_) (fun _ => by omega))
    rw [h8, h9]
    refine c_247 (by omega) (tN_nz hnz j) hnz (fun L1 hf1 k8 k9 => kcp_v rfl (s_245_30 ?_))
    rw [add32]
    exact ih (j + 2) (by omega) (by omega) L1 k8 k9 (fun L2 hf2 m8 m9 => h L2 (FrL.tr hf1 hf2 rfl rfl) m8 m9)
theorem c_245 {p q : Int} {m : Nat} (hm : 1 ≤ m ∧ m ≤ 4) (hnz : ¬ (p = 0 ∧ q = 0)) (hp : -12 ≤ p ∧ p ≤ 12) (hq : -12 ≤ q ∧ q ≤ 12) (h : ∀ L', FrL [(58, 8, 2)] L L' → L' 58 8 = .ofInt (tN p q (m - 1)).1 → L' 58 9 = .ofInt (tN p q (m - 1)).2 → Q (.inl none) (gE Lx) I L' e) :
    Wp 245 0 [(0, .ref 58), (1, .long (Int64.ofInt p)), (3, .long (Int64.ofInt q)), (5, .int (Int32.ofInt m))] [] (gE Lx) I L e Q := by
  refine s_245_0 (c_246 (by omega) (by omega) hnz (fun L1 hf1 k8 k9 => kcp_v rfl (s_245_6 ?_)))
  exact l_245 hm hnz hp hq (m - 1) 1 (by omega) (by omega) L1 k8 k9 (fun L2 hf2 m8 m9 => h L2 (FrL.tr hf1 hf2 rfl rfl) m8 m9)
end
