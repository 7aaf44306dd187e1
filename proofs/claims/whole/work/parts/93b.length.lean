/-! The length: both sides. -/
def up (c s : Int) : Prop := 0 < s ∨ (s = 0 ∧ 0 < c)
def lnQ (p q : Int) : Int := if p < 0 then -q else q
def lnA (p : Int) : Int := if p < 0 then -p else p
def lnC (c s p q : Int) : Int := c * lnQ p q - s * lnA p
def lnB (c s p q : Int) : Int := c * lnA p + s * lnQ p q
abbrev lnG (c s p q : Int) : Prop := lnB c s p q < 0 ∨ (lnB c s p q = 0 ∧ lnC c s p q < 0)
def lnS (ch : Ch) : Nat → Int × Int × Int
  | 0 => (1, 0, 0)
  | i + 1 => if lnG (lnS ch i).1 (lnS ch i).2.1 (ch.2.2.2.2 i).2.1 (ch.2.2.2.2 i).2.2 then (-(lnC (lnS ch i).1 (lnS ch i).2.1 (ch.2.2.2.2 i).2.1 (ch.2.2.2.2 i).2.2), -(lnB (lnS ch i).1 (lnS ch i).2.1 (ch.2.2.2.2 i).2.1 (ch.2.2.2.2 i).2.2), (lnS ch i).2.2 + 1) else (lnC (lnS ch i).1 (lnS ch i).2.1 (ch.2.2.2.2 i).2.1 (ch.2.2.2.2 i).2.2, lnB (lnS ch i).1 (lnS ch i).2.1 (ch.2.2.2.2 i).2.1 (ch.2.2.2.2 i).2.2, (lnS ch i).2.2)
def lnV (ch : Ch) (wh : Int) : Int := if wh = 0 then (lnS ch ch.2.2.2.1).2.2 else if wh = 1 then fU (lnS ch ch.2.2.2.1).2.1 (lnS ch ch.2.2.2.1).1 else fL (lnS ch ch.2.2.2.1).2.1 (lnS ch ch.2.2.2.1).1
def spLen (ch : Ch) (wh : Int) : Nat × Int := if wh < 0 ∨ 2 < wh then (1, 0) else (0, lnV ch wh)
theorem ln_sq {c s p q : Int} : lnC c s p q * lnC c s p q + lnB c s p q * lnB c s p q = (c * c + s * s) * (p * p + q * q) ∧ lnB c s p q * c - lnC c s p q * s = (c * c + s * s) * lnA p := by
  unfold lnC lnB lnQ lnA
  constructor
  · by_cases h : p < 0
    · rw [if_pos h, if_pos h]; grind
    · rw [if_neg h, if_neg h]; grind
  · by_cases h : p < 0
    · rw [if_pos h, if_pos h]; grind
    · rw [if_neg h, if_neg h]; grind
theorem up_nz {c s : Int} (h : up c s) : 0 < c * c + s * s := sq2_pos (fun w => by unfold up at h; omega)
theorem ln_up {c s p q : Int} (h : up c s) (ht : isT p q) : (lnG c s p q → up (-lnC c s p q) (-lnB c s p q)) ∧ (¬ lnG c s p q → up (lnC c s p q) (lnB c s p q)) := by
  have e := (ln_sq (c := c) (s := s) (p := p) (q := q)).1
  have a := up_nz h
  have b := sq2_pos ht.nz
  have m := Int.mul_pos a b
  rw [← e] at m
  have nz : ¬ (lnC c s p q = 0 ∧ lnB c s p q = 0) := fun w => by rw [w.1, w.2] at m; omega
  unfold up lnG
  omega
theorem ln_w {c s p q : Int} (h : up c s) (ht : isT p q) (hw : lnG c s p q) : 0 < lnA p := by
  have : p ≠ 0 := fun k => by
    have hq := ht.q1 k
    unfold lnG lnB lnC lnA lnQ at hw
    rw [k, hq] at hw
    simp at hw
    unfold up at h
    omega
  unfold lnA
  split <;> omega
theorem up_k {c s : Int} (h : up c s) : ∃ k, k ≠ 0 ∧ s = k * fU s c ∧ c = k * fL s c ∧ (0 ≤ fU s c → 0 < k) ∧ (fU s c < 0 → k < 0) := by
  have nz : ¬ (s = 0 ∧ c = 0) := fun w => by unfold up at h; omega
  have hg := gI_pos nz
  have e1 : gI s c * (s / gI s c) = s := Int.mul_ediv_cancel' (gI_dl s c)
  have e2 : gI s c * (c / gI s c) = c := Int.mul_ediv_cancel' (gI_dr s c)
  have hs0 : 0 ≤ s := by unfold up at h; omega
  have d0 : 0 ≤ s / gI s c := Int.ediv_nonneg hs0 (by omega)
  unfold fU fL
  rw [if_neg nz, if_neg nz]
  by_cases q : c < 0
  · have hs : 0 < s := by unfold up at h; omega
    have d1 : s / gI s c ≠ 0 := fun w => by rw [w, Int.mul_zero] at e1; omega
    rw [if_pos (Or.inl q), if_pos q]
    exact ⟨-gI s c, by omega, by rw [Int.neg_mul_neg, e1], by rw [Int.neg_mul_neg, e2], fun w => by omega, fun w => by omega⟩
  · rw [if_neg (by omega), if_neg q]
    exact ⟨gI s c, by omega, e1.symm, e2.symm, fun w => hg, fun w => by omega⟩
theorem len_x {c1 s1 c2 s2 : Int} (h1 : up c1 s1) (h2 : up c2 s2) : lenC (fU s1 c1) (fL s1 c1) (fU s2 c2) (fL s2 c2) < 0 ↔ s1 * c2 - c1 * s2 < 0 := by
  obtain ⟨k1, n1, a1, b1, p1, m1⟩ := up_k h1
  obtain ⟨k2, n2, a2, b2, p2, m2⟩ := up_k h2
  obtain ⟨f1, -, f2⟩ := fr_is (n := s1) (d := c1) (fun w => by unfold up at h1; omega)
  obtain ⟨g1, -, g2⟩ := fr_is (n := s2) (d := c2) (fun w => by unfold up at h2; omega)
  generalize fU s1 c1 = u1 at *
  generalize fL s1 c1 = l1 at *
  generalize fU s2 c2 = u2 at *
  generalize fL s2 c2 = l2 at *
  have e : s1 * c2 - c1 * s2 = k1 * k2 * (u1 * l2 - u2 * l1) := by rw [a1, b1, a2, b2]; grind
  rw [e]
  unfold lenC
  have z1 : u1 < 0 → 0 < l1 := fun w => by omega
  have z2 : u2 < 0 → 0 < l2 := fun w => by omega
  by_cases q1 : u1 < 0
  · rw [if_pos q1]
    have k1n := m1 q1
    by_cases q2 : u2 < 0
    · rw [if_pos q2]
      have kk : 0 < k1 * k2 := Int.mul_pos_of_neg_of_neg k1n (m2 q2)
      rw [← sg_mul (x := u1 * l2 - u2 * l1) kk]
      generalize k1 * k2 * (u1 * l2 - u2 * l1) = X
      rcases Int.lt_trichotomy X 0 with q | q | q
      · rw [sg_n q]; omega
      · rw [sg_z q]; omega
      · rw [sg_p q]; omega
    · rw [if_neg q2]
      have kk : k1 * k2 < 0 := Int.mul_neg_of_neg_of_pos k1n (p2 (by omega))
      have y1 : u1 * l2 ≤ 0 := Int.mul_nonpos_of_nonpos_of_nonneg (by omega) g1
      have y2 : 0 ≤ u2 * l1 := Int.mul_nonneg (by omega) f1
      have := Int.mul_nonneg_of_nonpos_of_nonpos (show k1 * k2 ≤ 0 by omega) (show u1 * l2 - u2 * l1 ≤ 0 by omega)
      omega
  · rw [if_neg q1]
    have k1p := p1 (by omega)
    by_cases q2 : u2 < 0
    · rw [if_pos q2]
      have kk : k1 * k2 < 0 := Int.mul_neg_of_pos_of_neg k1p (m2 q2)
      have y1 : 0 ≤ u1 * l2 := Int.mul_nonneg (by omega) g1
      have y2 : u2 * l1 ≤ 0 := Int.mul_nonpos_of_nonpos_of_nonneg (by omega) f1
      have y3 : 0 < u1 * l2 - u2 * l1 := by
        by_cases w : u1 = 0
        · have : 0 < l1 := by omega
          have := Int.mul_neg_of_neg_of_pos q2 this
          omega
        · have := Int.mul_pos (show 0 < u1 by omega) (z2 q2)
          omega
      have := Int.mul_neg_of_neg_of_pos kk y3
      omega
    · rw [if_neg q2]
      have kk : 0 < k1 * k2 := Int.mul_pos k1p (p2 (by omega))
      rw [← sg_mul (x := u1 * l2 - u2 * l1) kk]
      generalize k1 * k2 * (u1 * l2 - u2 * l1) = X
      rcases Int.lt_trichotomy X 0 with q | q | q
      · rw [sg_n q]; omega
      · rw [sg_z q]; omega
      · rw [sg_p q]; omega
theorem lnS_s {ch : Ch} {i : Nat} : lnS ch (i + 1) = if lnG (lnS ch i).1 (lnS ch i).2.1 (ch.2.2.2.2 i).2.1 (ch.2.2.2.2 i).2.2 then (-(lnC (lnS ch i).1 (lnS ch i).2.1 (ch.2.2.2.2 i).2.1 (ch.2.2.2.2 i).2.2), -(lnB (lnS ch i).1 (lnS ch i).2.1 (ch.2.2.2.2 i).2.1 (ch.2.2.2.2 i).2.2), (lnS ch i).2.2 + 1) else (lnC (lnS ch i).1 (lnS ch i).2.1 (ch.2.2.2.2 i).2.1 (ch.2.2.2.2 i).2.2, lnB (lnS ch i).1 (lnS ch i).2.1 (ch.2.2.2.2 i).2.1 (ch.2.2.2.2 i).2.2, (lnS ch i).2.2) := rfl
theorem ln_b {c s p q B : Int} (hc : -B ≤ c ∧ c ≤ B) (hs : -B ≤ s ∧ s ≤ B) (hp : -12 ≤ p ∧ p ≤ 12) (hq : -12 ≤ q ∧ q ≤ 12) : (-(24 * B) ≤ lnC c s p q ∧ lnC c s p q ≤ 24 * B) ∧ (-(24 * B) ≤ lnB c s p q ∧ lnB c s p q ≤ 24 * B) := by
  have q1 : -12 ≤ lnQ p q ∧ lnQ p q ≤ 12 := by unfold lnQ; split <;> omega
  have q2 : -12 ≤ lnA p ∧ lnA p ≤ 12 := by unfold lnA; split <;> omega
  have m1 := mulB hc q1; have m2 := mulB hc q2; have m3 := mulB hs q1; have m4 := mulB hs q2
  unfold lnC lnB
  omega
theorem lnS_ok {ch : Ch} (hok : ChOk ch) : ∀ i, i ≤ ch.2.2.2.1 → up (lnS ch i).1 (lnS ch i).2.1 ∧ ((-(24 ^ i) ≤ (lnS ch i).1 ∧ (lnS ch i).1 ≤ 24 ^ i) ∧ (-(24 ^ i) ≤ (lnS ch i).2.1 ∧ (lnS ch i).2.1 ≤ 24 ^ i)) ∧ (0 ≤ (lnS ch i).2.2 ∧ (lnS ch i).2.2 ≤ i) := by
  intro i
  induction i with
  | zero =>
    intro _
    have z : up 1 0 := Or.inr ⟨rfl, by decide⟩
    have z2 : (-((24 : Int) ^ 0) ≤ 1 ∧ 1 ≤ (24 : Int) ^ 0) ∧ (-((24 : Int) ^ 0) ≤ 0 ∧ 0 ≤ (24 : Int) ^ 0) := by decide
    have z3 : (0 : Int) ≤ 0 ∧ (0 : Int) ≤ ((0 : Nat) : Int) := by decide
    exact ⟨z, z2, z3⟩
  | succ i ih =>
    intro hi
    obtain ⟨i1, ⟨i2, i3⟩, i4⟩ := ih (by omega)
    have ht := (hok.2.2.2.2 i (by omega)).2
    have w := ln_up i1 ht
    have b := ln_b (B := 24 ^ i) i2 i3 ht.b.1 ht.b.2
    rw [lnS_s, Int.pow_succ]
    split
    · next q => exact ⟨w.1 q, by dsimp only; omega, by dsimp only; omega⟩
    · next q => exact ⟨w.2 q, by dsimp only; omega, by dsimp only; omega⟩
theorem pow24 : ∀ k : Nat, k ≤ 4 → (24 : Int) ^ k ≤ 331776 := fun k hk => by
  have : k = 0 ∨ k = 1 ∨ k = 2 ∨ k = 3 ∨ k = 4 := by omega
  rcases this with rfl | rfl | rfl | rfl | rfl <;> decide
/-- the class's step is the same -/
theorem ln_cls {c s p q : Int} (h : up c s) (ht : isT p q) : fU (fU s c * q + fL s c * p) (fL s c * q - fU s c * p) = fU (lnB c s p q) (lnC c s p q) ∧ fL (fU s c * q + fL s c * p) (fL s c * q - fU s c * p) = fL (lnB c s p q) (lnC c s p q) := by
  obtain ⟨k, n, a, b, -, -⟩ := up_k h
  generalize fU s c = u at *
  generalize fL s c = l at *
  by_cases hp : p < 0
  · have e1 : lnB c s p q = -k * (u * q + l * p) := by unfold lnB lnA lnQ; rw [if_pos hp, if_pos hp, a, b]; grind
    have e2 : lnC c s p q = -k * (l * q - u * p) := by unfold lnC lnA lnQ; rw [if_pos hp, if_pos hp, a, b]; grind
    rw [e1, e2, fU_sm (by omega), fL_sm (by omega)]
    exact ⟨rfl, rfl⟩
  · have e1 : lnB c s p q = k * (u * q + l * p) := by unfold lnB lnA lnQ; rw [if_neg hp, if_neg hp, a, b]; grind
    have e2 : lnC c s p q = k * (l * q - u * p) := by unfold lnC lnA lnQ; rw [if_neg hp, if_neg hp, a, b]; grind
    rw [e1, e2, fU_sm n, fL_sm n]
    exact ⟨rfl, rfl⟩
theorem up_b {c s B : Int} (h : up c s) (hc : -B ≤ c ∧ c ≤ B) (hs : -B ≤ s ∧ s ≤ B) : (-B ≤ fU s c ∧ fU s c ≤ B) ∧ (0 ≤ fL s c ∧ fL s c ≤ B) ∧ (fL s c = 0 → 0 < fU s c) := by
  obtain ⟨k, n, a, b, -, -⟩ := up_k h
  obtain ⟨f1, -, f2⟩ := fr_is (n := s) (d := c) (fun w => by unfold up at h; omega)
  generalize fU s c = u at *
  generalize fL s c = l at *
  have hb : ∀ x : Int, x.natAbs ≤ (k * x).natAbs := fun x => by
    rw [Int.natAbs_mul]
    exact Nat.le_mul_of_pos_left _ (by omega)
  have h1 := hb u
  have h2 := hb l
  rw [← a] at h1
  rw [← b] at h2
  omega
section
variable {Lx : Nat} {I : Mi} {L : Ml} {e : Nat} {Q : Kq}
set_option maxHeartbeats 4000000 in
theorem l_65 {I0 : Mi} {ch : Ch} (hok : ChOk ch) (hc0 : ChAt I0 5 ch) (fin : ∀ I' L', FrI [(22, 0, 0)] I0 I' → I' 22 0 = .ofInt (lnS ch ch.2.2.2.1).2.2 → FrcAt L' 23 (fU (lnS ch ch.2.2.2.1).2.1 (lnS ch ch.2.2.2.1).1) (fL (lnS ch ch.2.2.2.1).2.1 (lnS ch ch.2.2.2.1).1) → Q (.inl none) (gE Lx) I' L' e) :
    ∀ (s j : Nat), j + s = ch.2.2.2.1 → ∀ (I : Mi) (L : Ml), FrI [(22, 0, 0)] I0 I → I 22 0 = .ofInt (lnS ch j).2.2 → FrcAt L 23 (fU (lnS ch j).2.1 (lnS ch j).1) (fL (lnS ch j).2.1 (lnS ch j).1) →
    Wp 65 16 [(0, .ref 22), (1, .ref 5), (2, .int (Int32.ofInt j))] [] (gE Lx) I L e Q := by
  have h4 := hok.2.2.2.1
  intro s
  induction s with
  | zero =>
    intro j hj I L hf ht hv
    have : j = ch.2.2.2.1 := by omega
    subst this
    have hc : ChAt I 5 ch := hc0.cg (hf.at rfl) (hf.at rfl) (hf.at rfl) (hf.at rfl)
    refine s_65_16 ?_
    rw [hc.2.2.2.1]
    exact i_lt32 (by omega) (by omega) (fun _ => by omega) (fun _ => fin I L hf ht hv)
  | succ s ih =>
    intro j hj I L hf ht hv
    have hc : ChAt I 5 ch := hc0.cg (hf.at rfl) (hf.at rfl) (hf.at rfl) (hf.at rfl)
    have hel := hok.2.2.2.2 j (by omega)
    obtain ⟨r1, r2, r3⟩ := el_r hel
    obtain ⟨e1, e2, e4⟩ := hc.2.2.2.2 j (by omega)
    obtain ⟨k1, ⟨k2, k3⟩, k4⟩ := lnS_ok hok j (by omega)
    obtain ⟨w1, ⟨w2, w3⟩, w4⟩ := lnS_ok hok (j + 1) (by omega)
    have pj := pow24 j (by omega)
    have pj1 := pow24 (j + 1) (by omega)
    have ub := up_b k1 k2 k3
    have wb := up_b w1 w2 w3
    have hcls := ln_cls k1 hel.2
    have hu := ln_up k1 hel.2
    have hW := ln_w k1 hel.2
    have es := (ln_sq (c := (lnS ch j).1) (s := (lnS ch j).2.1) (p := (ch.2.2.2.2 j).2.1) (q := (ch.2.2.2.2 j).2.2)).2
    have nz := up_nz k1
    have stp := lnS_s (ch := ch) (i := j)
    have hx := len_x w1 k1
    have tb := hel.2.b
    have a0 : 0 ≤ lnA (ch.2.2.2.2 j).2.1 := by unfold lnA; split <;> omega
    have hnew : fU (lnS ch (j + 1)).2.1 (lnS ch (j + 1)).1 = fU (lnB (lnS ch j).1 (lnS ch j).2.1 (ch.2.2.2.2 j).2.1 (ch.2.2.2.2 j).2.2) (lnC (lnS ch j).1 (lnS ch j).2.1 (ch.2.2.2.2 j).2.1 (ch.2.2.2.2 j).2.2) ∧ fL (lnS ch (j + 1)).2.1 (lnS ch (j + 1)).1 = fL (lnB (lnS ch j).1 (lnS ch j).2.1 (ch.2.2.2.2 j).2.1 (ch.2.2.2.2 j).2.2) (lnC (lnS ch j).1 (lnS ch j).2.1 (ch.2.2.2.2 j).2.1 (ch.2.2.2.2 j).2.2) := by
      rw [stp]
      split
      · exact ⟨fU_neg, fL_neg⟩
      · exact ⟨rfl, rfl⟩
    have hlt : lenC (fU (lnS ch (j + 1)).2.1 (lnS ch (j + 1)).1) (fL (lnS ch (j + 1)).2.1 (lnS ch (j + 1)).1) (fU (lnS ch j).2.1 (lnS ch j).1) (fL (lnS ch j).2.1 (lnS ch j).1) < 0 ↔ lnG (lnS ch j).1 (lnS ch j).2.1 (ch.2.2.2.2 j).2.1 (ch.2.2.2.2 j).2.2 := by
      rw [hx, stp]
      split
      · next q =>
        have := Int.mul_pos nz (hW q)
        rw [Int.neg_mul, Int.neg_mul]
        constructor
        · intro _; exact q
        · intro _; omega
      · next q =>
        have := Int.mul_nonneg (show 0 ≤ (lnS ch j).1 * (lnS ch j).1 + (lnS ch j).2.1 * (lnS ch j).2.1 by omega) a0
        constructor
        · intro w; dsimp only at w; omega
        · intro w; exact absurd w q
    have htn : (lnS ch (j + 1)).2.2 = if lnG (lnS ch j).1 (lnS ch j).2.1 (ch.2.2.2.2 j).2.1 (ch.2.2.2.2 j).2.2 then (lnS ch j).2.2 + 1 else (lnS ch j).2.2 := by
      rw [stp]
      split <;> rfl
    rw [← hcls.1, ← hcls.2] at hnew
    have m1 := mulB (x := fU (lnS ch j).2.1 (lnS ch j).1) (y := (ch.2.2.2.2 j).2.2) (A := 331776) (B := 12) (by omega) tb.2
    have m2 := mulB (x := fL (lnS ch j).2.1 (lnS ch j).1) (y := (ch.2.2.2.2 j).2.1) (A := 331776) (B := 12) (by omega) tb.1
    have m3 := mulB (x := fL (lnS ch j).2.1 (lnS ch j).1) (y := (ch.2.2.2.2 j).2.2) (A := 331776) (B := 12) (by omega) tb.2
    have m4 := mulB (x := fU (lnS ch j).2.1 (lnS ch j).1) (y := (ch.2.2.2.2 j).2.1) (A := 331776) (B := 12) (by omega) tb.1
    refine s_65_16 ?_
    rw [hc.2.2.2.1, hv.1, hv.2]
    refine i_lt32 (by omega) (by omega) (fun _ => c_14 (Or.inl rfl) (by omega) (kcp_v rfl (s_65_50 (c_15 (Or.inl rfl) (by omega) (kcp_v rfl (s_65_56 ?_)))))) (fun _ => by omega)
    rw [e2, e4, i2l r2, i2l r3, hv.1, hv.2]
    simp only [mul64, add64, sub64]
    refine c_25 (Or.inr rfl) (by omega) (by omega) (fun L1 hf1 hv1 => kcp_v rfl (s_27_30_23 (kcp_v rfl (s_65_60 ?_))))
    rw [← hnew.1, ← hnew.2] at hv1
    rw [hv1.1, hv1.2]
    refine c_28 (by omega) (by omega) (by omega) (by omega) wb.2.2 ub.2.2 (kcp_v rfl (s_65_80 ?_))
    have lb : ∀ x y z t : Int, -1 ≤ lenC x y z t ∧ lenC x y z t ≤ 1 := fun x y z t => by
      unfold lenC
      have := (sg_0 (v := x * t - z * y)).2
      split <;> split <;> omega
    have lbb := lb (fU (lnS ch (j + 1)).2.1 (lnS ch (j + 1)).1) (fL (lnS ch (j + 1)).2.1 (lnS ch (j + 1)).1) (fU (lnS ch j).2.1 (lnS ch j).1) (fL (lnS ch j).2.1 (lnS ch j).1)
    rw [ht, add32, add32]
    refine i_ltz (by omega) (fun q => ?_) (fun q => ?_)
    · rw [if_pos (hlt.mp q)] at htn
      have := ih (j + 1) (by omega) _ L1 (FrI.wu hf (k := 22) (j := 0) (x := Int32.ofInt ((lnS ch j).2.2 + 1)) rfl) (by rw [u_at, htn]) hv1
      exact this
    · rw [if_neg (fun w => by have := hlt.mpr w; omega)] at htn
      have := ih (j + 1) (by omega) I L1 hf (by rw [ht, htn]) hv1
      exact this
theorem h_412 {ch : Ch} (hok : ChOk ch) (hc : ChAt I 5 ch) {wh : Int} (hwh : R32 wh) (h : CQ Lx I e Q (spLen ch wh).1 (spLen ch wh).2) :
    Wp 412 0 [(0, .ref 1), (1, .int (Int32.ofInt wh)), (2, .ref 70)] [] (gE Lx) I L e Q := by
  unfold spLen at h
  have one : wh < 0 ∨ 2 < wh → Q (.inl (some (.int (Int32.ofInt 1)))) (gE Lx) I L (e + 1) := fun q => by
    rw [if_pos q] at h
    exact h.mk (c := 1) FrI.rf (by omega) rfl (fun z => by cases z)
  have h4 := hok.2.2.2.1
  obtain ⟨k1, ⟨k2, k3⟩, k4⟩ := lnS_ok hok ch.2.2.2.1 (Nat.le_refl _)
  refine s_412_0 (i_ltz hwh (fun q => one (by omega)) (fun a1 => i_lt32 (by omega) hwh (fun q => one (by omega)) (fun a2 => ?_)))
  rw [if_neg (by omega)] at h
  unfold lnV at h
  refine s_65_0 (c_25 (Or.inr rfl) (by omega) (by omega) (fun L1 hf1 hv1 => kcp_v rfl (s_65_14 ?_)))
  have hI : FrI [(22, 0, 0)] I (ui I 22 0 (Int32.ofInt 0)) := FrI.wu FrI.rf rfl
  refine l_65 (I0 := I) hok hc (fun I2 L2 hf2 t2 v2 => kcp_v rfl (s_201_17 ?_)) ch.2.2.2.1 0 (by omega) _ L1 hI u_at hv1
  have hff : FrI cS I I2 := hf2.up rfl
  rw [t2, v2.1, v2.2, i2l (by omega)]
  refine i_eqz hwh (fun q1 => kcp_v rfl (s_412_7 (i_inb0 (by decide) (h.mk (c := 0) hff (by omega) rfl (fun _ => by rw [o70, if_pos q1]))))) (fun q1 => i_eq32 hwh (by omega) (fun q2 => kcp_v rfl (s_412_7 (i_inb0 (by decide) (h.mk (c := 0) hff (by omega) rfl (fun _ => by rw [o70, if_neg q1, if_neg (by omega)]))))) (fun q2 => kcp_v rfl (s_412_7 (i_inb0 (by decide) (h.mk (c := 0) hff (by omega) rfl (fun _ => by rw [o70, if_neg q1, if_pos (by omega)]))))))
theorem l_353 {I0 : Mi} {L0 : Ml} {ch : Ch} (hok : ChOk ch) (hc0 : BnAt I0 59 0 ch) (fin : ∀ I' L', FrI [(58, 39, 1)] I0 I' → L' 70 = L0 70 → I' 58 39 = .ofInt (lnS ch ch.2.2.2.1).2.2 → L' 58 8 = .ofInt (fU (lnS ch ch.2.2.2.1).2.1 (lnS ch ch.2.2.2.1).1) → L' 58 9 = .ofInt (fL (lnS ch ch.2.2.2.1).2.1 (lnS ch ch.2.2.2.1).1) → Q (.inl none) (gE Lx) I' L' e) :
    ∀ (s j : Nat), j + s = ch.2.2.2.1 → ∀ (I : Mi) (L : Ml), FrI [(58, 39, 1)] I0 I → L 70 = L0 70 → I 58 39 = .ofInt (lnS ch j).2.2 →
    Wp 353 12 [(0, .ref 58), (1, .long (Int64.ofInt (lnS ch j).1)), (3, .long (Int64.ofInt (lnS ch j).2.1)), (5, .int (Int32.ofInt j))] [] (gE Lx) I L e Q := by
  have h4 := hok.2.2.2.1
  intro s
  induction s with
  | zero =>
    intro j hj I L hf hl ht
    have : j = ch.2.2.2.1 := by omega
    subst this
    have hc : BnAt I 59 0 ch := hc0.cg (hf.at rfl)
    have e3 : I 59 3 = Int32.ofInt (ch.2.2.2.1 : Int) := hc.2.2.2.1
    obtain ⟨k1, ⟨k2, k3⟩, k4⟩ := lnS_ok hok ch.2.2.2.1 (Nat.le_refl _)
    have pj := pow24 _ h4
    refine s_353_12 ?_
    rw [e3]
    exact i_lt32 (by omega) (by omega) (fun _ => by omega) (fun _ => c_246 (by omega) (by omega) (fun w => by unfold up at k1; omega) (fun L1 hf1 u8 u9 => kcp_v rfl (s_353_132 (fin I L1 hf ((hf1.at rfl).trans hl) ht u8 u9))))
  | succ s ih =>
    intro j hj I L hf hl ht
    have hc : BnAt I 59 0 ch := hc0.cg (hf.at rfl)
    have e3 : I 59 3 = Int32.ofInt (ch.2.2.2.1 : Int) := hc.2.2.2.1
    have hel := hok.2.2.2.2 j (by omega)
    obtain ⟨r1, r2, r3⟩ := el_r hel
    obtain ⟨k1, ⟨k2, k3⟩, k4⟩ := lnS_ok hok j (by omega)
    have pj := pow24 j (by omega)
    have tb := hel.2.b
    have lb := ln_b (B := 331776) (c := (lnS ch j).1) (s := (lnS ch j).2.1) (by omega) (by omega) tb.1 tb.2
    have stp := lnS_s (ch := ch) (i := j)
    have go : Wp 353 50 [(0, .ref 58), (1, .long (Int64.ofInt (lnS ch j).1)), (3, .long (Int64.ofInt (lnS ch j).2.1)), (5, .int (Int32.ofInt j)), (6, .int (Int32.ofInt (ch.2.2.2.2 j).2.1))] [.int (Int32.ofInt (lnQ (ch.2.2.2.2 j).2.1 (ch.2.2.2.2 j).2.2))] (gE Lx) I L e Q := by
      have qb : -12 ≤ lnQ (ch.2.2.2.2 j).2.1 (ch.2.2.2.2 j).2.2 ∧ lnQ (ch.2.2.2.2 j).2.1 (ch.2.2.2.2 j).2.2 ≤ 12 := by unfold lnQ; split <;> omega
      have ea : ∀ x : Int, 0 ≤ x → (x = (ch.2.2.2.2 j).2.1 ∨ x = -(ch.2.2.2.2 j).2.1) → x = lnA (ch.2.2.2.2 j).2.1 := fun x h0 h1 => by unfold lnA; split <;> omega
      refine s_353_50 ?_
      rw [i2l r2, i2l (by omega), mul64]
      refine c_210 (by omega) (fun x hx1 hx2 => kcp_v rfl (s_353_64 ?_))
      rw [ea x hx1 hx2, i2l r2, mul64, sub64]
      refine c_210 (by omega) (fun z hz1 hz2 => kcp_v rfl (s_353_75 ?_))
      rw [ea z hz1 hz2, i2l (by omega), mul64, mul64, add64, neg64, neg64, ht]
      rw [show (lnS ch j).1 * lnQ (ch.2.2.2.2 j).2.1 (ch.2.2.2.2 j).2.2 - (lnS ch j).2.1 * lnA (ch.2.2.2.2 j).2.1 = lnC (lnS ch j).1 (lnS ch j).2.1 (ch.2.2.2.2 j).2.1 (ch.2.2.2.2 j).2.2 from rfl, show (lnS ch j).1 * lnA (ch.2.2.2.2 j).2.1 + (lnS ch j).2.1 * lnQ (ch.2.2.2.2 j).2.1 (ch.2.2.2.2 j).2.2 = lnB (lnS ch j).1 (lnS ch j).2.1 (ch.2.2.2.2 j).2.1 (ch.2.2.2.2 j).2.2 from rfl]
      have wr : lnG (lnS ch j).1 (lnS ch j).2.1 (ch.2.2.2.2 j).2.1 (ch.2.2.2.2 j).2.2 → Wp 353 12 [(0, .ref 58), (1, .long (Int64.ofInt (-lnC (lnS ch j).1 (lnS ch j).2.1 (ch.2.2.2.2 j).2.1 (ch.2.2.2.2 j).2.2))), (3, .long (Int64.ofInt (-lnB (lnS ch j).1 (lnS ch j).2.1 (ch.2.2.2.2 j).2.1 (ch.2.2.2.2 j).2.2))), (5, .int (Int32.ofInt (j : Int) + Int32.ofInt 1))] [] (gE Lx) (ui I 58 39 (Int32.ofInt (lnS ch j).2.2 + Int32.ofInt 1)) L e Q := fun q => by
        rw [if_pos q] at stp
        have := ih (j + 1) (by omega) (ui I 58 39 (Int32.ofInt ((lnS ch j).2.2 + 1))) L (FrI.wu hf rfl) hl (by rw [u_at, stp])
        rw [stp] at this
        rw [add32, add32]
        exact this
      have nw : ¬ lnG (lnS ch j).1 (lnS ch j).2.1 (ch.2.2.2.2 j).2.1 (ch.2.2.2.2 j).2.2 → Wp 353 12 [(0, .ref 58), (1, .long (Int64.ofInt (lnC (lnS ch j).1 (lnS ch j).2.1 (ch.2.2.2.2 j).2.1 (ch.2.2.2.2 j).2.2))), (3, .long (Int64.ofInt (lnB (lnS ch j).1 (lnS ch j).2.1 (ch.2.2.2.2 j).2.1 (ch.2.2.2.2 j).2.2))), (5, .int (Int32.ofInt (j : Int) + Int32.ofInt 1))] [] (gE Lx) I L e Q := fun q => by
        rw [if_neg q] at stp
        have := ih (j + 1) (by omega) I L hf hl (by rw [ht, stp])
        rw [stp] at this
        rw [add32]
        exact this
      refine i_lt64 (by omega) (by omega) (fun q => wr (Or.inl q)) (fun q1 => i_eq64 (by omega) (by omega) (fun q2 => i_lt64 (by omega) (by omega) (fun q3 => wr (Or.inr ⟨q2, q3⟩)) (fun q3 => nw (by unfold lnG; omega))) (fun q2 => nw (by unfold lnG; omega)))
    refine s_353_12 ?_
    rw [e3]
    refine i_lt32 (by omega) (by omega) (fun _ => c_223 hc (by omega) h4 (kcp_v rfl (s_353_27 ?_))) (fun _ => by omega)
    refine i_ltz r2 (fun q => c_224 hc (by omega) h4 (kcp_v rfl (s_353_40 ?_))) (fun q => c_224 hc (by omega) h4 (kcp_v rfl ?_))
    · have e5 : lnQ (ch.2.2.2.2 j).2.1 (ch.2.2.2.2 j).2.2 = -(ch.2.2.2.2 j).2.2 := if_pos q
      rw [e5] at go
      rw [neg32]
      exact go
    · have e5 : lnQ (ch.2.2.2.2 j).2.1 (ch.2.2.2.2 j).2.2 = (ch.2.2.2.2 j).2.2 := if_neg (by omega)
      rw [e5] at go
      exact go
theorem r_352 {ch : Ch} (hok : ChOk ch) (hc : BnAt I 59 0 ch) {wh : Int} (hwh : R32 wh) (h : RQ Lx I L e Q (spLen ch wh).1 vL (spLen ch wh).2) :
    Wp 352 0 [(0, .ref 58), (1, .int (Int32.ofInt wh))] [] (gE Lx) I L e Q := by
  unfold spLen at h
  have h4 := hok.2.2.2.1
  obtain ⟨k1, ⟨k2, k3⟩, k4⟩ := lnS_ok hok ch.2.2.2.1 (Nat.le_refl _)
  have one : wh < 0 ∨ 2 < wh → Q (.inl (some (.long (Int64.ofInt 0)))) (gE Lx) (ui I 58 0 (Int32.ofInt 1)) L e := fun q => by
    rw [if_pos q] at h
    exact h.mk (v := 0) (FrI.wu FrI.rf rfl) rfl (c := 1) u_at rfl (fun z => by cases z)
  refine s_352_0 (i_lt32 hwh (by omega) (fun q => one (by omega)) (fun a1 => i_lt32 (by omega) hwh (fun q => one (by omega)) (fun a2 => ?_)))
  rw [if_neg (by omega)] at h
  have hc2 : BnAt (ui I 58 0 (Int32.ofInt 0)) 59 0 ch := hc.cg rfl
  have hI : FrI [(58, 39, 1)] (ui I 58 0 (Int32.ofInt 0)) (ui (ui I 58 0 (Int32.ofInt 0)) 58 39 (Int32.ofInt 0)) := FrI.wu FrI.rf rfl
  refine s_353_0 (l_353 (I0 := ui I 58 0 (Int32.ofInt 0)) (L0 := L) hok hc2 (fun I2 L2 hf2 hl2 t2 u8 u9 => kcp_v rfl (s_352_31 ?_)) ch.2.2.2.1 0 (by omega) _ L hI rfl u_at)
  have hff : FrI rS I I2 := FrI.tr (A := rS) (FrI.wu FrI.rf rfl) hf2 rfl rfl
  have h0 : I2 58 0 = Int32.ofInt 0 := (hf2 58 0 rfl).trans u_at
  rw [t2, u8, u9, i2l (by omega)]
  have h : RQ Lx I L e Q 0 vL (lnV ch wh) := h
  unfold lnV at h
  refine i_eqz hwh (fun q1 => ?_) (fun q1 => i_eq32 hwh (by omega) (fun q2 => ?_) (fun q2 => ?_))
  · rw [if_pos q1] at h
    exact h.mk hff hl2 (c := 0) h0 rfl (fun _ => rfl)
  · rw [if_neg q1, if_pos q2] at h
    exact h.mk hff hl2 (c := 0) h0 rfl (fun _ => rfl)
  · rw [if_neg q1, if_neg q2] at h
    exact h.mk hff hl2 (c := 0) h0 rfl (fun _ => rfl)
end
