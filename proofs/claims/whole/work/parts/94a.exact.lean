/-! When a stub behind a line matches; counting, the k-th. -/
def mtc (w : Wv) : Prop := w.1 = w.2.2.1 ∧ w.2.1 = w.2.2.2
theorem mtc_sc {w r : Wv} (h : Sc w r) : mtc w ↔ mtc r := by
  obtain ⟨c, hc, rfl⟩ := h
  unfold mtc sm
  dsimp only
  have e : ∀ x y : Int, c * x = c * y ↔ x = y := fun x y => ⟨fun q => Int.eq_of_mul_eq_mul_left hc q, fun q => by rw [q]⟩
  rw [e, e]
theorem isT_u {p q N D : Int} (ht : isT p q) (nz : ¬ (N = 0 ∧ D = 0)) : q * N = p * D ↔ (p = fU N D ∧ q = fL N D) := by
  constructor
  · intro h
    have s0 := sq2_pos ht.nz
    have e1 : (p * p + q * q) * N = (p * N + q * D) * p := by
      have : (p * p + q * q) * N = p * p * N + q * (q * N) := by grind
      rw [this, h]; grind
    have e2 : (p * p + q * q) * D = (p * N + q * D) * q := by
      have : (p * p + q * q) * D = p * (p * D) + q * q * D := by grind
      rw [this, ← h]; grind
    have tz : p * N + q * D ≠ 0 := fun w => by
      rw [w, Int.zero_mul] at e1 e2
      exact nz ⟨(Int.mul_eq_zero.mp e1).resolve_left (by omega), (Int.mul_eq_zero.mp e2).resolve_left (by omega)⟩
    have a := fU_sm (k := p * p + q * q) (a := N) (b := D) (by omega)
    have b := fL_sm (k := p * p + q * q) (a := N) (b := D) (by omega)
    rw [e1, e2, fU_sm tz, (f_id ht).1] at a
    rw [e1, e2, fL_sm tz, (f_id ht).2] at b
    exact ⟨a, b⟩
  · intro h
    have hg := gI_pos nz
    have e1 : gI N D * (N / gI N D) = N := Int.mul_ediv_cancel' (gI_dl N D)
    have e2 : gI N D * (D / gI N D) = D := Int.mul_ediv_cancel' (gI_dr N D)
    obtain ⟨h1, h2⟩ := h
    unfold fU at h1
    unfold fL at h2
    rw [if_neg nz] at h1 h2
    generalize N / gI N D = a at *
    generalize D / gI N D = b at *
    generalize gI N D = g at *
    have hb : (b < 0 ↔ D < 0) := by
      rw [← e2]
      constructor
      · intro w; exact Int.mul_neg_of_pos_of_neg hg w
      · intro w
        refine Int.not_le.mp (fun z => ?_)
        have := Int.mul_nonneg (show 0 ≤ g by omega) z
        omega
    by_cases q1 : D < 0
    · rw [if_pos (Or.inl q1)] at h1
      rw [if_pos q1] at h2
      rw [h1, h2, ← e1, ← e2]; grind
    · rw [if_neg q1] at h2
      by_cases q2 : D = 0 ∧ N < 0
      · rw [if_pos (Or.inr q2)] at h1
        have : b = 0 := by
          have := q2.1
          rw [← e2] at this
          exact (Int.mul_eq_zero.mp this).resolve_left (by omega)
        rw [h1, h2, ← e1, ← e2, this]; grind
      · rw [if_neg (by omega)] at h1
        rw [h1, h2, ← e1, ← e2]; grind
theorem mt_c {u v : Int} (hnz : ¬ (u = 0 ∧ v = 0)) {w : Wv} (hg : Good w) : mtc (wAc u v w) ↔ 0 < wUp w ∧ wRe w = wUp w ∧ v * wIm w = u * wUp w := by
  by_cases z : w.1 = 0 ∧ w.2.1 = 0
  · have e : wAc u v w = w := if_pos z
    have e2 : wUp w = 0 := by unfold wUp; rw [z.1, z.2]; rfl
    rw [e, e2]
    constructor
    · intro h
      unfold mtc at h
      exact absurd ⟨z.1, z.2, by omega, by omega⟩ hg.2
    · intro h; omega
  · have e : wAc u v w = (v * w.1, v * w.2.1, v * w.2.2.1 - u * w.2.1, v * w.2.2.2 + u * w.1) := if_neg z
    have up := sq2_pos z
    have i1 : (w.1 - w.2.2.1) * wUp w = w.1 * (wUp w - wRe w) - w.2.1 * wIm w := by unfold wUp wRe wIm; grind
    have i2 : (w.2.1 - w.2.2.2) * wUp w = w.2.1 * (wUp w - wRe w) + w.1 * wIm w := by unfold wUp wRe wIm; grind
    have i3 : v * (wUp w - wRe w) = w.1 * (v * w.1 - (v * w.2.2.1 - u * w.2.1)) + w.2.1 * (v * w.2.1 - (v * w.2.2.2 + u * w.1)) := by unfold wUp wRe; grind
    have i4 : v * wIm w - u * wUp w = w.2.1 * ((v * w.2.2.1 - u * w.2.1) - v * w.1) - w.1 * ((v * w.2.2.2 + u * w.1) - v * w.2.1) := by unfold wUp wIm; grind
    have up : 0 < wUp w := up
    rw [e]
    unfold mtc
    dsimp only
    constructor
    · rintro ⟨h1, h2⟩
      rw [show v * w.1 - (v * w.2.2.1 - u * w.2.1) = 0 by omega, show v * w.2.1 - (v * w.2.2.2 + u * w.1) = 0 by omega, Int.mul_zero, Int.mul_zero] at i3
      rw [show (v * w.2.2.1 - u * w.2.1) - v * w.1 = 0 by omega, show (v * w.2.2.2 + u * w.1) - v * w.2.1 = 0 by omega, Int.mul_zero, Int.mul_zero] at i4
      have vz : v ≠ 0 := fun k => by
        have hu : u ≠ 0 := fun w => hnz ⟨w, k⟩
        rw [k] at h1 h2
        refine z ⟨?_, ?_⟩
        · have : u * w.1 = 0 := by omega
          exact (Int.mul_eq_zero.mp this).resolve_left hu
        · have : u * w.2.1 = 0 := by omega
          exact (Int.mul_eq_zero.mp this).resolve_left hu
      have : wUp w - wRe w = 0 := (Int.mul_eq_zero.mp (show v * (wUp w - wRe w) = 0 by omega)).resolve_left vz
      exact ⟨up, by omega, by omega⟩
    · rintro ⟨-, h2, h3⟩
      rw [h2, Int.sub_self, Int.mul_zero] at i1 i2
      have a1 : wUp w * (v * w.1 - (v * w.2.2.1 - u * w.2.1)) = 0 := by
        have : wUp w * (v * w.1 - (v * w.2.2.1 - u * w.2.1)) = v * ((w.1 - w.2.2.1) * wUp w) + w.2.1 * (u * wUp w) := by grind
        rw [this, i1, ← h3]; grind
      have a2 : wUp w * (v * w.2.1 - (v * w.2.2.2 + u * w.1)) = 0 := by
        have : wUp w * (v * w.2.1 - (v * w.2.2.2 + u * w.1)) = v * ((w.2.1 - w.2.2.2) * wUp w) - w.1 * (u * wUp w) := by grind
        rw [this, i2, ← h3]; grind
      have b1 := (Int.mul_eq_zero.mp a1).resolve_left (by omega)
      have b2 := (Int.mul_eq_zero.mp a2).resolve_left (by omega)
      omega
/-- the matched stubs, told by their TANGENTS -/
def exM (w : Wv) : Prop := 0 < wUp w ∧ wRe w = wUp w
theorem mt_1 {p q : Int} (ht : isT p q) {w : Wv} (hg : Good w) : mtc (wPass 1 p q w) ↔ exM w ∧ p = fU (wIm w) (wUp w) ∧ q = fL (wIm w) (wUp w) := by
  have e : wPass 1 p q w = wAc p q w := rfl
  rw [e, mt_c ht.nz hg]
  unfold exM
  constructor
  · rintro ⟨h1, h2, h3⟩
    exact ⟨⟨h1, h2⟩, (isT_u ht (fun w => by omega)).mp h3⟩
  · rintro ⟨⟨h1, h2⟩, h3⟩
    exact ⟨h1, h2, (isT_u ht (fun w => by omega)).mpr h3⟩
theorem mt_2 {p q : Int} (ht : isT p q) {w : Wv} (hg : Good w) : mtc (wPass 2 p q w) ↔ exM w ∧ p = fU (-wUp w) (wIm w) ∧ q = fL (-wUp w) (wIm w) := by
  have e : wPass 2 p q w = wAc (-q) p w := rfl
  rw [e, mt_c (fun k => ht.nz ⟨k.2, by omega⟩) hg]
  unfold exM
  have f : p * wIm w = -q * wUp w ↔ q * -wUp w = p * wIm w := by rw [Int.mul_neg, Int.neg_mul]; omega
  rw [f]
  constructor
  · rintro ⟨h1, h2, h3⟩
    exact ⟨⟨h1, h2⟩, (isT_u ht (fun w => by omega)).mp h3⟩
  · rintro ⟨⟨h1, h2⟩, h3⟩
    exact ⟨h1, h2, (isT_u ht (fun w => by omega)).mpr h3⟩
/-- so many, and which is the k-th -/
noncomputable def exT (P : Nat → Prop) (k : Int) : Nat → Int × Nat
  | 0 => (0, 0)
  | t + 1 => iP (P t) ((exT P k t).1 + 1, iP ((exT P k t).1 = k) t (exT P k t).2) (exT P k t)
theorem exT_n {P : Nat → Prop} {k : Int} {t : Nat} (h : ¬ P t) : exT P k (t + 1) = exT P k t := iP_f h
theorem exT_y {P : Nat → Prop} {k : Int} {t : Nat} (h : P t) : exT P k (t + 1) = ((exT P k t).1 + 1, iP ((exT P k t).1 = k) t (exT P k t).2) := iP_t h
theorem exT_g {P : Nat → Prop} {k : Int} : ∀ (n a : Nat), (∀ t, a ≤ t → t < a + n → ¬ P t) → exT P k (a + n) = exT P k a := by
  intro n
  induction n with
  | zero => intro a _; rfl
  | succ n ih =>
    intro a h
    rw [← Nat.add_assoc, exT_n (h _ (by omega) (by omega))]
    exact ih a (fun t h1 h2 => h t h1 (by omega))
theorem exT_v {P : Nat → Prop} {k : Int} : ∀ t, (0 ≤ (exT P k t).1 ∧ (exT P k t).1 ≤ t) ∧ (0 ≤ k → k < (exT P k t).1 → (exT P k t).2 < t) := by
  intro t
  induction t with
  | zero =>
    have e : exT P k 0 = (0, 0) := rfl
    rw [e]
    exact ⟨⟨by decide, by decide⟩, fun h1 h2 => by have : k < 0 := h2; omega⟩
  | succ t ih =>
    rcases Classical.em (P t) with q | q
    · rw [exT_y q]
      refine ⟨by dsimp only; omega, fun h1 h2 => ?_⟩
      dsimp only at h2 ⊢
      rcases Classical.em ((exT P k t).1 = k) with w | w
      · rw [iP_t w]; omega
      · rw [iP_f w]
        have := ih.2 h1 (by omega)
        omega
    · rw [exT_n q]
      exact ⟨by omega, fun h1 h2 => by have := ih.2 h1 h2; omega⟩
theorem exT_2 {P : Nat → Prop} {k : Int} {a n o1 o2 : Nat} (h12 : o1 < o2) (h2 : o2 < n) (hP : ∀ o, o < n → (P (a + o) ↔ o = o1 ∨ o = o2)) : exT P k (a + n) = ((exT P k a).1 + 1 + 1, iP ((exT P k a).1 = k) (a + o1) (iP ((exT P k a).1 + 1 = k) (a + o2) (exT P k a).2)) := by
  have no : ∀ b c, (∀ o, b ≤ o → o < c → o ≠ o1 ∧ o ≠ o2) → b ≤ c → c ≤ n → exT P k (a + c) = exT P k (a + b) := fun b c hbc h3 h4 => by
    have := exT_g (P := P) (k := k) (c - b) (a + b) (fun t h5 h6 q => by
      have := (hP (t - a) (by omega)).mp (by rw [show a + (t - a) = t by omega]; exact q)
      have := hbc (t - a) (by omega) (by omega)
      omega)
    rw [show a + b + (c - b) = a + c by omega] at this
    exact this
  have s1 := no 0 o1 (fun o h5 h6 => by omega) (by omega) (by omega)
  have s2 := exT_y (P := P) (k := k) ((hP o1 (by omega)).mpr (Or.inl rfl))
  have s3 := no (o1 + 1) o2 (fun o h5 h6 => by omega) (by omega) (by omega)
  have s4 := exT_y (P := P) (k := k) ((hP o2 (by omega)).mpr (Or.inr rfl))
  have s5 := no (o2 + 1) n (fun o h5 h6 => by omega) (by omega) (by omega)
  rw [Nat.add_zero] at s1
  rw [Nat.add_assoc] at s2 s4
  rw [s5, s4, s3, s2, s1]
  dsimp only
  rcases Classical.em ((exT P k a).1 = k) with q | q
  · rw [iP_t q, iP_f (show ¬ (exT P k a).1 + 1 = k by omega), iP_t q]
  · rw [iP_f q, iP_f q]
set_option maxRecDepth 100000 in
theorem tg_p0 : ∀ k, k < 184 → decide ((k < 92 ↔ (0 ≤ tgU k ∧ 0 < tgL k)) ∧ (k = 92 ↔ tgL k = 0) ∧ (92 < k ↔ tgU k < 0)) = true := by decide +kernel
theorem tg_p {k : Nat} (h : k < 184) : (k < 92 ↔ (0 ≤ tgU k ∧ 0 < tgL k)) ∧ (k = 92 ↔ tgL k = 0) ∧ (92 < k ↔ tgU k < 0) := of_decide_eq_true (tg_p0 k h)
