/-! What is seen: four whole numbers, and what passes do to them. -/
abbrev Wv : Type := Int × Int × Int × Int
def wLine (p q : Int) (w : Wv) : Wv := (q * w.1 - p * w.2.2.2, q * w.2.1 + p * w.2.2.1, q * w.2.2.1 - p * w.2.1, q * w.2.2.2 + p * w.1)
def wAc (u v : Int) (w : Wv) : Wv := if w.1 = 0 ∧ w.2.1 = 0 then w else (v * w.1, v * w.2.1, v * w.2.2.1 - u * w.2.1, v * w.2.2.2 + u * w.1)
def wAl (u v : Int) (w : Wv) : Wv := if w.2.2.1 = 0 ∧ w.2.2.2 = 0 then w else (v * w.1 - u * w.2.2.2, v * w.2.1 + u * w.2.2.1, v * w.2.2.1, v * w.2.2.2)
def wPass (s p q : Int) (w : Wv) : Wv := if s = 0 then wLine p q w else if s = 1 then wAc p q w else if s = 2 then wAc (-q) p w else if s = 3 then wAl (-q) p w else wAl p q w
def sm (c : Int) (w : Wv) : Wv := (c * w.1, c * w.2.1, c * w.2.2.1, c * w.2.2.2)
/-- alike but for a number by which all four are told -/
def Sc (w r : Wv) : Prop := ∃ c : Int, c ≠ 0 ∧ w = sm c r
theorem Sc.rf {w : Wv} : Sc w w := ⟨1, by decide, by simp [sm]⟩
theorem Sc.tr {a b c : Wv} (h : Sc a b) (k : Sc b c) : Sc a c := by
  obtain ⟨x, hx, rfl⟩ := h
  obtain ⟨y, hy, rfl⟩ := k
  exact ⟨x * y, Int.mul_ne_zero hx hy, by simp [sm, Int.mul_assoc]⟩
theorem sm_0 {c x : Int} (h : c ≠ 0) : c * x = 0 ↔ x = 0 := by
  rw [Int.mul_eq_zero]
  exact ⟨fun k => k.resolve_left h, Or.inr⟩
theorem wLine_sm (p q c : Int) (w : Wv) : wLine p q (sm c w) = sm c (wLine p q w) := by
  simp only [wLine, sm, Prod.mk.injEq]
  refine ⟨?_, ?_, ?_, ?_⟩ <;> grind
theorem wAc_sm (u v c : Int) (hc : c ≠ 0) (w : Wv) : wAc u v (sm c w) = sm c (wAc u v w) := by
  unfold wAc
  by_cases h : w.1 = 0 ∧ w.2.1 = 0
  · rw [if_pos h, if_pos (by simp only [sm]; exact ⟨(sm_0 hc).mpr h.1, (sm_0 hc).mpr h.2⟩)]
  · rw [if_neg h, if_neg (by simp only [sm]; rw [sm_0 hc, sm_0 hc]; exact h)]
    simp only [sm, Prod.mk.injEq]
    refine ⟨?_, ?_, ?_, ?_⟩ <;> grind
theorem wAl_sm (u v c : Int) (hc : c ≠ 0) (w : Wv) : wAl u v (sm c w) = sm c (wAl u v w) := by
  unfold wAl
  by_cases h : w.2.2.1 = 0 ∧ w.2.2.2 = 0
  · rw [if_pos h, if_pos (by simp only [sm]; exact ⟨(sm_0 hc).mpr h.1, (sm_0 hc).mpr h.2⟩)]
  · rw [if_neg h, if_neg (by simp only [sm]; rw [sm_0 hc, sm_0 hc]; exact h)]
    simp only [sm, Prod.mk.injEq]
    refine ⟨?_, ?_, ?_, ?_⟩ <;> grind
theorem Sc.line {w r : Wv} (h : Sc w r) (p q : Int) : Sc (wLine p q w) (wLine p q r) := by
  obtain ⟨c, hc, rfl⟩ := h
  exact ⟨c, hc, wLine_sm ..⟩
theorem Sc.ac {w r : Wv} (h : Sc w r) (p q : Int) : Sc (wAc p q w) (wAc p q r) := by
  obtain ⟨c, hc, rfl⟩ := h
  exact ⟨c, hc, wAc_sm _ _ _ hc _⟩
theorem Sc.al {w r : Wv} (h : Sc w r) (p q : Int) : Sc (wAl p q w) (wAl p q r) := by
  obtain ⟨c, hc, rfl⟩ := h
  exact ⟨c, hc, wAl_sm _ _ _ hc _⟩
theorem wAc_ng (u v : Int) (w : Wv) : Sc (wAc (-u) (-v) w) (wAc u v w) := by
  unfold wAc
  by_cases h : w.1 = 0 ∧ w.2.1 = 0
  · rw [if_pos h, if_pos h]; exact Sc.rf
  · rw [if_neg h, if_neg h]
    refine ⟨-1, by decide, ?_⟩
    simp only [sm, Prod.mk.injEq]
    refine ⟨?_, ?_, ?_, ?_⟩ <;> grind
theorem wAl_ng (u v : Int) (w : Wv) : Sc (wAl (-u) (-v) w) (wAl u v w) := by
  unfold wAl
  by_cases h : w.2.2.1 = 0 ∧ w.2.2.2 = 0
  · rw [if_pos h, if_pos h]; exact Sc.rf
  · rw [if_neg h, if_neg h]
    refine ⟨-1, by decide, ?_⟩
    simp only [sm, Prod.mk.injEq]
    refine ⟨?_, ?_, ?_, ?_⟩ <;> grind
theorem Sc.pass {w r : Wv} (h : Sc w r) (s p q : Int) : Sc (wPass s p q w) (wPass s p q r) := by
  unfold wPass
  split
  · exact h.line p q
  split
  · exact h.ac p q
  split
  · exact h.ac _ _
  split
  · exact h.al _ _
  · exact h.al _ _
/-- the other side's s of a stub -/
def rUp (s p q : Int) : Int := if s = 1 ∨ s = 4 then p else if 0 < p then -q else if p < 0 then q else 1
def rLo (s p q : Int) : Int := if s = 1 ∨ s = 4 then q else if p < 0 then -p else p
def rPass (s p q : Int) (w : Wv) : Wv := if s = 0 then wLine p q w else if s = 1 ∨ s = 2 then wAc (rUp s p q) (rLo s p q) w else wAl (rUp s p q) (rLo s p q) w
/-- whole numbers so many at most -/
def WB (B : Int) (w : Wv) : Prop := (-B ≤ w.1 ∧ w.1 ≤ B) ∧ (-B ≤ w.2.1 ∧ w.2.1 ≤ B) ∧ (-B ≤ w.2.2.1 ∧ w.2.2.1 ≤ B) ∧ (-B ≤ w.2.2.2 ∧ w.2.2.2 ≤ B)
theorem mulB {x y A B : Int} (hx : -A ≤ x ∧ x ≤ A) (hy : -B ≤ y ∧ y ≤ B) : -(A * B) ≤ x * y ∧ x * y ≤ A * B := by
  have hA : 0 ≤ A := by omega
  have hB : 0 ≤ B := by omega
  have h1 : x.natAbs ≤ A.natAbs := by omega
  have h2 : y.natAbs ≤ B.natAbs := by omega
  have h3 : (x * y).natAbs ≤ (A * B).natAbs := by rw [Int.natAbs_mul, Int.natAbs_mul]; exact Nat.mul_le_mul h1 h2
  have h4 : 0 ≤ A * B := Int.mul_nonneg hA hB
  omega
theorem WB.le {A B : Int} {w : Wv} (h : WB A w) (k : A ≤ B) : WB B w := by
  unfold WB at h ⊢
  omega
theorem WB.line {B P Q p q : Int} {w : Wv} (h : WB B w) (hp : -P ≤ p ∧ p ≤ P) (hq : -Q ≤ q ∧ q ≤ Q) : WB (Q * B + P * B) (wLine p q w) := by
  obtain ⟨h1, h2, h3, h4⟩ := h
  have a1 := mulB hq h1; have a2 := mulB hq h2; have a3 := mulB hq h3; have a4 := mulB hq h4
  have b1 := mulB hp h1; have b2 := mulB hp h2; have b3 := mulB hp h3; have b4 := mulB hp h4
  unfold WB wLine
  dsimp only
  omega
theorem WB.ac {B P Q p q : Int} {w : Wv} (h : WB B w) (hp : -P ≤ p ∧ p ≤ P) (hq : -Q ≤ q ∧ q ≤ Q) (h1P : 1 ≤ P + Q) : WB (Q * B + P * B) (wAc p q w) := by
  have hB : 0 ≤ B := by have := h.1; omega
  have hP : 0 ≤ P * B := Int.mul_nonneg (by omega) hB
  have hQ : 0 ≤ Q * B := Int.mul_nonneg (by omega) hB
  have hPQ : 1 * B ≤ (P + Q) * B := Int.mul_le_mul_of_nonneg_right h1P hB
  rw [Int.add_mul] at hPQ
  unfold wAc
  split
  · exact h.le (by omega)
  · obtain ⟨h1, h2, h3, h4⟩ := h
    have a1 := mulB hq h1; have a2 := mulB hq h2; have a3 := mulB hq h3; have a4 := mulB hq h4
    have b1 := mulB hp h1; have b2 := mulB hp h2; have b3 := mulB hp h3; have b4 := mulB hp h4
    unfold WB
    dsimp only
    omega
theorem WB.al {B P Q p q : Int} {w : Wv} (h : WB B w) (hp : -P ≤ p ∧ p ≤ P) (hq : -Q ≤ q ∧ q ≤ Q) (h1P : 1 ≤ P + Q) : WB (Q * B + P * B) (wAl p q w) := by
  have hB : 0 ≤ B := by have := h.1; omega
  have hP : 0 ≤ P * B := Int.mul_nonneg (by omega) hB
  have hQ : 0 ≤ Q * B := Int.mul_nonneg (by omega) hB
  have hPQ : 1 * B ≤ (P + Q) * B := Int.mul_le_mul_of_nonneg_right h1P hB
  rw [Int.add_mul] at hPQ
  unfold wAl
  split
  · exact h.le (by omega)
  · obtain ⟨h1, h2, h3, h4⟩ := h
    have a1 := mulB hq h1; have a2 := mulB hq h2; have a3 := mulB hq h3; have a4 := mulB hq h4
    have b1 := mulB hp h1; have b2 := mulB hp h2; have b3 := mulB hp h3; have b4 := mulB hp h4
    unfold WB
    dsimp only
    omega
theorem WB.pass {B P p q s : Int} {w : Wv} (h : WB B w) (hp : -P ≤ p ∧ p ≤ P) (hq : -P ≤ q ∧ q ≤ P) (h1P : 1 ≤ P) : WB (P * B + P * B) (wPass s p q w) := by
  unfold wPass
  split
  · exact h.line hp hq
  split
  · exact h.ac hp hq (by omega)
  split
  · exact h.ac (by omega) hp (by omega)
  split
  · exact h.al (by omega) hp (by omega)
  · exact h.al hp hq (by omega)
theorem rUL_b {s p q P : Int} (hp : -P ≤ p ∧ p ≤ P) (hq : -P ≤ q ∧ q ≤ P) (h1P : 1 ≤ P) : (-P ≤ rUp s p q ∧ rUp s p q ≤ P) ∧ (-P ≤ rLo s p q ∧ rLo s p q ≤ P) := by
  unfold rUp rLo
  repeat' split
  all_goals omega
theorem WB.rpass {B P p q s : Int} {w : Wv} (h : WB B w) (hp : -P ≤ p ∧ p ≤ P) (hq : -P ≤ q ∧ q ≤ P) (h1P : 1 ≤ P) : WB (P * B + P * B) (rPass s p q w) := by
  obtain ⟨k1, k2⟩ := rUL_b (s := s) hp hq h1P
  unfold rPass
  split
  · exact h.line hp hq
  split
  · exact h.ac k1 k2 (by omega)
  · exact h.al k1 k2 (by omega)
/-- the other side passes alike -/
theorem rPass_sc {s p q : Int} (hs : 0 ≤ s ∧ s ≤ 4) (hp : p = 0 → q = 1) (w : Wv) : Sc (wPass s p q w) (rPass s p q w) := by
  have e0 : s = 0 ∨ s = 1 ∨ s = 2 ∨ s = 3 ∨ s = 4 := by omega
  rcases e0 with rfl | rfl | rfl | rfl | rfl
  · exact Sc.rf
  · exact Sc.rf
  · show Sc (wAc (-q) p w) (wAc (if 0 < p then -q else if p < 0 then q else 1) (if p < 0 then -p else p) w)
    rcases Int.lt_trichotomy p 0 with h | h | h
    · rw [if_neg (by omega), if_pos h, if_pos h]
      have := wAc_ng q (-p) w
      rw [Int.neg_neg] at this
      exact this
    · subst h
      rw [if_neg (by omega), if_neg (by omega), if_neg (by omega), hp rfl]
      exact wAc_ng 1 0 w
    · rw [if_pos h, if_neg (by omega)]
      exact Sc.rf
  · show Sc (wAl (-q) p w) (wAl (if 0 < p then -q else if p < 0 then q else 1) (if p < 0 then -p else p) w)
    rcases Int.lt_trichotomy p 0 with h | h | h
    · rw [if_neg (by omega), if_pos h, if_pos h]
      have := wAl_ng q (-p) w
      rw [Int.neg_neg] at this
      exact this
    · subst h
      rw [if_neg (by omega), if_neg (by omega), if_neg (by omega), hp rfl]
      exact wAl_ng 1 0 w
    · rw [if_pos h, if_neg (by omega)]
      exact Sc.rf
  · exact Sc.rf
/-- the real part, by the square of what is below -/
def wRe (w : Wv) : Int := w.1 * w.2.2.1 + w.2.1 * w.2.2.2
def wIm (w : Wv) : Int := w.2.1 * w.2.2.1 - w.1 * w.2.2.2
def wUp (w : Wv) : Int := w.1 * w.1 + w.2.1 * w.2.1
def wLo (w : Wv) : Int := w.2.2.1 * w.2.2.1 + w.2.2.2 * w.2.2.2
def eUp (w : Wv) : Int := (w.1 - w.2.2.1) * (w.1 - w.2.2.1) + (w.2.1 - w.2.2.2) * (w.2.1 - w.2.2.2)
def eLo (w : Wv) : Int := (w.1 + w.2.2.1) * (w.1 + w.2.2.1) + (w.2.1 + w.2.2.2) * (w.2.1 + w.2.2.2)
def Good (w : Wv) : Prop := 0 ≤ wRe w ∧ ¬ (w.1 = 0 ∧ w.2.1 = 0 ∧ w.2.2.1 = 0 ∧ w.2.2.2 = 0)
theorem sq_nn (x : Int) : 0 ≤ x * x := by
  rcases Int.le_total 0 x with h | h
  · exact Int.mul_nonneg h h
  · exact Int.mul_nonneg_of_nonpos_of_nonpos h h
theorem sq_pos {x : Int} (h : x ≠ 0) : 0 < x * x := by
  have h1 := sq_nn x
  have h2 : x * x ≠ 0 := Int.mul_ne_zero h h
  omega
theorem sq2_pos {x y : Int} (h : ¬ (x = 0 ∧ y = 0)) : 0 < x * x + y * y := by
  have h1 := sq_nn x
  have h2 := sq_nn y
  by_cases hx : x = 0
  · have := sq_pos (x := y) (fun k => h ⟨hx, k⟩); omega
  · have := sq_pos hx; omega
theorem wUp_nn (w : Wv) : 0 ≤ wUp w := by have := sq_nn w.1; have := sq_nn w.2.1; unfold wUp; omega
theorem wLo_nn (w : Wv) : 0 ≤ wLo w := by have := sq_nn w.2.2.1; have := sq_nn w.2.2.2; unfold wLo; omega
theorem eUp_nn (w : Wv) : 0 ≤ eUp w := by have := sq_nn (w.1 - w.2.2.1); have := sq_nn (w.2.1 - w.2.2.2); unfold eUp; omega
theorem wUL_pos {w : Wv} (h : Good w) : 0 < wUp w + wLo w := by
  have h1 := wUp_nn w
  have h2 := wLo_nn w
  by_cases k : w.1 = 0 ∧ w.2.1 = 0
  · by_cases k2 : w.2.2.1 = 0 ∧ w.2.2.2 = 0
    · exact absurd ⟨k.1, k.2, k2.1, k2.2⟩ h.2
    · have := sq2_pos k2; unfold wLo; omega
  · have := sq2_pos k; unfold wUp; omega
theorem eLo_eq (w : Wv) : eLo w = wUp w + wLo w + 2 * wRe w := by unfold eLo wUp wLo wRe; grind
theorem eUp_eq (w : Wv) : eUp w = wUp w + wLo w - 2 * wRe w := by unfold eUp wUp wLo wRe; grind
theorem eLo_pos {w : Wv} (h : Good w) : 0 < eLo w := by have := wUL_pos h; have := h.1; rw [eLo_eq]; omega
theorem Good.line {w : Wv} (h : Good w) {p q : Int} (hpq : ¬ (p = 0 ∧ q = 0)) : Good (wLine p q w) := by
  have hn := sq2_pos hpq
  have e1 : wRe (wLine p q w) = (p * p + q * q) * wRe w := by unfold wRe wLine; grind
  have e2 : wUp (wLine p q w) + wLo (wLine p q w) = (p * p + q * q) * (wUp w + wLo w) := by unfold wUp wLo wLine; grind
  refine ⟨by rw [e1]; exact Int.mul_nonneg (by omega) h.1, fun k => ?_⟩
  have h3 : 0 < (p * p + q * q) * (wUp w + wLo w) := Int.mul_pos hn (wUL_pos h)
  rw [← e2] at h3
  unfold wUp wLo at h3
  rw [k.1, k.2.1, k.2.2.1, k.2.2.2] at h3
  simp at h3
theorem Good.ac {w : Wv} (h : Good w) {p q : Int} (hpq : ¬ (p = 0 ∧ q = 0)) : Good (wAc p q w) := by
  unfold wAc
  split
  · exact h
  · next k =>
    refine ⟨?_, fun z => ?_⟩
    · have e1 : wRe (q * w.1, q * w.2.1, q * w.2.2.1 - p * w.2.1, q * w.2.2.2 + p * w.1) = (q * q) * wRe w := by unfold wRe; grind
      rw [e1]; exact Int.mul_nonneg (sq_nn q) h.1
    · dsimp only at z
      obtain ⟨z1, z2, z3, z4⟩ := z
      by_cases hq : q = 0
      · have hp : p ≠ 0 := fun kk => hpq ⟨kk, hq⟩
        rw [hq, Int.zero_mul] at z3 z4
        have a1 : p * w.2.1 = 0 := by omega
        have a2 : p * w.1 = 0 := by omega
        exact k ⟨(sm_0 hp).mp a2, (sm_0 hp).mp a1⟩
      · exact k ⟨(sm_0 hq).mp z1, (sm_0 hq).mp z2⟩
theorem Good.al {w : Wv} (h : Good w) {p q : Int} (hpq : ¬ (p = 0 ∧ q = 0)) : Good (wAl p q w) := by
  unfold wAl
  split
  · exact h
  · next k =>
    refine ⟨?_, fun z => ?_⟩
    · have e1 : wRe (q * w.1 - p * w.2.2.2, q * w.2.1 + p * w.2.2.1, q * w.2.2.1, q * w.2.2.2) = (q * q) * wRe w := by unfold wRe; grind
      rw [e1]; exact Int.mul_nonneg (sq_nn q) h.1
    · dsimp only at z
      obtain ⟨z1, z2, z3, z4⟩ := z
      by_cases hq : q = 0
      · have hp : p ≠ 0 := fun kk => hpq ⟨kk, hq⟩
        rw [hq, Int.zero_mul] at z1 z2
        have a1 : p * w.2.2.2 = 0 := by omega
        have a2 : p * w.2.2.1 = 0 := by omega
        exact k ⟨(sm_0 hp).mp a2, (sm_0 hp).mp a1⟩
      · exact k ⟨(sm_0 hq).mp z3, (sm_0 hq).mp z4⟩
theorem Good.pass {w : Wv} (h : Good w) {s p q : Int} (hpq : ¬ (p = 0 ∧ q = 0)) : Good (wPass s p q w) := by
  have h2 : ¬ (-q = 0 ∧ p = 0) := fun k => hpq ⟨k.2, by omega⟩
  unfold wPass
  split
  · exact h.line hpq
  split
  · exact h.ac hpq
  split
  · exact h.ac h2
  split
  · exact h.al h2
  · exact h.al hpq
theorem wRe_sm (c : Int) (w : Wv) : wRe (sm c w) = (c * c) * wRe w := by unfold wRe sm; grind
theorem wIm_sm (c : Int) (w : Wv) : wIm (sm c w) = (c * c) * wIm w := by unfold wIm sm; grind
theorem wUp_sm (c : Int) (w : Wv) : wUp (sm c w) = (c * c) * wUp w := by unfold wUp sm; grind
theorem wLo_sm (c : Int) (w : Wv) : wLo (sm c w) = (c * c) * wLo w := by unfold wLo sm; grind
theorem eUp_sm (c : Int) (w : Wv) : eUp (sm c w) = (c * c) * eUp w := by unfold eUp sm; grind
theorem eLo_sm (c : Int) (w : Wv) : eLo (sm c w) = (c * c) * eLo w := by unfold eLo sm; grind
theorem Good.sc {w r : Wv} (h : Good w) (k : Sc w r) : Good r := by
  obtain ⟨c, hc, rfl⟩ := k
  refine ⟨?_, fun z => h.2 ?_⟩
  · have h1 := h.1
    rw [wRe_sm] at h1
    exact Int.nonneg_of_mul_nonneg_right h1 (sq_pos hc)
  · obtain ⟨z1, z2, z3, z4⟩ := z
    simp only [sm]
    rw [z1, z2, z3, z4]
    simp
