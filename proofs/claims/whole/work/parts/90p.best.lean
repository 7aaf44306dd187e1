/-! The first of the least (or greatest) among many; counting. -/
/-- the numbers of what is tried -/
def fok (f : Nat → Int × Int) (k : Nat) : Prop := (0 ≤ (f k).1 ∧ (f k).1 ≤ 4000000000000000000) ∧ (0 < (f k).2 ∧ (f k).2 ≤ 4000000000000000000)
def bt (w : Int) (f : Nat → Int × Int) (k j : Nat) : Prop := sg ((f k).1 * (f j).2 - (f j).1 * (f k).2) = w
noncomputable def stp1 (C : Nat → Prop) (w : Int) (f : Nat → Int × Int) (k : Nat) (c : Option Nat) : Option Nat := iP (C k ∧ ∀ j, c = some j → bt w f k j) (some k) c
noncomputable def ab (C : Nat → Prop) (w : Int) (f : Nat → Int × Int) : Nat → Nat → Option Nat → Option Nat
  | 0, _, c => c
  | n + 1, k, c => ab C w f n (k + 1) (stp1 C w f k c)
theorem stp_t {C : Nat → Prop} {w : Int} {f : Nat → Int × Int} {k : Nat} {c : Option Nat} (h : C k) (h2 : ∀ j, c = some j → bt w f k j) : stp1 C w f k c = some k := iP_t ⟨h, h2⟩
theorem stp_n {C : Nat → Prop} {w : Int} {f : Nat → Int × Int} {k : Nat} {c : Option Nat} (h : ¬ C k) : stp1 C w f k c = c := iP_f (fun q => h q.1)
theorem stp_f {C : Nat → Prop} {w : Int} {f : Nat → Int × Int} {k : Nat} {c : Option Nat} (h : ∃ j, c = some j ∧ ¬ bt w f k j) : stp1 C w f k c = c := iP_f (fun q => by obtain ⟨j, h1, h2⟩ := h; exact h2 (q.2 j h1))
/-- the candidates that have been met -/
def abI (C : Nat → Prop) (k : Nat) (c : Option Nat) : Prop := ∀ j, c = some j → j < k ∧ C j
theorem stp_I {C : Nat → Prop} {w : Int} {f : Nat → Int × Int} {k : Nat} {c : Option Nat} (h : abI C k c) : abI C (k + 1) (stp1 C w f k c) := by
  intro j hj
  unfold stp1 at hj
  rcases Classical.em (C k ∧ ∀ j, c = some j → bt w f k j) with q | q
  · rw [iP_t q] at hj
    cases hj
    exact ⟨by omega, q.1⟩
  · rw [iP_f q] at hj
    have := h j hj
    exact ⟨by omega, this.2⟩
theorem ab_I {C : Nat → Prop} {w : Int} {f : Nat → Int × Int} : ∀ (n k : Nat) (c : Option Nat), abI C k c → abI C (k + n) (ab C w f n k c) := by
  intro n
  induction n with
  | zero => intro k c h; exact h
  | succ n ih =>
    intro k c h
    have := ih (k + 1) _ (stp_I (w := w) (f := f) h)
    rw [show k + (n + 1) = k + 1 + n by omega]
    exact this
theorem stp_s {C : Nat → Prop} {w : Int} {f : Nat → Int × Int} {k : Nat} {c : Option Nat} (h : C k ∨ ∃ j, c = some j) : ∃ j, stp1 C w f k c = some j := by
  unfold stp1
  rcases Classical.em (C k ∧ ∀ j, c = some j → bt w f k j) with q | q
  · exact ⟨k, iP_t q⟩
  · rw [iP_f q]
    rcases h with h | h
    · cases c with
      | none => exact absurd ⟨h, fun j hj => by cases hj⟩ q
      | some j => exact ⟨j, rfl⟩
    · exact h
theorem ab_s {C : Nat → Prop} {w : Int} {f : Nat → Int × Int} : ∀ (n k : Nat) (c : Option Nat), (∃ j, c = some j) → ∃ j, ab C w f n k c = some j := by
  intro n
  induction n with
  | zero => intro k c h; exact h
  | succ n ih => intro k c h; exact ih (k + 1) _ (stp_s (Or.inr h))
theorem ab_0 {C : Nat → Prop} {w : Int} {f : Nat → Int × Int} {n k : Nat} {c : Option Nat} (h : C k) : ∃ j, ab C w f (n + 1) k c = some j := ab_s n (k + 1) _ (stp_s (Or.inl h))
/-- how many of so many from k on -/
noncomputable def cnF (P : Nat → Prop) : Nat → Nat → Int
  | 0, _ => 0
  | n + 1, k => iP (P k) 1 0 + cnF P n (k + 1)
theorem cnF_b {P : Nat → Prop} : ∀ n k, 0 ≤ cnF P n k ∧ cnF P n k ≤ n := by
  intro n
  induction n with
  | zero => intro k; exact ⟨Int.le_refl 0, Int.le_refl 0⟩
  | succ n ih =>
    intro k
    have := ih (k + 1)
    show 0 ≤ iP (P k) 1 0 + cnF P n (k + 1) ∧ iP (P k) 1 0 + cnF P n (k + 1) ≤ ((n + 1 : Nat) : Int)
    rcases Classical.em (P k) with q | q
    · rw [iP_t q]; omega
    · rw [iP_f q]; omega
theorem sg_mul {p x : Int} (hp : 0 < p) : sg (p * x) = sg x := by
  rcases Int.lt_trichotomy x 0 with h | h | h
  · rw [sg_n h, sg_n (Int.mul_neg_of_pos_of_neg hp h)]
  · rw [h, Int.mul_zero]
  · rw [sg_p h, sg_p (Int.mul_pos hp h)]
/-- fractions in their least numbers are compared alike -/
theorem sg_red {n d n2 d2 : Int} (hn : 0 ≤ n) (hd : 0 < d) (hn2 : 0 ≤ n2) (hd2 : 0 < d2) : sg (n * d2 - n2 * d) = sg (fU n d * fL n2 d2 - fU n2 d2 * fL n d) := by
  obtain ⟨g, hg, e1, e2⟩ := red hn (show 0 ≤ d by omega) (by omega)
  obtain ⟨h, hh, e3, e4⟩ := red hn2 (show 0 ≤ d2 by omega) (by omega)
  generalize fU n d = a at *
  generalize fL n d = b at *
  generalize fU n2 d2 = a2 at *
  generalize fL n2 d2 = b2 at *
  have : n * d2 - n2 * d = g * h * (a * b2 - a2 * b) := by rw [e1, e2, e3, e4]; grind
  rw [this, sg_mul (Int.mul_pos hg hh)]
theorem fr_b {n d : Int} (hn : 0 ≤ n) (hd : 0 < d) : 0 ≤ fU n d ∧ fU n d ≤ n ∧ 0 < fL n d ∧ fL n d ≤ d := by
  obtain ⟨g, hg, e1, e2⟩ := red hn (show 0 ≤ d by omega) (by omega)
  generalize fU n d = a at *
  generalize fL n d = b at *
  have a0 : 0 ≤ a := by
    refine Int.not_lt.mp (fun q => ?_)
    have := Int.mul_neg_of_pos_of_neg hg q
    omega
  have b0 : 0 < b := by
    refine Int.not_le.mp (fun q => ?_)
    have : 0 ≤ g * -b := Int.mul_nonneg (by omega) (by omega)
    rw [Int.mul_neg] at this
    omega
  have m1 : 1 * a ≤ g * a := Int.mul_le_mul_of_nonneg_right (by omega) a0
  have m2 : 1 * b ≤ g * b := Int.mul_le_mul_of_nonneg_right (by omega) (by omega)
  exact ⟨a0, by omega, b0, by omega⟩
/-- what the class has found -/
def BsAt (I : Mi) (L : Ml) (f : Nat → Int × Int) : Option Nat → Prop
  | none => I 21 0 = .ofInt 0
  | some j => I 21 0 = .ofInt 1 ∧ L 21 1 = .ofInt (f j).1 ∧ L 21 2 = .ofInt (f j).2
theorem BsAt.cg {I I' : Mi} {L L' : Ml} {f : Nat → Int × Int} {c : Option Nat} (h : BsAt I L f c) (e0 : I' 21 0 = I 21 0) (e1 : L' 21 1 = L 21 1) (e2 : L' 21 2 = L 21 2) : BsAt I' L' f c := by
  cases c with
  | none => exact e0.trans h
  | some j => exact ⟨e0.trans h.1, e1.trans h.2.1, e2.trans h.2.2⟩
section
variable {Lx : Nat} {I : Mi} {L : Ml} {e : Nat} {Q : Kq}
set_option maxHeartbeats 4000000 in
theorem c_3 {f : Nat → Int × Int} {c : Option Nat} {k : Nat} {w : Int} (hw : R32 w) (hk : fok f k) (hc : ∀ j, c = some j → fok f j) (hs : BsAt I L f c)
    (h1 : (∀ j, c = some j → bt w f k j) → ∀ I' L', FrI [(21, 0, 1)] I I' → FrL [(21, 1, 2)] L L' → BsAt I' L' f (some k) → Q (.inl (some (.int (Int32.ofInt 1)))) (gE Lx) I' L' e)
    (h0 : (∃ j, c = some j ∧ ¬ bt w f k j) → Q (.inl (some (.int (Int32.ofInt 0)))) (gE Lx) I L e) :
    Wp 3 0 [(0, .ref 21), (1, .long (Int64.ofInt (f k).1)), (3, .long (Int64.ofInt (f k).2)), (5, .int (Int32.ofInt w))] [] (gE Lx) I L e Q := by
  have take : (∀ j, c = some j → bt w f k j) → Q (.inl (some (.int (Int32.ofInt 1)))) (gE Lx) (ui I 21 0 (Int32.ofInt 1)) (ul (ul L 21 1 (Int64.ofInt (f k).1)) 21 2 (Int64.ofInt (f k).2)) e := fun q =>
    h1 q _ _ (FrI.wu FrI.rf rfl) (FrL.wu (FrL.wu FrL.rf rfl) rfl) ⟨rfl, rfl, rfl⟩
  obtain ⟨hk1, hk2⟩ := hk
  refine s_3_0 ?_
  cases c with
  | none =>
    have hs : I 21 0 = .ofInt 0 := hs
    rw [hs]
    exact j_0 (take (fun j hj => by cases hj))
  | some j =>
    obtain ⟨s0, s1, s2⟩ := hs
    obtain ⟨hj1, hj2⟩ := hc j rfl
    rw [s0, s1, s2]
    refine j_1 (c_23 (by omega) (by omega) (by omega) (by omega) (fun q => by omega) (fun q => by omega) (kcp_v rfl (s_3_20 ?_)))
    have sr : sg ((f k).1 * (f j).2 - (f j).1 * (f k).2) = -1 ∨ sg ((f k).1 * (f j).2 - (f j).1 * (f k).2) = 0 ∨ sg ((f k).1 * (f j).2 - (f j).1 * (f k).2) = 1 := by
      rcases Int.lt_trichotomy ((f k).1 * (f j).2 - (f j).1 * (f k).2) 0 with q | q | q
      · exact Or.inl (sg_n q)
      · exact Or.inr (Or.inl (sg_z q))
      · exact Or.inr (Or.inr (sg_p q))
    refine i_eq32 (by omega) hw (fun q => take (fun j2 hj2 => ?_)) (fun q => h0 ⟨j, rfl, q⟩)
    cases hj2
    exact q
end
