/-! PLACES: which of the two is first. -/
def pH (z : Pt) : Int := z.2.1 * z.2.2
def pS (z : Pt) : Int := z.1 * z.1 + z.2.1 * z.2.1
def pL (al : Int) (z : Pt) : Int := if al = 0 then z.1 * z.2.2 - z.2.2 * z.2.2 else pS z - z.1 * z.2.2
def pR (al : Int) (z : Pt) : Int := if al = 0 then z.1 * z.2.2 - pS z else z.2.2 * z.2.2 - z.1 * z.2.2
def pU (z : Pt) : Int := z.1 * z.2.2 * ((z.1 - z.2.2) * (z.1 - z.2.2) + z.2.1 * z.2.1)
theorem pU_eq (al : Int) (z : Pt) : pH z * pH z - pL al z * pR al z = pU z := by
  unfold pH pL pR pU pS
  split <;> grind
/-- the sign of what is above, the root added or taken -/
def ss (s h u : Int) : Int := if 0 ≤ h * s then s else s * sg (u - h * h)
def grp (s h l r u : Int) : Int := if l = 0 then (if 0 < h * s then 1 else if 0 ≤ sg r * sg h then 0 else 2) else (if 0 ≤ ss s h u * sg l then 0 else 2)
def pf (h l r u : Int) : Prop := if grp 1 h l r u ≠ grp (-1) h l r u then grp 1 h l r u < grp (-1) h l r u else l < 0
theorem sg_c (x : Int) : (x < 0 ∧ sg x = -1) ∨ (x = 0 ∧ sg x = 0) ∨ (0 < x ∧ sg x = 1) := by
  rcases Int.lt_trichotomy x 0 with h | h | h
  · exact Or.inl ⟨h, sg_n h⟩
  · exact Or.inr (Or.inl ⟨h, sg_z h⟩)
  · exact Or.inr (Or.inr ⟨h, sg_p h⟩)
theorem ss_r {s h u : Int} (hs : s = 1 ∨ s = -1) : -1 ≤ ss s h u ∧ ss s h u ≤ 1 := by
  unfold ss
  rcases sg_c (u - h * h) with ⟨_, k⟩ | ⟨_, k⟩ | ⟨_, k⟩ <;> rw [k] <;> split <;> omega
theorem grp_r (s h l r u : Int) : 0 ≤ grp s h l r u ∧ grp s h l r u ≤ 2 := by
  unfold grp
  repeat' split
  all_goals omega
theorem sg_mulneg (x y : Int) : 0 ≤ sg x * sg y ↔ ¬ x * y < 0 := by
  rcases sg_c x with ⟨a, k⟩ | ⟨a, k⟩ | ⟨a, k⟩ <;> rcases sg_c y with ⟨b, m⟩ | ⟨b, m⟩ | ⟨b, m⟩ <;> rw [k, m]
  · have := Int.mul_pos_of_neg_of_neg a b; omega
  · rw [b]; omega
  · have := Int.mul_neg_of_neg_of_pos a b; omega
  · rw [a]; omega
  · rw [a]; omega
  · rw [a]; omega
  · have := Int.mul_neg_of_pos_of_neg a b; omega
  · rw [b]; omega
  · have := Int.mul_pos a b; omega
/-- turned round in sign, the order of both is turned -/
theorem ss_neg (s h u : Int) : ss s (-h) u = -ss (-s) h u := by
  unfold ss
  rw [show -h * s = h * -s by rw [Int.neg_mul, Int.mul_neg], show -h * -h = h * h by rw [Int.neg_mul_neg]]
  split
  · omega
  · rw [Int.neg_mul, Int.neg_neg]
theorem pf_neg {h l r u : Int} (h0 : l = 0 → h ≠ 0) : pf (-h) (-l) (-r) u ↔ ¬ pf h l r u := by
  unfold pf grp
  by_cases hl : l = 0
  · have hh := h0 hl
    rw [if_pos hl, if_pos hl, if_pos (by omega : -l = 0), if_pos (by omega : -l = 0)]
    have e : sg (-r) * sg (-h) = sg r * sg h := by rw [sg_neg, sg_neg, Int.neg_mul_neg]
    rw [e]
    rcases Int.lt_trichotomy h 0 with k | k | k
    · rw [if_pos (by omega : 0 < -h * 1), if_neg (by omega : ¬ 0 < -h * -1), if_neg (by omega : ¬ 0 < h * 1), if_pos (by omega : 0 < h * -1)]
      by_cases q : 0 ≤ sg r * sg h
      · rw [if_pos q]; simp
      · rw [if_neg q]; simp
    · exact absurd k hh
    · rw [if_neg (by omega : ¬ 0 < -h * 1), if_pos (by omega : 0 < -h * -1), if_pos (by omega : 0 < h * 1), if_neg (by omega : ¬ 0 < h * -1)]
      by_cases q : 0 ≤ sg r * sg h
      · rw [if_pos q]; simp
      · rw [if_neg q]; simp
  · rw [if_neg hl, if_neg hl, if_neg (by omega : ¬ -l = 0), if_neg (by omega : ¬ -l = 0), ss_neg, ss_neg, sg_neg, Int.neg_neg, Int.neg_mul_neg, Int.neg_mul_neg]
    by_cases q1 : 0 ≤ ss 1 h u * sg l <;> by_cases q2 : 0 ≤ ss (-1) h u * sg l
    · rw [if_pos q1, if_pos q2]; simp; omega
    · rw [if_pos q1, if_neg q2]; simp
    · rw [if_neg q1, if_pos q2]; simp
    · rw [if_neg q1, if_neg q2]; simp; omega
section
variable {Lx : Nat} {I : Mi} {L : Ml} {e : Nat} {Q : Kq}
theorem mul_sg {x : Int} (hx : x = 1 ∨ x = -1) {h : Int} (hh : -1000000 ≤ h ∧ h ≤ 1000000) : R64 (h * x) := by rcases hx with rfl | rfl <;> omega
theorem c_43 {s h u : Int} (hs : s = 1 ∨ s = -1) (hh : -1000000 ≤ h ∧ h ≤ 1000000) (hu : -4000000000000000 ≤ u ∧ u ≤ 4000000000000000) (h5 : L 19 5 = .ofInt h) (h7 : L 19 7 = .ofInt u) (hq : Q (.inl (some (.int (Int32.ofInt (ss s h u))))) (gE Lx) I L e) :
    Wp 43 0 [(0, .ref 19), (1, .int (Int32.ofInt s))] [] (gE Lx) I L e Q := by
  have m := mulB hh hh
  have m2 := mul_sg hs hh
  unfold ss at hq
  refine s_43_0 ?_
  rw [h5, h7, i2l (by omega), mul64, mul64, mul32, mul32]
  refine i_lt64 m2 (by omega) (fun k => i_lt64 (by omega) (by omega) (fun k1 => ?_) (fun k1 => i_eq64 (by omega) (by omega) (fun k2 => ?_) (fun k2 => ?_))) (fun k => ?_)
  · rw [if_neg (by omega), sg_n (by omega)] at hq; exact hq
  · rw [if_neg (by omega), sg_z (by omega), Int.mul_zero] at hq; exact hq
  · rw [if_neg (by omega), sg_p (by omega)] at hq; exact hq
  · rw [if_pos (by omega)] at hq; exact hq
set_option maxHeartbeats 4000000 in
theorem c_41 {s h l r u : Int} (hs : s = 1 ∨ s = -1) (hh : -1000000 ≤ h ∧ h ≤ 1000000) (hl : -4000000 ≤ l ∧ l ≤ 4000000) (hr : -4000000 ≤ r ∧ r ≤ 4000000) (hu : -4000000000000000 ≤ u ∧ u ≤ 4000000000000000) (h4 : L 19 4 = .ofInt l) (h5 : L 19 5 = .ofInt h) (h6 : L 19 6 = .ofInt r) (h7 : L 19 7 = .ofInt u) (hq : Q (.inl (some (.int (Int32.ofInt (grp s h l r u))))) (gE Lx) I L e) :
    Wp 41 0 [(0, .ref 19), (1, .int (Int32.ofInt s))] [] (gE Lx) I L e Q := by
  have m2 := mul_sg hs hh
  unfold grp at hq
  have cont : l ≠ 0 → Wp 43 0 [(0, .ref 19), (1, .int (Int32.ofInt s))] [] (gE Lx) I L e (kcp (Wp 41) 41 47 0 [(0, .ref 19)] 71 [] Q) := fun k0 => by
    rw [if_neg k0] at hq
    have q := ss_r (h := h) (u := u) hs
    refine c_43 hs hh hu h5 h7 (kcp_v rfl (s_41_50 ?_))
    rw [h4, mul32, mul32]
    refine i_lt64 (by omega) (by omega) (fun k1 => ?_) (fun k1 => i_eq64 (by omega) (by omega) (fun k2 => absurd k2 k0) (fun k2 => ?_))
    · rw [sg_n k1] at hq
      refine i_ltz (by omega) (fun k2 => ?_) (fun k2 => ?_)
      · rw [if_neg (by omega)] at hq; exact hq
      · rw [if_pos (by omega)] at hq; exact hq
    · rw [sg_p (by omega)] at hq
      refine i_ltz (by omega) (fun k2 => ?_) (fun k2 => ?_)
      · rw [if_neg (by omega)] at hq; exact hq
      · rw [if_pos (by omega)] at hq; exact hq
  have zero : ∀ v : Int, l = 0 → ¬ 0 < h * s → v = (if 0 ≤ sg r * sg h then 0 else 2) → Q (.inl (some (.int (Int32.ofInt v)))) (gE Lx) I L e := fun v k0 k1 hv => by
    rw [if_pos k0, if_neg k1] at hq
    rw [hv]; exact hq
  have body : l = 0 → ¬ 0 < h * s → (if (Int64.ofInt r) < (Int64.ofInt 0) then
       (if (Int64.ofInt h) < (Int64.ofInt 0) then Q (.inl (some (.int (Int32.ofInt 0)))) (gE Lx) I L e else (if (Int64.ofInt h) = (Int64.ofInt 0) then Q (.inl (some (.int (Int32.ofInt 0)))) (gE Lx) I L e else Q (.inl (some (.int (Int32.ofInt 2)))) (gE Lx) I L e))
      else (if (Int64.ofInt r) = (Int64.ofInt 0) then
        (if (Int64.ofInt h) < (Int64.ofInt 0) then Q (.inl (some (.int (Int32.ofInt 0)))) (gE Lx) I L e else (if (Int64.ofInt h) = (Int64.ofInt 0) then Q (.inl (some (.int (Int32.ofInt 0)))) (gE Lx) I L e else Q (.inl (some (.int (Int32.ofInt 0)))) (gE Lx) I L e))
       else (if (Int64.ofInt h) < (Int64.ofInt 0) then Q (.inl (some (.int (Int32.ofInt 2)))) (gE Lx) I L e else (if (Int64.ofInt h) = (Int64.ofInt 0) then Q (.inl (some (.int (Int32.ofInt 0)))) (gE Lx) I L e else Q (.inl (some (.int (Int32.ofInt 0)))) (gE Lx) I L e)))) := by
    intro k0 k1
    refine i_lt64 (by omega) (by omega) (fun a => ?_) (fun a => i_eq64 (by omega) (by omega) (fun a => ?_) (fun a => ?_))
    all_goals refine i_lt64 (by omega) (by omega) (fun b => zero _ k0 k1 ?_) (fun b => i_eq64 (by omega) (by omega) (fun b => zero _ k0 k1 ?_) (fun b => zero _ k0 k1 ?_))
    · rw [sg_n a, sg_n b]; decide
    · rw [sg_n a, sg_z b]; decide
    · rw [sg_n a, sg_p (by omega)]; decide
    · rw [sg_z a, sg_n b]; decide
    · rw [sg_z a, sg_z b]; decide
    · rw [sg_z a, sg_p (by omega)]; decide
    · rw [sg_p (by omega), sg_n b]; decide
    · rw [sg_p (by omega), sg_z b]; decide
    · rw [sg_p (by omega), sg_p (by omega)]; decide
  refine s_41_0 ?_
  rw [h4, h5, h6, i2l (by omega), mul64]
  refine i_eq64 (by omega) (by omega) (fun k0 => i_lt64 (by omega) m2 (fun k1 => ?_) (fun k1 => i_eq64 (by omega) (by omega) (fun _ => body k0 (by omega)) (fun k => absurd k0 k))) (fun k0 => i_eq64 (by omega) (by omega) (fun k => absurd k k0) (fun _ => cont k0))
  rw [if_pos k0, if_pos k1] at hq
  exact hq
theorem c_40 {h l r u : Int} (hh : -1000000 ≤ h ∧ h ≤ 1000000) (hl : -4000000 ≤ l ∧ l ≤ 4000000) (hr : -4000000 ≤ r ∧ r ≤ 4000000) (hu : -4000000000000000 ≤ u ∧ u ≤ 4000000000000000) (h4 : L 19 4 = .ofInt l) (h5 : L 19 5 = .ofInt h) (h6 : L 19 6 = .ofInt r) (h7 : L 19 7 = .ofInt u) (h1 : pf h l r u → Q (.inl (some (.int (Int32.ofInt 1)))) (gE Lx) I L e) (h0 : ¬ pf h l r u → Q (.inl (some (.int (Int32.ofInt 0)))) (gE Lx) I L e) :
    Wp 40 0 [(0, .ref 19)] [] (gE Lx) I L e Q := by
  refine s_40_0 (c_41 (Or.inl rfl) hh hl hr hu h4 h5 h6 h7 (kcp_v rfl (s_40_5 (c_41 (Or.inr rfl) hh hl hr hu h4 h5 h6 h7 (kcp_v rfl (s_40_11 ?_))))))
  have g1 := grp_r 1 h l r u
  have g2 := grp_r (-1) h l r u
  rw [h4]
  unfold pf at h1 h0
  refine i_eq32 (by omega) (by omega) (fun k => i_lt64 (by omega) (by omega) (fun k1 => h1 ?_) (fun k1 => h0 ?_)) (fun k => i_lt32 (by omega) (by omega) (fun k1 => h1 ?_) (fun k1 => h0 ?_))
  · rw [if_neg (fun z => z k)]; exact k1
  · rw [if_neg (fun z => z k)]; omega
  · rw [if_pos k]; exact k1
  · rw [if_pos k]; omega
end
