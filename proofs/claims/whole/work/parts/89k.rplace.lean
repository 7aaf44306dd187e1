/-! PLACES on the other side. -/
def sgA (al x : Int) : Int := if al = 0 then -x else x
def RsAt (L : Ml) (al : Int) (z : Pt) : Prop := L 58 17 = .ofInt (sgA al (pH z)) ∧ L 58 18 = .ofInt (pU z) ∧ L 58 19 = .ofInt (sgA al (pL al z)) ∧ L 58 20 = .ofInt (sgA al (pR al z)) ∧ RpAt L z
theorem ss_1 (h u : Int) : (0 ≤ h ∧ ss 1 h u = 1) ∨ (h < 0 ∧ ((u - h * h < 0 ∧ ss 1 h u = -1) ∨ (u - h * h = 0 ∧ ss 1 h u = 0) ∨ (0 < u - h * h ∧ ss 1 h u = 1))) := by
  unfold ss
  rcases sg_c (u - h * h) with ⟨a, k⟩ | ⟨a, k⟩ | ⟨a, k⟩ <;> rw [k] <;> split <;> omega
theorem ss_m (h u : Int) : (h ≤ 0 ∧ ss (-1) h u = -1) ∨ (0 < h ∧ ((u - h * h < 0 ∧ ss (-1) h u = 1) ∨ (u - h * h = 0 ∧ ss (-1) h u = 0) ∨ (0 < u - h * h ∧ ss (-1) h u = -1))) := by
  unfold ss
  rcases sg_c (u - h * h) with ⟨a, k⟩ | ⟨a, k⟩ | ⟨a, k⟩ <;> rw [k] <;> split <;> omega
section
variable {Lx : Nat} {I : Mi} {L : Ml} {e : Nat} {Q : Kq}
set_option maxHeartbeats 40000000 in
theorem c_263 {s h l u : Int} (hs : s = 1 ∨ s = -1) (hh : -1000000 ≤ h ∧ h ≤ 1000000) (hl : -4000000 ≤ l ∧ l ≤ 4000000) (hu : -4000000000000000 ≤ u ∧ u ≤ 4000000000000000) (h17 : L 58 17 = .ofInt h) (h18 : L 58 18 = .ofInt u) (h19 : L 58 19 = .ofInt l) (hq : Q (.inl (some (.int (Int32.ofInt (if 0 < l then ss s h u else -ss s h u))))) (gE Lx) I L e) :
    Wp 263 0 [(0, .ref 58), (1, .int (Int32.ofInt s))] [] (gE Lx) I L e Q := by
  have m := mulB hh hh
  have key : ∀ v : Int, v = (if 0 < l then ss s h u else -ss s h u) → Q (.inl (some (.int (Int32.ofInt v)))) (gE Lx) I L e := fun v hv => by rw [hv]; exact hq
  refine s_263_0 ?_
  rw [h17, h18, h19, mul64, sub64]
  rcases hs with rfl | rfl
  · have A := ss_1 h u
    generalize ss 1 h u = S at *
    repeat' (first | (exfalso; omega) | refine i_lt64 (by omega) (by omega) (fun _ => ?_) (fun _ => ?_) | refine i_eq64 (by omega) (by omega) (fun _ => ?_) (fun _ => ?_) | refine i_zlt (by omega) (fun _ => ?_) (fun _ => ?_))
    all_goals (refine key _ ?_; split <;> omega)
  · have A := ss_m h u
    generalize ss (-1) h u = S at *
    repeat' (first | (exfalso; omega) | refine i_lt64 (by omega) (by omega) (fun _ => ?_) (fun _ => ?_) | refine i_eq64 (by omega) (by omega) (fun _ => ?_) (fun _ => ?_) | refine i_zlt (by omega) (fun _ => ?_) (fun _ => ?_))
    all_goals (refine key _ ?_; split <;> omega)
set_option maxHeartbeats 8000000 in
theorem c_261 {h l r u : Int} (hh : -1000000 ≤ h ∧ h ≤ 1000000) (hl : -4000000 ≤ l ∧ l ≤ 4000000) (hr : -4000000 ≤ r ∧ r ≤ 4000000) (hu : -4000000000000000 ≤ u ∧ u ≤ 4000000000000000) (hh0 : l = 0 → h ≠ 0) (h17 : L 58 17 = .ofInt h) (h18 : L 58 18 = .ofInt u) (h19 : L 58 19 = .ofInt l) (h20 : L 58 20 = .ofInt r)
    (h1 : pf h l r u → Q (.inl (some (.int (Int32.ofInt 1)))) (gE Lx) I L e) (h0 : ¬ pf h l r u → Q (.inl (some (.int (Int32.ofInt 0)))) (gE Lx) I L e) :
    Wp 261 0 [(0, .ref 58)] [] (gE Lx) I L e Q := by
  have m := mulB hr hh
  refine s_261_0 ?_
  rw [h19]
  unfold pf grp at h1 h0
  refine i_eq64 (by omega) (by omega) (fun k0 => ?_) (fun k0 => ?_)
  · have hz := hh0 k0
    simp only [if_pos k0] at h1 h0
    simp only [sg_mulneg] at h1 h0
    have fin : ∀ v : Int, (v = 1 ∧ r * h < 0) ∨ (v = 0 ∧ ¬ r * h < 0) → Wp 261 13 [(0, .ref 58)] [.int (Int32.ofInt v)] (gE Lx) I L e Q := by
      intro v hv
      refine s_261_13 ?_
      rw [h17]
      rcases (show h < 0 ∨ 0 < h by omega) with k | k
      · rw [if_neg (by omega : ¬ 0 < h * 1), if_pos (by omega : 0 < h * -1)] at h1 h0
        refine i_lt64 (by omega) (by omega) (fun _ => by omega) (fun _ => ?_)
        rcases hv with ⟨rfl, q⟩ | ⟨rfl, q⟩
        · rw [show (if ¬ r * h < 0 then (0 : Int) else 2) = 2 from if_neg (by omega)] at h0
          exact i_eq32 (by omega) (by omega) (fun z => by cases z) (fun _ => h0 (by simp))
        · rw [show (if ¬ r * h < 0 then (0 : Int) else 2) = 0 from if_pos q] at h1
          exact i_eq32 (by omega) (by omega) (fun _ => h1 (by simp)) (fun z => absurd rfl z)
      · rw [if_pos (by omega : 0 < h * 1), if_neg (by omega : ¬ 0 < h * -1)] at h1 h0
        refine i_lt64 (by omega) (by omega) (fun _ => ?_) (fun _ => by omega)
        rcases hv with ⟨rfl, q⟩ | ⟨rfl, q⟩
        · rw [show (if ¬ r * h < 0 then (0 : Int) else 2) = 2 from if_neg (by omega)] at h1
          exact i_eq32 (by omega) (by omega) (fun _ => h1 (by simp)) (fun z => absurd rfl z)
        · rw [show (if ¬ r * h < 0 then (0 : Int) else 2) = 0 from if_pos q] at h0
          exact i_eq32 (by omega) (by omega) (fun z => by cases z) (fun _ => h0 (by simp))
    refine s_262_0 ?_
    rw [h20, h17, mul64]
    exact i_lt64 (by omega) (by omega) (fun k => kcp_v rfl (fin 1 (Or.inl ⟨rfl, k⟩))) (fun k => kcp_v rfl (fin 0 (Or.inr ⟨rfl, by omega⟩)))
  · simp only [if_neg k0] at h1 h0
    have q1 := ss_r (s := 1) (h := h) (u := u) (Or.inl rfl)
    have q2 := ss_r (s := -1) (h := h) (u := u) (Or.inr rfl)
    refine c_263 (s := 1) (Or.inl rfl) hh hl hu h17 h18 h19 (kcp_v rfl (s_261_41 (c_263 (s := -1) (Or.inr rfl) hh hl hu h17 h18 h19 (kcp_v rfl (s_261_47 ?_)))))
    rw [h19]
    generalize ss 1 h u = S at *
    generalize ss (-1) h u = T at *
    rcases (show l < 0 ∨ 0 < l by omega) with kl | kl
    · rw [sg_n kl] at h1 h0
      rw [if_neg (show ¬ 0 < l by omega), if_neg (show ¬ 0 < l by omega)]
      refine i_ltz (by omega) (fun a => i_ltz (by omega) (fun b => i_lt64 (by omega) (by omega) (fun _ => h1 ?_) (fun _ => by omega)) (fun b => i_ltz (by omega) (fun _ => h0 ?_) (fun _ => by omega))) (fun a => i_ltz (by omega) (fun b => i_ltz (by omega) (fun _ => by omega) (fun _ => h1 ?_)) (fun b => i_lt64 (by omega) (by omega) (fun _ => h1 ?_) (fun _ => by omega)))
      · rw [if_neg (by omega : ¬ 0 ≤ S * -1), if_neg (by omega : ¬ 0 ≤ T * -1)]; simp; omega
      · rw [if_neg (by omega : ¬ 0 ≤ S * -1), if_pos (by omega : 0 ≤ T * -1)]; simp
      · rw [if_pos (by omega : 0 ≤ S * -1), if_neg (by omega : ¬ 0 ≤ T * -1)]; simp
      · rw [if_pos (by omega : 0 ≤ S * -1), if_pos (by omega : 0 ≤ T * -1)]; simp; omega
    · rw [sg_p kl] at h1 h0
      rw [if_pos kl, if_pos kl]
      refine i_ltz (by omega) (fun a => i_ltz (by omega) (fun b => i_lt64 (by omega) (by omega) (fun _ => by omega) (fun _ => h0 ?_)) (fun b => i_ltz (by omega) (fun _ => h0 ?_) (fun _ => by omega))) (fun a => i_ltz (by omega) (fun b => i_ltz (by omega) (fun _ => by omega) (fun _ => h1 ?_)) (fun b => i_lt64 (by omega) (by omega) (fun _ => by omega) (fun _ => h0 ?_)))
      · rw [if_neg (by omega : ¬ 0 ≤ S * 1), if_neg (by omega : ¬ 0 ≤ T * 1)]; simp; omega
      · rw [if_neg (by omega : ¬ 0 ≤ S * 1), if_pos (by omega : 0 ≤ T * 1)]; simp
      · rw [if_pos (by omega : 0 ≤ S * 1), if_neg (by omega : ¬ 0 ≤ T * 1)]; simp
      · rw [if_pos (by omega : 0 ≤ S * 1), if_pos (by omega : 0 ≤ T * 1)]; simp; omega
theorem c_260 {al k : Int} (hal : al = 0 ∨ al = 1) (hk : R32 k) {z : Pt} (ho : PtOk z) (hm : 0 < pM z) (hs : RsAt L al z) (h : Q (.inl (some (.int (Int32.ofInt (nsg k al z))))) (gE Lx) I L e) :
    Wp 260 0 [(0, .ref 58), (1, .int (Int32.ofInt k))] [] (gE Lx) I L e Q := by
  obtain ⟨p1, p2, p3, p4, p5, p6⟩ := pt_b ho al
  obtain ⟨s1, s2, s3, s4, s5⟩ := hs
  have hn := pM_n ho hm
  have ez := pU_eq al z
  have hz0 : pL al z = 0 → pH z ≠ 0 := fun a b => by rw [a, b] at ez; omega
  have sA : ∀ x : Int, sgA al x = x ∨ sgA al x = -x := fun x => by unfold sgA; split <;> omega
  have hf : pf (sgA al (pH z)) (sgA al (pL al z)) (sgA al (pR al z)) (pU z) ↔ (if al = 0 then ¬ pF al z else pF al z) := by
    unfold sgA pF
    rcases hal with rfl | rfl
    · simp only [if_true]; exact pf_neg hz0
    · simp
  have fin : ∀ (b : Int), (b = 1 ∧ pf (sgA al (pH z)) (sgA al (pL al z)) (sgA al (pR al z)) (pU z)) ∨ (b = 0 ∧ ¬ pf (sgA al (pH z)) (sgA al (pL al z)) (sgA al (pR al z)) (pU z)) → ∀ a : Int, (a = 1 ∧ k = 0) ∨ (a = 0 ∧ k ≠ 0) → Wp 260 13 [(0, .ref 58)] [.int (Int32.ofInt b), .int (Int32.ofInt a)] (gE Lx) I L e Q := by
    intro b hb a ha
    rw [hf] at hb
    refine s_260_13 ?_
    unfold nsg side at h
    rcases hal with rfl | rfl
    · simp only [if_true] at hb h
      rcases hb with ⟨rfl, b1⟩ | ⟨rfl, b1⟩ <;> rcases ha with ⟨rfl, a1⟩ | ⟨rfl, a1⟩
      · rw [iP_f (fun z => b1 (z.mp a1))] at h
        exact i_eq32 (by omega) (by omega) (fun _ => h) (fun z => absurd rfl z)
      · rw [iP_t ⟨fun z => absurd z a1, fun z => absurd z b1⟩] at h
        exact i_eq32 (by omega) (by omega) (fun z => by cases z) (fun _ => h)
      · rw [iP_t ⟨fun _ => Classical.not_not.mp b1, fun _ => a1⟩] at h
        exact i_eq32 (by omega) (by omega) (fun z => by cases z) (fun _ => h)
      · rw [iP_f (fun z => a1 (z.mpr (Classical.not_not.mp b1)))] at h
        exact i_eq32 (by omega) (by omega) (fun _ => h) (fun z => absurd rfl z)
    · simp only [show ¬ ((1 : Int) = 0) by decide, if_false] at hb h
      rcases hb with ⟨rfl, b1⟩ | ⟨rfl, b1⟩ <;> rcases ha with ⟨rfl, a1⟩ | ⟨rfl, a1⟩
      · rw [iP_t ⟨fun _ => b1, fun _ => a1⟩] at h
        exact i_eq32 (by omega) (by omega) (fun _ => h) (fun z => absurd rfl z)
      · rw [iP_f (fun z => a1 (z.mpr b1))] at h
        exact i_eq32 (by omega) (by omega) (fun z => by cases z) (fun _ => h)
      · rw [iP_f (fun z => b1 (z.mp a1))] at h
        exact i_eq32 (by omega) (by omega) (fun z => by cases z) (fun _ => h)
      · rw [iP_t ⟨fun z => absurd z a1, fun z => absurd z b1⟩] at h
        exact i_eq32 (by omega) (by omega) (fun _ => h) (fun z => absurd rfl z)
  have go : ∀ a : Int, (a = 1 ∧ k = 0) ∨ (a = 0 ∧ k ≠ 0) → Wp 261 0 [(0, .ref 58)] [] (gE Lx) I L e (kcp (Wp 260) 260 10 0 [(0, .ref 58)] 71 [.int (Int32.ofInt a)] Q) := fun a ha => by
    have x1 := sA (pH z); have x2 := sA (pL al z); have x3 := sA (pR al z)
    exact c_261 (by omega) (by omega) (by omega) (by omega) (by omega) s1 s2 s3 s4 (fun q => kcp_v rfl (fin 1 (Or.inl ⟨rfl, q⟩) a ha)) (fun q => kcp_v rfl (fin 0 (Or.inr ⟨rfl, q⟩) a ha))
  exact s_260_0 (i_eqz hk (fun k0 => go 1 (Or.inl ⟨rfl, k0⟩)) (fun k0 => go 0 (Or.inr ⟨rfl, k0⟩)))
end
