/-! Common measures and fractions, on both sides. -/
abbrev R63 (x : Int) : Prop := -9223372036854775807 ≤ x ∧ x ≤ 9223372036854775807
def gI (a b : Int) : Int := (Int.gcd a b : Int)
theorem gI_nn (a b : Int) : 0 ≤ gI a b := Int.natCast_nonneg _
theorem gI_r {a b : Int} (ha : R63 a) (hb : R63 b) : gI a b ≤ 9223372036854775807 := by
  unfold gI
  by_cases h : a = 0
  · subst h
    rw [Int.gcd_zero_left]
    omega
  · have h1 : Int.gcd a b ≤ a.natAbs := Nat.le_of_dvd (by omega) (Int.gcd_dvd_natAbs_left ..)
    omega
theorem gI_0 {a b : Int} : gI a b = 0 ↔ a = 0 ∧ b = 0 := by
  unfold gI
  rw [Int.natCast_eq_zero, Int.gcd_eq_zero_iff]
theorem gI_dl (a b : Int) : gI a b ∣ a := Int.gcd_dvd_left ..
theorem gI_dr (a b : Int) : gI a b ∣ b := Int.gcd_dvd_right ..
def fU (a b : Int) : Int := if a = 0 ∧ b = 0 then 0 else if b < 0 ∨ (b = 0 ∧ a < 0) then -(a / gI a b) else a / gI a b
def fL (a b : Int) : Int := if a = 0 ∧ b = 0 then 1 else if b < 0 then -(b / gI a b) else b / gI a b
def rU (a b : Int) : Int := if b < 0 then -(a / gI a b) else a / gI a b
def rL (a b : Int) : Int := if b < 0 then -(b / gI a b) else b / gI a b
section
variable {Lx : Nat} {I : Mi} {L : Ml} {e : Nat} {Q : Kq}
theorem l_26 : ∀ (n : Nat) (i x y : Int), 0 ≤ x → x ≤ 9223372036854775807 → 0 ≤ y → y ≤ 9223372036854775807 → Eok n x y → 0 ≤ i → i + n = 100 → Q (.inl (some (.long (Int64.ofInt (gI x y))))) (gE Lx) I L e →
    Wp 26 15 [(4, .long (Int64.ofInt x)), (6, .long (Int64.ofInt y)), (8, .int (Int32.ofInt i))] [] (gE Lx) I L e Q := by
  intro n
  induction n with
  | zero =>
    intro i x y hx hx2 hy hy2 hE h0 hi h
    have hy0 : y = 0 := hE
    subst hy0
    have hg : gI x 0 = x := by unfold gI; rw [Int.gcd_zero_right]; omega
    rw [hg] at h
    exact s_26_15 (i_lt32 (by omega) (by omega) (fun _ => i_eq64 (by omega) (by omega) (fun _ => h) (fun k => absurd rfl k)) (fun _ => h))
  | succ n ih =>
    intro i x y hx hx2 hy hy2 hE h0 hi h
    refine s_26_15 (i_lt32 (by omega) (by omega) (fun _ => i_eq64 (by omega) (by omega) (fun hy0 => ?_) (fun hy0 => i_nz64 (by omega) hy0 ?_)) (fun _ => by omega))
    · subst hy0
      have hg : gI x 0 = x := by unfold gI; rw [Int.gcd_zero_right]; omega
      rw [hg] at h
      exact h
    · rw [rem64 (by omega) (by omega) (by omega), add32, Int.tmod_eq_emod_of_nonneg hx]
      have h1 := Int.emod_nonneg x hy0
      have h2 := Int.emod_lt_of_pos x (show 0 < y by omega)
      refine ih (i + 1) y (x % y) hy hy2 h1 (by omega) (hE.resolve_left hy0) (by omega) (by omega) ?_
      have : gI y (x % y) = gI x y := by unfold gI; rw [gcd_step]
      rw [this]
      exact h
theorem gI_abs {a b x y : Int} (hx : x = a ∨ x = -a) (hy : y = b ∨ y = -b) : gI x y = gI a b := by
  unfold gI
  rcases hx with rfl | rfl <;> rcases hy with rfl | rfl <;> simp
theorem c_26 {a b : Int} (ha : R63 a) (hb : R63 b) (h : Q (.inl (some (.long (Int64.ofInt (gI a b))))) (gE Lx) I L e) : Wp 26 0 [(0, .long (Int64.ofInt a)), (2, .long (Int64.ofInt b))] [] (gE Lx) I L e Q := by
  have key : ∀ x y : Int, 0 ≤ x → x ≤ 9223372036854775807 → 0 ≤ y → y ≤ 9223372036854775807 → (x = a ∨ x = -a) → (y = b ∨ y = -b) → Wp 26 15 [(4, .long (Int64.ofInt x)), (6, .long (Int64.ofInt y)), (8, .int (Int32.ofInt 0))] [] (gE Lx) I L e Q := fun x y h1 h2 h3 h4 h5 h6 =>
    l_26 100 0 x y h1 h2 h3 h4 (eok_100 h3 h4) (by omega) (by omega) (by rw [gI_abs h5 h6]; exact h)
  refine s_26_0 (i_lt64 (by omega) (by omega) (fun h1 => i_lt64 (by omega) (by omega) (fun h2 => ?_) (fun h2 => ?_)) (fun h1 => i_lt64 (by omega) (by omega) (fun h2 => ?_) (fun h2 => ?_)))
  · rw [neg64, neg64]; exact key _ _ (by omega) (by omega) (by omega) (by omega) (Or.inr rfl) (Or.inr rfl)
  · rw [neg64]; exact key _ _ (by omega) (by omega) (by omega) (by omega) (Or.inr rfl) (Or.inl rfl)
  · rw [neg64]; exact key _ _ (by omega) (by omega) (by omega) (by omega) (Or.inl rfl) (Or.inr rfl)
  · exact key _ _ (by omega) (by omega) (by omega) (by omega) (Or.inl rfl) (Or.inl rfl)
theorem c_210 {a : Int} (ha : R63 a) (h : ∀ x : Int, 0 ≤ x → (x = a ∨ x = -a) → Q (.inl (some (.long (Int64.ofInt x)))) (gE Lx) I L e) : Wp 210 0 [(0, .long (Int64.ofInt a))] [] (gE Lx) I L e Q := by
  refine s_210_0 (i_lt64 (by omega) (by omega) (fun h1 => ?_) (fun h1 => ?_))
  · rw [neg64]; exact h _ (by omega) (Or.inr rfl)
  · exact h _ (by omega) (Or.inl rfl)
theorem l_209 : ∀ (n : Nat) (x y : Int), y.toNat ≤ n → 0 ≤ x → x ≤ 9223372036854775807 → 0 ≤ y → y ≤ 9223372036854775807 → Q (.inl (some (.long (Int64.ofInt (gI x y))))) (gE Lx) I L e →
    Wp 209 12 [(4, .long (Int64.ofInt x)), (6, .long (Int64.ofInt y))] [] (gE Lx) I L e Q := by
  intro n
  induction n with
  | zero =>
    intro x y hn hx hx2 hy hy2 h
    have hy0 : y = 0 := by omega
    subst hy0
    have hg : gI x 0 = x := by unfold gI; rw [Int.gcd_zero_right]; omega
    rw [hg] at h
    exact s_209_12 (i_eq64 (by omega) (by omega) (fun _ => h) (fun k => absurd rfl k))
  | succ n ih =>
    intro x y hn hx hx2 hy hy2 h
    refine s_209_12 (i_eq64 (by omega) (by omega) (fun hy0 => ?_) (fun hy0 => i_nz64 (by omega) hy0 ?_))
    · subst hy0
      have hg : gI x 0 = x := by unfold gI; rw [Int.gcd_zero_right]; omega
      rw [hg] at h
      exact h
    · rw [rem64 (by omega) (by omega) (by omega), Int.tmod_eq_emod_of_nonneg hx]
      have h1 := Int.emod_nonneg x hy0
      have h2 := Int.emod_lt_of_pos x (show 0 < y by omega)
      refine ih y (x % y) (by omega) hy hy2 h1 (by omega) ?_
      have : gI y (x % y) = gI x y := by unfold gI; rw [gcd_step]
      rw [this]
      exact h
theorem c_209 {a b : Int} (ha : R63 a) (hb : R63 b) (h : Q (.inl (some (.long (Int64.ofInt (gI a b))))) (gE Lx) I L e) : Wp 209 0 [(0, .long (Int64.ofInt a)), (2, .long (Int64.ofInt b))] [] (gE Lx) I L e Q := by
  refine s_209_0 (c_210 ha (fun x hx1 hx2 => kcp_v rfl (s_209_4 (c_210 hb (fun y hy1 hy2 => kcp_v rfl (s_209_10 ?_))))))
  refine l_209 y.toNat x y (Nat.le_refl _) hx1 (by omega) hy1 (by omega) ?_
  rw [gI_abs hx2 hy2]
  exact h
theorem dvg {a b : Int} (ha : R63 a) (hb : R63 b) (h : gI a b ≠ 0) : Int64.ofInt a / Int64.ofInt (gI a b) = Int64.ofInt (a / gI a b) := by
  have h1 := gI_nn a b
  have h2 := gI_r ha hb
  rw [dv64 (by omega) (by omega) (by omega), Int.tdiv_eq_ediv_of_dvd (gI_dl a b)]
theorem dvg2 {a b : Int} (ha : R63 a) (hb : R63 b) (h : gI a b ≠ 0) : Int64.ofInt b / Int64.ofInt (gI a b) = Int64.ofInt (b / gI a b) := by
  have h1 := gI_nn a b
  have h2 := gI_r ha hb
  rw [dv64 (by omega) (by omega) (by omega), Int.tdiv_eq_ediv_of_dvd (gI_dr a b)]
theorem dvgn {a b : Int} (ha : R63 a) (hb : R63 b) (h : gI a b ≠ 0) : Int64.ofInt a / Int64.ofInt (-gI a b) = Int64.ofInt (-(a / gI a b)) := by
  have h1 := gI_nn a b
  have h2 := gI_r ha hb
  rw [dv64 (by omega) (by omega) (by omega), Int.tdiv_neg, Int.tdiv_eq_ediv_of_dvd (gI_dl a b)]
theorem dvgn2 {a b : Int} (ha : R63 a) (hb : R63 b) (h : gI a b ≠ 0) : Int64.ofInt b / Int64.ofInt (-gI a b) = Int64.ofInt (-(b / gI a b)) := by
  have h1 := gI_nn a b
  have h2 := gI_r ha hb
  rw [dv64 (by omega) (by omega) (by omega), Int.tdiv_neg, Int.tdiv_eq_ediv_of_dvd (gI_dr a b)]
theorem ng64 {x : Int} : -Int64.ofInt x = Int64.ofInt (-x) := neg64
/-- what a row tells, once it is put -/
def FrcAt (L : Ml) (c : Nat) (u l : Int) : Prop := L c 0 = .ofInt u ∧ L c 1 = .ofInt l
set_option maxHeartbeats 4000000 in
theorem c_25 {c : Nat} (hc : c = 18 ∨ c = 23) {a b : Int} (ha : R63 a) (hb : R63 b) (h : ∀ L', FrL [(c, 0, 2)] L L' → FrcAt L' c (fU a b) (fL a b) → Q (.inl none) (gE Lx) I L' e) : Wp 25 0 [(0, .ref c), (1, .long (Int64.ofInt a)), (3, .long (Int64.ofInt b))] [] (gE Lx) I L e Q := by
  have hn := gI_nn a b
  have hr := gI_r ha hb
  have key : ∀ (x y : Int64) (u l : Int), x = .ofInt u → y = .ofInt l → u = fU a b → l = fL a b → Q (.inl none) (gE Lx) I (ul (ul L c 0 x) c 1 y) e := by
    intro x y u l h1 h2 h3 h4
    subst h1; subst h2; subst h3; subst h4
    refine h _ ?_ ⟨?_, l_at⟩
    · rcases hc with rfl | rfl <;> exact FrL.wu (FrL.wu FrL.rf rfl) rfl
    · rw [l_ne (by decide), l_at]
  have g0 : gI a b = 0 → a = 0 ∧ b = 0 := gI_0.mp
  have g1 : gI a b ≠ 0 → ¬ (a = 0 ∧ b = 0) := fun k z => k (gI_0.mpr z)
  rcases hc with rfl | rfl
  all_goals
    first | refine s_25_0_18 (c_26 ha hb (kcp_v rfl (s_25_5_18 ?_))) | refine s_25_0_23 (c_26 ha hb (kcp_v rfl (s_25_5_23 ?_)))
    refine i_eq64 (by omega) (by omega) (fun h0 => ?_) (fun h0 => ?_)
    · refine key _ _ 0 1 rfl rfl ?_ ?_
      · unfold fU; rw [if_pos (g0 h0)]
      · unfold fL; rw [if_pos (g0 h0)]
    · rw [neg64]
      refine i_lt64 (by omega) (by omega) (fun h1 => ?_) (fun h1 => ?_)
      · refine i_nz64 (by omega) (by omega) (i_nz64 (by omega) (by omega) (key _ _ _ _ (dvgn ha hb h0) (dvgn2 ha hb h0) ?_ ?_))
        · unfold fU; rw [if_neg (g1 h0), if_pos (Or.inl h1)]
        · unfold fL; rw [if_neg (g1 h0), if_pos h1]
      · refine i_eq64 (by omega) (by omega) (fun h2 => ?_) (fun h2 => ?_)
        · refine i_lt64 (by omega) (by omega) (fun h3 => ?_) (fun h3 => ?_)
          · refine i_nz64 (by omega) (by omega) (i_nz64 (by omega) (by omega) (key _ _ _ _ (dvgn ha hb h0) (dvgn2 ha hb h0) ?_ ?_))
            · unfold fU; rw [if_neg (g1 h0), if_pos (Or.inr ⟨h2, h3⟩)]
            · unfold fL; rw [if_neg (g1 h0), if_neg (by omega), h2]; simp
          · refine i_nz64 (by omega) (by omega) (i_nz64 (by omega) (by omega) (key _ _ _ _ (dvg ha hb h0) (dvg2 ha hb h0) ?_ ?_))
            · unfold fU; rw [if_neg (g1 h0), if_neg (by omega)]
            · unfold fL; rw [if_neg (g1 h0), if_neg (by omega)]
        · refine i_nz64 (by omega) (by omega) (i_nz64 (by omega) (by omega) (key _ _ _ _ (dvg ha hb h0) (dvg2 ha hb h0) ?_ ?_))
          · unfold fU; rw [if_neg (g1 h0), if_neg (by omega)]
          · unfold fL; rw [if_neg (g1 h0), if_neg (by omega)]
theorem dv1 {a : Int} (ha : R63 a) : Int64.ofInt a / Int64.ofInt 1 = Int64.ofInt a := by
  rw [dv64 (by omega) (by omega) (by omega), Int.tdiv_one]
set_option maxHeartbeats 4000000 in
theorem c_236 {a b : Int} (ha : R63 a) (hb : R63 b) (h : ∀ L', FrL [(58, 8, 2)] L L' → L' 58 8 = .ofInt (rU a b) → L' 58 9 = .ofInt (rL a b) → Q (.inl none) (gE Lx) I L' e) : Wp 236 0 [(0, .ref 58), (1, .long (Int64.ofInt a)), (3, .long (Int64.ofInt b))] [] (gE Lx) I L e Q := by
  have hn := gI_nn a b
  have hr := gI_r ha hb
  have key : ∀ (x y : Int64) (u l : Int), x = .ofInt u → y = .ofInt l → u = rU a b → l = rL a b → Q (.inl none) (gE Lx) I (ul (ul L 58 8 x) 58 9 y) e := by
    intro x y u l h1 h2 h3 h4
    subst h1; subst h2; subst h3; subst h4
    refine h _ (FrL.wu (FrL.wu FrL.rf rfl) rfl) ?_ l_at
    rw [l_ne (by decide), l_at]
  have na : gI (-a) (-b) = gI a b := gI_abs (Or.inr rfl) (Or.inr rfl)
  have nd : gI a b ≠ 0 → Int64.ofInt (-a) / Int64.ofInt (gI a b) = Int64.ofInt (-(a / gI a b)) := fun h0 => by
    have := dvg (a := -a) (b := -b) (by omega) (by omega) (by rw [na]; exact h0)
    rw [na] at this
    rw [this, Int.neg_ediv_of_dvd (gI_dl a b)]
  have nd2 : gI a b ≠ 0 → Int64.ofInt (-b) / Int64.ofInt (gI a b) = Int64.ofInt (-(b / gI a b)) := fun h0 => by
    have := dvg2 (a := -a) (b := -b) (by omega) (by omega) (by rw [na]; exact h0)
    rw [na] at this
    rw [this, Int.neg_ediv_of_dvd (gI_dr a b)]
  refine s_236_0 (c_209 ha hb (kcp_v rfl (s_236_5 ?_)))
  rw [neg64, neg64]
  refine i_eq64 (by omega) (by omega) (fun h0 => ?_) (fun h0 => ?_)
  · obtain ⟨rfl, rfl⟩ := gI_0.mp h0
    refine i_lt64 (by omega) (by omega) (fun h1 => by omega) (fun h1 => key _ _ _ _ (dv1 (by omega)) (dv1 (by omega)) (by decide) (by decide))
  · refine i_lt64 (by omega) (by omega) (fun h1 => ?_) (fun h1 => ?_)
    · refine i_nz64 (by omega) h0 (i_nz64 (by omega) h0 (key _ _ _ _ (nd h0) (nd2 h0) ?_ ?_))
      · unfold rU; rw [if_pos h1]
      · unfold rL; rw [if_pos h1]
    · refine i_nz64 (by omega) h0 (i_nz64 (by omega) h0 (key _ _ _ _ (dvg ha hb h0) (dvg2 ha hb h0) ?_ ?_))
      · unfold rU; rw [if_neg (by omega)]
      · unfold rL; rw [if_neg (by omega)]
end
