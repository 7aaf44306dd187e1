/-! Beside and at harmonics: TANGENTS, what is seen, its echo; the class. -/
def vT (x h p q : Int) : Int × Int := if h = 0 then tN p q (x - 1).toNat else (fU ((20 + x) * p) (20 * q), fL ((20 + x) * p) (20 * q))
def vOk (x h : Int) : Prop := if h = 0 then 1 ≤ x ∧ x ≤ 3 else -10 ≤ x ∧ x ≤ 10
abbrev vC (u : Int × Int) : Prop := (u.1.natAbs + u.2.natAbs ≤ 6101) ∧ ¬ (u.1 = 0 ∧ u.2 = 0) ∧ (u.1 = 0 → u.2 = 1)
set_option maxRecDepth 100000 in
theorem vT_0 : ∀ n : Nat, n < 3 → ∀ a : Nat, a < 25 → ∀ b : Nat, b < 13 → decide (Int.gcd ((a : Int) - 12) (b : Int) = 1 ∧ ((0 : Int) < (b : Int) ∨ (a : Int) - 12 = 1)) = true → decide (vC (tN ((a : Int) - 12) (b : Int) n)) = true := by decide +kernel
set_option maxRecDepth 100000 in
theorem vT_1 : ∀ n : Nat, n < 21 → ∀ a : Nat, a < 25 → ∀ b : Nat, b < 13 → decide (Int.gcd ((a : Int) - 12) (b : Int) = 1 ∧ ((0 : Int) < (b : Int) ∨ (a : Int) - 12 = 1)) = true → decide (vC (fU ((20 + ((n : Int) - 10)) * ((a : Int) - 12)) (20 * (b : Int)), fL ((20 + ((n : Int) - 10)) * ((a : Int) - 12)) (20 * (b : Int)))) = true := by decide +kernel
theorem isT_ab {p q : Int} (h : isT p q) : ∃ a b : Nat, a < 25 ∧ b < 13 ∧ p = (a : Int) - 12 ∧ q = (b : Int) ∧ Int.gcd ((a : Int) - 12) (b : Int) = 1 ∧ ((0 : Int) < (b : Int) ∨ (a : Int) - 12 = 1) := by
  obtain ⟨h1, h2, h3, h4⟩ := h
  obtain ⟨a, rfl⟩ : ∃ a : Nat, p = (a : Int) - 12 := ⟨(p + 12).toNat, by omega⟩
  obtain ⟨b, rfl⟩ : ∃ b : Nat, q = (b : Int) := ⟨q.toNat, by omega⟩
  refine ⟨a, b, by omega, by omega, rfl, rfl, ?_, h4⟩
  unfold gI at h3
  exact_mod_cast h3
theorem vT_b {x h p q : Int} (hx : vOk x h) (ht : isT p q) : vC (vT x h p q) := by
  obtain ⟨a, b, ha, hb, rfl, rfl, h1, h2⟩ := isT_ab ht
  unfold vOk at hx
  unfold vT
  by_cases q : h = 0
  · rw [if_pos q] at hx ⊢
    exact of_decide_eq_true (vT_0 (x - 1).toNat (by omega) a ha b hb (decide_eq_true ⟨h1, h2⟩))
  · rw [if_neg q] at hx ⊢
    obtain ⟨n, rfl⟩ : ∃ n : Nat, x = (n : Int) - 10 := ⟨(x + 10).toNat, by omega⟩
    exact of_decide_eq_true (vT_1 n (by omega) a ha b hb (decide_eq_true ⟨h1, h2⟩))
/-- the chain at another frequency -/
def vCh (ch : Ch) (x h : Int) : Ch := (if h = 0 ∧ ¬ 0 < ch.2.1 then x * ch.1 else ch.1, if h = 0 ∧ 0 < ch.2.1 then x * ch.2.1 else ch.2.1, if h = 0 ∧ ¬ 0 < ch.2.1 then x * ch.2.2.1 else ch.2.2.1, ch.2.2.2.1, fun k => ((ch.2.2.2.2 k).1, vT x h (ch.2.2.2.2 k).2.1 (ch.2.2.2.2 k).2.2))
def vW (ch : Ch) (x h : Int) : Wv := wSeen (vCh ch x h) ch.2.2.2.1
theorem WB.pass2 {B p q s : Int} {w : Wv} (h : WB B w) (hpq : p.natAbs + q.natAbs ≤ 6101) : WB (6101 * B) (wPass s p q w) := by
  have hB : 0 ≤ B := by have := h.1; omega
  have e : ∀ P Q : Int, 0 ≤ P → 0 ≤ Q → P + Q ≤ 6101 → Q * B + P * B ≤ 6101 * B := fun P Q h1 h2 h3 => by
    rw [← Int.add_mul]
    exact Int.mul_le_mul_of_nonneg_right (by omega) hB
  have b1 : -(p.natAbs : Int) ≤ p ∧ p ≤ (p.natAbs : Int) := by omega
  have b2 : -(q.natAbs : Int) ≤ q ∧ q ≤ (q.natAbs : Int) := by omega
  have e1 := e p.natAbs q.natAbs (by omega) (by omega) (by omega)
  have e2 := e q.natAbs p.natAbs (by omega) (by omega) (by omega)
  have big : WB B w → WB (6101 * B) w := fun h => h.le (by omega)
  by_cases z : p = 0 ∧ q = 0
  · rw [z.1, z.2]
    have Z : WB 0 (wLine 0 0 w) := by have := h.line (P := 0) (Q := 0) (p := 0) (q := 0) (by omega) (by omega); rw [Int.zero_mul] at this; exact this
    unfold wPass
    split
    · exact Z.le (by omega)
    all_goals
      rw [show (-0 : Int) = 0 from rfl]
      repeat' split
      all_goals
        first
          | exact (h.ac (P := 0) (Q := 1) (by omega) (by omega) (by omega)).le (by omega)
          | exact (h.al (P := 0) (Q := 1) (by omega) (by omega) (by omega)).le (by omega)
  · unfold wPass
    split
    · exact (h.line b1 b2).le (by omega)
    split
    · exact (h.ac b1 b2 (by omega)).le (by omega)
    split
    · exact (h.ac (p := -q) (P := q.natAbs) (by omega) b1 (by omega)).le (by omega)
    split
    · exact (h.al (p := -q) (P := q.natAbs) (by omega) b1 (by omega)).le (by omega)
    · exact (h.al b1 b2 (by omega)).le (by omega)
theorem vBeg_b {ch : Ch} (hok : ChOk ch) {x h : Int} (hx : vOk x h) : WB 297 (wBeg (vCh ch x h)) ∧ Good (wBeg (vCh ch x h)) := by
  obtain ⟨h1, h2, h3, h4, h5⟩ := hok
  unfold vOk at hx
  have key : ∀ a b c : Int, (0 ≤ a ∧ a ≤ 297) → (-297 ≤ b ∧ b ≤ 297) → (1 ≤ c ∧ c ≤ 297) → WB 297 (a, b, c, 0) ∧ Good (a, b, c, 0) := fun a b c ha hb hc => by
    refine ⟨?_, ?_, fun z => ?_⟩
    · unfold WB; dsimp only; omega
    · show 0 ≤ a * c + b * 0
      have := Int.mul_nonneg ha.1 (show 0 ≤ c by omega)
      omega
    · have : c = 0 := z.2.2.1
      omega
  unfold wBeg vCh
  dsimp only
  by_cases q : h = 0
  · rw [if_pos q] at hx
    have e : x = 1 ∨ x = 2 ∨ x = 3 := by omega
    refine key _ _ _ ?_ ?_ ?_
    all_goals
      split
      · rcases e with rfl | rfl | rfl <;> omega
      · omega
  · rw [if_neg (fun w => q w.1), if_neg (fun w => q w.1), if_neg (fun w => q w.1)]
    exact key _ _ _ (by omega) (by omega) (by omega)
theorem vSeen_ok {ch : Ch} (hok : ChOk ch) {x h : Int} (hx : vOk x h) : ∀ k, k ≤ ch.2.2.2.1 → Good (wSeen (vCh ch x h) k) ∧ WB (297 * 6101 ^ k) (wSeen (vCh ch x h) k) := by
  intro k
  induction k with
  | zero =>
    intro _
    have := vBeg_b hok hx
    exact ⟨this.2, by rw [Int.pow_zero]; exact this.1⟩
  | succ k ih =>
    intro hk
    obtain ⟨i1, i2⟩ := ih (by omega)
    have hv := vT_b hx (hok.2.2.2.2 k (by omega)).2
    refine ⟨i1.pass hv.2.1, ?_⟩
    have := i2.pass2 (s := (ch.2.2.2.2 k).1) hv.1
    rw [Int.pow_succ]
    have e : (297 : Int) * (6101 ^ k * 6101) = 6101 * (297 * 6101 ^ k) := by grind
    rw [e]
    exact this
theorem p61k : ∀ k : Nat, k ≤ 4 → (297 : Int) * 6101 ^ k ≤ 500000000000000000 := fun k hk => by
  have : k = 0 ∨ k = 1 ∨ k = 2 ∨ k = 3 ∨ k = 4 := by omega
  rcases this with rfl | rfl | rfl | rfl | rfl <;> decide
theorem vW_ok {ch : Ch} (hok : ChOk ch) {x h : Int} (hx : vOk x h) {k : Nat} (hk : k ≤ ch.2.2.2.1) : Good (wSeen (vCh ch x h) k) ∧ BW (wSeen (vCh ch x h) k) := by
  have := vSeen_ok hok hx k hk
  have h4 := hok.2.2.2.1
  exact ⟨this.1, this.2.le (p61k k (by omega))⟩
def wit (l4 l5 : Int) (w : Wv) : Prop := eUp w * l5 ≤ eLo w * l4
def LimAt (I : Mi) (l4 l5 : Int) : Prop := (I 1 4 = .ofInt l4 ∧ I 1 5 = .ofInt l5) ∧ (0 ≤ l4 ∧ l4 ≤ 1000000) ∧ (0 ≤ l5 ∧ l5 ≤ 1000000)
theorem LimAt.cg {I I' : Mi} {a b : Int} (h : LimAt I a b) (e : I' 1 = I 1) : LimAt I' a b := by unfold LimAt; rw [e]; exact h
theorem eUL {w : Wv} (h : Good w) : eUp w ≤ eLo w := by
  have := h.1
  rw [eUp_eq, eLo_eq]
  omega
section
variable {Lx : Nat} {I : Mi} {L : Ml} {e : Nat} {Q : Kq}
theorem mulm {v m : Int} (hv : 0 ≤ v ∧ v ≤ 2000000000000000000000000000000000000) (hm : 0 ≤ m ∧ m ≤ 1000000) : v * m < 1427247692705959881058285969449495136382746624 := by
  have := Int.mul_le_mul hv.2 hm.2 hm.1 (by decide)
  omega
theorem c_98 {w : Wv} (hW : WvAt L 14 w) (hB : BW w) {l4 l5 : Int} (hl : LimAt I l4 l5) (h1 : wit l4 l5 w → ∀ L', FrL bgF L L' → Q (.inl (some (.int (Int32.ofInt 1)))) (gE Lx) I L' e) (h0 : ¬ wit l4 l5 w → ∀ L', FrL bgF L L' → Q (.inl (some (.int (Int32.ofInt 0)))) (gE Lx) I L' e) :
    Wp 98 0 [(0, .ref 1)] [] (gE Lx) I L e Q := by
  obtain ⟨⟨i4, i5⟩, b4, b5⟩ := hl
  obtain ⟨e1, e2⟩ := ebw hB
  refine s_98_0 (c_99 hW hB (fun L1 hf1 v1 v2 => kcp_v rfl (s_98_4 ?_)))
  rw [i5]
  refine c_8_24 v1 b5 (mulm e1 b5) (fun L2 hf2 v3 => kcp_v rfl (s_98_15 ?_))
  rw [i4]
  refine c_8_26 (v2.cg (hf2.at rfl)) b4 (mulm e2 b4) (fun L3 hf3 v4 => kcp_v rfl (s_98_26 ?_))
  have hff : FrL bgF L L3 := FrL.tr hf1 (FrL.tr (S := bgF) hf2 hf3 rfl rfl) rfl rfl
  refine c_9 (v3.cg (hf3.at rfl)) v4 (kcp_v rfl (s_98_37 ?_))
  rcases Int.lt_trichotomy (eUp w * l5 - eLo w * l4) 0 with q | q | q
  · rw [sg_n q]
    exact i_zlt (by omega) (fun z => by omega) (fun _ => h1 (by unfold wit; omega) L3 hff)
  · rw [sg_z q]
    exact i_zlt (by omega) (fun z => by omega) (fun _ => h1 (by unfold wit; omega) L3 hff)
  · rw [sg_p q]
    exact i_zlt (by omega) (fun _ => h0 (by unfold wit; omega) L3 hff) (fun z => by omega)
/-- one figure -/
theorem l_128b {R l : Int} {q : Int} {i : Int} (hl : 0 < l ∧ l ≤ 2000000000000000000000000000000000000) (hi : 0 ≤ i ∧ i < 5) (hq : 0 ≤ q ∧ q ≤ 1000000) {L0 : Ml} (h : ∀ d L', FrL bgF L0 L' → (0 ≤ d ∧ d ≤ 9) → 0 ≤ R - d * l → R - d * l < l → BgAt L' 25 (10 * (R - d * l)) → BgAt L' 27 l → Wp 128 8 [(0, .ref 1), (1, .int (Int32.ofInt (q + d))), (2, .int (Int32.ofInt (i + 1)))] [] (gE Lx) I L' e Q) :
    ∀ (s : Nat) (k : Int), k + s = 10 → 0 ≤ k → (0 ≤ R - k * l ∧ R < 10 * l) → ∀ L : Ml, FrL bgF L0 L → BgAt L 25 (R - k * l) → BgAt L 27 l →
    Wp 128 20 [(0, .ref 1), (1, .int (Int32.ofInt (q + k))), (2, .int (Int32.ofInt i)), (3, .int (Int32.ofInt k))] [] (gE Lx) I L e Q := by
  intro s
  have fin : ∀ (k : Int) (L : Ml), (0 ≤ k ∧ k ≤ 9) → 0 ≤ R - k * l → R - k * l < l → FrL bgF L0 L → BgAt L 25 (R - k * l) → BgAt L 27 l → Wp 8 0 [(0, .ref 24), (1, .int (Int32.ofInt 10))] [] (gE Lx) I L e (kcp (Wp 128) 128 66 0 [(0, .ref 1), (1, .int (Int32.ofInt (q + k))), (2, .int (Int32.ofInt i))] 71 [] Q) := by
    intro k L hk h1 h2 hf v1 v2
    refine c_8_24 v1 (by omega) (by omega) (fun L2 hf2 v3 => kcp_v rfl (s_128_69 ?_))
    rw [add32]
    rw [Int.mul_comm] at v3
    exact h k L2 (FrL.tr hf hf2 rfl rfl) hk h1 h2 v3 (v2.cg (hf2.at rfl))
  induction s with
  | zero =>
    intro k hk h0 hR L hf v1 v2
    have e0 : k = 10 := by omega
    rw [e0] at hR
    omega
  | succ s ih =>
    intro k hk h0 hR L hf v1 v2
    have ek : (k + 1) * l = k * l + l := by rw [Int.add_mul, Int.one_mul]
    refine s_128_20 (i_lt32 (by omega) (by omega) (fun _ => c_9 v1 v2 (kcp_v rfl (s_128_37 ?_))) (fun _ => by omega))
    rcases Int.lt_trichotomy (R - k * l - l) 0 with z | z | z
    · rw [sg_n z]
      exact i_ltz (by omega) (fun _ => fin k L (by omega) hR.1 (by omega) hf v1 v2) (fun w => by omega)
    all_goals
      have hnn : 0 ≤ R - k * l - l := by omega
      first | rw [sg_z z] | rw [sg_p z]
      refine i_ltz (by omega) (fun w => by omega) (fun _ => c_10 v1 v2 (by omega) (fun L2 hf2 v3 => kcp_v rfl (s_128_51 ?_)))
      rw [add32, add32, show q + k + 1 = q + (k + 1) by omega]
      exact ih (k + 1) (by omega) (by omega) (by omega) L2 (FrL.tr hf hf2 rfl rfl) (by rw [show R - (k + 1) * l = R - k * l - l by omega]; exact v3) (v2.cg (hf2.at rfl))
theorem l_128 {U l : Int} (hl : 0 < l ∧ l ≤ 2000000000000000000000000000000000000) (hU : 0 ≤ U ∧ U ≤ l) {L0 : Ml} (h : ∀ L', FrL bgF L0 L' → Q (.inl (some (.int (Int32.ofInt (10000 * U / l))))) (gE Lx) I L' e) :
    ∀ (s i : Nat), i + s = 5 → ∀ (q R : Int) (L : Ml), FrL bgF L0 L → 0 ≤ q → 10 ^ i * U = 10 * (q * l) + R → (0 ≤ R ∧ R < 10 * l) → BgAt L 25 R → BgAt L 27 l →
    Wp 128 8 [(0, .ref 1), (1, .int (Int32.ofInt q)), (2, .int (Int32.ofInt i))] [] (gE Lx) I L e Q := by
  have qb : ∀ (i : Nat) (q R : Int), i ≤ 5 → 0 ≤ q → 10 ^ i * U = 10 * (q * l) + R → 0 ≤ R → q ≤ 10000 := by
    intro i q R hi hq he hR
    refine Int.not_lt.mp (fun w => ?_)
    have m1 := Int.mul_le_mul_of_nonneg_right (show (10001 : Int) ≤ q by omega) (show 0 ≤ l by omega)
    have m2 : (10 : Int) ^ i * U ≤ 100000 * U := by
      refine Int.mul_le_mul_of_nonneg_right ?_ hU.1
      have : i = 0 ∨ i = 1 ∨ i = 2 ∨ i = 3 ∨ i = 4 ∨ i = 5 := by omega
      rcases this with rfl | rfl | rfl | rfl | rfl | rfl <;> decide
    omega
  intro s
  induction s with
  | zero =>
    intro i hi q R L hf hq he hR v1 v2
    have : i = 5 := by omega
    subst this
    have q2 := qb 5 q R (by omega) hq he hR.1
    have e5 : (10 : Int) ^ 5 = 100000 := by decide
    rw [e5] at he
    have : 10000 * U / l = q := by
      refine Int.le_antisymm ?_ ?_
      · have e1 : (q + 1) * l = q * l + l := by rw [Int.add_mul, Int.one_mul]
        have : 10000 * U / l < q + 1 := Int.ediv_lt_of_lt_mul hl.1 (by omega)
        omega
      · exact Int.le_ediv_of_mul_le hl.1 (by omega)
    rw [this] at h
    exact s_128_8 (i_lt32 (by omega) (by omega) (fun _ => by omega) (fun _ => h L hf))
  | succ s ih =>
    intro i hi q R L hf hq he hR v1 v2
    have q2 := qb i q R (by omega) hq he hR.1
    refine s_128_8 (i_lt32 (by omega) (by omega) (fun _ => ?_) (fun _ => by omega))
    rw [mul32]
    have := l_128b (Lx := Lx) (I := I) (e := e) (Q := Q) (R := R) (l := l) (q := q * 10) (i := (i : Int)) (L0 := L0) hl (by omega) (by omega) (fun d L2 hf2 hd h1 h2 v3 v4 => by
      have := ih (i + 1) (by omega) (q * 10 + d) (10 * (R - d * l)) L2 hf2 (by omega) (by
        rw [Int.pow_succ]
        have : (10 : Int) ^ i * 10 * U = 10 * (10 ^ i * U) := by grind
        rw [this, he]
        grind) (by omega) v3 v4
      exact this) 10 0 (by omega) (by omega) (by omega) L hf (by rw [Int.zero_mul, Int.sub_zero]; exact v1) v2
    rw [Int.add_zero] at this
    exact this
theorem c_128 {w : Wv} (hW : WvAt L 14 w) (hB : BW w) (hG : Good w) (h : ∀ L', FrL bgF L L' → Q (.inl (some (.int (Int32.ofInt (tpt (ecF w)))))) (gE Lx) I L' e) : Wp 128 0 [(0, .ref 1)] [] (gE Lx) I L e Q := by
  obtain ⟨e1, e2⟩ := ebw hB
  have e3 := eLo_pos hG
  have e4 := eUL hG
  refine s_128_0 (c_99 hW hB (fun L1 hf1 v1 v2 => kcp_v rfl (s_128_4 ?_)))
  have := l_128 (Lx := Lx) (I := I) (e := e) (Q := Q) (U := eUp w) (l := eLo w) (L0 := L1) ⟨e3, e2.2⟩ ⟨e1.1, e4⟩ (fun L2 hf2 => h L2 (FrL.tr hf1 hf2 rfl rfl)) 5 0 (by omega) 0 (eUp w) L1 FrL.rf (by omega) (by rw [Int.pow_zero, Int.zero_mul]; omega) (by omega) v1 v2
  exact this
end
