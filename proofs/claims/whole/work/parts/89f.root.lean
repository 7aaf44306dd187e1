/-! Roots, on both sides; half. -/
noncomputable def rt (v : Int) : Int := @dite Int (∃ r, IsRt v r) (Classical.propDecidable _) (fun h => h.choose) (fun _ => 0)
theorem rt_eq {v r : Int} (h : IsRt v r) : rt v = r := by
  have hex : ∃ r, IsRt v r := ⟨r, h⟩
  unfold rt
  rw [dif_pos hex]
  exact hex.choose_spec.uq h
def pw : Nat → Int
  | 0 => 1
  | k + 1 => pw k + pw k
theorem pw_pos (k : Nat) : 0 < pw k := by
  induction k with
  | zero => decide
  | succ k ih => show 0 < pw k + pw k; omega
theorem shl_1 : ∀ k : Nat, k < 31 → (Int64.ofInt 1) <<< ((Int32.ofInt (k : Int)).toInt64 &&& 63) = Int64.ofInt (pw k) := by
  have h : ∀ k : Fin 31, (Int64.ofInt 1) <<< ((Int32.ofInt (k.val : Int)).toInt64 &&& 63) = Int64.ofInt (pw k.val) := by decide +kernel
  exact fun k hk => h ⟨k, hk⟩
section
variable {Lx : Nat} {I : Mi} {L : Ml} {e : Nat} {Q : Kq}
theorem l_32 {v : Int} (hv : 0 ≤ v ∧ v < 4611686018427387904) (h : ∀ r, IsRt v r → Q (.inl (some (.long (Int64.ofInt r)))) (gE Lx) I L e) : ∀ (k : Nat) (r : Int), k ≤ 31 → 0 ≤ r → r + pw k ≤ 2147483648 → r * r ≤ v → v < (r + pw k) * (r + pw k) →
    Wp 32 6 [(0, .long (Int64.ofInt v)), (2, .long (Int64.ofInt r)), (4, .int (Int32.ofInt ((k : Int) - 1)))] [] (gE Lx) I L e Q := by
  intro k
  induction k with
  | zero =>
    intro r hk h0 h1 h2 h3
    rw [show pw 0 = 1 from rfl] at h1 h3
    refine s_32_6 ?_
    rw [if_pos (show Int32.ofInt (((0 : Nat) : Int) - 1) < 0 by decide)]
    exact h r ⟨h0, h2, h3⟩
  | succ k ih =>
    intro r hk h0 h1 h2 h3
    have hp := pw_pos k
    have e1 : pw (k + 1) = pw k + pw k := rfl
    rw [e1] at h1 h3
    refine s_32_6 (i_ltz (by omega) (fun _ => by omega) (fun _ => ?_))
    rw [show ((k + 1 : Nat) : Int) - 1 = (k : Int) by omega, shl_1 k (by omega), add64, mul64, add32]
    have hm := mulB (x := r + pw k) (y := r + pw k) (A := 2147483648) (B := 2147483648) (by omega) (by omega)
    refine i_lt64 (by omega) (by omega) (fun k1 => ?_) (fun k1 => ?_)
    · exact ih r (by omega) h0 (by omega) h2 k1
    · exact ih (r + pw k) (by omega) (by omega) (by omega) k1 (by rw [show r + pw k + pw k = r + (pw k + pw k) by omega]; exact h3)
theorem c_32 {v : Int} (hv : 0 ≤ v ∧ v < 4611686018427387904) (h : ∀ r, IsRt v r → Q (.inl (some (.long (Int64.ofInt r)))) (gE Lx) I L e) : Wp 32 0 [(0, .long (Int64.ofInt v))] [] (gE Lx) I L e Q := by
  have e : pw 31 = 2147483648 := by decide
  have := l_32 (Lx := Lx) hv h 31 0 (by omega) (by omega) (by omega) (by omega) (by rw [e]; omega)
  exact s_32_0 this
theorem l_243 {v : Int} (hv : 0 ≤ v ∧ v < 4611686018427387904) (h : ∀ r, IsRt v r → Q (.inl (some (.long (Int64.ofInt r)))) (gE Lx) I L e) : ∀ (n : Nat) (a b : Int), (b - a).toNat ≤ n → 0 ≤ a → a ≤ b → b ≤ 3000000000 → a * a ≤ v → v < (b + 1) * (b + 1) →
    Wp 243 7 [(0, .long (Int64.ofInt v)), (2, .long (Int64.ofInt a)), (4, .long (Int64.ofInt b))] [] (gE Lx) I L e Q := by
  intro n
  induction n with
  | zero =>
    intro a b hn h0 h1 h2 h3 h4
    have : a = b := by omega
    subst this
    exact s_243_7 (i_lt64 (by omega) (by omega) (fun _ => by omega) (fun _ => h a ⟨h0, h3, h4⟩))
  | succ n ih =>
    intro a b hn h0 h1 h2 h3 h4
    refine s_243_7 (i_lt64 (by omega) (by omega) (fun k1 => ?_) (fun k1 => ?_))
    · rw [add64, add64, dv64 (by omega) (by omega) (by omega), Int.tdiv_eq_ediv_of_nonneg (by omega), mul64, sub64]
      have hm := mulB (x := (a + b + 1) / 2) (y := (a + b + 1) / 2) (A := 3000000000) (B := 3000000000) (by omega) (by omega)
      refine i_lt64 (by omega) (by omega) (fun k2 => ?_) (fun k2 => ?_)
      · exact ih a ((a + b + 1) / 2 - 1) (by omega) h0 (by omega) (by omega) h3 (by rw [Int.sub_add_cancel]; exact k2)
      · exact ih ((a + b + 1) / 2) b (by omega) (by omega) (by omega) h2 k2 h4
    · have : a = b := by omega
      subst this
      exact h a ⟨h0, h3, h4⟩
theorem c_243 {v : Int} (hv : 0 ≤ v ∧ v < 4611686018427387904) (h : ∀ r, IsRt v r → Q (.inl (some (.long (Int64.ofInt r)))) (gE Lx) I L e) : Wp 243 0 [(0, .long (Int64.ofInt v))] [] (gE Lx) I L e Q :=
  s_243_0 (l_243 hv h 3000000000 0 3000000000 (by decide) (by omega) (by omega) (by omega) (by omega) (by omega))
theorem IsRt.b {v r : Int} (h : IsRt v r) {B : Int} (hB : v < B * B) (h0 : 0 ≤ B) : r < B := by
  refine Int.not_le.mp (fun k => ?_)
  have := Int.mul_le_mul k k h0 h.1
  have := h.2.1
  omega
noncomputable def spHalf (p q lo : Int) : Nat × Int := iT p q (if p = 0 then (0, if lo = 0 then 0 else 1) else if rt (p * p + q * q) * rt (p * p + q * q) = p * p + q * q then
  (0, if 0 < p then (if lo = 0 then fU (rt (p * p + q * q) - q) p else fL (rt (p * p + q * q) - q) p) else (if lo = 0 then fU (rt (p * p + q * q) + q) (-p) else fL (rt (p * p + q * q) + q) (-p))) else (2, 0)) (1, 0)
set_option maxHeartbeats 4000000 in
theorem h_378 {p q lo : Int} (hp : R32 p) (hq : R32 q) (hlo : R32 lo) (h : CQ Lx I e Q (spHalf p q lo).1 (spHalf p q lo).2) :
    Wp 378 0 [(0, .ref 1), (1, .int (Int32.ofInt p)), (2, .int (Int32.ofInt q)), (3, .int (Int32.ofInt lo)), (4, .ref 70)] [] (gE Lx) I L e Q := by
  unfold spHalf at h
  refine s_378_0 (n_113 hp hq (fun ht => kcp_v rfl (s_130_6 ?_)) (fun ht => ?_))
  · rw [iT_t ht] at h
    rw [i2l hp, i2l hq, mul64, mul64, add64]
    have b := ht.b
    have m1 := mulB b.1 b.1
    have m2 := mulB b.2 b.2
    have n1 := sq_nn p
    have n2 := sq_nn q
    refine c_32 (by omega) (fun r hr => kcp_v rfl (s_130_24 ?_))
    rw [rt_eq hr] at h
    have hrb : r < 20 := hr.b (by omega) (by omega)
    have hr0 := hr.1
    have m3 := mulB (x := r) (y := r) (A := 20) (B := 20) (by omega) (by omega)
    rw [mul64, i2l hp, i2l hq, sub64, add64, neg32, i2l (by omega)]
    have fin : ∀ (L2 : Ml) (u l v : Int), FrcAt L2 18 u l → R32 u → R32 l → v = (if lo = 0 then u else l) → CQ Lx I e Q 0 v → Wp 130 101 [(0, .ref 1), (3, .int (Int32.ofInt lo))] [] (gE Lx) I L2 e (kcp (Wp 378) 378 7 0 [(0, .ref 1), (4, .ref 70)] 71 [.int (Int32.ofInt 0), .ref 70] Q) := by
      intro L2 u l v hv hu hl hvv hq
      subst hvv
      refine s_130_101 ?_
      rw [hv.1, hv.2, l2i, l2i]
      refine i_eqz hlo (fun k0 => kcp_v rfl (s_378_10 (i_inb0 (by decide) ?_))) (fun k0 => kcp_v rfl (s_378_10 (i_inb0 (by decide) ?_)))
      · rw [if_pos k0] at hq
        exact hq.mk (c := 0) FrI.rf (by omega) rfl (fun _ => by rw [tnc0, l_at]; exact i2l hu)
      · rw [if_neg k0] at hq
        exact hq.mk (c := 0) FrI.rf (by omega) rfl (fun _ => by rw [tnc0, l_at]; exact i2l hl)
    have zero : p = 0 → Wp 25 0 [(0, .ref 18), (1, .long (Int64.ofInt 0)), (3, .long (Int64.ofInt 1))] [] (gE Lx) I L e (kcp (Wp 130) 130 59 0 [(0, .ref 1), (3, .int (Int32.ofInt lo))] 71 [] (kcp (Wp 378) 378 7 0 [(0, .ref 1), (4, .ref 70)] 71 [.int (Int32.ofInt 0), .ref 70] Q)) := by
      intro k
      rw [if_pos k] at h
      refine c_25 (Or.inl rfl) (by omega) (by omega) (fun L2 hf2 hv2 => kcp_v rfl (s_130_62 ?_))
      exact fin L2 (fU 0 1) (fL 0 1) _ hv2 (by decide) (by decide) (by rw [show fU 0 1 = 0 by decide, show fL 0 1 = 1 by decide]) h
    refine i_eq64 (by omega) (by omega) (fun hsq => i_eqz hp zero (fun k0 => ?_)) (fun hsq => i_eqz hp (fun k0 => i_eqz hp zero (fun k => absurd k0 k)) (fun k0 => ?_))
    · rw [if_neg k0, if_pos hsq] at h
      refine i_zlt hp (fun k1 => ?_) (fun k1 => ?_)
      · rw [if_pos k1] at h
        have hb := fUL_b (a := r - q) (b := p) (B := 40) (by omega) (by omega) (by omega)
        exact c_25 (Or.inl rfl) (by omega) (by omega) (fun L2 hf2 hv2 => kcp_v rfl (s_130_83 (fin L2 _ _ _ hv2 (by have := hb.1; omega) (by have := hb.2; omega) rfl h)))
      · rw [if_neg (by omega)] at h
        have hb := fUL_b (a := r + q) (b := -p) (B := 40) (by omega) (by omega) (by omega)
        exact c_25 (Or.inl rfl) (by omega) (by omega) (fun L2 hf2 hv2 => kcp_v rfl (fin L2 _ _ _ hv2 (by have := hb.1; omega) (by have := hb.2; omega) rfl h))
    · rw [if_neg k0, if_neg hsq] at h
      exact kcp_h rfl (h.mk (c := 2) FrI.rf (by omega) rfl (fun z => by cases z))
  · rw [iT_f ht] at h
    exact kcp_x rfl (kcp_h rfl (h.mk (c := 1) FrI.rf (by omega) rfl (fun z => by cases z)))
/-- whether a number is a square, on the other side -/
theorem c_242 {v : Int} (hv : 0 ≤ v ∧ v < 4611686018427387904) (h1 : rt v * rt v = v → IsRt v (rt v) → Q (.inl (some (.int (Int32.ofInt 1)))) (gE Lx) I L e) (h0 : rt v * rt v ≠ v → Q (.inl (some (.int (Int32.ofInt 0)))) (gE Lx) I L e) :
    Wp 243 0 [(0, .long (Int64.ofInt v))] [] (gE Lx) I L e (kcp (Wp 242) 242 1 0 [(0, .long (Int64.ofInt v))] 71 [] Q) := by
  refine c_243 hv (fun r hr => kcp_v rfl (s_242_4 ?_))
  have hrb : r < 2147483648 := hr.b (by omega) (by omega)
  have hr0 := hr.1
  have m3 := mulB (x := r) (y := r) (A := 2147483648) (B := 2147483648) (by omega) (by omega)
  have e := rt_eq hr
  rw [e] at h1 h0
  rw [mul64]
  exact i_eq64 (by omega) (by omega) (fun k => h1 k hr) h0
set_option maxHeartbeats 4000000 in
theorem r_241 {p q lo : Int} (hp : R32 p) (hq : R32 q) (hlo : R32 lo) (h : RQ Lx I L e Q (spHalf p q lo).1 vI (spHalf p q lo).2) :
    Wp 241 0 [(0, .ref 58), (1, .int (Int32.ofInt p)), (2, .int (Int32.ofInt q)), (3, .int (Int32.ofInt lo))] [] (gE Lx) I L e Q := by
  unfold spHalf at h
  refine s_241_0 (c_207 hp hq (fun ht => kcp_v rfl (s_241_6 ?_)) (fun ht => kcp_v rfl (s_241_6 ?_)))
  · rw [iT_t ht] at h
    refine i_eqz (by omega) (fun k => by cases k) (fun _ => ?_)
    have b := ht.b
    have m1 := mulB b.1 b.1
    have m2 := mulB b.2 b.2
    have n1 := sq_nn p
    have n2 := sq_nn q
    rw [i2l hp, i2l hq, mul64, mul64, add64]
    refine c_242 (by omega) (fun hsq hr => kcp_v rfl (s_241_23 ?_)) (fun hsq => kcp_v rfl (s_241_23 ?_))
    · refine i_eqz (by omega) (fun k => by cases k) (fun _ => ?_)
      rw [i2l hp, i2l hq, mul64, mul64, add64]
      refine c_243 (by omega) (fun r hr => kcp_v rfl (s_241_53 ?_))
      rw [rt_eq hr] at h hsq
      have hrb : r < 20 := hr.b (by omega) (by omega)
      have hr0 := hr.1
      rw [i2l hp, i2l hq, sub64, add64, neg32, i2l (by omega)]
      have fin : ∀ (L2 : Ml) (u l v : Int), FrL [(58, 8, 2)] L L2 → L2 58 8 = .ofInt u → L2 58 9 = .ofInt l → v = (if lo = 0 then u else l) → RQ Lx I L e Q 0 vI v → Wp 241 101 [(0, .ref 58), (3, .int (Int32.ofInt lo))] [] (gE Lx) (ui I 58 0 (Int32.ofInt 0)) L2 e Q := by
        intro L2 u l v hf h8 h9 hvv hq
        subst hvv
        refine s_241_101 ?_
        rw [h8, h9, l2i, l2i]
        refine i_eqz hlo (fun k0 => ?_) (fun k0 => ?_)
        · rw [if_pos k0] at hq
          exact hq.mk (FrI.wu FrI.rf rfl) (hf.at rfl) (c := 0) u_at rfl (fun _ => rfl)
        · rw [if_neg k0] at hq
          exact hq.mk (FrI.wu FrI.rf rfl) (hf.at rfl) (c := 0) u_at rfl (fun _ => rfl)
      refine i_eqz hp (fun k => ?_) (fun k0 => i_zlt hp (fun k1 => i_zlt hp (fun _ => ?_) (fun _ => by omega)) (fun k1 => i_zlt hp (fun _ => by omega) (fun _ => ?_)))
      · rw [if_pos k] at h
        refine c_236 (by omega) (by omega) (fun L2 hf2 h8 h9 => kcp_v rfl (s_241_65 ?_))
        exact fin L2 _ _ _ hf2 h8 h9 (by rw [show rU 0 1 = 0 by decide, show rL 0 1 = 1 by decide]) h
      · rw [if_neg k0, if_pos hsq, if_pos k1] at h
        refine c_236 (by omega) (by omega) (fun L2 hf2 h8 h9 => kcp_v rfl (fin L2 _ _ _ hf2 h8 h9 (by rw [rU_f k0, rL_f k0]) h))
      · rw [if_neg k0, if_pos hsq, if_neg (by omega)] at h
        have k2 : -p ≠ 0 := by omega
        refine c_236 (by omega) (by omega) (fun L2 hf2 h8 h9 => kcp_v rfl (fin L2 _ _ _ hf2 h8 h9 (by rw [rU_f k2, rL_f k2]) h))
    · by_cases k0 : p = 0
      · exfalso
        have hq1 := ht.q1 k0
        subst k0; subst hq1
        refine hsq ?_
        have : rt (0 * 0 + 1 * 1) = 1 := rt_eq ⟨by decide, by decide, by decide⟩
        rw [this]; rfl
      · rw [if_neg k0, if_neg hsq] at h
        exact i_eqz (by omega) (fun _ => h.mk (v := 0) (FrI.wu FrI.rf rfl) rfl (c := 2) u_at rfl (fun z => by cases z)) (fun k => absurd rfl k)
  · rw [iT_f ht] at h
    exact i_eqz (by omega) (fun _ => h.mk (v := 0) (FrI.wu FrI.rf rfl) rfl (c := 1) u_at rfl (fun z => by cases z)) (fun k => absurd rfl k)
end
