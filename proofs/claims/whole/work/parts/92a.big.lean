/-! Numbers beyond a long: the class's rows of thirty bits. -/
theorem sh64 {y : Int} {k : Nat} (h : -9223372036854775808 ≤ y ∧ y ≤ 9223372036854775807) (hk : k < 64) : Int64.ofInt y >>> (Int64.ofInt (k : Int)) = Int64.ofInt (y / 2 ^ k) := by
  have e : (Int64.ofInt (k : Int)).toBitVec.smod 64 = BitVec.ofNat 64 k := by
    have : ∀ k : Nat, k < 64 → (Int64.ofInt (k : Int)).toBitVec.smod 64 = BitVec.ofNat 64 k := by decide
    exact this k hk
  apply Int64.toInt_inj.mp
  show (BitVec.sshiftRight' (Int64.ofInt y).toBitVec ((Int64.ofInt (k : Int)).toBitVec.smod 64)).toInt = _
  rw [e, BitVec.sshiftRight', BitVec.toInt_sshiftRight]
  have e2 : (Int64.ofInt y).toBitVec.toInt = y := Int64.toInt_ofInt_of_le (by omega) (by omega)
  have hp : (0:Int) < 2 ^ k := Int.pow_pos (by decide)
  have b1 : y / 2 ^ k ≤ 9223372036854775807 := Int.le_trans (Int.ediv_le_ediv hp h.2) (Int.ediv_le_self _ (by decide))
  have b2 : -9223372036854775808 ≤ y / 2 ^ k := Int.le_ediv_of_mul_le hp (by
    have : -9223372036854775808 * 2 ^ k ≤ -9223372036854775808 * 1 := Int.mul_le_mul_of_nonpos_left (by decide) hp
    omega)
  rw [e2, Int.shiftRight_eq_div_pow, Int64.toInt_ofInt_of_le (by omega) (by omega)]
  congr 1
  have : (BitVec.ofNat 64 k).toNat = k := by rw [BitVec.toNat_ofNat]; omega
  rw [this]; norm_cast
theorem an64 {y : Int} {k : Nat} (_h : -9223372036854775808 ≤ y ∧ y ≤ 9223372036854775807) (hk : k < 63) : Int64.ofInt y &&& Int64.ofInt ((2 ^ k - 1 : Nat) : Int) = Int64.ofInt (y % 2 ^ k) := by
  have hp : (0:Int) < 2 ^ k := Int.pow_pos (by decide)
  have hl : (2:Nat) ^ k ≤ 2 ^ 62 := Nat.pow_le_pow_right (by decide) (by omega)
  have hl2 : (2:Int) ^ k ≤ 2 ^ 62 := by exact_mod_cast hl
  have m0 := Int.emod_nonneg y (show (2:Int)^k ≠ 0 by omega)
  have m1 := Int.emod_lt_of_pos y hp
  apply Int64.toBitVec_inj.mp
  rw [Int64.toBitVec_and]
  apply BitVec.eq_of_toNat_eq
  have e1 : (Int64.ofInt ((2 ^ k - 1 : Nat) : Int)).toBitVec.toNat = 2 ^ k - 1 := by
    show (BitVec.ofInt 64 _).toNat = _
    rw [BitVec.toNat_ofInt]
    have : ((2 ^ k - 1 : Nat) : Int) % ((2 ^ 64 : Nat) : Int) = ((2 ^ k - 1 : Nat) : Int) := Int.emod_eq_of_lt (by omega) (by omega)
    rw [this]; rfl
  rw [BitVec.toNat_and, e1, Nat.and_two_pow_sub_one_eq_mod]
  have e2 : ∀ z : Int, (Int64.ofInt z).toBitVec.toNat = (z % 2 ^ 64).toNat := fun z => by
    show (BitVec.ofInt 64 _).toNat = _
    rw [BitVec.toNat_ofInt]; rfl
  rw [e2, e2, Int.emod_eq_of_lt (show 0 ≤ y % 2 ^ k by omega) (by omega)]
  have : (y % 2 ^ 64).toNat % 2 ^ k = ((y % 2 ^ 64) % 2 ^ k).toNat := by
    have a0 := Int.emod_nonneg y (show (2:Int)^64 ≠ 0 by decide)
    rw [Int.toNat_emod a0 (by omega)]
    congr 1
  rw [this, Int.emod_emod_of_dvd]
  exact ⟨2 ^ (64 - k), by rw [← Int.pow_add]; congr 1; omega⟩
theorem s30 : ((Int32.ofInt 30).toInt64 &&& 63) = Int64.ofInt ((30 : Nat) : Int) := by decide
theorem sh30 {y : Int} (h : -9223372036854775808 ≤ y ∧ y ≤ 9223372036854775807) : Int64.ofInt y >>> ((Int32.ofInt 30).toInt64 &&& 63) = Int64.ofInt (y / 1073741824) := by
  rw [s30]
  exact sh64 (k := 30) h (by decide)
theorem an30 {y : Int} (h : -9223372036854775808 ≤ y ∧ y ≤ 9223372036854775807) : Int64.ofInt y &&& Int64.ofInt 1073741823 = Int64.ofInt (y % 1073741824) := an64 (k := 30) h (by decide)
def lv (v : Int) : Nat → Int
  | 0 => v
  | i + 1 => lv v i / 1073741824
theorem lv_s {v : Int} {i : Nat} : lv v (i + 1) = lv v i / 1073741824 := rfl
theorem lv_e {v : Int} {i : Nat} : lv v i = lv v i % 1073741824 + 1073741824 * lv v (i + 1) := by rw [lv_s]; omega
theorem lvlt {a b : Int} : ∀ i, lv a i < lv b i → a < b := by
  intro i
  induction i with
  | zero => exact fun h => h
  | succ i ih =>
    intro h
    rw [lv_s, lv_s] at h
    exact ih (by omega)
theorem lv_4 {v : Int} (h : 0 ≤ v ∧ v < 1427247692705959881058285969449495136382746624) : 0 ≤ lv v 4 ∧ lv v 4 < 1073741824 := by
  show 0 ≤ v / 1073741824 / 1073741824 / 1073741824 / 1073741824 ∧ v / 1073741824 / 1073741824 / 1073741824 / 1073741824 < 1073741824
  omega
def BgAt (L : Ml) (r : Nat) (v : Int) : Prop := (0 ≤ v ∧ v < 1427247692705959881058285969449495136382746624) ∧ (∀ i, i < 4 → L r i = .ofInt (lv v i % 1073741824)) ∧ L r 4 = .ofInt (lv v 4)
theorem BgAt.cg {L L' : Ml} {r : Nat} {v : Int} (h : BgAt L r v) (e : L' r = L r) : BgAt L' r v := by unfold BgAt; rw [e]; exact h
theorem BgAt.a5 {L : Ml} {r : Nat} {v : Int} (h : BgAt L r v) {i : Nat} (hi : i < 5) : ∃ x, L r i = .ofInt x ∧ (0 ≤ x ∧ x < 1073741824) ∧ (i < 4 → lv v i = x + 1073741824 * lv v (i + 1)) ∧ (i = 4 → lv v 4 = x) := by
  by_cases q : i < 4
  · exact ⟨_, h.2.1 i q, by omega, fun _ => lv_e, fun w => by omega⟩
  · have : i = 4 := by omega
    subst this
    exact ⟨_, h.2.2, lv_4 h.1, fun w => absurd w q, fun _ => rfl⟩
section
variable {Lx : Nat} {I : Mi} {L : Ml} {e : Nat} {Q : Kq}
theorem l_7_24 {t S : Nat → Int} {V : Int} (hS : ∀ i, i < 4 → S i = t i + 1073741824 * S (i + 1)) (hS4 : S 4 = t 4) (hV : 0 ≤ V ∧ V < 1427247692705959881058285969449495136382746624) (hb : ∀ i, i < 5 → -4611686018427387904 ≤ t i ∧ t i ≤ 4611686018427387904) (h : ∀ L', FrL [(25, 0, 5)] L L' → BgAt L' 25 V → Q (.inl none) (gE Lx) I L' e) :
    ∀ (s i : Nat), i + s = 4 → ∀ (L1 : Ml) (u : Int), FrL [(25, 0, 5)] L L1 → (∀ j, j < i → L1 25 j = .ofInt (lv V j % 1073741824)) → L1 25 i = .ofInt u → (-9223372036854775808 ≤ u ∧ u ≤ 9223372036854775807) → lv V i = u + (S i - t i) → (∀ j, i < j → j < 5 → L1 25 j = .ofInt (t j)) →
    Wp 7 2 [(0, .ref 24), (1, .int (Int32.ofInt i))] [] (gE Lx) I L1 e Q := by
  intro s
  induction s with
  | zero =>
    intro i hi L1 u hf h1 hu hub hv h2
    have : i = 4 := by omega
    subst this
    refine s_7_2_24 ?_
    rw [add32]
    exact i_lt32 (by omega) (by omega) (fun _ => by omega) (fun _ => h L1 hf ⟨hV, h1, by rw [hu]; congr 1; omega⟩)
  | succ s ih =>
    intro i hi L1 u hf h1 hu hub hv h2
    have ha := h2 (i + 1) (by omega) (by omega)
    have hbi := hb (i + 1) (by omega)
    have hSi := hS i (by omega)
    have e1 : Int32.ofInt (i : Int) + Int32.ofInt 1 = Int32.ofInt ((i + 1 : Nat) : Int) := by rw [add32]; rfl
    have ins : ∀ j, j < 5 → inS [(25, 0, 5)] 25 j = true := by decide
    refine s_7_2_24 ?_
    rw [e1, tncn (k := i) (by omega), tncn (k := i + 1) (by omega), hu, ha, sh30 hub, add64, l_ne (by omega), hu, an30 hub]
    refine i_lt32 (by omega) (by omega) (fun _ => i_inb (by omega) (by omega) (i_inb (by omega) (by omega) (i_inb (by omega) (by omega) (i_inb (by omega) (by omega) (i_inb (by omega) (by omega) ?_))))) (fun _ => by omega)
    refine ih (i + 1) (by omega) _ (t (i + 1) + u / 1073741824) (FrL.wu (FrL.wu hf (ins (i + 1) (by omega))) (ins i (by omega))) (fun j hj => ?_) ?_ (by omega) ?_ (fun j h3 h4 => ?_)
    · by_cases q : j = i
      · rw [q, l_at]
        congr 1
        omega
      · rw [l_ne q, l_ne (by omega)]
        exact h1 j (by omega)
    · rw [l_ne (by omega), l_at]
    · rw [lv_s]
      omega
    · rw [l_ne (by omega), l_ne (by omega)]
      exact h2 j (by omega) h4
theorem c_7_24 {t S : Nat → Int} {V : Int} (hS : ∀ i, i < 4 → S i = t i + 1073741824 * S (i + 1)) (hS4 : S 4 = t 4) (h0 : S 0 = V) (hV : 0 ≤ V ∧ V < 1427247692705959881058285969449495136382746624) (hb : ∀ i, i < 5 → -4611686018427387904 ≤ t i ∧ t i ≤ 4611686018427387904) (ht : ∀ j, j < 5 → L 25 j = .ofInt (t j)) (h : ∀ L', FrL [(25, 0, 5)] L L' → BgAt L' 25 V → Q (.inl none) (gE Lx) I L' e) :
    Wp 7 2 [(0, .ref 24), (1, .int (Int32.ofInt 0))] [] (gE Lx) I L e Q := by
  have b0 := hb 0 (by omega)
  exact l_7_24 hS hS4 hV hb h 4 0 (by omega) L (t 0) FrL.rf (fun j hj => by omega) (ht 0 (by omega)) (by omega) (by show V = _; omega) (fun j _ hj => ht j hj)
theorem l_8_24 {L0 : Ml} {v m : Int} (hv : BgAt L0 25 v) (hm : 0 ≤ m ∧ m ≤ 1000000) (hV : v * m < 1427247692705959881058285969449495136382746624) (h : ∀ L', FrL [(25, 0, 5)] L0 L' → BgAt L' 25 (v * m) → Q (.inl none) (gE Lx) I L' e) :
    ∀ (s i : Nat), i + s = 5 → ∀ (L : Ml), FrL [(25, 0, 5)] L0 L → (∀ j x, j < i → L0 25 j = .ofInt x → L 25 j = .ofInt (x * m)) → (∀ j, i ≤ j → L 25 j = L0 25 j) →
    Wp 8 2 [(0, .ref 24), (1, .int (Int32.ofInt m)), (2, .int (Int32.ofInt i))] [] (gE Lx) I L e Q := by
  intro s
  induction s with
  | zero =>
    intro i hi L hf h1 h2
    have : i = 5 := by omega
    subst this
    have T : ∀ i, i < 4 → (if i < 4 then lv v i % 1073741824 else lv v 4) = lv v i % 1073741824 := fun i hi => if_pos hi
    have m0 : ∀ x : Int, 0 ≤ x ∧ x < 1073741824 → -4611686018427387904 ≤ x * m ∧ x * m ≤ 4611686018427387904 := fun x hx => by
      have a := Int.mul_le_mul_of_nonneg_left hm.2 hx.1
      have b := Int.mul_nonneg hx.1 hm.1
      omega
    refine s_8_2_24 (i_lt32 (by omega) (by omega) (fun _ => by omega) (fun _ => ?_))
    refine c_7_24 (t := fun i => (if i < 4 then lv v i % 1073741824 else lv v 4) * m) (S := fun i => lv v i * m) (V := v * m) (fun i hi => ?_) rfl rfl ⟨Int.mul_nonneg hv.1.1 hm.1, hV⟩ (fun i hi => ?_) (fun j hj => ?_) (fun L2 hf2 hv2 => kcp_v rfl (s_8_28_24 (h L2 (FrL.tr hf hf2 rfl rfl) hv2)))
    · rw [T i hi]
      have := lv_e (v := v) (i := i)
      generalize lv v i % 1073741824 = a at *
      rw [this]
      grind
    · refine m0 _ ?_
      split
      · omega
      · exact lv_4 hv.1
    · refine h1 j _ hj ?_
      split
      · exact hv.2.1 j (by assumption)
      · have : j = 4 := by omega
        rw [this]
        exact hv.2.2
  | succ s ih =>
    intro i hi L hf h1 h2
    have ins : ∀ j, j < 5 → inS [(25, 0, 5)] 25 j = true := by decide
    obtain ⟨x, hx, xb, -⟩ := hv.a5 (i := i) (by omega)
    have a := Int.mul_le_mul_of_nonneg_left hm.2 xb.1
    have b := Int.mul_nonneg xb.1 hm.1
    refine s_8_2_24 ?_
    rw [tncn (k := i) (by omega), h2 i (Nat.le_refl _), hx, i2l (by omega), mul64, add32]
    refine i_lt32 (by omega) (by omega) (fun _ => i_inb (by omega) (by omega) (i_inb (by omega) (by omega) ?_)) (fun _ => by omega)
    refine ih (i + 1) (by omega) _ (FrL.wu hf (ins i (by omega))) (fun j y hj hy => ?_) (fun j hj => ?_)
    · by_cases q : j = i
      · rw [q, l_at]
        rw [q, hx] at hy
        rw [← mul64, hy, mul64]
      · rw [l_ne q]
        exact h1 j y (by omega) hy
    · rw [l_ne (by omega)]
      exact h2 j (by omega)
theorem c_8_24 {v m : Int} (hv : BgAt L 25 v) (hm : 0 ≤ m ∧ m ≤ 1000000) (hV : v * m < 1427247692705959881058285969449495136382746624) (h : ∀ L', FrL [(25, 0, 5)] L L' → BgAt L' 25 (v * m) → Q (.inl none) (gE Lx) I L' e) :
    Wp 8 0 [(0, .ref 24), (1, .int (Int32.ofInt m))] [] (gE Lx) I L e Q :=
  s_8_0_24 (l_8_24 hv hm hV h 5 0 (by omega) L FrL.rf (fun j x hj => by omega) (fun j _ => rfl))
theorem n_6_24 {x z : Int} (hx : 0 ≤ x ∧ x < 1152921504606846976) (hz : 0 ≤ z ∧ z < 1152921504606846976) (h : ∀ L', FrL [(25, 0, 5)] L L' → BgAt L' 25 (x * x + z * z) → Q (.inl none) (gE Lx) I L' e) :
    Wp 7 2 [(0, .ref 24), (1, .int (Int32.ofInt 0))] [] (gE Lx) I (ul (ul (ul (ul (ul L 25 0 (((Int64.ofInt x &&& Int64.ofInt 1073741823) * (Int64.ofInt x &&& Int64.ofInt 1073741823)) + ((Int64.ofInt z &&& Int64.ofInt 1073741823) * (Int64.ofInt z &&& Int64.ofInt 1073741823)))) 25 1 (Int64.ofInt 2 * (((Int64.ofInt x &&& Int64.ofInt 1073741823) * (Int64.ofInt x >>> ((Int32.ofInt 30).toInt64 &&& 63))) + ((Int64.ofInt z &&& Int64.ofInt 1073741823) * (Int64.ofInt z >>> ((Int32.ofInt 30).toInt64 &&& 63)))))) 25 2 (((Int64.ofInt x >>> ((Int32.ofInt 30).toInt64 &&& 63)) * (Int64.ofInt x >>> ((Int32.ofInt 30).toInt64 &&& 63))) + ((Int64.ofInt z >>> ((Int32.ofInt 30).toInt64 &&& 63)) * (Int64.ofInt z >>> ((Int32.ofInt 30).toInt64 &&& 63))))) 25 3 (Int64.ofInt 0)) 25 4 (Int64.ofInt 0)) e (kcp (Wp 6) 6 112 0 [(0, .ref 24)] 71 [] Q) := by
  rw [an30 (by omega), an30 (by omega), sh30 (by omega), sh30 (by omega)]
  simp only [mul64, add64]
  have a1 : x = x % 1073741824 + 1073741824 * (x / 1073741824) := by omega
  have a2 : z = z % 1073741824 + 1073741824 * (z / 1073741824) := by omega
  have b1 : 0 ≤ x % 1073741824 ∧ x % 1073741824 ≤ 1073741823 := by omega
  have b2 : 0 ≤ z % 1073741824 ∧ z % 1073741824 ≤ 1073741823 := by omega
  have b3 : 0 ≤ x / 1073741824 ∧ x / 1073741824 ≤ 1073741823 := by omega
  have b4 : 0 ≤ z / 1073741824 ∧ z / 1073741824 ≤ 1073741823 := by omega
  have hV : 0 ≤ x * x + z * z ∧ x * x + z * z < 1427247692705959881058285969449495136382746624 := by
    have m1 := Int.mul_le_mul (show x ≤ 1152921504606846976 by omega) (show x ≤ 1152921504606846976 by omega) hx.1 (by decide)
    have m2 := Int.mul_le_mul (show z ≤ 1152921504606846976 by omega) (show z ≤ 1152921504606846976 by omega) hz.1 (by decide)
    have m3 := Int.mul_nonneg hx.1 hx.1
    have m4 := Int.mul_nonneg hz.1 hz.1
    omega
  generalize x % 1073741824 = p at *
  generalize z % 1073741824 = q at *
  generalize x / 1073741824 = r at *
  generalize z / 1073741824 = s at *
  have pq : ∀ a b : Int, (0 ≤ a ∧ a ≤ 1073741823) → (0 ≤ b ∧ b ≤ 1073741823) → 0 ≤ a * b ∧ a * b ≤ 1152921502459363329 := fun a b ha hb => ⟨Int.mul_nonneg ha.1 hb.1, Int.mul_le_mul ha.2 hb.2 hb.1 (by decide)⟩
  have c1 := pq p p b1 b1; have c2 := pq q q b2 b2; have c3 := pq p r b1 b3; have c4 := pq q s b2 b4; have c5 := pq r r b3 b3; have c6 := pq s s b4 b4
  refine c_7_24 (t := fun i => if i = 0 then p * p + q * q else if i = 1 then 2 * (p * r + q * s) else if i = 2 then r * r + s * s else 0) (S := fun i => if i = 0 then x * x + z * z else if i = 1 then 2 * (p * r + q * s) + 1073741824 * (r * r + s * s) else if i = 2 then r * r + s * s else 0) (V := x * x + z * z) (fun i hi => ?_) rfl rfl hV (fun i hi => ?_) (fun j hj => ?_) (fun L2 hf2 hv2 => kcp_v rfl (s_6_115_24 (h L2 (FrL.tr (A := [(25, 0, 5)]) (FrL.wu (FrL.wu (FrL.wu (FrL.wu (FrL.wu FrL.rf rfl) rfl) rfl) rfl) rfl) hf2 rfl rfl) hv2)))
  · have : i = 0 ∨ i = 1 ∨ i = 2 ∨ i = 3 := by omega
    rcases this with rfl | rfl | rfl | rfl
    · show x * x + z * z = p * p + q * q + 1073741824 * (2 * (p * r + q * s) + 1073741824 * (r * r + s * s))
      rw [a1, a2]
      grind
    · rfl
    · show r * r + s * s = r * r + s * s + 1073741824 * 0
      omega
    · rfl
  · have : i = 0 ∨ i = 1 ∨ i = 2 ∨ i = 3 ∨ i = 4 := by omega
    rcases this with rfl | rfl | rfl | rfl | rfl
    · show -4611686018427387904 ≤ p * p + q * q ∧ p * p + q * q ≤ 4611686018427387904
      omega
    · show -4611686018427387904 ≤ 2 * (p * r + q * s) ∧ 2 * (p * r + q * s) ≤ 4611686018427387904
      omega
    · show -4611686018427387904 ≤ r * r + s * s ∧ r * r + s * s ≤ 4611686018427387904
      omega
    · show -4611686018427387904 ≤ (0:Int) ∧ (0:Int) ≤ 4611686018427387904; omega
    · show -4611686018427387904 ≤ (0:Int) ∧ (0:Int) ≤ 4611686018427387904; omega
  · have : j = 0 ∨ j = 1 ∨ j = 2 ∨ j = 3 ∨ j = 4 := by omega
    rcases this with rfl | rfl | rfl | rfl | rfl
    · rfl
    · rfl
    · rfl
    · rfl
    · rfl
theorem c_6_24 {x z : Int} (hx : -1152921504606846976 < x ∧ x < 1152921504606846976) (hz : -1152921504606846976 < z ∧ z < 1152921504606846976) (h : ∀ L', FrL [(25, 0, 5)] L L' → BgAt L' 25 (x * x + z * z) → Q (.inl none) (gE Lx) I L' e) :
    Wp 6 0 [(0, .ref 24), (1, .long (Int64.ofInt x)), (3, .long (Int64.ofInt z))] [] (gE Lx) I L e Q := by
  refine s_6_0_24 ?_
  simp only [neg64]
  refine i_lt64 (by omega) (by omega) (fun q1 => i_lt64 (by omega) (by omega) (fun q2 => n_6_24 (by omega) (by omega) (fun L2 hf hv => h L2 hf ?_)) (fun q2 => n_6_24 (by omega) (by omega) (fun L2 hf hv => h L2 hf ?_))) (fun q1 => i_lt64 (by omega) (by omega) (fun q2 => n_6_24 (by omega) (by omega) (fun L2 hf hv => h L2 hf ?_)) (fun q2 => n_6_24 (by omega) (by omega) (fun L2 hf hv => h L2 hf hv)))
  · rw [Int.neg_mul_neg, Int.neg_mul_neg] at hv; exact hv
  · rw [Int.neg_mul_neg] at hv; exact hv
  · rw [Int.neg_mul_neg] at hv; exact hv
theorem l_7_26 {t S : Nat → Int} {V : Int} (hS : ∀ i, i < 4 → S i = t i + 1073741824 * S (i + 1)) (hS4 : S 4 = t 4) (hV : 0 ≤ V ∧ V < 1427247692705959881058285969449495136382746624) (hb : ∀ i, i < 5 → -4611686018427387904 ≤ t i ∧ t i ≤ 4611686018427387904) (h : ∀ L', FrL [(27, 0, 5)] L L' → BgAt L' 27 V → Q (.inl none) (gE Lx) I L' e) :
    ∀ (s i : Nat), i + s = 4 → ∀ (L1 : Ml) (u : Int), FrL [(27, 0, 5)] L L1 → (∀ j, j < i → L1 27 j = .ofInt (lv V j % 1073741824)) → L1 27 i = .ofInt u → (-9223372036854775808 ≤ u ∧ u ≤ 9223372036854775807) → lv V i = u + (S i - t i) → (∀ j, i < j → j < 5 → L1 27 j = .ofInt (t j)) →
    Wp 7 2 [(0, .ref 26), (1, .int (Int32.ofInt i))] [] (gE Lx) I L1 e Q := by
  intro s
  induction s with
  | zero =>
    intro i hi L1 u hf h1 hu hub hv h2
    have : i = 4 := by omega
    subst this
    refine s_7_2_26 ?_
    rw [add32]
    exact i_lt32 (by omega) (by omega) (fun _ => by omega) (fun _ => h L1 hf ⟨hV, h1, by rw [hu]; congr 1; omega⟩)
  | succ s ih =>
    intro i hi L1 u hf h1 hu hub hv h2
    have ha := h2 (i + 1) (by omega) (by omega)
    have hbi := hb (i + 1) (by omega)
    have hSi := hS i (by omega)
    have e1 : Int32.ofInt (i : Int) + Int32.ofInt 1 = Int32.ofInt ((i + 1 : Nat) : Int) := by rw [add32]; rfl
    have ins : ∀ j, j < 5 → inS [(27, 0, 5)] 27 j = true := by decide
    refine s_7_2_26 ?_
    rw [e1, tncn (k := i) (by omega), tncn (k := i + 1) (by omega), hu, ha, sh30 hub, add64, l_ne (by omega), hu, an30 hub]
    refine i_lt32 (by omega) (by omega) (fun _ => i_inb (by omega) (by omega) (i_inb (by omega) (by omega) (i_inb (by omega) (by omega) (i_inb (by omega) (by omega) (i_inb (by omega) (by omega) ?_))))) (fun _ => by omega)
    refine ih (i + 1) (by omega) _ (t (i + 1) + u / 1073741824) (FrL.wu (FrL.wu hf (ins (i + 1) (by omega))) (ins i (by omega))) (fun j hj => ?_) ?_ (by omega) ?_ (fun j h3 h4 => ?_)
    · by_cases q : j = i
      · rw [q, l_at]
        congr 1
        omega
      · rw [l_ne q, l_ne (by omega)]
        exact h1 j (by omega)
    · rw [l_ne (by omega), l_at]
    · rw [lv_s]
      omega
    · rw [l_ne (by omega), l_ne (by omega)]
      exact h2 j (by omega) h4
theorem c_7_26 {t S : Nat → Int} {V : Int} (hS : ∀ i, i < 4 → S i = t i + 1073741824 * S (i + 1)) (hS4 : S 4 = t 4) (h0 : S 0 = V) (hV : 0 ≤ V ∧ V < 1427247692705959881058285969449495136382746624) (hb : ∀ i, i < 5 → -4611686018427387904 ≤ t i ∧ t i ≤ 4611686018427387904) (ht : ∀ j, j < 5 → L 27 j = .ofInt (t j)) (h : ∀ L', FrL [(27, 0, 5)] L L' → BgAt L' 27 V → Q (.inl none) (gE Lx) I L' e) :
    Wp 7 2 [(0, .ref 26), (1, .int (Int32.ofInt 0))] [] (gE Lx) I L e Q := by
  have b0 := hb 0 (by omega)
  exact l_7_26 hS hS4 hV hb h 4 0 (by omega) L (t 0) FrL.rf (fun j hj => by omega) (ht 0 (by omega)) (by omega) (by show V = _; omega) (fun j _ hj => ht j hj)
theorem l_8_26 {L0 : Ml} {v m : Int} (hv : BgAt L0 27 v) (hm : 0 ≤ m ∧ m ≤ 1000000) (hV : v * m < 1427247692705959881058285969449495136382746624) (h : ∀ L', FrL [(27, 0, 5)] L0 L' → BgAt L' 27 (v * m) → Q (.inl none) (gE Lx) I L' e) :
    ∀ (s i : Nat), i + s = 5 → ∀ (L : Ml), FrL [(27, 0, 5)] L0 L → (∀ j x, j < i → L0 27 j = .ofInt x → L 27 j = .ofInt (x * m)) → (∀ j, i ≤ j → L 27 j = L0 27 j) →
    Wp 8 2 [(0, .ref 26), (1, .int (Int32.ofInt m)), (2, .int (Int32.ofInt i))] [] (gE Lx) I L e Q := by
  intro s
  induction s with
  | zero =>
    intro i hi L hf h1 h2
    have : i = 5 := by omega
    subst this
    have T : ∀ i, i < 4 → (if i < 4 then lv v i % 1073741824 else lv v 4) = lv v i % 1073741824 := fun i hi => if_pos hi
    have m0 : ∀ x : Int, 0 ≤ x ∧ x < 1073741824 → -4611686018427387904 ≤ x * m ∧ x * m ≤ 4611686018427387904 := fun x hx => by
      have a := Int.mul_le_mul_of_nonneg_left hm.2 hx.1
      have b := Int.mul_nonneg hx.1 hm.1
      omega
    refine s_8_2_26 (i_lt32 (by omega) (by omega) (fun _ => by omega) (fun _ => ?_))
    refine c_7_26 (t := fun i => (if i < 4 then lv v i % 1073741824 else lv v 4) * m) (S := fun i => lv v i * m) (V := v * m) (fun i hi => ?_) rfl rfl ⟨Int.mul_nonneg hv.1.1 hm.1, hV⟩ (fun i hi => ?_) (fun j hj => ?_) (fun L2 hf2 hv2 => kcp_v rfl (s_8_28_26 (h L2 (FrL.tr hf hf2 rfl rfl) hv2)))
    · rw [T i hi]
      have := lv_e (v := v) (i := i)
      generalize lv v i % 1073741824 = a at *
      rw [this]
      grind
    · refine m0 _ ?_
      split
      · omega
      · exact lv_4 hv.1
    · refine h1 j _ hj ?_
      split
      · exact hv.2.1 j (by assumption)
      · have : j = 4 := by omega
        rw [this]
        exact hv.2.2
  | succ s ih =>
    intro i hi L hf h1 h2
    have ins : ∀ j, j < 5 → inS [(27, 0, 5)] 27 j = true := by decide
    obtain ⟨x, hx, xb, -⟩ := hv.a5 (i := i) (by omega)
    have a := Int.mul_le_mul_of_nonneg_left hm.2 xb.1
    have b := Int.mul_nonneg xb.1 hm.1
    refine s_8_2_26 ?_
    rw [tncn (k := i) (by omega), h2 i (Nat.le_refl _), hx, i2l (by omega), mul64, add32]
    refine i_lt32 (by omega) (by omega) (fun _ => i_inb (by omega) (by omega) (i_inb (by omega) (by omega) ?_)) (fun _ => by omega)
    refine ih (i + 1) (by omega) _ (FrL.wu hf (ins i (by omega))) (fun j y hj hy => ?_) (fun j hj => ?_)
    · by_cases q : j = i
      · rw [q, l_at]
        rw [q, hx] at hy
        rw [← mul64, hy, mul64]
      · rw [l_ne q]
        exact h1 j y (by omega) hy
    · rw [l_ne (by omega)]
      exact h2 j (by omega)
theorem c_8_26 {v m : Int} (hv : BgAt L 27 v) (hm : 0 ≤ m ∧ m ≤ 1000000) (hV : v * m < 1427247692705959881058285969449495136382746624) (h : ∀ L', FrL [(27, 0, 5)] L L' → BgAt L' 27 (v * m) → Q (.inl none) (gE Lx) I L' e) :
    Wp 8 0 [(0, .ref 26), (1, .int (Int32.ofInt m))] [] (gE Lx) I L e Q :=
  s_8_0_26 (l_8_26 hv hm hV h 5 0 (by omega) L FrL.rf (fun j x hj => by omega) (fun j _ => rfl))
theorem n_6_26 {x z : Int} (hx : 0 ≤ x ∧ x < 1152921504606846976) (hz : 0 ≤ z ∧ z < 1152921504606846976) (h : ∀ L', FrL [(27, 0, 5)] L L' → BgAt L' 27 (x * x + z * z) → Q (.inl none) (gE Lx) I L' e) :
    Wp 7 2 [(0, .ref 26), (1, .int (Int32.ofInt 0))] [] (gE Lx) I (ul (ul (ul (ul (ul L 27 0 (((Int64.ofInt x &&& Int64.ofInt 1073741823) * (Int64.ofInt x &&& Int64.ofInt 1073741823)) + ((Int64.ofInt z &&& Int64.ofInt 1073741823) * (Int64.ofInt z &&& Int64.ofInt 1073741823)))) 27 1 (Int64.ofInt 2 * (((Int64.ofInt x &&& Int64.ofInt 1073741823) * (Int64.ofInt x >>> ((Int32.ofInt 30).toInt64 &&& 63))) + ((Int64.ofInt z &&& Int64.ofInt 1073741823) * (Int64.ofInt z >>> ((Int32.ofInt 30).toInt64 &&& 63)))))) 27 2 (((Int64.ofInt x >>> ((Int32.ofInt 30).toInt64 &&& 63)) * (Int64.ofInt x >>> ((Int32.ofInt 30).toInt64 &&& 63))) + ((Int64.ofInt z >>> ((Int32.ofInt 30).toInt64 &&& 63)) * (Int64.ofInt z >>> ((Int32.ofInt 30).toInt64 &&& 63))))) 27 3 (Int64.ofInt 0)) 27 4 (Int64.ofInt 0)) e (kcp (Wp 6) 6 112 0 [(0, .ref 26)] 71 [] Q) := by
  rw [an30 (by omega), an30 (by omega), sh30 (by omega), sh30 (by omega)]
  simp only [mul64, add64]
  have a1 : x = x % 1073741824 + 1073741824 * (x / 1073741824) := by omega
  have a2 : z = z % 1073741824 + 1073741824 * (z / 1073741824) := by omega
  have b1 : 0 ≤ x % 1073741824 ∧ x % 1073741824 ≤ 1073741823 := by omega
  have b2 : 0 ≤ z % 1073741824 ∧ z % 1073741824 ≤ 1073741823 := by omega
  have b3 : 0 ≤ x / 1073741824 ∧ x / 1073741824 ≤ 1073741823 := by omega
  have b4 : 0 ≤ z / 1073741824 ∧ z / 1073741824 ≤ 1073741823 := by omega
  have hV : 0 ≤ x * x + z * z ∧ x * x + z * z < 1427247692705959881058285969449495136382746624 := by
    have m1 := Int.mul_le_mul (show x ≤ 1152921504606846976 by omega) (show x ≤ 1152921504606846976 by omega) hx.1 (by decide)
    have m2 := Int.mul_le_mul (show z ≤ 1152921504606846976 by omega) (show z ≤ 1152921504606846976 by omega) hz.1 (by decide)
    have m3 := Int.mul_nonneg hx.1 hx.1
    have m4 := Int.mul_nonneg hz.1 hz.1
    omega
  generalize x % 1073741824 = p at *
  generalize z % 1073741824 = q at *
  generalize x / 1073741824 = r at *
  generalize z / 1073741824 = s at *
  have pq : ∀ a b : Int, (0 ≤ a ∧ a ≤ 1073741823) → (0 ≤ b ∧ b ≤ 1073741823) → 0 ≤ a * b ∧ a * b ≤ 1152921502459363329 := fun a b ha hb => ⟨Int.mul_nonneg ha.1 hb.1, Int.mul_le_mul ha.2 hb.2 hb.1 (by decide)⟩
  have c1 := pq p p b1 b1; have c2 := pq q q b2 b2; have c3 := pq p r b1 b3; have c4 := pq q s b2 b4; have c5 := pq r r b3 b3; have c6 := pq s s b4 b4
  refine c_7_26 (t := fun i => if i = 0 then p * p + q * q else if i = 1 then 2 * (p * r + q * s) else if i = 2 then r * r + s * s else 0) (S := fun i => if i = 0 then x * x + z * z else if i = 1 then 2 * (p * r + q * s) + 1073741824 * (r * r + s * s) else if i = 2 then r * r + s * s else 0) (V := x * x + z * z) (fun i hi => ?_) rfl rfl hV (fun i hi => ?_) (fun j hj => ?_) (fun L2 hf2 hv2 => kcp_v rfl (s_6_115_26 (h L2 (FrL.tr (A := [(27, 0, 5)]) (FrL.wu (FrL.wu (FrL.wu (FrL.wu (FrL.wu FrL.rf rfl) rfl) rfl) rfl) rfl) hf2 rfl rfl) hv2)))
  · have : i = 0 ∨ i = 1 ∨ i = 2 ∨ i = 3 := by omega
    rcases this with rfl | rfl | rfl | rfl
    · show x * x + z * z = p * p + q * q + 1073741824 * (2 * (p * r + q * s) + 1073741824 * (r * r + s * s))
      rw [a1, a2]
      grind
    · rfl
    · show r * r + s * s = r * r + s * s + 1073741824 * 0
      omega
    · rfl
  · have : i = 0 ∨ i = 1 ∨ i = 2 ∨ i = 3 ∨ i = 4 := by omega
    rcases this with rfl | rfl | rfl | rfl | rfl
    · show -4611686018427387904 ≤ p * p + q * q ∧ p * p + q * q ≤ 4611686018427387904
      omega
    · show -4611686018427387904 ≤ 2 * (p * r + q * s) ∧ 2 * (p * r + q * s) ≤ 4611686018427387904
      omega
    · show -4611686018427387904 ≤ r * r + s * s ∧ r * r + s * s ≤ 4611686018427387904
      omega
    · show -4611686018427387904 ≤ (0:Int) ∧ (0:Int) ≤ 4611686018427387904; omega
    · show -4611686018427387904 ≤ (0:Int) ∧ (0:Int) ≤ 4611686018427387904; omega
  · have : j = 0 ∨ j = 1 ∨ j = 2 ∨ j = 3 ∨ j = 4 := by omega
    rcases this with rfl | rfl | rfl | rfl | rfl
    · rfl
    · rfl
    · rfl
    · rfl
    · rfl
theorem c_6_26 {x z : Int} (hx : -1152921504606846976 < x ∧ x < 1152921504606846976) (hz : -1152921504606846976 < z ∧ z < 1152921504606846976) (h : ∀ L', FrL [(27, 0, 5)] L L' → BgAt L' 27 (x * x + z * z) → Q (.inl none) (gE Lx) I L' e) :
    Wp 6 0 [(0, .ref 26), (1, .long (Int64.ofInt x)), (3, .long (Int64.ofInt z))] [] (gE Lx) I L e Q := by
  refine s_6_0_26 ?_
  simp only [neg64]
  refine i_lt64 (by omega) (by omega) (fun q1 => i_lt64 (by omega) (by omega) (fun q2 => n_6_26 (by omega) (by omega) (fun L2 hf hv => h L2 hf ?_)) (fun q2 => n_6_26 (by omega) (by omega) (fun L2 hf hv => h L2 hf ?_))) (fun q1 => i_lt64 (by omega) (by omega) (fun q2 => n_6_26 (by omega) (by omega) (fun L2 hf hv => h L2 hf ?_)) (fun q2 => n_6_26 (by omega) (by omega) (fun L2 hf hv => h L2 hf hv)))
  · rw [Int.neg_mul_neg, Int.neg_mul_neg] at hv; exact hv
  · rw [Int.neg_mul_neg] at hv; exact hv
  · rw [Int.neg_mul_neg] at hv; exact hv
theorem l_9 {a b : Int} (ha : BgAt L 25 a) (hb : BgAt L 27 b) (h : Q (.inl (some (.int (Int32.ofInt (sg (a - b)))))) (gE Lx) I L e) : ∀ (i : Nat), i ≤ 5 → (i < 5 → lv a i = lv b i) → Wp 9 2 [(0, .ref 24), (1, .ref 26), (2, .int (Int32.ofInt ((i : Int) - 1)))] [] (gE Lx) I L e Q := by
  intro i
  induction i with
  | zero =>
    intro _ hq
    have : a = b := hq (by omega)
    rw [show a - b = 0 by omega] at h
    exact s_9_2 (i_ltz (by omega) (fun _ => h) (fun w => by omega))
  | succ i ih =>
    intro hi hq
    obtain ⟨x, hx, xb, x1, x2⟩ := ha.a5 (i := i) (by omega)
    obtain ⟨y, hy, yb, y1, y2⟩ := hb.a5 (i := i) (by omega)
    have same : (x < y ↔ lv a i < lv b i) ∧ (x = y ↔ lv a i = lv b i) := by
      by_cases q : i < 4
      · have := x1 q
        have := y1 q
        have := hq (by omega)
        omega
      · have : i = 4 := by omega
        subst this
        have := x2 rfl
        have := y2 rfl
        omega
    have e1 : ((i + 1 : Nat) : Int) - 1 = (i : Int) := by omega
    rw [e1]
    refine s_9_2 ?_
    rw [tncn (k := i) (by omega), hx, hy, add32]
    refine i_ltz (by omega) (fun _ => by omega) (fun _ => i_inb (by omega) (by omega) (i_inb (by omega) (by omega) (i_eq64 (by omega) (by omega) (fun q => ?_) (fun q => i_inb (by omega) (by omega) (i_inb (by omega) (by omega) (i_lt64 (by omega) (by omega) (fun w => ?_) (fun w => ?_)))))))
    · exact ih (by omega) (fun _ => same.2.mp q)
    · have := lvlt i (same.1.mp w)
      rw [sg_n (by omega)] at h
      exact h
    · have : lv b i < lv a i := by omega
      have := lvlt i this
      rw [sg_p (by omega)] at h
      exact h
theorem c_9 {a b : Int} (ha : BgAt L 25 a) (hb : BgAt L 27 b) (h : Q (.inl (some (.int (Int32.ofInt (sg (a - b)))))) (gE Lx) I L e) : Wp 9 0 [(0, .ref 24), (1, .ref 26)] [] (gE Lx) I L e Q :=
  s_9_0 (l_9 ha hb h 5 (by omega) (fun w => by omega))
theorem l_10 {L0 : Ml} {a b : Int} (ha : BgAt L0 25 a) (hb : BgAt L0 27 b) (hle : b ≤ a) (h : ∀ L', FrL [(25, 0, 5)] L0 L' → BgAt L' 25 (a - b) → Q (.inl none) (gE Lx) I L' e) :
    ∀ (s i : Nat), i + s = 5 → ∀ (L : Ml), FrL [(25, 0, 5)] L0 L → (∀ j x y, j < i → L0 25 j = .ofInt x → L0 27 j = .ofInt y → L 25 j = .ofInt (x - y)) → (∀ j, i ≤ j → L 25 j = L0 25 j) →
    Wp 10 2 [(0, .ref 24), (1, .ref 26), (2, .int (Int32.ofInt i))] [] (gE Lx) I L e Q := by
  intro s
  induction s with
  | zero =>
    intro i hi L hf h1 h2
    have : i = 5 := by omega
    subst this
    have d (v : Int) (i : Nat) : (if i < 4 then lv v i % 1073741824 else lv v 4) = if i < 4 then lv v i % 1073741824 else lv v 4 := rfl
    have g : ∀ (v : Int) (r j : Nat), BgAt L0 r v → j < 5 → L0 r j = .ofInt (if j < 4 then lv v j % 1073741824 else lv v 4) := fun v r j hv hj => by
      split
      · exact hv.2.1 j (by assumption)
      · have : j = 4 := by omega
        rw [this]
        exact hv.2.2
    have gb : ∀ (v : Int) (r j : Nat), BgAt L0 r v → 0 ≤ (if j < 4 then lv v j % 1073741824 else lv v 4) ∧ (if j < 4 then lv v j % 1073741824 else lv v 4) < 1073741824 := fun v r j hv => by
      split
      · omega
      · exact lv_4 hv.1
    have a1 := ha.1
    have b1 := hb.1
    refine s_10_2 (i_lt32 (by omega) (by omega) (fun _ => by omega) (fun _ => ?_))
    refine c_7_24 (t := fun i => (if i < 4 then lv a i % 1073741824 else lv a 4) - (if i < 4 then lv b i % 1073741824 else lv b 4)) (S := fun i => lv a i - lv b i) (V := a - b) (fun i hi => ?_) rfl rfl (by omega) (fun i hi => ?_) (fun j hj => ?_) (fun L2 hf2 hv2 => kcp_v rfl (s_10_32 (h L2 (FrL.tr hf hf2 rfl rfl) hv2)))
    · rw [if_pos hi, if_pos hi]
      have := lv_e (v := a) (i := i)
      have := lv_e (v := b) (i := i)
      omega
    · have := gb a 25 i ha
      have := gb b 27 i hb
      omega
    · exact h1 j _ _ hj (g a 25 j ha hj) (g b 27 j hb hj)
  | succ s ih =>
    intro i hi L hf h1 h2
    have ins : ∀ j, j < 5 → inS [(25, 0, 5)] 25 j = true := by decide
    have h27 : L 27 = L0 27 := hf.at rfl
    obtain ⟨x, hx, xb, -⟩ := ha.a5 (i := i) (by omega)
    obtain ⟨y, hy, yb, -⟩ := hb.a5 (i := i) (by omega)
    refine s_10_2 ?_
    rw [tncn (k := i) (by omega), h2 i (Nat.le_refl _), h27, hx, hy, sub64, add32]
    refine i_lt32 (by omega) (by omega) (fun _ => i_inb (by omega) (by omega) (i_inb (by omega) (by omega) (i_inb (by omega) (by omega) ?_))) (fun _ => by omega)
    refine ih (i + 1) (by omega) _ (FrL.wu hf (ins i (by omega))) (fun j x2 y2 hj hx2 hy2 => ?_) (fun j hj => ?_)
    · by_cases q : j = i
      · rw [q, l_at]
        rw [q, hx] at hx2
        rw [q, hy] at hy2
        rw [← sub64, hx2, hy2, sub64]
      · rw [l_ne q]
        exact h1 j x2 y2 (by omega) hx2 hy2
    · rw [l_ne (by omega)]
      exact h2 j (by omega)
theorem c_10 {a b : Int} (ha : BgAt L 25 a) (hb : BgAt L 27 b) (hle : b ≤ a) (h : ∀ L', FrL [(25, 0, 5)] L L' → BgAt L' 25 (a - b) → Q (.inl none) (gE Lx) I L' e) : Wp 10 0 [(0, .ref 24), (1, .ref 26)] [] (gE Lx) I L e Q :=
  s_10_0 (l_10 ha hb hle h 5 0 (by omega) L FrL.rf (fun j x y hj => by omega) (fun j _ => rfl))
def bgF : Fr := [(25, 0, 5), (27, 0, 5)]
/-- waves that are not too large -/
def BW (w : Wv) : Prop := WB 500000000000000000 w
theorem sqB {x z : Int} (hx : -1000000000000000000 ≤ x ∧ x ≤ 1000000000000000000) (hz : -1000000000000000000 ≤ z ∧ z ≤ 1000000000000000000) : 0 ≤ x * x + z * z ∧ x * x + z * z ≤ 2000000000000000000000000000000000000 := by
  have m1 := mulB hx hx
  have m2 := mulB hz hz
  have := sq_nn x
  have := sq_nn z
  omega
theorem ebw {w : Wv} (h : BW w) : (0 ≤ eUp w ∧ eUp w ≤ 2000000000000000000000000000000000000) ∧ (0 ≤ eLo w ∧ eLo w ≤ 2000000000000000000000000000000000000) := by
  obtain ⟨b0, b1, b2, b3⟩ := h
  exact ⟨sqB (x := w.1 - w.2.2.1) (z := w.2.1 - w.2.2.2) (by omega) (by omega), sqB (x := w.1 + w.2.2.1) (z := w.2.1 + w.2.2.2) (by omega) (by omega)⟩
/-- the echo's numbers -/
theorem c_99 {w : Wv} (hW : WvAt L 14 w) (hB : BW w) (h : ∀ L', FrL bgF L L' → BgAt L' 25 (eUp w) → BgAt L' 27 (eLo w) → Q (.inl none) (gE Lx) I L' e) : Wp 99 0 [(0, .ref 1)] [] (gE Lx) I L e Q := by
  obtain ⟨w0, w1, w2, w3⟩ := hW
  obtain ⟨b0, b1, b2, b3⟩ := hB
  refine s_99_0 ?_
  rw [w0, w1, w2, w3, sub64, sub64]
  refine c_6_24 (by omega) (by omega) (fun L1 hf1 v1 => kcp_v rfl (s_99_37 ?_))
  rw [show L1 14 = L 14 from hf1.at rfl, w0, w1, w2, w3, add64, add64]
  refine c_6_26 (by omega) (by omega) (fun L2 hf2 v2 => kcp_v rfl (s_99_74 ?_))
  exact h L2 (FrL.tr (S := bgF) hf1 hf2 rfl rfl) (v1.cg (hf2.at rfl)) v2
end
