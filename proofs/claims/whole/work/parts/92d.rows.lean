/-! Numbers beyond a long: the other side's rows of twenty bits. -/
theorem s20 : ((Int32.ofInt 20).toInt64 &&& 63) = Int64.ofInt ((20 : Nat) : Int) := by decide
theorem sh20 {y : Int} (h : -9223372036854775808 ≤ y ∧ y ≤ 9223372036854775807) : Int64.ofInt y >>> ((Int32.ofInt 20).toInt64 &&& 63) = Int64.ofInt (y / 1048576) := by
  rw [s20]
  exact sh64 (k := 20) h (by decide)
theorem an20 {y : Int} (h : -9223372036854775808 ≤ y ∧ y ≤ 9223372036854775807) : Int64.ofInt y &&& Int64.ofInt 1048575 = Int64.ofInt (y % 1048576) := an64 (k := 20) h (by decide)
def lw (v : Int) : Nat → Int
  | 0 => v
  | i + 1 => lw v i / 1048576
theorem lw_s {v : Int} {i : Nat} : lw v (i + 1) = lw v i / 1048576 := rfl
theorem lw_e {v : Int} {i : Nat} : lw v i = lw v i % 1048576 + 1048576 * lw v (i + 1) := by rw [lw_s]; omega
theorem lw_n {v : Int} : ∀ i, lw v i < 0 ↔ v < 0 := by
  intro i
  induction i with
  | zero => exact Iff.rfl
  | succ i ih => rw [lw_s, ← ih]; omega
abbrev RB (v : Int) : Prop := -1461501637330902918203684832716283019655932542976 ≤ v ∧ v < 1461501637330902918203684832716283019655932542976
theorem lw_13 {v : Int} (h : RB v) : -1 ≤ lw v 13 ∧ lw v 13 ≤ 0 := by
  have h0 : lw v 0 = v := rfl
  have s : ∀ i, lw v (i + 1) = lw v i / 1048576 := fun i => rfl
  have h1 : -1393796574908163946345982392040522594123776 ≤ lw v 1 ∧ lw v 1 < 1393796574908163946345982392040522594123776 := by rw [s, h0]; omega
  have h2 : -1329227995784915872903807060280344576 ≤ lw v 2 ∧ lw v 2 < 1329227995784915872903807060280344576 := by rw [s]; omega
  have h3 : -1267650600228229401496703205376 ≤ lw v 3 ∧ lw v 3 < 1267650600228229401496703205376 := by rw [s]; omega
  have h4 : -1208925819614629174706176 ≤ lw v 4 ∧ lw v 4 < 1208925819614629174706176 := by rw [s]; omega
  have h5 : -1152921504606846976 ≤ lw v 5 ∧ lw v 5 < 1152921504606846976 := by rw [s]; omega
  have h6 : -1099511627776 ≤ lw v 6 ∧ lw v 6 < 1099511627776 := by rw [s]; omega
  have h7 : -1048576 ≤ lw v 7 ∧ lw v 7 < 1048576 := by rw [s]; omega
  have h8 : -1 ≤ lw v 8 ∧ lw v 8 ≤ 0 := by rw [s]; omega
  have h9 : -1 ≤ lw v 9 ∧ lw v 9 ≤ 0 := by rw [s]; omega
  have h10 : -1 ≤ lw v 10 ∧ lw v 10 ≤ 0 := by rw [s]; omega
  have h11 : -1 ≤ lw v 11 ∧ lw v 11 ≤ 0 := by rw [s]; omega
  have h12 : -1 ≤ lw v 12 ∧ lw v 12 ≤ 0 := by rw [s]; omega
  rw [s]; omega
def RwAt (L : Ml) (r : Nat) (v : Int) : Prop := RB v ∧ (∀ i, i < 13 → L 65 (14 * r + i) = .ofInt (lw v i % 1048576)) ∧ L 65 (14 * r + 13) = .ofInt (lw v 13)
theorem RwAt.cg {L L' : Ml} {r : Nat} {v : Int} (h : RwAt L r v) (e : L' 65 = L 65) : RwAt L' r v := by unfold RwAt; rw [e]; exact h
theorem rwi : ∀ d, d < 11 → ∀ j, j < 14 → inS [(65, 14 * d, 14)] 65 (14 * d + j) = true := by decide +kernel
theorem rwo : ∀ d, d < 11 → ∀ r, r < 11 → ∀ j, j < 14 → decide (r ≠ d) = true → inS [(65, 14 * d, 14)] 65 (14 * r + j) = false := by decide +kernel
theorem RwAt.fr {L L' : Ml} {r d : Nat} {v : Int} (h : RwAt L r v) (hf : FrL [(65, 14 * d, 14)] L L') (hr : r < 11) (hd : d < 11) (hne : r ≠ d) : RwAt L' r v :=
  ⟨h.1, fun i hi => by rw [hf _ _ (rwo d hd r hr i (by omega) (decide_eq_true hne))]; exact h.2.1 i hi, by rw [hf _ _ (rwo d hd r hr 13 (by omega) (decide_eq_true hne))]; exact h.2.2⟩
theorem RwAt.a {L : Ml} {r : Nat} {v : Int} (h : RwAt L r v) {i : Nat} (hi : i < 14) : ∃ x, L 65 (14 * r + i) = .ofInt x ∧ (-1 ≤ x ∧ x < 1048576) ∧ (i < 13 → x = lw v i % 1048576 ∧ lw v i = x + 1048576 * lw v (i + 1)) ∧ (i = 13 → x = lw v 13) := by
  by_cases q : i < 13
  · exact ⟨_, h.2.1 i q, by omega, fun _ => ⟨rfl, lw_e⟩, fun w => by omega⟩
  · have : i = 13 := by omega
    subst this
    have := lw_13 h.1
    exact ⟨_, h.2.2, by omega, fun w => absurd w q, fun _ => rfl⟩
theorem ix (r j : Nat) : Int32.ofInt 14 * Int32.ofInt (r : Int) + Int32.ofInt (j : Int) = Int32.ofInt ((14 * r + j : Nat) : Int) := by
  rw [mul32, add32]
  congr 1
section
variable {Lx : Nat} {I : Mi} {L : Ml} {e : Nat} {Q : Kq}
theorem l_340 {d : Nat} (hd : d < 11) {y : Int} (hy : R64 y) {L0 : Ml} (h : ∀ L', FrL [(65, 14 * d, 14)] L0 L' → RwAt L' d y → Q (.inl none) (gE Lx) I L' e) :
    ∀ (s i : Nat), i + s = 14 → ∀ (L : Ml) (z : Int), FrL [(65, 14 * d, 14)] L0 L → (i < 14 → z = lw y i) → R64 z → (∀ j, j < i → j < 13 → L 65 (14 * d + j) = .ofInt (lw y j % 1048576)) → (13 < i → L 65 (14 * d + 13) = .ofInt (lw y 13)) →
    Wp 340 6 [(0, .ref 58), (1, .int (Int32.ofInt d)), (4, .long (Int64.ofInt z)), (6, .int (Int32.ofInt i))] [] (gE Lx) I L e Q := by
  have hRB : RB y := by unfold RB; omega
  intro s
  induction s with
  | zero =>
    intro i hi L z hf hz hzb h1 h2
    have : i = 14 := by omega
    subst this
    exact s_340_6 (i_lt32 (by omega) (by omega) (fun _ => by omega) (fun _ => h L hf ⟨hRB, fun j hj => h1 j (by omega) hj, h2 (by omega)⟩))
  | succ s ih =>
    intro i hi L z hf hz hzb h1 h2
    have hz := hz (by omega)
    refine s_340_6 ?_
    rw [ix, tncn (k := 14 * d + i) (by omega), add32, sh20 hzb, an20 hzb]
    refine i_lt32 (by omega) (by omega) (fun _ => i_lt32 (by omega) (by omega) (fun q => i_inb (by omega) (by omega) ?_) (fun q => i_inb (by omega) (by omega) ?_)) (fun _ => by omega)
    · have := ih (i + 1) (by omega) _ (z / 1048576) (FrL.wu hf (x := Int64.ofInt (z % 1048576)) (rwi d hd i (by omega))) (fun _ => by rw [lw_s, hz]) (by omega) (fun j hj hj2 => by
        by_cases w : j = i
        · rw [w, l_at, hz]
        · rw [l_ne (by omega)]
          exact h1 j (by omega) hj2) (fun w => by omega)
      exact this
    · have : i = 13 := by omega
      subst this
      have := ih 14 (by omega) _ (z / 1048576) (FrL.wu hf (x := Int64.ofInt z) (rwi d hd 13 (by omega))) (fun _ => by omega) (by omega) (fun j hj hj2 => by
        rw [l_ne (by omega)]
        exact h1 j (by omega) hj2) (fun _ => by rw [l_at, hz])
      exact this
theorem c_340 {d : Nat} (hd : d < 11) {y : Int} (hy : R64 y) (h : ∀ L', FrL [(65, 14 * d, 14)] L L' → RwAt L' d y → Q (.inl none) (gE Lx) I L' e) :
    Wp 340 0 [(0, .ref 58), (1, .int (Int32.ofInt d)), (2, .long (Int64.ofInt y))] [] (gE Lx) I L e Q :=
  s_340_0 (l_340 hd hy h 14 0 (by omega) L y FrL.rf (fun _ => rfl) hy (fun j hj => by omega) (fun w => by omega))
theorem mB6 {x m : Int} (hx : -1 ≤ x ∧ x < 1048576) (hm : -1000000 ≤ m ∧ m ≤ 1000000) : -1048576000000 ≤ x * m ∧ x * m ≤ 1048576000000 := by
  have := mulB (x := x) (y := m) (A := 1048576) (B := 1000000) (by omega) hm
  omega
theorem l_342 {d a b : Nat} (hd : d < 11) (ha : a < 11) (hb : b < 11) {A B m n : Int} {L0 : Ml} (hA : RwAt L0 a A) (hB : RwAt L0 b B) (hm : -1000000 ≤ m ∧ m ≤ 1000000) (hn : -1000000 ≤ n ∧ n ≤ 1000000) (hV : RB (A * m + B * n)) (h : ∀ L', FrL [(65, 14 * d, 14)] L0 L' → RwAt L' d (A * m + B * n) → Q (.inl none) (gE Lx) I L' e) :
    ∀ (s i : Nat), i + s = 14 → ∀ (L : Ml) (c : Int), FrL [(65, 14 * d, 14)] L0 L → (-4000000 ≤ c ∧ c ≤ 4000000) → (i < 14 → lw (A * m + B * n) i = lw A i * m + lw B i * n + c) → (∀ r j, r < 11 → i ≤ j → j < 14 → L 65 (14 * r + j) = L0 65 (14 * r + j)) → (∀ j, j < i → j < 13 → L 65 (14 * d + j) = .ofInt (lw (A * m + B * n) j % 1048576)) → (13 < i → L 65 (14 * d + 13) = .ofInt (lw (A * m + B * n) 13)) →
    Wp 342 6 [(0, .ref 58), (1, .int (Int32.ofInt d)), (2, .int (Int32.ofInt a)), (3, .long (Int64.ofInt m)), (5, .int (Int32.ofInt b)), (6, .long (Int64.ofInt n)), (8, .long (Int64.ofInt c)), (10, .int (Int32.ofInt i))] [] (gE Lx) I L e Q := by
  generalize hVV : A * m + B * n = V at *
  intro s
  induction s with
  | zero =>
    intro i hi L c hf hc hv ho h1 h2
    have : i = 14 := by omega
    subst this
    exact s_342_6 (i_lt32 (by omega) (by omega) (fun _ => by omega) (fun _ => h L hf ⟨hV, fun j hj => h1 j (by omega) hj, h2 (by omega)⟩))
  | succ s ih =>
    intro i hi L c hf hc hv ho h1 h2
    obtain ⟨x, hx, xb, x1, x2⟩ := hA.a (i := i) (by omega)
    obtain ⟨z, hz, zb, z1, z2⟩ := hB.a (i := i) (by omega)
    have px := mB6 xb hm
    have pz := mB6 zb hn
    have hv := hv (by omega)
    refine s_342_6 ?_
    rw [ix, ix, ix, tncn (k := 14 * a + i) (by omega), tncn (k := 14 * b + i) (by omega), tncn (k := 14 * d + i) (by omega), ho a i ha (Nat.le_refl _) (by omega), ho b i hb (Nat.le_refl _) (by omega), hx, hz, mul64, mul64, add64, add64, sh20 (by omega), an20 (by omega), add32]
    refine i_lt32 (by omega) (by omega) (fun _ => i_inb (by omega) (by omega) (i_inb (by omega) (by omega) (i_lt32 (by omega) (by omega) (fun q => i_inb (by omega) (by omega) ?_) (fun q => i_inb (by omega) (by omega) ?_)))) (fun _ => by omega)
    · obtain ⟨x3, x4⟩ := x1 (by omega)
      obtain ⟨z3, z4⟩ := z1 (by omega)
      have ev : lw V i = (x * m + z * n + c) + 1048576 * (lw A (i + 1) * m + lw B (i + 1) * n) := by
        rw [hv, x4, z4]
        grind
      have := ih (i + 1) (by omega) _ ((x * m + z * n + c) / 1048576) (FrL.wu hf (x := Int64.ofInt ((x * m + z * n + c) % 1048576)) (rwi d hd i (by omega))) (by omega) (fun _ => by rw [lw_s, ev]; omega) (fun r j hr hj hj2 => by rw [l_ne (by omega)]; exact ho r j hr (by omega) hj2) (fun j hj hj2 => by
        by_cases w : j = i
        · rw [w, l_at, ev]
          congr 1
          omega
        · rw [l_ne (by omega)]
          exact h1 j (by omega) hj2) (fun w => by omega)
      exact this
    · have : i = 13 := by omega
      subst this
      rw [← x2 rfl, ← z2 rfl] at hv
      have := ih 14 (by omega) _ ((x * m + z * n + c) / 1048576) (FrL.wu hf (x := Int64.ofInt (x * m + z * n + c)) (rwi d hd 13 (by omega))) (by omega) (fun w => by omega) (fun r j hr hj hj2 => by omega) (fun j hj hj2 => by
        rw [l_ne (by omega)]
        exact h1 j (by omega) hj2) (fun _ => by rw [l_at, hv])
      exact this
theorem c_342 {d a b : Nat} (hd : d < 11) (ha : a < 11) (hb : b < 11) {A B m n : Int} (hA : RwAt L a A) (hB : RwAt L b B) (hm : -1000000 ≤ m ∧ m ≤ 1000000) (hn : -1000000 ≤ n ∧ n ≤ 1000000) (hV : RB (A * m + B * n)) (h : ∀ L', FrL [(65, 14 * d, 14)] L L' → RwAt L' d (A * m + B * n) → Q (.inl none) (gE Lx) I L' e) :
    Wp 342 0 [(0, .ref 58), (1, .int (Int32.ofInt d)), (2, .int (Int32.ofInt a)), (3, .long (Int64.ofInt m)), (5, .int (Int32.ofInt b)), (6, .long (Int64.ofInt n))] [] (gE Lx) I L e Q :=
  s_342_0 (l_342 hd ha hb hA hB hm hn hV h 14 0 (by omega) L 0 FrL.rf (by omega) (fun _ => by rw [Int.add_zero]; rfl) (fun r j _ _ _ => rfl) (fun j hj => by omega) (fun w => by omega))
theorem l_345 {r : Nat} (hr : r < 11) {v : Int} (hv : RwAt L r v) (h0 : 0 ≤ v) (h : Q (.inl (some (.int (Int32.ofInt (sg v))))) (gE Lx) I L e) :
    ∀ (s i : Nat), i + s = 14 → (i < 14 → (v = 0 ↔ lw v i = 0)) → (13 < i → v = 0) → Wp 345 23 [(0, .ref 58), (1, .int (Int32.ofInt r)), (2, .int (Int32.ofInt i))] [] (gE Lx) I L e Q := by
  intro s
  induction s with
  | zero =>
    intro i hi h1 h2
    rw [sg_z (h2 (by omega))] at h
    exact s_345_23 (i_lt32 (by omega) (by omega) (fun _ => by omega) (fun _ => h))
  | succ s ih =>
    intro i hi h1 h2
    have h1 := h1 (by omega)
    obtain ⟨x, hx, xb, x1, x2⟩ := hv.a (i := i) (by omega)
    refine s_345_23 ?_
    rw [ix, tncn (k := 14 * r + i) (by omega), hx, add32]
    refine i_lt32 (by omega) (by omega) (fun _ => i_inb (by omega) (by omega) (i_eq64 (by omega) (by omega) (fun q => ?_) (fun q => ?_))) (fun _ => by omega)
    · have := ih (i + 1) (by omega) (fun w => by have := (x1 (by omega)).2; omega) (fun w => by
      have e1 : i = 13 := by omega
      have e2 := x2 e1
      rw [e1] at h1
      omega)
      exact this
    · have : v ≠ 0 := by
        intro w
        have w2 := h1.mp w
        by_cases z : i < 13
        · have := (x1 z).1
          rw [w2] at this
          omega
        · have : i = 13 := by omega
          subst this
          have := x2 rfl
          omega
      rw [sg_p (by omega)] at h
      exact h
theorem c_345 {r : Nat} (hr : r < 11) {v : Int} (hv : RwAt L r v) (h : Q (.inl (some (.int (Int32.ofInt (sg v))))) (gE Lx) I L e) : Wp 345 0 [(0, .ref 58), (1, .int (Int32.ofInt r))] [] (gE Lx) I L e Q := by
  have b := lw_13 hv.1
  have n := lw_n (v := v) 13
  have e1 : Int32.ofInt 14 * Int32.ofInt (r : Int) + Int32.ofInt 14 - Int32.ofInt 1 = Int32.ofInt ((14 * r + 13 : Nat) : Int) := by
    rw [mul32, add32, sub32]
    congr 1
    omega
  refine s_345_0 ?_
  rw [e1, tncn (k := 14 * r + 13) (by omega), hv.2.2]
  refine i_inb (by omega) (by omega) (i_lt64 (by omega) (by omega) (fun q => ?_) (fun q => ?_))
  · rw [sg_n (n.mp q)] at h
    exact h
  · exact l_345 hr hv (by omega) h 14 0 (by omega) (fun _ => Iff.rfl) (fun w => by omega)
theorem l_344 {a d : Nat} (ha : a < 11) (hd : d < 11) (hne : a ≠ d) {v : Int} {L0 : Ml} (hv : RwAt L0 a v) (h : ∀ L', FrL [(65, 14 * d, 14)] L0 L' → RwAt L' d v → Q (.inl none) (gE Lx) I L' e) :
    ∀ (s i : Nat), i + s = 14 → ∀ L : Ml, FrL [(65, 14 * d, 14)] L0 L → (∀ j, j < i → L 65 (14 * d + j) = L0 65 (14 * a + j)) →
    Wp 344 2 [(0, .ref 58), (1, .int (Int32.ofInt a)), (2, .int (Int32.ofInt d)), (3, .int (Int32.ofInt i))] [] (gE Lx) I L e Q := by
  intro s
  induction s with
  | zero =>
    intro i hi L hf h1
    have : i = 14 := by omega
    subst this
    exact s_344_2 (i_lt32 (by omega) (by omega) (fun _ => by omega) (fun _ => h L hf ⟨hv.1, fun j hj => (h1 j (by omega)).trans (hv.2.1 j hj), (h1 13 (by omega)).trans hv.2.2⟩))
  | succ s ih =>
    intro i hi L hf h1
    refine s_344_2 ?_
    rw [ix, ix, tncn (k := 14 * a + i) (by omega), tncn (k := 14 * d + i) (by omega), add32, hf _ _ (rwo d hd a ha i (by omega) (decide_eq_true hne))]
    refine i_lt32 (by omega) (by omega) (fun _ => i_inb (by omega) (by omega) (i_inb (by omega) (by omega) ?_)) (fun _ => by omega)
    have := ih (i + 1) (by omega) _ (FrL.wu hf (x := L0 65 (14 * a + i)) (rwi d hd i (by omega))) (fun j hj => by
      by_cases w : j = i
      · rw [w, l_at]
      · rw [l_ne (by omega)]
        exact h1 j (by omega))
    exact this
theorem c_344 {a d : Nat} (ha : a < 11) (hd : d < 11) (hne : a ≠ d) {v : Int} (hv : RwAt L a v) (h : ∀ L', FrL [(65, 14 * d, 14)] L L' → RwAt L' d v → Q (.inl none) (gE Lx) I L' e) :
    Wp 344 2 [(0, .ref 58), (1, .int (Int32.ofInt a)), (2, .int (Int32.ofInt d)), (3, .int (Int32.ofInt 0))] [] (gE Lx) I L e Q :=
  l_344 ha hd hne hv h 14 0 (by omega) L FrL.rf (fun j hj => by omega)
end
