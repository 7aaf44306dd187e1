/-! The heap behind the constructors; what is said of it; numbers. -/
def SHE (Lx : Nat) : Sh := (20, Lx) :: [(11, 19), (9, 2), (20, 184), (20, 184), (2, 7), (20, 4), (20, 4), (20, 4), (2, 7), (20, 4), (20, 4), (20, 4), (22, 4), (10, 4), (10, 4), (10, 4), (6, 3), (3, 2), (5, 10), (4, 8), (0, 7), (8, 2), (3, 2), (1, 1), (21, 5), (1, 1), (21, 5), (20, 4), (20, 4), (7, 4), (2, 7), (20, 4), (20, 4), (20, 4), (8, 2), (3, 2), (7, 4), (2, 7), (20, 4), (20, 4), (20, 4), (8, 2), (3, 2), (7, 4), (2, 7), (20, 4), (20, 4), (20, 4), (8, 2), (3, 2), (7, 4), (2, 7), (20, 4), (20, 4), (20, 4), (8, 2), (3, 2), (12, 44), (20, 16), (20, 68), (20, 184), (20, 184), (21, 8), (20, 16), (21, 154), (20, 4), (20, 4), (21, 4), (21, 4), (21, 1)]
def RTE : List (List Nat) := [[], [2, 5, 9, 13, 0, 0, 14, 15, 16, 17, 18, 19, 20, 21, 22, 24, 26, 28, 29], [3, 4], [], [], [0, 0, 0, 0, 6, 7, 8], [], [], [], [0, 0, 0, 0, 10, 11, 12], [], [], [], [30, 37, 44, 51], [], [], [], [], [], [], [], [], [0, 23], [], [25], [], [27], [], [], [], [0, 31, 0, 35], [0, 0, 0, 0, 32, 33, 34], [], [], [], [0, 36], [], [0, 38, 0, 42], [0, 0, 0, 0, 39, 40, 41], [], [], [], [0, 43], [], [0, 45, 0, 49], [0, 0, 0, 0, 46, 47, 48], [], [], [], [0, 50], [], [0, 52, 0, 56], [0, 0, 0, 0, 53, 54, 55], [], [], [], [0, 57], [], [0, 59, 60, 0, 0, 61, 62, 0, 0, 0, 0, 0, 0, 0, 0, 0, 0, 0, 0, 0, 0, 0, 0, 0, 0, 0, 0, 0, 0, 0, 0, 63, 0, 0, 0, 0, 0, 64, 65, 0, 66, 67, 68, 69], [], [], [], [], [], [], [], [], [], [], [], []]
def mrE : Mr := fun a b => match (RTE.getD a []).getD b 0 with | 0 => none | n + 1 => some (n + 1)
def gE (Lx : Nat) : GS := (71, 1296, SHE Lx, mrE)
theorem kcp_v {mi pc sp : Nat} {ls : Lv} {n : Nat} {r : List Value} {Q : Kq} {v : Option Value} {g : GS} {I : Mi} {L : Ml} {e : Nat} (h1 : (Nat.beq sp 1 || Nat.beq g.1 n) = true) (h : Wp mi (pc + 3) ls (v.toList ++ r) g I L e Q) : kcp (Wp mi) mi pc sp ls n r Q (.inl v) g I L e := by
  show cond (Nat.beq sp 1 || Nat.beq g.1 n) _ _
  rw [h1]
  exact h
theorem kcp_x {mi pc sp : Nat} {ls : Lv} {n : Nat} {r : List Value} {Q : Kq} {x : Nat} {g : GS} {I : Mi} {L : Ml} {e : Nat} (h1 : hnd mi x = none) (h : Q (.inr x) g I L e) : kcp (Wp mi) mi pc sp ls n r Q (.inr x) g I L e := by
  show match hnd mi x with | some (some c) => Q (.inl (some (.int c))) g I L e | some none => False | none => Q (.inr x) g I L e
  rw [h1]
  exact h
theorem kcp_h {mi pc sp : Nat} {ls : Lv} {n : Nat} {r : List Value} {Q : Kq} {x : Nat} {c : Int32} {g : GS} {I : Mi} {L : Ml} {e : Nat} (h1 : hnd mi x = some (some c)) (h : Q (.inl (some (.int c))) g I L e) : kcp (Wp mi) mi pc sp ls n r Q (.inr x) g I L e := by
  show match hnd mi x with | some (some c) => Q (.inl (some (.int c))) g I L e | some none => False | none => Q (.inr x) g I L e
  rw [h1]
  exact h
abbrev R32 (x : Int) : Prop := -2147483648 ≤ x ∧ x ≤ 2147483647
abbrev R64 (x : Int) : Prop := -9223372036854775808 ≤ x ∧ x ≤ 9223372036854775807
theorem ti32 {x : Int} (h : R32 x) : (Int32.ofInt x).toInt = x := Int32.toInt_ofInt_of_le (by omega) (by omega)
theorem ti64 {x : Int} (h : R64 x) : (Int64.ofInt x).toInt = x := Int64.toInt_ofInt_of_le (by omega) (by omega)
theorem lt32 {x y : Int} (hx : R32 x) (hy : R32 y) : Int32.ofInt x < Int32.ofInt y ↔ x < y := by rw [Int32.lt_iff_toInt_lt, ti32 hx, ti32 hy]
theorem lt64 {x y : Int} (hx : R64 x) (hy : R64 y) : Int64.ofInt x < Int64.ofInt y ↔ x < y := by rw [Int64.lt_iff_toInt_lt, ti64 hx, ti64 hy]
theorem eq32 {x y : Int} (hx : R32 x) (hy : R32 y) : Int32.ofInt x = Int32.ofInt y ↔ x = y := by rw [← Int32.toInt_inj, ti32 hx, ti32 hy]
theorem eq64 {x y : Int} (hx : R64 x) (hy : R64 y) : Int64.ofInt x = Int64.ofInt y ↔ x = y := by rw [← Int64.toInt_inj, ti64 hx, ti64 hy]
theorem z32 : (0 : Int32) = Int32.ofInt 0 := rfl
theorem z64 : (0 : Int64) = Int64.ofInt 0 := rfl
section
variable {A B : Prop} {x y : Int}
theorem i_lt32 (hx : R32 x) (hy : R32 y) (h1 : x < y → A) (h2 : y ≤ x → B) : if Int32.ofInt x < Int32.ofInt y then A else B := by
  split
  · next h => exact h1 ((lt32 hx hy).mp h)
  · next h => exact h2 (Int.not_lt.mp (fun k => h ((lt32 hx hy).mpr k)))
theorem i_lt64 (hx : R64 x) (hy : R64 y) (h1 : x < y → A) (h2 : y ≤ x → B) : if Int64.ofInt x < Int64.ofInt y then A else B := by
  split
  · next h => exact h1 ((lt64 hx hy).mp h)
  · next h => exact h2 (Int.not_lt.mp (fun k => h ((lt64 hx hy).mpr k)))
theorem i_eq32 (hx : R32 x) (hy : R32 y) (h1 : x = y → A) (h2 : x ≠ y → B) : if Int32.ofInt x = Int32.ofInt y then A else B := by
  split
  · next h => exact h1 ((eq32 hx hy).mp h)
  · next h => exact h2 (fun k => h ((eq32 hx hy).mpr k))
theorem i_eq64 (hx : R64 x) (hy : R64 y) (h1 : x = y → A) (h2 : x ≠ y → B) : if Int64.ofInt x = Int64.ofInt y then A else B := by
  split
  · next h => exact h1 ((eq64 hx hy).mp h)
  · next h => exact h2 (fun k => h ((eq64 hx hy).mpr k))
theorem i_ltz (hx : R32 x) (h1 : x < 0 → A) (h2 : 0 ≤ x → B) : if Int32.ofInt x < 0 then A else B := by rw [z32]; exact i_lt32 hx (by omega) h1 h2
theorem i_zlt (hx : R32 x) (h1 : 0 < x → A) (h2 : x ≤ 0 → B) : if 0 < Int32.ofInt x then A else B := by rw [z32]; exact i_lt32 (by omega) hx h1 h2
theorem i_eqz (hx : R32 x) (h1 : x = 0 → A) (h2 : x ≠ 0 → B) : if Int32.ofInt x = 0 then A else B := by rw [z32]; exact i_eq32 hx (by omega) h1 h2
theorem tnc (h : R32 x) : (Int32.ofInt x).toNatClampNeg = x.toNat := Int32.toNatClampNeg_ofInt_of_le (by omega) (by omega)
theorem tncn {k : Nat} (h : k ≤ 2147483647) : (Int32.ofInt (k : Int)).toNatClampNeg = k := by rw [tnc (by omega)]; rfl
theorem i_inb {k n : Nat} (hk : k ≤ 2147483647) (hn : k < n) (h : A) : inb (Int32.ofInt (k : Int)) n A B := by
  unfold inb
  rw [if_neg (by rw [z32, lt32 (by omega) (by omega)]; omega), tncn hk, if_pos hn]
  exact h
theorem i2l (h : R32 x) : (Int32.ofInt x).toInt64 = Int64.ofInt x := by
  have h1 : Int32.minValue.toInt = -2147483648 := by decide
  have h2 : Int32.maxValue.toInt = 2147483647 := by decide
  exact Int32.toInt64_ofInt (by omega) (by omega)
theorem l2i : (Int64.ofInt x).toInt32 = Int32.ofInt x := Int64.toInt32_ofInt
theorem dv64 (hx : R64 x) (hy : R64 y) (h : x ≠ -9223372036854775808 ∨ y ≠ -1) : Int64.ofInt x / Int64.ofInt y = Int64.ofInt (x.tdiv y) := by
  apply Int64.toInt_inj.mp
  have h1 : (Int64.ofInt x / Int64.ofInt y).toInt = x.tdiv y := by
    rcases h with h | h
    · rw [Int64.toInt_div_of_ne_left _ _ (fun k => h (by rw [← ti64 hx, k]; decide)), ti64 hx, ti64 hy]
    · rw [Int64.toInt_div_of_ne_right _ _ (fun k => h (by rw [← ti64 hy, k]; decide)), ti64 hx, ti64 hy]
  rw [h1, ti64]
  rw [← h1]
  have := (Int64.ofInt x / Int64.ofInt y).le_toInt
  have := (Int64.ofInt x / Int64.ofInt y).toInt_lt
  omega
theorem dv32 (hx : R32 x) (hy : R32 y) (h : x ≠ -2147483648 ∨ y ≠ -1) : Int32.ofInt x / Int32.ofInt y = Int32.ofInt (x.tdiv y) := by
  apply Int32.toInt_inj.mp
  have h1 : (Int32.ofInt x / Int32.ofInt y).toInt = x.tdiv y := by
    rcases h with h | h
    · rw [Int32.toInt_div_of_ne_left _ _ (fun k => h (by rw [← ti32 hx, k]; decide)), ti32 hx, ti32 hy]
    · rw [Int32.toInt_div_of_ne_right _ _ (fun k => h (by rw [← ti32 hy, k]; decide)), ti32 hx, ti32 hy]
  rw [h1, ti32]
  rw [← h1]
  have := (Int32.ofInt x / Int32.ofInt y).le_toInt
  have := (Int32.ofInt x / Int32.ofInt y).toInt_lt
  omega
theorem add64 : Int64.ofInt x + Int64.ofInt y = Int64.ofInt (x + y) := (Int64.ofInt_add ..).symm
theorem sub64 : Int64.ofInt x - Int64.ofInt y = Int64.ofInt (x - y) := (Int64.ofInt_sub ..).symm
theorem mul64 : Int64.ofInt x * Int64.ofInt y = Int64.ofInt (x * y) := (Int64.ofInt_mul ..).symm
theorem neg64 : -Int64.ofInt x = Int64.ofInt (-x) := (Int64.ofInt_neg ..).symm
theorem add32 : Int32.ofInt x + Int32.ofInt y = Int32.ofInt (x + y) := (Int32.ofInt_add ..).symm
theorem sub32 : Int32.ofInt x - Int32.ofInt y = Int32.ofInt (x - y) := (Int32.ofInt_sub ..).symm
theorem mul32 : Int32.ofInt x * Int32.ofInt y = Int32.ofInt (x * y) := (Int32.ofInt_mul ..).symm
theorem neg32 : -Int32.ofInt x = Int32.ofInt (-x) := (Int32.ofInt_neg ..).symm
end
/-! Frames: what a piece writes, as rows (cell, first place, how many; 0: all). -/
abbrev Fr : Type := List (Nat × Nat × Nat)
noncomputable def inS (S : Fr) (k j : Nat) : Bool := List.rec false (fun q _ ih => cond (Nat.beq q.1 k) (cond (Nat.beq q.2.2 0) true (cond (Nat.ble q.2.1 j && Nat.blt j (q.2.1 + q.2.2)) true ih)) ih) S
noncomputable def coS (S : Fr) (r : Nat × Nat × Nat) : Bool := List.rec false (fun q _ ih => cond (Nat.beq q.1 r.1) (cond (Nat.beq q.2.2 0) true (cond (Nat.ble q.2.1 r.2.1 && (Nat.ble (r.2.1 + r.2.2) (q.2.1 + q.2.2) && Nat.blt 0 r.2.2)) true ih)) ih) S
noncomputable def suS (A S : Fr) : Bool := List.rec true (fun r _ ih => cond (coS S r) ih false) A
noncomputable def avS (S : Fr) (k : Nat) : Bool := List.rec true (fun q _ ih => cond (Nat.beq q.1 k) false ih) S
def FrI (S : Fr) (I I' : Mi) : Prop := ∀ k j, inS S k j = false → I' k j = I k j
def FrL (S : Fr) (L L' : Ml) : Prop := ∀ k j, inS S k j = false → L' k j = L k j
theorem inS_co {S : Fr} {r : Nat × Nat × Nat} {j : Nat} (h : coS S r = true) (h2 : r.2.2 = 0 ∨ (r.2.1 ≤ j ∧ j < r.2.1 + r.2.2)) : inS S r.1 j = true := by
  induction S with
  | nil => cases h
  | cons q S ih =>
    change cond (Nat.beq q.1 r.1) (cond (Nat.beq q.2.2 0) true (cond (Nat.ble q.2.1 r.2.1 && (Nat.ble (r.2.1 + r.2.2) (q.2.1 + q.2.2) && Nat.blt 0 r.2.2)) true (coS S r))) (coS S r) = true at h
    show cond (Nat.beq q.1 r.1) (cond (Nat.beq q.2.2 0) true (cond (Nat.ble q.2.1 j && Nat.blt j (q.2.1 + q.2.2)) true (inS S r.1 j))) (inS S r.1 j) = true
    cases h1 : Nat.beq q.1 r.1 with
    | false => rw [h1] at h; exact ih h
    | true =>
      rw [h1] at h
      cases h3 : Nat.beq q.2.2 0 with
      | true => rfl
      | false =>
        rw [h3] at h
        simp only [cond_true, cond_false] at h ⊢
        cases h4 : (Nat.ble q.2.1 r.2.1 && (Nat.ble (r.2.1 + r.2.2) (q.2.1 + q.2.2) && Nat.blt 0 r.2.2)) with
        | true =>
          simp only [Bool.and_eq_true] at h4
          have a1 := Nat.le_of_ble_eq_true h4.1
          have a2 := Nat.le_of_ble_eq_true h4.2.1
          have a3 : 0 < r.2.2 := Nat.le_of_ble_eq_true h4.2.2
          have b1 : Nat.ble q.2.1 j = true := Nat.ble_eq_true_of_le (by omega)
          have b2 : Nat.blt j (q.2.1 + q.2.2) = true := Nat.ble_eq_true_of_le (by omega)
          rw [b1, b2]
          rfl
        | false =>
          rw [h4] at h
          rw [ih h]
          cases (Nat.ble q.2.1 j && Nat.blt j (q.2.1 + q.2.2)) <;> rfl
theorem suS_in {A S : Fr} (h : suS A S = true) {k j : Nat} (h2 : inS A k j = true) : inS S k j = true := by
  induction A with
  | nil => cases h2
  | cons r A ih =>
    change cond (coS S r) (suS A S) false = true at h
    change cond (Nat.beq r.1 k) (cond (Nat.beq r.2.2 0) true (cond (Nat.ble r.2.1 j && Nat.blt j (r.2.1 + r.2.2)) true (inS A k j))) (inS A k j) = true at h2
    cases hc : coS S r with
    | false => rw [hc] at h; cases h
    | true =>
      rw [hc] at h
      have ih := ih h
      cases h1 : Nat.beq r.1 k with
      | false => rw [h1] at h2; exact ih h2
      | true =>
        have := Nat.eq_of_beq_eq_true h1
        subst this
        rw [h1] at h2
        cases h3 : Nat.beq r.2.2 0 with
        | true => exact inS_co hc (Or.inl (Nat.eq_of_beq_eq_true h3))
        | false =>
          rw [h3] at h2
          simp only [cond_true, cond_false] at h2
          cases h4 : (Nat.ble r.2.1 j && Nat.blt j (r.2.1 + r.2.2)) with
          | true =>
            simp only [Bool.and_eq_true] at h4
            exact inS_co hc (Or.inr ⟨Nat.le_of_ble_eq_true h4.1, Nat.le_of_ble_eq_true h4.2⟩)
          | false => rw [h4] at h2; exact ih h2
theorem suS_no {A S : Fr} (h : suS A S = true) {k j : Nat} (h2 : inS S k j = false) : inS A k j = false := by
  cases hc : inS A k j with
  | false => rfl
  | true => rw [suS_in h hc] at h2; cases h2
theorem avS_in {S : Fr} {k : Nat} (h : avS S k = true) (j : Nat) : inS S k j = false := by
  induction S with
  | nil => rfl
  | cons q S ih =>
    change cond (Nat.beq q.1 k) false (avS S k) = true at h
    show cond (Nat.beq q.1 k) _ (inS S k j) = false
    cases hc : Nat.beq q.1 k with
    | true => rw [hc] at h; cases h
    | false => rw [hc] at h; exact ih h
theorem FrI.rf {S I} : FrI S I I := fun _ _ _ => rfl
theorem FrL.rf {S L} : FrL S L L := fun _ _ _ => rfl
theorem FrI.tr {A B S : Fr} {I I1 I2 : Mi} (h1 : FrI A I I1) (h2 : FrI B I1 I2) (a : suS A S = true) (b : suS B S = true) : FrI S I I2 := fun k j h => (h2 k j (suS_no b h)).trans (h1 k j (suS_no a h))
theorem FrL.tr {A B S : Fr} {L L1 L2 : Ml} (h1 : FrL A L L1) (h2 : FrL B L1 L2) (a : suS A S = true) (b : suS B S = true) : FrL S L L2 := fun k j h => (h2 k j (suS_no b h)).trans (h1 k j (suS_no a h))
theorem FrI.up {A S : Fr} {I I1 : Mi} (h1 : FrI A I I1) (a : suS A S = true) : FrI S I I1 := fun k j h => h1 k j (suS_no a h)
theorem FrL.up {A S : Fr} {L L1 : Ml} (h1 : FrL A L L1) (a : suS A S = true) : FrL S L L1 := fun k j h => h1 k j (suS_no a h)
theorem FrI.at {S I I'} (h : FrI S I I') {k : Nat} (a : avS S k = true) : I' k = I k := funext fun j => h k j (avS_in a j)
theorem FrL.at {S L L'} (h : FrL S L L') {k : Nat} (a : avS S k = true) : L' k = L k := funext fun j => h k j (avS_in a j)
theorem FrI.wu {S I I'} {k j : Nat} {x : Int32} (h : FrI S I I') (a : inS S k j = true) : FrI S I (ui I' k j x) := fun k2 j2 h2 => by
  rw [← h k2 j2 h2]
  unfold ui
  cases hk : Nat.beq k2 k with
  | false => rfl
  | true =>
    show cond (Nat.beq j2 j) x _ = _
    cases hj : Nat.beq j2 j with
    | false => rfl
    | true =>
      have e1 := Nat.eq_of_beq_eq_true hk
      have e2 := Nat.eq_of_beq_eq_true hj
      subst e1; subst e2
      rw [a] at h2; cases h2
theorem FrL.wu {S L L'} {k j : Nat} {x : Int64} (h : FrL S L L') (a : inS S k j = true) : FrL S L (ul L' k j x) := fun k2 j2 h2 => by
  rw [← h k2 j2 h2]
  unfold ul
  cases hk : Nat.beq k2 k with
  | false => rfl
  | true =>
    show cond (Nat.beq j2 j) x _ = _
    cases hj : Nat.beq j2 j with
    | false => rfl
    | true =>
      have e1 := Nat.eq_of_beq_eq_true hk
      have e2 := Nat.eq_of_beq_eq_true hj
      subst e1; subst e2
      rw [a] at h2; cases h2
theorem FrI.wr {S I I'} {k : Nat} {f : Nat → Int32} (h : FrI S I I') (a : ∀ j, inS S k j = true) : FrI S I (ri I' k f) := fun k2 j2 h2 => by
  rw [← h k2 j2 h2]
  unfold ri
  cases hk : Nat.beq k2 k with
  | false => rfl
  | true =>
    have e1 := Nat.eq_of_beq_eq_true hk
    subst e1
    rw [a j2] at h2; cases h2
theorem u_at {I : Mi} {k j : Nat} {x : Int32} : ui I k j x k j = x := by unfold ui; simp
theorem u_ne {I : Mi} {k j i : Nat} {x : Int32} (h : i ≠ j) : ui I k j x k i = I k i := by
  unfold ui
  have : Nat.beq i j = false := nbe h
  simp [this]
theorem l_at {I : Ml} {k j : Nat} {x : Int64} : ul I k j x k j = x := by unfold ul; simp
theorem l_ne {I : Ml} {k j i : Nat} {x : Int64} (h : i ≠ j) : ul I k j x k i = I k i := by
  unfold ul
  have : Nat.beq i j = false := nbe h
  simp [this]
section
variable {A B : Prop} {x y : Int}
theorem i_eq64z (hx : R64 x) (h1 : x = 0 → A) (h2 : x ≠ 0 → B) : if Int64.ofInt x = 0 then A else B := by rw [z64]; exact i_eq64 hx (by omega) h1 h2
theorem i_nz64 (hx : R64 x) (h0 : x ≠ 0) (h2 : B) : if Int64.ofInt x = 0 then A else B := by rw [z64]; exact i_eq64 hx (by omega) (fun k => absurd k h0) (fun _ => h2)
theorem rem64 (hx : R64 x) (hy : R64 y) (h : x ≠ -9223372036854775808 ∨ y ≠ -1) : Int64.ofInt x - Int64.ofInt x / Int64.ofInt y * Int64.ofInt y = Int64.ofInt (x.tmod y) := by
  rw [dv64 hx hy h, mul64, sub64]
  congr 1
  rw [Int.tmod_def, Int.mul_comm]
end
