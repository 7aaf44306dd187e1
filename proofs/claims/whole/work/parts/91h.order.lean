/-! Orders of the ELEMENTS, as figures to the base of four; the next one. -/
def fg (t k : Nat) : Nat := t / 4 ^ (3 - k) % 4
def sbs (t : Nat) : Nat → Int32
  | 0 => Int32.ofInt 0
  | k + 1 => sbs t k ||| (Int32.ofInt 1 <<< (Int32.ofInt (fg t k : Int) &&& 31))
abbrev isO (n t : Nat) : Prop := (∀ k, k < 4 → (k < n → fg t k < n) ∧ (n ≤ k → fg t k = k)) ∧ sbs t 4 = Int32.ofInt 15
def PL : Nat → List Nat
  | 0 => [27]
  | 1 => [27]
  | 2 => [27, 75]
  | 3 => [27, 39, 75, 99, 135, 147]
  | _ => [27, 30, 39, 45, 54, 57, 75, 78, 99, 108, 114, 120, 135, 141, 147, 156, 177, 180, 198, 201, 210, 216, 225, 228]
def pc (n r : Nat) : Nat := (PL n).getD r 256
set_option maxRecDepth 100000 in
theorem pc_o : ∀ n, n < 5 → ∀ r, r < (PL n).length → isO n (pc n r) ∧ pc n r < 256 := by decide +kernel
set_option maxRecDepth 100000 in
theorem pc_no0 : ∀ n, n < 5 → ∀ t, t < 256 → decide (isO n t) = true → decide (t ∈ PL n) = true := by decide +kernel
theorem pc_no (n : Nat) (hn : n < 5) (t : Nat) (ht : t < 256) (h : isO n t) : t ∈ PL n := of_decide_eq_true (pc_no0 n hn t ht (decide_eq_true h))
set_option maxRecDepth 100000 in
theorem pc_gap0 : ∀ n, n < 5 → ∀ t, t < 256 → decide (t < pc n 0) = true → decide (¬ t ∈ PL n) = true := by decide +kernel
set_option maxRecDepth 100000 in
theorem pc_gap1 : ∀ n, n < 5 → ∀ r, r < (PL n).length → ∀ t, t < 256 → decide (pc n r < t ∧ (r + 1 < (PL n).length → t < pc n (r + 1))) = true → decide (¬ t ∈ PL n) = true := by decide +kernel
theorem PL_n : ∀ n, n < 5 → 0 < (PL n).length ∧ (PL n).length ≤ 24 := by decide
theorem fg_f : ∀ t : Nat, t < 256 → ∀ k : Nat, k < 4 → ((Int32.ofInt (t : Int) >>> ((Int32.ofInt 2 * (Int32.ofInt 3 - Int32.ofInt (k : Int))) &&& 31)) &&& Int32.ofInt 3) = Int32.ofInt (fg t k : Int) := by decide +kernel
theorem fg_b (t k : Nat) : fg t k < 4 := Nat.mod_lt _ (by decide)
/-- the row of the order at hand -/
def OrAt (I : Mi) (c t : Nat) : Prop := ∀ k, k < 4 → I c k = .ofInt (fg t k : Int)
def swp (I : Mi) (a b : Nat) : Mi := ui (ui I 28 a (I 28 b)) 28 b (I 28 a)
theorem swp_at {I : Mi} {a b k : Nat} : swp I a b 28 k = if k = b then I 28 a else if k = a then I 28 b else I 28 k := by
  unfold swp
  rw [ui_app]
  by_cases h : k = b
  · rw [if_pos ⟨rfl, h⟩, if_pos h]
  · rw [if_neg (fun q => h q.2), if_neg h, ui_app]
    by_cases h2 : k = a
    · rw [if_pos ⟨rfl, h2⟩, if_pos h2]
    · rw [if_neg (fun q => h2 q.2), if_neg h2]
theorem swp_f {I : Mi} {a b : Nat} (ha : a < 4) (hb : b < 4) : FrI [(28, 0, 4)] I (swp I a b) := by
  have h : ∀ x, x < 4 → inS [(28, 0, 4)] 28 x = true := by decide
  exact FrI.wu (FrI.wu FrI.rf (h a ha)) (h b hb)
section
variable {Lx : Nat} {I : Mi} {L : Ml} {e : Nat} {Q : Kq}
theorem w4 {a : Nat} {x : Int32} (ha : a + 1 < 4) {u v : Nat} (hu4 : u < 4) (hv4 : v < 4) (hu : I 28 a = .ofInt (u : Int)) (hv : I 28 (a + 1) = .ofInt (v : Int)) (h1 : v < u → Wp 91 4 [(0, .ref 1), (1, .int x), (2, .int (Int32.ofInt ((a : Int) - 1)))] [] (gE Lx) I L e Q) (h0 : u ≤ v → Wp 91 41 [(0, .ref 1), (1, .int x), (2, .int (Int32.ofInt (a : Int))), (3, .int (x - Int32.ofInt 1))] [] (gE Lx) I L e Q) :
    Wp 91 4 [(0, .ref 1), (1, .int x), (2, .int (Int32.ofInt (a : Int)))] [] (gE Lx) I L e Q := by
  have e1 : Int32.ofInt (a : Int) + Int32.ofInt 1 = Int32.ofInt ((a + 1 : Nat) : Int) := by rw [add32]; rfl
  refine s_91_4 ?_
  rw [e1, tncn (k := a) (by omega), tncn (k := a + 1) (by omega), hu, hv]
  refine i_ltz (by omega) (fun _ => by omega) (fun _ => i_inb (by omega) (by omega) (i_inb (by omega) ha (i_lt32 (by omega) (by omega) (fun q => ?_) (fun q => i_ltz (by omega) (fun _ => by omega) (fun _ => h0 (by omega))))))
  have := h1 (by omega)
  rw [add32]
  exact this
theorem w4n {a : Int} {x : Int32} (ha : -2 ≤ a ∧ a < 0) (h : Q (.inl (some (.int (Int32.ofInt 0)))) (gE Lx) I L e) :
    Wp 91 4 [(0, .ref 1), (1, .int x), (2, .int (Int32.ofInt a))] [] (gE Lx) I L e Q :=
  s_91_4 (i_ltz (by omega) (fun _ => i_ltz (by omega) (fun _ => h) (fun _ => by omega)) (fun _ => by omega))
theorem w41 {a b : Nat} {x : Int32} (hab : a < b) (hb : b < 4) {u v : Nat} (hu4 : u < 4) (hv4 : v < 4) (hu : I 28 a = .ofInt (u : Int)) (hv : I 28 b = .ofInt (v : Int)) (h1 : v < u → Wp 91 41 [(0, .ref 1), (1, .int x), (2, .int (Int32.ofInt (a : Int))), (3, .int (Int32.ofInt ((b : Int) - 1)))] [] (gE Lx) I L e Q) (h0 : u ≤ v → Wp 91 83 [(0, .ref 1), (4, .int (Int32.ofInt ((a : Int) + 1))), (5, .int (x - Int32.ofInt 1))] [] (gE Lx) (swp I a b) L e Q) :
    Wp 91 41 [(0, .ref 1), (1, .int x), (2, .int (Int32.ofInt (a : Int))), (3, .int (Int32.ofInt (b : Int)))] [] (gE Lx) I L e Q := by
  refine s_91_41 ?_
  rw [tncn (k := a) (by omega), tncn (k := b) (by omega)]
  refine i_lt32 (by omega) (by omega) (fun _ => i_inb (by omega) hb (i_inb (by omega) (by omega) ?_)) (fun _ => by omega)
  have h0 : u ≤ v → Wp 91 83 [(0, .ref 1), (4, .int (Int32.ofInt (a : Int) + Int32.ofInt 1)), (5, .int (x - Int32.ofInt 1))] [] (gE Lx) (ui (ui I 28 a (I 28 b)) 28 b (I 28 a)) L e Q := fun q => by
    have := h0 q
    rw [add32]
    exact this
  have cnd : I 28 b < I 28 a ↔ v < u := by
    rw [hu, hv, lt32 (by omega) (by omega)]
    omega
  by_cases q : I 28 b < I 28 a
  · rw [if_pos q]
    have := h1 (cnd.mp q)
    rw [add32]
    exact this
  · rw [if_neg q]
    refine i_ltz (by omega) (fun _ => by omega) (fun _ => i_ltz (by omega) (fun _ => by omega) (fun _ => i_lt32 (by omega) (by omega) (fun _ => i_lt32 (by omega) (by omega) (fun _ => ?_) (fun _ => by omega)) (fun _ => by omega)))
    refine i_inb (by omega) (by omega) (i_inb (by omega) hb (i_inb (by omega) (by omega) (i_inb (by omega) hb (h0 ?_))))
    have : ¬ v < u := fun w => q (cnd.mpr w)
    omega
theorem w83 {a b : Nat} (hab : a < b) (hb : b < 4) (h : Wp 91 83 [(0, .ref 1), (4, .int (Int32.ofInt ((a : Int) + 1))), (5, .int (Int32.ofInt ((b : Int) - 1)))] [] (gE Lx) (swp I a b) L e Q) :
    Wp 91 83 [(0, .ref 1), (4, .int (Int32.ofInt (a : Int))), (5, .int (Int32.ofInt (b : Int)))] [] (gE Lx) I L e Q := by
  refine s_91_83 ?_
  rw [tncn (k := a) (by omega), tncn (k := b) (by omega)]
  refine i_lt32 (by omega) (by omega) (fun _ => i_ltz (by omega) (fun _ => by omega) (fun _ => i_ltz (by omega) (fun _ => by omega) (fun _ => i_lt32 (by omega) (by omega) (fun _ => i_lt32 (by omega) (by omega) (fun _ => ?_) (fun _ => by omega)) (fun _ => by omega)))) (fun _ => by omega)
  refine i_inb (by omega) (by omega) (i_inb (by omega) hb (i_inb (by omega) (by omega) (i_inb (by omega) hb ?_)))
  rw [add32, add32]
  exact h
theorem w83e {a b : Int} (hab : b ≤ a) (ha : 0 ≤ a ∧ a ≤ 8) (hb : 0 ≤ b ∧ b ≤ 8) (h : Q (.inl (some (.int (Int32.ofInt 1)))) (gE Lx) I L e) :
    Wp 91 83 [(0, .ref 1), (4, .int (Int32.ofInt a)), (5, .int (Int32.ofInt b))] [] (gE Lx) I L e Q :=
  s_91_83 (i_lt32 (by omega) (by omega) (fun _ => by omega) (fun _ => h))
end
theorem or2P1 : ∀ r, r < 2 → fg (pc 2 r) 0 < fg (pc 2 r) 1 → r + 1 < 2 ∧ fg (pc 2 (r + 1)) 0 = fg (pc 2 r) 1 ∧ fg (pc 2 (r + 1)) 1 = fg (pc 2 r) 0 ∧ fg (pc 2 (r + 1)) 2 = fg (pc 2 r) 2 ∧ fg (pc 2 (r + 1)) 3 = fg (pc 2 r) 3 := by decide +kernel
theorem or2E : ∀ r, r < 2 → fg (pc 2 r) 1 < fg (pc 2 r) 0 → ¬ r + 1 < 2 := by decide +kernel
theorem or2D : ∀ r, r < 2 → fg (pc 2 r) 0 ≠ fg (pc 2 r) 1 := by decide +kernel
theorem or3P1 : ∀ r, r < 6 → fg (pc 3 r) 1 < fg (pc 3 r) 2 → r + 1 < 6 ∧ fg (pc 3 (r + 1)) 0 = fg (pc 3 r) 0 ∧ fg (pc 3 (r + 1)) 1 = fg (pc 3 r) 2 ∧ fg (pc 3 (r + 1)) 2 = fg (pc 3 r) 1 ∧ fg (pc 3 (r + 1)) 3 = fg (pc 3 r) 3 := by decide +kernel
theorem or3P2a : ∀ r, r < 6 → fg (pc 3 r) 2 < fg (pc 3 r) 1 → fg (pc 3 r) 0 < fg (pc 3 r) 1 → fg (pc 3 r) 2 < fg (pc 3 r) 0 → r + 1 < 6 ∧ fg (pc 3 (r + 1)) 0 = fg (pc 3 r) 1 ∧ fg (pc 3 (r + 1)) 1 = fg (pc 3 r) 2 ∧ fg (pc 3 (r + 1)) 2 = fg (pc 3 r) 0 ∧ fg (pc 3 (r + 1)) 3 = fg (pc 3 r) 3 := fun r hr h0 h1 h2 => by
  have k : ∀ r, r < 6 → decide (fg (pc 3 r) 2 < fg (pc 3 r) 1 ∧ fg (pc 3 r) 0 < fg (pc 3 r) 1 ∧ fg (pc 3 r) 2 < fg (pc 3 r) 0) = true → decide (r + 1 < 6 ∧ fg (pc 3 (r + 1)) 0 = fg (pc 3 r) 1 ∧ fg (pc 3 (r + 1)) 1 = fg (pc 3 r) 2 ∧ fg (pc 3 (r + 1)) 2 = fg (pc 3 r) 0 ∧ fg (pc 3 (r + 1)) 3 = fg (pc 3 r) 3) = true := by decide +kernel
  exact of_decide_eq_true (k r hr (decide_eq_true ⟨h0, h1, h2⟩))
theorem or3P2b : ∀ r, r < 6 → fg (pc 3 r) 2 < fg (pc 3 r) 1 → fg (pc 3 r) 0 < fg (pc 3 r) 1 → fg (pc 3 r) 0 < fg (pc 3 r) 2 → r + 1 < 6 ∧ fg (pc 3 (r + 1)) 0 = fg (pc 3 r) 2 ∧ fg (pc 3 (r + 1)) 1 = fg (pc 3 r) 0 ∧ fg (pc 3 (r + 1)) 2 = fg (pc 3 r) 1 ∧ fg (pc 3 (r + 1)) 3 = fg (pc 3 r) 3 := fun r hr h0 h1 h2 => by
  have k : ∀ r, r < 6 → decide (fg (pc 3 r) 2 < fg (pc 3 r) 1 ∧ fg (pc 3 r) 0 < fg (pc 3 r) 1 ∧ fg (pc 3 r) 0 < fg (pc 3 r) 2) = true → decide (r + 1 < 6 ∧ fg (pc 3 (r + 1)) 0 = fg (pc 3 r) 2 ∧ fg (pc 3 (r + 1)) 1 = fg (pc 3 r) 0 ∧ fg (pc 3 (r + 1)) 2 = fg (pc 3 r) 1 ∧ fg (pc 3 (r + 1)) 3 = fg (pc 3 r) 3) = true := by decide +kernel
  exact of_decide_eq_true (k r hr (decide_eq_true ⟨h0, h1, h2⟩))
theorem or3E : ∀ r, r < 6 → fg (pc 3 r) 2 < fg (pc 3 r) 1 → fg (pc 3 r) 1 < fg (pc 3 r) 0 → ¬ r + 1 < 6 := fun r hr h0 h1 => by
  have k : ∀ r, r < 6 → decide (fg (pc 3 r) 2 < fg (pc 3 r) 1 ∧ fg (pc 3 r) 1 < fg (pc 3 r) 0) = true → decide (¬ r + 1 < 6) = true := by decide +kernel
  exact of_decide_eq_true (k r hr (decide_eq_true ⟨h0, h1⟩))
theorem or3D : ∀ r, r < 6 → fg (pc 3 r) 0 ≠ fg (pc 3 r) 1 ∧ fg (pc 3 r) 0 ≠ fg (pc 3 r) 2 ∧ fg (pc 3 r) 1 ≠ fg (pc 3 r) 2 := by decide +kernel
theorem or4P1 : ∀ r, r < 24 → fg (pc 4 r) 2 < fg (pc 4 r) 3 → r + 1 < 24 ∧ fg (pc 4 (r + 1)) 0 = fg (pc 4 r) 0 ∧ fg (pc 4 (r + 1)) 1 = fg (pc 4 r) 1 ∧ fg (pc 4 (r + 1)) 2 = fg (pc 4 r) 3 ∧ fg (pc 4 (r + 1)) 3 = fg (pc 4 r) 2 := by decide +kernel
theorem or4P2a : ∀ r, r < 24 → fg (pc 4 r) 3 < fg (pc 4 r) 2 → fg (pc 4 r) 1 < fg (pc 4 r) 2 → fg (pc 4 r) 3 < fg (pc 4 r) 1 → r + 1 < 24 ∧ fg (pc 4 (r + 1)) 0 = fg (pc 4 r) 0 ∧ fg (pc 4 (r + 1)) 1 = fg (pc 4 r) 2 ∧ fg (pc 4 (r + 1)) 2 = fg (pc 4 r) 3 ∧ fg (pc 4 (r + 1)) 3 = fg (pc 4 r) 1 := fun r hr h0 h1 h2 => by
  have k : ∀ r, r < 24 → decide (fg (pc 4 r) 3 < fg (pc 4 r) 2 ∧ fg (pc 4 r) 1 < fg (pc 4 r) 2 ∧ fg (pc 4 r) 3 < fg (pc 4 r) 1) = true → decide (r + 1 < 24 ∧ fg (pc 4 (r + 1)) 0 = fg (pc 4 r) 0 ∧ fg (pc 4 (r + 1)) 1 = fg (pc 4 r) 2 ∧ fg (pc 4 (r + 1)) 2 = fg (pc 4 r) 3 ∧ fg (pc 4 (r + 1)) 3 = fg (pc 4 r) 1) = true := by decide +kernel
  exact of_decide_eq_true (k r hr (decide_eq_true ⟨h0, h1, h2⟩))
theorem or4P2b : ∀ r, r < 24 → fg (pc 4 r) 3 < fg (pc 4 r) 2 → fg (pc 4 r) 1 < fg (pc 4 r) 2 → fg (pc 4 r) 1 < fg (pc 4 r) 3 → r + 1 < 24 ∧ fg (pc 4 (r + 1)) 0 = fg (pc 4 r) 0 ∧ fg (pc 4 (r + 1)) 1 = fg (pc 4 r) 3 ∧ fg (pc 4 (r + 1)) 2 = fg (pc 4 r) 1 ∧ fg (pc 4 (r + 1)) 3 = fg (pc 4 r) 2 := fun r hr h0 h1 h2 => by
  have k : ∀ r, r < 24 → decide (fg (pc 4 r) 3 < fg (pc 4 r) 2 ∧ fg (pc 4 r) 1 < fg (pc 4 r) 2 ∧ fg (pc 4 r) 1 < fg (pc 4 r) 3) = true → decide (r + 1 < 24 ∧ fg (pc 4 (r + 1)) 0 = fg (pc 4 r) 0 ∧ fg (pc 4 (r + 1)) 1 = fg (pc 4 r) 3 ∧ fg (pc 4 (r + 1)) 2 = fg (pc 4 r) 1 ∧ fg (pc 4 (r + 1)) 3 = fg (pc 4 r) 2) = true := by decide +kernel
  exact of_decide_eq_true (k r hr (decide_eq_true ⟨h0, h1, h2⟩))
theorem or4P3a : ∀ r, r < 24 → fg (pc 4 r) 3 < fg (pc 4 r) 2 → fg (pc 4 r) 2 < fg (pc 4 r) 1 → fg (pc 4 r) 0 < fg (pc 4 r) 1 → fg (pc 4 r) 3 < fg (pc 4 r) 0 → fg (pc 4 r) 2 < fg (pc 4 r) 0 → r + 1 < 24 ∧ fg (pc 4 (r + 1)) 0 = fg (pc 4 r) 1 ∧ fg (pc 4 (r + 1)) 1 = fg (pc 4 r) 3 ∧ fg (pc 4 (r + 1)) 2 = fg (pc 4 r) 2 ∧ fg (pc 4 (r + 1)) 3 = fg (pc 4 r) 0 := fun r hr h0 h1 h2 h3 h4 => by
  have k : ∀ r, r < 24 → decide (fg (pc 4 r) 3 < fg (pc 4 r) 2 ∧ fg (pc 4 r) 2 < fg (pc 4 r) 1 ∧ fg (pc 4 r) 0 < fg (pc 4 r) 1 ∧ fg (pc 4 r) 3 < fg (pc 4 r) 0 ∧ fg (pc 4 r) 2 < fg (pc 4 r) 0) = true → decide (r + 1 < 24 ∧ fg (pc 4 (r + 1)) 0 = fg (pc 4 r) 1 ∧ fg (pc 4 (r + 1)) 1 = fg (pc 4 r) 3 ∧ fg (pc 4 (r + 1)) 2 = fg (pc 4 r) 2 ∧ fg (pc 4 (r + 1)) 3 = fg (pc 4 r) 0) = true := by decide +kernel
  exact of_decide_eq_true (k r hr (decide_eq_true ⟨h0, h1, h2, h3, h4⟩))
theorem or4P3b : ∀ r, r < 24 → fg (pc 4 r) 3 < fg (pc 4 r) 2 → fg (pc 4 r) 2 < fg (pc 4 r) 1 → fg (pc 4 r) 0 < fg (pc 4 r) 1 → fg (pc 4 r) 3 < fg (pc 4 r) 0 → fg (pc 4 r) 0 < fg (pc 4 r) 2 → r + 1 < 24 ∧ fg (pc 4 (r + 1)) 0 = fg (pc 4 r) 2 ∧ fg (pc 4 (r + 1)) 1 = fg (pc 4 r) 3 ∧ fg (pc 4 (r + 1)) 2 = fg (pc 4 r) 0 ∧ fg (pc 4 (r + 1)) 3 = fg (pc 4 r) 1 := fun r hr h0 h1 h2 h3 h4 => by
  have k : ∀ r, r < 24 → decide (fg (pc 4 r) 3 < fg (pc 4 r) 2 ∧ fg (pc 4 r) 2 < fg (pc 4 r) 1 ∧ fg (pc 4 r) 0 < fg (pc 4 r) 1 ∧ fg (pc 4 r) 3 < fg (pc 4 r) 0 ∧ fg (pc 4 r) 0 < fg (pc 4 r) 2) = true → decide (r + 1 < 24 ∧ fg (pc 4 (r + 1)) 0 = fg (pc 4 r) 2 ∧ fg (pc 4 (r + 1)) 1 = fg (pc 4 r) 3 ∧ fg (pc 4 (r + 1)) 2 = fg (pc 4 r) 0 ∧ fg (pc 4 (r + 1)) 3 = fg (pc 4 r) 1) = true := by decide +kernel
  exact of_decide_eq_true (k r hr (decide_eq_true ⟨h0, h1, h2, h3, h4⟩))
theorem or4P3c : ∀ r, r < 24 → fg (pc 4 r) 3 < fg (pc 4 r) 2 → fg (pc 4 r) 2 < fg (pc 4 r) 1 → fg (pc 4 r) 0 < fg (pc 4 r) 1 → fg (pc 4 r) 0 < fg (pc 4 r) 3 → r + 1 < 24 ∧ fg (pc 4 (r + 1)) 0 = fg (pc 4 r) 3 ∧ fg (pc 4 (r + 1)) 1 = fg (pc 4 r) 0 ∧ fg (pc 4 (r + 1)) 2 = fg (pc 4 r) 2 ∧ fg (pc 4 (r + 1)) 3 = fg (pc 4 r) 1 := fun r hr h0 h1 h2 h3 => by
  have k : ∀ r, r < 24 → decide (fg (pc 4 r) 3 < fg (pc 4 r) 2 ∧ fg (pc 4 r) 2 < fg (pc 4 r) 1 ∧ fg (pc 4 r) 0 < fg (pc 4 r) 1 ∧ fg (pc 4 r) 0 < fg (pc 4 r) 3) = true → decide (r + 1 < 24 ∧ fg (pc 4 (r + 1)) 0 = fg (pc 4 r) 3 ∧ fg (pc 4 (r + 1)) 1 = fg (pc 4 r) 0 ∧ fg (pc 4 (r + 1)) 2 = fg (pc 4 r) 2 ∧ fg (pc 4 (r + 1)) 3 = fg (pc 4 r) 1) = true := by decide +kernel
  exact of_decide_eq_true (k r hr (decide_eq_true ⟨h0, h1, h2, h3⟩))
theorem or4E : ∀ r, r < 24 → fg (pc 4 r) 3 < fg (pc 4 r) 2 → fg (pc 4 r) 2 < fg (pc 4 r) 1 → fg (pc 4 r) 1 < fg (pc 4 r) 0 → ¬ r + 1 < 24 := fun r hr h0 h1 h2 => by
  have k : ∀ r, r < 24 → decide (fg (pc 4 r) 3 < fg (pc 4 r) 2 ∧ fg (pc 4 r) 2 < fg (pc 4 r) 1 ∧ fg (pc 4 r) 1 < fg (pc 4 r) 0) = true → decide (¬ r + 1 < 24) = true := by decide +kernel
  exact of_decide_eq_true (k r hr (decide_eq_true ⟨h0, h1, h2⟩))
theorem or4D : ∀ r, r < 24 → fg (pc 4 r) 0 ≠ fg (pc 4 r) 1 ∧ fg (pc 4 r) 0 ≠ fg (pc 4 r) 2 ∧ fg (pc 4 r) 0 ≠ fg (pc 4 r) 3 ∧ fg (pc 4 r) 1 ≠ fg (pc 4 r) 2 ∧ fg (pc 4 r) 1 ≠ fg (pc 4 r) 3 ∧ fg (pc 4 r) 2 ≠ fg (pc 4 r) 3 := by decide +kernel
section
variable {Lx : Nat} {I : Mi} {L : Ml} {e : Nat} {Q : Kq}
set_option maxHeartbeats 4000000 in
theorem c_91_4 {r : Nat} (hr : r < 24) (ho : OrAt I 28 (pc 4 r))
    (h1 : r + 1 < 24 → ∀ I', FrI [(28, 0, 4)] I I' → OrAt I' 28 (pc 4 (r + 1)) → Q (.inl (some (.int (Int32.ofInt 1)))) (gE Lx) I' L e) (h0 : ¬ r + 1 < 24 → Q (.inl (some (.int (Int32.ofInt 0)))) (gE Lx) I L e) :
    Wp 91 4 [(0, .ref 1), (1, .int (Int32.ofInt 4)), (2, .int (Int32.ofInt 2))] [] (gE Lx) I L e Q := by
  have r0 := ho 0 (by decide); have r1 := ho 1 (by decide); have r2 := ho 2 (by decide); have r3 := ho 3 (by decide)
  have q1 := or4P1 r hr; have q2 := or4P2a r hr; have q3 := or4P2b r hr; have q4 := or4P3a r hr; have q5 := or4P3b r hr; have q6 := or4P3c r hr; have qe := or4E r hr
  have qd := or4D r hr
  have b0 := fg_b (pc 4 r) 0; have b1 := fg_b (pc 4 r) 1; have b2 := fg_b (pc 4 r) 2; have b3 := fg_b (pc 4 r) 3
  have fin : ∀ I', FrI [(28, 0, 4)] I I' → r + 1 < 24 → I' 28 0 = .ofInt (fg (pc 4 (r + 1)) 0 : Int) → I' 28 1 = .ofInt (fg (pc 4 (r + 1)) 1 : Int) → I' 28 2 = .ofInt (fg (pc 4 (r + 1)) 2 : Int) → I' 28 3 = .ofInt (fg (pc 4 (r + 1)) 3 : Int) → Q (.inl (some (.int (Int32.ofInt 1)))) (gE Lx) I' L e := fun I' hf hr1 a0 a1 a2 a3 =>
    h1 hr1 I' hf (fun k hk => by
      have : k = 0 ∨ k = 1 ∨ k = 2 ∨ k = 3 := by omega
      rcases this with rfl | rfl | rfl | rfl
      · exact a0
      · exact a1
      · exact a2
      · exact a3)
  have e3 : Int32.ofInt 4 - Int32.ofInt 1 = Int32.ofInt 3 := by decide
  have two : ∀ {a b c d : Nat}, a < 4 → b < 4 → c < 4 → d < 4 → FrI [(28, 0, 4)] I (swp (swp I a b) c d) := fun ha hb hc hd => FrI.tr (S := [(28, 0, 4)]) (swp_f ha hb) (swp_f hc hd) rfl rfl
  generalize fg (pc 4 r) 0 = v0 at *
  generalize fg (pc 4 r) 1 = v1 at *
  generalize fg (pc 4 r) 2 = v2 at *
  generalize fg (pc 4 r) 3 = v3 at *
  refine w4 (a := 2) (by decide) b2 b3 r2 r3 (fun k1 => w4 (a := 1) (by decide) b1 b2 r1 r2 (fun k2 => w4 (a := 0) (by decide) b0 b1 r0 r1 (fun k3 => w4n (by decide) (h0 (qe k1 k2 k3))) (fun k3 => ?_)) (fun k2 => ?_)) (fun k1 => ?_)
  · rw [e3]
    refine w41 (a := 0) (b := 3) (by decide) (by decide) b0 b3 r0 r3 (fun k4 => w41 (a := 0) (b := 2) (by decide) (by decide) b0 b2 r0 r2 (fun k5 => w41 (a := 0) (b := 1) (by decide) (by decide) b0 b1 r0 r1 (fun k6 => by omega) (fun k6 => ?_)) (fun k5 => ?_)) (fun k4 => ?_)
    · rw [e3]
      obtain ⟨z, z0, z1, z2, z3⟩ := q4 k1 k2 (by omega) k4 k5
      refine w83 (a := 1) (b := 3) (by decide) (by decide) (w83e (by decide) (by decide) (by decide) (fin _ (two (by decide) (by decide) (by decide) (by decide)) z ?_ ?_ ?_ ?_)) <;> simp [swp_at, *]
    · rw [e3]
      obtain ⟨z, z0, z1, z2, z3⟩ := q5 k1 k2 (by omega) k4 (by omega)
      refine w83 (a := 1) (b := 3) (by decide) (by decide) (w83e (by decide) (by decide) (by decide) (fin _ (two (by decide) (by decide) (by decide) (by decide)) z ?_ ?_ ?_ ?_)) <;> simp [swp_at, *]
    · rw [e3]
      obtain ⟨z, z0, z1, z2, z3⟩ := q6 k1 k2 (by omega) (by omega)
      refine w83 (a := 1) (b := 3) (by decide) (by decide) (w83e (by decide) (by decide) (by decide) (fin _ (two (by decide) (by decide) (by decide) (by decide)) z ?_ ?_ ?_ ?_)) <;> simp [swp_at, *]
  · rw [e3]
    refine w41 (a := 1) (b := 3) (by decide) (by decide) b1 b3 r1 r3 (fun k4 => w41 (a := 1) (b := 2) (by decide) (by decide) b1 b2 r1 r2 (fun k5 => by omega) (fun k5 => ?_)) (fun k4 => ?_)
    · rw [e3]
      obtain ⟨z, z0, z1, z2, z3⟩ := q2 k1 (by omega) k4
      refine w83 (a := 2) (b := 3) (by decide) (by decide) (w83e (by decide) (by decide) (by decide) (fin _ (two (by decide) (by decide) (by decide) (by decide)) z ?_ ?_ ?_ ?_)) <;> simp [swp_at, *]
    · rw [e3]
      obtain ⟨z, z0, z1, z2, z3⟩ := q3 k1 (by omega) (by omega)
      refine w83 (a := 2) (b := 3) (by decide) (by decide) (w83e (by decide) (by decide) (by decide) (fin _ (two (by decide) (by decide) (by decide) (by decide)) z ?_ ?_ ?_ ?_)) <;> simp [swp_at, *]
  · rw [e3]
    obtain ⟨z, z0, z1, z2, z3⟩ := q1 (by omega)
    refine w41 (a := 2) (b := 3) (by decide) (by decide) b2 b3 r2 r3 (fun k4 => by omega) (fun k4 => ?_)
    rw [e3]
    refine w83e (by decide) (by decide) (by decide) (fin _ (swp_f (by decide) (by decide)) z ?_ ?_ ?_ ?_) <;> simp [swp_at, *]
set_option maxHeartbeats 4000000 in
theorem c_91_3 {r : Nat} (hr : r < 6) (ho : OrAt I 28 (pc 3 r))
    (h1 : r + 1 < 6 → ∀ I', FrI [(28, 0, 4)] I I' → OrAt I' 28 (pc 3 (r + 1)) → Q (.inl (some (.int (Int32.ofInt 1)))) (gE Lx) I' L e) (h0 : ¬ r + 1 < 6 → Q (.inl (some (.int (Int32.ofInt 0)))) (gE Lx) I L e) :
    Wp 91 4 [(0, .ref 1), (1, .int (Int32.ofInt 3)), (2, .int (Int32.ofInt 1))] [] (gE Lx) I L e Q := by
  have r0 := ho 0 (by decide); have r1 := ho 1 (by decide); have r2 := ho 2 (by decide); have r3 := ho 3 (by decide)
  have q1 := or3P1 r hr; have q2 := or3P2a r hr; have q3 := or3P2b r hr; have qe := or3E r hr
  have qd := or3D r hr
  have b0 := fg_b (pc 3 r) 0; have b1 := fg_b (pc 3 r) 1; have b2 := fg_b (pc 3 r) 2; have b3 := fg_b (pc 3 r) 3
  have fin : ∀ I', FrI [(28, 0, 4)] I I' → r + 1 < 6 → I' 28 0 = .ofInt (fg (pc 3 (r + 1)) 0 : Int) → I' 28 1 = .ofInt (fg (pc 3 (r + 1)) 1 : Int) → I' 28 2 = .ofInt (fg (pc 3 (r + 1)) 2 : Int) → I' 28 3 = .ofInt (fg (pc 3 (r + 1)) 3 : Int) → Q (.inl (some (.int (Int32.ofInt 1)))) (gE Lx) I' L e := fun I' hf hr1 a0 a1 a2 a3 =>
    h1 hr1 I' hf (fun k hk => by
      have : k = 0 ∨ k = 1 ∨ k = 2 ∨ k = 3 := by omega
      rcases this with rfl | rfl | rfl | rfl
      · exact a0
      · exact a1
      · exact a2
      · exact a3)
  have e3 : Int32.ofInt 3 - Int32.ofInt 1 = Int32.ofInt 2 := by decide
  have two : ∀ {a b c d : Nat}, a < 4 → b < 4 → c < 4 → d < 4 → FrI [(28, 0, 4)] I (swp (swp I a b) c d) := fun ha hb hc hd => FrI.tr (S := [(28, 0, 4)]) (swp_f ha hb) (swp_f hc hd) rfl rfl
  generalize fg (pc 3 r) 0 = v0 at *
  generalize fg (pc 3 r) 1 = v1 at *
  generalize fg (pc 3 r) 2 = v2 at *
  generalize fg (pc 3 r) 3 = v3 at *
  refine w4 (a := 1) (by decide) b1 b2 r1 r2 (fun k1 => w4 (a := 0) (by decide) b0 b1 r0 r1 (fun k2 => w4n (by decide) (h0 (qe k1 k2))) (fun k2 => ?_)) (fun k1 => ?_)
  · rw [e3]
    refine w41 (a := 0) (b := 2) (by decide) (by decide) b0 b2 r0 r2 (fun k4 => w41 (a := 0) (b := 1) (by decide) (by decide) b0 b1 r0 r1 (fun k5 => by omega) (fun k5 => ?_)) (fun k4 => ?_)
    · rw [e3]
      obtain ⟨z, z0, z1, z2, z3⟩ := q2 k1 (by omega) k4
      refine w83 (a := 1) (b := 2) (by decide) (by decide) (w83e (by decide) (by decide) (by decide) (fin _ (two (by decide) (by decide) (by decide) (by decide)) z ?_ ?_ ?_ ?_)) <;> simp [swp_at, *]
    · rw [e3]
      obtain ⟨z, z0, z1, z2, z3⟩ := q3 k1 (by omega) (by omega)
      refine w83 (a := 1) (b := 2) (by decide) (by decide) (w83e (by decide) (by decide) (by decide) (fin _ (two (by decide) (by decide) (by decide) (by decide)) z ?_ ?_ ?_ ?_)) <;> simp [swp_at, *]
  · rw [e3]
    obtain ⟨z, z0, z1, z2, z3⟩ := q1 (by omega)
    refine w41 (a := 1) (b := 2) (by decide) (by decide) b1 b2 r1 r2 (fun k4 => by omega) (fun k4 => ?_)
    rw [e3]
    refine w83e (by decide) (by decide) (by decide) (fin _ (swp_f (by decide) (by decide)) z ?_ ?_ ?_ ?_) <;> simp [swp_at, *]
set_option maxHeartbeats 4000000 in
theorem c_91_2 {r : Nat} (hr : r < 2) (ho : OrAt I 28 (pc 2 r))
    (h1 : r + 1 < 2 → ∀ I', FrI [(28, 0, 4)] I I' → OrAt I' 28 (pc 2 (r + 1)) → Q (.inl (some (.int (Int32.ofInt 1)))) (gE Lx) I' L e) (h0 : ¬ r + 1 < 2 → Q (.inl (some (.int (Int32.ofInt 0)))) (gE Lx) I L e) :
    Wp 91 4 [(0, .ref 1), (1, .int (Int32.ofInt 2)), (2, .int (Int32.ofInt 0))] [] (gE Lx) I L e Q := by
  have r0 := ho 0 (by decide); have r1 := ho 1 (by decide); have r2 := ho 2 (by decide); have r3 := ho 3 (by decide)
  have q1 := or2P1 r hr; have qe := or2E r hr
  have qd := or2D r hr
  have b0 := fg_b (pc 2 r) 0; have b1 := fg_b (pc 2 r) 1
  have e3 : Int32.ofInt 2 - Int32.ofInt 1 = Int32.ofInt 1 := by decide
  generalize fg (pc 2 r) 0 = v0 at *
  generalize fg (pc 2 r) 1 = v1 at *
  generalize fg (pc 2 r) 2 = v2 at *
  generalize fg (pc 2 r) 3 = v3 at *
  refine w4 (a := 0) (by decide) b0 b1 r0 r1 (fun k2 => w4n (by decide) (h0 (qe k2))) (fun k2 => ?_)
  rw [e3]
  obtain ⟨z, z0, z1, z2, z3⟩ := q1 (by omega)
  refine w41 (a := 0) (b := 1) (by decide) (by decide) b0 b1 r0 r1 (fun k5 => by omega) (fun k5 => ?_)
  rw [e3]
  refine w83e (by decide) (by decide) (by decide) (h1 z _ (swp_f (by decide) (by decide)) (fun k hk => ?_))
  have : k = 0 ∨ k = 1 ∨ k = 2 ∨ k = 3 := by omega
  rcases this with rfl | rfl | rfl | rfl <;> simp [swp_at, *]
/-- to the next order -/
theorem c_91 {n r : Nat} (hn : n < 5) (hr : r < (PL n).length) (ho : OrAt I 28 (pc n r))
    (h1 : r + 1 < (PL n).length → ∀ I', FrI [(28, 0, 4)] I I' → OrAt I' 28 (pc n (r + 1)) → Q (.inl (some (.int (Int32.ofInt 1)))) (gE Lx) I' L e) (h0 : ¬ r + 1 < (PL n).length → Q (.inl (some (.int (Int32.ofInt 0)))) (gE Lx) I L e) :
    Wp 91 4 [(0, .ref 1), (1, .int (Int32.ofInt (n : Int))), (2, .int (Int32.ofInt (n : Int) - Int32.ofInt 2))] [] (gE Lx) I L e Q := by
  rw [sub32]
  have : n = 0 ∨ n = 1 ∨ n = 2 ∨ n = 3 ∨ n = 4 := by omega
  rcases this with rfl | rfl | rfl | rfl | rfl
  · exact w4n (by decide) (h0 (by have : (PL 0).length = 1 := rfl; omega))
  · exact w4n (by decide) (h0 (by have : (PL 1).length = 1 := rfl; omega))
  · exact c_91_2 hr ho h1 h0
  · exact c_91_3 hr ho h1 h0
  · exact c_91_4 hr ho h1 h0
end
