/-! Squares of rows; a pass of rows. -/
def la (v : Int) (j : Nat) : Int := lw v j % 1048576
theorem la_b {v : Int} {j : Nat} : 0 ≤ la v j ∧ la v j ≤ 1048575 := by unfold la; omega
abbrev S60 (v : Int) : Prop := 0 ≤ v ∧ v < 1152921504606846976
theorem lw_3 {v : Int} (h : S60 v) : ∀ j, 3 ≤ j → lw v j = 0 := by
  intro j hj
  induction j with
  | zero => omega
  | succ j ih =>
    by_cases q : j = 2
    · subst q
      show v / 1048576 / 1048576 / 1048576 = 0
      omega
    · rw [lw_s, ih (by omega)]; rfl
theorem la_3 {v : Int} (h : S60 v) {j : Nat} (hj : 3 ≤ j) : la v j = 0 := by unfold la; rw [lw_3 h j hj]; rfl
theorem la_v {v : Int} (h : S60 v) : v = la v 0 + 1048576 * (la v 1 + 1048576 * la v 2) := by
  unfold la
  show v = v % 1048576 + 1048576 * (v / 1048576 % 1048576 + 1048576 * (v / 1048576 / 1048576 % 1048576))
  omega
theorem S60.rb {v : Int} (h : S60 v) : RB v := by unfold RB; omega
theorem RwAt.l {L : Ml} {r : Nat} {v : Int} (h : RwAt L r v) (hv : S60 v) {j : Nat} (hj : j < 14) : L 65 (14 * r + j) = .ofInt (la v j) := by
  by_cases q : j < 13
  · exact h.2.1 j q
  · have : j = 13 := by omega
    subst this
    rw [h.2.2, lw_3 hv 13 (by omega), la_3 hv (by omega)]
/-- the sum of products that fall together -/
def ca (A B : Int) (k : Nat) : Nat → Int
  | 0 => 0
  | n + 1 => ca A B k n + (la A n * la A (k - n) + la B n * la B (k - n))
theorem ca_b {A B : Int} {k : Nat} : ∀ n, 0 ≤ ca A B k n ∧ ca A B k n ≤ n * 2200000000000 := by
  intro n
  induction n with
  | zero =>
    show 0 ≤ (0 : Int) ∧ (0 : Int) ≤ ((0 : Nat) : Int) * 2200000000000
    omega
  | succ n ih =>
    have p : ∀ x y : Int, (0 ≤ x ∧ x ≤ 1048575) → (0 ≤ y ∧ y ≤ 1048575) → 0 ≤ x * y ∧ x * y ≤ 1099509530625 := fun x y hx hy => ⟨Int.mul_nonneg hx.1 hy.1, Int.mul_le_mul hx.2 hy.2 hy.1 (by decide)⟩
    have p1 := p (la A n) (la A (k - n)) la_b la_b
    have p2 := p (la B n) (la B (k - n)) la_b la_b
    show 0 ≤ ca A B k n + (la A n * la A (k - n) + la B n * la B (k - n)) ∧ ca A B k n + (la A n * la A (k - n) + la B n * la B (k - n)) ≤ ((n + 1 : Nat) : Int) * 2200000000000
    omega
theorem ca_5 {A B : Int} (hA : S60 A) (hB : S60 B) {k : Nat} (hk : 5 ≤ k) : ∀ n, n ≤ k + 1 → ca A B k n = 0 := by
  intro n
  induction n with
  | zero => intro _; rfl
  | succ n ih =>
    intro hn
    show ca A B k n + (la A n * la A (k - n) + la B n * la B (k - n)) = 0
    rw [ih (by omega)]
    by_cases q : 3 ≤ n
    · rw [la_3 hA q, la_3 hB q]; simp
    · rw [la_3 hA (show 3 ≤ k - n by omega), la_3 hB (show 3 ≤ k - n by omega)]; simp
def cT (A B : Int) (k : Nat) : Int :=
  if k = 0 then A * A + B * B else if k = 1 then ca A B 1 2 + 1048576 * (ca A B 2 3 + 1048576 * (ca A B 3 4 + 1048576 * ca A B 4 5)) else if k = 2 then ca A B 2 3 + 1048576 * (ca A B 3 4 + 1048576 * ca A B 4 5) else if k = 3 then ca A B 3 4 + 1048576 * ca A B 4 5 else if k = 4 then ca A B 4 5 else 0
theorem cT_s {A B : Int} (hA : S60 A) (hB : S60 B) (k : Nat) : cT A B k = ca A B k (k + 1) + 1048576 * cT A B (k + 1) := by
  by_cases q : 5 ≤ k
  · have e : ∀ j, 5 ≤ j → cT A B j = 0 := fun j hj => by
      unfold cT
      rw [if_neg (by omega), if_neg (by omega), if_neg (by omega), if_neg (by omega), if_neg (by omega)]
    rw [e k q, e (k + 1) (by omega), ca_5 hA hB q (k + 1) (Nat.le_refl _)]
    rfl
  · have : k = 0 ∨ k = 1 ∨ k = 2 ∨ k = 3 ∨ k = 4 := by omega
    rcases this with rfl | rfl | rfl | rfl | rfl
    · show A * A + B * B = ca A B 0 1 + 1048576 * (ca A B 1 2 + 1048576 * (ca A B 2 3 + 1048576 * (ca A B 3 4 + 1048576 * ca A B 4 5)))
      have a1 := la_v hA
      have b1 := la_v hB
      have a3 := la_3 hA (j := 3) (by omega)
      have a4 := la_3 hA (j := 4) (by omega)
      have b3 := la_3 hB (j := 3) (by omega)
      have b4 := la_3 hB (j := 4) (by omega)
      show A * A + B * B = (0 + (la A 0 * la A 0 + la B 0 * la B 0)) + 1048576 * ((0 + (la A 0 * la A 1 + la B 0 * la B 1) + (la A 1 * la A 0 + la B 1 * la B 0)) + 1048576 * ((0 + (la A 0 * la A 2 + la B 0 * la B 2) + (la A 1 * la A 1 + la B 1 * la B 1) + (la A 2 * la A 0 + la B 2 * la B 0)) + 1048576 * ((0 + (la A 0 * la A 3 + la B 0 * la B 3) + (la A 1 * la A 2 + la B 1 * la B 2) + (la A 2 * la A 1 + la B 2 * la B 1) + (la A 3 * la A 0 + la B 3 * la B 0)) + 1048576 * (0 + (la A 0 * la A 4 + la B 0 * la B 4) + (la A 1 * la A 3 + la B 1 * la B 3) + (la A 2 * la A 2 + la B 2 * la B 2) + (la A 3 * la A 1 + la B 3 * la B 1) + (la A 4 * la A 0 + la B 4 * la B 0)))))
      rw [a3, a4, b3, b4]
      generalize la A 0 = x0 at *
      generalize la A 1 = x1 at *
      generalize la A 2 = x2 at *
      generalize la B 0 = z0 at *
      generalize la B 1 = z1 at *
      generalize la B 2 = z2 at *
      subst a1
      subst b1
      grind
    · rfl
    · rfl
    · rfl
    · show ca A B 4 5 = ca A B 4 5 + 1048576 * 0
      omega
section
variable {Lx : Nat} {I : Mi} {L : Ml} {e : Nat} {Q : Kq}
theorem l_346b {d a b k : Nat} (ha : a < 11) (hb : b < 11) (hk : k < 14) {A B : Int} (hA : RwAt L a A) (hB : RwAt L b B) (sA : S60 A) (sB : S60 B) {c : Int} (hc : 0 ≤ c ∧ c ≤ 1099511627776)
    (h : Wp 346 58 [(0, .ref 58), (1, .int (Int32.ofInt d)), (2, .int (Int32.ofInt a)), (3, .int (Int32.ofInt b)), (6, .int (Int32.ofInt k)), (7, .long (Int64.ofInt (c + ca A B k (k + 1)))), (9, .int (Int32.ofInt ((k + 1 : Nat) : Int)))] [] (gE Lx) I L e Q) :
    ∀ (s n : Nat), n + s = k + 1 → Wp 346 58 [(0, .ref 58), (1, .int (Int32.ofInt d)), (2, .int (Int32.ofInt a)), (3, .int (Int32.ofInt b)), (6, .int (Int32.ofInt k)), (7, .long (Int64.ofInt (c + ca A B k n))), (9, .int (Int32.ofInt n))] [] (gE Lx) I L e Q := by
  intro s
  induction s with
  | zero =>
    intro n hn
    have : n = k + 1 := by omega
    subst this
    exact h
  | succ s ih =>
    intro n hn
    have e1 : ∀ r : Nat, r < 11 → Int32.ofInt ((14 * r + k : Nat) : Int) - Int32.ofInt (n : Int) = Int32.ofInt ((14 * r + (k - n) : Nat) : Int) := fun r hr => by
      rw [sub32]
      congr 1
      omega
    refine s_346_58 ?_
    rw [ix, ix, ix, ix, ix, e1 a ha, e1 b hb, tncn (k := 14 * a + n) (by omega), tncn (k := 14 * b + n) (by omega), tncn (k := 14 * a + (k - n)) (by omega), tncn (k := 14 * b + (k - n)) (by omega), hA.l sA (j := n) (by omega), hA.l sA (j := k - n) (by omega), hB.l sB (j := n) (by omega), hB.l sB (j := k - n) (by omega), mul64, mul64, add64, add64]
    refine i_lt32 (by omega) (by omega) (fun _ => by omega) (fun _ => i_inb (by omega) (by omega) (i_inb (by omega) (by omega) (i_inb (by omega) (by omega) (i_inb (by omega) (by omega) ?_))))
    rw [add32]
    have := ih (n + 1) (by omega)
    rw [show c + ca A B k (n + 1) = c + ca A B k n + (la A n * la A (k - n) + la B n * la B (k - n)) by show c + (ca A B k n + (la A n * la A (k - n) + la B n * la B (k - n))) = _; omega] at this
    exact this
theorem l_346 {d a b : Nat} (hd : d < 11) (ha : a < 11) (hb : b < 11) (hda : a ≠ d) (hdb : b ≠ d) {A B : Int} {L0 : Ml} (hA : RwAt L0 a A) (hB : RwAt L0 b B) (sA : S60 A) (sB : S60 B) (h : ∀ L', FrL [(65, 14 * d, 14)] L0 L' → RwAt L' d (A * A + B * B) → Q (.inl none) (gE Lx) I L' e) :
    ∀ (s k : Nat), k + s = 14 → ∀ (L : Ml) (c : Int), FrL [(65, 14 * d, 14)] L0 L → (0 ≤ c ∧ c ≤ 1099511627776) → lw (A * A + B * B) k = c + cT A B k → (∀ j, j < k → L 65 (14 * d + j) = .ofInt (lw (A * A + B * B) j % 1048576)) →
    Wp 346 44 [(0, .ref 58), (1, .int (Int32.ofInt d)), (2, .int (Int32.ofInt a)), (3, .int (Int32.ofInt b)), (4, .long (Int64.ofInt c)), (6, .int (Int32.ofInt k))] [] (gE Lx) I L e Q := by
  have hV : 0 ≤ A * A + B * B ∧ A * A + B * B ≤ 2658455991569831745807614120560689152 := by
    have m1 := Int.mul_le_mul (show A ≤ 1152921504606846976 by omega) (show A ≤ 1152921504606846976 by omega) sA.1 (by decide)
    have m2 := Int.mul_le_mul (show B ≤ 1152921504606846976 by omega) (show B ≤ 1152921504606846976 by omega) sB.1 (by decide)
    have m3 := Int.mul_nonneg sA.1 sA.1
    have m4 := Int.mul_nonneg sB.1 sB.1
    omega
  have hRB : RB (A * A + B * B) := by unfold RB; omega
  intro s
  induction s with
  | zero =>
    intro k hk L c hf hc hv h1
    have : k = 14 := by omega
    subst this
    have t13 := lw_13 hRB
    have t13b := lw_n (v := A * A + B * B) 13
    have e13 : lw (A * A + B * B) 13 = 0 := by omega
    refine s_346_44 (i_lt32 (by omega) (by omega) (fun _ => by omega) (fun _ => h L hf ⟨hRB, fun j hj => h1 j (by omega), ?_⟩))
    rw [h1 13 (by omega), e13]
    rfl
  | succ s ih =>
    intro k hk L c hf hc hv h1
    have cb := ca_b (A := A) (B := B) (k := k) (k + 1)
    have hbb : c + ca A B k (k + 1) ≤ 1099511627776 + 30800000000000 := by omega
    have hA2 := hA.fr hf ha hd hda
    have hB2 := hB.fr hf hb hd hdb
    refine s_346_44 (i_lt32 (by omega) (by omega) (fun _ => ?_) (fun _ => by omega))
    have := l_346b (Lx := Lx) (I := I) (e := e) (Q := Q) (d := d) ha hb (k := k) (by omega) hA2 hB2 sA sB hc (by
      refine s_346_58 ?_
      rw [ix, ix, ix, ix, ix, tncn (k := 14 * d + k) (by omega), sh20 (by omega), an20 (by omega), add32]
      refine i_lt32 (by omega) (by omega) (fun _ => i_inb (by omega) (by omega) ?_) (fun _ => by omega)
      rw [cT_s sA sB] at hv
      have := ih (k + 1) (by omega) _ ((c + ca A B k (k + 1)) / 1048576) (FrL.wu hf (x := Int64.ofInt ((c + ca A B k (k + 1)) % 1048576)) (rwi d hd k (by omega))) (by omega) (by rw [lw_s, hv]; omega) (fun j hj => by
        by_cases w : j = k
        · rw [w, l_at, hv]
          congr 1
          omega
        · rw [l_ne (by omega)]
          exact h1 j (by omega))
      exact this) (k + 1) 0 (by omega)
    rw [show c + ca A B k 0 = c by show c + 0 = c; omega] at this
    exact this
theorem c_346 {d a b : Nat} (hd : d < 11) (ha : a < 11) (hb : b < 11) (hda : a ≠ d) (hdb : b ≠ d) (hab : a ≠ b) {A B : Int} (hA : RwAt L a A) (hB : RwAt L b B) (bA : -1152921504606846976 < A ∧ A < 1152921504606846976) (bB : -1152921504606846976 < B ∧ B < 1152921504606846976) (h : ∀ L', FrL [(65, 0, 0)] L L' → (∀ r v, r < 11 → r ≠ d → r ≠ a → r ≠ b → RwAt L r v → RwAt L' r v) → RwAt L' d (A * A + B * B) → Q (.inl none) (gE Lx) I L' e) :
    Wp 346 0 [(0, .ref 58), (1, .int (Int32.ofInt d)), (2, .int (Int32.ofInt a)), (3, .int (Int32.ofInt b))] [] (gE Lx) I L e Q := by
  have s3 : ∀ (L1 : Ml) (A' B' : Int), FrL [(65, 0, 0)] L L1 → (∀ r v, r < 11 → r ≠ a → r ≠ b → RwAt L r v → RwAt L1 r v) → RwAt L1 a A' → RwAt L1 b B' → S60 A' → S60 B' → A' * A' = A * A → B' * B' = B * B → Wp 346 38 [(0, .ref 58), (1, .int (Int32.ofInt d)), (2, .int (Int32.ofInt a)), (3, .int (Int32.ofInt b))] [] (gE Lx) I L1 e Q := by
    intro L1 A' B' hf k1 v1 v2 sA sB eA eB
    refine s_346_38 (l_346 hd ha hb hda hdb v1 v2 sA sB (fun L2 hf2 hv2 => ?_) 14 0 (by omega) L1 0 FrL.rf (by omega) (by show A' * A' + B' * B' = 0 + (A' * A' + B' * B'); omega) (fun j hj => by omega))
    rw [eA, eB] at hv2
    exact h L2 (FrL.tr hf hf2 rfl rfl) (fun r v hr hr1 hr2 hr3 hv => (k1 r v hr hr2 hr3 hv).fr hf2 hr hd hr1) hv2
  have s2 : ∀ (L1 : Ml) (A' : Int), FrL [(65, 14 * a, 14)] L L1 → RwAt L1 a A' → S60 A' → A' * A' = A * A → Wp 346 19 [(0, .ref 58), (1, .int (Int32.ofInt d)), (2, .int (Int32.ofInt a)), (3, .int (Int32.ofInt b))] [] (gE Lx) I L1 e Q := by
    intro L1 A' hf v1 sA eA
    have v2 := hB.fr hf hb ha (fun w => hab w.symm)
    refine s_346_19 (c_345 hb v2 (kcp_v rfl (s_346_24 ?_)))
    rcases Int.lt_trichotomy B 0 with q | q | q
    · rw [sg_n q]
      refine i_ltz (by omega) (fun _ => c_342 hb hb hb v2 v2 (by omega) (by omega) (by unfold RB; omega) (fun L2 hf2 hv2 => kcp_v rfl ?_)) (fun w => by omega)
      exact s3 L2 A' (B * -1 + B * 0) (FrL.tr hf hf2 rfl rfl) (fun r v hr h1 h2 hv => (hv.fr hf hr ha h1).fr hf2 hr hb h2) (v1.fr hf2 ha hb hab) hv2 sA (by unfold S60; omega) eA (by rw [show B * -1 + B * 0 = -B by omega, Int.neg_mul_neg])
    · rw [sg_z q]
      refine i_ltz (by omega) (fun w => by omega) (fun _ => s3 L1 A' B (hf.up rfl) (fun r v hr h1 h2 hv => hv.fr hf hr ha h1) v1 v2 sA (by unfold S60; omega) eA rfl)
    · rw [sg_p q]
      refine i_ltz (by omega) (fun w => by omega) (fun _ => s3 L1 A' B (hf.up rfl) (fun r v hr h1 h2 hv => hv.fr hf hr ha h1) v1 v2 sA (by unfold S60; omega) eA rfl)
  refine s_346_0 (c_345 ha hA (kcp_v rfl (s_346_5 ?_)))
  rcases Int.lt_trichotomy A 0 with q | q | q
  · rw [sg_n q]
    refine i_ltz (by omega) (fun _ => c_342 ha ha ha hA hA (by omega) (by omega) (by unfold RB; omega) (fun L2 hf2 hv2 => kcp_v rfl ?_)) (fun w => by omega)
    exact s2 L2 (A * -1 + A * 0) hf2 hv2 (by unfold S60; omega) (by rw [show A * -1 + A * 0 = -A by omega, Int.neg_mul_neg])
  · rw [sg_z q]
    exact i_ltz (by omega) (fun w => by omega) (fun _ => s2 L A FrL.rf hA (by unfold S60; omega) rfl)
  · rw [sg_p q]
    exact i_ltz (by omega) (fun w => by omega) (fun _ => s2 L A FrL.rf hA (by unfold S60; omega) rfl)
/-- four rows hold what is seen -/
def RfAt (L : Ml) (b : Nat) (w : Wv) : Prop := RwAt L b w.1 ∧ RwAt L (b + 1) w.2.1 ∧ RwAt L (b + 2) w.2.2.1 ∧ RwAt L (b + 3) w.2.2.2
theorem RfAt.cg {L L' : Ml} {b : Nat} {w : Wv} (h : RfAt L b w) (e : L' 65 = L 65) : RfAt L' b w := ⟨h.1.cg e, h.2.1.cg e, h.2.2.1.cg e, h.2.2.2.cg e⟩
theorem c_343 {w : Wv} (hw : RfAt L 4 w) (h : ∀ L', FrL [(65, 0, 0)] L L' → RfAt L' 0 w → Q (.inl none) (gE Lx) I L' e) : Wp 343 2 [(0, .ref 58), (1, .int (Int32.ofInt 0))] [] (gE Lx) I L e Q := by
  obtain ⟨w4, w5, w6, w7⟩ := hw
  refine s_343_2 (i_lt32 (by omega) (by omega) (fun _ => ?_) (fun k => by omega))
  rw [add32, add32]
  refine c_344 (a := 4) (d := 0) (by omega) (by omega) (by omega) w4 (fun L1 hf1 v0 => kcp_v rfl (s_343_17 ?_))
  rw [add32]
  refine s_343_2 (i_lt32 (by omega) (by omega) (fun _ => ?_) (fun k => by omega))
  rw [add32, add32]
  refine c_344 (a := 5) (d := 1) (by omega) (by omega) (by omega) (w5.fr (d := 0) hf1 (by omega) (by omega) (by omega)) (fun L2 hf2 v1 => kcp_v rfl (s_343_17 ?_))
  rw [add32]
  refine s_343_2 (i_lt32 (by omega) (by omega) (fun _ => ?_) (fun k => by omega))
  rw [add32, add32]
  refine c_344 (a := 6) (d := 2) (by omega) (by omega) (by omega) ((w6.fr (d := 0) hf1 (by omega) (by omega) (by omega)).fr (d := 1) hf2 (by omega) (by omega) (by omega)) (fun L3 hf3 v2 => kcp_v rfl (s_343_17 ?_))
  rw [add32]
  refine s_343_2 (i_lt32 (by omega) (by omega) (fun _ => ?_) (fun k => by omega))
  rw [add32, add32]
  refine c_344 (a := 7) (d := 3) (by omega) (by omega) (by omega) (((w7.fr (d := 0) hf1 (by omega) (by omega) (by omega)).fr (d := 1) hf2 (by omega) (by omega) (by omega)).fr (d := 2) hf3 (by omega) (by omega) (by omega)) (fun L4 hf4 v3 => kcp_v rfl (s_343_17 ?_))
  rw [add32]
  refine s_343_2 (i_lt32 (by omega) (by omega) (fun k => by omega) (fun _ => ?_))
  refine h L4 (FrL.tr (S := [(65, 0, 0)]) (FrL.tr (S := [(65, 0, 0)]) hf1 hf2 rfl rfl) (FrL.tr (S := [(65, 0, 0)]) hf3 hf4 rfl rfl) rfl rfl) ⟨?_, ?_, ?_, v3⟩
  · exact ((v0.fr (d := 1) hf2 (by omega) (by omega) (by omega)).fr (d := 2) hf3 (by omega) (by omega) (by omega)).fr (d := 3) hf4 (by omega) (by omega) (by omega)
  · exact (v1.fr (d := 2) hf3 (by omega) (by omega) (by omega)).fr (d := 3) hf4 (by omega) (by omega) (by omega)
  · exact v2.fr (d := 3) hf4 (by omega) (by omega) (by omega)
end
