/-! The number of a TANGENT; drift. -/
set_option maxRecDepth 100000 in
theorem tg_m : ∀ a : Nat, a < 25 → ∀ b : Nat, b < 13 → decide (Int.gcd ((a : Int) - 12) (b : Int) = 1 ∧ ((0 : Int) < (b : Int) ∨ (a : Int) - 12 = 1)) = true → decide (((a : Int) - 12, (b : Int)) ∈ TGL) = true := by decide +kernel
set_option maxRecDepth 100000 in
theorem tg_nd : TGL.Nodup := by decide +kernel
theorem TGL_n : TGL.length = 184 := by decide +kernel
theorem tg_g {k : Nat} (h : k < 184) : (tgU k, tgL k) = TGL[k]'(by rw [TGL_n]; exact h) := by
  unfold tgU tgL
  rw [List.getD_eq_getElem?_getD, List.getElem?_eq_getElem (by rw [TGL_n]; exact h), Option.getD_some]
theorem tg_x {p q : Int} (h : isT p q) : ∃ k, k < 184 ∧ tgU k = p ∧ tgL k = q := by
  obtain ⟨a, b, ha, hb, rfl, rfl, h1, h2⟩ := isT_ab h
  have m := of_decide_eq_true (tg_m a ha b hb (decide_eq_true ⟨h1, h2⟩))
  obtain ⟨k, hk, e⟩ := List.mem_iff_getElem.mp m
  have hk2 : k < 184 := by rw [TGL_n] at hk; exact hk
  have := tg_g hk2
  rw [e] at this
  exact ⟨k, hk2, congrArg Prod.fst this, congrArg Prod.snd this⟩
theorem tg_j {j k : Nat} (hj : j < 184) (hk : k < 184) (h1 : tgU j = tgU k) (h2 : tgL j = tgL k) : j = k := by
  have e : TGL[j]'(by rw [TGL_n]; exact hj) = TGL[k]'(by rw [TGL_n]; exact hk) := by rw [← tg_g hj, ← tg_g hk, h1, h2]
  have w := List.pairwise_iff_getElem.mp tg_nd
  rcases Nat.lt_trichotomy j k with q | q | q
  · exact absurd e (w j k (by rw [TGL_n]; exact hj) (by rw [TGL_n]; exact hk) q)
  · exact q
  · exact absurd e.symm (w k j (by rw [TGL_n]; exact hk) (by rw [TGL_n]; exact hj) q)
noncomputable def tgI (p q : Int) : Nat := Classical.epsilon (fun k => k < 184 ∧ tgU k = p ∧ tgL k = q)
theorem tgI_s {p q : Int} (h : isT p q) : tgI p q < 184 ∧ tgU (tgI p q) = p ∧ tgL (tgI p q) = q := Classical.epsilon_spec (p := fun k => k < 184 ∧ tgU k = p ∧ tgL k = q) (tg_x h)
noncomputable def drP (ch : Ch) (j k : Nat) : Int := tpt (ecF (wSeen (chTrim ch j (tgU k) (tgL k)) ch.2.2.2.1))
noncomputable def drN (ch : Ch) (j : Nat) : Nat := (tgI (ch.2.2.2.2 j).2.1 (ch.2.2.2.2 j).2.2 + 1) % 184
noncomputable def drV (ch : Ch) (j : Nat) : Nat := (tgI (ch.2.2.2.2 j).2.1 (ch.2.2.2.2 j).2.2 + 183) % 184
noncomputable def drB (ch : Ch) : Int := tpt (ecF (wSeen ch ch.2.2.2.1))
noncomputable def dr (ch : Ch) (j : Nat) : Int := (if drP ch j (drV ch j) < drP ch j (drN ch j) then drP ch j (drN ch j) else drP ch j (drV ch j)) - drB ch
noncomputable def drS (ch : Ch) : Nat → Int × Int
  | 0 => (-1, 0)
  | i + 1 => if (drS ch i).1 = -1 ∨ (drS ch i).2 < dr ch i then ((i : Int), dr ch i) else drS ch i
noncomputable def spDri (ch : Ch) (wh : Int) : Nat × Int := if wh < 0 ∨ 1 < wh then (1, 0) else (0, if wh = 0 then (drS ch ch.2.2.2.1).1 else (drS ch ch.2.2.2.1).2)
theorem drP_ok {ch : Ch} (hok : ChOk ch) {j k : Nat} (hj : j < ch.2.2.2.1) (hk : k < 184) : efok (ecF (wSeen (chTrim ch j (tgU k) (tgL k)) ch.2.2.2.1)) := ec_f (chTrim_ok hok hj (tg_t hk)) (Nat.le_refl _)
theorem dr_b {ch : Ch} (hok : ChOk ch) {j : Nat} (hj : j < ch.2.2.2.1) : -10000 ≤ dr ch j ∧ dr ch j ≤ 10000 := by
  have a := tpt_b (drP_ok hok hj (k := drN ch j) (Nat.mod_lt _ (by decide)))
  have b := tpt_b (drP_ok hok hj (k := drV ch j) (Nat.mod_lt _ (by decide)))
  have c := tpt_b (ec_f hok (Nat.le_refl ch.2.2.2.1))
  have a : 0 ≤ drP ch j (drN ch j) ∧ drP ch j (drN ch j) ≤ 10000 := a
  have b : 0 ≤ drP ch j (drV ch j) ∧ drP ch j (drV ch j) ≤ 10000 := b
  have c : 0 ≤ drB ch ∧ drB ch ≤ 10000 := c
  unfold dr
  split <;> omega
theorem drS_b {ch : Ch} (hok : ChOk ch) : ∀ i, i ≤ ch.2.2.2.1 → (-1 ≤ (drS ch i).1 ∧ (drS ch i).1 < i) ∧ (-10000 ≤ (drS ch i).2 ∧ (drS ch i).2 ≤ 10000) := by
  intro i
  induction i with
  | zero => intro _; show (-1 ≤ (-1 : Int) ∧ (-1 : Int) < ((0 : Nat) : Int)) ∧ (-10000 ≤ (0 : Int) ∧ (0 : Int) ≤ 10000); omega
  | succ i ih =>
    intro hi
    have b := dr_b hok (j := i) (by omega)
    have c := ih (by omega)
    unfold drS
    split
    · dsimp only; omega
    · omega
section
variable {Lx : Nat} {I : Mi} {L : Ml} {e : Nat} {Q : Kq}
theorem l_72 (hT : TabAt I) {k : Nat} (hk : k < 184) (h : Q (.inl (some (.int (Int32.ofInt k)))) (gE Lx) I L e) : ∀ (s j : Nat), j + s = k → Wp 72 3 [(0, .ref 2), (1, .long (Int64.ofInt (tgU k))), (3, .long (Int64.ofInt (tgL k))), (5, .int (Int32.ofInt j))] [] (gE Lx) I L e Q := by
  have tb := tg_b hk
  intro s
  induction s with
  | zero =>
    intro j hj
    have : j = k := by omega
    subst this
    refine s_72_3 ?_
    rw [tncn (k := j) (by omega), (hT j hk).1, (hT j hk).2, i2l (by omega), i2l (by omega)]
    exact i_lt32 (by omega) (by omega) (fun _ => i_inb (by omega) hk (i_eq64 (by omega) (by omega) (fun _ => i_inb (by omega) hk (i_eq64 (by omega) (by omega) (fun _ => h) (fun w => absurd rfl w))) (fun w => absurd rfl w))) (fun _ => by omega)
  | succ s ih =>
    intro j hj
    have hj2 : j < 184 := by omega
    have tj := tg_b hj2
    have nx : Wp 72 3 [(0, .ref 2), (1, .long (Int64.ofInt (tgU k))), (3, .long (Int64.ofInt (tgL k))), (5, .int (Int32.ofInt (j : Int) + Int32.ofInt 1))] [] (gE Lx) I L e Q := by
      rw [add32]
      exact ih (j + 1) (by omega)
    refine s_72_3 ?_
    rw [tncn (k := j) (by omega), (hT j hj2).1, (hT j hj2).2, i2l (by omega), i2l (by omega)]
    refine i_lt32 (by omega) (by omega) (fun _ => i_inb (by omega) hj2 (i_eq64 (by omega) (by omega) (fun q1 => i_inb (by omega) hj2 (i_eq64 (by omega) (by omega) (fun q2 => ?_) (fun _ => nx))) (fun _ => nx))) (fun _ => by omega)
    have := tg_j hj2 hk q1 q2
    omega
theorem c_72 (hT : TabAt I) {p q : Int} (ht : isT p q) (h : Q (.inl (some (.int (Int32.ofInt (tgI p q : Int))))) (gE Lx) I L e) : Wp 72 0 [(0, .ref 2), (1, .long (Int64.ofInt p)), (3, .long (Int64.ofInt q))] [] (gE Lx) I L e Q := by
  obtain ⟨h1, h2, h3⟩ := tgI_s ht
  have := l_72 (Lx := Lx) (L := L) (e := e) (Q := Q) hT h1 h (tgI p q) 0 (by omega)
  rw [h2, h3] at this
  exact s_72_0 this
theorem l_334 (hT : TabRt I) {k : Nat} (hk : k < 184) (h : Q (.inl (some (.int (Int32.ofInt k)))) (gE Lx) I L e) : ∀ (s j : Nat), j + s = k → Wp 334 2 [(0, .ref 58), (1, .int (Int32.ofInt (tgU k))), (2, .int (Int32.ofInt (tgL k))), (3, .int (Int32.ofInt j))] [] (gE Lx) I L e Q := by
  have tb := tg_b hk
  intro s
  induction s with
  | zero =>
    intro j hj
    have : j = k := by omega
    subst this
    refine s_334_2 ?_
    rw [tncn (k := j) (by omega), (hT.2 j hk).1, (hT.2 j hk).2]
    exact i_inb (by omega) hk (i_eq32 (by omega) (by omega) (fun _ => i_inb (by omega) hk (i_eq32 (by omega) (by omega) (fun _ => h) (fun w => absurd rfl w))) (fun w => absurd rfl w))
  | succ s ih =>
    intro j hj
    have hj2 : j < 184 := by omega
    have tj := tg_b hj2
    have nx : Wp 334 2 [(0, .ref 58), (1, .int (Int32.ofInt (tgU k))), (2, .int (Int32.ofInt (tgL k))), (3, .int (Int32.ofInt (j : Int) + Int32.ofInt 1))] [] (gE Lx) I L e Q := by
      rw [add32]
      exact ih (j + 1) (by omega)
    refine s_334_2 ?_
    rw [tncn (k := j) (by omega), (hT.2 j hj2).1, (hT.2 j hj2).2]
    refine i_inb (by omega) hj2 (i_eq32 (by omega) (by omega) (fun q1 => i_inb (by omega) hj2 (i_eq32 (by omega) (by omega) (fun q2 => ?_) (fun _ => nx))) (fun _ => nx))
    have := tg_j hj2 hk q1 q2
    omega
theorem c_334 (hT : TabRt I) {p q : Int} (ht : isT p q) (h : Q (.inl (some (.int (Int32.ofInt (tgI p q : Int))))) (gE Lx) I L e) : Wp 334 0 [(0, .ref 58), (1, .int (Int32.ofInt p)), (2, .int (Int32.ofInt q))] [] (gE Lx) I L e Q := by
  obtain ⟨h1, h2, h3⟩ := tgI_s ht
  have := l_334 (Lx := Lx) (L := L) (e := e) (Q := Q) hT h1 h (tgI p q) 0 (by omega)
  rw [h2, h3] at this
  exact s_334_0 this
theorem n_200 {w : Wv} (hW : WvAt L 16 w) (h : efok (ecF w)) (hq : Q (.inl (some (.int (Int32.ofInt (tpt (ecF w)))))) (gE Lx) I L e) : Wp 200 6 [(0, .ref 1)] [] (gE Lx) I L e Q := by
  have tb := tpt_b h
  obtain ⟨h1, h2, h3⟩ := h
  obtain ⟨w0, w1, w2, w3⟩ := hW
  have e1 : (L 16 0 + L 16 2) * (L 16 0 + L 16 2) + (L 16 1 + L 16 3) * (L 16 1 + L 16 3) = Int64.ofInt (ecF w).2 := by rw [w0, w1, w2, w3]; simp only [add64, mul64]; rfl
  have e2 : (L 16 0 - L 16 2) * (L 16 0 - L 16 2) + (L 16 1 - L 16 3) * (L 16 1 - L 16 3) = Int64.ofInt (ecF w).1 := by rw [w0, w1, w2, w3]; simp only [sub64, add64, mul64]; rfl
  refine s_200_6 ?_
  rw [e1, e2, mul64]
  refine i_eq64 (by omega) (by omega) (fun q => by omega) (fun _ => i_nz64 (by omega) (by omega) ?_)
  rw [dvp (by omega) (by omega) h2.1 (by omega), l2i]
  exact hq
theorem c_199 {ch : Ch} (hok : ChOk ch) (hc : ChAt I 5 ch) (hT : TabAt I) {j : Nat} (hj : j < ch.2.2.2.1) (h : ∀ L', Q (.inl (some (.int (Int32.ofInt (if drP ch j (drV ch j) < drP ch j (drN ch j) then drP ch j (drN ch j) else drP ch j (drV ch j)))))) (gE Lx) I L' e) :
    Wp 199 0 [(0, .ref 1), (1, .int (Int32.ofInt j))] [] (gE Lx) I L e Q := by
  have h4 := hok.2.2.2.1
  have hel := hok.2.2.2.2 j hj
  obtain ⟨r1, r2, r3⟩ := el_r hel
  obtain ⟨e1, e2, e4⟩ := hc.2.2.2.2 j hj
  have hN : drN ch j < 184 := Nat.mod_lt _ (by decide)
  have hV : drV ch j < 184 := Nat.mod_lt _ (by decide)
  have oN := drP_ok hok hj hN
  have oV := drP_ok hok hj hV
  have tN := tpt_b oN
  have tV := tpt_b oV
  have tN : 0 ≤ drP ch j (drN ch j) ∧ drP ch j (drN ch j) ≤ 10000 := tN
  have tV : 0 ≤ drP ch j (drV ch j) ∧ drP ch j (drV ch j) ≤ 10000 := tV
  have hi := (tgI_s hel.2).1
  have eN : drN ch j = (tgI (ch.2.2.2.2 j).2.1 (ch.2.2.2.2 j).2.2 + 1) % 184 := rfl
  have eV : drV ch j = (tgI (ch.2.2.2.2 j).2.1 (ch.2.2.2.2 j).2.2 + 183) % 184 := rfl
  refine s_199_0 (c_14 (Or.inl rfl) (by omega) (kcp_v rfl (s_199_12 (c_15 (Or.inl rfl) (by omega) (kcp_v rfl (s_199_21 ?_))))))
  rw [e2, e4, i2l r2, i2l r3]
  refine c_72 hT hel.2 (kcp_v rfl (s_199_25 (c_106 (Or.inr rfl) hok hc (show j ≤ ch.2.2.2.1 by omega) (fun L1 hf1 hW1 => kcp_v rfl (s_199_38 ?_)))))
  generalize tgI (ch.2.2.2.2 j).2.1 (ch.2.2.2.2 j).2.2 = k at *
  have step2 : ∀ L2, WvAt L2 15 (wSeen ch j) → Wp 199 59 [(0, .ref 1), (1, .int (Int32.ofInt j)), (2, .int (Int32.ofInt k))] [.int (Int32.ofInt (drP ch j (drN ch j)))] (gE Lx) I L2 e Q := by
    intro L2 hW2
    have fin : ∀ L3, Wp 199 78 [(0, .ref 1), (3, .int (Int32.ofInt (drP ch j (drN ch j))))] [.int (Int32.ofInt (drP ch j (drV ch j)))] (gE Lx) I L3 e Q := fun L3 => by
      have := h L3
      refine s_199_78 (i_lt32 (by omega) (by omega) (fun q => ?_) (fun q => ?_))
      · rw [if_pos q] at this; exact this
      · rw [if_neg (by omega)] at this; exact this
    refine s_199_59 ?_
    rw [sub32]
    refine i_zlt (by omega) (fun q => ?_) (fun q => ?_)
    · have ek : drV ch j = k - 1 := by omega
      have := c_178 (Lx := Lx) (e := e) (Q := kcp (Wp 200) 200 3 0 [(0, .ref 1)] 71 [] (kcp (Wp 199) 199 75 0 [(0, .ref 1), (3, .int (Int32.ofInt (drP ch j (drN ch j))))] 71 [] Q)) hok hc hT hj (k := drV ch j) hV (L := ul (ul (ul (ul L2 16 0 (L2 15 0)) 16 1 (L2 15 1)) 16 2 (L2 15 2)) 16 3 (L2 15 3)) ⟨hW2.1, hW2.2.1, hW2.2.2.1, hW2.2.2.2⟩ (fun L3 hf3 hW3 => kcp_v rfl (n_200 hW3 oV (kcp_v rfl (fin L3))))
      rw [ek, show ((k - 1 : Nat) : Int) = (k : Int) - 1 by omega] at this
      exact this
    · have ek : drV ch j = 183 := by omega
      have := c_178 (Lx := Lx) (e := e) (Q := kcp (Wp 200) 200 3 0 [(0, .ref 1)] 71 [] (kcp (Wp 199) 199 75 0 [(0, .ref 1), (3, .int (Int32.ofInt (drP ch j (drN ch j))))] 71 [] Q)) hok hc hT hj (k := drV ch j) hV (L := ul (ul (ul (ul L2 16 0 (L2 15 0)) 16 1 (L2 15 1)) 16 2 (L2 15 2)) 16 3 (L2 15 3)) ⟨hW2.1, hW2.2.1, hW2.2.2.1, hW2.2.2.2⟩ (fun L3 hf3 hW3 => kcp_v rfl (n_200 hW3 oV (kcp_v rfl (fin L3))))
      rw [ek] at this
      exact this
  rw [add32]
  refine i_lt32 (by omega) (by omega) (fun q => ?_) (fun q => ?_)
  · have ek : drN ch j = k + 1 := by omega
    have := c_178 (Lx := Lx) (e := e) (Q := kcp (Wp 200) 200 3 0 [(0, .ref 1)] 71 [] (kcp (Wp 199) 199 56 0 [(0, .ref 1), (1, .int (Int32.ofInt j)), (2, .int (Int32.ofInt k))] 71 [] Q)) hok hc hT hj (k := drN ch j) hN (L := ul (ul (ul (ul L1 16 0 (L1 15 0)) 16 1 (L1 15 1)) 16 2 (L1 15 2)) 16 3 (L1 15 3)) ⟨hW1.1, hW1.2.1, hW1.2.2.1, hW1.2.2.2⟩ (fun L3 hf3 hW3 => kcp_v rfl (n_200 hW3 oN (kcp_v rfl (step2 L3 (hW1.cg (hf3.at (k := 15) rfl))))))
    rw [ek] at this
    exact this
  · have ek : drN ch j = 0 := by omega
    have := c_178 (Lx := Lx) (e := e) (Q := kcp (Wp 200) 200 3 0 [(0, .ref 1)] 71 [] (kcp (Wp 199) 199 56 0 [(0, .ref 1), (1, .int (Int32.ofInt j)), (2, .int (Int32.ofInt k))] 71 [] Q)) hok hc hT hj (k := drN ch j) hN (L := ul (ul (ul (ul L1 16 0 (L1 15 0)) 16 1 (L1 15 1)) 16 2 (L1 15 2)) 16 3 (L1 15 3)) ⟨hW1.1, hW1.2.1, hW1.2.2.1, hW1.2.2.2⟩ (fun L3 hf3 hW3 => kcp_v rfl (n_200 hW3 oN (kcp_v rfl (step2 L3 (hW1.cg (hf3.at (k := 15) rfl))))))
    rw [ek] at this
    exact this
theorem l_197 {ch : Ch} (hok : ChOk ch) (hc : ChAt I 5 ch) (hT : TabAt I) {wh : Int} (hwh : R32 wh) (fin : ∀ L', Q (.inl (some (.int (Int32.ofInt (if wh = 0 then (drS ch ch.2.2.2.1).1 else (drS ch ch.2.2.2.1).2))))) (gE Lx) I L' e) :
    ∀ (s j : Nat), j + s = ch.2.2.2.1 → ∀ L : Ml, Wp 197 19 [(0, .ref 1), (1, .int (Int32.ofInt wh)), (2, .int (Int32.ofInt (drB ch))), (3, .int (Int32.ofInt (drS ch j).1)), (4, .int (Int32.ofInt (drS ch j).2)), (5, .int (Int32.ofInt j))] [] (gE Lx) I L e Q := by
  have h4 := hok.2.2.2.1
  intro s
  induction s with
  | zero =>
    intro j hj L
    have : j = ch.2.2.2.1 := by omega
    subst this
    have := fin L
    refine s_197_19 ?_
    rw [hc.2.2.2.1]
    refine i_lt32 (by omega) (by omega) (fun _ => by omega) (fun _ => i_eqz hwh (fun q => ?_) (fun q => ?_))
    · rw [if_pos q] at this; exact this
    · rw [if_neg q] at this; exact this
  | succ s ih =>
    intro j hj L
    have sb := drS_b hok j (by omega)
    have db := dr_b hok (j := j) (by omega)
    refine s_197_19 ?_
    rw [hc.2.2.2.1]
    refine i_lt32 (by omega) (by omega) (fun _ => c_199 hok hc hT (by omega) (fun L1 => kcp_v rfl (s_197_37 ?_))) (fun _ => by omega)
    rw [sub32, show (if drP ch j (drV ch j) < drP ch j (drN ch j) then drP ch j (drN ch j) else drP ch j (drV ch j)) - drB ch = dr ch j from rfl, add32]
    have nx := ih (j + 1) (by omega) L1
    have take : (drS ch j).1 = -1 ∨ (drS ch j).2 < dr ch j → Wp 197 19 [(0, .ref 1), (1, .int (Int32.ofInt wh)), (2, .int (Int32.ofInt (drB ch))), (3, .int (Int32.ofInt j)), (4, .int (Int32.ofInt (dr ch j))), (5, .int (Int32.ofInt ((j : Int) + 1)))] [] (gE Lx) I L1 e Q := fun q => by
      have e1 : drS ch (j + 1) = ((j : Int), dr ch j) := if_pos q
      rw [e1] at nx
      exact nx
    refine i_eq32 (by omega) (by omega) (fun q => take (Or.inl q)) (fun q1 => i_lt32 (by omega) (by omega) (fun q => take (Or.inr q)) (fun q2 => ?_))
    have e1 : drS ch (j + 1) = drS ch j := if_neg (by omega)
    rw [e1] at nx
    exact nx
theorem h_411 {ch : Ch} (hok : ChOk ch) (hc : ChAt I 5 ch) (hT : TabAt I) {wh : Int} (hwh : R32 wh) (h : CQ Lx I e Q (spDri ch wh).1 (spDri ch wh).2) :
    Wp 411 0 [(0, .ref 1), (1, .int (Int32.ofInt wh)), (2, .ref 70)] [] (gE Lx) I L e Q := by
  have h4 := hok.2.2.2.1
  unfold spDri at h
  have one : wh < 0 ∨ 1 < wh → Q (.inl (some (.int (Int32.ofInt 1)))) (gE Lx) I L (e + 1) := fun q => by
    rw [if_pos q] at h
    exact h.mk (c := 1) FrI.rf (by omega) rfl (fun z => by cases z)
  refine s_411_0 ?_
  rw [hc.2.2.2.1]
  refine i_ltz hwh (fun q => one (by omega)) (fun a1 => i_lt32 (by omega) hwh (fun q => one (by omega)) (fun a2 => ?_))
  rw [if_neg (by omega)] at h
  have hG := wSeen_g hok ch.2.2.2.1 (Nat.le_refl _)
  have hB : BW (wSeen ch ch.2.2.2.1) := (wSeen_B hok (Nat.le_refl _)).le (by decide)
  refine c_106 (Or.inl rfl) hok hc (Nat.le_refl _) (fun L1 hf1 hW1 => kcp_v rfl (s_198_18 (c_128 hW1 hB hG (fun L2 hf2 => kcp_v rfl (s_198_22 (kcp_v rfl (s_197_10 ?_)))))))
  have sb := drS_b hok ch.2.2.2.1 (Nat.le_refl _)
  exact l_197 hok hc hT hwh (fun L3 => kcp_v rfl (s_411_7 (i_inb0 (by decide) (h.mk (c := 0) FrI.rf (by omega) rfl (fun _ => by
    rw [o70, i2l (by split <;> omega)]))))) ch.2.2.2.1 0 (by omega) L2
theorem n_320 {w : Wv} (ok : efok (ecF w)) (h : Q (.inl (some (.int (Int32.ofInt (tpt (ecF w)))))) (gE Lx) I L e) : Wp 320 0 [(0, .long (Int64.ofInt (fU (eUp w) (eLo w)))), (2, .long (Int64.ofInt (fL (eUp w) (eLo w))))] [] (gE Lx) I L e Q := by
  have tr : 10000 * fU (eUp w) (eLo w) / fL (eUp w) (eLo w) = tpt (ecF w) := tpt_red ok
  obtain ⟨o1, o2, o3⟩ := ok
  have o1 : 0 ≤ eUp w ∧ eUp w ≤ 900000000000000 := o1
  have o2 : 0 < eLo w ∧ eLo w ≤ 900000000000000 := o2
  have o3 : eUp w ≤ eLo w := o3
  have cj := fr_b (n := eUp w) (d := eLo w) o1.1 o2.1
  have hul : fU (eUp w) (eLo w) ≤ fL (eUp w) (eLo w) := by
    obtain ⟨g, hg, e1, e2⟩ := red o1.1 (show 0 ≤ eLo w by omega) (by omega)
    exact Int.le_of_mul_le_mul_left (by rw [← e1, ← e2]; exact o3) hg
  rw [← tr] at h
  exact c_320 (by omega) (by omega) hul h
def drF : Fr := [(58, 8, 6)]
theorem c_335 {ch : Ch} (hok : ChOk ch) (hc : BnAt I 59 0 ch) (hT : TabRt I) {j : Nat} (hj : j < ch.2.2.2.1) {z : Int} {k : Nat} (hz : -1 ≤ z ∧ z ≤ 184) (hk : (k : Int) = (z + 184) % 184) (h : ∀ L', FrL drF L L' → Q (.inl (some (.int (Int32.ofInt (drP ch j k))))) (gE Lx) I L' e) :
    Wp 335 0 [(0, .ref 58), (1, .int (Int32.ofInt j)), (2, .int (Int32.ofInt z))] [] (gE Lx) I L e Q := by
  have hk2 : k < 184 := by omega
  have ok := drP_ok hok hj hk2
  have hok2 := chTrim_ok hok hj (tg_t hk2)
  refine s_335_0 ?_
  rw [hT.1, add32, dv32 (by omega) (by omega) (by omega), Int.tdiv_eq_ediv_of_nonneg (by omega), mul32, sub32, show (z + 184) - (z + 184) / 184 * 184 = (k : Int) by omega]
  rw [if_neg (show ¬ (Int32.ofInt 184 = 0) by decide)]
  refine c_324 hok hc hT hj hk2 (fun L1 r hf1 hr hs hB => kcp_v rfl (s_335_16 (c_240 hr hs hB (wSeen_g hok2 _ (Nat.le_refl _)) (fun L2 hf2 u8 u9 => kcp_v rfl (s_335_20 ?_)))))
  rw [u8, u9]
  exact n_320 ok (kcp_v rfl (s_335_31 (h L2 (FrL.tr hf1 hf2 rfl rfl))))
theorem l_333 {ch : Ch} (hok : ChOk ch) (hc : BnAt I 59 0 ch) (hT : TabRt I) {wh : Int} (hwh : R32 wh) {L0 : Ml} (fin : ∀ L', L' 70 = L0 70 → Q (.inl (some (.int (Int32.ofInt (if wh = 0 then (drS ch ch.2.2.2.1).1 else (drS ch ch.2.2.2.1).2))))) (gE Lx) I L' e) :
    ∀ (s j : Nat), j + s = ch.2.2.2.1 → ∀ L : Ml, L 70 = L0 70 → Wp 333 76 [(0, .ref 58), (1, .int (Int32.ofInt wh)), (2, .int (Int32.ofInt (drB ch))), (3, .int (Int32.ofInt (drS ch j).1)), (4, .int (Int32.ofInt (drS ch j).2)), (5, .int (Int32.ofInt j))] [] (gE Lx) I L e Q := by
  have h4 := hok.2.2.2.1
  have e3 : I 59 3 = Int32.ofInt (ch.2.2.2.1 : Int) := hc.2.2.2.1
  intro s
  induction s with
  | zero =>
    intro j hj L hl
    have : j = ch.2.2.2.1 := by omega
    subst this
    have := fin L hl
    refine s_333_76 ?_
    rw [e3]
    refine i_lt32 (by omega) (by omega) (fun _ => by omega) (fun _ => i_eqz hwh (fun q => ?_) (fun q => ?_))
    · rw [if_pos q] at this; exact this
    · rw [if_neg q] at this; exact this
  | succ s ih =>
    intro j hj L hl
    have sb := drS_b hok j (by omega)
    have db := dr_b hok (j := j) (by omega)
    have hel := hok.2.2.2.2 j (by omega)
    obtain ⟨r1, r2, r3⟩ := el_r hel
    have hi := (tgI_s hel.2).1
    have tN : 0 ≤ drP ch j (drN ch j) ∧ drP ch j (drN ch j) ≤ 10000 := tpt_b (drP_ok hok (by omega) (k := drN ch j) (Nat.mod_lt _ (by decide)))
    have tV : 0 ≤ drP ch j (drV ch j) ∧ drP ch j (drV ch j) ≤ 10000 := tpt_b (drP_ok hok (by omega) (k := drV ch j) (Nat.mod_lt _ (by decide)))
    have tB : 0 ≤ drB ch ∧ drB ch ≤ 10000 := tpt_b (ec_f hok (Nat.le_refl ch.2.2.2.1))
    have eN : drN ch j = (tgI (ch.2.2.2.2 j).2.1 (ch.2.2.2.2 j).2.2 + 1) % 184 := rfl
    have eV : drV ch j = (tgI (ch.2.2.2.2 j).2.1 (ch.2.2.2.2 j).2.2 + 183) % 184 := rfl
    refine s_333_76 ?_
    rw [e3]
    refine i_lt32 (by omega) (by omega) (fun _ => c_223 hc (by omega) h4 (kcp_v rfl (s_333_92 (c_224 hc (by omega) h4 (kcp_v rfl (s_333_98 (c_334 hT hel.2 (kcp_v rfl (s_333_101 ?_))))))))) (fun _ => by omega)
    rw [add32]
    refine c_335 hok hc hT (by omega) (k := drN ch j) (by omega) (by omega) (fun L1 hf1 => kcp_v rfl (s_333_113 ?_))
    rw [sub32, sub32]
    refine c_335 hok hc hT (by omega) (k := drV ch j) (by omega) (by omega) (fun L2 hf2 => kcp_v rfl (s_333_127 ?_))
    have hl2 : L2 70 = L0 70 := (hf2.at rfl).trans ((hf1.at rfl).trans hl)
    have nx := ih (j + 1) (by omega) L2 hl2
    rw [sub32]
    have ed : dr ch j = (if drP ch j (drV ch j) < drP ch j (drN ch j) then drP ch j (drN ch j) else drP ch j (drV ch j)) - drB ch := rfl
    have go : ∀ d : Int, d = dr ch j → (if Int32.ofInt (drS ch j).1 = Int32.ofInt (-1) then
      Wp 333 76 [(0, .ref 58), (1, .int (Int32.ofInt wh)), (2, .int (Int32.ofInt (drB ch))), (3, .int (Int32.ofInt (j : Int))), (4, .int (Int32.ofInt d)), (5, .int (Int32.ofInt (j : Int) + Int32.ofInt 1))] [] (gE Lx) I L2 e Q
     else
      (if Int32.ofInt (drS ch j).2 < Int32.ofInt d then
       Wp 333 76 [(0, .ref 58), (1, .int (Int32.ofInt wh)), (2, .int (Int32.ofInt (drB ch))), (3, .int (Int32.ofInt (j : Int))), (4, .int (Int32.ofInt d)), (5, .int (Int32.ofInt (j : Int) + Int32.ofInt 1))] [] (gE Lx) I L2 e Q
      else
       Wp 333 76 [(0, .ref 58), (1, .int (Int32.ofInt wh)), (2, .int (Int32.ofInt (drB ch))), (3, .int (Int32.ofInt (drS ch j).1)), (4, .int (Int32.ofInt (drS ch j).2)), (5, .int (Int32.ofInt (j : Int) + Int32.ofInt 1))] [] (gE Lx) I L2 e Q)) := by
      intro d hd
      subst hd
      rw [add32]
      have take : (drS ch j).1 = -1 ∨ (drS ch j).2 < dr ch j → Wp 333 76 [(0, .ref 58), (1, .int (Int32.ofInt wh)), (2, .int (Int32.ofInt (drB ch))), (3, .int (Int32.ofInt j)), (4, .int (Int32.ofInt (dr ch j))), (5, .int (Int32.ofInt ((j : Int) + 1)))] [] (gE Lx) I L2 e Q := fun q => by
        have e1 : drS ch (j + 1) = ((j : Int), dr ch j) := if_pos q
        rw [e1] at nx
        exact nx
      refine i_eq32 (by omega) (by omega) (fun q => take (Or.inl q)) (fun q1 => i_lt32 (by omega) (by omega) (fun q => take (Or.inr q)) (fun q2 => ?_))
      have e1 : drS ch (j + 1) = drS ch j := if_neg (by omega)
      rw [e1] at nx
      exact nx
    refine i_lt32 (by omega) (by omega) (fun q => go _ ?_) (fun q => go _ ?_)
    · rw [ed, if_pos (by omega)]
    · rw [ed, if_neg (by omega)]
theorem r_333 {ch : Ch} (hok : ChOk ch) (hc : BnAt I 59 0 ch) (hT : TabRt I) {wh : Int} (hwh : R32 wh) (h : RQ Lx I L e Q (spDri ch wh).1 vI (spDri ch wh).2) :
    Wp 333 0 [(0, .ref 58), (1, .int (Int32.ofInt wh))] [] (gE Lx) I L e Q := by
  have h4 := hok.2.2.2.1
  have e3 : I 59 3 = Int32.ofInt (ch.2.2.2.1 : Int) := hc.2.2.2.1
  unfold spDri at h
  have one : wh < 0 ∨ 1 < wh → Q (.inl (some (.int (Int32.ofInt 0)))) (gE Lx) (ui I 58 0 (Int32.ofInt 1)) L e := fun q => by
    rw [if_pos q] at h
    exact h.mk (v := 0) (FrI.wu FrI.rf rfl) rfl (c := 1) u_at rfl (fun z => by cases z)
  refine s_333_0 ?_
  rw [e3]
  refine i_lt32 hwh (by omega) (fun q => one (by omega)) (fun a1 => i_lt32 (by omega) hwh (fun q => one (by omega)) (fun a2 => ?_))
  rw [if_neg (by omega)] at h
  refine i_eqz (by omega) (fun k => ?_) (fun k => ?_)
  · have e0 : drS ch ch.2.2.2.1 = (-1, 0) := by
      have : ch.2.2.2.1 = 0 := by omega
      rw [this]
      rfl
    rw [e0] at h
    refine i_eqz hwh (fun q => ?_) (fun q => ?_)
    · rw [if_pos q] at h
      exact h.mk (v := -1) (FrI.wu FrI.rf rfl) rfl (c := 0) u_at rfl (fun _ => rfl)
    · rw [if_neg q] at h
      exact h.mk (v := 0) (FrI.wu FrI.rf rfl) rfl (c := 0) u_at rfl (fun _ => rfl)
  · have hc2 : BnAt (ui I 58 0 (Int32.ofInt 0)) 59 0 ch := hc.cg rfl
    have hT2 : TabRt (ui I 58 0 (Int32.ofInt 0)) := hT.cg rfl rfl rfl
    have ok := ec_f hok (Nat.le_refl ch.2.2.2.1)
    refine c_227 hok hc2 (Nat.le_refl _) (fun L1 r hf1 hr hs hB => kcp_v rfl (s_333_52 (c_240 hr hs hB (wSeen_g hok _ (Nat.le_refl _)) (fun L2 hf2 u8 u9 => kcp_v rfl (s_333_56 ?_)))))
    rw [u8, u9]
    refine n_320 ok (kcp_v rfl (s_333_67 ?_))
    have := l_333 (Lx := Lx) (e := e) (Q := Q) hok hc2 hT2 hwh (L0 := L) (fun L3 hl3 => h.mk (FrI.wu FrI.rf rfl) hl3 (c := 0) u_at rfl (fun _ => rfl)) ch.2.2.2.1 0 (by omega) L2 ((hf2.at rfl).trans (hf1.at rfl))
    exact this
end
