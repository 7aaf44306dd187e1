/-! Kept chains measured: wide, length; by program from the contracts for the chain at hand. -/
def wdL : Fr := [(14, 0, 4), (18, 0, 2), (25, 0, 5), (27, 0, 5)]
section
variable {Lx : Nat} {I : Mi} {L : Ml} {e : Nat} {Q : Kq}
theorem k_12_31 {k : Nat} (hk : k < 4) (h : Q (.inl (some (.int (I 32 k)))) (gE Lx) I L e) : Wp 12 0 [(0, .ref 31), (1, .int (Int32.ofInt k))] [] (gE Lx) I L e Q := by
  refine s_12_0_31 ?_
  rw [tncn (by omega)]
  exact i_ltz (by omega) (fun _ => by omega) (fun _ => i_lt32 (by omega) (by omega) (fun _ => i_inb (by omega) hk h) (fun _ => by omega))
theorem k_14_31 {k : Nat} (hk : k < 4) (h : Q (.inl (some (.int (I 33 k)))) (gE Lx) I L e) : Wp 14 0 [(0, .ref 31), (1, .int (Int32.ofInt k))] [] (gE Lx) I L e Q := by
  refine s_14_0_31 ?_
  rw [tncn (by omega)]
  exact i_ltz (by omega) (fun _ => by omega) (fun _ => i_lt32 (by omega) (by omega) (fun _ => i_inb (by omega) hk h) (fun _ => by omega))
theorem k_15_31 {k : Nat} (hk : k < 4) (h : Q (.inl (some (.int (I 34 k)))) (gE Lx) I L e) : Wp 15 0 [(0, .ref 31), (1, .int (Int32.ofInt k))] [] (gE Lx) I L e Q := by
  refine s_15_0_31 ?_
  rw [tncn (by omega)]
  exact i_ltz (by omega) (fun _ => by omega) (fun _ => i_lt32 (by omega) (by omega) (fun _ => i_inb (by omega) hk h) (fun _ => by omega))
set_option maxHeartbeats 4000000 in
theorem k_25_36 {a b : Int} (ha : R63 a) (hb : R63 b) (h : ∀ L', FrL [(36, 0, 2)] L L' → FrcAt L' 36 (fU a b) (fL a b) → Q (.inl none) (gE Lx) I L' e) : Wp 25 0 [(0, .ref 36), (1, .long (Int64.ofInt a)), (3, .long (Int64.ofInt b))] [] (gE Lx) I L e Q := by
  have hn := gI_nn a b
  have hr := gI_r ha hb
  have key : ∀ (x y : Int64) (u l : Int), x = .ofInt u → y = .ofInt l → u = fU a b → l = fL a b → Q (.inl none) (gE Lx) I (ul (ul L 36 0 x) 36 1 y) e := by
    intro x y u l h1 h2 h3 h4
    subst h1; subst h2; subst h3; subst h4
    refine h _ ?_ ⟨?_, l_at⟩
    · exact FrL.wu (FrL.wu FrL.rf rfl) rfl
    · rw [l_ne (by decide), l_at]
  have g0 : gI a b = 0 → a = 0 ∧ b = 0 := gI_0.mp
  have g1 : gI a b ≠ 0 → ¬ (a = 0 ∧ b = 0) := fun k z => k (gI_0.mpr z)
  refine s_25_0_36 (c_26 ha hb (kcp_v rfl (s_25_5_36 ?_)))
  refine i_eq64 (by omega) (by omega) (fun h0 => ?_) (fun h0 => ?_)
  · refine key _ _ 0 1 rfl rfl ?_ ?_
    · unfold fU; rw [if_pos (g0 h0)]
    · unfold fL; rw [if_pos (g0 h0)]
  · rw [neg64]
    refine i_lt64 (by omega) (by omega) (fun h1 => ?_) (fun h1 => ?_)
    · refine i_nz64 (by omega) (by omega) (i_nz64 (by omega) (by omega) (key _ _ _ _ (dvgn ha hb h0) (dvgn2 ha hb h0) ?_ ?_))
      · unfold fU; rw [if_neg (g1 h0), if_pos (Or.inl h1)]
      · unfold fL; rw [if_neg (g1 h0), if_pos h1]
    · refine i_eq64 (by omega) (by omega) (fun h2 => ?_) (fun h2 => ?_)
      · refine i_lt64 (by omega) (by omega) (fun h3 => ?_) (fun h3 => ?_)
        · refine i_nz64 (by omega) (by omega) (i_nz64 (by omega) (by omega) (key _ _ _ _ (dvgn ha hb h0) (dvgn2 ha hb h0) ?_ ?_))
          · unfold fU; rw [if_neg (g1 h0), if_pos (Or.inr ⟨h2, h3⟩)]
          · unfold fL; rw [if_neg (g1 h0), if_neg (by omega), h2]; simp
        · refine i_nz64 (by omega) (by omega) (i_nz64 (by omega) (by omega) (key _ _ _ _ (dvg ha hb h0) (dvg2 ha hb h0) ?_ ?_))
          · unfold fU; rw [if_neg (g1 h0), if_neg (by omega)]
          · unfold fL; rw [if_neg (g1 h0), if_neg (by omega)]
      · refine i_nz64 (by omega) (by omega) (i_nz64 (by omega) (by omega) (key _ _ _ _ (dvg ha hb h0) (dvg2 ha hb h0) ?_ ?_))
        · unfold fU; rw [if_neg (g1 h0), if_neg (by omega)]
        · unfold fL; rw [if_neg (g1 h0), if_neg (by omega)]
theorem kl_97_31 {ch : Ch} (hok : ChOk ch) (hc : ChAt I 31 ch) {x h : Int} (hh : h ≠ 0) (hx : vOk x h) {L0 : Ml} (fin : ∀ L', FrL vkF L0 L' → WvAt L' 14 (vW ch x h) → Q (.inl none) (gE Lx) I L' e) :
    ∀ (s j : Nat), j + s = ch.2.2.2.1 → ∀ L : Ml, FrL vkF L0 L → WvAt L 14 (wSeen (vCh ch x h) j) →
    Wp 97 24 [(0, .ref 1), (1, .ref 31), (2, .int (Int32.ofInt x)), (3, .int (Int32.ofInt j))] [] (gE Lx) I L e Q := by
  have h4 := hok.2.2.2.1
  have hxx := (vOk_n hh).mp hx
  intro s
  induction s with
  | zero =>
    intro j hj L hf hW
    have : j = ch.2.2.2.1 := by omega
    subst this
    refine s_97_24_31 ?_
    rw [hc.2.2.2.1]
    exact i_lt32 (by omega) (by omega) (fun _ => by omega) (fun _ => fin L hf hW)
  | succ s ih =>
    intro j hj L hf hW
    have hel := hok.2.2.2.2 j (by omega)
    obtain ⟨r1, r2, r3⟩ := el_r hel
    obtain ⟨e1, e2, e4⟩ := hc.2.2.2.2 j (by omega)
    have tb := hel.2.b
    have e5 : vT x h (ch.2.2.2.2 j).2.1 (ch.2.2.2.2 j).2.2 = (fU ((20 + x) * (ch.2.2.2.2 j).2.1) (20 * (ch.2.2.2.2 j).2.2), fL ((20 + x) * (ch.2.2.2.2 j).2.1) (20 * (ch.2.2.2.2 j).2.2)) := if_neg hh
    have hB := (vW_ok hok hx (show j ≤ ch.2.2.2.1 by omega)).2
    have m1 := mulB (x := 20 + x) (y := (ch.2.2.2.2 j).2.1) (A := 30) (B := 12) (by omega) (by omega)
    refine s_97_24_31 ?_
    rw [hc.2.2.2.1, i2l (by omega), add64]
    refine i_lt32 (by omega) (by omega) (fun _ => k_14_31 (by omega) (kcp_v rfl (s_97_47_31 ?_))) (fun _ => by omega)
    rw [e2, i2l r2, mul64]
    refine k_15_31 (by omega) (kcp_v rfl (s_97_57_31 ?_))
    rw [e4, i2l r3, mul64]
    refine c_25 (Or.inl rfl) (by omega) (by omega) (fun L1 hf1 hv1 => kcp_v rfl (s_97_62_31 (k_12_31 (by omega) (kcp_v rfl (s_97_71_31 ?_)))))
    rw [e1, hv1.1, hv1.2]
    refine c_75 (Or.inl rfl) (hW.cg (hf1.at rfl)) (WB.le hB (by decide)) r1 (fun L2 hf2 hW2 => kcp_v rfl (s_97_88_31 ?_))
    rw [add32]
    have := ih (j + 1) (by omega) L2 (FrL.tr hf (FrL.tr (S := vkF) hf1 hf2 rfl rfl) rfl rfl) (by
      show WvAt L2 14 (wPass (ch.2.2.2.2 j).1 (vT x h (ch.2.2.2.2 j).2.1 (ch.2.2.2.2 j).2.2).1 (vT x h (ch.2.2.2.2 j).2.1 (ch.2.2.2.2 j).2.2).2 (wSeen (vCh ch x h) j))
      rw [e5]
      exact hW2)
    exact this
theorem kc_97_31 {ch : Ch} (hok : ChOk ch) (hc : ChAt I 31 ch) {x h : Int} (hh : h ≠ 0) (hx : vOk x h) (fin : ∀ L', FrL vkF L L' → WvAt L' 14 (vW ch x h) → Q (.inl none) (gE Lx) I L' e) :
    Wp 97 0 [(0, .ref 1), (1, .ref 31), (2, .int (Int32.ofInt x))] [] (gE Lx) I L e Q := by
  obtain ⟨h1, h2, h3, -⟩ := id hc
  have b1 := hok.1; have b2 := hok.2.1; have b3 := hok.2.2.1
  refine s_97_0_31 ?_
  rw [h1, h2, h3, i2l (by omega), i2l (by omega), i2l (by omega)]
  have nb : ∀ P : Prop, ¬ (h = 0 ∧ P) := fun P w => hh w.1
  refine kl_97_31 hok hc hh hx (L0 := L) fin ch.2.2.2.1 0 (by omega) _ (FrL.wu (FrL.wu (FrL.wu (FrL.wu FrL.rf rfl) rfl) rfl) rfl) ?_
  show WvAt _ 14 (wBeg (vCh ch x h))
  unfold wBeg vCh
  rw [if_neg (nb _), if_neg (nb _), if_neg (nb _)]
  exact ⟨rfl, rfl, rfl, rfl⟩
theorem kn_beside_31 {ch : Ch} (hok : ChOk ch) (hc : ChAt I 31 ch) {l4 l5 : Int} (hl : LimAt I l4 l5) {k : Int} (hk : -10 ≤ k ∧ k ≤ 10) (h1 : wdP ch l4 l5 k → ∀ L', FrL wdL L L' → Q (.inl (some (.int (Int32.ofInt 1)))) (gE Lx) I L' e) (h0 : ¬ wdP ch l4 l5 k → ∀ L', FrL wdL L L' → Q (.inl (some (.int (Int32.ofInt 0)))) (gE Lx) I L' e) :
    Wp 97 0 [(0, .ref 1), (1, .ref 31), (2, .int (Int32.ofInt k))] [] (gE Lx) I L e (kcp (Wp 96) 96 3 0 [(0, .ref 1), (1, .ref 31)] 71 [] Q) := by
  have v : vOk k 1 := (vOk_n (by decide)).mpr hk
  have a := vW_ok hok v (Nat.le_refl _)
  exact kc_97_31 hok hc (by decide) v (fun L1 hfa hW => kcp_v rfl (s_96_6_31 (c_98 hW a.2 hl (fun q L2 hfb => kcp_v rfl (s_96_10_31 (b_1 (h1 q L2 (FrL.tr (S := wdL) hfa hfb rfl rfl))))) (fun q L2 hfb => kcp_v rfl (s_96_10_31 (b_0 (h0 q L2 (FrL.tr (S := wdL) hfa hfb rfl rfl))))))))
theorem kl_95_31 {ch : Ch} (hok : ChOk ch) (hc : ChAt I 31 ch) {l4 l5 : Int} (hl : LimAt I l4 l5) : ∀ (s : Nat) (k : Int), k + s = 11 → 0 ≤ k → ∀ L : Ml, (∀ L', FrL wdL L L' → Q (.inl (some (.int (Int32.ofInt (wdF (wdP ch l4 l5) s k))))) (gE Lx) I L' e) →
    Wp 95 4 [(0, .ref 1), (1, .ref 31), (2, .int (Int32.ofInt (k - 1))), (3, .int (Int32.ofInt k))] [] (gE Lx) I L e Q := by
  intro s
  induction s with
  | zero =>
    intro k hk h0 L h
    exact s_95_4_31 (i_lt32 (by omega) (by omega) (fun _ => h L FrL.rf) (fun _ => by omega))
  | succ s ih =>
    intro k hk h0 L h
    have no : ¬ (wdP ch l4 l5 k ∧ wdP ch l4 l5 (-k)) → ∀ L', FrL wdL L L' → Q (.inl (some (.int (Int32.ofInt (k - 1))))) (gE Lx) I L' e := fun q L' hf' => by
      have := h L' hf'
      unfold wdF at this
      rw [iP_f q] at this
      exact this
    refine s_95_4_31 (i_lt32 (by omega) (by omega) (fun _ => by omega) (fun _ => kn_beside_31 hok hc hl (by omega) (fun q1 L1 hf1 => kcp_v rfl (s_95_16_31 (j_1 ?_))) (fun q1 L1 hf1 => kcp_v rfl (s_95_16_31 (j_0 (no (fun w => q1 w.1) L1 hf1))))))
    rw [neg32]
    refine kn_beside_31 hok hc hl (by omega) (fun q2 L2 hf2 => kcp_v rfl (s_95_26_31 (j_1 ?_))) (fun q2 L2 hf2 => kcp_v rfl (s_95_26_31 (j_0 (no (fun w => q2 w.2) L2 (FrL.tr (S := wdL) hf1 hf2 rfl rfl)))))
    rw [add32]
    have := ih (k + 1) (by omega) (by omega) L2 (fun L' hf' => by
      have := h L' (FrL.tr (S := wdL) (FrL.tr (S := wdL) hf1 hf2 rfl rfl) hf' rfl rfl)
      unfold wdF at this
      rw [iP_t ⟨q1, q2⟩] at this
      exact this)
    rw [show k + 1 - 1 = k by omega] at this
    exact this
set_option maxHeartbeats 4000000 in
theorem kl_65_31 {I0 : Mi} {ch : Ch} (hok : ChOk ch) (hc0 : ChAt I0 31 ch) {L0 : Ml} (fin : ∀ I' L', FrL [(36, 0, 2)] L0 L' → FrI [(35, 0, 0)] I0 I' → I' 35 0 = .ofInt (lnS ch ch.2.2.2.1).2.2 → FrcAt L' 36 (fU (lnS ch ch.2.2.2.1).2.1 (lnS ch ch.2.2.2.1).1) (fL (lnS ch ch.2.2.2.1).2.1 (lnS ch ch.2.2.2.1).1) → Q (.inl none) (gE Lx) I' L' e) :
    ∀ (s j : Nat), j + s = ch.2.2.2.1 → ∀ (I : Mi) (L : Ml), FrL [(36, 0, 2)] L0 L → FrI [(35, 0, 0)] I0 I → I 35 0 = .ofInt (lnS ch j).2.2 → FrcAt L 36 (fU (lnS ch j).2.1 (lnS ch j).1) (fL (lnS ch j).2.1 (lnS ch j).1) →
    Wp 65 16 [(0, .ref 35), (1, .ref 31), (2, .int (Int32.ofInt j))] [] (gE Lx) I L e Q := by
  have h4 := hok.2.2.2.1
  intro s
  induction s with
  | zero =>
    intro j hj I L hL hf ht hv
    have : j = ch.2.2.2.1 := by omega
    subst this
    have hc : ChAt I 31 ch := hc0.cg (hf.at rfl) (hf.at rfl) (hf.at rfl) (hf.at rfl)
    refine s_65_16_31 ?_
    rw [hc.2.2.2.1]
    exact i_lt32 (by omega) (by omega) (fun _ => by omega) (fun _ => fin I L hL hf ht hv)
  | succ s ih =>
    intro j hj I L hL hf ht hv
    have hc : ChAt I 31 ch := hc0.cg (hf.at rfl) (hf.at rfl) (hf.at rfl) (hf.at rfl)
    have hel := hok.2.2.2.2 j (by omega)
    obtain ⟨r1, r2, r3⟩ := el_r hel
    obtain ⟨e1, e2, e4⟩ := hc.2.2.2.2 j (by omega)
    obtain ⟨k1, ⟨k2, k3⟩, k4⟩ := lnS_ok hok j (by omega)
    obtain ⟨w1, ⟨w2, w3⟩, w4⟩ := lnS_ok hok (j + 1) (by omega)
    have pj := pow24 j (by omega)
    have pj1 := pow24 (j + 1) (by omega)
    have ub := up_b k1 k2 k3
    have wb := up_b w1 w2 w3
    have hcls := ln_cls k1 hel.2
    have hu := ln_up k1 hel.2
    have hW := ln_w k1 hel.2
    have es := (ln_sq (c := (lnS ch j).1) (s := (lnS ch j).2.1) (p := (ch.2.2.2.2 j).2.1) (q := (ch.2.2.2.2 j).2.2)).2
    have nz := up_nz k1
    have stp := lnS_s (ch := ch) (i := j)
    have hx := len_x w1 k1
    have tb := hel.2.b
    have a0 : 0 ≤ lnA (ch.2.2.2.2 j).2.1 := by unfold lnA; split <;> omega
    have hnew : fU (lnS ch (j + 1)).2.1 (lnS ch (j + 1)).1 = fU (lnB (lnS ch j).1 (lnS ch j).2.1 (ch.2.2.2.2 j).2.1 (ch.2.2.2.2 j).2.2) (lnC (lnS ch j).1 (lnS ch j).2.1 (ch.2.2.2.2 j).2.1 (ch.2.2.2.2 j).2.2) ∧ fL (lnS ch (j + 1)).2.1 (lnS ch (j + 1)).1 = fL (lnB (lnS ch j).1 (lnS ch j).2.1 (ch.2.2.2.2 j).2.1 (ch.2.2.2.2 j).2.2) (lnC (lnS ch j).1 (lnS ch j).2.1 (ch.2.2.2.2 j).2.1 (ch.2.2.2.2 j).2.2) := by
      rw [stp]
      split
      · exact ⟨fU_neg, fL_neg⟩
      · exact ⟨rfl, rfl⟩
    have hlt : lenC (fU (lnS ch (j + 1)).2.1 (lnS ch (j + 1)).1) (fL (lnS ch (j + 1)).2.1 (lnS ch (j + 1)).1) (fU (lnS ch j).2.1 (lnS ch j).1) (fL (lnS ch j).2.1 (lnS ch j).1) < 0 ↔ lnG (lnS ch j).1 (lnS ch j).2.1 (ch.2.2.2.2 j).2.1 (ch.2.2.2.2 j).2.2 := by
      rw [hx, stp]
      split
      · next q =>
        have := Int.mul_pos nz (hW q)
        rw [Int.neg_mul, Int.neg_mul]
        constructor
        · intro _; exact q
        · intro _; omega
      · next q =>
        have := Int.mul_nonneg (show 0 ≤ (lnS ch j).1 * (lnS ch j).1 + (lnS ch j).2.1 * (lnS ch j).2.1 by omega) a0
        constructor
        · intro w; dsimp only at w; omega
        · intro w; exact absurd w q
    have htn : (lnS ch (j + 1)).2.2 = if lnG (lnS ch j).1 (lnS ch j).2.1 (ch.2.2.2.2 j).2.1 (ch.2.2.2.2 j).2.2 then (lnS ch j).2.2 + 1 else (lnS ch j).2.2 := by
      rw [stp]
      split <;> rfl
    rw [← hcls.1, ← hcls.2] at hnew
    have m1 := mulB (x := fU (lnS ch j).2.1 (lnS ch j).1) (y := (ch.2.2.2.2 j).2.2) (A := 331776) (B := 12) (by omega) tb.2
    have m2 := mulB (x := fL (lnS ch j).2.1 (lnS ch j).1) (y := (ch.2.2.2.2 j).2.1) (A := 331776) (B := 12) (by omega) tb.1
    have m3 := mulB (x := fL (lnS ch j).2.1 (lnS ch j).1) (y := (ch.2.2.2.2 j).2.2) (A := 331776) (B := 12) (by omega) tb.2
    have m4 := mulB (x := fU (lnS ch j).2.1 (lnS ch j).1) (y := (ch.2.2.2.2 j).2.1) (A := 331776) (B := 12) (by omega) tb.1
    refine s_65_16_31 ?_
    rw [hc.2.2.2.1, hv.1, hv.2]
    refine i_lt32 (by omega) (by omega) (fun _ => k_14_31 (by omega) (kcp_v rfl (s_65_50_31 (k_15_31 (by omega) (kcp_v rfl (s_65_56_31 ?_)))))) (fun _ => by omega)
    rw [e2, e4, i2l r2, i2l r3, hv.1, hv.2]
    simp only [mul64, add64, sub64]
    refine k_25_36 (by omega) (by omega) (fun L1 hf1 hv1 => kcp_v rfl (s_27_30_36 (kcp_v rfl (s_65_60_31 ?_))))
    rw [← hnew.1, ← hnew.2] at hv1
    rw [hv1.1, hv1.2]
    refine c_28 (by omega) (by omega) (by omega) (by omega) wb.2.2 ub.2.2 (kcp_v rfl (s_65_80_31 ?_))
    have lb : ∀ x y z t : Int, -1 ≤ lenC x y z t ∧ lenC x y z t ≤ 1 := fun x y z t => by
      unfold lenC
      have := (sg_0 (v := x * t - z * y)).2
      split <;> split <;> omega
    have lbb := lb (fU (lnS ch (j + 1)).2.1 (lnS ch (j + 1)).1) (fL (lnS ch (j + 1)).2.1 (lnS ch (j + 1)).1) (fU (lnS ch j).2.1 (lnS ch j).1) (fL (lnS ch j).2.1 (lnS ch j).1)
    rw [ht, add32, add32]
    refine i_ltz (by omega) (fun q => ?_) (fun q => ?_)
    · rw [if_pos (hlt.mp q)] at htn
      have := ih (j + 1) (by omega) _ L1 (FrL.tr hL hf1 rfl rfl) (FrI.wu hf (k := 35) (j := 0) (x := Int32.ofInt ((lnS ch j).2.2 + 1)) rfl) (by rw [u_at, htn]) hv1
      exact this
    · rw [if_neg (fun w => by have := hlt.mpr w; omega)] at htn
      have := ih (j + 1) (by omega) I L1 (FrL.tr hL hf1 rfl rfl) hf (by rw [ht, htn]) hv1
      exact this
theorem kc_65_31 {ch : Ch} (hok : ChOk ch) (hc : ChAt I 31 ch) (h : ∀ I' L', FrL [(36, 0, 2)] L L' → FrI [(35, 0, 0)] I I' → I' 35 0 = .ofInt (lnS ch ch.2.2.2.1).2.2 → FrcAt L' 36 (fU (lnS ch ch.2.2.2.1).2.1 (lnS ch ch.2.2.2.1).1) (fL (lnS ch ch.2.2.2.1).2.1 (lnS ch ch.2.2.2.1).1) → Q (.inl none) (gE Lx) I' L' e) : Wp 65 0 [(0, .ref 35), (1, .ref 31)] [] (gE Lx) I L e Q := by
  refine s_65_0_31 (k_25_36 (by omega) (by omega) (fun L1 hf1 hv1 => kcp_v rfl (s_65_14_31 ?_)))
  have hI : FrI [(35, 0, 0)] I (ui I 35 0 (Int32.ofInt 0)) := FrI.wu FrI.rf rfl
  exact kl_65_31 (I0 := I) (L0 := L) hok hc h ch.2.2.2.1 0 (by omega) _ L1 hf1 hI u_at hv1
theorem k_12_38 {k : Nat} (hk : k < 4) (h : Q (.inl (some (.int (I 39 k)))) (gE Lx) I L e) : Wp 12 0 [(0, .ref 38), (1, .int (Int32.ofInt k))] [] (gE Lx) I L e Q := by
  refine s_12_0_38 ?_
  rw [tncn (by omega)]
  exact i_ltz (by omega) (fun _ => by omega) (fun _ => i_lt32 (by omega) (by omega) (fun _ => i_inb (by omega) hk h) (fun _ => by omega))
theorem k_14_38 {k : Nat} (hk : k < 4) (h : Q (.inl (some (.int (I 40 k)))) (gE Lx) I L e) : Wp 14 0 [(0, .ref 38), (1, .int (Int32.ofInt k))] [] (gE Lx) I L e Q := by
  refine s_14_0_38 ?_
  rw [tncn (by omega)]
  exact i_ltz (by omega) (fun _ => by omega) (fun _ => i_lt32 (by omega) (by omega) (fun _ => i_inb (by omega) hk h) (fun _ => by omega))
theorem k_15_38 {k : Nat} (hk : k < 4) (h : Q (.inl (some (.int (I 41 k)))) (gE Lx) I L e) : Wp 15 0 [(0, .ref 38), (1, .int (Int32.ofInt k))] [] (gE Lx) I L e Q := by
  refine s_15_0_38 ?_
  rw [tncn (by omega)]
  exact i_ltz (by omega) (fun _ => by omega) (fun _ => i_lt32 (by omega) (by omega) (fun _ => i_inb (by omega) hk h) (fun _ => by omega))
set_option maxHeartbeats 4000000 in
theorem k_25_43 {a b : Int} (ha : R63 a) (hb : R63 b) (h : ∀ L', FrL [(43, 0, 2)] L L' → FrcAt L' 43 (fU a b) (fL a b) → Q (.inl none) (gE Lx) I L' e) : Wp 25 0 [(0, .ref 43), (1, .long (Int64.ofInt a)), (3, .long (Int64.ofInt b))] [] (gE Lx) I L e Q := by
  have hn := gI_nn a b
  have hr := gI_r ha hb
  have key : ∀ (x y : Int64) (u l : Int), x = .ofInt u → y = .ofInt l → u = fU a b → l = fL a b → Q (.inl none) (gE Lx) I (ul (ul L 43 0 x) 43 1 y) e := by
    intro x y u l h1 h2 h3 h4
    subst h1; subst h2; subst h3; subst h4
    refine h _ ?_ ⟨?_, l_at⟩
    · exact FrL.wu (FrL.wu FrL.rf rfl) rfl
    · rw [l_ne (by decide), l_at]
  have g0 : gI a b = 0 → a = 0 ∧ b = 0 := gI_0.mp
  have g1 : gI a b ≠ 0 → ¬ (a = 0 ∧ b = 0) := fun k z => k (gI_0.mpr z)
  refine s_25_0_43 (c_26 ha hb (kcp_v rfl (s_25_5_43 ?_)))
  refine i_eq64 (by omega) (by omega) (fun h0 => ?_) (fun h0 => ?_)
  · refine key _ _ 0 1 rfl rfl ?_ ?_
    · unfold fU; rw [if_pos (g0 h0)]
    · unfold fL; rw [if_pos (g0 h0)]
  · rw [neg64]
    refine i_lt64 (by omega) (by omega) (fun h1 => ?_) (fun h1 => ?_)
    · refine i_nz64 (by omega) (by omega) (i_nz64 (by omega) (by omega) (key _ _ _ _ (dvgn ha hb h0) (dvgn2 ha hb h0) ?_ ?_))
      · unfold fU; rw [if_neg (g1 h0), if_pos (Or.inl h1)]
      · unfold fL; rw [if_neg (g1 h0), if_pos h1]
    · refine i_eq64 (by omega) (by omega) (fun h2 => ?_) (fun h2 => ?_)
      · refine i_lt64 (by omega) (by omega) (fun h3 => ?_) (fun h3 => ?_)
        · refine i_nz64 (by omega) (by omega) (i_nz64 (by omega) (by omega) (key _ _ _ _ (dvgn ha hb h0) (dvgn2 ha hb h0) ?_ ?_))
          · unfold fU; rw [if_neg (g1 h0), if_pos (Or.inr ⟨h2, h3⟩)]
          · unfold fL; rw [if_neg (g1 h0), if_neg (by omega), h2]; simp
        · refine i_nz64 (by omega) (by omega) (i_nz64 (by omega) (by omega) (key _ _ _ _ (dvg ha hb h0) (dvg2 ha hb h0) ?_ ?_))
          · unfold fU; rw [if_neg (g1 h0), if_neg (by omega)]
          · unfold fL; rw [if_neg (g1 h0), if_neg (by omega)]
      · refine i_nz64 (by omega) (by omega) (i_nz64 (by omega) (by omega) (key _ _ _ _ (dvg ha hb h0) (dvg2 ha hb h0) ?_ ?_))
        · unfold fU; rw [if_neg (g1 h0), if_neg (by omega)]
        · unfold fL; rw [if_neg (g1 h0), if_neg (by omega)]
theorem kl_97_38 {ch : Ch} (hok : ChOk ch) (hc : ChAt I 38 ch) {x h : Int} (hh : h ≠ 0) (hx : vOk x h) {L0 : Ml} (fin : ∀ L', FrL vkF L0 L' → WvAt L' 14 (vW ch x h) → Q (.inl none) (gE Lx) I L' e) :
    ∀ (s j : Nat), j + s = ch.2.2.2.1 → ∀ L : Ml, FrL vkF L0 L → WvAt L 14 (wSeen (vCh ch x h) j) →
    Wp 97 24 [(0, .ref 1), (1, .ref 38), (2, .int (Int32.ofInt x)), (3, .int (Int32.ofInt j))] [] (gE Lx) I L e Q := by
  have h4 := hok.2.2.2.1
  have hxx := (vOk_n hh).mp hx
  intro s
  induction s with
  | zero =>
    intro j hj L hf hW
    have : j = ch.2.2.2.1 := by omega
    subst this
    refine s_97_24_38 ?_
    rw [hc.2.2.2.1]
    exact i_lt32 (by omega) (by omega) (fun _ => by omega) (fun _ => fin L hf hW)
  | succ s ih =>
    intro j hj L hf hW
    have hel := hok.2.2.2.2 j (by omega)
    obtain ⟨r1, r2, r3⟩ := el_r hel
    obtain ⟨e1, e2, e4⟩ := hc.2.2.2.2 j (by omega)
    have tb := hel.2.b
    have e5 : vT x h (ch.2.2.2.2 j).2.1 (ch.2.2.2.2 j).2.2 = (fU ((20 + x) * (ch.2.2.2.2 j).2.1) (20 * (ch.2.2.2.2 j).2.2), fL ((20 + x) * (ch.2.2.2.2 j).2.1) (20 * (ch.2.2.2.2 j).2.2)) := if_neg hh
    have hB := (vW_ok hok hx (show j ≤ ch.2.2.2.1 by omega)).2
    have m1 := mulB (x := 20 + x) (y := (ch.2.2.2.2 j).2.1) (A := 30) (B := 12) (by omega) (by omega)
    refine s_97_24_38 ?_
    rw [hc.2.2.2.1, i2l (by omega), add64]
    refine i_lt32 (by omega) (by omega) (fun _ => k_14_38 (by omega) (kcp_v rfl (s_97_47_38 ?_))) (fun _ => by omega)
    rw [e2, i2l r2, mul64]
    refine k_15_38 (by omega) (kcp_v rfl (s_97_57_38 ?_))
    rw [e4, i2l r3, mul64]
    refine c_25 (Or.inl rfl) (by omega) (by omega) (fun L1 hf1 hv1 => kcp_v rfl (s_97_62_38 (k_12_38 (by omega) (kcp_v rfl (s_97_71_38 ?_)))))
    rw [e1, hv1.1, hv1.2]
    refine c_75 (Or.inl rfl) (hW.cg (hf1.at rfl)) (WB.le hB (by decide)) r1 (fun L2 hf2 hW2 => kcp_v rfl (s_97_88_38 ?_))
    rw [add32]
    have := ih (j + 1) (by omega) L2 (FrL.tr hf (FrL.tr (S := vkF) hf1 hf2 rfl rfl) rfl rfl) (by
      show WvAt L2 14 (wPass (ch.2.2.2.2 j).1 (vT x h (ch.2.2.2.2 j).2.1 (ch.2.2.2.2 j).2.2).1 (vT x h (ch.2.2.2.2 j).2.1 (ch.2.2.2.2 j).2.2).2 (wSeen (vCh ch x h) j))
      rw [e5]
      exact hW2)
    exact this
theorem kc_97_38 {ch : Ch} (hok : ChOk ch) (hc : ChAt I 38 ch) {x h : Int} (hh : h ≠ 0) (hx : vOk x h) (fin : ∀ L', FrL vkF L L' → WvAt L' 14 (vW ch x h) → Q (.inl none) (gE Lx) I L' e) :
    Wp 97 0 [(0, .ref 1), (1, .ref 38), (2, .int (Int32.ofInt x))] [] (gE Lx) I L e Q := by
  obtain ⟨h1, h2, h3, -⟩ := id hc
  have b1 := hok.1; have b2 := hok.2.1; have b3 := hok.2.2.1
  refine s_97_0_38 ?_
  rw [h1, h2, h3, i2l (by omega), i2l (by omega), i2l (by omega)]
  have nb : ∀ P : Prop, ¬ (h = 0 ∧ P) := fun P w => hh w.1
  refine kl_97_38 hok hc hh hx (L0 := L) fin ch.2.2.2.1 0 (by omega) _ (FrL.wu (FrL.wu (FrL.wu (FrL.wu FrL.rf rfl) rfl) rfl) rfl) ?_
  show WvAt _ 14 (wBeg (vCh ch x h))
  unfold wBeg vCh
  rw [if_neg (nb _), if_neg (nb _), if_neg (nb _)]
  exact ⟨rfl, rfl, rfl, rfl⟩
theorem kn_beside_38 {ch : Ch} (hok : ChOk ch) (hc : ChAt I 38 ch) {l4 l5 : Int} (hl : LimAt I l4 l5) {k : Int} (hk : -10 ≤ k ∧ k ≤ 10) (h1 : wdP ch l4 l5 k → ∀ L', FrL wdL L L' → Q (.inl (some (.int (Int32.ofInt 1)))) (gE Lx) I L' e) (h0 : ¬ wdP ch l4 l5 k → ∀ L', FrL wdL L L' → Q (.inl (some (.int (Int32.ofInt 0)))) (gE Lx) I L' e) :
    Wp 97 0 [(0, .ref 1), (1, .ref 38), (2, .int (Int32.ofInt k))] [] (gE Lx) I L e (kcp (Wp 96) 96 3 0 [(0, .ref 1), (1, .ref 38)] 71 [] Q) := by
  have v : vOk k 1 := (vOk_n (by decide)).mpr hk
  have a := vW_ok hok v (Nat.le_refl _)
  exact kc_97_38 hok hc (by decide) v (fun L1 hfa hW => kcp_v rfl (s_96_6_38 (c_98 hW a.2 hl (fun q L2 hfb => kcp_v rfl (s_96_10_38 (b_1 (h1 q L2 (FrL.tr (S := wdL) hfa hfb rfl rfl))))) (fun q L2 hfb => kcp_v rfl (s_96_10_38 (b_0 (h0 q L2 (FrL.tr (S := wdL) hfa hfb rfl rfl))))))))
theorem kl_95_38 {ch : Ch} (hok : ChOk ch) (hc : ChAt I 38 ch) {l4 l5 : Int} (hl : LimAt I l4 l5) : ∀ (s : Nat) (k : Int), k + s = 11 → 0 ≤ k → ∀ L : Ml, (∀ L', FrL wdL L L' → Q (.inl (some (.int (Int32.ofInt (wdF (wdP ch l4 l5) s k))))) (gE Lx) I L' e) →
    Wp 95 4 [(0, .ref 1), (1, .ref 38), (2, .int (Int32.ofInt (k - 1))), (3, .int (Int32.ofInt k))] [] (gE Lx) I L e Q := by
  intro s
  induction s with
  | zero =>
    intro k hk h0 L h
    exact s_95_4_38 (i_lt32 (by omega) (by omega) (fun _ => h L FrL.rf) (fun _ => by omega))
  | succ s ih =>
    intro k hk h0 L h
    have no : ¬ (wdP ch l4 l5 k ∧ wdP ch l4 l5 (-k)) → ∀ L', FrL wdL L L' → Q (.inl (some (.int (Int32.ofInt (k - 1))))) (gE Lx) I L' e := fun q L' hf' => by
      have := h L' hf'
      unfold wdF at this
      rw [iP_f q] at this
      exact this
    refine s_95_4_38 (i_lt32 (by omega) (by omega) (fun _ => by omega) (fun _ => kn_beside_38 hok hc hl (by omega) (fun q1 L1 hf1 => kcp_v rfl (s_95_16_38 (j_1 ?_))) (fun q1 L1 hf1 => kcp_v rfl (s_95_16_38 (j_0 (no (fun w => q1 w.1) L1 hf1))))))
    rw [neg32]
    refine kn_beside_38 hok hc hl (by omega) (fun q2 L2 hf2 => kcp_v rfl (s_95_26_38 (j_1 ?_))) (fun q2 L2 hf2 => kcp_v rfl (s_95_26_38 (j_0 (no (fun w => q2 w.2) L2 (FrL.tr (S := wdL) hf1 hf2 rfl rfl)))))
    rw [add32]
    have := ih (k + 1) (by omega) (by omega) L2 (fun L' hf' => by
      have := h L' (FrL.tr (S := wdL) (FrL.tr (S := wdL) hf1 hf2 rfl rfl) hf' rfl rfl)
      unfold wdF at this
      rw [iP_t ⟨q1, q2⟩] at this
      exact this)
    rw [show k + 1 - 1 = k by omega] at this
    exact this
set_option maxHeartbeats 4000000 in
theorem kl_65_38 {I0 : Mi} {ch : Ch} (hok : ChOk ch) (hc0 : ChAt I0 38 ch) {L0 : Ml} (fin : ∀ I' L', FrL [(43, 0, 2)] L0 L' → FrI [(42, 0, 0)] I0 I' → I' 42 0 = .ofInt (lnS ch ch.2.2.2.1).2.2 → FrcAt L' 43 (fU (lnS ch ch.2.2.2.1).2.1 (lnS ch ch.2.2.2.1).1) (fL (lnS ch ch.2.2.2.1).2.1 (lnS ch ch.2.2.2.1).1) → Q (.inl none) (gE Lx) I' L' e) :
    ∀ (s j : Nat), j + s = ch.2.2.2.1 → ∀ (I : Mi) (L : Ml), FrL [(43, 0, 2)] L0 L → FrI [(42, 0, 0)] I0 I → I 42 0 = .ofInt (lnS ch j).2.2 → FrcAt L 43 (fU (lnS ch j).2.1 (lnS ch j).1) (fL (lnS ch j).2.1 (lnS ch j).1) →
    Wp 65 16 [(0, .ref 42), (1, .ref 38), (2, .int (Int32.ofInt j))] [] (gE Lx) I L e Q := by
  have h4 := hok.2.2.2.1
  intro s
  induction s with
  | zero =>
    intro j hj I L hL hf ht hv
    have : j = ch.2.2.2.1 := by omega
    subst this
    have hc : ChAt I 38 ch := hc0.cg (hf.at rfl) (hf.at rfl) (hf.at rfl) (hf.at rfl)
    refine s_65_16_38 ?_
    rw [hc.2.2.2.1]
    exact i_lt32 (by omega) (by omega) (fun _ => by omega) (fun _ => fin I L hL hf ht hv)
  | succ s ih =>
    intro j hj I L hL hf ht hv
    have hc : ChAt I 38 ch := hc0.cg (hf.at rfl) (hf.at rfl) (hf.at rfl) (hf.at rfl)
    have hel := hok.2.2.2.2 j (by omega)
    obtain ⟨r1, r2, r3⟩ := el_r hel
    obtain ⟨e1, e2, e4⟩ := hc.2.2.2.2 j (by omega)
    obtain ⟨k1, ⟨k2, k3⟩, k4⟩ := lnS_ok hok j (by omega)
    obtain ⟨w1, ⟨w2, w3⟩, w4⟩ := lnS_ok hok (j + 1) (by omega)
    have pj := pow24 j (by omega)
    have pj1 := pow24 (j + 1) (by omega)
    have ub := up_b k1 k2 k3
    have wb := up_b w1 w2 w3
    have hcls := ln_cls k1 hel.2
    have hu := ln_up k1 hel.2
    have hW := ln_w k1 hel.2
    have es := (ln_sq (c := (lnS ch j).1) (s := (lnS ch j).2.1) (p := (ch.2.2.2.2 j).2.1) (q := (ch.2.2.2.2 j).2.2)).2
    have nz := up_nz k1
    have stp := lnS_s (ch := ch) (i := j)
    have hx := len_x w1 k1
    have tb := hel.2.b
    have a0 : 0 ≤ lnA (ch.2.2.2.2 j).2.1 := by unfold lnA; split <;> omega
    have hnew : fU (lnS ch (j + 1)).2.1 (lnS ch (j + 1)).1 = fU (lnB (lnS ch j).1 (lnS ch j).2.1 (ch.2.2.2.2 j).2.1 (ch.2.2.2.2 j).2.2) (lnC (lnS ch j).1 (lnS ch j).2.1 (ch.2.2.2.2 j).2.1 (ch.2.2.2.2 j).2.2) ∧ fL (lnS ch (j + 1)).2.1 (lnS ch (j + 1)).1 = fL (lnB (lnS ch j).1 (lnS ch j).2.1 (ch.2.2.2.2 j).2.1 (ch.2.2.2.2 j).2.2) (lnC (lnS ch j).1 (lnS ch j).2.1 (ch.2.2.2.2 j).2.1 (ch.2.2.2.2 j).2.2) := by
      rw [stp]
      split
      · exact ⟨fU_neg, fL_neg⟩
      · exact ⟨rfl, rfl⟩
    have hlt : lenC (fU (lnS ch (j + 1)).2.1 (lnS ch (j + 1)).1) (fL (lnS ch (j + 1)).2.1 (lnS ch (j + 1)).1) (fU (lnS ch j).2.1 (lnS ch j).1) (fL (lnS ch j).2.1 (lnS ch j).1) < 0 ↔ lnG (lnS ch j).1 (lnS ch j).2.1 (ch.2.2.2.2 j).2.1 (ch.2.2.2.2 j).2.2 := by
      rw [hx, stp]
      split
      · next q =>
        have := Int.mul_pos nz (hW q)
        rw [Int.neg_mul, Int.neg_mul]
        constructor
        · intro _; exact q
        · intro _; omega
      · next q =>
        have := Int.mul_nonneg (show 0 ≤ (lnS ch j).1 * (lnS ch j).1 + (lnS ch j).2.1 * (lnS ch j).2.1 by omega) a0
        constructor
        · intro w; dsimp only at w; omega
        · intro w; exact absurd w q
    have htn : (lnS ch (j + 1)).2.2 = if lnG (lnS ch j).1 (lnS ch j).2.1 (ch.2.2.2.2 j).2.1 (ch.2.2.2.2 j).2.2 then (lnS ch j).2.2 + 1 else (lnS ch j).2.2 := by
      rw [stp]
      split <;> rfl
    rw [← hcls.1, ← hcls.2] at hnew
    have m1 := mulB (x := fU (lnS ch j).2.1 (lnS ch j).1) (y := (ch.2.2.2.2 j).2.2) (A := 331776) (B := 12) (by omega) tb.2
    have m2 := mulB (x := fL (lnS ch j).2.1 (lnS ch j).1) (y := (ch.2.2.2.2 j).2.1) (A := 331776) (B := 12) (by omega) tb.1
    have m3 := mulB (x := fL (lnS ch j).2.1 (lnS ch j).1) (y := (ch.2.2.2.2 j).2.2) (A := 331776) (B := 12) (by omega) tb.2
    have m4 := mulB (x := fU (lnS ch j).2.1 (lnS ch j).1) (y := (ch.2.2.2.2 j).2.1) (A := 331776) (B := 12) (by omega) tb.1
    refine s_65_16_38 ?_
    rw [hc.2.2.2.1, hv.1, hv.2]
    refine i_lt32 (by omega) (by omega) (fun _ => k_14_38 (by omega) (kcp_v rfl (s_65_50_38 (k_15_38 (by omega) (kcp_v rfl (s_65_56_38 ?_)))))) (fun _ => by omega)
    rw [e2, e4, i2l r2, i2l r3, hv.1, hv.2]
    simp only [mul64, add64, sub64]
    refine k_25_43 (by omega) (by omega) (fun L1 hf1 hv1 => kcp_v rfl (s_27_30_43 (kcp_v rfl (s_65_60_38 ?_))))
    rw [← hnew.1, ← hnew.2] at hv1
    rw [hv1.1, hv1.2]
    refine c_28 (by omega) (by omega) (by omega) (by omega) wb.2.2 ub.2.2 (kcp_v rfl (s_65_80_38 ?_))
    have lb : ∀ x y z t : Int, -1 ≤ lenC x y z t ∧ lenC x y z t ≤ 1 := fun x y z t => by
      unfold lenC
      have := (sg_0 (v := x * t - z * y)).2
      split <;> split <;> omega
    have lbb := lb (fU (lnS ch (j + 1)).2.1 (lnS ch (j + 1)).1) (fL (lnS ch (j + 1)).2.1 (lnS ch (j + 1)).1) (fU (lnS ch j).2.1 (lnS ch j).1) (fL (lnS ch j).2.1 (lnS ch j).1)
    rw [ht, add32, add32]
    refine i_ltz (by omega) (fun q => ?_) (fun q => ?_)
    · rw [if_pos (hlt.mp q)] at htn
      have := ih (j + 1) (by omega) _ L1 (FrL.tr hL hf1 rfl rfl) (FrI.wu hf (k := 42) (j := 0) (x := Int32.ofInt ((lnS ch j).2.2 + 1)) rfl) (by rw [u_at, htn]) hv1
      exact this
    · rw [if_neg (fun w => by have := hlt.mpr w; omega)] at htn
      have := ih (j + 1) (by omega) I L1 (FrL.tr hL hf1 rfl rfl) hf (by rw [ht, htn]) hv1
      exact this
theorem kc_65_38 {ch : Ch} (hok : ChOk ch) (hc : ChAt I 38 ch) (h : ∀ I' L', FrL [(43, 0, 2)] L L' → FrI [(42, 0, 0)] I I' → I' 42 0 = .ofInt (lnS ch ch.2.2.2.1).2.2 → FrcAt L' 43 (fU (lnS ch ch.2.2.2.1).2.1 (lnS ch ch.2.2.2.1).1) (fL (lnS ch ch.2.2.2.1).2.1 (lnS ch ch.2.2.2.1).1) → Q (.inl none) (gE Lx) I' L' e) : Wp 65 0 [(0, .ref 42), (1, .ref 38)] [] (gE Lx) I L e Q := by
  refine s_65_0_38 (k_25_43 (by omega) (by omega) (fun L1 hf1 hv1 => kcp_v rfl (s_65_14_38 ?_)))
  have hI : FrI [(42, 0, 0)] I (ui I 42 0 (Int32.ofInt 0)) := FrI.wu FrI.rf rfl
  exact kl_65_38 (I0 := I) (L0 := L) hok hc h ch.2.2.2.1 0 (by omega) _ L1 hf1 hI u_at hv1
end
