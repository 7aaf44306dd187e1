/-! Kept chains measured: wide, length; by program from the contracts for the chain at hand. -/
section
variable {Lx : Nat} {I : Mi} {L : Ml} {e : Nat} {Q : Kq}
theorem k_12_45 {k : Nat} (hk : k < 4) (h : Q (.inl (some (.int (I 46 k)))) (gE Lx) I L e) : Wp 12 0 [(0, .ref 45), (1, .int (Int32.ofInt k))] [] (gE Lx) I L e Q := by
  refine s_12_0_45 ?_
  rw [tncn (by omega)]
  exact i_ltz (by omega) (fun _ => by omega) (fun _ => i_lt32 (by omega) (by omega) (fun _ => i_inb (by omega) hk h) (fun _ => by omega))
theorem k_14_45 {k : Nat} (hk : k < 4) (h : Q (.inl (some (.int (I 47 k)))) (gE Lx) I L e) : Wp 14 0 [(0, .ref 45), (1, .int (Int32.ofInt k))] [] (gE Lx) I L e Q := by
  refine s_14_0_45 ?_
  rw [tncn (by omega)]
  exact i_ltz (by omega) (fun _ => by omega) (fun _ => i_lt32 (by omega) (by omega) (fun _ => i_inb (by omega) hk h) (fun _ => by omega))
theorem k_15_45 {k : Nat} (hk : k < 4) (h : Q (.inl (some (.int (I 48 k)))) (gE Lx) I L e) : Wp 15 0 [(0, .ref 45), (1, .int (Int32.ofInt k))] [] (gE Lx) I L e Q := by
  refine s_15_0_45 ?_
  rw [tncn (by omega)]
  exact i_ltz (by omega) (fun _ => by omega) (fun _ => i_lt32 (by omega) (by omega) (fun _ => i_inb (by omega) hk h) (fun _ => by omega))
set_option maxHeartbeats 4000000 in
theorem k_25_50 {a b : Int} (ha : R63 a) (hb : R63 b) (h : ∀ L', FrL [(50, 0, 2)] L L' → FrcAt L' 50 (fU a b) (fL a b) → Q (.inl none) (gE Lx) I L' e) : Wp 25 0 [(0, .ref 50), (1, .long (Int64.ofInt a)), (3, .long (Int64.ofInt b))] [] (gE Lx) I L e Q := by
  have hn := gI_nn a b
  have hr := gI_r ha hb
  have key : ∀ (x y : Int64) (u l : Int), x = .ofInt u → y = .ofInt l → u = fU a b → l = fL a b → Q (.inl none) (gE Lx) I (ul (ul L 50 0 x) 50 1 y) e := by
    intro x y u l h1 h2 h3 h4
    subst h1; subst h2; subst h3; subst h4
    refine h _ ?_ ⟨?_, l_at⟩
    · exact FrL.wu (FrL.wu FrL.rf rfl) rfl
    · rw [l_ne (by decide), l_at]
  have g0 : gI a b = 0 → a = 0 ∧ b = 0 := gI_0.mp
  have g1 : gI a b ≠ 0 → ¬ (a = 0 ∧ b = 0) := fun k z => k (gI_0.mpr z)
  refine s_25_0_50 (c_26 ha hb (kcp_v rfl (s_25_5_50 ?_)))
  refine i_eq64 (by omega) (by omega) (fun h0 => ?_) (fun h0 => ?_)
  · refine key _ _ 0 1 rfl rfl ?_ ?_
    · unfold fU; rw [if_pos (g0 h0)]
    · unfold fL; rw [if_pos (g0 h0)]
  · rw [neg64]
    refine i_lt64 (by omega) (by omega) (fun h1 => ?_) (fun h1 => ?_)
    · refine i_nz64 (by omega) (by omega) (i_nz64 (by omega) (by omega) (key _ _ _ _ (dvgn ha hb h0) (dvgn2 ha hb h0) ?_ ?_))
      · unfold fU; rw [if_neg (g1 h0), if_pos (Or.inl h1)]
      · unfold fL; rw [if_neg (g1 h0), if_pos h1]
    · refine i_eq64 (by omega) (by omega) (fun h2 => ?_) (fun h2 => ?_)
      · refine i_lt64 (by omega) (by omega) (fun h3 => ?_) (fun h3 => ?_)
        · refine i_nz64 (by omega) (by omega) (i_nz64 (by omega) (by omega) (key _ _ _ _ (dvgn ha hb h0) (dvgn2 ha hb h0) ?_ ?_))
          · unfold fU; rw [if_neg (g1 h0), if_pos (Or.inr ⟨h2, h3⟩)]
          · unfold fL; rw [if_neg (g1 h0), if_neg (by omega), h2]; simp
        · refine i_nz64 (by omega) (by omega) (i_nz64 (by omega) (by omega) (key _ _ _ _ (dvg ha hb h0) (dvg2 ha hb h0) ?_ ?_))
          · unfold fU; rw [if_neg (g1 h0), if_neg (by omega)]
          · unfold fL; rw [if_neg (g1 h0), if_neg (by omega)]
      · refine i_nz64 (by omega) (by omega) (i_nz64 (by omega) (by omega) (key _ _ _ _ (dvg ha hb h0) (dvg2 ha hb h0) ?_ ?_))
        · unfold fU; rw [if_neg (g1 h0), if_neg (by omega)]
        · unfold fL; rw [if_neg (g1 h0), if_neg (by omega)]
theorem kl_97_45 {ch : Ch} (hok : ChOk ch) (hc : ChAt I 45 ch) {x h : Int} (hh : h ≠ 0) (hx : vOk x h) {L0 : Ml} (fin : ∀ L', FrL vkF L0 L' → WvAt L' 14 (vW ch x h) → Q (.inl none) (gE Lx) I L' e) :
    ∀ (s j : Nat), j + s = ch.2.2.2.1 → ∀ L : Ml, FrL vkF L0 L → WvAt L 14 (wSeen (vCh ch x h) j) →
    Wp 97 24 [(0, .ref 1), (1, .ref 45), (2, .int (Int32.ofInt x)), (3, .int (Int32.ofInt j))] [] (gE Lx) I L e Q := by
  have h4 := hok.2.2.2.1
  have hxx := (vOk_n hh).mp hx
  intro s
  induction s with
  | zero =>
    intro j hj L hf hW
    have : j = ch.2.2.2.1 := by omega
    subst this
    refine s_97_24_45 ?_
    rw [hc.2.2.2.1]
    exact i_lt32 (by omega) (by omega) (fun _ => by omega) (fun _ => fin L hf hW)
  | succ s ih =>
    intro j hj L hf hW
    have hel := hok.2.2.2.2 j (by omega)
    obtain ⟨r1, r2, r3⟩ := el_r hel
    obtain ⟨e1, e2, e4⟩ := hc.2.2.2.2 j (by omega)
    have tb := hel.2.b
    have e5 : vT x h (ch.2.2.2.2 j).2.1 (ch.2.2.2.2 j).2.2 = (fU ((20 + x) * (ch.2.2.2.2 j).2.1) (20 * (ch.2.2.2.2 j).2.2), fL ((20 + x) * (ch.2.2.2.2 j).2.1) (20 * (ch.2.2.2.2 j).2.2)) := if_neg hh
    have hB := (vW_ok hok hx (show j ≤ ch.2.2.2.1 by omega)).2
    have m1 := mulB (x := 20 + x) (y := (ch.2.2.2.2 j).2.1) (A := 30) (B := 12) (by omega) (by omega)
    refine s_97_24_45 ?_
    rw [hc.2.2.2.1, i2l (by omega), add64]
    refine i_lt32 (by omega) (by omega) (fun _ => k_14_45 (by omega) (kcp_v rfl (s_97_47_45 ?_))) (fun _ => by omega)
    rw [e2, i2l r2, mul64]
    refine k_15_45 (by omega) (kcp_v rfl (s_97_57_45 ?_))
    rw [e4, i2l r3, mul64]
    refine c_25 (Or.inl rfl) (by omega) (by omega) (fun L1 hf1 hv1 => kcp_v rfl (s_97_62_45 (k_12_45 (by omega) (kcp_v rfl (s_97_71_45 ?_)))))
    rw [e1, hv1.1, hv1.2]
    refine c_75 (Or.inl rfl) (hW.cg (hf1.at rfl)) (WB.le hB (by decide)) r1 (fun L2 hf2 hW2 => kcp_v rfl (s_97_88_45 ?_))
    rw [add32]
    have := ih (j + 1) (by omega) L2 (FrL.tr hf (FrL.tr (S := vkF) hf1 hf2 rfl rfl) rfl rfl) (by
      show WvAt L2 14 (wPass (ch.2.2.2.2 j).1 (vT x h (ch.2.2.2.2 j).2.1 (ch.2.2.2.2 j).2.2).1 (vT x h (ch.2.2.2.2 j).2.1 (ch.2.2.2.2 j).2.2).2 (wSeen (vCh ch x h) j))
      rw [e5]
      exact hW2)
    exact this
theorem kc_97_45 {ch : Ch} (hok : ChOk ch) (hc : ChAt I 45 ch) {x h : Int} (hh : h ≠ 0) (hx : vOk x h) (fin : ∀ L', FrL vkF L L' → WvAt L' 14 (vW ch x h) → Q (.inl none) (gE Lx) I L' e) :
    Wp 97 0 [(0, .ref 1), (1, .ref 45), (2, .int (Int32.ofInt x))] [] (gE Lx) I L e Q := by
  obtain ⟨h1, h2, h3, -⟩ := id hc
  have b1 := hok.1; have b2 := hok.2.1; have b3 := hok.2.2.1
  refine s_97_0_45 ?_
  rw [h1, h2, h3, i2l (by omega), i2l (by omega), i2l (by omega)]
  have nb : ∀ P : Prop, ¬ (h = 0 ∧ P) := fun P w => hh w.1
  refine kl_97_45 hok hc hh hx (L0 := L) fin ch.2.2.2.1 0 (by omega) _ (FrL.wu (FrL.wu (FrL.wu (FrL.wu FrL.rf rfl) rfl) rfl) rfl) ?_
  show WvAt _ 14 (wBeg (vCh ch x h))
  unfold wBeg vCh
  rw [if_neg (nb _), if_neg (nb _), if_neg (nb _)]
  exact ⟨rfl, rfl, rfl, rfl⟩
theorem kn_beside_45 {ch : Ch} (hok : ChOk ch) (hc : ChAt I 45 ch) {l4 l5 : Int} (hl : LimAt I l4 l5) {k : Int} (hk : -10 ≤ k ∧ k ≤ 10) (h1 : wdP ch l4 l5 k → ∀ L', FrL wdL L L' → Q (.inl (some (.int (Int32.ofInt 1)))) (gE Lx) I L' e) (h0 : ¬ wdP ch l4 l5 k → ∀ L', FrL wdL L L' → Q (.inl (some (.int (Int32.ofInt 0)))) (gE Lx) I L' e) :
    Wp 97 0 [(0, .ref 1), (1, .ref 45), (2, .int (Int32.ofInt k))] [] (gE Lx) I L e (kcp (Wp 96) 96 3 0 [(0, .ref 1), (1, .ref 45)] 71 [] Q) := by
  have v : vOk k 1 := (vOk_n (by decide)).mpr hk
  have a := vW_ok hok v (Nat.le_refl _)
  exact kc_97_45 hok hc (by decide) v (fun L1 hfa hW => kcp_v rfl (s_96_6_45 (c_98 hW a.2 hl (fun q L2 hfb => kcp_v rfl (s_96_10_45 (b_1 (h1 q L2 (FrL.tr (S := wdL) hfa hfb rfl rfl))))) (fun q L2 hfb => kcp_v rfl (s_96_10_45 (b_0 (h0 q L2 (FrL.tr (S := wdL) hfa hfb rfl rfl))))))))
theorem kl_95_45 {ch : Ch} (hok : ChOk ch) (hc : ChAt I 45 ch) {l4 l5 : Int} (hl : LimAt I l4 l5) : ∀ (s : Nat) (k : Int), k + s = 11 → 0 ≤ k → ∀ L : Ml, (∀ L', FrL wdL L L' → Q (.inl (some (.int (Int32.ofInt (wdF (wdP ch l4 l5) s k))))) (gE Lx) I L' e) →
    Wp 95 4 [(0, .ref 1), (1, .ref 45), (2, .int (Int32.ofInt (k - 1))), (3, .int (Int32.ofInt k))] [] (gE Lx) I L e Q := by
  intro s
  induction s with
  | zero =>
    intro k hk h0 L h
    exact s_95_4_45 (i_lt32 (by omega) (by omega) (fun _ => h L FrL.rf) (fun _ => by omega))
  | succ s ih =>
    intro k hk h0 L h
    have no : ¬ (wdP ch l4 l5 k ∧ wdP ch l4 l5 (-k)) → ∀ L', FrL wdL L L' → Q (.inl (some (.int (Int32.ofInt (k - 1))))) (gE Lx) I L' e := fun q L' hf' => by
      have := h L' hf'
      unfold wdF at this
      rw [iP_f q] at this
      exact this
    refine s_95_4_45 (i_lt32 (by omega) (by omega) (fun _ => by omega) (fun _ => kn_beside_45 hok hc hl (by omega) (fun q1 L1 hf1 => kcp_v rfl (s_95_16_45 (j_1 ?_))) (fun q1 L1 hf1 => kcp_v rfl (s_95_16_45 (j_0 (no (fun w => q1 w.1) L1 hf1))))))
    rw [neg32]
    refine kn_beside_45 hok hc hl (by omega) (fun q2 L2 hf2 => kcp_v rfl (s_95_26_45 (j_1 ?_))) (fun q2 L2 hf2 => kcp_v rfl (s_95_26_45 (j_0 (no (fun w => q2 w.2) L2 (FrL.tr (S := wdL) hf1 hf2 rfl rfl)))))
    rw [add32]
    have := ih (k + 1) (by omega) (by omega) L2 (fun L' hf' => by
      have := h L' (FrL.tr (S := wdL) (FrL.tr (S := wdL) hf1 hf2 rfl rfl) hf' rfl rfl)
      unfold wdF at this
      rw [iP_t ⟨q1, q2⟩] at this
      exact this)
    rw [show k + 1 - 1 = k by omega] at this
    exact this
set_option maxHeartbeats 4000000 in
theorem kl_65_45 {I0 : Mi} {ch : Ch} (hok : ChOk ch) (hc0 : ChAt I0 45 ch) {L0 : Ml} (fin : ∀ I' L', FrL [(50, 0, 2)] L0 L' → FrI [(49, 0, 0)] I0 I' → I' 49 0 = .ofInt (lnS ch ch.2.2.2.1).2.2 → FrcAt L' 50 (fU (lnS ch ch.2.2.2.1).2.1 (lnS ch ch.2.2.2.1).1) (fL (lnS ch ch.2.2.2.1).2.1 (lnS ch ch.2.2.2.1).1) → Q (.inl none) (gE Lx) I' L' e) :
    ∀ (s j : Nat), j + s = ch.2.2.2.1 → ∀ (I : Mi) (L : Ml), FrL [(50, 0, 2)] L0 L → FrI [(49, 0, 0)] I0 I → I 49 0 = .ofInt (lnS ch j).2.2 → FrcAt L 50 (fU (lnS ch j).2.1 (lnS ch j).1) (fL (lnS ch j).2.1 (lnS ch j).1) →
    Wp 65 16 [(0, .ref 49), (1, .ref 45), (2, .int (Int32.ofInt j))] [] (gE Lx) I L e Q := by
  have h4 := hok.2.2.2.1
  intro s
  induction s with
  | zero =>
    intro j hj I L hL hf ht hv
    have : j = ch.2.2.2.1 := by omega
    subst this
    have hc : ChAt I 45 ch := hc0.cg (hf.at rfl) (hf.at rfl) (hf.at rfl) (hf.at rfl)
    refine s_65_16_45 ?_
    rw [hc.2.2.2.1]
    exact i_lt32 (by omega) (by omega) (fun _ => by omega) (fun _ => fin I L hL hf ht hv)
  | succ s ih =>
    intro j hj I L hL hf ht hv
    have hc : ChAt I 45 ch := hc0.cg (hf.at rfl) (hf.at rfl) (hf.at rfl) (hf.at rfl)
    have hel := hok.2.2.2.2 j (by omega)
    obtain ⟨r1, r2, r3⟩ := el_r hel
    obtain ⟨e1, e2, e4⟩ := hc.2.2.2.2 j (by omega)
    obtain ⟨k1, ⟨k2, k3⟩, k4⟩ := lnS_ok hok j (by omega)
    obtain ⟨w1, ⟨w2, w3⟩, w4⟩ := lnS_ok hok (j + 1) (by omega)
    have pj := pow24 j (by omega)
    have pj1 := pow24 (j + 1) (by omega)
    have ub := up_b k1 k2 k3
    have wb := up_b w1 w2 w3
    have hcls := ln_cls k1 hel.2
    have hu := ln_up k1 hel.2
    have hW := ln_w k1 hel.2
    have es := (ln_sq (c := (lnS ch j).1) (s := (lnS ch j).2.1) (p := (ch.2.2.2.2 j).2.1) (q := (ch.2.2.2.2 j).2.2)).2
    have nz := up_nz k1
    have stp := lnS_s (ch := ch) (i := j)
    have hx := len_x w1 k1
    have tb := hel.2.b
    have a0 : 0 ≤ lnA (ch.2.2.2.2 j).2.1 := by unfold lnA; split <;> omega
    have hnew : fU (lnS ch (j + 1)).2.1 (lnS ch (j + 1)).1 = fU (lnB (lnS ch j).1 (lnS ch j).2.1 (ch.2.2.2.2 j).2.1 (ch.2.2.2.2 j).2.2) (lnC (lnS ch j).1 (lnS ch j).2.1 (ch.2.2.2.2 j).2.1 (ch.2.2.2.2 j).2.2) ∧ fL (lnS ch (j + 1)).2.1 (lnS ch (j + 1)).1 = fL (lnB (lnS ch j).1 (lnS ch j).2.1 (ch.2.2.2.2 j).2.1 (ch.2.2.2.2 j).2.2) (lnC (lnS ch j).1 (lnS ch j).2.1 (ch.2.2.2.2 j).2.1 (ch.2.2.2.2 j).2.2) := by
      rw [stp]
      split
      · exact ⟨fU_neg, fL_neg⟩
      · exact ⟨rfl, rfl⟩
    have hlt : lenC (fU (lnS ch (j + 1)).2.1 (lnS ch (j + 1)).1) (fL (lnS ch (j + 1)).2.1 (lnS ch (j + 1)).1) (fU (lnS ch j).2.1 (lnS ch j).1) (fL (lnS ch j).2.1 (lnS ch j).1) < 0 ↔ lnG (lnS ch j).1 (lnS ch j).2.1 (ch.2.2.2.2 j).2.1 (ch.2.2.2.2 j).2.2 := by
      rw [hx, stp]
      split
      · next q =>
        have := Int.mul_pos nz (hW q)
        rw [Int.neg_mul, Int.neg_mul]
        constructor
        · intro _; exact q
        · intro _; omega
      · next q =>
        have := Int.mul_nonneg (show 0 ≤ (lnS ch j).1 * (lnS ch j).1 + (lnS ch j).2.1 * (lnS ch j).2.1 by omega) a0
        constructor
        · intro w; dsimp only at w; omega
        · intro w; exact absurd w q
    have htn : (lnS ch (j + 1)).2.2 = if lnG (lnS ch j).1 (lnS ch j).2.1 (ch.2.2.2.2 j).2.1 (ch.2.2.2.2 j).2.2 then (lnS ch j).2.2 + 1 else (lnS ch j).2.2 := by
      rw [stp]
      split <;> rfl
    rw [← hcls.1, ← hcls.2] at hnew
    have m1 := mulB (x := fU (lnS ch j).2.1 (lnS ch j).1) (y := (ch.2.2.2.2 j).2.2) (A := 331776) (B := 12) (by omega) tb.2
    have m2 := mulB (x := fL (lnS ch j).2.1 (lnS ch j).1) (y := (ch.2.2.2.2 j).2.1) (A := 331776) (B := 12) (by omega) tb.1
    have m3 := mulB (x := fL (lnS ch j).2.1 (lnS ch j).1) (y := (ch.2.2.2.2 j).2.2) (A := 331776) (B := 12) (by omega) tb.2
    have m4 := mulB (x := fU (lnS ch j).2.1 (lnS ch j).1) (y := (ch.2.2.2.2 j).2.1) (A := 331776) (B := 12) (by omega) tb.1
    refine s_65_16_45 ?_
    rw [hc.2.2.2.1, hv.1, hv.2]
    refine i_lt32 (by omega) (by omega) (fun _ => k_14_45 (by omega) (kcp_v rfl (s_65_50_45 (k_15_45 (by omega) (kcp_v rfl (s_65_56_45 ?_)))))) (fun _ => by omega)
    rw [e2, e4, i2l r2, i2l r3, hv.1, hv.2]
    simp only [mul64, add64, sub64]
    refine k_25_50 (by omega) (by omega) (fun L1 hf1 hv1 => kcp_v rfl (s_27_30_50 (kcp_v rfl (s_65_60_45 ?_))))
    rw [← hnew.1, ← hnew.2] at hv1
    rw [hv1.1, hv1.2]
    refine c_28 (by omega) (by omega) (by omega) (by omega) wb.2.2 ub.2.2 (kcp_v rfl (s_65_80_45 ?_))
    have lb : ∀ x y z t : Int, -1 ≤ lenC x y z t ∧ lenC x y z t ≤ 1 := fun x y z t => by
      unfold lenC
      have := (sg_0 (v := x * t - z * y)).2
      split <;> split <;> omega
    have lbb := lb (fU (lnS ch (j + 1)).2.1 (lnS ch (j + 1)).1) (fL (lnS ch (j + 1)).2.1 (lnS ch (j + 1)).1) (fU (lnS ch j).2.1 (lnS ch j).1) (fL (lnS ch j).2.1 (lnS ch j).1)
    rw [ht, add32, add32]
    refine i_ltz (by omega) (fun q => ?_) (fun q => ?_)
    · rw [if_pos (hlt.mp q)] at htn
      have := ih (j + 1) (by omega) _ L1 (FrL.tr hL hf1 rfl rfl) (FrI.wu hf (k := 49) (j := 0) (x := Int32.ofInt ((lnS ch j).2.2 + 1)) rfl) (by rw [u_at, htn]) hv1
      exact this
    · rw [if_neg (fun w => by have := hlt.mpr w; omega)] at htn
      have := ih (j + 1) (by omega) I L1 (FrL.tr hL hf1 rfl rfl) hf (by rw [ht, htn]) hv1
      exact this
theorem kc_65_45 {ch : Ch} (hok : ChOk ch) (hc : ChAt I 45 ch) (h : ∀ I' L', FrL [(50, 0, 2)] L L' → FrI [(49, 0, 0)] I I' → I' 49 0 = .ofInt (lnS ch ch.2.2.2.1).2.2 → FrcAt L' 50 (fU (lnS ch ch.2.2.2.1).2.1 (lnS ch ch.2.2.2.1).1) (fL (lnS ch ch.2.2.2.1).2.1 (lnS ch ch.2.2.2.1).1) → Q (.inl none) (gE Lx) I' L' e) : Wp 65 0 [(0, .ref 49), (1, .ref 45)] [] (gE Lx) I L e Q := by
  refine s_65_0_45 (k_25_50 (by omega) (by omega) (fun L1 hf1 hv1 => kcp_v rfl (s_65_14_45 ?_)))
  have hI : FrI [(49, 0, 0)] I (ui I 49 0 (Int32.ofInt 0)) := FrI.wu FrI.rf rfl
  exact kl_65_45 (I0 := I) (L0 := L) hok hc h ch.2.2.2.1 0 (by omega) _ L1 hf1 hI u_at hv1
theorem k_12_52 {k : Nat} (hk : k < 4) (h : Q (.inl (some (.int (I 53 k)))) (gE Lx) I L e) : Wp 12 0 [(0, .ref 52), (1, .int (Int32.ofInt k))] [] (gE Lx) I L e Q := by
  refine s_12_0_52 ?_
  rw [tncn (by omega)]
  exact i_ltz (by omega) (fun _ => by omega) (fun _ => i_lt32 (by omega) (by omega) (fun _ => i_inb (by omega) hk h) (fun _ => by omega))
theorem k_14_52 {k : Nat} (hk : k < 4) (h : Q (.inl (some (.int (I 54 k)))) (gE Lx) I L e) : Wp 14 0 [(0, .ref 52), (1, .int (Int32.ofInt k))] [] (gE Lx) I L e Q := by
  refine s_14_0_52 ?_
  rw [tncn (by omega)]
  exact i_ltz (by omega) (fun _ => by omega) (fun _ => i_lt32 (by omega) (by omega) (fun _ => i_inb (by omega) hk h) (fun _ => by omega))
theorem k_15_52 {k : Nat} (hk : k < 4) (h : Q (.inl (some (.int (I 55 k)))) (gE Lx) I L e) : Wp 15 0 [(0, .ref 52), (1, .int (Int32.ofInt k))] [] (gE Lx) I L e Q := by
  refine s_15_0_52 ?_
  rw [tncn (by omega)]
  exact i_ltz (by omega) (fun _ => by omega) (fun _ => i_lt32 (by omega) (by omega) (fun _ => i_inb (by omega) hk h) (fun _ => by omega))
set_option maxHeartbeats 4000000 in
theorem k_25_57 {a b : Int} (ha : R63 a) (hb : R63 b) (h : ∀ L', FrL [(57, 0, 2)] L L' → FrcAt L' 57 (fU a b) (fL a b) → Q (.inl none) (gE Lx) I L' e) : Wp 25 0 [(0, .ref 57), (1, .long (Int64.ofInt a)), (3, .long (Int64.ofInt b))] [] (gE Lx) I L e Q := by
  have hn := gI_nn a b
  have hr := gI_r ha hb
  have key : ∀ (x y : Int64) (u l : Int), x = .ofInt u → y = .ofInt l → u = fU a b → l = fL a b → Q (.inl none) (gE Lx) I (ul (ul L 57 0 x) 57 1 y) e := by
    intro x y u l h1 h2 h3 h4
    subst h1; subst h2; subst h3; subst h4
    refine h _ ?_ ⟨?_, l_at⟩
    · exact FrL.wu (FrL.wu FrL.rf rfl) rfl
    · rw [l_ne (by decide), l_at]
  have g0 : gI a b = 0 → a = 0 ∧ b = 0 := gI_0.mp
  have g1 : gI a b ≠ 0 → ¬ (a = 0 ∧ b = 0) := fun k z => k (gI_0.mpr z)
  refine s_25_0_57 (c_26 ha hb (kcp_v rfl (s_25_5_57 ?_)))
  refine i_eq64 (by omega) (by omega) (fun h0 => ?_) (fun h0 => ?_)
  · refine key _ _ 0 1 rfl rfl ?_ ?_
    · unfold fU; rw [if_pos (g0 h0)]
    · unfold fL; rw [if_pos (g0 h0)]
  · rw [neg64]
    refine i_lt64 (by omega) (by omega) (fun h1 => ?_) (fun h1 => ?_)
    · refine i_nz64 (by omega) (by omega) (i_nz64 (by omega) (by omega) (key _ _ _ _ (dvgn ha hb h0) (dvgn2 ha hb h0) ?_ ?_))
      · unfold fU; rw [if_neg (g1 h0), if_pos (Or.inl h1)]
      · unfold fL; rw [if_neg (g1 h0), if_pos h1]
    · refine i_eq64 (by omega) (by omega) (fun h2 => ?_) (fun h2 => ?_)
      · refine i_lt64 (by omega) (by omega) (fun h3 => ?_) (fun h3 => ?_)
        · refine i_nz64 (by omega) (by omega) (i_nz64 (by omega) (by omega) (key _ _ _ _ (dvgn ha hb h0) (dvgn2 ha hb h0) ?_ ?_))
          · unfold fU; rw [if_neg (g1 h0), if_pos (Or.inr ⟨h2, h3⟩)]
          · unfold fL; rw [if_neg (g1 h0), if_neg (by omega), h2]; simp
        · refine i_nz64 (by omega) (by omega) (i_nz64 (by omega) (by omega) (key _ _ _ _ (dvg ha hb h0) (dvg2 ha hb h0) ?_ ?_))
          · unfold fU; rw [if_neg (g1 h0), if_neg (by omega)]
          · unfold fL; rw [if_neg (g1 h0), if_neg (by omega)]
      · refine i_nz64 (by omega) (by omega) (i_nz64 (by omega) (by omega) (key _ _ _ _ (dvg ha hb h0) (dvg2 ha hb h0) ?_ ?_))
        · unfold fU; rw [if_neg (g1 h0), if_neg (by omega)]
        · unfold fL; rw [if_neg (g1 h0), if_neg (by omega)]
theorem kl_97_52 {ch : Ch} (hok : ChOk ch) (hc : ChAt I 52 ch) {x h : Int} (hh : h ≠ 0) (hx : vOk x h) {L0 : Ml} (fin : ∀ L', FrL vkF L0 L' → WvAt L' 14 (vW ch x h) → Q (.inl none) (gE Lx) I L' e) :
    ∀ (s j : Nat), j + s = ch.2.2.2.1 → ∀ L : Ml, FrL vkF L0 L → WvAt L 14 (wSeen (vCh ch x h) j) →
    Wp 97 24 [(0, .ref 1), (1, .ref 52), (2, .int (Int32.ofInt x)), (3, .int (Int32.ofInt j))] [] (gE Lx) I L e Q := by
  have h4 := hok.2.2.2.1
  have hxx := (vOk_n hh).mp hx
  intro s
  induction s with
  | zero =>
    intro j hj L hf hW
    have : j = ch.2.2.2.1 := by omega
    subst this
    refine s_97_24_52 ?_
    rw [hc.2.2.2.1]
    exact i_lt32 (by omega) (by omega) (fun _ => by omega) (fun _ => fin L hf hW)
  | succ s ih =>
    intro j hj L hf hW
    have hel := hok.2.2.2.2 j (by omega)
    obtain ⟨r1, r2, r3⟩ := el_r hel
    obtain ⟨e1, e2, e4⟩ := hc.2.2.2.2 j (by omega)
    have tb := hel.2.b
    have e5 : vT x h (ch.2.2.2.2 j).2.1 (ch.2.2.2.2 j).2.2 = (fU ((20 + x) * (ch.2.2.2.2 j).2.1) (20 * (ch.2.2.2.2 j).2.2), fL ((20 + x) * (ch.2.2.2.2 j).2.1) (20 * (ch.2.2.2.2 j).2.2)) := if_neg hh
    have hB := (vW_ok hok hx (show j ≤ ch.2.2.2.1 by omega)).2
    have m1 := mulB (x := 20 + x) (y := (ch.2.2.2.2 j).2.1) (A := 30) (B := 12) (by omega) (by omega)
    refine s_97_24_52 ?_
    rw [hc.2.2.2.1, i2l (by omega), add64]
    refine i_lt32 (by omega) (by omega) (fun _ => k_14_52 (by omega) (kcp_v rfl (s_97_47_52 ?_))) (fun _ => by omega)
    rw [e2, i2l r2, mul64]
    refine k_15_52 (by omega) (kcp_v rfl (s_97_57_52 ?_))
    rw [e4, i2l r3, mul64]
    refine c_25 (Or.inl rfl) (by omega) (by omega) (fun L1 hf1 hv1 => kcp_v rfl (s_97_62_52 (k_12_52 (by omega) (kcp_v rfl (s_97_71_52 ?_)))))
    rw [e1, hv1.1, hv1.2]
    refine c_75 (Or.inl rfl) (hW.cg (hf1.at rfl)) (WB.le hB (by decide)) r1 (fun L2 hf2 hW2 => kcp_v rfl (s_97_88_52 ?_))
    rw [add32]
    have := ih (j + 1) (by omega) L2 (FrL.tr hf (FrL.tr (S := vkF) hf1 hf2 rfl rfl) rfl rfl) (by
      show WvAt L2 14 (wPass (ch.2.2.2.2 j).1 (vT x h (ch.2.2.2.2 j).2.1 (ch.2.2.2.2 j).2.2).1 (vT x h (ch.2.2.2.2 j).2.1 (ch.2.2.2.2 j).2.2).2 (wSeen (vCh ch x h) j))
      rw [e5]
      exact hW2)
    exact this
theorem kc_97_52 {ch : Ch} (hok : ChOk ch) (hc : ChAt I 52 ch) {x h : Int} (hh : h ≠ 0) (hx : vOk x h) (fin : ∀ L', FrL vkF L L' → WvAt L' 14 (vW ch x h) → Q (.inl none) (gE Lx) I L' e) :
    Wp 97 0 [(0, .ref 1), (1, .ref 52), (2, .int (Int32.ofInt x))] [] (gE Lx) I L e Q := by
  obtain ⟨h1, h2, h3, -⟩ := id hc
  have b1 := hok.1; have b2 := hok.2.1; have b3 := hok.2.2.1
  refine s_97_0_52 ?_
  rw [h1, h2, h3, i2l (by omega), i2l (by omega), i2l (by omega)]
  have nb : ∀ P : Prop, ¬ (h = 0 ∧ P) := fun P w => hh w.1
  refine kl_97_52 hok hc hh hx (L0 := L) fin ch.2.2.2.1 0 (by omega) _ (FrL.wu (FrL.wu (FrL.wu (FrL.wu FrL.rf rfl) rfl) rfl) rfl) ?_
  show WvAt _ 14 (wBeg (vCh ch x h))
  unfold wBeg vCh
  rw [if_neg (nb _), if_neg (nb _), if_neg (nb _)]
  exact ⟨rfl, rfl, rfl, rfl⟩
theorem kn_beside_52 {ch : Ch} (hok : ChOk ch) (hc : ChAt I 52 ch) {l4 l5 : Int} (hl : LimAt I l4 l5) {k : Int} (hk : -10 ≤ k ∧ k ≤ 10) (h1 : wdP ch l4 l5 k → ∀ L', FrL wdL L L' → Q (.inl (some (.int (Int32.ofInt 1)))) (gE Lx) I L' e) (h0 : ¬ wdP ch l4 l5 k → ∀ L', FrL wdL L L' → Q (.inl (some (.int (Int32.ofInt 0)))) (gE Lx) I L' e) :
    Wp 97 0 [(0, .ref 1), (1, .ref 52), (2, .int (Int32.ofInt k))] [] (gE Lx) I L e (kcp (Wp 96) 96 3 0 [(0, .ref 1), (1, .ref 52)] 71 [] Q) := by
  have v : vOk k 1 := (vOk_n (by decide)).mpr hk
  have a := vW_ok hok v (Nat.le_refl _)
  exact kc_97_52 hok hc (by decide) v (fun L1 hfa hW => kcp_v rfl (s_96_6_52 (c_98 hW a.2 hl (fun q L2 hfb => kcp_v rfl (s_96_10_52 (b_1 (h1 q L2 (FrL.tr (S := wdL) hfa hfb rfl rfl))))) (fun q L2 hfb => kcp_v rfl (s_96_10_52 (b_0 (h0 q L2 (FrL.tr (S := wdL) hfa hfb rfl rfl))))))))
theorem kl_95_52 {ch : Ch} (hok : ChOk ch) (hc : ChAt I 52 ch) {l4 l5 : Int} (hl : LimAt I l4 l5) : ∀ (s : Nat) (k : Int), k + s = 11 → 0 ≤ k → ∀ L : Ml, (∀ L', FrL wdL L L' → Q (.inl (some (.int (Int32.ofInt (wdF (wdP ch l4 l5) s k))))) (gE Lx) I L' e) →
    Wp 95 4 [(0, .ref 1), (1, .ref 52), (2, .int (Int32.ofInt (k - 1))), (3, .int (Int32.ofInt k))] [] (gE Lx) I L e Q := by
  intro s
  induction s with
  | zero =>
    intro k hk h0 L h
    exact s_95_4_52 (i_lt32 (by omega) (by omega) (fun _ => h L FrL.rf) (fun _ => by omega))
  | succ s ih =>
    intro k hk h0 L h
    have no : ¬ (wdP ch l4 l5 k ∧ wdP ch l4 l5 (-k)) → ∀ L', FrL wdL L L' → Q (.inl (some (.int (Int32.ofInt (k - 1))))) (gE Lx) I L' e := fun q L' hf' => by
      have := h L' hf'
      unfold wdF at this
      rw [iP_f q] at this
      exact this
    refine s_95_4_52 (i_lt32 (by omega) (by omega) (fun _ => by omega) (fun _ => kn_beside_52 hok hc hl (by omega) (fun q1 L1 hf1 => kcp_v rfl (s_95_16_52 (j_1 ?_))) (fun q1 L1 hf1 => kcp_v rfl (s_95_16_52 (j_0 (no (fun w => q1 w.1) L1 hf1))))))
    rw [neg32]
    refine kn_beside_52 hok hc hl (by omega) (fun q2 L2 hf2 => kcp_v rfl (s_95_26_52 (j_1 ?_))) (fun q2 L2 hf2 => kcp_v rfl (s_95_26_52 (j_0 (no (fun w => q2 w.2) L2 (FrL.tr (S := wdL) hf1 hf2 rfl rfl)))))
    rw [add32]
    have := ih (k + 1) (by omega) (by omega) L2 (fun L' hf' => by
      have := h L' (FrL.tr (S := wdL) (FrL.tr (S := wdL) hf1 hf2 rfl rfl) hf' rfl rfl)
      unfold wdF at this
      rw [iP_t ⟨q1, q2⟩] at this
      exact this)
    rw [show k + 1 - 1 = k by omega] at this
    exact this
set_option maxHeartbeats 4000000 in
theorem kl_65_52 {I0 : Mi} {ch : Ch} (hok : ChOk ch) (hc0 : ChAt I0 52 ch) {L0 : Ml} (fin : ∀ I' L', FrL [(57, 0, 2)] L0 L' → FrI [(56, 0, 0)] I0 I' → I' 56 0 = .ofInt (lnS ch ch.2.2.2.1).2.2 → FrcAt L' 57 (fU (lnS ch ch.2.2.2.1).2.1 (lnS ch ch.2.2.2.1).1) (fL (lnS ch ch.2.2.2.1).2.1 (lnS ch ch.2.2.2.1).1) → Q (.inl none) (gE Lx) I' L' e) :
    ∀ (s j : Nat), j + s = ch.2.2.2.1 → ∀ (I : Mi) (L : Ml), FrL [(57, 0, 2)] L0 L → FrI [(56, 0, 0)] I0 I → I 56 0 = .ofInt (lnS ch j).2.2 → FrcAt L 57 (fU (lnS ch j).2.1 (lnS ch j).1) (fL (lnS ch j).2.1 (lnS ch j).1) →
    Wp 65 16 [(0, .ref 56), (1, .ref 52), (2, .int (Int32.ofInt j))] [] (gE Lx) I L e Q := by
  have h4 := hok.2.2.2.1
  intro s
  induction s with
  | zero =>
    intro j hj I L hL hf ht hv
    have : j = ch.2.2.2.1 := by omega
    subst this
    have hc : ChAt I 52 ch := hc0.cg (hf.at rfl) (hf.at rfl) (hf.at rfl) (hf.at rfl)
    refine s_65_16_52 ?_
    rw [hc.2.2.2.1]
    exact i_lt32 (by omega) (by omega) (fun _ => by omega) (fun _ => fin I L hL hf ht hv)
  | succ s ih =>
    intro j hj I L hL hf ht hv
    have hc : ChAt I 52 ch := hc0.cg (hf.at rfl) (hf.at rfl) (hf.at rfl) (hf.at rfl)
    have hel := hok.2.2.2.2 j (by omega)
    obtain ⟨r1, r2, r3⟩ := el_r hel
    obtain ⟨e1, e2, e4⟩ := hc.2.2.2.2 j (by omega)
    obtain ⟨k1, ⟨k2, k3⟩, k4⟩ := lnS_ok hok j (by omega)
    obtain ⟨w1, ⟨w2, w3⟩, w4⟩ := lnS_ok hok (j + 1) (by omega)
    have pj := pow24 j (by omega)
    have pj1 := pow24 (j + 1) (by omega)
    have ub := up_b k1 k2 k3
    have wb := up_b w1 w2 w3
    have hcls := ln_cls k1 hel.2
    have hu := ln_up k1 hel.2
    have hW := ln_w k1 hel.2
    have es := (ln_sq (c := (lnS ch j).1) (s := (lnS ch j).2.1) (p := (ch.2.2.2.2 j).2.1) (q := (ch.2.2.2.2 j).2.2)).2
    have nz := up_nz k1
    have stp := lnS_s (ch := ch) (i := j)
    have hx := len_x w1 k1
    have tb := hel.2.b
    have a0 : 0 ≤ lnA (ch.2.2.2.2 j).2.1 := by unfold lnA; split <;> omega
    have hnew : fU (lnS ch (j + 1)).2.1 (lnS ch (j + 1)).1 = fU (lnB (lnS ch j).1 (lnS ch j).2.1 (ch.2.2.2.2 j).2.1 (ch.2.2.2.2 j).2.2) (lnC (lnS ch j).1 (lnS ch j).2.1 (ch.2.2.2.2 j).2.1 (ch.2.2.2.2 j).2.2) ∧ fL (lnS ch (j + 1)).2.1 (lnS ch (j + 1)).1 = fL (lnB (lnS ch j).1 (lnS ch j).2.1 (ch.2.2.2.2 j).2.1 (ch.2.2.2.2 j).2.2) (lnC (lnS ch j).1 (lnS ch j).2.1 (ch.2.2.2.2 j).2.1 (ch.2.2.2.2 j).2.2) := by
      rw [stp]
      split
      · exact ⟨fU_neg, fL_neg⟩
      · exact ⟨rfl, rfl⟩
    have hlt : lenC (fU (lnS ch (j + 1)).2.1 (lnS ch (j + 1)).1) (fL (lnS ch (j + 1)).2.1 (lnS ch (j + 1)).1) (fU (lnS ch j).2.1 (lnS ch j).1) (fL (lnS ch j).2.1 (lnS ch j).1) < 0 ↔ lnG (lnS ch j).1 (lnS ch j).2.1 (ch.2.2.2.2 j).2.1 (ch.2.2.2.2 j).2.2 := by
      rw [hx, stp]
      split
      · next q =>
        have := Int.mul_pos nz (hW q)
        rw [Int.neg_mul, Int.neg_mul]
        constructor
        · intro _; exact q
        · intro _; omega
      · next q =>
        have := Int.mul_nonneg (show 0 ≤ (lnS ch j).1 * (lnS ch j).1 + (lnS ch j).2.1 * (lnS ch j).2.1 by omega) a0
        constructor
        · intro w; dsimp only at w; omega
        · intro w; exact absurd w q
    have htn : (lnS ch (j + 1)).2.2 = if lnG (lnS ch j).1 (lnS ch j).2.1 (ch.2.2.2.2 j).2.1 (ch.2.2.2.2 j).2.2 then (lnS ch j).2.2 + 1 else (lnS ch j).2.2 := by
      rw [stp]
      split <;> rfl
    rw [← hcls.1, ← hcls.2] at hnew
    have m1 := mulB (x := fU (lnS ch j).2.1 (lnS ch j).1) (y := (ch.2.2.2.2 j).2.2) (A := 331776) (B := 12) (by omega) tb.2
    have m2 := mulB (x := fL (lnS ch j).2.1 (lnS ch j).1) (y := (ch.2.2.2.2 j).2.1) (A := 331776) (B := 12) (by omega) tb.1
    have m3 := mulB (x := fL (lnS ch j).2.1 (lnS ch j).1) (y := (ch.2.2.2.2 j).2.2) (A := 331776) (B := 12) (by omega) tb.2
    have m4 := mulB (x := fU (lnS ch j).2.1 (lnS ch j).1) (y := (ch.2.2.2.2 j).2.1) (A := 331776) (B := 12) (by omega) tb.1
    refine s_65_16_52 ?_
    rw [hc.2.2.2.1, hv.1, hv.2]
    refine i_lt32 (by omega) (by omega) (fun _ => k_14_52 (by omega) (kcp_v rfl (s_65_50_52 (k_15_52 (by omega) (kcp_v rfl (s_65_56_52 ?_)))))) (fun _ => by omega)
    rw [e2, e4, i2l r2, i2l r3, hv.1, hv.2]
    simp only [mul64, add64, sub64]
    refine k_25_57 (by omega) (by omega) (fun L1 hf1 hv1 => kcp_v rfl (s_27_30_57 (kcp_v rfl (s_65_60_52 ?_))))
    rw [← hnew.1, ← hnew.2] at hv1
    rw [hv1.1, hv1.2]
    refine c_28 (by omega) (by omega) (by omega) (by omega) wb.2.2 ub.2.2 (kcp_v rfl (s_65_80_52 ?_))
    have lb : ∀ x y z t : Int, -1 ≤ lenC x y z t ∧ lenC x y z t ≤ 1 := fun x y z t => by
      unfold lenC
      have := (sg_0 (v := x * t - z * y)).2
      split <;> split <;> omega
    have lbb := lb (fU (lnS ch (j + 1)).2.1 (lnS ch (j + 1)).1) (fL (lnS ch (j + 1)).2.1 (lnS ch (j + 1)).1) (fU (lnS ch j).2.1 (lnS ch j).1) (fL (lnS ch j).2.1 (lnS ch j).1)
    rw [ht, add32, add32]
    refine i_ltz (by omega) (fun q => ?_) (fun q => ?_)
    · rw [if_pos (hlt.mp q)] at htn
      have := ih (j + 1) (by omega) _ L1 (FrL.tr hL hf1 rfl rfl) (FrI.wu hf (k := 56) (j := 0) (x := Int32.ofInt ((lnS ch j).2.2 + 1)) rfl) (by rw [u_at, htn]) hv1
      exact this
    · rw [if_neg (fun w => by have := hlt.mpr w; omega)] at htn
      have := ih (j + 1) (by omega) I L1 (FrL.tr hL hf1 rfl rfl) hf (by rw [ht, htn]) hv1
      exact this
theorem kc_65_52 {ch : Ch} (hok : ChOk ch) (hc : ChAt I 52 ch) (h : ∀ I' L', FrL [(57, 0, 2)] L L' → FrI [(56, 0, 0)] I I' → I' 56 0 = .ofInt (lnS ch ch.2.2.2.1).2.2 → FrcAt L' 57 (fU (lnS ch ch.2.2.2.1).2.1 (lnS ch ch.2.2.2.1).1) (fL (lnS ch ch.2.2.2.1).2.1 (lnS ch ch.2.2.2.1).1) → Q (.inl none) (gE Lx) I' L' e) : Wp 65 0 [(0, .ref 56), (1, .ref 52)] [] (gE Lx) I L e Q := by
  refine s_65_0_52 (k_25_57 (by omega) (by omega) (fun L1 hf1 hv1 => kcp_v rfl (s_65_14_52 ?_)))
  have hI : FrI [(56, 0, 0)] I (ui I 56 0 (Int32.ofInt 0)) := FrI.wu FrI.rf rfl
  exact kl_65_52 (I0 := I) (L0 := L) hok hc h ch.2.2.2.1 0 (by omega) _ L1 hf1 hI u_at hv1
end
