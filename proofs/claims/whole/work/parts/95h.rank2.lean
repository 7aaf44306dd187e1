/-! rank: the other side. -/
def MsRt (I : Mi) (L : Ml) (l4 l5 : Int) (k : Nat) (o : Option Ch) : Prop := ∀ c, o = some c → I 66 k = .ofInt (rkK l4 l5 c).1 ∧ I 67 k = .ofInt (rkK l4 l5 c).2.1 ∧ L 68 k = .ofInt (rkK l4 l5 c).2.2.1 ∧ L 69 k = .ofInt (rkK l4 l5 c).2.2.2
theorem ahd_i {x : Int × Int × Int × Int} : ¬ ahd x x := by
  unfold ahd
  have : ¬ lenC x.2.2.1 x.2.2.2 x.2.2.1 x.2.2.2 < 0 := by
    unfold lenC
    have : sg (x.2.2.1 * x.2.2.2 - x.2.2.1 * x.2.2.2) = 0 := sg_z (by omega)
    rw [this]
    split <;> (try split) <;> omega
  omega
section
variable {Lx : Nat} {I : Mi} {L : Ml} {e : Nat} {Q : Kq}
theorem kl_353 {I0 : Mi} {L0 : Ml} {ch : Ch} (hok : ChOk ch) (hc0 : BnAt I0 59 0 ch) (fin : ∀ I' L', FrI [(58, 39, 1)] I0 I' → FrL [(58, 8, 2)] L0 L' → I' 58 39 = .ofInt (lnS ch ch.2.2.2.1).2.2 → L' 58 8 = .ofInt (fU (lnS ch ch.2.2.2.1).2.1 (lnS ch ch.2.2.2.1).1) → L' 58 9 = .ofInt (fL (lnS ch ch.2.2.2.1).2.1 (lnS ch ch.2.2.2.1).1) → Q (.inl none) (gE Lx) I' L' e) :
    ∀ (s j : Nat), j + s = ch.2.2.2.1 → ∀ (I : Mi) (L : Ml), FrI [(58, 39, 1)] I0 I → FrL [(58, 8, 2)] L0 L → I 58 39 = .ofInt (lnS ch j).2.2 →
    Wp 353 12 [(0, .ref 58), (1, .long (Int64.ofInt (lnS ch j).1)), (3, .long (Int64.ofInt (lnS ch j).2.1)), (5, .int (Int32.ofInt j))] [] (gE Lx) I L e Q := by
  have h4 := hok.2.2.2.1
  intro s
  induction s with
  | zero =>
    intro j hj I L hf hl ht
    have : j = ch.2.2.2.1 := by omega
    subst this
    have hc : BnAt I 59 0 ch := hc0.cg (hf.at rfl)
    have e3 : I 59 3 = Int32.ofInt (ch.2.2.2.1 : Int) := hc.2.2.2.1
    obtain ⟨k1, ⟨k2, k3⟩, k4⟩ := lnS_ok hok ch.2.2.2.1 (Nat.le_refl _)
    have pj := pow24 _ h4
    refine s_353_12 ?_
    rw [e3]
    exact i_lt32 (by omega) (by omega) (fun _ => by omega) (fun _ => c_246 (by omega) (by omega) (fun w => by unfold up at k1; omega) (fun L1 hf1 u8 u9 => kcp_v rfl (s_353_132 (fin I L1 hf (FrL.tr hl hf1 rfl rfl) ht u8 u9))))
  | succ s ih =>
    intro j hj I L hf hl ht
    have hc : BnAt I 59 0 ch := hc0.cg (hf.at rfl)
    have e3 : I 59 3 = Int32.ofInt (ch.2.2.2.1 : Int) := hc.2.2.2.1
    have hel := hok.2.2.2.2 j (by omega)
    obtain ⟨r1, r2, r3⟩ := el_r hel
    obtain ⟨k1, ⟨k2, k3⟩, k4⟩ := lnS_ok hok j (by omega)
    have pj := pow24 j (by omega)
    have tb := hel.2.b
    have lb := ln_b (B := 331776) (c := (lnS ch j).1) (s := (lnS ch j).2.1) (by omega) (by omega) tb.1 tb.2
    have stp := lnS_s (ch := ch) (i := j)
    have go : Wp 353 50 [(0, .ref 58), (1, .long (Int64.ofInt (lnS ch j).1)), (3, .long (Int64.ofInt (lnS ch j).2.1)), (5, .int (Int32.ofInt j)), (6, .int (Int32.ofInt (ch.2.2.2.2 j).2.1))] [.int (Int32.ofInt (lnQ (ch.2.2.2.2 j).2.1 (ch.2.2.2.2 j).2.2))] (gE Lx) I L e Q := by
      have qb : -12 ≤ lnQ (ch.2.2.2.2 j).2.1 (ch.2.2.2.2 j).2.2 ∧ lnQ (ch.2.2.2.2 j).2.1 (ch.2.2.2.2 j).2.2 ≤ 12 := by unfold lnQ; split <;> omega
      have ea : ∀ x : Int, 0 ≤ x → (x = (ch.2.2.2.2 j).2.1 ∨ x = -(ch.2.2.2.2 j).2.1) → x = lnA (ch.2.2.2.2 j).2.1 := fun x h0 h1 => by unfold lnA; split <;> omega
      refine s_353_50 ?_
      rw [i2l r2, i2l (by omega), mul64]
      refine c_210 (by omega) (fun x hx1 hx2 => kcp_v rfl (s_353_64 ?_))
      rw [ea x hx1 hx2, i2l r2, mul64, sub64]
      refine c_210 (by omega) (fun z hz1 hz2 => kcp_v rfl (s_353_75 ?_))
      rw [ea z hz1 hz2, i2l (by omega), mul64, mul64, add64, neg64, neg64, ht]
      rw [show (lnS ch j).1 * lnQ (ch.2.2.2.2 j).2.1 (ch.2.2.2.2 j).2.2 - (lnS ch j).2.1 * lnA (ch.2.2.2.2 j).2.1 = lnC (lnS ch j).1 (lnS ch j).2.1 (ch.2.2.2.2 j).2.1 (ch.2.2.2.2 j).2.2 from rfl, show (lnS ch j).1 * lnA (ch.2.2.2.2 j).2.1 + (lnS ch j).2.1 * lnQ (ch.2.2.2.2 j).2.1 (ch.2.2.2.2 j).2.2 = lnB (lnS ch j).1 (lnS ch j).2.1 (ch.2.2.2.2 j).2.1 (ch.2.2.2.2 j).2.2 from rfl]
      have wr : lnG (lnS ch j).1 (lnS ch j).2.1 (ch.2.2.2.2 j).2.1 (ch.2.2.2.2 j).2.2 → Wp 353 12 [(0, .ref 58), (1, .long (Int64.ofInt (-lnC (lnS ch j).1 (lnS ch j).2.1 (ch.2.2.2.2 j).2.1 (ch.2.2.2.2 j).2.2))), (3, .long (Int64.ofInt (-lnB (lnS ch j).1 (lnS ch j).2.1 (ch.2.2.2.2 j).2.1 (ch.2.2.2.2 j).2.2))), (5, .int (Int32.ofInt (j : Int) + Int32.ofInt 1))] [] (gE Lx) (ui I 58 39 (Int32.ofInt (lnS ch j).2.2 + Int32.ofInt 1)) L e Q := fun q => by
        rw [if_pos q] at stp
        have := ih (j + 1) (by omega) (ui I 58 39 (Int32.ofInt ((lnS ch j).2.2 + 1))) L (FrI.wu hf rfl) hl (by rw [u_at, stp])
        rw [stp] at this
        rw [add32, add32]
        exact this
      have nw : ¬ lnG (lnS ch j).1 (lnS ch j).2.1 (ch.2.2.2.2 j).2.1 (ch.2.2.2.2 j).2.2 → Wp 353 12 [(0, .ref 58), (1, .long (Int64.ofInt (lnC (lnS ch j).1 (lnS ch j).2.1 (ch.2.2.2.2 j).2.1 (ch.2.2.2.2 j).2.2))), (3, .long (Int64.ofInt (lnB (lnS ch j).1 (lnS ch j).2.1 (ch.2.2.2.2 j).2.1 (ch.2.2.2.2 j).2.2))), (5, .int (Int32.ofInt (j : Int) + Int32.ofInt 1))] [] (gE Lx) I L e Q := fun q => by
        rw [if_neg q] at stp
        have := ih (j + 1) (by omega) I L hf hl (by rw [ht, stp])
        rw [stp] at this
        rw [add32]
        exact this
      refine i_lt64 (by omega) (by omega) (fun q => wr (Or.inl q)) (fun q1 => i_eq64 (by omega) (by omega) (fun q2 => i_lt64 (by omega) (by omega) (fun q3 => wr (Or.inr ⟨q2, q3⟩)) (fun q3 => nw (by unfold lnG; omega))) (fun q2 => nw (by unfold lnG; omega)))
    refine s_353_12 ?_
    rw [e3]
    refine i_lt32 (by omega) (by omega) (fun _ => c_223 hc (by omega) h4 (kcp_v rfl (s_353_27 ?_))) (fun _ => by omega)
    refine i_ltz r2 (fun q => c_224 hc (by omega) h4 (kcp_v rfl (s_353_40 ?_))) (fun q => c_224 hc (by omega) h4 (kcp_v rfl ?_))
    · have e5 : lnQ (ch.2.2.2.2 j).2.1 (ch.2.2.2.2 j).2.2 = -(ch.2.2.2.2 j).2.2 := if_pos q
      rw [e5] at go
      rw [neg32]
      exact go
    · have e5 : lnQ (ch.2.2.2.2 j).2.1 (ch.2.2.2.2 j).2.2 = (ch.2.2.2.2 j).2.2 := if_neg (by omega)
      rw [e5] at go
      exact go

theorem l_360a : ∀ (s j : Nat), j + s = 16 → ∀ (I : Mi), (∀ I', FrI [(64, 0, 0)] I I' → (∀ k, j ≤ k → k < 16 → I' 64 k = I 59 k) → (∀ k, k < j → I' 64 k = I 64 k) → Wp 360 28 [(0, .ref 58), (1, .int (Int32.ofInt 0))] [] (gE Lx) I' L e Q) →
    Wp 360 2 [(0, .ref 58), (1, .int (Int32.ofInt j))] [] (gE Lx) I L e Q := by
  intro s
  induction s with
  | zero =>
    intro j hj I h
    exact s_360_2 (i_lt32 (by omega) (by omega) (fun _ => by omega) (fun _ => h I FrI.rf (fun k h1 h2 => by omega) (fun k hk => rfl)))
  | succ s ih =>
    intro j hj I h
    refine s_360_2 ?_
    rw [tncn (k := j) (by omega), add32]
    refine i_lt32 (by omega) (by omega) (fun _ => i_inb (by omega) (by omega) (i_inb (by omega) (by omega) ?_)) (fun _ => by omega)
    have := ih (j + 1) (by omega) (ui I 64 j (I 59 j)) (fun I' hf a b => h I' (FrI.tr (A := [(64, 0, 0)]) (FrI.wu FrI.rf rfl) hf rfl rfl) (fun k h1 h2 => by
      by_cases q : k = j
      · rw [b k (by omega), q, u_at]
      · rw [a k (by omega) h2]; rfl) (fun k hk => by rw [b k (by omega), u_ne (by omega)]))
    exact this
theorem l_360c {I0 : Mi} (fin : ∀ I', FrI [(59, 0, 16)] I0 I' → (∀ j, j < 16 → I' 59 j = I0 64 j) → Q (.inl none) (gE Lx) I' L e) : ∀ (s j : Nat), j + s = 16 → ∀ (I : Mi), FrI [(59, 0, 16)] I0 I → (∀ i, i < j → I 59 i = I0 64 i) →
    Wp 360 101 [(0, .ref 58), (1, .int (Int32.ofInt j))] [] (gE Lx) I L e Q := by
  have i59 : ∀ x, x < 16 → inS [(59, 0, 16)] 59 x = true := by decide
  intro s
  induction s with
  | zero =>
    intro j hj I hf h1
    have : j = 16 := by omega
    subst this
    exact s_360_101 (i_lt32 (by omega) (by omega) (fun _ => by omega) (fun _ => fin I hf h1))
  | succ s ih =>
    intro j hj I hf h1
    refine s_360_101 ?_
    rw [tncn (k := j) (by omega), add32, show I 64 = I0 64 from hf.at rfl]
    refine i_lt32 (by omega) (by omega) (fun _ => i_inb (by omega) (by omega) (i_inb (by omega) (by omega) ?_)) (fun _ => by omega)
    have := ih (j + 1) (by omega) _ (FrI.wu hf (x := I0 64 j) (i59 j (by omega))) (fun i hi => by
      by_cases q : i = j
      · rw [q, u_at]
      · rw [u_ne q]
        exact h1 i (by omega))
    exact this
def rkI : Fr := [(58, 39, 1), (59, 0, 16), (66, 0, 0), (67, 0, 0)]
set_option maxHeartbeats 4000000 in
theorem l_360b {I0 : Mi} {L0 : Ml} {ch : Ch} {sh : Nat → Option Ch} {a b : Int} (hok : ShOk sh) (hs : RSt I0 ch sh a b) (fin : ∀ I' L', FrI rkI I0 I' → L' 70 = L0 70 → (∀ k, k < 4 → MsRt I' L' a b k (sh k)) → Wp 360 101 [(0, .ref 58), (1, .int (Int32.ofInt 0))] [] (gE Lx) I' L' e Q) :
    ∀ (s k : Nat), k + s = 4 → ∀ (I : Mi) (L : Ml), FrI rkI I0 I → L 70 = L0 70 → (∀ j, j < k → MsRt I L a b j (sh j)) →
    Wp 360 28 [(0, .ref 58), (1, .int (Int32.ofInt k))] [] (gE Lx) I L e Q := by
  intro s
  induction s with
  | zero =>
    intro k hk I L hf hl hM
    have : k = 4 := by omega
    subst this
    exact s_360_28 (i_lt32 (by omega) (by omega) (fun _ => by omega) (fun _ => fin I L hf hl hM))
  | succ s ih =>
    intro k hk I L hf hl hM
    have ei : Int32.ofInt 17 * Int32.ofInt (k : Int) + Int32.ofInt 16 = Int32.ofInt ((17 * k + 16 : Nat) : Int) := ix17 k 16
    have ea : Int32.ofInt (k : Int) + Int32.ofInt 1 = Int32.ofInt ((k + 1 : Nat) : Int) := by rw [add32]; rfl
    have h60 : I 60 = I0 60 := hf.at rfl
    have hh := hs.s k (by omega)
    refine s_360_28 ?_
    rw [ei, tncn (k := 17 * k + 16) (by omega), ea, h60]
    refine i_lt32 (by omega) (by omega) (fun _ => i_inb (by omega) (by omega) ?_) (fun _ => by omega)
    cases ho : sh k with
    | none =>
      rw [hh.1 ho]
      refine i_eq32 (by omega) (by omega) (fun w => by omega) (fun _ => ih (k + 1) (by omega) I L hf hl (fun j hj => ?_))
      by_cases q : j = k
      · rw [q, ho]
        intro c hc
        cases hc
      · exact hM j (by omega)
    | some c =>
      have cok := hok k c (by omega) ho
      have hb60 : BnAt I 60 (17 * k) c := by unfold BnAt; rw [h60]; exact (hh.2 c ho).2
      rw [(hh.2 c ho).1]
      refine i_eq32 (by omega) (by omega) (fun _ => c_358 (by omega) (fun I1 hf1 hj1 => kcp_v rfl (s_360_49 ?_))) (fun w => absurd rfl w)
      have hb1 : BnAt I1 59 0 c := bn_br cok.2.2.2.1 hb60 hj1
      have f1 : FrI rkI I0 I1 := FrI.tr hf hf1 rfl rfl
      have hl1 : LimRt I1 a b := hs.l.cg (f1 58 3 rfl) (f1 58 4 rfl)
      refine s_351_0 (l_351 cok hb1 hl1 11 0 (by omega) (by omega) L (fun L2 hf2 => kcp_v rfl (s_360_58 ?_)))
      rw [tncn (k := k) (by omega)]
      refine i_inb (by omega) (by omega) ?_
      have hb2 : BnAt (ui (ui I1 66 k (Int32.ofInt (wdF (wdP c a b) 11 0))) 58 39 (Int32.ofInt 0)) 59 0 c := hb1.cg rfl
      have hI2 : FrI rkI I0 (ui (ui I1 66 k (Int32.ofInt (wdF (wdP c a b) 11 0))) 58 39 (Int32.ofInt 0)) := FrI.wu (FrI.wu f1 rfl) rfl
      refine s_353_0 (kl_353 (I0 := ui (ui I1 66 k (Int32.ofInt (wdF (wdP c a b) 11 0))) 58 39 (Int32.ofInt 0)) (L0 := L2) cok hb2 (fun I3 L3 hf3 hl3 t3 u8 u9 => kcp_v rfl (s_360_63 ?_)) c.2.2.2.1 0 (by omega) _ L2 FrI.rf FrL.rf u_at)
      rw [ea, tncn (k := k) (by omega), t3, u8, u9]
      refine i_inb (by omega) (by omega) (i_inb (by omega) (by omega) (i_inb (by omega) (by omega) ?_))
      have h66 : ∀ j, I3 66 j = ui I1 66 k (Int32.ofInt (wdF (wdP c a b) 11 0)) 66 j := fun j => by rw [hf3.at (k := 66) rfl]; rfl
      have h67 : I3 67 = I 67 := by rw [hf3.at (k := 67) rfl]; exact hf1.at rfl
      have hL : FrL [(58, 8, 2), (65, 0, 0)] L L3 := FrL.tr (S := [(58, 8, 2), (65, 0, 0)]) hf2 hl3 rfl rfl
      refine ih (k + 1) (by omega) _ _ (FrI.wu (FrI.tr hI2 hf3 rfl rfl) rfl) ?_ (fun j hj => ?_)
      · show L3 70 = L0 70
        exact (hL.at rfl).trans hl
      · intro cj hcj
        by_cases q : j = k
        · subst q
          rw [ho] at hcj
          cases hcj
          refine ⟨?_, u_at, ?_, l_at⟩
          · show I3 66 j = _
            rw [h66, u_at]
            rfl
          · show ul L3 68 j _ 68 j = _
            rw [l_at]
            rfl
        · obtain ⟨m0, m1, m2, m3⟩ := hM j (by omega) cj hcj
          refine ⟨?_, ?_, ?_, ?_⟩
          · show I3 66 j = _
            rw [h66, u_ne q, hf1.at (k := 66) rfl]
            exact m0
          · rw [u_ne q, h67]
            exact m1
          · show ul L3 68 k _ 68 j = _
            rw [l_ne q, hL.at (k := 68) rfl]
            exact m2
          · rw [l_ne q]
            show L3 69 j = _
            rw [hL.at (k := 69) rfl]
            exact m3
theorem c_360 {ch : Ch} {sh : Nat → Option Ch} {a b : Int} (hok : ShOk sh) (hs : RSt I ch sh a b) (h : ∀ I' L', FrI rS I I' → L' 70 = L 70 → I' 58 0 = I 58 0 → (∀ k, k < 4 → MsRt I' L' a b k (sh k)) → Q (.inl none) (gE Lx) I' L' e) : Wp 360 0 [(0, .ref 58)] [] (gE Lx) I L e Q := by
  refine s_360_0 (l_360a 16 0 (by omega) I (fun I1 hf1 a1 _ => ?_))
  have hs1 : RSt I1 ch sh a b := hs.f (hf1.up rfl)
  refine l_360b (I0 := I1) (L0 := L) hok hs1 (fun I2 L2 hf2 hl2 hM => ?_) 4 0 (by omega) I1 L FrI.rf rfl (fun j hj => by omega)
  refine l_360c (I0 := I2) (fun I3 hf3 a3 => ?_) 16 0 (by omega) I2 FrI.rf (fun i hi => by omega)
  have e59 : I3 59 = I 59 := by
    funext j
    by_cases q : j < 16
    · rw [a3 j q, hf2.at (k := 64) rfl, a1 j (by omega) q]
    · have eb : Nat.ble (j + 1) (0 + 16) = false := by
        cases hb : Nat.ble (j + 1) (0 + 16) with
        | false => rfl
        | true => have := Nat.le_of_ble_eq_true hb; omega
      have i59 : inS [(59, 0, 16)] 59 j = false := by
        show cond (Nat.ble 0 j && Nat.ble (j + 1) (0 + 16)) true false = false
        rw [eb]
        cases Nat.ble 0 j <;> rfl
      have i59b : inS rkI 59 j = false := by
        show cond (Nat.ble 0 j && Nat.ble (j + 1) (0 + 16)) true false = false
        rw [eb]
        cases Nat.ble 0 j <;> rfl
      rw [hf3 59 j i59, hf2 59 j i59b, hf1.at (k := 59) rfl]
  refine h I3 L2 ?_ hl2 ?_ (fun k hk c hc => ?_)
  · intro x j hx
    by_cases q : x = 59
    · rw [q, e59]
    · have big : FrI ((59, 0, 0) :: rS) I I3 := FrI.tr (S := (59, 0, 0) :: rS) (FrI.tr (S := (59, 0, 0) :: rS) hf1 hf2 rfl rfl) hf3 rfl rfl
      refine big x j ?_
      have : inS ((59, 0, 0) :: rS) x j = cond (Nat.beq 59 x) (cond (Nat.beq 0 0) true (cond (Nat.ble 0 j && Nat.blt j (0 + 0)) true (inS rS x j))) (inS rS x j) := rfl
      rw [this, nbe (Ne.symm q)]
      exact hx
  · rw [hf3 58 0 rfl, hf2 58 0 rfl, hf1 58 0 rfl]
  · obtain ⟨m0, m1, m2, m3⟩ := hM k hk c hc
    exact ⟨by rw [hf3.at (k := 66) rfl]; exact m0, by rw [hf3.at (k := 67) rfl]; exact m1, m2, m3⟩
theorem c_361 {a b : Int} {i j : Nat} (hi : i < 4) (hj : j < 4) {cj ci : Ch} (oj : ChOk cj) (oi : ChOk ci) (mj : MsRt I L a b j (some cj)) (mi : MsRt I L a b i (some ci)) (h : Q (.inl (some (.int (Int32.ofInt (rkC a b i j (some ci) (some cj)))))) (gE Lx) I L e) : Wp 361 0 [(0, .ref 58), (1, .int (Int32.ofInt j)), (2, .int (Int32.ofInt i))] [] (gE Lx) I L e Q := by
  have bj := rkK_b (l4 := a) (l5 := b) oj
  have bi := rkK_b (l4 := a) (l5 := b) oi
  obtain ⟨j0, j1, j2, j3⟩ := mj cj rfl
  obtain ⟨i0, i1, i2, i3⟩ := mi ci rfl
  rw [rkC_s] at h
  generalize rkK a b cj = y at *
  generalize rkK a b ci = x at *
  have yes : (ahd y x ∨ (j < i ∧ ¬ ahd x y)) → Q (.inl (some (.int (Int32.ofInt 1)))) (gE Lx) I L e := fun q => by rw [iP_t q] at h; exact h
  have no : ¬ (ahd y x ∨ (j < i ∧ ¬ ahd x y)) → Q (.inl (some (.int (Int32.ofInt 0)))) (gE Lx) I L e := fun q => by rw [iP_f q] at h; exact h
  have m1 := mulB (x := y.2.2.1) (y := x.2.2.2) (A := 331776) (B := 331776) (by omega) (by omega)
  have m2 := mulB (x := x.2.2.1) (y := y.2.2.2) (A := 331776) (B := 331776) (by omega) (by omega)
  have sn : sg (x.2.2.1 * y.2.2.2 - y.2.2.1 * x.2.2.2) = -sg (y.2.2.1 * x.2.2.2 - x.2.2.1 * y.2.2.2) := by rw [← sg_neg]; congr 1; omega
  unfold ahd lenC at yes no
  rw [sn] at yes no
  refine s_361_0 ?_
  rw [tncn (k := j) (by omega), tncn (k := i) (by omega), j0, j1, j2, j3, i0, i1, i2, i3, mul64, mul64, sub64]
  have ib : ∀ (k : Nat) {A B : Prop}, k < 4 → A → inb (Int32.ofInt (k : Int)) 4 A B := fun k A B hk hA => i_inb (by omega) hk hA
  have cross : y.1 = x.1 → y.2.1 = x.2.1 → ((y.2.2.1 < 0 ∧ x.2.2.1 < 0) ∨ (0 ≤ y.2.2.1 ∧ 0 ≤ x.2.2.1)) → (if Int64.ofInt (y.2.2.1 * x.2.2.2 - x.2.2.1 * y.2.2.2) < Int64.ofInt 0 then Q (.inl (some (.int (Int32.ofInt 1)))) (gE Lx) I L e else (if Int64.ofInt 0 < Int64.ofInt (y.2.2.1 * x.2.2.2 - x.2.2.1 * y.2.2.2) then Q (.inl (some (.int (Int32.ofInt 0)))) (gE Lx) I L e else (if Int32.ofInt (j : Int) < Int32.ofInt (i : Int) then Q (.inl (some (.int (Int32.ofInt 1)))) (gE Lx) I L e else Q (.inl (some (.int (Int32.ofInt 0)))) (gE Lx) I L e))) := by
    intro e1 e2 hs
    have eL : (if y.2.2.1 < 0 then if x.2.2.1 < 0 then sg (y.2.2.1 * x.2.2.2 - x.2.2.1 * y.2.2.2) else 1 else if x.2.2.1 < 0 then -1 else sg (y.2.2.1 * x.2.2.2 - x.2.2.1 * y.2.2.2)) = sg (y.2.2.1 * x.2.2.2 - x.2.2.1 * y.2.2.2) := by
      rcases hs with hs | hs
      · rw [if_pos hs.1, if_pos hs.2]
      · rw [if_neg (by omega), if_neg (by omega)]
    have eR : (if x.2.2.1 < 0 then if y.2.2.1 < 0 then -sg (y.2.2.1 * x.2.2.2 - x.2.2.1 * y.2.2.2) else 1 else if y.2.2.1 < 0 then -1 else -sg (y.2.2.1 * x.2.2.2 - x.2.2.1 * y.2.2.2)) = -sg (y.2.2.1 * x.2.2.2 - x.2.2.1 * y.2.2.2) := by
      rcases hs with hs | hs
      · rw [if_pos hs.2, if_pos hs.1]
      · rw [if_neg (by omega), if_neg (by omega)]
    rw [eL, eR] at yes no
    refine i_lt64 (by omega) (by omega) (fun q => ?_) (fun q => i_lt64 (by omega) (by omega) (fun q2 => ?_) (fun q2 => i_lt32 (by omega) (by omega) (fun q3 => ?_) (fun q3 => ?_)))
    · rw [sg_n q] at yes; exact yes (by omega)
    · rw [sg_p q2] at no; exact no (by omega)
    · rw [sg_z (by omega)] at yes; exact yes (by omega)
    · rw [sg_z (by omega)] at no; exact no (by omega)
  refine ib j hj (ib i hi (i_eq32 (by omega) (by omega) (fun e1 => ib j hj (ib i hi (i_eq32 (by omega) (by omega) (fun e2 => ib j hj (ib j hj (ib i hi (ib i hi (i_lt64 (by omega) (by omega) (fun p1 => i_lt64 (by omega) (by omega) (fun p2 => cross e1 e2 (Or.inl ⟨p1, p2⟩)) (fun p2 => ?_)) (fun p1 => i_lt64 (by omega) (by omega) (fun p2 => ?_) (fun p2 => cross e1 e2 (Or.inr ⟨p1, p2⟩)))))))) (fun e2 => ib j hj (ib i hi (i_lt32 (by omega) (by omega) (fun p => yes (by omega)) (fun p => no (by omega)))))))) (fun e1 => ib j hj (ib i hi (i_lt32 (by omega) (by omega) (fun p => yes (by omega)) (fun p => no (by omega)))))))
  · rw [if_pos p1, if_neg (by omega), if_neg (by omega), if_pos p1] at no
    exact no (by omega)
  · rw [if_neg (by omega), if_pos p2, if_pos p2, if_neg (by omega)] at yes
    exact yes (by omega)
theorem rkC_0 {l4 l5 : Int} {i : Nat} {a : Option Ch} : rkC l4 l5 i i a a = 0 := by
  cases a with
  | none => rfl
  | some c => rw [rkC_s, iP_f (fun w => by rcases w with w | w; exact ahd_i w; omega)]
/-- so many ahead among the first -/
noncomputable def rkU (sh : Nat → Option Ch) (l4 l5 : Int) (i : Nat) : Nat → Int
  | 0 => 0
  | j + 1 => rkU sh l4 l5 i j + rkC l4 l5 i j (sh i) (sh j)
theorem rkU_4 {sh : Nat → Option Ch} {l4 l5 : Int} {i : Nat} : rkU sh l4 l5 i 4 = rkT sh l4 l5 i := rfl
theorem rkU_b {sh : Nat → Option Ch} {l4 l5 : Int} {i : Nat} : ∀ j, 0 ≤ rkU sh l4 l5 i j ∧ rkU sh l4 l5 i j ≤ j := by
  intro j
  induction j with
  | zero => exact ⟨Int.le_refl _, Int.le_refl _⟩
  | succ j ih =>
    have := rkC_b (l4 := l4) (l5 := l5) (i := i) (j := j) (a := sh i) (b := sh j)
    show 0 ≤ rkU sh l4 l5 i j + rkC l4 l5 i j (sh i) (sh j) ∧ rkU sh l4 l5 i j + rkC l4 l5 i j (sh i) (sh j) ≤ ((j + 1 : Nat) : Int)
    omega
theorem l_359b {ch : Ch} {sh : Nat → Option Ch} {a b k : Int} (hok : ShOk sh) (hs : RSt I ch sh a b) (hM : ∀ k, k < 4 → MsRt I L a b k (sh k)) (hk : R32 k) {i : Nat} (hi : i < 4) {ci : Ch} (hci : sh i = some ci) (h1 : rkT sh a b i = k → Q (.inl (some (.int (Int32.ofInt (i : Int))))) (gE Lx) I L e) (h0 : rkT sh a b i ≠ k → Wp 359 11 [(0, .ref 58), (1, .int (Int32.ofInt k)), (2, .int (Int32.ofInt ((i + 1 : Nat) : Int)))] [] (gE Lx) I L e Q) :
    ∀ (s j : Nat), j + s = 4 → Wp 359 32 [(0, .ref 58), (1, .int (Int32.ofInt k)), (2, .int (Int32.ofInt i)), (3, .int (Int32.ofInt (rkU sh a b i j))), (4, .int (Int32.ofInt j))] [] (gE Lx) I L e Q := by
  intro s
  induction s with
  | zero =>
    intro j hj
    have : j = 4 := by omega
    subst this
    have ub := rkU_b (sh := sh) (l4 := a) (l5 := b) (i := i) 4
    refine s_359_32 ?_
    rw [rkU_4] at ub ⊢
    refine i_lt32 (by omega) (by omega) (fun _ => by omega) (fun _ => i_eq32 (by omega) hk (fun q => h1 q) (fun q => ?_))
    rw [add32]
    exact h0 q
  | succ s ih =>
    intro j hj
    have ei : Int32.ofInt 17 * Int32.ofInt (j : Int) + Int32.ofInt 16 = Int32.ofInt ((17 * j + 16 : Nat) : Int) := ix17 j 16
    have ea : Int32.ofInt (j : Int) + Int32.ofInt 1 = Int32.ofInt ((j + 1 : Nat) : Int) := by rw [add32]; rfl
    have nx := ih (j + 1) (by omega)
    unfold rkU at nx
    have hh := hs.s j (by omega)
    have e0 : ∀ z : Int, Int32.ofInt z + Int32.ofInt 0 = Int32.ofInt z := fun z => by rw [add32, Int.add_zero]
    refine s_359_32 ?_
    rw [ei, tncn (k := 17 * j + 16) (by omega), ea, e0]
    refine i_lt32 (by omega) (by omega) (fun _ => i_eq32 (by omega) (by omega) (fun q => ?_) (fun q => i_inb (by omega) (by omega) ?_)) (fun _ => by omega)
    · have : j = i := by omega
      subst this
      rw [rkC_0, Int.add_zero] at nx
      exact nx
    · cases ho : sh j with
      | none =>
        rw [hh.1 ho]
        rw [ho, rkC_n, Int.add_zero] at nx
        exact i_eq32 (by omega) (by omega) (fun w => by omega) (fun _ => nx)
      | some cj =>
        rw [(hh.2 cj ho).1]
        have mi := hM i hi
        have mj := hM j (by omega)
        rw [hci] at mi nx
        rw [ho] at mj nx
        have rb := rkC_b (l4 := a) (l5 := b) (i := i) (j := j) (a := some ci) (b := some cj)
        refine i_eq32 (by omega) (by omega) (fun _ => c_361 hi (by omega) (hok j cj (by omega) ho) (hok i ci hi hci) mj mi (kcp_v rfl (s_359_61 ?_))) (fun w => absurd rfl w)
        rw [ea, e0, add32]
        refine i_eqz (by omega) (fun w => ?_) (fun w => ?_)
        · rw [w, Int.add_zero] at nx
          exact nx
        · rw [show rkC a b i j (some ci) (some cj) = 1 by omega] at nx
          exact nx
theorem l_359 {ch : Ch} {sh : Nat → Option Ch} {a b k : Int} (hok : ShOk sh) (hs : RSt I ch sh a b) (hM : ∀ k, k < 4 → MsRt I L a b k (sh k)) (hk : R32 k) : ∀ (s i : Nat), i + s = 4 → Q (.inl (some (.int (Int32.ofInt (rkF sh a b k s i))))) (gE Lx) I L e → Wp 359 11 [(0, .ref 58), (1, .int (Int32.ofInt k)), (2, .int (Int32.ofInt i))] [] (gE Lx) I L e Q := by
  intro s
  induction s with
  | zero =>
    intro i hi h
    have : i = 4 := by omega
    subst this
    exact s_359_11 (i_lt32 (by omega) (by omega) (fun _ => by omega) (fun _ => h))
  | succ s ih =>
    intro i hi h
    have ei : Int32.ofInt 17 * Int32.ofInt (i : Int) + Int32.ofInt 16 = Int32.ofInt ((17 * i + 16 : Nat) : Int) := ix17 i 16
    have ea : Int32.ofInt (i : Int) + Int32.ofInt 1 = Int32.ofInt ((i + 1 : Nat) : Int) := by rw [add32]; rfl
    have nx := ih (i + 1) (by omega)
    have hh := hs.s i (by omega)
    unfold rkF at h
    refine s_359_11 ?_
    rw [ei, tncn (k := 17 * i + 16) (by omega), ea]
    refine i_lt32 (by omega) (by omega) (fun _ => i_inb (by omega) (by omega) ?_) (fun _ => by omega)
    cases ho : sh i with
    | none =>
      rw [hh.1 ho]
      rw [iP_f (fun w => by obtain ⟨⟨c, hc⟩, -⟩ := w; rw [ho] at hc; cases hc)] at h
      exact i_eq32 (by omega) (by omega) (fun w => by omega) (fun _ => nx h)
    | some c =>
      rw [(hh.2 c ho).1]
      refine i_eq32 (by omega) (by omega) (fun _ => l_359b hok hs hM hk (by omega) ho (fun q => ?_) (fun q => nx ?_) 4 0 (by omega)) (fun w => absurd rfl w)
      · rw [iP_t ⟨⟨c, ho⟩, q⟩] at h
        exact h
      · rw [iP_f (fun w => q w.2)] at h
        exact h
theorem r_359 {ch : Ch} {sh : Nat → Option Ch} {a b k : Int} (hok : ShOk sh) (hs : RSt I ch sh a b) (hk : R32 k) (h : ∀ I' L', FrI rS I I' → L' 70 = L 70 → I' 58 0 = .ofInt 0 → Q (.inl (some (.int (Int32.ofInt (spRank sh a b k))))) (gE Lx) I' L' e) : Wp 359 0 [(0, .ref 58), (1, .int (Int32.ofInt k))] [] (gE Lx) I L e Q := by
  have hI : FrI rS I (ui I 58 0 (Int32.ofInt 0)) := FrI.wu FrI.rf rfl
  have hs2 := hs.f hI
  refine s_359_0 (c_360 hok hs2 (fun I2 L2 hf2 hl2 h02 hM => kcp_v rfl (s_359_9 ?_)))
  exact l_359 hok (hs2.f hf2) hM hk 4 0 (by omega) (h I2 L2 (FrI.tr hI hf2 rfl rfl) hl2 (h02.trans u_at))
end
