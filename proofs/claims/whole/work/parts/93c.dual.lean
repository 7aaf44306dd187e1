/-! The dual: both sides. -/
def fl5 (x : Int × Int × Int) : Int × Int × Int := (if x.1 = 0 then 0 else 5 - x.1, x.2)
def chM (z : Pt) (ch : Ch) (j : Nat) : Ch := (z.1, z.2.1, z.2.2, ch.2.2.2.1, fun k => if k < j then fl5 (ch.2.2.2.2 k) else ch.2.2.2.2 k)
theorem chM_0 {z : Pt} {ch : Ch} {k : Nat} : (chM z ch 0).2.2.2.2 k = ch.2.2.2.2 k := by
  show (if k < 0 then fl5 (ch.2.2.2.2 k) else ch.2.2.2.2 k) = _
  exact if_neg (Nat.not_lt_zero k)
def duZ (ch : Ch) : Pt := n3 (ch.1 * ch.2.2.1) (-ch.2.1 * ch.2.2.1) (ch.1 * ch.1 + ch.2.1 * ch.2.1)
abbrev duB (ch : Ch) : Prop := ch.1 * ch.1 + ch.2.1 * ch.2.1 ≠ 0 ∧ (duZ ch).1 ≤ 99 ∧ (-99 ≤ (duZ ch).2.1 ∧ (duZ ch).2.1 ≤ 99) ∧ (duZ ch).2.2 ≤ 20
def spDual (ch : Ch) : Nat × Int × Ch := if duB ch then (0, 0, chM (duZ ch) ch ch.2.2.2.1) else (1, 0, ch)
theorem fl5_ok {x : Int × Int × Int} (h : ElOk x) : ElOk (fl5 x) := by
  refine ⟨?_, h.2⟩
  have := h.1
  unfold fl5
  dsimp only
  split <;> omega
theorem duZ_p {ch : Ch} (hok : ChOk ch) (h : ch.1 * ch.1 + ch.2.1 * ch.2.1 ≠ 0) : 0 ≤ (duZ ch).1 ∧ 1 ≤ (duZ ch).2.2 := by
  have b1 := hok.1; have b3 := hok.2.2.1
  have hg := g3_pos (a := ch.1 * ch.2.2.1) (b := -ch.2.1 * ch.2.2.1) h
  have e3 := Int.mul_ediv_cancel' (g3_d (ch.1 * ch.2.2.1) (-ch.2.1 * ch.2.2.1) (ch.1 * ch.1 + ch.2.1 * ch.2.1)).2.2
  have q1 := sq_nn ch.1
  have q2 := sq_nn ch.2.1
  have d0 : 0 ≤ (ch.1 * ch.1 + ch.2.1 * ch.2.1) / g3 (ch.1 * ch.2.2.1) (-ch.2.1 * ch.2.2.1) (ch.1 * ch.1 + ch.2.1 * ch.2.1) := Int.ediv_nonneg (by omega) (by omega)
  have d1 : 0 ≤ ch.1 * ch.2.2.1 / g3 (ch.1 * ch.2.2.1) (-ch.2.1 * ch.2.2.1) (ch.1 * ch.1 + ch.2.1 * ch.2.1) := Int.ediv_nonneg (Int.mul_nonneg b1.1 (by omega)) (by omega)
  unfold duZ n3
  dsimp only
  generalize g3 (ch.1 * ch.2.2.1) (-ch.2.1 * ch.2.2.1) (ch.1 * ch.1 + ch.2.1 * ch.2.1) = g at *
  have : (ch.1 * ch.1 + ch.2.1 * ch.2.1) / g ≠ 0 := fun w => by rw [w, Int.mul_zero] at e3; omega
  omega
theorem spDual_ok {ch : Ch} (hok : ChOk ch) : ChOk (spDual ch).2.2 := by
  unfold spDual
  split
  · next h =>
    have p := duZ_p hok h.1
    obtain ⟨h0, h1, h2, h3⟩ := h
    refine ⟨⟨p.1, h1⟩, h2, ⟨p.2, h3⟩, hok.2.2.2.1, fun k hk => ?_⟩
    have hk : k < ch.2.2.2.1 := hk
    show ElOk (if k < ch.2.2.2.1 then fl5 (ch.2.2.2.2 k) else ch.2.2.2.2 k)
    rw [if_pos hk]
    exact fl5_ok (hok.2.2.2.2 k hk)
  · exact hok
section
variable {Lx : Nat} {I : Mi} {L : Ml} {e : Nat} {Q : Kq}
theorem l_180 {I0 : Mi} {ch : Ch} (hok : ChOk ch) {z : Pt} (fin : ∀ I', FrI [(6, 0, 4)] I0 I' → ChAt I' 5 (chM z ch ch.2.2.2.1) → Q (.inl none) (gE Lx) I' L e) :
    ∀ (s j : Nat), j + s = ch.2.2.2.1 → ∀ I : Mi, FrI [(6, 0, 4)] I0 I → ChAt I 5 (chM z ch j) → Wp 180 113 [(0, .ref 1), (1, .int (Int32.ofInt j))] [] (gE Lx) I L e Q := by
  have h4 := hok.2.2.2.1
  intro s
  induction s with
  | zero =>
    intro j hj I hf hc
    have : j = ch.2.2.2.1 := by omega
    subst this
    have c3 : I 5 3 = Int32.ofInt (ch.2.2.2.1 : Int) := hc.2.2.2.1
    refine s_180_113 ?_
    rw [c3]
    exact i_lt32 (by omega) (by omega) (fun w => by omega) (fun _ => fin I hf hc)
  | succ s ih =>
    intro j hj I hf hc
    have hel := hok.2.2.2.2 j (by omega)
    obtain ⟨r1, r2, r3⟩ := el_r hel
    have hs := hel.1
    obtain ⟨c0, c1, c2, c3, c4⟩ := id hc
    have c3 : I 5 3 = Int32.ofInt (ch.2.2.2.1 : Int) := c3
    have e6 : I 6 j = Int32.ofInt (ch.2.2.2.2 j).1 := by
      have := (c4 j (by show j < ch.2.2.2.1; omega)).1
      have e : (chM z ch j).2.2.2.2 j = ch.2.2.2.2 j := if_neg (by omega)
      rw [e] at this
      exact this
    have nxt : ∀ k, k ≠ j → (chM z ch (j + 1)).2.2.2.2 k = (chM z ch j).2.2.2.2 k := fun k hk => by
      show (if k < j + 1 then _ else _) = (if k < j then _ else _)
      by_cases w : k < j
      · rw [if_pos w, if_pos (by omega)]
      · rw [if_neg w, if_neg (by omega)]
    have atj : (chM z ch (j + 1)).2.2.2.2 j = fl5 (ch.2.2.2.2 j) := if_pos (by omega)
    have atj0 : (chM z ch j).2.2.2.2 j = ch.2.2.2.2 j := if_neg (by omega)
    refine s_180_113 ?_
    rw [c3, tncn (k := j) (by omega), e6, add32]
    refine i_lt32 (by omega) (by omega) (fun _ => i_ltz (by omega) (fun _ => by omega) (fun _ => i_lt32 (by omega) (by omega) (fun _ => i_inb (by omega) (by omega) (i_eqz r1 (fun q => ?_) (fun q => i_inb (by omega) (by omega) (i_inb (by omega) (by omega) ?_)))) (fun _ => by omega))) (fun _ => by omega)
    · have := ih (j + 1) (by omega) I hf ⟨c0, c1, c2, c3, fun k hk => by
        by_cases w : k = j
        · subst w
          have hk2 := c4 k hk
          rw [atj0] at hk2
          rw [atj]
          refine ⟨?_, hk2.2⟩
          show I 6 k = .ofInt (if (ch.2.2.2.2 k).1 = 0 then 0 else 5 - (ch.2.2.2.2 k).1)
          rw [if_pos q, e6, q]
        · rw [nxt k w]
          exact c4 k hk⟩
      exact this
    · rw [sub32]
      have i4 : ∀ x, x < 4 → inS [(6, 0, 4)] 6 x = true := by decide
      have := ih (j + 1) (by omega) _ (FrI.wu hf (x := Int32.ofInt (5 - (ch.2.2.2.2 j).1)) (i4 j (by omega))) ⟨c0, c1, c2, c3, fun k hk => by
        by_cases w : k = j
        · subst w
          have hk2 := c4 k hk
          rw [atj0] at hk2
          rw [atj]
          refine ⟨?_, hk2.2⟩
          show ui I 6 k (Int32.ofInt (5 - (ch.2.2.2.2 k).1)) 6 k = .ofInt (if (ch.2.2.2.2 k).1 = 0 then 0 else 5 - (ch.2.2.2.2 k).1)
          rw [if_neg q, u_at]
        · rw [nxt k w]
          have := c4 k hk
          exact ⟨by rw [u_ne w]; exact this.1, this.2⟩⟩
      exact this
set_option maxHeartbeats 4000000 in
theorem h_403 {ch : Ch} (hok : ChOk ch) (hc : ChAt I 5 ch) (h : CW Lx I e Q false (spDual ch)) : Wp 403 0 [(0, .ref 1)] [] (gE Lx) I L e Q := by
  have h4 := hok.2.2.2.1
  obtain ⟨h1, h2, h3, e3, e4⟩ := id hc
  have b1 := hok.1; have b2 := hok.2.1; have b3 := hok.2.2.1
  have m1 := mulB (x := ch.1) (y := ch.2.2.1) (A := 99) (B := 20) (by omega) (by omega)
  have m2 := mulB (x := -ch.2.1) (y := ch.2.2.1) (A := 99) (B := 20) (by omega) (by omega)
  have m3 := mulB (x := ch.1) (y := ch.1) (A := 99) (B := 99) (by omega) (by omega)
  have m4 := mulB (x := ch.2.1) (y := ch.2.1) (A := 99) (B := 99) (by omega) (by omega)
  unfold spDual at h
  have bad : ¬ duB ch → ∀ L', kcp (Wp 403) 403 1 0 [(0, .ref 1)] 71 [] Q (.inr 102) (gE Lx) I L' (e + 1) := fun q L' => by
    rw [if_neg q] at h
    exact kcp_h rfl (h.mk (c := 1) FrI.rf hc (by omega) rfl (fun z => by cases z))
  refine s_403_0 ?_
  rw [h1, h2, h3, i2l (by omega), i2l (by omega), i2l (by omega)]
  simp only [neg64, mul64, add64]
  refine c_53 (by omega) (by omega) (by omega) (fun k1 k2 L1 hf1 hp => kcp_v rfl (s_61_20 (b_1 (kcp_v rfl (s_180_31 (j_1 ?_)))))) (fun k L1 hf1 => kcp_v rfl (s_61_20 (b_0 (kcp_v rfl (s_180_31 (j_0 (bad (fun w => ?_) L1)))))))
  · have pz := duZ_p hok k1
    have ez : n3 (ch.1 * ch.2.2.1) (-ch.2.1 * ch.2.2.1) (ch.1 * ch.1 + ch.2.1 * ch.2.1) = duZ ch := rfl
    rw [ez] at hp k2
    obtain ⟨p1, p2, p3⟩ := hp
    obtain ⟨q1, q2, q3⟩ := k2
    rw [p1, p2, p3, l2i, l2i, l2i]
    refine i_ltz (by omega) (fun _ => by omega) (fun _ => i_lt32 (by omega) (by omega) (fun q => bad (fun w => by have := w.2.1; omega) L1) (fun a1 => i_lt32 (by omega) (by omega) (fun q => bad (fun w => by have := w.2.2.1; omega) L1) (fun a2 => i_lt32 (by omega) (by omega) (fun q => bad (fun w => by have := w.2.2.1; omega) L1) (fun a3 => i_lt32 (by omega) (by omega) (fun q => by omega) (fun a4 => i_lt32 (by omega) (by omega) (fun q => bad (fun w => by have := w.2.2.2; omega) L1) (fun a5 => ?_))))))
    rw [if_pos ⟨k1, a1, ⟨a2, a3⟩, a5⟩] at h
    have hI : FrI [(5, 0, 3)] I (ui (ui (ui I 5 0 (Int32.ofInt (duZ ch).1)) 5 1 (Int32.ofInt (duZ ch).2.1)) 5 2 (Int32.ofInt (duZ ch).2.2)) := FrI.wu (FrI.wu (FrI.wu FrI.rf rfl) rfl) rfl
    refine l_180 (I0 := ui (ui (ui I 5 0 (Int32.ofInt (duZ ch).1)) 5 1 (Int32.ofInt (duZ ch).2.1)) 5 2 (Int32.ofInt (duZ ch).2.2)) hok (z := duZ ch) (fun I2 hf2 hc2 => kcp_v rfl (s_403_4 (h.mk (c := 0) (FrI.tr (hI.up (S := cW) rfl) hf2 rfl rfl) hc2 (by omega) rfl (fun _ w => by cases w)))) ch.2.2.2.1 0 (by omega) _ FrI.rf ⟨rfl, rfl, rfl, e3, fun k hk => ?_⟩
    have e0 : (chM (duZ ch) ch 0).2.2.2.2 k = ch.2.2.2.2 k := chM_0
    rw [e0]
    exact e4 k hk
  · rcases k with k | k
    · exact w.1 k
    · refine k ⟨?_, ?_, ?_⟩
      · have := w.2.1; show (duZ ch).1 ≤ 1000; omega
      · have := w.2.2.1; show -1000 ≤ (duZ ch).2.1 ∧ (duZ ch).2.1 ≤ 1000; omega
      · have := w.2.2.2; show (duZ ch).2.2 ≤ 1000; omega
theorem l_336 {I0 : Mi} {ch : Ch} (hok : ChOk ch) {z : Pt} (fin : ∀ I', FrI [(59, 0, 0)] I0 I' → BnAt I' 59 0 (chM z ch ch.2.2.2.1) → Q (.inl (some (.int (Int32.ofInt 0)))) (gE Lx) I' L e) :
    ∀ (s j : Nat), j + s = ch.2.2.2.1 → ∀ I : Mi, FrI [(59, 0, 0)] I0 I → BnAt I 59 0 (chM z ch j) → Wp 336 179 [(0, .ref 58), (16, .int (Int32.ofInt j))] [] (gE Lx) I L e Q := by
  have h4 := hok.2.2.2.1
  intro s
  induction s with
  | zero =>
    intro j hj I hf hc
    have : j = ch.2.2.2.1 := by omega
    subst this
    have c3 : I 59 3 = Int32.ofInt (ch.2.2.2.1 : Int) := hc.2.2.2.1
    refine s_336_179 ?_
    rw [c3]
    exact i_lt32 (by omega) (by omega) (fun w => by omega) (fun _ => fin I hf hc)
  | succ s ih =>
    intro j hj I hf hc
    have hel := hok.2.2.2.2 j (by omega)
    obtain ⟨r1, r2, r3⟩ := el_r hel
    have hs := hel.1
    obtain ⟨c0, c1, c2, c3, c4⟩ := id hc
    have c3 : I 59 3 = Int32.ofInt (ch.2.2.2.1 : Int) := c3
    have hjm : j < (chM z ch j).2.2.2.1 := by show j < ch.2.2.2.1; omega
    have h4m : (chM z ch j).2.2.2.1 ≤ 4 := h4
    have nxt : ∀ k, k ≠ j → (chM z ch (j + 1)).2.2.2.2 k = (chM z ch j).2.2.2.2 k := fun k hk => by
      show (if k < j + 1 then _ else _) = (if k < j then _ else _)
      by_cases w : k < j
      · rw [if_pos w, if_pos (by omega)]
      · rw [if_neg w, if_neg (by omega)]
    have atj : (chM z ch (j + 1)).2.2.2.2 j = fl5 (ch.2.2.2.2 j) := if_pos (by omega)
    have atj0 : (chM z ch j).2.2.2.2 j = ch.2.2.2.2 j := if_neg (by omega)
    have bn : ∀ (o k : Nat), (Int32.ofInt (o : Int) + Int32.ofInt 3 * Int32.ofInt (k : Int)) = Int32.ofInt ((o + 3 * k : Nat) : Int) := fun o k => by rw [mul32, add32]; congr 1
    have b1 : ∀ k : Nat, Int32.ofInt 4 + Int32.ofInt 3 * Int32.ofInt (k : Int) = Int32.ofInt ((4 + 3 * k : Nat) : Int) := bn 4
    have b2 : ∀ k : Nat, Int32.ofInt 5 + Int32.ofInt 3 * Int32.ofInt (k : Int) = Int32.ofInt ((5 + 3 * k : Nat) : Int) := bn 5
    have b3 : ∀ k : Nat, Int32.ofInt 6 + Int32.ofInt 3 * Int32.ofInt (k : Int) = Int32.ofInt ((6 + 3 * k : Nat) : Int) := bn 6
    refine s_336_179 ?_
    rw [c3]
    refine i_lt32 (by omega) (by omega) (fun _ => c_220 hc hjm h4m (kcp_v rfl (s_336_194 ?_))) (fun _ => by omega)
    rw [atj0]
    refine i_eqz r1 (fun q => ?_) (fun q => ?_)
    · rw [add32]
      have := ih (j + 1) (by omega) I hf ⟨c0, c1, c2, c3, fun k hk => by
        by_cases w : k = j
        · subst w
          have hk2 := c4 k hk
          rw [atj0] at hk2
          rw [atj]
          refine ⟨?_, hk2.2⟩
          show I 59 (0 + (4 + 3 * k)) = .ofInt (if (ch.2.2.2.2 k).1 = 0 then 0 else 5 - (ch.2.2.2.2 k).1)
          rw [if_pos q, hk2.1, q]
        · rw [nxt k w]
          exact c4 k hk⟩
      exact this
    · refine c_220 hc hjm h4m (kcp_v rfl (s_336_207 ?_))
      rw [atj0]
      refine c_223 hc hjm h4m (kcp_v rfl (s_336_214 ?_))
      rw [atj0]
      refine c_224 hc hjm h4m (kcp_v rfl (s_336_220 ?_))
      rw [atj0, sub32, b1, b2, b3, tncn (k := 4 + 3 * j) (by omega), tncn (k := 5 + 3 * j) (by omega), tncn (k := 6 + 3 * j) (by omega)]
      refine i_inb (by omega) (by omega) (i_inb (by omega) (by omega) (i_inb (by omega) (by omega) ?_))
      rw [add32]
      have := ih (j + 1) (by omega) _ (FrI.wu (FrI.wu (FrI.wu hf (k := 59) (j := 4 + 3 * j) (x := Int32.ofInt (5 - (ch.2.2.2.2 j).1)) rfl) (k := 59) (j := 5 + 3 * j) (x := Int32.ofInt (ch.2.2.2.2 j).2.1) rfl) (k := 59) (j := 6 + 3 * j) (x := Int32.ofInt (ch.2.2.2.2 j).2.2) rfl) ⟨by rw [u_ne (by omega), u_ne (by omega), u_ne (by omega)]; exact c0, by rw [u_ne (by omega), u_ne (by omega), u_ne (by omega)]; exact c1, by rw [u_ne (by omega), u_ne (by omega), u_ne (by omega)]; exact c2, by rw [u_ne (by omega), u_ne (by omega), u_ne (by omega)]; exact c3, fun k hk => by
        rw [Nat.zero_add, Nat.zero_add, Nat.zero_add]
        by_cases w : k = j
        · subst w
          rw [atj]
          have ef : (fl5 (ch.2.2.2.2 k)).1 = 5 - (ch.2.2.2.2 k).1 := if_neg q
          exact ⟨by rw [u_ne (by omega), u_ne (by omega), u_at, ef], by rw [u_ne (by omega), u_at]; rfl, by rw [u_at]; rfl⟩
        · rw [nxt k w]
          have := c4 k hk
          rw [Nat.zero_add, Nat.zero_add, Nat.zero_add] at this
          exact ⟨by rw [u_ne (by omega), u_ne (by omega), u_ne (by omega)]; exact this.1, by rw [u_ne (by omega), u_ne (by omega), u_ne (by omega)]; exact this.2.1, by rw [u_ne (by omega), u_ne (by omega), u_ne (by omega)]; exact this.2.2⟩⟩
      exact this
set_option maxHeartbeats 4000000 in
theorem r_336 {ch : Ch} (hok : ChOk ch) (hc : BnAt I 59 0 ch) (h : RW Lx I L e Q false (spDual ch)) : Wp 336 0 [(0, .ref 58)] [] (gE Lx) I L e Q := by
  have h4 := hok.2.2.2.1
  obtain ⟨g1, g2, g3e, e3, e4⟩ := id hc
  have g1 : I 59 0 = Int32.ofInt ch.1 := g1
  have g2 : I 59 1 = Int32.ofInt ch.2.1 := g2
  have g3e : I 59 2 = Int32.ofInt ch.2.2.1 := g3e
  have b1 := hok.1; have b2 := hok.2.1; have b3 := hok.2.2.1
  have m1 := mulB (x := ch.1) (y := ch.2.2.1) (A := 99) (B := 20) (by omega) (by omega)
  have m2 := mulB (x := -ch.2.1) (y := ch.2.2.1) (A := 99) (B := 20) (by omega) (by omega)
  have m3 := mulB (x := ch.1) (y := ch.1) (A := 99) (B := 99) (by omega) (by omega)
  have m4 := mulB (x := ch.2.1) (y := ch.2.1) (A := 99) (B := 99) (by omega) (by omega)
  have q1 := sq_nn ch.1
  have q2 := sq_nn ch.2.1
  have ac0 : 0 ≤ ch.1 * ch.2.2.1 := Int.mul_nonneg b1.1 (by omega)
  unfold spDual at h
  have bad : ¬ duB ch → ∀ I', FrI rW I I' → BnAt I' 59 0 ch → I' 58 0 = .ofInt 1 → Q (.inl (some (.int (Int32.ofInt 0)))) (gE Lx) I' L e := fun q I' hf hb h0 => by
    rw [if_neg q] at h
    exact h I' L 0 hf hb rfl h0 (fun z => by cases z)
  have bad1 : ¬ duB ch → Q (.inl (some (.int (Int32.ofInt 0)))) (gE Lx) (ui (ui I 58 0 (Int32.ofInt 0)) 58 0 (Int32.ofInt 1)) L e := fun q => bad q _ (FrI.wu (FrI.wu FrI.rf rfl) rfl) (hc.cg rfl) u_at
  have n1 := gI_nn (ch.1 * ch.2.2.1) (-ch.2.1 * ch.2.2.1)
  have r1 := gI_r (a := ch.1 * ch.2.2.1) (b := -ch.2.1 * ch.2.2.1) (by omega) (by omega)
  refine s_336_0 ?_
  rw [g1, g2, g3e, i2l (by omega), i2l (by omega), i2l (by omega)]
  simp only [neg64, mul64, add64]
  refine c_209 (by omega) (by omega) (kcp_v rfl (s_336_57 (c_209 (by omega) (by omega) (kcp_v rfl (s_336_62 ?_)))))
  rw [show gI (gI (ch.1 * ch.2.2.1) (-ch.2.1 * ch.2.2.1)) (ch.1 * ch.1 + ch.2.1 * ch.2.1) = g3 (ch.1 * ch.2.2.1) (-ch.2.1 * ch.2.2.1) (ch.1 * ch.1 + ch.2.1 * ch.2.1) from rfl]
  refine i_lt64 (by omega) (by omega) (fun k => ?_) (fun k => bad1 (fun w => w.1 (by omega)))
  have k1 : ch.1 * ch.1 + ch.2.1 * ch.2.1 ≠ 0 := by omega
  have pz := duZ_p hok k1
  have hg := g3_pos (a := ch.1 * ch.2.2.1) (b := -ch.2.1 * ch.2.2.1) k1
  have gm : g3 (ch.1 * ch.2.2.1) (-ch.2.1 * ch.2.2.1) (ch.1 * ch.1 + ch.2.1 * ch.2.1) ≤ 9223372036854775807 := gI_r (by omega) (by omega)
  obtain ⟨d1, d2, d3⟩ := g3_d (ch.1 * ch.2.2.1) (-ch.2.1 * ch.2.2.1) (ch.1 * ch.1 + ch.2.1 * ch.2.1)
  have z1 : (duZ ch).1 = ch.1 * ch.2.2.1 / g3 (ch.1 * ch.2.2.1) (-ch.2.1 * ch.2.2.1) (ch.1 * ch.1 + ch.2.1 * ch.2.1) := rfl
  have z2 : (duZ ch).2.1 = -ch.2.1 * ch.2.2.1 / g3 (ch.1 * ch.2.2.1) (-ch.2.1 * ch.2.2.1) (ch.1 * ch.1 + ch.2.1 * ch.2.1) := rfl
  have z3 : (duZ ch).2.2 = (ch.1 * ch.1 + ch.2.1 * ch.2.1) / g3 (ch.1 * ch.2.2.1) (-ch.2.1 * ch.2.2.1) (ch.1 * ch.1 + ch.2.1 * ch.2.1) := rfl
  have v1 := dv_b hg (show -9223372036854775807 ≤ ch.1 * ch.2.2.1 ∧ ch.1 * ch.2.2.1 ≤ 9223372036854775807 by omega) d1
  have v2 := dv_b hg (show -9223372036854775807 ≤ -ch.2.1 * ch.2.2.1 ∧ -ch.2.1 * ch.2.2.1 ≤ 9223372036854775807 by omega) d2
  have v3 := dv_b hg (show -9223372036854775807 ≤ ch.1 * ch.1 + ch.2.1 * ch.2.1 ∧ ch.1 * ch.1 + ch.2.1 * ch.2.1 ≤ 9223372036854775807 by omega) d3
  rw [← z1] at v1
  rw [← z2] at v2
  rw [← z3] at v3
  refine i_nz64 (by omega) (by omega) ?_
  rw [dvp (by omega) (by omega) hg gm, ← z1]
  refine i_lt64 (by omega) (by omega) (fun q => bad1 (fun w => by have := w.2.1; omega)) (fun a1 => c_210 (by omega) (fun x hx1 hx2 => kcp_v rfl (s_336_88 ?_)))
  have ex : x / g3 (ch.1 * ch.2.2.1) (-ch.2.1 * ch.2.2.1) (ch.1 * ch.1 + ch.2.1 * ch.2.1) = (if 0 ≤ (duZ ch).2.1 then (duZ ch).2.1 else -(duZ ch).2.1) := by
    have e := Int.mul_ediv_cancel' d2
    rw [← z2] at e
    rw [← e] at hx2
    have sgn : 0 ≤ (duZ ch).2.1 → x = g3 (ch.1 * ch.2.2.1) (-ch.2.1 * ch.2.2.1) (ch.1 * ch.1 + ch.2.1 * ch.2.1) * (duZ ch).2.1 := fun w => by
      have := Int.mul_nonneg (show 0 ≤ g3 (ch.1 * ch.2.2.1) (-ch.2.1 * ch.2.2.1) (ch.1 * ch.1 + ch.2.1 * ch.2.1) by omega) w
      omega
    have sgn2 : (duZ ch).2.1 < 0 → x = g3 (ch.1 * ch.2.2.1) (-ch.2.1 * ch.2.2.1) (ch.1 * ch.1 + ch.2.1 * ch.2.1) * -(duZ ch).2.1 := fun w => by
      have := Int.mul_neg_of_pos_of_neg hg w
      rw [Int.mul_neg]
      omega
    split
    · next w => rw [sgn w, Int.mul_ediv_cancel_left _ (by omega)]
    · next w => rw [sgn2 (by omega), Int.mul_ediv_cancel_left _ (by omega)]
  have xr : x ≤ 9223372036854775807 := by omega
  refine i_nz64 (by omega) (by omega) ?_
  rw [dvp hx1 xr hg gm, ex, dvp (by omega) (by omega) hg gm, ← z3, dv64 (x := -ch.2.1 * ch.2.2.1) (by omega) (by omega) (by omega), Int.tdiv_eq_ediv_of_dvd d2, ← z2, dvp (x := ch.1 * ch.2.2.1) (by omega) (by omega) hg gm, ← z1, l2i, l2i, l2i]
  refine i_lt64 (by omega) (by split <;> omega) (fun q => bad1 (fun w => ?_)) (fun a2 => i_nz64 (by omega) (by omega) (i_lt64 (by omega) (by omega) (fun q => bad1 (fun w => by have := w.2.2.2; omega)) (fun a3 => i_nz64 (by omega) (by omega) (i_nz64 (by omega) (by omega) (i_nz64 (by omega) (by omega) ?_)))))
  · have := w.2.2.1
    split at q <;> omega
  · have a22 : -99 ≤ (duZ ch).2.1 ∧ (duZ ch).2.1 ≤ 99 := by split at a2 <;> omega
    rw [if_pos ⟨k1, a1, a22, a3⟩] at h
    have hI : FrI rW I (ui (ui (ui (ui (ui I 58 0 (Int32.ofInt 0)) 58 0 (Int32.ofInt 0)) 59 0 (Int32.ofInt (duZ ch).1)) 59 1 (Int32.ofInt (duZ ch).2.1)) 59 2 (Int32.ofInt (duZ ch).2.2)) := FrI.wu (FrI.wu (FrI.wu (FrI.wu (FrI.wu FrI.rf rfl) rfl) rfl) rfl) rfl
    refine l_336 (I0 := ui (ui (ui (ui (ui I 58 0 (Int32.ofInt 0)) 58 0 (Int32.ofInt 0)) 59 0 (Int32.ofInt (duZ ch).1)) 59 1 (Int32.ofInt (duZ ch).2.1)) 59 2 (Int32.ofInt (duZ ch).2.2)) hok (z := duZ ch) (fun I2 hf2 hc2 => h I2 L 0 (FrI.tr hI hf2 rfl rfl) hc2 rfl ((hf2 58 0 rfl).trans rfl) (fun _ w => by cases w)) ch.2.2.2.1 0 (by omega) _ FrI.rf ⟨rfl, rfl, rfl, e3, fun k hk => ?_⟩
    have e0 : (chM (duZ ch) ch 0).2.2.2.2 k = ch.2.2.2.2 k := chM_0
    rw [e0]
    have := e4 k hk
    rw [Nat.zero_add, Nat.zero_add, Nat.zero_add] at this ⊢
    exact ⟨by rw [u_ne (by omega), u_ne (by omega), u_ne (by omega)]; exact this.1, by rw [u_ne (by omega), u_ne (by omega), u_ne (by omega)]; exact this.2.1, by rw [u_ne (by omega), u_ne (by omega), u_ne (by omega)]; exact this.2.2⟩
end
