/-! All lines and the stubs behind them, on the other side. -/
theorem ab_succ {C : Nat → Prop} {w : Int} {f : Nat → Int × Int} {n : Nat} {c : Option Nat} : ab C w f (n + 1) 0 c = stp1 C w f n (ab C w f n 0 c) := by
  rw [ab_add n 1 0 c, Nat.zero_add]
  rfl
def beW (ch : Ch) (t : Nat) : Wv := wPass (fiS (t % 368)) (tgU (t % 368 / 2)) (tgL (t % 368 / 2)) (wLine (tgU (t / 368)) (tgL (t / 368)) (wSeen ch ch.2.2.2.1))
def beC (m : Int) (t : Nat) : Prop := t < 67712 ∧ sml m (t / 368) ∧ sml m (t % 368 / 2)
def beX (ch : Ch) (t : Nat) : Ch := chAdd (chAdd ch (0, tgU (t / 368), tgL (t / 368))) (fiS (t % 368), tgU (t % 368 / 2), tgL (t % 368 / 2))
theorem beX_ok {ch : Ch} (h : ChOk ch) (h2 : ch.2.2.2.1 ≤ 2) {t : Nat} (ht : t < 67712) : ChOk (beX ch t) :=
  chAdd_ok (chAdd_ok h (by omega) (tg_e (by omega))) (by show ch.2.2.2.1 + 1 < 4; omega) ⟨fiS_b _, tg_t (by omega)⟩
theorem liW {ch : Ch} {i : Nat} : wSeen (chAdd ch (0, tgU i, tgL i)) (ch.2.2.2.1 + 1) = wLine (tgU i) (tgL i) (wSeen ch ch.2.2.2.1) := wSeen_add
theorem beX_w {ch : Ch} {t : Nat} : wSeen (beX ch t) (ch.2.2.2.1 + 1 + 1) = beW ch t := by
  have := wSeen_add (ch := chAdd ch (0, tgU (t / 368), tgL (t / 368))) (x := (fiS (t % 368), tgU (t % 368 / 2), tgL (t % 368 / 2)))
  unfold beW
  rw [← liW]
  exact this
theorem be_ok {ch : Ch} (h : ChOk ch) (h2 : ch.2.2.2.1 ≤ 2) {t : Nat} (ht : t < 67712) : efok (ecF (beW ch t)) ∧ Good (beW ch t) ∧ WB 32845824 (beW ch t) := by
  have a := ec_f (beX_ok h h2 ht) (k := ch.2.2.2.1 + 1 + 1) (Nat.le_refl _)
  have b := wSeen_g (beX_ok h h2 ht) (ch.2.2.2.1 + 1 + 1) (Nat.le_refl _)
  have c := wSeen_B (beX_ok h h2 ht) (k := ch.2.2.2.1 + 1 + 1) (Nat.le_refl _)
  rw [beX_w] at a b c
  exact ⟨a, b, c⟩
theorem li_ok {ch : Ch} (h : ChOk ch) (h2 : ch.2.2.2.1 ≤ 2) {i : Nat} (hi : i < 184) : Good (wLine (tgU i) (tgL i) (wSeen ch ch.2.2.2.1)) ∧ WB 32845824 (wLine (tgU i) (tgL i) (wSeen ch ch.2.2.2.1)) := by
  have ok := chAdd_ok h (by omega) (tg_e hi)
  have b := wSeen_g ok (ch.2.2.2.1 + 1) (Nat.le_refl _)
  have c := wSeen_B ok (k := ch.2.2.2.1 + 1) (Nat.le_refl _)
  rw [liW] at b c
  exact ⟨b, c⟩
theorem beW_a {ch : Ch} {i o : Nat} (ho : o < 368) : beW ch (368 * i + o) = wPass (fiS o) (tgU (o / 2)) (tgL (o / 2)) (wLine (tgU i) (tgL i) (wSeen ch ch.2.2.2.1)) := by
  unfold beW
  rw [show (368 * i + o) / 368 = i by omega, show (368 * i + o) % 368 = o by omega]
theorem beC_a {m : Int} {i o : Nat} (hi : i < 184) (ho : o < 368) : beC m (368 * i + o) ↔ sml m i ∧ sml m (o / 2) := by
  unfold beC
  rw [show (368 * i + o) / 368 = i by omega, show (368 * i + o) % 368 = o by omega]
  exact ⟨fun q => q.2, fun q => ⟨by omega, q⟩⟩
def AsAt (L : Ml) (o : Nat) (x : Wv) : Prop := L 63 o = .ofInt x.1 ∧ L 63 (o + 1) = .ofInt x.2.1 ∧ L 63 (o + 2) = .ofInt x.2.2.1 ∧ L 63 (o + 3) = .ofInt x.2.2.2
theorem AsAt.cg {L L' : Ml} {o : Nat} {x : Wv} (h : AsAt L o x) (e : L' 63 = L 63) : AsAt L' o x := by unfold AsAt; rw [e]; exact h
theorem skips {S : Nat → Prop} {C : Nat → Prop} (sk : ∀ t, ¬ C t → S t → S (t + 1)) : ∀ (n a : Nat), (∀ t, a ≤ t → t < a + n → ¬ C t) → S a → S (a + n) := by
  intro n
  induction n with
  | zero => intro a _ h; exact h
  | succ n ih =>
    intro a hno h
    have := ih (a + 1) (fun t h1 h2 => hno t (by omega) (by omega)) (sk a (hno a (Nat.le_refl _) (by omega)) h)
    rw [show a + (n + 1) = a + 1 + n by omega]
    exact this
section
variable {Lx : Nat} {I : Mi} {L : Ml} {e : Nat} {Q : Kq}
section
variable {S : Nat → Mi → Ml → Prop} {ch : Ch} {m ex : Int}
set_option maxHeartbeats 8000000 in
theorem l_310i (hok : ChOk ch) (h2 : ch.2.2.2.1 ≤ 2) (hm : 1 ≤ m ∧ m ≤ 12) (hS : ∀ t I L L', S t I L → FrL [(58, 10, 4), (63, 0, 8)] L L' → S t I L') (hT : ∀ t I L, S t I L → TabRt I) (sk : ∀ t I L, ¬ beC m t → S t I L → S (t + 1) I L)
    {i : Nat} (hi : i < 184) (hsi : sml m i) {r0 r1 : Wv} (hs1 : Sc (wLine (tgU i) (tgL i) (wSeen ch ch.2.2.2.1)) r1)
    (hit : ∀ (o : Nat) (r : Wv) (I : Mi) (L : Ml), o < 368 → beC m (368 * i + o) → S (368 * i + o) I L → RvAt L r → Sc (beW ch (368 * i + o)) r → (∀ I' L', S (368 * i + o + 1) I' L' → L' 63 = L 63 → Wp 310 76 [(0, .ref 58), (1, .int (Int32.ofInt m)), (2, .int (Int32.ofInt ex)), (3, .int (Int32.ofInt i)), (4, .int (Int32.ofInt ((o + 1 : Nat) : Int)))] [] (gE Lx) I' L' e Q) →
      Wp 310 140 [(0, .ref 58), (1, .int (Int32.ofInt m)), (2, .int (Int32.ofInt ex)), (3, .int (Int32.ofInt i)), (4, .int (Int32.ofInt o))] [] (gE Lx) I L e Q)
    (nx : ∀ I L, S (368 * (i + 1)) I L → AsAt L 0 r0 → Wp 310 24 [(0, .ref 58), (1, .int (Int32.ofInt m)), (2, .int (Int32.ofInt ex)), (3, .int (Int32.ofInt ((i + 1 : Nat) : Int)))] [] (gE Lx) I L e Q) :
    ∀ (s o : Nat), o + s = 368 → ∀ (I : Mi) (L : Ml), S (368 * i + o) I L → AsAt L 0 r0 → AsAt L 4 r1 →
    Wp 310 76 [(0, .ref 58), (1, .int (Int32.ofInt m)), (2, .int (Int32.ofInt ex)), (3, .int (Int32.ofInt i)), (4, .int (Int32.ofInt o))] [] (gE Lx) I L e Q := by
  obtain ⟨lg, lb⟩ := li_ok hok h2 hi
  intro s
  induction s with
  | zero =>
    intro o ho I L hs a0 a4
    have hTT := hT _ _ _ hs
    have : o = 368 := by omega
    subst this
    refine s_310_76 ?_
    rw [hTT.1, mul32]
    refine i_lt32 (by omega) (by omega) (fun _ => by omega) (fun _ => ?_)
    rw [add32]
    exact nx I L (by rw [show 368 * (i + 1) = 368 * i + 368 by omega]; exact hs) a0
  | succ s ih =>
    intro o ho I L hs a0 a4
    have hTT := hT _ _ _ hs
    have ho2 : o < 368 := by omega
    have hj : o / 2 < 184 := by omega
    have tb := tg_b hj
    have hCa := beC_a (m := m) hi ho2
    have no : ¬ sml m (o / 2) → Wp 310 76 [(0, .ref 58), (1, .int (Int32.ofInt m)), (2, .int (Int32.ofInt ex)), (3, .int (Int32.ofInt i)), (4, .int (Int32.ofInt (o : Int) + Int32.ofInt 1))] [] (gE Lx) I L e Q := fun q => by
      rw [add32]
      have := ih (o + 1) (by omega) I L (sk _ _ _ (fun w => q (hCa.mp w).2) hs) a0 a4
      exact this
    have hsm : sml m (o / 2) → beC m (368 * i + o) := fun q => hCa.mpr ⟨hsi, q⟩
    unfold sml at no hsm
    refine s_310_76 ?_
    rw [hTT.1, mul32, dv2 (t := o) (by omega), tncn (k := o / 2) (by omega), (hTT.2 _ hj).1, (hTT.2 _ hj).2, neg32]
    refine i_lt32 (by omega) (by omega) (fun _ => i_inb (by omega) hj (i_lt32 (by omega) (by omega) (fun q => no (by omega)) (fun q1 => i_lt32 (by omega) (by omega) (fun q => no (by omega)) (fun q2 => i_inb (by omega) hj (i_lt32 (by omega) (by omega) (fun q => no (by omega)) (fun q3 => ?_)))))) (fun _ => by omega)
    have hC := hsm ⟨⟨q1, q2⟩, q3⟩
    obtain ⟨x0, x1, x2, x3⟩ := id a4
    have lb1 := hs1.wb lb
    have lg1 := lg.sc hs1
    rw [x0, x1, x2, x3]
    refine c_228 (x := r1) (lb1.le (by decide)) lg1.2 (fun L1 hf1 hr1 => kcp_v rfl (s_313_34 (kcp_v rfl (s_310_107 ?_))))
    have hs2 : Sc (wLine (tgU i) (tgL i) (wSeen ch ch.2.2.2.1)) (nW r1) := hs1.tr (nW_sc lg1.2)
    have go : Wp 229 0 [(0, .ref 58), (1, .int (Int32.ofInt (fiS o))), (2, .long (Int64.ofInt (tgU (o / 2)))), (4, .long (Int64.ofInt (tgL (o / 2))))] [] (gE Lx) I L1 e (kcp (Wp 310) 310 137 0 [(0, .ref 58), (1, .int (Int32.ofInt m)), (2, .int (Int32.ofInt ex)), (3, .int (Int32.ofInt i)), (4, .int (Int32.ofInt (o : Int)))] 71 [] Q) := by
      refine c_229w hr1 hs2 lb lg (fiS_b o) (tg_t hj) (fun L2 r2 hf2 hr2 hs3 => kcp_v rfl ?_)
      have hff := FrL.tr (S := [(58, 10, 4), (63, 0, 8)]) hf1 hf2 rfl rfl
      have h63 : L2 63 = L 63 := (hf2.at rfl).trans (hf1.at rfl)
      refine hit o r2 I L2 ho2 hC (hS _ _ _ _ hs hff) hr2 (by rw [beW_a ho2]; exact hs3) (fun I3 L3 hs5 h63b => ?_)
      have := ih (o + 1) (by omega) I3 L3 hs5 (a0.cg (h63b.trans h63)) (a4.cg (h63b.trans h63))
      exact this
    have hm : o % 2 = 0 ∨ o % 2 = 1 := by omega
    rw [rm2 (t := o) (by omega), dv2 (t := o) (by omega), sub32, tncn (k := o / 2) (by omega), (hTT.2 _ hj).1, (hTT.2 _ hj).2, i2l (by omega), i2l (by omega)]
    refine i_eq32 (by omega) (by omega) (fun q => ?_) (fun q => ?_)
    · have : fiS o = 1 := by unfold fiS; rw [if_pos (by omega)]
      rw [this] at go
      exact i_inb (by omega) hj (i_inb (by omega) hj go)
    · have : fiS o = 2 := by unfold fiS; rw [if_neg (by omega)]
      rw [this] at go
      exact i_inb (by omega) hj (i_inb (by omega) hj go)
set_option maxHeartbeats 8000000 in
theorem l_310 (hok : ChOk ch) (h2 : ch.2.2.2.1 ≤ 2) (hm : 1 ≤ m ∧ m ≤ 12) (hS : ∀ t I L L', S t I L → FrL [(58, 10, 4), (63, 0, 8)] L L' → S t I L') (hT : ∀ t I L, S t I L → TabRt I) (sk : ∀ t I L, ¬ beC m t → S t I L → S (t + 1) I L)
    {r0 : Wv} (hs0 : Sc (wSeen ch ch.2.2.2.1) r0)
    (hit : ∀ (i : Nat), i < 184 → ∀ (o : Nat) (r : Wv) (I : Mi) (L : Ml), o < 368 → beC m (368 * i + o) → S (368 * i + o) I L → RvAt L r → Sc (beW ch (368 * i + o)) r → (∀ I' L', S (368 * i + o + 1) I' L' → L' 63 = L 63 → Wp 310 76 [(0, .ref 58), (1, .int (Int32.ofInt m)), (2, .int (Int32.ofInt ex)), (3, .int (Int32.ofInt i)), (4, .int (Int32.ofInt ((o + 1 : Nat) : Int)))] [] (gE Lx) I' L' e Q) →
      Wp 310 140 [(0, .ref 58), (1, .int (Int32.ofInt m)), (2, .int (Int32.ofInt ex)), (3, .int (Int32.ofInt i)), (4, .int (Int32.ofInt o))] [] (gE Lx) I L e Q)
    (fin : ∀ I L, S 67712 I L → Q (.inl none) (gE Lx) I L e) :
    ∀ (s i : Nat), i + s = 184 → ∀ (I : Mi) (L : Ml), S (368 * i) I L → AsAt L 0 r0 →
    Wp 310 24 [(0, .ref 58), (1, .int (Int32.ofInt m)), (2, .int (Int32.ofInt ex)), (3, .int (Int32.ofInt i))] [] (gE Lx) I L e Q := by
  have wb := wSeen_B hok (Nat.le_refl ch.2.2.2.1)
  have wg := wSeen_g hok _ (Nat.le_refl ch.2.2.2.1)
  intro s
  induction s with
  | zero =>
    intro i hi I L hs a0
    have hTT := hT _ _ _ hs
    have : i = 184 := by omega
    subst this
    refine s_310_24 ?_
    rw [hTT.1]
    exact i_lt32 (by omega) (by omega) (fun _ => by omega) (fun _ => fin I L hs)
  | succ s ih =>
    intro i hi I L hs a0
    have hTT := hT _ _ _ hs
    have hi2 : i < 184 := by omega
    have tb := tg_b hi2
    have no : ¬ sml m i → Wp 310 24 [(0, .ref 58), (1, .int (Int32.ofInt m)), (2, .int (Int32.ofInt ex)), (3, .int (Int32.ofInt (i : Int) + Int32.ofInt 1))] [] (gE Lx) I L e Q := fun q => by
      rw [add32]
      have hs2 := skips (S := fun t => S t I L) (C := beC m) (fun t h1 h2 => sk t I L h1 h2) 368 (368 * i) (fun t h1 h2 w => q (by
        have e1 : t / 368 = i := by omega
        have := w.2.1
        rw [e1] at this
        exact this)) hs
      have := ih (i + 1) (by omega) I L (by rw [show 368 * (i + 1) = 368 * i + 368 by omega]; exact hs2) a0
      exact this
    have hsm : ((-m ≤ tgU i ∧ tgU i ≤ m) ∧ tgL i ≤ m) → sml m i := fun q => q
    unfold sml at no
    refine s_310_24 ?_
    rw [hTT.1, tncn (k := i) (by omega), (hTT.2 _ hi2).1, (hTT.2 _ hi2).2, neg32]
    refine i_lt32 (by omega) (by omega) (fun _ => i_inb (by omega) hi2 (i_lt32 (by omega) (by omega) (fun q => no (by omega)) (fun q1 => i_lt32 (by omega) (by omega) (fun q => no (by omega)) (fun q2 => i_inb (by omega) hi2 (i_lt32 (by omega) (by omega) (fun q => no (by omega)) (fun q3 => ?_)))))) (fun _ => by omega)
    have hsi := hsm ⟨⟨q1, q2⟩, q3⟩
    obtain ⟨x0, x1, x2, x3⟩ := id a0
    have x1 : L 63 1 = Int64.ofInt r0.2.1 := x1
    have x2 : L 63 2 = Int64.ofInt r0.2.2.1 := x2
    have x3 : L 63 3 = Int64.ofInt r0.2.2.2 := x3
    have lb1 := hs0.wb wb
    have lg1 := wg.sc hs0
    rw [x0, x1, x2, x3]
    refine c_228 (x := r0) (lb1.le (by decide)) lg1.2 (fun L1 hf1 hr1 => kcp_v rfl (s_313_34 (kcp_v rfl (s_310_49 ?_))))
    have hs2 : Sc (wSeen ch ch.2.2.2.1) (nW r0) := hs0.tr (nW_sc lg1.2)
    rw [tncn (k := i) (by omega), (hTT.2 _ hi2).1, (hTT.2 _ hi2).2, i2l (by omega), i2l (by omega)]
    refine i_inb (by omega) hi2 (i_inb (by omega) hi2 (c_229w (s := 0) hr1 hs2 wb wg (by omega) (tg_t hi2) (fun L2 r2 hf2 hr2 hs3 => kcp_v rfl (s_310_68 ?_))))
    obtain ⟨v0, v1, v2, v3⟩ := hr2
    have hff : FrL [(58, 10, 4), (63, 0, 8)] L (ul (ul (ul (ul L2 63 4 (L2 58 10)) 63 5 (L2 58 11)) 63 6 (L2 58 12)) 63 7 (L2 58 13)) := FrL.wu (FrL.wu (FrL.wu (FrL.wu (FrL.tr hf1 hf2 rfl rfl) rfl) rfl) rfl) rfl
    have h63 : L2 63 = L 63 := (hf2.at rfl).trans (hf1.at rfl)
    have a0' : AsAt (ul (ul (ul (ul L2 63 4 (L2 58 10)) 63 5 (L2 58 11)) 63 6 (L2 58 12)) 63 7 (L2 58 13)) 0 r0 := by
      have := a0.cg h63
      exact ⟨this.1, this.2.1, this.2.2.1, this.2.2.2⟩
    have a4' : AsAt (ul (ul (ul (ul L2 63 4 (L2 58 10)) 63 5 (L2 58 11)) 63 6 (L2 58 12)) 63 7 (L2 58 13)) 4 r2 := ⟨v0, v1, v2, v3⟩
    refine l_310i hok h2 hm hS hT sk hi2 hsi (r0 := r0) (r1 := r2) hs3 (hit i hi2) (fun I3 L3 hs5 a5 => ?_) 368 0 (by omega) I _ (hS _ _ _ _ hs hff) a0' a4'
    exact ih (i + 1) (by omega) I3 L3 hs5 a5
end
end
