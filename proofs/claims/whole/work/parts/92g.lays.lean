/-! The other side: an echo laid, within, parts, wide. -/
def LimRt (I : Mi) (l4 l5 : Int) : Prop := (I 58 3 = .ofInt l4 ∧ I 58 4 = .ofInt l5) ∧ (0 ≤ l4 ∧ l4 ≤ 1000000) ∧ (0 ≤ l5 ∧ l5 ≤ 1000000)
theorem LimRt.cg {I I' : Mi} {a b : Int} (h : LimRt I a b) (e3 : I' 58 3 = I 58 3) (e4 : I' 58 4 = I 58 4) : LimRt I' a b := by unfold LimRt; rw [e3, e4]; exact h
theorem wit_sc {w r : Wv} (h : Sc w r) {a b : Int} : wit a b w ↔ wit a b r := by
  obtain ⟨c, hc, rfl⟩ := h
  have := sq_pos hc
  unfold wit
  rw [eUp_sm, eLo_sm, show c * c * eUp r * b = c * c * (eUp r * b) by grind, show c * c * eLo r * a = c * c * (eLo r * a) by grind]
  exact ⟨fun q => Int.le_of_mul_le_mul_left q this, fun q => Int.mul_le_mul_of_nonneg_left q (Int.le_of_lt this)⟩
theorem tpt_sc {w r : Wv} (h : Sc w r) : tpt (ecF w) = tpt (ecF r) := by
  obtain ⟨c, hc, rfl⟩ := h
  have := sq_pos hc
  show 10000 * eUp (sm c r) / eLo (sm c r) = 10000 * eUp r / eLo r
  rw [eUp_sm, eLo_sm, show 10000 * (c * c * eUp r) = c * c * (10000 * eUp r) by grind, Int.mul_ediv_mul_of_pos _ _ this]
def lyF : Fr := [(58, 8, 2), (65, 0, 0)]
section
variable {Lx : Nat} {I : Mi} {L : Ml} {e : Nat} {Q : Kq}
set_option maxHeartbeats 4000000 in
/-- the end: squares of both -/
theorem n_339 {r : Wv} (hr : RfAt L 0 r) (hB : rBw r) (h : ∀ L', FrL [(65, 0, 0)] L L' → RwAt L' 8 (eUp r) → RwAt L' 9 (eLo r) → Q (.inl none) (gE Lx) I L' e) :
    Wp 342 0 [(0, .ref 58), (1, .int (Int32.ofInt 4)), (2, .int (Int32.ofInt 0)), (3, .long (Int64.ofInt 1)), (5, .int (Int32.ofInt 2)), (6, .long (Int64.ofInt (-1)))] [] (gE Lx) I L e (kcp (Wp 339) 339 216 0 [(0, .ref 58)] 71 [] Q) := by
  have hg := gW_at hr hB
  obtain ⟨b0, b1, b2, b3⟩ := id hB
  have rb : ∀ s t m n, s < 4 → t < 4 → (-6101 ≤ m ∧ m ≤ 6101) → (-6101 ≤ n ∧ n ≤ 6101) → RB (gW r s * m + gW r t * n) := fun s t m n hs ht hm hn => rbm (hg s hs).2 (hg t ht).2 hm hn
  refine c_342 (d := 4) (by omega) (a := 0) (by omega) (b := 2) (by omega) (hg 0 (by omega)).1 (hg 2 (by omega)).1 (by omega) (by omega) (rb _ _ _ _ (by omega) (by omega) (by omega) (by omega)) (fun L1 f1 v4 => kcp_v rfl (s_339_219 ?_))
  have g1 : ∀ k, k < 4 → RwAt L1 k (gW r k) := fun k hk => (hg k hk).1.fr f1 (by omega) (by omega) (by omega)
  refine c_342 (d := 5) (by omega) (a := 1) (by omega) (b := 3) (by omega) (g1 1 (by omega)) (g1 3 (by omega)) (by omega) (by omega) (rb _ _ _ _ (by omega) (by omega) (by omega) (by omega)) (fun L2 f2 v5 => kcp_v rfl (s_339_230 ?_))
  have g2 : ∀ k, k < 4 → RwAt L2 k (gW r k) := fun k hk => (g1 k hk).fr f2 (by omega) (by omega) (by omega)
  refine c_342 (d := 6) (by omega) (a := 0) (by omega) (b := 2) (by omega) (g2 0 (by omega)) (g2 2 (by omega)) (by omega) (by omega) (rb _ _ _ _ (by omega) (by omega) (by omega) (by omega)) (fun L3 f3 v6 => kcp_v rfl (s_339_240 ?_))
  have g3 : ∀ k, k < 4 → RwAt L3 k (gW r k) := fun k hk => (g2 k hk).fr f3 (by omega) (by omega) (by omega)
  refine c_342 (d := 7) (by omega) (a := 1) (by omega) (b := 3) (by omega) (g3 1 (by omega)) (g3 3 (by omega)) (by omega) (by omega) (rb _ _ _ _ (by omega) (by omega) (by omega) (by omega)) (fun L4 f4 v7 => kcp_v rfl (s_339_250 ?_))
  have w4 := ((v4.fr f2 (by omega) (by omega) (by omega)).fr f3 (by omega) (by omega) (by omega)).fr f4 (by omega) (by omega) (by omega)
  have w5 := (v5.fr f3 (by omega) (by omega) (by omega)).fr f4 (by omega) (by omega) (by omega)
  have w6 := v6.fr f4 (by omega) (by omega) (by omega)
  have e4 : gW r 0 * 1 + gW r 2 * -1 = r.1 - r.2.2.1 := by show r.1 * 1 + r.2.2.1 * -1 = _; omega
  have e5 : gW r 1 * 1 + gW r 3 * -1 = r.2.1 - r.2.2.2 := by show r.2.1 * 1 + r.2.2.2 * -1 = _; omega
  have e6 : gW r 0 * 1 + gW r 2 * 1 = r.1 + r.2.2.1 := by show r.1 * 1 + r.2.2.1 * 1 = _; omega
  have e7 : gW r 1 * 1 + gW r 3 * 1 = r.2.1 + r.2.2.2 := by show r.2.1 * 1 + r.2.2.2 * 1 = _; omega
  rw [e4] at w4
  rw [e5] at w5
  rw [e6] at w6
  rw [e7] at v7
  refine c_346 (d := 8) (a := 4) (b := 5) (by omega) (by omega) (by omega) (by omega) (by omega) (by omega) w4 w5 (by omega) (by omega) (fun L5 f5 k5 v8 => kcp_v rfl (s_339_258 ?_))
  refine c_346 (d := 9) (a := 6) (b := 7) (by omega) (by omega) (by omega) (by omega) (by omega) (by omega) (k5 6 _ (by omega) (by omega) (by omega) (by omega) w6) (k5 7 _ (by omega) (by omega) (by omega) (by omega) v7) (by omega) (by omega) (fun L6 f6 k6 v9 => kcp_v rfl (s_339_268 ?_))
  exact h L6 (FrL.tr (S := [(65, 0, 0)]) (FrL.tr (S := [(65, 0, 0)]) (FrL.tr (S := [(65, 0, 0)]) f1 f2 rfl rfl) (FrL.tr (S := [(65, 0, 0)]) f3 f4 rfl rfl) rfl rfl) (FrL.tr (S := [(65, 0, 0)]) f5 f6 rfl rfl) rfl rfl) (k6 8 _ (by omega) (by omega) (by omega) (by omega) v8) v9
set_option maxHeartbeats 4000000 in
theorem l_339 {ch : Ch} (hok : ChOk ch) (hc : BnAt I 59 0 ch) {x h : Int} (hh : R32 h) (hx : vOk x h) {L0 : Ml} (fin : ∀ L' r, FrL lyF L0 L' → Sc (vW ch x h) r → RwAt L' 8 (eUp r) → RwAt L' 9 (eLo r) → Q (.inl none) (gE Lx) I L' e) :
    ∀ (s j : Nat), j + s = ch.2.2.2.1 → ∀ (L : Ml) (r : Wv), FrL lyF L0 L → RfAt L 0 r → Sc (wSeen (vCh ch x h) j) r →
    Wp 339 120 [(0, .ref 58), (1, .int (Int32.ofInt x)), (2, .int (Int32.ofInt h)), (7, .int (Int32.ofInt j))] [] (gE Lx) I L e Q := by
  have h4 := hok.2.2.2.1
  have e3 : I 59 3 = Int32.ofInt (ch.2.2.2.1 : Int) := hc.2.2.2.1
  have hxb : -10 ≤ x ∧ x ≤ 10 := by
    unfold vOk at hx
    split at hx <;> omega
  intro s
  induction s with
  | zero =>
    intro j hj L r hf hr hs
    have : j = ch.2.2.2.1 := by omega
    subst this
    have hB : rBw r := hs.wb (vW_ok hok hx (Nat.le_refl _)).2
    refine s_339_120 ?_
    rw [e3]
    exact i_lt32 (by omega) (by omega) (fun _ => by omega) (fun _ => n_339 hr hB (fun L2 hf2 v8 v9 => fin L2 r (FrL.tr hf hf2 rfl rfl) hs v8 v9))
  | succ s ih =>
    intro j hj L r hf hr hs
    have hB : rBw r := hs.wb (vW_ok hok hx (show j ≤ ch.2.2.2.1 by omega)).2
    have hel := hok.2.2.2.2 j (by omega)
    obtain ⟨r1, r2, r3⟩ := el_r hel
    have tb := hel.2.b
    have vb := vT_b hx hel.2
    have m1 := mulB (x := 20 + x) (y := (ch.2.2.2.2 j).2.1) (A := 30) (B := 12) (by omega) (by omega)
    have nx : ∀ L1, FrL [(58, 8, 2)] L L1 → L1 58 8 = .ofInt (vT x h (ch.2.2.2.2 j).2.1 (ch.2.2.2.2 j).2.2).1 → L1 58 9 = .ofInt (vT x h (ch.2.2.2.2 j).2.1 (ch.2.2.2.2 j).2.2).2 → Wp 339 184 [(0, .ref 58), (1, .int (Int32.ofInt x)), (2, .int (Int32.ofInt h)), (7, .int (Int32.ofInt j))] [] (gE Lx) I L1 e Q := by
      intro L1 hf1 k8 k9
      refine s_339_184 (c_220 hc (by omega) h4 (kcp_v rfl (s_339_191 ?_)))
      rw [k8, k9]
      have hr1 : RfAt L1 0 r := hr.cg (hf1.at rfl)
      generalize hT : vT x h (ch.2.2.2.2 j).2.1 (ch.2.2.2.2 j).2.2 = T at *
      obtain ⟨vb1, vb2, vb3⟩ := vb
      refine c_341 hr1 hB hel.1 (by omega) (by omega) (fun L2 hf2 hv2 => kcp_v rfl (s_339_202 ?_))
      rw [add32]
      have hs2 : Sc (wSeen (vCh ch x h) (j + 1)) (rPass (ch.2.2.2.2 j).1 T.1 T.2 r) := by
        have e1 : wSeen (vCh ch x h) (j + 1) = wPass (ch.2.2.2.2 j).1 T.1 T.2 (wSeen (vCh ch x h) j) := by
          show wPass (ch.2.2.2.2 j).1 (vT x h (ch.2.2.2.2 j).2.1 (ch.2.2.2.2 j).2.2).1 (vT x h (ch.2.2.2.2 j).2.1 (ch.2.2.2.2 j).2.2).2 _ = _
          rw [hT]
        rw [e1]
        exact (hs.pass _ _ _).tr (rPass_sc hel.1 vb3 r)
      have := ih (j + 1) (by omega) L2 _ (FrL.tr hf (FrL.tr (S := lyF) hf1 hf2 rfl rfl) rfl rfl) hv2 hs2
      exact this
    refine s_339_120 ?_
    rw [e3, i2l (by omega), add64]
    refine i_lt32 (by omega) (by omega) (fun _ => i_eqz hh (fun k => ?_) (fun k => ?_)) (fun _ => by omega)
    · have hxx := (vOk_0 k).mp hx
      obtain ⟨n, hn⟩ : ∃ n : Nat, x = n := ⟨x.toNat, by omega⟩
      have ev : vT x h (ch.2.2.2.2 j).2.1 (ch.2.2.2.2 j).2.2 = tN (ch.2.2.2.2 j).2.1 (ch.2.2.2.2 j).2.2 (n - 1) := by
        unfold vT
        rw [if_pos k]
        congr 1
        omega
      rw [ev] at nx
      refine c_223 hc (by omega) h4 (kcp_v rfl (s_339_172 (c_224 hc (by omega) h4 (kcp_v rfl (s_339_179 ?_)))))
      rw [i2l r2, i2l r3, hn]
      refine c_245 (by omega) hel.2.nz (by omega) (by omega) (fun L1 hf1 k8 k9 => kcp_v rfl ?_)
      rw [← hn]
      exact nx L1 hf1 k8 k9
    · have ev : vT x h (ch.2.2.2.2 j).2.1 (ch.2.2.2.2 j).2.2 = (fU ((20 + x) * (ch.2.2.2.2 j).2.1) (20 * (ch.2.2.2.2 j).2.2), fL ((20 + x) * (ch.2.2.2.2 j).2.1) (20 * (ch.2.2.2.2 j).2.2)) := if_neg k
      have hxx := (vOk_n k).mp hx
      rw [ev] at nx
      refine c_223 hc (by omega) h4 (kcp_v rfl (s_339_146 ?_))
      rw [i2l r2, mul64]
      refine c_224 hc (by omega) h4 (kcp_v rfl (s_339_157 ?_))
      rw [i2l r3, mul64]
      refine c_246 (by omega) (by omega) (fun z => ?_) (fun L1 hf1 k8 k9 => kcp_v rfl (s_339_162 (nx L1 hf1 k8 k9)))
      refine hel.2.nz ⟨?_, by omega⟩
      rcases Int.mul_eq_zero.mp z.1 with w | w
      · omega
      · exact w
set_option maxHeartbeats 4000000 in
theorem c_339 {ch : Ch} (hok : ChOk ch) (hc : BnAt I 59 0 ch) {x h : Int} (hh : R32 h) (hx : vOk x h) (fin : ∀ L' r, FrL lyF L L' → Sc (vW ch x h) r → RwAt L' 8 (eUp r) → RwAt L' 9 (eLo r) → Q (.inl none) (gE Lx) I L' e) :
    Wp 339 0 [(0, .ref 58), (1, .int (Int32.ofInt x)), (2, .int (Int32.ofInt h))] [] (gE Lx) I L e Q := by
  obtain ⟨g1, g2, g3, -⟩ := id hc
  have b1 := hok.1; have b2 := hok.2.1; have b3 := hok.2.2.1
  have g1 : I 59 0 = Int32.ofInt ch.1 := g1
  have g2 : I 59 1 = Int32.ofInt ch.2.1 := g2
  have g3 : I 59 2 = Int32.ofInt ch.2.2.1 := g3
  have hxb : -10 ≤ x ∧ x ≤ 10 := by
    unfold vOk at hx
    split at hx <;> omega
  have m1 := mulB (x := ch.1) (y := x) (A := 99) (B := 10) (by omega) hxb
  have m2 := mulB (x := ch.2.1) (y := x) (A := 99) (B := 10) (by omega) hxb
  have m3 := mulB (x := ch.2.2.1) (y := x) (A := 99) (B := 10) (by omega) hxb
  have vb := vBeg_b hok hx
  have last : ∀ (L1 : Ml) (a b c : Int), FrL [(65, 0, 0)] L L1 → RwAt L1 0 a → RwAt L1 1 b → RwAt L1 2 c → wBeg (vCh ch x h) = (a, b, c, 0) → Wp 339 111 [(0, .ref 58), (1, .int (Int32.ofInt x)), (2, .int (Int32.ofInt h))] [] (gE Lx) I L1 e Q := by
    intro L1 a b c hf v0 v1 v2 ew
    refine s_339_111 (c_340 (d := 3) (by omega) (by omega) (fun L2 hf2 v3 => kcp_v rfl (s_339_117 ?_)))
    refine l_339 hok hc hh hx (L0 := L) fin ch.2.2.2.1 0 (by omega) L2 (a, b, c, 0) (FrL.tr hf hf2 rfl rfl) ⟨v0.fr hf2 (by omega) (by omega) (by omega), v1.fr hf2 (by omega) (by omega) (by omega), v2.fr hf2 (by omega) (by omega) (by omega), v3⟩ ?_
    show Sc (wBeg (vCh ch x h)) (a, b, c, 0)
    rw [ew]
    exact Sc.rf
  have three : ∀ (L1 L2 : Ml) (a : Int), FrL [(65, 14 * 0, 14)] L L1 → RwAt L1 0 a → True := fun _ _ _ _ _ => trivial
  refine s_339_0 ?_
  rw [g1, g2, g3, i2l (by omega), i2l (by omega), mul64]
  by_cases k : h = 0
  · subst k
    by_cases kb : 0 < ch.2.1
    · have ew : wBeg (vCh ch x 0) = (ch.1, x * ch.2.1, ch.2.2.1, 0) := by
        unfold wBeg vCh
        rw [if_neg (fun w => w.2 kb), if_pos ⟨rfl, kb⟩, if_neg (fun w => w.2 kb)]
      refine i_eqz (by omega) (fun _ => i_zlt (by omega) (fun _ => i_eqz (by omega) (fun _ => ?_) (fun w => absurd rfl w)) (fun w => by omega)) (fun w => absurd rfl w)
      refine c_340 (d := 0) (by omega) (by omega) (fun L1 f1 v0 => kcp_v rfl (s_339_63 ?_))
      rw [i2l (by omega), i2l (by omega), mul64]
      refine i_eqz (by omega) (fun w => by omega) (fun _ => ?_)
      refine c_340 (d := 1) (by omega) (by omega) (fun L2 f2 v1 => kcp_v rfl (s_339_85 ?_))
      rw [i2l (by omega), i2l (by omega), mul64]
      refine i_eqz (by omega) (fun _ => i_eqz (by omega) (fun w => by omega) (fun _ => ?_)) (fun w => absurd rfl w)
      refine c_340 (d := 2) (by omega) (by omega) (fun L3 f3 v2 => kcp_v rfl ?_)
      refine last L3 ch.1 (ch.2.1 * x) ch.2.2.1 (FrL.tr (S := [(65, 0, 0)]) (FrL.tr (S := [(65, 0, 0)]) f1 f2 rfl rfl) f3 rfl rfl) ((v0.fr f2 (by omega) (by omega) (by omega)).fr f3 (by omega) (by omega) (by omega)) (v1.fr f3 (by omega) (by omega) (by omega)) v2 ?_
      rw [ew, Int.mul_comm x]
    · have ew : wBeg (vCh ch x 0) = (x * ch.1, ch.2.1, x * ch.2.2.1, 0) := by
        unfold wBeg vCh
        rw [if_pos ⟨rfl, kb⟩, if_neg (fun w => kb w.2), if_pos ⟨rfl, kb⟩]
      refine i_eqz (by omega) (fun _ => i_zlt (by omega) (fun w => absurd w kb) (fun _ => i_eqz (by omega) (fun _ => ?_) (fun w => absurd rfl w))) (fun w => absurd rfl w)
      refine c_340 (d := 0) (by omega) (by omega) (fun L1 f1 v0 => kcp_v rfl (s_339_63 ?_))
      rw [i2l (by omega), i2l (by omega), mul64]
      refine i_eqz (by omega) (fun _ => ?_) (fun w => absurd rfl w)
      refine c_340 (d := 1) (by omega) (by omega) (fun L2 f2 v1 => kcp_v rfl (s_339_85 ?_))
      rw [i2l (by omega), i2l (by omega), mul64]
      refine i_eqz (by omega) (fun _ => i_eqz (by omega) (fun _ => ?_) (fun w => absurd rfl w)) (fun w => absurd rfl w)
      refine c_340 (d := 2) (by omega) (by omega) (fun L3 f3 v2 => kcp_v rfl ?_)
      refine last L3 (ch.1 * x) ch.2.1 (ch.2.2.1 * x) (FrL.tr (S := [(65, 0, 0)]) (FrL.tr (S := [(65, 0, 0)]) f1 f2 rfl rfl) f3 rfl rfl) ((v0.fr f2 (by omega) (by omega) (by omega)).fr f3 (by omega) (by omega) (by omega)) (v1.fr f3 (by omega) (by omega) (by omega)) v2 ?_
      rw [ew, Int.mul_comm x, Int.mul_comm x]
  · have nb : ∀ P : Prop, ¬ (h = 0 ∧ P) := fun P w => k w.1
    have ew : wBeg (vCh ch x h) = (ch.1, ch.2.1, ch.2.2.1, 0) := by
      unfold wBeg vCh
      rw [if_neg (nb _), if_neg (nb _), if_neg (nb _)]
    refine i_eqz hh (fun w => absurd w k) (fun _ => i_eqz hh (fun w => absurd w k) (fun _ => ?_))
    refine c_340 (d := 0) (by omega) (by omega) (fun L1 f1 v0 => kcp_v rfl (s_339_63 ?_))
    rw [i2l (by omega), i2l (by omega), mul64]
    refine i_eqz (by omega) (fun _ => ?_) (fun w => absurd rfl w)
    refine c_340 (d := 1) (by omega) (by omega) (fun L2 f2 v1 => kcp_v rfl (s_339_85 ?_))
    rw [i2l (by omega), i2l (by omega), mul64]
    refine i_eqz hh (fun w => absurd w k) (fun _ => ?_)
    refine c_340 (d := 2) (by omega) (by omega) (fun L3 f3 v2 => kcp_v rfl ?_)
    exact last L3 ch.1 ch.2.1 ch.2.2.1 (FrL.tr (S := [(65, 0, 0)]) (FrL.tr (S := [(65, 0, 0)]) f1 f2 rfl rfl) f3 rfl rfl) ((v0.fr f2 (by omega) (by omega) (by omega)).fr f3 (by omega) (by omega) (by omega)) (v1.fr f3 (by omega) (by omega) (by omega)) v2 ew
/-- the echo's numbers of rows are not too large -/
theorem rUL {w r : Wv} (hs : Sc w r) (hB : BW w) (hG : Good w) : (0 ≤ eUp r ∧ eUp r ≤ 2000000000000000000000000000000000000) ∧ (0 < eLo r ∧ eLo r ≤ 2000000000000000000000000000000000000) ∧ eUp r ≤ eLo r := by
  have b : BW r := hs.wb hB
  have g := hG.sc hs
  have := ebw b
  have := eLo_pos g
  have := eUL g
  omega
theorem rbU {U V m n : Int} (hU : 0 ≤ U ∧ U ≤ 2000000000000000000000000000000000000) (hV : 0 ≤ V ∧ V ≤ 2000000000000000000000000000000000000) (hm : -1000000 ≤ m ∧ m ≤ 1000000) (hn : -1000000 ≤ n ∧ n ≤ 1000000) : RB (U * m + V * n) := by
  have := mulB (x := U) (y := m) (A := 2000000000000000000000000000000000000) (B := 1000000) (by omega) hm
  have := mulB (x := V) (y := n) (A := 2000000000000000000000000000000000000) (B := 1000000) (by omega) hn
  unfold RB
  omega
theorem c_348 {ch : Ch} (hok : ChOk ch) (hc : BnAt I 59 0 ch) {l4 l5 : Int} (hl : LimRt I l4 l5) {x h : Int} (hh : R32 h) (hx : vOk x h) (h1 : wit l4 l5 (vW ch x h) → ∀ L', FrL lyF L L' → Q (.inl (some (.int (Int32.ofInt 1)))) (gE Lx) I L' e) (h0 : ¬ wit l4 l5 (vW ch x h) → ∀ L', FrL lyF L L' → Q (.inl (some (.int (Int32.ofInt 0)))) (gE Lx) I L' e) :
    Wp 348 0 [(0, .ref 58), (1, .int (Int32.ofInt x)), (2, .int (Int32.ofInt h))] [] (gE Lx) I L e Q := by
  obtain ⟨⟨i3, i4⟩, b4, b5⟩ := hl
  have a := vW_ok hok hx (Nat.le_refl _)
  refine s_348_0 (c_339 hok hc hh hx (fun L1 r hf1 hs v8 v9 => kcp_v rfl (s_348_6 ?_)))
  obtain ⟨u1, u2, u3⟩ := rUL hs a.2 a.1
  have ws := wit_sc hs (a := l4) (b := l5)
  rw [i3, i4, i2l (by omega), i2l (by omega), neg64]
  refine c_342 (d := 10) (a := 8) (b := 9) (by omega) (by omega) (by omega) v8 v9 (by omega) (by omega) (rbU u1 (by omega) (by omega) (by omega)) (fun L2 hf2 v10 => kcp_v rfl (s_349_13 (c_345 (r := 10) (by omega) v10 (kcp_v rfl (s_349_19 ?_)))))
  have hff : FrL lyF L L2 := FrL.tr hf1 hf2 rfl rfl
  have ew : wit l4 l5 r ↔ eUp r * l5 + eLo r * -l4 ≤ 0 := by
    unfold wit
    rw [Int.mul_neg]
    omega
  rcases Int.lt_trichotomy (eUp r * l5 + eLo r * -l4) 0 with q | q | q
  · rw [sg_n q]
    exact i_zlt (by omega) (fun z => by omega) (fun _ => kcp_v rfl (s_348_20 (b_1 (h1 (ws.mpr (ew.mpr (by omega))) L2 hff))))
  · rw [sg_z q]
    exact i_zlt (by omega) (fun z => by omega) (fun _ => kcp_v rfl (s_348_20 (b_1 (h1 (ws.mpr (ew.mpr (by omega))) L2 hff))))
  · rw [sg_p q]
    exact i_zlt (by omega) (fun _ => kcp_v rfl (s_348_20 (b_0 (h0 (fun w => by have := ew.mp (ws.mp w); omega) L2 hff)))) (fun z => by omega)
theorem l_337 {U V : Int} (hU : 0 ≤ U ∧ U ≤ 2000000000000000000000000000000000000) (hV : 0 < V ∧ V ≤ 2000000000000000000000000000000000000) {L0 : Ml} {T : Int} (hT : T = 10000 * U / V) (fin : ∀ L', FrL [(65, 0, 0)] L0 L' → Q (.inl (some (.int (Int32.ofInt T)))) (gE Lx) I L' e) :
    ∀ (s : Nat) (lo hi : Nat), hi - lo < s → hi ≤ 10000 → (lo : Int) ≤ T → T ≤ (hi : Int) → ∀ L : Ml, FrL [(65, 0, 0)] L0 L → RwAt L 8 U → RwAt L 9 V →
    Wp 337 39 [(0, .ref 58), (3, .int (Int32.ofInt lo)), (4, .int (Int32.ofInt hi))] [] (gE Lx) I L e Q := by
  intro s
  induction s with
  | zero => intro lo hi hs; omega
  | succ s ih =>
    intro lo hi hs hb h1 h2 L hf v8 v9
    refine s_337_39 (i_lt32 (by omega) (by omega) (fun q => ?_) (fun q => ?_))
    · have em : (Int32.ofInt (lo : Int) + Int32.ofInt (hi : Int) + Int32.ofInt 1) / Int32.ofInt 2 = Int32.ofInt (((lo + hi + 1) / 2 : Nat) : Int) := by
        rw [add32, add32]
        exact dv2 (t := lo + hi + 1) (by omega)
      rw [em]
      generalize hm : (lo + hi + 1) / 2 = mid
      have hm1 : lo < mid ∧ mid ≤ hi := by omega
      rw [neg32, i2l (by omega)]
      refine c_342 (d := 10) (a := 8) (b := 9) (by omega) (by omega) (by omega) v8 v9 (by omega) (by omega) (rbU hU (by omega) (by omega) (by omega)) (fun L2 hf2 v10 => kcp_v rfl (s_337_72 (c_345 (r := 10) (by omega) v10 (kcp_v rfl (s_337_78 ?_)))))
      have w8 := v8.fr hf2 (by omega) (by omega) (by omega)
      have w9 := v9.fr hf2 (by omega) (by omega) (by omega)
      have hff : FrL [(65, 0, 0)] L0 L2 := FrL.tr hf hf2 rfl rfl
      have et : T < (mid : Int) ↔ U * 10000 + V * -(mid : Int) < 0 := by
        rw [hT, Int.ediv_lt_iff_lt_mul hV.1, Int.mul_neg, Int.mul_comm V]
        omega
      have lower : T < (mid : Int) → Wp 337 39 [(0, .ref 58), (3, .int (Int32.ofInt lo)), (4, .int (Int32.ofInt (mid : Int) - Int32.ofInt 1))] [] (gE Lx) I L2 e Q := fun w => by
        rw [sub32]
        have := ih lo (mid - 1) (by omega) (by omega) h1 (by omega) L2 hff w8 w9
        rw [show ((mid - 1 : Nat) : Int) = (mid : Int) - 1 by omega] at this
        exact this
      rcases Int.lt_trichotomy (U * 10000 + V * -(mid : Int)) 0 with z | z | z
      · rw [sg_n z]
        exact i_ltz (by omega) (fun _ => lower (et.mpr z)) (fun w => by omega)
      · rw [sg_z z]
        exact i_ltz (by omega) (fun w => by omega) (fun _ => ih mid hi (by omega) hb (by have := et.mp; omega) h2 L2 hff w8 w9)
      · rw [sg_p z]
        exact i_ltz (by omega) (fun w => by omega) (fun _ => ih mid hi (by omega) hb (by have := et.mp; omega) h2 L2 hff w8 w9)
    · have : T = (lo : Int) := by omega
      rw [← this]
      exact fin L hf
theorem r_337 {ch : Ch} (hok : ChOk ch) (hc : BnAt I 59 0 ch) {x hm : Int} (hx : R32 x) (hhm : R32 hm) (h : RQ Lx I L e Q (spPar ch x hm).1 vI (spPar ch x hm).2) :
    Wp 337 0 [(0, .ref 58), (1, .int (Int32.ofInt x)), (2, .int (Int32.ofInt hm))] [] (gE Lx) I L e Q := by
  unfold spPar at h
  have no : ¬ vOk x hm → Q (.inl (some (.int (Int32.ofInt 0)))) (gE Lx) (ui I 58 0 (Int32.ofInt 1)) L e := fun q => by
    rw [iP_f q] at h
    exact h.mk (v := 0) (FrI.wu FrI.rf rfl) rfl (c := 1) u_at rfl (fun z => by cases z)
  have go : vOk x hm → Wp 339 0 [(0, .ref 58), (1, .int (Int32.ofInt x)), (2, .int (Int32.ofInt hm))] [] (gE Lx) (ui I 58 0 (Int32.ofInt 0)) L e (kcp (Wp 337) 337 29 0 [(0, .ref 58)] 71 [] Q) := fun v => by
    rw [iP_t v] at h
    have a := vW_ok hok v (Nat.le_refl _)
    have hc2 : BnAt (ui I 58 0 (Int32.ofInt 0)) 59 0 ch := hc.cg rfl
    refine c_339 hok hc2 hhm v (fun L1 r hf1 hs v8 v9 => kcp_v rfl (s_337_32 ?_))
    obtain ⟨u1, u2, u3⟩ := rUL hs a.2 a.1
    have tb := vok_tp hok v
    have et : tpt (ecF (vW ch x hm)) = 10000 * eUp r / eLo r := tpt_sc hs
    have := l_337 (Lx := Lx) (I := ui I 58 0 (Int32.ofInt 0)) (e := e) (Q := Q) (L0 := L1) u1 u2 et (fun L2 hf2 => h.mk (FrI.wu FrI.rf rfl) ((hf2.at rfl).trans (hf1.at rfl)) (c := 0) u_at rfl (fun _ => rfl)) 10001 0 10000 (by omega) (by omega) tb.1 tb.2 L1 FrL.rf v8 v9
    exact this
  refine s_337_0 (i_eqz hhm (fun k => ?_) (fun k => ?_))
  · have v := vOk_0 (x := x) k
    exact i_lt32 hx (by omega) (fun q => no (fun w => by have := v.mp w; omega)) (fun q1 => i_lt32 (by omega) hx (fun q => no (fun w => by have := v.mp w; omega)) (fun q2 => go (v.mpr ⟨q1, q2⟩)))
  · have v := vOk_n (x := x) k
    exact i_lt32 hx (by omega) (fun q => no (fun w => by have := v.mp w; omega)) (fun q1 => i_lt32 (by omega) hx (fun q => no (fun w => by have := v.mp w; omega)) (fun q2 => go (v.mpr ⟨q1, q2⟩)))
theorem r_347 {ch : Ch} (hok : ChOk ch) (hc : BnAt I 59 0 ch) {l4 l5 : Int} (hl : LimRt I l4 l5) {x hm : Int} (hx : R32 x) (hhm : R32 hm) (h : RQ Lx I L e Q (spWit ch l4 l5 x hm).1 vI (spWit ch l4 l5 x hm).2) :
    Wp 347 0 [(0, .ref 58), (1, .int (Int32.ofInt x)), (2, .int (Int32.ofInt hm))] [] (gE Lx) I L e Q := by
  unfold spWit at h
  have no : ¬ vOk x hm → Q (.inl (some (.int (Int32.ofInt 0)))) (gE Lx) (ui I 58 0 (Int32.ofInt 1)) L e := fun q => by
    rw [iP_f q] at h
    exact h.mk (v := 0) (FrI.wu FrI.rf rfl) rfl (c := 1) u_at rfl (fun z => by cases z)
  have go : vOk x hm → Wp 348 0 [(0, .ref 58), (1, .int (Int32.ofInt x)), (2, .int (Int32.ofInt hm))] [] (gE Lx) (ui I 58 0 (Int32.ofInt 0)) L e (kcp (Wp 347) 347 27 0 [(0, .ref 58)] 71 [] Q) := fun v => by
    rw [iP_t v] at h
    have h : RQ Lx I L e Q 0 vI (iP (wit l4 l5 (vW ch x hm)) 1 0) := h
    have hc2 : BnAt (ui I 58 0 (Int32.ofInt 0)) 59 0 ch := hc.cg rfl
    have hl2 : LimRt (ui I 58 0 (Int32.ofInt 0)) l4 l5 := hl.cg rfl rfl
    refine c_348 hok hc2 hl2 hhm v (fun q L1 hf1 => kcp_v rfl (s_347_30 (j_1 ?_))) (fun q L1 hf1 => kcp_v rfl (s_347_30 (j_0 ?_)))
    · rw [iP_t q] at h
      exact h.mk (FrI.wu FrI.rf rfl) (hf1.at rfl) (c := 0) u_at rfl (fun _ => rfl)
    · rw [iP_f q] at h
      exact h.mk (FrI.wu FrI.rf rfl) (hf1.at rfl) (c := 0) u_at rfl (fun _ => rfl)
  refine s_347_0 (i_eqz hhm (fun k => ?_) (fun k => ?_))
  · have v := vOk_0 (x := x) k
    exact i_lt32 hx (by omega) (fun q => no (fun w => by have := v.mp w; omega)) (fun q1 => i_lt32 (by omega) hx (fun q => no (fun w => by have := v.mp w; omega)) (fun q2 => go (v.mpr ⟨q1, q2⟩)))
  · have v := vOk_n (x := x) k
    exact i_lt32 hx (by omega) (fun q => no (fun w => by have := v.mp w; omega)) (fun q1 => i_lt32 (by omega) hx (fun q => no (fun w => by have := v.mp w; omega)) (fun q2 => go (v.mpr ⟨q1, q2⟩)))
theorem l_351 {ch : Ch} (hok : ChOk ch) (hc : BnAt I 59 0 ch) {l4 l5 : Int} (hl : LimRt I l4 l5) : ∀ (s : Nat) (k : Int), k + s = 11 → 0 ≤ k → ∀ L : Ml, (∀ L', FrL lyF L L' → Q (.inl (some (.int (Int32.ofInt (wdF (wdP ch l4 l5) s k))))) (gE Lx) I L' e) →
    Wp 351 2 [(0, .ref 58), (1, .int (Int32.ofInt (k - 1)))] [] (gE Lx) I L e Q := by
  intro s
  induction s with
  | zero =>
    intro k hk h0 L h
    exact s_351_2 (i_lt32 (by omega) (by omega) (fun _ => by omega) (fun _ => h L FrL.rf))
  | succ s ih =>
    intro k hk h0 L h
    have no : ¬ (wdP ch l4 l5 k ∧ wdP ch l4 l5 (-k)) → ∀ L', FrL lyF L L' → Q (.inl (some (.int (Int32.ofInt (k - 1))))) (gE Lx) I L' e := fun q L' hf => by
      have := h L' hf
      unfold wdF at this
      rw [iP_f q] at this
      exact this
    have vk : ∀ z : Int, -10 ≤ z ∧ z ≤ 10 → vOk z 1 := fun z hz => (vOk_n (by decide)).mpr hz
    refine s_351_2 ?_
    rw [add32, show k - 1 + 1 = k by omega]
    refine i_lt32 (by omega) (by omega) (fun _ => c_348 hok hc hl (by omega) (vk k (by omega)) (fun q1 L1 hf1 => kcp_v rfl (s_351_16 (j_1 ?_))) (fun q1 L1 hf1 => kcp_v rfl (s_351_16 (j_0 (no (fun w => q1 w.1) L1 hf1))))) (fun _ => by omega)
    rw [neg32, sub32, show -(k - 1) - 1 = -k by omega]
    refine c_348 hok hc hl (by omega) (vk (-k) (by omega)) (fun q2 L2 hf2 => kcp_v rfl (s_351_28 (j_1 ?_))) (fun q2 L2 hf2 => kcp_v rfl (s_351_28 (j_0 (no (fun w => q2 w.2) L2 (FrL.tr hf1 hf2 rfl rfl)))))
    rw [add32, show k - 1 + 1 = k by omega]
    have := ih (k + 1) (by omega) (by omega) L2 (fun L' hf' => by
      have := h L' (FrL.tr (FrL.tr (S := lyF) hf1 hf2 rfl rfl) hf' rfl rfl)
      unfold wdF at this
      rw [iP_t ⟨q1, q2⟩] at this
      exact this)
    rw [show k + 1 - 1 = k by omega] at this
    exact this
theorem r_350 {ch : Ch} (hok : ChOk ch) (hc : BnAt I 59 0 ch) {l4 l5 : Int} (hl : LimRt I l4 l5) (h : ∀ I' L', FrI rS I I' → L' 70 = L 70 → I' 58 0 = .ofInt 0 → Q (.inl (some (.int (Int32.ofInt (spWid ch l4 l5))))) (gE Lx) I' L' e) :
    Wp 350 0 [(0, .ref 58)] [] (gE Lx) I L e Q := by
  have hc2 : BnAt (ui I 58 0 (Int32.ofInt 0)) 59 0 ch := hc.cg rfl
  have hl2 : LimRt (ui I 58 0 (Int32.ofInt 0)) l4 l5 := hl.cg rfl rfl
  exact s_350_0 (s_351_0 (l_351 hok hc2 hl2 11 0 (by omega) (by omega) L (fun L' hf => kcp_v rfl (s_350_9 (h _ L' (FrI.wu FrI.rf rfl) (hf.at rfl) u_at)))))
end
