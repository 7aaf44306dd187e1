/-! arrange of the class; placement, arrange on the other side. -/
noncomputable def arO (ch : Ch) : Option Nat → Int × Ch
  | none => (0, ch)
  | some t => (tpt (orF ch t), chP ch t)
noncomputable def spArr (ch : Ch) : Int × Ch := arO ch (orA ch 256)
theorem spArr_ok {ch : Ch} (h : ChOk ch) : ChOk (spArr ch).2 ∧ (0 ≤ (spArr ch).1 ∧ (spArr ch).1 ≤ 10000) := by
  unfold spArr
  obtain ⟨t, ht⟩ := orA_s h.2.2.2.1
  rw [ht]
  have := (orA_I ht).2
  exact ⟨chP_ok h this, tpt_b (orF_ok h this)⟩
section
variable {Lx : Nat} {I : Mi} {L : Ml} {e : Nat} {Q : Kq}
theorem c_18 {ch : Ch} (hc9 : ChAt I 9 ch) {j k : Nat} (hj : j < 4) (hk : k < ch.2.2.2.1) (h4 : ch.2.2.2.1 ≤ 4) (h : Q (.inl none) (gE Lx) (ui (ui (ui I 6 j (Int32.ofInt (ch.2.2.2.2 k).1)) 7 j (Int32.ofInt (ch.2.2.2.2 k).2.1)) 8 j (Int32.ofInt (ch.2.2.2.2 k).2.2)) L e) :
    Wp 12 0 [(0, .ref 9), (1, .int (Int32.ofInt k))] [] (gE Lx) I L e (kcp (Wp 18) 18 15 0 [(0, .ref 5), (1, .int (Int32.ofInt j)), (2, .ref 9), (3, .int (Int32.ofInt k))] 71 [.int (Int32.ofInt j), .ref 6] Q) := by
  obtain ⟨e1, e2, e3⟩ := hc9.2.2.2.2 k hk
  refine c_12 (Or.inr rfl) (by omega) (kcp_v rfl (s_18_18 (i_inb (by omega) hj (c_14 (Or.inr rfl) (by omega) (kcp_v rfl (s_18_29 (i_inb (by omega) hj (c_15 (Or.inr rfl) (by omega) (kcp_v rfl (s_18_40 (i_inb (by omega) hj ?_)))))))))))
  rw [tncn (k := j) (by omega)]
  have q1 : I (9 + 1) k = I 10 k := rfl
  rw [show (ui (ui I 6 j (I (9 + 1) k)) 7 j (ui I 6 j (I (9 + 1) k) (9 + 2) k)) (9 + 3) k = I (9 + 3) k from rfl, show ui I 6 j (I (9 + 1) k) (9 + 2) k = I (9 + 2) k from rfl, e1, e2, e3]
  exact h
set_option maxHeartbeats 4000000 in
theorem l_93 {ch : Ch} (hok : ChOk ch) {t : Nat} (ht : isO ch.2.2.2.1 t) {I0 : Mi} (hc9 : ChAt I0 9 ch) (h29 : OrAt I0 29 t) (h50 : I0 5 0 = .ofInt ch.1 ∧ I0 5 1 = .ofInt ch.2.1 ∧ I0 5 2 = .ofInt ch.2.2.1 ∧ I0 5 3 = .ofInt (ch.2.2.2.1 : Int)) (l1 : L 21 1 = .ofInt (orF ch t).1) (l2 : L 21 2 = .ofInt (orF ch t).2)
    (fin : ∀ I', FrI [(6, 0, 4), (7, 0, 4), (8, 0, 4)] I0 I' → ChAt I' 5 (chP ch t) → Q (.inl (some (.int (Int32.ofInt (tpt (orF ch t)))))) (gE Lx) I' L e) :
    ∀ (s j : Nat), j + s = ch.2.2.2.1 → ∀ (I : Mi), FrI [(6, 0, 4), (7, 0, 4), (8, 0, 4)] I0 I → (∀ k, k < j → I 6 k = .ofInt ((chP ch t).2.2.2.2 k).1 ∧ I 7 k = .ofInt ((chP ch t).2.2.2.2 k).2.1 ∧ I 8 k = .ofInt ((chP ch t).2.2.2.2 k).2.2) →
    Wp 93 17 [(0, .ref 1), (1, .int (Int32.ofInt j))] [] (gE Lx) I L e Q := by
  have h4 := hok.2.2.2.1
  intro s
  induction s with
  | zero =>
    intro j hj I hf hk
    have : j = ch.2.2.2.1 := by omega
    subst this
    have := fin I hf ⟨(hf 5 0 rfl).trans h50.1, (hf 5 1 rfl).trans h50.2.1, (hf 5 2 rfl).trans h50.2.2.1, (hf 5 3 rfl).trans h50.2.2.2, hk⟩
    refine s_93_17 ?_
    rw [hf 5 3 rfl, h50.2.2.2]
    exact i_lt32 (by omega) (by omega) (fun _ => by omega) (fun _ => n_tt (orF_ok hok ht) l1 l2 this)
  | succ s ih =>
    intro j hj I hf hk
    have hfg := (ht.1 j (by omega)).1 (by omega)
    refine s_93_17 ?_
    rw [hf 5 3 rfl, h50.2.2.2, hf.at (k := 29) rfl, tncn (k := j) (by omega), h29 j (by omega)]
    refine i_lt32 (by omega) (by omega) (fun _ => i_lt32 (by omega) (by omega) (fun _ => i_inb (by omega) (by omega) (i_ltz (by omega) (fun _ => by omega) (fun _ => ?_))) (fun _ => by omega)) (fun _ => by omega)
    rw [if_pos (show Int32.ofInt (j : Int) < Int32.ofInt 4 by rw [lt32 (by omega) (by omega)]; omega)]
    have hc9' : ChAt I 9 ch := hc9.cg (hf.at rfl) (hf.at rfl) (hf.at rfl) (hf.at rfl)
    have i4 : ∀ x, x < 4 → inS [(6, 0, 4), (7, 0, 4), (8, 0, 4)] 6 x = true ∧ inS [(6, 0, 4), (7, 0, 4), (8, 0, 4)] 7 x = true ∧ inS [(6, 0, 4), (7, 0, 4), (8, 0, 4)] 8 x = true := by decide
    obtain ⟨i6, i7, i8⟩ := i4 j (by omega)
    refine c_18 hc9' (by omega) hfg h4 (kcp_v rfl (s_93_55 ?_))
    rw [add32]
    have := ih (j + 1) (by omega) _ (FrI.wu (FrI.wu (FrI.wu hf (x := Int32.ofInt (ch.2.2.2.2 (fg t j)).1) i6) (x := Int32.ofInt (ch.2.2.2.2 (fg t j)).2.1) i7) (x := Int32.ofInt (ch.2.2.2.2 (fg t j)).2.2) i8) (fun k hk2 => by
      by_cases q : k = j
      · subst q
        exact ⟨by rw [ui_app, if_neg (by omega), ui_app, if_neg (by omega), u_at]; rfl, by rw [ui_app, if_neg (by omega), u_at]; rfl, by rw [u_at]; rfl⟩
      · have := hk k (by omega)
        exact ⟨by rw [ui_app, if_neg (by omega), ui_app, if_neg (by omega), u_ne q]; exact this.1, by rw [ui_app, if_neg (by omega), u_ne q]; exact this.2.1, by rw [u_ne q]; exact this.2.2⟩)
    exact this
theorem cpy_at {f g : Nat → Int32} {k : Nat} (hk : k < 4) : va_cpy f g 0 0 4 k = f k := by
  unfold va_cpy
  rw [if_pos ⟨by omega, by omega⟩, Nat.zero_add, Nat.sub_zero]
set_option maxHeartbeats 4000000 in
theorem c_93 {ch : Ch} (hok : ChOk ch) (hc : ChAt I 5 ch) (h : ∀ I' L', FrI cW I I' → ChAt I' 5 (spArr ch).2 → Q (.inl (some (.int (Int32.ofInt (spArr ch).1)))) (gE Lx) I' L' e) :
    Wp 93 0 [(0, .ref 1)] [] (gE Lx) I L e Q := by
  have h4 := hok.2.2.2.1
  refine s_93_0 (c_89 hok hc (fun t I1 L1 ht hf1 hs1 ho1 => kcp_v rfl (s_93_4 ?_)))
  have hto := (orA_I ht).2
  unfold spArr at h
  rw [ht] at h
  obtain ⟨s0, s1, s2⟩ := hs1
  have hc1 : ChAt I1 5 ch := hc.cg (hf1.at rfl) (hf1.at rfl) (hf1.at rfl) (hf1.at rfl)
  obtain ⟨z0, z1, z2, z3, z4⟩ := id hc1
  have key : ∀ I2 : Mi, FrI [(9, 0, 0), (10, 0, 0), (11, 0, 0), (12, 0, 0)] I1 I2 → (I2 9 0 = I1 5 0 ∧ I2 9 1 = I1 5 1 ∧ I2 9 2 = I1 5 2 ∧ I2 9 3 = I1 5 3) → (∀ k, k < 4 → I2 10 k = I1 6 k ∧ I2 11 k = I1 7 k ∧ I2 12 k = I1 8 k) → Wp 93 17 [(0, .ref 1), (1, .int (Int32.ofInt 0))] [] (gE Lx) I2 L1 e Q := by
    intro I2 hf2 hr hk
    have hc9 : ChAt I2 9 ch := ⟨hr.1.trans z0, hr.2.1.trans z1, hr.2.2.1.trans z2, hr.2.2.2.trans z3, fun k h2 => ⟨(hk k (by omega)).1.trans (z4 k h2).1, (hk k (by omega)).2.1.trans (z4 k h2).2.1, (hk k (by omega)).2.2.trans (z4 k h2).2.2⟩⟩
    exact l_93 (Lx := Lx) (e := e) (Q := Q) hok hto hc9 (ho1.cg (hf2.at rfl)) ⟨(hf2 5 0 rfl).trans z0, (hf2 5 1 rfl).trans z1, (hf2 5 2 rfl).trans z2, (hf2 5 3 rfl).trans z3⟩ s1 s2 (fun I3 hf3 hc3 => h I3 L1 (FrI.tr (hf1.up (S := cW) rfl) (FrI.tr (S := cW) hf2 hf3 rfl rfl) rfl rfl) hc3) ch.2.2.2.1 0 (by omega) I2 FrI.rf (fun k hk => by omega)
  refine key _ (FrI.wr (FrI.wr (FrI.wr (FrI.wu (FrI.wu (FrI.wu (FrI.wu FrI.rf rfl) rfl) rfl) rfl) (fun _ => rfl)) (fun _ => rfl)) (fun _ => rfl)) ⟨rfl, rfl, rfl, rfl⟩ (fun k hk => ⟨?_, ?_, ?_⟩)
  · rw [ri_ne (by decide), ri_ne (by decide), ri_at, cpy_at hk]; rfl
  · rw [ri_ne (by decide), ri_at, cpy_at hk]; rfl
  · rw [ri_at, cpy_at hk]; rfl
theorem l_330 {n t : Nat} (hn : n ≤ 4) (ht : t < 256) (e3 : I 59 3 = Int32.ofInt (n : Int)) (h1 : isO n t → Q (.inl (some (.int (Int32.ofInt 1)))) (gE Lx) I L e) (h0 : ¬ isO n t → Q (.inl (some (.int (Int32.ofInt 0)))) (gE Lx) I L e) :
    ∀ (s j : Nat), j + s = 4 → (∀ k, k < j → (k < n → fg t k < n) ∧ (n ≤ k → fg t k = k)) → Wp 330 4 [(0, .ref 58), (1, .int (Int32.ofInt t)), (2, .int (sbs t j)), (3, .int (Int32.ofInt j))] [] (gE Lx) I L e Q := by
  intro s
  induction s with
  | zero =>
    intro j hj hk
    have : j = 4 := by omega
    subst this
    refine s_330_4 (i_lt32 (by omega) (by omega) (fun _ => by omega) (fun _ => ?_))
    split
    · exact h1 ⟨hk, by assumption⟩
    · exact h0 (fun q => absurd q.2 (by assumption))
  | succ s ih =>
    intro j hj hk
    have b := fg_b t j
    have nx : (j < n → fg t j < n) ∧ (n ≤ j → fg t j = j) → Wp 330 4 [(0, .ref 58), (1, .int (Int32.ofInt t)), (2, .int (sbs t j ||| (Int32.ofInt 1 <<< (Int32.ofInt (fg t j : Int) &&& 31)))), (3, .int (Int32.ofInt (j : Int) + Int32.ofInt 1))] [] (gE Lx) I L e Q := fun q => by
      rw [add32]
      have := ih (j + 1) (by omega) (fun k hk2 => by
        by_cases w : k = j
        · rw [w]; exact q
        · exact hk k (by omega))
      exact this
    have no : ¬ ((j < n → fg t j < n) ∧ (n ≤ j → fg t j = j)) → ¬ isO n t := fun q w => q (w.1 j (by omega))
    refine s_330_4 ?_
    rw [fg_f t ht j (by omega), e3]
    refine i_lt32 (by omega) (by omega) (fun _ => i_lt32 (by omega) (by omega) (fun q1 => i_lt32 (by omega) (by omega) (fun q2 => i_lt32 (by omega) (by omega) (fun _ => nx ⟨by omega, by omega⟩) (fun _ => by omega)) (fun q2 => h0 (no (by omega)))) (fun q1 => i_lt32 (by omega) (by omega) (fun q2 => h0 (no (by omega))) (fun q2 => i_lt32 (by omega) (by omega) (fun _ => by omega) (fun _ => i_eq32 (by omega) (by omega) (fun q3 => nx ⟨by omega, by omega⟩) (fun q3 => h0 (no (by omega))))))) (fun _ => by omega)
def pfF : Fr := [(58, 8, 6), (58, 25, 2)]
set_option maxHeartbeats 4000000 in
/-- one order -/
theorem l_329b {ch : Ch} (hok : ChOk ch) (hc : BnAt I 59 0 ch) {t : Nat} (ht2 : t < 256) (ht : isO ch.2.2.2.1 t) {L0 : Ml} (hle : LeAt I L0 (orF ch) (orA ch t))
    (nx : ∀ I' L', FrI [(58, 27, 4)] I I' → FrL pfF L0 L' → LeAt I' L' (orF ch) (orA ch (t + 1)) → (∀ u, orA ch (t + 1) = some u → I' 58 27 = .ofInt (u : Int)) → Wp 329 106 [(0, .ref 58), (1, .int (Int32.ofInt t))] [] (gE Lx) I' L' e Q) (h27 : ∀ u, orA ch t = some u → I 58 27 = .ofInt (u : Int)) :
    ∀ (s j : Nat), j + s = ch.2.2.2.1 → ∀ (L : Ml) (r : Wv), FrL pfF L0 L → L 58 25 = L0 58 25 → L 58 26 = L0 58 26 → RvAt L r → Sc (wSeen (chP ch t) j) r →
    Wp 329 52 [(0, .ref 58), (1, .int (Int32.ofInt t)), (2, .int (Int32.ofInt j))] [] (gE Lx) I L e Q := by
  have h4 := hok.2.2.2.1
  have hok2 := chP_ok hok ht
  have e3 : I 59 3 = Int32.ofInt (ch.2.2.2.1 : Int) := hc.2.2.2.1
  have up := orA_n (ch := ch) (t := t)
  intro s
  induction s with
  | zero =>
    intro j hj L r hf l25 l26 hr hs
    have : j = ch.2.2.2.1 := by omega
    subst this
    have hG := wSeen_g hok2 ch.2.2.2.1 (Nat.le_refl _)
    refine s_329_52 ?_
    rw [e3]
    refine i_lt32 (by omega) (by omega) (fun _ => by omega) (fun _ => ?_)
    refine c_315 (f := orF ch) (k := t) (c := orA ch t) hr hs (hs.wb (wSeen_B hok2 (Nat.le_refl _))) hG rfl (orF_ok hok ht) (fun j hj => orF_ok hok (orA_I hj).2) (hle.cg rfl l25 l26) (fun hb I4 L4 hf4 hl4 hs4 a1 a2 a3 => kcp_v rfl ?_) (fun hb L4 hl4 hs4 => kcp_v rfl ?_)
    · rw [stp_t ht hb] at up
      exact nx I4 L4 hf4 (FrL.tr hf hl4 rfl rfl) (by rw [up]; exact hs4) (fun u hu => by rw [up] at hu; cases hu; exact a1)
    · rw [stp_f hb] at up
      exact nx I L4 FrI.rf (FrL.tr hf hl4 rfl rfl) (by rw [up]; exact hs4) (fun u hu => by rw [up] at hu; exact h27 u hu)
  | succ s ih =>
    intro j hj L r hf l25 l26 hr hs
    have hfg := (ht.1 j (by omega)).1 (by omega)
    have hel := hok.2.2.2.2 (fg t j) hfg
    obtain ⟨r1, r2, r3⟩ := el_r hel
    have hG := wSeen_g hok2 j (by show j ≤ ch.2.2.2.1; omega)
    refine s_329_52 ?_
    rw [e3, fg_f t ht2 j (by omega)]
    refine i_lt32 (by omega) (by omega) (fun _ => ?_) (fun _ => by omega)
    refine c_220 hc hfg h4 (kcp_v rfl (s_329_70 ?_))
    rw [fg_f t ht2 j (by omega)]
    refine c_223 hc hfg h4 (kcp_v rfl (s_329_79 ?_))
    rw [fg_f t ht2 j (by omega)]
    refine c_224 hc hfg h4 (kcp_v rfl (s_329_89 ?_))
    rw [i2l r2, i2l r3]
    refine c_229w hr hs (wSeen_B hok2 (by show j ≤ ch.2.2.2.1; omega)) hG hel.1 hel.2 (fun L2 q2 hf2 hv2 hs2 => kcp_v rfl (s_329_93 ?_))
    rw [add32]
    have := ih (j + 1) (by omega) L2 q2 (FrL.tr hf hf2 rfl rfl) ((hf2 58 25 rfl).trans l25) ((hf2 58 26 rfl).trans l26) hv2 hs2
    exact this
set_option maxHeartbeats 4000000 in
theorem l_329 {I0 : Mi} {L0 : Ml} {ch : Ch} (hok : ChOk ch) (hc0 : BnAt I0 59 0 ch) (fin : ∀ t I' L', orA ch 256 = some t → FrI [(58, 27, 4)] I0 I' → L' 70 = L0 70 → LeAt I' L' (orF ch) (some t) → Q (.inl (some (.int (Int32.ofInt (t : Int))))) (gE Lx) I' L' e) :
    ∀ (s t : Nat), t + s = 256 → ∀ (I : Mi) (L : Ml), FrI [(58, 27, 4)] I0 I → L 70 = L0 70 → LeAt I L (orF ch) (orA ch t) → (∀ u, orA ch t = some u → I 58 27 = .ofInt (u : Int)) →
    Wp 329 6 [(0, .ref 58), (1, .int (Int32.ofInt t))] [] (gE Lx) I L e Q := by
  have h4 := hok.2.2.2.1
  have b1 := hok.1; have b2 := hok.2.1; have b3 := hok.2.2.1
  intro s
  induction s with
  | zero =>
    intro t hts I L hf hl hle h27
    have : t = 256 := by omega
    subst this
    obtain ⟨u, hu⟩ := orA_s h4
    have hm := h27 u hu
    rw [hu] at hle
    refine s_329_6 (i_lt32 (by omega) (by omega) (fun _ => by omega) (fun _ => ?_))
    rw [hm]
    exact fin u I L hu hf hl hle
  | succ s ih =>
    intro t hts I L hf hl hle h27
    have hc : BnAt I 59 0 ch := hc0.cg (hf.at rfl)
    have e3 : I 59 3 = Int32.ofInt (ch.2.2.2.1 : Int) := hc.2.2.2.1
    have up := orA_n (ch := ch) (t := t)
    refine s_329_6 (i_lt32 (by omega) (by omega) (fun _ => ?_) (fun _ => by omega))
    refine s_330_0 (l_330 (n := ch.2.2.2.1) h4 (by omega) e3 (fun q => kcp_v rfl (s_329_18 (j_1 ?_))) (fun q => kcp_v rfl (s_329_18 (j_0 (s_329_106 ?_)))) 4 0 (by omega) (fun k hk => by omega))
    · obtain ⟨g1, g2, g3, -⟩ := id hc
      have g1 : I 59 0 = Int32.ofInt ch.1 := g1
      have g2 : I 59 1 = Int32.ofInt ch.2.1 := g2
      have g3 : I 59 2 = Int32.ofInt ch.2.2.1 := g3
      rw [g1, g2, g3, i2l (by omega), i2l (by omega), i2l (by omega)]
      have hz : ¬ ((wBeg ch).1 = 0 ∧ (wBeg ch).2.1 = 0 ∧ (wBeg ch).2.2.1 = 0 ∧ (wBeg ch).2.2.2 = 0) := (wSeen_g hok 0 (by omega)).2
      have hb : WB 99 (wBeg ch) := by unfold WB wBeg; dsimp only; omega
      refine c_228 (x := wBeg ch) (hb.le (by decide)) hz (fun L1 hf1 hr1 => kcp_v rfl (s_329_50 ?_))
      have := l_329b (Lx := Lx) (e := e) (Q := Q) hok hc (by omega) q hle (fun I2 L2 hf2 hl2 hle2 a2 => s_329_106 (by
        rw [add32]
        have := ih (t + 1) (by omega) I2 L2 (FrI.tr hf hf2 rfl rfl) ((hl2.at rfl).trans hl) hle2 a2
        exact this)) h27 ch.2.2.2.1 0 (by omega) L1 (nW (wBeg ch)) (hf1.up rfl) (hf1 58 25 rfl) (hf1 58 26 rfl) hr1 (nW_sc hz)
      exact this
    · rw [stp_n q] at up
      rw [add32]
      have := ih (t + 1) (by omega) I L hf hl (by rw [up]; exact hle) (fun u hu => h27 u (by rw [up] at hu; exact hu))
      exact this
theorem r_329 {ch : Ch} (hok : ChOk ch) (hc : BnAt I 59 0 ch) (fin : ∀ t I' L', orA ch 256 = some t → FrI [(58, 27, 4)] I I' → L' 70 = L 70 → LeAt I' L' (orF ch) (some t) → Q (.inl (some (.int (Int32.ofInt (t : Int))))) (gE Lx) I' L' e) :
    Wp 329 0 [(0, .ref 58)] [] (gE Lx) I L e Q :=
  s_329_0 (l_329 (I0 := ui I 58 30 (Int32.ofInt 0)) (L0 := L) hok (hc.cg rfl) (fun t I2 L2 ht hf hl hle => fin t I2 L2 ht (FrI.tr (A := [(58, 27, 4)]) (FrI.wu FrI.rf rfl) hf rfl rfl) hl hle) 256 0 (by omega) _ L FrI.rf rfl u_at (fun u hu => by cases hu))
theorem r_328 {ch : Ch} (hok : ChOk ch) (hc : BnAt I 59 0 ch) {k : Int} (hk : R32 k) (h : ∀ I' L', FrI rS I I' → L' 70 = L 70 → I' 58 0 = .ofInt 0 → Q (.inl (some (.int (Int32.ofInt (spPla ch k))))) (gE Lx) I' L' e) :
    Wp 328 0 [(0, .ref 58), (1, .int (Int32.ofInt k))] [] (gE Lx) I L e Q := by
  have h4 := hok.2.2.2.1
  have e3 : I 59 3 = Int32.ofInt (ch.2.2.2.1 : Int) := hc.2.2.2.1
  refine s_328_0 ?_
  rw [e3, sub32]
  have no : k < 0 ∨ (ch.2.2.2.1 : Int) ≤ k → Q (.inl (some (.int (Int32.ofInt (-1))))) (gE Lx) (ui I 58 0 (Int32.ofInt 0)) L e := fun q => by
    have := h (ui I 58 0 (Int32.ofInt 0)) L (FrI.wu FrI.rf rfl) rfl u_at
    unfold spPla at this
    rw [if_pos q] at this
    exact this
  refine i_lt32 hk (by omega) (fun q => no (by omega)) (fun a1 => i_lt32 (by omega) hk (fun q => no (by omega)) (fun a2 => ?_))
  obtain ⟨n, rfl⟩ : ∃ n : Nat, k = n := ⟨k.toNat, by omega⟩
  refine r_329 hok (hc.cg rfl) (fun t I1 L1 ht hf1 hl1 hs1 => kcp_v rfl (s_328_17 ?_))
  have := h I1 L1 (FrI.tr (A := rS) (FrI.wu FrI.rf rfl) hf1 rfl rfl) hl1 ((hf1 58 0 rfl).trans u_at)
  unfold spPla at this
  rw [if_neg (by omega), ht] at this
  rw [fg_f t (orA_I ht).1 n (by omega)]
  exact this
theorem l_332a {x : Int32} : ∀ (s j : Nat), j + s = 16 → ∀ (I : Mi), (∀ I', FrI [(64, 0, 0)] I I' → (∀ k, j ≤ k → k < 16 → I' 64 k = I 59 k) → (∀ k, k < j → I' 64 k = I 64 k) → Wp 332 38 [(0, .ref 58), (1, .int x), (2, .int (Int32.ofInt 0))] [] (gE Lx) I' L e Q) →
    Wp 332 12 [(0, .ref 58), (1, .int x), (2, .int (Int32.ofInt j))] [] (gE Lx) I L e Q := by
  intro s
  induction s with
  | zero =>
    intro j hj I h
    exact s_332_12 (i_lt32 (by omega) (by omega) (fun _ => by omega) (fun _ => h I FrI.rf (fun k h1 h2 => by omega) (fun k hk => rfl)))
  | succ s ih =>
    intro j hj I h
    refine s_332_12 ?_
    rw [tncn (k := j) (by omega), add32]
    refine i_lt32 (by omega) (by omega) (fun _ => i_inb (by omega) (by omega) (i_inb (by omega) (by omega) ?_)) (fun _ => by omega)
    have := ih (j + 1) (by omega) (ui I 64 j (I 59 j)) (fun I' hf a b => h I' (FrI.tr (A := [(64, 0, 0)]) (FrI.wu FrI.rf rfl) hf rfl rfl) (fun k h1 h2 => by
      by_cases q : k = j
      · rw [b k (by omega), q, u_at]
      · rw [a k (by omega) h2]; rfl) (fun k hk => by rw [b k (by omega), u_ne (by omega)]))
    exact this
set_option maxHeartbeats 4000000 in
theorem l_332 {ch : Ch} (hok : ChOk ch) {t : Nat} (ht2 : t < 256) (ht : isO ch.2.2.2.1 t) {I0 : Mi} (hc64 : BnAt I0 64 0 ch) (h59 : I0 59 0 = .ofInt ch.1 ∧ I0 59 1 = .ofInt ch.2.1 ∧ I0 59 2 = .ofInt ch.2.2.1 ∧ I0 59 3 = .ofInt (ch.2.2.2.1 : Int)) (hle : LeAt I0 L (orF ch) (some t))
    (fin : ∀ I', FrI [(59, 0, 0)] I0 I' → BnAt I' 59 0 (chP ch t) → Q (.inl (some (.int (Int32.ofInt (tpt (orF ch t)))))) (gE Lx) I' L e) :
    ∀ (s j : Nat), j + s = ch.2.2.2.1 → ∀ (I : Mi), FrI [(59, 4, 12)] I0 I → (∀ k, k < j → I 59 (4 + 3 * k) = .ofInt ((chP ch t).2.2.2.2 k).1 ∧ I 59 (5 + 3 * k) = .ofInt ((chP ch t).2.2.2.2 k).2.1 ∧ I 59 (6 + 3 * k) = .ofInt ((chP ch t).2.2.2.2 k).2.2) →
    Wp 332 38 [(0, .ref 58), (1, .int (Int32.ofInt t)), (2, .int (Int32.ofInt j))] [] (gE Lx) I L e Q := by
  have h4 := hok.2.2.2.1
  have bn : ∀ (o k : Nat), (Int32.ofInt (o : Int) + Int32.ofInt 3 * Int32.ofInt (k : Int)) = Int32.ofInt ((o + 3 * k : Nat) : Int) := fun o k => by rw [mul32, add32]; congr 1
  intro s
  induction s with
  | zero =>
    intro j hj I hf hk
    have : j = ch.2.2.2.1 := by omega
    subst this
    have hcP : BnAt I 59 0 (chP ch t) := ⟨(hf 59 0 rfl).trans h59.1, (hf 59 1 rfl).trans h59.2.1, (hf 59 2 rfl).trans h59.2.2.1, (hf 59 3 rfl).trans h59.2.2.2, fun k hk2 => by
      have := hk k hk2
      rw [Nat.zero_add, Nat.zero_add, Nat.zero_add]
      exact this⟩
    have := fin I (hf.up rfl) hcP
    obtain ⟨s0, s1, s2⟩ := hle
    have ho := orF_ok hok ht
    obtain ⟨o1, o2, o3⟩ := id ho
    have cj := fr_b (n := (orF ch t).1) (d := (orF ch t).2) o1.1 o2.1
    have hul : fU (orF ch t).1 (orF ch t).2 ≤ fL (orF ch t).1 (orF ch t).2 := by
      obtain ⟨g, hg, e1, e2⟩ := red o1.1 (show 0 ≤ (orF ch t).2 by omega) (by omega)
      exact Int.le_of_mul_le_mul_left (by rw [← e1, ← e2]; exact o3) hg
    refine s_332_38 ?_
    rw [hf 59 3 rfl, h59.2.2.2, s1, s2]
    refine i_lt32 (by omega) (by omega) (fun _ => by omega) (fun _ => c_320 (by omega) (by omega) hul (kcp_v rfl (s_319_11 (kcp_v rfl (s_332_104 ?_)))))
    rw [tpt_red ho]
    exact this
  | succ s ih =>
    intro j hj I hf hk
    have hfg := (ht.1 j (by omega)).1 (by omega)
    obtain ⟨q1, q2, q3⟩ := hc64.2.2.2.2 _ hfg
    rw [Nat.zero_add] at q1 q2 q3
    have h64 : I 64 = I0 64 := hf.at rfl
    have b1 := bn 4; have b2 := bn 5; have b3 := bn 6
    have b1 : ∀ k : Nat, Int32.ofInt 4 + Int32.ofInt 3 * Int32.ofInt (k : Int) = Int32.ofInt ((4 + 3 * k : Nat) : Int) := b1
    have b2 : ∀ k : Nat, Int32.ofInt 5 + Int32.ofInt 3 * Int32.ofInt (k : Int) = Int32.ofInt ((5 + 3 * k : Nat) : Int) := b2
    have b3 : ∀ k : Nat, Int32.ofInt 6 + Int32.ofInt 3 * Int32.ofInt (k : Int) = Int32.ofInt ((6 + 3 * k : Nat) : Int) := b3
    refine s_332_38 ?_
    rw [hf 59 3 rfl, h59.2.2.2, fg_f t ht2 j (by omega), b1, b2, b3, b1, b2, b3, h64, tncn (k := 4 + 3 * fg t j) (by omega), tncn (k := 5 + 3 * fg t j) (by omega), tncn (k := 6 + 3 * fg t j) (by omega), tncn (k := 4 + 3 * j) (by omega), tncn (k := 5 + 3 * j) (by omega), tncn (k := 6 + 3 * j) (by omega), q1, q2, q3]
    refine i_lt32 (by omega) (by omega) (fun _ => i_inb (by omega) (by omega) (i_inb (by omega) (by omega) (i_inb (by omega) (by omega) (i_inb (by omega) (by omega) (i_inb (by omega) (by omega) (i_inb (by omega) (by omega) ?_)))))) (fun _ => by omega)
    rw [add32]
    have i4 : ∀ x, 4 ≤ x → x < 16 → inS [(59, 4, 12)] 59 x = true := fun x h1 h2 => by
      have : ∀ x, x < 16 → decide (4 ≤ x) = true → inS [(59, 4, 12)] 59 x = true := by decide
      exact this x h2 (decide_eq_true h1)
    have := ih (j + 1) (by omega) _ (FrI.wu (FrI.wu (FrI.wu hf (x := Int32.ofInt (ch.2.2.2.2 (fg t j)).1) (i4 (4 + 3 * j) (by omega) (by omega))) (x := Int32.ofInt (ch.2.2.2.2 (fg t j)).2.1) (i4 (5 + 3 * j) (by omega) (by omega))) (x := Int32.ofInt (ch.2.2.2.2 (fg t j)).2.2) (i4 (6 + 3 * j) (by omega) (by omega))) (fun k hk2 => by
      by_cases q : k = j
      · subst q
        exact ⟨by rw [u_ne (by omega), u_ne (by omega), u_at]; rfl, by rw [u_ne (by omega), u_at]; rfl, by rw [u_at]; rfl⟩
      · have := hk k (by omega)
        exact ⟨by rw [u_ne (by omega), u_ne (by omega), u_ne (by omega)]; exact this.1, by rw [u_ne (by omega), u_ne (by omega), u_ne (by omega)]; exact this.2.1, by rw [u_ne (by omega), u_ne (by omega), u_ne (by omega)]; exact this.2.2⟩)
    exact this
theorem r_332 {ch : Ch} (hok : ChOk ch) (hc : BnAt I 59 0 ch) (h : ∀ I' L', FrI rW I I' → BnAt I' 59 0 (spArr ch).2 → L' 70 = L 70 → I' 58 0 = .ofInt 0 → Q (.inl (some (.int (Int32.ofInt (spArr ch).1)))) (gE Lx) I' L' e) :
    Wp 332 0 [(0, .ref 58)] [] (gE Lx) I L e Q := by
  have h4 := hok.2.2.2.1
  refine s_332_0 (r_329 hok (hc.cg rfl) (fun t I1 L1 ht hf1 hl1 hs1 => kcp_v rfl (s_332_9 (l_332a 16 0 (by omega) I1 (fun I2 hf2 a2 _ => ?_)))))
  unfold spArr at h
  rw [ht] at h
  have hto := orA_I ht
  have hc1 : BnAt I1 59 0 ch := hc.cg (hf1.at rfl)
  obtain ⟨z0, z1, z2, z3, z4⟩ := id hc1
  have hc64 : BnAt I2 64 0 ch := ⟨(a2 0 (by omega) (by omega)).trans z0, (a2 1 (by omega) (by omega)).trans z1, (a2 2 (by omega) (by omega)).trans z2, (a2 3 (by omega) (by omega)).trans z3, fun k hk => ⟨(a2 _ (by omega) (by omega)).trans (z4 k hk).1, (a2 _ (by omega) (by omega)).trans (z4 k hk).2.1, (a2 _ (by omega) (by omega)).trans (z4 k hk).2.2⟩⟩
  have h59 : I2 59 = I1 59 := hf2.at rfl
  have := l_332 (Lx := Lx) (L := L1) (e := e) (Q := Q) hok hto.1 hto.2 hc64 (by rw [h59]; exact ⟨z0, z1, z2, z3⟩) (hs1.cg (hf2 58 30 rfl) rfl rfl) (fun I3 hf3 hc3 => h I3 L1 (FrI.tr (A := rS) (B := rW) (FrI.tr (A := rS) (FrI.wu FrI.rf rfl) hf1 rfl rfl) (FrI.tr hf2 hf3 rfl rfl) rfl rfl) hc3 hl1 ((hf3 58 0 rfl).trans ((hf2 58 0 rfl).trans ((hf1 58 0 rfl).trans u_at)))) ch.2.2.2.1 0 (by omega) I2 FrI.rf (fun k hk => by omega)
  exact this
end
