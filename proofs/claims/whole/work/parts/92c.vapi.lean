/-! Beside and at harmonics: the class's looks; parts, isWithin, wide. -/
noncomputable def spPar (ch : Ch) (x h : Int) : Nat × Int := iP (vOk x h) (0, tpt (ecF (vW ch x h))) (1, 0)
noncomputable def spWit (ch : Ch) (l4 l5 x h : Int) : Nat × Int := iP (vOk x h) (0, iP (wit l4 l5 (vW ch x h)) 1 0) (1, 0)
noncomputable def wdF (P : Int → Prop) : Nat → Int → Int
  | 0, k => k - 1
  | s + 1, k => iP (P k ∧ P (-k)) (wdF P s (k + 1)) (k - 1)
def wdP (ch : Ch) (l4 l5 : Int) (k : Int) : Prop := wit l4 l5 (vW ch k 1)
noncomputable def spWid (ch : Ch) (l4 l5 : Int) : Int := wdF (wdP ch l4 l5) 11 0
theorem wdF_b {P : Int → Prop} : ∀ (s : Nat) (k : Int), k - 1 ≤ wdF P s k ∧ wdF P s k ≤ k + s - 1 := by
  intro s
  induction s with
  | zero => intro k; show k - 1 ≤ k - 1 ∧ k - 1 ≤ k + 0 - 1; omega
  | succ s ih =>
    intro k
    have := ih (k + 1)
    show k - 1 ≤ iP (P k ∧ P (-k)) (wdF P s (k + 1)) (k - 1) ∧ iP (P k ∧ P (-k)) (wdF P s (k + 1)) (k - 1) ≤ k + ((s + 1 : Nat) : Int) - 1
    rcases Classical.em (P k ∧ P (-k)) with q | q
    · rw [iP_t q]; omega
    · rw [iP_f q]; omega
theorem vOk_n {x h : Int} (hh : h ≠ 0) : vOk x h ↔ -10 ≤ x ∧ x ≤ 10 := by unfold vOk; rw [if_neg hh]
theorem vOk_0 {x h : Int} (hh : h = 0) : vOk x h ↔ 1 ≤ x ∧ x ≤ 3 := by unfold vOk; rw [if_pos hh]
theorem vok_tp {ch : Ch} (hok : ChOk ch) {x h : Int} (hx : vOk x h) : 0 ≤ tpt (ecF (vW ch x h)) ∧ tpt (ecF (vW ch x h)) ≤ 10000 := by
  have a := (vW_ok hok hx (Nat.le_refl _)).1
  have e3 := eLo_pos a
  have e4 := eUL a
  have e5 := eUp_nn (vW ch x h)
  have e3 : 0 < eLo (vW ch x h) := e3
  have e4 : eUp (vW ch x h) ≤ eLo (vW ch x h) := e4
  unfold tpt
  show 0 ≤ 10000 * eUp (vW ch x h) / eLo (vW ch x h) ∧ 10000 * eUp (vW ch x h) / eLo (vW ch x h) ≤ 10000
  refine ⟨Int.ediv_nonneg (by omega) (by omega), ?_⟩
  have : 10000 * eUp (vW ch x h) / eLo (vW ch x h) < 10001 := by
    refine Int.ediv_lt_of_lt_mul e3 ?_
    omega
  omega
def vkF : Fr := [(14, 0, 4), (18, 0, 2)]
section
variable {Lx : Nat} {I : Mi} {L : Ml} {e : Nat} {Q : Kq}
theorem l_97 {ch : Ch} (hok : ChOk ch) (hc : ChAt I 5 ch) {x h : Int} (hh : h ≠ 0) (hx : vOk x h) {L0 : Ml} (fin : ∀ L', FrL vkF L0 L' → WvAt L' 14 (vW ch x h) → Q (.inl none) (gE Lx) I L' e) :
    ∀ (s j : Nat), j + s = ch.2.2.2.1 → ∀ L : Ml, FrL vkF L0 L → WvAt L 14 (wSeen (vCh ch x h) j) →
    Wp 97 24 [(0, .ref 1), (1, .ref 5), (2, .int (Int32.ofInt x)), (3, .int (Int32.ofInt j))] [] (gE Lx) I L e Q := by
  have h4 := hok.2.2.2.1
  have hxx := (vOk_n hh).mp hx
  intro s
  induction s with
  | zero =>
    intro j hj L hf hW
    have : j = ch.2.2.2.1 := by omega
    subst this
    refine s_97_24 ?_
    rw [hc.2.2.2.1]
    exact i_lt32 (by omega) (by omega) (fun _ => by omega) (fun _ => fin L hf hW)
  | succ s ih =>
    intro j hj L hf hW
    have hel := hok.2.2.2.2 j (by omega)
    obtain ⟨r1, r2, r3⟩ := el_r hel
    obtain ⟨e1, e2, e4⟩ := hc.2.2.2.2 j (by omega)
    have tb := hel.2.b
    have e5 : vT x h (ch.2.2.2.2 j).2.1 (ch.2.2.2.2 j).2.2 = (fU ((20 + x) * (ch.2.2.2.2 j).2.1) (20 * (ch.2.2.2.2 j).2.2), fL ((20 + x) * (ch.2.2.2.2 j).2.1) (20 * (ch.2.2.2.2 j).2.2)) := if_neg hh
    have hB := (vW_ok hok hx (show j ≤ ch.2.2.2.1 by omega)).2
    have m1 := mulB (x := 20 + x) (y := (ch.2.2.2.2 j).2.1) (A := 30) (B := 12) (by omega) (by omega)
    refine s_97_24 ?_
    rw [hc.2.2.2.1, i2l (by omega), add64]
    refine i_lt32 (by omega) (by omega) (fun _ => c_14 (Or.inl rfl) (by omega) (kcp_v rfl (s_97_47 ?_))) (fun _ => by omega)
    rw [e2, i2l r2, mul64]
    refine c_15 (Or.inl rfl) (by omega) (kcp_v rfl (s_97_57 ?_))
    rw [e4, i2l r3, mul64]
    refine c_25 (Or.inl rfl) (by omega) (by omega) (fun L1 hf1 hv1 => kcp_v rfl (s_97_62 (c_12 (Or.inl rfl) (by omega) (kcp_v rfl (s_97_71 ?_)))))
    rw [e1, hv1.1, hv1.2]
    refine c_75 (Or.inl rfl) (hW.cg (hf1.at rfl)) (WB.le hB (by decide)) r1 (fun L2 hf2 hW2 => kcp_v rfl (s_97_88 ?_))
    rw [add32]
    have := ih (j + 1) (by omega) L2 (FrL.tr hf (FrL.tr (S := vkF) hf1 hf2 rfl rfl) rfl rfl) (by
      show WvAt L2 14 (wPass (ch.2.2.2.2 j).1 (vT x h (ch.2.2.2.2 j).2.1 (ch.2.2.2.2 j).2.2).1 (vT x h (ch.2.2.2.2 j).2.1 (ch.2.2.2.2 j).2.2).2 (wSeen (vCh ch x h) j))
      rw [e5]
      exact hW2)
    exact this
theorem c_97 {ch : Ch} (hok : ChOk ch) (hc : ChAt I 5 ch) {x h : Int} (hh : h ≠ 0) (hx : vOk x h) (fin : ∀ L', FrL vkF L L' → WvAt L' 14 (vW ch x h) → Q (.inl none) (gE Lx) I L' e) :
    Wp 97 0 [(0, .ref 1), (1, .ref 5), (2, .int (Int32.ofInt x))] [] (gE Lx) I L e Q := by
  obtain ⟨h1, h2, h3, -⟩ := id hc
  have b1 := hok.1; have b2 := hok.2.1; have b3 := hok.2.2.1
  refine s_97_0 ?_
  rw [h1, h2, h3, i2l (by omega), i2l (by omega), i2l (by omega)]
  have nb : ∀ P : Prop, ¬ (h = 0 ∧ P) := fun P w => hh w.1
  refine l_97 hok hc hh hx (L0 := L) fin ch.2.2.2.1 0 (by omega) _ (FrL.wu (FrL.wu (FrL.wu (FrL.wu FrL.rf rfl) rfl) rfl) rfl) ?_
  show WvAt _ 14 (wBeg (vCh ch x h))
  unfold wBeg vCh
  rw [if_neg (nb _), if_neg (nb _), if_neg (nb _)]
  exact ⟨rfl, rfl, rfl, rfl⟩
theorem l_108 {ch : Ch} (hok : ChOk ch) (hc : ChAt I 5 ch) {n : Nat} {h : Int} (hh : h = 0) (hx : vOk (n : Int) h) {L0 : Ml} (fin : ∀ L', FrL vkF L0 L' → WvAt L' 14 (vW ch n h) → Q (.inl none) (gE Lx) I L' e) :
    ∀ (s j : Nat), j + s = ch.2.2.2.1 → ∀ L : Ml, FrL vkF L0 L → WvAt L 14 (wSeen (vCh ch n h) j) →
    Wp 108 65 [(0, .ref 1), (1, .ref 5), (2, .int (Int32.ofInt n)), (3, .int (Int32.ofInt j))] [] (gE Lx) I L e Q := by
  have h4 := hok.2.2.2.1
  have hxx := (vOk_0 hh).mp hx
  intro s
  induction s with
  | zero =>
    intro j hj L hf hW
    have : j = ch.2.2.2.1 := by omega
    subst this
    refine s_108_65 ?_
    rw [hc.2.2.2.1]
    exact i_lt32 (by omega) (by omega) (fun _ => by omega) (fun _ => fin L hf hW)
  | succ s ih =>
    intro j hj L hf hW
    have hel := hok.2.2.2.2 j (by omega)
    obtain ⟨r1, r2, r3⟩ := el_r hel
    obtain ⟨e1, e2, e4⟩ := hc.2.2.2.2 j (by omega)
    have tb := hel.2.b
    have e5 : vT n h (ch.2.2.2.2 j).2.1 (ch.2.2.2.2 j).2.2 = tN (ch.2.2.2.2 j).2.1 (ch.2.2.2.2 j).2.2 (n - 1) := by
      unfold vT
      rw [if_pos hh]
      congr 1
      omega
    have hB := (vW_ok hok hx (show j ≤ ch.2.2.2.1 by omega)).2
    refine s_108_65 ?_
    rw [hc.2.2.2.1]
    refine i_lt32 (by omega) (by omega) (fun _ => c_14 (Or.inl rfl) (by omega) (kcp_v rfl (s_108_82 (c_15 (Or.inl rfl) (by omega) (kcp_v rfl (s_108_88 ?_)))))) (fun _ => by omega)
    rw [e2, i2l r2, e4, i2l r3]
    refine c_30 (by omega) hel.2.nz (by omega) (by omega) (fun L1 hf1 hv1 => kcp_v rfl (s_108_93 (c_12 (Or.inl rfl) (by omega) (kcp_v rfl (s_108_102 ?_)))))
    rw [e1, hv1.1, hv1.2]
    refine c_75 (Or.inl rfl) (hW.cg (hf1.at rfl)) (WB.le hB (by decide)) r1 (fun L2 hf2 hW2 => kcp_v rfl (s_108_119 ?_))
    rw [add32]
    have := ih (j + 1) (by omega) L2 (FrL.tr hf (FrL.tr (S := vkF) hf1 hf2 rfl rfl) rfl rfl) (by
      show WvAt L2 14 (wPass (ch.2.2.2.2 j).1 (vT n h (ch.2.2.2.2 j).2.1 (ch.2.2.2.2 j).2.2).1 (vT n h (ch.2.2.2.2 j).2.1 (ch.2.2.2.2 j).2.2).2 (wSeen (vCh ch n h) j))
      rw [e5]
      exact hW2)
    exact this
theorem c_108 {ch : Ch} (hok : ChOk ch) (hc : ChAt I 5 ch) {n : Nat} {h : Int} (hh : h = 0) (hx : vOk (n : Int) h) (fin : ∀ L', FrL vkF L L' → WvAt L' 14 (vW ch n h) → Q (.inl none) (gE Lx) I L' e) :
    Wp 108 0 [(0, .ref 1), (1, .ref 5), (2, .int (Int32.ofInt n))] [] (gE Lx) I L e Q := by
  obtain ⟨h1, h2, h3, -⟩ := id hc
  have b1 := hok.1; have b2 := hok.2.1; have b3 := hok.2.2.1
  have hxx := (vOk_0 hh).mp hx
  refine s_108_0 ?_
  rw [h1, h2, h3, i2l (by omega), i2l (by omega), i2l (by omega), i2l (by omega), mul64, mul64, mul64]
  have go : ∀ L1, FrL vkF L L1 → WvAt L1 14 (wBeg (vCh ch n h)) → Wp 108 65 [(0, .ref 1), (1, .ref 5), (2, .int (Int32.ofInt n)), (3, .int (Int32.ofInt 0))] [] (gE Lx) I L1 e Q := fun L1 hf1 hW1 =>
    l_108 hok hc hh hx (L0 := L) fin ch.2.2.2.1 0 (by omega) L1 hf1 hW1
  refine i_zlt (by omega) (fun q => go _ (FrL.wu (FrL.wu (FrL.wu (FrL.wu FrL.rf rfl) rfl) rfl) rfl) ?_) (fun q => go _ (FrL.wu (FrL.wu (FrL.wu (FrL.wu FrL.rf rfl) rfl) rfl) rfl) ?_)
  · unfold wBeg vCh
    rw [if_neg (fun w => w.2 q), if_pos ⟨hh, q⟩, if_neg (fun w => w.2 q)]
    exact ⟨rfl, rfl, rfl, rfl⟩
  · unfold wBeg vCh
    rw [if_pos ⟨hh, by omega⟩, if_neg (by omega), if_pos ⟨hh, by omega⟩]
    exact ⟨rfl, rfl, rfl, rfl⟩
/-- which of both, and whether it is told -/
theorem n_vary {A : Prop} {B C : Prop} {x h : Int} (hx : R32 x) (hh : R32 h) (no : ¬ vOk x h → A) (y0 : h = 0 → vOk x h → B) (y1 : h ≠ 0 → vOk x h → C) :
    (if Int32.ofInt h = 0 then
     (if Int32.ofInt h = 0 then
      (if Int32.ofInt x < Int32.ofInt 1 then A else (if Int32.ofInt 3 < Int32.ofInt x then A else (if Int32.ofInt h = 0 then B else C)))
     else
      (if Int32.ofInt x < Int32.ofInt 1 then A else (if Int32.ofInt 10 < Int32.ofInt x then A else (if Int32.ofInt h = 0 then B else C))))
    else
     (if Int32.ofInt h = 0 then
      (if Int32.ofInt x < Int32.ofInt (-10) then A else (if Int32.ofInt 3 < Int32.ofInt x then A else (if Int32.ofInt h = 0 then B else C)))
     else
      (if Int32.ofInt x < Int32.ofInt (-10) then A else (if Int32.ofInt 10 < Int32.ofInt x then A else (if Int32.ofInt h = 0 then B else C))))) := by
  refine i_eqz hh (fun k => i_eqz hh (fun _ => ?_) (fun w => absurd k w)) (fun k => i_eqz hh (fun w => absurd w k) (fun _ => ?_))
  · have v := vOk_0 (x := x) k
    exact i_lt32 hx (by omega) (fun q => no (fun w => by have := v.mp w; omega)) (fun q1 => i_lt32 (by omega) hx (fun q => no (fun w => by have := v.mp w; omega)) (fun q2 => i_eqz hh (fun _ => y0 k (v.mpr ⟨q1, q2⟩)) (fun w => absurd k w)))
  · have v := vOk_n (x := x) k
    exact i_lt32 hx (by omega) (fun q => no (fun w => by have := v.mp w; omega)) (fun q1 => i_lt32 (by omega) hx (fun q => no (fun w => by have := v.mp w; omega)) (fun q2 => i_eqz hh (fun w => absurd w k) (fun _ => y1 k (v.mpr ⟨q1, q2⟩))))
theorem h_376 {ch : Ch} (hok : ChOk ch) (hc : ChAt I 5 ch) {x hm : Int} (hx : R32 x) (hhm : R32 hm) (h : CQ Lx I e Q (spPar ch x hm).1 (spPar ch x hm).2) :
    Wp 376 0 [(0, .ref 1), (1, .int (Int32.ofInt x)), (2, .int (Int32.ofInt hm)), (3, .ref 70)] [] (gE Lx) I L e Q := by
  unfold spPar at h
  have go : vOk x hm → ∀ L1, WvAt L1 14 (vW ch x hm) → Wp 125 16 [(0, .ref 1)] [] (gE Lx) I L1 e (kcp (Wp 376) 376 5 0 [(0, .ref 1), (3, .ref 70)] 71 [.int (Int32.ofInt 0), .ref 70] Q) := by
    intro v L1 hW
    rw [iP_t v] at h
    have a := vW_ok hok v (Nat.le_refl _)
    have tb := vok_tp hok v
    refine s_125_16 (c_128 hW a.2 a.1 (fun L2 hf2 => kcp_v rfl (s_125_20 (kcp_v rfl (s_376_8 (i_inb0 (by decide) ?_))))))
    exact h.mk (c := 0) FrI.rf (by omega) rfl (fun _ => by rw [o70]; exact i2l (by omega))
  refine s_376_0 (n_vary hx hhm (fun q => ?_) (fun k v => ?_) (fun k v => ?_))
  · rw [iP_f q] at h
    exact h.mk (c := 1) FrI.rf (by omega) rfl (fun z => by cases z)
  · have hv := (vOk_0 k).mp v
    obtain ⟨n, rfl⟩ : ∃ n : Nat, x = n := ⟨x.toNat, by omega⟩
    exact c_108 hok hc k v (fun L1 _ hW => kcp_v rfl (s_127_19 (kcp_v rfl (go v L1 hW))))
  · exact c_97 hok hc k v (fun L1 _ hW => kcp_v rfl (s_127_10 (s_127_19 (kcp_v rfl (go v L1 hW)))))
theorem h_377 {ch : Ch} (hok : ChOk ch) (hc : ChAt I 5 ch) {l4 l5 : Int} (hl : LimAt I l4 l5) {x hm : Int} (hx : R32 x) (hhm : R32 hm) (h : CQ Lx I e Q (spWit ch l4 l5 x hm).1 (spWit ch l4 l5 x hm).2) :
    Wp 377 0 [(0, .ref 1), (1, .int (Int32.ofInt x)), (2, .int (Int32.ofInt hm)), (3, .ref 70)] [] (gE Lx) I L e Q := by
  unfold spWit at h
  have go : vOk x hm → ∀ L1, WvAt L1 14 (vW ch x hm) → Wp 129 16 [(0, .ref 1)] [] (gE Lx) I L1 e (kcp (Wp 377) 377 5 0 [(0, .ref 1), (3, .ref 70)] 71 [.int (Int32.ofInt 0), .ref 70] Q) := by
    intro v L1 hW
    rw [iP_t v] at h
    have a := vW_ok hok v (Nat.le_refl _)
    refine s_129_16 (c_98 hW a.2 hl (fun q L2 hf2 => kcp_v rfl (s_129_20 (b_1 (kcp_v rfl (s_377_8 (j_1 (i_inb0 (by decide) ?_))))))) (fun q L2 hf2 => kcp_v rfl (s_129_20 (b_0 (kcp_v rfl (s_377_8 (j_0 (i_inb0 (by decide) ?_))))))))
    · have h : CQ Lx I e Q 0 (iP (wit l4 l5 (vW ch x hm)) 1 0) := h
      rw [iP_t q] at h
      exact h.mk (c := 0) FrI.rf (by omega) rfl (fun _ => by rw [o70])
    · have h : CQ Lx I e Q 0 (iP (wit l4 l5 (vW ch x hm)) 1 0) := h
      rw [iP_f q] at h
      exact h.mk (c := 0) FrI.rf (by omega) rfl (fun _ => by rw [o70])
  refine s_377_0 (n_vary hx hhm (fun q => ?_) (fun k v => ?_) (fun k v => ?_))
  · rw [iP_f q] at h
    exact h.mk (c := 1) FrI.rf (by omega) rfl (fun z => by cases z)
  · have hv := (vOk_0 k).mp v
    obtain ⟨n, rfl⟩ : ∃ n : Nat, x = n := ⟨x.toNat, by omega⟩
    exact c_108 hok hc k v (fun L1 _ hW => kcp_v rfl (s_127_19 (kcp_v rfl (go v L1 hW))))
  · exact c_97 hok hc k v (fun L1 _ hW => kcp_v rfl (s_127_10 (s_127_19 (kcp_v rfl (go v L1 hW)))))
theorem n_beside {ch : Ch} (hok : ChOk ch) (hc : ChAt I 5 ch) {l4 l5 : Int} (hl : LimAt I l4 l5) {k : Int} (hk : -10 ≤ k ∧ k ≤ 10) (h1 : wdP ch l4 l5 k → ∀ L', Q (.inl (some (.int (Int32.ofInt 1)))) (gE Lx) I L' e) (h0 : ¬ wdP ch l4 l5 k → ∀ L', Q (.inl (some (.int (Int32.ofInt 0)))) (gE Lx) I L' e) :
    Wp 97 0 [(0, .ref 1), (1, .ref 5), (2, .int (Int32.ofInt k))] [] (gE Lx) I L e (kcp (Wp 96) 96 3 0 [(0, .ref 1), (1, .ref 5)] 71 [] Q) := by
  have v : vOk k 1 := (vOk_n (by decide)).mpr hk
  have a := vW_ok hok v (Nat.le_refl _)
  exact c_97 hok hc (by decide) v (fun L1 _ hW => kcp_v rfl (s_96_6 (c_98 hW a.2 hl (fun q L2 _ => kcp_v rfl (s_96_10 (b_1 (h1 q L2)))) (fun q L2 _ => kcp_v rfl (s_96_10 (b_0 (h0 q L2)))))))
theorem l_95 {ch : Ch} (hok : ChOk ch) (hc : ChAt I 5 ch) {l4 l5 : Int} (hl : LimAt I l4 l5) : ∀ (s : Nat) (k : Int), k + s = 11 → 0 ≤ k → ∀ L : Ml, (∀ L', Q (.inl (some (.int (Int32.ofInt (wdF (wdP ch l4 l5) s k))))) (gE Lx) I L' e) →
    Wp 95 4 [(0, .ref 1), (1, .ref 5), (2, .int (Int32.ofInt (k - 1))), (3, .int (Int32.ofInt k))] [] (gE Lx) I L e Q := by
  intro s
  induction s with
  | zero =>
    intro k hk h0 L h
    exact s_95_4 (i_lt32 (by omega) (by omega) (fun _ => h L) (fun _ => by omega))
  | succ s ih =>
    intro k hk h0 L h
    have no : ¬ (wdP ch l4 l5 k ∧ wdP ch l4 l5 (-k)) → ∀ L', Q (.inl (some (.int (Int32.ofInt (k - 1))))) (gE Lx) I L' e := fun q L' => by
      have := h L'
      unfold wdF at this
      rw [iP_f q] at this
      exact this
    refine s_95_4 (i_lt32 (by omega) (by omega) (fun _ => by omega) (fun _ => n_beside hok hc hl (by omega) (fun q1 L1 => kcp_v rfl (s_95_16 (j_1 ?_))) (fun q1 L1 => kcp_v rfl (s_95_16 (j_0 (no (fun w => q1 w.1) L1))))))
    rw [neg32]
    refine n_beside hok hc hl (by omega) (fun q2 L2 => kcp_v rfl (s_95_26 (j_1 ?_))) (fun q2 L2 => kcp_v rfl (s_95_26 (j_0 (no (fun w => q2 w.2) L2))))
    rw [add32]
    have := ih (k + 1) (by omega) (by omega) L2 (fun L' => by
      have := h L'
      unfold wdF at this
      rw [iP_t ⟨q1, q2⟩] at this
      exact this)
    rw [show k + 1 - 1 = k by omega] at this
    exact this
theorem c_94 {ch : Ch} (hok : ChOk ch) (hc : ChAt I 5 ch) {l4 l5 : Int} (hl : LimAt I l4 l5) (h : ∀ I' L', FrI cS I I' → Q (.inl (some (.int (Int32.ofInt (spWid ch l4 l5))))) (gE Lx) I' L' e) :
    Wp 94 0 [(0, .ref 1)] [] (gE Lx) I L e Q :=
  s_94_0 (s_95_0 (l_95 hok hc hl 11 0 (by omega) (by omega) L (fun L' => kcp_v rfl (s_94_8 (h I L' FrI.rf)))))
end
