/-! tuned: both sides. -/
def tuF (ch : Ch) (t : Nat) : Int × Int := ecF (wSeen (chTrim ch (t / 184) (tgU (t % 184)) (tgL (t % 184))) ch.2.2.2.1)
def tuC (ch : Ch) (m : Int) (t : Nat) : Prop := t < 184 * ch.2.2.2.1 ∧ sml m (t % 184)
noncomputable def tuB (ch : Ch) (m : Int) : Option Nat := ab (tuC ch m) (-1) (tuF ch) (184 * ch.2.2.2.1) 0 none
noncomputable def tuV (ch : Ch) (wh : Int) : Option Nat → Int
  | none => 0
  | some t => if wh = 0 then ((t / 184 : Nat) : Int) else if wh = 1 then tgU (t % 184) else if wh = 2 then tgL (t % 184) else tpt (tuF ch t)
theorem tuV_s {ch : Ch} {wh : Int} {t : Nat} : tuV ch wh (some t) = if wh = 0 then ((t / 184 : Nat) : Int) else if wh = 1 then tgU (t % 184) else if wh = 2 then tgL (t % 184) else tpt (tuF ch t) := rfl
noncomputable def spTun (ch : Ch) (m wh : Int) : Nat × Int := if wh < 0 ∨ 3 < wh then (1, 0) else if m < 1 ∨ 12 < m then (2, 0) else if ch.2.2.2.1 = 0 then (3, 0) else (0, tuV ch wh (tuB ch m))
theorem tuF_ok {ch : Ch} (hok : ChOk ch) {t : Nat} (ht : t < 184 * ch.2.2.2.1) : efok (tuF ch t) := ec_f (chTrim_ok hok (i := t / 184) (by omega) (tg_t (k := t % 184) (by omega))) (Nat.le_refl _)
theorem tuF_a {ch : Ch} {i k : Nat} (hk : k < 184) : tuF ch (184 * i + k) = ecF (wSeen (chTrim ch i (tgU k) (tgL k)) ch.2.2.2.1) := by
  unfold tuF
  rw [show (184 * i + k) / 184 = i by omega, show (184 * i + k) % 184 = k by omega]
theorem tuB_s {ch : Ch} {m : Int} (hm : 1 ≤ m) (hn : ch.2.2.2.1 ≠ 0) : ∃ t, tuB ch m = some t := by
  have e : 184 * ch.2.2.2.1 = (184 * ch.2.2.2.1 - 1) + 1 := by omega
  unfold tuB
  rw [e]
  refine ab_0 ⟨by omega, ⟨by show -m ≤ (0 : Int); omega, by show (0 : Int) ≤ m; omega⟩, by show (1 : Int) ≤ m; omega⟩
theorem tuB_I {ch : Ch} {m : Int} {t : Nat} (h : tuB ch m = some t) : tuC ch m t := (ab_I (C := tuC ch m) (w := -1) (f := tuF ch) (184 * ch.2.2.2.1) 0 none (fun j h => by cases h) t h).2
section
variable {Lx : Nat} {I : Mi} {L : Ml} {e : Nat} {Q : Kq}
set_option maxHeartbeats 4000000 in
theorem l_177 {I0 : Mi} {ch : Ch} (hok : ChOk ch) (hc0 : ChAt I0 5 ch) (hT0 : TabAt I0) {m : Int} (hm : 1 ≤ m ∧ m ≤ 12) {i : Nat} (hi : i < ch.2.2.2.1) : ∀ (s k : Nat) (c : Option Nat), k + s = 184 → abI (tuC ch m) (184 * i + k) c → ∀ (I : Mi) (L : Ml), FrI [(21, 0, 0)] I0 I → WvAt L 15 (wSeen ch i) → BsAt I L (tuF ch) c → (∀ t, c = some t → I 21 3 = .ofInt ((t / 184 : Nat) : Int) ∧ I 21 5 = .ofInt ((t % 184 : Nat) : Int)) →
    (∀ I' L', FrI [(21, 0, 0)] I0 I' → BsAt I' L' (tuF ch) (ab (tuC ch m) (-1) (tuF ch) s (184 * i + k) c) → (∀ t, ab (tuC ch m) (-1) (tuF ch) s (184 * i + k) c = some t → I' 21 3 = .ofInt ((t / 184 : Nat) : Int) ∧ I' 21 5 = .ofInt ((t % 184 : Nat) : Int)) → Q (.inl none) (gE Lx) I' L' e) →
    Wp 177 2 [(0, .ref 1), (1, .int (Int32.ofInt i)), (2, .int (Int32.ofInt m)), (3, .int (Int32.ofInt k))] [] (gE Lx) I L e Q := by
  have h4 := hok.2.2.2.1
  intro s
  induction s with
  | zero =>
    intro k c hk hI I L hf hW hs h21 h
    exact s_177_2 (i_lt32 (by omega) (by omega) (fun _ => by omega) (fun _ => h I L hf hs h21))
  | succ s ih =>
    intro k c hk hI I L hf hW hs h21 h
    have hk2 : k < 184 := by omega
    have hT : TabAt I := hT0.cg (hf.at rfl) (hf.at rfl)
    have hc : ChAt I 5 ch := hc0.cg (hf.at rfl) (hf.at rfl) (hf.at rfl) (hf.at rfl)
    have ht : 184 * i + k < 184 * ch.2.2.2.1 := by omega
    have hm2 : (184 * i + k) % 184 = k := by omega
    have hd2 : (184 * i + k) / 184 = i := by omega
    unfold ab at h
    have stay : stp1 (tuC ch m) (-1) (tuF ch) (184 * i + k) c = c → ∀ L2, WvAt L2 15 (wSeen ch i) → BsAt I L2 (tuF ch) c → Wp 177 2 [(0, .ref 1), (1, .int (Int32.ofInt i)), (2, .int (Int32.ofInt m)), (3, .int (Int32.ofInt (k : Int) + Int32.ofInt 1))] [] (gE Lx) I L2 e Q := by
      intro q L2 hW2 hs2
      rw [q] at h
      rw [add32]
      have := ih (k + 1) c (by omega) (fun j hj => ⟨by have := (hI j hj).1; omega, (hI j hj).2⟩) I L2 hf hW2 hs2 h21 h
      exact this
    refine s_177_2 (i_lt32 (by omega) (by omega) (fun _ => ?_) (fun _ => by omega))
    refine c_71 hT hk2 hm (fun qs => kcp_v rfl (s_177_18 (j_1 ?_))) (fun qs => kcp_v rfl (s_177_18 (j_0 (stay (stp_n (fun q => qs (by have := q.2; rw [hm2] at this; exact this))) L hW hs))))
    have hC : tuC ch m (184 * i + k) := ⟨ht, by rw [hm2]; exact qs⟩
    refine c_178 hok hc hT hi hk2 (⟨hW.1, hW.2.1, hW.2.2.1, hW.2.2.2⟩ : WvAt _ 16 (wSeen ch i)) (fun L2 hf2 hW2 => kcp_v rfl (s_177_27 ?_))
    have hf3 := FrL.tr (S := [(16, 0, 4)]) (fr4 rfl rfl rfl rfl) hf2 rfl rfl
    have hW3 : WvAt L2 15 (wSeen ch i) := hW.cg (hf3.at rfl)
    have hs2 : BsAt I L2 (tuF ch) c := hs.cg rfl (hf3 21 1 rfl) (hf3 21 2 rfl)
    refine n_3 (k := 184 * i + k) hW2 (tuF_a hk2) (tuF_ok hok ht) (fun j hj => tuF_ok hok (hI j hj).2.1) hs2 (fun hb I4 L4 hf4 hl4 hs4 => kcp_v rfl (s_177_48 (j_1 ?_))) (fun hb => kcp_v rfl (s_177_48 (j_0 (stay (stp_f hb) L2 hW3 hs2))))
    rw [stp_t hC hb] at h
    rw [add32]
    have := ih (k + 1) (some (184 * i + k)) (by omega) (fun j hj => by cases hj; exact ⟨by omega, hC⟩) (ui (ui I4 21 3 (Int32.ofInt (i : Int))) 21 5 (Int32.ofInt (k : Int))) L4 (FrI.wu (FrI.wu (FrI.tr hf (hf4.up (S := [(21, 0, 0)]) rfl) rfl rfl) rfl) rfl) (hW3.cg (hl4.at rfl)) (hs4.cg rfl rfl rfl) (fun t ht2 => by cases ht2; rw [hd2, hm2]; exact ⟨by rw [u_ne (by decide), u_at], u_at⟩) h
    exact this
set_option maxHeartbeats 4000000 in
theorem l_176 {I0 : Mi} {ch : Ch} (hok : ChOk ch) (hc0 : ChAt I0 5 ch) (hT0 : TabAt I0) {m : Int} (hm : 1 ≤ m ∧ m ≤ 12) : ∀ (s i : Nat) (c : Option Nat), i + s = ch.2.2.2.1 → abI (tuC ch m) (184 * i) c → ∀ (I : Mi) (L : Ml), FrI [(21, 0, 0)] I0 I → BsAt I L (tuF ch) c → (∀ t, c = some t → I 21 3 = .ofInt ((t / 184 : Nat) : Int) ∧ I 21 5 = .ofInt ((t % 184 : Nat) : Int)) →
    (∀ I' L', FrI [(21, 0, 0)] I0 I' → BsAt I' L' (tuF ch) (ab (tuC ch m) (-1) (tuF ch) (184 * s) (184 * i) c) → (∀ t, ab (tuC ch m) (-1) (tuF ch) (184 * s) (184 * i) c = some t → I' 21 3 = .ofInt ((t / 184 : Nat) : Int) ∧ I' 21 5 = .ofInt ((t % 184 : Nat) : Int)) → Q (.inl none) (gE Lx) I' L' e) →
    Wp 176 9 [(0, .ref 1), (1, .int (Int32.ofInt m)), (2, .int (Int32.ofInt i))] [] (gE Lx) I L e Q := by
  have h4 := hok.2.2.2.1
  intro s
  induction s with
  | zero =>
    intro i c hi hI I L hf hs h21 h
    have hc : ChAt I 5 ch := hc0.cg (hf.at rfl) (hf.at rfl) (hf.at rfl) (hf.at rfl)
    refine s_176_9 ?_
    rw [hc.2.2.2.1]
    exact i_lt32 (by omega) (by omega) (fun _ => by omega) (fun _ => h I L hf hs h21)
  | succ s ih =>
    intro i c hi hI I L hf hs h21 h
    have hc : ChAt I 5 ch := hc0.cg (hf.at rfl) (hf.at rfl) (hf.at rfl) (hf.at rfl)
    refine s_176_9 ?_
    rw [hc.2.2.2.1]
    refine i_lt32 (by omega) (by omega) (fun _ => ?_) (fun _ => by omega)
    refine c_106 (Or.inr rfl) hok hc (by omega) (fun L1 hf1 hW1 => kcp_v rfl (s_176_32 ?_))
    rw [show 184 * (s + 1) = 184 + 184 * s by omega, ab_add] at h
    refine l_177 hok hc0 hT0 hm (i := i) (by omega) 184 0 c (by omega) hI I L1 hf hW1 (hs.cg rfl (hf1 21 1 rfl) (hf1 21 2 rfl)) h21 (fun I2 L2 hf2 hs2 h22 => kcp_v rfl (s_176_38 ?_))
    rw [add32]
    have hI2 := ab_I (C := tuC ch m) (w := -1) (f := tuF ch) 184 (184 * i) c hI
    have := ih (i + 1) (ab (tuC ch m) (-1) (tuF ch) 184 (184 * i) c) (by omega) hI2 I2 L2 hf2 hs2 h22 h
    exact this
set_option maxHeartbeats 4000000 in
theorem h_402 {ch : Ch} (hok : ChOk ch) (hc : ChAt I 5 ch) (hT : TabAt I) {m wh : Int} (hm : R32 m) (hwh : R32 wh) (h : CQ Lx I e Q (spTun ch m wh).1 (spTun ch m wh).2) :
    Wp 402 0 [(0, .ref 1), (1, .int (Int32.ofInt m)), (2, .int (Int32.ofInt wh)), (3, .ref 70)] [] (gE Lx) I L e Q := by
  have h4 := hok.2.2.2.1
  refine s_402_0 ?_
  rw [hc.2.2.2.1]
  unfold spTun at h
  have one : wh < 0 ∨ 3 < wh → Q (.inl (some (.int (Int32.ofInt 1)))) (gE Lx) I L (e + 1) := fun q => by
    rw [if_pos q] at h
    exact h.mk (c := 1) FrI.rf (by omega) rfl (fun z => by cases z)
  refine i_ltz hwh (fun k => one (by omega)) (fun a1 => i_lt32 (by omega) hwh (fun k => one (by omega)) (fun a2 => ?_))
  rw [if_neg (by omega)] at h
  have two : m < 1 ∨ 12 < m → Q (.inl (some (.int (Int32.ofInt 2)))) (gE Lx) I L (e + 1) := fun q => by
    rw [if_pos q] at h
    exact h.mk (c := 2) FrI.rf (by omega) rfl (fun z => by cases z)
  refine i_lt32 hm (by omega) (fun k => two (by omega)) (fun a3 => i_lt32 (by omega) hm (fun k => two (by omega)) (fun a4 => ?_))
  rw [if_neg (by omega)] at h
  refine i_eqz (by omega) (fun k => ?_) (fun k => ?_)
  · rw [if_pos (by omega)] at h
    exact h.mk (c := 3) FrI.rf (by omega) rfl (fun z => by cases z)
  rw [if_neg (by omega)] at h
  obtain ⟨t, ht⟩ := tuB_s (ch := ch) a3 (by omega)
  have htc := tuB_I ht
  rw [ht, tuV_s] at h
  refine s_176_0 (l_176 (I0 := I) hok hc hT ⟨a3, a4⟩ ch.2.2.2.1 0 none (by omega) (fun j hj => by cases hj) _ _ (FrI.wu FrI.rf rfl) rfl (fun t ht => by cases ht) (fun I2 L2 hf2 hs2 h22 => kcp_v rfl (s_175_36 ?_)))
  have ht' : ab (tuC ch m) (-1) (tuF ch) (184 * ch.2.2.2.1) (184 * 0) none = some t := ht
  rw [ht'] at hs2 h22
  obtain ⟨s0, s1, s2⟩ := hs2
  obtain ⟨q3, q5⟩ := h22 t rfl
  have hT2 : TabAt I2 := hT.cg (hf2.at rfl) (hf2.at rfl)
  have hk : t % 184 < 184 := by omega
  have hi : t / 184 < 4 := by have := htc.1; omega
  have tb := tg_b hk
  have ho := tuF_ok hok htc.1
  have tpb := tpt_b ho
  have hff : FrI cS I I2 := hf2.up rfl
  rw [q3, q5]
  refine i_eq32 hwh (by omega) (fun k1 => kcp_v rfl (s_402_8 (i_inb0 (by decide) ?_))) (fun k1 => i_eq32 hwh (by omega) (fun k2 => c_69 hT2 hk (kcp_v rfl (s_175_86 (kcp_v rfl (s_402_8 (i_inb0 (by decide) ?_)))))) (fun k2 => i_eq32 hwh (by omega) (fun k3 => c_70 hT2 hk (kcp_v rfl (s_175_101 (kcp_v rfl (s_402_8 (i_inb0 (by decide) ?_)))))) (fun k3 => n_tt ho s1 s2 (kcp_v rfl (s_402_8 (i_inb0 (by decide) ?_))))))
  · rw [if_pos k1] at h
    exact h.mk (c := 0) hff (by omega) rfl (fun _ => by rw [o70, i2l (by omega)])
  · rw [if_neg k1, if_pos k2] at h
    exact h.mk (c := 0) hff (by omega) rfl (fun _ => by rw [o70, i2l (by omega)])
  · rw [if_neg k1, if_neg k2, if_pos k3] at h
    exact h.mk (c := 0) hff (by omega) rfl (fun _ => by rw [o70, i2l (by omega)])
  · rw [if_neg k1, if_neg k2, if_neg k3] at h
    exact h.mk (c := 0) hff (by omega) rfl (fun _ => by rw [o70, i2l (by omega)])
theorem fr_le {n d : Int} (hn : 0 ≤ n) (hd : 0 < d) (h : n ≤ d) : fU n d ≤ fL n d := by
  obtain ⟨g, hg, e1, e2⟩ := red hn (show 0 ≤ d by omega) (by omega)
  generalize fU n d = a at *
  generalize fL n d = b at *
  rw [e1, e2] at h
  exact Int.le_of_mul_le_mul_left h hg
def lxF : Fr := [(58, 8, 6), (58, 25, 2)]
set_option maxHeartbeats 8000000 in
theorem l_323 {I0 : Mi} {L0 : Ml} {ch : Ch} (hok : ChOk ch) (hc0 : BnAt I0 59 0 ch) (hT0 : TabRt I0) {m wh : Int} (hm : 1 ≤ m ∧ m ≤ 12) {i : Nat} (hi : i < ch.2.2.2.1) : ∀ (s k : Nat) (c : Option Nat), k + s = 184 → abI (tuC ch m) (184 * i + k) c → ∀ (I : Mi) (L : Ml), FrI [(58, 27, 4)] I0 I → L 70 = L0 70 → LeAt I L (tuF ch) c → (∀ t, c = some t → I 58 27 = .ofInt ((t / 184 : Nat) : Int) ∧ I 58 28 = .ofInt ((t % 184 : Nat) : Int)) →
    (∀ I' L', FrI [(58, 27, 4)] I0 I' → L' 70 = L0 70 → LeAt I' L' (tuF ch) (ab (tuC ch m) (-1) (tuF ch) s (184 * i + k) c) → (∀ t, ab (tuC ch m) (-1) (tuF ch) s (184 * i + k) c = some t → I' 58 27 = .ofInt ((t / 184 : Nat) : Int) ∧ I' 58 28 = .ofInt ((t % 184 : Nat) : Int)) → Wp 323 58 [(0, .ref 58), (1, .int (Int32.ofInt m)), (2, .int (Int32.ofInt wh)), (3, .int (Int32.ofInt ((i + 1 : Nat) : Int)))] [] (gE Lx) I' L' e Q) →
    Wp 323 69 [(0, .ref 58), (1, .int (Int32.ofInt m)), (2, .int (Int32.ofInt wh)), (3, .int (Int32.ofInt i)), (4, .int (Int32.ofInt k))] [] (gE Lx) I L e Q := by
  have h4 := hok.2.2.2.1
  intro s
  induction s with
  | zero =>
    intro k c hk hI I L hf hl hs h21 h
    have hT : TabRt I := hT0.cg (hf 58 7 rfl) (hf.at rfl) (hf.at rfl)
    refine s_323_69 ?_
    rw [hT.1, add32]
    exact i_lt32 (by omega) (by omega) (fun _ => by omega) (fun _ => h I L hf hl hs h21)
  | succ s ih =>
    intro k c hk hI I L hf hl hs h21 h
    have hk2 : k < 184 := by omega
    have tb := tg_b hk2
    have hT : TabRt I := hT0.cg (hf 58 7 rfl) (hf.at rfl) (hf.at rfl)
    have hc : BnAt I 59 0 ch := hc0.cg (hf.at rfl)
    have ht : 184 * i + k < 184 * ch.2.2.2.1 := by omega
    have hm2 : (184 * i + k) % 184 = k := by omega
    have hd2 : (184 * i + k) / 184 = i := by omega
    unfold ab at h
    have stay : stp1 (tuC ch m) (-1) (tuF ch) (184 * i + k) c = c → ∀ L2, L2 70 = L0 70 → LeAt I L2 (tuF ch) c → Wp 323 106 [(0, .ref 58), (1, .int (Int32.ofInt m)), (2, .int (Int32.ofInt wh)), (3, .int (Int32.ofInt i)), (4, .int (Int32.ofInt (k : Int)))] [] (gE Lx) I L2 e Q := by
      intro q L2 hl2 hs2
      rw [q] at h
      refine s_323_106 ?_
      rw [add32]
      have := ih (k + 1) c (by omega) (fun j hj => ⟨by have := (hI j hj).1; omega, (hI j hj).2⟩) I L2 hf hl2 hs2 h21 h
      exact this
    have nsm : ¬ sml m k → Wp 323 106 [(0, .ref 58), (1, .int (Int32.ofInt m)), (2, .int (Int32.ofInt wh)), (3, .int (Int32.ofInt i)), (4, .int (Int32.ofInt (k : Int)))] [] (gE Lx) I L e Q := fun qs => stay (stp_n (fun q => qs (by have := q.2; rw [hm2] at this; exact this))) L hl hs
    unfold sml at nsm
    refine s_323_69 ?_
    rw [hT.1, tncn (k := k) (by omega), (hT.2 k hk2).1, (hT.2 k hk2).2, neg32]
    refine i_lt32 (by omega) (by omega) (fun _ => i_inb (by omega) hk2 (i_lt32 (by omega) (by omega) (fun q => nsm (by omega)) (fun q1 => i_lt32 (by omega) (by omega) (fun q => nsm (by omega)) (fun q2 => i_inb (by omega) hk2 (i_lt32 (by omega) (by omega) (fun q => nsm (by omega)) (fun q3 => ?_)))))) (fun _ => by omega)
    have hC : tuC ch m (184 * i + k) := ⟨ht, by rw [hm2]; exact ⟨⟨q1, q2⟩, q3⟩⟩
    have hok2 := chTrim_ok hok hi (tg_t hk2)
    refine c_324 hok hc hT hi hk2 (fun L1 r hf1 hr hs1 hB => kcp_v rfl (s_323_98 ?_))
    have hl1 : L1 70 = L0 70 := (hf1.at rfl).trans hl
    have hle1 : LeAt I L1 (tuF ch) c := hs.cg rfl (hf1 58 25 rfl) (hf1 58 26 rfl)
    refine c_315 (k := 184 * i + k) hr hs1 hB (wSeen_g hok2 _ (Nat.le_refl _)) (tuF_a hk2) (tuF_ok hok ht) (fun j hj => tuF_ok hok (hI j hj).2.1) hle1 (fun hb I4 L4 hf4 hl4 hs4 a1 a2 a3 => kcp_v rfl (s_323_106 ?_)) (fun hb L4 hl4 hs4 => kcp_v rfl (stay (stp_f hb) L4 ((hl4.at rfl).trans hl1) hs4))
    rw [stp_t hC hb] at h
    rw [add32]
    have := ih (k + 1) (some (184 * i + k)) (by omega) (fun j hj => by cases hj; exact ⟨by omega, hC⟩) I4 L4 (FrI.tr hf hf4 rfl rfl) ((hl4.at rfl).trans hl1) hs4 (fun t ht2 => by cases ht2; rw [hd2, hm2]; exact ⟨a1, a2⟩) h
    exact this
set_option maxHeartbeats 4000000 in
theorem l_323b {I0 : Mi} {L0 : Ml} {ch : Ch} (hok : ChOk ch) (hc0 : BnAt I0 59 0 ch) (hT0 : TabRt I0) {m wh : Int} (hm : 1 ≤ m ∧ m ≤ 12) (hwh : R32 wh) : ∀ (s i : Nat) (c : Option Nat), i + s = ch.2.2.2.1 → abI (tuC ch m) (184 * i) c → ∀ (I : Mi) (L : Ml), FrI [(58, 27, 4)] I0 I → L 70 = L0 70 → LeAt I L (tuF ch) c → (∀ t, c = some t → I 58 27 = .ofInt ((t / 184 : Nat) : Int) ∧ I 58 28 = .ofInt ((t % 184 : Nat) : Int)) →
    (∃ t, ab (tuC ch m) (-1) (tuF ch) (184 * s) (184 * i) c = some t) →
    (∀ t I' L', ab (tuC ch m) (-1) (tuF ch) (184 * s) (184 * i) c = some t → FrI [(58, 27, 4)] I0 I' → L' 70 = L0 70 → Q (.inl (some (.int (Int32.ofInt (tuV ch wh (some t)))))) (gE Lx) I' L' e) →
    Wp 323 58 [(0, .ref 58), (1, .int (Int32.ofInt m)), (2, .int (Int32.ofInt wh)), (3, .int (Int32.ofInt i))] [] (gE Lx) I L e Q := by
  have h4 := hok.2.2.2.1
  intro s
  induction s with
  | zero =>
    intro i c hi hI I L hf hl hs h21 hex h
    have hT : TabRt I := hT0.cg (hf 58 7 rfl) (hf.at rfl) (hf.at rfl)
    have hc : BnAt I 59 0 ch := hc0.cg (hf.at rfl)
    have e3 : I 59 3 = Int32.ofInt (ch.2.2.2.1 : Int) := hc.2.2.2.1
    obtain ⟨t, ht⟩ := hex
    have ht' : c = some t := ht
    subst ht'
    have htc := (hI t rfl).2
    have hk : t % 184 < 184 := by omega
    have hi4 : t / 184 < 4 := by have := htc.1; omega
    have ho := tuF_ok hok htc.1
    have h2 := h t I L rfl hf hl
    rw [tuV_s] at h2
    obtain ⟨q3, q5⟩ := h21 t rfl
    obtain ⟨s0, s1, s2⟩ := hs
    refine s_323_58 ?_
    rw [e3, q3, q5, s1, s2, tncn (k := t % 184) (by omega), (hT.2 _ hk).1, (hT.2 _ hk).2]
    obtain ⟨o1, o2, o3⟩ := id ho
    have cj := fr_b (n := (tuF ch t).1) (d := (tuF ch t).2) o1.1 o2.1
    have hul := fr_le o1.1 o2.1 o3
    refine i_lt32 (by omega) (by omega) (fun _ => by omega) (fun _ => i_eqz hwh (fun k1 => s_323_167 ?_) (fun k1 => i_eq32 hwh (by omega) (fun k2 => i_inb (by omega) hk (s_323_167 ?_)) (fun k2 => i_eq32 hwh (by omega) (fun k3 => i_inb (by omega) hk (s_323_167 ?_)) (fun k3 => c_320 (by omega) (by omega) hul (kcp_v rfl (s_319_11 (kcp_v rfl (s_323_167 ?_))))))))
    · rw [if_pos k1] at h2; exact h2
    · rw [if_neg k1, if_pos k2] at h2; exact h2
    · rw [if_neg k1, if_neg k2, if_pos k3] at h2; exact h2
    · rw [if_neg k1, if_neg k2, if_neg k3] at h2; rw [tpt_red ho]; exact h2
  | succ s ih =>
    intro i c hi hI I L hf hl hs h21 hex h
    have hc : BnAt I 59 0 ch := hc0.cg (hf.at rfl)
    have e3 : I 59 3 = Int32.ofInt (ch.2.2.2.1 : Int) := hc.2.2.2.1
    refine s_323_58 ?_
    rw [e3]
    refine i_lt32 (by omega) (by omega) (fun _ => ?_) (fun _ => by omega)
    rw [show 184 * (s + 1) = 184 + 184 * s by omega, ab_add] at h hex
    refine l_323 hok hc0 hT0 hm (i := i) (by omega) 184 0 c (by omega) hI I L hf hl hs h21 (fun I2 L2 hf2 hl2 hs2 h22 => ?_)
    have hI2 := ab_I (C := tuC ch m) (w := -1) (f := tuF ch) 184 (184 * i) c hI
    exact ih (i + 1) (ab (tuC ch m) (-1) (tuF ch) 184 (184 * i) c) (by omega) hI2 I2 L2 hf2 hl2 hs2 h22 hex h
set_option maxHeartbeats 4000000 in
theorem r_323 {ch : Ch} (hok : ChOk ch) (hc : BnAt I 59 0 ch) (hT : TabRt I) {m wh : Int} (hm : R32 m) (hwh : R32 wh) (h : RQ Lx I L e Q (spTun ch m wh).1 vI (spTun ch m wh).2) :
    Wp 323 0 [(0, .ref 58), (1, .int (Int32.ofInt m)), (2, .int (Int32.ofInt wh))] [] (gE Lx) I L e Q := by
  have h4 := hok.2.2.2.1
  have e3 : I 59 3 = Int32.ofInt (ch.2.2.2.1 : Int) := hc.2.2.2.1
  refine s_323_0 ?_
  rw [e3]
  unfold spTun at h
  have one : wh < 0 ∨ 3 < wh → Q (.inl (some (.int (Int32.ofInt 0)))) (gE Lx) (ui I 58 0 (Int32.ofInt 1)) L e := fun q => by
    rw [if_pos q] at h
    exact h.mk (v := 0) (FrI.wu FrI.rf rfl) rfl (c := 1) u_at rfl (fun z => by cases z)
  refine i_lt32 hwh (by omega) (fun k => one (by omega)) (fun a1 => i_lt32 (by omega) hwh (fun k => one (by omega)) (fun a2 => ?_))
  rw [if_neg (by omega)] at h
  have two : m < 1 ∨ 12 < m → Q (.inl (some (.int (Int32.ofInt 0)))) (gE Lx) (ui I 58 0 (Int32.ofInt 2)) L e := fun q => by
    rw [if_pos q] at h
    exact h.mk (v := 0) (FrI.wu FrI.rf rfl) rfl (c := 2) u_at rfl (fun z => by cases z)
  refine i_lt32 hm (by omega) (fun k => two (by omega)) (fun a3 => i_lt32 (by omega) hm (fun k => two (by omega)) (fun a4 => ?_))
  rw [if_neg (by omega)] at h
  refine i_eqz (by omega) (fun k => ?_) (fun k => ?_)
  · rw [if_pos (by omega)] at h
    exact h.mk (v := 0) (FrI.wu FrI.rf rfl) rfl (c := 3) u_at rfl (fun z => by cases z)
  rw [if_neg (by omega)] at h
  have hex := tuB_s (ch := ch) a3 (by omega)
  refine l_323b (I0 := ui (ui I 58 0 (Int32.ofInt 0)) 58 30 (Int32.ofInt 0)) (L0 := L) hok (hc.cg rfl) (hT.cg rfl rfl rfl) ⟨a3, a4⟩ hwh ch.2.2.2.1 0 none (by omega) (fun j hj => by cases hj) _ L FrI.rf rfl u_at (fun t ht => by cases ht) hex (fun t I2 L2 ht hf2 hl2 => ?_)
  have ht2 : tuB ch m = some t := ht
  rw [ht2] at h
  exact h.mk (FrI.tr (A := rS) (FrI.wu (FrI.wu FrI.rf rfl) rfl) hf2 rfl rfl) hl2 (c := 0) ((hf2 58 0 rfl).trans rfl) rfl (fun _ => rfl)
end
