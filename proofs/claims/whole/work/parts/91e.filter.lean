/-! filter: both sides. -/
def fiS (t : Nat) : Int := if t % 2 = 0 then 1 else 2
def fiW (ch : Ch) (t : Nat) : Wv := wPass (fiS t) (tgU (t / 2)) (tgL (t / 2)) (wSeen ch ch.2.2.2.1)
def fiF (ch : Ch) (t : Nat) : Int × Int := ecF (fiW ch t)
def fiC (n : Nat) (t : Nat) : Prop := t < 368 ∧ (if t % 2 = 0 then (tN (tgU (t / 2)) (tgL (t / 2)) (n - 1)).2 = 0 else (tN (tgU (t / 2)) (tgL (t / 2)) (n - 1)).1 = 0)
noncomputable def fiB (ch : Ch) (n : Nat) : Option Nat := ab (fiC n) (-1) (fiF ch) 368 0 none
noncomputable def fiV (ch : Ch) (wh : Int) : Option Nat → Int
  | none => -1
  | some t => if (fiF ch t).1 = (fiF ch t).2 then -1 else if wh = 0 then tgU (t / 2) else if wh = 1 then tgL (t / 2) else if wh = 2 then 1 - ((t % 2 : Nat) : Int) else tpt (fiF ch t)
theorem fiV_s {ch : Ch} {wh : Int} {t : Nat} : fiV ch wh (some t) = if (fiF ch t).1 = (fiF ch t).2 then -1 else if wh = 0 then tgU (t / 2) else if wh = 1 then tgL (t / 2) else if wh = 2 then 1 - ((t % 2 : Nat) : Int) else tpt (fiF ch t) := rfl
noncomputable def spFil (ch : Ch) (n wh : Int) : Nat × Int := if wh < 0 ∨ 3 < wh then (1, 0) else if n < 2 ∨ 3 < n then (2, 0) else if ch.2.2.2.1 = 4 then (3, 0) else (0, fiV ch wh (fiB ch n.toNat))
theorem fiS_b (t : Nat) : 0 ≤ fiS t ∧ fiS t ≤ 4 := by unfold fiS; split <;> omega
def fiX (ch : Ch) (t : Nat) : Ch := chAdd ch (fiS t, tgU (t / 2), tgL (t / 2))
theorem fiX_ok {ch : Ch} (h : ChOk ch) (h4 : ch.2.2.2.1 < 4) {t : Nat} (ht : t < 368) : ChOk (fiX ch t) := chAdd_ok h h4 ⟨fiS_b t, tg_t (by omega)⟩
theorem fiX_w {ch : Ch} {t : Nat} : wSeen (fiX ch t) (ch.2.2.2.1 + 1) = fiW ch t := wSeen_add
theorem fi_ok {ch : Ch} (h : ChOk ch) (h4 : ch.2.2.2.1 < 4) {t : Nat} (ht : t < 368) : efok (fiF ch t) ∧ Good (fiW ch t) ∧ WB 32845824 (fiW ch t) := by
  have a := ec_f (fiX_ok h h4 ht) (k := ch.2.2.2.1 + 1) (Nat.le_refl _)
  have b := wSeen_g (fiX_ok h h4 ht) (ch.2.2.2.1 + 1) (Nat.le_refl _)
  have c := wSeen_B (fiX_ok h h4 ht) (k := ch.2.2.2.1 + 1) (Nat.le_refl _)
  rw [fiX_w] at a b c
  exact ⟨a, b, c⟩
theorem fr_eq {n d : Int} (hn : 0 ≤ n) (hd : 0 < d) : fU n d = fL n d ↔ n = d := by
  obtain ⟨g, hg, e1, e2⟩ := red hn (show 0 ≤ d by omega) (by omega)
  generalize fU n d = a at *
  generalize fL n d = b at *
  constructor
  · intro q; rw [e1, e2, q]
  · intro q
    rw [e1, e2] at q
    exact Int.eq_of_mul_eq_mul_left (by omega) q
theorem dv2 {t : Nat} (h : t ≤ 2147483647) : Int32.ofInt (t : Int) / Int32.ofInt 2 = Int32.ofInt ((t / 2 : Nat) : Int) := by
  rw [dv32 (by omega) (by omega) (by omega)]
  congr 1
theorem rm2 {t : Nat} (h : t ≤ 2147483647) : Int32.ofInt (t : Int) - Int32.ofInt (t : Int) / Int32.ofInt 2 * Int32.ofInt 2 = Int32.ofInt ((t % 2 : Nat) : Int) := by
  rw [dv2 h, mul32, sub32]
  congr 1
  omega
section
variable {Lx : Nat} {I : Mi} {L : Ml} {e : Nat} {Q : Kq}
set_option maxHeartbeats 4000000 in
theorem n_196 {ch : Ch} (hok : ChOk ch) (h4 : ch.2.2.2.1 < 4) (hT : TabAt I) {t : Nat} (ht : t < 368) {op : Int} (hop : op = 1 - ((t % 2 : Nat) : Int)) {n : Nat} {c : Option Nat} (hI : abI (fiC n) t c) (hW : WvAt L 16 (wSeen ch ch.2.2.2.1)) (hs : BsAt I L (fiF ch) c)
    (h1 : (∀ j, c = some j → bt (-1) (fiF ch) t j) → ∀ I' L', FrI [(21, 0, 0)] I I' → FrL [(16, 0, 4), (21, 1, 2)] L L' → BsAt I' L' (fiF ch) (some t) → I' 21 5 = .ofInt ((t / 2 : Nat) : Int) → I' 21 6 = .ofInt op → Q (.inl none) (gE Lx) I' L' e)
    (h0 : (∃ j, c = some j ∧ ¬ bt (-1) (fiF ch) t j) → ∀ L', FrL [(16, 0, 4), (21, 1, 2)] L L' → BsAt I L' (fiF ch) c → Q (.inl none) (gE Lx) I L' e) :
    Wp 69 0 [(0, .ref 2), (1, .int (Int32.ofInt ((t / 2 : Nat) : Int)))] [] (gE Lx) I L e (kcp (Wp 196) 196 25 0 [(0, .ref 1), (1, .int (Int32.ofInt ((t / 2 : Nat) : Int))), (2, .int (Int32.ofInt op))] 71 [.int (Int32.ofInt (fiS t)), .ref 16] Q) := by
  have hi : t / 2 < 184 := by omega
  have tb := tg_b hi
  have sb := fiS_b t
  have hB := (wSeen_B hok (Nat.le_refl _)).le (show (32845824 : Int) ≤ 4611686018427387904 by decide)
  refine c_69 hT hi (kcp_v rfl (s_196_28 (c_70 hT hi (kcp_v rfl (s_196_37 ?_)))))
  rw [i2l (by omega), i2l (by omega)]
  refine c_75 (by simp) hW hB (by omega) (fun L2 hf2 hW2 => kcp_v rfl (s_196_41 ?_))
  have hs2 : BsAt I L2 (fiF ch) c := hs.cg rfl (hf2 21 1 rfl) (hf2 21 2 rfl)
  refine n_3 (k := t) hW2 rfl (fi_ok hok h4 ht).1 (fun j hj => (fi_ok hok h4 (hI j hj).2.1).1) hs2 (fun hb I4 L4 hf4 hl4 hs4 => kcp_v rfl (s_196_62 (j_1 ?_))) (fun hb => kcp_v rfl (s_196_62 (j_0 (h0 hb L2 (hf2.up rfl) hs2))))
  have hff := FrL.tr (S := [(16, 0, 4), (21, 1, 2)]) hf2 hl4 rfl rfl
  have hop2 : op = 0 ∨ op = 1 := by omega
  rcases hop2 with h2 | h2
  · subst h2
    exact b_0 (h1 hb _ L4 (FrI.wu (FrI.wu (hf4.up rfl) rfl) rfl) hff (hs4.cg rfl rfl rfl) (by rw [u_ne (by decide), u_at]) u_at)
  · subst h2
    exact b_1 (h1 hb _ L4 (FrI.wu (FrI.wu (hf4.up rfl) rfl) rfl) hff (hs4.cg rfl rfl rfl) (by rw [u_ne (by decide), u_at]) u_at)
def fiZ (I : Mi) (c : Option Nat) : Prop := ∀ t, c = some t → I 21 5 = .ofInt ((t / 2 : Nat) : Int) ∧ I 21 6 = .ofInt (1 - ((t % 2 : Nat) : Int))
set_option maxHeartbeats 8000000 in
theorem l_195 {I0 : Mi} {ch : Ch} (hok : ChOk ch) (h4 : ch.2.2.2.1 < 4) (hT0 : TabAt I0) {n : Nat} (hn : 2 ≤ n ∧ n ≤ 3) : ∀ (s i : Nat) (c : Option Nat), i + s = 184 → abI (fiC n) (2 * i) c → ∀ (I : Mi) (L : Ml), FrI [(21, 0, 0)] I0 I → WvAt L 15 (wSeen ch ch.2.2.2.1) → BsAt I L (fiF ch) c → fiZ I c →
    (∀ I' L', FrI [(21, 0, 0)] I0 I' → BsAt I' L' (fiF ch) (ab (fiC n) (-1) (fiF ch) (2 * s) (2 * i) c) → fiZ I' (ab (fiC n) (-1) (fiF ch) (2 * s) (2 * i) c) → Q (.inl none) (gE Lx) I' L' e) →
    Wp 195 27 [(0, .ref 1), (1, .int (Int32.ofInt n)), (2, .int (Int32.ofInt i))] [] (gE Lx) I L e Q := by
  intro s
  induction s with
  | zero =>
    intro i c hi hI I L hf hW hs hz h
    exact s_195_27 (i_lt32 (by omega) (by omega) (fun _ => by omega) (fun _ => h I L hf hs hz))
  | succ s ih =>
    intro i c hi hI I L hf hW hs hz h
    have hi2 : i < 184 := by omega
    have tb := tg_b hi2
    have hT : TabAt I := hT0.cg (hf.at rfl) (hf.at rfl)
    have a0 : (2 * i) / 2 = i := by omega
    have a1 : (2 * i) % 2 = 0 := by omega
    have b0 : (2 * i + 1) / 2 = i := by omega
    have b1 : (2 * i + 1) % 2 = 1 := by omega
    have f0 : fiS (2 * i) = 1 := by unfold fiS; rw [if_pos a1]
    have f1 : fiS (2 * i + 1) = 2 := by unfold fiS; rw [if_neg (by omega)]
    have c0 : fiC n (2 * i) ↔ (tN (tgU i) (tgL i) (n - 1)).2 = 0 := by
      unfold fiC
      rw [a0, if_pos a1]
      exact ⟨fun q => q.2, fun q => ⟨by omega, q⟩⟩
    have c1 : fiC n (2 * i + 1) ↔ (tN (tgU i) (tgL i) (n - 1)).1 = 0 := by
      unfold fiC
      rw [b0, if_neg (by omega)]
      exact ⟨fun q => q.2, fun q => ⟨by omega, q⟩⟩
    have tnb := tN_b (tg_t hi2).nz tb.1 tb.2 (n - 1)
    have p24 : (12 : Int) * 24 ^ (n - 1) ≤ 6912 := by
      have : n = 2 ∨ n = 3 := by omega
      rcases this with rfl | rfl <;> decide
    rw [show 2 * (s + 1) = (2 * s + 1) + 1 by omega] at h
    have e0 : ∀ d, ab (fiC n) (-1) (fiF ch) (2 * s + 1 + 1) (2 * i) d = ab (fiC n) (-1) (fiF ch) (2 * s) (2 * (i + 1)) (stp1 (fiC n) (-1) (fiF ch) (2 * i + 1) (stp1 (fiC n) (-1) (fiF ch) (2 * i) d)) := fun d => rfl
    rw [e0] at h
    have go1 : ∀ d, abI (fiC n) (2 * i + 1) d → stp1 (fiC n) (-1) (fiF ch) (2 * i) c = d → ∀ (I2 : Mi) (L2 : Ml), FrI [(21, 0, 0)] I0 I2 → WvAt L2 15 (wSeen ch ch.2.2.2.1) → BsAt I2 L2 (fiF ch) d → fiZ I2 d → L2 18 0 = .ofInt (tN (tgU i) (tgL i) (n - 1)).1 → Wp 195 78 [(0, .ref 1), (1, .int (Int32.ofInt n)), (2, .int (Int32.ofInt (i : Int)))] [] (gE Lx) I2 L2 e Q := by
      intro d hdI hd I2 L2 hf2 hW2 hs2 hz2 h18
      rw [hd] at h
      have hT2 : TabAt I2 := hT0.cg (hf2.at rfl) (hf2.at rfl)
      have nx : ∀ d2, abI (fiC n) (2 * (i + 1)) d2 → stp1 (fiC n) (-1) (fiF ch) (2 * i + 1) d = d2 → ∀ (I3 : Mi) (L3 : Ml), FrI [(21, 0, 0)] I0 I3 → WvAt L3 15 (wSeen ch ch.2.2.2.1) → BsAt I3 L3 (fiF ch) d2 → fiZ I3 d2 → Wp 195 96 [(0, .ref 1), (1, .int (Int32.ofInt n)), (2, .int (Int32.ofInt (i : Int)))] [] (gE Lx) I3 L3 e Q := by
        intro d2 hdI2 hd2 I3 L3 hf3 hW3 hs3 hz3
        rw [hd2] at h
        refine s_195_96 ?_
        rw [add32]
        have := ih (i + 1) d2 (by omega) hdI2 I3 L3 hf3 hW3 hs3 hz3 h
        exact this
      refine s_195_78 ?_
      rw [h18]
      have up1 : abI (fiC n) (2 * (i + 1)) d := fun j hj => ⟨by have := (hdI j hj).1; omega, (hdI j hj).2⟩
      refine i_eq64 (by omega) (by omega) (fun q => ?_) (fun q => nx d up1 (stp_n (fun w => q (c1.mp w))) I2 L2 hf2 hW2 hs2 hz2)
      have := n_196 (Lx := Lx) (e := e) (Q := kcp (Wp 195) 195 93 0 [(0, .ref 1), (1, .int (Int32.ofInt n)), (2, .int (Int32.ofInt (i : Int)))] 71 [] Q) (L := ul (ul (ul (ul L2 16 0 (L2 15 0)) 16 1 (L2 15 1)) 16 2 (L2 15 2)) 16 3 (L2 15 3)) hok h4 hT2 (t := 2 * i + 1) (by omega) (op := 0) (by omega) (n := n) (c := d) hdI ⟨hW2.1, hW2.2.1, hW2.2.2.1, hW2.2.2.2⟩ (hs2.cg rfl rfl rfl) (fun hb I4 L4 hf4 hl4 hs4 z5 z6 => kcp_v rfl (nx (some (2 * i + 1)) (fun j hj => by cases hj; exact ⟨by omega, c1.mpr q⟩) (stp_t (c1.mpr q) hb) I4 L4 (FrI.tr hf2 hf4 rfl rfl) (hW2.cg (hl4.at rfl)) hs4 (fun t ht => by cases ht; exact ⟨z5, by rw [b1]; exact z6⟩))) (fun hb L4 hl4 hs4 => kcp_v rfl (nx d up1 (stp_f hb) I2 L4 hf2 (hW2.cg (hl4.at rfl)) hs4 hz2))
      rw [b0, f1] at this
      exact this
    refine s_195_27 (i_lt32 (by omega) (by omega) (fun _ => ?_) (fun _ => by omega))
    refine c_69 hT hi2 (kcp_v rfl (s_195_46 (c_70 hT hi2 (kcp_v rfl (s_195_55 ?_)))))
    rw [i2l (by omega), i2l (by omega)]
    refine c_30 (by omega) (tg_t hi2).nz tb.1 tb.2 (fun L1 hf1 hv1 => kcp_v rfl (s_195_60 ?_))
    have hW1 : WvAt L1 15 (wSeen ch ch.2.2.2.1) := hW.cg (hf1.at rfl)
    have hs1 : BsAt I L1 (fiF ch) c := hs.cg rfl (hf1 21 1 rfl) (hf1 21 2 rfl)
    rw [hv1.2]
    have up0 : abI (fiC n) (2 * i + 1) c := fun j hj => ⟨by have := (hI j hj).1; omega, (hI j hj).2⟩
    refine i_eq64 (by omega) (by omega) (fun q => ?_) (fun q => go1 c up0 (stp_n (fun w => q (c0.mp w))) I L1 hf hW1 hs1 hz hv1.1)
    have := n_196 (Lx := Lx) (e := e) (Q := kcp (Wp 195) 195 75 0 [(0, .ref 1), (1, .int (Int32.ofInt n)), (2, .int (Int32.ofInt (i : Int)))] 71 [] Q) (L := ul (ul (ul (ul L1 16 0 (L1 15 0)) 16 1 (L1 15 1)) 16 2 (L1 15 2)) 16 3 (L1 15 3)) hok h4 hT (t := 2 * i) (by omega) (op := 1) (by omega) (n := n) (c := c) hI ⟨hW1.1, hW1.2.1, hW1.2.2.1, hW1.2.2.2⟩ (hs1.cg rfl rfl rfl) (fun hb I4 L4 hf4 hl4 hs4 z5 z6 => kcp_v rfl (go1 (some (2 * i)) (fun j hj => by cases hj; exact ⟨by omega, c0.mpr q⟩) (stp_t (c0.mpr q) hb) I4 L4 (FrI.tr hf hf4 rfl rfl) (hW1.cg (hl4.at rfl)) hs4 (fun t ht => by cases ht; exact ⟨z5, by rw [a1]; exact z6⟩) ((hl4 18 0 rfl).trans hv1.1))) (fun hb L4 hl4 hs4 => kcp_v rfl (go1 c up0 (stp_f hb) I L4 hf (hW1.cg (hl4.at rfl)) hs4 hz ((hl4 18 0 rfl).trans hv1.1)))
    rw [a0, f0] at this
    exact this
set_option maxHeartbeats 4000000 in
theorem h_410 {ch : Ch} (hok : ChOk ch) (hc : ChAt I 5 ch) (hT : TabAt I) {n wh : Int} (hn : R32 n) (hwh : R32 wh) (h : CQ Lx I e Q (spFil ch n wh).1 (spFil ch n wh).2) :
    Wp 410 0 [(0, .ref 1), (1, .int (Int32.ofInt n)), (2, .int (Int32.ofInt wh)), (3, .ref 70)] [] (gE Lx) I L e Q := by
  have h4 := hok.2.2.2.1
  refine s_410_0 ?_
  rw [hc.2.2.2.1]
  unfold spFil at h
  have one : wh < 0 ∨ 3 < wh → Q (.inl (some (.int (Int32.ofInt 1)))) (gE Lx) I L (e + 1) := fun q => by
    rw [if_pos q] at h
    exact h.mk (c := 1) FrI.rf (by omega) rfl (fun z => by cases z)
  refine i_ltz hwh (fun k => one (by omega)) (fun a1 => i_lt32 (by omega) hwh (fun k => one (by omega)) (fun a2 => ?_))
  rw [if_neg (by omega)] at h
  have two : n < 2 ∨ 3 < n → Q (.inl (some (.int (Int32.ofInt 2)))) (gE Lx) I L (e + 1) := fun q => by
    rw [if_pos q] at h
    exact h.mk (c := 2) FrI.rf (by omega) rfl (fun z => by cases z)
  refine i_lt32 hn (by omega) (fun k => two (by omega)) (fun a3 => i_lt32 (by omega) hn (fun k => two (by omega)) (fun a4 => ?_))
  rw [if_neg (by omega)] at h
  refine i_lt32 (by omega) (by omega) (fun k4 => ?_) (fun k4 => ?_)
  rotate_left
  · rw [if_pos (by omega)] at h
    exact h.mk (c := 3) FrI.rf (by omega) rfl (fun z => by cases z)
  rw [if_neg (by omega)] at h
  obtain ⟨n2, rfl, hn2⟩ := nat_of (m := n) (n := 3) (by omega) (by omega)
  rw [Int.toNat_natCast] at h
  have hc2 : ChAt (ui I 21 0 (Int32.ofInt 0)) 5 ch := hc.cg rfl rfl rfl rfl
  refine s_195_0 ?_
  rw [hc.2.2.2.1]
  refine c_106 (Or.inr rfl) hok hc2 (Nat.le_refl _) (fun L1 hf1 hW1 => kcp_v rfl (s_195_25 ?_))
  refine l_195 (I0 := I) hok (by omega) hT (n := n2) (by omega) 184 0 none (by omega) (fun j hj => by cases hj) _ L1 (FrI.wu FrI.rf rfl) hW1 u_at (fun t ht => by cases ht) (fun I3 L3 hf3 hs3 h23 => kcp_v rfl (s_194_48 ?_))
  have hff : FrI cS I I3 := hf3.up rfl
  have hres : ab (fiC n2) (-1) (fiF ch) (2 * 184) (2 * 0) none = fiB ch n2 := rfl
  rw [hres] at hs3 h23
  have hBI := ab_I (C := fiC n2) (w := -1) (f := fiF ch) 368 0 none (fun j h => by cases h)
  have hT2 : TabAt I3 := hT.cg (hf3.at rfl) (hf3.at rfl)
  cases hB : fiB ch n2 with
  | none =>
    rw [hB] at hs3 h
    have hs3 : I3 21 0 = .ofInt 0 := hs3
    have h : CQ Lx I e Q 0 (-1) := h
    rw [hs3]
    exact j_0 (kcp_v rfl (s_410_8 (i_inb0 (by decide) (h.mk (c := 0) hff (by omega) rfl (fun _ => by rw [o70, i2l (by omega)])))))
  | some t =>
    rw [hB] at hs3 h h23
    rw [fiV_s] at h
    have htc := (hBI t hB).2
    have hi : t / 2 < 184 := by have := htc.1; omega
    have ho := (fi_ok hok (by omega) htc.1).1
    have tpb := tpt_b ho
    have tb := tg_b hi
    obtain ⟨s0, s1, s2⟩ := hs3
    obtain ⟨z5, z6⟩ := h23 t rfl
    obtain ⟨o1, o2, o3⟩ := id ho
    rw [s0, z5, z6]
    refine j_1 ?_
    have fin : ∀ v : Int, R32 v → (if (fiF ch t).1 = (fiF ch t).2 then -1 else if wh = 0 then tgU (t / 2) else if wh = 1 then tgL (t / 2) else if wh = 2 then 1 - ((t % 2 : Nat) : Int) else tpt (fiF ch t)) = v → Wp 194 98 [(0, .ref 1)] [.int (Int32.ofInt v)] (gE Lx) I3 L3 e (kcp (Wp 410) 410 5 0 [(0, .ref 1), (3, .ref 70)] 71 [.int (Int32.ofInt 0), .ref 70] Q) := fun v hv hvv => by
      rw [hvv] at h
      exact s_194_98 (kcp_v rfl (s_410_8 (i_inb0 (by decide) (h.mk (c := 0) hff (by omega) rfl (fun _ => by rw [o70, i2l hv])))))
    rw [s1, s2, mul64]
    refine i_eq64 (by omega) (by omega) (fun q => ?_) (fun q => i_eq32 hwh (by omega) (fun k1 => i_eq64 (by omega) (by omega) (fun q2 => by omega) (fun _ => i_nz64 (by omega) (by omega) ?_)) (fun k1 => i_eq32 hwh (by omega) (fun k2 => c_69 hT2 hi (kcp_v rfl (s_161_42 (kcp_v rfl (fin _ (by omega) (by rw [if_neg q, if_pos k2])))))) (fun k2 => i_eq32 hwh (by omega) (fun k3 => c_70 hT2 hi (kcp_v rfl (s_161_57 (kcp_v rfl (fin _ (by omega) (by rw [if_neg q, if_neg k2, if_pos k3])))))) (fun k3 => ?_))))
    · rw [if_pos q] at h
      exact kcp_v rfl (s_410_8 (i_inb0 (by decide) (h.mk (c := 0) hff (by omega) rfl (fun _ => by rw [o70, i2l (by omega)]))))
    · rw [dvp (by omega) (by omega) o2.1 (by omega), l2i]
      exact fin (tpt (fiF ch t)) (by omega) (by rw [if_neg q, if_neg (by omega), if_neg (by omega), if_neg (by omega)])
    · have hm : t % 2 = 0 ∨ t % 2 = 1 := by omega
      refine i_eqz (by omega) (fun k5 => fin 0 (by omega) ?_) (fun k5 => fin 1 (by omega) ?_)
      · rw [if_neg q, if_neg k2, if_neg k3, if_pos (by omega)]; omega
      · rw [if_neg q, if_neg k2, if_neg k3, if_pos (by omega)]; omega
def fiY (I : Mi) (c : Option Nat) : Prop := ∀ t, c = some t → I 58 27 = .ofInt ((t / 2 : Nat) : Int) ∧ I 58 28 = .ofInt (1 - ((t % 2 : Nat) : Int))
set_option maxHeartbeats 8000000 in
theorem l_326 {I0 : Mi} {L0 : Ml} {ch : Ch} (hok : ChOk ch) (h4 : ch.2.2.2.1 < 4) (hc0 : BnAt I0 59 0 ch) (hT0 : TabRt I0) {n : Nat} (hn : 2 ≤ n ∧ n ≤ 3) {wh : Int} (hwh : R32 wh) (hwh2 : 0 ≤ wh ∧ wh ≤ 3) : ∀ (s t : Nat) (c : Option Nat), t + s = 368 → abI (fiC n) t c → ∀ (I : Mi) (L : Ml), FrI [(58, 27, 4)] I0 I → L 70 = L0 70 → LeAt I L (fiF ch) c → fiY I c →
    (∀ I' L', FrI [(58, 27, 4)] I0 I' → L' 70 = L0 70 → Q (.inl (some (.int (Int32.ofInt (fiV ch wh (ab (fiC n) (-1) (fiF ch) s t c)))))) (gE Lx) I' L' e) →
    Wp 326 58 [(0, .ref 58), (1, .int (Int32.ofInt n)), (2, .int (Int32.ofInt wh)), (3, .int (Int32.ofInt t))] [] (gE Lx) I L e Q := by
  intro s
  induction s with
  | zero =>
    intro t c ht hI I L hf hl hs hy h
    have hT : TabRt I := hT0.cg (hf 58 7 rfl) (hf.at rfl) (hf.at rfl)
    have h2 := h I L hf hl
    refine s_326_58 ?_
    rw [hT.1, mul32]
    refine i_lt32 (by omega) (by omega) (fun _ => by omega) (fun _ => ?_)
    have hab : ab (fiC n) (-1) (fiF ch) 0 t c = c := rfl
    rw [hab] at h2
    cases c with
    | none =>
      have hs : I 58 30 = .ofInt 0 := hs
      rw [hs]
      exact j_0 h2
    | some j =>
      rw [fiV_s] at h2
      have htc := (hI j rfl).2
      have hi : j / 2 < 184 := by have := htc.1; omega
      have ho := (fi_ok hok h4 htc.1).1
      obtain ⟨s0, s1, s2⟩ := hs
      obtain ⟨z5, z6⟩ := hy j rfl
      obtain ⟨o1, o2, o3⟩ := id ho
      have cj := fr_b o1.1 o2.1
      have hul := fr_le o1.1 o2.1 o3
      have heq := fr_eq o1.1 o2.1
      rw [s0, z5, z6, s1, s2, tncn (k := j / 2) (by omega), (hT.2 _ hi).1, (hT.2 _ hi).2]
      refine j_1 (i_eq64 (by omega) (by omega) (fun q => ?_) (fun q => i_eqz hwh (fun k1 => i_inb (by omega) hi (s_326_214 ?_)) (fun k1 => i_eq32 hwh (by omega) (fun k2 => i_inb (by omega) hi (s_326_214 ?_)) (fun k2 => i_eq32 hwh (by omega) (fun k3 => s_326_214 ?_) (fun k3 => c_320 (by omega) (by omega) hul (kcp_v rfl (s_319_11 (kcp_v rfl (s_326_214 ?_)))))))))
      · rw [if_pos (heq.mp q)] at h2; exact h2
      · rw [if_neg (fun w => q (heq.mpr w)), if_pos k1] at h2; exact h2
      · rw [if_neg (fun w => q (heq.mpr w)), if_neg k1, if_pos k2] at h2; exact h2
      · rw [if_neg (fun w => q (heq.mpr w)), if_neg k1, if_neg k2, if_pos k3] at h2; exact h2
      · rw [if_neg (fun w => q (heq.mpr w)), if_neg k1, if_neg k2, if_neg k3] at h2; rw [tpt_red ho]; exact h2
  | succ s ih =>
    intro t c ht hI I L hf hl hs hy h
    have hT : TabRt I := hT0.cg (hf 58 7 rfl) (hf.at rfl) (hf.at rfl)
    have hc : BnAt I 59 0 ch := hc0.cg (hf.at rfl)
    have e3 : I 59 3 = Int32.ofInt (ch.2.2.2.1 : Int) := hc.2.2.2.1
    have hi : t / 2 < 184 := by omega
    have tb := tg_b hi
    have tnb := tN_b (tg_t hi).nz tb.1 tb.2 (n - 1)
    have p24 : (12 : Int) * 24 ^ (n - 1) ≤ 6912 := by
      have : n = 2 ∨ n = 3 := by omega
      rcases this with rfl | rfl <;> decide
    unfold ab at h
    have stay : stp1 (fiC n) (-1) (fiF ch) t c = c → ∀ L2, L2 70 = L0 70 → LeAt I L2 (fiF ch) c → Wp 326 138 [(0, .ref 58), (1, .int (Int32.ofInt n)), (2, .int (Int32.ofInt wh)), (3, .int (Int32.ofInt (t : Int)))] [] (gE Lx) I L2 e Q := by
      intro q L2 hl2 hs2
      rw [q] at h
      refine s_326_138 ?_
      rw [add32]
      have := ih (t + 1) c (by omega) (fun j hj => ⟨by have := (hI j hj).1; omega, (hI j hj).2⟩) I L2 hf hl2 hs2 hy h
      exact this
    refine s_326_58 ?_
    rw [hT.1, mul32, rm2 (t := t) (by omega), dv2 (t := t) (by omega), sub32, tncn (by omega), (hT.2 _ hi).1, (hT.2 _ hi).2, i2l (by omega), i2l (by omega)]
    refine i_lt32 (by omega) (by omega) (fun _ => i_inb (by omega) hi (i_inb (by omega) hi ?_)) (fun _ => by omega)
    refine c_245 (by omega) (tg_t hi).nz tb.1 tb.2 (fun L1 hf1 u1 l1 => kcp_v rfl (s_327_19 ?_))
    rw [u1, l1]
    have hl1 : L1 70 = L0 70 := (hf1.at rfl).trans hl
    have hle1 : LeAt I L1 (fiF ch) c := hs.cg rfl (hf1 58 25 rfl) (hf1 58 26 rfl)
    have no : ¬ fiC n t → kcp (Wp 326) 326 78 0 [(0, .ref 58), (1, .int (Int32.ofInt n)), (2, .int (Int32.ofInt wh)), (3, .int (Int32.ofInt (t : Int)))] 71 [] Q (.inl (some (.int (Int32.ofInt 0)))) (gE Lx) I L1 e := fun q =>
      kcp_v rfl (s_326_81 (j_0 (stay (stp_n q) L1 hl1 hle1)))
    have hB0 := wSeen_B hok (Nat.le_refl ch.2.2.2.1)
    have hg0 := wSeen_g hok _ (Nat.le_refl ch.2.2.2.1)
    have sb := fiS_b t
    have yes : fiC n t → kcp (Wp 326) 326 78 0 [(0, .ref 58), (1, .int (Int32.ofInt n)), (2, .int (Int32.ofInt wh)), (3, .int (Int32.ofInt (t : Int)))] 71 [] Q (.inl (some (.int (Int32.ofInt 1)))) (gE Lx) I L1 e := by
      intro hC
      obtain ⟨hok1, hg, hBw⟩ := fi_ok hok h4 hC.1
      refine kcp_v rfl (s_326_81 (j_1 ?_))
      rw [e3]
      refine c_227 hok hc (Nat.le_refl _) (fun L2 r2 hf2 hr2 hs2 hB2 => kcp_v rfl (s_326_95 ?_))
      have hl2 : L2 70 = L0 70 := (hf2.at rfl).trans hl1
      have hle2 : LeAt I L2 (fiF ch) c := hle1.cg rfl (hf2 58 25 rfl) (hf2 58 26 rfl)
      have go : Wp 229 0 [(0, .ref 58), (1, .int (Int32.ofInt (fiS t))), (2, .long (Int64.ofInt (tgU (t / 2)))), (4, .long (Int64.ofInt (tgL (t / 2))))] [] (gE Lx) I L2 e (kcp (Wp 326) 326 122 0 [(0, .ref 58), (1, .int (Int32.ofInt n)), (2, .int (Int32.ofInt wh)), (3, .int (Int32.ofInt (t : Int)))] 71 [] Q) := by
        refine c_229w hr2 hs2 hB0 hg0 sb (tg_t hi) (fun L3 r3 hf3 hr3 hs3 => kcp_v rfl (s_326_125 ?_))
        have hs4 : Sc (fiW ch t) r3 := hs3
        rw [rm2 (t := t) (by omega), dv2 (t := t) (by omega), sub32]
        have hl3 : L3 70 = L0 70 := (hf3.at rfl).trans hl2
        have hle3 : LeAt I L3 (fiF ch) c := hle2.cg rfl (hf3 58 25 rfl) (hf3 58 26 rfl)
        refine c_315 (k := t) hr3 hs4 (hs4.wb hBw) hg rfl hok1 (fun j hj => (fi_ok hok h4 (hI j hj).2.1).1) hle3 (fun hb I5 L5 hf5 hl5 hs6 a1 a2 a3 => kcp_v rfl (s_326_138 ?_)) (fun hb L5 hl5 hs6 => kcp_v rfl (stay (stp_f hb) L5 ((hl5.at rfl).trans hl3) hs6))
        rw [stp_t hC hb] at h
        rw [add32]
        have := ih (t + 1) (some t) (by omega) (fun j hj => by cases hj; exact ⟨by omega, hC⟩) I5 L5 (FrI.tr hf hf5 rfl rfl) ((hl5.at rfl).trans hl3) hs6 (fun t2 ht2 => by cases ht2; exact ⟨a1, a2⟩) h
        exact this
      rw [rm2 (t := t) (by omega), dv2 (t := t) (by omega), sub32, tncn (by omega), (hT.2 _ hi).1, (hT.2 _ hi).2, i2l (by omega), i2l (by omega)]
      have hm : t % 2 = 0 ∨ t % 2 = 1 := by omega
      refine i_eq32 (by omega) (by omega) (fun q => ?_) (fun q => ?_)
      · have : fiS t = 1 := by unfold fiS; rw [if_pos (by omega)]
        rw [this] at go
        exact i_inb (by omega) hi (i_inb (by omega) hi go)
      · have : fiS t = 2 := by unfold fiS; rw [if_neg (by omega)]
        rw [this] at go
        exact i_inb (by omega) hi (i_inb (by omega) hi go)
    have hm : t % 2 = 0 ∨ t % 2 = 1 := by omega
    refine i_eq32 (by omega) (by omega) (fun q => i_eq64 (by omega) (by omega) (fun q2 => yes ⟨by omega, by rw [if_pos (by omega)]; exact q2⟩) (fun q2 => no (fun w => q2 (by have := w.2; rw [if_pos (by omega)] at this; exact this)))) (fun q => i_eq64 (by omega) (by omega) (fun q2 => yes ⟨by omega, by rw [if_neg (by omega)]; exact q2⟩) (fun q2 => no (fun w => q2 (by have := w.2; rw [if_neg (by omega)] at this; exact this))))
set_option maxHeartbeats 4000000 in
theorem r_326 {ch : Ch} (hok : ChOk ch) (hc : BnAt I 59 0 ch) (hT : TabRt I) {n wh : Int} (hn : R32 n) (hwh : R32 wh) (h : RQ Lx I L e Q (spFil ch n wh).1 vI (spFil ch n wh).2) :
    Wp 326 0 [(0, .ref 58), (1, .int (Int32.ofInt n)), (2, .int (Int32.ofInt wh))] [] (gE Lx) I L e Q := by
  have h4 := hok.2.2.2.1
  have e3 : I 59 3 = Int32.ofInt (ch.2.2.2.1 : Int) := hc.2.2.2.1
  refine s_326_0 ?_
  rw [e3]
  unfold spFil at h
  have one : wh < 0 ∨ 3 < wh → Q (.inl (some (.int (Int32.ofInt 0)))) (gE Lx) (ui I 58 0 (Int32.ofInt 1)) L e := fun q => by
    rw [if_pos q] at h
    exact h.mk (v := 0) (FrI.wu FrI.rf rfl) rfl (c := 1) u_at rfl (fun z => by cases z)
  refine i_lt32 hwh (by omega) (fun k => one (by omega)) (fun a1 => i_lt32 (by omega) hwh (fun k => one (by omega)) (fun a2 => ?_))
  rw [if_neg (by omega)] at h
  have two : n < 2 ∨ 3 < n → Q (.inl (some (.int (Int32.ofInt 0)))) (gE Lx) (ui I 58 0 (Int32.ofInt 2)) L e := fun q => by
    rw [if_pos q] at h
    exact h.mk (v := 0) (FrI.wu FrI.rf rfl) rfl (c := 2) u_at rfl (fun z => by cases z)
  refine i_lt32 hn (by omega) (fun k => two (by omega)) (fun a3 => i_lt32 (by omega) hn (fun k => two (by omega)) (fun a4 => ?_))
  rw [if_neg (by omega)] at h
  refine i_eq32 (by omega) (by omega) (fun k4 => ?_) (fun k4 => ?_)
  · rw [if_pos (by omega)] at h
    exact h.mk (v := 0) (FrI.wu FrI.rf rfl) rfl (c := 3) u_at rfl (fun z => by cases z)
  rw [if_neg (by omega)] at h
  obtain ⟨n2, rfl, hn2⟩ := nat_of (m := n) (n := 3) (by omega) (by omega)
  rw [Int.toNat_natCast] at h
  refine l_326 (I0 := ui (ui I 58 0 (Int32.ofInt 0)) 58 30 (Int32.ofInt 0)) (L0 := L) hok (by omega) (hc.cg rfl) (hT.cg rfl rfl rfl) (n := n2) (by omega) hwh ⟨a1, a2⟩ 368 0 none (by omega) (fun j hj => by cases hj) _ L FrI.rf rfl u_at (fun t ht => by cases ht) (fun I2 L2 hf2 hl2 => ?_)
  exact h.mk (FrI.tr (A := rS) (FrI.wu (FrI.wu FrI.rf rfl) rfl) hf2 rfl rfl) hl2 (c := 0) ((hf2 58 0 rfl).trans rfl) rfl (fun _ => rfl)
end
