/-! best: both sides. -/
def beF (ch : Ch) (t : Nat) : Int × Int := ecF (beW ch t)
noncomputable def beB (ch : Ch) (m : Int) (t : Nat) : Option Nat := ab (beC m) (-1) (beF ch) t 0 none
theorem beB_I {ch : Ch} {m : Int} (t : Nat) : abI (beC m) t (beB ch m t) := by
  have := ab_I (C := beC m) (w := -1) (f := beF ch) t 0 none (fun j h => by cases h)
  rw [Nat.zero_add] at this
  exact this
noncomputable def beT : Nat := Classical.choose (⟨67712, rfl⟩ : ∃ n : Nat, n = 67712)
theorem beT_e : beT = 67712 := Classical.choose_spec (⟨67712, rfl⟩ : ∃ n : Nat, n = 67712)
theorem beB_s {ch : Ch} {m : Int} (hm : 1 ≤ m) : ∃ t, beB ch m beT = some t := by
  rw [beT_e]
  exact ab_0 (n := 67711) ⟨by decide, ⟨⟨by show -m ≤ (0 : Int); omega, by show (0 : Int) ≤ m; omega⟩, by show (1 : Int) ≤ m; omega⟩, ⟨⟨by show -m ≤ (0 : Int); omega, by show (0 : Int) ≤ m; omega⟩, by show (1 : Int) ≤ m; omega⟩⟩
/-- a line and a stub are told -/
def lsV (t : Nat) (wh : Int) : Int := if wh = 0 then tgU (t / 368) else if wh = 1 then tgL (t / 368) else if wh = 2 then 1 - ((t % 2 : Nat) : Int) else if wh = 3 then tgU (t % 368 / 2) else tgL (t % 368 / 2)
noncomputable def beV (ch : Ch) (wh : Int) : Option Nat → Int
  | none => 0
  | some t => if wh = 5 then tpt (beF ch t) else lsV t wh
noncomputable def spBest (ch : Ch) (m wh : Int) : Nat × Int := if wh < 0 ∨ 5 < wh then (1, 0) else if m < 1 ∨ 4 < m then (2, 0) else if 2 < ch.2.2.2.1 then (3, 0) else (0, beV ch wh (beB ch m beT))
def beY (I : Mi) (c : Option Nat) : Prop := ∀ t, c = some t → I 58 27 = .ofInt ((t / 368 : Nat) : Int) ∧ I 58 28 = .ofInt ((t % 368 / 2 : Nat) : Int) ∧ I 58 29 = .ofInt (1 - ((t % 2 : Nat) : Int))
def beS (I0 : Mi) (L0 : Ml) (ch : Ch) (m : Int) (t : Nat) (I : Mi) (L : Ml) : Prop := FrI [(58, 27, 4)] I0 I ∧ L 70 = L0 70 ∧ LeAt I L (beF ch) (beB ch m t) ∧ beY I (beB ch m t)
section
variable {Lx : Nat} {I : Mi} {L : Ml} {e : Nat} {Q : Kq}
set_option maxHeartbeats 4000000 in
theorem r_309 {ch : Ch} (hok : ChOk ch) (hc : BnAt I 59 0 ch) (hT : TabRt I) {m wh : Int} (hm : R32 m) (hwh : R32 wh) (h : RQ Lx I L e Q (spBest ch m wh).1 vI (spBest ch m wh).2) :
    Wp 309 0 [(0, .ref 58), (1, .int (Int32.ofInt m)), (2, .int (Int32.ofInt wh))] [] (gE Lx) I L e Q := by
  have h4 := hok.2.2.2.1
  have e3 : I 59 3 = Int32.ofInt (ch.2.2.2.1 : Int) := hc.2.2.2.1
  refine s_309_0 ?_
  rw [e3]
  unfold spBest at h
  have one : wh < 0 ∨ 5 < wh → Q (.inl (some (.int (Int32.ofInt 0)))) (gE Lx) (ui I 58 0 (Int32.ofInt 1)) L e := fun q => by
    rw [if_pos q] at h
    exact h.mk (v := 0) (FrI.wu FrI.rf rfl) rfl (c := 1) u_at rfl (fun z => by cases z)
  refine i_lt32 hwh (by omega) (fun k => one (by omega)) (fun a1 => i_lt32 (by omega) hwh (fun k => one (by omega)) (fun a2 => ?_))
  rw [if_neg (by omega)] at h
  have two : m < 1 ∨ 4 < m → Q (.inl (some (.int (Int32.ofInt 0)))) (gE Lx) (ui I 58 0 (Int32.ofInt 2)) L e := fun q => by
    rw [if_pos q] at h
    exact h.mk (v := 0) (FrI.wu FrI.rf rfl) rfl (c := 2) u_at rfl (fun z => by cases z)
  refine i_lt32 hm (by omega) (fun k => two (by omega)) (fun a3 => i_lt32 (by omega) hm (fun k => two (by omega)) (fun a4 => ?_))
  rw [if_neg (by omega)] at h
  refine i_lt32 (by omega) (by omega) (fun k4 => ?_) (fun k4 => ?_)
  · rw [if_pos (by omega)] at h
    exact h.mk (v := 0) (FrI.wu FrI.rf rfl) rfl (c := 3) u_at rfl (fun z => by cases z)
  rw [if_neg (by omega)] at h
  have hn2 : ch.2.2.2.1 ≤ 2 := by omega
  obtain ⟨t, ht⟩ := beB_s (ch := ch) a3
  have htc := (beB_I (ch := ch) (m := m) beT t ht).2
  rw [ht] at h
  have h : RQ Lx I L e Q 0 vI (if wh = 5 then tpt (beF ch t) else lsV t wh) := h
  refine s_310_0 ?_
  have e3' : (ui I 58 0 (Int32.ofInt 0)) 59 3 = Int32.ofInt (ch.2.2.2.1 : Int) := e3
  rw [e3']
  have hc2 : BnAt (ui (ui (ui I 58 0 (Int32.ofInt 0)) 58 30 (Int32.ofInt 0)) 58 32 (Int32.ofInt 0)) 59 0 ch := hc.cg rfl
  have hT2 : TabRt (ui (ui (ui I 58 0 (Int32.ofInt 0)) 58 30 (Int32.ofInt 0)) 58 32 (Int32.ofInt 0)) := hT.cg rfl rfl rfl
  have h0 : (ui (ui (ui I 58 0 (Int32.ofInt 0)) 58 30 (Int32.ofInt 0)) 58 32 (Int32.ofInt 0)) 58 0 = Int32.ofInt 0 := rfl
  have h30 : (ui (ui (ui I 58 0 (Int32.ofInt 0)) 58 30 (Int32.ofInt 0)) 58 32 (Int32.ofInt 0)) 58 30 = Int32.ofInt 0 := rfl
  have hfr : FrI rS I (ui (ui (ui I 58 0 (Int32.ofInt 0)) 58 30 (Int32.ofInt 0)) 58 32 (Int32.ofInt 0)) := FrI.wu (FrI.wu (FrI.wu FrI.rf rfl) rfl) rfl
  generalize ui (ui (ui I 58 0 (Int32.ofInt 0)) 58 30 (Int32.ofInt 0)) 58 32 (Int32.ofInt 0) = I1 at *
  refine c_227 hok hc2 (Nat.le_refl _) (fun L1 r0 hf1 hr0 hs0 hB0 => kcp_v rfl (s_310_17 ?_))
  obtain ⟨v0, v1, v2, v3⟩ := hr0
  have a0 : AsAt (ul (ul (ul (ul L1 63 0 (L1 58 10)) 63 1 (L1 58 11)) 63 2 (L1 58 12)) 63 3 (L1 58 13)) 0 r0 := ⟨v0, v1, v2, v3⟩
  refine l_310 (S := beS I1 L ch m) hok hn2 ⟨a3, by omega⟩ ?_ ?_ ?_ hs0 ?_ ?_ 184 0 (by omega) I1 _ ⟨FrI.rf, (hf1.at rfl), h30, fun t ht => by cases ht⟩ a0
  · intro t I2 L2 L3 hs hf
    exact ⟨hs.1, (hf.at rfl).trans hs.2.1, hs.2.2.1.cg rfl (hf 58 25 rfl) (hf 58 26 rfl), hs.2.2.2⟩
  · intro t I2 L2 hs
    exact hT2.cg (hs.1 58 7 rfl) (hs.1.at rfl) (hs.1.at rfl)
  · intro t I2 L2 hn hs
    have e1 : beB ch m (t + 1) = beB ch m t := by unfold beB; rw [ab_succ, stp_n hn]
    unfold beS
    rw [e1]
    exact hs
  · intro i hi o r I2 L2 ho hC hs hr hsc nx
    obtain ⟨f1, f2, f3, f4⟩ := hs
    have ht6 : 368 * i + o < 67712 := hC.1
    obtain ⟨ok1, ok2, ok3⟩ := be_ok hok hn2 ht6
    have d1 : (368 * i + o) / 368 = i := by omega
    have d2 : (368 * i + o) % 368 / 2 = o / 2 := by omega
    have d3 : (368 * i + o) % 2 = o % 2 := by omega
    have bs : beB ch m (368 * i + o + 1) = stp1 (beC m) (-1) (beF ch) (368 * i + o) (beB ch m (368 * i + o)) := ab_succ
    refine s_310_140 (j_0 ?_)
    rw [rm2 (t := o) (by omega), dv2 (t := o) (by omega), sub32]
    refine c_315 (f := beF ch) (k := 368 * i + o) (c := beB ch m (368 * i + o)) hr hsc (hsc.wb ok3) ok2 rfl ok1 (fun j hj => (be_ok hok hn2 (beB_I _ j hj).2.1).1) f3 (fun hb I5 L5 hf5 hl5 hs6 b1 b2 b3 => kcp_v rfl (s_310_159 ?_)) (fun hb L5 hl5 hs6 => kcp_v rfl (s_310_159 ?_))
    · rw [add32]
      refine nx I5 L5 ⟨FrI.tr f1 hf5 rfl rfl, (hl5.at rfl).trans f2, ?_, ?_⟩ (hl5.at rfl)
      · rw [bs, stp_t hC hb]; exact hs6
      · rw [bs, stp_t hC hb]
        intro t2 ht2
        cases ht2
        rw [d1, d2, d3]
        exact ⟨b1, b2, b3⟩
    · rw [add32]
      refine nx I2 L5 ⟨f1, (hl5.at rfl).trans f2, ?_, ?_⟩ (hl5.at rfl)
      · rw [bs, stp_f hb]; exact hs6
      · rw [bs, stp_f hb]; exact f4
  · intro I2 L2 hs
    rw [← beT_e] at hs
    obtain ⟨f1, f2, f3, f4⟩ := hs
    rw [ht] at f3 f4
    obtain ⟨q1, q2, q3⟩ := f4 t rfl
    obtain ⟨s0, s1, s2⟩ := f3
    have ho := (be_ok hok hn2 htc.1).1
    obtain ⟨o1, o2, o3⟩ := id ho
    have ef : beF ch t = ecF (beW ch t) := rfl
    rw [← ef] at ho o1 o2 o3
    have cj := fr_b o1.1 o2.1
    have hul := fr_le o1.1 o2.1 o3
    have hTT : TabRt I2 := hT2.cg (f1 58 7 rfl) (f1.at rfl) (f1.at rfl)
    have k1 : t / 368 < 184 := by have := htc.1; omega
    have k2 : t % 368 / 2 < 184 := by omega
    have fin : ∀ v : Int, (if wh = 5 then tpt (beF ch t) else lsV t wh) = v → ∀ L3 : Ml, L3 70 = L2 70 → Q (.inl (some (.int (Int32.ofInt v)))) (gE Lx) I2 L3 e := fun v hv L3 hl3 =>
      h.mk (FrI.tr hfr f1 rfl rfl) (hl3.trans f2) (c := 0) ((f1 58 0 rfl).trans h0) rfl (fun _ => hv.symm)
    unfold lsV at fin
    refine kcp_v rfl (s_309_58 ?_)
    rw [q1, q2, q3, s1, s2, tncn (k := t / 368) (by omega), tncn (k := t % 368 / 2) (by omega), (hTT.2 _ k1).1, (hTT.2 _ k1).2, (hTT.2 _ k2).1, (hTT.2 _ k2).2]
    refine i_eq32 hwh (by omega) (fun w5 => c_320 (by omega) (by omega) hul (kcp_v rfl (s_319_11 (kcp_v rfl (s_309_67 ?_))))) (fun w5 => i_eq32 hwh (by omega) (fun w0 => i_inb (by omega) k1 (fin _ ?_ L2 rfl)) (fun w0 => i_eq32 hwh (by omega) (fun w1 => i_inb (by omega) k1 (fin _ ?_ L2 rfl)) (fun w1 => i_eq32 hwh (by omega) (fun w2 => fin _ ?_ L2 rfl) (fun w2 => i_eq32 hwh (by omega) (fun w3 => i_inb (by omega) k2 (fin _ ?_ L2 rfl)) (fun w3 => i_inb (by omega) k2 (fin _ ?_ L2 rfl))))))
    · rw [tpt_red ho]
      exact fin _ (by rw [if_pos w5]) L2 rfl
    · rw [if_neg w5, if_pos w0]
    · rw [if_neg w5, if_neg w0, if_pos w1]
    · rw [if_neg w5, if_neg w0, if_neg w1, if_pos w2]
    · rw [if_neg w5, if_neg w0, if_neg w1, if_neg w2, if_pos w3]
    · rw [if_neg w5, if_neg w0, if_neg w1, if_neg w2, if_neg w3]
def beZ (I : Mi) (c : Option Nat) : Prop := ∀ t, c = some t → I 21 4 = .ofInt ((t / 368 : Nat) : Int) ∧ I 21 5 = .ofInt ((t % 368 / 2 : Nat) : Int) ∧ I 21 6 = .ofInt (1 - ((t % 2 : Nat) : Int))
set_option maxHeartbeats 4000000 in
/-- one stub that is tried -/
theorem n_183 {ch : Ch} (hok : ChOk ch) (h2 : ch.2.2.2.1 ≤ 2) (hT : TabAt I) {m : Int} {i j s : Nat} (hi : i < 184) (hj : j < 184) (hs2 : s ≤ 1) (hC : beC m (368 * i + (2 * j + s))) (hW : WvAt L 16 (wLine (tgU i) (tgL i) (wSeen ch ch.2.2.2.1))) (hs : BsAt I L (beF ch) (beB ch m (368 * i + (2 * j + s)))) (hz : beZ I (beB ch m (368 * i + (2 * j + s))))
    (h : ∀ I' L', FrI [(21, 0, 0)] I I' → FrL [(16, 0, 4), (21, 1, 2)] L L' → BsAt I' L' (beF ch) (beB ch m (368 * i + (2 * j + s) + 1)) → beZ I' (beB ch m (368 * i + (2 * j + s) + 1)) → Wp 183 12 [(0, .ref 1), (1, .int (Int32.ofInt i)), (2, .int (Int32.ofInt m)), (3, .int (Int32.ofInt j)), (4, .int (Int32.ofInt ((s + 1 : Nat) : Int)))] [] (gE Lx) I' L' e Q) :
    Wp 69 0 [(0, .ref 2), (1, .int (Int32.ofInt (j : Int)))] [] (gE Lx) I L e (kcp (Wp 183) 183 64 0 [(0, .ref 1), (1, .int (Int32.ofInt i)), (2, .int (Int32.ofInt m)), (3, .int (Int32.ofInt j)), (4, .int (Int32.ofInt s))] 71 [.int (Int32.ofInt (fiS (2 * j + s))), .ref 16] Q) := by
  have tb := tg_b hj
  have sb := fiS_b (2 * j + s)
  have o3 : 2 * j + s < 368 := by omega
  obtain ⟨lg, lb⟩ := li_ok hok h2 hi
  have ht6 := hC.1
  obtain ⟨ok1, ok2, ok3⟩ := be_ok hok h2 ht6
  have ew := beW_a (ch := ch) (i := i) o3
  rw [show (2 * j + s) / 2 = j by omega] at ew
  have d1 : (368 * i + (2 * j + s)) / 368 = i := by omega
  have d2 : (368 * i + (2 * j + s)) % 368 / 2 = j := by omega
  have d3 : (368 * i + (2 * j + s)) % 2 = s := by omega
  have bs : beB ch m (368 * i + (2 * j + s) + 1) = stp1 (beC m) (-1) (beF ch) (368 * i + (2 * j + s)) (beB ch m (368 * i + (2 * j + s))) := ab_succ
  refine c_69 hT hj (kcp_v rfl (s_183_67 (c_70 hT hj (kcp_v rfl (s_183_76 ?_)))))
  rw [i2l (by omega), i2l (by omega)]
  refine c_75 (by simp) hW (lb.le (by decide)) (by omega) (fun L2 hf2 hW2 => kcp_v rfl (s_183_80 ?_))
  rw [← ew] at hW2
  have hs3 := hs.cg (L' := L2) (I' := I) rfl (hf2 21 1 rfl) (hf2 21 2 rfl)
  refine n_3 (f := beF ch) (k := 368 * i + (2 * j + s)) hW2 rfl ok1 (fun t ht => (be_ok hok h2 (beB_I _ t ht).2.1).1) hs3 (fun hb I4 L4 hf4 hl4 hs4 => kcp_v rfl (s_183_101 (j_1 ?_))) (fun hb => kcp_v rfl (s_183_101 (j_0 ?_)))
  · have hff := FrL.tr (S := [(16, 0, 4), (21, 1, 2)]) hf2 hl4 rfl rfl
    rw [add32]
    have hs5 : s = 0 ∨ s = 1 := by omega
    rw [bs, stp_t hC hb] at h
    refine i_eqz (by omega) (fun q => ?_) (fun q => ?_)
    · refine h _ L4 (FrI.wu (FrI.wu (FrI.wu (hf4.up rfl) rfl) rfl) rfl) hff (hs4.cg rfl rfl rfl) (fun t ht => ?_)
      cases ht
      rw [d1, d2, d3]
      refine ⟨by rw [u_ne (by decide), u_ne (by decide), u_at], by rw [u_ne (by decide), u_at], ?_⟩
      rw [u_at]
      congr 1
      omega
    · refine h _ L4 (FrI.wu (FrI.wu (FrI.wu (hf4.up rfl) rfl) rfl) rfl) hff (hs4.cg rfl rfl rfl) (fun t ht => ?_)
      cases ht
      rw [d1, d2, d3]
      refine ⟨by rw [u_ne (by decide), u_ne (by decide), u_at], by rw [u_ne (by decide), u_at], ?_⟩
      rw [u_at]
      congr 1
      omega
  · rw [add32]
    rw [bs, stp_f hb] at h
    exact h I L2 FrI.rf (hf2.up rfl) hs3 hz
set_option maxHeartbeats 8000000 in
theorem l_183 {I0 : Mi} {ch : Ch} (hok : ChOk ch) (h2 : ch.2.2.2.1 ≤ 2) (hT0 : TabAt I0) {m : Int} (hm : 1 ≤ m ∧ m ≤ 12) {i : Nat} (hi : i < 184) (hsi : sml m i) {w0 : Wv}
    (fin : ∀ I' L', FrI [(21, 0, 0)] I0 I' → WvAt L' 15 w0 → BsAt I' L' (beF ch) (beB ch m (368 * (i + 1))) → beZ I' (beB ch m (368 * (i + 1))) → Q (.inl none) (gE Lx) I' L' e) :
    ∀ (s j : Nat), j + s = 184 → ∀ (I : Mi) (L : Ml), FrI [(21, 0, 0)] I0 I → WvAt L 14 (wLine (tgU i) (tgL i) (wSeen ch ch.2.2.2.1)) → WvAt L 15 w0 → BsAt I L (beF ch) (beB ch m (368 * i + 2 * j)) → beZ I (beB ch m (368 * i + 2 * j)) →
    Wp 183 2 [(0, .ref 1), (1, .int (Int32.ofInt i)), (2, .int (Int32.ofInt m)), (3, .int (Int32.ofInt j))] [] (gE Lx) I L e Q := by
  intro s
  induction s with
  | zero =>
    intro j hj I L hf hW hW5 hs hz
    have : j = 184 := by omega
    subst this
    exact s_183_2 (i_lt32 (by omega) (by omega) (fun _ => by omega) (fun _ => fin I L hf hW5 (by rw [show 368 * (i + 1) = 368 * i + 2 * 184 by omega]; exact hs) (by rw [show 368 * (i + 1) = 368 * i + 2 * 184 by omega]; exact hz)))
  | succ s ih =>
    intro j hj I L hf hW hW5 hs hz
    have hj2 : j < 184 := by omega
    have hT : TabAt I := hT0.cg (hf.at rfl) (hf.at rfl)
    have nx : ∀ (I' : Mi) (L' : Ml), FrI [(21, 0, 0)] I0 I' → WvAt L' 14 (wLine (tgU i) (tgL i) (wSeen ch ch.2.2.2.1)) → WvAt L' 15 w0 → BsAt I' L' (beF ch) (beB ch m (368 * i + 2 * j + 1 + 1)) → beZ I' (beB ch m (368 * i + 2 * j + 1 + 1)) → Wp 183 2 [(0, .ref 1), (1, .int (Int32.ofInt i)), (2, .int (Int32.ofInt m)), (3, .int (Int32.ofInt (j : Int) + Int32.ofInt 1))] [] (gE Lx) I' L' e Q := by
      intro I' L' f1 f2 f3 f4 f5
      rw [add32]
      have e1 : 368 * i + 2 * j + 1 + 1 = 368 * i + 2 * (j + 1) := by omega
      rw [e1] at f4 f5
      have := ih (j + 1) (by omega) I' L' f1 f2 f3 f4 f5
      exact this
    have hC0 : beC m (368 * i + (2 * j + 0)) ↔ sml m j := by
      have := beC_a (m := m) (i := i) (o := 2 * j + 0) hi (by omega)
      rw [show (2 * j + 0) / 2 = j by omega] at this
      rw [this]
      exact ⟨fun q => q.2, fun q => ⟨hsi, q⟩⟩
    have hC1 : beC m (368 * i + (2 * j + 1)) ↔ sml m j := by
      have := beC_a (m := m) (i := i) (o := 2 * j + 1) hi (by omega)
      rw [show (2 * j + 1) / 2 = j by omega] at this
      rw [this]
      exact ⟨fun q => q.2, fun q => ⟨hsi, q⟩⟩
    refine s_183_2 (i_lt32 (by omega) (by omega) (fun _ => s_183_12 (i_lt32 (by omega) (by omega) (fun _ => ?_) (fun _ => by omega))) (fun _ => by omega))
    refine c_71 hT hj2 hm (fun q => kcp_v rfl (s_183_27 (j_1 (i_eqz (by omega) (fun _ => ?_) (fun q2 => absurd rfl q2))))) (fun q => kcp_v rfl (s_183_27 (j_0 ?_)))
    · have f0 : fiS (2 * j + 0) = 1 := by unfold fiS; rw [if_pos (by omega)]
      have hC := hC0.mpr q
      have := n_183 (Lx := Lx) (e := e) (Q := Q) (L := ul (ul (ul (ul L 16 0 (L 14 0)) 16 1 (L 14 1)) 16 2 (L 14 2)) 16 3 (L 14 3)) hok h2 hT (m := m) hi hj2 (show 0 ≤ 1 by decide) hC ⟨hW.1, hW.2.1, hW.2.2.1, hW.2.2.2⟩ (hs.cg rfl rfl rfl) hz (fun I2 L2 hf2 hl2 hs2 hz2 => ?_)
      · rw [f0] at this
        exact this
      · have hTT : TabAt I2 := hT.cg (hf2.at rfl) (hf2.at rfl)
        have hW2 : WvAt L2 14 (wLine (tgU i) (tgL i) (wSeen ch ch.2.2.2.1)) := hW.cg (hl2.at rfl)
        have hW52 : WvAt L2 15 w0 := hW5.cg (hl2.at rfl)
        have f1 : fiS (2 * j + 1) = 2 := by unfold fiS; rw [if_neg (by omega)]
        have hCb := hC1.mpr q
        refine s_183_12 (i_lt32 (by omega) (by omega) (fun _ => ?_) (fun _ => by omega))
        refine c_71 hTT hj2 hm (fun _ => kcp_v rfl (s_183_27 (j_1 (i_eqz (by omega) (fun q2 => by omega) (fun _ => ?_))))) (fun q3 => absurd q q3)
        have := n_183 (Lx := Lx) (e := e) (Q := Q) (L := ul (ul (ul (ul L2 16 0 (L2 14 0)) 16 1 (L2 14 1)) 16 2 (L2 14 2)) 16 3 (L2 14 3)) hok h2 hTT (m := m) hi hj2 (show 1 ≤ 1 by decide) hCb ⟨hW2.1, hW2.2.1, hW2.2.2.1, hW2.2.2.2⟩ (hs2.cg rfl rfl rfl) hz2 (fun I3 L3 hf3 hl3 hs3 hz3 => ?_)
        · rw [f1] at this
          exact this
        · refine s_183_12 (i_lt32 (by omega) (by omega) (fun _ => by omega) (fun _ => ?_))
          exact nx I3 L3 (FrI.tr (S := [(21, 0, 0)]) (FrI.tr (S := [(21, 0, 0)]) hf hf2 rfl rfl) hf3 rfl rfl) (hW2.cg (hl3.at rfl)) (hW52.cg (hl3.at rfl)) hs3 hz3
    · have e1 : beB ch m (368 * i + 2 * j + 1 + 1) = beB ch m (368 * i + 2 * j) := by
        have b1 : beB ch m (368 * i + 2 * j + 1 + 1) = beB ch m (368 * i + 2 * j + 1) := by unfold beB; rw [ab_succ, stp_n (k := 368 * i + 2 * j + 1) (fun w => q (hC1.mp w))]
        have b0 : beB ch m (368 * i + 2 * j + 1) = beB ch m (368 * i + 2 * j) := by unfold beB; rw [ab_succ, stp_n (k := 368 * i + 2 * j) (fun w => q (hC0.mp w))]
        rw [b1, b0]
      exact nx I L hf hW hW5 (by rw [e1]; exact hs) (by rw [e1]; exact hz)
set_option maxHeartbeats 8000000 in
theorem l_182 {I0 : Mi} {ch : Ch} (hok : ChOk ch) (h2 : ch.2.2.2.1 ≤ 2) (hT0 : TabAt I0) {m : Int} (hm : 1 ≤ m ∧ m ≤ 12)
    (fin : ∀ I' L', FrI [(21, 0, 0)] I0 I' → BsAt I' L' (beF ch) (beB ch m beT) → beZ I' (beB ch m beT) → Q (.inl none) (gE Lx) I' L' e) :
    ∀ (s i : Nat), i + s = 184 → ∀ (I : Mi) (L : Ml), FrI [(21, 0, 0)] I0 I → WvAt L 15 (wSeen ch ch.2.2.2.1) → BsAt I L (beF ch) (beB ch m (368 * i)) → beZ I (beB ch m (368 * i)) →
    Wp 182 27 [(0, .ref 1), (1, .int (Int32.ofInt m)), (2, .int (Int32.ofInt i))] [] (gE Lx) I L e Q := by
  intro s
  induction s with
  | zero =>
    intro i hi I L hf hW hs hz
    have : i = 184 := by omega
    subst this
    rw [show 368 * 184 = beT from beT_e.symm] at hs hz
    exact s_182_27 (i_lt32 (by omega) (by omega) (fun _ => by omega) (fun _ => fin I L hf hs hz))
  | succ s ih =>
    intro i hi I L hf hW hs hz
    have hi2 : i < 184 := by omega
    have tb := tg_b hi2
    have hT : TabAt I := hT0.cg (hf.at rfl) (hf.at rfl)
    have nx : ∀ (I' : Mi) (L' : Ml), FrI [(21, 0, 0)] I0 I' → WvAt L' 15 (wSeen ch ch.2.2.2.1) → BsAt I' L' (beF ch) (beB ch m (368 * (i + 1))) → beZ I' (beB ch m (368 * (i + 1))) → Wp 182 88 [(0, .ref 1), (1, .int (Int32.ofInt m)), (2, .int (Int32.ofInt (i : Int)))] [] (gE Lx) I' L' e Q := by
      intro I' L' f1 f2 f3 f4
      refine s_182_88 ?_
      rw [add32]
      have := ih (i + 1) (by omega) I' L' f1 f2 f3 f4
      exact this
    refine s_182_27 (i_lt32 (by omega) (by omega) (fun _ => ?_) (fun _ => by omega))
    refine c_71 hT hi2 hm (fun q => kcp_v rfl (s_182_43 (j_1 (c_69 hT hi2 (kcp_v rfl (s_182_69 (c_70 hT hi2 (kcp_v rfl (s_182_78 ?_))))))))) (fun q => kcp_v rfl (s_182_43 (j_0 ?_)))
    · rw [i2l (by omega), i2l (by omega)]
      refine c_76 (x := wSeen ch ch.2.2.2.1) (Or.inl rfl) ⟨hW.1, hW.2.1, hW.2.2.1, hW.2.2.2⟩ (fun L2 hf2 hW2 => kcp_v rfl (s_182_82 ?_))
      have hf3 := FrL.tr (S := [(14, 0, 4)]) (fr4 rfl rfl rfl rfl) hf2 rfl rfl
      refine l_183 (I0 := I0) (w0 := wSeen ch ch.2.2.2.1) hok h2 hT0 hm hi2 q (fun I3 L3 g1 g2 g3 g4 => kcp_v rfl (nx I3 L3 g1 g2 g3 g4)) 184 0 (by omega) I L2 hf hW2 (hW.cg (hf3.at rfl)) (hs.cg rfl (hf3 21 1 rfl) (hf3 21 2 rfl)) hz
    · have e1 : beB ch m (368 * (i + 1)) = beB ch m (368 * i) := by
        rw [show 368 * (i + 1) = 368 * i + 368 by omega]
        refine skips (S := fun t => beB ch m t = beB ch m (368 * i)) (C := beC m) (fun t h1 h2 => ?_) 368 (368 * i) (fun t h1 h2 w => q ?_) rfl
        · show beB ch m (t + 1) = _
          have : beB ch m (t + 1) = beB ch m t := by unfold beB; rw [ab_succ, stp_n h1]
          rw [this]
          exact h2
        · have e1 : t / 368 = i := by omega
          have := w.2.1
          rw [e1] at this
          exact this
      exact nx I L hf hW (by rw [e1]; exact hs) (by rw [e1]; exact hz)
set_option maxHeartbeats 4000000 in
theorem h_404 {ch : Ch} (hok : ChOk ch) (hc : ChAt I 5 ch) (hT : TabAt I) {m wh : Int} (hm : R32 m) (hwh : R32 wh) (h : CQ Lx I e Q (spBest ch m wh).1 (spBest ch m wh).2) :
    Wp 404 0 [(0, .ref 1), (1, .int (Int32.ofInt m)), (2, .int (Int32.ofInt wh)), (3, .ref 70)] [] (gE Lx) I L e Q := by
  have h4 := hok.2.2.2.1
  refine s_404_0 ?_
  rw [hc.2.2.2.1]
  unfold spBest at h
  have one : wh < 0 ∨ 5 < wh → Q (.inl (some (.int (Int32.ofInt 1)))) (gE Lx) I L (e + 1) := fun q => by
    rw [if_pos q] at h
    exact h.mk (c := 1) FrI.rf (by omega) rfl (fun z => by cases z)
  refine i_ltz hwh (fun k => one (by omega)) (fun a1 => i_lt32 (by omega) hwh (fun k => one (by omega)) (fun a2 => ?_))
  rw [if_neg (by omega)] at h
  have two : m < 1 ∨ 4 < m → Q (.inl (some (.int (Int32.ofInt 2)))) (gE Lx) I L (e + 1) := fun q => by
    rw [if_pos q] at h
    exact h.mk (c := 2) FrI.rf (by omega) rfl (fun z => by cases z)
  refine i_lt32 hm (by omega) (fun k => two (by omega)) (fun a3 => i_lt32 (by omega) hm (fun k => two (by omega)) (fun a4 => ?_))
  rw [if_neg (by omega)] at h
  refine i_lt32 (by omega) (by omega) (fun k4 => ?_) (fun k4 => ?_)
  · rw [if_pos (by omega)] at h
    exact h.mk (c := 3) FrI.rf (by omega) rfl (fun z => by cases z)
  rw [if_neg (by omega)] at h
  have hn2 : ch.2.2.2.1 ≤ 2 := by omega
  obtain ⟨t, ht⟩ := beB_s (ch := ch) a3
  have htc := (beB_I (ch := ch) (m := m) beT t ht).2
  rw [ht] at h
  have h : CQ Lx I e Q 0 (if wh = 5 then tpt (beF ch t) else lsV t wh) := h
  have hc2 : ChAt (ui I 21 0 (Int32.ofInt 0)) 5 ch := hc.cg rfl rfl rfl rfl
  refine s_182_0 ?_
  rw [hc.2.2.2.1]
  refine c_106 (Or.inr rfl) hok hc2 (Nat.le_refl _) (fun L1 hf1 hW1 => kcp_v rfl (s_182_25 ?_))
  refine l_182 (I0 := I) hok hn2 hT (m := m) ⟨a3, by omega⟩ (fun I3 L3 hf3 hs3 hz3 => kcp_v rfl (s_181_21 ?_)) 184 0 (by omega) _ L1 (FrI.wu FrI.rf rfl) hW1 u_at (fun t ht => by cases ht)
  rw [ht] at hs3 hz3
  obtain ⟨q1, q2, q3⟩ := hz3 t rfl
  obtain ⟨s0, s1, s2⟩ := hs3
  have ho : efok (beF ch t) := (be_ok hok hn2 htc.1).1
  have tpb := tpt_b ho
  obtain ⟨o1, o2, o3⟩ := id ho
  have hTT : TabAt I3 := hT.cg (hf3.at rfl) (hf3.at rfl)
  have k1 : t / 368 < 184 := by have := htc.1; omega
  have k2 : t % 368 / 2 < 184 := by omega
  have tb1 := tg_b k1
  have tb2 := tg_b k2
  have hff : FrI cS I I3 := hf3.up rfl
  have fin : ∀ v : Int, R32 v → (if wh = 5 then tpt (beF ch t) else lsV t wh) = v → Wp 181 41 [(0, .ref 1)] [.int (Int32.ofInt v)] (gE Lx) I3 L3 e (kcp (Wp 404) 404 5 0 [(0, .ref 1), (3, .ref 70)] 71 [.int (Int32.ofInt 0), .ref 70] Q) := fun v hv hvv => by
    rw [hvv] at h
    exact s_181_41 (kcp_v rfl (s_404_8 (i_inb0 (by decide) (h.mk (c := 0) hff (by omega) rfl (fun _ => by rw [o70, i2l hv])))))
  unfold lsV at fin
  rw [q1, q2, q3, s1, s2, mul64]
  have hm2 : t % 2 = 0 ∨ t % 2 = 1 := by omega
  refine i_eq32 hwh (by omega) (fun w5 => i_eq64 (by omega) (by omega) (fun q => by omega) (fun _ => i_nz64 (by omega) (by omega) ?_)) (fun w5 => i_eq32 hwh (by omega) (fun w0 => c_69 hTT k1 (kcp_v rfl (s_174_46 (kcp_v rfl (fin _ (by omega) (by rw [if_neg w5, if_pos w0])))))) (fun w0 => i_eq32 hwh (by omega) (fun w1 => c_70 hTT k1 (kcp_v rfl (s_174_61 (kcp_v rfl (fin _ (by omega) (by rw [if_neg w5, if_neg w0, if_pos w1])))))) (fun w1 => i_eq32 hwh (by omega) (fun w2 => i_eqz (by omega) (fun q => fin 0 (by omega) (by rw [if_neg w5, if_neg w0, if_neg w1, if_pos w2]; omega)) (fun q => fin 1 (by omega) (by rw [if_neg w5, if_neg w0, if_neg w1, if_pos w2]; omega))) (fun w2 => i_eq32 hwh (by omega) (fun w3 => c_69 hTT k2 (kcp_v rfl (s_174_92 (kcp_v rfl (fin _ (by omega) (by rw [if_neg w5, if_neg w0, if_neg w1, if_neg w2, if_pos w3])))))) (fun w3 => c_70 hTT k2 (kcp_v rfl (s_174_107 (kcp_v rfl (fin _ (by omega) (by rw [if_neg w5, if_neg w0, if_neg w1, if_neg w2, if_neg w3]))))))))))
  rw [dvp (by omega) (by omega) o2.1 (by omega), l2i]
  exact fin (tpt (beF ch t)) (by omega) (by rw [if_pos w5])
end
