/-! rescue: both sides. -/
def resW (al x y : Int) (z : Pt) (t : Nat) : Wv := wLine x y (wPass (srtS al (if t % 2 = 0 then 1 else 0)) (tgU (t / 2)) (tgL (t / 2)) (wZ z))
def resP (al x y : Int) (z : Pt) (t : Nat) : Prop := ¬ bar al x y (resW al x y z t)
noncomputable def resI (al x y : Int) (z : Pt) : Int := fF (resP al x y z) 368 0
def resV (wh : Int) (t : Nat) : Int := if wh = 0 then tgU (t / 2) else if wh = 1 then tgL (t / 2) else if t % 2 = 0 then 1 else 0
noncomputable def fRes (al x y wh : Int) (z : Pt) : Nat × Int := if resI al x y z < 0 then (3, 0) else (0, resV wh (resI al x y z).toNat)
def sh1 (r : Nat × Int) : Nat × Int := if r.1 = 0 then r else (r.1 + 1, r.2)
noncomputable def spRes (ch : Ch) (m al x y wh : Int) : Nat × Int := if m < 0 ∨ (ch.2.2.2.1 : Int) < m then (1, 0) else if wh < 0 ∨ 2 < wh then (2, 0) else sh1 (spD ch m al x y (fRes al x y wh))
theorem wRe_line0 {p q : Int} {w : Wv} (h : wRe w = 0) : wRe (wLine p q w) = 0 := by
  have e1 : wRe (wLine p q w) = (p * p + q * q) * wRe w := by unfold wRe wLine; grind
  rw [e1, h, Int.mul_zero]
theorem wRe_pass0 {s p q : Int} {w : Wv} (h : wRe w = 0) : wRe (wPass s p q w) = 0 := by
  have ac : ∀ a b, wRe (wAc a b w) = 0 := fun a b => by
    unfold wAc
    split
    · exact h
    · have e1 : wRe (b * w.1, b * w.2.1, b * w.2.2.1 - a * w.2.1, b * w.2.2.2 + a * w.1) = (b * b) * wRe w := by unfold wRe; grind
      rw [e1, h, Int.mul_zero]
  have al : ∀ a b, wRe (wAl a b w) = 0 := fun a b => by
    unfold wAl
    split
    · exact h
    · have e1 : wRe (b * w.1 - a * w.2.2.2, b * w.2.1 + a * w.2.2.1, b * w.2.2.1, b * w.2.2.2) = (b * b) * wRe w := by unfold wRe; grind
      rw [e1, h, Int.mul_zero]
  unfold wPass
  repeat' split
  · exact wRe_line0 h
  · exact ac _ _
  · exact ac _ _
  · exact al _ _
  · exact al _ _
theorem res_z {al x y : Int} {z : Pt} (h : z.1 = 0) : resI al x y z = -1 := by
  refine fF_no (fun j q => q (Or.inl (wRe_line0 (wRe_pass0 ?_)))) _ _
  unfold wRe wZ
  rw [h]
  simp
section
variable {Lx : Nat} {I : Mi} {L : Ml} {e : Nat} {Q : Kq}
set_option maxHeartbeats 8000000 in
theorem l_160 (hT : TabAt I) {al x y : Int} (hal : al = 0 ∨ al = 1) (hx : -12 ≤ x ∧ x ≤ 12) (hy : -12 ≤ y ∧ y ≤ 12) (hx0 : x ≠ 0) {z : Pt} (ho : PtOk z) : ∀ (n i s : Nat), 2 * i + s + (n + 1) = 368 → s ≤ 1 → ∀ L : Ml, WvAt L 15 (wZ z) →
    (fF (resP al x y z) (n + 1) (2 * i + s) < 0 → ∀ L', Q (.inl (some (.int (Int32.ofInt 0)))) (gE Lx) I L' e) →
    (∀ t : Nat, fF (resP al x y z) (n + 1) (2 * i + s) = t → ∀ L', Q (.inl (some (.int (Int32.ofInt 1)))) (gE Lx) (ui (ui I 21 5 (Int32.ofInt ((t / 2 : Nat) : Int))) 21 6 (Int32.ofInt (if t % 2 = 0 then 1 else 0))) L' e) →
    Wp 160 22 [(0, .ref 1), (1, .int (Int32.ofInt al)), (2, .int (Int32.ofInt x)), (3, .int (Int32.ofInt y)), (4, .int (Int32.ofInt i)), (5, .int (Int32.ofInt s))] [] (gE Lx) I L e Q := by
  have hB := wZ_B ho
  have hg := wZ_g ho
  intro n
  induction n with
  | zero =>
    intro i s hk hs L hW h1 h2
    have hi : i = 183 := by omega
    have hs1 : s = 1 := by omega
    subst hi; subst hs1
    have tb := tg_b (show 183 < 184 by decide)
    refine s_160_22 (i_lt32 (by omega) (by omega) (fun _ => i_eqz (by omega) (fun k => by omega) (fun _ => ?_)) (fun _ => by omega))
    have go : ∀ srt : Int, (0 ≤ srt ∧ srt ≤ 4) → srt = srtS al 0 → Wp 69 0 [(0, .ref 2), (1, .int (Int32.ofInt ((183 : Nat) : Int)))] [] (gE Lx) I (ul (ul (ul (ul L 16 0 (L 15 0)) 16 1 (L 15 1)) 16 2 (L 15 2)) 16 3 (L 15 3)) e (kcp (Wp 160) 160 63 0 [(0, .ref 1), (1, .int (Int32.ofInt al)), (2, .int (Int32.ofInt x)), (3, .int (Int32.ofInt y)), (4, .int (Int32.ofInt ((183 : Nat) : Int))), (5, .int (Int32.ofInt ((1 : Nat) : Int)))] 71 [.int (Int32.ofInt srt), .ref 16] Q) := by
      intro srt hsr he
      refine c_69 hT (by decide) (kcp_v rfl (s_160_66 (c_70 hT (by decide) (kcp_v rfl (s_160_76 ?_)))))
      rw [i2l (by omega), i2l (by omega)]
      refine c_75 (x := wZ z) (Or.inr (Or.inr rfl)) ⟨hW.1, hW.2.1, hW.2.2.1, hW.2.2.2⟩ (hB.le (by decide)) (by omega) (fun L2 hf2 hW2 => kcp_v rfl (s_160_80 ?_))
      rw [i2l (by omega), i2l (by omega)]
      refine c_76 (Or.inr (Or.inr rfl)) hW2 (fun L3 hf3 hW3 => kcp_v rfl (s_160_91 ?_))
      have hB2 := hB.pass (P := 12) (s := srt) tb.1 tb.2 (by omega)
      have hB3 := (hB2.line hx hy).le (show (12 : Int) * (12 * 1000 + 12 * 1000) + 12 * (12 * 1000 + 12 * 1000) ≤ 32845824 by decide)
      have hg2 := (hg.pass (s := srt) (tg_t (show 183 < 184 by decide)).nz).line (p := x) (q := y) (fun q => hx0 q.1)
      subst he
      refine c_158 hW3 hB3 hg2 (show R32 al by omega) hx hy hx0 (fun q => kcp_v rfl (s_160_102 (j_1 ?_))) (fun q => kcp_v rfl (s_160_102 (j_0 ?_)))
      · have q2 : ¬ resP al x y z (2 * 183 + 1) := fun w => w q
        rw [fF_f q2] at h1
        rw [add32]
        refine s_160_22 (i_lt32 (by omega) (by omega) (fun _ => by omega) (fun _ => ?_))
        rw [add32]
        exact s_160_11 (i_lt32 (by omega) (by omega) (fun _ => by omega) (fun _ => h1 (by show (-1 : Int) < 0; decide) L3))
      · have q2 : resP al x y z (2 * 183 + 1) := q
        rw [fF_t q2] at h2
        exact i_eqz (by omega) (fun k => by omega) (fun _ => h2 _ rfl L3)
    refine i_eqz (by omega) (fun k => go 2 (by omega) ?_) (fun k => go 4 (by omega) ?_)
    · unfold srtS; rw [if_pos k]; rfl
    · unfold srtS; rw [if_neg k]; rfl
  | succ n ih =>
    intro i s hk hs L hW h1 h2
    have hi : i < 184 := by omega
    have tb := tg_b hi
    have e1 : (2 * i + s) / 2 = i := by omega
    have e2 : (2 * i + s) % 2 = s := by omega
    have go : ∀ srt : Int, (0 ≤ srt ∧ srt ≤ 4) → srt = srtS al (if s = 0 then 1 else 0) → Wp 69 0 [(0, .ref 2), (1, .int (Int32.ofInt (i : Int)))] [] (gE Lx) I (ul (ul (ul (ul L 16 0 (L 15 0)) 16 1 (L 15 1)) 16 2 (L 15 2)) 16 3 (L 15 3)) e (kcp (Wp 160) 160 63 0 [(0, .ref 1), (1, .int (Int32.ofInt al)), (2, .int (Int32.ofInt x)), (3, .int (Int32.ofInt y)), (4, .int (Int32.ofInt (i : Int))), (5, .int (Int32.ofInt (s : Int)))] 71 [.int (Int32.ofInt srt), .ref 16] Q) := by
      intro srt hsr he
      refine c_69 hT hi (kcp_v rfl (s_160_66 (c_70 hT hi (kcp_v rfl (s_160_76 ?_)))))
      rw [i2l (by omega), i2l (by omega)]
      refine c_75 (x := wZ z) (Or.inr (Or.inr rfl)) ⟨hW.1, hW.2.1, hW.2.2.1, hW.2.2.2⟩ (hB.le (by decide)) (by omega) (fun L2 hf2 hW2 => kcp_v rfl (s_160_80 ?_))
      rw [i2l (by omega), i2l (by omega)]
      refine c_76 (Or.inr (Or.inr rfl)) hW2 (fun L3 hf3 hW3 => kcp_v rfl (s_160_91 ?_))
      have hB2 := hB.pass (P := 12) (s := srt) tb.1 tb.2 (by omega)
      have hB3 := (hB2.line hx hy).le (show (12 : Int) * (12 * 1000 + 12 * 1000) + 12 * (12 * 1000 + 12 * 1000) ≤ 32845824 by decide)
      have hg2 := (hg.pass (s := srt) (tg_t hi).nz).line (p := x) (q := y) (fun q => hx0 q.1)
      have hff := FrL.tr (S := [(16, 0, 4)]) (FrL.tr (S := [(16, 0, 4)]) (fr4 rfl rfl rfl rfl) hf2 rfl rfl) hf3 rfl rfl
      have hW4 : WvAt L3 15 (wZ z) := hW.cg (hff.at rfl)
      have ew : resW al x y z (2 * i + s) = wLine x y (wPass srt (tgU i) (tgL i) (wZ z)) := by unfold resW; rw [e1, e2, he]
      refine c_158 hW3 hB3 hg2 (show R32 al by omega) hx hy hx0 (fun q => kcp_v rfl (s_160_102 (j_1 ?_))) (fun q => kcp_v rfl (s_160_102 (j_0 ?_)))
      · have q2 : ¬ resP al x y z (2 * i + s) := fun w => w (by rw [ew]; exact q)
        rw [fF_f q2] at h1 h2
        rw [add32]
        have hs2 : s = 0 ∨ s = 1 := by omega
        rcases hs2 with hs2 | hs2
        · subst hs2
          exact ih i 1 (by omega) (by omega) L3 hW4 h1 h2
        · subst hs2
          refine s_160_22 (i_lt32 (by omega) (by omega) (fun _ => by omega) (fun _ => ?_))
          rw [add32]
          refine s_160_11 (i_lt32 (by omega) (by omega) (fun _ => ?_) (fun _ => by omega))
          have e5 : 2 * i + 1 + 1 = 2 * (i + 1) + 0 := by omega
          rw [e5] at h1 h2
          exact ih (i + 1) 0 (by omega) (by omega) L3 hW4 h1 h2
      · have q2 : resP al x y z (2 * i + s) := by show ¬ bar al x y _; rw [ew]; exact q
        rw [fF_t q2] at h2
        have h3 := h2 _ rfl L3
        rw [e1, e2] at h3
        have hs2 : s = 0 ∨ s = 1 := by omega
        rcases hs2 with hs2 | hs2
        · subst hs2
          exact i_eqz (by omega) (fun _ => h3) (fun k => by omega)
        · subst hs2
          exact i_eqz (by omega) (fun k => by omega) (fun _ => h3)
    refine s_160_22 (i_lt32 (by omega) (by omega) (fun _ => ?_) (fun _ => by omega))
    refine i_eqz (by omega) (fun k => i_eqz (by omega) (fun k2 => go 1 (by omega) ?_) (fun k2 => go 3 (by omega) ?_)) (fun k => i_eqz (by omega) (fun k2 => go 2 (by omega) ?_) (fun k2 => go 4 (by omega) ?_))
    · rw [if_pos (by omega)]; unfold srtS; rw [if_pos k2]; rfl
    · rw [if_pos (by omega)]; unfold srtS; rw [if_neg k2]; rfl
    · rw [if_neg (by omega)]; unfold srtS; rw [if_pos k2]; rfl
    · rw [if_neg (by omega)]; unfold srtS; rw [if_neg k2]; rfl
theorem c_160 (hT : TabAt I) {al x y : Int} (hal : al = 0 ∨ al = 1) (hx : -12 ≤ x ∧ x ≤ 12) (hy : -12 ≤ y ∧ y ≤ 12) (hx0 : x ≠ 0) {z : Pt} (ho : PtOk z) (hp : PtAt L z)
    (h1 : resI al x y z < 0 → ∀ L', Q (.inl (some (.int (Int32.ofInt 0)))) (gE Lx) I L' e)
    (h2 : ∀ t : Nat, resI al x y z = t → ∀ L', Q (.inl (some (.int (Int32.ofInt 1)))) (gE Lx) (ui (ui I 21 5 (Int32.ofInt ((t / 2 : Nat) : Int))) 21 6 (Int32.ofInt (if t % 2 = 0 then 1 else 0))) L' e) :
    Wp 160 0 [(0, .ref 1), (1, .int (Int32.ofInt al)), (2, .int (Int32.ofInt x)), (3, .int (Int32.ofInt y))] [] (gE Lx) I L e Q := by
  obtain ⟨p0, p1, p2⟩ := hp
  refine s_160_0 (s_160_11 (i_lt32 (by omega) (by omega) (fun _ => ?_) (fun _ => by omega)))
  rw [p0, p1, p2]
  exact l_160 hT hal hx hy hx0 ho 367 0 0 (by omega) (by omega) _ ⟨rfl, rfl, rfl, rfl⟩ h1 h2
set_option maxHeartbeats 4000000 in
theorem h_395 {ch : Ch} (hok : ChOk ch) (hc : ChAt I 5 ch) (hT : TabAt I) {m al x y wh : Int} (hm : R32 m) (hal : al = 0 ∨ al = 1) (hx : R32 x) (hy : R32 y) (hwh : R32 wh) (h : CQ Lx I e Q (spRes ch m al x y wh).1 (spRes ch m al x y wh).2) :
    Wp 395 0 [(0, .ref 1), (1, .int (Int32.ofInt m)), (2, .int (Int32.ofInt al)), (3, .int (Int32.ofInt x)), (4, .int (Int32.ofInt y)), (5, .int (Int32.ofInt wh)), (6, .ref 70)] [] (gE Lx) I L e Q := by
  refine s_395_0 ?_
  rw [hc.2.2.2.1]
  unfold spRes at h
  refine mk_pre hm hok.2.2.2.1 (fun hb => ?_) (fun j hj hjn => ?_)
  · rw [if_pos hb] at h
    exact h.mk (c := 1) FrI.rf (by omega) rfl (fun z => by cases z)
  · subst hj
    rw [if_neg (by omega)] at h
    have two : wh < 0 ∨ 2 < wh → Q (.inl (some (.int (Int32.ofInt 2)))) (gE Lx) I L (e + 1) := fun q => by
      rw [if_pos q] at h
      exact h.mk (c := 2) FrI.rf (by omega) rfl (fun z => by cases z)
    refine i_ltz hwh (fun k => two (Or.inl k)) (fun k1 => i_lt32 (by omega) hwh (fun k => two (Or.inr k)) (fun k2 => ?_))
    rw [if_neg (by omega)] at h
    refine n_dist hx hy (fun ht k0 => kcp_v rfl (s_159_19 ?_)) (fun q => kcp_x rfl (kcp_h rfl ?_))
    rotate_left
    · rw [spD_2 hjn q] at h
      have h : CQ Lx I e Q 3 0 := h
      exact h.mk (c := 3) FrI.rf (by omega) rfl (fun z => by cases z)
    have tb := ht.b
    refine c_148 hok hc hjn (show R32 al by omega) (fun hfi hnn L1 hf1 hp => kcp_v rfl (s_159_25 ?_)) (fun hn L1 hf1 => kcp_x rfl (kcp_h rfl ?_))
    rotate_left
    · rw [spD_3 hjn ht k0 hn] at h
      have h : CQ Lx I e Q 4 0 := h
      exact h.mk (c := 4) FrI.rf (by omega) rfl (fun z => by cases z)
    have ho := hfi.ok (wSeen_g hok j hjn)
    rw [spD_0 hjn ht k0 ⟨hfi, hnn⟩] at h
    generalize pt (wSeen ch j) = z at *
    unfold fRes at h
    refine c_160 hT hal tb.1 tb.2 k0 ho hp (fun q1 L2 => kcp_v rfl (s_159_33 (j_0 (kcp_h rfl ?_)))) (fun t q1 L2 => kcp_v rfl (s_159_33 (j_1 ?_)))
    · rw [if_pos q1] at h
      have h : CQ Lx I e Q 4 0 := h
      exact h.mk (c := 4) FrI.rf (by omega) rfl (fun z => by cases z)
    · have hr := fF_r (P := resP al x y z) 368 0
      have hr2 : resI al x y z = fF (resP al x y z) 368 0 := rfl
      rw [if_neg (by omega), q1, Int.toNat_natCast] at h
      have h : CQ Lx I e Q 0 (resV wh t) := h
      have hi : t / 2 < 184 := by omega
      have tb2 := tg_b hi
      have e5 : (ui (ui I 21 5 (Int32.ofInt ((t / 2 : Nat) : Int))) 21 6 (Int32.ofInt (if t % 2 = 0 then 1 else 0))) 21 5 = Int32.ofInt ((t / 2 : Nat) : Int) := rfl
      have e6 : (ui (ui I 21 5 (Int32.ofInt ((t / 2 : Nat) : Int))) 21 6 (Int32.ofInt (if t % 2 = 0 then 1 else 0))) 21 6 = Int32.ofInt (if t % 2 = 0 then 1 else 0) := rfl
      have hf : FrI cS I (ui (ui I 21 5 (Int32.ofInt ((t / 2 : Nat) : Int))) 21 6 (Int32.ofInt (if t % 2 = 0 then 1 else 0))) := FrI.wu (FrI.wu FrI.rf rfl) rfl
      have hT2 : TabAt (ui (ui I 21 5 (Int32.ofInt ((t / 2 : Nat) : Int))) 21 6 (Int32.ofInt (if t % 2 = 0 then 1 else 0))) := hT.cg rfl rfl
      rw [e5, e6]
      generalize ui (ui I 21 5 (Int32.ofInt ((t / 2 : Nat) : Int))) 21 6 (Int32.ofInt (if t % 2 = 0 then 1 else 0)) = I2 at *
      have fin : ∀ v : Int, R32 v → resV wh t = v → kcp (Wp 159) 159 47 0 [(0, .ref 1)] 71 [] (kcp (Wp 395) 395 11 0 [(0, .ref 1), (6, .ref 70)] 71 [.int (Int32.ofInt 0), .ref 70] Q) (.inl (some (.int (Int32.ofInt v)))) (gE Lx) I2 L2 e := fun v hv hr =>
        kcp_v rfl (s_159_50 (kcp_v rfl (s_395_14 (i_inb0 (by decide) (h.mk (c := 0) hf (by omega) rfl (fun _ => by rw [o70, i2l hv, hr]))))))
      have fin2 : ∀ v : Int, R32 v → resV wh t = v → Wp 159 50 [(0, .ref 1)] [.int (Int32.ofInt v)] (gE Lx) I2 L2 e (kcp (Wp 395) 395 11 0 [(0, .ref 1), (6, .ref 70)] 71 [.int (Int32.ofInt 0), .ref 70] Q) := fun v hv hr =>
        s_159_50 (kcp_v rfl (s_395_14 (i_inb0 (by decide) (h.mk (c := 0) hf (by omega) rfl (fun _ => by rw [o70, i2l hv, hr])))))
      unfold resV at fin fin2
      refine i_eq32 hwh (by omega) (fun k3 => c_69 hT2 hi (kcp_v rfl (s_161_42 (fin _ (by omega) (by rw [if_pos k3]))))) (fun k3 => i_eq32 hwh (by omega) (fun k4 => c_70 hT2 hi (kcp_v rfl (s_161_57 (fin _ (by omega) (by rw [if_neg k3, if_pos k4]))))) (fun k4 => ?_))
      by_cases k5 : t % 2 = 0
      · rw [if_pos k5]
        exact j_1 (fin2 1 (by omega) (by rw [if_neg k3, if_neg k4, if_pos k5]))
      · rw [if_neg k5]
        exact j_0 (fin2 0 (by omega) (by rw [if_neg k3, if_neg k4, if_neg k5]))
end
