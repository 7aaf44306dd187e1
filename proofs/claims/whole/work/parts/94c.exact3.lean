/-! exact: the calls. -/
section
variable {Lx : Nat} {I : Mi} {L : Ml} {e : Nat} {Q : Kq}
theorem lsV_b {t : Nat} (h : t < 67712) {wh : Int} : -12 ≤ lsV t wh ∧ lsV t wh ≤ 12 := by
  have a := tg_b (k := t / 368) (by omega)
  have b := tg_b (k := t % 368 / 2) (by omega)
  unfold lsV
  repeat' split
  all_goals omega
set_option maxHeartbeats 4000000 in
theorem h_401 {ch : Ch} (hok : ChOk ch) (hc : ChAt I 5 ch) (hT : TabAt I) {m k wh : Int} (hm : R32 m) (hk : R32 k) (hwh : R32 wh) (h : CQ Lx I e Q (spExa ch m k wh).1 (spExa ch m k wh).2) :
    Wp 401 0 [(0, .ref 1), (1, .int (Int32.ofInt m)), (2, .int (Int32.ofInt k)), (3, .int (Int32.ofInt wh)), (4, .ref 70)] [] (gE Lx) I L e Q := by
  have h4 := hok.2.2.2.1
  refine s_401_0 ?_
  rw [hc.2.2.2.1]
  unfold spExa at h
  have one : wh < 0 ∨ 4 < wh → Q (.inl (some (.int (Int32.ofInt 1)))) (gE Lx) I L (e + 1) := fun q => by
    rw [if_pos q] at h
    exact h.mk (c := 1) FrI.rf (by omega) rfl (fun z => by cases z)
  refine i_ltz hwh (fun k => one (by omega)) (fun a1 => i_lt32 (by omega) hwh (fun k => one (by omega)) (fun a2 => ?_))
  rw [if_neg (by omega)] at h
  have two : m < 1 ∨ 12 < m → Q (.inl (some (.int (Int32.ofInt 2)))) (gE Lx) I L (e + 1) := fun q => by
    rw [if_pos q] at h
    exact h.mk (c := 2) FrI.rf (by omega) rfl (fun z => by cases z)
  refine i_lt32 hm (by omega) (fun k => two (by omega)) (fun a3 => i_lt32 (by omega) hm (fun k => two (by omega)) (fun a4 => ?_))
  rw [if_neg (by omega)] at h
  refine i_lt32 (by omega) (by omega) (fun k4 => ?_) (fun k4 => ?_)
  · rw [if_pos (by omega)] at h
    exact h.mk (c := 3) FrI.rf (by omega) rfl (fun z => by cases z)
  rw [if_neg (by omega)] at h
  have hn2 : ch.2.2.2.1 ≤ 2 := by omega
  have h : CQ Lx I e Q 0 (exV ch m k wh) := h
  unfold exV at h
  have e0 : exT (exP ch m) k (368 * 0) = (0, 0) := rfl
  refine s_171_0 ?_
  rw [hc.2.2.2.1]
  refine c_106 (Or.inr rfl) hok hc (Nat.le_refl _) (fun L1 hf1 hW1 => kcp_v rfl (s_171_20 ?_))
  have := l_171 (Lx := Lx) (e := e) (I0 := I) (Q := kcp (Wp 168) 168 20 0 [(0, .ref 1), (2, .int (Int32.ofInt k)), (3, .int (Int32.ofInt wh))] 71 [] (kcp (Wp 401) 401 7 0 [(0, .ref 1), (4, .ref 70)] 71 [.int (Int32.ofInt 0), .ref 70] Q)) hok hn2 hT (m := m) (k := k) ⟨a3, a4⟩ hk (fun I3 L3 hf3 hz3 => kcp_v rfl (s_168_23 ?_)) 184 0 (by omega) I L1 FrI.rf hW1 (by rw [e0]; exact Int.le_refl _) (by rw [e0]; intro h1 h2; have : k < 0 := h2; omega)
  · exact this
  have hff : FrI cS I I3 := hf3.up rfl
  have xv := exT_v (P := exP ch m) (k := k) beT
  have xb : 0 ≤ (exR ch m k).1 ∧ (exR ch m k).1 ≤ 67712 := by have := xv.1; rw [beT_e] at this; have : 0 ≤ (exT (exP ch m) k 67712).1 ∧ (exT (exP ch m) k 67712).1 ≤ ((67712 : Nat) : Int) := this; unfold exR; rw [beT_e]; omega
  have fin : ∀ v : Int, R32 v → (if k = -1 then (exR ch m k).1 else if k < 0 ∨ (exR ch m k).1 ≤ k then -1 else lsV (exR ch m k).2 wh) = v → kcp (Wp 401) 401 7 0 [(0, .ref 1), (4, .ref 70)] 71 [.int (Int32.ofInt 0), .ref 70] Q (.inl (some (.int (Int32.ofInt v)))) (gE Lx) I3 L3 e := fun v hv hvv => by
    rw [hvv] at h
    exact kcp_v rfl (s_401_10 (i_inb0 (by decide) (h.mk (c := 0) hff (by omega) rfl (fun _ => by rw [o70, i2l hv]))))
  refine i_eq32 hk (by omega) (fun w => fin _ (by omega) (if_pos w)) (fun w => i_ltz hk (fun w1 => s_168_52 (fin (-1) (by omega) (by rw [if_neg w, if_pos (Or.inl w1)]))) (fun w1 => i_lt32 hk (by omega) (fun w2 => ?_) (fun w2 => s_168_52 (fin (-1) (by omega) (by rw [if_neg w, if_pos (Or.inr w2)])))))
  have hb : (exR ch m k).2 < 67712 := by
    have := xv.2 w1 w2
    rw [beT_e] at this
    unfold exR
    rw [beT_e]
    exact this
  obtain ⟨q1, q2, q3⟩ := hz3 w1 w2
  have hTT : TabAt I3 := hT.cg (hf3.at rfl) (hf3.at rfl)
  have k1 : (exR ch m k).2 / 368 < 184 := by omega
  have k2 : (exR ch m k).2 % 368 / 2 < 184 := by omega
  have fin : ∀ v : Int, lsV (exR ch m k).2 wh = v → Wp 168 52 [(0, .ref 1)] [.int (Int32.ofInt v)] (gE Lx) I3 L3 e (kcp (Wp 401) 401 7 0 [(0, .ref 1), (4, .ref 70)] 71 [.int (Int32.ofInt 0), .ref 70] Q) := fun v hv => by
    have := lsV_b hb (wh := wh)
    exact s_168_52 (fin v (by omega) (by rw [if_neg w, if_neg (by omega)]; exact hv))
  generalize (exR ch m k).2 = t at *
  unfold lsV at fin
  rw [q1, q2, q3]
  have tb1 := tg_b k1
  have tb2 := tg_b k2
  have hm2 : t % 2 = 0 ∨ t % 2 = 1 := by omega
  refine i_eq32 hwh (by omega) (fun w0 => c_69 hTT k1 (kcp_v rfl (s_174_46 (kcp_v rfl (fin _ (by rw [if_pos w0])))))) (fun w0 => i_eq32 hwh (by omega) (fun w1 => c_70 hTT k1 (kcp_v rfl (s_174_61 (kcp_v rfl (fin _ (by rw [if_neg w0, if_pos w1])))))) (fun w1 => i_eq32 hwh (by omega) (fun w2 => i_eqz (by omega) (fun q => fin 0 (by rw [if_neg w0, if_neg w1, if_pos w2]; omega)) (fun q => fin 1 (by rw [if_neg w0, if_neg w1, if_pos w2]; omega))) (fun w2 => i_eq32 hwh (by omega) (fun w3 => c_69 hTT k2 (kcp_v rfl (s_174_92 (kcp_v rfl (fin _ (by rw [if_neg w0, if_neg w1, if_neg w2, if_pos w3])))))) (fun w3 => c_70 hTT k2 (kcp_v rfl (s_174_107 (kcp_v rfl (fin _ (by rw [if_neg w0, if_neg w1, if_neg w2, if_neg w3])))))))))
def exY (I : Mi) (k : Int) (s : Int × Nat) : Prop := 0 ≤ k → k < s.1 → I 58 34 = .ofInt ((s.2 / 368 : Nat) : Int) ∧ I 58 35 = .ofInt ((s.2 % 368 / 2 : Nat) : Int) ∧ I 58 36 = .ofInt (1 - ((s.2 % 2 : Nat) : Int))
def exQ (I0 : Mi) (L0 : Ml) (ch : Ch) (m k : Int) (t : Nat) (I : Mi) (L : Ml) : Prop := FrI [(58, 32, 1), (58, 34, 3)] I0 I ∧ L 70 = L0 70 ∧ I 58 32 = .ofInt (exT (exP ch m) k t).1 ∧ exY I k (exT (exP ch m) k t)
set_option maxHeartbeats 4000000 in
theorem r_322 {ch : Ch} (hok : ChOk ch) (hc : BnAt I 59 0 ch) (hT : TabRt I) {m k wh : Int} (hm : R32 m) (hk : R32 k) (hwh : R32 wh) (h : RQ Lx I L e Q (spExa ch m k wh).1 vI (spExa ch m k wh).2) :
    Wp 322 0 [(0, .ref 58), (1, .int (Int32.ofInt m)), (2, .int (Int32.ofInt k)), (3, .int (Int32.ofInt wh))] [] (gE Lx) I L e Q := by
  have h4 := hok.2.2.2.1
  have e3 : I 59 3 = Int32.ofInt (ch.2.2.2.1 : Int) := hc.2.2.2.1
  refine s_322_0 ?_
  rw [e3]
  unfold spExa at h
  have one : wh < 0 ∨ 4 < wh → Q (.inl (some (.int (Int32.ofInt 0)))) (gE Lx) (ui I 58 0 (Int32.ofInt 1)) L e := fun q => by
    rw [if_pos q] at h
    exact h.mk (v := 0) (FrI.wu FrI.rf rfl) rfl (c := 1) u_at rfl (fun z => by cases z)
  refine i_lt32 hwh (by omega) (fun k => one (by omega)) (fun a1 => i_lt32 (by omega) hwh (fun k => one (by omega)) (fun a2 => ?_))
  rw [if_neg (by omega)] at h
  have two : m < 1 ∨ 12 < m → Q (.inl (some (.int (Int32.ofInt 0)))) (gE Lx) (ui I 58 0 (Int32.ofInt 2)) L e := fun q => by
    rw [if_pos q] at h
    exact h.mk (v := 0) (FrI.wu FrI.rf rfl) rfl (c := 2) u_at rfl (fun z => by cases z)
  refine i_lt32 hm (by omega) (fun k => two (by omega)) (fun a3 => i_lt32 (by omega) hm (fun k => two (by omega)) (fun a4 => ?_))
  rw [if_neg (by omega)] at h
  refine i_lt32 (by omega) (by omega) (fun k4 => ?_) (fun k4 => ?_)
  · rw [if_pos (by omega)] at h
    exact h.mk (v := 0) (FrI.wu FrI.rf rfl) rfl (c := 3) u_at rfl (fun z => by cases z)
  rw [if_neg (by omega)] at h
  have hn2 : ch.2.2.2.1 ≤ 2 := by omega
  have h : RQ Lx I L e Q 0 vI (exV ch m k wh) := h
  unfold exV at h
  refine s_310_0 ?_
  have e3' : (ui (ui I 58 0 (Int32.ofInt 0)) 58 33 (Int32.ofInt k)) 59 3 = Int32.ofInt (ch.2.2.2.1 : Int) := e3
  rw [e3']
  have hc2 : BnAt (ui (ui (ui (ui I 58 0 (Int32.ofInt 0)) 58 33 (Int32.ofInt k)) 58 30 (Int32.ofInt 0)) 58 32 (Int32.ofInt 0)) 59 0 ch := hc.cg rfl
  have hT2 : TabRt (ui (ui (ui (ui I 58 0 (Int32.ofInt 0)) 58 33 (Int32.ofInt k)) 58 30 (Int32.ofInt 0)) 58 32 (Int32.ofInt 0)) := hT.cg rfl rfl rfl
  have h0 : (ui (ui (ui (ui I 58 0 (Int32.ofInt 0)) 58 33 (Int32.ofInt k)) 58 30 (Int32.ofInt 0)) 58 32 (Int32.ofInt 0)) 58 0 = Int32.ofInt 0 := rfl
  have h32 : (ui (ui (ui (ui I 58 0 (Int32.ofInt 0)) 58 33 (Int32.ofInt k)) 58 30 (Int32.ofInt 0)) 58 32 (Int32.ofInt 0)) 58 32 = Int32.ofInt 0 := rfl
  have h33 : (ui (ui (ui (ui I 58 0 (Int32.ofInt 0)) 58 33 (Int32.ofInt k)) 58 30 (Int32.ofInt 0)) 58 32 (Int32.ofInt 0)) 58 33 = Int32.ofInt k := rfl
  have hfr : FrI rS I (ui (ui (ui (ui I 58 0 (Int32.ofInt 0)) 58 33 (Int32.ofInt k)) 58 30 (Int32.ofInt 0)) 58 32 (Int32.ofInt 0)) := FrI.wu (FrI.wu (FrI.wu (FrI.wu FrI.rf rfl) rfl) rfl) rfl
  generalize ui (ui (ui (ui I 58 0 (Int32.ofInt 0)) 58 33 (Int32.ofInt k)) 58 30 (Int32.ofInt 0)) 58 32 (Int32.ofInt 0) = I1 at *
  refine c_227 hok hc2 (Nat.le_refl _) (fun L1 r0 hf1 hr0 hs0 hB0 => kcp_v rfl (s_310_17 ?_))
  obtain ⟨v0, v1, v2, v3⟩ := hr0
  have a0 : AsAt (ul (ul (ul (ul L1 63 0 (L1 58 10)) 63 1 (L1 58 11)) 63 2 (L1 58 12)) 63 3 (L1 58 13)) 0 r0 := ⟨v0, v1, v2, v3⟩
  have e0 : exT (exP ch m) k (368 * 0) = (0, 0) := rfl
  refine l_310 (S := exQ I1 L ch m k) hok hn2 ⟨a3, by omega⟩ ?_ ?_ ?_ hs0 ?_ ?_ 184 0 (by omega) I1 _ ⟨FrI.rf, (hf1.at rfl), by rw [e0]; exact h32, by rw [e0]; intro h1 h2; have : k < 0 := h2; omega⟩ a0
  · intro t I2 L2 L3 hs hf
    exact ⟨hs.1, (hf.at rfl).trans hs.2.1, hs.2.2.1, hs.2.2.2⟩
  · intro t I2 L2 hs
    exact hT2.cg (hs.1 58 7 rfl) (hs.1.at rfl) (hs.1.at rfl)
  · intro t I2 L2 hn hs
    unfold exQ
    rw [exT_n (fun w => hn w.1)]
    exact hs
  · intro i hi o r I2 L2 ho hC hs hr hsc nx
    obtain ⟨f1, f2, f3, f4⟩ := hs
    have ht6 : 368 * i + o < 67712 := hC.1
    obtain ⟨ok1, ok2, ok3⟩ := be_ok hok hn2 ht6
    have rb := hsc.wb ok3
    obtain ⟨rb0, rb1, rb2, rb3⟩ := id rb
    have ms := mtc_sc hsc
    have d1 : (368 * i + o) / 368 = i := by omega
    have d2 : (368 * i + o) % 368 / 2 = o / 2 := by omega
    have d3 : (368 * i + o) % 2 = o % 2 := by omega
    have cb := (exT_v (P := exP ch m) (k := k) (368 * i + o)).1
    obtain ⟨x0, x1, x2, x3⟩ := hr
    have no : ¬ mtc r → Wp 310 76 [(0, .ref 58), (1, .int (Int32.ofInt m)), (2, .int (Int32.ofInt 1)), (3, .int (Int32.ofInt (i : Int))), (4, .int (Int32.ofInt (o : Int) + Int32.ofInt 1))] [] (gE Lx) I2 L2 e (kcp (Wp 322) 322 61 0 [(0, .ref 58), (2, .int (Int32.ofInt k)), (3, .int (Int32.ofInt wh))] 71 [] Q) := fun q => by
      rw [add32]
      refine nx I2 L2 ?_ rfl
      unfold exQ
      rw [exT_n (fun w => q (ms.mp w.2))]
      exact ⟨f1, f2, f3, f4⟩
    refine s_310_140 (j_1 ?_)
    have f33 : I2 58 33 = Int32.ofInt k := (f1 58 33 rfl).trans h33
    rw [rm2 (t := o) (by omega), dv2 (t := o) (by omega), sub32, x0, x1, x2, x3, f3, f33]
    refine i_eq64 (by omega) (by omega) (fun q1 => i_eq64 (by omega) (by omega) (fun q2 => ?_) (fun q2 => no (fun w => q2 w.2))) (fun q1 => no (fun w => q1 w.1))
    have hP : exP ch m (368 * i + o) := ⟨hC, ms.mpr ⟨q1, q2⟩⟩
    have ey := exT_y (P := exP ch m) (k := k) hP
    refine i_eq32 (by omega) hk (fun q => ?_) (fun q => ?_)
    · rw [add32]
      have ea : Int32.ofInt (o : Int) + Int32.ofInt 1 = Int32.ofInt ((o + 1 : Nat) : Int) := by rw [add32]; rfl
      rw [iP_t q] at ey
      have := nx (ui (ui (ui (ui I2 58 34 (Int32.ofInt (i : Int))) 58 35 (Int32.ofInt ((o / 2 : Nat) : Int))) 58 36 (Int32.ofInt (1 - ((o % 2 : Nat) : Int)))) 58 32 (Int32.ofInt ((exT (exP ch m) k (368 * i + o)).1 + 1))) L2 ⟨FrI.wu (FrI.wu (FrI.wu (FrI.wu f1 rfl) rfl) rfl) rfl, f2, by rw [ey]; exact u_at, fun _ _ => by
        rw [ey]
        dsimp only
        rw [d1, d2, d3]
        exact ⟨rfl, rfl, rfl⟩⟩ rfl
      rw [← ea] at this
      first | exact this | (rw [← add32] at this ⊢; exact this)
    · have ea : Int32.ofInt (o : Int) + Int32.ofInt 1 = Int32.ofInt ((o + 1 : Nat) : Int) := by rw [add32]; rfl
      rw [iP_f q] at ey
      have eb : Int32.ofInt (exT (exP ch m) k (368 * i + o)).1 + Int32.ofInt 1 = Int32.ofInt ((exT (exP ch m) k (368 * i + o)).1 + 1) := add32
      rw [ea, eb]
      refine nx (ui I2 58 32 (Int32.ofInt ((exT (exP ch m) k (368 * i + o)).1 + 1))) L2 ⟨FrI.wu f1 rfl, f2, by rw [ey]; exact u_at, fun k0 k1 => ?_⟩ rfl
      rw [ey] at k1 ⊢
      dsimp only at k1 ⊢
      exact f4 k0 (by omega)
  · intro I2 L2 hs
    rw [← beT_e] at hs
    obtain ⟨f1, f2, f3, f4⟩ := hs
    have xv := exT_v (P := exP ch m) (k := k) beT
    have xb : 0 ≤ (exR ch m k).1 ∧ (exR ch m k).1 ≤ 67712 := by have := xv.1; rw [beT_e] at this; have : 0 ≤ (exT (exP ch m) k 67712).1 ∧ (exT (exP ch m) k 67712).1 ≤ ((67712 : Nat) : Int) := this; unfold exR; rw [beT_e]; omega
    have f3 : I2 58 32 = Int32.ofInt (exR ch m k).1 := f3
    have f4 : exY I2 k (exR ch m k) := f4
    have hTT : TabRt I2 := hT2.cg (f1 58 7 rfl) (f1.at rfl) (f1.at rfl)
    have fin : ∀ v : Int, (if k = -1 then (exR ch m k).1 else if k < 0 ∨ (exR ch m k).1 ≤ k then -1 else lsV (exR ch m k).2 wh) = v → Q (.inl (some (.int (Int32.ofInt v)))) (gE Lx) I2 L2 e := fun v hv =>
      h.mk (FrI.tr hfr f1 rfl rfl) f2 (c := 0) ((f1 58 0 rfl).trans h0) rfl (fun _ => hv.symm)
    refine kcp_v rfl (s_322_64 ?_)
    rw [f3, sub32]
    refine i_eq32 hk (by omega) (fun w => fin _ (if_pos w)) (fun w => i_lt32 hk (by omega) (fun w1 => fin (-1) (by rw [if_neg w, if_pos (Or.inl w1)])) (fun w1 => i_lt32 (by omega) hk (fun w2 => fin (-1) (by rw [if_neg w, if_pos (Or.inr (by omega))])) (fun w2 => ?_)))
    have hb : (exR ch m k).2 < 67712 := by
      have := xv.2 w1 (show k < (exR ch m k).1 by omega)
      rw [beT_e] at this
      unfold exR
      rw [beT_e]
      exact this
    obtain ⟨q1, q2, q3⟩ := f4 w1 (by omega)
    have k1 : (exR ch m k).2 / 368 < 184 := by omega
    have k2 : (exR ch m k).2 % 368 / 2 < 184 := by omega
    have fin : ∀ v : Int, lsV (exR ch m k).2 wh = v → Q (.inl (some (.int (Int32.ofInt v)))) (gE Lx) I2 L2 e := fun v hv =>
      fin v (by rw [if_neg w, if_neg (by omega)]; exact hv)
    generalize (exR ch m k).2 = t at *
    unfold lsV at fin
    rw [q1, q2, q3, tncn (k := t / 368) (by omega), tncn (k := t % 368 / 2) (by omega), (hTT.2 _ k1).1, (hTT.2 _ k1).2, (hTT.2 _ k2).1, (hTT.2 _ k2).2]
    exact i_eq32 hwh (by omega) (fun w0 => i_inb (by omega) k1 (fin _ (by rw [if_pos w0]))) (fun w0 => i_eq32 hwh (by omega) (fun w1 => i_inb (by omega) k1 (fin _ (by rw [if_neg w0, if_pos w1]))) (fun w1 => i_eq32 hwh (by omega) (fun w2 => fin _ (by rw [if_neg w0, if_neg w1, if_pos w2])) (fun w2 => i_eq32 hwh (by omega) (fun w3 => i_inb (by omega) k2 (fin _ (by rw [if_neg w0, if_neg w1, if_neg w2, if_pos w3]))) (fun w3 => i_inb (by omega) k2 (fin _ (by rw [if_neg w0, if_neg w1, if_neg w2, if_neg w3]))))))
end
