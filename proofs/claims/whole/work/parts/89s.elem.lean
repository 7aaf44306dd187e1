/-! limit, element. -/
def limOk (a b : Int) : Prop := 0 ≤ a ∧ 1 ≤ b ∧ b ≤ 20 ∧ a < b
theorem i_e32 {A B : Prop} {x y : Int} (hx : R32 x) (hy : R32 y) (h1 : x = y → A) (h2 : x ≠ y → B) : if Int32.ofInt x = Int32.ofInt y then A else B := i_eq32 hx hy h1 h2
section
variable {Lx : Nat} {I : Mi} {L : Ml} {e : Nat} {Q : Kq}
set_option maxHeartbeats 4000000 in
theorem h_371 {a b : Int} (ha : R32 a) (hb : R32 b) (h1 : limOk a b → Q (.inl (some (.int (Int32.ofInt 0)))) (gE Lx) (ui (ui I 1 4 (Int32.ofInt a)) 1 5 (Int32.ofInt b)) L e) (h0 : ¬ limOk a b → Q (.inl (some (.int (Int32.ofInt 1)))) (gE Lx) I L (e + 1)) :
    Wp 371 0 [(0, .ref 1), (1, .int (Int32.ofInt a)), (2, .int (Int32.ofInt b))] [] (gE Lx) I L e Q := by
  unfold limOk at h1 h0
  refine s_371_0 ?_
  repeat' (first | (exfalso; omega) | refine i_ltz (by omega) (fun _ => ?_) (fun _ => ?_) | refine i_lt32 (by omega) (by omega) (fun _ => ?_) (fun _ => ?_))
  all_goals first | exact h0 (by omega) | exact h1 (by omega)
set_option maxHeartbeats 4000000 in
theorem r_221 {a b : Int} (ha : R32 a) (hb : R32 b) (h1 : limOk a b → Q (.inl (some (.int (Int32.ofInt 0)))) (gE Lx) (ui (ui (ui I 58 0 (Int32.ofInt 0)) 58 3 (Int32.ofInt a)) 58 4 (Int32.ofInt b)) L e) (h0 : ¬ limOk a b → Q (.inl (some (.int (Int32.ofInt 0)))) (gE Lx) (ui I 58 0 (Int32.ofInt 1)) L e) :
    Wp 221 0 [(0, .ref 58), (1, .int (Int32.ofInt a)), (2, .int (Int32.ofInt b))] [] (gE Lx) I L e Q := by
  unfold limOk at h1 h0
  refine s_221_0 ?_
  repeat' (first | (exfalso; omega) | refine i_lt32 (by omega) (by omega) (fun _ => ?_) (fun _ => ?_))
  all_goals first | exact h0 (by omega) | exact h1 (by omega)
theorem ElOk.b {x : Int × Int × Int} (h : ElOk x) : R32 x.1 ∧ R32 x.2.1 ∧ R32 x.2.2 := by
  have := h.1; have := h.2.b; omega
set_option maxHeartbeats 4000000 in
theorem h_372 {ch : Ch} (hok : ChOk ch) (hc : ChAt I 5 ch) {m x : Int} (hm : R32 m) (hx : R32 x) (h : CQ Lx I e Q (spEl ch m x).1 (spEl ch m x).2) :
    Wp 372 0 [(0, .ref 1), (1, .int (Int32.ofInt m)), (2, .int (Int32.ofInt x)), (3, .ref 70)] [] (gE Lx) I L e Q := by
  unfold spEl at h
  have h4 := hok.2.2.2.1
  have e3 := hc.2.2.2.1
  refine s_372_0 ?_
  rw [e3]
  have bad : ¬ (0 ≤ m ∧ m < (ch.2.2.2.1 : Int)) → Q (.inl (some (.int (Int32.ofInt 1)))) (gE Lx) I L (e + 1) := fun k => by
    rw [if_neg k] at h
    exact h.mk (c := 1) FrI.rf (by omega) rfl (fun z => by cases z)
  refine i_ltz hm (fun _ => bad (by omega)) (fun _ => i_lt32 hm (by omega) (fun _ => ?_) (fun _ => bad (by omega)))
  rw [if_pos (by omega)] at h
  have bad2 : ¬ (0 ≤ x ∧ x ≤ 2) → Q (.inl (some (.int (Int32.ofInt 2)))) (gE Lx) I L (e + 1) := fun k => by
    rw [if_neg k] at h
    exact h.mk (c := 2) FrI.rf (by omega) rfl (fun z => by cases z)
  obtain ⟨k, rfl, hk⟩ := nat_of (m := m) (n := 4) (by omega) (by omega)
  rw [Int.toNat_natCast] at h
  have c4 := hc.2.2.2.2 k (by omega)
  have hb := (hok.2.2.2.2 k (by omega)).b
  refine i_ltz hx (fun _ => bad2 (by omega)) (fun _ => i_lt32 (by omega) hx (fun _ => bad2 (by omega)) (fun _ => ?_))
  rw [if_pos (by omega)] at h
  have fin : ∀ v : Int, R32 v → v = (if x = 0 then (ch.2.2.2.2 k).1 else if x = 1 then (ch.2.2.2.2 k).2.1 else (ch.2.2.2.2 k).2.2) → Wp 372 8 [(0, .ref 1), (3, .ref 70)] [.int (Int32.ofInt v), .int (Int32.ofInt 0), .ref 70] (gE Lx) I L e Q := by
    intro v hv he
    exact s_372_8 (i_inb0 (by decide) (h.mk (c := 0) FrI.rf (by omega) rfl (fun _ => by rw [o70, i2l hv, he])))
  refine i_eqz hx (fun k0 => c_12 (Or.inl rfl) (by omega) ?_) (fun k0 => i_eq32 hx (by omega) (fun k1 => c_14 (Or.inl rfl) (by omega) ?_) (fun k1 => c_15 (Or.inl rfl) (by omega) ?_))
  · rw [c4.1]
    exact kcp_v rfl (s_119_23 (kcp_v rfl (fin _ hb.1 (by rw [if_pos k0]))))
  · rw [c4.2.1]
    exact kcp_v rfl (s_119_37 (s_119_48 (kcp_v rfl (fin _ hb.2.1 (by rw [if_neg k0, if_pos k1])))))
  · rw [c4.2.2]
    exact kcp_v rfl (s_119_48 (kcp_v rfl (fin _ hb.2.2 (by rw [if_neg k0, if_neg k1]))))
set_option maxHeartbeats 4000000 in
theorem r_222 {ch : Ch} (hok : ChOk ch) (hc : BnAt I 59 0 ch) {m x : Int} (hm : R32 m) (hx : R32 x) (h : RQ Lx I L e Q (spEl ch m x).1 vI (spEl ch m x).2) :
    Wp 222 0 [(0, .ref 58), (1, .int (Int32.ofInt m)), (2, .int (Int32.ofInt x))] [] (gE Lx) I L e Q := by
  unfold spEl at h
  have h4 := hok.2.2.2.1
  have e3 : I 59 3 = Int32.ofInt (ch.2.2.2.1 : Int) := hc.2.2.2.1
  refine s_222_0 ?_
  rw [e3, sub32]
  have bad : ¬ (0 ≤ m ∧ m < (ch.2.2.2.1 : Int)) → Wp 222 71 [(0, .ref 58)] [.int (Int32.ofInt 0)] (gE Lx) (ui I 58 0 (Int32.ofInt 1)) L e Q := fun k => by
    rw [if_neg k] at h
    exact s_222_71 (h.mk (v := 0) (FrI.wu FrI.rf rfl) rfl (c := 1) u_at rfl (fun z => by cases z))
  refine i_lt32 hm (by omega) (fun _ => bad (by omega)) (fun _ => i_lt32 (by omega) hm (fun _ => bad (by omega)) (fun _ => ?_))
  rw [if_pos (by omega)] at h
  have bad2 : ¬ (0 ≤ x ∧ x ≤ 2) → Wp 222 71 [(0, .ref 58)] [.int (Int32.ofInt 0)] (gE Lx) (ui I 58 0 (Int32.ofInt 2)) L e Q := fun k => by
    rw [if_neg k] at h
    exact s_222_71 (h.mk (v := 0) (FrI.wu FrI.rf rfl) rfl (c := 2) u_at rfl (fun z => by cases z))
  obtain ⟨k, rfl, hk⟩ := nat_of (m := m) (n := 4) (by omega) (by omega)
  rw [Int.toNat_natCast] at h
  refine i_lt32 hx (by omega) (fun _ => bad2 (by omega)) (fun _ => i_lt32 (by omega) hx (fun _ => bad2 (by omega)) (fun _ => ?_))
  rw [if_pos (by omega)] at h
  have fin : ∀ v : Int, v = (if x = 0 then (ch.2.2.2.2 k).1 else if x = 1 then (ch.2.2.2.2 k).2.1 else (ch.2.2.2.2 k).2.2) → Wp 222 71 [(0, .ref 58)] [.int (Int32.ofInt v)] (gE Lx) (ui I 58 0 (Int32.ofInt 0)) L e Q := by
    intro v he
    exact s_222_71 (h.mk (v := v) (FrI.wu FrI.rf rfl) rfl (c := 0) u_at rfl (fun _ => he))
  have hc2 : BnAt (ui I 58 0 (Int32.ofInt 0)) 59 0 ch := hc.th (by decide)
  refine i_eqz hx (fun k0 => c_220 hc2 (by omega) h4 (kcp_v rfl (s_222_50 (fin _ ?_)))) (fun k0 => i_eq32 hx (by omega) (fun k1 => c_223 hc2 (by omega) h4 (kcp_v rfl (s_222_63 (fin _ ?_)))) (fun k1 => c_224 hc2 (by omega) h4 (kcp_v rfl (fin _ ?_))))
  · rw [if_pos k0]
  · rw [if_neg k0, if_pos k1]
  · rw [if_neg k0, if_neg k1]
end
