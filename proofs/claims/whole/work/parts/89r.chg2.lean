/-! load, add, drop, trim, limit, element: the rest. -/
theorem bn_of {ch : Ch} {I I' : Mi} {k n : Nat} {t p q : Int} (hc : BnAt I 59 0 ch) (hz : ∀ j, j < n → j ≠ k → j < ch.2.2.2.1)
    (hI : ∀ j, I' 59 j = if j = 3 then .ofInt (n : Int) else if j = 4 + 3 * k then .ofInt t else if j = 5 + 3 * k then .ofInt p else if j = 6 + 3 * k then .ofInt q else I 59 j) :
    BnAt I' 59 0 (ch.1, ch.2.1, ch.2.2.1, n, fun j => if j = k then (t, p, q) else ch.2.2.2.2 j) := by
  obtain ⟨c0, c1, c2, c3, c4⟩ := hc
  refine ⟨?_, ?_, ?_, ?_, fun j hj => ?_⟩
  · rw [hI, if_neg (by omega), if_neg (by omega), if_neg (by omega), if_neg (by omega)]; exact c0
  · rw [hI, if_neg (by omega), if_neg (by omega), if_neg (by omega), if_neg (by omega)]; exact c1
  · rw [hI, if_neg (by omega), if_neg (by omega), if_neg (by omega), if_neg (by omega)]; exact c2
  · rw [hI, if_pos (by omega)]
  · show I' 59 (0 + (4 + 3 * j)) = Int32.ofInt (if j = k then (t, p, q) else ch.2.2.2.2 j).1 ∧ I' 59 (0 + (5 + 3 * j)) = Int32.ofInt (if j = k then (t, p, q) else ch.2.2.2.2 j).2.1 ∧ I' 59 (0 + (6 + 3 * j)) = Int32.ofInt (if j = k then (t, p, q) else ch.2.2.2.2 j).2.2
    by_cases hj2 : j = k
    · subst hj2
      rw [if_pos (show j = j from rfl)]
      refine ⟨?_, ?_, ?_⟩
      · rw [hI, if_neg (by omega), if_pos (by omega)]
      · rw [hI, if_neg (by omega), if_neg (by omega), if_pos (by omega)]
      · rw [hI, if_neg (by omega), if_neg (by omega), if_neg (by omega), if_pos (by omega)]
    · have h5 := c4 j (hz j hj hj2)
      rw [if_neg hj2]
      refine ⟨?_, ?_, ?_⟩
      · rw [hI, if_neg (by omega), if_neg (by omega), if_neg (by omega), if_neg (by omega)]; exact h5.1
      · rw [hI, if_neg (by omega), if_neg (by omega), if_neg (by omega), if_neg (by omega)]; exact h5.2.1
      · rw [hI, if_neg (by omega), if_neg (by omega), if_neg (by omega), if_neg (by omega)]; exact h5.2.2
section
variable {Lx : Nat} {I : Mi} {L : Ml} {e : Nat} {Q : Kq}
set_option maxHeartbeats 4000000 in
theorem r_214 {ch : Ch} (hok : ChOk ch) (hc : BnAt I 59 0 ch) {t p q : Int} (ht : R32 t) (hp : R32 p) (hq : R32 q) (h : RW Lx I L e Q true (spAdd ch t p q)) :
    Wp 214 0 [(0, .ref 58), (1, .int (Int32.ofInt t)), (2, .int (Int32.ofInt p)), (3, .int (Int32.ofInt q))] [] (gE Lx) I L e Q := by
  unfold spAdd at h
  have h4 := hok.2.2.2.1
  have e3 : I 59 3 = Int32.ofInt (ch.2.2.2.1 : Int) := hc.2.2.2.1
  have bad : ¬ (0 ≤ t ∧ t ≤ 4) → Q (.inl (some (.int (Int32.ofInt 0)))) (gE Lx) (ui I 58 0 (Int32.ofInt 1)) L e := fun k => by
    rw [if_neg k] at h
    exact h.mk (FrI.wu FrI.rf rfl) (hc.th (by decide)) rfl (c := 1) u_at rfl (fun z => by cases z)
  refine s_214_0 (i_lt32 ht (by omega) (fun _ => bad (by omega)) (fun _ => i_lt32 (by omega) ht (fun _ => bad (by omega)) (fun _ => c_207 hp hq (fun hT => kcp_v rfl (s_214_15 ?_)) (fun hT => kcp_v rfl (s_214_15 ?_)))))
  · rw [if_pos (by omega), iT_t hT] at h
    refine j_1 ?_
    rw [e3]
    refine i_eq32 (by omega) (by omega) (fun k => ?_) (fun k => ?_)
    · rw [if_neg (by omega)] at h
      exact h.mk (FrI.wu FrI.rf rfl) (hc.th (by decide)) rfl (c := 2) u_at rfl (fun z => by cases z)
    · rw [if_pos (by omega)] at h
      have q4 : (Int32.ofInt 4 + Int32.ofInt 3 * Int32.ofInt (ch.2.2.2.1 : Int)) = Int32.ofInt ((4 + 3 * ch.2.2.2.1 : Nat) : Int) := bn_i (ch := ch) 4
      have q5 : (Int32.ofInt 5 + Int32.ofInt 3 * Int32.ofInt (ch.2.2.2.1 : Int)) = Int32.ofInt ((5 + 3 * ch.2.2.2.1 : Nat) : Int) := bn_i (ch := ch) 5
      have q6 : (Int32.ofInt 6 + Int32.ofInt 3 * Int32.ofInt (ch.2.2.2.1 : Int)) = Int32.ofInt ((6 + 3 * ch.2.2.2.1 : Nat) : Int) := bn_i (ch := ch) 6
      rw [q4, q5, q6, tncn (by omega), tncn (by omega), tncn (by omega)]
      refine i_inb (by omega) (by omega) (i_inb (by omega) (by omega) (i_inb (by omega) (by omega) ?_))
      rw [u_ne (by omega), u_ne (by omega), u_ne (by omega), ui_ne (by decide), e3, add32, sub32]
      refine h.mk (FrI.wu (FrI.wu (FrI.wu (FrI.wu (FrI.wu FrI.rf rfl) rfl) rfl) rfl) rfl) (bn_of hc (fun j _ _ => by omega) (fun j => ?_)) rfl (c := 0) rfl rfl (fun _ _ => by omega)
      generalize ch.2.2.2.1 = n at *
      by_cases a : j = 3
      · subst a; rw [u_at, if_pos rfl]; rfl
      · rw [u_ne a, if_neg a]
        by_cases b : j = 6 + 3 * n
        · subst b; rw [u_at, if_neg (by omega), if_neg (by omega), if_pos rfl]
        · rw [u_ne b]
          by_cases c : j = 5 + 3 * n
          · subst c; rw [u_at, if_neg (by omega), if_pos rfl]
          · rw [u_ne c]
            by_cases d : j = 4 + 3 * n
            · subst d; rw [u_at, if_pos rfl]
            · rw [u_ne d, if_neg d, if_neg c, if_neg b, ui_ne (by decide)]
  · rw [if_pos (by omega), iT_f hT] at h
    refine j_0 ?_
    exact h.mk (FrI.wu FrI.rf rfl) (hc.th (by decide)) rfl (c := 1) u_at rfl (fun z => by cases z)
set_option maxHeartbeats 4000000 in
theorem h_369 {ch : Ch} (hok : ChOk ch) (hc : ChAt I 5 ch) (h : CW Lx I e Q true (spDrop ch)) :
    Wp 369 0 [(0, .ref 1), (1, .ref 70)] [] (gE Lx) I L e Q := by
  unfold spDrop at h
  have h4 := hok.2.2.2.1
  have e3 := hc.2.2.2.1
  refine s_369_0 ?_
  rw [e3, sub32, i2l (by omega)]
  refine i_zlt (by omega) (fun k => ?_) (fun k => ?_)
  · rw [if_neg (by omega)] at h
    refine h.mk (c := 0) (FrI.wu FrI.rf rfl) ?_ (by omega) rfl (fun _ _ => l_at)
    obtain ⟨c0, c1, c2, c3, c4⟩ := hc
    refine ⟨c0, c1, c2, ?_, fun j hj => c4 j ?_⟩
    · rw [u_at]
      show Int32.ofInt _ = Int32.ofInt ((ch.2.2.2.1 - 1 : Nat) : Int)
      congr 1
      omega
    · have hj : j < ch.2.2.2.1 - 1 := hj
      omega
  · rw [if_pos (by omega)] at h
    exact h.mk (c := 1) FrI.rf hc (by omega) rfl (fun z => by cases z)
set_option maxHeartbeats 4000000 in
theorem r_217 {ch : Ch} (hok : ChOk ch) (hc : BnAt I 59 0 ch) (h : RW Lx I L e Q true (spDrop ch)) :
    Wp 217 0 [(0, .ref 58)] [] (gE Lx) I L e Q := by
  unfold spDrop at h
  have h4 := hok.2.2.2.1
  have e3 : I 59 3 = Int32.ofInt (ch.2.2.2.1 : Int) := hc.2.2.2.1
  refine s_217_0 ?_
  rw [e3, sub32]
  refine i_eqz (by omega) (fun k => ?_) (fun k => ?_)
  · rw [if_pos (by omega)] at h
    exact h.mk (w := 0) (FrI.wu FrI.rf rfl) (hc.th (by decide)) rfl (c := 1) u_at rfl (fun z => by cases z)
  · rw [if_neg (by omega)] at h
    refine h.mk (FrI.wu (FrI.wu FrI.rf rfl) rfl) ?_ rfl (c := 0) rfl rfl (fun _ _ => rfl)
    obtain ⟨c0, c1, c2, c3, c4⟩ := hc
    refine ⟨c0, c1, c2, ?_, fun j hj => ?_⟩
    · show Int32.ofInt _ = Int32.ofInt ((ch.2.2.2.1 - 1 : Nat) : Int)
      congr 1
      omega
    · have hj : j < ch.2.2.2.1 - 1 := hj
      have := c4 j (by omega)
      rw [u_ne (by omega), u_ne (by omega), u_ne (by omega), ui_ne (by decide)]
      exact this
set_option maxHeartbeats 4000000 in
theorem h_370 {ch : Ch} (hok : ChOk ch) (hc : ChAt I 5 ch) {m p q : Int} (hm : R32 m) (hp : R32 p) (hq : R32 q) (h : CW Lx I e Q false (spTrim ch m p q)) :
    Wp 370 0 [(0, .ref 1), (1, .int (Int32.ofInt m)), (2, .int (Int32.ofInt p)), (3, .int (Int32.ofInt q))] [] (gE Lx) I L e Q := by
  unfold spTrim at h
  have h4 := hok.2.2.2.1
  have e3 := hc.2.2.2.1
  refine s_370_0 ?_
  rw [e3]
  have bad : ¬ (0 ≤ m ∧ m < (ch.2.2.2.1 : Int)) → Q (.inl (some (.int (Int32.ofInt 1)))) (gE Lx) I L (e + 1) := fun k => by
    rw [if_neg k] at h
    exact h.mk FrI.rf hc (by omega) rfl (fun z => by cases z)
  refine i_ltz hm (fun _ => bad (by omega)) (fun _ => i_lt32 hm (by omega) (fun _ => n_113 hp hq (fun hT => kcp_v rfl (s_116_11 ?_)) (fun hT => ?_)) (fun _ => bad (by omega)))
  · rw [if_pos (by omega), iT_t hT] at h
    obtain ⟨k, rfl, hk⟩ := nat_of (m := m) (n := 4) (by omega) (by omega)
    rw [Int.toNat_natCast] at h
    refine i_ltz (by omega) (fun _ => by omega) (fun _ => i_lt32 (by omega) (by omega) (fun _ => i_inb (by omega) (by omega) (i_inb (by omega) (by omega) (kcp_v rfl (s_370_7 ?_)))) (fun _ => by omega))
    rw [tncn (by omega)]
    refine h.mk (c := 0) (FrI.wu (FrI.wu FrI.rf rfl) rfl) ?_ (by omega) rfl (fun _ z => by cases z)
    obtain ⟨c0, c1, c2, c3, c4⟩ := hc
    refine ⟨c0, c1, c2, c3, fun j hj => ?_⟩
    have hj : j < ch.2.2.2.1 := hj
    have h5 := c4 j hj
    show _ = Int32.ofInt (if j = k then ((ch.2.2.2.2 k).1, p, q) else ch.2.2.2.2 j).1 ∧ _ = Int32.ofInt (if j = k then ((ch.2.2.2.2 k).1, p, q) else ch.2.2.2.2 j).2.1 ∧ _ = Int32.ofInt (if j = k then ((ch.2.2.2.2 k).1, p, q) else ch.2.2.2.2 j).2.2
    by_cases hj2 : j = k
    · subst hj2
      rw [if_pos rfl]
      refine ⟨h5.1, ?_, ?_⟩
      · show ui (ui I 7 j (Int32.ofInt p)) 8 j (Int32.ofInt q) 7 j = _
        rw [ui_ne (by decide), u_at]
      · exact u_at
    · rw [if_neg hj2]
      refine ⟨h5.1, ?_, ?_⟩
      · show ui (ui I 7 k (Int32.ofInt p)) 8 k (Int32.ofInt q) 7 j = _
        rw [ui_ne (by decide), u_ne hj2]
        exact h5.2.1
      · show ui (ui I 7 k (Int32.ofInt p)) 8 k (Int32.ofInt q) 8 j = _
        rw [u_ne hj2, ui_ne (by decide)]
        exact h5.2.2
  · rw [if_pos (by omega), iT_f hT] at h
    exact kcp_x rfl (kcp_h rfl (h.mk (c := 2) FrI.rf hc (by omega) rfl (fun z => by cases z)))
set_option maxHeartbeats 4000000 in
theorem r_218 {ch : Ch} (hok : ChOk ch) (hc : BnAt I 59 0 ch) {m p q : Int} (hm : R32 m) (hp : R32 p) (hq : R32 q) (h : RW Lx I L e Q false (spTrim ch m p q)) :
    Wp 218 0 [(0, .ref 58), (1, .int (Int32.ofInt m)), (2, .int (Int32.ofInt p)), (3, .int (Int32.ofInt q))] [] (gE Lx) I L e Q := by
  unfold spTrim at h
  have h4 := hok.2.2.2.1
  have e3 : I 59 3 = Int32.ofInt (ch.2.2.2.1 : Int) := hc.2.2.2.1
  refine s_218_0 ?_
  rw [e3, sub32]
  have bad : ¬ (0 ≤ m ∧ m < (ch.2.2.2.1 : Int)) → Q (.inl (some (.int (Int32.ofInt 0)))) (gE Lx) (ui I 58 0 (Int32.ofInt 1)) L e := fun k => by
    rw [if_neg k] at h
    exact h.mk (FrI.wu FrI.rf rfl) (hc.th (by decide)) rfl (c := 1) u_at rfl (fun z => by cases z)
  refine i_lt32 hm (by omega) (fun _ => bad (by omega)) (fun _ => i_lt32 (by omega) hm (fun _ => bad (by omega)) (fun _ => c_207 hp hq (fun hT => kcp_v rfl (s_218_18 ?_)) (fun hT => kcp_v rfl (s_218_18 ?_))))
  · rw [if_pos (by omega), iT_t hT] at h
    refine j_1 ?_
    obtain ⟨k, rfl, hk⟩ := nat_of (m := m) (n := 4) (by omega) (by omega)
    rw [Int.toNat_natCast] at h
    refine c_220 (hc.th (by decide)) (by omega) h4 (kcp_v rfl (s_218_45 ?_))
    have q4 : (Int32.ofInt 4 + Int32.ofInt 3 * Int32.ofInt (k : Int)) = Int32.ofInt ((4 + 3 * k : Nat) : Int) := bn_i (ch := ch) 4
    have q5 : (Int32.ofInt 5 + Int32.ofInt 3 * Int32.ofInt (k : Int)) = Int32.ofInt ((5 + 3 * k : Nat) : Int) := bn_i (ch := ch) 5
    have q6 : (Int32.ofInt 6 + Int32.ofInt 3 * Int32.ofInt (k : Int)) = Int32.ofInt ((6 + 3 * k : Nat) : Int) := bn_i (ch := ch) 6
    rw [q4, q5, q6, tncn (by omega), tncn (by omega), tncn (by omega)]
    refine i_inb (by omega) (by omega) (i_inb (by omega) (by omega) (i_inb (by omega) (by omega) ?_))
    refine h.mk (w := 0) (FrI.wu (FrI.wu (FrI.wu (FrI.wu FrI.rf rfl) rfl) rfl) rfl) (bn_of hc (fun j hj _ => hj) (fun j => ?_)) rfl (c := 0) rfl rfl (fun _ z => by cases z)
    by_cases b : j = 6 + 3 * k
    · subst b; rw [u_at, if_neg (by omega), if_neg (by omega), if_neg (by omega), if_pos rfl]
    · rw [u_ne b]
      by_cases c : j = 5 + 3 * k
      · subst c; rw [u_at, if_neg (by omega), if_neg (by omega), if_pos rfl]
      · rw [u_ne c]
        by_cases d : j = 4 + 3 * k
        · subst d; rw [u_at, if_neg (by omega), if_pos rfl]
        · rw [u_ne d, if_neg d, if_neg c, if_neg b, ui_ne (by decide)]
          by_cases a : j = 3
          · subst a; rw [if_pos rfl]; exact e3
          · rw [if_neg a]
  · rw [if_pos (by omega), iT_f hT] at h
    exact j_0 (h.mk (w := 0) (FrI.wu FrI.rf rfl) (hc.th (by decide)) rfl (c := 2) u_at rfl (fun z => by cases z))
end
