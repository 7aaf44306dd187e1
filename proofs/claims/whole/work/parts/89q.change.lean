/-! load, add, drop, trim, element: both sides' calls. -/
def cW : Fr := (5, 0, 0) :: (6, 0, 0) :: (7, 0, 0) :: (8, 0, 0) :: cS
def rW : Fr := (59, 0, 0) :: rS
/-- a call of the class that may change the chain -/
def CW (Lx : Nat) (I : Mi) (e : Nat) (Q : Kq) (b : Bool) (r : Nat × Int × Ch) : Prop := ∀ I' L' e', FrI cW I I' → ChAt I' 5 r.2.2 → e' ≤ e + 1 → (r.1 = 0 → b = true → L' 70 0 = .ofInt r.2.1) → Q (.inl (some (.int (Int32.ofInt (r.1 : Int))))) (gE Lx) I' L' e'
/-- the other side's -/
def RW (Lx : Nat) (I : Mi) (L : Ml) (e : Nat) (Q : Kq) (b : Bool) (r : Nat × Int × Ch) : Prop := ∀ I' L' v, FrI rW I I' → BnAt I' 59 0 r.2.2 → L' 70 = L 70 → I' 58 0 = .ofInt (r.1 : Int) → (r.1 = 0 → b = true → v = r.2.1) → Q (.inl (some (.int (Int32.ofInt v)))) (gE Lx) I' L' e
theorem CW.mk {Lx : Nat} {I : Mi} {e : Nat} {Q : Kq} {b : Bool} {code : Nat} {v : Int} {ch : Ch} (h : CW Lx I e Q b (code, v, ch)) {I' : Mi} {L' : Ml} {e' : Nat} {c : Int} (hf : FrI cW I I') (hch : ChAt I' 5 ch) (he : e' ≤ e + 1) (hc : c = code) (hv : code = 0 → b = true → L' 70 0 = .ofInt v) : Q (.inl (some (.int (Int32.ofInt c)))) (gE Lx) I' L' e' := by
  subst hc
  exact h I' L' e' hf hch he hv
theorem RW.mk {Lx : Nat} {I : Mi} {L : Ml} {e : Nat} {Q : Kq} {b : Bool} {code : Nat} {v : Int} {ch : Ch} (h : RW Lx I L e Q b (code, v, ch)) {I' : Mi} {L' : Ml} {w : Int} (hf : FrI rW I I') (hch : BnAt I' 59 0 ch) (hl : L' 70 = L 70) {c : Int} (hc : I' 58 0 = .ofInt c) (hcc : c = code) (hv : code = 0 → b = true → w = v) : Q (.inl (some (.int (Int32.ofInt w)))) (gE Lx) I' L' e := by
  subst hcc
  exact h I' L' w hf hch hl hc hv
theorem ui_app {I : Mi} {k j i m : Nat} {x : Int32} : ui I k j x i m = if i = k ∧ m = j then x else I i m := by
  by_cases h1 : i = k
  · subst h1
    by_cases h2 : m = j
    · subst h2; rw [u_at, if_pos ⟨rfl, rfl⟩]
    · rw [u_ne h2, if_neg (fun z => h2 z.2)]
  · rw [ui_ne h1, if_neg (fun z => h1 z.1)]
def spLoad (ch : Ch) (a b d : Int) : Nat × Int × Ch := if (0 ≤ a ∧ a ≤ 99) ∧ (-99 ≤ b ∧ b ≤ 99) ∧ (1 ≤ d ∧ d ≤ 20) then (0, 0, (a, b, d, ch.2.2.2)) else (1, 0, ch)
def chAdd (ch : Ch) (x : Int × Int × Int) : Ch := (ch.1, ch.2.1, ch.2.2.1, ch.2.2.2.1 + 1, fun k => if k = ch.2.2.2.1 then x else ch.2.2.2.2 k)
noncomputable def spAdd (ch : Ch) (t p q : Int) : Nat × Int × Ch := if 0 ≤ t ∧ t ≤ 4 then iT p q (if ch.2.2.2.1 < 4 then (0, (ch.2.2.2.1 : Int), chAdd ch (t, p, q)) else (2, 0, ch)) (1, 0, ch) else (1, 0, ch)
def chDrop (ch : Ch) : Ch := (ch.1, ch.2.1, ch.2.2.1, ch.2.2.2.1 - 1, ch.2.2.2.2)
def spDrop (ch : Ch) : Nat × Int × Ch := if ch.2.2.2.1 = 0 then (1, 0, ch) else (0, (ch.2.2.2.1 : Int) - 1, chDrop ch)
def chTrim (ch : Ch) (j : Nat) (p q : Int) : Ch := (ch.1, ch.2.1, ch.2.2.1, ch.2.2.2.1, fun k => if k = j then ((ch.2.2.2.2 j).1, p, q) else ch.2.2.2.2 k)
noncomputable def spTrim (ch : Ch) (m p q : Int) : Nat × Int × Ch := if 0 ≤ m ∧ m < (ch.2.2.2.1 : Int) then iT p q (0, 0, chTrim ch m.toNat p q) (2, 0, ch) else (1, 0, ch)
def spEl (ch : Ch) (m x : Int) : Nat × Int := if 0 ≤ m ∧ m < (ch.2.2.2.1 : Int) then (if 0 ≤ x ∧ x ≤ 2 then (0, if x = 0 then (ch.2.2.2.2 m.toNat).1 else if x = 1 then (ch.2.2.2.2 m.toNat).2.1 else (ch.2.2.2.2 m.toNat).2.2) else (2, 0)) else (1, 0)
theorem spLoad_ok {ch : Ch} (h : ChOk ch) {a b d : Int} : ChOk (spLoad ch a b d).2.2 := by
  unfold spLoad
  split
  · rename_i k
    exact ⟨k.1, k.2.1, k.2.2, h.2.2.2⟩
  · exact h
theorem spAdd_ok {ch : Ch} (h : ChOk ch) {t p q : Int} : ChOk (spAdd ch t p q).2.2 := by
  unfold spAdd
  split
  · rename_i k
    rcases Classical.em (isT p q) with k1 | k1
    · rw [iT_t k1]
      split
      · rename_i k2
        refine ⟨h.1, h.2.1, h.2.2.1, k2, fun j hj => ?_⟩
        have hj : j < ch.2.2.2.1 + 1 := hj
        show ElOk (if j = ch.2.2.2.1 then (t, p, q) else ch.2.2.2.2 j)
        by_cases hj2 : j = ch.2.2.2.1
        · rw [if_pos hj2]; exact ⟨k, k1⟩
        · rw [if_neg hj2]; exact h.2.2.2.2 j (by omega)
      · exact h
    · rw [iT_f k1]; exact h
  · exact h
theorem spDrop_ok {ch : Ch} (h : ChOk ch) : ChOk (spDrop ch).2.2 := by
  unfold spDrop
  split
  · exact h
  · refine ⟨h.1, h.2.1, h.2.2.1, ?_, fun j hj => ?_⟩
    · have := h.2.2.2.1
      show ch.2.2.2.1 - 1 ≤ 4
      omega
    · have hj : j < ch.2.2.2.1 - 1 := hj
      exact h.2.2.2.2 j (by omega)
theorem spTrim_ok {ch : Ch} (h : ChOk ch) {m p q : Int} : ChOk (spTrim ch m p q).2.2 := by
  unfold spTrim
  split
  · rename_i k
    rcases Classical.em (isT p q) with k1 | k1
    · rw [iT_t k1]
      refine ⟨h.1, h.2.1, h.2.2.1, h.2.2.2.1, fun j hj => ?_⟩
      have hj : j < ch.2.2.2.1 := hj
      show ElOk (if j = m.toNat then ((ch.2.2.2.2 m.toNat).1, p, q) else ch.2.2.2.2 j)
      by_cases hj2 : j = m.toNat
      · rw [if_pos hj2]; exact ⟨(h.2.2.2.2 m.toNat (by omega)).1, k1⟩
      · rw [if_neg hj2]; exact h.2.2.2.2 j hj
    · rw [iT_f k1]; exact h
  · exact h
section
variable {Lx : Nat} {I : Mi} {L : Ml} {e : Nat} {Q : Kq}
set_option maxHeartbeats 4000000 in
theorem h_367 {ch : Ch} (hc : ChAt I 5 ch) {a b d : Int} (ha : R32 a) (hb : R32 b) (hd : R32 d) (h : CW Lx I e Q false (spLoad ch a b d)) :
    Wp 367 0 [(0, .ref 1), (1, .int (Int32.ofInt a)), (2, .int (Int32.ofInt b)), (3, .int (Int32.ofInt d))] [] (gE Lx) I L e Q := by
  unfold spLoad at h
  have bad : ¬ ((0 ≤ a ∧ a ≤ 99) ∧ (-99 ≤ b ∧ b ≤ 99) ∧ (1 ≤ d ∧ d ≤ 20)) → Q (.inl (some (.int (Int32.ofInt 1)))) (gE Lx) I L (e + 1) := fun k => by
    rw [if_neg k] at h
    exact h.mk FrI.rf hc (by omega) rfl (fun z => by cases z)
  have good : ((0 ≤ a ∧ a ≤ 99) ∧ (-99 ≤ b ∧ b ≤ 99) ∧ (1 ≤ d ∧ d ≤ 20)) → Q (.inl (some (.int (Int32.ofInt 0)))) (gE Lx) (ui (ui (ui I 5 0 (Int32.ofInt a)) 5 1 (Int32.ofInt b)) 5 2 (Int32.ofInt d)) L e := fun k => by
    rw [if_pos k] at h
    refine h.mk (FrI.wu (FrI.wu (FrI.wu FrI.rf rfl) rfl) rfl) ?_ (by omega) rfl (fun _ z => by cases z)
    obtain ⟨c0, c1, c2, c3, c4⟩ := hc
    exact ⟨rfl, rfl, rfl, c3, c4⟩
  refine s_367_0 ?_
  repeat' (first | (exfalso; omega) | refine i_ltz (by omega) (fun _ => ?_) (fun _ => ?_) | refine i_lt32 (by omega) (by omega) (fun _ => ?_) (fun _ => ?_))
  all_goals first | exact bad (by omega) | exact good (by omega)
set_option maxHeartbeats 4000000 in
theorem r_213 {ch : Ch} (hc : BnAt I 59 0 ch) {a b d : Int} (ha : R32 a) (hb : R32 b) (hd : R32 d) (h : RW Lx I L e Q false (spLoad ch a b d)) :
    Wp 213 0 [(0, .ref 58), (1, .int (Int32.ofInt a)), (2, .int (Int32.ofInt b)), (3, .int (Int32.ofInt d))] [] (gE Lx) I L e Q := by
  unfold spLoad at h
  have bad : ¬ ((0 ≤ a ∧ a ≤ 99) ∧ (-99 ≤ b ∧ b ≤ 99) ∧ (1 ≤ d ∧ d ≤ 20)) → Q (.inl (some (.int (Int32.ofInt 0)))) (gE Lx) (ui I 58 0 (Int32.ofInt 1)) L e := fun k => by
    rw [if_neg k] at h
    exact h.mk (FrI.wu FrI.rf rfl) (hc.th (by decide)) rfl (c := 1) u_at rfl (fun z => by cases z)
  have good : ((0 ≤ a ∧ a ≤ 99) ∧ (-99 ≤ b ∧ b ≤ 99) ∧ (1 ≤ d ∧ d ≤ 20)) → Q (.inl (some (.int (Int32.ofInt 0)))) (gE Lx) (ui (ui (ui (ui I 58 0 (Int32.ofInt 0)) 59 0 (Int32.ofInt a)) 59 1 (Int32.ofInt b)) 59 2 (Int32.ofInt d)) L e := fun k => by
    rw [if_pos k] at h
    refine h.mk (FrI.wu (FrI.wu (FrI.wu (FrI.wu FrI.rf rfl) rfl) rfl) rfl) ?_ rfl (c := 0) rfl rfl (fun _ z => by cases z)
    obtain ⟨c0, c1, c2, c3, c4⟩ := hc
    refine ⟨rfl, rfl, rfl, c3, fun j hj => ?_⟩
    have h4 := c4 j hj
    rw [u_ne (by omega), u_ne (by omega), u_ne (by omega), u_ne (by omega), u_ne (by omega), u_ne (by omega), u_ne (by omega), u_ne (by omega), u_ne (by omega), ui_ne (by decide)]
    exact h4
  refine s_213_0 ?_
  repeat' (first | (exfalso; omega) | refine i_lt32 (by omega) (by omega) (fun _ => ?_) (fun _ => ?_))
  all_goals first | exact bad (by omega) | exact good (by omega)
set_option maxHeartbeats 4000000 in
theorem h_368 {ch : Ch} (hok : ChOk ch) (hc : ChAt I 5 ch) {t p q : Int} (ht : R32 t) (hp : R32 p) (hq : R32 q) (h : CW Lx I e Q true (spAdd ch t p q)) :
    Wp 368 0 [(0, .ref 1), (1, .int (Int32.ofInt t)), (2, .int (Int32.ofInt p)), (3, .int (Int32.ofInt q)), (4, .ref 70)] [] (gE Lx) I L e Q := by
  unfold spAdd at h
  have h4 := hok.2.2.2.1
  have e3 := hc.2.2.2.1
  have bad : ¬ (0 ≤ t ∧ t ≤ 4) → Q (.inl (some (.int (Int32.ofInt 1)))) (gE Lx) I L (e + 1) := fun k => by
    rw [if_neg k] at h
    exact h.mk FrI.rf hc (by omega) rfl (fun z => by cases z)
  refine s_368_0 (i_ltz ht (fun _ => bad (by omega)) (fun _ => i_lt32 (by omega) ht (fun _ => bad (by omega)) (fun _ => n_113 hp hq (fun hT => kcp_v rfl (s_112_23 ?_)) (fun hT => ?_))))
  · rw [if_pos (by omega), iT_t hT] at h
    rw [e3]
    refine i_lt32 (by omega) (by omega) (fun k => ?_) (fun k => ?_)
    · rw [if_pos (by omega)] at h
      refine i_ltz (by omega) (fun _ => by omega) (fun _ => i_lt32 (by omega) (by omega) (fun _ => ?_) (fun _ => by omega))
      refine i_inb (by omega) (by omega) (i_inb (by omega) (by omega) (i_inb (by omega) (by omega) (kcp_v rfl (s_368_10 (i_inb0 (by decide) ?_)))))
      rw [tncn (by omega), add32, sub32, i2l (by omega)]
      refine h.mk (c := 0) (FrI.wu (FrI.wu (FrI.wu (FrI.wu FrI.rf rfl) rfl) rfl) rfl) ?_ (by omega) rfl (fun _ _ => ?_)
      · obtain ⟨c0, c1, c2, c3, c4⟩ := hc
        refine ⟨c0, c1, c2, ?_, fun j hj => ?_⟩
        · rw [u_at]; rfl
        · have hj : j < ch.2.2.2.1 + 1 := hj
          show _ = Int32.ofInt (if j = ch.2.2.2.1 then (t, p, q) else ch.2.2.2.2 j).1 ∧ _ = Int32.ofInt (if j = ch.2.2.2.1 then (t, p, q) else ch.2.2.2.2 j).2.1 ∧ _ = Int32.ofInt (if j = ch.2.2.2.1 then (t, p, q) else ch.2.2.2.2 j).2.2
          simp only [ui_app]
          by_cases hj2 : j = ch.2.2.2.1
          · simp [hj2]
          · have := c4 j (by omega)
            simp [hj2]
            exact this
      · rw [o70]
        congr 1
        omega
    · rw [if_neg (by omega)] at h
      exact kcp_h rfl (h.mk (c := 2) FrI.rf hc (by omega) rfl (fun z => by cases z))
  · rw [if_pos (by omega), iT_f hT] at h
    exact kcp_x rfl (kcp_h rfl (h.mk (c := 1) FrI.rf hc (by omega) rfl (fun z => by cases z)))
theorem bn_j {ch : Ch} {I : Mi} {k : Nat} (hk : k < 4) {t p q : Int} (hc : BnAt I 59 0 ch) {z : Int × Int × Int} {n : Nat} (hz : ∀ j, j < n → j ≠ k → j < ch.2.2.2.1) (hn : I 59 3 = .ofInt n) :
    BnAt (ui (ui (ui I 59 (4 + 3 * k) (Int32.ofInt t)) 59 (5 + 3 * k) (Int32.ofInt p)) 59 (6 + 3 * k) (Int32.ofInt q)) 59 0 (ch.1, ch.2.1, ch.2.2.1, n, fun j => if j = k then (t, p, q) else ch.2.2.2.2 j) := by
  obtain ⟨c0, c1, c2, c3, c4⟩ := hc
  simp only [BnAt, ui_app]
  refine ⟨?_, ?_, ?_, ?_, fun j hj => ?_⟩
  · rw [if_neg (by omega), if_neg (by omega), if_neg (by omega)]; exact c0
  · rw [if_neg (by omega), if_neg (by omega), if_neg (by omega)]; exact c1
  · rw [if_neg (by omega), if_neg (by omega), if_neg (by omega)]; exact c2
  · rw [if_neg (by omega), if_neg (by omega), if_neg (by omega)]; exact hn
  · by_cases hj2 : j = k
    · subst hj2
      refine ⟨?_, ?_, ?_⟩
      · rw [if_neg (by omega), if_neg (by omega), if_pos (by refine ⟨?_, ?_⟩ <;> first | trivial | omega), if_pos rfl]
      · rw [if_neg (by omega), if_pos (by refine ⟨?_, ?_⟩ <;> first | trivial | omega), if_pos rfl]
      · rw [if_pos (by refine ⟨?_, ?_⟩ <;> first | trivial | omega), if_pos rfl]
    · have h5 := c4 j (hz j hj hj2)
      refine ⟨?_, ?_, ?_⟩
      · rw [if_neg (by omega), if_neg (by omega), if_neg (by omega), if_neg hj2]; exact h5.1
      · rw [if_neg (by omega), if_neg (by omega), if_neg (by omega), if_neg hj2]; exact h5.2.1
      · rw [if_neg (by omega), if_neg (by omega), if_neg (by omega), if_neg hj2]; exact h5.2.2
end
