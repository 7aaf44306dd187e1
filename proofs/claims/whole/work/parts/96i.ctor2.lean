/-! The constructors: the rows of TANGENTS on both sides. -/
/-- the class' row: each fraction out of the two ahead of it -/
def fa : Nat → Int × Int × Int × Int
  | 0 => (0, 1, 1, 12)
  | n + 1 => ((fa n).2.2.1, (fa n).2.2.2, (12 + (fa n).2.1).tdiv (fa n).2.2.2 * (fa n).2.2.1 - (fa n).1, (12 + (fa n).2.1).tdiv (fa n).2.2.2 * (fa n).2.2.2 - (fa n).2.1)
set_option maxRecDepth 100000 in
theorem fa_t : ∀ i, i < 47 → ((fa i).1 = tgU i ∧ (fa i).2.1 = tgL i) ∧ (tgU (92 - i) = (fa i).2.1 ∧ tgL (92 - i) = (fa i).1) ∧ ((0 ≤ (fa i).1 ∧ (fa i).1 ≤ 200) ∧ (0 ≤ (fa i).2.1 ∧ (fa i).2.1 ≤ 200)) ∧ ((0 ≤ (fa i).2.2.1 ∧ (fa i).2.2.1 ≤ 200) ∧ (1 ≤ (fa i).2.2.2 ∧ (fa i).2.2.2 ≤ 200)) := by decide +kernel
set_option maxRecDepth 100000 in
theorem tg_ng : ∀ i, i < 184 → 93 ≤ i → tgU i = -tgU (184 - i) ∧ tgL i = tgL (184 - i) := by decide +kernel
def rF5 : Fr := [(3, 0, 0), (4, 0, 0)]
def rowB (I : Mi) (i : Nat) : Prop := ∀ j, j ≤ 92 → (j < i ∨ 92 - i < j) → I 3 j = .ofInt (tgU j) ∧ I 4 j = .ofInt (tgL j)
def rowA (I : Mi) (i : Nat) : Prop := ∀ j, j < i → I 3 j = .ofInt (tgU j) ∧ I 4 j = .ofInt (tgL j)
section
variable {Lx : Nat} {I : Mi} {L : Ml} {e : Nat} {Q : Kq}
set_option maxHeartbeats 4000000 in
theorem l5_68 {I0 : Mi} (fin : ∀ I', FrI rF5 I0 I' → rowA I' 93 → Q (.inl none) (g5 Lx) I' L e) :
    ∀ (s i : Nat) (I : Mi), i + s = 47 → FrI rF5 I0 I → rowB I i →
    Wp 68 13 [(0, .ref 2), (1, .int (Int32.ofInt (fa i).1)), (2, .int (Int32.ofInt (fa i).2.1)), (3, .int (Int32.ofInt (fa i).2.2.1)), (4, .int (Int32.ofInt (fa i).2.2.2)), (5, .int (Int32.ofInt (i : Int)))] [] (g5 Lx) I L e Q := by
  intro s
  induction s with
  | zero =>
    intro i I hi hf hr
    have h47 : i = 47 := by omega
    exact s5_68_13 (i_lt32 (by omega) (by omega) (fun _ => fin I hf (fun j hj => hr j (by omega) (by omega))) (fun k => absurd k (by omega)))
  | succ s ih =>
    intro i I hi hf hr
    obtain ⟨⟨u1, u2⟩, ⟨m1, m2⟩, ⟨b1, b2⟩, b3, b4⟩ := fa_t i (by omega)
    have em : (92 : Int) - (i : Int) = ((92 - i : Nat) : Int) := by omega
    refine s5_68_13 ?_
    rw [sub32, em, tncn (k := i) (by omega), tncn (k := 92 - i) (by omega)]
    refine i_lt32 (by omega) (by omega) (fun k => absurd k (by omega)) (fun _ => i_inb (by omega) (by omega) (i_inb (by omega) (by omega) (i_inb (by omega) (by omega) (i_inb (by omega) (by omega) ?_))))
    refine i_eqz (by omega) (fun k => absurd k (by omega)) (fun _ => i_eqz (by omega) (fun k => absurd k (by omega)) (fun _ => ?_))
    rw [show Int32.ofInt 12 + Int32.ofInt (fa i).2.1 = Int32.ofInt (12 + (fa i).2.1) from add32, dv32 (by omega) (by omega) (by omega), mul32, mul32, sub32, sub32, add32, show (i : Int) + 1 = ((i + 1 : Nat) : Int) by omega]
    refine ih (i + 1) _ (by omega) (FrI.wu (FrI.wu (FrI.wu (FrI.wu hf rfl) rfl) rfl) rfl) (fun j hj hh => ?_)
    by_cases q : j = 92 - i
    · subst q
      refine ⟨?_, ?_⟩
      · rw [ui_ne (by decide), u_at, m1]
      · rw [u_at, m2]
    · by_cases q2 : j = i
      · subst q2
        refine ⟨?_, ?_⟩
        · rw [ui_ne (by decide), u_ne q, ui_ne (by decide), u_at, u1]
        · rw [u_ne q, ui_ne (by decide), u_at, u2]
      · obtain ⟨a1, a2⟩ := hr j hj (by omega)
        refine ⟨?_, ?_⟩
        · rw [ui_ne (by decide), u_ne q, ui_ne (by decide), u_ne q2, a1]
        · rw [u_ne q, ui_ne (by decide), u_ne q2, ui_ne (by decide), a2]
theorem l5_67 {I0 : Mi} (fin : ∀ I', FrI rF5 I0 I' → rowA I' 184 → Q (.inl none) (g5 Lx) I' L e) :
    ∀ (s i : Nat) (I : Mi), i + s = 184 → 93 ≤ i → FrI rF5 I0 I → rowA I i →
    Wp 67 29 [(0, .ref 2), (1, .int (Int32.ofInt (i : Int)))] [] (g5 Lx) I L e Q := by
  intro s
  induction s with
  | zero =>
    intro i I hi h9 hf hr
    have : i = 184 := by omega
    subst this
    exact s5_67_29 (i_lt32 (by omega) (by omega) (fun k => absurd k (by omega)) (fun _ => fin I hf hr))
  | succ s ih =>
    intro i I hi h9 hf hr
    obtain ⟨m1, m2⟩ := tg_ng i (by omega) h9
    obtain ⟨a1, a2⟩ := hr (184 - i) (by omega)
    have em : (184 : Int) - (i : Int) = ((184 - i : Nat) : Int) := by omega
    refine s5_67_29 ?_
    rw [sub32, em, tncn (k := i) (by omega), tncn (k := 184 - i) (by omega), a1, a2, neg32, ← m1, ← m2, add32, show (i : Int) + 1 = ((i + 1 : Nat) : Int) by omega]
    refine i_lt32 (by omega) (by omega) (fun _ => i_inb (by omega) (by omega) (i_inb (by omega) (by omega) (i_inb (by omega) (by omega) (i_inb (by omega) (by omega) ?_)))) (fun k => absurd k (by omega))
    refine ih (i + 1) _ (by omega) (by omega) (FrI.wu (FrI.wu hf rfl) rfl) (fun j hj => ?_)
    by_cases q : j = i
    · subst q
      exact ⟨by rw [ui_ne (by decide), u_at], u_at⟩
    · obtain ⟨c1, c2⟩ := hr j (by omega)
      refine ⟨?_, ?_⟩
      · rw [ui_ne (by decide), u_ne q, c1]
      · rw [u_ne q, ui_ne (by decide), c2]
theorem c5_68 (fin : ∀ I', FrI rF5 I I' → rowA I' 93 → Q (.inl none) (g5 Lx) I' L e) : Wp 68 0 [(0, .ref 2)] [] (g5 Lx) I L e Q :=
  s5_68_0 (l5_68 fin 47 0 I rfl FrI.rf (fun j hj hh => absurd hh (by omega)))
theorem c5_67 (hr : rowA I 93) (fin : ∀ I', FrI rF5 I I' → TabAt I' → Q (.inl none) (g5 Lx) I' L e) : Wp 67 29 [(0, .ref 2), (1, .int (Int32.ofInt 93))] [] (g5 Lx) I L e Q :=
  l5_67 fin 91 93 I rfl (Nat.le_refl _) FrI.rf hr
/-! the other side's: by insertion -/
theorem cM_210 {a : Int} (ha : R63 a) (h : ∀ x : Int, 0 ≤ x → (x = a ∨ x = -a) → Q (.inl (some (.long (Int64.ofInt x)))) (gM Lx) I L e) : Wp 210 0 [(0, .long (Int64.ofInt a))] [] (gM Lx) I L e Q := by
  refine sM_210_0 (i_lt64 (by omega) (by omega) (fun h1 => ?_) (fun h1 => ?_))
  · rw [neg64]; exact h _ (by omega) (Or.inr rfl)
  · exact h _ (by omega) (Or.inl rfl)
theorem lM_209 : ∀ (n : Nat) (x y : Int), y.toNat ≤ n → 0 ≤ x → x ≤ 9223372036854775807 → 0 ≤ y → y ≤ 9223372036854775807 → Q (.inl (some (.long (Int64.ofInt (gI x y))))) (gM Lx) I L e →
    Wp 209 12 [(4, .long (Int64.ofInt x)), (6, .long (Int64.ofInt y))] [] (gM Lx) I L e Q := by
  intro n
  induction n with
  | zero =>
    intro x y hn hx hx2 hy hy2 h
    have hy0 : y = 0 := by omega
    subst hy0
    have hg : gI x 0 = x := by unfold gI; rw [Int.gcd_zero_right]; omega
    rw [hg] at h
    exact sM_209_12 (i_eq64 (by omega) (by omega) (fun _ => h) (fun k => absurd rfl k))
  | succ n ih =>
    intro x y hn hx hx2 hy hy2 h
    refine sM_209_12 (i_eq64 (by omega) (by omega) (fun hy0 => ?_) (fun hy0 => i_nz64 (by omega) hy0 ?_))
    · subst hy0
      have hg : gI x 0 = x := by unfold gI; rw [Int.gcd_zero_right]; omega
      rw [hg] at h
      exact h
    · rw [rem64 (by omega) (by omega) (by omega), Int.tmod_eq_emod_of_nonneg hx]
      have h1 := Int.emod_nonneg x hy0
      have h2 := Int.emod_lt_of_pos x (show 0 < y by omega)
      refine ih y (x % y) (by omega) hy hy2 h1 (by omega) ?_
      have : gI y (x % y) = gI x y := by unfold gI; rw [gcd_step]
      rw [this]
      exact h
theorem cM_209 {a b : Int} (ha : R63 a) (hb : R63 b) (h : Q (.inl (some (.long (Int64.ofInt (gI a b))))) (gM Lx) I L e) : Wp 209 0 [(0, .long (Int64.ofInt a)), (2, .long (Int64.ofInt b))] [] (gM Lx) I L e Q := by
  refine sM_209_0 (cM_210 ha (fun x hx1 hx2 => kcp_v rfl (sM_209_4 (cM_210 hb (fun y hy1 hy2 => kcp_v rfl (sM_209_10 ?_))))))
  refine lM_209 y.toNat x y (Nat.le_refl _) hx1 (by omega) hy1 (by omega) ?_
  rw [gI_abs hx2 hy2]
  exact h
theorem cM_207 {p q : Int} (hp : R32 p) (hq : R32 q) (h1 : isT p q → Q (.inl (some (.int (Int32.ofInt 1)))) (gM Lx) I L e) (h0 : ¬ isT p q → Q (.inl (some (.int (Int32.ofInt 0)))) (gM Lx) I L e) : Wp 207 0 [(0, .int (Int32.ofInt p)), (1, .int (Int32.ofInt q))] [] (gM Lx) I L e Q := by
  refine sM_207_0 (i_lt32 (by omega) (by omega) (fun k => h0 (fun z => ?_)) (fun k1 => i_lt32 (by omega) (by omega) (fun k => h0 (fun z => ?_)) (fun k2 => i_lt32 (by omega) (by omega) (fun k => h0 (fun z => ?_)) (fun k3 => i_lt32 (by omega) (by omega) (fun k => h0 (fun z => ?_)) (fun k4 => ?_)))))
  · have := z.1; omega
  · have := z.1; omega
  · have := z.2.1; omega
  · have := z.2.1; omega
  · rw [i2l hp, i2l hq]
    refine cM_209 (by omega) (by omega) (kcp_v rfl (sM_207_28 ?_))
    have hn := gI_nn p q
    have hr := gI_r (a := p) (b := q) (by omega) (by omega)
    refine i_eq64 (by omega) (by omega) (fun k5 => ?_) (fun k5 => h0 (fun z => k5 z.2.2.1))
    refine i_zlt (by omega) (fun k6 => h1 ⟨⟨k1, k2⟩, ⟨k3, k4⟩, k5, Or.inl k6⟩) (fun k6 => ?_)
    refine i_eq32 (by omega) (by omega) (fun k7 => h1 ⟨⟨k1, k2⟩, ⟨k3, k4⟩, k5, Or.inr k7⟩) (fun k7 => h0 (fun z => ?_))
    rcases z.2.2.2 with z | z
    · omega
    · exact k7 z
end
/-- where a fraction goes in -/
def insP (l : List (Int × Int)) (p q : Int) : Nat → Nat
  | 0 => 0
  | j + 1 => if lenC p q (l.getD j (0, 1)).1 (l.getD j (0, 1)).2 < 0 then insP l p q j else j + 1
def insL (l : List (Int × Int)) (p q : Int) : List (Int × Int) := l.take (insP l p q l.length) ++ (p, q) :: l.drop (insP l p q l.length)
theorem insP_le (l : List (Int × Int)) (p q : Int) : ∀ n, insP l p q n ≤ n := by
  intro n
  induction n with
  | zero => exact Nat.le_refl _
  | succ n ih =>
    show (if lenC p q (l.getD n (0, 1)).1 (l.getD n (0, 1)).2 < 0 then insP l p q n else n + 1) ≤ n + 1
    split
    · omega
    · exact Nat.le_refl _
theorem gd_lt {l : List (Int × Int)} {j k : Nat} {x : Int × Int} (hj : j ≤ l.length) (h : k < j) : (l.take j ++ x :: l.drop j).getD k (0, 1) = l.getD k (0, 1) := by
  rw [List.getD_eq_getElem?_getD, List.getD_eq_getElem?_getD, List.getElem?_append_left (by rw [List.length_take]; omega), List.getElem?_take_of_lt h]
theorem gd_eq {l : List (Int × Int)} {j : Nat} {x : Int × Int} (hj : j ≤ l.length) : (l.take j ++ x :: l.drop j).getD j (0, 1) = x := by
  have h1 : (l.take j).length = j := by rw [List.length_take]; omega
  rw [List.getD_eq_getElem?_getD, List.getElem?_append_right (by omega), h1, Nat.sub_self]
  rfl
theorem gd_gt {l : List (Int × Int)} {j k : Nat} {x : Int × Int} (hj : j ≤ l.length) (h : j < k) : (l.take j ++ x :: l.drop j).getD k (0, 1) = l.getD (k - 1) (0, 1) := by
  have h1 : (l.take j).length = j := by rw [List.length_take]; omega
  have h2 : k - j = (k - 1 - j) + 1 := by omega
  rw [List.getD_eq_getElem?_getD, List.getD_eq_getElem?_getD, List.getElem?_append_right (by omega), h1, h2, List.getElem?_cons_succ, List.getElem?_drop]
  congr 2
  omega
theorem insL_len (l : List (Int × Int)) (p q : Int) : (insL l p q).length = l.length + 1 := by
  have := insP_le l p q l.length
  unfold insL
  rw [List.length_append, List.length_cons, List.length_take, List.length_drop]
  omega
def TM (I : Mi) (l : List (Int × Int)) : Prop := I 58 7 = .ofInt (l.length : Int) ∧ ∀ k, k < l.length → I 61 k = .ofInt (l.getD k (0, 1)).1 ∧ I 62 k = .ofInt (l.getD k (0, 1)).2
def TbB (l : List (Int × Int)) : Prop := ∀ k, k < l.length → (-12 ≤ (l.getD k (0, 1)).1 ∧ (l.getD k (0, 1)).1 ≤ 12) ∧ (0 ≤ (l.getD k (0, 1)).2 ∧ (l.getD k (0, 1)).2 ≤ 12)
def rFM : Fr := [(58, 7, 1), (61, 0, 0), (62, 0, 0)]
theorem TbB.ins {l : List (Int × Int)} (h : TbB l) {p q : Int} (ht : isT p q) : TbB (insL l p q) := by
  have hj := insP_le l p q l.length
  intro k hk
  rw [insL_len] at hk
  unfold insL
  rcases Nat.lt_trichotomy k (insP l p q l.length) with z | z | z
  · rw [gd_lt hj z]
    exact h k (by omega)
  · rw [z, gd_eq hj]
    exact ⟨ht.1, ht.2.1⟩
  · rw [gd_gt hj z]
    exact h (k - 1) (by omega)
section
variable {Lx : Nat} {L : Ml} {e : Nat} {Q : Kq}
/-- rows that have made room at j -/
def TG (I : Mi) (l : List (Int × Int)) (j : Nat) : Prop := I 58 7 = .ofInt (l.length : Int) ∧ (∀ k, k < j → I 61 k = .ofInt (l.getD k (0, 1)).1 ∧ I 62 k = .ofInt (l.getD k (0, 1)).2) ∧ (∀ k, j ≤ k → k < l.length → I 61 (k + 1) = .ofInt (l.getD k (0, 1)).1 ∧ I 62 (k + 1) = .ofInt (l.getD k (0, 1)).2)
theorem eM_206 {I0 I : Mi} {l : List (Int × Int)} {p q : Int} (h8 : l.length < 184) (fin : ∀ I', FrI rFM I0 I' → TM I' (insL l p q) → Q (.inl none) (gM Lx) I' L e) (hf : FrI rFM I0 I) {j : Nat} (hj : j = insP l p q l.length) (hg : TG I l j) :
    Wp 206 80 [(0, .ref 58), (1, .int (Int32.ofInt p)), (2, .int (Int32.ofInt q)), (3, .int (Int32.ofInt (j : Int)))] [] (gM Lx) I L e Q := by
  have hle : j ≤ l.length := by rw [hj]; exact insP_le l p q l.length
  obtain ⟨g1, g2, g3⟩ := hg
  refine sM_206_80 (i_inb (by omega) (by omega) (i_inb (by omega) (by omega) ?_))
  rw [tncn (k := j) (by omega), g1, add32]
  refine fin _ (FrI.wu (FrI.wu (FrI.wu hf rfl) rfl) rfl) ⟨?_, fun k hk => ?_⟩
  · rw [u_at, insL_len, show ((l.length + 1 : Nat) : Int) = (l.length : Int) + 1 by omega]
  · rw [insL_len] at hk
    show ui I 61 j (Int32.ofInt p) 61 k = _ ∧ ui I 62 j (Int32.ofInt q) 62 k = _
    unfold insL
    rw [← hj]
    rcases Nat.lt_trichotomy k j with z | z | z
    · rw [gd_lt hle z, u_ne (by omega), u_ne (by omega)]
      exact g2 k z
    · rw [z, gd_eq hle, u_at, u_at]
      exact ⟨rfl, rfl⟩
    · rw [gd_gt hle z, u_ne (by omega), u_ne (by omega)]
      have := g3 (k - 1) (by omega) (by omega)
      rw [show k - 1 + 1 = k by omega] at this
      exact this
set_option maxHeartbeats 4000000 in
theorem lM_206 {I0 : Mi} {l : List (Int × Int)} {p q : Int} (hp : -12 ≤ p ∧ p ≤ 12) (hq : 0 ≤ q ∧ q ≤ 12) (hB : TbB l) (h8 : l.length < 184) (fin : ∀ I', FrI rFM I0 I' → TM I' (insL l p q) → Q (.inl none) (gM Lx) I' L e) :
    ∀ (j : Nat) (I : Mi), j ≤ l.length → FrI rFM I0 I → insP l p q j = insP l p q l.length → TG I l j →
    Wp 206 14 [(0, .ref 58), (1, .int (Int32.ofInt p)), (2, .int (Int32.ofInt q)), (3, .int (Int32.ofInt (j : Int)))] [] (gM Lx) I L e Q := by
  intro j
  induction j with
  | zero =>
    intro I hle hf he hg
    exact sM_206_14 (i_zlt (by omega) (fun k => absurd k (by omega)) (fun _ => eM_206 h8 fin hf he hg))
  | succ j ih =>
    intro I hle hf he hg
    obtain ⟨g1, g2, g3⟩ := id hg
    obtain ⟨u, hu⟩ : ∃ u, (l.getD j (0, 1)).1 = u := ⟨_, rfl⟩
    obtain ⟨v, hv⟩ : ∃ v, (l.getD j (0, 1)).2 = v := ⟨_, rfl⟩
    have hb := hB j (by omega)
    have ha := g2 j (Nat.lt_succ_self j)
    rw [hu, hv] at hb ha
    obtain ⟨b1, b2⟩ := hb
    obtain ⟨a1, a2⟩ := ha
    have es : ((j + 1 : Nat) : Int) - 1 = (j : Int) := by omega
    have ea : ((j + 1 : Nat) : Int) + (-1) = (j : Int) := by omega
    have hx1 := mulB (x := p) (y := v) (A := 12) (B := 12) hp (by omega)
    have hx2 := mulB (x := u) (y := q) (A := 12) (B := 12) b1 (by omega)
    have stop : insP l p q (j + 1) = j + 1 → Wp 206 80 [(0, .ref 58), (1, .int (Int32.ofInt p)), (2, .int (Int32.ofInt q)), (3, .int (Int32.ofInt ((j + 1 : Nat) : Int)))] [] (gM Lx) I L e Q := fun k => eM_206 h8 fin hf (by rw [← he, k]) hg
    have go : insP l p q (j + 1) = insP l p q j → Wp 206 14 [(0, .ref 58), (1, .int (Int32.ofInt p)), (2, .int (Int32.ofInt q)), (3, .int (Int32.ofInt (j : Int)))] [] (gM Lx) (ui (ui I 61 (j + 1) (Int32.ofInt u)) 62 (j + 1) (Int32.ofInt v)) L e Q := fun k => by
      refine ih _ (by omega) (FrI.wu (FrI.wu hf rfl) rfl) (by rw [← k, he]) ⟨g1, fun i hi => ?_, fun i h1 h2 => ?_⟩
      · show ui I 61 (j + 1) (Int32.ofInt u) 61 i = _ ∧ ui I 62 (j + 1) (Int32.ofInt v) 62 i = _
        rw [u_ne (by omega), u_ne (by omega)]
        exact g2 i (by omega)
      · show ui I 61 (j + 1) (Int32.ofInt u) 61 (i + 1) = _ ∧ ui I 62 (j + 1) (Int32.ofInt v) 62 (i + 1) = _
        by_cases z : i = j
        · subst z
          rw [u_at, u_at, hu, hv]
          exact ⟨rfl, rfl⟩
        · rw [u_ne (by omega), u_ne (by omega)]
          exact g3 i (by omega) h2
    have e1 : insP l p q (j + 1) = if lenC p q u v < 0 then insP l p q j else j + 1 := by rw [← hu, ← hv]; rfl
    refine sM_206_14 ?_
    rw [sub32, es, tncn (k := j) (by omega), tncn (k := j + 1) (by omega), a1, a2, i2l (by omega), i2l (by omega), i2l (by omega), i2l (by omega), mul64, mul64, sub64, add32, ea]
    refine i_zlt (by omega) (fun _ => i_inb (by omega) (by omega) (i_inb (by omega) (by omega) ?_)) (fun k => absurd k (by omega))
    have gg : lenC p q u v < 0 → inb (Int32.ofInt (j : Int)) 184 (inb (Int32.ofInt ((j + 1 : Nat) : Int)) 184 (inb (Int32.ofInt (j : Int)) 184 (inb (Int32.ofInt ((j + 1 : Nat) : Int)) 184 (Wp 206 14 [(0, .ref 58), (1, .int (Int32.ofInt p)), (2, .int (Int32.ofInt q)), (3, .int (Int32.ofInt (j : Int)))] [] (gM Lx) (ui (ui I 61 (j + 1) (Int32.ofInt u)) 62 (j + 1) (Int32.ofInt v)) L e Q) False) False) False) False := fun k =>
      i_inb (by omega) (by omega) (i_inb (by omega) (by omega) (i_inb (by omega) (by omega) (i_inb (by omega) (by omega) (go (by rw [e1, if_pos k])))))
    have ss : ¬ lenC p q u v < 0 → Wp 206 80 [(0, .ref 58), (1, .int (Int32.ofInt p)), (2, .int (Int32.ofInt q)), (3, .int (Int32.ofInt ((j + 1 : Nat) : Int)))] [] (gM Lx) I L e Q := fun k => stop (by rw [e1, if_neg k])
    refine i_lt64 (by omega) (by omega) (fun p0 => i_lt64 (by omega) (by omega) (fun u0 => i_lt64 (by omega) (by omega) (fun d0 => gg ?_) (fun d0 => i_lt64 (by omega) (by omega) (fun d1 => ss ?_) (fun d1 => ss ?_))) (fun u0 => ss ?_)) (fun p0 => i_lt64 (by omega) (by omega) (fun u0 => gg ?_) (fun u0 => i_lt64 (by omega) (by omega) (fun d0 => gg ?_) (fun d0 => i_lt64 (by omega) (by omega) (fun d1 => ss ?_) (fun d1 => ss ?_))))
    · unfold lenC; rw [if_pos p0, if_pos u0, sg_n (by omega)]; decide
    · unfold lenC; rw [if_pos p0, if_pos u0, sg_p (by omega)]; decide
    · unfold lenC; rw [if_pos p0, if_pos u0, sg_z (by omega)]; decide
    · unfold lenC; rw [if_pos p0, if_neg (by omega)]; decide
    · unfold lenC; rw [if_neg (by omega), if_pos u0]; decide
    · unfold lenC; rw [if_neg (by omega), if_neg (by omega), sg_n (by omega)]; decide
    · unfold lenC; rw [if_neg (by omega), if_neg (by omega), sg_p (by omega)]; decide
    · unfold lenC; rw [if_neg (by omega), if_neg (by omega), sg_z (by omega)]; decide
/-- one that comes -/
def isTb (p q : Int) : Bool := decide ((-12 ≤ p ∧ p ≤ 12) ∧ (0 ≤ q ∧ q ≤ 12) ∧ gI p q = 1 ∧ (0 < q ∨ p = 1))
def stI (l : List (Int × Int)) (p q : Int) : Option (List (Int × Int)) := if isTb p q = true then (if l.length < 184 then some (insL l p q) else none) else some l
theorem cM_206 {I : Mi} {l l2 : List (Int × Int)} {p q : Int} (hp : R32 p) (hq : R32 q) (hT : TM I l) (hB : TbB l) (hs : stI l p q = some l2) (fin : ∀ I', FrI rFM I I' → TM I' l2 → TbB l2 → Q (.inl none) (gM Lx) I' L e) :
    Wp 206 0 [(0, .ref 58), (1, .int (Int32.ofInt p)), (2, .int (Int32.ofInt q))] [] (gM Lx) I L e Q := by
  unfold stI at hs
  refine sM_206_0 (cM_207 hp hq (fun ht => kcp_v rfl (sM_206_5 (j_1 ?_))) (fun ht => kcp_v rfl (sM_206_5 (j_0 ?_))))
  · rw [if_pos (show isTb p q = true from decide_eq_true ht)] at hs
    split at hs
    · next h8 =>
      cases hs
      rw [hT.1]
      exact lM_206 ht.1 ht.2.1 hB h8 (fun I' hf h2 => fin I' hf h2 (hB.ins ht)) l.length I (Nat.le_refl _) FrI.rf rfl ⟨hT.1, hT.2, fun k h1 h2 => absurd h1 (by omega)⟩
    · cases hs
  · have hn : ¬ isTb p q = true := fun k => ht (by unfold isTb at k; have k2 := of_decide_eq_true k; exact k2)
    rw [if_neg hn] at hs
    cases hs
    exact fin I FrI.rf hT hB
def innI (p : Int) : Nat → Int → List (Int × Int) → Option (List (Int × Int))
  | 0, _, l => some l
  | n + 1, q, l => (stI l p q).bind (innI p n (q + 1))
def outA : Nat → Int → List (Int × Int) → Option (List (Int × Int))
  | 0, _, l => some l
  | n + 1, p, l => (innI p 13 0 l).bind (outA n (p + 1))
def outB : Nat → Int → List (Int × Int) → Option (List (Int × Int))
  | 0, _, l => some l
  | n + 1, p, l => (innI p 12 1 l).bind (outB n (p + 1))
set_option maxRecDepth 100000 in
theorem out_t : (outA 13 0 []).bind (outB 12 (-12)) = some TGL := by decide +kernel
theorem bind_some {α β : Type} {o : Option α} {f : α → Option β} {r : β} (h : o.bind f = some r) : ∃ a, o = some a ∧ f a = some r := by
  cases o with
  | none => cases h
  | some a => exact ⟨a, rfl, h⟩
theorem lM_126 {I0 : Mi} {p : Int} (hp : -100 ≤ p ∧ p ≤ 100) {r : List (Int × Int)} (fin : ∀ I', FrI rFM I0 I' → TM I' r → TbB r → Wp 205 144 [(0, .ref 58), (1, .int (Int32.ofInt p))] [] (gM Lx) I' L e Q) :
    ∀ (n : Nat) (q : Int) (l : List (Int × Int)) (I : Mi), q + n = 13 → 0 ≤ q → innI p n q l = some r → TM I l → TbB l → FrI rFM I0 I → Wp 205 126 [(0, .ref 58), (1, .int (Int32.ofInt p)), (2, .int (Int32.ofInt q))] [] (gM Lx) I L e Q := by
  intro n
  induction n with
  | zero =>
    intro q l I hq h0 hr hT hB hf
    cases Option.some.inj (show some l = some r from hr)
    exact sM_205_126 (i_lt32 (by omega) (by omega) (fun _ => fin I hf hT hB) (fun k => absurd k (by omega)))
  | succ n ih =>
    intro q l I hq h0 hr hT hB hf
    obtain ⟨l2, h1, h2⟩ := bind_some (show (stI l p q).bind (innI p n (q + 1)) = some r from hr)
    refine sM_205_126 (i_lt32 (by omega) (by omega) (fun k => absurd k (by omega)) (fun _ => cM_206 (by omega) (by omega) hT hB h1 (fun I' hf' hT' hB' => kcp_v rfl (sM_205_138 ?_))))
    rw [add32]
    exact ih (q + 1) l2 I' (by omega) (by omega) h2 hT' hB' (FrI.tr hf hf' rfl rfl)
theorem lM_118 {I0 : Mi} {r : List (Int × Int)} (fin : ∀ I', FrI rFM I0 I' → TM I' r → TbB r → Wp 205 150 [(0, .ref 58)] [] (gM Lx) I' L e Q) :
    ∀ (n : Nat) (p : Int) (l : List (Int × Int)) (I : Mi), p + n = 13 → 0 ≤ p → outA n p l = some r → TM I l → TbB l → FrI rFM I0 I → Wp 205 118 [(0, .ref 58), (1, .int (Int32.ofInt p))] [] (gM Lx) I L e Q := by
  intro n
  induction n with
  | zero =>
    intro p l I hp h0 hr hT hB hf
    cases Option.some.inj (show some l = some r from hr)
    exact sM_205_118 (i_lt32 (by omega) (by omega) (fun _ => fin I hf hT hB) (fun k => absurd k (by omega)))
  | succ n ih =>
    intro p l I hp h0 hr hT hB hf
    obtain ⟨l2, h1, h2⟩ := bind_some (show (innI p 13 0 l).bind (outA n (p + 1)) = some r from hr)
    refine sM_205_118 (i_lt32 (by omega) (by omega) (fun k => absurd k (by omega)) (fun _ => lM_126 (I0 := I0) (by omega) (fun I' hf' hT' hB' => sM_205_144 ?_) 13 0 l I (by omega) (by omega) h1 hT hB hf))
    rw [add32]
    exact ih (p + 1) l2 I' (by omega) (by omega) h2 hT' hB' hf'
theorem lM_159 {I0 : Mi} {p : Int} (hp : -100 ≤ p ∧ p ≤ 100) {r : List (Int × Int)} (fin : ∀ I', FrI rFM I0 I' → TM I' r → TbB r → Wp 205 177 [(0, .ref 58), (1, .int (Int32.ofInt p))] [] (gM Lx) I' L e Q) :
    ∀ (n : Nat) (q : Int) (l : List (Int × Int)) (I : Mi), q + n = 13 → 0 ≤ q → innI p n q l = some r → TM I l → TbB l → FrI rFM I0 I → Wp 205 159 [(0, .ref 58), (1, .int (Int32.ofInt p)), (2, .int (Int32.ofInt q))] [] (gM Lx) I L e Q := by
  intro n
  induction n with
  | zero =>
    intro q l I hq h0 hr hT hB hf
    cases Option.some.inj (show some l = some r from hr)
    exact sM_205_159 (i_lt32 (by omega) (by omega) (fun _ => fin I hf hT hB) (fun k => absurd k (by omega)))
  | succ n ih =>
    intro q l I hq h0 hr hT hB hf
    obtain ⟨l2, h1, h2⟩ := bind_some (show (stI l p q).bind (innI p n (q + 1)) = some r from hr)
    refine sM_205_159 (i_lt32 (by omega) (by omega) (fun k => absurd k (by omega)) (fun _ => cM_206 (by omega) (by omega) hT hB h1 (fun I' hf' hT' hB' => kcp_v rfl (sM_205_171 ?_))))
    rw [add32]
    exact ih (q + 1) l2 I' (by omega) (by omega) h2 hT' hB' (FrI.tr hf hf' rfl rfl)
theorem lM_153 {I0 : Mi} {r : List (Int × Int)} (fin : ∀ I', FrI rFM I0 I' → TM I' r → TbB r → Q (.inl none) (gM Lx) I' L e) :
    ∀ (n : Nat) (p : Int) (l : List (Int × Int)) (I : Mi), p + n = 0 → -12 ≤ p → outB n p l = some r → TM I l → TbB l → FrI rFM I0 I → Wp 205 153 [(0, .ref 58), (1, .int (Int32.ofInt p))] [] (gM Lx) I L e Q := by
  intro n
  induction n with
  | zero =>
    intro p l I hp h0 hr hT hB hf
    cases Option.some.inj (show some l = some r from hr)
    exact sM_205_153 (i_ltz (by omega) (fun k => absurd k (by omega)) (fun _ => fin I hf hT hB))
  | succ n ih =>
    intro p l I hp h0 hr hT hB hf
    obtain ⟨l2, h1, h2⟩ := bind_some (show (innI p 12 1 l).bind (outB n (p + 1)) = some r from hr)
    refine sM_205_153 (i_ltz (by omega) (fun _ => lM_159 (I0 := I0) (by omega) (fun I' hf' hT' hB' => sM_205_177 ?_) 12 1 l I (by omega) (by omega) h1 hT hB hf) (fun k => absurd k (by omega)))
    rw [add32]
    exact ih (p + 1) l2 I' (by omega) (by omega) h2 hT' hB' hf'
set_option maxRecDepth 100000 in
theorem TGL_len : TGL.length = 184 := by decide +kernel
theorem cM_205 {I : Mi} (hT : TM I []) (fin : ∀ I', FrI rFM I I' → TabRt I' → Q (.inl none) (gM Lx) I' L e) : Wp 205 118 [(0, .ref 58), (1, .int (Int32.ofInt 0))] [] (gM Lx) I L e Q := by
  obtain ⟨l2, h1, h2⟩ := bind_some out_t
  have hB0 : TbB [] := fun k hk => absurd hk (Nat.not_lt_zero k)
  refine lM_118 (fun I1 hf1 hT1 hB1 => sM_205_150 ?_) 13 0 [] I (by omega) (by omega) h1 hT hB0 FrI.rf
  exact lM_153 (I0 := I) (fun I2 hf2 hT2 hB2 => fin I2 hf2 ⟨by rw [hT2.1, TGL_len]; rfl, fun k hk => hT2.2 k (by rw [TGL_len]; exact hk)⟩) 12 (-12) l2 I1 (by omega) (by omega) h2 hT1 hB1 hf1
end
