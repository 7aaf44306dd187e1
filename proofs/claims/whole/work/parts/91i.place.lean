/-! placement, arrange: the class. -/
def chP (ch : Ch) (t : Nat) : Ch := (ch.1, ch.2.1, ch.2.2.1, ch.2.2.2.1, fun k => ch.2.2.2.2 (fg t k))
theorem chP_ok {ch : Ch} (h : ChOk ch) {t : Nat} (ht : isO ch.2.2.2.1 t) : ChOk (chP ch t) := ⟨h.1, h.2.1, h.2.2.1, h.2.2.2.1, fun k hk => by
  have hk : k < ch.2.2.2.1 := hk
  have h4 := h.2.2.2.1
  exact h.2.2.2.2 _ ((ht.1 k (by omega)).1 hk)⟩
def orF (ch : Ch) (t : Nat) : Int × Int := ecF (wSeen (chP ch t) ch.2.2.2.1)
theorem orF_ok {ch : Ch} (h : ChOk ch) {t : Nat} (ht : isO ch.2.2.2.1 t) : efok (orF ch t) := ec_f (chP_ok h ht) (Nat.le_refl _)
noncomputable def orA (ch : Ch) (t : Nat) : Option Nat := ab (isO ch.2.2.2.1) (-1) (orF ch) t 0 none
theorem orA_I {ch : Ch} {u t : Nat} (h : orA ch u = some t) : t < u ∧ isO ch.2.2.2.1 t := by
  have := ab_I (C := isO ch.2.2.2.1) (w := -1) (f := orF ch) u 0 none (fun j h => by cases h) t h
  exact ⟨by have := this.1; omega, this.2⟩
theorem isO27 : ∀ n, n < 5 → decide (isO n 27) = true := by decide
theorem orA_s {ch : Ch} (h4 : ch.2.2.2.1 ≤ 4) : ∃ t, orA ch 256 = some t := by
  unfold orA
  rw [show 256 = 27 + (228 + 1) by omega, ab_add]
  exact ab_0 (of_decide_eq_true (isO27 _ (by omega)))
theorem orA_g {ch : Ch} : ∀ (n a : Nat), (∀ t, a ≤ t → t < a + n → ¬ isO ch.2.2.2.1 t) → orA ch (a + n) = orA ch a := by
  intro n
  induction n with
  | zero => intro a _; rfl
  | succ n ih =>
    intro a h
    unfold orA
    rw [← Nat.add_assoc, ab_succ, stp_n (h _ (by omega) (by omega))]
    exact ih a (fun t h1 h2 => h t h1 (by omega))
theorem orA_n {ch : Ch} {t : Nat} : orA ch (t + 1) = stp1 (isO ch.2.2.2.1) (-1) (orF ch) t (orA ch t) := ab_succ
/-- the orders one by one -/
theorem orA_0 {ch : Ch} (h4 : ch.2.2.2.1 ≤ 4) : orA ch (pc ch.2.2.2.1 0) = none := by
  have := orA_g (ch := ch) (pc ch.2.2.2.1 0) 0 (fun t _ h2 q => by
    rw [Nat.zero_add] at h2
    have p0 := PL_n ch.2.2.2.1 (by omega)
    have b := (pc_o ch.2.2.2.1 (by omega) 0 p0.1).2
    exact of_decide_eq_true (pc_gap0 ch.2.2.2.1 (by omega) t (by omega) (decide_eq_true h2)) (pc_no ch.2.2.2.1 (by omega) t (by omega) q))
  rw [Nat.zero_add] at this
  rw [this]
  rfl
theorem orA_r {ch : Ch} (h4 : ch.2.2.2.1 ≤ 4) {r : Nat} (hr : r < (PL ch.2.2.2.1).length) {u : Nat} (hu : (r + 1 < (PL ch.2.2.2.1).length → u = pc ch.2.2.2.1 (r + 1)) ∧ (¬ r + 1 < (PL ch.2.2.2.1).length → u = 256)) (hlt : pc ch.2.2.2.1 r < u) : orA ch u = orA ch (pc ch.2.2.2.1 r + 1) := by
  have b := (pc_o ch.2.2.2.1 (by omega) r hr).2
  have hb : u ≤ 256 := by
    rcases Nat.lt_or_ge (r + 1) (PL ch.2.2.2.1).length with q | q
    · have := (pc_o ch.2.2.2.1 (by omega) (r + 1) q).2
      have := hu.1 q
      omega
    · have := hu.2 (by omega)
      omega
  have := orA_g (ch := ch) (u - (pc ch.2.2.2.1 r + 1)) (pc ch.2.2.2.1 r + 1) (fun t h1 h2 q => by
    refine of_decide_eq_true (pc_gap1 ch.2.2.2.1 (by omega) r hr t (by omega) (decide_eq_true ⟨by omega, fun w => ?_⟩)) (pc_no ch.2.2.2.1 (by omega) t (by omega) q)
    have := hu.1 w
    omega)
  rw [show pc ch.2.2.2.1 r + 1 + (u - (pc ch.2.2.2.1 r + 1)) = u by omega] at this
  exact this
set_option maxRecDepth 100000 in
theorem pc_up0 : ∀ n, n < 5 → ∀ r, r < 24 → decide (r + 1 < (PL n).length) = true → decide (pc n r < pc n (r + 1)) = true := by decide +kernel
theorem pc_up {n r : Nat} (hn : n < 5) (h : r + 1 < (PL n).length) : pc n r < pc n (r + 1) := of_decide_eq_true (pc_up0 n hn r (by have := PL_n n hn; omega) (decide_eq_true h))
theorem OrAt.cg {I I' : Mi} {c t : Nat} (h : OrAt I c t) (e : I' c = I c) : OrAt I' c t := by unfold OrAt; rw [e]; exact h
section
variable {Lx : Nat} {I : Mi} {L : Ml} {e : Nat} {Q : Kq}
set_option maxHeartbeats 4000000 in
theorem l_90 {ch : Ch} (hok : ChOk ch) (hc : ChAt I 5 ch) {t : Nat} (ht : isO ch.2.2.2.1 t) (ho : OrAt I 28 t) {c : Option Nat} (hcI : ∀ j, c = some j → isO ch.2.2.2.1 j) : ∀ (s j : Nat), j + s = ch.2.2.2.1 → ∀ (L : Ml), WvAt L 16 (wSeen (chP ch t) j) → BsAt I L (orF ch) c →
    ((∀ j, c = some j → bt (-1) (orF ch) t j) → ∀ I' L', FrI [(21, 0, 1), (29, 0, 0)] I I' → OrAt I' 29 t → BsAt I' L' (orF ch) (some t) → Q (.inl none) (gE Lx) I' L' e) →
    ((∃ j, c = some j ∧ ¬ bt (-1) (orF ch) t j) → ∀ L', BsAt I L' (orF ch) c → Q (.inl none) (gE Lx) I L' e) →
    Wp 90 33 [(0, .ref 1), (1, .int (Int32.ofInt j))] [] (gE Lx) I L e Q := by
  have h4 := hok.2.2.2.1
  have hok2 := chP_ok hok ht
  intro s
  induction s with
  | zero =>
    intro j hj L hW hs h1 h0
    have : j = ch.2.2.2.1 := by omega
    subst this
    have last : Wp 3 0 [(0, .ref 21), (1, .long ((((L 16 0) - (L 16 2)) * ((L 16 0) - (L 16 2))) + (((L 16 1) - (L 16 3)) * ((L 16 1) - (L 16 3))))), (3, .long ((((L 16 0) + (L 16 2)) * ((L 16 0) + (L 16 2))) + (((L 16 1) + (L 16 3)) * ((L 16 1) + (L 16 3))))), (5, .int (Int32.ofInt (-1)))] [] (gE Lx) I L e (kcp (Wp 2) 2 4 0 [(0, .ref 21)] 71 [] (kcp (Wp 90) 90 117 0 [(0, .ref 1)] 71 [] Q)) := by
      refine n_3 (f := orF ch) (k := t) hW rfl (orF_ok hok ht) (fun j hj => orF_ok hok (hcI j hj)) hs (fun hb I4 L4 hf4 hl4 hs4 => kcp_v rfl (s_90_120 (j_1 ?_))) (fun hb => kcp_v rfl (s_90_120 (j_0 (h0 hb L hs))))
      refine h1 hb _ L4 (FrI.wr (hf4.up rfl) (fun _ => rfl)) (fun k hk => ?_) (hs4.cg rfl rfl rfl)
      rw [ri_at]
      unfold va_cpy
      rw [if_pos ⟨by omega, by omega⟩, hf4.at (k := 28) rfl, Nat.zero_add, Nat.sub_zero]
      exact ho k hk
    refine s_90_33 ?_
    rw [hc.2.2.2.1]
    exact i_lt32 (by omega) (by omega) (fun _ => by omega) (fun _ => last)
  | succ s ih =>
    intro j hj L hW hs h1 h0
    have hfg := (ht.1 j (by omega)).1 (by omega)
    have hel := hok.2.2.2.2 (fg t j) hfg
    obtain ⟨r1, r2, r3⟩ := el_r hel
    obtain ⟨e1, e2, e4⟩ := hc.2.2.2.2 (fg t j) hfg
    have hB := (wSeen_B hok2 (show j ≤ ch.2.2.2.1 by omega)).le (show (32845824 : Int) ≤ 4611686018427387904 by decide)
    refine s_90_33 ?_
    rw [hc.2.2.2.1, tncn (k := j) (by omega), ho j (by omega)]
    refine i_lt32 (by omega) (by omega) (fun _ => i_lt32 (by omega) (by omega) (fun _ => i_inb (by omega) (by omega) ?_) (fun _ => by omega)) (fun _ => by omega)
    refine c_12 (Or.inl rfl) (by omega) (kcp_v rfl (s_90_72 (c_14 (Or.inl rfl) (by omega) (kcp_v rfl (s_90_80 (c_15 (Or.inl rfl) (by omega) (kcp_v rfl (s_90_89 ?_))))))))
    rw [e1, e2, e4, i2l r2, i2l r3]
    refine c_75 (by simp) hW hB r1 (fun L2 hf2 hW2 => kcp_v rfl (s_90_93 ?_))
    rw [add32]
    have := ih (j + 1) (by omega) L2 hW2 (hs.cg rfl (hf2 21 1 rfl) (hf2 21 2 rfl)) h1 h0
    exact this
set_option maxHeartbeats 4000000 in
theorem l_89 {I0 : Mi} {ch : Ch} (hok : ChOk ch) (hc0 : ChAt I0 5 ch) (fin : ∀ t I' L', orA ch 256 = some t → FrI [(21, 0, 0), (28, 0, 0), (29, 0, 0)] I0 I' → BsAt I' L' (orF ch) (some t) → OrAt I' 29 t → Q (.inl none) (gE Lx) I' L' e) :
    ∀ (s r : Nat), r + (s + 1) = (PL ch.2.2.2.1).length → ∀ (I : Mi) (L : Ml), FrI [(21, 0, 0), (28, 0, 0), (29, 0, 0)] I0 I → OrAt I 28 (pc ch.2.2.2.1 r) → BsAt I L (orF ch) (orA ch (pc ch.2.2.2.1 r)) → (∀ t, orA ch (pc ch.2.2.2.1 r) = some t → OrAt I 29 t) →
    Wp 89 51 [(0, .ref 1), (1, .int (Int32.ofInt ch.2.2.2.1)), (2, .int (Int32.ofInt 1)), (3, .int (Int32.ofInt r))] [] (gE Lx) I L e Q := by
  have h4 := hok.2.2.2.1
  have p0 := PL_n ch.2.2.2.1 (by omega)
  have b1 := hok.1; have b2 := hok.2.1; have b3 := hok.2.2.1
  intro s
  induction s with
  | zero =>
    intro r hr I L hf ho hs h29
    have hc : ChAt I 5 ch := hc0.cg (hf.at rfl) (hf.at rfl) (hf.at rfl) (hf.at rfl)
    have hp := (pc_o ch.2.2.2.1 (by omega) r (by omega))
    obtain ⟨z0, z1, z2, z3, z4⟩ := id hc
    have up : orA ch 256 = stp1 (isO ch.2.2.2.1) (-1) (orF ch) (pc ch.2.2.2.1 r) (orA ch (pc ch.2.2.2.1 r)) := by
      rw [← orA_n]
      exact orA_r h4 (by omega) ⟨fun q => by omega, fun _ => rfl⟩ hp.2
    have out : ∀ (I4 : Mi) (L4 : Ml), FrI [(21, 0, 0), (28, 0, 0), (29, 0, 0)] I0 I4 → OrAt I4 28 (pc ch.2.2.2.1 r) → (∃ t, orA ch 256 = some t ∧ BsAt I4 L4 (orF ch) (some t) ∧ OrAt I4 29 t) → Wp 89 65 [(0, .ref 1), (1, .int (Int32.ofInt ch.2.2.2.1)), (3, .int (Int32.ofInt r))] [] (gE Lx) I4 L4 e Q := by
      intro I4 L4 hf4 ho4 ⟨t, t1, t2, t3⟩
      refine s_89_65 ?_
      refine c_91 (by omega) (by omega) ho4 (fun q => by omega) (fun _ => kcp_v rfl (s_89_70 (s_89_51 ?_)))
      have := fin t I4 L4 t1 hf4 t2 t3
      split
      · exact j_0 this
      · exact this
    refine s_89_51 ?_
    rw [z0, z1, z2, i2l (by omega), i2l (by omega), i2l (by omega)]
    refine i_lt32 (by omega) (by omega) (fun _ => j_1 ?_) (fun _ => by omega)
    refine l_90 hok hc hp.1 ho (c := orA ch (pc ch.2.2.2.1 r)) (fun j hj => (orA_I hj).2) ch.2.2.2.1 0 (by omega) _ ⟨rfl, rfl, rfl, rfl⟩ (hs.cg rfl rfl rfl) (fun hb I4 L4 hf4 o4 s4 => kcp_v rfl ?_) (fun hb L4 s4 => kcp_v rfl ?_)
    · rw [stp_t hp.1 hb] at up
      exact out I4 L4 (FrI.tr hf hf4 rfl rfl) (ho.cg (hf4.at rfl)) ⟨_, up, s4, o4⟩
    · rw [stp_f hb] at up
      obtain ⟨j, hj, -⟩ := hb
      rw [hj] at up s4
      exact out I L4 hf ho ⟨j, up, s4, h29 j hj⟩
  | succ s ih =>
    intro r hr I L hf ho hs h29
    have hc : ChAt I 5 ch := hc0.cg (hf.at rfl) (hf.at rfl) (hf.at rfl) (hf.at rfl)
    have hp := (pc_o ch.2.2.2.1 (by omega) r (by omega))
    obtain ⟨z0, z1, z2, z3, z4⟩ := id hc
    have up : orA ch (pc ch.2.2.2.1 (r + 1)) = stp1 (isO ch.2.2.2.1) (-1) (orF ch) (pc ch.2.2.2.1 r) (orA ch (pc ch.2.2.2.1 r)) := by
      rw [← orA_n]
      exact orA_r h4 (by omega) ⟨fun q => rfl, fun q => by omega⟩ (pc_up (by omega) (by omega))
    have out : ∀ (I4 : Mi) (L4 : Ml), FrI [(21, 0, 0), (28, 0, 0), (29, 0, 0)] I0 I4 → OrAt I4 28 (pc ch.2.2.2.1 r) → BsAt I4 L4 (orF ch) (orA ch (pc ch.2.2.2.1 (r + 1))) → (∀ t, orA ch (pc ch.2.2.2.1 (r + 1)) = some t → OrAt I4 29 t) → Wp 89 65 [(0, .ref 1), (1, .int (Int32.ofInt ch.2.2.2.1)), (3, .int (Int32.ofInt r))] [] (gE Lx) I4 L4 e Q := by
      intro I4 L4 hf4 ho4 t2 t3
      refine s_89_65 ?_
      refine c_91 (by omega) (by omega) ho4 (fun q I5 hf5 o5 => kcp_v rfl (s_89_70 ?_)) (fun q => by omega)
      rw [add32]
      have := ih (r + 1) (by omega) I5 L4 (FrI.tr hf4 hf5 rfl rfl) o5 (t2.cg (hf5 21 0 rfl) rfl rfl) (fun t ht => (t3 t ht).cg (hf5.at rfl))
      exact this
    refine s_89_51 ?_
    rw [z0, z1, z2, i2l (by omega), i2l (by omega), i2l (by omega)]
    refine i_lt32 (by omega) (by omega) (fun _ => j_1 ?_) (fun _ => by omega)
    refine l_90 hok hc hp.1 ho (c := orA ch (pc ch.2.2.2.1 r)) (fun j hj => (orA_I hj).2) ch.2.2.2.1 0 (by omega) _ ⟨rfl, rfl, rfl, rfl⟩ (hs.cg rfl rfl rfl) (fun hb I4 L4 hf4 o4 s4 => kcp_v rfl ?_) (fun hb L4 s4 => kcp_v rfl ?_)
    · rw [stp_t hp.1 hb] at up
      exact out I4 L4 (FrI.tr hf hf4 rfl rfl) (ho.cg (hf4.at rfl)) (by rw [up]; exact s4) (fun t ht => by rw [up] at ht; cases ht; exact o4)
    · rw [stp_f hb] at up
      exact out I L4 hf ho (by rw [up]; exact s4) (fun t ht => by rw [up] at ht; exact h29 t ht)
theorem l_89i {Lx : Nat} {e : Nat} {Q : Kq} {L : Ml} {n : Nat} (hn : n ≤ 4) : ∀ (s j : Nat), j + s = 4 → ∀ (I : Mi), I 5 3 = .ofInt (n : Int) → (∀ I', FrI [(28, 0, 4)] I I' → (∀ k, j ≤ k → k < 4 → I' 28 k = .ofInt (k : Int)) → (∀ k, k < j → I' 28 k = I 28 k) → Wp 89 51 [(0, .ref 1), (1, .int (Int32.ofInt n)), (2, .int (Int32.ofInt 1)), (3, .int (Int32.ofInt 0))] [] (gE Lx) I' L e Q) →
    Wp 89 9 [(0, .ref 1), (1, .int (Int32.ofInt j))] [] (gE Lx) I L e Q := by
  intro s
  induction s with
  | zero =>
    intro j hj I h53 h
    refine s_89_9 ?_
    rw [h53]
    exact i_lt32 (by omega) (by omega) (fun _ => by omega) (fun _ => i_lt32 (by omega) (by omega) (fun _ => by omega) (fun _ => h I FrI.rf (fun k h1 h2 => by omega) (fun k hk => rfl)))
  | succ s ih =>
    intro j hj I h53 h
    refine s_89_9 ?_
    rw [tncn (k := j) (by omega), add32]
    refine i_lt32 (by omega) (by omega) (fun _ => i_inb (by omega) (by omega) ?_) (fun _ => by omega)
    have h28 : ∀ x, x < 4 → inS [(28, 0, 4)] 28 x = true := by decide
    have := ih (j + 1) (by omega) (ui I 28 j (Int32.ofInt j)) h53 (fun I' hf a b => h I' (FrI.tr (S := [(28, 0, 4)]) (FrI.wu FrI.rf (h28 j (by omega))) hf rfl rfl) (fun k h1 h2 => by
      by_cases q : k = j
      · rw [b k (by omega), q, u_at]
      · exact a k (by omega) h2) (fun k hk => by rw [b k (by omega), u_ne (by omega)]))
    exact this
theorem c_89 {ch : Ch} (hok : ChOk ch) (hc : ChAt I 5 ch) (h : ∀ t I' L', orA ch 256 = some t → FrI [(21, 0, 0), (28, 0, 0), (29, 0, 0)] I I' → BsAt I' L' (orF ch) (some t) → OrAt I' 29 t → Q (.inl none) (gE Lx) I' L' e) :
    Wp 89 0 [(0, .ref 1)] [] (gE Lx) I L e Q := by
  have h4 := hok.2.2.2.1
  have p0 := PL_n ch.2.2.2.1 (by omega)
  have e0 := orA_0 h4
  refine s_89_0 (l_89i (n := ch.2.2.2.1) (by omega) 4 0 (by omega) _ hc.2.2.2.1 (fun I1 hf1 a1 _ => ?_))
  have hpc : pc ch.2.2.2.1 0 = 27 := by
    have : ch.2.2.2.1 = 0 ∨ ch.2.2.2.1 = 1 ∨ ch.2.2.2.1 = 2 ∨ ch.2.2.2.1 = 3 ∨ ch.2.2.2.1 = 4 := by omega
    rcases this with q | q | q | q | q <;> rw [q] <;> rfl
  have f27 : ∀ k, k < 4 → fg 27 k = k := by decide
  have := l_89 (I0 := I) (Lx := Lx) (e := e) (Q := Q) hok hc h ((PL ch.2.2.2.1).length - 1) 0 (by omega) I1 (ul (ul L 21 1 (Int64.ofInt 0)) 21 2 (Int64.ofInt 1)) (FrI.tr (A := [(21, 0, 0)]) (FrI.wu FrI.rf rfl) hf1 rfl rfl) (fun k hk => by rw [hpc, f27 k hk]; exact a1 k (by omega) hk) (by rw [e0]; exact (hf1 21 0 rfl).trans rfl) (fun t ht => by rw [e0] at ht; cases ht)
  exact this
noncomputable def plO (ch : Ch) (k : Int) : Option Nat → Int
  | none => 0
  | some t => (fg t k.toNat : Int)
noncomputable def spPla (ch : Ch) (k : Int) : Int := if k < 0 ∨ (ch.2.2.2.1 : Int) ≤ k then -1 else plO ch k (orA ch 256)
theorem spPla_b {ch : Ch} {k : Int} : -1 ≤ spPla ch k ∧ spPla ch k ≤ 3 := by
  unfold spPla
  split
  · omega
  · cases orA ch 256 with
    | none => show -1 ≤ (0 : Int) ∧ (0 : Int) ≤ 3; omega
    | some t =>
      have := fg_b t k.toNat
      show -1 ≤ (fg t k.toNat : Int) ∧ (fg t k.toNat : Int) ≤ 3
      omega
theorem c_88 {ch : Ch} (hok : ChOk ch) (hc : ChAt I 5 ch) {k : Int} (hk : R32 k) (h : ∀ I' L', FrI cS I I' → Q (.inl (some (.int (Int32.ofInt (spPla ch k))))) (gE Lx) I' L' e) :
    Wp 88 0 [(0, .ref 1), (1, .int (Int32.ofInt k))] [] (gE Lx) I L e Q := by
  have h4 := hok.2.2.2.1
  refine s_88_0 ?_
  rw [hc.2.2.2.1]
  have no : k < 0 ∨ (ch.2.2.2.1 : Int) ≤ k → Q (.inl (some (.int (Int32.ofInt (-1))))) (gE Lx) I L e := fun q => by
    have := h I L FrI.rf
    unfold spPla at this
    rw [if_pos q] at this
    exact this
  refine i_ltz hk (fun q => no (by omega)) (fun a1 => i_lt32 hk (by omega) (fun a2 => i_lt32 hk (by omega) (fun a3 => ?_) (fun q => no (by omega))) (fun q => no (by omega)))
  obtain ⟨n, rfl⟩ : ∃ n : Nat, k = n := ⟨k.toNat, by omega⟩
  refine c_89 hok hc (fun t I1 L1 ht hf1 hs1 ho1 => kcp_v rfl (s_88_30 ?_))
  rw [tncn (k := n) (by omega), ho1 n (by omega)]
  refine i_inb (by omega) (by omega) ?_
  have := h I1 L1 (hf1.up rfl)
  unfold spPla at this
  rw [if_neg (by omega), ht] at this
  exact this
end
