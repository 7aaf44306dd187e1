/-! count: both sides. -/
def shB (o : Option Ch) (x y : Int32) : Int32 := match o with
  | none => y
  | some _ => x
theorem shB_n {x y : Int32} : shB none x y = y := rfl
theorem shB_s {c : Ch} {x y : Int32} : shB (some c) x y = x := rfl
def cnK (sh : Nat → Option Ch) : Nat → Int32
  | 0 => Int32.ofInt 0
  | k + 1 => shB (sh k) (cnK sh k ||| (Int32.ofInt 1 <<< (Int32.ofInt (k : Int) &&& 31))) (cnK sh k)
noncomputable def cnQ (ch : Ch) (l4 l5 : Int) : Nat → Int
  | 0 => 0
  | j + 1 => iP (wit l4 l5 (vW ch ((j + 1 : Nat) : Int) 0)) ((j + 1 : Nat) : Int) (cnQ ch l4 l5 j)
noncomputable def cnH (ch : Ch) : Nat → Int32
  | 0 => Int32.ofInt 0
  | j + 1 => iP (eUp (vW ch ((j + 1 : Nat) : Int) 0) = eLo (vW ch ((j + 1 : Nat) : Int) 0)) (cnH ch j ||| (Int32.ofInt 1 <<< (Int32.ofInt ((j + 1 : Nat) : Int) &&& 31))) (cnH ch j)
noncomputable def cnV (ch : Ch) (sh : Nat → Option Ch) (l4 l5 w : Int) : Int32 := if w = 0 then Int32.ofInt (ch.2.2.2.1 : Int) else if w = 1 then Int32.ofInt ch.1 else if w = 2 then Int32.ofInt ch.2.1 else if w = 3 then Int32.ofInt ch.2.2.1 else if w = 4 then Int32.ofInt l4 else if w = 5 then Int32.ofInt l5 else if w = 6 then cnK sh 4 else if w = 7 then iP (mtc (wSeen ch ch.2.2.2.1)) (Int32.ofInt 1) (Int32.ofInt 0) else if w = 8 then Int32.ofInt (cnQ ch l4 l5 3) else if w = 9 then cnH ch 3 else Int32.ofInt (-1)
theorem mtc_e {w : Wv} : mtc w ↔ eUp w = 0 := by
  unfold mtc eUp
  constructor
  · rintro ⟨h1, h2⟩
    rw [show w.1 - w.2.2.1 = 0 by omega, show w.2.1 - w.2.2.2 = 0 by omega]
    rfl
  · intro h
    by_cases k : w.1 - w.2.2.1 = 0 ∧ w.2.1 - w.2.2.2 = 0
    · omega
    · have := sq2_pos k
      omega
theorem or_0 {x : Int32} : x ||| Int32.ofInt 0 = x := Int32.or_zero
theorem eE_sc {w r : Wv} (h : Sc w r) : eUp w = eLo w ↔ eUp r = eLo r := by
  obtain ⟨c, hc, rfl⟩ := h
  have := sq_pos hc
  rw [eUp_sm, eLo_sm]
  exact ⟨fun q => Int.eq_of_mul_eq_mul_left (by omega) q, fun q => by rw [q]⟩
section
variable {Lx : Nat} {I : Mi} {L : Ml} {e : Nat} {Q : Kq}
theorem c_104 {ch : Ch} {sh : Nat → Option Ch} {a b : Int} (hs : CSt I ch sh a b) (h : Q (.inl (some (.int (cnK sh 4)))) (gE Lx) I L e) : Wp 104 4 [(0, .ref 1), (1, .int (Int32.ofInt 0)), (2, .int (Int32.ofInt 0))] [] (gE Lx) I L e Q := by
  have one : ∀ (k : Nat) (x y : Int32) (A : Int32 → Prop), k < 4 → (A (shB (sh k) x y)) → if I (30 + 7 * k) 0 = 0 then A y else A x := fun k x y A hk hA => by
    have hh := hs.s k hk
    cases ho : sh k with
    | none => rw [hh.1 ho]; rw [ho] at hA; exact j_0 hA
    | some c => rw [(hh.2 c ho).1]; rw [ho] at hA; exact j_1 hA
  have s3 : Wp 104 4 [(0, .ref 1), (1, .int (cnK sh 4)), (2, .int (Int32.ofInt 4))] [] (gE Lx) I L e Q := s_104_4_4 h
  have s2 : Wp 104 4 [(0, .ref 1), (1, .int (cnK sh 3)), (2, .int (Int32.ofInt 3))] [] (gE Lx) I L e Q := s_104_4_3 (one 3 _ _ (fun x => Wp 104 4 [(0, .ref 1), (1, .int x), (2, .int (Int32.ofInt 4))] [] (gE Lx) I L e Q) (by omega) s3)
  have s1 : Wp 104 4 [(0, .ref 1), (1, .int (cnK sh 2)), (2, .int (Int32.ofInt 2))] [] (gE Lx) I L e Q := s_104_4_2 (one 2 _ _ (fun x => Wp 104 4 [(0, .ref 1), (1, .int x), (2, .int (Int32.ofInt 3))] [] (gE Lx) I L e Q) (by omega) s2)
  have s0 : Wp 104 4 [(0, .ref 1), (1, .int (cnK sh 1)), (2, .int (Int32.ofInt 1))] [] (gE Lx) I L e Q := s_104_4_1 (one 1 _ _ (fun x => Wp 104 4 [(0, .ref 1), (1, .int x), (2, .int (Int32.ofInt 2))] [] (gE Lx) I L e Q) (by omega) s1)
  exact s_104_4_0 (one 0 _ _ (fun x => Wp 104 4 [(0, .ref 1), (1, .int x), (2, .int (Int32.ofInt 1))] [] (gE Lx) I L e Q) (by omega) s0)
theorem vk_0 {n : Nat} (h : 1 ≤ n ∧ n ≤ 3) : vOk (n : Int) 0 := (vOk_0 rfl).mpr (by omega)
theorem l_107 {ch : Ch} (hok : ChOk ch) (hc : ChAt I 5 ch) {l4 l5 : Int} (hl : LimAt I l4 l5) : ∀ (n : Nat), n ≤ 3 → ∀ L : Ml, (∀ L', Q (.inl (some (.int (Int32.ofInt (cnQ ch l4 l5 n))))) (gE Lx) I L' e) → Wp 107 2 [(0, .ref 1), (1, .int (Int32.ofInt n))] [] (gE Lx) I L e Q := by
  intro n
  induction n with
  | zero => intro _ L h; exact s_107_2 (i_lt32 (by omega) (by omega) (fun _ => h L) (fun _ => by omega))
  | succ n ih =>
    intro hn L h
    have v := vk_0 (n := n + 1) (by omega)
    have a := vW_ok hok v (Nat.le_refl _)
    unfold cnQ at h
    refine s_107_2 (i_lt32 (by omega) (by omega) (fun _ => by omega) (fun _ => c_108 hok hc rfl v (fun L1 _ hW => kcp_v rfl (s_107_16 (c_98 hW a.2 hl (fun q L2 _ => kcp_v rfl (s_107_20 (j_1 ?_))) (fun q L2 _ => kcp_v rfl (s_107_20 (j_0 ?_))))))))
    · have := h L2
      rw [iP_t q] at this
      exact this
    · rw [add32, show ((n + 1 : Nat) : Int) + -1 = (n : Int) by omega]
      exact ih (by omega) L2 (fun L' => by have := h L'; rw [iP_f q] at this; exact this)
theorem l_109 {ch : Ch} (hok : ChOk ch) (hc : ChAt I 5 ch) (h : ∀ L', Q (.inl (some (.int (cnH ch 3)))) (gE Lx) I L' e) : ∀ (s n : Nat), n + s = 3 → ∀ L : Ml, Wp 109 4 [(0, .ref 1), (1, .int (cnH ch n)), (2, .int (Int32.ofInt ((n + 1 : Nat) : Int)))] [] (gE Lx) I L e Q := by
  intro s
  induction s with
  | zero =>
    intro n hn L
    have : n = 3 := by omega
    subst this
    exact s_109_4 (i_lt32 (by omega) (by omega) (fun _ => h L) (fun _ => by omega))
  | succ s ih =>
    intro n hn L
    have v := vk_0 (n := n + 1) (by omega)
    have a := vW_ok hok v (Nat.le_refl _)
    have ea : Int32.ofInt ((n + 1 : Nat) : Int) + Int32.ofInt 1 = Int32.ofInt ((n + 1 + 1 : Nat) : Int) := by rw [add32]; rfl
    refine s_109_4 (i_lt32 (by omega) (by omega) (fun _ => by omega) (fun _ => c_108 hok hc rfl v (fun L1 _ hW => kcp_v rfl (s_109_18 (c_99 hW a.2 (fun L2 _ v1 v2 => kcp_v rfl (s_109_22 (c_9 v1 v2 (kcp_v rfl (s_109_33 ?_))))))))))
    have sb := sg_0 (v := eUp (vW ch ((n + 1 : Nat) : Int) 0) - eLo (vW ch ((n + 1 : Nat) : Int) 0))
    have nx := ih (n + 1) (by omega) L2
    rw [ea]
    have sg0 : sg (eUp (wSeen (vCh ch ((n + 1 : Nat) : Int) 0) ch.2.2.2.1) - eLo (wSeen (vCh ch ((n + 1 : Nat) : Int) 0) ch.2.2.2.1)) = sg (eUp (vW ch ((n + 1 : Nat) : Int) 0) - eLo (vW ch ((n + 1 : Nat) : Int) 0)) := rfl
    unfold cnH at nx
    refine i_eqz (by omega) (fun q => ?_) (fun q => ?_)
    · rw [iP_t (by have := sb.1.mp q; omega)] at nx
      exact nx
    · rw [iP_f (fun w => q (sb.1.mpr (by omega)))] at nx
      exact nx
theorem c_103 {ch : Ch} {sh : Nat → Option Ch} {l4 l5 : Int} (hok : ChOk ch) (hs : CSt I ch sh l4 l5) {w : Int} (hw : R32 w) (h : ∀ I' L', FrI cS I I' → Q (.inl (some (.int (cnV ch sh l4 l5 w)))) (gE Lx) I' L' e) :
    Wp 103 0 [(0, .ref 1), (1, .int (Int32.ofInt w))] [] (gE Lx) I L e Q := by
  have hc := hs.c
  have hl := hs.l
  obtain ⟨z0, z1, z2, z3, z4⟩ := id hc
  have h := fun L' => h I L' FrI.rf
  unfold cnV at h
  refine s_103_0 ?_
  rw [z0, z1, z2, z3, hl.1.1, hl.1.2]
  refine i_eq32 hw (by omega) (fun q => ?_) (fun q0 => i_eq32 hw (by omega) (fun q => ?_) (fun q1 => i_eq32 hw (by omega) (fun q => ?_) (fun q2 => i_eq32 hw (by omega) (fun q => ?_) (fun q3 => i_eq32 hw (by omega) (fun q => ?_) (fun q4 => i_eq32 hw (by omega) (fun q => ?_) (fun q5 => i_eq32 hw (by omega) (fun q => ?_) (fun q6 => i_eq32 hw (by omega) (fun q => ?_) (fun q7 => i_eq32 hw (by omega) (fun q => ?_) (fun q8 => i_eq32 hw (by omega) (fun q => ?_) (fun q9 => ?_))))))))))
  · rw [if_pos q] at h; exact h L
  · rw [if_neg q0, if_pos q] at h; exact h L
  · rw [if_neg q0, if_neg q1, if_pos q] at h; exact h L
  · rw [if_neg q0, if_neg q1, if_neg q2, if_pos q] at h; exact h L
  · rw [if_neg q0, if_neg q1, if_neg q2, if_neg q3, if_pos q] at h; exact h L
  · rw [if_neg q0, if_neg q1, if_neg q2, if_neg q3, if_neg q4, if_pos q] at h; exact h L
  · rw [if_neg q0, if_neg q1, if_neg q2, if_neg q3, if_neg q4, if_neg q5, if_pos q] at h
    exact c_104 hs (kcp_v rfl (s_103_102 (h L)))
  · rw [if_neg q0, if_neg q1, if_neg q2, if_neg q3, if_neg q4, if_neg q5, if_neg q6, if_pos q] at h
    refine c_106 (Or.inl rfl) hok hc (Nat.le_refl _) (fun L1 hf1 hW => kcp_v rfl (s_105_18 ?_))
    have hB := wSeen_B hok (Nat.le_refl ch.2.2.2.1)
    obtain ⟨v1, v2, v3, v4, v5, v6⟩ := wv_b hB
    have vn := eUp_nn (wSeen ch ch.2.2.2.1)
    obtain ⟨w0, w1, w2, w3⟩ := hW
    have eup : (L1 14 0 - L1 14 2) * (L1 14 0 - L1 14 2) + (L1 14 1 - L1 14 3) * (L1 14 1 - L1 14 3) = Int64.ofInt (eUp (wSeen ch ch.2.2.2.1)) := by rw [w0, w1, w2, w3]; simp only [sub64, mul64, add64]; rfl
    rw [eup]
    refine i_eq64 (by omega) (by omega) (fun y => kcp_v rfl (s_103_107 (j_1 ?_))) (fun y => kcp_v rfl (s_103_107 (j_0 ?_)))
    · rw [iP_t (mtc_e.mpr y)] at h; exact h L1
    · rw [iP_f (fun x => y (mtc_e.mp x))] at h; exact h L1
  · rw [if_neg q0, if_neg q1, if_neg q2, if_neg q3, if_neg q4, if_neg q5, if_neg q6, if_neg q7, if_pos q] at h
    exact l_107 hok hc hl 3 (by omega) L (fun L' => kcp_v rfl (s_103_120 (h L')))
  · rw [if_neg q0, if_neg q1, if_neg q2, if_neg q3, if_neg q4, if_neg q5, if_neg q6, if_neg q7, if_neg q8, if_pos q] at h
    exact l_109 hok hc (fun L' => kcp_v rfl (s_103_125 (h L'))) 3 0 (by omega) L
  · rw [if_neg q0, if_neg q1, if_neg q2, if_neg q3, if_neg q4, if_neg q5, if_neg q6, if_neg q7, if_neg q8, if_neg q9] at h; exact h L
theorem l_363 {ch : Ch} {sh : Nat → Option Ch} {a b : Int} (hs : RSt I ch sh a b) (h : Q (.inl (some (.int (cnK sh 4)))) (gE Lx) I L e) : ∀ (s k : Nat), k + s = 4 → Wp 363 4 [(0, .ref 58), (1, .int (cnK sh k)), (2, .int (Int32.ofInt k))] [] (gE Lx) I L e Q := by
  intro s
  induction s with
  | zero =>
    intro k hk
    have : k = 4 := by omega
    subst this
    exact s_363_4 (i_lt32 (by omega) (by omega) (fun _ => by omega) (fun _ => h))
  | succ s ih =>
    intro k hk
    have ei : Int32.ofInt 17 * Int32.ofInt (k : Int) + Int32.ofInt 16 = Int32.ofInt ((17 * k + 16 : Nat) : Int) := ix17 k 16
    have ea : Int32.ofInt (k : Int) + Int32.ofInt 1 = Int32.ofInt ((k + 1 : Nat) : Int) := by rw [add32]; rfl
    have nx := ih (k + 1) (by omega)
    have hh := hs.s k (by omega)
    unfold cnK at nx
    refine s_363_4 ?_
    rw [ei, tncn (k := 17 * k + 16) (by omega), ea, or_0]
    refine i_lt32 (by omega) (by omega) (fun _ => i_inb (by omega) (by omega) ?_) (fun _ => by omega)
    cases ho : sh k with
    | none =>
      rw [hh.1 ho]
      rw [ho, shB_n] at nx
      exact i_eq32 (by omega) (by omega) (fun w => by omega) (fun _ => nx)
    | some c =>
      rw [(hh.2 c ho).1]
      rw [ho, shB_s] at nx
      exact i_eq32 (by omega) (by omega) (fun _ => nx) (fun w => absurd rfl w)
theorem l_365 {ch : Ch} (hok : ChOk ch) (hc : BnAt I 59 0 ch) {l4 l5 : Int} (hl : LimRt I l4 l5) : ∀ (n : Nat), n ≤ 3 → ∀ L : Ml, (∀ L', FrL lyF L L' → Q (.inl (some (.int (Int32.ofInt (cnQ ch l4 l5 n))))) (gE Lx) I L' e) → Wp 365 2 [(0, .ref 58), (1, .int (Int32.ofInt n))] [] (gE Lx) I L e Q := by
  intro n
  induction n with
  | zero => intro _ L h; exact s_365_2 (i_zlt (by omega) (fun w => by omega) (fun _ => h L FrL.rf))
  | succ n ih =>
    intro hn L h
    have v := vk_0 (n := n + 1) (by omega)
    unfold cnQ at h
    refine s_365_2 (i_zlt (by omega) (fun _ => c_348 hok hc hl (by omega) v (fun q L2 hf2 => kcp_v rfl (s_365_12 (j_1 ?_))) (fun q L2 hf2 => kcp_v rfl (s_365_12 (j_0 ?_)))) (fun w => by omega))
    · have := h L2 hf2
      rw [iP_t q] at this
      exact this
    · rw [add32, show ((n + 1 : Nat) : Int) + -1 = (n : Int) by omega]
      exact ih (by omega) L2 (fun L' hf' => by have := h L' (FrL.tr hf2 hf' rfl rfl); rw [iP_f q] at this; exact this)
theorem l_366 {ch : Ch} (hok : ChOk ch) (hc : BnAt I 59 0 ch) {L0 : Ml} (h : ∀ L', FrL lyF L0 L' → Q (.inl (some (.int (cnH ch 3)))) (gE Lx) I L' e) : ∀ (s n : Nat), n + s = 3 → ∀ L : Ml, FrL lyF L0 L → Wp 366 4 [(0, .ref 58), (1, .int (cnH ch n)), (2, .int (Int32.ofInt ((n + 1 : Nat) : Int)))] [] (gE Lx) I L e Q := by
  intro s
  induction s with
  | zero =>
    intro n hn L hf
    have : n = 3 := by omega
    subst this
    exact s_366_4 (i_lt32 (by omega) (by omega) (fun _ => h L hf) (fun _ => by omega))
  | succ s ih =>
    intro n hn L hf
    have v := vk_0 (n := n + 1) (by omega)
    have a := vW_ok hok v (Nat.le_refl _)
    have ea : Int32.ofInt ((n + 1 : Nat) : Int) + Int32.ofInt 1 = Int32.ofInt ((n + 1 + 1 : Nat) : Int) := by rw [add32]; rfl
    refine s_366_4 (i_lt32 (by omega) (by omega) (fun _ => by omega) (fun _ => c_339 hok hc (by omega) v (fun L1 r hf1 hsc v8 v9 => kcp_v rfl (s_366_15 ?_))))
    obtain ⟨u1, u2, u3⟩ := rUL hsc a.2 a.1
    refine c_342 (d := 10) (a := 8) (b := 9) (by omega) (by omega) (by omega) v8 v9 (by omega) (by omega) (rbU u1 (by omega) (by omega) (by omega)) (fun L2 hf2 v10 => kcp_v rfl (s_366_29 (c_345 (r := 10) (by omega) v10 (kcp_v rfl (s_366_36 ?_)))))
    have sb := sg_0 (v := eUp r * 1 + eLo r * -1)
    have es := eE_sc hsc
    have nx := ih (n + 1) (by omega) L2 (FrL.tr hf (FrL.tr (S := lyF) hf1 hf2 rfl rfl) rfl rfl)
    rw [ea, or_0]
    unfold cnH at nx
    refine i_eqz (by omega) (fun q => ?_) (fun q => ?_)
    · rw [iP_t (es.mpr (by have := sb.1.mp q; omega))] at nx
      exact nx
    · rw [iP_f (fun w => q (sb.1.mpr (by have := es.mp w; omega)))] at nx
      exact nx
theorem r_362 {ch : Ch} {sh : Nat → Option Ch} {l4 l5 : Int} (hok : ChOk ch) (hs : RSt I ch sh l4 l5) {w : Int} (hw : R32 w) (h : ∀ I' L', FrI rS I I' → L' 70 = L 70 → I' 58 0 = .ofInt 0 → Q (.inl (some (.int (cnV ch sh l4 l5 w)))) (gE Lx) I' L' e) :
    Wp 362 0 [(0, .ref 58), (1, .int (Int32.ofInt w))] [] (gE Lx) I L e Q := by
  have hI : FrI rS I (ui I 58 0 (Int32.ofInt 0)) := FrI.wu FrI.rf rfl
  have hs2 := hs.f hI
  have hc := hs2.c
  have hl := hs2.l
  obtain ⟨z0, z1, z2, z3, z4⟩ := id hs.c
  have z0 : I 59 0 = Int32.ofInt ch.1 := z0
  have z1 : I 59 1 = Int32.ofInt ch.2.1 := z1
  have z2 : I 59 2 = Int32.ofInt ch.2.2.1 := z2
  have z3 : I 59 3 = Int32.ofInt (ch.2.2.2.1 : Int) := z3
  have h := fun L' hl' => h _ L' hI hl' u_at
  unfold cnV at h
  refine s_362_0 ?_
  rw [z0, z1, z2, z3, hs.l.1.1, hs.l.1.2]
  refine i_eq32 hw (by omega) (fun q => ?_) (fun q0 => i_eq32 hw (by omega) (fun q => ?_) (fun q1 => i_eq32 hw (by omega) (fun q => ?_) (fun q2 => i_eq32 hw (by omega) (fun q => ?_) (fun q3 => i_eq32 hw (by omega) (fun q => ?_) (fun q4 => i_eq32 hw (by omega) (fun q => ?_) (fun q5 => i_eq32 hw (by omega) (fun q => ?_) (fun q6 => i_eq32 hw (by omega) (fun q => ?_) (fun q7 => i_eq32 hw (by omega) (fun q => ?_) (fun q8 => i_eq32 hw (by omega) (fun q => ?_) (fun q9 => ?_))))))))))
  · rw [if_pos q] at h; exact h L rfl
  · rw [if_neg q0, if_pos q] at h; exact h L rfl
  · rw [if_neg q0, if_neg q1, if_pos q] at h; exact h L rfl
  · rw [if_neg q0, if_neg q1, if_neg q2, if_pos q] at h; exact h L rfl
  · rw [if_neg q0, if_neg q1, if_neg q2, if_neg q3, if_pos q] at h; exact h L rfl
  · rw [if_neg q0, if_neg q1, if_neg q2, if_neg q3, if_neg q4, if_pos q] at h; exact h L rfl
  · rw [if_neg q0, if_neg q1, if_neg q2, if_neg q3, if_neg q4, if_neg q5, if_pos q] at h
    exact l_363 hs2 (kcp_v rfl (s_362_100 (h L rfl))) 4 0 (by omega)
  · rw [if_neg q0, if_neg q1, if_neg q2, if_neg q3, if_neg q4, if_neg q5, if_neg q6, if_pos q] at h
    refine c_227 hok hc (Nat.le_refl _) (fun L1 r hf1 hr hsc hB => kcp_v rfl (s_364_8 ?_))
    obtain ⟨w0, w1, w2, w3⟩ := hr
    obtain ⟨b0, b1, b2, b3⟩ := hB
    have ms := mtc_sc hsc
    have hl1 : L1 70 = L 70 := hf1.at rfl
    have no : ¬ mtc r → kcp (Wp 362) 362 102 0 [(0, .ref 58)] 71 [] Q (.inl (some (.int (Int32.ofInt 0)))) (gE Lx) (ui I 58 0 (Int32.ofInt 0)) L1 e := fun y => by
      rw [iP_f (fun x => y (ms.mp x))] at h
      exact kcp_v rfl (s_362_105 (j_0 (h L1 hl1)))
    rw [w0, w1, w2, w3]
    refine i_eq64 (by omega) (by omega) (fun y1 => i_eq64 (by omega) (by omega) (fun y2 => ?_) (fun y2 => no (fun x => y2 x.2))) (fun y1 => no (fun x => y1 x.1))
    rw [iP_t (ms.mpr ⟨y1, y2⟩)] at h
    exact kcp_v rfl (s_362_105 (j_1 (h L1 hl1)))
  · rw [if_neg q0, if_neg q1, if_neg q2, if_neg q3, if_neg q4, if_neg q5, if_neg q6, if_neg q7, if_pos q] at h
    exact l_365 hok hc hl 3 (by omega) L (fun L' hf' => kcp_v rfl (s_362_118 (h L' (hf'.at rfl))))
  · rw [if_neg q0, if_neg q1, if_neg q2, if_neg q3, if_neg q4, if_neg q5, if_neg q6, if_neg q7, if_neg q8, if_pos q] at h
    exact l_366 hok hc (L0 := L) (fun L' hf' => kcp_v rfl (s_362_123 (h L' (hf'.at rfl)))) 3 0 (by omega) L FrL.rf
  · rw [if_neg q0, if_neg q1, if_neg q2, if_neg q3, if_neg q4, if_neg q5, if_neg q6, if_neg q7, if_neg q8, if_neg q9] at h; exact h L rfl
end
