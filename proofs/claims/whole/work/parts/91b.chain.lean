/-! Chains with another TANGENT, with more behind; the least of echoes among many. -/
theorem wSeen_cg {ch c2 : Ch} (h0 : c2.1 = ch.1) (h1 : c2.2.1 = ch.2.1) (h2 : c2.2.2.1 = ch.2.2.1) : ∀ j, (∀ k, k < j → c2.2.2.2.2 k = ch.2.2.2.2 k) → wSeen c2 j = wSeen ch j := by
  intro j
  induction j with
  | zero =>
    intro _
    show (c2.1, c2.2.1, c2.2.2.1, (0 : Int)) = (ch.1, ch.2.1, ch.2.2.1, (0 : Int))
    rw [h0, h1, h2]
  | succ j ih =>
    intro h
    show wPass _ _ _ (wSeen c2 j) = wPass _ _ _ (wSeen ch j)
    rw [h j (by omega), ih (fun k hk => h k (by omega))]
theorem chTrim_ok {ch : Ch} (h : ChOk ch) {i : Nat} (hi : i < ch.2.2.2.1) {p q : Int} (ht : isT p q) : ChOk (chTrim ch i p q) := by
  refine ⟨h.1, h.2.1, h.2.2.1, h.2.2.2.1, fun j hj => ?_⟩
  have hj : j < ch.2.2.2.1 := hj
  show ElOk (if j = i then ((ch.2.2.2.2 i).1, p, q) else ch.2.2.2.2 j)
  by_cases hj2 : j = i
  · rw [if_pos hj2]; exact ⟨(h.2.2.2.2 i hi).1, ht⟩
  · rw [if_neg hj2]; exact h.2.2.2.2 j hj
theorem chTrim_i {ch : Ch} {i : Nat} {p q : Int} : (chTrim ch i p q).2.2.2.2 i = ((ch.2.2.2.2 i).1, p, q) := if_pos rfl
theorem chTrim_n {ch : Ch} {i j : Nat} {p q : Int} (h : j ≠ i) : (chTrim ch i p q).2.2.2.2 j = ch.2.2.2.2 j := if_neg h
theorem wSeen_trim {ch : Ch} {i : Nat} {p q : Int} {j : Nat} (h : j ≤ i) : wSeen (chTrim ch i p q) j = wSeen ch j := wSeen_cg (ch := ch) (c2 := chTrim ch i p q) rfl rfl rfl j (fun k hk => chTrim_n (show k ≠ i by omega))
theorem chAdd_n {ch : Ch} {x : Int × Int × Int} {j : Nat} (h : j < ch.2.2.2.1) : (chAdd ch x).2.2.2.2 j = ch.2.2.2.2 j := if_neg (by omega)
theorem wSeen_add {ch : Ch} {x : Int × Int × Int} : wSeen (chAdd ch x) (ch.2.2.2.1 + 1) = wPass x.1 x.2.1 x.2.2 (wSeen ch ch.2.2.2.1) := by
  have e1 : (chAdd ch x).2.2.2.2 ch.2.2.2.1 = x := if_pos rfl
  show wPass _ _ _ (wSeen (chAdd ch x) ch.2.2.2.1) = _
  rw [e1, wSeen_cg (ch := ch) (c2 := chAdd ch x) rfl rfl rfl ch.2.2.2.1 (fun k hk => chAdd_n hk)]
theorem pow99 : ∀ k : Nat, k ≤ 4 → (99 : Int) * 24 ^ k ≤ 32845824 := fun k hk => by
  have : k = 0 ∨ k = 1 ∨ k = 2 ∨ k = 3 ∨ k = 4 := by omega
  rcases this with rfl | rfl | rfl | rfl | rfl <;> decide
theorem ab_add {C : Nat → Prop} {w : Int} {f : Nat → Int × Int} : ∀ (a b k : Nat) (c : Option Nat), ab C w f (a + b) k c = ab C w f b (k + a) (ab C w f a k c) := by
  intro a
  induction a with
  | zero => intro b k c; rw [Nat.zero_add]; rfl
  | succ a ih =>
    intro b k c
    rw [show a + 1 + b = (a + b) + 1 by omega]
    show ab C w f (a + b) (k + 1) (stp1 C w f k c) = ab C w f b (k + (a + 1)) (ab C w f a (k + 1) (stp1 C w f k c))
    rw [ih, show k + 1 + a = k + (a + 1) by omega]
theorem efok.fk {f : Nat → Int × Int} {k : Nat} (h : efok (f k)) : fok f k := ⟨by have := h.1; omega, by have := h.2.1; omega⟩
theorem le_mul {c y B : Int} (hc : c ≠ 0) (h : -B ≤ c * y ∧ c * y ≤ B) : -B ≤ y ∧ y ≤ B := by
  have hB : 0 ≤ B := by omega
  rcases Int.lt_or_gt_of_ne hc with k | k
  · rcases Int.le_total 0 y with q | q
    · have : c * y ≤ -1 * y := Int.mul_le_mul_of_nonneg_right (by omega) q
      omega
    · have : -1 * y ≤ c * y := Int.mul_le_mul_of_nonpos_right (by omega) q
      omega
  · rcases Int.le_total 0 y with q | q
    · have : 1 * y ≤ c * y := Int.mul_le_mul_of_nonneg_right (by omega) q
      omega
    · have : c * y ≤ 1 * y := Int.mul_le_mul_of_nonpos_right (by omega) q
      omega
theorem Sc.wb {w r : Wv} {B : Int} (h : Sc w r) (hB : WB B w) : WB B r := by
  obtain ⟨c, hc, rfl⟩ := h
  exact ⟨le_mul hc hB.1, le_mul hc hB.2.1, le_mul hc hB.2.2.1, le_mul hc hB.2.2.2⟩
section
variable {Lx : Nat} {I : Mi} {L : Ml} {e : Nat} {Q : Kq}
/-- the class takes the echo if it is less -/
theorem n_3 {f : Nat → Int × Int} {c : Option Nat} {k : Nat} {w : Wv} (hW : WvAt L 16 w) (hf : f k = ecF w) (hk : efok (f k)) (hc : ∀ j, c = some j → efok (f j)) (hs : BsAt I L f c)
    (h1 : (∀ j, c = some j → bt (-1) f k j) → ∀ I' L', FrI [(21, 0, 1)] I I' → FrL [(21, 1, 2)] L L' → BsAt I' L' f (some k) → Q (.inl (some (.int (Int32.ofInt 1)))) (gE Lx) I' L' e)
    (h0 : (∃ j, c = some j ∧ ¬ bt (-1) f k j) → Q (.inl (some (.int (Int32.ofInt 0)))) (gE Lx) I L e) :
    Wp 3 0 [(0, .ref 21), (1, .long ((((L 16 0) - (L 16 2)) * ((L 16 0) - (L 16 2))) + (((L 16 1) - (L 16 3)) * ((L 16 1) - (L 16 3))))), (3, .long ((((L 16 0) + (L 16 2)) * ((L 16 0) + (L 16 2))) + (((L 16 1) + (L 16 3)) * ((L 16 1) + (L 16 3))))), (5, .int (Int32.ofInt (-1)))] [] (gE Lx) I L e (kcp (Wp 2) 2 4 0 [(0, .ref 21)] 71 [] Q) := by
  obtain ⟨w0, w1, w2, w3⟩ := hW
  have e1 : ((((L 16 0) - (L 16 2)) * ((L 16 0) - (L 16 2))) + (((L 16 1) - (L 16 3)) * ((L 16 1) - (L 16 3)))) = Int64.ofInt (f k).1 := by
    rw [w0, w1, w2, w3, hf]
    simp only [sub64, mul64, add64]
    rfl
  have e2 : ((((L 16 0) + (L 16 2)) * ((L 16 0) + (L 16 2))) + (((L 16 1) + (L 16 3)) * ((L 16 1) + (L 16 3)))) = Int64.ofInt (f k).2 := by
    rw [w0, w1, w2, w3, hf]
    simp only [add64, mul64]
    rfl
  rw [e1, e2]
  exact c_3 (by omega) hk.fk (fun j hj => (hc j hj).fk) hs (fun q I' L' hf1 hl1 hs1 => kcp_v rfl (s_2_7 (b_1 (h1 q I' L' hf1 hl1 hs1)))) (fun q => kcp_v rfl (s_2_7 (b_0 (h0 q))))
/-- on to the end -/
theorem l_179 {ch c2 : Ch} (hok : ChOk c2) (hc : ChAt I 5 ch) (hn : c2.2.2.2.1 = ch.2.2.2.1) (j0 : Nat) (he : ∀ k, j0 ≤ k → k < ch.2.2.2.1 → c2.2.2.2.2 k = ch.2.2.2.2 k) : ∀ (s j : Nat), j + s = ch.2.2.2.1 → j0 ≤ j → ∀ L : Ml, WvAt L 16 (wSeen c2 j) → (∀ L', FrL [(16, 0, 4)] L L' → WvAt L' 16 (wSeen c2 ch.2.2.2.1) → Q (.inl none) (gE Lx) I L' e) →
    Wp 179 2 [(0, .ref 5), (2, .ref 16), (3, .int (Int32.ofInt j))] [] (gE Lx) I L e Q := by
  have h4 := hok.2.2.2.1
  have e3 := hc.2.2.2.1
  intro s
  induction s with
  | zero =>
    intro j hj hj0 L hW h
    have : j = ch.2.2.2.1 := by omega
    subst this
    refine s_179_2 ?_
    rw [e3]
    exact i_lt32 (by omega) (by omega) (fun _ => by omega) (fun _ => h L FrL.rf hW)
  | succ s ih =>
    intro j hj hj0 L hW h
    have hel := hok.2.2.2.2 j (by omega)
    have hee := he j hj0 (by omega)
    rw [hee] at hel
    obtain ⟨r1, r2, r3⟩ := el_r hel
    obtain ⟨e1, e2, e4⟩ := hc.2.2.2.2 j (by omega)
    have hB := (wSeen_B hok (show j ≤ c2.2.2.2.1 by omega)).le (show (32845824 : Int) ≤ 4611686018427387904 by decide)
    refine s_179_2 ?_
    rw [e3]
    refine i_lt32 (by omega) (by omega) (fun _ => ?_) (fun _ => by omega)
    refine c_12 (Or.inl rfl) (by omega) (kcp_v rfl (s_179_16 (c_14 (Or.inl rfl) (by omega) (kcp_v rfl (s_179_21 (c_15 (Or.inl rfl) (by omega) (kcp_v rfl (s_179_27 ?_))))))))
    rw [e1, e2, e4, i2l r2, i2l r3]
    refine c_75 (by simp) hW hB r1 (fun L2 hf2 hW2 => kcp_v rfl (s_179_31 ?_))
    rw [add32]
    have ew : wSeen c2 (j + 1) = wPass (ch.2.2.2.2 j).1 (ch.2.2.2.2 j).2.1 (ch.2.2.2.2 j).2.2 (wSeen c2 j) := by
      show wPass _ _ _ _ = _
      rw [hee]
    have := ih (j + 1) (by omega) (by omega) L2 (by rw [ew]; exact hW2) (fun L3 hf3 hW3 => h L3 (FrL.tr hf2 hf3 rfl rfl) hW3)
    exact this
/-- with another TANGENT in place of an ELEMENT's own -/
theorem c_178 {ch : Ch} (hok : ChOk ch) (hc : ChAt I 5 ch) (hT : TabAt I) {i k : Nat} (hi : i < ch.2.2.2.1) (hk : k < 184) (hW : WvAt L 16 (wSeen ch i))
    (h : ∀ L', FrL [(16, 0, 4)] L L' → WvAt L' 16 (wSeen (chTrim ch i (tgU k) (tgL k)) ch.2.2.2.1) → Q (.inl none) (gE Lx) I L' e) :
    Wp 12 0 [(0, .ref 5), (1, .int (Int32.ofInt i))] [] (gE Lx) I L e (kcp (Wp 178) 178 20 0 [(0, .ref 1), (1, .int (Int32.ofInt i)), (2, .int (Int32.ofInt k))] 71 [.ref 16] Q) := by
  have h4 := hok.2.2.2.1
  have tb := tg_b hk
  have hel := hok.2.2.2.2 i hi
  obtain ⟨r1, r2, r3⟩ := el_r hel
  obtain ⟨e1, e2, e4⟩ := hc.2.2.2.2 i hi
  have hB := (wSeen_B hok (show i ≤ ch.2.2.2.1 by omega)).le (show (32845824 : Int) ≤ 4611686018427387904 by decide)
  have hok2 := chTrim_ok hok hi (tg_t hk)
  refine c_12 (Or.inl rfl) (by omega) (kcp_v rfl (s_178_23 (c_69 hT hk (kcp_v rfl (s_178_31 (c_70 hT hk (kcp_v rfl (s_178_40 ?_))))))))
  rw [e1, i2l (by omega), i2l (by omega)]
  refine c_75 (by simp) hW hB r1 (fun L2 hf2 hW2 => kcp_v rfl (s_178_44 ?_))
  rw [add32]
  have ew : wSeen (chTrim ch i (tgU k) (tgL k)) (i + 1) = wPass (ch.2.2.2.2 i).1 (tgU k) (tgL k) (wSeen ch i) := by
    show wPass _ _ _ (wSeen (chTrim ch i (tgU k) (tgL k)) i) = _
    rw [chTrim_i, wSeen_trim (Nat.le_refl i)]
  have := l_179 (Lx := Lx) (e := e) (Q := kcp (Wp 178) 178 55 0 [(0, .ref 1)] 71 [] Q) hok2 hc rfl (i + 1) (fun k2 h2 h3 => chTrim_n (by omega)) (ch.2.2.2.1 - (i + 1)) (i + 1) (by omega) (by omega) L2 (by rw [ew]; exact hW2) (fun L3 hf3 hW3 => kcp_v rfl (s_178_58 (h L3 (FrL.tr hf2 hf3 rfl rfl) hW3)))
  exact this
/-- the same on the other side -/
theorem l_324 {ch : Ch} (hok : ChOk ch) (hc : BnAt I 59 0 ch) (hT : TabRt I) {i k : Nat} (hi : i < ch.2.2.2.1) (hk : k < 184) : ∀ (s j : Nat), j + s = ch.2.2.2.1 → ∀ (L : Ml) (r : Wv), RvAt L r → Sc (wSeen (chTrim ch i (tgU k) (tgL k)) j) r → WB (99 * 24 ^ j) r →
    (∀ L' r', FrL [(58, 10, 4)] L L' → RvAt L' r' → Sc (wSeen (chTrim ch i (tgU k) (tgL k)) ch.2.2.2.1) r' → WB 32845824 r' → Q (.inl none) (gE Lx) I L' e) →
    Wp 324 28 [(0, .ref 58), (1, .int (Int32.ofInt i)), (2, .int (Int32.ofInt k)), (3, .int (Int32.ofInt j))] [] (gE Lx) I L e Q := by
  have h4 := hok.2.2.2.1
  have tb := tg_b hk
  have hok2 := chTrim_ok hok hi (tg_t hk)
  have e3 : I 59 3 = Int32.ofInt (ch.2.2.2.1 : Int) := hc.2.2.2.1
  intro s
  induction s with
  | zero =>
    intro j hj L r hr hs hb h
    have : j = ch.2.2.2.1 := by omega
    subst this
    refine s_324_28 ?_
    rw [e3]
    exact i_lt32 (by omega) (by omega) (fun _ => by omega) (fun _ => h L r FrL.rf hr hs (hb.le (pow99 _ h4)))
  | succ s ih =>
    intro j hj L r hr hs hb h
    have hel := hok.2.2.2.2 j (by omega)
    obtain ⟨r1, r2, r3⟩ := el_r hel
    have hg : Good r := (wSeen_g hok2 j (by show j ≤ ch.2.2.2.1; omega)).sc hs
    have hp := pow99 j (by omega)
    refine s_324_28 ?_
    rw [e3]
    refine i_lt32 (by omega) (by omega) (fun _ => i_eq32 (by omega) (by omega) (fun q => ?_) (fun q => ?_)) (fun _ => by omega)
    · have q : j = i := by omega
      subst q
      refine c_220 hc (by omega) h4 (kcp_v rfl (s_324_47 ?_))
      rw [tncn (by omega), (hT.2 k hk).1, (hT.2 k hk).2, i2l (by omega), i2l (by omega)]
      refine i_inb (by omega) hk (i_inb (by omega) hk ?_)
      have hs1 := hs.pass (ch.2.2.2.2 j).1 (tgU k) (tgL k)
      refine c_229 (P := 12) hr hb hel.1 tb.1 tb.2 (by decide) (by omega) (by decide) (by omega) hg (tg_t hk).q1 (fun L2 q2 hf hv hs' hb' => kcp_v rfl (s_324_64 (s_324_88 ?_)))
      rw [add32]
      have ew : wSeen (chTrim ch j (tgU k) (tgL k)) (j + 1) = wPass (ch.2.2.2.2 j).1 (tgU k) (tgL k) (wSeen (chTrim ch j (tgU k) (tgL k)) j) := by
        show wPass _ _ _ _ = _
        rw [chTrim_i]
      have := ih (j + 1) (by omega) L2 q2 hv (by rw [ew]; exact hs1.tr hs') (hb'.le (by rw [Int.pow_succ]; omega)) (fun L3 r3 hf3 hv3 hs3 hb3 => h L3 r3 (FrL.tr hf hf3 rfl rfl) hv3 hs3 hb3)
      exact this
    · have q : j ≠ i := by omega
      refine c_220 hc (by omega) h4 (kcp_v rfl (s_324_73 (c_223 hc (by omega) h4 (kcp_v rfl (s_324_78 (c_224 hc (by omega) h4 (kcp_v rfl (s_324_84 ?_))))))))
      rw [i2l r2, i2l r3]
      have hs1 := hs.pass (ch.2.2.2.2 j).1 (ch.2.2.2.2 j).2.1 (ch.2.2.2.2 j).2.2
      refine c_229 (P := 12) hr hb hel.1 hel.2.b.1 hel.2.b.2 (by decide) (by omega) (by decide) (by omega) hg hel.2.q1 (fun L2 q2 hf hv hs' hb' => kcp_v rfl (s_324_88 ?_))
      rw [add32]
      have ew : wSeen (chTrim ch i (tgU k) (tgL k)) (j + 1) = wPass (ch.2.2.2.2 j).1 (ch.2.2.2.2 j).2.1 (ch.2.2.2.2 j).2.2 (wSeen (chTrim ch i (tgU k) (tgL k)) j) := by
        show wPass _ _ _ _ = _
        rw [chTrim_n q]
      have := ih (j + 1) (by omega) L2 q2 hv (by rw [ew]; exact hs1.tr hs') (hb'.le (by rw [Int.pow_succ]; omega)) (fun L3 r3 hf3 hv3 hs3 hb3 => h L3 r3 (FrL.tr hf hf3 rfl rfl) hv3 hs3 hb3)
      exact this
theorem c_324 {ch : Ch} (hok : ChOk ch) (hc : BnAt I 59 0 ch) (hT : TabRt I) {i k : Nat} (hi : i < ch.2.2.2.1) (hk : k < 184)
    (h : ∀ L' r', FrL [(58, 10, 4)] L L' → RvAt L' r' → Sc (wSeen (chTrim ch i (tgU k) (tgL k)) ch.2.2.2.1) r' → WB 32845824 r' → Q (.inl none) (gE Lx) I L' e) :
    Wp 324 0 [(0, .ref 58), (1, .int (Int32.ofInt i)), (2, .int (Int32.ofInt k))] [] (gE Lx) I L e Q := by
  obtain ⟨h1, h2, h3, h4, -⟩ := id hc
  have b1 := hok.1; have b2 := hok.2.1; have b3 := hok.2.2.1
  have h1 : I 59 0 = Int32.ofInt ch.1 := h1
  have h2 : I 59 1 = Int32.ofInt ch.2.1 := h2
  have h3 : I 59 2 = Int32.ofInt ch.2.2.1 := h3
  refine s_324_0 ?_
  rw [h1, h2, h3, i2l (by omega), i2l (by omega), i2l (by omega)]
  have hz : ¬ ((wBeg ch).1 = 0 ∧ (wBeg ch).2.1 = 0 ∧ (wBeg ch).2.2.1 = 0 ∧ (wBeg ch).2.2.2 = 0) := (wSeen_g hok 0 (by omega)).2
  have hb : WB 99 (wBeg ch) := by unfold WB wBeg; dsimp only; omega
  refine c_228 (x := wBeg ch) (hb.le (by decide)) hz (fun L' hf hv => kcp_v rfl (s_324_26 ?_))
  have := l_324 (Lx := Lx) (e := e) (Q := Q) hok hc hT hi hk ch.2.2.2.1 0 (by omega) L' (nW (wBeg ch)) hv (nW_sc hz) (by rw [Int.pow_zero]; exact nW_B hz hb) (fun L2 r2 hf2 hv2 hs2 hb2 => h L2 r2 (FrL.tr hf hf2 rfl rfl) hv2 hs2 hb2)
  exact this
/-- the other side's pass, by what the class sees -/
theorem c_229w {w r : Wv} (hr : RvAt L r) (hs : Sc w r) (hB : WB 32845824 w) (hG : Good w) {s p q : Int} (hs4 : 0 ≤ s ∧ s ≤ 4) (ht : isT p q)
    (h : ∀ L' r', FrL [(58, 10, 4)] L L' → RvAt L' r' → Sc (wPass s p q w) r' → Q (.inl none) (gE Lx) I L' e) :
    Wp 229 0 [(0, .ref 58), (1, .int (Int32.ofInt s)), (2, .long (Int64.ofInt p)), (4, .long (Int64.ofInt q))] [] (gE Lx) I L e Q :=
  c_229 (P := 12) (B := 32845824) hr (hs.wb hB) hs4 ht.b.1 ht.b.2 (by decide) (by decide) (by decide) (by decide) (hG.sc hs) ht.q1 (fun L' r' hf hv hs' _ => h L' r' hf hv ((hs.pass s p q).tr hs'))
end
