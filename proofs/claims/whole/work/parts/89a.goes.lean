/-! What the other side sees. -/
def tAc (u v : Int) (w : Wv) : Wv := (v * w.1, v * w.2.1, v * w.2.2.1 - u * w.2.1, v * w.2.2.2 + u * w.1)
def tAl (u v : Int) (w : Wv) : Wv := (v * w.1 - u * w.2.2.2, v * w.2.1 + u * w.2.2.1, v * w.2.2.1, v * w.2.2.2)
section
variable {Lx : Nat} {I : Mi} {L : Ml} {e : Nat} {Q : Kq}
set_option maxHeartbeats 4000000 in
theorem c_229 {r : Wv} {P B : Int} (hr : RvAt L r) (hB : WB B r) {s p q : Int} (hs : 0 ≤ s ∧ s ≤ 4) (hp : -P ≤ p ∧ p ≤ P) (hq : -P ≤ q ∧ q ≤ P) (hP : 1 ≤ P) (hPB : P * B + P * B ≤ 9223372036854775807) (hPP : P ≤ 9223372036854775807) (hBB : B ≤ 9223372036854775807) (hg : Good r) (hpq : p = 0 → q = 1)
    (h : ∀ L' r', FrL [(58, 10, 4)] L L' → RvAt L' r' → Sc (wPass s p q r) r' → WB (P * B + P * B) r' → Q (.inl none) (gE Lx) I L' e) :
    Wp 229 0 [(0, .ref 58), (1, .int (Int32.ofInt s)), (2, .long (Int64.ofInt p)), (4, .long (Int64.ofInt q))] [] (gE Lx) I L e Q := by
  obtain ⟨h0, h1, h2, h3⟩ := id hr
  obtain ⟨b0, b1, b2, b3⟩ := id hB
  have hnz : ¬ (p = 0 ∧ q = 0) := fun k => by have := hpq k.1; omega
  have hsc := rPass_sc hs hpq r
  have hwb := hB.rpass (s := s) hp hq hP
  have hgd : Good (rPass s p q r) := (hg.pass (s := s) hnz).sc hsc
  have fin : ∀ x : Wv, rPass s p q r = x → ∀ L', FrL [(58, 10, 4)] L L' → RvAt L' (nW x) → Q (.inl none) (gE Lx) I L' e := fun x hx L' hf hv => by
    subst hx
    exact h L' _ hf hv (hsc.tr (nW_sc hgd.2)) (nW_B hgd.2 hwb)
  have same : rPass s p q r = r → Q (.inl none) (gE Lx) I L e := fun hx => by
    rw [hx] at hsc hwb
    exact h L r FrL.rf hr hsc hwb
  have arg : ∀ x : Wv, rPass s p q r = x → WB 9223372036854775807 x ∧ ¬ (x.1 = 0 ∧ x.2.1 = 0 ∧ x.2.2.1 = 0 ∧ x.2.2.2 = 0) := fun x hx => by
    subst hx
    exact ⟨hwb.le hPB, hgd.2⟩
  refine s_229_0 ?_
  simp only [h0, h1, h2, h3, mul64, add64, sub64]
  refine i_eqz (by omega) (fun k => ?_) (fun k => ?_)
  · have he : rPass s p q r = wLine p q r := by rw [rPass, if_pos k]
    obtain ⟨a1, a2⟩ := arg _ he
    exact c_228 (x := wLine p q r) a1 a2 (fun L' hf hv => kcp_v rfl (s_229_72 (fin _ he L' hf hv)))
  · refine c_230 (by omega) (by omega) (kcp_v rfl (s_229_80 (c_232 (by omega) (by omega) (kcp_v rfl (s_229_89 ?_)))))
    simp only [mul64, add64, sub64]
    have hac : s = 1 ∨ s = 2 → ¬ (r.1 = 0 ∧ r.2.1 = 0) → rPass s p q r = tAc (rUp s p q) (rLo s p q) r := fun z1 z2 => by
      rw [rPass, if_neg k, if_pos z1, wAc, if_neg z2]; rfl
    have hac0 : s = 1 ∨ s = 2 → r.1 = 0 → r.2.1 = 0 → rPass s p q r = r := fun z1 z2 z3 => by
      rw [rPass, if_neg k, if_pos z1, wAc, if_pos ⟨z2, z3⟩]
    have hal : ¬ (s = 1 ∨ s = 2) → ¬ (r.2.2.1 = 0 ∧ r.2.2.2 = 0) → rPass s p q r = tAl (rUp s p q) (rLo s p q) r := fun z1 z2 => by
      rw [rPass, if_neg k, if_neg z1, wAl, if_neg z2]; rfl
    have hal0 : ¬ (s = 1 ∨ s = 2) → r.2.2.1 = 0 → r.2.2.2 = 0 → rPass s p q r = r := fun z1 z2 z3 => by
      rw [rPass, if_neg k, if_neg z1, wAl, if_pos ⟨z2, z3⟩]
    have ac : s = 1 ∨ s = 2 → ¬ (r.1 = 0 ∧ r.2.1 = 0) → Wp 228 0 [(0, .ref 58), (1, .long (Int64.ofInt (rLo s p q * r.1))), (3, .long (Int64.ofInt (rLo s p q * r.2.1))), (5, .long (Int64.ofInt (rLo s p q * r.2.2.1 - rUp s p q * r.2.1))), (7, .long (Int64.ofInt (rLo s p q * r.2.2.2 + rUp s p q * r.1)))] [] (gE Lx) I L e (kcp (Wp 229) 229 146 0 [(0, .ref 58)] 71 [] Q) := fun z1 z2 => by
      obtain ⟨a1, a2⟩ := arg _ (hac z1 z2)
      exact c_228 (x := tAc (rUp s p q) (rLo s p q) r) a1 a2 (fun L' hf hv => kcp_v rfl (s_229_149 (s_229_203 (fin _ (hac z1 z2) L' hf hv))))
    have al : ¬ (s = 1 ∨ s = 2) → ¬ (r.2.2.1 = 0 ∧ r.2.2.2 = 0) → Wp 228 0 [(0, .ref 58), (1, .long (Int64.ofInt (rLo s p q * r.1 - rUp s p q * r.2.2.2))), (3, .long (Int64.ofInt (rLo s p q * r.2.1 + rUp s p q * r.2.2.1))), (5, .long (Int64.ofInt (rLo s p q * r.2.2.1))), (7, .long (Int64.ofInt (rLo s p q * r.2.2.2)))] [] (gE Lx) I L e (kcp (Wp 229) 229 200 0 [(0, .ref 58)] 71 [] Q) := fun z1 z2 => by
      obtain ⟨a1, a2⟩ := arg _ (hal z1 z2)
      exact c_228 (x := tAl (rUp s p q) (rLo s p q) r) a1 a2 (fun L' hf hv => kcp_v rfl (s_229_203 (fin _ (hal z1 z2) L' hf hv)))
    refine i_eq32 (by omega) (by omega) (fun k1 => i_eq64 (by omega) (by omega) (fun z1 => i_eq64 (by omega) (by omega) (fun z2 => same (hac0 (Or.inl k1) z1 z2)) (fun z2 => ac (Or.inl k1) (fun z => z2 z.2))) (fun z1 => ac (Or.inl k1) (fun z => z1 z.1)))
      (fun k1 => i_eq32 (by omega) (by omega) (fun k2 => i_eq64 (by omega) (by omega) (fun z1 => i_eq64 (by omega) (by omega) (fun z2 => same (hac0 (Or.inr k2) z1 z2)) (fun z2 => ac (Or.inr k2) (fun z => z2 z.2))) (fun z1 => ac (Or.inr k2) (fun z => z1 z.1)))
      (fun k2 => i_eq64 (by omega) (by omega) (fun z1 => i_eq64 (by omega) (by omega) (fun z2 => same (hal0 (by omega) z1 z2)) (fun z2 => al (by omega) (fun z => z2 z.2))) (fun z1 => al (by omega) (fun z => z1 z.1))))
theorem bn_i {ch : Ch} {k : Nat} (j : Nat) : (Int32.ofInt j + Int32.ofInt 3 * Int32.ofInt (k : Int)) = Int32.ofInt ((j + 3 * k : Nat) : Int) := by
  rw [mul32, add32]
  congr 1
theorem c_220 {ch : Ch} (hc : BnAt I 59 0 ch) {k : Nat} (hk : k < ch.2.2.2.1) (h4 : ch.2.2.2.1 ≤ 4) (h : Q (.inl (some (.int (Int32.ofInt (ch.2.2.2.2 k).1)))) (gE Lx) I L e) : Wp 220 0 [(0, .ref 58), (1, .int (Int32.ofInt k))] [] (gE Lx) I L e Q := by
  refine s_220_0 ?_
  have e1 := (hc.2.2.2.2 k hk).1
  rw [Nat.zero_add] at e1
  rw [show (Int32.ofInt 4 + Int32.ofInt 3 * Int32.ofInt (k : Int)) = Int32.ofInt ((4 + 3 * k : Nat) : Int) from bn_i (ch := ch) 4, tncn (by omega), e1]
  exact i_inb (by omega) (by omega) h
theorem c_223 {ch : Ch} (hc : BnAt I 59 0 ch) {k : Nat} (hk : k < ch.2.2.2.1) (h4 : ch.2.2.2.1 ≤ 4) (h : Q (.inl (some (.int (Int32.ofInt (ch.2.2.2.2 k).2.1)))) (gE Lx) I L e) : Wp 223 0 [(0, .ref 58), (1, .int (Int32.ofInt k))] [] (gE Lx) I L e Q := by
  refine s_223_0 ?_
  have e1 := (hc.2.2.2.2 k hk).2.1
  rw [Nat.zero_add] at e1
  rw [show (Int32.ofInt 5 + Int32.ofInt 3 * Int32.ofInt (k : Int)) = Int32.ofInt ((5 + 3 * k : Nat) : Int) from bn_i (ch := ch) 5, tncn (by omega), e1]
  exact i_inb (by omega) (by omega) h
theorem c_224 {ch : Ch} (hc : BnAt I 59 0 ch) {k : Nat} (hk : k < ch.2.2.2.1) (h4 : ch.2.2.2.1 ≤ 4) (h : Q (.inl (some (.int (Int32.ofInt (ch.2.2.2.2 k).2.2)))) (gE Lx) I L e) : Wp 224 0 [(0, .ref 58), (1, .int (Int32.ofInt k))] [] (gE Lx) I L e Q := by
  refine s_224_0 ?_
  have e1 := (hc.2.2.2.2 k hk).2.2
  rw [Nat.zero_add] at e1
  rw [show (Int32.ofInt 6 + Int32.ofInt 3 * Int32.ofInt (k : Int)) = Int32.ofInt ((6 + 3 * k : Nat) : Int) from bn_i (ch := ch) 6, tncn (by omega), e1]
  exact i_inb (by omega) (by omega) h
theorem isT.b {p q : Int} (h : isT p q) : (-12 ≤ p ∧ p ≤ 12) ∧ (-12 ≤ q ∧ q ≤ 12) := by have := h.1; have := h.2.1; omega
theorem l_227 {ch : Ch} (hok : ChOk ch) (hc : BnAt I 59 0 ch) {m : Nat} (hm : m ≤ ch.2.2.2.1) : ∀ (n k : Nat), k + n = m → ∀ (L : Ml) (r : Wv), RvAt L r → Sc (wSeen ch k) r → WB (99 * 24 ^ k) r → (∀ L' r', FrL [(58, 10, 4)] L L' → RvAt L' r' → Sc (wSeen ch m) r' → WB 32845824 r' → Q (.inl none) (gE Lx) I L' e) →
    Wp 227 28 [(0, .ref 58), (1, .int (Int32.ofInt m)), (2, .int (Int32.ofInt k))] [] (gE Lx) I L e Q := by
  have h4 := hok.2.2.2.1
  have hpow : ∀ k : Nat, k ≤ 4 → (99 : Int) * 24 ^ k ≤ 32845824 := fun k hk => by
    have : k = 0 ∨ k = 1 ∨ k = 2 ∨ k = 3 ∨ k = 4 := by omega
    rcases this with rfl | rfl | rfl | rfl | rfl <;> decide
  intro n
  induction n with
  | zero =>
    intro k hk L r hL hs hb h
    have hkm : k = m := by omega
    subst hkm
    exact s_227_28 (i_lt32 (by omega) (by omega) (fun _ => by omega) (fun _ => h L r FrL.rf hL hs (hb.le (hpow k (by omega)))))
  | succ n ih =>
    intro k hk L r hL hs hb h
    have hel := hok.2.2.2.2 k (by omega)
    obtain ⟨r1, r2, r3⟩ := el_r hel
    have hB := hb.le (hpow k (by omega))
    have hg : Good r := (wSeen_g hok k (by omega)).sc hs
    refine s_227_28 (i_lt32 (by omega) (by omega) (fun _ => ?_) (fun _ => by omega))
    refine c_220 hc (by omega) h4 (kcp_v rfl (s_227_39 (c_223 hc (by omega) h4 (kcp_v rfl (s_227_44 (c_224 hc (by omega) h4 (kcp_v rfl (s_227_50 ?_))))))))
    rw [i2l r2, i2l r3]
    refine c_229 (P := 12) hL hb hel.1 hel.2.b.1 hel.2.b.2 (by decide) (by have := hpow k (by omega); omega) (by decide) (by have := hpow k (by omega); omega) hg hel.2.q1 (fun L' r' hf hv hs' hb' => kcp_v rfl (s_227_54 ?_))
    rw [add32]
    have := ih (k + 1) (by omega) L' r' hv ((hs.pass _ _ _).tr hs') (hb'.le (by rw [Int.pow_succ]; omega)) (fun L2 r2 hf2 hv2 hs2 hb2 => h L2 r2 (FrL.tr hf hf2 rfl rfl) hv2 hs2 hb2)
    exact this
theorem c_227 {ch : Ch} (hok : ChOk ch) (hc : BnAt I 59 0 ch) {m : Nat} (hm : m ≤ ch.2.2.2.1) (h : ∀ L' r', FrL [(58, 10, 4)] L L' → RvAt L' r' → Sc (wSeen ch m) r' → WB 32845824 r' → Q (.inl none) (gE Lx) I L' e) :
    Wp 227 0 [(0, .ref 58), (1, .int (Int32.ofInt m))] [] (gE Lx) I L e Q := by
  obtain ⟨h1, h2, h3, h4, -⟩ := id hc
  have b1 := hok.1; have b2 := hok.2.1; have b3 := hok.2.2.1
  have h1 : I 59 0 = Int32.ofInt ch.1 := h1
  have h2 : I 59 1 = Int32.ofInt ch.2.1 := h2
  have h3 : I 59 2 = Int32.ofInt ch.2.2.1 := h3
  refine s_227_0 ?_
  rw [h1, h2, h3, i2l (by omega), i2l (by omega), i2l (by omega)]
  have hz : ¬ ((wBeg ch).1 = 0 ∧ (wBeg ch).2.1 = 0 ∧ (wBeg ch).2.2.1 = 0 ∧ (wBeg ch).2.2.2 = 0) := (wSeen_g hok 0 (by omega)).2
  have hb : WB 99 (wBeg ch) := by unfold WB wBeg; dsimp only; omega
  refine c_228 (x := wBeg ch) (hb.le (by decide)) hz (fun L' hf hv => kcp_v rfl (s_227_26 ?_))
  have := l_227 (Lx := Lx) (e := e) (Q := Q) hok hc hm m 0 (by omega) L' (nW (wBeg ch)) hv (nW_sc hz) (by rw [Int.pow_zero]; exact nW_B hz hb) (fun L2 r2 hf2 hv2 hs2 hb2 => h L2 r2 (FrL.tr hf hf2 rfl rfl) hv2 hs2 hb2)
  exact this
end
