/-! Chains in the heap; what is seen at a MARK, on both sides. -/
abbrev Ch : Type := Int × Int × Int × Nat × (Nat → Int × Int × Int)
def ChAt (I : Mi) (c : Nat) (ch : Ch) : Prop := I c 0 = .ofInt ch.1 ∧ I c 1 = .ofInt ch.2.1 ∧ I c 2 = .ofInt ch.2.2.1 ∧ I c 3 = .ofInt (ch.2.2.2.1 : Int) ∧
  ∀ k, k < ch.2.2.2.1 → I (c + 1) k = .ofInt (ch.2.2.2.2 k).1 ∧ I (c + 2) k = .ofInt (ch.2.2.2.2 k).2.1 ∧ I (c + 3) k = .ofInt (ch.2.2.2.2 k).2.2
def BnAt (I : Mi) (b o : Nat) (ch : Ch) : Prop := I b o = .ofInt ch.1 ∧ I b (o + 1) = .ofInt ch.2.1 ∧ I b (o + 2) = .ofInt ch.2.2.1 ∧ I b (o + 3) = .ofInt (ch.2.2.2.1 : Int) ∧
  ∀ k, k < ch.2.2.2.1 → I b (o + (4 + 3 * k)) = .ofInt (ch.2.2.2.2 k).1 ∧ I b (o + (5 + 3 * k)) = .ofInt (ch.2.2.2.2 k).2.1 ∧ I b (o + (6 + 3 * k)) = .ofInt (ch.2.2.2.2 k).2.2
def ElOk (x : Int × Int × Int) : Prop := (0 ≤ x.1 ∧ x.1 ≤ 4) ∧ isT x.2.1 x.2.2
def ChOk (ch : Ch) : Prop := (0 ≤ ch.1 ∧ ch.1 ≤ 99) ∧ (-99 ≤ ch.2.1 ∧ ch.2.1 ≤ 99) ∧ (1 ≤ ch.2.2.1 ∧ ch.2.2.1 ≤ 20) ∧ ch.2.2.2.1 ≤ 4 ∧ ∀ k, k < ch.2.2.2.1 → ElOk (ch.2.2.2.2 k)
theorem isT.nz {p q : Int} (h : isT p q) : ¬ (p = 0 ∧ q = 0) := fun k => by
  have := h.2.2.1
  rw [k.1, k.2] at this
  cases this
theorem isT.q1 {p q : Int} (h : isT p q) : p = 0 → q = 1 := fun k => by
  have h1 := h.2.2.1
  rw [k] at h1
  have : gI 0 q = q.natAbs := by unfold gI; rw [Int.gcd_zero_left]
  have := h.2.1
  omega
def wBeg (ch : Ch) : Wv := (ch.1, ch.2.1, ch.2.2.1, 0)
def wSeen (ch : Ch) : Nat → Wv
  | 0 => wBeg ch
  | k + 1 => wPass (ch.2.2.2.2 k).1 (ch.2.2.2.2 k).2.1 (ch.2.2.2.2 k).2.2 (wSeen ch k)
theorem wSeen_b {ch : Ch} (h : ChOk ch) : ∀ k, k ≤ ch.2.2.2.1 → WB (99 * 24 ^ k) (wSeen ch k) := by
  obtain ⟨h1, h2, h3, h4, h5⟩ := h
  intro k
  induction k with
  | zero => intro _; unfold WB wSeen wBeg; dsimp only; omega
  | succ k ih =>
    intro hk
    have h6 := h5 k (by omega)
    have := (ih (by omega)).pass (s := (ch.2.2.2.2 k).1) (P := 12) h6.2.1 (show -12 ≤ (ch.2.2.2.2 k).2.2 ∧ (ch.2.2.2.2 k).2.2 ≤ 12 by have := h6.2.2.1; omega) (by omega)
    refine this.le ?_
    rw [Int.pow_succ]
    omega
theorem wSeen_B {ch : Ch} (h : ChOk ch) {k : Nat} (hk : k ≤ ch.2.2.2.1) : WB 32845824 (wSeen ch k) := by
  have h4 := h.2.2.2.1
  have hb := wSeen_b h k hk
  have : k = 0 ∨ k = 1 ∨ k = 2 ∨ k = 3 ∨ k = 4 := by omega
  rcases this with rfl | rfl | rfl | rfl | rfl <;> exact hb.le (by decide)
theorem wSeen_g {ch : Ch} (h : ChOk ch) : ∀ k, k ≤ ch.2.2.2.1 → Good (wSeen ch k) := by
  intro k
  induction k with
  | zero =>
    intro _
    obtain ⟨h1, h2, h3, h4, h5⟩ := h
    refine ⟨?_, fun z => ?_⟩
    · show 0 ≤ ch.1 * ch.2.2.1 + ch.2.1 * 0
      have := Int.mul_nonneg h1.1 (show 0 ≤ ch.2.2.1 by omega)
      omega
    · have : ch.2.2.1 = 0 := z.2.2.1
      omega
  | succ k ih =>
    intro hk
    exact (ih (by omega)).pass (h.2.2.2.2 k (by omega)).2.nz
def WvAt (L : Ml) (w : Nat) (x : Wv) : Prop := L w 0 = .ofInt x.1 ∧ L w 1 = .ofInt x.2.1 ∧ L w 2 = .ofInt x.2.2.1 ∧ L w 3 = .ofInt x.2.2.2
def RvAt (L : Ml) (x : Wv) : Prop := L 58 10 = .ofInt x.1 ∧ L 58 11 = .ofInt x.2.1 ∧ L 58 12 = .ofInt x.2.2.1 ∧ L 58 13 = .ofInt x.2.2.2
theorem WvAt.cg {L L' : Ml} {w : Nat} {x : Wv} (h : WvAt L w x) (e : L' w = L w) : WvAt L' w x := by unfold WvAt; rw [e]; exact h
theorem ChAt.cg {I I' : Mi} {c : Nat} {x : Ch} (h : ChAt I c x) (e0 : I' c = I c) (e1 : I' (c + 1) = I (c + 1)) (e2 : I' (c + 2) = I (c + 2)) (e3 : I' (c + 3) = I (c + 3)) : ChAt I' c x := by unfold ChAt; rw [e0, e1, e2, e3]; exact h
theorem BnAt.cg {I I' : Mi} {b o : Nat} {x : Ch} (h : BnAt I b o x) (e : I' b = I b) : BnAt I' b o x := by unfold BnAt; rw [e]; exact h
section
variable {Lx : Nat} {I : Mi} {L : Ml} {e : Nat} {Q : Kq}
theorem c_12 {c : Nat} (hc : c = 5 ∨ c = 9) {k : Nat} (hk : k < 4) (h : Q (.inl (some (.int (I (c + 1) k)))) (gE Lx) I L e) : Wp 12 0 [(0, .ref c), (1, .int (Int32.ofInt k))] [] (gE Lx) I L e Q := by
  rcases hc with rfl | rfl
  all_goals
    first | refine s_12_0_5 ?_ | refine s_12_0_9 ?_
    rw [tncn (by omega)]
    exact i_ltz (by omega) (fun _ => by omega) (fun _ => i_lt32 (by omega) (by omega) (fun _ => i_inb (by omega) hk h) (fun _ => by omega))
theorem c_14 {c : Nat} (hc : c = 5 ∨ c = 9) {k : Nat} (hk : k < 4) (h : Q (.inl (some (.int (I (c + 2) k)))) (gE Lx) I L e) : Wp 14 0 [(0, .ref c), (1, .int (Int32.ofInt k))] [] (gE Lx) I L e Q := by
  rcases hc with rfl | rfl
  all_goals
    first | refine s_14_0_5 ?_ | refine s_14_0_9 ?_
    rw [tncn (by omega)]
    exact i_ltz (by omega) (fun _ => by omega) (fun _ => i_lt32 (by omega) (by omega) (fun _ => i_inb (by omega) hk h) (fun _ => by omega))
theorem c_15 {c : Nat} (hc : c = 5 ∨ c = 9) {k : Nat} (hk : k < 4) (h : Q (.inl (some (.int (I (c + 3) k)))) (gE Lx) I L e) : Wp 15 0 [(0, .ref c), (1, .int (Int32.ofInt k))] [] (gE Lx) I L e Q := by
  rcases hc with rfl | rfl
  all_goals
    first | refine s_15_0_5 ?_ | refine s_15_0_9 ?_
    rw [tncn (by omega)]
    exact i_ltz (by omega) (fun _ => by omega) (fun _ => i_lt32 (by omega) (by omega) (fun _ => i_inb (by omega) hk h) (fun _ => by omega))
theorem fr4 {w : Nat} {i j k l : Nat} {x y z u : Int64} (hi : inS [(w, 0, 4)] w i = true) (hj : inS [(w, 0, 4)] w j = true) (hk : inS [(w, 0, 4)] w k = true) (hl : inS [(w, 0, 4)] w l = true) : FrL [(w, 0, 4)] L (ul (ul (ul (ul L w i x) w j y) w k z) w l u) := FrL.wu (FrL.wu (FrL.wu (FrL.wu FrL.rf hi) hj) hk) hl
set_option maxHeartbeats 4000000 in
theorem c_76 {w : Nat} (hw : w = 14 ∨ w = 15 ∨ w = 16) {x : Wv} (hx : WvAt L w x) {p q : Int} (h : ∀ L', FrL [(w, 0, 4)] L L' → WvAt L' w (wLine p q x) → Q (.inl none) (gE Lx) I L' e) : Wp 76 0 [(0, .ref w), (1, .long (Int64.ofInt p)), (3, .long (Int64.ofInt q))] [] (gE Lx) I L e Q := by
  obtain ⟨h0, h1, h2, h3⟩ := hx
  rcases hw with rfl | rfl | rfl
  all_goals
    first | refine s_76_0_14 ?_ | refine s_76_0_15 ?_ | refine s_76_0_16 ?_
    simp only [h0, h1, h2, h3, mul64, add64, sub64]
    exact h _ (fr4 rfl rfl rfl rfl) ⟨rfl, rfl, rfl, rfl⟩
set_option maxHeartbeats 4000000 in
theorem c_75 {w : Nat} (hw : w = 14 ∨ w = 15 ∨ w = 16) {x : Wv} (hx : WvAt L w x) (hb : WB 4611686018427387904 x) {s p q : Int} (hs : R32 s) (h : ∀ L', FrL [(w, 0, 4)] L L' → WvAt L' w (wPass s p q x) → Q (.inl none) (gE Lx) I L' e) : Wp 75 0 [(0, .ref w), (1, .int (Int32.ofInt s)), (2, .long (Int64.ofInt p)), (4, .long (Int64.ofInt q))] [] (gE Lx) I L e Q := by
  obtain ⟨h0, h1, h2, h3⟩ := hx
  obtain ⟨b0, b1, b2, b3⟩ := hb
  have key : ∀ a b c d : Int, wPass s p q x = (a, b, c, d) → ∀ L', FrL [(w, 0, 4)] L L' → L' w 0 = .ofInt a → L' w 1 = .ofInt b → L' w 2 = .ofInt c → L' w 3 = .ofInt d → Q (.inl none) (gE Lx) I L' e := by
    intro a b c d he L' hf k0 k1 k2 k3
    refine h L' hf ?_
    rw [he]
    exact ⟨k0, k1, k2, k3⟩
  have same : wPass s p q x = x → Q (.inl none) (gE Lx) I L e := fun he => h L FrL.rf (by rw [he]; exact ⟨h0, h1, h2, h3⟩)
  rcases hw with rfl | rfl | rfl
  all_goals
    first | refine s_75_0_14 ?_ | refine s_75_0_15 ?_ | refine s_75_0_16 ?_
    simp only [h0, h1, h2, h3, mul64, add64, sub64, neg64]
    refine i_eq32 hs (by omega) (fun k => c_76 (by simp) ⟨h0, h1, h2, h3⟩ (fun L' hf hW => kcp_v rfl (by
      first | refine s_75_39_14 ?_ | refine s_75_39_15 ?_ | refine s_75_39_16 ?_
      exact h L' hf (by rw [wPass, if_pos k]; exact hW)))) (fun k0 => i_eq32 hs (by omega) (fun k => i_eq64 (by omega) (by omega) (fun z1 => i_eq64 (by omega) (by omega) (fun z2 => same ?_) (fun z2 => key _ _ _ _ ?_ _ (fr4 rfl rfl rfl rfl) rfl rfl rfl rfl)) (fun z1 => key _ _ _ _ ?_ _ (fr4 rfl rfl rfl rfl) rfl rfl rfl rfl))
      (fun k1 => i_eq32 hs (by omega) (fun k => i_eq64 (by omega) (by omega) (fun z1 => i_eq64 (by omega) (by omega) (fun z2 => same ?_) (fun z2 => key _ _ _ _ ?_ _ (fr4 rfl rfl rfl rfl) rfl rfl rfl rfl)) (fun z1 => key _ _ _ _ ?_ _ (fr4 rfl rfl rfl rfl) rfl rfl rfl rfl))
      (fun k2 => i_eq32 hs (by omega) (fun k => i_eq64 (by omega) (by omega) (fun z1 => i_eq64 (by omega) (by omega) (fun z2 => same ?_) (fun z2 => key _ _ _ _ ?_ _ (fr4 rfl rfl rfl rfl) rfl rfl rfl rfl)) (fun z1 => key _ _ _ _ ?_ _ (fr4 rfl rfl rfl rfl) rfl rfl rfl rfl))
      (fun k3 => i_eq64 (by omega) (by omega) (fun z1 => i_eq64 (by omega) (by omega) (fun z2 => same ?_) (fun z2 => key _ _ _ _ ?_ _ (fr4 rfl rfl rfl rfl) rfl rfl rfl rfl)) (fun z1 => key _ _ _ _ ?_ _ (fr4 rfl rfl rfl rfl) rfl rfl rfl rfl)))))
    all_goals (unfold wPass; simp only [*, wLine, wAc, wAl, if_true, if_false, and_self, and_true, true_and, false_and, and_false, reduceIte, Int.reduceEq]; try rfl)
end
