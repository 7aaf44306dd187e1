/-! circle: both sides. -/
def lnW (z : Pt) (k : Nat) : Wv := wLine (tgU k) (tgL k) (wZ z)
theorem lnW_g {z : Pt} (ho : PtOk z) {k : Nat} (hk : k < 184) : Good (lnW z k) ∧ WB 24000 (lnW z k) := ⟨(wZ_g ho).line (tg_t hk).nz, ((wZ_B ho).line (tg_b hk).1 (tg_b hk).2).le (by decide)⟩
def cirP (al n u v : Int) (z : Pt) (k : Nat) : Prop := sml n k ∧ 0 < und al (lnW z k) ∧ und al (lnW z k) * u ≤ wRe (lnW z k) * v
noncomputable def spCir (ch : Ch) (m al n u v : Int) : Nat × Int := if m < 0 ∨ (ch.2.2.2.1 : Int) < m then (1, 0) else iP ((1 ≤ n ∧ n ≤ 12) ∧ (0 ≤ u ∧ u ≤ 99) ∧ (1 ≤ v ∧ v ≤ 20)) (iP (gdP al (wSeen ch m.toNat)) (0, cnF (cirP al n u v (pt (wSeen ch m.toNat))) 184 0) (3, 0)) (2, 0)
section
variable {Lx : Nat} {I : Mi} {L : Ml} {e : Nat} {Q : Kq}
set_option maxHeartbeats 4000000 in
theorem l_189 (hT : TabAt I) {al n u v : Int} (hal : R32 al) (hn : 1 ≤ n ∧ n ≤ 12) (hu : 0 ≤ u ∧ u ≤ 99) (hv : 1 ≤ v ∧ v ≤ 20) {z : Pt} (ho : PtOk z) : ∀ (s k : Nat) (c : Int), k + s = 184 → (0 ≤ c ∧ c ≤ k) → ∀ L : Ml, WvAt L 15 (wZ z) →
    (∀ L', Q (.inl (some (.int (Int32.ofInt (c + cnF (cirP al n u v z) s k))))) (gE Lx) I L' e) →
    Wp 189 14 [(0, .ref 1), (1, .int (Int32.ofInt al)), (2, .int (Int32.ofInt n)), (3, .int (Int32.ofInt u)), (4, .int (Int32.ofInt v)), (5, .int (Int32.ofInt c)), (6, .int (Int32.ofInt k))] [] (gE Lx) I L e Q := by
  intro s
  induction s with
  | zero =>
    intro k c hk hc L hW h
    refine s_189_14 (i_lt32 (by omega) (by omega) (fun _ => by omega) (fun _ => ?_))
    have := h L
    rw [show c + cnF (cirP al n u v z) 0 k = c from Int.add_zero c] at this
    exact this
  | succ s ih =>
    intro k c hk hc L hW h
    have hk2 : k < 184 := by omega
    have tb := tg_b hk2
    refine s_189_14 (i_lt32 (by omega) (by omega) (fun _ => ?_) (fun _ => by omega))
    refine c_69 hT hk2 (kcp_v rfl (s_189_46 (c_70 hT hk2 (kcp_v rfl (s_189_56 ?_)))))
    rw [i2l (by omega), i2l (by omega)]
    refine c_76 (x := wZ z) (Or.inr (Or.inr rfl)) ⟨hW.1, hW.2.1, hW.2.2.1, hW.2.2.2⟩ (fun L2 hf2 hW2 => kcp_v rfl (s_189_60 ?_))
    have hf3 := FrL.tr (S := [(16, 0, 4)]) (fr4 rfl rfl rfl rfl) hf2 rfl rfl
    have hW3 : WvAt L2 15 (wZ z) := hW.cg (hf3.at rfl)
    have hW2 : WvAt L2 16 (lnW z k) := hW2
    obtain ⟨g, b⟩ := lnW_g ho hk2
    have b := b.le (show (24000 : Int) ≤ 32845824 by decide)
    have ub := und_b (al := al) b
    obtain ⟨v1, v2, v3, v4, v5, v6⟩ := wv_b b
    have rn := g.1
    have no : ¬ cirP al n u v z k → Wp 189 14 [(0, .ref 1), (1, .int (Int32.ofInt al)), (2, .int (Int32.ofInt n)), (3, .int (Int32.ofInt u)), (4, .int (Int32.ofInt v)), (5, .int (Int32.ofInt c)), (6, .int (Int32.ofInt (k : Int) + Int32.ofInt 1))] [] (gE Lx) I L2 e Q := by
      intro q
      rw [add32]
      have := ih (k + 1) c (by omega) (by omega) L2 hW3 (fun L4 => by
        have h2 := h L4
        have e1 : cnF (cirP al n u v z) (s + 1) k = cnF (cirP al n u v z) s (k + 1) := by
          show iP (cirP al n u v z k) 1 0 + cnF (cirP al n u v z) s (k + 1) = _
          rw [iP_f q, Int.zero_add]
        rw [e1] at h2
        exact h2)
      exact this
    have yes : cirP al n u v z k → Wp 189 14 [(0, .ref 1), (1, .int (Int32.ofInt al)), (2, .int (Int32.ofInt n)), (3, .int (Int32.ofInt u)), (4, .int (Int32.ofInt v)), (5, .int (Int32.ofInt c + Int32.ofInt 1)), (6, .int (Int32.ofInt (k : Int) + Int32.ofInt 1))] [] (gE Lx) I L2 e Q := by
      intro q
      rw [add32, add32]
      have := ih (k + 1) (c + 1) (by omega) (by omega) L2 hW3 (fun L4 => by
        have h2 := h L4
        have e1 : cnF (cirP al n u v z) (s + 1) k = 1 + cnF (cirP al n u v z) s (k + 1) := by
          show iP (cirP al n u v z k) 1 0 + cnF (cirP al n u v z) s (k + 1) = _
          rw [iP_t q]
        rw [e1, ← Int.add_assoc] at h2
        exact h2)
      exact this
    obtain ⟨w0, w1, w2, w3⟩ := hW2
    unfold cirP at no yes
    generalize lnW z k = w at *
    simp only [w0, w1, w2, w3, mul64, add64]
    have go : ∀ d : Int, und al w = d → Wp 71 0 [(0, .ref 2), (1, .int (Int32.ofInt (k : Int))), (2, .int (Int32.ofInt n))] [] (gE Lx) I L2 e (kcp (Wp 189) 189 77 0 [(0, .ref 1), (1, .int (Int32.ofInt al)), (2, .int (Int32.ofInt n)), (3, .int (Int32.ofInt u)), (4, .int (Int32.ofInt v)), (5, .int (Int32.ofInt c)), (6, .int (Int32.ofInt (k : Int))), (7, .long (Int64.ofInt d))] 71 [] Q) := by
      intro d hd
      rw [hd] at no yes ub
      refine c_71 hT hk2 hn (fun qs => kcp_v rfl (s_189_80 (j_1 ?_))) (fun qs => kcp_v rfl (s_189_80 (j_0 (no (fun q => qs q.1)))))
      simp only [w0, w1, w2, w3, mul64, add64]
      rw [i2l (by omega), i2l (by omega)]
      refine i_lt64 (by omega) (by omega) (fun k1 => ?_) (fun k1 => no (fun q => by omega))
      refine c_23 (a := wRe w) (by omega) (by omega) (by omega) (by omega) (fun q => by omega) (fun q => by omega) (kcp_v rfl (s_189_107 ?_))
      rcases Int.lt_trichotomy (wRe w * v - u * d) 0 with q | q | q
      · rw [sg_n q]
        exact i_ltz (by omega) (fun _ => no (fun q2 => by have := q2.2.2; rw [Int.mul_comm d u] at this; omega)) (fun q2 => by omega)
      · rw [sg_z q]
        exact i_ltz (by omega) (fun q2 => by omega) (fun _ => yes ⟨qs, k1, by rw [Int.mul_comm d u]; omega⟩)
      · rw [sg_p q]
        exact i_ltz (by omega) (fun q2 => by omega) (fun _ => yes ⟨qs, k1, by rw [Int.mul_comm d u]; omega⟩)
    exact i_eqz hal (fun k0 => go (wUp w) (if_pos k0)) (fun k0 => go (wLo w) (if_neg k0))
theorem c_189 (hT : TabAt I) {al n u v : Int} (hal : R32 al) (hn : 1 ≤ n ∧ n ≤ 12) (hu : 0 ≤ u ∧ u ≤ 99) (hv : 1 ≤ v ∧ v ≤ 20) {z : Pt} (ho : PtOk z) (hp : PtAt L z) (h : ∀ L', Q (.inl (some (.int (Int32.ofInt (cnF (cirP al n u v z) 184 0))))) (gE Lx) I L' e) :
    Wp 189 0 [(0, .ref 1), (1, .int (Int32.ofInt al)), (2, .int (Int32.ofInt n)), (3, .int (Int32.ofInt u)), (4, .int (Int32.ofInt v))] [] (gE Lx) I L e Q := by
  obtain ⟨p0, p1, p2⟩ := hp
  refine s_189_0 ?_
  rw [p0, p1, p2]
  exact l_189 hT hal hn hu hv ho 184 0 0 (by omega) (by omega) _ ⟨rfl, rfl, rfl, rfl⟩ (fun L' => by rw [Int.zero_add]; exact h L')
set_option maxHeartbeats 4000000 in
theorem h_407 {ch : Ch} (hok : ChOk ch) (hc : ChAt I 5 ch) (hT : TabAt I) {m al n u v : Int} (hm : R32 m) (hal : al = 0 ∨ al = 1) (hn : R32 n) (hu : R32 u) (hv : R32 v) (h : CQ Lx I e Q (spCir ch m al n u v).1 (spCir ch m al n u v).2) :
    Wp 407 0 [(0, .ref 1), (1, .int (Int32.ofInt m)), (2, .int (Int32.ofInt al)), (3, .int (Int32.ofInt n)), (4, .int (Int32.ofInt u)), (5, .int (Int32.ofInt v)), (6, .ref 70)] [] (gE Lx) I L e Q := by
  refine s_407_0 ?_
  rw [hc.2.2.2.1]
  unfold spCir at h
  refine mk_pre hm hok.2.2.2.1 (fun hb => ?_) (fun j hj hjn => ?_)
  · rw [if_pos hb] at h
    exact h.mk (c := 1) FrI.rf (by omega) rfl (fun z => by cases z)
  · subst hj
    rw [if_neg (by omega), Int.toNat_natCast] at h
    have two : ¬ ((1 ≤ n ∧ n ≤ 12) ∧ (0 ≤ u ∧ u ≤ 99) ∧ (1 ≤ v ∧ v ≤ 20)) → Q (.inl (some (.int (Int32.ofInt 2)))) (gE Lx) I L (e + 1) := fun q => by
      rw [iP_f q] at h
      exact h.mk (c := 2) FrI.rf (by omega) rfl (fun z => by cases z)
    refine i_lt32 hn (by omega) (fun k => two (by omega)) (fun a1 => i_lt32 (by omega) hn (fun k => two (by omega)) (fun a2 => i_ltz hu (fun k => two (by omega)) (fun a3 => i_lt32 (by omega) hu (fun k => two (by omega)) (fun a4 => i_lt32 hv (by omega) (fun k => two (by omega)) (fun a5 => i_lt32 (by omega) hv (fun k => two (by omega)) (fun a6 => ?_))))))
    rw [iP_t (by omega)] at h
    refine c_148 hok hc hjn (show R32 al by omega) (fun hfi hnn L1 hf1 hp => kcp_v rfl (s_188_51 ?_)) (fun hn2 L1 hf1 => kcp_x rfl (kcp_h rfl ?_))
    · rw [iP_t ⟨hfi, hnn⟩] at h
      have ho := hfi.ok (wSeen_g hok j hjn)
      generalize pt (wSeen ch j) = z at *
      have cb := cnF_b (P := cirP al n u v z) 184 0
      exact c_189 hT (show R32 al by omega) ⟨a1, a2⟩ ⟨a3, a4⟩ ⟨a5, a6⟩ ho hp (fun L2 => kcp_v rfl (s_188_61 (kcp_v rfl (s_407_14 (i_inb0 (by decide) (h.mk (c := 0) FrI.rf (by omega) rfl (fun _ => by rw [o70, i2l (by omega)])))))))
    · rw [iP_f (show ¬ gdP al (wSeen ch j) from hn2)] at h
      exact h.mk (c := 3) FrI.rf (by omega) rfl (fun z => by cases z)
set_option maxHeartbeats 4000000 in
theorem l_305 {L0 : Ml} (hT : TabRt I) {al n u v : Int} (hal : R32 al) (hn : 1 ≤ n ∧ n ≤ 12) (hu : 0 ≤ u ∧ u ≤ 99) (hv : 1 ≤ v ∧ v ≤ 20) {z : Pt} (ho : PtOk z) : ∀ (s k : Nat) (c : Int), k + s = 184 → (0 ≤ c ∧ c ≤ k) → ∀ L : Ml, RpAt L z → L 70 = L0 70 →
    (∀ L', L' 70 = L0 70 → Q (.inl (some (.int (Int32.ofInt (c + cnF (cirP al n u v z) s k))))) (gE Lx) I L' e) →
    Wp 305 73 [(0, .ref 58), (2, .int (Int32.ofInt al)), (3, .int (Int32.ofInt n)), (4, .int (Int32.ofInt u)), (5, .int (Int32.ofInt v)), (6, .int (Int32.ofInt c)), (7, .int (Int32.ofInt k))] [] (gE Lx) I L e Q := by
  have hg := wZ_g ho
  intro s
  induction s with
  | zero =>
    intro k c hk hc L hp hl h
    refine s_305_73 ?_
    rw [hT.1]
    refine i_lt32 (by omega) (by omega) (fun _ => by omega) (fun _ => ?_)
    have := h L hl
    rw [show c + cnF (cirP al n u v z) 0 k = c from Int.add_zero c] at this
    exact this
  | succ s ih =>
    intro k c hk hc L hp hl h
    have hk2 : k < 184 := by omega
    have tb := tg_b hk2
    have no : ¬ cirP al n u v z k → ∀ L2, RpAt L2 z → L2 70 = L0 70 → Wp 305 73 [(0, .ref 58), (2, .int (Int32.ofInt al)), (3, .int (Int32.ofInt n)), (4, .int (Int32.ofInt u)), (5, .int (Int32.ofInt v)), (6, .int (Int32.ofInt c)), (7, .int (Int32.ofInt (k : Int) + Int32.ofInt 1))] [] (gE Lx) I L2 e Q := by
      intro q L2 hp2 hl2
      rw [add32]
      have := ih (k + 1) c (by omega) (by omega) L2 hp2 hl2 (fun L4 hl4 => by
        have h2 := h L4 hl4
        have e1 : cnF (cirP al n u v z) (s + 1) k = cnF (cirP al n u v z) s (k + 1) := by
          show iP (cirP al n u v z k) 1 0 + cnF (cirP al n u v z) s (k + 1) = _
          rw [iP_f q, Int.zero_add]
        rw [e1] at h2
        exact h2)
      exact this
    have yes : cirP al n u v z k → ∀ L2, RpAt L2 z → L2 70 = L0 70 → Wp 305 73 [(0, .ref 58), (2, .int (Int32.ofInt al)), (3, .int (Int32.ofInt n)), (4, .int (Int32.ofInt u)), (5, .int (Int32.ofInt v)), (6, .int (Int32.ofInt (c + 1))), (7, .int (Int32.ofInt (k : Int) + Int32.ofInt 1))] [] (gE Lx) I L2 e Q := by
      intro q L2 hp2 hl2
      rw [add32]
      have := ih (k + 1) (c + 1) (by omega) (by omega) L2 hp2 hl2 (fun L4 hl4 => by
        have h2 := h L4 hl4
        have e1 : cnF (cirP al n u v z) (s + 1) k = 1 + cnF (cirP al n u v z) s (k + 1) := by
          show iP (cirP al n u v z k) 1 0 + cnF (cirP al n u v z) s (k + 1) = _
          rw [iP_t q]
        rw [e1, ← Int.add_assoc] at h2
        exact h2)
      exact this
    refine s_305_73 ?_
    rw [hT.1, tncn (by omega), (hT.2 k hk2).1, (hT.2 k hk2).2, neg32]
    have nsm : ¬ sml n k → Wp 305 73 [(0, .ref 58), (2, .int (Int32.ofInt al)), (3, .int (Int32.ofInt n)), (4, .int (Int32.ofInt u)), (5, .int (Int32.ofInt v)), (6, .int (Int32.ofInt c)), (7, .int (Int32.ofInt (k : Int) + Int32.ofInt 1))] [] (gE Lx) I L e Q := fun q => no (fun w => q w.1) L hp hl
    unfold sml at nsm
    refine i_lt32 (by omega) (by omega) (fun _ => i_inb (by omega) hk2 (i_lt32 (by omega) (by omega) (fun q => nsm (by omega)) (fun q1 => i_lt32 (by omega) (by omega) (fun q => nsm (by omega)) (fun q2 => i_inb (by omega) hk2 (i_lt32 (by omega) (by omega) (fun q => nsm (by omega)) (fun q3 => ?_)))))) (fun _ => by omega)
    have hsm : sml n k := ⟨⟨q1, q2⟩, q3⟩
    refine n_276 ho hp (fun L1 r hf1 hr hs hB => kcp_v rfl (s_305_99 ?_))
    rw [tncn (by omega), (hT.2 k hk2).1, (hT.2 k hk2).2, i2l (by omega), i2l (by omega)]
    refine i_inb (by omega) hk2 (i_inb (by omega) hk2 ?_)
    refine c_229 (P := 12) (B := 1000) (s := 0) hr hB (by omega) tb.1 tb.2 (by omega) (by omega) (by omega) (by omega) (hg.sc hs) (tg_t hk2).q1 (fun L2 r2 hf2 hr2 hs2 hB2 => kcp_v rfl (s_305_120 ?_))
    have hs3 : Sc (lnW z k) r2 := (hs.line _ _).tr hs2
    have hf3 := FrL.tr (S := [(58, 10, 4)]) hf1 hf2 rfl rfl
    have hl3 : L2 70 = L0 70 := (hf3.at rfl).trans hl
    have hp3 := hp.fr hf3
    have cq : cirP al n u v z k ↔ sml n k ∧ 0 < und al r2 ∧ und al r2 * u ≤ wRe r2 * v := by
      obtain ⟨x, hx, hxx⟩ := hs3
      unfold cirP
      rw [hxx, und_sm, wRe_sm]
      have px := sq_pos hx
      have e1 : 0 < x * x * und al r2 ↔ 0 < und al r2 := by
        constructor
        · intro q
          exact Int.pos_of_mul_pos_right q (by omega)
        · intro q
          exact Int.mul_pos px q
      have e2 : x * x * und al r2 * u ≤ x * x * wRe r2 * v ↔ und al r2 * u ≤ wRe r2 * v := by
        rw [Int.mul_assoc, Int.mul_assoc (x * x) (wRe r2)]
        exact ⟨fun q => Int.le_of_mul_le_mul_left q px, fun q => Int.mul_le_mul_of_nonneg_left q (by omega)⟩
      rw [e1, e2]
    have b := hB2.le (show (12 : Int) * 1000 + 12 * 1000 ≤ 32845824 by decide)
    have ub := und_b (al := al) b
    obtain ⟨v1, v2, v3, v4, v5, v6⟩ := wv_b b
    rw [cq] at no yes
    obtain ⟨w0, w1, w2, w3⟩ := hr2
    rw [w0, w1, w2, w3, i2l (by omega), i2l (by omega)]
    simp only [mul64, add64]
    have m1 := mulB (x := wRe r2) (y := v) (A := 2157696310910976) (B := 20) (by omega) (by omega)
    have go : ∀ d : Int, und al r2 = d →
        (if Int64.ofInt 0 < Int64.ofInt d then (if Int64.ofInt (wRe r2 * v) < Int64.ofInt (d * u) then
            Wp 305 73 [(0, .ref 58), (2, .int (Int32.ofInt al)), (3, .int (Int32.ofInt n)), (4, .int (Int32.ofInt u)), (5, .int (Int32.ofInt v)), (6, .int (Int32.ofInt c + Int32.ofInt 0)), (7, .int (Int32.ofInt (k : Int) + Int32.ofInt 1))] [] (gE Lx) I L2 e Q
          else Wp 305 73 [(0, .ref 58), (2, .int (Int32.ofInt al)), (3, .int (Int32.ofInt n)), (4, .int (Int32.ofInt u)), (5, .int (Int32.ofInt v)), (6, .int (Int32.ofInt c + Int32.ofInt 1)), (7, .int (Int32.ofInt (k : Int) + Int32.ofInt 1))] [] (gE Lx) I L2 e Q)
        else Wp 305 73 [(0, .ref 58), (2, .int (Int32.ofInt al)), (3, .int (Int32.ofInt n)), (4, .int (Int32.ofInt u)), (5, .int (Int32.ofInt v)), (6, .int (Int32.ofInt c + Int32.ofInt 0)), (7, .int (Int32.ofInt (k : Int) + Int32.ofInt 1))] [] (gE Lx) I L2 e Q) := by
      intro d hd
      rw [hd] at no yes ub
      have m2 := mulB (x := d) (y := u) (A := 2157696310910976) (B := 99) (by omega) (by omega)
      have z1 : Int32.ofInt c + Int32.ofInt 0 = Int32.ofInt c := by rw [add32, Int.add_zero]
      have z2 : Int32.ofInt c + Int32.ofInt 1 = Int32.ofInt (c + 1) := by rw [add32]
      rw [z1, z2]
      exact i_lt64 (by omega) (by omega) (fun k1 => i_lt64 (by omega) (by omega) (fun k2 => no (fun q => by omega) L2 hp3 hl3) (fun k2 => yes ⟨hsm, k1, k2⟩ L2 hp3 hl3)) (fun k1 => no (fun q => by omega) L2 hp3 hl3)
    exact i_eqz hal (fun k0 => go (wUp r2) (if_pos k0)) (fun k0 => go (wLo r2) (if_neg k0))
set_option maxHeartbeats 4000000 in
theorem r_305 {ch : Ch} (hok : ChOk ch) (hc : BnAt I 59 0 ch) (hT : TabRt I) {m al n u v : Int} (hm : R32 m) (hal : al = 0 ∨ al = 1) (hn : R32 n) (hu : R32 u) (hv : R32 v) (h : RQ Lx I L e Q (spCir ch m al n u v).1 vI (spCir ch m al n u v).2) :
    Wp 305 0 [(0, .ref 58), (1, .int (Int32.ofInt m)), (2, .int (Int32.ofInt al)), (3, .int (Int32.ofInt n)), (4, .int (Int32.ofInt u)), (5, .int (Int32.ofInt v))] [] (gE Lx) I L e Q := by
  have e3 : I 59 3 = Int32.ofInt (ch.2.2.2.1 : Int) := hc.2.2.2.1
  refine s_305_0 ?_
  rw [e3]
  unfold spCir at h
  have no : ∀ c : Nat, (c : Int) = 1 ∨ (c : Int) = 2 ∨ (c : Int) = 3 → RQ Lx I L e Q c vI 0 → ∀ L1 : Ml, L1 70 = L 70 → Wp 305 55 [(0, .ref 58), (2, .int (Int32.ofInt al)), (3, .int (Int32.ofInt n)), (4, .int (Int32.ofInt u)), (5, .int (Int32.ofInt v))] [.int (Int32.ofInt (c : Int)), .ref 58] (gE Lx) I L1 e Q := fun c hcc h2 L1 hl =>
    s_305_55 (i_zlt (by omega) (fun _ => h2.mk (v := 0) (FrI.wu FrI.rf rfl) hl (c := (c : Int)) u_at rfl (fun z => by omega)) (fun k => by omega))
  refine mk_pre2 hm hok.2.2.2.1 (fun hb => ?_) (fun j hj hjn => ?_)
  · rw [if_pos hb] at h
    exact no 1 (by omega) h L rfl
  · subst hj
    rw [if_neg (by omega), Int.toNat_natCast] at h
    have two : ¬ ((1 ≤ n ∧ n ≤ 12) ∧ (0 ≤ u ∧ u ≤ 99) ∧ (1 ≤ v ∧ v ≤ 20)) → Wp 305 55 [(0, .ref 58), (2, .int (Int32.ofInt al)), (3, .int (Int32.ofInt n)), (4, .int (Int32.ofInt u)), (5, .int (Int32.ofInt v))] [.int (Int32.ofInt 2), .ref 58] (gE Lx) I L e Q := fun q => by
      rw [iP_f q] at h
      exact no 2 (by omega) h L rfl
    refine i_lt32 hn (by omega) (fun k => two (by omega)) (fun a1 => i_lt32 (by omega) hn (fun k => two (by omega)) (fun a2 => i_lt32 hu (by omega) (fun k => two (by omega)) (fun a3 => i_lt32 (by omega) hu (fun k => two (by omega)) (fun a4 => i_lt32 hv (by omega) (fun k => two (by omega)) (fun a5 => i_lt32 (by omega) hv (fun k => two (by omega)) (fun a6 => ?_))))))
    rw [iP_t (by omega)] at h
    refine c_274 hok hc hjn (show R32 al by omega) (fun hfi hnn L1 hf1 hp => kcp_v rfl (s_306_6 (j_1 (kcp_v rfl (s_305_55 (i_zlt (by omega) (fun k => by omega) (fun _ => ?_))))))) (fun hn2 L1 hf1 => kcp_v rfl (s_306_6 (j_0 (kcp_v rfl ?_))))
    · rw [iP_t ⟨hfi, hnn⟩] at h
      have ho := hfi.ok (wSeen_g hok j hjn)
      have hl : L1 70 = L 70 := hf1.at rfl
      generalize pt (wSeen ch j) = z at *
      refine l_305 (L0 := L) hT.th (show R32 al by omega) ⟨a1, a2⟩ ⟨a3, a4⟩ ⟨a5, a6⟩ ho 184 0 0 (by omega) (by omega) L1 hp hl (fun L2 hl2 => ?_)
      rw [Int.zero_add]
      exact h.mk (FrI.wu FrI.rf rfl) hl2 (c := 0) u_at rfl (fun _ => rfl)
    · rw [iP_f (show ¬ gdP al (wSeen ch j) from hn2)] at h
      exact no 3 (by omega) h L1 (hf1.at rfl)
end
