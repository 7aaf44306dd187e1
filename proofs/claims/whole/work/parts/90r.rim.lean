/-! rim: both sides. -/
def rimF (al : Int) (z : Pt) (k : Nat) : Int × Int := (wRe (lnW z k), und al (lnW z k))
def rimC (al n : Int) (z : Pt) (k : Nat) : Prop := k < 184 ∧ sml n k ∧ 0 < und al (lnW z k)
noncomputable def rimB (al n w : Int) (z : Pt) : Option Nat := ab (rimC al n z) w (rimF al z) 184 0 none
noncomputable def rimV (al : Int) (z : Pt) (wh : Int) : Option Nat → Int
  | none => 0
  | some j => if wh = 0 then fU (rimF al z j).1 (rimF al z j).2 else if wh = 1 then fL (rimF al z j).1 (rimF al z j).2 else if wh = 2 then tgU j else tgL j
theorem rimV_s {al : Int} {z : Pt} {wh : Int} {j : Nat} : rimV al z wh (some j) = if wh = 0 then fU (rimF al z j).1 (rimF al z j).2 else if wh = 1 then fL (rimF al z j).1 (rimF al z j).2 else if wh = 2 then tgU j else tgL j := rfl
def rimW (ls : Int) : Int := if ls = 0 then 1 else -1
noncomputable def spRim (ch : Ch) (m al n ls wh : Int) : Nat × Int := if m < 0 ∨ (ch.2.2.2.1 : Int) < m then (1, 0) else if wh < 0 ∨ 3 < wh then (2, 0) else if n < 1 ∨ 12 < n then (3, 0) else iP (gdP al (wSeen ch m.toNat)) (0, rimV al (pt (wSeen ch m.toNat)) wh (rimB al n (rimW ls) (pt (wSeen ch m.toNat)))) (4, 0)
theorem lnW_b {al : Int} {z : Pt} (ho : PtOk z) {k : Nat} (hk : k < 184) : (0 ≤ (rimF al z k).1 ∧ (rimF al z k).1 ≤ 1152000000) ∧ (0 ≤ (rimF al z k).2 ∧ (rimF al z k).2 ≤ 1152000000) := by
  obtain ⟨g, b⟩ := lnW_g ho hk
  have g1 := g.1
  have n1 := wUp_nn (lnW z k)
  have n2 := wLo_nn (lnW z k)
  unfold rimF
  dsimp only
  generalize lnW z k = w at *
  obtain ⟨h1, h2, h3, h4⟩ := b
  have a1 := mulB h1 h3; have a2 := mulB h2 h4
  have b1 := mulB h1 h1; have b2 := mulB h2 h2; have b3 := mulB h3 h3; have b4 := mulB h4 h4
  unfold und
  refine ⟨⟨g1, by unfold wRe; omega⟩, ?_⟩
  split
  · exact ⟨n1, by unfold wUp; omega⟩
  · exact ⟨n2, by unfold wLo; omega⟩
theorem rim_k {al n : Int} {z : Pt} (ho : PtOk z) {k : Nat} (h : rimC al n z k) : fok (rimF al z) k := by
  have := lnW_b (al := al) ho h.1
  have h2 : 0 < (rimF al z k).2 := h.2.2
  exact ⟨by omega, by omega⟩
theorem rim_s {al n w : Int} {z : Pt} (ho : PtOk z) (hn : 1 ≤ n) (hnn : ¬ (al = 0 ∧ z.1 = 0 ∧ z.2.1 = 0)) : ∃ j, rimB al n w z = some j := by
  refine ab_0 ⟨by decide, ⟨⟨by show -n ≤ (0 : Int); omega, by show (0 : Int) ≤ n; omega⟩, by show (1 : Int) ≤ n; omega⟩, ?_⟩
  have e : lnW z 0 = wZ z := by
    show ((1 : Int) * z.1 - 0 * 0, (1 : Int) * z.2.1 + 0 * z.2.2, (1 : Int) * z.2.2 - 0 * z.2.1, (1 : Int) * 0 + 0 * z.1) = (z.1, z.2.1, z.2.2, 0)
    simp
  rw [e]
  obtain ⟨o1, o2, o3⟩ := ho
  unfold und
  split
  · exact sq2_pos (x := z.1) (y := z.2.1) (by omega)
  · exact sq2_pos (x := z.2.2) (y := 0) (by omega)
theorem rimB_I {al n w : Int} {z : Pt} {j : Nat} (h : rimB al n w z = some j) : rimC al n z j := (ab_I (C := rimC al n z) (w := w) (f := rimF al z) 184 0 none (fun j h => by cases h) j h).2
section
variable {Lx : Nat} {I : Mi} {L : Ml} {e : Nat} {Q : Kq}
set_option maxHeartbeats 4000000 in
theorem l_191 {I0 : Mi} (hT0 : TabAt I0) {al n ls : Int} (hal : R32 al) (hn : 1 ≤ n ∧ n ≤ 12) (hls : R32 ls) {z : Pt} (ho : PtOk z) : ∀ (s k : Nat) (c : Option Nat), k + s = 184 → (abI (rimC al n z) k c) → ∀ (I : Mi) (L : Ml), FrI [(21, 0, 0)] I0 I → WvAt L 15 (wZ z) → BsAt I L (rimF al z) c → (∀ j, c = some j → I 21 4 = .ofInt (j : Int)) →
    (∀ I' L', FrI [(21, 0, 0)] I0 I' → BsAt I' L' (rimF al z) (ab (rimC al n z) (rimW ls) (rimF al z) s k c) → (∀ j, ab (rimC al n z) (rimW ls) (rimF al z) s k c = some j → I' 21 4 = .ofInt (j : Int)) → Q (.inl none) (gE Lx) I' L' e) →
    Wp 191 18 [(0, .ref 1), (1, .int (Int32.ofInt al)), (2, .int (Int32.ofInt n)), (3, .int (Int32.ofInt ls)), (4, .int (Int32.ofInt k))] [] (gE Lx) I L e Q := by
  intro s
  induction s with
  | zero =>
    intro k c hk hI I L hf hW hs h21 h
    exact s_191_18 (i_lt32 (by omega) (by omega) (fun _ => by omega) (fun _ => h I L hf hs h21))
  | succ s ih =>
    intro k c hk hI I L hf hW hs h21 h
    have hk2 : k < 184 := by omega
    have tb := tg_b hk2
    have hT : TabAt I := hT0.cg (hf.at rfl) (hf.at rfl)
    refine s_191_18 (i_lt32 (by omega) (by omega) (fun _ => ?_) (fun _ => by omega))
    refine c_69 hT hk2 (kcp_v rfl (s_191_50 (c_70 hT hk2 (kcp_v rfl (s_191_60 ?_)))))
    rw [i2l (by omega), i2l (by omega)]
    refine c_76 (x := wZ z) (Or.inr (Or.inr rfl)) ⟨hW.1, hW.2.1, hW.2.2.1, hW.2.2.2⟩ (fun L2 hf2 hW2 => kcp_v rfl (s_191_64 ?_))
    have hf3 := FrL.tr (S := [(16, 0, 4)]) (fr4 rfl rfl rfl rfl) hf2 rfl rfl
    have hW3 : WvAt L2 15 (wZ z) := hW.cg (hf3.at rfl)
    have hW2 : WvAt L2 16 (lnW z k) := hW2
    have hs2 : BsAt I L2 (rimF al z) c := hs.cg rfl (hf3 21 1 rfl) (hf3 21 2 rfl)
    obtain ⟨g, b⟩ := lnW_g ho hk2
    have fb := lnW_b (al := al) ho hk2
    have no : ¬ rimC al n z k → Wp 191 18 [(0, .ref 1), (1, .int (Int32.ofInt al)), (2, .int (Int32.ofInt n)), (3, .int (Int32.ofInt ls)), (4, .int (Int32.ofInt (k : Int) + Int32.ofInt 1))] [] (gE Lx) I L2 e Q := by
      intro q
      rw [add32]
      have e1 : stp1 (rimC al n z) (rimW ls) (rimF al z) k c = c := stp_n q
      have := ih (k + 1) c (by omega) (fun j hj => ⟨by have := (hI j hj).1; omega, (hI j hj).2⟩) I L2 hf hW3 hs2 h21 (by
        have h' := h
        unfold ab at h'
        rw [e1] at h'
        exact h')
      exact this
    have yes : rimC al n z k → ∀ w, w = rimW ls → R32 w → Wp 3 0 [(0, .ref 21), (1, .long (Int64.ofInt (rimF al z k).1)), (3, .long (Int64.ofInt (rimF al z k).2)), (5, .int (Int32.ofInt w))] [] (gE Lx) I L2 e (kcp (Wp 191) 191 116 0 [(0, .ref 1), (1, .int (Int32.ofInt al)), (2, .int (Int32.ofInt n)), (3, .int (Int32.ofInt ls)), (4, .int (Int32.ofInt (k : Int)))] 71 [] Q) := by
      intro q w hw hwr
      subst hw
      refine c_3 hwr (rim_k ho q) (fun j hj => rim_k ho (hI j hj).2) hs2 (fun hb I4 L4 hf4 hl4 hs4 => kcp_v rfl (s_191_119 (j_1 ?_))) (fun hb => kcp_v rfl (s_191_119 (j_0 ?_)))
      · rw [add32]
        have e1 : stp1 (rimC al n z) (rimW ls) (rimF al z) k c = some k := stp_t q hb
        have := ih (k + 1) (some k) (by omega) (fun j hj => by cases hj; exact ⟨by omega, q⟩) (ui I4 21 4 (Int32.ofInt (k : Int))) L4 (FrI.wu (FrI.tr hf (hf4.up (S := [(21, 0, 0)]) rfl) rfl rfl) rfl) (hW3.cg (hl4.at rfl)) (hs4.cg rfl rfl rfl) (fun j hj => by cases hj; exact u_at) (by
          have h' := h
          unfold ab at h'
          rw [e1] at h'
          exact h')
        exact this
      · rw [add32]
        have e1 : stp1 (rimC al n z) (rimW ls) (rimF al z) k c = c := stp_f hb
        have := ih (k + 1) c (by omega) (fun j hj => ⟨by have := (hI j hj).1; omega, (hI j hj).2⟩) I L2 hf hW3 hs2 h21 (by
          have h' := h
          unfold ab at h'
          rw [e1] at h'
          exact h')
        exact this
    obtain ⟨w0, w1, w2, w3⟩ := hW2
    have er : (rimF al z k).1 = wRe (lnW z k) := rfl
    have eu : (rimF al z k).2 = und al (lnW z k) := rfl
    rw [er, eu] at yes fb
    unfold rimC at no yes
    generalize lnW z k = w at *
    simp only [w0, w1, w2, w3, mul64, add64]
    have go : ∀ d : Int, und al w = d → Wp 71 0 [(0, .ref 2), (1, .int (Int32.ofInt (k : Int))), (2, .int (Int32.ofInt n))] [] (gE Lx) I L2 e (kcp (Wp 191) 191 81 0 [(0, .ref 1), (1, .int (Int32.ofInt al)), (2, .int (Int32.ofInt n)), (3, .int (Int32.ofInt ls)), (4, .int (Int32.ofInt (k : Int))), (5, .long (Int64.ofInt d))] 71 [] Q) := by
      intro d hd
      rw [hd] at no yes fb
      refine c_71 hT hk2 hn (fun qs => kcp_v rfl (s_191_84 (j_1 ?_))) (fun qs => kcp_v rfl (s_191_84 (j_0 (no (fun q => qs q.2.1)))))
      simp only [w0, w1, w2, w3, mul64, add64]
      unfold rimW at yes
      refine i_lt64 (by omega) (by omega) (fun k1 => i_eqz hls (fun k2 => ?_) (fun k2 => ?_)) (fun k1 => no (fun q => by omega))
      · exact yes ⟨hk2, qs, k1⟩ 1 (by rw [if_pos k2]) (by omega)
      · exact yes ⟨hk2, qs, k1⟩ (-1) (by rw [if_neg k2]) (by omega)
    exact i_eqz hal (fun k0 => go (wUp w) (if_pos k0)) (fun k0 => go (wLo w) (if_neg k0))
set_option maxHeartbeats 4000000 in
theorem h_408 {ch : Ch} (hok : ChOk ch) (hc : ChAt I 5 ch) (hT : TabAt I) {m al n ls wh : Int} (hm : R32 m) (hal : al = 0 ∨ al = 1) (hn : R32 n) (hls : R32 ls) (hwh : R32 wh) (h : CQ Lx I e Q (spRim ch m al n ls wh).1 (spRim ch m al n ls wh).2) :
    Wp 408 0 [(0, .ref 1), (1, .int (Int32.ofInt m)), (2, .int (Int32.ofInt al)), (3, .int (Int32.ofInt n)), (4, .int (Int32.ofInt ls)), (5, .int (Int32.ofInt wh)), (6, .ref 70)] [] (gE Lx) I L e Q := by
  refine s_408_0 ?_
  rw [hc.2.2.2.1]
  unfold spRim at h
  refine mk_pre hm hok.2.2.2.1 (fun hb => ?_) (fun j hj hjn => ?_)
  · rw [if_pos hb] at h
    exact h.mk (c := 1) FrI.rf (by omega) rfl (fun z => by cases z)
  · subst hj
    rw [if_neg (by omega), Int.toNat_natCast] at h
    have two : wh < 0 ∨ 3 < wh → Q (.inl (some (.int (Int32.ofInt 2)))) (gE Lx) I L (e + 1) := fun q => by
      rw [if_pos q] at h
      exact h.mk (c := 2) FrI.rf (by omega) rfl (fun z => by cases z)
    refine i_ltz hwh (fun k => two (by omega)) (fun a1 => i_lt32 (by omega) hwh (fun k => two (by omega)) (fun a2 => ?_))
    rw [if_neg (by omega)] at h
    have thr : n < 1 ∨ 12 < n → Q (.inl (some (.int (Int32.ofInt 3)))) (gE Lx) I L (e + 1) := fun q => by
      rw [if_pos q] at h
      exact h.mk (c := 3) FrI.rf (by omega) rfl (fun z => by cases z)
    refine i_lt32 hn (by omega) (fun k => thr (by omega)) (fun a3 => i_lt32 (by omega) hn (fun k => thr (by omega)) (fun a4 => ?_))
    rw [if_neg (by omega)] at h
    refine c_148 hok hc hjn (show R32 al by omega) (fun hfi hnn L1 hf1 hp => kcp_v rfl (s_190_25 ?_)) (fun hn2 L1 hf1 => kcp_x rfl (kcp_h rfl ?_))
    rotate_left
    · rw [iP_f (show ¬ gdP al (wSeen ch j) from hn2)] at h
      exact h.mk (c := 4) FrI.rf (by omega) rfl (fun z => by cases z)
    rw [iP_t ⟨hfi, hnn⟩] at h
    have ho := hfi.ok (wSeen_g hok j hjn)
    generalize pt (wSeen ch j) = z at *
    obtain ⟨p0, p1, p2⟩ := hp
    obtain ⟨r, hr⟩ := rim_s (w := rimW ls) ho a3 hnn
    have hrc := rimB_I hr
    have hrb := rim_k ho hrc
    have fb := lnW_b (al := al) ho hrc.1
    rw [hr] at h
    refine s_191_0 ?_
    rw [p0, p1, p2]
    refine l_191 (I0 := I) hT (show R32 al by omega) ⟨a3, a4⟩ hls ho 184 0 none (by omega) (fun j hj => by cases hj) _ _ (FrI.wu FrI.rf rfl) ⟨rfl, rfl, rfl, rfl⟩ rfl (fun j hj => by cases hj) (fun I2 L2 hf2 hs2 h21 => kcp_v rfl (s_190_33 ?_))
    have hr' : ab (rimC al n z) (rimW ls) (rimF al z) 184 0 none = some r := hr
    rw [hr'] at hs2 h21
    obtain ⟨s0, s1, s2⟩ := hs2
    have h21 := h21 r rfl
    rw [s1, s2, h21]
    have hT2 : TabAt I2 := hT.cg (hf2.at rfl) (hf2.at rfl)
    rw [rimV_s] at h
    have tb := tg_b hrc.1
    have hff : FrI cS I I2 := hf2.up rfl
    refine i_lt32 hwh (by omega) (fun k1 => c_25 (Or.inl rfl) (by omega) (by omega) (fun L3 hf3 hv3 => kcp_v rfl (s_190_100 ?_))) (fun k1 => i_eq32 hwh (by omega) (fun k2 => c_69 hT2 hrc.1 (kcp_v rfl (s_190_59 (kcp_v rfl (s_408_14 (i_inb0 (by decide) ?_)))))) (fun k2 => c_70 hT2 hrc.1 (kcp_v rfl (s_190_77 (kcp_v rfl (s_408_14 (i_inb0 (by decide) ?_)))))))
    · rw [hv3.1, hv3.2]
      refine i_eq32 hwh (by omega) (fun k2 => kcp_v rfl (s_408_14 (i_inb0 (by decide) ?_))) (fun k2 => kcp_v rfl (s_408_14 (i_inb0 (by decide) ?_)))
      · rw [if_neg (by omega), if_pos k2] at h
        exact h.mk (c := 0) hff (by omega) rfl (fun _ => o70)
      · rw [if_pos (by omega)] at h
        exact h.mk (c := 0) hff (by omega) rfl (fun _ => o70)
    · rw [if_neg (by omega), if_neg (by omega), if_pos k2] at h
      exact h.mk (c := 0) hff (by omega) rfl (fun _ => by rw [o70, i2l (by omega)])
    · rw [if_neg (by omega), if_neg (by omega), if_neg k2] at h
      exact h.mk (c := 0) hff (by omega) rfl (fun _ => by rw [o70, i2l (by omega)])
/-- what the other side holds of the best -/
def RmAt (I : Mi) (f : Nat → Int × Int) (u l : Int) : Option Nat → Prop
  | none => I 58 24 = .ofInt (-1) ∧ u = 0 ∧ l = 0
  | some j => I 58 24 = .ofInt (j : Int) ∧ u = fU (f j).1 (f j).2 ∧ l = fL (f j).1 (f j).2
set_option maxHeartbeats 8000000 in
theorem l_308 {I0 : Mi} {L0 : Ml} (hT0 : TabRt I0) {al n ls wh : Int} (hal : R32 al) (hn : 1 ≤ n ∧ n ≤ 12) (hls : R32 ls) (hwh : R32 wh) {z : Pt} (ho : PtOk z) : ∀ (s k : Nat) (c : Option Nat) (u l : Int), k + s = 184 → (abI (rimC al n z) k c) → ∀ (I : Mi) (L : Ml), FrI [(58, 24, 1)] I0 I → RpAt L z → L 70 = L0 70 → RmAt I (rimF al z) u l c →
    (∀ j, ab (rimC al n z) (rimW ls) (rimF al z) s k c = some j → rimC al n z j → ∀ I' L', FrI [(58, 24, 1)] I0 I' → L' 70 = L0 70 → Q (.inl (some (.long (Int64.ofInt (rimV al z wh (some j)))))) (gE Lx) I' L' e) →
    (∃ j, ab (rimC al n z) (rimW ls) (rimF al z) s k c = some j) →
    Wp 308 81 [(0, .ref 58), (2, .int (Int32.ofInt al)), (3, .int (Int32.ofInt n)), (4, .int (Int32.ofInt ls)), (5, .int (Int32.ofInt wh)), (6, .long (Int64.ofInt u)), (8, .long (Int64.ofInt l)), (10, .int (Int32.ofInt k))] [] (gE Lx) I L e Q := by
  have hg := wZ_g ho
  intro s
  induction s with
  | zero =>
    intro k c u l hk hI I L hf hp hl hr h hex
    have hT : TabRt I := hT0.cg (hf 58 7 rfl) (hf.at rfl) (hf.at rfl)
    obtain ⟨j, hj⟩ := hex
    have hj' : c = some j := hj
    subst hj'
    obtain ⟨r0, r1, r2⟩ := hr
    have hjc := (hI j rfl).2
    have hj184 := hjc.1
    have tb := tg_b hjc.1
    have h2 := h j hj hjc I L hf hl
    rw [rimV_s] at h2
    refine s_308_81 ?_
    rw [hT.1, r0, tncn (k := j) (by have := hjc.1; omega), (hT.2 j hjc.1).1, (hT.2 j hjc.1).2, i2l (by omega), i2l (by omega)]
    refine i_lt32 (by omega) (by omega) (fun _ => by omega) (fun _ => i_eqz hwh (fun k1 => ?_) (fun k1 => i_eq32 hwh (by omega) (fun k2 => ?_) (fun k2 => i_eq32 hwh (by omega) (fun k3 => i_inb (by omega) hjc.1 ?_) (fun k3 => i_inb (by omega) hjc.1 ?_))))
    · rw [if_pos k1] at h2; rw [r1]; exact h2
    · rw [if_neg k1, if_pos k2] at h2; rw [r2]; exact h2
    · rw [if_neg k1, if_neg k2, if_pos k3] at h2; exact h2
    · rw [if_neg k1, if_neg k2, if_neg k3] at h2; exact h2
  | succ s ih =>
    intro k c u l hk hI I L hf hp hl hr h hex
    have hT : TabRt I := hT0.cg (hf 58 7 rfl) (hf.at rfl) (hf.at rfl)
    have hk2 : k < 184 := by omega
    have tb := tg_b hk2
    have fb := lnW_b (al := al) ho hk2
    unfold ab at h hex
    have stay : stp1 (rimC al n z) (rimW ls) (rimF al z) k c = c → ∀ L2, RpAt L2 z → L2 70 = L0 70 → Wp 308 81 [(0, .ref 58), (2, .int (Int32.ofInt al)), (3, .int (Int32.ofInt n)), (4, .int (Int32.ofInt ls)), (5, .int (Int32.ofInt wh)), (6, .long (Int64.ofInt u)), (8, .long (Int64.ofInt l)), (10, .int (Int32.ofInt (k : Int) + Int32.ofInt 1))] [] (gE Lx) I L2 e Q := by
      intro q L2 hp2 hl2
      rw [q] at h hex
      rw [add32]
      have := ih (k + 1) c u l (by omega) (fun j hj => ⟨by have := (hI j hj).1; omega, (hI j hj).2⟩) I L2 hf hp2 hl2 hr h hex
      exact this
    have take : rimC al n z k → stp1 (rimC al n z) (rimW ls) (rimF al z) k c = some k → ∀ L2, RpAt L2 z → L2 70 = L0 70 → Wp 308 81 [(0, .ref 58), (2, .int (Int32.ofInt al)), (3, .int (Int32.ofInt n)), (4, .int (Int32.ofInt ls)), (5, .int (Int32.ofInt wh)), (6, .long (Int64.ofInt (fU (rimF al z k).1 (rimF al z k).2))), (8, .long (Int64.ofInt (fL (rimF al z k).1 (rimF al z k).2))), (10, .int (Int32.ofInt (k : Int) + Int32.ofInt 1))] [] (gE Lx) (ui I 58 24 (Int32.ofInt (k : Int))) L2 e Q := by
      intro qc q L2 hp2 hl2
      rw [q] at h hex
      rw [add32]
      have := ih (k + 1) (some k) _ _ (by omega) (fun j hj => by cases hj; exact ⟨by omega, qc⟩) (ui I 58 24 (Int32.ofInt (k : Int))) L2 (FrI.wu hf rfl) hp2 hl2 ⟨u_at, rfl, rfl⟩ h hex
      exact this
    have nsm : ¬ sml n k → Wp 308 81 [(0, .ref 58), (2, .int (Int32.ofInt al)), (3, .int (Int32.ofInt n)), (4, .int (Int32.ofInt ls)), (5, .int (Int32.ofInt wh)), (6, .long (Int64.ofInt u)), (8, .long (Int64.ofInt l)), (10, .int (Int32.ofInt (k : Int) + Int32.ofInt 1))] [] (gE Lx) I L e Q := fun q => stay (stp_n (fun w => q w.2.1)) L hp hl
    unfold sml at nsm
    refine s_308_81 ?_
    rw [hT.1, tncn (k := k) (by omega), (hT.2 k hk2).1, (hT.2 k hk2).2, neg32]
    refine i_lt32 (by omega) (by omega) (fun _ => i_inb (by omega) hk2 (i_lt32 (by omega) (by omega) (fun q => nsm (by omega)) (fun q1 => i_lt32 (by omega) (by omega) (fun q => nsm (by omega)) (fun q2 => i_inb (by omega) hk2 (i_lt32 (by omega) (by omega) (fun q => nsm (by omega)) (fun q3 => ?_)))))) (fun _ => by omega)
    have hsm : sml n k := ⟨⟨q1, q2⟩, q3⟩
    refine n_276 ho hp (fun L1 r hf1 hr1 hs1 hB1 => kcp_v rfl (s_308_107 ?_))
    rw [tncn (k := k) (by omega), (hT.2 k hk2).1, (hT.2 k hk2).2, i2l (by omega), i2l (by omega)]
    refine i_inb (by omega) hk2 (i_inb (by omega) hk2 ?_)
    refine c_229 (P := 12) (B := 1000) (s := 0) hr1 hB1 (by omega) tb.1 tb.2 (by omega) (by omega) (by omega) (by omega) (hg.sc hs1) (tg_t hk2).q1 (fun L2 r2 hf2 hr2 hs2 hB2 => kcp_v rfl (s_308_128 ?_))
    have hs3 : Sc (lnW z k) r2 := (hs1.line _ _).tr hs2
    have hf3 := FrL.tr (S := [(58, 10, 4)]) hf1 hf2 rfl rfl
    have hl3 : L2 70 = L0 70 := (hf3.at rfl).trans hl
    have hp3 := hp.fr hf3
    have b := hB2.le (show (12 : Int) * 1000 + 12 * 1000 ≤ 32845824 by decide)
    have ub := und_b (al := al) b
    obtain ⟨v1, v2, v3, v4, v5, v6⟩ := wv_b b
    have fr : (und al r2 = 0 ↔ (rimF al z k).2 = 0) ∧ fU (wRe r2) (und al r2) = fU (rimF al z k).1 (rimF al z k).2 ∧ fL (wRe r2) (und al r2) = fL (rimF al z k).1 (rimF al z k).2 := by
      obtain ⟨x, hx, hxx⟩ := hs3
      unfold rimF
      dsimp only
      rw [hxx, und_sm, wRe_sm]
      have px := sq_pos hx
      rw [fU_mul px, fL_mul px, sm_0 (show x * x ≠ 0 by omega)]
      exact ⟨Iff.rfl, rfl, rfl⟩
    have hrc : rimC al n z k ↔ (rimF al z k).2 ≠ 0 := by
      unfold rimC rimF
      have := fb.2.1
      unfold rimF at this
      dsimp only at this ⊢
      exact ⟨fun q => by have := q.2.2; omega, fun q => ⟨hk2, hsm, by omega⟩⟩
    obtain ⟨w0, w1, w2, w3⟩ := hr2
    rw [w0, w1, w2, w3]
    simp only [mul64, add64]
    have go : ∀ d : Int, und al r2 = d → Wp 236 0 [(0, .ref 58), (1, .long (Int64.ofInt (wRe r2))), (3, .long (Int64.ofInt d))] [] (gE Lx) I L2 e (kcp (Wp 308) 308 138 0 [(0, .ref 58), (2, .int (Int32.ofInt al)), (3, .int (Int32.ofInt n)), (4, .int (Int32.ofInt ls)), (5, .int (Int32.ofInt wh)), (6, .long (Int64.ofInt u)), (8, .long (Int64.ofInt l)), (10, .int (Int32.ofInt (k : Int)))] 71 [] Q) := by
      intro d hd
      rw [hd] at fr ub
      obtain ⟨fr0, fr1, fr2⟩ := fr
      refine c_236 (by omega) (by omega) (fun L4 hf4 u4 l4 => kcp_v rfl (s_308_141 ?_))
      have hl4 : L4 70 = L0 70 := (hf4.at rfl).trans hl3
      have hp4 : RpAt L4 z := ⟨(hf4 58 14 rfl).trans hp3.1, (hf4 58 15 rfl).trans hp3.2.1, (hf4 58 16 rfl).trans hp3.2.2⟩
      rw [u4, l4]
      by_cases hd0 : d = 0
      · rw [hd0, rL_0]
        exact i_eq64 (by omega) (by omega) (fun _ => stay (stp_n (fun q => hrc.mp q (fr0.mp hd0))) L4 hp4 hl4) (fun q => absurd rfl q)
      · have hc1 : rimC al n z k := hrc.mpr (fun q => hd0 (fr0.mpr q))
        rw [rU_f hd0, rL_f hd0, fr1, fr2]
        have hkf := rim_k ho hc1
        have ck := fr_b (n := (rimF al z k).1) (d := (rimF al z k).2) hkf.1.1 hkf.2.1
        refine i_eq64 (by omega) (by omega) (fun q => by omega) (fun _ => ?_)
        cases c with
        | none =>
          obtain ⟨r0, r1, r2⟩ := hr
          rw [r0]
          exact i_eq32 (by omega) (by omega) (fun _ => take hc1 (stp_t hc1 (fun j hj => by cases hj)) L4 hp4 hl4) (fun q => absurd rfl q)
        | some j =>
          obtain ⟨r0, r1, r2⟩ := hr
          have hjc := (hI j rfl).2
          have hjf := rim_k ho hjc
          have jb := lnW_b (al := al) ho hjc.1
          have cj := fr_b (n := (rimF al z j).1) (d := (rimF al z j).2) hjf.1.1 hjf.2.1
          have sr := sg_red (n := (rimF al z k).1) (d := (rimF al z k).2) (n2 := (rimF al z j).1) (d2 := (rimF al z j).2) hkf.1.1 hkf.2.1 hjf.1.1 hjf.2.1
          rw [← r1, ← r2] at sr
          have eb : ∀ w, bt w (rimF al z) k j ↔ sg (fU (rimF al z k).1 (rimF al z k).2 * l - u * fL (rimF al z k).1 (rimF al z k).2) = w := fun w => by unfold bt; rw [sr]
          have hub : 0 ≤ u ∧ u ≤ 1152000000 := by rw [r1]; omega
          have hlb : 0 ≤ l ∧ l ≤ 1152000000 := by rw [r2]; omega
          have tk : bt (rimW ls) (rimF al z) k j → stp1 (rimC al n z) (rimW ls) (rimF al z) k (some j) = some k := fun q => stp_t hc1 (fun j2 hj2 => by cases hj2; exact q)
          have st : ¬ bt (rimW ls) (rimF al z) k j → stp1 (rimC al n z) (rimW ls) (rimF al z) k (some j) = some j := fun q => stp_f ⟨j, rfl, q⟩
          rw [eb] at tk st
          have m1 := mulB (x := fU (rimF al z k).1 (rimF al z k).2) (y := l) (A := 1152000000) (B := 1152000000) (by omega) (by omega)
          have m2 := mulB (x := u) (y := fL (rimF al z k).1 (rimF al z k).2) (A := 1152000000) (B := 1152000000) (by omega) (by omega)
          rw [r0, mul64, mul64, sub64]
          have mdf : -3000000000000000000 ≤ fU (rimF al z k).1 (rimF al z k).2 * l - u * fL (rimF al z k).1 (rimF al z k).2 ∧ fU (rimF al z k).1 (rimF al z k).2 * l - u * fL (rimF al z k).1 (rimF al z k).2 ≤ 3000000000000000000 := by omega
          generalize fU (rimF al z k).1 (rimF al z k).2 * l - u * fL (rimF al z k).1 (rimF al z k).2 = df at *
          refine i_eq32 (by have := hjc.1; omega) (by omega) (fun q => by omega) (fun _ => i_eqz hls (fun k2 => ?_) (fun k2 => ?_))
          · have ew : rimW ls = 1 := if_pos k2
            rw [ew] at tk st take stay
            refine i_lt64 (by omega) (by omega) (fun k3 => take hc1 (tk (sg_p k3)) L4 hp4 hl4) (fun k3 => stay (st (fun q => ?_)) L4 hp4 hl4)
            rcases Int.lt_or_eq_of_le k3 with k4 | k4
            · rw [sg_n k4] at q; omega
            · rw [sg_z k4] at q; omega
          · have ew : rimW ls = -1 := if_neg k2
            rw [ew] at tk st take stay
            refine i_lt64 (by omega) (by omega) (fun k3 => take hc1 (tk (sg_n k3)) L4 hp4 hl4) (fun k3 => stay (st (fun q => ?_)) L4 hp4 hl4)
            rcases Int.lt_or_eq_of_le k3 with k4 | k4
            · rw [sg_p k4] at q; omega
            · rw [sg_z k4.symm] at q; omega
    exact i_eqz hal (fun k0 => go (wUp r2) (if_pos k0)) (fun k0 => go (wLo r2) (if_neg k0))
set_option maxHeartbeats 4000000 in
theorem r_308 {ch : Ch} (hok : ChOk ch) (hc : BnAt I 59 0 ch) (hT : TabRt I) {m al n ls wh : Int} (hm : R32 m) (hal : al = 0 ∨ al = 1) (hn : R32 n) (hls : R32 ls) (hwh : R32 wh) (h : RQ Lx I L e Q (spRim ch m al n ls wh).1 vL (spRim ch m al n ls wh).2) :
    Wp 308 0 [(0, .ref 58), (1, .int (Int32.ofInt m)), (2, .int (Int32.ofInt al)), (3, .int (Int32.ofInt n)), (4, .int (Int32.ofInt ls)), (5, .int (Int32.ofInt wh))] [] (gE Lx) I L e Q := by
  have e3 : I 59 3 = Int32.ofInt (ch.2.2.2.1 : Int) := hc.2.2.2.1
  refine s_308_0 ?_
  rw [e3]
  unfold spRim at h
  refine mk_pre2 hm hok.2.2.2.1 (fun hb => ?_) (fun j hj hjn => ?_)
  · rw [if_pos hb] at h
    exact h.mk (v := 0) (FrI.wu FrI.rf rfl) rfl (c := 1) u_at rfl (fun z => by cases z)
  · subst hj
    rw [if_neg (by omega), Int.toNat_natCast] at h
    have two : wh < 0 ∨ 3 < wh → Q (.inl (some (.long (Int64.ofInt 0)))) (gE Lx) (ui I 58 0 (Int32.ofInt 2)) L e := fun q => by
      rw [if_pos q] at h
      exact h.mk (v := 0) (FrI.wu FrI.rf rfl) rfl (c := 2) u_at rfl (fun z => by cases z)
    refine i_lt32 hwh (by omega) (fun k => two (by omega)) (fun a1 => i_lt32 (by omega) hwh (fun k => two (by omega)) (fun a2 => ?_))
    rw [if_neg (by omega)] at h
    have thr : n < 1 ∨ 12 < n → Q (.inl (some (.long (Int64.ofInt 0)))) (gE Lx) (ui I 58 0 (Int32.ofInt 3)) L e := fun q => by
      rw [if_pos q] at h
      exact h.mk (v := 0) (FrI.wu FrI.rf rfl) rfl (c := 3) u_at rfl (fun z => by cases z)
    refine i_lt32 hn (by omega) (fun k => thr (by omega)) (fun a3 => i_lt32 (by omega) hn (fun k => thr (by omega)) (fun a4 => ?_))
    rw [if_neg (by omega)] at h
    refine c_274 hok hc hjn (show R32 al by omega) (fun hfi hnn L1 hf1 hp => kcp_v rfl (s_308_47 (j_1 ?_))) (fun hn2 L1 hf1 => kcp_v rfl (s_308_47 (j_0 ?_)))
    · rw [iP_t ⟨hfi, hnn⟩] at h
      have ho := hfi.ok (wSeen_g hok j hjn)
      have hl : L1 70 = L 70 := hf1.at rfl
      generalize pt (wSeen ch j) = z at *
      obtain ⟨r, hr⟩ := rim_s (w := rimW ls) ho a3 hnn
      have hT2 : TabRt (ui (ui I 58 0 (Int32.ofInt 0)) 58 24 (Int32.ofInt (-1))) := hT.cg rfl rfl rfl
      refine l_308 (I0 := ui (ui I 58 0 (Int32.ofInt 0)) 58 24 (Int32.ofInt (-1))) (L0 := L) hT2 (show R32 al by omega) ⟨a3, a4⟩ hls hwh ho 184 0 none 0 0 (by omega) (fun j hj => by cases hj) _ L1 FrI.rf hp hl ⟨u_at, rfl, rfl⟩ (fun j2 hj2 hjc I2 L2 hf2 hl2 => ?_) ⟨r, hr⟩
      have hj3 : rimB al n (rimW ls) z = some j2 := hj2
      rw [hj3] at h
      exact h.mk (FrI.tr (A := rS) (FrI.wu (FrI.wu FrI.rf rfl) rfl) hf2 rfl rfl) hl2 (c := 0) ((hf2 58 0 rfl).trans rfl) rfl (fun _ => rfl)
    · rw [iP_f (show ¬ gdP al (wSeen ch j) from hn2)] at h
      exact h.mk (v := 0) (FrI.wu FrI.rf rfl) (hf1.at rfl) (c := 4) u_at rfl (fun z => by cases z)
end
