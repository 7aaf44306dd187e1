/-! exact: both sides. -/
def exP (ch : Ch) (m : Int) (t : Nat) : Prop := beC m t ∧ mtc (beW ch t)
noncomputable def exR (ch : Ch) (m k : Int) : Int × Nat := exT (exP ch m) k beT
noncomputable def exV (ch : Ch) (m k wh : Int) : Int := if k = -1 then (exR ch m k).1 else if k < 0 ∨ (exR ch m k).1 ≤ k then -1 else lsV (exR ch m k).2 wh
noncomputable def spExa (ch : Ch) (m k wh : Int) : Nat × Int := if wh < 0 ∨ 4 < wh then (1, 0) else if m < 1 ∨ 12 < m then (2, 0) else if 2 < ch.2.2.2.1 then (3, 0) else (0, exV ch m k wh)
theorem sw_x {N D : Int} (hD : 0 < D) : (0 < N → fU (-D) N = -fL N D ∧ fL (-D) N = fU N D) ∧ (N ≤ 0 → fU (-D) N = fL N D ∧ fL (-D) N = -fU N D) ∧ (0 < N ↔ 0 < fU N D) ∧ (N < 0 ↔ fU N D < 0) ∧ 0 < fL N D := by
  have nz : ¬ (N = 0 ∧ D = 0) := fun w => by omega
  have nz2 : ¬ (-D = 0 ∧ N = 0) := fun w => by omega
  have hg := gI_pos nz
  have e1 : gI N D * (N / gI N D) = N := Int.mul_ediv_cancel' (gI_dl N D)
  have e2 : gI N D * (D / gI N D) = D := Int.mul_ediv_cancel' (gI_dr N D)
  have eg : gI (-D) N = gI N D := by
    rw [gI_abs (a := D) (b := N) (Or.inr rfl) (Or.inl rfl)]
    unfold gI
    rw [Int.gcd_comm]
  have ed : -D / gI N D = -(D / gI N D) := Int.neg_ediv_of_dvd (gI_dr N D)
  have u : fU N D = N / gI N D := by unfold fU; rw [if_neg nz, if_neg (by omega)]
  have l : fL N D = D / gI N D := by unfold fL; rw [if_neg nz, if_neg (by omega)]
  have u2 : fU (-D) N = if N < 0 ∨ (N = 0 ∧ -D < 0) then -(-(D / gI N D)) else -(D / gI N D) := by unfold fU; rw [if_neg nz2, eg, ed]
  have l2 : fL (-D) N = if N < 0 then -(N / gI N D) else N / gI N D := by unfold fL; rw [if_neg nz2, eg]
  have sg1 : (0 < N ↔ 0 < N / gI N D) ∧ (N < 0 ↔ N / gI N D < 0) := by
    generalize N / gI N D = a at *
    generalize gI N D = g at *
    constructor
    · constructor
      · intro w
        refine Int.not_le.mp (fun z => ?_)
        have : g * a ≤ 0 := Int.mul_nonpos_of_nonneg_of_nonpos (by omega) z
        omega
      · intro w; have := Int.mul_pos hg w; omega
    · constructor
      · intro w
        refine Int.not_le.mp (fun z => ?_)
        have := Int.mul_nonneg (show 0 ≤ g by omega) z
        omega
      · intro w; have := Int.mul_neg_of_pos_of_neg hg w; omega
  have lp : 0 < D / gI N D := by
    generalize D / gI N D = a at *
    refine Int.not_le.mp (fun z => ?_)
    have : gI N D * a ≤ 0 := Int.mul_nonpos_of_nonneg_of_nonpos (by omega) z
    omega
  rw [u2, l2, u, l]
  refine ⟨fun w => ?_, fun w => ?_, sg1.1, sg1.2, lp⟩
  · rw [if_neg (by omega), if_neg (by omega)]
    exact ⟨rfl, rfl⟩
  · by_cases z : N < 0
    · rw [if_pos (Or.inl z), if_pos z, Int.neg_neg]
      exact ⟨rfl, rfl⟩
    · have : N = 0 := by omega
      rw [if_pos (Or.inr ⟨this, by omega⟩), if_neg z, Int.neg_neg, this]
      refine ⟨rfl, ?_⟩
      rw [Int.zero_ediv]
      rfl
def smA (m u l : Int) : Prop := l ≤ m ∧ u ≤ m ∧ -m ≤ u
theorem tgI_k {p q : Int} {k : Nat} (ht : isT p q) (hk : k < 184) : (tgU k = p ∧ tgL k = q) ↔ k = tgI p q := by
  obtain ⟨h1, h2, h3⟩ := tgI_s ht
  constructor
  · intro h
    exact tg_j hk h1 (by rw [h.1, h2]) (by rw [h.2, h3])
  · intro h
    rw [h]
    exact ⟨h2, h3⟩
/-- a line's matches: none, or two -/
theorem exL {ch : Ch} (hok : ChOk ch) (h2 : ch.2.2.2.1 ≤ 2) {m : Int} (hm : 1 ≤ m ∧ m ≤ 12) {i : Nat} (hi : i < 184) (hsi : sml m i) {w : Wv} (hw : w = wLine (tgU i) (tgL i) (wSeen ch ch.2.2.2.1)) :
    (¬ (exM w ∧ smA m (fU (wIm w) (wUp w)) (fL (wIm w) (wUp w))) → ∀ o, o < 368 → ¬ exP ch m (368 * i + o)) ∧
    (exM w → smA m (fU (wIm w) (wUp w)) (fL (wIm w) (wUp w)) → isT (fU (wIm w) (wUp w)) (fL (wIm w) (wUp w)) ∧ isT (fU (-wUp w) (wIm w)) (fL (-wUp w) (wIm w)) ∧
      (∀ o, o < 368 → (exP ch m (368 * i + o) ↔ o = 2 * tgI (fU (wIm w) (wUp w)) (fL (wIm w) (wUp w)) ∨ o = 2 * tgI (fU (-wUp w) (wIm w)) (fL (-wUp w) (wIm w)) + 1)) ∧
      (0 ≤ fU (wIm w) (wUp w) → 2 * tgI (fU (wIm w) (wUp w)) (fL (wIm w) (wUp w)) < 2 * tgI (fU (-wUp w) (wIm w)) (fL (-wUp w) (wIm w)) + 1) ∧
      (fU (wIm w) (wUp w) < 0 → 2 * tgI (fU (-wUp w) (wIm w)) (fL (-wUp w) (wIm w)) + 1 < 2 * tgI (fU (wIm w) (wUp w)) (fL (wIm w) (wUp w)))) := by
  obtain ⟨hg, hB⟩ := li_ok hok h2 hi
  rw [← hw] at hg hB
  have fi : ∀ o, o < 368 → (exP ch m (368 * i + o) ↔ sml m (o / 2) ∧ exM w ∧ ((o % 2 = 0 ∧ tgU (o / 2) = fU (wIm w) (wUp w) ∧ tgL (o / 2) = fL (wIm w) (wUp w)) ∨ (o % 2 = 1 ∧ tgU (o / 2) = fU (-wUp w) (wIm w) ∧ tgL (o / 2) = fL (-wUp w) (wIm w)))) := by
    intro o ho
    have ht := tg_t (k := o / 2) (by omega)
    have hm2 : o % 2 = 0 ∨ o % 2 = 1 := by omega
    unfold exP
    rw [beC_a hi ho, beW_a ho, ← hw]
    rcases hm2 with q | q
    · have ef : fiS o = 1 := by unfold fiS; rw [if_pos (by omega)]
      rw [ef, mt_1 ht hg]
      constructor
      · rintro ⟨⟨a, b⟩, c, d⟩; exact ⟨b, c, Or.inl ⟨q, d⟩⟩
      · rintro ⟨b, c, d⟩
        rcases d with d | d
        · exact ⟨⟨hsi, b⟩, c, d.2⟩
        · omega
    · have ef : fiS o = 2 := by unfold fiS; rw [if_neg (by omega)]
      rw [ef, mt_2 ht hg]
      constructor
      · rintro ⟨⟨a, b⟩, c, d⟩; exact ⟨b, c, Or.inr ⟨q, d⟩⟩
      · rintro ⟨b, c, d⟩
        rcases d with d | d
        · omega
        · exact ⟨⟨hsi, b⟩, c, d.2⟩
  constructor
  · intro hn o ho hP
    obtain ⟨hs, hM, hh⟩ := (fi o ho).mp hP
    obtain ⟨x1, x2, x3, x4, x5⟩ := sw_x (N := wIm w) (D := wUp w) hM.1
    refine hn ⟨hM, ?_⟩
    unfold sml at hs
    unfold smA
    rcases hh with ⟨-, a, b⟩ | ⟨-, a, b⟩
    · rw [a, b] at hs; omega
    · rw [a, b] at hs
      by_cases z : 0 < wIm w
      · rw [(x1 z).1, (x1 z).2] at hs
        have := x3.mp z
        omega
      · rw [(x2 (by omega)).1, (x2 (by omega)).2] at hs
        have : ¬ 0 < fU (wIm w) (wUp w) := fun y => z (x3.mpr y)
        omega
  · intro hM hs
    obtain ⟨x1, x2, x3, x4, x5⟩ := sw_x (N := wIm w) (D := wUp w) hM.1
    have nz1 : ¬ (wIm w = 0 ∧ wUp w = 0) := fun y => by have := hM.1; omega
    have nz2 : ¬ (-wUp w = 0 ∧ wIm w = 0) := fun y => by have := hM.1; omega
    unfold smA at hs
    have t1 : isT (fU (wIm w) (wUp w)) (fL (wIm w) (wUp w)) := (isT_fr nz1).mpr (by omega)
    have u2 : (-m ≤ fU (-wUp w) (wIm w) ∧ fU (-wUp w) (wIm w) ≤ m) ∧ fL (-wUp w) (wIm w) ≤ m := by
      by_cases z : 0 < wIm w
      · rw [(x1 z).1, (x1 z).2]; omega
      · rw [(x2 (by omega)).1, (x2 (by omega)).2]; omega
    have t2 : isT (fU (-wUp w) (wIm w)) (fL (-wUp w) (wIm w)) := (isT_fr nz2).mpr (by omega)
    obtain ⟨a1, a2, a3⟩ := tgI_s t1
    obtain ⟨b1, b2, b3⟩ := tgI_s t2
    have p1 := tg_p a1
    have p2 := tg_p b1
    refine ⟨t1, t2, fun o ho => ?_, fun h0 => ?_, fun h0 => ?_⟩
    · rw [fi o ho]
      have k1 := tgI_k t1 (k := o / 2) (by omega)
      have k2 := tgI_k t2 (k := o / 2) (by omega)
      constructor
      · rintro ⟨-, -, d⟩
        rcases d with ⟨q, d⟩ | ⟨q, d⟩
        · have := k1.mp d; omega
        · have := k2.mp d; omega
      · intro d
        rcases d with d | d
        · have e := k1.mpr (by omega)
          exact ⟨by unfold sml; rw [e.1, e.2]; omega, hM, Or.inl ⟨by omega, e⟩⟩
        · have e := k2.mpr (by omega)
          exact ⟨by unfold sml; rw [e.1, e.2]; omega, hM, Or.inr ⟨by omega, e⟩⟩
    · have c1 := p1.1.mpr (by rw [a2, a3]; omega)
      by_cases z : 0 < wIm w
      · have := p2.2.2.mpr (by rw [b2, (x1 z).1]; omega)
        omega
      · have z0 : ¬ wIm w < 0 := fun y => by have := x4.mp y; omega
        have : fU (wIm w) (wUp w) = 0 := by
          have : ¬ 0 < fU (wIm w) (wUp w) := fun y => z (x3.mpr y)
          omega
        have := p2.2.1.mpr (by rw [b3, (x2 (by omega)).2, this]; rfl)
        omega
    · have zz := x4.mpr h0
      have c1 := p1.2.2.mpr (by rw [a2]; exact h0)
      have c2 := p2.1.mpr (by rw [b2, b3, (x2 (by omega)).1, (x2 (by omega)).2]; omega)
      omega
theorem wrap32 {x : Int} : Int32.ofInt (x + 4294967296) = Int32.ofInt x := by
  rw [← add32, show Int32.ofInt 4294967296 = Int32.ofInt 0 by decide, add32, Int.add_zero]
/-- the class tells what it has found -/
def exZ (I : Mi) (k : Int) (s : Int × Nat) : Prop := 0 ≤ k → k < s.1 → I 21 4 = .ofInt ((s.2 / 368 : Nat) : Int) ∧ I 21 5 = .ofInt ((s.2 % 368 / 2 : Nat) : Int) ∧ I 21 6 = .ofInt (1 - ((s.2 % 2 : Nat) : Int))
section
variable {Lx : Nat} {I : Mi} {L : Ml} {e : Nat} {Q : Kq}
/-- a match is noted -/
theorem n_173 (hT : TabAt I) {p q : Int} (ht : isT p q) (hv : FrcAt L 18 p q) (h : Q (.inl none) (gE Lx) (ui I 21 5 (Int32.ofInt (tgI p q : Int))) L e) : Wp 173 91 [(0, .ref 1)] [] (gE Lx) I L e Q := by
  refine s_173_91 ?_
  rw [hv.1, hv.2]
  exact c_72 hT ht (kcp_v rfl (s_173_116 h))
set_option maxHeartbeats 8000000 in
theorem l_171 {I0 : Mi} {ch : Ch} (hok : ChOk ch) (h2 : ch.2.2.2.1 ≤ 2) (hT0 : TabAt I0) {m k : Int} (hm : 1 ≤ m ∧ m ≤ 12) (hk : R32 k)
    (fin : ∀ I' L', FrI [(21, 0, 0)] I0 I' → exZ I' k (exR ch m k) → Q (.inl (some (.int (Int32.ofInt (exR ch m k).1)))) (gE Lx) I' L' e) :
    ∀ (s i : Nat), i + s = 184 → ∀ (I : Mi) (L : Ml), FrI [(21, 0, 0)] I0 I → WvAt L 15 (wSeen ch ch.2.2.2.1) → (exT (exP ch m) k (368 * i)).1 ≤ 2 * i → exZ I k (exT (exP ch m) k (368 * i)) →
    Wp 171 23 [(0, .ref 1), (1, .int (Int32.ofInt m)), (2, .int (Int32.ofInt k)), (3, .int (Int32.ofInt (exT (exP ch m) k (368 * i)).1)), (4, .int (Int32.ofInt i))] [] (gE Lx) I L e Q := by
  intro s
  induction s with
  | zero =>
    intro i hi I L hf hW hc hz
    have : i = 184 := by omega
    subst this
    have e1 : exT (exP ch m) k (368 * 184) = exR ch m k := by rw [show 368 * 184 = beT from beT_e.symm]; rfl
    rw [e1] at hz ⊢
    exact s_171_23 (i_lt32 (by omega) (by omega) (fun _ => by omega) (fun _ => fin I L hf hz))
  | succ s ih =>
    intro i hi I L hf hW hc hz
    have hi2 : i < 184 := by omega
    have tb := tg_b hi2
    have hT : TabAt I := hT0.cg (hf.at rfl) (hf.at rfl)
    have cb := (exT_v (P := exP ch m) (k := k) (368 * i)).1
    have e368 : 368 * (i + 1) = 368 * i + 368 := by omega
    have none' : (∀ o, o < 368 → ¬ exP ch m (368 * i + o)) → ∀ L', WvAt L' 15 (wSeen ch ch.2.2.2.1) → Wp 171 23 [(0, .ref 1), (1, .int (Int32.ofInt m)), (2, .int (Int32.ofInt k)), (3, .int (Int32.ofInt (exT (exP ch m) k (368 * i)).1)), (4, .int (Int32.ofInt (i : Int) + Int32.ofInt 1))] [] (gE Lx) I L' e Q := by
      intro hn L' hW'
      have e1 : exT (exP ch m) k (368 * (i + 1)) = exT (exP ch m) k (368 * i) := by
        rw [e368]
        exact exT_g 368 (368 * i) (fun t h1 h2 q => hn (t - 368 * i) (by omega) (by rw [show 368 * i + (t - 368 * i) = t by omega]; exact q))
      have := ih (i + 1) (by omega) I L' hf hW' (by rw [e1]; omega) (by rw [e1]; exact hz)
      rw [e1] at this
      rw [add32]
      exact this
    refine s_171_23 (i_lt32 (by omega) (by omega) (fun _ => ?_) (fun _ => by omega))
    refine c_71 hT hi2 hm (fun q => kcp_v rfl (s_171_41 (j_1 (c_69 hT hi2 (kcp_v rfl (s_171_68 (c_70 hT hi2 (kcp_v rfl (s_171_78 ?_))))))))) (fun q => kcp_v rfl (s_171_41 (j_0 ?_)))
    rotate_left
    · refine none' (fun o ho w => q ?_) L hW
      have := ((beC_a hi2 ho).mp w.1).1
      exact this
    rw [i2l (by omega), i2l (by omega)]
    refine c_76 (x := wSeen ch ch.2.2.2.1) (Or.inr (Or.inr rfl)) ⟨hW.1, hW.2.1, hW.2.2.1, hW.2.2.2⟩ (fun L2 hf2 hW2 => kcp_v rfl (s_171_82 ?_))
    have hf3 := FrL.tr (S := [(16, 0, 4)]) (fr4 rfl rfl rfl rfl) hf2 rfl rfl
    have hW15 : WvAt L2 15 (wSeen ch ch.2.2.2.1) := hW.cg (hf3.at rfl)
    obtain ⟨lg, lb⟩ := li_ok hok h2 hi2
    have xl := exL hok h2 hm hi2 q (w := wLine (tgU i) (tgL i) (wSeen ch ch.2.2.2.1)) rfl
    generalize hwe : wLine (tgU i) (tgL i) (wSeen ch ch.2.2.2.1) = w at *
    obtain ⟨v1, v2, v3, v4, v5, v6⟩ := wv_b lb
    have vn := wUp_nn w
    obtain ⟨w0, w1, w2, w3⟩ := hW2
    have eup : L2 16 0 * L2 16 0 + L2 16 1 * L2 16 1 = Int64.ofInt (wUp w) := by rw [w0, w1]; simp only [mul64, add64]; rfl
    have ere : L2 16 0 * L2 16 2 + L2 16 1 * L2 16 3 = Int64.ofInt (wRe w) := by rw [w0, w1, w2, w3]; simp only [mul64, add64]; rfl
    have eim : L2 16 1 * L2 16 2 - L2 16 0 * L2 16 3 = Int64.ofInt (wIm w) := by rw [w0, w1, w2, w3]; simp only [mul64, sub64]; rfl
    have nm : ¬ exM w → Wp 171 91 [(0, .ref 1), (1, .int (Int32.ofInt m)), (2, .int (Int32.ofInt k)), (3, .int (Int32.ofInt (exT (exP ch m) k (368 * i)).1)), (4, .int (Int32.ofInt (i : Int)))] [.int (Int32.ofInt 0)] (gE Lx) I L2 e Q := fun z =>
      s_171_91 (j_0 (none' (xl.1 (fun y => z y.1)) L2 hW15))
    rw [eup, ere, eim]
    refine i_lt64 (by omega) (by omega) (fun z1 => i_eq64 (by omega) (by omega) (fun z2 => ?_) (fun z2 => nm (fun y => z2 y.2))) (fun z1 => nm (fun y => by have := y.1; omega))
    have hM : exM w := ⟨z1, z2⟩
    have nz1 : ¬ (wIm w = 0 ∧ wUp w = 0) := fun y => by omega
    refine c_25 (Or.inl rfl) (by omega) (by omega) (fun L3 hf4 hv3 => kcp_v rfl (s_172_34 ?_))
    have hW3 : WvAt L3 15 (wSeen ch ch.2.2.2.1) := hW15.cg (hf4.at rfl)
    have fb := fUL_b nz1 (B := 2157696310910976) v2 (by omega)
    have no3 : ¬ smA m (fU (wIm w) (wUp w)) (fL (wIm w) (wUp w)) → kcp (Wp 171) 171 88 0 [(0, .ref 1), (1, .int (Int32.ofInt m)), (2, .int (Int32.ofInt k)), (3, .int (Int32.ofInt (exT (exP ch m) k (368 * i)).1)), (4, .int (Int32.ofInt (i : Int)))] 71 [] Q (.inl (some (.int (Int32.ofInt 0)))) (gE Lx) I L3 e := fun z =>
      kcp_v rfl (s_171_91 (j_0 (none' (xl.1 (fun y => z y.2)) L3 hW3)))
    rw [hv3.1, hv3.2, neg32, i2l (by omega), i2l (by omega)]
    refine i_lt64 (by omega) (by omega) (fun z => no3 (fun y => by have := y.1; omega)) (fun y1 => i_lt64 (by omega) (by omega) (fun z => no3 (fun y => by have := y.2.1; omega)) (fun y2 => i_lt64 (by omega) (by omega) (fun z => no3 (fun y => by have := y.2.2; omega)) (fun y3 => kcp_v rfl (s_171_91 (j_1 ?_)))))
    obtain ⟨t1, t2, hP, o1, o2⟩ := xl.2 hM ⟨y1, y2, y3⟩
    obtain ⟨x1, x2, x3, x4, x5⟩ := sw_x (N := wIm w) (D := wUp w) z1
    have ki1 := (tgI_s t1).1
    have ki2 := (tgI_s t2).1
    have e25 : fU (-fL (wIm w) (wUp w)) (fU (wIm w) (wUp w)) = fU (-wUp w) (wIm w) ∧ fL (-fL (wIm w) (wUp w)) (fU (wIm w) (wUp w)) = fL (-wUp w) (wIm w) := by
      have hg := gI_pos nz1
      have e1 : wIm w = gI (wIm w) (wUp w) * fU (wIm w) (wUp w) := by
        unfold fU; rw [if_neg nz1, if_neg (by omega)]; exact (Int.mul_ediv_cancel' (gI_dl _ _)).symm
      have e2 : wUp w = gI (wIm w) (wUp w) * fL (wIm w) (wUp w) := by
        unfold fL; rw [if_neg nz1, if_neg (by omega)]; exact (Int.mul_ediv_cancel' (gI_dr _ _)).symm
      generalize gI (wIm w) (wUp w) = g at *
      generalize fU (wIm w) (wUp w) = u at *
      generalize fL (wIm w) (wUp w) = l at *
      have a := fU_mul (k := g) (a := -l) (b := u) hg
      have b := fL_mul (k := g) (a := -l) (b := u) hg
      rw [Int.mul_neg, ← e2, ← e1] at a b
      exact ⟨a.symm, b.symm⟩
    have hTu : ∀ (x : Int32), TabAt (ui (ui I 21 4 (Int32.ofInt (i : Int))) 21 6 x) := fun x => hT.cg rfl rfl
    have go : ∀ (I' : Mi) (L' : Ml), FrI [(21, 0, 0)] I0 I' → WvAt L' 15 (wSeen ch ch.2.2.2.1) → exZ I' k (exT (exP ch m) k (368 * (i + 1))) → Wp 171 103 [(0, .ref 1), (1, .int (Int32.ofInt m)), (2, .int (Int32.ofInt k)), (3, .int (Int32.ofInt (exT (exP ch m) k (368 * i)).1)), (4, .int (Int32.ofInt (i : Int)))] [] (gE Lx) I' L' e Q := by
      intro I' L' hf' hW' hz'
      have e1 : (exT (exP ch m) k (368 * (i + 1))).1 = (exT (exP ch m) k (368 * i)).1 + 2 := by
        rw [e368]
        by_cases z : 0 ≤ fU (wIm w) (wUp w)
        · rw [exT_2 (o1 z) (by omega) hP]
          show _ + 1 + 1 = _ + 2
          omega
        · rw [exT_2 (o2 (by omega)) (by omega) (fun o ho => by rw [hP o ho]; exact Or.comm)]
          show _ + 1 + 1 = _ + 2
          omega
      refine s_171_103 ?_
      rw [add32, add32]
      have := ih (i + 1) (by omega) I' L' hf' hW' (by rw [e1]; omega) hz'
      rw [e1] at this
      exact this
    -- one of both is noted
    have op : ∀ (zz : exT (exP ch m) k (368 * (i + 1)) = ((exT (exP ch m) k (368 * i)).1 + 1 + 1, 368 * i + 2 * tgI (fU (wIm w) (wUp w)) (fL (wIm w) (wUp w)))), Wp 173 91 [(0, .ref 1)] [] (gE Lx) (ui (ui I 21 4 (Int32.ofInt (i : Int))) 21 6 (Int32.ofInt 1)) L3 e (kcp (Wp 171) 171 100 0 [(0, .ref 1), (1, .int (Int32.ofInt m)), (2, .int (Int32.ofInt k)), (3, .int (Int32.ofInt (exT (exP ch m) k (368 * i)).1)), (4, .int (Int32.ofInt (i : Int)))] 71 [] Q) := by
      intro zz
      refine n_173 (hTu _) t1 hv3 (kcp_v rfl (go _ L3 (FrI.wu (FrI.wu (FrI.wu hf rfl) rfl) rfl) hW3 (fun _ _ => ?_)))
      rw [zz]
      dsimp only
      rw [show (368 * i + 2 * tgI (fU (wIm w) (wUp w)) (fL (wIm w) (wUp w))) / 368 = i by omega, show (368 * i + 2 * tgI (fU (wIm w) (wUp w)) (fL (wIm w) (wUp w))) % 368 / 2 = tgI (fU (wIm w) (wUp w)) (fL (wIm w) (wUp w)) by omega, show (368 * i + 2 * tgI (fU (wIm w) (wUp w)) (fL (wIm w) (wUp w))) % 2 = 0 by omega]
      exact ⟨rfl, rfl, rfl⟩
    have sh : ∀ (zz : exT (exP ch m) k (368 * (i + 1)) = ((exT (exP ch m) k (368 * i)).1 + 1 + 1, 368 * i + (2 * tgI (fU (-wUp w) (wIm w)) (fL (-wUp w) (wIm w)) + 1))), Wp 25 0 [(0, .ref 18), (1, .long (-(Int64.ofInt (fL (wIm w) (wUp w))))), (3, .long (Int64.ofInt (fU (wIm w) (wUp w))))] [] (gE Lx) (ui (ui I 21 4 (Int32.ofInt (i : Int))) 21 6 (Int32.ofInt 0)) L3 e (kcp (Wp 173) 173 88 0 [(0, .ref 1)] 71 [] (kcp (Wp 171) 171 100 0 [(0, .ref 1), (1, .int (Int32.ofInt m)), (2, .int (Int32.ofInt k)), (3, .int (Int32.ofInt (exT (exP ch m) k (368 * i)).1)), (4, .int (Int32.ofInt (i : Int)))] 71 [] Q)) := by
      intro zz
      rw [neg64]
      refine c_25 (Or.inl rfl) (by omega) (by omega) (fun L4 hf5 hv4 => kcp_v rfl ?_)
      rw [e25.1, e25.2] at hv4
      refine n_173 (hTu _) t2 hv4 (kcp_v rfl (go _ L4 (FrI.wu (FrI.wu (FrI.wu hf rfl) rfl) rfl) (hW3.cg (hf5.at rfl)) (fun _ _ => ?_)))
      rw [zz]
      dsimp only
      rw [show (368 * i + (2 * tgI (fU (-wUp w) (wIm w)) (fL (-wUp w) (wIm w)) + 1)) / 368 = i by omega, show (368 * i + (2 * tgI (fU (-wUp w) (wIm w)) (fL (-wUp w) (wIm w)) + 1)) % 368 / 2 = tgI (fU (-wUp w) (wIm w)) (fL (-wUp w) (wIm w)) by omega, show (368 * i + (2 * tgI (fU (-wUp w) (wIm w)) (fL (-wUp w) (wIm w)) + 1)) % 2 = 1 by omega]
      exact ⟨rfl, rfl, rfl⟩
    have x2a : ∀ (ha : 0 ≤ fU (wIm w) (wUp w)), exT (exP ch m) k (368 * (i + 1)) = ((exT (exP ch m) k (368 * i)).1 + 1 + 1, iP ((exT (exP ch m) k (368 * i)).1 = k) (368 * i + 2 * tgI (fU (wIm w) (wUp w)) (fL (wIm w) (wUp w))) (iP ((exT (exP ch m) k (368 * i)).1 + 1 = k) (368 * i + (2 * tgI (fU (-wUp w) (wIm w)) (fL (-wUp w) (wIm w)) + 1)) (exT (exP ch m) k (368 * i)).2)) := fun ha => by
      rw [e368]
      exact exT_2 (o1 ha) (by omega) hP
    have x2b : ∀ (ha : fU (wIm w) (wUp w) < 0), exT (exP ch m) k (368 * (i + 1)) = ((exT (exP ch m) k (368 * i)).1 + 1 + 1, iP ((exT (exP ch m) k (368 * i)).1 = k) (368 * i + (2 * tgI (fU (-wUp w) (wIm w)) (fL (-wUp w) (wIm w)) + 1)) (iP ((exT (exP ch m) k (368 * i)).1 + 1 = k) (368 * i + 2 * tgI (fU (wIm w) (wUp w)) (fL (wIm w) (wUp w))) (exT (exP ch m) k (368 * i)).2)) := fun ha => by
      rw [e368]
      exact exT_2 (o2 ha) (by omega) (fun o ho => by rw [hP o ho]; exact Or.comm)
    have sm1 : ∀ d : Int, R32 d → (d = 0 ↔ k = (exT (exP ch m) k (368 * i)).1) → (d = 1 ↔ k = (exT (exP ch m) k (368 * i)).1 + 1) → Int32.ofInt k - Int32.ofInt (exT (exP ch m) k (368 * i)).1 = Int32.ofInt d → _ := fun d hd d0 d1 ed => by
      exact (show (if (Int32.ofInt k - Int32.ofInt (exT (exP ch m) k (368 * i)).1) = 0 then
      (if (Int32.ofInt k - Int32.ofInt (exT (exP ch m) k (368 * i)).1) = 0 then
       (if (Int64.ofInt (fU (wIm w) (wUp w))) < (Int64.ofInt 0) then
        Wp 25 0 [(0, .ref 18), (1, .long (-(Int64.ofInt (fL (wIm w) (wUp w))))), (3, .long (Int64.ofInt (fU (wIm w) (wUp w))))] [] (gE Lx) (ui (ui I 21 4 (Int32.ofInt (i : Int))) 21 6 (Int32.ofInt 0)) L3 e (kcp (Wp 173) 173 88 0 [(0, .ref 1)] 71 [] (kcp (Wp 171) 171 100 0 [(0, .ref 1), (1, .int (Int32.ofInt m)), (2, .int (Int32.ofInt k)), (3, .int (Int32.ofInt (exT (exP ch m) k (368 * i)).1)), (4, .int (Int32.ofInt (i : Int)))] 71 [] Q))
       else
        Wp 173 91 [(0, .ref 1)] [] (gE Lx) (ui (ui I 21 4 (Int32.ofInt (i : Int))) 21 6 (Int32.ofInt 1)) L3 e (kcp (Wp 171) 171 100 0 [(0, .ref 1), (1, .int (Int32.ofInt m)), (2, .int (Int32.ofInt k)), (3, .int (Int32.ofInt (exT (exP ch m) k (368 * i)).1)), (4, .int (Int32.ofInt (i : Int)))] 71 [] Q))
      else
       (if (Int64.ofInt (fU (wIm w) (wUp w))) < (Int64.ofInt 0) then
        Wp 173 91 [(0, .ref 1)] [] (gE Lx) (ui (ui I 21 4 (Int32.ofInt (i : Int))) 21 6 (Int32.ofInt 1)) L3 e (kcp (Wp 171) 171 100 0 [(0, .ref 1), (1, .int (Int32.ofInt m)), (2, .int (Int32.ofInt k)), (3, .int (Int32.ofInt (exT (exP ch m) k (368 * i)).1)), (4, .int (Int32.ofInt (i : Int)))] 71 [] Q)
       else
        Wp 25 0 [(0, .ref 18), (1, .long (-(Int64.ofInt (fL (wIm w) (wUp w))))), (3, .long (Int64.ofInt (fU (wIm w) (wUp w))))] [] (gE Lx) (ui (ui I 21 4 (Int32.ofInt (i : Int))) 21 6 (Int32.ofInt 0)) L3 e (kcp (Wp 173) 173 88 0 [(0, .ref 1)] 71 [] (kcp (Wp 171) 171 100 0 [(0, .ref 1), (1, .int (Int32.ofInt m)), (2, .int (Int32.ofInt k)), (3, .int (Int32.ofInt (exT (exP ch m) k (368 * i)).1)), (4, .int (Int32.ofInt (i : Int)))] 71 [] Q))))
     else
      (if (Int32.ofInt k - Int32.ofInt (exT (exP ch m) k (368 * i)).1) = (Int32.ofInt 1) then
       (if (Int32.ofInt k - Int32.ofInt (exT (exP ch m) k (368 * i)).1) = 0 then
        (if (Int64.ofInt (fU (wIm w) (wUp w))) < (Int64.ofInt 0) then
         Wp 25 0 [(0, .ref 18), (1, .long (-(Int64.ofInt (fL (wIm w) (wUp w))))), (3, .long (Int64.ofInt (fU (wIm w) (wUp w))))] [] (gE Lx) (ui (ui I 21 4 (Int32.ofInt (i : Int))) 21 6 (Int32.ofInt 0)) L3 e (kcp (Wp 173) 173 88 0 [(0, .ref 1)] 71 [] (kcp (Wp 171) 171 100 0 [(0, .ref 1), (1, .int (Int32.ofInt m)), (2, .int (Int32.ofInt k)), (3, .int (Int32.ofInt (exT (exP ch m) k (368 * i)).1)), (4, .int (Int32.ofInt (i : Int)))] 71 [] Q))
        else
         Wp 173 91 [(0, .ref 1)] [] (gE Lx) (ui (ui I 21 4 (Int32.ofInt (i : Int))) 21 6 (Int32.ofInt 1)) L3 e (kcp (Wp 171) 171 100 0 [(0, .ref 1), (1, .int (Int32.ofInt m)), (2, .int (Int32.ofInt k)), (3, .int (Int32.ofInt (exT (exP ch m) k (368 * i)).1)), (4, .int (Int32.ofInt (i : Int)))] 71 [] Q))
       else
        (if (Int64.ofInt (fU (wIm w) (wUp w))) < (Int64.ofInt 0) then
         Wp 173 91 [(0, .ref 1)] [] (gE Lx) (ui (ui I 21 4 (Int32.ofInt (i : Int))) 21 6 (Int32.ofInt 1)) L3 e (kcp (Wp 171) 171 100 0 [(0, .ref 1), (1, .int (Int32.ofInt m)), (2, .int (Int32.ofInt k)), (3, .int (Int32.ofInt (exT (exP ch m) k (368 * i)).1)), (4, .int (Int32.ofInt (i : Int)))] 71 [] Q)
        else
         Wp 25 0 [(0, .ref 18), (1, .long (-(Int64.ofInt (fL (wIm w) (wUp w))))), (3, .long (Int64.ofInt (fU (wIm w) (wUp w))))] [] (gE Lx) (ui (ui I 21 4 (Int32.ofInt (i : Int))) 21 6 (Int32.ofInt 0)) L3 e (kcp (Wp 173) 173 88 0 [(0, .ref 1)] 71 [] (kcp (Wp 171) 171 100 0 [(0, .ref 1), (1, .int (Int32.ofInt m)), (2, .int (Int32.ofInt k)), (3, .int (Int32.ofInt (exT (exP ch m) k (368 * i)).1)), (4, .int (Int32.ofInt (i : Int)))] 71 [] Q))))
      else
       Wp 171 103 [(0, .ref 1), (1, .int (Int32.ofInt m)), (2, .int (Int32.ofInt k)), (3, .int (Int32.ofInt (exT (exP ch m) k (368 * i)).1)), (4, .int (Int32.ofInt (i : Int)))] [] (gE Lx) I L3 e Q)) by
        rw [ed]
        refine i_eqz hd (fun q0 => i_eqz hd (fun _ => ?_) (fun y => absurd q0 y)) (fun q0 => i_eq32 hd (by omega) (fun q1 => i_eqz hd (fun y => absurd y q0) (fun _ => ?_)) (fun q1 => ?_))
        · have ek := d0.mp q0
          refine i_lt64 (by omega) (by omega) (fun z => sh ?_) (fun z => op ?_)
          · rw [x2b z, iP_t ek.symm]
          · rw [x2a z, iP_t ek.symm]
        · have ek := d1.mp q1
          refine i_lt64 (by omega) (by omega) (fun z => op ?_) (fun z => sh ?_)
          · rw [x2b z, iP_f (by omega), iP_t ek.symm]
          · rw [x2a z, iP_f (by omega), iP_t ek.symm]
        · have n0 : ¬ (exT (exP ch m) k (368 * i)).1 = k := fun y => q0 (d0.mpr y.symm)
          have n1 : ¬ (exT (exP ch m) k (368 * i)).1 + 1 = k := fun y => q1 (d1.mpr y.symm)
          refine go I L3 hf hW3 (fun k0 k1 => ?_)
          have es : (exT (exP ch m) k (368 * (i + 1))) = ((exT (exP ch m) k (368 * i)).1 + 1 + 1, (exT (exP ch m) k (368 * i)).2) := by
            by_cases z : 0 ≤ fU (wIm w) (wUp w)
            · rw [x2a z, iP_f n0, iP_f n1]
            · rw [x2b (by omega), iP_f n0, iP_f n1]
          rw [es] at k1 ⊢
          dsimp only at k1 ⊢
          exact hz k0 (by omega))
    rw [hv3.1, hv3.2]
    by_cases wr : k - (exT (exP ch m) k (368 * i)).1 < -2147483648
    · exact sm1 (k - (exT (exP ch m) k (368 * i)).1 + 4294967296) (by omega) (by omega) (by omega) (by rw [sub32, wrap32])
    · exact sm1 (k - (exT (exP ch m) k (368 * i)).1) (by omega) (by omega) (by omega) sub32
end
