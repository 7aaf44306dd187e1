/-! build: both sides. -/
theorem ui_cm {I : Mi} {a j k : Nat} {x y : Int32} (h : k ≠ j) : ui (ui I a j x) a k y = ui (ui I a k y) a j x := by
  funext i m
  simp only [ui_app]
  by_cases h1 : i = a ∧ m = k
  · rw [if_pos h1, if_neg (fun q => h (h1.2.symm.trans q.2)), if_pos h1]
  · rw [if_neg h1, if_neg h1]
theorem ui_ov {I : Mi} {a j : Nat} {x y : Int32} : ui (ui I a j x) a j y = ui I a j y := by
  funext i m
  simp only [ui_app]
  by_cases h1 : i = a ∧ m = j
  · rw [if_pos h1, if_pos h1]
  · rw [if_neg h1, if_neg h1, if_neg h1]
theorem bn_put {ch : Ch} {J : Mi} {k n : Nat} {t p q : Int} (hc : BnAt J 59 0 ch) (hz : ∀ j, j < n → j ≠ k → j < ch.2.2.2.1) :
    BnAt (ui (ui (ui (ui J 59 (4 + 3 * k) (Int32.ofInt t)) 59 (5 + 3 * k) (Int32.ofInt p)) 59 (6 + 3 * k) (Int32.ofInt q)) 59 3 (Int32.ofInt (n : Int))) 59 0 (ch.1, ch.2.1, ch.2.2.1, n, fun j => if j = k then (t, p, q) else ch.2.2.2.2 j) := by
  refine bn_of hc hz (fun j => ?_)
  by_cases a : j = 3
  · subst a; rw [u_at, if_pos rfl]
  · rw [u_ne a, if_neg a]
    by_cases b : j = 6 + 3 * k
    · subst b; rw [u_at, if_neg (by omega), if_neg (by omega), if_pos rfl]
    · rw [u_ne b]
      by_cases c : j = 5 + 3 * k
      · subst c; rw [u_at, if_neg (by omega), if_pos rfl]
      · rw [u_ne c]
        by_cases d : j = 4 + 3 * k
        · subst d; rw [u_at, if_pos rfl]
        · rw [u_ne d, if_neg d, if_neg c, if_neg b]
theorem bn_two {ch : Ch} {J : Mi} {n : Nat} {x y : Int × Int × Int} (hn : ch.2.2.2.1 = n) (hc : BnAt J 59 0 ch) :
    BnAt (ui (ui (ui (ui (ui (ui (ui J 59 (4 + 3 * n) (Int32.ofInt x.1)) 59 (5 + 3 * n) (Int32.ofInt x.2.1)) 59 (6 + 3 * n) (Int32.ofInt x.2.2)) 59 (4 + 3 * (n + 1)) (Int32.ofInt y.1)) 59 (5 + 3 * (n + 1)) (Int32.ofInt y.2.1)) 59 (6 + 3 * (n + 1)) (Int32.ofInt y.2.2)) 59 3 (Int32.ofInt ((n + 2 : Nat) : Int))) 59 0 (chAdd (chAdd ch x) y) := by
  have h1 := bn_put (k := n) (n := n + 1) (t := x.1) (p := x.2.1) (q := x.2.2) hc (fun j h1 h2 => by omega)
  have h2 := bn_put (k := n + 1) (n := n + 2) (t := y.1) (p := y.2.1) (q := y.2.2) h1 (fun j h1 h2 => by show j < n + 1; omega)
  rw [ui_cm (k := 4 + 3 * (n + 1)) (j := 3) (by omega), ui_cm (k := 5 + 3 * (n + 1)) (j := 3) (by omega), ui_cm (k := 6 + 3 * (n + 1)) (j := 3) (by omega), ui_ov] at h2
  unfold chAdd
  rw [hn]
  exact h2
theorem ch_ap {ch : Ch} {I : Mi} {n : Nat} {x : Int × Int × Int} (hn : ch.2.2.2.1 = n) (hc : ChAt I 5 ch) :
    ChAt (ui (ui (ui (ui I 6 n (Int32.ofInt x.1)) 7 n (Int32.ofInt x.2.1)) 8 n (Int32.ofInt x.2.2)) 5 3 (Int32.ofInt ((n + 1 : Nat) : Int))) 5 (chAdd ch x) := by
  obtain ⟨c0, c1, c2, c3, c4⟩ := hc
  unfold chAdd
  rw [hn]
  refine ⟨c0, c1, c2, ?_, fun j hj => ?_⟩
  · rw [u_at]
  · have hj : j < n + 1 := hj
    show _ = Int32.ofInt (if j = n then x else ch.2.2.2.2 j).1 ∧ _ = Int32.ofInt (if j = n then x else ch.2.2.2.2 j).2.1 ∧ _ = Int32.ofInt (if j = n then x else ch.2.2.2.2 j).2.2
    simp only [ui_app]
    by_cases hj2 : j = n
    · simp [hj2]
    · have := c4 j (by omega)
      simp [hj2]
      exact this
theorem ch_two {ch : Ch} {I : Mi} {n : Nat} {x y : Int × Int × Int} (hn : ch.2.2.2.1 = n) (hc : ChAt I 5 ch) :
    ChAt (ui (ui (ui (ui (ui (ui (ui (ui I 6 n (Int32.ofInt x.1)) 7 n (Int32.ofInt x.2.1)) 8 n (Int32.ofInt x.2.2)) 5 3 (Int32.ofInt ((n + 1 : Nat) : Int))) 6 (n + 1) (Int32.ofInt y.1)) 7 (n + 1) (Int32.ofInt y.2.1)) 8 (n + 1) (Int32.ofInt y.2.2)) 5 3 (Int32.ofInt ((n + 1 + 1 : Nat) : Int))) 5 (chAdd (chAdd ch x) y) :=
  ch_ap (n := n + 1) (by show ch.2.2.2.1 + 1 = n + 1; rw [hn]) (ch_ap hn hc)
noncomputable def plF (k al : Int) (z : Pt) : Int × Int := (fU (plN k al z).1 (plN k al z).2, fL (plN k al z).1 (plN k al z).2)
noncomputable def ndS (k al : Int) (z : Pt) : Int := nsg k al z * rt (pU z)
/-- the stub's TANGENT -/
noncomputable def bldS (k al op : Int) (z : Pt) : Int × Int := if al = op then (fU (-(z.1 * z.2.2)) (ndS k al z), fL (-(z.1 * z.2.2)) (ndS k al z)) else (fU (ndS k al z) (z.1 * z.2.2), fL (ndS k al z) (z.1 * z.2.2))
def srtS (al op : Int) : Int := if al = 0 then (if op = 0 then 2 else 1) else (if op = 0 then 4 else 3)
def bldOk (ch : Ch) (k al op : Int) : Prop := fine (wSeen ch ch.2.2.2.1) ∧ (0 ≤ k ∧ k < pM (pt (wSeen ch ch.2.2.2.1))) ∧ pSq (pt (wSeen ch ch.2.2.2.1)) ∧ ch.2.2.2.1 ≤ 2 ∧ isT (plF k al (pt (wSeen ch ch.2.2.2.1))).1 (plF k al (pt (wSeen ch ch.2.2.2.1))).2 ∧ isT (bldS k al op (pt (wSeen ch ch.2.2.2.1))).1 (bldS k al op (pt (wSeen ch ch.2.2.2.1))).2
noncomputable def spBuild (ch : Ch) (k al op : Int) : Nat × Int × Ch := iP (bldOk ch k al op) (0, (ch.2.2.2.1 : Int) + 2, chAdd (chAdd ch (0, plF k al (pt (wSeen ch ch.2.2.2.1)))) (srtS al op, bldS k al op (pt (wSeen ch ch.2.2.2.1)))) (1, 0, ch)
theorem chAdd_ok {ch : Ch} (h : ChOk ch) (h4 : ch.2.2.2.1 < 4) {x : Int × Int × Int} (hx : ElOk x) : ChOk (chAdd ch x) := by
  refine ⟨h.1, h.2.1, h.2.2.1, h4, fun j hj => ?_⟩
  have hj : j < ch.2.2.2.1 + 1 := hj
  show ElOk (if j = ch.2.2.2.1 then x else ch.2.2.2.2 j)
  by_cases hj2 : j = ch.2.2.2.1
  · rw [if_pos hj2]; exact hx
  · rw [if_neg hj2]; exact h.2.2.2.2 j (by omega)
theorem srtS_b (al op : Int) : 0 ≤ srtS al op ∧ srtS al op ≤ 4 := by
  unfold srtS
  repeat' split
  all_goals omega
theorem spBuild_ok {ch : Ch} (h : ChOk ch) {k al op : Int} : ChOk (spBuild ch k al op).2.2 := by
  unfold spBuild
  rcases Classical.em (bldOk ch k al op) with q | q
  · rw [iP_t q]
    obtain ⟨q1, q2, q3, q4, q5, q6⟩ := q
    exact chAdd_ok (chAdd_ok h (by omega) ⟨⟨Int.le_refl 0, show (0 : Int) ≤ 4 by decide⟩, q5⟩) (by show ch.2.2.2.1 + 1 < 4; omega) ⟨srtS_b al op, q6⟩
  · rw [iP_f q]; exact h
theorem plF_b {k al : Int} {z : Pt} (ho : PtOk z) (hm : 0 < pM z) : (-4000000 ≤ (plN k al z).1 ∧ (plN k al z).1 ≤ 4000000) ∧ (-4000000 ≤ (plN k al z).2 ∧ (plN k al z).2 ≤ 4000000) ∧ (-4000000 ≤ (plF k al z).1 ∧ (plF k al z).1 ≤ 4000000) ∧ (-4000000 ≤ (plF k al z).2 ∧ (plF k al z).2 ≤ 4000000) := by
  obtain ⟨p1, p2, p3, p4, p5, p6⟩ := pt_b ho al
  have hr := side_r k al z
  have q1 := rt_sp p4.1
  have q2 : rt (pU z) < 2000000 := q1.b (by omega) (by omega)
  have q0 := q1.1
  have a : (-4000000 ≤ (plN k al z).1 ∧ (plN k al z).1 ≤ 4000000) ∧ (-4000000 ≤ (plN k al z).2 ∧ (plN k al z).2 ≤ 4000000) := by
    have mr : -2000000 ≤ side k al z * rt (pU z) ∧ side k al z * rt (pU z) ≤ 2000000 := by rcases hr with k | k <;> rw [k] <;> omega
    unfold plN
    by_cases h1 : pL al z = 0
    · rw [if_pos h1]
      split
      · exact ⟨⟨by decide, by decide⟩, ⟨by decide, by decide⟩⟩
      · exact ⟨by dsimp only; omega, by dsimp only; omega⟩
    · rw [if_neg h1]
      exact ⟨by dsimp only; omega, by dsimp only; omega⟩
  have hnz := plN_nz (k := k) (al := al) ho hm
  have f := fUL_b hnz a.1 a.2
  exact ⟨a.1, a.2, f.1, f.2⟩
theorem ndS_b {k al : Int} {z : Pt} (ho : PtOk z) : -2000000 ≤ ndS k al z ∧ ndS k al z ≤ 2000000 := by
  obtain ⟨p1, p2, p3, p4, p5, p6⟩ := pt_b ho al
  have q1 := rt_sp p4.1
  have q2 : rt (pU z) < 2000000 := q1.b (by omega) (by omega)
  have q0 := q1.1
  unfold ndS
  rcases nsg_r k al z with k | k <;> rw [k] <;> omega
theorem bldS_b {k al op : Int} {z : Pt} (ho : PtOk z) (hm : 0 < pM z) : (-2000000 ≤ (bldS k al op z).1 ∧ (bldS k al op z).1 ≤ 2000000) ∧ (-2000000 ≤ (bldS k al op z).2 ∧ (bldS k al op z).2 ≤ 2000000) ∧ 0 < z.1 * z.2.2 ∧ z.1 * z.2.2 ≤ 1000000 := by
  obtain ⟨p1, p2, p3⟩ := pM_n ho hm
  obtain ⟨q1, q2, q3, q4, q5, q6⟩ := pt_b ho al
  have hz : 0 < z.1 * z.2.2 := Int.mul_pos p1 (by have := ho.2.2; omega)
  have nb := ndS_b (k := k) (al := al) ho
  unfold bldS
  split
  · have f := fUL_b (a := -(z.1 * z.2.2)) (b := ndS k al z) (B := 2000000) (by omega) (by omega) nb
    exact ⟨f.1, f.2, hz, q5.2⟩
  · have f := fUL_b (a := ndS k al z) (b := z.1 * z.2.2) (B := 2000000) (by omega) nb (by omega)
    exact ⟨f.1, f.2, hz, q5.2⟩
section
variable {Lx : Nat} {I : Mi} {L : Ml} {e : Nat} {Q : Kq}
set_option maxHeartbeats 8000000 in
theorem h_389 {ch : Ch} (hok : ChOk ch) (hc : ChAt I 5 ch) {al k op : Int} (hal : al = 0 ∨ al = 1) (hk : R32 k) (hop : op = 0 ∨ op = 1) (h : CW Lx I e Q true (spBuild ch k al op)) :
    Wp 389 0 [(0, .ref 1), (1, .int (Int32.ofInt al)), (2, .int (Int32.ofInt k)), (3, .int (Int32.ofInt op)), (4, .ref 70)] [] (gE Lx) I L e Q := by
  have h4 := hok.2.2.2.1
  have hn : ∃ n, ch.2.2.2.1 = n := ⟨_, rfl⟩
  obtain ⟨n, hn⟩ := hn
  have bad : ¬ bldOk ch k al op → ∀ I1 L1, FrI cS I I1 → kcp (Wp 389) 389 7 0 [(0, .ref 1), (4, .ref 70)] 71 [.int (Int32.ofInt 0), .ref 70] Q (.inr 102) (gE Lx) I1 L1 (e + 1) := by
    intro q I1 L1 hf
    unfold spBuild at h
    rw [iP_f q] at h
    refine kcp_h rfl (h.mk (c := 1) (hf.up rfl) (hc.cg (hf.at rfl) (hf.at rfl) (hf.at rfl) (hf.at rfl)) (by omega) rfl (fun z => by cases z))
  have e3 : I 5 3 = Int32.ofInt (n : Int) := by rw [hc.2.2.2.1, hn]
  refine s_389_0 ?_
  rw [e3]
  refine i_ltz (by omega) (fun _ => by omega) (fun _ => i_lt32 (by omega) (by omega) (fun _ => by omega) (fun _ => ?_))
  refine fs hok hc (k := n) (by omega) hal (fun hfi I1 L1 hf1 ho hs => kcp_v rfl (s_145_12 ?_)) (fun hfi L1 => kcp_x rfl (bad (fun q => hfi (by have := q.1; rw [hn] at this; exact this)) I L1 FrI.rf))
  have e5 : I1 5 3 = Int32.ofInt (n : Int) := by rw [hf1.at rfl]; exact e3
  have hr := pM_r (pt (wSeen ch n))
  have hc1 : ChAt I1 5 ch := hc.cg (hf1.at rfl) (hf1.at rfl) (hf1.at rfl) (hf1.at rfl)
  have good : bldOk ch k al op → n ≤ 2 ∧ CW Lx I e Q true (0, (n : Int) + 2, chAdd (chAdd ch (0, plF k al (pt (wSeen ch n)))) (srtS al op, bldS k al op (pt (wSeen ch n)))) := by
    intro q
    unfold spBuild at h
    rw [iP_t q, hn] at h
    exact ⟨by have := q.2.2.2.1; omega, h⟩
  have okd : bldOk ch k al op ↔ fine (wSeen ch n) ∧ (0 ≤ k ∧ k < pM (pt (wSeen ch n))) ∧ pSq (pt (wSeen ch n)) ∧ n ≤ 2 ∧ isT (plF k al (pt (wSeen ch n))).1 (plF k al (pt (wSeen ch n))).2 ∧ isT (bldS k al op (pt (wSeen ch n))).1 (bldS k al op (pt (wSeen ch n))).2 := by
    unfold bldOk
    rw [hn]
  rw [okd] at bad good
  generalize pt (wSeen ch n) = z at *
  have hs' := hs
  obtain ⟨s0, s2, s1, -⟩ := hs'
  rw [s0, e5]
  refine i_ltz hk (fun k1 => bad (fun q => by omega) I1 L1 hf1) (fun k1 => i_lt32 hk (by omega) (fun k2 => ?_) (fun k2 => bad (fun q => by omega) I1 L1 hf1))
  rcases s1 with ⟨s1, sq⟩ | ⟨s1, sq⟩
  rotate_left
  · rw [s1]
    exact j_0 (bad (fun q => sq q.2.2.1) I1 L1 hf1)
  rw [s1]
  refine j_1 (i_lt32 (by omega) (by omega) (fun k3 => bad (fun q => by omega) I1 L1 hf1) (fun k3 => ?_))
  have hm : 0 < pM z := by omega
  obtain ⟨pb1, pb2, pb3, pb4⟩ := plF_b (k := k) (al := al) ho hm
  obtain ⟨bb1, bb2, bb3, bb4⟩ := bldS_b (k := k) (al := al) (op := op) ho hm
  have nb := ndS_b (k := k) (al := al) ho
  refine c_44 hk ho hm hs (fun L2 hf2 hv2 => kcp_v rfl (s_145_48 ?_))
  rw [hv2.1, hv2.2]
  have hs2 : SpAt I1 L2 al z := by unfold SpAt at hs ⊢; rw [hf2.at rfl]; exact hs
  refine c_48 hal hk ho hs2 (fun L3 hf3 hv3 => kcp_v rfl (s_145_78 ?_))
  have hv3a : L3 18 0 = .ofInt (fU (ndS k al z) (z.1 * z.2.2)) := hv3.1
  have hv3b : L3 18 1 = .ofInt (fL (ndS k al z) (z.1 * z.2.2)) := hv3.2
  have ln : isT (plF k al z).1 (plF k al z).2 ∨ ¬ isT (plF k al z).1 (plF k al z).2 := Classical.em _
  have fin : ∀ L4 : Ml, L4 18 0 = .ofInt (bldS k al op z).1 → L4 18 1 = .ofInt (bldS k al op z).2 → Wp 145 105 [(0, .ref 1), (1, .int (Int32.ofInt al)), (3, .int (Int32.ofInt op)), (4, .long (Int64.ofInt (plF k al z).1)), (6, .long (Int64.ofInt (plF k al z).2))] [] (gE Lx) I1 L4 e (kcp (Wp 389) 389 7 0 [(0, .ref 1), (4, .ref 70)] 71 [.int (Int32.ofInt 0), .ref 70] Q) := by
    intro L4 v1 v2
    refine s_145_105 (c_114 (by omega) (by omega) (fun t1 => kcp_v rfl (s_145_112 (j_1 ?_))) (fun t1 => kcp_v rfl (s_145_112 (j_0 (bad (fun q => t1 q.2.2.2.2.1) I1 L4 hf1)))))
    rw [v1, v2]
    refine c_114 (by omega) (by omega) (fun t2 => kcp_v rfl (s_145_132 (j_1 ?_))) (fun t2 => kcp_v rfl (s_145_132 (j_0 (bad (fun q => t2 q.2.2.2.2.2) I1 L4 hf1))))
    obtain ⟨n2, hq⟩ := good ⟨hfi, ⟨k1, k2⟩, sq, by omega, t1, t2⟩
    have e6 : Int32.ofInt (n : Int) + Int32.ofInt 1 = Int32.ofInt ((n + 1 : Nat) : Int) := by rw [add32]; rfl
    have e7 : Int32.ofInt ((n + 1 : Nat) : Int) + Int32.ofInt 1 = Int32.ofInt ((n + 1 + 1 : Nat) : Int) := by rw [add32]; rfl
    have e8 : (Int32.ofInt ((n + 1 : Nat) : Int)).toNatClampNeg = n + 1 := tncn (by omega)
    have e9 : (Int32.ofInt (n : Int)).toNatClampNeg = n := tncn (by omega)
    simp only [e5, e6, e7, e8, e9, v1, v2, l2i]
    refine i_ltz (by omega) (fun _ => by omega) (fun _ => i_lt32 (by omega) (by omega) (fun _ => ?_) (fun _ => by omega))
    refine i_inb (by omega) (by omega) (i_inb (by omega) (by omega) (i_inb (by omega) (by omega) ?_))
    have ho2 := o70 (L := L4) (x := (Int32.ofInt ((n + 1 + 1 : Nat) : Int)).toInt64)
    have out : ∀ I5, FrI cW I1 I5 → ChAt I5 5 (chAdd (chAdd ch (0, plF k al z)) (srtS al op, bldS k al op z)) → kcp (Wp 389) 389 7 0 [(0, .ref 1), (4, .ref 70)] 71 [.int (Int32.ofInt 0), .ref 70] Q (.inl (some (.int (Int32.ofInt ((n + 1 + 1 : Nat) : Int))))) (gE Lx) I5 L4 e := by
      intro I5 hf5 hc5
      refine kcp_v rfl (s_389_10 (i_inb0 (by decide) (hq.mk (c := 0) (FrI.tr hf1 hf5 rfl rfl) hc5 (by omega) rfl (fun _ _ => ?_))))
      rw [o70, i2l (by omega)]
      rfl
    have hf5 : ∀ a1 a2 a3 a4 a5 a6 a7 a8 : Int32, FrI cW I1 (ui (ui (ui (ui (ui (ui (ui (ui I1 6 n a1) 7 n a2) 8 n a3) 5 3 a4) 6 (n + 1) a5) 7 (n + 1) a6) 8 (n + 1) a7) 5 3 a8) := fun a1 a2 a3 a4 a5 a6 a7 a8 =>
      FrI.wu (FrI.wu (FrI.wu (FrI.wu (FrI.wu (FrI.wu (FrI.wu (FrI.wu FrI.rf rfl) rfl) rfl) rfl) rfl) rfl) rfl) rfl
    have hc5 := ch_two (n := n) (x := (0, plF k al z)) (y := (srtS al op, bldS k al op z)) hn hc1
    have e10 : R32 ((n + 1 : Nat) : Int) := by omega
    rcases hal with rfl | rfl <;> rcases hop with rfl | rfl
    · refine j_0 (j_0 (i_ltz e10 (fun _ => by omega) (fun _ => i_lt32 e10 (by omega) (fun _ => ?_) (fun _ => by omega))))
      exact i_inb (by omega) (by omega) (i_inb (by omega) (by omega) (i_inb (by omega) (by omega) (out _ (hf5 _ _ _ _ _ _ _ _) hc5)))
    · refine j_0 (j_1 (i_ltz e10 (fun _ => by omega) (fun _ => i_lt32 e10 (by omega) (fun _ => ?_) (fun _ => by omega))))
      exact i_inb (by omega) (by omega) (i_inb (by omega) (by omega) (i_inb (by omega) (by omega) (out _ (hf5 _ _ _ _ _ _ _ _) hc5)))
    · refine j_1 (j_0 (i_ltz e10 (fun _ => by omega) (fun _ => i_lt32 e10 (by omega) (fun _ => ?_) (fun _ => by omega))))
      exact i_inb (by omega) (by omega) (i_inb (by omega) (by omega) (i_inb (by omega) (by omega) (out _ (hf5 _ _ _ _ _ _ _ _) hc5)))
    · refine j_1 (j_1 (i_ltz e10 (fun _ => by omega) (fun _ => i_lt32 e10 (by omega) (fun _ => ?_) (fun _ => by omega))))
      exact i_inb (by omega) (by omega) (i_inb (by omega) (by omega) (i_inb (by omega) (by omega) (out _ (hf5 _ _ _ _ _ _ _ _) hc5)))
  have fb := fUL_b (a := ndS k al z) (b := z.1 * z.2.2) (B := 2000000) (by omega) nb (by omega)
  rw [hv3a, hv3b, neg64]
  refine i_eq32 (by omega) (by omega) (fun k4 => c_25 (Or.inl rfl) (by omega) (by omega) (fun L4 hf4 hv4 => kcp_v rfl (fin L4 ?_ ?_))) (fun k4 => fin L3 ?_ ?_)
  · obtain ⟨g, g0, r1, r2⟩ := red2 (n := ndS k al z) (d := z.1 * z.2.2) (by omega)
    rw [hv4.1]
    unfold bldS
    rw [if_pos k4.symm]
    have e1 : -(z.1 * z.2.2) = g * -fL (ndS k al z) (z.1 * z.2.2) := by rw [Int.mul_neg, ← r2]
    have := fU_sm (a := -fL (ndS k al z) (z.1 * z.2.2)) (b := fU (ndS k al z) (z.1 * z.2.2)) g0
    rw [← e1, ← r1] at this
    exact congrArg Int64.ofInt this.symm
  · obtain ⟨g, g0, r1, r2⟩ := red2 (n := ndS k al z) (d := z.1 * z.2.2) (by omega)
    rw [hv4.2]
    unfold bldS
    rw [if_pos k4.symm]
    have e1 : -(z.1 * z.2.2) = g * -fL (ndS k al z) (z.1 * z.2.2) := by rw [Int.mul_neg, ← r2]
    have := fL_sm (a := -fL (ndS k al z) (z.1 * z.2.2)) (b := fU (ndS k al z) (z.1 * z.2.2)) g0
    rw [← e1, ← r1] at this
    exact congrArg Int64.ofInt this.symm
  · rw [hv3a]
    unfold bldS
    rw [if_neg (fun q => k4 q.symm)]
  · rw [hv3b]
    unfold bldS
    rw [if_neg (fun q => k4 q.symm)]
end
