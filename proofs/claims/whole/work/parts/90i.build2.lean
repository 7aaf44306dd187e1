/-! build on the other side. -/
theorem bldS_t {k al op : Int} {z : Pt} (ho : PtOk z) (hm : 0 < pM z) : isT (bldS k al op z).1 (bldS k al op z).2 ↔ (-12 ≤ (bldS k al op z).1 ∧ (bldS k al op z).1 ≤ 12) ∧ (bldS k al op z).2 ≤ 12 := by
  obtain ⟨p1, p2, p3⟩ := pM_n ho hm
  have hz : 0 < z.1 * z.2.2 := Int.mul_pos p1 (by have := ho.2.2; omega)
  unfold bldS
  split
  · exact isT_fr (by omega)
  · exact isT_fr (by omega)
theorem rd3 {J : Mi} {n : Nat} {a b c : Int32} : ui (ui (ui J 59 (4 + 3 * n) a) 59 (5 + 3 * n) b) 59 (6 + 3 * n) c 59 3 = J 59 3 := by rw [u_ne (by omega), u_ne (by omega), u_ne (by omega)]
section
variable {Lx : Nat} {I : Mi} {L : Ml} {e : Nat} {Q : Kq}
theorem n_272 {a b : Int} (ha : R63 a) (hb : R63 b) (h1 : ((-12 ≤ a ∧ a ≤ 12) ∧ b ≤ 12) → Q (.inl (some (.int (Int32.ofInt 1)))) (gE Lx) I L e) (h0 : ¬ ((-12 ≤ a ∧ a ≤ 12) ∧ b ≤ 12) → Q (.inl (some (.int (Int32.ofInt 0)))) (gE Lx) I L e) :
    Wp 210 0 [(0, .long (Int64.ofInt a))] [] (gE Lx) I L e (kcp (Wp 272) 272 1 0 [(2, .long (Int64.ofInt b))] 71 [] Q) := by
  refine c_210 ha (fun x hx0 hx => kcp_v rfl (s_272_4 (i_lt64 (by omega) (by omega) (fun k => h0 (fun q => by omega)) (fun k => i_lt64 (by omega) (by omega) (fun k2 => h0 (fun q => by omega)) (fun k2 => h1 ?_)))))
  omega
set_option maxHeartbeats 8000000 in
theorem r_271 {ch : Ch} (hok : ChOk ch) (hc : BnAt I 59 0 ch) {al k op : Int} (hal : al = 0 ∨ al = 1) (hk : R32 k) (hop : op = 0 ∨ op = 1) (h : RW Lx I L e Q true (spBuild ch k al op)) :
    Wp 271 0 [(0, .ref 58), (1, .int (Int32.ofInt al)), (2, .int (Int32.ofInt k)), (3, .int (Int32.ofInt op))] [] (gE Lx) I L e Q := by
  have h4 := hok.2.2.2.1
  have hn : ∃ n, ch.2.2.2.1 = n := ⟨_, rfl⟩
  obtain ⟨n, hn⟩ := hn
  have bad : ¬ bldOk ch k al op → ∀ I1 L1, FrI [(58, 0, 1)] I I1 → L1 70 = L 70 → I1 58 0 = Int32.ofInt 1 → Q (.inl (some (.int (Int32.ofInt 0)))) (gE Lx) I1 L1 e := by
    intro q I1 L1 hf hl hI
    unfold spBuild at h
    rw [iP_f q] at h
    exact h.mk (w := 0) (hf.up rfl) (hc.cg (hf.at rfl)) hl (c := 1) hI rfl (fun z => by cases z)
  have e3 : I 59 3 = Int32.ofInt (n : Int) := by have := hc.2.2.2.1; rw [hn] at this; exact this
  have fr1 : FrI [(58, 0, 1)] I (ui I 58 0 (Int32.ofInt 1)) := FrI.wu FrI.rf rfl
  have fr2 : FrI [(58, 0, 1)] I (ui (ui I 58 0 (Int32.ofInt 0)) 58 0 (Int32.ofInt 1)) := FrI.wu (FrI.wu FrI.rf rfl) rfl
  refine s_271_0 ?_
  rw [e3]
  refine c_259 hok hc (by omega) hal hk (fun hb => by omega) (fun j hj hjn hno L1 hl => kcp_v rfl (s_271_11 (i_zlt (by omega) (fun _ => bad (fun q => hno ?_) _ L1 fr1 hl u_at) (fun k => by omega)))) (fun j hj hjn hfi k1 k2 hsq L1 hl ho hs => kcp_v rfl (s_271_11 (i_zlt (by omega) (fun k => by omega) (fun _ => ?_))))
  · have ej : j = ch.2.2.2.1 := by omega
    subst ej
    exact ⟨q.1, q.2.1, q.2.2.1⟩
  have ej : j = n := by omega
  subst ej
  have good : bldOk ch k al op → j ≤ 2 ∧ RW Lx I L e Q true (0, (j : Int) + 2, chAdd (chAdd ch (0, plF k al (pt (wSeen ch j)))) (srtS al op, bldS k al op (pt (wSeen ch j)))) := by
    intro q
    unfold spBuild at h
    rw [iP_t q, hn] at h
    exact ⟨by have := q.2.2.2.1; omega, h⟩
  have okd : bldOk ch k al op ↔ fine (wSeen ch j) ∧ (0 ≤ k ∧ k < pM (pt (wSeen ch j))) ∧ pSq (pt (wSeen ch j)) ∧ j ≤ 2 ∧ isT (plF k al (pt (wSeen ch j))).1 (plF k al (pt (wSeen ch j))).2 ∧ isT (bldS k al op (pt (wSeen ch j))).1 (bldS k al op (pt (wSeen ch j))).2 := by
    unfold bldOk
    rw [hn]
  rw [okd] at bad good
  generalize pt (wSeen ch j) = z at *
  have e3b : (ui I 58 0 (Int32.ofInt 0)) 59 3 = Int32.ofInt (j : Int) := e3
  rw [e3]
  refine i_lt32 (by omega) (by omega) (fun k3 => bad (fun q => by omega) _ L1 fr1 hl u_at) (fun k3 => ?_)
  have hm : 0 < pM z := by omega
  obtain ⟨pb1, pb2, pb3, pb4⟩ := plF_b (k := k) (al := al) ho hm
  obtain ⟨bb1, bb2, bb3, bb4⟩ := bldS_b (k := k) (al := al) (op := op) ho hm
  have nb := ndS_b (k := k) (al := al) ho
  have bt := bldS_t (k := k) (al := al) (op := op) ho hm
  have lt : isT (plF k al z).1 (plF k al z).2 ↔ (-12 ≤ (plF k al z).1 ∧ (plF k al z).1 ≤ 12) ∧ (plF k al z).2 ≤ 12 := isT_fr (plN_nz ho hm)
  obtain ⟨p1, p2, p3, p4, p5, p6⟩ := pt_b ho al
  refine c_260 hal hk ho hm hs (kcp_v rfl (s_271_44 (c_264 hal ho hm hs (fun L2 hf2 u2 l2 => kcp_v rfl (s_271_52 ?_)))))
  have u2 : L2 58 8 = .ofInt (plF k al z).1 := u2
  have l2 : L2 58 9 = .ofInt (plF k al z).2 := l2
  have hnr := nsg_r k al z
  rw [u2, l2, hf2 58 18 rfl, hs.2.1, i2l (by omega)]
  have fin : ∀ L4 : Ml, L4 70 = L 70 → L4 58 8 = .ofInt (bldS k al op z).1 → L4 58 9 = .ofInt (bldS k al op z).2 → Wp 271 128 [(0, .ref 58), (1, .int (Int32.ofInt al)), (3, .int (Int32.ofInt op)), (5, .long (Int64.ofInt (plF k al z).1)), (7, .long (Int64.ofInt (plF k al z).2))] [] (gE Lx) (ui I 58 0 (Int32.ofInt 0)) L4 e Q := by
    intro L4 hl4 v1 v2
    refine s_271_128 (n_272 (by omega) (by omega) (fun t1 => kcp_v rfl (s_271_136 (j_1 ?_))) (fun t1 => kcp_v rfl (s_271_136 (j_0 (bad (fun q => t1 (lt.mp q.2.2.2.2.1)) _ L4 fr2 hl4 u_at)))))
    rw [v1, v2]
    refine n_272 (by omega) (by omega) (fun t2 => kcp_v rfl (s_271_150 (j_1 ?_))) (fun t2 => kcp_v rfl (s_271_150 (j_0 (bad (fun q => t2 (bt.mp q.2.2.2.2.2)) _ L4 fr2 hl4 u_at))))
    obtain ⟨n2, hq⟩ := good ⟨hfi, ⟨k1, k2⟩, hsq, by omega, lt.mpr t1, bt.mpr t2⟩
    have q4 : (Int32.ofInt 4 + Int32.ofInt 3 * Int32.ofInt (j : Int)) = Int32.ofInt ((4 + 3 * j : Nat) : Int) := bn_i (ch := ch) 4
    have q5 : (Int32.ofInt 5 + Int32.ofInt 3 * Int32.ofInt (j : Int)) = Int32.ofInt ((5 + 3 * j : Nat) : Int) := bn_i (ch := ch) 5
    have q6 : (Int32.ofInt 6 + Int32.ofInt 3 * Int32.ofInt (j : Int)) = Int32.ofInt ((6 + 3 * j : Nat) : Int) := bn_i (ch := ch) 6
    have w4 : (Int32.ofInt 4 + Int32.ofInt 3 * Int32.ofInt ((j + 1 : Nat) : Int)) = Int32.ofInt ((4 + 3 * (j + 1) : Nat) : Int) := bn_i (ch := ch) 4
    have w5 : (Int32.ofInt 5 + Int32.ofInt 3 * Int32.ofInt ((j + 1 : Nat) : Int)) = Int32.ofInt ((5 + 3 * (j + 1) : Nat) : Int) := bn_i (ch := ch) 5
    have w6 : (Int32.ofInt 6 + Int32.ofInt 3 * Int32.ofInt ((j + 1 : Nat) : Int)) = Int32.ofInt ((6 + 3 * (j + 1) : Nat) : Int) := bn_i (ch := ch) 6
    have e1 : Int32.ofInt (j : Int) + Int32.ofInt 1 = Int32.ofInt ((j + 1 : Nat) : Int) := by rw [add32]; rfl
    have e2 : Int32.ofInt (j : Int) + Int32.ofInt 2 = Int32.ofInt ((j + 2 : Nat) : Int) := by rw [add32]; rfl
    have t4 : (Int32.ofInt ((4 + 3 * j : Nat) : Int)).toNatClampNeg = 4 + 3 * j := tncn (by omega)
    have t5 : (Int32.ofInt ((5 + 3 * j : Nat) : Int)).toNatClampNeg = 5 + 3 * j := tncn (by omega)
    have t6 : (Int32.ofInt ((6 + 3 * j : Nat) : Int)).toNatClampNeg = 6 + 3 * j := tncn (by omega)
    have z4 : (Int32.ofInt ((4 + 3 * (j + 1) : Nat) : Int)).toNatClampNeg = 4 + 3 * (j + 1) := tncn (by omega)
    have z5 : (Int32.ofInt ((5 + 3 * (j + 1) : Nat) : Int)).toNatClampNeg = 5 + 3 * (j + 1) := tncn (by omega)
    have z6 : (Int32.ofInt ((6 + 3 * (j + 1) : Nat) : Int)).toNatClampNeg = 6 + 3 * (j + 1) := tncn (by omega)
    have e4 : (ui I 58 0 (Int32.ofInt 0)) 59 3 = Int32.ofInt (j : Int) := e3
    simp only [ui_ov, e4, rd3, q4, q5, q6, w4, w5, w6, e1, e2, t4, t5, t6, z4, z5, z6, v1, v2, l2i]
    refine i_inb (by omega) (by omega) (i_inb (by omega) (by omega) (i_inb (by omega) (by omega) ?_))
    have hcJ : BnAt (ui I 58 0 (Int32.ofInt 0)) 59 0 ch := hc.th (by decide)
    have hc5 := bn_two (n := j) (x := (0, plF k al z)) (y := (srtS al op, bldS k al op z)) hn hcJ
    have out : ∀ I5, FrI rW I I5 → I5 58 0 = Int32.ofInt 0 → BnAt I5 59 0 (chAdd (chAdd ch (0, plF k al z)) (srtS al op, bldS k al op z)) → Q (.inl (some (.int (Int32.ofInt ((j + 2 : Nat) : Int))))) (gE Lx) I5 L4 e := by
      intro I5 hf5 hI hc5
      exact hq.mk hf5 hc5 hl4 (c := 0) hI rfl (fun _ _ => rfl)
    have hf5 : ∀ a1 a2 a3 a4 a5 a6 a7 a8 : Int32, FrI rW I (ui (ui (ui (ui (ui (ui (ui (ui I 58 0 a8) 59 (4 + 3 * j) a1) 59 (5 + 3 * j) a2) 59 (6 + 3 * j) a3) 59 (4 + 3 * (j + 1)) a4) 59 (5 + 3 * (j + 1)) a5) 59 (6 + 3 * (j + 1)) a6) 59 3 a7) := fun a1 a2 a3 a4 a5 a6 a7 a8 =>
      FrI.wu (FrI.wu (FrI.wu (FrI.wu (FrI.wu (FrI.wu (FrI.wu (FrI.wu FrI.rf rfl) rfl) rfl) rfl) rfl) rfl) rfl) rfl
    rcases hal with rfl | rfl <;> rcases hop with rfl | rfl
    · refine j_0 (j_0 ?_)
      exact i_inb (by omega) (by omega) (i_inb (by omega) (by omega) (i_inb (by omega) (by omega) (out _ (hf5 _ _ _ _ _ _ _ _) rfl hc5)))
    · refine j_0 (j_1 ?_)
      exact i_inb (by omega) (by omega) (i_inb (by omega) (by omega) (i_inb (by omega) (by omega) (out _ (hf5 _ _ _ _ _ _ _ _) rfl hc5)))
    · refine j_1 (j_0 ?_)
      exact i_inb (by omega) (by omega) (i_inb (by omega) (by omega) (i_inb (by omega) (by omega) (out _ (hf5 _ _ _ _ _ _ _ _) rfl hc5)))
    · refine j_1 (j_1 ?_)
      exact i_inb (by omega) (by omega) (i_inb (by omega) (by omega) (i_inb (by omega) (by omega) (out _ (hf5 _ _ _ _ _ _ _ _) rfl hc5)))
  have hl2 : L2 70 = L 70 := (hf2.at rfl).trans hl
  have q1 := rt_sp p4.1
  have pr : ∀ L3 : Ml, L3 = L2 → L3 58 14 = .ofInt z.1 ∧ L3 58 16 = .ofInt z.2.2 := by
    rintro L3 rfl
    obtain ⟨a1, a2, a3⟩ := hs.2.2.2.2
    exact ⟨(hf2 58 14 rfl).trans a1, (hf2 58 16 rfl).trans a3⟩
  obtain ⟨pr1, pr2⟩ := pr L2 rfl
  refine i_eq32 (by omega) (by omega) (fun k4 => c_243 (by omega) (fun r hr => kcp_v rfl (s_271_86 (j_0 ?_)))) (fun k4 => c_243 (by omega) (fun r hr => kcp_v rfl (s_271_86 (j_1 ?_))))
  · have : r = rt (pU z) := (rt_eq hr).symm
    subst this
    rw [pr1, pr2, neg64, mul64, mul64]
    refine c_246 (by have := mulB (x := -z.1) (y := z.2.2) (A := 1000) (B := 1000) (by have := ho.1; omega) (by have := ho.2.2; omega); omega) (by have : nsg k al z * rt (pU z) = ndS k al z := rfl; omega) (by rw [Int.neg_mul]; omega) (fun L3 hf3 u3 l3 => kcp_v rfl (fin L3 ((hf3.at rfl).trans hl2) ?_ ?_))
    · rw [u3, Int.neg_mul]
      unfold bldS
      rw [if_pos k4]
      rfl
    · rw [l3, Int.neg_mul]
      unfold bldS
      rw [if_pos k4]
      rfl
  · have : r = rt (pU z) := (rt_eq hr).symm
    subst this
    rw [pr1, pr2, mul64, mul64]
    refine c_246 (by have : nsg k al z * rt (pU z) = ndS k al z := rfl; omega) (by omega) (by omega) (fun L3 hf3 u3 l3 => kcp_v rfl (s_271_109 (fin L3 ((hf3.at rfl).trans hl2) ?_ ?_)))
    · rw [u3]
      unfold bldS
      rw [if_neg k4]
      rfl
    · rw [l3]
      unfold bldS
      rw [if_neg k4]
      rfl
end
