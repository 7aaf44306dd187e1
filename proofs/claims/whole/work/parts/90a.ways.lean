/-! corners. -/
theorem wayN_k {g a v : Int} (hg : 0 < g) : wayN (g * a) (g * g * v) = wayN a v := by
  have hgg : 0 < g * g := Int.mul_pos hg hg
  unfold wayN
  by_cases ha : a = 0
  · rw [if_pos ha, if_pos (by rw [ha]; simp)]
  · have hga : g * a ≠ 0 := Int.mul_ne_zero (by omega) ha
    rw [if_neg ha, if_neg hga]
    rcases Int.lt_trichotomy v 0 with k | k | k
    · have := Int.mul_neg_of_pos_of_neg hgg k
      rw [if_pos k, if_pos this]
    · rw [k]; simp
    · have := Int.mul_pos hgg k
      rw [if_neg (show ¬ v < 0 by omega), if_neg (show ¬ v = 0 by omega), if_neg (show ¬ g * g * v < 0 by omega), if_neg (show ¬ g * g * v = 0 by omega)]
theorem red {n d : Int} (hn : 0 ≤ n) (hd : 0 ≤ d) (h : ¬ (n = 0 ∧ d = 0)) : ∃ g, 0 < g ∧ n = g * fU n d ∧ d = g * fL n d := by
  refine ⟨gI n d, gI_pos h, ?_, ?_⟩
  · unfold fU
    rw [if_neg h, if_neg (by omega)]
    exact (Int.mul_ediv_cancel' (gI_dl n d)).symm
  · unfold fL
    rw [if_neg h, if_neg (by omega)]
    exact (Int.mul_ediv_cancel' (gI_dr n d)).symm
theorem way_red {n d x y : Int} (hn : 0 ≤ n) (hd : 0 ≤ d) (h : ¬ (n = 0 ∧ d = 0)) : wayN n (lay n d x y) = wayN (fU n d) (lay (fU n d) (fL n d) x y) := by
  obtain ⟨g, hg, h1, h2⟩ := red hn hd h
  generalize fU n d = a at *
  generalize fL n d = b at *
  rw [h1, h2, lay_k, wayN_k hg]
theorem lay_b {g b x y : Int} (hg : -2000000 ≤ g ∧ g ≤ 2000000) (hb : -2000000 ≤ b ∧ b ≤ 2000000) (hx : -12 ≤ x ∧ x ≤ 12) (hy : -12 ≤ y ∧ y ≤ 12) : -4000000000000000 ≤ lay g b x y ∧ lay g b x y ≤ 4000000000000000 := by
  have m1 := mulB hx hx
  have m2 := mulB hy hy
  have m3 := mulB (x := b) (y := x * x + y * y) (A := 2000000) (B := 288) (by omega) (by omega)
  have m4 := mulB (x := g) (y := x) (A := 2000000) (B := 12) (by omega) (by omega)
  have m5 := mulB (x := g * x) (y := x) (A := 24000000) (B := 12) (by omega) (by omega)
  have m6 := mulB (x := g) (y := b * (x * x + y * y) - g * x * x) (A := 2000000) (B := 1000000000) (by omega) (by omega)
  unfold lay
  omega
theorem rl_b {al : Int} {z : Pt} (ho : PtOk z) (hnn : ¬ (al = 0 ∧ z.1 = 0 ∧ z.2.1 = 0)) : (0 ≤ (rlN al z).1 ∧ (rlN al z).1 ≤ 2000000) ∧ (0 ≤ (rlN al z).2 ∧ (rlN al z).2 ≤ 2000000) ∧ ¬ ((rlN al z).1 = 0 ∧ (rlN al z).2 = 0) := by
  obtain ⟨c1, c2, c3, c4, c5, c6⟩ := sw_b ho
  obtain ⟨o1, o2, o3⟩ := ho
  unfold rlN
  by_cases k : al = 0
  · rw [if_pos k]
    have := sq2_pos (x := z.1) (y := z.2.1) (by omega)
    exact ⟨by omega, by omega, by omega⟩
  · rw [if_neg k]
    exact ⟨by omega, by omega, by omega⟩
noncomputable def fWay (al x y : Int) (z : Pt) : Int := wayN (rlN al z).1 (lay (rlN al z).1 (rlN al z).2 x y)
noncomputable def fCor (al : Int) (z : Pt) : Nat × Int := if al = 0 ∧ z.1 = 0 ∧ z.2.1 = 0 then (2, 0) else (0, fWay al 1 0 z)
theorem wayN_r (g v : Int) : 0 ≤ wayN g v ∧ wayN g v ≤ 2 := by
  unfold wayN
  repeat' split
  all_goals omega
section
variable {Lx : Nat} {I : Mi} {L : Ml} {e : Nat} {Q : Kq}
set_option maxHeartbeats 4000000 in
theorem h_396 {ch : Ch} (hok : ChOk ch) (hc : ChAt I 5 ch) {m al : Int} (hm : R32 m) (hal : al = 0 ∨ al = 1) (h : CQ Lx I e Q (spP ch m (fCor al)).1 (spP ch m (fCor al)).2) :
    Wp 396 0 [(0, .ref 1), (1, .int (Int32.ofInt m)), (2, .int (Int32.ofInt al)), (3, .ref 70)] [] (gE Lx) I L e Q := by
  refine s_396_0 ?_
  rw [hc.2.2.2.1]
  refine mk_pre hm hok.2.2.2.1 (fun hb => (spP_1 h hb).mk (c := 1) FrI.rf (by omega) rfl (fun z => by cases z)) (fun j hj hjn => ?_)
  subst hj
  refine c_148 hok hc hjn (show R32 al by omega) (fun hfi hnn L1 hf1 hp => kcp_v rfl (s_162_11 ?_)) (fun hn L1 hf1 => kcp_x rfl (kcp_h rfl ?_))
  · have hq := spP_0 h hjn hfi
    have ho := hfi.ok (wSeen_g hok j hjn)
    generalize pt (wSeen ch j) = z at *
    rw [fCor, if_neg hnn] at hq
    refine c_34 hal (by omega) (by omega) ho hp (fun I2 L2 hfi2 hfl2 hs => kcp_v rfl (s_163_14 (kcp_v rfl (s_162_16 ?_))))
    rw [hs.2.2.2.2.2.2.1]
    have hr := wayN_r (rlN al z).1 (lay (rlN al z).1 (rlN al z).2 1 0)
    exact kcp_v rfl (s_396_8 (i_inb0 (by decide) (hq.mk (c := 0) (hfi2.up rfl) (by omega) rfl (fun _ => by rw [o70, i2l (by omega)]; rfl))))
  · have h2 : CQ Lx I e Q 2 0 := by
      rcases Classical.em (fine (wSeen ch j)) with hfi | hfi
      · have hq := spP_0 h hjn hfi
        rw [fCor, if_pos (Classical.byContradiction fun k => hn ⟨hfi, k⟩)] at hq
        exact hq
      · exact spP_2 h hjn hfi
    exact h2.mk (c := 2) FrI.rf (by omega) rfl (fun z => by cases z)
/-- the other side's number of ways -/
theorem n_ways {g v : Int} (hg : -2000000 ≤ g ∧ g ≤ 2000000) (hv : -4000000000000000 ≤ v ∧ v ≤ 4000000000000000) (h21 : L 58 21 = .ofInt g) (h23 : L 58 23 = .ofInt v) (h : Q (.inl (some (.int (Int32.ofInt (wayN g v))))) (gE Lx) I L e) :
    if L 58 21 = Int64.ofInt 0 then Q (.inl (some (.int (Int32.ofInt 0)))) (gE Lx) I L e else if L 58 23 < Int64.ofInt 0 then Q (.inl (some (.int (Int32.ofInt 0)))) (gE Lx) I L e else if L 58 23 = Int64.ofInt 0 then Q (.inl (some (.int (Int32.ofInt 1)))) (gE Lx) I L e else Q (.inl (some (.int (Int32.ofInt 2)))) (gE Lx) I L e := by
  rw [h21, h23]
  unfold wayN at h
  refine i_eq64 (by omega) (by omega) (fun k => ?_) (fun k => i_lt64 (by omega) (by omega) (fun k1 => ?_) (fun k1 => i_eq64 (by omega) (by omega) (fun k2 => ?_) (fun k2 => ?_)))
  · rw [if_pos k] at h; exact h
  · rw [if_neg k, if_pos k1] at h; exact h
  · rw [if_neg k, if_neg (by omega), if_pos k2] at h; exact h
  · rw [if_neg k, if_neg (by omega), if_neg k2] at h; exact h
end
