/-! rescue on the other side. -/
section
variable {Lx : Nat} {I : Mi} {L : Ml} {e : Nat} {Q : Kq}
set_option maxHeartbeats 4000000 in
/-- one stub that is tried -/
theorem n_296 (hT : TabRt I) {al x y op : Int} (hal : R32 al) (hx : -12 ≤ x ∧ x ≤ 12) (hy : -12 ≤ y ∧ y ≤ 12) (hx0 : x ≠ 0) (hop : R32 op) {z : Pt} (ho : PtOk z) {r : Wv} (hr : RvAt L r) (hs : Sc (wZ z) r) (hB : WB 1000 r) {k : Nat} (hk : k < 184)
    (h1 : ¬ bar al x y (wLine x y (wPass (srtS al op) (tgU k) (tgL k) (wZ z))) → ∀ L', FrL [(58, 10, 4)] L L' → Q (.inl (some (.int (Int32.ofInt 1)))) (gE Lx) I L' e)
    (h0 : bar al x y (wLine x y (wPass (srtS al op) (tgU k) (tgL k) (wZ z))) → ∀ L', FrL [(58, 10, 4)] L L' → Q (.inl (some (.int (Int32.ofInt 0)))) (gE Lx) I L' e) :
    Wp 296 4 [(0, .ref 58), (1, .int (Int32.ofInt al)), (2, .int (Int32.ofInt x)), (3, .int (Int32.ofInt y)), (4, .int (Int32.ofInt k)), (5, .int (Int32.ofInt op))] [] (gE Lx) I L e Q := by
  have hg := wZ_g ho
  have tb := tg_b hk
  have hq := (tg_t hk)
  have go : ∀ srt : Int, (0 ≤ srt ∧ srt ≤ 4) → srt = srtS al op → Wp 229 0 [(0, .ref 58), (1, .int (Int32.ofInt srt)), (2, .long (Int64.ofInt (tgU k))), (4, .long (Int64.ofInt (tgL k)))] [] (gE Lx) I L e (kcp (Wp 296) 296 48 0 [(0, .ref 58), (1, .int (Int32.ofInt al)), (2, .int (Int32.ofInt x)), (3, .int (Int32.ofInt y))] 71 [] Q) := by
    intro srt hsr he
    subst he
    refine c_229 (P := 12) (B := 1000) hr hB hsr tb.1 tb.2 (by omega) (by omega) (by omega) (by omega) (hg.sc hs) hq.q1 (fun L1 r1 hf1 hr1 hs1 hB1 => kcp_v rfl (s_296_51 ?_))
    have hs2 := (hs.pass (srtS al op) (tgU k) (tgL k)).tr hs1
    have hg2 := (hg.pass (s := srtS al op) hq.nz).sc hs2
    rw [i2l (by omega), i2l (by omega)]
    refine c_229 (P := 12) (B := 12 * 1000 + 12 * 1000) (s := 0) hr1 hB1 (by omega) hx hy (by omega) (by omega) (by omega) (by omega) hg2 (fun q => absurd q hx0) (fun L2 r2 hf2 hr2 hs3 hB2 => kcp_v rfl (s_296_60 ?_))
    have hs4 : Sc (wLine x y (wPass (srtS al op) (tgU k) (tgL k) (wZ z))) r2 := (hs2.line x y).tr hs3
    have hbs := bar_sc (al := al) (x := x) (y := y) hs4
    have hff := FrL.tr (S := [(58, 10, 4)]) hf1 hf2 rfl rfl
    exact n_294 hr2 (hB2.le (by decide)) hal hx hy (fun q => h0 (hbs.mpr q) L2 hff) (fun q => h1 (fun w => q (hbs.mp w)) L2 hff)
  refine s_296_4 ?_
  rw [tncn (by omega), (hT.2 k hk).1, (hT.2 k hk).2, i2l (by omega), i2l (by omega)]
  unfold srtS at go
  refine i_eqz hal (fun k1 => i_eqz hop (fun k2 => i_inb (by omega) hk (i_inb (by omega) hk (go 2 (by omega) ?_))) (fun k2 => i_inb (by omega) hk (i_inb (by omega) hk (go 1 (by omega) ?_)))) (fun k1 => i_eqz hop (fun k2 => i_inb (by omega) hk (i_inb (by omega) hk (go 4 (by omega) ?_))) (fun k2 => i_inb (by omega) hk (i_inb (by omega) hk (go 3 (by omega) ?_))))
  · rw [if_pos k1, if_pos k2]
  · rw [if_pos k1, if_neg k2]
  · rw [if_neg k1, if_pos k2]
  · rw [if_neg k1, if_neg k2]
set_option maxHeartbeats 8000000 in
theorem l_295 {L0 : Ml} (hT : TabRt I) {al x y wh : Int} (hal : R32 al) (hx : -12 ≤ x ∧ x ≤ 12) (hy : -12 ≤ y ∧ y ≤ 12) (hx0 : x ≠ 0) (hwh : R32 wh) {z : Pt} (ho : PtOk z) : ∀ (n k : Nat), k + n = 184 → ∀ L : Ml, RpAt L z → L 70 = L0 70 →
    (fF (resP al x y z) (2 * n) (2 * k) < 0 → ∀ L', L' 70 = L0 70 → Q (.inl (some (.int (Int32.ofInt 0)))) (gE Lx) (ui I 58 0 (Int32.ofInt 4)) L' e) →
    (∀ t : Nat, fF (resP al x y z) (2 * n) (2 * k) = t → ∀ L', L' 70 = L0 70 → Q (.inl (some (.int (Int32.ofInt (resV wh t))))) (gE Lx) I L' e) →
    Wp 295 80 [(0, .ref 58), (2, .int (Int32.ofInt al)), (3, .int (Int32.ofInt x)), (4, .int (Int32.ofInt y)), (5, .int (Int32.ofInt wh)), (7, .int (Int32.ofInt k))] [] (gE Lx) I L e Q := by
  intro n
  induction n with
  | zero =>
    intro k hk L hp hl h1 h2
    refine s_295_80 ?_
    rw [hT.1]
    exact i_lt32 (by omega) (by omega) (fun _ => by omega) (fun _ => h1 (by show (-1 : Int) < 0; decide) L hl)
  | succ n ih =>
    intro k hk L hp hl h1 h2
    have hk2 : k < 184 := by omega
    have en : 2 * (n + 1) = (2 * n + 1) + 1 := by omega
    rw [en] at h1 h2
    have a1 : 2 * k / 2 = k := by omega
    have a2 : 2 * k % 2 = 0 := by omega
    have b1 : (2 * k + 1) / 2 = k := by omega
    have b2 : (2 * k + 1) % 2 = 1 := by omega
    have w0 : resW al x y z (2 * k) = wLine x y (wPass (srtS al 1) (tgU k) (tgL k) (wZ z)) := by unfold resW; rw [a1, a2]; rfl
    have w1 : resW al x y z (2 * k + 1) = wLine x y (wPass (srtS al 0) (tgU k) (tgL k) (wZ z)) := by unfold resW; rw [b1, b2]; rfl
    have cg : ∀ L1 L2 : Ml, L1 70 = L0 70 → FrL [(58, 10, 4)] L1 L2 → L2 70 = L0 70 := fun L1 L2 a b => (b.at rfl).trans a
    refine s_295_80 ?_
    rw [hT.1]
    refine i_lt32 (by omega) (by omega) (fun _ => ?_) (fun _ => by omega)
    refine n_276 ho hp (fun L1 r hf1 hr hs hB => kcp_v rfl (n_296 hT hal hx hy hx0 (by omega) ho hr hs hB hk2 (fun q L2 hf2 => kcp_v rfl (s_295_100 (j_1 ?_))) (fun q L2 hf2 => kcp_v rfl (s_295_100 (j_0 ?_)))))
    · have q2 : resP al x y z (2 * k) := by show ¬ bar al x y _; rw [w0]; exact q
      rw [fF_t q2] at h2
      have h3 := h2 _ rfl L2 (cg _ _ (cg _ _ hl hf1) hf2)
      unfold resV at h3
      rw [a1, a2] at h3
      rw [tncn (by omega), (hT.2 k hk2).1, (hT.2 k hk2).2]
      refine i_eqz hwh (fun k3 => i_inb (by omega) hk2 ?_) (fun k3 => i_eq32 hwh (by omega) (fun k4 => i_inb (by omega) hk2 ?_) (fun k4 => j_1 ?_))
      · rw [if_pos k3] at h3; exact h3
      · rw [if_neg k3, if_pos k4] at h3; exact h3
      · rw [if_neg k3, if_neg k4] at h3; exact h3
    · have q2 : ¬ resP al x y z (2 * k) := fun w => w (by rw [w0]; exact q)
      rw [fF_f q2] at h1 h2
      have hff := FrL.tr (S := [(58, 10, 4)]) hf1 hf2 rfl rfl
      refine n_276 ho (hp.fr hff) (fun L3 r hf3 hr hs hB => kcp_v rfl (n_296 hT hal hx hy hx0 (by omega) ho hr hs hB hk2 (fun q3 L4 hf4 => kcp_v rfl (s_295_118 (j_1 ?_))) (fun q3 L4 hf4 => kcp_v rfl (s_295_118 (j_0 ?_)))))
      · have q4 : resP al x y z (2 * k + 1) := by show ¬ bar al x y _; rw [w1]; exact q3
        rw [fF_t q4] at h2
        have h3 := h2 _ rfl L4 (cg _ _ (cg _ _ (cg _ _ hl hff) hf3) hf4)
        unfold resV at h3
        rw [b1, b2] at h3
        rw [tncn (by omega), (hT.2 k hk2).1, (hT.2 k hk2).2]
        refine i_eqz hwh (fun k3 => i_inb (by omega) hk2 ?_) (fun k3 => i_eq32 hwh (by omega) (fun k4 => i_inb (by omega) hk2 ?_) (fun k4 => j_0 ?_))
        · rw [if_pos k3] at h3; exact h3
        · rw [if_neg k3, if_pos k4] at h3; exact h3
        · rw [if_neg k3, if_neg k4] at h3; exact h3
      · have q4 : ¬ resP al x y z (2 * k + 1) := fun w => w (by rw [w1]; exact q3)
        rw [fF_f q4] at h1 h2
        have hff2 := FrL.tr (S := [(58, 10, 4)]) (FrL.tr (S := [(58, 10, 4)]) hff hf3 rfl rfl) hf4 rfl rfl
        have e5 : 2 * k + 1 + 1 = 2 * (k + 1) := by omega
        rw [e5] at h1 h2
        rw [add32]
        have := ih (k + 1) (by omega) L4 (hp.fr hff2) (cg _ _ hl hff2) h1 h2
        exact this
set_option maxHeartbeats 4000000 in
theorem r_295 {ch : Ch} (hok : ChOk ch) (hc : BnAt I 59 0 ch) (hT : TabRt I) {m al x y wh : Int} (hm : R32 m) (hal : al = 0 ∨ al = 1) (hx : R32 x) (hy : R32 y) (hwh : R32 wh) (h : RQ Lx I L e Q (spRes ch m al x y wh).1 vI (spRes ch m al x y wh).2) :
    Wp 295 0 [(0, .ref 58), (1, .int (Int32.ofInt m)), (2, .int (Int32.ofInt al)), (3, .int (Int32.ofInt x)), (4, .int (Int32.ofInt y)), (5, .int (Int32.ofInt wh))] [] (gE Lx) I L e Q := by
  have e3 : I 59 3 = Int32.ofInt (ch.2.2.2.1 : Int) := hc.2.2.2.1
  refine s_295_0 ?_
  rw [e3]
  unfold spRes at h
  refine mk_pre2 hm hok.2.2.2.1 (fun hb => ?_) (fun j hj hjn => ?_)
  · rw [if_pos hb] at h
    exact h.mk (v := 0) (FrI.wu FrI.rf rfl) rfl (c := 1) u_at rfl (fun z => by cases z)
  · subst hj
    rw [if_neg (by omega)] at h
    have two : wh < 0 ∨ 2 < wh → Q (.inl (some (.int (Int32.ofInt 0)))) (gE Lx) (ui I 58 0 (Int32.ofInt 2)) L e := fun q => by
      rw [if_pos q] at h
      exact h.mk (v := 0) (FrI.wu FrI.rf rfl) rfl (c := 2) u_at rfl (fun z => by cases z)
    refine i_lt32 hwh (by omega) (fun k => two (Or.inl k)) (fun k1 => i_lt32 (by omega) hwh (fun k => two (Or.inr k)) (fun k2 => ?_))
    rw [if_neg (by omega)] at h
    have h4 := hok.2.2.2.1
    refine i_lt32 hm (by omega) (fun _ => by omega) (fun _ => i_lt32 (by omega) hm (fun _ => by omega) (fun _ => ?_))
    have no : ∀ c : Int, c = 2 ∨ c = 3 → RQ Lx I L e Q (c + 1).toNat vI 0 → ∀ L1 : Ml, L1 70 = L 70 → Wp 295 49 [(0, .ref 58), (2, .int (Int32.ofInt al)), (3, .int (Int32.ofInt x)), (4, .int (Int32.ofInt y)), (5, .int (Int32.ofInt wh))] [.int (Int32.ofInt c)] (gE Lx) (ui I 58 0 (Int32.ofInt 0)) L1 e Q := fun c hcc h2 L1 hl => by
      refine s_295_49 (i_zlt (by omega) (fun _ => ?_) (fun k => by omega))
      rw [add32]
      exact i_zlt (by omega) (fun _ => h2.mk (v := 0) (FrI.wu (FrI.wu FrI.rf rfl) rfl) hl (c := c + 1) u_at (by omega) (fun z => by omega)) (fun k => by omega)
    refine n_282 hok (hc.th (by decide)) hjn hal hx hy (fun q => kcp_v rfl (s_293_9 (i_zlt (by omega) (fun _ => kcp_v rfl ?_) (fun k => by omega)))) (fun ht k0 q L1 hf1 => kcp_v rfl (s_293_9 (i_zlt (by omega) (fun _ => kcp_v rfl ?_) (fun k => by omega)))) (fun ht k0 q L1 hf1 hp => kcp_v rfl (s_293_9 (i_zlt (by omega) (fun k => by omega) (fun _ => ?_))))
    · rw [spD_2 hjn q] at h
      exact no 2 (by omega) h L rfl
    · rw [spD_3 hjn ht k0 q] at h
      exact no 3 (by omega) h L1 (hf1.at rfl)
    · rw [spD_0 hjn ht k0 q] at h
      have tb := ht.b
      have ho := q.1.ok (wSeen_g hok j hjn)
      have hl : L1 70 = L 70 := hf1.at rfl
      generalize pt (wSeen ch j) = z at *
      obtain ⟨o1, o2, o3⟩ := id ho
      rw [hp.1]
      unfold fRes at h
      refine i_eq64 (by omega) (by omega) (fun k1 => kcp_v rfl ?_) (fun k1 => kcp_v rfl (s_295_49 (i_zlt (by omega) (fun k => by omega) (fun _ => ?_))))
      · rw [if_pos (by rw [res_z k1]; decide)] at h
        exact no 3 (by omega) h L1 hl
      · refine l_295 (L0 := L) hT.th.th (show R32 al by omega) tb.1 tb.2 k0 hwh ho 184 0 (by omega) L1 hp hl (fun q1 L2 hl2 => ?_) (fun t q1 L2 hl2 => ?_)
        · have q1 : resI al x y z < 0 := q1
          rw [if_pos q1] at h
          have h : RQ Lx I L e Q 4 vI 0 := h
          exact h.mk (v := 0) (FrI.wu (FrI.wu (FrI.wu FrI.rf rfl) rfl) rfl) hl2 (c := 4) u_at rfl (fun z => by cases z)
        · have q2 : resI al x y z = t := q1
          rw [if_neg (by omega), q2, Int.toNat_natCast] at h
          have h : RQ Lx I L e Q 0 vI (resV wh t) := h
          exact h.mk (FrI.wu (FrI.wu FrI.rf rfl) rfl) hl2 (c := 0) u_at rfl (fun _ => rfl)
end
