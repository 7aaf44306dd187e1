/-! escape: both sides. -/
/-- the first of so many from k on of which P holds, or -1 -/
noncomputable def fF (P : Nat → Prop) : Nat → Nat → Int
  | 0, _ => -1
  | n + 1, k => iP (P k) (k : Int) (fF P n (k + 1))
theorem fF_t {P : Nat → Prop} {n k : Nat} (h : P k) : fF P (n + 1) k = k := iP_t h
theorem fF_f {P : Nat → Prop} {n k : Nat} (h : ¬ P k) : fF P (n + 1) k = fF P n (k + 1) := iP_f h
theorem fF_r {P : Nat → Prop} : ∀ n k, fF P n k = -1 ∨ ((k : Int) ≤ fF P n k ∧ fF P n k < k + n ∧ P (fF P n k).toNat) := by
  intro n
  induction n with
  | zero => intro k; exact Or.inl rfl
  | succ n ih =>
    intro k
    rcases Classical.em (P k) with q | q
    · rw [fF_t q]
      exact Or.inr ⟨by omega, by omega, by rw [Int.toNat_natCast]; exact q⟩
    · rw [fF_f q]
      rcases ih (k + 1) with h | h
      · exact Or.inl h
      · exact Or.inr ⟨by omega, by omega, h.2.2⟩
theorem fF_no {P : Nat → Prop} (h : ∀ j, ¬ P j) : ∀ n k, fF P n k = -1 := by
  intro n
  induction n with
  | zero => intro k; rfl
  | succ n ih => intro k; rw [fF_f (h k)]; exact ih _
theorem RpAt.fr {L L' : Ml} {z : Pt} (h : RpAt L z) (hf : FrL [(58, 10, 4)] L L') : RpAt L' z := ⟨(hf 58 14 rfl).trans h.1, (hf 58 15 rfl).trans h.2.1, (hf 58 16 rfl).trans h.2.2⟩
noncomputable def spD (ch : Ch) (m al x y : Int) (f : Pt → Nat × Int) : Nat × Int := if m < 0 ∨ (ch.2.2.2.1 : Int) < m then (1, 0) else iT x y (if x = 0 then (2, 0) else iP (gdP al (wSeen ch m.toNat)) (f (pt (wSeen ch m.toNat))) (3, 0)) (2, 0)
theorem spD_1 {ch : Ch} {m al x y : Int} {f : Pt → Nat × Int} (hb : m < 0 ∨ (ch.2.2.2.1 : Int) < m) : spD ch m al x y f = (1, 0) := by rw [spD, if_pos hb]
theorem spD_2 {ch : Ch} {j : Nat} {al x y : Int} {f : Pt → Nat × Int} (hj : j ≤ ch.2.2.2.1) (h : ¬ (isT x y ∧ x ≠ 0)) : spD ch j al x y f = (2, 0) := by
  rw [spD, if_neg (by omega)]
  rcases Classical.em (isT x y) with ht | ht
  · rw [iT_t ht, if_pos (Classical.byContradiction fun q => h ⟨ht, q⟩)]
  · rw [iT_f ht]
theorem spD_3 {ch : Ch} {j : Nat} {al x y : Int} {f : Pt → Nat × Int} (hj : j ≤ ch.2.2.2.1) (h1 : isT x y) (h2 : x ≠ 0) (h3 : ¬ gdP al (wSeen ch j)) : spD ch j al x y f = (3, 0) := by
  rw [spD, if_neg (by omega), iT_t h1, if_neg h2, Int.toNat_natCast, iP_f h3]
theorem spD_0 {ch : Ch} {j : Nat} {al x y : Int} {f : Pt → Nat × Int} (hj : j ≤ ch.2.2.2.1) (h1 : isT x y) (h2 : x ≠ 0) (h3 : gdP al (wSeen ch j)) : spD ch j al x y f = f (pt (wSeen ch j)) := by
  rw [spD, if_neg (by omega), iT_t h1, if_neg h2, Int.toNat_natCast, iP_t h3]
def escP (al x y : Int) (z : Pt) (i : Nat) : Prop := ¬ bar al x y (wLine (tgU i) (tgL i) (wZ z))
noncomputable def escI (al x y : Int) (z : Pt) : Int := fF (escP al x y z) 184 0
noncomputable def fEsc (al x y lo : Int) (z : Pt) : Nat × Int := if escI al x y z < 0 then (3, 0) else (0, told lo (tgU (escI al x y z).toNat) (tgL (escI al x y z).toNat))
theorem esc_z {al x y : Int} {z : Pt} (h : z.1 = 0) : escI al x y z = -1 := by
  refine fF_no (fun j q => q (Or.inl ?_)) _ _
  unfold wRe wLine wZ
  rw [h]
  grind
section
variable {Lx : Nat} {I : Mi} {L : Ml} {e : Nat} {Q : Kq}
set_option maxHeartbeats 4000000 in
theorem l_156 (hT : TabAt I) {al x y : Int} (hal : R32 al) (hx : -12 ≤ x ∧ x ≤ 12) (hy : -12 ≤ y ∧ y ≤ 12) (hx0 : x ≠ 0) {z : Pt} (ho : PtOk z) : ∀ (n k : Nat), k + n = 184 → ∀ L : Ml, WvAt L 15 (wZ z) →
    (∀ L', Q (.inl (some (.int (Int32.ofInt (fF (escP al x y z) n k))))) (gE Lx) I L' e) →
    Wp 156 11 [(0, .ref 1), (1, .int (Int32.ofInt al)), (2, .int (Int32.ofInt x)), (3, .int (Int32.ofInt y)), (4, .int (Int32.ofInt k))] [] (gE Lx) I L e Q := by
  have hB := wZ_B ho
  have hg := wZ_g ho
  intro n
  induction n with
  | zero =>
    intro k hk L hW h
    exact s_156_11 (i_lt32 (by omega) (by omega) (fun _ => by omega) (fun _ => h L))
  | succ n ih =>
    intro k hk L hW h
    have hk2 : k < 184 := by omega
    have tb := tg_b hk2
    refine s_156_11 (i_lt32 (by omega) (by omega) (fun _ => ?_) (fun _ => by omega))
    refine c_69 hT hk2 (kcp_v rfl (s_156_43 (c_70 hT hk2 (kcp_v rfl (s_156_53 ?_)))))
    rw [i2l (by omega), i2l (by omega)]
    refine c_76 (x := wZ z) (Or.inr (Or.inr rfl)) ⟨hW.1, hW.2.1, hW.2.2.1, hW.2.2.2⟩ (fun L2 hf2 hW2 => kcp_v rfl (s_156_57 ?_))
    have hf3 := FrL.tr (S := [(16, 0, 4)]) (fr4 rfl rfl rfl rfl) hf2 rfl rfl
    have hW3 : WvAt L2 15 (wZ z) := hW.cg (hf3.at rfl)
    have hBl := (hB.line tb.1 tb.2).le (show (12 : Int) * 1000 + 12 * 1000 ≤ 32845824 by decide)
    refine c_158 hW2 hBl (hg.line (tg_t hk2).nz) hal hx hy hx0 (fun q => kcp_v rfl (s_156_68 (j_1 ?_))) (fun q => kcp_v rfl (s_156_68 (j_0 ?_)))
    · rw [add32]
      have := ih (k + 1) (by omega) L2 hW3 (fun L4 => by
        have := h L4
        rw [fF_f (fun r => r q)] at this
        exact this)
      exact this
    · have := h L2
      rw [fF_t q] at this
      exact this
theorem c_156 (hT : TabAt I) {al x y : Int} (hal : R32 al) (hx : -12 ≤ x ∧ x ≤ 12) (hy : -12 ≤ y ∧ y ≤ 12) (hx0 : x ≠ 0) {z : Pt} (ho : PtOk z) (hp : PtAt L z)
    (h : ∀ L', Q (.inl (some (.int (Int32.ofInt (escI al x y z))))) (gE Lx) I L' e) :
    Wp 156 0 [(0, .ref 1), (1, .int (Int32.ofInt al)), (2, .int (Int32.ofInt x)), (3, .int (Int32.ofInt y))] [] (gE Lx) I L e Q := by
  obtain ⟨p0, p1, p2⟩ := hp
  refine s_156_0 ?_
  rw [p0, p1, p2]
  exact l_156 hT hal hx hy hx0 ho 184 0 (by omega) _ ⟨rfl, rfl, rfl, rfl⟩ h
set_option maxHeartbeats 4000000 in
theorem h_394 {ch : Ch} (hok : ChOk ch) (hc : ChAt I 5 ch) (hT : TabAt I) {m al x y lo : Int} (hm : R32 m) (hal : al = 0 ∨ al = 1) (hx : R32 x) (hy : R32 y) (hlo : R32 lo) (h : CQ Lx I e Q (spD ch m al x y (fEsc al x y lo)).1 (spD ch m al x y (fEsc al x y lo)).2) :
    Wp 394 0 [(0, .ref 1), (1, .int (Int32.ofInt m)), (2, .int (Int32.ofInt al)), (3, .int (Int32.ofInt x)), (4, .int (Int32.ofInt y)), (5, .int (Int32.ofInt lo)), (6, .ref 70)] [] (gE Lx) I L e Q := by
  refine s_394_0 ?_
  rw [hc.2.2.2.1]
  refine mk_pre hm hok.2.2.2.1 (fun hb => ?_) (fun j hj hjn => ?_)
  · rw [spD_1 hb] at h
    exact h.mk (c := 1) FrI.rf (by omega) rfl (fun z => by cases z)
  · subst hj
    refine n_dist hx hy (fun ht k0 => kcp_v rfl (s_155_12 ?_)) (fun q => kcp_x rfl (kcp_h rfl ?_))
    rotate_left
    · rw [spD_2 hjn q] at h
      exact h.mk (c := 2) FrI.rf (by omega) rfl (fun z => by cases z)
    have tb := ht.b
    refine c_148 hok hc hjn (show R32 al by omega) (fun hfi hnn L1 hf1 hp => kcp_v rfl (s_155_18 ?_)) (fun hn L1 hf1 => kcp_x rfl (kcp_h rfl ?_))
    rotate_left
    · rw [spD_3 hjn ht k0 hn] at h
      exact h.mk (c := 3) FrI.rf (by omega) rfl (fun z => by cases z)
    have ho := hfi.ok (wSeen_g hok j hjn)
    rw [spD_0 hjn ht k0 ⟨hfi, hnn⟩] at h
    generalize pt (wSeen ch j) = z at *
    refine c_156 hT (show R32 al by omega) tb.1 tb.2 k0 ho hp (fun L2 => kcp_v rfl (s_155_26 ?_))
    unfold fEsc at h
    have hr := fF_r (P := escP al x y z) 184 0
    have hr2 : escI al x y z = fF (escP al x y z) 184 0 := rfl
    refine i_ltz (by omega) (fun k1 => kcp_h rfl ?_) (fun k1 => ?_)
    · rw [if_pos k1] at h
      exact h.mk (c := 3) FrI.rf (by omega) rfl (fun z => by cases z)
    · rw [if_neg (by omega)] at h
      obtain ⟨r, hr3⟩ : ∃ r : Nat, escI al x y z = r := ⟨(escI al x y z).toNat, by omega⟩
      rw [hr3, Int.toNat_natCast] at h
      rw [hr3]
      have hr4 : r < 184 := by omega
      have tb2 := tg_b hr4
      unfold told at h
      refine i_eqz hlo (fun k2 => c_69 hT hr4 (kcp_v rfl (s_155_67 (kcp_v rfl (s_394_14 (i_inb0 (by decide) ?_)))))) (fun k2 => c_70 hT hr4 (kcp_v rfl (s_155_55 (s_155_67 (kcp_v rfl (s_394_14 (i_inb0 (by decide) ?_)))))))
      · rw [if_pos k2] at h
        exact h.mk (c := 0) FrI.rf (by omega) rfl (fun _ => by rw [o70, i2l (by omega)])
      · rw [if_neg k2] at h
        exact h.mk (c := 0) FrI.rf (by omega) rfl (fun _ => by rw [o70, i2l (by omega)])
set_option maxHeartbeats 4000000 in
theorem l_292 {L0 : Ml} (hT : TabRt I) {al x y lo : Int} (hal : R32 al) (hx : -12 ≤ x ∧ x ≤ 12) (hy : -12 ≤ y ∧ y ≤ 12) (hlo : R32 lo) {z : Pt} (ho : PtOk z) : ∀ (n k : Nat), k + n = 184 → ∀ L : Ml, RpAt L z → L 70 = L0 70 →
    (fF (escP al x y z) n k < 0 → ∀ L', L' 70 = L0 70 → Q (.inl (some (.int (Int32.ofInt 0)))) (gE Lx) (ui I 58 0 (Int32.ofInt 3)) L' e) →
    (∀ j : Nat, fF (escP al x y z) n k = j → ∀ L', L' 70 = L0 70 → Q (.inl (some (.int (Int32.ofInt (told lo (tgU j) (tgL j)))))) (gE Lx) I L' e) →
    Wp 292 25 [(0, .ref 58), (2, .int (Int32.ofInt al)), (3, .int (Int32.ofInt x)), (4, .int (Int32.ofInt y)), (5, .int (Int32.ofInt lo)), (6, .int (Int32.ofInt k))] [] (gE Lx) I L e Q := by
  have hg := wZ_g ho
  intro n
  induction n with
  | zero =>
    intro k hk L hp hl h1 h2
    refine s_292_25 ?_
    rw [hT.1]
    exact i_lt32 (by omega) (by omega) (fun _ => by omega) (fun _ => h1 (by show (-1 : Int) < 0; decide) L hl)
  | succ n ih =>
    intro k hk L hp hl h1 h2
    have hk2 : k < 184 := by omega
    have tb := tg_b hk2
    refine s_292_25 ?_
    rw [hT.1]
    refine i_lt32 (by omega) (by omega) (fun _ => ?_) (fun _ => by omega)
    refine n_276 ho hp (fun L1 r hf1 hr hs hB => kcp_v rfl (s_292_38 ?_))
    rw [tncn (by omega), (hT.2 k hk2).1, (hT.2 k hk2).2, i2l (by omega), i2l (by omega)]
    refine i_inb (by omega) hk2 (i_inb (by omega) hk2 ?_)
    refine c_229 (P := 12) (B := 1000) (s := 0) hr hB (by omega) tb.1 tb.2 (by omega) (by omega) (by omega) (by omega) (hg.sc hs) (tg_t hk2).q1 (fun L2 r2 hf2 hr2 hs2 hB2 => kcp_v rfl (s_292_59 ?_))
    have hs3 : Sc (wLine (tgU k) (tgL k) (wZ z)) r2 := (hs.line _ _).tr hs2
    have hf3 := FrL.tr (S := [(58, 10, 4)]) hf1 hf2 rfl rfl
    have hl3 : L2 70 = L0 70 := (hf3.at rfl).trans hl
    have hbs := bar_sc (al := al) (x := x) (y := y) hs3
    refine n_294 hr2 (hB2.le (by decide)) hal hx hy (fun q => ?_) (fun q => ?_)
    · have q2 : ¬ escP al x y z k := fun w => w (hbs.mpr q)
      rw [fF_f q2] at h1 h2
      rw [add32]
      have := ih (k + 1) (by omega) L2 (hp.fr hf3) hl3 h1 h2
      exact this
    · have q2 : escP al x y z k := fun w => q (hbs.mp w)
      rw [fF_t q2] at h2
      have h3 := h2 k rfl L2 hl3
      rw [tncn (by omega), (hT.2 k hk2).1, (hT.2 k hk2).2]
      unfold told at h3
      refine i_eqz hlo (fun k2 => i_inb (by omega) hk2 ?_) (fun k2 => i_inb (by omega) hk2 ?_)
      · rw [if_pos k2] at h3; exact h3
      · rw [if_neg k2] at h3; exact h3
set_option maxHeartbeats 4000000 in
theorem r_292 {ch : Ch} (hok : ChOk ch) (hc : BnAt I 59 0 ch) (hT : TabRt I) {m al x y lo : Int} (hm : R32 m) (hal : al = 0 ∨ al = 1) (hx : R32 x) (hy : R32 y) (hlo : R32 lo) (h : RQ Lx I L e Q (spD ch m al x y (fEsc al x y lo)).1 vI (spD ch m al x y (fEsc al x y lo)).2) :
    Wp 292 0 [(0, .ref 58), (1, .int (Int32.ofInt m)), (2, .int (Int32.ofInt al)), (3, .int (Int32.ofInt x)), (4, .int (Int32.ofInt y)), (5, .int (Int32.ofInt lo))] [] (gE Lx) I L e Q := by
  have e3 : I 59 3 = Int32.ofInt (ch.2.2.2.1 : Int) := hc.2.2.2.1
  refine s_292_0 ?_
  rw [e3]
  have no : ∀ c : Nat, (c : Int) = 1 ∨ (c : Int) = 2 ∨ (c : Int) = 3 → RQ Lx I L e Q c vI 0 → ∀ L1 : Ml, L1 70 = L 70 → Wp 292 10 [(0, .ref 58), (2, .int (Int32.ofInt al)), (3, .int (Int32.ofInt x)), (4, .int (Int32.ofInt y)), (5, .int (Int32.ofInt lo))] [.int (Int32.ofInt (c : Int)), .ref 58] (gE Lx) I L1 e Q := fun c hcc h2 L1 hl =>
    s_292_10 (i_zlt (by omega) (fun _ => h2.mk (v := 0) (FrI.wu FrI.rf rfl) hl (c := (c : Int)) u_at rfl (fun z => by omega)) (fun k => by omega))
  refine mk_pre2 hm hok.2.2.2.1 (fun hb => s_293_9 (i_zlt (by omega) (fun _ => kcp_v rfl ?_) (fun k => by omega))) (fun j hj hjn => ?_)
  · rw [spD_1 hb] at h
    exact no 1 (by omega) h L rfl
  · subst hj
    refine n_282 hok hc hjn hal hx hy (fun q => kcp_v rfl (s_293_9 (i_zlt (by omega) (fun _ => kcp_v rfl ?_) (fun k => by omega)))) (fun ht k0 q L1 hf1 => kcp_v rfl (s_293_9 (i_zlt (by omega) (fun _ => kcp_v rfl ?_) (fun k => by omega)))) (fun ht k0 q L1 hf1 hp => kcp_v rfl (s_293_9 (i_zlt (by omega) (fun k => by omega) (fun _ => ?_))))
    · rw [spD_2 hjn q] at h
      exact no 2 (by omega) h L rfl
    · rw [spD_3 hjn ht k0 q] at h
      exact no 3 (by omega) h L1 (hf1.at rfl)
    · rw [spD_0 hjn ht k0 q] at h
      have tb := ht.b
      have ho := q.1.ok (wSeen_g hok j hjn)
      have hl : L1 70 = L 70 := hf1.at rfl
      generalize pt (wSeen ch j) = z at *
      obtain ⟨o1, o2, o3⟩ := id ho
      rw [hp.1]
      unfold fEsc at h
      refine i_eq64 (by omega) (by omega) (fun k1 => kcp_v rfl ?_) (fun k1 => kcp_v rfl (s_292_10 (i_zlt (by omega) (fun k => by omega) (fun _ => ?_))))
      · rw [if_pos (by rw [esc_z k1]; decide)] at h
        exact no 3 (by omega) h L1 hl
      · refine l_292 (L0 := L) hT.th (show R32 al by omega) tb.1 tb.2 hlo ho 184 0 (by omega) L1 hp hl (fun q1 L2 hl2 => ?_) (fun r q1 L2 hl2 => ?_)
        · have q1 : escI al x y z < 0 := q1
          rw [if_pos q1] at h
          exact h.mk (v := 0) (FrI.wu (FrI.wu FrI.rf rfl) rfl) hl2 (c := 3) u_at rfl (fun z => by cases z)
        · have q2 : escI al x y z = r := q1
          rw [if_neg (by omega), q2, Int.toNat_natCast] at h
          exact h.mk (FrI.wu FrI.rf rfl) hl2 (c := 0) u_at rfl (fun _ => rfl)
end
