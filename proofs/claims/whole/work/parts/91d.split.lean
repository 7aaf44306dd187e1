/-! split: both sides. -/
def chCut (ch : Ch) (m : Nat) : Ch := (ch.1, ch.2.1, ch.2.2.1, m, ch.2.2.2.2)
theorem chCut_ok {ch : Ch} (h : ChOk ch) {m : Nat} (hm : m ≤ ch.2.2.2.1) : ChOk (chCut ch m) := ⟨h.1, h.2.1, h.2.2.1, by have := h.2.2.2.1; show m ≤ 4; omega, fun j hj => by
  have hj : j < m := hj
  exact h.2.2.2.2 j (by omega)⟩
theorem wSeen_cut {ch : Ch} {m j : Nat} : wSeen (chCut ch m) j = wSeen ch j := wSeen_cg (ch := ch) (c2 := chCut ch m) rfl rfl rfl j (fun _ _ => rfl)
theorem tg_e {k : Nat} (hk : k < 184) : ElOk (0, tgU k, tgL k) := ⟨⟨Int.le_refl 0, show (0 : Int) ≤ 4 by decide⟩, tg_t hk⟩
def splX (ch : Ch) (mk : Nat) (s p q : Int) (k : Nat) : Ch := chAdd (chAdd (chAdd (chCut ch mk) (s, p, q)) (0, tgU k, tgL k)) (s, p, q)
def splW (ch : Ch) (mk : Nat) (s p q : Int) (k : Nat) : Wv := wPass s p q (wLine (tgU k) (tgL k) (wPass s p q (wSeen ch mk)))
def splF (ch : Ch) (mk : Nat) (s p q : Int) (k : Nat) : Int × Int := ecF (splW ch mk s p q k)
theorem splX_ok {ch : Ch} (h : ChOk ch) {mk : Nat} (hm : mk ≤ ch.2.2.2.1) (hm1 : mk ≤ 1) {s p q : Int} (hs : 0 ≤ s ∧ s ≤ 4) (ht : isT p q) {k : Nat} (hk : k < 184) : ChOk (splX ch mk s p q k) :=
  chAdd_ok (chAdd_ok (chAdd_ok (chCut_ok h hm) (by show mk < 4; omega) ⟨hs, ht⟩) (by show mk + 1 < 4; omega) (tg_e hk)) (by show mk + 1 + 1 < 4; omega) ⟨hs, ht⟩
theorem splX_w {ch : Ch} {mk : Nat} {s p q : Int} {k : Nat} : wSeen (splX ch mk s p q k) (mk + 1 + 1 + 1) = splW ch mk s p q k := by
  have e1 : wSeen (chAdd (chCut ch mk) (s, p, q)) (mk + 1) = wPass s p q (wSeen ch mk) := by
    have := wSeen_add (ch := chCut ch mk) (x := (s, p, q))
    have e2 : wSeen (chCut ch mk) mk = wSeen ch mk := wSeen_cut
    show _ = wPass s p q (wSeen ch mk)
    rw [← e2]
    exact this
  have e3 : wSeen (chAdd (chAdd (chCut ch mk) (s, p, q)) (0, tgU k, tgL k)) (mk + 1 + 1) = wLine (tgU k) (tgL k) (wPass s p q (wSeen ch mk)) := by
    have := wSeen_add (ch := chAdd (chCut ch mk) (s, p, q)) (x := (0, tgU k, tgL k))
    rw [← e1]
    exact this
  have := wSeen_add (ch := chAdd (chAdd (chCut ch mk) (s, p, q)) (0, tgU k, tgL k)) (x := (s, p, q))
  unfold splW
  rw [← e3]
  exact this
theorem splF_ok {ch : Ch} (h : ChOk ch) {mk : Nat} (hm : mk ≤ ch.2.2.2.1) (hm1 : mk ≤ 1) {s p q : Int} (hs : 0 ≤ s ∧ s ≤ 4) (ht : isT p q) {k : Nat} (hk : k < 184) : efok (splF ch mk s p q k) := by
  have := ec_f (splX_ok h hm hm1 hs ht hk) (k := mk + 1 + 1 + 1) (Nat.le_refl _)
  rw [splX_w] at this
  exact this
theorem splW_g {ch : Ch} (h : ChOk ch) {mk : Nat} (hm : mk ≤ ch.2.2.2.1) (hm1 : mk ≤ 1) {s p q : Int} (hs : 0 ≤ s ∧ s ≤ 4) (ht : isT p q) {k : Nat} (hk : k < 184) : Good (splW ch mk s p q k) := by
  have := wSeen_g (splX_ok h hm hm1 hs ht hk) (mk + 1 + 1 + 1) (Nat.le_refl _)
  rw [splX_w] at this
  exact this
def splC (k : Nat) : Prop := k < 184
noncomputable def splB (ch : Ch) (mk : Nat) (s p q : Int) : Option Nat := ab splC (-1) (splF ch mk s p q) 184 0 none
theorem splB_s {ch : Ch} {mk : Nat} {s p q : Int} : ∃ t, splB ch mk s p q = some t := ab_0 (n := 183) (show 0 < 184 by decide)
theorem splB_I {ch : Ch} {mk : Nat} {s p q : Int} {t : Nat} (h : splB ch mk s p q = some t) : t < 184 := (ab_I (C := splC) (w := -1) (f := splF ch mk s p q) 184 0 none (fun j h => by cases h) t h).2
noncomputable def splV (ch : Ch) (mk : Nat) (s p q wh : Int) : Option Nat → Int
  | none => 0
  | some t => if wh = 0 then tgU t else if wh = 1 then tgL t else tpt (splF ch mk s p q t)
theorem splV_s {ch : Ch} {mk : Nat} {s p q wh : Int} {t : Nat} : splV ch mk s p q wh (some t) = if wh = 0 then tgU t else if wh = 1 then tgL t else tpt (splF ch mk s p q t) := rfl
noncomputable def spSpl (ch : Ch) (m p q op wh : Int) : Nat × Int := if m < 0 ∨ (ch.2.2.2.1 : Int) < m then (1, 0) else if wh < 0 ∨ 2 < wh then (2, 0) else iT p q (if 1 < m then (4, 0) else (0, splV ch m.toNat (srtS 0 op) p q wh (splB ch m.toNat (srtS 0 op) p q))) (3, 0)
section
variable {Lx : Nat} {I : Mi} {L : Ml} {e : Nat} {Q : Kq}
set_option maxHeartbeats 4000000 in
theorem l_193 {I0 : Mi} {ch : Ch} (hok : ChOk ch) (hT0 : TabAt I0) {mk : Nat} (hm : mk ≤ ch.2.2.2.1) (hm1 : mk ≤ 1) {p q sr : Int} (hs : 0 ≤ sr ∧ sr ≤ 4) (ht : isT p q) : ∀ (s k : Nat) (c : Option Nat), k + s = 184 → abI splC k c → ∀ (I : Mi) (L : Ml), FrI [(21, 0, 0)] I0 I → WvAt L 15 (wPass sr p q (wSeen ch mk)) → BsAt I L (splF ch mk sr p q) c → (∀ t, c = some t → I 21 4 = .ofInt (t : Int)) →
    (∀ I' L', FrI [(21, 0, 0)] I0 I' → BsAt I' L' (splF ch mk sr p q) (ab splC (-1) (splF ch mk sr p q) s k c) → (∀ t, ab splC (-1) (splF ch mk sr p q) s k c = some t → I' 21 4 = .ofInt (t : Int)) → Q (.inl none) (gE Lx) I' L' e) →
    Wp 193 35 [(0, .ref 1), (2, .int (Int32.ofInt p)), (3, .int (Int32.ofInt q)), (4, .int (Int32.ofInt sr)), (5, .int (Int32.ofInt k))] [] (gE Lx) I L e Q := by
  have pb := ht.b
  have hB1 := (wSeen_B hok hm)
  have hBp : WB (99 * 24 ^ mk) (wSeen ch mk) := wSeen_b hok mk hm
  have hmp : (99 : Int) * 24 ^ mk ≤ 2376 := by
    have : mk = 0 ∨ mk = 1 := by omega
    rcases this with rfl | rfl <;> decide
  have hB2 := ((hBp.le hmp).pass (P := 12) (s := sr) pb.1 pb.2 (by omega)).le (show (12 : Int) * 2376 + 12 * 2376 ≤ 57024 by decide)
  intro s
  induction s with
  | zero =>
    intro k c hk hI I L hf hW hs2 h21 h
    exact s_193_35 (i_lt32 (by omega) (by omega) (fun _ => by omega) (fun _ => h I L hf hs2 h21))
  | succ s ih =>
    intro k c hk hI I L hf hW hs2 h21 h
    have hk2 : k < 184 := by omega
    have tb := tg_b hk2
    have hT : TabAt I := hT0.cg (hf.at rfl) (hf.at rfl)
    unfold ab at h
    refine s_193_35 (i_lt32 (by omega) (by omega) (fun _ => ?_) (fun _ => by omega))
    refine c_69 hT hk2 (kcp_v rfl (s_193_67 (c_70 hT hk2 (kcp_v rfl (s_193_77 ?_)))))
    rw [i2l (by omega), i2l (by omega)]
    refine c_76 (x := wPass sr p q (wSeen ch mk)) (Or.inr (Or.inr rfl)) ⟨hW.1, hW.2.1, hW.2.2.1, hW.2.2.2⟩ (fun L2 hf2 hW2 => kcp_v rfl (s_193_81 ?_))
    have hB3 := (hB2.line tb.1 tb.2).le (show (12 : Int) * 57024 + 12 * 57024 ≤ 4611686018427387904 by decide)
    rw [i2l (by omega), i2l (by omega)]
    refine c_75 (by simp) hW2 hB3 (by omega) (fun L3 hf3 hW3 => kcp_v rfl (s_193_94 ?_))
    have hff := FrL.tr (S := [(16, 0, 4)]) (FrL.tr (S := [(16, 0, 4)]) (fr4 rfl rfl rfl rfl) hf2 rfl rfl) hf3 rfl rfl
    have hW4 : WvAt L3 15 (wPass sr p q (wSeen ch mk)) := hW.cg (hff.at rfl)
    have hs3 : BsAt I L3 (splF ch mk sr p q) c := hs2.cg rfl (hff 21 1 rfl) (hff 21 2 rfl)
    refine n_3 (k := k) hW3 rfl (splF_ok hok hm hm1 hs ht hk2) (fun j hj => splF_ok hok hm hm1 hs ht (hI j hj).2) hs3 (fun hb I4 L4 hf4 hl4 hs4 => kcp_v rfl (s_193_115 (j_1 ?_))) (fun hb => kcp_v rfl (s_193_115 (j_0 ?_)))
    · rw [stp_t (C := splC) hk2 hb] at h
      rw [add32]
      have := ih (k + 1) (some k) (by omega) (fun j hj => by cases hj; exact ⟨by omega, hk2⟩) (ui I4 21 4 (Int32.ofInt (k : Int))) L4 (FrI.wu (FrI.tr hf (hf4.up (S := [(21, 0, 0)]) rfl) rfl rfl) rfl) (hW4.cg (hl4.at rfl)) (hs4.cg rfl rfl rfl) (fun t ht2 => by cases ht2; exact u_at) h
      exact this
    · rw [stp_f hb] at h
      rw [add32]
      have := ih (k + 1) c (by omega) (fun j hj => ⟨by have := (hI j hj).1; omega, (hI j hj).2⟩) I L3 hf hW4 hs3 h21 h
      exact this
set_option maxHeartbeats 4000000 in
theorem h_409 {ch : Ch} (hok : ChOk ch) (hc : ChAt I 5 ch) (hT : TabAt I) {m p q op wh : Int} (hm : R32 m) (hp : R32 p) (hq : R32 q) (hop : R32 op) (hwh : R32 wh) (h : CQ Lx I e Q (spSpl ch m p q op wh).1 (spSpl ch m p q op wh).2) :
    Wp 409 0 [(0, .ref 1), (1, .int (Int32.ofInt m)), (2, .int (Int32.ofInt p)), (3, .int (Int32.ofInt q)), (4, .int (Int32.ofInt op)), (5, .int (Int32.ofInt wh)), (6, .ref 70)] [] (gE Lx) I L e Q := by
  refine s_409_0 ?_
  rw [hc.2.2.2.1]
  unfold spSpl at h
  refine mk_pre hm hok.2.2.2.1 (fun hb => ?_) (fun j hj hjn => ?_)
  · rw [if_pos hb] at h
    exact h.mk (c := 1) FrI.rf (by omega) rfl (fun z => by cases z)
  subst hj
  rw [if_neg (by omega), Int.toNat_natCast] at h
  have two : wh < 0 ∨ 2 < wh → Q (.inl (some (.int (Int32.ofInt 2)))) (gE Lx) I L (e + 1) := fun q => by
    rw [if_pos q] at h
    exact h.mk (c := 2) FrI.rf (by omega) rfl (fun z => by cases z)
  refine i_ltz hwh (fun k => two (by omega)) (fun a1 => i_lt32 (by omega) hwh (fun k => two (by omega)) (fun a2 => ?_))
  rw [if_neg (by omega)] at h
  refine n_113 hp hq (fun ht => kcp_v rfl (s_192_18 ?_)) (fun ht => kcp_x rfl (kcp_h rfl ?_))
  rotate_left
  · rw [iT_f ht] at h
    exact h.mk (c := 3) FrI.rf (by omega) rfl (fun z => by cases z)
  rw [iT_t ht] at h
  refine i_lt32 (by omega) hm (fun k => kcp_h rfl ?_) (fun k => ?_)
  · rw [if_pos k] at h
    exact h.mk (c := 4) FrI.rf (by omega) rfl (fun z => by cases z)
  rw [if_neg (by omega)] at h
  have pb := ht.b
  have go : ∀ sr : Int, (0 ≤ sr ∧ sr ≤ 4) → sr = srtS 0 op → Wp 193 0 [(0, .ref 1), (1, .int (Int32.ofInt (j : Int))), (2, .int (Int32.ofInt p)), (3, .int (Int32.ofInt q)), (4, .int (Int32.ofInt sr))] [] (gE Lx) I L e (kcp (Wp 192) 192 41 0 [(0, .ref 1), (5, .int (Int32.ofInt wh))] 71 [] (kcp (Wp 409) 409 11 0 [(0, .ref 1), (6, .ref 70)] 71 [.int (Int32.ofInt 0), .ref 70] Q)) := by
    intro sr hsr he
    rw [← he] at h
    obtain ⟨t, htt⟩ := splB_s (ch := ch) (mk := j) (s := sr) (p := p) (q := q)
    have ht184 := splB_I htt
    rw [htt, splV_s] at h
    have hc2 : ChAt (ui I 21 0 (Int32.ofInt 0)) 5 ch := hc.cg rfl rfl rfl rfl
    have hB1 := (wSeen_B hok hjn).le (show (32845824 : Int) ≤ 4611686018427387904 by decide)
    refine s_193_0 (c_106 (Or.inr rfl) hok hc2 hjn (fun L1 hf1 hW1 => kcp_v rfl (s_193_19 ?_)))
    rw [i2l hp, i2l hq]
    refine c_75 (Or.inr (Or.inl rfl)) hW1 hB1 (by omega) (fun L2 hf2 hW2 => kcp_v rfl (s_193_32 ?_))
    refine l_193 (I0 := I) hok hT hjn (by omega) hsr ht 184 0 none (by omega) (fun j hj => by cases hj) _ L2 (FrI.wu FrI.rf rfl) hW2 u_at (fun t ht => by cases ht) (fun I3 L3 hf3 hs3 h23 => kcp_v rfl (s_192_44 ?_))
    have htt' : ab splC (-1) (splF ch j sr p q) 184 0 none = some t := htt
    rw [htt'] at hs3 h23
    obtain ⟨s0, s1, s2⟩ := hs3
    have q4 := h23 t rfl
    have hT2 : TabAt I3 := hT.cg (hf3.at rfl) (hf3.at rfl)
    have tb := tg_b ht184
    have ho := splF_ok hok hjn (by omega) hsr ht ht184
    have tpb := tpt_b ho
    have hff : FrI cS I I3 := hf3.up rfl
    rw [q4]
    have fin : ∀ v : Int, R32 v → (if wh = 0 then tgU t else if wh = 1 then tgL t else tpt (splF ch j sr p q t)) = v → Q (.inl (some (.int (Int32.ofInt 0)))) (gE Lx) I3 (ul L3 70 (Int32.ofInt 0).toNatClampNeg (Int32.ofInt v).toInt64) e := fun v hv hvv => by
      rw [hvv] at h
      exact h.mk (c := 0) hff (by omega) rfl (fun _ => by rw [o70, i2l hv])
    refine i_eq32 hwh (by omega) (fun k1 => n_tt ho s1 s2 (kcp_v rfl (s_409_14 (i_inb0 (by decide) (fin _ (by omega) (by rw [if_neg (by omega), if_neg (by omega)])))))) (fun k1 => i_eqz hwh (fun k2 => c_69 hT2 ht184 (kcp_v rfl (s_192_77 (s_192_94 (kcp_v rfl (s_409_14 (i_inb0 (by decide) (fin _ (by omega) (by rw [if_pos k2])))))))) ) (fun k2 => c_70 hT2 ht184 (kcp_v rfl (s_192_94 (kcp_v rfl (s_409_14 (i_inb0 (by decide) (fin _ (by omega) (by rw [if_neg k2, if_pos (by omega)]))))))) ))
  refine i_eqz hop (fun k0 => go 2 (by omega) ?_) (fun k0 => go 1 (by omega) ?_)
  · unfold srtS; rw [if_pos rfl, if_pos k0]
  · unfold srtS; rw [if_pos rfl, if_neg k0]
set_option maxHeartbeats 8000000 in
theorem l_325 {I0 : Mi} {L0 : Ml} {ch : Ch} (hok : ChOk ch) (hc0 : BnAt I0 59 0 ch) (hT0 : TabRt I0) {mk : Nat} (hm : mk ≤ ch.2.2.2.1) (hm1 : mk ≤ 1) {p q sr wh : Int} (hs : 0 ≤ sr ∧ sr ≤ 4) (ht : isT p q) (hwh : R32 wh) (hwh2 : 0 ≤ wh ∧ wh ≤ 2) : ∀ (s k : Nat) (c : Option Nat), k + s = 184 → abI splC k c → ∀ (I : Mi) (L : Ml), FrI [(58, 27, 4)] I0 I → L 70 = L0 70 → LeAt I L (splF ch mk sr p q) c → (∀ t, c = some t → I 58 27 = .ofInt (t : Int)) →
    (∃ t, ab splC (-1) (splF ch mk sr p q) s k c = some t) →
    (∀ t I' L', ab splC (-1) (splF ch mk sr p q) s k c = some t → FrI [(58, 27, 4)] I0 I' → L' 70 = L0 70 → Q (.inl (some (.int (Int32.ofInt (splV ch mk sr p q wh (some t)))))) (gE Lx) I' L' e) →
    Wp 325 83 [(0, .ref 58), (1, .int (Int32.ofInt mk)), (2, .int (Int32.ofInt p)), (3, .int (Int32.ofInt q)), (5, .int (Int32.ofInt wh)), (6, .int (Int32.ofInt sr)), (7, .int (Int32.ofInt k))] [] (gE Lx) I L e Q := by
  have pb := ht.b
  intro s
  induction s with
  | zero =>
    intro k c hk hI I L hf hl hs2 h21 hex h
    have hT : TabRt I := hT0.cg (hf 58 7 rfl) (hf.at rfl) (hf.at rfl)
    obtain ⟨t, htt⟩ := hex
    have htt' : c = some t := htt
    subst htt'
    have ht184 : t < 184 := (hI t rfl).2
    have h2 := h t I L rfl hf hl
    rw [splV_s] at h2
    have q3 := h21 t rfl
    obtain ⟨s0, s1, s2⟩ := hs2
    have ho := splF_ok hok hm hm1 hs ht ht184
    refine s_325_83 ?_
    rw [hT.1, q3, s1, s2, tncn (k := t) (by omega), (hT.2 _ ht184).1, (hT.2 _ ht184).2]
    obtain ⟨o1, o2, o3⟩ := id ho
    have cj := fr_b o1.1 o2.1
    have hul := fr_le o1.1 o2.1 o3
    refine i_lt32 (by omega) (by omega) (fun _ => by omega) (fun _ => i_eqz hwh (fun k1 => i_inb (by omega) ht184 (s_325_191 ?_)) (fun k1 => i_eq32 hwh (by omega) (fun k2 => i_inb (by omega) ht184 (s_325_191 ?_)) (fun k2 => c_320 (by omega) (by omega) hul (kcp_v rfl (s_319_11 (kcp_v rfl (s_325_191 ?_)))))))
    · rw [if_pos k1] at h2; exact h2
    · rw [if_neg k1, if_pos k2] at h2; exact h2
    · rw [if_neg k1, if_neg k2] at h2; rw [tpt_red ho]; exact h2
  | succ s ih =>
    intro k c hk hI I L hf hl hs2 h21 hex h
    have hk2 : k < 184 := by omega
    have tb := tg_b hk2
    have hT : TabRt I := hT0.cg (hf 58 7 rfl) (hf.at rfl) (hf.at rfl)
    have hc : BnAt I 59 0 ch := hc0.cg (hf.at rfl)
    unfold ab at h hex
    refine s_325_83 ?_
    rw [hT.1]
    refine i_lt32 (by omega) (by omega) (fun _ => ?_) (fun _ => by omega)
    refine c_227 hok hc hm (fun L1 r1 hf1 hr1 hs1 hB1 => kcp_v rfl (s_325_97 ?_))
    rw [i2l (by omega), i2l (by omega)]
    have okX := splX_ok hok hm hm1 hs ht hk2
    have hBp : WB (99 * 24 ^ mk) (wSeen ch mk) := wSeen_b hok mk hm
    have hmp : (99 : Int) * 24 ^ mk ≤ 2376 := by
      have : mk = 0 ∨ mk = 1 := by omega
      rcases this with rfl | rfl <;> decide
    have b0 := hBp.le hmp
    have b1 := (b0.pass (P := 12) (s := sr) pb.1 pb.2 (by omega)).le (show (12 : Int) * 2376 + 12 * 2376 ≤ 57024 by decide)
    have b2 := (b1.line tb.1 tb.2).le (show (12 : Int) * 57024 + 12 * 57024 ≤ 1368576 by decide)
    have b3 := (b2.pass (P := 12) (s := sr) pb.1 pb.2 (by omega)).le (show (12 : Int) * 1368576 + 12 * 1368576 ≤ 32845824 by decide)
    have g0 := wSeen_g hok mk hm
    have g1 := g0.pass (s := sr) ht.nz
    have g2 := g1.line (tg_t hk2).nz
    refine c_229w hr1 hs1 (b0.le (by decide)) g0 hs ht (fun L2 r2 hf2 hr2 hs2' => kcp_v rfl (s_325_107 ?_))
    rw [tncn (k := k) (by omega), (hT.2 _ hk2).1, (hT.2 _ hk2).2, i2l (by omega), i2l (by omega)]
    refine i_inb (by omega) hk2 (i_inb (by omega) hk2 (c_229w (s := 0) hr2 hs2' (b1.le (by decide)) g1 (by omega) (tg_t hk2) (fun L3 r3 hf3 hr3 hs3 => kcp_v rfl (s_325_128 ?_))))
    rw [i2l (by omega), i2l (by omega)]
    refine c_229w hr3 hs3 (b2.le (by decide)) g2 hs ht (fun L4 r4 hf4 hr4 hs4 => kcp_v rfl (s_325_138 ?_))
    have hs5 : Sc (splW ch mk sr p q k) r4 := hs4
    have b4 : WB 32845824 (splW ch mk sr p q k) := b3
    have hff := FrL.tr (S := [(58, 10, 4)]) (FrL.tr (S := [(58, 10, 4)]) (FrL.tr (S := [(58, 10, 4)]) hf1 hf2 rfl rfl) hf3 rfl rfl) hf4 rfl rfl
    have hl4 : L4 70 = L0 70 := (hff.at rfl).trans hl
    have hle4 : LeAt I L4 (splF ch mk sr p q) c := hs2.cg rfl (hff 58 25 rfl) (hff 58 26 rfl)
    refine c_315 (k := k) hr4 hs5 (hs5.wb b4) (splW_g hok hm hm1 hs ht hk2) rfl (splF_ok hok hm hm1 hs ht hk2) (fun j hj => splF_ok hok hm hm1 hs ht (hI j hj).2) hle4 (fun hb I5 L5 hf5 hl5 hs6 a1 a2 a3 => kcp_v rfl (s_325_146 ?_)) (fun hb L5 hl5 hs6 => kcp_v rfl (s_325_146 ?_))
    · rw [stp_t (C := splC) hk2 hb] at h hex
      rw [add32]
      have := ih (k + 1) (some k) (by omega) (fun j hj => by cases hj; exact ⟨by omega, hk2⟩) I5 L5 (FrI.tr hf hf5 rfl rfl) ((hl5.at rfl).trans hl4) hs6 (fun t ht2 => by cases ht2; exact a1) hex h
      exact this
    · rw [stp_f hb] at h hex
      rw [add32]
      have := ih (k + 1) c (by omega) (fun j hj => ⟨by have := (hI j hj).1; omega, (hI j hj).2⟩) I L5 hf ((hl5.at rfl).trans hl4) hs6 h21 hex h
      exact this
set_option maxHeartbeats 4000000 in
theorem r_325 {ch : Ch} (hok : ChOk ch) (hc : BnAt I 59 0 ch) (hT : TabRt I) {m p q op wh : Int} (hm : R32 m) (hp : R32 p) (hq : R32 q) (hop : R32 op) (hwh : R32 wh) (h : RQ Lx I L e Q (spSpl ch m p q op wh).1 vI (spSpl ch m p q op wh).2) :
    Wp 325 0 [(0, .ref 58), (1, .int (Int32.ofInt m)), (2, .int (Int32.ofInt p)), (3, .int (Int32.ofInt q)), (4, .int (Int32.ofInt op)), (5, .int (Int32.ofInt wh))] [] (gE Lx) I L e Q := by
  have e3 : I 59 3 = Int32.ofInt (ch.2.2.2.1 : Int) := hc.2.2.2.1
  refine s_325_0 ?_
  rw [e3]
  unfold spSpl at h
  refine mk_pre2 hm hok.2.2.2.1 (fun hb => ?_) (fun j hj hjn => ?_)
  · rw [if_pos hb] at h
    exact h.mk (v := 0) (FrI.wu FrI.rf rfl) rfl (c := 1) u_at rfl (fun z => by cases z)
  subst hj
  rw [if_neg (by omega), Int.toNat_natCast] at h
  have two : wh < 0 ∨ 2 < wh → Q (.inl (some (.int (Int32.ofInt 0)))) (gE Lx) (ui I 58 0 (Int32.ofInt 2)) L e := fun q => by
    rw [if_pos q] at h
    exact h.mk (v := 0) (FrI.wu FrI.rf rfl) rfl (c := 2) u_at rfl (fun z => by cases z)
  refine i_lt32 hwh (by omega) (fun k => two (by omega)) (fun a1 => i_lt32 (by omega) hwh (fun k => two (by omega)) (fun a2 => ?_))
  rw [if_neg (by omega)] at h
  refine c_207 hp hq (fun ht => kcp_v rfl (s_325_32 (j_1 ?_))) (fun ht => kcp_v rfl (s_325_32 (j_0 ?_)))
  rotate_left
  · rw [iT_f ht] at h
    exact h.mk (v := 0) (FrI.wu FrI.rf rfl) rfl (c := 3) u_at rfl (fun z => by cases z)
  rw [iT_t ht] at h
  refine i_lt32 (by omega) hm (fun k => ?_) (fun k => ?_)
  · rw [if_pos k] at h
    exact h.mk (v := 0) (FrI.wu FrI.rf rfl) rfl (c := 4) u_at rfl (fun z => by cases z)
  rw [if_neg (by omega)] at h
  have go : ∀ sr : Int, (0 ≤ sr ∧ sr ≤ 4) → sr = srtS 0 op → Wp 325 83 [(0, .ref 58), (1, .int (Int32.ofInt (j : Int))), (2, .int (Int32.ofInt p)), (3, .int (Int32.ofInt q)), (5, .int (Int32.ofInt wh)), (6, .int (Int32.ofInt sr)), (7, .int (Int32.ofInt 0))] [] (gE Lx) (ui (ui I 58 0 (Int32.ofInt 0)) 58 30 (Int32.ofInt 0)) L e Q := by
    intro sr hsr he
    rw [← he] at h
    refine l_325 (I0 := ui (ui I 58 0 (Int32.ofInt 0)) 58 30 (Int32.ofInt 0)) (L0 := L) hok (hc.cg rfl) (hT.cg rfl rfl rfl) hjn (by omega) hsr ht hwh ⟨a1, a2⟩ 184 0 none (by omega) (fun j hj => by cases hj) _ L FrI.rf rfl u_at (fun t ht => by cases ht) splB_s (fun t I2 L2 htt hf2 hl2 => ?_)
    have ht2 : splB ch j sr p q = some t := htt
    rw [ht2] at h
    exact h.mk (FrI.tr (A := rS) (FrI.wu (FrI.wu FrI.rf rfl) rfl) hf2 rfl rfl) hl2 (c := 0) ((hf2 58 0 rfl).trans rfl) rfl (fun _ => rfl)
  refine i_eqz hop (fun k0 => go 2 (by omega) ?_) (fun k0 => go 1 (by omega) ?_)
  · unfold srtS; rw [if_pos rfl, if_pos k0]
  · unfold srtS; rw [if_pos rfl, if_neg k0]
end
