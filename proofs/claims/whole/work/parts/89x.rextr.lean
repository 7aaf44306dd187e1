/-! extreme, the other side. -/
section
variable {Lx : Nat} {I : Mi} {L : Ml} {e : Nat} {Q : Kq}
set_option maxHeartbeats 8000000 in
theorem r_300 {ch : Ch} (hok : ChOk ch) (hc : BnAt I 59 0 ch) {m x lo : Int} (hm : R32 m) (hx : x = 0 ∨ x = 1) (hlo : R32 lo) (h : RQ Lx I L e Q (spP ch m (fExt x lo)).1 vL (spP ch m (fExt x lo)).2) :
    Wp 300 0 [(0, .ref 58), (1, .int (Int32.ofInt m)), (2, .int (Int32.ofInt x)), (3, .int (Int32.ofInt lo))] [] (gE Lx) I L e Q := by
  have e3 : I 59 3 = Int32.ofInt (ch.2.2.2.1 : Int) := hc.2.2.2.1
  refine s_300_0 ?_
  rw [e3]
  refine mk_pre2 hm hok.2.2.2.1 (fun hb => s_300_6 (i_zlt (by omega) (fun _ => ?_) (fun k => by omega))) (fun j hj hjn => ?_)
  · rw [spP_b hb] at h
    exact h.mk (v := 0) (FrI.wu FrI.rf rfl) rfl (c := 1) u_at rfl (fun z => by cases z)
  · subst hj
    have two : RQ Lx I L e Q 2 vL 0 → ∀ L1 : Ml, L1 70 = L 70 → Wp 300 6 [(0, .ref 58), (2, .int (Int32.ofInt x)), (3, .int (Int32.ofInt lo))] [.int (Int32.ofInt 2), .ref 58] (gE Lx) I L1 e Q := fun h2 L1 hl =>
      s_300_6 (i_zlt (by omega) (fun _ => h2.mk (v := 0) (FrI.wu FrI.rf rfl) hl (c := 2) u_at rfl (fun z => by cases z)) (fun k => by omega))
    refine c_251 hok hc hjn (fun hfi L1 hf1 hp => kcp_v rfl (s_301_17 (j_1 ?_))) (fun hfi L1 hf1 => kcp_v rfl (s_301_17 (j_0 (kcp_v rfl (two ?_ L1 (hf1.at rfl))))))
    · rw [spP_f hjn hfi] at h
      have ho := hfi.ok (wSeen_g hok j hjn)
      have hl : L1 70 = L 70 := hf1.at rfl
      generalize pt (wSeen ch j) = z at *
      obtain ⟨p0, p1, p2⟩ := id hp
      obtain ⟨b1, b2, b3⟩ := pV_b ho
      obtain ⟨c1, c2, c3, c4, c5, c6⟩ := sw_b ho
      obtain ⟨d1, d2, d3, d4, d5⟩ := ex_b ho
      obtain ⟨o1, o2, o3⟩ := id ho
      rw [p0, p1, p2]
      unfold fExt at h
      have go : ¬ (z.1 = z.2.2 ∧ z.2.1 = 0) → Wp 300 6 [(0, .ref 58), (2, .int (Int32.ofInt x)), (3, .int (Int32.ofInt lo))] [.int (Int32.ofInt 0), .ref 58] (gE Lx) I L1 e Q := by
        intro hn
        rw [if_neg hn] at h
        refine s_300_6 (i_zlt (by omega) (fun k => by omega) (fun _ => ?_))
        rw [p0, p1, p2]
        simp only [mul64, add64, sub64, pV_eq]
        refine c_242 (by omega) (fun hs _ => kcp_v rfl (s_300_26 (j_1 ?_))) (fun hs => kcp_v rfl (s_300_26 (j_0 ?_)))
        · rw [iP_t hs] at h
          rw [p0, p1, p2]
          simp only [mul64, add64, sub64, pV_eq]

          have fin : ∀ L2 : Ml, L2 70 = L 70 → ∀ n d : Int, True → L2 58 8 = .ofInt (fU n d) → L2 58 9 = .ofInt (fL n d) → (n, d) = xtN x z → if Int32.ofInt lo = 0 then Q (.inl (some (.long (L2 58 8)))) (gE Lx) (ui (ui I 58 0 (Int32.ofInt 0)) 58 0 (Int32.ofInt 0)) L2 e else Q (.inl (some (.long (L2 58 9)))) (gE Lx) (ui (ui I 58 0 (Int32.ofInt 0)) 58 0 (Int32.ofInt 0)) L2 e := by
            intro L2 hl2 n d _ k8 k9 he
            have h' : RQ Lx I L e Q 0 vL (told lo (fU n d) (fL n d)) := by
              have e1 : n = (xtN x z).1 := by rw [← he]
              have e2 : d = (xtN x z).2 := by rw [← he]
              rw [e1, e2]; exact h
            rw [k8, k9]
            refine i_eqz hlo (fun k0 => h'.mk (FrI.wu (FrI.wu FrI.rf rfl) rfl) hl2 (c := 0) u_at rfl (fun _ => ?_)) (fun k0 => h'.mk (FrI.wu (FrI.wu FrI.rf rfl) rfl) hl2 (c := 0) u_at rfl (fun _ => ?_))
            · rw [told, if_pos k0]
            · rw [told, if_neg k0]
          refine i_eq64 (by omega) (by omega) (fun k => ?_) (fun k => ?_)
          · rcases hx with rfl | rfl
            · refine j_0 (j_0 (c_246 (by omega) (by omega) (by omega) (fun L2 hf2 k8 k9 => kcp_v rfl (s_300_77 (fin L2 ((hf2.at rfl).trans hl) 0 1 trivial k8 k9 ?_)))))
              rw [xtN, if_pos k, if_pos rfl]
            · refine j_1 (j_1 (c_246 (by omega) (by omega) (by omega) (fun L2 hf2 k8 k9 => kcp_v rfl (s_300_77 (fin L2 ((hf2.at rfl).trans hl) 1 0 trivial k8 k9 ?_)))))
              rw [xtN, if_pos k, if_neg (by omega)]
          · have hnz := d5 k
            have tail : ∀ w : Int, (w = rt (pV z) ∨ w = -rt (pV z)) → (z.2.2 * z.2.2 - z.1 * z.1 - z.2.1 * z.2.1 + w, 2 * z.2.1 * z.2.2) = xtN x z → Wp 300 150 [(0, .ref 58), (3, .int (Int32.ofInt lo)), (4, .long (Int64.ofInt (z.2.2 * z.2.2 - z.1 * z.1 - z.2.1 * z.2.1)))] [.long (Int64.ofInt w)] (gE Lx) (ui (ui I 58 0 (Int32.ofInt 0)) 58 0 (Int32.ofInt 0)) L1 e Q := by
              intro w hw he
              refine s_300_150 ?_
              rw [p1, p2]
              simp only [mul64, add64]
              exact c_246 (by omega) (by omega) (by omega) (fun L2 hf2 k8 k9 => kcp_v rfl (s_300_174 (fin L2 ((hf2.at rfl).trans hl) _ _ trivial k8 k9 he)))
            have neg : ¬ (x = 0 ↔ 0 < z.2.1) → Wp 243 0 [(0, .long (Int64.ofInt (pV z)))] [] (gE Lx) (ui (ui I 58 0 (Int32.ofInt 0)) 58 0 (Int32.ofInt 0)) L1 e (kcp (Wp 300) 300 136 0 [(0, .ref 58), (3, .int (Int32.ofInt lo)), (4, .long (Int64.ofInt (z.2.2 * z.2.2 - z.1 * z.1 - z.2.1 * z.2.1)))] 71 [] Q) := by
              intro hn2
              refine c_243 (by omega) (fun r hr => kcp_v rfl (s_300_139 ?_))
              rw [← rt_eq hr, neg64]
              refine tail _ (Or.inr rfl) ?_
              rw [xtN, if_neg k, if_neg hn2]
            have pos : (x = 0 ↔ 0 < z.2.1) → Wp 243 0 [(0, .long (Int64.ofInt (pV z)))] [] (gE Lx) (ui (ui I 58 0 (Int32.ofInt 0)) 58 0 (Int32.ofInt 0)) L1 e (kcp (Wp 300) 300 147 0 [(0, .ref 58), (3, .int (Int32.ofInt lo)), (4, .long (Int64.ofInt (z.2.2 * z.2.2 - z.1 * z.1 - z.2.1 * z.2.1)))] 71 [] Q) := by
              intro hn2
              refine c_243 (by omega) (fun r hr => kcp_v rfl ?_)
              rw [← rt_eq hr]
              refine tail _ (Or.inl rfl) ?_
              rw [xtN, if_neg k, if_pos hn2]
            refine i_lt64 (by omega) (by omega) (fun k1 => i_eq32 (by omega) (by omega) (fun k2 => neg (by omega)) (fun k2 => pos (by omega))) (fun k1 => i_eq32 (by omega) (by omega) (fun k2 => neg (by omega)) (fun k2 => pos (by omega)))
        · rw [iP_f hs] at h
          exact h.mk (v := 0) (FrI.wu (FrI.wu FrI.rf rfl) rfl) hl (c := 2) u_at rfl (fun z => by cases z)
      exact i_eq64 (by omega) (by omega) (fun k => i_eq64 (by omega) (by omega) (fun k1 => kcp_v rfl (two (by rw [if_pos ⟨k, k1⟩] at h; exact h) L1 hl)) (fun k1 => kcp_v rfl (go (fun z => k1 z.2)))) (fun k => kcp_v rfl (go (fun z => k z.1)))
    · rw [spP_n hjn hfi] at h
      exact h
end
