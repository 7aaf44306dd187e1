/-! What the plain run tells, the machine does. -/
set_option maxHeartbeats 8000000 in
theorem fr_ok2 {l : Launch} (hl0 : l.stackTraces = false) (hmt : ∀ i, i < 420 → mthC2 i = true) (hal : ∀ i, i < 421 → ∀ r ∈ PT i, rowC i r = true) (D : va_G) (b Lx Z : Nat) (xs : Nat → Int32) : ∀ (n mi : Nat), mi < 421 → ∀ (pc : Nat) (ls : Lv) (st : List Value) (g : GS) (I : Mi) (L : Ml) (e : Nat) (o : Ou) (g' : GS) (I' : Mi) (L' : Ml) (e' : Nat),
    run [] n mi (PT mi) pc ls st g I L e K0 = some (o, g', I', L', e') → FrM g e o g' e' ∧ ((mi = 420 → ∃ v, o = .inl v) → FrW l D b Lx xs Z mi pc ls st g I L e o g' I' L' e') := by
  intro n
  induction n with
  | zero => intro mi _ pc ls st g I L e o g' I' L' e' h; cases h
  | succ n ih =>
    intro mi hmi pc ls st g I L e o g' I' L' e' h
    rw [run_e, body_eq] at h
    cases hf : ftc (PT mi) pc with
    | none => rw [hf] at h; cases h
    | some row =>
      obtain ⟨q, ins, len, e1, e2, e3⟩ := row
      rw [hf] at h
      dsimp only at h
      obtain ⟨hmem, hq⟩ := ftc_mem hf
      dsimp only at hq
      subst hq
      have hall := hal mi hmi
      have hrow := hall _ hmem
      rcases hs : stp (PT mi) q ins len e1 e2 e3 ls st g I L with _ | ⟨o2, x⟩ | ⟨pc2, ls2, st2, g2, I2, L2⟩ | ⟨m2, sp, a, rs⟩
      · rw [hs] at h; cases h
      · rw [hs] at h
        cases h
        refine ⟨⟨Nat.le_refl _, Nat.le_refl _, Nat.le_add_right _ _, fin_oko hrow hs⟩, ?_⟩
        intro hno p env R s m args below meth c B0 g0 B H locs LS cells slots mc ms hC hE hBX hg0 hG hM hl hmc hms hc1 hs1
        have ec : cells + x = mc := by omega
        have es : slots + 6 * x = ms := by omega
        subst ec; subst es
        exact (fin_ok hl0 hC hE hG hM hl hall hrow hs hBX hmc hms hno).2
      · rw [hs] at h
        obtain ⟨⟨f1, f2, f3, f4⟩, hW⟩ := ih mi hmi _ _ _ _ _ _ _ _ _ _ _ _ h
        obtain ⟨s1, s2⟩ := stp_mono hs
        refine ⟨⟨Nat.le_trans s1 f1, Nat.le_trans s2 f2, f3, f4⟩, ?_⟩
        intro hno p env R s m args below meth c B0 g0 B H locs LS cells slots mc ms hC hE hBX hg0 hG hM hl hmc hms hc1 hs1
        refine nxt_ok hC hE hG hM hl (by dsimp only; omega) (by dsimp only; omega) hall hrow hs ?_
        intro B2 H2 locs2 LS2 hBX2 hG2 hM2 hl2
        exact hW hno p env R s m args below meth c B0 g0 B2 H2 locs2 LS2 _ _ mc ms hC hE (BX.tr hBX hBX2 hg0 s1) (Nat.le_trans hg0 s1) hG2 hM2 hl2 hmc hms (by dsimp only; omega) (by dsimp only; omega)
      · rw [hs] at h
        have hm2 := cal_lt hs
        obtain ⟨o1, g1, I1, L1, x1, h1, h2⟩ := (run_pass n).1 _ _ _ _ _ _ _ _ _ _ _ h
        obtain ⟨⟨f1, f2, f3, f4⟩, hWc'⟩ := ih m2 (by omega) _ _ _ _ _ _ _ _ _ _ _ _ h1
        have hWc := hWc' (fun z => by omega)
        rcases o1 with v | x
        · dsimp only [kcl] at h2
          cases hcb : (Nat.beq sp 1 || Nat.beq g1.1 g.1) with
          | false => rw [hcb] at h2; cases h2
          | true =>
            rw [hcb] at h2
            simp only [cond_true] at h2
            obtain ⟨⟨k1, k2, k3, k4⟩, hW⟩ := ih mi hmi _ _ _ _ _ _ _ _ _ _ _ _ h2
            refine ⟨⟨Nat.le_trans f1 k1, Nat.le_trans f2 k2, Nat.le_trans f3 k3, k4⟩, ?_⟩
            intro hno p env R s m args below meth c B0 g0 B H locs LS cells slots mc ms hC hE hBX hg0 hG hM hl hmc hms hc1 hs1
            obtain ⟨-, hhd, hsp, arr, hr⟩ := cal_ok2 (e := e) (R := R) (cells := cells) (slots := slots) hmt hC hE hG hM hl hrow hs (fun _ => hWc) (by omega) (by omega)
            intro T hT X
            rcases hr T hT X with ⟨v', st₀, t, T', Lc, h0, X', hLc, e1', e2', hqq, hgo⟩ | ⟨q9, st₀, t, T', Lc, E, ce, h0, X', hLc, e1', e2', hxq, hce, hcv, hcl, hst⟩
            · obtain ⟨hv, B', hBX', hG', hK', hP', hD', hz, hfr⟩ := hqq
              cases hv
              have hM' : MR1 D Z s B' g1 I1 L1 T'.heap (locs ++ Lc) := by
                refine ⟨va_K.moved (by rw [← e2']; exact X'.warmed.alike.symm) hK', by rw [e1']; exact hP', hD', ?_, ?_, ?_⟩
                · rw [e1']; exact Nat.le_trans hM.2.2.2.1 (by rw [← h0]; exact hz)
                · intro z hz1 hz2
                  rw [e1', hfr z (by rw [h0]; exact Nat.lt_of_lt_of_le hz1 hM.2.2.2.1) (Nat.not_le.mp hz2), h0]
                  exact hM.2.2.2.2.1 z hz1 hz2
                · intro z hz1
                  rcases List.mem_append.mp hz1 with hz1 | hz1
                  · exact hM.2.2.2.2.2 z hz1
                  · exact hLc z hz1
              have hrs : rs.map (cv B'.1) = rs.map (cv B.1) ∧ cvl B'.1 ls = cvl B.1 ls := by
                rcases hsp with rfl | ⟨rfl, p1, p2⟩
                · have : g1.1 = g.1 := by
                    simp only [Bool.or_eq_true] at hcb
                    rcases hcb with hcb | hcb
                    · cases hcb
                    · exact Nat.eq_of_beq_eq_true hcb
                  rw [hBX'.2 this]
                  exact ⟨rfl, rfl⟩
                · exact ⟨cvm_ok hBX'.1 p1, cvl_ok hBX'.1 p2⟩
              have hh := hW hno p env R s m args below meth c B0 g0 B' T'.heap (locs ++ Lc) LS _ _ mc ms hC hE (BX.tr hBX hBX' hg0 f1) (Nat.le_trans hg0 f1) hG' hM' (by rw [hrs.2]; exact hl) hmc hms (by omega) (by omega) T' rfl X'
              rw [List.map_append, okO_cv f4, hrs.1] at hh
              obtain ⟨t2, a1, b1⟩ := hh
              exact ⟨t2, hgo t2 a1, b1⟩
            · exact hxq.elim
        · dsimp only [kcl] at h2
          cases hn : hnd mi x with
          | none =>
            rw [hn] at h2
            cases h2
            refine ⟨⟨f1, f2, f3, f4⟩, ?_⟩
            intro hno p env R s m args below meth c B0 g0 B H locs LS cells slots mc ms hC hE hBX hg0 hG hM hl hmc hms hc1 hs1
            obtain ⟨-, hhd, hsp, arr, hr⟩ := cal_ok2 (e := e) (R := R) (cells := cells) (slots := slots) hmt hC hE hG hM hl hrow hs (fun _ => hWc) (by omega) (by omega)
            intro T hT X
            rcases hr T hT X with ⟨v', st₀, t, T', Lc, h0, X', hLc, e1', e2', hqq, hgo⟩ | ⟨q9, st₀, t, T', Lc, E, ce, h0, X', hLc, e1', e2', hxq, hce, hcv, hcl, hst⟩
            · exact hqq.elim
            · obtain ⟨rfl, B', hBX', hG', hK', hP', hD', hz, hfr⟩ := hxq
              have hM' : MR1 D Z s B' g' I' L' T'.heap (locs ++ Lc) := by
                refine ⟨va_K.moved (by rw [← e2']; exact X'.warmed.alike.symm) hK', by rw [e1']; exact hP', hD', ?_, ?_, ?_⟩
                · rw [e1']; exact Nat.le_trans hM.2.2.2.1 (by rw [← h0]; exact hz)
                · intro z hz1 hz2
                  rw [e1', hfr z (by rw [h0]; exact Nat.lt_of_lt_of_le hz1 hM.2.2.2.1) (Nat.not_le.mp hz2), h0]
                  exact hM.2.2.2.2.1 z hz1 hz2
                · intro z hz1
                  rcases List.mem_append.mp hz1 with hz1 | hz1
                  · exact hM.2.2.2.2.2 z hz1
                  · exact hLc z hz1
              have hemp : c.exceptionTable.toList = [] := by
                obtain ⟨-, -, -, -, -, -, -, -, hex, -, -⟩ := hC
                have hxe : hX mi = [] := by
                  have h419 : mi < 420 := by
                    rcases Nat.lt_or_ge mi 420 with z | z
                    · exact z
                    · obtain ⟨v, hv⟩ := hno (by omega)
                      cases hv
                  · rcases (mth_ok2 (hmt mi h419)).2.2.2.2.2.2.2.2.2 with hq | hq
                    · exact hq
                    · rcases hnd_none hn with hz | hz <;> omega
                rw [hex (fun z => by obtain ⟨v, hv⟩ := hno z; cases hv)]
                unfold hO
                rw [hxe]
                rfl
              obtain ⟨t2, a1, b1⟩ := vx_out (p := p) (l := l) (e := env) (R := R) (s := s) (m := m) (args := args) (below := below) (meth := meth) (c := c) (H := T'.heap) (locs := locs ++ Lc) (cells := cells + ((g'.1 + e') - (g.1 + e))) (slots := slots + ((g'.2.1 + 6 * e') - (g.2.1 + 6 * e))) (mc := mc) (ms := ms) (free := fun q => Z ≤ q) (ls := LS) (rest := rs.map (cv B.1)) (Qc := QcO (.inr x) D b Lx xs Z B0 g0 g' I' L') (XC := XcO (.inr x) D b Lx xs Z B0 g0 g' I' L') (pc := q) (E := exN x) (ce := ce) (q := q9)
                (fun z hz => by rw [hemp] at hz; cases hz) hC.2.2.2.2.2.2.1 (by rw [e1']; exact hce) hcv hcl (fun t' ht' hv' => ⟨rfl, PO.here (BX.tr hBX hBX' hg0 f1) hG' hM' ht' hv'⟩) (fun z hz => hM'.2.2.2.2.2 z hz) (by omega) (by omega) T' rfl X'
              exact ⟨t2, hst.trans a1, b1⟩
          | some oc => cases oc with
            | none => rw [hn] at h2; cases h2
            | some cst =>
              rw [hn] at h2
              cases h2
              refine ⟨⟨f1, f2, f3, trivial⟩, ?_⟩
              intro hno p env R s m args below meth c B0 g0 B H locs LS cells slots mc ms hC hE hBX hg0 hG hM hl hmc hms hc1 hs1
              obtain ⟨-, hhd, hsp, arr, hr⟩ := cal_ok2 (e := e) (R := R) (cells := cells) (slots := slots) hmt hC hE hG hM hl hrow hs (fun _ => hWc) (by omega) (by omega)
              intro T hT X
              rcases hr T hT X with ⟨v', st₀, t, T', Lc, h0, X', hLc, e1', e2', hqq, hgo⟩ | ⟨q9, st₀, t, T', Lc, E, ce, h0, X', hLc, e1', e2', hxq, hce, hcv, hcl, hst⟩
              · exact hqq.elim
              · obtain ⟨rfl, B', hBX', hG', hK', hP', hD', hz, hfr⟩ := hxq
                have hM' : MR1 D Z s B' g' I' L' T'.heap (locs ++ Lc) := by
                  refine ⟨va_K.moved (by rw [← e2']; exact X'.warmed.alike.symm) hK', by rw [e1']; exact hP', hD', ?_, ?_, ?_⟩
                  · rw [e1']; exact Nat.le_trans hM.2.2.2.1 (by rw [← h0]; exact hz)
                  · intro z hz1 hz2
                    rw [e1', hfr z (by rw [h0]; exact Nat.lt_of_lt_of_le hz1 hM.2.2.2.1) (Nat.not_le.mp hz2), h0]
                    exact hM.2.2.2.2.1 z hz1 hz2
                  · intro z hz1
                    rcases List.mem_append.mp hz1 with hz1 | hz1
                    · exact hM.2.2.2.2.2 z hz1
                    · exact hLc z hz1
                have hXX : hX mi ≠ [] := by
                  intro hxe
                  have hb1 : Nat.blt mi hLo = false := by
                    cases hq : Nat.blt mi hLo with
                    | false => rfl
                    | true => exfalso; have hn2 := hn; unfold hnd at hn2; change cond (Nat.blt mi hLo) none _ = _ at hn2; rw [hq] at hn2; cases hn2
                  have hb2 : Nat.blt hHi mi = false := by
                    cases hq : Nat.blt hHi mi with
                    | false => rfl
                    | true => exfalso; have hn2 := hn; unfold hnd at hn2; change cond (Nat.blt mi hLo) none (cond (Nat.blt hHi mi) none _) = _ at hn2; rw [hb1, hq] at hn2; cases hn2
                  exact hX_ne hb1 hb2 hxe
                have ecm : cells + ((g'.1 + e') - (g.1 + e)) = mc := by omega
                have esm : slots + ((g'.2.1 + 6 * e') - (g.2.1 + 6 * e)) = ms := by omega
                rw [ecm, esm] at X'
                obtain ⟨t2, a1, b1⟩ := caught_ok (pc := q) (rest := rs.map (cv B.1)) (Qc := QcO (.inl (some (.int cst))) D b Lx xs Z B0 g0 g' I' L') (XC := XcO (.inl (some (.int cst))) D b Lx xs Z B0 g0 g' I' L') hC hE hall hl hhd f4.1 f4.2 hn hXX (by rw [e1']; exact hce) hcv hcl (fun t' ht' hw' => ⟨rfl, PO.here (BX.tr hBX hBX' hg0 f1) hG' hM' ht' hw'.alike⟩) (fun z hz => hM'.2.2.2.2.2 z hz) T' rfl X'
                exact ⟨t2, hst.trans a1, b1⟩
