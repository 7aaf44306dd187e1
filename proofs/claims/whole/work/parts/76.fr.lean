/-! THE WHOLE: what the plain run tells, the machine does. -/
theorem hnd_none {i x : Nat} (h : hnd i x = none) : i < hLo ∨ hHi < i := by
  unfold hnd at h
  cases h1 : Nat.blt i hLo with
  | true => exact Or.inl (nblt h1)
  | false =>
    cases h2 : Nat.blt hHi i with
    | true => exact Or.inr (nblt h2)
    | false =>
      change cond (Nat.blt i hLo) none (cond (Nat.blt hHi i) none (some _)) = none at h
      rw [h1, h2] at h
      cases h
theorem exN_inj {x y : Nat} (h1 : 101 ≤ x) (h2 : x ≤ 104) (h3 : 101 ≤ y) (h4 : y ≤ 104) (h : Nat.beq y x = false) : x ≠ y := fun e => by subst e; rw [Nat.beq_refl] at h; cases h
theorem fndH_spec {mi pc x : Nat} {cst : Int32} : ∀ {l : List ((Nat × Nat × Nat × Nat) × Nat × Nat)}, fndH mi pc x cst l = true → ∃ pre s e hp ct ps suf, l = pre ++ ((s, e, hp, ct), x, ps) :: suf ∧ chW ps (.classLink (yO mi).cls ct (exN x)) = true ∧ 0 < ct ∧ s ≤ pc ∧ pc < e ∧ hdK mi hp cst = true ∧
    ∀ z ∈ pre, 0 < z.1.2.2.2 ∧ chW z.2.2 (.classLink (yO mi).cls z.1.2.2.2 (exN z.2.1)) = true ∧ 101 ≤ z.2.1 ∧ z.2.1 ≤ 104 ∧ Nat.beq z.2.1 x = false := by
  intro l
  induction l with
  | nil => intro h; cases h
  | cons q l ih =>
    intro h
    obtain ⟨⟨s, e, hp, ct⟩, y, ps⟩ := q
    unfold fndH at h
    simp only [Bool.and_eq_true] at h
    obtain ⟨⟨⟨⟨⟨⟨h1, h2⟩, h3⟩, h4⟩, h5⟩, h6⟩, h7⟩ := h
    cases hc : Nat.beq y x with
    | true =>
      rw [hc] at h7
      have e := Nat.eq_of_beq_eq_true hc
      subst e
      exact ⟨[], s, _, hp, ct, ps, l, rfl, h1, nblt h2, Nat.le_of_ble_eq_true h3, nblt h4, h7, fun z hz => nomatch hz⟩
    | false =>
      rw [hc] at h7
      obtain ⟨pre, s', e', hp', ct', ps', suf, a1, a2, a3, a4, a5, a6, a7⟩ := ih h7
      refine ⟨((s, e, hp, ct), y, ps) :: pre, s', e', hp', ct', ps', suf, by rw [a1]; rfl, a2, a3, a4, a5, a6, fun z hz => ?_⟩
      rcases List.mem_cons.mp hz with rfl | hz
      · exact ⟨nblt h2, h1, Nat.le_of_ble_eq_true h5, Nat.le_of_ble_eq_true h6, hc⟩
      · exact a7 z hz
theorem fin_oko {mi pc len e1 e2 : Nat} {e3 : Int} {ins : Instr} {ls : Lv} {st : List Value} {g : GS} {I : Mi} {L : Ml} {o : Ou} {x : Nat} (hrow : rowC mi (pc, ins, len, e1, e2, e3) = true) (hs : stp (PT mi) pc ins len e1 e2 e3 ls st g I L = some (.inl (o, x))) : okO o := by
  rcases fin_ins hs with rfl | rfl | rfl | ⟨n, rfl⟩
  · dsimp only [stp, act] at hs
    obtain ⟨v, rfl, hv, h⟩ := aRtI_i hs
    cases h
    trivial
  · dsimp only [stp, act] at hs
    obtain ⟨v, rfl, h⟩ := aRtL_i hs
    cases h
    trivial
  · dsimp only [stp, act] at hs
    obtain ⟨rfl, h⟩ := aRtV_i hs
    cases h
    trivial
  · dsimp only [stp, act] at hs
    cases hc : Nat.ble 101 e1 with
    | false =>
      rw [hc] at hs
      simp only [cond_false] at hs
      have h := (aNew_i hs).2.2.2
      cases h
    | true =>
      rw [hc] at hs
      simp only [cond_true] at hs
      obtain ⟨rfl, h⟩ := aRtV_i hs
      cases h
      unfold rowC at hrow
      simp only [Bool.and_eq_true] at hrow
      have hrow := hrow.2
      rw [hc] at hrow
      simp only [cond_true, Bool.and_eq_true] at hrow
      exact ⟨Nat.le_of_ble_eq_true hc, Nat.le_of_ble_eq_true hrow.1.1.1.1.1⟩
theorem cal_lt {cd pc ins len e1 e2 e3 ls st g I L m2 sp a rs} (hs : stp cd pc ins len e1 e2 e3 ls st g I L = some (.inr (.inr (m2, sp, a, rs)))) : m2 < 420 := by
  rcases cal_ins hs with ⟨n, rfl⟩ | ⟨n, rfl⟩ | ⟨n, rfl⟩
  · dsimp only [stp, act] at hs
    obtain ⟨c1, c2, c3, c4, h⟩ := aCal_i hs
    obtain ⟨hrc, h⟩ := cond_i h
    cases h
    exact c3
  · dsimp only [stp, act] at hs
    cases hc : Nat.beq e1 1001 with
    | true => rw [hc] at hs; simp only [cond_true] at hs; obtain ⟨_, _, _, _, _, _, _, _, _, _, _, _, _, _, _, _, _, _, h⟩ := aCpy_i hs
    | false =>
      rw [hc] at hs
      simp only [cond_false] at hs
      obtain ⟨c1, c2, c3, c4, h⟩ := aCal_i hs
      cases h
      exact c3
  · dsimp only [stp, act] at hs
    cases hc : Nat.beq e1 1000 with
    | true => rw [hc] at hs; simp only [cond_true] at hs; obtain ⟨_, _, _, _, h⟩ := aOin_i hs; cases h
    | false =>
      rw [hc] at hs
      simp only [cond_false] at hs
      obtain ⟨c1, c2, c3, c4, h⟩ := aCal_i hs
      obtain ⟨hrc, h⟩ := cond_i h
      cases h
      exact c3
theorem okO_cv {v : Option Value} (h : okO (.inl v)) (a : Nat → Nat) : v.toList.map (cv a) = v.toList := by
  cases v with
  | none => rfl
  | some w => cases w <;> first | rfl | exact absurd h id
set_option maxRecDepth 100000 in
theorem hX_all : ((List.range (hHi + 1 - hLo)).all fun i => !(hX (hLo + i)).isEmpty) = true := by decide +kernel
theorem hX_ne {mi : Nat} (h1 : Nat.blt mi hLo = false) (h2 : Nat.blt hHi mi = false) : hX mi ≠ [] := by
  have a1 : hLo ≤ mi := by
    rcases Nat.lt_or_ge mi hLo with h | h
    · rw [show Nat.blt mi hLo = true from Nat.ble_eq_true_of_le h] at h1; cases h1
    · exact h
  have a2 : mi ≤ hHi := by
    rcases Nat.lt_or_ge hHi mi with h | h
    · rw [show Nat.blt hHi mi = true from Nat.ble_eq_true_of_le h] at h2; cases h2
    · exact h
  have h := List.all_eq_true.mp hX_all (mi - hLo) (List.mem_range.mpr (by omega))
  rw [show hLo + (mi - hLo) = mi by omega] at h
  intro e
  rw [e] at h
  cases h
section
variable {p : Program} {l : Launch} {env : Env} {R : Room} {s : State} {m : MethodId} {args : Array Value} {below : List Frame} {meth : Method} {c : Code} {D : va_G} {b Lx Z : Nat} {xs : Nat → Int32} {mi : Nat}
/-- a thrown one that the method's own table takes: the constant is told -/
theorem caught_ok {Qc : Array Value → State → Outcome → State → Prop} {XC : String → State → State → Prop} {H : Heap} {locs : List Loc} {cells slots pc x : Nat} {cst : Int32} {LS : Array Slot} {lv : List (Nat × Value)} {rest : List Value} {q : Addr} {ce : Cell} (hC : CX p s m args meth c R mi) (hE : ENV D b Lx xs Z s s.heap) (hall : ∀ r ∈ PT mi, rowC mi r = true) (hl : lv_has LS (mO mi) lv)
    (hh : hdC mi pc = true) (hx1 : 101 ≤ x) (hx2 : x ≤ 104) (hn : hnd mi x = some (some cst)) (hXX : hX mi ≠ []) (hcell : H[q]? = some ce) (hv : ce.vm = .none) (hcl : s.vm.findClass (exN x) = some ce.cls)
    (hq : ∀ t : State, t.heap = H → s.WarmedH t.vm → Qc args s (.returned (some (.int cst))) t) (hf : ∀ z ∈ locs, Z ≤ z.base) :
    vx_W p l env R s m args below meth c H locs cells slots (vx_MQ below Qc XC args s cells slots (fun q => Z ≤ q)) (F0 m pc LS rest) q := by
  obtain ⟨hx, hb, hr, hml, hown, hts, hlk, hini, hex, hRf, hRl⟩ := id hC
  unfold hdC at hh
  simp only [Bool.or_eq_true, Bool.and_eq_true] at hh
  rcases hh with hh | ⟨hto, hh⟩
  · exact absurd (List.isEmpty_iff.mp hh) hXX
  have hto := of_decide_eq_true hto
  have hm : x ∈ [101, 102, 103, 104] := by
    have : x = 101 ∨ x = 102 ∨ x = 103 ∨ x = 104 := by omega
    rcases this with rfl | rfl | rfl | rfl <;> decide
  have hh := List.all_eq_true.mp hh x hm
  rw [hn] at hh
  dsimp only at hh
  obtain ⟨pre, s0, en, hp, ct, ps, suf, a1, a2, a3, a4, a5, a6, a7⟩ := fndH_spec hh
  have hsplit : c.exceptionTable.toList = tableOf (pre.map Prod.fst) ++ ⟨s0, en, hp, ct⟩ :: tableOf (suf.map Prod.fst) := by
    rw [hex (fun z => hXX (by rw [z]; rfl))]
    unfold hO
    rw [a1]
    unfold tableOf
    rw [List.map_append, List.map_append]
    rfl
  have hcw : Cond.castable (exN x) (exN x) ∈ lw_tbl ∧ nwW (.castable (exN x) (exN x)) = true := by
    have : x = 101 ∨ x = 102 ∨ x = 103 ∨ x = 104 := by omega
    rcases this with rfl | rfl | rfl | rfl
    · exact chN_in (i := 775) (by decide +kernel)
    · exact chN_in (i := 858) (by decide +kernel)
    · exact chN_in (i := 896) (by decide +kernel)
    · exact chN_in (i := 934) (by decide +kernel)
  refine vx_catch (own := (yO mi).cls) (name := exN x) hown _ _ _ hsplit ?_ ?_ (by show ct ≠ 0; omega) (hts _ (chW_in a2)) ((hE.1 _ hcw.1 hcw.2).use rfl) hcell hv hcl ?_
  · intro z hz
    unfold tableOf at hz
    obtain ⟨y, hy, rfl⟩ := List.mem_map.mp hz
    obtain ⟨w, hw, rfl⟩ := List.mem_map.mp hy
    obtain ⟨b1, b2, b3, b4, b5⟩ := a7 w hw
    exact Or.inr ⟨by show w.1.2.2.2 ≠ 0; omega, exN w.2.1, hts _ (chW_in b2), hE.2.2.1 _ _ hx1 hx2 b3 b4 (exN_inj hx1 hx2 b3 b4 b5)⟩
  · show (decide (s0 ≤ pc) && decide (pc < en)) = true
    rw [decide_eq_true a4, decide_eq_true a5]
    rfl
  · show W p l env R s m args below meth c H locs cells slots _ (F0 m hp LS [.ref q])
    unfold hdK at a6
    split at a6
    · rename_i y1 k y5 hf1
      simp only [Bool.and_eq_true] at a6
      obtain ⟨hk, a6⟩ := a6
      split at a6
      · rename_i z1 d z2 w1 w2 hf2 hf3
        obtain ⟨m1, q1⟩ := ftc_mem hf1
        obtain ⟨m2, q2⟩ := ftc_mem hf2
        obtain ⟨m3, q3⟩ := ftc_mem hf3
        dsimp only at q1 q2 q3
        subst q1; subst q2; subst q3
        obtain ⟨d1, l1⟩ := row_dec (hall _ m1)
        obtain ⟨d2, l2⟩ := row_dec (hall _ m2)
        obtain ⟨d3, l3⟩ := row_dec (hall _ m3)
        rw [show y5.1 = 1 from l1] at d1
        rw [show z2.1 = 1 from l2] at d2
        rw [show w2.1 = 1 from l3] at d3
        have hcst := of_decide_eq_true a6
        refine lv_astore_n hx hb d1 rfl hl (nblt hk) rfl (fun LS2 hl2 => ?_)
        refine lv_iconst hx hb d2 hcst (vx_ret ?_)
        exact W.iret hx hb (hr.trans hto) hq hf d3 hlk
      · cases a6
    · rename_i y1 k y5 hf1
      simp only [Bool.and_eq_true] at a6
      obtain ⟨hk, a6⟩ := a6
      split at a6
      · rename_i z1 d z2 w1 w2 hf2 hf3
        obtain ⟨m1, q1⟩ := ftc_mem hf1
        obtain ⟨m2, q2⟩ := ftc_mem hf2
        obtain ⟨m3, q3⟩ := ftc_mem hf3
        dsimp only at q1 q2 q3
        subst q1; subst q2; subst q3
        obtain ⟨d1, l1⟩ := row_dec (hall _ m1)
        obtain ⟨d2, l2⟩ := row_dec (hall _ m2)
        obtain ⟨d3, l3⟩ := row_dec (hall _ m3)
        rw [show y5.1 = 2 from l1] at d1
        rw [show z2.1 = 1 from l2] at d2
        rw [show w2.1 = 1 from l3] at d3
        have hcst := of_decide_eq_true a6
        refine lv_astore hx hb d1 hl (nblt hk) rfl (fun LS2 hl2 => ?_)
        refine lv_iconst hx hb d2 hcst (vx_ret ?_)
        exact W.iret hx hb (hr.trans hto) hq hf d3 hlk
      · cases a6
    · cases a6
end
set_option maxHeartbeats 8000000 in
theorem fr_ok {l : Launch} (hl0 : l.stackTraces = false) (hmt : ∀ i, i < 420 → mthC i = true) (hal : ∀ i, i < 421 → ∀ r ∈ PT i, rowC i r = true) (D : va_G) (b Lx Z : Nat) (xs : Nat → Int32) : ∀ (n mi : Nat), mi < 421 → ∀ (pc : Nat) (ls : Lv) (st : List Value) (g : GS) (I : Mi) (L : Ml) (e : Nat) (o : Ou) (g' : GS) (I' : Mi) (L' : Ml) (e' : Nat),
    run [] n mi (PT mi) pc ls st g I L e K0 = some (o, g', I', L', e') → FrM g e o g' e' ∧ ((mi = 420 → ∃ v, o = .inl v) → FrW l D b Lx xs Z mi pc ls st g I L e o g' I' L' e') := by
  intro n
  induction n with
  | zero => intro mi _ pc ls st g I L e o g' I' L' e' h; cases h
  | succ n ih =>
    intro mi hmi pc ls st g I L e o g' I' L' e' h
    rw [run_e, body_eq] at h
    cases hf : ftc (PT mi) pc with
    | none => rw [hf] at h; cases h
    | some row =>
      obtain ⟨q, ins, len, e1, e2, e3⟩ := row
      rw [hf] at h
      dsimp only at h
      obtain ⟨hmem, hq⟩ := ftc_mem hf
      dsimp only at hq
      subst hq
      have hall := hal mi hmi
      have hrow := hall _ hmem
      rcases hs : stp (PT mi) q ins len e1 e2 e3 ls st g I L with _ | ⟨o2, x⟩ | ⟨pc2, ls2, st2, g2, I2, L2⟩ | ⟨m2, sp, a, rs⟩
      · rw [hs] at h; cases h
      · rw [hs] at h
        cases h
        refine ⟨⟨Nat.le_refl _, Nat.le_refl _, Nat.le_add_right _ _, fin_oko hrow hs⟩, ?_⟩
        intro hno p env R s m args below meth c B0 g0 B H locs LS cells slots mc ms hC hE hBX hg0 hG hM hl hmc hms hc1 hs1
        have ec : cells + x = mc := by omega
        have es : slots + 6 * x = ms := by omega
        subst ec; subst es
        exact (fin_ok hl0 hC hE hG hM hl hall hrow hs hBX hmc hms hno).2
      · rw [hs] at h
        obtain ⟨⟨f1, f2, f3, f4⟩, hW⟩ := ih mi hmi _ _ _ _ _ _ _ _ _ _ _ _ h
        obtain ⟨s1, s2⟩ := stp_mono hs
        refine ⟨⟨Nat.le_trans s1 f1, Nat.le_trans s2 f2, f3, f4⟩, ?_⟩
        intro hno p env R s m args below meth c B0 g0 B H locs LS cells slots mc ms hC hE hBX hg0 hG hM hl hmc hms hc1 hs1
        refine nxt_ok hC hE hG hM hl (by dsimp only; omega) (by dsimp only; omega) hall hrow hs ?_
        intro B2 H2 locs2 LS2 hBX2 hG2 hM2 hl2
        exact hW hno p env R s m args below meth c B0 g0 B2 H2 locs2 LS2 _ _ mc ms hC hE (BX.tr hBX hBX2 hg0 s1) (Nat.le_trans hg0 s1) hG2 hM2 hl2 hmc hms (by dsimp only; omega) (by dsimp only; omega)
      · rw [hs] at h
        have hm2 := cal_lt hs
        obtain ⟨o1, g1, I1, L1, x1, h1, h2⟩ := (run_pass n).1 _ _ _ _ _ _ _ _ _ _ _ h
        obtain ⟨⟨f1, f2, f3, f4⟩, hWc'⟩ := ih m2 (by omega) _ _ _ _ _ _ _ _ _ _ _ _ h1
        have hWc := hWc' (fun z => by omega)
        rcases o1 with v | x
        · dsimp only [kcl] at h2
          cases hcb : (Nat.beq sp 1 || Nat.beq g1.1 g.1) with
          | false => rw [hcb] at h2; cases h2
          | true =>
            rw [hcb] at h2
            simp only [cond_true] at h2
            obtain ⟨⟨k1, k2, k3, k4⟩, hW⟩ := ih mi hmi _ _ _ _ _ _ _ _ _ _ _ _ h2
            refine ⟨⟨Nat.le_trans f1 k1, Nat.le_trans f2 k2, Nat.le_trans f3 k3, k4⟩, ?_⟩
            intro hno p env R s m args below meth c B0 g0 B H locs LS cells slots mc ms hC hE hBX hg0 hG hM hl hmc hms hc1 hs1
            obtain ⟨-, hhd, hsp, arr, hr⟩ := cal_ok (e := e) (R := R) (cells := cells) (slots := slots) hmt hC hE hG hM hl hrow hs (fun _ => hWc) (by omega) (by omega)
            intro T hT X
            rcases hr T hT X with ⟨v', st₀, t, T', Lc, h0, X', hLc, e1', e2', hqq, hgo⟩ | ⟨q9, st₀, t, T', Lc, E, ce, h0, X', hLc, e1', e2', hxq, hce, hcv, hcl, hst⟩
            · obtain ⟨hv, B', hBX', hG', hK', hP', hD', hz, hfr⟩ := hqq
              cases hv
              have hM' : MR1 D Z s B' g1 I1 L1 T'.heap (locs ++ Lc) := by
                refine ⟨va_K.moved (by rw [← e2']; exact X'.warmed.alike.symm) hK', by rw [e1']; exact hP', hD', ?_, ?_, ?_⟩
                · rw [e1']; exact Nat.le_trans hM.2.2.2.1 (by rw [← h0]; exact hz)
                · intro z hz1 hz2
                  rw [e1', hfr z (by rw [h0]; exact Nat.lt_of_lt_of_le hz1 hM.2.2.2.1) (Nat.not_le.mp hz2), h0]
                  exact hM.2.2.2.2.1 z hz1 hz2
                · intro z hz1
                  rcases List.mem_append.mp hz1 with hz1 | hz1
                  · exact hM.2.2.2.2.2 z hz1
                  · exact hLc z hz1
              have hrs : rs.map (cv B'.1) = rs.map (cv B.1) ∧ cvl B'.1 ls = cvl B.1 ls := by
                rcases hsp with rfl | ⟨rfl, p1, p2⟩
                · have : g1.1 = g.1 := by
                    simp only [Bool.or_eq_true] at hcb
                    rcases hcb with hcb | hcb
                    · cases hcb
                    · exact Nat.eq_of_beq_eq_true hcb
                  rw [hBX'.2 this]
                  exact ⟨rfl, rfl⟩
                · exact ⟨cvm_ok hBX'.1 p1, cvl_ok hBX'.1 p2⟩
              have hh := hW hno p env R s m args below meth c B0 g0 B' T'.heap (locs ++ Lc) LS _ _ mc ms hC hE (BX.tr hBX hBX' hg0 f1) (Nat.le_trans hg0 f1) hG' hM' (by rw [hrs.2]; exact hl) hmc hms (by omega) (by omega) T' rfl X'
              rw [List.map_append, okO_cv f4, hrs.1] at hh
              obtain ⟨t2, a1, b1⟩ := hh
              exact ⟨t2, hgo t2 a1, b1⟩
            · exact hxq.elim
        · dsimp only [kcl] at h2
          cases hn : hnd mi x with
          | none =>
            rw [hn] at h2
            cases h2
            refine ⟨⟨f1, f2, f3, f4⟩, ?_⟩
            intro hno p env R s m args below meth c B0 g0 B H locs LS cells slots mc ms hC hE hBX hg0 hG hM hl hmc hms hc1 hs1
            obtain ⟨-, hhd, hsp, arr, hr⟩ := cal_ok (e := e) (R := R) (cells := cells) (slots := slots) hmt hC hE hG hM hl hrow hs (fun _ => hWc) (by omega) (by omega)
            intro T hT X
            rcases hr T hT X with ⟨v', st₀, t, T', Lc, h0, X', hLc, e1', e2', hqq, hgo⟩ | ⟨q9, st₀, t, T', Lc, E, ce, h0, X', hLc, e1', e2', hxq, hce, hcv, hcl, hst⟩
            · exact hqq.elim
            · obtain ⟨rfl, B', hBX', hG', hK', hP', hD', hz, hfr⟩ := hxq
              have hM' : MR1 D Z s B' g' I' L' T'.heap (locs ++ Lc) := by
                refine ⟨va_K.moved (by rw [← e2']; exact X'.warmed.alike.symm) hK', by rw [e1']; exact hP', hD', ?_, ?_, ?_⟩
                · rw [e1']; exact Nat.le_trans hM.2.2.2.1 (by rw [← h0]; exact hz)
                · intro z hz1 hz2
                  rw [e1', hfr z (by rw [h0]; exact Nat.lt_of_lt_of_le hz1 hM.2.2.2.1) (Nat.not_le.mp hz2), h0]
                  exact hM.2.2.2.2.1 z hz1 hz2
                · intro z hz1
                  rcases List.mem_append.mp hz1 with hz1 | hz1
                  · exact hM.2.2.2.2.2 z hz1
                  · exact hLc z hz1
              have hemp : c.exceptionTable.toList = [] := by
                obtain ⟨-, -, -, -, -, -, -, -, hex, -, -⟩ := hC
                have hxe : hX mi = [] := by
                  have h419 : mi < 420 := by
                    rcases Nat.lt_or_ge mi 420 with z | z
                    · exact z
                    · obtain ⟨v, hv⟩ := hno (by omega)
                      cases hv
                  · rcases (mth_ok (hmt mi h419)).2.2.2.2.2.2.2.2.2 with hq | hq
                    · exact hq
                    · rcases hnd_none hn with hz | hz <;> omega
                rw [hex (fun z => by obtain ⟨v, hv⟩ := hno z; cases hv)]
                unfold hO
                rw [hxe]
                rfl
              obtain ⟨t2, a1, b1⟩ := vx_out (p := p) (l := l) (e := env) (R := R) (s := s) (m := m) (args := args) (below := below) (meth := meth) (c := c) (H := T'.heap) (locs := locs ++ Lc) (cells := cells + ((g'.1 + e') - (g.1 + e))) (slots := slots + ((g'.2.1 + 6 * e') - (g.2.1 + 6 * e))) (mc := mc) (ms := ms) (free := fun q => Z ≤ q) (ls := LS) (rest := rs.map (cv B.1)) (Qc := QcO (.inr x) D b Lx xs Z B0 g0 g' I' L') (XC := XcO (.inr x) D b Lx xs Z B0 g0 g' I' L') (pc := q) (E := exN x) (ce := ce) (q := q9)
                (fun z hz => by rw [hemp] at hz; cases hz) hC.2.2.2.2.2.2.1 (by rw [e1']; exact hce) hcv hcl (fun t' ht' hv' => ⟨rfl, PO.here (BX.tr hBX hBX' hg0 f1) hG' hM' ht' hv'⟩) (fun z hz => hM'.2.2.2.2.2 z hz) (by omega) (by omega) T' rfl X'
              exact ⟨t2, hst.trans a1, b1⟩
          | some oc => cases oc with
            | none => rw [hn] at h2; cases h2
            | some cst =>
              rw [hn] at h2
              cases h2
              refine ⟨⟨f1, f2, f3, trivial⟩, ?_⟩
              intro hno p env R s m args below meth c B0 g0 B H locs LS cells slots mc ms hC hE hBX hg0 hG hM hl hmc hms hc1 hs1
              obtain ⟨-, hhd, hsp, arr, hr⟩ := cal_ok (e := e) (R := R) (cells := cells) (slots := slots) hmt hC hE hG hM hl hrow hs (fun _ => hWc) (by omega) (by omega)
              intro T hT X
              rcases hr T hT X with ⟨v', st₀, t, T', Lc, h0, X', hLc, e1', e2', hqq, hgo⟩ | ⟨q9, st₀, t, T', Lc, E, ce, h0, X', hLc, e1', e2', hxq, hce, hcv, hcl, hst⟩
              · exact hqq.elim
              · obtain ⟨rfl, B', hBX', hG', hK', hP', hD', hz, hfr⟩ := hxq
                have hM' : MR1 D Z s B' g' I' L' T'.heap (locs ++ Lc) := by
                  refine ⟨va_K.moved (by rw [← e2']; exact X'.warmed.alike.symm) hK', by rw [e1']; exact hP', hD', ?_, ?_, ?_⟩
                  · rw [e1']; exact Nat.le_trans hM.2.2.2.1 (by rw [← h0]; exact hz)
                  · intro z hz1 hz2
                    rw [e1', hfr z (by rw [h0]; exact Nat.lt_of_lt_of_le hz1 hM.2.2.2.1) (Nat.not_le.mp hz2), h0]
                    exact hM.2.2.2.2.1 z hz1 hz2
                  · intro z hz1
                    rcases List.mem_append.mp hz1 with hz1 | hz1
                    · exact hM.2.2.2.2.2 z hz1
                    · exact hLc z hz1
                have hXX : hX mi ≠ [] := by
                  intro hxe
                  have hb1 : Nat.blt mi hLo = false := by
                    cases hq : Nat.blt mi hLo with
                    | false => rfl
                    | true => exfalso; have hn2 := hn; unfold hnd at hn2; change cond (Nat.blt mi hLo) none _ = _ at hn2; rw [hq] at hn2; cases hn2
                  have hb2 : Nat.blt hHi mi = false := by
                    cases hq : Nat.blt hHi mi with
                    | false => rfl
                    | true => exfalso; have hn2 := hn; unfold hnd at hn2; change cond (Nat.blt mi hLo) none (cond (Nat.blt hHi mi) none _) = _ at hn2; rw [hb1, hq] at hn2; cases hn2
                  exact hX_ne hb1 hb2 hxe
                have ecm : cells + ((g'.1 + e') - (g.1 + e)) = mc := by omega
                have esm : slots + ((g'.2.1 + 6 * e') - (g.2.1 + 6 * e)) = ms := by omega
                rw [ecm, esm] at X'
                obtain ⟨t2, a1, b1⟩ := caught_ok (pc := q) (rest := rs.map (cv B.1)) (Qc := QcO (.inl (some (.int cst))) D b Lx xs Z B0 g0 g' I' L') (XC := XcO (.inl (some (.int cst))) D b Lx xs Z B0 g0 g' I' L') hC hE hall hl hhd f4.1 f4.2 hn hXX (by rw [e1']; exact hce) hcv hcl (fun t' ht' hw' => ⟨rfl, PO.here (BX.tr hBX hBX' hg0 f1) hG' hM' ht' hw'.alike⟩) (fun z hz => hM'.2.2.2.2.2 z hz) T' rfl X'
                exact ⟨t2, hst.trans a1, b1⟩
