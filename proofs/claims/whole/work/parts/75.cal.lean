/-! Calls; and the whole: what the plain run tells, the machine does. -/
theorem gi_TB {ws : List Cond} (h : ∀ w ∈ ws, w ∈ TB) : GoodIn TB ws := fun w hw => ⟨h w hw, good_of_word (List.mem_filter.mp (h w hw)).2⟩
theorem mth_ok {i : Nat} (h : mthC i = true) : codeW i ∈ TB ∧ (kO i = 1 → Cond.static (yO i) ∈ TB) ∧ (kO i ≠ 1 → Cond.instanceMethod (yO i) ∈ TB) ∧ (kO i = 0 → Cond.selects (yO i).cls (yO i) (yO i) ∈ TB) ∧ Cond.initialized (yO i).cls ∈ TB ∧
    ((yO i).cls ≠ "java/lang/invoke/MethodHandle" ∧ (yO i).cls ≠ "java/lang/invoke/VarHandle" ∧ (parseMethodDescriptor (yO i).desc).map (fun d => d.parameters.length) = some (nO i)) ∧ plainName (yO i).cls = true ∧ (kO i = 2 → (yO i).name = "<init>" ∧ tO i = none ∧ hX i = []) ∧ (kO i ≠ 1 → hX i = []) ∧ (hX i = [] ∨ (hLo ≤ i ∧ i ≤ hHi)) := by
  unfold mthC at h
  simp only [Bool.and_eq_true, Bool.or_eq_true] at h
  obtain ⟨⟨⟨⟨⟨⟨⟨⟨⟨⟨h1, h2⟩, h3⟩, h4⟩, h5⟩, h6⟩, h7⟩, h8⟩, h9⟩, ha⟩, h10⟩ := h
  have k1 : ∀ {c : Bool} {x y : Bool}, c = true → cond c x y = true → x = true := fun a b => by rw [a] at b; exact b
  have k2 : ∀ {c : Bool} {x y : Bool}, c = false → cond c x y = true → y = true := fun a b => by rw [a] at b; exact b
  have e : ∀ {a b : Nat}, a = b → Nat.beq a b = true := fun h => by subst h; exact Nat.beq_refl _
  refine ⟨chW_in h1, fun k => chW_in (k1 (e k) h2), fun k => chW_in (k2 (nbe k) h2), fun k => chW_in (k1 (e k) h3), chW_in h4, ⟨of_decide_eq_true h5, of_decide_eq_true h6, of_decide_eq_true h7⟩, h8, fun k => ?_, fun k => List.isEmpty_iff.mp (k2 (nbe k) ha), ?_⟩
  · have := k1 (e k) h9
    simp only [Bool.and_eq_true] at this
    exact ⟨of_decide_eq_true this.1.1, of_decide_eq_true this.1.2, List.isEmpty_iff.mp this.2⟩
  · rcases h10 with h | h
    · exact Or.inl (List.isEmpty_iff.mp h)
    · exact Or.inr ⟨Nat.le_of_ble_eq_true h.1, Nat.le_of_ble_eq_true h.2⟩
def FrM (g : GS) (e : Nat) (o : Ou) (g' : GS) (e' : Nat) : Prop := g.1 ≤ g'.1 ∧ g.2.1 ≤ g'.2.1 ∧ e ≤ e' ∧ okO o
def FrW (l : Launch) (D : va_G) (b Lx : Nat) (xs : Nat → Int32) (Z : Nat) (mi pc : Nat) (ls : Lv) (st : List Value) (g : GS) (I : Mi) (L : Ml) (e : Nat) (o : Ou) (g' : GS) (I' : Mi) (L' : Ml) (e' : Nat) : Prop :=
  ∀ (p : Program) (env : Env) (R : Room) (s : State) (m : MethodId) (args : Array Value) (below : List Frame) (meth : Method) (c : Code) (B0 : BJ) (g0 : GS) (B : BJ) (H : Heap) (locs : List Loc) (LS : Array Slot) (cells slots mc ms : Nat),
    CX p s m args meth c R mi → ENV D b Lx xs Z s s.heap → BX B0 B g0 g → g0.1 ≤ g.1 → GOK b Lx xs B g I → MR1 D Z s B g I L H locs → lv_has LS (mO mi) (cvl B.1 ls) → mc ≤ R.cells → ms ≤ R.slots → cells + ((g'.1 + e') - (g.1 + e)) = mc → slots + ((g'.2.1 + 6 * e') - (g.2.1 + 6 * e)) = ms →
    W p l env R s m args below meth c H locs cells slots (vx_MQ below (QcO o D b Lx xs Z B0 g0 g' I' L') (XcO o D b Lx xs Z B0 g0 g' I' L') args s mc ms (fun q => Z ≤ q)) (F0 m pc LS (st.map (cv B.1)))
theorem BX.rf {B : BJ} {g : GS} : BX B B g g := ⟨fun _ _ => rfl, fun _ => rfl⟩
set_option maxHeartbeats 2000000 in
theorem met_of {l : Launch} {D : va_G} {b Lx Z : Nat} {xs : Nat → Int32} {mi : Nat} {args : List Value} {g : GS} {I : Mi} {L : Ml} {e : Nat} {o : Ou} {g' : GS} {I' : Mi} {L' : Ml} {e' : Nat} {B : BJ} (hF : FrW l D b Lx xs Z mi 0 (lv_args 0 args) [] g I L e o g' I' L' e') (hm : mthC mi = true) (hlen : csm args ≤ mO mi) (hG : GOK b Lx xs B g I) :
    vx_Met l (yO mi) (wsO mi) { frames := fO mi, cells := (g'.1 + e') - (g.1 + e), slots := (g'.2.1 + 6 * e') - (g.2.1 + 6 * e), locals := lO mi } (PcO args D b Lx xs Z B g I L) (QcO o D b Lx xs Z B g g' I' L') (XcO o D b Lx xs Z B g g' I' L') ((g'.1 + e') - (g.1 + e)) ((g'.2.1 + 6 * e') - (g.2.1 + 6 * e)) (fun q => Z ≤ q) := by
  obtain ⟨t1, t2, t3, t4, t5, t6, t7, t8, t9, t10⟩ := mth_ok hm
  have hl := lv_entry (args.map (cv B.1)) (n := mO mi) (by rw [lg_len]; exact hlen)
  rw [lv_args_cv] at hl
  by_cases hx : hX mi = []
  · refine vx_ofW (cc := cO mi) (maxL := mO mi) (ret := tO mi) (ws' := TB) t7 (by unfold wsO codeW; rw [hx]; rfl) ?_
    intro p env s m args' below meth c s₁ Bd hml hemp hv
    obtain ⟨rfl, hE, hK, hP, hD⟩ := hv
    rw [lg_entry_eq]
    have hts := atoms_spec (ws := wsO mi) Bd.pre
    refine hF p env _ s m _ below meth c B g B s.heap [] _ 0 0 _ _ ⟨Bd.exec, Bd.bytes, Bd.returns, hml, findClass_of_methodNamed Bd.named, fun w hw => hts w (List.mem_cons_of_mem _ hw), Bd.notSynchronized, fun k => ?_, fun _ => ?_, Nat.le_refl _, Nat.le_refl _⟩ hE BX.rf (Nat.le_refl _) hG ⟨hK, hP, hD, va_S.rf⟩ hl (Nat.le_refl _) (Nat.le_refl _) (Nat.zero_add _) (Nat.zero_add _)
    · rw [(name_of_methodNamed Bd.named Bd.method).1]; exact (t8 k).1
    · unfold hO
      rw [hx]
      cases ht : c.exceptionTable.toList with
      | nil => rfl
      | cons z t => exact (hemp z (by rw [ht]; exact List.mem_cons_self)).elim
  · refine vx_ofWH (cc := cO mi) (maxL := mO mi) (ret := tO mi) (hh := hO mi) (ws' := TB) t7 (by unfold wsO codeW; rw [if_neg (by rw [List.isEmpty_iff]; exact hx)]) ?_
    intro p env s m args' below meth c s₁ Bd hml hv
    obtain ⟨rfl, hE, hK, hP, hD⟩ := hv
    rw [lg_entry_eq]
    have hts := atoms_spec (ws := wsO mi) Bd.pre
    have hcw := hts (codeW mi) List.mem_cons_self
    unfold codeW at hcw
    rw [if_neg (by rw [List.isEmpty_iff]; exact hx)] at hcw
    refine hF p env _ s m _ below meth c B g B s.heap [] _ 0 0 _ _ ⟨Bd.exec, Bd.bytes, Bd.returns, hml, findClass_of_methodNamed Bd.named, fun w hw => hts w (List.mem_cons_of_mem _ hw), Bd.notSynchronized, fun k => ?_, fun _ => vx_table (x := yO mi) Bd hcw, Nat.le_refl _, Nat.le_refl _⟩ hE BX.rf (Nat.le_refl _) hG ⟨hK, hP, hD, va_S.rf⟩ hl (Nat.le_refl _) (Nat.le_refl _) (Nat.zero_add _) (Nat.zero_add _)
    rw [(name_of_methodNamed Bd.named Bd.method).1]; exact (t8 k).1
section
variable {p : Program} {l : Launch} {env : Env} {R : Room} {s : State} {m : MethodId} {args : Array Value} {below : List Frame} {meth : Method} {c : Code} {D : va_G} {b Lx Z : Nat} {xs : Nat → Int32} {mi pc len e1 e2 : Nat} {e3 : Int} {ls : Lv} {st : List Value} {g g0 : GS} {I : Mi} {L : Ml} {B B0 : BJ} {H : Heap} {locs : List Loc} {LS : Array Slot} {cells slots : Nat} {e : Nat}
theorem rcv_in {ci : Nat} {a : List Value} (h : rcv g ci a = true) : ∃ q r, a = .ref q :: r ∧ (shk g.2.2.1 q).1 = ci ∧ q < g.1 ∧ 0 < q := by
  unfold rcv at h
  split at h
  · simp only [Bool.and_eq_true] at h
    exact ⟨_, _, rfl, Nat.eq_of_beq_eq_true h.1.1, nblt h.1.2, nblt h.2⟩
  · cases h
theorem st_split (st : List Value) (k : Nat) (a : Nat → Nat) : st.map (cv a) = ((st.take k).reverse.map (cv a)).reverse ++ (st.drop k).map (cv a) := by
  rw [← List.map_reverse, List.reverse_reverse, ← List.map_append, List.take_append_drop]
theorem csm_rev (l : List Value) : csm l.reverse = csm l := by
  unfold csm
  rw [List.map_reverse, List.sum_reverse]
set_option maxHeartbeats 4000000 in
theorem cal_ok {ins : Instr} {m2 sp : Nat} {a rs : List Value} {o1 : Ou} {g1 : GS} {I1 : Mi} {L1 : Ml} {x1 : Nat} (hmt : ∀ i, i < 420 → mthC i = true) (hC : CX p s m args meth c R mi) (hE : ENV D b Lx xs Z s s.heap) (hG : GOK b Lx xs B g I) (hM : MR1 D Z s B g I L H locs) (hl : lv_has LS (mO mi) (cvl B.1 ls)) (hrow : rowC mi (pc, ins, len, e1, e2, e3) = true)
    (hs : stp (PT mi) pc ins len e1 e2 e3 ls st g I L = some (.inr (.inr (m2, sp, a, rs)))) (hF : m2 < 420 → FrW l D b Lx xs Z m2 0 (lv_args 0 a) [] g I L e o1 g1 I1 L1 x1)
    (hcl : cells + ((g1.1 + x1) - (g.1 + e)) ≤ R.cells) (hsl : slots + ((g1.2.1 + 6 * x1) - (g.2.1 + 6 * e)) ≤ R.slots) :
    m2 < 420 ∧ hdC mi pc = true ∧ (sp = 0 ∨ (sp = 1 ∧ aAll g.1 rs = true ∧ aAll g.1 (ls.map Prod.snd) = true)) ∧ ∃ arr, vx_Run p l env R s m args below meth c H locs cells slots ((g1.1 + x1) - (g.1 + e)) ((g1.2.1 + 6 * x1) - (g.2.1 + 6 * e)) (F0 m pc LS (st.map (cv B.1))) (rs.map (cv B.1)) (QcO o1 D b Lx xs Z B g g1 I1 L1 arr) (XcO o1 D b Lx xs Z B g g1 I1 L1) (fun q => Z ≤ q) := by
  obtain ⟨hx, hb, hr, hml, hown, hts, hlk, hini, hex, hRf, hRl⟩ := id hC
  obtain ⟨hd, hlen⟩ := row_dec hrow
  have hP2 : ∀ U : State, U.heap = H → s.WarmedH U.vm → PcO a D b Lx xs Z B g I L (a.map (cv B.1)).toArray U := fun U hU hW => ⟨rfl, env_mv hE hM.2.2.2 hW hU, va_K.moved hW.alike hM.1, by rw [hU]; exact hM.2.1, hM.2.2.1⟩
  have S : CallFix p m c (cO mi) (mO mi) s args TB (yO mi).cls := ⟨hx, hb, hml, hown, hts⟩
  unfold rowC at hrow
  simp only [Bool.and_eq_true] at hrow
  obtain ⟨-, hrow⟩ := hrow
  rcases cal_ins hs with ⟨n, rfl⟩ | ⟨n, rfl⟩ | ⟨n, rfl⟩
  · change len = 3 at hlen
    subst hlen
    dsimp only [stp, act] at hs
    obtain ⟨c1, c2, c3, c4, h⟩ := aCal_i hs
    obtain ⟨hrc, h⟩ := cond_i h
    cases h
    simp only [Bool.and_eq_true] at hrow
    obtain ⟨⟨⟨⟨⟨⟨⟨⟨r1, r2⟩, r3⟩, r4⟩, r5⟩, r5b⟩, r6⟩, r7⟩, r8⟩ := hrow
    have k0 := Nat.eq_of_beq_eq_true r2
    obtain ⟨t1, t2, t3, t4, t5, t6, t7, t8, t9, t10⟩ := mth_ok (hmt _ c3)
    have hxe : hX e1 = [] := t9 (by omega)
    have r4' := of_decide_eq_true r4
    have r5' := Nat.eq_of_beq_eq_true r5
    have r5c := Nat.eq_of_beq_eq_true r5b
    unfold rmC at r7
    simp only [Bool.and_eq_true] at r7
    refine ⟨c3, r8, Or.inl rfl, ?_⟩
    obtain ⟨q, r, ha, q1, q2, q3⟩ := rcv_in hrc
    have hMet := met_of (B := B) (hF c3) (hmt _ c3) (by rw [csm_rev]; omega) hG
    have hlenr : r.length = nO e1 := by
      have h1 : (st.take (e2 / 32 % 32 + 1)).reverse.length = e2 / 32 % 32 + 1 := by rw [List.length_reverse]; exact c2
      rw [ha, List.length_cons] at h1
      omega
    have hst := st_split st (e2 / 32 % 32 + 1) B.1
    rw [ha] at hst
    refine ⟨_, vx_runV (C := (yO e1).cls) (index := n) (b := B.1 q) (As := r.map (cv B.1)) (bytes := cO e1) (maxL := mO e1) (ret := tO e1) (n := nO e1) S hMet
      (cwV (ws' := TB) (nO e1) hts (gi_TB (fun w hw => ?_)) (by unfold wsO codeW; rw [hxe]; rfl) rfl rfl ⟨rfl, t6⟩ ⟨Nat.le_trans (Nat.le_of_ble_eq_true r7.1) hRf, Nat.le_trans (Nat.le_of_ble_eq_true r7.2) hRl⟩)
      ⟨pco_blind _ D b Lx xs Z B g I L, ?_, fun U hU hW => ?_⟩ rfl (by rw [List.length_map]; exact hlenr) hl.1 ?_ ?_ hd ⟨hcl, hsl⟩⟩
    · unfold wsV at hw
      rcases List.mem_append.mp hw with hw | hw
      · rcases List.mem_cons.mp hw with rfl | hw
        · exact chW_in r6
        · rcases List.mem_cons.mp hw with rfl | hw
          · exact t3 (by omega)
          · rcases List.mem_cons.mp hw with rfl | hw
            · exact t4 k0
            · rcases List.mem_cons.mp hw with rfl | hw
              · exact t5
              · cases hw
      · rcases List.mem_cons.mp hw with rfl | hw
        · exact t1
        · exact hw
    · have := va_recv hM.1 hM.2.1 (clO_at (nblt r3)) (obj_at (L := L) hG q1 q2 q3 (nblt r3))
      rw [r4']
      exact this
    · have := hP2 U hU hW
      rw [ha] at this ⊢
      exact this
    · show st.map (cv B.1) = _
      rw [hst, List.map_cons, List.reverse_cons, List.append_assoc]
      rfl
    · rw [csm_cv]; show 2 * 0 + csm _ ≤ 8; omega
  · change len = 3 at hlen
    subst hlen
    dsimp only [stp, act] at hs
    cases hc : Nat.beq e1 1001 with
    | true => rw [hc] at hs; simp only [cond_true] at hs; obtain ⟨_, _, _, _, _, _, _, _, _, _, _, _, _, _, _, _, _, _, h⟩ := aCpy_i hs
    | false =>
      rw [hc] at hs hrow
      simp only [cond_false, Bool.and_eq_true] at hs hrow
      obtain ⟨c1, c2, c3, c4, h⟩ := aCal_i hs
      cases h
      obtain ⟨⟨⟨⟨⟨⟨r1, r2⟩, r5⟩, r5b⟩, r6⟩, r7⟩, r8⟩ := hrow
      have k0 := Nat.eq_of_beq_eq_true r2
      obtain ⟨t1, t2, t3, t4, t5, t6, t7, t8, t9, t10⟩ := mth_ok (hmt _ c3)
      have r5' := Nat.eq_of_beq_eq_true r5
      have r5c := Nat.eq_of_beq_eq_true r5b
      unfold rmC at r7
      simp only [Bool.and_eq_true] at r7
      refine ⟨c3, r8, Or.inl rfl, ?_⟩
      have hMet := met_of (B := B) (hF c3) (hmt _ c3) (by rw [csm_rev]; omega) hG
      have hst := st_split st (e2 % 1024) B.1
      have hln : ((st.take (e2 % 1024)).reverse.map (cv B.1)).length = nO e1 := by rw [List.length_map, List.length_reverse, c2]; exact r5'
      by_cases hxe : hX e1 = []
      · refine ⟨_, vx_runS (own := (yO mi).cls) (index := n) (As := (st.take (e2 % 1024)).reverse.map (cv B.1)) (bytes := cO e1) (maxL := mO e1) (ret := tO e1) (n := nO e1) S hMet
          ⟨callB_of (ws' := TB) (nO e1) hts (gi_TB (fun w hw => ?_)) (by unfold wsO codeW; rw [hxe]; rfl) rfl rfl (hts _ t5) (hts _ (chW_in r6)) t6 ⟨Nat.le_trans (Nat.le_of_ble_eq_true r7.1) hRf, Nat.le_trans (Nat.le_of_ble_eq_true r7.2) hRl⟩, hts _ (t2 k0)⟩
          ⟨pco_blind _ D b Lx xs Z B g I L, hP2⟩ rfl hln hl.1 hst ?_ hd ⟨hcl, hsl⟩⟩
        · rcases List.mem_cons.mp hw with rfl | hw
          · exact t1
          · exact hw
        · rw [csm_cv]; show 2 * 0 + csm _ ≤ 8; omega
      · refine ⟨_, vx_runSX (own := (yO mi).cls) (index := n) (As := (st.take (e2 % 1024)).reverse.map (cv B.1)) (bytes := cO e1) (maxL := mO e1) (ret := tO e1) (n := nO e1) (hh := hO e1) S hMet
          (vx_cwSW (ws' := TB) (nO e1) hts (gi_TB (fun w hw => ?_)) (by unfold wsO codeW; rw [if_neg (by rw [List.isEmpty_iff]; exact hxe)]) rfl rfl t6 ⟨Nat.le_trans (Nat.le_of_ble_eq_true r7.1) hRf, Nat.le_trans (Nat.le_of_ble_eq_true r7.2) hRl⟩)
          ⟨pco_blind _ D b Lx xs Z B g I L, hP2⟩ rfl hln hl.1 hst ?_ hd ⟨hcl, hsl⟩⟩
        · unfold va_wsS at hw
          rcases List.mem_append.mp hw with hw | hw
          · rcases List.mem_cons.mp hw with rfl | hw
            · exact chW_in r6
            · rcases List.mem_cons.mp hw with rfl | hw
              · exact t2 k0
              · rcases List.mem_cons.mp hw with rfl | hw
                · exact t5
                · cases hw
          · rcases List.mem_cons.mp hw with rfl | hw
            · exact t1
            · exact hw
        · rw [csm_cv]; show 2 * 0 + csm _ ≤ 8; omega
  · change len = 3 at hlen
    subst hlen
    dsimp only [stp, act] at hs
    cases hc : Nat.beq e1 1000 with
    | true => rw [hc] at hs; simp only [cond_true] at hs; obtain ⟨_, _, _, _, h⟩ := aOin_i hs; cases h
    | false =>
      rw [hc] at hs hrow
      simp only [cond_false] at hs hrow
      obtain ⟨c1, c2, c3, c4, h⟩ := aCal_i hs
      obtain ⟨hrc, h⟩ := cond_i h
      cases h
      have hc2 : Nat.ble 1002 e1 = false := by
        cases hq : Nat.ble 1002 e1 with
        | false => rfl
        | true => have := Nat.le_of_ble_eq_true hq; omega
      rw [hc2] at hrow
      simp only [cond_false, Bool.and_eq_true, Bool.or_eq_true] at hrow hrc
      obtain ⟨⟨⟨⟨⟨⟨⟨⟨r1, r2⟩, r3⟩, r4⟩, r5⟩, r5b⟩, r6⟩, r7⟩, r8⟩ := hrow
      have k0 := Nat.eq_of_beq_eq_true r2
      obtain ⟨t1, t2, t3, t4, t5, t6, t7, t8, t9, t10⟩ := mth_ok (hmt _ c3)
      obtain ⟨t8a, t8b, hxe⟩ := t8 k0
      have r5' := Nat.eq_of_beq_eq_true r5
      have r5c := Nat.eq_of_beq_eq_true r5b
      unfold rmC at r7
      simp only [Bool.and_eq_true] at r7
      refine ⟨c3, r8, Or.inr ⟨rfl, hrc.1.2, hrc.2⟩, ?_⟩
      obtain ⟨q, r, ha, q1, q2, q3⟩ := rcv_in hrc.1.1
      have hMet := met_of (B := B) (hF c3) (hmt _ c3) (by rw [csm_rev]; omega) hG
      have hlenr : r.length = nO e1 := by
        have h1 : (st.take (e2 / 32 % 32 + 1)).reverse.length = e2 / 32 % 32 + 1 := by rw [List.length_reverse]; exact c2
        rw [ha, List.length_cons] at h1
        omega
      have hst := st_split st (e2 / 32 % 32 + 1) B.1
      rw [ha] at hst
      have hst2 : st.map (cv B.1) = (r.map (cv B.1)).reverse ++ .ref (B.1 q) :: (st.drop (e2 / 32 % 32 + 1)).map (cv B.1) := by
        rw [hst, List.map_cons, List.reverse_cons, List.append_assoc]
        rfl
      have hP3 : ∀ U : State, U.heap = H → s.WarmedH U.vm → PcO (st.take (e2 / 32 % 32 + 1)).reverse D b Lx xs Z B g I L (Value.ref (B.1 q) :: r.map (cv B.1)).toArray U := fun U hU hW => by
        have := hP2 U hU hW
        rw [ha] at this ⊢
        exact this
      have hgi : GoodIn TB (wsO e1) := gi_TB (fun w hw => by
        rcases List.mem_cons.mp hw with rfl | hw
        · exact t1
        · exact hw)
      have hws : wsO e1 = Cond.code (yO e1) (cO e1) (mO e1) none :: TB := by unfold wsO codeW; rw [hxe, t8b]; rfl
      rcases r6 with r6 | r6
      · exact ⟨_, vx_runI (own := (yO mi).cls) (index := n) (b := B.1 q) (As := r.map (cv B.1)) (bytes := cO e1) (maxL := mO e1) (n := nO e1) S hMet
          (cwI (ws' := TB) (nO e1) hts hgi hws rfl rfl (hts _ t5) (hts _ (chW_in r6)) (hts _ (t3 (by omega))) t8a t6 ⟨Nat.le_trans (Nat.le_of_ble_eq_true r7.1) hRf, Nat.le_trans (Nat.le_of_ble_eq_true r7.2) hRl⟩)
          ⟨pco_blind _ D b Lx xs Z B g I L, hP3⟩ rfl (by rw [List.length_map]; exact hlenr) hl.1 hst2 (by rw [csm_cv]; show 2 * 0 + csm _ ≤ 8; omega) hd ⟨hcl, hsl⟩⟩
      · exact ⟨_, vx_runIN (own := (yO mi).cls) (index := n) (host := "StubBench") (b := B.1 q) (As := r.map (cv B.1)) (bytes := cO e1) (maxL := mO e1) (n := nO e1) S hMet
          ⟨va_cnB (ws' := TB) (nO e1) hts hgi hws rfl rfl (hE.1 _ (chN_in r6).1 (chN_in r6).2) (hts _ t5) t6 ⟨Nat.le_trans (Nat.le_of_ble_eq_true r7.1) hRf, Nat.le_trans (Nat.le_of_ble_eq_true r7.2) hRl⟩, t8a, hts _ (t3 (by omega))⟩
          ⟨pco_blind _ D b Lx xs Z B g I L, hP3⟩ rfl (by rw [List.length_map]; exact hlenr) hl.1 hst2 (by rw [csm_cv]; show 2 * 0 + csm _ ≤ 8; omega) hd ⟨hcl, hsl⟩⟩
end
