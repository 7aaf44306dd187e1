/-! A whole method: where the plain run ends, the machine's method ends so. -/
theorem nw_on {w : Cond} (h : nwW w = true) : w.onTables = true := by cases w <;> first | rfl | cases h
theorem nw_sup {C S : String} {s U : State} (hW : s.vm.Alike U.vm) (hZ : va_Nw (.superclass C S) s) : va_Nw (.superclass C S) U := by
  have hc : ∃ c, s.vm.findClass C = some c := by
    cases hc : s.vm.findClass C with
    | some c => exact ⟨c, rfl⟩
    | none => exfalso; simp [va_Nw, Cond.before, Cond.holds, Cond.value, hc] at hZ
  obtain ⟨c, hc⟩ := hc
  obtain ⟨p, k, kp, h1, h2, h3, h4, h5, h6, h7⟩ := Cond.superclass_spec hc hZ
  obtain ⟨k', hk', ek⟩ := hW.2.2 _ _ h2
  obtain ⟨kp', hkp', ekp⟩ := hW.2.2 _ _ h3
  have hc' : U.vm.findClass C = some c := by rw [hW.findClass]; exact hc
  have h1' : U.vm.findClass S = some p := by rw [hW.findClass]; exact h1
  have e4 : k'.super = some p := by rw [ek]; exact h4
  have e5 : k'.kind = .ordinary := by rw [ek]; exact h5
  have e6 : kp'.kind = .ordinary := by rw [ekp]; exact h6
  have e7 : k'.isInterface = false := by rw [ek]; exact h7
  simp [va_Nw, Cond.before, Cond.holds, Cond.value, hc', h1', hk', hkp', e4, e5, e6, e7]
theorem nw_mv {s U : State} (hW : s.WarmedH U.vm) {w : Cond} (hw : nwW w = true) (h : va_Nw w s) : va_Nw w U := by
  cases w <;> first | (cases hw; done) | exact nw_sup hW.alike h | exact va_Nw.warmC hW h | exact va_Nw.warmD hW h | exact va_Nw.warmF hW h | exact va_Nw.warmM hW h
theorem env_mv {D : va_G} {b Lx Z : Nat} {xs : Nat → Int32} {s U : State} {H : Heap} {locs : List Loc} (hE : ENV D b Lx xs Z s s.heap) (hS : va_S (fun q => Z ≤ q) s.heap H locs) (hW : s.WarmedH U.vm) (hU : U.heap = H) : ENV D b Lx xs Z U U.heap := by
  obtain ⟨n1, n2, n3, n4, n5, n6, n7, n8⟩ := hE
  subst hU
  refine ⟨fun w h1 h2 => nw_mv hW h2 (n1 w h1 h2), n2.moved hW.alike, fun x y a1 a2 a3 a4 a5 => (n3 x y a1 a2 a3 a4 a5).moved hW.alike, (n4.kept hS.2.1).moved hW.alike, (n5.kept hS.2.1).moved hW.alike, (n6.kept (hS.2.1 b (Nat.lt_of_lt_of_le n7 n8) (Nat.not_le.mpr n7))).moved hW.alike, n7, Nat.le_trans n8 hS.1⟩
theorem env_eq {D : va_G} {b Lx Z : Nat} {xs : Nat → Int32} {s U : State} (hE : ENV D b Lx xs Z s s.heap) (hv : s.vm = U.vm) (hh : s.heap = U.heap) : ENV D b Lx xs Z U U.heap := by
  obtain ⟨n1, n2, n3, n4, n5, n6, n7, n8⟩ := hE
  have hal : s.vm.Alike U.vm := by rw [hv]; exact Vm.Alike.refl _
  rw [← hh]
  exact ⟨fun w h1 h2 => va_Nw.same (nw_on h2) hv (n1 w h1 h2), n2.moved hal, fun x y a1 a2 a3 a4 a5 => (n3 x y a1 a2 a3 a4 a5).moved hal, n4.moved hal, n5.moved hal, n6.moved hal, n7, n8⟩
def PO (D : va_G) (b Lx : Nat) (xs : Nat → Int32) (Z : Nat) (B : BJ) (g g' : GS) (I' : Mi) (L' : Ml) (st t : State) : Prop :=
  ∃ B' : BJ, BX B B' g g' ∧ GOK b Lx xs B' g' I' ∧ va_K D vwCl B'.2.2 t ∧ va_P D vwCl (wld B' g' I' L') t.heap ∧ va_D (fun q => Z ≤ q) (wld B' g' I' L') ∧ st.heap.size ≤ t.heap.size ∧ ∀ q : Nat, q < st.heap.size → q < Z → t.heap[q]? = st.heap[q]?
def QcO (o : Ou) (D : va_G) (b Lx : Nat) (xs : Nat → Int32) (Z : Nat) (B : BJ) (g g' : GS) (I' : Mi) (L' : Ml) : Array Value → State → Outcome → State → Prop := fun _ st oc t => match o with
  | .inl v => oc = .returned v ∧ PO D b Lx xs Z B g g' I' L' st t
  | .inr _ => False
def XcO (o : Ou) (D : va_G) (b Lx : Nat) (xs : Nat → Int32) (Z : Nat) (B : BJ) (g g' : GS) (I' : Mi) (L' : Ml) : String → State → State → Prop := fun E st t => match o with
  | .inl _ => False
  | .inr x => E = exN x ∧ PO D b Lx xs Z B g g' I' L' st t
def PcO (args : List Value) (D : va_G) (b Lx : Nat) (xs : Nat → Int32) (Z : Nat) (B : BJ) (g : GS) (I : Mi) (L : Ml) : Array Value → State → Prop :=
  va_Pc (args.map (cv B.1)) (fun U => ENV D b Lx xs Z U U.heap ∧ va_K D vwCl B.2.2 U ∧ va_P D vwCl (wld B g I L) U.heap ∧ va_D (fun q => Z ≤ q) (wld B g I L))
def okO (o : Ou) : Prop := match o with
  | .inl none => True
  | .inl (some (.int _)) => True
  | .inl (some (.long _)) => True
  | .inl _ => False
  | .inr x => 101 ≤ x ∧ x ≤ 104
theorem BX.tr {B0 B B2 : BJ} {g0 g g2 : GS} (h1 : BX B0 B g0 g) (h2 : BX B B2 g g2) (l1 : g0.1 ≤ g.1) (l2 : g.1 ≤ g2.1) : BX B0 B2 g0 g2 := by
  refine ⟨fun k hk => (h2.1 k (Nat.lt_of_lt_of_le hk l1)).trans (h1.1 k hk), fun e => ?_⟩
  have e1 : g.1 = g0.1 := by omega
  have e2 : g2.1 = g.1 := by omega
  rw [h2.2 e2, h1.2 e1]
theorem pco_blind (args : List Value) (D : va_G) (b Lx : Nat) (xs : Nat → Int32) (Z : Nat) (B : BJ) (g : GS) (I : Mi) (L : Ml) : FrameBlind (PcO args D b Lx xs Z B g I L) := by
  intro a U f mk q
  obtain ⟨q0, qE, qK, qP, qD⟩ := q
  exact ⟨q0, env_eq (U := U.calling f mk a) qE rfl rfl, va_K.moved (u := U) (U := U.calling f mk a) (Vm.Alike.refl U.vm) qK, qP, qD⟩
theorem lv_args_cv (a : Nat → Nat) : ∀ (vs : List Value) (i : Nat), lv_args i (vs.map (cv a)) = cvl a (lv_args i vs) := by
  intro vs
  induction vs with
  | nil => intro i; rfl
  | cons v vs ih =>
    intro i
    show (i, cv a v) :: lv_args (if (cv a v).category = 2 then i + 2 else i + 1) (vs.map (cv a)) = (i, cv a v) :: cvl a (lv_args (if v.category = 2 then i + 2 else i + 1) vs)
    rw [cv_cat, ih]
theorem lg_len (a : Nat → Nat) (vs : List Value) : (lg_sl (vs.map (cv a))).length = csm vs := by
  unfold lg_sl csm
  induction vs with
  | nil => rfl
  | cons v vs ih =>
    rw [List.map_cons, List.flatMap_cons, List.length_append, ih, List.map_cons, List.sum_cons, cv_cat]
    congr 1
    rcases lv_cat v with h | h <;> rw [h] <;> rfl
/-! the words of a throw -/
def exC (x : Nat) : List Cond := (Bundle.throwableAtoms ++ Bundle.chain0Atoms (exN x) exS) ++ (Bundle.ownAtoms0 "" 0 (exN x) exS).drop ((Bundle.throwableAtoms ++ Bundle.chain0Atoms (exN x) exS).length + 1)
theorem own_mem {own : String} {ic x : Nat} {w : Cond} (h : w ∈ Bundle.ownAtoms0 own ic (exN x) exS) : w = .methodLink own ic (Bundle.init0 (exN x)) ∨ w ∈ exC x := by
  have e : ∀ (A B : List Cond) (y : Cond), (A ++ y :: B).drop (A.length + 1) = B := fun A B y => by simp
  unfold Bundle.ownAtoms0 at h
  unfold exC Bundle.ownAtoms0
  rw [e]
  rcases List.mem_append.mp h with h | h
  · exact Or.inr (List.mem_append_left _ h)
  · rcases List.mem_cons.mp h with h | h
    · exact Or.inl h
    · exact Or.inr (List.mem_append_right _ h)
def exK (x : Nat) : Bool := (exC x).all (fun w => !vx_no w || (decide (w ∈ lw_tbl) && (goodWord w || nwW w)))
set_option maxRecDepth 1000000 in
theorem exK_1 : exK 101 = true := by decide +kernel
set_option maxRecDepth 1000000 in
theorem exK_2 : exK 102 = true := by decide +kernel
set_option maxRecDepth 1000000 in
theorem exK_3 : exK 103 = true := by decide +kernel
set_option maxRecDepth 1000000 in
theorem exK_4 : exK 104 = true := by decide +kernel
theorem exK_all {x : Nat} (h1 : 101 ≤ x) (h2 : x ≤ 104) : exK x = true := by
  have : x = 101 ∨ x = 102 ∨ x = 103 ∨ x = 104 := by omega
  rcases this with rfl | rfl | rfl | rfl
  · exact exK_1
  · exact exK_2
  · exact exK_3
  · exact exK_4
theorem at0_ok {D : va_G} {b Lx Z : Nat} {xs : Nat → Int32} {s : State} {args : Array Value} {own : String} {ic x : Nat} (hE : ENV D b Lx xs Z s s.heap) (hts : ∀ w ∈ TB, w.before args s = true) (h1 : 101 ≤ x) (h2 : x ≤ 104) (hm : Cond.methodLink own ic (Bundle.init0 (exN x)) ∈ TB) :
    ∀ w ∈ vx_at0 own ic (exN x) exS, w.before args s = true ∧ vx_ot w = true := by
  intro w hw
  obtain ⟨hw1, hw2⟩ := List.mem_filter.mp hw
  have tb : ∀ w : Cond, w ∈ TB → w.before args s = true ∧ vx_ot w = true := fun w h => ⟨hts w h, by unfold vx_ot; rw [(List.mem_filter.mp h).2, Bool.or_true]⟩
  rcases own_mem hw1 with h | h
  · rw [h]; exact tb _ hm
  · have h3 := List.all_eq_true.mp (exK_all h1 h2) w h
    rw [hw2] at h3
    simp only [Bool.not_true, Bool.false_or, Bool.and_eq_true, Bool.or_eq_true] at h3
    obtain ⟨h4, h5⟩ := h3
    have h4 := of_decide_eq_true h4
    rcases h5 with h5 | h5
    · exact tb w (List.mem_filter.mpr ⟨h4, h5⟩)
    · exact ⟨(hE.1 w h4 h5).use (nw_on h5), by unfold vx_ot; rw [nw_on h5]; rfl⟩
theorem exI_in {x : Nat} (h1 : 101 ≤ x) (h2 : x ≤ 104) : Cond.initialized (exN x) ∈ TB ∧ Bundle.fit (exN x) = true := by
  have : x = 101 ∨ x = 102 ∨ x = 103 ∨ x = 104 := by omega
  rcases this with rfl | rfl | rfl | rfl
  · exact ⟨chW_in (i := 174) (by decide +kernel), by decide +kernel⟩
  · exact ⟨chW_in (i := 176) (by decide +kernel), by decide +kernel⟩
  · exact ⟨chW_in (i := 177) (by decide +kernel), by decide +kernel⟩
  · exact ⟨chW_in (i := 178) (by decide +kernel), by decide +kernel⟩
theorem exS_fit : ∀ n ∈ exS, Bundle.fit n = true := by decide +kernel
/-! the end of a method -/
section
variable {p : Program} {l : Launch} {env : Env} {R : Room} {s : State} {m : MethodId} {args : Array Value} {below : List Frame} {meth : Method} {c : Code} {D : va_G} {b Lx Z : Nat} {xs : Nat → Int32} {mi pc len e1 e2 : Nat} {e3 : Int} {ls : Lv} {st : List Value} {g g0 : GS} {I : Mi} {L : Ml} {B B0 : BJ} {H : Heap} {locs : List Loc} {LS : Array Slot} {cells slots : Nat}
theorem PO.here (hBX : BX B0 B g0 g) (hG : GOK b Lx xs B g I) (hM : MR1 D Z s B g I L H locs) {t : State} (ht : t.heap = H) (hv : s.vm.Alike t.vm) : PO D b Lx xs Z B0 g0 g I L s t := by
  obtain ⟨hK, hP, hD, hS⟩ := hM
  refine ⟨B, hBX, hG, va_K.moved hv hK, by rw [ht]; exact hP, hD, by rw [ht]; exact hS.1, fun q h1 h2 => by rw [ht]; exact hS.2.1 q h1 (Nat.not_le.mpr h2)⟩
theorem PO.more (hBX : BX B0 B g0 g) (hG : GOK b Lx xs B g I) (hM : MR1 D Z s B g I L H locs) {t : State} (hv : s.vm.Alike t.vm) (h1 : H.size ≤ t.heap.size) (h2 : ∀ q : Nat, q < H.size → t.heap[q]? = H[q]?) : PO D b Lx xs Z B0 g0 g I L s t := by
  obtain ⟨hK, hP, hD, hS⟩ := hM
  exact ⟨B, hBX, hG, va_K.moved hv hK, hP.kept (fun k q hk => h2 _ ((hP k q hk).lt)), hD, Nat.le_trans hS.1 h1, fun q h3 h4 => (h2 q (Nat.lt_of_lt_of_le h3 hS.1)).trans (hS.2.1 q h3 (Nat.not_le.mpr h4))⟩
set_option maxHeartbeats 4000000 in
theorem fin_ok {ins : Instr} {o : Ou} {x : Nat} (hl0 : l.stackTraces = false) (hC : CX p s m args meth c R mi) (hE : ENV D b Lx xs Z s s.heap) (hG : GOK b Lx xs B g I) (hM : MR1 D Z s B g I L H locs) (hl : lv_has LS (mO mi) (cvl B.1 ls)) (hall : ∀ r ∈ PT mi, rowC mi r = true) (hrow : rowC mi (pc, ins, len, e1, e2, e3) = true)
    (hs : stp (PT mi) pc ins len e1 e2 e3 ls st g I L = some (.inl (o, x))) (hBX : BX B0 B g0 g) (hcl : cells + x ≤ R.cells) (hsl : slots + 6 * x ≤ R.slots) (hno : mi = 420 → ∃ v, o = .inl v) :
    okO o ∧ W p l env R s m args below meth c H locs cells slots (vx_MQ below (QcO o D b Lx xs Z B0 g0 g I L) (XcO o D b Lx xs Z B0 g0 g I L) args s (cells + x) (slots + 6 * x) (fun q => Z ≤ q)) (F0 m pc LS (st.map (cv B.1))) := by
  obtain ⟨hx, hb, hr, hml, hown, hts, hlk, hini, hex, hRf, hRl⟩ := id hC
  obtain ⟨hd, hlen⟩ := row_dec hrow
  rcases fin_ins hs with rfl | rfl | rfl | ⟨n, rfl⟩
  · change len = 1 at hlen
    subst hlen
    dsimp only [stp, act] at hs
    obtain ⟨v, rfl, hv, h⟩ := aRtI_i hs
    cases h
    refine ⟨trivial, vx_ret ?_⟩
    unfold rowC at hrow
    simp only [Bool.and_eq_true] at hrow
    have hrow := hrow.2
    have hq : ∀ t : State, t.heap = H → s.WarmedH t.vm → QcO (.inl (some (.int v))) D b Lx xs Z B0 g0 g I L args s (.returned (some (.int v))) t := fun t ht hW => ⟨rfl, PO.here hBX hG hM ht hW.alike⟩
    cases hc : Nat.beq e1 0 with
    | true =>
      rw [hc] at hrow
      exact W.iret hx hb (hr.trans (of_decide_eq_true hrow)) hq hM.2.2.2.2.2 hd hlk
    | false =>
      rw [hc] at hrow
      have h0 : v = 0 ∨ v = 1 := by
        rcases hv with h | h
        · rw [h] at hc; cases hc
        · exact h
      exact W.zret hx hb (hr.trans (of_decide_eq_true hrow)) (by rcases h0 with rfl | rfl <;> rfl) hq hM.2.2.2.2.2 hd hlk
  · change len = 1 at hlen
    subst hlen
    dsimp only [stp, act] at hs
    obtain ⟨v, rfl, h⟩ := aRtL_i hs
    cases h
    unfold rowC at hrow
    simp only [Bool.and_eq_true] at hrow
    exact ⟨trivial, vx_ret (W.lret hx hb (hr.trans (of_decide_eq_true hrow.2)) (fun t ht hW => ⟨rfl, PO.here hBX hG hM ht hW.alike⟩) hM.2.2.2.2.2 hd hlk)⟩
  · change len = 1 at hlen
    subst hlen
    dsimp only [stp, act] at hs
    obtain ⟨rfl, h⟩ := aRtV_i hs
    cases h
    unfold rowC at hrow
    simp only [Bool.and_eq_true] at hrow
    exact ⟨trivial, vx_ret (W.vret hx hb (hr.trans (of_decide_eq_true hrow.2)) (fun t ht hW => ⟨rfl, PO.here hBX hG hM ht hW.alike⟩) hM.2.2.2.2.2 hd hlk)⟩
  · change len = 3 at hlen
    subst hlen
    dsimp only [stp, act] at hs
    cases hc : Nat.ble 101 e1 with
    | false =>
      rw [hc] at hs
      simp only [cond_false] at hs
      have h := (aNew_i hs).2.2.2
      cases h
    | true =>
      rw [hc] at hs
      simp only [cond_true] at hs
      obtain ⟨rfl, h⟩ := aRtV_i hs
      cases h
      unfold rowC at hrow
      simp only [Bool.and_eq_true] at hrow
      have hrow := hrow.2
      rw [hc] at hrow
      simp only [cond_true, Bool.and_eq_true] at hrow
      obtain ⟨⟨⟨⟨⟨r1, r2⟩, r3⟩, r4⟩, r5⟩, r6⟩ := hrow
      have hx1 := Nat.le_of_ble_eq_true hc
      have hx2 := Nat.le_of_ble_eq_true r1
      have hr3 : ∃ e, ftc (PT mi) (pc + 3) = some e ∧ e.2.1 = .dup := by
        split at r6
        · rename_i h3 h4 h5; exact ⟨_, h3, rfl⟩
        · cases r6
      have hr7 : ∃ e, ftc (PT mi) (pc + 7) = some e ∧ e.2.1 = .athrow := by
        split at r6
        · rename_i h3 h4 h5; exact ⟨_, h5, rfl⟩
        · cases r6
      have hr4 : ∃ e ic, ftc (PT mi) (pc + 4) = some e ∧ e.2.1 = .invokespecial ic ∧ Cond.methodLink (yO mi).cls ic ⟨exN e1, "<init>", "()V"⟩ ∈ TB := by
        split at r6
        · rename_i h3 h4 h5
          rw [h4] at r6
          dsimp only at r6
          exact ⟨_, _, h4, rfl, chW_in r6⟩
        · cases r6
      obtain ⟨⟨a3, i3, n3, r3a, r3b, r3c⟩, hf3, hi3⟩ := hr3
      obtain ⟨⟨a7, i7, n7, r7a, r7b, r7c⟩, hf7, hi7⟩ := hr7
      obtain ⟨⟨a4, i4, n4, r4a, r4b, r4c⟩, ic, hf4, hi4, hm⟩ := hr4
      dsimp only at hi3 hi7 hi4
      subst hi3; subst hi7; subst hi4
      obtain ⟨m3, q3⟩ := ftc_mem hf3
      obtain ⟨m4, q4⟩ := ftc_mem hf4
      obtain ⟨m7, q7⟩ := ftc_mem hf7
      dsimp only at q3 q4 q7
      subst q3; subst q4; subst q7
      obtain ⟨d3, l3⟩ := row_dec (hall _ m3)
      obtain ⟨d4, l4⟩ := row_dec (hall _ m4)
      obtain ⟨d7, l7⟩ := row_dec (hall _ m7)
      change n3 = 1 at l3
      change n4 = 3 at l4
      change n7 = 1 at l7
      subst l3; subst l4; subst l7
      have hat := at0_ok (own := (yO mi).cls) (ic := ic) hE hts hx1 hx2 hm
      obtain ⟨n1, n2, n3, n4, n5, n6, n7, n8⟩ := id hE
      have hemp : c.exceptionTable.toList = [] := by
        rw [hex (fun z => by obtain ⟨v, hv⟩ := hno z; cases hv)]
        have : hX mi = [] := List.isEmpty_iff.mp r5
        unfold hO
        rw [this]
        rfl
      have r4' := Nat.le_trans (Nat.le_of_ble_eq_true r4) hRl
      have r3' := Nat.le_trans (Nat.le_of_ble_eq_true r3) hRf
      refine ⟨⟨hx1, hx2⟩, vx_throw0 (names := exS) (A := fun q => Z ≤ q) hx hb hl0 hown (exI_in hx1 hx2).2 exS_fit (hts _ (chW_in r2)) (hts _ (exI_in hx1 hx2).1) (fun w hw => (hat w hw).1) ?_ n4 n5 hM.2.2.2 (hl.1.trans hml.symm) hd d3 d4 d7 (fun z hz => by rw [hemp] at hz; cases hz) r3' (by show 0 + (13 * 3 + 42) ≤ _; omega) hcl hsl hlk ?_ hM.2.2.2.2.2 (Nat.le_refl _) (Nat.le_refl _)⟩
      · intro w hw
        rcases List.mem_cons.mp hw with rfl | hw
        · unfold vx_ot; rw [(List.mem_filter.mp (chW_in r2)).2, Bool.or_true]
        · rcases List.mem_cons.mp hw with rfl | hw
          · unfold vx_ot; rw [(List.mem_filter.mp (exI_in hx1 hx2).1).2, Bool.or_true]
          · exact (hat w hw).2
      · intro t hv h1 h2
        exact ⟨rfl, PO.more hBX hG hM hv h1 h2⟩
end
