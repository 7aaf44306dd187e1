/-! One instruction, where cells are read, written or made. -/
theorem nbe {a b : Nat} (h : a ≠ b) : Nat.beq a b = false := by
  cases hc : Nat.beq a b with
  | false => rfl
  | true => exact absurd (Nat.eq_of_beq_eq_true hc) h
theorem nbr (a : Nat) : Nat.beq a a = true := Nat.beq_refl a
theorem ui_ne {M : Mi} {k j a : Nat} {x : Int32} (h : a ≠ k) : ui M k j x a = M a := by unfold ui; rw [nbe h]; rfl
theorem ul_ne {M : Ml} {k j a : Nat} {x : Int64} (h : a ≠ k) : ul M k j x a = M a := by unfold ul; rw [nbe h]; rfl
theorem ur_ne {M : Mr} {k j a : Nat} {x : Option Nat} (h : a ≠ k) : ur M k j x a = M a := by unfold ur; rw [nbe h]; rfl
theorem ri_ne {M : Mi} {k a : Nat} {f : Nat → Int32} (h : a ≠ k) : ri M k f a = M a := by unfold ri; rw [nbe h]; rfl
theorem rl_ne {M : Ml} {k a : Nat} {f : Nat → Int64} (h : a ≠ k) : rl M k f a = M a := by unfold rl; rw [nbe h]; rfl
theorem rr_ne {M : Mr} {k a : Nat} {f : Nat → Option Nat} (h : a ≠ k) : rr M k f a = M a := by unfold rr; rw [nbe h]; rfl
theorem ri_at {M : Mi} {k : Nat} {f : Nat → Int32} : ri M k f k = f := by unfold ri; rw [nbr]; rfl
theorem rl_at {M : Ml} {k : Nat} {f : Nat → Int64} : rl M k f k = f := by unfold rl; rw [nbr]; rfl
theorem rr_at {M : Mr} {k : Nat} {f : Nat → Option Nat} : rr M k f k = f := by unfold rr; rw [nbr]; rfl
theorem ui_at {M : Mi} {k j : Nat} {x : Int32} : ui M k j x k = upd (M k) j x := by
  funext b
  unfold ui upd
  rw [nbr]
  show cond (Nat.beq b j) x (M k b) = _
  by_cases h : b = j
  · subst h; rw [nbr, if_pos rfl]; rfl
  · rw [nbe h, if_neg h]; rfl
theorem ul_at {M : Ml} {k j : Nat} {x : Int64} : ul M k j x k = vp_updL (M k) j x := by
  funext b
  unfold ul vp_updL
  rw [nbr]
  show cond (Nat.beq b j) x (M k b) = _
  by_cases h : b = j
  · subst h; rw [nbr, if_pos rfl]; rfl
  · rw [nbe h, if_neg h]; rfl
theorem ur_at {M : Mr} {k j : Nat} {x : Option Nat} : ur M k j x k = fun b => if b = j then x else M k b := by
  funext b
  unfold ur
  rw [nbr]
  show cond (Nat.beq b j) x (M k b) = _
  by_cases h : b = j
  · subst h; rw [nbr, if_pos rfl]; rfl
  · rw [nbe h, if_neg h]; rfl
theorem fcv_c {a a' : Nat → Nat} {g g' : GS} {I I' : Mi} {L L' : Ml} {k : Nat} (kd j : Nat) (hI : I' k = I k) (hL : L' k = L k) (hr : (g'.2.2.2 k j).map a' = (g.2.2.2 k j).map a) : fcv a' g' I' L' kd k j = fcv a g I L kd k j := by
  unfold fcv
  rw [hI, hL, hr]
theorem wce_c {B B' : BJ} {g g' : GS} {I I' : Mi} {L L' : Ml} {k : Nat} (hs : shk g'.2.2.1 k = shk g.2.2.1 k) (hB : B'.2.1 k = B.2.1 k) (hI : I' k = I k) (hL : L' k = L k) (hr : ∀ j : Nat, (g'.2.2.2 k j).map B'.1 = (g.2.2.2 k j).map B.1) : wce B' g' I' L' k = wce B g I L k := by
  unfold wce
  rw [hs, hB, hI, hL]
  have e1 : (fun j => (g'.2.2.2 k j).map B'.1) = fun j => (g.2.2.2 k j).map B.1 := funext hr
  have e2 : (fun j => fcv B'.1 g' I' L' (fk (shk g.2.2.1 k).1 j) k j) = fun j => fcv B.1 g I L (fk (shk g.2.2.1 k).1 j) k j := funext fun j => fcv_c _ j hI hL (hr j)
  rw [e1, e2]
theorem fs_set {N i : Nat} {f f' : Nat → Value} {v : Value} (hi : i < N) (h1 : ∀ j, j ≠ i → f' j = f j) (h2 : f' i = v) : ((List.range N).map f).set i v = (List.range N).map f' := by
  apply List.ext_getElem?
  intro j
  by_cases hj : j = i
  · subst hj
    rw [List.getElem?_set_self (by rw [List.length_map, List.length_range]; exact hi), List.getElem?_map, List.getElem?_range hi, ← h2]
    rfl
  · rw [List.getElem?_set_ne (fun h => hj h.symm), List.getElem?_map, List.getElem?_map]
    by_cases hr : j < N
    · rw [List.getElem?_range hr]
      show some _ = some _
      rw [h1 j hj]
    · rw [List.getElem?_eq_none (by rw [List.length_range]; omega)]
      rfl
theorem obj_at {b Lx : Nat} {xs : Nat → Int32} {B : BJ} {g : GS} {I : Mi} {L : Ml} {q e1 : Nat} (hG : GOK b Lx xs B g I) (h1 : (shk g.2.2.1 q).1 = e1) (h2 : q < g.1) (h3 : 0 < q) (he : e1 < 13) :
    (wld B g I L)[q - 1]? = some (B.1 q, .inr (e1, (List.range (clO e1).2.2).map fun j => fcv B.1 g I L (fk e1 j) q j)) := by
  obtain ⟨g1, g2, g3, g4, g5, g6, g7, g8, g9, g10⟩ := hG
  have hn : (shk g.2.2.1 q).2 = (clO e1).2.2 := by rw [← h1]; exact g7 q h3 h2 (by rw [h1]; exact he)
  have hw := wce_o (B := B) (g := g) (I := I) (L := L) (k := q) (by rw [h1]; exact he)
  rw [h1, hn] at hw
  have h := wld_at (B := B) (I := I) (L := L) h3 h2
  rw [hw] at h
  exact h
theorem shk_old {sh : Sh} {x : Nat × Nat} {k : Nat} (h : k < sh.length) : shk (sh ++ [x]) k = shk sh k := by
  unfold shk
  rw [List.getD_eq_getElem?_getD, List.getD_eq_getElem?_getD, List.getElem?_append_left h]
theorem shk_new {sh : Sh} {x : Nat × Nat} {k : Nat} (h : sh.length = k) : shk (sh ++ [x]) k = x := by
  unfold shk
  rw [List.getD_eq_getElem?_getD, List.getElem?_append_right (Nat.le_of_eq h), h, Nat.sub_self]
  rfl
theorem cv_ok {a a' : Nat → Nat} {n : Nat} {v : Value} (ha : ∀ k, k < n → a' k = a k) (h : rok n v = true) : cv a' v = cv a v := by
  cases v <;> first | rfl | (show Value.ref _ = Value.ref _; rw [ha _ (nblt h)])
theorem cvm_ok {a a' : Nat → Nat} {n : Nat} {l : List Value} (ha : ∀ k, k < n → a' k = a k) (h : aAll n l = true) : l.map (cv a') = l.map (cv a) :=
  List.map_congr_left fun v hv => cv_ok ha (List.all_eq_true.mp h v hv)
theorem cvl_ok {a a' : Nat → Nat} {n : Nat} {l : Lv} (ha : ∀ k, k < n → a' k = a k) (h : aAll n (l.map Prod.snd) = true) : cvl a' l = cvl a l :=
  List.map_congr_left fun q hq => by rw [cv_ok ha (List.all_eq_true.mp h q.2 (List.mem_map.mpr ⟨q, hq, rfl⟩))]
set_option maxHeartbeats 2000000 in
theorem nx_getfield {p : Program} {l : Launch} {env : Env} {R : Room} {s : State} {m : MethodId} {args : Array Value} {below : List Frame} {meth : Method} {c : Code} {Q : State → Prop} {D : va_G} {b Lx Z : Nat} {xs : Nat → Int32} {mi pc len e1 e2 : Nat} {e3 : Int} {ls : Lv} {st : List Value} {g : GS} {I : Mi} {L : Ml} {B : BJ} {H : Heap} {locs : List Loc} {LS : Array Slot} {cells slots : Nat} {a2 : Nat × Lv × List Value × GS × Mi × Ml} (hC : CX p s m args meth c R mi) (hE : ENV D b Lx xs Z s s.heap) (hG : GOK b Lx xs B g I) (hM : MR1 D Z s B g I L H locs) (hl : lv_has LS (mO mi) (cvl B.1 ls)) (hcl : cells + (a2.2.2.2.1.1 - g.1) ≤ R.cells) (hsl : slots + (a2.2.2.2.1.2.1 - g.2.1) ≤ R.slots) (hall : ∀ r ∈ PT mi, rowC mi r = true) {n : Nat} (hrow : rowC mi (pc, .getfield n, len, e1, e2, e3) = true) (hs : stp (PT mi) pc (.getfield n) len e1 e2 e3 ls st g I L = some (.inr (.inl a2))) (kk : GoTo p l env R s m args below meth c Q D b Lx xs Z mi B g cells slots a2) : W p l env R s m args below meth c H locs cells slots Q (F0 m pc LS (st.map (cv B.1))) := by
  obtain ⟨hx, hb, hr, hml, hown, hts, hlk, hini, hex, hRf, hRl⟩ := id hC
  obtain ⟨hd, hlen⟩ := row_dec hrow
  dsimp only [stp, act] at hs
  change len = 3 at hlen
  subst hlen
  have hw : e1 < 13 ∧ e2 < (clO e1).2.2 ∧ (chW e3.toNat (.fieldLink (yO mi).cls n ((clO e1).2.1 e2).1 ((clO e1).2.1 e2).2.1 ((clO e1).2.1 e2).2.2.1) = true ∨ chN e3.toNat (.fieldLinkNest (yO mi).cls n ((clO e1).2.1 e2).1 ((clO e1).2.1 e2).2.1 ((clO e1).2.1 e2).2.2.1 "StubBench") = true) := by
    unfold rowC at hrow
    simp only [Bool.and_eq_true, Bool.or_eq_true] at hrow
    exact ⟨nblt hrow.2.1.1, nblt hrow.2.1.2, hrow.2.2⟩
  obtain ⟨he1, he2, hw⟩ := hw
  obtain ⟨ty0, cf1, cf2, cf3, cf4, cf5, cf6⟩ := clF_all he1
  obtain ⟨hK, hP, hD, hS⟩ := id hM
  obtain ⟨q, r, rfl, h1, h2, h3, h⟩ := aGet_i hs
  cases h
  have he := obj_at (L := L) hG h1 h2 h3 he1
  have hv : ((List.range (clO e1).2.2).map fun j => fcv B.1 g I L (fk e1 j) q j)[e2]? = some (fcv B.1 g I L (fk e1 e2) q e2) := by rw [List.getElem?_map, List.getElem?_range he2]; rfl
  have k2 := kk.s hG hM hl
  rw [List.map_cons, cv_fvl] at k2
  rcases hw with hw | hw
  · exact va_get (D := D) (ci := e1) hx hb hts cf3 hown hK hP (q - 1) he (clO_at he1) e2 he2 (hts _ (chW_in hw)) (fun _ h9 => h9) hv hd k2
  · exact va_getN (D := D) (ci := e1) hx hb hts cf3 hown hK hP (q - 1) he (clO_at he1) e2 he2 ((hE.1 _ (chN_in hw).1 (chN_in hw).2).use rfl) (fun _ h9 => h9) hv hd k2
set_option maxHeartbeats 2000000 in
theorem put_g {p : Program} {l : Launch} {env : Env} {R : Room} {s : State} {m : MethodId} {args : Array Value} {below : List Frame} {meth : Method} {c : Code} {Q : State → Prop} {D : va_G} {b Lx Z : Nat} {xs : Nat → Int32} {mi pc e1 e2 : Nat} {e3 : Int} {ls : Lv} {g : GS} {I : Mi} {L : Ml} {B : BJ} {H : Heap} {locs : List Loc} {LS : Array Slot} {cells slots : Nat} (hC : CX p s m args meth c R mi) (hE : ENV D b Lx xs Z s s.heap) (hG : GOK b Lx xs B g I) (hM : MR1 D Z s B g I L H locs) (hl : lv_has LS (mO mi) (cvl B.1 ls))  {n q : Nat} {r : List Value} {v : Value} {ty : FieldType} (hrow : rowC mi (pc, .putfield n, 3, e1, e2, e3) = true) (hd : decode (cO mi) pc = .ok (.putfield n, 3)) (he1 : e1 < 13) (he2 : e2 < (clO e1).2.2) (h1 : (shk g.2.2.1 q).1 = e1) (h2 : q < g.1) (h3 : 0 < q)
    (hty : parseFieldDescriptor ((clO e1).2.1 e2).2.2.1 = some ty) (hn : narrow ty v = v) (hfit : fits ty v = true)
    (kk : ∀ (H1 : Heap) (locs1 : List Loc), va_P D vwCl ((wld B g I L).set (q - 1) (B.1 q, .inr (e1, ((List.range (clO e1).2.2).map fun j => fcv B.1 g I L (fk e1 j) q j).set e2 v))) H1 → va_D (fun q => Z ≤ q) ((wld B g I L).set (q - 1) (B.1 q, .inr (e1, ((List.range (clO e1).2.2).map fun j => fcv B.1 g I L (fk e1 j) q j).set e2 v))) → va_S (fun q => Z ≤ q) s.heap H1 locs1 →
      W p l env R s m args below meth c H1 locs1 cells slots Q (F0 m (pc + 3) LS r)) : W p l env R s m args below meth c H locs cells slots Q (F0 m pc LS (v :: .ref (B.1 q) :: r)) := by
  obtain ⟨hx, hb, hr, hml, hown, hts, hlk, hini, hex, hRf, hRl⟩ := id hC
  obtain ⟨ty0, cf1, cf2, cf3, cf4, cf5, cf6⟩ := clF_all he1
  obtain ⟨hK, hP, hD, hS⟩ := id hM
  have he := obj_at (L := L) hG h1 h2 h3 he1
  have hll : e2 < ((List.range (clO e1).2.2).map fun j => fcv B.1 g I L (fk e1 j) q j).length := by rw [List.length_map, List.length_range]; exact he2
  unfold rowC at hrow
  simp only [Bool.and_eq_true] at hrow
  have hw := hrow.2.2
  cases hf : ((clO e1).2.1 e2).2.2.2 with
  | true =>
    rw [hf] at hw
    simp only [cond_true, Bool.and_eq_true] at hw
    exact va_putF (D := D) (ci := e1) hx hb hts cf3 ty0 cf1 cf2 hown hK hP hD hS (q - 1) he (clO_at he1) e2 he2 (hts _ (chW_in hw.2)) (fun _ h9 => h9) hf (hini (Nat.eq_of_beq_eq_true hw.1.1)) (of_decide_eq_true hw.1.2) hty hn hfit hll hd kk
  | false =>
    rw [hf] at hw
    simp only [cond_false, Bool.or_eq_true] at hw
    rcases hw with hw | hw
    · exact va_put (D := D) (ci := e1) hx hb hts cf3 ty0 cf1 cf2 hown hK hP hD hS (q - 1) he (clO_at he1) e2 he2 (hts _ (chW_in hw)) (fun _ h9 => h9) hf hty hn hfit hll hd kk
    · exact va_putN (D := D) (ci := e1) hx hb hts cf3 ty0 cf1 cf2 hown hK hP hD hS (q - 1) he (clO_at he1) e2 he2 ((hE.1 _ (chN_in hw).1 (chN_in hw).2).use rfl) (fun _ h9 => h9) hf hty hn hfit hll hd kk
set_option maxHeartbeats 2000000 in
theorem nx_putfield {p : Program} {l : Launch} {env : Env} {R : Room} {s : State} {m : MethodId} {args : Array Value} {below : List Frame} {meth : Method} {c : Code} {Q : State → Prop} {D : va_G} {b Lx Z : Nat} {xs : Nat → Int32} {mi pc len e1 e2 : Nat} {e3 : Int} {ls : Lv} {st : List Value} {g : GS} {I : Mi} {L : Ml} {B : BJ} {H : Heap} {locs : List Loc} {LS : Array Slot} {cells slots : Nat} {a2 : Nat × Lv × List Value × GS × Mi × Ml} (hC : CX p s m args meth c R mi) (hE : ENV D b Lx xs Z s s.heap) (hG : GOK b Lx xs B g I) (hM : MR1 D Z s B g I L H locs) (hl : lv_has LS (mO mi) (cvl B.1 ls)) (hcl : cells + (a2.2.2.2.1.1 - g.1) ≤ R.cells) (hsl : slots + (a2.2.2.2.1.2.1 - g.2.1) ≤ R.slots) (hall : ∀ r ∈ PT mi, rowC mi r = true) {n : Nat} (hrow : rowC mi (pc, .putfield n, len, e1, e2, e3) = true) (hs : stp (PT mi) pc (.putfield n) len e1 e2 e3 ls st g I L = some (.inr (.inl a2))) (kk : GoTo p l env R s m args below meth c Q D b Lx xs Z mi B g cells slots a2) : W p l env R s m args below meth c H locs cells slots Q (F0 m pc LS (st.map (cv B.1))) := by
  obtain ⟨hx, hb, hr, hml, hown, hts, hlk, hini, hex, hRf, hRl⟩ := id hC
  obtain ⟨hd, hlen⟩ := row_dec hrow
  dsimp only [stp, act] at hs
  change len = 3 at hlen
  subst hlen
  have hw : e1 < 13 ∧ e2 < (clO e1).2.2 := by
    have hrow := hrow
    unfold rowC at hrow
    simp only [Bool.and_eq_true] at hrow
    exact ⟨nblt hrow.2.1.1, nblt hrow.2.1.2⟩
  obtain ⟨he1, he2⟩ := hw
  obtain ⟨ty0, cf1, cf2, cf3, cf4, cf5, cf6⟩ := clF_all he1
  obtain ⟨g1, g2, g3, g4, g5, g6, g7, g8, g9, g10⟩ := id hG
  have hK := hM.1
  rcases aPut_i hs with ⟨x, q, r, rfl, h1, h2, h3, hk, h⟩ | ⟨x, q, r, rfl, h1, h2, h3, hk, h⟩ | ⟨v, q, r, rfl, h1, h2, h3, hk, hv, h⟩
  · cases h
    have hty : ∃ ty, parseFieldDescriptor ((clO e1).2.1 e2).2.2.1 = some ty ∧ narrow ty (.int x) = .int x ∧ fits ty (.int x) = true := by
      refine ⟨_, cf1 e2 he2, ?_⟩
      rcases cf6 e2 he2 with ⟨a1, a2⟩ | ⟨a1, a2⟩ | ⟨a1, a2⟩ | ⟨a1, a2⟩
      · rw [a2]; exact ⟨rfl, rfl⟩
      · rcases hk with hk | ⟨-, rfl | rfl⟩
        · rw [a1] at hk; cases hk
        · rw [a2]; exact ⟨rfl, rfl⟩
        · rw [a2]; exact ⟨rfl, rfl⟩
      · rcases hk with hk | ⟨hk, -⟩ <;> (rw [a1] at hk; cases hk)
      · rcases hk with hk | ⟨hk, -⟩ <;> (rw [a1] at hk; cases hk)
    obtain ⟨ty, t1, t2, t3⟩ := hty
    refine put_g (v := .int x) hC hE hG hM hl hrow hd he1 he2 h1 h2 h3 t1 t2 t3 (fun H1 locs1 hP1 hD1 hS1 => ?_)
    have hfs : ((List.range (clO e1).2.2).map fun j => fcv B.1 g I L (fk e1 j) q j).set e2 (.int x) = (List.range (clO e1).2.2).map fun j => fcv B.1 g (ui I q e2 x) L (fk e1 j) q j := by
      refine fs_set he2 (fun j hj => ?_) ?_
      · unfold fcv
        rw [ui_at]
        unfold upd
        rw [if_neg hj]
      · have hk2 : fk e1 e2 = 0 ∨ fk e1 e2 = 1 := hk.elim Or.inl (fun z => Or.inr z.1)
        rcases hk2 with hk2 | hk2 <;> (unfold fcv; rw [hk2]; show Value.int (ui I q e2 x q e2) = _; rw [ui_at]; unfold upd; rw [if_pos rfl])
    have hG2 : GOK b Lx xs B g (ui I q e2 x) := ⟨g1, g2, by rw [ui_ne (Nat.ne_of_lt h3)]; exact g3, g4, g5, g6, g7, g8, g9, g10⟩
    have e := wld_set (B := B) (g := g) (g' := g) (I := I) (I' := ui I q e2 x) (L := L) (L' := L) h3 h2 rfl (fun j hj => wce_c rfl rfl (ui_ne hj) rfl (fun _ => rfl))
    have e2' := wld_at (B := B) (I := ui I q e2 x) (L := L) h3 h2
    have e3' := obj_at (L := L) hG2 h1 h2 h3 he1
    rw [hfs, ← (Prod.mk.inj (Option.some.inj (e2'.symm.trans e3'))).2, e] at hP1 hD1
    exact kk.m rfl rfl hG2 ⟨hK, hP1, hD1, hS1⟩ hl
  · cases h
    have hty : ∃ ty, parseFieldDescriptor ((clO e1).2.1 e2).2.2.1 = some ty ∧ narrow ty (.long x) = .long x ∧ fits ty (.long x) = true := by
      refine ⟨_, cf1 e2 he2, ?_⟩
      rcases cf6 e2 he2 with ⟨a1, a2⟩ | ⟨a1, a2⟩ | ⟨a1, a2⟩ | ⟨a1, a2⟩
      · rw [a1] at hk; cases hk
      · rw [a1] at hk; cases hk
      · rw [a2]; exact ⟨rfl, rfl⟩
      · rw [a1] at hk; cases hk
    obtain ⟨ty, t1, t2, t3⟩ := hty
    refine put_g (v := .long x) hC hE hG hM hl hrow hd he1 he2 h1 h2 h3 t1 t2 t3 (fun H1 locs1 hP1 hD1 hS1 => ?_)
    have hfs : ((List.range (clO e1).2.2).map fun j => fcv B.1 g I L (fk e1 j) q j).set e2 (.long x) = (List.range (clO e1).2.2).map fun j => fcv B.1 g I (ul L q e2 x) (fk e1 j) q j := by
      refine fs_set he2 (fun j hj => ?_) ?_
      · unfold fcv
        rw [ul_at]
        unfold vp_updL
        rw [if_neg hj]
      · unfold fcv; rw [hk]; show Value.long (ul L q e2 x q e2) = _; rw [ul_at]; unfold vp_updL; rw [if_pos rfl]
    have hG2 : GOK b Lx xs B g I := hG
    have e := wld_set (B := B) (g := g) (g' := g) (I := I) (I' := I) (L := L) (L' := ul L q e2 x) h3 h2 rfl (fun j hj => wce_c rfl rfl rfl (ul_ne hj) (fun _ => rfl))
    have e2' := wld_at (B := B) (I := I) (L := ul L q e2 x) h3 h2
    have e3' := obj_at (L := ul L q e2 x) hG2 h1 h2 h3 he1
    rw [hfs, ← (Prod.mk.inj (Option.some.inj (e2'.symm.trans e3'))).2, e] at hP1 hD1
    exact kk.m rfl rfl hG2 ⟨hK, hP1, hD1, hS1⟩ hl
  · cases h
    have hty : ∃ ty, parseFieldDescriptor ((clO e1).2.1 e2).2.2.1 = some ty ∧ narrow ty (.ref (B.1 v)) = .ref (B.1 v) ∧ fits ty (.ref (B.1 v)) = true := by
      refine ⟨_, cf1 e2 he2, ?_⟩
      rcases cf6 e2 he2 with ⟨a1, a2⟩ | ⟨a1, a2⟩ | ⟨a1, a2⟩ | ⟨a1, ⟨n, a2⟩ | ⟨n, a2⟩⟩
      · rw [a1] at hk; cases hk
      · rw [a1] at hk; cases hk
      · rw [a1] at hk; cases hk
      · rw [a2]; exact ⟨rfl, rfl⟩
      · rw [a2]; exact ⟨rfl, rfl⟩
    obtain ⟨ty, t1, t2, t3⟩ := hty
    refine put_g (v := .ref (B.1 v)) hC hE hG hM hl hrow hd he1 he2 h1 h2 h3 t1 t2 t3 (fun H1 locs1 hP1 hD1 hS1 => ?_)
    have hfs : ((List.range (clO e1).2.2).map fun j => fcv B.1 g I L (fk e1 j) q j).set e2 (.ref (B.1 v)) = (List.range (clO e1).2.2).map fun j => fcv B.1 (g.1, g.2.1, g.2.2.1, ur g.2.2.2 q e2 (some v)) I L (fk e1 j) q j := by
      refine fs_set he2 (fun j hj => ?_) ?_
      · refine fcv_c _ j rfl rfl ?_
        show (ur g.2.2.2 q e2 (some v) q j).map B.1 = _
        rw [ur_at]
        show ((if j = e2 then some v else g.2.2.2 q j : Option Nat)).map B.1 = _
        rw [if_neg hj]
      · unfold fcv
        rw [hk]
        show va_rf ((ur g.2.2.2 q e2 (some v) q e2).map B.1) = _
        rw [ur_at]
        show va_rf ((if e2 = e2 then some v else g.2.2.2 q e2 : Option Nat).map B.1) = _
        rw [if_pos rfl]
        rfl
    have hG2 : GOK b Lx xs B (g.1, g.2.1, g.2.2.1, ur g.2.2.2 q e2 (some v)) I := ⟨g1, g2, g3, g4, g5, fun k j r hr => by
      change ur g.2.2.2 q e2 (some v) k j = some r at hr
      by_cases hk : k = q
      · subst hk
        rw [ur_at] at hr
        change (if j = e2 then some v else g.2.2.2 k j) = some r at hr
        split at hr
        · cases hr; exact hv
        · exact g6 _ _ _ hr
      · rw [ur_ne hk] at hr
        exact g6 _ _ _ hr, g7, g8, g9, g10⟩
    have e := wld_set (B := B) (g := g) (g' := (g.1, g.2.1, g.2.2.1, ur g.2.2.2 q e2 (some v))) (I := I) (I' := I) (L := L) (L' := L) h3 h2 rfl (fun j hj => wce_c rfl rfl rfl rfl (fun i => by
      show (ur g.2.2.2 q e2 (some v) j i).map B.1 = _
      rw [ur_ne hj]))
    have e2' := wld_at (B := B) (g := (g.1, g.2.1, g.2.2.1, ur g.2.2.2 q e2 (some v))) (I := I) (L := L) h3 h2
    have e3' := obj_at (L := L) hG2 h1 h2 h3 he1
    rw [hfs, ← (Prod.mk.inj (Option.some.inj (e2'.symm.trans e3'))).2, e] at hP1 hD1
    exact kk.m rfl rfl hG2 ⟨hK, hP1, hD1, hS1⟩ hl
