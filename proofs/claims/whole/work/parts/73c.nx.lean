set_option maxRecDepth 100000 in
theorem cpy_nat : Cond.native arraycopyName ∈ TB := chW_in (i := 598) (by decide +kernel)
set_option maxRecDepth 100000 in
theorem cpy_sta : Cond.static arraycopyName ∈ TB := chW_in (i := 597) (by decide +kernel)
set_option maxRecDepth 100000 in
theorem cpy_ini : Cond.initialized "java/lang/System" ∈ TB := chW_in (i := 180) (by decide +kernel)
set_option maxRecDepth 100000 in
theorem oin_ins : Cond.instanceMethod Lib.objectInit ∈ TB := chW_in (i := 187) (by decide +kernel)
set_option maxRecDepth 100000 in
theorem oin_cod : Cond.code Lib.objectInit ⟨#[0xb1]⟩ 1 none ∈ TB := chW_in (i := 188) (by decide +kernel)
set_option maxRecDepth 100000 in
theorem arr_i : Cond.arrayClass (newarray.typeOf .int) ∈ TB := chW_in (i := 206) (by decide +kernel)
set_option maxRecDepth 100000 in
theorem arr_l : Cond.arrayClass (newarray.typeOf .long) ∈ TB := chW_in (i := 441) (by decide +kernel)
set_option maxHeartbeats 2000000 in
theorem nx_alen {p : Program} {l : Launch} {env : Env} {R : Room} {s : State} {m : MethodId} {args : Array Value} {below : List Frame} {meth : Method} {c : Code} {Q : State → Prop} {D : va_G} {b Lx Z : Nat} {xs : Nat → Int32} {mi pc len e1 e2 : Nat} {e3 : Int} {ls : Lv} {st : List Value} {g : GS} {I : Mi} {L : Ml} {B : BJ} {H : Heap} {locs : List Loc} {LS : Array Slot} {cells slots : Nat} {a2 : Nat × Lv × List Value × GS × Mi × Ml} (hC : CX p s m args meth c R mi) (hE : ENV D b Lx xs Z s s.heap) (hG : GOK b Lx xs B g I) (hM : MR1 D Z s B g I L H locs) (hl : lv_has LS (mO mi) (cvl B.1 ls)) (hcl : cells + (a2.2.2.2.1.1 - g.1) ≤ R.cells) (hsl : slots + (a2.2.2.2.1.2.1 - g.2.1) ≤ R.slots) (hall : ∀ r ∈ PT mi, rowC mi r = true) (hrow : rowC mi (pc, .arraylength, len, e1, e2, e3) = true) (hs : stp (PT mi) pc (.arraylength) len e1 e2 e3 ls st g I L = some (.inr (.inl a2))) (kk : GoTo p l env R s m args below meth c Q D b Lx xs Z mi B g cells slots a2) : W p l env R s m args below meth c H locs cells slots Q (F0 m pc LS (st.map (cv B.1))) := by
  obtain ⟨hx, hb, hr, hml, hown, hts, hlk, hini, hex, hRf, hRl⟩ := id hC
  obtain ⟨hd, hlen⟩ := row_dec hrow
  dsimp only [stp, act] at hs
  change len = 1 at hlen
  subst hlen
  obtain ⟨q, r, rfl, h1, h2, h3, h⟩ := aLen_i hs
  cases h
  obtain ⟨g1, g2, g3, g4, g5, g6, g7, g8, g9, g10⟩ := id hG
  obtain ⟨hK, hP, hD, hS⟩ := id hM
  obtain ⟨n1, n2, n3, n4, n5, n6, n7, n8⟩ := id hE
  have k2 := kk.s hG hM hl
  by_cases h0 : q = 0
  · subst h0
    show W p l env R s m args below meth c H locs cells slots Q (F0 m pc LS (.ref (B.1 0) :: r.map (cv B.1)))
    rw [g1]
    rw [g2] at k2
    exact va_slen hx hb n6 (Nat.lt_of_lt_of_le n7 n8) (Nat.not_le.mpr n7) hS hd k2
  · have hq : 0 < q := Nat.pos_of_ne_zero h0
    have he := wld_at (B := B) (I := I) (L := L) hq h3
    have h4 : (shk g.2.2.1 q).1 = 20 ∨ (shk g.2.2.1 q).1 = 21 ∨ (shk g.2.2.1 q).1 = 22 := by omega
    rcases h4 with h4 | h4 | h4
    · rw [wce_i h4] at he
      obtain ⟨t, ht⟩ := g8 q hq h3 h4
      exact va_alen hx hb hK hP (q - 1) t he ht rfl hd k2
    · rw [wce_l h4] at he
      obtain ⟨t, ht⟩ := g9 q hq h3 h4
      exact va_alen hx hb hK hP (q - 1) t he ht rfl hd k2
    · rw [wce_r h4] at he
      obtain ⟨t, ht⟩ := g10 q hq h3 h4
      exact va_alen hx hb hK hP (q - 1) t he ht rfl hd k2
set_option maxHeartbeats 2000000 in
theorem nx_iald {p : Program} {l : Launch} {env : Env} {R : Room} {s : State} {m : MethodId} {args : Array Value} {below : List Frame} {meth : Method} {c : Code} {Q : State → Prop} {D : va_G} {b Lx Z : Nat} {xs : Nat → Int32} {mi pc len e1 e2 : Nat} {e3 : Int} {ls : Lv} {st : List Value} {g : GS} {I : Mi} {L : Ml} {B : BJ} {H : Heap} {locs : List Loc} {LS : Array Slot} {cells slots : Nat} {a2 : Nat × Lv × List Value × GS × Mi × Ml} (hC : CX p s m args meth c R mi) (hE : ENV D b Lx xs Z s s.heap) (hG : GOK b Lx xs B g I) (hM : MR1 D Z s B g I L H locs) (hl : lv_has LS (mO mi) (cvl B.1 ls)) (hcl : cells + (a2.2.2.2.1.1 - g.1) ≤ R.cells) (hsl : slots + (a2.2.2.2.1.2.1 - g.2.1) ≤ R.slots) (hall : ∀ r ∈ PT mi, rowC mi r = true) (hrow : rowC mi (pc, .iaload, len, e1, e2, e3) = true) (hs : stp (PT mi) pc (.iaload) len e1 e2 e3 ls st g I L = some (.inr (.inl a2))) (kk : GoTo p l env R s m args below meth c Q D b Lx xs Z mi B g cells slots a2) : W p l env R s m args below meth c H locs cells slots Q (F0 m pc LS (st.map (cv B.1))) := by
  obtain ⟨hx, hb, hr, hml, hown, hts, hlk, hini, hex, hRf, hRl⟩ := id hC
  obtain ⟨hd, hlen⟩ := row_dec hrow
  dsimp only [stp, act] at hs
  change len = 1 at hlen
  subst hlen
  obtain ⟨i, q, r, rfl, h1, h2, h3, h⟩ := aIald_i hs
  cases h
  obtain ⟨g1, g2, g3, g4, g5, g6, g7, g8, g9, g10⟩ := id hG
  obtain ⟨hK, hP, hD, hS⟩ := id hM
  obtain ⟨n1, n2, n3, n4, n5, n6, n7, n8⟩ := id hE
  have k2 := kk.s hG hM hl
  by_cases h0 : q = 0
  · subst h0
    show W p l env R s m args below meth c H locs cells slots Q (F0 m pc LS (.int i :: .ref (B.1 0) :: r.map (cv B.1)))
    rw [g1]
    rw [g3] at k2
    rw [g2] at h3
    exact va_sld hx hb n6 (Nat.lt_of_lt_of_le n7 n8) (Nat.not_le.mpr n7) hS h3 hd k2
  · have hq : 0 < q := Nat.pos_of_ne_zero h0
    have he := wld_at (B := B) (I := I) (L := L) hq h2
    rw [wce_i h1] at he
    obtain ⟨t, ht⟩ := g8 q hq h2 h1
    exact va_iald hx hb hK hP (q - 1) t he ht h3 hd k2
set_option maxHeartbeats 2000000 in
theorem nx_lald {p : Program} {l : Launch} {env : Env} {R : Room} {s : State} {m : MethodId} {args : Array Value} {below : List Frame} {meth : Method} {c : Code} {Q : State → Prop} {D : va_G} {b Lx Z : Nat} {xs : Nat → Int32} {mi pc len e1 e2 : Nat} {e3 : Int} {ls : Lv} {st : List Value} {g : GS} {I : Mi} {L : Ml} {B : BJ} {H : Heap} {locs : List Loc} {LS : Array Slot} {cells slots : Nat} {a2 : Nat × Lv × List Value × GS × Mi × Ml} (hC : CX p s m args meth c R mi) (hE : ENV D b Lx xs Z s s.heap) (hG : GOK b Lx xs B g I) (hM : MR1 D Z s B g I L H locs) (hl : lv_has LS (mO mi) (cvl B.1 ls)) (hcl : cells + (a2.2.2.2.1.1 - g.1) ≤ R.cells) (hsl : slots + (a2.2.2.2.1.2.1 - g.2.1) ≤ R.slots) (hall : ∀ r ∈ PT mi, rowC mi r = true) (hrow : rowC mi (pc, .laload, len, e1, e2, e3) = true) (hs : stp (PT mi) pc (.laload) len e1 e2 e3 ls st g I L = some (.inr (.inl a2))) (kk : GoTo p l env R s m args below meth c Q D b Lx xs Z mi B g cells slots a2) : W p l env R s m args below meth c H locs cells slots Q (F0 m pc LS (st.map (cv B.1))) := by
  obtain ⟨hx, hb, hr, hml, hown, hts, hlk, hini, hex, hRf, hRl⟩ := id hC
  obtain ⟨hd, hlen⟩ := row_dec hrow
  dsimp only [stp, act] at hs
  change len = 1 at hlen
  subst hlen
  obtain ⟨i, q, r, rfl, h1, h2, hq, h3, h⟩ := aLald_i hs
  cases h
  obtain ⟨g1, g2, g3, g4, g5, g6, g7, g8, g9, g10⟩ := id hG
  obtain ⟨hK, hP, hD, hS⟩ := id hM
  obtain ⟨n1, n2, n3, n4, n5, n6, n7, n8⟩ := id hE
  have he := wld_at (B := B) (I := I) (L := L) hq h2
  rw [wce_l h1] at he
  obtain ⟨t, ht⟩ := g9 q hq h2 h1
  exact va_lald hx hb hK hP (q - 1) t he ht h3 hd (kk.s hG hM hl)
set_option maxHeartbeats 2000000 in
theorem nx_aald {p : Program} {l : Launch} {env : Env} {R : Room} {s : State} {m : MethodId} {args : Array Value} {below : List Frame} {meth : Method} {c : Code} {Q : State → Prop} {D : va_G} {b Lx Z : Nat} {xs : Nat → Int32} {mi pc len e1 e2 : Nat} {e3 : Int} {ls : Lv} {st : List Value} {g : GS} {I : Mi} {L : Ml} {B : BJ} {H : Heap} {locs : List Loc} {LS : Array Slot} {cells slots : Nat} {a2 : Nat × Lv × List Value × GS × Mi × Ml} (hC : CX p s m args meth c R mi) (hE : ENV D b Lx xs Z s s.heap) (hG : GOK b Lx xs B g I) (hM : MR1 D Z s B g I L H locs) (hl : lv_has LS (mO mi) (cvl B.1 ls)) (hcl : cells + (a2.2.2.2.1.1 - g.1) ≤ R.cells) (hsl : slots + (a2.2.2.2.1.2.1 - g.2.1) ≤ R.slots) (hall : ∀ r ∈ PT mi, rowC mi r = true) (hrow : rowC mi (pc, .aaload, len, e1, e2, e3) = true) (hs : stp (PT mi) pc (.aaload) len e1 e2 e3 ls st g I L = some (.inr (.inl a2))) (kk : GoTo p l env R s m args below meth c Q D b Lx xs Z mi B g cells slots a2) : W p l env R s m args below meth c H locs cells slots Q (F0 m pc LS (st.map (cv B.1))) := by
  obtain ⟨hx, hb, hr, hml, hown, hts, hlk, hini, hex, hRf, hRl⟩ := id hC
  obtain ⟨hd, hlen⟩ := row_dec hrow
  dsimp only [stp, act] at hs
  change len = 1 at hlen
  subst hlen
  obtain ⟨i, q, r, rfl, h1, h2, hq, h3, h⟩ := aAald_i hs
  cases h
  obtain ⟨g1, g2, g3, g4, g5, g6, g7, g8, g9, g10⟩ := id hG
  obtain ⟨hK, hP, hD, hS⟩ := id hM
  obtain ⟨n1, n2, n3, n4, n5, n6, n7, n8⟩ := id hE
  have he := wld_at (B := B) (I := I) (L := L) hq h2
  rw [wce_r h1] at he
  obtain ⟨t, ht⟩ := g10 q hq h2 h1
  have k2 := kk.s hG hM hl
  rw [List.map_cons, cv_rfv] at k2
  exact va_aldq hx hb hK hP (q - 1) t he ht h3 hd k2
set_option maxHeartbeats 2000000 in
theorem nx_iast {p : Program} {l : Launch} {env : Env} {R : Room} {s : State} {m : MethodId} {args : Array Value} {below : List Frame} {meth : Method} {c : Code} {Q : State → Prop} {D : va_G} {b Lx Z : Nat} {xs : Nat → Int32} {mi pc len e1 e2 : Nat} {e3 : Int} {ls : Lv} {st : List Value} {g : GS} {I : Mi} {L : Ml} {B : BJ} {H : Heap} {locs : List Loc} {LS : Array Slot} {cells slots : Nat} {a2 : Nat × Lv × List Value × GS × Mi × Ml} (hC : CX p s m args meth c R mi) (hE : ENV D b Lx xs Z s s.heap) (hG : GOK b Lx xs B g I) (hM : MR1 D Z s B g I L H locs) (hl : lv_has LS (mO mi) (cvl B.1 ls)) (hcl : cells + (a2.2.2.2.1.1 - g.1) ≤ R.cells) (hsl : slots + (a2.2.2.2.1.2.1 - g.2.1) ≤ R.slots) (hall : ∀ r ∈ PT mi, rowC mi r = true) (hrow : rowC mi (pc, .iastore, len, e1, e2, e3) = true) (hs : stp (PT mi) pc (.iastore) len e1 e2 e3 ls st g I L = some (.inr (.inl a2))) (kk : GoTo p l env R s m args below meth c Q D b Lx xs Z mi B g cells slots a2) : W p l env R s m args below meth c H locs cells slots Q (F0 m pc LS (st.map (cv B.1))) := by
  obtain ⟨hx, hb, hr, hml, hown, hts, hlk, hini, hex, hRf, hRl⟩ := id hC
  obtain ⟨hd, hlen⟩ := row_dec hrow
  dsimp only [stp, act] at hs
  change len = 1 at hlen
  subst hlen
  obtain ⟨x, i, q, r, rfl, h1, h2, hq, h3, h⟩ := aIast_i hs
  cases h
  obtain ⟨g1, g2, g3, g4, g5, g6, g7, g8, g9, g10⟩ := id hG
  obtain ⟨hK, hP, hD, hS⟩ := id hM
  obtain ⟨n1, n2, n3, n4, n5, n6, n7, n8⟩ := id hE
  have he := wld_at (B := B) (I := I) (L := L) hq h2
  rw [wce_i h1] at he
  obtain ⟨t, ht⟩ := g8 q hq h2 h1
  refine va_iast hx hb hK hP hD hS (q - 1) t he ht h3 hd (fun H1 locs1 hP1 hD1 hS1 => ?_)
  have hG2 : GOK b Lx xs B g (ui I q i.toNatClampNeg x) := ⟨g1, g2, by rw [ui_ne (Nat.ne_of_lt hq)]; exact g3, g4, g5, g6, g7, g8, g9, g10⟩
  have e := wld_set (B := B) (g := g) (g' := g) (I := I) (I' := ui I q i.toNatClampNeg x) (L := L) (L' := L) hq h2 rfl (fun j hj => wce_c rfl rfl (ui_ne hj) rfl (fun _ => rfl))
  rw [wce_i h1, ui_at] at e
  rw [e] at hP1 hD1
  exact kk.m rfl rfl hG2 ⟨hK, hP1, hD1, hS1⟩ hl
set_option maxHeartbeats 2000000 in
theorem nx_last {p : Program} {l : Launch} {env : Env} {R : Room} {s : State} {m : MethodId} {args : Array Value} {below : List Frame} {meth : Method} {c : Code} {Q : State → Prop} {D : va_G} {b Lx Z : Nat} {xs : Nat → Int32} {mi pc len e1 e2 : Nat} {e3 : Int} {ls : Lv} {st : List Value} {g : GS} {I : Mi} {L : Ml} {B : BJ} {H : Heap} {locs : List Loc} {LS : Array Slot} {cells slots : Nat} {a2 : Nat × Lv × List Value × GS × Mi × Ml} (hC : CX p s m args meth c R mi) (hE : ENV D b Lx xs Z s s.heap) (hG : GOK b Lx xs B g I) (hM : MR1 D Z s B g I L H locs) (hl : lv_has LS (mO mi) (cvl B.1 ls)) (hcl : cells + (a2.2.2.2.1.1 - g.1) ≤ R.cells) (hsl : slots + (a2.2.2.2.1.2.1 - g.2.1) ≤ R.slots) (hall : ∀ r ∈ PT mi, rowC mi r = true) (hrow : rowC mi (pc, .lastore, len, e1, e2, e3) = true) (hs : stp (PT mi) pc (.lastore) len e1 e2 e3 ls st g I L = some (.inr (.inl a2))) (kk : GoTo p l env R s m args below meth c Q D b Lx xs Z mi B g cells slots a2) : W p l env R s m args below meth c H locs cells slots Q (F0 m pc LS (st.map (cv B.1))) := by
  obtain ⟨hx, hb, hr, hml, hown, hts, hlk, hini, hex, hRf, hRl⟩ := id hC
  obtain ⟨hd, hlen⟩ := row_dec hrow
  dsimp only [stp, act] at hs
  change len = 1 at hlen
  subst hlen
  obtain ⟨x, i, q, r, rfl, h1, h2, hq, h3, h⟩ := aLast_i hs
  cases h
  obtain ⟨g1, g2, g3, g4, g5, g6, g7, g8, g9, g10⟩ := id hG
  obtain ⟨hK, hP, hD, hS⟩ := id hM
  obtain ⟨n1, n2, n3, n4, n5, n6, n7, n8⟩ := id hE
  have he := wld_at (B := B) (I := I) (L := L) hq h2
  rw [wce_l h1] at he
  obtain ⟨t, ht⟩ := g9 q hq h2 h1
  refine va_last hx hb hK hP hD hS (q - 1) t he ht h3 hd (fun H1 locs1 hP1 hD1 hS1 => ?_)
  have e := wld_set (B := B) (g := g) (g' := g) (I := I) (I' := I) (L := L) (L' := ul L q i.toNatClampNeg x) hq h2 rfl (fun j hj => wce_c rfl rfl rfl (ul_ne hj) (fun _ => rfl))
  rw [wce_l h1, ul_at] at e
  rw [e] at hP1 hD1
  exact kk.m rfl rfl hG ⟨hK, hP1, hD1, hS1⟩ hl
set_option maxHeartbeats 2000000 in
theorem nx_aast {p : Program} {l : Launch} {env : Env} {R : Room} {s : State} {m : MethodId} {args : Array Value} {below : List Frame} {meth : Method} {c : Code} {Q : State → Prop} {D : va_G} {b Lx Z : Nat} {xs : Nat → Int32} {mi pc len e1 e2 : Nat} {e3 : Int} {ls : Lv} {st : List Value} {g : GS} {I : Mi} {L : Ml} {B : BJ} {H : Heap} {locs : List Loc} {LS : Array Slot} {cells slots : Nat} {a2 : Nat × Lv × List Value × GS × Mi × Ml} (hC : CX p s m args meth c R mi) (hE : ENV D b Lx xs Z s s.heap) (hG : GOK b Lx xs B g I) (hM : MR1 D Z s B g I L H locs) (hl : lv_has LS (mO mi) (cvl B.1 ls)) (hcl : cells + (a2.2.2.2.1.1 - g.1) ≤ R.cells) (hsl : slots + (a2.2.2.2.1.2.1 - g.2.1) ≤ R.slots) (hall : ∀ r ∈ PT mi, rowC mi r = true) (hrow : rowC mi (pc, .aastore, len, e1, e2, e3) = true) (hs : stp (PT mi) pc (.aastore) len e1 e2 e3 ls st g I L = some (.inr (.inl a2))) (kk : GoTo p l env R s m args below meth c Q D b Lx xs Z mi B g cells slots a2) : W p l env R s m args below meth c H locs cells slots Q (F0 m pc LS (st.map (cv B.1))) := by
  obtain ⟨hx, hb, hr, hml, hown, hts, hlk, hini, hex, hRf, hRl⟩ := id hC
  obtain ⟨hd, hlen⟩ := row_dec hrow
  dsimp only [stp, act] at hs
  change len = 1 at hlen
  subst hlen
  obtain ⟨v, i, q, r, rfl, h1, h2, hq, hv1, hv2, hv3, h3, h⟩ := aAast_i hs
  cases h
  obtain ⟨g1, g2, g3, g4, g5, g6, g7, g8, g9, g10⟩ := id hG
  obtain ⟨hK, hP, hD, hS⟩ := id hM
  obtain ⟨n1, n2, n3, n4, n5, n6, n7, n8⟩ := id hE
  have he := wld_at (B := B) (I := I) (L := L) hq h2
  rw [wce_r h1] at he
  obtain ⟨t, ht⟩ := g10 q hq h2 h1
  have hv := obj_at (L := L) hG hv1 hv2 hv3 (by decide)
  refine va_astq (r := ((clO 7).1, (clO 7).2.1, (clO 7).2.2)) hx hb hK hP hD hS (q - 1) t (v - 1) 7 he ht hv (clO_at (by decide)) h3 hd (fun H1 locs1 hP1 hD1 hS1 => ?_)
  have hG2 : GOK b Lx xs B (g.1, g.2.1, g.2.2.1, ur g.2.2.2 q i.toNatClampNeg (some v)) I := ⟨g1, g2, g3, g4, g5, fun k j r hr => by
    change ur g.2.2.2 q i.toNatClampNeg (some v) k j = some r at hr
    by_cases hk : k = q
    · subst hk
      rw [ur_at] at hr
      change (if j = i.toNatClampNeg then some v else g.2.2.2 k j) = some r at hr
      split at hr
      · cases hr; exact hv2
      · exact g6 _ _ _ hr
    · rw [ur_ne hk] at hr
      exact g6 _ _ _ hr, g7, g8, g9, g10⟩
  have e := wld_set (B := B) (g := g) (g' := (g.1, g.2.1, g.2.2.1, ur g.2.2.2 q i.toNatClampNeg (some v))) (I := I) (I' := I) (L := L) (L' := L) hq h2 rfl (fun j hj => wce_c rfl rfl rfl rfl (fun x => by
    show (ur g.2.2.2 q i.toNatClampNeg (some v) j x).map B.1 = _
    rw [ur_ne hj]))
  rw [wce_r (g := (g.1, g.2.1, g.2.2.1, ur g.2.2.2 q i.toNatClampNeg (some v))) h1] at e
  have ef : (fun j => (ur g.2.2.2 q i.toNatClampNeg (some v) q j).map B.1) = va_up (fun j => (g.2.2.2 q j).map B.1) i.toNatClampNeg (some (B.1 v)) := by
    funext j
    rw [ur_at]
    unfold va_up
    show ((if j = i.toNatClampNeg then some v else g.2.2.2 q j : Option Nat)).map B.1 = _
    split <;> rfl
  dsimp only at e
  rw [ef] at e
  rw [e] at hP1 hD1
  exact kk.m rfl rfl hG2 ⟨hK, hP1, hD1, hS1⟩ hl
set_option maxHeartbeats 2000000 in
theorem nx_cpy {p : Program} {l : Launch} {env : Env} {R : Room} {s : State} {m : MethodId} {args : Array Value} {below : List Frame} {meth : Method} {c : Code} {Q : State → Prop} {D : va_G} {b Lx Z : Nat} {xs : Nat → Int32} {mi pc len e1 e2 : Nat} {e3 : Int} {ls : Lv} {st : List Value} {g : GS} {I : Mi} {L : Ml} {B : BJ} {H : Heap} {locs : List Loc} {LS : Array Slot} {cells slots : Nat} {a2 : Nat × Lv × List Value × GS × Mi × Ml} (hC : CX p s m args meth c R mi) (hE : ENV D b Lx xs Z s s.heap) (hG : GOK b Lx xs B g I) (hM : MR1 D Z s B g I L H locs) (hl : lv_has LS (mO mi) (cvl B.1 ls)) (hcl : cells + (a2.2.2.2.1.1 - g.1) ≤ R.cells) (hsl : slots + (a2.2.2.2.1.2.1 - g.2.1) ≤ R.slots) (hall : ∀ r ∈ PT mi, rowC mi r = true) {n : Nat} (he1 : e1 = 1001) (hrow : rowC mi (pc, .invokestatic n, len, e1, e2, e3) = true) (hs : stp (PT mi) pc (.invokestatic n) len e1 e2 e3 ls st g I L = some (.inr (.inl a2))) (kk : GoTo p l env R s m args below meth c Q D b Lx xs Z mi B g cells slots a2) : W p l env R s m args below meth c H locs cells slots Q (F0 m pc LS (st.map (cv B.1))) := by
  obtain ⟨hx, hb, hr, hml, hown, hts, hlk, hini, hex, hRf, hRl⟩ := id hC
  subst he1
  obtain ⟨hd, hlen⟩ := row_dec hrow
  dsimp only [stp, act] at hs
  change len = 3 at hlen
  subst hlen
  unfold rowC at hrow
  simp only [Bool.and_eq_true] at hrow
  have hrow := hrow.2
  change cond (Nat.beq 1001 1001) _ _ = true at hrow
  change (_ && _ && _) = true at hrow
  simp only [Bool.and_eq_true] at hrow
  obtain ⟨⟨r1, r2⟩, r3⟩ := hrow
  have hs : aCpy st g I (fun st I => (some (Sum.inr (Sum.inl (pc + 3, ls, st, g, I, L))) : Option Act)) none = (some (Sum.inr (Sum.inl a2)) : Option Act) := hs
  obtain ⟨n', dp, q1, sp, q0, rfl, h1, h2, h3, h4, h5, h6, m1, m2, m3, m4, m5, h⟩ := aCpy_i hs
  cases h
  obtain ⟨g1, g2, g3, g4, g5, g6, g7, g8, g9, g10⟩ := id hG
  obtain ⟨hK, hP, hD, hS⟩ := id hM
  obtain ⟨n1, n2, n3, n4, n5, n6, n7, n8⟩ := id hE
  have he0 := wld_at (B := B) (I := I) (L := L) h3 h2
  rw [wce_i h1] at he0
  have he1 := wld_at (B := B) (I := I) (L := L) h6 h5
  rw [wce_i h4] at he1
  obtain ⟨t0, ht0⟩ := g8 q0 h3 h2 h1
  obtain ⟨t1, ht1⟩ := g8 q1 h6 h5 h4
  refine va_copyi (own := (yO mi).cls) (rest := []) hx hb (hml.trans hl.1.symm) hown (hts _ (chW_in r1)) (hts _ cpy_nat) (hts _ cpy_sta) (hts _ cpy_ini) hK hP hD hS (q0 - 1) (q1 - 1) t0 t1 he0 he1 ht0 ht1 rfl m2 m3 m1 m4 m5 (fun _ _ => rfl) (Nat.le_trans (Nat.le_of_ble_eq_true r2) hRf) (Nat.le_trans (Nat.le_trans (by decide) (Nat.le_of_ble_eq_true r3)) hRl) hd (fun H1 locs1 hP1 hD1 hS1 => ?_)
  have hG2 : GOK b Lx xs B g (ri I q1 (va_cpy (I q0) (I q1) sp.toNatClampNeg dp.toNatClampNeg n'.toNatClampNeg)) := ⟨g1, g2, by rw [ri_ne (Nat.ne_of_lt h6)]; exact g3, g4, g5, g6, g7, g8, g9, g10⟩
  have e := wld_set (B := B) (g := g) (g' := g) (I := I) (I' := ri I q1 (va_cpy (I q0) (I q1) sp.toNatClampNeg dp.toNatClampNeg n'.toNatClampNeg)) (L := L) (L' := L) h6 h5 rfl (fun j hj => wce_c rfl rfl (ri_ne hj) rfl (fun _ => rfl))
  rw [wce_i h4, ri_at] at e
  rw [e] at hP1 hD1
  exact kk.m rfl rfl hG2 ⟨hK, hP1, hD1, hS1⟩ hl
set_option maxHeartbeats 2000000 in
theorem nx_oin {p : Program} {l : Launch} {env : Env} {R : Room} {s : State} {m : MethodId} {args : Array Value} {below : List Frame} {meth : Method} {c : Code} {Q : State → Prop} {D : va_G} {b Lx Z : Nat} {xs : Nat → Int32} {mi pc len e1 e2 : Nat} {e3 : Int} {ls : Lv} {st : List Value} {g : GS} {I : Mi} {L : Ml} {B : BJ} {H : Heap} {locs : List Loc} {LS : Array Slot} {cells slots : Nat} {a2 : Nat × Lv × List Value × GS × Mi × Ml} (hC : CX p s m args meth c R mi) (hE : ENV D b Lx xs Z s s.heap) (hG : GOK b Lx xs B g I) (hM : MR1 D Z s B g I L H locs) (hl : lv_has LS (mO mi) (cvl B.1 ls)) (hcl : cells + (a2.2.2.2.1.1 - g.1) ≤ R.cells) (hsl : slots + (a2.2.2.2.1.2.1 - g.2.1) ≤ R.slots) (hall : ∀ r ∈ PT mi, rowC mi r = true) {n : Nat} (he1 : e1 = 1000) (hrow : rowC mi (pc, .invokespecial n, len, e1, e2, e3) = true) (hs : stp (PT mi) pc (.invokespecial n) len e1 e2 e3 ls st g I L = some (.inr (.inl a2))) (kk : GoTo p l env R s m args below meth c Q D b Lx xs Z mi B g cells slots a2) : W p l env R s m args below meth c H locs cells slots Q (F0 m pc LS (st.map (cv B.1))) := by
  obtain ⟨hx, hb, hr, hml, hown, hts, hlk, hini, hex, hRf, hRl⟩ := id hC
  subst he1
  obtain ⟨hd, hlen⟩ := row_dec hrow
  dsimp only [stp, act] at hs
  change len = 3 at hlen
  subst hlen
  unfold rowC at hrow
  simp only [Bool.and_eq_true] at hrow
  have hrow := hrow.2
  change cond (Nat.beq 1000 1000) _ _ = true at hrow
  change (_ && _ && _) = true at hrow
  simp only [Bool.and_eq_true] at hrow
  obtain ⟨⟨r1, r2⟩, r3⟩ := hrow
  have hs : aOin st (fun st => (some (Sum.inr (Sum.inl (pc + 3, ls, st, g, I, L))) : Option Act)) none = (some (Sum.inr (Sum.inl a2)) : Option Act) := hs
  obtain ⟨q, r, rfl, h1, h⟩ := aOin_i hs
  cases h
  exact W.objInit (own := (yO mi).cls) (g := F0 m pc LS (.ref (B.1 q) :: r.map (cv B.1))) hx hb hown (hts _ (chW_in r1)) (hts _ oin_ins) (hts _ oin_cod) rfl (hl.1.trans hml.symm) rfl hd (Nat.le_trans (Nat.le_of_ble_eq_true r2) hRf)
    (by rw [csm_cv]; have := Nat.le_trans (Nat.le_of_ble_eq_true r3) hRl; show 2 * 0 + csm r + 12 ≤ _; omega) (kk.s hG hM hl)
set_option maxHeartbeats 2000000 in
theorem nx_new {p : Program} {l : Launch} {env : Env} {R : Room} {s : State} {m : MethodId} {args : Array Value} {below : List Frame} {meth : Method} {c : Code} {Q : State → Prop} {D : va_G} {b Lx Z : Nat} {xs : Nat → Int32} {mi pc len e1 e2 : Nat} {e3 : Int} {ls : Lv} {st : List Value} {g : GS} {I : Mi} {L : Ml} {B : BJ} {H : Heap} {locs : List Loc} {LS : Array Slot} {cells slots : Nat} {a2 : Nat × Lv × List Value × GS × Mi × Ml} (hC : CX p s m args meth c R mi) (hE : ENV D b Lx xs Z s s.heap) (hG : GOK b Lx xs B g I) (hM : MR1 D Z s B g I L H locs) (hl : lv_has LS (mO mi) (cvl B.1 ls)) (hcl : cells + (a2.2.2.2.1.1 - g.1) ≤ R.cells) (hsl : slots + (a2.2.2.2.1.2.1 - g.2.1) ≤ R.slots) (hall : ∀ r ∈ PT mi, rowC mi r = true) {n : Nat} (he1 : e1 < 13) (hrow : rowC mi (pc, .new n, len, e1, e2, e3) = true) (hs : stp (PT mi) pc (.new n) len e1 e2 e3 ls st g I L = some (.inr (.inl a2))) (kk : GoTo p l env R s m args below meth c Q D b Lx xs Z mi B g cells slots a2) : W p l env R s m args below meth c H locs cells slots Q (F0 m pc LS (st.map (cv B.1))) := by
  obtain ⟨hx, hb, hr, hml, hown, hts, hlk, hini, hex, hRf, hRl⟩ := id hC
  obtain ⟨hd, hlen⟩ := row_dec hrow
  dsimp only [stp, act] at hs
  change len = 3 at hlen
  subst hlen
  unfold rowC at hrow
  simp only [Bool.and_eq_true] at hrow
  have hrow := hrow.2
  have hb1 : Nat.ble 101 e1 = false := by
    cases hc : Nat.ble 101 e1 with
    | false => rfl
    | true => exact absurd (Nat.le_of_ble_eq_true hc) (by omega)
  rw [hb1] at hrow
  simp only [cond_false, Bool.and_eq_true] at hrow
  obtain ⟨⟨r1, r2⟩, r3⟩ := hrow
  have r2 := of_decide_eq_true r2
  have hs : cond (Nat.ble 101 e1) (aRtV st (some (Sum.inl (Sum.inr e1, 1)) : Option Act) none) (aNew e1 e2 ls st g I L (fun st g I L => (some (Sum.inr (Sum.inl (pc + 3, ls, st, g, I, L))) : Option Act)) none) = (some (Sum.inr (Sum.inl a2)) : Option Act) := hs
  rw [hb1] at hs
  simp only [cond_false] at hs
  obtain ⟨h1, hq1, hq2, h⟩ := aNew_i hs
  cases h
  obtain ⟨g1, g2, g3, g4, g5, g6, g7, g8, g9, g10⟩ := id hG
  obtain ⟨hK, hP, hD, hS⟩ := id hM
  obtain ⟨n1, n2, n3, n4, n5, n6, n7, n8⟩ := id hE
  subst r2
  obtain ⟨ty0, cf1, cf2, cf3, cf4, cf5, cf6⟩ := clF_all h1
  have hcl2 : cells + 1 ≤ R.cells := by have h := hcl; change cells + (g.1 + 1 - g.1) ≤ R.cells at h; omega
  have hsl2 : slots + (clO e1).2.2 ≤ R.slots := by have h := hsl; change slots + (g.2.1 + (clO e1).2.2 - g.2.1) ≤ R.slots at h; omega
  refine va_new (D := D) (ci := e1) (fs := (List.range (clO e1).2.2).map fun j => fcv B.1 (gnw e1 (clO e1).2.2 g) (ri I g.1 (fun _ => 0)) (rl L g.1 (fun _ => 0)) (fk e1 j) g.1 j) hx hb hts cf3 ty0 cf1 hown (hts _ (chW_in r3)) (hts _ cf4) (hts _ cf5) hK hP hD hS (fun q hq => Nat.le_trans n8 hq) (clO_at h1) (fun j hj => ?_) hcl2 hsl2 hd (fun qn H1 hP1 hD1 hS1 => ?_)
  · unfold vp_V
    rw [List.getD_eq_getElem?_getD, List.getElem?_map, List.getElem?_range hj]
    show defaultValue (ty0 j) = fcv B.1 (gnw e1 (clO e1).2.2 g) (ri I g.1 (fun _ => 0)) (rl L g.1 (fun _ => 0)) (fk e1 j) g.1 j
    unfold fcv
    rcases cf6 j hj with ⟨a1, a2⟩ | ⟨a1, a2⟩ | ⟨a1, a2⟩ | ⟨a1, ⟨n, a2⟩ | ⟨n, a2⟩⟩ <;> rw [a1, a2]
    · rw [ri_at]; rfl
    · rw [ri_at]; rfl
    · rw [rl_at]; rfl
    · show _ = va_rf ((rr g.2.2.2 g.1 (fun _ => none) g.1 j).map B.1); rw [rr_at]; rfl
    · show _ = va_rf ((rr g.2.2.2 g.1 (fun _ => none) g.1 j).map B.1); rw [rr_at]; rfl
  have ha : ∀ k, k < g.1 → (fun k => if k = g.1 then qn else B.1 k) k = B.1 k := fun k hk => if_neg (by omega)
  have hsh : ∀ k, k < g.1 → shk (g.2.2.1 ++ [(e1, (clO e1).2.2)]) k = shk g.2.2.1 k := fun k hk => shk_old (by rw [g5]; exact hk)
  have hsn : shk (g.2.2.1 ++ [(e1, (clO e1).2.2)]) g.1 = (e1, (clO e1).2.2) := shk_new g5
  have hmo : ∀ k j, k < g.1 → ((rr g.2.2.2 g.1 (fun _ => none)) k j).map (fun k => if k = g.1 then qn else B.1 k) = (g.2.2.2 k j).map B.1 := fun k j hk => by
    rw [rr_ne (by omega)]
    cases hr : g.2.2.2 k j with
    | none => rfl
    | some r => show some (if r = g.1 then qn else B.1 r) = some (B.1 r); rw [if_neg (by have := g6 k j r hr; omega)]
  have hG2 : GOK b Lx xs (fun k => if k = g.1 then qn else B.1 k, B.2.1, B.2.2) (gnw (e1) ((clO e1).2.2) g) (ri I g.1 (fun _ => 0)) := by
    refine ⟨(ha 0 g4).trans g1, (hsh 0 g4).trans g2, by rw [ri_ne (Nat.ne_of_lt g4)]; exact g3, Nat.succ_pos _, by show (g.2.2.1 ++ [_]).length = g.1 + 1; rw [List.length_append, g5]; rfl, ?_, ?_, ?_, ?_, ?_⟩
    · intro k j r hr
      change rr g.2.2.2 g.1 (fun _ => none) k j = some r at hr
      by_cases hk : k = g.1
      · subst hk; rw [rr_at] at hr; cases hr
      · rw [rr_ne hk] at hr; have := g6 k j r hr; show r < g.1 + 1; omega
    · intro k hk0 hk hk2
      by_cases hkn : k = g.1
      · subst hkn
        change (shk (g.2.2.1 ++ [(e1, (clO e1).2.2)]) g.1).2 = (clO (shk (g.2.2.1 ++ [(e1, (clO e1).2.2)]) g.1).1).2.2
        change (shk (g.2.2.1 ++ [(e1, (clO e1).2.2)]) g.1).1 < 13 at hk2
        rw [hsn] at hk2 ⊢
        all_goals rfl
      · have hk' : k < g.1 := by have : k < g.1 + 1 := hk; omega
        change (shk (g.2.2.1 ++ [(e1, (clO e1).2.2)]) k).2 = (clO (shk (g.2.2.1 ++ [(e1, (clO e1).2.2)]) k).1).2.2
        change (shk (g.2.2.1 ++ [(e1, (clO e1).2.2)]) k).1 < 13 at hk2
        rw [hsh k hk'] at hk2 ⊢
        exact g7 k hk0 hk' hk2
    · intro k hk0 hk hk2
      change (shk (g.2.2.1 ++ [(e1, (clO e1).2.2)]) k).1 = 20 at hk2
      by_cases hkn : k = g.1
      · subst hkn
        rw [hsn] at hk2
        exact absurd hk2 (by show ¬ e1 = 20; omega)
      · have hk' : k < g.1 := by have : k < g.1 + 1 := hk; omega
        rw [hsh k hk'] at hk2
        exact g8 k hk0 hk' hk2
    · intro k hk0 hk hk2
      change (shk (g.2.2.1 ++ [(e1, (clO e1).2.2)]) k).1 = 21 at hk2
      by_cases hkn : k = g.1
      · subst hkn
        rw [hsn] at hk2
        exact absurd hk2 (by show ¬ e1 = 21; omega)
      · have hk' : k < g.1 := by have : k < g.1 + 1 := hk; omega
        rw [hsh k hk'] at hk2
        exact g9 k hk0 hk' hk2
    · intro k hk0 hk hk2
      change (shk (g.2.2.1 ++ [(e1, (clO e1).2.2)]) k).1 = 22 at hk2
      by_cases hkn : k = g.1
      · subst hkn
        rw [hsn] at hk2
        exact absurd hk2 (by show ¬ e1 = 22; omega)
      · have hk' : k < g.1 := by have : k < g.1 + 1 := hk; omega
        rw [hsh k hk'] at hk2
        exact g10 k hk0 hk' hk2
  have e := wld_new (B := B) (B' := (fun k => if k = g.1 then qn else B.1 k, B.2.1, B.2.2)) (g := g) (g' := gnw e1 (clO e1).2.2 g) (I := I) (I' := ri I g.1 (fun _ => 0)) (L := L) (L' := rl L g.1 (fun _ => 0)) g4 rfl (fun j _ hj => ha j hj) (fun j _ hj => wce_c (hsh j hj) rfl (ri_ne (by omega)) (rl_ne (by omega)) (fun x => hmo j x hj))
  have e2' := obj_at (L := rl L g.1 (fun _ => 0)) hG2 (q := g.1) (e1 := e1) (by show (shk (g.2.2.1 ++ [(e1, (clO e1).2.2)]) g.1).1 = e1; rw [hsn]) (Nat.lt_succ_self _) g4 h1
  have e3' := wld_at (B := (fun k => if k = g.1 then qn else B.1 k, B.2.1, B.2.2)) (g := gnw e1 (clO e1).2.2 g) (I := ri I g.1 (fun _ => 0)) (L := rl L g.1 (fun _ => 0)) g4 (Nat.lt_succ_self _)
  rw [(Prod.mk.inj (Option.some.inj (e3'.symm.trans e2'))).2] at e
  have e4 : (if g.1 = g.1 then qn else B.1 g.1) = qn := if_pos rfl
  have e5 : ((List.range (clO e1).2.2).map fun j => fcv (fun k => if k = g.1 then qn else B.1 k) (gnw e1 (clO e1).2.2 g) (ri I g.1 (fun _ => 0)) (rl L g.1 (fun _ => 0)) (fk e1 j) g.1 j) = (List.range (clO e1).2.2).map fun j => fcv B.1 (gnw e1 (clO e1).2.2 g) (ri I g.1 (fun _ => 0)) (rl L g.1 (fun _ => 0)) (fk e1 j) g.1 j :=
    List.map_congr_left fun j _ => fcv_c _ j rfl rfl (by show (rr g.2.2.2 g.1 (fun _ => none) g.1 j).map _ = (rr g.2.2.2 g.1 (fun _ => none) g.1 j).map _; rw [rr_at]; rfl)
  dsimp only at e
  rw [e4, e5] at e
  rw [e] at hP1 hD1
  have k2 := kk (fun k => if k = g.1 then qn else B.1 k, B.2.1, B.2.2) H1 locs LS ⟨ha, fun h => absurd h (by show ¬ g.1 + 1 = g.1; omega)⟩ hG2 ⟨hK, hP1, hD1, hS1⟩ (by show lv_has LS (mO mi) (cvl (fun k => if k = g.1 then qn else B.1 k) ls); rw [cvl_ok ha hq2]; exact hl)
  dsimp only at k2
  have ec : cells + ((gnw e1 (clO e1).2.2 g).1 - g.1) = cells + 1 := by show cells + (g.1 + 1 - g.1) = _; omega
  have es : slots + ((gnw e1 (clO e1).2.2 g).2.1 - g.2.1) = slots + (clO e1).2.2 := by show slots + (g.2.1 + (clO e1).2.2 - g.2.1) = _; omega
  rw [ec, es, List.map_cons] at k2
  rw [cvm_ok ha hq1] at k2
  have e9 : cv (fun k => if k = g.1 then qn else B.1 k) (.ref g.1) = .ref qn := by show Value.ref (if g.1 = g.1 then qn else _) = _; rw [if_pos rfl]
  rw [e9] at k2
  exact k2
theorem clamp_le {n : Int32} (h : ¬ 1000 < n) : n.toNatClampNeg ≤ 1000 := by
  have h1 : n ≤ 1000 := Int32.not_lt.mp h
  have h2 := Int32.le_iff_toInt_le.mp h1
  have h3 : (1000 : Int32).toInt = 1000 := by decide
  rw [h3] at h2
  show n.toInt.toNat ≤ 1000
  omega
theorem aAll_t {n : Nat} {v : Value} {l : List Value} (h : aAll n (v :: l) = true) : aAll n l = true := by
  unfold aAll at h ⊢
  rw [List.all_cons, Bool.and_eq_true] at h
  exact h.2
set_option maxHeartbeats 2000000 in
theorem nx_newi {p : Program} {l : Launch} {env : Env} {R : Room} {s : State} {m : MethodId} {args : Array Value} {below : List Frame} {meth : Method} {c : Code} {Q : State → Prop} {D : va_G} {b Lx Z : Nat} {xs : Nat → Int32} {mi pc len e1 e2 : Nat} {e3 : Int} {ls : Lv} {st : List Value} {g : GS} {I : Mi} {L : Ml} {B : BJ} {H : Heap} {locs : List Loc} {LS : Array Slot} {cells slots : Nat} {a2 : Nat × Lv × List Value × GS × Mi × Ml} (hC : CX p s m args meth c R mi) (hE : ENV D b Lx xs Z s s.heap) (hG : GOK b Lx xs B g I) (hM : MR1 D Z s B g I L H locs) (hl : lv_has LS (mO mi) (cvl B.1 ls)) (hcl : cells + (a2.2.2.2.1.1 - g.1) ≤ R.cells) (hsl : slots + (a2.2.2.2.1.2.1 - g.2.1) ≤ R.slots) (hall : ∀ r ∈ PT mi, rowC mi r = true) {t : ArrayType} (he1 : e1 = 20) (hrow : rowC mi (pc, .newarray t, len, e1, e2, e3) = true) (hs : stp (PT mi) pc (.newarray t) len e1 e2 e3 ls st g I L = some (.inr (.inl a2))) (kk : GoTo p l env R s m args below meth c Q D b Lx xs Z mi B g cells slots a2) : W p l env R s m args below meth c H locs cells slots Q (F0 m pc LS (st.map (cv B.1))) := by
  obtain ⟨hx, hb, hr, hml, hown, hts, hlk, hini, hex, hRf, hRl⟩ := id hC
  obtain ⟨hd, hlen⟩ := row_dec hrow
  dsimp only [stp, act] at hs
  change len = 2 at hlen
  subst hlen
  have ht : t = .int := by
    unfold rowC at hrow
    simp only [Bool.and_eq_true] at hrow
    have hrow := hrow.2
    subst he1
    exact of_decide_eq_true (hrow)
  subst ht
  subst he1
  have hs : aNwa 20 ls st g I L (fun st g I L => (some (Sum.inr (Sum.inl (pc + 2, ls, st, g, I, L))) : Option Act)) none = (some (Sum.inr (Sum.inl a2)) : Option Act) := hs
  obtain ⟨n', r, rfl, hq1, hq2, hn0, hn1, h⟩ := aNwa_i hs
  cases h
  obtain ⟨g1, g2, g3, g4, g5, g6, g7, g8, g9, g10⟩ := id hG
  obtain ⟨hK, hP, hD, hS⟩ := id hM
  obtain ⟨n1, n2, n3, n4, n5, n6, n7, n8⟩ := id hE
  have hcl2 : cells + 1 ≤ R.cells := by have h := hcl; change cells + (g.1 + 1 - g.1) ≤ R.cells at h; omega
  have hsl2 : slots + n'.toNatClampNeg ≤ R.slots := by have h := hsl; change slots + (g.2.1 + n'.toNatClampNeg - g.2.1) ≤ R.slots at h; omega
  have hsm : n'.toNatClampNeg ≤ 1000 := clamp_le hn1
  refine va_newa (atype := .int) (a0 := (n'.toNatClampNeg, .inl fun _ => 0)) (ty := .int) hx hb (hts _ arr_i) rfl hK hP hD hS (fun q hq => Nat.le_trans n8 hq) (fun _ => rfl) hn0 rfl (Nat.le_trans (Nat.mul_le_mul_right _ hsm) (by decide)) hcl2 hsl2 hd (fun qn cA H1 hK1 hP1 hD1 hS1 => ?_)
  have ha : ∀ k, k < g.1 → (fun k => if k = g.1 then qn else B.1 k) k = B.1 k := fun k hk => if_neg (by omega)
  have hsh : ∀ k, k < g.1 → shk (g.2.2.1 ++ [(20, n'.toNatClampNeg)]) k = shk g.2.2.1 k := fun k hk => shk_old (by rw [g5]; exact hk)
  have hsn : shk (g.2.2.1 ++ [(20, n'.toNatClampNeg)]) g.1 = (20, n'.toNatClampNeg) := shk_new g5
  have hmo : ∀ k j, k < g.1 → ((rr g.2.2.2 g.1 (fun _ => none)) k j).map (fun k => if k = g.1 then qn else B.1 k) = (g.2.2.2 k j).map B.1 := fun k j hk => by
    rw [rr_ne (by omega)]
    cases hr : g.2.2.2 k j with
    | none => rfl
    | some r => show some (if r = g.1 then qn else B.1 r) = some (B.1 r); rw [if_neg (by have := g6 k j r hr; omega)]
  have hG2 : GOK b Lx xs (fun k => if k = g.1 then qn else B.1 k, fun k => if k = g.1 then cA else B.2.1 k, B.2.2 ++ [(cA, .int)]) (gnw (20) (n'.toNatClampNeg) g) (ri I g.1 (fun _ => 0)) := by
    refine ⟨(ha 0 g4).trans g1, (hsh 0 g4).trans g2, by rw [ri_ne (Nat.ne_of_lt g4)]; exact g3, Nat.succ_pos _, by show (g.2.2.1 ++ [_]).length = g.1 + 1; rw [List.length_append, g5]; rfl, ?_, ?_, ?_, ?_, ?_⟩
    · intro k j r hr
      change rr g.2.2.2 g.1 (fun _ => none) k j = some r at hr
      by_cases hk : k = g.1
      · subst hk; rw [rr_at] at hr; cases hr
      · rw [rr_ne hk] at hr; have := g6 k j r hr; show r < g.1 + 1; omega
    · intro k hk0 hk hk2
      by_cases hkn : k = g.1
      · subst hkn
        change (shk (g.2.2.1 ++ [(20, n'.toNatClampNeg)]) g.1).2 = (clO (shk (g.2.2.1 ++ [(20, n'.toNatClampNeg)]) g.1).1).2.2
        change (shk (g.2.2.1 ++ [(20, n'.toNatClampNeg)]) g.1).1 < 13 at hk2
        rw [hsn] at hk2 ⊢
        exact absurd hk2 (by show ¬ 20 < 13; omega)
      · have hk' : k < g.1 := by have : k < g.1 + 1 := hk; omega
        change (shk (g.2.2.1 ++ [(20, n'.toNatClampNeg)]) k).2 = (clO (shk (g.2.2.1 ++ [(20, n'.toNatClampNeg)]) k).1).2.2
        change (shk (g.2.2.1 ++ [(20, n'.toNatClampNeg)]) k).1 < 13 at hk2
        rw [hsh k hk'] at hk2 ⊢
        exact g7 k hk0 hk' hk2
    · intro k hk0 hk hk2
      change (shk (g.2.2.1 ++ [(20, n'.toNatClampNeg)]) k).1 = 20 at hk2
      by_cases hkn : k = g.1
      · subst hkn
        rw [hsn] at hk2
        exact ⟨B.2.2.length, by show (B.2.2 ++ [_])[B.2.2.length]? = some (if g.1 = g.1 then cA else B.2.1 g.1, _); rw [if_pos rfl, List.getElem?_append_right (Nat.le_refl _), Nat.sub_self]; rfl⟩
      · have hk' : k < g.1 := by have : k < g.1 + 1 := hk; omega
        rw [hsh k hk'] at hk2
        obtain ⟨t, ht⟩ := g8 k hk0 hk' hk2; exact ⟨t, by show (B.2.2 ++ [_])[t]? = some (if k = g.1 then cA else B.2.1 k, _); rw [if_neg hkn, List.getElem?_append_left (List.getElem?_eq_some_iff.mp ht).1]; exact ht⟩
    · intro k hk0 hk hk2
      change (shk (g.2.2.1 ++ [(20, n'.toNatClampNeg)]) k).1 = 21 at hk2
      by_cases hkn : k = g.1
      · subst hkn
        rw [hsn] at hk2
        exact absurd hk2 (by show ¬ 20 = 21; omega)
      · have hk' : k < g.1 := by have : k < g.1 + 1 := hk; omega
        rw [hsh k hk'] at hk2
        obtain ⟨t, ht⟩ := g9 k hk0 hk' hk2; exact ⟨t, by show (B.2.2 ++ [_])[t]? = some (if k = g.1 then cA else B.2.1 k, _); rw [if_neg hkn, List.getElem?_append_left (List.getElem?_eq_some_iff.mp ht).1]; exact ht⟩
    · intro k hk0 hk hk2
      change (shk (g.2.2.1 ++ [(20, n'.toNatClampNeg)]) k).1 = 22 at hk2
      by_cases hkn : k = g.1
      · subst hkn
        rw [hsn] at hk2
        exact absurd hk2 (by show ¬ 20 = 22; omega)
      · have hk' : k < g.1 := by have : k < g.1 + 1 := hk; omega
        rw [hsh k hk'] at hk2
        obtain ⟨t, ht⟩ := g10 k hk0 hk' hk2; exact ⟨t, by show (B.2.2 ++ [_])[t]? = some (if k = g.1 then cA else B.2.1 k, _); rw [if_neg hkn, List.getElem?_append_left (List.getElem?_eq_some_iff.mp ht).1]; exact ht⟩
  have e := wld_new (B := B) (B' := (fun k => if k = g.1 then qn else B.1 k, fun k => if k = g.1 then cA else B.2.1 k, B.2.2 ++ [(cA, .int)])) (g := g) (g' := gnw 20 n'.toNatClampNeg g) (I := I) (I' := ri I g.1 (fun _ => 0)) (L := L) (L' := rl L g.1 (fun _ => 0)) g4 rfl (fun j _ hj => ha j hj) (fun j _ hj => wce_c (hsh j hj) (if_neg (by omega)) (ri_ne (by omega)) (rl_ne (by omega)) (fun x => hmo j x hj))
  rw [wce_i (g := gnw 20 n'.toNatClampNeg g) (k := g.1) (by show (shk (g.2.2.1 ++ [(20, n'.toNatClampNeg)]) g.1).1 = 20; rw [hsn])] at e
  have e7 : (shk (gnw 20 n'.toNatClampNeg g).2.2.1 g.1).2 = n'.toNatClampNeg := by show (shk (g.2.2.1 ++ [(20, n'.toNatClampNeg)]) g.1).2 = _; rw [hsn]
  have e4 : (if g.1 = g.1 then qn else B.1 g.1) = qn := if_pos rfl
  have e5 : (if g.1 = g.1 then cA else B.2.1 g.1) = cA := if_pos rfl
  dsimp only at e
  rw [e7, e4, e5, ri_at] at e
  rw [e] at hP1 hD1
  have k2 := kk (fun k => if k = g.1 then qn else B.1 k, fun k => if k = g.1 then cA else B.2.1 k, B.2.2 ++ [(cA, .int)]) H1 locs LS ⟨ha, fun h => absurd h (by show ¬ g.1 + 1 = g.1; omega)⟩ hG2 ⟨hK1, hP1, hD1, hS1⟩ (by show lv_has LS (mO mi) (cvl (fun k => if k = g.1 then qn else B.1 k) ls); rw [cvl_ok ha hq2]; exact hl)
  dsimp only at k2
  have ec : cells + ((gnw 20 n'.toNatClampNeg g).1 - g.1) = cells + 1 := by show cells + (g.1 + 1 - g.1) = _; omega
  have es : slots + ((gnw 20 n'.toNatClampNeg g).2.1 - g.2.1) = slots + n'.toNatClampNeg := by show slots + (g.2.1 + n'.toNatClampNeg - g.2.1) = _; omega
  rw [ec, es, List.map_cons] at k2
  rw [cvm_ok ha (aAll_t hq1)] at k2
  have e9 : cv (fun k => if k = g.1 then qn else B.1 k) (.ref g.1) = .ref qn := by show Value.ref (if g.1 = g.1 then qn else _) = _; rw [if_pos rfl]
  rw [e9] at k2
  exact k2
set_option maxHeartbeats 2000000 in
theorem nx_newl {p : Program} {l : Launch} {env : Env} {R : Room} {s : State} {m : MethodId} {args : Array Value} {below : List Frame} {meth : Method} {c : Code} {Q : State → Prop} {D : va_G} {b Lx Z : Nat} {xs : Nat → Int32} {mi pc len e1 e2 : Nat} {e3 : Int} {ls : Lv} {st : List Value} {g : GS} {I : Mi} {L : Ml} {B : BJ} {H : Heap} {locs : List Loc} {LS : Array Slot} {cells slots : Nat} {a2 : Nat × Lv × List Value × GS × Mi × Ml} (hC : CX p s m args meth c R mi) (hE : ENV D b Lx xs Z s s.heap) (hG : GOK b Lx xs B g I) (hM : MR1 D Z s B g I L H locs) (hl : lv_has LS (mO mi) (cvl B.1 ls)) (hcl : cells + (a2.2.2.2.1.1 - g.1) ≤ R.cells) (hsl : slots + (a2.2.2.2.1.2.1 - g.2.1) ≤ R.slots) (hall : ∀ r ∈ PT mi, rowC mi r = true) {t : ArrayType} (he1 : e1 = 21) (hrow : rowC mi (pc, .newarray t, len, e1, e2, e3) = true) (hs : stp (PT mi) pc (.newarray t) len e1 e2 e3 ls st g I L = some (.inr (.inl a2))) (kk : GoTo p l env R s m args below meth c Q D b Lx xs Z mi B g cells slots a2) : W p l env R s m args below meth c H locs cells slots Q (F0 m pc LS (st.map (cv B.1))) := by
  obtain ⟨hx, hb, hr, hml, hown, hts, hlk, hini, hex, hRf, hRl⟩ := id hC
  obtain ⟨hd, hlen⟩ := row_dec hrow
  dsimp only [stp, act] at hs
  change len = 2 at hlen
  subst hlen
  have ht : t = .long := by
    unfold rowC at hrow
    simp only [Bool.and_eq_true] at hrow
    have hrow := hrow.2
    subst he1
    exact of_decide_eq_true ((Bool.and_eq_true_iff.mp (show (Nat.beq 21 21 && decide (t = ArrayType.long)) = true from hrow)).2)
  subst ht
  subst he1
  have hs : aNwa 21 ls st g I L (fun st g I L => (some (Sum.inr (Sum.inl (pc + 2, ls, st, g, I, L))) : Option Act)) none = (some (Sum.inr (Sum.inl a2)) : Option Act) := hs
  obtain ⟨n', r, rfl, hq1, hq2, hn0, hn1, h⟩ := aNwa_i hs
  cases h
  obtain ⟨g1, g2, g3, g4, g5, g6, g7, g8, g9, g10⟩ := id hG
  obtain ⟨hK, hP, hD, hS⟩ := id hM
  obtain ⟨n1, n2, n3, n4, n5, n6, n7, n8⟩ := id hE
  have hcl2 : cells + 1 ≤ R.cells := by have h := hcl; change cells + (g.1 + 1 - g.1) ≤ R.cells at h; omega
  have hsl2 : slots + n'.toNatClampNeg ≤ R.slots := by have h := hsl; change slots + (g.2.1 + n'.toNatClampNeg - g.2.1) ≤ R.slots at h; omega
  have hsm : n'.toNatClampNeg ≤ 1000 := clamp_le hn1
  refine va_newa (atype := .long) (a0 := (n'.toNatClampNeg, .inr (.inl fun _ => 0))) (ty := .long) hx hb (hts _ arr_l) rfl hK hP hD hS (fun q hq => Nat.le_trans n8 hq) (fun _ => rfl) hn0 rfl (Nat.le_trans (Nat.mul_le_mul_right _ hsm) (by decide)) hcl2 hsl2 hd (fun qn cA H1 hK1 hP1 hD1 hS1 => ?_)
  have ha : ∀ k, k < g.1 → (fun k => if k = g.1 then qn else B.1 k) k = B.1 k := fun k hk => if_neg (by omega)
  have hsh : ∀ k, k < g.1 → shk (g.2.2.1 ++ [(21, n'.toNatClampNeg)]) k = shk g.2.2.1 k := fun k hk => shk_old (by rw [g5]; exact hk)
  have hsn : shk (g.2.2.1 ++ [(21, n'.toNatClampNeg)]) g.1 = (21, n'.toNatClampNeg) := shk_new g5
  have hmo : ∀ k j, k < g.1 → ((rr g.2.2.2 g.1 (fun _ => none)) k j).map (fun k => if k = g.1 then qn else B.1 k) = (g.2.2.2 k j).map B.1 := fun k j hk => by
    rw [rr_ne (by omega)]
    cases hr : g.2.2.2 k j with
    | none => rfl
    | some r => show some (if r = g.1 then qn else B.1 r) = some (B.1 r); rw [if_neg (by have := g6 k j r hr; omega)]
  have hG2 : GOK b Lx xs (fun k => if k = g.1 then qn else B.1 k, fun k => if k = g.1 then cA else B.2.1 k, B.2.2 ++ [(cA, .long)]) (gnw (21) (n'.toNatClampNeg) g) (ri I g.1 (fun _ => 0)) := by
    refine ⟨(ha 0 g4).trans g1, (hsh 0 g4).trans g2, by rw [ri_ne (Nat.ne_of_lt g4)]; exact g3, Nat.succ_pos _, by show (g.2.2.1 ++ [_]).length = g.1 + 1; rw [List.length_append, g5]; rfl, ?_, ?_, ?_, ?_, ?_⟩
    · intro k j r hr
      change rr g.2.2.2 g.1 (fun _ => none) k j = some r at hr
      by_cases hk : k = g.1
      · subst hk; rw [rr_at] at hr; cases hr
      · rw [rr_ne hk] at hr; have := g6 k j r hr; show r < g.1 + 1; omega
    · intro k hk0 hk hk2
      by_cases hkn : k = g.1
      · subst hkn
        change (shk (g.2.2.1 ++ [(21, n'.toNatClampNeg)]) g.1).2 = (clO (shk (g.2.2.1 ++ [(21, n'.toNatClampNeg)]) g.1).1).2.2
        change (shk (g.2.2.1 ++ [(21, n'.toNatClampNeg)]) g.1).1 < 13 at hk2
        rw [hsn] at hk2 ⊢
        exact absurd hk2 (by show ¬ 21 < 13; omega)
      · have hk' : k < g.1 := by have : k < g.1 + 1 := hk; omega
        change (shk (g.2.2.1 ++ [(21, n'.toNatClampNeg)]) k).2 = (clO (shk (g.2.2.1 ++ [(21, n'.toNatClampNeg)]) k).1).2.2
        change (shk (g.2.2.1 ++ [(21, n'.toNatClampNeg)]) k).1 < 13 at hk2
        rw [hsh k hk'] at hk2 ⊢
        exact g7 k hk0 hk' hk2
    · intro k hk0 hk hk2
      change (shk (g.2.2.1 ++ [(21, n'.toNatClampNeg)]) k).1 = 20 at hk2
      by_cases hkn : k = g.1
      · subst hkn
        rw [hsn] at hk2
        exact absurd hk2 (by show ¬ 21 = 20; omega)
      · have hk' : k < g.1 := by have : k < g.1 + 1 := hk; omega
        rw [hsh k hk'] at hk2
        obtain ⟨t, ht⟩ := g8 k hk0 hk' hk2; exact ⟨t, by show (B.2.2 ++ [_])[t]? = some (if k = g.1 then cA else B.2.1 k, _); rw [if_neg hkn, List.getElem?_append_left (List.getElem?_eq_some_iff.mp ht).1]; exact ht⟩
    · intro k hk0 hk hk2
      change (shk (g.2.2.1 ++ [(21, n'.toNatClampNeg)]) k).1 = 21 at hk2
      by_cases hkn : k = g.1
      · subst hkn
        rw [hsn] at hk2
        exact ⟨B.2.2.length, by show (B.2.2 ++ [_])[B.2.2.length]? = some (if g.1 = g.1 then cA else B.2.1 g.1, _); rw [if_pos rfl, List.getElem?_append_right (Nat.le_refl _), Nat.sub_self]; rfl⟩
      · have hk' : k < g.1 := by have : k < g.1 + 1 := hk; omega
        rw [hsh k hk'] at hk2
        obtain ⟨t, ht⟩ := g9 k hk0 hk' hk2; exact ⟨t, by show (B.2.2 ++ [_])[t]? = some (if k = g.1 then cA else B.2.1 k, _); rw [if_neg hkn, List.getElem?_append_left (List.getElem?_eq_some_iff.mp ht).1]; exact ht⟩
    · intro k hk0 hk hk2
      change (shk (g.2.2.1 ++ [(21, n'.toNatClampNeg)]) k).1 = 22 at hk2
      by_cases hkn : k = g.1
      · subst hkn
        rw [hsn] at hk2
        exact absurd hk2 (by show ¬ 21 = 22; omega)
      · have hk' : k < g.1 := by have : k < g.1 + 1 := hk; omega
        rw [hsh k hk'] at hk2
        obtain ⟨t, ht⟩ := g10 k hk0 hk' hk2; exact ⟨t, by show (B.2.2 ++ [_])[t]? = some (if k = g.1 then cA else B.2.1 k, _); rw [if_neg hkn, List.getElem?_append_left (List.getElem?_eq_some_iff.mp ht).1]; exact ht⟩
  have e := wld_new (B := B) (B' := (fun k => if k = g.1 then qn else B.1 k, fun k => if k = g.1 then cA else B.2.1 k, B.2.2 ++ [(cA, .long)])) (g := g) (g' := gnw 21 n'.toNatClampNeg g) (I := I) (I' := ri I g.1 (fun _ => 0)) (L := L) (L' := rl L g.1 (fun _ => 0)) g4 rfl (fun j _ hj => ha j hj) (fun j _ hj => wce_c (hsh j hj) (if_neg (by omega)) (ri_ne (by omega)) (rl_ne (by omega)) (fun x => hmo j x hj))
  rw [wce_l (g := gnw 21 n'.toNatClampNeg g) (k := g.1) (by show (shk (g.2.2.1 ++ [(21, n'.toNatClampNeg)]) g.1).1 = 21; rw [hsn])] at e
  have e7 : (shk (gnw 21 n'.toNatClampNeg g).2.2.1 g.1).2 = n'.toNatClampNeg := by show (shk (g.2.2.1 ++ [(21, n'.toNatClampNeg)]) g.1).2 = _; rw [hsn]
  have e4 : (if g.1 = g.1 then qn else B.1 g.1) = qn := if_pos rfl
  have e5 : (if g.1 = g.1 then cA else B.2.1 g.1) = cA := if_pos rfl
  dsimp only at e
  rw [e7, e4, e5, rl_at] at e
  rw [e] at hP1 hD1
  have k2 := kk (fun k => if k = g.1 then qn else B.1 k, fun k => if k = g.1 then cA else B.2.1 k, B.2.2 ++ [(cA, .long)]) H1 locs LS ⟨ha, fun h => absurd h (by show ¬ g.1 + 1 = g.1; omega)⟩ hG2 ⟨hK1, hP1, hD1, hS1⟩ (by show lv_has LS (mO mi) (cvl (fun k => if k = g.1 then qn else B.1 k) ls); rw [cvl_ok ha hq2]; exact hl)
  dsimp only at k2
  have ec : cells + ((gnw 21 n'.toNatClampNeg g).1 - g.1) = cells + 1 := by show cells + (g.1 + 1 - g.1) = _; omega
  have es : slots + ((gnw 21 n'.toNatClampNeg g).2.1 - g.2.1) = slots + n'.toNatClampNeg := by show slots + (g.2.1 + n'.toNatClampNeg - g.2.1) = _; omega
  rw [ec, es, List.map_cons] at k2
  rw [cvm_ok ha (aAll_t hq1)] at k2
  have e9 : cv (fun k => if k = g.1 then qn else B.1 k) (.ref g.1) = .ref qn := by show Value.ref (if g.1 = g.1 then qn else _) = _; rw [if_pos rfl]
  rw [e9] at k2
  exact k2
set_option maxHeartbeats 2000000 in
theorem nx_newq {p : Program} {l : Launch} {env : Env} {R : Room} {s : State} {m : MethodId} {args : Array Value} {below : List Frame} {meth : Method} {c : Code} {Q : State → Prop} {D : va_G} {b Lx Z : Nat} {xs : Nat → Int32} {mi pc len e1 e2 : Nat} {e3 : Int} {ls : Lv} {st : List Value} {g : GS} {I : Mi} {L : Ml} {B : BJ} {H : Heap} {locs : List Loc} {LS : Array Slot} {cells slots : Nat} {a2 : Nat × Lv × List Value × GS × Mi × Ml} (hC : CX p s m args meth c R mi) (hE : ENV D b Lx xs Z s s.heap) (hG : GOK b Lx xs B g I) (hM : MR1 D Z s B g I L H locs) (hl : lv_has LS (mO mi) (cvl B.1 ls)) (hcl : cells + (a2.2.2.2.1.1 - g.1) ≤ R.cells) (hsl : slots + (a2.2.2.2.1.2.1 - g.2.1) ≤ R.slots) (hall : ∀ r ∈ PT mi, rowC mi r = true) {n : Nat} (hrow : rowC mi (pc, .anewarray n, len, e1, e2, e3) = true) (hs : stp (PT mi) pc (.anewarray n) len e1 e2 e3 ls st g I L = some (.inr (.inl a2))) (kk : GoTo p l env R s m args below meth c Q D b Lx xs Z mi B g cells slots a2) : W p l env R s m args below meth c H locs cells slots Q (F0 m pc LS (st.map (cv B.1))) := by
  obtain ⟨hx, hb, hr, hml, hown, hts, hlk, hini, hex, hRf, hRl⟩ := id hC
  obtain ⟨hd, hlen⟩ := row_dec hrow
  dsimp only [stp, act] at hs
  change len = 3 at hlen
  subst hlen
  have hw : Cond.classLink (yO mi).cls n "StubBench$Shelf" ∈ TB := by
    unfold rowC at hrow
    simp only [Bool.and_eq_true] at hrow
    exact chW_in hrow.2
  have hs : aNwa 22 ls st g I L (fun st g I L => (some (Sum.inr (Sum.inl (pc + 3, ls, st, g, I, L))) : Option Act)) none = (some (Sum.inr (Sum.inl a2)) : Option Act) := hs
  obtain ⟨n', r, rfl, hq1, hq2, hn0, hn1, h⟩ := aNwa_i hs
  cases h
  obtain ⟨g1, g2, g3, g4, g5, g6, g7, g8, g9, g10⟩ := id hG
  obtain ⟨hK, hP, hD, hS⟩ := id hM
  obtain ⟨n1, n2, n3, n4, n5, n6, n7, n8⟩ := id hE
  have hcl2 : cells + 1 ≤ R.cells := by have h := hcl; change cells + (g.1 + 1 - g.1) ≤ R.cells at h; omega
  have hsl2 : slots + n'.toNatClampNeg ≤ R.slots := by have h := hsl; change slots + (g.2.1 + n'.toNatClampNeg - g.2.1) ≤ R.slots at h; omega
  have hsm : n'.toNatClampNeg ≤ 1000 := clamp_le hn1
  refine va_newq hx hb hown (hts _ hw) n2 hK hP hD hS (fun q hq => Nat.le_trans n8 hq) hn0 rfl (Nat.le_trans (Nat.mul_le_mul_right _ hsm) (by decide)) hcl2 hsl2 hd (fun qn cA H1 hK1 hP1 hD1 hS1 => ?_)
  have ha : ∀ k, k < g.1 → (fun k => if k = g.1 then qn else B.1 k) k = B.1 k := fun k hk => if_neg (by omega)
  have hsh : ∀ k, k < g.1 → shk (g.2.2.1 ++ [(22, n'.toNatClampNeg)]) k = shk g.2.2.1 k := fun k hk => shk_old (by rw [g5]; exact hk)
  have hsn : shk (g.2.2.1 ++ [(22, n'.toNatClampNeg)]) g.1 = (22, n'.toNatClampNeg) := shk_new g5
  have hmo : ∀ k j, k < g.1 → ((rr g.2.2.2 g.1 (fun _ => none)) k j).map (fun k => if k = g.1 then qn else B.1 k) = (g.2.2.2 k j).map B.1 := fun k j hk => by
    rw [rr_ne (by omega)]
    cases hr : g.2.2.2 k j with
    | none => rfl
    | some r => show some (if r = g.1 then qn else B.1 r) = some (B.1 r); rw [if_neg (by have := g6 k j r hr; omega)]
  have hG2 : GOK b Lx xs (fun k => if k = g.1 then qn else B.1 k, fun k => if k = g.1 then cA else B.2.1 k, B.2.2 ++ [(cA, .object "StubBench$Shelf")]) (gnw (22) (n'.toNatClampNeg) g) (ri I g.1 (fun _ => 0)) := by
    refine ⟨(ha 0 g4).trans g1, (hsh 0 g4).trans g2, by rw [ri_ne (Nat.ne_of_lt g4)]; exact g3, Nat.succ_pos _, by show (g.2.2.1 ++ [_]).length = g.1 + 1; rw [List.length_append, g5]; rfl, ?_, ?_, ?_, ?_, ?_⟩
    · intro k j r hr
      change rr g.2.2.2 g.1 (fun _ => none) k j = some r at hr
      by_cases hk : k = g.1
      · subst hk; rw [rr_at] at hr; cases hr
      · rw [rr_ne hk] at hr; have := g6 k j r hr; show r < g.1 + 1; omega
    · intro k hk0 hk hk2
      by_cases hkn : k = g.1
      · subst hkn
        change (shk (g.2.2.1 ++ [(22, n'.toNatClampNeg)]) g.1).2 = (clO (shk (g.2.2.1 ++ [(22, n'.toNatClampNeg)]) g.1).1).2.2
        change (shk (g.2.2.1 ++ [(22, n'.toNatClampNeg)]) g.1).1 < 13 at hk2
        rw [hsn] at hk2 ⊢
        exact absurd hk2 (by show ¬ 22 < 13; omega)
      · have hk' : k < g.1 := by have : k < g.1 + 1 := hk; omega
        change (shk (g.2.2.1 ++ [(22, n'.toNatClampNeg)]) k).2 = (clO (shk (g.2.2.1 ++ [(22, n'.toNatClampNeg)]) k).1).2.2
        change (shk (g.2.2.1 ++ [(22, n'.toNatClampNeg)]) k).1 < 13 at hk2
        rw [hsh k hk'] at hk2 ⊢
        exact g7 k hk0 hk' hk2
    · intro k hk0 hk hk2
      change (shk (g.2.2.1 ++ [(22, n'.toNatClampNeg)]) k).1 = 20 at hk2
      by_cases hkn : k = g.1
      · subst hkn
        rw [hsn] at hk2
        exact absurd hk2 (by show ¬ 22 = 20; omega)
      · have hk' : k < g.1 := by have : k < g.1 + 1 := hk; omega
        rw [hsh k hk'] at hk2
        obtain ⟨t, ht⟩ := g8 k hk0 hk' hk2; exact ⟨t, by show (B.2.2 ++ [_])[t]? = some (if k = g.1 then cA else B.2.1 k, _); rw [if_neg hkn, List.getElem?_append_left (List.getElem?_eq_some_iff.mp ht).1]; exact ht⟩
    · intro k hk0 hk hk2
      change (shk (g.2.2.1 ++ [(22, n'.toNatClampNeg)]) k).1 = 21 at hk2
      by_cases hkn : k = g.1
      · subst hkn
        rw [hsn] at hk2
        exact absurd hk2 (by show ¬ 22 = 21; omega)
      · have hk' : k < g.1 := by have : k < g.1 + 1 := hk; omega
        rw [hsh k hk'] at hk2
        obtain ⟨t, ht⟩ := g9 k hk0 hk' hk2; exact ⟨t, by show (B.2.2 ++ [_])[t]? = some (if k = g.1 then cA else B.2.1 k, _); rw [if_neg hkn, List.getElem?_append_left (List.getElem?_eq_some_iff.mp ht).1]; exact ht⟩
    · intro k hk0 hk hk2
      change (shk (g.2.2.1 ++ [(22, n'.toNatClampNeg)]) k).1 = 22 at hk2
      by_cases hkn : k = g.1
      · subst hkn
        rw [hsn] at hk2
        exact ⟨B.2.2.length, by show (B.2.2 ++ [_])[B.2.2.length]? = some (if g.1 = g.1 then cA else B.2.1 g.1, _); rw [if_pos rfl, List.getElem?_append_right (Nat.le_refl _), Nat.sub_self]; rfl⟩
      · have hk' : k < g.1 := by have : k < g.1 + 1 := hk; omega
        rw [hsh k hk'] at hk2
        obtain ⟨t, ht⟩ := g10 k hk0 hk' hk2; exact ⟨t, by show (B.2.2 ++ [_])[t]? = some (if k = g.1 then cA else B.2.1 k, _); rw [if_neg hkn, List.getElem?_append_left (List.getElem?_eq_some_iff.mp ht).1]; exact ht⟩
  have e := wld_new (B := B) (B' := (fun k => if k = g.1 then qn else B.1 k, fun k => if k = g.1 then cA else B.2.1 k, B.2.2 ++ [(cA, .object "StubBench$Shelf")])) (g := g) (g' := gnw 22 n'.toNatClampNeg g) (I := I) (I' := ri I g.1 (fun _ => 0)) (L := L) (L' := rl L g.1 (fun _ => 0)) g4 rfl (fun j _ hj => ha j hj) (fun j _ hj => wce_c (hsh j hj) (if_neg (by omega)) (ri_ne (by omega)) (rl_ne (by omega)) (fun x => hmo j x hj))
  rw [wce_r (g := gnw 22 n'.toNatClampNeg g) (k := g.1) (by show (shk (g.2.2.1 ++ [(22, n'.toNatClampNeg)]) g.1).1 = 22; rw [hsn])] at e
  have e7 : (shk (gnw 22 n'.toNatClampNeg g).2.2.1 g.1).2 = n'.toNatClampNeg := by show (shk (g.2.2.1 ++ [(22, n'.toNatClampNeg)]) g.1).2 = _; rw [hsn]
  have e4 : (if g.1 = g.1 then qn else B.1 g.1) = qn := if_pos rfl
  have e5 : (if g.1 = g.1 then cA else B.2.1 g.1) = cA := if_pos rfl
  have e6 : (fun j => ((gnw 22 n'.toNatClampNeg g).2.2.2 g.1 j).map (fun k => if k = g.1 then qn else B.1 k)) = fun _ => none := by funext j; show ((rr g.2.2.2 g.1 (fun _ => none)) g.1 j).map _ = none; rw [rr_at]; rfl
  dsimp only at e
  rw [e7, e4, e5] at e
  rw [e6] at e
  rw [e] at hP1 hD1
  have k2 := kk (fun k => if k = g.1 then qn else B.1 k, fun k => if k = g.1 then cA else B.2.1 k, B.2.2 ++ [(cA, .object "StubBench$Shelf")]) H1 locs LS ⟨ha, fun h => absurd h (by show ¬ g.1 + 1 = g.1; omega)⟩ hG2 ⟨hK1, hP1, hD1, hS1⟩ (by show lv_has LS (mO mi) (cvl (fun k => if k = g.1 then qn else B.1 k) ls); rw [cvl_ok ha hq2]; exact hl)
  dsimp only at k2
  have ec : cells + ((gnw 22 n'.toNatClampNeg g).1 - g.1) = cells + 1 := by show cells + (g.1 + 1 - g.1) = _; omega
  have es : slots + ((gnw 22 n'.toNatClampNeg g).2.1 - g.2.1) = slots + n'.toNatClampNeg := by show slots + (g.2.1 + n'.toNatClampNeg - g.2.1) = _; omega
  rw [ec, es, List.map_cons] at k2
  rw [cvm_ok ha (aAll_t hq1)] at k2
  have e9 : cv (fun k => if k = g.1 then qn else B.1 k) (.ref g.1) = .ref qn := by show Value.ref (if g.1 = g.1 then qn else _) = _; rw [if_pos rfl]
  rw [e9] at k2
  exact k2
