/-! Switches; then every instruction that goes on within its method. -/
theorem i32_of {z : Int} (h1 : -1000 ≤ z) (h2 : z ≤ 1000) : (Int32.ofInt z).toInt = z := Int32.toInt_ofInt_of_le (by omega) (by omega)
theorem i32_eq {x : Int32} {z : Int} (h1 : -1000 ≤ z) (h2 : z ≤ 1000) : x = Int32.ofInt z ↔ x.toInt = z :=
  ⟨fun h => by rw [h]; exact i32_of h1 h2, fun h => Int32.toInt_inj.mp (by rw [h]; exact (i32_of h1 h2).symm)⟩
theorem swt_eq {A : Type} {x : Int32} (K : Int → Option A) (d : Option A) : ∀ (offs : List Int) (i : Int), -1000 ≤ i → i + offs.length ≤ 1001 → (swt x offs i K d = d ∧ (x.toInt < i ∨ i + offs.length ≤ x.toInt)) ∨ (∃ (j : Nat) (o : Int), offs[j]? = some o ∧ x.toInt = i + j ∧ swt x offs i K d = K o) := by
  intro offs
  induction offs with
  | nil =>
    intro i h1 h2
    refine Or.inl ⟨rfl, ?_⟩
    show x.toInt < i ∨ i + ((0 : Nat) : Int) ≤ x.toInt
    omega
  | cons o l ih =>
    intro i h1 h2
    have hl : ((o :: l).length : Int) = l.length + 1 := by rw [List.length_cons]; rfl
    rw [hl] at h2 ⊢
    change ((if x = Int32.ofInt i then K o else swt x l (i + 1) K d) = d ∧ _) ∨ (∃ (j : Nat) (o' : Int), (o :: l)[j]? = some o' ∧ x.toInt = i + j ∧ (if x = Int32.ofInt i then K o else swt x l (i + 1) K d) = K o')
    by_cases hx : x = Int32.ofInt i
    · refine Or.inr ⟨0, o, rfl, ?_, if_pos hx⟩
      rw [(i32_eq h1 (by omega)).mp hx]
      omega
    · rw [if_neg hx]
      have hx2 : ¬ x.toInt = i := fun h => hx ((i32_eq h1 (by omega)).mpr h)
      rcases ih (i + 1) (by omega) (by omega) with ⟨e, h⟩ | ⟨j, o', e1, e2, e3⟩
      · refine Or.inl ⟨e, ?_⟩
        omega
      · refine Or.inr ⟨j + 1, o', e1, ?_, e3⟩
        rw [e2]
        omega
theorem swl_eq {A : Type} {x : Int32} (K : Int → Option A) (dflt : Int) : ∀ (ps : List (Int × Int)), (∀ q ∈ ps, -1000 ≤ q.1 ∧ q.1 ≤ 1000) → swl x ps K (K dflt) = K (Op.lookupswitch.offset ps dflt x.toInt) ∧ (Op.lookupswitch.offset ps dflt x.toInt = dflt ∨ ∃ q ∈ ps, Op.lookupswitch.offset ps dflt x.toInt = q.2) := by
  intro ps
  induction ps with
  | nil => intro _; exact ⟨rfl, Or.inl rfl⟩
  | cons q l ih =>
    intro h
    obtain ⟨h1, h2⟩ := h q List.mem_cons_self
    obtain ⟨i1, i2⟩ := ih (fun z hz => h z (List.mem_cons_of_mem _ hz))
    obtain ⟨qa, qo⟩ := q
    change (if x = Int32.ofInt qa then K qo else swl x l K (K dflt)) = _ ∧ _
    rw [Op.lookupswitch.offset_cons]
    by_cases hx : x = Int32.ofInt qa
    · have hx2 := (i32_eq h1 h2).mp hx
      rw [if_pos hx]
      first | rw [if_pos hx2] | rw [if_pos hx2.symm]
      exact ⟨rfl, Or.inr ⟨_, List.mem_cons_self, rfl⟩⟩
    · have hx2 : ¬ x.toInt = qa := fun z => hx ((i32_eq h1 h2).mpr z)
      rw [if_neg hx]
      first | rw [if_neg hx2] | rw [if_neg (fun z => hx2 z.symm)]
      refine ⟨i1, i2.elim Or.inl (fun ⟨z, hz, e⟩ => Or.inr ⟨z, List.mem_cons_of_mem _ hz, e⟩)⟩
set_option maxHeartbeats 2000000 in
theorem nx_tsw {p : Program} {l : Launch} {env : Env} {R : Room} {s : State} {m : MethodId} {args : Array Value} {below : List Frame} {meth : Method} {c : Code} {Q : State → Prop} {D : va_G} {b Lx Z : Nat} {xs : Nat → Int32} {mi pc len e1 e2 : Nat} {e3 : Int} {ls : Lv} {st : List Value} {g : GS} {I : Mi} {L : Ml} {B : BJ} {H : Heap} {locs : List Loc} {LS : Array Slot} {cells slots : Nat} {a2 : Nat × Lv × List Value × GS × Mi × Ml} (hC : CX p s m args meth c R mi) (hE : ENV D b Lx xs Z s s.heap) (hG : GOK b Lx xs B g I) (hM : MR1 D Z s B g I L H locs) (hl : lv_has LS (mO mi) (cvl B.1 ls)) (hcl : cells + (a2.2.2.2.1.1 - g.1) ≤ R.cells) (hsl : slots + (a2.2.2.2.1.2.1 - g.2.1) ≤ R.slots) (hall : ∀ r ∈ PT mi, rowC mi r = true) {d lo hi : Int} {offs : Array Int} (hrow : rowC mi (pc, .tableswitch d lo hi offs, len, e1, e2, e3) = true) (hs : stp (PT mi) pc (.tableswitch d lo hi offs) len e1 e2 e3 ls st g I L = some (.inr (.inl a2))) (kk : GoTo p l env R s m args below meth c Q D b Lx xs Z mi B g cells slots a2) : W p l env R s m args below meth c H locs cells slots Q (F0 m pc LS (st.map (cv B.1))) := by
  obtain ⟨hx, hb, hr, hml, hown, hts, hlk, hini, hex, hRf, hRl⟩ := id hC
  obtain ⟨hd, hlen⟩ := row_dec hrow
  dsimp only [stp, act] at hs
  obtain ⟨x, r, rfl, h⟩ := aTsw_i hs
  unfold rowC at hrow
  simp only [Bool.and_eq_true] at hrow
  obtain ⟨⟨⟨⟨r1, r2⟩, r3⟩, r4⟩, r5⟩ := hrow.2
  have r1 := of_decide_eq_true r1
  have r3 := of_decide_eq_true r3
  have r4 := of_decide_eq_true r4
  have r5 := of_decide_eq_true r5
  have hsz : (offs.toList.length : Int) = hi - lo + 1 := by rw [Array.length_toList]; exact r5
  rcases swt_eq (x := x) (fun o => some (Sum.inr (Sum.inl (((pc : Int) + o).toNat, ls, r, g, I, L)) : Act)) (some (Sum.inr (Sum.inl (((pc : Int) + d).toNat, ls, r, g, I, L)))) offs.toList lo r3 (by omega) with ⟨e, hn⟩ | ⟨j, o, e1, e2, e3⟩
  · rw [e] at h
    cases h
    exact lv_tableOut hx hb hd (by omega) (Int.toNat_of_nonneg r1).symm (kk.s hG hM hl)
  · rw [e3] at h
    cases h
    have hj : j < offs.toList.length := (List.getElem?_eq_some_iff.mp e1).1
    have ho : 0 ≤ (pc : Int) + o := of_decide_eq_true (List.all_eq_true.mp r2 o (List.mem_of_getElem? e1))
    refine lv_tableIn (off := o) hx hb hd (by omega) (by omega) ?_ (Int.toNat_of_nonneg ho).symm (kk.s hG hM hl)
    have ej : (x.toInt - lo).toNat = j := by omega
    rw [ej, ← Array.getElem?_toList]
    exact e1
set_option maxHeartbeats 2000000 in
theorem nx_lsw {p : Program} {l : Launch} {env : Env} {R : Room} {s : State} {m : MethodId} {args : Array Value} {below : List Frame} {meth : Method} {c : Code} {Q : State → Prop} {D : va_G} {b Lx Z : Nat} {xs : Nat → Int32} {mi pc len e1 e2 : Nat} {e3 : Int} {ls : Lv} {st : List Value} {g : GS} {I : Mi} {L : Ml} {B : BJ} {H : Heap} {locs : List Loc} {LS : Array Slot} {cells slots : Nat} {a2 : Nat × Lv × List Value × GS × Mi × Ml} (hC : CX p s m args meth c R mi) (hE : ENV D b Lx xs Z s s.heap) (hG : GOK b Lx xs B g I) (hM : MR1 D Z s B g I L H locs) (hl : lv_has LS (mO mi) (cvl B.1 ls)) (hcl : cells + (a2.2.2.2.1.1 - g.1) ≤ R.cells) (hsl : slots + (a2.2.2.2.1.2.1 - g.2.1) ≤ R.slots) (hall : ∀ r ∈ PT mi, rowC mi r = true) {d : Int} {ps : Array (Int × Int)} (hrow : rowC mi (pc, .lookupswitch d ps, len, e1, e2, e3) = true) (hs : stp (PT mi) pc (.lookupswitch d ps) len e1 e2 e3 ls st g I L = some (.inr (.inl a2))) (kk : GoTo p l env R s m args below meth c Q D b Lx xs Z mi B g cells slots a2) : W p l env R s m args below meth c H locs cells slots Q (F0 m pc LS (st.map (cv B.1))) := by
  obtain ⟨hx, hb, hr, hml, hown, hts, hlk, hini, hex, hRf, hRl⟩ := id hC
  obtain ⟨hd, hlen⟩ := row_dec hrow
  dsimp only [stp, act] at hs
  obtain ⟨x, r, rfl, h⟩ := aLsw_i hs
  unfold rowC at hrow
  simp only [Bool.and_eq_true] at hrow
  obtain ⟨⟨r1, r2⟩, r3⟩ := hrow.2
  have r1 := of_decide_eq_true r1
  have hq : ∀ q ∈ ps.toList, 0 ≤ (pc : Int) + q.2 ∧ -1000 ≤ q.1 ∧ q.1 ≤ 1000 := fun q hq => by
    have := List.all_eq_true.mp r2 q hq
    simp only [Bool.and_eq_true] at this
    exact ⟨of_decide_eq_true this.1.1, of_decide_eq_true this.1.2, of_decide_eq_true this.2⟩
  obtain ⟨e1, e2⟩ := swl_eq (x := x) (fun o => some (Sum.inr (Sum.inl (((pc : Int) + o).toNat, ls, r, g, I, L)) : Act)) d ps.toList (fun q h => (hq q h).2)
  rw [e1] at h
  cases h
  have ho : 0 ≤ (pc : Int) + Op.lookupswitch.offset ps.toList d x.toInt := by
    rcases e2 with e2 | ⟨q, h1, e2⟩
    · rw [e2]; exact r1
    · rw [e2]; exact (hq q h1).1
  refine lv_lookup hx hb hd ?_ rfl (Int.toNat_of_nonneg ho).symm (kk.s hG hM hl)
  simpa using r3
set_option maxHeartbeats 8000000 in
theorem nxt_ok {p : Program} {l : Launch} {env : Env} {R : Room} {s : State} {m : MethodId} {args : Array Value} {below : List Frame} {meth : Method} {c : Code} {Q : State → Prop} {D : va_G} {b Lx Z : Nat} {xs : Nat → Int32} {mi pc len e1 e2 : Nat} {e3 : Int} {ls : Lv} {st : List Value} {g : GS} {I : Mi} {L : Ml} {B : BJ} {H : Heap} {locs : List Loc} {LS : Array Slot} {cells slots : Nat} {a2 : Nat × Lv × List Value × GS × Mi × Ml} (hC : CX p s m args meth c R mi) (hE : ENV D b Lx xs Z s s.heap) (hG : GOK b Lx xs B g I) (hM : MR1 D Z s B g I L H locs) (hl : lv_has LS (mO mi) (cvl B.1 ls)) (hcl : cells + (a2.2.2.2.1.1 - g.1) ≤ R.cells) (hsl : slots + (a2.2.2.2.1.2.1 - g.2.1) ≤ R.slots) (hall : ∀ r ∈ PT mi, rowC mi r = true) {ins : Instr} (hrow : rowC mi (pc, ins, len, e1, e2, e3) = true) (hs : stp (PT mi) pc ins len e1 e2 e3 ls st g I L = some (.inr (.inl a2))) (kk : GoTo p l env R s m args below meth c Q D b Lx xs Z mi B g cells slots a2) : W p l env R s m args below meth c H locs cells slots Q (F0 m pc LS (st.map (cv B.1))) := by
  cases ins
  case new =>
    have he1 : e1 < 13 := by
      have h := hs
      change cond (Nat.ble 101 e1) (aRtV st _ none) (aNew e1 e2 ls st g I L _ none) = _ at h
      cases hc : Nat.ble 101 e1 with
      | true => rw [hc] at h; obtain ⟨-, h⟩ := aRtV_i h; cases h
      | false => rw [hc] at h; simp only [cond_false] at h; exact (aNew_i h).1
    exact nx_new hC hE hG hM hl hcl hsl hall he1 hrow hs kk
  case newarray =>
    have he1 : e1 = 20 ∨ e1 = 21 := by
      have h := hrow
      unfold rowC at h
      simp only [Bool.and_eq_true] at h
      have h := h.2
      cases hc : Nat.beq e1 20 with
      | true => exact Or.inl (Nat.eq_of_beq_eq_true hc)
      | false =>
        rw [hc] at h
        simp only [cond_false, Bool.and_eq_true] at h
        exact Or.inr (Nat.eq_of_beq_eq_true h.1)
    rcases he1 with he1 | he1
    · exact nx_newi hC hE hG hM hl hcl hsl hall he1 hrow hs kk
    · exact nx_newl hC hE hG hM hl hcl hsl hall he1 hrow hs kk
  case invokevirtual =>
    dsimp only [stp, act] at hs
    obtain ⟨-, -, -, -, h⟩ := aCal_i hs
    obtain ⟨-, h⟩ := cond_i h
    cases h
  case invokestatic =>
    have h : cond (Nat.beq e1 1001) (aCpy st g I _ none) (aCal e1 (e2 % 1024) (e2 / 1024) st (fun a r => (some (Sum.inr (Sum.inr (e1, 0, a, r))) : Option Act)) none) = _ := hs
    cases hc : Nat.beq e1 1001 with
    | true => exact nx_cpy hC hE hG hM hl hcl hsl hall (Nat.eq_of_beq_eq_true hc) hrow hs kk
    | false =>
      rw [hc] at h
      simp only [cond_false] at h
      obtain ⟨-, -, -, -, h⟩ := aCal_i h
      cases h
  case invokespecial =>
    have h : cond (Nat.beq e1 1000) (aOin st _ none) (aCal e1 (e2 / 32 % 32 + 1) (e2 / 1024) st (fun a r => cond (rcv g (e2 % 32) a && aAll g.1 r && aAll g.1 (ls.map Prod.snd)) (some (Sum.inr (Sum.inr (e1, 1, a, r))) : Option Act) none) none) = _ := hs
    cases hc : Nat.beq e1 1000 with
    | true => exact nx_oin hC hE hG hM hl hcl hsl hall (Nat.eq_of_beq_eq_true hc) hrow hs kk
    | false =>
      rw [hc] at h
      simp only [cond_false] at h
      obtain ⟨-, -, -, -, h⟩ := aCal_i h
      obtain ⟨-, h⟩ := cond_i h
      cases h
  case ireturn =>
    dsimp only [stp, act] at hs
    obtain ⟨x, -, -, h⟩ := aRtI_i hs
    cases h
  case lreturn =>
    dsimp only [stp, act] at hs
    obtain ⟨x, -, h⟩ := aRtL_i hs
    cases h
  case return_ =>
    dsimp only [stp, act] at hs
    obtain ⟨-, h⟩ := aRtV_i hs
    cases h
  case iload_n => exact nx_iload_n hC hE hG hM hl hcl hsl hall hrow hs kk
  case lload_n => exact nx_lload_n hC hE hG hM hl hcl hsl hall hrow hs kk
  case aload_n => exact nx_aload_n hC hE hG hM hl hcl hsl hall hrow hs kk
  case iload => exact nx_iload hC hE hG hM hl hcl hsl hall hrow hs kk
  case lload => exact nx_lload hC hE hG hM hl hcl hsl hall hrow hs kk
  case aload => exact nx_aload hC hE hG hM hl hcl hsl hall hrow hs kk
  case istore_n => exact nx_istore_n hC hE hG hM hl hcl hsl hall hrow hs kk
  case lstore_n => exact nx_lstore_n hC hE hG hM hl hcl hsl hall hrow hs kk
  case astore_n => exact nx_astore_n hC hE hG hM hl hcl hsl hall hrow hs kk
  case istore => exact nx_istore hC hE hG hM hl hcl hsl hall hrow hs kk
  case lstore => exact nx_lstore hC hE hG hM hl hcl hsl hall hrow hs kk
  case astore => exact nx_astore hC hE hG hM hl hcl hsl hall hrow hs kk
  case iinc => exact nx_iinc hC hE hG hM hl hcl hsl hall hrow hs kk
  case iconst => exact nx_iconst hC hE hG hM hl hcl hsl hall hrow hs kk
  case lconst => exact nx_lconst hC hE hG hM hl hcl hsl hall hrow hs kk
  case bipush => exact nx_bipush hC hE hG hM hl hcl hsl hall hrow hs kk
  case sipush => exact nx_sipush hC hE hG hM hl hcl hsl hall hrow hs kk
  case ldc2_w => exact nx_ldc2 hC hE hG hM hl hcl hsl hall hrow hs kk
  case iadd => exact nx_iadd hC hE hG hM hl hcl hsl hall hrow hs kk
  case isub => exact nx_isub hC hE hG hM hl hcl hsl hall hrow hs kk
  case imul => exact nx_imul hC hE hG hM hl hcl hsl hall hrow hs kk
  case idiv => exact nx_idiv hC hE hG hM hl hcl hsl hall hrow hs kk
  case irem => exact nx_irem hC hE hG hM hl hcl hsl hall hrow hs kk
  case ineg => exact nx_ineg hC hE hG hM hl hcl hsl hall hrow hs kk
  case ishl => exact nx_ishl hC hE hG hM hl hcl hsl hall hrow hs kk
  case ishr => exact nx_ishr hC hE hG hM hl hcl hsl hall hrow hs kk
  case iand => exact nx_iand hC hE hG hM hl hcl hsl hall hrow hs kk
  case ior => exact nx_ior hC hE hG hM hl hcl hsl hall hrow hs kk
  case ladd => exact nx_ladd hC hE hG hM hl hcl hsl hall hrow hs kk
  case lsub => exact nx_lsub hC hE hG hM hl hcl hsl hall hrow hs kk
  case lmul => exact nx_lmul hC hE hG hM hl hcl hsl hall hrow hs kk
  case ldiv => exact nx_ldiv hC hE hG hM hl hcl hsl hall hrow hs kk
  case lrem => exact nx_lrem hC hE hG hM hl hcl hsl hall hrow hs kk
  case lneg => exact nx_lneg hC hE hG hM hl hcl hsl hall hrow hs kk
  case land => exact nx_land hC hE hG hM hl hcl hsl hall hrow hs kk
  case lxor => exact nx_lxor hC hE hG hM hl hcl hsl hall hrow hs kk
  case lshl => exact nx_lshl hC hE hG hM hl hcl hsl hall hrow hs kk
  case lshr => exact nx_lshr hC hE hG hM hl hcl hsl hall hrow hs kk
  case i2l => exact nx_i2l hC hE hG hM hl hcl hsl hall hrow hs kk
  case l2i => exact nx_l2i hC hE hG hM hl hcl hsl hall hrow hs kk
  case dup => exact nx_dup hC hE hG hM hl hcl hsl hall hrow hs kk
  case pop => exact nx_pop hC hE hG hM hl hcl hsl hall hrow hs kk
  case dup2 => exact nx_dup2 hC hE hG hM hl hcl hsl hall hrow hs kk
  case getfield => exact nx_getfield hC hE hG hM hl hcl hsl hall hrow hs kk
  case putfield => exact nx_putfield hC hE hG hM hl hcl hsl hall hrow hs kk
  case arraylength => exact nx_alen hC hE hG hM hl hcl hsl hall hrow hs kk
  case iaload => exact nx_iald hC hE hG hM hl hcl hsl hall hrow hs kk
  case laload => exact nx_lald hC hE hG hM hl hcl hsl hall hrow hs kk
  case aaload => exact nx_aald hC hE hG hM hl hcl hsl hall hrow hs kk
  case iastore => exact nx_iast hC hE hG hM hl hcl hsl hall hrow hs kk
  case lastore => exact nx_last hC hE hG hM hl hcl hsl hall hrow hs kk
  case aastore => exact nx_aast hC hE hG hM hl hcl hsl hall hrow hs kk
  case goto => exact nx_goto hC hE hG hM hl hcl hsl hall hrow hs kk
  case if_icmp => exact nx_icmp hC hE hG hM hl hcl hsl hall hrow hs kk
  case ifCond => exact nx_ifc hC hE hG hM hl hcl hsl hall hrow hs kk
  case lcmp => exact nx_lcmp hC hE hG hM hl hcl hsl hall hrow hs kk
  case tableswitch => exact nx_tsw hC hE hG hM hl hcl hsl hall hrow hs kk
  case lookupswitch => exact nx_lsw hC hE hG hM hl hcl hsl hall hrow hs kk
  case anewarray => exact nx_newq hC hE hG hM hl hcl hsl hall hrow hs kk
  all_goals (dsimp only [stp, act] at hs; cases hs)

