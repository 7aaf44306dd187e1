/-! One instruction, in the plain state and on the machine. -/
def CX (p : Program) (s : State) (m : MethodId) (args : Array Value) (meth : Method) (c : Code) (R : Room) (mi : Nat) : Prop :=
  p.tables.exec = Jvm.exec ∧ c.code = cO mi ∧ meth.sig.returnType = tO mi ∧ c.maxLocals = mO mi ∧ s.vm.findClass (yO mi).cls = some m.cls ∧ (∀ w ∈ TB, w.before args s = true) ∧ meth.locks = false ∧ (kO mi = 2 → meth.name = "<init>") ∧ (mi ≠ 420 → c.exceptionTable.toList = tableOf (hO mi)) ∧ fO mi ≤ R.frames ∧ lO mi ≤ R.locals
def ENV (D : va_G) (b Lx : Nat) (xs : Nat → Int32) (Z : Nat) (U : State) (H : Heap) : Prop :=
  (∀ w ∈ lw_tbl, nwW w = true → va_Nw w U) ∧ va_AO "StubBench$Shelf" U ∧ (∀ x y : Nat, 101 ≤ x → x ≤ 104 → 101 ≤ y → y ≤ 104 → x ≠ y → va_Nc (exN x) (exN y) U) ∧
  vx_Zq Bundle.tN "UNASSIGNED_STACK" Bundle.steD (fun q => Z ≤ q) U H ∧ vx_Zq Bundle.tN "SUPPRESSED_SENTINEL" Bundle.listD (fun q => Z ≤ q) U H ∧ va_X b Lx xs U H ∧ b < Z ∧ Z ≤ H.size
def GOK (b Lx : Nat) (xs : Nat → Int32) (B : BJ) (g : GS) (I : Mi) : Prop :=
  B.1 0 = b ∧ shk g.2.2.1 0 = (20, Lx) ∧ I 0 = xs ∧ 0 < g.1 ∧ g.2.2.1.length = g.1 ∧ (∀ k j r : Nat, g.2.2.2 k j = some r → r < g.1) ∧
  (∀ k, 0 < k → k < g.1 → (shk g.2.2.1 k).1 < 13 → (shk g.2.2.1 k).2 = (clO (shk g.2.2.1 k).1).2.2) ∧
  (∀ k, 0 < k → k < g.1 → (shk g.2.2.1 k).1 = 20 → ∃ t : Nat, B.2.2[t]? = some (B.2.1 k, .int)) ∧ (∀ k, 0 < k → k < g.1 → (shk g.2.2.1 k).1 = 21 → ∃ t : Nat, B.2.2[t]? = some (B.2.1 k, .long)) ∧ (∀ k, 0 < k → k < g.1 → (shk g.2.2.1 k).1 = 22 → ∃ t : Nat, B.2.2[t]? = some (B.2.1 k, .object "StubBench$Shelf"))
def MR1 (D : va_G) (Z : Nat) (s : State) (B : BJ) (g : GS) (I : Mi) (L : Ml) (H : Heap) (locs : List Loc) : Prop :=
  va_K D vwCl B.2.2 s ∧ va_P D vwCl (wld B g I L) H ∧ va_D (fun q => Z ≤ q) (wld B g I L) ∧ va_S (fun q => Z ≤ q) s.heap H locs
def BX (B B2 : BJ) (g g2 : GS) : Prop := (∀ k, k < g.1 → B2.1 k = B.1 k) ∧ (g2.1 = g.1 → B2 = B)
def GoTo (p : Program) (l : Launch) (env : Env) (R : Room) (s : State) (m : MethodId) (args : Array Value) (below : List Frame) (meth : Method) (c : Code) (Q : State → Prop) (D : va_G) (b Lx : Nat) (xs : Nat → Int32) (Z mi : Nat) (B : BJ) (g : GS) (cells slots : Nat) (a2 : Nat × Lv × List Value × GS × Mi × Ml) : Prop :=
  ∀ (B2 : BJ) (H2 : Heap) (locs2 : List Loc) (LS2 : Array Slot), BX B B2 g a2.2.2.2.1 → GOK b Lx xs B2 a2.2.2.2.1 a2.2.2.2.2.1 → MR1 D Z s B2 a2.2.2.2.1 a2.2.2.2.2.1 a2.2.2.2.2.2 H2 locs2 → lv_has LS2 (mO mi) (cvl B2.1 a2.2.1) →
    W p l env R s m args below meth c H2 locs2 (cells + (a2.2.2.2.1.1 - g.1)) (slots + (a2.2.2.2.1.2.1 - g.2.1)) Q (F0 m a2.1 LS2 (a2.2.2.1.map (cv B2.1)))
theorem GoTo.s {p : Program} {l : Launch} {env : Env} {R : Room} {s : State} {m : MethodId} {args : Array Value} {below : List Frame} {meth : Method} {c : Code} {Q : State → Prop} {D : va_G} {b Lx Z : Nat} {xs : Nat → Int32} {mi : Nat} {g : GS} {I : Mi} {L : Ml} {B : BJ} {H : Heap} {locs : List Loc} {LS2 : Array Slot} {cells slots pc2 : Nat} {ls2 : Lv} {st2 : List Value}
    (kk : GoTo p l env R s m args below meth c Q D b Lx xs Z mi B g cells slots (pc2, ls2, st2, g, I, L)) (hG : GOK b Lx xs B g I) (hM : MR1 D Z s B g I L H locs) (hl2 : lv_has LS2 (mO mi) (cvl B.1 ls2)) : W p l env R s m args below meth c H locs cells slots Q (F0 m pc2 LS2 (st2.map (cv B.1))) := by
  have h := kk B H locs LS2 ⟨fun _ _ => rfl, fun _ => rfl⟩ hG hM hl2
  dsimp only at h
  rw [Nat.sub_self, Nat.sub_self, Nat.add_zero, Nat.add_zero] at h
  exact h
theorem GoTo.m {p : Program} {l : Launch} {env : Env} {R : Room} {s : State} {m : MethodId} {args : Array Value} {below : List Frame} {meth : Method} {c : Code} {Q : State → Prop} {D : va_G} {b Lx Z : Nat} {xs : Nat → Int32} {mi : Nat} {g g2 : GS} {I2 : Mi} {L2 : Ml} {B : BJ} {H : Heap} {locs : List Loc} {LS2 : Array Slot} {cells slots pc2 : Nat} {ls2 : Lv} {st2 : List Value}
    (kk : GoTo p l env R s m args below meth c Q D b Lx xs Z mi B g cells slots (pc2, ls2, st2, g2, I2, L2)) (h1 : g2.1 = g.1) (h2 : g2.2.1 = g.2.1) (hG : GOK b Lx xs B g2 I2) (hM : MR1 D Z s B g2 I2 L2 H locs) (hl2 : lv_has LS2 (mO mi) (cvl B.1 ls2)) : W p l env R s m args below meth c H locs cells slots Q (F0 m pc2 LS2 (st2.map (cv B.1))) := by
  have h := kk B H locs LS2 ⟨fun _ _ => rfl, fun _ => rfl⟩ hG hM hl2
  dsimp only at h
  rw [h1, h2, Nat.sub_self, Nat.sub_self, Nat.add_zero, Nat.add_zero] at h
  exact h
theorem chW_in {i : Nat} {w : Cond} (h : chW i w = true) : w ∈ TB := by
  unfold chW at h
  obtain ⟨h1, h2⟩ := Bool.and_eq_true_iff.mp h
  exact List.mem_filter.mpr ⟨List.mem_of_getElem? (of_decide_eq_true h1), h2⟩
theorem chN_in {i : Nat} {w : Cond} (h : chN i w = true) : w ∈ lw_tbl ∧ nwW w = true := by
  unfold chN at h
  obtain ⟨h1, h2⟩ := Bool.and_eq_true_iff.mp h
  exact ⟨List.mem_of_getElem? (of_decide_eq_true h1), h2⟩
theorem clO_at {ci : Nat} (h : ci < 13) : vwCl[ci]? = some ((clO ci).1, (clO ci).2.1, (clO ci).2.2) := by
  have : ∀ ci, ci < 13 → ∃ q, vwCl[ci]? = some q := fun ci h => by
    have : ci < vwCl.length := h
    exact ⟨_, List.getElem?_eq_getElem this⟩
  obtain ⟨q, hq⟩ := this ci h
  rw [hq]
  unfold clO
  rw [List.getD_eq_getElem?_getD, hq]
  rfl
theorem row_dec {mi pc len e1 e2 : Nat} {ins : Instr} {e3 : Int} (h : rowC mi (pc, ins, len, e1, e2, e3) = true) : decode (cO mi) pc = .ok (ins, len) ∧ len = ilen ins len := by
  unfold rowC at h
  simp only [Bool.and_eq_true] at h
  exact ⟨of_decide_eq_true h.1.1, Nat.eq_of_beq_eq_true h.1.2⟩
def clF (ci : Nat) : Prop := ∃ ty0 : Nat → FieldType, (∀ k, k < (clO ci).2.2 → parseFieldDescriptor ((clO ci).2.1 k).2.2.1 = some (ty0 k)) ∧ (∀ a, a < (clO ci).2.2 → ∀ b, b < (clO ci).2.2 → a ≠ b → ((clO ci).2.1 a).2.1 ≠ ((clO ci).2.1 b).2.1) ∧ (∀ w ∈ u_ws (clO ci).1 (clO ci).2.1 (clO ci).2.2, w ∈ TB) ∧ Cond.instantiable (clO ci).1 (clO ci).2.2 ∈ TB ∧ Cond.initialized (clO ci).1 ∈ TB ∧
  (∀ k, k < (clO ci).2.2 → (fk ci k = 0 ∧ ty0 k = .int) ∨ (fk ci k = 1 ∧ ty0 k = .boolean) ∨ (fk ci k = 2 ∧ ty0 k = .long) ∨ (fk ci k = 3 ∧ ((∃ n, ty0 k = .object n) ∨ ∃ t, ty0 k = .array t)))
theorem lays_in {C : String} {T : u_T} {N : Nat} (ps : List Nat) (h1 : ps.length = N) (h : ((List.range N).all fun k => decide (lw_tbl[ps.getD k 0]? = some (u_lay C T k)) && goodWord (u_lay C T k)) = true) : ∀ w ∈ u_ws C T N, w ∈ TB := by
  intro w hw
  obtain ⟨k, hk, rfl⟩ := List.mem_map.mp hw
  have h2 := List.all_eq_true.mp h k hk
  obtain ⟨h3, h4⟩ := Bool.and_eq_true_iff.mp h2
  exact List.mem_filter.mpr ⟨List.mem_of_getElem? (of_decide_eq_true h3), h4⟩
set_option maxRecDepth 100000 in
theorem clF_0 : clF 0 := by
  refine ⟨tyX0, tyX0_ok, nmX0, lays_in [399, 401, 403, 405, 407, 409, 411] rfl (by decide +kernel), chW_in (i := 380) (by decide +kernel), chW_in (i := 166) (by decide +kernel), ?_⟩
  intro k hk
  match k, hk with
  | 0, _ => exact Or.inr (Or.inl ⟨rfl, rfl⟩)
  | 1, _ => exact Or.inr (Or.inr (Or.inl ⟨rfl, rfl⟩))
  | 2, _ => exact Or.inr (Or.inr (Or.inl ⟨rfl, rfl⟩))
  | 3, _ => exact Or.inl ⟨rfl, rfl⟩
  | 4, _ => exact Or.inl ⟨rfl, rfl⟩
  | 5, _ => exact Or.inl ⟨rfl, rfl⟩
  | 6, _ => exact Or.inr (Or.inl ⟨rfl, rfl⟩)
  | k + 7, hk => exact absurd hk (by show ¬ k + 7 < 7; omega)
set_option maxRecDepth 100000 in
theorem clF_1 : clF 1 := by
  refine ⟨tyX1, tyX1_ok, nmX1, lays_in [438] rfl (by decide +kernel), chW_in (i := 432) (by decide +kernel), chW_in (i := 168) (by decide +kernel), ?_⟩
  intro k hk
  match k, hk with
  | 0, _ => exact Or.inr (Or.inr (Or.inr ⟨rfl, Or.inr ⟨_, rfl⟩⟩))
  | k + 1, hk => exact absurd hk (by show ¬ k + 1 < 1; omega)
set_option maxRecDepth 100000 in
theorem clF_2 : clF 2 := by
  refine ⟨tyX2, tyX2_ok, nmX2, lays_in [225, 227, 229, 231, 233, 235, 237] rfl (by decide +kernel), chW_in (i := 208) (by decide +kernel), chW_in (i := 160) (by decide +kernel), ?_⟩
  intro k hk
  match k, hk with
  | 0, _ => exact Or.inl ⟨rfl, rfl⟩
  | 1, _ => exact Or.inl ⟨rfl, rfl⟩
  | 2, _ => exact Or.inl ⟨rfl, rfl⟩
  | 3, _ => exact Or.inl ⟨rfl, rfl⟩
  | 4, _ => exact Or.inr (Or.inr (Or.inr ⟨rfl, Or.inr ⟨_, rfl⟩⟩))
  | 5, _ => exact Or.inr (Or.inr (Or.inr ⟨rfl, Or.inr ⟨_, rfl⟩⟩))
  | 6, _ => exact Or.inr (Or.inr (Or.inr ⟨rfl, Or.inr ⟨_, rfl⟩⟩))
  | k + 7, hk => exact absurd hk (by show ¬ k + 7 < 7; omega)
set_option maxRecDepth 100000 in
theorem clF_3 : clF 3 := by
  refine ⟨tyX3, tyX3_ok, nmX3, lays_in [302, 304] rfl (by decide +kernel), chW_in (i := 291) (by decide +kernel), chW_in (i := 163) (by decide +kernel), ?_⟩
  intro k hk
  match k, hk with
  | 0, _ => exact Or.inr (Or.inr (Or.inl ⟨rfl, rfl⟩))
  | 1, _ => exact Or.inr (Or.inr (Or.inl ⟨rfl, rfl⟩))
  | k + 2, hk => exact absurd hk (by show ¬ k + 2 < 2; omega)
set_option maxRecDepth 100000 in
theorem clF_4 : clF 4 := by
  refine ⟨tyX4, tyX4_ok, nmX4, lays_in [362, 364, 366, 368, 370, 372, 374, 376] rfl (by decide +kernel), chW_in (i := 347) (by decide +kernel), chW_in (i := 165) (by decide +kernel), ?_⟩
  intro k hk
  match k, hk with
  | 0, _ => exact Or.inl ⟨rfl, rfl⟩
  | 1, _ => exact Or.inr (Or.inl ⟨rfl, rfl⟩)
  | 2, _ => exact Or.inr (Or.inr (Or.inl ⟨rfl, rfl⟩))
  | 3, _ => exact Or.inr (Or.inr (Or.inl ⟨rfl, rfl⟩))
  | 4, _ => exact Or.inr (Or.inr (Or.inl ⟨rfl, rfl⟩))
  | 5, _ => exact Or.inr (Or.inr (Or.inl ⟨rfl, rfl⟩))
  | 6, _ => exact Or.inr (Or.inr (Or.inl ⟨rfl, rfl⟩))
  | 7, _ => exact Or.inr (Or.inr (Or.inl ⟨rfl, rfl⟩))
  | k + 8, hk => exact absurd hk (by show ¬ k + 8 < 8; omega)
set_option maxRecDepth 100000 in
theorem clF_5 : clF 5 := by
  refine ⟨tyX5, tyX5_ok, nmX5, lays_in [325, 327, 329, 331, 333, 335, 337, 339, 341, 343] rfl (by decide +kernel), chW_in (i := 308) (by decide +kernel), chW_in (i := 164) (by decide +kernel), ?_⟩
  intro k hk
  match k, hk with
  | 0, _ => exact Or.inl ⟨rfl, rfl⟩
  | 1, _ => exact Or.inr (Or.inl ⟨rfl, rfl⟩)
  | 2, _ => exact Or.inr (Or.inl ⟨rfl, rfl⟩)
  | 3, _ => exact Or.inr (Or.inl ⟨rfl, rfl⟩)
  | 4, _ => exact Or.inr (Or.inr (Or.inl ⟨rfl, rfl⟩))
  | 5, _ => exact Or.inr (Or.inr (Or.inl ⟨rfl, rfl⟩))
  | 6, _ => exact Or.inr (Or.inr (Or.inl ⟨rfl, rfl⟩))
  | 7, _ => exact Or.inr (Or.inr (Or.inl ⟨rfl, rfl⟩))
  | 8, _ => exact Or.inr (Or.inr (Or.inl ⟨rfl, rfl⟩))
  | 9, _ => exact Or.inr (Or.inr (Or.inl ⟨rfl, rfl⟩))
  | k + 10, hk => exact absurd hk (by show ¬ k + 10 < 10; omega)
set_option maxRecDepth 100000 in
theorem clF_6 : clF 6 := by
  refine ⟨tyX6, tyX6_ok, nmX6, lays_in [283, 285, 287] rfl (by decide +kernel), chW_in (i := 266) (by decide +kernel), chW_in (i := 162) (by decide +kernel), ?_⟩
  intro k hk
  match k, hk with
  | 0, _ => exact Or.inr (Or.inr (Or.inl ⟨rfl, rfl⟩))
  | 1, _ => exact Or.inr (Or.inr (Or.inl ⟨rfl, rfl⟩))
  | 2, _ => exact Or.inr (Or.inr (Or.inl ⟨rfl, rfl⟩))
  | k + 3, hk => exact absurd hk (by show ¬ k + 3 < 3; omega)
set_option maxRecDepth 100000 in
theorem clF_7 : clF 7 := by
  refine ⟨tyX7, tyX7_ok, nmX7, lays_in [459, 461, 463, 465] rfl (by decide +kernel), chW_in (i := 442) (by decide +kernel), chW_in (i := 169) (by decide +kernel), ?_⟩
  intro k hk
  match k, hk with
  | 0, _ => exact Or.inr (Or.inl ⟨rfl, rfl⟩)
  | 1, _ => exact Or.inr (Or.inr (Or.inr ⟨rfl, Or.inl ⟨_, rfl⟩⟩))
  | 2, _ => exact Or.inl ⟨rfl, rfl⟩
  | 3, _ => exact Or.inr (Or.inr (Or.inr ⟨rfl, Or.inl ⟨_, rfl⟩⟩))
  | k + 4, hk => exact absurd hk (by show ¬ k + 4 < 4; omega)
set_option maxRecDepth 100000 in
theorem clF_8 : clF 8 := by
  refine ⟨tyX8, tyX8_ok, nmX8, lays_in [426, 428] rfl (by decide +kernel), chW_in (i := 415) (by decide +kernel), chW_in (i := 167) (by decide +kernel), ?_⟩
  intro k hk
  match k, hk with
  | 0, _ => exact Or.inl ⟨rfl, rfl⟩
  | 1, _ => exact Or.inr (Or.inr (Or.inr ⟨rfl, Or.inl ⟨_, rfl⟩⟩))
  | k + 2, hk => exact absurd hk (by show ¬ k + 2 < 2; omega)
set_option maxRecDepth 100000 in
theorem clF_9 : clF 9 := by
  refine ⟨tyX9, tyX9_ok, nmX9, lays_in [201, 203] rfl (by decide +kernel), chW_in (i := 190) (by decide +kernel), chW_in (i := 159) (by decide +kernel), ?_⟩
  intro k hk
  match k, hk with
  | 0, _ => exact Or.inr (Or.inr (Or.inr ⟨rfl, Or.inr ⟨_, rfl⟩⟩))
  | 1, _ => exact Or.inr (Or.inr (Or.inr ⟨rfl, Or.inr ⟨_, rfl⟩⟩))
  | k + 2, hk => exact absurd hk (by show ¬ k + 2 < 2; omega)
set_option maxRecDepth 100000 in
theorem clF_10 : clF 10 := by
  refine ⟨tyX10, tyX10_ok, nmX10, lays_in [256, 258, 260, 262] rfl (by decide +kernel), chW_in (i := 243) (by decide +kernel), chW_in (i := 161) (by decide +kernel), ?_⟩
  intro k hk
  match k, hk with
  | 0, _ => exact Or.inr (Or.inr (Or.inl ⟨rfl, rfl⟩))
  | 1, _ => exact Or.inr (Or.inr (Or.inl ⟨rfl, rfl⟩))
  | 2, _ => exact Or.inr (Or.inr (Or.inl ⟨rfl, rfl⟩))
  | 3, _ => exact Or.inr (Or.inr (Or.inl ⟨rfl, rfl⟩))
  | k + 4, hk => exact absurd hk (by show ¬ k + 4 < 4; omega)
set_option maxRecDepth 100000 in
theorem clF_11 : clF 11 := by
  refine ⟨tyX11, tyX11_ok, nmX11, lays_in [487, 489, 491, 493, 495, 497, 499, 501, 503, 505, 507, 509, 511, 513, 515, 517, 519, 521, 523] rfl (by decide +kernel), chW_in (i := 182) (by decide +kernel), chW_in (i := 158) (by decide +kernel), ?_⟩
  intro k hk
  match k, hk with
  | 0, _ => exact Or.inr (Or.inr (Or.inr ⟨rfl, Or.inl ⟨_, rfl⟩⟩))
  | 1, _ => exact Or.inr (Or.inr (Or.inr ⟨rfl, Or.inl ⟨_, rfl⟩⟩))
  | 2, _ => exact Or.inr (Or.inr (Or.inr ⟨rfl, Or.inl ⟨_, rfl⟩⟩))
  | 3, _ => exact Or.inr (Or.inr (Or.inr ⟨rfl, Or.inr ⟨_, rfl⟩⟩))
  | 4, _ => exact Or.inl ⟨rfl, rfl⟩
  | 5, _ => exact Or.inl ⟨rfl, rfl⟩
  | 6, _ => exact Or.inr (Or.inr (Or.inr ⟨rfl, Or.inl ⟨_, rfl⟩⟩))
  | 7, _ => exact Or.inr (Or.inr (Or.inr ⟨rfl, Or.inl ⟨_, rfl⟩⟩))
  | 8, _ => exact Or.inr (Or.inr (Or.inr ⟨rfl, Or.inl ⟨_, rfl⟩⟩))
  | 9, _ => exact Or.inr (Or.inr (Or.inr ⟨rfl, Or.inl ⟨_, rfl⟩⟩))
  | 10, _ => exact Or.inr (Or.inr (Or.inr ⟨rfl, Or.inl ⟨_, rfl⟩⟩))
  | 11, _ => exact Or.inr (Or.inr (Or.inr ⟨rfl, Or.inl ⟨_, rfl⟩⟩))
  | 12, _ => exact Or.inr (Or.inr (Or.inr ⟨rfl, Or.inl ⟨_, rfl⟩⟩))
  | 13, _ => exact Or.inr (Or.inr (Or.inr ⟨rfl, Or.inl ⟨_, rfl⟩⟩))
  | 14, _ => exact Or.inr (Or.inr (Or.inr ⟨rfl, Or.inl ⟨_, rfl⟩⟩))
  | 15, _ => exact Or.inr (Or.inr (Or.inr ⟨rfl, Or.inl ⟨_, rfl⟩⟩))
  | 16, _ => exact Or.inr (Or.inr (Or.inr ⟨rfl, Or.inl ⟨_, rfl⟩⟩))
  | 17, _ => exact Or.inr (Or.inr (Or.inr ⟨rfl, Or.inr ⟨_, rfl⟩⟩))
  | 18, _ => exact Or.inr (Or.inr (Or.inr ⟨rfl, Or.inr ⟨_, rfl⟩⟩))
  | k + 19, hk => exact absurd hk (by show ¬ k + 19 < 19; omega)
set_option maxRecDepth 100000 in
theorem clF_12 : clF 12 := by
  refine ⟨tyX12, tyX12_ok, nmX12, lays_in [1680, 1682, 1684, 1686, 1688, 1690, 1692, 1694, 1696, 1698, 1700, 1702, 1704, 1706, 1708, 1710, 1712, 1714, 1716, 1718, 1720, 1722, 1724, 1726, 1728, 1730, 1732, 1734, 1736, 1738, 1740, 1742, 1744, 1746, 1748, 1750, 1752, 1754, 1756, 1758, 1760, 1762, 1764, 1766] rfl (by decide +kernel), chW_in (i := 1612) (by decide +kernel), chW_in (i := 170) (by decide +kernel), ?_⟩
  intro k hk
  match k, hk with
  | 0, _ => exact Or.inl ⟨rfl, rfl⟩
  | 1, _ => exact Or.inr (Or.inr (Or.inr ⟨rfl, Or.inr ⟨_, rfl⟩⟩))
  | 2, _ => exact Or.inr (Or.inr (Or.inr ⟨rfl, Or.inr ⟨_, rfl⟩⟩))
  | 3, _ => exact Or.inl ⟨rfl, rfl⟩
  | 4, _ => exact Or.inl ⟨rfl, rfl⟩
  | 5, _ => exact Or.inr (Or.inr (Or.inr ⟨rfl, Or.inr ⟨_, rfl⟩⟩))
  | 6, _ => exact Or.inr (Or.inr (Or.inr ⟨rfl, Or.inr ⟨_, rfl⟩⟩))
  | 7, _ => exact Or.inl ⟨rfl, rfl⟩
  | 8, _ => exact Or.inr (Or.inr (Or.inl ⟨rfl, rfl⟩))
  | 9, _ => exact Or.inr (Or.inr (Or.inl ⟨rfl, rfl⟩))
  | 10, _ => exact Or.inr (Or.inr (Or.inl ⟨rfl, rfl⟩))
  | 11, _ => exact Or.inr (Or.inr (Or.inl ⟨rfl, rfl⟩))
  | 12, _ => exact Or.inr (Or.inr (Or.inl ⟨rfl, rfl⟩))
  | 13, _ => exact Or.inr (Or.inr (Or.inl ⟨rfl, rfl⟩))
  | 14, _ => exact Or.inr (Or.inr (Or.inl ⟨rfl, rfl⟩))
  | 15, _ => exact Or.inr (Or.inr (Or.inl ⟨rfl, rfl⟩))
  | 16, _ => exact Or.inr (Or.inr (Or.inl ⟨rfl, rfl⟩))
  | 17, _ => exact Or.inr (Or.inr (Or.inl ⟨rfl, rfl⟩))
  | 18, _ => exact Or.inr (Or.inr (Or.inl ⟨rfl, rfl⟩))
  | 19, _ => exact Or.inr (Or.inr (Or.inl ⟨rfl, rfl⟩))
  | 20, _ => exact Or.inr (Or.inr (Or.inl ⟨rfl, rfl⟩))
  | 21, _ => exact Or.inr (Or.inr (Or.inl ⟨rfl, rfl⟩))
  | 22, _ => exact Or.inr (Or.inr (Or.inl ⟨rfl, rfl⟩))
  | 23, _ => exact Or.inr (Or.inr (Or.inl ⟨rfl, rfl⟩))
  | 24, _ => exact Or.inl ⟨rfl, rfl⟩
  | 25, _ => exact Or.inr (Or.inr (Or.inl ⟨rfl, rfl⟩))
  | 26, _ => exact Or.inr (Or.inr (Or.inl ⟨rfl, rfl⟩))
  | 27, _ => exact Or.inl ⟨rfl, rfl⟩
  | 28, _ => exact Or.inl ⟨rfl, rfl⟩
  | 29, _ => exact Or.inl ⟨rfl, rfl⟩
  | 30, _ => exact Or.inr (Or.inl ⟨rfl, rfl⟩)
  | 31, _ => exact Or.inr (Or.inr (Or.inr ⟨rfl, Or.inr ⟨_, rfl⟩⟩))
  | 32, _ => exact Or.inl ⟨rfl, rfl⟩
  | 33, _ => exact Or.inl ⟨rfl, rfl⟩
  | 34, _ => exact Or.inl ⟨rfl, rfl⟩
  | 35, _ => exact Or.inl ⟨rfl, rfl⟩
  | 36, _ => exact Or.inl ⟨rfl, rfl⟩
  | 37, _ => exact Or.inr (Or.inr (Or.inr ⟨rfl, Or.inr ⟨_, rfl⟩⟩))
  | 38, _ => exact Or.inr (Or.inr (Or.inr ⟨rfl, Or.inr ⟨_, rfl⟩⟩))
  | 39, _ => exact Or.inl ⟨rfl, rfl⟩
  | 40, _ => exact Or.inr (Or.inr (Or.inr ⟨rfl, Or.inr ⟨_, rfl⟩⟩))
  | 41, _ => exact Or.inr (Or.inr (Or.inr ⟨rfl, Or.inr ⟨_, rfl⟩⟩))
  | 42, _ => exact Or.inr (Or.inr (Or.inr ⟨rfl, Or.inr ⟨_, rfl⟩⟩))
  | 43, _ => exact Or.inr (Or.inr (Or.inr ⟨rfl, Or.inr ⟨_, rfl⟩⟩))
  | k + 44, hk => exact absurd hk (by show ¬ k + 44 < 44; omega)
theorem clF_all {ci : Nat} (h : ci < 13) : clF ci := by
  match ci, h with
  | 0, _ => exact clF_0
  | 1, _ => exact clF_1
  | 2, _ => exact clF_2
  | 3, _ => exact clF_3
  | 4, _ => exact clF_4
  | 5, _ => exact clF_5
  | 6, _ => exact clF_6
  | 7, _ => exact clF_7
  | 8, _ => exact clF_8
  | 9, _ => exact clF_9
  | 10, _ => exact clF_10
  | 11, _ => exact clF_11
  | 12, _ => exact clF_12
  | ci + 13, h => exact absurd h (by omega)
set_option maxHeartbeats 2000000 in
theorem nx_iadd {p : Program} {l : Launch} {env : Env} {R : Room} {s : State} {m : MethodId} {args : Array Value} {below : List Frame} {meth : Method} {c : Code} {Q : State → Prop} {D : va_G} {b Lx Z : Nat} {xs : Nat → Int32} {mi pc len e1 e2 : Nat} {e3 : Int} {ls : Lv} {st : List Value} {g : GS} {I : Mi} {L : Ml} {B : BJ} {H : Heap} {locs : List Loc} {LS : Array Slot} {cells slots : Nat} {a2 : Nat × Lv × List Value × GS × Mi × Ml} (hC : CX p s m args meth c R mi) (hE : ENV D b Lx xs Z s s.heap) (hG : GOK b Lx xs B g I) (hM : MR1 D Z s B g I L H locs) (hl : lv_has LS (mO mi) (cvl B.1 ls)) (hcl : cells + (a2.2.2.2.1.1 - g.1) ≤ R.cells) (hsl : slots + (a2.2.2.2.1.2.1 - g.2.1) ≤ R.slots) (hall : ∀ r ∈ PT mi, rowC mi r = true) (hrow : rowC mi (pc, .iadd, len, e1, e2, e3) = true) (hs : stp (PT mi) pc (.iadd) len e1 e2 e3 ls st g I L = some (.inr (.inl a2))) (kk : GoTo p l env R s m args below meth c Q D b Lx xs Z mi B g cells slots a2) : W p l env R s m args below meth c H locs cells slots Q (F0 m pc LS (st.map (cv B.1))) := by
  obtain ⟨hx, hb, hr, hml, hown, hts, hlk, hini, hex, hRf, hRl⟩ := id hC
  obtain ⟨hd, hlen⟩ := row_dec hrow
  dsimp only [stp, act] at hs
  change len = 1 at hlen
  subst hlen
  obtain ⟨y, x, r, rfl, h⟩ := aI2_i hs
  cases h
  exact lv_iadd hx hb hd (kk.s hG hM hl)
set_option maxHeartbeats 2000000 in
theorem nx_isub {p : Program} {l : Launch} {env : Env} {R : Room} {s : State} {m : MethodId} {args : Array Value} {below : List Frame} {meth : Method} {c : Code} {Q : State → Prop} {D : va_G} {b Lx Z : Nat} {xs : Nat → Int32} {mi pc len e1 e2 : Nat} {e3 : Int} {ls : Lv} {st : List Value} {g : GS} {I : Mi} {L : Ml} {B : BJ} {H : Heap} {locs : List Loc} {LS : Array Slot} {cells slots : Nat} {a2 : Nat × Lv × List Value × GS × Mi × Ml} (hC : CX p s m args meth c R mi) (hE : ENV D b Lx xs Z s s.heap) (hG : GOK b Lx xs B g I) (hM : MR1 D Z s B g I L H locs) (hl : lv_has LS (mO mi) (cvl B.1 ls)) (hcl : cells + (a2.2.2.2.1.1 - g.1) ≤ R.cells) (hsl : slots + (a2.2.2.2.1.2.1 - g.2.1) ≤ R.slots) (hall : ∀ r ∈ PT mi, rowC mi r = true) (hrow : rowC mi (pc, .isub, len, e1, e2, e3) = true) (hs : stp (PT mi) pc (.isub) len e1 e2 e3 ls st g I L = some (.inr (.inl a2))) (kk : GoTo p l env R s m args below meth c Q D b Lx xs Z mi B g cells slots a2) : W p l env R s m args below meth c H locs cells slots Q (F0 m pc LS (st.map (cv B.1))) := by
  obtain ⟨hx, hb, hr, hml, hown, hts, hlk, hini, hex, hRf, hRl⟩ := id hC
  obtain ⟨hd, hlen⟩ := row_dec hrow
  dsimp only [stp, act] at hs
  change len = 1 at hlen
  subst hlen
  obtain ⟨y, x, r, rfl, h⟩ := aI2_i hs
  cases h
  exact lv_isub hx hb hd (kk.s hG hM hl)
set_option maxHeartbeats 2000000 in
theorem nx_imul {p : Program} {l : Launch} {env : Env} {R : Room} {s : State} {m : MethodId} {args : Array Value} {below : List Frame} {meth : Method} {c : Code} {Q : State → Prop} {D : va_G} {b Lx Z : Nat} {xs : Nat → Int32} {mi pc len e1 e2 : Nat} {e3 : Int} {ls : Lv} {st : List Value} {g : GS} {I : Mi} {L : Ml} {B : BJ} {H : Heap} {locs : List Loc} {LS : Array Slot} {cells slots : Nat} {a2 : Nat × Lv × List Value × GS × Mi × Ml} (hC : CX p s m args meth c R mi) (hE : ENV D b Lx xs Z s s.heap) (hG : GOK b Lx xs B g I) (hM : MR1 D Z s B g I L H locs) (hl : lv_has LS (mO mi) (cvl B.1 ls)) (hcl : cells + (a2.2.2.2.1.1 - g.1) ≤ R.cells) (hsl : slots + (a2.2.2.2.1.2.1 - g.2.1) ≤ R.slots) (hall : ∀ r ∈ PT mi, rowC mi r = true) (hrow : rowC mi (pc, .imul, len, e1, e2, e3) = true) (hs : stp (PT mi) pc (.imul) len e1 e2 e3 ls st g I L = some (.inr (.inl a2))) (kk : GoTo p l env R s m args below meth c Q D b Lx xs Z mi B g cells slots a2) : W p l env R s m args below meth c H locs cells slots Q (F0 m pc LS (st.map (cv B.1))) := by
  obtain ⟨hx, hb, hr, hml, hown, hts, hlk, hini, hex, hRf, hRl⟩ := id hC
  obtain ⟨hd, hlen⟩ := row_dec hrow
  dsimp only [stp, act] at hs
  change len = 1 at hlen
  subst hlen
  obtain ⟨y, x, r, rfl, h⟩ := aI2_i hs
  cases h
  exact lv_imul hx hb hd (kk.s hG hM hl)
set_option maxHeartbeats 2000000 in
theorem nx_iand {p : Program} {l : Launch} {env : Env} {R : Room} {s : State} {m : MethodId} {args : Array Value} {below : List Frame} {meth : Method} {c : Code} {Q : State → Prop} {D : va_G} {b Lx Z : Nat} {xs : Nat → Int32} {mi pc len e1 e2 : Nat} {e3 : Int} {ls : Lv} {st : List Value} {g : GS} {I : Mi} {L : Ml} {B : BJ} {H : Heap} {locs : List Loc} {LS : Array Slot} {cells slots : Nat} {a2 : Nat × Lv × List Value × GS × Mi × Ml} (hC : CX p s m args meth c R mi) (hE : ENV D b Lx xs Z s s.heap) (hG : GOK b Lx xs B g I) (hM : MR1 D Z s B g I L H locs) (hl : lv_has LS (mO mi) (cvl B.1 ls)) (hcl : cells + (a2.2.2.2.1.1 - g.1) ≤ R.cells) (hsl : slots + (a2.2.2.2.1.2.1 - g.2.1) ≤ R.slots) (hall : ∀ r ∈ PT mi, rowC mi r = true) (hrow : rowC mi (pc, .iand, len, e1, e2, e3) = true) (hs : stp (PT mi) pc (.iand) len e1 e2 e3 ls st g I L = some (.inr (.inl a2))) (kk : GoTo p l env R s m args below meth c Q D b Lx xs Z mi B g cells slots a2) : W p l env R s m args below meth c H locs cells slots Q (F0 m pc LS (st.map (cv B.1))) := by
  obtain ⟨hx, hb, hr, hml, hown, hts, hlk, hini, hex, hRf, hRl⟩ := id hC
  obtain ⟨hd, hlen⟩ := row_dec hrow
  dsimp only [stp, act] at hs
  change len = 1 at hlen
  subst hlen
  obtain ⟨y, x, r, rfl, h⟩ := aI2_i hs
  cases h
  exact lv_iand hx hb hd (kk.s hG hM hl)
set_option maxHeartbeats 2000000 in
theorem nx_ior {p : Program} {l : Launch} {env : Env} {R : Room} {s : State} {m : MethodId} {args : Array Value} {below : List Frame} {meth : Method} {c : Code} {Q : State → Prop} {D : va_G} {b Lx Z : Nat} {xs : Nat → Int32} {mi pc len e1 e2 : Nat} {e3 : Int} {ls : Lv} {st : List Value} {g : GS} {I : Mi} {L : Ml} {B : BJ} {H : Heap} {locs : List Loc} {LS : Array Slot} {cells slots : Nat} {a2 : Nat × Lv × List Value × GS × Mi × Ml} (hC : CX p s m args meth c R mi) (hE : ENV D b Lx xs Z s s.heap) (hG : GOK b Lx xs B g I) (hM : MR1 D Z s B g I L H locs) (hl : lv_has LS (mO mi) (cvl B.1 ls)) (hcl : cells + (a2.2.2.2.1.1 - g.1) ≤ R.cells) (hsl : slots + (a2.2.2.2.1.2.1 - g.2.1) ≤ R.slots) (hall : ∀ r ∈ PT mi, rowC mi r = true) (hrow : rowC mi (pc, .ior, len, e1, e2, e3) = true) (hs : stp (PT mi) pc (.ior) len e1 e2 e3 ls st g I L = some (.inr (.inl a2))) (kk : GoTo p l env R s m args below meth c Q D b Lx xs Z mi B g cells slots a2) : W p l env R s m args below meth c H locs cells slots Q (F0 m pc LS (st.map (cv B.1))) := by
  obtain ⟨hx, hb, hr, hml, hown, hts, hlk, hini, hex, hRf, hRl⟩ := id hC
  obtain ⟨hd, hlen⟩ := row_dec hrow
  dsimp only [stp, act] at hs
  change len = 1 at hlen
  subst hlen
  obtain ⟨y, x, r, rfl, h⟩ := aI2_i hs
  cases h
  exact lv_ior hx hb hd (kk.s hG hM hl)
set_option maxHeartbeats 2000000 in
theorem nx_ishl {p : Program} {l : Launch} {env : Env} {R : Room} {s : State} {m : MethodId} {args : Array Value} {below : List Frame} {meth : Method} {c : Code} {Q : State → Prop} {D : va_G} {b Lx Z : Nat} {xs : Nat → Int32} {mi pc len e1 e2 : Nat} {e3 : Int} {ls : Lv} {st : List Value} {g : GS} {I : Mi} {L : Ml} {B : BJ} {H : Heap} {locs : List Loc} {LS : Array Slot} {cells slots : Nat} {a2 : Nat × Lv × List Value × GS × Mi × Ml} (hC : CX p s m args meth c R mi) (hE : ENV D b Lx xs Z s s.heap) (hG : GOK b Lx xs B g I) (hM : MR1 D Z s B g I L H locs) (hl : lv_has LS (mO mi) (cvl B.1 ls)) (hcl : cells + (a2.2.2.2.1.1 - g.1) ≤ R.cells) (hsl : slots + (a2.2.2.2.1.2.1 - g.2.1) ≤ R.slots) (hall : ∀ r ∈ PT mi, rowC mi r = true) (hrow : rowC mi (pc, .ishl, len, e1, e2, e3) = true) (hs : stp (PT mi) pc (.ishl) len e1 e2 e3 ls st g I L = some (.inr (.inl a2))) (kk : GoTo p l env R s m args below meth c Q D b Lx xs Z mi B g cells slots a2) : W p l env R s m args below meth c H locs cells slots Q (F0 m pc LS (st.map (cv B.1))) := by
  obtain ⟨hx, hb, hr, hml, hown, hts, hlk, hini, hex, hRf, hRl⟩ := id hC
  obtain ⟨hd, hlen⟩ := row_dec hrow
  dsimp only [stp, act] at hs
  change len = 1 at hlen
  subst hlen
  obtain ⟨y, x, r, rfl, h⟩ := aI2_i hs
  cases h
  exact lv_ishl hx hb hd (kk.s hG hM hl)
set_option maxHeartbeats 2000000 in
theorem nx_ishr {p : Program} {l : Launch} {env : Env} {R : Room} {s : State} {m : MethodId} {args : Array Value} {below : List Frame} {meth : Method} {c : Code} {Q : State → Prop} {D : va_G} {b Lx Z : Nat} {xs : Nat → Int32} {mi pc len e1 e2 : Nat} {e3 : Int} {ls : Lv} {st : List Value} {g : GS} {I : Mi} {L : Ml} {B : BJ} {H : Heap} {locs : List Loc} {LS : Array Slot} {cells slots : Nat} {a2 : Nat × Lv × List Value × GS × Mi × Ml} (hC : CX p s m args meth c R mi) (hE : ENV D b Lx xs Z s s.heap) (hG : GOK b Lx xs B g I) (hM : MR1 D Z s B g I L H locs) (hl : lv_has LS (mO mi) (cvl B.1 ls)) (hcl : cells + (a2.2.2.2.1.1 - g.1) ≤ R.cells) (hsl : slots + (a2.2.2.2.1.2.1 - g.2.1) ≤ R.slots) (hall : ∀ r ∈ PT mi, rowC mi r = true) (hrow : rowC mi (pc, .ishr, len, e1, e2, e3) = true) (hs : stp (PT mi) pc (.ishr) len e1 e2 e3 ls st g I L = some (.inr (.inl a2))) (kk : GoTo p l env R s m args below meth c Q D b Lx xs Z mi B g cells slots a2) : W p l env R s m args below meth c H locs cells slots Q (F0 m pc LS (st.map (cv B.1))) := by
  obtain ⟨hx, hb, hr, hml, hown, hts, hlk, hini, hex, hRf, hRl⟩ := id hC
  obtain ⟨hd, hlen⟩ := row_dec hrow
  dsimp only [stp, act] at hs
  change len = 1 at hlen
  subst hlen
  obtain ⟨y, x, r, rfl, h⟩ := aI2_i hs
  cases h
  exact lv_ishr hx hb hd (kk.s hG hM hl)
set_option maxHeartbeats 2000000 in
theorem nx_idiv {p : Program} {l : Launch} {env : Env} {R : Room} {s : State} {m : MethodId} {args : Array Value} {below : List Frame} {meth : Method} {c : Code} {Q : State → Prop} {D : va_G} {b Lx Z : Nat} {xs : Nat → Int32} {mi pc len e1 e2 : Nat} {e3 : Int} {ls : Lv} {st : List Value} {g : GS} {I : Mi} {L : Ml} {B : BJ} {H : Heap} {locs : List Loc} {LS : Array Slot} {cells slots : Nat} {a2 : Nat × Lv × List Value × GS × Mi × Ml} (hC : CX p s m args meth c R mi) (hE : ENV D b Lx xs Z s s.heap) (hG : GOK b Lx xs B g I) (hM : MR1 D Z s B g I L H locs) (hl : lv_has LS (mO mi) (cvl B.1 ls)) (hcl : cells + (a2.2.2.2.1.1 - g.1) ≤ R.cells) (hsl : slots + (a2.2.2.2.1.2.1 - g.2.1) ≤ R.slots) (hall : ∀ r ∈ PT mi, rowC mi r = true) (hrow : rowC mi (pc, .idiv, len, e1, e2, e3) = true) (hs : stp (PT mi) pc (.idiv) len e1 e2 e3 ls st g I L = some (.inr (.inl a2))) (kk : GoTo p l env R s m args below meth c Q D b Lx xs Z mi B g cells slots a2) : W p l env R s m args below meth c H locs cells slots Q (F0 m pc LS (st.map (cv B.1))) := by
  obtain ⟨hx, hb, hr, hml, hown, hts, hlk, hini, hex, hRf, hRl⟩ := id hC
  obtain ⟨hd, hlen⟩ := row_dec hrow
  dsimp only [stp, act] at hs
  change len = 1 at hlen
  subst hlen
  obtain ⟨y, x, r, rfl, hy, h⟩ := aI2z_i hs
  cases h
  exact lv_idiv hx hb hd hy (kk.s hG hM hl)
set_option maxHeartbeats 2000000 in
theorem nx_irem {p : Program} {l : Launch} {env : Env} {R : Room} {s : State} {m : MethodId} {args : Array Value} {below : List Frame} {meth : Method} {c : Code} {Q : State → Prop} {D : va_G} {b Lx Z : Nat} {xs : Nat → Int32} {mi pc len e1 e2 : Nat} {e3 : Int} {ls : Lv} {st : List Value} {g : GS} {I : Mi} {L : Ml} {B : BJ} {H : Heap} {locs : List Loc} {LS : Array Slot} {cells slots : Nat} {a2 : Nat × Lv × List Value × GS × Mi × Ml} (hC : CX p s m args meth c R mi) (hE : ENV D b Lx xs Z s s.heap) (hG : GOK b Lx xs B g I) (hM : MR1 D Z s B g I L H locs) (hl : lv_has LS (mO mi) (cvl B.1 ls)) (hcl : cells + (a2.2.2.2.1.1 - g.1) ≤ R.cells) (hsl : slots + (a2.2.2.2.1.2.1 - g.2.1) ≤ R.slots) (hall : ∀ r ∈ PT mi, rowC mi r = true) (hrow : rowC mi (pc, .irem, len, e1, e2, e3) = true) (hs : stp (PT mi) pc (.irem) len e1 e2 e3 ls st g I L = some (.inr (.inl a2))) (kk : GoTo p l env R s m args below meth c Q D b Lx xs Z mi B g cells slots a2) : W p l env R s m args below meth c H locs cells slots Q (F0 m pc LS (st.map (cv B.1))) := by
  obtain ⟨hx, hb, hr, hml, hown, hts, hlk, hini, hex, hRf, hRl⟩ := id hC
  obtain ⟨hd, hlen⟩ := row_dec hrow
  dsimp only [stp, act] at hs
  change len = 1 at hlen
  subst hlen
  obtain ⟨y, x, r, rfl, hy, h⟩ := aI2z_i hs
  cases h
  exact lv_irem hx hb hd hy (kk.s hG hM hl)
set_option maxHeartbeats 2000000 in
theorem nx_ineg {p : Program} {l : Launch} {env : Env} {R : Room} {s : State} {m : MethodId} {args : Array Value} {below : List Frame} {meth : Method} {c : Code} {Q : State → Prop} {D : va_G} {b Lx Z : Nat} {xs : Nat → Int32} {mi pc len e1 e2 : Nat} {e3 : Int} {ls : Lv} {st : List Value} {g : GS} {I : Mi} {L : Ml} {B : BJ} {H : Heap} {locs : List Loc} {LS : Array Slot} {cells slots : Nat} {a2 : Nat × Lv × List Value × GS × Mi × Ml} (hC : CX p s m args meth c R mi) (hE : ENV D b Lx xs Z s s.heap) (hG : GOK b Lx xs B g I) (hM : MR1 D Z s B g I L H locs) (hl : lv_has LS (mO mi) (cvl B.1 ls)) (hcl : cells + (a2.2.2.2.1.1 - g.1) ≤ R.cells) (hsl : slots + (a2.2.2.2.1.2.1 - g.2.1) ≤ R.slots) (hall : ∀ r ∈ PT mi, rowC mi r = true) (hrow : rowC mi (pc, .ineg, len, e1, e2, e3) = true) (hs : stp (PT mi) pc (.ineg) len e1 e2 e3 ls st g I L = some (.inr (.inl a2))) (kk : GoTo p l env R s m args below meth c Q D b Lx xs Z mi B g cells slots a2) : W p l env R s m args below meth c H locs cells slots Q (F0 m pc LS (st.map (cv B.1))) := by
  obtain ⟨hx, hb, hr, hml, hown, hts, hlk, hini, hex, hRf, hRl⟩ := id hC
  obtain ⟨hd, hlen⟩ := row_dec hrow
  dsimp only [stp, act] at hs
  change len = 1 at hlen
  subst hlen
  obtain ⟨x, r, rfl, h⟩ := aI1_i hs
  cases h
  exact lv_ineg hx hb hd (kk.s hG hM hl)
set_option maxHeartbeats 2000000 in
theorem nx_ladd {p : Program} {l : Launch} {env : Env} {R : Room} {s : State} {m : MethodId} {args : Array Value} {below : List Frame} {meth : Method} {c : Code} {Q : State → Prop} {D : va_G} {b Lx Z : Nat} {xs : Nat → Int32} {mi pc len e1 e2 : Nat} {e3 : Int} {ls : Lv} {st : List Value} {g : GS} {I : Mi} {L : Ml} {B : BJ} {H : Heap} {locs : List Loc} {LS : Array Slot} {cells slots : Nat} {a2 : Nat × Lv × List Value × GS × Mi × Ml} (hC : CX p s m args meth c R mi) (hE : ENV D b Lx xs Z s s.heap) (hG : GOK b Lx xs B g I) (hM : MR1 D Z s B g I L H locs) (hl : lv_has LS (mO mi) (cvl B.1 ls)) (hcl : cells + (a2.2.2.2.1.1 - g.1) ≤ R.cells) (hsl : slots + (a2.2.2.2.1.2.1 - g.2.1) ≤ R.slots) (hall : ∀ r ∈ PT mi, rowC mi r = true) (hrow : rowC mi (pc, .ladd, len, e1, e2, e3) = true) (hs : stp (PT mi) pc (.ladd) len e1 e2 e3 ls st g I L = some (.inr (.inl a2))) (kk : GoTo p l env R s m args below meth c Q D b Lx xs Z mi B g cells slots a2) : W p l env R s m args below meth c H locs cells slots Q (F0 m pc LS (st.map (cv B.1))) := by
  obtain ⟨hx, hb, hr, hml, hown, hts, hlk, hini, hex, hRf, hRl⟩ := id hC
  obtain ⟨hd, hlen⟩ := row_dec hrow
  dsimp only [stp, act] at hs
  change len = 1 at hlen
  subst hlen
  obtain ⟨y, x, r, rfl, h⟩ := aL2_i hs
  cases h
  exact lv_ladd hx hb hd (kk.s hG hM hl)
set_option maxHeartbeats 2000000 in
theorem nx_lsub {p : Program} {l : Launch} {env : Env} {R : Room} {s : State} {m : MethodId} {args : Array Value} {below : List Frame} {meth : Method} {c : Code} {Q : State → Prop} {D : va_G} {b Lx Z : Nat} {xs : Nat → Int32} {mi pc len e1 e2 : Nat} {e3 : Int} {ls : Lv} {st : List Value} {g : GS} {I : Mi} {L : Ml} {B : BJ} {H : Heap} {locs : List Loc} {LS : Array Slot} {cells slots : Nat} {a2 : Nat × Lv × List Value × GS × Mi × Ml} (hC : CX p s m args meth c R mi) (hE : ENV D b Lx xs Z s s.heap) (hG : GOK b Lx xs B g I) (hM : MR1 D Z s B g I L H locs) (hl : lv_has LS (mO mi) (cvl B.1 ls)) (hcl : cells + (a2.2.2.2.1.1 - g.1) ≤ R.cells) (hsl : slots + (a2.2.2.2.1.2.1 - g.2.1) ≤ R.slots) (hall : ∀ r ∈ PT mi, rowC mi r = true) (hrow : rowC mi (pc, .lsub, len, e1, e2, e3) = true) (hs : stp (PT mi) pc (.lsub) len e1 e2 e3 ls st g I L = some (.inr (.inl a2))) (kk : GoTo p l env R s m args below meth c Q D b Lx xs Z mi B g cells slots a2) : W p l env R s m args below meth c H locs cells slots Q (F0 m pc LS (st.map (cv B.1))) := by
  obtain ⟨hx, hb, hr, hml, hown, hts, hlk, hini, hex, hRf, hRl⟩ := id hC
  obtain ⟨hd, hlen⟩ := row_dec hrow
  dsimp only [stp, act] at hs
  change len = 1 at hlen
  subst hlen
  obtain ⟨y, x, r, rfl, h⟩ := aL2_i hs
  cases h
  exact lv_lsub hx hb hd (kk.s hG hM hl)
set_option maxHeartbeats 2000000 in
theorem nx_lmul {p : Program} {l : Launch} {env : Env} {R : Room} {s : State} {m : MethodId} {args : Array Value} {below : List Frame} {meth : Method} {c : Code} {Q : State → Prop} {D : va_G} {b Lx Z : Nat} {xs : Nat → Int32} {mi pc len e1 e2 : Nat} {e3 : Int} {ls : Lv} {st : List Value} {g : GS} {I : Mi} {L : Ml} {B : BJ} {H : Heap} {locs : List Loc} {LS : Array Slot} {cells slots : Nat} {a2 : Nat × Lv × List Value × GS × Mi × Ml} (hC : CX p s m args meth c R mi) (hE : ENV D b Lx xs Z s s.heap) (hG : GOK b Lx xs B g I) (hM : MR1 D Z s B g I L H locs) (hl : lv_has LS (mO mi) (cvl B.1 ls)) (hcl : cells + (a2.2.2.2.1.1 - g.1) ≤ R.cells) (hsl : slots + (a2.2.2.2.1.2.1 - g.2.1) ≤ R.slots) (hall : ∀ r ∈ PT mi, rowC mi r = true) (hrow : rowC mi (pc, .lmul, len, e1, e2, e3) = true) (hs : stp (PT mi) pc (.lmul) len e1 e2 e3 ls st g I L = some (.inr (.inl a2))) (kk : GoTo p l env R s m args below meth c Q D b Lx xs Z mi B g cells slots a2) : W p l env R s m args below meth c H locs cells slots Q (F0 m pc LS (st.map (cv B.1))) := by
  obtain ⟨hx, hb, hr, hml, hown, hts, hlk, hini, hex, hRf, hRl⟩ := id hC
  obtain ⟨hd, hlen⟩ := row_dec hrow
  dsimp only [stp, act] at hs
  change len = 1 at hlen
  subst hlen
  obtain ⟨y, x, r, rfl, h⟩ := aL2_i hs
  cases h
  exact lv_lmul hx hb hd (kk.s hG hM hl)
set_option maxHeartbeats 2000000 in
theorem nx_land {p : Program} {l : Launch} {env : Env} {R : Room} {s : State} {m : MethodId} {args : Array Value} {below : List Frame} {meth : Method} {c : Code} {Q : State → Prop} {D : va_G} {b Lx Z : Nat} {xs : Nat → Int32} {mi pc len e1 e2 : Nat} {e3 : Int} {ls : Lv} {st : List Value} {g : GS} {I : Mi} {L : Ml} {B : BJ} {H : Heap} {locs : List Loc} {LS : Array Slot} {cells slots : Nat} {a2 : Nat × Lv × List Value × GS × Mi × Ml} (hC : CX p s m args meth c R mi) (hE : ENV D b Lx xs Z s s.heap) (hG : GOK b Lx xs B g I) (hM : MR1 D Z s B g I L H locs) (hl : lv_has LS (mO mi) (cvl B.1 ls)) (hcl : cells + (a2.2.2.2.1.1 - g.1) ≤ R.cells) (hsl : slots + (a2.2.2.2.1.2.1 - g.2.1) ≤ R.slots) (hall : ∀ r ∈ PT mi, rowC mi r = true) (hrow : rowC mi (pc, .land, len, e1, e2, e3) = true) (hs : stp (PT mi) pc (.land) len e1 e2 e3 ls st g I L = some (.inr (.inl a2))) (kk : GoTo p l env R s m args below meth c Q D b Lx xs Z mi B g cells slots a2) : W p l env R s m args below meth c H locs cells slots Q (F0 m pc LS (st.map (cv B.1))) := by
  obtain ⟨hx, hb, hr, hml, hown, hts, hlk, hini, hex, hRf, hRl⟩ := id hC
  obtain ⟨hd, hlen⟩ := row_dec hrow
  dsimp only [stp, act] at hs
  change len = 1 at hlen
  subst hlen
  obtain ⟨y, x, r, rfl, h⟩ := aL2_i hs
  cases h
  exact lv_land hx hb hd (kk.s hG hM hl)
set_option maxHeartbeats 2000000 in
theorem nx_lxor {p : Program} {l : Launch} {env : Env} {R : Room} {s : State} {m : MethodId} {args : Array Value} {below : List Frame} {meth : Method} {c : Code} {Q : State → Prop} {D : va_G} {b Lx Z : Nat} {xs : Nat → Int32} {mi pc len e1 e2 : Nat} {e3 : Int} {ls : Lv} {st : List Value} {g : GS} {I : Mi} {L : Ml} {B : BJ} {H : Heap} {locs : List Loc} {LS : Array Slot} {cells slots : Nat} {a2 : Nat × Lv × List Value × GS × Mi × Ml} (hC : CX p s m args meth c R mi) (hE : ENV D b Lx xs Z s s.heap) (hG : GOK b Lx xs B g I) (hM : MR1 D Z s B g I L H locs) (hl : lv_has LS (mO mi) (cvl B.1 ls)) (hcl : cells + (a2.2.2.2.1.1 - g.1) ≤ R.cells) (hsl : slots + (a2.2.2.2.1.2.1 - g.2.1) ≤ R.slots) (hall : ∀ r ∈ PT mi, rowC mi r = true) (hrow : rowC mi (pc, .lxor, len, e1, e2, e3) = true) (hs : stp (PT mi) pc (.lxor) len e1 e2 e3 ls st g I L = some (.inr (.inl a2))) (kk : GoTo p l env R s m args below meth c Q D b Lx xs Z mi B g cells slots a2) : W p l env R s m args below meth c H locs cells slots Q (F0 m pc LS (st.map (cv B.1))) := by
  obtain ⟨hx, hb, hr, hml, hown, hts, hlk, hini, hex, hRf, hRl⟩ := id hC
  obtain ⟨hd, hlen⟩ := row_dec hrow
  dsimp only [stp, act] at hs
  change len = 1 at hlen
  subst hlen
  obtain ⟨y, x, r, rfl, h⟩ := aL2_i hs
  cases h
  exact lv_lxor hx hb hd (kk.s hG hM hl)
set_option maxHeartbeats 2000000 in
theorem nx_ldiv {p : Program} {l : Launch} {env : Env} {R : Room} {s : State} {m : MethodId} {args : Array Value} {below : List Frame} {meth : Method} {c : Code} {Q : State → Prop} {D : va_G} {b Lx Z : Nat} {xs : Nat → Int32} {mi pc len e1 e2 : Nat} {e3 : Int} {ls : Lv} {st : List Value} {g : GS} {I : Mi} {L : Ml} {B : BJ} {H : Heap} {locs : List Loc} {LS : Array Slot} {cells slots : Nat} {a2 : Nat × Lv × List Value × GS × Mi × Ml} (hC : CX p s m args meth c R mi) (hE : ENV D b Lx xs Z s s.heap) (hG : GOK b Lx xs B g I) (hM : MR1 D Z s B g I L H locs) (hl : lv_has LS (mO mi) (cvl B.1 ls)) (hcl : cells + (a2.2.2.2.1.1 - g.1) ≤ R.cells) (hsl : slots + (a2.2.2.2.1.2.1 - g.2.1) ≤ R.slots) (hall : ∀ r ∈ PT mi, rowC mi r = true) (hrow : rowC mi (pc, .ldiv, len, e1, e2, e3) = true) (hs : stp (PT mi) pc (.ldiv) len e1 e2 e3 ls st g I L = some (.inr (.inl a2))) (kk : GoTo p l env R s m args below meth c Q D b Lx xs Z mi B g cells slots a2) : W p l env R s m args below meth c H locs cells slots Q (F0 m pc LS (st.map (cv B.1))) := by
  obtain ⟨hx, hb, hr, hml, hown, hts, hlk, hini, hex, hRf, hRl⟩ := id hC
  obtain ⟨hd, hlen⟩ := row_dec hrow
  dsimp only [stp, act] at hs
  change len = 1 at hlen
  subst hlen
  obtain ⟨y, x, r, rfl, hy, h⟩ := aL2z_i hs
  cases h
  exact lv_ldiv hx hb hd hy (kk.s hG hM hl)
set_option maxHeartbeats 2000000 in
theorem nx_lrem {p : Program} {l : Launch} {env : Env} {R : Room} {s : State} {m : MethodId} {args : Array Value} {below : List Frame} {meth : Method} {c : Code} {Q : State → Prop} {D : va_G} {b Lx Z : Nat} {xs : Nat → Int32} {mi pc len e1 e2 : Nat} {e3 : Int} {ls : Lv} {st : List Value} {g : GS} {I : Mi} {L : Ml} {B : BJ} {H : Heap} {locs : List Loc} {LS : Array Slot} {cells slots : Nat} {a2 : Nat × Lv × List Value × GS × Mi × Ml} (hC : CX p s m args meth c R mi) (hE : ENV D b Lx xs Z s s.heap) (hG : GOK b Lx xs B g I) (hM : MR1 D Z s B g I L H locs) (hl : lv_has LS (mO mi) (cvl B.1 ls)) (hcl : cells + (a2.2.2.2.1.1 - g.1) ≤ R.cells) (hsl : slots + (a2.2.2.2.1.2.1 - g.2.1) ≤ R.slots) (hall : ∀ r ∈ PT mi, rowC mi r = true) (hrow : rowC mi (pc, .lrem, len, e1, e2, e3) = true) (hs : stp (PT mi) pc (.lrem) len e1 e2 e3 ls st g I L = some (.inr (.inl a2))) (kk : GoTo p l env R s m args below meth c Q D b Lx xs Z mi B g cells slots a2) : W p l env R s m args below meth c H locs cells slots Q (F0 m pc LS (st.map (cv B.1))) := by
  obtain ⟨hx, hb, hr, hml, hown, hts, hlk, hini, hex, hRf, hRl⟩ := id hC
  obtain ⟨hd, hlen⟩ := row_dec hrow
  dsimp only [stp, act] at hs
  change len = 1 at hlen
  subst hlen
  obtain ⟨y, x, r, rfl, hy, h⟩ := aL2z_i hs
  cases h
  exact lv_lrem hx hb hd hy (kk.s hG hM hl)
set_option maxHeartbeats 2000000 in
theorem nx_lneg {p : Program} {l : Launch} {env : Env} {R : Room} {s : State} {m : MethodId} {args : Array Value} {below : List Frame} {meth : Method} {c : Code} {Q : State → Prop} {D : va_G} {b Lx Z : Nat} {xs : Nat → Int32} {mi pc len e1 e2 : Nat} {e3 : Int} {ls : Lv} {st : List Value} {g : GS} {I : Mi} {L : Ml} {B : BJ} {H : Heap} {locs : List Loc} {LS : Array Slot} {cells slots : Nat} {a2 : Nat × Lv × List Value × GS × Mi × Ml} (hC : CX p s m args meth c R mi) (hE : ENV D b Lx xs Z s s.heap) (hG : GOK b Lx xs B g I) (hM : MR1 D Z s B g I L H locs) (hl : lv_has LS (mO mi) (cvl B.1 ls)) (hcl : cells + (a2.2.2.2.1.1 - g.1) ≤ R.cells) (hsl : slots + (a2.2.2.2.1.2.1 - g.2.1) ≤ R.slots) (hall : ∀ r ∈ PT mi, rowC mi r = true) (hrow : rowC mi (pc, .lneg, len, e1, e2, e3) = true) (hs : stp (PT mi) pc (.lneg) len e1 e2 e3 ls st g I L = some (.inr (.inl a2))) (kk : GoTo p l env R s m args below meth c Q D b Lx xs Z mi B g cells slots a2) : W p l env R s m args below meth c H locs cells slots Q (F0 m pc LS (st.map (cv B.1))) := by
  obtain ⟨hx, hb, hr, hml, hown, hts, hlk, hini, hex, hRf, hRl⟩ := id hC
  obtain ⟨hd, hlen⟩ := row_dec hrow
  dsimp only [stp, act] at hs
  change len = 1 at hlen
  subst hlen
  obtain ⟨x, r, rfl, h⟩ := aL1_i hs
  cases h
  exact lv_lneg hx hb hd (kk.s hG hM hl)
set_option maxHeartbeats 2000000 in
theorem nx_lshl {p : Program} {l : Launch} {env : Env} {R : Room} {s : State} {m : MethodId} {args : Array Value} {below : List Frame} {meth : Method} {c : Code} {Q : State → Prop} {D : va_G} {b Lx Z : Nat} {xs : Nat → Int32} {mi pc len e1 e2 : Nat} {e3 : Int} {ls : Lv} {st : List Value} {g : GS} {I : Mi} {L : Ml} {B : BJ} {H : Heap} {locs : List Loc} {LS : Array Slot} {cells slots : Nat} {a2 : Nat × Lv × List Value × GS × Mi × Ml} (hC : CX p s m args meth c R mi) (hE : ENV D b Lx xs Z s s.heap) (hG : GOK b Lx xs B g I) (hM : MR1 D Z s B g I L H locs) (hl : lv_has LS (mO mi) (cvl B.1 ls)) (hcl : cells + (a2.2.2.2.1.1 - g.1) ≤ R.cells) (hsl : slots + (a2.2.2.2.1.2.1 - g.2.1) ≤ R.slots) (hall : ∀ r ∈ PT mi, rowC mi r = true) (hrow : rowC mi (pc, .lshl, len, e1, e2, e3) = true) (hs : stp (PT mi) pc (.lshl) len e1 e2 e3 ls st g I L = some (.inr (.inl a2))) (kk : GoTo p l env R s m args below meth c Q D b Lx xs Z mi B g cells slots a2) : W p l env R s m args below meth c H locs cells slots Q (F0 m pc LS (st.map (cv B.1))) := by
  obtain ⟨hx, hb, hr, hml, hown, hts, hlk, hini, hex, hRf, hRl⟩ := id hC
  obtain ⟨hd, hlen⟩ := row_dec hrow
  dsimp only [stp, act] at hs
  change len = 1 at hlen
  subst hlen
  obtain ⟨y, x, r, rfl, h⟩ := aSh_i hs
  cases h
  exact lv_lshl hx hb hd rfl (kk.s hG hM hl)
set_option maxHeartbeats 2000000 in
theorem nx_lshr {p : Program} {l : Launch} {env : Env} {R : Room} {s : State} {m : MethodId} {args : Array Value} {below : List Frame} {meth : Method} {c : Code} {Q : State → Prop} {D : va_G} {b Lx Z : Nat} {xs : Nat → Int32} {mi pc len e1 e2 : Nat} {e3 : Int} {ls : Lv} {st : List Value} {g : GS} {I : Mi} {L : Ml} {B : BJ} {H : Heap} {locs : List Loc} {LS : Array Slot} {cells slots : Nat} {a2 : Nat × Lv × List Value × GS × Mi × Ml} (hC : CX p s m args meth c R mi) (hE : ENV D b Lx xs Z s s.heap) (hG : GOK b Lx xs B g I) (hM : MR1 D Z s B g I L H locs) (hl : lv_has LS (mO mi) (cvl B.1 ls)) (hcl : cells + (a2.2.2.2.1.1 - g.1) ≤ R.cells) (hsl : slots + (a2.2.2.2.1.2.1 - g.2.1) ≤ R.slots) (hall : ∀ r ∈ PT mi, rowC mi r = true) (hrow : rowC mi (pc, .lshr, len, e1, e2, e3) = true) (hs : stp (PT mi) pc (.lshr) len e1 e2 e3 ls st g I L = some (.inr (.inl a2))) (kk : GoTo p l env R s m args below meth c Q D b Lx xs Z mi B g cells slots a2) : W p l env R s m args below meth c H locs cells slots Q (F0 m pc LS (st.map (cv B.1))) := by
  obtain ⟨hx, hb, hr, hml, hown, hts, hlk, hini, hex, hRf, hRl⟩ := id hC
  obtain ⟨hd, hlen⟩ := row_dec hrow
  dsimp only [stp, act] at hs
  change len = 1 at hlen
  subst hlen
  obtain ⟨y, x, r, rfl, h⟩ := aSh_i hs
  cases h
  exact lv_lshr hx hb hd rfl (kk.s hG hM hl)
set_option maxHeartbeats 2000000 in
theorem nx_i2l {p : Program} {l : Launch} {env : Env} {R : Room} {s : State} {m : MethodId} {args : Array Value} {below : List Frame} {meth : Method} {c : Code} {Q : State → Prop} {D : va_G} {b Lx Z : Nat} {xs : Nat → Int32} {mi pc len e1 e2 : Nat} {e3 : Int} {ls : Lv} {st : List Value} {g : GS} {I : Mi} {L : Ml} {B : BJ} {H : Heap} {locs : List Loc} {LS : Array Slot} {cells slots : Nat} {a2 : Nat × Lv × List Value × GS × Mi × Ml} (hC : CX p s m args meth c R mi) (hE : ENV D b Lx xs Z s s.heap) (hG : GOK b Lx xs B g I) (hM : MR1 D Z s B g I L H locs) (hl : lv_has LS (mO mi) (cvl B.1 ls)) (hcl : cells + (a2.2.2.2.1.1 - g.1) ≤ R.cells) (hsl : slots + (a2.2.2.2.1.2.1 - g.2.1) ≤ R.slots) (hall : ∀ r ∈ PT mi, rowC mi r = true) (hrow : rowC mi (pc, .i2l, len, e1, e2, e3) = true) (hs : stp (PT mi) pc (.i2l) len e1 e2 e3 ls st g I L = some (.inr (.inl a2))) (kk : GoTo p l env R s m args below meth c Q D b Lx xs Z mi B g cells slots a2) : W p l env R s m args below meth c H locs cells slots Q (F0 m pc LS (st.map (cv B.1))) := by
  obtain ⟨hx, hb, hr, hml, hown, hts, hlk, hini, hex, hRf, hRl⟩ := id hC
  obtain ⟨hd, hlen⟩ := row_dec hrow
  dsimp only [stp, act] at hs
  change len = 1 at hlen
  subst hlen
  obtain ⟨x, r, rfl, h⟩ := aI1_i hs
  cases h
  exact lv_i2l hx hb hd rfl (kk.s hG hM hl)
set_option maxHeartbeats 2000000 in
theorem nx_l2i {p : Program} {l : Launch} {env : Env} {R : Room} {s : State} {m : MethodId} {args : Array Value} {below : List Frame} {meth : Method} {c : Code} {Q : State → Prop} {D : va_G} {b Lx Z : Nat} {xs : Nat → Int32} {mi pc len e1 e2 : Nat} {e3 : Int} {ls : Lv} {st : List Value} {g : GS} {I : Mi} {L : Ml} {B : BJ} {H : Heap} {locs : List Loc} {LS : Array Slot} {cells slots : Nat} {a2 : Nat × Lv × List Value × GS × Mi × Ml} (hC : CX p s m args meth c R mi) (hE : ENV D b Lx xs Z s s.heap) (hG : GOK b Lx xs B g I) (hM : MR1 D Z s B g I L H locs) (hl : lv_has LS (mO mi) (cvl B.1 ls)) (hcl : cells + (a2.2.2.2.1.1 - g.1) ≤ R.cells) (hsl : slots + (a2.2.2.2.1.2.1 - g.2.1) ≤ R.slots) (hall : ∀ r ∈ PT mi, rowC mi r = true) (hrow : rowC mi (pc, .l2i, len, e1, e2, e3) = true) (hs : stp (PT mi) pc (.l2i) len e1 e2 e3 ls st g I L = some (.inr (.inl a2))) (kk : GoTo p l env R s m args below meth c Q D b Lx xs Z mi B g cells slots a2) : W p l env R s m args below meth c H locs cells slots Q (F0 m pc LS (st.map (cv B.1))) := by
  obtain ⟨hx, hb, hr, hml, hown, hts, hlk, hini, hex, hRf, hRl⟩ := id hC
  obtain ⟨hd, hlen⟩ := row_dec hrow
  dsimp only [stp, act] at hs
  change len = 1 at hlen
  subst hlen
  obtain ⟨x, r, rfl, h⟩ := aL1_i hs
  cases h
  exact lv_l2i hx hb hd rfl (kk.s hG hM hl)
set_option maxHeartbeats 2000000 in
theorem nx_dup {p : Program} {l : Launch} {env : Env} {R : Room} {s : State} {m : MethodId} {args : Array Value} {below : List Frame} {meth : Method} {c : Code} {Q : State → Prop} {D : va_G} {b Lx Z : Nat} {xs : Nat → Int32} {mi pc len e1 e2 : Nat} {e3 : Int} {ls : Lv} {st : List Value} {g : GS} {I : Mi} {L : Ml} {B : BJ} {H : Heap} {locs : List Loc} {LS : Array Slot} {cells slots : Nat} {a2 : Nat × Lv × List Value × GS × Mi × Ml} (hC : CX p s m args meth c R mi) (hE : ENV D b Lx xs Z s s.heap) (hG : GOK b Lx xs B g I) (hM : MR1 D Z s B g I L H locs) (hl : lv_has LS (mO mi) (cvl B.1 ls)) (hcl : cells + (a2.2.2.2.1.1 - g.1) ≤ R.cells) (hsl : slots + (a2.2.2.2.1.2.1 - g.2.1) ≤ R.slots) (hall : ∀ r ∈ PT mi, rowC mi r = true) (hrow : rowC mi (pc, .dup, len, e1, e2, e3) = true) (hs : stp (PT mi) pc (.dup) len e1 e2 e3 ls st g I L = some (.inr (.inl a2))) (kk : GoTo p l env R s m args below meth c Q D b Lx xs Z mi B g cells slots a2) : W p l env R s m args below meth c H locs cells slots Q (F0 m pc LS (st.map (cv B.1))) := by
  obtain ⟨hx, hb, hr, hml, hown, hts, hlk, hini, hex, hRf, hRl⟩ := id hC
  obtain ⟨hd, hlen⟩ := row_dec hrow
  dsimp only [stp, act] at hs
  change len = 1 at hlen
  subst hlen
  obtain ⟨v, r, rfl, hv, h⟩ := aDup_i hs
  cases h
  exact lv_dup hx hb hd ((cv_cat _ _).trans hv) (kk.s hG hM hl)
set_option maxHeartbeats 2000000 in
theorem nx_pop {p : Program} {l : Launch} {env : Env} {R : Room} {s : State} {m : MethodId} {args : Array Value} {below : List Frame} {meth : Method} {c : Code} {Q : State → Prop} {D : va_G} {b Lx Z : Nat} {xs : Nat → Int32} {mi pc len e1 e2 : Nat} {e3 : Int} {ls : Lv} {st : List Value} {g : GS} {I : Mi} {L : Ml} {B : BJ} {H : Heap} {locs : List Loc} {LS : Array Slot} {cells slots : Nat} {a2 : Nat × Lv × List Value × GS × Mi × Ml} (hC : CX p s m args meth c R mi) (hE : ENV D b Lx xs Z s s.heap) (hG : GOK b Lx xs B g I) (hM : MR1 D Z s B g I L H locs) (hl : lv_has LS (mO mi) (cvl B.1 ls)) (hcl : cells + (a2.2.2.2.1.1 - g.1) ≤ R.cells) (hsl : slots + (a2.2.2.2.1.2.1 - g.2.1) ≤ R.slots) (hall : ∀ r ∈ PT mi, rowC mi r = true) (hrow : rowC mi (pc, .pop, len, e1, e2, e3) = true) (hs : stp (PT mi) pc (.pop) len e1 e2 e3 ls st g I L = some (.inr (.inl a2))) (kk : GoTo p l env R s m args below meth c Q D b Lx xs Z mi B g cells slots a2) : W p l env R s m args below meth c H locs cells slots Q (F0 m pc LS (st.map (cv B.1))) := by
  obtain ⟨hx, hb, hr, hml, hown, hts, hlk, hini, hex, hRf, hRl⟩ := id hC
  obtain ⟨hd, hlen⟩ := row_dec hrow
  dsimp only [stp, act] at hs
  change len = 1 at hlen
  subst hlen
  obtain ⟨v, r, rfl, hv, h⟩ := aPop_i hs
  cases h
  exact lv_pop hx hb hd ((cv_cat _ _).trans hv) (kk.s hG hM hl)
set_option maxHeartbeats 2000000 in
theorem nx_dup2 {p : Program} {l : Launch} {env : Env} {R : Room} {s : State} {m : MethodId} {args : Array Value} {below : List Frame} {meth : Method} {c : Code} {Q : State → Prop} {D : va_G} {b Lx Z : Nat} {xs : Nat → Int32} {mi pc len e1 e2 : Nat} {e3 : Int} {ls : Lv} {st : List Value} {g : GS} {I : Mi} {L : Ml} {B : BJ} {H : Heap} {locs : List Loc} {LS : Array Slot} {cells slots : Nat} {a2 : Nat × Lv × List Value × GS × Mi × Ml} (hC : CX p s m args meth c R mi) (hE : ENV D b Lx xs Z s s.heap) (hG : GOK b Lx xs B g I) (hM : MR1 D Z s B g I L H locs) (hl : lv_has LS (mO mi) (cvl B.1 ls)) (hcl : cells + (a2.2.2.2.1.1 - g.1) ≤ R.cells) (hsl : slots + (a2.2.2.2.1.2.1 - g.2.1) ≤ R.slots) (hall : ∀ r ∈ PT mi, rowC mi r = true) (hrow : rowC mi (pc, .dup2, len, e1, e2, e3) = true) (hs : stp (PT mi) pc (.dup2) len e1 e2 e3 ls st g I L = some (.inr (.inl a2))) (kk : GoTo p l env R s m args below meth c Q D b Lx xs Z mi B g cells slots a2) : W p l env R s m args below meth c H locs cells slots Q (F0 m pc LS (st.map (cv B.1))) := by
  obtain ⟨hx, hb, hr, hml, hown, hts, hlk, hini, hex, hRf, hRl⟩ := id hC
  obtain ⟨hd, hlen⟩ := row_dec hrow
  dsimp only [stp, act] at hs
  change len = 1 at hlen
  subst hlen
  rcases aDup2_i hs with ⟨v, w, r, rfl, hv, hw, h⟩ | ⟨v, r, rfl, hv, h⟩
  · cases h
    exact lv_dup2_11 hx hb hd ((cv_cat _ _).trans hv) ((cv_cat _ _).trans hw) (kk.s hG hM hl)
  · cases h
    exact lv_dup2_2 hx hb hd ((cv_cat _ _).trans hv) (kk.s hG hM hl)
set_option maxHeartbeats 2000000 in
theorem nx_iload_n {p : Program} {l : Launch} {env : Env} {R : Room} {s : State} {m : MethodId} {args : Array Value} {below : List Frame} {meth : Method} {c : Code} {Q : State → Prop} {D : va_G} {b Lx Z : Nat} {xs : Nat → Int32} {mi pc len e1 e2 : Nat} {e3 : Int} {ls : Lv} {st : List Value} {g : GS} {I : Mi} {L : Ml} {B : BJ} {H : Heap} {locs : List Loc} {LS : Array Slot} {cells slots : Nat} {a2 : Nat × Lv × List Value × GS × Mi × Ml} (hC : CX p s m args meth c R mi) (hE : ENV D b Lx xs Z s s.heap) (hG : GOK b Lx xs B g I) (hM : MR1 D Z s B g I L H locs) (hl : lv_has LS (mO mi) (cvl B.1 ls)) (hcl : cells + (a2.2.2.2.1.1 - g.1) ≤ R.cells) (hsl : slots + (a2.2.2.2.1.2.1 - g.2.1) ≤ R.slots) (hall : ∀ r ∈ PT mi, rowC mi r = true) {n : Fin 4} (hrow : rowC mi (pc, .iload_n n, len, e1, e2, e3) = true) (hs : stp (PT mi) pc (.iload_n n) len e1 e2 e3 ls st g I L = some (.inr (.inl a2))) (kk : GoTo p l env R s m args below meth c Q D b Lx xs Z mi B g cells slots a2) : W p l env R s m args below meth c H locs cells slots Q (F0 m pc LS (st.map (cv B.1))) := by
  obtain ⟨hx, hb, hr, hml, hown, hts, hlk, hini, hex, hRf, hRl⟩ := id hC
  obtain ⟨hd, hlen⟩ := row_dec hrow
  dsimp only [stp, act] at hs
  change len = 1 at hlen
  subst hlen
  obtain ⟨x, h0, h⟩ := aLdI_i hs
  cases h
  exact lv_iload_n hx hb hd rfl (lk_has hl h0) (kk.s hG hM hl)
set_option maxHeartbeats 2000000 in
theorem nx_iload {p : Program} {l : Launch} {env : Env} {R : Room} {s : State} {m : MethodId} {args : Array Value} {below : List Frame} {meth : Method} {c : Code} {Q : State → Prop} {D : va_G} {b Lx Z : Nat} {xs : Nat → Int32} {mi pc len e1 e2 : Nat} {e3 : Int} {ls : Lv} {st : List Value} {g : GS} {I : Mi} {L : Ml} {B : BJ} {H : Heap} {locs : List Loc} {LS : Array Slot} {cells slots : Nat} {a2 : Nat × Lv × List Value × GS × Mi × Ml} (hC : CX p s m args meth c R mi) (hE : ENV D b Lx xs Z s s.heap) (hG : GOK b Lx xs B g I) (hM : MR1 D Z s B g I L H locs) (hl : lv_has LS (mO mi) (cvl B.1 ls)) (hcl : cells + (a2.2.2.2.1.1 - g.1) ≤ R.cells) (hsl : slots + (a2.2.2.2.1.2.1 - g.2.1) ≤ R.slots) (hall : ∀ r ∈ PT mi, rowC mi r = true) {n : Nat} (hrow : rowC mi (pc, .iload n, len, e1, e2, e3) = true) (hs : stp (PT mi) pc (.iload n) len e1 e2 e3 ls st g I L = some (.inr (.inl a2))) (kk : GoTo p l env R s m args below meth c Q D b Lx xs Z mi B g cells slots a2) : W p l env R s m args below meth c H locs cells slots Q (F0 m pc LS (st.map (cv B.1))) := by
  obtain ⟨hx, hb, hr, hml, hown, hts, hlk, hini, hex, hRf, hRl⟩ := id hC
  obtain ⟨hd, hlen⟩ := row_dec hrow
  dsimp only [stp, act] at hs
  change len = 2 at hlen
  subst hlen
  obtain ⟨x, h0, h⟩ := aLdI_i hs
  cases h
  exact lv_iload hx hb hd (lk_has hl h0) (kk.s hG hM hl)
set_option maxHeartbeats 2000000 in
theorem nx_lload_n {p : Program} {l : Launch} {env : Env} {R : Room} {s : State} {m : MethodId} {args : Array Value} {below : List Frame} {meth : Method} {c : Code} {Q : State → Prop} {D : va_G} {b Lx Z : Nat} {xs : Nat → Int32} {mi pc len e1 e2 : Nat} {e3 : Int} {ls : Lv} {st : List Value} {g : GS} {I : Mi} {L : Ml} {B : BJ} {H : Heap} {locs : List Loc} {LS : Array Slot} {cells slots : Nat} {a2 : Nat × Lv × List Value × GS × Mi × Ml} (hC : CX p s m args meth c R mi) (hE : ENV D b Lx xs Z s s.heap) (hG : GOK b Lx xs B g I) (hM : MR1 D Z s B g I L H locs) (hl : lv_has LS (mO mi) (cvl B.1 ls)) (hcl : cells + (a2.2.2.2.1.1 - g.1) ≤ R.cells) (hsl : slots + (a2.2.2.2.1.2.1 - g.2.1) ≤ R.slots) (hall : ∀ r ∈ PT mi, rowC mi r = true) {n : Fin 4} (hrow : rowC mi (pc, .lload_n n, len, e1, e2, e3) = true) (hs : stp (PT mi) pc (.lload_n n) len e1 e2 e3 ls st g I L = some (.inr (.inl a2))) (kk : GoTo p l env R s m args below meth c Q D b Lx xs Z mi B g cells slots a2) : W p l env R s m args below meth c H locs cells slots Q (F0 m pc LS (st.map (cv B.1))) := by
  obtain ⟨hx, hb, hr, hml, hown, hts, hlk, hini, hex, hRf, hRl⟩ := id hC
  obtain ⟨hd, hlen⟩ := row_dec hrow
  dsimp only [stp, act] at hs
  change len = 1 at hlen
  subst hlen
  obtain ⟨x, h0, h⟩ := aLdL_i hs
  cases h
  exact lv_lload_n hx hb hd rfl (lk_has hl h0) (kk.s hG hM hl)
set_option maxHeartbeats 2000000 in
theorem nx_lload {p : Program} {l : Launch} {env : Env} {R : Room} {s : State} {m : MethodId} {args : Array Value} {below : List Frame} {meth : Method} {c : Code} {Q : State → Prop} {D : va_G} {b Lx Z : Nat} {xs : Nat → Int32} {mi pc len e1 e2 : Nat} {e3 : Int} {ls : Lv} {st : List Value} {g : GS} {I : Mi} {L : Ml} {B : BJ} {H : Heap} {locs : List Loc} {LS : Array Slot} {cells slots : Nat} {a2 : Nat × Lv × List Value × GS × Mi × Ml} (hC : CX p s m args meth c R mi) (hE : ENV D b Lx xs Z s s.heap) (hG : GOK b Lx xs B g I) (hM : MR1 D Z s B g I L H locs) (hl : lv_has LS (mO mi) (cvl B.1 ls)) (hcl : cells + (a2.2.2.2.1.1 - g.1) ≤ R.cells) (hsl : slots + (a2.2.2.2.1.2.1 - g.2.1) ≤ R.slots) (hall : ∀ r ∈ PT mi, rowC mi r = true) {n : Nat} (hrow : rowC mi (pc, .lload n, len, e1, e2, e3) = true) (hs : stp (PT mi) pc (.lload n) len e1 e2 e3 ls st g I L = some (.inr (.inl a2))) (kk : GoTo p l env R s m args below meth c Q D b Lx xs Z mi B g cells slots a2) : W p l env R s m args below meth c H locs cells slots Q (F0 m pc LS (st.map (cv B.1))) := by
  obtain ⟨hx, hb, hr, hml, hown, hts, hlk, hini, hex, hRf, hRl⟩ := id hC
  obtain ⟨hd, hlen⟩ := row_dec hrow
  dsimp only [stp, act] at hs
  change len = 2 at hlen
  subst hlen
  obtain ⟨x, h0, h⟩ := aLdL_i hs
  cases h
  exact lv_lload hx hb hd (lk_has hl h0) (kk.s hG hM hl)
set_option maxHeartbeats 2000000 in
theorem nx_aload_n {p : Program} {l : Launch} {env : Env} {R : Room} {s : State} {m : MethodId} {args : Array Value} {below : List Frame} {meth : Method} {c : Code} {Q : State → Prop} {D : va_G} {b Lx Z : Nat} {xs : Nat → Int32} {mi pc len e1 e2 : Nat} {e3 : Int} {ls : Lv} {st : List Value} {g : GS} {I : Mi} {L : Ml} {B : BJ} {H : Heap} {locs : List Loc} {LS : Array Slot} {cells slots : Nat} {a2 : Nat × Lv × List Value × GS × Mi × Ml} (hC : CX p s m args meth c R mi) (hE : ENV D b Lx xs Z s s.heap) (hG : GOK b Lx xs B g I) (hM : MR1 D Z s B g I L H locs) (hl : lv_has LS (mO mi) (cvl B.1 ls)) (hcl : cells + (a2.2.2.2.1.1 - g.1) ≤ R.cells) (hsl : slots + (a2.2.2.2.1.2.1 - g.2.1) ≤ R.slots) (hall : ∀ r ∈ PT mi, rowC mi r = true) {n : Fin 4} (hrow : rowC mi (pc, .aload_n n, len, e1, e2, e3) = true) (hs : stp (PT mi) pc (.aload_n n) len e1 e2 e3 ls st g I L = some (.inr (.inl a2))) (kk : GoTo p l env R s m args below meth c Q D b Lx xs Z mi B g cells slots a2) : W p l env R s m args below meth c H locs cells slots Q (F0 m pc LS (st.map (cv B.1))) := by
  obtain ⟨hx, hb, hr, hml, hown, hts, hlk, hini, hex, hRf, hRl⟩ := id hC
  obtain ⟨hd, hlen⟩ := row_dec hrow
  dsimp only [stp, act] at hs
  change len = 1 at hlen
  subst hlen
  obtain ⟨x, h0, h⟩ := aLdA_i hs
  cases h
  exact lv_aload_n hx hb hd rfl (lk_has hl h0) (kk.s hG hM hl)
set_option maxHeartbeats 2000000 in
theorem nx_aload {p : Program} {l : Launch} {env : Env} {R : Room} {s : State} {m : MethodId} {args : Array Value} {below : List Frame} {meth : Method} {c : Code} {Q : State → Prop} {D : va_G} {b Lx Z : Nat} {xs : Nat → Int32} {mi pc len e1 e2 : Nat} {e3 : Int} {ls : Lv} {st : List Value} {g : GS} {I : Mi} {L : Ml} {B : BJ} {H : Heap} {locs : List Loc} {LS : Array Slot} {cells slots : Nat} {a2 : Nat × Lv × List Value × GS × Mi × Ml} (hC : CX p s m args meth c R mi) (hE : ENV D b Lx xs Z s s.heap) (hG : GOK b Lx xs B g I) (hM : MR1 D Z s B g I L H locs) (hl : lv_has LS (mO mi) (cvl B.1 ls)) (hcl : cells + (a2.2.2.2.1.1 - g.1) ≤ R.cells) (hsl : slots + (a2.2.2.2.1.2.1 - g.2.1) ≤ R.slots) (hall : ∀ r ∈ PT mi, rowC mi r = true) {n : Nat} (hrow : rowC mi (pc, .aload n, len, e1, e2, e3) = true) (hs : stp (PT mi) pc (.aload n) len e1 e2 e3 ls st g I L = some (.inr (.inl a2))) (kk : GoTo p l env R s m args below meth c Q D b Lx xs Z mi B g cells slots a2) : W p l env R s m args below meth c H locs cells slots Q (F0 m pc LS (st.map (cv B.1))) := by
  obtain ⟨hx, hb, hr, hml, hown, hts, hlk, hini, hex, hRf, hRl⟩ := id hC
  obtain ⟨hd, hlen⟩ := row_dec hrow
  dsimp only [stp, act] at hs
  change len = 2 at hlen
  subst hlen
  obtain ⟨x, h0, h⟩ := aLdA_i hs
  cases h
  exact lv_aload hx hb hd (lk_has hl h0) (kk.s hG hM hl)
set_option maxHeartbeats 2000000 in
theorem nx_istore_n {p : Program} {l : Launch} {env : Env} {R : Room} {s : State} {m : MethodId} {args : Array Value} {below : List Frame} {meth : Method} {c : Code} {Q : State → Prop} {D : va_G} {b Lx Z : Nat} {xs : Nat → Int32} {mi pc len e1 e2 : Nat} {e3 : Int} {ls : Lv} {st : List Value} {g : GS} {I : Mi} {L : Ml} {B : BJ} {H : Heap} {locs : List Loc} {LS : Array Slot} {cells slots : Nat} {a2 : Nat × Lv × List Value × GS × Mi × Ml} (hC : CX p s m args meth c R mi) (hE : ENV D b Lx xs Z s s.heap) (hG : GOK b Lx xs B g I) (hM : MR1 D Z s B g I L H locs) (hl : lv_has LS (mO mi) (cvl B.1 ls)) (hcl : cells + (a2.2.2.2.1.1 - g.1) ≤ R.cells) (hsl : slots + (a2.2.2.2.1.2.1 - g.2.1) ≤ R.slots) (hall : ∀ r ∈ PT mi, rowC mi r = true) {n : Fin 4} (hrow : rowC mi (pc, .istore_n n, len, e1, e2, e3) = true) (hs : stp (PT mi) pc (.istore_n n) len e1 e2 e3 ls st g I L = some (.inr (.inl a2))) (kk : GoTo p l env R s m args below meth c Q D b Lx xs Z mi B g cells slots a2) : W p l env R s m args below meth c H locs cells slots Q (F0 m pc LS (st.map (cv B.1))) := by
  obtain ⟨hx, hb, hr, hml, hown, hts, hlk, hini, hex, hRf, hRl⟩ := id hC
  obtain ⟨hd, hlen⟩ := row_dec hrow
  dsimp only [stp, act] at hs
  change len = 1 at hlen
  subst hlen
  obtain ⟨x, r, rfl, h⟩ := aStI_i hs
  cases h
  have hn : (n : Nat) < mO mi := by
    unfold rowC at hrow
    simp only [Bool.and_eq_true] at hrow
    exact nblt hrow.2
  exact lv_istore_n hx hb hd rfl hl hn (cvl_st1 B.1 ls n (.int x)) (fun LS2 hl2 => kk.s hG hM hl2)
set_option maxHeartbeats 2000000 in
theorem nx_istore {p : Program} {l : Launch} {env : Env} {R : Room} {s : State} {m : MethodId} {args : Array Value} {below : List Frame} {meth : Method} {c : Code} {Q : State → Prop} {D : va_G} {b Lx Z : Nat} {xs : Nat → Int32} {mi pc len e1 e2 : Nat} {e3 : Int} {ls : Lv} {st : List Value} {g : GS} {I : Mi} {L : Ml} {B : BJ} {H : Heap} {locs : List Loc} {LS : Array Slot} {cells slots : Nat} {a2 : Nat × Lv × List Value × GS × Mi × Ml} (hC : CX p s m args meth c R mi) (hE : ENV D b Lx xs Z s s.heap) (hG : GOK b Lx xs B g I) (hM : MR1 D Z s B g I L H locs) (hl : lv_has LS (mO mi) (cvl B.1 ls)) (hcl : cells + (a2.2.2.2.1.1 - g.1) ≤ R.cells) (hsl : slots + (a2.2.2.2.1.2.1 - g.2.1) ≤ R.slots) (hall : ∀ r ∈ PT mi, rowC mi r = true) {n : Nat} (hrow : rowC mi (pc, .istore n, len, e1, e2, e3) = true) (hs : stp (PT mi) pc (.istore n) len e1 e2 e3 ls st g I L = some (.inr (.inl a2))) (kk : GoTo p l env R s m args below meth c Q D b Lx xs Z mi B g cells slots a2) : W p l env R s m args below meth c H locs cells slots Q (F0 m pc LS (st.map (cv B.1))) := by
  obtain ⟨hx, hb, hr, hml, hown, hts, hlk, hini, hex, hRf, hRl⟩ := id hC
  obtain ⟨hd, hlen⟩ := row_dec hrow
  dsimp only [stp, act] at hs
  change len = 2 at hlen
  subst hlen
  obtain ⟨x, r, rfl, h⟩ := aStI_i hs
  cases h
  have hn : n < mO mi := by
    unfold rowC at hrow
    simp only [Bool.and_eq_true] at hrow
    exact nblt hrow.2
  exact lv_istore hx hb hd hl hn (cvl_st1 B.1 ls n (.int x)) (fun LS2 hl2 => kk.s hG hM hl2)
set_option maxHeartbeats 2000000 in
theorem nx_lstore_n {p : Program} {l : Launch} {env : Env} {R : Room} {s : State} {m : MethodId} {args : Array Value} {below : List Frame} {meth : Method} {c : Code} {Q : State → Prop} {D : va_G} {b Lx Z : Nat} {xs : Nat → Int32} {mi pc len e1 e2 : Nat} {e3 : Int} {ls : Lv} {st : List Value} {g : GS} {I : Mi} {L : Ml} {B : BJ} {H : Heap} {locs : List Loc} {LS : Array Slot} {cells slots : Nat} {a2 : Nat × Lv × List Value × GS × Mi × Ml} (hC : CX p s m args meth c R mi) (hE : ENV D b Lx xs Z s s.heap) (hG : GOK b Lx xs B g I) (hM : MR1 D Z s B g I L H locs) (hl : lv_has LS (mO mi) (cvl B.1 ls)) (hcl : cells + (a2.2.2.2.1.1 - g.1) ≤ R.cells) (hsl : slots + (a2.2.2.2.1.2.1 - g.2.1) ≤ R.slots) (hall : ∀ r ∈ PT mi, rowC mi r = true) {n : Fin 4} (hrow : rowC mi (pc, .lstore_n n, len, e1, e2, e3) = true) (hs : stp (PT mi) pc (.lstore_n n) len e1 e2 e3 ls st g I L = some (.inr (.inl a2))) (kk : GoTo p l env R s m args below meth c Q D b Lx xs Z mi B g cells slots a2) : W p l env R s m args below meth c H locs cells slots Q (F0 m pc LS (st.map (cv B.1))) := by
  obtain ⟨hx, hb, hr, hml, hown, hts, hlk, hini, hex, hRf, hRl⟩ := id hC
  obtain ⟨hd, hlen⟩ := row_dec hrow
  dsimp only [stp, act] at hs
  change len = 1 at hlen
  subst hlen
  obtain ⟨x, r, rfl, h⟩ := aStL_i hs
  cases h
  have hn : ((n : Nat) + 1) < mO mi := by
    unfold rowC at hrow
    simp only [Bool.and_eq_true] at hrow
    exact nblt hrow.2
  exact lv_lstore_n hx hb hd rfl hl hn (cvl_st2 B.1 ls n (.long x)) (fun LS2 hl2 => kk.s hG hM hl2)
set_option maxHeartbeats 2000000 in
theorem nx_lstore {p : Program} {l : Launch} {env : Env} {R : Room} {s : State} {m : MethodId} {args : Array Value} {below : List Frame} {meth : Method} {c : Code} {Q : State → Prop} {D : va_G} {b Lx Z : Nat} {xs : Nat → Int32} {mi pc len e1 e2 : Nat} {e3 : Int} {ls : Lv} {st : List Value} {g : GS} {I : Mi} {L : Ml} {B : BJ} {H : Heap} {locs : List Loc} {LS : Array Slot} {cells slots : Nat} {a2 : Nat × Lv × List Value × GS × Mi × Ml} (hC : CX p s m args meth c R mi) (hE : ENV D b Lx xs Z s s.heap) (hG : GOK b Lx xs B g I) (hM : MR1 D Z s B g I L H locs) (hl : lv_has LS (mO mi) (cvl B.1 ls)) (hcl : cells + (a2.2.2.2.1.1 - g.1) ≤ R.cells) (hsl : slots + (a2.2.2.2.1.2.1 - g.2.1) ≤ R.slots) (hall : ∀ r ∈ PT mi, rowC mi r = true) {n : Nat} (hrow : rowC mi (pc, .lstore n, len, e1, e2, e3) = true) (hs : stp (PT mi) pc (.lstore n) len e1 e2 e3 ls st g I L = some (.inr (.inl a2))) (kk : GoTo p l env R s m args below meth c Q D b Lx xs Z mi B g cells slots a2) : W p l env R s m args below meth c H locs cells slots Q (F0 m pc LS (st.map (cv B.1))) := by
  obtain ⟨hx, hb, hr, hml, hown, hts, hlk, hini, hex, hRf, hRl⟩ := id hC
  obtain ⟨hd, hlen⟩ := row_dec hrow
  dsimp only [stp, act] at hs
  change len = 2 at hlen
  subst hlen
  obtain ⟨x, r, rfl, h⟩ := aStL_i hs
  cases h
  have hn : n + 1 < mO mi := by
    unfold rowC at hrow
    simp only [Bool.and_eq_true] at hrow
    exact nblt hrow.2
  exact lv_lstore hx hb hd hl hn (cvl_st2 B.1 ls n (.long x)) (fun LS2 hl2 => kk.s hG hM hl2)
set_option maxHeartbeats 2000000 in
theorem nx_astore_n {p : Program} {l : Launch} {env : Env} {R : Room} {s : State} {m : MethodId} {args : Array Value} {below : List Frame} {meth : Method} {c : Code} {Q : State → Prop} {D : va_G} {b Lx Z : Nat} {xs : Nat → Int32} {mi pc len e1 e2 : Nat} {e3 : Int} {ls : Lv} {st : List Value} {g : GS} {I : Mi} {L : Ml} {B : BJ} {H : Heap} {locs : List Loc} {LS : Array Slot} {cells slots : Nat} {a2 : Nat × Lv × List Value × GS × Mi × Ml} (hC : CX p s m args meth c R mi) (hE : ENV D b Lx xs Z s s.heap) (hG : GOK b Lx xs B g I) (hM : MR1 D Z s B g I L H locs) (hl : lv_has LS (mO mi) (cvl B.1 ls)) (hcl : cells + (a2.2.2.2.1.1 - g.1) ≤ R.cells) (hsl : slots + (a2.2.2.2.1.2.1 - g.2.1) ≤ R.slots) (hall : ∀ r ∈ PT mi, rowC mi r = true) {n : Fin 4} (hrow : rowC mi (pc, .astore_n n, len, e1, e2, e3) = true) (hs : stp (PT mi) pc (.astore_n n) len e1 e2 e3 ls st g I L = some (.inr (.inl a2))) (kk : GoTo p l env R s m args below meth c Q D b Lx xs Z mi B g cells slots a2) : W p l env R s m args below meth c H locs cells slots Q (F0 m pc LS (st.map (cv B.1))) := by
  obtain ⟨hx, hb, hr, hml, hown, hts, hlk, hini, hex, hRf, hRl⟩ := id hC
  obtain ⟨hd, hlen⟩ := row_dec hrow
  dsimp only [stp, act] at hs
  change len = 1 at hlen
  subst hlen
  obtain ⟨x, r, rfl, h⟩ := aStA_i hs
  cases h
  have hn : (n : Nat) < mO mi := by
    unfold rowC at hrow
    simp only [Bool.and_eq_true] at hrow
    exact nblt hrow.2
  exact lv_astore_n hx hb hd rfl hl hn (cvl_st1 B.1 ls n (.ref x)) (fun LS2 hl2 => kk.s hG hM hl2)
set_option maxHeartbeats 2000000 in
theorem nx_astore {p : Program} {l : Launch} {env : Env} {R : Room} {s : State} {m : MethodId} {args : Array Value} {below : List Frame} {meth : Method} {c : Code} {Q : State → Prop} {D : va_G} {b Lx Z : Nat} {xs : Nat → Int32} {mi pc len e1 e2 : Nat} {e3 : Int} {ls : Lv} {st : List Value} {g : GS} {I : Mi} {L : Ml} {B : BJ} {H : Heap} {locs : List Loc} {LS : Array Slot} {cells slots : Nat} {a2 : Nat × Lv × List Value × GS × Mi × Ml} (hC : CX p s m args meth c R mi) (hE : ENV D b Lx xs Z s s.heap) (hG : GOK b Lx xs B g I) (hM : MR1 D Z s B g I L H locs) (hl : lv_has LS (mO mi) (cvl B.1 ls)) (hcl : cells + (a2.2.2.2.1.1 - g.1) ≤ R.cells) (hsl : slots + (a2.2.2.2.1.2.1 - g.2.1) ≤ R.slots) (hall : ∀ r ∈ PT mi, rowC mi r = true) {n : Nat} (hrow : rowC mi (pc, .astore n, len, e1, e2, e3) = true) (hs : stp (PT mi) pc (.astore n) len e1 e2 e3 ls st g I L = some (.inr (.inl a2))) (kk : GoTo p l env R s m args below meth c Q D b Lx xs Z mi B g cells slots a2) : W p l env R s m args below meth c H locs cells slots Q (F0 m pc LS (st.map (cv B.1))) := by
  obtain ⟨hx, hb, hr, hml, hown, hts, hlk, hini, hex, hRf, hRl⟩ := id hC
  obtain ⟨hd, hlen⟩ := row_dec hrow
  dsimp only [stp, act] at hs
  change len = 2 at hlen
  subst hlen
  obtain ⟨x, r, rfl, h⟩ := aStA_i hs
  cases h
  have hn : n < mO mi := by
    unfold rowC at hrow
    simp only [Bool.and_eq_true] at hrow
    exact nblt hrow.2
  exact lv_astore hx hb hd hl hn (cvl_st1 B.1 ls n (.ref x)) (fun LS2 hl2 => kk.s hG hM hl2)
set_option maxHeartbeats 2000000 in
theorem nx_iinc {p : Program} {l : Launch} {env : Env} {R : Room} {s : State} {m : MethodId} {args : Array Value} {below : List Frame} {meth : Method} {c : Code} {Q : State → Prop} {D : va_G} {b Lx Z : Nat} {xs : Nat → Int32} {mi pc len e1 e2 : Nat} {e3 : Int} {ls : Lv} {st : List Value} {g : GS} {I : Mi} {L : Ml} {B : BJ} {H : Heap} {locs : List Loc} {LS : Array Slot} {cells slots : Nat} {a2 : Nat × Lv × List Value × GS × Mi × Ml} (hC : CX p s m args meth c R mi) (hE : ENV D b Lx xs Z s s.heap) (hG : GOK b Lx xs B g I) (hM : MR1 D Z s B g I L H locs) (hl : lv_has LS (mO mi) (cvl B.1 ls)) (hcl : cells + (a2.2.2.2.1.1 - g.1) ≤ R.cells) (hsl : slots + (a2.2.2.2.1.2.1 - g.2.1) ≤ R.slots) (hall : ∀ r ∈ PT mi, rowC mi r = true) {n : Nat} {cc : Int} (hrow : rowC mi (pc, .iinc n cc, len, e1, e2, e3) = true) (hs : stp (PT mi) pc (.iinc n cc) len e1 e2 e3 ls st g I L = some (.inr (.inl a2))) (kk : GoTo p l env R s m args below meth c Q D b Lx xs Z mi B g cells slots a2) : W p l env R s m args below meth c H locs cells slots Q (F0 m pc LS (st.map (cv B.1))) := by
  obtain ⟨hx, hb, hr, hml, hown, hts, hlk, hini, hex, hRf, hRl⟩ := id hC
  obtain ⟨hd, hlen⟩ := row_dec hrow
  dsimp only [stp, act] at hs
  change len = 3 at hlen
  subst hlen
  obtain ⟨x, h0, h⟩ := aInc_i hs
  cases h
  have hn : n < mO mi := by
    unfold rowC at hrow
    simp only [Bool.and_eq_true] at hrow
    exact nblt hrow.2
  obtain ⟨j, hj⟩ := lk_at (nL := mO mi) (LS := LS) h0 (a := B.1)
  exact lv_iinc hx hb hd hl hj rfl hn (cvl_st1 B.1 ls n (.int (x + Int32.ofInt cc))) (fun LS2 hl2 => kk.s hG hM hl2)
set_option maxHeartbeats 2000000 in
theorem nx_iconst {p : Program} {l : Launch} {env : Env} {R : Room} {s : State} {m : MethodId} {args : Array Value} {below : List Frame} {meth : Method} {c : Code} {Q : State → Prop} {D : va_G} {b Lx Z : Nat} {xs : Nat → Int32} {mi pc len e1 e2 : Nat} {e3 : Int} {ls : Lv} {st : List Value} {g : GS} {I : Mi} {L : Ml} {B : BJ} {H : Heap} {locs : List Loc} {LS : Array Slot} {cells slots : Nat} {a2 : Nat × Lv × List Value × GS × Mi × Ml} (hC : CX p s m args meth c R mi) (hE : ENV D b Lx xs Z s s.heap) (hG : GOK b Lx xs B g I) (hM : MR1 D Z s B g I L H locs) (hl : lv_has LS (mO mi) (cvl B.1 ls)) (hcl : cells + (a2.2.2.2.1.1 - g.1) ≤ R.cells) (hsl : slots + (a2.2.2.2.1.2.1 - g.2.1) ≤ R.slots) (hall : ∀ r ∈ PT mi, rowC mi r = true) {n : Int} (hrow : rowC mi (pc, .iconst n, len, e1, e2, e3) = true) (hs : stp (PT mi) pc (.iconst n) len e1 e2 e3 ls st g I L = some (.inr (.inl a2))) (kk : GoTo p l env R s m args below meth c Q D b Lx xs Z mi B g cells slots a2) : W p l env R s m args below meth c H locs cells slots Q (F0 m pc LS (st.map (cv B.1))) := by
  obtain ⟨hx, hb, hr, hml, hown, hts, hlk, hini, hex, hRf, hRl⟩ := id hC
  obtain ⟨hd, hlen⟩ := row_dec hrow
  dsimp only [stp, act] at hs
  change len = 1 at hlen
  subst hlen
  cases hs
  exact lv_iconst hx hb hd rfl (kk.s hG hM hl)
set_option maxHeartbeats 2000000 in
theorem nx_lconst {p : Program} {l : Launch} {env : Env} {R : Room} {s : State} {m : MethodId} {args : Array Value} {below : List Frame} {meth : Method} {c : Code} {Q : State → Prop} {D : va_G} {b Lx Z : Nat} {xs : Nat → Int32} {mi pc len e1 e2 : Nat} {e3 : Int} {ls : Lv} {st : List Value} {g : GS} {I : Mi} {L : Ml} {B : BJ} {H : Heap} {locs : List Loc} {LS : Array Slot} {cells slots : Nat} {a2 : Nat × Lv × List Value × GS × Mi × Ml} (hC : CX p s m args meth c R mi) (hE : ENV D b Lx xs Z s s.heap) (hG : GOK b Lx xs B g I) (hM : MR1 D Z s B g I L H locs) (hl : lv_has LS (mO mi) (cvl B.1 ls)) (hcl : cells + (a2.2.2.2.1.1 - g.1) ≤ R.cells) (hsl : slots + (a2.2.2.2.1.2.1 - g.2.1) ≤ R.slots) (hall : ∀ r ∈ PT mi, rowC mi r = true) {n : Fin 2} (hrow : rowC mi (pc, .lconst n, len, e1, e2, e3) = true) (hs : stp (PT mi) pc (.lconst n) len e1 e2 e3 ls st g I L = some (.inr (.inl a2))) (kk : GoTo p l env R s m args below meth c Q D b Lx xs Z mi B g cells slots a2) : W p l env R s m args below meth c H locs cells slots Q (F0 m pc LS (st.map (cv B.1))) := by
  obtain ⟨hx, hb, hr, hml, hown, hts, hlk, hini, hex, hRf, hRl⟩ := id hC
  obtain ⟨hd, hlen⟩ := row_dec hrow
  dsimp only [stp, act] at hs
  change len = 1 at hlen
  subst hlen
  cases hs
  exact lv_lconst hx hb hd rfl (kk.s hG hM hl)
set_option maxHeartbeats 2000000 in
theorem nx_bipush {p : Program} {l : Launch} {env : Env} {R : Room} {s : State} {m : MethodId} {args : Array Value} {below : List Frame} {meth : Method} {c : Code} {Q : State → Prop} {D : va_G} {b Lx Z : Nat} {xs : Nat → Int32} {mi pc len e1 e2 : Nat} {e3 : Int} {ls : Lv} {st : List Value} {g : GS} {I : Mi} {L : Ml} {B : BJ} {H : Heap} {locs : List Loc} {LS : Array Slot} {cells slots : Nat} {a2 : Nat × Lv × List Value × GS × Mi × Ml} (hC : CX p s m args meth c R mi) (hE : ENV D b Lx xs Z s s.heap) (hG : GOK b Lx xs B g I) (hM : MR1 D Z s B g I L H locs) (hl : lv_has LS (mO mi) (cvl B.1 ls)) (hcl : cells + (a2.2.2.2.1.1 - g.1) ≤ R.cells) (hsl : slots + (a2.2.2.2.1.2.1 - g.2.1) ≤ R.slots) (hall : ∀ r ∈ PT mi, rowC mi r = true) {n : Int} (hrow : rowC mi (pc, .bipush n, len, e1, e2, e3) = true) (hs : stp (PT mi) pc (.bipush n) len e1 e2 e3 ls st g I L = some (.inr (.inl a2))) (kk : GoTo p l env R s m args below meth c Q D b Lx xs Z mi B g cells slots a2) : W p l env R s m args below meth c H locs cells slots Q (F0 m pc LS (st.map (cv B.1))) := by
  obtain ⟨hx, hb, hr, hml, hown, hts, hlk, hini, hex, hRf, hRl⟩ := id hC
  obtain ⟨hd, hlen⟩ := row_dec hrow
  dsimp only [stp, act] at hs
  change len = 2 at hlen
  subst hlen
  cases hs
  exact lv_bipush hx hb hd rfl (kk.s hG hM hl)
set_option maxHeartbeats 2000000 in
theorem nx_sipush {p : Program} {l : Launch} {env : Env} {R : Room} {s : State} {m : MethodId} {args : Array Value} {below : List Frame} {meth : Method} {c : Code} {Q : State → Prop} {D : va_G} {b Lx Z : Nat} {xs : Nat → Int32} {mi pc len e1 e2 : Nat} {e3 : Int} {ls : Lv} {st : List Value} {g : GS} {I : Mi} {L : Ml} {B : BJ} {H : Heap} {locs : List Loc} {LS : Array Slot} {cells slots : Nat} {a2 : Nat × Lv × List Value × GS × Mi × Ml} (hC : CX p s m args meth c R mi) (hE : ENV D b Lx xs Z s s.heap) (hG : GOK b Lx xs B g I) (hM : MR1 D Z s B g I L H locs) (hl : lv_has LS (mO mi) (cvl B.1 ls)) (hcl : cells + (a2.2.2.2.1.1 - g.1) ≤ R.cells) (hsl : slots + (a2.2.2.2.1.2.1 - g.2.1) ≤ R.slots) (hall : ∀ r ∈ PT mi, rowC mi r = true) {n : Int} (hrow : rowC mi (pc, .sipush n, len, e1, e2, e3) = true) (hs : stp (PT mi) pc (.sipush n) len e1 e2 e3 ls st g I L = some (.inr (.inl a2))) (kk : GoTo p l env R s m args below meth c Q D b Lx xs Z mi B g cells slots a2) : W p l env R s m args below meth c H locs cells slots Q (F0 m pc LS (st.map (cv B.1))) := by
  obtain ⟨hx, hb, hr, hml, hown, hts, hlk, hini, hex, hRf, hRl⟩ := id hC
  obtain ⟨hd, hlen⟩ := row_dec hrow
  dsimp only [stp, act] at hs
  change len = 3 at hlen
  subst hlen
  cases hs
  exact lv_sipush hx hb hd rfl (kk.s hG hM hl)
set_option maxHeartbeats 2000000 in
theorem nx_ldc2 {p : Program} {l : Launch} {env : Env} {R : Room} {s : State} {m : MethodId} {args : Array Value} {below : List Frame} {meth : Method} {c : Code} {Q : State → Prop} {D : va_G} {b Lx Z : Nat} {xs : Nat → Int32} {mi pc len e1 e2 : Nat} {e3 : Int} {ls : Lv} {st : List Value} {g : GS} {I : Mi} {L : Ml} {B : BJ} {H : Heap} {locs : List Loc} {LS : Array Slot} {cells slots : Nat} {a2 : Nat × Lv × List Value × GS × Mi × Ml} (hC : CX p s m args meth c R mi) (hE : ENV D b Lx xs Z s s.heap) (hG : GOK b Lx xs B g I) (hM : MR1 D Z s B g I L H locs) (hl : lv_has LS (mO mi) (cvl B.1 ls)) (hcl : cells + (a2.2.2.2.1.1 - g.1) ≤ R.cells) (hsl : slots + (a2.2.2.2.1.2.1 - g.2.1) ≤ R.slots) (hall : ∀ r ∈ PT mi, rowC mi r = true) {n : Nat} (hrow : rowC mi (pc, .ldc2_w n, len, e1, e2, e3) = true) (hs : stp (PT mi) pc (.ldc2_w n) len e1 e2 e3 ls st g I L = some (.inr (.inl a2))) (kk : GoTo p l env R s m args below meth c Q D b Lx xs Z mi B g cells slots a2) : W p l env R s m args below meth c H locs cells slots Q (F0 m pc LS (st.map (cv B.1))) := by
  obtain ⟨hx, hb, hr, hml, hown, hts, hlk, hini, hex, hRf, hRl⟩ := id hC
  obtain ⟨hd, hlen⟩ := row_dec hrow
  dsimp only [stp, act] at hs
  change len = 3 at hlen
  subst hlen
  have hw : Cond.constantLong (yO mi).cls n (Int64.ofInt e3) ∈ TB := by
    unfold rowC at hrow
    simp only [Bool.and_eq_true] at hrow
    exact chW_in hrow.2
  cases hs
  exact lv_ldc2 hx hb hown (hts _ hw) hd (kk.s hG hM hl)
set_option maxHeartbeats 2000000 in
theorem nx_goto {p : Program} {l : Launch} {env : Env} {R : Room} {s : State} {m : MethodId} {args : Array Value} {below : List Frame} {meth : Method} {c : Code} {Q : State → Prop} {D : va_G} {b Lx Z : Nat} {xs : Nat → Int32} {mi pc len e1 e2 : Nat} {e3 : Int} {ls : Lv} {st : List Value} {g : GS} {I : Mi} {L : Ml} {B : BJ} {H : Heap} {locs : List Loc} {LS : Array Slot} {cells slots : Nat} {a2 : Nat × Lv × List Value × GS × Mi × Ml} (hC : CX p s m args meth c R mi) (hE : ENV D b Lx xs Z s s.heap) (hG : GOK b Lx xs B g I) (hM : MR1 D Z s B g I L H locs) (hl : lv_has LS (mO mi) (cvl B.1 ls)) (hcl : cells + (a2.2.2.2.1.1 - g.1) ≤ R.cells) (hsl : slots + (a2.2.2.2.1.2.1 - g.2.1) ≤ R.slots) (hall : ∀ r ∈ PT mi, rowC mi r = true) {n : Int} (hrow : rowC mi (pc, .goto n, len, e1, e2, e3) = true) (hs : stp (PT mi) pc (.goto n) len e1 e2 e3 ls st g I L = some (.inr (.inl a2))) (kk : GoTo p l env R s m args below meth c Q D b Lx xs Z mi B g cells slots a2) : W p l env R s m args below meth c H locs cells slots Q (F0 m pc LS (st.map (cv B.1))) := by
  obtain ⟨hx, hb, hr, hml, hown, hts, hlk, hini, hex, hRf, hRl⟩ := id hC
  obtain ⟨hd, hlen⟩ := row_dec hrow
  dsimp only [stp, act] at hs
  change len = 3 at hlen
  subst hlen
  have ht : (pc : Int) + n = (e1 : Int) := by
    unfold rowC at hrow
    simp only [Bool.and_eq_true] at hrow
    exact of_decide_eq_true hrow.2
  cases hs
  exact lv_goto hx hb hd ht (kk.s hG hM hl)
theorem i_nlt {x y : Int32} (h : y ≤ x) : ¬ x < y := Int32.not_lt.mpr h
theorem i_nle {x y : Int32} (h : ¬ y ≤ x) : x < y := Int32.not_le.mp h
theorem l_nlt {x y : Int64} (h : y ≤ x) : ¬ x < y := Int64.not_lt.mpr h
theorem l_nle {x y : Int64} (h : ¬ y ≤ x) : x < y := Int64.not_le.mp h
set_option maxHeartbeats 2000000 in
theorem nx_icmp {p : Program} {l : Launch} {env : Env} {R : Room} {s : State} {m : MethodId} {args : Array Value} {below : List Frame} {meth : Method} {c : Code} {Q : State → Prop} {D : va_G} {b Lx Z : Nat} {xs : Nat → Int32} {mi pc len e1 e2 : Nat} {e3 : Int} {ls : Lv} {st : List Value} {g : GS} {I : Mi} {L : Ml} {B : BJ} {H : Heap} {locs : List Loc} {LS : Array Slot} {cells slots : Nat} {a2 : Nat × Lv × List Value × GS × Mi × Ml} (hC : CX p s m args meth c R mi) (hE : ENV D b Lx xs Z s s.heap) (hG : GOK b Lx xs B g I) (hM : MR1 D Z s B g I L H locs) (hl : lv_has LS (mO mi) (cvl B.1 ls)) (hcl : cells + (a2.2.2.2.1.1 - g.1) ≤ R.cells) (hsl : slots + (a2.2.2.2.1.2.1 - g.2.1) ≤ R.slots) (hall : ∀ r ∈ PT mi, rowC mi r = true) {cc : Jvm.ClassFile.Cond} {n : Int} (hrow : rowC mi (pc, .if_icmp cc n, len, e1, e2, e3) = true) (hs : stp (PT mi) pc (.if_icmp cc n) len e1 e2 e3 ls st g I L = some (.inr (.inl a2))) (kk : GoTo p l env R s m args below meth c Q D b Lx xs Z mi B g cells slots a2) : W p l env R s m args below meth c H locs cells slots Q (F0 m pc LS (st.map (cv B.1))) := by
  obtain ⟨hx, hb, hr, hml, hown, hts, hlk, hini, hex, hRf, hRl⟩ := id hC
  obtain ⟨hd, hlen⟩ := row_dec hrow
  dsimp only [stp, act] at hs
  change len = 3 at hlen
  subst hlen
  have ht : (pc : Int) + n = (e1 : Int) := by
    unfold rowC at hrow
    simp only [Bool.and_eq_true] at hrow
    exact of_decide_eq_true hrow.2
  obtain ⟨y, x, r, rfl, h⟩ := aBr2_i hs
  obtain ⟨q1, q2, q3, q4, q5, q6⟩ := bri_i h
  clear h hs
  cases cc
  · rcases q1 rfl with ⟨hc, h⟩ | ⟨hc, h⟩ <;> cases h
    · exact lv_icmp_eq hx hb hd ht (fun _ => kk.s hG hM hl) (fun n => absurd hc n)
    · exact lv_icmp_eq hx hb hd ht (fun n => absurd n hc) (fun _ => kk.s hG hM hl)
  · rcases q2 rfl with ⟨hc, h⟩ | ⟨hc, h⟩ <;> cases h
    · exact lv_icmp_ne hx hb hd ht (fun n => absurd hc n) (fun _ => kk.s hG hM hl)
    · exact lv_icmp_ne hx hb hd ht (fun _ => kk.s hG hM hl) (fun n => absurd n hc)
  · rcases q3 rfl with ⟨hc, h⟩ | ⟨hc, h⟩ <;> cases h
    · exact lv_icmp_lt hx hb hd ht (fun _ => kk.s hG hM hl) (fun n => absurd hc n)
    · exact lv_icmp_lt hx hb hd ht (fun n => absurd n hc) (fun _ => kk.s hG hM hl)
  · rcases q4 rfl with ⟨hc, h⟩ | ⟨hc, h⟩ <;> cases h
    · exact lv_icmp_ge hx hb hd ht (fun n => absurd hc (i_nlt n)) (fun _ => kk.s hG hM hl)
    · exact lv_icmp_ge hx hb hd ht (fun _ => kk.s hG hM hl) (fun n => absurd (i_nle n) hc)
  · rcases q5 rfl with ⟨hc, h⟩ | ⟨hc, h⟩ <;> cases h
    · exact lv_icmp_gt hx hb hd ht (fun _ => kk.s hG hM hl) (fun n => absurd hc n)
    · exact lv_icmp_gt hx hb hd ht (fun n => absurd n hc) (fun _ => kk.s hG hM hl)
  · rcases q6 rfl with ⟨hc, h⟩ | ⟨hc, h⟩ <;> cases h
    · exact lv_icmp_le hx hb hd ht (fun n => absurd hc (i_nlt n)) (fun _ => kk.s hG hM hl)
    · exact lv_icmp_le hx hb hd ht (fun _ => kk.s hG hM hl) (fun n => absurd (i_nle n) hc)

set_option maxHeartbeats 2000000 in
theorem nx_ifc {p : Program} {l : Launch} {env : Env} {R : Room} {s : State} {m : MethodId} {args : Array Value} {below : List Frame} {meth : Method} {c : Code} {Q : State → Prop} {D : va_G} {b Lx Z : Nat} {xs : Nat → Int32} {mi pc len e1 e2 : Nat} {e3 : Int} {ls : Lv} {st : List Value} {g : GS} {I : Mi} {L : Ml} {B : BJ} {H : Heap} {locs : List Loc} {LS : Array Slot} {cells slots : Nat} {a2 : Nat × Lv × List Value × GS × Mi × Ml} (hC : CX p s m args meth c R mi) (hE : ENV D b Lx xs Z s s.heap) (hG : GOK b Lx xs B g I) (hM : MR1 D Z s B g I L H locs) (hl : lv_has LS (mO mi) (cvl B.1 ls)) (hcl : cells + (a2.2.2.2.1.1 - g.1) ≤ R.cells) (hsl : slots + (a2.2.2.2.1.2.1 - g.2.1) ≤ R.slots) (hall : ∀ r ∈ PT mi, rowC mi r = true) {cc : Jvm.ClassFile.Cond} {n : Int} (hrow : rowC mi (pc, .ifCond cc n, len, e1, e2, e3) = true) (hs : stp (PT mi) pc (.ifCond cc n) len e1 e2 e3 ls st g I L = some (.inr (.inl a2))) (kk : GoTo p l env R s m args below meth c Q D b Lx xs Z mi B g cells slots a2) : W p l env R s m args below meth c H locs cells slots Q (F0 m pc LS (st.map (cv B.1))) := by
  obtain ⟨hx, hb, hr, hml, hown, hts, hlk, hini, hex, hRf, hRl⟩ := id hC
  obtain ⟨hd, hlen⟩ := row_dec hrow
  dsimp only [stp, act] at hs
  change len = 3 at hlen
  subst hlen
  have ht : (pc : Int) + n = (e1 : Int) := by
    unfold rowC at hrow
    simp only [Bool.and_eq_true] at hrow
    exact of_decide_eq_true hrow.2
  obtain ⟨x, r, rfl, h⟩ := aBr1_i hs
  obtain ⟨q1, q2, q3, q4, q5, q6⟩ := bri_i h
  clear h hs
  cases cc
  · rcases q1 rfl with ⟨hc, h⟩ | ⟨hc, h⟩ <;> cases h
    · exact lv_if_eq hx hb hd ht (fun _ => kk.s hG hM hl) (fun n => absurd hc n)
    · exact lv_if_eq hx hb hd ht (fun n => absurd n hc) (fun _ => kk.s hG hM hl)
  · rcases q2 rfl with ⟨hc, h⟩ | ⟨hc, h⟩ <;> cases h
    · exact lv_if_ne hx hb hd ht (fun n => absurd hc n) (fun _ => kk.s hG hM hl)
    · exact lv_if_ne hx hb hd ht (fun _ => kk.s hG hM hl) (fun n => absurd n hc)
  · rcases q3 rfl with ⟨hc, h⟩ | ⟨hc, h⟩ <;> cases h
    · exact lv_if_lt hx hb hd ht (fun _ => kk.s hG hM hl) (fun n => absurd hc n)
    · exact lv_if_lt hx hb hd ht (fun n => absurd n hc) (fun _ => kk.s hG hM hl)
  · rcases q4 rfl with ⟨hc, h⟩ | ⟨hc, h⟩ <;> cases h
    · exact lv_if_ge hx hb hd ht (fun n => absurd hc (i_nlt n)) (fun _ => kk.s hG hM hl)
    · exact lv_if_ge hx hb hd ht (fun _ => kk.s hG hM hl) (fun n => absurd (i_nle n) hc)
  · rcases q5 rfl with ⟨hc, h⟩ | ⟨hc, h⟩ <;> cases h
    · exact lv_if_gt hx hb hd ht (fun _ => kk.s hG hM hl) (fun n => absurd hc n)
    · exact lv_if_gt hx hb hd ht (fun n => absurd n hc) (fun _ => kk.s hG hM hl)
  · rcases q6 rfl with ⟨hc, h⟩ | ⟨hc, h⟩ <;> cases h
    · exact lv_if_le hx hb hd ht (fun n => absurd hc (i_nlt n)) (fun _ => kk.s hG hM hl)
    · exact lv_if_le hx hb hd ht (fun _ => kk.s hG hM hl) (fun n => absurd (i_nle n) hc)

set_option maxHeartbeats 2000000 in
theorem nx_lcmp {p : Program} {l : Launch} {env : Env} {R : Room} {s : State} {m : MethodId} {args : Array Value} {below : List Frame} {meth : Method} {c : Code} {Q : State → Prop} {D : va_G} {b Lx Z : Nat} {xs : Nat → Int32} {mi pc len e1 e2 : Nat} {e3 : Int} {ls : Lv} {st : List Value} {g : GS} {I : Mi} {L : Ml} {B : BJ} {H : Heap} {locs : List Loc} {LS : Array Slot} {cells slots : Nat} {a2 : Nat × Lv × List Value × GS × Mi × Ml} (hC : CX p s m args meth c R mi) (hE : ENV D b Lx xs Z s s.heap) (hG : GOK b Lx xs B g I) (hM : MR1 D Z s B g I L H locs) (hl : lv_has LS (mO mi) (cvl B.1 ls)) (hcl : cells + (a2.2.2.2.1.1 - g.1) ≤ R.cells) (hsl : slots + (a2.2.2.2.1.2.1 - g.2.1) ≤ R.slots) (hall : ∀ r ∈ PT mi, rowC mi r = true) (hrow : rowC mi (pc, .lcmp, len, e1, e2, e3) = true) (hs : stp (PT mi) pc (.lcmp) len e1 e2 e3 ls st g I L = some (.inr (.inl a2))) (kk : GoTo p l env R s m args below meth c Q D b Lx xs Z mi B g cells slots a2) : W p l env R s m args below meth c H locs cells slots Q (F0 m pc LS (st.map (cv B.1))) := by
  obtain ⟨hx, hb, hr, hml, hown, hts, hlk, hini, hex, hRf, hRl⟩ := id hC
  obtain ⟨hd, hlen⟩ := row_dec hrow
  dsimp only [stp, act] at hs
  change len = 1 at hlen
  subst hlen
  obtain ⟨q, cc, o, len2, e1', e2', e3', y, x, r, hnx, rfl, h⟩ := aBrL_i hs
  obtain ⟨hmem, hq⟩ := ftc_mem hnx
  change q = pc + 1 at hq
  subst hq
  have hrow2 := hall _ hmem
  obtain ⟨hd2, hlen2⟩ := row_dec hrow2
  change len2 = 3 at hlen2
  subst hlen2
  have ht : ((pc + 1 : Nat) : Int) + o = (e1' : Int) := by
    unfold rowC at hrow2
    simp only [Bool.and_eq_true] at hrow2
    exact of_decide_eq_true hrow2.2
  obtain ⟨q1, q2, q3, q4, q5, q6⟩ := brl_i h
  clear h hs
  refine W.lcmp hx hb hd ?_
  cases cc
  · rcases q1 rfl with ⟨hc, h⟩ | ⟨hc, h⟩ <;> cases h
    · exact lv_if_eq hx hb hd2 ht (fun _ => kk.s hG hM hl) (fun n => absurd ((lg_cmp_eq x y).mpr hc) n)
    · exact lv_if_eq hx hb hd2 ht (fun n => absurd ((lg_cmp_eq x y).mp n) hc) (fun _ => kk.s hG hM hl)
  · rcases q2 rfl with ⟨hc, h⟩ | ⟨hc, h⟩ <;> cases h
    · exact lv_if_ne hx hb hd2 ht (fun n => absurd ((lg_cmp_eq x y).mpr hc) n) (fun _ => kk.s hG hM hl)
    · exact lv_if_ne hx hb hd2 ht (fun _ => kk.s hG hM hl) (fun n => absurd n (fun z => hc ((lg_cmp_eq x y).mp z)))
  · rcases q3 rfl with ⟨hc, h⟩ | ⟨hc, h⟩ <;> cases h
    · exact lv_if_lt hx hb hd2 ht (fun _ => kk.s hG hM hl) (fun n => absurd ((lg_cmp_lt x y).mpr hc) n)
    · exact lv_if_lt hx hb hd2 ht (fun n => absurd ((lg_cmp_lt x y).mp n) hc) (fun _ => kk.s hG hM hl)
  · rcases q4 rfl with ⟨hc, h⟩ | ⟨hc, h⟩ <;> cases h
    · exact lv_if_ge hx hb hd2 ht (fun n => absurd hc (l_nlt ((lg_cmp_ge x y).mp n))) (fun _ => kk.s hG hM hl)
    · exact lv_if_ge hx hb hd2 ht (fun _ => kk.s hG hM hl) (fun n => absurd (l_nle (fun z => n ((lg_cmp_ge x y).mpr z))) hc)
  · rcases q5 rfl with ⟨hc, h⟩ | ⟨hc, h⟩ <;> cases h
    · exact lv_if_gt hx hb hd2 ht (fun _ => kk.s hG hM hl) (fun n => absurd ((lg_cmp_gt x y).mpr hc) n)
    · exact lv_if_gt hx hb hd2 ht (fun n => absurd ((lg_cmp_gt x y).mp n) hc) (fun _ => kk.s hG hM hl)
  · rcases q6 rfl with ⟨hc, h⟩ | ⟨hc, h⟩ <;> cases h
    · exact lv_if_le hx hb hd2 ht (fun n => absurd hc (l_nlt ((lg_cmp_le x y).mp n))) (fun _ => kk.s hG hM hl)
    · exact lv_if_le hx hb hd2 ht (fun _ => kk.s hG hM hl) (fun n => absurd (l_nle (fun z => n ((lg_cmp_le x y).mpr z))) hc)

