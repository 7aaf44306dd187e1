-- ===== end of PART A; then your names; then what follows =====
/-! THE CLAIM OUT OF ONE WALK OF THE LAW'S BODY. Your part is whole_start (and what it stands on); all else here is the same for every law, but numbers. -/
def R_law : String := "StubBenchLaw"
def lw_P (b : Addr) (xs : List Int32) (args : Array Value) (s : State) : Prop := args = #[.ref b] ∧ s.IntsAt b xs ∧ xs.length ≤ 5120 ∧ (Jvm.Cond.and given_1 narrow_1).before args s = true
def lw_Q (_ : Array Value) (s : State) (o : Outcome) (t : State) : Prop := o = .returned (some (.int 1)) ∧ Framed s o t [] 601024 7293034
def lw_Z (below : List Frame) (a : Array Value) (s : State) : State → Prop := fun t => ∃ o, t.status = .running ∧ Ended t below o ∧ lw_Q a s o t
/-- the law's own end, with 1 on the stack, nothing written that was there before, its room as the claim has it -/
theorem lw_ret {p : Program} {l : Launch} {e : Env} {s : State} {m : MethodId} {below : List Frame} {meth : Method} {c : Code} {b : Nat} (hx : p.tables.exec = Jvm.exec) (hb : c.code = code) (hr : meth.sig.returnType = ret) (hlocks : meth.locks = false) {pc : Nat} {H : Heap} {ls : Array Slot} (hdg : decode code pc = .ok (.ireturn, 1)) : W p l e room_1 s m #[Value.ref b] below meth c H [] 601024 7293034 (lw_Z below #[Value.ref b] s) (F0 m pc ls [.int 1]) := by
  intro T hT X
  obtain ⟨fs, hret, hrun, hended, hW, hframe⟩ := X.leave (v := some (.int 1)) (hlocks := hlocks) (fun h => by rw [hr] at h; cases h)
  have hmeth' : T.vm.method? m = some meth := X.method'
  refine ⟨T.setFrames fs, ?_, .returned (some (.int 1)), hrun, hended, rfl, ⟨_, rfl⟩, hW, hframe⟩
  jvm_step X.here [X.here.top, hx, hb, hdg, hmeth', hr, ret, narrow_b1]
  (try refine ⟨rfl, ?_⟩); (try refine ⟨rfl, ?_⟩)
  first | (intro acts; rw [hret _ acts rfl rfl rfl]) | rw [hret _ _ rfl rfl rfl]
  exact Steps.refl _
/-- what holds at the law's entry: the machine, the code, the tables' words (any of lw_tbl by 'hts w (by decide +kernel)'), the script of L ints xs at the cell b, what the Statement gives of the start (any of its parts by flat_of_before) -/
def lw_At (p : Program) (s : State) (m : MethodId) (meth : Method) (c : Code) (b L : Nat) (xs : Nat → Int32) : Prop :=
  p.tables.exec = Jvm.exec ∧ c.code = code ∧ meth.sig.returnType = ret ∧ c.maxLocals = 8 ∧ s.vm.findClass R_law = some m.cls ∧ (∀ w ∈ lw_tbl, w.before #[Value.ref b] s = true) ∧ va_X b L xs s s.heap ∧ b < s.heap.size ∧ meth.locks = false ∧ (Jvm.Cond.and given_1 narrow_1).before #[Value.ref b] s = true
def g00 (Lx : Nat) : GS := (1, 0, [(20, Lx)], fun _ _ => none)
def I00 (xs : Nat → Int32) : Mi := fun a => cond (Nat.beq a 0) xs (fun _ => 0)
def L00 : Ml := fun _ _ => 0
theorem fr_all {l : Launch} (hl0 : l.stackTraces = false) (D : va_G) (b Lx Z : Nat) (xs : Nat → Int32) {mi : Nat} (hm : mi < 421) {n pc : Nat} {ls : Lv} {st : List Value} {g : GS} {I : Mi} {L : Ml} {e : Nat} {v : Option Value} {g' : GS} {I' : Mi} {L' : Ml} {e' : Nat} (h : run [] n mi (PT mi) pc ls st g I L e K0 = some (.inl v, g', I', L', e')) :
    FrM g e (.inl v) g' e' ∧ FrW l D b Lx xs Z mi pc ls st g I L e (.inl v) g' I' L' e' := by
  obtain ⟨h1, h2⟩ := fr_ok2 hl0 hmt_all hal_all D b Lx Z xs n mi hm pc ls st g I L e _ g' I' L' e' h
  exact ⟨h1, h2 (fun _ => ⟨v, rfl⟩)⟩
set_option maxRecDepth 100000 in
theorem lt_ao : lw_tbl[241]? = some (.arrayOver (.object "StubBench$Shelf")) := by decide +kernel
set_option maxRecDepth 100000 in
theorem lt_u1 : lw_tbl[800]? = some (.laysStatic Bundle.tN "UNASSIGNED_STACK" Bundle.steD) := by decide +kernel
set_option maxRecDepth 100000 in
theorem lt_u2 : lw_tbl[802]? = some (.laysStatic Bundle.tN "SUPPRESSED_SENTINEL" Bundle.listD) := by decide +kernel
set_option maxRecDepth 100000 in
theorem lt_in : lw_tbl[171]? = some (.initialized Bundle.tN) := by decide +kernel
set_option maxRecDepth 100000 in
theorem lt_nc : ∀ x y : Nat, 101 ≤ x → x ≤ 104 → 101 ≤ y → y ≤ 104 → x ≠ y → Cond.not (.castable (exN x) (exN y)) ∈ flatC (Jvm.Cond.and given_1 narrow_1) := by
  intro x y h1 h2 h3 h4 h5
  have hx : x = 101 ∨ x = 102 ∨ x = 103 ∨ x = 104 := by omega
  have hy : y = 101 ∨ y = 102 ∨ y = 103 ∨ y = 104 := by omega
  rcases hx with rfl | rfl | rfl | rfl <;> rcases hy with rfl | rfl | rfl | rfl <;> first | exact absurd rfl h5 | decide +kernel
set_option maxRecDepth 100000 in
theorem lt_r : Cond.isRef (.static Bundle.tN "UNASSIGNED_STACK" Bundle.steD) ∈ flatC (Jvm.Cond.and given_1 narrow_1) ∧ Cond.isRef (.static Bundle.tN "SUPPRESSED_SENTINEL" Bundle.listD) ∈ flatC (Jvm.Cond.and given_1 narrow_1) := by decide +kernel
theorem no_tr {l : Launch} (h : l.flags = flags0) : l.stackTraces = false := by
  unfold Launch.stackTraces
  rw [h]
  decide +kernel
set_option maxHeartbeats 4000000 in
/-- the law's start, where the plain run of the law tells 1 -/
theorem start_ok {p : Program} {e : Env} {s : State} {m : MethodId} {below : List Frame} {meth : Method} {c : Code} (l : Launch) (hflags : l.flags = flags0) {b L : Nat} {xs : Nat → Int32} (C0 : lw_At p s m meth c b L xs) {n : Nat} {g' : GS} {I' : Mi} {L' : Ml} {e' : Nat}
    (hrun : run [] n 420 (PT 420) 0 [(0, .ref 0)] [] (g00 L) (I00 xs) L00 0 K0 = some (.inl (some (.int 1)), g', I', L', e')) (hc1 : g'.1 + e' ≤ 601025) (hs1 : g'.2.1 + 6 * e' ≤ 7293034) :
    W p l e room_1 s m #[Value.ref b] below meth c s.heap [] 0 0 (lw_Z below #[Value.ref b] s) (entryFrame m ([Value.ref b] : List Value).toArray 8) := by
  obtain ⟨hx, hb, hr, hml, hown, hts, hX, hbl, hlocks, hgv⟩ := id C0
  have htb : ∀ w ∈ TB, w.before #[Value.ref b] s = true := fun w hw => hts w (List.mem_filter.mp hw).1
  have hcl : ∀ k : Nat, ∃ (q : ClassId × (Nat → Nat)), ∀ r : vw_C, vwCl[k]? = some r → u_Kn s r.1 r.2.1 r.2.2 q.1 q.2 := by
    intro k
    by_cases hk : k < 13
    · obtain ⟨ty0, cf1, cf2, cf3, cf4, cf5, cf6⟩ := clF_all hk
      obtain ⟨cC, iS, h⟩ := u_known (C := (clO k).1) (T := (clO k).2.1) (N := (clO k).2.2) htb cf3 (htb _ cf4)
      refine ⟨(cC, iS), fun r hr => ?_⟩
      cases (clO_at hk).symm.trans hr
      exact h
    · refine ⟨(0, fun _ => 0), fun r hr => ?_⟩
      have : k < vwCl.length := (List.getElem?_eq_some_iff.mp hr).1
      exact absurd this hk
  obtain ⟨f, hf⟩ := Classical.axiomOfChoice hcl
  have hK : va_K (fun k => (f k).1, fun k => (f k).2) vwCl [] s := ⟨fun k r hr => hf k r hr, fun k q h => by simp at h⟩
  have hflat := flat_of_before _ hgv
  have hE : ENV (fun k => (f k).1, fun k => (f k).2) b L xs s.heap.size s s.heap := by
    refine ⟨fun w h1 h2 => va_Nw.of (nw_on h2) (hts w h1), va_AO.of (hts _ (List.mem_of_getElem? lt_ao)), fun x y h1 h2 h3 h4 h5 => va_Nc.of (hflat _ (lt_nc x y h1 h2 h3 h4 h5)), ?_, ?_, hX, hbl, Nat.le_refl _⟩
    · exact vx_Zqof (hts _ (List.mem_of_getElem? lt_u1)) (hts _ (List.mem_of_getElem? lt_in)) (hflat _ lt_r.1) (fun a h => Nat.not_le.mpr h)
    · exact vx_Zqof (hts _ (List.mem_of_getElem? lt_u2)) (hts _ (List.mem_of_getElem? lt_in)) (hflat _ lt_r.2) (fun a h => Nat.not_le.mpr h)
  obtain ⟨⟨f1, f2, f3, f4⟩, hW⟩ := fr_all (no_tr hflags) (fun k => (f k).1, fun k => (f k).2) b L s.heap.size xs (by decide : 420 < 421) hrun
  have hG : GOK b L xs (fun _ => b, fun _ => 0, []) (g00 L) (I00 xs) := by
    refine ⟨rfl, rfl, rfl, Nat.zero_lt_one, rfl, fun k j r h => (by cases h), fun k h0 h1 => ?_, fun k h0 h1 => ?_, fun k h0 h1 => ?_, fun k h0 h1 => ?_⟩ <;> (change k < 1 at h1; omega)
  have hl := lv_entry ([.ref b]) (n := 8) (Nat.le_of_ble_eq_true rfl)
  rw [lg_entry_eq]
  have h := hW p e room_1 s m #[Value.ref b] below meth c (fun _ => b, fun _ => 0, []) (g00 L) (fun _ => b, fun _ => 0, []) s.heap [] _ 0 0 _ _ ⟨hx, hb, hr, hml, hown, htb, hlocks, fun k => absurd k (by decide), fun z => absurd rfl z, by decide, by decide⟩ hE BX.rf (Nat.le_refl _) hG
    ⟨hK, fun k q h => by simp [wld, g00] at h, ⟨fun i j p q h => by simp [wld, g00] at h, fun k q h => by simp [wld, g00] at h⟩, va_S.rf⟩ hl (by show g'.1 + e' - (1 + 0) ≤ 601024; omega) (by show g'.2.1 + 6 * e' - (0 + 6 * 0) ≤ 7293034; omega) (Nat.zero_add _) (Nat.zero_add _)
  intro T hT X
  obtain ⟨t, a1, o, b1, b2, b3⟩ := h T hT X
  refine ⟨t, a1, o, b1, b2, ?_⟩
  rcases b3 with ⟨⟨rfl, -⟩, Lc, ⟨c1, c2, c3⟩, c4⟩ | ⟨q, -, E, ce, Lc, hxx, -⟩
  · refine ⟨rfl, c1, c2, ?_⟩
    obtain ⟨d1, d2, d3, d4, d5, d6⟩ := c3
    refine State.sameButNew.mono ⟨d1, d2, d3, d4, d5, fun q cell hq => ?_⟩ (by show g'.1 + e' - (1 + 0) ≤ 601024; omega) (by show g'.2.1 + 6 * e' - (0 + 6 * 0) ≤ 7293034; omega)
    obtain ⟨c9, e1, e2, e3, e4⟩ := d6 q cell hq
    refine ⟨c9, e1, e2, e3, fun i _ => e4 i (fun hm => ?_)⟩
    have := c4 _ hm
    have hlt : q < s.heap.size := (Array.getElem?_eq_some_iff.mp hq).1
    exact absurd this (Nat.not_le.mpr hlt)
  · exact hxx.elim
