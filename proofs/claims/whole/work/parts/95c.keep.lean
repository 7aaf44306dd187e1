/-! The state that lasts; keep and bring. -/
theorem f_203_0 : ftc (PT 203) 0 = some (0, .iload_n 1, 1, 0, 0, 0) := by decide +kernel
theorem f_203_1 : ftc (PT 203) 1 = some (1, .ifCond .lt 8, 3, 9, 0, 0) := by decide +kernel
theorem f_203_4 : ftc (PT 203) 4 = some (4, .iload_n 1, 1, 0, 0, 0) := by decide +kernel
theorem f_203_5 : ftc (PT 203) 5 = some (5, .iconst 4, 1, 0, 0, 0) := by decide +kernel
theorem f_203_6 : ftc (PT 203) 6 = some (6, .if_icmp .lt 11, 3, 17, 0, 0) := by decide +kernel
theorem f_203_9 : ftc (PT 203) 9 = some (9, .new 472, 3, 103, 6, 894) := by decide +kernel
theorem f_203_17 : ftc (PT 203) 17 = some (17, .return_, 1, 0, 0, 0) := by decide +kernel
set_option maxRecDepth 10000 in
set_option maxHeartbeats 4000000 in
theorem s_203_0 {Lx : Nat} {I : Mi} {L : Ml} {e : Nat} {Q : Kq} {x1 : Int32} (h :
    (if x1 < 0 then
     Q (.inr 103) (gE Lx) I L (e + 1)
    else
     (if x1 < (Int32.ofInt 4) then
      Q (.inl none) (gE Lx) I L e
     else
      Q (.inr 103) (gE Lx) I L (e + 1)))) :
    Wp 203 0 [(0, .ref 1), (1, .int x1)] [] (gE Lx) I L e Q := by
  refine w_a f_203_0 ?_
  refine w_a f_203_1 ?_
  refine i_m (fun h => ?_) (fun h => ?_) h
  · refine w_a f_203_9 ?_
    exact h
  · refine w_a f_203_4 ?_
    refine w_a f_203_5 ?_
    refine w_a f_203_6 ?_
    refine i_m (fun h => ?_) (fun h => ?_) h
    · refine w_a f_203_17 ?_
      exact h
    · refine w_a f_203_9 ?_
      exact h
def ShAt (I : Mi) (k : Nat) (o : Option Ch) : Prop := (o = none → I (30 + 7 * k) 0 = .ofInt 0) ∧ (∀ c, o = some c → I (30 + 7 * k) 0 = .ofInt 1 ∧ ChAt I (31 + 7 * k) c)
def ShRt (I : Mi) (k : Nat) (o : Option Ch) : Prop := (o = none → I 60 (17 * k + 16) = .ofInt 0) ∧ (∀ c, o = some c → I 60 (17 * k + 16) = .ofInt 1 ∧ BnAt I 60 (17 * k) c)
def ShOk (sh : Nat → Option Ch) : Prop := ∀ k c, k < 4 → sh k = some c → ChOk c
def CSt (I : Mi) (ch : Ch) (sh : Nat → Option Ch) (l4 l5 : Int) : Prop := ChAt I 5 ch ∧ LimAt I l4 l5 ∧ TabAt I ∧ ∀ k, k < 4 → ShAt I k (sh k)
def RSt (I : Mi) (ch : Ch) (sh : Nat → Option Ch) (l4 l5 : Int) : Prop := BnAt I 59 0 ch ∧ LimRt I l4 l5 ∧ TabRt I ∧ ∀ k, k < 4 → ShRt I k (sh k)
theorem CSt.c {I : Mi} {ch : Ch} {sh : Nat → Option Ch} {a b : Int} (h : CSt I ch sh a b) : ChAt I 5 ch := h.1
theorem CSt.l {I : Mi} {ch : Ch} {sh : Nat → Option Ch} {a b : Int} (h : CSt I ch sh a b) : LimAt I a b := h.2.1
theorem CSt.t {I : Mi} {ch : Ch} {sh : Nat → Option Ch} {a b : Int} (h : CSt I ch sh a b) : TabAt I := h.2.2.1
theorem CSt.s {I : Mi} {ch : Ch} {sh : Nat → Option Ch} {a b : Int} (h : CSt I ch sh a b) : ∀ k, k < 4 → ShAt I k (sh k) := h.2.2.2
theorem RSt.c {I : Mi} {ch : Ch} {sh : Nat → Option Ch} {a b : Int} (h : RSt I ch sh a b) : BnAt I 59 0 ch := h.1
theorem RSt.l {I : Mi} {ch : Ch} {sh : Nat → Option Ch} {a b : Int} (h : RSt I ch sh a b) : LimRt I a b := h.2.1
theorem RSt.t {I : Mi} {ch : Ch} {sh : Nat → Option Ch} {a b : Int} (h : RSt I ch sh a b) : TabRt I := h.2.2.1
theorem RSt.s {I : Mi} {ch : Ch} {sh : Nat → Option Ch} {a b : Int} (h : RSt I ch sh a b) : ∀ k, k < 4 → ShRt I k (sh k) := h.2.2.2
theorem ShAt.cg {I I' : Mi} {k : Nat} {o : Option Ch} (h : ShAt I k o) (e0 : I' (30 + 7 * k) 0 = I (30 + 7 * k) 0) (e1 : I' (31 + 7 * k) = I (31 + 7 * k)) (e2 : I' (32 + 7 * k) = I (32 + 7 * k)) (e3 : I' (33 + 7 * k) = I (33 + 7 * k)) (e4 : I' (34 + 7 * k) = I (34 + 7 * k)) : ShAt I' k o := by
  refine ⟨fun w => e0.trans (h.1 w), fun c w => ⟨e0.trans (h.2 c w).1, (h.2 c w).2.cg e1 ?_ ?_ ?_⟩⟩
  · rw [show 31 + 7 * k + 1 = 32 + 7 * k by omega]; exact e2
  · rw [show 31 + 7 * k + 2 = 33 + 7 * k by omega]; exact e3
  · rw [show 31 + 7 * k + 3 = 34 + 7 * k by omega]; exact e4
theorem ShRt.cg {I I' : Mi} {k : Nat} {o : Option Ch} (h : ShRt I k o) (e : I' 60 = I 60) : ShRt I' k o := by unfold ShRt BnAt; rw [e]; exact h
/-- what a frame leaves -/
theorem cs_sh {I I' : Mi} (hf : FrI cW I I') {k : Nat} (hk : k < 4) {o : Option Ch} (h : ShAt I k o) : ShAt I' k o := by
  have : k = 0 ∨ k = 1 ∨ k = 2 ∨ k = 3 := by omega
  rcases this with rfl | rfl | rfl | rfl
  · exact h.cg (hf 30 0 rfl) (hf.at (k := 31) rfl) (hf.at (k := 32) rfl) (hf.at (k := 33) rfl) (hf.at (k := 34) rfl)
  · exact h.cg (hf 37 0 rfl) (hf.at (k := 38) rfl) (hf.at (k := 39) rfl) (hf.at (k := 40) rfl) (hf.at (k := 41) rfl)
  · exact h.cg (hf 44 0 rfl) (hf.at (k := 45) rfl) (hf.at (k := 46) rfl) (hf.at (k := 47) rfl) (hf.at (k := 48) rfl)
  · exact h.cg (hf 51 0 rfl) (hf.at (k := 52) rfl) (hf.at (k := 53) rfl) (hf.at (k := 54) rfl) (hf.at (k := 55) rfl)
theorem CSt.w {I I' : Mi} {ch c2 : Ch} {sh : Nat → Option Ch} {a b : Int} (h : CSt I ch sh a b) (hf : FrI cW I I') (hc : ChAt I' 5 c2) : CSt I' c2 sh a b :=
  ⟨hc, h.l.cg (hf.at rfl), h.t.cg (hf.at rfl) (hf.at rfl), fun k hk => cs_sh hf hk (h.s k hk)⟩
theorem CSt.f {I I' : Mi} {ch : Ch} {sh : Nat → Option Ch} {a b : Int} (h : CSt I ch sh a b) (hf : FrI cS I I') : CSt I' ch sh a b :=
  h.w (hf.up rfl) (h.c.cg (hf.at rfl) (hf.at rfl) (hf.at rfl) (hf.at rfl))
theorem RSt.w {I I' : Mi} {ch c2 : Ch} {sh : Nat → Option Ch} {a b : Int} (h : RSt I ch sh a b) (hf : FrI rW I I') (hc : BnAt I' 59 0 c2) : RSt I' c2 sh a b :=
  ⟨hc, h.l.cg (hf 58 3 rfl) (hf 58 4 rfl), h.t.cg (hf 58 7 rfl) (hf.at rfl) (hf.at rfl), fun k hk => (h.s k hk).cg (hf.at rfl)⟩
theorem RSt.f {I I' : Mi} {ch : Ch} {sh : Nat → Option Ch} {a b : Int} (h : RSt I ch sh a b) (hf : FrI rS I I') : RSt I' ch sh a b :=
  h.w (hf.up rfl) (h.c.cg (hf.at rfl))
/-- the class leaves the other side alone, and the other way round -/
theorem RSt.cw {I I' : Mi} {ch : Ch} {sh : Nat → Option Ch} {a b : Int} (h : RSt I ch sh a b) (hf : FrI cW I I') : RSt I' ch sh a b :=
  ⟨h.c.cg (hf.at rfl), h.l.cg (hf 58 3 rfl) (hf 58 4 rfl), h.t.cg (hf 58 7 rfl) (hf.at rfl) (hf.at rfl), fun k hk => (h.s k hk).cg (hf.at rfl)⟩
theorem CSt.rw {I I' : Mi} {ch : Ch} {sh : Nat → Option Ch} {a b : Int} (h : CSt I ch sh a b) (hf : FrI rW I I') : CSt I' ch sh a b := by
  refine ⟨h.c.cg (hf.at rfl) (hf.at rfl) (hf.at rfl) (hf.at rfl), h.l.cg (hf.at rfl), h.t.cg (hf.at rfl) (hf.at rfl), fun k hk => ?_⟩
  have : k = 0 ∨ k = 1 ∨ k = 2 ∨ k = 3 := by omega
  rcases this with rfl | rfl | rfl | rfl
  · exact (h.s 0 hk).cg (hf 30 0 rfl) (hf.at (k := 31) rfl) (hf.at (k := 32) rfl) (hf.at (k := 33) rfl) (hf.at (k := 34) rfl)
  · exact (h.s 1 hk).cg (hf 37 0 rfl) (hf.at (k := 38) rfl) (hf.at (k := 39) rfl) (hf.at (k := 40) rfl) (hf.at (k := 41) rfl)
  · exact (h.s 2 hk).cg (hf 44 0 rfl) (hf.at (k := 45) rfl) (hf.at (k := 46) rfl) (hf.at (k := 47) rfl) (hf.at (k := 48) rfl)
  · exact (h.s 3 hk).cg (hf 51 0 rfl) (hf.at (k := 52) rfl) (hf.at (k := 53) rfl) (hf.at (k := 54) rfl) (hf.at (k := 55) rfl)
def shU (sh : Nat → Option Ch) (k : Nat) (ch : Ch) : Nat → Option Ch := fun j => if j = k then some ch else sh j
def kF0 : Fr := [(30, 0, 1), (31, 0, 0), (32, 0, 0), (33, 0, 0), (34, 0, 0)]
def kF1 : Fr := [(37, 0, 1), (38, 0, 0), (39, 0, 0), (40, 0, 0), (41, 0, 0)]
def kF2 : Fr := [(44, 0, 1), (45, 0, 0), (46, 0, 0), (47, 0, 0), (48, 0, 0)]
def kF3 : Fr := [(51, 0, 1), (52, 0, 0), (53, 0, 0), (54, 0, 0), (55, 0, 0)]
/-- all cells of shelves of the class -/
def kF : Fr := [(30, 0, 1), (31, 0, 0), (32, 0, 0), (33, 0, 0), (34, 0, 0), (37, 0, 1), (38, 0, 0), (39, 0, 0), (40, 0, 0), (41, 0, 0), (44, 0, 1), (45, 0, 0), (46, 0, 0), (47, 0, 0), (48, 0, 0), (51, 0, 1), (52, 0, 0), (53, 0, 0), (54, 0, 0), (55, 0, 0)]
theorem RSt.k {I I' : Mi} {ch : Ch} {sh : Nat → Option Ch} {a b : Int} (h : RSt I ch sh a b) (hf : FrI kF I I') : RSt I' ch sh a b :=
  ⟨h.c.cg (hf.at rfl), h.l.cg (hf 58 3 rfl) (hf 58 4 rfl), h.t.cg (hf 58 7 rfl) (hf.at rfl) (hf.at rfl), fun k hk => (h.s k hk).cg (hf.at rfl)⟩
def brO (ch : Ch) : Option Ch → Nat × Int × Ch
  | none => (2, 0, ch)
  | some c => (0, (c.2.2.2.1 : Int), c)
def spBring (sh : Nat → Option Ch) (ch : Ch) (k : Int) : Nat × Int × Ch := if k < 0 ∨ 3 < k then (1, 0, ch) else brO ch (sh k.toNat)
section
variable {Lx : Nat} {I : Mi} {L : Ml} {e : Nat} {Q : Kq}
theorem n_203 {k : Int} (hk : R32 k) (h1 : 0 ≤ k → k < 4 → Q (.inl none) (gE Lx) I L e) (h0 : (k < 0 ∨ 3 < k) → Q (.inr 103) (gE Lx) I L (e + 1)) : Wp 203 0 [(0, .ref 1), (1, .int (Int32.ofInt k))] [] (gE Lx) I L e Q :=
  s_203_0 (i_ltz hk (fun q => h0 (by omega)) (fun q1 => i_lt32 hk (by omega) (fun q2 => h1 q1 q2) (fun q2 => h0 (by omega))))
/-- kept on shelf 0 -/
theorem k_202_0 {ch : Ch} {sh : Nat → Option Ch} {a b : Int} (h4 : ch.2.2.2.1 ≤ 4) (hs : CSt I ch sh a b) (h : ∀ I', FrI kF0 I I' → CSt I' ch (shU sh 0 ch) a b → Q (.inl (some (.int (Int32.ofInt (ch.2.2.2.1 : Int))))) (gE Lx) I' L e) : Wp 202 5 [(0, .ref 1), (1, .int (Int32.ofInt 0))] [] (gE Lx) I L e Q := by
  refine s_202_5_0 ?_
  rw [hs.c.2.2.2.1]
  have key : ∀ I2 : Mi, FrI kF0 I I2 → I2 30 0 = Int32.ofInt 1 → (I2 31 0 = I 5 0 ∧ I2 31 1 = I 5 1 ∧ I2 31 2 = I 5 2 ∧ I2 31 3 = Int32.ofInt (ch.2.2.2.1 : Int)) → (∀ k, k < 4 → I2 32 k = I 6 k ∧ I2 33 k = I 7 k ∧ I2 34 k = I 8 k) → Q (.inl (some (.int (Int32.ofInt (ch.2.2.2.1 : Int))))) (gE Lx) I2 L e := by
    intro I2 hf hfu hr hk
    obtain ⟨z0, z1, z2, z3, z4⟩ := hs.c
    refine h I2 hf ⟨hs.c.cg (hf.at rfl) (hf.at rfl) (hf.at rfl) (hf.at rfl), hs.l.cg (hf.at rfl), hs.t.cg (hf.at rfl) (hf.at rfl), fun k hk4 => ?_⟩
    unfold shU
    by_cases q : k = 0
    · subst q
      rw [if_pos rfl]
      refine ⟨(fun w => by cases w), fun c w => ?_⟩
      cases w
      exact ⟨hfu, hr.1.trans z0, hr.2.1.trans z1, hr.2.2.1.trans z2, hr.2.2.2, fun j hj => ⟨(hk j (by omega)).1.trans (z4 j hj).1, (hk j (by omega)).2.1.trans (z4 j hj).2.1, (hk j (by omega)).2.2.trans (z4 j hj).2.2⟩⟩
    · rw [if_neg q]
      have : k = 1 ∨ k = 2 ∨ k = 3 := by omega
      rcases this with rfl | rfl | rfl
      · exact (hs.s 1 hk4).cg (hf 37 0 rfl) (hf.at (k := 38) rfl) (hf.at (k := 39) rfl) (hf.at (k := 40) rfl) (hf.at (k := 41) rfl)
      · exact (hs.s 2 hk4).cg (hf 44 0 rfl) (hf.at (k := 45) rfl) (hf.at (k := 46) rfl) (hf.at (k := 47) rfl) (hf.at (k := 48) rfl)
      · exact (hs.s 3 hk4).cg (hf 51 0 rfl) (hf.at (k := 52) rfl) (hf.at (k := 53) rfl) (hf.at (k := 54) rfl) (hf.at (k := 55) rfl)
  refine key _ (FrI.wr (FrI.wr (FrI.wr (FrI.wu (FrI.wu (FrI.wu (FrI.wu (FrI.wu FrI.rf rfl) rfl) rfl) rfl) rfl) (fun _ => rfl)) (fun _ => rfl)) (fun _ => rfl)) rfl ⟨rfl, rfl, rfl, rfl⟩ (fun k hk => ⟨?_, ?_, ?_⟩)
  · rw [ri_ne (by decide), ri_ne (by decide), ri_at, cpy_at hk]; rfl
  · rw [ri_ne (by decide), ri_at, cpy_at hk]; rfl
  · rw [ri_at, cpy_at hk]; rfl
/-- brought from shelf 0 -/
theorem k_204_0 {ch : Ch} {sh : Nat → Option Ch} {a b : Int} (hok : ShOk sh) (hs : CSt I ch sh a b) (h1 : ∀ c I', sh 0 = some c → FrI cW I I' → ChAt I' 5 c → Q (.inl (some (.int (Int32.ofInt (c.2.2.2.1 : Int))))) (gE Lx) I' L e) (h0 : sh 0 = none → Q (.inr 102) (gE Lx) I L (e + 1)) : Wp 204 5 [(0, .ref 1), (1, .int (Int32.ofInt 0))] [] (gE Lx) I L e Q := by
  refine s_204_5_0 ?_
  have hk := hs.s 0 (by omega)
  cases ho : sh 0 with
  | none =>
    have e0 : I 30 0 = Int32.ofInt 0 := hk.1 ho
    rw [e0]
    exact j_0 (h0 ho)
  | some c =>
    have e0 : I 30 0 = Int32.ofInt 1 := (hk.2 c ho).1
    have hc : ChAt I 31 c := (hk.2 c ho).2
    have h4 := (hok 0 c (by omega) ho).2.2.2.1
    obtain ⟨z0, z1, z2, z3, z4⟩ := hc
    rw [e0, z3]
    refine j_1 ?_
    have key : ∀ I2 : Mi, FrI cW I I2 → (I2 5 0 = I 31 0 ∧ I2 5 1 = I 31 1 ∧ I2 5 2 = I 31 2 ∧ I2 5 3 = Int32.ofInt (c.2.2.2.1 : Int)) → (∀ k, k < 4 → I2 6 k = I 32 k ∧ I2 7 k = I 33 k ∧ I2 8 k = I 34 k) → Q (.inl (some (.int (Int32.ofInt (c.2.2.2.1 : Int))))) (gE Lx) I2 L e := by
      intro I2 hf hr hk
      exact h1 c I2 ho hf ⟨hr.1.trans z0, hr.2.1.trans z1, hr.2.2.1.trans z2, hr.2.2.2, fun j hj => ⟨(hk j (by omega)).1.trans (z4 j hj).1, (hk j (by omega)).2.1.trans (z4 j hj).2.1, (hk j (by omega)).2.2.trans (z4 j hj).2.2⟩⟩
    refine key _ (FrI.wr (FrI.wr (FrI.wr (FrI.wu (FrI.wu (FrI.wu (FrI.wu FrI.rf rfl) rfl) rfl) rfl) (fun _ => rfl)) (fun _ => rfl)) (fun _ => rfl)) ⟨rfl, rfl, rfl, rfl⟩ (fun k hk => ⟨?_, ?_, ?_⟩)
    · rw [ri_ne (by decide), ri_ne (by decide), ri_at, cpy_at hk]; rfl
    · rw [ri_ne (by decide), ri_at, cpy_at hk]; rfl
    · rw [ri_at, cpy_at hk]; rfl
/-- kept on shelf 1 -/
theorem k_202_1 {ch : Ch} {sh : Nat → Option Ch} {a b : Int} (h4 : ch.2.2.2.1 ≤ 4) (hs : CSt I ch sh a b) (h : ∀ I', FrI kF1 I I' → CSt I' ch (shU sh 1 ch) a b → Q (.inl (some (.int (Int32.ofInt (ch.2.2.2.1 : Int))))) (gE Lx) I' L e) : Wp 202 5 [(0, .ref 1), (1, .int (Int32.ofInt 1))] [] (gE Lx) I L e Q := by
  refine s_202_5_1 ?_
  rw [hs.c.2.2.2.1]
  have key : ∀ I2 : Mi, FrI kF1 I I2 → I2 37 0 = Int32.ofInt 1 → (I2 38 0 = I 5 0 ∧ I2 38 1 = I 5 1 ∧ I2 38 2 = I 5 2 ∧ I2 38 3 = Int32.ofInt (ch.2.2.2.1 : Int)) → (∀ k, k < 4 → I2 39 k = I 6 k ∧ I2 40 k = I 7 k ∧ I2 41 k = I 8 k) → Q (.inl (some (.int (Int32.ofInt (ch.2.2.2.1 : Int))))) (gE Lx) I2 L e := by
    intro I2 hf hfu hr hk
    obtain ⟨z0, z1, z2, z3, z4⟩ := hs.c
    refine h I2 hf ⟨hs.c.cg (hf.at rfl) (hf.at rfl) (hf.at rfl) (hf.at rfl), hs.l.cg (hf.at rfl), hs.t.cg (hf.at rfl) (hf.at rfl), fun k hk4 => ?_⟩
    unfold shU
    by_cases q : k = 1
    · subst q
      rw [if_pos rfl]
      refine ⟨(fun w => by cases w), fun c w => ?_⟩
      cases w
      exact ⟨hfu, hr.1.trans z0, hr.2.1.trans z1, hr.2.2.1.trans z2, hr.2.2.2, fun j hj => ⟨(hk j (by omega)).1.trans (z4 j hj).1, (hk j (by omega)).2.1.trans (z4 j hj).2.1, (hk j (by omega)).2.2.trans (z4 j hj).2.2⟩⟩
    · rw [if_neg q]
      have : k = 0 ∨ k = 2 ∨ k = 3 := by omega
      rcases this with rfl | rfl | rfl
      · exact (hs.s 0 hk4).cg (hf 30 0 rfl) (hf.at (k := 31) rfl) (hf.at (k := 32) rfl) (hf.at (k := 33) rfl) (hf.at (k := 34) rfl)
      · exact (hs.s 2 hk4).cg (hf 44 0 rfl) (hf.at (k := 45) rfl) (hf.at (k := 46) rfl) (hf.at (k := 47) rfl) (hf.at (k := 48) rfl)
      · exact (hs.s 3 hk4).cg (hf 51 0 rfl) (hf.at (k := 52) rfl) (hf.at (k := 53) rfl) (hf.at (k := 54) rfl) (hf.at (k := 55) rfl)
  refine key _ (FrI.wr (FrI.wr (FrI.wr (FrI.wu (FrI.wu (FrI.wu (FrI.wu (FrI.wu FrI.rf rfl) rfl) rfl) rfl) rfl) (fun _ => rfl)) (fun _ => rfl)) (fun _ => rfl)) rfl ⟨rfl, rfl, rfl, rfl⟩ (fun k hk => ⟨?_, ?_, ?_⟩)
  · rw [ri_ne (by decide), ri_ne (by decide), ri_at, cpy_at hk]; rfl
  · rw [ri_ne (by decide), ri_at, cpy_at hk]; rfl
  · rw [ri_at, cpy_at hk]; rfl
/-- brought from shelf 1 -/
theorem k_204_1 {ch : Ch} {sh : Nat → Option Ch} {a b : Int} (hok : ShOk sh) (hs : CSt I ch sh a b) (h1 : ∀ c I', sh 1 = some c → FrI cW I I' → ChAt I' 5 c → Q (.inl (some (.int (Int32.ofInt (c.2.2.2.1 : Int))))) (gE Lx) I' L e) (h0 : sh 1 = none → Q (.inr 102) (gE Lx) I L (e + 1)) : Wp 204 5 [(0, .ref 1), (1, .int (Int32.ofInt 1))] [] (gE Lx) I L e Q := by
  refine s_204_5_1 ?_
  have hk := hs.s 1 (by omega)
  cases ho : sh 1 with
  | none =>
    have e0 : I 37 0 = Int32.ofInt 0 := hk.1 ho
    rw [e0]
    exact j_0 (h0 ho)
  | some c =>
    have e0 : I 37 0 = Int32.ofInt 1 := (hk.2 c ho).1
    have hc : ChAt I 38 c := (hk.2 c ho).2
    have h4 := (hok 1 c (by omega) ho).2.2.2.1
    obtain ⟨z0, z1, z2, z3, z4⟩ := hc
    rw [e0, z3]
    refine j_1 ?_
    have key : ∀ I2 : Mi, FrI cW I I2 → (I2 5 0 = I 38 0 ∧ I2 5 1 = I 38 1 ∧ I2 5 2 = I 38 2 ∧ I2 5 3 = Int32.ofInt (c.2.2.2.1 : Int)) → (∀ k, k < 4 → I2 6 k = I 39 k ∧ I2 7 k = I 40 k ∧ I2 8 k = I 41 k) → Q (.inl (some (.int (Int32.ofInt (c.2.2.2.1 : Int))))) (gE Lx) I2 L e := by
      intro I2 hf hr hk
      exact h1 c I2 ho hf ⟨hr.1.trans z0, hr.2.1.trans z1, hr.2.2.1.trans z2, hr.2.2.2, fun j hj => ⟨(hk j (by omega)).1.trans (z4 j hj).1, (hk j (by omega)).2.1.trans (z4 j hj).2.1, (hk j (by omega)).2.2.trans (z4 j hj).2.2⟩⟩
    refine key _ (FrI.wr (FrI.wr (FrI.wr (FrI.wu (FrI.wu (FrI.wu (FrI.wu FrI.rf rfl) rfl) rfl) rfl) (fun _ => rfl)) (fun _ => rfl)) (fun _ => rfl)) ⟨rfl, rfl, rfl, rfl⟩ (fun k hk => ⟨?_, ?_, ?_⟩)
    · rw [ri_ne (by decide), ri_ne (by decide), ri_at, cpy_at hk]; rfl
    · rw [ri_ne (by decide), ri_at, cpy_at hk]; rfl
    · rw [ri_at, cpy_at hk]; rfl
/-- kept on shelf 2 -/
theorem k_202_2 {ch : Ch} {sh : Nat → Option Ch} {a b : Int} (h4 : ch.2.2.2.1 ≤ 4) (hs : CSt I ch sh a b) (h : ∀ I', FrI kF2 I I' → CSt I' ch (shU sh 2 ch) a b → Q (.inl (some (.int (Int32.ofInt (ch.2.2.2.1 : Int))))) (gE Lx) I' L e) : Wp 202 5 [(0, .ref 1), (1, .int (Int32.ofInt 2))] [] (gE Lx) I L e Q := by
  refine s_202_5_2 ?_
  rw [hs.c.2.2.2.1]
  have key : ∀ I2 : Mi, FrI kF2 I I2 → I2 44 0 = Int32.ofInt 1 → (I2 45 0 = I 5 0 ∧ I2 45 1 = I 5 1 ∧ I2 45 2 = I 5 2 ∧ I2 45 3 = Int32.ofInt (ch.2.2.2.1 : Int)) → (∀ k, k < 4 → I2 46 k = I 6 k ∧ I2 47 k = I 7 k ∧ I2 48 k = I 8 k) → Q (.inl (some (.int (Int32.ofInt (ch.2.2.2.1 : Int))))) (gE Lx) I2 L e := by
    intro I2 hf hfu hr hk
    obtain ⟨z0, z1, z2, z3, z4⟩ := hs.c
    refine h I2 hf ⟨hs.c.cg (hf.at rfl) (hf.at rfl) (hf.at rfl) (hf.at rfl), hs.l.cg (hf.at rfl), hs.t.cg (hf.at rfl) (hf.at rfl), fun k hk4 => ?_⟩
    unfold shU
    by_cases q : k = 2
    · subst q
      rw [if_pos rfl]
      refine ⟨(fun w => by cases w), fun c w => ?_⟩
      cases w
      exact ⟨hfu, hr.1.trans z0, hr.2.1.trans z1, hr.2.2.1.trans z2, hr.2.2.2, fun j hj => ⟨(hk j (by omega)).1.trans (z4 j hj).1, (hk j (by omega)).2.1.trans (z4 j hj).2.1, (hk j (by omega)).2.2.trans (z4 j hj).2.2⟩⟩
    · rw [if_neg q]
      have : k = 0 ∨ k = 1 ∨ k = 3 := by omega
      rcases this with rfl | rfl | rfl
      · exact (hs.s 0 hk4).cg (hf 30 0 rfl) (hf.at (k := 31) rfl) (hf.at (k := 32) rfl) (hf.at (k := 33) rfl) (hf.at (k := 34) rfl)
      · exact (hs.s 1 hk4).cg (hf 37 0 rfl) (hf.at (k := 38) rfl) (hf.at (k := 39) rfl) (hf.at (k := 40) rfl) (hf.at (k := 41) rfl)
      · exact (hs.s 3 hk4).cg (hf 51 0 rfl) (hf.at (k := 52) rfl) (hf.at (k := 53) rfl) (hf.at (k := 54) rfl) (hf.at (k := 55) rfl)
  refine key _ (FrI.wr (FrI.wr (FrI.wr (FrI.wu (FrI.wu (FrI.wu (FrI.wu (FrI.wu FrI.rf rfl) rfl) rfl) rfl) rfl) (fun _ => rfl)) (fun _ => rfl)) (fun _ => rfl)) rfl ⟨rfl, rfl, rfl, rfl⟩ (fun k hk => ⟨?_, ?_, ?_⟩)
  · rw [ri_ne (by decide), ri_ne (by decide), ri_at, cpy_at hk]; rfl
  · rw [ri_ne (by decide), ri_at, cpy_at hk]; rfl
  · rw [ri_at, cpy_at hk]; rfl
/-- brought from shelf 2 -/
theorem k_204_2 {ch : Ch} {sh : Nat → Option Ch} {a b : Int} (hok : ShOk sh) (hs : CSt I ch sh a b) (h1 : ∀ c I', sh 2 = some c → FrI cW I I' → ChAt I' 5 c → Q (.inl (some (.int (Int32.ofInt (c.2.2.2.1 : Int))))) (gE Lx) I' L e) (h0 : sh 2 = none → Q (.inr 102) (gE Lx) I L (e + 1)) : Wp 204 5 [(0, .ref 1), (1, .int (Int32.ofInt 2))] [] (gE Lx) I L e Q := by
  refine s_204_5_2 ?_
  have hk := hs.s 2 (by omega)
  cases ho : sh 2 with
  | none =>
    have e0 : I 44 0 = Int32.ofInt 0 := hk.1 ho
    rw [e0]
    exact j_0 (h0 ho)
  | some c =>
    have e0 : I 44 0 = Int32.ofInt 1 := (hk.2 c ho).1
    have hc : ChAt I 45 c := (hk.2 c ho).2
    have h4 := (hok 2 c (by omega) ho).2.2.2.1
    obtain ⟨z0, z1, z2, z3, z4⟩ := hc
    rw [e0, z3]
    refine j_1 ?_
    have key : ∀ I2 : Mi, FrI cW I I2 → (I2 5 0 = I 45 0 ∧ I2 5 1 = I 45 1 ∧ I2 5 2 = I 45 2 ∧ I2 5 3 = Int32.ofInt (c.2.2.2.1 : Int)) → (∀ k, k < 4 → I2 6 k = I 46 k ∧ I2 7 k = I 47 k ∧ I2 8 k = I 48 k) → Q (.inl (some (.int (Int32.ofInt (c.2.2.2.1 : Int))))) (gE Lx) I2 L e := by
      intro I2 hf hr hk
      exact h1 c I2 ho hf ⟨hr.1.trans z0, hr.2.1.trans z1, hr.2.2.1.trans z2, hr.2.2.2, fun j hj => ⟨(hk j (by omega)).1.trans (z4 j hj).1, (hk j (by omega)).2.1.trans (z4 j hj).2.1, (hk j (by omega)).2.2.trans (z4 j hj).2.2⟩⟩
    refine key _ (FrI.wr (FrI.wr (FrI.wr (FrI.wu (FrI.wu (FrI.wu (FrI.wu FrI.rf rfl) rfl) rfl) rfl) (fun _ => rfl)) (fun _ => rfl)) (fun _ => rfl)) ⟨rfl, rfl, rfl, rfl⟩ (fun k hk => ⟨?_, ?_, ?_⟩)
    · rw [ri_ne (by decide), ri_ne (by decide), ri_at, cpy_at hk]; rfl
    · rw [ri_ne (by decide), ri_at, cpy_at hk]; rfl
    · rw [ri_at, cpy_at hk]; rfl
/-- kept on shelf 3 -/
theorem k_202_3 {ch : Ch} {sh : Nat → Option Ch} {a b : Int} (h4 : ch.2.2.2.1 ≤ 4) (hs : CSt I ch sh a b) (h : ∀ I', FrI kF3 I I' → CSt I' ch (shU sh 3 ch) a b → Q (.inl (some (.int (Int32.ofInt (ch.2.2.2.1 : Int))))) (gE Lx) I' L e) : Wp 202 5 [(0, .ref 1), (1, .int (Int32.ofInt 3))] [] (gE Lx) I L e Q := by
  refine s_202_5_3 ?_
  rw [hs.c.2.2.2.1]
  have key : ∀ I2 : Mi, FrI kF3 I I2 → I2 51 0 = Int32.ofInt 1 → (I2 52 0 = I 5 0 ∧ I2 52 1 = I 5 1 ∧ I2 52 2 = I 5 2 ∧ I2 52 3 = Int32.ofInt (ch.2.2.2.1 : Int)) → (∀ k, k < 4 → I2 53 k = I 6 k ∧ I2 54 k = I 7 k ∧ I2 55 k = I 8 k) → Q (.inl (some (.int (Int32.ofInt (ch.2.2.2.1 : Int))))) (gE Lx) I2 L e := by
    intro I2 hf hfu hr hk
    obtain ⟨z0, z1, z2, z3, z4⟩ := hs.c
    refine h I2 hf ⟨hs.c.cg (hf.at rfl) (hf.at rfl) (hf.at rfl) (hf.at rfl), hs.l.cg (hf.at rfl), hs.t.cg (hf.at rfl) (hf.at rfl), fun k hk4 => ?_⟩
    unfold shU
    by_cases q : k = 3
    · subst q
      rw [if_pos rfl]
      refine ⟨(fun w => by cases w), fun c w => ?_⟩
      cases w
      exact ⟨hfu, hr.1.trans z0, hr.2.1.trans z1, hr.2.2.1.trans z2, hr.2.2.2, fun j hj => ⟨(hk j (by omega)).1.trans (z4 j hj).1, (hk j (by omega)).2.1.trans (z4 j hj).2.1, (hk j (by omega)).2.2.trans (z4 j hj).2.2⟩⟩
    · rw [if_neg q]
      have : k = 0 ∨ k = 1 ∨ k = 2 := by omega
      rcases this with rfl | rfl | rfl
      · exact (hs.s 0 hk4).cg (hf 30 0 rfl) (hf.at (k := 31) rfl) (hf.at (k := 32) rfl) (hf.at (k := 33) rfl) (hf.at (k := 34) rfl)
      · exact (hs.s 1 hk4).cg (hf 37 0 rfl) (hf.at (k := 38) rfl) (hf.at (k := 39) rfl) (hf.at (k := 40) rfl) (hf.at (k := 41) rfl)
      · exact (hs.s 2 hk4).cg (hf 44 0 rfl) (hf.at (k := 45) rfl) (hf.at (k := 46) rfl) (hf.at (k := 47) rfl) (hf.at (k := 48) rfl)
  refine key _ (FrI.wr (FrI.wr (FrI.wr (FrI.wu (FrI.wu (FrI.wu (FrI.wu (FrI.wu FrI.rf rfl) rfl) rfl) rfl) rfl) (fun _ => rfl)) (fun _ => rfl)) (fun _ => rfl)) rfl ⟨rfl, rfl, rfl, rfl⟩ (fun k hk => ⟨?_, ?_, ?_⟩)
  · rw [ri_ne (by decide), ri_ne (by decide), ri_at, cpy_at hk]; rfl
  · rw [ri_ne (by decide), ri_at, cpy_at hk]; rfl
  · rw [ri_at, cpy_at hk]; rfl
/-- brought from shelf 3 -/
theorem k_204_3 {ch : Ch} {sh : Nat → Option Ch} {a b : Int} (hok : ShOk sh) (hs : CSt I ch sh a b) (h1 : ∀ c I', sh 3 = some c → FrI cW I I' → ChAt I' 5 c → Q (.inl (some (.int (Int32.ofInt (c.2.2.2.1 : Int))))) (gE Lx) I' L e) (h0 : sh 3 = none → Q (.inr 102) (gE Lx) I L (e + 1)) : Wp 204 5 [(0, .ref 1), (1, .int (Int32.ofInt 3))] [] (gE Lx) I L e Q := by
  refine s_204_5_3 ?_
  have hk := hs.s 3 (by omega)
  cases ho : sh 3 with
  | none =>
    have e0 : I 51 0 = Int32.ofInt 0 := hk.1 ho
    rw [e0]
    exact j_0 (h0 ho)
  | some c =>
    have e0 : I 51 0 = Int32.ofInt 1 := (hk.2 c ho).1
    have hc : ChAt I 52 c := (hk.2 c ho).2
    have h4 := (hok 3 c (by omega) ho).2.2.2.1
    obtain ⟨z0, z1, z2, z3, z4⟩ := hc
    rw [e0, z3]
    refine j_1 ?_
    have key : ∀ I2 : Mi, FrI cW I I2 → (I2 5 0 = I 52 0 ∧ I2 5 1 = I 52 1 ∧ I2 5 2 = I 52 2 ∧ I2 5 3 = Int32.ofInt (c.2.2.2.1 : Int)) → (∀ k, k < 4 → I2 6 k = I 53 k ∧ I2 7 k = I 54 k ∧ I2 8 k = I 55 k) → Q (.inl (some (.int (Int32.ofInt (c.2.2.2.1 : Int))))) (gE Lx) I2 L e := by
      intro I2 hf hr hk
      exact h1 c I2 ho hf ⟨hr.1.trans z0, hr.2.1.trans z1, hr.2.2.1.trans z2, hr.2.2.2, fun j hj => ⟨(hk j (by omega)).1.trans (z4 j hj).1, (hk j (by omega)).2.1.trans (z4 j hj).2.1, (hk j (by omega)).2.2.trans (z4 j hj).2.2⟩⟩
    refine key _ (FrI.wr (FrI.wr (FrI.wr (FrI.wu (FrI.wu (FrI.wu (FrI.wu FrI.rf rfl) rfl) rfl) rfl) (fun _ => rfl)) (fun _ => rfl)) (fun _ => rfl)) ⟨rfl, rfl, rfl, rfl⟩ (fun k hk => ⟨?_, ?_, ?_⟩)
    · rw [ri_ne (by decide), ri_ne (by decide), ri_at, cpy_at hk]; rfl
    · rw [ri_ne (by decide), ri_at, cpy_at hk]; rfl
    · rw [ri_at, cpy_at hk]; rfl
theorem h_413 {ch : Ch} {sh : Nat → Option Ch} {a b : Int} (h4 : ch.2.2.2.1 ≤ 4) (hs : CSt I ch sh a b) {k : Int} (hk : R32 k)
    (h1 : 0 ≤ k → k < 4 → ∀ I' L', FrI kF I I' → CSt I' ch (shU sh k.toNat ch) a b → L' 70 0 = .ofInt (ch.2.2.2.1 : Int) → Q (.inl (some (.int (Int32.ofInt 0)))) (gE Lx) I' L' e)
    (h0 : (k < 0 ∨ 3 < k) → Q (.inl (some (.int (Int32.ofInt 1)))) (gE Lx) I L (e + 1)) :
    Wp 413 0 [(0, .ref 1), (1, .int (Int32.ofInt k)), (2, .ref 70)] [] (gE Lx) I L e Q := by
  refine s_413_0 (s_202_0 (n_203 hk (fun q1 q2 => kcp_v rfl ?_) (fun q => kcp_x rfl (kcp_h rfl (h0 q)))))
  have fin : ∀ I', FrI kF I I' → CSt I' ch (shU sh k.toNat ch) a b → kcp (Wp 413) 413 4 0 [(0, .ref 1), (2, .ref 70)] 71 [.int (Int32.ofInt 0), .ref 70] Q (.inl (some (.int (Int32.ofInt (ch.2.2.2.1 : Int))))) (gE Lx) I' L e := fun I' hf hc => by
    refine kcp_v rfl (s_413_7 (i_inb0 (by decide) (h1 q1 q2 I' _ hf hc ?_)))
    rw [o70, i2l (by omega)]
  have : k = 0 ∨ k = 1 ∨ k = 2 ∨ k = 3 := by omega
  rcases this with rfl | rfl | rfl | rfl
  · exact k_202_0 h4 hs (fun I' hf hc => fin I' (hf.up rfl) hc)
  · exact k_202_1 h4 hs (fun I' hf hc => fin I' (hf.up rfl) hc)
  · exact k_202_2 h4 hs (fun I' hf hc => fin I' (hf.up rfl) hc)
  · exact k_202_3 h4 hs (fun I' hf hc => fin I' (hf.up rfl) hc)
theorem h_414 {ch : Ch} {sh : Nat → Option Ch} {a b : Int} (hok : ShOk sh) (hs : CSt I ch sh a b) {k : Int} (hk : R32 k) (h : CW Lx I e Q true (spBring sh ch k)) :
    Wp 414 0 [(0, .ref 1), (1, .int (Int32.ofInt k)), (2, .ref 70)] [] (gE Lx) I L e Q := by
  unfold spBring at h
  refine s_414_0 (s_204_0 (n_203 hk (fun q1 q2 => kcp_v rfl ?_) (fun q => kcp_x rfl (kcp_h rfl ?_))))
  · rw [if_neg (by omega)] at h
    have fin : ∀ c I', sh k.toNat = some c → FrI cW I I' → ChAt I' 5 c → kcp (Wp 414) 414 4 0 [(0, .ref 1), (2, .ref 70)] 71 [.int (Int32.ofInt 0), .ref 70] Q (.inl (some (.int (Int32.ofInt (c.2.2.2.1 : Int))))) (gE Lx) I' L e := fun c I' hc hf ha => by
      have h4 := (hok k.toNat c (by omega) hc).2.2.2.1
      rw [hc] at h
      refine kcp_v rfl (s_414_7 (i_inb0 (by decide) (h.mk (c := 0) hf ha (by omega) rfl (fun _ _ => ?_))))
      rw [o70, i2l (by omega)]
    have no : sh k.toNat = none → kcp (Wp 414) 414 4 0 [(0, .ref 1), (2, .ref 70)] 71 [.int (Int32.ofInt 0), .ref 70] Q (.inr 102) (gE Lx) I L (e + 1) := fun hc => by
      rw [hc] at h
      exact kcp_h rfl (h.mk (c := 2) FrI.rf hs.c (by omega) rfl (fun z => by cases z))
    have : k = 0 ∨ k = 1 ∨ k = 2 ∨ k = 3 := by omega
    rcases this with rfl | rfl | rfl | rfl
    · exact k_204_0 hok hs fin no
    · exact k_204_1 hok hs fin no
    · exact k_204_2 hok hs fin no
    · exact k_204_3 hok hs fin no
  · rw [if_pos q] at h
    exact h.mk (c := 1) FrI.rf hs.c (by omega) rfl (fun z => by cases z)
theorem shi : ∀ k, k < 4 → ∀ j, j < 17 → inS [(60, 17 * k, 17)] 60 (17 * k + j) = true := by decide +kernel
theorem sho : ∀ k, k < 4 → ∀ i, i < 4 → ∀ j, j < 17 → decide (i ≠ k) = true → inS [(60, 17 * k, 17)] 60 (17 * i + j) = false := by decide +kernel
theorem ix17 (r j : Nat) : Int32.ofInt 17 * Int32.ofInt (r : Int) + Int32.ofInt (j : Int) = Int32.ofInt ((17 * r + j : Nat) : Int) := by
  rw [mul32, add32]
  congr 1
theorem RSt.s2 {I I' : Mi} {ch : Ch} {sh : Nat → Option Ch} {a b : Int} {k : Nat} (h : RSt I ch sh a b) (hok : ShOk sh) (hk : k < 4) (_h4 : ch.2.2.2.1 ≤ 4) (hf : FrI [(60, 17 * k, 17)] I I') (h1 : ∀ j, j < 16 → I' 60 (17 * k + j) = I 59 j) (h2 : I' 60 (17 * k + 16) = .ofInt 1) : RSt I' ch (shU sh k ch) a b := by
  refine ⟨h.c.cg (hf.at rfl), h.l.cg (hf 58 3 rfl) (hf 58 4 rfl), h.t.cg (hf 58 7 rfl) (hf.at rfl) (hf.at rfl), fun i hi => ?_⟩
  unfold shU
  by_cases q : i = k
  · subst q
    rw [if_pos rfl]
    refine ⟨fun w => (by cases w), fun c w => ?_⟩
    cases w
    obtain ⟨z0, z1, z2, z3, z4⟩ := h.c
    refine ⟨h2, (h1 0 (by omega)).trans z0, (h1 1 (by omega)).trans z1, (h1 2 (by omega)).trans z2, (h1 3 (by omega)).trans z3, fun j hj => ?_⟩
    have := z4 j hj
    rw [Nat.zero_add, Nat.zero_add, Nat.zero_add] at this
    exact ⟨(h1 _ (by omega)).trans this.1, (h1 _ (by omega)).trans this.2.1, (h1 _ (by omega)).trans this.2.2⟩
  · rw [if_neg q]
    have e : ∀ j, j < 17 → I' 60 (17 * i + j) = I 60 (17 * i + j) := fun j hj => hf _ _ (sho k hk i hi j hj (decide_eq_true q))
    have := h.s i hi
    refine ⟨fun w => (e 16 (by omega)).trans (this.1 w), fun c w => ?_⟩
    obtain ⟨y0, y1, y2, y3, y4, y5⟩ := this.2 c w
    have z := (hok i c hi w).2.2.2.1
    exact ⟨(e 16 (by omega)).trans y0, (e 0 (by omega)).trans y1, (e 1 (by omega)).trans y2, (e 2 (by omega)).trans y3, (e 3 (by omega)).trans y4, fun j hj => by
        have := y5 j hj
        exact ⟨(e _ (by omega)).trans this.1, (e _ (by omega)).trans this.2.1, (e _ (by omega)).trans this.2.2⟩⟩
theorem l_354 {I0 : Mi} {ch : Ch} {sh : Nat → Option Ch} {a b : Int} (hok : ShOk sh) {k : Nat} (hk : k < 4) (h4 : ch.2.2.2.1 ≤ 4) (hs : RSt I0 ch sh a b) (fin : ∀ I', FrI [(60, 0, 0)] I0 I' → RSt I' ch (shU sh k ch) a b → Q (.inl (some (.int (Int32.ofInt (ch.2.2.2.1 : Int))))) (gE Lx) I' L e) :
    ∀ (s j : Nat), j + s = 16 → ∀ I : Mi, FrI [(60, 17 * k, 17)] I0 I → (∀ i, i < j → I 60 (17 * k + i) = I0 59 i) →
    Wp 354 27 [(0, .ref 58), (1, .int (Int32.ofInt k)), (2, .int (Int32.ofInt j))] [] (gE Lx) I L e Q := by
  intro s
  induction s with
  | zero =>
    intro j hj I hf h1
    have : j = 16 := by omega
    subst this
    have e3 : I 59 3 = Int32.ofInt (ch.2.2.2.1 : Int) := (hf 59 3 rfl).trans hs.c.2.2.2.1
    have ei : Int32.ofInt 17 * Int32.ofInt (k : Int) + Int32.ofInt 16 = Int32.ofInt ((17 * k + 16 : Nat) : Int) := ix17 k 16
    refine s_354_27 ?_
    rw [ei, tncn (k := 17 * k + 16) (by omega), e3]
    refine i_lt32 (by omega) (by omega) (fun _ => by omega) (fun _ => i_inb (by omega) (by omega) ?_)
    have hf2 : FrI [(60, 17 * k, 17)] I0 (ui I 60 (17 * k + 16) (Int32.ofInt 1)) := FrI.wu hf (shi k hk 16 (by omega))
    exact fin _ (hf2.up rfl) (hs.s2 hok hk h4 hf2 (fun i hi => by rw [u_ne (by omega)]; exact h1 i hi) u_at)
  | succ s ih =>
    intro j hj I hf h1
    refine s_354_27 ?_
    rw [ix17, tncn (k := j) (by omega), tncn (k := 17 * k + j) (by omega), add32, show I 59 = I0 59 from hf.at rfl]
    refine i_lt32 (by omega) (by omega) (fun _ => i_inb (by omega) (by omega) (i_inb (by omega) (by omega) ?_)) (fun _ => by omega)
    have := ih (j + 1) (by omega) _ (FrI.wu hf (x := I0 59 j) (shi k hk j (by omega))) (fun i hi => by
      by_cases q : i = j
      · rw [q, u_at]
      · rw [u_ne (by omega)]
        exact h1 i (by omega))
    exact this
theorem r_354 {ch : Ch} {sh : Nat → Option Ch} {a b : Int} (hok : ShOk sh) (h4 : ch.2.2.2.1 ≤ 4) (hs : RSt I ch sh a b) {k : Int} (hk : R32 k)
    (h1 : 0 ≤ k → k < 4 → ∀ I', FrI [(58, 0, 1), (60, 0, 0)] I I' → RSt I' ch (shU sh k.toNat ch) a b → I' 58 0 = .ofInt 0 → Q (.inl (some (.int (Int32.ofInt (ch.2.2.2.1 : Int))))) (gE Lx) I' L e)
    (h0 : (k < 0 ∨ 3 < k) → ∀ I', FrI [(58, 0, 1)] I I' → I' 58 0 = .ofInt 1 → Q (.inl (some (.int (Int32.ofInt 0)))) (gE Lx) I' L e) :
    Wp 354 0 [(0, .ref 58), (1, .int (Int32.ofInt k))] [] (gE Lx) I L e Q := by
  refine s_354_0 (i_lt32 hk (by omega) (fun q => h0 (by omega) _ (FrI.wu FrI.rf rfl) u_at) (fun q1 => i_lt32 (by omega) hk (fun q => h0 (by omega) _ (FrI.wu FrI.rf rfl) u_at) (fun q2 => ?_)))
  obtain ⟨n, rfl⟩ : ∃ n : Nat, k = n := ⟨k.toNat, by omega⟩
  have hI : FrI [(58, 0, 1)] I (ui I 58 0 (Int32.ofInt 0)) := FrI.wu FrI.rf rfl
  have hs2 : RSt (ui I 58 0 (Int32.ofInt 0)) ch sh a b := hs.f (hI.up rfl)
  exact l_354 (I0 := ui I 58 0 (Int32.ofInt 0)) hok (by omega) h4 hs2 (fun I' hf hr => h1 q1 (by omega) I' (FrI.tr hI hf rfl rfl) hr ((hf.at (k := 58) rfl ▸ rfl : I' 58 0 = ui I 58 0 (Int32.ofInt 0) 58 0).trans u_at)) 16 0 (by omega) _ FrI.rf (fun i hi => by omega)
theorem l_358 {I0 : Mi} {k : Nat} (hk : k < 4) (fin : ∀ I', FrI [(59, 0, 16)] I0 I' → (∀ j, j < 16 → I' 59 j = I0 60 (17 * k + j)) → Q (.inl none) (gE Lx) I' L e) :
    ∀ (s j : Nat), j + s = 16 → ∀ I : Mi, FrI [(59, 0, 16)] I0 I → (∀ i, i < j → I 59 i = I0 60 (17 * k + i)) →
    Wp 358 2 [(0, .ref 58), (1, .int (Int32.ofInt k)), (2, .int (Int32.ofInt j))] [] (gE Lx) I L e Q := by
  have i59 : ∀ x, x < 16 → inS [(59, 0, 16)] 59 x = true := by decide
  intro s
  induction s with
  | zero =>
    intro j hj I hf h1
    have : j = 16 := by omega
    subst this
    exact s_358_2 (i_lt32 (by omega) (by omega) (fun _ => by omega) (fun _ => fin I hf h1))
  | succ s ih =>
    intro j hj I hf h1
    refine s_358_2 ?_
    rw [ix17, tncn (k := j) (by omega), tncn (k := 17 * k + j) (by omega), add32, show I 60 = I0 60 from hf.at rfl]
    refine i_lt32 (by omega) (by omega) (fun _ => i_inb (by omega) (by omega) (i_inb (by omega) (by omega) ?_)) (fun _ => by omega)
    have := ih (j + 1) (by omega) _ (FrI.wu hf (x := I0 60 (17 * k + j)) (i59 j (by omega))) (fun i hi => by
      by_cases q : i = j
      · rw [q, u_at]
      · rw [u_ne q]
        exact h1 i (by omega))
    exact this
theorem c_358 {k : Nat} (hk : k < 4) (fin : ∀ I', FrI [(59, 0, 16)] I I' → (∀ j, j < 16 → I' 59 j = I 60 (17 * k + j)) → Q (.inl none) (gE Lx) I' L e) : Wp 358 0 [(0, .ref 58), (1, .int (Int32.ofInt k))] [] (gE Lx) I L e Q :=
  s_358_0 (l_358 hk fin 16 0 (by omega) I FrI.rf (fun i hi => by omega))
theorem bn_br {I I' : Mi} {k : Nat} {c : Ch} (h4 : c.2.2.2.1 ≤ 4) (h : BnAt I 60 (17 * k) c) (hj : ∀ j, j < 16 → I' 59 j = I 60 (17 * k + j)) : BnAt I' 59 0 c := by
  obtain ⟨z0, z1, z2, z3, z4⟩ := h
  refine ⟨(hj 0 (by omega)).trans z0, (hj 1 (by omega)).trans z1, (hj 2 (by omega)).trans z2, (hj 3 (by omega)).trans z3, fun j hj2 => ?_⟩
  rw [Nat.zero_add, Nat.zero_add, Nat.zero_add]
  have := z4 j hj2
  exact ⟨(hj _ (by omega)).trans this.1, (hj _ (by omega)).trans this.2.1, (hj _ (by omega)).trans this.2.2⟩
theorem r_356 {ch : Ch} {sh : Nat → Option Ch} {a b : Int} (hok : ShOk sh) (hs : RSt I ch sh a b) {k : Int} (hk : R32 k) (h : RW Lx I L e Q true (spBring sh ch k)) :
    Wp 356 0 [(0, .ref 58), (1, .int (Int32.ofInt k))] [] (gE Lx) I L e Q := by
  unfold spBring at h
  have one : (k < 0 ∨ 3 < k) → Q (.inl (some (.int (Int32.ofInt 0)))) (gE Lx) (ui I 58 0 (Int32.ofInt 1)) L e := fun q => by
    rw [if_pos q] at h
    exact h _ L 0 (FrI.wu FrI.rf rfl) (hs.c.cg rfl) rfl u_at (fun z => by cases z)
  refine s_356_0 (i_lt32 hk (by omega) (fun q => one (by omega)) (fun q1 => i_lt32 (by omega) hk (fun q => one (by omega)) (fun q2 => ?_)))
  rw [if_neg (by omega)] at h
  obtain ⟨n, rfl⟩ : ∃ n : Nat, k = n := ⟨k.toNat, by omega⟩
  have hn : n < 4 := by omega
  have en : ((n : Nat) : Int).toNat = n := rfl
  rw [en] at h
  have hk := hs.s n hn
  have ei : Int32.ofInt 17 * Int32.ofInt (n : Int) + Int32.ofInt 16 = Int32.ofInt ((17 * n + 16 : Nat) : Int) := ix17 n 16
  rw [ei, tncn (k := 17 * n + 16) (by omega)]
  refine i_inb (by omega) (by omega) ?_
  cases ho : sh n with
  | none =>
    rw [ho] at h
    have e0 : I 60 (17 * n + 16) = Int32.ofInt 0 := hk.1 ho
    rw [e0]
    exact i_eq32 (by omega) (by omega) (fun w => by omega) (fun _ => h _ L 0 (FrI.wu FrI.rf rfl) (hs.c.cg rfl) rfl u_at (fun z => by cases z))
  | some c =>
    rw [ho] at h
    have e0 : I 60 (17 * n + 16) = Int32.ofInt 1 := (hk.2 c ho).1
    have hc : BnAt I 60 (17 * n) c := (hk.2 c ho).2
    have h4 := (hok n c hn ho).2.2.2.1
    have hc2 : BnAt (ui I 58 0 (Int32.ofInt 0)) 60 (17 * n) c := hc.cg rfl
    rw [e0]
    refine i_eq32 (by omega) (by omega) (fun _ => c_358 hn (fun I' hf hj => kcp_v rfl (s_356_42 ?_))) (fun w => absurd rfl w)
    have hb := bn_br h4 hc2 hj
    rw [show I' 59 3 = Int32.ofInt (c.2.2.2.1 : Int) from hb.2.2.2.1]
    have hI : FrI rW I (ui I 58 0 (Int32.ofInt 0)) := FrI.wu FrI.rf rfl
    exact h I' L _ (FrI.tr hI hf rfl rfl) hb rfl ((hf 58 0 rfl).trans u_at) (fun _ _ => rfl)
end
