/-! What a helper of the law lays into its answer, where the call tells an int; tails of the law's cases. -/
theorem cn_ne {α : Type} {c : Bool} {a b z : α} (h1 : a ≠ z) (h2 : b ≠ z) : cond c a b ≠ z := by
  cases c
  · exact h2
  · exact h1
set_option maxRecDepth 10000 in
theorem hnd_nz (i x : Nat) : hnd i x ≠ some (some 0) := by
  unfold hnd
  refine cn_ne (by decide) (cn_ne (by decide) (fun h => ?_))
  have h2 := Option.some.inj h
  revert h2
  show _ ≠ _
  repeat' apply cn_ne
  all_goals decide
section
variable {mi pc : Nat} {ls : Lv} {st : List Value} {g : GS} {I : Mi} {L : Ml} {e : Nat} {o : Ou} {g' : GS} {I' : Mi} {L' : Ml} {e' : Nat} {q len e1 e2 : Nat} {e3 : Int}
theorem Ev.i {ins : Instr} {pc2 : Nat} {ls2 : Lv} {st2 : List Value} {g2 : GS} {I2 : Mi} {L2 : Ml} (h : Ev mi pc ls st g I L e o g' I' L' e') (hf : ftc (PT mi) pc = some (q, ins, len, e1, e2, e3))
    (hs : stp (PT mi) pc ins len e1 e2 e3 ls st g I L = some (.inr (.inl (pc2, ls2, st2, g2, I2, L2)))) : Ev mi pc2 ls2 st2 g2 I2 L2 e o g' I' L' e' := by
  obtain ⟨n, h⟩ := h
  cases n with
  | zero => cases h
  | succ n =>
    rw [run_e, body_eq, hf] at h
    dsimp only at h
    rw [hs] at h
    exact ⟨n, h⟩
theorem Ev.c {ins : Instr} {m2 sp : Nat} {a r : List Value} (h : Ev mi pc ls st g I L e o g' I' L' e') (hf : ftc (PT mi) pc = some (q, ins, len, e1, e2, e3))
    (hs : stp (PT mi) pc ins len e1 e2 e3 ls st g I L = some (.inr (.inr (m2, sp, a, r)))) :
    (∃ (v : Option Value) (g1 : GS) (I1 : Mi) (L1 : Ml) (x1 : Nat), Ev mi (pc + 3) ls (v.toList ++ r) g1 I1 L1 x1 o g' I' L' e') ∨ (∃ c : Int32, c ≠ 0 ∧ o = .inl (some (.int c))) ∨ (∃ x : Nat, o = .inr x) := by
  obtain ⟨n, h⟩ := h
  cases n with
  | zero => cases h
  | succ n =>
    rw [run_e, body_eq, hf] at h
    dsimp only at h
    rw [hs] at h
    obtain ⟨o1, g1, I1, L1, e1', h1, h2⟩ := (run_pass n).1 _ _ _ _ _ _ _ _ _ _ _ h
    rcases o1 with v | x
    · dsimp only [kcl] at h2
      cases hc : (Nat.beq sp 1 || Nat.beq g1.1 g.1) with
      | false => rw [hc] at h2; cases h2
      | true =>
        rw [hc] at h2
        exact Or.inl ⟨v, g1, I1, L1, e1', n, h2⟩
    · dsimp only [kcl] at h2
      cases hh : hnd mi x with
      | none =>
        rw [hh] at h2
        cases h2
        exact Or.inr (Or.inr ⟨x, rfl⟩)
      | some oc => cases oc with
        | none => rw [hh] at h2; cases h2
        | some c =>
          rw [hh] at h2
          cases h2
          exact Or.inr (Or.inl ⟨c, fun k => hnd_nz mi x (by rw [hh, k]), rfl⟩)
theorem Ev.l (h : Ev mi pc ls st g I L e o g' I' L' e') (hf : ftc (PT mi) pc = some (q, .i2l, len, e1, e2, e3)) :
    ∃ (x : Int32) (r : List Value), st = .int x :: r ∧ Ev mi (pc + len) ls (.long x.toInt64 :: r) g I L e o g' I' L' e' := by
  obtain ⟨n, h⟩ := h
  cases n with
  | zero => cases h
  | succ n =>
    rw [run_e, body_eq, hf] at h
    dsimp only [stp, act] at h
    unfold aI1 at h
    split at h
    · next x r => exact ⟨x, r, rfl, n, h⟩
    · cases h
theorem Ev.s (h : Ev mi pc ls st g I L e o g' I' L' e') (hf : ftc (PT mi) pc = some (q, .lastore, len, e1, e2, e3)) :
    ∃ (x : Int64) (i : Int32) (a : Nat) (r : List Value), st = .long x :: .int i :: .ref a :: r ∧ Ev mi (pc + len) ls r g I (ul L a i.toNatClampNeg x) e o g' I' L' e' := by
  obtain ⟨n, h⟩ := h
  cases n with
  | zero => cases h
  | succ n =>
    rw [run_e, body_eq, hf] at h
    dsimp only [stp, act] at h
    unfold aLast at h
    split at h
    · next x i a r =>
      cases hc : (Nat.beq (shk g.2.2.1 a).1 21 && Nat.blt a g.1 && Nat.blt 0 a) with
      | false => rw [hc] at h; cases h
      | true =>
        rw [hc] at h
        dsimp only [cond] at h
        unfold inb at h
        split at h
        · cases h
        · split at h
          · exact ⟨x, i, a, r, rfl, n, h⟩
          · cases h
    · cases h
theorem Ev.f {ins : Instr} {o2 : Ou} {x : Nat} (h : Ev mi pc ls st g I L e o g' I' L' e') (hf : ftc (PT mi) pc = some (q, ins, len, e1, e2, e3))
    (hs : stp (PT mi) pc ins len e1 e2 e3 ls st g I L = some (.inl (o2, x))) : L' = L := by
  obtain ⟨n, h⟩ := h
  cases n with
  | zero => cases h
  | succ n =>
    rw [run_e, body_eq, hf] at h
    dsimp only at h
    rw [hs] at h
    cases h
    rfl
/-- behind the call: an int, widened, is laid into the answer -/
theorem Ev.out {ins : Instr} {m2 X : Nat} {a : List Value} {q1 q2 q3 q4 q5 a1 a2 b1 b2 c2 d1 d2 k2 : Nat} {a3 b3 c3 d3 k3 z : Int}
    (h : Ev mi pc ls st g I L e o g' I' L' e') (hf : ftc (PT mi) pc = some (q, ins, len, e1, e2, e3)) (hs : stp (PT mi) pc ins len e1 e2 e3 ls st g I L = some (.inr (.inr (m2, 0, a, [.int (Int32.ofInt 0), .ref 70]))))
    (f1 : ftc (PT mi) (pc + 3) = some (q1, .i2l, 1, a1, a2, a3)) (f2 : ftc (PT mi) (pc + 3 + 1) = some (q2, .lastore, 1, b1, b2, b3)) (f3 : ftc (PT mi) (pc + 3 + 1 + 1) = some (q3, .goto z, 3, X, c2, c3))
    (f4 : ftc (PT mi) X = some (q4, .iconst 0, 1, d1, d2, d3)) (f5 : ftc (PT mi) (X + 1) = some (q5, .ireturn, 1, 0, k2, k3)) :
    o = .inl (some (.int 0)) → ∃ r : Int32, L' 70 0 = r.toInt64 := by
  intro ho
  rcases h.c hf hs with ⟨v, g1, I1, L1, x1, h1⟩ | ⟨c, hc, h1⟩ | ⟨x, h1⟩
  · obtain ⟨x, r, hst, h2⟩ := h1.l f1
    obtain ⟨y, i, a, r2, hst2, h3⟩ := h2.s f2
    cases hst2
    cases v with
    | none =>
      dsimp only [Option.toList, List.nil_append] at hst
      cases hst
    | some w =>
      dsimp only [Option.toList, List.cons_append, List.nil_append] at hst
      cases hst
      have h4 := h3.i f3 rfl
      have h5 := h4.i f4 rfl
      have h6 := h5.f f5 rfl
      rw [h6]
      exact ⟨x, o70⟩
  · rw [h1] at ho
    cases ho
    exact absurd rfl hc
  · rw [h1] at ho
    cases ho
end
/-- an end, with what stands in the answer -/
def oI (Q : Kq) : Kq := fun o g I L e => Q o g I L e ∧ (o = .inl (some (.int 0)) → ∃ r : Int32, L 70 0 = r.toInt64)
theorem i_of {val : Int} {x : Int64} (h1 : x = .ofInt val) (h2 : ∃ r : Int32, x = r.toInt64) : x = (Int32.ofInt val).toInt64 := by
  obtain ⟨r, hr⟩ := h2
  have h3 : Int32.ofInt val = r := by rw [← l2i, ← h1, hr]; exact Int32.toInt32_toInt64 r
  rw [h3, hr]
def CQI (Lx : Nat) (I : Mi) (e : Nat) (Q : Kq) (code : Nat) (val : Int) : Prop := ∀ I' L' e', FrI cS I I' → e' ≤ e + 1 → (code = 0 → L' 70 0 = (Int32.ofInt val).toInt64) → Q (.inl (some (.int (Int32.ofInt (code : Int))))) (gE Lx) I' L' e'
def CWI (Lx : Nat) (I : Mi) (e : Nat) (Q : Kq) (r : Nat × Int × Ch) : Prop := ∀ I' L' e', FrI cW I I' → ChAt I' 5 r.2.2 → e' ≤ e + 1 → (r.1 = 0 → L' 70 0 = (Int32.ofInt r.2.1).toInt64) → Q (.inl (some (.int (Int32.ofInt (r.1 : Int))))) (gE Lx) I' L' e'
section
variable {Lx : Nat} {I : Mi} {L : Ml} {e : Nat} {Q : Kq}
theorem cqi {code : Nat} {val : Int} {m : Nat} {ls : Lv} (h1 : ∀ Q, CQ Lx I e Q code val → Wp m 0 ls [] (gE Lx) I L e Q) (h2 : ∀ Q, Wp m 0 ls [] (gE Lx) I L e Q → Wp m 0 ls [] (gE Lx) I L e (oI Q)) (h : CQI Lx I e Q code val) : Wp m 0 ls [] (gE Lx) I L e Q := by
  refine (h2 (fun o g I' L' e' => o = .inl (some (.int (Int32.ofInt (code : Int)))) ∧ g = gE Lx ∧ FrI cS I I' ∧ e' ≤ e + 1 ∧ (code = 0 → L' 70 0 = .ofInt val)) (h1 _ (fun I' L' e' a b c => ⟨rfl, rfl, a, b, c⟩))).mono (fun o g I' L' e' hq => ?_)
  obtain ⟨⟨rfl, rfl, a, b, c⟩, d⟩ := hq
  exact h I' L' e' a b (fun k => i_of (c k) (d (by rw [k]; rfl)))
theorem cwi {r : Nat × Int × Ch} {m : Nat} {ls : Lv} (h1 : ∀ Q, CW Lx I e Q true r → Wp m 0 ls [] (gE Lx) I L e Q) (h2 : ∀ Q, Wp m 0 ls [] (gE Lx) I L e Q → Wp m 0 ls [] (gE Lx) I L e (oI Q)) (h : CWI Lx I e Q r) : Wp m 0 ls [] (gE Lx) I L e Q := by
  refine (h2 (fun o g I' L' e' => o = .inl (some (.int (Int32.ofInt (r.1 : Int)))) ∧ g = gE Lx ∧ FrI cW I I' ∧ ChAt I' 5 r.2.2 ∧ e' ≤ e + 1 ∧ (r.1 = 0 → L' 70 0 = .ofInt r.2.1)) (h1 _ (fun I' L' e' a b c d => ⟨rfl, rfl, a, b, c, fun k => d k rfl⟩))).mono (fun o g I' L' e' hq => ?_)
  obtain ⟨⟨rfl, rfl, a, b, c, d⟩, d2⟩ := hq
  exact h I' L' e' a b c (fun k => i_of (d k) (d2 (by rw [k]; rfl)))
theorem cd_0 {code : Nat} (h9 : code ≤ 9) (k : Int32.ofInt (code : Int) = 0) : code = 0 := by
  have := (eq32 (x := (code : Int)) (y := 0) (by omega) (by omega)).mp k
  omega
theorem tl_i {code : Nat} {val v : Int} {A B : Prop} (h9 : code ≤ 9) (hc : I 58 0 = .ofInt (code : Int)) (hv : code = 0 → v = val) (ho : code = 0 → L 70 0 = (Int32.ofInt val).toInt64) (h : A) :
    if I 58 0 = Int32.ofInt (code : Int) then (if Int32.ofInt (code : Int) = 0 then (if L 70 0 = (Int32.ofInt v).toInt64 then A else B) else A) else B := by
  rw [if_pos hc]
  by_cases k : Int32.ofInt (code : Int) = 0
  · have k0 := cd_0 h9 k
    rw [if_pos k, if_pos (by rw [ho k0, hv k0])]
    exact h
  · rw [if_neg k]
    exact h
theorem tl_l {code : Nat} {val v : Int} {A B : Prop} (h9 : code ≤ 9) (hc : I 58 0 = .ofInt (code : Int)) (hv : code = 0 → v = val) (ho : code = 0 → L 70 0 = Int64.ofInt val) (h : A) :
    if I 58 0 = Int32.ofInt (code : Int) then (if Int32.ofInt (code : Int) = 0 then (if L 70 0 = Int64.ofInt v then A else B) else A) else B := by
  rw [if_pos hc]
  by_cases k : Int32.ofInt (code : Int) = 0
  · have k0 := cd_0 h9 k
    rw [if_pos k, if_pos (by rw [ho k0, hv k0])]
    exact h
  · rw [if_neg k]
    exact h
theorem tl_b {code : Nat} {val v : Int} {A B : Prop} (h9 : code ≤ 9) (hb : code = 0 → val = 0 ∨ val = 1) (hc : I 58 0 = .ofInt (code : Int)) (hv : code = 0 → v = val) (ho : code = 0 → L 70 0 = Int64.ofInt val) (h : A) :
    if I 58 0 = Int32.ofInt (code : Int) then (if Int32.ofInt (code : Int) = 0 then (if Int32.ofInt v = 0 then (if L 70 0 = Int64.ofInt 0 then A else B) else (if L 70 0 = Int64.ofInt 1 then A else B)) else A) else B := by
  rw [if_pos hc]
  by_cases k : Int32.ofInt (code : Int) = 0
  · have k0 := cd_0 h9 k
    rw [if_pos k, hv k0]
    have ho := ho k0
    rcases hb k0 with rfl | rfl
    · exact j_0 (i_t ho h)
    · exact j_1 (i_t ho h)
  · rw [if_neg k]
    exact h
end
theorem o32 (c : Int32) : ∃ z : Int, R32 z ∧ c = Int32.ofInt z := by
  refine ⟨c.toInt, ?_, (Int32.ofInt_toInt c).symm⟩
  have h1 := c.le_toInt
  have h2 := c.toInt_lt
  constructor <;> omega
theorem n_go {Lx i : Nat} {j : Int} {A : Prop} (hL : Lx ≤ 5120) (h0 : 0 ≤ j) (hj : i + j.toNat < Lx) (h : A) : inb (Int32.ofInt (i : Int) + Int32.ofInt j) Lx A False := by
  rw [add32, show (i : Int) + j = ((i + j.toNat : Nat) : Int) by omega]
  exact i_inb (by omega) hj h
/-- the state between two calls -/
def LwS (I : Mi) : Prop := ∃ ch sh a b, ChOk ch ∧ ShOk sh ∧ CSt I ch sh a b ∧ RSt I ch sh a b
theorem LwS.rd {I I1 I2 : Mi} {ch : Ch} {sh : Nat → Option Ch} {a b : Int} (hok : ChOk ch) (hsh : ShOk sh) (hc : CSt I ch sh a b) (hr : RSt I ch sh a b) (hf : FrI cS I I1) (hf2 : FrI rS I1 I2) : LwS I2 :=
  ⟨ch, sh, a, b, hok, hsh, (hc.f hf).rw (hf2.up rfl), (hr.cw (hf.up rfl)).f hf2⟩
theorem LwS.wr {I I1 I2 : Mi} {ch c2 : Ch} {sh : Nat → Option Ch} {a b : Int} (hok : ChOk c2) (hsh : ShOk sh) (hc : CSt I ch sh a b) (hr : RSt I ch sh a b) (hf : FrI cW I I1) (hc2 : ChAt I1 5 c2) (hf2 : FrI rW I1 I2) (hb2 : BnAt I2 59 0 c2) : LwS I2 :=
  ⟨c2, sh, a, b, hok, hsh, (hc.w hf hc2).rw hf2, (hr.cw hf).w hf2 hb2⟩
/-- what a case is given for its end -/
def NX (Lx i : Nat) (Q : Kq) (e : Nat) : Prop := ∀ I' L' e', LwS I' → e' ≤ e + 1 → Wp 420 4917 [(0, .ref 0), (1, .ref 1), (2, .ref 58), (3, .ref 70), (4, .int (Int32.ofInt (i : Int)))] [] (gE Lx) I' L' e' Q
/-! Codes are small. -/
theorem cd_if {p : Prop} [Decidable p] {α : Type} {a b : Nat × α} {n : Nat} (h1 : a.1 ≤ n) (h2 : b.1 ≤ n) : (if p then a else b).1 ≤ n := by
  split
  · exact h1
  · exact h2
theorem cd_iT {α : Type} {p q : Int} {a b : Nat × α} {n : Nat} (h1 : a.1 ≤ n) (h2 : b.1 ≤ n) : (iT p q a b).1 ≤ n := @cd_if (isT p q) (Classical.propDecidable _) _ _ _ _ h1 h2
theorem cd_iP {α : Type} {p : Prop} {a b : Nat × α} {n : Nat} (h1 : a.1 ≤ n) (h2 : b.1 ≤ n) : (iP p a b).1 ≤ n := @cd_if p (Classical.propDecidable _) _ _ _ _ h1 h2
theorem cd_1 {a : Nat × Int} {n : Nat} (h1 : a.1 ≤ n) : (sh1 a).1 ≤ n + 1 := by
  unfold sh1
  split
  · omega
  · exact Nat.succ_le_succ h1
theorem vb_if {p : Prop} [Decidable p] {a b : Nat × Int} (h1 : a.2 = 0 ∨ a.2 = 1) (h2 : b.2 = 0 ∨ b.2 = 1) : (if p then a else b).2 = 0 ∨ (if p then a else b).2 = 1 := by
  split
  · exact h1
  · exact h2
theorem vi_if {p : Prop} [Decidable p] {a b : Int} (h1 : a = 0 ∨ a = 1) (h2 : b = 0 ∨ b = 1) : (if p then a else b) = 0 ∨ (if p then a else b) = 1 := by
  split
  · exact h1
  · exact h2
theorem vb_iP {p : Prop} {a b : Nat × Int} (h1 : a.2 = 0 ∨ a.2 = 1) (h2 : b.2 = 0 ∨ b.2 = 1) : (iP p a b).2 = 0 ∨ (iP p a b).2 = 1 := @vb_if p (Classical.propDecidable _) _ _ h1 h2
theorem vi_iP {p : Prop} {a b : Int} (h1 : a = 0 ∨ a = 1) (h2 : b = 0 ∨ b = 1) : iP p a b = 0 ∨ iP p a b = 1 := @vi_if p (Classical.propDecidable _) _ _ h1 h2
