/-! The run: what holds of it without the machine. -/
def K0 : Kr := fun o g I L e => some (o, g, I, L, e)
section
variable {α β : Type} (φ : α → β)
theorem aI2_n (f st) (k : List Value → α) (b : α) : φ (aI2 f st k b) = aI2 f st (fun s => φ (k s)) (φ b) := by unfold aI2; split <;> rfl
theorem aI2z_n (f st) (k : List Value → α) (b : α) : φ (aI2z f st k b) = aI2z f st (fun s => φ (k s)) (φ b) := by unfold aI2z; (repeat' split) <;> rfl
theorem aI1_n (f st) (k : List Value → α) (b : α) : φ (aI1 f st k b) = aI1 f st (fun s => φ (k s)) (φ b) := by unfold aI1; split <;> rfl
theorem aL2_n (f st) (k : List Value → α) (b : α) : φ (aL2 f st k b) = aL2 f st (fun s => φ (k s)) (φ b) := by unfold aL2; split <;> rfl
theorem aL2z_n (f st) (k : List Value → α) (b : α) : φ (aL2z f st k b) = aL2z f st (fun s => φ (k s)) (φ b) := by unfold aL2z; (repeat' split) <;> rfl
theorem aL1_n (f st) (k : List Value → α) (b : α) : φ (aL1 f st k b) = aL1 f st (fun s => φ (k s)) (φ b) := by unfold aL1; split <;> rfl
theorem aSh_n (f st) (k : List Value → α) (b : α) : φ (aSh f st k b) = aSh f st (fun s => φ (k s)) (φ b) := by unfold aSh; split <;> rfl
theorem cond_n (c : Bool) (a b : α) : φ (cond c a b) = cond c (φ a) (φ b) := by cases c <;> rfl
theorem aDup_n (st) (k : List Value → α) (b : α) : φ (aDup st k b) = aDup st (fun s => φ (k s)) (φ b) := by unfold aDup; split <;> simp only [cond_n φ]
theorem aPop_n (st) (k : List Value → α) (b : α) : φ (aPop st k b) = aPop st (fun s => φ (k s)) (φ b) := by unfold aPop; split <;> simp only [cond_n φ]
theorem aDup2_n (st) (k : List Value → α) (b : α) : φ (aDup2 st k b) = aDup2 st (fun s => φ (k s)) (φ b) := by unfold aDup2; split <;> simp only [cond_n φ]
theorem aLdI_n (o) (k : Value → α) (b : α) : φ (aLdI o k b) = aLdI o (fun s => φ (k s)) (φ b) := by unfold aLdI; split <;> rfl
theorem aLdL_n (o) (k : Value → α) (b : α) : φ (aLdL o k b) = aLdL o (fun s => φ (k s)) (φ b) := by unfold aLdL; split <;> rfl
theorem aLdA_n (o) (k : Value → α) (b : α) : φ (aLdA o k b) = aLdA o (fun s => φ (k s)) (φ b) := by unfold aLdA; split <;> rfl
theorem aStI_n (n ls st) (k : Lv → List Value → α) (b : α) : φ (aStI n ls st k b) = aStI n ls st (fun l s => φ (k l s)) (φ b) := by unfold aStI; split <;> rfl
theorem aStA_n (n ls st) (k : Lv → List Value → α) (b : α) : φ (aStA n ls st k b) = aStA n ls st (fun l s => φ (k l s)) (φ b) := by unfold aStA; split <;> rfl
theorem aStL_n (n ls st) (k : Lv → List Value → α) (b : α) : φ (aStL n ls st k b) = aStL n ls st (fun l s => φ (k l s)) (φ b) := by unfold aStL; split <;> rfl
theorem aInc_n (o n c ls) (k : Lv → α) (b : α) : φ (aInc o n c ls k b) = aInc o n c ls (fun l => φ (k l)) (φ b) := by unfold aInc; split <;> rfl
theorem aGet_n (ci j st g I L) (k : List Value → α) (b : α) : φ (aGet ci j st g I L k b) = aGet ci j st g I L (fun s => φ (k s)) (φ b) := by unfold aGet; split <;> simp only [cond_n φ]
theorem ite_n (c : Prop) [Decidable c] (a b : α) : φ (if c then a else b) = if c then φ a else φ b := by split <;> rfl
theorem aPut_n (ci j st g I L) (k : List Value → GS → Mi → Ml → α) (b : α) : φ (aPut ci j st g I L k b) = aPut ci j st g I L (fun s g I L => φ (k s g I L)) (φ b) := by
  unfold aPut
  split
  · rw [cond_n φ]
    congr 1
    split <;> simp only [ite_n φ]
  · simp only [cond_n φ]
  · simp only [cond_n φ]
  · rfl
theorem aLen_n (st g) (k : List Value → α) (b : α) : φ (aLen st g k b) = aLen st g (fun s => φ (k s)) (φ b) := by unfold aLen; split <;> simp only [cond_n φ]
theorem inb_n (i n) (x b : α) : φ (inb i n x b) = inb i n (φ x) (φ b) := by unfold inb; simp only [ite_n φ]
theorem aIald_n (st g I) (k : List Value → α) (b : α) : φ (aIald st g I k b) = aIald st g I (fun s => φ (k s)) (φ b) := by unfold aIald; split <;> simp only [cond_n φ, inb_n φ]
theorem aLald_n (st g L) (k : List Value → α) (b : α) : φ (aLald st g L k b) = aLald st g L (fun s => φ (k s)) (φ b) := by unfold aLald; split <;> simp only [cond_n φ, inb_n φ]
theorem aAald_n (st g) (k : List Value → α) (b : α) : φ (aAald st g k b) = aAald st g (fun s => φ (k s)) (φ b) := by unfold aAald; split <;> simp only [cond_n φ, inb_n φ]
theorem aIast_n (st g I) (k : List Value → Mi → α) (b : α) : φ (aIast st g I k b) = aIast st g I (fun s I => φ (k s I)) (φ b) := by unfold aIast; split <;> simp only [cond_n φ, inb_n φ]
theorem aLast_n (st g L) (k : List Value → Ml → α) (b : α) : φ (aLast st g L k b) = aLast st g L (fun s I => φ (k s I)) (φ b) := by unfold aLast; split <;> simp only [cond_n φ, inb_n φ]
theorem aAast_n (st g) (k : List Value → GS → α) (b : α) : φ (aAast st g k b) = aAast st g (fun s I => φ (k s I)) (φ b) := by unfold aAast; split <;> simp only [cond_n φ, inb_n φ]
theorem aNew_n (ci len ls st g I L) (k : List Value → GS → Mi → Ml → α) (b : α) : φ (aNew ci len ls st g I L k b) = aNew ci len ls st g I L (fun s g I L => φ (k s g I L)) (φ b) := by unfold aNew; rw [cond_n φ]
theorem aNwa_n (kd ls st g I L) (k : List Value → GS → Mi → Ml → α) (b : α) : φ (aNwa kd ls st g I L k b) = aNwa kd ls st g I L (fun s g I L => φ (k s g I L)) (φ b) := by unfold aNwa; split <;> simp only [cond_n φ, ite_n φ]
theorem aOin_n (st) (k : List Value → α) (b : α) : φ (aOin st k b) = aOin st (fun s => φ (k s)) (φ b) := by unfold aOin; split <;> simp only [cond_n φ]
theorem aCpy_n (st g I) (k : List Value → Mi → α) (b : α) : φ (aCpy st g I k b) = aCpy st g I (fun s I => φ (k s I)) (φ b) := by unfold aCpy; split <;> simp only [cond_n φ, ite_n φ]
theorem bri_n (c x y) (t f : α) : φ (bri c x y t f) = bri c x y (φ t) (φ f) := by unfold bri; split <;> simp only [ite_n φ]
theorem brl_n (c x y) (t f : α) : φ (brl c x y t f) = brl c x y (φ t) (φ f) := by unfold brl; split <;> simp only [ite_n φ]
theorem aBr2_n (c st) (t f : List Value → α) (b : α) : φ (aBr2 c st t f b) = aBr2 c st (fun s => φ (t s)) (fun s => φ (f s)) (φ b) := by unfold aBr2; split <;> simp only [bri_n φ]
theorem aBr1_n (c st) (t f : List Value → α) (b : α) : φ (aBr1 c st t f b) = aBr1 c st (fun s => φ (t s)) (fun s => φ (f s)) (φ b) := by unfold aBr1; split <;> simp only [bri_n φ]
theorem aBrL_n (nx st) (t : Nat → List Value → α) (f : List Value → α) (b : α) : φ (aBrL nx st t f b) = aBrL nx st (fun q s => φ (t q s)) (fun s => φ (f s)) (φ b) := by
  unfold aBrL
  split
  · split <;> simp only [brl_n φ]
  · rfl
theorem swt_n (x : Int32) (offs : List Int) : ∀ (i : Int) (k : Int → α) (d : α), φ (swt x offs i k d) = swt x offs i (fun o => φ (k o)) (φ d) := by
  induction offs with
  | nil => intro i k d; rfl
  | cons o l ih => intro i k d; show φ (if _ then _ else _) = if _ then _ else _; rw [ite_n φ]; congr 1; exact ih _ _ _
theorem swl_n (x : Int32) (ps : List (Int × Int)) : ∀ (k : Int → α) (d : α), φ (swl x ps k d) = swl x ps (fun o => φ (k o)) (φ d) := by
  induction ps with
  | nil => intro k d; rfl
  | cons o l ih => intro k d; show φ (if _ then _ else _) = if _ then _ else _; rw [ite_n φ]; congr 1; exact ih _ _
theorem aTsw_n (lo offs st) (k : Int → List Value → α) (d : List Value → α) (b : α) : φ (aTsw lo offs st k d b) = aTsw lo offs st (fun o s => φ (k o s)) (fun s => φ (d s)) (φ b) := by unfold aTsw; split <;> simp only [swt_n φ]
theorem aLsw_n (ps st) (k : Int → List Value → α) (d : List Value → α) (b : α) : φ (aLsw ps st k d b) = aLsw ps st (fun o s => φ (k o s)) (fun s => φ (d s)) (φ b) := by unfold aLsw; split <;> simp only [swl_n φ]
theorem aRtI_n (bo st) (k : Int32 → α) (b : α) : φ (aRtI bo st k b) = aRtI bo st (fun s => φ (k s)) (φ b) := by unfold aRtI; split <;> simp only [cond_n φ, ite_n φ]
theorem aRtL_n (st) (k : Int64 → α) (b : α) : φ (aRtL st k b) = aRtL st (fun s => φ (k s)) (φ b) := by unfold aRtL; split <;> rfl
theorem aRtV_n (st) (k : α) (b : α) : φ (aRtV st k b) = aRtV st (φ k) (φ b) := by unfold aRtV; split <;> rfl
theorem aCal_n (m2 k mx st) (c : List Value → List Value → α) (b : α) : φ (aCal m2 k mx st c b) = aCal m2 k mx st (fun x y => φ (c x y)) (φ b) := by unfold aCal; rw [cond_n φ]
set_option maxHeartbeats 4000000 in
theorem act_n (cd : List Rw) (pc : Nat) (ins : Instr) (len e1 e2 : Nat) (e3 : Int) (ls : Lv) (st : List Value) (g : GS) (I : Mi) (L : Ml)
    (fin : Ou → Nat → α) (nxt : Nat → Lv → List Value → GS → Mi → Ml → α) (cal : Nat → Nat → List Value → List Value → α) (b : α) :
    φ (act cd pc ins len e1 e2 e3 ls st g I L fin nxt cal b) = act cd pc ins len e1 e2 e3 ls st g I L (fun o x => φ (fin o x)) (fun pc ls st g I L => φ (nxt pc ls st g I L)) (fun m s a r => φ (cal m s a r)) (φ b) := by
  cases ins <;> first | rfl | (simp only [act, aI2_n φ, aI2z_n φ, aI1_n φ, aL2_n φ, aL2z_n φ, aL1_n φ, aSh_n φ, aDup_n φ, aPop_n φ, aDup2_n φ, aLdI_n φ, aLdL_n φ, aLdA_n φ, aStI_n φ, aStA_n φ, aStL_n φ, aInc_n φ, aGet_n φ, aPut_n φ, aLen_n φ, aIald_n φ, aLald_n φ, aAald_n φ, aIast_n φ, aLast_n φ, aAast_n φ, aNew_n φ, aNwa_n φ, aOin_n φ, aCpy_n φ, aBr2_n φ, aBr1_n φ, aBrL_n φ, aTsw_n φ, aLsw_n φ, aRtI_n φ, aRtL_n φ, aRtV_n φ, aCal_n φ, cond_n φ])
end
noncomputable def stp (cd : List Rw) (pc : Nat) (ins : Instr) (len e1 e2 : Nat) (e3 : Int) (ls : Lv) (st : List Value) (g : GS) (I : Mi) (L : Ml) : Option Act :=
  act cd pc ins len e1 e2 e3 ls st g I L (fun o x => some (.inl (o, x))) (fun pc ls st g I L => some (.inr (.inl (pc, ls, st, g, I, L)))) (fun m s a r => some (.inr (.inr (m, s, a, r)))) none
noncomputable def ipt (f : Nat → List Rw → Nat → Kf) (mi : Nat) (cd : List Rw) (pc : Nat) (ls : Lv) (g : GS) (I : Mi) (L : Ml) (e : Nat) (K : Kr) : Option Act → Option Rs
  | none => none
  | some (.inl (o, x)) => K o g I L (e + x)
  | some (.inr (.inl (pc, ls, st, g, I, L))) => f mi cd pc ls st g I L e K
  | some (.inr (.inr (m2, sp, a, r))) => f m2 (PT m2) 0 (lv_args 0 a) [] g I L e (kcl (f mi cd) mi pc sp ls g.1 r K)
theorem body_eq (f mi cd pc ls st g I L e K) : body f mi cd pc ls st g I L e K = match ftc cd pc with
    | none => none
    | some (_, ins, len, e1, e2, e3) => ipt f mi cd pc ls g I L e K (stp cd pc ins len e1 e2 e3 ls st g I L) := by
  unfold body
  cases ftc cd pc with
  | none => rfl
  | some row =>
    obtain ⟨q, ins, len, e1, e2, e3⟩ := row
    dsimp only
    unfold stp
    rw [act_n (ipt f mi cd pc ls g I L e K)]
    rfl
theorem run_0 (O mi cd pc ls st g I L e K) : run O 0 mi cd pc ls st g I L e K = none := rfl
theorem run_s (O n mi cd pc ls st g I L e K) : run O (n + 1) mi cd pc ls st g I L e K = match orc O mi pc with | some G => G ls st g I L e K | none => body (run O n) mi cd pc ls st g I L e K := rfl
theorem run_e (n mi cd pc ls st g I L e K) : run [] (n + 1) mi cd pc ls st g I L e K = body (run [] n) mi cd pc ls st g I L e K := rfl
/-- the passing of the rest: what a run tells comes from where it ends -/
theorem run_pass : ∀ n : Nat, (∀ mi cd pc ls st g I L e K r, run [] n mi cd pc ls st g I L e K = some r → ∃ o g' I' L' e', run [] n mi cd pc ls st g I L e K0 = some (o, g', I', L', e') ∧ K o g' I' L' e' = some r) ∧
    (∀ mi cd pc ls st g I L e o g' I' L' e', run [] n mi cd pc ls st g I L e K0 = some (o, g', I', L', e') → ∀ K, run [] n mi cd pc ls st g I L e K = K o g' I' L' e') := by
  intro n
  induction n with
  | zero => exact ⟨fun _ _ _ _ _ _ _ _ _ _ _ h => (by cases h), fun _ _ _ _ _ _ _ _ _ _ _ _ _ _ h => (by cases h)⟩
  | succ n ih =>
    obtain ⟨ihb, ihf⟩ := ih
    constructor
    · intro mi cd pc ls st g I L e K r h
      rw [run_e, body_eq] at h
      rw [run_e, body_eq]
      cases hf : ftc cd pc with
      | none => rw [hf] at h; cases h
      | some row =>
        obtain ⟨q, ins, len, e1, e2, e3⟩ := row
        rw [hf] at h
        dsimp only at h ⊢
        rcases hs : stp cd pc ins len e1 e2 e3 ls st g I L with _ | ⟨o, x⟩ | ⟨pc2, ls2, st2, g2, I2, L2⟩ | ⟨m2, sp, a, rs⟩
        · rw [hs] at h; cases h
        · rw [hs] at h
          exact ⟨o, g, I, L, e + x, rfl, h⟩
        · rw [hs] at h
          exact ihb _ _ _ _ _ _ _ _ _ _ _ h
        · rw [hs] at h
          obtain ⟨o, g', I', L', e', h1, h2⟩ := ihb _ _ _ _ _ _ _ _ _ _ _ h
          show ∃ o g' I' L' e', run [] n m2 (PT m2) 0 (lv_args 0 a) [] g I L e (kcl (run [] n mi cd) mi pc sp ls g.1 rs K0) = some (o, g', I', L', e') ∧ _
          rw [ihf _ _ _ _ _ _ _ _ _ _ _ _ _ _ h1]
          rcases o with v | x
          · dsimp only [kcl] at h2 ⊢
            cases hc : (Nat.beq sp 1 || Nat.beq g'.1 g.1) with
            | false => rw [hc] at h2; cases h2
            | true =>
              rw [hc] at h2
              exact ihb _ _ _ _ _ _ _ _ _ _ _ h2
          · dsimp only [kcl] at h2 ⊢
            cases hh : hnd mi x with
            | none => rw [hh] at h2; exact ⟨_, _, _, _, _, rfl, h2⟩
            | some oc => cases oc with
              | none => rw [hh] at h2; cases h2
              | some c => rw [hh] at h2; exact ⟨_, _, _, _, _, rfl, h2⟩
    · intro mi cd pc ls st g I L e o g' I' L' e' h K
      rw [run_e, body_eq] at h
      rw [run_e, body_eq]
      cases hf : ftc cd pc with
      | none => rw [hf] at h; cases h
      | some row =>
        obtain ⟨q, ins, len, e1, e2, e3⟩ := row
        rw [hf] at h
        dsimp only at h ⊢
        rcases hs : stp cd pc ins len e1 e2 e3 ls st g I L with _ | ⟨o2, x⟩ | ⟨pc2, ls2, st2, g2, I2, L2⟩ | ⟨m2, sp, a, rs⟩
        · rw [hs] at h; cases h
        · rw [hs] at h
          cases h
          rfl
        · rw [hs] at h
          exact ihf _ _ _ _ _ _ _ _ _ _ _ _ _ _ h K
        · rw [hs] at h
          obtain ⟨o1, g1, I1, L1, e1', h1, h2⟩ := ihb _ _ _ _ _ _ _ _ _ _ _ h
          show run [] n m2 (PT m2) 0 (lv_args 0 a) [] g I L e (kcl (run [] n mi cd) mi pc sp ls g.1 rs K) = _
          rw [ihf _ _ _ _ _ _ _ _ _ _ _ _ _ _ h1]
          rcases o1 with v | x
          · dsimp only [kcl] at h2 ⊢
            cases hc : (Nat.beq sp 1 || Nat.beq g1.1 g.1) with
            | false => rw [hc] at h2; cases h2
            | true =>
              rw [hc] at h2
              exact ihf _ _ _ _ _ _ _ _ _ _ _ _ _ _ h2 K
          · dsimp only [kcl] at h2 ⊢
            cases hh : hnd mi x with
            | none => rw [hh] at h2; cases h2; rfl
            | some oc => cases oc with
              | none => rw [hh] at h2; cases h2
              | some c => rw [hh] at h2; cases h2; rfl
/-- more fuel, the same answer -/
theorem run_more1 : ∀ n mi cd pc ls st g I L e K r, run [] n mi cd pc ls st g I L e K = some r → run [] (n + 1) mi cd pc ls st g I L e K = some r := by
  intro n
  induction n with
  | zero => intro mi cd pc ls st g I L e K r h; cases h
  | succ n ih =>
    intro mi cd pc ls st g I L e K r h
    rw [run_e, body_eq] at h
    rw [run_e, body_eq]
    cases hf : ftc cd pc with
    | none => rw [hf] at h; cases h
    | some row =>
      obtain ⟨q, ins, len, e1, e2, e3⟩ := row
      rw [hf] at h
      dsimp only at h ⊢
      rcases hs : stp cd pc ins len e1 e2 e3 ls st g I L with _ | ⟨o2, x⟩ | ⟨pc2, ls2, st2, g2, I2, L2⟩ | ⟨m2, sp, a, rs⟩
      · rw [hs] at h; cases h
      · rw [hs] at h; exact h
      · rw [hs] at h
        exact ih _ _ _ _ _ _ _ _ _ _ _ h
      · rw [hs] at h
        obtain ⟨o1, g1, I1, L1, e1', h1, h2⟩ := (run_pass n).1 _ _ _ _ _ _ _ _ _ _ _ h
        show run [] (n + 1) m2 (PT m2) 0 (lv_args 0 a) [] g I L e (kcl (run [] (n + 1) mi cd) mi pc sp ls g.1 rs K) = _
        rw [(run_pass (n + 1)).2 _ _ _ _ _ _ _ _ _ _ _ _ _ _ (ih _ _ _ _ _ _ _ _ _ _ _ h1)]
        rcases o1 with v | x
        · dsimp only [kcl] at h2 ⊢
          cases hc : (Nat.beq sp 1 || Nat.beq g1.1 g.1) with
          | false => rw [hc] at h2; cases h2
          | true =>
            rw [hc] at h2
            exact ih _ _ _ _ _ _ _ _ _ _ _ h2
        · dsimp only [kcl] at h2 ⊢
          cases hh : hnd mi x with
          | none => rw [hh] at h2; exact h2
          | some oc => cases oc with
            | none => rw [hh] at h2; cases h2
            | some c => rw [hh] at h2; exact h2
theorem run_more {n mi cd pc ls st g I L e K r} (j : Nat) (h : run [] n mi cd pc ls st g I L e K = some r) : run [] (n + j) mi cd pc ls st g I L e K = some r := by
  induction j with
  | zero => exact h
  | succ j ih => exact run_more1 _ _ _ _ _ _ _ _ _ _ _ _ ih
/-- the method mi, from pc on, comes to an end -/
def Ev (mi pc : Nat) (ls : Lv) (st : List Value) (g : GS) (I : Mi) (L : Ml) (e : Nat) (o : Ou) (g' : GS) (I' : Mi) (L' : Ml) (e' : Nat) : Prop := ∃ n, run [] n mi (PT mi) pc ls st g I L e K0 = some (o, g', I', L', e')
/-- a summary that may be used -/
def Snd (mi pc : Nat) (G : Kf) : Prop := ∀ ls st g I L e K r, G ls st g I L e K = some r → ∃ o g' I' L' e', Ev mi pc ls st g I L e o g' I' L' e' ∧ K o g' I' L' e' = some r
theorem orc_mem {O : Og} {mi pc : Nat} {G : Kf} (h : orc O mi pc = some G) : (mi, pc, G) ∈ O := by
  induction O with
  | nil => cases h
  | cons q O ih =>
    change cond (Nat.beq q.1 mi && Nat.beq q.2.1 pc) (some q.2.2) (orc O mi pc) = some G at h
    cases hc : (Nat.beq q.1 mi && Nat.beq q.2.1 pc) with
    | false => rw [hc] at h; exact List.mem_cons_of_mem _ (ih h)
    | true =>
      rw [hc] at h
      cases h
      obtain ⟨h1, h2⟩ := Bool.and_eq_true_iff.mp hc
      have e1 := Nat.eq_of_beq_eq_true h1
      have e2 := Nat.eq_of_beq_eq_true h2
      subst e1; subst e2
      exact List.mem_cons_self
theorem Ev.step {mi pc ls st g I L e ins len e1 e2 e3 q pc2 ls2 st2 g2 I2 L2 o g' I' L' e'} (hf : ftc (PT mi) pc = some (q, ins, len, e1, e2, e3)) (hs : stp (PT mi) pc ins len e1 e2 e3 ls st g I L = some (.inr (.inl (pc2, ls2, st2, g2, I2, L2)))) (h : Ev mi pc2 ls2 st2 g2 I2 L2 e o g' I' L' e') : Ev mi pc ls st g I L e o g' I' L' e' := by
  obtain ⟨n, h⟩ := h
  refine ⟨n + 1, ?_⟩
  rw [run_e, body_eq, hf]
  dsimp only
  rw [hs]
  exact h
theorem body_ev (O : Og) (n : Nat) (ihn : ∀ mi pc ls st g I L e K r, run O n mi (PT mi) pc ls st g I L e K = some r → ∃ o g' I' L' e', Ev mi pc ls st g I L e o g' I' L' e' ∧ K o g' I' L' e' = some r)
    {mi pc ls st g I L e K r} (h : body (run O n) mi (PT mi) pc ls st g I L e K = some r) : ∃ o g' I' L' e', Ev mi pc ls st g I L e o g' I' L' e' ∧ K o g' I' L' e' = some r := by
  rw [body_eq] at h
  cases hf : ftc (PT mi) pc with
  | none => rw [hf] at h; cases h
  | some row =>
    obtain ⟨q, ins, len, e1, e2, e3⟩ := row
    rw [hf] at h
    dsimp only at h
    rcases hs : stp (PT mi) pc ins len e1 e2 e3 ls st g I L with _ | ⟨o2, x⟩ | ⟨pc2, ls2, st2, g2, I2, L2⟩ | ⟨m2, sp, a, rs⟩
    · rw [hs] at h; cases h
    · rw [hs] at h
      refine ⟨o2, g, I, L, e + x, ⟨1, ?_⟩, h⟩
      rw [run_e, body_eq, hf]
      dsimp only
      rw [hs]
      rfl
    · rw [hs] at h
      obtain ⟨o, g', I', L', e', h1, h2⟩ := ihn _ _ _ _ _ _ _ _ _ _ h
      exact ⟨o, g', I', L', e', Ev.step hf hs h1, h2⟩
    · rw [hs] at h
      obtain ⟨o1, g1, I1, L1, e1', ⟨k1, h1⟩, h2⟩ := ihn _ _ _ _ _ _ _ _ _ _ h
      have key : ∀ (j : Nat) (o g' I' L' e'), kcl (run [] (k1 + j) mi (PT mi)) mi pc sp ls g.1 rs K0 o1 g1 I1 L1 e1' = some (o, g', I', L', e') → Ev mi pc ls st g I L e o g' I' L' e' := by
        intro j o g' I' L' e' hk
        refine ⟨k1 + j + 1, ?_⟩
        rw [run_e, body_eq, hf]
        dsimp only
        rw [hs]
        show run [] (k1 + j) m2 (PT m2) 0 (lv_args 0 a) [] g I L e (kcl (run [] (k1 + j) mi (PT mi)) mi pc sp ls g.1 rs K0) = _
        rw [(run_pass (k1 + j)).2 _ _ _ _ _ _ _ _ _ _ _ _ _ _ (run_more j h1)]
        exact hk
      rcases o1 with v | x
      · dsimp only [kcl] at h2 key
        cases hc : (Nat.beq sp 1 || Nat.beq g1.1 g.1) with
        | false => rw [hc] at h2; cases h2
        | true =>
          rw [hc] at h2 key
          obtain ⟨o, g', I', L', e', ⟨k2, h3⟩, h4⟩ := ihn _ _ _ _ _ _ _ _ _ _ h2
          refine ⟨o, g', I', L', e', key k2 _ _ _ _ _ ?_, h4⟩
          show run [] (k1 + k2) mi (PT mi) (pc + 3) ls (v.toList ++ rs) g1 I1 L1 e1' K0 = _
          rw [Nat.add_comm]
          exact run_more k1 h3
      · dsimp only [kcl] at h2 key
        cases hh : hnd mi x with
        | none => rw [hh] at h2 key; exact ⟨_, _, _, _, _, key 0 _ _ _ _ _ rfl, h2⟩
        | some oc => cases oc with
          | none => rw [hh] at h2; cases h2
          | some c => rw [hh] at h2 key; exact ⟨_, _, _, _, _, key 0 _ _ _ _ _ rfl, h2⟩
theorem runO_ev {O : Og} (hO : ∀ q ∈ O, Snd q.1 q.2.1 q.2.2) : ∀ n mi pc ls st g I L e K r, run O n mi (PT mi) pc ls st g I L e K = some r → ∃ o g' I' L' e', Ev mi pc ls st g I L e o g' I' L' e' ∧ K o g' I' L' e' = some r := by
  intro n
  induction n with
  | zero => intro mi pc ls st g I L e K r h; cases h
  | succ n ih =>
    intro mi pc ls st g I L e K r h
    rw [run_s] at h
    cases ho : orc O mi pc with
    | some G => rw [ho] at h; exact hO _ (orc_mem ho) _ _ _ _ _ _ _ _ h
    | none => rw [ho] at h; exact body_ev O n ih h
/-- a method's summary out of a run with summaries -/
theorem Snd.ofRun {O : Og} (hO : ∀ q ∈ O, Snd q.1 q.2.1 q.2.2) (n mi pc : Nat) {G : Kf} (h : ∀ ls st g I L e K r, G ls st g I L e K = some r → run O n mi (PT mi) pc ls st g I L e K = some r) : Snd mi pc G :=
  fun ls st g I L e K r hg => runO_ev hO n mi pc ls st g I L e K r (h ls st g I L e K r hg)
theorem Snd.ofBody {O : Og} (hO : ∀ q ∈ O, Snd q.1 q.2.1 q.2.2) (n mi pc : Nat) {G : Kf} (h : ∀ ls st g I L e K r, G ls st g I L e K = some r → body (run O n) mi (PT mi) pc ls st g I L e K = some r) : Snd mi pc G :=
  fun ls st g I L e K r hg => body_ev O n (runO_ev hO n) (h ls st g I L e K r hg)
