/-! Which instructions end a method; and that places are only added. -/
section
variable {α : Type} (b : α)
theorem cond_k (c : Bool) : cond c b b = b := by cases c <;> rfl
theorem ite_k (c : Prop) [Decidable c] : (if c then b else b) = b := by split <;> rfl
theorem inb_k (i n) : inb i n b b = b := by unfold inb; simp only [ite_k]
theorem aI2_k (f st) : aI2 f st (fun _ => b) b = b := by unfold aI2; split <;> rfl
theorem aI2z_k (f st) : aI2z f st (fun _ => b) b = b := by unfold aI2z; split <;> simp only [ite_k]
theorem aI1_k (f st) : aI1 f st (fun _ => b) b = b := by unfold aI1; split <;> rfl
theorem aL2_k (f st) : aL2 f st (fun _ => b) b = b := by unfold aL2; split <;> rfl
theorem aL2z_k (f st) : aL2z f st (fun _ => b) b = b := by unfold aL2z; split <;> simp only [ite_k]
theorem aL1_k (f st) : aL1 f st (fun _ => b) b = b := by unfold aL1; split <;> rfl
theorem aSh_k (f st) : aSh f st (fun _ => b) b = b := by unfold aSh; split <;> rfl
theorem aDup_k (st) : aDup st (fun _ => b) b = b := by unfold aDup; split <;> simp only [cond_k]
theorem aPop_k (st) : aPop st (fun _ => b) b = b := by unfold aPop; split <;> simp only [cond_k]
theorem aDup2_k (st) : aDup2 st (fun _ => b) b = b := by unfold aDup2; split <;> simp only [cond_k]
theorem aLdI_k (o) : aLdI o (fun _ => b) b = b := by unfold aLdI; split <;> rfl
theorem aLdL_k (o) : aLdL o (fun _ => b) b = b := by unfold aLdL; split <;> rfl
theorem aLdA_k (o) : aLdA o (fun _ => b) b = b := by unfold aLdA; split <;> rfl
theorem aStI_k (n ls st) : aStI n ls st (fun _ _ => b) b = b := by unfold aStI; split <;> rfl
theorem aStA_k (n ls st) : aStA n ls st (fun _ _ => b) b = b := by unfold aStA; split <;> rfl
theorem aStL_k (n ls st) : aStL n ls st (fun _ _ => b) b = b := by unfold aStL; split <;> rfl
theorem aInc_k (o n c ls) : aInc o n c ls (fun _ => b) b = b := by unfold aInc; split <;> rfl
theorem aGet_k (ci j st g I L) : aGet ci j st g I L (fun _ => b) b = b := by unfold aGet; split <;> simp only [cond_k]
theorem aPut_k (ci j st g I L) : aPut ci j st g I L (fun _ _ _ _ => b) b = b := by
  unfold aPut
  split
  · have : (match fk ci j with | 0 => b | 1 => (if ‹Int32› = 0 then b else if ‹Int32› = 1 then b else b) | _ => b) = b := by split <;> simp only [ite_k]
    simp only [ite_k]
    split <;> simp only [cond_k]
  · simp only [cond_k]
  · simp only [cond_k]
  · rfl
theorem aLen_k (st g) : aLen st g (fun _ => b) b = b := by unfold aLen; split <;> simp only [cond_k]
theorem aIald_k (st g I) : aIald st g I (fun _ => b) b = b := by unfold aIald; split <;> simp only [inb_k, cond_k]
theorem aLald_k (st g L) : aLald st g L (fun _ => b) b = b := by unfold aLald; split <;> simp only [inb_k, cond_k]
theorem aAald_k (st g) : aAald st g (fun _ => b) b = b := by unfold aAald; split <;> simp only [inb_k, cond_k]
theorem aIast_k (st g I) : aIast st g I (fun _ _ => b) b = b := by unfold aIast; split <;> simp only [inb_k, cond_k]
theorem aLast_k (st g L) : aLast st g L (fun _ _ => b) b = b := by unfold aLast; split <;> simp only [inb_k, cond_k]
theorem aAast_k (st g) : aAast st g (fun _ _ => b) b = b := by unfold aAast; split <;> simp only [inb_k, cond_k]
theorem aNwa_k (kd ls st g I L) : aNwa kd ls st g I L (fun _ _ _ _ => b) b = b := by unfold aNwa; split <;> simp only [ite_k, cond_k]
theorem aNew_k (ci len ls st g I L) : aNew ci len ls st g I L (fun _ _ _ _ => b) b = b := by unfold aNew; rw [cond_k]
theorem aOin_k (st) : aOin st (fun _ => b) b = b := by unfold aOin; split <;> simp only [cond_k]
theorem aCpy_k (st g I) : aCpy st g I (fun _ _ => b) b = b := by unfold aCpy; split <;> simp only [ite_k, cond_k]
theorem bri_k (c x y) : bri c x y b b = b := by unfold bri; split <;> simp only [ite_k]
theorem brl_k (c x y) : brl c x y b b = b := by unfold brl; split <;> simp only [ite_k]
theorem aBr2_k (c st) : aBr2 c st (fun _ => b) (fun _ => b) b = b := by unfold aBr2; split <;> simp only [bri_k]
theorem aBr1_k (c st) : aBr1 c st (fun _ => b) (fun _ => b) b = b := by unfold aBr1; split <;> simp only [bri_k]
theorem aBrL_k (nx st) : aBrL nx st (fun _ _ => b) (fun _ => b) b = b := by unfold aBrL; split <;> first | rfl | (split <;> first | rfl | simp only [brl_k])
theorem swt_k (x : Int32) (offs : List Int) : ∀ i : Int, swt x offs i (fun _ => b) b = b := by
  induction offs with
  | nil => intro i; rfl
  | cons o l ih => intro i; show (if _ then b else swt x l (i + 1) (fun _ => b) b) = b; rw [ih, ite_k]
theorem swl_k (x : Int32) (ps : List (Int × Int)) : swl x ps (fun _ => b) b = b := by
  induction ps with
  | nil => rfl
  | cons o l ih => show (if _ then b else swl x l (fun _ => b) b) = b; rw [ih, ite_k]
theorem aTsw_k (lo offs st) : aTsw lo offs st (fun _ _ => b) (fun _ => b) b = b := by unfold aTsw; split <;> simp only [swt_k]
theorem aLsw_k (ps st) : aLsw ps st (fun _ _ => b) (fun _ => b) b = b := by unfold aLsw; split <;> simp only [swl_k]
theorem aRtI_k (bo st) : aRtI bo st (fun _ => b) b = b := by unfold aRtI; split <;> simp only [ite_k, cond_k]
theorem aRtL_k (st) : aRtL st (fun _ => b) b = b := by unfold aRtL; split <;> rfl
theorem aRtV_k (st) : aRtV st b b = b := by unfold aRtV; split <;> rfl
theorem aCal_k (m2 k mx st) : aCal m2 k mx st (fun _ _ => b) b = b := by unfold aCal; rw [cond_k]
end
def isFin : Option Act → Bool | some (.inl _) => true | _ => false
def isCal : Option Act → Bool | some (.inr (.inr _)) => true | _ => false
def isMon (g : GS) : Option Act → Bool | some (.inr (.inl (_, _, _, g2, _, _))) => Nat.ble g.1 g2.1 && Nat.ble g.2.1 g2.2.1 | _ => true
set_option maxHeartbeats 4000000 in
theorem fin_ins {cd pc ins len e1 e2 e3 ls st g I L q} (hs : stp cd pc ins len e1 e2 e3 ls st g I L = some (.inl q)) : ins = .ireturn ∨ ins = .lreturn ∨ ins = .return_ ∨ ∃ n, ins = .new n := by
  have h : isFin (stp cd pc ins len e1 e2 e3 ls st g I L) = true := by rw [hs]; rfl
  unfold stp at h
  rw [act_n isFin] at h
  cases ins <;> first | exact Or.inl rfl | exact Or.inr (Or.inl rfl) | exact Or.inr (Or.inr (Or.inl rfl)) | exact Or.inr (Or.inr (Or.inr ⟨_, rfl⟩)) | (exfalso; simp only [act, isFin, aI2_k, aI2z_k, aI1_k, aL2_k, aL2z_k, aL1_k, aSh_k, aDup_k, aPop_k, aDup2_k, aLdI_k, aLdL_k, aLdA_k, aStI_k, aStA_k, aStL_k, aInc_k, aGet_k, aPut_k, aLen_k, aIald_k, aLald_k, aAald_k, aIast_k, aLast_k, aAast_k, aNwa_k, aOin_k, aCpy_k, aBr2_k, aBr1_k, aBrL_k, aTsw_k, aLsw_k, aCal_k, cond_k, Bool.false_eq_true] at h)
set_option maxHeartbeats 4000000 in
theorem cal_ins {cd pc ins len e1 e2 e3 ls st g I L q} (hs : stp cd pc ins len e1 e2 e3 ls st g I L = some (.inr (.inr q))) : (∃ n, ins = .invokevirtual n) ∨ (∃ n, ins = .invokestatic n) ∨ ∃ n, ins = .invokespecial n := by
  have h : isCal (stp cd pc ins len e1 e2 e3 ls st g I L) = true := by rw [hs]; rfl
  unfold stp at h
  rw [act_n isCal] at h
  cases ins <;> first | exact Or.inl ⟨_, rfl⟩ | exact Or.inr (Or.inl ⟨_, rfl⟩) | exact Or.inr (Or.inr ⟨_, rfl⟩) | (exfalso; simp only [act, isCal, aI2_k, aI2z_k, aI1_k, aL2_k, aL2z_k, aL1_k, aSh_k, aDup_k, aPop_k, aDup2_k, aLdI_k, aLdL_k, aLdA_k, aStI_k, aStA_k, aStL_k, aInc_k, aGet_k, aPut_k, aLen_k, aIald_k, aLald_k, aAald_k, aIast_k, aLast_k, aAast_k, aNew_k, aNwa_k, aOin_k, aCpy_k, aBr2_k, aBr1_k, aBrL_k, aTsw_k, aLsw_k, aRtI_k, aRtL_k, aRtV_k, cond_k, Bool.false_eq_true] at h)
theorem nble (a : Nat) : Nat.ble a a = true := Nat.ble_self_eq_true a
set_option maxHeartbeats 4000000 in
theorem stp_mono {cd pc ins len e1 e2 e3 ls st g I L pc2 ls2 st2 g2 I2 L2} (hs : stp cd pc ins len e1 e2 e3 ls st g I L = some (.inr (.inl (pc2, ls2, st2, g2, I2, L2)))) : g.1 ≤ g2.1 ∧ g.2.1 ≤ g2.2.1 := by
  have h : isMon g (stp cd pc ins len e1 e2 e3 ls st g I L) = true := by
    clear hs
    unfold stp
    rw [act_n (isMon g)]
    have ea : Nat.ble g.1 (g.1 + 1) = true := Nat.ble_eq_true_of_le (Nat.le_succ _)
    have ez : ∀ n, Nat.ble g.2.1 (g.2.1 + n) = true := fun n => Nat.ble_eq_true_of_le (Nat.le_add_right _ _)
    cases ins <;> (simp only [act, isMon, gnw, nble, ea, ez, Bool.and_self, aI2_k, aI2z_k, aI1_k, aL2_k, aL2z_k, aL1_k, aSh_k, aDup_k, aPop_k, aDup2_k, aLdI_k, aLdL_k, aLdA_k, aStI_k, aStA_k, aStL_k, aInc_k, aGet_k, aLen_k, aIald_k, aLald_k, aAald_k, aIast_k, aLast_k, aOin_k, aCpy_k, aBr2_k, aBr1_k, aBrL_k, aTsw_k, aLsw_k, aRtI_k, aRtL_k, aRtV_k, aCal_k, cond_k])
    · unfold aAast; split
      · simp only [nble, Bool.and_self, inb_k, cond_k]
      · rfl
    · unfold aNwa; split
      · simp only [gnw, nble, ea, ez, Bool.and_self, ite_k, cond_k]
      · rfl
    · unfold aNew; simp only [gnw, nble, ea, ez, Bool.and_self, cond_k]
    · unfold aNwa; split
      · simp only [gnw, nble, ea, ez, Bool.and_self, ite_k, cond_k]
      · rfl
    · unfold aPut; split
      · simp only [nble, Bool.and_self, ite_k]
        split <;> simp only [cond_k]
      · simp only [nble, Bool.and_self, cond_k]
      · simp only [nble, Bool.and_self, cond_k]
      · rfl
  rw [hs] at h
  simp only [isMon, Bool.and_eq_true] at h
  exact ⟨Nat.le_of_ble_eq_true h.1, Nat.le_of_ble_eq_true h.2⟩
