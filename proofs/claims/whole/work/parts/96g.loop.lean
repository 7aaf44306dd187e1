/-! limit and keep; the loop of the law. -/
theorem sh_av {F : Fr} {I I' : Mi} (hf : FrI F I I') (hF : ∀ j, j < 58 → 30 ≤ j → avS F j = true) {k : Nat} (hk : k < 4) {o : Option Ch} (h : ShAt I k o) : ShAt I' k o :=
  h.cg (congrFun (hf.at (hF _ (by omega) (by omega))) 0) (hf.at (hF _ (by omega) (by omega))) (hf.at (hF _ (by omega) (by omega))) (hf.at (hF _ (by omega) (by omega))) (hf.at (hF _ (by omega) (by omega)))
theorem CSt.gl {F : Fr} {I I' : Mi} {ch : Ch} {sh : Nat → Option Ch} {a b c d : Int} (h : CSt I ch sh a b) (hf : FrI F I I') (hF : ∀ j, j < 58 → 3 ≤ j → avS F j = true) (hl : LimAt I' c d) : CSt I' ch sh c d :=
  ⟨h.c.cg (hf.at (hF _ (by omega) (by omega))) (hf.at (hF _ (by omega) (by omega))) (hf.at (hF _ (by omega) (by omega))) (hf.at (hF _ (by omega) (by omega))), hl, h.t.cg (hf.at (hF _ (by omega) (by omega))) (hf.at (hF _ (by omega) (by omega))), fun k hk => sh_av hf (fun j h1 h2 => hF j h1 (by omega)) hk (h.s k hk)⟩
theorem shU_ok {ch : Ch} {sh : Nat → Option Ch} (hok : ChOk ch) (hsh : ShOk sh) {k : Nat} : ShOk (shU sh k ch) := by
  intro j c hj hh
  unfold shU at hh
  split at hh
  · cases hh
    exact hok
  · exact hsh j c hj hh
set_option maxHeartbeats 4000000 in
theorem k_4 {Lx i : Nat} {I : Mi} {L : Ml} {e : Nat} {Q : Kq} {ch : Ch} {sh : Nat → Option Ch} {a b : Int} (hL : Lx ≤ 5120) (hi : i + 9 < Lx) (hok : ChOk ch) (hsh : ShOk sh) (hc : CSt I ch sh a b) (hr : RSt I ch sh a b) (hn : NX Lx i Q e) : Wp 420 514 [(0, .ref 0), (1, .ref 1), (2, .ref 58), (3, .ref 70), (4, .int (Int32.ofInt (i : Int)))] [] (gE Lx) I L e Q := by
  obtain ⟨z1, r1, q1⟩ := o32 (I 0 ((Int32.ofInt (i : Int) + Int32.ofInt 1).toNatClampNeg))
  obtain ⟨z2, r2, q2⟩ := o32 (I 0 ((Int32.ofInt (i : Int) + Int32.ofInt 2).toNatClampNeg))
  refine s_420_514 (n_go hL (by decide) (by omega) (n_go hL (by decide) (by omega) ?_))
  rw [q1, q2]
  refine h_371 r1 r2 (fun lo => kcp_v rfl (s_420_530 (n_go hL (by decide) (by omega) (n_go hL (by decide) (by omega) ?_)))) (fun lo => kcp_v rfl (s_420_530 (n_go hL (by decide) (by omega) (n_go hL (by decide) (by omega) ?_))))
  · rw [show (ui (ui I 1 4 (Int32.ofInt z1)) 1 5 (Int32.ofInt z2)) 0 = I 0 from rfl, q1, q2]
    obtain ⟨l1, l2, l3, l4⟩ := id lo
    have hf1 : FrI [(1, 4, 2)] I (ui (ui I 1 4 (Int32.ofInt z1)) 1 5 (Int32.ofInt z2)) := FrI.wu (FrI.wu FrI.rf rfl) rfl
    have hc1 : CSt (ui (ui I 1 4 (Int32.ofInt z1)) 1 5 (Int32.ofInt z2)) ch sh z1 z2 := hc.gl hf1 (by decide) ⟨⟨rfl, rfl⟩, by omega, by omega⟩
    have hr1 : RSt (ui (ui I 1 4 (Int32.ofInt z1)) 1 5 (Int32.ofInt z2)) ch sh a b := ⟨hr.c.cg rfl, hr.l.cg rfl rfl, hr.t.cg rfl rfl rfl, fun k hk => (hr.s k hk).cg rfl⟩
    refine r_221 r1 r2 (fun _ => kcp_v rfl (s_420_548 (i_t rfl (hn _ _ _ ⟨ch, sh, z1, z2, hok, hsh, ?_, ?_⟩ (Nat.le_succ e))))) (fun k => absurd lo k)
    · exact hc1.gl (F := [(58, 0, 0)]) (FrI.wu (FrI.wu (FrI.wu FrI.rf rfl) rfl) rfl) (by decide) (hc1.l.cg rfl)
    · exact ⟨hr1.c.cg rfl, ⟨⟨rfl, rfl⟩, by omega, by omega⟩, hr1.t.cg rfl rfl rfl, fun k hk => (hr1.s k hk).cg rfl⟩
  · rw [q1, q2]
    refine r_221 r1 r2 (fun k => absurd k lo) (fun _ => kcp_v rfl (s_420_548 (i_t rfl (hn _ _ _ ⟨ch, sh, a, b, hok, hsh, ?_, ?_⟩ (Nat.le_refl _)))))
    · exact hc.rw (FrI.wu FrI.rf rfl)
    · exact hr.f (FrI.wu FrI.rf rfl)
set_option maxHeartbeats 4000000 in
theorem k_49 {Lx i : Nat} {I : Mi} {L : Ml} {e : Nat} {Q : Kq} {ch : Ch} {sh : Nat → Option Ch} {a b : Int} (hL : Lx ≤ 5120) (hi : i + 9 < Lx) (hok : ChOk ch) (hsh : ShOk sh) (hc : CSt I ch sh a b) (hr : RSt I ch sh a b) (hn : NX Lx i Q e) : Wp 420 4755 [(0, .ref 0), (1, .ref 1), (2, .ref 58), (3, .ref 70), (4, .int (Int32.ofInt (i : Int)))] [] (gE Lx) I L e Q := by
  obtain ⟨z1, r1, q1⟩ := o32 (I 0 ((Int32.ofInt (i : Int) + Int32.ofInt 1).toNatClampNeg))
  refine s_420_4755 (n_go hL (by decide) (by omega) ?_)
  rw [q1]
  refine h_413 hok.2.2.2.1 hc r1 (fun a1 a2 I1 L1 hf hc1 ho => kcp_v rfl (s_420_4766 (n_go hL (by decide) (by omega) ?_))) (fun a1 => kcp_v rfl (s_420_4766 (n_go hL (by decide) (by omega) ?_)))
  · rw [show I1 0 = I 0 from hf.at rfl, q1]
    have hr1 : RSt I1 ch sh a b := hr.k hf
    refine r_354 hsh hok.2.2.2.1 hr1 r1 (fun _ _ I2 hf2 hr2 h58 => kcp_v rfl (s_420_4778 (i_t h58 (i_t (by decide) (i_t ?_ (hn I2 L1 e ⟨ch, shU sh z1.toNat ch, a, b, hok, shU_ok hok hsh, ?_, hr2⟩ (Nat.le_succ e))))))) (fun k => absurd k (by omega))
    · rw [ho, i2l (by have := hok.2.2.2.1; omega)]
    · exact hc1.gl hf2 (by decide) (hc1.l.cg (hf2.at rfl))
  · rw [q1]
    exact r_354 hsh hok.2.2.2.1 hr r1 (fun k1 k2 => absurd a1 (by omega)) (fun _ I2 hf2 h58 => kcp_v rfl (s_420_4778 (i_t h58 (i_f (by decide) (hn I2 L (e + 1) ⟨ch, sh, a, b, hok, hsh, hc.rw (hf2.up rfl), hr.f (hf2.up rfl)⟩ (Nat.le_refl _))))))
theorem i_w {c : Prop} [Decidable c] {A B : Prop} (h1 : A) (h2 : B) : if c then A else B := by
  split
  · exact h1
  · exact h2
set_option maxRecDepth 10000 in
set_option maxHeartbeats 4000000 in
theorem k_go {Lx i : Nat} {I : Mi} {L : Ml} {e : Nat} {Q : Kq} (hL : Lx ≤ 5120) (hi : i + 9 < Lx) (h : LwS I) (hn : NX Lx i Q e) : Wp 420 23 [(0, .ref 0), (1, .ref 1), (2, .ref 58), (3, .ref 70), (4, .int (Int32.ofInt (i : Int)))] [] (gE Lx) I L e Q := by
  obtain ⟨ch, sh, a, b, hok, hsh, hc, hr⟩ := h
  refine s_420_23 ?_
  rw [show Int32.ofNat Lx = Int32.ofInt (Lx : Int) from Int32.ofInt_eq_ofNat.symm, sub32]
  refine i_lt32 (by omega) (by omega) (fun q => by omega) (fun _ => i_inb (by omega) (by omega) ?_)
  exact i_w (k_0 hL hi hok hsh hc hr hn) (i_w (k_1 hL hi hok hsh hc hr hn) (i_w (k_2 hL hi hok hsh hc hr hn) (i_w (k_3 hL hi hok hsh hc hr hn) (i_w (k_4 hL hi hok hsh hc hr hn) (i_w (k_5 hL hi hok hsh hc hr hn) (i_w (k_6 hL hi hok hsh hc hr hn) (i_w (k_7 hL hi hok hsh hc hr hn) (i_w (k_8 hL hi hok hsh hc hr hn) (i_w (k_9 hL hi hok hsh hc hr hn) (i_w (k_10 hL hi hok hsh hc hr hn) (i_w (k_11 hL hi hok hsh hc hr hn) (i_w (k_12 hL hi hok hsh hc hr hn) (i_w (k_13 hL hi hok hsh hc hr hn) (i_w (k_14 hL hi hok hsh hc hr hn) (i_w (k_15 hL hi hok hsh hc hr hn) (i_w (k_16 hL hi hok hsh hc hr hn) (i_w (k_17 hL hi hok hsh hc hr hn) (i_w (k_18 hL hi hok hsh hc hr hn) (i_w (k_19 hL hi hok hsh hc hr hn) (i_w (k_20 hL hi hok hsh hc hr hn) (i_w (k_21 hL hi hok hsh hc hr hn) (i_w (k_22 hL hi hok hsh hc hr hn) (i_w (k_23 hL hi hok hsh hc hr hn) (i_w (k_24 hL hi hok hsh hc hr hn) (i_w (k_25 hL hi hok hsh hc hr hn) (i_w (k_26 hL hi hok hsh hc hr hn) (i_w (k_27 hL hi hok hsh hc hr hn) (i_w (k_28 hL hi hok hsh hc hr hn) (i_w (k_29 hL hi hok hsh hc hr hn) (i_w (k_30 hL hi hok hsh hc hr hn) (i_w (k_31 hL hi hok hsh hc hr hn) (i_w (k_32 hL hi hok hsh hc hr hn) (i_w (k_33 hL hi hok hsh hc hr hn) (i_w (k_34 hL hi hok hsh hc hr hn) (i_w (k_35 hL hi hok hsh hc hr hn) (i_w (k_36 hL hi hok hsh hc hr hn) (i_w (k_37 hL hi hok hsh hc hr hn) (i_w (k_38 hL hi hok hsh hc hr hn) (i_w (k_39 hL hi hok hsh hc hr hn) (i_w (k_40 hL hi hok hsh hc hr hn) (i_w (k_41 hL hi hok hsh hc hr hn) (i_w (k_42 hL hi hok hsh hc hr hn) (i_w (k_43 hL hi hok hsh hc hr hn) (i_w (k_44 hL hi hok hsh hc hr hn) (i_w (k_45 hL hi hok hsh hc hr hn) (i_w (k_46 hL hi hok hsh hc hr hn) (i_w (k_47 hL hi hok hsh hc hr hn) (i_w (k_48 hL hi hok hsh hc hr hn) (i_w (k_49 hL hi hok hsh hc hr hn) (i_w (k_50 hL hi hok hsh hc hr hn) (i_w (k_51 hL hi hok hsh hc hr hn) (i_w (k_52 hL hi hok hsh hc hr hn) (hn I L e ⟨ch, sh, a, b, hok, hsh, hc, hr⟩ (Nat.le_succ e))))))))))))))))))))))))))))))))))))))))))))))))))))))
theorem k_loop {Lx : Nat} (hL : Lx ≤ 5120) {Q : Kq} (hQ : ∀ I L e, e ≤ 512 → Q (.inl (some (.int (Int32.ofInt 1)))) (gE Lx) I L e) :
    ∀ (s i : Nat) (I : Mi) (L : Ml) (e : Nat), Lx ≤ i + 10 * s → i ≤ 5130 → e + s ≤ 512 → LwS I → Wp 420 23 [(0, .ref 0), (1, .ref 1), (2, .ref 58), (3, .ref 70), (4, .int (Int32.ofInt (i : Int)))] [] (gE Lx) I L e Q := by
  have fin : ∀ (i : Nat) (I : Mi) (L : Ml) (e : Nat), Lx < i + 10 → i ≤ 5130 → e ≤ 512 → Wp 420 23 [(0, .ref 0), (1, .ref 1), (2, .ref 58), (3, .ref 70), (4, .int (Int32.ofInt (i : Int)))] [] (gE Lx) I L e Q := fun i I L e h1 h2 h3 => by
    refine s_420_23 ?_
    rw [show Int32.ofNat Lx = Int32.ofInt (Lx : Int) from Int32.ofInt_eq_ofNat.symm, sub32]
    exact i_lt32 (by omega) (by omega) (fun _ => hQ I L e h3) (fun q => absurd q (by omega))
  intro s
  induction s with
  | zero => exact fun i I L e h1 h2 h3 _ => fin i I L e (by omega) h2 (by omega)
  | succ s ih =>
    intro i I L e h1 h2 h3 hs
    by_cases q : i + 9 < Lx
    · refine k_go hL q hs (fun I2 L2 e2 hs2 he => s_420_4917 ?_)
      rw [add32, show (i : Int) + 10 = ((i + 10 : Nat) : Int) by omega]
      exact ih (i + 10) I2 L2 e2 (by omega) (by omega) (by omega) hs2
    · exact fin i I L e (by omega) h2 (by omega)
