/-! rank: the class. -/
/-- what a kept chain is ranked by -/
noncomputable def rkK (l4 l5 : Int) (c : Ch) : Int × Int × Int × Int := (spWid c l4 l5, (lnS c c.2.2.2.1).2.2, fU (lnS c c.2.2.2.1).2.1 (lnS c c.2.2.2.1).1, fL (lnS c c.2.2.2.1).2.1 (lnS c c.2.2.2.1).1)
def ahd (x y : Int × Int × Int × Int) : Prop := y.1 < x.1 ∨ (x.1 = y.1 ∧ (x.2.1 < y.2.1 ∨ (x.2.1 = y.2.1 ∧ lenC x.2.2.1 x.2.2.2 y.2.2.1 y.2.2.2 < 0)))
noncomputable def rkC (l4 l5 : Int) (i j : Nat) : Option Ch → Option Ch → Int
  | some ci, some cj => iP (ahd (rkK l4 l5 cj) (rkK l4 l5 ci) ∨ (j < i ∧ ¬ ahd (rkK l4 l5 ci) (rkK l4 l5 cj))) 1 0
  | _, _ => 0
theorem rkC_n {l4 l5 : Int} {i j : Nat} {a : Option Ch} : rkC l4 l5 i j a none = 0 := by cases a <;> rfl
theorem rkC_s {l4 l5 : Int} {i j : Nat} {a b : Ch} : rkC l4 l5 i j (some a) (some b) = iP (ahd (rkK l4 l5 b) (rkK l4 l5 a) ∨ (j < i ∧ ¬ ahd (rkK l4 l5 a) (rkK l4 l5 b))) 1 0 := rfl
theorem rkC_b {l4 l5 : Int} {i j : Nat} {a b : Option Ch} : 0 ≤ rkC l4 l5 i j a b ∧ rkC l4 l5 i j a b ≤ 1 := by
  cases a with
  | none =>
    have : (0 : Int) ≤ 0 ∧ (0 : Int) ≤ 1 := by decide
    cases b <;> exact this
  | some a =>
    cases b with
    | none =>
      have : (0 : Int) ≤ 0 ∧ (0 : Int) ≤ 1 := by decide
      exact this
    | some b =>
      rw [rkC_s]
      rcases Classical.em (ahd (rkK l4 l5 b) (rkK l4 l5 a) ∨ (j < i ∧ ¬ ahd (rkK l4 l5 a) (rkK l4 l5 b))) with q | q
      · rw [iP_t q]; omega
      · rw [iP_f q]; omega
noncomputable def rkT (sh : Nat → Option Ch) (l4 l5 : Int) (i : Nat) : Int := 0 + rkC l4 l5 i 0 (sh i) (sh 0) + rkC l4 l5 i 1 (sh i) (sh 1) + rkC l4 l5 i 2 (sh i) (sh 2) + rkC l4 l5 i 3 (sh i) (sh 3)
/-- the first of those from i on -/
noncomputable def rkF (sh : Nat → Option Ch) (l4 l5 k : Int) : Nat → Nat → Int
  | 0, _ => -1
  | s + 1, i => iP ((∃ c, sh i = some c) ∧ rkT sh l4 l5 i = k) (i : Int) (rkF sh l4 l5 k s (i + 1))
noncomputable def spRank (sh : Nat → Option Ch) (l4 l5 k : Int) : Int := rkF sh l4 l5 k 4 0
theorem rkK_b {l4 l5 : Int} {c : Ch} (hok : ChOk c) : (-1 ≤ (rkK l4 l5 c).1 ∧ (rkK l4 l5 c).1 ≤ 10) ∧ (0 ≤ (rkK l4 l5 c).2.1 ∧ (rkK l4 l5 c).2.1 ≤ 4) ∧ (-331776 ≤ (rkK l4 l5 c).2.2.1 ∧ (rkK l4 l5 c).2.2.1 ≤ 331776) ∧ (0 ≤ (rkK l4 l5 c).2.2.2 ∧ (rkK l4 l5 c).2.2.2 ≤ 331776) ∧ ((rkK l4 l5 c).2.2.2 = 0 → 0 < (rkK l4 l5 c).2.2.1) := by
  have h4 := hok.2.2.2.1
  obtain ⟨k1, ⟨k2, k3⟩, k4⟩ := lnS_ok hok c.2.2.2.1 (Nat.le_refl _)
  have p := pow24 _ h4
  have u := up_b k1 k2 k3
  have w := wdF_b (P := wdP c l4 l5) 11 0
  have w : 0 - 1 ≤ spWid c l4 l5 ∧ spWid c l4 l5 ≤ 0 + ((11 : Nat) : Int) - 1 := w
  unfold rkK
  dsimp only
  omega
def MsAt (I : Mi) (L : Ml) (l4 l5 : Int) (k : Nat) (o : Option Ch) : Prop := ∀ c, o = some c → I (30 + 7 * k) 2 = .ofInt (rkK l4 l5 c).1 ∧ I (35 + 7 * k) 0 = .ofInt (rkK l4 l5 c).2.1 ∧ L (36 + 7 * k) 0 = .ofInt (rkK l4 l5 c).2.2.1 ∧ L (36 + 7 * k) 1 = .ofInt (rkK l4 l5 c).2.2.2
theorem MsAt.cg {I I' : Mi} {L L' : Ml} {a b : Int} {k : Nat} {o : Option Ch} (h : MsAt I L a b k o) (e1 : I' (30 + 7 * k) 2 = I (30 + 7 * k) 2) (e2 : I' (35 + 7 * k) 0 = I (35 + 7 * k) 0) (e3 : L' (36 + 7 * k) = L (36 + 7 * k)) : MsAt I' L' a b k o := fun c hc => by
  rw [e1, e2, e3]
  exact h c hc
section
variable {Lx : Nat} {I : Mi} {L : Ml} {e : Nat} {Q : Kq}
theorem m_101_0 {ch : Ch} {sh : Nat → Option Ch} {a b : Int} (hok : ShOk sh) (hs : CSt I ch sh a b) (nx : ∀ I' L', FrI [(30, 2, 1), (35, 0, 0)] I I' → FrL [(14, 0, 4), (18, 0, 2), (25, 0, 5), (27, 0, 5), (36, 0, 2)] L L' → MsAt I' L' a b 0 (sh 0) → Wp 101 2 [(0, .ref 1), (1, .int (Int32.ofInt 1))] [] (gE Lx) I' L' e Q) : Wp 101 2 [(0, .ref 1), (1, .int (Int32.ofInt 0))] [] (gE Lx) I L e Q := by
  have hk := hs.s 0 (by omega)
  refine s_101_2_0 ?_
  cases ho : sh 0 with
  | none =>
    have e0 : I 30 0 = Int32.ofInt 0 := hk.1 ho
    rw [e0]
    exact j_0 (s_101_62_0 (nx I L FrI.rf FrL.rf (fun c hc => by rw [ho] at hc; cases hc)))
  | some c =>
    have e0 : I 30 0 = Int32.ofInt 1 := (hk.2 c ho).1
    have hc : ChAt I 31 c := (hk.2 c ho).2
    have cok := hok 0 c (by omega) ho
    rw [e0]
    refine j_1 (s_95_0_31 (kl_95_31 cok hc hs.l 11 0 (by omega) (by omega) L (fun L1 hf1 => kcp_v rfl (s_101_38_0 ?_))))
    have hc2 : ChAt (ui I 30 2 (Int32.ofInt (wdF (wdP c a b) 11 0))) 31 c := hc.cg rfl rfl rfl rfl
    refine kc_65_31 cok hc2 (fun I2 L2 hf2 hI2 t2 v2 => kcp_v rfl (s_101_62_0 (nx I2 L2 ?_ ?_ ?_)))
    · exact FrI.tr (A := [(30, 2, 1)]) (FrI.wu FrI.rf rfl) hI2 rfl rfl
    · exact FrL.tr hf1 hf2 rfl rfl
    · intro c2 hc2
      rw [ho] at hc2
      cases hc2
      exact ⟨(hI2 30 2 rfl).trans u_at, t2, v2.1, v2.2⟩
theorem m_101_1 {ch : Ch} {sh : Nat → Option Ch} {a b : Int} (hok : ShOk sh) (hs : CSt I ch sh a b) (nx : ∀ I' L', FrI [(37, 2, 1), (42, 0, 0)] I I' → FrL [(14, 0, 4), (18, 0, 2), (25, 0, 5), (27, 0, 5), (43, 0, 2)] L L' → MsAt I' L' a b 1 (sh 1) → Wp 101 2 [(0, .ref 1), (1, .int (Int32.ofInt 2))] [] (gE Lx) I' L' e Q) : Wp 101 2 [(0, .ref 1), (1, .int (Int32.ofInt 1))] [] (gE Lx) I L e Q := by
  have hk := hs.s 1 (by omega)
  refine s_101_2_1 ?_
  cases ho : sh 1 with
  | none =>
    have e0 : I 37 0 = Int32.ofInt 0 := hk.1 ho
    rw [e0]
    exact j_0 (s_101_62_1 (nx I L FrI.rf FrL.rf (fun c hc => by rw [ho] at hc; cases hc)))
  | some c =>
    have e0 : I 37 0 = Int32.ofInt 1 := (hk.2 c ho).1
    have hc : ChAt I 38 c := (hk.2 c ho).2
    have cok := hok 1 c (by omega) ho
    rw [e0]
    refine j_1 (s_95_0_38 (kl_95_38 cok hc hs.l 11 0 (by omega) (by omega) L (fun L1 hf1 => kcp_v rfl (s_101_38_1 ?_))))
    have hc2 : ChAt (ui I 37 2 (Int32.ofInt (wdF (wdP c a b) 11 0))) 38 c := hc.cg rfl rfl rfl rfl
    refine kc_65_38 cok hc2 (fun I2 L2 hf2 hI2 t2 v2 => kcp_v rfl (s_101_62_1 (nx I2 L2 ?_ ?_ ?_)))
    · exact FrI.tr (A := [(37, 2, 1)]) (FrI.wu FrI.rf rfl) hI2 rfl rfl
    · exact FrL.tr hf1 hf2 rfl rfl
    · intro c2 hc2
      rw [ho] at hc2
      cases hc2
      exact ⟨(hI2 37 2 rfl).trans u_at, t2, v2.1, v2.2⟩
theorem m_101_2 {ch : Ch} {sh : Nat → Option Ch} {a b : Int} (hok : ShOk sh) (hs : CSt I ch sh a b) (nx : ∀ I' L', FrI [(44, 2, 1), (49, 0, 0)] I I' → FrL [(14, 0, 4), (18, 0, 2), (25, 0, 5), (27, 0, 5), (50, 0, 2)] L L' → MsAt I' L' a b 2 (sh 2) → Wp 101 2 [(0, .ref 1), (1, .int (Int32.ofInt 3))] [] (gE Lx) I' L' e Q) : Wp 101 2 [(0, .ref 1), (1, .int (Int32.ofInt 2))] [] (gE Lx) I L e Q := by
  have hk := hs.s 2 (by omega)
  refine s_101_2_2 ?_
  cases ho : sh 2 with
  | none =>
    have e0 : I 44 0 = Int32.ofInt 0 := hk.1 ho
    rw [e0]
    exact j_0 (s_101_62_2 (nx I L FrI.rf FrL.rf (fun c hc => by rw [ho] at hc; cases hc)))
  | some c =>
    have e0 : I 44 0 = Int32.ofInt 1 := (hk.2 c ho).1
    have hc : ChAt I 45 c := (hk.2 c ho).2
    have cok := hok 2 c (by omega) ho
    rw [e0]
    refine j_1 (s_95_0_45 (kl_95_45 cok hc hs.l 11 0 (by omega) (by omega) L (fun L1 hf1 => kcp_v rfl (s_101_38_2 ?_))))
    have hc2 : ChAt (ui I 44 2 (Int32.ofInt (wdF (wdP c a b) 11 0))) 45 c := hc.cg rfl rfl rfl rfl
    refine kc_65_45 cok hc2 (fun I2 L2 hf2 hI2 t2 v2 => kcp_v rfl (s_101_62_2 (nx I2 L2 ?_ ?_ ?_)))
    · exact FrI.tr (A := [(44, 2, 1)]) (FrI.wu FrI.rf rfl) hI2 rfl rfl
    · exact FrL.tr hf1 hf2 rfl rfl
    · intro c2 hc2
      rw [ho] at hc2
      cases hc2
      exact ⟨(hI2 44 2 rfl).trans u_at, t2, v2.1, v2.2⟩
theorem m_101_3 {ch : Ch} {sh : Nat → Option Ch} {a b : Int} (hok : ShOk sh) (hs : CSt I ch sh a b) (nx : ∀ I' L', FrI [(51, 2, 1), (56, 0, 0)] I I' → FrL [(14, 0, 4), (18, 0, 2), (25, 0, 5), (27, 0, 5), (57, 0, 2)] L L' → MsAt I' L' a b 3 (sh 3) → Wp 101 2 [(0, .ref 1), (1, .int (Int32.ofInt 4))] [] (gE Lx) I' L' e Q) : Wp 101 2 [(0, .ref 1), (1, .int (Int32.ofInt 3))] [] (gE Lx) I L e Q := by
  have hk := hs.s 3 (by omega)
  refine s_101_2_3 ?_
  cases ho : sh 3 with
  | none =>
    have e0 : I 51 0 = Int32.ofInt 0 := hk.1 ho
    rw [e0]
    exact j_0 (s_101_62_3 (nx I L FrI.rf FrL.rf (fun c hc => by rw [ho] at hc; cases hc)))
  | some c =>
    have e0 : I 51 0 = Int32.ofInt 1 := (hk.2 c ho).1
    have hc : ChAt I 52 c := (hk.2 c ho).2
    have cok := hok 3 c (by omega) ho
    rw [e0]
    refine j_1 (s_95_0_52 (kl_95_52 cok hc hs.l 11 0 (by omega) (by omega) L (fun L1 hf1 => kcp_v rfl (s_101_38_3 ?_))))
    have hc2 : ChAt (ui I 51 2 (Int32.ofInt (wdF (wdP c a b) 11 0))) 52 c := hc.cg rfl rfl rfl rfl
    refine kc_65_52 cok hc2 (fun I2 L2 hf2 hI2 t2 v2 => kcp_v rfl (s_101_62_3 (nx I2 L2 ?_ ?_ ?_)))
    · exact FrI.tr (A := [(51, 2, 1)]) (FrI.wu FrI.rf rfl) hI2 rfl rfl
    · exact FrL.tr hf1 hf2 rfl rfl
    · intro c2 hc2
      rw [ho] at hc2
      cases hc2
      exact ⟨(hI2 51 2 rfl).trans u_at, t2, v2.1, v2.2⟩
theorem c_101 {ch : Ch} {sh : Nat → Option Ch} {a b : Int} (hok : ShOk sh) (hs : CSt I ch sh a b) (h : ∀ I' L', FrI cS I I' → (∀ k, k < 4 → MsAt I' L' a b k (sh k)) → Q (.inl none) (gE Lx) I' L' e) : Wp 101 0 [(0, .ref 1)] [] (gE Lx) I L e Q := by
  refine s_101_0 (m_101_0 hok hs (fun I1 L1 f1 g1 m0 => ?_))
  have s1 : CSt I1 ch sh a b := hs.f (f1.up rfl)
  refine m_101_1 hok s1 (fun I2 L2 f2 g2 m1 => ?_)
  have s2 : CSt I2 ch sh a b := s1.f (f2.up rfl)
  refine m_101_2 hok s2 (fun I3 L3 f3 g3 m2 => ?_)
  have s3 : CSt I3 ch sh a b := s2.f (f3.up rfl)
  refine m_101_3 hok s3 (fun I4 L4 f4 g4 m3 => s_101_2_4 (h I4 L4 ?_ (fun k hk => ?_)))
  · exact FrI.tr (S := cS) (FrI.tr (S := cS) f1 f2 rfl rfl) (FrI.tr (S := cS) f3 f4 rfl rfl) rfl rfl
  · have : k = 0 ∨ k = 1 ∨ k = 2 ∨ k = 3 := by omega
    rcases this with rfl | rfl | rfl | rfl
    · exact ((m0.cg (f2 30 2 rfl) (f2 35 0 rfl) (g2.at (k := 36) rfl)).cg (f3 30 2 rfl) (f3 35 0 rfl) (g3.at (k := 36) rfl)).cg (f4 30 2 rfl) (f4 35 0 rfl) (g4.at (k := 36) rfl)
    · exact (m1.cg (f3 37 2 rfl) (f3 42 0 rfl) (g3.at (k := 43) rfl)).cg (f4 37 2 rfl) (f4 42 0 rfl) (g4.at (k := 43) rfl)
    · exact m2.cg (f4 44 2 rfl) (f4 49 0 rfl) (g4.at (k := 50) rfl)
    · exact m3
theorem lenC_b {x y z t : Int} : -1 ≤ lenC x y z t ∧ lenC x y z t ≤ 1 := by
  unfold lenC
  have := (sg_0 (v := x * t - z * y)).2
  split <;> split <;> omega
/-- whether shelf 0 is ahead of shelf 0 -/
theorem n_63_0_0 {a b : Int} {ci : Ch} (oi : ChOk ci) (mi : MsAt I L a b 0 (some ci)) {R : Kq} {pc sp : Nat} {ls : Lv} {A : Prop} (h1 : ahd (rkK a b ci) (rkK a b ci) → R (.inl (some (.int (Int32.ofInt 1)))) (gE Lx) I L e ∧ A) (h0 : ¬ ahd (rkK a b ci) (rkK a b ci) → R (.inl (some (.int (Int32.ofInt 0)))) (gE Lx) I L e) {X1 X0 : Prop} (x1 : ahd (rkK a b ci) (rkK a b ci) → X1) (x0 : ¬ ahd (rkK a b ci) (rkK a b ci) → X0) :
    (if I 30 2 = I 30 2 then Wp 66 0 [(0, .ref 35), (1, .ref 35)] [] (gE Lx) I L e (kcp (Wp 63) 63 36 0 [(0, .ref 30), (1, .ref 30)] 71 [] R) else if I 30 2 < I 30 2 then X1 else X0) := by
  have bj := rkK_b (l4 := a) (l5 := b) oi
  have bi := rkK_b (l4 := a) (l5 := b) oi
  obtain ⟨j0, j1, j2, j3⟩ := mi ci rfl
  obtain ⟨i0, i1, i2, i3⟩ := mi ci rfl
  have j0 : I 30 2 = Int32.ofInt (rkK a b ci).1 := j0
  have j1 : I 35 0 = Int32.ofInt (rkK a b ci).2.1 := j1
  have j2 : L 36 0 = Int64.ofInt (rkK a b ci).2.2.1 := j2
  have j3 : L 36 1 = Int64.ofInt (rkK a b ci).2.2.2 := j3
  have i0 : I 30 2 = Int32.ofInt (rkK a b ci).1 := i0
  have i1 : I 35 0 = Int32.ofInt (rkK a b ci).2.1 := i1
  have i2 : L 36 0 = Int64.ofInt (rkK a b ci).2.2.1 := i2
  have i3 : L 36 1 = Int64.ofInt (rkK a b ci).2.2.2 := i3
  have lb := lenC_b (x := (rkK a b ci).2.2.1) (y := (rkK a b ci).2.2.2) (z := (rkK a b ci).2.2.1) (t := (rkK a b ci).2.2.2)
  have fin : ∀ r : Int, R32 r → (r < 0 ↔ ahd (rkK a b ci) (rkK a b ci)) → kcp (Wp 63) 63 36 0 [(0, .ref 30), (1, .ref 30)] 71 [] R (.inl (some (.int (Int32.ofInt r)))) (gE Lx) I L e := fun r hr hh =>
    kcp_v rfl (s_63_39_0_0 (i_ltz hr (fun q => (h1 (hh.mp q)).1) (fun q => h0 (fun w => by have := hh.mpr w; omega))))
  unfold ahd at fin x1 x0
  rw [i0]
  refine i_eq32 (by omega) (by omega) (fun q => s_66_0_0_0 ?_) (fun q => i_lt32 (by omega) (by omega) (fun z => x1 (by omega)) (fun z => x0 (by omega)))
  rw [i1, i2, i3]
  refine i_eq32 (by omega) (by omega) (fun q1 => c_28 (by omega) (by omega) (by omega) (by omega) bj.2.2.2.2 bi.2.2.2.2 (kcp_v rfl (s_66_59_0_0 (fin _ (by omega) (by omega))))) (fun q1 => i_lt32 (by omega) (by omega) (fun z => fin (-1) (by omega) (by omega)) (fun z => fin 1 (by omega) (by omega)))
/-- whether shelf 0 is ahead of shelf 1 -/
theorem n_63_0_1 {a b : Int} {cj ci : Ch} (oj : ChOk cj) (oi : ChOk ci) (mj : MsAt I L a b 0 (some cj)) (mi : MsAt I L a b 1 (some ci)) {R : Kq} {pc sp : Nat} {ls : Lv} {A : Prop} (h1 : ahd (rkK a b cj) (rkK a b ci) → R (.inl (some (.int (Int32.ofInt 1)))) (gE Lx) I L e ∧ A) (h0 : ¬ ahd (rkK a b cj) (rkK a b ci) → R (.inl (some (.int (Int32.ofInt 0)))) (gE Lx) I L e) {X1 X0 : Prop} (x1 : ahd (rkK a b cj) (rkK a b ci) → X1) (x0 : ¬ ahd (rkK a b cj) (rkK a b ci) → X0) :
    (if I 30 2 = I 37 2 then Wp 66 0 [(0, .ref 35), (1, .ref 42)] [] (gE Lx) I L e (kcp (Wp 63) 63 36 0 [(0, .ref 30), (1, .ref 37)] 71 [] R) else if I 37 2 < I 30 2 then X1 else X0) := by
  have bj := rkK_b (l4 := a) (l5 := b) oj
  have bi := rkK_b (l4 := a) (l5 := b) oi
  obtain ⟨j0, j1, j2, j3⟩ := mj cj rfl
  obtain ⟨i0, i1, i2, i3⟩ := mi ci rfl
  have j0 : I 30 2 = Int32.ofInt (rkK a b cj).1 := j0
  have j1 : I 35 0 = Int32.ofInt (rkK a b cj).2.1 := j1
  have j2 : L 36 0 = Int64.ofInt (rkK a b cj).2.2.1 := j2
  have j3 : L 36 1 = Int64.ofInt (rkK a b cj).2.2.2 := j3
  have i0 : I 37 2 = Int32.ofInt (rkK a b ci).1 := i0
  have i1 : I 42 0 = Int32.ofInt (rkK a b ci).2.1 := i1
  have i2 : L 43 0 = Int64.ofInt (rkK a b ci).2.2.1 := i2
  have i3 : L 43 1 = Int64.ofInt (rkK a b ci).2.2.2 := i3
  have lb := lenC_b (x := (rkK a b cj).2.2.1) (y := (rkK a b cj).2.2.2) (z := (rkK a b ci).2.2.1) (t := (rkK a b ci).2.2.2)
  have fin : ∀ r : Int, R32 r → (r < 0 ↔ ahd (rkK a b cj) (rkK a b ci)) → kcp (Wp 63) 63 36 0 [(0, .ref 30), (1, .ref 37)] 71 [] R (.inl (some (.int (Int32.ofInt r)))) (gE Lx) I L e := fun r hr hh =>
    kcp_v rfl (s_63_39_0_1 (i_ltz hr (fun q => (h1 (hh.mp q)).1) (fun q => h0 (fun w => by have := hh.mpr w; omega))))
  unfold ahd at fin x1 x0
  rw [j0, i0]
  refine i_eq32 (by omega) (by omega) (fun q => s_66_0_0_1 ?_) (fun q => i_lt32 (by omega) (by omega) (fun z => x1 (by omega)) (fun z => x0 (by omega)))
  rw [j1, i1, j2, j3, i2, i3]
  refine i_eq32 (by omega) (by omega) (fun q1 => c_28 (by omega) (by omega) (by omega) (by omega) bj.2.2.2.2 bi.2.2.2.2 (kcp_v rfl (s_66_59_0_1 (fin _ (by omega) (by omega))))) (fun q1 => i_lt32 (by omega) (by omega) (fun z => fin (-1) (by omega) (by omega)) (fun z => fin 1 (by omega) (by omega)))
/-- whether shelf 0 is ahead of shelf 2 -/
theorem n_63_0_2 {a b : Int} {cj ci : Ch} (oj : ChOk cj) (oi : ChOk ci) (mj : MsAt I L a b 0 (some cj)) (mi : MsAt I L a b 2 (some ci)) {R : Kq} {pc sp : Nat} {ls : Lv} {A : Prop} (h1 : ahd (rkK a b cj) (rkK a b ci) → R (.inl (some (.int (Int32.ofInt 1)))) (gE Lx) I L e ∧ A) (h0 : ¬ ahd (rkK a b cj) (rkK a b ci) → R (.inl (some (.int (Int32.ofInt 0)))) (gE Lx) I L e) {X1 X0 : Prop} (x1 : ahd (rkK a b cj) (rkK a b ci) → X1) (x0 : ¬ ahd (rkK a b cj) (rkK a b ci) → X0) :
    (if I 30 2 = I 44 2 then Wp 66 0 [(0, .ref 35), (1, .ref 49)] [] (gE Lx) I L e (kcp (Wp 63) 63 36 0 [(0, .ref 30), (1, .ref 44)] 71 [] R) else if I 44 2 < I 30 2 then X1 else X0) := by
  have bj := rkK_b (l4 := a) (l5 := b) oj
  have bi := rkK_b (l4 := a) (l5 := b) oi
  obtain ⟨j0, j1, j2, j3⟩ := mj cj rfl
  obtain ⟨i0, i1, i2, i3⟩ := mi ci rfl
  have j0 : I 30 2 = Int32.ofInt (rkK a b cj).1 := j0
  have j1 : I 35 0 = Int32.ofInt (rkK a b cj).2.1 := j1
  have j2 : L 36 0 = Int64.ofInt (rkK a b cj).2.2.1 := j2
  have j3 : L 36 1 = Int64.ofInt (rkK a b cj).2.2.2 := j3
  have i0 : I 44 2 = Int32.ofInt (rkK a b ci).1 := i0
  have i1 : I 49 0 = Int32.ofInt (rkK a b ci).2.1 := i1
  have i2 : L 50 0 = Int64.ofInt (rkK a b ci).2.2.1 := i2
  have i3 : L 50 1 = Int64.ofInt (rkK a b ci).2.2.2 := i3
  have lb := lenC_b (x := (rkK a b cj).2.2.1) (y := (rkK a b cj).2.2.2) (z := (rkK a b ci).2.2.1) (t := (rkK a b ci).2.2.2)
  have fin : ∀ r : Int, R32 r → (r < 0 ↔ ahd (rkK a b cj) (rkK a b ci)) → kcp (Wp 63) 63 36 0 [(0, .ref 30), (1, .ref 44)] 71 [] R (.inl (some (.int (Int32.ofInt r)))) (gE Lx) I L e := fun r hr hh =>
    kcp_v rfl (s_63_39_0_2 (i_ltz hr (fun q => (h1 (hh.mp q)).1) (fun q => h0 (fun w => by have := hh.mpr w; omega))))
  unfold ahd at fin x1 x0
  rw [j0, i0]
  refine i_eq32 (by omega) (by omega) (fun q => s_66_0_0_2 ?_) (fun q => i_lt32 (by omega) (by omega) (fun z => x1 (by omega)) (fun z => x0 (by omega)))
  rw [j1, i1, j2, j3, i2, i3]
  refine i_eq32 (by omega) (by omega) (fun q1 => c_28 (by omega) (by omega) (by omega) (by omega) bj.2.2.2.2 bi.2.2.2.2 (kcp_v rfl (s_66_59_0_2 (fin _ (by omega) (by omega))))) (fun q1 => i_lt32 (by omega) (by omega) (fun z => fin (-1) (by omega) (by omega)) (fun z => fin 1 (by omega) (by omega)))
/-- whether shelf 0 is ahead of shelf 3 -/
theorem n_63_0_3 {a b : Int} {cj ci : Ch} (oj : ChOk cj) (oi : ChOk ci) (mj : MsAt I L a b 0 (some cj)) (mi : MsAt I L a b 3 (some ci)) {R : Kq} {pc sp : Nat} {ls : Lv} {A : Prop} (h1 : ahd (rkK a b cj) (rkK a b ci) → R (.inl (some (.int (Int32.ofInt 1)))) (gE Lx) I L e ∧ A) (h0 : ¬ ahd (rkK a b cj) (rkK a b ci) → R (.inl (some (.int (Int32.ofInt 0)))) (gE Lx) I L e) {X1 X0 : Prop} (x1 : ahd (rkK a b cj) (rkK a b ci) → X1) (x0 : ¬ ahd (rkK a b cj) (rkK a b ci) → X0) :
    (if I 30 2 = I 51 2 then Wp 66 0 [(0, .ref 35), (1, .ref 56)] [] (gE Lx) I L e (kcp (Wp 63) 63 36 0 [(0, .ref 30), (1, .ref 51)] 71 [] R) else if I 51 2 < I 30 2 then X1 else X0) := by
  have bj := rkK_b (l4 := a) (l5 := b) oj
  have bi := rkK_b (l4 := a) (l5 := b) oi
  obtain ⟨j0, j1, j2, j3⟩ := mj cj rfl
  obtain ⟨i0, i1, i2, i3⟩ := mi ci rfl
  have j0 : I 30 2 = Int32.ofInt (rkK a b cj).1 := j0
  have j1 : I 35 0 = Int32.ofInt (rkK a b cj).2.1 := j1
  have j2 : L 36 0 = Int64.ofInt (rkK a b cj).2.2.1 := j2
  have j3 : L 36 1 = Int64.ofInt (rkK a b cj).2.2.2 := j3
  have i0 : I 51 2 = Int32.ofInt (rkK a b ci).1 := i0
  have i1 : I 56 0 = Int32.ofInt (rkK a b ci).2.1 := i1
  have i2 : L 57 0 = Int64.ofInt (rkK a b ci).2.2.1 := i2
  have i3 : L 57 1 = Int64.ofInt (rkK a b ci).2.2.2 := i3
  have lb := lenC_b (x := (rkK a b cj).2.2.1) (y := (rkK a b cj).2.2.2) (z := (rkK a b ci).2.2.1) (t := (rkK a b ci).2.2.2)
  have fin : ∀ r : Int, R32 r → (r < 0 ↔ ahd (rkK a b cj) (rkK a b ci)) → kcp (Wp 63) 63 36 0 [(0, .ref 30), (1, .ref 51)] 71 [] R (.inl (some (.int (Int32.ofInt r)))) (gE Lx) I L e := fun r hr hh =>
    kcp_v rfl (s_63_39_0_3 (i_ltz hr (fun q => (h1 (hh.mp q)).1) (fun q => h0 (fun w => by have := hh.mpr w; omega))))
  unfold ahd at fin x1 x0
  rw [j0, i0]
  refine i_eq32 (by omega) (by omega) (fun q => s_66_0_0_3 ?_) (fun q => i_lt32 (by omega) (by omega) (fun z => x1 (by omega)) (fun z => x0 (by omega)))
  rw [j1, i1, j2, j3, i2, i3]
  refine i_eq32 (by omega) (by omega) (fun q1 => c_28 (by omega) (by omega) (by omega) (by omega) bj.2.2.2.2 bi.2.2.2.2 (kcp_v rfl (s_66_59_0_3 (fin _ (by omega) (by omega))))) (fun q1 => i_lt32 (by omega) (by omega) (fun z => fin (-1) (by omega) (by omega)) (fun z => fin 1 (by omega) (by omega)))
/-- whether shelf 1 is ahead of shelf 0 -/
theorem n_63_1_0 {a b : Int} {cj ci : Ch} (oj : ChOk cj) (oi : ChOk ci) (mj : MsAt I L a b 1 (some cj)) (mi : MsAt I L a b 0 (some ci)) {R : Kq} {pc sp : Nat} {ls : Lv} {A : Prop} (h1 : ahd (rkK a b cj) (rkK a b ci) → R (.inl (some (.int (Int32.ofInt 1)))) (gE Lx) I L e ∧ A) (h0 : ¬ ahd (rkK a b cj) (rkK a b ci) → R (.inl (some (.int (Int32.ofInt 0)))) (gE Lx) I L e) {X1 X0 : Prop} (x1 : ahd (rkK a b cj) (rkK a b ci) → X1) (x0 : ¬ ahd (rkK a b cj) (rkK a b ci) → X0) :
    (if I 37 2 = I 30 2 then Wp 66 0 [(0, .ref 42), (1, .ref 35)] [] (gE Lx) I L e (kcp (Wp 63) 63 36 0 [(0, .ref 37), (1, .ref 30)] 71 [] R) else if I 30 2 < I 37 2 then X1 else X0) := by
  have bj := rkK_b (l4 := a) (l5 := b) oj
  have bi := rkK_b (l4 := a) (l5 := b) oi
  obtain ⟨j0, j1, j2, j3⟩ := mj cj rfl
  obtain ⟨i0, i1, i2, i3⟩ := mi ci rfl
  have j0 : I 37 2 = Int32.ofInt (rkK a b cj).1 := j0
  have j1 : I 42 0 = Int32.ofInt (rkK a b cj).2.1 := j1
  have j2 : L 43 0 = Int64.ofInt (rkK a b cj).2.2.1 := j2
  have j3 : L 43 1 = Int64.ofInt (rkK a b cj).2.2.2 := j3
  have i0 : I 30 2 = Int32.ofInt (rkK a b ci).1 := i0
  have i1 : I 35 0 = Int32.ofInt (rkK a b ci).2.1 := i1
  have i2 : L 36 0 = Int64.ofInt (rkK a b ci).2.2.1 := i2
  have i3 : L 36 1 = Int64.ofInt (rkK a b ci).2.2.2 := i3
  have lb := lenC_b (x := (rkK a b cj).2.2.1) (y := (rkK a b cj).2.2.2) (z := (rkK a b ci).2.2.1) (t := (rkK a b ci).2.2.2)
  have fin : ∀ r : Int, R32 r → (r < 0 ↔ ahd (rkK a b cj) (rkK a b ci)) → kcp (Wp 63) 63 36 0 [(0, .ref 37), (1, .ref 30)] 71 [] R (.inl (some (.int (Int32.ofInt r)))) (gE Lx) I L e := fun r hr hh =>
    kcp_v rfl (s_63_39_1_0 (i_ltz hr (fun q => (h1 (hh.mp q)).1) (fun q => h0 (fun w => by have := hh.mpr w; omega))))
  unfold ahd at fin x1 x0
  rw [j0, i0]
  refine i_eq32 (by omega) (by omega) (fun q => s_66_0_1_0 ?_) (fun q => i_lt32 (by omega) (by omega) (fun z => x1 (by omega)) (fun z => x0 (by omega)))
  rw [j1, i1, j2, j3, i2, i3]
  refine i_eq32 (by omega) (by omega) (fun q1 => c_28 (by omega) (by omega) (by omega) (by omega) bj.2.2.2.2 bi.2.2.2.2 (kcp_v rfl (s_66_59_1_0 (fin _ (by omega) (by omega))))) (fun q1 => i_lt32 (by omega) (by omega) (fun z => fin (-1) (by omega) (by omega)) (fun z => fin 1 (by omega) (by omega)))
/-- whether shelf 1 is ahead of shelf 1 -/
theorem n_63_1_1 {a b : Int} {ci : Ch} (oi : ChOk ci) (mi : MsAt I L a b 1 (some ci)) {R : Kq} {pc sp : Nat} {ls : Lv} {A : Prop} (h1 : ahd (rkK a b ci) (rkK a b ci) → R (.inl (some (.int (Int32.ofInt 1)))) (gE Lx) I L e ∧ A) (h0 : ¬ ahd (rkK a b ci) (rkK a b ci) → R (.inl (some (.int (Int32.ofInt 0)))) (gE Lx) I L e) {X1 X0 : Prop} (x1 : ahd (rkK a b ci) (rkK a b ci) → X1) (x0 : ¬ ahd (rkK a b ci) (rkK a b ci) → X0) :
    (if I 37 2 = I 37 2 then Wp 66 0 [(0, .ref 42), (1, .ref 42)] [] (gE Lx) I L e (kcp (Wp 63) 63 36 0 [(0, .ref 37), (1, .ref 37)] 71 [] R) else if I 37 2 < I 37 2 then X1 else X0) := by
  have bj := rkK_b (l4 := a) (l5 := b) oi
  have bi := rkK_b (l4 := a) (l5 := b) oi
  obtain ⟨j0, j1, j2, j3⟩ := mi ci rfl
  obtain ⟨i0, i1, i2, i3⟩ := mi ci rfl
  have j0 : I 37 2 = Int32.ofInt (rkK a b ci).1 := j0
  have j1 : I 42 0 = Int32.ofInt (rkK a b ci).2.1 := j1
  have j2 : L 43 0 = Int64.ofInt (rkK a b ci).2.2.1 := j2
  have j3 : L 43 1 = Int64.ofInt (rkK a b ci).2.2.2 := j3
  have i0 : I 37 2 = Int32.ofInt (rkK a b ci).1 := i0
  have i1 : I 42 0 = Int32.ofInt (rkK a b ci).2.1 := i1
  have i2 : L 43 0 = Int64.ofInt (rkK a b ci).2.2.1 := i2
  have i3 : L 43 1 = Int64.ofInt (rkK a b ci).2.2.2 := i3
  have lb := lenC_b (x := (rkK a b ci).2.2.1) (y := (rkK a b ci).2.2.2) (z := (rkK a b ci).2.2.1) (t := (rkK a b ci).2.2.2)
  have fin : ∀ r : Int, R32 r → (r < 0 ↔ ahd (rkK a b ci) (rkK a b ci)) → kcp (Wp 63) 63 36 0 [(0, .ref 37), (1, .ref 37)] 71 [] R (.inl (some (.int (Int32.ofInt r)))) (gE Lx) I L e := fun r hr hh =>
    kcp_v rfl (s_63_39_1_1 (i_ltz hr (fun q => (h1 (hh.mp q)).1) (fun q => h0 (fun w => by have := hh.mpr w; omega))))
  unfold ahd at fin x1 x0
  rw [i0]
  refine i_eq32 (by omega) (by omega) (fun q => s_66_0_1_1 ?_) (fun q => i_lt32 (by omega) (by omega) (fun z => x1 (by omega)) (fun z => x0 (by omega)))
  rw [i1, i2, i3]
  refine i_eq32 (by omega) (by omega) (fun q1 => c_28 (by omega) (by omega) (by omega) (by omega) bj.2.2.2.2 bi.2.2.2.2 (kcp_v rfl (s_66_59_1_1 (fin _ (by omega) (by omega))))) (fun q1 => i_lt32 (by omega) (by omega) (fun z => fin (-1) (by omega) (by omega)) (fun z => fin 1 (by omega) (by omega)))
/-- whether shelf 1 is ahead of shelf 2 -/
theorem n_63_1_2 {a b : Int} {cj ci : Ch} (oj : ChOk cj) (oi : ChOk ci) (mj : MsAt I L a b 1 (some cj)) (mi : MsAt I L a b 2 (some ci)) {R : Kq} {pc sp : Nat} {ls : Lv} {A : Prop} (h1 : ahd (rkK a b cj) (rkK a b ci) → R (.inl (some (.int (Int32.ofInt 1)))) (gE Lx) I L e ∧ A) (h0 : ¬ ahd (rkK a b cj) (rkK a b ci) → R (.inl (some (.int (Int32.ofInt 0)))) (gE Lx) I L e) {X1 X0 : Prop} (x1 : ahd (rkK a b cj) (rkK a b ci) → X1) (x0 : ¬ ahd (rkK a b cj) (rkK a b ci) → X0) :
    (if I 37 2 = I 44 2 then Wp 66 0 [(0, .ref 42), (1, .ref 49)] [] (gE Lx) I L e (kcp (Wp 63) 63 36 0 [(0, .ref 37), (1, .ref 44)] 71 [] R) else if I 44 2 < I 37 2 then X1 else X0) := by
  have bj := rkK_b (l4 := a) (l5 := b) oj
  have bi := rkK_b (l4 := a) (l5 := b) oi
  obtain ⟨j0, j1, j2, j3⟩ := mj cj rfl
  obtain ⟨i0, i1, i2, i3⟩ := mi ci rfl
  have j0 : I 37 2 = Int32.ofInt (rkK a b cj).1 := j0
  have j1 : I 42 0 = Int32.ofInt (rkK a b cj).2.1 := j1
  have j2 : L 43 0 = Int64.ofInt (rkK a b cj).2.2.1 := j2
  have j3 : L 43 1 = Int64.ofInt (rkK a b cj).2.2.2 := j3
  have i0 : I 44 2 = Int32.ofInt (rkK a b ci).1 := i0
  have i1 : I 49 0 = Int32.ofInt (rkK a b ci).2.1 := i1
  have i2 : L 50 0 = Int64.ofInt (rkK a b ci).2.2.1 := i2
  have i3 : L 50 1 = Int64.ofInt (rkK a b ci).2.2.2 := i3
  have lb := lenC_b (x := (rkK a b cj).2.2.1) (y := (rkK a b cj).2.2.2) (z := (rkK a b ci).2.2.1) (t := (rkK a b ci).2.2.2)
  have fin : ∀ r : Int, R32 r → (r < 0 ↔ ahd (rkK a b cj) (rkK a b ci)) → kcp (Wp 63) 63 36 0 [(0, .ref 37), (1, .ref 44)] 71 [] R (.inl (some (.int (Int32.ofInt r)))) (gE Lx) I L e := fun r hr hh =>
    kcp_v rfl (s_63_39_1_2 (i_ltz hr (fun q => (h1 (hh.mp q)).1) (fun q => h0 (fun w => by have := hh.mpr w; omega))))
  unfold ahd at fin x1 x0
  rw [j0, i0]
  refine i_eq32 (by omega) (by omega) (fun q => s_66_0_1_2 ?_) (fun q => i_lt32 (by omega) (by omega) (fun z => x1 (by omega)) (fun z => x0 (by omega)))
  rw [j1, i1, j2, j3, i2, i3]
  refine i_eq32 (by omega) (by omega) (fun q1 => c_28 (by omega) (by omega) (by omega) (by omega) bj.2.2.2.2 bi.2.2.2.2 (kcp_v rfl (s_66_59_1_2 (fin _ (by omega) (by omega))))) (fun q1 => i_lt32 (by omega) (by omega) (fun z => fin (-1) (by omega) (by omega)) (fun z => fin 1 (by omega) (by omega)))
/-- whether shelf 1 is ahead of shelf 3 -/
theorem n_63_1_3 {a b : Int} {cj ci : Ch} (oj : ChOk cj) (oi : ChOk ci) (mj : MsAt I L a b 1 (some cj)) (mi : MsAt I L a b 3 (some ci)) {R : Kq} {pc sp : Nat} {ls : Lv} {A : Prop} (h1 : ahd (rkK a b cj) (rkK a b ci) → R (.inl (some (.int (Int32.ofInt 1)))) (gE Lx) I L e ∧ A) (h0 : ¬ ahd (rkK a b cj) (rkK a b ci) → R (.inl (some (.int (Int32.ofInt 0)))) (gE Lx) I L e) {X1 X0 : Prop} (x1 : ahd (rkK a b cj) (rkK a b ci) → X1) (x0 : ¬ ahd (rkK a b cj) (rkK a b ci) → X0) :
    (if I 37 2 = I 51 2 then Wp 66 0 [(0, .ref 42), (1, .ref 56)] [] (gE Lx) I L e (kcp (Wp 63) 63 36 0 [(0, .ref 37), (1, .ref 51)] 71 [] R) else if I 51 2 < I 37 2 then X1 else X0) := by
  have bj := rkK_b (l4 := a) (l5 := b) oj
  have bi := rkK_b (l4 := a) (l5 := b) oi
  obtain ⟨j0, j1, j2, j3⟩ := mj cj rfl
  obtain ⟨i0, i1, i2, i3⟩ := mi ci rfl
  have j0 : I 37 2 = Int32.ofInt (rkK a b cj).1 := j0
  have j1 : I 42 0 = Int32.ofInt (rkK a b cj).2.1 := j1
  have j2 : L 43 0 = Int64.ofInt (rkK a b cj).2.2.1 := j2
  have j3 : L 43 1 = Int64.ofInt (rkK a b cj).2.2.2 := j3
  have i0 : I 51 2 = Int32.ofInt (rkK a b ci).1 := i0
  have i1 : I 56 0 = Int32.ofInt (rkK a b ci).2.1 := i1
  have i2 : L 57 0 = Int64.ofInt (rkK a b ci).2.2.1 := i2
  have i3 : L 57 1 = Int64.ofInt (rkK a b ci).2.2.2 := i3
  have lb := lenC_b (x := (rkK a b cj).2.2.1) (y := (rkK a b cj).2.2.2) (z := (rkK a b ci).2.2.1) (t := (rkK a b ci).2.2.2)
  have fin : ∀ r : Int, R32 r → (r < 0 ↔ ahd (rkK a b cj) (rkK a b ci)) → kcp (Wp 63) 63 36 0 [(0, .ref 37), (1, .ref 51)] 71 [] R (.inl (some (.int (Int32.ofInt r)))) (gE Lx) I L e := fun r hr hh =>
    kcp_v rfl (s_63_39_1_3 (i_ltz hr (fun q => (h1 (hh.mp q)).1) (fun q => h0 (fun w => by have := hh.mpr w; omega))))
  unfold ahd at fin x1 x0
  rw [j0, i0]
  refine i_eq32 (by omega) (by omega) (fun q => s_66_0_1_3 ?_) (fun q => i_lt32 (by omega) (by omega) (fun z => x1 (by omega)) (fun z => x0 (by omega)))
  rw [j1, i1, j2, j3, i2, i3]
  refine i_eq32 (by omega) (by omega) (fun q1 => c_28 (by omega) (by omega) (by omega) (by omega) bj.2.2.2.2 bi.2.2.2.2 (kcp_v rfl (s_66_59_1_3 (fin _ (by omega) (by omega))))) (fun q1 => i_lt32 (by omega) (by omega) (fun z => fin (-1) (by omega) (by omega)) (fun z => fin 1 (by omega) (by omega)))
/-- whether shelf 2 is ahead of shelf 0 -/
theorem n_63_2_0 {a b : Int} {cj ci : Ch} (oj : ChOk cj) (oi : ChOk ci) (mj : MsAt I L a b 2 (some cj)) (mi : MsAt I L a b 0 (some ci)) {R : Kq} {pc sp : Nat} {ls : Lv} {A : Prop} (h1 : ahd (rkK a b cj) (rkK a b ci) → R (.inl (some (.int (Int32.ofInt 1)))) (gE Lx) I L e ∧ A) (h0 : ¬ ahd (rkK a b cj) (rkK a b ci) → R (.inl (some (.int (Int32.ofInt 0)))) (gE Lx) I L e) {X1 X0 : Prop} (x1 : ahd (rkK a b cj) (rkK a b ci) → X1) (x0 : ¬ ahd (rkK a b cj) (rkK a b ci) → X0) :
    (if I 44 2 = I 30 2 then Wp 66 0 [(0, .ref 49), (1, .ref 35)] [] (gE Lx) I L e (kcp (Wp 63) 63 36 0 [(0, .ref 44), (1, .ref 30)] 71 [] R) else if I 30 2 < I 44 2 then X1 else X0) := by
  have bj := rkK_b (l4 := a) (l5 := b) oj
  have bi := rkK_b (l4 := a) (l5 := b) oi
  obtain ⟨j0, j1, j2, j3⟩ := mj cj rfl
  obtain ⟨i0, i1, i2, i3⟩ := mi ci rfl
  have j0 : I 44 2 = Int32.ofInt (rkK a b cj).1 := j0
  have j1 : I 49 0 = Int32.ofInt (rkK a b cj).2.1 := j1
  have j2 : L 50 0 = Int64.ofInt (rkK a b cj).2.2.1 := j2
  have j3 : L 50 1 = Int64.ofInt (rkK a b cj).2.2.2 := j3
  have i0 : I 30 2 = Int32.ofInt (rkK a b ci).1 := i0
  have i1 : I 35 0 = Int32.ofInt (rkK a b ci).2.1 := i1
  have i2 : L 36 0 = Int64.ofInt (rkK a b ci).2.2.1 := i2
  have i3 : L 36 1 = Int64.ofInt (rkK a b ci).2.2.2 := i3
  have lb := lenC_b (x := (rkK a b cj).2.2.1) (y := (rkK a b cj).2.2.2) (z := (rkK a b ci).2.2.1) (t := (rkK a b ci).2.2.2)
  have fin : ∀ r : Int, R32 r → (r < 0 ↔ ahd (rkK a b cj) (rkK a b ci)) → kcp (Wp 63) 63 36 0 [(0, .ref 44), (1, .ref 30)] 71 [] R (.inl (some (.int (Int32.ofInt r)))) (gE Lx) I L e := fun r hr hh =>
    kcp_v rfl (s_63_39_2_0 (i_ltz hr (fun q => (h1 (hh.mp q)).1) (fun q => h0 (fun w => by have := hh.mpr w; omega))))
  unfold ahd at fin x1 x0
  rw [j0, i0]
  refine i_eq32 (by omega) (by omega) (fun q => s_66_0_2_0 ?_) (fun q => i_lt32 (by omega) (by omega) (fun z => x1 (by omega)) (fun z => x0 (by omega)))
  rw [j1, i1, j2, j3, i2, i3]
  refine i_eq32 (by omega) (by omega) (fun q1 => c_28 (by omega) (by omega) (by omega) (by omega) bj.2.2.2.2 bi.2.2.2.2 (kcp_v rfl (s_66_59_2_0 (fin _ (by omega) (by omega))))) (fun q1 => i_lt32 (by omega) (by omega) (fun z => fin (-1) (by omega) (by omega)) (fun z => fin 1 (by omega) (by omega)))
/-- whether shelf 2 is ahead of shelf 1 -/
theorem n_63_2_1 {a b : Int} {cj ci : Ch} (oj : ChOk cj) (oi : ChOk ci) (mj : MsAt I L a b 2 (some cj)) (mi : MsAt I L a b 1 (some ci)) {R : Kq} {pc sp : Nat} {ls : Lv} {A : Prop} (h1 : ahd (rkK a b cj) (rkK a b ci) → R (.inl (some (.int (Int32.ofInt 1)))) (gE Lx) I L e ∧ A) (h0 : ¬ ahd (rkK a b cj) (rkK a b ci) → R (.inl (some (.int (Int32.ofInt 0)))) (gE Lx) I L e) {X1 X0 : Prop} (x1 : ahd (rkK a b cj) (rkK a b ci) → X1) (x0 : ¬ ahd (rkK a b cj) (rkK a b ci) → X0) :
    (if I 44 2 = I 37 2 then Wp 66 0 [(0, .ref 49), (1, .ref 42)] [] (gE Lx) I L e (kcp (Wp 63) 63 36 0 [(0, .ref 44), (1, .ref 37)] 71 [] R) else if I 37 2 < I 44 2 then X1 else X0) := by
  have bj := rkK_b (l4 := a) (l5 := b) oj
  have bi := rkK_b (l4 := a) (l5 := b) oi
  obtain ⟨j0, j1, j2, j3⟩ := mj cj rfl
  obtain ⟨i0, i1, i2, i3⟩ := mi ci rfl
  have j0 : I 44 2 = Int32.ofInt (rkK a b cj).1 := j0
  have j1 : I 49 0 = Int32.ofInt (rkK a b cj).2.1 := j1
  have j2 : L 50 0 = Int64.ofInt (rkK a b cj).2.2.1 := j2
  have j3 : L 50 1 = Int64.ofInt (rkK a b cj).2.2.2 := j3
  have i0 : I 37 2 = Int32.ofInt (rkK a b ci).1 := i0
  have i1 : I 42 0 = Int32.ofInt (rkK a b ci).2.1 := i1
  have i2 : L 43 0 = Int64.ofInt (rkK a b ci).2.2.1 := i2
  have i3 : L 43 1 = Int64.ofInt (rkK a b ci).2.2.2 := i3
  have lb := lenC_b (x := (rkK a b cj).2.2.1) (y := (rkK a b cj).2.2.2) (z := (rkK a b ci).2.2.1) (t := (rkK a b ci).2.2.2)
  have fin : ∀ r : Int, R32 r → (r < 0 ↔ ahd (rkK a b cj) (rkK a b ci)) → kcp (Wp 63) 63 36 0 [(0, .ref 44), (1, .ref 37)] 71 [] R (.inl (some (.int (Int32.ofInt r)))) (gE Lx) I L e := fun r hr hh =>
    kcp_v rfl (s_63_39_2_1 (i_ltz hr (fun q => (h1 (hh.mp q)).1) (fun q => h0 (fun w => by have := hh.mpr w; omega))))
  unfold ahd at fin x1 x0
  rw [j0, i0]
  refine i_eq32 (by omega) (by omega) (fun q => s_66_0_2_1 ?_) (fun q => i_lt32 (by omega) (by omega) (fun z => x1 (by omega)) (fun z => x0 (by omega)))
  rw [j1, i1, j2, j3, i2, i3]
  refine i_eq32 (by omega) (by omega) (fun q1 => c_28 (by omega) (by omega) (by omega) (by omega) bj.2.2.2.2 bi.2.2.2.2 (kcp_v rfl (s_66_59_2_1 (fin _ (by omega) (by omega))))) (fun q1 => i_lt32 (by omega) (by omega) (fun z => fin (-1) (by omega) (by omega)) (fun z => fin 1 (by omega) (by omega)))
/-- whether shelf 2 is ahead of shelf 2 -/
theorem n_63_2_2 {a b : Int} {ci : Ch} (oi : ChOk ci) (mi : MsAt I L a b 2 (some ci)) {R : Kq} {pc sp : Nat} {ls : Lv} {A : Prop} (h1 : ahd (rkK a b ci) (rkK a b ci) → R (.inl (some (.int (Int32.ofInt 1)))) (gE Lx) I L e ∧ A) (h0 : ¬ ahd (rkK a b ci) (rkK a b ci) → R (.inl (some (.int (Int32.ofInt 0)))) (gE Lx) I L e) {X1 X0 : Prop} (x1 : ahd (rkK a b ci) (rkK a b ci) → X1) (x0 : ¬ ahd (rkK a b ci) (rkK a b ci) → X0) :
    (if I 44 2 = I 44 2 then Wp 66 0 [(0, .ref 49), (1, .ref 49)] [] (gE Lx) I L e (kcp (Wp 63) 63 36 0 [(0, .ref 44), (1, .ref 44)] 71 [] R) else if I 44 2 < I 44 2 then X1 else X0) := by
  have bj := rkK_b (l4 := a) (l5 := b) oi
  have bi := rkK_b (l4 := a) (l5 := b) oi
  obtain ⟨j0, j1, j2, j3⟩ := mi ci rfl
  obtain ⟨i0, i1, i2, i3⟩ := mi ci rfl
  have j0 : I 44 2 = Int32.ofInt (rkK a b ci).1 := j0
  have j1 : I 49 0 = Int32.ofInt (rkK a b ci).2.1 := j1
  have j2 : L 50 0 = Int64.ofInt (rkK a b ci).2.2.1 := j2
  have j3 : L 50 1 = Int64.ofInt (rkK a b ci).2.2.2 := j3
  have i0 : I 44 2 = Int32.ofInt (rkK a b ci).1 := i0
  have i1 : I 49 0 = Int32.ofInt (rkK a b ci).2.1 := i1
  have i2 : L 50 0 = Int64.ofInt (rkK a b ci).2.2.1 := i2
  have i3 : L 50 1 = Int64.ofInt (rkK a b ci).2.2.2 := i3
  have lb := lenC_b (x := (rkK a b ci).2.2.1) (y := (rkK a b ci).2.2.2) (z := (rkK a b ci).2.2.1) (t := (rkK a b ci).2.2.2)
  have fin : ∀ r : Int, R32 r → (r < 0 ↔ ahd (rkK a b ci) (rkK a b ci)) → kcp (Wp 63) 63 36 0 [(0, .ref 44), (1, .ref 44)] 71 [] R (.inl (some (.int (Int32.ofInt r)))) (gE Lx) I L e := fun r hr hh =>
    kcp_v rfl (s_63_39_2_2 (i_ltz hr (fun q => (h1 (hh.mp q)).1) (fun q => h0 (fun w => by have := hh.mpr w; omega))))
  unfold ahd at fin x1 x0
  rw [i0]
  refine i_eq32 (by omega) (by omega) (fun q => s_66_0_2_2 ?_) (fun q => i_lt32 (by omega) (by omega) (fun z => x1 (by omega)) (fun z => x0 (by omega)))
  rw [i1, i2, i3]
  refine i_eq32 (by omega) (by omega) (fun q1 => c_28 (by omega) (by omega) (by omega) (by omega) bj.2.2.2.2 bi.2.2.2.2 (kcp_v rfl (s_66_59_2_2 (fin _ (by omega) (by omega))))) (fun q1 => i_lt32 (by omega) (by omega) (fun z => fin (-1) (by omega) (by omega)) (fun z => fin 1 (by omega) (by omega)))
/-- whether shelf 2 is ahead of shelf 3 -/
theorem n_63_2_3 {a b : Int} {cj ci : Ch} (oj : ChOk cj) (oi : ChOk ci) (mj : MsAt I L a b 2 (some cj)) (mi : MsAt I L a b 3 (some ci)) {R : Kq} {pc sp : Nat} {ls : Lv} {A : Prop} (h1 : ahd (rkK a b cj) (rkK a b ci) → R (.inl (some (.int (Int32.ofInt 1)))) (gE Lx) I L e ∧ A) (h0 : ¬ ahd (rkK a b cj) (rkK a b ci) → R (.inl (some (.int (Int32.ofInt 0)))) (gE Lx) I L e) {X1 X0 : Prop} (x1 : ahd (rkK a b cj) (rkK a b ci) → X1) (x0 : ¬ ahd (rkK a b cj) (rkK a b ci) → X0) :
    (if I 44 2 = I 51 2 then Wp 66 0 [(0, .ref 49), (1, .ref 56)] [] (gE Lx) I L e (kcp (Wp 63) 63 36 0 [(0, .ref 44), (1, .ref 51)] 71 [] R) else if I 51 2 < I 44 2 then X1 else X0) := by
  have bj := rkK_b (l4 := a) (l5 := b) oj
  have bi := rkK_b (l4 := a) (l5 := b) oi
  obtain ⟨j0, j1, j2, j3⟩ := mj cj rfl
  obtain ⟨i0, i1, i2, i3⟩ := mi ci rfl
  have j0 : I 44 2 = Int32.ofInt (rkK a b cj).1 := j0
  have j1 : I 49 0 = Int32.ofInt (rkK a b cj).2.1 := j1
  have j2 : L 50 0 = Int64.ofInt (rkK a b cj).2.2.1 := j2
  have j3 : L 50 1 = Int64.ofInt (rkK a b cj).2.2.2 := j3
  have i0 : I 51 2 = Int32.ofInt (rkK a b ci).1 := i0
  have i1 : I 56 0 = Int32.ofInt (rkK a b ci).2.1 := i1
  have i2 : L 57 0 = Int64.ofInt (rkK a b ci).2.2.1 := i2
  have i3 : L 57 1 = Int64.ofInt (rkK a b ci).2.2.2 := i3
  have lb := lenC_b (x := (rkK a b cj).2.2.1) (y := (rkK a b cj).2.2.2) (z := (rkK a b ci).2.2.1) (t := (rkK a b ci).2.2.2)
  have fin : ∀ r : Int, R32 r → (r < 0 ↔ ahd (rkK a b cj) (rkK a b ci)) → kcp (Wp 63) 63 36 0 [(0, .ref 44), (1, .ref 51)] 71 [] R (.inl (some (.int (Int32.ofInt r)))) (gE Lx) I L e := fun r hr hh =>
    kcp_v rfl (s_63_39_2_3 (i_ltz hr (fun q => (h1 (hh.mp q)).1) (fun q => h0 (fun w => by have := hh.mpr w; omega))))
  unfold ahd at fin x1 x0
  rw [j0, i0]
  refine i_eq32 (by omega) (by omega) (fun q => s_66_0_2_3 ?_) (fun q => i_lt32 (by omega) (by omega) (fun z => x1 (by omega)) (fun z => x0 (by omega)))
  rw [j1, i1, j2, j3, i2, i3]
  refine i_eq32 (by omega) (by omega) (fun q1 => c_28 (by omega) (by omega) (by omega) (by omega) bj.2.2.2.2 bi.2.2.2.2 (kcp_v rfl (s_66_59_2_3 (fin _ (by omega) (by omega))))) (fun q1 => i_lt32 (by omega) (by omega) (fun z => fin (-1) (by omega) (by omega)) (fun z => fin 1 (by omega) (by omega)))
/-- whether shelf 3 is ahead of shelf 0 -/
theorem n_63_3_0 {a b : Int} {cj ci : Ch} (oj : ChOk cj) (oi : ChOk ci) (mj : MsAt I L a b 3 (some cj)) (mi : MsAt I L a b 0 (some ci)) {R : Kq} {pc sp : Nat} {ls : Lv} {A : Prop} (h1 : ahd (rkK a b cj) (rkK a b ci) → R (.inl (some (.int (Int32.ofInt 1)))) (gE Lx) I L e ∧ A) (h0 : ¬ ahd (rkK a b cj) (rkK a b ci) → R (.inl (some (.int (Int32.ofInt 0)))) (gE Lx) I L e) {X1 X0 : Prop} (x1 : ahd (rkK a b cj) (rkK a b ci) → X1) (x0 : ¬ ahd (rkK a b cj) (rkK a b ci) → X0) :
    (if I 51 2 = I 30 2 then Wp 66 0 [(0, .ref 56), (1, .ref 35)] [] (gE Lx) I L e (kcp (Wp 63) 63 36 0 [(0, .ref 51), (1, .ref 30)] 71 [] R) else if I 30 2 < I 51 2 then X1 else X0) := by
  have bj := rkK_b (l4 := a) (l5 := b) oj
  have bi := rkK_b (l4 := a) (l5 := b) oi
  obtain ⟨j0, j1, j2, j3⟩ := mj cj rfl
  obtain ⟨i0, i1, i2, i3⟩ := mi ci rfl
  have j0 : I 51 2 = Int32.ofInt (rkK a b cj).1 := j0
  have j1 : I 56 0 = Int32.ofInt (rkK a b cj).2.1 := j1
  have j2 : L 57 0 = Int64.ofInt (rkK a b cj).2.2.1 := j2
  have j3 : L 57 1 = Int64.ofInt (rkK a b cj).2.2.2 := j3
  have i0 : I 30 2 = Int32.ofInt (rkK a b ci).1 := i0
  have i1 : I 35 0 = Int32.ofInt (rkK a b ci).2.1 := i1
  have i2 : L 36 0 = Int64.ofInt (rkK a b ci).2.2.1 := i2
  have i3 : L 36 1 = Int64.ofInt (rkK a b ci).2.2.2 := i3
  have lb := lenC_b (x := (rkK a b cj).2.2.1) (y := (rkK a b cj).2.2.2) (z := (rkK a b ci).2.2.1) (t := (rkK a b ci).2.2.2)
  have fin : ∀ r : Int, R32 r → (r < 0 ↔ ahd (rkK a b cj) (rkK a b ci)) → kcp (Wp 63) 63 36 0 [(0, .ref 51), (1, .ref 30)] 71 [] R (.inl (some (.int (Int32.ofInt r)))) (gE Lx) I L e := fun r hr hh =>
    kcp_v rfl (s_63_39_3_0 (i_ltz hr (fun q => (h1 (hh.mp q)).1) (fun q => h0 (fun w => by have := hh.mpr w; omega))))
  unfold ahd at fin x1 x0
  rw [j0, i0]
  refine i_eq32 (by omega) (by omega) (fun q => s_66_0_3_0 ?_) (fun q => i_lt32 (by omega) (by omega) (fun z => x1 (by omega)) (fun z => x0 (by omega)))
  rw [j1, i1, j2, j3, i2, i3]
  refine i_eq32 (by omega) (by omega) (fun q1 => c_28 (by omega) (by omega) (by omega) (by omega) bj.2.2.2.2 bi.2.2.2.2 (kcp_v rfl (s_66_59_3_0 (fin _ (by omega) (by omega))))) (fun q1 => i_lt32 (by omega) (by omega) (fun z => fin (-1) (by omega) (by omega)) (fun z => fin 1 (by omega) (by omega)))
/-- whether shelf 3 is ahead of shelf 1 -/
theorem n_63_3_1 {a b : Int} {cj ci : Ch} (oj : ChOk cj) (oi : ChOk ci) (mj : MsAt I L a b 3 (some cj)) (mi : MsAt I L a b 1 (some ci)) {R : Kq} {pc sp : Nat} {ls : Lv} {A : Prop} (h1 : ahd (rkK a b cj) (rkK a b ci) → R (.inl (some (.int (Int32.ofInt 1)))) (gE Lx) I L e ∧ A) (h0 : ¬ ahd (rkK a b cj) (rkK a b ci) → R (.inl (some (.int (Int32.ofInt 0)))) (gE Lx) I L e) {X1 X0 : Prop} (x1 : ahd (rkK a b cj) (rkK a b ci) → X1) (x0 : ¬ ahd (rkK a b cj) (rkK a b ci) → X0) :
    (if I 51 2 = I 37 2 then Wp 66 0 [(0, .ref 56), (1, .ref 42)] [] (gE Lx) I L e (kcp (Wp 63) 63 36 0 [(0, .ref 51), (1, .ref 37)] 71 [] R) else if I 37 2 < I 51 2 then X1 else X0) := by
  have bj := rkK_b (l4 := a) (l5 := b) oj
  have bi := rkK_b (l4 := a) (l5 := b) oi
  obtain ⟨j0, j1, j2, j3⟩ := mj cj rfl
  obtain ⟨i0, i1, i2, i3⟩ := mi ci rfl
  have j0 : I 51 2 = Int32.ofInt (rkK a b cj).1 := j0
  have j1 : I 56 0 = Int32.ofInt (rkK a b cj).2.1 := j1
  have j2 : L 57 0 = Int64.ofInt (rkK a b cj).2.2.1 := j2
  have j3 : L 57 1 = Int64.ofInt (rkK a b cj).2.2.2 := j3
  have i0 : I 37 2 = Int32.ofInt (rkK a b ci).1 := i0
  have i1 : I 42 0 = Int32.ofInt (rkK a b ci).2.1 := i1
  have i2 : L 43 0 = Int64.ofInt (rkK a b ci).2.2.1 := i2
  have i3 : L 43 1 = Int64.ofInt (rkK a b ci).2.2.2 := i3
  have lb := lenC_b (x := (rkK a b cj).2.2.1) (y := (rkK a b cj).2.2.2) (z := (rkK a b ci).2.2.1) (t := (rkK a b ci).2.2.2)
  have fin : ∀ r : Int, R32 r → (r < 0 ↔ ahd (rkK a b cj) (rkK a b ci)) → kcp (Wp 63) 63 36 0 [(0, .ref 51), (1, .ref 37)] 71 [] R (.inl (some (.int (Int32.ofInt r)))) (gE Lx) I L e := fun r hr hh =>
    kcp_v rfl (s_63_39_3_1 (i_ltz hr (fun q => (h1 (hh.mp q)).1) (fun q => h0 (fun w => by have := hh.mpr w; omega))))
  unfold ahd at fin x1 x0
  rw [j0, i0]
  refine i_eq32 (by omega) (by omega) (fun q => s_66_0_3_1 ?_) (fun q => i_lt32 (by omega) (by omega) (fun z => x1 (by omega)) (fun z => x0 (by omega)))
  rw [j1, i1, j2, j3, i2, i3]
  refine i_eq32 (by omega) (by omega) (fun q1 => c_28 (by omega) (by omega) (by omega) (by omega) bj.2.2.2.2 bi.2.2.2.2 (kcp_v rfl (s_66_59_3_1 (fin _ (by omega) (by omega))))) (fun q1 => i_lt32 (by omega) (by omega) (fun z => fin (-1) (by omega) (by omega)) (fun z => fin 1 (by omega) (by omega)))
/-- whether shelf 3 is ahead of shelf 2 -/
theorem n_63_3_2 {a b : Int} {cj ci : Ch} (oj : ChOk cj) (oi : ChOk ci) (mj : MsAt I L a b 3 (some cj)) (mi : MsAt I L a b 2 (some ci)) {R : Kq} {pc sp : Nat} {ls : Lv} {A : Prop} (h1 : ahd (rkK a b cj) (rkK a b ci) → R (.inl (some (.int (Int32.ofInt 1)))) (gE Lx) I L e ∧ A) (h0 : ¬ ahd (rkK a b cj) (rkK a b ci) → R (.inl (some (.int (Int32.ofInt 0)))) (gE Lx) I L e) {X1 X0 : Prop} (x1 : ahd (rkK a b cj) (rkK a b ci) → X1) (x0 : ¬ ahd (rkK a b cj) (rkK a b ci) → X0) :
    (if I 51 2 = I 44 2 then Wp 66 0 [(0, .ref 56), (1, .ref 49)] [] (gE Lx) I L e (kcp (Wp 63) 63 36 0 [(0, .ref 51), (1, .ref 44)] 71 [] R) else if I 44 2 < I 51 2 then X1 else X0) := by
  have bj := rkK_b (l4 := a) (l5 := b) oj
  have bi := rkK_b (l4 := a) (l5 := b) oi
  obtain ⟨j0, j1, j2, j3⟩ := mj cj rfl
  obtain ⟨i0, i1, i2, i3⟩ := mi ci rfl
  have j0 : I 51 2 = Int32.ofInt (rkK a b cj).1 := j0
  have j1 : I 56 0 = Int32.ofInt (rkK a b cj).2.1 := j1
  have j2 : L 57 0 = Int64.ofInt (rkK a b cj).2.2.1 := j2
  have j3 : L 57 1 = Int64.ofInt (rkK a b cj).2.2.2 := j3
  have i0 : I 44 2 = Int32.ofInt (rkK a b ci).1 := i0
  have i1 : I 49 0 = Int32.ofInt (rkK a b ci).2.1 := i1
  have i2 : L 50 0 = Int64.ofInt (rkK a b ci).2.2.1 := i2
  have i3 : L 50 1 = Int64.ofInt (rkK a b ci).2.2.2 := i3
  have lb := lenC_b (x := (rkK a b cj).2.2.1) (y := (rkK a b cj).2.2.2) (z := (rkK a b ci).2.2.1) (t := (rkK a b ci).2.2.2)
  have fin : ∀ r : Int, R32 r → (r < 0 ↔ ahd (rkK a b cj) (rkK a b ci)) → kcp (Wp 63) 63 36 0 [(0, .ref 51), (1, .ref 44)] 71 [] R (.inl (some (.int (Int32.ofInt r)))) (gE Lx) I L e := fun r hr hh =>
    kcp_v rfl (s_63_39_3_2 (i_ltz hr (fun q => (h1 (hh.mp q)).1) (fun q => h0 (fun w => by have := hh.mpr w; omega))))
  unfold ahd at fin x1 x0
  rw [j0, i0]
  refine i_eq32 (by omega) (by omega) (fun q => s_66_0_3_2 ?_) (fun q => i_lt32 (by omega) (by omega) (fun z => x1 (by omega)) (fun z => x0 (by omega)))
  rw [j1, i1, j2, j3, i2, i3]
  refine i_eq32 (by omega) (by omega) (fun q1 => c_28 (by omega) (by omega) (by omega) (by omega) bj.2.2.2.2 bi.2.2.2.2 (kcp_v rfl (s_66_59_3_2 (fin _ (by omega) (by omega))))) (fun q1 => i_lt32 (by omega) (by omega) (fun z => fin (-1) (by omega) (by omega)) (fun z => fin 1 (by omega) (by omega)))
/-- whether shelf 3 is ahead of shelf 3 -/
theorem n_63_3_3 {a b : Int} {ci : Ch} (oi : ChOk ci) (mi : MsAt I L a b 3 (some ci)) {R : Kq} {pc sp : Nat} {ls : Lv} {A : Prop} (h1 : ahd (rkK a b ci) (rkK a b ci) → R (.inl (some (.int (Int32.ofInt 1)))) (gE Lx) I L e ∧ A) (h0 : ¬ ahd (rkK a b ci) (rkK a b ci) → R (.inl (some (.int (Int32.ofInt 0)))) (gE Lx) I L e) {X1 X0 : Prop} (x1 : ahd (rkK a b ci) (rkK a b ci) → X1) (x0 : ¬ ahd (rkK a b ci) (rkK a b ci) → X0) :
    (if I 51 2 = I 51 2 then Wp 66 0 [(0, .ref 56), (1, .ref 56)] [] (gE Lx) I L e (kcp (Wp 63) 63 36 0 [(0, .ref 51), (1, .ref 51)] 71 [] R) else if I 51 2 < I 51 2 then X1 else X0) := by
  have bj := rkK_b (l4 := a) (l5 := b) oi
  have bi := rkK_b (l4 := a) (l5 := b) oi
  obtain ⟨j0, j1, j2, j3⟩ := mi ci rfl
  obtain ⟨i0, i1, i2, i3⟩ := mi ci rfl
  have j0 : I 51 2 = Int32.ofInt (rkK a b ci).1 := j0
  have j1 : I 56 0 = Int32.ofInt (rkK a b ci).2.1 := j1
  have j2 : L 57 0 = Int64.ofInt (rkK a b ci).2.2.1 := j2
  have j3 : L 57 1 = Int64.ofInt (rkK a b ci).2.2.2 := j3
  have i0 : I 51 2 = Int32.ofInt (rkK a b ci).1 := i0
  have i1 : I 56 0 = Int32.ofInt (rkK a b ci).2.1 := i1
  have i2 : L 57 0 = Int64.ofInt (rkK a b ci).2.2.1 := i2
  have i3 : L 57 1 = Int64.ofInt (rkK a b ci).2.2.2 := i3
  have lb := lenC_b (x := (rkK a b ci).2.2.1) (y := (rkK a b ci).2.2.2) (z := (rkK a b ci).2.2.1) (t := (rkK a b ci).2.2.2)
  have fin : ∀ r : Int, R32 r → (r < 0 ↔ ahd (rkK a b ci) (rkK a b ci)) → kcp (Wp 63) 63 36 0 [(0, .ref 51), (1, .ref 51)] 71 [] R (.inl (some (.int (Int32.ofInt r)))) (gE Lx) I L e := fun r hr hh =>
    kcp_v rfl (s_63_39_3_3 (i_ltz hr (fun q => (h1 (hh.mp q)).1) (fun q => h0 (fun w => by have := hh.mpr w; omega))))
  unfold ahd at fin x1 x0
  rw [i0]
  refine i_eq32 (by omega) (by omega) (fun q => s_66_0_3_3 ?_) (fun q => i_lt32 (by omega) (by omega) (fun z => x1 (by omega)) (fun z => x0 (by omega)))
  rw [i1, i2, i3]
  refine i_eq32 (by omega) (by omega) (fun q1 => c_28 (by omega) (by omega) (by omega) (by omega) bj.2.2.2.2 bi.2.2.2.2 (kcp_v rfl (s_66_59_3_3 (fin _ (by omega) (by omega))))) (fun q1 => i_lt32 (by omega) (by omega) (fun z => fin (-1) (by omega) (by omega)) (fun z => fin 1 (by omega) (by omega)))
theorem m_102_0_0 {ch : Ch} {sh : Nat → Option Ch} {a b : Int} (hok : ShOk sh) (hs : CSt I ch sh a b) (hM : ∀ k, k < 4 → MsAt I L a b k (sh k)) {ci : Ch} (hi : sh 0 = some ci) {n : Int} (nx : Wp 102 4 [(0, .ref 1), (1, .int (Int32.ofInt 0)), (2, .int (Int32.ofInt (n + rkC a b 0 0 (sh 0) (sh 0)))), (3, .int (Int32.ofInt 1))] [] (gE Lx) I L e Q) : Wp 102 4 [(0, .ref 1), (1, .int (Int32.ofInt 0)), (2, .int (Int32.ofInt n)), (3, .int (Int32.ofInt 0))] [] (gE Lx) I L e Q := by
  have hj := hs.s 0 (by omega)
  have mi := hM 0 (by omega)
  have mj := hM 0 (by omega)
  refine s_102_4_0_0 ?_
  have e0 : I 30 0 = Int32.ofInt 1 := (hj.2 ci hi).1
  have oi := hok 0 ci (by omega) hi
  rw [hi] at mi nx
  rw [rkC_s] at nx
  rw [e0]
  refine j_1 ?_
  have yes : ahd (rkK a b ci) (rkK a b ci) → Wp 102 36 [(0, .ref 1), (1, .int (Int32.ofInt 0)), (2, .int (Int32.ofInt n)), (3, .int (Int32.ofInt 0))] [.int (Int32.ofInt 1)] (gE Lx) I L e Q := fun q => by
    rw [iP_t (Or.inl q)] at nx
    refine s_102_36_0_0 (j_1 ?_)
    rw [add32]
    exact nx
  have no : ¬ ahd (rkK a b ci) (rkK a b ci) → Wp 102 36 [(0, .ref 1), (1, .int (Int32.ofInt 0)), (2, .int (Int32.ofInt n)), (3, .int (Int32.ofInt 0))] [.int (Int32.ofInt 0)] (gE Lx) I L e Q := fun q => by
    rw [iP_f (fun w => by rcases w with w | w; exact q w; exact absurd w.1 (by omega)), Int.add_zero] at nx
    exact s_102_36_0_0 (j_0 nx)
  exact n_63_0_0 (A := True) (pc := 0) (sp := 0) (ls := []) oi mi (fun z => ⟨kcp_v rfl (yes z), trivial⟩) (fun z => kcp_v rfl (no z)) yes no
theorem m_102_0_1 {ch : Ch} {sh : Nat → Option Ch} {a b : Int} (hok : ShOk sh) (hs : CSt I ch sh a b) (hM : ∀ k, k < 4 → MsAt I L a b k (sh k)) {ci : Ch} (hi : sh 0 = some ci) {n : Int} (nx : Wp 102 4 [(0, .ref 1), (1, .int (Int32.ofInt 0)), (2, .int (Int32.ofInt (n + rkC a b 0 1 (sh 0) (sh 1)))), (3, .int (Int32.ofInt 2))] [] (gE Lx) I L e Q) : Wp 102 4 [(0, .ref 1), (1, .int (Int32.ofInt 0)), (2, .int (Int32.ofInt n)), (3, .int (Int32.ofInt 1))] [] (gE Lx) I L e Q := by
  have hj := hs.s 1 (by omega)
  have mi := hM 0 (by omega)
  have mj := hM 1 (by omega)
  refine s_102_4_0_1 ?_
  cases ho : sh 1 with
  | none =>
    have e0 : I 37 0 = Int32.ofInt 0 := hj.1 ho
    rw [e0]
    rw [ho, rkC_n, Int.add_zero] at nx
    exact j_0 nx
  | some cj =>
    have e0 : I 37 0 = Int32.ofInt 1 := (hj.2 cj ho).1
    have oi := hok 0 ci (by omega) hi
    have oj := hok 1 cj (by omega) ho
    rw [hi] at mi nx
    rw [ho] at mj nx
    rw [rkC_s] at nx
    rw [e0]
    refine j_1 ?_
    have yes : ahd (rkK a b cj) (rkK a b ci) → Wp 102 36 [(0, .ref 1), (1, .int (Int32.ofInt 0)), (2, .int (Int32.ofInt n)), (3, .int (Int32.ofInt 1))] [.int (Int32.ofInt 1)] (gE Lx) I L e Q := fun q => by
      rw [iP_t (Or.inl q)] at nx
      refine s_102_36_0_1 (j_1 ?_)
      rw [add32]
      exact nx
    have no : ¬ ahd (rkK a b cj) (rkK a b ci) → Wp 102 36 [(0, .ref 1), (1, .int (Int32.ofInt 0)), (2, .int (Int32.ofInt n)), (3, .int (Int32.ofInt 1))] [.int (Int32.ofInt 0)] (gE Lx) I L e Q := fun q => by
      rw [iP_f (fun w => by rcases w with w | w; exact q w; exact absurd w.1 (by omega)), Int.add_zero] at nx
      exact s_102_36_0_1 (j_0 nx)
    exact n_63_1_0 (A := True) (pc := 0) (sp := 0) (ls := []) oj oi mj mi (fun z => ⟨kcp_v rfl (yes z), trivial⟩) (fun z => kcp_v rfl (no z)) yes no
theorem m_102_0_2 {ch : Ch} {sh : Nat → Option Ch} {a b : Int} (hok : ShOk sh) (hs : CSt I ch sh a b) (hM : ∀ k, k < 4 → MsAt I L a b k (sh k)) {ci : Ch} (hi : sh 0 = some ci) {n : Int} (nx : Wp 102 4 [(0, .ref 1), (1, .int (Int32.ofInt 0)), (2, .int (Int32.ofInt (n + rkC a b 0 2 (sh 0) (sh 2)))), (3, .int (Int32.ofInt 3))] [] (gE Lx) I L e Q) : Wp 102 4 [(0, .ref 1), (1, .int (Int32.ofInt 0)), (2, .int (Int32.ofInt n)), (3, .int (Int32.ofInt 2))] [] (gE Lx) I L e Q := by
  have hj := hs.s 2 (by omega)
  have mi := hM 0 (by omega)
  have mj := hM 2 (by omega)
  refine s_102_4_0_2 ?_
  cases ho : sh 2 with
  | none =>
    have e0 : I 44 0 = Int32.ofInt 0 := hj.1 ho
    rw [e0]
    rw [ho, rkC_n, Int.add_zero] at nx
    exact j_0 nx
  | some cj =>
    have e0 : I 44 0 = Int32.ofInt 1 := (hj.2 cj ho).1
    have oi := hok 0 ci (by omega) hi
    have oj := hok 2 cj (by omega) ho
    rw [hi] at mi nx
    rw [ho] at mj nx
    rw [rkC_s] at nx
    rw [e0]
    refine j_1 ?_
    have yes : ahd (rkK a b cj) (rkK a b ci) → Wp 102 36 [(0, .ref 1), (1, .int (Int32.ofInt 0)), (2, .int (Int32.ofInt n)), (3, .int (Int32.ofInt 2))] [.int (Int32.ofInt 1)] (gE Lx) I L e Q := fun q => by
      rw [iP_t (Or.inl q)] at nx
      refine s_102_36_0_2 (j_1 ?_)
      rw [add32]
      exact nx
    have no : ¬ ahd (rkK a b cj) (rkK a b ci) → Wp 102 36 [(0, .ref 1), (1, .int (Int32.ofInt 0)), (2, .int (Int32.ofInt n)), (3, .int (Int32.ofInt 2))] [.int (Int32.ofInt 0)] (gE Lx) I L e Q := fun q => by
      rw [iP_f (fun w => by rcases w with w | w; exact q w; exact absurd w.1 (by omega)), Int.add_zero] at nx
      exact s_102_36_0_2 (j_0 nx)
    exact n_63_2_0 (A := True) (pc := 0) (sp := 0) (ls := []) oj oi mj mi (fun z => ⟨kcp_v rfl (yes z), trivial⟩) (fun z => kcp_v rfl (no z)) yes no
theorem m_102_0_3 {ch : Ch} {sh : Nat → Option Ch} {a b : Int} (hok : ShOk sh) (hs : CSt I ch sh a b) (hM : ∀ k, k < 4 → MsAt I L a b k (sh k)) {ci : Ch} (hi : sh 0 = some ci) {n : Int} (nx : Wp 102 4 [(0, .ref 1), (1, .int (Int32.ofInt 0)), (2, .int (Int32.ofInt (n + rkC a b 0 3 (sh 0) (sh 3)))), (3, .int (Int32.ofInt 4))] [] (gE Lx) I L e Q) : Wp 102 4 [(0, .ref 1), (1, .int (Int32.ofInt 0)), (2, .int (Int32.ofInt n)), (3, .int (Int32.ofInt 3))] [] (gE Lx) I L e Q := by
  have hj := hs.s 3 (by omega)
  have mi := hM 0 (by omega)
  have mj := hM 3 (by omega)
  refine s_102_4_0_3 ?_
  cases ho : sh 3 with
  | none =>
    have e0 : I 51 0 = Int32.ofInt 0 := hj.1 ho
    rw [e0]
    rw [ho, rkC_n, Int.add_zero] at nx
    exact j_0 nx
  | some cj =>
    have e0 : I 51 0 = Int32.ofInt 1 := (hj.2 cj ho).1
    have oi := hok 0 ci (by omega) hi
    have oj := hok 3 cj (by omega) ho
    rw [hi] at mi nx
    rw [ho] at mj nx
    rw [rkC_s] at nx
    rw [e0]
    refine j_1 ?_
    have yes : ahd (rkK a b cj) (rkK a b ci) → Wp 102 36 [(0, .ref 1), (1, .int (Int32.ofInt 0)), (2, .int (Int32.ofInt n)), (3, .int (Int32.ofInt 3))] [.int (Int32.ofInt 1)] (gE Lx) I L e Q := fun q => by
      rw [iP_t (Or.inl q)] at nx
      refine s_102_36_0_3 (j_1 ?_)
      rw [add32]
      exact nx
    have no : ¬ ahd (rkK a b cj) (rkK a b ci) → Wp 102 36 [(0, .ref 1), (1, .int (Int32.ofInt 0)), (2, .int (Int32.ofInt n)), (3, .int (Int32.ofInt 3))] [.int (Int32.ofInt 0)] (gE Lx) I L e Q := fun q => by
      rw [iP_f (fun w => by rcases w with w | w; exact q w; exact absurd w.1 (by omega)), Int.add_zero] at nx
      exact s_102_36_0_3 (j_0 nx)
    exact n_63_3_0 (A := True) (pc := 0) (sp := 0) (ls := []) oj oi mj mi (fun z => ⟨kcp_v rfl (yes z), trivial⟩) (fun z => kcp_v rfl (no z)) yes no
theorem m_102_1_0 {ch : Ch} {sh : Nat → Option Ch} {a b : Int} (hok : ShOk sh) (hs : CSt I ch sh a b) (hM : ∀ k, k < 4 → MsAt I L a b k (sh k)) {ci : Ch} (hi : sh 1 = some ci) {n : Int} (nx : Wp 102 4 [(0, .ref 1), (1, .int (Int32.ofInt 1)), (2, .int (Int32.ofInt (n + rkC a b 1 0 (sh 1) (sh 0)))), (3, .int (Int32.ofInt 1))] [] (gE Lx) I L e Q) : Wp 102 4 [(0, .ref 1), (1, .int (Int32.ofInt 1)), (2, .int (Int32.ofInt n)), (3, .int (Int32.ofInt 0))] [] (gE Lx) I L e Q := by
  have hj := hs.s 0 (by omega)
  have mi := hM 1 (by omega)
  have mj := hM 0 (by omega)
  refine s_102_4_1_0 ?_
  cases ho : sh 0 with
  | none =>
    have e0 : I 30 0 = Int32.ofInt 0 := hj.1 ho
    rw [e0]
    rw [ho, rkC_n, Int.add_zero] at nx
    exact j_0 nx
  | some cj =>
    have e0 : I 30 0 = Int32.ofInt 1 := (hj.2 cj ho).1
    have oi := hok 1 ci (by omega) hi
    have oj := hok 0 cj (by omega) ho
    rw [hi] at mi nx
    rw [ho] at mj nx
    rw [rkC_s] at nx
    rw [e0]
    refine j_1 ?_
    have yes : ahd (rkK a b cj) (rkK a b ci) → Wp 102 36 [(0, .ref 1), (1, .int (Int32.ofInt 1)), (2, .int (Int32.ofInt n)), (3, .int (Int32.ofInt 0))] [.int (Int32.ofInt 1)] (gE Lx) I L e Q := fun q => by
      rw [iP_t (Or.inl q)] at nx
      refine s_102_36_1_0 (j_1 ?_)
      rw [add32]
      exact nx
    have no : ¬ ahd (rkK a b cj) (rkK a b ci) → Wp 102 36 [(0, .ref 1), (1, .int (Int32.ofInt 1)), (2, .int (Int32.ofInt n)), (3, .int (Int32.ofInt 0))] [.int (Int32.ofInt 0)] (gE Lx) I L e Q := fun q => by
      refine s_102_36_1_0 (j_0 ?_)
      have y1 : ahd (rkK a b ci) (rkK a b cj) → Wp 102 59 [(0, .ref 1), (1, .int (Int32.ofInt 1)), (2, .int (Int32.ofInt n)), (3, .int (Int32.ofInt 0))] [.int (Int32.ofInt 1)] (gE Lx) I L e Q := fun z => by
        rw [iP_f (fun w => by rcases w with w | w; exact q w; exact w.2 z), Int.add_zero] at nx
        exact s_102_59_1_0 (j_1 nx)
      have y0 : ¬ ahd (rkK a b ci) (rkK a b cj) → Wp 102 59 [(0, .ref 1), (1, .int (Int32.ofInt 1)), (2, .int (Int32.ofInt n)), (3, .int (Int32.ofInt 0))] [.int (Int32.ofInt 0)] (gE Lx) I L e Q := fun z => by
        rw [iP_t (Or.inr ⟨by omega, z⟩)] at nx
        refine s_102_59_1_0 (j_0 ?_)
        rw [add32]
        exact nx
      exact n_63_1_0 (A := True) (pc := 0) (sp := 0) (ls := []) oi oj mi mj (fun z => ⟨kcp_v rfl (y1 z), trivial⟩) (fun z => kcp_v rfl (y0 z)) y1 y0
    exact n_63_0_1 (A := True) (pc := 0) (sp := 0) (ls := []) oj oi mj mi (fun z => ⟨kcp_v rfl (yes z), trivial⟩) (fun z => kcp_v rfl (no z)) yes no
theorem m_102_1_1 {ch : Ch} {sh : Nat → Option Ch} {a b : Int} (hok : ShOk sh) (hs : CSt I ch sh a b) (hM : ∀ k, k < 4 → MsAt I L a b k (sh k)) {ci : Ch} (hi : sh 1 = some ci) {n : Int} (nx : Wp 102 4 [(0, .ref 1), (1, .int (Int32.ofInt 1)), (2, .int (Int32.ofInt (n + rkC a b 1 1 (sh 1) (sh 1)))), (3, .int (Int32.ofInt 2))] [] (gE Lx) I L e Q) : Wp 102 4 [(0, .ref 1), (1, .int (Int32.ofInt 1)), (2, .int (Int32.ofInt n)), (3, .int (Int32.ofInt 1))] [] (gE Lx) I L e Q := by
  have hj := hs.s 1 (by omega)
  have mi := hM 1 (by omega)
  have mj := hM 1 (by omega)
  refine s_102_4_1_1 ?_
  have e0 : I 37 0 = Int32.ofInt 1 := (hj.2 ci hi).1
  have oi := hok 1 ci (by omega) hi
  rw [hi] at mi nx
  rw [rkC_s] at nx
  rw [e0]
  refine j_1 ?_
  have yes : ahd (rkK a b ci) (rkK a b ci) → Wp 102 36 [(0, .ref 1), (1, .int (Int32.ofInt 1)), (2, .int (Int32.ofInt n)), (3, .int (Int32.ofInt 1))] [.int (Int32.ofInt 1)] (gE Lx) I L e Q := fun q => by
    rw [iP_t (Or.inl q)] at nx
    refine s_102_36_1_1 (j_1 ?_)
    rw [add32]
    exact nx
  have no : ¬ ahd (rkK a b ci) (rkK a b ci) → Wp 102 36 [(0, .ref 1), (1, .int (Int32.ofInt 1)), (2, .int (Int32.ofInt n)), (3, .int (Int32.ofInt 1))] [.int (Int32.ofInt 0)] (gE Lx) I L e Q := fun q => by
    rw [iP_f (fun w => by rcases w with w | w; exact q w; exact absurd w.1 (by omega)), Int.add_zero] at nx
    exact s_102_36_1_1 (j_0 nx)
  exact n_63_1_1 (A := True) (pc := 0) (sp := 0) (ls := []) oi mi (fun z => ⟨kcp_v rfl (yes z), trivial⟩) (fun z => kcp_v rfl (no z)) yes no
theorem m_102_1_2 {ch : Ch} {sh : Nat → Option Ch} {a b : Int} (hok : ShOk sh) (hs : CSt I ch sh a b) (hM : ∀ k, k < 4 → MsAt I L a b k (sh k)) {ci : Ch} (hi : sh 1 = some ci) {n : Int} (nx : Wp 102 4 [(0, .ref 1), (1, .int (Int32.ofInt 1)), (2, .int (Int32.ofInt (n + rkC a b 1 2 (sh 1) (sh 2)))), (3, .int (Int32.ofInt 3))] [] (gE Lx) I L e Q) : Wp 102 4 [(0, .ref 1), (1, .int (Int32.ofInt 1)), (2, .int (Int32.ofInt n)), (3, .int (Int32.ofInt 2))] [] (gE Lx) I L e Q := by
  have hj := hs.s 2 (by omega)
  have mi := hM 1 (by omega)
  have mj := hM 2 (by omega)
  refine s_102_4_1_2 ?_
  cases ho : sh 2 with
  | none =>
    have e0 : I 44 0 = Int32.ofInt 0 := hj.1 ho
    rw [e0]
    rw [ho, rkC_n, Int.add_zero] at nx
    exact j_0 nx
  | some cj =>
    have e0 : I 44 0 = Int32.ofInt 1 := (hj.2 cj ho).1
    have oi := hok 1 ci (by omega) hi
    have oj := hok 2 cj (by omega) ho
    rw [hi] at mi nx
    rw [ho] at mj nx
    rw [rkC_s] at nx
    rw [e0]
    refine j_1 ?_
    have yes : ahd (rkK a b cj) (rkK a b ci) → Wp 102 36 [(0, .ref 1), (1, .int (Int32.ofInt 1)), (2, .int (Int32.ofInt n)), (3, .int (Int32.ofInt 2))] [.int (Int32.ofInt 1)] (gE Lx) I L e Q := fun q => by
      rw [iP_t (Or.inl q)] at nx
      refine s_102_36_1_2 (j_1 ?_)
      rw [add32]
      exact nx
    have no : ¬ ahd (rkK a b cj) (rkK a b ci) → Wp 102 36 [(0, .ref 1), (1, .int (Int32.ofInt 1)), (2, .int (Int32.ofInt n)), (3, .int (Int32.ofInt 2))] [.int (Int32.ofInt 0)] (gE Lx) I L e Q := fun q => by
      rw [iP_f (fun w => by rcases w with w | w; exact q w; exact absurd w.1 (by omega)), Int.add_zero] at nx
      exact s_102_36_1_2 (j_0 nx)
    exact n_63_2_1 (A := True) (pc := 0) (sp := 0) (ls := []) oj oi mj mi (fun z => ⟨kcp_v rfl (yes z), trivial⟩) (fun z => kcp_v rfl (no z)) yes no
theorem m_102_1_3 {ch : Ch} {sh : Nat → Option Ch} {a b : Int} (hok : ShOk sh) (hs : CSt I ch sh a b) (hM : ∀ k, k < 4 → MsAt I L a b k (sh k)) {ci : Ch} (hi : sh 1 = some ci) {n : Int} (nx : Wp 102 4 [(0, .ref 1), (1, .int (Int32.ofInt 1)), (2, .int (Int32.ofInt (n + rkC a b 1 3 (sh 1) (sh 3)))), (3, .int (Int32.ofInt 4))] [] (gE Lx) I L e Q) : Wp 102 4 [(0, .ref 1), (1, .int (Int32.ofInt 1)), (2, .int (Int32.ofInt n)), (3, .int (Int32.ofInt 3))] [] (gE Lx) I L e Q := by
  have hj := hs.s 3 (by omega)
  have mi := hM 1 (by omega)
  have mj := hM 3 (by omega)
  refine s_102_4_1_3 ?_
  cases ho : sh 3 with
  | none =>
    have e0 : I 51 0 = Int32.ofInt 0 := hj.1 ho
    rw [e0]
    rw [ho, rkC_n, Int.add_zero] at nx
    exact j_0 nx
  | some cj =>
    have e0 : I 51 0 = Int32.ofInt 1 := (hj.2 cj ho).1
    have oi := hok 1 ci (by omega) hi
    have oj := hok 3 cj (by omega) ho
    rw [hi] at mi nx
    rw [ho] at mj nx
    rw [rkC_s] at nx
    rw [e0]
    refine j_1 ?_
    have yes : ahd (rkK a b cj) (rkK a b ci) → Wp 102 36 [(0, .ref 1), (1, .int (Int32.ofInt 1)), (2, .int (Int32.ofInt n)), (3, .int (Int32.ofInt 3))] [.int (Int32.ofInt 1)] (gE Lx) I L e Q := fun q => by
      rw [iP_t (Or.inl q)] at nx
      refine s_102_36_1_3 (j_1 ?_)
      rw [add32]
      exact nx
    have no : ¬ ahd (rkK a b cj) (rkK a b ci) → Wp 102 36 [(0, .ref 1), (1, .int (Int32.ofInt 1)), (2, .int (Int32.ofInt n)), (3, .int (Int32.ofInt 3))] [.int (Int32.ofInt 0)] (gE Lx) I L e Q := fun q => by
      rw [iP_f (fun w => by rcases w with w | w; exact q w; exact absurd w.1 (by omega)), Int.add_zero] at nx
      exact s_102_36_1_3 (j_0 nx)
    exact n_63_3_1 (A := True) (pc := 0) (sp := 0) (ls := []) oj oi mj mi (fun z => ⟨kcp_v rfl (yes z), trivial⟩) (fun z => kcp_v rfl (no z)) yes no
theorem m_102_2_0 {ch : Ch} {sh : Nat → Option Ch} {a b : Int} (hok : ShOk sh) (hs : CSt I ch sh a b) (hM : ∀ k, k < 4 → MsAt I L a b k (sh k)) {ci : Ch} (hi : sh 2 = some ci) {n : Int} (nx : Wp 102 4 [(0, .ref 1), (1, .int (Int32.ofInt 2)), (2, .int (Int32.ofInt (n + rkC a b 2 0 (sh 2) (sh 0)))), (3, .int (Int32.ofInt 1))] [] (gE Lx) I L e Q) : Wp 102 4 [(0, .ref 1), (1, .int (Int32.ofInt 2)), (2, .int (Int32.ofInt n)), (3, .int (Int32.ofInt 0))] [] (gE Lx) I L e Q := by
  have hj := hs.s 0 (by omega)
  have mi := hM 2 (by omega)
  have mj := hM 0 (by omega)
  refine s_102_4_2_0 ?_
  cases ho : sh 0 with
  | none =>
    have e0 : I 30 0 = Int32.ofInt 0 := hj.1 ho
    rw [e0]
    rw [ho, rkC_n, Int.add_zero] at nx
    exact j_0 nx
  | some cj =>
    have e0 : I 30 0 = Int32.ofInt 1 := (hj.2 cj ho).1
    have oi := hok 2 ci (by omega) hi
    have oj := hok 0 cj (by omega) ho
    rw [hi] at mi nx
    rw [ho] at mj nx
    rw [rkC_s] at nx
    rw [e0]
    refine j_1 ?_
    have yes : ahd (rkK a b cj) (rkK a b ci) → Wp 102 36 [(0, .ref 1), (1, .int (Int32.ofInt 2)), (2, .int (Int32.ofInt n)), (3, .int (Int32.ofInt 0))] [.int (Int32.ofInt 1)] (gE Lx) I L e Q := fun q => by
      rw [iP_t (Or.inl q)] at nx
      refine s_102_36_2_0 (j_1 ?_)
      rw [add32]
      exact nx
    have no : ¬ ahd (rkK a b cj) (rkK a b ci) → Wp 102 36 [(0, .ref 1), (1, .int (Int32.ofInt 2)), (2, .int (Int32.ofInt n)), (3, .int (Int32.ofInt 0))] [.int (Int32.ofInt 0)] (gE Lx) I L e Q := fun q => by
      refine s_102_36_2_0 (j_0 ?_)
      have y1 : ahd (rkK a b ci) (rkK a b cj) → Wp 102 59 [(0, .ref 1), (1, .int (Int32.ofInt 2)), (2, .int (Int32.ofInt n)), (3, .int (Int32.ofInt 0))] [.int (Int32.ofInt 1)] (gE Lx) I L e Q := fun z => by
        rw [iP_f (fun w => by rcases w with w | w; exact q w; exact w.2 z), Int.add_zero] at nx
        exact s_102_59_2_0 (j_1 nx)
      have y0 : ¬ ahd (rkK a b ci) (rkK a b cj) → Wp 102 59 [(0, .ref 1), (1, .int (Int32.ofInt 2)), (2, .int (Int32.ofInt n)), (3, .int (Int32.ofInt 0))] [.int (Int32.ofInt 0)] (gE Lx) I L e Q := fun z => by
        rw [iP_t (Or.inr ⟨by omega, z⟩)] at nx
        refine s_102_59_2_0 (j_0 ?_)
        rw [add32]
        exact nx
      exact n_63_2_0 (A := True) (pc := 0) (sp := 0) (ls := []) oi oj mi mj (fun z => ⟨kcp_v rfl (y1 z), trivial⟩) (fun z => kcp_v rfl (y0 z)) y1 y0
    exact n_63_0_2 (A := True) (pc := 0) (sp := 0) (ls := []) oj oi mj mi (fun z => ⟨kcp_v rfl (yes z), trivial⟩) (fun z => kcp_v rfl (no z)) yes no
theorem m_102_2_1 {ch : Ch} {sh : Nat → Option Ch} {a b : Int} (hok : ShOk sh) (hs : CSt I ch sh a b) (hM : ∀ k, k < 4 → MsAt I L a b k (sh k)) {ci : Ch} (hi : sh 2 = some ci) {n : Int} (nx : Wp 102 4 [(0, .ref 1), (1, .int (Int32.ofInt 2)), (2, .int (Int32.ofInt (n + rkC a b 2 1 (sh 2) (sh 1)))), (3, .int (Int32.ofInt 2))] [] (gE Lx) I L e Q) : Wp 102 4 [(0, .ref 1), (1, .int (Int32.ofInt 2)), (2, .int (Int32.ofInt n)), (3, .int (Int32.ofInt 1))] [] (gE Lx) I L e Q := by
  have hj := hs.s 1 (by omega)
  have mi := hM 2 (by omega)
  have mj := hM 1 (by omega)
  refine s_102_4_2_1 ?_
  cases ho : sh 1 with
  | none =>
    have e0 : I 37 0 = Int32.ofInt 0 := hj.1 ho
    rw [e0]
    rw [ho, rkC_n, Int.add_zero] at nx
    exact j_0 nx
  | some cj =>
    have e0 : I 37 0 = Int32.ofInt 1 := (hj.2 cj ho).1
    have oi := hok 2 ci (by omega) hi
    have oj := hok 1 cj (by omega) ho
    rw [hi] at mi nx
    rw [ho] at mj nx
    rw [rkC_s] at nx
    rw [e0]
    refine j_1 ?_
    have yes : ahd (rkK a b cj) (rkK a b ci) → Wp 102 36 [(0, .ref 1), (1, .int (Int32.ofInt 2)), (2, .int (Int32.ofInt n)), (3, .int (Int32.ofInt 1))] [.int (Int32.ofInt 1)] (gE Lx) I L e Q := fun q => by
      rw [iP_t (Or.inl q)] at nx
      refine s_102_36_2_1 (j_1 ?_)
      rw [add32]
      exact nx
    have no : ¬ ahd (rkK a b cj) (rkK a b ci) → Wp 102 36 [(0, .ref 1), (1, .int (Int32.ofInt 2)), (2, .int (Int32.ofInt n)), (3, .int (Int32.ofInt 1))] [.int (Int32.ofInt 0)] (gE Lx) I L e Q := fun q => by
      refine s_102_36_2_1 (j_0 ?_)
      have y1 : ahd (rkK a b ci) (rkK a b cj) → Wp 102 59 [(0, .ref 1), (1, .int (Int32.ofInt 2)), (2, .int (Int32.ofInt n)), (3, .int (Int32.ofInt 1))] [.int (Int32.ofInt 1)] (gE Lx) I L e Q := fun z => by
        rw [iP_f (fun w => by rcases w with w | w; exact q w; exact w.2 z), Int.add_zero] at nx
        exact s_102_59_2_1 (j_1 nx)
      have y0 : ¬ ahd (rkK a b ci) (rkK a b cj) → Wp 102 59 [(0, .ref 1), (1, .int (Int32.ofInt 2)), (2, .int (Int32.ofInt n)), (3, .int (Int32.ofInt 1))] [.int (Int32.ofInt 0)] (gE Lx) I L e Q := fun z => by
        rw [iP_t (Or.inr ⟨by omega, z⟩)] at nx
        refine s_102_59_2_1 (j_0 ?_)
        rw [add32]
        exact nx
      exact n_63_2_1 (A := True) (pc := 0) (sp := 0) (ls := []) oi oj mi mj (fun z => ⟨kcp_v rfl (y1 z), trivial⟩) (fun z => kcp_v rfl (y0 z)) y1 y0
    exact n_63_1_2 (A := True) (pc := 0) (sp := 0) (ls := []) oj oi mj mi (fun z => ⟨kcp_v rfl (yes z), trivial⟩) (fun z => kcp_v rfl (no z)) yes no
theorem m_102_2_2 {ch : Ch} {sh : Nat → Option Ch} {a b : Int} (hok : ShOk sh) (hs : CSt I ch sh a b) (hM : ∀ k, k < 4 → MsAt I L a b k (sh k)) {ci : Ch} (hi : sh 2 = some ci) {n : Int} (nx : Wp 102 4 [(0, .ref 1), (1, .int (Int32.ofInt 2)), (2, .int (Int32.ofInt (n + rkC a b 2 2 (sh 2) (sh 2)))), (3, .int (Int32.ofInt 3))] [] (gE Lx) I L e Q) : Wp 102 4 [(0, .ref 1), (1, .int (Int32.ofInt 2)), (2, .int (Int32.ofInt n)), (3, .int (Int32.ofInt 2))] [] (gE Lx) I L e Q := by
  have hj := hs.s 2 (by omega)
  have mi := hM 2 (by omega)
  have mj := hM 2 (by omega)
  refine s_102_4_2_2 ?_
  have e0 : I 44 0 = Int32.ofInt 1 := (hj.2 ci hi).1
  have oi := hok 2 ci (by omega) hi
  rw [hi] at mi nx
  rw [rkC_s] at nx
  rw [e0]
  refine j_1 ?_
  have yes : ahd (rkK a b ci) (rkK a b ci) → Wp 102 36 [(0, .ref 1), (1, .int (Int32.ofInt 2)), (2, .int (Int32.ofInt n)), (3, .int (Int32.ofInt 2))] [.int (Int32.ofInt 1)] (gE Lx) I L e Q := fun q => by
    rw [iP_t (Or.inl q)] at nx
    refine s_102_36_2_2 (j_1 ?_)
    rw [add32]
    exact nx
  have no : ¬ ahd (rkK a b ci) (rkK a b ci) → Wp 102 36 [(0, .ref 1), (1, .int (Int32.ofInt 2)), (2, .int (Int32.ofInt n)), (3, .int (Int32.ofInt 2))] [.int (Int32.ofInt 0)] (gE Lx) I L e Q := fun q => by
    rw [iP_f (fun w => by rcases w with w | w; exact q w; exact absurd w.1 (by omega)), Int.add_zero] at nx
    exact s_102_36_2_2 (j_0 nx)
  exact n_63_2_2 (A := True) (pc := 0) (sp := 0) (ls := []) oi mi (fun z => ⟨kcp_v rfl (yes z), trivial⟩) (fun z => kcp_v rfl (no z)) yes no
theorem m_102_2_3 {ch : Ch} {sh : Nat → Option Ch} {a b : Int} (hok : ShOk sh) (hs : CSt I ch sh a b) (hM : ∀ k, k < 4 → MsAt I L a b k (sh k)) {ci : Ch} (hi : sh 2 = some ci) {n : Int} (nx : Wp 102 4 [(0, .ref 1), (1, .int (Int32.ofInt 2)), (2, .int (Int32.ofInt (n + rkC a b 2 3 (sh 2) (sh 3)))), (3, .int (Int32.ofInt 4))] [] (gE Lx) I L e Q) : Wp 102 4 [(0, .ref 1), (1, .int (Int32.ofInt 2)), (2, .int (Int32.ofInt n)), (3, .int (Int32.ofInt 3))] [] (gE Lx) I L e Q := by
  have hj := hs.s 3 (by omega)
  have mi := hM 2 (by omega)
  have mj := hM 3 (by omega)
  refine s_102_4_2_3 ?_
  cases ho : sh 3 with
  | none =>
    have e0 : I 51 0 = Int32.ofInt 0 := hj.1 ho
    rw [e0]
    rw [ho, rkC_n, Int.add_zero] at nx
    exact j_0 nx
  | some cj =>
    have e0 : I 51 0 = Int32.ofInt 1 := (hj.2 cj ho).1
    have oi := hok 2 ci (by omega) hi
    have oj := hok 3 cj (by omega) ho
    rw [hi] at mi nx
    rw [ho] at mj nx
    rw [rkC_s] at nx
    rw [e0]
    refine j_1 ?_
    have yes : ahd (rkK a b cj) (rkK a b ci) → Wp 102 36 [(0, .ref 1), (1, .int (Int32.ofInt 2)), (2, .int (Int32.ofInt n)), (3, .int (Int32.ofInt 3))] [.int (Int32.ofInt 1)] (gE Lx) I L e Q := fun q => by
      rw [iP_t (Or.inl q)] at nx
      refine s_102_36_2_3 (j_1 ?_)
      rw [add32]
      exact nx
    have no : ¬ ahd (rkK a b cj) (rkK a b ci) → Wp 102 36 [(0, .ref 1), (1, .int (Int32.ofInt 2)), (2, .int (Int32.ofInt n)), (3, .int (Int32.ofInt 3))] [.int (Int32.ofInt 0)] (gE Lx) I L e Q := fun q => by
      rw [iP_f (fun w => by rcases w with w | w; exact q w; exact absurd w.1 (by omega)), Int.add_zero] at nx
      exact s_102_36_2_3 (j_0 nx)
    exact n_63_3_2 (A := True) (pc := 0) (sp := 0) (ls := []) oj oi mj mi (fun z => ⟨kcp_v rfl (yes z), trivial⟩) (fun z => kcp_v rfl (no z)) yes no
theorem m_102_3_0 {ch : Ch} {sh : Nat → Option Ch} {a b : Int} (hok : ShOk sh) (hs : CSt I ch sh a b) (hM : ∀ k, k < 4 → MsAt I L a b k (sh k)) {ci : Ch} (hi : sh 3 = some ci) {n : Int} (nx : Wp 102 4 [(0, .ref 1), (1, .int (Int32.ofInt 3)), (2, .int (Int32.ofInt (n + rkC a b 3 0 (sh 3) (sh 0)))), (3, .int (Int32.ofInt 1))] [] (gE Lx) I L e Q) : Wp 102 4 [(0, .ref 1), (1, .int (Int32.ofInt 3)), (2, .int (Int32.ofInt n)), (3, .int (Int32.ofInt 0))] [] (gE Lx) I L e Q := by
  have hj := hs.s 0 (by omega)
  have mi := hM 3 (by omega)
  have mj := hM 0 (by omega)
  refine s_102_4_3_0 ?_
  cases ho : sh 0 with
  | none =>
    have e0 : I 30 0 = Int32.ofInt 0 := hj.1 ho
    rw [e0]
    rw [ho, rkC_n, Int.add_zero] at nx
    exact j_0 nx
  | some cj =>
    have e0 : I 30 0 = Int32.ofInt 1 := (hj.2 cj ho).1
    have oi := hok 3 ci (by omega) hi
    have oj := hok 0 cj (by omega) ho
    rw [hi] at mi nx
    rw [ho] at mj nx
    rw [rkC_s] at nx
    rw [e0]
    refine j_1 ?_
    have yes : ahd (rkK a b cj) (rkK a b ci) → Wp 102 36 [(0, .ref 1), (1, .int (Int32.ofInt 3)), (2, .int (Int32.ofInt n)), (3, .int (Int32.ofInt 0))] [.int (Int32.ofInt 1)] (gE Lx) I L e Q := fun q => by
      rw [iP_t (Or.inl q)] at nx
      refine s_102_36_3_0 (j_1 ?_)
      rw [add32]
      exact nx
    have no : ¬ ahd (rkK a b cj) (rkK a b ci) → Wp 102 36 [(0, .ref 1), (1, .int (Int32.ofInt 3)), (2, .int (Int32.ofInt n)), (3, .int (Int32.ofInt 0))] [.int (Int32.ofInt 0)] (gE Lx) I L e Q := fun q => by
      refine s_102_36_3_0 (j_0 ?_)
      have y1 : ahd (rkK a b ci) (rkK a b cj) → Wp 102 59 [(0, .ref 1), (1, .int (Int32.ofInt 3)), (2, .int (Int32.ofInt n)), (3, .int (Int32.ofInt 0))] [.int (Int32.ofInt 1)] (gE Lx) I L e Q := fun z => by
        rw [iP_f (fun w => by rcases w with w | w; exact q w; exact w.2 z), Int.add_zero] at nx
        exact s_102_59_3_0 (j_1 nx)
      have y0 : ¬ ahd (rkK a b ci) (rkK a b cj) → Wp 102 59 [(0, .ref 1), (1, .int (Int32.ofInt 3)), (2, .int (Int32.ofInt n)), (3, .int (Int32.ofInt 0))] [.int (Int32.ofInt 0)] (gE Lx) I L e Q := fun z => by
        rw [iP_t (Or.inr ⟨by omega, z⟩)] at nx
        refine s_102_59_3_0 (j_0 ?_)
        rw [add32]
        exact nx
      exact n_63_3_0 (A := True) (pc := 0) (sp := 0) (ls := []) oi oj mi mj (fun z => ⟨kcp_v rfl (y1 z), trivial⟩) (fun z => kcp_v rfl (y0 z)) y1 y0
    exact n_63_0_3 (A := True) (pc := 0) (sp := 0) (ls := []) oj oi mj mi (fun z => ⟨kcp_v rfl (yes z), trivial⟩) (fun z => kcp_v rfl (no z)) yes no
theorem m_102_3_1 {ch : Ch} {sh : Nat → Option Ch} {a b : Int} (hok : ShOk sh) (hs : CSt I ch sh a b) (hM : ∀ k, k < 4 → MsAt I L a b k (sh k)) {ci : Ch} (hi : sh 3 = some ci) {n : Int} (nx : Wp 102 4 [(0, .ref 1), (1, .int (Int32.ofInt 3)), (2, .int (Int32.ofInt (n + rkC a b 3 1 (sh 3) (sh 1)))), (3, .int (Int32.ofInt 2))] [] (gE Lx) I L e Q) : Wp 102 4 [(0, .ref 1), (1, .int (Int32.ofInt 3)), (2, .int (Int32.ofInt n)), (3, .int (Int32.ofInt 1))] [] (gE Lx) I L e Q := by
  have hj := hs.s 1 (by omega)
  have mi := hM 3 (by omega)
  have mj := hM 1 (by omega)
  refine s_102_4_3_1 ?_
  cases ho : sh 1 with
  | none =>
    have e0 : I 37 0 = Int32.ofInt 0 := hj.1 ho
    rw [e0]
    rw [ho, rkC_n, Int.add_zero] at nx
    exact j_0 nx
  | some cj =>
    have e0 : I 37 0 = Int32.ofInt 1 := (hj.2 cj ho).1
    have oi := hok 3 ci (by omega) hi
    have oj := hok 1 cj (by omega) ho
    rw [hi] at mi nx
    rw [ho] at mj nx
    rw [rkC_s] at nx
    rw [e0]
    refine j_1 ?_
    have yes : ahd (rkK a b cj) (rkK a b ci) → Wp 102 36 [(0, .ref 1), (1, .int (Int32.ofInt 3)), (2, .int (Int32.ofInt n)), (3, .int (Int32.ofInt 1))] [.int (Int32.ofInt 1)] (gE Lx) I L e Q := fun q => by
      rw [iP_t (Or.inl q)] at nx
      refine s_102_36_3_1 (j_1 ?_)
      rw [add32]
      exact nx
    have no : ¬ ahd (rkK a b cj) (rkK a b ci) → Wp 102 36 [(0, .ref 1), (1, .int (Int32.ofInt 3)), (2, .int (Int32.ofInt n)), (3, .int (Int32.ofInt 1))] [.int (Int32.ofInt 0)] (gE Lx) I L e Q := fun q => by
      refine s_102_36_3_1 (j_0 ?_)
      have y1 : ahd (rkK a b ci) (rkK a b cj) → Wp 102 59 [(0, .ref 1), (1, .int (Int32.ofInt 3)), (2, .int (Int32.ofInt n)), (3, .int (Int32.ofInt 1))] [.int (Int32.ofInt 1)] (gE Lx) I L e Q := fun z => by
        rw [iP_f (fun w => by rcases w with w | w; exact q w; exact w.2 z), Int.add_zero] at nx
        exact s_102_59_3_1 (j_1 nx)
      have y0 : ¬ ahd (rkK a b ci) (rkK a b cj) → Wp 102 59 [(0, .ref 1), (1, .int (Int32.ofInt 3)), (2, .int (Int32.ofInt n)), (3, .int (Int32.ofInt 1))] [.int (Int32.ofInt 0)] (gE Lx) I L e Q := fun z => by
        rw [iP_t (Or.inr ⟨by omega, z⟩)] at nx
        refine s_102_59_3_1 (j_0 ?_)
        rw [add32]
        exact nx
      exact n_63_3_1 (A := True) (pc := 0) (sp := 0) (ls := []) oi oj mi mj (fun z => ⟨kcp_v rfl (y1 z), trivial⟩) (fun z => kcp_v rfl (y0 z)) y1 y0
    exact n_63_1_3 (A := True) (pc := 0) (sp := 0) (ls := []) oj oi mj mi (fun z => ⟨kcp_v rfl (yes z), trivial⟩) (fun z => kcp_v rfl (no z)) yes no
theorem m_102_3_2 {ch : Ch} {sh : Nat → Option Ch} {a b : Int} (hok : ShOk sh) (hs : CSt I ch sh a b) (hM : ∀ k, k < 4 → MsAt I L a b k (sh k)) {ci : Ch} (hi : sh 3 = some ci) {n : Int} (nx : Wp 102 4 [(0, .ref 1), (1, .int (Int32.ofInt 3)), (2, .int (Int32.ofInt (n + rkC a b 3 2 (sh 3) (sh 2)))), (3, .int (Int32.ofInt 3))] [] (gE Lx) I L e Q) : Wp 102 4 [(0, .ref 1), (1, .int (Int32.ofInt 3)), (2, .int (Int32.ofInt n)), (3, .int (Int32.ofInt 2))] [] (gE Lx) I L e Q := by
  have hj := hs.s 2 (by omega)
  have mi := hM 3 (by omega)
  have mj := hM 2 (by omega)
  refine s_102_4_3_2 ?_
  cases ho : sh 2 with
  | none =>
    have e0 : I 44 0 = Int32.ofInt 0 := hj.1 ho
    rw [e0]
    rw [ho, rkC_n, Int.add_zero] at nx
    exact j_0 nx
  | some cj =>
    have e0 : I 44 0 = Int32.ofInt 1 := (hj.2 cj ho).1
    have oi := hok 3 ci (by omega) hi
    have oj := hok 2 cj (by omega) ho
    rw [hi] at mi nx
    rw [ho] at mj nx
    rw [rkC_s] at nx
    rw [e0]
    refine j_1 ?_
    have yes : ahd (rkK a b cj) (rkK a b ci) → Wp 102 36 [(0, .ref 1), (1, .int (Int32.ofInt 3)), (2, .int (Int32.ofInt n)), (3, .int (Int32.ofInt 2))] [.int (Int32.ofInt 1)] (gE Lx) I L e Q := fun q => by
      rw [iP_t (Or.inl q)] at nx
      refine s_102_36_3_2 (j_1 ?_)
      rw [add32]
      exact nx
    have no : ¬ ahd (rkK a b cj) (rkK a b ci) → Wp 102 36 [(0, .ref 1), (1, .int (Int32.ofInt 3)), (2, .int (Int32.ofInt n)), (3, .int (Int32.ofInt 2))] [.int (Int32.ofInt 0)] (gE Lx) I L e Q := fun q => by
      refine s_102_36_3_2 (j_0 ?_)
      have y1 : ahd (rkK a b ci) (rkK a b cj) → Wp 102 59 [(0, .ref 1), (1, .int (Int32.ofInt 3)), (2, .int (Int32.ofInt n)), (3, .int (Int32.ofInt 2))] [.int (Int32.ofInt 1)] (gE Lx) I L e Q := fun z => by
        rw [iP_f (fun w => by rcases w with w | w; exact q w; exact w.2 z), Int.add_zero] at nx
        exact s_102_59_3_2 (j_1 nx)
      have y0 : ¬ ahd (rkK a b ci) (rkK a b cj) → Wp 102 59 [(0, .ref 1), (1, .int (Int32.ofInt 3)), (2, .int (Int32.ofInt n)), (3, .int (Int32.ofInt 2))] [.int (Int32.ofInt 0)] (gE Lx) I L e Q := fun z => by
        rw [iP_t (Or.inr ⟨by omega, z⟩)] at nx
        refine s_102_59_3_2 (j_0 ?_)
        rw [add32]
        exact nx
      exact n_63_3_2 (A := True) (pc := 0) (sp := 0) (ls := []) oi oj mi mj (fun z => ⟨kcp_v rfl (y1 z), trivial⟩) (fun z => kcp_v rfl (y0 z)) y1 y0
    exact n_63_2_3 (A := True) (pc := 0) (sp := 0) (ls := []) oj oi mj mi (fun z => ⟨kcp_v rfl (yes z), trivial⟩) (fun z => kcp_v rfl (no z)) yes no
theorem m_102_3_3 {ch : Ch} {sh : Nat → Option Ch} {a b : Int} (hok : ShOk sh) (hs : CSt I ch sh a b) (hM : ∀ k, k < 4 → MsAt I L a b k (sh k)) {ci : Ch} (hi : sh 3 = some ci) {n : Int} (nx : Wp 102 4 [(0, .ref 1), (1, .int (Int32.ofInt 3)), (2, .int (Int32.ofInt (n + rkC a b 3 3 (sh 3) (sh 3)))), (3, .int (Int32.ofInt 4))] [] (gE Lx) I L e Q) : Wp 102 4 [(0, .ref 1), (1, .int (Int32.ofInt 3)), (2, .int (Int32.ofInt n)), (3, .int (Int32.ofInt 3))] [] (gE Lx) I L e Q := by
  have hj := hs.s 3 (by omega)
  have mi := hM 3 (by omega)
  have mj := hM 3 (by omega)
  refine s_102_4_3_3 ?_
  have e0 : I 51 0 = Int32.ofInt 1 := (hj.2 ci hi).1
  have oi := hok 3 ci (by omega) hi
  rw [hi] at mi nx
  rw [rkC_s] at nx
  rw [e0]
  refine j_1 ?_
  have yes : ahd (rkK a b ci) (rkK a b ci) → Wp 102 36 [(0, .ref 1), (1, .int (Int32.ofInt 3)), (2, .int (Int32.ofInt n)), (3, .int (Int32.ofInt 3))] [.int (Int32.ofInt 1)] (gE Lx) I L e Q := fun q => by
    rw [iP_t (Or.inl q)] at nx
    refine s_102_36_3_3 (j_1 ?_)
    rw [add32]
    exact nx
  have no : ¬ ahd (rkK a b ci) (rkK a b ci) → Wp 102 36 [(0, .ref 1), (1, .int (Int32.ofInt 3)), (2, .int (Int32.ofInt n)), (3, .int (Int32.ofInt 3))] [.int (Int32.ofInt 0)] (gE Lx) I L e Q := fun q => by
    rw [iP_f (fun w => by rcases w with w | w; exact q w; exact absurd w.1 (by omega)), Int.add_zero] at nx
    exact s_102_36_3_3 (j_0 nx)
  exact n_63_3_3 (A := True) (pc := 0) (sp := 0) (ls := []) oi mi (fun z => ⟨kcp_v rfl (yes z), trivial⟩) (fun z => kcp_v rfl (no z)) yes no
theorem c_102_0 {ch : Ch} {sh : Nat → Option Ch} {a b : Int} (hok : ShOk sh) (hs : CSt I ch sh a b) (hM : ∀ k, k < 4 → MsAt I L a b k (sh k)) {ci : Ch} (hi : sh 0 = some ci) (h : Q (.inl (some (.int (Int32.ofInt (rkT sh a b 0))))) (gE Lx) I L e) : Wp 102 0 [(0, .ref 1), (1, .int (Int32.ofInt 0))] [] (gE Lx) I L e Q :=
  s_102_0 (m_102_0_0 hok hs hM hi (m_102_0_1 hok hs hM hi (m_102_0_2 hok hs hM hi (m_102_0_3 hok hs hM hi (s_102_4_0_4 h)))))
theorem c_102_1 {ch : Ch} {sh : Nat → Option Ch} {a b : Int} (hok : ShOk sh) (hs : CSt I ch sh a b) (hM : ∀ k, k < 4 → MsAt I L a b k (sh k)) {ci : Ch} (hi : sh 1 = some ci) (h : Q (.inl (some (.int (Int32.ofInt (rkT sh a b 1))))) (gE Lx) I L e) : Wp 102 0 [(0, .ref 1), (1, .int (Int32.ofInt 1))] [] (gE Lx) I L e Q :=
  s_102_0 (m_102_1_0 hok hs hM hi (m_102_1_1 hok hs hM hi (m_102_1_2 hok hs hM hi (m_102_1_3 hok hs hM hi (s_102_4_1_4 h)))))
theorem c_102_2 {ch : Ch} {sh : Nat → Option Ch} {a b : Int} (hok : ShOk sh) (hs : CSt I ch sh a b) (hM : ∀ k, k < 4 → MsAt I L a b k (sh k)) {ci : Ch} (hi : sh 2 = some ci) (h : Q (.inl (some (.int (Int32.ofInt (rkT sh a b 2))))) (gE Lx) I L e) : Wp 102 0 [(0, .ref 1), (1, .int (Int32.ofInt 2))] [] (gE Lx) I L e Q :=
  s_102_0 (m_102_2_0 hok hs hM hi (m_102_2_1 hok hs hM hi (m_102_2_2 hok hs hM hi (m_102_2_3 hok hs hM hi (s_102_4_2_4 h)))))
theorem c_102_3 {ch : Ch} {sh : Nat → Option Ch} {a b : Int} (hok : ShOk sh) (hs : CSt I ch sh a b) (hM : ∀ k, k < 4 → MsAt I L a b k (sh k)) {ci : Ch} (hi : sh 3 = some ci) (h : Q (.inl (some (.int (Int32.ofInt (rkT sh a b 3))))) (gE Lx) I L e) : Wp 102 0 [(0, .ref 1), (1, .int (Int32.ofInt 3))] [] (gE Lx) I L e Q :=
  s_102_0 (m_102_3_0 hok hs hM hi (m_102_3_1 hok hs hM hi (m_102_3_2 hok hs hM hi (m_102_3_3 hok hs hM hi (s_102_4_3_4 h)))))
theorem m_100_0 {ch : Ch} {sh : Nat → Option Ch} {a b k : Int} (hok : ShOk sh) (hs : CSt I ch sh a b) (hM : ∀ k, k < 4 → MsAt I L a b k (sh k)) (hk : R32 k) (h : Q (.inl (some (.int (Int32.ofInt (rkF sh a b k 4 0))))) (gE Lx) I L e) (nx : Q (.inl (some (.int (Int32.ofInt (rkF sh a b k 3 1))))) (gE Lx) I L e → Wp 100 6 [(0, .ref 1), (1, .int (Int32.ofInt k)), (2, .int (Int32.ofInt 1))] [] (gE Lx) I L e Q) : Wp 100 6 [(0, .ref 1), (1, .int (Int32.ofInt k)), (2, .int (Int32.ofInt 0))] [] (gE Lx) I L e Q := by
  have hj := hs.s 0 (by omega)
  have h : Q (.inl (some (.int (Int32.ofInt (iP ((∃ c, sh 0 = some c) ∧ rkT sh a b 0 = k) ((0 : Nat) : Int) (rkF sh a b k 3 1)))))) (gE Lx) I L e := h
  refine s_100_6_0 ?_
  cases ho : sh 0 with
  | none =>
    have e0 : I 30 0 = Int32.ofInt 0 := hj.1 ho
    rw [e0]
    rw [iP_f (fun w => by obtain ⟨⟨c, hc⟩, -⟩ := w; rw [ho] at hc; cases hc)] at h
    exact j_0 (nx h)
  | some c =>
    have e0 : I 30 0 = Int32.ofInt 1 := (hj.2 c ho).1
    rw [e0]
    have r0 := rkC_b (l4 := a) (l5 := b) (i := 0) (j := 0) (a := sh 0) (b := sh 0)
    have r1 := rkC_b (l4 := a) (l5 := b) (i := 0) (j := 1) (a := sh 0) (b := sh 1)
    have r2 := rkC_b (l4 := a) (l5 := b) (i := 0) (j := 2) (a := sh 0) (b := sh 2)
    have r3 := rkC_b (l4 := a) (l5 := b) (i := 0) (j := 3) (a := sh 0) (b := sh 3)
    have rt : 0 ≤ rkT sh a b 0 ∧ rkT sh a b 0 ≤ 4 := by unfold rkT; omega
    refine j_1 (c_102_0 hok hs hM ho (kcp_v rfl (s_100_28_0 (i_eq32 (by omega) hk (fun q => ?_) (fun q => nx ?_)))))
    · rw [iP_t ⟨⟨c, ho⟩, q⟩] at h
      exact h
    · rw [iP_f (fun w => q w.2)] at h
      exact h
theorem m_100_1 {ch : Ch} {sh : Nat → Option Ch} {a b k : Int} (hok : ShOk sh) (hs : CSt I ch sh a b) (hM : ∀ k, k < 4 → MsAt I L a b k (sh k)) (hk : R32 k) (h : Q (.inl (some (.int (Int32.ofInt (rkF sh a b k 3 1))))) (gE Lx) I L e) (nx : Q (.inl (some (.int (Int32.ofInt (rkF sh a b k 2 2))))) (gE Lx) I L e → Wp 100 6 [(0, .ref 1), (1, .int (Int32.ofInt k)), (2, .int (Int32.ofInt 2))] [] (gE Lx) I L e Q) : Wp 100 6 [(0, .ref 1), (1, .int (Int32.ofInt k)), (2, .int (Int32.ofInt 1))] [] (gE Lx) I L e Q := by
  have hj := hs.s 1 (by omega)
  have h : Q (.inl (some (.int (Int32.ofInt (iP ((∃ c, sh 1 = some c) ∧ rkT sh a b 1 = k) ((1 : Nat) : Int) (rkF sh a b k 2 2)))))) (gE Lx) I L e := h
  refine s_100_6_1 ?_
  cases ho : sh 1 with
  | none =>
    have e0 : I 37 0 = Int32.ofInt 0 := hj.1 ho
    rw [e0]
    rw [iP_f (fun w => by obtain ⟨⟨c, hc⟩, -⟩ := w; rw [ho] at hc; cases hc)] at h
    exact j_0 (nx h)
  | some c =>
    have e0 : I 37 0 = Int32.ofInt 1 := (hj.2 c ho).1
    rw [e0]
    have r0 := rkC_b (l4 := a) (l5 := b) (i := 1) (j := 0) (a := sh 1) (b := sh 0)
    have r1 := rkC_b (l4 := a) (l5 := b) (i := 1) (j := 1) (a := sh 1) (b := sh 1)
    have r2 := rkC_b (l4 := a) (l5 := b) (i := 1) (j := 2) (a := sh 1) (b := sh 2)
    have r3 := rkC_b (l4 := a) (l5 := b) (i := 1) (j := 3) (a := sh 1) (b := sh 3)
    have rt : 0 ≤ rkT sh a b 1 ∧ rkT sh a b 1 ≤ 4 := by unfold rkT; omega
    refine j_1 (c_102_1 hok hs hM ho (kcp_v rfl (s_100_28_1 (i_eq32 (by omega) hk (fun q => ?_) (fun q => nx ?_)))))
    · rw [iP_t ⟨⟨c, ho⟩, q⟩] at h
      exact h
    · rw [iP_f (fun w => q w.2)] at h
      exact h
theorem m_100_2 {ch : Ch} {sh : Nat → Option Ch} {a b k : Int} (hok : ShOk sh) (hs : CSt I ch sh a b) (hM : ∀ k, k < 4 → MsAt I L a b k (sh k)) (hk : R32 k) (h : Q (.inl (some (.int (Int32.ofInt (rkF sh a b k 2 2))))) (gE Lx) I L e) (nx : Q (.inl (some (.int (Int32.ofInt (rkF sh a b k 1 3))))) (gE Lx) I L e → Wp 100 6 [(0, .ref 1), (1, .int (Int32.ofInt k)), (2, .int (Int32.ofInt 3))] [] (gE Lx) I L e Q) : Wp 100 6 [(0, .ref 1), (1, .int (Int32.ofInt k)), (2, .int (Int32.ofInt 2))] [] (gE Lx) I L e Q := by
  have hj := hs.s 2 (by omega)
  have h : Q (.inl (some (.int (Int32.ofInt (iP ((∃ c, sh 2 = some c) ∧ rkT sh a b 2 = k) ((2 : Nat) : Int) (rkF sh a b k 1 3)))))) (gE Lx) I L e := h
  refine s_100_6_2 ?_
  cases ho : sh 2 with
  | none =>
    have e0 : I 44 0 = Int32.ofInt 0 := hj.1 ho
    rw [e0]
    rw [iP_f (fun w => by obtain ⟨⟨c, hc⟩, -⟩ := w; rw [ho] at hc; cases hc)] at h
    exact j_0 (nx h)
  | some c =>
    have e0 : I 44 0 = Int32.ofInt 1 := (hj.2 c ho).1
    rw [e0]
    have r0 := rkC_b (l4 := a) (l5 := b) (i := 2) (j := 0) (a := sh 2) (b := sh 0)
    have r1 := rkC_b (l4 := a) (l5 := b) (i := 2) (j := 1) (a := sh 2) (b := sh 1)
    have r2 := rkC_b (l4 := a) (l5 := b) (i := 2) (j := 2) (a := sh 2) (b := sh 2)
    have r3 := rkC_b (l4 := a) (l5 := b) (i := 2) (j := 3) (a := sh 2) (b := sh 3)
    have rt : 0 ≤ rkT sh a b 2 ∧ rkT sh a b 2 ≤ 4 := by unfold rkT; omega
    refine j_1 (c_102_2 hok hs hM ho (kcp_v rfl (s_100_28_2 (i_eq32 (by omega) hk (fun q => ?_) (fun q => nx ?_)))))
    · rw [iP_t ⟨⟨c, ho⟩, q⟩] at h
      exact h
    · rw [iP_f (fun w => q w.2)] at h
      exact h
theorem m_100_3 {ch : Ch} {sh : Nat → Option Ch} {a b k : Int} (hok : ShOk sh) (hs : CSt I ch sh a b) (hM : ∀ k, k < 4 → MsAt I L a b k (sh k)) (hk : R32 k) (h : Q (.inl (some (.int (Int32.ofInt (rkF sh a b k 1 3))))) (gE Lx) I L e) (nx : Q (.inl (some (.int (Int32.ofInt (rkF sh a b k 0 4))))) (gE Lx) I L e → Wp 100 6 [(0, .ref 1), (1, .int (Int32.ofInt k)), (2, .int (Int32.ofInt 4))] [] (gE Lx) I L e Q) : Wp 100 6 [(0, .ref 1), (1, .int (Int32.ofInt k)), (2, .int (Int32.ofInt 3))] [] (gE Lx) I L e Q := by
  have hj := hs.s 3 (by omega)
  have h : Q (.inl (some (.int (Int32.ofInt (iP ((∃ c, sh 3 = some c) ∧ rkT sh a b 3 = k) ((3 : Nat) : Int) (rkF sh a b k 0 4)))))) (gE Lx) I L e := h
  refine s_100_6_3 ?_
  cases ho : sh 3 with
  | none =>
    have e0 : I 51 0 = Int32.ofInt 0 := hj.1 ho
    rw [e0]
    rw [iP_f (fun w => by obtain ⟨⟨c, hc⟩, -⟩ := w; rw [ho] at hc; cases hc)] at h
    exact j_0 (nx h)
  | some c =>
    have e0 : I 51 0 = Int32.ofInt 1 := (hj.2 c ho).1
    rw [e0]
    have r0 := rkC_b (l4 := a) (l5 := b) (i := 3) (j := 0) (a := sh 3) (b := sh 0)
    have r1 := rkC_b (l4 := a) (l5 := b) (i := 3) (j := 1) (a := sh 3) (b := sh 1)
    have r2 := rkC_b (l4 := a) (l5 := b) (i := 3) (j := 2) (a := sh 3) (b := sh 2)
    have r3 := rkC_b (l4 := a) (l5 := b) (i := 3) (j := 3) (a := sh 3) (b := sh 3)
    have rt : 0 ≤ rkT sh a b 3 ∧ rkT sh a b 3 ≤ 4 := by unfold rkT; omega
    refine j_1 (c_102_3 hok hs hM ho (kcp_v rfl (s_100_28_3 (i_eq32 (by omega) hk (fun q => ?_) (fun q => nx ?_)))))
    · rw [iP_t ⟨⟨c, ho⟩, q⟩] at h
      exact h
    · rw [iP_f (fun w => q w.2)] at h
      exact h
theorem c_100 {ch : Ch} {sh : Nat → Option Ch} {a b k : Int} (hok : ShOk sh) (hs : CSt I ch sh a b) (hk : R32 k) (h : ∀ I' L', FrI cS I I' → Q (.inl (some (.int (Int32.ofInt (spRank sh a b k))))) (gE Lx) I' L' e) : Wp 100 0 [(0, .ref 1), (1, .int (Int32.ofInt k))] [] (gE Lx) I L e Q := by
  refine s_100_0 (c_101 hok hs (fun I1 L1 hf1 hM => kcp_v rfl (s_100_4 ?_)))
  have s1 : CSt I1 ch sh a b := hs.f hf1
  exact m_100_0 hok s1 hM hk (h I1 L1 hf1) (fun h1 => m_100_1 hok s1 hM hk h1 (fun h2 => m_100_2 hok s1 hM hk h2 (fun h3 => m_100_3 hok s1 hM hk h3 (fun h4 => s_100_6_4 h4))))
end
