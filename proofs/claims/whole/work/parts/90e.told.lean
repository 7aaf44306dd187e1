/-! What a way of the pair tells, on the class' side. -/
theorem red2 {n d : Int} (h : ¬ (n = 0 ∧ d = 0)) : ∃ g, g ≠ 0 ∧ n = g * fU n d ∧ d = g * fL n d := by
  have hg := gI_pos h
  have e1 := Int.mul_ediv_cancel' (gI_dl n d)
  have e2 := Int.mul_ediv_cancel' (gI_dr n d)
  rcases Int.lt_trichotomy d 0 with k | k | k
  · refine ⟨-gI n d, by omega, ?_, ?_⟩
    · unfold fU
      rw [if_neg h, if_pos (Or.inl k), Int.neg_mul_neg, e1]
    · unfold fL
      rw [if_neg h, if_pos k, Int.neg_mul_neg, e2]
  · by_cases kn : n < 0
    · refine ⟨-gI n d, by omega, ?_, ?_⟩
      · unfold fU
        rw [if_neg h, if_pos (Or.inr ⟨k, kn⟩), Int.neg_mul_neg, e1]
      · unfold fL
        rw [if_neg h, if_neg (by omega), Int.neg_mul, e2, k]
        rfl
    · refine ⟨gI n d, by omega, ?_, ?_⟩
      · unfold fU
        rw [if_neg h, if_neg (by omega), e1]
      · unfold fL
        rw [if_neg h, if_neg (by omega), e2]
  · refine ⟨gI n d, by omega, ?_, ?_⟩
    · unfold fU
      rw [if_neg h, if_neg (by omega), e1]
    · unfold fL
      rw [if_neg h, if_neg (by omega), e2]
theorem fU_sm {k a b : Int} (hk : k ≠ 0) : fU (k * a) (k * b) = fU a b := by
  rcases Int.lt_trichotomy k 0 with q | q | q
  · have e1 : k * a = -((-k) * a) := by rw [Int.neg_mul, Int.neg_neg]
    have e2 : k * b = -((-k) * b) := by rw [Int.neg_mul, Int.neg_neg]
    rw [e1, e2, fU_neg, fU_mul (by omega)]
  · exact absurd q hk
  · exact fU_mul q
theorem fL_sm {k a b : Int} (hk : k ≠ 0) : fL (k * a) (k * b) = fL a b := by
  rcases Int.lt_trichotomy k 0 with q | q | q
  · have e1 : k * a = -((-k) * a) := by rw [Int.neg_mul, Int.neg_neg]
    have e2 : k * b = -((-k) * b) := by rw [Int.neg_mul, Int.neg_neg]
    rw [e1, e2, fL_neg, fL_mul (by omega)]
  · exact absurd q hk
  · exact fL_mul q
def wI (al : Int) (z : Pt) : Int := if al = 0 then -z.2.1 * z.2.2 else z.2.1
/-- the root with its sign, for the k-th way -/
def eR (k x r : Int) : Int := if (k = 0 ↔ 0 < x) then -r else r
theorem eR_mul {g k x r : Int} : eR k x (g * r) = g * eR k x r := by
  unfold eR
  split
  · rw [Int.mul_neg]
  · rfl
theorem eR_b {k x r B : Int} (h : 0 ≤ r ∧ r ≤ B) : -B ≤ eR k x r ∧ eR k x r ≤ B := by
  unfold eR
  split <;> omega
def tlN (k se x y n d w r : Int) : Int × Int := if se = 0 then (d * y + eR k x r - w * x, d * x) else (n * y + eR k x r, n * x)
noncomputable def plV (al x y : Int) (z : Pt) : Int := lay (rlN al z).1 (rlN al z).2 x y
noncomputable def tlZ (k se al x y : Int) (z : Pt) : Int × Int := tlN k se x y (rlN al z).1 (rlN al z).2 (wI al z) (prR (plV al x y z))
noncomputable def fPair (c : Nat) (al x y k se lo : Int) (z : Pt) : Nat × Int := if 0 ≤ k ∧ k < fWay al x y z then iP (prS (plV al x y z)) (0, told lo (fU (tlZ k se al x y z).1 (tlZ k se al x y z).2) (fL (tlZ k se al x y z).1 (tlZ k se al x y z).2)) (c, 0) else (c, 0)
theorem wI_b {al : Int} {z : Pt} (ho : PtOk z) : -1000000 ≤ wI al z ∧ wI al z ≤ 1000000 := by
  obtain ⟨o1, o2, o3⟩ := ho
  unfold wI
  split
  · have := mulB (x := -z.2.1) (y := z.2.2) (A := 1000) (B := 1000) (by omega) (by omega)
    omega
  · omega
theorem plV_b {al x y : Int} {z : Pt} (ho : PtOk z) (hnn : ¬ (al = 0 ∧ z.1 = 0 ∧ z.2.1 = 0)) (hx : -12 ≤ x ∧ x ≤ 12) (hy : -12 ≤ y ∧ y ≤ 12) : -4000000000000000 ≤ plV al x y z ∧ plV al x y z ≤ 4000000000000000 := by
  obtain ⟨q1, q2, q3⟩ := rl_b ho hnn
  exact lay_b (by omega) (by omega) hx hy
theorem prR_c {u : Int} (h : u ≤ 4000000000000000) : 0 ≤ prR u ∧ prR u ≤ 70000000 := by
  unfold prR
  split
  · omega
  · have q := rt_sp (v := u) (by omega)
    have := q.1
    have := q.b (B := 70000000) (by omega) (by omega)
    omega
section
variable {Lx : Nat} {I : Mi} {L : Ml} {e : Nat} {Q : Kq}
set_option maxHeartbeats 4000000 in
theorem n_tp {al x y k se lo : Int} {z : Pt} (ho : PtOk z) (hnn : ¬ (al = 0 ∧ z.1 = 0 ∧ z.2.1 = 0)) (hx : -12 ≤ x ∧ x ≤ 12) (hy : -12 ≤ y ∧ y ≤ 12) (hk : R32 k) (hse : R32 se) (hlo : R32 lo) (hp : PrAt I L al x y z) {A : Prop}
    (hA : ¬ (0 ≤ k ∧ k < fWay al x y z ∧ prS (plV al x y z)) → A)
    (hQ : 0 ≤ k → k < fWay al x y z → prS (plV al x y z) → ∀ L', Q (.inl (some (.long (Int64.ofInt (told lo (fU (tlZ k se al x y z).1 (tlZ k se al x y z).2) (fL (tlZ k se al x y z).1 (tlZ k se al x y z).2)))))) (gE Lx) I L' e) :
    (if (Int32.ofInt k) < 0 then
     A
    else
     (if (Int32.ofInt k) < (I 20 0) then
      (if (I 20 1) = 0 then
       A
      else
       (if (Int32.ofInt se) = 0 then
        (if (Int32.ofInt k) = 0 then
         (if (Int64.ofInt 0) < (L 20 6) then
          Wp 25 0 [(0, .ref 18), (1, .long ((((L 20 3) * (L 20 7)) + (-(L 20 5))) - ((L 20 4) * (L 20 6)))), (3, .long ((L 20 3) * (L 20 6)))] [] (gE Lx) I L e (kcp (Wp 37) 37 35 0 [(0, .ref 20), (2, .ref 18)] 71 [] (kcp (Wp 154) 154 61 0 [(0, .ref 1), (3, .int (Int32.ofInt lo))] 71 [] Q))
         else
          Wp 25 0 [(0, .ref 18), (1, .long ((((L 20 3) * (L 20 7)) + (L 20 5)) - ((L 20 4) * (L 20 6)))), (3, .long ((L 20 3) * (L 20 6)))] [] (gE Lx) I L e (kcp (Wp 37) 37 35 0 [(0, .ref 20), (2, .ref 18)] 71 [] (kcp (Wp 154) 154 61 0 [(0, .ref 1), (3, .int (Int32.ofInt lo))] 71 [] Q)))
        else
         (if (Int64.ofInt 0) < (L 20 6) then
          Wp 25 0 [(0, .ref 18), (1, .long ((((L 20 3) * (L 20 7)) + (L 20 5)) - ((L 20 4) * (L 20 6)))), (3, .long ((L 20 3) * (L 20 6)))] [] (gE Lx) I L e (kcp (Wp 37) 37 35 0 [(0, .ref 20), (2, .ref 18)] 71 [] (kcp (Wp 154) 154 61 0 [(0, .ref 1), (3, .int (Int32.ofInt lo))] 71 [] Q))
         else
          Wp 25 0 [(0, .ref 18), (1, .long ((((L 20 3) * (L 20 7)) + (-(L 20 5))) - ((L 20 4) * (L 20 6)))), (3, .long ((L 20 3) * (L 20 6)))] [] (gE Lx) I L e (kcp (Wp 37) 37 35 0 [(0, .ref 20), (2, .ref 18)] 71 [] (kcp (Wp 154) 154 61 0 [(0, .ref 1), (3, .int (Int32.ofInt lo))] 71 [] Q))))
       else
        (if (Int32.ofInt k) = 0 then
         (if (Int64.ofInt 0) < (L 20 6) then
          Wp 25 0 [(0, .ref 18), (1, .long (((L 20 2) * (L 20 7)) + (-(L 20 5)))), (3, .long ((L 20 2) * (L 20 6)))] [] (gE Lx) I L e (kcp (Wp 35) 35 25 0 [(0, .ref 20), (2, .ref 18)] 71 [] (kcp (Wp 154) 154 46 0 [(0, .ref 1), (3, .int (Int32.ofInt lo))] 71 [] Q))
         else
          Wp 25 0 [(0, .ref 18), (1, .long (((L 20 2) * (L 20 7)) + (L 20 5))), (3, .long ((L 20 2) * (L 20 6)))] [] (gE Lx) I L e (kcp (Wp 35) 35 25 0 [(0, .ref 20), (2, .ref 18)] 71 [] (kcp (Wp 154) 154 46 0 [(0, .ref 1), (3, .int (Int32.ofInt lo))] 71 [] Q)))
        else
         (if (Int64.ofInt 0) < (L 20 6) then
          Wp 25 0 [(0, .ref 18), (1, .long (((L 20 2) * (L 20 7)) + (L 20 5))), (3, .long ((L 20 2) * (L 20 6)))] [] (gE Lx) I L e (kcp (Wp 35) 35 25 0 [(0, .ref 20), (2, .ref 18)] 71 [] (kcp (Wp 154) 154 46 0 [(0, .ref 1), (3, .int (Int32.ofInt lo))] 71 [] Q))
         else
          Wp 25 0 [(0, .ref 18), (1, .long (((L 20 2) * (L 20 7)) + (-(L 20 5)))), (3, .long ((L 20 2) * (L 20 6)))] [] (gE Lx) I L e (kcp (Wp 35) 35 25 0 [(0, .ref 20), (2, .ref 18)] 71 [] (kcp (Wp 154) 154 46 0 [(0, .ref 1), (3, .int (Int32.ofInt lo))] 71 [] Q))))))
     else
      A)) := by
  obtain ⟨h2, h3, h4, h5, h6, h7, h0, h1⟩ := hp
  obtain ⟨q1, q2, q3⟩ := rl_b ho hnn
  have wb : -1000000 ≤ (if al = 0 then -z.2.1 * z.2.2 else z.2.1) ∧ (if al = 0 then -z.2.1 * z.2.2 else z.2.1) ≤ 1000000 := wI_b ho
  have pb := plV_b (x := x) (y := y) ho hnn hx hy
  have rb := prR_c pb.2
  have hr := wayN_r (rlN al z).1 (lay (rlN al z).1 (rlN al z).2 x y)
  have ew : fWay al x y z = wayN (rlN al z).1 (lay (rlN al z).1 (rlN al z).2 x y) := rfl
  have ev : plV al x y z = lay (rlN al z).1 (rlN al z).2 x y := rfl
  unfold tlZ tlN wI at hQ
  rw [ew] at hA hQ
  rw [ev] at hA hQ rb
  rw [h0, h2, h3, h4, h5, h6, h7]
  generalize (if al = 0 then -z.2.1 * z.2.2 else z.2.1) = w at *
  generalize lay (rlN al z).1 (rlN al z).2 x y = u at *
  generalize wayN (rlN al z).1 u = c at *
  generalize (rlN al z).1 = n at *
  generalize (rlN al z).2 = d at *
  have m1 := mulB (x := d) (y := y) (A := 2000000) (B := 12) (by omega) hy
  have m2 := mulB (x := d) (y := x) (A := 2000000) (B := 12) (by omega) hx
  have m3 := mulB (x := n) (y := y) (A := 2000000) (B := 12) (by omega) hy
  have m4 := mulB (x := n) (y := x) (A := 2000000) (B := 12) (by omega) hx
  have m5 := mulB (x := w) (y := x) (A := 1000000) (B := 12) (by omega) hx
  simp only [mul64, add64, sub64, neg64]
  have one : ∀ (s : Int), eR k x (prR u) = s → (s = prR u ∨ s = -prR u) → se = 0 → 0 ≤ k → k < c → prS u → Wp 25 0 [(0, .ref 18), (1, .long (Int64.ofInt (d * y + s - w * x))), (3, .long (Int64.ofInt (d * x)))] [] (gE Lx) I L e (kcp (Wp 37) 37 35 0 [(0, .ref 20), (2, .ref 18)] 71 [] (kcp (Wp 154) 154 61 0 [(0, .ref 1), (3, .int (Int32.ofInt lo))] 71 [] Q)) := by
    intro s hs hss k1 k2 k3 k4
    have hq := hQ k2 k3 k4
    rw [if_pos k1, hs] at hq
    refine c_25 (Or.inl rfl) (by omega) (by omega) (fun L2 hf2 hv2 => kcp_v rfl (s_37_38 (kcp_v rfl (s_154_64 ?_))))
    rw [hv2.1, hv2.2]
    unfold told at hq
    refine i_eqz hlo (fun k0 => ?_) (fun k0 => ?_)
    · rw [if_pos k0] at hq; exact hq _
    · rw [if_neg k0] at hq; exact hq _
  have two : ∀ (s : Int), eR k x (prR u) = s → (s = prR u ∨ s = -prR u) → se ≠ 0 → 0 ≤ k → k < c → prS u → Wp 25 0 [(0, .ref 18), (1, .long (Int64.ofInt (n * y + s))), (3, .long (Int64.ofInt (n * x)))] [] (gE Lx) I L e (kcp (Wp 35) 35 25 0 [(0, .ref 20), (2, .ref 18)] 71 [] (kcp (Wp 154) 154 46 0 [(0, .ref 1), (3, .int (Int32.ofInt lo))] 71 [] Q)) := by
    intro s hs hss k1 k2 k3 k4
    have hq := hQ k2 k3 k4
    rw [if_neg k1, hs] at hq
    refine c_25 (Or.inl rfl) (by omega) (by omega) (fun L2 hf2 hv2 => kcp_v rfl (s_35_28 (kcp_v rfl (s_154_49 (s_154_64 ?_)))))
    rw [hv2.1, hv2.2]
    unfold told at hq
    refine i_eqz hlo (fun k0 => ?_) (fun k0 => ?_)
    · rw [if_pos k0] at hq; exact hq _
    · rw [if_neg k0] at hq; exact hq _
  have eP : k = 0 → 0 < x → eR k x (prR u) = -prR u := fun a b => if_pos ⟨fun _ => b, fun _ => a⟩
  have eN : k = 0 → ¬ 0 < x → eR k x (prR u) = prR u := fun a b => if_neg (fun q => b (q.mp a))
  have oP : k ≠ 0 → 0 < x → eR k x (prR u) = prR u := fun a b => if_neg (fun q => a (q.mpr b))
  have oN : k ≠ 0 → ¬ 0 < x → eR k x (prR u) = -prR u := fun a b => if_pos ⟨fun q => absurd q a, fun q => absurd q b⟩
  refine i_ltz hk (fun k1 => hA (fun q => by omega)) (fun k1 => i_lt32 hk (by omega) (fun k2 => ?_) (fun k2 => hA (fun q => by omega)))
  rcases h1 with ⟨s1, s2⟩ | ⟨s1, s2⟩
  · rw [s1]
    refine j_1 (i_eqz hse (fun k3 => i_eqz hk (fun k4 => i_lt64 (by omega) (by omega) (fun k5 => one _ (eP k4 k5) (Or.inr rfl) k3 k1 k2 s2) (fun k5 => one _ (eN k4 (by omega)) (Or.inl rfl) k3 k1 k2 s2)) (fun k4 => i_lt64 (by omega) (by omega) (fun k5 => one _ (oP k4 k5) (Or.inl rfl) k3 k1 k2 s2) (fun k5 => one _ (oN k4 (by omega)) (Or.inr rfl) k3 k1 k2 s2)))
      (fun k3 => i_eqz hk (fun k4 => i_lt64 (by omega) (by omega) (fun k5 => two _ (eP k4 k5) (Or.inr rfl) k3 k1 k2 s2) (fun k5 => two _ (eN k4 (by omega)) (Or.inl rfl) k3 k1 k2 s2)) (fun k4 => i_lt64 (by omega) (by omega) (fun k5 => two _ (oP k4 k5) (Or.inl rfl) k3 k1 k2 s2) (fun k5 => two _ (oN k4 (by omega)) (Or.inr rfl) k3 k1 k2 s2))))
  · rw [s1]
    exact j_0 (hA (fun q => s2 q.2.2))
end
