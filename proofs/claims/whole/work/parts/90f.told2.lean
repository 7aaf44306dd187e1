/-! What a way of the pair tells, on the other side. -/
theorem tl_eq {n d g G B x y w e u l a b : Int} (hg : 0 < g) (hn : n = g * G) (hd : d = g * B) (hB : 0 < B) (hx : x ≠ 0) (ha : a = fU (B * y + e) (B * x)) (hb : b = fL (B * y + e) (B * x)) (hu : u = fU w d) (hl : l = fL w d) :
    fU (a * l - u * b) (b * l) = fU (d * y + g * e - w * x) (d * x) ∧ fL (a * l - u * b) (b * l) = fL (d * y + g * e - w * x) (d * x) ∧ b * l ≠ 0 := by
  have hBx : B * x ≠ 0 := Int.mul_ne_zero (by omega) hx
  have hd0 : d ≠ 0 := by rw [hd]; exact Int.mul_ne_zero (by omega) (by omega)
  obtain ⟨h, h0, e1, e2⟩ := red2 (n := B * y + e) (d := B * x) (fun k => hBx k.2)
  obtain ⟨t, t0, e3, e4⟩ := red2 (n := w) (d := d) (fun k => hd0 k.2)
  rw [← ha] at e1; rw [← hb] at e2; rw [← hu] at e3; rw [← hl] at e4
  have hht : h * t ≠ 0 := Int.mul_ne_zero h0 t0
  have E1 : h * t * (a * l - u * b) = B * (d * y + g * e - w * x) := by
    have : h * t * (a * l - u * b) = (h * a) * (t * l) - (t * u) * (h * b) := by grind
    rw [this, ← e1, ← e2, ← e3, ← e4, hd]
    grind
  have E2 : h * t * (b * l) = B * (d * x) := by
    have : h * t * (b * l) = (h * b) * (t * l) := by grind
    rw [this, ← e2, ← e4]
    grind
  refine ⟨?_, ?_, ?_⟩
  · rw [← fU_sm hht, E1, E2, fU_sm (by omega)]
  · rw [← fL_sm hht, E1, E2, fL_sm (by omega)]
  · intro k
    rw [k, Int.mul_zero] at E2
    exact Int.mul_ne_zero (by omega) (Int.mul_ne_zero hd0 hx) E2.symm
section
variable {Lx : Nat} {I : Mi} {L : Ml} {e : Nat} {Q : Kq}
set_option maxHeartbeats 4000000 in
theorem c_287 {al x y k se : Int} (hal : R32 al) (hx : -12 ≤ x ∧ x ≤ 12) (hy : -12 ≤ y ∧ y ≤ 12) (hx0 : x ≠ 0) (hk : R32 k) (hse : R32 se) {z : Pt} (ho : PtOk z) (hnn : ¬ (al = 0 ∧ z.1 = 0 ∧ z.2.1 = 0)) (hp : RpAt L z)
    (h21 : L 58 21 = .ofInt (fU (rlN al z).1 (rlN al z).2)) (h22 : L 58 22 = .ofInt (fL (rlN al z).1 (rlN al z).2)) (h23 : L 58 23 = .ofInt (lay (fU (rlN al z).1 (rlN al z).2) (fL (rlN al z).1 (rlN al z).2) x y))
    (hG : fU (rlN al z).1 (rlN al z).2 ≠ 0) (hnn2 : 0 ≤ lay (fU (rlN al z).1 (rlN al z).2) (fL (rlN al z).1 (rlN al z).2) x y) (hs : prS (plV al x y z))
    (h : ∀ L', FrL [(58, 8, 2)] L L' → L' 58 8 = .ofInt (fU (tlZ k se al x y z).1 (tlZ k se al x y z).2) → L' 58 9 = .ofInt (fL (tlZ k se al x y z).1 (tlZ k se al x y z).2) → Q (.inl none) (gE Lx) I L' e) :
    Wp 287 0 [(0, .ref 58), (1, .int (Int32.ofInt al)), (2, .int (Int32.ofInt x)), (3, .int (Int32.ofInt y)), (4, .int (Int32.ofInt k)), (5, .int (Int32.ofInt se))] [] (gE Lx) I L e Q := by
  obtain ⟨p0, p1, p2⟩ := id hp
  obtain ⟨q1, q2, q3⟩ := rl_b ho hnn
  have fb := fUL_b (B := 2000000) q3 (by omega) (by omega)
  have lb := lay_b (x := x) (y := y) fb.1 fb.2 hx hy
  obtain ⟨g, hg, r1, r2⟩ := red q1.1 q2.1 q3
  have hd0 : (rlN al z).2 ≠ 0 := by
    obtain ⟨o1, o2, o3⟩ := ho
    unfold rlN
    split
    · have := sq2_pos (x := z.1) (y := z.2.1) (by omega)
      show z.1 * z.1 + z.2.1 * z.2.1 ≠ 0
      omega
    · show z.2.2 ≠ 0
      omega
  have hBn := fL_nn (rlN al z).1 (rlN al z).2
  have hB0 : fL (rlN al z).1 (rlN al z).2 ≠ 0 := fun q => by rw [q, Int.mul_zero] at r2; exact hd0 r2
  have eL : plV al x y z = g * g * lay (fU (rlN al z).1 (rlN al z).2) (fL (rlN al z).1 (rlN al z).2) x y := by
    unfold plV
    rw [← lay_k, ← r1, ← r2]
  rw [eL] at hs
  have hs2 := (prS_k hg).mp hs
  have er := (prR_k hg hs2).2
  have ww : ∃ w, wI al z = w := ⟨_, rfl⟩
  obtain ⟨w, hw⟩ := ww
  have wb := wI_b (al := al) ho
  unfold tlZ tlN at h
  rw [eL, er, eR_mul, hw] at h
  rw [hw] at wb
  have hrl : ∀ L1 : Ml, L1 58 14 = L 58 14 → L1 58 15 = L 58 15 → L1 58 16 = L 58 16 → (al = 0 → ((-(L1 58 15)) * (L1 58 16)) = .ofInt w ∧ (((L1 58 14) * (L1 58 14)) + ((L1 58 15) * (L1 58 15))) = .ofInt (rlN al z).2) ∧ (al ≠ 0 → L1 58 15 = .ofInt w ∧ L1 58 16 = .ofInt (rlN al z).2) := by
    intro L1 a1 a2 a3
    rw [a1, a2, a3, p0, p1, p2]
    unfold wI at hw
    unfold rlN
    refine ⟨fun q => ?_, fun q => ?_⟩
    · rw [if_pos q] at hw ⊢
      simp only [mul64, add64, neg64]
      rw [← hw]
      exact ⟨rfl, trivial⟩
    · rw [if_neg q] at hw ⊢
      rw [← hw]
      exact ⟨rfl, rfl⟩
  have rb := prR_c (u := lay (fU (rlN al z).1 (rlN al z).2) (fL (rlN al z).1 (rlN al z).2) x y) lb.2
  have epr : prR (lay (fU (rlN al z).1 (rlN al z).2) (fL (rlN al z).1 (rlN al z).2) x y) = rt (lay (fU (rlN al z).1 (rlN al z).2) (fL (rlN al z).1 (rlN al z).2) x y) := if_neg (by omega)
  refine s_287_0 ?_
  rw [h23]
  refine c_243 (by omega) (fun r hr => kcp_v rfl (s_287_7 ?_))
  have hrr : prR (lay (fU (rlN al z).1 (rlN al z).2) (fL (rlN al z).1 (rlN al z).2) x y) = r := by rw [epr, rt_eq hr]
  rw [hrr] at rb h
  rw [h21, h22, i2l (by omega), i2l (by omega)]
  generalize fU (rlN al z).1 (rlN al z).2 = G at *
  generalize fL (rlN al z).1 (rlN al z).2 = B at *
  generalize (rlN al z).2 = d at *
  generalize (rlN al z).1 = n at *
  have hGx : G * x ≠ 0 := Int.mul_ne_zero hG hx0
  have hBx : B * x ≠ 0 := Int.mul_ne_zero hB0 hx0
  have m1 := mulB (x := B) (y := y) (A := 2000000) (B := 12) (by omega) hy
  have m2 := mulB (x := B) (y := x) (A := 2000000) (B := 12) (by omega) hx
  have m3 := mulB (x := G) (y := y) (A := 2000000) (B := 12) (by omega) hy
  have m4 := mulB (x := G) (y := x) (A := 2000000) (B := 12) (by omega) hx
  simp only [mul64, add64, sub64, neg64]
  have one : ∀ (s : Int), eR k x r = s → (s = r ∨ s = -r) → se = 0 → Wp 236 0 [(0, .ref 58), (1, .long (Int64.ofInt (B * y + s))), (3, .long (Int64.ofInt (B * x)))] [] (gE Lx) I L e (kcp (Wp 287) 287 86 0 [(0, .ref 58), (1, .int (Int32.ofInt al))] 71 [] Q) := by
    intro s es hss k1
    rw [if_pos k1, es] at h
    refine c_236 (by omega) (by omega) (fun L1 hf1 u1 l1 => kcp_v rfl (s_287_89 ?_))
    rw [rU_f hBx] at u1
    rw [rL_f hBx] at l1
    have fb1 := fUL_b (a := B * y + s) (b := B * x) (B := 100000000) (fun q => hBx q.2) (by omega) (by omega)
    have fb2 := fUL_b (a := w) (b := d) (B := 2000000) (fun q => hd0 q.2) (by omega) (by omega)
    obtain ⟨t1, t2, t3⟩ := tl_eq (n := n) (y := y) (e := s) hg r1 r2 (show 0 < B by omega) hx0 (a := fU (B * y + s) (B * x)) (b := fL (B * y + s) (B * x)) (u := fU w d) (l := fL w d) rfl rfl rfl rfl
    generalize fU (B * y + s) (B * x) = a at *
    generalize fL (B * y + s) (B * x) = b at *
    have go : ∀ L2, FrL [(58, 8, 2)] L1 L2 → L2 58 8 = .ofInt (fU w d) → L2 58 9 = .ofInt (fL w d) → Wp 287 145 [(0, .ref 58), (10, .long (Int64.ofInt a)), (12, .long (Int64.ofInt b))] [] (gE Lx) I L2 e Q := by
      intro L2 hf2 u2 l2
      generalize fU w d = u at *
      generalize fL w d = l at *
      have k1 := mulB fb1.1 fb2.2
      have k2 := mulB fb2.1 fb1.2
      have k3 := mulB fb1.2 fb2.2
      refine s_287_145 ?_
      rw [u2, l2, mul64, mul64, mul64, sub64]
      refine c_236 (by omega) (by omega) (fun L3 hf3 u3 l3 => kcp_v rfl (s_287_171 ?_))
      rw [rU_f t3, t1] at u3
      rw [rL_f t3, t2] at l3
      exact h L3 (FrL.tr (S := [(58, 8, 2)]) (FrL.tr (S := [(58, 8, 2)]) hf1 hf2 rfl rfl) hf3 rfl rfl) u3 l3
    have hz := hrl L1 (hf1 58 14 rfl) (hf1 58 15 rfl) (hf1 58 16 rfl)
    rw [u1, l1]
    refine i_eqz hal (fun k0 => ?_) (fun k0 => ?_)
    · obtain ⟨z1, z2⟩ := hz.1 k0
      rw [z1, z2]
      refine c_236 (by omega) (by omega) (fun L2 hf2 u2 l2 => kcp_v rfl (go L2 hf2 ?_ ?_))
      · rw [u2, rU_f hd0]
      · rw [l2, rL_f hd0]
    · obtain ⟨z1, z2⟩ := hz.2 k0
      rw [z1, z2]
      refine c_236 (by omega) (by omega) (fun L2 hf2 u2 l2 => kcp_v rfl (s_287_117 (go L2 hf2 ?_ ?_)))
      · rw [u2, rU_f hd0]
      · rw [l2, rL_f hd0]
  have two : ∀ (s : Int), eR k x r = s → (s = r ∨ s = -r) → se ≠ 0 → Wp 236 0 [(0, .ref 58), (1, .long (Int64.ofInt (G * y + s))), (3, .long (Int64.ofInt (G * x)))] [] (gE Lx) I L e (kcp (Wp 287) 287 64 0 [(0, .ref 58)] 71 [] Q) := by
    intro s es hss k1
    rw [if_neg k1, es] at h
    refine c_236 (by omega) (by omega) (fun L1 hf1 u1 l1 => kcp_v rfl (s_287_67 ?_))
    have E1 : n * y + g * s = g * (G * y + s) := by rw [r1]; grind
    have E2 : n * x = g * (G * x) := by rw [r1]; grind
    have h1 : fU (n * y + g * s) (n * x) = fU (G * y + s) (G * x) := by rw [E1, E2, fU_mul hg]
    have h2 : fL (n * y + g * s) (n * x) = fL (G * y + s) (G * x) := by rw [E1, E2, fL_mul hg]
    refine h L1 hf1 ?_ ?_
    · rw [u1, rU_f hGx]; exact congrArg Int64.ofInt h1.symm
    · rw [l1, rL_f hGx]; exact congrArg Int64.ofInt h2.symm
  have eP : k = 0 → 0 < x → eR k x r = -r := fun a b => if_pos ⟨fun _ => b, fun _ => a⟩
  have eN : k = 0 → ¬ 0 < x → eR k x r = r := fun a b => if_neg (fun q => b (q.mp a))
  have oP : k ≠ 0 → 0 < x → eR k x r = r := fun a b => if_neg (fun q => a (q.mpr b))
  have oN : k ≠ 0 → ¬ 0 < x → eR k x r = -r := fun a b => if_pos ⟨fun q => absurd q a, fun q => absurd q b⟩
  exact i_eqz hk (fun k4 => i_zlt (by omega) (fun k5 => i_eqz hse (fun k3 => one _ (eP k4 k5) (Or.inr rfl) k3) (fun k3 => two _ (eP k4 k5) (Or.inr rfl) k3)) (fun k5 => i_eqz hse (fun k3 => one _ (eN k4 (by omega)) (Or.inl rfl) k3) (fun k3 => two _ (eN k4 (by omega)) (Or.inl rfl) k3)))
    (fun k4 => i_zlt (by omega) (fun k5 => i_eqz hse (fun k3 => one _ (oP k4 k5) (Or.inl rfl) k3) (fun k3 => two _ (oP k4 k5) (Or.inl rfl) k3)) (fun k5 => i_eqz hse (fun k3 => one _ (oN k4 (by omega)) (Or.inr rfl) k3) (fun k3 => two _ (oN k4 (by omega)) (Or.inr rfl) k3)))
set_option maxHeartbeats 4000000 in
/-- from what is laid on -/
theorem c_286 {al x y k se lo : Int} (hal : R32 al) (hx : -12 ≤ x ∧ x ≤ 12) (hy : -12 ≤ y ∧ y ≤ 12) (hx0 : x ≠ 0) (hk : R32 k) (hse : R32 se) (hlo : R32 lo) {z : Pt} (ho : PtOk z) (hnn : ¬ (al = 0 ∧ z.1 = 0 ∧ z.2.1 = 0)) (hp : RpAt L z)
    (h21 : L 58 21 = .ofInt (fU (rlN al z).1 (rlN al z).2)) (h22 : L 58 22 = .ofInt (fL (rlN al z).1 (rlN al z).2)) (h23 : L 58 23 = .ofInt (lay (fU (rlN al z).1 (rlN al z).2) (fL (rlN al z).1 (rlN al z).2) x y))
    (h0 : ¬ (0 ≤ k ∧ k < fWay al x y z ∧ prS (plV al x y z)) → Q (.inl (some (.long (Int64.ofInt 0)))) (gE Lx) (ui I 58 0 (Int32.ofInt 3)) L e)
    (h1 : 0 ≤ k → k < fWay al x y z → prS (plV al x y z) → ∀ L', FrL [(58, 8, 2)] L L' → Q (.inl (some (.long (Int64.ofInt (told lo (fU (tlZ k se al x y z).1 (tlZ k se al x y z).2) (fL (tlZ k se al x y z).1 (tlZ k se al x y z).2)))))) (gE Lx) I L' e) :
    Wp 286 7 [(0, .ref 58), (1, .int (Int32.ofInt al)), (2, .int (Int32.ofInt x)), (3, .int (Int32.ofInt y)), (4, .int (Int32.ofInt k)), (5, .int (Int32.ofInt se)), (6, .int (Int32.ofInt lo))] [] (gE Lx) I L e Q := by
  obtain ⟨q1, q2, q3⟩ := rl_b ho hnn
  have fb := fUL_b (B := 2000000) q3 (by omega) (by omega)
  have lb := lay_b (x := x) (y := y) fb.1 fb.2 hx hy
  obtain ⟨g, hg, r1, r2⟩ := red q1.1 q2.1 q3
  have ew : fWay al x y z = wayN (fU (rlN al z).1 (rlN al z).2) (lay (fU (rlN al z).1 (rlN al z).2) (fL (rlN al z).1 (rlN al z).2) x y) := way_red q1.1 q2.1 q3
  have es : prS (plV al x y z) ↔ prS (lay (fU (rlN al z).1 (rlN al z).2) (fL (rlN al z).1 (rlN al z).2) x y) := by
    have e2 : plV al x y z = g * g * lay (fU (rlN al z).1 (rlN al z).2) (fL (rlN al z).1 (rlN al z).2) x y := by
      unfold plV
      rw [← lay_k, ← r1, ← r2]
    rw [e2]
    exact prS_k hg
  have go : fU (rlN al z).1 (rlN al z).2 ≠ 0 → 0 ≤ lay (fU (rlN al z).1 (rlN al z).2) (fL (rlN al z).1 (rlN al z).2) x y → 0 ≤ k → k < fWay al x y z →
      Wp 243 0 [(0, .long (L 58 23))] [] (gE Lx) I L e (kcp (Wp 242) 242 1 0 [(0, .long (L 58 23))] 71 [] (kcp (Wp 286) 286 26 0 [(0, .ref 58), (1, .int (Int32.ofInt al)), (2, .int (Int32.ofInt x)), (3, .int (Int32.ofInt y)), (4, .int (Int32.ofInt k)), (5, .int (Int32.ofInt se)), (6, .int (Int32.ofInt lo))] 71 [] Q)) := by
    intro hG hv k1 k2
    have rb := prR_c (u := lay (fU (rlN al z).1 (rlN al z).2) (fL (rlN al z).1 (rlN al z).2) x y) lb.2
    have epr : prR (lay (fU (rlN al z).1 (rlN al z).2) (fL (rlN al z).1 (rlN al z).2) x y) = rt (lay (fU (rlN al z).1 (rlN al z).2) (fL (rlN al z).1 (rlN al z).2) x y) := if_neg (by omega)
    rw [h23]
    refine c_243 (by omega) (fun r hr => kcp_v rfl (s_242_4 ?_))
    have hrr : prR (lay (fU (rlN al z).1 (rlN al z).2) (fL (rlN al z).1 (rlN al z).2) x y) = r := by rw [epr, rt_eq hr]
    rw [hrr] at rb
    have mm := mulB (x := r) (y := r) (A := 70000000) (B := 70000000) (by omega) (by omega)
    rw [mul64]
    refine i_eq64 (by omega) (by omega) (fun k3 => kcp_v rfl (s_286_29 (j_1 ?_))) (fun k3 => kcp_v rfl (s_286_29 (j_0 (h0 (fun q => k3 ?_)))))
    · have hs : prS (plV al x y z) := es.mpr (by unfold prS; rw [hrr]; exact k3)
      refine c_287 hal hx hy hx0 hk hse ho hnn hp h21 h22 h23 hG hv hs (fun L1 hf1 u1 l1 => kcp_v rfl (s_286_50 ?_))
      have hq := h1 k1 k2 hs L1 hf1
      rw [u1, l1]
      unfold told at hq
      refine i_eqz hlo (fun k0 => ?_) (fun k0 => ?_)
      · rw [if_pos k0] at hq; exact hq
      · rw [if_neg k0] at hq; exact hq
    · have := es.mp q.2.2
      unfold prS at this
      rw [hrr] at this
      exact this
  refine s_286_7 ?_
  rw [h21]
  unfold wayN at ew
  refine i_eq64 (by omega) (by omega) (fun a1 => ?_) (fun a1 => ?_)
  · rw [if_pos a1] at ew
    exact i_lt32 hk (by omega) (fun a2 => h0 (by omega)) (fun a2 => i_lt32 (by omega) hk (fun a3 => h0 (by omega)) (fun a3 => by omega))
  · rw [if_neg a1] at ew
    rw [h23] at go ⊢
    refine i_lt64 (by omega) (by omega) (fun a2 => ?_) (fun a2 => ?_)
    · rw [if_pos a2] at ew
      exact i_lt32 hk (by omega) (fun a2 => h0 (by omega)) (fun a2 => i_lt32 (by omega) hk (fun a3 => h0 (by omega)) (fun a3 => by omega))
    · rw [if_neg (by omega)] at ew
      refine i_eq64 (by omega) (by omega) (fun a3 => ?_) (fun a3 => ?_)
      · rw [if_pos a3] at ew
        exact i_lt32 hk (by omega) (fun a2 => h0 (by omega)) (fun a4 => i_lt32 (by omega) hk (fun a5 => h0 (by omega)) (fun a5 => go a1 a2 a4 (by omega)))
      · rw [if_neg a3] at ew
        exact i_lt32 hk (by omega) (fun a2 => h0 (by omega)) (fun a4 => i_lt32 (by omega) hk (fun a5 => h0 (by omega)) (fun a5 => go a1 a2 a4 (by omega)))
end
