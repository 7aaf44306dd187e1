/-! The other side's passes with rows; how it lays an echo. -/
abbrev rBw (w : Wv) : Prop := WB 500000000000000000 w
theorem rbm {x m y n : Int} (hx : -500000000000000000 ≤ x ∧ x ≤ 500000000000000000) (hy : -500000000000000000 ≤ y ∧ y ≤ 500000000000000000) (hm : -6101 ≤ m ∧ m ≤ 6101) (hn : -6101 ≤ n ∧ n ≤ 6101) : RB (x * m + y * n) := by
  have := mulB hx hm
  have := mulB hy hn
  unfold RB
  omega
section
variable {Lx : Nat} {I : Mi} {L : Ml} {e : Nat} {Q : Kq}
theorem n_343 {w : Wv} {a b c d : Int} (h4 : RwAt L 4 a) (h5 : RwAt L 5 b) (h6 : RwAt L 6 c) (h7 : RwAt L 7 d) (e1 : a = w.1) (e2 : b = w.2.1) (e3 : c = w.2.2.1) (e4 : d = w.2.2.2) (h : ∀ L', FrL [(65, 0, 0)] L L' → RfAt L' 0 w → Q (.inl none) (gE Lx) I L' e) : Wp 343 2 [(0, .ref 58), (1, .int (Int32.ofInt 0))] [] (gE Lx) I L e Q := by
  subst e1; subst e2; subst e3; subst e4
  exact c_343 ⟨h4, h5, h6, h7⟩ h
/-- one row after the other, four of them -/
theorem n_341 {r : Wv} (hr : RfAt L 0 r) (hB : rBw r) {s0 s1 s2 s3 t0 t1 t2 t3 : Nat} {m n0 n1 n2 n3 : Int} (hs : (s0 < 4 ∧ s1 < 4 ∧ s2 < 4 ∧ s3 < 4) ∧ (t0 < 4 ∧ t1 < 4 ∧ t2 < 4 ∧ t3 < 4)) (g : Nat → Int) (hg : ∀ k, k < 4 → RwAt L k (g k) ∧ (-500000000000000000 ≤ g k ∧ g k ≤ 500000000000000000)) (hm : -6101 ≤ m ∧ m ≤ 6101) (h0 : -6101 ≤ n0 ∧ n0 ≤ 6101) (h1 : -6101 ≤ n1 ∧ n1 ≤ 6101) (h2 : -6101 ≤ n2 ∧ n2 ≤ 6101) (h3 : -6101 ≤ n3 ∧ n3 ≤ 6101) {R0 R1 R2 R3 : Kq}
    (k0 : ∀ L', Wp 342 0 [(0, .ref 58), (1, .int (Int32.ofInt (5 : Nat))), (2, .int (Int32.ofInt (s1 : Int))), (3, .long (Int64.ofInt m)), (5, .int (Int32.ofInt (t1 : Int))), (6, .long (Int64.ofInt n1))] [] (gE Lx) I L' e R1 → R0 (.inl none) (gE Lx) I L' e)
    (k1 : ∀ L', Wp 342 0 [(0, .ref 58), (1, .int (Int32.ofInt (6 : Nat))), (2, .int (Int32.ofInt (s2 : Int))), (3, .long (Int64.ofInt m)), (5, .int (Int32.ofInt (t2 : Int))), (6, .long (Int64.ofInt n2))] [] (gE Lx) I L' e R2 → R1 (.inl none) (gE Lx) I L' e)
    (k2 : ∀ L', Wp 342 0 [(0, .ref 58), (1, .int (Int32.ofInt (7 : Nat))), (2, .int (Int32.ofInt (s3 : Int))), (3, .long (Int64.ofInt m)), (5, .int (Int32.ofInt (t3 : Int))), (6, .long (Int64.ofInt n3))] [] (gE Lx) I L' e R3 → R2 (.inl none) (gE Lx) I L' e)
    (k3 : ∀ L', FrL [(65, 0, 0)] L L' → RwAt L' 4 (g s0 * m + g t0 * n0) → RwAt L' 5 (g s1 * m + g t1 * n1) → RwAt L' 6 (g s2 * m + g t2 * n2) → RwAt L' 7 (g s3 * m + g t3 * n3) → R3 (.inl none) (gE Lx) I L' e) :
    Wp 342 0 [(0, .ref 58), (1, .int (Int32.ofInt (4 : Nat))), (2, .int (Int32.ofInt (s0 : Int))), (3, .long (Int64.ofInt m)), (5, .int (Int32.ofInt (t0 : Int))), (6, .long (Int64.ofInt n0))] [] (gE Lx) I L e R0 := by
  obtain ⟨⟨a0, a1, a2, a3⟩, c0, c1, c2, c3⟩ := hs
  have rb : ∀ s t n, s < 4 → t < 4 → (-6101 ≤ n ∧ n ≤ 6101) → RB (g s * m + g t * n) := fun s t n hs ht hn => rbm (hg s hs).2 (hg t ht).2 hm hn
  refine c_342 (d := 4) (by omega) (by omega) (by omega) (hg s0 a0).1 (hg t0 c0).1 (by omega) (by omega) (rb _ _ _ a0 c0 h0) (fun L1 f1 v4 => k0 L1 ?_)
  have g1 : ∀ k, k < 4 → RwAt L1 k (g k) := fun k hk => (hg k hk).1.fr f1 (by omega) (by omega) (by omega)
  refine c_342 (d := 5) (by omega) (by omega) (by omega) (g1 s1 a1) (g1 t1 c1) (by omega) (by omega) (rb _ _ _ a1 c1 h1) (fun L2 f2 v5 => k1 L2 ?_)
  have g2 : ∀ k, k < 4 → RwAt L2 k (g k) := fun k hk => (g1 k hk).fr f2 (by omega) (by omega) (by omega)
  refine c_342 (d := 6) (by omega) (by omega) (by omega) (g2 s2 a2) (g2 t2 c2) (by omega) (by omega) (rb _ _ _ a2 c2 h2) (fun L3 f3 v6 => k2 L3 ?_)
  have g3 : ∀ k, k < 4 → RwAt L3 k (g k) := fun k hk => (g2 k hk).fr f3 (by omega) (by omega) (by omega)
  refine c_342 (d := 7) (by omega) (by omega) (by omega) (g3 s3 a3) (g3 t3 c3) (by omega) (by omega) (rb _ _ _ a3 c3 h3) (fun L4 f4 v7 => k3 L4 ?_ ?_ ?_ ?_ v7)
  · exact FrL.tr (S := [(65, 0, 0)]) (FrL.tr (S := [(65, 0, 0)]) f1 f2 rfl rfl) (FrL.tr (S := [(65, 0, 0)]) f3 f4 rfl rfl) rfl rfl
  · exact ((v4.fr f2 (by omega) (by omega) (by omega)).fr f3 (by omega) (by omega) (by omega)).fr f4 (by omega) (by omega) (by omega)
  · exact (v5.fr f3 (by omega) (by omega) (by omega)).fr f4 (by omega) (by omega) (by omega)
  · exact v6.fr f4 (by omega) (by omega) (by omega)
def gW (w : Wv) (k : Nat) : Int := if k = 0 then w.1 else if k = 1 then w.2.1 else if k = 2 then w.2.2.1 else w.2.2.2
theorem gW_at {w : Wv} (h : RfAt L 0 w) (hB : rBw w) : ∀ k, k < 4 → RwAt L k (gW w k) ∧ (-500000000000000000 ≤ gW w k ∧ gW w k ≤ 500000000000000000) := fun k hk => by
  obtain ⟨h0, h1, h2, h3⟩ := h
  obtain ⟨b0, b1, b2, b3⟩ := hB
  have : k = 0 ∨ k = 1 ∨ k = 2 ∨ k = 3 := by omega
  rcases this with rfl | rfl | rfl | rfl
  · exact ⟨h0, b0⟩
  · exact ⟨h1, b1⟩
  · exact ⟨h2, b2⟩
  · exact ⟨h3, b3⟩
theorem sg_0 {v : Int} : (sg v = 0 ↔ v = 0) ∧ (-1 ≤ sg v ∧ sg v ≤ 1) := by
  rcases Int.lt_trichotomy v 0 with q | q | q
  · rw [sg_n q]; omega
  · rw [sg_z q]; omega
  · rw [sg_p q]; omega
set_option maxHeartbeats 4000000 in
theorem c_341 {r : Wv} (hr : RfAt L 0 r) (hB : rBw r) {s p q : Int} (hs : 0 ≤ s ∧ s ≤ 4) (hp : -6101 ≤ p ∧ p ≤ 6101) (hq : -6101 ≤ q ∧ q ≤ 6101) (h : ∀ L', FrL [(65, 0, 0)] L L' → RfAt L' 0 (rPass s p q r) → Q (.inl none) (gE Lx) I L' e) :
    Wp 341 0 [(0, .ref 58), (1, .int (Int32.ofInt s)), (2, .long (Int64.ofInt p)), (4, .long (Int64.ofInt q))] [] (gE Lx) I L e Q := by
  have hg := gW_at hr hB
  obtain ⟨u1, u2⟩ := rUL_b (s := s) hp hq (by decide)
  refine s_341_0 (i_eqz (by omega) (fun k => ?_) (fun k => ?_))
  · have ew : rPass s p q r = wLine p q r := if_pos k
    rw [ew] at h
    rw [neg64]
    refine n_341 hr hB (s0 := 0) (t0 := 3) (s1 := 1) (t1 := 2) (s2 := 2) (t2 := 1) (s3 := 3) (t3 := 0) (m := q) (n0 := -p) (n1 := p) (n2 := -p) (n3 := p) (by omega) (gW r) hg hq (by omega) hp (by omega) hp (fun L1 k => kcp_v rfl (s_341_15 k)) (fun L1 k => kcp_v rfl (s_341_25 (by rw [neg64]; exact k))) (fun L1 k => kcp_v rfl (s_341_37 k)) (fun L4 hf v4 v5 v6 v7 => kcp_v rfl (s_341_48 (n_343 (w := wLine p q r) v4 v5 v6 v7 ?_ ?_ ?_ ?_ (fun L5 hf5 v => kcp_v rfl (s_341_52 (h L5 (FrL.tr hf hf5 rfl rfl) v))))))
    · show r.1 * q + r.2.2.2 * -p = q * r.1 - p * r.2.2.2; grind
    · show r.2.1 * q + r.2.2.1 * p = q * r.2.1 + p * r.2.2.1; grind
    · show r.2.2.1 * q + r.2.1 * -p = q * r.2.2.1 - p * r.2.1; grind
    · show r.2.2.2 * q + r.1 * p = q * r.2.2.2 + p * r.1; grind
  refine c_230 (by omega) (by omega) (kcp_v rfl (s_341_60 (c_232 (by omega) (by omega) (kcp_v rfl (s_341_69 ?_)))))
  have same : rPass s p q r = r → Q (.inl none) (gE Lx) I L e := fun w => h L FrL.rf (by rw [w]; exact hr)
  generalize hu : rUp s p q = u at *
  generalize hv : rLo s p q = v at *
  have ac : (s = 1 ∨ s = 2) → Wp 345 0 [(0, .ref 58), (1, .int (Int32.ofInt 0))] [] (gE Lx) I L e (kcp (Wp 341) 341 80 0 [(0, .ref 58), (6, .long (Int64.ofInt u)), (8, .long (Int64.ofInt v))] 71 [] Q) := by
    intro k1
    have ew : rPass s p q r = wAc u v r := by unfold rPass; rw [if_neg k, if_pos k1, hu, hv]
    have more : ¬ (r.1 = 0 ∧ r.2.1 = 0) → Wp 342 0 [(0, .ref 58), (1, .int (Int32.ofInt 4)), (2, .int (Int32.ofInt 0)), (3, .long (Int64.ofInt v)), (5, .int (Int32.ofInt 0)), (6, .long (Int64.ofInt 0))] [] (gE Lx) I L e (kcp (Wp 341) 341 102 0 [(0, .ref 58), (6, .long (Int64.ofInt u)), (8, .long (Int64.ofInt v))] 71 [] Q) := by
      intro nz
      have ew2 : wAc u v r = (v * r.1, v * r.2.1, v * r.2.2.1 - u * r.2.1, v * r.2.2.2 + u * r.1) := if_neg nz
      rw [ew, ew2] at h
      refine n_341 hr hB (s0 := 0) (t0 := 0) (s1 := 1) (t1 := 1) (s2 := 2) (t2 := 1) (s3 := 3) (t3 := 0) (m := v) (n0 := 0) (n1 := 0) (n2 := -u) (n3 := u) (by omega) (gW r) hg u2 (by omega) (by omega) (by omega) u1 (fun L1 k => kcp_v rfl (s_341_105 k)) (fun L1 k => kcp_v rfl (s_341_115 (by rw [neg64]; exact k))) (fun L1 k => kcp_v rfl (s_341_128 k)) (fun L4 hf v4 v5 v6 v7 => kcp_v rfl (s_341_140 (s_341_205 (n_343 (w := (v * r.1, v * r.2.1, v * r.2.2.1 - u * r.2.1, v * r.2.2.2 + u * r.1)) v4 v5 v6 v7 ?_ ?_ ?_ ?_ (fun L5 hf5 v => kcp_v rfl (s_341_209 (h L5 (FrL.tr hf hf5 rfl rfl) v)))))))
      · show r.1 * v + r.1 * 0 = v * r.1; grind
      · show r.2.1 * v + r.2.1 * 0 = v * r.2.1; grind
      · show r.2.2.1 * v + r.2.1 * -u = v * r.2.2.1 - u * r.2.1; grind
      · show r.2.2.2 * v + r.1 * u = v * r.2.2.2 + u * r.1; grind
    refine c_345 (r := 0) (by omega) hr.1 (kcp_v rfl (s_341_83 (i_eqz (by have := sg_0 (v := r.1); omega) (fun z => ?_) (fun z => more (fun w => z (sg_0.1.mpr w.1))))))
    refine c_345 (r := 1) (by omega) hr.2.1 (kcp_v rfl (s_341_91 (i_eqz (by have := sg_0 (v := r.2.1); omega) (fun z2 => same ?_) (fun z2 => more (fun w => z2 (sg_0.1.mpr w.2))))))
    rw [ew]
    exact if_pos ⟨sg_0.1.mp z, sg_0.1.mp z2⟩
  refine i_eq32 (by omega) (by omega) (fun k1 => ac (Or.inl k1)) (fun k1 => i_eq32 (by omega) (by omega) (fun k2 => ac (Or.inr k2)) (fun k2 => ?_))
  have ew : rPass s p q r = wAl u v r := by unfold rPass; rw [if_neg k, if_neg (by omega), hu, hv]
  have more : ¬ (r.2.2.1 = 0 ∧ r.2.2.2 = 0) → Wp 342 0 [(0, .ref 58), (1, .int (Int32.ofInt 4)), (2, .int (Int32.ofInt 0)), (3, .long (Int64.ofInt v)), (5, .int (Int32.ofInt 3)), (6, .long (-Int64.ofInt u))] [] (gE Lx) I L e (kcp (Wp 341) 341 169 0 [(0, .ref 58), (6, .long (Int64.ofInt u)), (8, .long (Int64.ofInt v))] 71 [] Q) := by
    intro nz
    have ew2 : wAl u v r = (v * r.1 - u * r.2.2.2, v * r.2.1 + u * r.2.2.1, v * r.2.2.1, v * r.2.2.2) := if_neg nz
    rw [ew, ew2] at h
    rw [neg64]
    refine n_341 hr hB (s0 := 0) (t0 := 3) (s1 := 1) (t1 := 2) (s2 := 2) (t2 := 2) (s3 := 3) (t3 := 3) (m := v) (n0 := -u) (n1 := u) (n2 := 0) (n3 := 0) (by omega) (gW r) hg u2 (by omega) u1 (by omega) (by omega) (fun L1 k => kcp_v rfl (s_341_172 k)) (fun L1 k => kcp_v rfl (s_341_183 k)) (fun L1 k => kcp_v rfl (s_341_194 k)) (fun L4 hf v4 v5 v6 v7 => kcp_v rfl (s_341_205 (n_343 (w := (v * r.1 - u * r.2.2.2, v * r.2.1 + u * r.2.2.1, v * r.2.2.1, v * r.2.2.2)) v4 v5 v6 v7 ?_ ?_ ?_ ?_ (fun L5 hf5 v => kcp_v rfl (s_341_209 (h L5 (FrL.tr hf hf5 rfl rfl) v))))))
    · show r.1 * v + r.2.2.2 * -u = v * r.1 - u * r.2.2.2; grind
    · show r.2.1 * v + r.2.2.1 * u = v * r.2.1 + u * r.2.2.1; grind
    · show r.2.2.1 * v + r.2.2.1 * 0 = v * r.2.2.1; grind
    · show r.2.2.2 * v + r.2.2.2 * 0 = v * r.2.2.2; grind
  refine c_345 (r := 2) (by omega) hr.2.2.1 (kcp_v rfl (s_341_148 (i_eqz (by have := sg_0 (v := r.2.2.1); omega) (fun z => ?_) (fun z => more (fun w => z (sg_0.1.mpr w.1))))))
  refine c_345 (r := 3) (by omega) hr.2.2.2 (kcp_v rfl (s_341_156 (i_eqz (by have := sg_0 (v := r.2.2.2); omega) (fun z2 => same ?_) (fun z2 => more (fun w => z2 (sg_0.1.mpr w.2))))))
  rw [ew]
  exact if_pos ⟨sg_0.1.mp z, sg_0.1.mp z2⟩
end
