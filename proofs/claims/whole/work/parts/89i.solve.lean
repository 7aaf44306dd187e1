/-! PLACES solved, on the class' side. -/
def pM (z : Pt) : Int := if z.1 = 0 ∨ (z.1 = z.2.2 ∧ z.2.1 = 0) then 0 else 2
def pSq (z : Pt) : Prop := rt (pU z) * rt (pU z) = pU z
def pF (al : Int) (z : Pt) : Prop := pf (pH z) (pL al z) (pR al z) (pU z)
noncomputable def iP {α : Type} (p : Prop) (a b : α) : α := @ite α p (Classical.propDecidable _) a b
theorem iP_t {α : Type} {p : Prop} {a b : α} (h : p) : iP p a b = a := if_pos h
theorem iP_f {α : Type} {p : Prop} {a b : α} (h : ¬ p) : iP p a b = b := if_neg h
noncomputable def side (k al : Int) (z : Pt) : Int := iP (k = 0 ↔ pF al z) 1 (-1)
theorem side_r (k al : Int) (z : Pt) : side k al z = 1 ∨ side k al z = -1 := by
  unfold side
  rcases Classical.em (k = 0 ↔ pF al z) with h | h
  · exact Or.inl (iP_t h)
  · exact Or.inr (iP_f h)
def SpAt (I : Mi) (L : Ml) (al : Int) (z : Pt) : Prop := I 19 0 = .ofInt (pM z) ∧ I 19 2 = .ofInt al ∧ ((I 19 1 = .ofInt 1 ∧ pSq z) ∨ (I 19 1 = .ofInt 0 ∧ ¬ pSq z)) ∧ ((I 19 3 = .ofInt 1 ∧ pF al z) ∨ (I 19 3 = .ofInt 0 ∧ ¬ pF al z)) ∧
  L 19 4 = .ofInt (pL al z) ∧ L 19 5 = .ofInt (pH z) ∧ L 19 6 = .ofInt (pR al z) ∧ L 19 7 = .ofInt (pU z) ∧ L 19 8 = .ofInt (rt (pU z)) ∧ L 19 9 = .ofInt (z.1 * z.2.2)
theorem pt_b {z : Pt} (h : PtOk z) (al : Int) : (-1000000 ≤ pH z ∧ pH z ≤ 1000000) ∧ (-2000000 ≤ pL al z ∧ pL al z ≤ 2000000) ∧ (-2000000 ≤ pR al z ∧ pR al z ≤ 2000000) ∧ (0 ≤ pU z ∧ pU z ≤ 2000000000000) ∧ (0 ≤ z.1 * z.2.2 ∧ z.1 * z.2.2 ≤ 1000000) ∧ (0 ≤ pS z ∧ pS z ≤ 2000000) := by
  obtain ⟨h1, h2, h3⟩ := h
  have a1 : -1000 ≤ z.1 ∧ z.1 ≤ 1000 := by omega
  have a3 : -1000 ≤ z.2.2 ∧ z.2.2 ≤ 1000 := by omega
  have m1 := mulB a1 a1; have m2 := mulB h2 h2; have m3 := mulB a1 a3; have m4 := mulB a3 a3; have m5 := mulB h2 a3
  have n1 := sq_nn z.1; have n2 := sq_nn z.2.1; have n3 := sq_nn z.2.2
  have n4 : 0 ≤ z.1 * z.2.2 := Int.mul_nonneg h1.1 (by omega)
  have q1 : -1000 ≤ z.1 - z.2.2 ∧ z.1 - z.2.2 ≤ 1000 := by omega
  have q2 := mulB q1 q1
  have q3 := sq_nn (z.1 - z.2.2)
  have e1 : 0 ≤ (z.1 - z.2.2) * (z.1 - z.2.2) + z.2.1 * z.2.1 := by omega
  have u1 : 0 ≤ pU z := Int.mul_nonneg n4 e1
  have u2 := mulB (x := z.1 * z.2.2) (y := (z.1 - z.2.2) * (z.1 - z.2.2) + z.2.1 * z.2.1) (A := 1000000) (B := 2000000) (by omega) (by omega)
  have u3 : pU z = z.1 * z.2.2 * ((z.1 - z.2.2) * (z.1 - z.2.2) + z.2.1 * z.2.1) := rfl
  unfold pH pL pR pS
  refine ⟨by omega, ?_, ?_, by omega, by omega, by omega⟩
  · split <;> omega
  · split <;> omega
theorem rt_is {v : Int} (h : 0 ≤ v) : ∃ r, IsRt v r := by
  have key : ∀ n : Nat, ∃ r, IsRt (n : Int) r := by
    intro n
    induction n with
    | zero => exact ⟨0, by decide, by decide, by decide⟩
    | succ n ih =>
      obtain ⟨r, h1, h2, h3⟩ := ih
      by_cases k : ((n + 1 : Nat) : Int) < (r + 1) * (r + 1)
      · exact ⟨r, h1, by omega, k⟩
      · refine ⟨r + 1, by omega, by omega, ?_⟩
        have e : (r + 1 + 1) * (r + 1 + 1) = (r + 1) * (r + 1) + (r + 1) + (r + 1) + 1 := by grind
        rw [e]
        omega
  have := key v.toNat
  rw [Int.toNat_of_nonneg h] at this
  exact this
theorem rt_sp {v : Int} (h : 0 ≤ v) : IsRt v (rt v) := by
  obtain ⟨r, hr⟩ := rt_is h
  rw [rt_eq hr]
  exact hr
section
variable {Lx : Nat} {I : Mi} {L : Ml} {e : Nat} {Q : Kq}
theorem sp_tail {al : Int} {z : Pt} (hz : PtOk z) {I1 : Mi} {L1 : Ml} (hfi : FrI [(19, 0, 0)] I I1) (hfl : FrL [(19, 0, 0)] L L1) (i0 : I1 19 0 = .ofInt (pM z)) (i2 : I1 19 2 = .ofInt al)
    (l4 : L1 19 4 = .ofInt (pL al z)) (l5 : L1 19 5 = .ofInt (pH z)) (l6 : L1 19 6 = .ofInt (pR al z)) (l7 : L1 19 7 = .ofInt (pU z)) (l9 : L1 19 9 = .ofInt (z.1 * z.2.2))
    (h : ∀ I' L', FrI [(19, 0, 0)] I I' → FrL [(19, 0, 0)] L L' → SpAt I' L' al z → Q (.inl none) (gE Lx) I' L' e) :
    Wp 32 0 [(0, .long (Int64.ofInt (pU z)))] [] (gE Lx) I1 L1 e (kcp (Wp 39) 39 158 0 [(0, .ref 19), (1, .ref 17)] 71 [.ref 19] Q) := by
  obtain ⟨p1, p2, p3, p4, p5, p6⟩ := pt_b hz al
  refine c_32 (by omega) (fun r hr => kcp_v rfl (s_39_161 ?_))
  have hrb : r < 2000000 := hr.b (by omega) (by omega)
  have hr0 := hr.1
  have m3 := mulB (x := r) (y := r) (A := 2000000) (B := 2000000) (by omega) (by omega)
  have hre := rt_eq hr
  rw [l7, mul64]
  have go : ∀ v : Int, ((v = 1 ∧ pSq z) ∨ (v = 0 ∧ ¬ pSq z)) → Wp 40 0 [(0, .ref 19)] [] (gE Lx) (ui I1 19 1 (Int32.ofInt v)) (ul L1 19 8 (Int64.ofInt r)) e (kcp (Wp 39) 39 192 0 [(0, .ref 19), (1, .ref 17)] 71 [.ref 19] Q) := by
    intro v hv
    have f2 : FrL [(19, 0, 0)] L (ul L1 19 8 (Int64.ofInt r)) := FrL.wu hfl rfl
    have hv2 : (ui I1 19 1 (Int32.ofInt v) 19 1 = .ofInt 1 ∧ pSq z) ∨ (ui I1 19 1 (Int32.ofInt v) 19 1 = .ofInt 0 ∧ ¬ pSq z) := by
      rw [u_at]
      rcases hv with ⟨rfl, k⟩ | ⟨rfl, k⟩
      · exact Or.inl ⟨rfl, k⟩
      · exact Or.inr ⟨rfl, k⟩
    have fin : ∀ w : Int, ((w = 1 ∧ pF al z) ∨ (w = 0 ∧ ¬ pF al z)) → Q (.inl none) (gE Lx) (ui (ui I1 19 1 (Int32.ofInt v)) 19 3 (Int32.ofInt w)) (ul L1 19 8 (Int64.ofInt r)) e := by
      intro w hw
      refine h _ _ (FrI.wu (FrI.wu hfi rfl) rfl) f2 ⟨i0, i2, ?_, ?_, l4, l5, l6, l7, ?_, l9⟩
      · rw [u_ne (by decide)]; exact hv2
      · rw [u_at]
        rcases hw with ⟨rfl, k⟩ | ⟨rfl, k⟩
        · exact Or.inl ⟨rfl, k⟩
        · exact Or.inr ⟨rfl, k⟩
      · rw [l_at, hre]
    refine c_40 (h := pH z) (l := pL al z) (r := pR al z) (u := pU z) p1 (by omega) (by omega) (by omega) (by rw [l_ne (by decide)]; exact l4) (by rw [l_ne (by decide)]; exact l5) (by rw [l_ne (by decide)]; exact l6) (by rw [l_ne (by decide)]; exact l7) (fun k => kcp_v rfl (s_39_195 (b_1 (fin 1 (Or.inl ⟨rfl, k⟩))))) (fun k => kcp_v rfl (s_39_195 (b_0 (fin 0 (Or.inr ⟨rfl, k⟩)))))
  exact i_eq64 (by omega) (by omega) (fun k => go 1 (Or.inl ⟨rfl, by rw [pSq, hre]; exact k⟩)) (fun k => go 0 (Or.inr ⟨rfl, fun z => k (by rw [pSq, hre] at z; exact z)⟩))
theorem f5 {i j k l m : Nat} {x y z u v : Int64} : FrL [(19, 0, 0)] L (ul (ul (ul (ul (ul L 19 i x) 19 j y) 19 k z) 19 l u) 19 m v) := FrL.wu (FrL.wu (FrL.wu (FrL.wu (FrL.wu FrL.rf rfl) rfl) rfl) rfl) rfl
set_option maxHeartbeats 8000000 in
theorem c_39 {al : Int} (hal : al = 0 ∨ al = 1) {z : Pt} (hz : PtOk z) (hp : PtAt L z) (h : ∀ I' L', FrI [(19, 0, 0)] I I' → FrL [(19, 0, 0)] L L' → SpAt I' L' al z → Q (.inl none) (gE Lx) I' L' e) :
    Wp 39 0 [(0, .ref 19), (1, .ref 17), (2, .int (Int32.ofInt al))] [] (gE Lx) I L e Q := by
  obtain ⟨h0, h1, h2⟩ := hp
  obtain ⟨o1, o2, o3⟩ := id hz
  refine s_39_0 ?_
  simp only [h0, h1, h2, mul64, add64, sub64]
  have m0 : (z.1 = 0 ∨ (z.1 = z.2.2 ∧ z.2.1 = 0)) → pM z = 0 := fun k => if_pos k
  have m2 : ¬ (z.1 = 0 ∨ (z.1 = z.2.2 ∧ z.2.1 = 0)) → pM z = 2 := fun k => if_neg k
  rcases hal with rfl | rfl
  · have eu : z.2.1 * z.2.2 * (z.2.1 * z.2.2) - (z.1 * z.2.2 - z.2.2 * z.2.2) * (z.1 * z.2.2 - (z.1 * z.1 + z.2.1 * z.2.1)) = pU z := pU_eq 0 z
    rw [eu]
    refine j_0 ?_
    exact i_eq64 (by omega) (by omega) (fun k => sp_tail hz (FrI.wu (FrI.wu FrI.rf rfl) rfl) f5 (by rw [m0 (Or.inl k)]; rfl) rfl rfl rfl rfl rfl rfl h)
      (fun k => i_eq64 (by omega) (by omega) (fun k1 => i_eq64 (by omega) (by omega) (fun k2 => sp_tail hz (FrI.wu (FrI.wu FrI.rf rfl) rfl) f5 (by rw [m0 (Or.inr ⟨k1, k2⟩)]; rfl) rfl rfl rfl rfl rfl rfl h) (fun k2 => sp_tail hz (FrI.wu (FrI.wu FrI.rf rfl) rfl) f5 (by rw [m2 (by omega)]; rfl) rfl rfl rfl rfl rfl rfl h)) (fun k1 => sp_tail hz (FrI.wu (FrI.wu FrI.rf rfl) rfl) f5 (by rw [m2 (by omega)]; rfl) rfl rfl rfl rfl rfl rfl h))
  · have eu : z.2.1 * z.2.2 * (z.2.1 * z.2.2) - (z.1 * z.1 + z.2.1 * z.2.1 - z.1 * z.2.2) * (z.2.2 * z.2.2 - z.1 * z.2.2) = pU z := pU_eq 1 z
    rw [eu]
    refine b_1 ?_
    exact i_eq64 (by omega) (by omega) (fun k => sp_tail hz (FrI.wu (FrI.wu FrI.rf rfl) rfl) f5 (by rw [m0 (Or.inl k)]; rfl) rfl rfl rfl rfl rfl rfl h)
      (fun k => i_eq64 (by omega) (by omega) (fun k1 => i_eq64 (by omega) (by omega) (fun k2 => sp_tail hz (FrI.wu (FrI.wu FrI.rf rfl) rfl) f5 (by rw [m0 (Or.inr ⟨k1, k2⟩)]; rfl) rfl rfl rfl rfl rfl rfl h) (fun k2 => sp_tail hz (FrI.wu (FrI.wu FrI.rf rfl) rfl) f5 (by rw [m2 (by omega)]; rfl) rfl rfl rfl rfl rfl rfl h)) (fun k1 => sp_tail hz (FrI.wu (FrI.wu FrI.rf rfl) rfl) f5 (by rw [m2 (by omega)]; rfl) rfl rfl rfl rfl rfl rfl h))
theorem c_45 {k al : Int} (hk : R32 k) {z : Pt} (hs : SpAt I L al z) (h : Q (.inl (some (.int (Int32.ofInt (side k al z))))) (gE Lx) I L e) : Wp 45 0 [(0, .ref 19), (1, .int (Int32.ofInt k))] [] (gE Lx) I L e Q := by
  obtain ⟨-, -, -, h3, -⟩ := hs
  unfold side at h
  refine s_45_0 ?_
  rcases h3 with ⟨h3, p⟩ | ⟨h3, p⟩ <;> rw [h3]
  · refine i_eqz hk (fun k0 => i_eq32 (by omega) (by omega) (fun _ => ?_) (fun z => absurd rfl z)) (fun k0 => i_eq32 (by omega) (by omega) (fun z => by cases z) (fun _ => ?_))
    · rw [iP_t ⟨fun _ => p, fun _ => k0⟩] at h; exact h
    · rw [iP_f (fun z => k0 (z.mpr p))] at h; exact h
  · refine i_eqz hk (fun k0 => i_eq32 (by omega) (by omega) (fun z => by cases z) (fun _ => ?_)) (fun k0 => i_eq32 (by omega) (by omega) (fun _ => ?_) (fun z => absurd rfl z))
    · rw [iP_f (fun z => p (z.mp k0))] at h; exact h
    · rw [iP_t ⟨fun z => absurd z k0, fun z => absurd z p⟩] at h; exact h
end
