/-! The pair on the class' side. -/
noncomputable def prR (u : Int) : Int := if u < 0 then 0 else rt u
def prS (u : Int) : Prop := prR u * prR u = u
def PrAt (I : Mi) (L : Ml) (al x y : Int) (z : Pt) : Prop := L 20 2 = .ofInt (rlN al z).1 ∧ L 20 3 = .ofInt (rlN al z).2 ∧ L 20 4 = .ofInt (if al = 0 then -z.2.1 * z.2.2 else z.2.1) ∧ L 20 5 = .ofInt (prR (lay (rlN al z).1 (rlN al z).2 x y)) ∧ L 20 6 = .ofInt x ∧ L 20 7 = .ofInt y ∧
  I 20 0 = .ofInt (wayN (rlN al z).1 (lay (rlN al z).1 (rlN al z).2 x y)) ∧ ((I 20 1 = .ofInt 1 ∧ prS (lay (rlN al z).1 (rlN al z).2 x y)) ∨ (I 20 1 = .ofInt 0 ∧ ¬ prS (lay (rlN al z).1 (rlN al z).2 x y)))
theorem prR_b {u : Int} (h : u < 4000000000000000000) : 0 ≤ prR u ∧ prR u < 2000000000 := by
  unfold prR
  split
  · omega
  · have q := rt_sp (v := u) (by omega)
    have := q.1
    have := q.b (B := 2000000000) (by omega) (by omega)
    omega
section
variable {Lx : Nat} {I : Mi} {L : Ml} {e : Nat} {Q : Kq}
theorem pr_tail {n u : Int} {L1 : Ml} (hn : 0 ≤ n ∧ n ≤ 10000000) (hu : -4000000000000000000 ≤ u ∧ u < 4000000000000000000) (l2 : L1 20 2 = .ofInt n)
    (h : ∀ a b : Int, b = wayN n u → ((a = 1 ∧ prS u) ∨ (a = 0 ∧ ¬ prS u)) → Q (.inl none) (gE Lx) (ui (ui I 20 1 (Int32.ofInt a)) 20 0 (Int32.ofInt b)) (ul L1 20 5 (Int64.ofInt (prR u))) e) :
    Wp 34 144 [(0, .ref 20), (1, .ref 17), (5, .long (Int64.ofInt u))] [.long (Int64.ofInt (prR u)), .ref 20] (gE Lx) I L1 e Q := by
  have hb := prR_b hu.2
  have m := mulB (x := prR u) (y := prR u) (A := 2000000000) (B := 2000000000) (by omega) (by omega)
  have w0 : n = 0 → (0 : Int) = wayN n u := fun k => by unfold wayN; rw [if_pos k]
  have w1 : n ≠ 0 → u < 0 → (0 : Int) = wayN n u := fun k k1 => by unfold wayN; rw [if_neg k, if_pos k1]
  have w2 : n ≠ 0 → u = 0 → (1 : Int) = wayN n u := fun k k1 => by unfold wayN; rw [if_neg k, if_neg (by omega), if_pos k1]
  have w3 : n ≠ 0 → ¬ u < 0 → u ≠ 0 → (2 : Int) = wayN n u := fun k k1 k2 => by unfold wayN; rw [if_neg k, if_neg k1, if_neg k2]
  refine s_34_144 ?_
  rw [l2, mul64]
  refine i_eq64 (by omega) (by omega) (fun q => ?_) (fun q => ?_)
  · have a : ((1 : Int) = 1 ∧ prS u) ∨ ((1 : Int) = 0 ∧ ¬ prS u) := Or.inl ⟨rfl, q⟩
    exact i_eq64 (by omega) (by omega) (fun k => h 1 0 (w0 k) a) (fun k => i_lt64 (by omega) (by omega) (fun k1 => h 1 0 (w1 k k1) a) (fun k1 => i_eq64 (by omega) (by omega) (fun k2 => h 1 1 (w2 k k2) a) (fun k2 => h 1 2 (w3 k (by omega) k2) a)))
  · have a : ((0 : Int) = 1 ∧ prS u) ∨ ((0 : Int) = 0 ∧ ¬ prS u) := Or.inr ⟨rfl, q⟩
    exact i_eq64 (by omega) (by omega) (fun k => h 0 0 (w0 k) a) (fun k => i_lt64 (by omega) (by omega) (fun k1 => h 0 0 (w1 k k1) a) (fun k1 => i_eq64 (by omega) (by omega) (fun k2 => h 0 1 (w2 k k2) a) (fun k2 => h 0 2 (w3 k (by omega) k2) a)))
theorem pr_fin {al x y n d w : Int} {z : Pt} (hn : 0 ≤ n ∧ n ≤ 1000000) (hd : 0 ≤ d ∧ d ≤ 2000000) (hx : -12 ≤ x ∧ x ≤ 12) (hy : -12 ≤ y ∧ y ≤ 12) (h1 : n = (rlN al z).1) (h2 : d = (rlN al z).2) (h3 : w = if al = 0 then -z.2.1 * z.2.2 else z.2.1)
    (h : ∀ I' L', FrI [(20, 0, 0)] I I' → FrL [(20, 0, 0)] L L' → PrAt I' L' al x y z → Q (.inl none) (gE Lx) I' L' e) :
    if Int64.ofInt (n * (d * (x * x + y * y) - n * x * x)) < Int64.ofInt 0 then
      Wp 34 144 [(0, .ref 20), (1, .ref 17), (5, .long (Int64.ofInt (n * (d * (x * x + y * y) - n * x * x))))] [.long (Int64.ofInt 0), .ref 20] (gE Lx) I (ul (ul (ul (ul (ul L 20 6 (Int64.ofInt x)) 20 7 (Int64.ofInt y)) 20 2 (Int64.ofInt n)) 20 3 (Int64.ofInt d)) 20 4 (Int64.ofInt w)) e Q
    else Wp 32 0 [(0, .long (Int64.ofInt (n * (d * (x * x + y * y) - n * x * x))))] [] (gE Lx) I (ul (ul (ul (ul (ul L 20 6 (Int64.ofInt x)) 20 7 (Int64.ofInt y)) 20 2 (Int64.ofInt n)) 20 3 (Int64.ofInt d)) 20 4 (Int64.ofInt w)) e (kcp (Wp 34) 34 141 0 [(0, .ref 20), (1, .ref 17), (5, .long (Int64.ofInt (n * (d * (x * x + y * y) - n * x * x))))] 71 [.ref 20] Q) := by
  have m1 := mulB hx hx
  have m2 := mulB hy hy
  have n1 := sq_nn x
  have n2 := sq_nn y
  have m3 := mulB (x := d) (y := x * x + y * y) (A := 2000000) (B := 288) (by omega) (by omega)
  have m4 := mulB (x := n) (y := x) (A := 1000000) (B := 12) (by omega) (by omega)
  have m5 := mulB (x := n * x) (y := x) (A := 12000000) (B := 12) (by omega) (by omega)
  have m6 := mulB (x := n) (y := d * (x * x + y * y) - n * x * x) (A := 1000000) (B := 1000000000) (by omega) (by omega)
  have eu : n * (d * (x * x + y * y) - n * x * x) = lay n d x y := rfl
  rw [eu] at m6 ⊢
  have fin : Wp 34 144 [(0, .ref 20), (1, .ref 17), (5, .long (Int64.ofInt (lay n d x y)))] [.long (Int64.ofInt (prR (lay n d x y))), .ref 20] (gE Lx) I (ul (ul (ul (ul (ul L 20 6 (Int64.ofInt x)) 20 7 (Int64.ofInt y)) 20 2 (Int64.ofInt n)) 20 3 (Int64.ofInt d)) 20 4 (Int64.ofInt w)) e Q := by
    refine pr_tail (n := n) (by omega) (by omega) rfl (fun a b hb ha => ?_)
    refine h _ _ (FrI.wu (FrI.wu FrI.rf rfl) rfl) (FrL.wu (FrL.wu (FrL.wu (FrL.wu (FrL.wu (FrL.wu FrL.rf rfl) rfl) rfl) rfl) rfl) rfl) ?_
    unfold PrAt
    rw [← h1, ← h2, ← h3]
    refine ⟨rfl, rfl, rfl, rfl, rfl, rfl, ?_, ?_⟩
    · rw [u_at, hb]
    · rw [u_ne (by decide), u_at]
      rcases ha with ⟨rfl, q⟩ | ⟨rfl, q⟩
      · exact Or.inl ⟨rfl, q⟩
      · exact Or.inr ⟨rfl, q⟩
  refine i_lt64 (by omega) (by omega) (fun k => ?_) (fun k => c_32 (by omega) (fun r hr => kcp_v rfl ?_))
  · have : prR (lay n d x y) = 0 := if_pos k
    rw [this] at fin
    exact fin
  · have : prR (lay n d x y) = r := by unfold prR; rw [if_neg (by omega), rt_eq hr]
    rw [this] at fin
    exact fin
set_option maxHeartbeats 4000000 in
theorem c_34 {al x y : Int} (hal : al = 0 ∨ al = 1) (hx : -12 ≤ x ∧ x ≤ 12) (hy : -12 ≤ y ∧ y ≤ 12) {z : Pt} (ho : PtOk z) (hp : PtAt L z)
    (h : ∀ I' L', FrI [(20, 0, 0)] I I' → FrL [(20, 0, 0)] L L' → PrAt I' L' al x y z → Q (.inl none) (gE Lx) I' L' e) :
    Wp 34 0 [(0, .ref 20), (1, .ref 17), (2, .int (Int32.ofInt al)), (3, .int (Int32.ofInt x)), (4, .int (Int32.ofInt y))] [] (gE Lx) I L e Q := by
  obtain ⟨p0, p1, p2⟩ := hp
  obtain ⟨c1, c2, c3, c4, c5, c6⟩ := sw_b ho
  obtain ⟨o1, o2, o3⟩ := ho
  refine s_34_0 ?_
  rw [p0, p1, p2, i2l (by omega), i2l (by omega)]
  simp only [mul64, add64, sub64, neg64]
  rcases hal with rfl | rfl
  · exact j_0 (j_0 (j_0 (pr_fin (by omega) (by omega) hx hy rfl rfl rfl h)))
  · exact j_1 (j_1 (j_1 (pr_fin (by omega) (by omega) hx hy rfl rfl rfl h)))
end
