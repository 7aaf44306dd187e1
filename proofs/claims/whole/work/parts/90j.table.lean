/-! The table of TANGENTS, on both sides; what calls with a TANGENT and a MARK need. -/
def TGL : List (Int × Int) := [(0, 1), (1, 12), (1, 11), (1, 10), (1, 9), (1, 8), (1, 7), (1, 6), (2, 11), (1, 5), (2, 9), (1, 4), (3, 11), (2, 7), (3, 10), (1, 3), (4, 11), (3, 8), (2, 5), (5, 12), (3, 7), (4, 9), (5, 11), (1, 2), (6, 11), (5, 9), (4, 7), (7, 12), (3, 5), (5, 8), (7, 11), (2, 3), (7, 10), (5, 7), (8, 11), (3, 4), (7, 9), (4, 5), (9, 11), (5, 6), (6, 7), (7, 8), (8, 9), (9, 10), (10, 11), (11, 12), (1, 1), (12, 11), (11, 10), (10, 9), (9, 8), (8, 7), (7, 6), (6, 5), (11, 9), (5, 4), (9, 7), (4, 3), (11, 8), (7, 5), (10, 7), (3, 2), (11, 7), (8, 5), (5, 3), (12, 7), (7, 4), (9, 5), (11, 6), (2, 1), (11, 5), (9, 4), (7, 3), (12, 5), (5, 2), (8, 3), (11, 4), (3, 1), (10, 3), (7, 2), (11, 3), (4, 1), (9, 2), (5, 1), (11, 2), (6, 1), (7, 1), (8, 1), (9, 1), (10, 1), (11, 1), (12, 1), (1, 0), (-12, 1), (-11, 1), (-10, 1), (-9, 1), (-8, 1), (-7, 1), (-6, 1), (-11, 2), (-5, 1), (-9, 2), (-4, 1), (-11, 3), (-7, 2), (-10, 3), (-3, 1), (-11, 4), (-8, 3), (-5, 2), (-12, 5), (-7, 3), (-9, 4), (-11, 5), (-2, 1), (-11, 6), (-9, 5), (-7, 4), (-12, 7), (-5, 3), (-8, 5), (-11, 7), (-3, 2), (-10, 7), (-7, 5), (-11, 8), (-4, 3), (-9, 7), (-5, 4), (-11, 9), (-6, 5), (-7, 6), (-8, 7), (-9, 8), (-10, 9), (-11, 10), (-12, 11), (-1, 1), (-11, 12), (-10, 11), (-9, 10), (-8, 9), (-7, 8), (-6, 7), (-5, 6), (-9, 11), (-4, 5), (-7, 9), (-3, 4), (-8, 11), (-5, 7), (-7, 10), (-2, 3), (-7, 11), (-5, 8), (-3, 5), (-7, 12), (-4, 7), (-5, 9), (-6, 11), (-1, 2), (-5, 11), (-4, 9), (-3, 7), (-5, 12), (-2, 5), (-3, 8), (-4, 11), (-1, 3), (-3, 10), (-2, 7), (-3, 11), (-1, 4), (-2, 9), (-1, 5), (-2, 11), (-1, 6), (-1, 7), (-1, 8), (-1, 9), (-1, 10), (-1, 11), (-1, 12)]
def tgU (k : Nat) : Int := (TGL.getD k (0, 1)).1
def tgL (k : Nat) : Int := (TGL.getD k (0, 1)).2
set_option maxRecDepth 100000 in
theorem tg_0 : ∀ k, k < 184 → ((-12 ≤ tgU k ∧ tgU k ≤ 12) ∧ (0 ≤ tgL k ∧ tgL k ≤ 12) ∧ Int.gcd (tgU k) (tgL k) = 1 ∧ (0 < tgL k ∨ tgU k = 1)) := by decide +kernel
theorem tg_t {k : Nat} (h : k < 184) : isT (tgU k) (tgL k) := by
  obtain ⟨h1, h2, h3, h4⟩ := tg_0 k h
  exact ⟨h1, h2, by unfold gI; rw [h3]; rfl, h4⟩
theorem tg_b {k : Nat} (h : k < 184) : (-12 ≤ tgU k ∧ tgU k ≤ 12) ∧ (-12 ≤ tgL k ∧ tgL k ≤ 12) := by
  obtain ⟨h1, h2, h3, h4⟩ := tg_0 k h
  exact ⟨h1, by omega⟩
/-- the rows of the class, of the other side -/
def TabAt (I : Mi) : Prop := ∀ k, k < 184 → I 3 k = .ofInt (tgU k) ∧ I 4 k = .ofInt (tgL k)
def TabRt (I : Mi) : Prop := I 58 7 = .ofInt 184 ∧ ∀ k, k < 184 → I 61 k = .ofInt (tgU k) ∧ I 62 k = .ofInt (tgL k)
theorem TabAt.cg {I I' : Mi} (h : TabAt I) (e3 : I' 3 = I 3) (e4 : I' 4 = I 4) : TabAt I' := by unfold TabAt; rw [e3, e4]; exact h
theorem TabRt.cg {I I' : Mi} (h : TabRt I) (e1 : I' 58 7 = I 58 7) (e3 : I' 61 = I 61) (e4 : I' 62 = I 62) : TabRt I' := by unfold TabRt; rw [e1, e3, e4]; exact h
theorem TabRt.th {I : Mi} (h : TabRt I) {x : Int32} : TabRt (ui I 58 0 x) := h.cg rfl rfl rfl
def sml (m : Int) (k : Nat) : Prop := (-m ≤ tgU k ∧ tgU k ≤ m) ∧ tgL k ≤ m
section
variable {Lx : Nat} {I : Mi} {L : Ml} {e : Nat} {Q : Kq}
theorem c_69 (hT : TabAt I) {k : Nat} (hk : k < 184) (h : Q (.inl (some (.int (Int32.ofInt (tgU k))))) (gE Lx) I L e) : Wp 69 0 [(0, .ref 2), (1, .int (Int32.ofInt k))] [] (gE Lx) I L e Q := by
  refine s_69_0 ?_
  rw [tncn (by omega), (hT k hk).1]
  exact i_ltz (by omega) (fun _ => by omega) (fun _ => i_lt32 (by omega) (by omega) (fun _ => i_inb (by omega) hk h) (fun _ => by omega))
theorem c_70 (hT : TabAt I) {k : Nat} (hk : k < 184) (h : Q (.inl (some (.int (Int32.ofInt (tgL k))))) (gE Lx) I L e) : Wp 70 0 [(0, .ref 2), (1, .int (Int32.ofInt k))] [] (gE Lx) I L e Q := by
  refine s_70_0 ?_
  rw [tncn (by omega), (hT k hk).2]
  exact i_ltz (by omega) (fun _ => by omega) (fun _ => i_lt32 (by omega) (by omega) (fun _ => i_inb (by omega) hk h) (fun _ => by omega))
theorem c_71 (hT : TabAt I) {k : Nat} (hk : k < 184) {m : Int} (hm : 1 ≤ m ∧ m ≤ 12) (h1 : sml m k → Q (.inl (some (.int (Int32.ofInt 1)))) (gE Lx) I L e) (h0 : ¬ sml m k → Q (.inl (some (.int (Int32.ofInt 0)))) (gE Lx) I L e) : Wp 71 0 [(0, .ref 2), (1, .int (Int32.ofInt k)), (2, .int (Int32.ofInt m))] [] (gE Lx) I L e Q := by
  have tb := tg_b hk
  unfold sml at h1 h0
  refine s_71_0 (c_69 hT hk (kcp_v rfl (s_71_5 ?_)))
  rw [neg32]
  have low : (-m ≤ tgU k ∧ tgU k ≤ m) → Wp 70 0 [(0, .ref 2), (1, .int (Int32.ofInt k))] [] (gE Lx) I L e (kcp (Wp 71) 71 14 0 [(0, .ref 2), (2, .int (Int32.ofInt m))] 71 [] Q) := fun q =>
    c_70 hT hk (kcp_v rfl (s_71_17 (i_lt32 (by omega) (by omega) (fun k1 => h0 (by omega)) (fun k1 => h1 (by omega)))))
  exact i_ltz (by omega) (fun k0 => i_lt32 (by omega) (by omega) (fun k1 => h0 (by omega)) (fun k1 => low (by omega))) (fun k0 => i_lt32 (by omega) (by omega) (fun k1 => h0 (by omega)) (fun k1 => low (by omega)))
/-- a MARK's distance, on the class' side -/
theorem n_dist {x y : Int} (hx : R32 x) (hy : R32 y) (h1 : isT x y → x ≠ 0 → Q (.inl none) (gE Lx) I L e) (h0 : ¬ (isT x y ∧ x ≠ 0) → Q (.inr 101) (gE Lx) I L (e + 1)) :
    Wp 114 0 [(0, .long (Int32.ofInt x).toInt64), (2, .long (Int32.ofInt y).toInt64)] [] (gE Lx) I L e (kcp (Wp 151) 151 4 0 [(0, .ref 1), (1, .int (Int32.ofInt x))] 71 [] Q) := by
  rw [i2l hx, i2l hy]
  exact c_114 (by omega) (by omega) (fun ht => kcp_v rfl (s_151_7 (j_1 (i_eqz hx (fun k0 => h0 (fun q => q.2 k0)) (fun k0 => h1 ht k0))))) (fun ht => kcp_v rfl (s_151_7 (j_0 (h0 (fun q => ht q.1)))))
def gdP (al : Int) (w : Wv) : Prop := fine w ∧ ¬ (al = 0 ∧ (pt w).1 = 0 ∧ (pt w).2.1 = 0)
/-- the other side's test of a TANGENT and a MARK -/
theorem n_282 {ch : Ch} (hok : ChOk ch) (hc : BnAt I 59 0 ch) {j : Nat} (hj : j ≤ ch.2.2.2.1) {al x y : Int} (hal : al = 0 ∨ al = 1) (hx : R32 x) (hy : R32 y)
    (h2 : ¬ (isT x y ∧ x ≠ 0) → Q (.inl (some (.int (Int32.ofInt 2)))) (gE Lx) I L e)
    (h3 : isT x y → x ≠ 0 → ¬ gdP al (wSeen ch j) → ∀ L', FrL [(58, 10, 7)] L L' → Q (.inl (some (.int (Int32.ofInt 3)))) (gE Lx) I L' e)
    (h0 : isT x y → x ≠ 0 → gdP al (wSeen ch j) → ∀ L', FrL [(58, 10, 7)] L L' → RpAt L' (pt (wSeen ch j)) → Q (.inl (some (.int (Int32.ofInt 0)))) (gE Lx) I L' e) :
    Wp 207 0 [(0, .int (Int32.ofInt x)), (1, .int (Int32.ofInt y))] [] (gE Lx) I L e (kcp (Wp 280) 280 2 0 [(0, .int (Int32.ofInt x))] 71 [] (kcp (Wp 282) 282 15 0 [(0, .ref 58), (1, .int (Int32.ofInt j)), (2, .int (Int32.ofInt al))] 71 [] Q)) := by
  refine c_207 hx hy (fun ht => kcp_v rfl (s_280_5 (j_1 (i_eqz hx (fun k0 => kcp_v rfl (s_282_18 (j_0 (h2 (fun q => q.2 k0))))) (fun k0 => kcp_v rfl (s_282_18 (j_1 ?_))))))) (fun ht => kcp_v rfl (s_280_5 (j_0 (kcp_v rfl (s_282_18 (j_0 (h2 (fun q => ht q.1))))))))
  exact c_274 hok hc hj (show R32 al by omega) (fun hfi hnn L1 hf1 hp => kcp_v rfl (s_282_31 (j_1 (h0 ht k0 ⟨hfi, hnn⟩ L1 hf1 hp)))) (fun hn L1 hf1 => kcp_v rfl (s_282_31 (j_0 (h3 ht k0 hn L1 hf1))))
/-- what is seen, from a told point -/
def wZ (z : Pt) : Wv := (z.1, z.2.1, z.2.2, 0)
theorem wZ_B {z : Pt} (ho : PtOk z) : WB 1000 (wZ z) := ⟨by have := ho.1; show -1000 ≤ z.1 ∧ z.1 ≤ 1000; omega, ho.2.1, by have := ho.2.2; show -1000 ≤ z.2.2 ∧ z.2.2 ≤ 1000; omega, by show -1000 ≤ (0 : Int) ∧ (0 : Int) ≤ 1000; omega⟩
theorem wZ_g {z : Pt} (ho : PtOk z) : Good (wZ z) := by
  obtain ⟨o1, o2, o3⟩ := ho
  refine ⟨?_, fun q => ?_⟩
  · show 0 ≤ z.1 * z.2.2 + z.2.1 * 0
    have := Int.mul_nonneg o1.1 (show 0 ≤ z.2.2 by omega)
    omega
  · have : z.2.2 = 0 := q.2.2.1
    omega
theorem n_276 {z : Pt} (ho : PtOk z) (hp : RpAt L z) (h : ∀ L' r, FrL [(58, 10, 4)] L L' → RvAt L' r → Sc (wZ z) r → WB 1000 r → Q (.inl none) (gE Lx) I L' e) :
    Wp 228 0 [(0, .ref 58), (1, .long (L 58 14)), (3, .long (L 58 15)), (5, .long (L 58 16)), (7, .long (Int64.ofInt 0))] [] (gE Lx) I L e (kcp (Wp 276) 276 14 0 [(0, .ref 58)] 71 [] Q) := by
  obtain ⟨p0, p1, p2⟩ := hp
  rw [p0, p1, p2]
  have hB := wZ_B ho
  have hg := wZ_g ho
  exact c_228 (x := wZ z) (hB.le (by decide)) hg.2 (fun L2 hf2 hW => kcp_v rfl (s_276_17 (h L2 _ hf2 hW (nW_sc hg.2) (nW_B hg.2 hB))))
/-- no way for two stubs, from what is seen -/
def und (al : Int) (w : Wv) : Int := if al = 0 then wUp w else wLo w
def bar (al x y : Int) (w : Wv) : Prop := wRe w = 0 ∨ und al w = 0 ∨ und al w * (x * x + y * y) < wRe w * (x * x)
theorem und_sm (al c : Int) (w : Wv) : und al (sm c w) = (c * c) * und al w := by
  unfold und
  split
  · exact wUp_sm c w
  · exact wLo_sm c w
theorem bar_sc {al x y : Int} {w r : Wv} (h : Sc w r) : bar al x y w ↔ bar al x y r := by
  obtain ⟨c, hc, rfl⟩ := h
  have hcc := sq_pos hc
  unfold bar
  rw [und_sm, wRe_sm, sm_0 (by omega), sm_0 (by omega), Int.mul_assoc, Int.mul_assoc (c * c) (wRe r)]
  have e : c * c * (und al r * (x * x + y * y)) < c * c * (wRe r * (x * x)) ↔ und al r * (x * x + y * y) < wRe r * (x * x) := by
    constructor
    · intro q
      exact Int.lt_of_mul_lt_mul_left q (by omega)
    · intro q
      exact Int.mul_lt_mul_of_pos_left q hcc
  rw [e]
theorem und_b {al : Int} {w : Wv} (h : WB 32845824 w) : 0 ≤ und al w ∧ und al w ≤ 2157696310910976 := by
  obtain ⟨v1, v2, v3, v4, v5, v6⟩ := wv_b h
  have := wLo_nn w
  have := wUp_nn w
  unfold und
  split <;> omega
theorem sqT {x y : Int} (hx : -12 ≤ x ∧ x ≤ 12) (hy : -12 ≤ y ∧ y ≤ 12) : (0 ≤ x * x ∧ x * x ≤ 144) ∧ (0 ≤ x * x + y * y ∧ x * x + y * y ≤ 288) := by
  have m1 := mulB hx hx
  have m2 := mulB hy hy
  have n1 := sq_nn x
  have n2 := sq_nn y
  omega
set_option maxHeartbeats 4000000 in
theorem c_158 {w : Wv} (hW : WvAt L 16 w) (hB : WB 32845824 w) (hG : Good w) {al x y : Int} (hal : R32 al) (hx : -12 ≤ x ∧ x ≤ 12) (hy : -12 ≤ y ∧ y ≤ 12) (hx0 : x ≠ 0)
    (h1 : bar al x y w → Q (.inl (some (.int (Int32.ofInt 1)))) (gE Lx) I L e) (h0 : ¬ bar al x y w → Q (.inl (some (.int (Int32.ofInt 0)))) (gE Lx) I L e) :
    Wp 158 0 [(0, .ref 1), (1, .ref 16), (2, .int (Int32.ofInt al)), (3, .int (Int32.ofInt x)), (4, .int (Int32.ofInt y))] [] (gE Lx) I L e Q := by
  obtain ⟨w0, w1, w2, w3⟩ := hW
  obtain ⟨v1, v2, v3, v4, v5, v6⟩ := wv_b hB
  have ub := und_b (al := al) hB
  obtain ⟨t1, t2⟩ := sqT hx hy
  have g1 := hG.1
  have hxx := sq_pos hx0
  have n3 := wUp_nn w
  have n4 := wLo_nn w
  refine s_158_0 ?_
  rw [w0, w1, w2, w3, i2l (by omega), i2l (by omega)]
  simp only [mul64, add64]
  have go : und al w ≠ 0 → wRe w ≠ 0 → Wp 23 0 [(0, .long (Int64.ofInt (wRe w))), (2, .long (Int64.ofInt (und al w))), (4, .long (Int64.ofInt (x * x + y * y))), (6, .long (Int64.ofInt (x * x)))] [] (gE Lx) I L e (kcp (Wp 158) 158 51 0 [(0, .ref 1), (1, .ref 16)] 71 [] Q) := by
    intro u0 r0
    refine c_23 (by omega) (by omega) (by omega) (by omega) (fun q => by omega) (fun q => by omega) (kcp_v rfl (s_158_54 ?_))
    rcases Int.lt_trichotomy (wRe w * (x * x) - (x * x + y * y) * und al w) 0 with q | q | q
    · rw [sg_n q]
      refine i_zlt (by omega) (fun k => by omega) (fun _ => h0 (fun z => ?_))
      rcases z with z | z | z
      · exact r0 z
      · exact u0 z
      · rw [Int.mul_comm (und al w)] at z; omega
    · rw [sg_z q]
      refine i_zlt (by omega) (fun k => by omega) (fun _ => h0 (fun z => ?_))
      rcases z with z | z | z
      · exact r0 z
      · exact u0 z
      · rw [Int.mul_comm (und al w)] at z; omega
    · rw [sg_p q]
      refine i_zlt (by omega) (fun _ => h1 (Or.inr (Or.inr ?_))) (fun k => by omega)
      rw [Int.mul_comm (und al w)]; omega
  refine i_eqz hal (fun k0 => ?_) (fun k0 => ?_)
  · have eu : und al w = wUp w := if_pos k0
    rw [eu] at go
    exact i_lt64 (y := wRe w) (by omega) (by omega) (fun k1 => i_lt64 (y := wUp w) (by omega) (by omega) (fun k2 => go (by omega) (by omega)) (fun k2 => h1 (Or.inr (Or.inl (by omega))))) (fun k1 => h1 (Or.inl (by omega)))
  · have eu : und al w = wLo w := if_neg k0
    rw [eu] at go
    exact i_lt64 (y := wRe w) (by omega) (by omega) (fun k1 => i_lt64 (y := wLo w) (by omega) (by omega) (fun k2 => go (by omega) (by omega)) (fun k2 => h1 (Or.inr (Or.inl (by omega))))) (fun k1 => h1 (Or.inl (by omega)))
set_option maxHeartbeats 4000000 in
/-- the other side's test of the same -/
theorem n_294 {r : Wv} (hr : RvAt L r) (hB : WB 32845824 r) {al x y : Int} (hal : R32 al) (hx : -12 ≤ x ∧ x ≤ 12) (hy : -12 ≤ y ∧ y ≤ 12) {A B : Prop} (h1 : bar al x y r → A) (h0 : ¬ bar al x y r → B) :
    (if (Int32.ofInt al) = 0 then
     (if (((L 58 10) * (L 58 12)) + ((L 58 11) * (L 58 13))) = (Int64.ofInt 0) then
      A
     else
      (if (((L 58 10) * (L 58 10)) + ((L 58 11) * (L 58 11))) = (Int64.ofInt 0) then
       A
      else
       (if ((((L 58 10) * (L 58 10)) + ((L 58 11) * (L 58 11))) * (((Int32.ofInt x).toInt64 * (Int32.ofInt x).toInt64) + ((Int32.ofInt y).toInt64 * (Int32.ofInt y).toInt64))) < (((((L 58 10) * (L 58 12)) + ((L 58 11) * (L 58 13))) * (Int32.ofInt x).toInt64) * (Int32.ofInt x).toInt64) then
        A
       else
        B)))
    else
     (if (((L 58 10) * (L 58 12)) + ((L 58 11) * (L 58 13))) = (Int64.ofInt 0) then
      A
     else
      (if (((L 58 12) * (L 58 12)) + ((L 58 13) * (L 58 13))) = (Int64.ofInt 0) then
       A
      else
       (if ((((L 58 12) * (L 58 12)) + ((L 58 13) * (L 58 13))) * (((Int32.ofInt x).toInt64 * (Int32.ofInt x).toInt64) + ((Int32.ofInt y).toInt64 * (Int32.ofInt y).toInt64))) < (((((L 58 10) * (L 58 12)) + ((L 58 11) * (L 58 13))) * (Int32.ofInt x).toInt64) * (Int32.ofInt x).toInt64) then
        A
       else
        B)))) := by
  obtain ⟨w0, w1, w2, w3⟩ := hr
  obtain ⟨v1, v2, v3, v4, v5, v6⟩ := wv_b hB
  have ub := und_b (al := al) hB
  obtain ⟨t1, t2⟩ := sqT hx hy
  have n3 := wUp_nn r
  have n4 := wLo_nn r
  rw [w0, w1, w2, w3, i2l (by omega), i2l (by omega)]
  simp only [mul64, add64]
  have m1 := mulB (x := und al r) (y := x * x + y * y) (A := 2157696310910976) (B := 288) (by omega) (by omega)
  have m2 := mulB (x := wRe r) (y := x * x) (A := 2157696310910976) (B := 144) (by omega) (by omega)
  have em : wRe r * x * x = wRe r * (x * x) := Int.mul_assoc ..
  unfold bar at h1 h0
  refine i_eqz hal (fun k0 => ?_) (fun k0 => ?_)
  · have eu : und al r = wUp r := if_pos k0
    rw [eu] at h1 h0 m1
    refine i_eq64 (x := wRe r) (by omega) (by omega) (fun k1 => h1 (Or.inl k1)) (fun k1 => i_eq64 (x := wUp r) (by omega) (by omega) (fun k2 => h1 (Or.inr (Or.inl k2))) (fun k2 => ?_))
    refine i_lt64 (x := wUp r * (x * x + y * y)) (y := wRe r * x * x) (by omega) (by omega) (fun k3 => h1 (Or.inr (Or.inr (by omega)))) (fun k3 => h0 (fun q => ?_))
    rcases q with q | q | q
    · exact k1 q
    · exact k2 q
    · omega
  · have eu : und al r = wLo r := if_neg k0
    rw [eu] at h1 h0 m1
    refine i_eq64 (x := wRe r) (by omega) (by omega) (fun k1 => h1 (Or.inl k1)) (fun k1 => i_eq64 (x := wLo r) (by omega) (by omega) (fun k2 => h1 (Or.inr (Or.inl k2))) (fun k2 => ?_))
    refine i_lt64 (x := wLo r * (x * x + y * y)) (y := wRe r * x * x) (by omega) (by omega) (fun k3 => h1 (Or.inr (Or.inr (by omega)))) (fun k3 => h0 (fun q => ?_))
    rcases q with q | q | q
    · exact k1 q
    · exact k2 q
    · omega
end
