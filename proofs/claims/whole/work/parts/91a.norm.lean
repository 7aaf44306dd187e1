/-! How large what is seen can get; echoes in ten thousandths. -/
def nr (w : Wv) : Int := wUp w + wLo w
theorem nr_nn (w : Wv) : 0 ≤ nr w := by have := wUp_nn w; have := wLo_nn w; unfold nr; omega
theorem nr_line {p q : Int} {w : Wv} (hp : -12 ≤ p ∧ p ≤ 12) (hq : -12 ≤ q ∧ q ≤ 12) : nr (wLine p q w) ≤ 378 * nr w := by
  have e : nr (wLine p q w) = (p * p + q * q) * nr w := by unfold nr wUp wLo wLine; grind
  obtain ⟨h1, h2⟩ := sqT hp hq
  rw [e]
  have := Int.mul_le_mul_of_nonneg_right (show p * p + q * q ≤ 378 by omega) (nr_nn w)
  exact this
theorem young {A C X t : Int} (h1 : 208 * X ≤ 64 * A + 169 * C) (h2 : -(208 * X) ≤ 64 * A + 169 * C) (ht : -144 ≤ t ∧ t ≤ 144) : 104 * (2 * (t * X)) ≤ 144 * (64 * A + 169 * C) := by
  have m := mulB (x := t) (y := 208 * X) (A := 144) (B := 64 * A + 169 * C) ht (by omega)
  have e : t * (208 * X) = 208 * (t * X) := by grind
  omega
theorem nr_core {u v a b c d : Int} (hu : -12 ≤ u ∧ u ≤ 12) (hv : -12 ≤ v ∧ v ≤ 12) :
    (v * a) * (v * a) + (v * b) * (v * b) + ((v * c - u * b) * (v * c - u * b) + (v * d + u * a) * (v * d + u * a)) ≤ 378 * (a * a + b * b + (c * c + d * d)) := by
  have e : (v * a) * (v * a) + (v * b) * (v * b) + ((v * c - u * b) * (v * c - u * b) + (v * d + u * a) * (v * d + u * a)) = v * v * (a * a + b * b + (c * c + d * d)) + u * u * (a * a + b * b) + 2 * (u * v * (a * d - b * c)) := by grind
  have q1 := sq_nn (8 * a - 13 * d)
  have q2 := sq_nn (8 * b + 13 * c)
  have q3 := sq_nn (8 * a + 13 * d)
  have q4 := sq_nn (8 * b - 13 * c)
  have y1 : 208 * (a * d - b * c) ≤ 64 * (a * a + b * b) + 169 * (c * c + d * d) := by grind
  have y2 : -(208 * (a * d - b * c)) ≤ 64 * (a * a + b * b) + 169 * (c * c + d * d) := by grind
  have n1 : 0 ≤ a * a + b * b := by have := sq_nn a; have := sq_nn b; omega
  have n2 : 0 ≤ c * c + d * d := by have := sq_nn c; have := sq_nn d; omega
  have ht := mulB hu hv
  have hvv := (sqT hv hv).1
  have huu := (sqT hu hu).1
  rw [e]
  generalize a * d - b * c = X at *
  generalize a * a + b * b = A at *
  generalize c * c + d * d = C at *
  have y := young y1 y2 (t := u * v) (by omega)
  have m1 := Int.mul_le_mul_of_nonneg_right hvv.2 (show 0 ≤ A + C by omega)
  have m2 := Int.mul_le_mul_of_nonneg_right huu.2 n1
  omega
theorem nr_ac {u v : Int} {w : Wv} (hu : -12 ≤ u ∧ u ≤ 12) (hv : -12 ≤ v ∧ v ≤ 12) : nr (wAc u v w) ≤ 378 * nr w := by
  unfold wAc
  split
  · have := nr_nn w; omega
  · exact nr_core (a := w.1) (b := w.2.1) (c := w.2.2.1) (d := w.2.2.2) hu hv
theorem nr_al {u v : Int} {w : Wv} (hu : -12 ≤ u ∧ u ≤ 12) (hv : -12 ≤ v ∧ v ≤ 12) : nr (wAl u v w) ≤ 378 * nr w := by
  unfold wAl
  split
  · have := nr_nn w; omega
  · have := nr_core (a := w.2.2.1) (b := w.2.2.2) (c := w.1) (d := w.2.1) hu hv
    have e1 : nr (v * w.1 - u * w.2.2.2, v * w.2.1 + u * w.2.2.1, v * w.2.2.1, v * w.2.2.2) = v * w.2.2.1 * (v * w.2.2.1) + v * w.2.2.2 * (v * w.2.2.2) + ((v * w.1 - u * w.2.2.2) * (v * w.1 - u * w.2.2.2) + (v * w.2.1 + u * w.2.2.1) * (v * w.2.1 + u * w.2.2.1)) := by
      unfold nr wUp wLo
      dsimp only
      omega
    have e2 : nr w = w.2.2.1 * w.2.2.1 + w.2.2.2 * w.2.2.2 + (w.1 * w.1 + w.2.1 * w.2.1) := by
      unfold nr wUp wLo
      omega
    rw [e1, e2]
    exact this
theorem nr_pass {s p q : Int} {w : Wv} (hp : -12 ≤ p ∧ p ≤ 12) (hq : -12 ≤ q ∧ q ≤ 12) : nr (wPass s p q w) ≤ 378 * nr w := by
  unfold wPass
  repeat' split
  · exact nr_line hp hq
  · exact nr_ac hp hq
  · exact nr_ac (by omega) hp
  · exact nr_al (by omega) hp
  · exact nr_al hp hq
theorem isT.bb {p q : Int} (h : isT p q) : (-12 ≤ p ∧ p ≤ 12) ∧ (-12 ≤ q ∧ q ≤ 12) := ⟨h.1, by have := h.2.1; omega⟩
theorem wSeen_n {ch : Ch} (h : ChOk ch) : ∀ k, k ≤ ch.2.2.2.1 → nr (wSeen ch k) ≤ 20002 * 378 ^ k := by
  obtain ⟨h1, h2, h3, h4, h5⟩ := h
  intro k
  induction k with
  | zero =>
    intro _
    have m1 := mulB (x := ch.1) (y := ch.1) (A := 99) (B := 99) (by omega) (by omega)
    have m2 := mulB (x := ch.2.1) (y := ch.2.1) (A := 99) (B := 99) (by omega) (by omega)
    have m3 := mulB (x := ch.2.2.1) (y := ch.2.2.1) (A := 20) (B := 20) (by omega) (by omega)
    rw [Int.pow_zero]
    unfold nr wUp wLo wSeen wBeg
    dsimp only
    omega
  | succ k ih =>
    intro hk
    have h6 := (h5 k (by omega)).2.bb
    have h7 := nr_pass (s := (ch.2.2.2.2 k).1) (w := wSeen ch k) h6.1 h6.2
    have h8 := ih (by omega)
    rw [Int.pow_succ]
    show nr (wPass _ _ _ (wSeen ch k)) ≤ _
    omega
theorem ec_b {ch : Ch} (hok : ChOk ch) {k : Nat} (hk : k ≤ ch.2.2.2.1) : (0 ≤ eUp (wSeen ch k) ∧ eUp (wSeen ch k) ≤ 900000000000000) ∧ (0 < eLo (wSeen ch k) ∧ eLo (wSeen ch k) ≤ 900000000000000) ∧ eUp (wSeen ch k) ≤ eLo (wSeen ch k) := by
  have hg := wSeen_g hok k hk
  have h0 := hg.1
  have h1 := eUp_nn (wSeen ch k)
  have h2 := eLo_pos hg
  have hn := wSeen_n hok k hk
  have h4 := hok.2.2.2.1
  have hb : (20002 : Int) * 378 ^ k ≤ 450000000000000 := by
    have : k = 0 ∨ k = 1 ∨ k = 2 ∨ k = 3 ∨ k = 4 := by omega
    rcases this with rfl | rfl | rfl | rfl | rfl <;> decide
  have e1 := eUp_eq (wSeen ch k)
  have e2 := eLo_eq (wSeen ch k)
  unfold nr at hn
  have e3 : eUp (wSeen ch k) + eLo (wSeen ch k) = 2 * (wUp (wSeen ch k) + wLo (wSeen ch k)) := by omega
  omega
def ecF (w : Wv) : Int × Int := (eUp w, eLo w)
/-- in ten thousandths, rounded down -/
def tpt (p : Int × Int) : Int := 10000 * p.1 / p.2
def efok (p : Int × Int) : Prop := (0 ≤ p.1 ∧ p.1 ≤ 900000000000000) ∧ (0 < p.2 ∧ p.2 ≤ 900000000000000) ∧ p.1 ≤ p.2
theorem ec_f {ch : Ch} (hok : ChOk ch) {k : Nat} (hk : k ≤ ch.2.2.2.1) : efok (ecF (wSeen ch k)) := ec_b hok hk
theorem tpt_b {p : Int × Int} (h : efok p) : 0 ≤ tpt p ∧ tpt p ≤ 10000 := by
  obtain ⟨h1, h2, h3⟩ := h
  unfold tpt
  refine ⟨Int.ediv_nonneg (by omega) (by omega), ?_⟩
  have : 10000 * p.1 / p.2 < 10001 := by
    refine Int.ediv_lt_of_lt_mul h2.1 ?_
    omega
  omega
theorem tpt_red {p : Int × Int} (h : efok p) : 10000 * fU p.1 p.2 / fL p.1 p.2 = tpt p := by
  obtain ⟨h1, h2, h3⟩ := h
  obtain ⟨g, hg, e1, e2⟩ := red h1.1 (show 0 ≤ p.2 by omega) (by omega)
  unfold tpt
  generalize fU p.1 p.2 = a at *
  generalize fL p.1 p.2 = b at *
  rw [e1, e2]
  have : 10000 * (g * a) = g * (10000 * a) := by grind
  rw [this, Int.mul_ediv_mul_of_pos _ _ hg]
section
variable {Lx : Nat} {I : Mi} {L : Ml} {e : Nat} {Q : Kq}
theorem n_tt {p : Int × Int} (h : efok p) (l1 : L 21 1 = .ofInt p.1) (l2 : L 21 2 = .ofInt p.2) (hq : Q (.inl (some (.int (Int32.ofInt (tpt p))))) (gE Lx) I L e) :
    (if (L 21 2) = (Int64.ofInt 0) then
      Q (.inl (some (.int (Int32.ofInt 0)))) (gE Lx) I L e
     else
      (if (L 21 2) = 0 then False else
       Q (.inl (some (.int (((Int64.ofInt 10000) * (L 21 1)) / (L 21 2)).toInt32))) (gE Lx) I L e)) := by
  have tb := tpt_b h
  obtain ⟨h1, h2, h3⟩ := h
  rw [l1, l2, mul64]
  refine i_eq64 (by omega) (by omega) (fun q => by omega) (fun _ => i_nz64 (by omega) (by omega) ?_)
  rw [dvp (by omega) (by omega) h2.1 (by omega), l2i]
  exact hq
theorem l_320 {u l : Int} (hl : 0 < l ∧ l ≤ 900000000000000) : ∀ (n : Nat) (k q r : Int), k + n = 4 → 0 ≤ k → (0 ≤ r ∧ r < l) → (0 ≤ q ∧ q ≤ 100000000) →
    (∀ x : Int, 0 ≤ x → x * l ≤ (q * l + r) * 10 ^ n → (q * l + r) * 10 ^ n < (x + 1) * l → Q (.inl (some (.int (Int32.ofInt x)))) (gE Lx) I L e) → q * 10 ^ n + 10 ^ n ≤ 100000000 →
    Wp 320 13 [(2, .long (Int64.ofInt l)), (4, .long (Int64.ofInt q)), (6, .long (Int64.ofInt r)), (8, .int (Int32.ofInt k))] [] (gE Lx) I L e Q := by
  intro n
  induction n with
  | zero =>
    intro k q r hk hk0 hr hq h hb
    refine s_320_13 (i_lt32 (by omega) (by omega) (fun _ => by omega) (fun _ => ?_))
    rw [l2i]
    refine h q hq.1 ?_ ?_
    · rw [Int.pow_zero]; omega
    · have e1 : (q + 1) * l = q * l + l := by rw [Int.add_mul, Int.one_mul]
      rw [Int.pow_zero, e1]; omega
  | succ n ih =>
    intro k q r hk hk0 hr hq h hb
    have hd := Int.mul_ediv_add_emod (10 * r) l
    have m1 := Int.emod_nonneg (10 * r) (show l ≠ 0 by omega)
    have m2 := Int.emod_lt_of_pos (10 * r) hl.1
    have q1 : 0 ≤ 10 * r / l := Int.ediv_nonneg (by omega) (by omega)
    have q2 : 10 * r / l < 10 := Int.ediv_lt_of_lt_mul hl.1 (by omega)
    have p0 : (0 : Int) < 10 ^ n := Int.pow_pos (by decide)
    rw [Int.pow_succ] at h hb
    have hqb : q * (10 ^ n * 10) = 10 * (q * 10 ^ n) := by grind
    have hq3 : 0 ≤ q * 10 ^ n := Int.mul_nonneg hq.1 (by omega)
    have hq4 : q * 1 ≤ q * 10 ^ n := Int.mul_le_mul_of_nonneg_left (by omega) hq.1
    refine s_320_13 (i_lt32 (by omega) (by omega) (fun _ => i_nz64 (by omega) (by omega) (i_nz64 (by omega) (by omega) ?_)) (fun _ => by omega))
    rw [mul64, mul64, rmp (by omega) (by omega) hl.1 (by omega), dvp (by omega) (by omega) hl.1 (by omega), add64, add32]
    have e1 : (10 * q + 10 * r / l) * l + 10 * r % l = 10 * (q * l + r) := by
      generalize 10 * r / l = a at *
      generalize 10 * r % l = b at *
      grind
    have e2 : ∀ X : Int, 10 * X * 10 ^ n = X * (10 ^ n * 10) := fun X => by grind
    refine ih (k + 1) (10 * q + 10 * r / l) (10 * r % l) (by omega) (by omega) ⟨m1, m2⟩ (by omega) (fun x x0 x1 x2 => h x x0 ?_ ?_) ?_
    · rw [e1, e2] at x1; exact x1
    · rw [e1, e2] at x2; exact x2
    · have : (10 * q + 10 * r / l) * 10 ^ n = 10 * (q * 10 ^ n) + 10 * r / l * 10 ^ n := by
        generalize 10 * r / l = a at *
        grind
      have t2 : 10 * r / l * 10 ^ n ≤ 9 * 10 ^ n := Int.mul_le_mul_of_nonneg_right (by omega) (by omega)
      omega
theorem c_320 {u l : Int} (hu : 0 ≤ u ∧ u ≤ 900000000000000) (hl : 0 < l ∧ l ≤ 900000000000000) (hul : u ≤ l) (h : Q (.inl (some (.int (Int32.ofInt (10000 * u / l))))) (gE Lx) I L e) :
    Wp 320 0 [(0, .long (Int64.ofInt u)), (2, .long (Int64.ofInt l))] [] (gE Lx) I L e Q := by
  have hd := Int.mul_ediv_add_emod u l
  have m1 := Int.emod_nonneg u (show l ≠ 0 by omega)
  have m2 := Int.emod_lt_of_pos u hl.1
  have q1 : 0 ≤ u / l := Int.ediv_nonneg (by omega) (by omega)
  have q2 : u / l < 2 := Int.ediv_lt_of_lt_mul hl.1 (by omega)
  refine s_320_0 (i_nz64 (by omega) (by omega) (i_nz64 (by omega) (by omega) ?_))
  rw [rmp (by omega) (by omega) hl.1 (by omega), dvp (by omega) (by omega) hl.1 (by omega)]
  refine l_320 (u := u) hl 4 0 (u / l) (u % l) (by omega) (by omega) ⟨m1, m2⟩ (by omega) (fun x x0 x1 x2 => ?_) (by
    have : u / l * 10 ^ 4 = 10000 * (u / l) := by rw [Int.mul_comm]; rfl
    have t : (10 : Int) ^ 4 = 10000 := by decide
    omega)
  have e1 : u / l * l + u % l = u := by rw [Int.mul_comm]; exact hd
  have t : (10 : Int) ^ 4 = 10000 := by decide
  rw [e1, t] at x1 x2
  have : 10000 * u / l = x := by
    refine Int.le_antisymm ?_ ?_
    · have : 10000 * u / l < x + 1 := Int.ediv_lt_of_lt_mul hl.1 (by omega)
      omega
    · exact Int.le_ediv_of_mul_le hl.1 (by omega)
  rw [this] at h
  exact h
/-- what the other side holds of the least -/
def LeAt (I : Mi) (L : Ml) (f : Nat → Int × Int) : Option Nat → Prop
  | none => I 58 30 = .ofInt 0
  | some j => I 58 30 = .ofInt 1 ∧ L 58 25 = .ofInt (fU (f j).1 (f j).2) ∧ L 58 26 = .ofInt (fL (f j).1 (f j).2)
theorem LeAt.cg {I I' : Mi} {L L' : Ml} {f : Nat → Int × Int} {c : Option Nat} (h : LeAt I L f c) (e0 : I' 58 30 = I 58 30) (e1 : L' 58 25 = L 58 25) (e2 : L' 58 26 = L 58 26) : LeAt I' L' f c := by
  cases c with
  | none => exact e0.trans h
  | some j => exact ⟨e0.trans h.1, e1.trans h.2.1, e2.trans h.2.2⟩
theorem ev_c {w : Wv} (hB : WB 32845824 w) (hG : Good w) : (0 ≤ eUp w ∧ eUp w ≤ 20000000000000000) ∧ (0 < eLo w ∧ eLo w ≤ 20000000000000000) := by
  obtain ⟨v1, v2, v3, v4, v5, v6⟩ := wv_b hB
  have := eUp_nn w
  have := eLo_pos hG
  omega
/-- the echo goes to the fraction at hand -/
theorem c_240 {w r : Wv} (hr : RvAt L r) (hs : Sc w r) (hB : WB 32845824 r) (hG : Good w) (h : ∀ L', FrL [(58, 8, 2)] L L' → L' 58 8 = .ofInt (fU (eUp w) (eLo w)) → L' 58 9 = .ofInt (fL (eUp w) (eLo w)) → Q (.inl none) (gE Lx) I L' e) :
    Wp 240 0 [(0, .ref 58)] [] (gE Lx) I L e Q := by
  obtain ⟨w0, w1, w2, w3⟩ := hr
  have hGr := hG.sc hs
  have eb := ev_c hB hGr
  have fe := hs.fE
  refine s_240_0 ?_
  rw [w0, w1, w2, w3]
  simp only [mul64, add64, sub64]
  refine c_236 (a := eUp r) (b := eLo r) (by omega) (by omega) (fun L1 hf1 u1 l1 => kcp_v rfl (s_240_46 (h L1 hf1 ?_ ?_)))
  · rw [u1, rU_f (by omega), fe.1]
  · rw [l1, rL_f (by omega), fe.2]
set_option maxHeartbeats 4000000 in
/-- what is seen is asked for its echo -/
theorem c_315 {w r : Wv} (hr : RvAt L r) (hs : Sc w r) (hB : WB 32845824 r) (hG : Good w) {f : Nat → Int × Int} {k : Nat} {c : Option Nat} (hfk : f k = ecF w) (hok : efok (f k)) (hc : ∀ j, c = some j → efok (f j)) (hl : LeAt I L f c) {a b d : Int32}
    (h1 : (∀ j, c = some j → bt (-1) f k j) → ∀ I' L', FrI [(58, 27, 4)] I I' → FrL [(58, 8, 2), (58, 25, 2)] L L' → LeAt I' L' f (some k) → I' 58 27 = a → I' 58 28 = b → I' 58 29 = d → Q (.inl none) (gE Lx) I' L' e)
    (h0 : (∃ j, c = some j ∧ ¬ bt (-1) f k j) → ∀ L', FrL [(58, 8, 2), (58, 25, 2)] L L' → LeAt I L' f c → Q (.inl none) (gE Lx) I L' e) :
    Wp 315 0 [(0, .ref 58), (1, .int a), (2, .int b), (3, .int d)] [] (gE Lx) I L e Q := by
  refine s_315_0 (c_240 hr hs hB hG (fun L1 hf1 u1 l1 => kcp_v rfl (s_315_4 ?_)))
  have efk : (f k).1 = eUp w ∧ (f k).2 = eLo w := by rw [hfk]; exact ⟨rfl, rfl⟩
  rw [← efk.1, ← efk.2] at u1 l1
  obtain ⟨k1, k2, k3⟩ := hok
  have ck := fr_b (n := (f k).1) (d := (f k).2) k1.1 k2.1
  have hl1 : LeAt I L1 f c := hl.cg rfl (hf1 58 25 rfl) (hf1 58 26 rfl)
  have take : (∀ j, c = some j → bt (-1) f k j) → Q (.inl none) (gE Lx) (ui (ui (ui (ui I 58 30 (Int32.ofInt 1)) 58 27 a) 58 28 b) 58 29 d) (ul (ul L1 58 25 (L1 58 8)) 58 26 (L1 58 9)) e := fun q => by
    refine h1 q _ _ (FrI.wu (FrI.wu (FrI.wu (FrI.wu FrI.rf rfl) rfl) rfl) rfl) (FrL.wu (FrL.wu (hf1.up rfl) rfl) rfl) ⟨rfl, ?_, ?_⟩ rfl rfl rfl
    · rw [l_ne (by decide), l_at, u1]
    · rw [l_at, l1]
  have stay : (∃ j, c = some j ∧ ¬ bt (-1) f k j) → Q (.inl none) (gE Lx) I L1 e := fun q => h0 q L1 (hf1.up rfl) hl1
  cases c with
  | none =>
    have hl2 : I 58 30 = .ofInt 0 := hl1
    rw [hl2]
    exact j_0 (take (fun j hj => by cases hj))
  | some j =>
    obtain ⟨s0, s1, s2⟩ := hl1
    obtain ⟨j1, j2, j3⟩ := hc j rfl
    have cj := fr_b (n := (f j).1) (d := (f j).2) j1.1 j2.1
    have sr := sg_red (n := (f k).1) (d := (f k).2) (n2 := (f j).1) (d2 := (f j).2) k1.1 k2.1 j1.1 j2.1
    rw [s0]
    refine j_1 ?_
    rw [u1, l1, s1, s2]
    refine c_316 (by omega) (by omega) (by omega) (by omega) (kcp_v rfl (s_315_30 ?_))
    rw [← sr]
    have eb : bt (-1) f k j ↔ sg ((f k).1 * (f j).2 - (f j).1 * (f k).2) = -1 := Iff.rfl
    rcases Int.lt_trichotomy ((f k).1 * (f j).2 - (f j).1 * (f k).2) 0 with q | q | q
    · rw [sg_n q]
      exact i_ltz (by omega) (fun _ => take (fun j2 hj2 => by cases hj2; exact sg_n q)) (fun w => by omega)
    · rw [sg_z q]
      exact i_ltz (by omega) (fun w => by omega) (fun _ => stay ⟨j, rfl, fun w => by rw [eb, sg_z q] at w; omega⟩)
    · rw [sg_p q]
      exact i_ltz (by omega) (fun w => by omega) (fun _ => stay ⟨j, rfl, fun w => by rw [eb, sg_p q] at w; omega⟩)
end
