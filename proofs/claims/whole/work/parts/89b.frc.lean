/-! Fractions by what they tell; frames of both sides. -/
theorem gI_mul {k a b : Int} (hk : 0 < k) : gI (k * a) (k * b) = k * gI a b := by
  unfold gI
  rw [Int.gcd_mul_left, Int.natCast_mul]
  congr 1
  omega
theorem fU_mul {k a b : Int} (hk : 0 < k) : fU (k * a) (k * b) = fU a b := by
  unfold fU
  rw [gI_mul hk, Int.mul_ediv_mul_of_pos _ _ hk]
  have h1 : (k * a = 0 ∧ k * b = 0) ↔ (a = 0 ∧ b = 0) := by rw [sm_0 (by omega), sm_0 (by omega)]
  have h2 : k * b < 0 ↔ b < 0 := ⟨fun h => by
    rcases (show b < 0 ∨ 0 ≤ b by omega) with z | z
    · exact z
    · have := Int.mul_nonneg (show 0 ≤ k by omega) z; omega, fun h => Int.mul_neg_of_pos_of_neg hk h⟩
  have h3 : k * a < 0 ↔ a < 0 := ⟨fun h => by
    rcases (show a < 0 ∨ 0 ≤ a by omega) with z | z
    · exact z
    · have := Int.mul_nonneg (show 0 ≤ k by omega) z; omega, fun h => Int.mul_neg_of_pos_of_neg hk h⟩
  have h4 : k * b = 0 ↔ b = 0 := sm_0 (by omega)
  simp only [h2, h3, sm_0 (show k ≠ 0 by omega)]
theorem fL_mul {k a b : Int} (hk : 0 < k) : fL (k * a) (k * b) = fL a b := by
  unfold fL
  rw [gI_mul hk, Int.mul_ediv_mul_of_pos _ _ hk]
  have h1 : (k * a = 0 ∧ k * b = 0) ↔ (a = 0 ∧ b = 0) := by rw [sm_0 (by omega), sm_0 (by omega)]
  have h2 : k * b < 0 ↔ b < 0 := ⟨fun h => by
    rcases (show b < 0 ∨ 0 ≤ b by omega) with z | z
    · exact z
    · have := Int.mul_nonneg (show 0 ≤ k by omega) z; omega, fun h => Int.mul_neg_of_pos_of_neg hk h⟩
  simp only [h2, sm_0 (show k ≠ 0 by omega)]
theorem rU_f {a b : Int} (h : b ≠ 0) : rU a b = fU a b := by
  unfold rU fU
  rw [if_neg (c := a = 0 ∧ b = 0) (fun k => h k.2)]
  by_cases hb : b < 0
  · rw [if_pos hb, if_pos (Or.inl hb)]
  · rw [if_neg hb, if_neg (by omega)]
theorem rL_f {a b : Int} (h : b ≠ 0) : rL a b = fL a b := by
  unfold rL fL
  rw [if_neg (c := a = 0 ∧ b = 0) (fun k => h k.2)]
theorem gI_pos {a b : Int} (h : ¬ (a = 0 ∧ b = 0)) : 0 < gI a b := by
  have h1 := gI_nn a b
  have h2 : gI a b ≠ 0 := fun k => h (gI_0.mp k)
  omega
theorem fL_nn (a b : Int) : 0 ≤ fL a b := by
  unfold fL
  split
  · decide
  · next h =>
    have hg := gI_pos h
    split
    · next hb =>
      have : b / gI a b ≤ 0 := by
        have h1 := Int.mul_ediv_cancel' (gI_dr a b)
        rcases (show 0 < b / gI a b ∨ b / gI a b ≤ 0 by omega) with z | z
        · have := Int.mul_pos hg z; omega
        · exact z
      omega
    · next hb => exact Int.ediv_nonneg (by omega) (by omega)
theorem fUL_b {a b B : Int} (h : ¬ (a = 0 ∧ b = 0)) (ha : -B ≤ a ∧ a ≤ B) (hb : -B ≤ b ∧ b ≤ B) : (-B ≤ fU a b ∧ fU a b ≤ B) ∧ (-B ≤ fL a b ∧ fL a b ≤ B) := by
  have hg := gI_pos h
  have h1 := dv_b hg ha (gI_dl a b)
  have h2 := dv_b hg hb (gI_dr a b)
  unfold fU fL
  rw [if_neg h, if_neg h]
  constructor <;> split <;> omega
/-- scratch of the class, of the other side: whole numbers -/
def cS : Fr := [(9, 0, 0), (10, 0, 0), (11, 0, 0), (12, 0, 0), (19, 0, 0), (20, 0, 0), (21, 0, 0), (22, 0, 0), (28, 0, 0), (29, 0, 0), (30, 2, 1), (35, 0, 0), (37, 2, 1), (42, 0, 0), (44, 2, 1), (49, 0, 0), (51, 2, 1), (56, 0, 0)]
def rS : Fr := [(58, 0, 1), (58, 10, 40), (64, 0, 0), (66, 0, 0), (67, 0, 0)]
/-- what a call of the class tells: its code, its answer -/
def CQ (Lx : Nat) (I : Mi) (e : Nat) (Q : Kq) (code : Nat) (val : Int) : Prop := ∀ I' L' e', FrI cS I I' → e' ≤ e + 1 → (code = 0 → L' 70 0 = .ofInt val) → Q (.inl (some (.int (Int32.ofInt (code : Int))))) (gE Lx) I' L' e'
/-- what the other side's tells -/
def RQ (Lx : Nat) (I : Mi) (L : Ml) (e : Nat) (Q : Kq) (code : Nat) (f : Int → Value) (val : Int) : Prop := ∀ I' L' v, FrI rS I I' → L' 70 = L 70 → I' 58 0 = .ofInt (code : Int) → (code = 0 → v = val) → Q (.inl (some (f v))) (gE Lx) I' L' e
abbrev vL (v : Int) : Value := .long (Int64.ofInt v)
abbrev vI (v : Int) : Value := .int (Int32.ofInt v)
theorem CQ.mk {Lx : Nat} {I : Mi} {e : Nat} {Q : Kq} {code : Nat} {val : Int} (h : CQ Lx I e Q code val) {I' : Mi} {L' : Ml} {e' : Nat} {c : Int} (hf : FrI cS I I') (he : e' ≤ e + 1) (hc : c = code) (hv : code = 0 → L' 70 0 = .ofInt val) : Q (.inl (some (.int (Int32.ofInt c)))) (gE Lx) I' L' e' := by
  subst hc
  exact h I' L' e' hf he hv
theorem RQ.mk {Lx : Nat} {I : Mi} {L : Ml} {e : Nat} {Q : Kq} {code : Nat} {f : Int → Value} {val : Int} (h : RQ Lx I L e Q code f val) {I' : Mi} {L' : Ml} {v : Int} (hf : FrI rS I I') (hl : L' 70 = L 70) {c : Int} (hc : I' 58 0 = .ofInt c) (hcc : c = code) (hv : code = 0 → v = val) : Q (.inl (some (f v))) (gE Lx) I' L' e := by
  subst hcc
  exact h I' L' v hf hl hc hv
/-- so many as a whole number told by an int -/
theorem nat_of {m : Int} {n : Nat} (h0 : 0 ≤ m) (h1 : m ≤ n) : ∃ k : Nat, m = k ∧ k ≤ n := ⟨m.toNat, by omega, by omega⟩
theorem i_inb0 {n : Nat} {A B : Prop} (hn : 0 < n) (h : A) : inb (Int32.ofInt 0) n A B := i_inb (k := 0) (by decide) hn h
theorem tnc0 : (Int32.ofInt 0).toNatClampNeg = 0 := rfl
theorem mulR {x y : Int} (A B : Int) (hx : -A ≤ x ∧ x ≤ A) (hy : -B ≤ y ∧ y ≤ B) : -(A * B) ≤ x * y ∧ x * y ≤ A * B := mulB hx hy
theorem wv_b {w : Wv} (h : WB 32845824 w) : (-2157696310910976 ≤ wRe w ∧ wRe w ≤ 2157696310910976) ∧ (-2157696310910976 ≤ wIm w ∧ wIm w ≤ 2157696310910976) ∧ wUp w ≤ 2157696310910976 ∧ wLo w ≤ 2157696310910976 ∧ eUp w ≤ 8630785243643904 ∧ eLo w ≤ 8630785243643904 := by
  obtain ⟨h1, h2, h3, h4⟩ := h
  have a1 := mulB h1 h3; have a2 := mulB h2 h4; have a3 := mulB h2 h3; have a4 := mulB h1 h4
  have b1 := mulB h1 h1; have b2 := mulB h2 h2; have b3 := mulB h3 h3; have b4 := mulB h4 h4
  have e1 := eUp_eq w
  have e2 := eLo_eq w
  unfold wRe wIm wUp wLo at *
  omega
theorem wLo_z {w : Wv} : wLo w = 0 ↔ w.2.2.1 = 0 ∧ w.2.2.2 = 0 := by
  constructor
  · intro h
    refine Classical.byContradiction fun k => ?_
    have := sq2_pos k
    unfold wLo at h
    omega
  · intro h
    unfold wLo
    rw [h.1, h.2]
    rfl
theorem wUp_z {w : Wv} : wUp w = 0 ↔ w.1 = 0 ∧ w.2.1 = 0 := by
  constructor
  · intro h
    refine Classical.byContradiction fun k => ?_
    have := sq2_pos k
    unfold wUp at h
    omega
  · intro h
    unfold wUp
    rw [h.1, h.2]
    rfl
theorem Sc.lo {w r : Wv} (h : Sc w r) : wLo w = 0 ↔ wLo r = 0 := by
  obtain ⟨c, hc, rfl⟩ := h
  rw [wLo_sm, sm_0 (by have := sq_pos hc; omega)]
theorem Sc.up {w r : Wv} (h : Sc w r) : wUp w = 0 ↔ wUp r = 0 := by
  obtain ⟨c, hc, rfl⟩ := h
  rw [wUp_sm, sm_0 (by have := sq_pos hc; omega)]
theorem Sc.fRe {w r : Wv} (h : Sc w r) : fU (wRe w) (wLo w) = fU (wRe r) (wLo r) ∧ fL (wRe w) (wLo w) = fL (wRe r) (wLo r) := by
  obtain ⟨c, hc, rfl⟩ := h
  rw [wRe_sm, wLo_sm]
  exact ⟨fU_mul (sq_pos hc), fL_mul (sq_pos hc)⟩
theorem Sc.fIm {w r : Wv} (h : Sc w r) : fU (wIm w) (wLo w) = fU (wIm r) (wLo r) ∧ fL (wIm w) (wLo w) = fL (wIm r) (wLo r) := by
  obtain ⟨c, hc, rfl⟩ := h
  rw [wIm_sm, wLo_sm]
  exact ⟨fU_mul (sq_pos hc), fL_mul (sq_pos hc)⟩
theorem Sc.fE {w r : Wv} (h : Sc w r) : fU (eUp w) (eLo w) = fU (eUp r) (eLo r) ∧ fL (eUp w) (eLo w) = fL (eUp r) (eLo r) := by
  obtain ⟨c, hc, rfl⟩ := h
  rw [eUp_sm, eLo_sm]
  exact ⟨fU_mul (sq_pos hc), fL_mul (sq_pos hc)⟩
theorem BnAt.th {I : Mi} {ch : Ch} {b o j : Nat} {x : Int32} (h : BnAt I b o ch) (hb : b ≠ 58) : BnAt (ui I 58 j x) b o ch := h.cg (ui_ne hb)
