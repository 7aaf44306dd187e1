/-! The plain states and the machine's: how one stands for the other. -/
abbrev BJ : Type := (Nat → Nat) × (Nat → ClassId) × List (ClassId × FieldType)
def cv (a : Nat → Nat) (v : Value) : Value := match v with | .ref k => .ref (a k) | w => w
def cvl (a : Nat → Nat) (l : Lv) : Lv := l.map fun q => (q.1, cv a q.2)
def fcv (a : Nat → Nat) (g : GS) (I : Mi) (L : Ml) (kd k j : Nat) : Value := match kd with | 0 => .int (I k j) | 1 => .int (I k j) | 2 => .long (L k j) | _ => va_rf ((g.2.2.2 k j).map a)
def wce (B : BJ) (g : GS) (I : Mi) (L : Ml) (k : Nat) : va_E :=
  if (shk g.2.2.1 k).1 = 20 then .inl (B.2.1 k, (shk g.2.2.1 k).2, .inl (I k))
  else if (shk g.2.2.1 k).1 = 21 then .inl (B.2.1 k, (shk g.2.2.1 k).2, .inr (.inl (L k)))
  else if (shk g.2.2.1 k).1 = 22 then .inl (B.2.1 k, (shk g.2.2.1 k).2, .inr (.inr (.inr (.inr (fun j => (g.2.2.2 k j).map B.1)))))
  else .inr ((shk g.2.2.1 k).1, (List.range (shk g.2.2.1 k).2).map fun j => fcv B.1 g I L (fk (shk g.2.2.1 k).1 j) k j)
def wld (B : BJ) (g : GS) (I : Mi) (L : Ml) : va_W := (List.range (g.1 - 1)).map fun i => (B.1 (i + 1), wce B g I L (i + 1))
theorem wld_at {B : BJ} {g : GS} {I : Mi} {L : Ml} {k : Nat} (hk : 0 < k) (hn : k < g.1) : (wld B g I L)[k - 1]? = some (B.1 k, wce B g I L k) := by
  unfold wld
  rw [List.getElem?_map, List.getElem?_range (by omega)]
  show some (B.1 (k - 1 + 1), wce B g I L (k - 1 + 1)) = _
  rw [Nat.sub_add_cancel hk]
theorem wld_len {B : BJ} {g : GS} {I : Mi} {L : Ml} : (wld B g I L).length = g.1 - 1 := by unfold wld; rw [List.length_map, List.length_range]
theorem wld_set {B : BJ} {g g' : GS} {I I' : Mi} {L L' : Ml} {k : Nat} (hk : 0 < k) (hn : k < g.1) (h1 : g'.1 = g.1) (h2 : ∀ j, j ≠ k → wce B g' I' L' j = wce B g I L j) : (wld B g I L).set (k - 1) (B.1 k, wce B g' I' L' k) = wld B g' I' L' := by
  apply List.ext_getElem?
  intro i
  by_cases hi : i = k - 1
  · subst hi
    rw [List.getElem?_set_self (by rw [wld_len]; omega), wld_at hk (by rw [h1]; exact hn)]
  · rw [List.getElem?_set_ne (fun h => hi h.symm)]
    unfold wld
    rw [h1, List.getElem?_map, List.getElem?_map]
    by_cases hr : i < g.1 - 1
    · rw [List.getElem?_range hr]
      show some (B.1 (i + 1), wce B g I L (i + 1)) = some (B.1 (i + 1), wce B g' I' L' (i + 1))
      rw [h2 (i + 1) (by omega)]
    · rw [List.getElem?_eq_none (by rw [List.length_range]; omega)]
      rfl
theorem wld_new {B B' : BJ} {g g' : GS} {I I' : Mi} {L L' : Ml} (h0 : 0 < g.1) (h1 : g'.1 = g.1 + 1) (ha : ∀ j, 0 < j → j < g.1 → B'.1 j = B.1 j) (h2 : ∀ j, 0 < j → j < g.1 → wce B' g' I' L' j = wce B g I L j) : wld B g I L ++ [(B'.1 g.1, wce B' g' I' L' g.1)] = wld B' g' I' L' := by
  unfold wld
  have e : g'.1 - 1 = (g.1 - 1) + 1 := by omega
  have e2 : g.1 - 1 + 1 = g.1 := by omega
  rw [e, List.range_succ, List.map_append]
  congr 1
  · apply List.map_congr_left
    intro i hi
    have hi := List.mem_range.mp hi
    rw [ha (i + 1) (by omega) (by omega), h2 (i + 1) (by omega) (by omega)]
  · show [(B'.1 g.1, wce B' g' I' L' g.1)] = [(B'.1 (g.1 - 1 + 1), wce B' g' I' L' (g.1 - 1 + 1))]
    rw [e2]
theorem wce_i {B : BJ} {g : GS} {I : Mi} {L : Ml} {k : Nat} (h : (shk g.2.2.1 k).1 = 20) : wce B g I L k = .inl (B.2.1 k, (shk g.2.2.1 k).2, .inl (I k)) := by unfold wce; rw [if_pos h]
theorem wce_l {B : BJ} {g : GS} {I : Mi} {L : Ml} {k : Nat} (h : (shk g.2.2.1 k).1 = 21) : wce B g I L k = .inl (B.2.1 k, (shk g.2.2.1 k).2, .inr (.inl (L k))) := by unfold wce; rw [if_neg (by omega), if_pos h]
theorem wce_r {B : BJ} {g : GS} {I : Mi} {L : Ml} {k : Nat} (h : (shk g.2.2.1 k).1 = 22) : wce B g I L k = .inl (B.2.1 k, (shk g.2.2.1 k).2, .inr (.inr (.inr (.inr (fun j => (g.2.2.2 k j).map B.1))))) := by unfold wce; rw [if_neg (by omega), if_neg (by omega), if_pos h]
theorem wce_o {B : BJ} {g : GS} {I : Mi} {L : Ml} {k : Nat} (h : (shk g.2.2.1 k).1 < 13) : wce B g I L k = .inr ((shk g.2.2.1 k).1, (List.range (shk g.2.2.1 k).2).map fun j => fcv B.1 g I L (fk (shk g.2.2.1 k).1 j) k j) := by unfold wce; rw [if_neg (by omega), if_neg (by omega), if_neg (by omega)]
theorem cv_rfv (a : Nat → Nat) (r : Option Nat) : cv a (rfv r) = va_rf (r.map a) := by cases r <;> rfl
theorem cv_fvl (a : Nat → Nat) (g : GS) (I : Mi) (L : Ml) (kd k j : Nat) : cv a (fvl g I L kd k j) = fcv a g I L kd k j := by
  unfold fvl fcv
  rcases kd with _ | _ | _ | kd
  · rfl
  · rfl
  · rfl
  · exact cv_rfv _ _
theorem cv_cat (a : Nat → Nat) (v : Value) : (cv a v).category = v.category := by cases v <;> rfl
theorem csm_cv (a : Nat → Nat) (l : List Value) : ((l.map (cv a)).map fun v => v.category).sum = csm l := by
  unfold csm
  rw [List.map_map]
  congr 1
  apply List.map_congr_left
  intro v _
  exact cv_cat a v
theorem cvl_st1 (a : Nat → Nat) (l : Lv) (i : Nat) (v : Value) : (i, cv a v) :: (cvl a l).filter (fun q => !(q.1 == i) && !(q.1 + 1 == i && q.2.category == 2)) = cvl a (st1 l i v) := by
  unfold st1 cvl
  rw [List.map_cons, List.filter_map]
  congr 1
  congr 1
  apply List.filter_congr
  intro q _
  simp only [Function.comp, cv_cat]
theorem cvl_st2 (a : Nat → Nat) (l : Lv) (i : Nat) (v : Value) : (i, cv a v) :: (cvl a l).filter (fun q => !(q.1 == i) && (!(q.1 == i + 1) && !(q.1 + 1 == i && q.2.category == 2))) = cvl a (st2 l i v) := by
  unfold st2 cvl
  rw [List.map_cons, List.filter_map]
  congr 1
  congr 1
  apply List.filter_congr
  intro q _
  simp only [Function.comp, cv_cat]
theorem lk_mem {l : Lv} {k : Nat} {v : Value} (h : lk l k = some v) : (k, v) ∈ l := by
  induction l with
  | nil => cases h
  | cons q l ih =>
    change cond (Nat.beq q.1 k) (some q.2) (lk l k) = some v at h
    cases hc : Nat.beq q.1 k with
    | false => rw [hc] at h; exact List.mem_cons_of_mem _ (ih h)
    | true =>
      rw [hc] at h
      cases h
      have e := Nat.eq_of_beq_eq_true hc
      subst e
      exact List.mem_cons_self
theorem lk_has {LS : Array Slot} {nL : Nat} {a : Nat → Nat} {l : Lv} {k : Nat} {v : Value} (hl : lv_has LS nL (cvl a l)) (h : lk l k = some v) : LS[k]? = some (.val (cv a v)) :=
  hl.2.2 (k, cv a v) (List.mem_map.mpr ⟨(k, v), lk_mem h, rfl⟩)
theorem lk_at {LS : Array Slot} {nL : Nat} {a : Nat → Nat} {l : Lv} {k : Nat} {v : Value} (h : lk l k = some v) : ∃ j : Nat, (cvl a l)[j]? = some (k, cv a v) := by
  obtain ⟨j, hj⟩ := List.getElem?_of_mem (List.mem_map.mpr ⟨(k, v), lk_mem h, rfl⟩ : (k, cv a v) ∈ cvl a l)
  exact ⟨j, hj⟩
theorem ftc_mem {l : List Rw} {pc : Nat} {r : Rw} (h : ftc l pc = some r) : r ∈ l ∧ r.1 = pc := by
  induction l with
  | nil => cases h
  | cons q l ih =>
    change cond (Nat.beq q.1 pc) (some q) (ftc l pc) = some r at h
    cases hc : Nat.beq q.1 pc with
    | false => rw [hc] at h; exact ⟨List.mem_cons_of_mem _ (ih h).1, (ih h).2⟩
    | true =>
      rw [hc] at h
      cases h
      exact ⟨List.mem_cons_self, Nat.eq_of_beq_eq_true hc⟩
/-! which actions come of what -/
section
variable {A : Type} {a : A}
theorem aI2_i {f st} {k : List Value → Option A} (h : aI2 f st k none = some a) : ∃ y x r, st = .int y :: .int x :: r ∧ k (.int (f x y) :: r) = some a := by unfold aI2 at h; split at h <;> first | exact ⟨_, _, _, rfl, h⟩ | cases h
theorem aI2z_i {f st} {k : List Value → Option A} (h : aI2z f st k none = some a) : ∃ y x r, st = .int y :: .int x :: r ∧ ¬ y = 0 ∧ k (.int (f x y) :: r) = some a := by
  unfold aI2z at h
  split at h
  · split at h
    · cases h
    · rename_i hy; exact ⟨_, _, _, rfl, hy, h⟩
  · cases h
theorem aI1_i {f st} {k : List Value → Option A} (h : aI1 f st k none = some a) : ∃ x r, st = .int x :: r ∧ k (f x :: r) = some a := by unfold aI1 at h; split at h <;> first | exact ⟨_, _, rfl, h⟩ | cases h
theorem aL2_i {f st} {k : List Value → Option A} (h : aL2 f st k none = some a) : ∃ y x r, st = .long y :: .long x :: r ∧ k (.long (f x y) :: r) = some a := by unfold aL2 at h; split at h <;> first | exact ⟨_, _, _, rfl, h⟩ | cases h
theorem aL2z_i {f st} {k : List Value → Option A} (h : aL2z f st k none = some a) : ∃ y x r, st = .long y :: .long x :: r ∧ ¬ y = 0 ∧ k (.long (f x y) :: r) = some a := by
  unfold aL2z at h
  split at h
  · split at h
    · cases h
    · rename_i hy; exact ⟨_, _, _, rfl, hy, h⟩
  · cases h
theorem aL1_i {f st} {k : List Value → Option A} (h : aL1 f st k none = some a) : ∃ x r, st = .long x :: r ∧ k (f x :: r) = some a := by unfold aL1 at h; split at h <;> first | exact ⟨_, _, rfl, h⟩ | cases h
theorem aSh_i {f st} {k : List Value → Option A} (h : aSh f st k none = some a) : ∃ y x r, st = .int y :: .long x :: r ∧ k (.long (f x y) :: r) = some a := by unfold aSh at h; split at h <;> first | exact ⟨_, _, _, rfl, h⟩ | cases h
theorem cond_i {c : Bool} {x : Option A} (h : cond c x none = some a) : c = true ∧ x = some a := by cases c <;> first | exact ⟨rfl, h⟩ | cases h
theorem aDup_i {st} {k : List Value → Option A} (h : aDup st k none = some a) : ∃ v r, st = v :: r ∧ v.category = 1 ∧ k (v :: v :: r) = some a := by
  unfold aDup at h
  split at h
  · obtain ⟨h1, h2⟩ := cond_i h; exact ⟨_, _, rfl, Nat.eq_of_beq_eq_true h1, h2⟩
  · cases h
theorem aPop_i {st} {k : List Value → Option A} (h : aPop st k none = some a) : ∃ v r, st = v :: r ∧ v.category = 1 ∧ k r = some a := by
  unfold aPop at h
  split at h
  · obtain ⟨h1, h2⟩ := cond_i h; exact ⟨_, _, rfl, Nat.eq_of_beq_eq_true h1, h2⟩
  · cases h
theorem aDup2_i {st} {k : List Value → Option A} (h : aDup2 st k none = some a) : (∃ v w r, st = v :: w :: r ∧ v.category = 1 ∧ w.category = 1 ∧ k (v :: w :: v :: w :: r) = some a) ∨ (∃ v r, st = v :: r ∧ v.category = 2 ∧ k (v :: v :: r) = some a) := by
  unfold aDup2 at h
  split at h
  · rename_i v w r
    cases hc : (Nat.beq v.category 1 && Nat.beq w.category 1) with
    | true =>
      rw [hc] at h
      obtain ⟨h1, h2⟩ := Bool.and_eq_true_iff.mp hc
      exact Or.inl ⟨_, _, _, rfl, Nat.eq_of_beq_eq_true h1, Nat.eq_of_beq_eq_true h2, h⟩
    | false =>
      rw [hc] at h
      obtain ⟨h1, h2⟩ := cond_i h
      exact Or.inr ⟨_, _, rfl, Nat.eq_of_beq_eq_true h1, h2⟩
  · obtain ⟨h1, h2⟩ := cond_i h; exact Or.inr ⟨_, _, rfl, Nat.eq_of_beq_eq_true h1, h2⟩
  · cases h
theorem aLdI_i {o} {k : Value → Option A} (h : aLdI o k none = some a) : ∃ x, o = some (.int x) ∧ k (.int x) = some a := by unfold aLdI at h; split at h <;> first | exact ⟨_, rfl, h⟩ | cases h
theorem aLdL_i {o} {k : Value → Option A} (h : aLdL o k none = some a) : ∃ x, o = some (.long x) ∧ k (.long x) = some a := by unfold aLdL at h; split at h <;> first | exact ⟨_, rfl, h⟩ | cases h
theorem aLdA_i {o} {k : Value → Option A} (h : aLdA o k none = some a) : ∃ x, o = some (.ref x) ∧ k (.ref x) = some a := by unfold aLdA at h; split at h <;> first | exact ⟨_, rfl, h⟩ | cases h
theorem aStI_i {n ls st} {k : Lv → List Value → Option A} (h : aStI n ls st k none = some a) : ∃ x r, st = .int x :: r ∧ k (st1 ls n (.int x)) r = some a := by unfold aStI at h; split at h <;> first | exact ⟨_, _, rfl, h⟩ | cases h
theorem aStA_i {n ls st} {k : Lv → List Value → Option A} (h : aStA n ls st k none = some a) : ∃ x r, st = .ref x :: r ∧ k (st1 ls n (.ref x)) r = some a := by unfold aStA at h; split at h <;> first | exact ⟨_, _, rfl, h⟩ | cases h
theorem aStL_i {n ls st} {k : Lv → List Value → Option A} (h : aStL n ls st k none = some a) : ∃ x r, st = .long x :: r ∧ k (st2 ls n (.long x)) r = some a := by unfold aStL at h; split at h <;> first | exact ⟨_, _, rfl, h⟩ | cases h
theorem aInc_i {o n c ls} {k : Lv → Option A} (h : aInc o n c ls k none = some a) : ∃ x, o = some (.int x) ∧ k (st1 ls n (.int (x + Int32.ofInt c))) = some a := by unfold aInc at h; split at h <;> first | exact ⟨_, rfl, h⟩ | cases h
theorem nblt {a b : Nat} (h : Nat.blt a b = true) : a < b := Nat.le_of_ble_eq_true h
theorem aGet_i {ci j st g I L} {k : List Value → Option A} (h : aGet ci j st g I L k none = some a) : ∃ q r, st = .ref q :: r ∧ (shk g.2.2.1 q).1 = ci ∧ q < g.1 ∧ 0 < q ∧ k (fvl g I L (fk ci j) q j :: r) = some a := by
  unfold aGet at h
  split at h
  · obtain ⟨h1, h2⟩ := cond_i h
    simp only [Bool.and_eq_true] at h1
    exact ⟨_, _, rfl, Nat.eq_of_beq_eq_true h1.1.1, nblt h1.1.2, nblt h1.2, h2⟩
  · cases h
theorem aPut_i {ci j st g I L} {k : List Value → GS → Mi → Ml → Option A} (h : aPut ci j st g I L k none = some a) :
    (∃ x q r, st = .int x :: .ref q :: r ∧ (shk g.2.2.1 q).1 = ci ∧ q < g.1 ∧ 0 < q ∧ (fk ci j = 0 ∨ (fk ci j = 1 ∧ (x = 0 ∨ x = 1))) ∧ k r g (ui I q j x) L = some a) ∨
    (∃ x q r, st = .long x :: .ref q :: r ∧ (shk g.2.2.1 q).1 = ci ∧ q < g.1 ∧ 0 < q ∧ fk ci j = 2 ∧ k r g I (ul L q j x) = some a) ∨
    (∃ v q r, st = .ref v :: .ref q :: r ∧ (shk g.2.2.1 q).1 = ci ∧ q < g.1 ∧ 0 < q ∧ fk ci j = 3 ∧ v < g.1 ∧ k r (g.1, g.2.1, g.2.2.1, ur g.2.2.2 q j (some v)) I L = some a) := by
  unfold aPut at h
  split at h
  · obtain ⟨h1, h2⟩ := cond_i h
    simp only [Bool.and_eq_true] at h1
    refine Or.inl ⟨_, _, _, rfl, Nat.eq_of_beq_eq_true h1.1.1, nblt h1.1.2, nblt h1.2, ?_⟩
    split at h2
    · rename_i e; exact ⟨Or.inl e, h2⟩
    · rename_i e
      split at h2
      · rename_i e2; subst e2; exact ⟨Or.inr ⟨e, Or.inl rfl⟩, h2⟩
      · split at h2
        · rename_i e2; subst e2; exact ⟨Or.inr ⟨e, Or.inr rfl⟩, h2⟩
        · cases h2
    · cases h2
  · obtain ⟨h1, h2⟩ := cond_i h
    simp only [Bool.and_eq_true] at h1
    exact Or.inr (Or.inl ⟨_, _, _, rfl, Nat.eq_of_beq_eq_true h1.1.1.1, nblt h1.1.1.2, nblt h1.1.2, Nat.eq_of_beq_eq_true h1.2, h2⟩)
  · obtain ⟨h1, h2⟩ := cond_i h
    simp only [Bool.and_eq_true] at h1
    exact Or.inr (Or.inr ⟨_, _, _, rfl, Nat.eq_of_beq_eq_true h1.1.1.1.1, nblt h1.1.1.1.2, nblt h1.1.1.2, Nat.eq_of_beq_eq_true h1.1.2, nblt h1.2, h2⟩)
  · cases h
theorem inb_i {i : Int32} {n : Nat} {x : Option A} (h : inb i n x none = some a) : vp_in i n ∧ x = some a := by
  unfold inb at h
  split at h
  · cases h
  · rename_i h1
    split at h
    · rename_i h2; exact ⟨fun z => z.elim h1 (fun z => absurd h2 (Nat.not_lt.mpr z)), h⟩
    · cases h
theorem aLen_i {st g} {k : List Value → Option A} (h : aLen st g k none = some a) : ∃ q r, st = .ref q :: r ∧ 20 ≤ (shk g.2.2.1 q).1 ∧ (shk g.2.2.1 q).1 ≤ 22 ∧ q < g.1 ∧ k (.int (Int32.ofNat (shk g.2.2.1 q).2) :: r) = some a := by
  unfold aLen at h
  split at h
  · obtain ⟨h1, h2⟩ := cond_i h
    simp only [Bool.and_eq_true] at h1
    exact ⟨_, _, rfl, Nat.le_of_ble_eq_true h1.1.1, Nat.le_of_ble_eq_true h1.1.2, nblt h1.2, h2⟩
  · cases h
theorem aIald_i {st g I} {k : List Value → Option A} (h : aIald st g I k none = some a) : ∃ i q r, st = .int i :: .ref q :: r ∧ (shk g.2.2.1 q).1 = 20 ∧ q < g.1 ∧ vp_in i (shk g.2.2.1 q).2 ∧ k (.int (I q i.toNatClampNeg) :: r) = some a := by
  unfold aIald at h
  split at h
  · obtain ⟨h1, h2⟩ := cond_i h
    simp only [Bool.and_eq_true] at h1
    obtain ⟨h3, h4⟩ := inb_i h2
    exact ⟨_, _, _, rfl, Nat.eq_of_beq_eq_true h1.1, nblt h1.2, h3, h4⟩
  · cases h
theorem aLald_i {st g L} {k : List Value → Option A} (h : aLald st g L k none = some a) : ∃ i q r, st = .int i :: .ref q :: r ∧ (shk g.2.2.1 q).1 = 21 ∧ q < g.1 ∧ 0 < q ∧ vp_in i (shk g.2.2.1 q).2 ∧ k (.long (L q i.toNatClampNeg) :: r) = some a := by
  unfold aLald at h
  split at h
  · obtain ⟨h1, h2⟩ := cond_i h
    simp only [Bool.and_eq_true] at h1
    obtain ⟨h3, h4⟩ := inb_i h2
    exact ⟨_, _, _, rfl, Nat.eq_of_beq_eq_true h1.1.1, nblt h1.1.2, nblt h1.2, h3, h4⟩
  · cases h
theorem aAald_i {st g} {k : List Value → Option A} (h : aAald st g k none = some a) : ∃ i q r, st = .int i :: .ref q :: r ∧ (shk g.2.2.1 q).1 = 22 ∧ q < g.1 ∧ 0 < q ∧ vp_in i (shk g.2.2.1 q).2 ∧ k (rfv (g.2.2.2 q i.toNatClampNeg) :: r) = some a := by
  unfold aAald at h
  split at h
  · obtain ⟨h1, h2⟩ := cond_i h
    simp only [Bool.and_eq_true] at h1
    obtain ⟨h3, h4⟩ := inb_i h2
    exact ⟨_, _, _, rfl, Nat.eq_of_beq_eq_true h1.1.1, nblt h1.1.2, nblt h1.2, h3, h4⟩
  · cases h
theorem aIast_i {st g I} {k : List Value → Mi → Option A} (h : aIast st g I k none = some a) : ∃ x i q r, st = .int x :: .int i :: .ref q :: r ∧ (shk g.2.2.1 q).1 = 20 ∧ q < g.1 ∧ 0 < q ∧ vp_in i (shk g.2.2.1 q).2 ∧ k r (ui I q i.toNatClampNeg x) = some a := by
  unfold aIast at h
  split at h
  · obtain ⟨h1, h2⟩ := cond_i h
    simp only [Bool.and_eq_true] at h1
    obtain ⟨h3, h4⟩ := inb_i h2
    exact ⟨_, _, _, _, rfl, Nat.eq_of_beq_eq_true h1.1.1, nblt h1.1.2, nblt h1.2, h3, h4⟩
  · cases h
theorem aLast_i {st g L} {k : List Value → Ml → Option A} (h : aLast st g L k none = some a) : ∃ x i q r, st = .long x :: .int i :: .ref q :: r ∧ (shk g.2.2.1 q).1 = 21 ∧ q < g.1 ∧ 0 < q ∧ vp_in i (shk g.2.2.1 q).2 ∧ k r (ul L q i.toNatClampNeg x) = some a := by
  unfold aLast at h
  split at h
  · obtain ⟨h1, h2⟩ := cond_i h
    simp only [Bool.and_eq_true] at h1
    obtain ⟨h3, h4⟩ := inb_i h2
    exact ⟨_, _, _, _, rfl, Nat.eq_of_beq_eq_true h1.1.1, nblt h1.1.2, nblt h1.2, h3, h4⟩
  · cases h
theorem aAast_i {st g} {k : List Value → GS → Option A} (h : aAast st g k none = some a) : ∃ v i q r, st = .ref v :: .int i :: .ref q :: r ∧ (shk g.2.2.1 q).1 = 22 ∧ q < g.1 ∧ 0 < q ∧ (shk g.2.2.1 v).1 = 7 ∧ v < g.1 ∧ 0 < v ∧ vp_in i (shk g.2.2.1 q).2 ∧ k r (g.1, g.2.1, g.2.2.1, ur g.2.2.2 q i.toNatClampNeg (some v)) = some a := by
  unfold aAast at h
  split at h
  · obtain ⟨h1, h2⟩ := cond_i h
    simp only [Bool.and_eq_true] at h1
    obtain ⟨h3, h4⟩ := inb_i h2
    exact ⟨_, _, _, _, rfl, Nat.eq_of_beq_eq_true h1.1.1.1.1.1, nblt h1.1.1.1.1.2, nblt h1.1.1.1.2, Nat.eq_of_beq_eq_true h1.1.1.2, nblt h1.1.2, nblt h1.2, h3, h4⟩
  · cases h
theorem aNew_i {ci len ls st g I L} {k : List Value → GS → Mi → Ml → Option A} (h : aNew ci len ls st g I L k none = some a) : ci < 13 ∧ aAll g.1 st = true ∧ aAll g.1 (ls.map Prod.snd) = true ∧ k (.ref g.1 :: st) (gnw ci len g) (ri I g.1 (fun _ => 0)) (rl L g.1 (fun _ => 0)) = some a := by
  unfold aNew at h
  obtain ⟨h1, h2⟩ := cond_i h
  simp only [Bool.and_eq_true] at h1
  exact ⟨nblt h1.1.1, h1.1.2, h1.2, h2⟩
theorem aNwa_i {kd ls st g I L} {k : List Value → GS → Mi → Ml → Option A} (h : aNwa kd ls st g I L k none = some a) : ∃ n r, st = .int n :: r ∧ aAll g.1 st = true ∧ aAll g.1 (ls.map Prod.snd) = true ∧ ¬ n < 0 ∧ ¬ 1000 < n ∧ k (.ref g.1 :: r) (gnw kd n.toNatClampNeg g) (ri I g.1 (fun _ => 0)) (rl L g.1 (fun _ => 0)) = some a := by
  unfold aNwa at h
  split at h
  · obtain ⟨h1, h2⟩ := cond_i h
    simp only [Bool.and_eq_true] at h1
    split at h2
    · cases h2
    · rename_i n0
      split at h2
      · cases h2
      · rename_i n1
        exact ⟨_, _, rfl, h1.1, h1.2, n0, n1, h2⟩
  · cases h
theorem aOin_i {st} {k : List Value → Option A} (h : aOin st k none = some a) : ∃ q r, st = .ref q :: r ∧ csm r ≤ 8 ∧ k r = some a := by
  unfold aOin at h
  split at h
  · obtain ⟨h1, h2⟩ := cond_i h; exact ⟨_, _, rfl, Nat.le_of_ble_eq_true h1, h2⟩
  · cases h
theorem aCpy_i {st g I} {k : List Value → Mi → Option A} (h : aCpy st g I k none = some a) : ∃ n dp a1 sp a0, st = [.int n, .int dp, .ref a1, .int sp, .ref a0] ∧ (shk g.2.2.1 a0).1 = 20 ∧ a0 < g.1 ∧ 0 < a0 ∧ (shk g.2.2.1 a1).1 = 20 ∧ a1 < g.1 ∧ 0 < a1 ∧ ¬ n < 0 ∧ ¬ sp < 0 ∧ ¬ dp < 0 ∧ sp.toNatClampNeg + n.toNatClampNeg ≤ (shk g.2.2.1 a0).2 ∧ dp.toNatClampNeg + n.toNatClampNeg ≤ (shk g.2.2.1 a1).2 ∧ k [] (ri I a1 (va_cpy (I a0) (I a1) sp.toNatClampNeg dp.toNatClampNeg n.toNatClampNeg)) = some a := by
  unfold aCpy at h
  split at h
  · obtain ⟨h1, h2⟩ := cond_i h
    simp only [Bool.and_eq_true] at h1
    split at h2
    · cases h2
    · split at h2
      · cases h2
      · split at h2
        · cases h2
        · split at h2
          · split at h2
            · rename_i n0 n1 n2 n3 n4
              exact ⟨_, _, _, _, _, rfl, Nat.eq_of_beq_eq_true h1.1.1.1.1.1, nblt h1.1.1.1.1.2, nblt h1.1.1.1.2, Nat.eq_of_beq_eq_true h1.1.1.2, nblt h1.1.2, nblt h1.2, n0, n1, n2, n3, n4, h2⟩
            · cases h2
          · cases h2
  · cases h
theorem aBr2_i {c st} {t f : List Value → Option A} (h : aBr2 c st t f none = some a) : ∃ y x r, st = .int y :: .int x :: r ∧ bri c x y (t r) (f r) = some a := by unfold aBr2 at h; split at h <;> first | exact ⟨_, _, _, rfl, h⟩ | cases h
theorem aBr1_i {c st} {t f : List Value → Option A} (h : aBr1 c st t f none = some a) : ∃ x r, st = .int x :: r ∧ bri c x 0 (t r) (f r) = some a := by unfold aBr1 at h; split at h <;> first | exact ⟨_, _, rfl, h⟩ | cases h
theorem aBrL_i {nx st} {t : Nat → List Value → Option A} {f : List Value → Option A} (h : aBrL nx st t f none = some a) : ∃ q c o len e1 e2 e3 y x r, nx = some (q, .ifCond c o, len, e1, e2, e3) ∧ st = .long y :: .long x :: r ∧ brl c x y (t e1 r) (f r) = some a := by
  unfold aBrL at h
  split at h
  · split at h
    · exact ⟨_, _, _, _, _, _, _, _, _, _, rfl, rfl, h⟩
    · cases h
  · cases h
theorem aTsw_i {lo offs st} {k : Int → List Value → Option A} {d : List Value → Option A} (h : aTsw lo offs st k d none = some a) : ∃ x r, st = .int x :: r ∧ swt x offs lo (fun o => k o r) (d r) = some a := by unfold aTsw at h; split at h <;> first | exact ⟨_, _, rfl, h⟩ | cases h
theorem aLsw_i {ps st} {k : Int → List Value → Option A} {d : List Value → Option A} (h : aLsw ps st k d none = some a) : ∃ x r, st = .int x :: r ∧ swl x ps (fun o => k o r) (d r) = some a := by unfold aLsw at h; split at h <;> first | exact ⟨_, _, rfl, h⟩ | cases h
theorem aRtI_i {bo st} {k : Int32 → Option A} (h : aRtI bo st k none = some a) : ∃ x, st = [.int x] ∧ (bo = 0 ∨ x = 0 ∨ x = 1) ∧ k x = some a := by
  unfold aRtI at h
  split at h
  · cases hc : Nat.beq bo 0 with
    | true => rw [hc] at h; exact ⟨_, rfl, Or.inl (Nat.eq_of_beq_eq_true hc), h⟩
    | false =>
      rw [hc] at h
      change (if _ then _ else _) = _ at h
      split at h
      · rename_i e; subst e; exact ⟨_, rfl, Or.inr (Or.inl rfl), h⟩
      · split at h
        · rename_i e; subst e; exact ⟨_, rfl, Or.inr (Or.inr rfl), h⟩
        · cases h
  · cases h
theorem aRtL_i {st} {k : Int64 → Option A} (h : aRtL st k none = some a) : ∃ x, st = [.long x] ∧ k x = some a := by unfold aRtL at h; split at h <;> first | exact ⟨_, rfl, h⟩ | cases h
theorem aRtV_i {st} {k : Option A} (h : aRtV st k none = some a) : st = [] ∧ k = some a := by unfold aRtV at h; split at h <;> first | exact ⟨rfl, h⟩ | cases h
theorem aCal_i {m2 k mx st} {c : List Value → List Value → Option A} (h : aCal m2 k mx st c none = some a) : csm (st.drop k) ≤ 8 ∧ (st.take k).length = k ∧ m2 < 420 ∧ csm (st.take k) ≤ mx ∧ c (st.take k).reverse (st.drop k) = some a := by
  unfold aCal at h
  obtain ⟨h1, h2⟩ := cond_i h
  simp only [Bool.and_eq_true] at h1
  exact ⟨Nat.le_of_ble_eq_true h1.1.1.1, Nat.eq_of_beq_eq_true h1.1.1.2, nblt h1.1.2, Nat.le_of_ble_eq_true h1.2, h2⟩
theorem bri_i {c x y} {t f : Option A} (h : bri c x y t f = some a) : (c = .eq → (x = y ∧ t = some a) ∨ (¬ x = y ∧ f = some a)) ∧ (c = .ne → (x = y ∧ f = some a) ∨ (¬ x = y ∧ t = some a)) ∧ (c = .lt → (x < y ∧ t = some a) ∨ (¬ x < y ∧ f = some a)) ∧ (c = .ge → (x < y ∧ f = some a) ∨ (¬ x < y ∧ t = some a)) ∧ (c = .gt → (y < x ∧ t = some a) ∨ (¬ y < x ∧ f = some a)) ∧ (c = .le → (y < x ∧ f = some a) ∨ (¬ y < x ∧ t = some a)) := by
  refine ⟨?_, ?_, ?_, ?_, ?_, ?_⟩ <;> (rintro rfl; unfold bri at h; dsimp only at h; split at h <;> rename_i hc <;> first | exact Or.inl ⟨hc, h⟩ | exact Or.inr ⟨hc, h⟩)
theorem brl_i {c x y} {t f : Option A} (h : brl c x y t f = some a) : (c = .eq → (x = y ∧ t = some a) ∨ (¬ x = y ∧ f = some a)) ∧ (c = .ne → (x = y ∧ f = some a) ∨ (¬ x = y ∧ t = some a)) ∧ (c = .lt → (x < y ∧ t = some a) ∨ (¬ x < y ∧ f = some a)) ∧ (c = .ge → (x < y ∧ f = some a) ∨ (¬ x < y ∧ t = some a)) ∧ (c = .gt → (y < x ∧ t = some a) ∨ (¬ y < x ∧ f = some a)) ∧ (c = .le → (y < x ∧ f = some a) ∨ (¬ y < x ∧ t = some a)) := by
  refine ⟨?_, ?_, ?_, ?_, ?_, ?_⟩ <;> (rintro rfl; unfold brl at h; dsimp only at h; split at h <;> rename_i hc <;> first | exact Or.inl ⟨hc, h⟩ | exact Or.inr ⟨hc, h⟩)
end
