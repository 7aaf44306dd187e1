/-! Weakest premises: the plain run, read as a proposition. -/
abbrev Kq : Type := Ou → GS → Mi → Ml → Nat → Prop
abbrev Kp : Type := Lv → List Value → GS → Mi → Ml → Nat → Kq → Prop
abbrev Ct : Type := List (Nat × Nat × List Nat)
/-- the method mi, from pc on, comes to an end where Q holds -/
def Wp (mi pc : Nat) (ls : Lv) (st : List Value) (g : GS) (I : Mi) (L : Ml) (e : Nat) (Q : Kq) : Prop := ∃ o g' I' L' e', Ev mi pc ls st g I L e o g' I' L' e' ∧ Q o g' I' L' e'
def nrf (v : Value) : Bool := match v with | .int _ => true | .long _ => true | _ => false
noncomputable def nrm (ks : List Nat) (ls : Lv) : Lv := List.rec [] (fun k _ ih => match lk ls k with | some v => (k, v) :: ih | none => ih) ks
noncomputable def mmn (ks : List Nat) (k : Nat) : Bool := List.rec false (fun a _ ih => cond (Nat.beq a k) true ih) ks
noncomputable def ndk (ls : Lv) : Bool := List.rec true (fun q l ih => cond (mmn (l.map Prod.fst) q.1) false ih) ls
noncomputable def okd (ks : List Nat) (ls : Lv) : Bool := List.rec true (fun q _ ih => cond (mmn ks q.1) ih (cond (nrf q.2) ih false)) ls
noncomputable def okn (ks : List Nat) (ls : Lv) : Bool := cond (ndk ls) (okd ks ls) false
noncomputable def ctk (l : Ct) (mi pc : Nat) : Option (List Nat) := List.rec none (fun r _ ih => cond (Nat.beq r.1 mi) (cond (Nat.beq r.2.1 pc) (some r.2.2) ih) ih) l
noncomputable def kcp (f : Nat → Kp) (mi pc sp : Nat) (ls : Lv) (n : Nat) (rest : List Value) (Q : Kq) : Kq := fun o g I L e => match o with
  | .inl v => cond (Nat.beq sp 1 || Nat.beq g.1 n) (f (pc + 3) ls (v.toList ++ rest) g I L e Q) False
  | .inr x => match hnd mi x with | some (some c) => Q (.inl (some (.int c))) g I L e | some none => False | none => Q (.inr x) g I L e
noncomputable def calp (C : Ct) (f : Nat → List Rw → Nat → Kp) (mi : Nat) (cd : List Rw) (pc : Nat) (ls : Lv) (g : GS) (I : Mi) (L : Ml) (e : Nat) (Q : Kq) (m2 sp : Nat) (a r : List Value) : Prop :=
  match ctk C mi (pc + 3) with
  | some ks => cond (okn ks ls) (match ctk C m2 0 with
    | some _ => Wp m2 0 (lv_args 0 a) [] g I L e (kcp (Wp mi) mi pc sp (nrm ks ls) g.1 r Q)
    | none => f m2 (PT m2) 0 (lv_args 0 a) [] g I L e (kcp (Wp mi) mi pc sp (nrm ks ls) g.1 r Q)) False
  | none => f m2 (PT m2) 0 (lv_args 0 a) [] g I L e (kcp (f mi cd) mi pc sp ls g.1 r Q)
noncomputable def bodyp (C : Ct) (f : Nat → List Rw → Nat → Kp) (mi : Nat) (cd : List Rw) (pc : Nat) : Kp := fun ls st g I L e Q =>
  match ftc cd pc with
  | none => False
  | some (_, ins, len, e1, e2, e3) => act cd pc ins len e1 e2 e3 ls st g I L (fun o x => Q o g I L (e + x)) (fun pc ls st g I L => f mi cd pc ls st g I L e Q)
      (fun m2 sp a r => calp C f mi cd pc ls g I L e Q m2 sp a r) False
noncomputable def wpr (C : Ct) (n : Nat) : Nat → List Rw → Nat → Kp :=
  Nat.rec (fun _ _ _ _ _ _ _ _ _ _ => False) (fun _ f mi cd pc ls st g I L e Q => match ctk C mi pc with
    | some ks => cond (okn ks ls) (Wp mi pc (nrm ks ls) st g I L e Q) False
    | none => bodyp C f mi cd pc ls st g I L e Q) n
/-- two lists of locals: the second holds more, no more references -/
def LR (l l' : Lv) : Prop := (∀ q ∈ l, q ∈ l') ∧ (∀ q ∈ l', q ∈ l ∨ nrf q.2 = true) ∧ (l'.map Prod.fst).Nodup
theorem wlk_mem {l : Lv} {k : Nat} {v : Value} (h : lk l k = some v) : (k, v) ∈ l := by
  induction l with
  | nil => cases h
  | cons q l ih =>
    change cond (Nat.beq q.1 k) (some q.2) (lk l k) = some v at h
    cases hc : Nat.beq q.1 k with
    | true =>
      rw [hc] at h
      cases h
      have := Nat.eq_of_beq_eq_true hc
      subst this
      exact List.mem_cons_self
    | false => rw [hc] at h; exact List.mem_cons_of_mem _ (ih h)
theorem wmem_lk {l : Lv} {k : Nat} {v : Value} (hn : (l.map Prod.fst).Nodup) (h : (k, v) ∈ l) : lk l k = some v := by
  induction l with
  | nil => cases h
  | cons q l ih =>
    rw [List.map_cons, List.nodup_cons] at hn
    show cond (Nat.beq q.1 k) (some q.2) (lk l k) = some v
    rcases List.mem_cons.mp h with e | h2
    · subst e
      rw [Nat.beq_refl]
      rfl
    · have : Nat.beq q.1 k = false := by
        cases hc : Nat.beq q.1 k with
        | false => rfl
        | true =>
          have := Nat.eq_of_beq_eq_true hc
          subst this
          exact absurd (List.mem_map.mpr ⟨_, h2, rfl⟩) hn.1
      rw [this]
      exact ih hn.2 h2
theorem LR.lkk {l l' : Lv} (h : LR l l') {k : Nat} {v : Value} (hk : lk l k = some v) : lk l' k = some v := wmem_lk h.2.2 (h.1 _ (wlk_mem hk))
theorem nodup_filter_map {l : Lv} (p : Nat × Value → Bool) (h : (l.map Prod.fst).Nodup) : ((l.filter p).map Prod.fst).Nodup := by
  induction l with
  | nil => exact h
  | cons q l ih =>
    rw [List.map_cons, List.nodup_cons] at h
    rw [List.filter_cons]
    split
    · rw [List.map_cons, List.nodup_cons]
      exact ⟨fun hm => h.1 (by obtain ⟨a, ha, hb⟩ := List.mem_map.mp hm; exact List.mem_map.mpr ⟨a, (List.mem_filter.mp ha).1, hb⟩), ih h.2⟩
    · exact ih h.2
theorem LR.cf {l l' : Lv} (h : LR l l') (i : Nat) (v : Value) (p : Nat × Value → Bool) (hp : ∀ q, p q = true → q.1 ≠ i) : LR ((i, v) :: l.filter p) ((i, v) :: l'.filter p) := by
  refine ⟨fun q hq => ?_, fun q hq => ?_, ?_⟩
  · rcases List.mem_cons.mp hq with rfl | hq
    · exact List.mem_cons_self
    · exact List.mem_cons_of_mem _ (List.mem_filter.mpr ⟨h.1 _ (List.mem_filter.mp hq).1, (List.mem_filter.mp hq).2⟩)
  · rcases List.mem_cons.mp hq with rfl | hq
    · exact Or.inl List.mem_cons_self
    · rcases h.2.1 _ (List.mem_filter.mp hq).1 with h2 | h2
      · exact Or.inl (List.mem_cons_of_mem _ (List.mem_filter.mpr ⟨h2, (List.mem_filter.mp hq).2⟩))
      · exact Or.inr h2
  · rw [List.map_cons, List.nodup_cons]
    exact ⟨fun hm => (by obtain ⟨a, ha, hb⟩ := List.mem_map.mp hm; exact hp _ (List.mem_filter.mp ha).2 hb), nodup_filter_map p h.2.2⟩
theorem LR.s1 {l l' : Lv} (h : LR l l') (i : Nat) (v : Value) : LR (st1 l i v) (st1 l' i v) := h.cf i v _ (fun q hq e => by rw [e] at hq; simp at hq)
theorem LR.s2 {l l' : Lv} (h : LR l l') (i : Nat) (v : Value) : LR (st2 l i v) (st2 l' i v) := h.cf i v _ (fun q hq e => by rw [e] at hq; simp at hq)
theorem LR.al {l l' : Lv} (h : LR l l') {n : Nat} (ha : aAll n (l.map Prod.snd) = true) : aAll n (l'.map Prod.snd) = true := by
  unfold aAll at ha ⊢
  rw [List.all_eq_true] at ha ⊢
  intro v hv
  obtain ⟨q, hq, rfl⟩ := List.mem_map.mp hv
  rcases h.2.1 q hq with h2 | h2
  · exact ha _ (List.mem_map.mpr ⟨q, h2, rfl⟩)
  · unfold nrf at h2
    split at h2
    · next e => rw [e]; rfl
    · next e => rw [e]; rfl
    · cases h2
theorem act_m (cd : List Rw) (pc : Nat) (ins : Instr) (len e1 e2 : Nat) (e3 : Int) (ls : Lv) (st : List Value) (g : GS) (I : Mi) (L : Ml)
    {fin fin' : Ou → Nat → Prop} {nxt nxt' : Nat → Lv → List Value → GS → Mi → Ml → Prop} {cal cal' : Nat → Nat → List Value → List Value → Prop}
    (hf : ∀ o x, fin o x → fin' o x) (hn : ∀ pc l st g I L, nxt pc l st g I L → nxt' pc l st g I L) (hc : ∀ m s a r, cal m s a r → cal' m s a r) :
    act cd pc ins len e1 e2 e3 ls st g I L fin nxt cal False → act cd pc ins len e1 e2 e3 ls st g I L fin' nxt' cal' False := by
  have hp := (act (α := {p : Prop × Prop // p.1 → p.2}) cd pc ins len e1 e2 e3 ls st g I L (fun o x => ⟨(fin o x, fin' o x), hf o x⟩) (fun pc l st g I L => ⟨(nxt pc l st g I L, nxt' pc l st g I L), hn pc l st g I L⟩) (fun m s a r => ⟨(cal m s a r, cal' m s a r), hc m s a r⟩) ⟨(False, False), id⟩).2
  have k1 := act_n (α := {p : Prop × Prop // p.1 → p.2}) (β := Prop) (fun p => p.1.1) cd pc ins len e1 e2 e3 ls st g I L (fun o x => ⟨(fin o x, fin' o x), hf o x⟩) (fun pc l st g I L => ⟨(nxt pc l st g I L, nxt' pc l st g I L), hn pc l st g I L⟩) (fun m s a r => ⟨(cal m s a r, cal' m s a r), hc m s a r⟩) ⟨(False, False), id⟩
  have k2 := act_n (α := {p : Prop × Prop // p.1 → p.2}) (β := Prop) (fun p => p.1.2) cd pc ins len e1 e2 e3 ls st g I L (fun o x => ⟨(fin o x, fin' o x), hf o x⟩) (fun pc l st g I L => ⟨(nxt pc l st g I L, nxt' pc l st g I L), hn pc l st g I L⟩) (fun m s a r => ⟨(cal m s a r, cal' m s a r), hc m s a r⟩) ⟨(False, False), id⟩
  intro H
  exact cast k2 (hp (cast k1.symm H))
theorem ld_m {o o' : Option Value} {k k' : Value → Prop} (ho : ∀ v, o = some v → o' = some v) (hk : ∀ v, k v → k' v) : (aLdI o k False → aLdI o' k' False) ∧ (aLdL o k False → aLdL o' k' False) ∧ (aLdA o k False → aLdA o' k' False) := by
  cases o with
  | none => exact ⟨fun h => h.elim, fun h => h.elim, fun h => h.elim⟩
  | some v =>
    rw [ho v rfl]
    cases v <;> exact ⟨by first | exact hk _ | exact id, by first | exact hk _ | exact id, by first | exact hk _ | exact id⟩
theorem act_lr (cd : List Rw) (pc : Nat) (ins : Instr) (len e1 e2 : Nat) (e3 : Int) {ls ls' : Lv} (h : LR ls ls') (st : List Value) (g : GS) (I : Mi) (L : Ml)
    {fin fin' : Ou → Nat → Prop} {nxt nxt' : Nat → Lv → List Value → GS → Mi → Ml → Prop} {cal cal' : Nat → Nat → List Value → List Value → Prop}
    (hf : ∀ o x, fin o x → fin' o x) (hn : ∀ pc l l' st g I L, LR l l' → nxt pc l st g I L → nxt' pc l' st g I L) (hc : ∀ m s a r, cal m s a r → cal' m s a r) :
    act cd pc ins len e1 e2 e3 ls st g I L fin nxt cal False → act cd pc ins len e1 e2 e3 ls' st g I L fin' nxt' cal' False := by
  have key := act_m cd pc ins len e1 e2 e3 ls st g I L (fin := fin) (fin' := fin') (nxt := fun pc _ => nxt pc ls) (nxt' := fun pc _ => nxt' pc ls') (cal := cal) (cal' := cal') hf (fun pc l st g I L => hn pc ls ls' st g I L h) hc
  cases ins
  case iload_n n => exact (ld_m (o := lk ls n) (o' := lk ls' n) (k := fun v => nxt (pc + len) ls (v :: st) g I L) (k' := fun v => nxt' (pc + len) ls' (v :: st) g I L) (fun _ => h.lkk) (fun v => hn _ _ _ _ _ _ _ h)).1
  case lload_n n => exact (ld_m (o := lk ls n) (o' := lk ls' n) (k := fun v => nxt (pc + len) ls (v :: st) g I L) (k' := fun v => nxt' (pc + len) ls' (v :: st) g I L) (fun _ => h.lkk) (fun v => hn _ _ _ _ _ _ _ h)).2.1
  case aload_n n => exact (ld_m (o := lk ls n) (o' := lk ls' n) (k := fun v => nxt (pc + len) ls (v :: st) g I L) (k' := fun v => nxt' (pc + len) ls' (v :: st) g I L) (fun _ => h.lkk) (fun v => hn _ _ _ _ _ _ _ h)).2.2
  case iload n => exact (ld_m (o := lk ls n) (o' := lk ls' n) (k := fun v => nxt (pc + len) ls (v :: st) g I L) (k' := fun v => nxt' (pc + len) ls' (v :: st) g I L) (fun _ => h.lkk) (fun v => hn _ _ _ _ _ _ _ h)).1
  case lload n => exact (ld_m (o := lk ls n) (o' := lk ls' n) (k := fun v => nxt (pc + len) ls (v :: st) g I L) (k' := fun v => nxt' (pc + len) ls' (v :: st) g I L) (fun _ => h.lkk) (fun v => hn _ _ _ _ _ _ _ h)).2.1
  case aload n => exact (ld_m (o := lk ls n) (o' := lk ls' n) (k := fun v => nxt (pc + len) ls (v :: st) g I L) (k' := fun v => nxt' (pc + len) ls' (v :: st) g I L) (fun _ => h.lkk) (fun v => hn _ _ _ _ _ _ _ h)).2.2
  case istore_n n => dsimp only [act]; unfold aStI; split <;> first | exact id | exact hn _ _ _ _ _ _ _ (h.s1 _ _)
  case lstore_n n => dsimp only [act]; unfold aStL; split <;> first | exact id | exact hn _ _ _ _ _ _ _ (h.s2 _ _)
  case astore_n n => dsimp only [act]; unfold aStA; split <;> first | exact id | exact hn _ _ _ _ _ _ _ (h.s1 _ _)
  case istore n => dsimp only [act]; unfold aStI; split <;> first | exact id | exact hn _ _ _ _ _ _ _ (h.s1 _ _)
  case lstore n => dsimp only [act]; unfold aStL; split <;> first | exact id | exact hn _ _ _ _ _ _ _ (h.s2 _ _)
  case astore n => dsimp only [act]; unfold aStA; split <;> first | exact id | exact hn _ _ _ _ _ _ _ (h.s1 _ _)
  case iinc n c =>
    dsimp only [act]
    intro H
    unfold aInc at H
    split at H
    · next x e =>
      rw [h.lkk e]
      exact hn _ _ _ _ _ _ _ (h.s1 _ _) H
    · exact H.elim
  case new a =>
    dsimp only [act]
    cases Nat.ble 101 e1 with
    | true =>
      unfold aRtV
      simp only [cond_true]
      split <;> first | exact id | exact hf _ _
    | false =>
      simp only [cond_false]
      unfold aNew
      intro H
      cases hb : (Nat.blt e1 13 && aAll g.1 st && aAll g.1 (ls.map Prod.snd)) with
      | false => rw [hb] at H; exact H.elim
      | true =>
        rw [hb] at H
        simp only [Bool.and_eq_true] at hb
        rw [hb.1.1, hb.1.2, h.al hb.2]
        exact hn _ _ _ _ _ _ _ h H
  case newarray a =>
    dsimp only [act]
    unfold aNwa
    split
    · intro H
      next n r =>
      cases hb : (aAll g.1 (.int n :: r) && aAll g.1 (ls.map Prod.snd)) with
      | false => rw [hb] at H; exact H.elim
      | true =>
        rw [hb] at H
        simp only [Bool.and_eq_true] at hb
        rw [hb.1, h.al hb.2]
        simp only [Bool.and_self, cond_true] at H ⊢
        split at H
        · exact H.elim
        · split at H
          · exact H.elim
          · next h1 h2 =>
            rw [if_neg h1, if_neg h2]
            exact hn _ _ _ _ _ _ _ h H
    · exact id
  case anewarray a =>
    dsimp only [act]
    unfold aNwa
    split
    · intro H
      next n r =>
      cases hb : (aAll g.1 (.int n :: r) && aAll g.1 (ls.map Prod.snd)) with
      | false => rw [hb] at H; exact H.elim
      | true =>
        rw [hb] at H
        simp only [Bool.and_eq_true] at hb
        rw [hb.1, h.al hb.2]
        simp only [Bool.and_self, cond_true] at H ⊢
        split at H
        · exact H.elim
        · split at H
          · exact H.elim
          · next h1 h2 =>
            rw [if_neg h1, if_neg h2]
            exact hn _ _ _ _ _ _ _ h H
    · exact id
  case invokespecial a =>
    dsimp only [act]
    cases Nat.beq e1 1000 with
    | true =>
      simp only [cond_true]
      unfold aOin
      split
      · cases Nat.ble (csm _) 8 with
        | true => exact hn _ _ _ _ _ _ _ h
        | false => exact id
      · exact id
    | false =>
      simp only [cond_false]
      unfold aCal
      cases (Nat.ble (csm (st.drop (e2 / 32 % 32 + 1))) 8 && Nat.beq (st.take (e2 / 32 % 32 + 1)).length (e2 / 32 % 32 + 1) && Nat.blt e1 420 && Nat.ble (csm (st.take (e2 / 32 % 32 + 1))) (e2 / 1024)) with
      | false => exact id
      | true =>
        simp only [cond_true]
        intro H
        cases hb : (rcv g (e2 % 32) (st.take (e2 / 32 % 32 + 1)).reverse && aAll g.1 (st.drop (e2 / 32 % 32 + 1)) && aAll g.1 (ls.map Prod.snd)) with
        | false => rw [hb] at H; exact H.elim
        | true =>
          rw [hb] at H
          simp only [Bool.and_eq_true] at hb
          rw [hb.1.1, hb.1.2, h.al hb.2]
          exact hc _ _ _ _ H
  all_goals exact key
theorem body_lr {f f' : Nat → List Rw → Nat → Kf} {mi : Nat} {cd : List Rw} {pc : Nat} {ls ls' : Lv} (h : LR ls ls') {st g I L e K K'} {R R' : Rs}
    (hK : ∀ o g I L e, K o g I L e = some R → K' o g I L e = some R')
    (hf : ∀ pc l l' st g I L, LR l l' → f mi cd pc l st g I L e K = some R → f' mi cd pc l' st g I L e K' = some R')
    (hc : ∀ m2 sp a r, f m2 (PT m2) 0 (lv_args 0 a) [] g I L e (kcl (f mi cd) mi pc sp ls g.1 r K) = some R → f' m2 (PT m2) 0 (lv_args 0 a) [] g I L e (kcl (f' mi cd) mi pc sp ls' g.1 r K') = some R') :
    body f mi cd pc ls st g I L e K = some R → body f' mi cd pc ls' st g I L e K' = some R' := by
  unfold body
  cases ftc cd pc with
  | none => intro h; cases h
  | some row =>
    obtain ⟨q, ins, len, e1, e2, e3⟩ := row
    dsimp only
    have n1 := act_n (fun r : Option Rs => r = some R) cd pc ins len e1 e2 e3 ls st g I L (fun o x => K o g I L (e + x)) (fun pc ls st g I L => f mi cd pc ls st g I L e K) (fun m2 sp a r => f m2 (PT m2) 0 (lv_args 0 a) [] g I L e (kcl (f mi cd) mi pc sp ls g.1 r K)) none
    have n2 := act_n (fun r : Option Rs => r = some R') cd pc ins len e1 e2 e3 ls' st g I L (fun o x => K' o g I L (e + x)) (fun pc ls st g I L => f' mi cd pc ls st g I L e K') (fun m2 sp a r => f' m2 (PT m2) 0 (lv_args 0 a) [] g I L e (kcl (f' mi cd) mi pc sp ls' g.1 r K')) none
    have e1 : ((none : Option Rs) = some R) = False := by simp
    have e2 : ((none : Option Rs) = some R') = False := by simp
    rw [e1] at n1
    rw [e2] at n2
    intro H
    have H1 := cast n1 H
    exact cast n2.symm (act_lr cd pc ins len _ _ e3 h st g I L (fun o x => hK o g I L (e + x)) hf hc H1)
/-- fewer locals, the same answer -/
theorem run_lr : ∀ n mi cd pc ls ls' st g I L e R, LR ls ls' → run [] n mi cd pc ls st g I L e K0 = some R → run [] n mi cd pc ls' st g I L e K0 = some R := by
  intro n
  induction n with
  | zero => intro mi cd pc ls ls' st g I L e R _ h; cases h
  | succ n ih =>
    intro mi cd pc ls ls' st g I L e R hl h
    rw [run_e] at h ⊢
    refine body_lr hl (fun o g I L e h => h) (fun pc l l' st g I L hh => ih _ _ _ _ _ _ _ _ _ _ _ hh) (fun m2 sp a r hh => ?_) h
    obtain ⟨o1, g1, I1, L1, e1', h1, h2⟩ := (run_pass n).1 _ _ _ _ _ _ _ _ _ _ _ hh
    rw [(run_pass n).2 _ _ _ _ _ _ _ _ _ _ _ _ _ _ h1]
    rcases o1 with v | x
    · dsimp only [kcl] at h2 ⊢
      cases hc : (Nat.beq sp 1 || Nat.beq g1.1 g.1) with
      | false => rw [hc] at h2; cases h2
      | true =>
        rw [hc] at h2
        exact ih _ _ _ _ _ _ _ _ _ _ _ hl h2
    · exact h2
theorem mmn_mem {ks : List Nat} {k : Nat} : mmn ks k = true ↔ k ∈ ks := by
  induction ks with
  | nil => constructor <;> intro h <;> cases h
  | cons a l ih =>
    show cond (Nat.beq a k) true (mmn l k) = true ↔ _
    cases hc : Nat.beq a k with
    | true =>
      have := Nat.eq_of_beq_eq_true hc
      subst this
      simp
    | false =>
      have hne : k ≠ a := fun e => by rw [e, Nat.beq_refl] at hc; cases hc
      rw [cond_false, ih, List.mem_cons]
      exact ⟨Or.inr, fun h => h.resolve_left hne⟩
theorem ndk_nd {ls : Lv} (h : ndk ls = true) : (ls.map Prod.fst).Nodup := by
  induction ls with
  | nil => exact List.nodup_nil
  | cons q l ih =>
    change cond (mmn (l.map Prod.fst) q.1) false (ndk l) = true at h
    cases hc : mmn (l.map Prod.fst) q.1 with
    | true => rw [hc] at h; cases h
    | false =>
      rw [hc] at h
      rw [List.map_cons, List.nodup_cons]
      exact ⟨fun hm => (by rw [mmn_mem.mpr hm] at hc; cases hc), ih h⟩
theorem nrm_mem {ks : List Nat} {ls : Lv} {k : Nat} {v : Value} : (k, v) ∈ nrm ks ls ↔ k ∈ ks ∧ lk ls k = some v := by
  induction ks with
  | nil => exact ⟨fun h => (by cases h), fun h => (by cases h.1)⟩
  | cons a l ih =>
    show _ ∈ (match lk ls a with | some v => (a, v) :: nrm l ls | none => nrm l ls) ↔ _
    cases hc : lk ls a with
    | none =>
      dsimp only
      rw [ih, List.mem_cons]
      exact ⟨fun h => ⟨Or.inr h.1, h.2⟩, fun h => ⟨h.1.resolve_left (fun e => by rw [e, hc] at h; cases h.2), h.2⟩⟩
    | some w =>
      dsimp only
      rw [List.mem_cons, ih, List.mem_cons]
      constructor
      · rintro (h | h)
        · cases h; exact ⟨Or.inl rfl, hc⟩
        · exact ⟨Or.inr h.1, h.2⟩
      · rintro ⟨rfl | h, h2⟩
        · rw [hc] at h2; cases h2; exact Or.inl rfl
        · exact Or.inr ⟨h, h2⟩
theorem okd_ok {ks : List Nat} {ls : Lv} (h : okd ks ls = true) : ∀ q ∈ ls, q.1 ∈ ks ∨ nrf q.2 = true := by
  induction ls with
  | nil => intro q hq; cases hq
  | cons a l ih =>
    change cond (mmn ks a.1) (okd ks l) (cond (nrf a.2) (okd ks l) false) = true at h
    intro q hq
    cases hc : mmn ks a.1 with
    | true =>
      rw [hc] at h
      rcases List.mem_cons.mp hq with rfl | hq
      · exact Or.inl (mmn_mem.mp hc)
      · exact ih h q hq
    | false =>
      rw [hc] at h
      cases hd : nrf a.2 with
      | false => rw [hd] at h; cases h
      | true =>
        rw [hd] at h
        rcases List.mem_cons.mp hq with rfl | hq
        · exact Or.inr hd
        · exact ih h q hq
theorem okn_lr {ks : List Nat} {ls : Lv} (h : okn ks ls = true) : LR (nrm ks ls) ls := by
  unfold okn at h
  cases hc : ndk ls with
  | false => rw [hc] at h; cases h
  | true =>
    rw [hc] at h
    refine ⟨fun q hq => wlk_mem (nrm_mem.mp hq).2, fun q hq => ?_, ndk_nd hc⟩
    rcases okd_ok h q hq with h2 | h2
    · exact Or.inl (nrm_mem.mpr ⟨h2, wmem_lk (ndk_nd hc) hq⟩)
    · exact Or.inr h2
theorem Wp.lr {mi pc ls ls' st g I L e Q} (h : LR ls ls') (hw : Wp mi pc ls st g I L e Q) : Wp mi pc ls' st g I L e Q := by
  obtain ⟨o, g', I', L', e', ⟨n, hn⟩, hq⟩ := hw
  exact ⟨o, g', I', L', e', ⟨n, run_lr _ _ _ _ _ _ _ _ _ _ _ _ h hn⟩, hq⟩
theorem Wp.mono {mi pc ls st g I L e} {Q Q' : Kq} (h : ∀ o g I L e, Q o g I L e → Q' o g I L e) (hw : Wp mi pc ls st g I L e Q) : Wp mi pc ls st g I L e Q' := by
  obtain ⟨o, g', I', L', e', hn, hq⟩ := hw
  exact ⟨o, g', I', L', e', hn, h _ _ _ _ _ hq⟩
noncomputable def ipp (C : Ct) (f : Nat → List Rw → Nat → Kp) (mi : Nat) (cd : List Rw) (pc : Nat) (ls : Lv) (g : GS) (I : Mi) (L : Ml) (e : Nat) (Q : Kq) : Option Act → Prop
  | none => False
  | some (.inl (o, x)) => Q o g I L (e + x)
  | some (.inr (.inl (pc, ls, st, g, I, L))) => f mi cd pc ls st g I L e Q
  | some (.inr (.inr (m2, sp, a, r))) => calp C f mi cd pc ls g I L e Q m2 sp a r
theorem bodyp_eq (C f mi cd pc ls st g I L e Q) : bodyp C f mi cd pc ls st g I L e Q = match ftc cd pc with
    | none => False
    | some (_, ins, len, e1, e2, e3) => ipp C f mi cd pc ls g I L e Q (stp cd pc ins len e1 e2 e3 ls st g I L) := by
  unfold bodyp
  cases ftc cd pc with
  | none => rfl
  | some row =>
    obtain ⟨q, ins, len, e1, e2, e3⟩ := row
    dsimp only
    unfold stp
    rw [act_n (ipp C f mi cd pc ls g I L e Q)]
    rfl
theorem Wp.call {mi pc ls st g I L e q ins len e1 e2 e3 m2 sp a rs} {F : Nat → Kp} {Q : Kq} (hf : ftc (PT mi) pc = some (q, ins, len, e1, e2, e3)) (hs : stp (PT mi) pc ins len e1 e2 e3 ls st g I L = some (.inr (.inr (m2, sp, a, rs))))
    (hF : ∀ pc st g I L e, F pc ls st g I L e Q → Wp mi pc ls st g I L e Q) (hw : Wp m2 0 (lv_args 0 a) [] g I L e (kcp F mi pc sp ls g.1 rs Q)) : Wp mi pc ls st g I L e Q := by
  obtain ⟨o1, g1, I1, L1, e1', ⟨k1, h1⟩, h2⟩ := hw
  have key : ∀ (j : Nat) (o g' I' L' e'), kcl (run [] (k1 + j) mi (PT mi)) mi pc sp ls g.1 rs K0 o1 g1 I1 L1 e1' = some (o, g', I', L', e') → Ev mi pc ls st g I L e o g' I' L' e' := by
    intro j o g' I' L' e' hk
    refine ⟨k1 + j + 1, ?_⟩
    rw [run_e, body_eq, hf]
    dsimp only
    rw [hs]
    show run [] (k1 + j) m2 (PT m2) 0 (lv_args 0 a) [] g I L e (kcl (run [] (k1 + j) mi (PT mi)) mi pc sp ls g.1 rs K0) = _
    rw [(run_pass (k1 + j)).2 _ _ _ _ _ _ _ _ _ _ _ _ _ _ (run_more j h1)]
    exact hk
  rcases o1 with v | x
  · dsimp only [kcp] at h2
    cases hc : (Nat.beq sp 1 || Nat.beq g1.1 g.1) with
    | false => rw [hc] at h2; exact h2.elim
    | true =>
      rw [hc] at h2
      obtain ⟨o, g', I', L', e', ⟨k2, h3⟩, h4⟩ := hF _ _ _ _ _ _ h2
      refine ⟨o, g', I', L', e', key k2 _ _ _ _ _ ?_, h4⟩
      show cond (Nat.beq sp 1 || Nat.beq g1.1 g.1) (run [] (k1 + k2) mi (PT mi) (pc + 3) ls (v.toList ++ rs) g1 I1 L1 e1' K0) none = _
      rw [hc, Nat.add_comm]
      exact run_more k1 h3
  · dsimp only [kcp] at h2
    cases hh : hnd mi x with
    | none =>
      rw [hh] at h2
      exact ⟨_, _, _, _, _, key 0 _ _ _ _ _ (by dsimp only [kcl]; rw [hh]; rfl), h2⟩
    | some oc => cases oc with
      | none => rw [hh] at h2; exact h2.elim
      | some c =>
        rw [hh] at h2
        exact ⟨_, _, _, _, _, key 0 _ _ _ _ _ (by dsimp only [kcl]; rw [hh]; rfl), h2⟩
theorem bodyp_w (C : Ct) {f : Nat → List Rw → Nat → Kp} (hfw : ∀ mi pc ls st g I L e Q, f mi (PT mi) pc ls st g I L e Q → Wp mi pc ls st g I L e Q) {mi pc ls st g I L e Q} (h : bodyp C f mi (PT mi) pc ls st g I L e Q) : Wp mi pc ls st g I L e Q := by
  rw [bodyp_eq] at h
  cases hf : ftc (PT mi) pc with
  | none => rw [hf] at h; exact h.elim
  | some row =>
    obtain ⟨q, ins, len, e1, e2, e3⟩ := row
    rw [hf] at h
    dsimp only at h
    rcases hs : stp (PT mi) pc ins len e1 e2 e3 ls st g I L with _ | ⟨o2, x⟩ | ⟨pc2, ls2, st2, g2, I2, L2⟩ | ⟨m2, sp, a, rs⟩
    · rw [hs] at h; exact h.elim
    · rw [hs] at h
      refine ⟨o2, g, I, L, e + x, ⟨1, ?_⟩, h⟩
      rw [run_e, body_eq, hf]
      dsimp only
      rw [hs]
      rfl
    · rw [hs] at h
      obtain ⟨o, g', I', L', e', h1, h2⟩ := hfw _ _ _ _ _ _ _ _ _ h
      exact ⟨o, g', I', L', e', Ev.step hf hs h1, h2⟩
    · rw [hs] at h
      change calp C f mi (PT mi) pc ls g I L e Q m2 sp a rs at h
      unfold calp at h
      cases hd : ctk C mi (pc + 3) with
      | none =>
        rw [hd] at h
        exact Wp.call hf hs (fun pc st g I L e => hfw _ _ _ _ _ _ _ _ _) (hfw _ _ _ _ _ _ _ _ _ h)
      | some ks =>
        rw [hd] at h
        dsimp only at h
        cases ho : okn ks ls with
        | false => rw [ho] at h; exact h.elim
        | true =>
          rw [ho] at h
          refine Wp.call (F := fun pc _ st g I L e Q => Wp mi pc (nrm ks ls) st g I L e Q) hf hs (fun pc st g I L e hh => Wp.lr (okn_lr ho) hh) ?_
          cases hc : ctk C m2 0 with
          | none => rw [hc] at h; exact hfw _ _ _ _ _ _ _ _ _ h
          | some k2 => rw [hc] at h; exact h
theorem wpr_w (C : Ct) : ∀ n mi pc ls st g I L e Q, wpr C n mi (PT mi) pc ls st g I L e Q → Wp mi pc ls st g I L e Q := by
  intro n
  induction n with
  | zero => intro mi pc ls st g I L e Q h; exact h.elim
  | succ n ih =>
    intro mi pc ls st g I L e Q h
    change (match ctk C mi pc with | some ks => cond (okn ks ls) (Wp mi pc (nrm ks ls) st g I L e Q) False | none => bodyp C (wpr C n) mi (PT mi) pc ls st g I L e Q) at h
    cases hc : ctk C mi pc with
    | none => rw [hc] at h; exact bodyp_w C ih h
    | some ks =>
      rw [hc] at h
      dsimp only at h
      cases ho : okn ks ls with
      | false => rw [ho] at h; exact h.elim
      | true =>
        rw [ho] at h
        exact Wp.lr (okn_lr ho) h
/-- a piece of the run, from one mark to the next ones -/
theorem Wp.go (C : Ct) (n : Nat) {mi pc ls st g I L e Q} (h : bodyp C (wpr C n) mi (PT mi) pc ls st g I L e Q) : Wp mi pc ls st g I L e Q := bodyp_w C (wpr_w C n) h
