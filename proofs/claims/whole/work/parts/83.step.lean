/-! One instruction at a time. -/
theorem Wp.one {mi pc ls st g I L e Q} (h : bodyp [] (fun mi _ => Wp mi) mi (PT mi) pc ls st g I L e Q) : Wp mi pc ls st g I L e Q := bodyp_w [] (f := fun mi _ => Wp mi) (fun _ _ _ _ _ _ _ _ _ h => h) h
theorem w_a {mi pc ls st g I L e Q q ins len e1 e2 e3} (hf : ftc (PT mi) pc = some (q, ins, len, e1, e2, e3))
    (h : act (PT mi) pc ins len e1 e2 e3 ls st g I L (fun o x => Q o g I L (e + x)) (fun pc ls st g I L => Wp mi pc ls st g I L e Q) (fun m2 sp a r => Wp m2 0 (lv_args 0 a) [] g I L e (kcp (Wp mi) mi pc sp ls g.1 r Q)) False) : Wp mi pc ls st g I L e Q := by
  apply Wp.one
  unfold bodyp
  rw [hf]
  exact h
theorem w_c {mi pc ls st g I L e Q q ins len e1 e2 e3 m2 sp a r} {ks : List Nat} (hf : ftc (PT mi) pc = some (q, ins, len, e1, e2, e3)) (ho : okn ks ls = true)
    (hs : stp (PT mi) pc ins len e1 e2 e3 ls st g I L = some (.inr (.inr (m2, sp, a, r)))) (h : Wp m2 0 (lv_args 0 a) [] g I L e (kcp (Wp mi) mi pc sp (nrm ks ls) g.1 r Q)) : Wp mi pc ls st g I L e Q :=
  Wp.call (F := fun pc _ st g I L e Q => Wp mi pc (nrm ks ls) st g I L e Q) hf hs (fun _ _ _ _ _ _ hh => Wp.lr (okn_lr ho) hh) h
theorem w_n {mi pc ls st g I L e Q} {ks : List Nat} (ho : okn ks ls = true) (h : Wp mi pc (nrm ks ls) st g I L e Q) : Wp mi pc ls st g I L e Q := Wp.lr (okn_lr ho) h
theorem i_m {c : Prop} [Decidable c] {A B A' B' : Prop} (h1 : A → A') (h2 : B → B') (h : if c then A else B) : if c then A' else B' := by
  by_cases k : c
  · rw [if_pos k] at h ⊢; exact h1 h
  · rw [if_neg k] at h ⊢; exact h2 h
theorem i_t {c : Prop} [Decidable c] {A B : Prop} (k : c) (h : A) : if c then A else B := by rw [if_pos k]; exact h
theorem i_f {c : Prop} [Decidable c] {A B : Prop} (k : ¬ c) (h : B) : if c then A else B := by rw [if_neg k]; exact h
theorem n_m {i : Int32} {n : Nat} {A B A' : Prop} (h1 : A → A') (h : inb i n A B) : inb i n A' B := by
  unfold inb at h ⊢
  exact i_m id (i_m h1 id) h
