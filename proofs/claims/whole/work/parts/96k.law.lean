/-! The law's run, from its entry to its end. -/
theorem mC_a : ∀ (l : List (Nat × Nat × Nat)) (a b : Nat), (∀ q ∈ l, q.1 ≠ a) → mC l a b = none := by
  intro l
  induction l with
  | nil => intro a b _; rfl
  | cons q l ih =>
    intro a b h
    have h1 := h q List.mem_cons_self
    have h2 := ih a b (fun r hr => h r (List.mem_cons_of_mem _ hr))
    have h3 : Nat.beq a q.1 = false := nbe (fun k => h1 k.symm)
    show (cond (Nat.beq q.2.1 99) (rr (mC l) q.1 (fun _ => none)) (ur (mC l) q.1 q.2.1 (some q.2.2))) a b = none
    cases Nat.beq q.2.1 99 with
    | true => show rr (mC l) q.1 (fun _ => none) a b = none; unfold rr; rw [h3]; exact h2
    | false => show ur (mC l) q.1 q.2.1 (some q.2.2) a b = none; unfold ur; rw [h3]; exact h2
theorem mC_b : ∀ (l : List (Nat × Nat × Nat)) (a b : Nat), (∀ q ∈ l, q.2.1 = 99 ∨ q.2.1 ≠ b) → mC l a b = none := by
  intro l
  induction l with
  | nil => intro a b _; rfl
  | cons q l ih =>
    intro a b h
    have h1 := h q List.mem_cons_self
    have h2 := ih a b (fun r hr => h r (List.mem_cons_of_mem _ hr))
    show (cond (Nat.beq q.2.1 99) (rr (mC l) q.1 (fun _ => none)) (ur (mC l) q.1 q.2.1 (some q.2.2))) a b = none
    cases hc : Nat.beq q.2.1 99 with
    | true =>
      show rr (mC l) q.1 (fun _ => none) a b = none
      unfold rr
      cases Nat.beq a q.1 with
      | true => rfl
      | false => exact h2
    | false =>
      show ur (mC l) q.1 q.2.1 (some q.2.2) a b = none
      have h3 : Nat.beq b q.2.1 = false := nbe (fun k => by
        rcases h1 with z | z
        · rw [z] at hc; cases hc
        · exact z k.symm)
      unfold ur
      cases Nat.beq a q.1 with
      | true => show cond (Nat.beq b q.2.1) _ _ = none; rw [h3]; exact h2
      | false => exact h2
set_option maxRecDepth 100000 in
theorem mr_1 : ∀ a, a < 71 → ∀ b, b < 44 → mC ml137 a b = mrE a b := by decide +kernel
set_option maxRecDepth 100000 in
theorem mr_2 : ∀ q ∈ ml137, q.1 < 71 ∧ (q.2.1 = 99 ∨ q.2.1 < 44) := by decide +kernel
set_option maxRecDepth 100000 in
theorem mr_3 : ∀ a, a < 71 → (RTE.getD a []).length ≤ 44 := by decide +kernel
theorem gd_out {α : Type} {l : List α} {k : Nat} {d : α} (h : l.length ≤ k) : l.getD k d = d := by
  rw [List.getD_eq_getElem?_getD, List.getElem?_eq_none h]
  rfl
theorem mr_0 {a b : Nat} (h : (RTE.getD a []).getD b 0 = 0) : mrE a b = none := by
  unfold mrE
  split
  · rfl
  · next n hn =>
    rw [h] at hn
    cases hn
theorem mr_e : mC ml137 = mrE := by
  funext a b
  by_cases ha : a < 71
  · by_cases hb : b < 44
    · exact mr_1 a ha b hb
    · rw [mC_b _ _ _ (fun q hq => by have := (mr_2 q hq).2; omega), mr_0 (gd_out (by have := mr_3 a ha; omega))]
  · have e1 : RTE.getD a [] = [] := gd_out (by show 71 ≤ a; omega)
    rw [mC_a _ _ _ (fun q hq => by have := (mr_2 q hq).1; omega), mr_0 (by rw [e1]; rfl)]
theorem g_end (Lx : Nat) : gc 71 1296 Lx ml137 = gE Lx := by
  unfold gc gE
  rw [mr_e]
  rfl
def rFE : Fr := [(58, 7, 1), (61, 0, 0), (62, 0, 0), (70, 0, 0)]
set_option maxRecDepth 100000 in
set_option maxHeartbeats 4000000 in
theorem law_wp {Lx : Nat} (hL : Lx ≤ 5120) {I : Mi} {L : Ml} : Wp 420 0 [(0, .ref 0)] [] (gc 1 0 Lx ml0) I L 0 (fun o g _ _ e => o = .inl (some (.int (Int32.ofInt 1))) ∧ g = gE Lx ∧ e ≤ 512) := by
  refine walk (fun I1 L1 h0 => ?_)
  obtain ⟨h1, ⟨h2, h3, h4⟩, h5⟩ := h0
  refine cM_205 h5 (fun I2 hf ht => ?_)
  show Wp 420 15 [(1, .ref 1), (0, .ref 0)] [.ref 58] (gM Lx) _ _ 0 _
  refine w_a f_420_15 ?_
  show Wp 420 16 [(2, .ref 58), (1, .ref 1), (0, .ref 0)] [] (gM Lx) _ _ 0 _
  refine w_a f_420_16 ?_
  refine w_a f_420_17 ?_
  show Wp 420 19 [(2, .ref 58), (1, .ref 1), (0, .ref 0)] [.ref 70] (gc 71 1296 Lx ml137) _ _ 0 _
  refine w_a f_420_19 ?_
  show Wp 420 20 [(3, .ref 70), (2, .ref 58), (1, .ref 1), (0, .ref 0)] [] (gc 71 1296 Lx ml137) _ _ 0 _
  refine w_a f_420_20 ?_
  refine w_a f_420_21 ?_
  show Wp 420 23 [(4, .int (Int32.ofInt 0)), (3, .ref 70), (2, .ref 58), (1, .ref 1), (0, .ref 0)] [] (gc 71 1296 Lx ml137) (ri I2 70 (fun _ => 0)) _ 0 _
  rw [g_end]
  refine w_n (ks := [0, 1, 2, 3, 4]) rfl ?_
  have hf2 : FrI rFE I1 (ri I2 70 (fun _ => 0)) := FrI.wr (hf.up rfl) (fun _ => rfl)
  refine k_loop hL (fun I L e h => ⟨rfl, rfl, h⟩) 512 0 _ _ _ (by omega) (by omega) (by omega) ⟨ch0, fun _ => none, 1, 10, ⟨⟨by decide, by decide⟩, ⟨by decide, by decide⟩, ⟨by decide, by decide⟩, by decide, fun k hk => absurd hk (Nat.not_lt_zero k)⟩, fun k c _ w => (by cases w), ?_, ?_⟩
  · exact h1.gl hf2 (by decide) (h1.l.cg (hf2.at rfl))
  · exact ⟨h2.cg (hf2.at rfl), h3.cg (hf2 58 3 rfl) (hf2 58 4 rfl), ht.cg rfl rfl rfl, fun k hk => (h4 k hk).cg (hf2.at rfl)⟩
