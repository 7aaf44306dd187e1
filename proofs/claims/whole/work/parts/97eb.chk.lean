/-! The law's rows, a part of them. -/
theorem all_td {α : Type} {p : α → Bool} {l : List α} {n : Nat} (ha : (l.take n).all p = true) (hb : (l.drop n).all p = true) : l.all p = true := by
  rw [← List.take_append_drop n l, List.all_append, ha, hb]
  rfl
set_option maxRecDepth 1000000 in
theorem rk419_33_0 : ((p419_33).take 32).all (rowC 419) = true := by decide +kernel
set_option maxRecDepth 1000000 in
theorem rk419_33_1 : ((p419_33).drop 32).all (rowC 419) = true := by decide +kernel
theorem rk419_33 : (p419_33).all (rowC 419) = true := all_td (n := 32) rk419_33_0 rk419_33_1
