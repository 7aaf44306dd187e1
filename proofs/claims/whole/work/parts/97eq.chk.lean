/-! The law's rows, a part of them. -/
set_option maxRecDepth 1000000 in
theorem rk419_48_0 : ((p419_48).take 32).all (rowC 419) = true := by decide +kernel
set_option maxRecDepth 1000000 in
theorem rk419_48_1 : ((p419_48).drop 32).all (rowC 419) = true := by decide +kernel
theorem rk419_48 : (p419_48).all (rowC 419) = true := all_td (n := 32) rk419_48_0 rk419_48_1
