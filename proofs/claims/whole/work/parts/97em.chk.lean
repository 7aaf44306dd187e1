/-! The law's rows, a part of them. -/
set_option maxRecDepth 1000000 in
theorem rk419_44_0 : ((p419_44).take 32).all (rowC 419) = true := by decide +kernel
set_option maxRecDepth 1000000 in
theorem rk419_44_1 : ((p419_44).drop 32).all (rowC 419) = true := by decide +kernel
theorem rk419_44 : (p419_44).all (rowC 419) = true := all_td (n := 32) rk419_44_0 rk419_44_1
