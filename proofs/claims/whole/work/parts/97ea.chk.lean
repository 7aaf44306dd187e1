/-! The law's rows, a part of them. -/
set_option maxRecDepth 1000000 in
theorem rk419_30 : (p419_30).all (rowC 419) = true := by decide +kernel
set_option maxRecDepth 1000000 in
theorem rk419_31 : (p419_31).all (rowC 419) = true := by decide +kernel
set_option maxRecDepth 1000000 in
theorem rk419_32 : (p419_32).all (rowC 419) = true := by decide +kernel
