/-! The law's rows, a part of them. -/
set_option maxRecDepth 1000000 in
theorem rk419_0 : (p419_0).all (rowC 419) = true := by decide +kernel
set_option maxRecDepth 1000000 in
theorem rk419_1 : (p419_1).all (rowC 419) = true := by decide +kernel
set_option maxRecDepth 1000000 in
theorem rk419_2 : (p419_2).all (rowC 419) = true := by decide +kernel
set_option maxRecDepth 1000000 in
theorem rk419_3 : (p419_3).all (rowC 419) = true := by decide +kernel
set_option maxRecDepth 1000000 in
theorem rk419_4 : (p419_4).all (rowC 419) = true := by decide +kernel
set_option maxRecDepth 1000000 in
theorem rk419_5 : (p419_5).all (rowC 419) = true := by decide +kernel
set_option maxRecDepth 1000000 in
theorem rk419_6 : (p419_6).all (rowC 419) = true := by decide +kernel
set_option maxRecDepth 1000000 in
theorem rk419_7 : (p419_7).all (rowC 419) = true := by decide +kernel
set_option maxRecDepth 1000000 in
theorem rk419_8 : (p419_8).all (rowC 419) = true := by decide +kernel
set_option maxRecDepth 1000000 in
theorem rk419_9 : (p419_9).all (rowC 419) = true := by decide +kernel
