/-! The law's rows, a part of them. -/
set_option maxRecDepth 1000000 in
theorem rk419_20 : (p419_20).all (rowC 419) = true := by decide +kernel
set_option maxRecDepth 1000000 in
theorem rk419_21 : (p419_21).all (rowC 419) = true := by decide +kernel
set_option maxRecDepth 1000000 in
theorem rk419_22 : (p419_22).all (rowC 419) = true := by decide +kernel
set_option maxRecDepth 1000000 in
theorem rk419_23 : (p419_23).all (rowC 419) = true := by decide +kernel
set_option maxRecDepth 1000000 in
theorem rk419_24 : (p419_24).all (rowC 419) = true := by decide +kernel
set_option maxRecDepth 1000000 in
theorem rk419_25 : (p419_25).all (rowC 419) = true := by decide +kernel
set_option maxRecDepth 1000000 in
theorem rk419_26 : (p419_26).all (rowC 419) = true := by decide +kernel
set_option maxRecDepth 1000000 in
theorem rk419_27 : (p419_27).all (rowC 419) = true := by decide +kernel
set_option maxRecDepth 1000000 in
theorem rk419_28 : (p419_28).all (rowC 419) = true := by decide +kernel
set_option maxRecDepth 1000000 in
theorem rk419_29 : (p419_29).all (rowC 419) = true := by decide +kernel
