/-! The law's rows, a part of them. -/
set_option maxRecDepth 1000000 in
theorem rk419_10 : (p419_10).all (rowC 419) = true := by decide +kernel
set_option maxRecDepth 1000000 in
theorem rk419_11 : (p419_11).all (rowC 419) = true := by decide +kernel
set_option maxRecDepth 1000000 in
theorem rk419_12 : (p419_12).all (rowC 419) = true := by decide +kernel
set_option maxRecDepth 1000000 in
theorem rk419_13 : (p419_13).all (rowC 419) = true := by decide +kernel
set_option maxRecDepth 1000000 in
theorem rk419_14 : (p419_14).all (rowC 419) = true := by decide +kernel
set_option maxRecDepth 1000000 in
theorem rk419_15 : (p419_15).all (rowC 419) = true := by decide +kernel
set_option maxRecDepth 1000000 in
theorem rk419_16 : (p419_16).all (rowC 419) = true := by decide +kernel
set_option maxRecDepth 1000000 in
theorem rk419_17 : (p419_17).all (rowC 419) = true := by decide +kernel
set_option maxRecDepth 1000000 in
theorem rk419_18 : (p419_18).all (rowC 419) = true := by decide +kernel
set_option maxRecDepth 1000000 in
theorem rk419_19 : (p419_19).all (rowC 419) = true := by decide +kernel
