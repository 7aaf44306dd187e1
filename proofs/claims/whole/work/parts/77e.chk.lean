/-! The law's rows, a part of them. -/
set_option maxRecDepth 1000000 in
theorem rk419_30 : (p419_30).all (rowC 419) = true := by decide +kernel
set_option maxRecDepth 1000000 in
theorem rk419_31 : (p419_31).all (rowC 419) = true := by decide +kernel
set_option maxRecDepth 1000000 in
theorem rk419_32 : (p419_32).all (rowC 419) = true := by decide +kernel
set_option maxRecDepth 1000000 in
theorem rk419_33 : (p419_33).all (rowC 419) = true := by decide +kernel
set_option maxRecDepth 1000000 in
theorem rk419_34 : (p419_34).all (rowC 419) = true := by decide +kernel
set_option maxRecDepth 1000000 in
theorem rk419_35 : (p419_35).all (rowC 419) = true := by decide +kernel
set_option maxRecDepth 1000000 in
theorem rk419_36 : (p419_36).all (rowC 419) = true := by decide +kernel
set_option maxRecDepth 1000000 in
theorem rk419_37 : (p419_37).all (rowC 419) = true := by decide +kernel
set_option maxRecDepth 1000000 in
theorem rk419_38 : (p419_38).all (rowC 419) = true := by decide +kernel
set_option maxRecDepth 1000000 in
theorem rk419_39 : (p419_39).all (rowC 419) = true := by decide +kernel
