/-! The law's rows, a part of them. -/
set_option maxRecDepth 1000000 in
theorem rk419_40 : (p419_40).all (rowC 419) = true := by decide +kernel
set_option maxRecDepth 1000000 in
theorem rk419_41 : (p419_41).all (rowC 419) = true := by decide +kernel
set_option maxRecDepth 1000000 in
theorem rk419_42 : (p419_42).all (rowC 419) = true := by decide +kernel
set_option maxRecDepth 1000000 in
theorem rk419_43 : (p419_43).all (rowC 419) = true := by decide +kernel
set_option maxRecDepth 1000000 in
theorem rk419_44 : (p419_44).all (rowC 419) = true := by decide +kernel
set_option maxRecDepth 1000000 in
theorem rk419_45 : (p419_45).all (rowC 419) = true := by decide +kernel
set_option maxRecDepth 1000000 in
theorem rk419_46 : (p419_46).all (rowC 419) = true := by decide +kernel
set_option maxRecDepth 1000000 in
theorem rk419_47 : (p419_47).all (rowC 419) = true := by decide +kernel
set_option maxRecDepth 1000000 in
theorem rk419_48 : (p419_48).all (rowC 419) = true := by decide +kernel
