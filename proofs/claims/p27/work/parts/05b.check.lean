/-! the checks of methods, by a program (kernel) -/
theorem xck_39 : (List.range' 39 13).all xckm = true := by decide +kernel
theorem xck_52 : (List.range' 52 13).all xckm = true := by decide +kernel
theorem xck_65 : (List.range' 65 13).all xckm = true := by decide +kernel
