/-! the checks of methods, by a program (kernel) -/
theorem xck_0 : (List.range' 0 13).all xckm = true := by decide +kernel
theorem xck_13 : (List.range' 13 13).all xckm = true := by decide +kernel
theorem xck_26 : (List.range' 26 13).all xckm = true := by decide +kernel
