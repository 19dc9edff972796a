/-! the checks of methods, by a program (kernel) -/
theorem xck_95 : (List.range' 95 1).all xckm = true := by decide +kernel
theorem xck_97 : (List.range' 97 1).all xckm = true := by decide +kernel
