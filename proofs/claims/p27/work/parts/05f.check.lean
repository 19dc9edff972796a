/-! the checks of methods, by a program (kernel) -/
theorem xck_89 : (List.range' 89 1).all xckm = true := by decide +kernel
theorem xck_93 : (List.range' 93 2).all xckm = true := by decide +kernel
