/-! the checks of methods, by a program (kernel) -/
theorem xck_78 : (List.range' 78 8).all xckm = true := by decide +kernel
theorem xck_86 : (List.range' 86 2).all xckm = true := by decide +kernel
theorem xck_96 : (List.range' 96 1).all xckm = true := by decide +kernel
