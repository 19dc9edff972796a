/-! the checks of methods, by a program (kernel) -/
theorem xck_150 : (List.range' 150 5).all xckm = true := by decide +kernel
theorem xck_155 : (List.range' 155 1).all xckm = true := by decide +kernel
