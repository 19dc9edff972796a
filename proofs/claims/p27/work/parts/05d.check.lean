/-! the checks of methods, by a program (kernel) -/
theorem xck_88 : (List.range' 88 1).all xckm = true := by decide +kernel
theorem xck_90 : (List.range' 90 3).all xckm = true := by decide +kernel
