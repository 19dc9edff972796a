/-! the checks of methods, by a program (kernel) -/
theorem xck_117 : (List.range' 117 13).all xckm = true := by decide +kernel
theorem xck_130 : (List.range' 130 13).all xckm = true := by decide +kernel
theorem xck_143 : (List.range' 143 7).all xckm = true := by decide +kernel
