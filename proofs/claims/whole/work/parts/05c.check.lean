/-! the checks of methods, by a program (kernel) -/
theorem xck_78 : (List.range' 78 13).all xckm = true := by decide +kernel
theorem xck_91 : (List.range' 91 13).all xckm = true := by decide +kernel
theorem xck_104 : (List.range' 104 13).all xckm = true := by decide +kernel
