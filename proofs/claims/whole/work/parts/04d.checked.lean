theorem xck_108 : (List.range' 108 6).all xchk = true := by decide +kernel
theorem xck_114 : (List.range' 114 6).all xchk = true := by decide +kernel
theorem xck_120 : (List.range' 120 6).all xchk = true := by decide +kernel
theorem xck_126 : (List.range' 126 6).all xchk = true := by decide +kernel
theorem xck_132 : (List.range' 132 6).all xchk = true := by decide +kernel
theorem xck_138 : (List.range' 138 6).all xchk = true := by decide +kernel
