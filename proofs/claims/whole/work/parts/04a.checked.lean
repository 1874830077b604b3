theorem xck_0 : (List.range' 0 6).all xchk = true := by decide +kernel
theorem xck_6 : (List.range' 6 6).all xchk = true := by decide +kernel
theorem xck_12 : (List.range' 12 6).all xchk = true := by decide +kernel
theorem xck_18 : (List.range' 18 6).all xchk = true := by decide +kernel
theorem xck_24 : (List.range' 24 6).all xchk = true := by decide +kernel
theorem xck_30 : (List.range' 30 6).all xchk = true := by decide +kernel
