theorem xck_72 : (List.range' 72 6).all xchk = true := by decide +kernel
theorem xck_78 : (List.range' 78 6).all xchk = true := by decide +kernel
theorem xck_84 : (List.range' 84 6).all xchk = true := by decide +kernel
theorem xck_90 : (List.range' 90 6).all xchk = true := by decide +kernel
theorem xck_96 : (List.range' 96 6).all xchk = true := by decide +kernel
theorem xck_102 : (List.range' 102 6).all xchk = true := by decide +kernel
