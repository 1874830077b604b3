theorem xck_36 : (List.range' 36 6).all xchk = true := by decide +kernel
theorem xck_42 : (List.range' 42 6).all xchk = true := by decide +kernel
theorem xck_48 : (List.range' 48 6).all xchk = true := by decide +kernel
theorem xck_54 : (List.range' 54 6).all xchk = true := by decide +kernel
theorem xck_60 : (List.range' 60 6).all xchk = true := by decide +kernel
theorem xck_66 : (List.range' 66 6).all xchk = true := by decide +kernel
