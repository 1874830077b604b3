theorem xck_144 : (List.range' 144 6).all xchk = true := by decide +kernel
theorem xck_150 : (List.range' 150 6).all xchk = true := by decide +kernel
theorem xck_156 : (List.range' 156 6).all xchk = true := by decide +kernel
theorem xck_162 : (List.range' 162 6).all xchk = true := by decide +kernel
theorem xck_168 : (List.range' 168 6).all xchk = true := by decide +kernel
theorem xck_174 : (List.range' 174 6).all xchk = true := by decide +kernel
