theorem xck_180 : (List.range' 180 6).all xchk = true := by decide +kernel
theorem xck_186 : (List.range' 186 6).all xchk = true := by decide +kernel
theorem xck_192 : (List.range' 192 6).all xchk = true := by decide +kernel
theorem xck_198 : (List.range' 198 6).all xchk = true := by decide +kernel
theorem xcl_ok : (List.range 11).all xclk = true := by decide +kernel
theorem xr_in {s m k : Nat} {P : Nat → Bool} (h : (List.range' s m).all P = true) (h1 : s ≤ k) (h2 : k < s + m) : P k = true := List.all_eq_true.mp h k (by simp [List.mem_range'_1]; omega)
theorem xchk_all (k : Nat) (h : k < 204) : xchk k = true := by
  by_cases h0 : k < 6
  · exact xr_in xck_0 (by omega) (by omega)
  by_cases h6 : k < 12
  · exact xr_in xck_6 (by omega) (by omega)
  by_cases h12 : k < 18
  · exact xr_in xck_12 (by omega) (by omega)
  by_cases h18 : k < 24
  · exact xr_in xck_18 (by omega) (by omega)
  by_cases h24 : k < 30
  · exact xr_in xck_24 (by omega) (by omega)
  by_cases h30 : k < 36
  · exact xr_in xck_30 (by omega) (by omega)
  by_cases h36 : k < 42
  · exact xr_in xck_36 (by omega) (by omega)
  by_cases h42 : k < 48
  · exact xr_in xck_42 (by omega) (by omega)
  by_cases h48 : k < 54
  · exact xr_in xck_48 (by omega) (by omega)
  by_cases h54 : k < 60
  · exact xr_in xck_54 (by omega) (by omega)
  by_cases h60 : k < 66
  · exact xr_in xck_60 (by omega) (by omega)
  by_cases h66 : k < 72
  · exact xr_in xck_66 (by omega) (by omega)
  by_cases h72 : k < 78
  · exact xr_in xck_72 (by omega) (by omega)
  by_cases h78 : k < 84
  · exact xr_in xck_78 (by omega) (by omega)
  by_cases h84 : k < 90
  · exact xr_in xck_84 (by omega) (by omega)
  by_cases h90 : k < 96
  · exact xr_in xck_90 (by omega) (by omega)
  by_cases h96 : k < 102
  · exact xr_in xck_96 (by omega) (by omega)
  by_cases h102 : k < 108
  · exact xr_in xck_102 (by omega) (by omega)
  by_cases h108 : k < 114
  · exact xr_in xck_108 (by omega) (by omega)
  by_cases h114 : k < 120
  · exact xr_in xck_114 (by omega) (by omega)
  by_cases h120 : k < 126
  · exact xr_in xck_120 (by omega) (by omega)
  by_cases h126 : k < 132
  · exact xr_in xck_126 (by omega) (by omega)
  by_cases h132 : k < 138
  · exact xr_in xck_132 (by omega) (by omega)
  by_cases h138 : k < 144
  · exact xr_in xck_138 (by omega) (by omega)
  by_cases h144 : k < 150
  · exact xr_in xck_144 (by omega) (by omega)
  by_cases h150 : k < 156
  · exact xr_in xck_150 (by omega) (by omega)
  by_cases h156 : k < 162
  · exact xr_in xck_156 (by omega) (by omega)
  by_cases h162 : k < 168
  · exact xr_in xck_162 (by omega) (by omega)
  by_cases h168 : k < 174
  · exact xr_in xck_168 (by omega) (by omega)
  by_cases h174 : k < 180
  · exact xr_in xck_174 (by omega) (by omega)
  by_cases h180 : k < 186
  · exact xr_in xck_180 (by omega) (by omega)
  by_cases h186 : k < 192
  · exact xr_in xck_186 (by omega) (by omega)
  by_cases h192 : k < 198
  · exact xr_in xck_192 (by omega) (by omega)
  by_cases h198 : k < 204
  · exact xr_in xck_198 (by omega) (by omega)
  omega
