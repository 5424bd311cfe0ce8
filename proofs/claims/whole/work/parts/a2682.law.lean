/-! THE TABLES ARE RIGHT, 12: the checks of the law. -/
theorem rlw_36 : rowsB 374 ((rw_L_law.drop 36).take 4) = true := by decide +kernel
theorem rlw_40 : rowsB 374 ((rw_L_law.drop 40).take 4) = true := by decide +kernel
theorem rlw_44 : rowsB 374 ((rw_L_law.drop 44).take 4) = true := by decide +kernel
theorem rlw_48 : rowsB 374 ((rw_L_law.drop 48).take 4) = true := by decide +kernel
theorem rlw_52 : rowsB 374 ((rw_L_law.drop 52).take 4) = true := by decide +kernel
theorem rlw_56 : rowsB 374 ((rw_L_law.drop 56).take 4) = true := by decide +kernel
theorem rlw_60 : rowsB 374 ((rw_L_law.drop 60).take 4) = true := by decide +kernel
theorem rlw_64 : rowsB 374 ((rw_L_law.drop 64).take 4) = true := by decide +kernel
theorem rlw_68 : rowsB 374 ((rw_L_law.drop 68).take 4) = true := by decide +kernel
