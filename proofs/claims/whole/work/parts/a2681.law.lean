/-! THE TABLES ARE RIGHT, 11: the checks of the law. -/
theorem rlw_0 : rowsB 374 ((rw_L_law.drop 0).take 4) = true := by decide +kernel
theorem rlw_4 : rowsB 374 ((rw_L_law.drop 4).take 4) = true := by decide +kernel
theorem rlw_8 : rowsB 374 ((rw_L_law.drop 8).take 4) = true := by decide +kernel
theorem rlw_12 : rowsB 374 ((rw_L_law.drop 12).take 4) = true := by decide +kernel
theorem rlw_16 : rowsB 374 ((rw_L_law.drop 16).take 4) = true := by decide +kernel
theorem rlw_20 : rowsB 374 ((rw_L_law.drop 20).take 4) = true := by decide +kernel
theorem rlw_24 : rowsB 374 ((rw_L_law.drop 24).take 4) = true := by decide +kernel
theorem rlw_28 : rowsB 374 ((rw_L_law.drop 28).take 4) = true := by decide +kernel
theorem rlw_32 : rowsB 374 ((rw_L_law.drop 32).take 4) = true := by decide +kernel
