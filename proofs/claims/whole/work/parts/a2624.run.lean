/-! THE TABLES ARE RIGHT, 19: the checks run (written by program). -/
theorem rp_374_94 : rowsB 374 (((rowsOf 374).drop 94).take 1) = true := by decide +kernel
theorem rp_374_95 : rowsB 374 (((rowsOf 374).drop 95).take 1) = true := by decide +kernel
theorem rp_374_96 : rowsB 374 (((rowsOf 374).drop 96).take 1) = true := by decide +kernel
theorem rp_374_97 : rowsB 374 (((rowsOf 374).drop 97).take 1) = true := by decide +kernel
theorem rp_374_98 : rowsB 374 (((rowsOf 374).drop 98).take 1) = true := by decide +kernel
theorem rp_374_99 : rowsB 374 (((rowsOf 374).drop 99).take 1) = true := by decide +kernel
theorem rp_374_100 : rowsB 374 (((rowsOf 374).drop 100).take 1) = true := by decide +kernel
