/-! THE TABLES ARE RIGHT, 17: the checks run (written by program). -/
theorem rp_374_77 : rowsB 374 (((rowsOf 374).drop 77).take 1) = true := by decide +kernel
theorem rp_374_78 : rowsB 374 (((rowsOf 374).drop 78).take 1) = true := by decide +kernel
theorem rp_374_79 : rowsB 374 (((rowsOf 374).drop 79).take 1) = true := by decide +kernel
theorem rp_374_80 : rowsB 374 (((rowsOf 374).drop 80).take 1) = true := by decide +kernel
theorem rp_374_81 : rowsB 374 (((rowsOf 374).drop 81).take 1) = true := by decide +kernel
theorem rp_374_82 : rowsB 374 (((rowsOf 374).drop 82).take 1) = true := by decide +kernel
theorem rp_374_83 : rowsB 374 (((rowsOf 374).drop 83).take 1) = true := by decide +kernel
theorem rp_374_84 : rowsB 374 (((rowsOf 374).drop 84).take 1) = true := by decide +kernel
theorem rp_374_85 : rowsB 374 (((rowsOf 374).drop 85).take 1) = true := by decide +kernel
