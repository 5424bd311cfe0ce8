/-! THE TABLES ARE RIGHT, 16: the checks run (written by program). -/
theorem rp_374_67 : rowsB 374 (((rowsOf 374).drop 67).take 1) = true := by decide +kernel
theorem rp_374_68 : rowsB 374 (((rowsOf 374).drop 68).take 1) = true := by decide +kernel
theorem rp_374_69 : rowsB 374 (((rowsOf 374).drop 69).take 1) = true := by decide +kernel
theorem rp_374_70 : rowsB 374 (((rowsOf 374).drop 70).take 1) = true := by decide +kernel
theorem rp_374_71 : rowsB 374 (((rowsOf 374).drop 71).take 1) = true := by decide +kernel
theorem rp_374_72 : rowsB 374 (((rowsOf 374).drop 72).take 1) = true := by decide +kernel
theorem rp_374_73 : rowsB 374 (((rowsOf 374).drop 73).take 1) = true := by decide +kernel
theorem rp_374_74 : rowsB 374 (((rowsOf 374).drop 74).take 1) = true := by decide +kernel
theorem rp_374_75 : rowsB 374 (((rowsOf 374).drop 75).take 1) = true := by decide +kernel
theorem rp_374_76 : rowsB 374 (((rowsOf 374).drop 76).take 1) = true := by decide +kernel
