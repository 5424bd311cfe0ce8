/-! THE TABLES ARE RIGHT, 15: the checks run (written by program). -/
theorem rp_374_56 : rowsB 374 (((rowsOf 374).drop 56).take 1) = true := by decide +kernel
theorem rp_374_57 : rowsB 374 (((rowsOf 374).drop 57).take 1) = true := by decide +kernel
theorem rp_374_58 : rowsB 374 (((rowsOf 374).drop 58).take 1) = true := by decide +kernel
theorem rp_374_59 : rowsB 374 (((rowsOf 374).drop 59).take 1) = true := by decide +kernel
theorem rp_374_60 : rowsB 374 (((rowsOf 374).drop 60).take 1) = true := by decide +kernel
theorem rp_374_61 : rowsB 374 (((rowsOf 374).drop 61).take 1) = true := by decide +kernel
theorem rp_374_62 : rowsB 374 (((rowsOf 374).drop 62).take 1) = true := by decide +kernel
theorem rp_374_63 : rowsB 374 (((rowsOf 374).drop 63).take 1) = true := by decide +kernel
theorem rp_374_64 : rowsB 374 (((rowsOf 374).drop 64).take 1) = true := by decide +kernel
theorem rp_374_65 : rowsB 374 (((rowsOf 374).drop 65).take 1) = true := by decide +kernel
theorem rp_374_66 : rowsB 374 (((rowsOf 374).drop 66).take 1) = true := by decide +kernel
