/-! THE TABLES ARE RIGHT, 18: the checks run (written by program). -/
theorem rp_374_86 : rowsB 374 (((rowsOf 374).drop 86).take 1) = true := by decide +kernel
theorem rp_374_87 : rowsB 374 (((rowsOf 374).drop 87).take 1) = true := by decide +kernel
theorem rp_374_88 : rowsB 374 (((rowsOf 374).drop 88).take 1) = true := by decide +kernel
theorem rp_374_89 : rowsB 374 (((rowsOf 374).drop 89).take 1) = true := by decide +kernel
theorem rp_374_90 : rowsB 374 (((rowsOf 374).drop 90).take 1) = true := by decide +kernel
theorem rp_374_91 : rowsB 374 (((rowsOf 374).drop 91).take 1) = true := by decide +kernel
theorem rp_374_92 : rowsB 374 (((rowsOf 374).drop 92).take 1) = true := by decide +kernel
theorem rp_374_93 : rowsB 374 (((rowsOf 374).drop 93).take 1) = true := by decide +kernel
