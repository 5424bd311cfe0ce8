/-! THE TABLES ARE RIGHT, 14: the checks run (written by program). -/
theorem rp_374_43 : rowsB 374 (((rowsOf 374).drop 43).take 1) = true := by decide +kernel
theorem rp_374_44 : rowsB 374 (((rowsOf 374).drop 44).take 1) = true := by decide +kernel
theorem rp_374_45 : rowsB 374 (((rowsOf 374).drop 45).take 1) = true := by decide +kernel
theorem rp_374_46 : rowsB 374 (((rowsOf 374).drop 46).take 1) = true := by decide +kernel
theorem rp_374_47 : rowsB 374 (((rowsOf 374).drop 47).take 1) = true := by decide +kernel
theorem rp_374_48 : rowsB 374 (((rowsOf 374).drop 48).take 1) = true := by decide +kernel
theorem rp_374_49 : rowsB 374 (((rowsOf 374).drop 49).take 1) = true := by decide +kernel
theorem rp_374_50 : rowsB 374 (((rowsOf 374).drop 50).take 1) = true := by decide +kernel
theorem rp_374_51 : rowsB 374 (((rowsOf 374).drop 51).take 1) = true := by decide +kernel
theorem rp_374_52 : rowsB 374 (((rowsOf 374).drop 52).take 1) = true := by decide +kernel
theorem rp_374_53 : rowsB 374 (((rowsOf 374).drop 53).take 1) = true := by decide +kernel
theorem rp_374_54 : rowsB 374 (((rowsOf 374).drop 54).take 1) = true := by decide +kernel
theorem rp_374_55 : rowsB 374 (((rowsOf 374).drop 55).take 1) = true := by decide +kernel
