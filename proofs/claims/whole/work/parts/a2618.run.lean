/-! THE TABLES ARE RIGHT, 13: the checks run (written by program). -/
theorem rp_374_26 : rowsB 374 (((rowsOf 374).drop 26).take 1) = true := by decide +kernel
theorem rp_374_27 : rowsB 374 (((rowsOf 374).drop 27).take 1) = true := by decide +kernel
theorem rp_374_28 : rowsB 374 (((rowsOf 374).drop 28).take 1) = true := by decide +kernel
theorem rp_374_29 : rowsB 374 (((rowsOf 374).drop 29).take 1) = true := by decide +kernel
theorem rp_374_30 : rowsB 374 (((rowsOf 374).drop 30).take 1) = true := by decide +kernel
theorem rp_374_31 : rowsB 374 (((rowsOf 374).drop 31).take 1) = true := by decide +kernel
theorem rp_374_32 : rowsB 374 (((rowsOf 374).drop 32).take 1) = true := by decide +kernel
theorem rp_374_33 : rowsB 374 (((rowsOf 374).drop 33).take 1) = true := by decide +kernel
theorem rp_374_34 : rowsB 374 (((rowsOf 374).drop 34).take 1) = true := by decide +kernel
theorem rp_374_35 : rowsB 374 (((rowsOf 374).drop 35).take 1) = true := by decide +kernel
theorem rp_374_36 : rowsB 374 (((rowsOf 374).drop 36).take 1) = true := by decide +kernel
theorem rp_374_37 : rowsB 374 (((rowsOf 374).drop 37).take 1) = true := by decide +kernel
theorem rp_374_38 : rowsB 374 (((rowsOf 374).drop 38).take 1) = true := by decide +kernel
theorem rp_374_39 : rowsB 374 (((rowsOf 374).drop 39).take 1) = true := by decide +kernel
theorem rp_374_40 : rowsB 374 (((rowsOf 374).drop 40).take 1) = true := by decide +kernel
theorem rp_374_41 : rowsB 374 (((rowsOf 374).drop 41).take 1) = true := by decide +kernel
theorem rp_374_42 : rowsB 374 (((rowsOf 374).drop 42).take 1) = true := by decide +kernel
