theorem ck_try : rowsB 37 (rowsOf 37) = true := by decide +kernel
