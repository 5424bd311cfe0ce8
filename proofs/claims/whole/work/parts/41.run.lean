theorem ck_g2 : (List.range 3).all (fun j => rowsB (32 + j) (rowsOf (32 + j))) = true := by decide +kernel
