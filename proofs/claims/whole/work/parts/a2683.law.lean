/-! THE TABLES ARE RIGHT, 13: the checks of the law. -/
theorem rlw_72 : rowsB 374 ((rw_L_law.drop 72).take 2) = true := by decide +kernel
theorem rlw_74 : rowsB 374 ((rw_L_law.drop 74).take 2) = true := by decide +kernel
theorem rlw_76 : rowsB 374 ((rw_L_law.drop 76).take 2) = true := by decide +kernel
theorem rlw_78 : rowsB 374 ((rw_L_law.drop 78).take 2) = true := by decide +kernel
theorem rlw_80 : rowsB 374 ((rw_L_law.drop 80).take 2) = true := by decide +kernel
theorem rlw_82 : rowsB 374 ((rw_L_law.drop 82).take 2) = true := by decide +kernel
theorem rlw_84 : rowsB 374 ((rw_L_law.drop 84).take 2) = true := by decide +kernel
theorem rlw_86 : rowsB 374 ((rw_L_law.drop 86).take 2) = true := by decide +kernel
theorem rlw_88 : rowsB 374 ((rw_L_law.drop 88).take 2) = true := by decide +kernel
theorem rlw_90 : rowsB 374 ((rw_L_law.drop 90).take 2) = true := by decide +kernel
theorem rlw_92 : rowsB 374 ((rw_L_law.drop 92).take 2) = true := by decide +kernel
theorem rlw_94 : rowsB 374 ((rw_L_law.drop 94).take 2) = true := by decide +kernel
theorem rlw_96 : rowsB 374 ((rw_L_law.drop 96).take 2) = true := by decide +kernel
theorem rlw_98 : rowsB 374 ((rw_L_law.drop 98).take 2) = true := by decide +kernel
theorem rlw_100 : rowsB 374 ((rw_L_law.drop 100).take 2) = true := by decide +kernel
theorem rlw_102 : rowsB 374 ((rw_L_law.drop 102).take 2) = true := by decide +kernel
theorem rlw_104 : rowsB 374 ((rw_L_law.drop 104).take 2) = true := by decide +kernel
theorem rlw_106 : rowsB 374 ((rw_L_law.drop 106).take 2) = true := by decide +kernel
theorem rlw_end : rowsB 374 (rw_L_law.drop 108) = true := by decide +kernel
theorem rlw_all : rowsB 374 rw_L_law = true := rows_drop 0 4 rlw_0 (rows_drop 4 4 rlw_4 (rows_drop 8 4 rlw_8 (rows_drop 12 4 rlw_12 (rows_drop 16 4 rlw_16 (rows_drop 20 4 rlw_20 (rows_drop 24 4 rlw_24 (rows_drop 28 4 rlw_28 (rows_drop 32 4 rlw_32 (rows_drop 36 4 rlw_36 (rows_drop 40 4 rlw_40 (rows_drop 44 4 rlw_44 (rows_drop 48 4 rlw_48 (rows_drop 52 4 rlw_52 (rows_drop 56 4 rlw_56 (rows_drop 60 4 rlw_60 (rows_drop 64 4 rlw_64 (rows_drop 68 4 rlw_68 (rows_drop 72 2 rlw_72 (rows_drop 74 2 rlw_74 (rows_drop 76 2 rlw_76 (rows_drop 78 2 rlw_78 (rows_drop 80 2 rlw_80 (rows_drop 82 2 rlw_82 (rows_drop 84 2 rlw_84 (rows_drop 86 2 rlw_86 (rows_drop 88 2 rlw_88 (rows_drop 90 2 rlw_90 (rows_drop 92 2 rlw_92 (rows_drop 94 2 rlw_94 (rows_drop 96 2 rlw_96 (rows_drop 98 2 rlw_98 (rows_drop 100 2 rlw_100 (rows_drop 102 2 rlw_102 (rows_drop 104 2 rlw_104 (rows_drop 106 2 rlw_106 rlw_end)))))))))))))))))))))))))))))))))))
theorem rb_374 : rowsB 374 (rowsOf 374) = true := rlw_all
theorem grp_23 : GrpB 23 := grp_by fun j h h2 => by
  match j, h, h2 with
  | 0, _, _ => exact rb_368
  | 1, _, _ => exact rb_369
  | 2, _, _ => exact rb_370
  | 3, _, _ => exact rb_371
  | 4, _, _ => exact rb_372
  | 5, _, _ => exact rb_373
  | 6, _, _ => exact rb_374
  | j + 7, _, h2 => exact absurd h2 (by omega)
