/-! THE TABLES ARE RIGHT, 10: the checks run. -/
theorem grp_19 : GrpB 19 := by unfold GrpB; decide +kernel
theorem grp_20 : GrpB 20 := by unfold GrpB; decide +kernel
theorem grp_21 : GrpB 21 := by unfold GrpB; decide +kernel
theorem grp_22 : GrpB 22 := by unfold GrpB; decide +kernel
theorem rb_368 : rowsB 368 (rowsOf 368) = true := by decide +kernel
theorem rb_369 : rowsB 369 (rowsOf 369) = true := by decide +kernel
theorem rb_370 : rowsB 370 (rowsOf 370) = true := by decide +kernel
theorem rb_371 : rowsB 371 (rowsOf 371) = true := by decide +kernel
theorem rb_372 : rowsB 372 (rowsOf 372) = true := by decide +kernel
theorem rb_373 : rowsB 373 (rowsOf 373) = true := by decide +kernel
