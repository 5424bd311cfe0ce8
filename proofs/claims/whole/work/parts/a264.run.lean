/-! THE TABLES ARE RIGHT, 7: the checks run. -/
theorem grp_12 : GrpB 12 := by unfold GrpB; decide +kernel
theorem grp_13 : GrpB 13 := by unfold GrpB; decide +kernel
theorem grp_14 : GrpB 14 := by unfold GrpB; decide +kernel
theorem grp_15 : GrpB 15 := by unfold GrpB; decide +kernel
