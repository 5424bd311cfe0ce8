/-! THE TABLES ARE RIGHT, 9: the checks run. -/
theorem grp_15 : GrpB 15 := by unfold GrpB; decide +kernel
theorem grp_16 : GrpB 16 := by unfold GrpB; decide +kernel
theorem grp_17 : GrpB 17 := by unfold GrpB; decide +kernel
theorem grp_18 : GrpB 18 := by unfold GrpB; decide +kernel
