/-! THE TABLES ARE RIGHT, 6: the checks run. -/
theorem grp_8 : GrpB 8 := by unfold GrpB; decide +kernel
theorem grp_9 : GrpB 9 := by unfold GrpB; decide +kernel
theorem grp_10 : GrpB 10 := by unfold GrpB; decide +kernel
theorem grp_11 : GrpB 11 := by unfold GrpB; decide +kernel
