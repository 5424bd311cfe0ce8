/-! THE TABLES ARE RIGHT, 9: the checks run. -/
theorem grp_20 : GrpB 20 := by unfold GrpB; decide +kernel
theorem grp_21 : GrpB 21 := by unfold GrpB; decide +kernel
theorem grp_22 : GrpB 22 := by unfold GrpB; decide +kernel
theorem grp_23 : GrpB 23 := by unfold GrpB; decide +kernel
