/-! THE TABLES ARE RIGHT, 4: the checks run. -/
theorem grp_0 : GrpB 0 := by unfold GrpB; decide +kernel
theorem grp_1 : GrpB 1 := by unfold GrpB; decide +kernel
theorem grp_2 : GrpB 2 := by unfold GrpB; decide +kernel
theorem grp_3 : GrpB 3 := by unfold GrpB; decide +kernel
