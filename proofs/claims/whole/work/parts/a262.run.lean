/-! THE TABLES ARE RIGHT, 5: the checks run. -/
theorem grp_4 : GrpB 4 := by unfold GrpB; decide +kernel
theorem grp_5 : GrpB 5 := by unfold GrpB; decide +kernel
theorem grp_6 : GrpB 6 := by unfold GrpB; decide +kernel
theorem grp_7 : GrpB 7 := by unfold GrpB; decide +kernel
