/-! FACTS of the static world, constants, jumps (written by program). -/
theorem ao_eq {n : Nat} {I I2 : Nat → Nat → Nat → Int32} {L L2 : Nat → Nat → Nat → Int64} {P P2 : Nat → Nat → Nat → Option (Nat × Nat)} {E : Nat → Nat × Nat × Nat × Nat} {c s c2 s2 a r t : Nat} {i : Int32} : arrOk (mm n I L P E c s) a r t i = arrOk (mm n I2 L2 P2 E c2 s2) a r t i := rfl
def okE (o : Option Ent) (e : Ent) : Bool := match o with
  | some x => decide (x.1 = e.1) && (decide (x.2.1 = e.2.1) && (decide (x.2.2.1 = e.2.2.1) && (decide (x.2.2.2.1 = e.2.2.2.1) && (decide (x.2.2.2.2.1 = e.2.2.2.2.1) && decide (x.2.2.2.2.2 = e.2.2.2.2.2)))))
  | none => false
theorem f_of {m pc : Nat} {e : Ent} (h : okE (prgE m pc) e = true) : prgE m pc = some e := by
  unfold okE at h
  split at h
  · rename_i x hx
    simp only [Bool.and_eq_true, decide_eq_true_eq] at h
    obtain ⟨h1, h2, h3, h4, h5, h6⟩ := h
    obtain ⟨y1, y2, y3, y4, y5, y6⟩ := x
    obtain ⟨z1, z2, z3, z4, z5, z6⟩ := e
    dsimp only at h1 h2 h3 h4 h5 h6
    subst h1 h2 h3 h4 h5 h6
    exact hx
  · cases h
theorem ob_100 {n : Nat} {I : Nat → Nat → Nat → Int32} {L : Nat → Nat → Nat → Int64} {P : Nat → Nat → Nat → Option (Nat × Nat)} {E : Nat → Nat × Nat × Nat × Nat} {c s : Nat} : isObj (mm n I L P E c s) 100 0 11 = true := rfl
theorem cb_20 : (Int8.ofInt (20)).toInt32 = (20 : Int32) := by decide +kernel
theorem cs_600 : (Int16.ofInt (600)).toInt32 = (600 : Int32) := by decide +kernel
theorem tg_10_5 : tgt 10 (5) = 15 := by decide +kernel
theorem ci_m1 : Int32.ofInt (-1) = (-1 : Int32) := by decide +kernel
theorem tg_2_15 : tgt 2 (15) = 17 := by decide +kernel
theorem ci_0 : Int32.ofInt (0) = (0 : Int32) := by decide +kernel
theorem tg_10_7 : tgt 10 (7) = 17 := by decide +kernel
theorem ci_1 : Int32.ofInt (1) = (1 : Int32) := by decide +kernel
theorem tg_14_4 : tgt 14 (4) = 18 := by decide +kernel
theorem rf_100_6 {P : Nat → Nat → Nat → Option (Nat × Nat)} : RR P 100 0 6 = some (142, 0) := rfl
theorem ob_142 {n : Nat} {I : Nat → Nat → Nat → Int32} {L : Nat → Nat → Nat → Int64} {P : Nat → Nat → Nat → Option (Nat × Nat)} {E : Nat → Nat × Nat × Nat × Nat} {c s : Nat} : isObj (mm n I L P E c s) 142 0 3 = true := rfl
theorem rf_100_2 {P : Nat → Nat → Nat → Option (Nat × Nat)} : RR P 100 0 2 = some (102, 0) := rfl
theorem ob_102 {n : Nat} {I : Nat → Nat → Nat → Int32} {L : Nat → Nat → Nat → Int64} {P : Nat → Nat → Nat → Option (Nat × Nat)} {E : Nat → Nat × Nat × Nat × Nat} {c s : Nat} : isObj (mm n I L P E c s) 102 0 10 = true := rfl
theorem tg_46_14 : tgt 46 (14) = 60 := by decide +kernel
theorem rf_100_4 {P : Nat → Nat → Nat → Option (Nat × Nat)} : RR P 100 0 4 = some (103, 0) := rfl
theorem rf_100_5 {P : Nat → Nat → Nat → Option (Nat × Nat)} : RR P 100 0 5 = some (115, 0) := rfl
theorem ob_103 {n : Nat} {I : Nat → Nat → Nat → Int32} {L : Nat → Nat → Nat → Int64} {P : Nat → Nat → Nat → Option (Nat × Nat)} {E : Nat → Nat × Nat × Nat × Nat} {c s : Nat} : isObj (mm n I L P E c s) 103 0 2 = true := rfl
theorem cb_10 : (Int8.ofInt (10)).toInt32 = (10 : Int32) := by decide +kernel
theorem rf_100_8 {P : Nat → Nat → Nat → Option (Nat × Nat)} : RR P 100 0 8 = some (127, 0) := rfl
theorem ob_127 {n : Nat} {I : Nat → Nat → Nat → Int32} {L : Nat → Nat → Nat → Int64} {P : Nat → Nat → Nat → Option (Nat × Nat)} {E : Nat → Nat × Nat × Nat × Nat} {c s : Nat} : isObj (mm n I L P E c s) 127 0 1 = true := rfl
theorem rf_100_11 {P : Nat → Nat → Nat → Option (Nat × Nat)} : RR P 100 0 11 = some (135, 0) := rfl
theorem ob_135 {n : Nat} {I : Nat → Nat → Nat → Int32} {L : Nat → Nat → Nat → Int64} {P : Nat → Nat → Nat → Option (Nat × Nat)} {E : Nat → Nat × Nat × Nat × Nat} {c s : Nat} : isObj (mm n I L P E c s) 135 0 0 = true := rfl
theorem cb_6 : (Int8.ofInt (6)).toInt32 = (6 : Int32) := by decide +kernel
theorem tg_24_5 : tgt 24 (5) = 29 := by decide +kernel
theorem cb_60 : (Int8.ofInt (60)).toInt32 = (60 : Int32) := by decide +kernel
theorem tg_38_6 : tgt 38 (6) = 44 := by decide +kernel
theorem cb_m2 : (Int8.ofInt (-2)).toInt32 = (-2 : Int32) := by decide +kernel
theorem tg_2_18 : tgt 2 (18) = 20 := by decide +kernel
theorem tg_13_7 : tgt 13 (7) = 20 := by decide +kernel
theorem tg_17_4 : tgt 17 (4) = 21 := by decide +kernel
theorem tg_2_12 : tgt 2 (12) = 14 := by decide +kernel
theorem ci_3 : Int32.ofInt (3) = (3 : Int32) := by decide +kernel
theorem tg_7_7 : tgt 7 (7) = 14 := by decide +kernel
theorem tg_11_4 : tgt 11 (4) = 15 := by decide +kernel
theorem tg_19_14 : tgt 19 (14) = 33 := by decide +kernel
theorem tg_30_5 : tgt 30 (5) = 35 := by decide +kernel
theorem tg_14_47 : tgt 14 (47) = 61 := by decide +kernel
theorem tg_47_8 : tgt 47 (8) = 55 := by decide +kernel
theorem tg_58_m52 : tgt 58 (-52) = 6 := by decide +kernel
theorem cb_12 : (Int8.ofInt (12)).toInt32 = (12 : Int32) := by decide +kernel
theorem tg_9_5 : tgt 9 (5) = 14 := by decide +kernel
theorem tg_41_58 : tgt 41 (58) = 99 := by decide +kernel
theorem tg_50_43 : tgt 50 (43) = 93 := by decide +kernel
theorem tg_96_m64 : tgt 96 (-64) = 32 := by decide +kernel
theorem tg_60_27 : tgt 60 (27) = 87 := by decide +kernel
theorem tg_90_m43 : tgt 90 (-43) = 47 := by decide +kernel
theorem tg_81_6 : tgt 81 (6) = 87 := by decide +kernel
theorem tg_18_13 : tgt 18 (13) = 31 := by decide +kernel
theorem ci_2 : Int32.ofInt (2) = (2 : Int32) := by decide +kernel
theorem tg_24_7 : tgt 24 (7) = 31 := by decide +kernel
theorem tg_28_4 : tgt 28 (4) = 32 := by decide +kernel
theorem tg_44_5 : tgt 44 (5) = 49 := by decide +kernel
theorem tg_16_8 : tgt 16 (8) = 24 := by decide +kernel
theorem tg_25_7 : tgt 25 (7) = 32 := by decide +kernel
theorem tg_21_7 : tgt 21 (7) = 28 := by decide +kernel
theorem tg_23_36 : tgt 23 (36) = 59 := by decide +kernel
theorem tg_28_25 : tgt 28 (25) = 53 := by decide +kernel
theorem tg_56_m42 : tgt 56 (-42) = 14 := by decide +kernel
theorem tg_37_16 : tgt 37 (16) = 53 := by decide +kernel
theorem rf_127_8 {P : Nat → Nat → Nat → Option (Nat × Nat)} : RR P 127 0 8 = some (133, 0) := rfl
theorem ao_133_0 {n : Nat} {I : Nat → Nat → Nat → Int32} {L : Nat → Nat → Nat → Int64} {P : Nat → Nat → Nat → Option (Nat × Nat)} {E : Nat → Nat × Nat × Nat × Nat} {c s : Nat} {i : Int32} : arrOk (mm n I L P E c s) 133 0 3 i = inb i 10 := rfl
theorem rf_100_12 {P : Nat → Nat → Nat → Option (Nat × Nat)} : RR P 100 0 12 = some (170, 0) := rfl
theorem ob_170 {n : Nat} {I : Nat → Nat → Nat → Int32} {L : Nat → Nat → Nat → Int64} {P : Nat → Nat → Nat → Option (Nat × Nat)} {E : Nat → Nat × Nat × Nat × Nat} {c s : Nat} : isObj (mm n I L P E c s) 170 0 9 = true := rfl
theorem tg_23_13 : tgt 23 (13) = 36 := by decide +kernel
theorem tg_33_10 : tgt 33 (10) = 43 := by decide +kernel
theorem tg_24_8 : tgt 24 (8) = 32 := by decide +kernel
theorem tg_29_7 : tgt 29 (7) = 36 := by decide +kernel
theorem tg_25_5 : tgt 25 (5) = 30 := by decide +kernel
theorem tg_31_10 : tgt 31 (10) = 41 := by decide +kernel
theorem cb_64 : (Int8.ofInt (64)).toInt32 = (64 : Int32) := by decide +kernel
theorem dc_eq_64_0 : (decide ((64 : Int32) = (0 : Int32))) = false := by decide +kernel
theorem tg_38_7 : tgt 38 (7) = 45 := by decide +kernel
theorem rf_100_13 {P : Nat → Nat → Nat → Option (Nat × Nat)} : RR P 100 0 13 = some (177, 0) := rfl
theorem ob_177 {n : Nat} {I : Nat → Nat → Nat → Int32} {L : Nat → Nat → Nat → Int64} {P : Nat → Nat → Nat → Option (Nat × Nat)} {E : Nat → Nat × Nat × Nat × Nat} {c s : Nat} : isObj (mm n I L P E c s) 177 0 7 = true := rfl
theorem tg_31_8 : tgt 31 (8) = 39 := by decide +kernel
theorem tg_36_10 : tgt 36 (10) = 46 := by decide +kernel
theorem tg_25_53 : tgt 25 (53) = 78 := by decide +kernel
theorem tg_37_35 : tgt 37 (35) = 72 := by decide +kernel
theorem tg_75_m54 : tgt 75 (-54) = 21 := by decide +kernel
theorem cl_m1 : Int64.ofInt (-1) = (-1 : Int64) := by decide +kernel
theorem cf_0 : Int64.ofNat (0 : Fin 2).val = (0 : Int64) := by decide +kernel
theorem tg_60_12 : tgt 60 (12) = 72 := by decide +kernel
theorem tg_40_13 : tgt 40 (13) = 53 := by decide +kernel
theorem tg_44_7 : tgt 44 (7) = 51 := by decide +kernel
theorem tg_48_4 : tgt 48 (4) = 52 := by decide +kernel
theorem tg_64_5 : tgt 64 (5) = 69 := by decide +kernel
theorem tg_70_8 : tgt 70 (8) = 78 := by decide +kernel
theorem tg_75_5 : tgt 75 (5) = 80 := by decide +kernel
theorem tg_8_12 : tgt 8 (12) = 20 := by decide +kernel
theorem rf_100_14 {P : Nat → Nat → Nat → Option (Nat × Nat)} : RR P 100 0 14 = some (178, 0) := rfl
theorem ob_178 {n : Nat} {I : Nat → Nat → Nat → Int32} {L : Nat → Nat → Nat → Int64} {P : Nat → Nat → Nat → Option (Nat × Nat)} {E : Nat → Nat × Nat × Nat × Nat} {c s : Nat} : isObj (mm n I L P E c s) 178 0 8 = true := rfl
theorem tg_12_13 : tgt 12 (13) = 25 := by decide +kernel
theorem cb_99 : (Int8.ofInt (99)).toInt32 = (99 : Int32) := by decide +kernel
theorem tg_18_7 : tgt 18 (7) = 25 := by decide +kernel
theorem tg_22_4 : tgt 22 (4) = 26 := by decide +kernel
theorem rf_127_9 {P : Nat → Nat → Nat → Option (Nat × Nat)} : RR P 127 0 9 = some (134, 0) := rfl
theorem ao_134_0 {n : Nat} {I : Nat → Nat → Nat → Int32} {L : Nat → Nat → Nat → Int64} {P : Nat → Nat → Nat → Option (Nat × Nat)} {E : Nat → Nat × Nat × Nat × Nat} {c s : Nat} {i : Int32} : arrOk (mm n I L P E c s) 134 0 0 i = inb i 36 := rfl
theorem rf_100_15 {P : Nat → Nat → Nat → Option (Nat × Nat)} : RR P 100 0 15 = some (183, 0) := rfl
theorem ob_183 {n : Nat} {I : Nat → Nat → Nat → Int32} {L : Nat → Nat → Nat → Int64} {P : Nat → Nat → Nat → Option (Nat × Nat)} {E : Nat → Nat × Nat × Nat × Nat} {c s : Nat} : isObj (mm n I L P E c s) 183 0 4 = true := rfl
theorem tg_7_13 : tgt 7 (13) = 20 := by decide +kernel
theorem tg_25_15 : tgt 25 (15) = 40 := by decide +kernel
theorem tg_37_14 : tgt 37 (14) = 51 := by decide +kernel
theorem tg_3_14 : tgt 3 (14) = 17 := by decide +kernel
theorem cs_256 : (Int16.ofInt (256)).toInt32 = (256 : Int32) := by decide +kernel
theorem tg_23_12 : tgt 23 (12) = 35 := by decide +kernel
theorem tg_28_7 : tgt 28 (7) = 35 := by decide +kernel
theorem tg_32_4 : tgt 32 (4) = 36 := by decide +kernel
theorem cb_8 : (Int8.ofInt (8)).toInt32 = (8 : Int32) := by decide +kernel
theorem tg_55_25 : tgt 55 (25) = 80 := by decide +kernel
theorem tg_60_14 : tgt 60 (14) = 74 := by decide +kernel
theorem tg_77_m26 : tgt 77 (-26) = 51 := by decide +kernel
theorem tg_68_6 : tgt 68 (6) = 74 := by decide +kernel
theorem tg_3_13 : tgt 3 (13) = 16 := by decide +kernel
theorem tg_9_7 : tgt 9 (7) = 16 := by decide +kernel
theorem tg_13_4 : tgt 13 (4) = 17 := by decide +kernel
theorem tg_22_12 : tgt 22 (12) = 34 := by decide +kernel
theorem tg_27_7 : tgt 27 (7) = 34 := by decide +kernel
theorem tg_31_4 : tgt 31 (4) = 35 := by decide +kernel
theorem tg_51_8 : tgt 51 (8) = 59 := by decide +kernel
theorem tg_56_4 : tgt 56 (4) = 60 := by decide +kernel
theorem cb_16 : (Int8.ofInt (16)).toInt32 = (16 : Int32) := by decide +kernel
theorem cs_365 : (Int16.ofInt (365)).toInt32 = (365 : Int32) := by decide +kernel
theorem tg_38_41 : tgt 38 (41) = 79 := by decide +kernel
theorem tg_54_19 : tgt 54 (19) = 73 := by decide +kernel
theorem tg_76_m43 : tgt 76 (-43) = 33 := by decide +kernel
theorem tg_67_6 : tgt 67 (6) = 73 := by decide +kernel
theorem tg_2_13 : tgt 2 (13) = 15 := by decide +kernel
theorem tg_8_7 : tgt 8 (7) = 15 := by decide +kernel
theorem tg_12_4 : tgt 12 (4) = 16 := by decide +kernel
theorem tg_26_5 : tgt 26 (5) = 31 := by decide +kernel
theorem tg_47_54 : tgt 47 (54) = 101 := by decide +kernel
theorem tg_63_15 : tgt 63 (15) = 78 := by decide +kernel
theorem tg_82_4 : tgt 82 (4) = 86 := by decide +kernel
theorem tg_98_m56 : tgt 98 (-56) = 42 := by decide +kernel
theorem tg_75_10 : tgt 75 (10) = 85 := by decide +kernel
theorem tg_26_42 : tgt 26 (42) = 68 := by decide +kernel
theorem tg_49_13 : tgt 49 (13) = 62 := by decide +kernel
theorem tg_65_m44 : tgt 65 (-44) = 21 := by decide +kernel
theorem tg_56_6 : tgt 56 (6) = 62 := by decide +kernel
theorem tg_23_50 : tgt 23 (50) = 73 := by decide +kernel
theorem tg_74_7 : tgt 74 (7) = 81 := by decide +kernel
theorem tg_78_5 : tgt 78 (5) = 83 := by decide +kernel
theorem tg_46_21 : tgt 46 (21) = 67 := by decide +kernel
theorem tg_70_m52 : tgt 70 (-52) = 18 := by decide +kernel
theorem tg_55_8 : tgt 55 (8) = 63 := by decide +kernel
theorem tg_60_5 : tgt 60 (5) = 65 := by decide +kernel
theorem tg_26_61 : tgt 26 (61) = 87 := by decide +kernel
theorem tg_52_29 : tgt 52 (29) = 81 := by decide +kernel
theorem tg_84_m63 : tgt 84 (-63) = 21 := by decide +kernel
theorem tg_75_6 : tgt 75 (6) = 81 := by decide +kernel
theorem tg_21_49 : tgt 21 (49) = 70 := by decide +kernel
theorem tg_34_7 : tgt 34 (7) = 41 := by decide +kernel
theorem tg_38_12 : tgt 38 (12) = 50 := by decide +kernel
theorem tg_55_9 : tgt 55 (9) = 64 := by decide +kernel
theorem tg_67_m55 : tgt 67 (-55) = 12 := by decide +kernel
theorem tg_16_25 : tgt 16 (25) = 41 := by decide +kernel
theorem tg_38_m26 : tgt 38 (-26) = 12 := by decide +kernel
theorem tg_5_15 : tgt 5 (15) = 20 := by decide +kernel
theorem tg_23_5 : tgt 23 (5) = 28 := by decide +kernel
theorem rf_100_9 {P : Nat → Nat → Nat → Option (Nat × Nat)} : RR P 100 0 9 = some (145, 0) := rfl
theorem ao_145_0 {n : Nat} {I : Nat → Nat → Nat → Int32} {L : Nat → Nat → Nat → Int64} {P : Nat → Nat → Nat → Option (Nat × Nat)} {E : Nat → Nat × Nat × Nat × Nat} {c s : Nat} {i : Int32} : arrOk (mm n I L P E c s) 145 0 5 i = inb i 3 := rfl
theorem tg_4_17 : tgt 4 (17) = 21 := by decide +kernel
theorem tg_18_4 : tgt 18 (4) = 22 := by decide +kernel
theorem tg_1_8 : tgt 1 (8) = 9 := by decide +kernel
theorem tg_11_10 : tgt 11 (10) = 21 := by decide +kernel
theorem cb_7 : (Int8.ofInt (7)).toInt32 = (7 : Int32) := by decide +kernel
theorem tg_5_16 : tgt 5 (16) = 21 := by decide +kernel
theorem ob_186 {n : Nat} {I : Nat → Nat → Nat → Int32} {L : Nat → Nat → Nat → Int64} {P : Nat → Nat → Nat → Option (Nat × Nat)} {E : Nat → Nat × Nat × Nat × Nat} {c s : Nat} : isObj (mm n I L P E c s) 186 0 12 = true := rfl
theorem rf_186_11 {P : Nat → Nat → Nat → Option (Nat × Nat)} : RR P 186 0 11 = some (189, 0) := rfl
theorem ci_4 : Int32.ofInt (4) = (4 : Int32) := by decide +kernel
theorem ao_189_0 {n : Nat} {I : Nat → Nat → Nat → Int32} {L : Nat → Nat → Nat → Int64} {P : Nat → Nat → Nat → Option (Nat × Nat)} {E : Nat → Nat × Nat × Nat × Nat} {c s : Nat} {i : Int32} : arrOk (mm n I L P E c s) 189 0 0 i = inb i 7 := rfl
theorem ib_0_7 : inb (0 : Int32) 7 = true := by decide +kernel
theorem tn_0 : (0 : Int32).toNatClampNeg = 0 := by decide +kernel
theorem ci_5 : Int32.ofInt (5) = (5 : Int32) := by decide +kernel
theorem ib_5_7 : inb (5 : Int32) 7 = true := by decide +kernel
theorem tn_5 : (5 : Int32).toNatClampNeg = 5 := by decide +kernel
theorem ib_6_7 : inb (6 : Int32) 7 = true := by decide +kernel
theorem tn_6 : (6 : Int32).toNatClampNeg = 6 := by decide +kernel
theorem tg_18_m16 : tgt 18 (-16) = 2 := by decide +kernel
theorem tg_48_41 : tgt 48 (41) = 89 := by decide +kernel
theorem tg_56_27 : tgt 56 (27) = 83 := by decide +kernel
theorem tg_86_m41 : tgt 86 (-41) = 45 := by decide +kernel
theorem rf_186_17 {P : Nat → Nat → Nat → Option (Nat × Nat)} : RR P 186 0 17 = some (211, 0) := rfl
theorem ao_211_0 {n : Nat} {I : Nat → Nat → Nat → Int32} {L : Nat → Nat → Nat → Int64} {P : Nat → Nat → Nat → Option (Nat × Nat)} {E : Nat → Nat × Nat × Nat × Nat} {c s : Nat} {i : Int32} : arrOk (mm n I L P E c s) 211 0 6 i = inb i 8 := rfl
theorem tg_68_7 : tgt 68 (7) = 75 := by decide +kernel
theorem tg_80_m27 : tgt 80 (-27) = 53 := by decide +kernel
theorem tg_72_4 : tgt 72 (4) = 76 := by decide +kernel
theorem tg_15_5 : tgt 15 (5) = 20 := by decide +kernel
theorem tg_27_93 : tgt 27 (93) = 120 := by decide +kernel
theorem tg_33_7 : tgt 33 (7) = 40 := by decide +kernel
theorem tg_55_7 : tgt 55 (7) = 62 := by decide +kernel
theorem tg_66_8 : tgt 66 (8) = 74 := by decide +kernel
theorem rf_186_9 {P : Nat → Nat → Nat → Option (Nat × Nat)} : RR P 186 0 9 = some (187, 0) := rfl
theorem cb_24 : (Int8.ofInt (24)).toInt32 = (24 : Int32) := by decide +kernel
theorem dc_eq_4_0 : (decide ((4 : Int32) = (0 : Int32))) = false := by decide +kernel
theorem cs_255 : (Int16.ofInt (255)).toInt32 = (255 : Int32) := by decide +kernel
theorem ao_187_0 {n : Nat} {I : Nat → Nat → Nat → Int32} {L : Nat → Nat → Nat → Int64} {P : Nat → Nat → Nat → Option (Nat × Nat)} {E : Nat → Nat × Nat × Nat × Nat} {c s : Nat} {i : Int32} : arrOk (mm n I L P E c s) 187 0 0 i = inb i 600 := rfl
theorem tg_117_m94 : tgt 117 (-94) = 23 := by decide +kernel
theorem tg_71_5 : tgt 71 (5) = 76 := by decide +kernel
theorem tg_59_17 : tgt 59 (17) = 76 := by decide +kernel
theorem tg_48_28 : tgt 48 (28) = 76 := by decide +kernel
theorem tg_37_39 : tgt 37 (39) = 76 := by decide +kernel
theorem tg_15_7 : tgt 15 (7) = 22 := by decide +kernel
theorem tg_19_4 : tgt 19 (4) = 23 := by decide +kernel
theorem tg_28_5 : tgt 28 (5) = 33 := by decide +kernel
theorem tg_46_25 : tgt 46 (25) = 71 := by decide +kernel
theorem ib_4_7 : inb (4 : Int32) 7 = true := by decide +kernel
theorem tn_4 : (4 : Int32).toNatClampNeg = 4 := by decide +kernel
theorem tg_57_14 : tgt 57 (14) = 71 := by decide +kernel
theorem tg_84_12 : tgt 84 (12) = 96 := by decide +kernel
theorem tg_108_11 : tgt 108 (11) = 119 := by decide +kernel
theorem rf_186_12 {P : Nat → Nat → Nat → Option (Nat × Nat)} : RR P 186 0 12 = some (190, 0) := rfl
theorem ao_190_0 {n : Nat} {I : Nat → Nat → Nat → Int32} {L : Nat → Nat → Nat → Int64} {P : Nat → Nat → Nat → Option (Nat × Nat)} {E : Nat → Nat × Nat × Nat × Nat} {c s : Nat} {i : Int32} : arrOk (mm n I L P E c s) 190 0 0 i = inb i 7 := rfl
theorem ib_2_7 : inb (2 : Int32) 7 = true := by decide +kernel
theorem tn_2 : (2 : Int32).toNatClampNeg = 2 := by decide +kernel
theorem tg_68_m26 : tgt 68 (-26) = 42 := by decide +kernel
theorem tg_5_21 : tgt 5 (21) = 26 := by decide +kernel
theorem tg_23_m21 : tgt 23 (-21) = 2 := by decide +kernel
theorem tg_35_39 : tgt 35 (39) = 74 := by decide +kernel
theorem ib_3_7 : inb (3 : Int32) 7 = true := by decide +kernel
theorem tn_3 : (3 : Int32).toNatClampNeg = 3 := by decide +kernel
theorem tg_83_38 : tgt 83 (38) = 121 := by decide +kernel
theorem tg_43_25 : tgt 43 (25) = 68 := by decide +kernel
theorem tg_71_m43 : tgt 71 (-43) = 28 := by decide +kernel
theorem rf_186_14 {P : Nat → Nat → Nat → Option (Nat × Nat)} : RR P 186 0 14 = some (198, 0) := rfl
theorem ao_198_0 {n : Nat} {I : Nat → Nat → Nat → Int32} {L : Nat → Nat → Nat → Int64} {P : Nat → Nat → Nat → Option (Nat × Nat)} {E : Nat → Nat × Nat × Nat × Nat} {c s : Nat} {i : Int32} : arrOk (mm n I L P E c s) 198 0 6 i = inb i 6 := rfl
theorem rf_186_13 {P : Nat → Nat → Nat → Option (Nat × Nat)} : RR P 186 0 13 = some (191, 0) := rfl
theorem ao_191_0 {n : Nat} {I : Nat → Nat → Nat → Int32} {L : Nat → Nat → Nat → Int64} {P : Nat → Nat → Nat → Option (Nat × Nat)} {E : Nat → Nat × Nat × Nat × Nat} {c s : Nat} {i : Int32} : arrOk (mm n I L P E c s) 191 0 6 i = inb i 6 := rfl
theorem tg_65_m25 : tgt 65 (-25) = 40 := by decide +kernel
theorem tg_126_39 : tgt 126 (39) = 165 := by decide +kernel
theorem tg_90_25 : tgt 90 (25) = 115 := by decide +kernel
theorem tg_118_m42 : tgt 118 (-42) = 76 := by decide +kernel
theorem rf_186_16 {P : Nat → Nat → Nat → Option (Nat × Nat)} : RR P 186 0 16 = some (208, 0) := rfl
theorem ao_208_0 {n : Nat} {I : Nat → Nat → Nat → Int32} {L : Nat → Nat → Nat → Int64} {P : Nat → Nat → Nat → Option (Nat × Nat)} {E : Nat → Nat × Nat × Nat × Nat} {c s : Nat} {i : Int32} : arrOk (mm n I L P E c s) 208 0 6 i = inb i 2 := rfl
theorem rf_186_15 {P : Nat → Nat → Nat → Option (Nat × Nat)} : RR P 186 0 15 = some (205, 0) := rfl
theorem ao_205_0 {n : Nat} {I : Nat → Nat → Nat → Int32} {L : Nat → Nat → Nat → Int64} {P : Nat → Nat → Nat → Option (Nat × Nat)} {E : Nat → Nat × Nat × Nat × Nat} {c s : Nat} {i : Int32} : arrOk (mm n I L P E c s) 205 0 6 i = inb i 2 := rfl
theorem tg_112_m24 : tgt 112 (-24) = 88 := by decide +kernel
theorem tg_170_126 : tgt 170 (126) = 296 := by decide +kernel
theorem tg_134_25 : tgt 134 (25) = 159 := by decide +kernel
theorem tg_162_m39 : tgt 162 (-39) = 123 := by decide +kernel
theorem rf_186_18 {P : Nat → Nat → Nat → Option (Nat × Nat)} : RR P 186 0 18 = some (220, 0) := rfl
theorem ao_220_0 {n : Nat} {I : Nat → Nat → Nat → Int32} {L : Nat → Nat → Nat → Int64} {P : Nat → Nat → Nat → Option (Nat × Nat)} {E : Nat → Nat × Nat × Nat × Nat} {c s : Nat} {i : Int32} : arrOk (mm n I L P E c s) 220 0 6 i = inb i 8 := rfl
theorem tg_156_m25 : tgt 156 (-25) = 131 := by decide +kernel
theorem tg_301_18 : tgt 301 (18) = 319 := by decide +kernel
theorem rf_186_19 {P : Nat → Nat → Nat → Option (Nat × Nat)} : RR P 186 0 19 = some (229, 0) := rfl
theorem ao_229_0 {n : Nat} {I : Nat → Nat → Nat → Int32} {L : Nat → Nat → Nat → Int64} {P : Nat → Nat → Nat → Option (Nat × Nat)} {E : Nat → Nat × Nat × Nat × Nat} {c s : Nat} {i : Int32} : arrOk (mm n I L P E c s) 229 0 6 i = inb i 7 := rfl
theorem tg_316_m18 : tgt 316 (-18) = 298 := by decide +kernel
theorem tg_178_112 : tgt 178 (112) = 290 := by decide +kernel
theorem tg_293_m126 : tgt 293 (-126) = 167 := by decide +kernel
theorem tg_324_32 : tgt 324 (32) = 356 := by decide +kernel
theorem tg_186_98 : tgt 186 (98) = 284 := by decide +kernel
theorem tg_287_m112 : tgt 287 (-112) = 175 := by decide +kernel
theorem tg_198_80 : tgt 198 (80) = 278 := by decide +kernel
theorem tg_281_m98 : tgt 281 (-98) = 183 := by decide +kernel
theorem tg_210_68 : tgt 210 (68) = 278 := by decide +kernel
theorem tg_222_31 : tgt 222 (31) = 253 := by decide +kernel
theorem tg_250_28 : tgt 250 (28) = 278 := by decide +kernel
theorem tg_332_18 : tgt 332 (18) = 350 := by decide +kernel
theorem tg_353_m32 : tgt 353 (-32) = 321 := by decide +kernel
theorem rf_186_29 {P : Nat → Nat → Nat → Option (Nat × Nat)} : RR P 186 0 29 = some (309, 0) := rfl
theorem ao_309_0 {n : Nat} {I : Nat → Nat → Nat → Int32} {L : Nat → Nat → Nat → Int64} {P : Nat → Nat → Nat → Option (Nat × Nat)} {E : Nat → Nat × Nat × Nat × Nat} {c s : Nat} {i : Int32} : arrOk (mm n I L P E c s) 309 0 6 i = inb i 6 := rfl
theorem tg_347_m18 : tgt 347 (-18) = 329 := by decide +kernel
theorem tg_15_17 : tgt 15 (17) = 32 := by decide +kernel
theorem tg_33_4 : tgt 33 (4) = 37 := by decide +kernel
theorem cs_150 : (Int16.ofInt (150)).toInt32 = (150 : Int32) := by decide +kernel
theorem tg_22_10 : tgt 22 (10) = 32 := by decide +kernel
theorem tg_42_5 : tgt 42 (5) = 47 := by decide +kernel
theorem tg_15_10 : tgt 15 (10) = 25 := by decide +kernel
theorem tg_26_4 : tgt 26 (4) = 30 := by decide +kernel
theorem tg_22_7 : tgt 22 (7) = 29 := by decide +kernel
theorem tg_35_5 : tgt 35 (5) = 40 := by decide +kernel
theorem tg_33_12 : tgt 33 (12) = 45 := by decide +kernel
theorem tg_47_13 : tgt 47 (13) = 60 := by decide +kernel
theorem tg_62_12 : tgt 62 (12) = 74 := by decide +kernel
theorem tg_77_10 : tgt 77 (10) = 87 := by decide +kernel
theorem tg_84_7 : tgt 84 (7) = 91 := by decide +kernel
theorem tg_71_20 : tgt 71 (20) = 91 := by decide +kernel
theorem tg_42_49 : tgt 42 (49) = 91 := by decide +kernel
theorem tg_57_34 : tgt 57 (34) = 91 := by decide +kernel
theorem tg_11_7 : tgt 11 (7) = 18 := by decide +kernel
theorem tg_15_4 : tgt 15 (4) = 19 := by decide +kernel
theorem tg_24_26 : tgt 24 (26) = 50 := by decide +kernel
theorem tg_38_4 : tgt 38 (4) = 42 := by decide +kernel
theorem tg_47_5 : tgt 47 (5) = 52 := by decide +kernel
theorem tg_11_11 : tgt 11 (11) = 22 := by decide +kernel
theorem tg_23_4 : tgt 23 (4) = 27 := by decide +kernel
theorem tg_32_5 : tgt 32 (5) = 37 := by decide +kernel
theorem tg_19_7 : tgt 19 (7) = 26 := by decide +kernel
theorem tg_24_32 : tgt 24 (32) = 56 := by decide +kernel
theorem z1_0 : decide ((0 : Int32) &&& 1 = (0 : Int32)) = true := by decide +kernel
theorem tg_32_11 : tgt 32 (11) = 43 := by decide +kernel
theorem tg_44_4 : tgt 44 (4) = 48 := by decide +kernel
theorem tg_53_5 : tgt 53 (5) = 58 := by decide +kernel
theorem tg_40_7 : tgt 40 (7) = 47 := by decide +kernel
theorem tg_24_24 : tgt 24 (24) = 48 := by decide +kernel
theorem tg_32_7 : tgt 32 (7) = 39 := by decide +kernel
theorem tg_36_4 : tgt 36 (4) = 40 := by decide +kernel
theorem tg_45_5 : tgt 45 (5) = 50 := by decide +kernel
theorem tg_10_10 : tgt 10 (10) = 20 := by decide +kernel
theorem tg_21_4 : tgt 21 (4) = 25 := by decide +kernel
theorem tg_17_7 : tgt 17 (7) = 24 := by decide +kernel
theorem tg_24_40 : tgt 24 (40) = 64 := by decide +kernel
theorem tg_32_19 : tgt 32 (19) = 51 := by decide +kernel
theorem tg_52_4 : tgt 52 (4) = 56 := by decide +kernel
theorem tg_61_5 : tgt 61 (5) = 66 := by decide +kernel
theorem tg_39_12 : tgt 39 (12) = 51 := by decide +kernel
theorem tg_48_7 : tgt 48 (7) = 55 := by decide +kernel
theorem tg_24_31 : tgt 24 (31) = 55 := by decide +kernel
theorem tg_32_10 : tgt 32 (10) = 42 := by decide +kernel
theorem tg_43_4 : tgt 43 (4) = 47 := by decide +kernel
theorem tg_52_5 : tgt 52 (5) = 57 := by decide +kernel
theorem tg_39_7 : tgt 39 (7) = 46 := by decide +kernel
theorem tg_66_37 : tgt 66 (37) = 103 := by decide +kernel
theorem tg_109_6 : tgt 109 (6) = 115 := by decide +kernel
theorem rf_186_28 {P : Nat → Nat → Nat → Option (Nat × Nat)} : RR P 186 0 28 = some (248, 0) := rfl
theorem ao_248_0 {n : Nat} {I : Nat → Nat → Nat → Int32} {L : Nat → Nat → Nat → Int64} {P : Nat → Nat → Nat → Option (Nat × Nat)} {E : Nat → Nat × Nat × Nat × Nat} {c s : Nat} {i : Int32} : arrOk (mm n I L P E c s) 248 0 6 i = inb i 60 := rfl
theorem tg_79_18 : tgt 79 (18) = 97 := by decide +kernel
theorem tg_100_m40 : tgt 100 (-40) = 60 := by decide +kernel
theorem tg_92_5 : tgt 92 (5) = 97 := by decide +kernel
theorem rf_186_30 {P : Nat → Nat → Nat → Option (Nat × Nat)} : RR P 186 0 30 = some (316, 0) := rfl
theorem ao_316_0 {n : Nat} {I : Nat → Nat → Nat → Int32} {L : Nat → Nat → Nat → Int64} {P : Nat → Nat → Nat → Option (Nat × Nat)} {E : Nat → Nat × Nat × Nat × Nat} {c s : Nat} {i : Int32} : arrOk (mm n I L P E c s) 316 0 3 i = inb i 60 := rfl
theorem tg_60_94 : tgt 60 (94) = 154 := by decide +kernel
theorem tg_156_12 : tgt 156 (12) = 168 := by decide +kernel
theorem tg_170_7 : tgt 170 (7) = 177 := by decide +kernel
theorem tg_179_7 : tgt 179 (7) = 186 := by decide +kernel
theorem tg_183_4 : tgt 183 (4) = 187 := by decide +kernel
theorem tg_174_13 : tgt 174 (13) = 187 := by decide +kernel
theorem tg_161_7 : tgt 161 (7) = 168 := by decide +kernel
theorem tg_165_22 : tgt 165 (22) = 187 := by decide +kernel
theorem cf_1 : Int64.ofNat (1 : Fin 2).val = (1 : Int64) := by decide +kernel
theorem tg_71_7 : tgt 71 (7) = 78 := by decide +kernel
theorem tg_83_24 : tgt 83 (24) = 107 := by decide +kernel
theorem tg_108_4 : tgt 108 (4) = 112 := by decide +kernel
theorem tg_116_25 : tgt 116 (25) = 141 := by decide +kernel
theorem tg_142_4 : tgt 142 (4) = 146 := by decide +kernel
theorem tg_151_m100 : tgt 151 (-100) = 51 := by decide +kernel
theorem tg_121_24 : tgt 121 (24) = 145 := by decide +kernel
theorem dc_eq_0_0 : (decide ((0 : Int32) = (0 : Int32))) = true := by decide +kernel
theorem tg_88_23 : tgt 88 (23) = 111 := by decide +kernel
theorem tg_75_4 : tgt 75 (4) = 79 := by decide +kernel
theorem dc_eq_1_0 : (decide ((1 : Int32) = (0 : Int32))) = false := by decide +kernel
theorem tg_138_7 : tgt 138 (7) = 145 := by decide +kernel
theorem tg_104_7 : tgt 104 (7) = 111 := by decide +kernel
theorem tg_12_7 : tgt 12 (7) = 19 := by decide +kernel
theorem tg_16_4 : tgt 16 (4) = 20 := by decide +kernel
theorem tg_41_7 : tgt 41 (7) = 48 := by decide +kernel
theorem tg_50_14 : tgt 50 (14) = 64 := by decide +kernel
theorem tg_61_14 : tgt 61 (14) = 75 := by decide +kernel
theorem tg_45_30 : tgt 45 (30) = 75 := by decide +kernel
theorem tg_6_7 : tgt 6 (7) = 13 := by decide +kernel
theorem tg_20_12 : tgt 20 (12) = 32 := by decide +kernel
theorem tg_29_4 : tgt 29 (4) = 33 := by decide +kernel
theorem tg_10_4 : tgt 10 (4) = 14 := by decide +kernel
theorem tg_16_37 : tgt 16 (37) = 53 := by decide +kernel
theorem tg_36_6 : tgt 36 (6) = 42 := by decide +kernel
theorem tg_50_m39 : tgt 50 (-39) = 11 := by decide +kernel
theorem tg_39_8 : tgt 39 (8) = 47 := by decide +kernel
theorem tg_24_41 : tgt 24 (41) = 65 := by decide +kernel
theorem tg_32_20 : tgt 32 (20) = 52 := by decide +kernel
theorem tg_53_4 : tgt 53 (4) = 57 := by decide +kernel
theorem tg_62_5 : tgt 62 (5) = 67 := by decide +kernel
theorem tg_73_5 : tgt 73 (5) = 78 := by decide +kernel
theorem rf_186_31 {P : Nat → Nat → Nat → Option (Nat × Nat)} : RR P 186 0 31 = some (317, 0) := rfl
theorem tg_39_13 : tgt 39 (13) = 52 := by decide +kernel
theorem ao_317_0 {n : Nat} {I : Nat → Nat → Nat → Int32} {L : Nat → Nat → Nat → Int64} {P : Nat → Nat → Nat → Option (Nat × Nat)} {E : Nat → Nat × Nat × Nat × Nat} {c s : Nat} {i : Int32} : arrOk (mm n I L P E c s) 317 0 3 i = inb i 10 := rfl
theorem tg_49_7 : tgt 49 (7) = 56 := by decide +kernel
theorem tg_37_8 : tgt 37 (8) = 45 := by decide +kernel
theorem tg_46_8 : tgt 46 (8) = 54 := by decide +kernel
theorem tg_42_7 : tgt 42 (7) = 49 := by decide +kernel
theorem tg_24_35 : tgt 24 (35) = 59 := by decide +kernel
theorem tg_35_9 : tgt 35 (9) = 44 := by decide +kernel
theorem tg_56_m38 : tgt 56 (-38) = 18 := by decide +kernel
theorem tg_41_10 : tgt 41 (10) = 51 := by decide +kernel
theorem tg_10_12 : tgt 10 (12) = 22 := by decide +kernel
theorem tg_53_80 : tgt 53 (80) = 133 := by decide +kernel
theorem tg_135_8 : tgt 135 (8) = 143 := by decide +kernel
theorem tg_144_5 : tgt 144 (5) = 149 := by decide +kernel
theorem tg_140_7 : tgt 140 (7) = 147 := by decide +kernel
theorem tg_63_64 : tgt 63 (64) = 127 := by decide +kernel
theorem tg_130_m85 : tgt 130 (-85) = 45 := by decide +kernel
theorem tg_72_6 : tgt 72 (6) = 78 := by decide +kernel
theorem tg_75_46 : tgt 75 (46) = 121 := by decide +kernel
theorem tg_124_m65 : tgt 124 (-65) = 59 := by decide +kernel
theorem tg_95_13 : tgt 95 (13) = 108 := by decide +kernel
theorem tg_102_6 : tgt 102 (6) = 108 := by decide +kernel
theorem tg_105_16 : tgt 105 (16) = 121 := by decide +kernel
theorem tg_57_43 : tgt 57 (43) = 100 := by decide +kernel
theorem rf_186_33 {P : Nat → Nat → Nat → Option (Nat × Nat)} : RR P 186 0 33 = some (322, 0) := rfl
theorem ao_322_0 {n : Nat} {I : Nat → Nat → Nat → Int32} {L : Nat → Nat → Nat → Int64} {P : Nat → Nat → Nat → Option (Nat × Nat)} {E : Nat → Nat × Nat × Nat × Nat} {c s : Nat} {i : Int32} : arrOk (mm n I L P E c s) 322 0 7 i = inb i 7 := rfl
theorem tg_67_27 : tgt 67 (27) = 94 := by decide +kernel
theorem tg_97_m47 : tgt 97 (-47) = 50 := by decide +kernel
theorem rf_186_35 {P : Nat → Nat → Nat → Option (Nat × Nat)} : RR P 186 0 35 = some (331, 0) := rfl
theorem ao_331_0 {n : Nat} {I : Nat → Nat → Nat → Int32} {L : Nat → Nat → Nat → Int64} {P : Nat → Nat → Nat → Option (Nat × Nat)} {E : Nat → Nat × Nat × Nat × Nat} {c s : Nat} {i : Int32} : arrOk (mm n I L P E c s) 331 0 7 i = inb i 6 := rfl
theorem ao_322_1 {n : Nat} {I : Nat → Nat → Nat → Int32} {L : Nat → Nat → Nat → Int64} {P : Nat → Nat → Nat → Option (Nat × Nat)} {E : Nat → Nat × Nat × Nat × Nat} {c s : Nat} {i : Int32} : arrOk (mm n I L P E c s) 322 1 3 i = inb i 64 := rfl
theorem rf_186_34 {P : Nat → Nat → Nat → Option (Nat × Nat)} : RR P 186 0 34 = some (330, 0) := rfl
theorem ao_330_0 {n : Nat} {I : Nat → Nat → Nat → Int32} {L : Nat → Nat → Nat → Int64} {P : Nat → Nat → Nat → Option (Nat × Nat)} {E : Nat → Nat × Nat × Nat × Nat} {c s : Nat} {i : Int32} : arrOk (mm n I L P E c s) 330 0 0 i = inb i 7 := rfl
theorem tg_91_m28 : tgt 91 (-28) = 63 := by decide +kernel
theorem tg_132_11 : tgt 132 (11) = 143 := by decide +kernel
theorem tg_147_7 : tgt 147 (7) = 154 := by decide +kernel
theorem tg_140_10 : tgt 140 (10) = 150 := by decide +kernel
theorem tg_55_73 : tgt 55 (73) = 128 := by decide +kernel
theorem tg_71_44 : tgt 71 (44) = 115 := by decide +kernel
theorem tg_117_5 : tgt 117 (5) = 122 := by decide +kernel
theorem tg_125_m73 : tgt 125 (-73) = 52 := by decide +kernel
theorem tg_76_30 : tgt 76 (30) = 106 := by decide +kernel
theorem tg_112_m44 : tgt 112 (-44) = 68 := by decide +kernel
theorem tg_99_7 : tgt 99 (7) = 106 := by decide +kernel
theorem tg_103_4 : tgt 103 (4) = 107 := by decide +kernel
theorem tg_63_91 : tgt 63 (91) = 154 := by decide +kernel
theorem tg_81_67 : tgt 81 (67) = 148 := by decide +kernel
theorem tg_151_m97 : tgt 151 (-97) = 54 := by decide +kernel
theorem tg_97_45 : tgt 97 (45) = 142 := by decide +kernel
theorem tg_145_m73 : tgt 145 (-73) = 72 := by decide +kernel
theorem tg_115_27 : tgt 115 (27) = 142 := by decide +kernel
theorem tg_127_15 : tgt 127 (15) = 142 := by decide +kernel
theorem tg_131_8 : tgt 131 (8) = 139 := by decide +kernel
theorem tg_136_5 : tgt 136 (5) = 141 := by decide +kernel
theorem tg_41_48 : tgt 41 (48) = 89 := by decide +kernel
theorem tg_46_16 : tgt 46 (16) = 62 := by decide +kernel
theorem tg_59_24 : tgt 59 (24) = 83 := by decide +kernel
theorem tg_86_m54 : tgt 86 (-54) = 32 := by decide +kernel
theorem tg_24_33 : tgt 24 (33) = 57 := by decide +kernel
theorem tg_32_12 : tgt 32 (12) = 44 := by decide +kernel
theorem tg_45_4 : tgt 45 (4) = 49 := by decide +kernel
theorem tg_54_5 : tgt 54 (5) = 59 := by decide +kernel
theorem tg_90_10 : tgt 90 (10) = 100 := by decide +kernel
theorem ci_100000 : Int32.ofInt (100000) = (100000 : Int32) := by decide +kernel
theorem tg_108_5 : tgt 108 (5) = 113 := by decide +kernel
theorem tg_97_16 : tgt 97 (16) = 113 := by decide +kernel
theorem tg_59_52 : tgt 59 (52) = 111 := by decide +kernel
theorem tg_69_33 : tgt 69 (33) = 102 := by decide +kernel
theorem tg_108_m53 : tgt 108 (-53) = 55 := by decide +kernel
theorem tg_92_10 : tgt 92 (10) = 102 := by decide +kernel
theorem tg_99_4 : tgt 99 (4) = 103 := by decide +kernel
theorem tg_10_17 : tgt 10 (17) = 27 := by decide +kernel
theorem tg_37_5 : tgt 37 (5) = 42 := by decide +kernel
theorem tg_17_10 : tgt 17 (10) = 27 := by decide +kernel
theorem tg_24_44 : tgt 24 (44) = 68 := by decide +kernel
theorem tg_34_21 : tgt 34 (21) = 55 := by decide +kernel
theorem tg_65_5 : tgt 65 (5) = 70 := by decide +kernel
theorem tg_52_7 : tgt 52 (7) = 59 := by decide +kernel
theorem tg_24_36 : tgt 24 (36) = 60 := by decide +kernel
theorem tg_34_13 : tgt 34 (13) = 47 := by decide +kernel
theorem tg_57_5 : tgt 57 (5) = 62 := by decide +kernel
theorem tg_12_10 : tgt 12 (10) = 22 := by decide +kernel
theorem rf_186_48 {P : Nat → Nat → Nat → Option (Nat × Nat)} : RR P 186 0 48 = some (483, 0) := rfl
theorem ao_483_0 {n : Nat} {I : Nat → Nat → Nat → Int32} {L : Nat → Nat → Nat → Int64} {P : Nat → Nat → Nat → Option (Nat × Nat)} {E : Nat → Nat × Nat × Nat × Nat} {c s : Nat} {i : Int32} : arrOk (mm n I L P E c s) 483 0 0 i = inb i 6 := rfl
theorem tg_10_13 : tgt 10 (13) = 23 := by decide +kernel
theorem tg_24_4 : tgt 24 (4) = 28 := by decide +kernel
theorem tg_33_5 : tgt 33 (5) = 38 := by decide +kernel
theorem tg_20_7 : tgt 20 (7) = 27 := by decide +kernel
theorem tg_46_5 : tgt 46 (5) = 51 := by decide +kernel
theorem tg_64_7 : tgt 64 (7) = 71 := by decide +kernel
theorem tg_68_18 : tgt 68 (18) = 86 := by decide +kernel
theorem tg_14_12 : tgt 14 (12) = 26 := by decide +kernel
theorem tg_27_4 : tgt 27 (4) = 31 := by decide +kernel
theorem tg_36_5 : tgt 36 (5) = 41 := by decide +kernel
theorem tg_23_7 : tgt 23 (7) = 30 := by decide +kernel
theorem cb_9 : (Int8.ofInt (9)).toInt32 = (9 : Int32) := by decide +kernel
theorem tg_56_5 : tgt 56 (5) = 61 := by decide +kernel
theorem tg_64_m21 : tgt 64 (-21) = 43 := by decide +kernel
theorem tg_13_12 : tgt 13 (12) = 25 := by decide +kernel
theorem tg_53_12 : tgt 53 (12) = 65 := by decide +kernel
theorem rf_186_50 {P : Nat → Nat → Nat → Option (Nat × Nat)} : RR P 186 0 50 = some (484, 0) := rfl
theorem ao_484_0 {n : Nat} {I : Nat → Nat → Nat → Int32} {L : Nat → Nat → Nat → Int64} {P : Nat → Nat → Nat → Option (Nat × Nat)} {E : Nat → Nat × Nat × Nat × Nat} {c s : Nat} {i : Int32} : arrOk (mm n I L P E c s) 484 0 0 i = inb i 256 := rfl
theorem tg_62_4 : tgt 62 (4) = 66 := by decide +kernel
theorem tg_24_27 : tgt 24 (27) = 51 := by decide +kernel
theorem tg_35_7 : tgt 35 (7) = 42 := by decide +kernel
theorem tg_39_4 : tgt 39 (4) = 43 := by decide +kernel
theorem tg_48_5 : tgt 48 (5) = 53 := by decide +kernel
theorem tg_70_39 : tgt 70 (39) = 109 := by decide +kernel
theorem rf_186_51 {P : Nat → Nat → Nat → Option (Nat × Nat)} : RR P 186 0 51 = some (485, 0) := rfl
theorem ao_485_0 {n : Nat} {I : Nat → Nat → Nat → Int32} {L : Nat → Nat → Nat → Int64} {P : Nat → Nat → Nat → Option (Nat × Nat)} {E : Nat → Nat × Nat × Nat × Nat} {c s : Nat} {i : Int32} : arrOk (mm n I L P E c s) 485 0 2 i = inb i 365 := rfl
theorem tg_82_13 : tgt 82 (13) = 95 := by decide +kernel
theorem tg_96_4 : tgt 96 (4) = 100 := by decide +kernel
theorem tg_106_m41 : tgt 106 (-41) = 65 := by decide +kernel
theorem tg_92_7 : tgt 92 (7) = 99 := by decide +kernel
theorem tg_50_102 : tgt 50 (102) = 152 := by decide +kernel
theorem tg_59_93 : tgt 59 (93) = 152 := by decide +kernel
theorem tg_76_42 : tgt 76 (42) = 118 := by decide +kernel
theorem tg_120_10 : tgt 120 (10) = 130 := by decide +kernel
theorem tg_136_8 : tgt 136 (8) = 144 := by decide +kernel
theorem tg_149_m104 : tgt 149 (-104) = 45 := by decide +kernel
theorem tg_141_4 : tgt 141 (4) = 145 := by decide +kernel
theorem tg_127_4 : tgt 127 (4) = 131 := by decide +kernel
theorem tg_81_28 : tgt 81 (28) = 109 := by decide +kernel
theorem tg_115_m47 : tgt 115 (-47) = 68 := by decide +kernel
theorem tg_91_14 : tgt 91 (14) = 105 := by decide +kernel
theorem tg_106_4 : tgt 106 (4) = 110 := by decide +kernel
theorem tg_102_7 : tgt 102 (7) = 109 := by decide +kernel
theorem tg_66_132 : tgt 66 (132) = 198 := by decide +kernel
theorem tg_84_108 : tgt 84 (108) = 192 := by decide +kernel
theorem tg_195_m138 : tgt 195 (-138) = 57 := by decide +kernel
theorem tg_100_86 : tgt 100 (86) = 186 := by decide +kernel
theorem tg_189_m114 : tgt 189 (-114) = 75 := by decide +kernel
theorem tg_118_68 : tgt 118 (68) = 186 := by decide +kernel
theorem tg_131_6 : tgt 131 (6) = 137 := by decide +kernel
theorem tg_134_52 : tgt 134 (52) = 186 := by decide +kernel
theorem tg_148_38 : tgt 148 (38) = 186 := by decide +kernel
theorem tg_164_7 : tgt 164 (7) = 171 := by decide +kernel
theorem tg_183_m43 : tgt 183 (-43) = 140 := by decide +kernel
theorem tg_168_9 : tgt 168 (9) = 177 := by decide +kernel
theorem tg_66_46 : tgt 66 (46) = 112 := by decide +kernel
theorem tg_88_14 : tgt 88 (14) = 102 := by decide +kernel
theorem tg_109_m48 : tgt 109 (-48) = 61 := by decide +kernel
theorem tg_95_7 : tgt 95 (7) = 102 := by decide +kernel
theorem tg_43_7 : tgt 43 (7) = 50 := by decide +kernel
theorem tg_47_4 : tgt 47 (4) = 51 := by decide +kernel
theorem tg_62_7 : tgt 62 (7) = 69 := by decide +kernel
theorem tg_66_4 : tgt 66 (4) = 70 := by decide +kernel
theorem tg_87_96 : tgt 87 (96) = 183 := by decide +kernel
theorem tg_114_63 : tgt 114 (63) = 177 := by decide +kernel
theorem tg_180_m101 : tgt 180 (-101) = 79 := by decide +kernel
theorem rf_186_45 {P : Nat → Nat → Nat → Option (Nat × Nat)} : RR P 186 0 45 = some (416, 0) := rfl
theorem ao_416_0 {n : Nat} {I : Nat → Nat → Nat → Int32} {L : Nat → Nat → Nat → Int64} {P : Nat → Nat → Nat → Option (Nat × Nat)} {E : Nat → Nat × Nat × Nat × Nat} {c s : Nat} {i : Int32} : arrOk (mm n I L P E c s) 416 0 6 i = inb i 64 := rfl
theorem tg_127_50 : tgt 127 (50) = 177 := by decide +kernel
theorem tg_133_6 : tgt 133 (6) = 139 := by decide +kernel
theorem tg_141_19 : tgt 141 (19) = 160 := by decide +kernel
theorem tg_172_4 : tgt 172 (4) = 176 := by decide +kernel
theorem tg_157_18 : tgt 157 (18) = 175 := by decide +kernel
theorem tg_136_41 : tgt 136 (41) = 177 := by decide +kernel
theorem tg_65_44 : tgt 65 (44) = 109 := by decide +kernel
theorem tg_110_7 : tgt 110 (7) = 117 := by decide +kernel
theorem tg_114_5 : tgt 114 (5) = 119 := by decide +kernel
theorem tg_88_8 : tgt 88 (8) = 96 := by decide +kernel
theorem tg_106_m46 : tgt 106 (-46) = 60 := by decide +kernel
theorem tg_93_5 : tgt 93 (5) = 98 := by decide +kernel
theorem tg_84_19 : tgt 84 (19) = 103 := by decide +kernel
theorem tg_32_24 : tgt 32 (24) = 56 := by decide +kernel
theorem tg_69_60 : tgt 69 (60) = 129 := by decide +kernel
theorem tg_93_26 : tgt 93 (26) = 119 := by decide +kernel
theorem tg_126_m62 : tgt 126 (-62) = 64 := by decide +kernel
theorem tg_112_7 : tgt 112 (7) = 119 := by decide +kernel
theorem tg_116_4 : tgt 116 (4) = 120 := by decide +kernel
theorem tg_43_83 : tgt 43 (83) = 126 := by decide +kernel
theorem tg_56_39 : tgt 56 (39) = 95 := by decide +kernel
theorem tg_102_18 : tgt 102 (18) = 120 := by decide +kernel
theorem tg_123_m88 : tgt 123 (-88) = 35 := by decide +kernel
theorem tg_108_6 : tgt 108 (6) = 114 := by decide +kernel
theorem tg_111_9 : tgt 111 (9) = 120 := by decide +kernel
theorem tg_67_18 : tgt 67 (18) = 85 := by decide +kernel
theorem tg_92_m40 : tgt 92 (-40) = 52 := by decide +kernel
theorem tg_78_7 : tgt 78 (7) = 85 := by decide +kernel
theorem tg_56_22 : tgt 56 (22) = 78 := by decide +kernel
theorem tg_65_7 : tgt 65 (7) = 72 := by decide +kernel
theorem tg_75_m23 : tgt 75 (-23) = 52 := by decide +kernel
theorem tg_71_21 : tgt 71 (21) = 92 := by decide +kernel
theorem tg_93_7 : tgt 93 (7) = 100 := by decide +kernel
theorem tg_101_11 : tgt 101 (11) = 112 := by decide +kernel
theorem tg_109_7 : tgt 109 (7) = 116 := by decide +kernel
theorem tg_97_19 : tgt 97 (19) = 116 := by decide +kernel
theorem tg_89_m20 : tgt 89 (-20) = 69 := by decide +kernel
theorem tg_11_5 : tgt 11 (5) = 16 := by decide +kernel
theorem tg_34_107 : tgt 34 (107) = 141 := by decide +kernel
theorem tg_47_88 : tgt 47 (88) = 135 := by decide +kernel
theorem tg_138_m111 : tgt 138 (-111) = 27 := by decide +kernel
theorem tg_60_11 : tgt 60 (11) = 71 := by decide +kernel
theorem tg_65_6 : tgt 65 (6) = 71 := by decide +kernel
theorem tg_68_67 : tgt 68 (67) = 135 := by decide +kernel
theorem tg_85_35 : tgt 85 (35) = 120 := by decide +kernel
theorem tg_96_13 : tgt 96 (13) = 109 := by decide +kernel
theorem tg_117_m38 : tgt 117 (-38) = 79 := by decide +kernel
theorem tg_106_6 : tgt 106 (6) = 112 := by decide +kernel
theorem tg_126_7 : tgt 126 (7) = 133 := by decide +kernel
theorem tg_130_4 : tgt 130 (4) = 134 := by decide +kernel
theorem rf_186_32 {P : Nat → Nat → Nat → Option (Nat × Nat)} : RR P 186 0 32 = some (318, 0) := rfl
theorem ao_318_0 {n : Nat} {I : Nat → Nat → Nat → Int32} {L : Nat → Nat → Nat → Int64} {P : Nat → Nat → Nat → Option (Nat × Nat)} {E : Nat → Nat × Nat × Nat × Nat} {c s : Nat} {i : Int32} : arrOk (mm n I L P E c s) 318 0 7 i = inb i 3 := rfl
theorem tg_11_12 : tgt 11 (12) = 23 := by decide +kernel
theorem rf_186_10 {P : Nat → Nat → Nat → Option (Nat × Nat)} : RR P 186 0 10 = some (188, 0) := rfl
theorem ao_188_0 {n : Nat} {I : Nat → Nat → Nat → Int32} {L : Nat → Nat → Nat → Int64} {P : Nat → Nat → Nat → Option (Nat × Nat)} {E : Nat → Nat × Nat × Nat × Nat} {c s : Nat} {i : Int32} : arrOk (mm n I L P E c s) 188 0 0 i = inb i 2 := rfl
theorem tg_20_4 : tgt 20 (4) = 24 := by decide +kernel
theorem tg_6_10 : tgt 6 (10) = 16 := by decide +kernel
theorem tg_18_10 : tgt 18 (10) = 28 := by decide +kernel
theorem tg_25_4 : tgt 25 (4) = 29 := by decide +kernel
theorem tg_13_16 : tgt 13 (16) = 29 := by decide +kernel
theorem ob_146 {n : Nat} {I : Nat → Nat → Nat → Int32} {L : Nat → Nat → Nat → Int64} {P : Nat → Nat → Nat → Option (Nat × Nat)} {E : Nat → Nat × Nat × Nat × Nat} {c s : Nat} : isObj (mm n I L P E c s) 146 0 1 = true := rfl
theorem tg_13_21 : tgt 13 (21) = 34 := by decide +kernel
theorem rf_127_3 {P : Nat → Nat → Nat → Option (Nat × Nat)} : RR P 127 0 3 = some (129, 0) := rfl
theorem rf_146_3 {P : Nat → Nat → Nat → Option (Nat × Nat)} : RR P 146 0 3 = some (148, 0) := rfl
theorem cp_129_148_0_0_60 {n : Nat} {I : Nat → Nat → Nat → Int32} {L : Nat → Nat → Nat → Int64} {P : Nat → Nat → Nat → Option (Nat × Nat)} {E : Nat → Nat × Nat × Nat × Nat} {c s : Nat} : cpOk (mm n I L P E c s) (129, 0) (148, 0) 0 (0 : Int32) (0 : Int32) (60 : Int32) = true := rfl
theorem tn_60 : (60 : Int32).toNatClampNeg = 60 := by decide +kernel
theorem rf_127_4 {P : Nat → Nat → Nat → Option (Nat × Nat)} : RR P 127 0 4 = some (130, 0) := rfl
theorem rf_146_4 {P : Nat → Nat → Nat → Option (Nat × Nat)} : RR P 146 0 4 = some (149, 0) := rfl
theorem cp_130_149_0_0_60 {n : Nat} {I : Nat → Nat → Nat → Int32} {L : Nat → Nat → Nat → Int64} {P : Nat → Nat → Nat → Option (Nat × Nat)} {E : Nat → Nat × Nat × Nat × Nat} {c s : Nat} : cpOk (mm n I L P E c s) (130, 0) (149, 0) 0 (0 : Int32) (0 : Int32) (60 : Int32) = true := rfl
theorem rf_127_5 {P : Nat → Nat → Nat → Option (Nat × Nat)} : RR P 127 0 5 = some (131, 0) := rfl
theorem rf_146_5 {P : Nat → Nat → Nat → Option (Nat × Nat)} : RR P 146 0 5 = some (150, 0) := rfl
theorem cp_131_150_0_0_60 {n : Nat} {I : Nat → Nat → Nat → Int32} {L : Nat → Nat → Nat → Int64} {P : Nat → Nat → Nat → Option (Nat × Nat)} {E : Nat → Nat × Nat × Nat × Nat} {c s : Nat} : cpOk (mm n I L P E c s) (131, 0) (150, 0) 0 (0 : Int32) (0 : Int32) (60 : Int32) = true := rfl
theorem rf_127_6 {P : Nat → Nat → Nat → Option (Nat × Nat)} : RR P 127 0 6 = some (132, 0) := rfl
theorem rf_146_6 {P : Nat → Nat → Nat → Option (Nat × Nat)} : RR P 146 0 6 = some (151, 0) := rfl
theorem cp_132_151_0_0_60 {n : Nat} {I : Nat → Nat → Nat → Int32} {L : Nat → Nat → Nat → Int64} {P : Nat → Nat → Nat → Option (Nat × Nat)} {E : Nat → Nat × Nat × Nat × Nat} {c s : Nat} : cpOk (mm n I L P E c s) (132, 0) (151, 0) 3 (0 : Int32) (0 : Int32) (60 : Int32) = true := rfl
theorem rf_146_8 {P : Nat → Nat → Nat → Option (Nat × Nat)} : RR P 146 0 8 = some (152, 0) := rfl
theorem cp_133_152_0_0_10 {n : Nat} {I : Nat → Nat → Nat → Int32} {L : Nat → Nat → Nat → Int64} {P : Nat → Nat → Nat → Option (Nat × Nat)} {E : Nat → Nat × Nat × Nat × Nat} {c s : Nat} : cpOk (mm n I L P E c s) (133, 0) (152, 0) 3 (0 : Int32) (0 : Int32) (10 : Int32) = true := rfl
theorem tn_10 : (10 : Int32).toNatClampNeg = 10 := by decide +kernel
theorem rf_146_9 {P : Nat → Nat → Nat → Option (Nat × Nat)} : RR P 146 0 9 = some (153, 0) := rfl
theorem cb_36 : (Int8.ofInt (36)).toInt32 = (36 : Int32) := by decide +kernel
theorem cp_134_153_0_0_36 {n : Nat} {I : Nat → Nat → Nat → Int32} {L : Nat → Nat → Nat → Int64} {P : Nat → Nat → Nat → Option (Nat × Nat)} {E : Nat → Nat × Nat × Nat × Nat} {c s : Nat} : cpOk (mm n I L P E c s) (134, 0) (153, 0) 0 (0 : Int32) (0 : Int32) (36 : Int32) = true := rfl
theorem tn_36 : (36 : Int32).toNatClampNeg = 36 := by decide +kernel
theorem rf_146_1 {P : Nat → Nat → Nat → Option (Nat × Nat)} : RR P 146 0 1 = some (147, 0) := rfl
theorem rf_127_1 {P : Nat → Nat → Nat → Option (Nat × Nat)} : RR P 127 0 1 = some (128, 0) := rfl
theorem ao_128_0 {n : Nat} {I : Nat → Nat → Nat → Int32} {L : Nat → Nat → Nat → Int64} {P : Nat → Nat → Nat → Option (Nat × Nat)} {E : Nat → Nat × Nat × Nat × Nat} {c s : Nat} {i : Int32} : arrOk (mm n I L P E c s) 128 0 4 i = inb i 7 := rfl
theorem rd_128 {P : Nat → Nat → Nat → Option (Nat × Nat)} {j : Nat} : RR P 128 0 j = P 128 0 j := rfl
theorem ob_154 {n : Nat} {I : Nat → Nat → Nat → Int32} {L : Nat → Nat → Nat → Int64} {P : Nat → Nat → Nat → Option (Nat × Nat)} {E : Nat → Nat × Nat × Nat × Nat} {c s : Nat} : isObj (mm n I L P E c s) 154 0 1 = true := rfl
theorem rf_154_3 {P : Nat → Nat → Nat → Option (Nat × Nat)} : RR P 154 0 3 = some (156, 0) := rfl
theorem cp_129_156_0_0_60 {n : Nat} {I : Nat → Nat → Nat → Int32} {L : Nat → Nat → Nat → Int64} {P : Nat → Nat → Nat → Option (Nat × Nat)} {E : Nat → Nat × Nat × Nat × Nat} {c s : Nat} : cpOk (mm n I L P E c s) (129, 0) (156, 0) 0 (0 : Int32) (0 : Int32) (60 : Int32) = true := rfl
theorem rf_154_4 {P : Nat → Nat → Nat → Option (Nat × Nat)} : RR P 154 0 4 = some (157, 0) := rfl
theorem cp_130_157_0_0_60 {n : Nat} {I : Nat → Nat → Nat → Int32} {L : Nat → Nat → Nat → Int64} {P : Nat → Nat → Nat → Option (Nat × Nat)} {E : Nat → Nat × Nat × Nat × Nat} {c s : Nat} : cpOk (mm n I L P E c s) (130, 0) (157, 0) 0 (0 : Int32) (0 : Int32) (60 : Int32) = true := rfl
theorem rf_154_5 {P : Nat → Nat → Nat → Option (Nat × Nat)} : RR P 154 0 5 = some (158, 0) := rfl
theorem cp_131_158_0_0_60 {n : Nat} {I : Nat → Nat → Nat → Int32} {L : Nat → Nat → Nat → Int64} {P : Nat → Nat → Nat → Option (Nat × Nat)} {E : Nat → Nat × Nat × Nat × Nat} {c s : Nat} : cpOk (mm n I L P E c s) (131, 0) (158, 0) 0 (0 : Int32) (0 : Int32) (60 : Int32) = true := rfl
theorem rf_154_6 {P : Nat → Nat → Nat → Option (Nat × Nat)} : RR P 154 0 6 = some (159, 0) := rfl
theorem cp_132_159_0_0_60 {n : Nat} {I : Nat → Nat → Nat → Int32} {L : Nat → Nat → Nat → Int64} {P : Nat → Nat → Nat → Option (Nat × Nat)} {E : Nat → Nat × Nat × Nat × Nat} {c s : Nat} : cpOk (mm n I L P E c s) (132, 0) (159, 0) 3 (0 : Int32) (0 : Int32) (60 : Int32) = true := rfl
theorem rf_154_8 {P : Nat → Nat → Nat → Option (Nat × Nat)} : RR P 154 0 8 = some (160, 0) := rfl
theorem cp_133_160_0_0_10 {n : Nat} {I : Nat → Nat → Nat → Int32} {L : Nat → Nat → Nat → Int64} {P : Nat → Nat → Nat → Option (Nat × Nat)} {E : Nat → Nat × Nat × Nat × Nat} {c s : Nat} : cpOk (mm n I L P E c s) (133, 0) (160, 0) 3 (0 : Int32) (0 : Int32) (10 : Int32) = true := rfl
theorem rf_154_9 {P : Nat → Nat → Nat → Option (Nat × Nat)} : RR P 154 0 9 = some (161, 0) := rfl
theorem cp_134_161_0_0_36 {n : Nat} {I : Nat → Nat → Nat → Int32} {L : Nat → Nat → Nat → Int64} {P : Nat → Nat → Nat → Option (Nat × Nat)} {E : Nat → Nat × Nat × Nat × Nat} {c s : Nat} : cpOk (mm n I L P E c s) (134, 0) (161, 0) 0 (0 : Int32) (0 : Int32) (36 : Int32) = true := rfl
theorem rf_154_1 {P : Nat → Nat → Nat → Option (Nat × Nat)} : RR P 154 0 1 = some (155, 0) := rfl
theorem ob_162 {n : Nat} {I : Nat → Nat → Nat → Int32} {L : Nat → Nat → Nat → Int64} {P : Nat → Nat → Nat → Option (Nat × Nat)} {E : Nat → Nat × Nat × Nat × Nat} {c s : Nat} : isObj (mm n I L P E c s) 162 0 1 = true := rfl
theorem rf_162_3 {P : Nat → Nat → Nat → Option (Nat × Nat)} : RR P 162 0 3 = some (164, 0) := rfl
theorem cp_129_164_0_0_60 {n : Nat} {I : Nat → Nat → Nat → Int32} {L : Nat → Nat → Nat → Int64} {P : Nat → Nat → Nat → Option (Nat × Nat)} {E : Nat → Nat × Nat × Nat × Nat} {c s : Nat} : cpOk (mm n I L P E c s) (129, 0) (164, 0) 0 (0 : Int32) (0 : Int32) (60 : Int32) = true := rfl
theorem rf_162_4 {P : Nat → Nat → Nat → Option (Nat × Nat)} : RR P 162 0 4 = some (165, 0) := rfl
theorem cp_130_165_0_0_60 {n : Nat} {I : Nat → Nat → Nat → Int32} {L : Nat → Nat → Nat → Int64} {P : Nat → Nat → Nat → Option (Nat × Nat)} {E : Nat → Nat × Nat × Nat × Nat} {c s : Nat} : cpOk (mm n I L P E c s) (130, 0) (165, 0) 0 (0 : Int32) (0 : Int32) (60 : Int32) = true := rfl
theorem rf_162_5 {P : Nat → Nat → Nat → Option (Nat × Nat)} : RR P 162 0 5 = some (166, 0) := rfl
theorem cp_131_166_0_0_60 {n : Nat} {I : Nat → Nat → Nat → Int32} {L : Nat → Nat → Nat → Int64} {P : Nat → Nat → Nat → Option (Nat × Nat)} {E : Nat → Nat × Nat × Nat × Nat} {c s : Nat} : cpOk (mm n I L P E c s) (131, 0) (166, 0) 0 (0 : Int32) (0 : Int32) (60 : Int32) = true := rfl
theorem rf_162_6 {P : Nat → Nat → Nat → Option (Nat × Nat)} : RR P 162 0 6 = some (167, 0) := rfl
theorem cp_132_167_0_0_60 {n : Nat} {I : Nat → Nat → Nat → Int32} {L : Nat → Nat → Nat → Int64} {P : Nat → Nat → Nat → Option (Nat × Nat)} {E : Nat → Nat × Nat × Nat × Nat} {c s : Nat} : cpOk (mm n I L P E c s) (132, 0) (167, 0) 3 (0 : Int32) (0 : Int32) (60 : Int32) = true := rfl
theorem rf_162_8 {P : Nat → Nat → Nat → Option (Nat × Nat)} : RR P 162 0 8 = some (168, 0) := rfl
theorem cp_133_168_0_0_10 {n : Nat} {I : Nat → Nat → Nat → Int32} {L : Nat → Nat → Nat → Int64} {P : Nat → Nat → Nat → Option (Nat × Nat)} {E : Nat → Nat × Nat × Nat × Nat} {c s : Nat} : cpOk (mm n I L P E c s) (133, 0) (168, 0) 3 (0 : Int32) (0 : Int32) (10 : Int32) = true := rfl
theorem rf_162_9 {P : Nat → Nat → Nat → Option (Nat × Nat)} : RR P 162 0 9 = some (169, 0) := rfl
theorem cp_134_169_0_0_36 {n : Nat} {I : Nat → Nat → Nat → Int32} {L : Nat → Nat → Nat → Int64} {P : Nat → Nat → Nat → Option (Nat × Nat)} {E : Nat → Nat × Nat × Nat × Nat} {c s : Nat} : cpOk (mm n I L P E c s) (134, 0) (169, 0) 0 (0 : Int32) (0 : Int32) (36 : Int32) = true := rfl
theorem rf_162_1 {P : Nat → Nat → Nat → Option (Nat × Nat)} : RR P 162 0 1 = some (163, 0) := rfl
theorem cp_148_129_0_0_60 {n : Nat} {I : Nat → Nat → Nat → Int32} {L : Nat → Nat → Nat → Int64} {P : Nat → Nat → Nat → Option (Nat × Nat)} {E : Nat → Nat × Nat × Nat × Nat} {c s : Nat} : cpOk (mm n I L P E c s) (148, 0) (129, 0) 0 (0 : Int32) (0 : Int32) (60 : Int32) = true := rfl
theorem cp_149_130_0_0_60 {n : Nat} {I : Nat → Nat → Nat → Int32} {L : Nat → Nat → Nat → Int64} {P : Nat → Nat → Nat → Option (Nat × Nat)} {E : Nat → Nat × Nat × Nat × Nat} {c s : Nat} : cpOk (mm n I L P E c s) (149, 0) (130, 0) 0 (0 : Int32) (0 : Int32) (60 : Int32) = true := rfl
theorem cp_150_131_0_0_60 {n : Nat} {I : Nat → Nat → Nat → Int32} {L : Nat → Nat → Nat → Int64} {P : Nat → Nat → Nat → Option (Nat × Nat)} {E : Nat → Nat × Nat × Nat × Nat} {c s : Nat} : cpOk (mm n I L P E c s) (150, 0) (131, 0) 0 (0 : Int32) (0 : Int32) (60 : Int32) = true := rfl
theorem cp_151_132_0_0_60 {n : Nat} {I : Nat → Nat → Nat → Int32} {L : Nat → Nat → Nat → Int64} {P : Nat → Nat → Nat → Option (Nat × Nat)} {E : Nat → Nat × Nat × Nat × Nat} {c s : Nat} : cpOk (mm n I L P E c s) (151, 0) (132, 0) 3 (0 : Int32) (0 : Int32) (60 : Int32) = true := rfl
theorem cp_152_133_0_0_10 {n : Nat} {I : Nat → Nat → Nat → Int32} {L : Nat → Nat → Nat → Int64} {P : Nat → Nat → Nat → Option (Nat × Nat)} {E : Nat → Nat × Nat × Nat × Nat} {c s : Nat} : cpOk (mm n I L P E c s) (152, 0) (133, 0) 3 (0 : Int32) (0 : Int32) (10 : Int32) = true := rfl
theorem cp_153_134_0_0_36 {n : Nat} {I : Nat → Nat → Nat → Int32} {L : Nat → Nat → Nat → Int64} {P : Nat → Nat → Nat → Option (Nat × Nat)} {E : Nat → Nat × Nat × Nat × Nat} {c s : Nat} : cpOk (mm n I L P E c s) (153, 0) (134, 0) 0 (0 : Int32) (0 : Int32) (36 : Int32) = true := rfl
theorem ao_147_0 {n : Nat} {I : Nat → Nat → Nat → Int32} {L : Nat → Nat → Nat → Int64} {P : Nat → Nat → Nat → Option (Nat × Nat)} {E : Nat → Nat × Nat × Nat × Nat} {c s : Nat} {i : Int32} : arrOk (mm n I L P E c s) 147 0 4 i = inb i 7 := rfl
theorem rd_147 {P : Nat → Nat → Nat → Option (Nat × Nat)} {j : Nat} : RR P 147 0 j = P 147 0 j := rfl
theorem cp_156_129_0_0_60 {n : Nat} {I : Nat → Nat → Nat → Int32} {L : Nat → Nat → Nat → Int64} {P : Nat → Nat → Nat → Option (Nat × Nat)} {E : Nat → Nat × Nat × Nat × Nat} {c s : Nat} : cpOk (mm n I L P E c s) (156, 0) (129, 0) 0 (0 : Int32) (0 : Int32) (60 : Int32) = true := rfl
theorem cp_157_130_0_0_60 {n : Nat} {I : Nat → Nat → Nat → Int32} {L : Nat → Nat → Nat → Int64} {P : Nat → Nat → Nat → Option (Nat × Nat)} {E : Nat → Nat × Nat × Nat × Nat} {c s : Nat} : cpOk (mm n I L P E c s) (157, 0) (130, 0) 0 (0 : Int32) (0 : Int32) (60 : Int32) = true := rfl
theorem cp_158_131_0_0_60 {n : Nat} {I : Nat → Nat → Nat → Int32} {L : Nat → Nat → Nat → Int64} {P : Nat → Nat → Nat → Option (Nat × Nat)} {E : Nat → Nat × Nat × Nat × Nat} {c s : Nat} : cpOk (mm n I L P E c s) (158, 0) (131, 0) 0 (0 : Int32) (0 : Int32) (60 : Int32) = true := rfl
theorem cp_159_132_0_0_60 {n : Nat} {I : Nat → Nat → Nat → Int32} {L : Nat → Nat → Nat → Int64} {P : Nat → Nat → Nat → Option (Nat × Nat)} {E : Nat → Nat × Nat × Nat × Nat} {c s : Nat} : cpOk (mm n I L P E c s) (159, 0) (132, 0) 3 (0 : Int32) (0 : Int32) (60 : Int32) = true := rfl
theorem cp_160_133_0_0_10 {n : Nat} {I : Nat → Nat → Nat → Int32} {L : Nat → Nat → Nat → Int64} {P : Nat → Nat → Nat → Option (Nat × Nat)} {E : Nat → Nat × Nat × Nat × Nat} {c s : Nat} : cpOk (mm n I L P E c s) (160, 0) (133, 0) 3 (0 : Int32) (0 : Int32) (10 : Int32) = true := rfl
theorem cp_161_134_0_0_36 {n : Nat} {I : Nat → Nat → Nat → Int32} {L : Nat → Nat → Nat → Int64} {P : Nat → Nat → Nat → Option (Nat × Nat)} {E : Nat → Nat × Nat × Nat × Nat} {c s : Nat} : cpOk (mm n I L P E c s) (161, 0) (134, 0) 0 (0 : Int32) (0 : Int32) (36 : Int32) = true := rfl
theorem ao_155_0 {n : Nat} {I : Nat → Nat → Nat → Int32} {L : Nat → Nat → Nat → Int64} {P : Nat → Nat → Nat → Option (Nat × Nat)} {E : Nat → Nat × Nat × Nat × Nat} {c s : Nat} {i : Int32} : arrOk (mm n I L P E c s) 155 0 4 i = inb i 7 := rfl
theorem rd_155 {P : Nat → Nat → Nat → Option (Nat × Nat)} {j : Nat} : RR P 155 0 j = P 155 0 j := rfl
theorem cp_164_129_0_0_60 {n : Nat} {I : Nat → Nat → Nat → Int32} {L : Nat → Nat → Nat → Int64} {P : Nat → Nat → Nat → Option (Nat × Nat)} {E : Nat → Nat × Nat × Nat × Nat} {c s : Nat} : cpOk (mm n I L P E c s) (164, 0) (129, 0) 0 (0 : Int32) (0 : Int32) (60 : Int32) = true := rfl
theorem cp_165_130_0_0_60 {n : Nat} {I : Nat → Nat → Nat → Int32} {L : Nat → Nat → Nat → Int64} {P : Nat → Nat → Nat → Option (Nat × Nat)} {E : Nat → Nat × Nat × Nat × Nat} {c s : Nat} : cpOk (mm n I L P E c s) (165, 0) (130, 0) 0 (0 : Int32) (0 : Int32) (60 : Int32) = true := rfl
theorem cp_166_131_0_0_60 {n : Nat} {I : Nat → Nat → Nat → Int32} {L : Nat → Nat → Nat → Int64} {P : Nat → Nat → Nat → Option (Nat × Nat)} {E : Nat → Nat × Nat × Nat × Nat} {c s : Nat} : cpOk (mm n I L P E c s) (166, 0) (131, 0) 0 (0 : Int32) (0 : Int32) (60 : Int32) = true := rfl
theorem cp_167_132_0_0_60 {n : Nat} {I : Nat → Nat → Nat → Int32} {L : Nat → Nat → Nat → Int64} {P : Nat → Nat → Nat → Option (Nat × Nat)} {E : Nat → Nat × Nat × Nat × Nat} {c s : Nat} : cpOk (mm n I L P E c s) (167, 0) (132, 0) 3 (0 : Int32) (0 : Int32) (60 : Int32) = true := rfl
theorem cp_168_133_0_0_10 {n : Nat} {I : Nat → Nat → Nat → Int32} {L : Nat → Nat → Nat → Int64} {P : Nat → Nat → Nat → Option (Nat × Nat)} {E : Nat → Nat × Nat × Nat × Nat} {c s : Nat} : cpOk (mm n I L P E c s) (168, 0) (133, 0) 3 (0 : Int32) (0 : Int32) (10 : Int32) = true := rfl
theorem cp_169_134_0_0_36 {n : Nat} {I : Nat → Nat → Nat → Int32} {L : Nat → Nat → Nat → Int64} {P : Nat → Nat → Nat → Option (Nat × Nat)} {E : Nat → Nat × Nat × Nat × Nat} {c s : Nat} : cpOk (mm n I L P E c s) (169, 0) (134, 0) 0 (0 : Int32) (0 : Int32) (36 : Int32) = true := rfl
theorem ao_163_0 {n : Nat} {I : Nat → Nat → Nat → Int32} {L : Nat → Nat → Nat → Int64} {P : Nat → Nat → Nat → Option (Nat × Nat)} {E : Nat → Nat × Nat × Nat × Nat} {c s : Nat} {i : Int32} : arrOk (mm n I L P E c s) 163 0 4 i = inb i 7 := rfl
theorem rd_163 {P : Nat → Nat → Nat → Option (Nat × Nat)} {j : Nat} : RR P 163 0 j = P 163 0 j := rfl
theorem rf_142_1 {P : Nat → Nat → Nat → Option (Nat × Nat)} : RR P 142 0 1 = some (115, 0) := rfl
theorem ob_115 {n : Nat} {I : Nat → Nat → Nat → Int32} {L : Nat → Nat → Nat → Int64} {P : Nat → Nat → Nat → Option (Nat × Nat)} {E : Nat → Nat × Nat × Nat × Nat} {c s : Nat} : isObj (mm n I L P E c s) 115 0 2 = true := rfl
theorem tg_16_7 : tgt 16 (7) = 23 := by decide +kernel
theorem tg_20_15 : tgt 20 (15) = 35 := by decide +kernel
theorem tg_37_7 : tgt 37 (7) = 44 := by decide +kernel
theorem dc_ge_m1_0 : (decide ((0 : Int32) ≤ (-1 : Int32))) = false := by decide +kernel
theorem tg_53_13 : tgt 53 (13) = 66 := by decide +kernel
theorem dc_lt_m1_0 : (decide ((-1 : Int32) < (0 : Int32))) = true := by decide +kernel
theorem tg_37_42 : tgt 37 (42) = 79 := by decide +kernel
theorem tg_43_36 : tgt 43 (36) = 79 := by decide +kernel
theorem rf_115_10 {P : Nat → Nat → Nat → Option (Nat × Nat)} : RR P 115 0 10 = some (117, 0) := rfl
theorem ao_117_0 {n : Nat} {I : Nat → Nat → Nat → Int32} {L : Nat → Nat → Nat → Int64} {P : Nat → Nat → Nat → Option (Nat × Nat)} {E : Nat → Nat × Nat × Nat × Nat} {c s : Nat} {i : Int32} : arrOk (mm n I L P E c s) 117 0 0 i = inb i 6 := rfl
theorem rf_115_11 {P : Nat → Nat → Nat → Option (Nat × Nat)} : RR P 115 0 11 = some (118, 0) := rfl
theorem ao_118_0 {n : Nat} {I : Nat → Nat → Nat → Int32} {L : Nat → Nat → Nat → Int64} {P : Nat → Nat → Nat → Option (Nat × Nat)} {E : Nat → Nat × Nat × Nat × Nat} {c s : Nat} {i : Int32} : arrOk (mm n I L P E c s) 118 0 0 i = inb i 6 := rfl
theorem cb_30 : (Int8.ofInt (30)).toInt32 = (30 : Int32) := by decide +kernel
theorem tg_20_10 : tgt 20 (10) = 30 := by decide +kernel
theorem tg_36_11 : tgt 36 (11) = 47 := by decide +kernel
theorem tg_49_23 : tgt 49 (23) = 72 := by decide +kernel
theorem rf_115_12 {P : Nat → Nat → Nat → Option (Nat × Nat)} : RR P 115 0 12 = some (119, 0) := rfl
theorem ao_119_0 {n : Nat} {I : Nat → Nat → Nat → Int32} {L : Nat → Nat → Nat → Int64} {P : Nat → Nat → Nat → Option (Nat × Nat)} {E : Nat → Nat × Nat × Nat × Nat} {c s : Nat} {i : Int32} : arrOk (mm n I L P E c s) 119 0 0 i = inb i 6 := rfl
theorem rf_115_13 {P : Nat → Nat → Nat → Option (Nat × Nat)} : RR P 115 0 13 = some (120, 0) := rfl
theorem ao_120_0 {n : Nat} {I : Nat → Nat → Nat → Int32} {L : Nat → Nat → Nat → Int64} {P : Nat → Nat → Nat → Option (Nat × Nat)} {E : Nat → Nat × Nat × Nat × Nat} {c s : Nat} {i : Int32} : arrOk (mm n I L P E c s) 120 0 0 i = inb i 6 := rfl
theorem cs_364 : (Int16.ofInt (364)).toInt32 = (364 : Int32) := by decide +kernel
theorem tg_20_11 : tgt 20 (11) = 31 := by decide +kernel
theorem tg_37_11 : tgt 37 (11) = 48 := by decide +kernel
theorem tg_50_23 : tgt 50 (23) = 73 := by decide +kernel
theorem rf_115_14 {P : Nat → Nat → Nat → Option (Nat × Nat)} : RR P 115 0 14 = some (121, 0) := rfl
theorem ao_121_0 {n : Nat} {I : Nat → Nat → Nat → Int32} {L : Nat → Nat → Nat → Int64} {P : Nat → Nat → Nat → Option (Nat × Nat)} {E : Nat → Nat × Nat × Nat × Nat} {c s : Nat} {i : Int32} : arrOk (mm n I L P E c s) 121 0 0 i = inb i 6 := rfl
theorem rf_115_15 {P : Nat → Nat → Nat → Option (Nat × Nat)} : RR P 115 0 15 = some (122, 0) := rfl
theorem ao_122_0 {n : Nat} {I : Nat → Nat → Nat → Int32} {L : Nat → Nat → Nat → Int64} {P : Nat → Nat → Nat → Option (Nat × Nat)} {E : Nat → Nat × Nat × Nat × Nat} {c s : Nat} {i : Int32} : arrOk (mm n I L P E c s) 122 0 0 i = inb i 6 := rfl
theorem tg_41_11 : tgt 41 (11) = 52 := by decide +kernel
theorem tg_54_7 : tgt 54 (7) = 61 := by decide +kernel
theorem tg_58_11 : tgt 58 (11) = 69 := by decide +kernel
theorem tg_82_67 : tgt 82 (67) = 149 := by decide +kernel
theorem tg_88_61 : tgt 88 (61) = 149 := by decide +kernel
theorem rf_115_16 {P : Nat → Nat → Nat → Option (Nat × Nat)} : RR P 115 0 16 = some (123, 0) := rfl
theorem ao_123_0 {n : Nat} {I : Nat → Nat → Nat → Int32} {L : Nat → Nat → Nat → Int64} {P : Nat → Nat → Nat → Option (Nat × Nat)} {E : Nat → Nat × Nat × Nat × Nat} {c s : Nat} {i : Int32} : arrOk (mm n I L P E c s) 123 0 0 i = inb i 2 := rfl
theorem rf_115_17 {P : Nat → Nat → Nat → Option (Nat × Nat)} : RR P 115 0 17 = some (124, 0) := rfl
theorem ao_124_0 {n : Nat} {I : Nat → Nat → Nat → Int32} {L : Nat → Nat → Nat → Int64} {P : Nat → Nat → Nat → Option (Nat × Nat)} {E : Nat → Nat × Nat × Nat × Nat} {c s : Nat} {i : Int32} : arrOk (mm n I L P E c s) 124 0 0 i = inb i 2 := rfl
theorem rf_115_18 {P : Nat → Nat → Nat → Option (Nat × Nat)} : RR P 115 0 18 = some (125, 0) := rfl
theorem ao_125_0 {n : Nat} {I : Nat → Nat → Nat → Int32} {L : Nat → Nat → Nat → Int64} {P : Nat → Nat → Nat → Option (Nat × Nat)} {E : Nat → Nat × Nat × Nat × Nat} {c s : Nat} {i : Int32} : arrOk (mm n I L P E c s) 125 0 0 i = inb i 2 := rfl
theorem rf_115_19 {P : Nat → Nat → Nat → Option (Nat × Nat)} : RR P 115 0 19 = some (126, 0) := rfl
theorem ao_126_0 {n : Nat} {I : Nat → Nat → Nat → Int32} {L : Nat → Nat → Nat → Int64} {P : Nat → Nat → Nat → Option (Nat × Nat)} {E : Nat → Nat × Nat × Nat × Nat} {c s : Nat} {i : Int32} : arrOk (mm n I L P E c s) 126 0 0 i = inb i 2 := rfl
theorem tg_14_11 : tgt 14 (11) = 25 := by decide +kernel
theorem cb_63 : (Int8.ofInt (63)).toInt32 = (63 : Int32) := by decide +kernel
theorem tg_4_42 : tgt 4 (42) = 46 := by decide +kernel
theorem tg_14_26 : tgt 14 (26) = 40 := by decide +kernel
theorem ci_m8 : Int32.ofInt (-8) = (-8 : Int32) := by decide +kernel
theorem tg_43_m40 : tgt 43 (-40) = 3 := by decide +kernel
theorem rf_100_0 {P : Nat → Nat → Nat → Option (Nat × Nat)} : RR P 100 0 0 = some (101, 0) := rfl
theorem ao_101_0 {n : Nat} {I : Nat → Nat → Nat → Int32} {L : Nat → Nat → Nat → Int64} {P : Nat → Nat → Nat → Option (Nat × Nat)} {E : Nat → Nat × Nat × Nat × Nat} {c s : Nat} {i : Int32} : arrOk (mm n I L P E c s) 101 0 1 i = inb i 600 := rfl
theorem tg_1_24 : tgt 1 (24) = 25 := by decide +kernel
theorem tg_12_34 : tgt 12 (34) = 46 := by decide +kernel
theorem rf_142_0 {P : Nat → Nat → Nat → Option (Nat × Nat)} : RR P 142 0 0 = some (102, 0) := rfl
theorem tg_22_8 : tgt 22 (8) = 30 := by decide +kernel
theorem tg_43_m34 : tgt 43 (-34) = 9 := by decide +kernel
theorem rf_115_9 {P : Nat → Nat → Nat → Option (Nat × Nat)} : RR P 115 0 9 = some (116, 0) := rfl
theorem rf_103_9 {P : Nat → Nat → Nat → Option (Nat × Nat)} : RR P 103 0 9 = some (104, 0) := rfl
theorem cp_116_104_0_0_64 {n : Nat} {I : Nat → Nat → Nat → Int32} {L : Nat → Nat → Nat → Int64} {P : Nat → Nat → Nat → Option (Nat × Nat)} {E : Nat → Nat × Nat × Nat × Nat} {c s : Nat} : cpOk (mm n I L P E c s) (116, 0) (104, 0) 0 (0 : Int32) (0 : Int32) (64 : Int32) = true := rfl
theorem tn_64 : (64 : Int32).toNatClampNeg = 64 := by decide +kernel
theorem rf_103_10 {P : Nat → Nat → Nat → Option (Nat × Nat)} : RR P 103 0 10 = some (105, 0) := rfl
theorem cp_117_105_0_0_6 {n : Nat} {I : Nat → Nat → Nat → Int32} {L : Nat → Nat → Nat → Int64} {P : Nat → Nat → Nat → Option (Nat × Nat)} {E : Nat → Nat × Nat × Nat × Nat} {c s : Nat} : cpOk (mm n I L P E c s) (117, 0) (105, 0) 0 (0 : Int32) (0 : Int32) (6 : Int32) = true := rfl
theorem rf_103_11 {P : Nat → Nat → Nat → Option (Nat × Nat)} : RR P 103 0 11 = some (106, 0) := rfl
theorem cp_118_106_0_0_6 {n : Nat} {I : Nat → Nat → Nat → Int32} {L : Nat → Nat → Nat → Int64} {P : Nat → Nat → Nat → Option (Nat × Nat)} {E : Nat → Nat × Nat × Nat × Nat} {c s : Nat} : cpOk (mm n I L P E c s) (118, 0) (106, 0) 0 (0 : Int32) (0 : Int32) (6 : Int32) = true := rfl
theorem rf_103_12 {P : Nat → Nat → Nat → Option (Nat × Nat)} : RR P 103 0 12 = some (107, 0) := rfl
theorem cp_119_107_0_0_6 {n : Nat} {I : Nat → Nat → Nat → Int32} {L : Nat → Nat → Nat → Int64} {P : Nat → Nat → Nat → Option (Nat × Nat)} {E : Nat → Nat × Nat × Nat × Nat} {c s : Nat} : cpOk (mm n I L P E c s) (119, 0) (107, 0) 0 (0 : Int32) (0 : Int32) (6 : Int32) = true := rfl
theorem rf_103_13 {P : Nat → Nat → Nat → Option (Nat × Nat)} : RR P 103 0 13 = some (108, 0) := rfl
theorem cp_120_108_0_0_6 {n : Nat} {I : Nat → Nat → Nat → Int32} {L : Nat → Nat → Nat → Int64} {P : Nat → Nat → Nat → Option (Nat × Nat)} {E : Nat → Nat × Nat × Nat × Nat} {c s : Nat} : cpOk (mm n I L P E c s) (120, 0) (108, 0) 0 (0 : Int32) (0 : Int32) (6 : Int32) = true := rfl
theorem rf_103_14 {P : Nat → Nat → Nat → Option (Nat × Nat)} : RR P 103 0 14 = some (109, 0) := rfl
theorem cp_121_109_0_0_6 {n : Nat} {I : Nat → Nat → Nat → Int32} {L : Nat → Nat → Nat → Int64} {P : Nat → Nat → Nat → Option (Nat × Nat)} {E : Nat → Nat × Nat × Nat × Nat} {c s : Nat} : cpOk (mm n I L P E c s) (121, 0) (109, 0) 0 (0 : Int32) (0 : Int32) (6 : Int32) = true := rfl
theorem rf_103_15 {P : Nat → Nat → Nat → Option (Nat × Nat)} : RR P 103 0 15 = some (110, 0) := rfl
theorem cp_122_110_0_0_6 {n : Nat} {I : Nat → Nat → Nat → Int32} {L : Nat → Nat → Nat → Int64} {P : Nat → Nat → Nat → Option (Nat × Nat)} {E : Nat → Nat × Nat × Nat × Nat} {c s : Nat} : cpOk (mm n I L P E c s) (122, 0) (110, 0) 0 (0 : Int32) (0 : Int32) (6 : Int32) = true := rfl
theorem rf_103_16 {P : Nat → Nat → Nat → Option (Nat × Nat)} : RR P 103 0 16 = some (111, 0) := rfl
theorem cp_123_111_0_0_2 {n : Nat} {I : Nat → Nat → Nat → Int32} {L : Nat → Nat → Nat → Int64} {P : Nat → Nat → Nat → Option (Nat × Nat)} {E : Nat → Nat × Nat × Nat × Nat} {c s : Nat} : cpOk (mm n I L P E c s) (123, 0) (111, 0) 0 (0 : Int32) (0 : Int32) (2 : Int32) = true := rfl
theorem rf_103_17 {P : Nat → Nat → Nat → Option (Nat × Nat)} : RR P 103 0 17 = some (112, 0) := rfl
theorem cp_124_112_0_0_2 {n : Nat} {I : Nat → Nat → Nat → Int32} {L : Nat → Nat → Nat → Int64} {P : Nat → Nat → Nat → Option (Nat × Nat)} {E : Nat → Nat × Nat × Nat × Nat} {c s : Nat} : cpOk (mm n I L P E c s) (124, 0) (112, 0) 0 (0 : Int32) (0 : Int32) (2 : Int32) = true := rfl
theorem rf_103_18 {P : Nat → Nat → Nat → Option (Nat × Nat)} : RR P 103 0 18 = some (113, 0) := rfl
theorem cp_125_113_0_0_2 {n : Nat} {I : Nat → Nat → Nat → Int32} {L : Nat → Nat → Nat → Int64} {P : Nat → Nat → Nat → Option (Nat × Nat)} {E : Nat → Nat × Nat × Nat × Nat} {c s : Nat} : cpOk (mm n I L P E c s) (125, 0) (113, 0) 0 (0 : Int32) (0 : Int32) (2 : Int32) = true := rfl
theorem rf_103_19 {P : Nat → Nat → Nat → Option (Nat × Nat)} : RR P 103 0 19 = some (114, 0) := rfl
theorem cp_126_114_0_0_2 {n : Nat} {I : Nat → Nat → Nat → Int32} {L : Nat → Nat → Nat → Int64} {P : Nat → Nat → Nat → Option (Nat × Nat)} {E : Nat → Nat × Nat × Nat × Nat} {c s : Nat} : cpOk (mm n I L P E c s) (126, 0) (114, 0) 0 (0 : Int32) (0 : Int32) (2 : Int32) = true := rfl
theorem tg_10_16 : tgt 10 (16) = 26 := by decide +kernel
theorem tg_2_22 : tgt 2 (22) = 24 := by decide +kernel
theorem tg_10_14 : tgt 10 (14) = 24 := by decide +kernel
theorem rf_100_7 {P : Nat → Nat → Nat → Option (Nat × Nat)} : RR P 100 0 7 = some (143, 0) := rfl
theorem ob_143 {n : Nat} {I : Nat → Nat → Nat → Int32} {L : Nat → Nat → Nat → Int64} {P : Nat → Nat → Nat → Option (Nat × Nat)} {E : Nat → Nat × Nat × Nat × Nat} {c s : Nat} : isObj (mm n I L P E c s) 143 0 6 = true := rfl
theorem tg_53_14 : tgt 53 (14) = 67 := by decide +kernel
theorem ao_104_0 {n : Nat} {I : Nat → Nat → Nat → Int32} {L : Nat → Nat → Nat → Int64} {P : Nat → Nat → Nat → Option (Nat × Nat)} {E : Nat → Nat × Nat × Nat × Nat} {c s : Nat} {i : Int32} : arrOk (mm n I L P E c s) 104 0 0 i = inb i 64 := rfl
theorem tg_2_14 : tgt 2 (14) = 16 := by decide +kernel
theorem rf_135_4 {P : Nat → Nat → Nat → Option (Nat × Nat)} : RR P 135 0 4 = some (138, 0) := rfl
theorem ao_138_0 {n : Nat} {I : Nat → Nat → Nat → Int32} {L : Nat → Nat → Nat → Int64} {P : Nat → Nat → Nat → Option (Nat × Nat)} {E : Nat → Nat × Nat × Nat × Nat} {c s : Nat} {i : Int32} : arrOk (mm n I L P E c s) 138 0 3 i = inb i 2190 := rfl
theorem z1_1 : decide ((1 : Int32) &&& 1 = (1 : Int32)) = true := by decide +kernel
theorem ao_109_0 {n : Nat} {I : Nat → Nat → Nat → Int32} {L : Nat → Nat → Nat → Int64} {P : Nat → Nat → Nat → Option (Nat × Nat)} {E : Nat → Nat × Nat × Nat × Nat} {c s : Nat} {i : Int32} : arrOk (mm n I L P E c s) 109 0 0 i = inb i 6 := rfl
theorem tg_37_4 : tgt 37 (4) = 41 := by decide +kernel
theorem ao_110_0 {n : Nat} {I : Nat → Nat → Nat → Int32} {L : Nat → Nat → Nat → Int64} {P : Nat → Nat → Nat → Option (Nat × Nat)} {E : Nat → Nat × Nat × Nat × Nat} {c s : Nat} {i : Int32} : arrOk (mm n I L P E c s) 110 0 0 i = inb i 6 := rfl
theorem tg_17_19 : tgt 17 (19) = 36 := by decide +kernel
theorem rf_135_3 {P : Nat → Nat → Nat → Option (Nat × Nat)} : RR P 135 0 3 = some (137, 0) := rfl
theorem ao_137_0 {n : Nat} {I : Nat → Nat → Nat → Int32} {L : Nat → Nat → Nat → Int64} {P : Nat → Nat → Nat → Option (Nat × Nat)} {E : Nat → Nat × Nat × Nat × Nat} {c s : Nat} {i : Int32} : arrOk (mm n I L P E c s) 137 0 0 i = inb i 2555 := rfl
theorem tg_17_46 : tgt 17 (46) = 63 := by decide +kernel
theorem rf_135_2 {P : Nat → Nat → Nat → Option (Nat × Nat)} : RR P 135 0 2 = some (136, 0) := rfl
theorem ao_136_0 {n : Nat} {I : Nat → Nat → Nat → Int32} {L : Nat → Nat → Nat → Int64} {P : Nat → Nat → Nat → Option (Nat × Nat)} {E : Nat → Nat × Nat × Nat × Nat} {c s : Nat} {i : Int32} : arrOk (mm n I L P E c s) 136 0 3 i = inb i 2555 := rfl
theorem rf_135_1 {P : Nat → Nat → Nat → Option (Nat × Nat)} : RR P 135 0 1 = some (127, 0) := rfl
theorem rf_135_0 {P : Nat → Nat → Nat → Option (Nat × Nat)} : RR P 135 0 0 = some (103, 0) := rfl
theorem tg_11_18 : tgt 11 (18) = 29 := by decide +kernel
theorem tg_30_4 : tgt 30 (4) = 34 := by decide +kernel
theorem tg_7_5 : tgt 7 (5) = 12 := by decide +kernel
theorem tg_7_31 : tgt 7 (31) = 38 := by decide +kernel
theorem ao_129_0 {n : Nat} {I : Nat → Nat → Nat → Int32} {L : Nat → Nat → Nat → Int64} {P : Nat → Nat → Nat → Option (Nat × Nat)} {E : Nat → Nat × Nat × Nat × Nat} {c s : Nat} {i : Int32} : arrOk (mm n I L P E c s) 129 0 0 i = inb i 60 := rfl
theorem tg_17_15 : tgt 17 (15) = 32 := by decide +kernel
theorem tg_35_m33 : tgt 35 (-33) = 2 := by decide +kernel
theorem ao_130_0 {n : Nat} {I : Nat → Nat → Nat → Int32} {L : Nat → Nat → Nat → Int64} {P : Nat → Nat → Nat → Option (Nat × Nat)} {E : Nat → Nat × Nat × Nat × Nat} {c s : Nat} {i : Int32} : arrOk (mm n I L P E c s) 130 0 0 i = inb i 60 := rfl
theorem tg_27_5 : tgt 27 (5) = 32 := by decide +kernel
theorem tg_7_21 : tgt 7 (21) = 28 := by decide +kernel
theorem tg_31_5 : tgt 31 (5) = 36 := by decide +kernel
theorem tg_13_13 : tgt 13 (13) = 26 := by decide +kernel
theorem tg_48_8 : tgt 48 (8) = 56 := by decide +kernel
theorem tg_53_17 : tgt 53 (17) = 70 := by decide +kernel
theorem tg_6_54 : tgt 6 (54) = 60 := by decide +kernel
theorem ao_131_0 {n : Nat} {I : Nat → Nat → Nat → Int32} {L : Nat → Nat → Nat → Int64} {P : Nat → Nat → Nat → Option (Nat × Nat)} {E : Nat → Nat × Nat × Nat × Nat} {c s : Nat} {i : Int32} : arrOk (mm n I L P E c s) 131 0 0 i = inb i 60 := rfl
theorem ao_132_0 {n : Nat} {I : Nat → Nat → Nat → Int32} {L : Nat → Nat → Nat → Int64} {P : Nat → Nat → Nat → Option (Nat × Nat)} {E : Nat → Nat × Nat × Nat × Nat} {c s : Nat} {i : Int32} : arrOk (mm n I L P E c s) 132 0 3 i = inb i 60 := rfl
theorem cl_6148914691236517205 : Int64.ofInt (6148914691236517205) = (6148914691236517205 : Int64) := by decide +kernel
theorem cl_3689348814741910323 : Int64.ofInt (3689348814741910323) = (3689348814741910323 : Int64) := by decide +kernel
theorem cl_1085102592571150095 : Int64.ofInt (1085102592571150095) = (1085102592571150095 : Int64) := by decide +kernel
theorem cb_32 : (Int8.ofInt (32)).toInt32 = (32 : Int32) := by decide +kernel
theorem cb_127 : (Int8.ofInt (127)).toInt32 = (127 : Int32) := by decide +kernel
theorem tg_8_5 : tgt 8 (5) = 13 := by decide +kernel
theorem tg_18_5 : tgt 18 (5) = 23 := by decide +kernel
theorem tg_8_24 : tgt 8 (24) = 32 := by decide +kernel
theorem ia_1 {n : Nat} {I : Nat → Nat → Nat → Int32} {L : Nat → Nat → Nat → Int64} {P : Nat → Nat → Nat → Option (Nat × Nat)} {E : Nat → Nat × Nat × Nat × Nat} {c s : Nat} : isArr (mm n I L P E c s) 1 0 = true := rfl
theorem al_1 {n : Nat} {I : Nat → Nat → Nat → Int32} {L : Nat → Nat → Nat → Int64} {P : Nat → Nat → Nat → Option (Nat × Nat)} {E : Nat → Nat × Nat × Nat × Nat} {c s : Nat} : Int32.ofNat (alen (mm n I L P E c s) 1 0) = (6 : Int32) := rfl
theorem tg_16_16 : tgt 16 (16) = 32 := by decide +kernel
theorem ao_1_0 {n : Nat} {I : Nat → Nat → Nat → Int32} {L : Nat → Nat → Nat → Int64} {P : Nat → Nat → Nat → Option (Nat × Nat)} {E : Nat → Nat × Nat × Nat × Nat} {c s : Nat} {i : Int32} : arrOk (mm n I L P E c s) 1 0 3 i = inb i 6 := rfl
theorem tg_2_7 : tgt 2 (7) = 9 := by decide +kernel
theorem tg_6_4 : tgt 6 (4) = 10 := by decide +kernel
theorem tg_9_39 : tgt 9 (39) = 48 := by decide +kernel
theorem tg_16_32 : tgt 16 (32) = 48 := by decide +kernel
theorem tg_45_m39 : tgt 45 (-39) = 6 := by decide +kernel
theorem tg_29_10 : tgt 29 (10) = 39 := by decide +kernel
theorem ci_1431655765 : Int32.ofInt (1431655765) = (1431655765 : Int32) := by decide +kernel
theorem ci_858993459 : Int32.ofInt (858993459) = (858993459 : Int32) := by decide +kernel
theorem ci_252645135 : Int32.ofInt (252645135) = (252645135 : Int32) := by decide +kernel
theorem tg_12_41 : tgt 12 (41) = 53 := by decide +kernel
theorem tg_19_34 : tgt 19 (34) = 53 := by decide +kernel
theorem tg_30_13 : tgt 30 (13) = 43 := by decide +kernel
theorem tg_50_m44 : tgt 50 (-44) = 6 := by decide +kernel
theorem tg_40_4 : tgt 40 (4) = 44 := by decide +kernel
theorem tg_6_23 : tgt 6 (23) = 29 := by decide +kernel
theorem tg_2_8 : tgt 2 (8) = 10 := by decide +kernel
theorem tg_9_46 : tgt 9 (46) = 55 := by decide +kernel
theorem tg_18_31 : tgt 18 (31) = 49 := by decide +kernel
theorem tg_52_m47 : tgt 52 (-47) = 5 := by decide +kernel
theorem tg_34_12 : tgt 34 (12) = 46 := by decide +kernel
theorem tg_43_6 : tgt 43 (6) = 49 := by decide +kernel
theorem rf_170_0 {P : Nat → Nat → Nat → Option (Nat × Nat)} : RR P 170 0 0 = some (103, 0) := rfl
theorem tg_22_84 : tgt 22 (84) = 106 := by decide +kernel
theorem tg_32_68 : tgt 32 (68) = 100 := by decide +kernel
theorem tg_103_m90 : tgt 103 (-90) = 13 := by decide +kernel
theorem rf_170_1 {P : Nat → Nat → Nat → Option (Nat × Nat)} : RR P 170 0 1 = some (127, 0) := rfl
theorem tg_44_50 : tgt 44 (50) = 94 := by decide +kernel
theorem tg_97_m69 : tgt 97 (-69) = 28 := by decide +kernel
theorem tg_64_12 : tgt 64 (12) = 76 := by decide +kernel
theorem tg_73_21 : tgt 73 (21) = 94 := by decide +kernel
theorem rf_170_8 {P : Nat → Nat → Nat → Option (Nat × Nat)} : RR P 170 0 8 = some (173, 0) := rfl
theorem rf_170_2 {P : Nat → Nat → Nat → Option (Nat × Nat)} : RR P 170 0 2 = some (135, 0) := rfl
theorem tg_22_5 : tgt 22 (5) = 27 := by decide +kernel
theorem tg_34_5 : tgt 34 (5) = 39 := by decide +kernel
theorem rf_170_9 {P : Nat → Nat → Nat → Option (Nat × Nat)} : RR P 170 0 9 = some (174, 0) := rfl
theorem ao_174_0 {n : Nat} {I : Nat → Nat → Nat → Int32} {L : Nat → Nat → Nat → Int64} {P : Nat → Nat → Nat → Option (Nat × Nat)} {E : Nat → Nat × Nat × Nat × Nat} {c s : Nat} {i : Int32} : arrOk (mm n I L P E c s) 174 0 3 i = inb i 224 := rfl
theorem ib_0_224 : inb (0 : Int32) 224 = true := by decide +kernel
theorem rf_170_10 {P : Nat → Nat → Nat → Option (Nat × Nat)} : RR P 170 0 10 = some (175, 0) := rfl
theorem ao_175_0 {n : Nat} {I : Nat → Nat → Nat → Int32} {L : Nat → Nat → Nat → Int64} {P : Nat → Nat → Nat → Option (Nat × Nat)} {E : Nat → Nat × Nat × Nat × Nat} {c s : Nat} {i : Int32} : arrOk (mm n I L P E c s) 175 0 0 i = inb i 7 := rfl
theorem tg_65_23 : tgt 65 (23) = 88 := by decide +kernel
theorem tg_76_6 : tgt 76 (6) = 82 := by decide +kernel
theorem tg_85_m29 : tgt 85 (-29) = 56 := by decide +kernel
theorem tg_12_21 : tgt 12 (21) = 33 := by decide +kernel
theorem ao_173_0 {n : Nat} {I : Nat → Nat → Nat → Int32} {L : Nat → Nat → Nat → Int64} {P : Nat → Nat → Nat → Option (Nat × Nat)} {E : Nat → Nat × Nat × Nat × Nat} {c s : Nat} {i : Int32} : arrOk (mm n I L P E c s) 173 0 0 i = inb i 6 := rfl
theorem tg_30_m26 : tgt 30 (-26) = 4 := by decide +kernel
theorem tg_19_83 : tgt 19 (83) = 102 := by decide +kernel
theorem tg_31_65 : tgt 31 (65) = 96 := by decide +kernel
theorem tg_99_m84 : tgt 99 (-84) = 15 := by decide +kernel
theorem tg_45_17 : tgt 45 (17) = 62 := by decide +kernel
theorem tg_74_22 : tgt 74 (22) = 96 := by decide +kernel
theorem tg_59_4 : tgt 59 (4) = 63 := by decide +kernel
theorem tg_90_6 : tgt 90 (6) = 96 := by decide +kernel
theorem tg_13_92 : tgt 13 (92) = 105 := by decide +kernel
theorem tg_22_77 : tgt 22 (77) = 99 := by decide +kernel
theorem tg_102_m93 : tgt 102 (-93) = 9 := by decide +kernel
theorem tg_84_15 : tgt 84 (15) = 99 := by decide +kernel
theorem rf_170_11 {P : Nat → Nat → Nat → Option (Nat × Nat)} : RR P 170 0 11 = some (176, 0) := rfl
theorem ao_176_0 {n : Nat} {I : Nat → Nat → Nat → Int32} {L : Nat → Nat → Nat → Int64} {P : Nat → Nat → Nat → Option (Nat × Nat)} {E : Nat → Nat × Nat × Nat × Nat} {c s : Nat} {i : Int32} : arrOk (mm n I L P E c s) 176 0 3 i = inb i 6 := rfl
theorem tg_77_m31 : tgt 77 (-31) = 46 := by decide +kernel
theorem tg_24_57 : tgt 24 (57) = 81 := by decide +kernel
theorem tg_41_34 : tgt 41 (34) = 75 := by decide +kernel
theorem tg_78_m63 : tgt 78 (-63) = 15 := by decide +kernel
theorem tg_51_18 : tgt 51 (18) = 69 := by decide +kernel
theorem tg_72_m42 : tgt 72 (-42) = 30 := by decide +kernel
theorem tg_63_6 : tgt 63 (6) = 69 := by decide +kernel
theorem tg_26_45 : tgt 26 (45) = 71 := by decide +kernel
theorem tg_35_30 : tgt 35 (30) = 65 := by decide +kernel
theorem tg_68_m46 : tgt 68 (-46) = 22 := by decide +kernel
theorem rf_177_2 {P : Nat → Nat → Nat → Option (Nat × Nat)} : RR P 177 0 2 = some (135, 0) := rfl
theorem tg_19_5 : tgt 19 (5) = 24 := by decide +kernel
theorem tg_46_7 : tgt 46 (7) = 53 := by decide +kernel
theorem tg_8_21 : tgt 8 (21) = 29 := by decide +kernel
theorem tg_14_9 : tgt 14 (9) = 23 := by decide +kernel
theorem tg_26_m20 : tgt 26 (-20) = 6 := by decide +kernel
theorem tg_20_9 : tgt 20 (9) = 29 := by decide +kernel
theorem tg_2_20 : tgt 2 (20) = 22 := by decide +kernel
theorem tg_6_5 : tgt 6 (5) = 11 := by decide +kernel
theorem rf_178_2 {P : Nat → Nat → Nat → Option (Nat × Nat)} : RR P 178 0 2 = some (180, 0) := rfl
theorem rf_178_3 {P : Nat → Nat → Nat → Option (Nat × Nat)} : RR P 178 0 3 = some (181, 0) := rfl
theorem cp_180_181_0_0_64 {n : Nat} {I : Nat → Nat → Nat → Int32} {L : Nat → Nat → Nat → Int64} {P : Nat → Nat → Nat → Option (Nat × Nat)} {E : Nat → Nat × Nat × Nat × Nat} {c s : Nat} : cpOk (mm n I L P E c s) (180, 0) (181, 0) 0 (0 : Int32) (0 : Int32) (64 : Int32) = true := rfl
theorem tg_39_14 : tgt 39 (14) = 53 := by decide +kernel
theorem ao_181_0 {n : Nat} {I : Nat → Nat → Nat → Int32} {L : Nat → Nat → Nat → Int64} {P : Nat → Nat → Nat → Option (Nat × Nat)} {E : Nat → Nat × Nat × Nat × Nat} {c s : Nat} {i : Int32} : arrOk (mm n I L P E c s) 181 0 0 i = inb i 64 := rfl
theorem tg_50_m14 : tgt 50 (-14) = 36 := by decide +kernel
theorem ao_180_0 {n : Nat} {I : Nat → Nat → Nat → Int32} {L : Nat → Nat → Nat → Int64} {P : Nat → Nat → Nat → Option (Nat × Nat)} {E : Nat → Nat × Nat × Nat × Nat} {c s : Nat} {i : Int32} : arrOk (mm n I L P E c s) 180 0 0 i = inb i 64 := rfl
theorem tg_22_42 : tgt 22 (42) = 64 := by decide +kernel
theorem tg_29_35 : tgt 29 (35) = 64 := by decide +kernel
theorem tg_45_7 : tgt 45 (7) = 52 := by decide +kernel
theorem tg_61_m42 : tgt 61 (-42) = 19 := by decide +kernel
theorem tg_26_7 : tgt 26 (7) = 33 := by decide +kernel
theorem rf_183_1 {P : Nat → Nat → Nat → Option (Nat × Nat)} : RR P 183 0 1 = some (127, 0) := rfl
theorem tg_30_18 : tgt 30 (18) = 48 := by decide +kernel
theorem tg_5_20 : tgt 5 (20) = 25 := by decide +kernel
theorem rf_183_2 {P : Nat → Nat → Nat → Option (Nat × Nat)} : RR P 183 0 2 = some (184, 0) := rfl
theorem cs_384 : (Int16.ofInt (384)).toInt32 = (384 : Int32) := by decide +kernel
theorem ao_184_0 {n : Nat} {I : Nat → Nat → Nat → Int32} {L : Nat → Nat → Nat → Int64} {P : Nat → Nat → Nat → Option (Nat × Nat)} {E : Nat → Nat × Nat × Nat × Nat} {c s : Nat} {i : Int32} : arrOk (mm n I L P E c s) 184 0 0 i = inb i 448 := rfl
theorem tg_22_m20 : tgt 22 (-20) = 2 := by decide +kernel
theorem tg_28_91 : tgt 28 (91) = 119 := by decide +kernel
theorem tg_38_75 : tgt 38 (75) = 113 := by decide +kernel
theorem tg_116_m89 : tgt 116 (-89) = 27 := by decide +kernel
theorem rf_183_0 {P : Nat → Nat → Nat → Option (Nat × Nat)} : RR P 183 0 0 = some (103, 0) := rfl
theorem tg_63_30 : tgt 63 (30) = 93 := by decide +kernel
theorem tg_110_m76 : tgt 110 (-76) = 34 := by decide +kernel
theorem tg_68_25 : tgt 68 (25) = 93 := by decide +kernel
theorem tg_90_m36 : tgt 90 (-36) = 54 := by decide +kernel
theorem tg_10_43 : tgt 10 (43) = 53 := by decide +kernel
theorem tg_54_17 : tgt 54 (17) = 71 := by decide +kernel
theorem tg_59_12 : tgt 59 (12) = 71 := by decide +kernel
theorem rf_100_16 {P : Nat → Nat → Nat → Option (Nat × Nat)} : RR P 100 0 16 = some (185, 0) := rfl
theorem ao_185_0 {n : Nat} {I : Nat → Nat → Nat → Int32} {L : Nat → Nat → Nat → Int64} {P : Nat → Nat → Nat → Option (Nat × Nat)} {E : Nat → Nat × Nat × Nat × Nat} {c s : Nat} {i : Int32} : arrOk (mm n I L P E c s) 185 0 0 i = inb i 256 := rfl
theorem tg_68_4 : tgt 68 (4) = 72 := by decide +kernel
theorem tg_15_38 : tgt 15 (38) = 53 := by decide +kernel
theorem tg_22_31 : tgt 22 (31) = 53 := by decide +kernel
theorem tg_33_14 : tgt 33 (14) = 47 := by decide +kernel
theorem tg_50_m45 : tgt 50 (-45) = 5 := by decide +kernel
theorem ci_1103515245 : Int32.ofInt (1103515245) = (1103515245 : Int32) := by decide +kernel
theorem cs_12345 : (Int16.ofInt (12345)).toInt32 = (12345 : Int32) := by decide +kernel
theorem cb_15 : (Int8.ofInt (15)).toInt32 = (15 : Int32) := by decide +kernel
theorem tg_7_20 : tgt 7 (20) = 27 := by decide +kernel
theorem tg_16_5 : tgt 16 (5) = 21 := by decide +kernel
theorem tg_24_m22 : tgt 24 (-22) = 2 := by decide +kernel
theorem ao_107_0 {n : Nat} {I : Nat → Nat → Nat → Int32} {L : Nat → Nat → Nat → Int64} {P : Nat → Nat → Nat → Option (Nat × Nat)} {E : Nat → Nat × Nat × Nat × Nat} {c s : Nat} {i : Int32} : arrOk (mm n I L P E c s) 107 0 0 i = inb i 6 := rfl
theorem tg_8_22 : tgt 8 (22) = 30 := by decide +kernel
theorem ao_108_0 {n : Nat} {I : Nat → Nat → Nat → Int32} {L : Nat → Nat → Nat → Int64} {P : Nat → Nat → Nat → Option (Nat × Nat)} {E : Nat → Nat × Nat × Nat × Nat} {c s : Nat} {i : Int32} : arrOk (mm n I L P E c s) 108 0 0 i = inb i 6 := rfl
theorem tg_42_115 : tgt 42 (115) = 157 := by decide +kernel
theorem tg_60_91 : tgt 60 (91) = 151 := by decide +kernel
theorem tg_154_m118 : tgt 154 (-118) = 36 := by decide +kernel
theorem ao_113_0 {n : Nat} {I : Nat → Nat → Nat → Int32} {L : Nat → Nat → Nat → Int64} {P : Nat → Nat → Nat → Option (Nat × Nat)} {E : Nat → Nat × Nat × Nat × Nat} {c s : Nat} {i : Int32} : arrOk (mm n I L P E c s) 113 0 0 i = inb i 2 := rfl
theorem tg_71_80 : tgt 71 (80) = 151 := by decide +kernel
theorem ao_114_0 {n : Nat} {I : Nat → Nat → Nat → Int32} {L : Nat → Nat → Nat → Int64} {P : Nat → Nat → Nat → Option (Nat × Nat)} {E : Nat → Nat × Nat × Nat × Nat} {c s : Nat} {i : Int32} : arrOk (mm n I L P E c s) 114 0 0 i = inb i 2 := rfl
theorem tg_82_69 : tgt 82 (69) = 151 := by decide +kernel
theorem ao_112_0 {n : Nat} {I : Nat → Nat → Nat → Int32} {L : Nat → Nat → Nat → Int64} {P : Nat → Nat → Nat → Option (Nat × Nat)} {E : Nat → Nat × Nat × Nat × Nat} {c s : Nat} {i : Int32} : arrOk (mm n I L P E c s) 112 0 0 i = inb i 2 := rfl
theorem tg_108_8 : tgt 108 (8) = 116 := by decide +kernel
theorem ao_111_0 {n : Nat} {I : Nat → Nat → Nat → Int32} {L : Nat → Nat → Nat → Int64} {P : Nat → Nat → Nat → Option (Nat × Nat)} {E : Nat → Nat × Nat × Nat × Nat} {c s : Nat} {i : Int32} : arrOk (mm n I L P E c s) 111 0 0 i = inb i 2 := rfl
theorem tg_130_17 : tgt 130 (17) = 147 := by decide +kernel
theorem tg_144_4 : tgt 144 (4) = 148 := by decide +kernel
theorem tg_113_4 : tgt 113 (4) = 117 := by decide +kernel
theorem tg_7_37 : tgt 7 (37) = 44 := by decide +kernel
theorem tg_19_16 : tgt 19 (16) = 35 := by decide +kernel
theorem tg_41_m37 : tgt 41 (-37) = 4 := by decide +kernel
theorem tg_1_25 : tgt 1 (25) = 26 := by decide +kernel
theorem tg_30_7 : tgt 30 (7) = 37 := by decide +kernel
theorem tg_34_4 : tgt 34 (4) = 38 := by decide +kernel
theorem tg_8_18 : tgt 8 (18) = 26 := by decide +kernel
theorem tg_7_15 : tgt 7 (15) = 22 := by decide +kernel
theorem tg_28_11 : tgt 28 (11) = 39 := by decide +kernel
theorem tg_48_23 : tgt 48 (23) = 71 := by decide +kernel
theorem tg_36_15 : tgt 36 (15) = 51 := by decide +kernel
theorem tg_52_19 : tgt 52 (19) = 71 := by decide +kernel
theorem tg_19_52 : tgt 19 (52) = 71 := by decide +kernel
theorem tg_4_13 : tgt 4 (13) = 17 := by decide +kernel
theorem tg_23_m23 : tgt 23 (-23) = 0 := by decide +kernel
theorem tg_9_16 : tgt 9 (16) = 25 := by decide +kernel
theorem rf_186_22 {P : Nat → Nat → Nat → Option (Nat × Nat)} : RR P 186 0 22 = some (246, 0) := rfl
theorem ao_246_0 {n : Nat} {I : Nat → Nat → Nat → Int32} {L : Nat → Nat → Nat → Int64} {P : Nat → Nat → Nat → Option (Nat × Nat)} {E : Nat → Nat × Nat × Nat × Nat} {c s : Nat} {i : Int32} : arrOk (mm n I L P E c s) 246 0 0 i = inb i 3 := rfl
theorem tg_22_m15 : tgt 22 (-15) = 7 := by decide +kernel
theorem tg_37_23 : tgt 37 (23) = 60 := by decide +kernel
theorem tg_72_11 : tgt 72 (11) = 83 := by decide +kernel
theorem tg_48_12 : tgt 48 (12) = 60 := by decide +kernel
theorem tg_87_23 : tgt 87 (23) = 110 := by decide +kernel
theorem tg_107_m22 : tgt 107 (-22) = 85 := by decide +kernel
theorem ib_0_3 : inb (0 : Int32) 3 = true := by decide +kernel
theorem tg_121_23 : tgt 121 (23) = 144 := by decide +kernel
theorem rf_186_20 {P : Nat → Nat → Nat → Option (Nat × Nat)} : RR P 186 0 20 = some (237, 0) := rfl
theorem ao_237_0 {n : Nat} {I : Nat → Nat → Nat → Int32} {L : Nat → Nat → Nat → Int64} {P : Nat → Nat → Nat → Option (Nat × Nat)} {E : Nat → Nat × Nat × Nat × Nat} {c s : Nat} {i : Int32} : arrOk (mm n I L P E c s) 237 0 6 i = inb i 7 := rfl
theorem rf_186_21 {P : Nat → Nat → Nat → Option (Nat × Nat)} : RR P 186 0 21 = some (245, 0) := rfl
theorem ao_245_0 {n : Nat} {I : Nat → Nat → Nat → Int32} {L : Nat → Nat → Nat → Int64} {P : Nat → Nat → Nat → Option (Nat × Nat)} {E : Nat → Nat × Nat × Nat × Nat} {c s : Nat} {i : Int32} : arrOk (mm n I L P E c s) 245 0 0 i = inb i 320 := rfl
theorem tg_141_m29 : tgt 141 (-29) = 112 := by decide +kernel
theorem ib_1_7 : inb (1 : Int32) 7 = true := by decide +kernel
theorem tn_1 : (1 : Int32).toNatClampNeg = 1 := by decide +kernel
theorem tg_8_28 : tgt 8 (28) = 36 := by decide +kernel
theorem tg_50_76 : tgt 50 (76) = 126 := by decide +kernel
theorem tg_77_32 : tgt 77 (32) = 109 := by decide +kernel
theorem tg_123_m81 : tgt 123 (-81) = 42 := by decide +kernel
theorem tg_114_4 : tgt 114 (4) = 118 := by decide +kernel
theorem tg_9_26 : tgt 9 (26) = 35 := by decide +kernel
theorem tg_42_27 : tgt 42 (27) = 69 := by decide +kernel
theorem tg_32_33 : tgt 32 (33) = 65 := by decide +kernel
theorem tg_14_31 : tgt 14 (31) = 45 := by decide +kernel
theorem tg_26_10 : tgt 26 (10) = 36 := by decide +kernel
theorem tg_42_m37 : tgt 42 (-37) = 5 := by decide +kernel
theorem tg_9_27 : tgt 9 (27) = 36 := by decide +kernel
theorem tg_6_12 : tgt 6 (12) = 18 := by decide +kernel
theorem tg_19_27 : tgt 19 (27) = 46 := by decide +kernel
theorem tg_42_4 : tgt 42 (4) = 46 := by decide +kernel
theorem tg_15_36 : tgt 15 (36) = 51 := by decide +kernel
theorem tg_48_m42 : tgt 48 (-42) = 6 := by decide +kernel
theorem tg_7_18 : tgt 7 (18) = 25 := by decide +kernel
theorem tg_22_m18 : tgt 22 (-18) = 4 := by decide +kernel
theorem tg_19_15 : tgt 19 (15) = 34 := by decide +kernel
theorem tg_11_31 : tgt 11 (31) = 42 := by decide +kernel
theorem tg_18_9 : tgt 18 (9) = 27 := by decide +kernel
theorem tg_39_m31 : tgt 39 (-31) = 8 := by decide +kernel
theorem tg_24_10 : tgt 24 (10) = 34 := by decide +kernel
theorem tg_19_120 : tgt 19 (120) = 139 := by decide +kernel
theorem tg_30_6 : tgt 30 (6) = 36 := by decide +kernel
theorem tg_33_100 : tgt 33 (100) = 133 := by decide +kernel
theorem tg_136_m126 : tgt 136 (-126) = 10 := by decide +kernel
theorem tg_48_39 : tgt 48 (39) = 87 := by decide +kernel
theorem tg_89_37 : tgt 89 (37) = 126 := by decide +kernel
theorem tg_128_4 : tgt 128 (4) = 132 := by decide +kernel
theorem tg_67_10 : tgt 67 (10) = 77 := by decide +kernel
theorem tg_84_m42 : tgt 84 (-42) = 42 := by decide +kernel
theorem tg_74_4 : tgt 74 (4) = 78 := by decide +kernel
theorem tg_103_23 : tgt 103 (23) = 126 := by decide +kernel
theorem tg_117_14 : tgt 117 (14) = 131 := by decide +kernel
theorem tg_123_8 : tgt 123 (8) = 131 := by decide +kernel
theorem tg_9_42 : tgt 9 (42) = 51 := by decide +kernel
theorem tg_33_8 : tgt 33 (8) = 41 := by decide +kernel
theorem tg_38_5 : tgt 38 (5) = 43 := by decide +kernel
theorem tg_5_12 : tgt 5 (12) = 17 := by decide +kernel
theorem tg_24_23 : tgt 24 (23) = 47 := by decide +kernel
theorem tg_54_179 : tgt 54 (179) = 233 := by decide +kernel
theorem tg_60_15 : tgt 60 (15) = 75 := by decide +kernel
theorem tg_89_99 : tgt 89 (99) = 188 := by decide +kernel
theorem tg_206_7 : tgt 206 (7) = 213 := by decide +kernel
theorem tg_210_4 : tgt 210 (4) = 214 := by decide +kernel
theorem tg_106_8 : tgt 106 (8) = 114 := by decide +kernel
theorem tg_132_19 : tgt 132 (19) = 151 := by decide +kernel
theorem tg_156_26 : tgt 156 (26) = 182 := by decide +kernel
theorem tg_185_m104 : tgt 185 (-104) = 81 := by decide +kernel
theorem tg_111_15 : tgt 111 (15) = 126 := by decide +kernel
theorem tg_69_6 : tgt 69 (6) = 75 := by decide +kernel
theorem tg_72_155 : tgt 72 (155) = 227 := by decide +kernel
theorem tg_230_m180 : tgt 230 (-180) = 50 := by decide +kernel
theorem tg_11_59 : tgt 11 (59) = 70 := by decide +kernel
theorem tg_21_43 : tgt 21 (43) = 64 := by decide +kernel
theorem tg_67_m64 : tgt 67 (-64) = 3 := by decide +kernel
theorem tg_30_28 : tgt 30 (28) = 58 := by decide +kernel
theorem tg_61_m44 : tgt 61 (-44) = 17 := by decide +kernel
theorem tg_12_80 : tgt 12 (80) = 92 := by decide +kernel
theorem tg_30_56 : tgt 30 (56) = 86 := by decide +kernel
theorem tg_89_m86 : tgt 89 (-86) = 3 := by decide +kernel
theorem tg_46_34 : tgt 46 (34) = 80 := by decide +kernel
theorem tg_83_m62 : tgt 83 (-62) = 21 := by decide +kernel
theorem tg_57_23 : tgt 57 (23) = 80 := by decide +kernel
theorem tg_13_5 : tgt 13 (5) = 18 := by decide +kernel
theorem tg_33_293 : tgt 33 (293) = 326 := by decide +kernel
theorem tg_38_288 : tgt 38 (288) = 326 := by decide +kernel
theorem tg_58_6 : tgt 58 (6) = 64 := by decide +kernel
theorem tg_89_14 : tgt 89 (14) = 103 := by decide +kernel
theorem tg_112_208 : tgt 112 (208) = 320 := by decide +kernel
theorem tg_323_m298 : tgt 323 (-298) = 25 := by decide +kernel
theorem tg_122_6 : tgt 122 (6) = 128 := by decide +kernel
theorem tg_125_195 : tgt 125 (195) = 320 := by decide +kernel
theorem tg_96_7 : tgt 96 (7) = 103 := by decide +kernel
theorem tg_100_4 : tgt 100 (4) = 104 := by decide +kernel
theorem tg_61_259 : tgt 61 (259) = 320 := by decide +kernel
theorem tg_135_185 : tgt 135 (185) = 320 := by decide +kernel
theorem tg_144_6 : tgt 144 (6) = 150 := by decide +kernel
theorem tg_147_167 : tgt 147 (167) = 314 := by decide +kernel
theorem tg_317_m186 : tgt 317 (-186) = 131 := by decide +kernel
theorem tg_168_7 : tgt 168 (7) = 175 := by decide +kernel
theorem tg_172_31 : tgt 172 (31) = 203 := by decide +kernel
theorem tg_209_10 : tgt 209 (10) = 219 := by decide +kernel
theorem tg_220_37 : tgt 220 (37) = 257 := by decide +kernel
theorem tg_263_8 : tgt 263 (8) = 271 := by decide +kernel
theorem dc_le_0_0 : (decide ((0 : Int32) ≤ (0 : Int32))) = true := by decide +kernel
theorem tg_279_6 : tgt 279 (6) = 285 := by decide +kernel
theorem tg_293_14 : tgt 293 (14) = 307 := by decide +kernel
theorem tg_304_7 : tgt 304 (7) = 311 := by decide +kernel
theorem tg_282_32 : tgt 282 (32) = 314 := by decide +kernel
theorem tg_216_7 : tgt 216 (7) = 223 := by decide +kernel
theorem tg_268_5 : tgt 268 (5) = 273 := by decide +kernel
theorem tg_11_307 : tgt 11 (307) = 318 := by decide +kernel
theorem rf_186_46 {P : Nat → Nat → Nat → Option (Nat × Nat)} : RR P 186 0 46 = some (481, 0) := rfl
theorem ao_481_0 {n : Nat} {I : Nat → Nat → Nat → Int32} {L : Nat → Nat → Nat → Int64} {P : Nat → Nat → Nat → Option (Nat × Nat)} {E : Nat → Nat × Nat × Nat × Nat} {c s : Nat} {i : Int32} : arrOk (mm n I L P E c s) 481 0 0 i = inb i 64 := rfl
theorem tg_38_274 : tgt 38 (274) = 312 := by decide +kernel
theorem tg_315_m313 : tgt 315 (-313) = 2 := by decide +kernel
theorem tg_55_6 : tgt 55 (6) = 61 := by decide +kernel
theorem tg_72_26 : tgt 72 (26) = 98 := by decide +kernel
theorem tg_58_248 : tgt 58 (248) = 306 := by decide +kernel
theorem tg_309_m278 : tgt 309 (-278) = 31 := by decide +kernel
theorem tg_109_135 : tgt 109 (135) = 244 := by decide +kernel
theorem tg_253_53 : tgt 253 (53) = 306 := by decide +kernel
theorem tg_268_20 : tgt 268 (20) = 288 := by decide +kernel
theorem tg_296_9 : tgt 296 (9) = 305 := by decide +kernel
theorem tg_285_14 : tgt 285 (14) = 299 := by decide +kernel
theorem tg_144_94 : tgt 144 (94) = 238 := by decide +kernel
theorem tg_241_m140 : tgt 241 (-140) = 101 := by decide +kernel
theorem tg_158_80 : tgt 158 (80) = 238 := by decide +kernel
theorem tg_164_6 : tgt 164 (6) = 170 := by decide +kernel
theorem tg_186_27 : tgt 186 (27) = 213 := by decide +kernel
theorem tg_226_11 : tgt 226 (11) = 237 := by decide +kernel
theorem tg_210_19 : tgt 210 (19) = 229 := by decide +kernel
theorem tg_167_71 : tgt 167 (71) = 238 := by decide +kernel
theorem tg_23_100 : tgt 23 (100) = 123 := by decide +kernel
theorem tg_32_85 : tgt 32 (85) = 117 := by decide +kernel
theorem tg_120_m99 : tgt 120 (-99) = 21 := by decide +kernel
theorem tg_46_71 : tgt 46 (71) = 117 := by decide +kernel
theorem tg_82_8 : tgt 82 (8) = 90 := by decide +kernel
theorem tg_101_9 : tgt 101 (9) = 110 := by decide +kernel
theorem tg_112_4 : tgt 112 (4) = 116 := by decide +kernel
theorem tg_107_8 : tgt 107 (8) = 115 := by decide +kernel
theorem tg_87_10 : tgt 87 (10) = 97 := by decide +kernel
theorem tg_70_47 : tgt 70 (47) = 117 := by decide +kernel
theorem tg_10_76 : tgt 10 (76) = 86 := by decide +kernel
theorem tg_22_39 : tgt 22 (39) = 61 := by decide +kernel
theorem tg_83_m78 : tgt 83 (-78) = 5 := by decide +kernel
theorem tg_66_14 : tgt 66 (14) = 80 := by decide +kernel
theorem tg_27_25 : tgt 27 (25) = 52 := by decide +kernel
theorem tg_58_m39 : tgt 58 (-39) = 19 := by decide +kernel
theorem tg_49_4 : tgt 49 (4) = 53 := by decide +kernel
theorem tg_10_42 : tgt 10 (42) = 52 := by decide +kernel
theorem tg_49_m44 : tgt 49 (-44) = 5 := by decide +kernel
theorem tg_41_4 : tgt 41 (4) = 45 := by decide +kernel
theorem tg_11_66 : tgt 11 (66) = 77 := by decide +kernel
theorem tg_21_50 : tgt 21 (50) = 71 := by decide +kernel
theorem tg_74_m71 : tgt 74 (-71) = 3 := by decide +kernel
theorem tg_28_37 : tgt 28 (37) = 65 := by decide +kernel
theorem tg_68_m51 : tgt 68 (-51) = 17 := by decide +kernel
theorem tg_37_28 : tgt 37 (28) = 65 := by decide +kernel
theorem tg_9_9 : tgt 9 (9) = 18 := by decide +kernel
theorem tg_15_14 : tgt 15 (14) = 29 := by decide +kernel
theorem tg_56_89 : tgt 56 (89) = 145 := by decide +kernel
theorem tg_150_66 : tgt 150 (66) = 216 := by decide +kernel
theorem tg_65_33 : tgt 65 (33) = 98 := by decide +kernel
theorem tg_221_27 : tgt 221 (27) = 248 := by decide +kernel
theorem tg_159_33 : tgt 159 (33) = 192 := by decide +kernel
theorem cs_320 : (Int16.ofInt (320)).toInt32 = (320 : Int32) := by decide +kernel
theorem tg_106_33 : tgt 106 (33) = 139 := by decide +kernel
theorem tg_142_m89 : tgt 142 (-89) = 53 := by decide +kernel
theorem tg_95_m33 : tgt 95 (-33) = 62 := by decide +kernel
theorem tg_253_49 : tgt 253 (49) = 302 := by decide +kernel
theorem tg_245_m27 : tgt 245 (-27) = 218 := by decide +kernel
theorem tg_213_m66 : tgt 213 (-66) = 147 := by decide +kernel
theorem tg_189_m33 : tgt 189 (-33) = 156 := by decide +kernel
theorem tg_136_m35 : tgt 136 (-35) = 101 := by decide +kernel
theorem tg_263_33 : tgt 263 (33) = 296 := by decide +kernel
theorem tg_299_m49 : tgt 299 (-49) = 250 := by decide +kernel
theorem tg_293_m34 : tgt 293 (-34) = 259 := by decide +kernel
theorem tg_27_10 : tgt 27 (10) = 37 := by decide +kernel
theorem ao_116_0 {n : Nat} {I : Nat → Nat → Nat → Int32} {L : Nat → Nat → Nat → Int64} {P : Nat → Nat → Nat → Option (Nat × Nat)} {E : Nat → Nat × Nat × Nat × Nat} {c s : Nat} {i : Int32} : arrOk (mm n I L P E c s) 116 0 0 i = inb i 64 := rfl
theorem tg_36_12 : tgt 36 (12) = 48 := by decide +kernel
theorem rf_102_0 {P : Nat → Nat → Nat → Option (Nat × Nat)} : RR P 102 0 0 = some (101, 0) := rfl
theorem ia_101 {n : Nat} {I : Nat → Nat → Nat → Int32} {L : Nat → Nat → Nat → Int64} {P : Nat → Nat → Nat → Option (Nat × Nat)} {E : Nat → Nat × Nat × Nat × Nat} {c s : Nat} : isArr (mm n I L P E c s) 101 0 = true := rfl
theorem al_101 {n : Nat} {I : Nat → Nat → Nat → Int32} {L : Nat → Nat → Nat → Int64} {P : Nat → Nat → Nat → Option (Nat × Nat)} {E : Nat → Nat × Nat × Nat × Nat} {c s : Nat} : Int32.ofNat (alen (mm n I L P E c s) 101 0) = (600 : Int32) := rfl
theorem tg_7_12 : tgt 7 (12) = 19 := by decide +kernel
theorem tg_22_11 : tgt 22 (11) = 33 := by decide +kernel
theorem tg_30_12 : tgt 30 (12) = 42 := by decide +kernel
theorem tg_43_16 : tgt 43 (16) = 59 := by decide +kernel
theorem tg_47_12 : tgt 47 (12) = 59 := by decide +kernel
theorem cb_59 : (Int8.ofInt (59)).toInt32 = (59 : Int32) := by decide +kernel
theorem tg_85_12 : tgt 85 (12) = 97 := by decide +kernel
theorem tg_21_14 : tgt 21 (14) = 35 := by decide +kernel
theorem ia_134 {n : Nat} {I : Nat → Nat → Nat → Int32} {L : Nat → Nat → Nat → Int64} {P : Nat → Nat → Nat → Option (Nat × Nat)} {E : Nat → Nat × Nat × Nat × Nat} {c s : Nat} : isArr (mm n I L P E c s) 134 0 = true := rfl
theorem al_134 {n : Nat} {I : Nat → Nat → Nat → Int32} {L : Nat → Nat → Nat → Int64} {P : Nat → Nat → Nat → Option (Nat × Nat)} {E : Nat → Nat × Nat × Nat × Nat} {c s : Nat} : Int32.ofNat (alen (mm n I L P E c s) 134 0) = (36 : Int32) := rfl
theorem tg_17_m12 : tgt 17 (-12) = 5 := by decide +kernel
theorem tg_12_22 : tgt 12 (22) = 34 := by decide +kernel
theorem tg_39_22 : tgt 39 (22) = 61 := by decide +kernel
theorem rf_143_0 {P : Nat → Nat → Nat → Option (Nat × Nat)} : RR P 143 0 0 = some (102, 0) := rfl
theorem rf_135_6 {P : Nat → Nat → Nat → Option (Nat × Nat)} : RR P 135 0 6 = some (140, 0) := rfl
theorem ao_140_0 {n : Nat} {I : Nat → Nat → Nat → Int32} {L : Nat → Nat → Nat → Int64} {P : Nat → Nat → Nat → Option (Nat × Nat)} {E : Nat → Nat × Nat × Nat × Nat} {c s : Nat} {i : Int32} : arrOk (mm n I L P E c s) 140 0 0 i = inb i 365 := rfl
theorem tg_10_87 : tgt 10 (87) = 97 := by decide +kernel
theorem rf_135_5 {P : Nat → Nat → Nat → Option (Nat × Nat)} : RR P 135 0 5 = some (139, 0) := rfl
theorem ao_139_0 {n : Nat} {I : Nat → Nat → Nat → Int32} {L : Nat → Nat → Nat → Int64} {P : Nat → Nat → Nat → Option (Nat × Nat)} {E : Nat → Nat × Nat × Nat × Nat} {c s : Nat} {i : Int32} : arrOk (mm n I L P E c s) 139 0 0 i = inb i 365 := rfl
theorem tg_30_57 : tgt 30 (57) = 87 := by decide +kernel
theorem tg_69_9 : tgt 69 (9) = 78 := by decide +kernel
theorem tg_84_m62 : tgt 84 (-62) = 22 := by decide +kernel
theorem tg_1_5 : tgt 1 (5) = 6 := by decide +kernel
theorem tg_6_19 : tgt 6 (19) = 25 := by decide +kernel
theorem tg_9_32 : tgt 9 (32) = 41 := by decide +kernel
theorem tg_38_m34 : tgt 38 (-34) = 4 := by decide +kernel
theorem tg_27_6 : tgt 27 (6) = 33 := by decide +kernel
theorem tg_17_12 : tgt 17 (12) = 29 := by decide +kernel
theorem tg_10_9 : tgt 10 (9) = 19 := by decide +kernel
theorem ia_173 {n : Nat} {I : Nat → Nat → Nat → Int32} {L : Nat → Nat → Nat → Int64} {P : Nat → Nat → Nat → Option (Nat × Nat)} {E : Nat → Nat × Nat × Nat × Nat} {c s : Nat} : isArr (mm n I L P E c s) 173 0 = true := rfl
theorem al_173 {n : Nat} {I : Nat → Nat → Nat → Int32} {L : Nat → Nat → Nat → Int64} {P : Nat → Nat → Nat → Option (Nat × Nat)} {E : Nat → Nat × Nat × Nat × Nat} {c s : Nat} : Int32.ofNat (alen (mm n I L P E c s) 173 0) = (6 : Int32) := rfl
theorem tg_1_16 : tgt 1 (16) = 17 := by decide +kernel
theorem tg_14_5 : tgt 14 (5) = 19 := by decide +kernel
theorem tg_21_10 : tgt 21 (10) = 31 := by decide +kernel
theorem tg_40_5 : tgt 40 (5) = 45 := by decide +kernel
theorem tg_52_67 : tgt 52 (67) = 119 := by decide +kernel
theorem tg_62_51 : tgt 62 (51) = 113 := by decide +kernel
theorem tg_116_m68 : tgt 116 (-68) = 48 := by decide +kernel
theorem rf_170_7 {P : Nat → Nat → Nat → Option (Nat × Nat)} : RR P 170 0 7 = some (172, 0) := rfl
theorem ao_172_0 {n : Nat} {I : Nat → Nat → Nat → Int32} {L : Nat → Nat → Nat → Int64} {P : Nat → Nat → Nat → Option (Nat × Nat)} {E : Nat → Nat × Nat × Nat × Nat} {c s : Nat} {i : Int32} : arrOk (mm n I L P E c s) 172 0 3 i = inb i 36 := rfl
theorem tg_82_31 : tgt 82 (31) = 113 := by decide +kernel
theorem tg_26_131 : tgt 26 (131) = 157 := by decide +kernel
theorem rf_170_6 {P : Nat → Nat → Nat → Option (Nat × Nat)} : RR P 170 0 6 = some (171, 0) := rfl
theorem ao_171_0 {n : Nat} {I : Nat → Nat → Nat → Int32} {L : Nat → Nat → Nat → Int64} {P : Nat → Nat → Nat → Option (Nat × Nat)} {E : Nat → Nat × Nat × Nat × Nat} {c s : Nat} {i : Int32} : arrOk (mm n I L P E c s) 171 0 0 i = inb i 6 := rfl
theorem tg_44_107 : tgt 44 (107) = 151 := by decide +kernel
theorem tg_154_m137 : tgt 154 (-137) = 17 := by decide +kernel
theorem tg_148_m108 : tgt 148 (-108) = 40 := by decide +kernel
theorem tg_71_74 : tgt 71 (74) = 145 := by decide +kernel
theorem tg_94_51 : tgt 94 (51) = 145 := by decide +kernel
theorem tg_101_44 : tgt 101 (44) = 145 := by decide +kernel
theorem tg_113_32 : tgt 113 (32) = 145 := by decide +kernel
theorem tg_10_81 : tgt 10 (81) = 91 := by decide +kernel
theorem tg_25_60 : tgt 25 (60) = 85 := by decide +kernel
theorem tg_88_m86 : tgt 88 (-86) = 2 := by decide +kernel
theorem tg_34_45 : tgt 34 (45) = 79 := by decide +kernel
theorem tg_82_m60 : tgt 82 (-60) = 22 := by decide +kernel
theorem tg_63_12 : tgt 63 (12) = 75 := by decide +kernel
theorem tg_72_5 : tgt 72 (5) = 77 := by decide +kernel
theorem tg_6_11 : tgt 6 (11) = 17 := by decide +kernel
theorem tg_7_40 : tgt 7 (40) = 47 := by decide +kernel
theorem tg_44_m41 : tgt 44 (-41) = 3 := by decide +kernel
theorem tg_14_87 : tgt 14 (87) = 101 := by decide +kernel
theorem tg_40_37 : tgt 40 (37) = 77 := by decide +kernel
theorem tg_82_10 : tgt 82 (10) = 92 := by decide +kernel
theorem tg_98_m93 : tgt 98 (-93) = 5 := by decide +kernel
theorem tg_89_4 : tgt 89 (4) = 93 := by decide +kernel
theorem tg_49_8 : tgt 49 (8) = 57 := by decide +kernel
theorem tg_74_m43 : tgt 74 (-43) = 31 := by decide +kernel
theorem tg_54_14 : tgt 54 (14) = 68 := by decide +kernel
theorem rf_177_0 {P : Nat → Nat → Nat → Option (Nat × Nat)} : RR P 177 0 0 = some (103, 0) := rfl
theorem tg_16_79 : tgt 16 (79) = 95 := by decide +kernel
theorem tg_34_55 : tgt 34 (55) = 89 := by decide +kernel
theorem tg_92_m85 : tgt 92 (-85) = 7 := by decide +kernel
theorem tg_49_25 : tgt 49 (25) = 74 := by decide +kernel
theorem tg_61_8 : tgt 61 (8) = 69 := by decide +kernel
theorem tg_71_16 : tgt 71 (16) = 87 := by decide +kernel
theorem tg_66_21 : tgt 66 (21) = 87 := by decide +kernel
theorem rf_178_0 {P : Nat → Nat → Nat → Option (Nat × Nat)} : RR P 178 0 0 = some (103, 0) := rfl
theorem tg_10_39 : tgt 10 (39) = 49 := by decide +kernel
theorem tg_18_25 : tgt 18 (25) = 43 := by decide +kernel
theorem tg_46_m44 : tgt 46 (-44) = 2 := by decide +kernel
theorem ao_105_0 {n : Nat} {I : Nat → Nat → Nat → Int32} {L : Nat → Nat → Nat → Int64} {P : Nat → Nat → Nat → Option (Nat × Nat)} {E : Nat → Nat × Nat × Nat × Nat} {c s : Nat} {i : Int32} : arrOk (mm n I L P E c s) 105 0 0 i = inb i 6 := rfl
theorem ci_1000000 : Int32.ofInt (1000000) = (1000000 : Int32) := by decide +kernel
theorem ib_0_64 : inb (0 : Int32) 64 = true := by decide +kernel
theorem tg_22_129 : tgt 22 (129) = 151 := by decide +kernel
theorem tg_29_122 : tgt 29 (122) = 151 := by decide +kernel
theorem tg_38_107 : tgt 38 (107) = 145 := by decide +kernel
theorem tg_148_m129 : tgt 148 (-129) = 19 := by decide +kernel
theorem tg_53_92 : tgt 53 (92) = 145 := by decide +kernel
theorem rf_178_1 {P : Nat → Nat → Nat → Option (Nat × Nat)} : RR P 178 0 1 = some (179, 0) := rfl
theorem ao_179_0 {n : Nat} {I : Nat → Nat → Nat → Int32} {L : Nat → Nat → Nat → Int64} {P : Nat → Nat → Nat → Option (Nat × Nat)} {E : Nat → Nat × Nat × Nat × Nat} {c s : Nat} {i : Int32} : arrOk (mm n I L P E c s) 179 0 0 i = inb i 384 := rfl
theorem tg_83_31 : tgt 83 (31) = 114 := by decide +kernel
theorem tg_90_24 : tgt 90 (24) = 114 := by decide +kernel
theorem tg_142_m98 : tgt 142 (-98) = 44 := by decide +kernel
theorem tg_111_4 : tgt 111 (4) = 115 := by decide +kernel
theorem tg_4_86 : tgt 4 (86) = 90 := by decide +kernel
theorem rf_178_4 {P : Nat → Nat → Nat → Option (Nat × Nat)} : RR P 178 0 4 = some (182, 0) := rfl
theorem cp_182_181_0_0_64 {n : Nat} {I : Nat → Nat → Nat → Int32} {L : Nat → Nat → Nat → Int64} {P : Nat → Nat → Nat → Option (Nat × Nat)} {E : Nat → Nat × Nat × Nat × Nat} {c s : Nat} : cpOk (mm n I L P E c s) (182, 0) (181, 0) 0 (0 : Int32) (0 : Int32) (64 : Int32) = true := rfl
theorem tg_10_80 : tgt 10 (80) = 90 := by decide +kernel
theorem ao_182_0 {n : Nat} {I : Nat → Nat → Nat → Int32} {L : Nat → Nat → Nat → Int64} {P : Nat → Nat → Nat → Option (Nat × Nat)} {E : Nat → Nat × Nat × Nat × Nat} {c s : Nat} {i : Int32} : arrOk (mm n I L P E c s) 182 0 0 i = inb i 64 := rfl
theorem tg_26_58 : tgt 26 (58) = 84 := by decide +kernel
theorem tg_87_m85 : tgt 87 (-85) = 2 := by decide +kernel
theorem tg_33_51 : tgt 33 (51) = 84 := by decide +kernel
theorem tg_41_37 : tgt 41 (37) = 78 := by decide +kernel
theorem tg_81_m50 : tgt 81 (-50) = 31 := by decide +kernel
theorem tg_12_31 : tgt 12 (31) = 43 := by decide +kernel
theorem tg_25_9 : tgt 25 (9) = 34 := by decide +kernel
theorem tg_40_m36 : tgt 40 (-36) = 4 := by decide +kernel
theorem tg_20_5 : tgt 20 (5) = 25 := by decide +kernel
theorem tg_37_24 : tgt 37 (24) = 61 := by decide +kernel
theorem tg_49_6 : tgt 49 (6) = 55 := by decide +kernel
theorem tg_58_m30 : tgt 58 (-30) = 28 := by decide +kernel
theorem tg_6_35 : tgt 6 (35) = 41 := by decide +kernel
theorem tg_14_27 : tgt 14 (27) = 41 := by decide +kernel
theorem tg_38_m35 : tgt 38 (-35) = 3 := by decide +kernel
theorem cb_13 : (Int8.ofInt (13)).toInt32 = (13 : Int32) := by decide +kernel
theorem cb_19 : (Int8.ofInt (19)).toInt32 = (19 : Int32) := by decide +kernel
theorem tg_29_5 : tgt 29 (5) = 34 := by decide +kernel
theorem cb_23 : (Int8.ofInt (23)).toInt32 = (23 : Int32) := by decide +kernel
theorem cb_22 : (Int8.ofInt (22)).toInt32 = (22 : Int32) := by decide +kernel
theorem cb_14 : (Int8.ofInt (14)).toInt32 = (14 : Int32) := by decide +kernel
theorem tg_63_5 : tgt 63 (5) = 68 := by decide +kernel
theorem tg_79_5 : tgt 79 (5) = 84 := by decide +kernel
theorem cb_18 : (Int8.ofInt (18)).toInt32 = (18 : Int32) := by decide +kernel
theorem tg_98_5 : tgt 98 (5) = 103 := by decide +kernel
theorem tg_114_6 : tgt 114 (6) = 120 := by decide +kernel
theorem tg_132_6 : tgt 132 (6) = 138 := by decide +kernel
theorem cb_25 : (Int8.ofInt (25)).toInt32 = (25 : Int32) := by decide +kernel
theorem tg_149_8 : tgt 149 (8) = 157 := by decide +kernel
theorem tg_154_4 : tgt 154 (4) = 158 := by decide +kernel
theorem tg_18_14 : tgt 18 (14) = 32 := by decide +kernel
theorem tg_34_17 : tgt 34 (17) = 51 := by decide +kernel
theorem tg_29_18 : tgt 29 (18) = 47 := by decide +kernel
theorem tg_13_34 : tgt 13 (34) = 47 := by decide +kernel
theorem tg_11_16 : tgt 11 (16) = 27 := by decide +kernel
theorem tg_24_m24 : tgt 24 (-24) = 0 := by decide +kernel
theorem tg_5_7 : tgt 5 (7) = 12 := by decide +kernel
theorem tg_15_16 : tgt 15 (16) = 31 := by decide +kernel
theorem tg_28_m24 : tgt 28 (-24) = 4 := by decide +kernel
theorem tg_12_5 : tgt 12 (5) = 17 := by decide +kernel
theorem tg_30_237 : tgt 30 (237) = 267 := by decide +kernel
theorem rf_186_23 {P : Nat → Nat → Nat → Option (Nat × Nat)} : RR P 186 0 23 = some (247, 0) := rfl
theorem ao_247_0 {n : Nat} {I : Nat → Nat → Nat → Int32} {L : Nat → Nat → Nat → Int64} {P : Nat → Nat → Nat → Option (Nat × Nat)} {E : Nat → Nat × Nat × Nat × Nat} {c s : Nat} {i : Int32} : arrOk (mm n I L P E c s) 247 0 0 i = inb i 160 := rfl
theorem ib_0_160 : inb (0 : Int32) 160 = true := by decide +kernel
theorem tg_274_7 : tgt 274 (7) = 281 := by decide +kernel
theorem tg_278_4 : tgt 278 (4) = 282 := by decide +kernel
theorem tg_63_22 : tgt 63 (22) = 85 := by decide +kernel
theorem tg_88_26 : tgt 88 (26) = 114 := by decide +kernel
theorem tg_117_61 : tgt 117 (61) = 178 := by decide +kernel
theorem tg_192_23 : tgt 192 (23) = 215 := by decide +kernel
theorem tg_218_23 : tgt 218 (23) = 241 := by decide +kernel
theorem tg_264_m244 : tgt 264 (-244) = 20 := by decide +kernel
theorem tg_238_22 : tgt 238 (22) = 260 := by decide +kernel
theorem tg_212_48 : tgt 212 (48) = 260 := by decide +kernel
theorem tg_131_42 : tgt 131 (42) = 173 := by decide +kernel
theorem tg_175_86 : tgt 175 (86) = 261 := by decide +kernel
theorem tg_111_150 : tgt 111 (150) = 261 := by decide +kernel
theorem tg_82_179 : tgt 82 (179) = 261 := by decide +kernel
theorem tg_141_32 : tgt 141 (32) = 173 := by decide +kernel
theorem tg_170_4 : tgt 170 (4) = 174 := by decide +kernel
theorem tg_165_4 : tgt 165 (4) = 169 := by decide +kernel
theorem tg_12_17 : tgt 12 (17) = 29 := by decide +kernel
theorem tg_9_51 : tgt 9 (51) = 60 := by decide +kernel
theorem tg_27_27 : tgt 27 (27) = 54 := by decide +kernel
theorem tg_57_m55 : tgt 57 (-55) = 2 := by decide +kernel
theorem tg_49_5 : tgt 49 (5) = 54 := by decide +kernel
theorem rf_186_44 {P : Nat → Nat → Nat → Option (Nat × Nat)} : RR P 186 0 44 = some (414, 0) := rfl
theorem ao_414_0 {n : Nat} {I : Nat → Nat → Nat → Int32} {L : Nat → Nat → Nat → Int64} {P : Nat → Nat → Nat → Option (Nat × Nat)} {E : Nat → Nat × Nat × Nat × Nat} {c s : Nat} {i : Int32} : arrOk (mm n I L P E c s) 414 0 6 i = inb i 1 := rfl
theorem ib_0_1 : inb (0 : Int32) 1 = true := by decide +kernel
theorem ao_414_1 {n : Nat} {I : Nat → Nat → Nat → Int32} {L : Nat → Nat → Nat → Int64} {P : Nat → Nat → Nat → Option (Nat × Nat)} {E : Nat → Nat × Nat × Nat × Nat} {c s : Nat} {i : Int32} : arrOk (mm n I L P E c s) 414 1 0 i = inb i 365 := rfl
theorem tg_12_30 : tgt 12 (30) = 42 := by decide +kernel
theorem rf_186_42 {P : Nat → Nat → Nat → Option (Nat × Nat)} : RR P 186 0 42 = some (375, 0) := rfl
theorem ao_375_0 {n : Nat} {I : Nat → Nat → Nat → Int32} {L : Nat → Nat → Nat → Int64} {P : Nat → Nat → Nat → Option (Nat × Nat)} {E : Nat → Nat × Nat × Nat × Nat} {c s : Nat} {i : Int32} : arrOk (mm n I L P E c s) 375 0 7 i = inb i 1 := rfl
theorem ao_375_1 {n : Nat} {I : Nat → Nat → Nat → Int32} {L : Nat → Nat → Nat → Int64} {P : Nat → Nat → Nat → Option (Nat × Nat)} {E : Nat → Nat × Nat × Nat × Nat} {c s : Nat} {i : Int32} : arrOk (mm n I L P E c s) 375 1 3 i = inb i 365 := rfl
theorem tg_58_10 : tgt 58 (10) = 68 := by decide +kernel
theorem tg_69_4 : tgt 69 (4) = 73 := by decide +kernel
theorem rf_186_43 {P : Nat → Nat → Nat → Option (Nat × Nat)} : RR P 186 0 43 = some (377, 0) := rfl
theorem ao_377_0 {n : Nat} {I : Nat → Nat → Nat → Int32} {L : Nat → Nat → Nat → Int64} {P : Nat → Nat → Nat → Option (Nat × Nat)} {E : Nat → Nat × Nat × Nat × Nat} {c s : Nat} {i : Int32} : arrOk (mm n I L P E c s) 377 0 6 i = inb i 36 := rfl
theorem tg_21_33 : tgt 21 (33) = 54 := by decide +kernel
theorem rf_186_41 {P : Nat → Nat → Nat → Option (Nat × Nat)} : RR P 186 0 41 = some (338, 0) := rfl
theorem ao_338_0 {n : Nat} {I : Nat → Nat → Nat → Int32} {L : Nat → Nat → Nat → Int64} {P : Nat → Nat → Nat → Option (Nat × Nat)} {E : Nat → Nat × Nat × Nat × Nat} {c s : Nat} {i : Int32} : arrOk (mm n I L P E c s) 338 0 7 i = inb i 36 := rfl
theorem tg_3_48 : tgt 3 (48) = 51 := by decide +kernel
theorem rf_186_47 {P : Nat → Nat → Nat → Option (Nat × Nat)} : RR P 186 0 47 = some (482, 0) := rfl
theorem ao_482_0 {n : Nat} {I : Nat → Nat → Nat → Int32} {L : Nat → Nat → Nat → Int64} {P : Nat → Nat → Nat → Option (Nat × Nat)} {E : Nat → Nat × Nat × Nat × Nat} {c s : Nat} {i : Int32} : arrOk (mm n I L P E c s) 482 0 0 i = inb i 6 := rfl
theorem tg_27_23 : tgt 27 (23) = 50 := by decide +kernel
theorem tg_47_m24 : tgt 47 (-24) = 23 := by decide +kernel
theorem tg_82_75 : tgt 82 (75) = 157 := by decide +kernel
theorem tg_88_69 : tgt 88 (69) = 157 := by decide +kernel
theorem tg_98_53 : tgt 98 (53) = 151 := by decide +kernel
theorem tg_154_m80 : tgt 154 (-80) = 74 := by decide +kernel
theorem tg_112_39 : tgt 112 (39) = 151 := by decide +kernel
theorem tg_2_10 : tgt 2 (10) = 12 := by decide +kernel
theorem tg_15_24 : tgt 15 (24) = 39 := by decide +kernel
theorem tg_9_4 : tgt 9 (4) = 13 := by decide +kernel
theorem tg_23_16 : tgt 23 (16) = 39 := by decide +kernel
theorem tg_16_30 : tgt 16 (30) = 46 := by decide +kernel
theorem tg_30_16 : tgt 30 (16) = 46 := by decide +kernel
theorem tg_43_m35 : tgt 43 (-35) = 8 := by decide +kernel
theorem tg_62_44 : tgt 62 (44) = 106 := by decide +kernel
theorem tg_114_9 : tgt 114 (9) = 123 := by decide +kernel
theorem cb_97 : (Int8.ofInt (97)).toInt32 = (97 : Int32) := by decide +kernel
theorem cb_122 : (Int8.ofInt (122)).toInt32 = (122 : Int32) := by decide +kernel
theorem tg_90_16 : tgt 90 (16) = 106 := by decide +kernel
theorem tg_103_m49 : tgt 103 (-49) = 54 := by decide +kernel
theorem tg_136_84 : tgt 136 (84) = 220 := by decide +kernel
theorem tg_228_9 : tgt 228 (9) = 237 := by decide +kernel
theorem tg_250_35 : tgt 250 (35) = 285 := by decide +kernel
theorem cb_48 : (Int8.ofInt (48)).toInt32 = (48 : Int32) := by decide +kernel
theorem tg_150_70 : tgt 150 (70) = 220 := by decide +kernel
theorem cb_57 : (Int8.ofInt (57)).toInt32 = (57 : Int32) := by decide +kernel
theorem tg_164_56 : tgt 164 (56) = 220 := by decide +kernel
theorem tg_174_10 : tgt 174 (10) = 184 := by decide +kernel
theorem tg_217_m89 : tgt 217 (-89) = 128 := by decide +kernel
theorem tg_181_23 : tgt 181 (23) = 204 := by decide +kernel
theorem tg_12_57 : tgt 12 (57) = 69 := by decide +kernel
theorem tg_20_49 : tgt 20 (49) = 69 := by decide +kernel
theorem tg_36_18 : tgt 36 (18) = 54 := by decide +kernel
theorem tg_42_12 : tgt 42 (12) = 54 := by decide +kernel
theorem tg_51_5 : tgt 51 (5) = 56 := by decide +kernel
theorem tg_66_m59 : tgt 66 (-59) = 7 := by decide +kernel
theorem ia_116 {n : Nat} {I : Nat → Nat → Nat → Int32} {L : Nat → Nat → Nat → Int64} {P : Nat → Nat → Nat → Option (Nat × Nat)} {E : Nat → Nat × Nat × Nat × Nat} {c s : Nat} : isArr (mm n I L P E c s) 116 0 = true := rfl
theorem al_116 {n : Nat} {I : Nat → Nat → Nat → Int32} {L : Nat → Nat → Nat → Int64} {P : Nat → Nat → Nat → Option (Nat × Nat)} {E : Nat → Nat × Nat × Nat × Nat} {c s : Nat} : Int32.ofNat (alen (mm n I L P E c s) 116 0) = (64 : Int32) := rfl
theorem ia_119 {n : Nat} {I : Nat → Nat → Nat → Int32} {L : Nat → Nat → Nat → Int64} {P : Nat → Nat → Nat → Option (Nat × Nat)} {E : Nat → Nat × Nat × Nat × Nat} {c s : Nat} : isArr (mm n I L P E c s) 119 0 = true := rfl
theorem al_119 {n : Nat} {I : Nat → Nat → Nat → Int32} {L : Nat → Nat → Nat → Int64} {P : Nat → Nat → Nat → Option (Nat × Nat)} {E : Nat → Nat × Nat × Nat × Nat} {c s : Nat} : Int32.ofNat (alen (mm n I L P E c s) 119 0) = (6 : Int32) := rfl
theorem ia_120 {n : Nat} {I : Nat → Nat → Nat → Int32} {L : Nat → Nat → Nat → Int64} {P : Nat → Nat → Nat → Option (Nat × Nat)} {E : Nat → Nat × Nat × Nat × Nat} {c s : Nat} : isArr (mm n I L P E c s) 120 0 = true := rfl
theorem al_120 {n : Nat} {I : Nat → Nat → Nat → Int32} {L : Nat → Nat → Nat → Int64} {P : Nat → Nat → Nat → Option (Nat × Nat)} {E : Nat → Nat × Nat × Nat × Nat} {c s : Nat} : Int32.ofNat (alen (mm n I L P E c s) 120 0) = (6 : Int32) := rfl
theorem ia_121 {n : Nat} {I : Nat → Nat → Nat → Int32} {L : Nat → Nat → Nat → Int64} {P : Nat → Nat → Nat → Option (Nat × Nat)} {E : Nat → Nat × Nat × Nat × Nat} {c s : Nat} : isArr (mm n I L P E c s) 121 0 = true := rfl
theorem al_121 {n : Nat} {I : Nat → Nat → Nat → Int32} {L : Nat → Nat → Nat → Int64} {P : Nat → Nat → Nat → Option (Nat × Nat)} {E : Nat → Nat × Nat × Nat × Nat} {c s : Nat} : Int32.ofNat (alen (mm n I L P E c s) 121 0) = (6 : Int32) := rfl
theorem ia_122 {n : Nat} {I : Nat → Nat → Nat → Int32} {L : Nat → Nat → Nat → Int64} {P : Nat → Nat → Nat → Option (Nat × Nat)} {E : Nat → Nat × Nat × Nat × Nat} {c s : Nat} : isArr (mm n I L P E c s) 122 0 = true := rfl
theorem al_122 {n : Nat} {I : Nat → Nat → Nat → Int32} {L : Nat → Nat → Nat → Int64} {P : Nat → Nat → Nat → Option (Nat × Nat)} {E : Nat → Nat × Nat × Nat × Nat} {c s : Nat} : Int32.ofNat (alen (mm n I L P E c s) 122 0) = (6 : Int32) := rfl
theorem tg_13_135 : tgt 13 (135) = 148 := by decide +kernel
theorem tg_29_119 : tgt 29 (119) = 148 := by decide +kernel
theorem tg_45_103 : tgt 45 (103) = 148 := by decide +kernel
theorem tg_57_7 : tgt 57 (7) = 64 := by decide +kernel
theorem tg_61_87 : tgt 61 (87) = 148 := by decide +kernel
theorem tg_73_7 : tgt 73 (7) = 80 := by decide +kernel
theorem tg_77_71 : tgt 77 (71) = 148 := by decide +kernel
theorem tg_89_7 : tgt 89 (7) = 96 := by decide +kernel
theorem tg_93_55 : tgt 93 (55) = 148 := by decide +kernel
theorem tg_105_8 : tgt 105 (8) = 113 := by decide +kernel
theorem tg_110_38 : tgt 110 (38) = 148 := by decide +kernel
theorem tg_122_8 : tgt 122 (8) = 130 := by decide +kernel
theorem tg_127_21 : tgt 127 (21) = 148 := by decide +kernel
theorem tg_139_8 : tgt 139 (8) = 147 := by decide +kernel
theorem tg_37_18 : tgt 37 (18) = 55 := by decide +kernel
theorem tg_31_20 : tgt 31 (20) = 51 := by decide +kernel
theorem tg_14_37 : tgt 14 (37) = 51 := by decide +kernel
theorem tg_22_9 : tgt 22 (9) = 31 := by decide +kernel
theorem tg_7_16 : tgt 7 (16) = 23 := by decide +kernel
theorem tg_30_48 : tgt 30 (48) = 78 := by decide +kernel
theorem tg_20_m18 : tgt 20 (-18) = 2 := by decide +kernel
theorem tg_40_32 : tgt 40 (32) = 72 := by decide +kernel
theorem tg_75_m50 : tgt 75 (-50) = 25 := by decide +kernel
theorem tg_50_16 : tgt 50 (16) = 66 := by decide +kernel
theorem tg_69_m34 : tgt 69 (-34) = 35 := by decide +kernel
theorem tg_63_m18 : tgt 63 (-18) = 45 := by decide +kernel
theorem tg_12_56 : tgt 12 (56) = 68 := by decide +kernel
theorem tg_16_52 : tgt 16 (52) = 68 := by decide +kernel
theorem tg_28_40 : tgt 28 (40) = 68 := by decide +kernel
theorem tg_65_m57 : tgt 65 (-57) = 8 := by decide +kernel
theorem tg_6_13 : tgt 6 (13) = 19 := by decide +kernel
theorem tg_12_67 : tgt 12 (67) = 79 := by decide +kernel
theorem tg_22_51 : tgt 22 (51) = 73 := by decide +kernel
theorem tg_76_m66 : tgt 76 (-66) = 10 := by decide +kernel
theorem tg_32_35 : tgt 32 (35) = 67 := by decide +kernel
theorem tg_52_15 : tgt 52 (15) = 67 := by decide +kernel
theorem tg_23_83 : tgt 23 (83) = 106 := by decide +kernel
theorem tg_42_25 : tgt 42 (25) = 67 := by decide +kernel
theorem tg_51_20 : tgt 51 (20) = 71 := by decide +kernel
theorem tg_103_m88 : tgt 103 (-88) = 15 := by decide +kernel
theorem tg_7_52 : tgt 7 (52) = 59 := by decide +kernel
theorem tg_33_20 : tgt 33 (20) = 53 := by decide +kernel
theorem tg_56_m53 : tgt 56 (-53) = 3 := by decide +kernel
theorem tg_40_11 : tgt 40 (11) = 51 := by decide +kernel
theorem tg_9_8 : tgt 9 (8) = 17 := by decide +kernel
theorem ci_65536 : Int32.ofInt (65536) = (65536 : Int32) := by decide +kernel
theorem tg_23_11 : tgt 23 (11) = 34 := by decide +kernel
theorem tg_38_11 : tgt 38 (11) = 49 := by decide +kernel
theorem tg_52_10 : tgt 52 (10) = 62 := by decide +kernel
theorem tg_64_10 : tgt 64 (10) = 74 := by decide +kernel
theorem ci_8 : Int32.ofInt (8) = (8 : Int32) := by decide +kernel
theorem ci_16 : Int32.ofInt (16) = (16 : Int32) := by decide +kernel
theorem tg_10_53 : tgt 10 (53) = 63 := by decide +kernel
theorem tg_19_38 : tgt 19 (38) = 57 := by decide +kernel
theorem tg_60_m53 : tgt 60 (-53) = 7 := by decide +kernel
theorem tg_42_13 : tgt 42 (13) = 55 := by decide +kernel
theorem tg_21_5 : tgt 21 (5) = 26 := by decide +kernel
theorem tg_28_14 : tgt 28 (14) = 42 := by decide +kernel
theorem tg_33_9 : tgt 33 (9) = 42 := by decide +kernel
theorem tg_14_210 : tgt 14 (210) = 224 := by decide +kernel
theorem rf_177_1 {P : Nat → Nat → Nat → Option (Nat × Nat)} : RR P 177 0 1 = some (127, 0) := rfl
theorem tg_26_192 : tgt 26 (192) = 218 := by decide +kernel
theorem tg_221_m211 : tgt 221 (-211) = 10 := by decide +kernel
theorem tg_40_19 : tgt 40 (19) = 59 := by decide +kernel
theorem tg_85_14 : tgt 85 (14) = 99 := by decide +kernel
theorem tg_104_8 : tgt 104 (8) = 112 := by decide +kernel
theorem dc_ne_0_0 : (!decide ((0 : Int32) = (0 : Int32))) = false := by decide +kernel
theorem tg_109_18 : tgt 109 (18) = 127 := by decide +kernel
theorem tg_133_30 : tgt 133 (30) = 163 := by decide +kernel
theorem tg_169_8 : tgt 169 (8) = 177 := by decide +kernel
theorem tg_178_4 : tgt 178 (4) = 182 := by decide +kernel
theorem tg_188_30 : tgt 188 (30) = 218 := by decide +kernel
theorem tg_198_13 : tgt 198 (13) = 211 := by decide +kernel
theorem tg_208_7 : tgt 208 (7) = 215 := by decide +kernel
theorem tg_174_7 : tgt 174 (7) = 181 := by decide +kernel
theorem tg_77_4 : tgt 77 (4) = 81 := by decide +kernel
theorem dc_ne_1_0 : (!decide ((1 : Int32) = (0 : Int32))) = true := by decide +kernel
theorem tg_124_5 : tgt 124 (5) = 129 := by decide +kernel
theorem tg_140_23 : tgt 140 (23) = 163 := by decide +kernel
theorem tg_160_5 : tgt 160 (5) = 165 := by decide +kernel
theorem tg_30_69 : tgt 30 (69) = 99 := by decide +kernel
theorem tg_42_51 : tgt 42 (51) = 93 := by decide +kernel
theorem tg_96_m70 : tgt 96 (-70) = 26 := by decide +kernel
theorem tg_56_37 : tgt 56 (37) = 93 := by decide +kernel
theorem tg_81_10 : tgt 81 (10) = 91 := by decide +kernel
theorem tg_88_5 : tgt 88 (5) = 93 := by decide +kernel
theorem ia_180 {n : Nat} {I : Nat → Nat → Nat → Int32} {L : Nat → Nat → Nat → Int64} {P : Nat → Nat → Nat → Option (Nat × Nat)} {E : Nat → Nat × Nat × Nat × Nat} {c s : Nat} : isArr (mm n I L P E c s) 180 0 = true := rfl
theorem al_180 {n : Nat} {I : Nat → Nat → Nat → Int32} {L : Nat → Nat → Nat → Int64} {P : Nat → Nat → Nat → Option (Nat × Nat)} {E : Nat → Nat × Nat × Nat × Nat} {c s : Nat} : Int32.ofNat (alen (mm n I L P E c s) 180 0) = (64 : Int32) := rfl
theorem tg_5_6 : tgt 5 (6) = 11 := by decide +kernel
theorem tg_22_21 : tgt 22 (21) = 43 := by decide +kernel
theorem tg_59_70 : tgt 59 (70) = 129 := by decide +kernel
theorem tg_69_54 : tgt 69 (54) = 123 := by decide +kernel
theorem tg_126_m76 : tgt 126 (-76) = 50 := by decide +kernel
theorem tg_4_24 : tgt 4 (24) = 28 := by decide +kernel
theorem tg_14_16 : tgt 14 (16) = 30 := by decide +kernel
theorem tg_27_m23 : tgt 27 (-23) = 4 := by decide +kernel
theorem tg_4_4 : tgt 4 (4) = 8 := by decide +kernel
theorem tg_5_19 : tgt 5 (19) = 24 := by decide +kernel
theorem tg_33_43 : tgt 33 (43) = 76 := by decide +kernel
theorem tg_46_30 : tgt 46 (30) = 76 := by decide +kernel
theorem tg_73_m45 : tgt 73 (-45) = 28 := by decide +kernel
theorem tg_26_39 : tgt 26 (39) = 65 := by decide +kernel
theorem tg_31_34 : tgt 31 (34) = 65 := by decide +kernel
theorem tg_36_13 : tgt 36 (13) = 49 := by decide +kernel
theorem tg_46_19 : tgt 46 (19) = 65 := by decide +kernel
theorem tg_7_23 : tgt 7 (23) = 30 := by decide +kernel
theorem rf_143_2 {P : Nat → Nat → Nat → Option (Nat × Nat)} : RR P 143 0 2 = some (144, 0) := rfl
theorem ao_144_0 {n : Nat} {I : Nat → Nat → Nat → Int32} {L : Nat → Nat → Nat → Int64} {P : Nat → Nat → Nat → Option (Nat × Nat)} {E : Nat → Nat × Nat × Nat × Nat} {c s : Nat} {i : Int32} : arrOk (mm n I L P E c s) 144 0 0 i = inb i 150 := rfl
theorem tg_11_51 : tgt 11 (51) = 62 := by decide +kernel
theorem tg_43_13 : tgt 43 (13) = 56 := by decide +kernel
theorem tg_59_m56 : tgt 59 (-56) = 3 := by decide +kernel
theorem tg_8_41 : tgt 8 (41) = 49 := by decide +kernel
theorem tg_19_30 : tgt 19 (30) = 49 := by decide +kernel
theorem tg_21_40 : tgt 21 (40) = 61 := by decide +kernel
theorem tg_63_7 : tgt 63 (7) = 70 := by decide +kernel
theorem tg_67_4 : tgt 67 (4) = 71 := by decide +kernel
theorem tg_27_26 : tgt 27 (26) = 53 := by decide +kernel
theorem tg_58_m50 : tgt 58 (-50) = 8 := by decide +kernel
theorem cb_27 : (Int8.ofInt (27)).toInt32 = (27 : Int32) := by decide +kernel
theorem tg_50_4 : tgt 50 (4) = 54 := by decide +kernel
theorem tg_27_8 : tgt 27 (8) = 35 := by decide +kernel
theorem tg_51_11 : tgt 51 (11) = 62 := by decide +kernel
theorem tg_14_10 : tgt 14 (10) = 24 := by decide +kernel
theorem tg_24_38 : tgt 24 (38) = 62 := by decide +kernel
theorem cb_91 : (Int8.ofInt (91)).toInt32 = (91 : Int32) := by decide +kernel
theorem tg_72_44 : tgt 72 (44) = 116 := by decide +kernel
theorem tg_127_66 : tgt 127 (66) = 193 := by decide +kernel
theorem tg_79_4 : tgt 79 (4) = 83 := by decide +kernel
theorem tg_205_45 : tgt 205 (45) = 250 := by decide +kernel
theorem tg_134_4 : tgt 134 (4) = 138 := by decide +kernel
theorem cb_93 : (Int8.ofInt (93)).toInt32 = (93 : Int32) := by decide +kernel
theorem tg_212_4 : tgt 212 (4) = 216 := by decide +kernel
theorem tg_113_226 : tgt 113 (226) = 339 := by decide +kernel
theorem tg_59_280 : tgt 59 (280) = 339 := by decide +kernel
theorem tg_275_19 : tgt 275 (19) = 294 := by decide +kernel
theorem tg_307_4 : tgt 307 (4) = 311 := by decide +kernel
theorem ib_1_3 : inb (1 : Int32) 3 = true := by decide +kernel
theorem tg_158_12 : tgt 158 (12) = 170 := by decide +kernel
theorem tg_291_12 : tgt 291 (12) = 303 := by decide +kernel
theorem tg_247_92 : tgt 247 (92) = 339 := by decide +kernel
theorem tg_190_149 : tgt 190 (149) = 339 := by decide +kernel
theorem tg_8_20 : tgt 8 (20) = 28 := by decide +kernel
theorem tg_31_28 : tgt 31 (28) = 59 := by decide +kernel
theorem rf_143_1 {P : Nat → Nat → Nat → Option (Nat × Nat)} : RR P 143 0 1 = some (103, 0) := rfl
theorem tg_66_12 : tgt 66 (12) = 78 := by decide +kernel
theorem tg_81_12 : tgt 81 (12) = 93 := by decide +kernel
theorem tg_101_13 : tgt 101 (13) = 114 := by decide +kernel
theorem tg_116_13 : tgt 116 (13) = 129 := by decide +kernel
theorem tg_131_13 : tgt 131 (13) = 144 := by decide +kernel
theorem tg_39_20 : tgt 39 (20) = 59 := by decide +kernel
theorem tg_141_10 : tgt 141 (10) = 151 := by decide +kernel
theorem tg_126_25 : tgt 126 (25) = 151 := by decide +kernel
theorem tg_111_40 : tgt 111 (40) = 151 := by decide +kernel
theorem tg_32_13 : tgt 32 (13) = 45 := by decide +kernel
theorem tg_13_15 : tgt 13 (15) = 28 := by decide +kernel
theorem tg_25_20 : tgt 25 (20) = 45 := by decide +kernel
theorem tg_21_16 : tgt 21 (16) = 37 := by decide +kernel
theorem tg_4_5 : tgt 4 (5) = 9 := by decide +kernel
theorem tg_55_51 : tgt 55 (51) = 106 := by decide +kernel
theorem tg_113_9 : tgt 113 (9) = 122 := by decide +kernel
theorem tg_126_8 : tgt 126 (8) = 134 := by decide +kernel
theorem tg_131_4 : tgt 131 (4) = 135 := by decide +kernel
theorem tg_81_8 : tgt 81 (8) = 89 := by decide +kernel
theorem tg_103_m59 : tgt 103 (-59) = 44 := by decide +kernel
theorem tg_86_5 : tgt 86 (5) = 91 := by decide +kernel
theorem ib_2_3 : inb (2 : Int32) 3 = true := by decide +kernel
theorem tg_50_7 : tgt 50 (7) = 57 := by decide +kernel
theorem tg_13_52 : tgt 13 (52) = 65 := by decide +kernel
theorem tg_29_36 : tgt 29 (36) = 65 := by decide +kernel
theorem tg_45_20 : tgt 45 (20) = 65 := by decide +kernel
theorem tg_61_4 : tgt 61 (4) = 65 := by decide +kernel
theorem tg_53_10 : tgt 53 (10) = 63 := by decide +kernel
theorem tg_21_12 : tgt 21 (12) = 33 := by decide +kernel
theorem tg_7_9 : tgt 7 (9) = 16 := by decide +kernel
theorem ao_106_0 {n : Nat} {I : Nat → Nat → Nat → Int32} {L : Nat → Nat → Nat → Int64} {P : Nat → Nat → Nat → Option (Nat × Nat)} {E : Nat → Nat × Nat × Nat × Nat} {c s : Nat} {i : Int32} : arrOk (mm n I L P E c s) 106 0 0 i = inb i 6 := rfl
theorem tg_9_6 : tgt 9 (6) = 15 := by decide +kernel
theorem tg_10_11 : tgt 10 (11) = 21 := by decide +kernel
theorem tg_19_11 : tgt 19 (11) = 30 := by decide +kernel
theorem tg_17_11 : tgt 17 (11) = 28 := by decide +kernel
theorem tg_12_11 : tgt 12 (11) = 23 := by decide +kernel
theorem ia_0 {n : Nat} {I : Nat → Nat → Nat → Int32} {L : Nat → Nat → Nat → Int64} {P : Nat → Nat → Nat → Option (Nat × Nat)} {E : Nat → Nat × Nat × Nat × Nat} {c s : Nat} : isArr (mm n I L P E c s) 0 0 = true := rfl
theorem al_0 {n : Nat} {I : Nat → Nat → Nat → Int32} {L : Nat → Nat → Nat → Int64} {P : Nat → Nat → Nat → Option (Nat × Nat)} {E : Nat → Nat × Nat × Nat × Nat} {c s : Nat} : Int32.ofNat (alen (mm n I L P E c s) 0 0) = (Int32.ofNat n) := rfl
theorem tg_30_3431 : tgt 30 (3431) = 3461 := by decide +kernel
theorem ao_0_0 {n : Nat} {I : Nat → Nat → Nat → Int32} {L : Nat → Nat → Nat → Int64} {P : Nat → Nat → Nat → Option (Nat × Nat)} {E : Nat → Nat × Nat × Nat × Nat} {c s : Nat} {i : Int32} : arrOk (mm n I L P E c s) 0 0 0 i = inb i n := rfl
theorem tg_40_236 : tgt 40 (236) = 276 := by decide +kernel
theorem tg_40_309 : tgt 40 (309) = 349 := by decide +kernel
theorem tg_40_365 : tgt 40 (365) = 405 := by decide +kernel
theorem tg_40_433 : tgt 40 (433) = 473 := by decide +kernel
theorem tg_40_489 : tgt 40 (489) = 529 := by decide +kernel
theorem tg_40_502 : tgt 40 (502) = 542 := by decide +kernel
theorem tg_40_558 : tgt 40 (558) = 598 := by decide +kernel
theorem tg_40_626 : tgt 40 (626) = 666 := by decide +kernel
theorem tg_40_694 : tgt 40 (694) = 734 := by decide +kernel
theorem tg_40_781 : tgt 40 (781) = 821 := by decide +kernel
theorem tg_40_856 : tgt 40 (856) = 896 := by decide +kernel
theorem tg_40_923 : tgt 40 (923) = 963 := by decide +kernel
theorem tg_40_998 : tgt 40 (998) = 1038 := by decide +kernel
theorem tg_40_1090 : tgt 40 (1090) = 1130 := by decide +kernel
theorem tg_40_1170 : tgt 40 (1170) = 1210 := by decide +kernel
theorem tg_40_1184 : tgt 40 (1184) = 1224 := by decide +kernel
theorem tg_40_1197 : tgt 40 (1197) = 1237 := by decide +kernel
theorem tg_40_1253 : tgt 40 (1253) = 1293 := by decide +kernel
theorem tg_40_1309 : tgt 40 (1309) = 1349 := by decide +kernel
theorem tg_40_1377 : tgt 40 (1377) = 1417 := by decide +kernel
theorem tg_40_1402 : tgt 40 (1402) = 1442 := by decide +kernel
theorem tg_40_1415 : tgt 40 (1415) = 1455 := by decide +kernel
theorem tg_40_1507 : tgt 40 (1507) = 1547 := by decide +kernel
theorem tg_40_1563 : tgt 40 (1563) = 1603 := by decide +kernel
theorem tg_40_1577 : tgt 40 (1577) = 1617 := by decide +kernel
theorem tg_40_1590 : tgt 40 (1590) = 1630 := by decide +kernel
theorem tg_40_1658 : tgt 40 (1658) = 1698 := by decide +kernel
theorem tg_40_1726 : tgt 40 (1726) = 1766 := by decide +kernel
theorem tg_40_1794 : tgt 40 (1794) = 1834 := by decide +kernel
theorem tg_40_1862 : tgt 40 (1862) = 1902 := by decide +kernel
theorem tg_40_1918 : tgt 40 (1918) = 1958 := by decide +kernel
theorem tg_40_1998 : tgt 40 (1998) = 2038 := by decide +kernel
theorem tg_40_2066 : tgt 40 (2066) = 2106 := by decide +kernel
theorem tg_40_2146 : tgt 40 (2146) = 2186 := by decide +kernel
theorem tg_40_2226 : tgt 40 (2226) = 2266 := by decide +kernel
theorem tg_40_2306 : tgt 40 (2306) = 2346 := by decide +kernel
theorem tg_40_2374 : tgt 40 (2374) = 2414 := by decide +kernel
theorem tg_40_2442 : tgt 40 (2442) = 2482 := by decide +kernel
theorem tg_40_2510 : tgt 40 (2510) = 2550 := by decide +kernel
theorem tg_40_2590 : tgt 40 (2590) = 2630 := by decide +kernel
theorem tg_40_2670 : tgt 40 (2670) = 2710 := by decide +kernel
theorem tg_40_2738 : tgt 40 (2738) = 2778 := by decide +kernel
theorem tg_40_2794 : tgt 40 (2794) = 2834 := by decide +kernel
theorem tg_40_2850 : tgt 40 (2850) = 2890 := by decide +kernel
theorem tg_40_2918 : tgt 40 (2918) = 2958 := by decide +kernel
theorem tg_40_2986 : tgt 40 (2986) = 3026 := by decide +kernel
theorem tg_40_3054 : tgt 40 (3054) = 3094 := by decide +kernel
theorem tg_40_3134 : tgt 40 (3134) = 3174 := by decide +kernel
theorem tg_40_3190 : tgt 40 (3190) = 3230 := by decide +kernel
theorem tg_40_3258 : tgt 40 (3258) = 3298 := by decide +kernel
theorem tg_40_3326 : tgt 40 (3326) = 3366 := by decide +kernel
theorem tg_40_3339 : tgt 40 (3339) = 3379 := by decide +kernel
theorem tg_40_3352 : tgt 40 (3352) = 3392 := by decide +kernel
theorem tg_40_3365 : tgt 40 (3365) = 3405 := by decide +kernel
theorem tg_40_3390 : tgt 40 (3390) = 3430 := by decide +kernel
theorem tg_40_3415 : tgt 40 (3415) = 3455 := by decide +kernel
theorem ci_6 : Int32.ofInt (6) = (6 : Int32) := by decide +kernel
theorem tg_3458_m3435 : tgt 3458 (-3435) = 23 := by decide +kernel
theorem tg_344_3111 : tgt 344 (3111) = 3455 := by decide +kernel
theorem tg_537_2918 : tgt 537 (2918) = 3455 := by decide +kernel
theorem tg_1219_2236 : tgt 1219 (2236) = 3455 := by decide +kernel
theorem tg_1232_2223 : tgt 1232 (2223) = 3455 := by decide +kernel
theorem tg_1437_2018 : tgt 1437 (2018) = 3455 := by decide +kernel
theorem tg_1450_2005 : tgt 1450 (2005) = 3455 := by decide +kernel
theorem tg_1612_1843 : tgt 1612 (1843) = 3455 := by decide +kernel
theorem tg_1625_1830 : tgt 1625 (1830) = 3455 := by decide +kernel
theorem tg_3374_81 : tgt 3374 (81) = 3455 := by decide +kernel
theorem tg_3387_68 : tgt 3387 (68) = 3455 := by decide +kernel
theorem tg_3400_55 : tgt 3400 (55) = 3455 := by decide +kernel
theorem tg_3425_30 : tgt 3425 (30) = 3455 := by decide +kernel
theorem tg_3450_5 : tgt 3450 (5) = 3455 := by decide +kernel
theorem tg_380_5 : tgt 380 (5) = 385 := by decide +kernel
theorem tg_387_15 : tgt 387 (15) = 402 := by decide +kernel
theorem tg_402_3053 : tgt 402 (3053) = 3455 := by decide +kernel
theorem tg_397_5 : tgt 397 (5) = 402 := by decide +kernel
theorem tg_448_5 : tgt 448 (5) = 453 := by decide +kernel
theorem tg_455_15 : tgt 455 (15) = 470 := by decide +kernel
theorem tg_470_2985 : tgt 470 (2985) = 3455 := by decide +kernel
theorem tg_465_5 : tgt 465 (5) = 470 := by decide +kernel
theorem tg_504_5 : tgt 504 (5) = 509 := by decide +kernel
theorem tg_511_15 : tgt 511 (15) = 526 := by decide +kernel
theorem tg_526_2929 : tgt 526 (2929) = 3455 := by decide +kernel
theorem tg_521_5 : tgt 521 (5) = 526 := by decide +kernel
theorem tg_573_5 : tgt 573 (5) = 578 := by decide +kernel
theorem tg_580_15 : tgt 580 (15) = 595 := by decide +kernel
theorem tg_595_2860 : tgt 595 (2860) = 3455 := by decide +kernel
theorem tg_590_5 : tgt 590 (5) = 595 := by decide +kernel
theorem tg_641_5 : tgt 641 (5) = 646 := by decide +kernel
theorem tg_648_15 : tgt 648 (15) = 663 := by decide +kernel
theorem tg_663_2792 : tgt 663 (2792) = 3455 := by decide +kernel
theorem tg_658_5 : tgt 658 (5) = 663 := by decide +kernel
theorem tg_709_5 : tgt 709 (5) = 714 := by decide +kernel
theorem tg_716_15 : tgt 716 (15) = 731 := by decide +kernel
theorem tg_731_2724 : tgt 731 (2724) = 3455 := by decide +kernel
theorem tg_726_5 : tgt 726 (5) = 731 := by decide +kernel
theorem tg_789_5 : tgt 789 (5) = 794 := by decide +kernel
theorem tg_796_22 : tgt 796 (22) = 818 := by decide +kernel
theorem tg_818_2637 : tgt 818 (2637) = 3455 := by decide +kernel
theorem tg_804_7 : tgt 804 (7) = 811 := by decide +kernel
theorem tg_813_5 : tgt 813 (5) = 818 := by decide +kernel
theorem tg_808_4 : tgt 808 (4) = 812 := by decide +kernel
theorem tg_864_5 : tgt 864 (5) = 869 := by decide +kernel
theorem tg_871_22 : tgt 871 (22) = 893 := by decide +kernel
theorem tg_893_2562 : tgt 893 (2562) = 3455 := by decide +kernel
theorem tg_879_7 : tgt 879 (7) = 886 := by decide +kernel
theorem tg_888_5 : tgt 888 (5) = 893 := by decide +kernel
theorem tg_883_4 : tgt 883 (4) = 887 := by decide +kernel
theorem tg_939_5 : tgt 939 (5) = 944 := by decide +kernel
theorem tg_946_14 : tgt 946 (14) = 960 := by decide +kernel
theorem tg_960_2495 : tgt 960 (2495) = 3455 := by decide +kernel
theorem tg_955_5 : tgt 955 (5) = 960 := by decide +kernel
theorem tg_1006_5 : tgt 1006 (5) = 1011 := by decide +kernel
theorem tg_1013_22 : tgt 1013 (22) = 1035 := by decide +kernel
theorem tg_1035_2420 : tgt 1035 (2420) = 3455 := by decide +kernel
theorem tg_1021_7 : tgt 1021 (7) = 1028 := by decide +kernel
theorem tg_1030_5 : tgt 1030 (5) = 1035 := by decide +kernel
theorem tg_1025_4 : tgt 1025 (4) = 1029 := by decide +kernel
theorem tg_1105_5 : tgt 1105 (5) = 1110 := by decide +kernel
theorem tg_1112_15 : tgt 1112 (15) = 1127 := by decide +kernel
theorem tg_1127_2328 : tgt 1127 (2328) = 3455 := by decide +kernel
theorem tg_1122_5 : tgt 1122 (5) = 1127 := by decide +kernel
theorem tg_1185_5 : tgt 1185 (5) = 1190 := by decide +kernel
theorem tg_1192_15 : tgt 1192 (15) = 1207 := by decide +kernel
theorem tg_1207_2248 : tgt 1207 (2248) = 3455 := by decide +kernel
theorem tg_1202_5 : tgt 1202 (5) = 1207 := by decide +kernel
theorem tg_1268_5 : tgt 1268 (5) = 1273 := by decide +kernel
theorem tg_1275_15 : tgt 1275 (15) = 1290 := by decide +kernel
theorem tg_1290_2165 : tgt 1290 (2165) = 3455 := by decide +kernel
theorem tg_1285_5 : tgt 1285 (5) = 1290 := by decide +kernel
theorem tg_1324_5 : tgt 1324 (5) = 1329 := by decide +kernel
theorem tg_1331_15 : tgt 1331 (15) = 1346 := by decide +kernel
theorem tg_1346_2109 : tgt 1346 (2109) = 3455 := by decide +kernel
theorem tg_1341_5 : tgt 1341 (5) = 1346 := by decide +kernel
theorem tg_1392_5 : tgt 1392 (5) = 1397 := by decide +kernel
theorem tg_1399_15 : tgt 1399 (15) = 1414 := by decide +kernel
theorem tg_1414_2041 : tgt 1414 (2041) = 3455 := by decide +kernel
theorem tg_1409_5 : tgt 1409 (5) = 1414 := by decide +kernel
theorem tg_1522_5 : tgt 1522 (5) = 1527 := by decide +kernel
theorem tg_1529_15 : tgt 1529 (15) = 1544 := by decide +kernel
theorem tg_1544_1911 : tgt 1544 (1911) = 3455 := by decide +kernel
theorem tg_1539_5 : tgt 1539 (5) = 1544 := by decide +kernel
theorem tg_1578_5 : tgt 1578 (5) = 1583 := by decide +kernel
theorem tg_1585_15 : tgt 1585 (15) = 1600 := by decide +kernel
theorem tg_1600_1855 : tgt 1600 (1855) = 3455 := by decide +kernel
theorem tg_1595_5 : tgt 1595 (5) = 1600 := by decide +kernel
theorem tg_1673_5 : tgt 1673 (5) = 1678 := by decide +kernel
theorem tg_1680_15 : tgt 1680 (15) = 1695 := by decide +kernel
theorem tg_1695_1760 : tgt 1695 (1760) = 3455 := by decide +kernel
theorem tg_1690_5 : tgt 1690 (5) = 1695 := by decide +kernel
theorem tg_1741_5 : tgt 1741 (5) = 1746 := by decide +kernel
theorem tg_1748_15 : tgt 1748 (15) = 1763 := by decide +kernel
theorem tg_1763_1692 : tgt 1763 (1692) = 3455 := by decide +kernel
theorem tg_1758_5 : tgt 1758 (5) = 1763 := by decide +kernel
theorem tg_1809_5 : tgt 1809 (5) = 1814 := by decide +kernel
theorem tg_1816_15 : tgt 1816 (15) = 1831 := by decide +kernel
theorem tg_1831_1624 : tgt 1831 (1624) = 3455 := by decide +kernel
theorem tg_1826_5 : tgt 1826 (5) = 1831 := by decide +kernel
theorem tg_1877_5 : tgt 1877 (5) = 1882 := by decide +kernel
theorem tg_1884_15 : tgt 1884 (15) = 1899 := by decide +kernel
theorem tg_1899_1556 : tgt 1899 (1556) = 3455 := by decide +kernel
theorem tg_1894_5 : tgt 1894 (5) = 1899 := by decide +kernel
theorem tg_1933_5 : tgt 1933 (5) = 1938 := by decide +kernel
theorem tg_1940_15 : tgt 1940 (15) = 1955 := by decide +kernel
theorem tg_1955_1500 : tgt 1955 (1500) = 3455 := by decide +kernel
theorem tg_1950_5 : tgt 1950 (5) = 1955 := by decide +kernel
theorem tg_2013_5 : tgt 2013 (5) = 2018 := by decide +kernel
theorem tg_2020_15 : tgt 2020 (15) = 2035 := by decide +kernel
theorem tg_2035_1420 : tgt 2035 (1420) = 3455 := by decide +kernel
theorem tg_2030_5 : tgt 2030 (5) = 2035 := by decide +kernel
theorem tg_2081_5 : tgt 2081 (5) = 2086 := by decide +kernel
theorem tg_2088_15 : tgt 2088 (15) = 2103 := by decide +kernel
theorem tg_2103_1352 : tgt 2103 (1352) = 3455 := by decide +kernel
theorem tg_2098_5 : tgt 2098 (5) = 2103 := by decide +kernel
theorem tg_2161_5 : tgt 2161 (5) = 2166 := by decide +kernel
theorem tg_2168_15 : tgt 2168 (15) = 2183 := by decide +kernel
theorem tg_2183_1272 : tgt 2183 (1272) = 3455 := by decide +kernel
theorem tg_2178_5 : tgt 2178 (5) = 2183 := by decide +kernel
theorem tg_2241_5 : tgt 2241 (5) = 2246 := by decide +kernel
theorem tg_2248_15 : tgt 2248 (15) = 2263 := by decide +kernel
theorem tg_2263_1192 : tgt 2263 (1192) = 3455 := by decide +kernel
theorem tg_2258_5 : tgt 2258 (5) = 2263 := by decide +kernel
theorem tg_2321_5 : tgt 2321 (5) = 2326 := by decide +kernel
theorem tg_2328_15 : tgt 2328 (15) = 2343 := by decide +kernel
theorem tg_2343_1112 : tgt 2343 (1112) = 3455 := by decide +kernel
theorem tg_2338_5 : tgt 2338 (5) = 2343 := by decide +kernel
theorem tg_2389_5 : tgt 2389 (5) = 2394 := by decide +kernel
theorem tg_2396_15 : tgt 2396 (15) = 2411 := by decide +kernel
theorem tg_2411_1044 : tgt 2411 (1044) = 3455 := by decide +kernel
theorem tg_2406_5 : tgt 2406 (5) = 2411 := by decide +kernel
theorem tg_2457_5 : tgt 2457 (5) = 2462 := by decide +kernel
theorem tg_2464_15 : tgt 2464 (15) = 2479 := by decide +kernel
theorem tg_2479_976 : tgt 2479 (976) = 3455 := by decide +kernel
theorem tg_2474_5 : tgt 2474 (5) = 2479 := by decide +kernel
theorem tg_2525_5 : tgt 2525 (5) = 2530 := by decide +kernel
theorem tg_2532_15 : tgt 2532 (15) = 2547 := by decide +kernel
theorem tg_2547_908 : tgt 2547 (908) = 3455 := by decide +kernel
theorem tg_2542_5 : tgt 2542 (5) = 2547 := by decide +kernel
theorem tg_2605_5 : tgt 2605 (5) = 2610 := by decide +kernel
theorem tg_2612_15 : tgt 2612 (15) = 2627 := by decide +kernel
theorem tg_2627_828 : tgt 2627 (828) = 3455 := by decide +kernel
theorem tg_2622_5 : tgt 2622 (5) = 2627 := by decide +kernel
theorem tg_2685_5 : tgt 2685 (5) = 2690 := by decide +kernel
theorem tg_2692_15 : tgt 2692 (15) = 2707 := by decide +kernel
theorem tg_2707_748 : tgt 2707 (748) = 3455 := by decide +kernel
theorem tg_2702_5 : tgt 2702 (5) = 2707 := by decide +kernel
theorem tg_2753_5 : tgt 2753 (5) = 2758 := by decide +kernel
theorem tg_2760_15 : tgt 2760 (15) = 2775 := by decide +kernel
theorem tg_2775_680 : tgt 2775 (680) = 3455 := by decide +kernel
theorem tg_2770_5 : tgt 2770 (5) = 2775 := by decide +kernel
theorem tg_2809_5 : tgt 2809 (5) = 2814 := by decide +kernel
theorem tg_2816_15 : tgt 2816 (15) = 2831 := by decide +kernel
theorem tg_2831_624 : tgt 2831 (624) = 3455 := by decide +kernel
theorem tg_2826_5 : tgt 2826 (5) = 2831 := by decide +kernel
theorem tg_2865_5 : tgt 2865 (5) = 2870 := by decide +kernel
theorem tg_2872_15 : tgt 2872 (15) = 2887 := by decide +kernel
theorem tg_2887_568 : tgt 2887 (568) = 3455 := by decide +kernel
theorem tg_2882_5 : tgt 2882 (5) = 2887 := by decide +kernel
theorem tg_2933_5 : tgt 2933 (5) = 2938 := by decide +kernel
theorem tg_2940_15 : tgt 2940 (15) = 2955 := by decide +kernel
theorem tg_2955_500 : tgt 2955 (500) = 3455 := by decide +kernel
theorem tg_2950_5 : tgt 2950 (5) = 2955 := by decide +kernel
theorem tg_3001_5 : tgt 3001 (5) = 3006 := by decide +kernel
theorem tg_3008_15 : tgt 3008 (15) = 3023 := by decide +kernel
theorem tg_3023_432 : tgt 3023 (432) = 3455 := by decide +kernel
theorem tg_3018_5 : tgt 3018 (5) = 3023 := by decide +kernel
theorem tg_3069_5 : tgt 3069 (5) = 3074 := by decide +kernel
theorem tg_3076_15 : tgt 3076 (15) = 3091 := by decide +kernel
theorem tg_3091_364 : tgt 3091 (364) = 3455 := by decide +kernel
theorem tg_3086_5 : tgt 3086 (5) = 3091 := by decide +kernel
theorem tg_3149_5 : tgt 3149 (5) = 3154 := by decide +kernel
theorem tg_3156_15 : tgt 3156 (15) = 3171 := by decide +kernel
theorem tg_3171_284 : tgt 3171 (284) = 3455 := by decide +kernel
theorem tg_3166_5 : tgt 3166 (5) = 3171 := by decide +kernel
theorem tg_3205_5 : tgt 3205 (5) = 3210 := by decide +kernel
theorem tg_3212_15 : tgt 3212 (15) = 3227 := by decide +kernel
theorem tg_3227_228 : tgt 3227 (228) = 3455 := by decide +kernel
theorem tg_3222_5 : tgt 3222 (5) = 3227 := by decide +kernel
theorem tg_3273_5 : tgt 3273 (5) = 3278 := by decide +kernel
theorem tg_3280_15 : tgt 3280 (15) = 3295 := by decide +kernel
theorem tg_3295_160 : tgt 3295 (160) = 3455 := by decide +kernel
theorem tg_3290_5 : tgt 3290 (5) = 3295 := by decide +kernel
theorem tg_3341_5 : tgt 3341 (5) = 3346 := by decide +kernel
theorem tg_3348_15 : tgt 3348 (15) = 3363 := by decide +kernel
theorem tg_3363_92 : tgt 3363 (92) = 3455 := by decide +kernel
theorem tg_3358_5 : tgt 3358 (5) = 3363 := by decide +kernel
