/-! THE TABLES ARE RIGHT, 2: methods and the rest (written by program). -/
def PFk (t : Nat × Nat × Nat × Nat) : Prop := ∃ q : vw_C, vwCl[t.2.2.1]? = some q ∧ t.2.2.2 < q.2.2 ∧ (q.2.1 t.2.2.2).1 = q.1 ∧ (q.2.1 t.2.2.2).2.2.2 = true ∧ ownM t.1 = q.1 ∧ (yM t.1).name = "<init>" ∧ Cond.fieldLink (ownM t.1) t.2.1 q.1 (q.2.1 t.2.2.2).2.1 (q.2.1 t.2.2.2).2.2.1 ∈ Tb
theorem pf_8_9_0 : PFk (8, 9, 0, 0) := ⟨(RX0, TX0, 9), rfl, by decide, rfl, rfl, rfl, rfl, tg (tin_2 (i := 0) rfl) rfl⟩
theorem pf_8_15_1 : PFk (8, 15, 0, 1) := ⟨(RX0, TX0, 9), rfl, by decide, rfl, rfl, rfl, rfl, tg (tin_2 (i := 1) rfl) rfl⟩
theorem pf_8_19_2 : PFk (8, 19, 0, 2) := ⟨(RX0, TX0, 9), rfl, by decide, rfl, rfl, rfl, rfl, tg (tin_2 (i := 2) rfl) rfl⟩
theorem pf_8_23_3 : PFk (8, 23, 0, 3) := ⟨(RX0, TX0, 9), rfl, by decide, rfl, rfl, rfl, rfl, tg (tin_2 (i := 3) rfl) rfl⟩
theorem pf_8_27_4 : PFk (8, 27, 0, 4) := ⟨(RX0, TX0, 9), rfl, by decide, rfl, rfl, rfl, rfl, tg (tin_2 (i := 4) rfl) rfl⟩
theorem pf_8_30_5 : PFk (8, 30, 0, 5) := ⟨(RX0, TX0, 9), rfl, by decide, rfl, rfl, rfl, rfl, tg (tin_2 (i := 5) rfl) rfl⟩
theorem pf_8_33_6 : PFk (8, 33, 0, 6) := ⟨(RX0, TX0, 9), rfl, by decide, rfl, rfl, rfl, rfl, tg (tin_2 (i := 6) rfl) rfl⟩
theorem pf_8_40_8 : PFk (8, 40, 0, 8) := ⟨(RX0, TX0, 9), rfl, by decide, rfl, rfl, rfl, rfl, tg (tin_2 (i := 8) rfl) rfl⟩
theorem pf_22_11_1 : PFk (22, 11, 1, 1) := ⟨(RX1, TX1, 10), rfl, by decide, rfl, rfl, rfl, rfl, tg (tin_1 (i := 193) rfl) rfl⟩
theorem pf_22_17_3 : PFk (22, 17, 1, 3) := ⟨(RX1, TX1, 10), rfl, by decide, rfl, rfl, rfl, rfl, tg (tin_1 (i := 198) rfl) rfl⟩
theorem pf_22_21_4 : PFk (22, 21, 1, 4) := ⟨(RX1, TX1, 10), rfl, by decide, rfl, rfl, rfl, rfl, tg (tin_1 (i := 200) rfl) rfl⟩
theorem pf_22_24_5 : PFk (22, 24, 1, 5) := ⟨(RX1, TX1, 10), rfl, by decide, rfl, rfl, rfl, rfl, tg (tin_1 (i := 202) rfl) rfl⟩
theorem pf_22_27_6 : PFk (22, 27, 1, 6) := ⟨(RX1, TX1, 10), rfl, by decide, rfl, rfl, rfl, rfl, tg (tin_1 (i := 204) rfl) rfl⟩
theorem pf_22_31_8 : PFk (22, 31, 1, 8) := ⟨(RX1, TX1, 10), rfl, by decide, rfl, rfl, rfl, rfl, tg (tin_1 (i := 207) rfl) rfl⟩
theorem pf_22_34_9 : PFk (22, 34, 1, 9) := ⟨(RX1, TX1, 10), rfl, by decide, rfl, rfl, rfl, rfl, tg (tin_1 (i := 209) rfl) rfl⟩
theorem pf_32_9_9 : PFk (32, 9, 2, 9) := ⟨(RX2, TX2, 20), rfl, by decide, rfl, rfl, rfl, rfl, tg (tin_1 (i := 112) rfl) rfl⟩
theorem pf_32_15_10 : PFk (32, 15, 2, 10) := ⟨(RX2, TX2, 20), rfl, by decide, rfl, rfl, rfl, rfl, tg (tin_1 (i := 113) rfl) rfl⟩
theorem pf_32_18_11 : PFk (32, 18, 2, 11) := ⟨(RX2, TX2, 20), rfl, by decide, rfl, rfl, rfl, rfl, tg (tin_1 (i := 118) rfl) rfl⟩
theorem pf_32_21_12 : PFk (32, 21, 2, 12) := ⟨(RX2, TX2, 20), rfl, by decide, rfl, rfl, rfl, rfl, tg (tin_1 (i := 121) rfl) rfl⟩
theorem pf_32_24_13 : PFk (32, 24, 2, 13) := ⟨(RX2, TX2, 20), rfl, by decide, rfl, rfl, rfl, rfl, tg (tin_1 (i := 124) rfl) rfl⟩
theorem pf_32_27_14 : PFk (32, 27, 2, 14) := ⟨(RX2, TX2, 20), rfl, by decide, rfl, rfl, rfl, rfl, tg (tin_1 (i := 127) rfl) rfl⟩
theorem pf_32_30_15 : PFk (32, 30, 2, 15) := ⟨(RX2, TX2, 20), rfl, by decide, rfl, rfl, rfl, rfl, tg (tin_1 (i := 130) rfl) rfl⟩
theorem pf_32_33_16 : PFk (32, 33, 2, 16) := ⟨(RX2, TX2, 20), rfl, by decide, rfl, rfl, rfl, rfl, tg (tin_1 (i := 133) rfl) rfl⟩
theorem pf_32_36_17 : PFk (32, 36, 2, 17) := ⟨(RX2, TX2, 20), rfl, by decide, rfl, rfl, rfl, rfl, tg (tin_1 (i := 135) rfl) rfl⟩
theorem pf_32_39_18 : PFk (32, 39, 2, 18) := ⟨(RX2, TX2, 20), rfl, by decide, rfl, rfl, rfl, rfl, tg (tin_1 (i := 137) rfl) rfl⟩
theorem pf_32_42_19 : PFk (32, 42, 2, 19) := ⟨(RX2, TX2, 20), rfl, by decide, rfl, rfl, rfl, rfl, tg (tin_1 (i := 139) rfl) rfl⟩
theorem pf_45_9_0 : PFk (45, 9, 3, 0) := ⟨(RX3, TX3, 2), rfl, by decide, rfl, rfl, rfl, rfl, tg (tin_2 (i := 34) rfl) rfl⟩
theorem pf_45_15_1 : PFk (45, 15, 3, 1) := ⟨(RX3, TX3, 2), rfl, by decide, rfl, rfl, rfl, rfl, tg (tin_2 (i := 35) rfl) rfl⟩
theorem pf_63_9_0 : PFk (63, 9, 4, 0) := ⟨(RX4, TX4, 3), rfl, by decide, rfl, rfl, rfl, rfl, tg (tin_2 (i := 154) rfl) rfl⟩
theorem pf_63_15_1 : PFk (63, 15, 4, 1) := ⟨(RX4, TX4, 3), rfl, by decide, rfl, rfl, rfl, rfl, tg (tin_2 (i := 155) rfl) rfl⟩
theorem pf_63_19_2 : PFk (63, 19, 4, 2) := ⟨(RX4, TX4, 3), rfl, by decide, rfl, rfl, rfl, rfl, tg (tin_2 (i := 156) rfl) rfl⟩
theorem pf_70_7_0 : PFk (70, 7, 5, 0) := ⟨(RX5, TX5, 2), rfl, by decide, rfl, rfl, rfl, rfl, tg (tin_4 (i := 228) rfl) rfl⟩
theorem pf_70_13_1 : PFk (70, 13, 5, 1) := ⟨(RX5, TX5, 2), rfl, by decide, rfl, rfl, rfl, rfl, tg (tin_4 (i := 230) rfl) rfl⟩
theorem pf_71_9_0 : PFk (71, 9, 6, 0) := ⟨(RX6, TX6, 4), rfl, by decide, rfl, rfl, rfl, rfl, tg (tin_2 (i := 47) rfl) rfl⟩
theorem pf_71_15_1 : PFk (71, 15, 6, 1) := ⟨(RX6, TX6, 4), rfl, by decide, rfl, rfl, rfl, rfl, tg (tin_2 (i := 48) rfl) rfl⟩
theorem pf_71_19_2 : PFk (71, 19, 6, 2) := ⟨(RX6, TX6, 4), rfl, by decide, rfl, rfl, rfl, rfl, tg (tin_2 (i := 49) rfl) rfl⟩
theorem pf_82_9_0 : PFk (82, 9, 7, 0) := ⟨(RX7, TX7, 4), rfl, by decide, rfl, rfl, rfl, rfl, tg (tin_2 (i := 112) rfl) rfl⟩
theorem pf_82_15_1 : PFk (82, 15, 7, 1) := ⟨(RX7, TX7, 4), rfl, by decide, rfl, rfl, rfl, rfl, tg (tin_2 (i := 113) rfl) rfl⟩
theorem pf_82_19_2 : PFk (82, 19, 7, 2) := ⟨(RX7, TX7, 4), rfl, by decide, rfl, rfl, rfl, rfl, tg (tin_2 (i := 114) rfl) rfl⟩
theorem pf_89_9_0 : PFk (89, 9, 8, 0) := ⟨(RX8, TX8, 5), rfl, by decide, rfl, rfl, rfl, rfl, tg (tin_2 (i := 132) rfl) rfl⟩
theorem pf_89_15_1 : PFk (89, 15, 8, 1) := ⟨(RX8, TX8, 5), rfl, by decide, rfl, rfl, rfl, rfl, tg (tin_2 (i := 133) rfl) rfl⟩
theorem pf_89_19_2 : PFk (89, 19, 8, 2) := ⟨(RX8, TX8, 5), rfl, by decide, rfl, rfl, rfl, rfl, tg (tin_2 (i := 134) rfl) rfl⟩
theorem pf_89_22_3 : PFk (89, 22, 8, 3) := ⟨(RX8, TX8, 5), rfl, by decide, rfl, rfl, rfl, rfl, tg (tin_2 (i := 135) rfl) rfl⟩
theorem pf_89_25_4 : PFk (89, 25, 8, 4) := ⟨(RX8, TX8, 5), rfl, by decide, rfl, rfl, rfl, rfl, tg (tin_2 (i := 136) rfl) rfl⟩
theorem pf_96_9_0 : PFk (96, 9, 9, 0) := ⟨(RX9, TX9, 12), rfl, by decide, rfl, rfl, rfl, rfl, tg (tin_2 (i := 67) rfl) rfl⟩
theorem pf_96_15_1 : PFk (96, 15, 9, 1) := ⟨(RX9, TX9, 12), rfl, by decide, rfl, rfl, rfl, rfl, tg (tin_2 (i := 68) rfl) rfl⟩
theorem pf_96_19_2 : PFk (96, 19, 9, 2) := ⟨(RX9, TX9, 12), rfl, by decide, rfl, rfl, rfl, rfl, tg (tin_2 (i := 69) rfl) rfl⟩
theorem pf_96_23_6 : PFk (96, 23, 9, 6) := ⟨(RX9, TX9, 12), rfl, by decide, rfl, rfl, rfl, rfl, tg (tin_2 (i := 75) rfl) rfl⟩
theorem pf_96_27_7 : PFk (96, 27, 9, 7) := ⟨(RX9, TX9, 12), rfl, by decide, rfl, rfl, rfl, rfl, tg (tin_2 (i := 76) rfl) rfl⟩
theorem pf_96_31_8 : PFk (96, 31, 9, 8) := ⟨(RX9, TX9, 12), rfl, by decide, rfl, rfl, rfl, rfl, tg (tin_2 (i := 77) rfl) rfl⟩
theorem pf_96_34_9 : PFk (96, 34, 9, 9) := ⟨(RX9, TX9, 12), rfl, by decide, rfl, rfl, rfl, rfl, tg (tin_2 (i := 78) rfl) rfl⟩
theorem pf_96_37_10 : PFk (96, 37, 9, 10) := ⟨(RX9, TX9, 12), rfl, by decide, rfl, rfl, rfl, rfl, tg (tin_2 (i := 79) rfl) rfl⟩
theorem pf_96_40_11 : PFk (96, 40, 9, 11) := ⟨(RX9, TX9, 12), rfl, by decide, rfl, rfl, rfl, rfl, tg (tin_2 (i := 80) rfl) rfl⟩
theorem pf_118_9_0 : PFk (118, 9, 10, 0) := ⟨(RX10, TX10, 8), rfl, by decide, rfl, rfl, rfl, rfl, tg (tin_1 (i := 43) rfl) rfl⟩
theorem pf_126_25_0 : PFk (126, 25, 11, 0) := ⟨(RX11, TX11, 19), rfl, by decide, rfl, rfl, rfl, rfl, tg (tin_2 (i := 164) rfl) rfl⟩
theorem pf_126_29_2 : PFk (126, 29, 11, 2) := ⟨(RX11, TX11, 19), rfl, by decide, rfl, rfl, rfl, rfl, tg (tin_2 (i := 166) rfl) rfl⟩
theorem pf_126_37_4 : PFk (126, 37, 11, 4) := ⟨(RX11, TX11, 19), rfl, by decide, rfl, rfl, rfl, rfl, tg (tin_2 (i := 168) rfl) rfl⟩
theorem pf_126_41_5 : PFk (126, 41, 11, 5) := ⟨(RX11, TX11, 19), rfl, by decide, rfl, rfl, rfl, rfl, tg (tin_2 (i := 169) rfl) rfl⟩
theorem pf_126_49_6 : PFk (126, 49, 11, 6) := ⟨(RX11, TX11, 19), rfl, by decide, rfl, rfl, rfl, rfl, tg (tin_2 (i := 170) rfl) rfl⟩
theorem pf_126_56_7 : PFk (126, 56, 11, 7) := ⟨(RX11, TX11, 19), rfl, by decide, rfl, rfl, rfl, rfl, tg (tin_2 (i := 171) rfl) rfl⟩
theorem pf_126_60_8 : PFk (126, 60, 11, 8) := ⟨(RX11, TX11, 19), rfl, by decide, rfl, rfl, rfl, rfl, tg (tin_2 (i := 172) rfl) rfl⟩
theorem pf_126_64_9 : PFk (126, 64, 11, 9) := ⟨(RX11, TX11, 19), rfl, by decide, rfl, rfl, rfl, rfl, tg (tin_2 (i := 173) rfl) rfl⟩
theorem pf_126_68_11 : PFk (126, 68, 11, 11) := ⟨(RX11, TX11, 19), rfl, by decide, rfl, rfl, rfl, rfl, tg (tin_2 (i := 175) rfl) rfl⟩
theorem pf_126_77_12 : PFk (126, 77, 11, 12) := ⟨(RX11, TX11, 19), rfl, by decide, rfl, rfl, rfl, rfl, tg (tin_2 (i := 176) rfl) rfl⟩
theorem pf_126_84_13 : PFk (126, 84, 11, 13) := ⟨(RX11, TX11, 19), rfl, by decide, rfl, rfl, rfl, rfl, tg (tin_2 (i := 177) rfl) rfl⟩
theorem pf_126_93_14 : PFk (126, 93, 11, 14) := ⟨(RX11, TX11, 19), rfl, by decide, rfl, rfl, rfl, rfl, tg (tin_2 (i := 178) rfl) rfl⟩
theorem pf_126_100_15 : PFk (126, 100, 11, 15) := ⟨(RX11, TX11, 19), rfl, by decide, rfl, rfl, rfl, rfl, tg (tin_2 (i := 179) rfl) rfl⟩
theorem pf_126_104_16 : PFk (126, 104, 11, 16) := ⟨(RX11, TX11, 19), rfl, by decide, rfl, rfl, rfl, rfl, tg (tin_2 (i := 180) rfl) rfl⟩
theorem pf_206_13_9 : PFk (206, 13, 12, 9) := ⟨(RX12, TX12, 52), rfl, by decide, rfl, rfl, rfl, rfl, tg (tin_7 (i := 180) rfl) rfl⟩
theorem pf_206_17_10 : PFk (206, 17, 12, 10) := ⟨(RX12, TX12, 52), rfl, by decide, rfl, rfl, rfl, rfl, tg (tin_7 (i := 181) rfl) rfl⟩
theorem pf_206_20_11 : PFk (206, 20, 12, 11) := ⟨(RX12, TX12, 52), rfl, by decide, rfl, rfl, rfl, rfl, tg (tin_7 (i := 182) rfl) rfl⟩
theorem pf_206_23_12 : PFk (206, 23, 12, 12) := ⟨(RX12, TX12, 52), rfl, by decide, rfl, rfl, rfl, rfl, tg (tin_7 (i := 183) rfl) rfl⟩
theorem pf_206_28_13 : PFk (206, 28, 12, 13) := ⟨(RX12, TX12, 52), rfl, by decide, rfl, rfl, rfl, rfl, tg (tin_7 (i := 184) rfl) rfl⟩
theorem pf_206_31_14 : PFk (206, 31, 12, 14) := ⟨(RX12, TX12, 52), rfl, by decide, rfl, rfl, rfl, rfl, tg (tin_7 (i := 185) rfl) rfl⟩
theorem pf_206_34_15 : PFk (206, 34, 12, 15) := ⟨(RX12, TX12, 52), rfl, by decide, rfl, rfl, rfl, rfl, tg (tin_7 (i := 186) rfl) rfl⟩
theorem pf_206_37_16 : PFk (206, 37, 12, 16) := ⟨(RX12, TX12, 52), rfl, by decide, rfl, rfl, rfl, rfl, tg (tin_7 (i := 187) rfl) rfl⟩
theorem pf_206_40_17 : PFk (206, 40, 12, 17) := ⟨(RX12, TX12, 52), rfl, by decide, rfl, rfl, rfl, rfl, tg (tin_7 (i := 188) rfl) rfl⟩
theorem pf_206_43_18 : PFk (206, 43, 12, 18) := ⟨(RX12, TX12, 52), rfl, by decide, rfl, rfl, rfl, rfl, tg (tin_7 (i := 189) rfl) rfl⟩
theorem pf_206_46_19 : PFk (206, 46, 12, 19) := ⟨(RX12, TX12, 52), rfl, by decide, rfl, rfl, rfl, rfl, tg (tin_7 (i := 190) rfl) rfl⟩
theorem pf_206_49_20 : PFk (206, 49, 12, 20) := ⟨(RX12, TX12, 52), rfl, by decide, rfl, rfl, rfl, rfl, tg (tin_7 (i := 191) rfl) rfl⟩
theorem pf_206_52_21 : PFk (206, 52, 12, 21) := ⟨(RX12, TX12, 52), rfl, by decide, rfl, rfl, rfl, rfl, tg (tin_7 (i := 192) rfl) rfl⟩
theorem pf_206_55_22 : PFk (206, 55, 12, 22) := ⟨(RX12, TX12, 52), rfl, by decide, rfl, rfl, rfl, rfl, tg (tin_7 (i := 193) rfl) rfl⟩
theorem pf_206_58_23 : PFk (206, 58, 12, 23) := ⟨(RX12, TX12, 52), rfl, by decide, rfl, rfl, rfl, rfl, tg (tin_7 (i := 194) rfl) rfl⟩
theorem pf_206_61_28 : PFk (206, 61, 12, 28) := ⟨(RX12, TX12, 52), rfl, by decide, rfl, rfl, rfl, rfl, tg (tin_7 (i := 199) rfl) rfl⟩
theorem pf_206_64_29 : PFk (206, 64, 12, 29) := ⟨(RX12, TX12, 52), rfl, by decide, rfl, rfl, rfl, rfl, tg (tin_7 (i := 200) rfl) rfl⟩
theorem pf_206_67_30 : PFk (206, 67, 12, 30) := ⟨(RX12, TX12, 52), rfl, by decide, rfl, rfl, rfl, rfl, tg (tin_7 (i := 201) rfl) rfl⟩
theorem pf_206_71_31 : PFk (206, 71, 12, 31) := ⟨(RX12, TX12, 52), rfl, by decide, rfl, rfl, rfl, rfl, tg (tin_7 (i := 202) rfl) rfl⟩
theorem pf_206_76_32 : PFk (206, 76, 12, 32) := ⟨(RX12, TX12, 52), rfl, by decide, rfl, rfl, rfl, rfl, tg (tin_7 (i := 203) rfl) rfl⟩
theorem pf_206_79_33 : PFk (206, 79, 12, 33) := ⟨(RX12, TX12, 52), rfl, by decide, rfl, rfl, rfl, rfl, tg (tin_7 (i := 204) rfl) rfl⟩
theorem pf_206_82_34 : PFk (206, 82, 12, 34) := ⟨(RX12, TX12, 52), rfl, by decide, rfl, rfl, rfl, rfl, tg (tin_7 (i := 205) rfl) rfl⟩
theorem pf_206_85_35 : PFk (206, 85, 12, 35) := ⟨(RX12, TX12, 52), rfl, by decide, rfl, rfl, rfl, rfl, tg (tin_7 (i := 206) rfl) rfl⟩
theorem pf_206_88_41 : PFk (206, 88, 12, 41) := ⟨(RX12, TX12, 52), rfl, by decide, rfl, rfl, rfl, rfl, tg (tin_7 (i := 212) rfl) rfl⟩
theorem pf_206_91_42 : PFk (206, 91, 12, 42) := ⟨(RX12, TX12, 52), rfl, by decide, rfl, rfl, rfl, rfl, tg (tin_7 (i := 213) rfl) rfl⟩
theorem pf_206_94_43 : PFk (206, 94, 12, 43) := ⟨(RX12, TX12, 52), rfl, by decide, rfl, rfl, rfl, rfl, tg (tin_7 (i := 214) rfl) rfl⟩
theorem pf_206_97_44 : PFk (206, 97, 12, 44) := ⟨(RX12, TX12, 52), rfl, by decide, rfl, rfl, rfl, rfl, tg (tin_7 (i := 215) rfl) rfl⟩
theorem pf_206_100_45 : PFk (206, 100, 12, 45) := ⟨(RX12, TX12, 52), rfl, by decide, rfl, rfl, rfl, rfl, tg (tin_7 (i := 216) rfl) rfl⟩
theorem pf_206_103_46 : PFk (206, 103, 12, 46) := ⟨(RX12, TX12, 52), rfl, by decide, rfl, rfl, rfl, rfl, tg (tin_7 (i := 217) rfl) rfl⟩
theorem pf_206_106_47 : PFk (206, 106, 12, 47) := ⟨(RX12, TX12, 52), rfl, by decide, rfl, rfl, rfl, rfl, tg (tin_7 (i := 218) rfl) rfl⟩
theorem pf_206_109_48 : PFk (206, 109, 12, 48) := ⟨(RX12, TX12, 52), rfl, by decide, rfl, rfl, rfl, rfl, tg (tin_7 (i := 219) rfl) rfl⟩
theorem pf_206_112_50 : PFk (206, 112, 12, 50) := ⟨(RX12, TX12, 52), rfl, by decide, rfl, rfl, rfl, rfl, tg (tin_7 (i := 221) rfl) rfl⟩
theorem pf_206_115_51 : PFk (206, 115, 12, 51) := ⟨(RX12, TX12, 52), rfl, by decide, rfl, rfl, rfl, rfl, tg (tin_7 (i := 222) rfl) rfl⟩
def pT_0 : List (Nat × Nat × Nat × Nat) := [(118, 9, 10, 0), (126, 100, 11, 15), (126, 104, 11, 16), (126, 25, 11, 0), (126, 29, 11, 2), (126, 37, 11, 4), (126, 41, 11, 5), (126, 49, 11, 6), (126, 56, 11, 7), (126, 60, 11, 8), (126, 64, 11, 9), (126, 68, 11, 11), (126, 77, 11, 12), (126, 84, 11, 13), (126, 93, 11, 14), (206, 100, 12, 45), (206, 103, 12, 46), (206, 106, 12, 47), (206, 109, 12, 48), (206, 112, 12, 50), (206, 115, 12, 51), (206, 13, 12, 9), (206, 17, 12, 10), (206, 20, 12, 11), (206, 23, 12, 12), (206, 28, 12, 13), (206, 31, 12, 14), (206, 34, 12, 15), (206, 37, 12, 16), (206, 40, 12, 17), (206, 43, 12, 18), (206, 46, 12, 19), (206, 49, 12, 20), (206, 52, 12, 21), (206, 55, 12, 22), (206, 58, 12, 23), (206, 61, 12, 28), (206, 64, 12, 29), (206, 67, 12, 30), (206, 71, 12, 31)]
theorem pT_ok_0 : ∀ t ∈ pT_0, PFk t := List.forall_mem_cons.mpr ⟨pf_118_9_0, List.forall_mem_cons.mpr ⟨pf_126_100_15, List.forall_mem_cons.mpr ⟨pf_126_104_16, List.forall_mem_cons.mpr ⟨pf_126_25_0, List.forall_mem_cons.mpr ⟨pf_126_29_2, List.forall_mem_cons.mpr ⟨pf_126_37_4, List.forall_mem_cons.mpr ⟨pf_126_41_5, List.forall_mem_cons.mpr ⟨pf_126_49_6, List.forall_mem_cons.mpr ⟨pf_126_56_7, List.forall_mem_cons.mpr ⟨pf_126_60_8, List.forall_mem_cons.mpr ⟨pf_126_64_9, List.forall_mem_cons.mpr ⟨pf_126_68_11, List.forall_mem_cons.mpr ⟨pf_126_77_12, List.forall_mem_cons.mpr ⟨pf_126_84_13, List.forall_mem_cons.mpr ⟨pf_126_93_14, List.forall_mem_cons.mpr ⟨pf_206_100_45, List.forall_mem_cons.mpr ⟨pf_206_103_46, List.forall_mem_cons.mpr ⟨pf_206_106_47, List.forall_mem_cons.mpr ⟨pf_206_109_48, List.forall_mem_cons.mpr ⟨pf_206_112_50, List.forall_mem_cons.mpr ⟨pf_206_115_51, List.forall_mem_cons.mpr ⟨pf_206_13_9, List.forall_mem_cons.mpr ⟨pf_206_17_10, List.forall_mem_cons.mpr ⟨pf_206_20_11, List.forall_mem_cons.mpr ⟨pf_206_23_12, List.forall_mem_cons.mpr ⟨pf_206_28_13, List.forall_mem_cons.mpr ⟨pf_206_31_14, List.forall_mem_cons.mpr ⟨pf_206_34_15, List.forall_mem_cons.mpr ⟨pf_206_37_16, List.forall_mem_cons.mpr ⟨pf_206_40_17, List.forall_mem_cons.mpr ⟨pf_206_43_18, List.forall_mem_cons.mpr ⟨pf_206_46_19, List.forall_mem_cons.mpr ⟨pf_206_49_20, List.forall_mem_cons.mpr ⟨pf_206_52_21, List.forall_mem_cons.mpr ⟨pf_206_55_22, List.forall_mem_cons.mpr ⟨pf_206_58_23, List.forall_mem_cons.mpr ⟨pf_206_61_28, List.forall_mem_cons.mpr ⟨pf_206_64_29, List.forall_mem_cons.mpr ⟨pf_206_67_30, List.forall_mem_cons.mpr ⟨pf_206_71_31, fun _ h => absurd h List.not_mem_nil⟩⟩⟩⟩⟩⟩⟩⟩⟩⟩⟩⟩⟩⟩⟩⟩⟩⟩⟩⟩⟩⟩⟩⟩⟩⟩⟩⟩⟩⟩⟩⟩⟩⟩⟩⟩⟩⟩⟩⟩
def pT_1 : List (Nat × Nat × Nat × Nat) := [(206, 76, 12, 32), (206, 79, 12, 33), (206, 82, 12, 34), (206, 85, 12, 35), (206, 88, 12, 41), (206, 91, 12, 42), (206, 94, 12, 43), (206, 97, 12, 44), (22, 11, 1, 1), (22, 17, 1, 3), (22, 21, 1, 4), (22, 24, 1, 5), (22, 27, 1, 6), (22, 31, 1, 8), (22, 34, 1, 9), (32, 15, 2, 10), (32, 18, 2, 11), (32, 21, 2, 12), (32, 24, 2, 13), (32, 27, 2, 14), (32, 30, 2, 15), (32, 33, 2, 16), (32, 36, 2, 17), (32, 39, 2, 18), (32, 42, 2, 19), (32, 9, 2, 9), (45, 15, 3, 1), (45, 9, 3, 0), (63, 15, 4, 1), (63, 19, 4, 2), (63, 9, 4, 0), (70, 13, 5, 1), (70, 7, 5, 0), (71, 15, 6, 1), (71, 19, 6, 2), (71, 9, 6, 0), (8, 15, 0, 1), (8, 19, 0, 2), (8, 23, 0, 3), (8, 27, 0, 4)]
theorem pT_ok_1 : ∀ t ∈ pT_1, PFk t := List.forall_mem_cons.mpr ⟨pf_206_76_32, List.forall_mem_cons.mpr ⟨pf_206_79_33, List.forall_mem_cons.mpr ⟨pf_206_82_34, List.forall_mem_cons.mpr ⟨pf_206_85_35, List.forall_mem_cons.mpr ⟨pf_206_88_41, List.forall_mem_cons.mpr ⟨pf_206_91_42, List.forall_mem_cons.mpr ⟨pf_206_94_43, List.forall_mem_cons.mpr ⟨pf_206_97_44, List.forall_mem_cons.mpr ⟨pf_22_11_1, List.forall_mem_cons.mpr ⟨pf_22_17_3, List.forall_mem_cons.mpr ⟨pf_22_21_4, List.forall_mem_cons.mpr ⟨pf_22_24_5, List.forall_mem_cons.mpr ⟨pf_22_27_6, List.forall_mem_cons.mpr ⟨pf_22_31_8, List.forall_mem_cons.mpr ⟨pf_22_34_9, List.forall_mem_cons.mpr ⟨pf_32_15_10, List.forall_mem_cons.mpr ⟨pf_32_18_11, List.forall_mem_cons.mpr ⟨pf_32_21_12, List.forall_mem_cons.mpr ⟨pf_32_24_13, List.forall_mem_cons.mpr ⟨pf_32_27_14, List.forall_mem_cons.mpr ⟨pf_32_30_15, List.forall_mem_cons.mpr ⟨pf_32_33_16, List.forall_mem_cons.mpr ⟨pf_32_36_17, List.forall_mem_cons.mpr ⟨pf_32_39_18, List.forall_mem_cons.mpr ⟨pf_32_42_19, List.forall_mem_cons.mpr ⟨pf_32_9_9, List.forall_mem_cons.mpr ⟨pf_45_15_1, List.forall_mem_cons.mpr ⟨pf_45_9_0, List.forall_mem_cons.mpr ⟨pf_63_15_1, List.forall_mem_cons.mpr ⟨pf_63_19_2, List.forall_mem_cons.mpr ⟨pf_63_9_0, List.forall_mem_cons.mpr ⟨pf_70_13_1, List.forall_mem_cons.mpr ⟨pf_70_7_0, List.forall_mem_cons.mpr ⟨pf_71_15_1, List.forall_mem_cons.mpr ⟨pf_71_19_2, List.forall_mem_cons.mpr ⟨pf_71_9_0, List.forall_mem_cons.mpr ⟨pf_8_15_1, List.forall_mem_cons.mpr ⟨pf_8_19_2, List.forall_mem_cons.mpr ⟨pf_8_23_3, List.forall_mem_cons.mpr ⟨pf_8_27_4, fun _ h => absurd h List.not_mem_nil⟩⟩⟩⟩⟩⟩⟩⟩⟩⟩⟩⟩⟩⟩⟩⟩⟩⟩⟩⟩⟩⟩⟩⟩⟩⟩⟩⟩⟩⟩⟩⟩⟩⟩⟩⟩⟩⟩⟩⟩
def pT_2 : List (Nat × Nat × Nat × Nat) := [(8, 30, 0, 5), (8, 33, 0, 6), (8, 40, 0, 8), (8, 9, 0, 0), (82, 15, 7, 1), (82, 19, 7, 2), (82, 9, 7, 0), (89, 15, 8, 1), (89, 19, 8, 2), (89, 22, 8, 3), (89, 25, 8, 4), (89, 9, 8, 0), (96, 15, 9, 1), (96, 19, 9, 2), (96, 23, 9, 6), (96, 27, 9, 7), (96, 31, 9, 8), (96, 34, 9, 9), (96, 37, 9, 10), (96, 40, 9, 11), (96, 9, 9, 0)]
theorem pT_ok_2 : ∀ t ∈ pT_2, PFk t := List.forall_mem_cons.mpr ⟨pf_8_30_5, List.forall_mem_cons.mpr ⟨pf_8_33_6, List.forall_mem_cons.mpr ⟨pf_8_40_8, List.forall_mem_cons.mpr ⟨pf_8_9_0, List.forall_mem_cons.mpr ⟨pf_82_15_1, List.forall_mem_cons.mpr ⟨pf_82_19_2, List.forall_mem_cons.mpr ⟨pf_82_9_0, List.forall_mem_cons.mpr ⟨pf_89_15_1, List.forall_mem_cons.mpr ⟨pf_89_19_2, List.forall_mem_cons.mpr ⟨pf_89_22_3, List.forall_mem_cons.mpr ⟨pf_89_25_4, List.forall_mem_cons.mpr ⟨pf_89_9_0, List.forall_mem_cons.mpr ⟨pf_96_15_1, List.forall_mem_cons.mpr ⟨pf_96_19_2, List.forall_mem_cons.mpr ⟨pf_96_23_6, List.forall_mem_cons.mpr ⟨pf_96_27_7, List.forall_mem_cons.mpr ⟨pf_96_31_8, List.forall_mem_cons.mpr ⟨pf_96_34_9, List.forall_mem_cons.mpr ⟨pf_96_37_10, List.forall_mem_cons.mpr ⟨pf_96_40_11, List.forall_mem_cons.mpr ⟨pf_96_9_0, fun _ h => absurd h List.not_mem_nil⟩⟩⟩⟩⟩⟩⟩⟩⟩⟩⟩⟩⟩⟩⟩⟩⟩⟩⟩⟩⟩
def pT : List (Nat × Nat × Nat × Nat) := pT_0 ++ (pT_1 ++ (pT_2))
theorem pT_ok : ∀ t ∈ pT, PFk t := List.forall_mem_append.mpr ⟨pT_ok_0, List.forall_mem_append.mpr ⟨pT_ok_1, pT_ok_2⟩⟩
def MOk (t : Nat × Nat × Nat) : Prop := Cond.methodLink (ownS t.1) t.2.1 (yM t.2.2) ∈ Tb
def NOk (t : Nat × Nat × Nat) : Prop := ∃ host, Cond.methodLinkNest (ownS t.1) t.2.1 (yM t.2.2) host ∈ Tb
theorem mo_0_43_12 : MOk (0, 43, 12) := tg (tin_5 (i := 74) rfl) rfl
theorem mo_0_53_13 : MOk (0, 53, 13) := tg (tin_5 (i := 107) rfl) rfl
theorem mo_0_66_39 : MOk (0, 66, 39) := tg (tin_5 (i := 78) rfl) rfl
theorem mo_0_70_37 : MOk (0, 70, 37) := tg (tin_5 (i := 84) rfl) rfl
theorem mo_0_81_14 : MOk (0, 81, 14) := tg (tin_5 (i := 112) rfl) rfl
theorem mo_0_85_15 : MOk (0, 85, 15) := tg (tin_5 (i := 116) rfl) rfl
theorem mo_0_94_40 : MOk (0, 94, 40) := tg (tin_5 (i := 131) rfl) rfl
theorem mo_0_97_25 : MOk (0, 97, 25) := tg (tin_7 (i := 135) rfl) rfl
theorem mo_0_101_16 : MOk (0, 101, 16) := tg (tin_5 (i := 147) rfl) rfl
theorem mo_0_104_10 : MOk (0, 104, 10) := tg (tin_5 (i := 152) rfl) rfl
theorem mo_0_107_11 : MOk (0, 107, 11) := tg (tin_5 (i := 153) rfl) rfl
theorem mo_0_110_18 : MOk (0, 110, 18) := tg (tin_5 (i := 143) rfl) rfl
theorem mo_0_114_19 : MOk (0, 114, 19) := tg (tin_5 (i := 148) rfl) rfl
theorem mo_0_118_204 : NOk (0, 118, 204) := ⟨"BitWells", tx (tin_5 (i := 154) rfl) rfl⟩
theorem mo_1_47_3 : MOk (1, 47, 3) := tg (tin_4 (i := 133) rfl) rfl
theorem mo_1_59_204 : NOk (1, 59, 204) := ⟨"BitWells", tx (tin_3 (i := 59) rfl) rfl⟩
theorem mo_2_74_3 : MOk (2, 74, 3) := tg (tin_3 (i := 197) rfl) rfl
theorem mo_2_92_37 : MOk (2, 92, 37) := tg (tin_7 (i := 68) rfl) rfl
theorem mo_2_96_42 : MOk (2, 96, 42) := tg (tin_3 (i := 217) rfl) rfl
theorem mo_2_100_44 : MOk (2, 100, 44) := tg (tin_3 (i := 221) rfl) rfl
theorem mo_2_103_41 : MOk (2, 103, 41) := tg (tin_3 (i := 225) rfl) rfl
theorem mo_3_19_33 : MOk (3, 19, 33) := tg (tin_3 (i := 193) rfl) rfl
theorem mo_3_30_47 : MOk (3, 30, 47) := tg (tin_3 (i := 200) rfl) rfl
theorem mo_3_34_48 : MOk (3, 34, 48) := tg (tin_3 (i := 229) rfl) rfl
theorem mo_3_38_35 : MOk (3, 38, 35) := tg (tin_3 (i := 204) rfl) rfl
theorem mo_3_47_121 : MOk (3, 47, 121) := tg (tin_3 (i := 209) rfl) rfl
theorem mo_3_50_43 : MOk (3, 50, 43) := tg (tin_3 (i := 213) rfl) rfl
theorem mo_3_53_49 : MOk (3, 53, 49) := tg (tin_3 (i := 233) rfl) rfl
theorem mo_3_56_50 : MOk (3, 56, 50) := tg (tin_4 (i := 58) rfl) rfl
theorem mo_3_60_120 : MOk (3, 60, 120) := tg (tin_4 (i := 62) rfl) rfl
theorem mo_3_63_51 : MOk (3, 63, 51) := tg (tin_4 (i := 63) rfl) rfl
theorem mo_3_66_123 : MOk (3, 66, 123) := tg (tin_4 (i := 120) rfl) rfl
theorem mo_3_72_122 : MOk (3, 72, 122) := tg (tin_3 (i := 238) rfl) rfl
theorem mo_3_101_54 : MOk (3, 101, 54) := tg (tin_4 (i := 67) rfl) rfl
theorem mo_3_104_56 : MOk (3, 104, 56) := tg (tin_4 (i := 79) rfl) rfl
theorem mo_3_107_57 : MOk (3, 107, 57) := tg (tin_4 (i := 88) rfl) rfl
theorem mo_3_110_59 : MOk (3, 110, 59) := tg (tin_4 (i := 100) rfl) rfl
theorem mo_3_113_60 : MOk (3, 113, 60) := tg (tin_4 (i := 104) rfl) rfl
theorem mo_3_116_61 : MOk (3, 116, 61) := tg (tin_4 (i := 108) rfl) rfl
theorem mo_3_119_62 : MOk (3, 119, 62) := tg (tin_4 (i := 112) rfl) rfl
theorem mo_3_122_55 : MOk (3, 122, 55) := tg (tin_4 (i := 116) rfl) rfl
theorem mo_3_125_125 : MOk (3, 125, 125) := tg (tin_4 (i := 75) rfl) rfl
theorem mo_3_129_52 : MOk (3, 129, 52) := tg (tin_4 (i := 71) rfl) rfl
theorem mo_3_135_53 : MOk (3, 135, 53) := tg (tin_4 (i := 83) rfl) rfl
theorem mo_3_138_42 : MOk (3, 138, 42) := tg (tin_4 (i := 87) rfl) rfl
theorem mo_3_142_58 : MOk (3, 142, 58) := tg (tin_4 (i := 92) rfl) rfl
theorem mo_3_152_124 : MOk (3, 152, 124) := tg (tin_4 (i := 96) rfl) rfl
theorem mo_4_23_65 : MOk (4, 23, 65) := tg (tin_6 (i := 234) rfl) rfl
theorem mo_4_33_4 : MOk (4, 33, 4) := tg (tin_6 (i := 238) rfl) rfl
theorem mo_4_39_66 : MOk (4, 39, 66) := tg (tin_6 (i := 239) rfl) rfl
theorem mo_4_48_37 : MOk (4, 48, 37) := tg (tin_7 (i := 3) rfl) rfl
theorem mo_4_52_64 : MOk (4, 52, 64) := tg (tin_6 (i := 230) rfl) rfl
theorem mo_4_55_68 : MOk (4, 55, 68) := tg (tin_7 (i := 4) rfl) rfl
theorem mo_4_58_67 : MOk (4, 58, 67) := tg (tin_7 (i := 20) rfl) rfl
theorem mo_6_27_74 : MOk (6, 27, 74) := tg (tin_4 (i := 153) rfl) rfl
theorem mo_6_36_121 : MOk (6, 36, 121) := tg (tin_4 (i := 185) rfl) rfl
theorem mo_6_47_70 : MOk (6, 47, 70) := tg (tin_4 (i := 224) rfl) rfl
theorem mo_6_50_75 : MOk (6, 50, 75) := tg (tin_4 (i := 157) rfl) rfl
theorem mo_6_55_122 : MOk (6, 55, 122) := tg (tin_4 (i := 182) rfl) rfl
theorem mo_6_59_120 : MOk (6, 59, 120) := tg (tin_4 (i := 175) rfl) rfl
theorem mo_6_62_73 : MOk (6, 62, 73) := tg (tin_4 (i := 171) rfl) rfl
theorem mo_6_66_76 : MOk (6, 66, 76) := tg (tin_4 (i := 161) rfl) rfl
theorem mo_6_76_124 : MOk (6, 76, 124) := tg (tin_4 (i := 165) rfl) rfl
theorem mo_6_79_2 : MOk (6, 79, 2) := tg (tin_4 (i := 166) rfl) rfl
theorem mo_6_84_1 : MOk (6, 84, 1) := tg (tin_4 (i := 167) rfl) rfl
theorem mo_6_87_77 : MOk (6, 87, 77) := tg (tin_4 (i := 176) rfl) rfl
theorem mo_6_91_78 : MOk (6, 91, 78) := tg (tin_4 (i := 186) rfl) rfl
theorem mo_6_94_79 : MOk (6, 94, 79) := tg (tin_4 (i := 190) rfl) rfl
theorem mo_6_97_80 : MOk (6, 97, 80) := tg (tin_4 (i := 194) rfl) rfl
theorem mo_6_100_81 : MOk (6, 100, 81) := tg (tin_4 (i := 199) rfl) rfl
theorem mo_6_103_123 : MOk (6, 103, 123) := tg (tin_4 (i := 180) rfl) rfl
theorem mo_6_118_125 : MOk (6, 118, 125) := tg (tin_4 (i := 203) rfl) rfl
theorem mo_6_122_40 : MOk (6, 122, 40) := tg (tin_4 (i := 204) rfl) rfl
theorem mo_7_27_10 : MOk (7, 27, 10) := tg (tin_6 (i := 128) rfl) rfl
theorem mo_7_33_205 : NOk (7, 33, 205) := ⟨"BitWells", tx (tin_6 (i := 129) rfl) rfl⟩
theorem mo_7_37_84 : MOk (7, 37, 84) := tg (tin_6 (i := 130) rfl) rfl
theorem mo_7_46_85 : MOk (7, 46, 85) := tg (tin_6 (i := 134) rfl) rfl
theorem mo_7_50_86 : MOk (7, 50, 86) := tg (tin_6 (i := 139) rfl) rfl
theorem mo_7_54_87 : MOk (7, 54, 87) := tg (tin_6 (i := 146) rfl) rfl
theorem mo_7_61_41 : MOk (7, 61, 41) := tg (tin_6 (i := 138) rfl) rfl
theorem mo_7_65_25 : MOk (7, 65, 25) := tg (tin_6 (i := 143) rfl) rfl
theorem mo_7_71_18 : MOk (7, 71, 18) := tg (tin_6 (i := 144) rfl) rfl
theorem mo_7_75_19 : MOk (7, 75, 19) := tg (tin_6 (i := 145) rfl) rfl
theorem mo_7_81_88 : MOk (7, 81, 88) := tg (tin_6 (i := 151) rfl) rfl
theorem mo_7_84_4 : MOk (7, 84, 4) := tg (tin_6 (i := 155) rfl) rfl
theorem mo_8_28_92 : MOk (8, 28, 92) := tg (tin_6 (i := 186) rfl) rfl
theorem mo_8_32_93 : MOk (8, 32, 93) := tg (tin_6 (i := 191) rfl) rfl
theorem mo_8_42_95 : MOk (8, 42, 95) := tg (tin_6 (i := 203) rfl) rfl
theorem mo_8_55_41 : MOk (8, 55, 41) := tg (tin_6 (i := 190) rfl) rfl
theorem mo_8_60_3 : MOk (8, 60, 3) := tg (tin_6 (i := 196) rfl) rfl
theorem mo_8_66_94 : MOk (8, 66, 94) := tg (tin_6 (i := 197) rfl) rfl
theorem mo_8_70_5 : MOk (8, 70, 5) := tg (tin_6 (i := 201) rfl) rfl
theorem mo_8_75_4 : MOk (8, 75, 4) := tg (tin_6 (i := 207) rfl) rfl
theorem mo_9_55_25 : MOk (9, 55, 25) := tg (tin_5 (i := 237) rfl) rfl
theorem mo_9_61_98 : MOk (9, 61, 98) := tg (tin_6 (i := 1) rfl) rfl
theorem mo_9_65_18 : MOk (9, 65, 18) := tg (tin_6 (i := 5) rfl) rfl
theorem mo_9_71_7 : MOk (9, 71, 7) := tg (tin_6 (i := 6) rfl) rfl
theorem mo_9_77_19 : MOk (9, 77, 19) := tg (tin_6 (i := 7) rfl) rfl
theorem mo_9_83_4 : MOk (9, 83, 4) := tg (tin_6 (i := 9) rfl) rfl
theorem mo_9_89_10 : MOk (9, 89, 10) := tg (tin_6 (i := 22) rfl) rfl
theorem mo_9_93_205 : NOk (9, 93, 205) := ⟨"BitWells", tx (tin_6 (i := 23) rfl) rfl⟩
theorem mo_9_101_102 : MOk (9, 101, 102) := tg (tin_6 (i := 34) rfl) rfl
theorem mo_9_105_101 : MOk (9, 105, 101) := tg (tin_6 (i := 38) rfl) rfl
theorem mo_9_109_3 : MOk (9, 109, 3) := tg (tin_6 (i := 21) rfl) rfl
theorem mo_9_115_112 : MOk (9, 115, 112) := tg (tin_6 (i := 26) rfl) rfl
theorem mo_9_119_104 : MOk (9, 119, 104) := tg (tin_6 (i := 54) rfl) rfl
theorem mo_9_122_105 : MOk (9, 122, 105) := tg (tin_6 (i := 58) rfl) rfl
theorem mo_9_125_107 : MOk (9, 125, 107) := tg (tin_6 (i := 66) rfl) rfl
theorem mo_9_129_106 : MOk (9, 129, 106) := tg (tin_6 (i := 62) rfl) rfl
theorem mo_9_132_108 : MOk (9, 132, 108) := tg (tin_6 (i := 70) rfl) rfl
theorem mo_9_136_204 : NOk (9, 136, 204) := ⟨"BitWells", tx (tin_6 (i := 42) rfl) rfl⟩
theorem mo_9_140_100 : MOk (9, 140, 100) := tg (tin_6 (i := 30) rfl) rfl
theorem mo_9_143_110 : MOk (9, 143, 110) := tg (tin_6 (i := 43) rfl) rfl
theorem mo_9_147_111 : MOk (9, 147, 111) := tg (tin_6 (i := 47) rfl) rfl
theorem mo_9_151_6 : MOk (9, 151, 6) := tg (tin_6 (i := 50) rfl) rfl
theorem mo_9_154_114 : MOk (9, 154, 114) := tg (tin_7 (i := 87) rfl) rfl
theorem mo_9_160_2 : MOk (9, 160, 2) := tg (tin_6 (i := 108) rfl) rfl
theorem mo_9_165_116 : MOk (9, 165, 116) := tg (tin_6 (i := 109) rfl) rfl
theorem mo_9_168_117 : MOk (9, 168, 117) := tg (tin_6 (i := 113) rfl) rfl
theorem mo_10_19_5 : MOk (10, 19, 5) := tg (tin_3 (i := 183) rfl) rfl
theorem mo_10_34_120 : MOk (10, 34, 120) := tg (tin_3 (i := 184) rfl) rfl
theorem mo_11_11_118 : MOk (11, 11, 118) := tg (tin_1 (i := 39) rfl) rfl
theorem mo_11_16_32 : MOk (11, 16, 32) := tg (tin_1 (i := 75) rfl) rfl
theorem mo_11_19_22 : MOk (11, 19, 22) := tg (tin_1 (i := 185) rfl) rfl
theorem mo_11_22_8 : MOk (11, 22, 8) := tg (tin_1 (i := 236) rfl) rfl
theorem mo_11_46_45 : MOk (11, 46, 45) := tg (tin_2 (i := 30) rfl) rfl
theorem mo_11_55_71 : MOk (11, 55, 71) := tg (tin_2 (i := 43) rfl) rfl
theorem mo_11_74_96 : MOk (11, 74, 96) := tg (tin_2 (i := 63) rfl) rfl
theorem mo_11_83_82 : MOk (11, 83, 82) := tg (tin_2 (i := 108) rfl) rfl
theorem mo_11_90_89 : MOk (11, 90, 89) := tg (tin_2 (i := 128) rfl) rfl
theorem mo_11_99_63 : MOk (11, 99, 63) := tg (tin_2 (i := 150) rfl) rfl
theorem mo_11_111_128 : MOk (11, 111, 128) := tg (tin_2 (i := 226) rfl) rfl
theorem mo_11_115_203 : MOk (11, 115, 203) := tg (tin_3 (i := 105) rfl) rfl
theorem mo_11_119_133 : MOk (11, 119, 133) := tg (tin_3 (i := 175) rfl) rfl
theorem mo_11_122_46 : MOk (11, 122, 46) := tg (tin_3 (i := 189) rfl) rfl
theorem mo_11_130_34 : MOk (11, 130, 34) := tg (tin_4 (i := 124) rfl) rfl
theorem mo_11_136_23 : MOk (11, 136, 23) := tg (tin_4 (i := 129) rfl) rfl
theorem mo_11_142_9 : MOk (11, 142, 9) := tg (tin_3 (i := 85) rfl) rfl
theorem mo_11_148_198 : MOk (11, 148, 198) := tg (tin_4 (i := 141) rfl) rfl
theorem mo_11_151_132 : MOk (11, 151, 132) := tg (tin_4 (i := 145) rfl) rfl
theorem mo_11_155_72 : MOk (11, 155, 72) := tg (tin_4 (i := 149) rfl) rfl
theorem mo_11_162_119 : MOk (11, 162, 119) := tg (tin_3 (i := 179) rfl) rfl
theorem mo_11_186_194 : MOk (11, 186, 194) := tg (tin_5 (i := 19) rfl) rfl
theorem mo_11_207_195 : MOk (11, 207, 195) := tg (tin_5 (i := 50) rfl) rfl
theorem mo_11_210_41 : MOk (11, 210, 41) := tg (tin_5 (i := 54) rfl) rfl
theorem mo_11_213_196 : MOk (11, 213, 196) := tg (tin_5 (i := 62) rfl) rfl
theorem mo_11_216_197 : MOk (11, 216, 197) := tg (tin_5 (i := 66) rfl) rfl
theorem mo_11_219_11 : MOk (11, 219, 11) := tg (tin_5 (i := 70) rfl) rfl
theorem mo_11_223_204 : MOk (11, 223, 204) := tg (tin_3 (i := 52) rfl) rfl
theorem mo_11_227_37 : MOk (11, 227, 37) := tg (tin_5 (i := 95) rfl) rfl
theorem mo_11_231_10 : MOk (11, 231, 10) := tg (tin_5 (i := 103) rfl) rfl
theorem mo_11_234_16 : MOk (11, 234, 16) := tg (tin_5 (i := 127) rfl) rfl
theorem mo_11_237_21 : MOk (11, 237, 21) := tg (tin_5 (i := 139) rfl) rfl
theorem mo_11_241_26 : MOk (11, 241, 26) := tg (tin_5 (i := 162) rfl) rfl
theorem mo_11_244_20 : MOk (11, 244, 20) := tg (tin_5 (i := 166) rfl) rfl
theorem mo_11_248_27 : MOk (11, 248, 27) := tg (tin_5 (i := 170) rfl) rfl
theorem mo_11_252_149 : MOk (11, 252, 149) := tg (tin_2 (i := 238) rfl) rfl
theorem mo_11_256_7 : MOk (11, 256, 7) := tg (tin_3 (i := 10) rfl) rfl
theorem mo_11_262_148 : MOk (11, 262, 148) := tg (tin_5 (i := 181) rfl) rfl
theorem mo_11_265_36 : MOk (11, 265, 36) := tg (tin_5 (i := 193) rfl) rfl
theorem mo_11_275_29 : MOk (11, 275, 29) := tg (tin_3 (i := 2) rfl) rfl
theorem mo_11_288_4 : MOk (11, 288, 4) := tg (tin_3 (i := 20) rfl) rfl
theorem mo_11_293_5 : MOk (11, 293, 5) := tg (tin_3 (i := 23) rfl) rfl
theorem mo_11_296_2 : MOk (11, 296, 2) := tg (tin_3 (i := 34) rfl) rfl
theorem mo_11_301_30 : MOk (11, 301, 30) := tg (tin_3 (i := 40) rfl) rfl
theorem mo_11_305_28 : MOk (11, 305, 28) := tg (tin_5 (i := 211) rfl) rfl
theorem mo_11_309_201 : MOk (11, 309, 201) := tg (tin_5 (i := 222) rfl) rfl
theorem mo_11_312_158 : MOk (11, 312, 158) := tg (tin_3 (i := 48) rfl) rfl
theorem mo_11_319_31 : MOk (11, 319, 31) := tg (tin_3 (i := 55) rfl) rfl
theorem mo_11_322_159 : MOk (11, 322, 159) := tg (tin_3 (i := 60) rfl) rfl
theorem mo_11_325_0 : MOk (11, 325, 0) := tg (tin_3 (i := 63) rfl) rfl
theorem mo_11_328_97 : MOk (11, 328, 97) := tg (tin_5 (i := 233) rfl) rfl
theorem mo_11_338_103 : MOk (11, 338, 103) := tg (tin_6 (i := 17) rfl) rfl
theorem mo_11_342_109 : MOk (11, 342, 109) := tg (tin_6 (i := 74) rfl) rfl
theorem mo_11_346_99 : MOk (11, 346, 99) := tg (tin_6 (i := 85) rfl) rfl
theorem mo_11_350_112 : MOk (11, 350, 112) := tg (tin_6 (i := 96) rfl) rfl
theorem mo_11_353_115 : MOk (11, 353, 115) := tg (tin_6 (i := 104) rfl) rfl
theorem mo_11_356_113 : MOk (11, 356, 113) := tg (tin_7 (i := 83) rfl) rfl
theorem mo_11_359_83 : MOk (11, 359, 83) := tg (tin_6 (i := 124) rfl) rfl
theorem mo_11_365_25 : MOk (11, 365, 25) := tg (tin_6 (i := 163) rfl) rfl
theorem mo_11_369_170 : MOk (11, 369, 170) := tg (tin_7 (i := 150) rfl) rfl
theorem mo_11_372_200 : MOk (11, 372, 200) := tg (tin_6 (i := 178) rfl) rfl
theorem mo_11_375_90 : MOk (11, 375, 90) := tg (tin_6 (i := 182) rfl) rfl
theorem mo_11_379_91 : MOk (11, 379, 91) := tg (tin_7 (i := 105) rfl) rfl
theorem mo_11_382_199 : MOk (11, 382, 199) := tg (tin_6 (i := 215) rfl) rfl
theorem mo_11_388_67 : MOk (11, 388, 67) := tg (tin_6 (i := 226) rfl) rfl
theorem mo_11_391_64 : MOk (11, 391, 64) := tg (tin_7 (i := 15) rfl) rfl
theorem mo_11_394_69 : MOk (11, 394, 69) := tg (tin_7 (i := 16) rfl) rfl
theorem mo_11_397_178 : MOk (11, 397, 178) := tg (tin_7 (i := 28) rfl) rfl
theorem mo_11_400_179 : MOk (11, 400, 179) := tg (tin_7 (i := 32) rfl) rfl
theorem mo_11_404_182 : MOk (11, 404, 182) := tg (tin_7 (i := 50) rfl) rfl
theorem mo_11_407_183 : MOk (11, 407, 183) := tg (tin_7 (i := 54) rfl) rfl
theorem mo_11_410_38 : MOk (11, 410, 38) := tg (tin_7 (i := 64) rfl) rfl
theorem mo_11_414_39 : MOk (11, 414, 39) := tg (tin_7 (i := 116) rfl) rfl
theorem mo_11_417_17 : MOk (11, 417, 17) := tg (tin_7 (i := 131) rfl) rfl
theorem mo_11_420_24 : MOk (11, 420, 24) := tg (tin_3 (i := 74) rfl) rfl
theorem mo_11_429_202 : MOk (11, 429, 202) := tg (tin_5 (i := 23) rfl) rfl
theorem mo_12_119_207 : MOk (12, 119, 207) := tg (tin_7 (i := 163) rfl) rfl
theorem mo_12_122_233 : MOk (12, 122, 233) := tg (tin_7 (i := 167) rfl) rfl
theorem mo_12_137_212 : MOk (12, 137, 212) := tg (tin_8 (i := 116) rfl) rfl
theorem mo_12_147_213 : MOk (12, 147, 213) := tg (tin_8 (i := 112) rfl) rfl
theorem mo_12_150_215 : MOk (12, 150, 215) := tg (tin_8 (i := 158) rfl) rfl
theorem mo_12_154_214 : MOk (12, 154, 214) := tg (tin_8 (i := 142) rfl) rfl
theorem mo_12_159_210 : MOk (12, 159, 210) := tg (tin_8 (i := 101) rfl) rfl
theorem mo_12_163_217 : MOk (12, 163, 217) := tg (tin_8 (i := 154) rfl) rfl
theorem mo_12_167_216 : MOk (12, 167, 216) := tg (tin_8 (i := 136) rfl) rfl
theorem mo_12_170_219 : MOk (12, 170, 219) := tg (tin_8 (i := 132) rfl) rfl
theorem mo_12_174_220 : MOk (12, 174, 220) := tg (tin_8 (i := 139) rfl) rfl
theorem mo_12_178_221 : MOk (12, 178, 221) := tg (tin_8 (i := 128) rfl) rfl
theorem mo_12_182_222 : MOk (12, 182, 222) := tg (tin_8 (i := 150) rfl) rfl
theorem mo_12_191_226 : MOk (12, 191, 226) := tg (tin_8 (i := 124) rfl) rfl
theorem mo_12_194_227 : MOk (12, 194, 227) := tg (tin_8 (i := 146) rfl) rfl
theorem mo_12_197_230 : MOk (12, 197, 230) := tg (tin_8 (i := 162) rfl) rfl
theorem mo_12_201_228 : MOk (12, 201, 228) := tg (tin_8 (i := 166) rfl) rfl
theorem mo_12_204_218 : MOk (12, 204, 218) := tg (tin_8 (i := 170) rfl) rfl
theorem mo_12_207_224 : MOk (12, 207, 224) := tg (tin_8 (i := 174) rfl) rfl
theorem mo_12_211_209 : MOk (12, 211, 209) := tg (tin_8 (i := 104) rfl) rfl
theorem mo_12_215_225 : MOk (12, 215, 225) := tg (tin_8 (i := 108) rfl) rfl
theorem mo_12_218_229 : MOk (12, 218, 229) := tg (tin_8 (i := 120) rfl) rfl
theorem mo_12_221_231 : MOk (12, 221, 231) := tg (tin_8 (i := 178) rfl) rfl
theorem mo_12_234_237 : MOk (12, 234, 237) := tg (tin_8 (i := 196) rfl) rfl
theorem mo_12_237_223 : MOk (12, 237, 223) := tg (tin_8 (i := 212) rfl) rfl
theorem mo_12_240_234 : MOk (12, 240, 234) := tg (tin_8 (i := 208) rfl) rfl
theorem mo_12_243_238 : MOk (12, 243, 238) := tg (tin_8 (i := 200) rfl) rfl
theorem mo_12_246_235 : MOk (12, 246, 235) := tg (tin_8 (i := 204) rfl) rfl
theorem mo_12_250_236 : MOk (12, 250, 236) := tg (tin_8 (i := 192) rfl) rfl
theorem mo_12_253_239 : MOk (12, 253, 239) := tg (tin_8 (i := 216) rfl) rfl
theorem mo_12_256_240 : MOk (12, 256, 240) := tg (tin_8 (i := 220) rfl) rfl
theorem mo_12_259_242 : MOk (12, 259, 242) := tg (tin_8 (i := 185) rfl) rfl
theorem mo_12_262_241 : MOk (12, 262, 241) := tg (tin_8 (i := 188) rfl) rfl
theorem mo_12_265_247 : MOk (12, 265, 247) := tg (tin_9 (i := 0) rfl) rfl
theorem mo_12_268_248 : MOk (12, 268, 248) := tg (tin_9 (i := 8) rfl) rfl
theorem mo_12_271_254 : MOk (12, 271, 254) := tg (tin_9 (i := 31) rfl) rfl
theorem mo_12_275_253 : MOk (12, 275, 253) := tg (tin_9 (i := 23) rfl) rfl
theorem mo_12_278_256 : MOk (12, 278, 256) := tg (tin_9 (i := 51) rfl) rfl
theorem mo_12_281_255 : MOk (12, 281, 255) := tg (tin_9 (i := 43) rfl) rfl
theorem mo_12_284_249 : MOk (12, 284, 249) := tg (tin_9 (i := 16) rfl) rfl
theorem mo_12_287_250 : MOk (12, 287, 250) := tg (tin_9 (i := 19) rfl) rfl
theorem mo_12_290_260 : MOk (12, 290, 260) := tg (tin_9 (i := 39) rfl) rfl
theorem mo_12_294_257 : MOk (12, 294, 257) := tg (tin_9 (i := 59) rfl) rfl
theorem mo_12_300_264 : MOk (12, 300, 264) := tg (tin_9 (i := 67) rfl) rfl
theorem mo_12_304_265 : MOk (12, 304, 265) := tg (tin_9 (i := 83) rfl) rfl
theorem mo_12_308_268 : MOk (12, 308, 268) := tg (tin_9 (i := 79) rfl) rfl
theorem mo_12_311_269 : MOk (12, 311, 269) := tg (tin_9 (i := 75) rfl) rfl
theorem mo_12_314_266 : MOk (12, 314, 266) := tg (tin_9 (i := 92) rfl) rfl
theorem mo_12_318_272 : MOk (12, 318, 272) := tg (tin_9 (i := 99) rfl) rfl
theorem mo_12_322_279 : MOk (12, 322, 279) := tg (tin_9 (i := 127) rfl) rfl
theorem mo_12_325_283 : MOk (12, 325, 283) := tg (tin_9 (i := 143) rfl) rfl
theorem mo_12_328_284 : MOk (12, 328, 284) := tg (tin_9 (i := 147) rfl) rfl
theorem mo_12_339_286 : MOk (12, 339, 286) := tg (tin_9 (i := 159) rfl) rfl
theorem mo_12_345_287 : MOk (12, 345, 287) := tg (tin_9 (i := 155) rfl) rfl
theorem mo_12_349_290 : MOk (12, 349, 290) := tg (tin_9 (i := 171) rfl) rfl
theorem mo_12_352_292 : MOk (12, 352, 292) := tg (tin_9 (i := 179) rfl) rfl
theorem mo_12_359_295 : MOk (12, 359, 295) := tg (tin_9 (i := 191) rfl) rfl
theorem mo_12_363_294 : MOk (12, 363, 294) := tg (tin_9 (i := 195) rfl) rfl
theorem mo_12_367_296 : MOk (12, 367, 296) := tg (tin_9 (i := 187) rfl) rfl
theorem mo_12_374_301 : MOk (12, 374, 301) := tg (tin_9 (i := 215) rfl) rfl
theorem mo_12_377_300 : MOk (12, 377, 300) := tg (tin_9 (i := 211) rfl) rfl
theorem mo_12_383_304 : MOk (12, 383, 304) := tg (tin_9 (i := 231) rfl) rfl
theorem mo_12_387_305 : MOk (12, 387, 305) := tg (tin_9 (i := 227) rfl) rfl
theorem mo_12_390_308 : MOk (12, 390, 308) := tg (tin_10 (i := 3) rfl) rfl
theorem mo_12_394_311 : MOk (12, 394, 311) := tg (tin_10 (i := 15) rfl) rfl
theorem mo_12_397_315 : MOk (12, 397, 315) := tg (tin_10 (i := 32) rfl) rfl
theorem mo_12_401_326 : MOk (12, 401, 326) := tg (tin_10 (i := 80) rfl) rfl
theorem mo_12_408_325 : MOk (12, 408, 325) := tg (tin_10 (i := 76) rfl) rfl
theorem mo_12_412_327 : MOk (12, 412, 327) := tg (tin_10 (i := 72) rfl) rfl
theorem mo_16_311_1 : MOk (16, 311, 1) := tg (tin_6 (i := 53) rfl) rfl
theorem mo_17_7_129 : MOk (17, 7, 129) := tg (tin_3 (i := 101) rfl) rfl
theorem mo_17_15_130 : MOk (17, 15, 130) := tg (tin_4 (i := 137) rfl) rfl
theorem mo_17_19_131 : MOk (17, 19, 131) := tg (tin_5 (i := 0) rfl) rfl
theorem mo_17_22_135 : MOk (17, 22, 135) := tg (tin_5 (i := 7) rfl) rfl
theorem mo_17_25_136 : MOk (17, 25, 136) := tg (tin_5 (i := 15) rfl) rfl
theorem mo_17_30_137 : MOk (17, 30, 137) := tg (tin_5 (i := 46) rfl) rfl
theorem mo_17_33_138 : MOk (17, 33, 138) := tg (tin_5 (i := 58) rfl) rfl
theorem mo_17_37_139 : MOk (17, 37, 139) := tg (tin_5 (i := 91) rfl) rfl
theorem mo_17_41_140 : MOk (17, 41, 140) := tg (tin_5 (i := 99) rfl) rfl
theorem mo_17_45_141 : MOk (17, 45, 141) := tg (tin_5 (i := 123) rfl) rfl
theorem mo_17_48_142 : MOk (17, 48, 142) := tg (tin_5 (i := 135) rfl) rfl
theorem mo_17_52_143 : MOk (17, 52, 143) := tg (tin_5 (i := 158) rfl) rfl
theorem mo_17_56_146 : MOk (17, 56, 146) := tg (tin_5 (i := 177) rfl) rfl
theorem mo_17_59_147 : MOk (17, 59, 147) := tg (tin_5 (i := 189) rfl) rfl
theorem mo_17_62_150 : MOk (17, 62, 150) := tg (tin_5 (i := 200) rfl) rfl
theorem mo_17_65_154 : MOk (17, 65, 154) := tg (tin_5 (i := 207) rfl) rfl
theorem mo_17_68_155 : MOk (17, 68, 155) := tg (tin_5 (i := 218) rfl) rfl
theorem mo_17_71_160 : MOk (17, 71, 160) := tg (tin_5 (i := 229) rfl) rfl
theorem mo_17_74_161 : MOk (17, 74, 161) := tg (tin_6 (i := 13) rfl) rfl
theorem mo_17_77_162 : MOk (17, 77, 162) := tg (tin_6 (i := 81) rfl) rfl
theorem mo_17_80_163 : MOk (17, 80, 163) := tg (tin_6 (i := 92) rfl) rfl
theorem mo_17_83_164 : MOk (17, 83, 164) := tg (tin_6 (i := 100) rfl) rfl
theorem mo_17_86_166 : MOk (17, 86, 166) := tg (tin_6 (i := 120) rfl) rfl
theorem mo_17_89_167 : MOk (17, 89, 167) := tg (tin_6 (i := 159) rfl) rfl
theorem mo_17_92_168 : MOk (17, 92, 168) := tg (tin_6 (i := 167) rfl) rfl
theorem mo_17_95_171 : MOk (17, 95, 171) := tg (tin_6 (i := 174) rfl) rfl
theorem mo_17_98_173 : MOk (17, 98, 173) := tg (tin_6 (i := 211) rfl) rfl
theorem mo_17_101_174 : MOk (17, 101, 174) := tg (tin_6 (i := 222) rfl) rfl
theorem mo_17_104_175 : MOk (17, 104, 175) := tg (tin_7 (i := 11) rfl) rfl
theorem mo_17_107_176 : MOk (17, 107, 176) := tg (tin_7 (i := 24) rfl) rfl
theorem mo_17_110_177 : MOk (17, 110, 177) := tg (tin_7 (i := 39) rfl) rfl
theorem mo_17_113_180 : MOk (17, 113, 180) := tg (tin_7 (i := 46) rfl) rfl
theorem mo_17_116_181 : MOk (17, 116, 181) := tg (tin_7 (i := 60) rfl) rfl
theorem mo_17_119_189 : MOk (17, 119, 189) := tg (tin_7 (i := 72) rfl) rfl
theorem mo_17_122_165 : MOk (17, 122, 165) := tg (tin_7 (i := 79) rfl) rfl
theorem mo_17_125_184 : MOk (17, 125, 184) := tg (tin_7 (i := 94) rfl) rfl
theorem mo_17_128_172 : MOk (17, 128, 172) := tg (tin_7 (i := 101) rfl) rfl
theorem mo_17_131_185 : MOk (17, 131, 185) := tg (tin_7 (i := 112) rfl) rfl
theorem mo_17_134_186 : MOk (17, 134, 186) := tg (tin_7 (i := 120) rfl) rfl
theorem mo_17_137_187 : MOk (17, 137, 187) := tg (tin_7 (i := 127) rfl) rfl
theorem mo_17_140_188 : MOk (17, 140, 188) := tg (tin_7 (i := 139) rfl) rfl
theorem mo_17_143_169 : MOk (17, 143, 169) := tg (tin_7 (i := 146) rfl) rfl
theorem mo_17_146_126 : MOk (17, 146, 126) := tg (tin_1 (i := 31) rfl) rfl
theorem mo_17_149_206 : MOk (17, 149, 206) := tg (tin_7 (i := 155) rfl) rfl
theorem mo_17_150_127 : MOk (17, 150, 127) := tg (tin_2 (i := 222) rfl) rfl
theorem mo_17_154_211 : MOk (17, 154, 211) := tg (tin_8 (i := 93) rfl) rfl
theorem mo_17_155_332 : MOk (17, 155, 332) := tg (tin_3 (i := 97) rfl) rfl
theorem mo_17_160_232 : MOk (17, 160, 232) := tg (tin_8 (i := 97) rfl) rfl
theorem mo_17_161_208 : MOk (17, 161, 208) := tg (tin_8 (i := 89) rfl) rfl
theorem mo_17_165_333 : MOk (17, 165, 333) := tg (tin_4 (i := 134) rfl) rfl
theorem mo_17_168_243 : MOk (17, 168, 243) := tg (tin_8 (i := 181) rfl) rfl
theorem mo_17_169_334 : MOk (17, 169, 334) := tg (tin_4 (i := 237) rfl) rfl
theorem mo_17_171_244 : MOk (17, 171, 244) := tg (tin_8 (i := 224) rfl) rfl
theorem mo_17_172_134 : MOk (17, 172, 134) := tg (tin_2 (i := 230) rfl) rfl
theorem mo_17_175_245 : MOk (17, 175, 245) := tg (tin_8 (i := 228) rfl) rfl
theorem mo_17_176_335 : MOk (17, 176, 335) := tg (tin_5 (i := 4) rfl) rfl
theorem mo_17_178_246 : MOk (17, 178, 246) := tg (tin_8 (i := 232) rfl) rfl
theorem mo_17_179_336 : MOk (17, 179, 336) := tg (tin_5 (i := 11) rfl) rfl
theorem mo_17_181_251 : MOk (17, 181, 251) := tg (tin_8 (i := 236) rfl) rfl
theorem mo_17_182_337 : MOk (17, 182, 337) := tg (tin_5 (i := 43) rfl) rfl
theorem mo_17_184_252 : MOk (17, 184, 252) := tg (tin_9 (i := 4) rfl) rfl
theorem mo_17_185_338 : MOk (17, 185, 338) := tg (tin_5 (i := 55) rfl) rfl
theorem mo_17_188_258 : MOk (17, 188, 258) := tg (tin_9 (i := 12) rfl) rfl
theorem mo_17_189_339 : MOk (17, 189, 339) := tg (tin_5 (i := 88) rfl) rfl
theorem mo_17_191_259 : MOk (17, 191, 259) := tg (tin_9 (i := 27) rfl) rfl
theorem mo_17_192_340 : MOk (17, 192, 340) := tg (tin_5 (i := 96) rfl) rfl
theorem mo_17_194_261 : MOk (17, 194, 261) := tg (tin_9 (i := 35) rfl) rfl
theorem mo_17_195_341 : MOk (17, 195, 341) := tg (tin_5 (i := 120) rfl) rfl
theorem mo_17_197_262 : MOk (17, 197, 262) := tg (tin_9 (i := 47) rfl) rfl
theorem mo_17_198_342 : MOk (17, 198, 342) := tg (tin_5 (i := 132) rfl) rfl
theorem mo_17_201_263 : MOk (17, 201, 263) := tg (tin_9 (i := 55) rfl) rfl
theorem mo_17_202_343 : MOk (17, 202, 343) := tg (tin_5 (i := 155) rfl) rfl
theorem mo_17_204_267 : MOk (17, 204, 267) := tg (tin_9 (i := 63) rfl) rfl
theorem mo_17_205_144 : MOk (17, 205, 144) := tg (tin_2 (i := 234) rfl) rfl
theorem mo_17_209_270 : MOk (17, 209, 270) := tg (tin_9 (i := 71) rfl) rfl
theorem mo_17_210_145 : MOk (17, 210, 145) := tg (tin_3 (i := 6) rfl) rfl
theorem mo_17_213_271 : MOk (17, 213, 271) := tg (tin_9 (i := 88) rfl) rfl
theorem mo_17_214_344 : MOk (17, 214, 344) := tg (tin_5 (i := 174) rfl) rfl
theorem mo_17_216_273 : MOk (17, 216, 273) := tg (tin_9 (i := 95) rfl) rfl
theorem mo_17_217_345 : MOk (17, 217, 345) := tg (tin_5 (i := 186) rfl) rfl
theorem mo_17_219_274 : MOk (17, 219, 274) := tg (tin_9 (i := 103) rfl) rfl
theorem mo_17_220_346 : MOk (17, 220, 346) := tg (tin_5 (i := 197) rfl) rfl
theorem mo_17_222_275 : MOk (17, 222, 275) := tg (tin_9 (i := 107) rfl) rfl
theorem mo_17_223_151 : MOk (17, 223, 151) := tg (tin_3 (i := 16) rfl) rfl
theorem mo_17_226_276 : MOk (17, 226, 276) := tg (tin_9 (i := 111) rfl) rfl
theorem mo_17_227_152 : MOk (17, 227, 152) := tg (tin_3 (i := 26) rfl) rfl
theorem mo_17_230_277 : MOk (17, 230, 277) := tg (tin_9 (i := 115) rfl) rfl
theorem mo_17_231_347 : MOk (17, 231, 347) := tg (tin_5 (i := 204) rfl) rfl
theorem mo_17_233_278 : MOk (17, 233, 278) := tg (tin_9 (i := 119) rfl) rfl
theorem mo_17_234_348 : MOk (17, 234, 348) := tg (tin_5 (i := 215) rfl) rfl
theorem mo_17_236_280 : MOk (17, 236, 280) := tg (tin_9 (i := 123) rfl) rfl
theorem mo_17_237_156 : MOk (17, 237, 156) := tg (tin_3 (i := 44) rfl) rfl
theorem mo_17_240_281 : MOk (17, 240, 281) := tg (tin_9 (i := 131) rfl) rfl
theorem mo_17_241_157 : MOk (17, 241, 157) := tg (tin_3 (i := 66) rfl) rfl
theorem mo_17_244_282 : MOk (17, 244, 282) := tg (tin_9 (i := 135) rfl) rfl
theorem mo_17_245_349 : MOk (17, 245, 349) := tg (tin_5 (i := 226) rfl) rfl
theorem mo_17_247_285 : MOk (17, 247, 285) := tg (tin_9 (i := 139) rfl) rfl
theorem mo_17_248_350 : MOk (17, 248, 350) := tg (tin_6 (i := 10) rfl) rfl
theorem mo_17_250_288 : MOk (17, 250, 288) := tg (tin_9 (i := 151) rfl) rfl
theorem mo_17_251_351 : MOk (17, 251, 351) := tg (tin_6 (i := 78) rfl) rfl
theorem mo_17_253_289 : MOk (17, 253, 289) := tg (tin_9 (i := 163) rfl) rfl
theorem mo_17_254_352 : MOk (17, 254, 352) := tg (tin_6 (i := 89) rfl) rfl
theorem mo_17_256_291 : MOk (17, 256, 291) := tg (tin_9 (i := 167) rfl) rfl
theorem mo_17_257_353 : MOk (17, 257, 353) := tg (tin_6 (i := 97) rfl) rfl
theorem mo_17_259_293 : MOk (17, 259, 293) := tg (tin_9 (i := 175) rfl) rfl
theorem mo_17_260_354 : MOk (17, 260, 354) := tg (tin_6 (i := 117) rfl) rfl
theorem mo_17_262_297 : MOk (17, 262, 297) := tg (tin_9 (i := 183) rfl) rfl
theorem mo_17_263_355 : MOk (17, 263, 355) := tg (tin_6 (i := 156) rfl) rfl
theorem mo_17_265_298 : MOk (17, 265, 298) := tg (tin_9 (i := 199) rfl) rfl
theorem mo_17_266_356 : MOk (17, 266, 356) := tg (tin_6 (i := 164) rfl) rfl
theorem mo_17_268_299 : MOk (17, 268, 299) := tg (tin_9 (i := 203) rfl) rfl
theorem mo_17_269_357 : MOk (17, 269, 357) := tg (tin_6 (i := 171) rfl) rfl
theorem mo_17_271_302 : MOk (17, 271, 302) := tg (tin_9 (i := 207) rfl) rfl
theorem mo_17_272_358 : MOk (17, 272, 358) := tg (tin_6 (i := 208) rfl) rfl
theorem mo_17_274_303 : MOk (17, 274, 303) := tg (tin_9 (i := 219) rfl) rfl
theorem mo_17_275_359 : MOk (17, 275, 359) := tg (tin_6 (i := 219) rfl) rfl
theorem mo_17_277_306 : MOk (17, 277, 306) := tg (tin_9 (i := 223) rfl) rfl
theorem mo_17_278_360 : MOk (17, 278, 360) := tg (tin_7 (i := 8) rfl) rfl
theorem mo_17_280_307 : MOk (17, 280, 307) := tg (tin_9 (i := 235) rfl) rfl
theorem mo_17_281_361 : MOk (17, 281, 361) := tg (tin_7 (i := 21) rfl) rfl
theorem mo_17_283_309 : MOk (17, 283, 309) := tg (tin_9 (i := 239) rfl) rfl
theorem mo_17_284_362 : MOk (17, 284, 362) := tg (tin_7 (i := 36) rfl) rfl
theorem mo_17_286_310 : MOk (17, 286, 310) := tg (tin_10 (i := 7) rfl) rfl
theorem mo_17_287_363 : MOk (17, 287, 363) := tg (tin_7 (i := 43) rfl) rfl
theorem mo_17_289_312 : MOk (17, 289, 312) := tg (tin_10 (i := 11) rfl) rfl
theorem mo_17_290_364 : MOk (17, 290, 364) := tg (tin_7 (i := 57) rfl) rfl
theorem mo_17_292_313 : MOk (17, 292, 313) := tg (tin_10 (i := 20) rfl) rfl
theorem mo_17_293_365 : MOk (17, 293, 365) := tg (tin_7 (i := 69) rfl) rfl
theorem mo_17_295_314 : MOk (17, 295, 314) := tg (tin_10 (i := 24) rfl) rfl
theorem mo_17_296_366 : MOk (17, 296, 366) := tg (tin_7 (i := 76) rfl) rfl
theorem mo_17_298_316 : MOk (17, 298, 316) := tg (tin_10 (i := 28) rfl) rfl
theorem mo_17_299_367 : MOk (17, 299, 367) := tg (tin_7 (i := 91) rfl) rfl
theorem mo_17_301_317 : MOk (17, 301, 317) := tg (tin_10 (i := 36) rfl) rfl
theorem mo_17_302_368 : MOk (17, 302, 368) := tg (tin_7 (i := 98) rfl) rfl
theorem mo_17_304_318 : MOk (17, 304, 318) := tg (tin_10 (i := 40) rfl) rfl
theorem mo_17_305_369 : MOk (17, 305, 369) := tg (tin_7 (i := 109) rfl) rfl
theorem mo_17_307_319 : MOk (17, 307, 319) := tg (tin_10 (i := 44) rfl) rfl
theorem mo_17_308_370 : MOk (17, 308, 370) := tg (tin_7 (i := 117) rfl) rfl
theorem mo_17_310_320 : MOk (17, 310, 320) := tg (tin_10 (i := 48) rfl) rfl
theorem mo_17_311_371 : MOk (17, 311, 371) := tg (tin_7 (i := 124) rfl) rfl
theorem mo_17_313_321 : MOk (17, 313, 321) := tg (tin_10 (i := 52) rfl) rfl
theorem mo_17_314_372 : MOk (17, 314, 372) := tg (tin_7 (i := 136) rfl) rfl
theorem mo_17_316_322 : MOk (17, 316, 322) := tg (tin_10 (i := 56) rfl) rfl
theorem mo_17_317_373 : MOk (17, 317, 373) := tg (tin_7 (i := 143) rfl) rfl
theorem mo_17_319_323 : MOk (17, 319, 323) := tg (tin_10 (i := 60) rfl) rfl
theorem mo_17_320_153 : MOk (17, 320, 153) := tg (tin_3 (i := 30) rfl) rfl
theorem mo_17_323_324 : MOk (17, 323, 324) := tg (tin_10 (i := 64) rfl) rfl
theorem mo_17_324_190 : MOk (17, 324, 190) := tg (tin_3 (i := 70) rfl) rfl
theorem mo_17_327_328 : MOk (17, 327, 328) := tg (tin_10 (i := 68) rfl) rfl
theorem mo_17_328_191 : MOk (17, 328, 191) := tg (tin_3 (i := 81) rfl) rfl
theorem mo_17_331_329 : MOk (17, 331, 329) := tg (tin_10 (i := 84) rfl) rfl
theorem mo_17_332_192 : MOk (17, 332, 192) := tg (tin_3 (i := 89) rfl) rfl
theorem mo_17_335_330 : MOk (17, 335, 330) := tg (tin_10 (i := 88) rfl) rfl
theorem mo_17_336_193 : MOk (17, 336, 193) := tg (tin_3 (i := 93) rfl) rfl
theorem mo_17_339_331 : MOk (17, 339, 331) := tg (tin_10 (i := 92) rfl) rfl
def mT_0 : List (Nat × Nat × Nat) := [(0, 101, 16), (0, 104, 10), (0, 107, 11), (0, 110, 18), (0, 114, 19), (0, 43, 12), (0, 53, 13), (0, 66, 39), (0, 70, 37), (0, 81, 14), (0, 85, 15), (0, 94, 40), (0, 97, 25), (1, 47, 3), (10, 19, 5), (10, 34, 120), (11, 11, 118), (11, 111, 128), (11, 115, 203), (11, 119, 133), (11, 122, 46), (11, 130, 34), (11, 136, 23), (11, 142, 9), (11, 148, 198), (11, 151, 132), (11, 155, 72), (11, 16, 32), (11, 162, 119), (11, 186, 194), (11, 19, 22), (11, 207, 195), (11, 210, 41), (11, 213, 196), (11, 216, 197), (11, 219, 11), (11, 22, 8), (11, 223, 204), (11, 227, 37), (11, 231, 10)]
theorem mT_ok_0 : ∀ t ∈ mT_0, MOk t := List.forall_mem_cons.mpr ⟨mo_0_101_16, List.forall_mem_cons.mpr ⟨mo_0_104_10, List.forall_mem_cons.mpr ⟨mo_0_107_11, List.forall_mem_cons.mpr ⟨mo_0_110_18, List.forall_mem_cons.mpr ⟨mo_0_114_19, List.forall_mem_cons.mpr ⟨mo_0_43_12, List.forall_mem_cons.mpr ⟨mo_0_53_13, List.forall_mem_cons.mpr ⟨mo_0_66_39, List.forall_mem_cons.mpr ⟨mo_0_70_37, List.forall_mem_cons.mpr ⟨mo_0_81_14, List.forall_mem_cons.mpr ⟨mo_0_85_15, List.forall_mem_cons.mpr ⟨mo_0_94_40, List.forall_mem_cons.mpr ⟨mo_0_97_25, List.forall_mem_cons.mpr ⟨mo_1_47_3, List.forall_mem_cons.mpr ⟨mo_10_19_5, List.forall_mem_cons.mpr ⟨mo_10_34_120, List.forall_mem_cons.mpr ⟨mo_11_11_118, List.forall_mem_cons.mpr ⟨mo_11_111_128, List.forall_mem_cons.mpr ⟨mo_11_115_203, List.forall_mem_cons.mpr ⟨mo_11_119_133, List.forall_mem_cons.mpr ⟨mo_11_122_46, List.forall_mem_cons.mpr ⟨mo_11_130_34, List.forall_mem_cons.mpr ⟨mo_11_136_23, List.forall_mem_cons.mpr ⟨mo_11_142_9, List.forall_mem_cons.mpr ⟨mo_11_148_198, List.forall_mem_cons.mpr ⟨mo_11_151_132, List.forall_mem_cons.mpr ⟨mo_11_155_72, List.forall_mem_cons.mpr ⟨mo_11_16_32, List.forall_mem_cons.mpr ⟨mo_11_162_119, List.forall_mem_cons.mpr ⟨mo_11_186_194, List.forall_mem_cons.mpr ⟨mo_11_19_22, List.forall_mem_cons.mpr ⟨mo_11_207_195, List.forall_mem_cons.mpr ⟨mo_11_210_41, List.forall_mem_cons.mpr ⟨mo_11_213_196, List.forall_mem_cons.mpr ⟨mo_11_216_197, List.forall_mem_cons.mpr ⟨mo_11_219_11, List.forall_mem_cons.mpr ⟨mo_11_22_8, List.forall_mem_cons.mpr ⟨mo_11_223_204, List.forall_mem_cons.mpr ⟨mo_11_227_37, List.forall_mem_cons.mpr ⟨mo_11_231_10, fun _ h => absurd h List.not_mem_nil⟩⟩⟩⟩⟩⟩⟩⟩⟩⟩⟩⟩⟩⟩⟩⟩⟩⟩⟩⟩⟩⟩⟩⟩⟩⟩⟩⟩⟩⟩⟩⟩⟩⟩⟩⟩⟩⟩⟩⟩
def mT_1 : List (Nat × Nat × Nat) := [(11, 234, 16), (11, 237, 21), (11, 241, 26), (11, 244, 20), (11, 248, 27), (11, 252, 149), (11, 256, 7), (11, 262, 148), (11, 265, 36), (11, 275, 29), (11, 288, 4), (11, 293, 5), (11, 296, 2), (11, 301, 30), (11, 305, 28), (11, 309, 201), (11, 312, 158), (11, 319, 31), (11, 322, 159), (11, 325, 0), (11, 328, 97), (11, 338, 103), (11, 342, 109), (11, 346, 99), (11, 350, 112), (11, 353, 115), (11, 356, 113), (11, 359, 83), (11, 365, 25), (11, 369, 170), (11, 372, 200), (11, 375, 90), (11, 379, 91), (11, 382, 199), (11, 388, 67), (11, 391, 64), (11, 394, 69), (11, 397, 178), (11, 400, 179), (11, 404, 182)]
theorem mT_ok_1 : ∀ t ∈ mT_1, MOk t := List.forall_mem_cons.mpr ⟨mo_11_234_16, List.forall_mem_cons.mpr ⟨mo_11_237_21, List.forall_mem_cons.mpr ⟨mo_11_241_26, List.forall_mem_cons.mpr ⟨mo_11_244_20, List.forall_mem_cons.mpr ⟨mo_11_248_27, List.forall_mem_cons.mpr ⟨mo_11_252_149, List.forall_mem_cons.mpr ⟨mo_11_256_7, List.forall_mem_cons.mpr ⟨mo_11_262_148, List.forall_mem_cons.mpr ⟨mo_11_265_36, List.forall_mem_cons.mpr ⟨mo_11_275_29, List.forall_mem_cons.mpr ⟨mo_11_288_4, List.forall_mem_cons.mpr ⟨mo_11_293_5, List.forall_mem_cons.mpr ⟨mo_11_296_2, List.forall_mem_cons.mpr ⟨mo_11_301_30, List.forall_mem_cons.mpr ⟨mo_11_305_28, List.forall_mem_cons.mpr ⟨mo_11_309_201, List.forall_mem_cons.mpr ⟨mo_11_312_158, List.forall_mem_cons.mpr ⟨mo_11_319_31, List.forall_mem_cons.mpr ⟨mo_11_322_159, List.forall_mem_cons.mpr ⟨mo_11_325_0, List.forall_mem_cons.mpr ⟨mo_11_328_97, List.forall_mem_cons.mpr ⟨mo_11_338_103, List.forall_mem_cons.mpr ⟨mo_11_342_109, List.forall_mem_cons.mpr ⟨mo_11_346_99, List.forall_mem_cons.mpr ⟨mo_11_350_112, List.forall_mem_cons.mpr ⟨mo_11_353_115, List.forall_mem_cons.mpr ⟨mo_11_356_113, List.forall_mem_cons.mpr ⟨mo_11_359_83, List.forall_mem_cons.mpr ⟨mo_11_365_25, List.forall_mem_cons.mpr ⟨mo_11_369_170, List.forall_mem_cons.mpr ⟨mo_11_372_200, List.forall_mem_cons.mpr ⟨mo_11_375_90, List.forall_mem_cons.mpr ⟨mo_11_379_91, List.forall_mem_cons.mpr ⟨mo_11_382_199, List.forall_mem_cons.mpr ⟨mo_11_388_67, List.forall_mem_cons.mpr ⟨mo_11_391_64, List.forall_mem_cons.mpr ⟨mo_11_394_69, List.forall_mem_cons.mpr ⟨mo_11_397_178, List.forall_mem_cons.mpr ⟨mo_11_400_179, List.forall_mem_cons.mpr ⟨mo_11_404_182, fun _ h => absurd h List.not_mem_nil⟩⟩⟩⟩⟩⟩⟩⟩⟩⟩⟩⟩⟩⟩⟩⟩⟩⟩⟩⟩⟩⟩⟩⟩⟩⟩⟩⟩⟩⟩⟩⟩⟩⟩⟩⟩⟩⟩⟩⟩
def mT_2 : List (Nat × Nat × Nat) := [(11, 407, 183), (11, 410, 38), (11, 414, 39), (11, 417, 17), (11, 420, 24), (11, 429, 202), (11, 46, 45), (11, 55, 71), (11, 74, 96), (11, 83, 82), (11, 90, 89), (11, 99, 63), (12, 119, 207), (12, 122, 233), (12, 137, 212), (12, 147, 213), (12, 150, 215), (12, 154, 214), (12, 159, 210), (12, 163, 217), (12, 167, 216), (12, 170, 219), (12, 174, 220), (12, 178, 221), (12, 182, 222), (12, 191, 226), (12, 194, 227), (12, 197, 230), (12, 201, 228), (12, 204, 218), (12, 207, 224), (12, 211, 209), (12, 215, 225), (12, 218, 229), (12, 221, 231), (12, 234, 237), (12, 237, 223), (12, 240, 234), (12, 243, 238), (12, 246, 235)]
theorem mT_ok_2 : ∀ t ∈ mT_2, MOk t := List.forall_mem_cons.mpr ⟨mo_11_407_183, List.forall_mem_cons.mpr ⟨mo_11_410_38, List.forall_mem_cons.mpr ⟨mo_11_414_39, List.forall_mem_cons.mpr ⟨mo_11_417_17, List.forall_mem_cons.mpr ⟨mo_11_420_24, List.forall_mem_cons.mpr ⟨mo_11_429_202, List.forall_mem_cons.mpr ⟨mo_11_46_45, List.forall_mem_cons.mpr ⟨mo_11_55_71, List.forall_mem_cons.mpr ⟨mo_11_74_96, List.forall_mem_cons.mpr ⟨mo_11_83_82, List.forall_mem_cons.mpr ⟨mo_11_90_89, List.forall_mem_cons.mpr ⟨mo_11_99_63, List.forall_mem_cons.mpr ⟨mo_12_119_207, List.forall_mem_cons.mpr ⟨mo_12_122_233, List.forall_mem_cons.mpr ⟨mo_12_137_212, List.forall_mem_cons.mpr ⟨mo_12_147_213, List.forall_mem_cons.mpr ⟨mo_12_150_215, List.forall_mem_cons.mpr ⟨mo_12_154_214, List.forall_mem_cons.mpr ⟨mo_12_159_210, List.forall_mem_cons.mpr ⟨mo_12_163_217, List.forall_mem_cons.mpr ⟨mo_12_167_216, List.forall_mem_cons.mpr ⟨mo_12_170_219, List.forall_mem_cons.mpr ⟨mo_12_174_220, List.forall_mem_cons.mpr ⟨mo_12_178_221, List.forall_mem_cons.mpr ⟨mo_12_182_222, List.forall_mem_cons.mpr ⟨mo_12_191_226, List.forall_mem_cons.mpr ⟨mo_12_194_227, List.forall_mem_cons.mpr ⟨mo_12_197_230, List.forall_mem_cons.mpr ⟨mo_12_201_228, List.forall_mem_cons.mpr ⟨mo_12_204_218, List.forall_mem_cons.mpr ⟨mo_12_207_224, List.forall_mem_cons.mpr ⟨mo_12_211_209, List.forall_mem_cons.mpr ⟨mo_12_215_225, List.forall_mem_cons.mpr ⟨mo_12_218_229, List.forall_mem_cons.mpr ⟨mo_12_221_231, List.forall_mem_cons.mpr ⟨mo_12_234_237, List.forall_mem_cons.mpr ⟨mo_12_237_223, List.forall_mem_cons.mpr ⟨mo_12_240_234, List.forall_mem_cons.mpr ⟨mo_12_243_238, List.forall_mem_cons.mpr ⟨mo_12_246_235, fun _ h => absurd h List.not_mem_nil⟩⟩⟩⟩⟩⟩⟩⟩⟩⟩⟩⟩⟩⟩⟩⟩⟩⟩⟩⟩⟩⟩⟩⟩⟩⟩⟩⟩⟩⟩⟩⟩⟩⟩⟩⟩⟩⟩⟩⟩
def mT_3 : List (Nat × Nat × Nat) := [(12, 250, 236), (12, 253, 239), (12, 256, 240), (12, 259, 242), (12, 262, 241), (12, 265, 247), (12, 268, 248), (12, 271, 254), (12, 275, 253), (12, 278, 256), (12, 281, 255), (12, 284, 249), (12, 287, 250), (12, 290, 260), (12, 294, 257), (12, 300, 264), (12, 304, 265), (12, 308, 268), (12, 311, 269), (12, 314, 266), (12, 318, 272), (12, 322, 279), (12, 325, 283), (12, 328, 284), (12, 339, 286), (12, 345, 287), (12, 349, 290), (12, 352, 292), (12, 359, 295), (12, 363, 294), (12, 367, 296), (12, 374, 301), (12, 377, 300), (12, 383, 304), (12, 387, 305), (12, 390, 308), (12, 394, 311), (12, 397, 315), (12, 401, 326), (12, 408, 325)]
theorem mT_ok_3 : ∀ t ∈ mT_3, MOk t := List.forall_mem_cons.mpr ⟨mo_12_250_236, List.forall_mem_cons.mpr ⟨mo_12_253_239, List.forall_mem_cons.mpr ⟨mo_12_256_240, List.forall_mem_cons.mpr ⟨mo_12_259_242, List.forall_mem_cons.mpr ⟨mo_12_262_241, List.forall_mem_cons.mpr ⟨mo_12_265_247, List.forall_mem_cons.mpr ⟨mo_12_268_248, List.forall_mem_cons.mpr ⟨mo_12_271_254, List.forall_mem_cons.mpr ⟨mo_12_275_253, List.forall_mem_cons.mpr ⟨mo_12_278_256, List.forall_mem_cons.mpr ⟨mo_12_281_255, List.forall_mem_cons.mpr ⟨mo_12_284_249, List.forall_mem_cons.mpr ⟨mo_12_287_250, List.forall_mem_cons.mpr ⟨mo_12_290_260, List.forall_mem_cons.mpr ⟨mo_12_294_257, List.forall_mem_cons.mpr ⟨mo_12_300_264, List.forall_mem_cons.mpr ⟨mo_12_304_265, List.forall_mem_cons.mpr ⟨mo_12_308_268, List.forall_mem_cons.mpr ⟨mo_12_311_269, List.forall_mem_cons.mpr ⟨mo_12_314_266, List.forall_mem_cons.mpr ⟨mo_12_318_272, List.forall_mem_cons.mpr ⟨mo_12_322_279, List.forall_mem_cons.mpr ⟨mo_12_325_283, List.forall_mem_cons.mpr ⟨mo_12_328_284, List.forall_mem_cons.mpr ⟨mo_12_339_286, List.forall_mem_cons.mpr ⟨mo_12_345_287, List.forall_mem_cons.mpr ⟨mo_12_349_290, List.forall_mem_cons.mpr ⟨mo_12_352_292, List.forall_mem_cons.mpr ⟨mo_12_359_295, List.forall_mem_cons.mpr ⟨mo_12_363_294, List.forall_mem_cons.mpr ⟨mo_12_367_296, List.forall_mem_cons.mpr ⟨mo_12_374_301, List.forall_mem_cons.mpr ⟨mo_12_377_300, List.forall_mem_cons.mpr ⟨mo_12_383_304, List.forall_mem_cons.mpr ⟨mo_12_387_305, List.forall_mem_cons.mpr ⟨mo_12_390_308, List.forall_mem_cons.mpr ⟨mo_12_394_311, List.forall_mem_cons.mpr ⟨mo_12_397_315, List.forall_mem_cons.mpr ⟨mo_12_401_326, List.forall_mem_cons.mpr ⟨mo_12_408_325, fun _ h => absurd h List.not_mem_nil⟩⟩⟩⟩⟩⟩⟩⟩⟩⟩⟩⟩⟩⟩⟩⟩⟩⟩⟩⟩⟩⟩⟩⟩⟩⟩⟩⟩⟩⟩⟩⟩⟩⟩⟩⟩⟩⟩⟩⟩
def mT_4 : List (Nat × Nat × Nat) := [(12, 412, 327), (16, 311, 1), (17, 101, 174), (17, 104, 175), (17, 107, 176), (17, 110, 177), (17, 113, 180), (17, 116, 181), (17, 119, 189), (17, 122, 165), (17, 125, 184), (17, 128, 172), (17, 131, 185), (17, 134, 186), (17, 137, 187), (17, 140, 188), (17, 143, 169), (17, 146, 126), (17, 149, 206), (17, 15, 130), (17, 150, 127), (17, 154, 211), (17, 155, 332), (17, 160, 232), (17, 161, 208), (17, 165, 333), (17, 168, 243), (17, 169, 334), (17, 171, 244), (17, 172, 134), (17, 175, 245), (17, 176, 335), (17, 178, 246), (17, 179, 336), (17, 181, 251), (17, 182, 337), (17, 184, 252), (17, 185, 338), (17, 188, 258), (17, 189, 339)]
theorem mT_ok_4 : ∀ t ∈ mT_4, MOk t := List.forall_mem_cons.mpr ⟨mo_12_412_327, List.forall_mem_cons.mpr ⟨mo_16_311_1, List.forall_mem_cons.mpr ⟨mo_17_101_174, List.forall_mem_cons.mpr ⟨mo_17_104_175, List.forall_mem_cons.mpr ⟨mo_17_107_176, List.forall_mem_cons.mpr ⟨mo_17_110_177, List.forall_mem_cons.mpr ⟨mo_17_113_180, List.forall_mem_cons.mpr ⟨mo_17_116_181, List.forall_mem_cons.mpr ⟨mo_17_119_189, List.forall_mem_cons.mpr ⟨mo_17_122_165, List.forall_mem_cons.mpr ⟨mo_17_125_184, List.forall_mem_cons.mpr ⟨mo_17_128_172, List.forall_mem_cons.mpr ⟨mo_17_131_185, List.forall_mem_cons.mpr ⟨mo_17_134_186, List.forall_mem_cons.mpr ⟨mo_17_137_187, List.forall_mem_cons.mpr ⟨mo_17_140_188, List.forall_mem_cons.mpr ⟨mo_17_143_169, List.forall_mem_cons.mpr ⟨mo_17_146_126, List.forall_mem_cons.mpr ⟨mo_17_149_206, List.forall_mem_cons.mpr ⟨mo_17_15_130, List.forall_mem_cons.mpr ⟨mo_17_150_127, List.forall_mem_cons.mpr ⟨mo_17_154_211, List.forall_mem_cons.mpr ⟨mo_17_155_332, List.forall_mem_cons.mpr ⟨mo_17_160_232, List.forall_mem_cons.mpr ⟨mo_17_161_208, List.forall_mem_cons.mpr ⟨mo_17_165_333, List.forall_mem_cons.mpr ⟨mo_17_168_243, List.forall_mem_cons.mpr ⟨mo_17_169_334, List.forall_mem_cons.mpr ⟨mo_17_171_244, List.forall_mem_cons.mpr ⟨mo_17_172_134, List.forall_mem_cons.mpr ⟨mo_17_175_245, List.forall_mem_cons.mpr ⟨mo_17_176_335, List.forall_mem_cons.mpr ⟨mo_17_178_246, List.forall_mem_cons.mpr ⟨mo_17_179_336, List.forall_mem_cons.mpr ⟨mo_17_181_251, List.forall_mem_cons.mpr ⟨mo_17_182_337, List.forall_mem_cons.mpr ⟨mo_17_184_252, List.forall_mem_cons.mpr ⟨mo_17_185_338, List.forall_mem_cons.mpr ⟨mo_17_188_258, List.forall_mem_cons.mpr ⟨mo_17_189_339, fun _ h => absurd h List.not_mem_nil⟩⟩⟩⟩⟩⟩⟩⟩⟩⟩⟩⟩⟩⟩⟩⟩⟩⟩⟩⟩⟩⟩⟩⟩⟩⟩⟩⟩⟩⟩⟩⟩⟩⟩⟩⟩⟩⟩⟩⟩
def mT_5 : List (Nat × Nat × Nat) := [(17, 19, 131), (17, 191, 259), (17, 192, 340), (17, 194, 261), (17, 195, 341), (17, 197, 262), (17, 198, 342), (17, 201, 263), (17, 202, 343), (17, 204, 267), (17, 205, 144), (17, 209, 270), (17, 210, 145), (17, 213, 271), (17, 214, 344), (17, 216, 273), (17, 217, 345), (17, 219, 274), (17, 22, 135), (17, 220, 346), (17, 222, 275), (17, 223, 151), (17, 226, 276), (17, 227, 152), (17, 230, 277), (17, 231, 347), (17, 233, 278), (17, 234, 348), (17, 236, 280), (17, 237, 156), (17, 240, 281), (17, 241, 157), (17, 244, 282), (17, 245, 349), (17, 247, 285), (17, 248, 350), (17, 25, 136), (17, 250, 288), (17, 251, 351), (17, 253, 289)]
theorem mT_ok_5 : ∀ t ∈ mT_5, MOk t := List.forall_mem_cons.mpr ⟨mo_17_19_131, List.forall_mem_cons.mpr ⟨mo_17_191_259, List.forall_mem_cons.mpr ⟨mo_17_192_340, List.forall_mem_cons.mpr ⟨mo_17_194_261, List.forall_mem_cons.mpr ⟨mo_17_195_341, List.forall_mem_cons.mpr ⟨mo_17_197_262, List.forall_mem_cons.mpr ⟨mo_17_198_342, List.forall_mem_cons.mpr ⟨mo_17_201_263, List.forall_mem_cons.mpr ⟨mo_17_202_343, List.forall_mem_cons.mpr ⟨mo_17_204_267, List.forall_mem_cons.mpr ⟨mo_17_205_144, List.forall_mem_cons.mpr ⟨mo_17_209_270, List.forall_mem_cons.mpr ⟨mo_17_210_145, List.forall_mem_cons.mpr ⟨mo_17_213_271, List.forall_mem_cons.mpr ⟨mo_17_214_344, List.forall_mem_cons.mpr ⟨mo_17_216_273, List.forall_mem_cons.mpr ⟨mo_17_217_345, List.forall_mem_cons.mpr ⟨mo_17_219_274, List.forall_mem_cons.mpr ⟨mo_17_22_135, List.forall_mem_cons.mpr ⟨mo_17_220_346, List.forall_mem_cons.mpr ⟨mo_17_222_275, List.forall_mem_cons.mpr ⟨mo_17_223_151, List.forall_mem_cons.mpr ⟨mo_17_226_276, List.forall_mem_cons.mpr ⟨mo_17_227_152, List.forall_mem_cons.mpr ⟨mo_17_230_277, List.forall_mem_cons.mpr ⟨mo_17_231_347, List.forall_mem_cons.mpr ⟨mo_17_233_278, List.forall_mem_cons.mpr ⟨mo_17_234_348, List.forall_mem_cons.mpr ⟨mo_17_236_280, List.forall_mem_cons.mpr ⟨mo_17_237_156, List.forall_mem_cons.mpr ⟨mo_17_240_281, List.forall_mem_cons.mpr ⟨mo_17_241_157, List.forall_mem_cons.mpr ⟨mo_17_244_282, List.forall_mem_cons.mpr ⟨mo_17_245_349, List.forall_mem_cons.mpr ⟨mo_17_247_285, List.forall_mem_cons.mpr ⟨mo_17_248_350, List.forall_mem_cons.mpr ⟨mo_17_25_136, List.forall_mem_cons.mpr ⟨mo_17_250_288, List.forall_mem_cons.mpr ⟨mo_17_251_351, List.forall_mem_cons.mpr ⟨mo_17_253_289, fun _ h => absurd h List.not_mem_nil⟩⟩⟩⟩⟩⟩⟩⟩⟩⟩⟩⟩⟩⟩⟩⟩⟩⟩⟩⟩⟩⟩⟩⟩⟩⟩⟩⟩⟩⟩⟩⟩⟩⟩⟩⟩⟩⟩⟩⟩
def mT_6 : List (Nat × Nat × Nat) := [(17, 254, 352), (17, 256, 291), (17, 257, 353), (17, 259, 293), (17, 260, 354), (17, 262, 297), (17, 263, 355), (17, 265, 298), (17, 266, 356), (17, 268, 299), (17, 269, 357), (17, 271, 302), (17, 272, 358), (17, 274, 303), (17, 275, 359), (17, 277, 306), (17, 278, 360), (17, 280, 307), (17, 281, 361), (17, 283, 309), (17, 284, 362), (17, 286, 310), (17, 287, 363), (17, 289, 312), (17, 290, 364), (17, 292, 313), (17, 293, 365), (17, 295, 314), (17, 296, 366), (17, 298, 316), (17, 299, 367), (17, 30, 137), (17, 301, 317), (17, 302, 368), (17, 304, 318), (17, 305, 369), (17, 307, 319), (17, 308, 370), (17, 310, 320), (17, 311, 371)]
theorem mT_ok_6 : ∀ t ∈ mT_6, MOk t := List.forall_mem_cons.mpr ⟨mo_17_254_352, List.forall_mem_cons.mpr ⟨mo_17_256_291, List.forall_mem_cons.mpr ⟨mo_17_257_353, List.forall_mem_cons.mpr ⟨mo_17_259_293, List.forall_mem_cons.mpr ⟨mo_17_260_354, List.forall_mem_cons.mpr ⟨mo_17_262_297, List.forall_mem_cons.mpr ⟨mo_17_263_355, List.forall_mem_cons.mpr ⟨mo_17_265_298, List.forall_mem_cons.mpr ⟨mo_17_266_356, List.forall_mem_cons.mpr ⟨mo_17_268_299, List.forall_mem_cons.mpr ⟨mo_17_269_357, List.forall_mem_cons.mpr ⟨mo_17_271_302, List.forall_mem_cons.mpr ⟨mo_17_272_358, List.forall_mem_cons.mpr ⟨mo_17_274_303, List.forall_mem_cons.mpr ⟨mo_17_275_359, List.forall_mem_cons.mpr ⟨mo_17_277_306, List.forall_mem_cons.mpr ⟨mo_17_278_360, List.forall_mem_cons.mpr ⟨mo_17_280_307, List.forall_mem_cons.mpr ⟨mo_17_281_361, List.forall_mem_cons.mpr ⟨mo_17_283_309, List.forall_mem_cons.mpr ⟨mo_17_284_362, List.forall_mem_cons.mpr ⟨mo_17_286_310, List.forall_mem_cons.mpr ⟨mo_17_287_363, List.forall_mem_cons.mpr ⟨mo_17_289_312, List.forall_mem_cons.mpr ⟨mo_17_290_364, List.forall_mem_cons.mpr ⟨mo_17_292_313, List.forall_mem_cons.mpr ⟨mo_17_293_365, List.forall_mem_cons.mpr ⟨mo_17_295_314, List.forall_mem_cons.mpr ⟨mo_17_296_366, List.forall_mem_cons.mpr ⟨mo_17_298_316, List.forall_mem_cons.mpr ⟨mo_17_299_367, List.forall_mem_cons.mpr ⟨mo_17_30_137, List.forall_mem_cons.mpr ⟨mo_17_301_317, List.forall_mem_cons.mpr ⟨mo_17_302_368, List.forall_mem_cons.mpr ⟨mo_17_304_318, List.forall_mem_cons.mpr ⟨mo_17_305_369, List.forall_mem_cons.mpr ⟨mo_17_307_319, List.forall_mem_cons.mpr ⟨mo_17_308_370, List.forall_mem_cons.mpr ⟨mo_17_310_320, List.forall_mem_cons.mpr ⟨mo_17_311_371, fun _ h => absurd h List.not_mem_nil⟩⟩⟩⟩⟩⟩⟩⟩⟩⟩⟩⟩⟩⟩⟩⟩⟩⟩⟩⟩⟩⟩⟩⟩⟩⟩⟩⟩⟩⟩⟩⟩⟩⟩⟩⟩⟩⟩⟩⟩
def mT_7 : List (Nat × Nat × Nat) := [(17, 313, 321), (17, 314, 372), (17, 316, 322), (17, 317, 373), (17, 319, 323), (17, 320, 153), (17, 323, 324), (17, 324, 190), (17, 327, 328), (17, 328, 191), (17, 33, 138), (17, 331, 329), (17, 332, 192), (17, 335, 330), (17, 336, 193), (17, 339, 331), (17, 37, 139), (17, 41, 140), (17, 45, 141), (17, 48, 142), (17, 52, 143), (17, 56, 146), (17, 59, 147), (17, 62, 150), (17, 65, 154), (17, 68, 155), (17, 7, 129), (17, 71, 160), (17, 74, 161), (17, 77, 162), (17, 80, 163), (17, 83, 164), (17, 86, 166), (17, 89, 167), (17, 92, 168), (17, 95, 171), (17, 98, 173), (2, 100, 44), (2, 103, 41), (2, 74, 3)]
theorem mT_ok_7 : ∀ t ∈ mT_7, MOk t := List.forall_mem_cons.mpr ⟨mo_17_313_321, List.forall_mem_cons.mpr ⟨mo_17_314_372, List.forall_mem_cons.mpr ⟨mo_17_316_322, List.forall_mem_cons.mpr ⟨mo_17_317_373, List.forall_mem_cons.mpr ⟨mo_17_319_323, List.forall_mem_cons.mpr ⟨mo_17_320_153, List.forall_mem_cons.mpr ⟨mo_17_323_324, List.forall_mem_cons.mpr ⟨mo_17_324_190, List.forall_mem_cons.mpr ⟨mo_17_327_328, List.forall_mem_cons.mpr ⟨mo_17_328_191, List.forall_mem_cons.mpr ⟨mo_17_33_138, List.forall_mem_cons.mpr ⟨mo_17_331_329, List.forall_mem_cons.mpr ⟨mo_17_332_192, List.forall_mem_cons.mpr ⟨mo_17_335_330, List.forall_mem_cons.mpr ⟨mo_17_336_193, List.forall_mem_cons.mpr ⟨mo_17_339_331, List.forall_mem_cons.mpr ⟨mo_17_37_139, List.forall_mem_cons.mpr ⟨mo_17_41_140, List.forall_mem_cons.mpr ⟨mo_17_45_141, List.forall_mem_cons.mpr ⟨mo_17_48_142, List.forall_mem_cons.mpr ⟨mo_17_52_143, List.forall_mem_cons.mpr ⟨mo_17_56_146, List.forall_mem_cons.mpr ⟨mo_17_59_147, List.forall_mem_cons.mpr ⟨mo_17_62_150, List.forall_mem_cons.mpr ⟨mo_17_65_154, List.forall_mem_cons.mpr ⟨mo_17_68_155, List.forall_mem_cons.mpr ⟨mo_17_7_129, List.forall_mem_cons.mpr ⟨mo_17_71_160, List.forall_mem_cons.mpr ⟨mo_17_74_161, List.forall_mem_cons.mpr ⟨mo_17_77_162, List.forall_mem_cons.mpr ⟨mo_17_80_163, List.forall_mem_cons.mpr ⟨mo_17_83_164, List.forall_mem_cons.mpr ⟨mo_17_86_166, List.forall_mem_cons.mpr ⟨mo_17_89_167, List.forall_mem_cons.mpr ⟨mo_17_92_168, List.forall_mem_cons.mpr ⟨mo_17_95_171, List.forall_mem_cons.mpr ⟨mo_17_98_173, List.forall_mem_cons.mpr ⟨mo_2_100_44, List.forall_mem_cons.mpr ⟨mo_2_103_41, List.forall_mem_cons.mpr ⟨mo_2_74_3, fun _ h => absurd h List.not_mem_nil⟩⟩⟩⟩⟩⟩⟩⟩⟩⟩⟩⟩⟩⟩⟩⟩⟩⟩⟩⟩⟩⟩⟩⟩⟩⟩⟩⟩⟩⟩⟩⟩⟩⟩⟩⟩⟩⟩⟩⟩
def mT_8 : List (Nat × Nat × Nat) := [(2, 92, 37), (2, 96, 42), (3, 101, 54), (3, 104, 56), (3, 107, 57), (3, 110, 59), (3, 113, 60), (3, 116, 61), (3, 119, 62), (3, 122, 55), (3, 125, 125), (3, 129, 52), (3, 135, 53), (3, 138, 42), (3, 142, 58), (3, 152, 124), (3, 19, 33), (3, 30, 47), (3, 34, 48), (3, 38, 35), (3, 47, 121), (3, 50, 43), (3, 53, 49), (3, 56, 50), (3, 60, 120), (3, 63, 51), (3, 66, 123), (3, 72, 122), (4, 23, 65), (4, 33, 4), (4, 39, 66), (4, 48, 37), (4, 52, 64), (4, 55, 68), (4, 58, 67), (6, 100, 81), (6, 103, 123), (6, 118, 125), (6, 122, 40), (6, 27, 74)]
theorem mT_ok_8 : ∀ t ∈ mT_8, MOk t := List.forall_mem_cons.mpr ⟨mo_2_92_37, List.forall_mem_cons.mpr ⟨mo_2_96_42, List.forall_mem_cons.mpr ⟨mo_3_101_54, List.forall_mem_cons.mpr ⟨mo_3_104_56, List.forall_mem_cons.mpr ⟨mo_3_107_57, List.forall_mem_cons.mpr ⟨mo_3_110_59, List.forall_mem_cons.mpr ⟨mo_3_113_60, List.forall_mem_cons.mpr ⟨mo_3_116_61, List.forall_mem_cons.mpr ⟨mo_3_119_62, List.forall_mem_cons.mpr ⟨mo_3_122_55, List.forall_mem_cons.mpr ⟨mo_3_125_125, List.forall_mem_cons.mpr ⟨mo_3_129_52, List.forall_mem_cons.mpr ⟨mo_3_135_53, List.forall_mem_cons.mpr ⟨mo_3_138_42, List.forall_mem_cons.mpr ⟨mo_3_142_58, List.forall_mem_cons.mpr ⟨mo_3_152_124, List.forall_mem_cons.mpr ⟨mo_3_19_33, List.forall_mem_cons.mpr ⟨mo_3_30_47, List.forall_mem_cons.mpr ⟨mo_3_34_48, List.forall_mem_cons.mpr ⟨mo_3_38_35, List.forall_mem_cons.mpr ⟨mo_3_47_121, List.forall_mem_cons.mpr ⟨mo_3_50_43, List.forall_mem_cons.mpr ⟨mo_3_53_49, List.forall_mem_cons.mpr ⟨mo_3_56_50, List.forall_mem_cons.mpr ⟨mo_3_60_120, List.forall_mem_cons.mpr ⟨mo_3_63_51, List.forall_mem_cons.mpr ⟨mo_3_66_123, List.forall_mem_cons.mpr ⟨mo_3_72_122, List.forall_mem_cons.mpr ⟨mo_4_23_65, List.forall_mem_cons.mpr ⟨mo_4_33_4, List.forall_mem_cons.mpr ⟨mo_4_39_66, List.forall_mem_cons.mpr ⟨mo_4_48_37, List.forall_mem_cons.mpr ⟨mo_4_52_64, List.forall_mem_cons.mpr ⟨mo_4_55_68, List.forall_mem_cons.mpr ⟨mo_4_58_67, List.forall_mem_cons.mpr ⟨mo_6_100_81, List.forall_mem_cons.mpr ⟨mo_6_103_123, List.forall_mem_cons.mpr ⟨mo_6_118_125, List.forall_mem_cons.mpr ⟨mo_6_122_40, List.forall_mem_cons.mpr ⟨mo_6_27_74, fun _ h => absurd h List.not_mem_nil⟩⟩⟩⟩⟩⟩⟩⟩⟩⟩⟩⟩⟩⟩⟩⟩⟩⟩⟩⟩⟩⟩⟩⟩⟩⟩⟩⟩⟩⟩⟩⟩⟩⟩⟩⟩⟩⟩⟩⟩
def mT_9 : List (Nat × Nat × Nat) := [(6, 36, 121), (6, 47, 70), (6, 50, 75), (6, 55, 122), (6, 59, 120), (6, 62, 73), (6, 66, 76), (6, 76, 124), (6, 79, 2), (6, 84, 1), (6, 87, 77), (6, 91, 78), (6, 94, 79), (6, 97, 80), (7, 27, 10), (7, 37, 84), (7, 46, 85), (7, 50, 86), (7, 54, 87), (7, 61, 41), (7, 65, 25), (7, 71, 18), (7, 75, 19), (7, 81, 88), (7, 84, 4), (8, 28, 92), (8, 32, 93), (8, 42, 95), (8, 55, 41), (8, 60, 3), (8, 66, 94), (8, 70, 5), (8, 75, 4), (9, 101, 102), (9, 105, 101), (9, 109, 3), (9, 115, 112), (9, 119, 104), (9, 122, 105), (9, 125, 107)]
theorem mT_ok_9 : ∀ t ∈ mT_9, MOk t := List.forall_mem_cons.mpr ⟨mo_6_36_121, List.forall_mem_cons.mpr ⟨mo_6_47_70, List.forall_mem_cons.mpr ⟨mo_6_50_75, List.forall_mem_cons.mpr ⟨mo_6_55_122, List.forall_mem_cons.mpr ⟨mo_6_59_120, List.forall_mem_cons.mpr ⟨mo_6_62_73, List.forall_mem_cons.mpr ⟨mo_6_66_76, List.forall_mem_cons.mpr ⟨mo_6_76_124, List.forall_mem_cons.mpr ⟨mo_6_79_2, List.forall_mem_cons.mpr ⟨mo_6_84_1, List.forall_mem_cons.mpr ⟨mo_6_87_77, List.forall_mem_cons.mpr ⟨mo_6_91_78, List.forall_mem_cons.mpr ⟨mo_6_94_79, List.forall_mem_cons.mpr ⟨mo_6_97_80, List.forall_mem_cons.mpr ⟨mo_7_27_10, List.forall_mem_cons.mpr ⟨mo_7_37_84, List.forall_mem_cons.mpr ⟨mo_7_46_85, List.forall_mem_cons.mpr ⟨mo_7_50_86, List.forall_mem_cons.mpr ⟨mo_7_54_87, List.forall_mem_cons.mpr ⟨mo_7_61_41, List.forall_mem_cons.mpr ⟨mo_7_65_25, List.forall_mem_cons.mpr ⟨mo_7_71_18, List.forall_mem_cons.mpr ⟨mo_7_75_19, List.forall_mem_cons.mpr ⟨mo_7_81_88, List.forall_mem_cons.mpr ⟨mo_7_84_4, List.forall_mem_cons.mpr ⟨mo_8_28_92, List.forall_mem_cons.mpr ⟨mo_8_32_93, List.forall_mem_cons.mpr ⟨mo_8_42_95, List.forall_mem_cons.mpr ⟨mo_8_55_41, List.forall_mem_cons.mpr ⟨mo_8_60_3, List.forall_mem_cons.mpr ⟨mo_8_66_94, List.forall_mem_cons.mpr ⟨mo_8_70_5, List.forall_mem_cons.mpr ⟨mo_8_75_4, List.forall_mem_cons.mpr ⟨mo_9_101_102, List.forall_mem_cons.mpr ⟨mo_9_105_101, List.forall_mem_cons.mpr ⟨mo_9_109_3, List.forall_mem_cons.mpr ⟨mo_9_115_112, List.forall_mem_cons.mpr ⟨mo_9_119_104, List.forall_mem_cons.mpr ⟨mo_9_122_105, List.forall_mem_cons.mpr ⟨mo_9_125_107, fun _ h => absurd h List.not_mem_nil⟩⟩⟩⟩⟩⟩⟩⟩⟩⟩⟩⟩⟩⟩⟩⟩⟩⟩⟩⟩⟩⟩⟩⟩⟩⟩⟩⟩⟩⟩⟩⟩⟩⟩⟩⟩⟩⟩⟩⟩
def mT_10 : List (Nat × Nat × Nat) := [(9, 129, 106), (9, 132, 108), (9, 140, 100), (9, 143, 110), (9, 147, 111), (9, 151, 6), (9, 154, 114), (9, 160, 2), (9, 165, 116), (9, 168, 117), (9, 55, 25), (9, 61, 98), (9, 65, 18), (9, 71, 7), (9, 77, 19), (9, 83, 4), (9, 89, 10)]
theorem mT_ok_10 : ∀ t ∈ mT_10, MOk t := List.forall_mem_cons.mpr ⟨mo_9_129_106, List.forall_mem_cons.mpr ⟨mo_9_132_108, List.forall_mem_cons.mpr ⟨mo_9_140_100, List.forall_mem_cons.mpr ⟨mo_9_143_110, List.forall_mem_cons.mpr ⟨mo_9_147_111, List.forall_mem_cons.mpr ⟨mo_9_151_6, List.forall_mem_cons.mpr ⟨mo_9_154_114, List.forall_mem_cons.mpr ⟨mo_9_160_2, List.forall_mem_cons.mpr ⟨mo_9_165_116, List.forall_mem_cons.mpr ⟨mo_9_168_117, List.forall_mem_cons.mpr ⟨mo_9_55_25, List.forall_mem_cons.mpr ⟨mo_9_61_98, List.forall_mem_cons.mpr ⟨mo_9_65_18, List.forall_mem_cons.mpr ⟨mo_9_71_7, List.forall_mem_cons.mpr ⟨mo_9_77_19, List.forall_mem_cons.mpr ⟨mo_9_83_4, List.forall_mem_cons.mpr ⟨mo_9_89_10, fun _ h => absurd h List.not_mem_nil⟩⟩⟩⟩⟩⟩⟩⟩⟩⟩⟩⟩⟩⟩⟩⟩⟩
def mT : List (Nat × Nat × Nat) := mT_0 ++ (mT_1 ++ (mT_2 ++ (mT_3 ++ (mT_4 ++ (mT_5 ++ (mT_6 ++ (mT_7 ++ (mT_8 ++ (mT_9 ++ (mT_10))))))))))
theorem mT_ok : ∀ t ∈ mT, MOk t := List.forall_mem_append.mpr ⟨mT_ok_0, List.forall_mem_append.mpr ⟨mT_ok_1, List.forall_mem_append.mpr ⟨mT_ok_2, List.forall_mem_append.mpr ⟨mT_ok_3, List.forall_mem_append.mpr ⟨mT_ok_4, List.forall_mem_append.mpr ⟨mT_ok_5, List.forall_mem_append.mpr ⟨mT_ok_6, List.forall_mem_append.mpr ⟨mT_ok_7, List.forall_mem_append.mpr ⟨mT_ok_8, List.forall_mem_append.mpr ⟨mT_ok_9, mT_ok_10⟩⟩⟩⟩⟩⟩⟩⟩⟩⟩
def nT_0 : List (Nat × Nat × Nat) := [(0, 118, 204), (1, 59, 204), (7, 33, 205), (9, 136, 204), (9, 93, 205)]
theorem nT_ok_0 : ∀ t ∈ nT_0, NOk t := List.forall_mem_cons.mpr ⟨mo_0_118_204, List.forall_mem_cons.mpr ⟨mo_1_59_204, List.forall_mem_cons.mpr ⟨mo_7_33_205, List.forall_mem_cons.mpr ⟨mo_9_136_204, List.forall_mem_cons.mpr ⟨mo_9_93_205, fun _ h => absurd h List.not_mem_nil⟩⟩⟩⟩⟩
def nT : List (Nat × Nat × Nat) := nT_0
theorem nT_ok : ∀ t ∈ nT, NOk t := nT_ok_0
def COk (t : Nat × Nat) : Prop := Cond.code (yM t.1) (cM t.1) (nLM t.1) (rtM t.1) ∈ Tg ∧ Cond.initialized (yM t.1).cls ∈ Tb ∧ (yM t.1).cls ≠ "java/lang/invoke/MethodHandle" ∧ (yM t.1).cls ≠ "java/lang/invoke/VarHandle" ∧ (parseMethodDescriptor (yM t.1).desc).map (fun d => d.parameters.length) = some t.2 ∧ nLM t.1 ≤ 30 ∧ plainName (yM t.1).cls = true ∧ t.1 < 332
theorem cq_0 : (ownS 0 ≠ "java/lang/invoke/MethodHandle" ∧ ownS 0 ≠ "java/lang/invoke/VarHandle") ∧ plainName (ownS 0) = true := by decide +kernel
theorem wi_0 : Cond.initialized (ownS 0) ∈ Tb := tg (tin_1 (i := 5) rfl) rfl
theorem cq_1 : (ownS 1 ≠ "java/lang/invoke/MethodHandle" ∧ ownS 1 ≠ "java/lang/invoke/VarHandle") ∧ plainName (ownS 1) = true := by decide +kernel
theorem wi_1 : Cond.initialized (ownS 1) ∈ Tb := tg (tin_1 (i := 4) rfl) rfl
theorem cq_2 : (ownS 2 ≠ "java/lang/invoke/MethodHandle" ∧ ownS 2 ≠ "java/lang/invoke/VarHandle") ∧ plainName (ownS 2) = true := by decide +kernel
theorem wi_2 : Cond.initialized (ownS 2) ∈ Tb := tg (tin_1 (i := 3) rfl) rfl
theorem cq_3 : (ownS 3 ≠ "java/lang/invoke/MethodHandle" ∧ ownS 3 ≠ "java/lang/invoke/VarHandle") ∧ plainName (ownS 3) = true := by decide +kernel
theorem wi_3 : Cond.initialized (ownS 3) ∈ Tb := tg (tin_1 (i := 6) rfl) rfl
theorem cq_4 : (ownS 4 ≠ "java/lang/invoke/MethodHandle" ∧ ownS 4 ≠ "java/lang/invoke/VarHandle") ∧ plainName (ownS 4) = true := by decide +kernel
theorem wi_4 : Cond.initialized (ownS 4) ∈ Tb := tg (tin_1 (i := 11) rfl) rfl
theorem cq_5 : (ownS 5 ≠ "java/lang/invoke/MethodHandle" ∧ ownS 5 ≠ "java/lang/invoke/VarHandle") ∧ plainName (ownS 5) = true := by decide +kernel
theorem wi_5 : Cond.initialized (ownS 5) ∈ Tb := tg (tin_1 (i := 26) rfl) rfl
theorem cq_6 : (ownS 6 ≠ "java/lang/invoke/MethodHandle" ∧ ownS 6 ≠ "java/lang/invoke/VarHandle") ∧ plainName (ownS 6) = true := by decide +kernel
theorem wi_6 : Cond.initialized (ownS 6) ∈ Tb := tg (tin_1 (i := 7) rfl) rfl
theorem cq_7 : (ownS 7 ≠ "java/lang/invoke/MethodHandle" ∧ ownS 7 ≠ "java/lang/invoke/VarHandle") ∧ plainName (ownS 7) = true := by decide +kernel
theorem wi_7 : Cond.initialized (ownS 7) ∈ Tb := tg (tin_1 (i := 9) rfl) rfl
theorem cq_8 : (ownS 8 ≠ "java/lang/invoke/MethodHandle" ∧ ownS 8 ≠ "java/lang/invoke/VarHandle") ∧ plainName (ownS 8) = true := by decide +kernel
theorem wi_8 : Cond.initialized (ownS 8) ∈ Tb := tg (tin_1 (i := 10) rfl) rfl
theorem cq_9 : (ownS 9 ≠ "java/lang/invoke/MethodHandle" ∧ ownS 9 ≠ "java/lang/invoke/VarHandle") ∧ plainName (ownS 9) = true := by decide +kernel
theorem wi_9 : Cond.initialized (ownS 9) ∈ Tb := tg (tin_1 (i := 8) rfl) rfl
theorem cq_10 : (ownS 10 ≠ "java/lang/invoke/MethodHandle" ∧ ownS 10 ≠ "java/lang/invoke/VarHandle") ∧ plainName (ownS 10) = true := by decide +kernel
theorem wi_10 : Cond.initialized (ownS 10) ∈ Tb := tg (tin_1 (i := 2) rfl) rfl
theorem cq_11 : (ownS 11 ≠ "java/lang/invoke/MethodHandle" ∧ ownS 11 ≠ "java/lang/invoke/VarHandle") ∧ plainName (ownS 11) = true := by decide +kernel
theorem wi_11 : Cond.initialized (ownS 11) ∈ Tb := tg (tin_1 (i := 1) rfl) rfl
theorem cq_12 : (ownS 12 ≠ "java/lang/invoke/MethodHandle" ∧ ownS 12 ≠ "java/lang/invoke/VarHandle") ∧ plainName (ownS 12) = true := by decide +kernel
theorem wi_12 : Cond.initialized (ownS 12) ∈ Tb := tg (tin_1 (i := 12) rfl) rfl
theorem cq_13 : (ownS 13 ≠ "java/lang/invoke/MethodHandle" ∧ ownS 13 ≠ "java/lang/invoke/VarHandle") ∧ plainName (ownS 13) = true := by decide +kernel
theorem wi_13 : Cond.initialized (ownS 13) ∈ Tb := tg (tin_1 (i := 25) rfl) rfl
theorem cq_14 : (ownS 14 ≠ "java/lang/invoke/MethodHandle" ∧ ownS 14 ≠ "java/lang/invoke/VarHandle") ∧ plainName (ownS 14) = true := by decide +kernel
theorem wi_14 : Cond.initialized (ownS 14) ∈ Tb := tg (tin_1 (i := 18) rfl) rfl
theorem wi_15 : Cond.initialized (ownS 15) ∈ Tb := tg (tin_1 (i := 17) rfl) rfl
theorem cq_16 : (ownS 16 ≠ "java/lang/invoke/MethodHandle" ∧ ownS 16 ≠ "java/lang/invoke/VarHandle") ∧ plainName (ownS 16) = true := by decide +kernel
theorem wi_16 : Cond.initialized (ownS 16) ∈ Tb := tg (tin_1 (i := 28) rfl) rfl
theorem cq_17 : (ownS 17 ≠ "java/lang/invoke/MethodHandle" ∧ ownS 17 ≠ "java/lang/invoke/VarHandle") ∧ plainName (ownS 17) = true := by decide +kernel
theorem wi_17 : Cond.initialized (ownS 17) ∈ Tb := tg (tin_1 (i := 0) rfl) rfl
theorem cz_0 : COk (0, 2) := ⟨tgg (tin_3 (i := 65) rfl) rfl, wi_13, cq_13.1.1, cq_13.1.2, by decide +kernel, by decide +kernel, cq_13.2, by decide⟩
theorem cz_1 : COk (1, 1) := ⟨tgg (tin_4 (i := 169) rfl) rfl, wi_13, cq_13.1.1, cq_13.1.2, by decide +kernel, by decide +kernel, cq_13.2, by decide⟩
theorem cz_2 : COk (2, 1) := ⟨tgg (tin_3 (i := 36) rfl) rfl, wi_13, cq_13.1.1, cq_13.1.2, by decide +kernel, by decide +kernel, cq_13.2, by decide⟩
theorem cz_3 : COk (3, 2) := ⟨tgg (tin_3 (i := 199) rfl) rfl, wi_14, cq_14.1.1, cq_14.1.2, by decide +kernel, by decide +kernel, cq_14.2, by decide⟩
theorem cz_6 : COk (6, 1) := ⟨tgg (tin_6 (i := 52) rfl) rfl, wi_16, cq_16.1.1, cq_16.1.2, by decide +kernel, by decide +kernel, cq_16.2, by decide⟩
theorem cz_7 : COk (7, 1) := ⟨tgg (tin_3 (i := 12) rfl) rfl, wi_16, cq_16.1.1, cq_16.1.2, by decide +kernel, by decide +kernel, cq_16.2, by decide⟩
theorem cz_8 : COk (8, 2) := ⟨tgg (tin_1 (i := 238) rfl) rfl, wi_0, cq_0.1.1, cq_0.1.2, by decide +kernel, by decide +kernel, cq_0.2, by decide⟩
theorem cz_9 : COk (9, 0) := ⟨tgg (tin_3 (i := 88) rfl) rfl, wi_0, cq_0.1.1, cq_0.1.2, by decide +kernel, by decide +kernel, cq_0.2, by decide⟩
theorem cz_10 : COk (10, 2) := ⟨tgg (tin_5 (i := 106) rfl) rfl, wi_0, cq_0.1.1, cq_0.1.2, by decide +kernel, by decide +kernel, cq_0.2, by decide⟩
theorem cz_11 : COk (11, 2) := ⟨tgg (tin_5 (i := 73) rfl) rfl, wi_0, cq_0.1.1, cq_0.1.2, by decide +kernel, by decide +kernel, cq_0.2, by decide⟩
theorem cz_12 : COk (12, 1) := ⟨tgg (tin_5 (i := 77) rfl) rfl, wi_0, cq_0.1.1, cq_0.1.2, by decide +kernel, by decide +kernel, cq_0.2, by decide⟩
theorem cz_13 : COk (13, 2) := ⟨tgg (tin_5 (i := 110) rfl) rfl, wi_0, cq_0.1.1, cq_0.1.2, by decide +kernel, by decide +kernel, cq_0.2, by decide⟩
theorem cz_14 : COk (14, 3) := ⟨tgg (tin_5 (i := 114) rfl) rfl, wi_0, cq_0.1.1, cq_0.1.2, by decide +kernel, by decide +kernel, cq_0.2, by decide⟩
theorem cz_15 : COk (15, 3) := ⟨tgg (tin_5 (i := 119) rfl) rfl, wi_0, cq_0.1.1, cq_0.1.2, by decide +kernel, by decide +kernel, cq_0.2, by decide⟩
theorem cz_16 : COk (16, 2) := ⟨tgg (tin_5 (i := 130) rfl) rfl, wi_0, cq_0.1.1, cq_0.1.2, by decide +kernel, by decide +kernel, cq_0.2, by decide⟩
theorem cz_17 : COk (17, 1) := ⟨tgg (tin_7 (i := 134) rfl) rfl, wi_0, cq_0.1.1, cq_0.1.2, by decide +kernel, by decide +kernel, cq_0.2, by decide⟩
theorem cz_18 : COk (18, 3) := ⟨tgg (tin_5 (i := 146) rfl) rfl, wi_0, cq_0.1.1, cq_0.1.2, by decide +kernel, by decide +kernel, cq_0.2, by decide⟩
theorem cz_19 : COk (19, 3) := ⟨tgg (tin_5 (i := 151) rfl) rfl, wi_0, cq_0.1.1, cq_0.1.2, by decide +kernel, by decide +kernel, cq_0.2, by decide⟩
theorem cz_20 : COk (20, 4) := ⟨tgg (tin_5 (i := 169) rfl) rfl, wi_0, cq_0.1.1, cq_0.1.2, by decide +kernel, by decide +kernel, cq_0.2, by decide⟩
theorem cz_21 : COk (21, 4) := ⟨tgg (tin_5 (i := 142) rfl) rfl, wi_0, cq_0.1.1, cq_0.1.2, by decide +kernel, by decide +kernel, cq_0.2, by decide⟩
theorem cz_22 : COk (22, 0) := ⟨tgg (tin_1 (i := 187) rfl) rfl, wi_1, cq_1.1.1, cq_1.1.2, by decide +kernel, by decide +kernel, cq_1.2, by decide⟩
theorem cz_23 : COk (23, 1) := ⟨tgg (tin_4 (i := 132) rfl) rfl, wi_1, cq_1.1.1, cq_1.1.2, by decide +kernel, by decide +kernel, cq_1.2, by decide⟩
theorem cz_24 : COk (24, 1) := ⟨tgg (tin_3 (i := 77) rfl) rfl, wi_1, cq_1.1.1, cq_1.1.2, by decide +kernel, by decide +kernel, cq_1.2, by decide⟩
theorem cz_25 : COk (25, 1) := ⟨tgg (tin_6 (i := 0) rfl) rfl, wi_1, cq_1.1.1, cq_1.1.2, by decide +kernel, by decide +kernel, cq_1.2, by decide⟩
theorem cz_26 : COk (26, 2) := ⟨tgg (tin_5 (i := 165) rfl) rfl, wi_1, cq_1.1.1, cq_1.1.2, by decide +kernel, by decide +kernel, cq_1.2, by decide⟩
theorem cz_27 : COk (27, 4) := ⟨tgg (tin_5 (i := 173) rfl) rfl, wi_1, cq_1.1.1, cq_1.1.2, by decide +kernel, by decide +kernel, cq_1.2, by decide⟩
theorem cz_28 : COk (28, 1) := ⟨tgg (tin_5 (i := 214) rfl) rfl, wi_1, cq_1.1.1, cq_1.1.2, by decide +kernel, by decide +kernel, cq_1.2, by decide⟩
theorem cz_29 : COk (29, 3) := ⟨tgg (tin_3 (i := 5) rfl) rfl, wi_1, cq_1.1.1, cq_1.1.2, by decide +kernel, by decide +kernel, cq_1.2, by decide⟩
theorem cz_30 : COk (30, 2) := ⟨tgg (tin_3 (i := 43) rfl) rfl, wi_1, cq_1.1.1, cq_1.1.2, by decide +kernel, by decide +kernel, cq_1.2, by decide⟩
theorem cz_31 : COk (31, 1) := ⟨tgg (tin_3 (i := 58) rfl) rfl, wi_1, cq_1.1.1, cq_1.1.2, by decide +kernel, by decide +kernel, cq_1.2, by decide⟩
theorem cz_32 : COk (32, 0) := ⟨tgg (tin_1 (i := 77) rfl) rfl, wi_2, cq_2.1.1, cq_2.1.2, by decide +kernel, by decide +kernel, cq_2.2, by decide⟩
theorem cz_33 : COk (33, 0) := ⟨tgg (tin_3 (i := 196) rfl) rfl, wi_2, cq_2.1.1, cq_2.1.2, by decide +kernel, by decide +kernel, cq_2.2, by decide⟩
theorem cz_34 : COk (34, 1) := ⟨tgg (tin_4 (i := 127) rfl) rfl, wi_2, cq_2.1.1, cq_2.1.2, by decide +kernel, by decide +kernel, cq_2.2, by decide⟩
theorem cz_35 : COk (35, 0) := ⟨tgg (tin_3 (i := 207) rfl) rfl, wi_2, cq_2.1.1, cq_2.1.2, by decide +kernel, by decide +kernel, cq_2.2, by decide⟩
theorem cz_36 : COk (36, 1) := ⟨tgg (tin_5 (i := 196) rfl) rfl, wi_2, cq_2.1.1, cq_2.1.2, by decide +kernel, by decide +kernel, cq_2.2, by decide⟩
theorem cz_37 : COk (37, 2) := ⟨tgg (tin_5 (i := 87) rfl) rfl, wi_2, cq_2.1.1, cq_2.1.2, by decide +kernel, by decide +kernel, cq_2.2, by decide⟩
theorem cz_38 : COk (38, 1) := ⟨tgg (tin_7 (i := 67) rfl) rfl, wi_2, cq_2.1.1, cq_2.1.2, by decide +kernel, by decide +kernel, cq_2.2, by decide⟩
theorem cz_39 : COk (39, 2) := ⟨tgg (tin_5 (i := 81) rfl) rfl, wi_2, cq_2.1.1, cq_2.1.2, by decide +kernel, by decide +kernel, cq_2.2, by decide⟩
theorem cz_40 : COk (40, 2) := ⟨tgg (tin_4 (i := 207) rfl) rfl, wi_2, cq_2.1.1, cq_2.1.2, by decide +kernel, by decide +kernel, cq_2.2, by decide⟩
theorem cz_41 : COk (41, 2) := ⟨tgg (tin_3 (i := 228) rfl) rfl, wi_2, cq_2.1.1, cq_2.1.2, by decide +kernel, by decide +kernel, cq_2.2, by decide⟩
theorem cz_42 : COk (42, 3) := ⟨tgg (tin_3 (i := 220) rfl) rfl, wi_2, cq_2.1.1, cq_2.1.2, by decide +kernel, by decide +kernel, cq_2.2, by decide⟩
theorem cz_43 : COk (43, 0) := ⟨tgg (tin_3 (i := 216) rfl) rfl, wi_2, cq_2.1.1, cq_2.1.2, by decide +kernel, by decide +kernel, cq_2.2, by decide⟩
theorem cz_44 : COk (44, 3) := ⟨tgg (tin_3 (i := 224) rfl) rfl, wi_2, cq_2.1.1, cq_2.1.2, by decide +kernel, by decide +kernel, cq_2.2, by decide⟩
theorem cz_45 : COk (45, 2) := ⟨tgg (tin_2 (i := 32) rfl) rfl, wi_3, cq_3.1.1, cq_3.1.2, by decide +kernel, by decide +kernel, cq_3.2, by decide⟩
theorem cz_46 : COk (46, 0) := ⟨tgg (tin_3 (i := 192) rfl) rfl, wi_3, cq_3.1.1, cq_3.1.2, by decide +kernel, by decide +kernel, cq_3.2, by decide⟩
theorem cz_47 : COk (47, 0) := ⟨tgg (tin_3 (i := 203) rfl) rfl, wi_3, cq_3.1.1, cq_3.1.2, by decide +kernel, by decide +kernel, cq_3.2, by decide⟩
theorem cz_48 : COk (48, 1) := ⟨tgg (tin_3 (i := 232) rfl) rfl, wi_3, cq_3.1.1, cq_3.1.2, by decide +kernel, by decide +kernel, cq_3.2, by decide⟩
theorem cz_49 : COk (49, 0) := ⟨tgg (tin_3 (i := 236) rfl) rfl, wi_3, cq_3.1.1, cq_3.1.2, by decide +kernel, by decide +kernel, cq_3.2, by decide⟩
theorem cz_50 : COk (50, 1) := ⟨tgg (tin_4 (i := 61) rfl) rfl, wi_3, cq_3.1.1, cq_3.1.2, by decide +kernel, by decide +kernel, cq_3.2, by decide⟩
theorem cz_51 : COk (51, 1) := ⟨tgg (tin_4 (i := 66) rfl) rfl, wi_3, cq_3.1.1, cq_3.1.2, by decide +kernel, by decide +kernel, cq_3.2, by decide⟩
theorem cz_52 : COk (52, 2) := ⟨tgg (tin_4 (i := 74) rfl) rfl, wi_3, cq_3.1.1, cq_3.1.2, by decide +kernel, by decide +kernel, cq_3.2, by decide⟩
theorem cz_53 : COk (53, 2) := ⟨tgg (tin_4 (i := 86) rfl) rfl, wi_3, cq_3.1.1, cq_3.1.2, by decide +kernel, by decide +kernel, cq_3.2, by decide⟩
theorem cz_54 : COk (54, 0) := ⟨tgg (tin_4 (i := 70) rfl) rfl, wi_3, cq_3.1.1, cq_3.1.2, by decide +kernel, by decide +kernel, cq_3.2, by decide⟩
theorem cz_55 : COk (55, 0) := ⟨tgg (tin_4 (i := 119) rfl) rfl, wi_3, cq_3.1.1, cq_3.1.2, by decide +kernel, by decide +kernel, cq_3.2, by decide⟩
theorem cz_56 : COk (56, 0) := ⟨tgg (tin_4 (i := 82) rfl) rfl, wi_3, cq_3.1.1, cq_3.1.2, by decide +kernel, by decide +kernel, cq_3.2, by decide⟩
theorem cz_57 : COk (57, 0) := ⟨tgg (tin_4 (i := 91) rfl) rfl, wi_3, cq_3.1.1, cq_3.1.2, by decide +kernel, by decide +kernel, cq_3.2, by decide⟩
theorem cz_58 : COk (58, 0) := ⟨tgg (tin_4 (i := 95) rfl) rfl, wi_3, cq_3.1.1, cq_3.1.2, by decide +kernel, by decide +kernel, cq_3.2, by decide⟩
theorem cz_59 : COk (59, 0) := ⟨tgg (tin_4 (i := 103) rfl) rfl, wi_3, cq_3.1.1, cq_3.1.2, by decide +kernel, by decide +kernel, cq_3.2, by decide⟩
theorem cz_60 : COk (60, 0) := ⟨tgg (tin_4 (i := 107) rfl) rfl, wi_3, cq_3.1.1, cq_3.1.2, by decide +kernel, by decide +kernel, cq_3.2, by decide⟩
theorem cz_61 : COk (61, 0) := ⟨tgg (tin_4 (i := 111) rfl) rfl, wi_3, cq_3.1.1, cq_3.1.2, by decide +kernel, by decide +kernel, cq_3.2, by decide⟩
theorem cz_62 : COk (62, 0) := ⟨tgg (tin_4 (i := 115) rfl) rfl, wi_3, cq_3.1.1, cq_3.1.2, by decide +kernel, by decide +kernel, cq_3.2, by decide⟩
theorem cz_63 : COk (63, 2) := ⟨tgg (tin_2 (i := 152) rfl) rfl, wi_4, cq_4.1.1, cq_4.1.2, by decide +kernel, by decide +kernel, cq_4.2, by decide⟩
theorem cz_64 : COk (64, 2) := ⟨tgg (tin_6 (i := 233) rfl) rfl, wi_4, cq_4.1.1, cq_4.1.2, by decide +kernel, by decide +kernel, cq_4.2, by decide⟩
theorem cz_65 : COk (65, 3) := ⟨tgg (tin_6 (i := 237) rfl) rfl, wi_4, cq_4.1.1, cq_4.1.2, by decide +kernel, by decide +kernel, cq_4.2, by decide⟩
theorem cz_66 : COk (66, 1) := ⟨tgg (tin_7 (i := 2) rfl) rfl, wi_4, cq_4.1.1, cq_4.1.2, by decide +kernel, by decide +kernel, cq_4.2, by decide⟩
theorem cz_67 : COk (67, 2) := ⟨tgg (tin_6 (i := 229) rfl) rfl, wi_4, cq_4.1.1, cq_4.1.2, by decide +kernel, by decide +kernel, cq_4.2, by decide⟩
theorem cz_68 : COk (68, 2) := ⟨tgg (tin_7 (i := 7) rfl) rfl, wi_4, cq_4.1.1, cq_4.1.2, by decide +kernel, by decide +kernel, cq_4.2, by decide⟩
theorem cz_69 : COk (69, 2) := ⟨tgg (tin_7 (i := 19) rfl) rfl, wi_4, cq_4.1.1, cq_4.1.2, by decide +kernel, by decide +kernel, cq_4.2, by decide⟩
theorem cz_70 : COk (70, 2) := ⟨tgg (tin_4 (i := 226) rfl) rfl, wi_5, cq_5.1.1, cq_5.1.2, by decide +kernel, by decide +kernel, cq_5.2, by decide⟩
theorem cz_71 : COk (71, 2) := ⟨tgg (tin_2 (i := 45) rfl) rfl, wi_6, cq_6.1.1, cq_6.1.2, by decide +kernel, by decide +kernel, cq_6.2, by decide⟩
theorem cz_72 : COk (72, 0) := ⟨tgg (tin_4 (i := 152) rfl) rfl, wi_6, cq_6.1.1, cq_6.1.2, by decide +kernel, by decide +kernel, cq_6.2, by decide⟩
theorem cz_73 : COk (73, 1) := ⟨tgg (tin_4 (i := 174) rfl) rfl, wi_6, cq_6.1.1, cq_6.1.2, by decide +kernel, by decide +kernel, cq_6.2, by decide⟩
theorem cz_74 : COk (74, 1) := ⟨tgg (tin_4 (i := 156) rfl) rfl, wi_6, cq_6.1.1, cq_6.1.2, by decide +kernel, by decide +kernel, cq_6.2, by decide⟩
theorem cz_75 : COk (75, 1) := ⟨tgg (tin_4 (i := 160) rfl) rfl, wi_6, cq_6.1.1, cq_6.1.2, by decide +kernel, by decide +kernel, cq_6.2, by decide⟩
theorem cz_76 : COk (76, 1) := ⟨tgg (tin_4 (i := 164) rfl) rfl, wi_6, cq_6.1.1, cq_6.1.2, by decide +kernel, by decide +kernel, cq_6.2, by decide⟩
theorem cz_77 : COk (77, 0) := ⟨tgg (tin_4 (i := 179) rfl) rfl, wi_6, cq_6.1.1, cq_6.1.2, by decide +kernel, by decide +kernel, cq_6.2, by decide⟩
theorem cz_78 : COk (78, 1) := ⟨tgg (tin_4 (i := 189) rfl) rfl, wi_6, cq_6.1.1, cq_6.1.2, by decide +kernel, by decide +kernel, cq_6.2, by decide⟩
theorem cz_79 : COk (79, 1) := ⟨tgg (tin_4 (i := 193) rfl) rfl, wi_6, cq_6.1.1, cq_6.1.2, by decide +kernel, by decide +kernel, cq_6.2, by decide⟩
theorem cz_80 : COk (80, 1) := ⟨tgg (tin_4 (i := 197) rfl) rfl, wi_6, cq_6.1.1, cq_6.1.2, by decide +kernel, by decide +kernel, cq_6.2, by decide⟩
theorem cz_81 : COk (81, 1) := ⟨tgg (tin_4 (i := 202) rfl) rfl, wi_6, cq_6.1.1, cq_6.1.2, by decide +kernel, by decide +kernel, cq_6.2, by decide⟩
theorem cz_82 : COk (82, 3) := ⟨tgg (tin_2 (i := 110) rfl) rfl, wi_7, cq_7.1.1, cq_7.1.2, by decide +kernel, by decide +kernel, cq_7.2, by decide⟩
theorem cz_83 : COk (83, 3) := ⟨tgg (tin_6 (i := 127) rfl) rfl, wi_7, cq_7.1.1, cq_7.1.2, by decide +kernel, by decide +kernel, cq_7.2, by decide⟩
theorem cz_84 : COk (84, 5) := ⟨tgg (tin_6 (i := 133) rfl) rfl, wi_7, cq_7.1.1, cq_7.1.2, by decide +kernel, by decide +kernel, cq_7.2, by decide⟩
theorem cz_85 : COk (85, 4) := ⟨tgg (tin_6 (i := 137) rfl) rfl, wi_7, cq_7.1.1, cq_7.1.2, by decide +kernel, by decide +kernel, cq_7.2, by decide⟩
theorem cz_86 : COk (86, 3) := ⟨tgg (tin_6 (i := 142) rfl) rfl, wi_7, cq_7.1.1, cq_7.1.2, by decide +kernel, by decide +kernel, cq_7.2, by decide⟩
theorem cz_87 : COk (87, 5) := ⟨tgg (tin_6 (i := 149) rfl) rfl, wi_7, cq_7.1.1, cq_7.1.2, by decide +kernel, by decide +kernel, cq_7.2, by decide⟩
theorem cz_88 : COk (88, 5) := ⟨tgg (tin_6 (i := 154) rfl) rfl, wi_7, cq_7.1.1, cq_7.1.2, by decide +kernel, by decide +kernel, cq_7.2, by decide⟩
theorem cz_89 : COk (89, 1) := ⟨tgg (tin_2 (i := 130) rfl) rfl, wi_8, cq_8.1.1, cq_8.1.2, by decide +kernel, by decide +kernel, cq_8.2, by decide⟩
theorem cz_90 : COk (90, 3) := ⟨tgg (tin_6 (i := 185) rfl) rfl, wi_8, cq_8.1.1, cq_8.1.2, by decide +kernel, by decide +kernel, cq_8.2, by decide⟩
theorem cz_91 : COk (91, 2) := ⟨tgg (tin_7 (i := 108) rfl) rfl, wi_8, cq_8.1.1, cq_8.1.2, by decide +kernel, by decide +kernel, cq_8.2, by decide⟩
theorem cz_92 : COk (92, 2) := ⟨tgg (tin_6 (i := 189) rfl) rfl, wi_8, cq_8.1.1, cq_8.1.2, by decide +kernel, by decide +kernel, cq_8.2, by decide⟩
theorem cz_93 : COk (93, 3) := ⟨tgg (tin_6 (i := 194) rfl) rfl, wi_8, cq_8.1.1, cq_8.1.2, by decide +kernel, by decide +kernel, cq_8.2, by decide⟩
theorem cz_94 : COk (94, 3) := ⟨tgg (tin_6 (i := 200) rfl) rfl, wi_8, cq_8.1.1, cq_8.1.2, by decide +kernel, by decide +kernel, cq_8.2, by decide⟩
theorem cz_95 : COk (95, 1) := ⟨tgg (tin_6 (i := 206) rfl) rfl, wi_8, cq_8.1.1, cq_8.1.2, by decide +kernel, by decide +kernel, cq_8.2, by decide⟩
theorem cz_96 : COk (96, 3) := ⟨tgg (tin_2 (i := 65) rfl) rfl, wi_9, cq_9.1.1, cq_9.1.2, by decide +kernel, by decide +kernel, cq_9.2, by decide⟩
theorem cz_97 : COk (97, 2) := ⟨tgg (tin_5 (i := 236) rfl) rfl, wi_9, cq_9.1.1, cq_9.1.2, by decide +kernel, by decide +kernel, cq_9.2, by decide⟩
theorem cz_98 : COk (98, 4) := ⟨tgg (tin_6 (i := 4) rfl) rfl, wi_9, cq_9.1.1, cq_9.1.2, by decide +kernel, by decide +kernel, cq_9.2, by decide⟩
theorem cz_99 : COk (99, 3) := ⟨tgg (tin_6 (i := 88) rfl) rfl, wi_9, cq_9.1.1, cq_9.1.2, by decide +kernel, by decide +kernel, cq_9.2, by decide⟩
theorem cz_100 : COk (100, 2) := ⟨tgg (tin_6 (i := 33) rfl) rfl, wi_9, cq_9.1.1, cq_9.1.2, by decide +kernel, by decide +kernel, cq_9.2, by decide⟩
theorem cz_101 : COk (101, 2) := ⟨tgg (tin_6 (i := 41) rfl) rfl, wi_9, cq_9.1.1, cq_9.1.2, by decide +kernel, by decide +kernel, cq_9.2, by decide⟩
theorem cz_102 : COk (102, 3) := ⟨tgg (tin_6 (i := 37) rfl) rfl, wi_9, cq_9.1.1, cq_9.1.2, by decide +kernel, by decide +kernel, cq_9.2, by decide⟩
theorem cz_103 : COk (103, 2) := ⟨tgg (tin_6 (i := 20) rfl) rfl, wi_9, cq_9.1.1, cq_9.1.2, by decide +kernel, by decide +kernel, cq_9.2, by decide⟩
theorem cz_104 : COk (104, 3) := ⟨tgg (tin_6 (i := 57) rfl) rfl, wi_9, cq_9.1.1, cq_9.1.2, by decide +kernel, by decide +kernel, cq_9.2, by decide⟩
theorem cz_105 : COk (105, 2) := ⟨tgg (tin_6 (i := 61) rfl) rfl, wi_9, cq_9.1.1, cq_9.1.2, by decide +kernel, by decide +kernel, cq_9.2, by decide⟩
theorem cz_106 : COk (106, 2) := ⟨tgg (tin_6 (i := 65) rfl) rfl, wi_9, cq_9.1.1, cq_9.1.2, by decide +kernel, by decide +kernel, cq_9.2, by decide⟩
theorem cz_107 : COk (107, 2) := ⟨tgg (tin_6 (i := 69) rfl) rfl, wi_9, cq_9.1.1, cq_9.1.2, by decide +kernel, by decide +kernel, cq_9.2, by decide⟩
theorem cz_108 : COk (108, 2) := ⟨tgg (tin_6 (i := 73) rfl) rfl, wi_9, cq_9.1.1, cq_9.1.2, by decide +kernel, by decide +kernel, cq_9.2, by decide⟩
theorem cz_109 : COk (109, 0) := ⟨tgg (tin_6 (i := 77) rfl) rfl, wi_9, cq_9.1.1, cq_9.1.2, by decide +kernel, by decide +kernel, cq_9.2, by decide⟩
theorem cz_110 : COk (110, 1) := ⟨tgg (tin_6 (i := 46) rfl) rfl, wi_9, cq_9.1.1, cq_9.1.2, by decide +kernel, by decide +kernel, cq_9.2, by decide⟩
theorem cz_111 : COk (111, 3) := ⟨tgg (tin_6 (i := 49) rfl) rfl, wi_9, cq_9.1.1, cq_9.1.2, by decide +kernel, by decide +kernel, cq_9.2, by decide⟩
theorem cz_112 : COk (112, 2) := ⟨tgg (tin_6 (i := 29) rfl) rfl, wi_9, cq_9.1.1, cq_9.1.2, by decide +kernel, by decide +kernel, cq_9.2, by decide⟩
theorem cz_113 : COk (113, 2) := ⟨tgg (tin_7 (i := 86) rfl) rfl, wi_9, cq_9.1.1, cq_9.1.2, by decide +kernel, by decide +kernel, cq_9.2, by decide⟩
theorem cz_114 : COk (114, 1) := ⟨tgg (tin_7 (i := 90) rfl) rfl, wi_9, cq_9.1.1, cq_9.1.2, by decide +kernel, by decide +kernel, cq_9.2, by decide⟩
theorem cz_115 : COk (115, 2) := ⟨tgg (tin_6 (i := 107) rfl) rfl, wi_9, cq_9.1.1, cq_9.1.2, by decide +kernel, by decide +kernel, cq_9.2, by decide⟩
theorem cz_116 : COk (116, 3) := ⟨tgg (tin_6 (i := 112) rfl) rfl, wi_9, cq_9.1.1, cq_9.1.2, by decide +kernel, by decide +kernel, cq_9.2, by decide⟩
theorem cz_117 : COk (117, 2) := ⟨tgg (tin_6 (i := 115) rfl) rfl, wi_9, cq_9.1.1, cq_9.1.2, by decide +kernel, by decide +kernel, cq_9.2, by decide⟩
theorem cz_118 : COk (118, 1) := ⟨tgg (tin_1 (i := 41) rfl) rfl, wi_10, cq_10.1.1, cq_10.1.2, by decide +kernel, by decide +kernel, cq_10.2, by decide⟩
theorem cz_119 : COk (119, 1) := ⟨tgg (tin_3 (i := 182) rfl) rfl, wi_10, cq_10.1.1, cq_10.1.2, by decide +kernel, by decide +kernel, cq_10.2, by decide⟩
theorem cz_120 : COk (120, 0) := ⟨tgg (tin_3 (i := 187) rfl) rfl, wi_10, cq_10.1.1, cq_10.1.2, by decide +kernel, by decide +kernel, cq_10.2, by decide⟩
theorem cz_121 : COk (121, 1) := ⟨tgg (tin_3 (i := 212) rfl) rfl, wi_10, cq_10.1.1, cq_10.1.2, by decide +kernel, by decide +kernel, cq_10.2, by decide⟩
theorem cz_122 : COk (122, 1) := ⟨tgg (tin_4 (i := 1) rfl) rfl, wi_10, cq_10.1.1, cq_10.1.2, by decide +kernel, by decide +kernel, cq_10.2, by decide⟩
theorem cz_123 : COk (123, 1) := ⟨tgg (tin_4 (i := 123) rfl) rfl, wi_10, cq_10.1.1, cq_10.1.2, by decide +kernel, by decide +kernel, cq_10.2, by decide⟩
theorem cz_124 : COk (124, 1) := ⟨tgg (tin_4 (i := 99) rfl) rfl, wi_10, cq_10.1.1, cq_10.1.2, by decide +kernel, by decide +kernel, cq_10.2, by decide⟩
theorem cz_125 : COk (125, 2) := ⟨tgg (tin_4 (i := 78) rfl) rfl, wi_10, cq_10.1.1, cq_10.1.2, by decide +kernel, by decide +kernel, cq_10.2, by decide⟩
theorem cz_126 : COk (126, 0) := ⟨tgg (tin_1 (i := 33) rfl) rfl, wi_11, cq_11.1.1, cq_11.1.2, by decide +kernel, by decide +kernel, cq_11.2, by decide⟩
theorem cz_127 : COk (127, 5) := ⟨tgg (tin_2 (i := 225) rfl) rfl, wi_11, cq_11.1.1, cq_11.1.2, by decide +kernel, by decide +kernel, cq_11.2, by decide⟩
theorem cz_128 : COk (128, 1) := ⟨tgg (tin_2 (i := 229) rfl) rfl, wi_11, cq_11.1.1, cq_11.1.2, by decide +kernel, by decide +kernel, cq_11.2, by decide⟩
theorem cz_129 : COk (129, 1) := ⟨tgg (tin_3 (i := 104) rfl) rfl, wi_11, cq_11.1.1, cq_11.1.2, by decide +kernel, by decide +kernel, cq_11.2, by decide⟩
theorem cz_130 : COk (130, 2) := ⟨tgg (tin_4 (i := 140) rfl) rfl, wi_11, cq_11.1.1, cq_11.1.2, by decide +kernel, by decide +kernel, cq_11.2, by decide⟩
theorem cz_131 : COk (131, 1) := ⟨tgg (tin_5 (i := 3) rfl) rfl, wi_11, cq_11.1.1, cq_11.1.2, by decide +kernel, by decide +kernel, cq_11.2, by decide⟩
theorem cz_132 : COk (132, 2) := ⟨tgg (tin_4 (i := 148) rfl) rfl, wi_11, cq_11.1.1, cq_11.1.2, by decide +kernel, by decide +kernel, cq_11.2, by decide⟩
theorem cz_133 : COk (133, 1) := ⟨tgg (tin_3 (i := 178) rfl) rfl, wi_11, cq_11.1.1, cq_11.1.2, by decide +kernel, by decide +kernel, cq_11.2, by decide⟩
theorem cz_134 : COk (134, 0) := ⟨tgg (tin_2 (i := 233) rfl) rfl, wi_11, cq_11.1.1, cq_11.1.2, by decide +kernel, by decide +kernel, cq_11.2, by decide⟩
theorem cz_135 : COk (135, 1) := ⟨tgg (tin_5 (i := 10) rfl) rfl, wi_11, cq_11.1.1, cq_11.1.2, by decide +kernel, by decide +kernel, cq_11.2, by decide⟩
theorem cz_136 : COk (136, 2) := ⟨tgg (tin_5 (i := 18) rfl) rfl, wi_11, cq_11.1.1, cq_11.1.2, by decide +kernel, by decide +kernel, cq_11.2, by decide⟩
theorem cz_137 : COk (137, 2) := ⟨tgg (tin_5 (i := 49) rfl) rfl, wi_11, cq_11.1.1, cq_11.1.2, by decide +kernel, by decide +kernel, cq_11.2, by decide⟩
theorem cz_138 : COk (138, 3) := ⟨tgg (tin_5 (i := 61) rfl) rfl, wi_11, cq_11.1.1, cq_11.1.2, by decide +kernel, by decide +kernel, cq_11.2, by decide⟩
theorem cz_139 : COk (139, 2) := ⟨tgg (tin_5 (i := 94) rfl) rfl, wi_11, cq_11.1.1, cq_11.1.2, by decide +kernel, by decide +kernel, cq_11.2, by decide⟩
theorem cz_140 : COk (140, 2) := ⟨tgg (tin_5 (i := 102) rfl) rfl, wi_11, cq_11.1.1, cq_11.1.2, by decide +kernel, by decide +kernel, cq_11.2, by decide⟩
theorem cz_141 : COk (141, 2) := ⟨tgg (tin_5 (i := 126) rfl) rfl, wi_11, cq_11.1.1, cq_11.1.2, by decide +kernel, by decide +kernel, cq_11.2, by decide⟩
theorem cz_142 : COk (142, 4) := ⟨tgg (tin_5 (i := 138) rfl) rfl, wi_11, cq_11.1.1, cq_11.1.2, by decide +kernel, by decide +kernel, cq_11.2, by decide⟩
theorem cz_143 : COk (143, 3) := ⟨tgg (tin_5 (i := 161) rfl) rfl, wi_11, cq_11.1.1, cq_11.1.2, by decide +kernel, by decide +kernel, cq_11.2, by decide⟩
theorem cz_144 : COk (144, 0) := ⟨tgg (tin_2 (i := 237) rfl) rfl, wi_11, cq_11.1.1, cq_11.1.2, by decide +kernel, by decide +kernel, cq_11.2, by decide⟩
theorem cz_145 : COk (145, 0) := ⟨tgg (tin_3 (i := 9) rfl) rfl, wi_11, cq_11.1.1, cq_11.1.2, by decide +kernel, by decide +kernel, cq_11.2, by decide⟩
theorem cz_146 : COk (146, 1) := ⟨tgg (tin_5 (i := 180) rfl) rfl, wi_11, cq_11.1.1, cq_11.1.2, by decide +kernel, by decide +kernel, cq_11.2, by decide⟩
theorem cz_147 : COk (147, 1) := ⟨tgg (tin_5 (i := 192) rfl) rfl, wi_11, cq_11.1.1, cq_11.1.2, by decide +kernel, by decide +kernel, cq_11.2, by decide⟩
theorem cz_148 : COk (148, 1) := ⟨tgg (tin_5 (i := 184) rfl) rfl, wi_11, cq_11.1.1, cq_11.1.2, by decide +kernel, by decide +kernel, cq_11.2, by decide⟩
theorem cz_149 : COk (149, 0) := ⟨tgg (tin_3 (i := 1) rfl) rfl, wi_11, cq_11.1.1, cq_11.1.2, by decide +kernel, by decide +kernel, cq_11.2, by decide⟩
theorem cz_150 : COk (150, 2) := ⟨tgg (tin_5 (i := 203) rfl) rfl, wi_11, cq_11.1.1, cq_11.1.2, by decide +kernel, by decide +kernel, cq_11.2, by decide⟩
theorem cz_151 : COk (151, 1) := ⟨tgg (tin_3 (i := 19) rfl) rfl, wi_11, cq_11.1.1, cq_11.1.2, by decide +kernel, by decide +kernel, cq_11.2, by decide⟩
theorem cz_152 : COk (152, 0) := ⟨tgg (tin_3 (i := 29) rfl) rfl, wi_11, cq_11.1.1, cq_11.1.2, by decide +kernel, by decide +kernel, cq_11.2, by decide⟩
theorem cz_153 : COk (153, 0) := ⟨tgg (tin_3 (i := 33) rfl) rfl, wi_11, cq_11.1.1, cq_11.1.2, by decide +kernel, by decide +kernel, cq_11.2, by decide⟩
theorem cz_154 : COk (154, 4) := ⟨tgg (tin_5 (i := 210) rfl) rfl, wi_11, cq_11.1.1, cq_11.1.2, by decide +kernel, by decide +kernel, cq_11.2, by decide⟩
theorem cz_155 : COk (155, 1) := ⟨tgg (tin_5 (i := 221) rfl) rfl, wi_11, cq_11.1.1, cq_11.1.2, by decide +kernel, by decide +kernel, cq_11.2, by decide⟩
theorem cz_156 : COk (156, 0) := ⟨tgg (tin_3 (i := 47) rfl) rfl, wi_11, cq_11.1.1, cq_11.1.2, by decide +kernel, by decide +kernel, cq_11.2, by decide⟩
theorem cz_157 : COk (157, 0) := ⟨tgg (tin_3 (i := 69) rfl) rfl, wi_11, cq_11.1.1, cq_11.1.2, by decide +kernel, by decide +kernel, cq_11.2, by decide⟩
theorem cz_158 : COk (158, 1) := ⟨tgg (tin_3 (i := 51) rfl) rfl, wi_11, cq_11.1.1, cq_11.1.2, by decide +kernel, by decide +kernel, cq_11.2, by decide⟩
theorem cz_159 : COk (159, 2) := ⟨tgg (tin_3 (i := 62) rfl) rfl, wi_11, cq_11.1.1, cq_11.1.2, by decide +kernel, by decide +kernel, cq_11.2, by decide⟩
theorem cz_160 : COk (160, 2) := ⟨tgg (tin_5 (i := 232) rfl) rfl, wi_11, cq_11.1.1, cq_11.1.2, by decide +kernel, by decide +kernel, cq_11.2, by decide⟩
theorem cz_161 : COk (161, 2) := ⟨tgg (tin_6 (i := 16) rfl) rfl, wi_11, cq_11.1.1, cq_11.1.2, by decide +kernel, by decide +kernel, cq_11.2, by decide⟩
theorem cz_162 : COk (162, 2) := ⟨tgg (tin_6 (i := 84) rfl) rfl, wi_11, cq_11.1.1, cq_11.1.2, by decide +kernel, by decide +kernel, cq_11.2, by decide⟩
theorem cz_163 : COk (163, 2) := ⟨tgg (tin_6 (i := 95) rfl) rfl, wi_11, cq_11.1.1, cq_11.1.2, by decide +kernel, by decide +kernel, cq_11.2, by decide⟩
theorem cz_164 : COk (164, 1) := ⟨tgg (tin_6 (i := 103) rfl) rfl, wi_11, cq_11.1.1, cq_11.1.2, by decide +kernel, by decide +kernel, cq_11.2, by decide⟩
theorem cz_165 : COk (165, 1) := ⟨tgg (tin_7 (i := 82) rfl) rfl, wi_11, cq_11.1.1, cq_11.1.2, by decide +kernel, by decide +kernel, cq_11.2, by decide⟩
theorem cz_166 : COk (166, 3) := ⟨tgg (tin_6 (i := 123) rfl) rfl, wi_11, cq_11.1.1, cq_11.1.2, by decide +kernel, by decide +kernel, cq_11.2, by decide⟩
theorem cz_167 : COk (167, 2) := ⟨tgg (tin_6 (i := 162) rfl) rfl, wi_11, cq_11.1.1, cq_11.1.2, by decide +kernel, by decide +kernel, cq_11.2, by decide⟩
theorem cz_168 : COk (168, 3) := ⟨tgg (tin_6 (i := 170) rfl) rfl, wi_11, cq_11.1.1, cq_11.1.2, by decide +kernel, by decide +kernel, cq_11.2, by decide⟩
theorem cz_169 : COk (169, 2) := ⟨tgg (tin_7 (i := 149) rfl) rfl, wi_11, cq_11.1.1, cq_11.1.2, by decide +kernel, by decide +kernel, cq_11.2, by decide⟩
theorem cz_170 : COk (170, 2) := ⟨tgg (tin_7 (i := 152) rfl) rfl, wi_11, cq_11.1.1, cq_11.1.2, by decide +kernel, by decide +kernel, cq_11.2, by decide⟩
theorem cz_171 : COk (171, 3) := ⟨tgg (tin_6 (i := 177) rfl) rfl, wi_11, cq_11.1.1, cq_11.1.2, by decide +kernel, by decide +kernel, cq_11.2, by decide⟩
theorem cz_172 : COk (172, 2) := ⟨tgg (tin_7 (i := 104) rfl) rfl, wi_11, cq_11.1.1, cq_11.1.2, by decide +kernel, by decide +kernel, cq_11.2, by decide⟩
theorem cz_173 : COk (173, 3) := ⟨tgg (tin_6 (i := 214) rfl) rfl, wi_11, cq_11.1.1, cq_11.1.2, by decide +kernel, by decide +kernel, cq_11.2, by decide⟩
theorem cz_174 : COk (174, 2) := ⟨tgg (tin_6 (i := 225) rfl) rfl, wi_11, cq_11.1.1, cq_11.1.2, by decide +kernel, by decide +kernel, cq_11.2, by decide⟩
theorem cz_175 : COk (175, 2) := ⟨tgg (tin_7 (i := 14) rfl) rfl, wi_11, cq_11.1.1, cq_11.1.2, by decide +kernel, by decide +kernel, cq_11.2, by decide⟩
theorem cz_176 : COk (176, 2) := ⟨tgg (tin_7 (i := 27) rfl) rfl, wi_11, cq_11.1.1, cq_11.1.2, by decide +kernel, by decide +kernel, cq_11.2, by decide⟩
theorem cz_177 : COk (177, 3) := ⟨tgg (tin_7 (i := 42) rfl) rfl, wi_11, cq_11.1.1, cq_11.1.2, by decide +kernel, by decide +kernel, cq_11.2, by decide⟩
theorem cz_178 : COk (178, 2) := ⟨tgg (tin_7 (i := 31) rfl) rfl, wi_11, cq_11.1.1, cq_11.1.2, by decide +kernel, by decide +kernel, cq_11.2, by decide⟩
theorem cz_179 : COk (179, 3) := ⟨tgg (tin_7 (i := 35) rfl) rfl, wi_11, cq_11.1.1, cq_11.1.2, by decide +kernel, by decide +kernel, cq_11.2, by decide⟩
theorem cz_180 : COk (180, 3) := ⟨tgg (tin_7 (i := 49) rfl) rfl, wi_11, cq_11.1.1, cq_11.1.2, by decide +kernel, by decide +kernel, cq_11.2, by decide⟩
theorem cz_181 : COk (181, 2) := ⟨tgg (tin_7 (i := 63) rfl) rfl, wi_11, cq_11.1.1, cq_11.1.2, by decide +kernel, by decide +kernel, cq_11.2, by decide⟩
theorem cz_182 : COk (182, 1) := ⟨tgg (tin_7 (i := 52) rfl) rfl, wi_11, cq_11.1.1, cq_11.1.2, by decide +kernel, by decide +kernel, cq_11.2, by decide⟩
theorem cz_183 : COk (183, 2) := ⟨tgg (tin_7 (i := 56) rfl) rfl, wi_11, cq_11.1.1, cq_11.1.2, by decide +kernel, by decide +kernel, cq_11.2, by decide⟩
theorem cz_184 : COk (184, 2) := ⟨tgg (tin_7 (i := 97) rfl) rfl, wi_11, cq_11.1.1, cq_11.1.2, by decide +kernel, by decide +kernel, cq_11.2, by decide⟩
theorem cz_185 : COk (185, 2) := ⟨tgg (tin_7 (i := 115) rfl) rfl, wi_11, cq_11.1.1, cq_11.1.2, by decide +kernel, by decide +kernel, cq_11.2, by decide⟩
theorem cz_186 : COk (186, 3) := ⟨tgg (tin_7 (i := 123) rfl) rfl, wi_11, cq_11.1.1, cq_11.1.2, by decide +kernel, by decide +kernel, cq_11.2, by decide⟩
theorem cz_187 : COk (187, 1) := ⟨tgg (tin_7 (i := 130) rfl) rfl, wi_11, cq_11.1.1, cq_11.1.2, by decide +kernel, by decide +kernel, cq_11.2, by decide⟩
theorem cz_188 : COk (188, 2) := ⟨tgg (tin_7 (i := 142) rfl) rfl, wi_11, cq_11.1.1, cq_11.1.2, by decide +kernel, by decide +kernel, cq_11.2, by decide⟩
theorem cz_189 : COk (189, 1) := ⟨tgg (tin_7 (i := 75) rfl) rfl, wi_11, cq_11.1.1, cq_11.1.2, by decide +kernel, by decide +kernel, cq_11.2, by decide⟩
theorem cz_190 : COk (190, 0) := ⟨tgg (tin_3 (i := 73) rfl) rfl, wi_11, cq_11.1.1, cq_11.1.2, by decide +kernel, by decide +kernel, cq_11.2, by decide⟩
theorem cz_191 : COk (191, 0) := ⟨tgg (tin_3 (i := 84) rfl) rfl, wi_11, cq_11.1.1, cq_11.1.2, by decide +kernel, by decide +kernel, cq_11.2, by decide⟩
theorem cz_192 : COk (192, 1) := ⟨tgg (tin_3 (i := 92) rfl) rfl, wi_11, cq_11.1.1, cq_11.1.2, by decide +kernel, by decide +kernel, cq_11.2, by decide⟩
theorem cz_193 : COk (193, 1) := ⟨tgg (tin_3 (i := 96) rfl) rfl, wi_11, cq_11.1.1, cq_11.1.2, by decide +kernel, by decide +kernel, cq_11.2, by decide⟩
theorem cz_194 : COk (194, 1) := ⟨tgg (tin_5 (i := 22) rfl) rfl, wi_11, cq_11.1.1, cq_11.1.2, by decide +kernel, by decide +kernel, cq_11.2, by decide⟩
theorem cz_195 : COk (195, 1) := ⟨tgg (tin_5 (i := 53) rfl) rfl, wi_11, cq_11.1.1, cq_11.1.2, by decide +kernel, by decide +kernel, cq_11.2, by decide⟩
theorem cz_196 : COk (196, 1) := ⟨tgg (tin_5 (i := 65) rfl) rfl, wi_11, cq_11.1.1, cq_11.1.2, by decide +kernel, by decide +kernel, cq_11.2, by decide⟩
theorem cz_197 : COk (197, 1) := ⟨tgg (tin_5 (i := 69) rfl) rfl, wi_11, cq_11.1.1, cq_11.1.2, by decide +kernel, by decide +kernel, cq_11.2, by decide⟩
theorem cz_198 : COk (198, 1) := ⟨tgg (tin_4 (i := 144) rfl) rfl, wi_11, cq_11.1.1, cq_11.1.2, by decide +kernel, by decide +kernel, cq_11.2, by decide⟩
theorem cz_199 : COk (199, 1) := ⟨tgg (tin_6 (i := 218) rfl) rfl, wi_11, cq_11.1.1, cq_11.1.2, by decide +kernel, by decide +kernel, cq_11.2, by decide⟩
theorem cz_200 : COk (200, 1) := ⟨tgg (tin_6 (i := 181) rfl) rfl, wi_11, cq_11.1.1, cq_11.1.2, by decide +kernel, by decide +kernel, cq_11.2, by decide⟩
theorem cz_201 : COk (201, 1) := ⟨tgg (tin_5 (i := 225) rfl) rfl, wi_11, cq_11.1.1, cq_11.1.2, by decide +kernel, by decide +kernel, cq_11.2, by decide⟩
theorem cz_202 : COk (202, 1) := ⟨tgg (tin_5 (i := 26) rfl) rfl, wi_11, cq_11.1.1, cq_11.1.2, by decide +kernel, by decide +kernel, cq_11.2, by decide⟩
theorem cz_203 : COk (203, 1) := ⟨tgg (tin_3 (i := 108) rfl) rfl, wi_11, cq_11.1.1, cq_11.1.2, by decide +kernel, by decide +kernel, cq_11.2, by decide⟩
theorem cz_204 : COk (204, 2) := ⟨tgg (tin_3 (i := 54) rfl) rfl, wi_11, cq_11.1.1, cq_11.1.2, by decide +kernel, by decide +kernel, cq_11.2, by decide⟩
theorem cz_205 : COk (205, 2) := ⟨tgg (tin_6 (i := 25) rfl) rfl, wi_11, cq_11.1.1, cq_11.1.2, by decide +kernel, by decide +kernel, cq_11.2, by decide⟩
theorem cz_206 : COk (206, 0) := ⟨tgg (tin_7 (i := 157) rfl) rfl, wi_12, cq_12.1.1, cq_12.1.2, by decide +kernel, by decide +kernel, cq_12.2, by decide⟩
theorem cz_207 : COk (207, 0) := ⟨tgg (tin_7 (i := 166) rfl) rfl, wi_12, cq_12.1.1, cq_12.1.2, by decide +kernel, by decide +kernel, cq_12.2, by decide⟩
theorem cz_208 : COk (208, 0) := ⟨tgg (tin_8 (i := 92) rfl) rfl, wi_12, cq_12.1.1, cq_12.1.2, by decide +kernel, by decide +kernel, cq_12.2, by decide⟩
theorem cz_209 : COk (209, 3) := ⟨tgg (tin_8 (i := 107) rfl) rfl, wi_12, cq_12.1.1, cq_12.1.2, by decide +kernel, by decide +kernel, cq_12.2, by decide⟩
theorem cz_210 : COk (210, 3) := ⟨tgg (tin_8 (i := 103) rfl) rfl, wi_12, cq_12.1.1, cq_12.1.2, by decide +kernel, by decide +kernel, cq_12.2, by decide⟩
theorem cz_211 : COk (211, 5) := ⟨tgg (tin_8 (i := 96) rfl) rfl, wi_12, cq_12.1.1, cq_12.1.2, by decide +kernel, by decide +kernel, cq_12.2, by decide⟩
theorem cz_212 : COk (212, 1) := ⟨tgg (tin_8 (i := 119) rfl) rfl, wi_12, cq_12.1.1, cq_12.1.2, by decide +kernel, by decide +kernel, cq_12.2, by decide⟩
theorem cz_213 : COk (213, 0) := ⟨tgg (tin_8 (i := 115) rfl) rfl, wi_12, cq_12.1.1, cq_12.1.2, by decide +kernel, by decide +kernel, cq_12.2, by decide⟩
theorem cz_214 : COk (214, 2) := ⟨tgg (tin_8 (i := 145) rfl) rfl, wi_12, cq_12.1.1, cq_12.1.2, by decide +kernel, by decide +kernel, cq_12.2, by decide⟩
theorem cz_215 : COk (215, 1) := ⟨tgg (tin_8 (i := 160) rfl) rfl, wi_12, cq_12.1.1, cq_12.1.2, by decide +kernel, by decide +kernel, cq_12.2, by decide⟩
theorem cz_216 : COk (216, 1) := ⟨tgg (tin_8 (i := 138) rfl) rfl, wi_12, cq_12.1.1, cq_12.1.2, by decide +kernel, by decide +kernel, cq_12.2, by decide⟩
theorem cz_217 : COk (217, 2) := ⟨tgg (tin_8 (i := 157) rfl) rfl, wi_12, cq_12.1.1, cq_12.1.2, by decide +kernel, by decide +kernel, cq_12.2, by decide⟩
theorem cz_218 : COk (218, 2) := ⟨tgg (tin_8 (i := 173) rfl) rfl, wi_12, cq_12.1.1, cq_12.1.2, by decide +kernel, by decide +kernel, cq_12.2, by decide⟩
theorem cz_219 : COk (219, 0) := ⟨tgg (tin_8 (i := 135) rfl) rfl, wi_12, cq_12.1.1, cq_12.1.2, by decide +kernel, by decide +kernel, cq_12.2, by decide⟩
theorem cz_220 : COk (220, 5) := ⟨tgg (tin_8 (i := 141) rfl) rfl, wi_12, cq_12.1.1, cq_12.1.2, by decide +kernel, by decide +kernel, cq_12.2, by decide⟩
theorem cz_221 : COk (221, 5) := ⟨tgg (tin_8 (i := 131) rfl) rfl, wi_12, cq_12.1.1, cq_12.1.2, by decide +kernel, by decide +kernel, cq_12.2, by decide⟩
theorem cz_222 : COk (222, 0) := ⟨tgg (tin_8 (i := 153) rfl) rfl, wi_12, cq_12.1.1, cq_12.1.2, by decide +kernel, by decide +kernel, cq_12.2, by decide⟩
theorem cz_223 : COk (223, 5) := ⟨tgg (tin_8 (i := 215) rfl) rfl, wi_12, cq_12.1.1, cq_12.1.2, by decide +kernel, by decide +kernel, cq_12.2, by decide⟩
theorem cz_224 : COk (224, 1) := ⟨tgg (tin_8 (i := 177) rfl) rfl, wi_12, cq_12.1.1, cq_12.1.2, by decide +kernel, by decide +kernel, cq_12.2, by decide⟩
theorem cz_225 : COk (225, 1) := ⟨tgg (tin_8 (i := 111) rfl) rfl, wi_12, cq_12.1.1, cq_12.1.2, by decide +kernel, by decide +kernel, cq_12.2, by decide⟩
theorem cz_226 : COk (226, 0) := ⟨tgg (tin_8 (i := 127) rfl) rfl, wi_12, cq_12.1.1, cq_12.1.2, by decide +kernel, by decide +kernel, cq_12.2, by decide⟩
theorem cz_227 : COk (227, 1) := ⟨tgg (tin_8 (i := 149) rfl) rfl, wi_12, cq_12.1.1, cq_12.1.2, by decide +kernel, by decide +kernel, cq_12.2, by decide⟩
theorem cz_228 : COk (228, 0) := ⟨tgg (tin_8 (i := 169) rfl) rfl, wi_12, cq_12.1.1, cq_12.1.2, by decide +kernel, by decide +kernel, cq_12.2, by decide⟩
theorem cz_229 : COk (229, 0) := ⟨tgg (tin_8 (i := 123) rfl) rfl, wi_12, cq_12.1.1, cq_12.1.2, by decide +kernel, by decide +kernel, cq_12.2, by decide⟩
theorem cz_230 : COk (230, 1) := ⟨tgg (tin_8 (i := 165) rfl) rfl, wi_12, cq_12.1.1, cq_12.1.2, by decide +kernel, by decide +kernel, cq_12.2, by decide⟩
theorem cz_231 : COk (231, 1) := ⟨tgg (tin_8 (i := 180) rfl) rfl, wi_12, cq_12.1.1, cq_12.1.2, by decide +kernel, by decide +kernel, cq_12.2, by decide⟩
theorem cz_232 : COk (232, 1) := ⟨tgg (tin_8 (i := 100) rfl) rfl, wi_12, cq_12.1.1, cq_12.1.2, by decide +kernel, by decide +kernel, cq_12.2, by decide⟩
theorem cz_233 : COk (233, 0) := ⟨tgg (tin_7 (i := 170) rfl) rfl, wi_12, cq_12.1.1, cq_12.1.2, by decide +kernel, by decide +kernel, cq_12.2, by decide⟩
theorem cz_234 : COk (234, 2) := ⟨tgg (tin_8 (i := 211) rfl) rfl, wi_12, cq_12.1.1, cq_12.1.2, by decide +kernel, by decide +kernel, cq_12.2, by decide⟩
theorem cz_235 : COk (235, 0) := ⟨tgg (tin_8 (i := 207) rfl) rfl, wi_12, cq_12.1.1, cq_12.1.2, by decide +kernel, by decide +kernel, cq_12.2, by decide⟩
theorem cz_236 : COk (236, 0) := ⟨tgg (tin_8 (i := 195) rfl) rfl, wi_12, cq_12.1.1, cq_12.1.2, by decide +kernel, by decide +kernel, cq_12.2, by decide⟩
theorem cz_237 : COk (237, 0) := ⟨tgg (tin_8 (i := 199) rfl) rfl, wi_12, cq_12.1.1, cq_12.1.2, by decide +kernel, by decide +kernel, cq_12.2, by decide⟩
theorem cz_238 : COk (238, 0) := ⟨tgg (tin_8 (i := 203) rfl) rfl, wi_12, cq_12.1.1, cq_12.1.2, by decide +kernel, by decide +kernel, cq_12.2, by decide⟩
theorem cz_239 : COk (239, 1) := ⟨tgg (tin_8 (i := 219) rfl) rfl, wi_12, cq_12.1.1, cq_12.1.2, by decide +kernel, by decide +kernel, cq_12.2, by decide⟩
theorem cz_240 : COk (240, 3) := ⟨tgg (tin_8 (i := 223) rfl) rfl, wi_12, cq_12.1.1, cq_12.1.2, by decide +kernel, by decide +kernel, cq_12.2, by decide⟩
theorem cz_241 : COk (241, 2) := ⟨tgg (tin_8 (i := 191) rfl) rfl, wi_12, cq_12.1.1, cq_12.1.2, by decide +kernel, by decide +kernel, cq_12.2, by decide⟩
theorem cz_242 : COk (242, 1) := ⟨tgg (tin_8 (i := 187) rfl) rfl, wi_12, cq_12.1.1, cq_12.1.2, by decide +kernel, by decide +kernel, cq_12.2, by decide⟩
theorem cz_243 : COk (243, 2) := ⟨tgg (tin_8 (i := 184) rfl) rfl, wi_12, cq_12.1.1, cq_12.1.2, by decide +kernel, by decide +kernel, cq_12.2, by decide⟩
theorem cz_244 : COk (244, 1) := ⟨tgg (tin_8 (i := 227) rfl) rfl, wi_12, cq_12.1.1, cq_12.1.2, by decide +kernel, by decide +kernel, cq_12.2, by decide⟩
theorem cz_245 : COk (245, 0) := ⟨tgg (tin_8 (i := 231) rfl) rfl, wi_12, cq_12.1.1, cq_12.1.2, by decide +kernel, by decide +kernel, cq_12.2, by decide⟩
theorem cz_246 : COk (246, 1) := ⟨tgg (tin_8 (i := 235) rfl) rfl, wi_12, cq_12.1.1, cq_12.1.2, by decide +kernel, by decide +kernel, cq_12.2, by decide⟩
theorem cz_247 : COk (247, 1) := ⟨tgg (tin_9 (i := 3) rfl) rfl, wi_12, cq_12.1.1, cq_12.1.2, by decide +kernel, by decide +kernel, cq_12.2, by decide⟩
theorem cz_248 : COk (248, 1) := ⟨tgg (tin_9 (i := 11) rfl) rfl, wi_12, cq_12.1.1, cq_12.1.2, by decide +kernel, by decide +kernel, cq_12.2, by decide⟩
theorem cz_249 : COk (249, 1) := ⟨tgg (tin_9 (i := 18) rfl) rfl, wi_12, cq_12.1.1, cq_12.1.2, by decide +kernel, by decide +kernel, cq_12.2, by decide⟩
theorem cz_250 : COk (250, 1) := ⟨tgg (tin_9 (i := 22) rfl) rfl, wi_12, cq_12.1.1, cq_12.1.2, by decide +kernel, by decide +kernel, cq_12.2, by decide⟩
theorem cz_251 : COk (251, 2) := ⟨tgg (tin_8 (i := 239) rfl) rfl, wi_12, cq_12.1.1, cq_12.1.2, by decide +kernel, by decide +kernel, cq_12.2, by decide⟩
theorem cz_252 : COk (252, 2) := ⟨tgg (tin_9 (i := 7) rfl) rfl, wi_12, cq_12.1.1, cq_12.1.2, by decide +kernel, by decide +kernel, cq_12.2, by decide⟩
theorem cz_253 : COk (253, 3) := ⟨tgg (tin_9 (i := 26) rfl) rfl, wi_12, cq_12.1.1, cq_12.1.2, by decide +kernel, by decide +kernel, cq_12.2, by decide⟩
theorem cz_254 : COk (254, 2) := ⟨tgg (tin_9 (i := 34) rfl) rfl, wi_12, cq_12.1.1, cq_12.1.2, by decide +kernel, by decide +kernel, cq_12.2, by decide⟩
theorem cz_255 : COk (255, 3) := ⟨tgg (tin_9 (i := 46) rfl) rfl, wi_12, cq_12.1.1, cq_12.1.2, by decide +kernel, by decide +kernel, cq_12.2, by decide⟩
theorem cz_256 : COk (256, 2) := ⟨tgg (tin_9 (i := 54) rfl) rfl, wi_12, cq_12.1.1, cq_12.1.2, by decide +kernel, by decide +kernel, cq_12.2, by decide⟩
theorem cz_257 : COk (257, 4) := ⟨tgg (tin_9 (i := 62) rfl) rfl, wi_12, cq_12.1.1, cq_12.1.2, by decide +kernel, by decide +kernel, cq_12.2, by decide⟩
theorem cz_258 : COk (258, 3) := ⟨tgg (tin_9 (i := 15) rfl) rfl, wi_12, cq_12.1.1, cq_12.1.2, by decide +kernel, by decide +kernel, cq_12.2, by decide⟩
theorem cz_259 : COk (259, 2) := ⟨tgg (tin_9 (i := 30) rfl) rfl, wi_12, cq_12.1.1, cq_12.1.2, by decide +kernel, by decide +kernel, cq_12.2, by decide⟩
theorem cz_260 : COk (260, 2) := ⟨tgg (tin_9 (i := 42) rfl) rfl, wi_12, cq_12.1.1, cq_12.1.2, by decide +kernel, by decide +kernel, cq_12.2, by decide⟩
theorem cz_261 : COk (261, 2) := ⟨tgg (tin_9 (i := 38) rfl) rfl, wi_12, cq_12.1.1, cq_12.1.2, by decide +kernel, by decide +kernel, cq_12.2, by decide⟩
theorem cz_262 : COk (262, 2) := ⟨tgg (tin_9 (i := 50) rfl) rfl, wi_12, cq_12.1.1, cq_12.1.2, by decide +kernel, by decide +kernel, cq_12.2, by decide⟩
theorem cz_263 : COk (263, 4) := ⟨tgg (tin_9 (i := 58) rfl) rfl, wi_12, cq_12.1.1, cq_12.1.2, by decide +kernel, by decide +kernel, cq_12.2, by decide⟩
theorem cz_264 : COk (264, 4) := ⟨tgg (tin_9 (i := 70) rfl) rfl, wi_12, cq_12.1.1, cq_12.1.2, by decide +kernel, by decide +kernel, cq_12.2, by decide⟩
theorem cz_265 : COk (265, 0) := ⟨tgg (tin_9 (i := 86) rfl) rfl, wi_12, cq_12.1.1, cq_12.1.2, by decide +kernel, by decide +kernel, cq_12.2, by decide⟩
theorem cz_266 : COk (266, 1) := ⟨tgg (tin_9 (i := 94) rfl) rfl, wi_12, cq_12.1.1, cq_12.1.2, by decide +kernel, by decide +kernel, cq_12.2, by decide⟩
theorem cz_267 : COk (267, 3) := ⟨tgg (tin_9 (i := 66) rfl) rfl, wi_12, cq_12.1.1, cq_12.1.2, by decide +kernel, by decide +kernel, cq_12.2, by decide⟩
theorem cz_268 : COk (268, 2) := ⟨tgg (tin_9 (i := 82) rfl) rfl, wi_12, cq_12.1.1, cq_12.1.2, by decide +kernel, by decide +kernel, cq_12.2, by decide⟩
theorem cz_269 : COk (269, 0) := ⟨tgg (tin_9 (i := 78) rfl) rfl, wi_12, cq_12.1.1, cq_12.1.2, by decide +kernel, by decide +kernel, cq_12.2, by decide⟩
theorem cz_270 : COk (270, 0) := ⟨tgg (tin_9 (i := 74) rfl) rfl, wi_12, cq_12.1.1, cq_12.1.2, by decide +kernel, by decide +kernel, cq_12.2, by decide⟩
theorem cz_271 : COk (271, 0) := ⟨tgg (tin_9 (i := 91) rfl) rfl, wi_12, cq_12.1.1, cq_12.1.2, by decide +kernel, by decide +kernel, cq_12.2, by decide⟩
theorem cz_272 : COk (272, 2) := ⟨tgg (tin_9 (i := 102) rfl) rfl, wi_12, cq_12.1.1, cq_12.1.2, by decide +kernel, by decide +kernel, cq_12.2, by decide⟩
theorem cz_273 : COk (273, 1) := ⟨tgg (tin_9 (i := 98) rfl) rfl, wi_12, cq_12.1.1, cq_12.1.2, by decide +kernel, by decide +kernel, cq_12.2, by decide⟩
theorem cz_274 : COk (274, 1) := ⟨tgg (tin_9 (i := 106) rfl) rfl, wi_12, cq_12.1.1, cq_12.1.2, by decide +kernel, by decide +kernel, cq_12.2, by decide⟩
theorem cz_275 : COk (275, 2) := ⟨tgg (tin_9 (i := 110) rfl) rfl, wi_12, cq_12.1.1, cq_12.1.2, by decide +kernel, by decide +kernel, cq_12.2, by decide⟩
theorem cz_276 : COk (276, 1) := ⟨tgg (tin_9 (i := 114) rfl) rfl, wi_12, cq_12.1.1, cq_12.1.2, by decide +kernel, by decide +kernel, cq_12.2, by decide⟩
theorem cz_277 : COk (277, 0) := ⟨tgg (tin_9 (i := 118) rfl) rfl, wi_12, cq_12.1.1, cq_12.1.2, by decide +kernel, by decide +kernel, cq_12.2, by decide⟩
theorem cz_278 : COk (278, 4) := ⟨tgg (tin_9 (i := 122) rfl) rfl, wi_12, cq_12.1.1, cq_12.1.2, by decide +kernel, by decide +kernel, cq_12.2, by decide⟩
theorem cz_279 : COk (279, 0) := ⟨tgg (tin_9 (i := 130) rfl) rfl, wi_12, cq_12.1.1, cq_12.1.2, by decide +kernel, by decide +kernel, cq_12.2, by decide⟩
theorem cz_280 : COk (280, 1) := ⟨tgg (tin_9 (i := 126) rfl) rfl, wi_12, cq_12.1.1, cq_12.1.2, by decide +kernel, by decide +kernel, cq_12.2, by decide⟩
theorem cz_281 : COk (281, 0) := ⟨tgg (tin_9 (i := 134) rfl) rfl, wi_12, cq_12.1.1, cq_12.1.2, by decide +kernel, by decide +kernel, cq_12.2, by decide⟩
theorem cz_282 : COk (282, 0) := ⟨tgg (tin_9 (i := 138) rfl) rfl, wi_12, cq_12.1.1, cq_12.1.2, by decide +kernel, by decide +kernel, cq_12.2, by decide⟩
theorem cz_283 : COk (283, 1) := ⟨tgg (tin_9 (i := 146) rfl) rfl, wi_12, cq_12.1.1, cq_12.1.2, by decide +kernel, by decide +kernel, cq_12.2, by decide⟩
theorem cz_284 : COk (284, 4) := ⟨tgg (tin_9 (i := 150) rfl) rfl, wi_12, cq_12.1.1, cq_12.1.2, by decide +kernel, by decide +kernel, cq_12.2, by decide⟩
theorem cz_285 : COk (285, 2) := ⟨tgg (tin_9 (i := 142) rfl) rfl, wi_12, cq_12.1.1, cq_12.1.2, by decide +kernel, by decide +kernel, cq_12.2, by decide⟩
theorem cz_286 : COk (286, 1) := ⟨tgg (tin_9 (i := 162) rfl) rfl, wi_12, cq_12.1.1, cq_12.1.2, by decide +kernel, by decide +kernel, cq_12.2, by decide⟩
theorem cz_287 : COk (287, 3) := ⟨tgg (tin_9 (i := 158) rfl) rfl, wi_12, cq_12.1.1, cq_12.1.2, by decide +kernel, by decide +kernel, cq_12.2, by decide⟩
theorem cz_288 : COk (288, 2) := ⟨tgg (tin_9 (i := 154) rfl) rfl, wi_12, cq_12.1.1, cq_12.1.2, by decide +kernel, by decide +kernel, cq_12.2, by decide⟩
theorem cz_289 : COk (289, 2) := ⟨tgg (tin_9 (i := 166) rfl) rfl, wi_12, cq_12.1.1, cq_12.1.2, by decide +kernel, by decide +kernel, cq_12.2, by decide⟩
theorem cz_290 : COk (290, 3) := ⟨tgg (tin_9 (i := 174) rfl) rfl, wi_12, cq_12.1.1, cq_12.1.2, by decide +kernel, by decide +kernel, cq_12.2, by decide⟩
theorem cz_291 : COk (291, 2) := ⟨tgg (tin_9 (i := 170) rfl) rfl, wi_12, cq_12.1.1, cq_12.1.2, by decide +kernel, by decide +kernel, cq_12.2, by decide⟩
theorem cz_292 : COk (292, 3) := ⟨tgg (tin_9 (i := 182) rfl) rfl, wi_12, cq_12.1.1, cq_12.1.2, by decide +kernel, by decide +kernel, cq_12.2, by decide⟩
theorem cz_293 : COk (293, 1) := ⟨tgg (tin_9 (i := 178) rfl) rfl, wi_12, cq_12.1.1, cq_12.1.2, by decide +kernel, by decide +kernel, cq_12.2, by decide⟩
theorem cz_294 : COk (294, 3) := ⟨tgg (tin_9 (i := 198) rfl) rfl, wi_12, cq_12.1.1, cq_12.1.2, by decide +kernel, by decide +kernel, cq_12.2, by decide⟩
theorem cz_295 : COk (295, 2) := ⟨tgg (tin_9 (i := 194) rfl) rfl, wi_12, cq_12.1.1, cq_12.1.2, by decide +kernel, by decide +kernel, cq_12.2, by decide⟩
theorem cz_296 : COk (296, 5) := ⟨tgg (tin_9 (i := 190) rfl) rfl, wi_12, cq_12.1.1, cq_12.1.2, by decide +kernel, by decide +kernel, cq_12.2, by decide⟩
theorem cz_297 : COk (297, 3) := ⟨tgg (tin_9 (i := 186) rfl) rfl, wi_12, cq_12.1.1, cq_12.1.2, by decide +kernel, by decide +kernel, cq_12.2, by decide⟩
theorem cz_298 : COk (298, 2) := ⟨tgg (tin_9 (i := 202) rfl) rfl, wi_12, cq_12.1.1, cq_12.1.2, by decide +kernel, by decide +kernel, cq_12.2, by decide⟩
theorem cz_299 : COk (299, 3) := ⟨tgg (tin_9 (i := 206) rfl) rfl, wi_12, cq_12.1.1, cq_12.1.2, by decide +kernel, by decide +kernel, cq_12.2, by decide⟩
theorem cz_300 : COk (300, 1) := ⟨tgg (tin_9 (i := 214) rfl) rfl, wi_12, cq_12.1.1, cq_12.1.2, by decide +kernel, by decide +kernel, cq_12.2, by decide⟩
theorem cz_301 : COk (301, 2) := ⟨tgg (tin_9 (i := 218) rfl) rfl, wi_12, cq_12.1.1, cq_12.1.2, by decide +kernel, by decide +kernel, cq_12.2, by decide⟩
theorem cz_302 : COk (302, 3) := ⟨tgg (tin_9 (i := 210) rfl) rfl, wi_12, cq_12.1.1, cq_12.1.2, by decide +kernel, by decide +kernel, cq_12.2, by decide⟩
theorem cz_303 : COk (303, 3) := ⟨tgg (tin_9 (i := 222) rfl) rfl, wi_12, cq_12.1.1, cq_12.1.2, by decide +kernel, by decide +kernel, cq_12.2, by decide⟩
theorem cz_304 : COk (304, 5) := ⟨tgg (tin_9 (i := 234) rfl) rfl, wi_12, cq_12.1.1, cq_12.1.2, by decide +kernel, by decide +kernel, cq_12.2, by decide⟩
theorem cz_305 : COk (305, 2) := ⟨tgg (tin_9 (i := 230) rfl) rfl, wi_12, cq_12.1.1, cq_12.1.2, by decide +kernel, by decide +kernel, cq_12.2, by decide⟩
theorem cz_306 : COk (306, 2) := ⟨tgg (tin_9 (i := 226) rfl) rfl, wi_12, cq_12.1.1, cq_12.1.2, by decide +kernel, by decide +kernel, cq_12.2, by decide⟩
theorem cz_307 : COk (307, 2) := ⟨tgg (tin_9 (i := 238) rfl) rfl, wi_12, cq_12.1.1, cq_12.1.2, by decide +kernel, by decide +kernel, cq_12.2, by decide⟩
theorem cz_308 : COk (308, 2) := ⟨tgg (tin_10 (i := 6) rfl) rfl, wi_12, cq_12.1.1, cq_12.1.2, by decide +kernel, by decide +kernel, cq_12.2, by decide⟩
theorem cz_309 : COk (309, 2) := ⟨tgg (tin_10 (i := 2) rfl) rfl, wi_12, cq_12.1.1, cq_12.1.2, by decide +kernel, by decide +kernel, cq_12.2, by decide⟩
theorem cz_310 : COk (310, 3) := ⟨tgg (tin_10 (i := 10) rfl) rfl, wi_12, cq_12.1.1, cq_12.1.2, by decide +kernel, by decide +kernel, cq_12.2, by decide⟩
theorem cz_311 : COk (311, 2) := ⟨tgg (tin_10 (i := 18) rfl) rfl, wi_12, cq_12.1.1, cq_12.1.2, by decide +kernel, by decide +kernel, cq_12.2, by decide⟩
theorem cz_312 : COk (312, 3) := ⟨tgg (tin_10 (i := 14) rfl) rfl, wi_12, cq_12.1.1, cq_12.1.2, by decide +kernel, by decide +kernel, cq_12.2, by decide⟩
theorem cz_313 : COk (313, 2) := ⟨tgg (tin_10 (i := 23) rfl) rfl, wi_12, cq_12.1.1, cq_12.1.2, by decide +kernel, by decide +kernel, cq_12.2, by decide⟩
theorem cz_314 : COk (314, 1) := ⟨tgg (tin_10 (i := 27) rfl) rfl, wi_12, cq_12.1.1, cq_12.1.2, by decide +kernel, by decide +kernel, cq_12.2, by decide⟩
theorem cz_315 : COk (315, 4) := ⟨tgg (tin_10 (i := 35) rfl) rfl, wi_12, cq_12.1.1, cq_12.1.2, by decide +kernel, by decide +kernel, cq_12.2, by decide⟩
theorem cz_316 : COk (316, 1) := ⟨tgg (tin_10 (i := 31) rfl) rfl, wi_12, cq_12.1.1, cq_12.1.2, by decide +kernel, by decide +kernel, cq_12.2, by decide⟩
theorem cz_317 : COk (317, 2) := ⟨tgg (tin_10 (i := 39) rfl) rfl, wi_12, cq_12.1.1, cq_12.1.2, by decide +kernel, by decide +kernel, cq_12.2, by decide⟩
theorem cz_318 : COk (318, 2) := ⟨tgg (tin_10 (i := 43) rfl) rfl, wi_12, cq_12.1.1, cq_12.1.2, by decide +kernel, by decide +kernel, cq_12.2, by decide⟩
theorem cz_319 : COk (319, 2) := ⟨tgg (tin_10 (i := 47) rfl) rfl, wi_12, cq_12.1.1, cq_12.1.2, by decide +kernel, by decide +kernel, cq_12.2, by decide⟩
theorem cz_320 : COk (320, 3) := ⟨tgg (tin_10 (i := 51) rfl) rfl, wi_12, cq_12.1.1, cq_12.1.2, by decide +kernel, by decide +kernel, cq_12.2, by decide⟩
theorem cz_321 : COk (321, 1) := ⟨tgg (tin_10 (i := 55) rfl) rfl, wi_12, cq_12.1.1, cq_12.1.2, by decide +kernel, by decide +kernel, cq_12.2, by decide⟩
theorem cz_322 : COk (322, 2) := ⟨tgg (tin_10 (i := 59) rfl) rfl, wi_12, cq_12.1.1, cq_12.1.2, by decide +kernel, by decide +kernel, cq_12.2, by decide⟩
theorem cz_323 : COk (323, 2) := ⟨tgg (tin_10 (i := 63) rfl) rfl, wi_12, cq_12.1.1, cq_12.1.2, by decide +kernel, by decide +kernel, cq_12.2, by decide⟩
theorem cz_324 : COk (324, 0) := ⟨tgg (tin_10 (i := 67) rfl) rfl, wi_12, cq_12.1.1, cq_12.1.2, by decide +kernel, by decide +kernel, cq_12.2, by decide⟩
theorem cz_325 : COk (325, 3) := ⟨tgg (tin_10 (i := 79) rfl) rfl, wi_12, cq_12.1.1, cq_12.1.2, by decide +kernel, by decide +kernel, cq_12.2, by decide⟩
theorem cz_326 : COk (326, 3) := ⟨tgg (tin_10 (i := 83) rfl) rfl, wi_12, cq_12.1.1, cq_12.1.2, by decide +kernel, by decide +kernel, cq_12.2, by decide⟩
theorem cz_327 : COk (327, 2) := ⟨tgg (tin_10 (i := 75) rfl) rfl, wi_12, cq_12.1.1, cq_12.1.2, by decide +kernel, by decide +kernel, cq_12.2, by decide⟩
theorem cz_328 : COk (328, 0) := ⟨tgg (tin_10 (i := 71) rfl) rfl, wi_12, cq_12.1.1, cq_12.1.2, by decide +kernel, by decide +kernel, cq_12.2, by decide⟩
theorem cz_329 : COk (329, 0) := ⟨tgg (tin_10 (i := 87) rfl) rfl, wi_12, cq_12.1.1, cq_12.1.2, by decide +kernel, by decide +kernel, cq_12.2, by decide⟩
theorem cz_330 : COk (330, 1) := ⟨tgg (tin_10 (i := 91) rfl) rfl, wi_12, cq_12.1.1, cq_12.1.2, by decide +kernel, by decide +kernel, cq_12.2, by decide⟩
theorem cz_331 : COk (331, 1) := ⟨tgg (tin_10 (i := 95) rfl) rfl, wi_12, cq_12.1.1, cq_12.1.2, by decide +kernel, by decide +kernel, cq_12.2, by decide⟩
def cT_0 : List (Nat × Nat) := [(0, 2), (1, 1), (10, 2), (100, 2), (101, 2), (102, 3), (103, 2), (104, 3), (105, 2), (106, 2), (107, 2), (108, 2), (109, 0), (11, 2), (110, 1), (111, 3), (112, 2), (113, 2), (114, 1), (115, 2), (116, 3), (117, 2), (118, 1), (119, 1), (12, 1), (120, 0), (121, 1), (122, 1), (123, 1), (124, 1), (125, 2), (126, 0), (127, 5), (128, 1), (129, 1), (13, 2), (130, 2), (131, 1), (132, 2), (133, 1)]
theorem cT_ok_0 : ∀ t ∈ cT_0, COk t := List.forall_mem_cons.mpr ⟨cz_0, List.forall_mem_cons.mpr ⟨cz_1, List.forall_mem_cons.mpr ⟨cz_10, List.forall_mem_cons.mpr ⟨cz_100, List.forall_mem_cons.mpr ⟨cz_101, List.forall_mem_cons.mpr ⟨cz_102, List.forall_mem_cons.mpr ⟨cz_103, List.forall_mem_cons.mpr ⟨cz_104, List.forall_mem_cons.mpr ⟨cz_105, List.forall_mem_cons.mpr ⟨cz_106, List.forall_mem_cons.mpr ⟨cz_107, List.forall_mem_cons.mpr ⟨cz_108, List.forall_mem_cons.mpr ⟨cz_109, List.forall_mem_cons.mpr ⟨cz_11, List.forall_mem_cons.mpr ⟨cz_110, List.forall_mem_cons.mpr ⟨cz_111, List.forall_mem_cons.mpr ⟨cz_112, List.forall_mem_cons.mpr ⟨cz_113, List.forall_mem_cons.mpr ⟨cz_114, List.forall_mem_cons.mpr ⟨cz_115, List.forall_mem_cons.mpr ⟨cz_116, List.forall_mem_cons.mpr ⟨cz_117, List.forall_mem_cons.mpr ⟨cz_118, List.forall_mem_cons.mpr ⟨cz_119, List.forall_mem_cons.mpr ⟨cz_12, List.forall_mem_cons.mpr ⟨cz_120, List.forall_mem_cons.mpr ⟨cz_121, List.forall_mem_cons.mpr ⟨cz_122, List.forall_mem_cons.mpr ⟨cz_123, List.forall_mem_cons.mpr ⟨cz_124, List.forall_mem_cons.mpr ⟨cz_125, List.forall_mem_cons.mpr ⟨cz_126, List.forall_mem_cons.mpr ⟨cz_127, List.forall_mem_cons.mpr ⟨cz_128, List.forall_mem_cons.mpr ⟨cz_129, List.forall_mem_cons.mpr ⟨cz_13, List.forall_mem_cons.mpr ⟨cz_130, List.forall_mem_cons.mpr ⟨cz_131, List.forall_mem_cons.mpr ⟨cz_132, List.forall_mem_cons.mpr ⟨cz_133, fun _ h => absurd h List.not_mem_nil⟩⟩⟩⟩⟩⟩⟩⟩⟩⟩⟩⟩⟩⟩⟩⟩⟩⟩⟩⟩⟩⟩⟩⟩⟩⟩⟩⟩⟩⟩⟩⟩⟩⟩⟩⟩⟩⟩⟩⟩
def cT_1 : List (Nat × Nat) := [(134, 0), (135, 1), (136, 2), (137, 2), (138, 3), (139, 2), (14, 3), (140, 2), (141, 2), (142, 4), (143, 3), (144, 0), (145, 0), (146, 1), (147, 1), (148, 1), (149, 0), (15, 3), (150, 2), (151, 1), (152, 0), (153, 0), (154, 4), (155, 1), (156, 0), (157, 0), (158, 1), (159, 2), (16, 2), (160, 2), (161, 2), (162, 2), (163, 2), (164, 1), (165, 1), (166, 3), (167, 2), (168, 3), (169, 2), (17, 1)]
theorem cT_ok_1 : ∀ t ∈ cT_1, COk t := List.forall_mem_cons.mpr ⟨cz_134, List.forall_mem_cons.mpr ⟨cz_135, List.forall_mem_cons.mpr ⟨cz_136, List.forall_mem_cons.mpr ⟨cz_137, List.forall_mem_cons.mpr ⟨cz_138, List.forall_mem_cons.mpr ⟨cz_139, List.forall_mem_cons.mpr ⟨cz_14, List.forall_mem_cons.mpr ⟨cz_140, List.forall_mem_cons.mpr ⟨cz_141, List.forall_mem_cons.mpr ⟨cz_142, List.forall_mem_cons.mpr ⟨cz_143, List.forall_mem_cons.mpr ⟨cz_144, List.forall_mem_cons.mpr ⟨cz_145, List.forall_mem_cons.mpr ⟨cz_146, List.forall_mem_cons.mpr ⟨cz_147, List.forall_mem_cons.mpr ⟨cz_148, List.forall_mem_cons.mpr ⟨cz_149, List.forall_mem_cons.mpr ⟨cz_15, List.forall_mem_cons.mpr ⟨cz_150, List.forall_mem_cons.mpr ⟨cz_151, List.forall_mem_cons.mpr ⟨cz_152, List.forall_mem_cons.mpr ⟨cz_153, List.forall_mem_cons.mpr ⟨cz_154, List.forall_mem_cons.mpr ⟨cz_155, List.forall_mem_cons.mpr ⟨cz_156, List.forall_mem_cons.mpr ⟨cz_157, List.forall_mem_cons.mpr ⟨cz_158, List.forall_mem_cons.mpr ⟨cz_159, List.forall_mem_cons.mpr ⟨cz_16, List.forall_mem_cons.mpr ⟨cz_160, List.forall_mem_cons.mpr ⟨cz_161, List.forall_mem_cons.mpr ⟨cz_162, List.forall_mem_cons.mpr ⟨cz_163, List.forall_mem_cons.mpr ⟨cz_164, List.forall_mem_cons.mpr ⟨cz_165, List.forall_mem_cons.mpr ⟨cz_166, List.forall_mem_cons.mpr ⟨cz_167, List.forall_mem_cons.mpr ⟨cz_168, List.forall_mem_cons.mpr ⟨cz_169, List.forall_mem_cons.mpr ⟨cz_17, fun _ h => absurd h List.not_mem_nil⟩⟩⟩⟩⟩⟩⟩⟩⟩⟩⟩⟩⟩⟩⟩⟩⟩⟩⟩⟩⟩⟩⟩⟩⟩⟩⟩⟩⟩⟩⟩⟩⟩⟩⟩⟩⟩⟩⟩⟩
def cT_2 : List (Nat × Nat) := [(170, 2), (171, 3), (172, 2), (173, 3), (174, 2), (175, 2), (176, 2), (177, 3), (178, 2), (179, 3), (18, 3), (180, 3), (181, 2), (182, 1), (183, 2), (184, 2), (185, 2), (186, 3), (187, 1), (188, 2), (189, 1), (19, 3), (190, 0), (191, 0), (192, 1), (193, 1), (194, 1), (195, 1), (196, 1), (197, 1), (198, 1), (199, 1), (2, 1), (20, 4), (200, 1), (201, 1), (202, 1), (203, 1), (204, 2), (205, 2)]
theorem cT_ok_2 : ∀ t ∈ cT_2, COk t := List.forall_mem_cons.mpr ⟨cz_170, List.forall_mem_cons.mpr ⟨cz_171, List.forall_mem_cons.mpr ⟨cz_172, List.forall_mem_cons.mpr ⟨cz_173, List.forall_mem_cons.mpr ⟨cz_174, List.forall_mem_cons.mpr ⟨cz_175, List.forall_mem_cons.mpr ⟨cz_176, List.forall_mem_cons.mpr ⟨cz_177, List.forall_mem_cons.mpr ⟨cz_178, List.forall_mem_cons.mpr ⟨cz_179, List.forall_mem_cons.mpr ⟨cz_18, List.forall_mem_cons.mpr ⟨cz_180, List.forall_mem_cons.mpr ⟨cz_181, List.forall_mem_cons.mpr ⟨cz_182, List.forall_mem_cons.mpr ⟨cz_183, List.forall_mem_cons.mpr ⟨cz_184, List.forall_mem_cons.mpr ⟨cz_185, List.forall_mem_cons.mpr ⟨cz_186, List.forall_mem_cons.mpr ⟨cz_187, List.forall_mem_cons.mpr ⟨cz_188, List.forall_mem_cons.mpr ⟨cz_189, List.forall_mem_cons.mpr ⟨cz_19, List.forall_mem_cons.mpr ⟨cz_190, List.forall_mem_cons.mpr ⟨cz_191, List.forall_mem_cons.mpr ⟨cz_192, List.forall_mem_cons.mpr ⟨cz_193, List.forall_mem_cons.mpr ⟨cz_194, List.forall_mem_cons.mpr ⟨cz_195, List.forall_mem_cons.mpr ⟨cz_196, List.forall_mem_cons.mpr ⟨cz_197, List.forall_mem_cons.mpr ⟨cz_198, List.forall_mem_cons.mpr ⟨cz_199, List.forall_mem_cons.mpr ⟨cz_2, List.forall_mem_cons.mpr ⟨cz_20, List.forall_mem_cons.mpr ⟨cz_200, List.forall_mem_cons.mpr ⟨cz_201, List.forall_mem_cons.mpr ⟨cz_202, List.forall_mem_cons.mpr ⟨cz_203, List.forall_mem_cons.mpr ⟨cz_204, List.forall_mem_cons.mpr ⟨cz_205, fun _ h => absurd h List.not_mem_nil⟩⟩⟩⟩⟩⟩⟩⟩⟩⟩⟩⟩⟩⟩⟩⟩⟩⟩⟩⟩⟩⟩⟩⟩⟩⟩⟩⟩⟩⟩⟩⟩⟩⟩⟩⟩⟩⟩⟩⟩
def cT_3 : List (Nat × Nat) := [(206, 0), (207, 0), (208, 0), (209, 3), (21, 4), (210, 3), (211, 5), (212, 1), (213, 0), (214, 2), (215, 1), (216, 1), (217, 2), (218, 2), (219, 0), (22, 0), (220, 5), (221, 5), (222, 0), (223, 5), (224, 1), (225, 1), (226, 0), (227, 1), (228, 0), (229, 0), (23, 1), (230, 1), (231, 1), (232, 1), (233, 0), (234, 2), (235, 0), (236, 0), (237, 0), (238, 0), (239, 1), (24, 1), (240, 3), (241, 2)]
theorem cT_ok_3 : ∀ t ∈ cT_3, COk t := List.forall_mem_cons.mpr ⟨cz_206, List.forall_mem_cons.mpr ⟨cz_207, List.forall_mem_cons.mpr ⟨cz_208, List.forall_mem_cons.mpr ⟨cz_209, List.forall_mem_cons.mpr ⟨cz_21, List.forall_mem_cons.mpr ⟨cz_210, List.forall_mem_cons.mpr ⟨cz_211, List.forall_mem_cons.mpr ⟨cz_212, List.forall_mem_cons.mpr ⟨cz_213, List.forall_mem_cons.mpr ⟨cz_214, List.forall_mem_cons.mpr ⟨cz_215, List.forall_mem_cons.mpr ⟨cz_216, List.forall_mem_cons.mpr ⟨cz_217, List.forall_mem_cons.mpr ⟨cz_218, List.forall_mem_cons.mpr ⟨cz_219, List.forall_mem_cons.mpr ⟨cz_22, List.forall_mem_cons.mpr ⟨cz_220, List.forall_mem_cons.mpr ⟨cz_221, List.forall_mem_cons.mpr ⟨cz_222, List.forall_mem_cons.mpr ⟨cz_223, List.forall_mem_cons.mpr ⟨cz_224, List.forall_mem_cons.mpr ⟨cz_225, List.forall_mem_cons.mpr ⟨cz_226, List.forall_mem_cons.mpr ⟨cz_227, List.forall_mem_cons.mpr ⟨cz_228, List.forall_mem_cons.mpr ⟨cz_229, List.forall_mem_cons.mpr ⟨cz_23, List.forall_mem_cons.mpr ⟨cz_230, List.forall_mem_cons.mpr ⟨cz_231, List.forall_mem_cons.mpr ⟨cz_232, List.forall_mem_cons.mpr ⟨cz_233, List.forall_mem_cons.mpr ⟨cz_234, List.forall_mem_cons.mpr ⟨cz_235, List.forall_mem_cons.mpr ⟨cz_236, List.forall_mem_cons.mpr ⟨cz_237, List.forall_mem_cons.mpr ⟨cz_238, List.forall_mem_cons.mpr ⟨cz_239, List.forall_mem_cons.mpr ⟨cz_24, List.forall_mem_cons.mpr ⟨cz_240, List.forall_mem_cons.mpr ⟨cz_241, fun _ h => absurd h List.not_mem_nil⟩⟩⟩⟩⟩⟩⟩⟩⟩⟩⟩⟩⟩⟩⟩⟩⟩⟩⟩⟩⟩⟩⟩⟩⟩⟩⟩⟩⟩⟩⟩⟩⟩⟩⟩⟩⟩⟩⟩⟩
def cT_4 : List (Nat × Nat) := [(242, 1), (243, 2), (244, 1), (245, 0), (246, 1), (247, 1), (248, 1), (249, 1), (25, 1), (250, 1), (251, 2), (252, 2), (253, 3), (254, 2), (255, 3), (256, 2), (257, 4), (258, 3), (259, 2), (26, 2), (260, 2), (261, 2), (262, 2), (263, 4), (264, 4), (265, 0), (266, 1), (267, 3), (268, 2), (269, 0), (27, 4), (270, 0), (271, 0), (272, 2), (273, 1), (274, 1), (275, 2), (276, 1), (277, 0), (278, 4)]
theorem cT_ok_4 : ∀ t ∈ cT_4, COk t := List.forall_mem_cons.mpr ⟨cz_242, List.forall_mem_cons.mpr ⟨cz_243, List.forall_mem_cons.mpr ⟨cz_244, List.forall_mem_cons.mpr ⟨cz_245, List.forall_mem_cons.mpr ⟨cz_246, List.forall_mem_cons.mpr ⟨cz_247, List.forall_mem_cons.mpr ⟨cz_248, List.forall_mem_cons.mpr ⟨cz_249, List.forall_mem_cons.mpr ⟨cz_25, List.forall_mem_cons.mpr ⟨cz_250, List.forall_mem_cons.mpr ⟨cz_251, List.forall_mem_cons.mpr ⟨cz_252, List.forall_mem_cons.mpr ⟨cz_253, List.forall_mem_cons.mpr ⟨cz_254, List.forall_mem_cons.mpr ⟨cz_255, List.forall_mem_cons.mpr ⟨cz_256, List.forall_mem_cons.mpr ⟨cz_257, List.forall_mem_cons.mpr ⟨cz_258, List.forall_mem_cons.mpr ⟨cz_259, List.forall_mem_cons.mpr ⟨cz_26, List.forall_mem_cons.mpr ⟨cz_260, List.forall_mem_cons.mpr ⟨cz_261, List.forall_mem_cons.mpr ⟨cz_262, List.forall_mem_cons.mpr ⟨cz_263, List.forall_mem_cons.mpr ⟨cz_264, List.forall_mem_cons.mpr ⟨cz_265, List.forall_mem_cons.mpr ⟨cz_266, List.forall_mem_cons.mpr ⟨cz_267, List.forall_mem_cons.mpr ⟨cz_268, List.forall_mem_cons.mpr ⟨cz_269, List.forall_mem_cons.mpr ⟨cz_27, List.forall_mem_cons.mpr ⟨cz_270, List.forall_mem_cons.mpr ⟨cz_271, List.forall_mem_cons.mpr ⟨cz_272, List.forall_mem_cons.mpr ⟨cz_273, List.forall_mem_cons.mpr ⟨cz_274, List.forall_mem_cons.mpr ⟨cz_275, List.forall_mem_cons.mpr ⟨cz_276, List.forall_mem_cons.mpr ⟨cz_277, List.forall_mem_cons.mpr ⟨cz_278, fun _ h => absurd h List.not_mem_nil⟩⟩⟩⟩⟩⟩⟩⟩⟩⟩⟩⟩⟩⟩⟩⟩⟩⟩⟩⟩⟩⟩⟩⟩⟩⟩⟩⟩⟩⟩⟩⟩⟩⟩⟩⟩⟩⟩⟩⟩
def cT_5 : List (Nat × Nat) := [(279, 0), (28, 1), (280, 1), (281, 0), (282, 0), (283, 1), (284, 4), (285, 2), (286, 1), (287, 3), (288, 2), (289, 2), (29, 3), (290, 3), (291, 2), (292, 3), (293, 1), (294, 3), (295, 2), (296, 5), (297, 3), (298, 2), (299, 3), (3, 2), (30, 2), (300, 1), (301, 2), (302, 3), (303, 3), (304, 5), (305, 2), (306, 2), (307, 2), (308, 2), (309, 2), (31, 1), (310, 3), (311, 2), (312, 3), (313, 2)]
theorem cT_ok_5 : ∀ t ∈ cT_5, COk t := List.forall_mem_cons.mpr ⟨cz_279, List.forall_mem_cons.mpr ⟨cz_28, List.forall_mem_cons.mpr ⟨cz_280, List.forall_mem_cons.mpr ⟨cz_281, List.forall_mem_cons.mpr ⟨cz_282, List.forall_mem_cons.mpr ⟨cz_283, List.forall_mem_cons.mpr ⟨cz_284, List.forall_mem_cons.mpr ⟨cz_285, List.forall_mem_cons.mpr ⟨cz_286, List.forall_mem_cons.mpr ⟨cz_287, List.forall_mem_cons.mpr ⟨cz_288, List.forall_mem_cons.mpr ⟨cz_289, List.forall_mem_cons.mpr ⟨cz_29, List.forall_mem_cons.mpr ⟨cz_290, List.forall_mem_cons.mpr ⟨cz_291, List.forall_mem_cons.mpr ⟨cz_292, List.forall_mem_cons.mpr ⟨cz_293, List.forall_mem_cons.mpr ⟨cz_294, List.forall_mem_cons.mpr ⟨cz_295, List.forall_mem_cons.mpr ⟨cz_296, List.forall_mem_cons.mpr ⟨cz_297, List.forall_mem_cons.mpr ⟨cz_298, List.forall_mem_cons.mpr ⟨cz_299, List.forall_mem_cons.mpr ⟨cz_3, List.forall_mem_cons.mpr ⟨cz_30, List.forall_mem_cons.mpr ⟨cz_300, List.forall_mem_cons.mpr ⟨cz_301, List.forall_mem_cons.mpr ⟨cz_302, List.forall_mem_cons.mpr ⟨cz_303, List.forall_mem_cons.mpr ⟨cz_304, List.forall_mem_cons.mpr ⟨cz_305, List.forall_mem_cons.mpr ⟨cz_306, List.forall_mem_cons.mpr ⟨cz_307, List.forall_mem_cons.mpr ⟨cz_308, List.forall_mem_cons.mpr ⟨cz_309, List.forall_mem_cons.mpr ⟨cz_31, List.forall_mem_cons.mpr ⟨cz_310, List.forall_mem_cons.mpr ⟨cz_311, List.forall_mem_cons.mpr ⟨cz_312, List.forall_mem_cons.mpr ⟨cz_313, fun _ h => absurd h List.not_mem_nil⟩⟩⟩⟩⟩⟩⟩⟩⟩⟩⟩⟩⟩⟩⟩⟩⟩⟩⟩⟩⟩⟩⟩⟩⟩⟩⟩⟩⟩⟩⟩⟩⟩⟩⟩⟩⟩⟩⟩⟩
def cT_6 : List (Nat × Nat) := [(314, 1), (315, 4), (316, 1), (317, 2), (318, 2), (319, 2), (32, 0), (320, 3), (321, 1), (322, 2), (323, 2), (324, 0), (325, 3), (326, 3), (327, 2), (328, 0), (329, 0), (33, 0), (330, 1), (331, 1), (34, 1), (35, 0), (36, 1), (37, 2), (38, 1), (39, 2), (40, 2), (41, 2), (42, 3), (43, 0), (44, 3), (45, 2), (46, 0), (47, 0), (48, 1), (49, 0), (50, 1), (51, 1), (52, 2), (53, 2)]
theorem cT_ok_6 : ∀ t ∈ cT_6, COk t := List.forall_mem_cons.mpr ⟨cz_314, List.forall_mem_cons.mpr ⟨cz_315, List.forall_mem_cons.mpr ⟨cz_316, List.forall_mem_cons.mpr ⟨cz_317, List.forall_mem_cons.mpr ⟨cz_318, List.forall_mem_cons.mpr ⟨cz_319, List.forall_mem_cons.mpr ⟨cz_32, List.forall_mem_cons.mpr ⟨cz_320, List.forall_mem_cons.mpr ⟨cz_321, List.forall_mem_cons.mpr ⟨cz_322, List.forall_mem_cons.mpr ⟨cz_323, List.forall_mem_cons.mpr ⟨cz_324, List.forall_mem_cons.mpr ⟨cz_325, List.forall_mem_cons.mpr ⟨cz_326, List.forall_mem_cons.mpr ⟨cz_327, List.forall_mem_cons.mpr ⟨cz_328, List.forall_mem_cons.mpr ⟨cz_329, List.forall_mem_cons.mpr ⟨cz_33, List.forall_mem_cons.mpr ⟨cz_330, List.forall_mem_cons.mpr ⟨cz_331, List.forall_mem_cons.mpr ⟨cz_34, List.forall_mem_cons.mpr ⟨cz_35, List.forall_mem_cons.mpr ⟨cz_36, List.forall_mem_cons.mpr ⟨cz_37, List.forall_mem_cons.mpr ⟨cz_38, List.forall_mem_cons.mpr ⟨cz_39, List.forall_mem_cons.mpr ⟨cz_40, List.forall_mem_cons.mpr ⟨cz_41, List.forall_mem_cons.mpr ⟨cz_42, List.forall_mem_cons.mpr ⟨cz_43, List.forall_mem_cons.mpr ⟨cz_44, List.forall_mem_cons.mpr ⟨cz_45, List.forall_mem_cons.mpr ⟨cz_46, List.forall_mem_cons.mpr ⟨cz_47, List.forall_mem_cons.mpr ⟨cz_48, List.forall_mem_cons.mpr ⟨cz_49, List.forall_mem_cons.mpr ⟨cz_50, List.forall_mem_cons.mpr ⟨cz_51, List.forall_mem_cons.mpr ⟨cz_52, List.forall_mem_cons.mpr ⟨cz_53, fun _ h => absurd h List.not_mem_nil⟩⟩⟩⟩⟩⟩⟩⟩⟩⟩⟩⟩⟩⟩⟩⟩⟩⟩⟩⟩⟩⟩⟩⟩⟩⟩⟩⟩⟩⟩⟩⟩⟩⟩⟩⟩⟩⟩⟩⟩
def cT_7 : List (Nat × Nat) := [(54, 0), (55, 0), (56, 0), (57, 0), (58, 0), (59, 0), (6, 1), (60, 0), (61, 0), (62, 0), (63, 2), (64, 2), (65, 3), (66, 1), (67, 2), (68, 2), (69, 2), (7, 1), (70, 2), (71, 2), (72, 0), (73, 1), (74, 1), (75, 1), (76, 1), (77, 0), (78, 1), (79, 1), (8, 2), (80, 1), (81, 1), (82, 3), (83, 3), (84, 5), (85, 4), (86, 3), (87, 5), (88, 5), (89, 1), (9, 0)]
theorem cT_ok_7 : ∀ t ∈ cT_7, COk t := List.forall_mem_cons.mpr ⟨cz_54, List.forall_mem_cons.mpr ⟨cz_55, List.forall_mem_cons.mpr ⟨cz_56, List.forall_mem_cons.mpr ⟨cz_57, List.forall_mem_cons.mpr ⟨cz_58, List.forall_mem_cons.mpr ⟨cz_59, List.forall_mem_cons.mpr ⟨cz_6, List.forall_mem_cons.mpr ⟨cz_60, List.forall_mem_cons.mpr ⟨cz_61, List.forall_mem_cons.mpr ⟨cz_62, List.forall_mem_cons.mpr ⟨cz_63, List.forall_mem_cons.mpr ⟨cz_64, List.forall_mem_cons.mpr ⟨cz_65, List.forall_mem_cons.mpr ⟨cz_66, List.forall_mem_cons.mpr ⟨cz_67, List.forall_mem_cons.mpr ⟨cz_68, List.forall_mem_cons.mpr ⟨cz_69, List.forall_mem_cons.mpr ⟨cz_7, List.forall_mem_cons.mpr ⟨cz_70, List.forall_mem_cons.mpr ⟨cz_71, List.forall_mem_cons.mpr ⟨cz_72, List.forall_mem_cons.mpr ⟨cz_73, List.forall_mem_cons.mpr ⟨cz_74, List.forall_mem_cons.mpr ⟨cz_75, List.forall_mem_cons.mpr ⟨cz_76, List.forall_mem_cons.mpr ⟨cz_77, List.forall_mem_cons.mpr ⟨cz_78, List.forall_mem_cons.mpr ⟨cz_79, List.forall_mem_cons.mpr ⟨cz_8, List.forall_mem_cons.mpr ⟨cz_80, List.forall_mem_cons.mpr ⟨cz_81, List.forall_mem_cons.mpr ⟨cz_82, List.forall_mem_cons.mpr ⟨cz_83, List.forall_mem_cons.mpr ⟨cz_84, List.forall_mem_cons.mpr ⟨cz_85, List.forall_mem_cons.mpr ⟨cz_86, List.forall_mem_cons.mpr ⟨cz_87, List.forall_mem_cons.mpr ⟨cz_88, List.forall_mem_cons.mpr ⟨cz_89, List.forall_mem_cons.mpr ⟨cz_9, fun _ h => absurd h List.not_mem_nil⟩⟩⟩⟩⟩⟩⟩⟩⟩⟩⟩⟩⟩⟩⟩⟩⟩⟩⟩⟩⟩⟩⟩⟩⟩⟩⟩⟩⟩⟩⟩⟩⟩⟩⟩⟩⟩⟩⟩⟩
def cT_8 : List (Nat × Nat) := [(90, 3), (91, 2), (92, 2), (93, 3), (94, 3), (95, 1), (96, 3), (97, 2), (98, 4), (99, 3)]
theorem cT_ok_8 : ∀ t ∈ cT_8, COk t := List.forall_mem_cons.mpr ⟨cz_90, List.forall_mem_cons.mpr ⟨cz_91, List.forall_mem_cons.mpr ⟨cz_92, List.forall_mem_cons.mpr ⟨cz_93, List.forall_mem_cons.mpr ⟨cz_94, List.forall_mem_cons.mpr ⟨cz_95, List.forall_mem_cons.mpr ⟨cz_96, List.forall_mem_cons.mpr ⟨cz_97, List.forall_mem_cons.mpr ⟨cz_98, List.forall_mem_cons.mpr ⟨cz_99, fun _ h => absurd h List.not_mem_nil⟩⟩⟩⟩⟩⟩⟩⟩⟩⟩
def cT : List (Nat × Nat) := cT_0 ++ (cT_1 ++ (cT_2 ++ (cT_3 ++ (cT_4 ++ (cT_5 ++ (cT_6 ++ (cT_7 ++ (cT_8))))))))
theorem cT_ok : ∀ t ∈ cT, COk t := List.forall_mem_append.mpr ⟨cT_ok_0, List.forall_mem_append.mpr ⟨cT_ok_1, List.forall_mem_append.mpr ⟨cT_ok_2, List.forall_mem_append.mpr ⟨cT_ok_3, List.forall_mem_append.mpr ⟨cT_ok_4, List.forall_mem_append.mpr ⟨cT_ok_5, List.forall_mem_append.mpr ⟨cT_ok_6, List.forall_mem_append.mpr ⟨cT_ok_7, cT_ok_8⟩⟩⟩⟩⟩⟩⟩⟩
def VOk (t : Nat × Nat) : Prop := ∃ q : vw_C, vwCl[t.2]? = some q ∧ (yM t.1).cls = q.1 ∧ Cond.instanceMethod (yM t.1) ∈ Tb ∧ Cond.selects q.1 (yM t.1) (yM t.1) ∈ Tb
theorem vo_9 : VOk (9, 0) := ⟨(RX0, TX0, 9), rfl, rfl, tg (tin_3 (i := 86) rfl) rfl, tg (tin_3 (i := 87) rfl) rfl⟩
theorem vo_10 : VOk (10, 0) := ⟨(RX0, TX0, 9), rfl, rfl, tg (tin_5 (i := 104) rfl) rfl, tg (tin_5 (i := 105) rfl) rfl⟩
theorem vo_11 : VOk (11, 0) := ⟨(RX0, TX0, 9), rfl, rfl, tg (tin_5 (i := 71) rfl) rfl, tg (tin_5 (i := 72) rfl) rfl⟩
theorem vo_12 : VOk (12, 0) := ⟨(RX0, TX0, 9), rfl, rfl, tg (tin_5 (i := 76) rfl) rfl, tg (tpi_3 (i := 7) rfl) rfl⟩
theorem vo_13 : VOk (13, 0) := ⟨(RX0, TX0, 9), rfl, rfl, tg (tin_5 (i := 109) rfl) rfl, tg (tpi_3 (i := 8) rfl) rfl⟩
theorem vo_15 : VOk (15, 0) := ⟨(RX0, TX0, 9), rfl, rfl, tg (tin_5 (i := 118) rfl) rfl, tg (tpi_3 (i := 9) rfl) rfl⟩
theorem vo_16 : VOk (16, 0) := ⟨(RX0, TX0, 9), rfl, rfl, tg (tin_5 (i := 128) rfl) rfl, tg (tin_5 (i := 129) rfl) rfl⟩
theorem vo_17 : VOk (17, 0) := ⟨(RX0, TX0, 9), rfl, rfl, tg (tin_7 (i := 132) rfl) rfl, tg (tin_7 (i := 133) rfl) rfl⟩
theorem vo_18 : VOk (18, 0) := ⟨(RX0, TX0, 9), rfl, rfl, tg (tin_5 (i := 144) rfl) rfl, tg (tin_5 (i := 145) rfl) rfl⟩
theorem vo_19 : VOk (19, 0) := ⟨(RX0, TX0, 9), rfl, rfl, tg (tin_5 (i := 149) rfl) rfl, tg (tin_5 (i := 150) rfl) rfl⟩
theorem vo_20 : VOk (20, 0) := ⟨(RX0, TX0, 9), rfl, rfl, tg (tin_5 (i := 167) rfl) rfl, tg (tin_5 (i := 168) rfl) rfl⟩
theorem vo_21 : VOk (21, 0) := ⟨(RX0, TX0, 9), rfl, rfl, tg (tin_5 (i := 140) rfl) rfl, tg (tin_5 (i := 141) rfl) rfl⟩
theorem vo_23 : VOk (23, 1) := ⟨(RX1, TX1, 10), rfl, rfl, tg (tin_4 (i := 130) rfl) rfl, tg (tin_4 (i := 131) rfl) rfl⟩
theorem vo_24 : VOk (24, 1) := ⟨(RX1, TX1, 10), rfl, rfl, tg (tin_3 (i := 75) rfl) rfl, tg (tin_3 (i := 76) rfl) rfl⟩
theorem vo_25 : VOk (25, 1) := ⟨(RX1, TX1, 10), rfl, rfl, tg (tin_5 (i := 238) rfl) rfl, tg (tin_5 (i := 239) rfl) rfl⟩
theorem vo_26 : VOk (26, 1) := ⟨(RX1, TX1, 10), rfl, rfl, tg (tin_5 (i := 163) rfl) rfl, tg (tin_5 (i := 164) rfl) rfl⟩
theorem vo_27 : VOk (27, 1) := ⟨(RX1, TX1, 10), rfl, rfl, tg (tin_5 (i := 171) rfl) rfl, tg (tin_5 (i := 172) rfl) rfl⟩
theorem vo_28 : VOk (28, 1) := ⟨(RX1, TX1, 10), rfl, rfl, tg (tin_5 (i := 212) rfl) rfl, tg (tin_5 (i := 213) rfl) rfl⟩
theorem vo_29 : VOk (29, 1) := ⟨(RX1, TX1, 10), rfl, rfl, tg (tin_3 (i := 3) rfl) rfl, tg (tin_3 (i := 4) rfl) rfl⟩
theorem vo_30 : VOk (30, 1) := ⟨(RX1, TX1, 10), rfl, rfl, tg (tin_3 (i := 41) rfl) rfl, tg (tin_3 (i := 42) rfl) rfl⟩
theorem vo_31 : VOk (31, 1) := ⟨(RX1, TX1, 10), rfl, rfl, tg (tin_3 (i := 56) rfl) rfl, tg (tin_3 (i := 57) rfl) rfl⟩
theorem vo_33 : VOk (33, 2) := ⟨(RX2, TX2, 20), rfl, rfl, tg (tin_3 (i := 194) rfl) rfl, tg (tin_3 (i := 195) rfl) rfl⟩
theorem vo_34 : VOk (34, 2) := ⟨(RX2, TX2, 20), rfl, rfl, tg (tin_4 (i := 125) rfl) rfl, tg (tin_4 (i := 126) rfl) rfl⟩
theorem vo_35 : VOk (35, 2) := ⟨(RX2, TX2, 20), rfl, rfl, tg (tin_3 (i := 205) rfl) rfl, tg (tin_3 (i := 206) rfl) rfl⟩
theorem vo_36 : VOk (36, 2) := ⟨(RX2, TX2, 20), rfl, rfl, tg (tin_5 (i := 194) rfl) rfl, tg (tin_5 (i := 195) rfl) rfl⟩
theorem vo_37 : VOk (37, 2) := ⟨(RX2, TX2, 20), rfl, rfl, tg (tin_5 (i := 85) rfl) rfl, tg (tin_5 (i := 86) rfl) rfl⟩
theorem vo_38 : VOk (38, 2) := ⟨(RX2, TX2, 20), rfl, rfl, tg (tin_7 (i := 65) rfl) rfl, tg (tin_7 (i := 66) rfl) rfl⟩
theorem vo_39 : VOk (39, 2) := ⟨(RX2, TX2, 20), rfl, rfl, tg (tin_5 (i := 79) rfl) rfl, tg (tin_5 (i := 80) rfl) rfl⟩
theorem vo_40 : VOk (40, 2) := ⟨(RX2, TX2, 20), rfl, rfl, tg (tin_4 (i := 205) rfl) rfl, tg (tin_4 (i := 206) rfl) rfl⟩
theorem vo_41 : VOk (41, 2) := ⟨(RX2, TX2, 20), rfl, rfl, tg (tin_3 (i := 226) rfl) rfl, tg (tin_3 (i := 227) rfl) rfl⟩
theorem vo_42 : VOk (42, 2) := ⟨(RX2, TX2, 20), rfl, rfl, tg (tin_3 (i := 218) rfl) rfl, tg (tin_3 (i := 219) rfl) rfl⟩
theorem vo_43 : VOk (43, 2) := ⟨(RX2, TX2, 20), rfl, rfl, tg (tin_3 (i := 214) rfl) rfl, tg (tin_3 (i := 215) rfl) rfl⟩
theorem vo_44 : VOk (44, 2) := ⟨(RX2, TX2, 20), rfl, rfl, tg (tin_3 (i := 223) rfl) rfl, tg (tpi_1 (i := 7) rfl) rfl⟩
theorem vo_46 : VOk (46, 3) := ⟨(RX3, TX3, 2), rfl, rfl, tg (tin_3 (i := 190) rfl) rfl, tg (tin_3 (i := 191) rfl) rfl⟩
theorem vo_47 : VOk (47, 3) := ⟨(RX3, TX3, 2), rfl, rfl, tg (tin_3 (i := 202) rfl) rfl, tg (tpi_1 (i := 6) rfl) rfl⟩
theorem vo_48 : VOk (48, 3) := ⟨(RX3, TX3, 2), rfl, rfl, tg (tin_3 (i := 231) rfl) rfl, tg (tpi_1 (i := 8) rfl) rfl⟩
theorem vo_49 : VOk (49, 3) := ⟨(RX3, TX3, 2), rfl, rfl, tg (tin_3 (i := 235) rfl) rfl, tg (tpi_1 (i := 9) rfl) rfl⟩
theorem vo_50 : VOk (50, 3) := ⟨(RX3, TX3, 2), rfl, rfl, tg (tin_4 (i := 60) rfl) rfl, tg (tpi_1 (i := 10) rfl) rfl⟩
theorem vo_51 : VOk (51, 3) := ⟨(RX3, TX3, 2), rfl, rfl, tg (tin_4 (i := 65) rfl) rfl, tg (tpi_1 (i := 11) rfl) rfl⟩
theorem vo_52 : VOk (52, 3) := ⟨(RX3, TX3, 2), rfl, rfl, tg (tin_4 (i := 73) rfl) rfl, tg (tpi_1 (i := 13) rfl) rfl⟩
theorem vo_53 : VOk (53, 3) := ⟨(RX3, TX3, 2), rfl, rfl, tg (tin_4 (i := 85) rfl) rfl, tg (tpi_1 (i := 15) rfl) rfl⟩
theorem vo_54 : VOk (54, 3) := ⟨(RX3, TX3, 2), rfl, rfl, tg (tin_4 (i := 69) rfl) rfl, tg (tpi_1 (i := 12) rfl) rfl⟩
theorem vo_55 : VOk (55, 3) := ⟨(RX3, TX3, 2), rfl, rfl, tg (tin_4 (i := 118) rfl) rfl, tg (tpi_2 (i := 6) rfl) rfl⟩
theorem vo_56 : VOk (56, 3) := ⟨(RX3, TX3, 2), rfl, rfl, tg (tin_4 (i := 81) rfl) rfl, tg (tpi_1 (i := 14) rfl) rfl⟩
theorem vo_57 : VOk (57, 3) := ⟨(RX3, TX3, 2), rfl, rfl, tg (tin_4 (i := 90) rfl) rfl, tg (tpi_2 (i := 0) rfl) rfl⟩
theorem vo_58 : VOk (58, 3) := ⟨(RX3, TX3, 2), rfl, rfl, tg (tin_4 (i := 94) rfl) rfl, tg (tpi_2 (i := 1) rfl) rfl⟩
theorem vo_59 : VOk (59, 3) := ⟨(RX3, TX3, 2), rfl, rfl, tg (tin_4 (i := 102) rfl) rfl, tg (tpi_2 (i := 2) rfl) rfl⟩
theorem vo_60 : VOk (60, 3) := ⟨(RX3, TX3, 2), rfl, rfl, tg (tin_4 (i := 106) rfl) rfl, tg (tpi_2 (i := 3) rfl) rfl⟩
theorem vo_61 : VOk (61, 3) := ⟨(RX3, TX3, 2), rfl, rfl, tg (tin_4 (i := 110) rfl) rfl, tg (tpi_2 (i := 4) rfl) rfl⟩
theorem vo_62 : VOk (62, 3) := ⟨(RX3, TX3, 2), rfl, rfl, tg (tin_4 (i := 114) rfl) rfl, tg (tpi_2 (i := 5) rfl) rfl⟩
theorem vo_64 : VOk (64, 4) := ⟨(RX4, TX4, 3), rfl, rfl, tg (tin_6 (i := 231) rfl) rfl, tg (tin_6 (i := 232) rfl) rfl⟩
theorem vo_65 : VOk (65, 4) := ⟨(RX4, TX4, 3), rfl, rfl, tg (tin_6 (i := 236) rfl) rfl, tg (tpi_5 (i := 2) rfl) rfl⟩
theorem vo_66 : VOk (66, 4) := ⟨(RX4, TX4, 3), rfl, rfl, tg (tin_7 (i := 1) rfl) rfl, tg (tpi_5 (i := 3) rfl) rfl⟩
theorem vo_67 : VOk (67, 4) := ⟨(RX4, TX4, 3), rfl, rfl, tg (tin_6 (i := 227) rfl) rfl, tg (tin_6 (i := 228) rfl) rfl⟩
theorem vo_68 : VOk (68, 4) := ⟨(RX4, TX4, 3), rfl, rfl, tg (tin_7 (i := 6) rfl) rfl, tg (tpi_5 (i := 4) rfl) rfl⟩
theorem vo_69 : VOk (69, 4) := ⟨(RX4, TX4, 3), rfl, rfl, tg (tin_7 (i := 17) rfl) rfl, tg (tin_7 (i := 18) rfl) rfl⟩
theorem vo_72 : VOk (72, 6) := ⟨(RX6, TX6, 4), rfl, rfl, tg (tin_4 (i := 150) rfl) rfl, tg (tin_4 (i := 151) rfl) rfl⟩
theorem vo_73 : VOk (73, 6) := ⟨(RX6, TX6, 4), rfl, rfl, tg (tin_4 (i := 173) rfl) rfl, tg (tpi_2 (i := 12) rfl) rfl⟩
theorem vo_74 : VOk (74, 6) := ⟨(RX6, TX6, 4), rfl, rfl, tg (tin_4 (i := 155) rfl) rfl, tg (tpi_2 (i := 9) rfl) rfl⟩
theorem vo_75 : VOk (75, 6) := ⟨(RX6, TX6, 4), rfl, rfl, tg (tin_4 (i := 159) rfl) rfl, tg (tpi_2 (i := 10) rfl) rfl⟩
theorem vo_76 : VOk (76, 6) := ⟨(RX6, TX6, 4), rfl, rfl, tg (tin_4 (i := 163) rfl) rfl, tg (tpi_2 (i := 11) rfl) rfl⟩
theorem vo_77 : VOk (77, 6) := ⟨(RX6, TX6, 4), rfl, rfl, tg (tin_4 (i := 178) rfl) rfl, tg (tpi_2 (i := 13) rfl) rfl⟩
theorem vo_78 : VOk (78, 6) := ⟨(RX6, TX6, 4), rfl, rfl, tg (tin_4 (i := 188) rfl) rfl, tg (tpi_2 (i := 14) rfl) rfl⟩
theorem vo_79 : VOk (79, 6) := ⟨(RX6, TX6, 4), rfl, rfl, tg (tin_4 (i := 192) rfl) rfl, tg (tpi_2 (i := 15) rfl) rfl⟩
theorem vo_80 : VOk (80, 6) := ⟨(RX6, TX6, 4), rfl, rfl, tg (tin_4 (i := 196) rfl) rfl, tg (tpi_3 (i := 0) rfl) rfl⟩
theorem vo_81 : VOk (81, 6) := ⟨(RX6, TX6, 4), rfl, rfl, tg (tin_4 (i := 201) rfl) rfl, tg (tpi_3 (i := 1) rfl) rfl⟩
theorem vo_83 : VOk (83, 7) := ⟨(RX7, TX7, 4), rfl, rfl, tg (tin_6 (i := 125) rfl) rfl, tg (tin_6 (i := 126) rfl) rfl⟩
theorem vo_84 : VOk (84, 7) := ⟨(RX7, TX7, 4), rfl, rfl, tg (tin_6 (i := 132) rfl) rfl, tg (tpi_4 (i := 7) rfl) rfl⟩
theorem vo_85 : VOk (85, 7) := ⟨(RX7, TX7, 4), rfl, rfl, tg (tin_6 (i := 136) rfl) rfl, tg (tpi_4 (i := 8) rfl) rfl⟩
theorem vo_86 : VOk (86, 7) := ⟨(RX7, TX7, 4), rfl, rfl, tg (tin_6 (i := 141) rfl) rfl, tg (tpi_4 (i := 9) rfl) rfl⟩
theorem vo_87 : VOk (87, 7) := ⟨(RX7, TX7, 4), rfl, rfl, tg (tin_6 (i := 148) rfl) rfl, tg (tpi_4 (i := 10) rfl) rfl⟩
theorem vo_88 : VOk (88, 7) := ⟨(RX7, TX7, 4), rfl, rfl, tg (tin_6 (i := 153) rfl) rfl, tg (tpi_4 (i := 11) rfl) rfl⟩
theorem vo_90 : VOk (90, 8) := ⟨(RX8, TX8, 5), rfl, rfl, tg (tin_6 (i := 183) rfl) rfl, tg (tin_6 (i := 184) rfl) rfl⟩
theorem vo_91 : VOk (91, 8) := ⟨(RX8, TX8, 5), rfl, rfl, tg (tin_7 (i := 106) rfl) rfl, tg (tin_7 (i := 107) rfl) rfl⟩
theorem vo_92 : VOk (92, 8) := ⟨(RX8, TX8, 5), rfl, rfl, tg (tin_6 (i := 188) rfl) rfl, tg (tpi_4 (i := 13) rfl) rfl⟩
theorem vo_93 : VOk (93, 8) := ⟨(RX8, TX8, 5), rfl, rfl, tg (tin_6 (i := 193) rfl) rfl, tg (tpi_4 (i := 14) rfl) rfl⟩
theorem vo_94 : VOk (94, 8) := ⟨(RX8, TX8, 5), rfl, rfl, tg (tin_6 (i := 199) rfl) rfl, tg (tpi_4 (i := 15) rfl) rfl⟩
theorem vo_95 : VOk (95, 8) := ⟨(RX8, TX8, 5), rfl, rfl, tg (tin_6 (i := 205) rfl) rfl, tg (tpi_5 (i := 0) rfl) rfl⟩
theorem vo_97 : VOk (97, 9) := ⟨(RX9, TX9, 12), rfl, rfl, tg (tin_5 (i := 234) rfl) rfl, tg (tin_5 (i := 235) rfl) rfl⟩
theorem vo_98 : VOk (98, 9) := ⟨(RX9, TX9, 12), rfl, rfl, tg (tin_6 (i := 3) rfl) rfl, tg (tpi_3 (i := 12) rfl) rfl⟩
theorem vo_99 : VOk (99, 9) := ⟨(RX9, TX9, 12), rfl, rfl, tg (tin_6 (i := 86) rfl) rfl, tg (tin_6 (i := 87) rfl) rfl⟩
theorem vo_100 : VOk (100, 9) := ⟨(RX9, TX9, 12), rfl, rfl, tg (tin_6 (i := 32) rfl) rfl, tg (tpi_3 (i := 13) rfl) rfl⟩
theorem vo_101 : VOk (101, 9) := ⟨(RX9, TX9, 12), rfl, rfl, tg (tin_6 (i := 40) rfl) rfl, tg (tpi_3 (i := 15) rfl) rfl⟩
theorem vo_102 : VOk (102, 9) := ⟨(RX9, TX9, 12), rfl, rfl, tg (tin_6 (i := 36) rfl) rfl, tg (tpi_3 (i := 14) rfl) rfl⟩
theorem vo_103 : VOk (103, 9) := ⟨(RX9, TX9, 12), rfl, rfl, tg (tin_6 (i := 18) rfl) rfl, tg (tin_6 (i := 19) rfl) rfl⟩
theorem vo_104 : VOk (104, 9) := ⟨(RX9, TX9, 12), rfl, rfl, tg (tin_6 (i := 56) rfl) rfl, tg (tpi_4 (i := 1) rfl) rfl⟩
theorem vo_105 : VOk (105, 9) := ⟨(RX9, TX9, 12), rfl, rfl, tg (tin_6 (i := 60) rfl) rfl, tg (tpi_4 (i := 2) rfl) rfl⟩
theorem vo_106 : VOk (106, 9) := ⟨(RX9, TX9, 12), rfl, rfl, tg (tin_6 (i := 64) rfl) rfl, tg (tpi_4 (i := 3) rfl) rfl⟩
theorem vo_107 : VOk (107, 9) := ⟨(RX9, TX9, 12), rfl, rfl, tg (tin_6 (i := 68) rfl) rfl, tg (tpi_4 (i := 4) rfl) rfl⟩
theorem vo_108 : VOk (108, 9) := ⟨(RX9, TX9, 12), rfl, rfl, tg (tin_6 (i := 72) rfl) rfl, tg (tpi_4 (i := 5) rfl) rfl⟩
theorem vo_109 : VOk (109, 9) := ⟨(RX9, TX9, 12), rfl, rfl, tg (tin_6 (i := 75) rfl) rfl, tg (tin_6 (i := 76) rfl) rfl⟩
theorem vo_110 : VOk (110, 9) := ⟨(RX9, TX9, 12), rfl, rfl, tg (tin_6 (i := 45) rfl) rfl, tg (tpi_4 (i := 0) rfl) rfl⟩
theorem vo_112 : VOk (112, 9) := ⟨(RX9, TX9, 12), rfl, rfl, tg (tin_6 (i := 27) rfl) rfl, tg (tin_6 (i := 28) rfl) rfl⟩
theorem vo_113 : VOk (113, 9) := ⟨(RX9, TX9, 12), rfl, rfl, tg (tin_7 (i := 84) rfl) rfl, tg (tin_7 (i := 85) rfl) rfl⟩
theorem vo_114 : VOk (114, 9) := ⟨(RX9, TX9, 12), rfl, rfl, tg (tin_7 (i := 89) rfl) rfl, tg (tpi_5 (i := 7) rfl) rfl⟩
theorem vo_115 : VOk (115, 9) := ⟨(RX9, TX9, 12), rfl, rfl, tg (tin_6 (i := 105) rfl) rfl, tg (tin_6 (i := 106) rfl) rfl⟩
theorem vo_116 : VOk (116, 9) := ⟨(RX9, TX9, 12), rfl, rfl, tg (tin_6 (i := 111) rfl) rfl, tg (tpi_4 (i := 6) rfl) rfl⟩
theorem vo_119 : VOk (119, 10) := ⟨(RX10, TX10, 8), rfl, rfl, tg (tin_3 (i := 180) rfl) rfl, tg (tin_3 (i := 181) rfl) rfl⟩
theorem vo_120 : VOk (120, 10) := ⟨(RX10, TX10, 8), rfl, rfl, tg (tin_3 (i := 185) rfl) rfl, tg (tin_3 (i := 186) rfl) rfl⟩
theorem vo_121 : VOk (121, 10) := ⟨(RX10, TX10, 8), rfl, rfl, tg (tin_3 (i := 210) rfl) rfl, tg (tin_3 (i := 211) rfl) rfl⟩
theorem vo_122 : VOk (122, 10) := ⟨(RX10, TX10, 8), rfl, rfl, tg (tin_3 (i := 239) rfl) rfl, tg (tin_4 (i := 0) rfl) rfl⟩
theorem vo_123 : VOk (123, 10) := ⟨(RX10, TX10, 8), rfl, rfl, tg (tin_4 (i := 121) rfl) rfl, tg (tin_4 (i := 122) rfl) rfl⟩
theorem vo_124 : VOk (124, 10) := ⟨(RX10, TX10, 8), rfl, rfl, tg (tin_4 (i := 97) rfl) rfl, tg (tin_4 (i := 98) rfl) rfl⟩
theorem vo_125 : VOk (125, 10) := ⟨(RX10, TX10, 8), rfl, rfl, tg (tin_4 (i := 76) rfl) rfl, tg (tin_4 (i := 77) rfl) rfl⟩
theorem vo_127 : VOk (127, 11) := ⟨(RX11, TX11, 19), rfl, rfl, tg (tin_2 (i := 223) rfl) rfl, tg (tin_2 (i := 224) rfl) rfl⟩
theorem vo_128 : VOk (128, 11) := ⟨(RX11, TX11, 19), rfl, rfl, tg (tin_2 (i := 228) rfl) rfl, tg (tpi_1 (i := 0) rfl) rfl⟩
theorem vo_129 : VOk (129, 11) := ⟨(RX11, TX11, 19), rfl, rfl, tg (tin_3 (i := 102) rfl) rfl, tg (tin_3 (i := 103) rfl) rfl⟩
theorem vo_130 : VOk (130, 11) := ⟨(RX11, TX11, 19), rfl, rfl, tg (tin_4 (i := 138) rfl) rfl, tg (tin_4 (i := 139) rfl) rfl⟩
theorem vo_131 : VOk (131, 11) := ⟨(RX11, TX11, 19), rfl, rfl, tg (tin_5 (i := 1) rfl) rfl, tg (tin_5 (i := 2) rfl) rfl⟩
theorem vo_132 : VOk (132, 11) := ⟨(RX11, TX11, 19), rfl, rfl, tg (tin_4 (i := 147) rfl) rfl, tg (tpi_2 (i := 8) rfl) rfl⟩
theorem vo_133 : VOk (133, 11) := ⟨(RX11, TX11, 19), rfl, rfl, tg (tin_3 (i := 177) rfl) rfl, tg (tpi_1 (i := 5) rfl) rfl⟩
theorem vo_134 : VOk (134, 11) := ⟨(RX11, TX11, 19), rfl, rfl, tg (tin_2 (i := 231) rfl) rfl, tg (tin_2 (i := 232) rfl) rfl⟩
theorem vo_135 : VOk (135, 11) := ⟨(RX11, TX11, 19), rfl, rfl, tg (tin_5 (i := 8) rfl) rfl, tg (tin_5 (i := 9) rfl) rfl⟩
theorem vo_136 : VOk (136, 11) := ⟨(RX11, TX11, 19), rfl, rfl, tg (tin_5 (i := 16) rfl) rfl, tg (tin_5 (i := 17) rfl) rfl⟩
theorem vo_137 : VOk (137, 11) := ⟨(RX11, TX11, 19), rfl, rfl, tg (tin_5 (i := 47) rfl) rfl, tg (tin_5 (i := 48) rfl) rfl⟩
theorem vo_138 : VOk (138, 11) := ⟨(RX11, TX11, 19), rfl, rfl, tg (tin_5 (i := 59) rfl) rfl, tg (tin_5 (i := 60) rfl) rfl⟩
theorem vo_139 : VOk (139, 11) := ⟨(RX11, TX11, 19), rfl, rfl, tg (tin_5 (i := 92) rfl) rfl, tg (tin_5 (i := 93) rfl) rfl⟩
theorem vo_140 : VOk (140, 11) := ⟨(RX11, TX11, 19), rfl, rfl, tg (tin_5 (i := 100) rfl) rfl, tg (tin_5 (i := 101) rfl) rfl⟩
theorem vo_141 : VOk (141, 11) := ⟨(RX11, TX11, 19), rfl, rfl, tg (tin_5 (i := 124) rfl) rfl, tg (tin_5 (i := 125) rfl) rfl⟩
theorem vo_142 : VOk (142, 11) := ⟨(RX11, TX11, 19), rfl, rfl, tg (tin_5 (i := 136) rfl) rfl, tg (tin_5 (i := 137) rfl) rfl⟩
theorem vo_143 : VOk (143, 11) := ⟨(RX11, TX11, 19), rfl, rfl, tg (tin_5 (i := 159) rfl) rfl, tg (tin_5 (i := 160) rfl) rfl⟩
theorem vo_144 : VOk (144, 11) := ⟨(RX11, TX11, 19), rfl, rfl, tg (tin_2 (i := 235) rfl) rfl, tg (tin_2 (i := 236) rfl) rfl⟩
theorem vo_145 : VOk (145, 11) := ⟨(RX11, TX11, 19), rfl, rfl, tg (tin_3 (i := 7) rfl) rfl, tg (tin_3 (i := 8) rfl) rfl⟩
theorem vo_146 : VOk (146, 11) := ⟨(RX11, TX11, 19), rfl, rfl, tg (tin_5 (i := 178) rfl) rfl, tg (tin_5 (i := 179) rfl) rfl⟩
theorem vo_147 : VOk (147, 11) := ⟨(RX11, TX11, 19), rfl, rfl, tg (tin_5 (i := 190) rfl) rfl, tg (tin_5 (i := 191) rfl) rfl⟩
theorem vo_148 : VOk (148, 11) := ⟨(RX11, TX11, 19), rfl, rfl, tg (tin_5 (i := 183) rfl) rfl, tg (tpi_3 (i := 10) rfl) rfl⟩
theorem vo_149 : VOk (149, 11) := ⟨(RX11, TX11, 19), rfl, rfl, tg (tin_3 (i := 0) rfl) rfl, tg (tpi_1 (i := 1) rfl) rfl⟩
theorem vo_150 : VOk (150, 11) := ⟨(RX11, TX11, 19), rfl, rfl, tg (tin_5 (i := 201) rfl) rfl, tg (tin_5 (i := 202) rfl) rfl⟩
theorem vo_151 : VOk (151, 11) := ⟨(RX11, TX11, 19), rfl, rfl, tg (tin_3 (i := 17) rfl) rfl, tg (tin_3 (i := 18) rfl) rfl⟩
theorem vo_152 : VOk (152, 11) := ⟨(RX11, TX11, 19), rfl, rfl, tg (tin_3 (i := 27) rfl) rfl, tg (tin_3 (i := 28) rfl) rfl⟩
theorem vo_153 : VOk (153, 11) := ⟨(RX11, TX11, 19), rfl, rfl, tg (tin_3 (i := 31) rfl) rfl, tg (tin_3 (i := 32) rfl) rfl⟩
theorem vo_154 : VOk (154, 11) := ⟨(RX11, TX11, 19), rfl, rfl, tg (tin_5 (i := 208) rfl) rfl, tg (tin_5 (i := 209) rfl) rfl⟩
theorem vo_155 : VOk (155, 11) := ⟨(RX11, TX11, 19), rfl, rfl, tg (tin_5 (i := 219) rfl) rfl, tg (tin_5 (i := 220) rfl) rfl⟩
theorem vo_156 : VOk (156, 11) := ⟨(RX11, TX11, 19), rfl, rfl, tg (tin_3 (i := 45) rfl) rfl, tg (tin_3 (i := 46) rfl) rfl⟩
theorem vo_157 : VOk (157, 11) := ⟨(RX11, TX11, 19), rfl, rfl, tg (tin_3 (i := 67) rfl) rfl, tg (tin_3 (i := 68) rfl) rfl⟩
theorem vo_158 : VOk (158, 11) := ⟨(RX11, TX11, 19), rfl, rfl, tg (tin_3 (i := 50) rfl) rfl, tg (tpi_1 (i := 2) rfl) rfl⟩
theorem vo_160 : VOk (160, 11) := ⟨(RX11, TX11, 19), rfl, rfl, tg (tin_5 (i := 230) rfl) rfl, tg (tin_5 (i := 231) rfl) rfl⟩
theorem vo_161 : VOk (161, 11) := ⟨(RX11, TX11, 19), rfl, rfl, tg (tin_6 (i := 14) rfl) rfl, tg (tin_6 (i := 15) rfl) rfl⟩
theorem vo_162 : VOk (162, 11) := ⟨(RX11, TX11, 19), rfl, rfl, tg (tin_6 (i := 82) rfl) rfl, tg (tin_6 (i := 83) rfl) rfl⟩
theorem vo_163 : VOk (163, 11) := ⟨(RX11, TX11, 19), rfl, rfl, tg (tin_6 (i := 93) rfl) rfl, tg (tin_6 (i := 94) rfl) rfl⟩
theorem vo_164 : VOk (164, 11) := ⟨(RX11, TX11, 19), rfl, rfl, tg (tin_6 (i := 101) rfl) rfl, tg (tin_6 (i := 102) rfl) rfl⟩
theorem vo_165 : VOk (165, 11) := ⟨(RX11, TX11, 19), rfl, rfl, tg (tin_7 (i := 80) rfl) rfl, tg (tin_7 (i := 81) rfl) rfl⟩
theorem vo_166 : VOk (166, 11) := ⟨(RX11, TX11, 19), rfl, rfl, tg (tin_6 (i := 121) rfl) rfl, tg (tin_6 (i := 122) rfl) rfl⟩
theorem vo_167 : VOk (167, 11) := ⟨(RX11, TX11, 19), rfl, rfl, tg (tin_6 (i := 160) rfl) rfl, tg (tin_6 (i := 161) rfl) rfl⟩
theorem vo_168 : VOk (168, 11) := ⟨(RX11, TX11, 19), rfl, rfl, tg (tin_6 (i := 168) rfl) rfl, tg (tin_6 (i := 169) rfl) rfl⟩
theorem vo_169 : VOk (169, 11) := ⟨(RX11, TX11, 19), rfl, rfl, tg (tin_7 (i := 147) rfl) rfl, tg (tin_7 (i := 148) rfl) rfl⟩
theorem vo_171 : VOk (171, 11) := ⟨(RX11, TX11, 19), rfl, rfl, tg (tin_6 (i := 175) rfl) rfl, tg (tin_6 (i := 176) rfl) rfl⟩
theorem vo_172 : VOk (172, 11) := ⟨(RX11, TX11, 19), rfl, rfl, tg (tin_7 (i := 102) rfl) rfl, tg (tin_7 (i := 103) rfl) rfl⟩
theorem vo_173 : VOk (173, 11) := ⟨(RX11, TX11, 19), rfl, rfl, tg (tin_6 (i := 212) rfl) rfl, tg (tin_6 (i := 213) rfl) rfl⟩
theorem vo_174 : VOk (174, 11) := ⟨(RX11, TX11, 19), rfl, rfl, tg (tin_6 (i := 223) rfl) rfl, tg (tin_6 (i := 224) rfl) rfl⟩
theorem vo_175 : VOk (175, 11) := ⟨(RX11, TX11, 19), rfl, rfl, tg (tin_7 (i := 12) rfl) rfl, tg (tin_7 (i := 13) rfl) rfl⟩
theorem vo_176 : VOk (176, 11) := ⟨(RX11, TX11, 19), rfl, rfl, tg (tin_7 (i := 25) rfl) rfl, tg (tin_7 (i := 26) rfl) rfl⟩
theorem vo_177 : VOk (177, 11) := ⟨(RX11, TX11, 19), rfl, rfl, tg (tin_7 (i := 40) rfl) rfl, tg (tin_7 (i := 41) rfl) rfl⟩
theorem vo_178 : VOk (178, 11) := ⟨(RX11, TX11, 19), rfl, rfl, tg (tin_7 (i := 30) rfl) rfl, tg (tpi_5 (i := 5) rfl) rfl⟩
theorem vo_179 : VOk (179, 11) := ⟨(RX11, TX11, 19), rfl, rfl, tg (tin_7 (i := 34) rfl) rfl, tg (tpi_5 (i := 6) rfl) rfl⟩
theorem vo_180 : VOk (180, 11) := ⟨(RX11, TX11, 19), rfl, rfl, tg (tin_7 (i := 47) rfl) rfl, tg (tin_7 (i := 48) rfl) rfl⟩
theorem vo_181 : VOk (181, 11) := ⟨(RX11, TX11, 19), rfl, rfl, tg (tin_7 (i := 61) rfl) rfl, tg (tin_7 (i := 62) rfl) rfl⟩
theorem vo_184 : VOk (184, 11) := ⟨(RX11, TX11, 19), rfl, rfl, tg (tin_7 (i := 95) rfl) rfl, tg (tin_7 (i := 96) rfl) rfl⟩
theorem vo_185 : VOk (185, 11) := ⟨(RX11, TX11, 19), rfl, rfl, tg (tin_7 (i := 113) rfl) rfl, tg (tin_7 (i := 114) rfl) rfl⟩
theorem vo_186 : VOk (186, 11) := ⟨(RX11, TX11, 19), rfl, rfl, tg (tin_7 (i := 121) rfl) rfl, tg (tin_7 (i := 122) rfl) rfl⟩
theorem vo_187 : VOk (187, 11) := ⟨(RX11, TX11, 19), rfl, rfl, tg (tin_7 (i := 128) rfl) rfl, tg (tin_7 (i := 129) rfl) rfl⟩
theorem vo_188 : VOk (188, 11) := ⟨(RX11, TX11, 19), rfl, rfl, tg (tin_7 (i := 140) rfl) rfl, tg (tin_7 (i := 141) rfl) rfl⟩
theorem vo_189 : VOk (189, 11) := ⟨(RX11, TX11, 19), rfl, rfl, tg (tin_7 (i := 73) rfl) rfl, tg (tin_7 (i := 74) rfl) rfl⟩
theorem vo_190 : VOk (190, 11) := ⟨(RX11, TX11, 19), rfl, rfl, tg (tin_3 (i := 71) rfl) rfl, tg (tin_3 (i := 72) rfl) rfl⟩
theorem vo_191 : VOk (191, 11) := ⟨(RX11, TX11, 19), rfl, rfl, tg (tin_3 (i := 82) rfl) rfl, tg (tin_3 (i := 83) rfl) rfl⟩
theorem vo_192 : VOk (192, 11) := ⟨(RX11, TX11, 19), rfl, rfl, tg (tin_3 (i := 90) rfl) rfl, tg (tin_3 (i := 91) rfl) rfl⟩
theorem vo_193 : VOk (193, 11) := ⟨(RX11, TX11, 19), rfl, rfl, tg (tin_3 (i := 94) rfl) rfl, tg (tin_3 (i := 95) rfl) rfl⟩
theorem vo_194 : VOk (194, 11) := ⟨(RX11, TX11, 19), rfl, rfl, tg (tin_5 (i := 21) rfl) rfl, tg (tpi_3 (i := 2) rfl) rfl⟩
theorem vo_195 : VOk (195, 11) := ⟨(RX11, TX11, 19), rfl, rfl, tg (tin_5 (i := 52) rfl) rfl, tg (tpi_3 (i := 4) rfl) rfl⟩
theorem vo_196 : VOk (196, 11) := ⟨(RX11, TX11, 19), rfl, rfl, tg (tin_5 (i := 64) rfl) rfl, tg (tpi_3 (i := 5) rfl) rfl⟩
theorem vo_197 : VOk (197, 11) := ⟨(RX11, TX11, 19), rfl, rfl, tg (tin_5 (i := 68) rfl) rfl, tg (tpi_3 (i := 6) rfl) rfl⟩
theorem vo_198 : VOk (198, 11) := ⟨(RX11, TX11, 19), rfl, rfl, tg (tin_4 (i := 143) rfl) rfl, tg (tpi_2 (i := 7) rfl) rfl⟩
theorem vo_199 : VOk (199, 11) := ⟨(RX11, TX11, 19), rfl, rfl, tg (tin_6 (i := 217) rfl) rfl, tg (tpi_5 (i := 1) rfl) rfl⟩
theorem vo_200 : VOk (200, 11) := ⟨(RX11, TX11, 19), rfl, rfl, tg (tin_6 (i := 180) rfl) rfl, tg (tpi_4 (i := 12) rfl) rfl⟩
theorem vo_201 : VOk (201, 11) := ⟨(RX11, TX11, 19), rfl, rfl, tg (tin_5 (i := 224) rfl) rfl, tg (tpi_3 (i := 11) rfl) rfl⟩
theorem vo_202 : VOk (202, 11) := ⟨(RX11, TX11, 19), rfl, rfl, tg (tin_5 (i := 25) rfl) rfl, tg (tpi_3 (i := 3) rfl) rfl⟩
theorem vo_203 : VOk (203, 11) := ⟨(RX11, TX11, 19), rfl, rfl, tg (tin_3 (i := 107) rfl) rfl, tg (tpi_1 (i := 3) rfl) rfl⟩
theorem vo_207 : VOk (207, 12) := ⟨(RX12, TX12, 52), rfl, rfl, tg (tin_7 (i := 165) rfl) rfl, tg (tpi_5 (i := 8) rfl) rfl⟩
theorem vo_208 : VOk (208, 12) := ⟨(RX12, TX12, 52), rfl, rfl, tg (tin_8 (i := 90) rfl) rfl, tg (tin_8 (i := 91) rfl) rfl⟩
theorem vo_209 : VOk (209, 12) := ⟨(RX12, TX12, 52), rfl, rfl, tg (tin_8 (i := 106) rfl) rfl, tg (tpi_5 (i := 10) rfl) rfl⟩
theorem vo_211 : VOk (211, 12) := ⟨(RX12, TX12, 52), rfl, rfl, tg (tin_8 (i := 94) rfl) rfl, tg (tin_8 (i := 95) rfl) rfl⟩
theorem vo_212 : VOk (212, 12) := ⟨(RX12, TX12, 52), rfl, rfl, tg (tin_8 (i := 118) rfl) rfl, tg (tpi_5 (i := 13) rfl) rfl⟩
theorem vo_213 : VOk (213, 12) := ⟨(RX12, TX12, 52), rfl, rfl, tg (tin_8 (i := 114) rfl) rfl, tg (tpi_5 (i := 12) rfl) rfl⟩
theorem vo_214 : VOk (214, 12) := ⟨(RX12, TX12, 52), rfl, rfl, tg (tin_8 (i := 144) rfl) rfl, tg (tpi_6 (i := 2) rfl) rfl⟩
theorem vo_217 : VOk (217, 12) := ⟨(RX12, TX12, 52), rfl, rfl, tg (tin_8 (i := 156) rfl) rfl, tg (tpi_6 (i := 5) rfl) rfl⟩
theorem vo_218 : VOk (218, 12) := ⟨(RX12, TX12, 52), rfl, rfl, tg (tin_8 (i := 172) rfl) rfl, tg (tpi_6 (i := 8) rfl) rfl⟩
theorem vo_219 : VOk (219, 12) := ⟨(RX12, TX12, 52), rfl, rfl, tg (tin_8 (i := 134) rfl) rfl, tg (tpi_6 (i := 1) rfl) rfl⟩
theorem vo_221 : VOk (221, 12) := ⟨(RX12, TX12, 52), rfl, rfl, tg (tin_8 (i := 130) rfl) rfl, tg (tpi_6 (i := 0) rfl) rfl⟩
theorem vo_222 : VOk (222, 12) := ⟨(RX12, TX12, 52), rfl, rfl, tg (tin_8 (i := 152) rfl) rfl, tg (tpi_6 (i := 4) rfl) rfl⟩
theorem vo_223 : VOk (223, 12) := ⟨(RX12, TX12, 52), rfl, rfl, tg (tin_8 (i := 214) rfl) rfl, tg (tpi_7 (i := 0) rfl) rfl⟩
theorem vo_224 : VOk (224, 12) := ⟨(RX12, TX12, 52), rfl, rfl, tg (tin_8 (i := 176) rfl) rfl, tg (tpi_6 (i := 9) rfl) rfl⟩
theorem vo_225 : VOk (225, 12) := ⟨(RX12, TX12, 52), rfl, rfl, tg (tin_8 (i := 110) rfl) rfl, tg (tpi_5 (i := 11) rfl) rfl⟩
theorem vo_226 : VOk (226, 12) := ⟨(RX12, TX12, 52), rfl, rfl, tg (tin_8 (i := 126) rfl) rfl, tg (tpi_5 (i := 15) rfl) rfl⟩
theorem vo_227 : VOk (227, 12) := ⟨(RX12, TX12, 52), rfl, rfl, tg (tin_8 (i := 148) rfl) rfl, tg (tpi_6 (i := 3) rfl) rfl⟩
theorem vo_228 : VOk (228, 12) := ⟨(RX12, TX12, 52), rfl, rfl, tg (tin_8 (i := 168) rfl) rfl, tg (tpi_6 (i := 7) rfl) rfl⟩
theorem vo_229 : VOk (229, 12) := ⟨(RX12, TX12, 52), rfl, rfl, tg (tin_8 (i := 122) rfl) rfl, tg (tpi_5 (i := 14) rfl) rfl⟩
theorem vo_230 : VOk (230, 12) := ⟨(RX12, TX12, 52), rfl, rfl, tg (tin_8 (i := 164) rfl) rfl, tg (tpi_6 (i := 6) rfl) rfl⟩
theorem vo_232 : VOk (232, 12) := ⟨(RX12, TX12, 52), rfl, rfl, tg (tin_8 (i := 98) rfl) rfl, tg (tin_8 (i := 99) rfl) rfl⟩
theorem vo_233 : VOk (233, 12) := ⟨(RX12, TX12, 52), rfl, rfl, tg (tin_7 (i := 169) rfl) rfl, tg (tpi_5 (i := 9) rfl) rfl⟩
theorem vo_234 : VOk (234, 12) := ⟨(RX12, TX12, 52), rfl, rfl, tg (tin_8 (i := 210) rfl) rfl, tg (tpi_6 (i := 15) rfl) rfl⟩
theorem vo_235 : VOk (235, 12) := ⟨(RX12, TX12, 52), rfl, rfl, tg (tin_8 (i := 206) rfl) rfl, tg (tpi_6 (i := 14) rfl) rfl⟩
theorem vo_236 : VOk (236, 12) := ⟨(RX12, TX12, 52), rfl, rfl, tg (tin_8 (i := 194) rfl) rfl, tg (tpi_6 (i := 11) rfl) rfl⟩
theorem vo_237 : VOk (237, 12) := ⟨(RX12, TX12, 52), rfl, rfl, tg (tin_8 (i := 198) rfl) rfl, tg (tpi_6 (i := 12) rfl) rfl⟩
theorem vo_238 : VOk (238, 12) := ⟨(RX12, TX12, 52), rfl, rfl, tg (tin_8 (i := 202) rfl) rfl, tg (tpi_6 (i := 13) rfl) rfl⟩
theorem vo_239 : VOk (239, 12) := ⟨(RX12, TX12, 52), rfl, rfl, tg (tin_8 (i := 218) rfl) rfl, tg (tpi_7 (i := 1) rfl) rfl⟩
theorem vo_240 : VOk (240, 12) := ⟨(RX12, TX12, 52), rfl, rfl, tg (tin_8 (i := 222) rfl) rfl, tg (tpi_7 (i := 2) rfl) rfl⟩
theorem vo_241 : VOk (241, 12) := ⟨(RX12, TX12, 52), rfl, rfl, tg (tin_8 (i := 190) rfl) rfl, tg (tpi_6 (i := 10) rfl) rfl⟩
theorem vo_243 : VOk (243, 12) := ⟨(RX12, TX12, 52), rfl, rfl, tg (tin_8 (i := 182) rfl) rfl, tg (tin_8 (i := 183) rfl) rfl⟩
theorem vo_244 : VOk (244, 12) := ⟨(RX12, TX12, 52), rfl, rfl, tg (tin_8 (i := 225) rfl) rfl, tg (tin_8 (i := 226) rfl) rfl⟩
theorem vo_245 : VOk (245, 12) := ⟨(RX12, TX12, 52), rfl, rfl, tg (tin_8 (i := 229) rfl) rfl, tg (tin_8 (i := 230) rfl) rfl⟩
theorem vo_246 : VOk (246, 12) := ⟨(RX12, TX12, 52), rfl, rfl, tg (tin_8 (i := 233) rfl) rfl, tg (tin_8 (i := 234) rfl) rfl⟩
theorem vo_247 : VOk (247, 12) := ⟨(RX12, TX12, 52), rfl, rfl, tg (tin_9 (i := 2) rfl) rfl, tg (tpi_7 (i := 3) rfl) rfl⟩
theorem vo_248 : VOk (248, 12) := ⟨(RX12, TX12, 52), rfl, rfl, tg (tin_9 (i := 10) rfl) rfl, tg (tpi_7 (i := 4) rfl) rfl⟩
theorem vo_250 : VOk (250, 12) := ⟨(RX12, TX12, 52), rfl, rfl, tg (tin_9 (i := 21) rfl) rfl, tg (tpi_7 (i := 5) rfl) rfl⟩
theorem vo_251 : VOk (251, 12) := ⟨(RX12, TX12, 52), rfl, rfl, tg (tin_8 (i := 237) rfl) rfl, tg (tin_8 (i := 238) rfl) rfl⟩
theorem vo_252 : VOk (252, 12) := ⟨(RX12, TX12, 52), rfl, rfl, tg (tin_9 (i := 5) rfl) rfl, tg (tin_9 (i := 6) rfl) rfl⟩
theorem vo_253 : VOk (253, 12) := ⟨(RX12, TX12, 52), rfl, rfl, tg (tin_9 (i := 25) rfl) rfl, tg (tpi_7 (i := 6) rfl) rfl⟩
theorem vo_254 : VOk (254, 12) := ⟨(RX12, TX12, 52), rfl, rfl, tg (tin_9 (i := 33) rfl) rfl, tg (tpi_7 (i := 7) rfl) rfl⟩
theorem vo_255 : VOk (255, 12) := ⟨(RX12, TX12, 52), rfl, rfl, tg (tin_9 (i := 45) rfl) rfl, tg (tpi_7 (i := 9) rfl) rfl⟩
theorem vo_256 : VOk (256, 12) := ⟨(RX12, TX12, 52), rfl, rfl, tg (tin_9 (i := 53) rfl) rfl, tg (tpi_7 (i := 10) rfl) rfl⟩
theorem vo_257 : VOk (257, 12) := ⟨(RX12, TX12, 52), rfl, rfl, tg (tin_9 (i := 61) rfl) rfl, tg (tpi_7 (i := 11) rfl) rfl⟩
theorem vo_258 : VOk (258, 12) := ⟨(RX12, TX12, 52), rfl, rfl, tg (tin_9 (i := 13) rfl) rfl, tg (tin_9 (i := 14) rfl) rfl⟩
theorem vo_259 : VOk (259, 12) := ⟨(RX12, TX12, 52), rfl, rfl, tg (tin_9 (i := 28) rfl) rfl, tg (tin_9 (i := 29) rfl) rfl⟩
theorem vo_260 : VOk (260, 12) := ⟨(RX12, TX12, 52), rfl, rfl, tg (tin_9 (i := 41) rfl) rfl, tg (tpi_7 (i := 8) rfl) rfl⟩
theorem vo_261 : VOk (261, 12) := ⟨(RX12, TX12, 52), rfl, rfl, tg (tin_9 (i := 36) rfl) rfl, tg (tin_9 (i := 37) rfl) rfl⟩
theorem vo_262 : VOk (262, 12) := ⟨(RX12, TX12, 52), rfl, rfl, tg (tin_9 (i := 48) rfl) rfl, tg (tin_9 (i := 49) rfl) rfl⟩
theorem vo_263 : VOk (263, 12) := ⟨(RX12, TX12, 52), rfl, rfl, tg (tin_9 (i := 56) rfl) rfl, tg (tin_9 (i := 57) rfl) rfl⟩
theorem vo_264 : VOk (264, 12) := ⟨(RX12, TX12, 52), rfl, rfl, tg (tin_9 (i := 69) rfl) rfl, tg (tpi_7 (i := 12) rfl) rfl⟩
theorem vo_265 : VOk (265, 12) := ⟨(RX12, TX12, 52), rfl, rfl, tg (tin_9 (i := 85) rfl) rfl, tg (tpi_7 (i := 15) rfl) rfl⟩
theorem vo_267 : VOk (267, 12) := ⟨(RX12, TX12, 52), rfl, rfl, tg (tin_9 (i := 64) rfl) rfl, tg (tin_9 (i := 65) rfl) rfl⟩
theorem vo_268 : VOk (268, 12) := ⟨(RX12, TX12, 52), rfl, rfl, tg (tin_9 (i := 81) rfl) rfl, tg (tpi_7 (i := 14) rfl) rfl⟩
theorem vo_269 : VOk (269, 12) := ⟨(RX12, TX12, 52), rfl, rfl, tg (tin_9 (i := 77) rfl) rfl, tg (tpi_7 (i := 13) rfl) rfl⟩
theorem vo_270 : VOk (270, 12) := ⟨(RX12, TX12, 52), rfl, rfl, tg (tin_9 (i := 72) rfl) rfl, tg (tin_9 (i := 73) rfl) rfl⟩
theorem vo_271 : VOk (271, 12) := ⟨(RX12, TX12, 52), rfl, rfl, tg (tin_9 (i := 89) rfl) rfl, tg (tin_9 (i := 90) rfl) rfl⟩
theorem vo_272 : VOk (272, 12) := ⟨(RX12, TX12, 52), rfl, rfl, tg (tin_9 (i := 101) rfl) rfl, tg (tpi_8 (i := 0) rfl) rfl⟩
theorem vo_273 : VOk (273, 12) := ⟨(RX12, TX12, 52), rfl, rfl, tg (tin_9 (i := 96) rfl) rfl, tg (tin_9 (i := 97) rfl) rfl⟩
theorem vo_274 : VOk (274, 12) := ⟨(RX12, TX12, 52), rfl, rfl, tg (tin_9 (i := 104) rfl) rfl, tg (tin_9 (i := 105) rfl) rfl⟩
theorem vo_275 : VOk (275, 12) := ⟨(RX12, TX12, 52), rfl, rfl, tg (tin_9 (i := 108) rfl) rfl, tg (tin_9 (i := 109) rfl) rfl⟩
theorem vo_276 : VOk (276, 12) := ⟨(RX12, TX12, 52), rfl, rfl, tg (tin_9 (i := 112) rfl) rfl, tg (tin_9 (i := 113) rfl) rfl⟩
theorem vo_277 : VOk (277, 12) := ⟨(RX12, TX12, 52), rfl, rfl, tg (tin_9 (i := 116) rfl) rfl, tg (tin_9 (i := 117) rfl) rfl⟩
theorem vo_278 : VOk (278, 12) := ⟨(RX12, TX12, 52), rfl, rfl, tg (tin_9 (i := 120) rfl) rfl, tg (tin_9 (i := 121) rfl) rfl⟩
theorem vo_279 : VOk (279, 12) := ⟨(RX12, TX12, 52), rfl, rfl, tg (tin_9 (i := 129) rfl) rfl, tg (tpi_8 (i := 1) rfl) rfl⟩
theorem vo_280 : VOk (280, 12) := ⟨(RX12, TX12, 52), rfl, rfl, tg (tin_9 (i := 124) rfl) rfl, tg (tin_9 (i := 125) rfl) rfl⟩
theorem vo_281 : VOk (281, 12) := ⟨(RX12, TX12, 52), rfl, rfl, tg (tin_9 (i := 132) rfl) rfl, tg (tin_9 (i := 133) rfl) rfl⟩
theorem vo_282 : VOk (282, 12) := ⟨(RX12, TX12, 52), rfl, rfl, tg (tin_9 (i := 136) rfl) rfl, tg (tin_9 (i := 137) rfl) rfl⟩
theorem vo_283 : VOk (283, 12) := ⟨(RX12, TX12, 52), rfl, rfl, tg (tin_9 (i := 145) rfl) rfl, tg (tpi_8 (i := 2) rfl) rfl⟩
theorem vo_284 : VOk (284, 12) := ⟨(RX12, TX12, 52), rfl, rfl, tg (tin_9 (i := 149) rfl) rfl, tg (tpi_8 (i := 3) rfl) rfl⟩
theorem vo_285 : VOk (285, 12) := ⟨(RX12, TX12, 52), rfl, rfl, tg (tin_9 (i := 140) rfl) rfl, tg (tin_9 (i := 141) rfl) rfl⟩
theorem vo_286 : VOk (286, 12) := ⟨(RX12, TX12, 52), rfl, rfl, tg (tin_9 (i := 161) rfl) rfl, tg (tpi_8 (i := 5) rfl) rfl⟩
theorem vo_287 : VOk (287, 12) := ⟨(RX12, TX12, 52), rfl, rfl, tg (tin_9 (i := 157) rfl) rfl, tg (tpi_8 (i := 4) rfl) rfl⟩
theorem vo_288 : VOk (288, 12) := ⟨(RX12, TX12, 52), rfl, rfl, tg (tin_9 (i := 152) rfl) rfl, tg (tin_9 (i := 153) rfl) rfl⟩
theorem vo_289 : VOk (289, 12) := ⟨(RX12, TX12, 52), rfl, rfl, tg (tin_9 (i := 164) rfl) rfl, tg (tin_9 (i := 165) rfl) rfl⟩
theorem vo_290 : VOk (290, 12) := ⟨(RX12, TX12, 52), rfl, rfl, tg (tin_9 (i := 173) rfl) rfl, tg (tpi_8 (i := 6) rfl) rfl⟩
theorem vo_291 : VOk (291, 12) := ⟨(RX12, TX12, 52), rfl, rfl, tg (tin_9 (i := 168) rfl) rfl, tg (tin_9 (i := 169) rfl) rfl⟩
theorem vo_292 : VOk (292, 12) := ⟨(RX12, TX12, 52), rfl, rfl, tg (tin_9 (i := 181) rfl) rfl, tg (tpi_8 (i := 7) rfl) rfl⟩
theorem vo_293 : VOk (293, 12) := ⟨(RX12, TX12, 52), rfl, rfl, tg (tin_9 (i := 176) rfl) rfl, tg (tin_9 (i := 177) rfl) rfl⟩
theorem vo_294 : VOk (294, 12) := ⟨(RX12, TX12, 52), rfl, rfl, tg (tin_9 (i := 197) rfl) rfl, tg (tpi_8 (i := 10) rfl) rfl⟩
theorem vo_295 : VOk (295, 12) := ⟨(RX12, TX12, 52), rfl, rfl, tg (tin_9 (i := 193) rfl) rfl, tg (tpi_8 (i := 9) rfl) rfl⟩
theorem vo_296 : VOk (296, 12) := ⟨(RX12, TX12, 52), rfl, rfl, tg (tin_9 (i := 189) rfl) rfl, tg (tpi_8 (i := 8) rfl) rfl⟩
theorem vo_297 : VOk (297, 12) := ⟨(RX12, TX12, 52), rfl, rfl, tg (tin_9 (i := 184) rfl) rfl, tg (tin_9 (i := 185) rfl) rfl⟩
theorem vo_298 : VOk (298, 12) := ⟨(RX12, TX12, 52), rfl, rfl, tg (tin_9 (i := 200) rfl) rfl, tg (tin_9 (i := 201) rfl) rfl⟩
theorem vo_299 : VOk (299, 12) := ⟨(RX12, TX12, 52), rfl, rfl, tg (tin_9 (i := 204) rfl) rfl, tg (tin_9 (i := 205) rfl) rfl⟩
theorem vo_300 : VOk (300, 12) := ⟨(RX12, TX12, 52), rfl, rfl, tg (tin_9 (i := 213) rfl) rfl, tg (tpi_8 (i := 11) rfl) rfl⟩
theorem vo_301 : VOk (301, 12) := ⟨(RX12, TX12, 52), rfl, rfl, tg (tin_9 (i := 217) rfl) rfl, tg (tpi_8 (i := 12) rfl) rfl⟩
theorem vo_302 : VOk (302, 12) := ⟨(RX12, TX12, 52), rfl, rfl, tg (tin_9 (i := 208) rfl) rfl, tg (tin_9 (i := 209) rfl) rfl⟩
theorem vo_303 : VOk (303, 12) := ⟨(RX12, TX12, 52), rfl, rfl, tg (tin_9 (i := 220) rfl) rfl, tg (tin_9 (i := 221) rfl) rfl⟩
theorem vo_304 : VOk (304, 12) := ⟨(RX12, TX12, 52), rfl, rfl, tg (tin_9 (i := 233) rfl) rfl, tg (tpi_8 (i := 14) rfl) rfl⟩
theorem vo_305 : VOk (305, 12) := ⟨(RX12, TX12, 52), rfl, rfl, tg (tin_9 (i := 229) rfl) rfl, tg (tpi_8 (i := 13) rfl) rfl⟩
theorem vo_306 : VOk (306, 12) := ⟨(RX12, TX12, 52), rfl, rfl, tg (tin_9 (i := 224) rfl) rfl, tg (tin_9 (i := 225) rfl) rfl⟩
theorem vo_307 : VOk (307, 12) := ⟨(RX12, TX12, 52), rfl, rfl, tg (tin_9 (i := 236) rfl) rfl, tg (tin_9 (i := 237) rfl) rfl⟩
theorem vo_308 : VOk (308, 12) := ⟨(RX12, TX12, 52), rfl, rfl, tg (tin_10 (i := 5) rfl) rfl, tg (tpi_8 (i := 15) rfl) rfl⟩
theorem vo_309 : VOk (309, 12) := ⟨(RX12, TX12, 52), rfl, rfl, tg (tin_10 (i := 0) rfl) rfl, tg (tin_10 (i := 1) rfl) rfl⟩
theorem vo_310 : VOk (310, 12) := ⟨(RX12, TX12, 52), rfl, rfl, tg (tin_10 (i := 8) rfl) rfl, tg (tin_10 (i := 9) rfl) rfl⟩
theorem vo_311 : VOk (311, 12) := ⟨(RX12, TX12, 52), rfl, rfl, tg (tin_10 (i := 17) rfl) rfl, tg (tpi_9 (i := 0) rfl) rfl⟩
theorem vo_312 : VOk (312, 12) := ⟨(RX12, TX12, 52), rfl, rfl, tg (tin_10 (i := 12) rfl) rfl, tg (tin_10 (i := 13) rfl) rfl⟩
theorem vo_313 : VOk (313, 12) := ⟨(RX12, TX12, 52), rfl, rfl, tg (tin_10 (i := 21) rfl) rfl, tg (tin_10 (i := 22) rfl) rfl⟩
theorem vo_314 : VOk (314, 12) := ⟨(RX12, TX12, 52), rfl, rfl, tg (tin_10 (i := 25) rfl) rfl, tg (tin_10 (i := 26) rfl) rfl⟩
theorem vo_315 : VOk (315, 12) := ⟨(RX12, TX12, 52), rfl, rfl, tg (tin_10 (i := 34) rfl) rfl, tg (tpi_9 (i := 1) rfl) rfl⟩
theorem vo_316 : VOk (316, 12) := ⟨(RX12, TX12, 52), rfl, rfl, tg (tin_10 (i := 29) rfl) rfl, tg (tin_10 (i := 30) rfl) rfl⟩
theorem vo_317 : VOk (317, 12) := ⟨(RX12, TX12, 52), rfl, rfl, tg (tin_10 (i := 37) rfl) rfl, tg (tin_10 (i := 38) rfl) rfl⟩
theorem vo_318 : VOk (318, 12) := ⟨(RX12, TX12, 52), rfl, rfl, tg (tin_10 (i := 41) rfl) rfl, tg (tin_10 (i := 42) rfl) rfl⟩
theorem vo_319 : VOk (319, 12) := ⟨(RX12, TX12, 52), rfl, rfl, tg (tin_10 (i := 45) rfl) rfl, tg (tin_10 (i := 46) rfl) rfl⟩
theorem vo_320 : VOk (320, 12) := ⟨(RX12, TX12, 52), rfl, rfl, tg (tin_10 (i := 49) rfl) rfl, tg (tin_10 (i := 50) rfl) rfl⟩
theorem vo_321 : VOk (321, 12) := ⟨(RX12, TX12, 52), rfl, rfl, tg (tin_10 (i := 53) rfl) rfl, tg (tin_10 (i := 54) rfl) rfl⟩
theorem vo_322 : VOk (322, 12) := ⟨(RX12, TX12, 52), rfl, rfl, tg (tin_10 (i := 57) rfl) rfl, tg (tin_10 (i := 58) rfl) rfl⟩
theorem vo_323 : VOk (323, 12) := ⟨(RX12, TX12, 52), rfl, rfl, tg (tin_10 (i := 61) rfl) rfl, tg (tin_10 (i := 62) rfl) rfl⟩
theorem vo_324 : VOk (324, 12) := ⟨(RX12, TX12, 52), rfl, rfl, tg (tin_10 (i := 65) rfl) rfl, tg (tin_10 (i := 66) rfl) rfl⟩
theorem vo_325 : VOk (325, 12) := ⟨(RX12, TX12, 52), rfl, rfl, tg (tin_10 (i := 78) rfl) rfl, tg (tpi_9 (i := 3) rfl) rfl⟩
theorem vo_326 : VOk (326, 12) := ⟨(RX12, TX12, 52), rfl, rfl, tg (tin_10 (i := 82) rfl) rfl, tg (tpi_9 (i := 4) rfl) rfl⟩
theorem vo_327 : VOk (327, 12) := ⟨(RX12, TX12, 52), rfl, rfl, tg (tin_10 (i := 74) rfl) rfl, tg (tpi_9 (i := 2) rfl) rfl⟩
theorem vo_328 : VOk (328, 12) := ⟨(RX12, TX12, 52), rfl, rfl, tg (tin_10 (i := 69) rfl) rfl, tg (tin_10 (i := 70) rfl) rfl⟩
theorem vo_329 : VOk (329, 12) := ⟨(RX12, TX12, 52), rfl, rfl, tg (tin_10 (i := 85) rfl) rfl, tg (tin_10 (i := 86) rfl) rfl⟩
theorem vo_330 : VOk (330, 12) := ⟨(RX12, TX12, 52), rfl, rfl, tg (tin_10 (i := 89) rfl) rfl, tg (tin_10 (i := 90) rfl) rfl⟩
theorem vo_331 : VOk (331, 12) := ⟨(RX12, TX12, 52), rfl, rfl, tg (tin_10 (i := 93) rfl) rfl, tg (tin_10 (i := 94) rfl) rfl⟩
def vT_0 : List (Nat × Nat) := [(10, 0), (100, 9), (101, 9), (102, 9), (103, 9), (104, 9), (105, 9), (106, 9), (107, 9), (108, 9), (109, 9), (11, 0), (110, 9), (112, 9), (113, 9), (114, 9), (115, 9), (116, 9), (119, 10), (12, 0), (120, 10), (121, 10), (122, 10), (123, 10), (124, 10), (125, 10), (127, 11), (128, 11), (129, 11), (13, 0), (130, 11), (131, 11), (132, 11), (133, 11), (134, 11), (135, 11), (136, 11), (137, 11), (138, 11), (139, 11)]
theorem vT_ok_0 : ∀ t ∈ vT_0, VOk t := List.forall_mem_cons.mpr ⟨vo_10, List.forall_mem_cons.mpr ⟨vo_100, List.forall_mem_cons.mpr ⟨vo_101, List.forall_mem_cons.mpr ⟨vo_102, List.forall_mem_cons.mpr ⟨vo_103, List.forall_mem_cons.mpr ⟨vo_104, List.forall_mem_cons.mpr ⟨vo_105, List.forall_mem_cons.mpr ⟨vo_106, List.forall_mem_cons.mpr ⟨vo_107, List.forall_mem_cons.mpr ⟨vo_108, List.forall_mem_cons.mpr ⟨vo_109, List.forall_mem_cons.mpr ⟨vo_11, List.forall_mem_cons.mpr ⟨vo_110, List.forall_mem_cons.mpr ⟨vo_112, List.forall_mem_cons.mpr ⟨vo_113, List.forall_mem_cons.mpr ⟨vo_114, List.forall_mem_cons.mpr ⟨vo_115, List.forall_mem_cons.mpr ⟨vo_116, List.forall_mem_cons.mpr ⟨vo_119, List.forall_mem_cons.mpr ⟨vo_12, List.forall_mem_cons.mpr ⟨vo_120, List.forall_mem_cons.mpr ⟨vo_121, List.forall_mem_cons.mpr ⟨vo_122, List.forall_mem_cons.mpr ⟨vo_123, List.forall_mem_cons.mpr ⟨vo_124, List.forall_mem_cons.mpr ⟨vo_125, List.forall_mem_cons.mpr ⟨vo_127, List.forall_mem_cons.mpr ⟨vo_128, List.forall_mem_cons.mpr ⟨vo_129, List.forall_mem_cons.mpr ⟨vo_13, List.forall_mem_cons.mpr ⟨vo_130, List.forall_mem_cons.mpr ⟨vo_131, List.forall_mem_cons.mpr ⟨vo_132, List.forall_mem_cons.mpr ⟨vo_133, List.forall_mem_cons.mpr ⟨vo_134, List.forall_mem_cons.mpr ⟨vo_135, List.forall_mem_cons.mpr ⟨vo_136, List.forall_mem_cons.mpr ⟨vo_137, List.forall_mem_cons.mpr ⟨vo_138, List.forall_mem_cons.mpr ⟨vo_139, fun _ h => absurd h List.not_mem_nil⟩⟩⟩⟩⟩⟩⟩⟩⟩⟩⟩⟩⟩⟩⟩⟩⟩⟩⟩⟩⟩⟩⟩⟩⟩⟩⟩⟩⟩⟩⟩⟩⟩⟩⟩⟩⟩⟩⟩⟩
def vT_1 : List (Nat × Nat) := [(140, 11), (141, 11), (142, 11), (143, 11), (144, 11), (145, 11), (146, 11), (147, 11), (148, 11), (149, 11), (15, 0), (150, 11), (151, 11), (152, 11), (153, 11), (154, 11), (155, 11), (156, 11), (157, 11), (158, 11), (16, 0), (160, 11), (161, 11), (162, 11), (163, 11), (164, 11), (165, 11), (166, 11), (167, 11), (168, 11), (169, 11), (17, 0), (171, 11), (172, 11), (173, 11), (174, 11), (175, 11), (176, 11), (177, 11), (178, 11)]
theorem vT_ok_1 : ∀ t ∈ vT_1, VOk t := List.forall_mem_cons.mpr ⟨vo_140, List.forall_mem_cons.mpr ⟨vo_141, List.forall_mem_cons.mpr ⟨vo_142, List.forall_mem_cons.mpr ⟨vo_143, List.forall_mem_cons.mpr ⟨vo_144, List.forall_mem_cons.mpr ⟨vo_145, List.forall_mem_cons.mpr ⟨vo_146, List.forall_mem_cons.mpr ⟨vo_147, List.forall_mem_cons.mpr ⟨vo_148, List.forall_mem_cons.mpr ⟨vo_149, List.forall_mem_cons.mpr ⟨vo_15, List.forall_mem_cons.mpr ⟨vo_150, List.forall_mem_cons.mpr ⟨vo_151, List.forall_mem_cons.mpr ⟨vo_152, List.forall_mem_cons.mpr ⟨vo_153, List.forall_mem_cons.mpr ⟨vo_154, List.forall_mem_cons.mpr ⟨vo_155, List.forall_mem_cons.mpr ⟨vo_156, List.forall_mem_cons.mpr ⟨vo_157, List.forall_mem_cons.mpr ⟨vo_158, List.forall_mem_cons.mpr ⟨vo_16, List.forall_mem_cons.mpr ⟨vo_160, List.forall_mem_cons.mpr ⟨vo_161, List.forall_mem_cons.mpr ⟨vo_162, List.forall_mem_cons.mpr ⟨vo_163, List.forall_mem_cons.mpr ⟨vo_164, List.forall_mem_cons.mpr ⟨vo_165, List.forall_mem_cons.mpr ⟨vo_166, List.forall_mem_cons.mpr ⟨vo_167, List.forall_mem_cons.mpr ⟨vo_168, List.forall_mem_cons.mpr ⟨vo_169, List.forall_mem_cons.mpr ⟨vo_17, List.forall_mem_cons.mpr ⟨vo_171, List.forall_mem_cons.mpr ⟨vo_172, List.forall_mem_cons.mpr ⟨vo_173, List.forall_mem_cons.mpr ⟨vo_174, List.forall_mem_cons.mpr ⟨vo_175, List.forall_mem_cons.mpr ⟨vo_176, List.forall_mem_cons.mpr ⟨vo_177, List.forall_mem_cons.mpr ⟨vo_178, fun _ h => absurd h List.not_mem_nil⟩⟩⟩⟩⟩⟩⟩⟩⟩⟩⟩⟩⟩⟩⟩⟩⟩⟩⟩⟩⟩⟩⟩⟩⟩⟩⟩⟩⟩⟩⟩⟩⟩⟩⟩⟩⟩⟩⟩⟩
def vT_2 : List (Nat × Nat) := [(179, 11), (18, 0), (180, 11), (181, 11), (184, 11), (185, 11), (186, 11), (187, 11), (188, 11), (189, 11), (19, 0), (190, 11), (191, 11), (192, 11), (193, 11), (194, 11), (195, 11), (196, 11), (197, 11), (198, 11), (199, 11), (20, 0), (200, 11), (201, 11), (202, 11), (203, 11), (207, 12), (208, 12), (209, 12), (21, 0), (211, 12), (212, 12), (213, 12), (214, 12), (217, 12), (218, 12), (219, 12), (221, 12), (222, 12), (223, 12)]
theorem vT_ok_2 : ∀ t ∈ vT_2, VOk t := List.forall_mem_cons.mpr ⟨vo_179, List.forall_mem_cons.mpr ⟨vo_18, List.forall_mem_cons.mpr ⟨vo_180, List.forall_mem_cons.mpr ⟨vo_181, List.forall_mem_cons.mpr ⟨vo_184, List.forall_mem_cons.mpr ⟨vo_185, List.forall_mem_cons.mpr ⟨vo_186, List.forall_mem_cons.mpr ⟨vo_187, List.forall_mem_cons.mpr ⟨vo_188, List.forall_mem_cons.mpr ⟨vo_189, List.forall_mem_cons.mpr ⟨vo_19, List.forall_mem_cons.mpr ⟨vo_190, List.forall_mem_cons.mpr ⟨vo_191, List.forall_mem_cons.mpr ⟨vo_192, List.forall_mem_cons.mpr ⟨vo_193, List.forall_mem_cons.mpr ⟨vo_194, List.forall_mem_cons.mpr ⟨vo_195, List.forall_mem_cons.mpr ⟨vo_196, List.forall_mem_cons.mpr ⟨vo_197, List.forall_mem_cons.mpr ⟨vo_198, List.forall_mem_cons.mpr ⟨vo_199, List.forall_mem_cons.mpr ⟨vo_20, List.forall_mem_cons.mpr ⟨vo_200, List.forall_mem_cons.mpr ⟨vo_201, List.forall_mem_cons.mpr ⟨vo_202, List.forall_mem_cons.mpr ⟨vo_203, List.forall_mem_cons.mpr ⟨vo_207, List.forall_mem_cons.mpr ⟨vo_208, List.forall_mem_cons.mpr ⟨vo_209, List.forall_mem_cons.mpr ⟨vo_21, List.forall_mem_cons.mpr ⟨vo_211, List.forall_mem_cons.mpr ⟨vo_212, List.forall_mem_cons.mpr ⟨vo_213, List.forall_mem_cons.mpr ⟨vo_214, List.forall_mem_cons.mpr ⟨vo_217, List.forall_mem_cons.mpr ⟨vo_218, List.forall_mem_cons.mpr ⟨vo_219, List.forall_mem_cons.mpr ⟨vo_221, List.forall_mem_cons.mpr ⟨vo_222, List.forall_mem_cons.mpr ⟨vo_223, fun _ h => absurd h List.not_mem_nil⟩⟩⟩⟩⟩⟩⟩⟩⟩⟩⟩⟩⟩⟩⟩⟩⟩⟩⟩⟩⟩⟩⟩⟩⟩⟩⟩⟩⟩⟩⟩⟩⟩⟩⟩⟩⟩⟩⟩⟩
def vT_3 : List (Nat × Nat) := [(224, 12), (225, 12), (226, 12), (227, 12), (228, 12), (229, 12), (23, 1), (230, 12), (232, 12), (233, 12), (234, 12), (235, 12), (236, 12), (237, 12), (238, 12), (239, 12), (24, 1), (240, 12), (241, 12), (243, 12), (244, 12), (245, 12), (246, 12), (247, 12), (248, 12), (25, 1), (250, 12), (251, 12), (252, 12), (253, 12), (254, 12), (255, 12), (256, 12), (257, 12), (258, 12), (259, 12), (26, 1), (260, 12), (261, 12), (262, 12)]
theorem vT_ok_3 : ∀ t ∈ vT_3, VOk t := List.forall_mem_cons.mpr ⟨vo_224, List.forall_mem_cons.mpr ⟨vo_225, List.forall_mem_cons.mpr ⟨vo_226, List.forall_mem_cons.mpr ⟨vo_227, List.forall_mem_cons.mpr ⟨vo_228, List.forall_mem_cons.mpr ⟨vo_229, List.forall_mem_cons.mpr ⟨vo_23, List.forall_mem_cons.mpr ⟨vo_230, List.forall_mem_cons.mpr ⟨vo_232, List.forall_mem_cons.mpr ⟨vo_233, List.forall_mem_cons.mpr ⟨vo_234, List.forall_mem_cons.mpr ⟨vo_235, List.forall_mem_cons.mpr ⟨vo_236, List.forall_mem_cons.mpr ⟨vo_237, List.forall_mem_cons.mpr ⟨vo_238, List.forall_mem_cons.mpr ⟨vo_239, List.forall_mem_cons.mpr ⟨vo_24, List.forall_mem_cons.mpr ⟨vo_240, List.forall_mem_cons.mpr ⟨vo_241, List.forall_mem_cons.mpr ⟨vo_243, List.forall_mem_cons.mpr ⟨vo_244, List.forall_mem_cons.mpr ⟨vo_245, List.forall_mem_cons.mpr ⟨vo_246, List.forall_mem_cons.mpr ⟨vo_247, List.forall_mem_cons.mpr ⟨vo_248, List.forall_mem_cons.mpr ⟨vo_25, List.forall_mem_cons.mpr ⟨vo_250, List.forall_mem_cons.mpr ⟨vo_251, List.forall_mem_cons.mpr ⟨vo_252, List.forall_mem_cons.mpr ⟨vo_253, List.forall_mem_cons.mpr ⟨vo_254, List.forall_mem_cons.mpr ⟨vo_255, List.forall_mem_cons.mpr ⟨vo_256, List.forall_mem_cons.mpr ⟨vo_257, List.forall_mem_cons.mpr ⟨vo_258, List.forall_mem_cons.mpr ⟨vo_259, List.forall_mem_cons.mpr ⟨vo_26, List.forall_mem_cons.mpr ⟨vo_260, List.forall_mem_cons.mpr ⟨vo_261, List.forall_mem_cons.mpr ⟨vo_262, fun _ h => absurd h List.not_mem_nil⟩⟩⟩⟩⟩⟩⟩⟩⟩⟩⟩⟩⟩⟩⟩⟩⟩⟩⟩⟩⟩⟩⟩⟩⟩⟩⟩⟩⟩⟩⟩⟩⟩⟩⟩⟩⟩⟩⟩⟩
def vT_4 : List (Nat × Nat) := [(263, 12), (264, 12), (265, 12), (267, 12), (268, 12), (269, 12), (27, 1), (270, 12), (271, 12), (272, 12), (273, 12), (274, 12), (275, 12), (276, 12), (277, 12), (278, 12), (279, 12), (28, 1), (280, 12), (281, 12), (282, 12), (283, 12), (284, 12), (285, 12), (286, 12), (287, 12), (288, 12), (289, 12), (29, 1), (290, 12), (291, 12), (292, 12), (293, 12), (294, 12), (295, 12), (296, 12), (297, 12), (298, 12), (299, 12), (30, 1)]
theorem vT_ok_4 : ∀ t ∈ vT_4, VOk t := List.forall_mem_cons.mpr ⟨vo_263, List.forall_mem_cons.mpr ⟨vo_264, List.forall_mem_cons.mpr ⟨vo_265, List.forall_mem_cons.mpr ⟨vo_267, List.forall_mem_cons.mpr ⟨vo_268, List.forall_mem_cons.mpr ⟨vo_269, List.forall_mem_cons.mpr ⟨vo_27, List.forall_mem_cons.mpr ⟨vo_270, List.forall_mem_cons.mpr ⟨vo_271, List.forall_mem_cons.mpr ⟨vo_272, List.forall_mem_cons.mpr ⟨vo_273, List.forall_mem_cons.mpr ⟨vo_274, List.forall_mem_cons.mpr ⟨vo_275, List.forall_mem_cons.mpr ⟨vo_276, List.forall_mem_cons.mpr ⟨vo_277, List.forall_mem_cons.mpr ⟨vo_278, List.forall_mem_cons.mpr ⟨vo_279, List.forall_mem_cons.mpr ⟨vo_28, List.forall_mem_cons.mpr ⟨vo_280, List.forall_mem_cons.mpr ⟨vo_281, List.forall_mem_cons.mpr ⟨vo_282, List.forall_mem_cons.mpr ⟨vo_283, List.forall_mem_cons.mpr ⟨vo_284, List.forall_mem_cons.mpr ⟨vo_285, List.forall_mem_cons.mpr ⟨vo_286, List.forall_mem_cons.mpr ⟨vo_287, List.forall_mem_cons.mpr ⟨vo_288, List.forall_mem_cons.mpr ⟨vo_289, List.forall_mem_cons.mpr ⟨vo_29, List.forall_mem_cons.mpr ⟨vo_290, List.forall_mem_cons.mpr ⟨vo_291, List.forall_mem_cons.mpr ⟨vo_292, List.forall_mem_cons.mpr ⟨vo_293, List.forall_mem_cons.mpr ⟨vo_294, List.forall_mem_cons.mpr ⟨vo_295, List.forall_mem_cons.mpr ⟨vo_296, List.forall_mem_cons.mpr ⟨vo_297, List.forall_mem_cons.mpr ⟨vo_298, List.forall_mem_cons.mpr ⟨vo_299, List.forall_mem_cons.mpr ⟨vo_30, fun _ h => absurd h List.not_mem_nil⟩⟩⟩⟩⟩⟩⟩⟩⟩⟩⟩⟩⟩⟩⟩⟩⟩⟩⟩⟩⟩⟩⟩⟩⟩⟩⟩⟩⟩⟩⟩⟩⟩⟩⟩⟩⟩⟩⟩⟩
def vT_5 : List (Nat × Nat) := [(300, 12), (301, 12), (302, 12), (303, 12), (304, 12), (305, 12), (306, 12), (307, 12), (308, 12), (309, 12), (31, 1), (310, 12), (311, 12), (312, 12), (313, 12), (314, 12), (315, 12), (316, 12), (317, 12), (318, 12), (319, 12), (320, 12), (321, 12), (322, 12), (323, 12), (324, 12), (325, 12), (326, 12), (327, 12), (328, 12), (329, 12), (33, 2), (330, 12), (331, 12), (34, 2), (35, 2), (36, 2), (37, 2), (38, 2), (39, 2)]
theorem vT_ok_5 : ∀ t ∈ vT_5, VOk t := List.forall_mem_cons.mpr ⟨vo_300, List.forall_mem_cons.mpr ⟨vo_301, List.forall_mem_cons.mpr ⟨vo_302, List.forall_mem_cons.mpr ⟨vo_303, List.forall_mem_cons.mpr ⟨vo_304, List.forall_mem_cons.mpr ⟨vo_305, List.forall_mem_cons.mpr ⟨vo_306, List.forall_mem_cons.mpr ⟨vo_307, List.forall_mem_cons.mpr ⟨vo_308, List.forall_mem_cons.mpr ⟨vo_309, List.forall_mem_cons.mpr ⟨vo_31, List.forall_mem_cons.mpr ⟨vo_310, List.forall_mem_cons.mpr ⟨vo_311, List.forall_mem_cons.mpr ⟨vo_312, List.forall_mem_cons.mpr ⟨vo_313, List.forall_mem_cons.mpr ⟨vo_314, List.forall_mem_cons.mpr ⟨vo_315, List.forall_mem_cons.mpr ⟨vo_316, List.forall_mem_cons.mpr ⟨vo_317, List.forall_mem_cons.mpr ⟨vo_318, List.forall_mem_cons.mpr ⟨vo_319, List.forall_mem_cons.mpr ⟨vo_320, List.forall_mem_cons.mpr ⟨vo_321, List.forall_mem_cons.mpr ⟨vo_322, List.forall_mem_cons.mpr ⟨vo_323, List.forall_mem_cons.mpr ⟨vo_324, List.forall_mem_cons.mpr ⟨vo_325, List.forall_mem_cons.mpr ⟨vo_326, List.forall_mem_cons.mpr ⟨vo_327, List.forall_mem_cons.mpr ⟨vo_328, List.forall_mem_cons.mpr ⟨vo_329, List.forall_mem_cons.mpr ⟨vo_33, List.forall_mem_cons.mpr ⟨vo_330, List.forall_mem_cons.mpr ⟨vo_331, List.forall_mem_cons.mpr ⟨vo_34, List.forall_mem_cons.mpr ⟨vo_35, List.forall_mem_cons.mpr ⟨vo_36, List.forall_mem_cons.mpr ⟨vo_37, List.forall_mem_cons.mpr ⟨vo_38, List.forall_mem_cons.mpr ⟨vo_39, fun _ h => absurd h List.not_mem_nil⟩⟩⟩⟩⟩⟩⟩⟩⟩⟩⟩⟩⟩⟩⟩⟩⟩⟩⟩⟩⟩⟩⟩⟩⟩⟩⟩⟩⟩⟩⟩⟩⟩⟩⟩⟩⟩⟩⟩⟩
def vT_6 : List (Nat × Nat) := [(40, 2), (41, 2), (42, 2), (43, 2), (44, 2), (46, 3), (47, 3), (48, 3), (49, 3), (50, 3), (51, 3), (52, 3), (53, 3), (54, 3), (55, 3), (56, 3), (57, 3), (58, 3), (59, 3), (60, 3), (61, 3), (62, 3), (64, 4), (65, 4), (66, 4), (67, 4), (68, 4), (69, 4), (72, 6), (73, 6), (74, 6), (75, 6), (76, 6), (77, 6), (78, 6), (79, 6), (80, 6), (81, 6), (83, 7), (84, 7)]
theorem vT_ok_6 : ∀ t ∈ vT_6, VOk t := List.forall_mem_cons.mpr ⟨vo_40, List.forall_mem_cons.mpr ⟨vo_41, List.forall_mem_cons.mpr ⟨vo_42, List.forall_mem_cons.mpr ⟨vo_43, List.forall_mem_cons.mpr ⟨vo_44, List.forall_mem_cons.mpr ⟨vo_46, List.forall_mem_cons.mpr ⟨vo_47, List.forall_mem_cons.mpr ⟨vo_48, List.forall_mem_cons.mpr ⟨vo_49, List.forall_mem_cons.mpr ⟨vo_50, List.forall_mem_cons.mpr ⟨vo_51, List.forall_mem_cons.mpr ⟨vo_52, List.forall_mem_cons.mpr ⟨vo_53, List.forall_mem_cons.mpr ⟨vo_54, List.forall_mem_cons.mpr ⟨vo_55, List.forall_mem_cons.mpr ⟨vo_56, List.forall_mem_cons.mpr ⟨vo_57, List.forall_mem_cons.mpr ⟨vo_58, List.forall_mem_cons.mpr ⟨vo_59, List.forall_mem_cons.mpr ⟨vo_60, List.forall_mem_cons.mpr ⟨vo_61, List.forall_mem_cons.mpr ⟨vo_62, List.forall_mem_cons.mpr ⟨vo_64, List.forall_mem_cons.mpr ⟨vo_65, List.forall_mem_cons.mpr ⟨vo_66, List.forall_mem_cons.mpr ⟨vo_67, List.forall_mem_cons.mpr ⟨vo_68, List.forall_mem_cons.mpr ⟨vo_69, List.forall_mem_cons.mpr ⟨vo_72, List.forall_mem_cons.mpr ⟨vo_73, List.forall_mem_cons.mpr ⟨vo_74, List.forall_mem_cons.mpr ⟨vo_75, List.forall_mem_cons.mpr ⟨vo_76, List.forall_mem_cons.mpr ⟨vo_77, List.forall_mem_cons.mpr ⟨vo_78, List.forall_mem_cons.mpr ⟨vo_79, List.forall_mem_cons.mpr ⟨vo_80, List.forall_mem_cons.mpr ⟨vo_81, List.forall_mem_cons.mpr ⟨vo_83, List.forall_mem_cons.mpr ⟨vo_84, fun _ h => absurd h List.not_mem_nil⟩⟩⟩⟩⟩⟩⟩⟩⟩⟩⟩⟩⟩⟩⟩⟩⟩⟩⟩⟩⟩⟩⟩⟩⟩⟩⟩⟩⟩⟩⟩⟩⟩⟩⟩⟩⟩⟩⟩⟩
def vT_7 : List (Nat × Nat) := [(85, 7), (86, 7), (87, 7), (88, 7), (9, 0), (90, 8), (91, 8), (92, 8), (93, 8), (94, 8), (95, 8), (97, 9), (98, 9), (99, 9)]
theorem vT_ok_7 : ∀ t ∈ vT_7, VOk t := List.forall_mem_cons.mpr ⟨vo_85, List.forall_mem_cons.mpr ⟨vo_86, List.forall_mem_cons.mpr ⟨vo_87, List.forall_mem_cons.mpr ⟨vo_88, List.forall_mem_cons.mpr ⟨vo_9, List.forall_mem_cons.mpr ⟨vo_90, List.forall_mem_cons.mpr ⟨vo_91, List.forall_mem_cons.mpr ⟨vo_92, List.forall_mem_cons.mpr ⟨vo_93, List.forall_mem_cons.mpr ⟨vo_94, List.forall_mem_cons.mpr ⟨vo_95, List.forall_mem_cons.mpr ⟨vo_97, List.forall_mem_cons.mpr ⟨vo_98, List.forall_mem_cons.mpr ⟨vo_99, fun _ h => absurd h List.not_mem_nil⟩⟩⟩⟩⟩⟩⟩⟩⟩⟩⟩⟩⟩⟩
def vT : List (Nat × Nat) := vT_0 ++ (vT_1 ++ (vT_2 ++ (vT_3 ++ (vT_4 ++ (vT_5 ++ (vT_6 ++ (vT_7)))))))
theorem vT_ok : ∀ t ∈ vT, VOk t := List.forall_mem_append.mpr ⟨vT_ok_0, List.forall_mem_append.mpr ⟨vT_ok_1, List.forall_mem_append.mpr ⟨vT_ok_2, List.forall_mem_append.mpr ⟨vT_ok_3, List.forall_mem_append.mpr ⟨vT_ok_4, List.forall_mem_append.mpr ⟨vT_ok_5, List.forall_mem_append.mpr ⟨vT_ok_6, vT_ok_7⟩⟩⟩⟩⟩⟩⟩
def SOk (y : Nat) : Prop := (yM y).name = "<init>" ∧ rtM y = none ∧ Cond.instanceMethod (yM y) ∈ Tb
theorem so_8 : SOk 8 := ⟨rfl, rfl, tg (tin_1 (i := 237) rfl) rfl⟩
theorem so_22 : SOk 22 := ⟨rfl, rfl, tg (tin_1 (i := 186) rfl) rfl⟩
theorem so_32 : SOk 32 := ⟨rfl, rfl, tg (tin_1 (i := 76) rfl) rfl⟩
theorem so_45 : SOk 45 := ⟨rfl, rfl, tg (tin_2 (i := 31) rfl) rfl⟩
theorem so_63 : SOk 63 := ⟨rfl, rfl, tg (tin_2 (i := 151) rfl) rfl⟩
theorem so_70 : SOk 70 := ⟨rfl, rfl, tg (tin_4 (i := 225) rfl) rfl⟩
theorem so_71 : SOk 71 := ⟨rfl, rfl, tg (tin_2 (i := 44) rfl) rfl⟩
theorem so_82 : SOk 82 := ⟨rfl, rfl, tg (tin_2 (i := 109) rfl) rfl⟩
theorem so_89 : SOk 89 := ⟨rfl, rfl, tg (tin_2 (i := 129) rfl) rfl⟩
theorem so_96 : SOk 96 := ⟨rfl, rfl, tg (tin_2 (i := 64) rfl) rfl⟩
theorem so_118 : SOk 118 := ⟨rfl, rfl, tg (tin_1 (i := 40) rfl) rfl⟩
theorem so_126 : SOk 126 := ⟨rfl, rfl, tg (tin_1 (i := 32) rfl) rfl⟩
theorem so_206 : SOk 206 := ⟨rfl, rfl, tg (tin_7 (i := 156) rfl) rfl⟩
def sT_0 : List (Nat) := [118, 126, 206, 22, 32, 45, 63, 70, 71, 8, 82, 89, 96]
theorem sT_ok_0 : ∀ t ∈ sT_0, SOk t := List.forall_mem_cons.mpr ⟨so_118, List.forall_mem_cons.mpr ⟨so_126, List.forall_mem_cons.mpr ⟨so_206, List.forall_mem_cons.mpr ⟨so_22, List.forall_mem_cons.mpr ⟨so_32, List.forall_mem_cons.mpr ⟨so_45, List.forall_mem_cons.mpr ⟨so_63, List.forall_mem_cons.mpr ⟨so_70, List.forall_mem_cons.mpr ⟨so_71, List.forall_mem_cons.mpr ⟨so_8, List.forall_mem_cons.mpr ⟨so_82, List.forall_mem_cons.mpr ⟨so_89, List.forall_mem_cons.mpr ⟨so_96, fun _ h => absurd h List.not_mem_nil⟩⟩⟩⟩⟩⟩⟩⟩⟩⟩⟩⟩⟩
def sT : List (Nat) := sT_0
theorem sT_ok : ∀ t ∈ sT, SOk t := sT_ok_0
def TOk (y : Nat) : Prop := Cond.static (yM y) ∈ Tb
theorem to_0 : TOk 0 := tg (tin_3 (i := 64) rfl) rfl
theorem to_1 : TOk 1 := tg (tin_4 (i := 168) rfl) rfl
theorem to_2 : TOk 2 := tg (tin_3 (i := 35) rfl) rfl
theorem to_3 : TOk 3 := tg (tin_3 (i := 198) rfl) rfl
theorem to_4 : TOk 4 := tg (tin_3 (i := 21) rfl) rfl
theorem to_5 : TOk 5 := tg (tin_3 (i := 24) rfl) rfl
theorem to_6 : TOk 6 := tg (tin_6 (i := 51) rfl) rfl
theorem to_7 : TOk 7 := tg (tin_3 (i := 11) rfl) rfl
theorem to_14 : TOk 14 := tg (tin_5 (i := 113) rfl) rfl
theorem to_111 : TOk 111 := tg (tin_6 (i := 48) rfl) rfl
theorem to_117 : TOk 117 := tg (tin_6 (i := 114) rfl) rfl
theorem to_159 : TOk 159 := tg (tin_3 (i := 61) rfl) rfl
theorem to_170 : TOk 170 := tg (tin_7 (i := 151) rfl) rfl
theorem to_182 : TOk 182 := tg (tin_7 (i := 51) rfl) rfl
theorem to_183 : TOk 183 := tg (tin_7 (i := 55) rfl) rfl
theorem to_204 : TOk 204 := tg (tin_3 (i := 53) rfl) rfl
theorem to_205 : TOk 205 := tg (tin_6 (i := 24) rfl) rfl
theorem to_210 : TOk 210 := tg (tin_8 (i := 102) rfl) rfl
theorem to_215 : TOk 215 := tg (tin_8 (i := 159) rfl) rfl
theorem to_216 : TOk 216 := tg (tin_8 (i := 137) rfl) rfl
theorem to_220 : TOk 220 := tg (tin_8 (i := 140) rfl) rfl
theorem to_231 : TOk 231 := tg (tin_8 (i := 179) rfl) rfl
theorem to_242 : TOk 242 := tg (tin_8 (i := 186) rfl) rfl
theorem to_249 : TOk 249 := tg (tin_9 (i := 17) rfl) rfl
theorem to_266 : TOk 266 := tg (tin_9 (i := 93) rfl) rfl
theorem to_332 : TOk 332 := tg (tin_3 (i := 98) rfl) rfl
theorem to_333 : TOk 333 := tg (tin_4 (i := 135) rfl) rfl
theorem to_334 : TOk 334 := tg (tin_4 (i := 238) rfl) rfl
theorem to_335 : TOk 335 := tg (tin_5 (i := 5) rfl) rfl
theorem to_336 : TOk 336 := tg (tin_5 (i := 12) rfl) rfl
theorem to_337 : TOk 337 := tg (tin_5 (i := 44) rfl) rfl
theorem to_338 : TOk 338 := tg (tin_5 (i := 56) rfl) rfl
theorem to_339 : TOk 339 := tg (tin_5 (i := 89) rfl) rfl
theorem to_340 : TOk 340 := tg (tin_5 (i := 97) rfl) rfl
theorem to_341 : TOk 341 := tg (tin_5 (i := 121) rfl) rfl
theorem to_342 : TOk 342 := tg (tin_5 (i := 133) rfl) rfl
theorem to_343 : TOk 343 := tg (tin_5 (i := 156) rfl) rfl
theorem to_344 : TOk 344 := tg (tin_5 (i := 175) rfl) rfl
theorem to_345 : TOk 345 := tg (tin_5 (i := 187) rfl) rfl
theorem to_346 : TOk 346 := tg (tin_5 (i := 198) rfl) rfl
theorem to_347 : TOk 347 := tg (tin_5 (i := 205) rfl) rfl
theorem to_348 : TOk 348 := tg (tin_5 (i := 216) rfl) rfl
theorem to_349 : TOk 349 := tg (tin_5 (i := 227) rfl) rfl
theorem to_350 : TOk 350 := tg (tin_6 (i := 11) rfl) rfl
theorem to_351 : TOk 351 := tg (tin_6 (i := 79) rfl) rfl
theorem to_352 : TOk 352 := tg (tin_6 (i := 90) rfl) rfl
theorem to_353 : TOk 353 := tg (tin_6 (i := 98) rfl) rfl
theorem to_354 : TOk 354 := tg (tin_6 (i := 118) rfl) rfl
theorem to_355 : TOk 355 := tg (tin_6 (i := 157) rfl) rfl
theorem to_356 : TOk 356 := tg (tin_6 (i := 165) rfl) rfl
theorem to_357 : TOk 357 := tg (tin_6 (i := 172) rfl) rfl
theorem to_358 : TOk 358 := tg (tin_6 (i := 209) rfl) rfl
theorem to_359 : TOk 359 := tg (tin_6 (i := 220) rfl) rfl
theorem to_360 : TOk 360 := tg (tin_7 (i := 9) rfl) rfl
theorem to_361 : TOk 361 := tg (tin_7 (i := 22) rfl) rfl
theorem to_362 : TOk 362 := tg (tin_7 (i := 37) rfl) rfl
theorem to_363 : TOk 363 := tg (tin_7 (i := 44) rfl) rfl
theorem to_364 : TOk 364 := tg (tin_7 (i := 58) rfl) rfl
theorem to_365 : TOk 365 := tg (tin_7 (i := 70) rfl) rfl
theorem to_366 : TOk 366 := tg (tin_7 (i := 77) rfl) rfl
theorem to_367 : TOk 367 := tg (tin_7 (i := 92) rfl) rfl
theorem to_368 : TOk 368 := tg (tin_7 (i := 99) rfl) rfl
theorem to_369 : TOk 369 := tg (tin_7 (i := 110) rfl) rfl
theorem to_370 : TOk 370 := tg (tin_7 (i := 118) rfl) rfl
theorem to_371 : TOk 371 := tg (tin_7 (i := 125) rfl) rfl
theorem to_372 : TOk 372 := tg (tin_7 (i := 137) rfl) rfl
theorem to_373 : TOk 373 := tg (tin_7 (i := 144) rfl) rfl
def tT_0 : List (Nat) := [0, 1, 111, 117, 14, 159, 170, 182, 183, 2, 204, 205, 210, 215, 216, 220, 231, 242, 249, 266, 3, 332, 333, 334, 335, 336, 337, 338, 339, 340, 341, 342, 343, 344, 345, 346, 347, 348, 349, 350]
theorem tT_ok_0 : ∀ t ∈ tT_0, TOk t := List.forall_mem_cons.mpr ⟨to_0, List.forall_mem_cons.mpr ⟨to_1, List.forall_mem_cons.mpr ⟨to_111, List.forall_mem_cons.mpr ⟨to_117, List.forall_mem_cons.mpr ⟨to_14, List.forall_mem_cons.mpr ⟨to_159, List.forall_mem_cons.mpr ⟨to_170, List.forall_mem_cons.mpr ⟨to_182, List.forall_mem_cons.mpr ⟨to_183, List.forall_mem_cons.mpr ⟨to_2, List.forall_mem_cons.mpr ⟨to_204, List.forall_mem_cons.mpr ⟨to_205, List.forall_mem_cons.mpr ⟨to_210, List.forall_mem_cons.mpr ⟨to_215, List.forall_mem_cons.mpr ⟨to_216, List.forall_mem_cons.mpr ⟨to_220, List.forall_mem_cons.mpr ⟨to_231, List.forall_mem_cons.mpr ⟨to_242, List.forall_mem_cons.mpr ⟨to_249, List.forall_mem_cons.mpr ⟨to_266, List.forall_mem_cons.mpr ⟨to_3, List.forall_mem_cons.mpr ⟨to_332, List.forall_mem_cons.mpr ⟨to_333, List.forall_mem_cons.mpr ⟨to_334, List.forall_mem_cons.mpr ⟨to_335, List.forall_mem_cons.mpr ⟨to_336, List.forall_mem_cons.mpr ⟨to_337, List.forall_mem_cons.mpr ⟨to_338, List.forall_mem_cons.mpr ⟨to_339, List.forall_mem_cons.mpr ⟨to_340, List.forall_mem_cons.mpr ⟨to_341, List.forall_mem_cons.mpr ⟨to_342, List.forall_mem_cons.mpr ⟨to_343, List.forall_mem_cons.mpr ⟨to_344, List.forall_mem_cons.mpr ⟨to_345, List.forall_mem_cons.mpr ⟨to_346, List.forall_mem_cons.mpr ⟨to_347, List.forall_mem_cons.mpr ⟨to_348, List.forall_mem_cons.mpr ⟨to_349, List.forall_mem_cons.mpr ⟨to_350, fun _ h => absurd h List.not_mem_nil⟩⟩⟩⟩⟩⟩⟩⟩⟩⟩⟩⟩⟩⟩⟩⟩⟩⟩⟩⟩⟩⟩⟩⟩⟩⟩⟩⟩⟩⟩⟩⟩⟩⟩⟩⟩⟩⟩⟩⟩
def tT_1 : List (Nat) := [351, 352, 353, 354, 355, 356, 357, 358, 359, 360, 361, 362, 363, 364, 365, 366, 367, 368, 369, 370, 371, 372, 373, 4, 5, 6, 7]
theorem tT_ok_1 : ∀ t ∈ tT_1, TOk t := List.forall_mem_cons.mpr ⟨to_351, List.forall_mem_cons.mpr ⟨to_352, List.forall_mem_cons.mpr ⟨to_353, List.forall_mem_cons.mpr ⟨to_354, List.forall_mem_cons.mpr ⟨to_355, List.forall_mem_cons.mpr ⟨to_356, List.forall_mem_cons.mpr ⟨to_357, List.forall_mem_cons.mpr ⟨to_358, List.forall_mem_cons.mpr ⟨to_359, List.forall_mem_cons.mpr ⟨to_360, List.forall_mem_cons.mpr ⟨to_361, List.forall_mem_cons.mpr ⟨to_362, List.forall_mem_cons.mpr ⟨to_363, List.forall_mem_cons.mpr ⟨to_364, List.forall_mem_cons.mpr ⟨to_365, List.forall_mem_cons.mpr ⟨to_366, List.forall_mem_cons.mpr ⟨to_367, List.forall_mem_cons.mpr ⟨to_368, List.forall_mem_cons.mpr ⟨to_369, List.forall_mem_cons.mpr ⟨to_370, List.forall_mem_cons.mpr ⟨to_371, List.forall_mem_cons.mpr ⟨to_372, List.forall_mem_cons.mpr ⟨to_373, List.forall_mem_cons.mpr ⟨to_4, List.forall_mem_cons.mpr ⟨to_5, List.forall_mem_cons.mpr ⟨to_6, List.forall_mem_cons.mpr ⟨to_7, fun _ h => absurd h List.not_mem_nil⟩⟩⟩⟩⟩⟩⟩⟩⟩⟩⟩⟩⟩⟩⟩⟩⟩⟩⟩⟩⟩⟩⟩⟩⟩⟩⟩
def tT : List (Nat) := tT_0 ++ (tT_1)
theorem tT_ok : ∀ t ∈ tT, TOk t := List.forall_mem_append.mpr ⟨tT_ok_0, tT_ok_1⟩
def AOk (x : Nat) : Prop := Cond.arrayClass (ety x) ∈ Tb
theorem ao9_0 : AOk 0 := tg (tin_1 (i := 182) rfl) rfl
theorem ao9_1 : AOk 1 := tg (tin_1 (i := 72) rfl) rfl
theorem ao9_2 : AOk 2 := tg (tin_8 (i := 88) rfl) rfl
theorem ao9_3 : AOk 3 := tg (tin_1 (i := 233) rfl) rfl
def aT_0 : List (Nat) := [0, 1, 2, 3]
theorem aT_ok_0 : ∀ t ∈ aT_0, AOk t := List.forall_mem_cons.mpr ⟨ao9_0, List.forall_mem_cons.mpr ⟨ao9_1, List.forall_mem_cons.mpr ⟨ao9_2, List.forall_mem_cons.mpr ⟨ao9_3, fun _ h => absurd h List.not_mem_nil⟩⟩⟩⟩
def aT : List (Nat) := aT_0
theorem aT_ok : ∀ t ∈ aT, AOk t := aT_ok_0
def BOk (t : Nat × Nat × Nat) : Prop := (t.2.2 = 4 ∨ t.2.2 = 5) ∧ ∃ C, ety t.2.2 = .object C ∧ Cond.classLink (ownS t.1) t.2.1 C ∈ Tb ∧ Cond.arrayOver (.object C) ∈ Tb
theorem bo_1_9 : BOk (1, 9, 4) := ⟨.inl rfl, "BitWells$Phrase", rfl, tg (tin_1 (i := 189) rfl) rfl, tx (tin_1 (i := 190) rfl) rfl⟩
theorem bo_11_17 : BOk (11, 17, 5) := ⟨.inr rfl, "BitWells$Book", rfl, tg (tin_1 (i := 183) rfl) rfl, tx (tin_2 (i := 60) rfl) rfl⟩
def bT_0 : List (Nat × Nat × Nat) := [(1, 9, 4), (11, 17, 5)]
theorem bT_ok_0 : ∀ t ∈ bT_0, BOk t := List.forall_mem_cons.mpr ⟨bo_1_9, List.forall_mem_cons.mpr ⟨bo_11_17, fun _ h => absurd h List.not_mem_nil⟩⟩
def bT : List (Nat × Nat × Nat) := bT_0
theorem bT_ok : ∀ t ∈ bT, BOk t := bT_ok_0
def DOk (t : Nat × Nat × Nat) : Prop := ∃ ty, ((t.2.2 = 6 ∧ ty = FieldType.int) ∨ (t.2.2 = 7 ∧ ty = FieldType.long)) ∧ Cond.classLink (ownS t.1) t.2.1 ("[" ++ (FieldType.array ty).toString) ∈ Tb ∧ Cond.arrayOver (.array ty) ∈ Tb ∧ Cond.arrayClass ty ∈ Tb
theorem do_12_26_s : ("[" ++ (FieldType.array .int).toString) = "[[I" := by decide +kernel
theorem do_12_26 : DOk (12, 26, 6) := ⟨.int, .inl ⟨rfl, rfl⟩, by rw [do_12_26_s]; exact tg (tin_7 (i := 159) rfl) rfl, tx (tin_7 (i := 160) rfl) rfl, tg (tin_1 (i := 182) rfl) rfl⟩
theorem do_12_74_s : ("[" ++ (FieldType.array .long).toString) = "[[J" := by decide +kernel
theorem do_12_74 : DOk (12, 74, 7) := ⟨.long, .inr ⟨rfl, rfl⟩, by rw [do_12_74_s]; exact tg (tin_7 (i := 161) rfl) rfl, tx (tin_7 (i := 162) rfl) rfl, tg (tin_1 (i := 233) rfl) rfl⟩
def dT_0 : List (Nat × Nat × Nat) := [(12, 26, 6), (12, 74, 7)]
theorem dT_ok_0 : ∀ t ∈ dT_0, DOk t := List.forall_mem_cons.mpr ⟨do_12_26, List.forall_mem_cons.mpr ⟨do_12_74, fun _ h => absurd h List.not_mem_nil⟩⟩
def dT : List (Nat × Nat × Nat) := dT_0
theorem dT_ok : ∀ t ∈ dT, DOk t := dT_ok_0
def WOk (t : Nat × Nat × Nat) : Prop := ∃ q : vw_C, vwCl[t.2.2]? = some q ∧ Cond.classLink (ownS t.1) t.2.1 q.1 ∈ Tb ∧ Cond.instantiable q.1 q.2.2 ∈ Tb ∧ Cond.initialized q.1 ∈ Tb
theorem wo_6_39 : WOk (6, 39, 5) := ⟨(RX5, TX5, 2), rfl, tg (tin_4 (i := 210) rfl) rfl, tg (tin_4 (i := 211) rfl) rfl, wi_5⟩
theorem wo_11_9 : WOk (11, 9, 10) := ⟨(RX10, TX10, 8), rfl, tg (tin_1 (i := 37) rfl) rfl, tg (tin_1 (i := 38) rfl) rfl, wi_10⟩
theorem wo_11_14 : WOk (11, 14, 2) := ⟨(RX2, TX2, 20), rfl, tg (tin_1 (i := 73) rfl) rfl, tg (tin_1 (i := 74) rfl) rfl, wi_2⟩
theorem wo_11_17 : WOk (11, 17, 1) := ⟨(RX1, TX1, 10), rfl, tg (tin_1 (i := 183) rfl) rfl, tg (tin_1 (i := 184) rfl) rfl, wi_1⟩
theorem wo_11_20 : WOk (11, 20, 0) := ⟨(RX0, TX0, 9), rfl, tg (tin_1 (i := 234) rfl) rfl, tg (tin_1 (i := 235) rfl) rfl, wi_0⟩
theorem wo_11_44 : WOk (11, 44, 3) := ⟨(RX3, TX3, 2), rfl, tg (tin_2 (i := 28) rfl) rfl, tg (tin_2 (i := 29) rfl) rfl, wi_3⟩
theorem wo_11_53 : WOk (11, 53, 6) := ⟨(RX6, TX6, 4), rfl, tg (tin_2 (i := 41) rfl) rfl, tg (tin_2 (i := 42) rfl) rfl, wi_6⟩
theorem wo_11_72 : WOk (11, 72, 9) := ⟨(RX9, TX9, 12), rfl, tg (tin_2 (i := 61) rfl) rfl, tg (tin_2 (i := 62) rfl) rfl, wi_9⟩
theorem wo_11_81 : WOk (11, 81, 7) := ⟨(RX7, TX7, 4), rfl, tg (tin_2 (i := 106) rfl) rfl, tg (tin_2 (i := 107) rfl) rfl, wi_7⟩
theorem wo_11_88 : WOk (11, 88, 8) := ⟨(RX8, TX8, 5), rfl, tg (tin_2 (i := 126) rfl) rfl, tg (tin_2 (i := 127) rfl) rfl, wi_8⟩
theorem wo_11_97 : WOk (11, 97, 4) := ⟨(RX4, TX4, 3), rfl, tg (tin_2 (i := 148) rfl) rfl, tg (tin_2 (i := 149) rfl) rfl, wi_4⟩
theorem wo_17_8 : WOk (17, 8, 11) := ⟨(RX11, TX11, 19), rfl, tg (tin_1 (i := 29) rfl) rfl, tg (tin_1 (i := 30) rfl) rfl, wi_11⟩
theorem wo_17_147 : WOk (17, 147, 12) := ⟨(RX12, TX12, 52), rfl, tg (tin_7 (i := 153) rfl) rfl, tg (tin_7 (i := 154) rfl) rfl, wi_12⟩
def wT_0 : List (Nat × Nat × Nat) := [(11, 14, 2), (11, 17, 1), (11, 20, 0), (11, 44, 3), (11, 53, 6), (11, 72, 9), (11, 81, 7), (11, 88, 8), (11, 9, 10), (11, 97, 4), (17, 147, 12), (17, 8, 11), (6, 39, 5)]
theorem wT_ok_0 : ∀ t ∈ wT_0, WOk t := List.forall_mem_cons.mpr ⟨wo_11_14, List.forall_mem_cons.mpr ⟨wo_11_17, List.forall_mem_cons.mpr ⟨wo_11_20, List.forall_mem_cons.mpr ⟨wo_11_44, List.forall_mem_cons.mpr ⟨wo_11_53, List.forall_mem_cons.mpr ⟨wo_11_72, List.forall_mem_cons.mpr ⟨wo_11_81, List.forall_mem_cons.mpr ⟨wo_11_88, List.forall_mem_cons.mpr ⟨wo_11_9, List.forall_mem_cons.mpr ⟨wo_11_97, List.forall_mem_cons.mpr ⟨wo_17_147, List.forall_mem_cons.mpr ⟨wo_17_8, List.forall_mem_cons.mpr ⟨wo_6_39, fun _ h => absurd h List.not_mem_nil⟩⟩⟩⟩⟩⟩⟩⟩⟩⟩⟩⟩⟩
def wT : List (Nat × Nat × Nat) := wT_0
theorem wT_ok : ∀ t ∈ wT, WOk t := wT_ok_0
def LOk (t : Nat × Nat × Int) : Prop := Cond.constant (ownS t.1) t.2.1 (Int32.ofInt t.2.2) ∈ Tb
def QLk (t : Nat × Nat × Int) : Prop := Cond.constantLong (ownS t.1) t.2.1 (Int64.ofInt t.2.2) ∈ Tb
theorem lo_0_89 : QLk (0, 89, -1) := tg (tin_5 (i := 115) rfl) rfl
theorem lo_2_86 : QLk (2, 86, -1) := tg (tin_3 (i := 208) rfl) rfl
theorem lo_7_79 : QLk (7, 79, -1) := tg (tin_6 (i := 150) rfl) rfl
theorem lo_8_59 : LOk (8, 59, 1000000) := tg (tin_6 (i := 195) rfl) rfl
theorem lo_9_81 : QLk (9, 81, -1) := tg (tin_6 (i := 8) rfl) rfl
theorem lo_10_46 : LOk (10, 46, 100000) := tg (tin_3 (i := 188) rfl) rfl
theorem lo_11_269 : QLk (11, 269, -1) := tg (tin_5 (i := 185) rfl) rfl
theorem lo_11_413 : LOk (11, 413, 1103515245) := tg (tin_7 (i := 53) rfl) rfl
theorem lo_12_158 : LOk (12, 158, 100000) := tg (tin_8 (i := 161) rfl) rfl
theorem lo_12_298 : QLk (12, 298, -1) := tg (tin_9 (i := 87) rfl) rfl
theorem lo_12_393 : LOk (12, 393, 1103515245) := tg (tin_10 (i := 19) rfl) rfl
theorem lo_13_264 : LOk (13, 264, 65536) := tg (tin_4 (i := 170) rfl) rfl
theorem lo_13_265 : LOk (13, 265, 1431655765) := tg (tin_3 (i := 37) rfl) rfl
theorem lo_13_266 : LOk (13, 266, 858993459) := tg (tin_3 (i := 38) rfl) rfl
theorem lo_13_267 : LOk (13, 267, 252645135) := tg (tin_3 (i := 39) rfl) rfl
theorem lo_16_314 : QLk (16, 314, 6148914691236517205) := tg (tin_3 (i := 13) rfl) rfl
theorem lo_16_316 : QLk (16, 316, 3689348814741910323) := tg (tin_3 (i := 14) rfl) rfl
theorem lo_16_318 : QLk (16, 318, 1085102592571150095) := tg (tin_3 (i := 15) rfl) rfl
def lT_0 : List (Nat × Nat × Int) := [(10, 46, 100000), (11, 413, 1103515245), (12, 158, 100000), (12, 393, 1103515245), (13, 264, 65536), (13, 265, 1431655765), (13, 266, 858993459), (13, 267, 252645135), (8, 59, 1000000)]
theorem lT_ok_0 : ∀ t ∈ lT_0, LOk t := List.forall_mem_cons.mpr ⟨lo_10_46, List.forall_mem_cons.mpr ⟨lo_11_413, List.forall_mem_cons.mpr ⟨lo_12_158, List.forall_mem_cons.mpr ⟨lo_12_393, List.forall_mem_cons.mpr ⟨lo_13_264, List.forall_mem_cons.mpr ⟨lo_13_265, List.forall_mem_cons.mpr ⟨lo_13_266, List.forall_mem_cons.mpr ⟨lo_13_267, List.forall_mem_cons.mpr ⟨lo_8_59, fun _ h => absurd h List.not_mem_nil⟩⟩⟩⟩⟩⟩⟩⟩⟩
def lT : List (Nat × Nat × Int) := lT_0
theorem lT_ok : ∀ t ∈ lT, LOk t := lT_ok_0
def qT_0 : List (Nat × Nat × Int) := [(0, 89, -1), (11, 269, -1), (12, 298, -1), (16, 314, 6148914691236517205), (16, 316, 3689348814741910323), (16, 318, 1085102592571150095), (2, 86, -1), (7, 79, -1), (9, 81, -1)]
theorem qT_ok_0 : ∀ t ∈ qT_0, QLk t := List.forall_mem_cons.mpr ⟨lo_0_89, List.forall_mem_cons.mpr ⟨lo_11_269, List.forall_mem_cons.mpr ⟨lo_12_298, List.forall_mem_cons.mpr ⟨lo_16_314, List.forall_mem_cons.mpr ⟨lo_16_316, List.forall_mem_cons.mpr ⟨lo_16_318, List.forall_mem_cons.mpr ⟨lo_2_86, List.forall_mem_cons.mpr ⟨lo_7_79, List.forall_mem_cons.mpr ⟨lo_9_81, fun _ h => absurd h List.not_mem_nil⟩⟩⟩⟩⟩⟩⟩⟩⟩
def qT : List (Nat × Nat × Int) := qT_0
theorem qT_ok : ∀ t ∈ qT, QLk t := qT_ok_0
def OOk (t : Nat × Nat) : Prop := Cond.methodLink (ownS t.1) t.2 objectInit ∈ Tb
theorem oo_0_3 : OOk (0, 3) := tg (tin_1 (i := 239) rfl) rfl
theorem oo_1_3 : OOk (1, 3) := tg (tin_1 (i := 188) rfl) rfl
theorem oo_2_3 : OOk (2, 3) := tg (tin_1 (i := 78) rfl) rfl
theorem oo_3_3 : OOk (3, 3) := tg (tin_2 (i := 33) rfl) rfl
theorem oo_4_3 : OOk (4, 3) := tg (tin_2 (i := 153) rfl) rfl
theorem oo_5_1 : OOk (5, 1) := tg (tin_4 (i := 227) rfl) rfl
theorem oo_6_3 : OOk (6, 3) := tg (tin_2 (i := 46) rfl) rfl
theorem oo_7_3 : OOk (7, 3) := tg (tin_2 (i := 111) rfl) rfl
theorem oo_8_3 : OOk (8, 3) := tg (tin_2 (i := 131) rfl) rfl
theorem oo_9_3 : OOk (9, 3) := tg (tin_2 (i := 66) rfl) rfl
theorem oo_10_3 : OOk (10, 3) := tg (tin_1 (i := 42) rfl) rfl
theorem oo_11_1 : OOk (11, 1) := tg (tin_1 (i := 34) rfl) rfl
theorem oo_12_1 : OOk (12, 1) := tg (tin_7 (i := 158) rfl) rfl
def oT_0 : List (Nat × Nat) := [(0, 3), (1, 3), (10, 3), (11, 1), (12, 1), (2, 3), (3, 3), (4, 3), (5, 1), (6, 3), (7, 3), (8, 3), (9, 3)]
theorem oT_ok_0 : ∀ t ∈ oT_0, OOk t := List.forall_mem_cons.mpr ⟨oo_0_3, List.forall_mem_cons.mpr ⟨oo_1_3, List.forall_mem_cons.mpr ⟨oo_10_3, List.forall_mem_cons.mpr ⟨oo_11_1, List.forall_mem_cons.mpr ⟨oo_12_1, List.forall_mem_cons.mpr ⟨oo_2_3, List.forall_mem_cons.mpr ⟨oo_3_3, List.forall_mem_cons.mpr ⟨oo_4_3, List.forall_mem_cons.mpr ⟨oo_5_1, List.forall_mem_cons.mpr ⟨oo_6_3, List.forall_mem_cons.mpr ⟨oo_7_3, List.forall_mem_cons.mpr ⟨oo_8_3, List.forall_mem_cons.mpr ⟨oo_9_3, fun _ h => absurd h List.not_mem_nil⟩⟩⟩⟩⟩⟩⟩⟩⟩⟩⟩⟩⟩
def oT : List (Nat × Nat) := oT_0
theorem oT_ok : ∀ t ∈ oT, OOk t := oT_ok_0
theorem oI_ok : Cond.instanceMethod objectInit ∈ Tb ∧ Cond.code objectInit ⟨#[0xb1]⟩ 1 none ∈ Tb := ⟨tg (tin_1 (i := 35) rfl) rfl, tg (tin_1 (i := 36) rfl) rfl⟩
def YOk (t : Nat × Nat) : Prop := Cond.methodLink (ownS t.1) t.2 arraycopyName ∈ Tb
theorem yo_1_53 : YOk (1, 53) := tg (tin_3 (i := 78) rfl) rfl
theorem yo_2_80 : YOk (2, 80) := tg (tin_4 (i := 128) rfl) rfl
theorem yo_8_36 : YOk (8, 36) := tg (tin_6 (i := 202) rfl) rfl
def yT_0 : List (Nat × Nat) := [(1, 53), (2, 80), (8, 36)]
theorem yT_ok_0 : ∀ t ∈ yT_0, YOk t := List.forall_mem_cons.mpr ⟨yo_1_53, List.forall_mem_cons.mpr ⟨yo_2_80, List.forall_mem_cons.mpr ⟨yo_8_36, fun _ h => absurd h List.not_mem_nil⟩⟩⟩
def yT : List (Nat × Nat) := yT_0
theorem yT_ok : ∀ t ∈ yT, YOk t := yT_ok_0
theorem yI_ok : Cond.native arraycopyName ∈ Tb ∧ Cond.static arraycopyName ∈ Tb ∧ Cond.initialized "java/lang/System" ∈ Tb := ⟨tg (tin_3 (i := 80) rfl) rfl, tg (tin_3 (i := 79) rfl) rfl, tg (tin_1 (i := 23) rfl) rfl⟩
/-- the handlers of the law's own methods, as the tables have them -/
def hxL : List (List (Nat × Nat × Nat × Nat)) := [[(0, 9, 12, 13)], [(0, 10, 13, 13)], [(0, 9, 12, 13)], [(0, 9, 12, 13)], [(0, 10, 13, 28), (0, 10, 17, 13)], [(0, 10, 13, 28)], [(0, 19, 22, 28), (0, 19, 26, 13)], [(0, 17, 20, 28), (0, 17, 24, 13)], [(0, 9, 12, 13)], [(0, 17, 20, 28), (0, 17, 24, 13)], [(0, 14, 17, 28), (0, 14, 21, 13)], [(0, 12, 15, 28), (0, 12, 19, 13)], [(0, 9, 12, 13)], [(0, 9, 12, 13)], [(0, 10, 13, 13)], [(0, 14, 17, 28), (0, 14, 21, 13)], [(0, 9, 12, 13)], [(0, 10, 13, 13)], [(0, 10, 13, 13)], [(0, 10, 13, 28), (0, 10, 17, 13)], [(0, 10, 13, 13)], [(0, 9, 12, 13)], [(0, 12, 15, 28), (0, 12, 19, 13)], [(0, 10, 13, 28), (0, 10, 17, 13)], [(0, 12, 15, 13)], [(0, 12, 15, 28), (0, 12, 19, 13)], [(0, 12, 15, 28), (0, 12, 19, 13)], [(0, 10, 13, 13)], [(0, 10, 13, 13)], [(0, 10, 13, 13)], [(0, 12, 15, 13)], [(0, 12, 15, 28), (0, 12, 19, 13)], [(0, 10, 13, 13)], [(0, 9, 12, 13)], [(0, 9, 12, 13)], [(0, 10, 13, 28), (0, 10, 17, 13)], [(0, 10, 13, 28), (0, 10, 17, 13)], [(0, 10, 13, 28), (0, 10, 17, 13)], [(0, 12, 15, 28), (0, 12, 19, 13)], [(0, 9, 12, 13)], [(0, 10, 13, 28), (0, 10, 17, 13)], [(0, 10, 13, 13)]]
def hxM (y : Nat) : List (Nat × Nat × Nat × Nat) := hxL.getD (y - 332) []
def HOk (t : Nat × Nat) : Prop := Cond.codeWith (yM t.1) (cM t.1) (nLM t.1) (rtM t.1) (hxM t.1) ∈ Tg ∧ Cond.initialized (yM t.1).cls ∈ Tb ∧ (yM t.1).cls ≠ "java/lang/invoke/MethodHandle" ∧ (yM t.1).cls ≠ "java/lang/invoke/VarHandle" ∧ (parseMethodDescriptor (yM t.1).desc).map (fun d => d.parameters.length) = some t.2 ∧ nLM t.1 ≤ 30 ∧ plainName (yM t.1).cls = true ∧ 332 ≤ t.1 ∧ t.1 < 374
theorem hz_332 : HOk (332, 3) := ⟨tgg (tin_3 (i := 99) rfl) rfl, wi_17, cq_17.1.1, cq_17.1.2, by decide +kernel, by decide +kernel, cq_17.2, by decide, by decide⟩
theorem hz_333 : HOk (333, 4) := ⟨tgg (tin_4 (i := 136) rfl) rfl, wi_17, cq_17.1.1, cq_17.1.2, by decide +kernel, by decide +kernel, cq_17.2, by decide, by decide⟩
theorem hz_334 : HOk (334, 3) := ⟨tgg (tin_4 (i := 239) rfl) rfl, wi_17, cq_17.1.1, cq_17.1.2, by decide +kernel, by decide +kernel, cq_17.2, by decide, by decide⟩
theorem hz_335 : HOk (335, 3) := ⟨tgg (tin_5 (i := 6) rfl) rfl, wi_17, cq_17.1.1, cq_17.1.2, by decide +kernel, by decide +kernel, cq_17.2, by decide, by decide⟩
theorem hz_336 : HOk (336, 4) := ⟨tgg (tin_5 (i := 13) rfl) rfl, wi_17, cq_17.1.1, cq_17.1.2, by decide +kernel, by decide +kernel, cq_17.2, by decide, by decide⟩
theorem hz_337 : HOk (337, 4) := ⟨tgg (tin_5 (i := 45) rfl) rfl, wi_17, cq_17.1.1, cq_17.1.2, by decide +kernel, by decide +kernel, cq_17.2, by decide, by decide⟩
theorem hz_338 : HOk (338, 5) := ⟨tgg (tin_5 (i := 57) rfl) rfl, wi_17, cq_17.1.1, cq_17.1.2, by decide +kernel, by decide +kernel, cq_17.2, by decide, by decide⟩
theorem hz_339 : HOk (339, 4) := ⟨tgg (tin_5 (i := 90) rfl) rfl, wi_17, cq_17.1.1, cq_17.1.2, by decide +kernel, by decide +kernel, cq_17.2, by decide, by decide⟩
theorem hz_340 : HOk (340, 4) := ⟨tgg (tin_5 (i := 98) rfl) rfl, wi_17, cq_17.1.1, cq_17.1.2, by decide +kernel, by decide +kernel, cq_17.2, by decide, by decide⟩
theorem hz_341 : HOk (341, 4) := ⟨tgg (tin_5 (i := 122) rfl) rfl, wi_17, cq_17.1.1, cq_17.1.2, by decide +kernel, by decide +kernel, cq_17.2, by decide, by decide⟩
theorem hz_342 : HOk (342, 6) := ⟨tgg (tin_5 (i := 134) rfl) rfl, wi_17, cq_17.1.1, cq_17.1.2, by decide +kernel, by decide +kernel, cq_17.2, by decide, by decide⟩
theorem hz_343 : HOk (343, 5) := ⟨tgg (tin_5 (i := 157) rfl) rfl, wi_17, cq_17.1.1, cq_17.1.2, by decide +kernel, by decide +kernel, cq_17.2, by decide, by decide⟩
theorem hz_344 : HOk (344, 3) := ⟨tgg (tin_5 (i := 176) rfl) rfl, wi_17, cq_17.1.1, cq_17.1.2, by decide +kernel, by decide +kernel, cq_17.2, by decide, by decide⟩
theorem hz_345 : HOk (345, 3) := ⟨tgg (tin_5 (i := 188) rfl) rfl, wi_17, cq_17.1.1, cq_17.1.2, by decide +kernel, by decide +kernel, cq_17.2, by decide, by decide⟩
theorem hz_346 : HOk (346, 4) := ⟨tgg (tin_5 (i := 199) rfl) rfl, wi_17, cq_17.1.1, cq_17.1.2, by decide +kernel, by decide +kernel, cq_17.2, by decide, by decide⟩
theorem hz_347 : HOk (347, 6) := ⟨tgg (tin_5 (i := 206) rfl) rfl, wi_17, cq_17.1.1, cq_17.1.2, by decide +kernel, by decide +kernel, cq_17.2, by decide, by decide⟩
theorem hz_348 : HOk (348, 3) := ⟨tgg (tin_5 (i := 217) rfl) rfl, wi_17, cq_17.1.1, cq_17.1.2, by decide +kernel, by decide +kernel, cq_17.2, by decide, by decide⟩
theorem hz_349 : HOk (349, 4) := ⟨tgg (tin_5 (i := 228) rfl) rfl, wi_17, cq_17.1.1, cq_17.1.2, by decide +kernel, by decide +kernel, cq_17.2, by decide, by decide⟩
theorem hz_350 : HOk (350, 4) := ⟨tgg (tin_6 (i := 12) rfl) rfl, wi_17, cq_17.1.1, cq_17.1.2, by decide +kernel, by decide +kernel, cq_17.2, by decide, by decide⟩
theorem hz_351 : HOk (351, 4) := ⟨tgg (tin_6 (i := 80) rfl) rfl, wi_17, cq_17.1.1, cq_17.1.2, by decide +kernel, by decide +kernel, cq_17.2, by decide, by decide⟩
theorem hz_352 : HOk (352, 4) := ⟨tgg (tin_6 (i := 91) rfl) rfl, wi_17, cq_17.1.1, cq_17.1.2, by decide +kernel, by decide +kernel, cq_17.2, by decide, by decide⟩
theorem hz_353 : HOk (353, 3) := ⟨tgg (tin_6 (i := 99) rfl) rfl, wi_17, cq_17.1.1, cq_17.1.2, by decide +kernel, by decide +kernel, cq_17.2, by decide, by decide⟩
theorem hz_354 : HOk (354, 5) := ⟨tgg (tin_6 (i := 119) rfl) rfl, wi_17, cq_17.1.1, cq_17.1.2, by decide +kernel, by decide +kernel, cq_17.2, by decide, by decide⟩
theorem hz_355 : HOk (355, 4) := ⟨tgg (tin_6 (i := 158) rfl) rfl, wi_17, cq_17.1.1, cq_17.1.2, by decide +kernel, by decide +kernel, cq_17.2, by decide, by decide⟩
theorem hz_356 : HOk (356, 5) := ⟨tgg (tin_6 (i := 166) rfl) rfl, wi_17, cq_17.1.1, cq_17.1.2, by decide +kernel, by decide +kernel, cq_17.2, by decide, by decide⟩
theorem hz_357 : HOk (357, 5) := ⟨tgg (tin_6 (i := 173) rfl) rfl, wi_17, cq_17.1.1, cq_17.1.2, by decide +kernel, by decide +kernel, cq_17.2, by decide, by decide⟩
theorem hz_358 : HOk (358, 5) := ⟨tgg (tin_6 (i := 210) rfl) rfl, wi_17, cq_17.1.1, cq_17.1.2, by decide +kernel, by decide +kernel, cq_17.2, by decide, by decide⟩
theorem hz_359 : HOk (359, 4) := ⟨tgg (tin_6 (i := 221) rfl) rfl, wi_17, cq_17.1.1, cq_17.1.2, by decide +kernel, by decide +kernel, cq_17.2, by decide, by decide⟩
theorem hz_360 : HOk (360, 4) := ⟨tgg (tin_7 (i := 10) rfl) rfl, wi_17, cq_17.1.1, cq_17.1.2, by decide +kernel, by decide +kernel, cq_17.2, by decide, by decide⟩
theorem hz_361 : HOk (361, 4) := ⟨tgg (tin_7 (i := 23) rfl) rfl, wi_17, cq_17.1.1, cq_17.1.2, by decide +kernel, by decide +kernel, cq_17.2, by decide, by decide⟩
theorem hz_362 : HOk (362, 5) := ⟨tgg (tin_7 (i := 38) rfl) rfl, wi_17, cq_17.1.1, cq_17.1.2, by decide +kernel, by decide +kernel, cq_17.2, by decide, by decide⟩
theorem hz_363 : HOk (363, 5) := ⟨tgg (tin_7 (i := 45) rfl) rfl, wi_17, cq_17.1.1, cq_17.1.2, by decide +kernel, by decide +kernel, cq_17.2, by decide, by decide⟩
theorem hz_364 : HOk (364, 4) := ⟨tgg (tin_7 (i := 59) rfl) rfl, wi_17, cq_17.1.1, cq_17.1.2, by decide +kernel, by decide +kernel, cq_17.2, by decide, by decide⟩
theorem hz_365 : HOk (365, 3) := ⟨tgg (tin_7 (i := 71) rfl) rfl, wi_17, cq_17.1.1, cq_17.1.2, by decide +kernel, by decide +kernel, cq_17.2, by decide, by decide⟩
theorem hz_366 : HOk (366, 3) := ⟨tgg (tin_7 (i := 78) rfl) rfl, wi_17, cq_17.1.1, cq_17.1.2, by decide +kernel, by decide +kernel, cq_17.2, by decide, by decide⟩
theorem hz_367 : HOk (367, 4) := ⟨tgg (tin_7 (i := 93) rfl) rfl, wi_17, cq_17.1.1, cq_17.1.2, by decide +kernel, by decide +kernel, cq_17.2, by decide, by decide⟩
theorem hz_368 : HOk (368, 4) := ⟨tgg (tin_7 (i := 100) rfl) rfl, wi_17, cq_17.1.1, cq_17.1.2, by decide +kernel, by decide +kernel, cq_17.2, by decide, by decide⟩
theorem hz_369 : HOk (369, 4) := ⟨tgg (tin_7 (i := 111) rfl) rfl, wi_17, cq_17.1.1, cq_17.1.2, by decide +kernel, by decide +kernel, cq_17.2, by decide, by decide⟩
theorem hz_370 : HOk (370, 5) := ⟨tgg (tin_7 (i := 119) rfl) rfl, wi_17, cq_17.1.1, cq_17.1.2, by decide +kernel, by decide +kernel, cq_17.2, by decide, by decide⟩
theorem hz_371 : HOk (371, 3) := ⟨tgg (tin_7 (i := 126) rfl) rfl, wi_17, cq_17.1.1, cq_17.1.2, by decide +kernel, by decide +kernel, cq_17.2, by decide, by decide⟩
theorem hz_372 : HOk (372, 4) := ⟨tgg (tin_7 (i := 138) rfl) rfl, wi_17, cq_17.1.1, cq_17.1.2, by decide +kernel, by decide +kernel, cq_17.2, by decide, by decide⟩
theorem hz_373 : HOk (373, 4) := ⟨tgg (tin_7 (i := 145) rfl) rfl, wi_17, cq_17.1.1, cq_17.1.2, by decide +kernel, by decide +kernel, cq_17.2, by decide, by decide⟩
def hT_0 : List (Nat × Nat) := [(332, 3), (333, 4), (334, 3), (335, 3), (336, 4), (337, 4), (338, 5), (339, 4), (340, 4), (341, 4), (342, 6), (343, 5), (344, 3), (345, 3), (346, 4), (347, 6), (348, 3), (349, 4), (350, 4), (351, 4), (352, 4), (353, 3), (354, 5), (355, 4), (356, 5), (357, 5), (358, 5), (359, 4), (360, 4), (361, 4), (362, 5), (363, 5), (364, 4), (365, 3), (366, 3), (367, 4), (368, 4), (369, 4), (370, 5), (371, 3)]
theorem hT_ok_0 : ∀ t ∈ hT_0, HOk t := List.forall_mem_cons.mpr ⟨hz_332, List.forall_mem_cons.mpr ⟨hz_333, List.forall_mem_cons.mpr ⟨hz_334, List.forall_mem_cons.mpr ⟨hz_335, List.forall_mem_cons.mpr ⟨hz_336, List.forall_mem_cons.mpr ⟨hz_337, List.forall_mem_cons.mpr ⟨hz_338, List.forall_mem_cons.mpr ⟨hz_339, List.forall_mem_cons.mpr ⟨hz_340, List.forall_mem_cons.mpr ⟨hz_341, List.forall_mem_cons.mpr ⟨hz_342, List.forall_mem_cons.mpr ⟨hz_343, List.forall_mem_cons.mpr ⟨hz_344, List.forall_mem_cons.mpr ⟨hz_345, List.forall_mem_cons.mpr ⟨hz_346, List.forall_mem_cons.mpr ⟨hz_347, List.forall_mem_cons.mpr ⟨hz_348, List.forall_mem_cons.mpr ⟨hz_349, List.forall_mem_cons.mpr ⟨hz_350, List.forall_mem_cons.mpr ⟨hz_351, List.forall_mem_cons.mpr ⟨hz_352, List.forall_mem_cons.mpr ⟨hz_353, List.forall_mem_cons.mpr ⟨hz_354, List.forall_mem_cons.mpr ⟨hz_355, List.forall_mem_cons.mpr ⟨hz_356, List.forall_mem_cons.mpr ⟨hz_357, List.forall_mem_cons.mpr ⟨hz_358, List.forall_mem_cons.mpr ⟨hz_359, List.forall_mem_cons.mpr ⟨hz_360, List.forall_mem_cons.mpr ⟨hz_361, List.forall_mem_cons.mpr ⟨hz_362, List.forall_mem_cons.mpr ⟨hz_363, List.forall_mem_cons.mpr ⟨hz_364, List.forall_mem_cons.mpr ⟨hz_365, List.forall_mem_cons.mpr ⟨hz_366, List.forall_mem_cons.mpr ⟨hz_367, List.forall_mem_cons.mpr ⟨hz_368, List.forall_mem_cons.mpr ⟨hz_369, List.forall_mem_cons.mpr ⟨hz_370, List.forall_mem_cons.mpr ⟨hz_371, fun _ h => absurd h List.not_mem_nil⟩⟩⟩⟩⟩⟩⟩⟩⟩⟩⟩⟩⟩⟩⟩⟩⟩⟩⟩⟩⟩⟩⟩⟩⟩⟩⟩⟩⟩⟩⟩⟩⟩⟩⟩⟩⟩⟩⟩⟩
def hT_1 : List (Nat × Nat) := [(372, 4), (373, 4)]
theorem hT_ok_1 : ∀ t ∈ hT_1, HOk t := List.forall_mem_cons.mpr ⟨hz_372, List.forall_mem_cons.mpr ⟨hz_373, fun _ h => absurd h List.not_mem_nil⟩⟩
def hT : List (Nat × Nat) := hT_0 ++ (hT_1)
theorem hT_ok : ∀ t ∈ hT, HOk t := List.forall_mem_append.mpr ⟨hT_ok_0, hT_ok_1⟩
theorem ma_c4 : Cond.code Lib.Math.max.name Lib.Math.max.code 2 (some .int) ∈ Tg := tgg (tin_3 (i := 22) rfl) rfl
theorem ma_c5 : Cond.code Lib.Math.min.name Lib.Math.min.code 2 (some .int) ∈ Tg := tgg (tin_3 (i := 25) rfl) rfl
def onMg : List (List Nat) := [[13, 13, 13, 14, 15, 15, 16, 16, 0, 0, 0, 0, 0, 0, 0, 0], [0, 0, 0, 0, 0, 0, 1, 1, 1, 1, 1, 1, 1, 1, 1, 1], [2, 2, 2, 2, 2, 2, 2, 2, 2, 2, 2, 2, 2, 3, 3, 3], [3, 3, 3, 3, 3, 3, 3, 3, 3, 3, 3, 3, 3, 3, 3, 4], [4, 4, 4, 4, 4, 4, 5, 6, 6, 6, 6, 6, 6, 6, 6, 6], [6, 6, 7, 7, 7, 7, 7, 7, 7, 8, 8, 8, 8, 8, 8, 8], [9, 9, 9, 9, 9, 9, 9, 9, 9, 9, 9, 9, 9, 9, 9, 9], [9, 9, 9, 9, 9, 9, 10, 10, 10, 10, 10, 10, 10, 10, 11, 11], [11, 11, 11, 11, 11, 11, 11, 11, 11, 11, 11, 11, 11, 11, 11, 11], [11, 11, 11, 11, 11, 11, 11, 11, 11, 11, 11, 11, 11, 11, 11, 11], [11, 11, 11, 11, 11, 11, 11, 11, 11, 11, 11, 11, 11, 11, 11, 11], [11, 11, 11, 11, 11, 11, 11, 11, 11, 11, 11, 11, 11, 11, 11, 11], [11, 11, 11, 11, 11, 11, 11, 11, 11, 11, 11, 11, 11, 11, 12, 12], [12, 12, 12, 12, 12, 12, 12, 12, 12, 12, 12, 12, 12, 12, 12, 12], [12, 12, 12, 12, 12, 12, 12, 12, 12, 12, 12, 12, 12, 12, 12, 12], [12, 12, 12, 12, 12, 12, 12, 12, 12, 12, 12, 12, 12, 12, 12, 12], [12, 12, 12, 12, 12, 12, 12, 12, 12, 12, 12, 12, 12, 12, 12, 12], [12, 12, 12, 12, 12, 12, 12, 12, 12, 12, 12, 12, 12, 12, 12, 12], [12, 12, 12, 12, 12, 12, 12, 12, 12, 12, 12, 12, 12, 12, 12, 12], [12, 12, 12, 12, 12, 12, 12, 12, 12, 12, 12, 12, 12, 12, 12, 12], [12, 12, 12, 12, 12, 12, 12, 12, 12, 12, 12, 12, 17, 17, 17, 17], [17, 17, 17, 17, 17, 17, 17, 17, 17, 17, 17, 17, 17, 17, 17, 17], [17, 17, 17, 17, 17, 17, 17, 17, 17, 17, 17, 17, 17, 17, 17, 17], [17, 17, 17, 17, 17, 17, 17]]
def onM (m : Nat) : Nat := (onMg.getD (m / 16) []).getD (m % 16) 0
