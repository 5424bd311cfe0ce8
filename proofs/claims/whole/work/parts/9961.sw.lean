/-! THE CLASS'S SWITCHES: told, well, diary (written by program). -/
theorem tg_1_47 : tgt 1 (47) = 48 := by decide +kernel
theorem tg_1_55 : tgt 1 (55) = 56 := by decide +kernel
theorem tg_1_63 : tgt 1 (63) = 64 := by decide +kernel
theorem tg_1_71 : tgt 1 (71) = 72 := by decide +kernel
theorem tg_1_79 : tgt 1 (79) = 80 := by decide +kernel
theorem tg_1_87 : tgt 1 (87) = 88 := by decide +kernel
theorem tg_1_95 : tgt 1 (95) = 96 := by decide +kernel
theorem tg_1_103 : tgt 1 (103) = 104 := by decide +kernel
theorem tg_1_111 : tgt 1 (111) = 112 := by decide +kernel
theorem tg_6_38 : tgt 6 (38) = 44 := by decide +kernel
theorem tg_6_48 : tgt 6 (48) = 54 := by decide +kernel
theorem tg_6_58 : tgt 6 (58) = 64 := by decide +kernel
theorem tg_6_68 : tgt 6 (68) = 74 := by decide +kernel
theorem tg_6_78 : tgt 6 (78) = 84 := by decide +kernel
theorem tg_6_88 : tgt 6 (88) = 94 := by decide +kernel
theorem tg_6_98 : tgt 6 (98) = 104 := by decide +kernel
theorem tg_36_28 : tgt 36 (28) = 64 := by decide +kernel
theorem tg_36_38 : tgt 36 (38) = 74 := by decide +kernel
theorem tg_36_48 : tgt 36 (48) = 84 := by decide +kernel
theorem tg_36_58 : tgt 36 (58) = 94 := by decide +kernel
theorem f_135_48 : prgE 135 48 = some (.aload_n 0, 1, 0, (0, 0, 0, 0), none, none) := f_of (by decide +kernel)
theorem f_135_49 : prgE 135 49 = some (.getfield 37, 3, 0, (11, 4, 2, 0), none, none) := f_of (by decide +kernel)
theorem f_135_52 : prgE 135 52 = some (.getfield 165, 3, 0, (2, 0, 0, 0), none, none) := f_of (by decide +kernel)
theorem f_135_55 : prgE 135 55 = some (.ireturn, 1, 0, (0, 0, 0, 0), none, none) := f_of (by decide +kernel)
theorem f_135_56 : prgE 135 56 = some (.aload_n 0, 1, 0, (0, 0, 0, 0), none, none) := f_of (by decide +kernel)
theorem f_135_57 : prgE 135 57 = some (.getfield 37, 3, 0, (11, 4, 2, 0), none, none) := f_of (by decide +kernel)
theorem f_135_60 : prgE 135 60 = some (.getfield 168, 3, 0, (2, 1, 0, 0), none, none) := f_of (by decide +kernel)
theorem f_135_63 : prgE 135 63 = some (.ireturn, 1, 0, (0, 0, 0, 0), none, none) := f_of (by decide +kernel)
theorem f_135_64 : prgE 135 64 = some (.aload_n 0, 1, 0, (0, 0, 0, 0), none, none) := f_of (by decide +kernel)
theorem f_135_65 : prgE 135 65 = some (.getfield 37, 3, 0, (11, 4, 2, 0), none, none) := f_of (by decide +kernel)
theorem f_135_68 : prgE 135 68 = some (.getfield 145, 3, 0, (2, 2, 0, 0), none, none) := f_of (by decide +kernel)
theorem f_135_71 : prgE 135 71 = some (.ireturn, 1, 0, (0, 0, 0, 0), none, none) := f_of (by decide +kernel)
theorem f_135_72 : prgE 135 72 = some (.aload_n 0, 1, 0, (0, 0, 0, 0), none, none) := f_of (by decide +kernel)
theorem f_135_73 : prgE 135 73 = some (.getfield 37, 3, 0, (11, 4, 2, 0), none, none) := f_of (by decide +kernel)
theorem f_135_76 : prgE 135 76 = some (.getfield 171, 3, 0, (2, 3, 0, 0), none, none) := f_of (by decide +kernel)
theorem f_135_79 : prgE 135 79 = some (.ireturn, 1, 0, (0, 0, 0, 0), none, none) := f_of (by decide +kernel)
theorem f_135_80 : prgE 135 80 = some (.aload_n 0, 1, 0, (0, 0, 0, 0), none, none) := f_of (by decide +kernel)
theorem f_135_81 : prgE 135 81 = some (.getfield 37, 3, 0, (11, 4, 2, 0), none, none) := f_of (by decide +kernel)
theorem f_135_84 : prgE 135 84 = some (.getfield 174, 3, 0, (2, 4, 0, 0), none, none) := f_of (by decide +kernel)
theorem f_135_87 : prgE 135 87 = some (.ireturn, 1, 0, (0, 0, 0, 0), none, none) := f_of (by decide +kernel)
theorem f_135_88 : prgE 135 88 = some (.aload_n 0, 1, 0, (0, 0, 0, 0), none, none) := f_of (by decide +kernel)
theorem f_135_89 : prgE 135 89 = some (.getfield 60, 3, 0, (11, 8, 2, 0), none, none) := f_of (by decide +kernel)
theorem f_135_92 : prgE 135 92 = some (.getfield 177, 3, 0, (1, 0, 0, 0), none, none) := f_of (by decide +kernel)
theorem f_135_95 : prgE 135 95 = some (.ireturn, 1, 0, (0, 0, 0, 0), none, none) := f_of (by decide +kernel)
theorem f_135_96 : prgE 135 96 = some (.aload_n 0, 1, 0, (0, 0, 0, 0), none, none) := f_of (by decide +kernel)
theorem f_135_97 : prgE 135 97 = some (.getfield 60, 3, 0, (11, 8, 2, 0), none, none) := f_of (by decide +kernel)
theorem f_135_100 : prgE 135 100 = some (.getfield 180, 3, 0, (1, 2, 0, 0), none, none) := f_of (by decide +kernel)
theorem f_135_103 : prgE 135 103 = some (.ireturn, 1, 0, (0, 0, 0, 0), none, none) := f_of (by decide +kernel)
theorem f_135_104 : prgE 135 104 = some (.aload_n 0, 1, 0, (0, 0, 0, 0), none, none) := f_of (by decide +kernel)
theorem f_135_105 : prgE 135 105 = some (.getfield 60, 3, 0, (11, 8, 2, 0), none, none) := f_of (by decide +kernel)
theorem f_135_108 : prgE 135 108 = some (.getfield 183, 3, 0, (1, 7, 0, 0), none, none) := f_of (by decide +kernel)
theorem f_135_111 : prgE 135 111 = some (.ireturn, 1, 0, (0, 0, 0, 0), none, none) := f_of (by decide +kernel)
theorem f_135_112 : prgE 135 112 = some (.aload_n 0, 1, 0, (0, 0, 0, 0), none, none) := f_of (by decide +kernel)
theorem f_135_113 : prgE 135 113 = some (.iconst 0, 1, 0, (0, 0, 0, 0), none, none) := f_of (by decide +kernel)
theorem f_135_114 : prgE 135 114 = some (.invokevirtual 115, 3, 2, (203, 2, 11, 0), (some []), none) := f_of (by decide +kernel)
theorem f_135_117 : prgE 135 117 = some (.iconst (-1), 1, 0, (0, 0, 0, 0), none, none) := f_of (by decide +kernel)
theorem f_135_118 : prgE 135 118 = some (.ireturn, 1, 0, (0, 0, 0, 0), none, none) := f_of (by decide +kernel)
theorem f_136_44 : prgE 136 44 = some (.aload_n 0, 1, 0, (0, 0, 0, 0), none, none) := f_of (by decide +kernel)
theorem f_136_45 : prgE 136 45 = some (.getfield 37, 3, 0, (11, 4, 2, 0), none, none) := f_of (by decide +kernel)
theorem f_136_48 : prgE 136 48 = some (.getfield 189, 3, 0, (2, 10, 2, 0), none, none) := f_of (by decide +kernel)
theorem f_136_51 : prgE 136 51 = some (.iload_n 1, 1, 0, (0, 0, 0, 0), none, none) := f_of (by decide +kernel)
theorem f_136_52 : prgE 136 52 = some (.iaload, 1, 0, (0, 0, 0, 0), none, none) := f_of (by decide +kernel)
theorem f_136_53 : prgE 136 53 = some (.ireturn, 1, 0, (0, 0, 0, 0), none, none) := f_of (by decide +kernel)
theorem f_136_54 : prgE 136 54 = some (.aload_n 0, 1, 0, (0, 0, 0, 0), none, none) := f_of (by decide +kernel)
theorem f_136_55 : prgE 136 55 = some (.getfield 37, 3, 0, (11, 4, 2, 0), none, none) := f_of (by decide +kernel)
theorem f_136_58 : prgE 136 58 = some (.getfield 192, 3, 0, (2, 11, 2, 0), none, none) := f_of (by decide +kernel)
theorem f_136_61 : prgE 136 61 = some (.iload_n 1, 1, 0, (0, 0, 0, 0), none, none) := f_of (by decide +kernel)
theorem f_136_62 : prgE 136 62 = some (.iaload, 1, 0, (0, 0, 0, 0), none, none) := f_of (by decide +kernel)
theorem f_136_63 : prgE 136 63 = some (.ireturn, 1, 0, (0, 0, 0, 0), none, none) := f_of (by decide +kernel)
theorem f_136_64 : prgE 136 64 = some (.aload_n 0, 1, 0, (0, 0, 0, 0), none, none) := f_of (by decide +kernel)
theorem f_136_65 : prgE 136 65 = some (.getfield 37, 3, 0, (11, 4, 2, 0), none, none) := f_of (by decide +kernel)
theorem f_136_68 : prgE 136 68 = some (.getfield 195, 3, 0, (2, 12, 2, 0), none, none) := f_of (by decide +kernel)
theorem f_136_71 : prgE 136 71 = some (.iload_n 1, 1, 0, (0, 0, 0, 0), none, none) := f_of (by decide +kernel)
theorem f_136_72 : prgE 136 72 = some (.iaload, 1, 0, (0, 0, 0, 0), none, none) := f_of (by decide +kernel)
theorem f_136_73 : prgE 136 73 = some (.ireturn, 1, 0, (0, 0, 0, 0), none, none) := f_of (by decide +kernel)
theorem f_136_74 : prgE 136 74 = some (.aload_n 0, 1, 0, (0, 0, 0, 0), none, none) := f_of (by decide +kernel)
theorem f_136_75 : prgE 136 75 = some (.getfield 37, 3, 0, (11, 4, 2, 0), none, none) := f_of (by decide +kernel)
theorem f_136_78 : prgE 136 78 = some (.getfield 198, 3, 0, (2, 13, 2, 0), none, none) := f_of (by decide +kernel)
theorem f_136_81 : prgE 136 81 = some (.iload_n 1, 1, 0, (0, 0, 0, 0), none, none) := f_of (by decide +kernel)
theorem f_136_82 : prgE 136 82 = some (.iaload, 1, 0, (0, 0, 0, 0), none, none) := f_of (by decide +kernel)
theorem f_136_83 : prgE 136 83 = some (.ireturn, 1, 0, (0, 0, 0, 0), none, none) := f_of (by decide +kernel)
theorem f_136_84 : prgE 136 84 = some (.aload_n 0, 1, 0, (0, 0, 0, 0), none, none) := f_of (by decide +kernel)
theorem f_136_85 : prgE 136 85 = some (.getfield 37, 3, 0, (11, 4, 2, 0), none, none) := f_of (by decide +kernel)
theorem f_136_88 : prgE 136 88 = some (.getfield 201, 3, 0, (2, 14, 2, 0), none, none) := f_of (by decide +kernel)
theorem f_136_91 : prgE 136 91 = some (.iload_n 1, 1, 0, (0, 0, 0, 0), none, none) := f_of (by decide +kernel)
theorem f_136_92 : prgE 136 92 = some (.iaload, 1, 0, (0, 0, 0, 0), none, none) := f_of (by decide +kernel)
theorem f_136_93 : prgE 136 93 = some (.ireturn, 1, 0, (0, 0, 0, 0), none, none) := f_of (by decide +kernel)
theorem f_136_94 : prgE 136 94 = some (.aload_n 0, 1, 0, (0, 0, 0, 0), none, none) := f_of (by decide +kernel)
theorem f_136_95 : prgE 136 95 = some (.getfield 37, 3, 0, (11, 4, 2, 0), none, none) := f_of (by decide +kernel)
theorem f_136_98 : prgE 136 98 = some (.getfield 204, 3, 0, (2, 15, 2, 0), none, none) := f_of (by decide +kernel)
theorem f_136_101 : prgE 136 101 = some (.iload_n 1, 1, 0, (0, 0, 0, 0), none, none) := f_of (by decide +kernel)
theorem f_136_102 : prgE 136 102 = some (.iaload, 1, 0, (0, 0, 0, 0), none, none) := f_of (by decide +kernel)
theorem f_136_103 : prgE 136 103 = some (.ireturn, 1, 0, (0, 0, 0, 0), none, none) := f_of (by decide +kernel)
theorem f_136_104 : prgE 136 104 = some (.aload_n 0, 1, 0, (0, 0, 0, 0), none, none) := f_of (by decide +kernel)
theorem f_136_105 : prgE 136 105 = some (.iconst 0, 1, 0, (0, 0, 0, 0), none, none) := f_of (by decide +kernel)
theorem f_136_106 : prgE 136 106 = some (.invokevirtual 115, 3, 2, (203, 2, 11, 0), (some []), none) := f_of (by decide +kernel)
theorem f_136_109 : prgE 136 109 = some (.iconst (-1), 1, 0, (0, 0, 0, 0), none, none) := f_of (by decide +kernel)
theorem f_136_110 : prgE 136 110 = some (.ireturn, 1, 0, (0, 0, 0, 0), none, none) := f_of (by decide +kernel)
theorem f_150_64 : prgE 150 64 = some (.aload_n 0, 1, 0, (0, 0, 0, 0), none, none) := f_of (by decide +kernel)
theorem f_150_65 : prgE 150 65 = some (.getfield 60, 3, 0, (11, 8, 2, 0), none, none) := f_of (by decide +kernel)
theorem f_150_68 : prgE 150 68 = some (.getfield 279, 3, 0, (1, 3, 2, 0), none, none) := f_of (by decide +kernel)
theorem f_150_71 : prgE 150 71 = some (.iload_n 1, 1, 0, (0, 0, 0, 0), none, none) := f_of (by decide +kernel)
theorem f_150_72 : prgE 150 72 = some (.iaload, 1, 0, (0, 0, 0, 0), none, none) := f_of (by decide +kernel)
theorem f_150_73 : prgE 150 73 = some (.ireturn, 1, 0, (0, 0, 0, 0), none, none) := f_of (by decide +kernel)
theorem f_150_74 : prgE 150 74 = some (.aload_n 0, 1, 0, (0, 0, 0, 0), none, none) := f_of (by decide +kernel)
theorem f_150_75 : prgE 150 75 = some (.getfield 60, 3, 0, (11, 8, 2, 0), none, none) := f_of (by decide +kernel)
theorem f_150_78 : prgE 150 78 = some (.getfield 282, 3, 0, (1, 4, 2, 0), none, none) := f_of (by decide +kernel)
theorem f_150_81 : prgE 150 81 = some (.iload_n 1, 1, 0, (0, 0, 0, 0), none, none) := f_of (by decide +kernel)
theorem f_150_82 : prgE 150 82 = some (.iaload, 1, 0, (0, 0, 0, 0), none, none) := f_of (by decide +kernel)
theorem f_150_83 : prgE 150 83 = some (.ireturn, 1, 0, (0, 0, 0, 0), none, none) := f_of (by decide +kernel)
theorem f_150_84 : prgE 150 84 = some (.aload_n 0, 1, 0, (0, 0, 0, 0), none, none) := f_of (by decide +kernel)
theorem f_150_85 : prgE 150 85 = some (.getfield 60, 3, 0, (11, 8, 2, 0), none, none) := f_of (by decide +kernel)
theorem f_150_88 : prgE 150 88 = some (.getfield 285, 3, 0, (1, 5, 2, 0), none, none) := f_of (by decide +kernel)
theorem f_150_91 : prgE 150 91 = some (.iload_n 1, 1, 0, (0, 0, 0, 0), none, none) := f_of (by decide +kernel)
theorem f_150_92 : prgE 150 92 = some (.iaload, 1, 0, (0, 0, 0, 0), none, none) := f_of (by decide +kernel)
theorem f_150_93 : prgE 150 93 = some (.ireturn, 1, 0, (0, 0, 0, 0), none, none) := f_of (by decide +kernel)
theorem f_150_94 : prgE 150 94 = some (.aload_n 0, 1, 0, (0, 0, 0, 0), none, none) := f_of (by decide +kernel)
theorem f_150_95 : prgE 150 95 = some (.getfield 60, 3, 0, (11, 8, 2, 0), none, none) := f_of (by decide +kernel)
theorem f_150_98 : prgE 150 98 = some (.aload_n 0, 1, 0, (0, 0, 0, 0), none, none) := f_of (by decide +kernel)
theorem f_150_99 : prgE 150 99 = some (.getfield 37, 3, 0, (11, 4, 2, 0), none, none) := f_of (by decide +kernel)
theorem f_150_102 : prgE 150 102 = some (.getfield 271, 3, 0, (2, 5, 1, 0), none, none) := f_of (by decide +kernel)
theorem f_150_105 : prgE 150 105 = some (.iload_n 1, 1, 0, (0, 0, 0, 0), none, none) := f_of (by decide +kernel)
theorem f_150_106 : prgE 150 106 = some (.iconst 1, 1, 0, (0, 0, 0, 0), none, none) := f_of (by decide +kernel)
theorem f_150_107 : prgE 150 107 = some (.iadd, 1, 0, (0, 0, 0, 0), none, none) := f_of (by decide +kernel)
theorem f_150_108 : prgE 150 108 = some (.iconst (-1), 1, 0, (0, 0, 0, 0), none, none) := f_of (by decide +kernel)
theorem f_150_109 : prgE 150 109 = some (.invokevirtual 275, 3, 8, (29, 4, 1, 0), (some []), none) := f_of (by decide +kernel)
theorem f_150_112 : prgE 150 112 = some (.invokestatic 256, 3, 2, (7, 1, 0, 0), (some []), none) := f_of (by decide +kernel)
theorem f_150_115 : prgE 150 115 = some (.ireturn, 1, 0, (0, 0, 0, 0), none, none) := f_of (by decide +kernel)
theorem k_X11_told_s0_1 (d n : Nat) (x1 : Int32) (I : Nat → Nat → Nat → Int32) (L : Nat → Nat → Nat → Int64) (P : Nat → Nat → Nat → Option (Nat × Nat)) (E : Nat → Nat × Nat × Nat × Nat) (c s : Nat) : V PR d 135 1 [(0, (vR (some (100, 0)))), (1, (vi x1))] [(vi (0 : Int32))] (mm n I L P E c s) = some (.inl (some (vi (I 103 0 0))), (mm n I L P E c s)) :=
  (o_tsw (t := 48) (lt := [(0, (vR (some (100, 0))))]) f_135_1 (by decide +kernel) (by decide +kernel) tg_1_47 rfl).trans ((o_aload_n_n f_135_48 rfl).trans ((o_getR_n f_135_49 ob_100 rf_100_4).trans ((o_getI_n f_135_52 ob_103).trans (o_iret f_135_55))))
theorem k_X11_told_s1_1 (d n : Nat) (x1 : Int32) (I : Nat → Nat → Nat → Int32) (L : Nat → Nat → Nat → Int64) (P : Nat → Nat → Nat → Option (Nat × Nat)) (E : Nat → Nat × Nat × Nat × Nat) (c s : Nat) : V PR d 135 1 [(0, (vR (some (100, 0)))), (1, (vi x1))] [(vi (1 : Int32))] (mm n I L P E c s) = some (.inl (some (vi (I 103 0 1))), (mm n I L P E c s)) :=
  (o_tsw (t := 56) (lt := [(0, (vR (some (100, 0))))]) f_135_1 (by decide +kernel) (by decide +kernel) tg_1_55 rfl).trans ((o_aload_n_n f_135_56 rfl).trans ((o_getR_n f_135_57 ob_100 rf_100_4).trans ((o_getI_n f_135_60 ob_103).trans (o_iret f_135_63))))
theorem k_X11_told_s2_1 (d n : Nat) (x1 : Int32) (I : Nat → Nat → Nat → Int32) (L : Nat → Nat → Nat → Int64) (P : Nat → Nat → Nat → Option (Nat × Nat)) (E : Nat → Nat × Nat × Nat × Nat) (c s : Nat) : V PR d 135 1 [(0, (vR (some (100, 0)))), (1, (vi x1))] [(vi (2 : Int32))] (mm n I L P E c s) = some (.inl (some (vi (I 103 0 2))), (mm n I L P E c s)) :=
  (o_tsw (t := 64) (lt := [(0, (vR (some (100, 0))))]) f_135_1 (by decide +kernel) (by decide +kernel) tg_1_63 rfl).trans ((o_aload_n_n f_135_64 rfl).trans ((o_getR_n f_135_65 ob_100 rf_100_4).trans ((o_getI_n f_135_68 ob_103).trans (o_iret f_135_71))))
theorem k_X11_told_s3_1 (d n : Nat) (x1 : Int32) (I : Nat → Nat → Nat → Int32) (L : Nat → Nat → Nat → Int64) (P : Nat → Nat → Nat → Option (Nat × Nat)) (E : Nat → Nat × Nat × Nat × Nat) (c s : Nat) : V PR d 135 1 [(0, (vR (some (100, 0)))), (1, (vi x1))] [(vi (3 : Int32))] (mm n I L P E c s) = some (.inl (some (vi (I 103 0 3))), (mm n I L P E c s)) :=
  (o_tsw (t := 72) (lt := [(0, (vR (some (100, 0))))]) f_135_1 (by decide +kernel) (by decide +kernel) tg_1_71 rfl).trans ((o_aload_n_n f_135_72 rfl).trans ((o_getR_n f_135_73 ob_100 rf_100_4).trans ((o_getI_n f_135_76 ob_103).trans (o_iret f_135_79))))
theorem k_X11_told_s4_1 (d n : Nat) (x1 : Int32) (I : Nat → Nat → Nat → Int32) (L : Nat → Nat → Nat → Int64) (P : Nat → Nat → Nat → Option (Nat × Nat)) (E : Nat → Nat × Nat × Nat × Nat) (c s : Nat) : V PR d 135 1 [(0, (vR (some (100, 0)))), (1, (vi x1))] [(vi (4 : Int32))] (mm n I L P E c s) = some (.inl (some (vi (I 103 0 4))), (mm n I L P E c s)) :=
  (o_tsw (t := 80) (lt := [(0, (vR (some (100, 0))))]) f_135_1 (by decide +kernel) (by decide +kernel) tg_1_79 rfl).trans ((o_aload_n_n f_135_80 rfl).trans ((o_getR_n f_135_81 ob_100 rf_100_4).trans ((o_getI_n f_135_84 ob_103).trans (o_iret f_135_87))))
theorem k_X11_told_s5_1 (d n : Nat) (x1 : Int32) (I : Nat → Nat → Nat → Int32) (L : Nat → Nat → Nat → Int64) (P : Nat → Nat → Nat → Option (Nat × Nat)) (E : Nat → Nat × Nat × Nat × Nat) (c s : Nat) : V PR d 135 1 [(0, (vR (some (100, 0)))), (1, (vi x1))] [(vi (5 : Int32))] (mm n I L P E c s) = some (.inl (some (vi (I 127 0 0))), (mm n I L P E c s)) :=
  (o_tsw (t := 88) (lt := [(0, (vR (some (100, 0))))]) f_135_1 (by decide +kernel) (by decide +kernel) tg_1_87 rfl).trans ((o_aload_n_n f_135_88 rfl).trans ((o_getR_n f_135_89 ob_100 rf_100_8).trans ((o_getI_n f_135_92 ob_127).trans (o_iret f_135_95))))
theorem k_X11_told_s6_1 (d n : Nat) (x1 : Int32) (I : Nat → Nat → Nat → Int32) (L : Nat → Nat → Nat → Int64) (P : Nat → Nat → Nat → Option (Nat × Nat)) (E : Nat → Nat × Nat × Nat × Nat) (c s : Nat) : V PR d 135 1 [(0, (vR (some (100, 0)))), (1, (vi x1))] [(vi (6 : Int32))] (mm n I L P E c s) = some (.inl (some (vi (I 127 0 2))), (mm n I L P E c s)) :=
  (o_tsw (t := 96) (lt := [(0, (vR (some (100, 0))))]) f_135_1 (by decide +kernel) (by decide +kernel) tg_1_95 rfl).trans ((o_aload_n_n f_135_96 rfl).trans ((o_getR_n f_135_97 ob_100 rf_100_8).trans ((o_getI_n f_135_100 ob_127).trans (o_iret f_135_103))))
theorem k_X11_told_s7_1 (d n : Nat) (x1 : Int32) (I : Nat → Nat → Nat → Int32) (L : Nat → Nat → Nat → Int64) (P : Nat → Nat → Nat → Option (Nat × Nat)) (E : Nat → Nat × Nat × Nat × Nat) (c s : Nat) : V PR d 135 1 [(0, (vR (some (100, 0)))), (1, (vi x1))] [(vi (7 : Int32))] (mm n I L P E c s) = some (.inl (some (vi (I 127 0 7))), (mm n I L P E c s)) :=
  (o_tsw (t := 104) (lt := [(0, (vR (some (100, 0))))]) f_135_1 (by decide +kernel) (by decide +kernel) tg_1_103 rfl).trans ((o_aload_n_n f_135_104 rfl).trans ((o_getR_n f_135_105 ob_100 rf_100_8).trans ((o_getI_n f_135_108 ob_127).trans (o_iret f_135_111))))
theorem k_X11_told_s8_1 (d n : Nat) (x1 : Int32) (I : Nat → Nat → Nat → Int32) (L : Nat → Nat → Nat → Int64) (P : Nat → Nat → Nat → Option (Nat × Nat)) (E : Nat → Nat × Nat × Nat × Nat) (c s : Nat) : V PR (d + 1) 135 1 [(0, (vR (some (100, 0)))), (1, (vi x1))] [(vi (8 : Int32))] (mm n I L P E c s) = Vk d 135 114 [] [] (V PR d 203 0 [(0, (vR (some (100, 0)))), (1, (vi (0 : Int32)))] [] (mm n I L P E c s)) :=
  (o_tswd (t := 112) (lt := [(0, (vR (some (100, 0))))]) f_135_1 (by decide +kernel) tg_1_111 rfl).trans ((o_aload_n_n f_135_112 rfl).trans ((o_iconst_n f_135_113 ci_0).trans (o_ivirt (lv' := []) (ag := [(0, (vR (some (100, 0)))), (1, (vi (0 : Int32)))]) (rest := []) f_135_114 rfl ob_100 rfl rfl rfl rfl rfl)))
theorem k_X11_told_s8_117 (d n : Nat)  (I : Nat → Nat → Nat → Int32) (L : Nat → Nat → Nat → Int64) (P : Nat → Nat → Nat → Option (Nat × Nat)) (E : Nat → Nat × Nat × Nat × Nat) (c s : Nat) : V PR d 135 117 [] [] (mm n I L P E c s) = some (.inl (some (vi (-1 : Int32))), (mm n I L P E c s)) :=
  (o_iconst_n f_135_117 ci_m1).trans (o_iret f_135_118)
theorem k_X11_well_s0_6 (d n : Nat) (x1 : Int32) (x2 : Int32) (I : Nat → Nat → Nat → Int32) (L : Nat → Nat → Nat → Int64) (P : Nat → Nat → Nat → Option (Nat × Nat)) (E : Nat → Nat × Nat × Nat × Nat) (c s : Nat) : V PR d 136 6 [(0, (vR (some (100, 0)))), (1, (vi x1)), (2, (vi x2))] [(vi (0 : Int32))] (mm n I L P E c s) = bif (inb x1 6) then some (.inl (some (vi (I 105 0 x1.toNatClampNeg))), (mm n I L P E c s)) else none :=
  (o_tsw (t := 44) (lt := [(0, (vR (some (100, 0)))), (1, (vi x1))]) f_136_6 (by decide +kernel) (by decide +kernel) tg_6_38 rfl).trans ((o_aload_n_n f_136_44 rfl).trans ((o_getR_n f_136_45 ob_100 rf_100_4).trans ((o_getR_n f_136_48 ob_103 rf_103_10).trans ((o_iload_n_n f_136_51 rfl).trans ((o_iald_n (b := (inb x1 6)) f_136_52 ao_105_0).trans (cgl (o_iret f_136_53)))))))
theorem k_X11_well_s1_6 (d n : Nat) (x1 : Int32) (x2 : Int32) (I : Nat → Nat → Nat → Int32) (L : Nat → Nat → Nat → Int64) (P : Nat → Nat → Nat → Option (Nat × Nat)) (E : Nat → Nat × Nat × Nat × Nat) (c s : Nat) : V PR d 136 6 [(0, (vR (some (100, 0)))), (1, (vi x1)), (2, (vi x2))] [(vi (1 : Int32))] (mm n I L P E c s) = bif (inb x1 6) then some (.inl (some (vi (I 106 0 x1.toNatClampNeg))), (mm n I L P E c s)) else none :=
  (o_tsw (t := 54) (lt := [(0, (vR (some (100, 0)))), (1, (vi x1))]) f_136_6 (by decide +kernel) (by decide +kernel) tg_6_48 rfl).trans ((o_aload_n_n f_136_54 rfl).trans ((o_getR_n f_136_55 ob_100 rf_100_4).trans ((o_getR_n f_136_58 ob_103 rf_103_11).trans ((o_iload_n_n f_136_61 rfl).trans ((o_iald_n (b := (inb x1 6)) f_136_62 ao_106_0).trans (cgl (o_iret f_136_63)))))))
theorem k_X11_well_s2_6 (d n : Nat) (x1 : Int32) (x2 : Int32) (I : Nat → Nat → Nat → Int32) (L : Nat → Nat → Nat → Int64) (P : Nat → Nat → Nat → Option (Nat × Nat)) (E : Nat → Nat × Nat × Nat × Nat) (c s : Nat) : V PR d 136 6 [(0, (vR (some (100, 0)))), (1, (vi x1)), (2, (vi x2))] [(vi (2 : Int32))] (mm n I L P E c s) = bif (inb x1 6) then some (.inl (some (vi (I 107 0 x1.toNatClampNeg))), (mm n I L P E c s)) else none :=
  (o_tsw (t := 64) (lt := [(0, (vR (some (100, 0)))), (1, (vi x1))]) f_136_6 (by decide +kernel) (by decide +kernel) tg_6_58 rfl).trans ((o_aload_n_n f_136_64 rfl).trans ((o_getR_n f_136_65 ob_100 rf_100_4).trans ((o_getR_n f_136_68 ob_103 rf_103_12).trans ((o_iload_n_n f_136_71 rfl).trans ((o_iald_n (b := (inb x1 6)) f_136_72 ao_107_0).trans (cgl (o_iret f_136_73)))))))
theorem k_X11_well_s3_6 (d n : Nat) (x1 : Int32) (x2 : Int32) (I : Nat → Nat → Nat → Int32) (L : Nat → Nat → Nat → Int64) (P : Nat → Nat → Nat → Option (Nat × Nat)) (E : Nat → Nat × Nat × Nat × Nat) (c s : Nat) : V PR d 136 6 [(0, (vR (some (100, 0)))), (1, (vi x1)), (2, (vi x2))] [(vi (3 : Int32))] (mm n I L P E c s) = bif (inb x1 6) then some (.inl (some (vi (I 108 0 x1.toNatClampNeg))), (mm n I L P E c s)) else none :=
  (o_tsw (t := 74) (lt := [(0, (vR (some (100, 0)))), (1, (vi x1))]) f_136_6 (by decide +kernel) (by decide +kernel) tg_6_68 rfl).trans ((o_aload_n_n f_136_74 rfl).trans ((o_getR_n f_136_75 ob_100 rf_100_4).trans ((o_getR_n f_136_78 ob_103 rf_103_13).trans ((o_iload_n_n f_136_81 rfl).trans ((o_iald_n (b := (inb x1 6)) f_136_82 ao_108_0).trans (cgl (o_iret f_136_83)))))))
theorem k_X11_well_s4_6 (d n : Nat) (x1 : Int32) (x2 : Int32) (I : Nat → Nat → Nat → Int32) (L : Nat → Nat → Nat → Int64) (P : Nat → Nat → Nat → Option (Nat × Nat)) (E : Nat → Nat × Nat × Nat × Nat) (c s : Nat) : V PR d 136 6 [(0, (vR (some (100, 0)))), (1, (vi x1)), (2, (vi x2))] [(vi (4 : Int32))] (mm n I L P E c s) = bif (inb x1 6) then some (.inl (some (vi (I 109 0 x1.toNatClampNeg))), (mm n I L P E c s)) else none :=
  (o_tsw (t := 84) (lt := [(0, (vR (some (100, 0)))), (1, (vi x1))]) f_136_6 (by decide +kernel) (by decide +kernel) tg_6_78 rfl).trans ((o_aload_n_n f_136_84 rfl).trans ((o_getR_n f_136_85 ob_100 rf_100_4).trans ((o_getR_n f_136_88 ob_103 rf_103_14).trans ((o_iload_n_n f_136_91 rfl).trans ((o_iald_n (b := (inb x1 6)) f_136_92 ao_109_0).trans (cgl (o_iret f_136_93)))))))
theorem k_X11_well_s5_6 (d n : Nat) (x1 : Int32) (x2 : Int32) (I : Nat → Nat → Nat → Int32) (L : Nat → Nat → Nat → Int64) (P : Nat → Nat → Nat → Option (Nat × Nat)) (E : Nat → Nat × Nat × Nat × Nat) (c s : Nat) : V PR d 136 6 [(0, (vR (some (100, 0)))), (1, (vi x1)), (2, (vi x2))] [(vi (5 : Int32))] (mm n I L P E c s) = bif (inb x1 6) then some (.inl (some (vi (I 110 0 x1.toNatClampNeg))), (mm n I L P E c s)) else none :=
  (o_tsw (t := 94) (lt := [(0, (vR (some (100, 0)))), (1, (vi x1))]) f_136_6 (by decide +kernel) (by decide +kernel) tg_6_88 rfl).trans ((o_aload_n_n f_136_94 rfl).trans ((o_getR_n f_136_95 ob_100 rf_100_4).trans ((o_getR_n f_136_98 ob_103 rf_103_15).trans ((o_iload_n_n f_136_101 rfl).trans ((o_iald_n (b := (inb x1 6)) f_136_102 ao_110_0).trans (cgl (o_iret f_136_103)))))))
theorem k_X11_well_s6_6 (d n : Nat) (x1 : Int32) (x2 : Int32) (I : Nat → Nat → Nat → Int32) (L : Nat → Nat → Nat → Int64) (P : Nat → Nat → Nat → Option (Nat × Nat)) (E : Nat → Nat × Nat × Nat × Nat) (c s : Nat) : V PR (d + 1) 136 6 [(0, (vR (some (100, 0)))), (1, (vi x1)), (2, (vi x2))] [(vi (6 : Int32))] (mm n I L P E c s) = Vk d 136 106 [] [] (V PR d 203 0 [(0, (vR (some (100, 0)))), (1, (vi (0 : Int32)))] [] (mm n I L P E c s)) :=
  (o_tswd (t := 104) (lt := [(0, (vR (some (100, 0)))), (1, (vi x1))]) f_136_6 (by decide +kernel) tg_6_98 rfl).trans ((o_aload_n_n f_136_104 rfl).trans ((o_iconst_n f_136_105 ci_0).trans (o_ivirt (lv' := []) (ag := [(0, (vR (some (100, 0)))), (1, (vi (0 : Int32)))]) (rest := []) f_136_106 rfl ob_100 rfl rfl rfl rfl rfl)))
theorem k_X11_well_s6_109 (d n : Nat)  (I : Nat → Nat → Nat → Int32) (L : Nat → Nat → Nat → Int64) (P : Nat → Nat → Nat → Option (Nat × Nat)) (E : Nat → Nat × Nat × Nat × Nat) (c s : Nat) : V PR d 136 109 [] [] (mm n I L P E c s) = some (.inl (some (vi (-1 : Int32))), (mm n I L P E c s)) :=
  (o_iconst_n f_136_109 ci_m1).trans (o_iret f_136_110)
theorem k_X11_diary_s0_36 (d n : Nat) (x1 : Int32) (x2 : Int32) (I : Nat → Nat → Nat → Int32) (L : Nat → Nat → Nat → Int64) (P : Nat → Nat → Nat → Option (Nat × Nat)) (E : Nat → Nat × Nat × Nat × Nat) (c s : Nat) : V PR d 150 36 [(0, (vR (some (100, 0)))), (1, (vi x1)), (2, (vi x2))] [(vi (0 : Int32))] (mm n I L P E c s) = bif (inb x1 60) then some (.inl (some (vi (I 129 0 x1.toNatClampNeg))), (mm n I L P E c s)) else none :=
  (o_tsw (t := 64) (lt := [(0, (vR (some (100, 0)))), (1, (vi x1))]) f_150_36 (by decide +kernel) (by decide +kernel) tg_36_28 rfl).trans ((o_aload_n_n f_150_64 rfl).trans ((o_getR_n f_150_65 ob_100 rf_100_8).trans ((o_getR_n f_150_68 ob_127 rf_127_3).trans ((o_iload_n_n f_150_71 rfl).trans ((o_iald_n (b := (inb x1 60)) f_150_72 ao_129_0).trans (cgl (o_iret f_150_73)))))))
theorem k_X11_diary_s1_36 (d n : Nat) (x1 : Int32) (x2 : Int32) (I : Nat → Nat → Nat → Int32) (L : Nat → Nat → Nat → Int64) (P : Nat → Nat → Nat → Option (Nat × Nat)) (E : Nat → Nat × Nat × Nat × Nat) (c s : Nat) : V PR d 150 36 [(0, (vR (some (100, 0)))), (1, (vi x1)), (2, (vi x2))] [(vi (1 : Int32))] (mm n I L P E c s) = bif (inb x1 60) then some (.inl (some (vi (I 130 0 x1.toNatClampNeg))), (mm n I L P E c s)) else none :=
  (o_tsw (t := 74) (lt := [(0, (vR (some (100, 0)))), (1, (vi x1))]) f_150_36 (by decide +kernel) (by decide +kernel) tg_36_38 rfl).trans ((o_aload_n_n f_150_74 rfl).trans ((o_getR_n f_150_75 ob_100 rf_100_8).trans ((o_getR_n f_150_78 ob_127 rf_127_4).trans ((o_iload_n_n f_150_81 rfl).trans ((o_iald_n (b := (inb x1 60)) f_150_82 ao_130_0).trans (cgl (o_iret f_150_83)))))))
theorem k_X11_diary_s2_36 (d n : Nat) (x1 : Int32) (x2 : Int32) (I : Nat → Nat → Nat → Int32) (L : Nat → Nat → Nat → Int64) (P : Nat → Nat → Nat → Option (Nat × Nat)) (E : Nat → Nat × Nat × Nat × Nat) (c s : Nat) : V PR d 150 36 [(0, (vR (some (100, 0)))), (1, (vi x1)), (2, (vi x2))] [(vi (2 : Int32))] (mm n I L P E c s) = bif (inb x1 60) then some (.inl (some (vi (I 131 0 x1.toNatClampNeg))), (mm n I L P E c s)) else none :=
  (o_tsw (t := 84) (lt := [(0, (vR (some (100, 0)))), (1, (vi x1))]) f_150_36 (by decide +kernel) (by decide +kernel) tg_36_48 rfl).trans ((o_aload_n_n f_150_84 rfl).trans ((o_getR_n f_150_85 ob_100 rf_100_8).trans ((o_getR_n f_150_88 ob_127 rf_127_5).trans ((o_iload_n_n f_150_91 rfl).trans ((o_iald_n (b := (inb x1 60)) f_150_92 ao_131_0).trans (cgl (o_iret f_150_93)))))))
theorem k_X11_diary_s3_36 (d n : Nat) (x1 : Int32) (x2 : Int32) (I : Nat → Nat → Nat → Int32) (L : Nat → Nat → Nat → Int64) (P : Nat → Nat → Nat → Option (Nat × Nat)) (E : Nat → Nat × Nat × Nat × Nat) (c s : Nat) : V PR (d + 1) 150 36 [(0, (vR (some (100, 0)))), (1, (vi x1)), (2, (vi x2))] [(vi (3 : Int32))] (mm n I L P E c s) = Vk d 150 109 [] [] (V PR d 29 0 [(0, (vR (some (127, 0)))), (1, (vL (L 103 0 5))), (3, (vi (x1 + (1 : Int32)))), (4, (vi (-1 : Int32)))] [] (mm n I L P E c s)) :=
  (o_tswd (t := 94) (lt := [(0, (vR (some (100, 0)))), (1, (vi x1))]) f_150_36 (by decide +kernel) tg_36_58 rfl).trans ((o_aload_n_n f_150_94 rfl).trans ((o_getR_n f_150_95 ob_100 rf_100_8).trans ((o_aload_n_n f_150_98 rfl).trans ((o_getR_n f_150_99 ob_100 rf_100_4).trans ((o_getL_n f_150_102 ob_103).trans ((o_iload_n_n f_150_105 rfl).trans ((o_iconst_n f_150_106 ci_1).trans ((o_iadd_n f_150_107).trans ((o_iconst_n f_150_108 ci_m1).trans (o_ivirt (lv' := []) (ag := [(0, (vR (some (127, 0)))), (1, (vL (L 103 0 5))), (3, (vi (x1 + (1 : Int32)))), (4, (vi (-1 : Int32)))]) (rest := []) f_150_109 rfl ob_127 rfl rfl rfl rfl rfl))))))))))
theorem k_X11_diary_s3_112 (d n : Nat) (y0 : Int64) (I : Nat → Nat → Nat → Int32) (L : Nat → Nat → Nat → Int64) (P : Nat → Nat → Nat → Option (Nat × Nat)) (E : Nat → Nat × Nat × Nat × Nat) (c s : Nat) : V PR (d + 1) 150 112 [] [(vL y0)] (mm n I L P E c s) = Vk d 150 112 [] [] (V PR d 7 0 [(0, (vL y0))] [] (mm n I L P E c s)) :=
  o_istat (lv' := []) (ag := [(0, (vL y0))]) (rest := []) f_150_112 rfl rfl rfl rfl rfl rfl
theorem k_X11_diary_s3_115 (d n : Nat) (y0 : Int32) (I : Nat → Nat → Nat → Int32) (L : Nat → Nat → Nat → Int64) (P : Nat → Nat → Nat → Option (Nat × Nat)) (E : Nat → Nat × Nat × Nat × Nat) (c s : Nat) : V PR d 150 115 [] [(vi y0)] (mm n I L P E c s) = some (.inl (some (vi y0)), (mm n I L P E c s)) :=
  o_iret f_150_115
