/-! THE LAW'S LOOP, 2: one call of each kind, by what both sides answer (written by program). -/
theorem lgc_self (x : Int64) : lg_cmp x x = 0 := by
  unfold lg_cmp
  simp
def b2l (b : Bool) : Int64 := bif b then 1 else 0
theorem bit_b2i (b : Bool) : decide (b2i b = 0) = !b := b2i_eq0 b
theorem tn0 : (0 : Int32).toNatClampNeg = 0 := by decide +kernel
abbrev sc (I : FI) (t j : Nat) : Int32 := I 0 0 (nI (6 * t) + (OfNat.ofNat j : Int32)).toNatClampNeg
section Glue
variable {d n t : Nat} {I I1 I2 : FI} {L L1 L2 : FL} {P P1 P2 : FR} {E E1 E2 : FE} {c s c1 s1 c2 s2 : Nat}
theorem ok_1 (v : Int32) (hn : 6 * t + 6 ≤ n) (hN : n ≤ 3072) (hs : ∀ j, I1 0 0 j = I 0 0 j) (hE : E1 486 = (2, 3, 1, 0)) (hE2 : E2 486 = (2, 3, 1, 0)) (hc : V PR d 129 0 [(0, (vR (some (100, 0)))), (1, (vi (sc I t 1)))] [] (mm n I L P E c s) = some (.inl (some (vi v)), (mm n I1 L1 P1 E1 c1 s1))) (hr : V PR (d + 1) 232 0 [(0, (vR (some (186, 0)))), (1, (vi (sc I t 1)))] [] (mm n I1 (up3 L1 486 0 0 (v.toInt64)) P1 E1 c1 s1) = some (.inl (some (vi v)), (mm n I2 L2 P2 E2 c2 s2))) (ht : I2 186 0 0 = 0) (hl : L2 486 0 0 = v.toInt64) : V PR (d + 2) 374 40 (lvL (nI (6 * t))) [vi (1 : Int32)] (mm n I L P E c s) = V PR (d + 2) 374 23 (lvL (nI (6 * (t + 1)))) [] (mm n I2 L2 P2 E2 c2 s2) := by
  rw [← at6]
  have a1 : arrOk (mm n I1 L1 P1 E1 c1 s1) 486 0 3 0 = true := (aro_486 hE).trans ib_0_1
  have a2 : arrOk (mm n I2 L2 P2 E2 c2 s2) 486 0 3 0 = true := (aro_486 hE2).trans ib_0_1
  have d0 : (!decide ((0 : Int32) = 0)) = false := by decide +kernel
  have d1 : decide ((0 : Int32) = 0) = true := by decide +kernel
  obtain ⟨i1, i2, i3, i4, i5⟩ := sc_in (t := t) hn hN
  simp only [sc, k_L_law_40_1, k_L_country_0, i1, i2, i3, i4, i5, cond_true, hc, Vk_v, Nat.reduceAdd, k_L_country_7, b2i_bit, a1, decide_true, Bool.not_true]
  simp only [tn0, hs, i1, i2, i3, i4, i5, cond_true, k_L_law_360, k_L_law_372, k_L_law_378, k_X12_thrown_0, hr, Vk_v, Nat.reduceAdd, ht, d0, d1, a2, cond_true, cond_false, hl, lgc_self, decide_true, Bool.not_true]
theorem vh_332_1 (x : Nat) (rest : List AV) (lv : LVs) (M : Mem) : Vk d 332 4 rest lv (some (.inr (1, x), M)) = V PR (d + 1) 332 13 lv [] M := rfl
theorem ex_1_1 (b : Int32) {x : Nat} (hn : 6 * t + 6 ≤ n) (hN : n ≤ 3072) (hs : ∀ j, I1 0 0 j = I 0 0 j) (hc : V PR d 129 0 [(0, (vR (some (100, 0)))), (1, (vi (sc I t 1)))] [] (mm n I L P E c s) = some (.inr (1, x), (mm n I1 L1 P1 E1 c1 s1))) (hr : V PR (d + 1) 232 0 [(0, (vR (some (186, 0)))), (1, (vi (sc I t 1)))] [] (mm n I1 L1 P1 E1 c1 s1) = some (.inl (some (vi b)), (mm n I2 L2 P2 E2 c2 s2))) (ht : I2 186 0 0 = 1) : V PR (d + 2) 374 40 (lvL (nI (6 * t))) [vi (1 : Int32)] (mm n I L P E c s) = V PR (d + 2) 374 23 (lvL (nI (6 * (t + 1)))) [] (mm n I2 L2 P2 E2 c2 s2) := by
  rw [← at6]
  have d0 : (!decide ((1 : Int32) = 0)) = true := by decide +kernel
  obtain ⟨i1, i2, i3, i4, i5⟩ := sc_in (t := t) hn hN
  simp only [sc, k_L_law_40_1, k_L_country_0, i1, i2, i3, i4, i5, cond_true, hc, vh_332_1, k_L_country_13, Vk_v, Nat.reduceAdd]
  simp only [hs, i1, i2, i3, i4, i5, cond_true, k_L_law_360, k_L_law_372, k_L_law_378, k_X12_thrown_0, hr, Vk_v, Nat.reduceAdd, ht, d0, decide_true, cond_true]
theorem ok_2 (v : Int32) (hn : 6 * t + 6 ≤ n) (hN : n ≤ 3072) (hs : ∀ j, I1 0 0 j = I 0 0 j) (hE : E1 486 = (2, 3, 1, 0)) (hE2 : E2 486 = (2, 3, 1, 0)) (hc : V PR d 130 0 [(0, (vR (some (100, 0)))), (1, (vi (sc I t 1))), (2, (vi (sc I t 2)))] [] (mm n I L P E c s) = some (.inl (some (vi v)), (mm n I1 L1 P1 E1 c1 s1))) (hr : V PR (d + 1) 243 0 [(0, (vR (some (186, 0)))), (1, (vi (sc I t 1))), (2, (vi (sc I t 2)))] [] (mm n I1 (up3 L1 486 0 0 (v.toInt64)) P1 E1 c1 s1) = some (.inl (some (vi v)), (mm n I2 L2 P2 E2 c2 s2))) (ht : I2 186 0 0 = 0) (hl : L2 486 0 0 = v.toInt64) : V PR (d + 2) 374 40 (lvL (nI (6 * t))) [vi (2 : Int32)] (mm n I L P E c s) = V PR (d + 2) 374 23 (lvL (nI (6 * (t + 1)))) [] (mm n I2 L2 P2 E2 c2 s2) := by
  rw [← at6]
  have a1 : arrOk (mm n I1 L1 P1 E1 c1 s1) 486 0 3 0 = true := (aro_486 hE).trans ib_0_1
  have a2 : arrOk (mm n I2 L2 P2 E2 c2 s2) 486 0 3 0 = true := (aro_486 hE2).trans ib_0_1
  have d0 : (!decide ((0 : Int32) = 0)) = false := by decide +kernel
  have d1 : decide ((0 : Int32) = 0) = true := by decide +kernel
  obtain ⟨i1, i2, i3, i4, i5⟩ := sc_in (t := t) hn hN
  simp only [sc, k_L_law_40_2, k_L_question_0, i1, i2, i3, i4, i5, cond_true, hc, Vk_v, Nat.reduceAdd, k_L_question_8, b2i_bit, a1, decide_true, Bool.not_true]
  simp only [tn0, hs, i1, i2, i3, i4, i5, cond_true, k_L_law_422, k_L_law_440, k_L_law_446, k_X12_thrown_0, hr, Vk_v, Nat.reduceAdd, ht, d0, d1, a2, cond_true, cond_false, hl, lgc_self, decide_true, Bool.not_true]
theorem vh_333_1 (x : Nat) (rest : List AV) (lv : LVs) (M : Mem) : Vk d 333 5 rest lv (some (.inr (1, x), M)) = V PR (d + 1) 333 15 lv [] M := rfl
theorem ex_2_1 (b : Int32) {x : Nat} (hn : 6 * t + 6 ≤ n) (hN : n ≤ 3072) (hs : ∀ j, I1 0 0 j = I 0 0 j) (hc : V PR d 130 0 [(0, (vR (some (100, 0)))), (1, (vi (sc I t 1))), (2, (vi (sc I t 2)))] [] (mm n I L P E c s) = some (.inr (1, x), (mm n I1 L1 P1 E1 c1 s1))) (hr : V PR (d + 1) 243 0 [(0, (vR (some (186, 0)))), (1, (vi (sc I t 1))), (2, (vi (sc I t 2)))] [] (mm n I1 L1 P1 E1 c1 s1) = some (.inl (some (vi b)), (mm n I2 L2 P2 E2 c2 s2))) (ht : I2 186 0 0 = 1) : V PR (d + 2) 374 40 (lvL (nI (6 * t))) [vi (2 : Int32)] (mm n I L P E c s) = V PR (d + 2) 374 23 (lvL (nI (6 * (t + 1)))) [] (mm n I2 L2 P2 E2 c2 s2) := by
  rw [← at6]
  have d0 : (!decide ((1 : Int32) = 0)) = true := by decide +kernel
  obtain ⟨i1, i2, i3, i4, i5⟩ := sc_in (t := t) hn hN
  simp only [sc, k_L_law_40_2, k_L_question_0, i1, i2, i3, i4, i5, cond_true, hc, vh_333_1, k_L_question_15, Vk_v, Nat.reduceAdd]
  simp only [hs, i1, i2, i3, i4, i5, cond_true, k_L_law_422, k_L_law_440, k_L_law_446, k_X12_thrown_0, hr, Vk_v, Nat.reduceAdd, ht, d0, decide_true, cond_true]
theorem ok_3 (v : Int32) (hn : 6 * t + 6 ≤ n) (hN : n ≤ 3072) (hs : ∀ j, I1 0 0 j = I 0 0 j) (hE : E1 486 = (2, 3, 1, 0)) (hE2 : E2 486 = (2, 3, 1, 0)) (hc : V PR d 131 0 [(0, (vR (some (100, 0)))), (1, (vi (sc I t 1)))] [] (mm n I L P E c s) = some (.inl (some (vi v)), (mm n I1 L1 P1 E1 c1 s1))) (hr : V PR (d + 1) 244 0 [(0, (vR (some (186, 0)))), (1, (vi (sc I t 1)))] [] (mm n I1 (up3 L1 486 0 0 (v.toInt64)) P1 E1 c1 s1) = some (.inl (some (vi v)), (mm n I2 L2 P2 E2 c2 s2))) (ht : I2 186 0 0 = 0) (hl : L2 486 0 0 = v.toInt64) : V PR (d + 2) 374 40 (lvL (nI (6 * t))) [vi (3 : Int32)] (mm n I L P E c s) = V PR (d + 2) 374 23 (lvL (nI (6 * (t + 1)))) [] (mm n I2 L2 P2 E2 c2 s2) := by
  rw [← at6]
  have a1 : arrOk (mm n I1 L1 P1 E1 c1 s1) 486 0 3 0 = true := (aro_486 hE).trans ib_0_1
  have a2 : arrOk (mm n I2 L2 P2 E2 c2 s2) 486 0 3 0 = true := (aro_486 hE2).trans ib_0_1
  have d0 : (!decide ((0 : Int32) = 0)) = false := by decide +kernel
  have d1 : decide ((0 : Int32) = 0) = true := by decide +kernel
  obtain ⟨i1, i2, i3, i4, i5⟩ := sc_in (t := t) hn hN
  simp only [sc, k_L_law_40_3, k_L_goal_0, i1, i2, i3, i4, i5, cond_true, hc, Vk_v, Nat.reduceAdd, k_L_goal_7, b2i_bit, a1, decide_true, Bool.not_true]
  simp only [tn0, hs, i1, i2, i3, i4, i5, cond_true, k_L_law_484, k_L_law_496, k_L_law_502, k_X12_thrown_0, hr, Vk_v, Nat.reduceAdd, ht, d0, d1, a2, cond_true, cond_false, hl, lgc_self, decide_true, Bool.not_true]
theorem vh_334_1 (x : Nat) (rest : List AV) (lv : LVs) (M : Mem) : Vk d 334 4 rest lv (some (.inr (1, x), M)) = V PR (d + 1) 334 13 lv [] M := rfl
theorem ex_3_1 (b : Int32) {x : Nat} (hn : 6 * t + 6 ≤ n) (hN : n ≤ 3072) (hs : ∀ j, I1 0 0 j = I 0 0 j) (hc : V PR d 131 0 [(0, (vR (some (100, 0)))), (1, (vi (sc I t 1)))] [] (mm n I L P E c s) = some (.inr (1, x), (mm n I1 L1 P1 E1 c1 s1))) (hr : V PR (d + 1) 244 0 [(0, (vR (some (186, 0)))), (1, (vi (sc I t 1)))] [] (mm n I1 L1 P1 E1 c1 s1) = some (.inl (some (vi b)), (mm n I2 L2 P2 E2 c2 s2))) (ht : I2 186 0 0 = 1) : V PR (d + 2) 374 40 (lvL (nI (6 * t))) [vi (3 : Int32)] (mm n I L P E c s) = V PR (d + 2) 374 23 (lvL (nI (6 * (t + 1)))) [] (mm n I2 L2 P2 E2 c2 s2) := by
  rw [← at6]
  have d0 : (!decide ((1 : Int32) = 0)) = true := by decide +kernel
  obtain ⟨i1, i2, i3, i4, i5⟩ := sc_in (t := t) hn hN
  simp only [sc, k_L_law_40_3, k_L_goal_0, i1, i2, i3, i4, i5, cond_true, hc, vh_334_1, k_L_goal_13, Vk_v, Nat.reduceAdd]
  simp only [hs, i1, i2, i3, i4, i5, cond_true, k_L_law_484, k_L_law_496, k_L_law_502, k_X12_thrown_0, hr, Vk_v, Nat.reduceAdd, ht, d0, decide_true, cond_true]
theorem ok_5 (v : Int32) (hn : 6 * t + 6 ≤ n) (hN : n ≤ 3072) (hs : ∀ j, I1 0 0 j = I 0 0 j) (hE : E1 486 = (2, 3, 1, 0)) (hE2 : E2 486 = (2, 3, 1, 0)) (hc : V PR d 135 0 [(0, (vR (some (100, 0)))), (1, (vi (sc I t 1)))] [] (mm n I L P E c s) = some (.inl (some (vi v)), (mm n I1 L1 P1 E1 c1 s1))) (hr : V PR (d + 1) 246 0 [(0, (vR (some (186, 0)))), (1, (vi (sc I t 1)))] [] (mm n I1 (up3 L1 486 0 0 (v.toInt64)) P1 E1 c1 s1) = some (.inl (some (vi v)), (mm n I2 L2 P2 E2 c2 s2))) (ht : I2 186 0 0 = 0) (hl : L2 486 0 0 = v.toInt64) : V PR (d + 2) 374 40 (lvL (nI (6 * t))) [vi (5 : Int32)] (mm n I L P E c s) = V PR (d + 2) 374 23 (lvL (nI (6 * (t + 1)))) [] (mm n I2 L2 P2 E2 c2 s2) := by
  rw [← at6]
  have a1 : arrOk (mm n I1 L1 P1 E1 c1 s1) 486 0 3 0 = true := (aro_486 hE).trans ib_0_1
  have a2 : arrOk (mm n I2 L2 P2 E2 c2 s2) 486 0 3 0 = true := (aro_486 hE2).trans ib_0_1
  have d0 : (!decide ((0 : Int32) = 0)) = false := by decide +kernel
  have d1 : decide ((0 : Int32) = 0) = true := by decide +kernel
  obtain ⟨i1, i2, i3, i4, i5⟩ := sc_in (t := t) hn hN
  simp only [sc, k_L_law_40_5, k_L_told_0, i1, i2, i3, i4, i5, cond_true, hc, Vk_v, Nat.reduceAdd, k_L_told_7, b2i_bit, a1, decide_true, Bool.not_true]
  simp only [tn0, hs, i1, i2, i3, i4, i5, cond_true, k_L_law_553, k_L_law_565, k_L_law_571, k_X12_thrown_0, hr, Vk_v, Nat.reduceAdd, ht, d0, d1, a2, cond_true, cond_false, hl, lgc_self, decide_true, Bool.not_true]
theorem vh_335_1 (x : Nat) (rest : List AV) (lv : LVs) (M : Mem) : Vk d 335 4 rest lv (some (.inr (1, x), M)) = V PR (d + 1) 335 13 lv [] M := rfl
theorem ex_5_1 (b : Int32) {x : Nat} (hn : 6 * t + 6 ≤ n) (hN : n ≤ 3072) (hs : ∀ j, I1 0 0 j = I 0 0 j) (hc : V PR d 135 0 [(0, (vR (some (100, 0)))), (1, (vi (sc I t 1)))] [] (mm n I L P E c s) = some (.inr (1, x), (mm n I1 L1 P1 E1 c1 s1))) (hr : V PR (d + 1) 246 0 [(0, (vR (some (186, 0)))), (1, (vi (sc I t 1)))] [] (mm n I1 L1 P1 E1 c1 s1) = some (.inl (some (vi b)), (mm n I2 L2 P2 E2 c2 s2))) (ht : I2 186 0 0 = 1) : V PR (d + 2) 374 40 (lvL (nI (6 * t))) [vi (5 : Int32)] (mm n I L P E c s) = V PR (d + 2) 374 23 (lvL (nI (6 * (t + 1)))) [] (mm n I2 L2 P2 E2 c2 s2) := by
  rw [← at6]
  have d0 : (!decide ((1 : Int32) = 0)) = true := by decide +kernel
  obtain ⟨i1, i2, i3, i4, i5⟩ := sc_in (t := t) hn hN
  simp only [sc, k_L_law_40_5, k_L_told_0, i1, i2, i3, i4, i5, cond_true, hc, vh_335_1, k_L_told_13, Vk_v, Nat.reduceAdd]
  simp only [hs, i1, i2, i3, i4, i5, cond_true, k_L_law_553, k_L_law_565, k_L_law_571, k_X12_thrown_0, hr, Vk_v, Nat.reduceAdd, ht, d0, decide_true, cond_true]
theorem ok_6 (v : Int32) (hn : 6 * t + 6 ≤ n) (hN : n ≤ 3072) (hs : ∀ j, I1 0 0 j = I 0 0 j) (hE : E1 486 = (2, 3, 1, 0)) (hE2 : E2 486 = (2, 3, 1, 0)) (hc : V PR d 136 0 [(0, (vR (some (100, 0)))), (1, (vi (sc I t 1))), (2, (vi (sc I t 2)))] [] (mm n I L P E c s) = some (.inl (some (vi v)), (mm n I1 L1 P1 E1 c1 s1))) (hr : V PR (d + 1) 251 0 [(0, (vR (some (186, 0)))), (1, (vi (sc I t 1))), (2, (vi (sc I t 2)))] [] (mm n I1 (up3 L1 486 0 0 (v.toInt64)) P1 E1 c1 s1) = some (.inl (some (vi v)), (mm n I2 L2 P2 E2 c2 s2))) (ht : I2 186 0 0 = 0) (hl : L2 486 0 0 = v.toInt64) : V PR (d + 2) 374 40 (lvL (nI (6 * t))) [vi (6 : Int32)] (mm n I L P E c s) = V PR (d + 2) 374 23 (lvL (nI (6 * (t + 1)))) [] (mm n I2 L2 P2 E2 c2 s2) := by
  rw [← at6]
  have a1 : arrOk (mm n I1 L1 P1 E1 c1 s1) 486 0 3 0 = true := (aro_486 hE).trans ib_0_1
  have a2 : arrOk (mm n I2 L2 P2 E2 c2 s2) 486 0 3 0 = true := (aro_486 hE2).trans ib_0_1
  have d0 : (!decide ((0 : Int32) = 0)) = false := by decide +kernel
  have d1 : decide ((0 : Int32) = 0) = true := by decide +kernel
  obtain ⟨i1, i2, i3, i4, i5⟩ := sc_in (t := t) hn hN
  simp only [sc, k_L_law_40_6, k_L_well_0, i1, i2, i3, i4, i5, cond_true, hc, Vk_v, Nat.reduceAdd, k_L_well_8, b2i_bit, a1, decide_true, Bool.not_true]
  simp only [tn0, hs, i1, i2, i3, i4, i5, cond_true, k_L_law_615, k_L_law_633, k_L_law_639, k_X12_thrown_0, hr, Vk_v, Nat.reduceAdd, ht, d0, d1, a2, cond_true, cond_false, hl, lgc_self, decide_true, Bool.not_true]
theorem vh_336_0 (x : Nat) (rest : List AV) (lv : LVs) (M : Mem) : Vk d 336 5 rest lv (some (.inr (0, x), M)) = V PR (d + 1) 336 15 lv [] M := rfl
theorem ex_6_0 (b : Int32) {x : Nat} (hn : 6 * t + 6 ≤ n) (hN : n ≤ 3072) (hs : ∀ j, I1 0 0 j = I 0 0 j) (hc : V PR d 136 0 [(0, (vR (some (100, 0)))), (1, (vi (sc I t 1))), (2, (vi (sc I t 2)))] [] (mm n I L P E c s) = some (.inr (0, x), (mm n I1 L1 P1 E1 c1 s1))) (hr : V PR (d + 1) 251 0 [(0, (vR (some (186, 0)))), (1, (vi (sc I t 1))), (2, (vi (sc I t 2)))] [] (mm n I1 L1 P1 E1 c1 s1) = some (.inl (some (vi b)), (mm n I2 L2 P2 E2 c2 s2))) (ht : I2 186 0 0 = 1) : V PR (d + 2) 374 40 (lvL (nI (6 * t))) [vi (6 : Int32)] (mm n I L P E c s) = V PR (d + 2) 374 23 (lvL (nI (6 * (t + 1)))) [] (mm n I2 L2 P2 E2 c2 s2) := by
  rw [← at6]
  have d0 : (!decide ((1 : Int32) = 0)) = true := by decide +kernel
  obtain ⟨i1, i2, i3, i4, i5⟩ := sc_in (t := t) hn hN
  simp only [sc, k_L_law_40_6, k_L_well_0, i1, i2, i3, i4, i5, cond_true, hc, vh_336_0, k_L_well_15, Vk_v, Nat.reduceAdd]
  simp only [hs, i1, i2, i3, i4, i5, cond_true, k_L_law_615, k_L_law_633, k_L_law_639, k_X12_thrown_0, hr, Vk_v, Nat.reduceAdd, ht, d0, decide_true, cond_true]
theorem vh_336_1 (x : Nat) (rest : List AV) (lv : LVs) (M : Mem) : Vk d 336 5 rest lv (some (.inr (1, x), M)) = V PR (d + 1) 336 19 lv [] M := rfl
theorem ex_6_1 (b : Int32) {x : Nat} (hn : 6 * t + 6 ≤ n) (hN : n ≤ 3072) (hs : ∀ j, I1 0 0 j = I 0 0 j) (hc : V PR d 136 0 [(0, (vR (some (100, 0)))), (1, (vi (sc I t 1))), (2, (vi (sc I t 2)))] [] (mm n I L P E c s) = some (.inr (1, x), (mm n I1 L1 P1 E1 c1 s1))) (hr : V PR (d + 1) 251 0 [(0, (vR (some (186, 0)))), (1, (vi (sc I t 1))), (2, (vi (sc I t 2)))] [] (mm n I1 L1 P1 E1 c1 s1) = some (.inl (some (vi b)), (mm n I2 L2 P2 E2 c2 s2))) (ht : I2 186 0 0 = 2) : V PR (d + 2) 374 40 (lvL (nI (6 * t))) [vi (6 : Int32)] (mm n I L P E c s) = V PR (d + 2) 374 23 (lvL (nI (6 * (t + 1)))) [] (mm n I2 L2 P2 E2 c2 s2) := by
  rw [← at6]
  have d0 : (!decide ((2 : Int32) = 0)) = true := by decide +kernel
  obtain ⟨i1, i2, i3, i4, i5⟩ := sc_in (t := t) hn hN
  simp only [sc, k_L_law_40_6, k_L_well_0, i1, i2, i3, i4, i5, cond_true, hc, vh_336_1, k_L_well_19, Vk_v, Nat.reduceAdd]
  simp only [hs, i1, i2, i3, i4, i5, cond_true, k_L_law_615, k_L_law_633, k_L_law_639, k_X12_thrown_0, hr, Vk_v, Nat.reduceAdd, ht, d0, decide_true, cond_true]
theorem ok_7 (v : Int32) (hn : 6 * t + 6 ≤ n) (hN : n ≤ 3072) (hs : ∀ j, I1 0 0 j = I 0 0 j) (hE : E1 486 = (2, 3, 1, 0)) (hE2 : E2 486 = (2, 3, 1, 0)) (hc : V PR d 137 0 [(0, (vR (some (100, 0)))), (1, (vi (sc I t 1))), (2, (vi (sc I t 2)))] [] (mm n I L P E c s) = some (.inl (some (vi v)), (mm n I1 L1 P1 E1 c1 s1))) (hr : V PR (d + 1) 252 0 [(0, (vR (some (186, 0)))), (1, (vi (sc I t 1))), (2, (vi (sc I t 2)))] [] (mm n I1 (up3 L1 486 0 0 (v.toInt64)) P1 E1 c1 s1) = some (.inl (some (vi v)), (mm n I2 L2 P2 E2 c2 s2))) (ht : I2 186 0 0 = 0) (hl : L2 486 0 0 = v.toInt64) : V PR (d + 2) 374 40 (lvL (nI (6 * t))) [vi (7 : Int32)] (mm n I L P E c s) = V PR (d + 2) 374 23 (lvL (nI (6 * (t + 1)))) [] (mm n I2 L2 P2 E2 c2 s2) := by
  rw [← at6]
  have a1 : arrOk (mm n I1 L1 P1 E1 c1 s1) 486 0 3 0 = true := (aro_486 hE).trans ib_0_1
  have a2 : arrOk (mm n I2 L2 P2 E2 c2 s2) 486 0 3 0 = true := (aro_486 hE2).trans ib_0_1
  have d0 : (!decide ((0 : Int32) = 0)) = false := by decide +kernel
  have d1 : decide ((0 : Int32) = 0) = true := by decide +kernel
  obtain ⟨i1, i2, i3, i4, i5⟩ := sc_in (t := t) hn hN
  simp only [sc, k_L_law_40_7, k_L_far_0, i1, i2, i3, i4, i5, cond_true, hc, Vk_v, Nat.reduceAdd, k_L_far_8, b2i_bit, a1, decide_true, Bool.not_true]
  simp only [tn0, hs, i1, i2, i3, i4, i5, cond_true, k_L_law_683, k_L_law_701, k_L_law_707, k_X12_thrown_0, hr, Vk_v, Nat.reduceAdd, ht, d0, d1, a2, cond_true, cond_false, hl, lgc_self, decide_true, Bool.not_true]
theorem vh_337_0 (x : Nat) (rest : List AV) (lv : LVs) (M : Mem) : Vk d 337 5 rest lv (some (.inr (0, x), M)) = V PR (d + 1) 337 15 lv [] M := rfl
theorem ex_7_0 (b : Int32) {x : Nat} (hn : 6 * t + 6 ≤ n) (hN : n ≤ 3072) (hs : ∀ j, I1 0 0 j = I 0 0 j) (hc : V PR d 137 0 [(0, (vR (some (100, 0)))), (1, (vi (sc I t 1))), (2, (vi (sc I t 2)))] [] (mm n I L P E c s) = some (.inr (0, x), (mm n I1 L1 P1 E1 c1 s1))) (hr : V PR (d + 1) 252 0 [(0, (vR (some (186, 0)))), (1, (vi (sc I t 1))), (2, (vi (sc I t 2)))] [] (mm n I1 L1 P1 E1 c1 s1) = some (.inl (some (vi b)), (mm n I2 L2 P2 E2 c2 s2))) (ht : I2 186 0 0 = 1) : V PR (d + 2) 374 40 (lvL (nI (6 * t))) [vi (7 : Int32)] (mm n I L P E c s) = V PR (d + 2) 374 23 (lvL (nI (6 * (t + 1)))) [] (mm n I2 L2 P2 E2 c2 s2) := by
  rw [← at6]
  have d0 : (!decide ((1 : Int32) = 0)) = true := by decide +kernel
  obtain ⟨i1, i2, i3, i4, i5⟩ := sc_in (t := t) hn hN
  simp only [sc, k_L_law_40_7, k_L_far_0, i1, i2, i3, i4, i5, cond_true, hc, vh_337_0, k_L_far_15, Vk_v, Nat.reduceAdd]
  simp only [hs, i1, i2, i3, i4, i5, cond_true, k_L_law_683, k_L_law_701, k_L_law_707, k_X12_thrown_0, hr, Vk_v, Nat.reduceAdd, ht, d0, decide_true, cond_true]
theorem ok_8 (v : Bool) (hn : 6 * t + 6 ≤ n) (hN : n ≤ 3072) (hs : ∀ j, I1 0 0 j = I 0 0 j) (hE : E1 486 = (2, 3, 1, 0)) (hE2 : E2 486 = (2, 3, 1, 0)) (hc : V PR d 138 0 [(0, (vR (some (100, 0)))), (1, (vi (sc I t 1))), (2, (vi (sc I t 2))), (3, (vi (sc I t 3)))] [] (mm n I L P E c s) = some (.inl (some (vi (b2i v))), (mm n I1 L1 P1 E1 c1 s1))) (hr : V PR (d + 1) 258 0 [(0, (vR (some (186, 0)))), (1, (vi (sc I t 1))), (2, (vi (sc I t 2))), (3, (vi (sc I t 3)))] [] (mm n I1 (up3 L1 486 0 0 (b2l v)) P1 E1 c1 s1) = some (.inl (some (vi (b2i v))), (mm n I2 L2 P2 E2 c2 s2))) (ht : I2 186 0 0 = 0) (hl : L2 486 0 0 = b2l v) : V PR (d + 2) 374 40 (lvL (nI (6 * t))) [vi (8 : Int32)] (mm n I L P E c s) = V PR (d + 2) 374 23 (lvL (nI (6 * (t + 1)))) [] (mm n I2 L2 P2 E2 c2 s2) := by
  rw [← at6]
  have a1 : arrOk (mm n I1 L1 P1 E1 c1 s1) 486 0 3 0 = true := (aro_486 hE).trans ib_0_1
  have a2 : arrOk (mm n I2 L2 P2 E2 c2 s2) 486 0 3 0 = true := (aro_486 hE2).trans ib_0_1
  have d0 : (!decide ((0 : Int32) = 0)) = false := by decide +kernel
  have d1 : decide ((0 : Int32) = 0) = true := by decide +kernel
  obtain ⟨i1, i2, i3, i4, i5⟩ := sc_in (t := t) hn hN
  cases v <;> simp only [b2i_t, b2i_f, b2l, cond_true, cond_false] at hc hr hl <;> simp only [sc, k_L_law_40_8, k_L_lies_0, i1, i2, i3, i4, i5, cond_true, hc, Vk_v, Nat.reduceAdd, k_L_lies_10, b2i_bit, a1, decide_true, Bool.not_true, b2i_t, b2i_f, b2l, d1, show decide ((1 : Int32) = 0) = false from by decide +kernel, show (!decide ((1 : Int32) = 0)) = true from by decide +kernel, d0, cond_false, cond_true] <;> simp only [tn0, hs, i1, i2, i3, i4, i5, cond_true, k_L_law_757, k_L_law_781, k_L_law_787, k_X12_thrown_0, hr, Vk_v, Nat.reduceAdd, ht, d0, d1, a2, cond_true, cond_false, hl, lgc_self, decide_true, Bool.not_true, b2i_t, b2i_f, b2l, show decide ((1 : Int32) = 0) = false from by decide +kernel]
theorem vh_338_0 (x : Nat) (rest : List AV) (lv : LVs) (M : Mem) : Vk d 338 7 rest lv (some (.inr (0, x), M)) = V PR (d + 1) 338 24 lv [] M := rfl
theorem ex_8_0 (b : Bool) {x : Nat} (hn : 6 * t + 6 ≤ n) (hN : n ≤ 3072) (hs : ∀ j, I1 0 0 j = I 0 0 j) (hc : V PR d 138 0 [(0, (vR (some (100, 0)))), (1, (vi (sc I t 1))), (2, (vi (sc I t 2))), (3, (vi (sc I t 3)))] [] (mm n I L P E c s) = some (.inr (0, x), (mm n I1 L1 P1 E1 c1 s1))) (hr : V PR (d + 1) 258 0 [(0, (vR (some (186, 0)))), (1, (vi (sc I t 1))), (2, (vi (sc I t 2))), (3, (vi (sc I t 3)))] [] (mm n I1 L1 P1 E1 c1 s1) = some (.inl (some (vi (b2i b))), (mm n I2 L2 P2 E2 c2 s2))) (ht : I2 186 0 0 = 1) : V PR (d + 2) 374 40 (lvL (nI (6 * t))) [vi (8 : Int32)] (mm n I L P E c s) = V PR (d + 2) 374 23 (lvL (nI (6 * (t + 1)))) [] (mm n I2 L2 P2 E2 c2 s2) := by
  rw [← at6]
  have d0 : (!decide ((1 : Int32) = 0)) = true := by decide +kernel
  obtain ⟨i1, i2, i3, i4, i5⟩ := sc_in (t := t) hn hN
  simp only [sc, k_L_law_40_8, k_L_lies_0, i1, i2, i3, i4, i5, cond_true, hc, vh_338_0, k_L_lies_24, Vk_v, Nat.reduceAdd]
  simp only [hs, i1, i2, i3, i4, i5, cond_true, k_L_law_757, k_L_law_781, k_L_law_787, k_X12_thrown_0, hr, Vk_v, Nat.reduceAdd, ht, d0, decide_true, cond_true]
theorem vh_338_1 (x : Nat) (rest : List AV) (lv : LVs) (M : Mem) : Vk d 338 7 rest lv (some (.inr (1, x), M)) = V PR (d + 1) 338 28 lv [] M := rfl
theorem ex_8_1 (b : Bool) {x : Nat} (hn : 6 * t + 6 ≤ n) (hN : n ≤ 3072) (hs : ∀ j, I1 0 0 j = I 0 0 j) (hc : V PR d 138 0 [(0, (vR (some (100, 0)))), (1, (vi (sc I t 1))), (2, (vi (sc I t 2))), (3, (vi (sc I t 3)))] [] (mm n I L P E c s) = some (.inr (1, x), (mm n I1 L1 P1 E1 c1 s1))) (hr : V PR (d + 1) 258 0 [(0, (vR (some (186, 0)))), (1, (vi (sc I t 1))), (2, (vi (sc I t 2))), (3, (vi (sc I t 3)))] [] (mm n I1 L1 P1 E1 c1 s1) = some (.inl (some (vi (b2i b))), (mm n I2 L2 P2 E2 c2 s2))) (ht : I2 186 0 0 = 2) : V PR (d + 2) 374 40 (lvL (nI (6 * t))) [vi (8 : Int32)] (mm n I L P E c s) = V PR (d + 2) 374 23 (lvL (nI (6 * (t + 1)))) [] (mm n I2 L2 P2 E2 c2 s2) := by
  rw [← at6]
  have d0 : (!decide ((2 : Int32) = 0)) = true := by decide +kernel
  obtain ⟨i1, i2, i3, i4, i5⟩ := sc_in (t := t) hn hN
  simp only [sc, k_L_law_40_8, k_L_lies_0, i1, i2, i3, i4, i5, cond_true, hc, vh_338_1, k_L_lies_28, Vk_v, Nat.reduceAdd]
  simp only [hs, i1, i2, i3, i4, i5, cond_true, k_L_law_757, k_L_law_781, k_L_law_787, k_X12_thrown_0, hr, Vk_v, Nat.reduceAdd, ht, d0, decide_true, cond_true]
theorem ok_9 (v : Bool) (hn : 6 * t + 6 ≤ n) (hN : n ≤ 3072) (hs : ∀ j, I1 0 0 j = I 0 0 j) (hE : E1 486 = (2, 3, 1, 0)) (hE2 : E2 486 = (2, 3, 1, 0)) (hc : V PR d 139 0 [(0, (vR (some (100, 0)))), (1, (vi (sc I t 1))), (2, (vi (sc I t 2)))] [] (mm n I L P E c s) = some (.inl (some (vi (b2i v))), (mm n I1 L1 P1 E1 c1 s1))) (hr : V PR (d + 1) 259 0 [(0, (vR (some (186, 0)))), (1, (vi (sc I t 1))), (2, (vi (sc I t 2)))] [] (mm n I1 (up3 L1 486 0 0 (b2l v)) P1 E1 c1 s1) = some (.inl (some (vi (b2i v))), (mm n I2 L2 P2 E2 c2 s2))) (ht : I2 186 0 0 = 0) (hl : L2 486 0 0 = b2l v) : V PR (d + 2) 374 40 (lvL (nI (6 * t))) [vi (9 : Int32)] (mm n I L P E c s) = V PR (d + 2) 374 23 (lvL (nI (6 * (t + 1)))) [] (mm n I2 L2 P2 E2 c2 s2) := by
  rw [← at6]
  have a1 : arrOk (mm n I1 L1 P1 E1 c1 s1) 486 0 3 0 = true := (aro_486 hE).trans ib_0_1
  have a2 : arrOk (mm n I2 L2 P2 E2 c2 s2) 486 0 3 0 = true := (aro_486 hE2).trans ib_0_1
  have d0 : (!decide ((0 : Int32) = 0)) = false := by decide +kernel
  have d1 : decide ((0 : Int32) = 0) = true := by decide +kernel
  obtain ⟨i1, i2, i3, i4, i5⟩ := sc_in (t := t) hn hN
  cases v <;> simp only [b2i_t, b2i_f, b2l, cond_true, cond_false] at hc hr hl <;> simp only [sc, k_L_law_40_9, k_L_silent_0, i1, i2, i3, i4, i5, cond_true, hc, Vk_v, Nat.reduceAdd, k_L_silent_8, b2i_bit, a1, decide_true, Bool.not_true, b2i_t, b2i_f, b2l, d1, show decide ((1 : Int32) = 0) = false from by decide +kernel, show (!decide ((1 : Int32) = 0)) = true from by decide +kernel, d0, cond_false, cond_true] <;> simp only [tn0, hs, i1, i2, i3, i4, i5, cond_true, k_L_law_838, k_L_law_856, k_L_law_862, k_X12_thrown_0, hr, Vk_v, Nat.reduceAdd, ht, d0, d1, a2, cond_true, cond_false, hl, lgc_self, decide_true, Bool.not_true, b2i_t, b2i_f, b2l, show decide ((1 : Int32) = 0) = false from by decide +kernel]
theorem vh_339_0 (x : Nat) (rest : List AV) (lv : LVs) (M : Mem) : Vk d 339 5 rest lv (some (.inr (0, x), M)) = V PR (d + 1) 339 22 lv [] M := rfl
theorem ex_9_0 (b : Bool) {x : Nat} (hn : 6 * t + 6 ≤ n) (hN : n ≤ 3072) (hs : ∀ j, I1 0 0 j = I 0 0 j) (hc : V PR d 139 0 [(0, (vR (some (100, 0)))), (1, (vi (sc I t 1))), (2, (vi (sc I t 2)))] [] (mm n I L P E c s) = some (.inr (0, x), (mm n I1 L1 P1 E1 c1 s1))) (hr : V PR (d + 1) 259 0 [(0, (vR (some (186, 0)))), (1, (vi (sc I t 1))), (2, (vi (sc I t 2)))] [] (mm n I1 L1 P1 E1 c1 s1) = some (.inl (some (vi (b2i b))), (mm n I2 L2 P2 E2 c2 s2))) (ht : I2 186 0 0 = 1) : V PR (d + 2) 374 40 (lvL (nI (6 * t))) [vi (9 : Int32)] (mm n I L P E c s) = V PR (d + 2) 374 23 (lvL (nI (6 * (t + 1)))) [] (mm n I2 L2 P2 E2 c2 s2) := by
  rw [← at6]
  have d0 : (!decide ((1 : Int32) = 0)) = true := by decide +kernel
  obtain ⟨i1, i2, i3, i4, i5⟩ := sc_in (t := t) hn hN
  simp only [sc, k_L_law_40_9, k_L_silent_0, i1, i2, i3, i4, i5, cond_true, hc, vh_339_0, k_L_silent_22, Vk_v, Nat.reduceAdd]
  simp only [hs, i1, i2, i3, i4, i5, cond_true, k_L_law_838, k_L_law_856, k_L_law_862, k_X12_thrown_0, hr, Vk_v, Nat.reduceAdd, ht, d0, decide_true, cond_true]
theorem vh_339_1 (x : Nat) (rest : List AV) (lv : LVs) (M : Mem) : Vk d 339 5 rest lv (some (.inr (1, x), M)) = V PR (d + 1) 339 26 lv [] M := rfl
theorem ex_9_1 (b : Bool) {x : Nat} (hn : 6 * t + 6 ≤ n) (hN : n ≤ 3072) (hs : ∀ j, I1 0 0 j = I 0 0 j) (hc : V PR d 139 0 [(0, (vR (some (100, 0)))), (1, (vi (sc I t 1))), (2, (vi (sc I t 2)))] [] (mm n I L P E c s) = some (.inr (1, x), (mm n I1 L1 P1 E1 c1 s1))) (hr : V PR (d + 1) 259 0 [(0, (vR (some (186, 0)))), (1, (vi (sc I t 1))), (2, (vi (sc I t 2)))] [] (mm n I1 L1 P1 E1 c1 s1) = some (.inl (some (vi (b2i b))), (mm n I2 L2 P2 E2 c2 s2))) (ht : I2 186 0 0 = 2) : V PR (d + 2) 374 40 (lvL (nI (6 * t))) [vi (9 : Int32)] (mm n I L P E c s) = V PR (d + 2) 374 23 (lvL (nI (6 * (t + 1)))) [] (mm n I2 L2 P2 E2 c2 s2) := by
  rw [← at6]
  have d0 : (!decide ((2 : Int32) = 0)) = true := by decide +kernel
  obtain ⟨i1, i2, i3, i4, i5⟩ := sc_in (t := t) hn hN
  simp only [sc, k_L_law_40_9, k_L_silent_0, i1, i2, i3, i4, i5, cond_true, hc, vh_339_1, k_L_silent_26, Vk_v, Nat.reduceAdd]
  simp only [hs, i1, i2, i3, i4, i5, cond_true, k_L_law_838, k_L_law_856, k_L_law_862, k_X12_thrown_0, hr, Vk_v, Nat.reduceAdd, ht, d0, decide_true, cond_true]
theorem ok_10 (v : Int64) (hn : 6 * t + 6 ≤ n) (hN : n ≤ 3072) (hs : ∀ j, I1 0 0 j = I 0 0 j) (hE : E1 486 = (2, 3, 1, 0)) (hE2 : E2 486 = (2, 3, 1, 0)) (hc : V PR d 140 0 [(0, (vR (some (100, 0)))), (1, (vi (sc I t 1))), (2, (vi (sc I t 2)))] [] (mm n I L P E c s) = some (.inl (some (vL v)), (mm n I1 L1 P1 E1 c1 s1))) (hr : V PR (d + 1) 261 0 [(0, (vR (some (186, 0)))), (1, (vi (sc I t 1))), (2, (vi (sc I t 2)))] [] (mm n I1 (up3 L1 486 0 0 (v)) P1 E1 c1 s1) = some (.inl (some (vL v)), (mm n I2 L2 P2 E2 c2 s2))) (ht : I2 186 0 0 = 0) (hl : L2 486 0 0 = v) : V PR (d + 2) 374 40 (lvL (nI (6 * t))) [vi (10 : Int32)] (mm n I L P E c s) = V PR (d + 2) 374 23 (lvL (nI (6 * (t + 1)))) [] (mm n I2 L2 P2 E2 c2 s2) := by
  rw [← at6]
  have a1 : arrOk (mm n I1 L1 P1 E1 c1 s1) 486 0 3 0 = true := (aro_486 hE).trans ib_0_1
  have a2 : arrOk (mm n I2 L2 P2 E2 c2 s2) 486 0 3 0 = true := (aro_486 hE2).trans ib_0_1
  have d0 : (!decide ((0 : Int32) = 0)) = false := by decide +kernel
  have d1 : decide ((0 : Int32) = 0) = true := by decide +kernel
  obtain ⟨i1, i2, i3, i4, i5⟩ := sc_in (t := t) hn hN
  simp only [sc, k_L_law_40_10, k_L_states_0, i1, i2, i3, i4, i5, cond_true, hc, Vk_v, Nat.reduceAdd, k_L_states_8, b2i_bit, a1, decide_true, Bool.not_true]
  simp only [tn0, hs, i1, i2, i3, i4, i5, cond_true, k_L_law_913, k_L_law_931, k_L_law_937, k_X12_thrown_0, hr, Vk_v, Nat.reduceAdd, ht, d0, d1, a2, cond_true, cond_false, hl, lgc_self, decide_true, Bool.not_true]
theorem vh_340_1 (x : Nat) (rest : List AV) (lv : LVs) (M : Mem) : Vk d 340 5 rest lv (some (.inr (1, x), M)) = V PR (d + 1) 340 14 lv [] M := rfl
theorem ex_10_1 (b : Int64) {x : Nat} (hn : 6 * t + 6 ≤ n) (hN : n ≤ 3072) (hs : ∀ j, I1 0 0 j = I 0 0 j) (hc : V PR d 140 0 [(0, (vR (some (100, 0)))), (1, (vi (sc I t 1))), (2, (vi (sc I t 2)))] [] (mm n I L P E c s) = some (.inr (1, x), (mm n I1 L1 P1 E1 c1 s1))) (hr : V PR (d + 1) 261 0 [(0, (vR (some (186, 0)))), (1, (vi (sc I t 1))), (2, (vi (sc I t 2)))] [] (mm n I1 L1 P1 E1 c1 s1) = some (.inl (some (vL b)), (mm n I2 L2 P2 E2 c2 s2))) (ht : I2 186 0 0 = 1) : V PR (d + 2) 374 40 (lvL (nI (6 * t))) [vi (10 : Int32)] (mm n I L P E c s) = V PR (d + 2) 374 23 (lvL (nI (6 * (t + 1)))) [] (mm n I2 L2 P2 E2 c2 s2) := by
  rw [← at6]
  have d0 : (!decide ((1 : Int32) = 0)) = true := by decide +kernel
  obtain ⟨i1, i2, i3, i4, i5⟩ := sc_in (t := t) hn hN
  simp only [sc, k_L_law_40_10, k_L_states_0, i1, i2, i3, i4, i5, cond_true, hc, vh_340_1, k_L_states_14, Vk_v, Nat.reduceAdd]
  simp only [hs, i1, i2, i3, i4, i5, cond_true, k_L_law_913, k_L_law_931, k_L_law_937, k_X12_thrown_0, hr, Vk_v, Nat.reduceAdd, ht, d0, decide_true, cond_true]
theorem ok_11 (v : Bool) (hn : 6 * t + 6 ≤ n) (hN : n ≤ 3072) (hs : ∀ j, I1 0 0 j = I 0 0 j) (hE : E1 486 = (2, 3, 1, 0)) (hE2 : E2 486 = (2, 3, 1, 0)) (hc : V PR d 141 0 [(0, (vR (some (100, 0)))), (1, (vi (sc I t 1))), (2, (vi (sc I t 2)))] [] (mm n I L P E c s) = some (.inl (some (vi (b2i v))), (mm n I1 L1 P1 E1 c1 s1))) (hr : V PR (d + 1) 262 0 [(0, (vR (some (186, 0)))), (1, (vi (sc I t 1))), (2, (vi (sc I t 2)))] [] (mm n I1 (up3 L1 486 0 0 (b2l v)) P1 E1 c1 s1) = some (.inl (some (vi (b2i v))), (mm n I2 L2 P2 E2 c2 s2))) (ht : I2 186 0 0 = 0) (hl : L2 486 0 0 = b2l v) : V PR (d + 2) 374 40 (lvL (nI (6 * t))) [vi (11 : Int32)] (mm n I L P E c s) = V PR (d + 2) 374 23 (lvL (nI (6 * (t + 1)))) [] (mm n I2 L2 P2 E2 c2 s2) := by
  rw [← at6]
  have a1 : arrOk (mm n I1 L1 P1 E1 c1 s1) 486 0 3 0 = true := (aro_486 hE).trans ib_0_1
  have a2 : arrOk (mm n I2 L2 P2 E2 c2 s2) 486 0 3 0 = true := (aro_486 hE2).trans ib_0_1
  have d0 : (!decide ((0 : Int32) = 0)) = false := by decide +kernel
  have d1 : decide ((0 : Int32) = 0) = true := by decide +kernel
  obtain ⟨i1, i2, i3, i4, i5⟩ := sc_in (t := t) hn hN
  cases v <;> simp only [b2i_t, b2i_f, b2l, cond_true, cond_false] at hc hr hl <;> simp only [sc, k_L_law_40_11, k_L_knows_0, i1, i2, i3, i4, i5, cond_true, hc, Vk_v, Nat.reduceAdd, k_L_knows_8, b2i_bit, a1, decide_true, Bool.not_true, b2i_t, b2i_f, b2l, d1, show decide ((1 : Int32) = 0) = false from by decide +kernel, show (!decide ((1 : Int32) = 0)) = true from by decide +kernel, d0, cond_false, cond_true] <;> simp only [tn0, hs, i1, i2, i3, i4, i5, cond_true, k_L_law_980, k_L_law_998, k_L_law_1004, k_X12_thrown_0, hr, Vk_v, Nat.reduceAdd, ht, d0, d1, a2, cond_true, cond_false, hl, lgc_self, decide_true, Bool.not_true, b2i_t, b2i_f, b2l, show decide ((1 : Int32) = 0) = false from by decide +kernel]
theorem vh_341_0 (x : Nat) (rest : List AV) (lv : LVs) (M : Mem) : Vk d 341 5 rest lv (some (.inr (0, x), M)) = V PR (d + 1) 341 22 lv [] M := rfl
theorem ex_11_0 (b : Bool) {x : Nat} (hn : 6 * t + 6 ≤ n) (hN : n ≤ 3072) (hs : ∀ j, I1 0 0 j = I 0 0 j) (hc : V PR d 141 0 [(0, (vR (some (100, 0)))), (1, (vi (sc I t 1))), (2, (vi (sc I t 2)))] [] (mm n I L P E c s) = some (.inr (0, x), (mm n I1 L1 P1 E1 c1 s1))) (hr : V PR (d + 1) 262 0 [(0, (vR (some (186, 0)))), (1, (vi (sc I t 1))), (2, (vi (sc I t 2)))] [] (mm n I1 L1 P1 E1 c1 s1) = some (.inl (some (vi (b2i b))), (mm n I2 L2 P2 E2 c2 s2))) (ht : I2 186 0 0 = 1) : V PR (d + 2) 374 40 (lvL (nI (6 * t))) [vi (11 : Int32)] (mm n I L P E c s) = V PR (d + 2) 374 23 (lvL (nI (6 * (t + 1)))) [] (mm n I2 L2 P2 E2 c2 s2) := by
  rw [← at6]
  have d0 : (!decide ((1 : Int32) = 0)) = true := by decide +kernel
  obtain ⟨i1, i2, i3, i4, i5⟩ := sc_in (t := t) hn hN
  simp only [sc, k_L_law_40_11, k_L_knows_0, i1, i2, i3, i4, i5, cond_true, hc, vh_341_0, k_L_knows_22, Vk_v, Nat.reduceAdd]
  simp only [hs, i1, i2, i3, i4, i5, cond_true, k_L_law_980, k_L_law_998, k_L_law_1004, k_X12_thrown_0, hr, Vk_v, Nat.reduceAdd, ht, d0, decide_true, cond_true]
theorem vh_341_1 (x : Nat) (rest : List AV) (lv : LVs) (M : Mem) : Vk d 341 5 rest lv (some (.inr (1, x), M)) = V PR (d + 1) 341 26 lv [] M := rfl
theorem ex_11_1 (b : Bool) {x : Nat} (hn : 6 * t + 6 ≤ n) (hN : n ≤ 3072) (hs : ∀ j, I1 0 0 j = I 0 0 j) (hc : V PR d 141 0 [(0, (vR (some (100, 0)))), (1, (vi (sc I t 1))), (2, (vi (sc I t 2)))] [] (mm n I L P E c s) = some (.inr (1, x), (mm n I1 L1 P1 E1 c1 s1))) (hr : V PR (d + 1) 262 0 [(0, (vR (some (186, 0)))), (1, (vi (sc I t 1))), (2, (vi (sc I t 2)))] [] (mm n I1 L1 P1 E1 c1 s1) = some (.inl (some (vi (b2i b))), (mm n I2 L2 P2 E2 c2 s2))) (ht : I2 186 0 0 = 2) : V PR (d + 2) 374 40 (lvL (nI (6 * t))) [vi (11 : Int32)] (mm n I L P E c s) = V PR (d + 2) 374 23 (lvL (nI (6 * (t + 1)))) [] (mm n I2 L2 P2 E2 c2 s2) := by
  rw [← at6]
  have d0 : (!decide ((2 : Int32) = 0)) = true := by decide +kernel
  obtain ⟨i1, i2, i3, i4, i5⟩ := sc_in (t := t) hn hN
  simp only [sc, k_L_law_40_11, k_L_knows_0, i1, i2, i3, i4, i5, cond_true, hc, vh_341_1, k_L_knows_26, Vk_v, Nat.reduceAdd]
  simp only [hs, i1, i2, i3, i4, i5, cond_true, k_L_law_980, k_L_law_998, k_L_law_1004, k_X12_thrown_0, hr, Vk_v, Nat.reduceAdd, ht, d0, decide_true, cond_true]
theorem ok_12 (v : Int32) (hn : 6 * t + 6 ≤ n) (hN : n ≤ 3072) (hs : ∀ j, I1 0 0 j = I 0 0 j) (hE : E1 486 = (2, 3, 1, 0)) (hE2 : E2 486 = (2, 3, 1, 0)) (hc : V PR d 142 0 [(0, (vR (some (100, 0)))), (1, (vi (sc I t 1))), (2, (vi (sc I t 2))), (3, (vi (sc I t 3))), (4, (vi (sc I t 4)))] [] (mm n I L P E c s) = some (.inl (some (vi v)), (mm n I1 L1 P1 E1 c1 s1))) (hr : V PR (d + 1) 263 0 [(0, (vR (some (186, 0)))), (1, (vi (sc I t 1))), (2, (vi (sc I t 2))), (3, (vi (sc I t 3))), (4, (vi (sc I t 4)))] [] (mm n I1 (up3 L1 486 0 0 (v.toInt64)) P1 E1 c1 s1) = some (.inl (some (vi v)), (mm n I2 L2 P2 E2 c2 s2))) (ht : I2 186 0 0 = 0) (hl : L2 486 0 0 = v.toInt64) : V PR (d + 2) 374 40 (lvL (nI (6 * t))) [vi (12 : Int32)] (mm n I L P E c s) = V PR (d + 2) 374 23 (lvL (nI (6 * (t + 1)))) [] (mm n I2 L2 P2 E2 c2 s2) := by
  rw [← at6]
  have a1 : arrOk (mm n I1 L1 P1 E1 c1 s1) 486 0 3 0 = true := (aro_486 hE).trans ib_0_1
  have a2 : arrOk (mm n I2 L2 P2 E2 c2 s2) 486 0 3 0 = true := (aro_486 hE2).trans ib_0_1
  have d0 : (!decide ((0 : Int32) = 0)) = false := by decide +kernel
  have d1 : decide ((0 : Int32) = 0) = true := by decide +kernel
  obtain ⟨i1, i2, i3, i4, i5⟩ := sc_in (t := t) hn hN
  simp only [sc, k_L_law_40_12, k_L_says_0, i1, i2, i3, i4, i5, cond_true, hc, Vk_v, Nat.reduceAdd, k_L_says_12, b2i_bit, a1, decide_true, Bool.not_true]
  simp only [tn0, hs, i1, i2, i3, i4, i5, cond_true, k_L_law_1067, k_L_law_1097, k_L_law_1103, k_X12_thrown_0, hr, Vk_v, Nat.reduceAdd, ht, d0, d1, a2, cond_true, cond_false, hl, lgc_self, decide_true, Bool.not_true]
theorem vh_342_0 (x : Nat) (rest : List AV) (lv : LVs) (M : Mem) : Vk d 342 9 rest lv (some (.inr (0, x), M)) = V PR (d + 1) 342 19 lv [] M := rfl
theorem ex_12_0 (b : Int32) {x : Nat} (hn : 6 * t + 6 ≤ n) (hN : n ≤ 3072) (hs : ∀ j, I1 0 0 j = I 0 0 j) (hc : V PR d 142 0 [(0, (vR (some (100, 0)))), (1, (vi (sc I t 1))), (2, (vi (sc I t 2))), (3, (vi (sc I t 3))), (4, (vi (sc I t 4)))] [] (mm n I L P E c s) = some (.inr (0, x), (mm n I1 L1 P1 E1 c1 s1))) (hr : V PR (d + 1) 263 0 [(0, (vR (some (186, 0)))), (1, (vi (sc I t 1))), (2, (vi (sc I t 2))), (3, (vi (sc I t 3))), (4, (vi (sc I t 4)))] [] (mm n I1 L1 P1 E1 c1 s1) = some (.inl (some (vi b)), (mm n I2 L2 P2 E2 c2 s2))) (ht : I2 186 0 0 = 1) : V PR (d + 2) 374 40 (lvL (nI (6 * t))) [vi (12 : Int32)] (mm n I L P E c s) = V PR (d + 2) 374 23 (lvL (nI (6 * (t + 1)))) [] (mm n I2 L2 P2 E2 c2 s2) := by
  rw [← at6]
  have d0 : (!decide ((1 : Int32) = 0)) = true := by decide +kernel
  obtain ⟨i1, i2, i3, i4, i5⟩ := sc_in (t := t) hn hN
  simp only [sc, k_L_law_40_12, k_L_says_0, i1, i2, i3, i4, i5, cond_true, hc, vh_342_0, k_L_says_19, Vk_v, Nat.reduceAdd]
  simp only [hs, i1, i2, i3, i4, i5, cond_true, k_L_law_1067, k_L_law_1097, k_L_law_1103, k_X12_thrown_0, hr, Vk_v, Nat.reduceAdd, ht, d0, decide_true, cond_true]
theorem vh_342_1 (x : Nat) (rest : List AV) (lv : LVs) (M : Mem) : Vk d 342 9 rest lv (some (.inr (1, x), M)) = V PR (d + 1) 342 23 lv [] M := rfl
theorem ex_12_1 (b : Int32) {x : Nat} (hn : 6 * t + 6 ≤ n) (hN : n ≤ 3072) (hs : ∀ j, I1 0 0 j = I 0 0 j) (hc : V PR d 142 0 [(0, (vR (some (100, 0)))), (1, (vi (sc I t 1))), (2, (vi (sc I t 2))), (3, (vi (sc I t 3))), (4, (vi (sc I t 4)))] [] (mm n I L P E c s) = some (.inr (1, x), (mm n I1 L1 P1 E1 c1 s1))) (hr : V PR (d + 1) 263 0 [(0, (vR (some (186, 0)))), (1, (vi (sc I t 1))), (2, (vi (sc I t 2))), (3, (vi (sc I t 3))), (4, (vi (sc I t 4)))] [] (mm n I1 L1 P1 E1 c1 s1) = some (.inl (some (vi b)), (mm n I2 L2 P2 E2 c2 s2))) (ht : I2 186 0 0 = 2) : V PR (d + 2) 374 40 (lvL (nI (6 * t))) [vi (12 : Int32)] (mm n I L P E c s) = V PR (d + 2) 374 23 (lvL (nI (6 * (t + 1)))) [] (mm n I2 L2 P2 E2 c2 s2) := by
  rw [← at6]
  have d0 : (!decide ((2 : Int32) = 0)) = true := by decide +kernel
  obtain ⟨i1, i2, i3, i4, i5⟩ := sc_in (t := t) hn hN
  simp only [sc, k_L_law_40_12, k_L_says_0, i1, i2, i3, i4, i5, cond_true, hc, vh_342_1, k_L_says_23, Vk_v, Nat.reduceAdd]
  simp only [hs, i1, i2, i3, i4, i5, cond_true, k_L_law_1067, k_L_law_1097, k_L_law_1103, k_X12_thrown_0, hr, Vk_v, Nat.reduceAdd, ht, d0, decide_true, cond_true]
theorem ok_13 (v : Int32) (hn : 6 * t + 6 ≤ n) (hN : n ≤ 3072) (hs : ∀ j, I1 0 0 j = I 0 0 j) (hE : E1 486 = (2, 3, 1, 0)) (hE2 : E2 486 = (2, 3, 1, 0)) (hc : V PR d 143 0 [(0, (vR (some (100, 0)))), (1, (vi (sc I t 1))), (2, (vi (sc I t 2))), (3, (vi (sc I t 3)))] [] (mm n I L P E c s) = some (.inl (some (vi v)), (mm n I1 L1 P1 E1 c1 s1))) (hr : V PR (d + 1) 267 0 [(0, (vR (some (186, 0)))), (1, (vi (sc I t 1))), (2, (vi (sc I t 2))), (3, (vi (sc I t 3)))] [] (mm n I1 (up3 L1 486 0 0 (v.toInt64)) P1 E1 c1 s1) = some (.inl (some (vi v)), (mm n I2 L2 P2 E2 c2 s2))) (ht : I2 186 0 0 = 0) (hl : L2 486 0 0 = v.toInt64) : V PR (d + 2) 374 40 (lvL (nI (6 * t))) [vi (13 : Int32)] (mm n I L P E c s) = V PR (d + 2) 374 23 (lvL (nI (6 * (t + 1)))) [] (mm n I2 L2 P2 E2 c2 s2) := by
  rw [← at6]
  have a1 : arrOk (mm n I1 L1 P1 E1 c1 s1) 486 0 3 0 = true := (aro_486 hE).trans ib_0_1
  have a2 : arrOk (mm n I2 L2 P2 E2 c2 s2) 486 0 3 0 = true := (aro_486 hE2).trans ib_0_1
  have d0 : (!decide ((0 : Int32) = 0)) = false := by decide +kernel
  have d1 : decide ((0 : Int32) = 0) = true := by decide +kernel
  obtain ⟨i1, i2, i3, i4, i5⟩ := sc_in (t := t) hn hN
  simp only [sc, k_L_law_40_13, k_L_ask_0, i1, i2, i3, i4, i5, cond_true, hc, Vk_v, Nat.reduceAdd, k_L_ask_10, b2i_bit, a1, decide_true, Bool.not_true]
  simp only [tn0, hs, i1, i2, i3, i4, i5, cond_true, k_L_law_1153, k_L_law_1177, k_L_law_1183, k_X12_thrown_0, hr, Vk_v, Nat.reduceAdd, ht, d0, d1, a2, cond_true, cond_false, hl, lgc_self, decide_true, Bool.not_true]
theorem vh_343_0 (x : Nat) (rest : List AV) (lv : LVs) (M : Mem) : Vk d 343 7 rest lv (some (.inr (0, x), M)) = V PR (d + 1) 343 17 lv [] M := rfl
theorem ex_13_0 (b : Int32) {x : Nat} (hn : 6 * t + 6 ≤ n) (hN : n ≤ 3072) (hs : ∀ j, I1 0 0 j = I 0 0 j) (hc : V PR d 143 0 [(0, (vR (some (100, 0)))), (1, (vi (sc I t 1))), (2, (vi (sc I t 2))), (3, (vi (sc I t 3)))] [] (mm n I L P E c s) = some (.inr (0, x), (mm n I1 L1 P1 E1 c1 s1))) (hr : V PR (d + 1) 267 0 [(0, (vR (some (186, 0)))), (1, (vi (sc I t 1))), (2, (vi (sc I t 2))), (3, (vi (sc I t 3)))] [] (mm n I1 L1 P1 E1 c1 s1) = some (.inl (some (vi b)), (mm n I2 L2 P2 E2 c2 s2))) (ht : I2 186 0 0 = 1) : V PR (d + 2) 374 40 (lvL (nI (6 * t))) [vi (13 : Int32)] (mm n I L P E c s) = V PR (d + 2) 374 23 (lvL (nI (6 * (t + 1)))) [] (mm n I2 L2 P2 E2 c2 s2) := by
  rw [← at6]
  have d0 : (!decide ((1 : Int32) = 0)) = true := by decide +kernel
  obtain ⟨i1, i2, i3, i4, i5⟩ := sc_in (t := t) hn hN
  simp only [sc, k_L_law_40_13, k_L_ask_0, i1, i2, i3, i4, i5, cond_true, hc, vh_343_0, k_L_ask_17, Vk_v, Nat.reduceAdd]
  simp only [hs, i1, i2, i3, i4, i5, cond_true, k_L_law_1153, k_L_law_1177, k_L_law_1183, k_X12_thrown_0, hr, Vk_v, Nat.reduceAdd, ht, d0, decide_true, cond_true]
theorem vh_343_1 (x : Nat) (rest : List AV) (lv : LVs) (M : Mem) : Vk d 343 7 rest lv (some (.inr (1, x), M)) = V PR (d + 1) 343 21 lv [] M := rfl
theorem ex_13_1 (b : Int32) {x : Nat} (hn : 6 * t + 6 ≤ n) (hN : n ≤ 3072) (hs : ∀ j, I1 0 0 j = I 0 0 j) (hc : V PR d 143 0 [(0, (vR (some (100, 0)))), (1, (vi (sc I t 1))), (2, (vi (sc I t 2))), (3, (vi (sc I t 3)))] [] (mm n I L P E c s) = some (.inr (1, x), (mm n I1 L1 P1 E1 c1 s1))) (hr : V PR (d + 1) 267 0 [(0, (vR (some (186, 0)))), (1, (vi (sc I t 1))), (2, (vi (sc I t 2))), (3, (vi (sc I t 3)))] [] (mm n I1 L1 P1 E1 c1 s1) = some (.inl (some (vi b)), (mm n I2 L2 P2 E2 c2 s2))) (ht : I2 186 0 0 = 2) : V PR (d + 2) 374 40 (lvL (nI (6 * t))) [vi (13 : Int32)] (mm n I L P E c s) = V PR (d + 2) 374 23 (lvL (nI (6 * (t + 1)))) [] (mm n I2 L2 P2 E2 c2 s2) := by
  rw [← at6]
  have d0 : (!decide ((2 : Int32) = 0)) = true := by decide +kernel
  obtain ⟨i1, i2, i3, i4, i5⟩ := sc_in (t := t) hn hN
  simp only [sc, k_L_law_40_13, k_L_ask_0, i1, i2, i3, i4, i5, cond_true, hc, vh_343_1, k_L_ask_21, Vk_v, Nat.reduceAdd]
  simp only [hs, i1, i2, i3, i4, i5, cond_true, k_L_law_1153, k_L_law_1177, k_L_law_1183, k_X12_thrown_0, hr, Vk_v, Nat.reduceAdd, ht, d0, decide_true, cond_true]
theorem ok_16 (v : Int32) (hn : 6 * t + 6 ≤ n) (hN : n ≤ 3072) (hs : ∀ j, I1 0 0 j = I 0 0 j) (hE : E1 486 = (2, 3, 1, 0)) (hE2 : E2 486 = (2, 3, 1, 0)) (hc : V PR d 146 0 [(0, (vR (some (100, 0)))), (1, (vi (sc I t 1)))] [] (mm n I L P E c s) = some (.inl (some (vi v)), (mm n I1 L1 P1 E1 c1 s1))) (hr : V PR (d + 1) 273 0 [(0, (vR (some (186, 0)))), (1, (vi (sc I t 1)))] [] (mm n I1 (up3 L1 486 0 0 (v.toInt64)) P1 E1 c1 s1) = some (.inl (some (vi v)), (mm n I2 L2 P2 E2 c2 s2))) (ht : I2 186 0 0 = 0) (hl : L2 486 0 0 = v.toInt64) : V PR (d + 2) 374 40 (lvL (nI (6 * t))) [vi (16 : Int32)] (mm n I L P E c s) = V PR (d + 2) 374 23 (lvL (nI (6 * (t + 1)))) [] (mm n I2 L2 P2 E2 c2 s2) := by
  rw [← at6]
  have a1 : arrOk (mm n I1 L1 P1 E1 c1 s1) 486 0 3 0 = true := (aro_486 hE).trans ib_0_1
  have a2 : arrOk (mm n I2 L2 P2 E2 c2 s2) 486 0 3 0 = true := (aro_486 hE2).trans ib_0_1
  have d0 : (!decide ((0 : Int32) = 0)) = false := by decide +kernel
  have d1 : decide ((0 : Int32) = 0) = true := by decide +kernel
  obtain ⟨i1, i2, i3, i4, i5⟩ := sc_in (t := t) hn hN
  simp only [sc, k_L_law_40_16, k_L_known_0, i1, i2, i3, i4, i5, cond_true, hc, Vk_v, Nat.reduceAdd, k_L_known_7, b2i_bit, a1, decide_true, Bool.not_true]
  simp only [tn0, hs, i1, i2, i3, i4, i5, cond_true, k_L_law_1248, k_L_law_1260, k_L_law_1266, k_X12_thrown_0, hr, Vk_v, Nat.reduceAdd, ht, d0, d1, a2, cond_true, cond_false, hl, lgc_self, decide_true, Bool.not_true]
theorem vh_344_1 (x : Nat) (rest : List AV) (lv : LVs) (M : Mem) : Vk d 344 4 rest lv (some (.inr (1, x), M)) = V PR (d + 1) 344 13 lv [] M := rfl
theorem ex_16_1 (b : Int32) {x : Nat} (hn : 6 * t + 6 ≤ n) (hN : n ≤ 3072) (hs : ∀ j, I1 0 0 j = I 0 0 j) (hc : V PR d 146 0 [(0, (vR (some (100, 0)))), (1, (vi (sc I t 1)))] [] (mm n I L P E c s) = some (.inr (1, x), (mm n I1 L1 P1 E1 c1 s1))) (hr : V PR (d + 1) 273 0 [(0, (vR (some (186, 0)))), (1, (vi (sc I t 1)))] [] (mm n I1 L1 P1 E1 c1 s1) = some (.inl (some (vi b)), (mm n I2 L2 P2 E2 c2 s2))) (ht : I2 186 0 0 = 1) : V PR (d + 2) 374 40 (lvL (nI (6 * t))) [vi (16 : Int32)] (mm n I L P E c s) = V PR (d + 2) 374 23 (lvL (nI (6 * (t + 1)))) [] (mm n I2 L2 P2 E2 c2 s2) := by
  rw [← at6]
  have d0 : (!decide ((1 : Int32) = 0)) = true := by decide +kernel
  obtain ⟨i1, i2, i3, i4, i5⟩ := sc_in (t := t) hn hN
  simp only [sc, k_L_law_40_16, k_L_known_0, i1, i2, i3, i4, i5, cond_true, hc, vh_344_1, k_L_known_13, Vk_v, Nat.reduceAdd]
  simp only [hs, i1, i2, i3, i4, i5, cond_true, k_L_law_1248, k_L_law_1260, k_L_law_1266, k_X12_thrown_0, hr, Vk_v, Nat.reduceAdd, ht, d0, decide_true, cond_true]
theorem ok_17 (v : Int32) (hn : 6 * t + 6 ≤ n) (hN : n ≤ 3072) (hs : ∀ j, I1 0 0 j = I 0 0 j) (hE : E1 486 = (2, 3, 1, 0)) (hE2 : E2 486 = (2, 3, 1, 0)) (hc : V PR d 147 0 [(0, (vR (some (100, 0)))), (1, (vi (sc I t 1)))] [] (mm n I L P E c s) = some (.inl (some (vi v)), (mm n I1 L1 P1 E1 c1 s1))) (hr : V PR (d + 1) 274 0 [(0, (vR (some (186, 0)))), (1, (vi (sc I t 1)))] [] (mm n I1 (up3 L1 486 0 0 (v.toInt64)) P1 E1 c1 s1) = some (.inl (some (vi v)), (mm n I2 L2 P2 E2 c2 s2))) (ht : I2 186 0 0 = 0) (hl : L2 486 0 0 = v.toInt64) : V PR (d + 2) 374 40 (lvL (nI (6 * t))) [vi (17 : Int32)] (mm n I L P E c s) = V PR (d + 2) 374 23 (lvL (nI (6 * (t + 1)))) [] (mm n I2 L2 P2 E2 c2 s2) := by
  rw [← at6]
  have a1 : arrOk (mm n I1 L1 P1 E1 c1 s1) 486 0 3 0 = true := (aro_486 hE).trans ib_0_1
  have a2 : arrOk (mm n I2 L2 P2 E2 c2 s2) 486 0 3 0 = true := (aro_486 hE2).trans ib_0_1
  have d0 : (!decide ((0 : Int32) = 0)) = false := by decide +kernel
  have d1 : decide ((0 : Int32) = 0) = true := by decide +kernel
  obtain ⟨i1, i2, i3, i4, i5⟩ := sc_in (t := t) hn hN
  simp only [sc, k_L_law_40_17, k_L_vein_0, i1, i2, i3, i4, i5, cond_true, hc, Vk_v, Nat.reduceAdd, k_L_vein_7, b2i_bit, a1, decide_true, Bool.not_true]
  simp only [tn0, hs, i1, i2, i3, i4, i5, cond_true, k_L_law_1304, k_L_law_1316, k_L_law_1322, k_X12_thrown_0, hr, Vk_v, Nat.reduceAdd, ht, d0, d1, a2, cond_true, cond_false, hl, lgc_self, decide_true, Bool.not_true]
theorem vh_345_1 (x : Nat) (rest : List AV) (lv : LVs) (M : Mem) : Vk d 345 4 rest lv (some (.inr (1, x), M)) = V PR (d + 1) 345 13 lv [] M := rfl
theorem ex_17_1 (b : Int32) {x : Nat} (hn : 6 * t + 6 ≤ n) (hN : n ≤ 3072) (hs : ∀ j, I1 0 0 j = I 0 0 j) (hc : V PR d 147 0 [(0, (vR (some (100, 0)))), (1, (vi (sc I t 1)))] [] (mm n I L P E c s) = some (.inr (1, x), (mm n I1 L1 P1 E1 c1 s1))) (hr : V PR (d + 1) 274 0 [(0, (vR (some (186, 0)))), (1, (vi (sc I t 1)))] [] (mm n I1 L1 P1 E1 c1 s1) = some (.inl (some (vi b)), (mm n I2 L2 P2 E2 c2 s2))) (ht : I2 186 0 0 = 1) : V PR (d + 2) 374 40 (lvL (nI (6 * t))) [vi (17 : Int32)] (mm n I L P E c s) = V PR (d + 2) 374 23 (lvL (nI (6 * (t + 1)))) [] (mm n I2 L2 P2 E2 c2 s2) := by
  rw [← at6]
  have d0 : (!decide ((1 : Int32) = 0)) = true := by decide +kernel
  obtain ⟨i1, i2, i3, i4, i5⟩ := sc_in (t := t) hn hN
  simp only [sc, k_L_law_40_17, k_L_vein_0, i1, i2, i3, i4, i5, cond_true, hc, vh_345_1, k_L_vein_13, Vk_v, Nat.reduceAdd]
  simp only [hs, i1, i2, i3, i4, i5, cond_true, k_L_law_1304, k_L_law_1316, k_L_law_1322, k_X12_thrown_0, hr, Vk_v, Nat.reduceAdd, ht, d0, decide_true, cond_true]
theorem ok_18 (v : Int32) (hn : 6 * t + 6 ≤ n) (hN : n ≤ 3072) (hs : ∀ j, I1 0 0 j = I 0 0 j) (hE : E1 486 = (2, 3, 1, 0)) (hE2 : E2 486 = (2, 3, 1, 0)) (hc : V PR d 150 0 [(0, (vR (some (100, 0)))), (1, (vi (sc I t 1))), (2, (vi (sc I t 2)))] [] (mm n I L P E c s) = some (.inl (some (vi v)), (mm n I1 L1 P1 E1 c1 s1))) (hr : V PR (d + 1) 275 0 [(0, (vR (some (186, 0)))), (1, (vi (sc I t 1))), (2, (vi (sc I t 2)))] [] (mm n I1 (up3 L1 486 0 0 (v.toInt64)) P1 E1 c1 s1) = some (.inl (some (vi v)), (mm n I2 L2 P2 E2 c2 s2))) (ht : I2 186 0 0 = 0) (hl : L2 486 0 0 = v.toInt64) : V PR (d + 2) 374 40 (lvL (nI (6 * t))) [vi (18 : Int32)] (mm n I L P E c s) = V PR (d + 2) 374 23 (lvL (nI (6 * (t + 1)))) [] (mm n I2 L2 P2 E2 c2 s2) := by
  rw [← at6]
  have a1 : arrOk (mm n I1 L1 P1 E1 c1 s1) 486 0 3 0 = true := (aro_486 hE).trans ib_0_1
  have a2 : arrOk (mm n I2 L2 P2 E2 c2 s2) 486 0 3 0 = true := (aro_486 hE2).trans ib_0_1
  have d0 : (!decide ((0 : Int32) = 0)) = false := by decide +kernel
  have d1 : decide ((0 : Int32) = 0) = true := by decide +kernel
  obtain ⟨i1, i2, i3, i4, i5⟩ := sc_in (t := t) hn hN
  simp only [sc, k_L_law_40_18, k_L_diary_0, i1, i2, i3, i4, i5, cond_true, hc, Vk_v, Nat.reduceAdd, k_L_diary_8, b2i_bit, a1, decide_true, Bool.not_true]
  simp only [tn0, hs, i1, i2, i3, i4, i5, cond_true, k_L_law_1366, k_L_law_1384, k_L_law_1390, k_X12_thrown_0, hr, Vk_v, Nat.reduceAdd, ht, d0, d1, a2, cond_true, cond_false, hl, lgc_self, decide_true, Bool.not_true]
theorem vh_346_1 (x : Nat) (rest : List AV) (lv : LVs) (M : Mem) : Vk d 346 5 rest lv (some (.inr (1, x), M)) = V PR (d + 1) 346 15 lv [] M := rfl
theorem ex_18_1 (b : Int32) {x : Nat} (hn : 6 * t + 6 ≤ n) (hN : n ≤ 3072) (hs : ∀ j, I1 0 0 j = I 0 0 j) (hc : V PR d 150 0 [(0, (vR (some (100, 0)))), (1, (vi (sc I t 1))), (2, (vi (sc I t 2)))] [] (mm n I L P E c s) = some (.inr (1, x), (mm n I1 L1 P1 E1 c1 s1))) (hr : V PR (d + 1) 275 0 [(0, (vR (some (186, 0)))), (1, (vi (sc I t 1))), (2, (vi (sc I t 2)))] [] (mm n I1 L1 P1 E1 c1 s1) = some (.inl (some (vi b)), (mm n I2 L2 P2 E2 c2 s2))) (ht : I2 186 0 0 = 1) : V PR (d + 2) 374 40 (lvL (nI (6 * t))) [vi (18 : Int32)] (mm n I L P E c s) = V PR (d + 2) 374 23 (lvL (nI (6 * (t + 1)))) [] (mm n I2 L2 P2 E2 c2 s2) := by
  rw [← at6]
  have d0 : (!decide ((1 : Int32) = 0)) = true := by decide +kernel
  obtain ⟨i1, i2, i3, i4, i5⟩ := sc_in (t := t) hn hN
  simp only [sc, k_L_law_40_18, k_L_diary_0, i1, i2, i3, i4, i5, cond_true, hc, vh_346_1, k_L_diary_15, Vk_v, Nat.reduceAdd]
  simp only [hs, i1, i2, i3, i4, i5, cond_true, k_L_law_1366, k_L_law_1384, k_L_law_1390, k_X12_thrown_0, hr, Vk_v, Nat.reduceAdd, ht, d0, decide_true, cond_true]
theorem ok_21 (v : Int32) (hn : 6 * t + 6 ≤ n) (hN : n ≤ 3072) (hs : ∀ j, I1 0 0 j = I 0 0 j) (hE : E1 486 = (2, 3, 1, 0)) (hE2 : E2 486 = (2, 3, 1, 0)) (hc : V PR d 154 0 [(0, (vR (some (100, 0)))), (1, (vi (sc I t 1))), (2, (vi (sc I t 2))), (3, (vi (sc I t 3))), (4, (vi (sc I t 4)))] [] (mm n I L P E c s) = some (.inl (some (vi v)), (mm n I1 L1 P1 E1 c1 s1))) (hr : V PR (d + 1) 278 0 [(0, (vR (some (186, 0)))), (1, (vi (sc I t 1))), (2, (vi (sc I t 2))), (3, (vi (sc I t 3))), (4, (vi (sc I t 4)))] [] (mm n I1 (up3 L1 486 0 0 (v.toInt64)) P1 E1 c1 s1) = some (.inl (some (vi v)), (mm n I2 L2 P2 E2 c2 s2))) (ht : I2 186 0 0 = 0) (hl : L2 486 0 0 = v.toInt64) : V PR (d + 2) 374 40 (lvL (nI (6 * t))) [vi (21 : Int32)] (mm n I L P E c s) = V PR (d + 2) 374 23 (lvL (nI (6 * (t + 1)))) [] (mm n I2 L2 P2 E2 c2 s2) := by
  rw [← at6]
  have a1 : arrOk (mm n I1 L1 P1 E1 c1 s1) 486 0 3 0 = true := (aro_486 hE).trans ib_0_1
  have a2 : arrOk (mm n I2 L2 P2 E2 c2 s2) 486 0 3 0 = true := (aro_486 hE2).trans ib_0_1
  have d0 : (!decide ((0 : Int32) = 0)) = false := by decide +kernel
  have d1 : decide ((0 : Int32) = 0) = true := by decide +kernel
  obtain ⟨i1, i2, i3, i4, i5⟩ := sc_in (t := t) hn hN
  simp only [sc, k_L_law_40_21, k_L_hear_0, i1, i2, i3, i4, i5, cond_true, hc, Vk_v, Nat.reduceAdd, k_L_hear_12, b2i_bit, a1, decide_true, Bool.not_true]
  simp only [tn0, hs, i1, i2, i3, i4, i5, cond_true, k_L_law_1484, k_L_law_1514, k_L_law_1520, k_X12_thrown_0, hr, Vk_v, Nat.reduceAdd, ht, d0, d1, a2, cond_true, cond_false, hl, lgc_self, decide_true, Bool.not_true]
theorem vh_347_0 (x : Nat) (rest : List AV) (lv : LVs) (M : Mem) : Vk d 347 9 rest lv (some (.inr (0, x), M)) = V PR (d + 1) 347 19 lv [] M := rfl
theorem ex_21_0 (b : Int32) {x : Nat} (hn : 6 * t + 6 ≤ n) (hN : n ≤ 3072) (hs : ∀ j, I1 0 0 j = I 0 0 j) (hc : V PR d 154 0 [(0, (vR (some (100, 0)))), (1, (vi (sc I t 1))), (2, (vi (sc I t 2))), (3, (vi (sc I t 3))), (4, (vi (sc I t 4)))] [] (mm n I L P E c s) = some (.inr (0, x), (mm n I1 L1 P1 E1 c1 s1))) (hr : V PR (d + 1) 278 0 [(0, (vR (some (186, 0)))), (1, (vi (sc I t 1))), (2, (vi (sc I t 2))), (3, (vi (sc I t 3))), (4, (vi (sc I t 4)))] [] (mm n I1 L1 P1 E1 c1 s1) = some (.inl (some (vi b)), (mm n I2 L2 P2 E2 c2 s2))) (ht : I2 186 0 0 = 1) : V PR (d + 2) 374 40 (lvL (nI (6 * t))) [vi (21 : Int32)] (mm n I L P E c s) = V PR (d + 2) 374 23 (lvL (nI (6 * (t + 1)))) [] (mm n I2 L2 P2 E2 c2 s2) := by
  rw [← at6]
  have d0 : (!decide ((1 : Int32) = 0)) = true := by decide +kernel
  obtain ⟨i1, i2, i3, i4, i5⟩ := sc_in (t := t) hn hN
  simp only [sc, k_L_law_40_21, k_L_hear_0, i1, i2, i3, i4, i5, cond_true, hc, vh_347_0, k_L_hear_19, Vk_v, Nat.reduceAdd]
  simp only [hs, i1, i2, i3, i4, i5, cond_true, k_L_law_1484, k_L_law_1514, k_L_law_1520, k_X12_thrown_0, hr, Vk_v, Nat.reduceAdd, ht, d0, decide_true, cond_true]
theorem vh_347_1 (x : Nat) (rest : List AV) (lv : LVs) (M : Mem) : Vk d 347 9 rest lv (some (.inr (1, x), M)) = V PR (d + 1) 347 23 lv [] M := rfl
theorem ex_21_1 (b : Int32) {x : Nat} (hn : 6 * t + 6 ≤ n) (hN : n ≤ 3072) (hs : ∀ j, I1 0 0 j = I 0 0 j) (hc : V PR d 154 0 [(0, (vR (some (100, 0)))), (1, (vi (sc I t 1))), (2, (vi (sc I t 2))), (3, (vi (sc I t 3))), (4, (vi (sc I t 4)))] [] (mm n I L P E c s) = some (.inr (1, x), (mm n I1 L1 P1 E1 c1 s1))) (hr : V PR (d + 1) 278 0 [(0, (vR (some (186, 0)))), (1, (vi (sc I t 1))), (2, (vi (sc I t 2))), (3, (vi (sc I t 3))), (4, (vi (sc I t 4)))] [] (mm n I1 L1 P1 E1 c1 s1) = some (.inl (some (vi b)), (mm n I2 L2 P2 E2 c2 s2))) (ht : I2 186 0 0 = 2) : V PR (d + 2) 374 40 (lvL (nI (6 * t))) [vi (21 : Int32)] (mm n I L P E c s) = V PR (d + 2) 374 23 (lvL (nI (6 * (t + 1)))) [] (mm n I2 L2 P2 E2 c2 s2) := by
  rw [← at6]
  have d0 : (!decide ((2 : Int32) = 0)) = true := by decide +kernel
  obtain ⟨i1, i2, i3, i4, i5⟩ := sc_in (t := t) hn hN
  simp only [sc, k_L_law_40_21, k_L_hear_0, i1, i2, i3, i4, i5, cond_true, hc, vh_347_1, k_L_hear_23, Vk_v, Nat.reduceAdd]
  simp only [hs, i1, i2, i3, i4, i5, cond_true, k_L_law_1484, k_L_law_1514, k_L_law_1520, k_X12_thrown_0, hr, Vk_v, Nat.reduceAdd, ht, d0, decide_true, cond_true]
theorem ok_22 (v : Int32) (hn : 6 * t + 6 ≤ n) (hN : n ≤ 3072) (hs : ∀ j, I1 0 0 j = I 0 0 j) (hE : E1 486 = (2, 3, 1, 0)) (hE2 : E2 486 = (2, 3, 1, 0)) (hc : V PR d 155 0 [(0, (vR (some (100, 0)))), (1, (vi (sc I t 1)))] [] (mm n I L P E c s) = some (.inl (some (vi v)), (mm n I1 L1 P1 E1 c1 s1))) (hr : V PR (d + 1) 280 0 [(0, (vR (some (186, 0)))), (1, (vi (sc I t 1)))] [] (mm n I1 (up3 L1 486 0 0 (v.toInt64)) P1 E1 c1 s1) = some (.inl (some (vi v)), (mm n I2 L2 P2 E2 c2 s2))) (ht : I2 186 0 0 = 0) (hl : L2 486 0 0 = v.toInt64) : V PR (d + 2) 374 40 (lvL (nI (6 * t))) [vi (22 : Int32)] (mm n I L P E c s) = V PR (d + 2) 374 23 (lvL (nI (6 * (t + 1)))) [] (mm n I2 L2 P2 E2 c2 s2) := by
  rw [← at6]
  have a1 : arrOk (mm n I1 L1 P1 E1 c1 s1) 486 0 3 0 = true := (aro_486 hE).trans ib_0_1
  have a2 : arrOk (mm n I2 L2 P2 E2 c2 s2) 486 0 3 0 = true := (aro_486 hE2).trans ib_0_1
  have d0 : (!decide ((0 : Int32) = 0)) = false := by decide +kernel
  have d1 : decide ((0 : Int32) = 0) = true := by decide +kernel
  obtain ⟨i1, i2, i3, i4, i5⟩ := sc_in (t := t) hn hN
  simp only [sc, k_L_law_40_22, k_L_hearsay_0, i1, i2, i3, i4, i5, cond_true, hc, Vk_v, Nat.reduceAdd, k_L_hearsay_7, b2i_bit, a1, decide_true, Bool.not_true]
  simp only [tn0, hs, i1, i2, i3, i4, i5, cond_true, k_L_law_1558, k_L_law_1570, k_L_law_1576, k_X12_thrown_0, hr, Vk_v, Nat.reduceAdd, ht, d0, d1, a2, cond_true, cond_false, hl, lgc_self, decide_true, Bool.not_true]
theorem vh_348_1 (x : Nat) (rest : List AV) (lv : LVs) (M : Mem) : Vk d 348 4 rest lv (some (.inr (1, x), M)) = V PR (d + 1) 348 13 lv [] M := rfl
theorem ex_22_1 (b : Int32) {x : Nat} (hn : 6 * t + 6 ≤ n) (hN : n ≤ 3072) (hs : ∀ j, I1 0 0 j = I 0 0 j) (hc : V PR d 155 0 [(0, (vR (some (100, 0)))), (1, (vi (sc I t 1)))] [] (mm n I L P E c s) = some (.inr (1, x), (mm n I1 L1 P1 E1 c1 s1))) (hr : V PR (d + 1) 280 0 [(0, (vR (some (186, 0)))), (1, (vi (sc I t 1)))] [] (mm n I1 L1 P1 E1 c1 s1) = some (.inl (some (vi b)), (mm n I2 L2 P2 E2 c2 s2))) (ht : I2 186 0 0 = 1) : V PR (d + 2) 374 40 (lvL (nI (6 * t))) [vi (22 : Int32)] (mm n I L P E c s) = V PR (d + 2) 374 23 (lvL (nI (6 * (t + 1)))) [] (mm n I2 L2 P2 E2 c2 s2) := by
  rw [← at6]
  have d0 : (!decide ((1 : Int32) = 0)) = true := by decide +kernel
  obtain ⟨i1, i2, i3, i4, i5⟩ := sc_in (t := t) hn hN
  simp only [sc, k_L_law_40_22, k_L_hearsay_0, i1, i2, i3, i4, i5, cond_true, hc, vh_348_1, k_L_hearsay_13, Vk_v, Nat.reduceAdd]
  simp only [hs, i1, i2, i3, i4, i5, cond_true, k_L_law_1558, k_L_law_1570, k_L_law_1576, k_X12_thrown_0, hr, Vk_v, Nat.reduceAdd, ht, d0, decide_true, cond_true]
theorem ok_25 (v : Int32) (hn : 6 * t + 6 ≤ n) (hN : n ≤ 3072) (hs : ∀ j, I1 0 0 j = I 0 0 j) (hE : E1 486 = (2, 3, 1, 0)) (hE2 : E2 486 = (2, 3, 1, 0)) (hc : V PR d 160 0 [(0, (vR (some (100, 0)))), (1, (vi (sc I t 1))), (2, (vi (sc I t 2)))] [] (mm n I L P E c s) = some (.inl (some (vi v)), (mm n I1 L1 P1 E1 c1 s1))) (hr : V PR (d + 1) 285 0 [(0, (vR (some (186, 0)))), (1, (vi (sc I t 1))), (2, (vi (sc I t 2)))] [] (mm n I1 (up3 L1 486 0 0 (v.toInt64)) P1 E1 c1 s1) = some (.inl (some (vi v)), (mm n I2 L2 P2 E2 c2 s2))) (ht : I2 186 0 0 = 0) (hl : L2 486 0 0 = v.toInt64) : V PR (d + 2) 374 40 (lvL (nI (6 * t))) [vi (25 : Int32)] (mm n I L P E c s) = V PR (d + 2) 374 23 (lvL (nI (6 * (t + 1)))) [] (mm n I2 L2 P2 E2 c2 s2) := by
  rw [← at6]
  have a1 : arrOk (mm n I1 L1 P1 E1 c1 s1) 486 0 3 0 = true := (aro_486 hE).trans ib_0_1
  have a2 : arrOk (mm n I2 L2 P2 E2 c2 s2) 486 0 3 0 = true := (aro_486 hE2).trans ib_0_1
  have d0 : (!decide ((0 : Int32) = 0)) = false := by decide +kernel
  have d1 : decide ((0 : Int32) = 0) = true := by decide +kernel
  obtain ⟨i1, i2, i3, i4, i5⟩ := sc_in (t := t) hn hN
  simp only [sc, k_L_law_40_25, k_L_parts_0, i1, i2, i3, i4, i5, cond_true, hc, Vk_v, Nat.reduceAdd, k_L_parts_8, b2i_bit, a1, decide_true, Bool.not_true]
  simp only [tn0, hs, i1, i2, i3, i4, i5, cond_true, k_L_law_1647, k_L_law_1665, k_L_law_1671, k_X12_thrown_0, hr, Vk_v, Nat.reduceAdd, ht, d0, d1, a2, cond_true, cond_false, hl, lgc_self, decide_true, Bool.not_true]
theorem vh_349_1 (x : Nat) (rest : List AV) (lv : LVs) (M : Mem) : Vk d 349 5 rest lv (some (.inr (1, x), M)) = V PR (d + 1) 349 15 lv [] M := rfl
theorem ex_25_1 (b : Int32) {x : Nat} (hn : 6 * t + 6 ≤ n) (hN : n ≤ 3072) (hs : ∀ j, I1 0 0 j = I 0 0 j) (hc : V PR d 160 0 [(0, (vR (some (100, 0)))), (1, (vi (sc I t 1))), (2, (vi (sc I t 2)))] [] (mm n I L P E c s) = some (.inr (1, x), (mm n I1 L1 P1 E1 c1 s1))) (hr : V PR (d + 1) 285 0 [(0, (vR (some (186, 0)))), (1, (vi (sc I t 1))), (2, (vi (sc I t 2)))] [] (mm n I1 L1 P1 E1 c1 s1) = some (.inl (some (vi b)), (mm n I2 L2 P2 E2 c2 s2))) (ht : I2 186 0 0 = 1) : V PR (d + 2) 374 40 (lvL (nI (6 * t))) [vi (25 : Int32)] (mm n I L P E c s) = V PR (d + 2) 374 23 (lvL (nI (6 * (t + 1)))) [] (mm n I2 L2 P2 E2 c2 s2) := by
  rw [← at6]
  have d0 : (!decide ((1 : Int32) = 0)) = true := by decide +kernel
  obtain ⟨i1, i2, i3, i4, i5⟩ := sc_in (t := t) hn hN
  simp only [sc, k_L_law_40_25, k_L_parts_0, i1, i2, i3, i4, i5, cond_true, hc, vh_349_1, k_L_parts_15, Vk_v, Nat.reduceAdd]
  simp only [hs, i1, i2, i3, i4, i5, cond_true, k_L_law_1647, k_L_law_1665, k_L_law_1671, k_X12_thrown_0, hr, Vk_v, Nat.reduceAdd, ht, d0, decide_true, cond_true]
theorem ok_26 (v : Int32) (hn : 6 * t + 6 ≤ n) (hN : n ≤ 3072) (hs : ∀ j, I1 0 0 j = I 0 0 j) (hE : E1 486 = (2, 3, 1, 0)) (hE2 : E2 486 = (2, 3, 1, 0)) (hc : V PR d 161 0 [(0, (vR (some (100, 0)))), (1, (vi (sc I t 1))), (2, (vi (sc I t 2)))] [] (mm n I L P E c s) = some (.inl (some (vi v)), (mm n I1 L1 P1 E1 c1 s1))) (hr : V PR (d + 1) 288 0 [(0, (vR (some (186, 0)))), (1, (vi (sc I t 1))), (2, (vi (sc I t 2)))] [] (mm n I1 (up3 L1 486 0 0 (v.toInt64)) P1 E1 c1 s1) = some (.inl (some (vi v)), (mm n I2 L2 P2 E2 c2 s2))) (ht : I2 186 0 0 = 0) (hl : L2 486 0 0 = v.toInt64) : V PR (d + 2) 374 40 (lvL (nI (6 * t))) [vi (26 : Int32)] (mm n I L P E c s) = V PR (d + 2) 374 23 (lvL (nI (6 * (t + 1)))) [] (mm n I2 L2 P2 E2 c2 s2) := by
  rw [← at6]
  have a1 : arrOk (mm n I1 L1 P1 E1 c1 s1) 486 0 3 0 = true := (aro_486 hE).trans ib_0_1
  have a2 : arrOk (mm n I2 L2 P2 E2 c2 s2) 486 0 3 0 = true := (aro_486 hE2).trans ib_0_1
  have d0 : (!decide ((0 : Int32) = 0)) = false := by decide +kernel
  have d1 : decide ((0 : Int32) = 0) = true := by decide +kernel
  obtain ⟨i1, i2, i3, i4, i5⟩ := sc_in (t := t) hn hN
  simp only [sc, k_L_law_40_26, k_L_enough_0, i1, i2, i3, i4, i5, cond_true, hc, Vk_v, Nat.reduceAdd, k_L_enough_8, b2i_bit, a1, decide_true, Bool.not_true]
  simp only [tn0, hs, i1, i2, i3, i4, i5, cond_true, k_L_law_1715, k_L_law_1733, k_L_law_1739, k_X12_thrown_0, hr, Vk_v, Nat.reduceAdd, ht, d0, d1, a2, cond_true, cond_false, hl, lgc_self, decide_true, Bool.not_true]
theorem vh_350_1 (x : Nat) (rest : List AV) (lv : LVs) (M : Mem) : Vk d 350 5 rest lv (some (.inr (1, x), M)) = V PR (d + 1) 350 15 lv [] M := rfl
theorem ex_26_1 (b : Int32) {x : Nat} (hn : 6 * t + 6 ≤ n) (hN : n ≤ 3072) (hs : ∀ j, I1 0 0 j = I 0 0 j) (hc : V PR d 161 0 [(0, (vR (some (100, 0)))), (1, (vi (sc I t 1))), (2, (vi (sc I t 2)))] [] (mm n I L P E c s) = some (.inr (1, x), (mm n I1 L1 P1 E1 c1 s1))) (hr : V PR (d + 1) 288 0 [(0, (vR (some (186, 0)))), (1, (vi (sc I t 1))), (2, (vi (sc I t 2)))] [] (mm n I1 L1 P1 E1 c1 s1) = some (.inl (some (vi b)), (mm n I2 L2 P2 E2 c2 s2))) (ht : I2 186 0 0 = 1) : V PR (d + 2) 374 40 (lvL (nI (6 * t))) [vi (26 : Int32)] (mm n I L P E c s) = V PR (d + 2) 374 23 (lvL (nI (6 * (t + 1)))) [] (mm n I2 L2 P2 E2 c2 s2) := by
  rw [← at6]
  have d0 : (!decide ((1 : Int32) = 0)) = true := by decide +kernel
  obtain ⟨i1, i2, i3, i4, i5⟩ := sc_in (t := t) hn hN
  simp only [sc, k_L_law_40_26, k_L_enough_0, i1, i2, i3, i4, i5, cond_true, hc, vh_350_1, k_L_enough_15, Vk_v, Nat.reduceAdd]
  simp only [hs, i1, i2, i3, i4, i5, cond_true, k_L_law_1715, k_L_law_1733, k_L_law_1739, k_X12_thrown_0, hr, Vk_v, Nat.reduceAdd, ht, d0, decide_true, cond_true]
theorem ok_27 (v : Int32) (hn : 6 * t + 6 ≤ n) (hN : n ≤ 3072) (hs : ∀ j, I1 0 0 j = I 0 0 j) (hE : E1 486 = (2, 3, 1, 0)) (hE2 : E2 486 = (2, 3, 1, 0)) (hc : V PR d 162 0 [(0, (vR (some (100, 0)))), (1, (vi (sc I t 1))), (2, (vi (sc I t 2)))] [] (mm n I L P E c s) = some (.inl (some (vi v)), (mm n I1 L1 P1 E1 c1 s1))) (hr : V PR (d + 1) 289 0 [(0, (vR (some (186, 0)))), (1, (vi (sc I t 1))), (2, (vi (sc I t 2)))] [] (mm n I1 (up3 L1 486 0 0 (v.toInt64)) P1 E1 c1 s1) = some (.inl (some (vi v)), (mm n I2 L2 P2 E2 c2 s2))) (ht : I2 186 0 0 = 0) (hl : L2 486 0 0 = v.toInt64) : V PR (d + 2) 374 40 (lvL (nI (6 * t))) [vi (27 : Int32)] (mm n I L P E c s) = V PR (d + 2) 374 23 (lvL (nI (6 * (t + 1)))) [] (mm n I2 L2 P2 E2 c2 s2) := by
  rw [← at6]
  have a1 : arrOk (mm n I1 L1 P1 E1 c1 s1) 486 0 3 0 = true := (aro_486 hE).trans ib_0_1
  have a2 : arrOk (mm n I2 L2 P2 E2 c2 s2) 486 0 3 0 = true := (aro_486 hE2).trans ib_0_1
  have d0 : (!decide ((0 : Int32) = 0)) = false := by decide +kernel
  have d1 : decide ((0 : Int32) = 0) = true := by decide +kernel
  obtain ⟨i1, i2, i3, i4, i5⟩ := sc_in (t := t) hn hN
  simp only [sc, k_L_law_40_27, k_L_trick_0, i1, i2, i3, i4, i5, cond_true, hc, Vk_v, Nat.reduceAdd, k_L_trick_8, b2i_bit, a1, decide_true, Bool.not_true]
  simp only [tn0, hs, i1, i2, i3, i4, i5, cond_true, k_L_law_1783, k_L_law_1801, k_L_law_1807, k_X12_thrown_0, hr, Vk_v, Nat.reduceAdd, ht, d0, d1, a2, cond_true, cond_false, hl, lgc_self, decide_true, Bool.not_true]
theorem vh_351_0 (x : Nat) (rest : List AV) (lv : LVs) (M : Mem) : Vk d 351 5 rest lv (some (.inr (0, x), M)) = V PR (d + 1) 351 15 lv [] M := rfl
theorem ex_27_0 (b : Int32) {x : Nat} (hn : 6 * t + 6 ≤ n) (hN : n ≤ 3072) (hs : ∀ j, I1 0 0 j = I 0 0 j) (hc : V PR d 162 0 [(0, (vR (some (100, 0)))), (1, (vi (sc I t 1))), (2, (vi (sc I t 2)))] [] (mm n I L P E c s) = some (.inr (0, x), (mm n I1 L1 P1 E1 c1 s1))) (hr : V PR (d + 1) 289 0 [(0, (vR (some (186, 0)))), (1, (vi (sc I t 1))), (2, (vi (sc I t 2)))] [] (mm n I1 L1 P1 E1 c1 s1) = some (.inl (some (vi b)), (mm n I2 L2 P2 E2 c2 s2))) (ht : I2 186 0 0 = 1) : V PR (d + 2) 374 40 (lvL (nI (6 * t))) [vi (27 : Int32)] (mm n I L P E c s) = V PR (d + 2) 374 23 (lvL (nI (6 * (t + 1)))) [] (mm n I2 L2 P2 E2 c2 s2) := by
  rw [← at6]
  have d0 : (!decide ((1 : Int32) = 0)) = true := by decide +kernel
  obtain ⟨i1, i2, i3, i4, i5⟩ := sc_in (t := t) hn hN
  simp only [sc, k_L_law_40_27, k_L_trick_0, i1, i2, i3, i4, i5, cond_true, hc, vh_351_0, k_L_trick_15, Vk_v, Nat.reduceAdd]
  simp only [hs, i1, i2, i3, i4, i5, cond_true, k_L_law_1783, k_L_law_1801, k_L_law_1807, k_X12_thrown_0, hr, Vk_v, Nat.reduceAdd, ht, d0, decide_true, cond_true]
theorem vh_351_1 (x : Nat) (rest : List AV) (lv : LVs) (M : Mem) : Vk d 351 5 rest lv (some (.inr (1, x), M)) = V PR (d + 1) 351 19 lv [] M := rfl
theorem ex_27_1 (b : Int32) {x : Nat} (hn : 6 * t + 6 ≤ n) (hN : n ≤ 3072) (hs : ∀ j, I1 0 0 j = I 0 0 j) (hc : V PR d 162 0 [(0, (vR (some (100, 0)))), (1, (vi (sc I t 1))), (2, (vi (sc I t 2)))] [] (mm n I L P E c s) = some (.inr (1, x), (mm n I1 L1 P1 E1 c1 s1))) (hr : V PR (d + 1) 289 0 [(0, (vR (some (186, 0)))), (1, (vi (sc I t 1))), (2, (vi (sc I t 2)))] [] (mm n I1 L1 P1 E1 c1 s1) = some (.inl (some (vi b)), (mm n I2 L2 P2 E2 c2 s2))) (ht : I2 186 0 0 = 2) : V PR (d + 2) 374 40 (lvL (nI (6 * t))) [vi (27 : Int32)] (mm n I L P E c s) = V PR (d + 2) 374 23 (lvL (nI (6 * (t + 1)))) [] (mm n I2 L2 P2 E2 c2 s2) := by
  rw [← at6]
  have d0 : (!decide ((2 : Int32) = 0)) = true := by decide +kernel
  obtain ⟨i1, i2, i3, i4, i5⟩ := sc_in (t := t) hn hN
  simp only [sc, k_L_law_40_27, k_L_trick_0, i1, i2, i3, i4, i5, cond_true, hc, vh_351_1, k_L_trick_19, Vk_v, Nat.reduceAdd]
  simp only [hs, i1, i2, i3, i4, i5, cond_true, k_L_law_1783, k_L_law_1801, k_L_law_1807, k_X12_thrown_0, hr, Vk_v, Nat.reduceAdd, ht, d0, decide_true, cond_true]
theorem ok_28 (v : Int32) (hn : 6 * t + 6 ≤ n) (hN : n ≤ 3072) (hs : ∀ j, I1 0 0 j = I 0 0 j) (hE : E1 486 = (2, 3, 1, 0)) (hE2 : E2 486 = (2, 3, 1, 0)) (hc : V PR d 163 0 [(0, (vR (some (100, 0)))), (1, (vi (sc I t 1))), (2, (vi (sc I t 2)))] [] (mm n I L P E c s) = some (.inl (some (vi v)), (mm n I1 L1 P1 E1 c1 s1))) (hr : V PR (d + 1) 291 0 [(0, (vR (some (186, 0)))), (1, (vi (sc I t 1))), (2, (vi (sc I t 2)))] [] (mm n I1 (up3 L1 486 0 0 (v.toInt64)) P1 E1 c1 s1) = some (.inl (some (vi v)), (mm n I2 L2 P2 E2 c2 s2))) (ht : I2 186 0 0 = 0) (hl : L2 486 0 0 = v.toInt64) : V PR (d + 2) 374 40 (lvL (nI (6 * t))) [vi (28 : Int32)] (mm n I L P E c s) = V PR (d + 2) 374 23 (lvL (nI (6 * (t + 1)))) [] (mm n I2 L2 P2 E2 c2 s2) := by
  rw [← at6]
  have a1 : arrOk (mm n I1 L1 P1 E1 c1 s1) 486 0 3 0 = true := (aro_486 hE).trans ib_0_1
  have a2 : arrOk (mm n I2 L2 P2 E2 c2 s2) 486 0 3 0 = true := (aro_486 hE2).trans ib_0_1
  have d0 : (!decide ((0 : Int32) = 0)) = false := by decide +kernel
  have d1 : decide ((0 : Int32) = 0) = true := by decide +kernel
  obtain ⟨i1, i2, i3, i4, i5⟩ := sc_in (t := t) hn hN
  simp only [sc, k_L_law_40_28, k_L_cant_0, i1, i2, i3, i4, i5, cond_true, hc, Vk_v, Nat.reduceAdd, k_L_cant_8, b2i_bit, a1, decide_true, Bool.not_true]
  simp only [tn0, hs, i1, i2, i3, i4, i5, cond_true, k_L_law_1851, k_L_law_1869, k_L_law_1875, k_X12_thrown_0, hr, Vk_v, Nat.reduceAdd, ht, d0, d1, a2, cond_true, cond_false, hl, lgc_self, decide_true, Bool.not_true]
theorem vh_352_1 (x : Nat) (rest : List AV) (lv : LVs) (M : Mem) : Vk d 352 5 rest lv (some (.inr (1, x), M)) = V PR (d + 1) 352 15 lv [] M := rfl
theorem ex_28_1 (b : Int32) {x : Nat} (hn : 6 * t + 6 ≤ n) (hN : n ≤ 3072) (hs : ∀ j, I1 0 0 j = I 0 0 j) (hc : V PR d 163 0 [(0, (vR (some (100, 0)))), (1, (vi (sc I t 1))), (2, (vi (sc I t 2)))] [] (mm n I L P E c s) = some (.inr (1, x), (mm n I1 L1 P1 E1 c1 s1))) (hr : V PR (d + 1) 291 0 [(0, (vR (some (186, 0)))), (1, (vi (sc I t 1))), (2, (vi (sc I t 2)))] [] (mm n I1 L1 P1 E1 c1 s1) = some (.inl (some (vi b)), (mm n I2 L2 P2 E2 c2 s2))) (ht : I2 186 0 0 = 1) : V PR (d + 2) 374 40 (lvL (nI (6 * t))) [vi (28 : Int32)] (mm n I L P E c s) = V PR (d + 2) 374 23 (lvL (nI (6 * (t + 1)))) [] (mm n I2 L2 P2 E2 c2 s2) := by
  rw [← at6]
  have d0 : (!decide ((1 : Int32) = 0)) = true := by decide +kernel
  obtain ⟨i1, i2, i3, i4, i5⟩ := sc_in (t := t) hn hN
  simp only [sc, k_L_law_40_28, k_L_cant_0, i1, i2, i3, i4, i5, cond_true, hc, vh_352_1, k_L_cant_15, Vk_v, Nat.reduceAdd]
  simp only [hs, i1, i2, i3, i4, i5, cond_true, k_L_law_1851, k_L_law_1869, k_L_law_1875, k_X12_thrown_0, hr, Vk_v, Nat.reduceAdd, ht, d0, decide_true, cond_true]
theorem ok_29 (v : Int32) (hn : 6 * t + 6 ≤ n) (hN : n ≤ 3072) (hs : ∀ j, I1 0 0 j = I 0 0 j) (hE : E1 486 = (2, 3, 1, 0)) (hE2 : E2 486 = (2, 3, 1, 0)) (hc : V PR d 164 0 [(0, (vR (some (100, 0)))), (1, (vi (sc I t 1)))] [] (mm n I L P E c s) = some (.inl (some (vi v)), (mm n I1 L1 P1 E1 c1 s1))) (hr : V PR (d + 1) 293 0 [(0, (vR (some (186, 0)))), (1, (vi (sc I t 1)))] [] (mm n I1 (up3 L1 486 0 0 (v.toInt64)) P1 E1 c1 s1) = some (.inl (some (vi v)), (mm n I2 L2 P2 E2 c2 s2))) (ht : I2 186 0 0 = 0) (hl : L2 486 0 0 = v.toInt64) : V PR (d + 2) 374 40 (lvL (nI (6 * t))) [vi (29 : Int32)] (mm n I L P E c s) = V PR (d + 2) 374 23 (lvL (nI (6 * (t + 1)))) [] (mm n I2 L2 P2 E2 c2 s2) := by
  rw [← at6]
  have a1 : arrOk (mm n I1 L1 P1 E1 c1 s1) 486 0 3 0 = true := (aro_486 hE).trans ib_0_1
  have a2 : arrOk (mm n I2 L2 P2 E2 c2 s2) 486 0 3 0 = true := (aro_486 hE2).trans ib_0_1
  have d0 : (!decide ((0 : Int32) = 0)) = false := by decide +kernel
  have d1 : decide ((0 : Int32) = 0) = true := by decide +kernel
  obtain ⟨i1, i2, i3, i4, i5⟩ := sc_in (t := t) hn hN
  simp only [sc, k_L_law_40_29, k_L_atoms_0, i1, i2, i3, i4, i5, cond_true, hc, Vk_v, Nat.reduceAdd, k_L_atoms_7, b2i_bit, a1, decide_true, Bool.not_true]
  simp only [tn0, hs, i1, i2, i3, i4, i5, cond_true, k_L_law_1913, k_L_law_1925, k_L_law_1931, k_X12_thrown_0, hr, Vk_v, Nat.reduceAdd, ht, d0, d1, a2, cond_true, cond_false, hl, lgc_self, decide_true, Bool.not_true]
theorem vh_353_1 (x : Nat) (rest : List AV) (lv : LVs) (M : Mem) : Vk d 353 4 rest lv (some (.inr (1, x), M)) = V PR (d + 1) 353 13 lv [] M := rfl
theorem ex_29_1 (b : Int32) {x : Nat} (hn : 6 * t + 6 ≤ n) (hN : n ≤ 3072) (hs : ∀ j, I1 0 0 j = I 0 0 j) (hc : V PR d 164 0 [(0, (vR (some (100, 0)))), (1, (vi (sc I t 1)))] [] (mm n I L P E c s) = some (.inr (1, x), (mm n I1 L1 P1 E1 c1 s1))) (hr : V PR (d + 1) 293 0 [(0, (vR (some (186, 0)))), (1, (vi (sc I t 1)))] [] (mm n I1 L1 P1 E1 c1 s1) = some (.inl (some (vi b)), (mm n I2 L2 P2 E2 c2 s2))) (ht : I2 186 0 0 = 1) : V PR (d + 2) 374 40 (lvL (nI (6 * t))) [vi (29 : Int32)] (mm n I L P E c s) = V PR (d + 2) 374 23 (lvL (nI (6 * (t + 1)))) [] (mm n I2 L2 P2 E2 c2 s2) := by
  rw [← at6]
  have d0 : (!decide ((1 : Int32) = 0)) = true := by decide +kernel
  obtain ⟨i1, i2, i3, i4, i5⟩ := sc_in (t := t) hn hN
  simp only [sc, k_L_law_40_29, k_L_atoms_0, i1, i2, i3, i4, i5, cond_true, hc, vh_353_1, k_L_atoms_13, Vk_v, Nat.reduceAdd]
  simp only [hs, i1, i2, i3, i4, i5, cond_true, k_L_law_1913, k_L_law_1925, k_L_law_1931, k_X12_thrown_0, hr, Vk_v, Nat.reduceAdd, ht, d0, decide_true, cond_true]
theorem ok_30 (v : Int32) (hn : 6 * t + 6 ≤ n) (hN : n ≤ 3072) (hs : ∀ j, I1 0 0 j = I 0 0 j) (hE : E1 486 = (2, 3, 1, 0)) (hE2 : E2 486 = (2, 3, 1, 0)) (hc : V PR d 166 0 [(0, (vR (some (100, 0)))), (1, (vi (sc I t 1))), (2, (vi (sc I t 2))), (3, (vi (sc I t 3)))] [] (mm n I L P E c s) = some (.inl (some (vi v)), (mm n I1 L1 P1 E1 c1 s1))) (hr : V PR (d + 1) 297 0 [(0, (vR (some (186, 0)))), (1, (vi (sc I t 1))), (2, (vi (sc I t 2))), (3, (vi (sc I t 3)))] [] (mm n I1 (up3 L1 486 0 0 (v.toInt64)) P1 E1 c1 s1) = some (.inl (some (vi v)), (mm n I2 L2 P2 E2 c2 s2))) (ht : I2 186 0 0 = 0) (hl : L2 486 0 0 = v.toInt64) : V PR (d + 2) 374 40 (lvL (nI (6 * t))) [vi (30 : Int32)] (mm n I L P E c s) = V PR (d + 2) 374 23 (lvL (nI (6 * (t + 1)))) [] (mm n I2 L2 P2 E2 c2 s2) := by
  rw [← at6]
  have a1 : arrOk (mm n I1 L1 P1 E1 c1 s1) 486 0 3 0 = true := (aro_486 hE).trans ib_0_1
  have a2 : arrOk (mm n I2 L2 P2 E2 c2 s2) 486 0 3 0 = true := (aro_486 hE2).trans ib_0_1
  have d0 : (!decide ((0 : Int32) = 0)) = false := by decide +kernel
  have d1 : decide ((0 : Int32) = 0) = true := by decide +kernel
  obtain ⟨i1, i2, i3, i4, i5⟩ := sc_in (t := t) hn hN
  simp only [sc, k_L_law_40_30, k_L_plan_0, i1, i2, i3, i4, i5, cond_true, hc, Vk_v, Nat.reduceAdd, k_L_plan_10, b2i_bit, a1, decide_true, Bool.not_true]
  simp only [tn0, hs, i1, i2, i3, i4, i5, cond_true, k_L_law_1981, k_L_law_2005, k_L_law_2011, k_X12_thrown_0, hr, Vk_v, Nat.reduceAdd, ht, d0, d1, a2, cond_true, cond_false, hl, lgc_self, decide_true, Bool.not_true]
theorem vh_354_0 (x : Nat) (rest : List AV) (lv : LVs) (M : Mem) : Vk d 354 7 rest lv (some (.inr (0, x), M)) = V PR (d + 1) 354 17 lv [] M := rfl
theorem ex_30_0 (b : Int32) {x : Nat} (hn : 6 * t + 6 ≤ n) (hN : n ≤ 3072) (hs : ∀ j, I1 0 0 j = I 0 0 j) (hc : V PR d 166 0 [(0, (vR (some (100, 0)))), (1, (vi (sc I t 1))), (2, (vi (sc I t 2))), (3, (vi (sc I t 3)))] [] (mm n I L P E c s) = some (.inr (0, x), (mm n I1 L1 P1 E1 c1 s1))) (hr : V PR (d + 1) 297 0 [(0, (vR (some (186, 0)))), (1, (vi (sc I t 1))), (2, (vi (sc I t 2))), (3, (vi (sc I t 3)))] [] (mm n I1 L1 P1 E1 c1 s1) = some (.inl (some (vi b)), (mm n I2 L2 P2 E2 c2 s2))) (ht : I2 186 0 0 = 1) : V PR (d + 2) 374 40 (lvL (nI (6 * t))) [vi (30 : Int32)] (mm n I L P E c s) = V PR (d + 2) 374 23 (lvL (nI (6 * (t + 1)))) [] (mm n I2 L2 P2 E2 c2 s2) := by
  rw [← at6]
  have d0 : (!decide ((1 : Int32) = 0)) = true := by decide +kernel
  obtain ⟨i1, i2, i3, i4, i5⟩ := sc_in (t := t) hn hN
  simp only [sc, k_L_law_40_30, k_L_plan_0, i1, i2, i3, i4, i5, cond_true, hc, vh_354_0, k_L_plan_17, Vk_v, Nat.reduceAdd]
  simp only [hs, i1, i2, i3, i4, i5, cond_true, k_L_law_1981, k_L_law_2005, k_L_law_2011, k_X12_thrown_0, hr, Vk_v, Nat.reduceAdd, ht, d0, decide_true, cond_true]
theorem vh_354_1 (x : Nat) (rest : List AV) (lv : LVs) (M : Mem) : Vk d 354 7 rest lv (some (.inr (1, x), M)) = V PR (d + 1) 354 21 lv [] M := rfl
theorem ex_30_1 (b : Int32) {x : Nat} (hn : 6 * t + 6 ≤ n) (hN : n ≤ 3072) (hs : ∀ j, I1 0 0 j = I 0 0 j) (hc : V PR d 166 0 [(0, (vR (some (100, 0)))), (1, (vi (sc I t 1))), (2, (vi (sc I t 2))), (3, (vi (sc I t 3)))] [] (mm n I L P E c s) = some (.inr (1, x), (mm n I1 L1 P1 E1 c1 s1))) (hr : V PR (d + 1) 297 0 [(0, (vR (some (186, 0)))), (1, (vi (sc I t 1))), (2, (vi (sc I t 2))), (3, (vi (sc I t 3)))] [] (mm n I1 L1 P1 E1 c1 s1) = some (.inl (some (vi b)), (mm n I2 L2 P2 E2 c2 s2))) (ht : I2 186 0 0 = 2) : V PR (d + 2) 374 40 (lvL (nI (6 * t))) [vi (30 : Int32)] (mm n I L P E c s) = V PR (d + 2) 374 23 (lvL (nI (6 * (t + 1)))) [] (mm n I2 L2 P2 E2 c2 s2) := by
  rw [← at6]
  have d0 : (!decide ((2 : Int32) = 0)) = true := by decide +kernel
  obtain ⟨i1, i2, i3, i4, i5⟩ := sc_in (t := t) hn hN
  simp only [sc, k_L_law_40_30, k_L_plan_0, i1, i2, i3, i4, i5, cond_true, hc, vh_354_1, k_L_plan_21, Vk_v, Nat.reduceAdd]
  simp only [hs, i1, i2, i3, i4, i5, cond_true, k_L_law_1981, k_L_law_2005, k_L_law_2011, k_X12_thrown_0, hr, Vk_v, Nat.reduceAdd, ht, d0, decide_true, cond_true]
theorem ok_31 (v : Int32) (hn : 6 * t + 6 ≤ n) (hN : n ≤ 3072) (hs : ∀ j, I1 0 0 j = I 0 0 j) (hE : E1 486 = (2, 3, 1, 0)) (hE2 : E2 486 = (2, 3, 1, 0)) (hc : V PR d 167 0 [(0, (vR (some (100, 0)))), (1, (vi (sc I t 1))), (2, (vi (sc I t 2)))] [] (mm n I L P E c s) = some (.inl (some (vi v)), (mm n I1 L1 P1 E1 c1 s1))) (hr : V PR (d + 1) 298 0 [(0, (vR (some (186, 0)))), (1, (vi (sc I t 1))), (2, (vi (sc I t 2)))] [] (mm n I1 (up3 L1 486 0 0 (v.toInt64)) P1 E1 c1 s1) = some (.inl (some (vi v)), (mm n I2 L2 P2 E2 c2 s2))) (ht : I2 186 0 0 = 0) (hl : L2 486 0 0 = v.toInt64) : V PR (d + 2) 374 40 (lvL (nI (6 * t))) [vi (31 : Int32)] (mm n I L P E c s) = V PR (d + 2) 374 23 (lvL (nI (6 * (t + 1)))) [] (mm n I2 L2 P2 E2 c2 s2) := by
  rw [← at6]
  have a1 : arrOk (mm n I1 L1 P1 E1 c1 s1) 486 0 3 0 = true := (aro_486 hE).trans ib_0_1
  have a2 : arrOk (mm n I2 L2 P2 E2 c2 s2) 486 0 3 0 = true := (aro_486 hE2).trans ib_0_1
  have d0 : (!decide ((0 : Int32) = 0)) = false := by decide +kernel
  have d1 : decide ((0 : Int32) = 0) = true := by decide +kernel
  obtain ⟨i1, i2, i3, i4, i5⟩ := sc_in (t := t) hn hN
  simp only [sc, k_L_law_40_31, k_L_yes_0, i1, i2, i3, i4, i5, cond_true, hc, Vk_v, Nat.reduceAdd, k_L_yes_8, b2i_bit, a1, decide_true, Bool.not_true]
  simp only [tn0, hs, i1, i2, i3, i4, i5, cond_true, k_L_law_2055, k_L_law_2073, k_L_law_2079, k_X12_thrown_0, hr, Vk_v, Nat.reduceAdd, ht, d0, d1, a2, cond_true, cond_false, hl, lgc_self, decide_true, Bool.not_true]
theorem vh_355_0 (x : Nat) (rest : List AV) (lv : LVs) (M : Mem) : Vk d 355 5 rest lv (some (.inr (0, x), M)) = V PR (d + 1) 355 15 lv [] M := rfl
theorem ex_31_0 (b : Int32) {x : Nat} (hn : 6 * t + 6 ≤ n) (hN : n ≤ 3072) (hs : ∀ j, I1 0 0 j = I 0 0 j) (hc : V PR d 167 0 [(0, (vR (some (100, 0)))), (1, (vi (sc I t 1))), (2, (vi (sc I t 2)))] [] (mm n I L P E c s) = some (.inr (0, x), (mm n I1 L1 P1 E1 c1 s1))) (hr : V PR (d + 1) 298 0 [(0, (vR (some (186, 0)))), (1, (vi (sc I t 1))), (2, (vi (sc I t 2)))] [] (mm n I1 L1 P1 E1 c1 s1) = some (.inl (some (vi b)), (mm n I2 L2 P2 E2 c2 s2))) (ht : I2 186 0 0 = 1) : V PR (d + 2) 374 40 (lvL (nI (6 * t))) [vi (31 : Int32)] (mm n I L P E c s) = V PR (d + 2) 374 23 (lvL (nI (6 * (t + 1)))) [] (mm n I2 L2 P2 E2 c2 s2) := by
  rw [← at6]
  have d0 : (!decide ((1 : Int32) = 0)) = true := by decide +kernel
  obtain ⟨i1, i2, i3, i4, i5⟩ := sc_in (t := t) hn hN
  simp only [sc, k_L_law_40_31, k_L_yes_0, i1, i2, i3, i4, i5, cond_true, hc, vh_355_0, k_L_yes_15, Vk_v, Nat.reduceAdd]
  simp only [hs, i1, i2, i3, i4, i5, cond_true, k_L_law_2055, k_L_law_2073, k_L_law_2079, k_X12_thrown_0, hr, Vk_v, Nat.reduceAdd, ht, d0, decide_true, cond_true]
theorem vh_355_1 (x : Nat) (rest : List AV) (lv : LVs) (M : Mem) : Vk d 355 5 rest lv (some (.inr (1, x), M)) = V PR (d + 1) 355 19 lv [] M := rfl
theorem ex_31_1 (b : Int32) {x : Nat} (hn : 6 * t + 6 ≤ n) (hN : n ≤ 3072) (hs : ∀ j, I1 0 0 j = I 0 0 j) (hc : V PR d 167 0 [(0, (vR (some (100, 0)))), (1, (vi (sc I t 1))), (2, (vi (sc I t 2)))] [] (mm n I L P E c s) = some (.inr (1, x), (mm n I1 L1 P1 E1 c1 s1))) (hr : V PR (d + 1) 298 0 [(0, (vR (some (186, 0)))), (1, (vi (sc I t 1))), (2, (vi (sc I t 2)))] [] (mm n I1 L1 P1 E1 c1 s1) = some (.inl (some (vi b)), (mm n I2 L2 P2 E2 c2 s2))) (ht : I2 186 0 0 = 2) : V PR (d + 2) 374 40 (lvL (nI (6 * t))) [vi (31 : Int32)] (mm n I L P E c s) = V PR (d + 2) 374 23 (lvL (nI (6 * (t + 1)))) [] (mm n I2 L2 P2 E2 c2 s2) := by
  rw [← at6]
  have d0 : (!decide ((2 : Int32) = 0)) = true := by decide +kernel
  obtain ⟨i1, i2, i3, i4, i5⟩ := sc_in (t := t) hn hN
  simp only [sc, k_L_law_40_31, k_L_yes_0, i1, i2, i3, i4, i5, cond_true, hc, vh_355_1, k_L_yes_19, Vk_v, Nat.reduceAdd]
  simp only [hs, i1, i2, i3, i4, i5, cond_true, k_L_law_2055, k_L_law_2073, k_L_law_2079, k_X12_thrown_0, hr, Vk_v, Nat.reduceAdd, ht, d0, decide_true, cond_true]
theorem ok_32 (v : Int32) (hn : 6 * t + 6 ≤ n) (hN : n ≤ 3072) (hs : ∀ j, I1 0 0 j = I 0 0 j) (hE : E1 486 = (2, 3, 1, 0)) (hE2 : E2 486 = (2, 3, 1, 0)) (hc : V PR d 168 0 [(0, (vR (some (100, 0)))), (1, (vi (sc I t 1))), (2, (vi (sc I t 2))), (3, (vi (sc I t 3)))] [] (mm n I L P E c s) = some (.inl (some (vi v)), (mm n I1 L1 P1 E1 c1 s1))) (hr : V PR (d + 1) 299 0 [(0, (vR (some (186, 0)))), (1, (vi (sc I t 1))), (2, (vi (sc I t 2))), (3, (vi (sc I t 3)))] [] (mm n I1 (up3 L1 486 0 0 (v.toInt64)) P1 E1 c1 s1) = some (.inl (some (vi v)), (mm n I2 L2 P2 E2 c2 s2))) (ht : I2 186 0 0 = 0) (hl : L2 486 0 0 = v.toInt64) : V PR (d + 2) 374 40 (lvL (nI (6 * t))) [vi (32 : Int32)] (mm n I L P E c s) = V PR (d + 2) 374 23 (lvL (nI (6 * (t + 1)))) [] (mm n I2 L2 P2 E2 c2 s2) := by
  rw [← at6]
  have a1 : arrOk (mm n I1 L1 P1 E1 c1 s1) 486 0 3 0 = true := (aro_486 hE).trans ib_0_1
  have a2 : arrOk (mm n I2 L2 P2 E2 c2 s2) 486 0 3 0 = true := (aro_486 hE2).trans ib_0_1
  have d0 : (!decide ((0 : Int32) = 0)) = false := by decide +kernel
  have d1 : decide ((0 : Int32) = 0) = true := by decide +kernel
  obtain ⟨i1, i2, i3, i4, i5⟩ := sc_in (t := t) hn hN
  simp only [sc, k_L_law_40_32, k_L_alike_0, i1, i2, i3, i4, i5, cond_true, hc, Vk_v, Nat.reduceAdd, k_L_alike_10, b2i_bit, a1, decide_true, Bool.not_true]
  simp only [tn0, hs, i1, i2, i3, i4, i5, cond_true, k_L_law_2129, k_L_law_2153, k_L_law_2159, k_X12_thrown_0, hr, Vk_v, Nat.reduceAdd, ht, d0, d1, a2, cond_true, cond_false, hl, lgc_self, decide_true, Bool.not_true]
theorem vh_356_1 (x : Nat) (rest : List AV) (lv : LVs) (M : Mem) : Vk d 356 7 rest lv (some (.inr (1, x), M)) = V PR (d + 1) 356 17 lv [] M := rfl
theorem ex_32_1 (b : Int32) {x : Nat} (hn : 6 * t + 6 ≤ n) (hN : n ≤ 3072) (hs : ∀ j, I1 0 0 j = I 0 0 j) (hc : V PR d 168 0 [(0, (vR (some (100, 0)))), (1, (vi (sc I t 1))), (2, (vi (sc I t 2))), (3, (vi (sc I t 3)))] [] (mm n I L P E c s) = some (.inr (1, x), (mm n I1 L1 P1 E1 c1 s1))) (hr : V PR (d + 1) 299 0 [(0, (vR (some (186, 0)))), (1, (vi (sc I t 1))), (2, (vi (sc I t 2))), (3, (vi (sc I t 3)))] [] (mm n I1 L1 P1 E1 c1 s1) = some (.inl (some (vi b)), (mm n I2 L2 P2 E2 c2 s2))) (ht : I2 186 0 0 = 1) : V PR (d + 2) 374 40 (lvL (nI (6 * t))) [vi (32 : Int32)] (mm n I L P E c s) = V PR (d + 2) 374 23 (lvL (nI (6 * (t + 1)))) [] (mm n I2 L2 P2 E2 c2 s2) := by
  rw [← at6]
  have d0 : (!decide ((1 : Int32) = 0)) = true := by decide +kernel
  obtain ⟨i1, i2, i3, i4, i5⟩ := sc_in (t := t) hn hN
  simp only [sc, k_L_law_40_32, k_L_alike_0, i1, i2, i3, i4, i5, cond_true, hc, vh_356_1, k_L_alike_17, Vk_v, Nat.reduceAdd]
  simp only [hs, i1, i2, i3, i4, i5, cond_true, k_L_law_2129, k_L_law_2153, k_L_law_2159, k_X12_thrown_0, hr, Vk_v, Nat.reduceAdd, ht, d0, decide_true, cond_true]
theorem ok_33 (v : Int32) (hn : 6 * t + 6 ≤ n) (hN : n ≤ 3072) (hs : ∀ j, I1 0 0 j = I 0 0 j) (hE : E1 486 = (2, 3, 1, 0)) (hE2 : E2 486 = (2, 3, 1, 0)) (hc : V PR d 171 0 [(0, (vR (some (100, 0)))), (1, (vi (sc I t 1))), (2, (vi (sc I t 2))), (3, (vi (sc I t 3)))] [] (mm n I L P E c s) = some (.inl (some (vi v)), (mm n I1 L1 P1 E1 c1 s1))) (hr : V PR (d + 1) 302 0 [(0, (vR (some (186, 0)))), (1, (vi (sc I t 1))), (2, (vi (sc I t 2))), (3, (vi (sc I t 3)))] [] (mm n I1 (up3 L1 486 0 0 (v.toInt64)) P1 E1 c1 s1) = some (.inl (some (vi v)), (mm n I2 L2 P2 E2 c2 s2))) (ht : I2 186 0 0 = 0) (hl : L2 486 0 0 = v.toInt64) : V PR (d + 2) 374 40 (lvL (nI (6 * t))) [vi (33 : Int32)] (mm n I L P E c s) = V PR (d + 2) 374 23 (lvL (nI (6 * (t + 1)))) [] (mm n I2 L2 P2 E2 c2 s2) := by
  rw [← at6]
  have a1 : arrOk (mm n I1 L1 P1 E1 c1 s1) 486 0 3 0 = true := (aro_486 hE).trans ib_0_1
  have a2 : arrOk (mm n I2 L2 P2 E2 c2 s2) 486 0 3 0 = true := (aro_486 hE2).trans ib_0_1
  have d0 : (!decide ((0 : Int32) = 0)) = false := by decide +kernel
  have d1 : decide ((0 : Int32) = 0) = true := by decide +kernel
  obtain ⟨i1, i2, i3, i4, i5⟩ := sc_in (t := t) hn hN
  simp only [sc, k_L_law_40_33, k_L_riders_0, i1, i2, i3, i4, i5, cond_true, hc, Vk_v, Nat.reduceAdd, k_L_riders_10, b2i_bit, a1, decide_true, Bool.not_true]
  simp only [tn0, hs, i1, i2, i3, i4, i5, cond_true, k_L_law_2209, k_L_law_2233, k_L_law_2239, k_X12_thrown_0, hr, Vk_v, Nat.reduceAdd, ht, d0, d1, a2, cond_true, cond_false, hl, lgc_self, decide_true, Bool.not_true]
theorem vh_357_0 (x : Nat) (rest : List AV) (lv : LVs) (M : Mem) : Vk d 357 7 rest lv (some (.inr (0, x), M)) = V PR (d + 1) 357 17 lv [] M := rfl
theorem ex_33_0 (b : Int32) {x : Nat} (hn : 6 * t + 6 ≤ n) (hN : n ≤ 3072) (hs : ∀ j, I1 0 0 j = I 0 0 j) (hc : V PR d 171 0 [(0, (vR (some (100, 0)))), (1, (vi (sc I t 1))), (2, (vi (sc I t 2))), (3, (vi (sc I t 3)))] [] (mm n I L P E c s) = some (.inr (0, x), (mm n I1 L1 P1 E1 c1 s1))) (hr : V PR (d + 1) 302 0 [(0, (vR (some (186, 0)))), (1, (vi (sc I t 1))), (2, (vi (sc I t 2))), (3, (vi (sc I t 3)))] [] (mm n I1 L1 P1 E1 c1 s1) = some (.inl (some (vi b)), (mm n I2 L2 P2 E2 c2 s2))) (ht : I2 186 0 0 = 1) : V PR (d + 2) 374 40 (lvL (nI (6 * t))) [vi (33 : Int32)] (mm n I L P E c s) = V PR (d + 2) 374 23 (lvL (nI (6 * (t + 1)))) [] (mm n I2 L2 P2 E2 c2 s2) := by
  rw [← at6]
  have d0 : (!decide ((1 : Int32) = 0)) = true := by decide +kernel
  obtain ⟨i1, i2, i3, i4, i5⟩ := sc_in (t := t) hn hN
  simp only [sc, k_L_law_40_33, k_L_riders_0, i1, i2, i3, i4, i5, cond_true, hc, vh_357_0, k_L_riders_17, Vk_v, Nat.reduceAdd]
  simp only [hs, i1, i2, i3, i4, i5, cond_true, k_L_law_2209, k_L_law_2233, k_L_law_2239, k_X12_thrown_0, hr, Vk_v, Nat.reduceAdd, ht, d0, decide_true, cond_true]
theorem vh_357_1 (x : Nat) (rest : List AV) (lv : LVs) (M : Mem) : Vk d 357 7 rest lv (some (.inr (1, x), M)) = V PR (d + 1) 357 21 lv [] M := rfl
theorem ex_33_1 (b : Int32) {x : Nat} (hn : 6 * t + 6 ≤ n) (hN : n ≤ 3072) (hs : ∀ j, I1 0 0 j = I 0 0 j) (hc : V PR d 171 0 [(0, (vR (some (100, 0)))), (1, (vi (sc I t 1))), (2, (vi (sc I t 2))), (3, (vi (sc I t 3)))] [] (mm n I L P E c s) = some (.inr (1, x), (mm n I1 L1 P1 E1 c1 s1))) (hr : V PR (d + 1) 302 0 [(0, (vR (some (186, 0)))), (1, (vi (sc I t 1))), (2, (vi (sc I t 2))), (3, (vi (sc I t 3)))] [] (mm n I1 L1 P1 E1 c1 s1) = some (.inl (some (vi b)), (mm n I2 L2 P2 E2 c2 s2))) (ht : I2 186 0 0 = 2) : V PR (d + 2) 374 40 (lvL (nI (6 * t))) [vi (33 : Int32)] (mm n I L P E c s) = V PR (d + 2) 374 23 (lvL (nI (6 * (t + 1)))) [] (mm n I2 L2 P2 E2 c2 s2) := by
  rw [← at6]
  have d0 : (!decide ((2 : Int32) = 0)) = true := by decide +kernel
  obtain ⟨i1, i2, i3, i4, i5⟩ := sc_in (t := t) hn hN
  simp only [sc, k_L_law_40_33, k_L_riders_0, i1, i2, i3, i4, i5, cond_true, hc, vh_357_1, k_L_riders_21, Vk_v, Nat.reduceAdd]
  simp only [hs, i1, i2, i3, i4, i5, cond_true, k_L_law_2209, k_L_law_2233, k_L_law_2239, k_X12_thrown_0, hr, Vk_v, Nat.reduceAdd, ht, d0, decide_true, cond_true]
theorem ok_34 (v : Int32) (hn : 6 * t + 6 ≤ n) (hN : n ≤ 3072) (hs : ∀ j, I1 0 0 j = I 0 0 j) (hE : E1 486 = (2, 3, 1, 0)) (hE2 : E2 486 = (2, 3, 1, 0)) (hc : V PR d 173 0 [(0, (vR (some (100, 0)))), (1, (vi (sc I t 1))), (2, (vi (sc I t 2))), (3, (vi (sc I t 3)))] [] (mm n I L P E c s) = some (.inl (some (vi v)), (mm n I1 L1 P1 E1 c1 s1))) (hr : V PR (d + 1) 303 0 [(0, (vR (some (186, 0)))), (1, (vi (sc I t 1))), (2, (vi (sc I t 2))), (3, (vi (sc I t 3)))] [] (mm n I1 (up3 L1 486 0 0 (v.toInt64)) P1 E1 c1 s1) = some (.inl (some (vi v)), (mm n I2 L2 P2 E2 c2 s2))) (ht : I2 186 0 0 = 0) (hl : L2 486 0 0 = v.toInt64) : V PR (d + 2) 374 40 (lvL (nI (6 * t))) [vi (34 : Int32)] (mm n I L P E c s) = V PR (d + 2) 374 23 (lvL (nI (6 * (t + 1)))) [] (mm n I2 L2 P2 E2 c2 s2) := by
  rw [← at6]
  have a1 : arrOk (mm n I1 L1 P1 E1 c1 s1) 486 0 3 0 = true := (aro_486 hE).trans ib_0_1
  have a2 : arrOk (mm n I2 L2 P2 E2 c2 s2) 486 0 3 0 = true := (aro_486 hE2).trans ib_0_1
  have d0 : (!decide ((0 : Int32) = 0)) = false := by decide +kernel
  have d1 : decide ((0 : Int32) = 0) = true := by decide +kernel
  obtain ⟨i1, i2, i3, i4, i5⟩ := sc_in (t := t) hn hN
  simp only [sc, k_L_law_40_34, k_L_offer_0, i1, i2, i3, i4, i5, cond_true, hc, Vk_v, Nat.reduceAdd, k_L_offer_10, b2i_bit, a1, decide_true, Bool.not_true]
  simp only [tn0, hs, i1, i2, i3, i4, i5, cond_true, k_L_law_2289, k_L_law_2313, k_L_law_2319, k_X12_thrown_0, hr, Vk_v, Nat.reduceAdd, ht, d0, d1, a2, cond_true, cond_false, hl, lgc_self, decide_true, Bool.not_true]
theorem vh_358_0 (x : Nat) (rest : List AV) (lv : LVs) (M : Mem) : Vk d 358 7 rest lv (some (.inr (0, x), M)) = V PR (d + 1) 358 17 lv [] M := rfl
theorem ex_34_0 (b : Int32) {x : Nat} (hn : 6 * t + 6 ≤ n) (hN : n ≤ 3072) (hs : ∀ j, I1 0 0 j = I 0 0 j) (hc : V PR d 173 0 [(0, (vR (some (100, 0)))), (1, (vi (sc I t 1))), (2, (vi (sc I t 2))), (3, (vi (sc I t 3)))] [] (mm n I L P E c s) = some (.inr (0, x), (mm n I1 L1 P1 E1 c1 s1))) (hr : V PR (d + 1) 303 0 [(0, (vR (some (186, 0)))), (1, (vi (sc I t 1))), (2, (vi (sc I t 2))), (3, (vi (sc I t 3)))] [] (mm n I1 L1 P1 E1 c1 s1) = some (.inl (some (vi b)), (mm n I2 L2 P2 E2 c2 s2))) (ht : I2 186 0 0 = 1) : V PR (d + 2) 374 40 (lvL (nI (6 * t))) [vi (34 : Int32)] (mm n I L P E c s) = V PR (d + 2) 374 23 (lvL (nI (6 * (t + 1)))) [] (mm n I2 L2 P2 E2 c2 s2) := by
  rw [← at6]
  have d0 : (!decide ((1 : Int32) = 0)) = true := by decide +kernel
  obtain ⟨i1, i2, i3, i4, i5⟩ := sc_in (t := t) hn hN
  simp only [sc, k_L_law_40_34, k_L_offer_0, i1, i2, i3, i4, i5, cond_true, hc, vh_358_0, k_L_offer_17, Vk_v, Nat.reduceAdd]
  simp only [hs, i1, i2, i3, i4, i5, cond_true, k_L_law_2289, k_L_law_2313, k_L_law_2319, k_X12_thrown_0, hr, Vk_v, Nat.reduceAdd, ht, d0, decide_true, cond_true]
theorem vh_358_1 (x : Nat) (rest : List AV) (lv : LVs) (M : Mem) : Vk d 358 7 rest lv (some (.inr (1, x), M)) = V PR (d + 1) 358 21 lv [] M := rfl
theorem ex_34_1 (b : Int32) {x : Nat} (hn : 6 * t + 6 ≤ n) (hN : n ≤ 3072) (hs : ∀ j, I1 0 0 j = I 0 0 j) (hc : V PR d 173 0 [(0, (vR (some (100, 0)))), (1, (vi (sc I t 1))), (2, (vi (sc I t 2))), (3, (vi (sc I t 3)))] [] (mm n I L P E c s) = some (.inr (1, x), (mm n I1 L1 P1 E1 c1 s1))) (hr : V PR (d + 1) 303 0 [(0, (vR (some (186, 0)))), (1, (vi (sc I t 1))), (2, (vi (sc I t 2))), (3, (vi (sc I t 3)))] [] (mm n I1 L1 P1 E1 c1 s1) = some (.inl (some (vi b)), (mm n I2 L2 P2 E2 c2 s2))) (ht : I2 186 0 0 = 2) : V PR (d + 2) 374 40 (lvL (nI (6 * t))) [vi (34 : Int32)] (mm n I L P E c s) = V PR (d + 2) 374 23 (lvL (nI (6 * (t + 1)))) [] (mm n I2 L2 P2 E2 c2 s2) := by
  rw [← at6]
  have d0 : (!decide ((2 : Int32) = 0)) = true := by decide +kernel
  obtain ⟨i1, i2, i3, i4, i5⟩ := sc_in (t := t) hn hN
  simp only [sc, k_L_law_40_34, k_L_offer_0, i1, i2, i3, i4, i5, cond_true, hc, vh_358_1, k_L_offer_21, Vk_v, Nat.reduceAdd]
  simp only [hs, i1, i2, i3, i4, i5, cond_true, k_L_law_2289, k_L_law_2313, k_L_law_2319, k_X12_thrown_0, hr, Vk_v, Nat.reduceAdd, ht, d0, decide_true, cond_true]
theorem ok_35 (v : Int32) (hn : 6 * t + 6 ≤ n) (hN : n ≤ 3072) (hs : ∀ j, I1 0 0 j = I 0 0 j) (hE : E1 486 = (2, 3, 1, 0)) (hE2 : E2 486 = (2, 3, 1, 0)) (hc : V PR d 174 0 [(0, (vR (some (100, 0)))), (1, (vi (sc I t 1))), (2, (vi (sc I t 2)))] [] (mm n I L P E c s) = some (.inl (some (vi v)), (mm n I1 L1 P1 E1 c1 s1))) (hr : V PR (d + 1) 306 0 [(0, (vR (some (186, 0)))), (1, (vi (sc I t 1))), (2, (vi (sc I t 2)))] [] (mm n I1 (up3 L1 486 0 0 (v.toInt64)) P1 E1 c1 s1) = some (.inl (some (vi v)), (mm n I2 L2 P2 E2 c2 s2))) (ht : I2 186 0 0 = 0) (hl : L2 486 0 0 = v.toInt64) : V PR (d + 2) 374 40 (lvL (nI (6 * t))) [vi (35 : Int32)] (mm n I L P E c s) = V PR (d + 2) 374 23 (lvL (nI (6 * (t + 1)))) [] (mm n I2 L2 P2 E2 c2 s2) := by
  rw [← at6]
  have a1 : arrOk (mm n I1 L1 P1 E1 c1 s1) 486 0 3 0 = true := (aro_486 hE).trans ib_0_1
  have a2 : arrOk (mm n I2 L2 P2 E2 c2 s2) 486 0 3 0 = true := (aro_486 hE2).trans ib_0_1
  have d0 : (!decide ((0 : Int32) = 0)) = false := by decide +kernel
  have d1 : decide ((0 : Int32) = 0) = true := by decide +kernel
  obtain ⟨i1, i2, i3, i4, i5⟩ := sc_in (t := t) hn hN
  simp only [sc, k_L_law_40_35, k_L_shared_0, i1, i2, i3, i4, i5, cond_true, hc, Vk_v, Nat.reduceAdd, k_L_shared_8, b2i_bit, a1, decide_true, Bool.not_true]
  simp only [tn0, hs, i1, i2, i3, i4, i5, cond_true, k_L_law_2363, k_L_law_2381, k_L_law_2387, k_X12_thrown_0, hr, Vk_v, Nat.reduceAdd, ht, d0, d1, a2, cond_true, cond_false, hl, lgc_self, decide_true, Bool.not_true]
theorem vh_359_1 (x : Nat) (rest : List AV) (lv : LVs) (M : Mem) : Vk d 359 5 rest lv (some (.inr (1, x), M)) = V PR (d + 1) 359 15 lv [] M := rfl
theorem ex_35_1 (b : Int32) {x : Nat} (hn : 6 * t + 6 ≤ n) (hN : n ≤ 3072) (hs : ∀ j, I1 0 0 j = I 0 0 j) (hc : V PR d 174 0 [(0, (vR (some (100, 0)))), (1, (vi (sc I t 1))), (2, (vi (sc I t 2)))] [] (mm n I L P E c s) = some (.inr (1, x), (mm n I1 L1 P1 E1 c1 s1))) (hr : V PR (d + 1) 306 0 [(0, (vR (some (186, 0)))), (1, (vi (sc I t 1))), (2, (vi (sc I t 2)))] [] (mm n I1 L1 P1 E1 c1 s1) = some (.inl (some (vi b)), (mm n I2 L2 P2 E2 c2 s2))) (ht : I2 186 0 0 = 1) : V PR (d + 2) 374 40 (lvL (nI (6 * t))) [vi (35 : Int32)] (mm n I L P E c s) = V PR (d + 2) 374 23 (lvL (nI (6 * (t + 1)))) [] (mm n I2 L2 P2 E2 c2 s2) := by
  rw [← at6]
  have d0 : (!decide ((1 : Int32) = 0)) = true := by decide +kernel
  obtain ⟨i1, i2, i3, i4, i5⟩ := sc_in (t := t) hn hN
  simp only [sc, k_L_law_40_35, k_L_shared_0, i1, i2, i3, i4, i5, cond_true, hc, vh_359_1, k_L_shared_15, Vk_v, Nat.reduceAdd]
  simp only [hs, i1, i2, i3, i4, i5, cond_true, k_L_law_2363, k_L_law_2381, k_L_law_2387, k_X12_thrown_0, hr, Vk_v, Nat.reduceAdd, ht, d0, decide_true, cond_true]
theorem ok_36 (v : Int32) (hn : 6 * t + 6 ≤ n) (hN : n ≤ 3072) (hs : ∀ j, I1 0 0 j = I 0 0 j) (hE : E1 486 = (2, 3, 1, 0)) (hE2 : E2 486 = (2, 3, 1, 0)) (hc : V PR d 175 0 [(0, (vR (some (100, 0)))), (1, (vi (sc I t 1))), (2, (vi (sc I t 2)))] [] (mm n I L P E c s) = some (.inl (some (vi v)), (mm n I1 L1 P1 E1 c1 s1))) (hr : V PR (d + 1) 307 0 [(0, (vR (some (186, 0)))), (1, (vi (sc I t 1))), (2, (vi (sc I t 2)))] [] (mm n I1 (up3 L1 486 0 0 (v.toInt64)) P1 E1 c1 s1) = some (.inl (some (vi v)), (mm n I2 L2 P2 E2 c2 s2))) (ht : I2 186 0 0 = 0) (hl : L2 486 0 0 = v.toInt64) : V PR (d + 2) 374 40 (lvL (nI (6 * t))) [vi (36 : Int32)] (mm n I L P E c s) = V PR (d + 2) 374 23 (lvL (nI (6 * (t + 1)))) [] (mm n I2 L2 P2 E2 c2 s2) := by
  rw [← at6]
  have a1 : arrOk (mm n I1 L1 P1 E1 c1 s1) 486 0 3 0 = true := (aro_486 hE).trans ib_0_1
  have a2 : arrOk (mm n I2 L2 P2 E2 c2 s2) 486 0 3 0 = true := (aro_486 hE2).trans ib_0_1
  have d0 : (!decide ((0 : Int32) = 0)) = false := by decide +kernel
  have d1 : decide ((0 : Int32) = 0) = true := by decide +kernel
  obtain ⟨i1, i2, i3, i4, i5⟩ := sc_in (t := t) hn hN
  simp only [sc, k_L_law_40_36, k_L_sold_0, i1, i2, i3, i4, i5, cond_true, hc, Vk_v, Nat.reduceAdd, k_L_sold_8, b2i_bit, a1, decide_true, Bool.not_true]
  simp only [tn0, hs, i1, i2, i3, i4, i5, cond_true, k_L_law_2431, k_L_law_2449, k_L_law_2455, k_X12_thrown_0, hr, Vk_v, Nat.reduceAdd, ht, d0, d1, a2, cond_true, cond_false, hl, lgc_self, decide_true, Bool.not_true]
theorem vh_360_1 (x : Nat) (rest : List AV) (lv : LVs) (M : Mem) : Vk d 360 5 rest lv (some (.inr (1, x), M)) = V PR (d + 1) 360 15 lv [] M := rfl
theorem ex_36_1 (b : Int32) {x : Nat} (hn : 6 * t + 6 ≤ n) (hN : n ≤ 3072) (hs : ∀ j, I1 0 0 j = I 0 0 j) (hc : V PR d 175 0 [(0, (vR (some (100, 0)))), (1, (vi (sc I t 1))), (2, (vi (sc I t 2)))] [] (mm n I L P E c s) = some (.inr (1, x), (mm n I1 L1 P1 E1 c1 s1))) (hr : V PR (d + 1) 307 0 [(0, (vR (some (186, 0)))), (1, (vi (sc I t 1))), (2, (vi (sc I t 2)))] [] (mm n I1 L1 P1 E1 c1 s1) = some (.inl (some (vi b)), (mm n I2 L2 P2 E2 c2 s2))) (ht : I2 186 0 0 = 1) : V PR (d + 2) 374 40 (lvL (nI (6 * t))) [vi (36 : Int32)] (mm n I L P E c s) = V PR (d + 2) 374 23 (lvL (nI (6 * (t + 1)))) [] (mm n I2 L2 P2 E2 c2 s2) := by
  rw [← at6]
  have d0 : (!decide ((1 : Int32) = 0)) = true := by decide +kernel
  obtain ⟨i1, i2, i3, i4, i5⟩ := sc_in (t := t) hn hN
  simp only [sc, k_L_law_40_36, k_L_sold_0, i1, i2, i3, i4, i5, cond_true, hc, vh_360_1, k_L_sold_15, Vk_v, Nat.reduceAdd]
  simp only [hs, i1, i2, i3, i4, i5, cond_true, k_L_law_2431, k_L_law_2449, k_L_law_2455, k_X12_thrown_0, hr, Vk_v, Nat.reduceAdd, ht, d0, decide_true, cond_true]
theorem ok_37 (v : Int32) (hn : 6 * t + 6 ≤ n) (hN : n ≤ 3072) (hs : ∀ j, I1 0 0 j = I 0 0 j) (hE : E1 486 = (2, 3, 1, 0)) (hE2 : E2 486 = (2, 3, 1, 0)) (hc : V PR d 176 0 [(0, (vR (some (100, 0)))), (1, (vi (sc I t 1))), (2, (vi (sc I t 2)))] [] (mm n I L P E c s) = some (.inl (some (vi v)), (mm n I1 L1 P1 E1 c1 s1))) (hr : V PR (d + 1) 309 0 [(0, (vR (some (186, 0)))), (1, (vi (sc I t 1))), (2, (vi (sc I t 2)))] [] (mm n I1 (up3 L1 486 0 0 (v.toInt64)) P1 E1 c1 s1) = some (.inl (some (vi v)), (mm n I2 L2 P2 E2 c2 s2))) (ht : I2 186 0 0 = 0) (hl : L2 486 0 0 = v.toInt64) : V PR (d + 2) 374 40 (lvL (nI (6 * t))) [vi (37 : Int32)] (mm n I L P E c s) = V PR (d + 2) 374 23 (lvL (nI (6 * (t + 1)))) [] (mm n I2 L2 P2 E2 c2 s2) := by
  rw [← at6]
  have a1 : arrOk (mm n I1 L1 P1 E1 c1 s1) 486 0 3 0 = true := (aro_486 hE).trans ib_0_1
  have a2 : arrOk (mm n I2 L2 P2 E2 c2 s2) 486 0 3 0 = true := (aro_486 hE2).trans ib_0_1
  have d0 : (!decide ((0 : Int32) = 0)) = false := by decide +kernel
  have d1 : decide ((0 : Int32) = 0) = true := by decide +kernel
  obtain ⟨i1, i2, i3, i4, i5⟩ := sc_in (t := t) hn hN
  simp only [sc, k_L_law_40_37, k_L_marks_0, i1, i2, i3, i4, i5, cond_true, hc, Vk_v, Nat.reduceAdd, k_L_marks_8, b2i_bit, a1, decide_true, Bool.not_true]
  simp only [tn0, hs, i1, i2, i3, i4, i5, cond_true, k_L_law_2499, k_L_law_2517, k_L_law_2523, k_X12_thrown_0, hr, Vk_v, Nat.reduceAdd, ht, d0, d1, a2, cond_true, cond_false, hl, lgc_self, decide_true, Bool.not_true]
theorem vh_361_1 (x : Nat) (rest : List AV) (lv : LVs) (M : Mem) : Vk d 361 5 rest lv (some (.inr (1, x), M)) = V PR (d + 1) 361 15 lv [] M := rfl
theorem ex_37_1 (b : Int32) {x : Nat} (hn : 6 * t + 6 ≤ n) (hN : n ≤ 3072) (hs : ∀ j, I1 0 0 j = I 0 0 j) (hc : V PR d 176 0 [(0, (vR (some (100, 0)))), (1, (vi (sc I t 1))), (2, (vi (sc I t 2)))] [] (mm n I L P E c s) = some (.inr (1, x), (mm n I1 L1 P1 E1 c1 s1))) (hr : V PR (d + 1) 309 0 [(0, (vR (some (186, 0)))), (1, (vi (sc I t 1))), (2, (vi (sc I t 2)))] [] (mm n I1 L1 P1 E1 c1 s1) = some (.inl (some (vi b)), (mm n I2 L2 P2 E2 c2 s2))) (ht : I2 186 0 0 = 1) : V PR (d + 2) 374 40 (lvL (nI (6 * t))) [vi (37 : Int32)] (mm n I L P E c s) = V PR (d + 2) 374 23 (lvL (nI (6 * (t + 1)))) [] (mm n I2 L2 P2 E2 c2 s2) := by
  rw [← at6]
  have d0 : (!decide ((1 : Int32) = 0)) = true := by decide +kernel
  obtain ⟨i1, i2, i3, i4, i5⟩ := sc_in (t := t) hn hN
  simp only [sc, k_L_law_40_37, k_L_marks_0, i1, i2, i3, i4, i5, cond_true, hc, vh_361_1, k_L_marks_15, Vk_v, Nat.reduceAdd]
  simp only [hs, i1, i2, i3, i4, i5, cond_true, k_L_law_2499, k_L_law_2517, k_L_law_2523, k_X12_thrown_0, hr, Vk_v, Nat.reduceAdd, ht, d0, decide_true, cond_true]
theorem ok_38 (v : Int32) (hn : 6 * t + 6 ≤ n) (hN : n ≤ 3072) (hs : ∀ j, I1 0 0 j = I 0 0 j) (hE : E1 486 = (2, 3, 1, 0)) (hE2 : E2 486 = (2, 3, 1, 0)) (hc : V PR d 177 0 [(0, (vR (some (100, 0)))), (1, (vi (sc I t 1))), (2, (vi (sc I t 2))), (3, (vi (sc I t 3)))] [] (mm n I L P E c s) = some (.inl (some (vi v)), (mm n I1 L1 P1 E1 c1 s1))) (hr : V PR (d + 1) 310 0 [(0, (vR (some (186, 0)))), (1, (vi (sc I t 1))), (2, (vi (sc I t 2))), (3, (vi (sc I t 3)))] [] (mm n I1 (up3 L1 486 0 0 (v.toInt64)) P1 E1 c1 s1) = some (.inl (some (vi v)), (mm n I2 L2 P2 E2 c2 s2))) (ht : I2 186 0 0 = 0) (hl : L2 486 0 0 = v.toInt64) : V PR (d + 2) 374 40 (lvL (nI (6 * t))) [vi (38 : Int32)] (mm n I L P E c s) = V PR (d + 2) 374 23 (lvL (nI (6 * (t + 1)))) [] (mm n I2 L2 P2 E2 c2 s2) := by
  rw [← at6]
  have a1 : arrOk (mm n I1 L1 P1 E1 c1 s1) 486 0 3 0 = true := (aro_486 hE).trans ib_0_1
  have a2 : arrOk (mm n I2 L2 P2 E2 c2 s2) 486 0 3 0 = true := (aro_486 hE2).trans ib_0_1
  have d0 : (!decide ((0 : Int32) = 0)) = false := by decide +kernel
  have d1 : decide ((0 : Int32) = 0) = true := by decide +kernel
  obtain ⟨i1, i2, i3, i4, i5⟩ := sc_in (t := t) hn hN
  simp only [sc, k_L_law_40_38, k_L_code_0, i1, i2, i3, i4, i5, cond_true, hc, Vk_v, Nat.reduceAdd, k_L_code_10, b2i_bit, a1, decide_true, Bool.not_true]
  simp only [tn0, hs, i1, i2, i3, i4, i5, cond_true, k_L_law_2573, k_L_law_2597, k_L_law_2603, k_X12_thrown_0, hr, Vk_v, Nat.reduceAdd, ht, d0, d1, a2, cond_true, cond_false, hl, lgc_self, decide_true, Bool.not_true]
theorem vh_362_1 (x : Nat) (rest : List AV) (lv : LVs) (M : Mem) : Vk d 362 7 rest lv (some (.inr (1, x), M)) = V PR (d + 1) 362 17 lv [] M := rfl
theorem ex_38_1 (b : Int32) {x : Nat} (hn : 6 * t + 6 ≤ n) (hN : n ≤ 3072) (hs : ∀ j, I1 0 0 j = I 0 0 j) (hc : V PR d 177 0 [(0, (vR (some (100, 0)))), (1, (vi (sc I t 1))), (2, (vi (sc I t 2))), (3, (vi (sc I t 3)))] [] (mm n I L P E c s) = some (.inr (1, x), (mm n I1 L1 P1 E1 c1 s1))) (hr : V PR (d + 1) 310 0 [(0, (vR (some (186, 0)))), (1, (vi (sc I t 1))), (2, (vi (sc I t 2))), (3, (vi (sc I t 3)))] [] (mm n I1 L1 P1 E1 c1 s1) = some (.inl (some (vi b)), (mm n I2 L2 P2 E2 c2 s2))) (ht : I2 186 0 0 = 1) : V PR (d + 2) 374 40 (lvL (nI (6 * t))) [vi (38 : Int32)] (mm n I L P E c s) = V PR (d + 2) 374 23 (lvL (nI (6 * (t + 1)))) [] (mm n I2 L2 P2 E2 c2 s2) := by
  rw [← at6]
  have d0 : (!decide ((1 : Int32) = 0)) = true := by decide +kernel
  obtain ⟨i1, i2, i3, i4, i5⟩ := sc_in (t := t) hn hN
  simp only [sc, k_L_law_40_38, k_L_code_0, i1, i2, i3, i4, i5, cond_true, hc, vh_362_1, k_L_code_17, Vk_v, Nat.reduceAdd]
  simp only [hs, i1, i2, i3, i4, i5, cond_true, k_L_law_2573, k_L_law_2597, k_L_law_2603, k_X12_thrown_0, hr, Vk_v, Nat.reduceAdd, ht, d0, decide_true, cond_true]
theorem ok_39 (v : Int32) (hn : 6 * t + 6 ≤ n) (hN : n ≤ 3072) (hs : ∀ j, I1 0 0 j = I 0 0 j) (hE : E1 486 = (2, 3, 1, 0)) (hE2 : E2 486 = (2, 3, 1, 0)) (hc : V PR d 180 0 [(0, (vR (some (100, 0)))), (1, (vi (sc I t 1))), (2, (vi (sc I t 2))), (3, (vi (sc I t 3)))] [] (mm n I L P E c s) = some (.inl (some (vi v)), (mm n I1 L1 P1 E1 c1 s1))) (hr : V PR (d + 1) 312 0 [(0, (vR (some (186, 0)))), (1, (vi (sc I t 1))), (2, (vi (sc I t 2))), (3, (vi (sc I t 3)))] [] (mm n I1 (up3 L1 486 0 0 (v.toInt64)) P1 E1 c1 s1) = some (.inl (some (vi v)), (mm n I2 L2 P2 E2 c2 s2))) (ht : I2 186 0 0 = 0) (hl : L2 486 0 0 = v.toInt64) : V PR (d + 2) 374 40 (lvL (nI (6 * t))) [vi (39 : Int32)] (mm n I L P E c s) = V PR (d + 2) 374 23 (lvL (nI (6 * (t + 1)))) [] (mm n I2 L2 P2 E2 c2 s2) := by
  rw [← at6]
  have a1 : arrOk (mm n I1 L1 P1 E1 c1 s1) 486 0 3 0 = true := (aro_486 hE).trans ib_0_1
  have a2 : arrOk (mm n I2 L2 P2 E2 c2 s2) 486 0 3 0 = true := (aro_486 hE2).trans ib_0_1
  have d0 : (!decide ((0 : Int32) = 0)) = false := by decide +kernel
  have d1 : decide ((0 : Int32) = 0) = true := by decide +kernel
  obtain ⟨i1, i2, i3, i4, i5⟩ := sc_in (t := t) hn hN
  simp only [sc, k_L_law_40_39, k_L_year_0, i1, i2, i3, i4, i5, cond_true, hc, Vk_v, Nat.reduceAdd, k_L_year_10, b2i_bit, a1, decide_true, Bool.not_true]
  simp only [tn0, hs, i1, i2, i3, i4, i5, cond_true, k_L_law_2653, k_L_law_2677, k_L_law_2683, k_X12_thrown_0, hr, Vk_v, Nat.reduceAdd, ht, d0, d1, a2, cond_true, cond_false, hl, lgc_self, decide_true, Bool.not_true]
theorem vh_363_0 (x : Nat) (rest : List AV) (lv : LVs) (M : Mem) : Vk d 363 7 rest lv (some (.inr (0, x), M)) = V PR (d + 1) 363 17 lv [] M := rfl
theorem ex_39_0 (b : Int32) {x : Nat} (hn : 6 * t + 6 ≤ n) (hN : n ≤ 3072) (hs : ∀ j, I1 0 0 j = I 0 0 j) (hc : V PR d 180 0 [(0, (vR (some (100, 0)))), (1, (vi (sc I t 1))), (2, (vi (sc I t 2))), (3, (vi (sc I t 3)))] [] (mm n I L P E c s) = some (.inr (0, x), (mm n I1 L1 P1 E1 c1 s1))) (hr : V PR (d + 1) 312 0 [(0, (vR (some (186, 0)))), (1, (vi (sc I t 1))), (2, (vi (sc I t 2))), (3, (vi (sc I t 3)))] [] (mm n I1 L1 P1 E1 c1 s1) = some (.inl (some (vi b)), (mm n I2 L2 P2 E2 c2 s2))) (ht : I2 186 0 0 = 1) : V PR (d + 2) 374 40 (lvL (nI (6 * t))) [vi (39 : Int32)] (mm n I L P E c s) = V PR (d + 2) 374 23 (lvL (nI (6 * (t + 1)))) [] (mm n I2 L2 P2 E2 c2 s2) := by
  rw [← at6]
  have d0 : (!decide ((1 : Int32) = 0)) = true := by decide +kernel
  obtain ⟨i1, i2, i3, i4, i5⟩ := sc_in (t := t) hn hN
  simp only [sc, k_L_law_40_39, k_L_year_0, i1, i2, i3, i4, i5, cond_true, hc, vh_363_0, k_L_year_17, Vk_v, Nat.reduceAdd]
  simp only [hs, i1, i2, i3, i4, i5, cond_true, k_L_law_2653, k_L_law_2677, k_L_law_2683, k_X12_thrown_0, hr, Vk_v, Nat.reduceAdd, ht, d0, decide_true, cond_true]
theorem vh_363_1 (x : Nat) (rest : List AV) (lv : LVs) (M : Mem) : Vk d 363 7 rest lv (some (.inr (1, x), M)) = V PR (d + 1) 363 21 lv [] M := rfl
theorem ex_39_1 (b : Int32) {x : Nat} (hn : 6 * t + 6 ≤ n) (hN : n ≤ 3072) (hs : ∀ j, I1 0 0 j = I 0 0 j) (hc : V PR d 180 0 [(0, (vR (some (100, 0)))), (1, (vi (sc I t 1))), (2, (vi (sc I t 2))), (3, (vi (sc I t 3)))] [] (mm n I L P E c s) = some (.inr (1, x), (mm n I1 L1 P1 E1 c1 s1))) (hr : V PR (d + 1) 312 0 [(0, (vR (some (186, 0)))), (1, (vi (sc I t 1))), (2, (vi (sc I t 2))), (3, (vi (sc I t 3)))] [] (mm n I1 L1 P1 E1 c1 s1) = some (.inl (some (vi b)), (mm n I2 L2 P2 E2 c2 s2))) (ht : I2 186 0 0 = 2) : V PR (d + 2) 374 40 (lvL (nI (6 * t))) [vi (39 : Int32)] (mm n I L P E c s) = V PR (d + 2) 374 23 (lvL (nI (6 * (t + 1)))) [] (mm n I2 L2 P2 E2 c2 s2) := by
  rw [← at6]
  have d0 : (!decide ((2 : Int32) = 0)) = true := by decide +kernel
  obtain ⟨i1, i2, i3, i4, i5⟩ := sc_in (t := t) hn hN
  simp only [sc, k_L_law_40_39, k_L_year_0, i1, i2, i3, i4, i5, cond_true, hc, vh_363_1, k_L_year_21, Vk_v, Nat.reduceAdd]
  simp only [hs, i1, i2, i3, i4, i5, cond_true, k_L_law_2653, k_L_law_2677, k_L_law_2683, k_X12_thrown_0, hr, Vk_v, Nat.reduceAdd, ht, d0, decide_true, cond_true]
theorem ok_40 (v : Int32) (hn : 6 * t + 6 ≤ n) (hN : n ≤ 3072) (hs : ∀ j, I1 0 0 j = I 0 0 j) (hE : E1 486 = (2, 3, 1, 0)) (hE2 : E2 486 = (2, 3, 1, 0)) (hc : V PR d 181 0 [(0, (vR (some (100, 0)))), (1, (vi (sc I t 1))), (2, (vi (sc I t 2)))] [] (mm n I L P E c s) = some (.inl (some (vi v)), (mm n I1 L1 P1 E1 c1 s1))) (hr : V PR (d + 1) 313 0 [(0, (vR (some (186, 0)))), (1, (vi (sc I t 1))), (2, (vi (sc I t 2)))] [] (mm n I1 (up3 L1 486 0 0 (v.toInt64)) P1 E1 c1 s1) = some (.inl (some (vi v)), (mm n I2 L2 P2 E2 c2 s2))) (ht : I2 186 0 0 = 0) (hl : L2 486 0 0 = v.toInt64) : V PR (d + 2) 374 40 (lvL (nI (6 * t))) [vi (40 : Int32)] (mm n I L P E c s) = V PR (d + 2) 374 23 (lvL (nI (6 * (t + 1)))) [] (mm n I2 L2 P2 E2 c2 s2) := by
  rw [← at6]
  have a1 : arrOk (mm n I1 L1 P1 E1 c1 s1) 486 0 3 0 = true := (aro_486 hE).trans ib_0_1
  have a2 : arrOk (mm n I2 L2 P2 E2 c2 s2) 486 0 3 0 = true := (aro_486 hE2).trans ib_0_1
  have d0 : (!decide ((0 : Int32) = 0)) = false := by decide +kernel
  have d1 : decide ((0 : Int32) = 0) = true := by decide +kernel
  obtain ⟨i1, i2, i3, i4, i5⟩ := sc_in (t := t) hn hN
  simp only [sc, k_L_law_40_40, k_L_drought_0, i1, i2, i3, i4, i5, cond_true, hc, Vk_v, Nat.reduceAdd, k_L_drought_8, b2i_bit, a1, decide_true, Bool.not_true]
  simp only [tn0, hs, i1, i2, i3, i4, i5, cond_true, k_L_law_2727, k_L_law_2745, k_L_law_2751, k_X12_thrown_0, hr, Vk_v, Nat.reduceAdd, ht, d0, d1, a2, cond_true, cond_false, hl, lgc_self, decide_true, Bool.not_true]
theorem vh_364_1 (x : Nat) (rest : List AV) (lv : LVs) (M : Mem) : Vk d 364 5 rest lv (some (.inr (1, x), M)) = V PR (d + 1) 364 15 lv [] M := rfl
theorem ex_40_1 (b : Int32) {x : Nat} (hn : 6 * t + 6 ≤ n) (hN : n ≤ 3072) (hs : ∀ j, I1 0 0 j = I 0 0 j) (hc : V PR d 181 0 [(0, (vR (some (100, 0)))), (1, (vi (sc I t 1))), (2, (vi (sc I t 2)))] [] (mm n I L P E c s) = some (.inr (1, x), (mm n I1 L1 P1 E1 c1 s1))) (hr : V PR (d + 1) 313 0 [(0, (vR (some (186, 0)))), (1, (vi (sc I t 1))), (2, (vi (sc I t 2)))] [] (mm n I1 L1 P1 E1 c1 s1) = some (.inl (some (vi b)), (mm n I2 L2 P2 E2 c2 s2))) (ht : I2 186 0 0 = 1) : V PR (d + 2) 374 40 (lvL (nI (6 * t))) [vi (40 : Int32)] (mm n I L P E c s) = V PR (d + 2) 374 23 (lvL (nI (6 * (t + 1)))) [] (mm n I2 L2 P2 E2 c2 s2) := by
  rw [← at6]
  have d0 : (!decide ((1 : Int32) = 0)) = true := by decide +kernel
  obtain ⟨i1, i2, i3, i4, i5⟩ := sc_in (t := t) hn hN
  simp only [sc, k_L_law_40_40, k_L_drought_0, i1, i2, i3, i4, i5, cond_true, hc, vh_364_1, k_L_drought_15, Vk_v, Nat.reduceAdd]
  simp only [hs, i1, i2, i3, i4, i5, cond_true, k_L_law_2727, k_L_law_2745, k_L_law_2751, k_X12_thrown_0, hr, Vk_v, Nat.reduceAdd, ht, d0, decide_true, cond_true]
theorem ok_41 (v : Int32) (hn : 6 * t + 6 ≤ n) (hN : n ≤ 3072) (hs : ∀ j, I1 0 0 j = I 0 0 j) (hE : E1 486 = (2, 3, 1, 0)) (hE2 : E2 486 = (2, 3, 1, 0)) (hc : V PR d 189 0 [(0, (vR (some (100, 0)))), (1, (vi (sc I t 1)))] [] (mm n I L P E c s) = some (.inl (some (vi v)), (mm n I1 L1 P1 E1 c1 s1))) (hr : V PR (d + 1) 314 0 [(0, (vR (some (186, 0)))), (1, (vi (sc I t 1)))] [] (mm n I1 (up3 L1 486 0 0 (v.toInt64)) P1 E1 c1 s1) = some (.inl (some (vi v)), (mm n I2 L2 P2 E2 c2 s2))) (ht : I2 186 0 0 = 0) (hl : L2 486 0 0 = v.toInt64) : V PR (d + 2) 374 40 (lvL (nI (6 * t))) [vi (41 : Int32)] (mm n I L P E c s) = V PR (d + 2) 374 23 (lvL (nI (6 * (t + 1)))) [] (mm n I2 L2 P2 E2 c2 s2) := by
  rw [← at6]
  have a1 : arrOk (mm n I1 L1 P1 E1 c1 s1) 486 0 3 0 = true := (aro_486 hE).trans ib_0_1
  have a2 : arrOk (mm n I2 L2 P2 E2 c2 s2) 486 0 3 0 = true := (aro_486 hE2).trans ib_0_1
  have d0 : (!decide ((0 : Int32) = 0)) = false := by decide +kernel
  have d1 : decide ((0 : Int32) = 0) = true := by decide +kernel
  obtain ⟨i1, i2, i3, i4, i5⟩ := sc_in (t := t) hn hN
  simp only [sc, k_L_law_40_41, k_L_be_0, i1, i2, i3, i4, i5, cond_true, hc, Vk_v, Nat.reduceAdd, k_L_be_7, b2i_bit, a1, decide_true, Bool.not_true]
  simp only [tn0, hs, i1, i2, i3, i4, i5, cond_true, k_L_law_2789, k_L_law_2801, k_L_law_2807, k_X12_thrown_0, hr, Vk_v, Nat.reduceAdd, ht, d0, d1, a2, cond_true, cond_false, hl, lgc_self, decide_true, Bool.not_true]
theorem vh_365_1 (x : Nat) (rest : List AV) (lv : LVs) (M : Mem) : Vk d 365 4 rest lv (some (.inr (1, x), M)) = V PR (d + 1) 365 13 lv [] M := rfl
theorem ex_41_1 (b : Int32) {x : Nat} (hn : 6 * t + 6 ≤ n) (hN : n ≤ 3072) (hs : ∀ j, I1 0 0 j = I 0 0 j) (hc : V PR d 189 0 [(0, (vR (some (100, 0)))), (1, (vi (sc I t 1)))] [] (mm n I L P E c s) = some (.inr (1, x), (mm n I1 L1 P1 E1 c1 s1))) (hr : V PR (d + 1) 314 0 [(0, (vR (some (186, 0)))), (1, (vi (sc I t 1)))] [] (mm n I1 L1 P1 E1 c1 s1) = some (.inl (some (vi b)), (mm n I2 L2 P2 E2 c2 s2))) (ht : I2 186 0 0 = 1) : V PR (d + 2) 374 40 (lvL (nI (6 * t))) [vi (41 : Int32)] (mm n I L P E c s) = V PR (d + 2) 374 23 (lvL (nI (6 * (t + 1)))) [] (mm n I2 L2 P2 E2 c2 s2) := by
  rw [← at6]
  have d0 : (!decide ((1 : Int32) = 0)) = true := by decide +kernel
  obtain ⟨i1, i2, i3, i4, i5⟩ := sc_in (t := t) hn hN
  simp only [sc, k_L_law_40_41, k_L_be_0, i1, i2, i3, i4, i5, cond_true, hc, vh_365_1, k_L_be_13, Vk_v, Nat.reduceAdd]
  simp only [hs, i1, i2, i3, i4, i5, cond_true, k_L_law_2789, k_L_law_2801, k_L_law_2807, k_X12_thrown_0, hr, Vk_v, Nat.reduceAdd, ht, d0, decide_true, cond_true]
theorem ok_42 (v : Int32) (hn : 6 * t + 6 ≤ n) (hN : n ≤ 3072) (hs : ∀ j, I1 0 0 j = I 0 0 j) (hE : E1 486 = (2, 3, 1, 0)) (hE2 : E2 486 = (2, 3, 1, 0)) (hc : V PR d 165 0 [(0, (vR (some (100, 0)))), (1, (vi (sc I t 1)))] [] (mm n I L P E c s) = some (.inl (some (vi v)), (mm n I1 L1 P1 E1 c1 s1))) (hr : V PR (d + 1) 316 0 [(0, (vR (some (186, 0)))), (1, (vi (sc I t 1)))] [] (mm n I1 (up3 L1 486 0 0 (v.toInt64)) P1 E1 c1 s1) = some (.inl (some (vi v)), (mm n I2 L2 P2 E2 c2 s2))) (ht : I2 186 0 0 = 0) (hl : L2 486 0 0 = v.toInt64) : V PR (d + 2) 374 40 (lvL (nI (6 * t))) [vi (42 : Int32)] (mm n I L P E c s) = V PR (d + 2) 374 23 (lvL (nI (6 * (t + 1)))) [] (mm n I2 L2 P2 E2 c2 s2) := by
  rw [← at6]
  have a1 : arrOk (mm n I1 L1 P1 E1 c1 s1) 486 0 3 0 = true := (aro_486 hE).trans ib_0_1
  have a2 : arrOk (mm n I2 L2 P2 E2 c2 s2) 486 0 3 0 = true := (aro_486 hE2).trans ib_0_1
  have d0 : (!decide ((0 : Int32) = 0)) = false := by decide +kernel
  have d1 : decide ((0 : Int32) = 0) = true := by decide +kernel
  obtain ⟨i1, i2, i3, i4, i5⟩ := sc_in (t := t) hn hN
  simp only [sc, k_L_law_40_42, k_L_spare_0, i1, i2, i3, i4, i5, cond_true, hc, Vk_v, Nat.reduceAdd, k_L_spare_7, b2i_bit, a1, decide_true, Bool.not_true]
  simp only [tn0, hs, i1, i2, i3, i4, i5, cond_true, k_L_law_2845, k_L_law_2857, k_L_law_2863, k_X12_thrown_0, hr, Vk_v, Nat.reduceAdd, ht, d0, d1, a2, cond_true, cond_false, hl, lgc_self, decide_true, Bool.not_true]
theorem vh_366_1 (x : Nat) (rest : List AV) (lv : LVs) (M : Mem) : Vk d 366 4 rest lv (some (.inr (1, x), M)) = V PR (d + 1) 366 13 lv [] M := rfl
theorem ex_42_1 (b : Int32) {x : Nat} (hn : 6 * t + 6 ≤ n) (hN : n ≤ 3072) (hs : ∀ j, I1 0 0 j = I 0 0 j) (hc : V PR d 165 0 [(0, (vR (some (100, 0)))), (1, (vi (sc I t 1)))] [] (mm n I L P E c s) = some (.inr (1, x), (mm n I1 L1 P1 E1 c1 s1))) (hr : V PR (d + 1) 316 0 [(0, (vR (some (186, 0)))), (1, (vi (sc I t 1)))] [] (mm n I1 L1 P1 E1 c1 s1) = some (.inl (some (vi b)), (mm n I2 L2 P2 E2 c2 s2))) (ht : I2 186 0 0 = 1) : V PR (d + 2) 374 40 (lvL (nI (6 * t))) [vi (42 : Int32)] (mm n I L P E c s) = V PR (d + 2) 374 23 (lvL (nI (6 * (t + 1)))) [] (mm n I2 L2 P2 E2 c2 s2) := by
  rw [← at6]
  have d0 : (!decide ((1 : Int32) = 0)) = true := by decide +kernel
  obtain ⟨i1, i2, i3, i4, i5⟩ := sc_in (t := t) hn hN
  simp only [sc, k_L_law_40_42, k_L_spare_0, i1, i2, i3, i4, i5, cond_true, hc, vh_366_1, k_L_spare_13, Vk_v, Nat.reduceAdd]
  simp only [hs, i1, i2, i3, i4, i5, cond_true, k_L_law_2845, k_L_law_2857, k_L_law_2863, k_X12_thrown_0, hr, Vk_v, Nat.reduceAdd, ht, d0, decide_true, cond_true]
theorem ok_43 (v : Int32) (hn : 6 * t + 6 ≤ n) (hN : n ≤ 3072) (hs : ∀ j, I1 0 0 j = I 0 0 j) (hE : E1 486 = (2, 3, 1, 0)) (hE2 : E2 486 = (2, 3, 1, 0)) (hc : V PR d 184 0 [(0, (vR (some (100, 0)))), (1, (vi (sc I t 1))), (2, (vi (sc I t 2)))] [] (mm n I L P E c s) = some (.inl (some (vi v)), (mm n I1 L1 P1 E1 c1 s1))) (hr : V PR (d + 1) 317 0 [(0, (vR (some (186, 0)))), (1, (vi (sc I t 1))), (2, (vi (sc I t 2)))] [] (mm n I1 (up3 L1 486 0 0 (v.toInt64)) P1 E1 c1 s1) = some (.inl (some (vi v)), (mm n I2 L2 P2 E2 c2 s2))) (ht : I2 186 0 0 = 0) (hl : L2 486 0 0 = v.toInt64) : V PR (d + 2) 374 40 (lvL (nI (6 * t))) [vi (43 : Int32)] (mm n I L P E c s) = V PR (d + 2) 374 23 (lvL (nI (6 * (t + 1)))) [] (mm n I2 L2 P2 E2 c2 s2) := by
  rw [← at6]
  have a1 : arrOk (mm n I1 L1 P1 E1 c1 s1) 486 0 3 0 = true := (aro_486 hE).trans ib_0_1
  have a2 : arrOk (mm n I2 L2 P2 E2 c2 s2) 486 0 3 0 = true := (aro_486 hE2).trans ib_0_1
  have d0 : (!decide ((0 : Int32) = 0)) = false := by decide +kernel
  have d1 : decide ((0 : Int32) = 0) = true := by decide +kernel
  obtain ⟨i1, i2, i3, i4, i5⟩ := sc_in (t := t) hn hN
  simp only [sc, k_L_law_40_43, k_L_parting_0, i1, i2, i3, i4, i5, cond_true, hc, Vk_v, Nat.reduceAdd, k_L_parting_8, b2i_bit, a1, decide_true, Bool.not_true]
  simp only [tn0, hs, i1, i2, i3, i4, i5, cond_true, k_L_law_2907, k_L_law_2925, k_L_law_2931, k_X12_thrown_0, hr, Vk_v, Nat.reduceAdd, ht, d0, d1, a2, cond_true, cond_false, hl, lgc_self, decide_true, Bool.not_true]
theorem vh_367_0 (x : Nat) (rest : List AV) (lv : LVs) (M : Mem) : Vk d 367 5 rest lv (some (.inr (0, x), M)) = V PR (d + 1) 367 15 lv [] M := rfl
theorem ex_43_0 (b : Int32) {x : Nat} (hn : 6 * t + 6 ≤ n) (hN : n ≤ 3072) (hs : ∀ j, I1 0 0 j = I 0 0 j) (hc : V PR d 184 0 [(0, (vR (some (100, 0)))), (1, (vi (sc I t 1))), (2, (vi (sc I t 2)))] [] (mm n I L P E c s) = some (.inr (0, x), (mm n I1 L1 P1 E1 c1 s1))) (hr : V PR (d + 1) 317 0 [(0, (vR (some (186, 0)))), (1, (vi (sc I t 1))), (2, (vi (sc I t 2)))] [] (mm n I1 L1 P1 E1 c1 s1) = some (.inl (some (vi b)), (mm n I2 L2 P2 E2 c2 s2))) (ht : I2 186 0 0 = 1) : V PR (d + 2) 374 40 (lvL (nI (6 * t))) [vi (43 : Int32)] (mm n I L P E c s) = V PR (d + 2) 374 23 (lvL (nI (6 * (t + 1)))) [] (mm n I2 L2 P2 E2 c2 s2) := by
  rw [← at6]
  have d0 : (!decide ((1 : Int32) = 0)) = true := by decide +kernel
  obtain ⟨i1, i2, i3, i4, i5⟩ := sc_in (t := t) hn hN
  simp only [sc, k_L_law_40_43, k_L_parting_0, i1, i2, i3, i4, i5, cond_true, hc, vh_367_0, k_L_parting_15, Vk_v, Nat.reduceAdd]
  simp only [hs, i1, i2, i3, i4, i5, cond_true, k_L_law_2907, k_L_law_2925, k_L_law_2931, k_X12_thrown_0, hr, Vk_v, Nat.reduceAdd, ht, d0, decide_true, cond_true]
theorem vh_367_1 (x : Nat) (rest : List AV) (lv : LVs) (M : Mem) : Vk d 367 5 rest lv (some (.inr (1, x), M)) = V PR (d + 1) 367 19 lv [] M := rfl
theorem ex_43_1 (b : Int32) {x : Nat} (hn : 6 * t + 6 ≤ n) (hN : n ≤ 3072) (hs : ∀ j, I1 0 0 j = I 0 0 j) (hc : V PR d 184 0 [(0, (vR (some (100, 0)))), (1, (vi (sc I t 1))), (2, (vi (sc I t 2)))] [] (mm n I L P E c s) = some (.inr (1, x), (mm n I1 L1 P1 E1 c1 s1))) (hr : V PR (d + 1) 317 0 [(0, (vR (some (186, 0)))), (1, (vi (sc I t 1))), (2, (vi (sc I t 2)))] [] (mm n I1 L1 P1 E1 c1 s1) = some (.inl (some (vi b)), (mm n I2 L2 P2 E2 c2 s2))) (ht : I2 186 0 0 = 2) : V PR (d + 2) 374 40 (lvL (nI (6 * t))) [vi (43 : Int32)] (mm n I L P E c s) = V PR (d + 2) 374 23 (lvL (nI (6 * (t + 1)))) [] (mm n I2 L2 P2 E2 c2 s2) := by
  rw [← at6]
  have d0 : (!decide ((2 : Int32) = 0)) = true := by decide +kernel
  obtain ⟨i1, i2, i3, i4, i5⟩ := sc_in (t := t) hn hN
  simp only [sc, k_L_law_40_43, k_L_parting_0, i1, i2, i3, i4, i5, cond_true, hc, vh_367_1, k_L_parting_19, Vk_v, Nat.reduceAdd]
  simp only [hs, i1, i2, i3, i4, i5, cond_true, k_L_law_2907, k_L_law_2925, k_L_law_2931, k_X12_thrown_0, hr, Vk_v, Nat.reduceAdd, ht, d0, decide_true, cond_true]
theorem ok_44 (v : Int32) (hn : 6 * t + 6 ≤ n) (hN : n ≤ 3072) (hs : ∀ j, I1 0 0 j = I 0 0 j) (hE : E1 486 = (2, 3, 1, 0)) (hE2 : E2 486 = (2, 3, 1, 0)) (hc : V PR d 172 0 [(0, (vR (some (100, 0)))), (1, (vi (sc I t 1))), (2, (vi (sc I t 2)))] [] (mm n I L P E c s) = some (.inl (some (vi v)), (mm n I1 L1 P1 E1 c1 s1))) (hr : V PR (d + 1) 318 0 [(0, (vR (some (186, 0)))), (1, (vi (sc I t 1))), (2, (vi (sc I t 2)))] [] (mm n I1 (up3 L1 486 0 0 (v.toInt64)) P1 E1 c1 s1) = some (.inl (some (vi v)), (mm n I2 L2 P2 E2 c2 s2))) (ht : I2 186 0 0 = 0) (hl : L2 486 0 0 = v.toInt64) : V PR (d + 2) 374 40 (lvL (nI (6 * t))) [vi (44 : Int32)] (mm n I L P E c s) = V PR (d + 2) 374 23 (lvL (nI (6 * (t + 1)))) [] (mm n I2 L2 P2 E2 c2 s2) := by
  rw [← at6]
  have a1 : arrOk (mm n I1 L1 P1 E1 c1 s1) 486 0 3 0 = true := (aro_486 hE).trans ib_0_1
  have a2 : arrOk (mm n I2 L2 P2 E2 c2 s2) 486 0 3 0 = true := (aro_486 hE2).trans ib_0_1
  have d0 : (!decide ((0 : Int32) = 0)) = false := by decide +kernel
  have d1 : decide ((0 : Int32) = 0) = true := by decide +kernel
  obtain ⟨i1, i2, i3, i4, i5⟩ := sc_in (t := t) hn hN
  simp only [sc, k_L_law_40_44, k_L_tour_0, i1, i2, i3, i4, i5, cond_true, hc, Vk_v, Nat.reduceAdd, k_L_tour_8, b2i_bit, a1, decide_true, Bool.not_true]
  simp only [tn0, hs, i1, i2, i3, i4, i5, cond_true, k_L_law_2975, k_L_law_2993, k_L_law_2999, k_X12_thrown_0, hr, Vk_v, Nat.reduceAdd, ht, d0, d1, a2, cond_true, cond_false, hl, lgc_self, decide_true, Bool.not_true]
theorem vh_368_0 (x : Nat) (rest : List AV) (lv : LVs) (M : Mem) : Vk d 368 5 rest lv (some (.inr (0, x), M)) = V PR (d + 1) 368 15 lv [] M := rfl
theorem ex_44_0 (b : Int32) {x : Nat} (hn : 6 * t + 6 ≤ n) (hN : n ≤ 3072) (hs : ∀ j, I1 0 0 j = I 0 0 j) (hc : V PR d 172 0 [(0, (vR (some (100, 0)))), (1, (vi (sc I t 1))), (2, (vi (sc I t 2)))] [] (mm n I L P E c s) = some (.inr (0, x), (mm n I1 L1 P1 E1 c1 s1))) (hr : V PR (d + 1) 318 0 [(0, (vR (some (186, 0)))), (1, (vi (sc I t 1))), (2, (vi (sc I t 2)))] [] (mm n I1 L1 P1 E1 c1 s1) = some (.inl (some (vi b)), (mm n I2 L2 P2 E2 c2 s2))) (ht : I2 186 0 0 = 1) : V PR (d + 2) 374 40 (lvL (nI (6 * t))) [vi (44 : Int32)] (mm n I L P E c s) = V PR (d + 2) 374 23 (lvL (nI (6 * (t + 1)))) [] (mm n I2 L2 P2 E2 c2 s2) := by
  rw [← at6]
  have d0 : (!decide ((1 : Int32) = 0)) = true := by decide +kernel
  obtain ⟨i1, i2, i3, i4, i5⟩ := sc_in (t := t) hn hN
  simp only [sc, k_L_law_40_44, k_L_tour_0, i1, i2, i3, i4, i5, cond_true, hc, vh_368_0, k_L_tour_15, Vk_v, Nat.reduceAdd]
  simp only [hs, i1, i2, i3, i4, i5, cond_true, k_L_law_2975, k_L_law_2993, k_L_law_2999, k_X12_thrown_0, hr, Vk_v, Nat.reduceAdd, ht, d0, decide_true, cond_true]
theorem vh_368_1 (x : Nat) (rest : List AV) (lv : LVs) (M : Mem) : Vk d 368 5 rest lv (some (.inr (1, x), M)) = V PR (d + 1) 368 19 lv [] M := rfl
theorem ex_44_1 (b : Int32) {x : Nat} (hn : 6 * t + 6 ≤ n) (hN : n ≤ 3072) (hs : ∀ j, I1 0 0 j = I 0 0 j) (hc : V PR d 172 0 [(0, (vR (some (100, 0)))), (1, (vi (sc I t 1))), (2, (vi (sc I t 2)))] [] (mm n I L P E c s) = some (.inr (1, x), (mm n I1 L1 P1 E1 c1 s1))) (hr : V PR (d + 1) 318 0 [(0, (vR (some (186, 0)))), (1, (vi (sc I t 1))), (2, (vi (sc I t 2)))] [] (mm n I1 L1 P1 E1 c1 s1) = some (.inl (some (vi b)), (mm n I2 L2 P2 E2 c2 s2))) (ht : I2 186 0 0 = 2) : V PR (d + 2) 374 40 (lvL (nI (6 * t))) [vi (44 : Int32)] (mm n I L P E c s) = V PR (d + 2) 374 23 (lvL (nI (6 * (t + 1)))) [] (mm n I2 L2 P2 E2 c2 s2) := by
  rw [← at6]
  have d0 : (!decide ((2 : Int32) = 0)) = true := by decide +kernel
  obtain ⟨i1, i2, i3, i4, i5⟩ := sc_in (t := t) hn hN
  simp only [sc, k_L_law_40_44, k_L_tour_0, i1, i2, i3, i4, i5, cond_true, hc, vh_368_1, k_L_tour_19, Vk_v, Nat.reduceAdd]
  simp only [hs, i1, i2, i3, i4, i5, cond_true, k_L_law_2975, k_L_law_2993, k_L_law_2999, k_X12_thrown_0, hr, Vk_v, Nat.reduceAdd, ht, d0, decide_true, cond_true]
theorem ok_45 (v : Int32) (hn : 6 * t + 6 ≤ n) (hN : n ≤ 3072) (hs : ∀ j, I1 0 0 j = I 0 0 j) (hE : E1 486 = (2, 3, 1, 0)) (hE2 : E2 486 = (2, 3, 1, 0)) (hc : V PR d 185 0 [(0, (vR (some (100, 0)))), (1, (vi (sc I t 1))), (2, (vi (sc I t 2)))] [] (mm n I L P E c s) = some (.inl (some (vi v)), (mm n I1 L1 P1 E1 c1 s1))) (hr : V PR (d + 1) 319 0 [(0, (vR (some (186, 0)))), (1, (vi (sc I t 1))), (2, (vi (sc I t 2)))] [] (mm n I1 (up3 L1 486 0 0 (v.toInt64)) P1 E1 c1 s1) = some (.inl (some (vi v)), (mm n I2 L2 P2 E2 c2 s2))) (ht : I2 186 0 0 = 0) (hl : L2 486 0 0 = v.toInt64) : V PR (d + 2) 374 40 (lvL (nI (6 * t))) [vi (45 : Int32)] (mm n I L P E c s) = V PR (d + 2) 374 23 (lvL (nI (6 * (t + 1)))) [] (mm n I2 L2 P2 E2 c2 s2) := by
  rw [← at6]
  have a1 : arrOk (mm n I1 L1 P1 E1 c1 s1) 486 0 3 0 = true := (aro_486 hE).trans ib_0_1
  have a2 : arrOk (mm n I2 L2 P2 E2 c2 s2) 486 0 3 0 = true := (aro_486 hE2).trans ib_0_1
  have d0 : (!decide ((0 : Int32) = 0)) = false := by decide +kernel
  have d1 : decide ((0 : Int32) = 0) = true := by decide +kernel
  obtain ⟨i1, i2, i3, i4, i5⟩ := sc_in (t := t) hn hN
  simp only [sc, k_L_law_40_45, k_L_lying_0, i1, i2, i3, i4, i5, cond_true, hc, Vk_v, Nat.reduceAdd, k_L_lying_8, b2i_bit, a1, decide_true, Bool.not_true]
  simp only [tn0, hs, i1, i2, i3, i4, i5, cond_true, k_L_law_3043, k_L_law_3061, k_L_law_3067, k_X12_thrown_0, hr, Vk_v, Nat.reduceAdd, ht, d0, d1, a2, cond_true, cond_false, hl, lgc_self, decide_true, Bool.not_true]
theorem vh_369_0 (x : Nat) (rest : List AV) (lv : LVs) (M : Mem) : Vk d 369 5 rest lv (some (.inr (0, x), M)) = V PR (d + 1) 369 15 lv [] M := rfl
theorem ex_45_0 (b : Int32) {x : Nat} (hn : 6 * t + 6 ≤ n) (hN : n ≤ 3072) (hs : ∀ j, I1 0 0 j = I 0 0 j) (hc : V PR d 185 0 [(0, (vR (some (100, 0)))), (1, (vi (sc I t 1))), (2, (vi (sc I t 2)))] [] (mm n I L P E c s) = some (.inr (0, x), (mm n I1 L1 P1 E1 c1 s1))) (hr : V PR (d + 1) 319 0 [(0, (vR (some (186, 0)))), (1, (vi (sc I t 1))), (2, (vi (sc I t 2)))] [] (mm n I1 L1 P1 E1 c1 s1) = some (.inl (some (vi b)), (mm n I2 L2 P2 E2 c2 s2))) (ht : I2 186 0 0 = 1) : V PR (d + 2) 374 40 (lvL (nI (6 * t))) [vi (45 : Int32)] (mm n I L P E c s) = V PR (d + 2) 374 23 (lvL (nI (6 * (t + 1)))) [] (mm n I2 L2 P2 E2 c2 s2) := by
  rw [← at6]
  have d0 : (!decide ((1 : Int32) = 0)) = true := by decide +kernel
  obtain ⟨i1, i2, i3, i4, i5⟩ := sc_in (t := t) hn hN
  simp only [sc, k_L_law_40_45, k_L_lying_0, i1, i2, i3, i4, i5, cond_true, hc, vh_369_0, k_L_lying_15, Vk_v, Nat.reduceAdd]
  simp only [hs, i1, i2, i3, i4, i5, cond_true, k_L_law_3043, k_L_law_3061, k_L_law_3067, k_X12_thrown_0, hr, Vk_v, Nat.reduceAdd, ht, d0, decide_true, cond_true]
theorem vh_369_1 (x : Nat) (rest : List AV) (lv : LVs) (M : Mem) : Vk d 369 5 rest lv (some (.inr (1, x), M)) = V PR (d + 1) 369 19 lv [] M := rfl
theorem ex_45_1 (b : Int32) {x : Nat} (hn : 6 * t + 6 ≤ n) (hN : n ≤ 3072) (hs : ∀ j, I1 0 0 j = I 0 0 j) (hc : V PR d 185 0 [(0, (vR (some (100, 0)))), (1, (vi (sc I t 1))), (2, (vi (sc I t 2)))] [] (mm n I L P E c s) = some (.inr (1, x), (mm n I1 L1 P1 E1 c1 s1))) (hr : V PR (d + 1) 319 0 [(0, (vR (some (186, 0)))), (1, (vi (sc I t 1))), (2, (vi (sc I t 2)))] [] (mm n I1 L1 P1 E1 c1 s1) = some (.inl (some (vi b)), (mm n I2 L2 P2 E2 c2 s2))) (ht : I2 186 0 0 = 2) : V PR (d + 2) 374 40 (lvL (nI (6 * t))) [vi (45 : Int32)] (mm n I L P E c s) = V PR (d + 2) 374 23 (lvL (nI (6 * (t + 1)))) [] (mm n I2 L2 P2 E2 c2 s2) := by
  rw [← at6]
  have d0 : (!decide ((2 : Int32) = 0)) = true := by decide +kernel
  obtain ⟨i1, i2, i3, i4, i5⟩ := sc_in (t := t) hn hN
  simp only [sc, k_L_law_40_45, k_L_lying_0, i1, i2, i3, i4, i5, cond_true, hc, vh_369_1, k_L_lying_19, Vk_v, Nat.reduceAdd]
  simp only [hs, i1, i2, i3, i4, i5, cond_true, k_L_law_3043, k_L_law_3061, k_L_law_3067, k_X12_thrown_0, hr, Vk_v, Nat.reduceAdd, ht, d0, decide_true, cond_true]
theorem ok_46 (v : Int32) (hn : 6 * t + 6 ≤ n) (hN : n ≤ 3072) (hs : ∀ j, I1 0 0 j = I 0 0 j) (hE : E1 486 = (2, 3, 1, 0)) (hE2 : E2 486 = (2, 3, 1, 0)) (hc : V PR d 186 0 [(0, (vR (some (100, 0)))), (1, (vi (sc I t 1))), (2, (vi (sc I t 2))), (3, (vi (sc I t 3)))] [] (mm n I L P E c s) = some (.inl (some (vi v)), (mm n I1 L1 P1 E1 c1 s1))) (hr : V PR (d + 1) 320 0 [(0, (vR (some (186, 0)))), (1, (vi (sc I t 1))), (2, (vi (sc I t 2))), (3, (vi (sc I t 3)))] [] (mm n I1 (up3 L1 486 0 0 (v.toInt64)) P1 E1 c1 s1) = some (.inl (some (vi v)), (mm n I2 L2 P2 E2 c2 s2))) (ht : I2 186 0 0 = 0) (hl : L2 486 0 0 = v.toInt64) : V PR (d + 2) 374 40 (lvL (nI (6 * t))) [vi (46 : Int32)] (mm n I L P E c s) = V PR (d + 2) 374 23 (lvL (nI (6 * (t + 1)))) [] (mm n I2 L2 P2 E2 c2 s2) := by
  rw [← at6]
  have a1 : arrOk (mm n I1 L1 P1 E1 c1 s1) 486 0 3 0 = true := (aro_486 hE).trans ib_0_1
  have a2 : arrOk (mm n I2 L2 P2 E2 c2 s2) 486 0 3 0 = true := (aro_486 hE2).trans ib_0_1
  have d0 : (!decide ((0 : Int32) = 0)) = false := by decide +kernel
  have d1 : decide ((0 : Int32) = 0) = true := by decide +kernel
  obtain ⟨i1, i2, i3, i4, i5⟩ := sc_in (t := t) hn hN
  simp only [sc, k_L_law_40_46, k_L_agree_0, i1, i2, i3, i4, i5, cond_true, hc, Vk_v, Nat.reduceAdd, k_L_agree_10, b2i_bit, a1, decide_true, Bool.not_true]
  simp only [tn0, hs, i1, i2, i3, i4, i5, cond_true, k_L_law_3117, k_L_law_3141, k_L_law_3147, k_X12_thrown_0, hr, Vk_v, Nat.reduceAdd, ht, d0, d1, a2, cond_true, cond_false, hl, lgc_self, decide_true, Bool.not_true]
theorem vh_370_0 (x : Nat) (rest : List AV) (lv : LVs) (M : Mem) : Vk d 370 7 rest lv (some (.inr (0, x), M)) = V PR (d + 1) 370 17 lv [] M := rfl
theorem ex_46_0 (b : Int32) {x : Nat} (hn : 6 * t + 6 ≤ n) (hN : n ≤ 3072) (hs : ∀ j, I1 0 0 j = I 0 0 j) (hc : V PR d 186 0 [(0, (vR (some (100, 0)))), (1, (vi (sc I t 1))), (2, (vi (sc I t 2))), (3, (vi (sc I t 3)))] [] (mm n I L P E c s) = some (.inr (0, x), (mm n I1 L1 P1 E1 c1 s1))) (hr : V PR (d + 1) 320 0 [(0, (vR (some (186, 0)))), (1, (vi (sc I t 1))), (2, (vi (sc I t 2))), (3, (vi (sc I t 3)))] [] (mm n I1 L1 P1 E1 c1 s1) = some (.inl (some (vi b)), (mm n I2 L2 P2 E2 c2 s2))) (ht : I2 186 0 0 = 1) : V PR (d + 2) 374 40 (lvL (nI (6 * t))) [vi (46 : Int32)] (mm n I L P E c s) = V PR (d + 2) 374 23 (lvL (nI (6 * (t + 1)))) [] (mm n I2 L2 P2 E2 c2 s2) := by
  rw [← at6]
  have d0 : (!decide ((1 : Int32) = 0)) = true := by decide +kernel
  obtain ⟨i1, i2, i3, i4, i5⟩ := sc_in (t := t) hn hN
  simp only [sc, k_L_law_40_46, k_L_agree_0, i1, i2, i3, i4, i5, cond_true, hc, vh_370_0, k_L_agree_17, Vk_v, Nat.reduceAdd]
  simp only [hs, i1, i2, i3, i4, i5, cond_true, k_L_law_3117, k_L_law_3141, k_L_law_3147, k_X12_thrown_0, hr, Vk_v, Nat.reduceAdd, ht, d0, decide_true, cond_true]
theorem vh_370_1 (x : Nat) (rest : List AV) (lv : LVs) (M : Mem) : Vk d 370 7 rest lv (some (.inr (1, x), M)) = V PR (d + 1) 370 21 lv [] M := rfl
theorem ex_46_1 (b : Int32) {x : Nat} (hn : 6 * t + 6 ≤ n) (hN : n ≤ 3072) (hs : ∀ j, I1 0 0 j = I 0 0 j) (hc : V PR d 186 0 [(0, (vR (some (100, 0)))), (1, (vi (sc I t 1))), (2, (vi (sc I t 2))), (3, (vi (sc I t 3)))] [] (mm n I L P E c s) = some (.inr (1, x), (mm n I1 L1 P1 E1 c1 s1))) (hr : V PR (d + 1) 320 0 [(0, (vR (some (186, 0)))), (1, (vi (sc I t 1))), (2, (vi (sc I t 2))), (3, (vi (sc I t 3)))] [] (mm n I1 L1 P1 E1 c1 s1) = some (.inl (some (vi b)), (mm n I2 L2 P2 E2 c2 s2))) (ht : I2 186 0 0 = 2) : V PR (d + 2) 374 40 (lvL (nI (6 * t))) [vi (46 : Int32)] (mm n I L P E c s) = V PR (d + 2) 374 23 (lvL (nI (6 * (t + 1)))) [] (mm n I2 L2 P2 E2 c2 s2) := by
  rw [← at6]
  have d0 : (!decide ((2 : Int32) = 0)) = true := by decide +kernel
  obtain ⟨i1, i2, i3, i4, i5⟩ := sc_in (t := t) hn hN
  simp only [sc, k_L_law_40_46, k_L_agree_0, i1, i2, i3, i4, i5, cond_true, hc, vh_370_1, k_L_agree_21, Vk_v, Nat.reduceAdd]
  simp only [hs, i1, i2, i3, i4, i5, cond_true, k_L_law_3117, k_L_law_3141, k_L_law_3147, k_X12_thrown_0, hr, Vk_v, Nat.reduceAdd, ht, d0, decide_true, cond_true]
theorem ok_47 (v : Int32) (hn : 6 * t + 6 ≤ n) (hN : n ≤ 3072) (hs : ∀ j, I1 0 0 j = I 0 0 j) (hE : E1 486 = (2, 3, 1, 0)) (hE2 : E2 486 = (2, 3, 1, 0)) (hc : V PR d 187 0 [(0, (vR (some (100, 0)))), (1, (vi (sc I t 1)))] [] (mm n I L P E c s) = some (.inl (some (vi v)), (mm n I1 L1 P1 E1 c1 s1))) (hr : V PR (d + 1) 321 0 [(0, (vR (some (186, 0)))), (1, (vi (sc I t 1)))] [] (mm n I1 (up3 L1 486 0 0 (v.toInt64)) P1 E1 c1 s1) = some (.inl (some (vi v)), (mm n I2 L2 P2 E2 c2 s2))) (ht : I2 186 0 0 = 0) (hl : L2 486 0 0 = v.toInt64) : V PR (d + 2) 374 40 (lvL (nI (6 * t))) [vi (47 : Int32)] (mm n I L P E c s) = V PR (d + 2) 374 23 (lvL (nI (6 * (t + 1)))) [] (mm n I2 L2 P2 E2 c2 s2) := by
  rw [← at6]
  have a1 : arrOk (mm n I1 L1 P1 E1 c1 s1) 486 0 3 0 = true := (aro_486 hE).trans ib_0_1
  have a2 : arrOk (mm n I2 L2 P2 E2 c2 s2) 486 0 3 0 = true := (aro_486 hE2).trans ib_0_1
  have d0 : (!decide ((0 : Int32) = 0)) = false := by decide +kernel
  have d1 : decide ((0 : Int32) = 0) = true := by decide +kernel
  obtain ⟨i1, i2, i3, i4, i5⟩ := sc_in (t := t) hn hN
  simp only [sc, k_L_law_40_47, k_L_learned_0, i1, i2, i3, i4, i5, cond_true, hc, Vk_v, Nat.reduceAdd, k_L_learned_7, b2i_bit, a1, decide_true, Bool.not_true]
  simp only [tn0, hs, i1, i2, i3, i4, i5, cond_true, k_L_law_3185, k_L_law_3197, k_L_law_3203, k_X12_thrown_0, hr, Vk_v, Nat.reduceAdd, ht, d0, d1, a2, cond_true, cond_false, hl, lgc_self, decide_true, Bool.not_true]
theorem vh_371_1 (x : Nat) (rest : List AV) (lv : LVs) (M : Mem) : Vk d 371 4 rest lv (some (.inr (1, x), M)) = V PR (d + 1) 371 13 lv [] M := rfl
theorem ex_47_1 (b : Int32) {x : Nat} (hn : 6 * t + 6 ≤ n) (hN : n ≤ 3072) (hs : ∀ j, I1 0 0 j = I 0 0 j) (hc : V PR d 187 0 [(0, (vR (some (100, 0)))), (1, (vi (sc I t 1)))] [] (mm n I L P E c s) = some (.inr (1, x), (mm n I1 L1 P1 E1 c1 s1))) (hr : V PR (d + 1) 321 0 [(0, (vR (some (186, 0)))), (1, (vi (sc I t 1)))] [] (mm n I1 L1 P1 E1 c1 s1) = some (.inl (some (vi b)), (mm n I2 L2 P2 E2 c2 s2))) (ht : I2 186 0 0 = 1) : V PR (d + 2) 374 40 (lvL (nI (6 * t))) [vi (47 : Int32)] (mm n I L P E c s) = V PR (d + 2) 374 23 (lvL (nI (6 * (t + 1)))) [] (mm n I2 L2 P2 E2 c2 s2) := by
  rw [← at6]
  have d0 : (!decide ((1 : Int32) = 0)) = true := by decide +kernel
  obtain ⟨i1, i2, i3, i4, i5⟩ := sc_in (t := t) hn hN
  simp only [sc, k_L_law_40_47, k_L_learned_0, i1, i2, i3, i4, i5, cond_true, hc, vh_371_1, k_L_learned_13, Vk_v, Nat.reduceAdd]
  simp only [hs, i1, i2, i3, i4, i5, cond_true, k_L_law_3185, k_L_law_3197, k_L_law_3203, k_X12_thrown_0, hr, Vk_v, Nat.reduceAdd, ht, d0, decide_true, cond_true]
theorem ok_48 (v : Int32) (hn : 6 * t + 6 ≤ n) (hN : n ≤ 3072) (hs : ∀ j, I1 0 0 j = I 0 0 j) (hE : E1 486 = (2, 3, 1, 0)) (hE2 : E2 486 = (2, 3, 1, 0)) (hc : V PR d 188 0 [(0, (vR (some (100, 0)))), (1, (vi (sc I t 1))), (2, (vi (sc I t 2)))] [] (mm n I L P E c s) = some (.inl (some (vi v)), (mm n I1 L1 P1 E1 c1 s1))) (hr : V PR (d + 1) 322 0 [(0, (vR (some (186, 0)))), (1, (vi (sc I t 1))), (2, (vi (sc I t 2)))] [] (mm n I1 (up3 L1 486 0 0 (v.toInt64)) P1 E1 c1 s1) = some (.inl (some (vi v)), (mm n I2 L2 P2 E2 c2 s2))) (ht : I2 186 0 0 = 0) (hl : L2 486 0 0 = v.toInt64) : V PR (d + 2) 374 40 (lvL (nI (6 * t))) [vi (48 : Int32)] (mm n I L P E c s) = V PR (d + 2) 374 23 (lvL (nI (6 * (t + 1)))) [] (mm n I2 L2 P2 E2 c2 s2) := by
  rw [← at6]
  have a1 : arrOk (mm n I1 L1 P1 E1 c1 s1) 486 0 3 0 = true := (aro_486 hE).trans ib_0_1
  have a2 : arrOk (mm n I2 L2 P2 E2 c2 s2) 486 0 3 0 = true := (aro_486 hE2).trans ib_0_1
  have d0 : (!decide ((0 : Int32) = 0)) = false := by decide +kernel
  have d1 : decide ((0 : Int32) = 0) = true := by decide +kernel
  obtain ⟨i1, i2, i3, i4, i5⟩ := sc_in (t := t) hn hN
  simp only [sc, k_L_law_40_48, k_L_waits_0, i1, i2, i3, i4, i5, cond_true, hc, Vk_v, Nat.reduceAdd, k_L_waits_8, b2i_bit, a1, decide_true, Bool.not_true]
  simp only [tn0, hs, i1, i2, i3, i4, i5, cond_true, k_L_law_3247, k_L_law_3265, k_L_law_3271, k_X12_thrown_0, hr, Vk_v, Nat.reduceAdd, ht, d0, d1, a2, cond_true, cond_false, hl, lgc_self, decide_true, Bool.not_true]
theorem vh_372_0 (x : Nat) (rest : List AV) (lv : LVs) (M : Mem) : Vk d 372 5 rest lv (some (.inr (0, x), M)) = V PR (d + 1) 372 15 lv [] M := rfl
theorem ex_48_0 (b : Int32) {x : Nat} (hn : 6 * t + 6 ≤ n) (hN : n ≤ 3072) (hs : ∀ j, I1 0 0 j = I 0 0 j) (hc : V PR d 188 0 [(0, (vR (some (100, 0)))), (1, (vi (sc I t 1))), (2, (vi (sc I t 2)))] [] (mm n I L P E c s) = some (.inr (0, x), (mm n I1 L1 P1 E1 c1 s1))) (hr : V PR (d + 1) 322 0 [(0, (vR (some (186, 0)))), (1, (vi (sc I t 1))), (2, (vi (sc I t 2)))] [] (mm n I1 L1 P1 E1 c1 s1) = some (.inl (some (vi b)), (mm n I2 L2 P2 E2 c2 s2))) (ht : I2 186 0 0 = 1) : V PR (d + 2) 374 40 (lvL (nI (6 * t))) [vi (48 : Int32)] (mm n I L P E c s) = V PR (d + 2) 374 23 (lvL (nI (6 * (t + 1)))) [] (mm n I2 L2 P2 E2 c2 s2) := by
  rw [← at6]
  have d0 : (!decide ((1 : Int32) = 0)) = true := by decide +kernel
  obtain ⟨i1, i2, i3, i4, i5⟩ := sc_in (t := t) hn hN
  simp only [sc, k_L_law_40_48, k_L_waits_0, i1, i2, i3, i4, i5, cond_true, hc, vh_372_0, k_L_waits_15, Vk_v, Nat.reduceAdd]
  simp only [hs, i1, i2, i3, i4, i5, cond_true, k_L_law_3247, k_L_law_3265, k_L_law_3271, k_X12_thrown_0, hr, Vk_v, Nat.reduceAdd, ht, d0, decide_true, cond_true]
theorem vh_372_1 (x : Nat) (rest : List AV) (lv : LVs) (M : Mem) : Vk d 372 5 rest lv (some (.inr (1, x), M)) = V PR (d + 1) 372 19 lv [] M := rfl
theorem ex_48_1 (b : Int32) {x : Nat} (hn : 6 * t + 6 ≤ n) (hN : n ≤ 3072) (hs : ∀ j, I1 0 0 j = I 0 0 j) (hc : V PR d 188 0 [(0, (vR (some (100, 0)))), (1, (vi (sc I t 1))), (2, (vi (sc I t 2)))] [] (mm n I L P E c s) = some (.inr (1, x), (mm n I1 L1 P1 E1 c1 s1))) (hr : V PR (d + 1) 322 0 [(0, (vR (some (186, 0)))), (1, (vi (sc I t 1))), (2, (vi (sc I t 2)))] [] (mm n I1 L1 P1 E1 c1 s1) = some (.inl (some (vi b)), (mm n I2 L2 P2 E2 c2 s2))) (ht : I2 186 0 0 = 2) : V PR (d + 2) 374 40 (lvL (nI (6 * t))) [vi (48 : Int32)] (mm n I L P E c s) = V PR (d + 2) 374 23 (lvL (nI (6 * (t + 1)))) [] (mm n I2 L2 P2 E2 c2 s2) := by
  rw [← at6]
  have d0 : (!decide ((2 : Int32) = 0)) = true := by decide +kernel
  obtain ⟨i1, i2, i3, i4, i5⟩ := sc_in (t := t) hn hN
  simp only [sc, k_L_law_40_48, k_L_waits_0, i1, i2, i3, i4, i5, cond_true, hc, vh_372_1, k_L_waits_19, Vk_v, Nat.reduceAdd]
  simp only [hs, i1, i2, i3, i4, i5, cond_true, k_L_law_3247, k_L_law_3265, k_L_law_3271, k_X12_thrown_0, hr, Vk_v, Nat.reduceAdd, ht, d0, decide_true, cond_true]
theorem ok_49 (v : Int32) (hn : 6 * t + 6 ≤ n) (hN : n ≤ 3072) (hs : ∀ j, I1 0 0 j = I 0 0 j) (hE : E1 486 = (2, 3, 1, 0)) (hE2 : E2 486 = (2, 3, 1, 0)) (hc : V PR d 169 0 [(0, (vR (some (100, 0)))), (1, (vi (sc I t 1))), (2, (vi (sc I t 2)))] [] (mm n I L P E c s) = some (.inl (some (vi v)), (mm n I1 L1 P1 E1 c1 s1))) (hr : V PR (d + 1) 323 0 [(0, (vR (some (186, 0)))), (1, (vi (sc I t 1))), (2, (vi (sc I t 2)))] [] (mm n I1 (up3 L1 486 0 0 (v.toInt64)) P1 E1 c1 s1) = some (.inl (some (vi v)), (mm n I2 L2 P2 E2 c2 s2))) (ht : I2 186 0 0 = 0) (hl : L2 486 0 0 = v.toInt64) : V PR (d + 2) 374 40 (lvL (nI (6 * t))) [vi (49 : Int32)] (mm n I L P E c s) = V PR (d + 2) 374 23 (lvL (nI (6 * (t + 1)))) [] (mm n I2 L2 P2 E2 c2 s2) := by
  rw [← at6]
  have a1 : arrOk (mm n I1 L1 P1 E1 c1 s1) 486 0 3 0 = true := (aro_486 hE).trans ib_0_1
  have a2 : arrOk (mm n I2 L2 P2 E2 c2 s2) 486 0 3 0 = true := (aro_486 hE2).trans ib_0_1
  have d0 : (!decide ((0 : Int32) = 0)) = false := by decide +kernel
  have d1 : decide ((0 : Int32) = 0) = true := by decide +kernel
  obtain ⟨i1, i2, i3, i4, i5⟩ := sc_in (t := t) hn hN
  simp only [sc, k_L_law_40_49, k_L_odds_0, i1, i2, i3, i4, i5, cond_true, hc, Vk_v, Nat.reduceAdd, k_L_odds_8, b2i_bit, a1, decide_true, Bool.not_true]
  simp only [tn0, hs, i1, i2, i3, i4, i5, cond_true, k_L_law_3315, k_L_law_3333, k_L_law_3339, k_X12_thrown_0, hr, Vk_v, Nat.reduceAdd, ht, d0, d1, a2, cond_true, cond_false, hl, lgc_self, decide_true, Bool.not_true]
theorem vh_373_1 (x : Nat) (rest : List AV) (lv : LVs) (M : Mem) : Vk d 373 5 rest lv (some (.inr (1, x), M)) = V PR (d + 1) 373 15 lv [] M := rfl
theorem ex_49_1 (b : Int32) {x : Nat} (hn : 6 * t + 6 ≤ n) (hN : n ≤ 3072) (hs : ∀ j, I1 0 0 j = I 0 0 j) (hc : V PR d 169 0 [(0, (vR (some (100, 0)))), (1, (vi (sc I t 1))), (2, (vi (sc I t 2)))] [] (mm n I L P E c s) = some (.inr (1, x), (mm n I1 L1 P1 E1 c1 s1))) (hr : V PR (d + 1) 323 0 [(0, (vR (some (186, 0)))), (1, (vi (sc I t 1))), (2, (vi (sc I t 2)))] [] (mm n I1 L1 P1 E1 c1 s1) = some (.inl (some (vi b)), (mm n I2 L2 P2 E2 c2 s2))) (ht : I2 186 0 0 = 1) : V PR (d + 2) 374 40 (lvL (nI (6 * t))) [vi (49 : Int32)] (mm n I L P E c s) = V PR (d + 2) 374 23 (lvL (nI (6 * (t + 1)))) [] (mm n I2 L2 P2 E2 c2 s2) := by
  rw [← at6]
  have d0 : (!decide ((1 : Int32) = 0)) = true := by decide +kernel
  obtain ⟨i1, i2, i3, i4, i5⟩ := sc_in (t := t) hn hN
  simp only [sc, k_L_law_40_49, k_L_odds_0, i1, i2, i3, i4, i5, cond_true, hc, vh_373_1, k_L_odds_15, Vk_v, Nat.reduceAdd]
  simp only [hs, i1, i2, i3, i4, i5, cond_true, k_L_law_3315, k_L_law_3333, k_L_law_3339, k_X12_thrown_0, hr, Vk_v, Nat.reduceAdd, ht, d0, decide_true, cond_true]
end Glue
