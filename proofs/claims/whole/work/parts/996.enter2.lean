/-! ENTERED OR REFUSED, 2: calls that look at a range of their own (written by program). -/
theorem inR_lo {x a b : Int32} (h : inR x a b = true) : decide (x < a) = false := by
  unfold inR at h
  cases h2 : decide (x < a) with
  | false => rfl
  | true => rw [h2] at h; cases h
theorem inR_hi {x a b : Int32} (h : inR x a b = true) : decide (b < x) = false := by
  unfold inR at h
  cases h2 : decide (b < x) with
  | false => rfl
  | true => rw [h2, Bool.not_true, Bool.and_false] at h; cases h
theorem inR_no {x a b : Int32} (h : inR x a b = false) : decide (x < a) = true ∨ (decide (x < a) = false ∧ decide (b < x) = true) := by
  unfold inR at h
  cases h2 : decide (x < a) with
  | true => exact .inl rfl
  | false =>
    refine .inr ⟨rfl, ?_⟩
    cases h3 : decide (b < x) with
    | true => rfl
    | false => rw [h2, h3] at h; cases h
theorem inR_two {x : Int32} {a b : Nat} (ha : a < 2 ^ 30) (hb : b < 2 ^ 30) (h : inR x (nI a) (nI b) = true) : ∃ k, a ≤ k ∧ k < b + 1 ∧ x = nI k := by
  have h1 := of_decide_eq_false (inR_lo h)
  have h2 := of_decide_eq_false (inR_hi h)
  rw [Int32.lt_iff_toInt_lt, nI_toInt (by omega)] at h1 h2
  obtain ⟨j, hj, rfl⟩ := nI_of (x := x) (fun q => by
    rw [Int32.lt_iff_toInt_lt] at q
    have : (0 : Int32).toInt = 0 := by decide +kernel
    omega)
  rw [nI_toInt hj] at h1 h2
  exact ⟨j, by omega, by omega, rfl⟩
section Enter2
variable {d n t : Nat} {I : FI} {L : FL} {P : FR} {E : FE} {c s : Nat}
theorem vein_lo {x : Int32} (h : inR x 0 (I 190 0 3 - 1) = true) : decide (x < 0) = false := inR_lo h
theorem vein_ge (hT : RTold I) (hl : RLand I L) (x : Int32) : decide (I 103 0 3 ≤ x) = decide (I 190 0 3 - 1 < x) := by
  have hv := hT.2.2.2.1
  rw [hl.2.2.2.1, hv.1, decide_eq_decide, Int32.le_iff_toInt_le, Int32.lt_iff_toInt_lt, nI_toInt (by omega), show (nI (zV I) - 1).toInt = (zV I : Int) - 1 from pk_sub_toInt (b := 1) (by omega) (by decide)]
  omega
theorem vein_nat (hT : RTold I) {x : Int32} (h : inR x 0 (I 190 0 3 - 1) = true) : ∃ k, k < zV I ∧ x = nI k := by
  have hv := hT.2.2.2.1
  rw [hv.1] at h
  exact inR_nat (by omega) h
theorem cp_17 {x1 : Int32} (hT : RTold I) (hl : RLand I L) (h1 : inR x1 0 (I 190 0 3 - 1) = true) : V PR (d + 2) 147 0 [(0, (vR (some (100, 0)))), (1, (vi x1))] [] (mm n I L P E c s) = V PR (d + 2) 147 24 [(0, (vR (some (100, 0)))), (1, (vi x1))] [] (mm n I L P E c s) := by
  simp only [k_X11_vein_0, c_wantRight_t, inR_lo h1, vein_ge hT hl, inR_hi h1, cond_true, cond_false, Vk_n, Nat.reduceAdd]
theorem rp_17 {x1 : Int32} (hT : RTold I) (h1 : inR x1 0 (I 190 0 3 - 1) = true) : V PR (d + 3) 274 0 [(0, (vR (some (186, 0)))), (1, (vi x1))] [] (mm n I L P E c s) = V PR (d + 3) 274 32 [(0, (vR (some (186, 0)))), (1, (vi x1))] [vi (0 : Int32)] (mm n (up3 I 186 0 0 0) L P E c s) := by
  simp only [k_X12_vein_0, k_X12_vein_19, c_isWell, c_isPlace, c_isDay, c_isState, c_isAsk, c_in, c_bad0 (thr0 _), Vk_v, Nat.reduceAdd, b2i_t, b2i_f, n1t, n0f, d0t, d1f, d2f, cond_true, cond_false, decide_true, Bool.not_true, Bool.not_false, up3_a (show 190 ≠ 186 by decide), k_X12_statesOf_v2_0, h1]
theorem en_17 (h : Rl t I L P E c s) (hn : 6 * t + 6 ≤ n) (hN : n ≤ 3072) (K : ∀ v1 : Nat, v1 < zV I → sc I t 1 = nI v1 → inR (sc I t 1) 0 (I 190 0 3 - 1) = true → LGo (d + 30) n t 17 I L P E c s) : LGo (d + 30) n t 17 I L P E c s := by
  obtain ⟨⟨hE, hc, -, -⟩, hT, hl, -⟩ := id h
  cases h1 : inR (sc I t 1) 0 (I 190 0 3 - 1) with
  | false =>
    refine rf_17_1 (d := d + 28) 0 h hn hN ?_ ?_
    · rcases inR_no h1 with g1 | ⟨g1, g2⟩
      · simp only [k_X11_vein_0, c_wantRight_t, vein_ge hT hl, g1, cond_true, cond_false, Vk_n, Nat.reduceAdd, c_wantRight_f, Vk_x f_147_21 (show 147 < 332 by decide)]
      · simp only [k_X11_vein_0, c_wantRight_t, vein_ge hT hl, g1, g2, cond_true, cond_false, Vk_n, Nat.reduceAdd, c_wantRight_f, Vk_x f_147_21 (show 147 < 332 by decide)]
    · simp only [k_X12_vein_0, k_X12_vein_19, c_isWell, c_isPlace, c_isDay, c_isState, c_isAsk, c_in, c_bad0 (thr0 _), Vk_v, Nat.reduceAdd, b2i_t, b2i_f, n1t, n0f, d0t, d1f, d2f, cond_true, cond_false, decide_true, Bool.not_true, Bool.not_false, up3_a (show 190 ≠ 186 by decide), k_X12_statesOf_v2_0, refC_at hc (show 190 < 487 by decide) (show 190 ≠ 100 by decide), c_bad1 (thr0 _) d1f (show (1 : Int32) = nI 1 from rfl) (show 1 < 2 by decide), h1, k_X12_vein_32]
      rfl
  | true =>
    obtain ⟨v1, g1, e1⟩ := vein_nat hT h1
    exact K v1 g1 e1 h1
theorem cp_18 {x1 x2 : Int32} (hT : RTold I) (hl : RLand I L) (h1 : inR x2 0 (3 : Int32) = true) : V PR (d + 2) 150 0 [(0, (vR (some (100, 0)))), (1, (vi x1)), (2, (vi x2))] [] (mm n I L P E c s) = V PR (d + 2) 150 18 [(0, (vR (some (100, 0)))), (1, (vi x1)), (2, (vi x2))] [] (mm n I L P E c s) := by
  simp only [k_X11_diary_0, c_wantRight_t, inR_lo h1, inR_hi h1, cond_true, cond_false, Vk_n, Nat.reduceAdd]
theorem rp_18 {x1 x2 : Int32} (hT : RTold I) (h1 : inR x2 0 (3 : Int32) = true) : V PR (d + 3) 275 0 [(0, (vR (some (186, 0)))), (1, (vi x1)), (2, (vi x2))] [] (mm n I L P E c s) = V PR (d + 3) 275 25 [(0, (vR (some (186, 0)))), (1, (vi x1)), (2, (vi x2))] [vi (0 : Int32)] (mm n (up3 I 186 0 0 0) L P E c s) := by
  simp only [k_X12_diary_0, k_X12_diary_12, c_isWell, c_isPlace, c_isDay, c_isState, c_isAsk, c_in, c_bad0 (thr0 _), Vk_v, Nat.reduceAdd, b2i_t, b2i_f, n1t, n0f, d0t, d1f, d2f, cond_true, cond_false, decide_true, Bool.not_true, Bool.not_false, up3_a (show 190 ≠ 186 by decide), k_X12_statesOf_v2_0, h1]
theorem en_18 (h : Rl t I L P E c s) (hn : 6 * t + 6 ≤ n) (hN : n ≤ 3072) (K : ∀ v1 : Nat, 0 ≤ v1 → v1 < 4 → sc I t 2 = nI v1 → inR (sc I t 2) 0 (3 : Int32) = true → LGo (d + 30) n t 18 I L P E c s) : LGo (d + 30) n t 18 I L P E c s := by
  obtain ⟨⟨hE, hc, -, -⟩, hT, hl, -⟩ := id h
  cases h1 : inR (sc I t 2) 0 (3 : Int32) with
  | false =>
    refine rf_18_1 (d := d + 28) 0 h hn hN ?_ ?_
    · rcases inR_no h1 with g1 | ⟨g1, g2⟩
      · simp only [k_X11_diary_0, c_wantRight_t, g1, cond_true, cond_false, Vk_n, Nat.reduceAdd, c_wantRight_f, Vk_x f_150_15 (show 150 < 332 by decide)]
      · simp only [k_X11_diary_0, c_wantRight_t, g1, g2, cond_true, cond_false, Vk_n, Nat.reduceAdd, c_wantRight_f, Vk_x f_150_15 (show 150 < 332 by decide)]
    · simp only [k_X12_diary_0, k_X12_diary_12, c_isWell, c_isPlace, c_isDay, c_isState, c_isAsk, c_in, c_bad0 (thr0 _), Vk_v, Nat.reduceAdd, b2i_t, b2i_f, n1t, n0f, d0t, d1f, d2f, cond_true, cond_false, decide_true, Bool.not_true, Bool.not_false, up3_a (show 190 ≠ 186 by decide), k_X12_statesOf_v2_0, refC_at hc (show 190 < 487 by decide) (show 190 ≠ 100 by decide), c_bad1 (thr0 _) d1f (show (1 : Int32) = nI 1 from rfl) (show 1 < 2 by decide), h1, k_X12_diary_25]
      rfl
  | true =>
    obtain ⟨v1, l1, g1, e1⟩ := inR_two (a := 0) (b := 3) (by decide) (by decide) h1
    exact K v1 l1 g1 e1 h1
theorem cp_21 {x1 x2 x3 x4 : Int32} (hT : RTold I) (hl : RLand I L) (h1 : inR x1 0 (I 190 0 2 - 1) = true) (h2 : inR x2 0 5 = true) (h3 : inR x3 0 364 = true) (h4 : inR x4 0 (2 : Int32) = true) : V PR (d + 2) 154 0 [(0, (vR (some (100, 0)))), (1, (vi x1)), (2, (vi x2)), (3, (vi x3)), (4, (vi x4))] [] (mm n I L P E c s) = V PR (d + 2) 154 35 [(0, (vR (some (100, 0)))), (1, (vi x1)), (2, (vi x2)), (3, (vi x3)), (4, (vi x4))] [] (mm n I L P E c s) := by
  simp only [k_X11_hear_0, k_X11_hear_5, k_X11_hear_10, k_X11_hear_15, c_wantDay, c_wantQuestion, c_wantRight_t, c_wantWell, wt_well hT hl h1, wt_ask h2, wt_day h3, inR_lo h4, inR_hi h4, cond_true, cond_false, Vk_n, Nat.reduceAdd]
theorem rp_21 {x1 x2 x3 x4 : Int32} (hT : RTold I) (h1 : inR x1 0 (I 190 0 2 - 1) = true) (h2 : inR x2 0 5 = true) (h3 : inR x3 0 364 = true) (h4 : inR x4 0 (2 : Int32) = true) : V PR (d + 3) 278 0 [(0, (vR (some (186, 0)))), (1, (vi x1)), (2, (vi x2)), (3, (vi x3)), (4, (vi x4))] [] (mm n I L P E c s) = V PR (d + 3) 278 62 [(0, (vR (some (186, 0)))), (1, (vi x1)), (2, (vi x2)), (3, (vi x3)), (4, (vi x4))] [vi (0 : Int32)] (mm n (up3 I 186 0 0 0) L P E c s) := by
  simp only [k_X12_hear_0, k_X12_hear_11, k_X12_hear_24, k_X12_hear_32, k_X12_hear_39, k_X12_hear_49, c_isWell, c_isPlace, c_isDay, c_isState, c_isAsk, c_in, c_bad0 (thr0 _), Vk_v, Nat.reduceAdd, b2i_t, b2i_f, n1t, n0f, d0t, d1f, d2f, cond_true, cond_false, decide_true, Bool.not_true, Bool.not_false, up3_a (show 190 ≠ 186 by decide), k_X12_statesOf_v2_0, h1, h2, h3, h4]
theorem en_21 (h : Rl t I L P E c s) (hn : 6 * t + 6 ≤ n) (hN : n ≤ 3072) (K : ∀ v1 v2 v3 v4 : Nat, v1 < zW I → v2 < 6 → v3 < 365 → 0 ≤ v4 → v4 < 3 → sc I t 1 = nI v1 → sc I t 2 = nI v2 → sc I t 3 = nI v3 → sc I t 4 = nI v4 → inR (sc I t 1) 0 (I 190 0 2 - 1) = true → inR (sc I t 2) 0 5 = true → inR (sc I t 3) 0 364 = true → inR (sc I t 4) 0 (2 : Int32) = true → LGo (d + 30) n t 21 I L P E c s) : LGo (d + 30) n t 21 I L P E c s := by
  obtain ⟨⟨hE, hc, -, -⟩, hT, hl, -⟩ := id h
  cases h1 : inR (sc I t 1) 0 (I 190 0 2 - 1) with
  | false =>
    refine rf_21_0 (d := d + 28) 0 h hn hN ?_ ?_
    · simp only [k_X11_hear_0, c_wantWell, wt_well hT hl h1, cond_true, cond_false, Vk_n, Nat.reduceAdd, Vk_x f_154_2 (show 154 < 332 by decide)]
    · simp only [k_X12_hear_0, k_X12_hear_11, k_X12_hear_24, k_X12_hear_32, k_X12_hear_39, k_X12_hear_49, c_isWell, c_isPlace, c_isDay, c_isState, c_isAsk, c_in, c_bad0 (thr0 _), Vk_v, Nat.reduceAdd, b2i_t, b2i_f, n1t, n0f, d0t, d1f, d2f, cond_true, cond_false, decide_true, Bool.not_true, Bool.not_false, up3_a (show 190 ≠ 186 by decide), k_X12_statesOf_v2_0, refC_at hc (show 190 < 487 by decide) (show 190 ≠ 100 by decide), c_bad1 (thr0 _) d1f (show (0 : Int32) = nI 0 from rfl) (show 0 < 2 by decide), h1, k_X12_hear_62]
      rfl
  | true =>
    cases h2 : inR (sc I t 2) 0 5 with
    | false =>
      refine rf_21_1 (d := d + 28) 0 h hn hN ?_ ?_
      · simp only [k_X11_hear_0, k_X11_hear_5, c_wantQuestion, c_wantWell, wt_well hT hl h1, wt_ask h2, cond_true, cond_false, Vk_n, Nat.reduceAdd, Vk_x f_154_7 (show 154 < 332 by decide)]
      · simp only [k_X12_hear_0, k_X12_hear_11, k_X12_hear_24, k_X12_hear_32, k_X12_hear_39, k_X12_hear_49, c_isWell, c_isPlace, c_isDay, c_isState, c_isAsk, c_in, c_bad0 (thr0 _), Vk_v, Nat.reduceAdd, b2i_t, b2i_f, n1t, n0f, d0t, d1f, d2f, cond_true, cond_false, decide_true, Bool.not_true, Bool.not_false, up3_a (show 190 ≠ 186 by decide), k_X12_statesOf_v2_0, refC_at hc (show 190 < 487 by decide) (show 190 ≠ 100 by decide), c_bad1 (thr0 _) d2f (show (1 : Int32) = nI 1 from rfl) (show 1 < 2 by decide), h1, h2, k_X12_hear_62]
        rfl
    | true =>
      cases h3 : inR (sc I t 3) 0 364 with
      | false =>
        refine rf_21_1 (d := d + 28) 0 h hn hN ?_ ?_
        · simp only [k_X11_hear_0, k_X11_hear_5, k_X11_hear_10, c_wantDay, c_wantQuestion, c_wantWell, wt_well hT hl h1, wt_ask h2, wt_day h3, cond_true, cond_false, Vk_n, Nat.reduceAdd, Vk_x f_154_12 (show 154 < 332 by decide)]
        · simp only [k_X12_hear_0, k_X12_hear_11, k_X12_hear_24, k_X12_hear_32, k_X12_hear_39, k_X12_hear_49, c_isWell, c_isPlace, c_isDay, c_isState, c_isAsk, c_in, c_bad0 (thr0 _), Vk_v, Nat.reduceAdd, b2i_t, b2i_f, n1t, n0f, d0t, d1f, d2f, cond_true, cond_false, decide_true, Bool.not_true, Bool.not_false, up3_a (show 190 ≠ 186 by decide), k_X12_statesOf_v2_0, refC_at hc (show 190 < 487 by decide) (show 190 ≠ 100 by decide), c_bad1 (thr0 _) d2f (show (1 : Int32) = nI 1 from rfl) (show 1 < 2 by decide), h1, h2, h3, k_X12_hear_62]
          rfl
      | true =>
        cases h4 : inR (sc I t 4) 0 (2 : Int32) with
        | false =>
          refine rf_21_1 (d := d + 28) 0 h hn hN ?_ ?_
          · rcases inR_no h4 with g1 | ⟨g1, g2⟩
            · simp only [k_X11_hear_0, k_X11_hear_5, k_X11_hear_10, k_X11_hear_15, c_wantDay, c_wantQuestion, c_wantRight_t, c_wantWell, wt_well hT hl h1, wt_ask h2, wt_day h3, g1, cond_true, cond_false, Vk_n, Nat.reduceAdd, c_wantRight_f, Vk_x f_154_32 (show 154 < 332 by decide)]
            · simp only [k_X11_hear_0, k_X11_hear_5, k_X11_hear_10, k_X11_hear_15, c_wantDay, c_wantQuestion, c_wantRight_t, c_wantWell, wt_well hT hl h1, wt_ask h2, wt_day h3, g1, g2, cond_true, cond_false, Vk_n, Nat.reduceAdd, c_wantRight_f, Vk_x f_154_32 (show 154 < 332 by decide)]
          · simp only [k_X12_hear_0, k_X12_hear_11, k_X12_hear_24, k_X12_hear_32, k_X12_hear_39, k_X12_hear_49, c_isWell, c_isPlace, c_isDay, c_isState, c_isAsk, c_in, c_bad0 (thr0 _), Vk_v, Nat.reduceAdd, b2i_t, b2i_f, n1t, n0f, d0t, d1f, d2f, cond_true, cond_false, decide_true, Bool.not_true, Bool.not_false, up3_a (show 190 ≠ 186 by decide), k_X12_statesOf_v2_0, refC_at hc (show 190 < 487 by decide) (show 190 ≠ 100 by decide), c_bad1 (thr0 _) d2f (show (1 : Int32) = nI 1 from rfl) (show 1 < 2 by decide), h1, h2, h3, h4, k_X12_hear_62]
            rfl
        | true =>
          obtain ⟨v1, g1, e1⟩ := is_well hT h1
          obtain ⟨v2, g2, e2⟩ := is_ask h2
          obtain ⟨v3, g3, e3⟩ := is_day h3
          obtain ⟨v4, l4, g4, e4⟩ := inR_two (a := 0) (b := 2) (by decide) (by decide) h4
          exact K v1 v2 v3 v4 g1 g2 g3 l4 g4 e1 e2 e3 e4 h1 h2 h3 h4
theorem cp_33 {x1 x2 x3 : Int32} (hT : RTold I) (hl : RLand I L) (h1 : inR x1 0 (I 190 0 1 - 1) = true) (h2 : inR x2 (1 : Int32) (3 : Int32) = true) (h3 : inR x3 0 ((1 : Int32) <<< (I 190 0 2 &&& 31) - 1) = true) : V PR (d + 2) 171 0 [(0, (vR (some (100, 0)))), (1, (vi x1)), (2, (vi x2)), (3, (vi x3))] [] (mm n I L P E c s) = V PR (d + 2) 171 29 [(0, (vR (some (100, 0)))), (1, (vi x1)), (2, (vi x2)), (3, (vi x3))] [] (mm n I L P E c s) := by
  simp only [k_X11_riders_0, k_X11_riders_5, k_X11_riders_24, c_wantPlace, c_wantRight_t, c_wantWells, wt_place hT hl h1, inR_lo h2, inR_hi h2, wt_wells hT hl h3, cond_true, cond_false, Vk_n, Nat.reduceAdd]
theorem rp_33 {x1 x2 x3 : Int32} (hT : RTold I) (h1 : inR x1 0 (I 190 0 1 - 1) = true) (h2 : inR x2 (1 : Int32) (3 : Int32) = true) (h3 : inR x3 0 ((1 : Int32) <<< (I 190 0 2 &&& 31) - 1) = true) : V PR (d + 3) 302 0 [(0, (vR (some (186, 0)))), (1, (vi x1)), (2, (vi x2)), (3, (vi x3))] [] (mm n I L P E c s) = V PR (d + 3) 302 65 [(0, (vR (some (186, 0)))), (1, (vi x1)), (2, (vi x2)), (3, (vi x3))] [vi (0 : Int32)] (mm n (up3 I 186 0 0 0) L P E c s) := by
  simp only [k_X12_riders_0, k_X12_riders_11, k_X12_riders_24, k_X12_riders_34, k_X12_riders_52, c_isWell, c_isPlace, c_isDay, c_isState, c_isAsk, c_in, c_bad0 (thr0 _), Vk_v, Nat.reduceAdd, b2i_t, b2i_f, n1t, n0f, d0t, d1f, d2f, cond_true, cond_false, decide_true, Bool.not_true, Bool.not_false, up3_a (show 190 ≠ 186 by decide), k_X12_statesOf_v2_0, h1, h2, h3]
theorem en_33 (h : Rl t I L P E c s) (hn : 6 * t + 6 ≤ n) (hN : n ≤ 3072) (K : ∀ v1 v2 v3 : Nat, v1 < zP I → 1 ≤ v2 → v2 < 4 → v3 < 2 ^ zW I → sc I t 1 = nI v1 → sc I t 2 = nI v2 → sc I t 3 = nI v3 → inR (sc I t 1) 0 (I 190 0 1 - 1) = true → inR (sc I t 2) (1 : Int32) (3 : Int32) = true → inR (sc I t 3) 0 ((1 : Int32) <<< (I 190 0 2 &&& 31) - 1) = true → LGo (d + 30) n t 33 I L P E c s) : LGo (d + 30) n t 33 I L P E c s := by
  obtain ⟨⟨hE, hc, -, -⟩, hT, hl, -⟩ := id h
  cases h1 : inR (sc I t 1) 0 (I 190 0 1 - 1) with
  | false =>
    refine rf_33_0 (d := d + 28) 0 h hn hN ?_ ?_
    · simp only [k_X11_riders_0, c_wantPlace, wt_place hT hl h1, cond_true, cond_false, Vk_n, Nat.reduceAdd, Vk_x f_171_2 (show 171 < 332 by decide)]
    · simp only [k_X12_riders_0, k_X12_riders_11, k_X12_riders_24, k_X12_riders_34, k_X12_riders_52, c_isWell, c_isPlace, c_isDay, c_isState, c_isAsk, c_in, c_bad0 (thr0 _), Vk_v, Nat.reduceAdd, b2i_t, b2i_f, n1t, n0f, d0t, d1f, d2f, cond_true, cond_false, decide_true, Bool.not_true, Bool.not_false, up3_a (show 190 ≠ 186 by decide), k_X12_statesOf_v2_0, refC_at hc (show 190 < 487 by decide) (show 190 ≠ 100 by decide), c_bad1 (thr0 _) d1f (show (0 : Int32) = nI 0 from rfl) (show 0 < 2 by decide), h1, k_X12_riders_65]
      rfl
  | true =>
    cases h2 : inR (sc I t 2) (1 : Int32) (3 : Int32) with
    | false =>
      refine rf_33_1 (d := d + 28) 0 h hn hN ?_ ?_
      · rcases inR_no h2 with g1 | ⟨g1, g2⟩
        · simp only [k_X11_riders_0, k_X11_riders_5, c_wantPlace, c_wantRight_t, wt_place hT hl h1, g1, cond_true, cond_false, Vk_n, Nat.reduceAdd, c_wantRight_f, Vk_x f_171_21 (show 171 < 332 by decide)]
        · simp only [k_X11_riders_0, k_X11_riders_5, c_wantPlace, c_wantRight_t, wt_place hT hl h1, g1, g2, cond_true, cond_false, Vk_n, Nat.reduceAdd, c_wantRight_f, Vk_x f_171_21 (show 171 < 332 by decide)]
      · simp only [k_X12_riders_0, k_X12_riders_11, k_X12_riders_24, k_X12_riders_34, k_X12_riders_52, c_isWell, c_isPlace, c_isDay, c_isState, c_isAsk, c_in, c_bad0 (thr0 _), Vk_v, Nat.reduceAdd, b2i_t, b2i_f, n1t, n0f, d0t, d1f, d2f, cond_true, cond_false, decide_true, Bool.not_true, Bool.not_false, up3_a (show 190 ≠ 186 by decide), k_X12_statesOf_v2_0, refC_at hc (show 190 < 487 by decide) (show 190 ≠ 100 by decide), c_bad1 (thr0 _) d2f (show (1 : Int32) = nI 1 from rfl) (show 1 < 2 by decide), h1, h2, k_X12_riders_65]
        rfl
    | true =>
      cases h3 : inR (sc I t 3) 0 ((1 : Int32) <<< (I 190 0 2 &&& 31) - 1) with
      | false =>
        refine rf_33_1 (d := d + 28) 0 h hn hN ?_ ?_
        · simp only [k_X11_riders_0, k_X11_riders_5, k_X11_riders_24, c_wantPlace, c_wantRight_t, c_wantWells, wt_place hT hl h1, inR_lo h2, inR_hi h2, wt_wells hT hl h3, cond_true, cond_false, Vk_n, Nat.reduceAdd, Vk_x f_171_26 (show 171 < 332 by decide)]
        · simp only [k_X12_riders_0, k_X12_riders_11, k_X12_riders_24, k_X12_riders_34, k_X12_riders_52, c_isWell, c_isPlace, c_isDay, c_isState, c_isAsk, c_in, c_bad0 (thr0 _), Vk_v, Nat.reduceAdd, b2i_t, b2i_f, n1t, n0f, d0t, d1f, d2f, cond_true, cond_false, decide_true, Bool.not_true, Bool.not_false, up3_a (show 190 ≠ 186 by decide), k_X12_statesOf_v2_0, refC_at hc (show 190 < 487 by decide) (show 190 ≠ 100 by decide), c_bad1 (thr0 _) d2f (show (1 : Int32) = nI 1 from rfl) (show 1 < 2 by decide), h1, h2, h3, k_X12_riders_65]
          rfl
      | true =>
        obtain ⟨v1, g1, e1⟩ := is_place hT h1
        obtain ⟨v2, l2, g2, e2⟩ := inR_two (a := 1) (b := 3) (by decide) (by decide) h2
        obtain ⟨v3, g3, e3⟩ := is_wells hT h3
        exact K v1 v2 v3 g1 l2 g2 g3 e1 e2 e3 h1 h2 h3
theorem cp_34 {x1 x2 x3 : Int32} (hT : RTold I) (hl : RLand I L) (h1 : inR x2 0 (I 190 0 2 - 1) = true) (h2 : inR x1 0 5 = true) (h3 : inR x3 0 (99 : Int32) = true) : V PR (d + 2) 173 0 [(0, (vR (some (100, 0)))), (1, (vi x1)), (2, (vi x2)), (3, (vi x3))] [] (mm n I L P E c s) = V PR (d + 2) 173 29 [(0, (vR (some (100, 0)))), (1, (vi x1)), (2, (vi x2)), (3, (vi x3))] [] (mm n I L P E c s) := by
  simp only [k_X11_offer_0, k_X11_offer_5, k_X11_offer_10, c_wantBuyer, c_wantRight_t, c_wantWell, wt_well hT hl h1, wt_ask h2, inR_lo h3, inR_hi h3, cond_true, cond_false, Vk_n, Nat.reduceAdd]
theorem rp_34 {x1 x2 x3 : Int32} (hT : RTold I) (h1 : inR x2 0 (I 190 0 2 - 1) = true) (h2 : inR x1 0 5 = true) (h3 : inR x3 0 (99 : Int32) = true) : V PR (d + 3) 303 0 [(0, (vR (some (186, 0)))), (1, (vi x1)), (2, (vi x2)), (3, (vi x3))] [] (mm n I L P E c s) = V PR (d + 3) 303 57 [(0, (vR (some (186, 0)))), (1, (vi x1)), (2, (vi x2)), (3, (vi x3))] [vi (0 : Int32)] (mm n (up3 I 186 0 0 0) L P E c s) := by
  simp only [k_X12_offer_0, k_X12_offer_11, k_X12_offer_24, k_X12_offer_34, k_X12_offer_44, c_isWell, c_isPlace, c_isDay, c_isState, c_isAsk, c_in, c_bad0 (thr0 _), Vk_v, Nat.reduceAdd, b2i_t, b2i_f, n1t, n0f, d0t, d1f, d2f, cond_true, cond_false, decide_true, Bool.not_true, Bool.not_false, up3_a (show 190 ≠ 186 by decide), k_X12_statesOf_v2_0, h1, h2, h3]
theorem en_34 (h : Rl t I L P E c s) (hn : 6 * t + 6 ≤ n) (hN : n ≤ 3072) (K : ∀ v1 v2 v3 : Nat, v1 < zW I → v2 < 6 → 0 ≤ v3 → v3 < 100 → sc I t 2 = nI v1 → sc I t 1 = nI v2 → sc I t 3 = nI v3 → inR (sc I t 2) 0 (I 190 0 2 - 1) = true → inR (sc I t 1) 0 5 = true → inR (sc I t 3) 0 (99 : Int32) = true → LGo (d + 30) n t 34 I L P E c s) : LGo (d + 30) n t 34 I L P E c s := by
  obtain ⟨⟨hE, hc, -, -⟩, hT, hl, -⟩ := id h
  cases h1 : inR (sc I t 2) 0 (I 190 0 2 - 1) with
  | false =>
    refine rf_34_0 (d := d + 28) 0 h hn hN ?_ ?_
    · simp only [k_X11_offer_0, c_wantWell, wt_well hT hl h1, cond_true, cond_false, Vk_n, Nat.reduceAdd, Vk_x f_173_2 (show 173 < 332 by decide)]
    · simp only [k_X12_offer_0, k_X12_offer_11, k_X12_offer_24, k_X12_offer_34, k_X12_offer_44, c_isWell, c_isPlace, c_isDay, c_isState, c_isAsk, c_in, c_bad0 (thr0 _), Vk_v, Nat.reduceAdd, b2i_t, b2i_f, n1t, n0f, d0t, d1f, d2f, cond_true, cond_false, decide_true, Bool.not_true, Bool.not_false, up3_a (show 190 ≠ 186 by decide), k_X12_statesOf_v2_0, refC_at hc (show 190 < 487 by decide) (show 190 ≠ 100 by decide), c_bad1 (thr0 _) d1f (show (0 : Int32) = nI 0 from rfl) (show 0 < 2 by decide), h1, k_X12_offer_57]
      rfl
  | true =>
    cases h2 : inR (sc I t 1) 0 5 with
    | false =>
      refine rf_34_1 (d := d + 28) 0 h hn hN ?_ ?_
      · simp only [k_X11_offer_0, k_X11_offer_5, c_wantBuyer, c_wantWell, wt_well hT hl h1, wt_ask h2, cond_true, cond_false, Vk_n, Nat.reduceAdd, Vk_x f_173_7 (show 173 < 332 by decide)]
      · simp only [k_X12_offer_0, k_X12_offer_11, k_X12_offer_24, k_X12_offer_34, k_X12_offer_44, c_isWell, c_isPlace, c_isDay, c_isState, c_isAsk, c_in, c_bad0 (thr0 _), Vk_v, Nat.reduceAdd, b2i_t, b2i_f, n1t, n0f, d0t, d1f, d2f, cond_true, cond_false, decide_true, Bool.not_true, Bool.not_false, up3_a (show 190 ≠ 186 by decide), k_X12_statesOf_v2_0, refC_at hc (show 190 < 487 by decide) (show 190 ≠ 100 by decide), c_bad1 (thr0 _) d2f (show (1 : Int32) = nI 1 from rfl) (show 1 < 2 by decide), h1, h2, k_X12_offer_57]
        rfl
    | true =>
      cases h3 : inR (sc I t 3) 0 (99 : Int32) with
      | false =>
        refine rf_34_1 (d := d + 28) 0 h hn hN ?_ ?_
        · rcases inR_no h3 with g1 | ⟨g1, g2⟩
          · simp only [k_X11_offer_0, k_X11_offer_5, k_X11_offer_10, c_wantBuyer, c_wantRight_t, c_wantWell, wt_well hT hl h1, wt_ask h2, g1, cond_true, cond_false, Vk_n, Nat.reduceAdd, c_wantRight_f, Vk_x f_173_26 (show 173 < 332 by decide)]
          · simp only [k_X11_offer_0, k_X11_offer_5, k_X11_offer_10, c_wantBuyer, c_wantRight_t, c_wantWell, wt_well hT hl h1, wt_ask h2, g1, g2, cond_true, cond_false, Vk_n, Nat.reduceAdd, c_wantRight_f, Vk_x f_173_26 (show 173 < 332 by decide)]
        · simp only [k_X12_offer_0, k_X12_offer_11, k_X12_offer_24, k_X12_offer_34, k_X12_offer_44, c_isWell, c_isPlace, c_isDay, c_isState, c_isAsk, c_in, c_bad0 (thr0 _), Vk_v, Nat.reduceAdd, b2i_t, b2i_f, n1t, n0f, d0t, d1f, d2f, cond_true, cond_false, decide_true, Bool.not_true, Bool.not_false, up3_a (show 190 ≠ 186 by decide), k_X12_statesOf_v2_0, refC_at hc (show 190 < 487 by decide) (show 190 ≠ 100 by decide), c_bad1 (thr0 _) d2f (show (1 : Int32) = nI 1 from rfl) (show 1 < 2 by decide), h1, h2, h3, k_X12_offer_57]
          rfl
      | true =>
        obtain ⟨v1, g1, e1⟩ := is_well hT h1
        obtain ⟨v2, g2, e2⟩ := is_ask h2
        obtain ⟨v3, l3, g3, e3⟩ := inR_two (a := 0) (b := 99) (by decide) (by decide) h3
        exact K v1 v2 v3 g1 g2 l3 g3 e1 e2 e3 h1 h2 h3
theorem cp_36 {x1 x2 : Int32} (hT : RTold I) (hl : RLand I L) (h1 : inR x1 0 364 = true) (h2 : inR x2 0 (6 : Int32) = true) : V PR (d + 2) 175 0 [(0, (vR (some (100, 0)))), (1, (vi x1)), (2, (vi x2))] [] (mm n I L P E c s) = V PR (d + 2) 175 24 [(0, (vR (some (100, 0)))), (1, (vi x1)), (2, (vi x2))] [] (mm n I L P E c s) := by
  simp only [k_X11_sold_0, k_X11_sold_5, c_wantDay, c_wantRight_t, wt_day h1, inR_lo h2, inR_hi h2, cond_true, cond_false, Vk_n, Nat.reduceAdd]
theorem rp_36 {x1 x2 : Int32} (hT : RTold I) (h1 : inR x1 0 364 = true) (h2 : inR x2 0 (6 : Int32) = true) : V PR (d + 3) 307 0 [(0, (vR (some (186, 0)))), (1, (vi x1)), (2, (vi x2))] [] (mm n I L P E c s) = V PR (d + 3) 307 33 [(0, (vR (some (186, 0)))), (1, (vi x1)), (2, (vi x2))] [vi (0 : Int32)] (mm n (up3 I 186 0 0 0) L P E c s) := by
  simp only [k_X12_sold_0, k_X12_sold_10, k_X12_sold_20, c_isWell, c_isPlace, c_isDay, c_isState, c_isAsk, c_in, c_bad0 (thr0 _), Vk_v, Nat.reduceAdd, b2i_t, b2i_f, n1t, n0f, d0t, d1f, d2f, cond_true, cond_false, decide_true, Bool.not_true, Bool.not_false, up3_a (show 190 ≠ 186 by decide), k_X12_statesOf_v2_0, h1, h2]
theorem en_36 (h : Rl t I L P E c s) (hn : 6 * t + 6 ≤ n) (hN : n ≤ 3072) (K : ∀ v1 v2 : Nat, v1 < 365 → 0 ≤ v2 → v2 < 7 → sc I t 1 = nI v1 → sc I t 2 = nI v2 → inR (sc I t 1) 0 364 = true → inR (sc I t 2) 0 (6 : Int32) = true → LGo (d + 30) n t 36 I L P E c s) : LGo (d + 30) n t 36 I L P E c s := by
  obtain ⟨⟨hE, hc, -, -⟩, hT, hl, -⟩ := id h
  cases h1 : inR (sc I t 1) 0 364 with
  | false =>
    refine rf_36_1 (d := d + 28) 0 h hn hN ?_ ?_
    · simp only [k_X11_sold_0, c_wantDay, wt_day h1, cond_true, cond_false, Vk_n, Nat.reduceAdd, Vk_x f_175_2 (show 175 < 332 by decide)]
    · simp only [k_X12_sold_0, k_X12_sold_10, k_X12_sold_20, c_isWell, c_isPlace, c_isDay, c_isState, c_isAsk, c_in, c_bad0 (thr0 _), Vk_v, Nat.reduceAdd, b2i_t, b2i_f, n1t, n0f, d0t, d1f, d2f, cond_true, cond_false, decide_true, Bool.not_true, Bool.not_false, up3_a (show 190 ≠ 186 by decide), k_X12_statesOf_v2_0, refC_at hc (show 190 < 487 by decide) (show 190 ≠ 100 by decide), c_bad1 (thr0 _) d1f (show (1 : Int32) = nI 1 from rfl) (show 1 < 2 by decide), h1, k_X12_sold_33]
      rfl
  | true =>
    cases h2 : inR (sc I t 2) 0 (6 : Int32) with
    | false =>
      refine rf_36_1 (d := d + 28) 0 h hn hN ?_ ?_
      · rcases inR_no h2 with g1 | ⟨g1, g2⟩
        · simp only [k_X11_sold_0, k_X11_sold_5, c_wantDay, c_wantRight_t, wt_day h1, g1, cond_true, cond_false, Vk_n, Nat.reduceAdd, c_wantRight_f, Vk_x f_175_21 (show 175 < 332 by decide)]
        · simp only [k_X11_sold_0, k_X11_sold_5, c_wantDay, c_wantRight_t, wt_day h1, g1, g2, cond_true, cond_false, Vk_n, Nat.reduceAdd, c_wantRight_f, Vk_x f_175_21 (show 175 < 332 by decide)]
      · simp only [k_X12_sold_0, k_X12_sold_10, k_X12_sold_20, c_isWell, c_isPlace, c_isDay, c_isState, c_isAsk, c_in, c_bad0 (thr0 _), Vk_v, Nat.reduceAdd, b2i_t, b2i_f, n1t, n0f, d0t, d1f, d2f, cond_true, cond_false, decide_true, Bool.not_true, Bool.not_false, up3_a (show 190 ≠ 186 by decide), k_X12_statesOf_v2_0, refC_at hc (show 190 < 487 by decide) (show 190 ≠ 100 by decide), c_bad1 (thr0 _) d1f (show (1 : Int32) = nI 1 from rfl) (show 1 < 2 by decide), h1, h2, k_X12_sold_33]
        rfl
    | true =>
      obtain ⟨v1, g1, e1⟩ := is_day h1
      obtain ⟨v2, l2, g2, e2⟩ := inR_two (a := 0) (b := 6) (by decide) (by decide) h2
      exact K v1 v2 g1 l2 g2 e1 e2 h1 h2
theorem cp_37 {x1 x2 : Int32} (hT : RTold I) (hl : RLand I L) (h1 : inR x1 (1 : Int32) (256 : Int32) = true) (h2 : inR x2 0 (3 : Int32) = true) : V PR (d + 2) 176 0 [(0, (vR (some (100, 0)))), (1, (vi x1)), (2, (vi x2))] [] (mm n I L P E c s) = V PR (d + 2) 176 39 [(0, (vR (some (100, 0)))), (1, (vi x1)), (2, (vi x2))] [] (mm n I L P E c s) := by
  simp only [k_X11_marks_0, k_X11_marks_21, c_wantRight_t, inR_lo h1, inR_hi h1, inR_lo h2, inR_hi h2, cond_true, cond_false, Vk_n, Nat.reduceAdd]
theorem rp_37 {x1 x2 : Int32} (hT : RTold I) (h1 : inR x1 (1 : Int32) (256 : Int32) = true) (h2 : inR x2 0 (3 : Int32) = true) : V PR (d + 3) 309 0 [(0, (vR (some (186, 0)))), (1, (vi x1)), (2, (vi x2))] [] (mm n I L P E c s) = V PR (d + 3) 309 36 [(0, (vR (some (186, 0)))), (1, (vi x1)), (2, (vi x2))] [vi (0 : Int32)] (mm n (up3 I 186 0 0 0) L P E c s) := by
  simp only [k_X12_marks_0, k_X12_marks_14, k_X12_marks_23, c_isWell, c_isPlace, c_isDay, c_isState, c_isAsk, c_in, c_bad0 (thr0 _), Vk_v, Nat.reduceAdd, b2i_t, b2i_f, n1t, n0f, d0t, d1f, d2f, cond_true, cond_false, decide_true, Bool.not_true, Bool.not_false, up3_a (show 190 ≠ 186 by decide), k_X12_statesOf_v2_0, h1, h2]
theorem en_37 (h : Rl t I L P E c s) (hn : 6 * t + 6 ≤ n) (hN : n ≤ 3072) (K : ∀ v1 v2 : Nat, 1 ≤ v1 → v1 < 257 → 0 ≤ v2 → v2 < 4 → sc I t 1 = nI v1 → sc I t 2 = nI v2 → inR (sc I t 1) (1 : Int32) (256 : Int32) = true → inR (sc I t 2) 0 (3 : Int32) = true → LGo (d + 30) n t 37 I L P E c s) : LGo (d + 30) n t 37 I L P E c s := by
  obtain ⟨⟨hE, hc, -, -⟩, hT, hl, -⟩ := id h
  cases h1 : inR (sc I t 1) (1 : Int32) (256 : Int32) with
  | false =>
    refine rf_37_1 (d := d + 28) 0 h hn hN ?_ ?_
    · rcases inR_no h1 with g1 | ⟨g1, g2⟩
      · simp only [k_X11_marks_0, c_wantRight_t, g1, cond_true, cond_false, Vk_n, Nat.reduceAdd, c_wantRight_f, Vk_x f_176_18 (show 176 < 332 by decide)]
      · simp only [k_X11_marks_0, c_wantRight_t, g1, g2, cond_true, cond_false, Vk_n, Nat.reduceAdd, c_wantRight_f, Vk_x f_176_18 (show 176 < 332 by decide)]
    · simp only [k_X12_marks_0, k_X12_marks_14, k_X12_marks_23, c_isWell, c_isPlace, c_isDay, c_isState, c_isAsk, c_in, c_bad0 (thr0 _), Vk_v, Nat.reduceAdd, b2i_t, b2i_f, n1t, n0f, d0t, d1f, d2f, cond_true, cond_false, decide_true, Bool.not_true, Bool.not_false, up3_a (show 190 ≠ 186 by decide), k_X12_statesOf_v2_0, refC_at hc (show 190 < 487 by decide) (show 190 ≠ 100 by decide), c_bad1 (thr0 _) d1f (show (1 : Int32) = nI 1 from rfl) (show 1 < 2 by decide), h1, k_X12_marks_36]
      rfl
  | true =>
    cases h2 : inR (sc I t 2) 0 (3 : Int32) with
    | false =>
      refine rf_37_1 (d := d + 28) 0 h hn hN ?_ ?_
      · rcases inR_no h2 with g1 | ⟨g1, g2⟩
        · simp only [k_X11_marks_0, k_X11_marks_21, c_wantRight_t, inR_lo h1, inR_hi h1, g1, cond_true, cond_false, Vk_n, Nat.reduceAdd, c_wantRight_f, Vk_x f_176_36 (show 176 < 332 by decide)]
        · simp only [k_X11_marks_0, k_X11_marks_21, c_wantRight_t, inR_lo h1, inR_hi h1, g1, g2, cond_true, cond_false, Vk_n, Nat.reduceAdd, c_wantRight_f, Vk_x f_176_36 (show 176 < 332 by decide)]
      · simp only [k_X12_marks_0, k_X12_marks_14, k_X12_marks_23, c_isWell, c_isPlace, c_isDay, c_isState, c_isAsk, c_in, c_bad0 (thr0 _), Vk_v, Nat.reduceAdd, b2i_t, b2i_f, n1t, n0f, d0t, d1f, d2f, cond_true, cond_false, decide_true, Bool.not_true, Bool.not_false, up3_a (show 190 ≠ 186 by decide), k_X12_statesOf_v2_0, refC_at hc (show 190 < 487 by decide) (show 190 ≠ 100 by decide), c_bad1 (thr0 _) d1f (show (1 : Int32) = nI 1 from rfl) (show 1 < 2 by decide), h1, h2, k_X12_marks_36]
        rfl
    | true =>
      obtain ⟨v1, l1, g1, e1⟩ := inR_two (a := 1) (b := 256) (by decide) (by decide) h1
      obtain ⟨v2, l2, g2, e2⟩ := inR_two (a := 0) (b := 3) (by decide) (by decide) h2
      exact K v1 v2 l1 g1 l2 g2 e1 e2 h1 h2
theorem cp_38 {x1 x2 x3 : Int32} (hT : RTold I) (hl : RLand I L) (h1 : inR x1 (1 : Int32) (8 : Int32) = true) (h2 : inR x2 0 (3 : Int32) = true) : V PR (d + 2) 177 0 [(0, (vR (some (100, 0)))), (1, (vi x1)), (2, (vi x2)), (3, (vi x3))] [] (mm n I L P E c s) = V PR (d + 2) 177 38 [(0, (vR (some (100, 0)))), (1, (vi x1)), (2, (vi x2)), (3, (vi x3))] [] (mm n I L P E c s) := by
  simp only [k_X11_code_0, k_X11_code_20, c_wantRight_t, inR_lo h1, inR_hi h1, inR_lo h2, inR_hi h2, cond_true, cond_false, Vk_n, Nat.reduceAdd]
theorem rp_38 {x1 x2 x3 : Int32} (hT : RTold I) (h1 : inR x1 (1 : Int32) (8 : Int32) = true) (h2 : inR x2 0 (3 : Int32) = true) : V PR (d + 3) 310 0 [(0, (vR (some (186, 0)))), (1, (vi x1)), (2, (vi x2)), (3, (vi x3))] [] (mm n I L P E c s) = V PR (d + 3) 310 35 [(0, (vR (some (186, 0)))), (1, (vi x1)), (2, (vi x2)), (3, (vi x3))] [vi (0 : Int32)] (mm n (up3 I 186 0 0 0) L P E c s) := by
  simp only [k_X12_code_0, k_X12_code_13, k_X12_code_22, c_isWell, c_isPlace, c_isDay, c_isState, c_isAsk, c_in, c_bad0 (thr0 _), Vk_v, Nat.reduceAdd, b2i_t, b2i_f, n1t, n0f, d0t, d1f, d2f, cond_true, cond_false, decide_true, Bool.not_true, Bool.not_false, up3_a (show 190 ≠ 186 by decide), k_X12_statesOf_v2_0, h1, h2]
theorem en_38 (h : Rl t I L P E c s) (hn : 6 * t + 6 ≤ n) (hN : n ≤ 3072) (K : ∀ v1 v2 : Nat, 1 ≤ v1 → v1 < 9 → 0 ≤ v2 → v2 < 4 → sc I t 1 = nI v1 → sc I t 2 = nI v2 → inR (sc I t 1) (1 : Int32) (8 : Int32) = true → inR (sc I t 2) 0 (3 : Int32) = true → LGo (d + 30) n t 38 I L P E c s) : LGo (d + 30) n t 38 I L P E c s := by
  obtain ⟨⟨hE, hc, -, -⟩, hT, hl, -⟩ := id h
  cases h1 : inR (sc I t 1) (1 : Int32) (8 : Int32) with
  | false =>
    refine rf_38_1 (d := d + 28) 0 h hn hN ?_ ?_
    · rcases inR_no h1 with g1 | ⟨g1, g2⟩
      · simp only [k_X11_code_0, c_wantRight_t, g1, cond_true, cond_false, Vk_n, Nat.reduceAdd, c_wantRight_f, Vk_x f_177_17 (show 177 < 332 by decide)]
      · simp only [k_X11_code_0, c_wantRight_t, g1, g2, cond_true, cond_false, Vk_n, Nat.reduceAdd, c_wantRight_f, Vk_x f_177_17 (show 177 < 332 by decide)]
    · simp only [k_X12_code_0, k_X12_code_13, k_X12_code_22, c_isWell, c_isPlace, c_isDay, c_isState, c_isAsk, c_in, c_bad0 (thr0 _), Vk_v, Nat.reduceAdd, b2i_t, b2i_f, n1t, n0f, d0t, d1f, d2f, cond_true, cond_false, decide_true, Bool.not_true, Bool.not_false, up3_a (show 190 ≠ 186 by decide), k_X12_statesOf_v2_0, refC_at hc (show 190 < 487 by decide) (show 190 ≠ 100 by decide), c_bad1 (thr0 _) d1f (show (1 : Int32) = nI 1 from rfl) (show 1 < 2 by decide), h1, k_X12_code_35]
      rfl
  | true =>
    cases h2 : inR (sc I t 2) 0 (3 : Int32) with
    | false =>
      refine rf_38_1 (d := d + 28) 0 h hn hN ?_ ?_
      · rcases inR_no h2 with g1 | ⟨g1, g2⟩
        · simp only [k_X11_code_0, k_X11_code_20, c_wantRight_t, inR_lo h1, inR_hi h1, g1, cond_true, cond_false, Vk_n, Nat.reduceAdd, c_wantRight_f, Vk_x f_177_35 (show 177 < 332 by decide)]
        · simp only [k_X11_code_0, k_X11_code_20, c_wantRight_t, inR_lo h1, inR_hi h1, g1, g2, cond_true, cond_false, Vk_n, Nat.reduceAdd, c_wantRight_f, Vk_x f_177_35 (show 177 < 332 by decide)]
      · simp only [k_X12_code_0, k_X12_code_13, k_X12_code_22, c_isWell, c_isPlace, c_isDay, c_isState, c_isAsk, c_in, c_bad0 (thr0 _), Vk_v, Nat.reduceAdd, b2i_t, b2i_f, n1t, n0f, d0t, d1f, d2f, cond_true, cond_false, decide_true, Bool.not_true, Bool.not_false, up3_a (show 190 ≠ 186 by decide), k_X12_statesOf_v2_0, refC_at hc (show 190 < 487 by decide) (show 190 ≠ 100 by decide), c_bad1 (thr0 _) d1f (show (1 : Int32) = nI 1 from rfl) (show 1 < 2 by decide), h1, h2, k_X12_code_35]
        rfl
    | true =>
      obtain ⟨v1, l1, g1, e1⟩ := inR_two (a := 1) (b := 8) (by decide) (by decide) h1
      obtain ⟨v2, l2, g2, e2⟩ := inR_two (a := 0) (b := 3) (by decide) (by decide) h2
      exact K v1 v2 l1 g1 l2 g2 e1 e2 h1 h2
theorem cp_39 {x1 x2 x3 : Int32} (hT : RTold I) (hl : RLand I L) (h1 : inR x1 0 (I 190 0 2 - 1) = true) (h2 : inR x3 0 (16 : Int32) = true) : V PR (d + 2) 180 0 [(0, (vR (some (100, 0)))), (1, (vi x1)), (2, (vi x2)), (3, (vi x3))] [] (mm n I L P E c s) = V PR (d + 2) 180 24 [(0, (vR (some (100, 0)))), (1, (vi x1)), (2, (vi x2)), (3, (vi x3))] [] (mm n I L P E c s) := by
  simp only [k_X11_year_0, k_X11_year_5, c_wantRight_t, c_wantWell, wt_well hT hl h1, inR_lo h2, inR_hi h2, cond_true, cond_false, Vk_n, Nat.reduceAdd]
theorem rp_39 {x1 x2 x3 : Int32} (hT : RTold I) (h1 : inR x1 0 (I 190 0 2 - 1) = true) (h2 : inR x3 0 (16 : Int32) = true) : V PR (d + 3) 312 0 [(0, (vR (some (186, 0)))), (1, (vi x1)), (2, (vi x2)), (3, (vi x3))] [] (mm n I L P E c s) = V PR (d + 3) 312 48 [(0, (vR (some (186, 0)))), (1, (vi x1)), (2, (vi x2)), (3, (vi x3))] [vi (0 : Int32)] (mm n (up3 I 186 0 0 0) L P E c s) := by
  simp only [k_X12_year_0, k_X12_year_11, k_X12_year_24, k_X12_year_35, c_isWell, c_isPlace, c_isDay, c_isState, c_isAsk, c_in, c_bad0 (thr0 _), Vk_v, Nat.reduceAdd, b2i_t, b2i_f, n1t, n0f, d0t, d1f, d2f, cond_true, cond_false, decide_true, Bool.not_true, Bool.not_false, up3_a (show 190 ≠ 186 by decide), k_X12_statesOf_v2_0, h1, h2]
theorem en_39 (h : Rl t I L P E c s) (hn : 6 * t + 6 ≤ n) (hN : n ≤ 3072) (K : ∀ v1 v2 : Nat, v1 < zW I → 0 ≤ v2 → v2 < 17 → sc I t 1 = nI v1 → sc I t 3 = nI v2 → inR (sc I t 1) 0 (I 190 0 2 - 1) = true → inR (sc I t 3) 0 (16 : Int32) = true → LGo (d + 30) n t 39 I L P E c s) : LGo (d + 30) n t 39 I L P E c s := by
  obtain ⟨⟨hE, hc, -, -⟩, hT, hl, -⟩ := id h
  cases h1 : inR (sc I t 1) 0 (I 190 0 2 - 1) with
  | false =>
    refine rf_39_0 (d := d + 28) 0 h hn hN ?_ ?_
    · simp only [k_X11_year_0, c_wantWell, wt_well hT hl h1, cond_true, cond_false, Vk_n, Nat.reduceAdd, Vk_x f_180_2 (show 180 < 332 by decide)]
    · simp only [k_X12_year_0, k_X12_year_11, k_X12_year_24, k_X12_year_35, c_isWell, c_isPlace, c_isDay, c_isState, c_isAsk, c_in, c_bad0 (thr0 _), Vk_v, Nat.reduceAdd, b2i_t, b2i_f, n1t, n0f, d0t, d1f, d2f, cond_true, cond_false, decide_true, Bool.not_true, Bool.not_false, up3_a (show 190 ≠ 186 by decide), k_X12_statesOf_v2_0, refC_at hc (show 190 < 487 by decide) (show 190 ≠ 100 by decide), c_bad1 (thr0 _) d1f (show (0 : Int32) = nI 0 from rfl) (show 0 < 2 by decide), h1, k_X12_year_48]
      rfl
  | true =>
    cases h2 : inR (sc I t 3) 0 (16 : Int32) with
    | false =>
      refine rf_39_1 (d := d + 28) 0 h hn hN ?_ ?_
      · rcases inR_no h2 with g1 | ⟨g1, g2⟩
        · simp only [k_X11_year_0, k_X11_year_5, c_wantRight_t, c_wantWell, wt_well hT hl h1, g1, cond_true, cond_false, Vk_n, Nat.reduceAdd, c_wantRight_f, Vk_x f_180_21 (show 180 < 332 by decide)]
        · simp only [k_X11_year_0, k_X11_year_5, c_wantRight_t, c_wantWell, wt_well hT hl h1, g1, g2, cond_true, cond_false, Vk_n, Nat.reduceAdd, c_wantRight_f, Vk_x f_180_21 (show 180 < 332 by decide)]
      · simp only [k_X12_year_0, k_X12_year_11, k_X12_year_24, k_X12_year_35, c_isWell, c_isPlace, c_isDay, c_isState, c_isAsk, c_in, c_bad0 (thr0 _), Vk_v, Nat.reduceAdd, b2i_t, b2i_f, n1t, n0f, d0t, d1f, d2f, cond_true, cond_false, decide_true, Bool.not_true, Bool.not_false, up3_a (show 190 ≠ 186 by decide), k_X12_statesOf_v2_0, refC_at hc (show 190 < 487 by decide) (show 190 ≠ 100 by decide), c_bad1 (thr0 _) d2f (show (1 : Int32) = nI 1 from rfl) (show 1 < 2 by decide), h1, h2, k_X12_year_48]
        rfl
    | true =>
      obtain ⟨v1, g1, e1⟩ := is_well hT h1
      obtain ⟨v2, l2, g2, e2⟩ := inR_two (a := 0) (b := 16) (by decide) (by decide) h2
      exact K v1 v2 g1 l2 g2 e1 e2 h1 h2
theorem cp_40 {x1 x2 : Int32} (hT : RTold I) (hl : RLand I L) (h1 : inR x2 0 (16 : Int32) = true) : V PR (d + 2) 181 0 [(0, (vR (some (100, 0)))), (1, (vi x1)), (2, (vi x2))] [] (mm n I L P E c s) = V PR (d + 2) 181 19 [(0, (vR (some (100, 0)))), (1, (vi x1)), (2, (vi x2))] [] (mm n I L P E c s) := by
  simp only [k_X11_drought_0, c_wantRight_t, inR_lo h1, inR_hi h1, cond_true, cond_false, Vk_n, Nat.reduceAdd]
theorem rp_40 {x1 x2 : Int32} (hT : RTold I) (h1 : inR x2 0 (16 : Int32) = true) : V PR (d + 3) 313 0 [(0, (vR (some (186, 0)))), (1, (vi x1)), (2, (vi x2))] [] (mm n I L P E c s) = V PR (d + 3) 313 26 [(0, (vR (some (186, 0)))), (1, (vi x1)), (2, (vi x2))] [vi (0 : Int32)] (mm n (up3 I 186 0 0 0) L P E c s) := by
  simp only [k_X12_drought_0, k_X12_drought_13, c_isWell, c_isPlace, c_isDay, c_isState, c_isAsk, c_in, c_bad0 (thr0 _), Vk_v, Nat.reduceAdd, b2i_t, b2i_f, n1t, n0f, d0t, d1f, d2f, cond_true, cond_false, decide_true, Bool.not_true, Bool.not_false, up3_a (show 190 ≠ 186 by decide), k_X12_statesOf_v2_0, h1]
theorem en_40 (h : Rl t I L P E c s) (hn : 6 * t + 6 ≤ n) (hN : n ≤ 3072) (K : ∀ v1 : Nat, 0 ≤ v1 → v1 < 17 → sc I t 2 = nI v1 → inR (sc I t 2) 0 (16 : Int32) = true → LGo (d + 30) n t 40 I L P E c s) : LGo (d + 30) n t 40 I L P E c s := by
  obtain ⟨⟨hE, hc, -, -⟩, hT, hl, -⟩ := id h
  cases h1 : inR (sc I t 2) 0 (16 : Int32) with
  | false =>
    refine rf_40_1 (d := d + 28) 0 h hn hN ?_ ?_
    · rcases inR_no h1 with g1 | ⟨g1, g2⟩
      · simp only [k_X11_drought_0, c_wantRight_t, g1, cond_true, cond_false, Vk_n, Nat.reduceAdd, c_wantRight_f, Vk_x f_181_16 (show 181 < 332 by decide)]
      · simp only [k_X11_drought_0, c_wantRight_t, g1, g2, cond_true, cond_false, Vk_n, Nat.reduceAdd, c_wantRight_f, Vk_x f_181_16 (show 181 < 332 by decide)]
    · simp only [k_X12_drought_0, k_X12_drought_13, c_isWell, c_isPlace, c_isDay, c_isState, c_isAsk, c_in, c_bad0 (thr0 _), Vk_v, Nat.reduceAdd, b2i_t, b2i_f, n1t, n0f, d0t, d1f, d2f, cond_true, cond_false, decide_true, Bool.not_true, Bool.not_false, up3_a (show 190 ≠ 186 by decide), k_X12_statesOf_v2_0, refC_at hc (show 190 < 487 by decide) (show 190 ≠ 100 by decide), c_bad1 (thr0 _) d1f (show (1 : Int32) = nI 1 from rfl) (show 1 < 2 by decide), h1, k_X12_drought_26]
      rfl
  | true =>
    obtain ⟨v1, l1, g1, e1⟩ := inR_two (a := 0) (b := 16) (by decide) (by decide) h1
    exact K v1 l1 g1 e1 h1
end Enter2
