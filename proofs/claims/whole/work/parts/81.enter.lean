/-! ENTERED OR REFUSED: every call whose wants are all of the common ones (written by program). -/
section Enter
variable {d n t : Nat} {I : FI} {L : FL} {P : FR} {E : FE} {c s : Nat}
theorem cp_7 {x1 x2 : Int32} (hT : RTold I) (hl : RLand I L) (h1 : inR x1 0 (I 190 0 1 - 1) = true) (h2 : inR x2 0 (I 190 0 1 - 1) = true) : V PR (d + 2) 137 0 [(0, (vR (some (100, 0)))), (1, (vi x1)), (2, (vi x2))] [] (mm n I L P E c s) = V PR (d + 2) 137 10 [(0, (vR (some (100, 0)))), (1, (vi x1)), (2, (vi x2))] [] (mm n I L P E c s) := by
  simp only [k_X11_far_0, k_X11_far_5, c_wantPlace, wt_place hT hl h1, wt_place hT hl h2, cond_true, Vk_n, Nat.reduceAdd]
theorem rp_7 {x1 x2 : Int32} (hT : RTold I) (h1 : inR x1 0 (I 190 0 1 - 1) = true) (h2 : inR x2 0 (I 190 0 1 - 1) = true) : V PR (d + 3) 252 0 [(0, (vR (some (186, 0)))), (1, (vi x1)), (2, (vi x2))] [] (mm n I L P E c s) = V PR (d + 3) 252 32 [(0, (vR (some (186, 0)))), (1, (vi x1)), (2, (vi x2))] [vi (0 : Int32)] (mm n (up3 I 186 0 0 0) L P E c s) := by
  simp only [k_X12_far_0, k_X12_far_11, k_X12_far_19, c_isWell, c_isPlace, c_isDay, c_isState, c_isAsk, c_in, c_bad0 (thr0 _), Vk_v, Nat.reduceAdd, b2i_t, b2i_f, n1t, n0f, d0t, d1f, d2f, cond_true, cond_false, decide_true, Bool.not_true, Bool.not_false, up3_a (show 190 ≠ 186 by decide), k_X12_statesOf_v2_0, h1, h2]
theorem en_7 (h : Rl t I L P E c s) (hn : 6 * t + 6 ≤ n) (hN : n ≤ 3072) (K : ∀ v1 v2 : Nat, v1 < zP I → v2 < zP I → sc I t 1 = nI v1 → sc I t 2 = nI v2 → inR (sc I t 1) 0 (I 190 0 1 - 1) = true → inR (sc I t 2) 0 (I 190 0 1 - 1) = true → LGo (d + 30) n t 7 I L P E c s) : LGo (d + 30) n t 7 I L P E c s := by
  obtain ⟨⟨hE, hc, -, -⟩, hT, hl, -⟩ := id h
  cases h1 : inR (sc I t 1) 0 (I 190 0 1 - 1) with
  | false =>
    refine rf_7_0 (d := d + 28) 0 h hn hN ?_ ?_
    · simp only [k_X11_far_0, c_wantPlace, wt_place hT hl h1, cond_true, cond_false, Vk_n, Nat.reduceAdd, Vk_x f_137_2 (show 137 < 332 by decide)]
    · simp only [k_X12_far_0, k_X12_far_11, k_X12_far_19, c_isWell, c_isPlace, c_isDay, c_isState, c_isAsk, c_in, c_bad0 (thr0 _), Vk_v, Nat.reduceAdd, b2i_t, b2i_f, n1t, n0f, d0t, d1f, d2f, cond_true, cond_false, decide_true, Bool.not_true, Bool.not_false, up3_a (show 190 ≠ 186 by decide), k_X12_statesOf_v2_0, refC_at hc (show 190 < 487 by decide) (show 190 ≠ 100 by decide), c_bad1 (thr0 _) d1f (show (0 : Int32) = nI 0 from rfl) (show 0 < 2 by decide), h1, k_X12_far_32]
      rfl
  | true =>
    cases h2 : inR (sc I t 2) 0 (I 190 0 1 - 1) with
    | false =>
      refine rf_7_0 (d := d + 28) 0 h hn hN ?_ ?_
      · simp only [k_X11_far_0, k_X11_far_5, c_wantPlace, wt_place hT hl h1, wt_place hT hl h2, cond_true, cond_false, Vk_n, Nat.reduceAdd, Vk_x f_137_7 (show 137 < 332 by decide)]
      · simp only [k_X12_far_0, k_X12_far_11, k_X12_far_19, c_isWell, c_isPlace, c_isDay, c_isState, c_isAsk, c_in, c_bad0 (thr0 _), Vk_v, Nat.reduceAdd, b2i_t, b2i_f, n1t, n0f, d0t, d1f, d2f, cond_true, cond_false, decide_true, Bool.not_true, Bool.not_false, up3_a (show 190 ≠ 186 by decide), k_X12_statesOf_v2_0, refC_at hc (show 190 < 487 by decide) (show 190 ≠ 100 by decide), c_bad1 (thr0 _) d1f (show (0 : Int32) = nI 0 from rfl) (show 0 < 2 by decide), h1, h2, k_X12_far_32]
        rfl
    | true =>
      obtain ⟨v1, g1, e1⟩ := is_place hT h1
      obtain ⟨v2, g2, e2⟩ := is_place hT h2
      exact K v1 v2 g1 g2 e1 e2 h1 h2
theorem cp_8 {x1 x2 x3 : Int32} (hT : RTold I) (hl : RLand I L) (h1 : inR x1 0 (I 190 0 2 - 1) = true) (h2 : inR x2 0 364 = true) (h3 : inR x3 0 ((1 : Int32) <<< ((I 190 0 0 + I 190 0 3) &&& 31) - 1) = true) : V PR (d + 2) 138 0 [(0, (vR (some (100, 0)))), (1, (vi x1)), (2, (vi x2)), (3, (vi x3))] [] (mm n I L P E c s) = V PR (d + 2) 138 15 [(0, (vR (some (100, 0)))), (1, (vi x1)), (2, (vi x2)), (3, (vi x3))] [] (mm n I L P E c s) := by
  simp only [k_X11_lies_0, k_X11_lies_5, k_X11_lies_10, c_wantDay, c_wantState, c_wantWell, wt_well hT hl h1, wt_day h2, wt_state hT hl h3, cond_true, Vk_n, Nat.reduceAdd]
theorem rp_8 {x1 x2 x3 : Int32} (hT : RTold I) (h1 : inR x1 0 (I 190 0 2 - 1) = true) (h2 : inR x2 0 364 = true) (h3 : inR x3 0 ((1 : Int32) <<< ((I 190 0 0 + I 190 0 3) &&& 31) - 1) = true) : V PR (d + 3) 258 0 [(0, (vR (some (186, 0)))), (1, (vi x1)), (2, (vi x2)), (3, (vi x3))] [] (mm n I L P E c s) = V PR (d + 3) 258 53 [(0, (vR (some (186, 0)))), (1, (vi x1)), (2, (vi x2)), (3, (vi x3))] [vi (0 : Int32)] (mm n (up3 I 186 0 0 0) L P E c s) := by
  simp only [k_X12_lies_0, k_X12_lies_11, k_X12_lies_24, k_X12_lies_32, k_X12_lies_40, c_isWell, c_isPlace, c_isDay, c_isState, c_isAsk, c_in, c_bad0 (thr0 _), Vk_v, Nat.reduceAdd, b2i_t, b2i_f, n1t, n0f, d0t, d1f, d2f, cond_true, cond_false, decide_true, Bool.not_true, Bool.not_false, up3_a (show 190 ≠ 186 by decide), k_X12_statesOf_v2_0, h1, h2, h3]
theorem en_8 (h : Rl t I L P E c s) (hn : 6 * t + 6 ≤ n) (hN : n ≤ 3072) (K : ∀ v1 v2 v3 : Nat, v1 < zW I → v2 < 365 → v3 < 2 ^ zB I → sc I t 1 = nI v1 → sc I t 2 = nI v2 → sc I t 3 = nI v3 → inR (sc I t 1) 0 (I 190 0 2 - 1) = true → inR (sc I t 2) 0 364 = true → inR (sc I t 3) 0 ((1 : Int32) <<< ((I 190 0 0 + I 190 0 3) &&& 31) - 1) = true → LGo (d + 30) n t 8 I L P E c s) : LGo (d + 30) n t 8 I L P E c s := by
  obtain ⟨⟨hE, hc, -, -⟩, hT, hl, -⟩ := id h
  cases h1 : inR (sc I t 1) 0 (I 190 0 2 - 1) with
  | false =>
    refine rf_8_0 (d := d + 28) false h hn hN ?_ ?_
    · simp only [k_X11_lies_0, c_wantWell, wt_well hT hl h1, cond_true, cond_false, Vk_n, Nat.reduceAdd, Vk_x f_138_2 (show 138 < 332 by decide)]
    · simp only [k_X12_lies_0, k_X12_lies_11, k_X12_lies_24, k_X12_lies_32, k_X12_lies_40, c_isWell, c_isPlace, c_isDay, c_isState, c_isAsk, c_in, c_bad0 (thr0 _), Vk_v, Nat.reduceAdd, b2i_t, b2i_f, n1t, n0f, d0t, d1f, d2f, cond_true, cond_false, decide_true, Bool.not_true, Bool.not_false, up3_a (show 190 ≠ 186 by decide), k_X12_statesOf_v2_0, refC_at hc (show 190 < 487 by decide) (show 190 ≠ 100 by decide), c_bad1 (thr0 _) d1f (show (0 : Int32) = nI 0 from rfl) (show 0 < 2 by decide), h1, k_X12_lies_53]
      rfl
  | true =>
    cases h2 : inR (sc I t 2) 0 364 with
    | false =>
      refine rf_8_1 (d := d + 28) false h hn hN ?_ ?_
      · simp only [k_X11_lies_0, k_X11_lies_5, c_wantDay, c_wantWell, wt_well hT hl h1, wt_day h2, cond_true, cond_false, Vk_n, Nat.reduceAdd, Vk_x f_138_7 (show 138 < 332 by decide)]
      · simp only [k_X12_lies_0, k_X12_lies_11, k_X12_lies_24, k_X12_lies_32, k_X12_lies_40, c_isWell, c_isPlace, c_isDay, c_isState, c_isAsk, c_in, c_bad0 (thr0 _), Vk_v, Nat.reduceAdd, b2i_t, b2i_f, n1t, n0f, d0t, d1f, d2f, cond_true, cond_false, decide_true, Bool.not_true, Bool.not_false, up3_a (show 190 ≠ 186 by decide), k_X12_statesOf_v2_0, refC_at hc (show 190 < 487 by decide) (show 190 ≠ 100 by decide), c_bad1 (thr0 _) d2f (show (1 : Int32) = nI 1 from rfl) (show 1 < 2 by decide), h1, h2, k_X12_lies_53]
        rfl
    | true =>
      cases h3 : inR (sc I t 3) 0 ((1 : Int32) <<< ((I 190 0 0 + I 190 0 3) &&& 31) - 1) with
      | false =>
        refine rf_8_1 (d := d + 28) false h hn hN ?_ ?_
        · simp only [k_X11_lies_0, k_X11_lies_5, k_X11_lies_10, c_wantDay, c_wantState, c_wantWell, wt_well hT hl h1, wt_day h2, wt_state hT hl h3, cond_true, cond_false, Vk_n, Nat.reduceAdd, Vk_x f_138_12 (show 138 < 332 by decide)]
        · simp only [k_X12_lies_0, k_X12_lies_11, k_X12_lies_24, k_X12_lies_32, k_X12_lies_40, c_isWell, c_isPlace, c_isDay, c_isState, c_isAsk, c_in, c_bad0 (thr0 _), Vk_v, Nat.reduceAdd, b2i_t, b2i_f, n1t, n0f, d0t, d1f, d2f, cond_true, cond_false, decide_true, Bool.not_true, Bool.not_false, up3_a (show 190 ≠ 186 by decide), k_X12_statesOf_v2_0, refC_at hc (show 190 < 487 by decide) (show 190 ≠ 100 by decide), c_bad1 (thr0 _) d2f (show (1 : Int32) = nI 1 from rfl) (show 1 < 2 by decide), h1, h2, h3, k_X12_lies_53]
          rfl
      | true =>
        obtain ⟨v1, g1, e1⟩ := is_well hT h1
        obtain ⟨v2, g2, e2⟩ := is_day h2
        obtain ⟨v3, g3, e3⟩ := is_state hT h3
        exact K v1 v2 v3 g1 g2 g3 e1 e2 e3 h1 h2 h3
theorem cp_9 {x1 x2 : Int32} (hT : RTold I) (hl : RLand I L) (h1 : inR x1 0 (I 190 0 2 - 1) = true) (h2 : inR x2 0 364 = true) : V PR (d + 2) 139 0 [(0, (vR (some (100, 0)))), (1, (vi x1)), (2, (vi x2))] [] (mm n I L P E c s) = V PR (d + 2) 139 10 [(0, (vR (some (100, 0)))), (1, (vi x1)), (2, (vi x2))] [] (mm n I L P E c s) := by
  simp only [k_X11_silent_0, k_X11_silent_5, c_wantDay, c_wantWell, wt_well hT hl h1, wt_day h2, cond_true, Vk_n, Nat.reduceAdd]
theorem rp_9 {x1 x2 : Int32} (hT : RTold I) (h1 : inR x1 0 (I 190 0 2 - 1) = true) (h2 : inR x2 0 364 = true) : V PR (d + 3) 259 0 [(0, (vR (some (186, 0)))), (1, (vi x1)), (2, (vi x2))] [] (mm n I L P E c s) = V PR (d + 3) 259 45 [(0, (vR (some (186, 0)))), (1, (vi x1)), (2, (vi x2))] [vi (0 : Int32)] (mm n (up3 I 186 0 0 0) L P E c s) := by
  simp only [k_X12_silent_0, k_X12_silent_11, k_X12_silent_24, k_X12_silent_32, c_isWell, c_isPlace, c_isDay, c_isState, c_isAsk, c_in, c_bad0 (thr0 _), Vk_v, Nat.reduceAdd, b2i_t, b2i_f, n1t, n0f, d0t, d1f, d2f, cond_true, cond_false, decide_true, Bool.not_true, Bool.not_false, up3_a (show 190 ≠ 186 by decide), k_X12_statesOf_v2_0, h1, h2]
theorem en_9 (h : Rl t I L P E c s) (hn : 6 * t + 6 ≤ n) (hN : n ≤ 3072) (K : ∀ v1 v2 : Nat, v1 < zW I → v2 < 365 → sc I t 1 = nI v1 → sc I t 2 = nI v2 → inR (sc I t 1) 0 (I 190 0 2 - 1) = true → inR (sc I t 2) 0 364 = true → LGo (d + 30) n t 9 I L P E c s) : LGo (d + 30) n t 9 I L P E c s := by
  obtain ⟨⟨hE, hc, -, -⟩, hT, hl, -⟩ := id h
  cases h1 : inR (sc I t 1) 0 (I 190 0 2 - 1) with
  | false =>
    refine rf_9_0 (d := d + 28) false h hn hN ?_ ?_
    · simp only [k_X11_silent_0, c_wantWell, wt_well hT hl h1, cond_true, cond_false, Vk_n, Nat.reduceAdd, Vk_x f_139_2 (show 139 < 332 by decide)]
    · simp only [k_X12_silent_0, k_X12_silent_11, k_X12_silent_24, k_X12_silent_32, c_isWell, c_isPlace, c_isDay, c_isState, c_isAsk, c_in, c_bad0 (thr0 _), Vk_v, Nat.reduceAdd, b2i_t, b2i_f, n1t, n0f, d0t, d1f, d2f, cond_true, cond_false, decide_true, Bool.not_true, Bool.not_false, up3_a (show 190 ≠ 186 by decide), k_X12_statesOf_v2_0, refC_at hc (show 190 < 487 by decide) (show 190 ≠ 100 by decide), c_bad1 (thr0 _) d1f (show (0 : Int32) = nI 0 from rfl) (show 0 < 2 by decide), h1, k_X12_silent_45]
      rfl
  | true =>
    cases h2 : inR (sc I t 2) 0 364 with
    | false =>
      refine rf_9_1 (d := d + 28) false h hn hN ?_ ?_
      · simp only [k_X11_silent_0, k_X11_silent_5, c_wantDay, c_wantWell, wt_well hT hl h1, wt_day h2, cond_true, cond_false, Vk_n, Nat.reduceAdd, Vk_x f_139_7 (show 139 < 332 by decide)]
      · simp only [k_X12_silent_0, k_X12_silent_11, k_X12_silent_24, k_X12_silent_32, c_isWell, c_isPlace, c_isDay, c_isState, c_isAsk, c_in, c_bad0 (thr0 _), Vk_v, Nat.reduceAdd, b2i_t, b2i_f, n1t, n0f, d0t, d1f, d2f, cond_true, cond_false, decide_true, Bool.not_true, Bool.not_false, up3_a (show 190 ≠ 186 by decide), k_X12_statesOf_v2_0, refC_at hc (show 190 < 487 by decide) (show 190 ≠ 100 by decide), c_bad1 (thr0 _) d2f (show (1 : Int32) = nI 1 from rfl) (show 1 < 2 by decide), h1, h2, k_X12_silent_45]
        rfl
    | true =>
      obtain ⟨v1, g1, e1⟩ := is_well hT h1
      obtain ⟨v2, g2, e2⟩ := is_day h2
      exact K v1 v2 g1 g2 e1 e2 h1 h2
theorem cp_10 {x1 x2 : Int32} (hT : RTold I) (hl : RLand I L) (h1 : inR x1 0 5 = true) (h2 : inR x2 0 364 = true) : V PR (d + 2) 140 0 [(0, (vR (some (100, 0)))), (1, (vi x1)), (2, (vi x2))] [] (mm n I L P E c s) = V PR (d + 2) 140 10 [(0, (vR (some (100, 0)))), (1, (vi x1)), (2, (vi x2))] [] (mm n I L P E c s) := by
  simp only [k_X11_states_0, k_X11_states_5, c_wantDay, c_wantQuestion, wt_ask h1, wt_day h2, cond_true, Vk_n, Nat.reduceAdd]
theorem rp_10 {x1 x2 : Int32} (hT : RTold I) (h1 : inR x1 0 5 = true) (h2 : inR x2 0 364 = true) : V PR (d + 3) 261 0 [(0, (vR (some (186, 0)))), (1, (vi x1)), (2, (vi x2))] [] (mm n I L P E c s) = V PR (d + 3) 261 30 [(0, (vR (some (186, 0)))), (1, (vi x1)), (2, (vi x2))] [vi (0 : Int32)] (mm n (up3 I 186 0 0 0) L P E c s) := by
  simp only [k_X12_states_0, k_X12_states_10, k_X12_states_17, c_isWell, c_isPlace, c_isDay, c_isState, c_isAsk, c_in, c_bad0 (thr0 _), Vk_v, Nat.reduceAdd, b2i_t, b2i_f, n1t, n0f, d0t, d1f, d2f, cond_true, cond_false, decide_true, Bool.not_true, Bool.not_false, up3_a (show 190 ≠ 186 by decide), k_X12_statesOf_v2_0, h1, h2]
theorem en_10 (h : Rl t I L P E c s) (hn : 6 * t + 6 ≤ n) (hN : n ≤ 3072) (K : ∀ v1 v2 : Nat, v1 < 6 → v2 < 365 → sc I t 1 = nI v1 → sc I t 2 = nI v2 → inR (sc I t 1) 0 5 = true → inR (sc I t 2) 0 364 = true → LGo (d + 30) n t 10 I L P E c s) : LGo (d + 30) n t 10 I L P E c s := by
  obtain ⟨⟨hE, hc, -, -⟩, hT, hl, -⟩ := id h
  cases h1 : inR (sc I t 1) 0 5 with
  | false =>
    refine rf_10_1 (d := d + 28) 0 h hn hN ?_ ?_
    · simp only [k_X11_states_0, c_wantQuestion, wt_ask h1, cond_true, cond_false, Vk_n, Nat.reduceAdd, Vk_x f_140_2 (show 140 < 332 by decide)]
    · simp only [k_X12_states_0, k_X12_states_10, k_X12_states_17, c_isWell, c_isPlace, c_isDay, c_isState, c_isAsk, c_in, c_bad0 (thr0 _), Vk_v, Nat.reduceAdd, b2i_t, b2i_f, n1t, n0f, d0t, d1f, d2f, cond_true, cond_false, decide_true, Bool.not_true, Bool.not_false, up3_a (show 190 ≠ 186 by decide), k_X12_statesOf_v2_0, refC_at hc (show 190 < 487 by decide) (show 190 ≠ 100 by decide), c_bad1 (thr0 _) d1f (show (1 : Int32) = nI 1 from rfl) (show 1 < 2 by decide), h1, k_X12_states_30]
      rfl
  | true =>
    cases h2 : inR (sc I t 2) 0 364 with
    | false =>
      refine rf_10_1 (d := d + 28) 0 h hn hN ?_ ?_
      · simp only [k_X11_states_0, k_X11_states_5, c_wantDay, c_wantQuestion, wt_ask h1, wt_day h2, cond_true, cond_false, Vk_n, Nat.reduceAdd, Vk_x f_140_7 (show 140 < 332 by decide)]
      · simp only [k_X12_states_0, k_X12_states_10, k_X12_states_17, c_isWell, c_isPlace, c_isDay, c_isState, c_isAsk, c_in, c_bad0 (thr0 _), Vk_v, Nat.reduceAdd, b2i_t, b2i_f, n1t, n0f, d0t, d1f, d2f, cond_true, cond_false, decide_true, Bool.not_true, Bool.not_false, up3_a (show 190 ≠ 186 by decide), k_X12_statesOf_v2_0, refC_at hc (show 190 < 487 by decide) (show 190 ≠ 100 by decide), c_bad1 (thr0 _) d1f (show (1 : Int32) = nI 1 from rfl) (show 1 < 2 by decide), h1, h2, k_X12_states_30]
        rfl
    | true =>
      obtain ⟨v1, g1, e1⟩ := is_ask h1
      obtain ⟨v2, g2, e2⟩ := is_day h2
      exact K v1 v2 g1 g2 e1 e2 h1 h2
theorem cp_11 {x1 x2 : Int32} (hT : RTold I) (hl : RLand I L) (h1 : inR x1 0 (I 190 0 2 - 1) = true) (h2 : inR x2 0 5 = true) : V PR (d + 2) 141 0 [(0, (vR (some (100, 0)))), (1, (vi x1)), (2, (vi x2))] [] (mm n I L P E c s) = V PR (d + 2) 141 10 [(0, (vR (some (100, 0)))), (1, (vi x1)), (2, (vi x2))] [] (mm n I L P E c s) := by
  simp only [k_X11_knows_0, k_X11_knows_5, c_wantQuestion, c_wantWell, wt_well hT hl h1, wt_ask h2, cond_true, Vk_n, Nat.reduceAdd]
theorem rp_11 {x1 x2 : Int32} (hT : RTold I) (h1 : inR x1 0 (I 190 0 2 - 1) = true) (h2 : inR x2 0 5 = true) : V PR (d + 3) 262 0 [(0, (vR (some (186, 0)))), (1, (vi x1)), (2, (vi x2))] [] (mm n I L P E c s) = V PR (d + 3) 262 45 [(0, (vR (some (186, 0)))), (1, (vi x1)), (2, (vi x2))] [vi (0 : Int32)] (mm n (up3 I 186 0 0 0) L P E c s) := by
  simp only [k_X12_knows_0, k_X12_knows_11, k_X12_knows_24, k_X12_knows_32, c_isWell, c_isPlace, c_isDay, c_isState, c_isAsk, c_in, c_bad0 (thr0 _), Vk_v, Nat.reduceAdd, b2i_t, b2i_f, n1t, n0f, d0t, d1f, d2f, cond_true, cond_false, decide_true, Bool.not_true, Bool.not_false, up3_a (show 190 ≠ 186 by decide), k_X12_statesOf_v2_0, h1, h2]
theorem en_11 (h : Rl t I L P E c s) (hn : 6 * t + 6 ≤ n) (hN : n ≤ 3072) (K : ∀ v1 v2 : Nat, v1 < zW I → v2 < 6 → sc I t 1 = nI v1 → sc I t 2 = nI v2 → inR (sc I t 1) 0 (I 190 0 2 - 1) = true → inR (sc I t 2) 0 5 = true → LGo (d + 30) n t 11 I L P E c s) : LGo (d + 30) n t 11 I L P E c s := by
  obtain ⟨⟨hE, hc, -, -⟩, hT, hl, -⟩ := id h
  cases h1 : inR (sc I t 1) 0 (I 190 0 2 - 1) with
  | false =>
    refine rf_11_0 (d := d + 28) false h hn hN ?_ ?_
    · simp only [k_X11_knows_0, c_wantWell, wt_well hT hl h1, cond_true, cond_false, Vk_n, Nat.reduceAdd, Vk_x f_141_2 (show 141 < 332 by decide)]
    · simp only [k_X12_knows_0, k_X12_knows_11, k_X12_knows_24, k_X12_knows_32, c_isWell, c_isPlace, c_isDay, c_isState, c_isAsk, c_in, c_bad0 (thr0 _), Vk_v, Nat.reduceAdd, b2i_t, b2i_f, n1t, n0f, d0t, d1f, d2f, cond_true, cond_false, decide_true, Bool.not_true, Bool.not_false, up3_a (show 190 ≠ 186 by decide), k_X12_statesOf_v2_0, refC_at hc (show 190 < 487 by decide) (show 190 ≠ 100 by decide), c_bad1 (thr0 _) d1f (show (0 : Int32) = nI 0 from rfl) (show 0 < 2 by decide), h1, k_X12_knows_45]
      rfl
  | true =>
    cases h2 : inR (sc I t 2) 0 5 with
    | false =>
      refine rf_11_1 (d := d + 28) false h hn hN ?_ ?_
      · simp only [k_X11_knows_0, k_X11_knows_5, c_wantQuestion, c_wantWell, wt_well hT hl h1, wt_ask h2, cond_true, cond_false, Vk_n, Nat.reduceAdd, Vk_x f_141_7 (show 141 < 332 by decide)]
      · simp only [k_X12_knows_0, k_X12_knows_11, k_X12_knows_24, k_X12_knows_32, c_isWell, c_isPlace, c_isDay, c_isState, c_isAsk, c_in, c_bad0 (thr0 _), Vk_v, Nat.reduceAdd, b2i_t, b2i_f, n1t, n0f, d0t, d1f, d2f, cond_true, cond_false, decide_true, Bool.not_true, Bool.not_false, up3_a (show 190 ≠ 186 by decide), k_X12_statesOf_v2_0, refC_at hc (show 190 < 487 by decide) (show 190 ≠ 100 by decide), c_bad1 (thr0 _) d2f (show (1 : Int32) = nI 1 from rfl) (show 1 < 2 by decide), h1, h2, k_X12_knows_45]
        rfl
    | true =>
      obtain ⟨v1, g1, e1⟩ := is_well hT h1
      obtain ⟨v2, g2, e2⟩ := is_ask h2
      exact K v1 v2 g1 g2 e1 e2 h1 h2
theorem cp_12 {x1 x2 x3 x4 : Int32} (hT : RTold I) (hl : RLand I L) (h1 : inR x1 0 (I 190 0 2 - 1) = true) (h2 : inR x2 0 5 = true) (h3 : inR x3 0 364 = true) (h4 : inR x4 0 ((1 : Int32) <<< ((I 190 0 0 + I 190 0 3) &&& 31) - 1) = true) : V PR (d + 2) 142 0 [(0, (vR (some (100, 0)))), (1, (vi x1)), (2, (vi x2)), (3, (vi x3)), (4, (vi x4))] [] (mm n I L P E c s) = V PR (d + 2) 142 21 [(0, (vR (some (100, 0)))), (1, (vi x1)), (2, (vi x2)), (3, (vi x3)), (4, (vi x4))] [] (mm n I L P E c s) := by
  simp only [k_X11_says_0, k_X11_says_5, k_X11_says_10, k_X11_says_15, c_wantDay, c_wantQuestion, c_wantState, c_wantWell, wt_well hT hl h1, wt_ask h2, wt_day h3, wt_state hT hl h4, cond_true, Vk_n, Nat.reduceAdd]
theorem rp_12 {x1 x2 x3 x4 : Int32} (hT : RTold I) (h1 : inR x1 0 (I 190 0 2 - 1) = true) (h2 : inR x2 0 5 = true) (h3 : inR x3 0 364 = true) (h4 : inR x4 0 ((1 : Int32) <<< ((I 190 0 0 + I 190 0 3) &&& 31) - 1) = true) : V PR (d + 3) 263 0 [(0, (vR (some (186, 0)))), (1, (vi x1)), (2, (vi x2)), (3, (vi x3)), (4, (vi x4))] [] (mm n I L P E c s) = V PR (d + 3) 263 61 [(0, (vR (some (186, 0)))), (1, (vi x1)), (2, (vi x2)), (3, (vi x3)), (4, (vi x4))] [vi (0 : Int32)] (mm n (up3 I 186 0 0 0) L P E c s) := by
  simp only [k_X12_says_0, k_X12_says_11, k_X12_says_24, k_X12_says_32, k_X12_says_39, k_X12_says_48, c_isWell, c_isPlace, c_isDay, c_isState, c_isAsk, c_in, c_bad0 (thr0 _), Vk_v, Nat.reduceAdd, b2i_t, b2i_f, n1t, n0f, d0t, d1f, d2f, cond_true, cond_false, decide_true, Bool.not_true, Bool.not_false, up3_a (show 190 ≠ 186 by decide), k_X12_statesOf_v2_0, h1, h2, h3, h4]
theorem en_12 (h : Rl t I L P E c s) (hn : 6 * t + 6 ≤ n) (hN : n ≤ 3072) (K : ∀ v1 v2 v3 v4 : Nat, v1 < zW I → v2 < 6 → v3 < 365 → v4 < 2 ^ zB I → sc I t 1 = nI v1 → sc I t 2 = nI v2 → sc I t 3 = nI v3 → sc I t 4 = nI v4 → inR (sc I t 1) 0 (I 190 0 2 - 1) = true → inR (sc I t 2) 0 5 = true → inR (sc I t 3) 0 364 = true → inR (sc I t 4) 0 ((1 : Int32) <<< ((I 190 0 0 + I 190 0 3) &&& 31) - 1) = true → LGo (d + 30) n t 12 I L P E c s) : LGo (d + 30) n t 12 I L P E c s := by
  obtain ⟨⟨hE, hc, -, -⟩, hT, hl, -⟩ := id h
  cases h1 : inR (sc I t 1) 0 (I 190 0 2 - 1) with
  | false =>
    refine rf_12_0 (d := d + 28) 0 h hn hN ?_ ?_
    · simp only [k_X11_says_0, c_wantWell, wt_well hT hl h1, cond_true, cond_false, Vk_n, Nat.reduceAdd, Vk_x f_142_2 (show 142 < 332 by decide)]
    · simp only [k_X12_says_0, k_X12_says_11, k_X12_says_24, k_X12_says_32, k_X12_says_39, k_X12_says_48, c_isWell, c_isPlace, c_isDay, c_isState, c_isAsk, c_in, c_bad0 (thr0 _), Vk_v, Nat.reduceAdd, b2i_t, b2i_f, n1t, n0f, d0t, d1f, d2f, cond_true, cond_false, decide_true, Bool.not_true, Bool.not_false, up3_a (show 190 ≠ 186 by decide), k_X12_statesOf_v2_0, refC_at hc (show 190 < 487 by decide) (show 190 ≠ 100 by decide), c_bad1 (thr0 _) d1f (show (0 : Int32) = nI 0 from rfl) (show 0 < 2 by decide), h1, k_X12_says_61]
      rfl
  | true =>
    cases h2 : inR (sc I t 2) 0 5 with
    | false =>
      refine rf_12_1 (d := d + 28) 0 h hn hN ?_ ?_
      · simp only [k_X11_says_0, k_X11_says_5, c_wantQuestion, c_wantWell, wt_well hT hl h1, wt_ask h2, cond_true, cond_false, Vk_n, Nat.reduceAdd, Vk_x f_142_7 (show 142 < 332 by decide)]
      · simp only [k_X12_says_0, k_X12_says_11, k_X12_says_24, k_X12_says_32, k_X12_says_39, k_X12_says_48, c_isWell, c_isPlace, c_isDay, c_isState, c_isAsk, c_in, c_bad0 (thr0 _), Vk_v, Nat.reduceAdd, b2i_t, b2i_f, n1t, n0f, d0t, d1f, d2f, cond_true, cond_false, decide_true, Bool.not_true, Bool.not_false, up3_a (show 190 ≠ 186 by decide), k_X12_statesOf_v2_0, refC_at hc (show 190 < 487 by decide) (show 190 ≠ 100 by decide), c_bad1 (thr0 _) d2f (show (1 : Int32) = nI 1 from rfl) (show 1 < 2 by decide), h1, h2, k_X12_says_61]
        rfl
    | true =>
      cases h3 : inR (sc I t 3) 0 364 with
      | false =>
        refine rf_12_1 (d := d + 28) 0 h hn hN ?_ ?_
        · simp only [k_X11_says_0, k_X11_says_5, k_X11_says_10, c_wantDay, c_wantQuestion, c_wantWell, wt_well hT hl h1, wt_ask h2, wt_day h3, cond_true, cond_false, Vk_n, Nat.reduceAdd, Vk_x f_142_12 (show 142 < 332 by decide)]
        · simp only [k_X12_says_0, k_X12_says_11, k_X12_says_24, k_X12_says_32, k_X12_says_39, k_X12_says_48, c_isWell, c_isPlace, c_isDay, c_isState, c_isAsk, c_in, c_bad0 (thr0 _), Vk_v, Nat.reduceAdd, b2i_t, b2i_f, n1t, n0f, d0t, d1f, d2f, cond_true, cond_false, decide_true, Bool.not_true, Bool.not_false, up3_a (show 190 ≠ 186 by decide), k_X12_statesOf_v2_0, refC_at hc (show 190 < 487 by decide) (show 190 ≠ 100 by decide), c_bad1 (thr0 _) d2f (show (1 : Int32) = nI 1 from rfl) (show 1 < 2 by decide), h1, h2, h3, k_X12_says_61]
          rfl
      | true =>
        cases h4 : inR (sc I t 4) 0 ((1 : Int32) <<< ((I 190 0 0 + I 190 0 3) &&& 31) - 1) with
        | false =>
          refine rf_12_1 (d := d + 28) 0 h hn hN ?_ ?_
          · simp only [k_X11_says_0, k_X11_says_5, k_X11_says_10, k_X11_says_15, c_wantDay, c_wantQuestion, c_wantState, c_wantWell, wt_well hT hl h1, wt_ask h2, wt_day h3, wt_state hT hl h4, cond_true, cond_false, Vk_n, Nat.reduceAdd, Vk_x f_142_18 (show 142 < 332 by decide)]
          · simp only [k_X12_says_0, k_X12_says_11, k_X12_says_24, k_X12_says_32, k_X12_says_39, k_X12_says_48, c_isWell, c_isPlace, c_isDay, c_isState, c_isAsk, c_in, c_bad0 (thr0 _), Vk_v, Nat.reduceAdd, b2i_t, b2i_f, n1t, n0f, d0t, d1f, d2f, cond_true, cond_false, decide_true, Bool.not_true, Bool.not_false, up3_a (show 190 ≠ 186 by decide), k_X12_statesOf_v2_0, refC_at hc (show 190 < 487 by decide) (show 190 ≠ 100 by decide), c_bad1 (thr0 _) d2f (show (1 : Int32) = nI 1 from rfl) (show 1 < 2 by decide), h1, h2, h3, h4, k_X12_says_61]
            rfl
        | true =>
          obtain ⟨v1, g1, e1⟩ := is_well hT h1
          obtain ⟨v2, g2, e2⟩ := is_ask h2
          obtain ⟨v3, g3, e3⟩ := is_day h3
          obtain ⟨v4, g4, e4⟩ := is_state hT h4
          exact K v1 v2 v3 v4 g1 g2 g3 g4 e1 e2 e3 e4 h1 h2 h3 h4
theorem cp_13 {x1 x2 x3 : Int32} (hT : RTold I) (hl : RLand I L) (h1 : inR x1 0 (I 190 0 2 - 1) = true) (h2 : inR x2 0 5 = true) (h3 : inR x3 0 364 = true) : V PR (d + 2) 143 0 [(0, (vR (some (100, 0)))), (1, (vi x1)), (2, (vi x2)), (3, (vi x3))] [] (mm n I L P E c s) = V PR (d + 2) 143 15 [(0, (vR (some (100, 0)))), (1, (vi x1)), (2, (vi x2)), (3, (vi x3))] [] (mm n I L P E c s) := by
  simp only [k_X11_ask_0, k_X11_ask_5, k_X11_ask_10, c_wantDay, c_wantQuestion, c_wantWell, wt_well hT hl h1, wt_ask h2, wt_day h3, cond_true, Vk_n, Nat.reduceAdd]
theorem rp_13 {x1 x2 x3 : Int32} (hT : RTold I) (h1 : inR x1 0 (I 190 0 2 - 1) = true) (h2 : inR x2 0 5 = true) (h3 : inR x3 0 364 = true) : V PR (d + 3) 267 0 [(0, (vR (some (186, 0)))), (1, (vi x1)), (2, (vi x2)), (3, (vi x3))] [] (mm n I L P E c s) = V PR (d + 3) 267 52 [(0, (vR (some (186, 0)))), (1, (vi x1)), (2, (vi x2)), (3, (vi x3))] [vi (0 : Int32)] (mm n (up3 I 186 0 0 0) L P E c s) := by
  simp only [k_X12_ask_0, k_X12_ask_11, k_X12_ask_24, k_X12_ask_32, k_X12_ask_39, c_isWell, c_isPlace, c_isDay, c_isState, c_isAsk, c_in, c_bad0 (thr0 _), Vk_v, Nat.reduceAdd, b2i_t, b2i_f, n1t, n0f, d0t, d1f, d2f, cond_true, cond_false, decide_true, Bool.not_true, Bool.not_false, up3_a (show 190 ≠ 186 by decide), k_X12_statesOf_v2_0, h1, h2, h3]
theorem en_13 (h : Rl t I L P E c s) (hn : 6 * t + 6 ≤ n) (hN : n ≤ 3072) (K : ∀ v1 v2 v3 : Nat, v1 < zW I → v2 < 6 → v3 < 365 → sc I t 1 = nI v1 → sc I t 2 = nI v2 → sc I t 3 = nI v3 → inR (sc I t 1) 0 (I 190 0 2 - 1) = true → inR (sc I t 2) 0 5 = true → inR (sc I t 3) 0 364 = true → LGo (d + 30) n t 13 I L P E c s) : LGo (d + 30) n t 13 I L P E c s := by
  obtain ⟨⟨hE, hc, -, -⟩, hT, hl, -⟩ := id h
  cases h1 : inR (sc I t 1) 0 (I 190 0 2 - 1) with
  | false =>
    refine rf_13_0 (d := d + 28) 0 h hn hN ?_ ?_
    · simp only [k_X11_ask_0, c_wantWell, wt_well hT hl h1, cond_true, cond_false, Vk_n, Nat.reduceAdd, Vk_x f_143_2 (show 143 < 332 by decide)]
    · simp only [k_X12_ask_0, k_X12_ask_11, k_X12_ask_24, k_X12_ask_32, k_X12_ask_39, c_isWell, c_isPlace, c_isDay, c_isState, c_isAsk, c_in, c_bad0 (thr0 _), Vk_v, Nat.reduceAdd, b2i_t, b2i_f, n1t, n0f, d0t, d1f, d2f, cond_true, cond_false, decide_true, Bool.not_true, Bool.not_false, up3_a (show 190 ≠ 186 by decide), k_X12_statesOf_v2_0, refC_at hc (show 190 < 487 by decide) (show 190 ≠ 100 by decide), c_bad1 (thr0 _) d1f (show (0 : Int32) = nI 0 from rfl) (show 0 < 2 by decide), h1, k_X12_ask_52]
      rfl
  | true =>
    cases h2 : inR (sc I t 2) 0 5 with
    | false =>
      refine rf_13_1 (d := d + 28) 0 h hn hN ?_ ?_
      · simp only [k_X11_ask_0, k_X11_ask_5, c_wantQuestion, c_wantWell, wt_well hT hl h1, wt_ask h2, cond_true, cond_false, Vk_n, Nat.reduceAdd, Vk_x f_143_7 (show 143 < 332 by decide)]
      · simp only [k_X12_ask_0, k_X12_ask_11, k_X12_ask_24, k_X12_ask_32, k_X12_ask_39, c_isWell, c_isPlace, c_isDay, c_isState, c_isAsk, c_in, c_bad0 (thr0 _), Vk_v, Nat.reduceAdd, b2i_t, b2i_f, n1t, n0f, d0t, d1f, d2f, cond_true, cond_false, decide_true, Bool.not_true, Bool.not_false, up3_a (show 190 ≠ 186 by decide), k_X12_statesOf_v2_0, refC_at hc (show 190 < 487 by decide) (show 190 ≠ 100 by decide), c_bad1 (thr0 _) d2f (show (1 : Int32) = nI 1 from rfl) (show 1 < 2 by decide), h1, h2, k_X12_ask_52]
        rfl
    | true =>
      cases h3 : inR (sc I t 3) 0 364 with
      | false =>
        refine rf_13_1 (d := d + 28) 0 h hn hN ?_ ?_
        · simp only [k_X11_ask_0, k_X11_ask_5, k_X11_ask_10, c_wantDay, c_wantQuestion, c_wantWell, wt_well hT hl h1, wt_ask h2, wt_day h3, cond_true, cond_false, Vk_n, Nat.reduceAdd, Vk_x f_143_12 (show 143 < 332 by decide)]
        · simp only [k_X12_ask_0, k_X12_ask_11, k_X12_ask_24, k_X12_ask_32, k_X12_ask_39, c_isWell, c_isPlace, c_isDay, c_isState, c_isAsk, c_in, c_bad0 (thr0 _), Vk_v, Nat.reduceAdd, b2i_t, b2i_f, n1t, n0f, d0t, d1f, d2f, cond_true, cond_false, decide_true, Bool.not_true, Bool.not_false, up3_a (show 190 ≠ 186 by decide), k_X12_statesOf_v2_0, refC_at hc (show 190 < 487 by decide) (show 190 ≠ 100 by decide), c_bad1 (thr0 _) d2f (show (1 : Int32) = nI 1 from rfl) (show 1 < 2 by decide), h1, h2, h3, k_X12_ask_52]
          rfl
      | true =>
        obtain ⟨v1, g1, e1⟩ := is_well hT h1
        obtain ⟨v2, g2, e2⟩ := is_ask h2
        obtain ⟨v3, g3, e3⟩ := is_day h3
        exact K v1 v2 v3 g1 g2 g3 e1 e2 e3 h1 h2 h3
theorem cp_16 {x1 : Int32} (hT : RTold I) (hl : RLand I L) (h1 : inR x1 0 364 = true) : V PR (d + 2) 146 0 [(0, (vR (some (100, 0)))), (1, (vi x1))] [] (mm n I L P E c s) = V PR (d + 2) 146 5 [(0, (vR (some (100, 0)))), (1, (vi x1))] [] (mm n I L P E c s) := by
  simp only [k_X11_known_0, c_wantDay, wt_day h1, cond_true, Vk_n, Nat.reduceAdd]
theorem rp_16 {x1 : Int32} (hT : RTold I) (h1 : inR x1 0 364 = true) : V PR (d + 3) 273 0 [(0, (vR (some (186, 0)))), (1, (vi x1))] [] (mm n I L P E c s) = V PR (d + 3) 273 23 [(0, (vR (some (186, 0)))), (1, (vi x1))] [vi (0 : Int32)] (mm n (up3 I 186 0 0 0) L P E c s) := by
  simp only [k_X12_known_0, k_X12_known_10, c_isWell, c_isPlace, c_isDay, c_isState, c_isAsk, c_in, c_bad0 (thr0 _), Vk_v, Nat.reduceAdd, b2i_t, b2i_f, n1t, n0f, d0t, d1f, d2f, cond_true, cond_false, decide_true, Bool.not_true, Bool.not_false, up3_a (show 190 ≠ 186 by decide), k_X12_statesOf_v2_0, h1]
theorem en_16 (h : Rl t I L P E c s) (hn : 6 * t + 6 ≤ n) (hN : n ≤ 3072) (K : ∀ v1 : Nat, v1 < 365 → sc I t 1 = nI v1 → inR (sc I t 1) 0 364 = true → LGo (d + 30) n t 16 I L P E c s) : LGo (d + 30) n t 16 I L P E c s := by
  obtain ⟨⟨hE, hc, -, -⟩, hT, hl, -⟩ := id h
  cases h1 : inR (sc I t 1) 0 364 with
  | false =>
    refine rf_16_1 (d := d + 28) 0 h hn hN ?_ ?_
    · simp only [k_X11_known_0, c_wantDay, wt_day h1, cond_true, cond_false, Vk_n, Nat.reduceAdd, Vk_x f_146_2 (show 146 < 332 by decide)]
    · simp only [k_X12_known_0, k_X12_known_10, c_isWell, c_isPlace, c_isDay, c_isState, c_isAsk, c_in, c_bad0 (thr0 _), Vk_v, Nat.reduceAdd, b2i_t, b2i_f, n1t, n0f, d0t, d1f, d2f, cond_true, cond_false, decide_true, Bool.not_true, Bool.not_false, up3_a (show 190 ≠ 186 by decide), k_X12_statesOf_v2_0, refC_at hc (show 190 < 487 by decide) (show 190 ≠ 100 by decide), c_bad1 (thr0 _) d1f (show (1 : Int32) = nI 1 from rfl) (show 1 < 2 by decide), h1, k_X12_known_23]
      rfl
  | true =>
    obtain ⟨v1, g1, e1⟩ := is_day h1
    exact K v1 g1 e1 h1
theorem cp_22 {x1 : Int32} (hT : RTold I) (hl : RLand I L) (h1 : inR x1 0 1 = true) : V PR (d + 2) 155 0 [(0, (vR (some (100, 0)))), (1, (vi x1))] [] (mm n I L P E c s) = V PR (d + 2) 155 5 [(0, (vR (some (100, 0)))), (1, (vi x1))] [] (mm n I L P E c s) := by
  simp only [k_X11_hearsay_0, c_wantWhat, wt_what h1, cond_true, Vk_n, Nat.reduceAdd]
theorem rp_22 {x1 : Int32} (hT : RTold I) (h1 : inR x1 0 1 = true) : V PR (d + 3) 280 0 [(0, (vR (some (186, 0)))), (1, (vi x1))] [] (mm n I L P E c s) = V PR (d + 3) 280 25 [(0, (vR (some (186, 0)))), (1, (vi x1))] [vi (0 : Int32)] (mm n (up3 I 186 0 0 0) L P E c s) := by
  simp only [k_X12_hearsay_0, k_X12_hearsay_12, c_isWell, c_isPlace, c_isDay, c_isState, c_isAsk, c_in, c_bad0 (thr0 _), Vk_v, Nat.reduceAdd, b2i_t, b2i_f, n1t, n0f, d0t, d1f, d2f, cond_true, cond_false, decide_true, Bool.not_true, Bool.not_false, up3_a (show 190 ≠ 186 by decide), k_X12_statesOf_v2_0, h1]
theorem en_22 (h : Rl t I L P E c s) (hn : 6 * t + 6 ≤ n) (hN : n ≤ 3072) (K : ∀ v1 : Nat, v1 < 2 → sc I t 1 = nI v1 → inR (sc I t 1) 0 1 = true → LGo (d + 30) n t 22 I L P E c s) : LGo (d + 30) n t 22 I L P E c s := by
  obtain ⟨⟨hE, hc, -, -⟩, hT, hl, -⟩ := id h
  cases h1 : inR (sc I t 1) 0 1 with
  | false =>
    refine rf_22_1 (d := d + 28) 0 h hn hN ?_ ?_
    · simp only [k_X11_hearsay_0, c_wantWhat, wt_what h1, cond_true, cond_false, Vk_n, Nat.reduceAdd, Vk_x f_155_2 (show 155 < 332 by decide)]
    · simp only [k_X12_hearsay_0, k_X12_hearsay_12, c_isWell, c_isPlace, c_isDay, c_isState, c_isAsk, c_in, c_bad0 (thr0 _), Vk_v, Nat.reduceAdd, b2i_t, b2i_f, n1t, n0f, d0t, d1f, d2f, cond_true, cond_false, decide_true, Bool.not_true, Bool.not_false, up3_a (show 190 ≠ 186 by decide), k_X12_statesOf_v2_0, refC_at hc (show 190 < 487 by decide) (show 190 ≠ 100 by decide), c_bad1 (thr0 _) d1f (show (1 : Int32) = nI 1 from rfl) (show 1 < 2 by decide), h1, k_X12_hearsay_25]
      rfl
  | true =>
    obtain ⟨v1, g1, e1⟩ := is_what h1
    exact K v1 g1 e1 h1
theorem cp_25 {x1 x2 : Int32} (hT : RTold I) (hl : RLand I L) (h1 : inR x1 0 364 = true) (h2 : inR x2 0 1 = true) : V PR (d + 2) 160 0 [(0, (vR (some (100, 0)))), (1, (vi x1)), (2, (vi x2))] [] (mm n I L P E c s) = V PR (d + 2) 160 10 [(0, (vR (some (100, 0)))), (1, (vi x1)), (2, (vi x2))] [] (mm n I L P E c s) := by
  simp only [k_X11_parts_0, k_X11_parts_5, c_wantDay, c_wantWhat, wt_day h1, wt_what h2, cond_true, Vk_n, Nat.reduceAdd]
theorem rp_25 {x1 x2 : Int32} (hT : RTold I) (h1 : inR x1 0 364 = true) (h2 : inR x2 0 1 = true) : V PR (d + 3) 285 0 [(0, (vR (some (186, 0)))), (1, (vi x1)), (2, (vi x2))] [] (mm n I L P E c s) = V PR (d + 3) 285 32 [(0, (vR (some (186, 0)))), (1, (vi x1)), (2, (vi x2))] [vi (0 : Int32)] (mm n (up3 I 186 0 0 0) L P E c s) := by
  simp only [k_X12_parts_0, k_X12_parts_10, k_X12_parts_19, c_isWell, c_isPlace, c_isDay, c_isState, c_isAsk, c_in, c_bad0 (thr0 _), Vk_v, Nat.reduceAdd, b2i_t, b2i_f, n1t, n0f, d0t, d1f, d2f, cond_true, cond_false, decide_true, Bool.not_true, Bool.not_false, up3_a (show 190 ≠ 186 by decide), k_X12_statesOf_v2_0, h1, h2]
theorem en_25 (h : Rl t I L P E c s) (hn : 6 * t + 6 ≤ n) (hN : n ≤ 3072) (K : ∀ v1 v2 : Nat, v1 < 365 → v2 < 2 → sc I t 1 = nI v1 → sc I t 2 = nI v2 → inR (sc I t 1) 0 364 = true → inR (sc I t 2) 0 1 = true → LGo (d + 30) n t 25 I L P E c s) : LGo (d + 30) n t 25 I L P E c s := by
  obtain ⟨⟨hE, hc, -, -⟩, hT, hl, -⟩ := id h
  cases h1 : inR (sc I t 1) 0 364 with
  | false =>
    refine rf_25_1 (d := d + 28) 0 h hn hN ?_ ?_
    · simp only [k_X11_parts_0, c_wantDay, wt_day h1, cond_true, cond_false, Vk_n, Nat.reduceAdd, Vk_x f_160_2 (show 160 < 332 by decide)]
    · simp only [k_X12_parts_0, k_X12_parts_10, k_X12_parts_19, c_isWell, c_isPlace, c_isDay, c_isState, c_isAsk, c_in, c_bad0 (thr0 _), Vk_v, Nat.reduceAdd, b2i_t, b2i_f, n1t, n0f, d0t, d1f, d2f, cond_true, cond_false, decide_true, Bool.not_true, Bool.not_false, up3_a (show 190 ≠ 186 by decide), k_X12_statesOf_v2_0, refC_at hc (show 190 < 487 by decide) (show 190 ≠ 100 by decide), c_bad1 (thr0 _) d1f (show (1 : Int32) = nI 1 from rfl) (show 1 < 2 by decide), h1, k_X12_parts_32]
      rfl
  | true =>
    cases h2 : inR (sc I t 2) 0 1 with
    | false =>
      refine rf_25_1 (d := d + 28) 0 h hn hN ?_ ?_
      · simp only [k_X11_parts_0, k_X11_parts_5, c_wantDay, c_wantWhat, wt_day h1, wt_what h2, cond_true, cond_false, Vk_n, Nat.reduceAdd, Vk_x f_160_7 (show 160 < 332 by decide)]
      · simp only [k_X12_parts_0, k_X12_parts_10, k_X12_parts_19, c_isWell, c_isPlace, c_isDay, c_isState, c_isAsk, c_in, c_bad0 (thr0 _), Vk_v, Nat.reduceAdd, b2i_t, b2i_f, n1t, n0f, d0t, d1f, d2f, cond_true, cond_false, decide_true, Bool.not_true, Bool.not_false, up3_a (show 190 ≠ 186 by decide), k_X12_statesOf_v2_0, refC_at hc (show 190 < 487 by decide) (show 190 ≠ 100 by decide), c_bad1 (thr0 _) d1f (show (1 : Int32) = nI 1 from rfl) (show 1 < 2 by decide), h1, h2, k_X12_parts_32]
        rfl
    | true =>
      obtain ⟨v1, g1, e1⟩ := is_day h1
      obtain ⟨v2, g2, e2⟩ := is_what h2
      exact K v1 v2 g1 g2 e1 e2 h1 h2
theorem cp_26 {x1 x2 : Int32} (hT : RTold I) (hl : RLand I L) (h1 : inR x1 0 364 = true) (h2 : inR x2 0 1 = true) : V PR (d + 2) 161 0 [(0, (vR (some (100, 0)))), (1, (vi x1)), (2, (vi x2))] [] (mm n I L P E c s) = V PR (d + 2) 161 10 [(0, (vR (some (100, 0)))), (1, (vi x1)), (2, (vi x2))] [] (mm n I L P E c s) := by
  simp only [k_X11_enough_0, k_X11_enough_5, c_wantDay, c_wantWhat, wt_day h1, wt_what h2, cond_true, Vk_n, Nat.reduceAdd]
theorem rp_26 {x1 x2 : Int32} (hT : RTold I) (h1 : inR x1 0 364 = true) (h2 : inR x2 0 1 = true) : V PR (d + 3) 288 0 [(0, (vR (some (186, 0)))), (1, (vi x1)), (2, (vi x2))] [] (mm n I L P E c s) = V PR (d + 3) 288 32 [(0, (vR (some (186, 0)))), (1, (vi x1)), (2, (vi x2))] [vi (0 : Int32)] (mm n (up3 I 186 0 0 0) L P E c s) := by
  simp only [k_X12_enough_0, k_X12_enough_10, k_X12_enough_19, c_isWell, c_isPlace, c_isDay, c_isState, c_isAsk, c_in, c_bad0 (thr0 _), Vk_v, Nat.reduceAdd, b2i_t, b2i_f, n1t, n0f, d0t, d1f, d2f, cond_true, cond_false, decide_true, Bool.not_true, Bool.not_false, up3_a (show 190 ≠ 186 by decide), k_X12_statesOf_v2_0, h1, h2]
theorem en_26 (h : Rl t I L P E c s) (hn : 6 * t + 6 ≤ n) (hN : n ≤ 3072) (K : ∀ v1 v2 : Nat, v1 < 365 → v2 < 2 → sc I t 1 = nI v1 → sc I t 2 = nI v2 → inR (sc I t 1) 0 364 = true → inR (sc I t 2) 0 1 = true → LGo (d + 30) n t 26 I L P E c s) : LGo (d + 30) n t 26 I L P E c s := by
  obtain ⟨⟨hE, hc, -, -⟩, hT, hl, -⟩ := id h
  cases h1 : inR (sc I t 1) 0 364 with
  | false =>
    refine rf_26_1 (d := d + 28) 0 h hn hN ?_ ?_
    · simp only [k_X11_enough_0, c_wantDay, wt_day h1, cond_true, cond_false, Vk_n, Nat.reduceAdd, Vk_x f_161_2 (show 161 < 332 by decide)]
    · simp only [k_X12_enough_0, k_X12_enough_10, k_X12_enough_19, c_isWell, c_isPlace, c_isDay, c_isState, c_isAsk, c_in, c_bad0 (thr0 _), Vk_v, Nat.reduceAdd, b2i_t, b2i_f, n1t, n0f, d0t, d1f, d2f, cond_true, cond_false, decide_true, Bool.not_true, Bool.not_false, up3_a (show 190 ≠ 186 by decide), k_X12_statesOf_v2_0, refC_at hc (show 190 < 487 by decide) (show 190 ≠ 100 by decide), c_bad1 (thr0 _) d1f (show (1 : Int32) = nI 1 from rfl) (show 1 < 2 by decide), h1, k_X12_enough_32]
      rfl
  | true =>
    cases h2 : inR (sc I t 2) 0 1 with
    | false =>
      refine rf_26_1 (d := d + 28) 0 h hn hN ?_ ?_
      · simp only [k_X11_enough_0, k_X11_enough_5, c_wantDay, c_wantWhat, wt_day h1, wt_what h2, cond_true, cond_false, Vk_n, Nat.reduceAdd, Vk_x f_161_7 (show 161 < 332 by decide)]
      · simp only [k_X12_enough_0, k_X12_enough_10, k_X12_enough_19, c_isWell, c_isPlace, c_isDay, c_isState, c_isAsk, c_in, c_bad0 (thr0 _), Vk_v, Nat.reduceAdd, b2i_t, b2i_f, n1t, n0f, d0t, d1f, d2f, cond_true, cond_false, decide_true, Bool.not_true, Bool.not_false, up3_a (show 190 ≠ 186 by decide), k_X12_statesOf_v2_0, refC_at hc (show 190 < 487 by decide) (show 190 ≠ 100 by decide), c_bad1 (thr0 _) d1f (show (1 : Int32) = nI 1 from rfl) (show 1 < 2 by decide), h1, h2, k_X12_enough_32]
        rfl
    | true =>
      obtain ⟨v1, g1, e1⟩ := is_day h1
      obtain ⟨v2, g2, e2⟩ := is_what h2
      exact K v1 v2 g1 g2 e1 e2 h1 h2
theorem cp_27 {x1 x2 : Int32} (hT : RTold I) (hl : RLand I L) (h1 : inR x1 0 (I 190 0 2 - 1) = true) (h2 : inR x2 0 364 = true) : V PR (d + 2) 162 0 [(0, (vR (some (100, 0)))), (1, (vi x1)), (2, (vi x2))] [] (mm n I L P E c s) = V PR (d + 2) 162 10 [(0, (vR (some (100, 0)))), (1, (vi x1)), (2, (vi x2))] [] (mm n I L P E c s) := by
  simp only [k_X11_trick_0, k_X11_trick_5, c_wantDay, c_wantWell, wt_well hT hl h1, wt_day h2, cond_true, Vk_n, Nat.reduceAdd]
theorem rp_27 {x1 x2 : Int32} (hT : RTold I) (h1 : inR x1 0 (I 190 0 2 - 1) = true) (h2 : inR x2 0 364 = true) : V PR (d + 3) 289 0 [(0, (vR (some (186, 0)))), (1, (vi x1)), (2, (vi x2))] [] (mm n I L P E c s) = V PR (d + 3) 289 45 [(0, (vR (some (186, 0)))), (1, (vi x1)), (2, (vi x2))] [vi (0 : Int32)] (mm n (up3 I 186 0 0 0) L P E c s) := by
  simp only [k_X12_trick_0, k_X12_trick_11, k_X12_trick_24, k_X12_trick_32, c_isWell, c_isPlace, c_isDay, c_isState, c_isAsk, c_in, c_bad0 (thr0 _), Vk_v, Nat.reduceAdd, b2i_t, b2i_f, n1t, n0f, d0t, d1f, d2f, cond_true, cond_false, decide_true, Bool.not_true, Bool.not_false, up3_a (show 190 ≠ 186 by decide), k_X12_statesOf_v2_0, h1, h2]
theorem en_27 (h : Rl t I L P E c s) (hn : 6 * t + 6 ≤ n) (hN : n ≤ 3072) (K : ∀ v1 v2 : Nat, v1 < zW I → v2 < 365 → sc I t 1 = nI v1 → sc I t 2 = nI v2 → inR (sc I t 1) 0 (I 190 0 2 - 1) = true → inR (sc I t 2) 0 364 = true → LGo (d + 30) n t 27 I L P E c s) : LGo (d + 30) n t 27 I L P E c s := by
  obtain ⟨⟨hE, hc, -, -⟩, hT, hl, -⟩ := id h
  cases h1 : inR (sc I t 1) 0 (I 190 0 2 - 1) with
  | false =>
    refine rf_27_0 (d := d + 28) 0 h hn hN ?_ ?_
    · simp only [k_X11_trick_0, c_wantWell, wt_well hT hl h1, cond_true, cond_false, Vk_n, Nat.reduceAdd, Vk_x f_162_2 (show 162 < 332 by decide)]
    · simp only [k_X12_trick_0, k_X12_trick_11, k_X12_trick_24, k_X12_trick_32, c_isWell, c_isPlace, c_isDay, c_isState, c_isAsk, c_in, c_bad0 (thr0 _), Vk_v, Nat.reduceAdd, b2i_t, b2i_f, n1t, n0f, d0t, d1f, d2f, cond_true, cond_false, decide_true, Bool.not_true, Bool.not_false, up3_a (show 190 ≠ 186 by decide), k_X12_statesOf_v2_0, refC_at hc (show 190 < 487 by decide) (show 190 ≠ 100 by decide), c_bad1 (thr0 _) d1f (show (0 : Int32) = nI 0 from rfl) (show 0 < 2 by decide), h1, k_X12_trick_45]
      rfl
  | true =>
    cases h2 : inR (sc I t 2) 0 364 with
    | false =>
      refine rf_27_1 (d := d + 28) 0 h hn hN ?_ ?_
      · simp only [k_X11_trick_0, k_X11_trick_5, c_wantDay, c_wantWell, wt_well hT hl h1, wt_day h2, cond_true, cond_false, Vk_n, Nat.reduceAdd, Vk_x f_162_7 (show 162 < 332 by decide)]
      · simp only [k_X12_trick_0, k_X12_trick_11, k_X12_trick_24, k_X12_trick_32, c_isWell, c_isPlace, c_isDay, c_isState, c_isAsk, c_in, c_bad0 (thr0 _), Vk_v, Nat.reduceAdd, b2i_t, b2i_f, n1t, n0f, d0t, d1f, d2f, cond_true, cond_false, decide_true, Bool.not_true, Bool.not_false, up3_a (show 190 ≠ 186 by decide), k_X12_statesOf_v2_0, refC_at hc (show 190 < 487 by decide) (show 190 ≠ 100 by decide), c_bad1 (thr0 _) d2f (show (1 : Int32) = nI 1 from rfl) (show 1 < 2 by decide), h1, h2, k_X12_trick_45]
        rfl
    | true =>
      obtain ⟨v1, g1, e1⟩ := is_well hT h1
      obtain ⟨v2, g2, e2⟩ := is_day h2
      exact K v1 v2 g1 g2 e1 e2 h1 h2
theorem cp_28 {x1 x2 : Int32} (hT : RTold I) (hl : RLand I L) (h1 : inR x1 0 364 = true) (h2 : inR x2 0 1 = true) : V PR (d + 2) 163 0 [(0, (vR (some (100, 0)))), (1, (vi x1)), (2, (vi x2))] [] (mm n I L P E c s) = V PR (d + 2) 163 10 [(0, (vR (some (100, 0)))), (1, (vi x1)), (2, (vi x2))] [] (mm n I L P E c s) := by
  simp only [k_X11_cant_0, k_X11_cant_5, c_wantDay, c_wantWhat, wt_day h1, wt_what h2, cond_true, Vk_n, Nat.reduceAdd]
theorem rp_28 {x1 x2 : Int32} (hT : RTold I) (h1 : inR x1 0 364 = true) (h2 : inR x2 0 1 = true) : V PR (d + 3) 291 0 [(0, (vR (some (186, 0)))), (1, (vi x1)), (2, (vi x2))] [] (mm n I L P E c s) = V PR (d + 3) 291 32 [(0, (vR (some (186, 0)))), (1, (vi x1)), (2, (vi x2))] [vi (0 : Int32)] (mm n (up3 I 186 0 0 0) L P E c s) := by
  simp only [k_X12_cant_0, k_X12_cant_10, k_X12_cant_19, c_isWell, c_isPlace, c_isDay, c_isState, c_isAsk, c_in, c_bad0 (thr0 _), Vk_v, Nat.reduceAdd, b2i_t, b2i_f, n1t, n0f, d0t, d1f, d2f, cond_true, cond_false, decide_true, Bool.not_true, Bool.not_false, up3_a (show 190 ≠ 186 by decide), k_X12_statesOf_v2_0, h1, h2]
theorem en_28 (h : Rl t I L P E c s) (hn : 6 * t + 6 ≤ n) (hN : n ≤ 3072) (K : ∀ v1 v2 : Nat, v1 < 365 → v2 < 2 → sc I t 1 = nI v1 → sc I t 2 = nI v2 → inR (sc I t 1) 0 364 = true → inR (sc I t 2) 0 1 = true → LGo (d + 30) n t 28 I L P E c s) : LGo (d + 30) n t 28 I L P E c s := by
  obtain ⟨⟨hE, hc, -, -⟩, hT, hl, -⟩ := id h
  cases h1 : inR (sc I t 1) 0 364 with
  | false =>
    refine rf_28_1 (d := d + 28) 0 h hn hN ?_ ?_
    · simp only [k_X11_cant_0, c_wantDay, wt_day h1, cond_true, cond_false, Vk_n, Nat.reduceAdd, Vk_x f_163_2 (show 163 < 332 by decide)]
    · simp only [k_X12_cant_0, k_X12_cant_10, k_X12_cant_19, c_isWell, c_isPlace, c_isDay, c_isState, c_isAsk, c_in, c_bad0 (thr0 _), Vk_v, Nat.reduceAdd, b2i_t, b2i_f, n1t, n0f, d0t, d1f, d2f, cond_true, cond_false, decide_true, Bool.not_true, Bool.not_false, up3_a (show 190 ≠ 186 by decide), k_X12_statesOf_v2_0, refC_at hc (show 190 < 487 by decide) (show 190 ≠ 100 by decide), c_bad1 (thr0 _) d1f (show (1 : Int32) = nI 1 from rfl) (show 1 < 2 by decide), h1, k_X12_cant_32]
      rfl
  | true =>
    cases h2 : inR (sc I t 2) 0 1 with
    | false =>
      refine rf_28_1 (d := d + 28) 0 h hn hN ?_ ?_
      · simp only [k_X11_cant_0, k_X11_cant_5, c_wantDay, c_wantWhat, wt_day h1, wt_what h2, cond_true, cond_false, Vk_n, Nat.reduceAdd, Vk_x f_163_7 (show 163 < 332 by decide)]
      · simp only [k_X12_cant_0, k_X12_cant_10, k_X12_cant_19, c_isWell, c_isPlace, c_isDay, c_isState, c_isAsk, c_in, c_bad0 (thr0 _), Vk_v, Nat.reduceAdd, b2i_t, b2i_f, n1t, n0f, d0t, d1f, d2f, cond_true, cond_false, decide_true, Bool.not_true, Bool.not_false, up3_a (show 190 ≠ 186 by decide), k_X12_statesOf_v2_0, refC_at hc (show 190 < 487 by decide) (show 190 ≠ 100 by decide), c_bad1 (thr0 _) d1f (show (1 : Int32) = nI 1 from rfl) (show 1 < 2 by decide), h1, h2, k_X12_cant_32]
        rfl
    | true =>
      obtain ⟨v1, g1, e1⟩ := is_day h1
      obtain ⟨v2, g2, e2⟩ := is_what h2
      exact K v1 v2 g1 g2 e1 e2 h1 h2
theorem cp_29 {x1 : Int32} (hT : RTold I) (hl : RLand I L) (h1 : inR x1 0 364 = true) : V PR (d + 2) 164 0 [(0, (vR (some (100, 0)))), (1, (vi x1))] [] (mm n I L P E c s) = V PR (d + 2) 164 5 [(0, (vR (some (100, 0)))), (1, (vi x1))] [] (mm n I L P E c s) := by
  simp only [k_X11_atoms_0, c_wantDay, wt_day h1, cond_true, Vk_n, Nat.reduceAdd]
theorem rp_29 {x1 : Int32} (hT : RTold I) (h1 : inR x1 0 364 = true) : V PR (d + 3) 293 0 [(0, (vR (some (186, 0)))), (1, (vi x1))] [] (mm n I L P E c s) = V PR (d + 3) 293 23 [(0, (vR (some (186, 0)))), (1, (vi x1))] [vi (0 : Int32)] (mm n (up3 I 186 0 0 0) L P E c s) := by
  simp only [k_X12_atoms_0, k_X12_atoms_10, c_isWell, c_isPlace, c_isDay, c_isState, c_isAsk, c_in, c_bad0 (thr0 _), Vk_v, Nat.reduceAdd, b2i_t, b2i_f, n1t, n0f, d0t, d1f, d2f, cond_true, cond_false, decide_true, Bool.not_true, Bool.not_false, up3_a (show 190 ≠ 186 by decide), k_X12_statesOf_v2_0, h1]
theorem en_29 (h : Rl t I L P E c s) (hn : 6 * t + 6 ≤ n) (hN : n ≤ 3072) (K : ∀ v1 : Nat, v1 < 365 → sc I t 1 = nI v1 → inR (sc I t 1) 0 364 = true → LGo (d + 30) n t 29 I L P E c s) : LGo (d + 30) n t 29 I L P E c s := by
  obtain ⟨⟨hE, hc, -, -⟩, hT, hl, -⟩ := id h
  cases h1 : inR (sc I t 1) 0 364 with
  | false =>
    refine rf_29_1 (d := d + 28) 0 h hn hN ?_ ?_
    · simp only [k_X11_atoms_0, c_wantDay, wt_day h1, cond_true, cond_false, Vk_n, Nat.reduceAdd, Vk_x f_164_2 (show 164 < 332 by decide)]
    · simp only [k_X12_atoms_0, k_X12_atoms_10, c_isWell, c_isPlace, c_isDay, c_isState, c_isAsk, c_in, c_bad0 (thr0 _), Vk_v, Nat.reduceAdd, b2i_t, b2i_f, n1t, n0f, d0t, d1f, d2f, cond_true, cond_false, decide_true, Bool.not_true, Bool.not_false, up3_a (show 190 ≠ 186 by decide), k_X12_statesOf_v2_0, refC_at hc (show 190 < 487 by decide) (show 190 ≠ 100 by decide), c_bad1 (thr0 _) d1f (show (1 : Int32) = nI 1 from rfl) (show 1 < 2 by decide), h1, k_X12_atoms_23]
      rfl
  | true =>
    obtain ⟨v1, g1, e1⟩ := is_day h1
    exact K v1 g1 e1 h1
theorem cp_30 {x1 x2 x3 : Int32} (hT : RTold I) (hl : RLand I L) (h1 : inR x1 0 (I 190 0 1 - 1) = true) (h2 : inR x2 0 364 = true) (h3 : inR x3 0 1 = true) : V PR (d + 2) 166 0 [(0, (vR (some (100, 0)))), (1, (vi x1)), (2, (vi x2)), (3, (vi x3))] [] (mm n I L P E c s) = V PR (d + 2) 166 15 [(0, (vR (some (100, 0)))), (1, (vi x1)), (2, (vi x2)), (3, (vi x3))] [] (mm n I L P E c s) := by
  simp only [k_X11_plan_0, k_X11_plan_5, k_X11_plan_10, c_wantDay, c_wantPlace, c_wantWhat, wt_place hT hl h1, wt_day h2, wt_what h3, cond_true, Vk_n, Nat.reduceAdd]
theorem rp_30 {x1 x2 x3 : Int32} (hT : RTold I) (h1 : inR x1 0 (I 190 0 1 - 1) = true) (h2 : inR x2 0 364 = true) (h3 : inR x3 0 1 = true) : V PR (d + 3) 297 0 [(0, (vR (some (186, 0)))), (1, (vi x1)), (2, (vi x2)), (3, (vi x3))] [] (mm n I L P E c s) = V PR (d + 3) 297 54 [(0, (vR (some (186, 0)))), (1, (vi x1)), (2, (vi x2)), (3, (vi x3))] [vi (0 : Int32)] (mm n (up3 I 186 0 0 0) L P E c s) := by
  simp only [k_X12_plan_0, k_X12_plan_11, k_X12_plan_24, k_X12_plan_32, k_X12_plan_41, c_isWell, c_isPlace, c_isDay, c_isState, c_isAsk, c_in, c_bad0 (thr0 _), Vk_v, Nat.reduceAdd, b2i_t, b2i_f, n1t, n0f, d0t, d1f, d2f, cond_true, cond_false, decide_true, Bool.not_true, Bool.not_false, up3_a (show 190 ≠ 186 by decide), k_X12_statesOf_v2_0, h1, h2, h3]
theorem en_30 (h : Rl t I L P E c s) (hn : 6 * t + 6 ≤ n) (hN : n ≤ 3072) (K : ∀ v1 v2 v3 : Nat, v1 < zP I → v2 < 365 → v3 < 2 → sc I t 1 = nI v1 → sc I t 2 = nI v2 → sc I t 3 = nI v3 → inR (sc I t 1) 0 (I 190 0 1 - 1) = true → inR (sc I t 2) 0 364 = true → inR (sc I t 3) 0 1 = true → LGo (d + 30) n t 30 I L P E c s) : LGo (d + 30) n t 30 I L P E c s := by
  obtain ⟨⟨hE, hc, -, -⟩, hT, hl, -⟩ := id h
  cases h1 : inR (sc I t 1) 0 (I 190 0 1 - 1) with
  | false =>
    refine rf_30_0 (d := d + 28) 0 h hn hN ?_ ?_
    · simp only [k_X11_plan_0, c_wantPlace, wt_place hT hl h1, cond_true, cond_false, Vk_n, Nat.reduceAdd, Vk_x f_166_2 (show 166 < 332 by decide)]
    · simp only [k_X12_plan_0, k_X12_plan_11, k_X12_plan_24, k_X12_plan_32, k_X12_plan_41, c_isWell, c_isPlace, c_isDay, c_isState, c_isAsk, c_in, c_bad0 (thr0 _), Vk_v, Nat.reduceAdd, b2i_t, b2i_f, n1t, n0f, d0t, d1f, d2f, cond_true, cond_false, decide_true, Bool.not_true, Bool.not_false, up3_a (show 190 ≠ 186 by decide), k_X12_statesOf_v2_0, refC_at hc (show 190 < 487 by decide) (show 190 ≠ 100 by decide), c_bad1 (thr0 _) d1f (show (0 : Int32) = nI 0 from rfl) (show 0 < 2 by decide), h1, k_X12_plan_54]
      rfl
  | true =>
    cases h2 : inR (sc I t 2) 0 364 with
    | false =>
      refine rf_30_1 (d := d + 28) 0 h hn hN ?_ ?_
      · simp only [k_X11_plan_0, k_X11_plan_5, c_wantDay, c_wantPlace, wt_place hT hl h1, wt_day h2, cond_true, cond_false, Vk_n, Nat.reduceAdd, Vk_x f_166_7 (show 166 < 332 by decide)]
      · simp only [k_X12_plan_0, k_X12_plan_11, k_X12_plan_24, k_X12_plan_32, k_X12_plan_41, c_isWell, c_isPlace, c_isDay, c_isState, c_isAsk, c_in, c_bad0 (thr0 _), Vk_v, Nat.reduceAdd, b2i_t, b2i_f, n1t, n0f, d0t, d1f, d2f, cond_true, cond_false, decide_true, Bool.not_true, Bool.not_false, up3_a (show 190 ≠ 186 by decide), k_X12_statesOf_v2_0, refC_at hc (show 190 < 487 by decide) (show 190 ≠ 100 by decide), c_bad1 (thr0 _) d2f (show (1 : Int32) = nI 1 from rfl) (show 1 < 2 by decide), h1, h2, k_X12_plan_54]
        rfl
    | true =>
      cases h3 : inR (sc I t 3) 0 1 with
      | false =>
        refine rf_30_1 (d := d + 28) 0 h hn hN ?_ ?_
        · simp only [k_X11_plan_0, k_X11_plan_5, k_X11_plan_10, c_wantDay, c_wantPlace, c_wantWhat, wt_place hT hl h1, wt_day h2, wt_what h3, cond_true, cond_false, Vk_n, Nat.reduceAdd, Vk_x f_166_12 (show 166 < 332 by decide)]
        · simp only [k_X12_plan_0, k_X12_plan_11, k_X12_plan_24, k_X12_plan_32, k_X12_plan_41, c_isWell, c_isPlace, c_isDay, c_isState, c_isAsk, c_in, c_bad0 (thr0 _), Vk_v, Nat.reduceAdd, b2i_t, b2i_f, n1t, n0f, d0t, d1f, d2f, cond_true, cond_false, decide_true, Bool.not_true, Bool.not_false, up3_a (show 190 ≠ 186 by decide), k_X12_statesOf_v2_0, refC_at hc (show 190 < 487 by decide) (show 190 ≠ 100 by decide), c_bad1 (thr0 _) d2f (show (1 : Int32) = nI 1 from rfl) (show 1 < 2 by decide), h1, h2, h3, k_X12_plan_54]
          rfl
      | true =>
        obtain ⟨v1, g1, e1⟩ := is_place hT h1
        obtain ⟨v2, g2, e2⟩ := is_day h2
        obtain ⟨v3, g3, e3⟩ := is_what h3
        exact K v1 v2 v3 g1 g2 g3 e1 e2 e3 h1 h2 h3
theorem cp_31 {x1 x2 : Int32} (hT : RTold I) (hl : RLand I L) (h1 : inR x1 0 (I 190 0 2 - 1) = true) (h2 : inR x2 0 364 = true) : V PR (d + 2) 167 0 [(0, (vR (some (100, 0)))), (1, (vi x1)), (2, (vi x2))] [] (mm n I L P E c s) = V PR (d + 2) 167 10 [(0, (vR (some (100, 0)))), (1, (vi x1)), (2, (vi x2))] [] (mm n I L P E c s) := by
  simp only [k_X11_yes_0, k_X11_yes_5, c_wantDay, c_wantWell, wt_well hT hl h1, wt_day h2, cond_true, Vk_n, Nat.reduceAdd]
theorem rp_31 {x1 x2 : Int32} (hT : RTold I) (h1 : inR x1 0 (I 190 0 2 - 1) = true) (h2 : inR x2 0 364 = true) : V PR (d + 3) 298 0 [(0, (vR (some (186, 0)))), (1, (vi x1)), (2, (vi x2))] [] (mm n I L P E c s) = V PR (d + 3) 298 45 [(0, (vR (some (186, 0)))), (1, (vi x1)), (2, (vi x2))] [vi (0 : Int32)] (mm n (up3 I 186 0 0 0) L P E c s) := by
  simp only [k_X12_yes_0, k_X12_yes_11, k_X12_yes_24, k_X12_yes_32, c_isWell, c_isPlace, c_isDay, c_isState, c_isAsk, c_in, c_bad0 (thr0 _), Vk_v, Nat.reduceAdd, b2i_t, b2i_f, n1t, n0f, d0t, d1f, d2f, cond_true, cond_false, decide_true, Bool.not_true, Bool.not_false, up3_a (show 190 ≠ 186 by decide), k_X12_statesOf_v2_0, h1, h2]
theorem en_31 (h : Rl t I L P E c s) (hn : 6 * t + 6 ≤ n) (hN : n ≤ 3072) (K : ∀ v1 v2 : Nat, v1 < zW I → v2 < 365 → sc I t 1 = nI v1 → sc I t 2 = nI v2 → inR (sc I t 1) 0 (I 190 0 2 - 1) = true → inR (sc I t 2) 0 364 = true → LGo (d + 30) n t 31 I L P E c s) : LGo (d + 30) n t 31 I L P E c s := by
  obtain ⟨⟨hE, hc, -, -⟩, hT, hl, -⟩ := id h
  cases h1 : inR (sc I t 1) 0 (I 190 0 2 - 1) with
  | false =>
    refine rf_31_0 (d := d + 28) 0 h hn hN ?_ ?_
    · simp only [k_X11_yes_0, c_wantWell, wt_well hT hl h1, cond_true, cond_false, Vk_n, Nat.reduceAdd, Vk_x f_167_2 (show 167 < 332 by decide)]
    · simp only [k_X12_yes_0, k_X12_yes_11, k_X12_yes_24, k_X12_yes_32, c_isWell, c_isPlace, c_isDay, c_isState, c_isAsk, c_in, c_bad0 (thr0 _), Vk_v, Nat.reduceAdd, b2i_t, b2i_f, n1t, n0f, d0t, d1f, d2f, cond_true, cond_false, decide_true, Bool.not_true, Bool.not_false, up3_a (show 190 ≠ 186 by decide), k_X12_statesOf_v2_0, refC_at hc (show 190 < 487 by decide) (show 190 ≠ 100 by decide), c_bad1 (thr0 _) d1f (show (0 : Int32) = nI 0 from rfl) (show 0 < 2 by decide), h1, k_X12_yes_45]
      rfl
  | true =>
    cases h2 : inR (sc I t 2) 0 364 with
    | false =>
      refine rf_31_1 (d := d + 28) 0 h hn hN ?_ ?_
      · simp only [k_X11_yes_0, k_X11_yes_5, c_wantDay, c_wantWell, wt_well hT hl h1, wt_day h2, cond_true, cond_false, Vk_n, Nat.reduceAdd, Vk_x f_167_7 (show 167 < 332 by decide)]
      · simp only [k_X12_yes_0, k_X12_yes_11, k_X12_yes_24, k_X12_yes_32, c_isWell, c_isPlace, c_isDay, c_isState, c_isAsk, c_in, c_bad0 (thr0 _), Vk_v, Nat.reduceAdd, b2i_t, b2i_f, n1t, n0f, d0t, d1f, d2f, cond_true, cond_false, decide_true, Bool.not_true, Bool.not_false, up3_a (show 190 ≠ 186 by decide), k_X12_statesOf_v2_0, refC_at hc (show 190 < 487 by decide) (show 190 ≠ 100 by decide), c_bad1 (thr0 _) d2f (show (1 : Int32) = nI 1 from rfl) (show 1 < 2 by decide), h1, h2, k_X12_yes_45]
        rfl
    | true =>
      obtain ⟨v1, g1, e1⟩ := is_well hT h1
      obtain ⟨v2, g2, e2⟩ := is_day h2
      exact K v1 v2 g1 g2 e1 e2 h1 h2
theorem cp_32 {x1 x2 x3 : Int32} (hT : RTold I) (hl : RLand I L) (h1 : inR x1 0 5 = true) (h2 : inR x2 0 5 = true) (h3 : inR x3 0 364 = true) : V PR (d + 2) 168 0 [(0, (vR (some (100, 0)))), (1, (vi x1)), (2, (vi x2)), (3, (vi x3))] [] (mm n I L P E c s) = V PR (d + 2) 168 15 [(0, (vR (some (100, 0)))), (1, (vi x1)), (2, (vi x2)), (3, (vi x3))] [] (mm n I L P E c s) := by
  simp only [k_X11_alike_0, k_X11_alike_5, k_X11_alike_10, c_wantDay, c_wantQuestion, wt_ask h1, wt_ask h2, wt_day h3, cond_true, Vk_n, Nat.reduceAdd]
theorem rp_32 {x1 x2 x3 : Int32} (hT : RTold I) (h1 : inR x1 0 5 = true) (h2 : inR x2 0 5 = true) (h3 : inR x3 0 364 = true) : V PR (d + 3) 299 0 [(0, (vR (some (186, 0)))), (1, (vi x1)), (2, (vi x2)), (3, (vi x3))] [] (mm n I L P E c s) = V PR (d + 3) 299 37 [(0, (vR (some (186, 0)))), (1, (vi x1)), (2, (vi x2)), (3, (vi x3))] [vi (0 : Int32)] (mm n (up3 I 186 0 0 0) L P E c s) := by
  simp only [k_X12_alike_0, k_X12_alike_10, k_X12_alike_17, k_X12_alike_24, c_isWell, c_isPlace, c_isDay, c_isState, c_isAsk, c_in, c_bad0 (thr0 _), Vk_v, Nat.reduceAdd, b2i_t, b2i_f, n1t, n0f, d0t, d1f, d2f, cond_true, cond_false, decide_true, Bool.not_true, Bool.not_false, up3_a (show 190 ≠ 186 by decide), k_X12_statesOf_v2_0, h1, h2, h3]
theorem en_32 (h : Rl t I L P E c s) (hn : 6 * t + 6 ≤ n) (hN : n ≤ 3072) (K : ∀ v1 v2 v3 : Nat, v1 < 6 → v2 < 6 → v3 < 365 → sc I t 1 = nI v1 → sc I t 2 = nI v2 → sc I t 3 = nI v3 → inR (sc I t 1) 0 5 = true → inR (sc I t 2) 0 5 = true → inR (sc I t 3) 0 364 = true → LGo (d + 30) n t 32 I L P E c s) : LGo (d + 30) n t 32 I L P E c s := by
  obtain ⟨⟨hE, hc, -, -⟩, hT, hl, -⟩ := id h
  cases h1 : inR (sc I t 1) 0 5 with
  | false =>
    refine rf_32_1 (d := d + 28) 0 h hn hN ?_ ?_
    · simp only [k_X11_alike_0, c_wantQuestion, wt_ask h1, cond_true, cond_false, Vk_n, Nat.reduceAdd, Vk_x f_168_2 (show 168 < 332 by decide)]
    · simp only [k_X12_alike_0, k_X12_alike_10, k_X12_alike_17, k_X12_alike_24, c_isWell, c_isPlace, c_isDay, c_isState, c_isAsk, c_in, c_bad0 (thr0 _), Vk_v, Nat.reduceAdd, b2i_t, b2i_f, n1t, n0f, d0t, d1f, d2f, cond_true, cond_false, decide_true, Bool.not_true, Bool.not_false, up3_a (show 190 ≠ 186 by decide), k_X12_statesOf_v2_0, refC_at hc (show 190 < 487 by decide) (show 190 ≠ 100 by decide), c_bad1 (thr0 _) d1f (show (1 : Int32) = nI 1 from rfl) (show 1 < 2 by decide), h1, k_X12_alike_37]
      rfl
  | true =>
    cases h2 : inR (sc I t 2) 0 5 with
    | false =>
      refine rf_32_1 (d := d + 28) 0 h hn hN ?_ ?_
      · simp only [k_X11_alike_0, k_X11_alike_5, c_wantQuestion, wt_ask h1, wt_ask h2, cond_true, cond_false, Vk_n, Nat.reduceAdd, Vk_x f_168_7 (show 168 < 332 by decide)]
      · simp only [k_X12_alike_0, k_X12_alike_10, k_X12_alike_17, k_X12_alike_24, c_isWell, c_isPlace, c_isDay, c_isState, c_isAsk, c_in, c_bad0 (thr0 _), Vk_v, Nat.reduceAdd, b2i_t, b2i_f, n1t, n0f, d0t, d1f, d2f, cond_true, cond_false, decide_true, Bool.not_true, Bool.not_false, up3_a (show 190 ≠ 186 by decide), k_X12_statesOf_v2_0, refC_at hc (show 190 < 487 by decide) (show 190 ≠ 100 by decide), c_bad1 (thr0 _) d1f (show (1 : Int32) = nI 1 from rfl) (show 1 < 2 by decide), h1, h2, k_X12_alike_37]
        rfl
    | true =>
      cases h3 : inR (sc I t 3) 0 364 with
      | false =>
        refine rf_32_1 (d := d + 28) 0 h hn hN ?_ ?_
        · simp only [k_X11_alike_0, k_X11_alike_5, k_X11_alike_10, c_wantDay, c_wantQuestion, wt_ask h1, wt_ask h2, wt_day h3, cond_true, cond_false, Vk_n, Nat.reduceAdd, Vk_x f_168_12 (show 168 < 332 by decide)]
        · simp only [k_X12_alike_0, k_X12_alike_10, k_X12_alike_17, k_X12_alike_24, c_isWell, c_isPlace, c_isDay, c_isState, c_isAsk, c_in, c_bad0 (thr0 _), Vk_v, Nat.reduceAdd, b2i_t, b2i_f, n1t, n0f, d0t, d1f, d2f, cond_true, cond_false, decide_true, Bool.not_true, Bool.not_false, up3_a (show 190 ≠ 186 by decide), k_X12_statesOf_v2_0, refC_at hc (show 190 < 487 by decide) (show 190 ≠ 100 by decide), c_bad1 (thr0 _) d1f (show (1 : Int32) = nI 1 from rfl) (show 1 < 2 by decide), h1, h2, h3, k_X12_alike_37]
          rfl
      | true =>
        obtain ⟨v1, g1, e1⟩ := is_ask h1
        obtain ⟨v2, g2, e2⟩ := is_ask h2
        obtain ⟨v3, g3, e3⟩ := is_day h3
        exact K v1 v2 v3 g1 g2 g3 e1 e2 e3 h1 h2 h3
theorem cp_35 {x1 x2 : Int32} (hT : RTold I) (hl : RLand I L) (h1 : inR x1 0 5 = true) (h2 : inR x2 0 364 = true) : V PR (d + 2) 174 0 [(0, (vR (some (100, 0)))), (1, (vi x1)), (2, (vi x2))] [] (mm n I L P E c s) = V PR (d + 2) 174 10 [(0, (vR (some (100, 0)))), (1, (vi x1)), (2, (vi x2))] [] (mm n I L P E c s) := by
  simp only [k_X11_shared_0, k_X11_shared_5, c_wantBuyer, c_wantDay, wt_ask h1, wt_day h2, cond_true, Vk_n, Nat.reduceAdd]
theorem rp_35 {x1 x2 : Int32} (hT : RTold I) (h1 : inR x1 0 5 = true) (h2 : inR x2 0 364 = true) : V PR (d + 3) 306 0 [(0, (vR (some (186, 0)))), (1, (vi x1)), (2, (vi x2))] [] (mm n I L P E c s) = V PR (d + 3) 306 32 [(0, (vR (some (186, 0)))), (1, (vi x1)), (2, (vi x2))] [vi (0 : Int32)] (mm n (up3 I 186 0 0 0) L P E c s) := by
  simp only [k_X12_shared_0, k_X12_shared_12, k_X12_shared_19, c_isWell, c_isPlace, c_isDay, c_isState, c_isAsk, c_in, c_bad0 (thr0 _), Vk_v, Nat.reduceAdd, b2i_t, b2i_f, n1t, n0f, d0t, d1f, d2f, cond_true, cond_false, decide_true, Bool.not_true, Bool.not_false, up3_a (show 190 ≠ 186 by decide), k_X12_statesOf_v2_0, h1, h2]
theorem en_35 (h : Rl t I L P E c s) (hn : 6 * t + 6 ≤ n) (hN : n ≤ 3072) (K : ∀ v1 v2 : Nat, v1 < 6 → v2 < 365 → sc I t 1 = nI v1 → sc I t 2 = nI v2 → inR (sc I t 1) 0 5 = true → inR (sc I t 2) 0 364 = true → LGo (d + 30) n t 35 I L P E c s) : LGo (d + 30) n t 35 I L P E c s := by
  obtain ⟨⟨hE, hc, -, -⟩, hT, hl, -⟩ := id h
  cases h1 : inR (sc I t 1) 0 5 with
  | false =>
    refine rf_35_1 (d := d + 28) 0 h hn hN ?_ ?_
    · simp only [k_X11_shared_0, c_wantBuyer, wt_ask h1, cond_true, cond_false, Vk_n, Nat.reduceAdd, Vk_x f_174_2 (show 174 < 332 by decide)]
    · simp only [k_X12_shared_0, k_X12_shared_12, k_X12_shared_19, c_isWell, c_isPlace, c_isDay, c_isState, c_isAsk, c_in, c_bad0 (thr0 _), Vk_v, Nat.reduceAdd, b2i_t, b2i_f, n1t, n0f, d0t, d1f, d2f, cond_true, cond_false, decide_true, Bool.not_true, Bool.not_false, up3_a (show 190 ≠ 186 by decide), k_X12_statesOf_v2_0, refC_at hc (show 190 < 487 by decide) (show 190 ≠ 100 by decide), c_bad1 (thr0 _) d1f (show (1 : Int32) = nI 1 from rfl) (show 1 < 2 by decide), h1, k_X12_shared_32]
      rfl
  | true =>
    cases h2 : inR (sc I t 2) 0 364 with
    | false =>
      refine rf_35_1 (d := d + 28) 0 h hn hN ?_ ?_
      · simp only [k_X11_shared_0, k_X11_shared_5, c_wantBuyer, c_wantDay, wt_ask h1, wt_day h2, cond_true, cond_false, Vk_n, Nat.reduceAdd, Vk_x f_174_7 (show 174 < 332 by decide)]
      · simp only [k_X12_shared_0, k_X12_shared_12, k_X12_shared_19, c_isWell, c_isPlace, c_isDay, c_isState, c_isAsk, c_in, c_bad0 (thr0 _), Vk_v, Nat.reduceAdd, b2i_t, b2i_f, n1t, n0f, d0t, d1f, d2f, cond_true, cond_false, decide_true, Bool.not_true, Bool.not_false, up3_a (show 190 ≠ 186 by decide), k_X12_statesOf_v2_0, refC_at hc (show 190 < 487 by decide) (show 190 ≠ 100 by decide), c_bad1 (thr0 _) d1f (show (1 : Int32) = nI 1 from rfl) (show 1 < 2 by decide), h1, h2, k_X12_shared_32]
        rfl
    | true =>
      obtain ⟨v1, g1, e1⟩ := is_ask h1
      obtain ⟨v2, g2, e2⟩ := is_day h2
      exact K v1 v2 g1 g2 e1 e2 h1 h2
theorem cp_41 {x1 : Int32} (hT : RTold I) (hl : RLand I L) (h1 : inR x1 0 ((1 : Int32) <<< ((I 190 0 0 + I 190 0 3) &&& 31) - 1) = true) : V PR (d + 2) 189 0 [(0, (vR (some (100, 0)))), (1, (vi x1))] [] (mm n I L P E c s) = V PR (d + 2) 189 5 [(0, (vR (some (100, 0)))), (1, (vi x1))] [] (mm n I L P E c s) := by
  simp only [k_X11_be_0, c_wantState, wt_state hT hl h1, cond_true, Vk_n, Nat.reduceAdd]
theorem rp_41 {x1 : Int32} (hT : RTold I) (h1 : inR x1 0 ((1 : Int32) <<< ((I 190 0 0 + I 190 0 3) &&& 31) - 1) = true) : V PR (d + 3) 314 0 [(0, (vR (some (186, 0)))), (1, (vi x1))] [] (mm n I L P E c s) = V PR (d + 3) 314 24 [(0, (vR (some (186, 0)))), (1, (vi x1))] [vi (0 : Int32)] (mm n (up3 I 186 0 0 0) L P E c s) := by
  simp only [k_X12_be_0, k_X12_be_11, c_isWell, c_isPlace, c_isDay, c_isState, c_isAsk, c_in, c_bad0 (thr0 _), Vk_v, Nat.reduceAdd, b2i_t, b2i_f, n1t, n0f, d0t, d1f, d2f, cond_true, cond_false, decide_true, Bool.not_true, Bool.not_false, up3_a (show 190 ≠ 186 by decide), k_X12_statesOf_v2_0, h1]
theorem en_41 (h : Rl t I L P E c s) (hn : 6 * t + 6 ≤ n) (hN : n ≤ 3072) (K : ∀ v1 : Nat, v1 < 2 ^ zB I → sc I t 1 = nI v1 → inR (sc I t 1) 0 ((1 : Int32) <<< ((I 190 0 0 + I 190 0 3) &&& 31) - 1) = true → LGo (d + 30) n t 41 I L P E c s) : LGo (d + 30) n t 41 I L P E c s := by
  obtain ⟨⟨hE, hc, -, -⟩, hT, hl, -⟩ := id h
  cases h1 : inR (sc I t 1) 0 ((1 : Int32) <<< ((I 190 0 0 + I 190 0 3) &&& 31) - 1) with
  | false =>
    refine rf_41_1 (d := d + 28) 0 h hn hN ?_ ?_
    · simp only [k_X11_be_0, c_wantState, wt_state hT hl h1, cond_true, cond_false, Vk_n, Nat.reduceAdd, Vk_x f_189_2 (show 189 < 332 by decide)]
    · simp only [k_X12_be_0, k_X12_be_11, c_isWell, c_isPlace, c_isDay, c_isState, c_isAsk, c_in, c_bad0 (thr0 _), Vk_v, Nat.reduceAdd, b2i_t, b2i_f, n1t, n0f, d0t, d1f, d2f, cond_true, cond_false, decide_true, Bool.not_true, Bool.not_false, up3_a (show 190 ≠ 186 by decide), k_X12_statesOf_v2_0, refC_at hc (show 190 < 487 by decide) (show 190 ≠ 100 by decide), c_bad1 (thr0 _) d1f (show (1 : Int32) = nI 1 from rfl) (show 1 < 2 by decide), h1, k_X12_be_24]
      rfl
  | true =>
    obtain ⟨v1, g1, e1⟩ := is_state hT h1
    exact K v1 g1 e1 h1
theorem cp_42 {x1 : Int32} (hT : RTold I) (hl : RLand I L) (h1 : inR x1 0 364 = true) : V PR (d + 2) 165 0 [(0, (vR (some (100, 0)))), (1, (vi x1))] [] (mm n I L P E c s) = V PR (d + 2) 165 5 [(0, (vR (some (100, 0)))), (1, (vi x1))] [] (mm n I L P E c s) := by
  simp only [k_X11_spare_0, c_wantDay, wt_day h1, cond_true, Vk_n, Nat.reduceAdd]
theorem rp_42 {x1 : Int32} (hT : RTold I) (h1 : inR x1 0 364 = true) : V PR (d + 3) 316 0 [(0, (vR (some (186, 0)))), (1, (vi x1))] [] (mm n I L P E c s) = V PR (d + 3) 316 23 [(0, (vR (some (186, 0)))), (1, (vi x1))] [vi (0 : Int32)] (mm n (up3 I 186 0 0 0) L P E c s) := by
  simp only [k_X12_spare_0, k_X12_spare_10, c_isWell, c_isPlace, c_isDay, c_isState, c_isAsk, c_in, c_bad0 (thr0 _), Vk_v, Nat.reduceAdd, b2i_t, b2i_f, n1t, n0f, d0t, d1f, d2f, cond_true, cond_false, decide_true, Bool.not_true, Bool.not_false, up3_a (show 190 ≠ 186 by decide), k_X12_statesOf_v2_0, h1]
theorem en_42 (h : Rl t I L P E c s) (hn : 6 * t + 6 ≤ n) (hN : n ≤ 3072) (K : ∀ v1 : Nat, v1 < 365 → sc I t 1 = nI v1 → inR (sc I t 1) 0 364 = true → LGo (d + 30) n t 42 I L P E c s) : LGo (d + 30) n t 42 I L P E c s := by
  obtain ⟨⟨hE, hc, -, -⟩, hT, hl, -⟩ := id h
  cases h1 : inR (sc I t 1) 0 364 with
  | false =>
    refine rf_42_1 (d := d + 28) 0 h hn hN ?_ ?_
    · simp only [k_X11_spare_0, c_wantDay, wt_day h1, cond_true, cond_false, Vk_n, Nat.reduceAdd, Vk_x f_165_2 (show 165 < 332 by decide)]
    · simp only [k_X12_spare_0, k_X12_spare_10, c_isWell, c_isPlace, c_isDay, c_isState, c_isAsk, c_in, c_bad0 (thr0 _), Vk_v, Nat.reduceAdd, b2i_t, b2i_f, n1t, n0f, d0t, d1f, d2f, cond_true, cond_false, decide_true, Bool.not_true, Bool.not_false, up3_a (show 190 ≠ 186 by decide), k_X12_statesOf_v2_0, refC_at hc (show 190 < 487 by decide) (show 190 ≠ 100 by decide), c_bad1 (thr0 _) d1f (show (1 : Int32) = nI 1 from rfl) (show 1 < 2 by decide), h1, k_X12_spare_23]
      rfl
  | true =>
    obtain ⟨v1, g1, e1⟩ := is_day h1
    exact K v1 g1 e1 h1
theorem cp_43 {x1 x2 : Int32} (hT : RTold I) (hl : RLand I L) (h1 : inR x1 0 (I 190 0 2 - 1) = true) (h2 : inR x2 0 5 = true) : V PR (d + 2) 184 0 [(0, (vR (some (100, 0)))), (1, (vi x1)), (2, (vi x2))] [] (mm n I L P E c s) = V PR (d + 2) 184 10 [(0, (vR (some (100, 0)))), (1, (vi x1)), (2, (vi x2))] [] (mm n I L P E c s) := by
  simp only [k_X11_parting_0, k_X11_parting_5, c_wantQuestion, c_wantWell, wt_well hT hl h1, wt_ask h2, cond_true, Vk_n, Nat.reduceAdd]
theorem rp_43 {x1 x2 : Int32} (hT : RTold I) (h1 : inR x1 0 (I 190 0 2 - 1) = true) (h2 : inR x2 0 5 = true) : V PR (d + 3) 317 0 [(0, (vR (some (186, 0)))), (1, (vi x1)), (2, (vi x2))] [] (mm n I L P E c s) = V PR (d + 3) 317 45 [(0, (vR (some (186, 0)))), (1, (vi x1)), (2, (vi x2))] [vi (0 : Int32)] (mm n (up3 I 186 0 0 0) L P E c s) := by
  simp only [k_X12_parting_0, k_X12_parting_11, k_X12_parting_24, k_X12_parting_32, c_isWell, c_isPlace, c_isDay, c_isState, c_isAsk, c_in, c_bad0 (thr0 _), Vk_v, Nat.reduceAdd, b2i_t, b2i_f, n1t, n0f, d0t, d1f, d2f, cond_true, cond_false, decide_true, Bool.not_true, Bool.not_false, up3_a (show 190 ≠ 186 by decide), k_X12_statesOf_v2_0, h1, h2]
theorem en_43 (h : Rl t I L P E c s) (hn : 6 * t + 6 ≤ n) (hN : n ≤ 3072) (K : ∀ v1 v2 : Nat, v1 < zW I → v2 < 6 → sc I t 1 = nI v1 → sc I t 2 = nI v2 → inR (sc I t 1) 0 (I 190 0 2 - 1) = true → inR (sc I t 2) 0 5 = true → LGo (d + 30) n t 43 I L P E c s) : LGo (d + 30) n t 43 I L P E c s := by
  obtain ⟨⟨hE, hc, -, -⟩, hT, hl, -⟩ := id h
  cases h1 : inR (sc I t 1) 0 (I 190 0 2 - 1) with
  | false =>
    refine rf_43_0 (d := d + 28) 0 h hn hN ?_ ?_
    · simp only [k_X11_parting_0, c_wantWell, wt_well hT hl h1, cond_true, cond_false, Vk_n, Nat.reduceAdd, Vk_x f_184_2 (show 184 < 332 by decide)]
    · simp only [k_X12_parting_0, k_X12_parting_11, k_X12_parting_24, k_X12_parting_32, c_isWell, c_isPlace, c_isDay, c_isState, c_isAsk, c_in, c_bad0 (thr0 _), Vk_v, Nat.reduceAdd, b2i_t, b2i_f, n1t, n0f, d0t, d1f, d2f, cond_true, cond_false, decide_true, Bool.not_true, Bool.not_false, up3_a (show 190 ≠ 186 by decide), k_X12_statesOf_v2_0, refC_at hc (show 190 < 487 by decide) (show 190 ≠ 100 by decide), c_bad1 (thr0 _) d1f (show (0 : Int32) = nI 0 from rfl) (show 0 < 2 by decide), h1, k_X12_parting_45]
      rfl
  | true =>
    cases h2 : inR (sc I t 2) 0 5 with
    | false =>
      refine rf_43_1 (d := d + 28) 0 h hn hN ?_ ?_
      · simp only [k_X11_parting_0, k_X11_parting_5, c_wantQuestion, c_wantWell, wt_well hT hl h1, wt_ask h2, cond_true, cond_false, Vk_n, Nat.reduceAdd, Vk_x f_184_7 (show 184 < 332 by decide)]
      · simp only [k_X12_parting_0, k_X12_parting_11, k_X12_parting_24, k_X12_parting_32, c_isWell, c_isPlace, c_isDay, c_isState, c_isAsk, c_in, c_bad0 (thr0 _), Vk_v, Nat.reduceAdd, b2i_t, b2i_f, n1t, n0f, d0t, d1f, d2f, cond_true, cond_false, decide_true, Bool.not_true, Bool.not_false, up3_a (show 190 ≠ 186 by decide), k_X12_statesOf_v2_0, refC_at hc (show 190 < 487 by decide) (show 190 ≠ 100 by decide), c_bad1 (thr0 _) d2f (show (1 : Int32) = nI 1 from rfl) (show 1 < 2 by decide), h1, h2, k_X12_parting_45]
        rfl
    | true =>
      obtain ⟨v1, g1, e1⟩ := is_well hT h1
      obtain ⟨v2, g2, e2⟩ := is_ask h2
      exact K v1 v2 g1 g2 e1 e2 h1 h2
theorem cp_44 {x1 x2 : Int32} (hT : RTold I) (hl : RLand I L) (h1 : inR x1 0 (I 190 0 1 - 1) = true) (h2 : inR x2 0 ((1 : Int32) <<< (I 190 0 2 &&& 31) - 1) = true) : V PR (d + 2) 172 0 [(0, (vR (some (100, 0)))), (1, (vi x1)), (2, (vi x2))] [] (mm n I L P E c s) = V PR (d + 2) 172 10 [(0, (vR (some (100, 0)))), (1, (vi x1)), (2, (vi x2))] [] (mm n I L P E c s) := by
  simp only [k_X11_tour_0, k_X11_tour_5, c_wantPlace, c_wantWells, wt_place hT hl h1, wt_wells hT hl h2, cond_true, Vk_n, Nat.reduceAdd]
theorem rp_44 {x1 x2 : Int32} (hT : RTold I) (h1 : inR x1 0 (I 190 0 1 - 1) = true) (h2 : inR x2 0 ((1 : Int32) <<< (I 190 0 2 &&& 31) - 1) = true) : V PR (d + 3) 318 0 [(0, (vR (some (186, 0)))), (1, (vi x1)), (2, (vi x2))] [] (mm n I L P E c s) = V PR (d + 3) 318 56 [(0, (vR (some (186, 0)))), (1, (vi x1)), (2, (vi x2))] [vi (0 : Int32)] (mm n (up3 I 186 0 0 0) L P E c s) := by
  simp only [k_X12_tour_0, k_X12_tour_11, k_X12_tour_24, k_X12_tour_43, c_isWell, c_isPlace, c_isDay, c_isState, c_isAsk, c_in, c_bad0 (thr0 _), Vk_v, Nat.reduceAdd, b2i_t, b2i_f, n1t, n0f, d0t, d1f, d2f, cond_true, cond_false, decide_true, Bool.not_true, Bool.not_false, up3_a (show 190 ≠ 186 by decide), k_X12_statesOf_v2_0, h1, h2]
theorem en_44 (h : Rl t I L P E c s) (hn : 6 * t + 6 ≤ n) (hN : n ≤ 3072) (K : ∀ v1 v2 : Nat, v1 < zP I → v2 < 2 ^ zW I → sc I t 1 = nI v1 → sc I t 2 = nI v2 → inR (sc I t 1) 0 (I 190 0 1 - 1) = true → inR (sc I t 2) 0 ((1 : Int32) <<< (I 190 0 2 &&& 31) - 1) = true → LGo (d + 30) n t 44 I L P E c s) : LGo (d + 30) n t 44 I L P E c s := by
  obtain ⟨⟨hE, hc, -, -⟩, hT, hl, -⟩ := id h
  cases h1 : inR (sc I t 1) 0 (I 190 0 1 - 1) with
  | false =>
    refine rf_44_0 (d := d + 28) 0 h hn hN ?_ ?_
    · simp only [k_X11_tour_0, c_wantPlace, wt_place hT hl h1, cond_true, cond_false, Vk_n, Nat.reduceAdd, Vk_x f_172_2 (show 172 < 332 by decide)]
    · simp only [k_X12_tour_0, k_X12_tour_11, k_X12_tour_24, k_X12_tour_43, c_isWell, c_isPlace, c_isDay, c_isState, c_isAsk, c_in, c_bad0 (thr0 _), Vk_v, Nat.reduceAdd, b2i_t, b2i_f, n1t, n0f, d0t, d1f, d2f, cond_true, cond_false, decide_true, Bool.not_true, Bool.not_false, up3_a (show 190 ≠ 186 by decide), k_X12_statesOf_v2_0, refC_at hc (show 190 < 487 by decide) (show 190 ≠ 100 by decide), c_bad1 (thr0 _) d1f (show (0 : Int32) = nI 0 from rfl) (show 0 < 2 by decide), h1, k_X12_tour_56]
      rfl
  | true =>
    cases h2 : inR (sc I t 2) 0 ((1 : Int32) <<< (I 190 0 2 &&& 31) - 1) with
    | false =>
      refine rf_44_1 (d := d + 28) 0 h hn hN ?_ ?_
      · simp only [k_X11_tour_0, k_X11_tour_5, c_wantPlace, c_wantWells, wt_place hT hl h1, wt_wells hT hl h2, cond_true, cond_false, Vk_n, Nat.reduceAdd, Vk_x f_172_7 (show 172 < 332 by decide)]
      · simp only [k_X12_tour_0, k_X12_tour_11, k_X12_tour_24, k_X12_tour_43, c_isWell, c_isPlace, c_isDay, c_isState, c_isAsk, c_in, c_bad0 (thr0 _), Vk_v, Nat.reduceAdd, b2i_t, b2i_f, n1t, n0f, d0t, d1f, d2f, cond_true, cond_false, decide_true, Bool.not_true, Bool.not_false, up3_a (show 190 ≠ 186 by decide), k_X12_statesOf_v2_0, refC_at hc (show 190 < 487 by decide) (show 190 ≠ 100 by decide), c_bad1 (thr0 _) d2f (show (1 : Int32) = nI 1 from rfl) (show 1 < 2 by decide), h1, h2, k_X12_tour_56]
        rfl
    | true =>
      obtain ⟨v1, g1, e1⟩ := is_place hT h1
      obtain ⟨v2, g2, e2⟩ := is_wells hT h2
      exact K v1 v2 g1 g2 e1 e2 h1 h2
theorem cp_45 {x1 x2 : Int32} (hT : RTold I) (hl : RLand I L) (h1 : inR x1 0 (I 190 0 2 - 1) = true) (h2 : inR x2 0 1 = true) : V PR (d + 2) 185 0 [(0, (vR (some (100, 0)))), (1, (vi x1)), (2, (vi x2))] [] (mm n I L P E c s) = V PR (d + 2) 185 10 [(0, (vR (some (100, 0)))), (1, (vi x1)), (2, (vi x2))] [] (mm n I L P E c s) := by
  simp only [k_X11_lying_0, k_X11_lying_5, c_wantWell, c_wantWhat, wt_well hT hl h1, wt_what h2, cond_true, Vk_n, Nat.reduceAdd]
theorem rp_45 {x1 x2 : Int32} (hT : RTold I) (h1 : inR x1 0 (I 190 0 2 - 1) = true) (h2 : inR x2 0 1 = true) : V PR (d + 3) 319 0 [(0, (vR (some (186, 0)))), (1, (vi x1)), (2, (vi x2))] [] (mm n I L P E c s) = V PR (d + 3) 319 47 [(0, (vR (some (186, 0)))), (1, (vi x1)), (2, (vi x2))] [vi (0 : Int32)] (mm n (up3 I 186 0 0 0) L P E c s) := by
  simp only [k_X12_lying_0, k_X12_lying_11, k_X12_lying_24, k_X12_lying_34, c_isWell, c_isPlace, c_isDay, c_isState, c_isAsk, c_in, c_bad0 (thr0 _), Vk_v, Nat.reduceAdd, b2i_t, b2i_f, n1t, n0f, d0t, d1f, d2f, cond_true, cond_false, decide_true, Bool.not_true, Bool.not_false, up3_a (show 190 ≠ 186 by decide), k_X12_statesOf_v2_0, h1, h2]
theorem en_45 (h : Rl t I L P E c s) (hn : 6 * t + 6 ≤ n) (hN : n ≤ 3072) (K : ∀ v1 v2 : Nat, v1 < zW I → v2 < 2 → sc I t 1 = nI v1 → sc I t 2 = nI v2 → inR (sc I t 1) 0 (I 190 0 2 - 1) = true → inR (sc I t 2) 0 1 = true → LGo (d + 30) n t 45 I L P E c s) : LGo (d + 30) n t 45 I L P E c s := by
  obtain ⟨⟨hE, hc, -, -⟩, hT, hl, -⟩ := id h
  cases h1 : inR (sc I t 1) 0 (I 190 0 2 - 1) with
  | false =>
    refine rf_45_0 (d := d + 28) 0 h hn hN ?_ ?_
    · simp only [k_X11_lying_0, c_wantWell, wt_well hT hl h1, cond_true, cond_false, Vk_n, Nat.reduceAdd, Vk_x f_185_2 (show 185 < 332 by decide)]
    · simp only [k_X12_lying_0, k_X12_lying_11, k_X12_lying_24, k_X12_lying_34, c_isWell, c_isPlace, c_isDay, c_isState, c_isAsk, c_in, c_bad0 (thr0 _), Vk_v, Nat.reduceAdd, b2i_t, b2i_f, n1t, n0f, d0t, d1f, d2f, cond_true, cond_false, decide_true, Bool.not_true, Bool.not_false, up3_a (show 190 ≠ 186 by decide), k_X12_statesOf_v2_0, refC_at hc (show 190 < 487 by decide) (show 190 ≠ 100 by decide), c_bad1 (thr0 _) d1f (show (0 : Int32) = nI 0 from rfl) (show 0 < 2 by decide), h1, k_X12_lying_47]
      rfl
  | true =>
    cases h2 : inR (sc I t 2) 0 1 with
    | false =>
      refine rf_45_1 (d := d + 28) 0 h hn hN ?_ ?_
      · simp only [k_X11_lying_0, k_X11_lying_5, c_wantWell, c_wantWhat, wt_well hT hl h1, wt_what h2, cond_true, cond_false, Vk_n, Nat.reduceAdd, Vk_x f_185_7 (show 185 < 332 by decide)]
      · simp only [k_X12_lying_0, k_X12_lying_11, k_X12_lying_24, k_X12_lying_34, c_isWell, c_isPlace, c_isDay, c_isState, c_isAsk, c_in, c_bad0 (thr0 _), Vk_v, Nat.reduceAdd, b2i_t, b2i_f, n1t, n0f, d0t, d1f, d2f, cond_true, cond_false, decide_true, Bool.not_true, Bool.not_false, up3_a (show 190 ≠ 186 by decide), k_X12_statesOf_v2_0, refC_at hc (show 190 < 487 by decide) (show 190 ≠ 100 by decide), c_bad1 (thr0 _) d2f (show (1 : Int32) = nI 1 from rfl) (show 1 < 2 by decide), h1, h2, k_X12_lying_47]
        rfl
    | true =>
      obtain ⟨v1, g1, e1⟩ := is_well hT h1
      obtain ⟨v2, g2, e2⟩ := is_what h2
      exact K v1 v2 g1 g2 e1 e2 h1 h2
theorem cp_46 {x1 x2 x3 : Int32} (hT : RTold I) (hl : RLand I L) (h1 : inR x1 0 (I 190 0 2 - 1) = true) (h2 : inR x2 0 (I 190 0 2 - 1) = true) (h3 : inR x3 0 5 = true) : V PR (d + 2) 186 0 [(0, (vR (some (100, 0)))), (1, (vi x1)), (2, (vi x2)), (3, (vi x3))] [] (mm n I L P E c s) = V PR (d + 2) 186 15 [(0, (vR (some (100, 0)))), (1, (vi x1)), (2, (vi x2)), (3, (vi x3))] [] (mm n I L P E c s) := by
  simp only [k_X11_agree_0, k_X11_agree_5, k_X11_agree_10, c_wantQuestion, c_wantWell, wt_well hT hl h1, wt_well hT hl h2, wt_ask h3, cond_true, Vk_n, Nat.reduceAdd]
theorem rp_46 {x1 x2 x3 : Int32} (hT : RTold I) (h1 : inR x1 0 (I 190 0 2 - 1) = true) (h2 : inR x2 0 (I 190 0 2 - 1) = true) (h3 : inR x3 0 5 = true) : V PR (d + 3) 320 0 [(0, (vR (some (186, 0)))), (1, (vi x1)), (2, (vi x2)), (3, (vi x3))] [] (mm n I L P E c s) = V PR (d + 3) 320 53 [(0, (vR (some (186, 0)))), (1, (vi x1)), (2, (vi x2)), (3, (vi x3))] [vi (0 : Int32)] (mm n (up3 I 186 0 0 0) L P E c s) := by
  simp only [k_X12_agree_0, k_X12_agree_11, k_X12_agree_32, k_X12_agree_19, k_X12_agree_40, c_isWell, c_isPlace, c_isDay, c_isState, c_isAsk, c_in, c_bad0 (thr0 _), Vk_v, Nat.reduceAdd, b2i_t, b2i_f, n1t, n0f, d0t, d1f, d2f, cond_true, cond_false, decide_true, Bool.not_true, Bool.not_false, up3_a (show 190 ≠ 186 by decide), k_X12_statesOf_v2_0, h1, h2, h3]
theorem en_46 (h : Rl t I L P E c s) (hn : 6 * t + 6 ≤ n) (hN : n ≤ 3072) (K : ∀ v1 v2 v3 : Nat, v1 < zW I → v2 < zW I → v3 < 6 → sc I t 1 = nI v1 → sc I t 2 = nI v2 → sc I t 3 = nI v3 → inR (sc I t 1) 0 (I 190 0 2 - 1) = true → inR (sc I t 2) 0 (I 190 0 2 - 1) = true → inR (sc I t 3) 0 5 = true → LGo (d + 30) n t 46 I L P E c s) : LGo (d + 30) n t 46 I L P E c s := by
  obtain ⟨⟨hE, hc, -, -⟩, hT, hl, -⟩ := id h
  cases h1 : inR (sc I t 1) 0 (I 190 0 2 - 1) with
  | false =>
    refine rf_46_0 (d := d + 28) 0 h hn hN ?_ ?_
    · simp only [k_X11_agree_0, c_wantWell, wt_well hT hl h1, cond_true, cond_false, Vk_n, Nat.reduceAdd, Vk_x f_186_2 (show 186 < 332 by decide)]
    · simp only [k_X12_agree_0, k_X12_agree_11, k_X12_agree_32, k_X12_agree_19, k_X12_agree_40, c_isWell, c_isPlace, c_isDay, c_isState, c_isAsk, c_in, c_bad0 (thr0 _), Vk_v, Nat.reduceAdd, b2i_t, b2i_f, n1t, n0f, d0t, d1f, d2f, cond_true, cond_false, decide_true, Bool.not_true, Bool.not_false, up3_a (show 190 ≠ 186 by decide), k_X12_statesOf_v2_0, refC_at hc (show 190 < 487 by decide) (show 190 ≠ 100 by decide), c_bad1 (thr0 _) d1f (show (0 : Int32) = nI 0 from rfl) (show 0 < 2 by decide), h1, k_X12_agree_53]
      rfl
  | true =>
    cases h2 : inR (sc I t 2) 0 (I 190 0 2 - 1) with
    | false =>
      refine rf_46_0 (d := d + 28) 0 h hn hN ?_ ?_
      · simp only [k_X11_agree_0, k_X11_agree_5, c_wantWell, wt_well hT hl h1, wt_well hT hl h2, cond_true, cond_false, Vk_n, Nat.reduceAdd, Vk_x f_186_7 (show 186 < 332 by decide)]
      · simp only [k_X12_agree_0, k_X12_agree_11, k_X12_agree_32, k_X12_agree_19, k_X12_agree_40, c_isWell, c_isPlace, c_isDay, c_isState, c_isAsk, c_in, c_bad0 (thr0 _), Vk_v, Nat.reduceAdd, b2i_t, b2i_f, n1t, n0f, d0t, d1f, d2f, cond_true, cond_false, decide_true, Bool.not_true, Bool.not_false, up3_a (show 190 ≠ 186 by decide), k_X12_statesOf_v2_0, refC_at hc (show 190 < 487 by decide) (show 190 ≠ 100 by decide), c_bad1 (thr0 _) d1f (show (0 : Int32) = nI 0 from rfl) (show 0 < 2 by decide), h1, h2, k_X12_agree_53]
        rfl
    | true =>
      cases h3 : inR (sc I t 3) 0 5 with
      | false =>
        refine rf_46_1 (d := d + 28) 0 h hn hN ?_ ?_
        · simp only [k_X11_agree_0, k_X11_agree_5, k_X11_agree_10, c_wantQuestion, c_wantWell, wt_well hT hl h1, wt_well hT hl h2, wt_ask h3, cond_true, cond_false, Vk_n, Nat.reduceAdd, Vk_x f_186_12 (show 186 < 332 by decide)]
        · simp only [k_X12_agree_0, k_X12_agree_11, k_X12_agree_32, k_X12_agree_19, k_X12_agree_40, c_isWell, c_isPlace, c_isDay, c_isState, c_isAsk, c_in, c_bad0 (thr0 _), Vk_v, Nat.reduceAdd, b2i_t, b2i_f, n1t, n0f, d0t, d1f, d2f, cond_true, cond_false, decide_true, Bool.not_true, Bool.not_false, up3_a (show 190 ≠ 186 by decide), k_X12_statesOf_v2_0, refC_at hc (show 190 < 487 by decide) (show 190 ≠ 100 by decide), c_bad1 (thr0 _) d2f (show (1 : Int32) = nI 1 from rfl) (show 1 < 2 by decide), h1, h2, h3, k_X12_agree_53]
          rfl
      | true =>
        obtain ⟨v1, g1, e1⟩ := is_well hT h1
        obtain ⟨v2, g2, e2⟩ := is_well hT h2
        obtain ⟨v3, g3, e3⟩ := is_ask h3
        exact K v1 v2 v3 g1 g2 g3 e1 e2 e3 h1 h2 h3
theorem cp_47 {x1 : Int32} (hT : RTold I) (hl : RLand I L) (h1 : inR x1 0 364 = true) : V PR (d + 2) 187 0 [(0, (vR (some (100, 0)))), (1, (vi x1))] [] (mm n I L P E c s) = V PR (d + 2) 187 5 [(0, (vR (some (100, 0)))), (1, (vi x1))] [] (mm n I L P E c s) := by
  simp only [k_X11_learned_0, c_wantDay, wt_day h1, cond_true, Vk_n, Nat.reduceAdd]
theorem rp_47 {x1 : Int32} (hT : RTold I) (h1 : inR x1 0 364 = true) : V PR (d + 3) 321 0 [(0, (vR (some (186, 0)))), (1, (vi x1))] [] (mm n I L P E c s) = V PR (d + 3) 321 23 [(0, (vR (some (186, 0)))), (1, (vi x1))] [vi (0 : Int32)] (mm n (up3 I 186 0 0 0) L P E c s) := by
  simp only [k_X12_learned_0, k_X12_learned_10, c_isWell, c_isPlace, c_isDay, c_isState, c_isAsk, c_in, c_bad0 (thr0 _), Vk_v, Nat.reduceAdd, b2i_t, b2i_f, n1t, n0f, d0t, d1f, d2f, cond_true, cond_false, decide_true, Bool.not_true, Bool.not_false, up3_a (show 190 ≠ 186 by decide), k_X12_statesOf_v2_0, h1]
theorem en_47 (h : Rl t I L P E c s) (hn : 6 * t + 6 ≤ n) (hN : n ≤ 3072) (K : ∀ v1 : Nat, v1 < 365 → sc I t 1 = nI v1 → inR (sc I t 1) 0 364 = true → LGo (d + 30) n t 47 I L P E c s) : LGo (d + 30) n t 47 I L P E c s := by
  obtain ⟨⟨hE, hc, -, -⟩, hT, hl, -⟩ := id h
  cases h1 : inR (sc I t 1) 0 364 with
  | false =>
    refine rf_47_1 (d := d + 28) 0 h hn hN ?_ ?_
    · simp only [k_X11_learned_0, c_wantDay, wt_day h1, cond_true, cond_false, Vk_n, Nat.reduceAdd, Vk_x f_187_2 (show 187 < 332 by decide)]
    · simp only [k_X12_learned_0, k_X12_learned_10, c_isWell, c_isPlace, c_isDay, c_isState, c_isAsk, c_in, c_bad0 (thr0 _), Vk_v, Nat.reduceAdd, b2i_t, b2i_f, n1t, n0f, d0t, d1f, d2f, cond_true, cond_false, decide_true, Bool.not_true, Bool.not_false, up3_a (show 190 ≠ 186 by decide), k_X12_statesOf_v2_0, refC_at hc (show 190 < 487 by decide) (show 190 ≠ 100 by decide), c_bad1 (thr0 _) d1f (show (1 : Int32) = nI 1 from rfl) (show 1 < 2 by decide), h1, k_X12_learned_23]
      rfl
  | true =>
    obtain ⟨v1, g1, e1⟩ := is_day h1
    exact K v1 g1 e1 h1
theorem cp_48 {x1 x2 : Int32} (hT : RTold I) (hl : RLand I L) (h1 : inR x1 0 (I 190 0 2 - 1) = true) (h2 : inR x2 0 364 = true) : V PR (d + 2) 188 0 [(0, (vR (some (100, 0)))), (1, (vi x1)), (2, (vi x2))] [] (mm n I L P E c s) = V PR (d + 2) 188 10 [(0, (vR (some (100, 0)))), (1, (vi x1)), (2, (vi x2))] [] (mm n I L P E c s) := by
  simp only [k_X11_waits_0, k_X11_waits_5, c_wantDay, c_wantWell, wt_well hT hl h1, wt_day h2, cond_true, Vk_n, Nat.reduceAdd]
theorem rp_48 {x1 x2 : Int32} (hT : RTold I) (h1 : inR x1 0 (I 190 0 2 - 1) = true) (h2 : inR x2 0 364 = true) : V PR (d + 3) 322 0 [(0, (vR (some (186, 0)))), (1, (vi x1)), (2, (vi x2))] [] (mm n I L P E c s) = V PR (d + 3) 322 45 [(0, (vR (some (186, 0)))), (1, (vi x1)), (2, (vi x2))] [vi (0 : Int32)] (mm n (up3 I 186 0 0 0) L P E c s) := by
  simp only [k_X12_waits_0, k_X12_waits_11, k_X12_waits_24, k_X12_waits_32, c_isWell, c_isPlace, c_isDay, c_isState, c_isAsk, c_in, c_bad0 (thr0 _), Vk_v, Nat.reduceAdd, b2i_t, b2i_f, n1t, n0f, d0t, d1f, d2f, cond_true, cond_false, decide_true, Bool.not_true, Bool.not_false, up3_a (show 190 ≠ 186 by decide), k_X12_statesOf_v2_0, h1, h2]
theorem en_48 (h : Rl t I L P E c s) (hn : 6 * t + 6 ≤ n) (hN : n ≤ 3072) (K : ∀ v1 v2 : Nat, v1 < zW I → v2 < 365 → sc I t 1 = nI v1 → sc I t 2 = nI v2 → inR (sc I t 1) 0 (I 190 0 2 - 1) = true → inR (sc I t 2) 0 364 = true → LGo (d + 30) n t 48 I L P E c s) : LGo (d + 30) n t 48 I L P E c s := by
  obtain ⟨⟨hE, hc, -, -⟩, hT, hl, -⟩ := id h
  cases h1 : inR (sc I t 1) 0 (I 190 0 2 - 1) with
  | false =>
    refine rf_48_0 (d := d + 28) 0 h hn hN ?_ ?_
    · simp only [k_X11_waits_0, c_wantWell, wt_well hT hl h1, cond_true, cond_false, Vk_n, Nat.reduceAdd, Vk_x f_188_2 (show 188 < 332 by decide)]
    · simp only [k_X12_waits_0, k_X12_waits_11, k_X12_waits_24, k_X12_waits_32, c_isWell, c_isPlace, c_isDay, c_isState, c_isAsk, c_in, c_bad0 (thr0 _), Vk_v, Nat.reduceAdd, b2i_t, b2i_f, n1t, n0f, d0t, d1f, d2f, cond_true, cond_false, decide_true, Bool.not_true, Bool.not_false, up3_a (show 190 ≠ 186 by decide), k_X12_statesOf_v2_0, refC_at hc (show 190 < 487 by decide) (show 190 ≠ 100 by decide), c_bad1 (thr0 _) d1f (show (0 : Int32) = nI 0 from rfl) (show 0 < 2 by decide), h1, k_X12_waits_45]
      rfl
  | true =>
    cases h2 : inR (sc I t 2) 0 364 with
    | false =>
      refine rf_48_1 (d := d + 28) 0 h hn hN ?_ ?_
      · simp only [k_X11_waits_0, k_X11_waits_5, c_wantDay, c_wantWell, wt_well hT hl h1, wt_day h2, cond_true, cond_false, Vk_n, Nat.reduceAdd, Vk_x f_188_7 (show 188 < 332 by decide)]
      · simp only [k_X12_waits_0, k_X12_waits_11, k_X12_waits_24, k_X12_waits_32, c_isWell, c_isPlace, c_isDay, c_isState, c_isAsk, c_in, c_bad0 (thr0 _), Vk_v, Nat.reduceAdd, b2i_t, b2i_f, n1t, n0f, d0t, d1f, d2f, cond_true, cond_false, decide_true, Bool.not_true, Bool.not_false, up3_a (show 190 ≠ 186 by decide), k_X12_statesOf_v2_0, refC_at hc (show 190 < 487 by decide) (show 190 ≠ 100 by decide), c_bad1 (thr0 _) d2f (show (1 : Int32) = nI 1 from rfl) (show 1 < 2 by decide), h1, h2, k_X12_waits_45]
        rfl
    | true =>
      obtain ⟨v1, g1, e1⟩ := is_well hT h1
      obtain ⟨v2, g2, e2⟩ := is_day h2
      exact K v1 v2 g1 g2 e1 e2 h1 h2
theorem cp_49 {x1 x2 : Int32} (hT : RTold I) (hl : RLand I L) (h1 : inR x1 0 364 = true) (h2 : inR x2 0 1 = true) : V PR (d + 2) 169 0 [(0, (vR (some (100, 0)))), (1, (vi x1)), (2, (vi x2))] [] (mm n I L P E c s) = V PR (d + 2) 169 10 [(0, (vR (some (100, 0)))), (1, (vi x1)), (2, (vi x2))] [] (mm n I L P E c s) := by
  simp only [k_X11_odds_0, k_X11_odds_5, c_wantDay, c_wantWhat, wt_day h1, wt_what h2, cond_true, Vk_n, Nat.reduceAdd]
theorem rp_49 {x1 x2 : Int32} (hT : RTold I) (h1 : inR x1 0 364 = true) (h2 : inR x2 0 1 = true) : V PR (d + 3) 323 0 [(0, (vR (some (186, 0)))), (1, (vi x1)), (2, (vi x2))] [] (mm n I L P E c s) = V PR (d + 3) 323 32 [(0, (vR (some (186, 0)))), (1, (vi x1)), (2, (vi x2))] [vi (0 : Int32)] (mm n (up3 I 186 0 0 0) L P E c s) := by
  simp only [k_X12_odds_0, k_X12_odds_10, k_X12_odds_19, c_isWell, c_isPlace, c_isDay, c_isState, c_isAsk, c_in, c_bad0 (thr0 _), Vk_v, Nat.reduceAdd, b2i_t, b2i_f, n1t, n0f, d0t, d1f, d2f, cond_true, cond_false, decide_true, Bool.not_true, Bool.not_false, up3_a (show 190 ≠ 186 by decide), k_X12_statesOf_v2_0, h1, h2]
theorem en_49 (h : Rl t I L P E c s) (hn : 6 * t + 6 ≤ n) (hN : n ≤ 3072) (K : ∀ v1 v2 : Nat, v1 < 365 → v2 < 2 → sc I t 1 = nI v1 → sc I t 2 = nI v2 → inR (sc I t 1) 0 364 = true → inR (sc I t 2) 0 1 = true → LGo (d + 30) n t 49 I L P E c s) : LGo (d + 30) n t 49 I L P E c s := by
  obtain ⟨⟨hE, hc, -, -⟩, hT, hl, -⟩ := id h
  cases h1 : inR (sc I t 1) 0 364 with
  | false =>
    refine rf_49_1 (d := d + 28) 0 h hn hN ?_ ?_
    · simp only [k_X11_odds_0, c_wantDay, wt_day h1, cond_true, cond_false, Vk_n, Nat.reduceAdd, Vk_x f_169_2 (show 169 < 332 by decide)]
    · simp only [k_X12_odds_0, k_X12_odds_10, k_X12_odds_19, c_isWell, c_isPlace, c_isDay, c_isState, c_isAsk, c_in, c_bad0 (thr0 _), Vk_v, Nat.reduceAdd, b2i_t, b2i_f, n1t, n0f, d0t, d1f, d2f, cond_true, cond_false, decide_true, Bool.not_true, Bool.not_false, up3_a (show 190 ≠ 186 by decide), k_X12_statesOf_v2_0, refC_at hc (show 190 < 487 by decide) (show 190 ≠ 100 by decide), c_bad1 (thr0 _) d1f (show (1 : Int32) = nI 1 from rfl) (show 1 < 2 by decide), h1, k_X12_odds_32]
      rfl
  | true =>
    cases h2 : inR (sc I t 2) 0 1 with
    | false =>
      refine rf_49_1 (d := d + 28) 0 h hn hN ?_ ?_
      · simp only [k_X11_odds_0, k_X11_odds_5, c_wantDay, c_wantWhat, wt_day h1, wt_what h2, cond_true, cond_false, Vk_n, Nat.reduceAdd, Vk_x f_169_7 (show 169 < 332 by decide)]
      · simp only [k_X12_odds_0, k_X12_odds_10, k_X12_odds_19, c_isWell, c_isPlace, c_isDay, c_isState, c_isAsk, c_in, c_bad0 (thr0 _), Vk_v, Nat.reduceAdd, b2i_t, b2i_f, n1t, n0f, d0t, d1f, d2f, cond_true, cond_false, decide_true, Bool.not_true, Bool.not_false, up3_a (show 190 ≠ 186 by decide), k_X12_statesOf_v2_0, refC_at hc (show 190 < 487 by decide) (show 190 ≠ 100 by decide), c_bad1 (thr0 _) d1f (show (1 : Int32) = nI 1 from rfl) (show 1 < 2 by decide), h1, h2, k_X12_odds_32]
        rfl
    | true =>
      obtain ⟨v1, g1, e1⟩ := is_day h1
      obtain ⟨v2, g2, e2⟩ := is_what h2
      exact K v1 v2 g1 g2 e1 e2 h1 h2
end Enter
