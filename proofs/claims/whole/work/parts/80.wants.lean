/-! WHAT IS WANTED, by both sides. -/
section Wants
variable {d n t : Nat} {I : FI} {L : FL} {P : FR} {E : FE} {c s : Nat}
theorem c_wantPlace (x : Int32) : V PR (d + 1) 195 0 [(0, vR (some (100, 0))), (1, vi x)] [] (mm n I L P E c s) = bif (!decide (x < 0) && !decide (I 103 0 1 ≤ x)) then some (.inl none, mm n I L P E c s) else some (.inr (0, c), newc (mm n (up3 I 100 0 17 (I 100 0 17 + 1)) L P E c s) (5, 0, 0, 0) 1 6) := by
  rw [k_X11_wantPlace_0]
  simp only [c_wantThere_t, c_wantThere_f, Vk_n, Nat.reduceAdd, k_X11_wantPlace_24, Vk_x f_195_21 (show 195 < 332 by decide)]
  cases decide (x < 0) <;> cases decide (I 103 0 1 ≤ x) <;> rfl
theorem c_wantState (x : Int32) : V PR (d + 1) 197 0 [(0, vR (some (100, 0))), (1, vi x)] [] (mm n I L P E c s) = bif (!decide (x < 0) && !decide (I 103 0 4 ≤ x)) then some (.inl none, mm n I L P E c s) else some (.inr (1, c), newc (mm n (up3 I 100 0 18 (I 100 0 18 + 1)) L P E c s) (5, 1, 0, 0) 1 6) := by
  rw [k_X11_wantState_0]
  simp only [c_wantRight_t, c_wantRight_f, Vk_n, Nat.reduceAdd, k_X11_wantState_24, Vk_x f_197_21 (show 197 < 332 by decide)]
  cases decide (x < 0) <;> cases decide (I 103 0 4 ≤ x) <;> rfl
theorem c_wantQuestion (x : Int32) : V PR (d + 1) 198 0 [(0, vR (some (100, 0))), (1, vi x)] [] (mm n I L P E c s) = bif (!decide (x < 0) && !decide (6 ≤ x)) then some (.inl none, mm n I L P E c s) else some (.inr (1, c), newc (mm n (up3 I 100 0 18 (I 100 0 18 + 1)) L P E c s) (5, 1, 0, 0) 1 6) := by
  rw [k_X11_wantQuestion_0]
  simp only [c_wantRight_t, c_wantRight_f, Vk_n, Nat.reduceAdd, k_X11_wantQuestion_19, Vk_x f_198_16 (show 198 < 332 by decide)]
  cases decide (x < 0) <;> cases decide ((6 : Int32) ≤ x) <;> rfl
theorem c_wantBuyer (x : Int32) : V PR (d + 1) 199 0 [(0, vR (some (100, 0))), (1, vi x)] [] (mm n I L P E c s) = bif (!decide (x < 0) && !decide (6 ≤ x)) then some (.inl none, mm n I L P E c s) else some (.inr (1, c), newc (mm n (up3 I 100 0 18 (I 100 0 18 + 1)) L P E c s) (5, 1, 0, 0) 1 6) := by
  rw [k_X11_wantBuyer_0]
  simp only [c_wantRight_t, c_wantRight_f, Vk_n, Nat.reduceAdd, k_X11_wantBuyer_19, Vk_x f_199_16 (show 199 < 332 by decide)]
  cases decide (x < 0) <;> cases decide ((6 : Int32) ≤ x) <;> rfl
theorem c_wantWells (x : Int32) : V PR (d + 1) 200 0 [(0, vR (some (100, 0))), (1, vi x)] [] (mm n I L P E c s) = bif (!decide (x < 0) && !decide ((1 : Int32) <<< (I 103 0 2 &&& 31) ≤ x)) then some (.inl none, mm n I L P E c s) else some (.inr (1, c), newc (mm n (up3 I 100 0 18 (I 100 0 18 + 1)) L P E c s) (5, 1, 0, 0) 1 6) := by
  rw [k_X11_wantWells_0]
  simp only [c_wantRight_t, c_wantRight_f, Vk_n, Nat.reduceAdd, k_X11_wantWells_26, Vk_x f_200_23 (show 200 < 332 by decide)]
  cases decide (x < 0) <;> cases decide ((1 : Int32) <<< (I 103 0 2 &&& 31) ≤ x) <;> rfl
theorem c_wantWhat (x : Int32) : V PR (d + 1) 201 0 [(0, vR (some (100, 0))), (1, vi x)] [] (mm n I L P E c s) = bif (decide (x = 0) || decide (x = 1)) then some (.inl none, mm n I L P E c s) else some (.inr (1, c), newc (mm n (up3 I 100 0 18 (I 100 0 18 + 1)) L P E c s) (5, 1, 0, 0) 1 6) := by
  rw [k_X11_wantWhat_0]
  simp only [c_wantRight_t, c_wantRight_f, Vk_n, Nat.reduceAdd, k_X11_wantWhat_18, Vk_x f_201_15 (show 201 < 332 by decide)]
  cases decide (x = 0) <;> cases decide (x = 1) <;> rfl
theorem c_isAsk (x : Int32) : V PR (d + 1) 242 0 [(0, vi x)] [] (mm n I L P E c s) = some (.inl (some (vi (b2i (inR x 0 5)))), mm n I L P E c s) := by
  rw [k_X12_isAsk_0, c_in, Vk_v, k_X12_isAsk_6, b2i_bit, cond_true]
theorem c_isState (x : Int32) : V PR (d + 2) 250 0 [(0, vR (some (186, 0))), (1, vi x)] [] (mm n I L P E c s) = some (.inl (some (vi (b2i (inR x 0 ((1 : Int32) <<< ((I 190 0 0 + I 190 0 3) &&& 31) - 1))))), mm n I L P E c s) := by
  simp only [k_X12_isState_0, k_X12_statesOf_v2_0, Vk_v, Nat.reduceAdd, k_X12_isState_9, c_in, k_X12_isState_14, b2i_bit, cond_true]
theorem shl_bits : ∀ b, b ≤ 6 → (1 : Int32) <<< (nI b &&& 31) = nI (2 ^ b) := by decide +kernel
theorem st_val (h : RTold I) : (1 : Int32) <<< ((I 190 0 0 + I 190 0 3) &&& 31) = nI (2 ^ zB I) := by
  obtain ⟨⟨h1, -, h2⟩, -, -, ⟨h3, h4⟩, -⟩ := h
  rw [h1, h3, nI_add]
  exact shl_bits _ (by omega)
theorem ws_val (h : RTold I) : (1 : Int32) <<< (I 190 0 2 &&& 31) = nI (2 ^ zW I) := by
  rw [h.2.2.1.1]
  exact shl_bits _ h.2.2.1.2
theorem zB_le (h : RTold I) : zB I ≤ 6 := by
  obtain ⟨⟨-, -, h2⟩, -, -, ⟨-, h4⟩, -⟩ := h
  unfold zB
  omega
theorem p2_lt {b : Nat} (h : b ≤ 6) : 2 ^ b < 2 ^ 30 := Nat.pow_lt_pow_right (by decide) (by omega)
/-- each of them: what is as wanted, by the reference's words for it -/
theorem wt_well {x : Int32} {b : Bool} (hT : RTold I) (hl : RLand I L) (h : inR x 0 (I 190 0 2 - 1) = b) : (!decide (x < 0) && !decide (I 103 0 2 ≤ x)) = b := by
  rw [hl.2.2.1.trans hT.2.2.1.1, inR_wn (zW_lt hT), ← hT.2.2.1.1, h]
theorem wt_place {x : Int32} {b : Bool} (hT : RTold I) (hl : RLand I L) (h : inR x 0 (I 190 0 1 - 1) = b) : (!decide (x < 0) && !decide (I 103 0 1 ≤ x)) = b := by
  have := hT.2.1.2
  rw [hl.2.1.trans hT.2.1.1, inR_wn (by omega), ← hT.2.1.1, h]
theorem wt_state {x : Int32} {b : Bool} (hT : RTold I) (hl : RLand I L) (h : inR x 0 ((1 : Int32) <<< ((I 190 0 0 + I 190 0 3) &&& 31) - 1) = b) : (!decide (x < 0) && !decide (I 103 0 4 ≤ x)) = b := by
  rw [hl.2.2.2.2.1, inR_wn (p2_lt (zB_le hT)), ← st_val hT, h]
theorem wt_wells {x : Int32} {b : Bool} (hT : RTold I) (hl : RLand I L) (h : inR x 0 ((1 : Int32) <<< (I 190 0 2 &&& 31) - 1) = b) : (!decide (x < 0) && !decide ((1 : Int32) <<< (I 103 0 2 &&& 31) ≤ x)) = b := by
  rw [hl.2.2.1, ws_val hT, inR_wn (p2_lt hT.2.2.1.2), ← ws_val hT, h]
theorem wt_day {x : Int32} {b : Bool} (h : inR x 0 364 = b) : (!decide (x < 0) && !decide (365 ≤ x)) = b := by rw [inR_day, h]
theorem wt_ask {x : Int32} {b : Bool} (h : inR x 0 5 = b) : (!decide (x < 0) && !decide (6 ≤ x)) = b := (inR_wn (W := 6) (by decide)).trans h
theorem wt_what {x : Int32} {b : Bool} (h : inR x 0 1 = b) : (decide (x = 0) || decide (x = 1)) = b := by
  rw [← h]
  unfold inR
  have e0 : (0 : Int32).toInt = 0 := by decide +kernel
  have e1 : (1 : Int32).toInt = 1 := by decide +kernel
  have q : (decide (x = 0) || decide (x = 1)) = decide (x.toInt = 0 ∨ x.toInt = 1) := by
    rw [Bool.decide_or]
    congr 1
    · rw [decide_eq_decide, ← Int32.toInt_inj, e0]
    · rw [decide_eq_decide, ← Int32.toInt_inj, e1]
  have q2 : (!decide (x < 0) && !decide (1 < x)) = decide (¬ x.toInt < 0 ∧ ¬ 1 < x.toInt) := by
    rw [Bool.decide_and, decide_not, decide_not]
    congr 2
    · rw [decide_eq_decide, Int32.lt_iff_toInt_lt, e0]
    · rw [decide_eq_decide, Int32.lt_iff_toInt_lt, e1]
  rw [q, q2, decide_eq_decide]
  omega
theorem is_well {x : Int32} (hT : RTold I) (h : inR x 0 (I 190 0 2 - 1) = true) : ∃ k, k < zW I ∧ x = nI k := w_nat hT h
theorem is_place {x : Int32} (hT : RTold I) (h : inR x 0 (I 190 0 1 - 1) = true) : ∃ k, k < zP I ∧ x = nI k := by
  have := hT.2.1.2
  rw [hT.2.1.1] at h
  exact inR_nat (by omega) h
theorem is_state {x : Int32} (hT : RTold I) (h : inR x 0 ((1 : Int32) <<< ((I 190 0 0 + I 190 0 3) &&& 31) - 1) = true) : ∃ k, k < 2 ^ zB I ∧ x = nI k := by
  rw [st_val hT] at h
  exact inR_nat (p2_lt (zB_le hT)) h
theorem is_wells {x : Int32} (hT : RTold I) (h : inR x 0 ((1 : Int32) <<< (I 190 0 2 &&& 31) - 1) = true) : ∃ k, k < 2 ^ zW I ∧ x = nI k := by
  rw [ws_val hT] at h
  exact inR_nat (p2_lt hT.2.2.1.2) h
theorem is_day {x : Int32} (h : inR x 0 364 = true) : ∃ k, k < 365 ∧ x = nI k := day_nat h
theorem is_ask {x : Int32} (h : inR x 0 5 = true) : ∃ k, k < 6 ∧ x = nI k := inR_nat (W := 6) (by decide) h
theorem is_what {x : Int32} (h : inR x 0 1 = true) : ∃ k, k < 2 ∧ x = nI k := inR_nat (W := 2) (by decide) h
end Wants
