/-! PROMISE 11: silent. -/
section P11
variable {d n t : Nat} {I : FI} {L : FL} {P : FR} {E : FE} {c s : Nat}
theorem hus_sil (hw : RWell I) (hl : RLand I L) {w x : Nat} (h1 : w < zW I) (h2 : x < 365) (hT : RTold I) : husB I w (nI x) = silB I w (nI x) := by
  obtain ⟨⟨e1, e2, e3, e4, e5, e6⟩, -, -, -, hd⟩ := hw w h1
  obtain ⟨-, -, -, -, -, -, -, f1, f2⟩ := hl
  have key : ∀ a b : Int32, dys a b → ((!decide (nI x < a) && decide (nI x ≤ b)) = (!decide (a = -1) && inR (nI x) a b)) ∧ ((!decide (nI x < a) && !decide (b < nI x)) = (!decide (a = -1) && inR (nI x) a b)) := by
    intro a b hab
    rcases hab with ⟨rfl, rfl⟩ | ⟨f, t, rfl, rfl, h3, h4⟩
    · have q1 : decide (nI x ≤ -1) = false := decide_eq_false (fun q => by
        rw [Int32.le_iff_toInt_le, nI_toInt (by omega)] at q
        have : (-1 : Int32).toInt = -1 := by decide +kernel
        omega)
      have q2 : decide ((-1 : Int32) < nI x) = true := decide_eq_true (Int32.lt_iff_toInt_lt.mpr (by
        rw [nI_toInt (by omega)]
        have : (-1 : Int32).toInt = -1 := by decide +kernel
        omega))
      rw [q1, q2]
      simp
    · have q1 : decide (nI f = -1) = false := decide_eq_false (fun q => by
        have := congrArg Int32.toInt q
        rw [nI_toInt (by omega)] at this
        have h9 : (-1 : Int32).toInt = -1 := by decide +kernel
        omega)
      unfold inR
      rw [q1]
      have q2 : decide (nI x ≤ nI t) = !decide (nI t < nI x) := by
        rw [← decide_not, decide_eq_decide, nI_leI (by omega) (by omega), nI_ltI (by omega) (by omega)]
        omega
      rw [q2]
      simp
  unfold husB silB
  rw [e5, e6, f1, f2, (key _ _ hd).1, (key _ _ hT.2.2.2.2.2).2]
theorem c_silent {k x : Nat} (hk : k < zW I) (hx : x < 365) (hT : RTold I) (hl : RLand I L) (hw : RWell I) : V PR (d + 2) 139 0 [(0, vR (some (100, 0))), (1, vi (nI k)), (2, vi (nI x))] [] (mm n I L P E c s) = some (.inl (some (vi (b2i (silB I k (nI x))))), mm n I L P E c s) := by
  have h6 : k < 6 := by have := hT.2.2.1.2; omega
  simp only [k_X11_silent_0, c_wantWell, w_ok hT hl hk, cond_true, Vk_n, Nat.reduceAdd, k_X11_silent_5, c_wantDay, ok_day hx, k_X11_silent_10, c_hushed h6, Vk_v, k_X11_silent_19, b2i_bit, hus_sil hw hl hk hx hT]
theorem c_silentR {k x : Nat} (hk : k < zW I) (hx : x < 365) (hT : RTold I) : V PR (d + 2) 259 0 [(0, vR (some (186, 0))), (1, vi (nI k)), (2, vi (nI x))] [] (mm n I L P E c s) = some (.inl (some (vi (b2i (silB I k (nI x))))), mm n (up3 I 186 0 0 0) L P E c s) := by
  have h6 : k < 6 := by have := hT.2.2.1.2; omega
  have e3 : silB (up3 I 186 0 0 0) = silB I := rfl
  simp only [k_X12_silent_0, c_isWell, Vk_v, Nat.reduceAdd, k_X12_silent_11, up3_a (show 190 ≠ 186 by decide), w_in hT hk, b2i_t, c_bad0 (thr0 I), n1t, n0f, d0t, cond_true, cond_false, k_X12_silent_24, c_isDay, in_day hx, k_X12_silent_32, k_X12_silent_45, c_isSilent h6, k_X12_silent_56, b2i_bit, e3, decide_true, Bool.not_true]
theorem g_silent (h : Rl t I L P E c s) (hn : 6 * t + 6 ≤ n) (hN : n ≤ 3072) : LGo (d + 4) n t 9 I L P E c s := by
  obtain ⟨⟨hE, hc, -, -⟩, hT, hl, hw, -⟩ := id h
  cases e1 : inR (sc I t 1) 0 (I 190 0 2 - 1) with
  | false =>
    refine rf_9_0 false h hn hN ?_ ?_
    · simp only [k_X11_silent_0, c_wantWell, w_no hT hl e1, cond_false, Vk_x f_139_2 (show 139 < 332 by decide)]
    · simp only [k_X12_silent_0, c_isWell, Vk_v, Nat.reduceAdd, k_X12_silent_11, up3_a (show 190 ≠ 186 by decide), refC_at hc (show 190 < 487 by decide) (show 190 ≠ 100 by decide), e1, b2i_f, n0f, cond_false, c_bad1 (thr0 _) d1f (show (0 : Int32) = nI 0 from rfl) (show 0 < 2 by decide), k_X12_silent_24, n1t, cond_true, decide_true, Bool.not_true]
      rfl
  | true =>
    obtain ⟨k, hk, ek⟩ := w_nat hT e1
    cases e2 : inR (sc I t 2) 0 364 with
    | false =>
      refine rf_9_1 false h hn hN ?_ ?_
      · rw [ek]
        simp only [k_X11_silent_0, c_wantWell, w_ok hT hl hk, cond_true, Vk_n, Nat.reduceAdd, k_X11_silent_5, c_wantDay, inR_day, e2, cond_false, Vk_x f_139_7 (show 139 < 332 by decide)]
      · simp only [k_X12_silent_0, c_isWell, Vk_v, Nat.reduceAdd, k_X12_silent_11, up3_a (show 190 ≠ 186 by decide), refC_at hc (show 190 < 487 by decide) (show 190 ≠ 100 by decide), e1, b2i_t, n1t, cond_true, c_bad0 (thr0 _), k_X12_silent_24, n0f, cond_false, c_isDay, e2, b2i_f, k_X12_silent_32, c_bad1 (thr0 _) d2f (show (1 : Int32) = nI 1 from rfl) (show 1 < 2 by decide), k_X12_silent_45, d1f, decide_true, Bool.not_true]
        rfl
    | true =>
      obtain ⟨x, hx, ex⟩ := day_nat e2
      refine go_9 (silB I k (nI x)) h hn hN ?_ ?_
      · rw [ek, ex]
        exact c_silent hk hx hT hl hw
      · rw [ek, ex]
        exact c_silentR hk hx hT
end P11
