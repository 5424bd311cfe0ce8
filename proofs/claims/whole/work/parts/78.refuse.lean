/-! REFUSALS: a call that both sides refuse. -/
def refC (e : Nat) (I : FI) (c : Nat) : FI := cl3 (up3 I 100 0 (17 + e) (I 100 0 (17 + e) + 1)) c 0
def refR (e : Nat) (w : Int32) (I : FI) : FI := up3 (up3 (up3 I 186 0 0 0) 186 0 0 w) 188 0 e (I 188 0 e + 1)
section Refuse
variable {d n t : Nat} {I : FI} {L : FL} {P : FR} {E : FE} {c s : Nat}
theorem refC_at {e : Nat} (hc : 487 ≤ c) {a r j : Nat} (ha : a < 487) (h1 : a ≠ 100) : refC e I c a r j = I a r j := by
  unfold refC
  rw [cl3_a (by omega), up3_a h1]
theorem newc_ref {e : Nat} (hc : 487 ≤ c) (x : Nat × Nat × Nat × Nat) : newc (mm n (up3 I 100 0 (17 + e) (I 100 0 (17 + e) + 1)) L P E c s) x 1 6 = mm n (refC e I c) (cl3 L c 0) (cl3 P c none) (up1 E c x) (c + 1) (s + 6) := newc_mm (by omega)
theorem Rl.refused (h : Rl t I L P E c s) {e : Nat} (he : e < 2) (w : Int32) (x : Nat × Nat × Nat × Nat) : Rl (t + 1) (refR e w (refC e I c)) (cl3 L c 0) (cl3 P c none) (up1 E c x) (c + 1) (s + 6) := by
  have hc : 487 ≤ c := h.1.2.1
  have hr : RRef I := h.2.2.2.2.2.2.2.2.2.2.2.1
  have k1 : Kp c I (refR e w (refC e I c)) := by
    unfold refR refC
    exact ((((Kp.rfl'.up (by rcases (show e = 0 ∨ e = 1 by omega) with rfl | rfl <;> rfl)).cl (Nat.le_refl _)).up rfl).up rfl).up rfl
  have q1 : Kc I (refR e w (refC e I c)) := by
    unfold refR refC
    exact ((((Kc.rfl'.up rfl).cl hc).up rfl).up rfl).up rfl
  refine h.keep k1 (Kp.rfl'.cl (Nat.le_refl _)) (Kp.rfl'.cl (Nat.le_refl _)) (fun a ha => ?_) q1 (Kc.rfl'.cl hc) ?_ (by omega) (by omega) (by omega)
  · unfold up1
    rw [if_neg (by omega)]
  · obtain ⟨r1, r2⟩ := hr
    unfold RRef refR
    have e0 : ∀ j, refC e I c 188 0 j = I 188 0 j := fun j => refC_at hc (by decide) (by decide)
    have e1 : ∀ j, refC e I c 100 0 j = if j = 17 + e then I 100 0 (17 + e) + 1 else I 100 0 j := fun j => by
      unfold refC
      rw [cl3_a (by omega), up3_at]
    rw [up3_a (show 100 ≠ 188 by decide), up3_a (show 100 ≠ 186 by decide), up3_a (show 100 ≠ 186 by decide), up3_a (show 100 ≠ 188 by decide), up3_a (show 100 ≠ 186 by decide), up3_a (show 100 ≠ 186 by decide), up3_at, up3_at, up3_a (show 188 ≠ 186 by decide), up3_a (show 188 ≠ 186 by decide), up3_a (show 188 ≠ 186 by decide), up3_a (show 188 ≠ 186 by decide), e0, e0, e0, e1, e1]
    rcases (show e = 0 ∨ e = 1 by omega) with rfl | rfl
    · simp [r1, r2]
    · simp [r1, r2]
theorem c_bad0 (h : I 186 0 0 = 0) (w r : Int32) : V PR d 209 0 [(0, vR (some (186, 0))), (1, vi 0), (2, vi w), (3, vi r)] [] (mm n I L P E c s) = some (.inl (some (vi 0)), mm n I L P E c s) := by
  rw [k_X12_bad_0, h]
  rfl
theorem c_bad1 (h : I 186 0 0 = 0) {w r : Int32} {e : Nat} (hw : decide (w = 0) = false) (hr : r = nI e) (he : e < 2) : V PR d 209 0 [(0, vR (some (186, 0))), (1, vi 1), (2, vi w), (3, vi r)] [] (mm n I L P E c s) = some (.inl (some (vi 1)), mm n (up3 (up3 I 186 0 0 w) 188 0 e (I 188 0 e + 1)) L P E c s) := by
  subst hr
  have e1 : inb (nI e) 2 = true := inb_nI he (by decide)
  rw [k_X12_bad_0, h]
  simp only [show decide ((1 : Int32) = 0) = false by decide +kernel, decide_true, Bool.not_true, cond_true, cond_false, e1, nI_clamp (show e < 2 ^ 31 by omega), up3_a (show 188 ≠ 186 by decide), up3_a (show 186 ≠ 188 by decide), up3_i, hw]
theorem inR_wn {x : Int32} {W : Nat} (hW : W < 2 ^ 30) : (!decide (x < 0) && !decide (nI W ≤ x)) = inR x 0 (nI W - 1) := by
  unfold inR
  congr 2
  have e : (nI W - 1).toInt = (W : Int) - 1 := pk_sub_toInt (b := 1) hW (by decide)
  have e2 := nI_toInt (show W < 2 ^ 31 by omega)
  rw [decide_eq_decide, Int32.le_iff_toInt_le, Int32.lt_iff_toInt_lt, e, e2]
  omega
theorem inR_nat {x : Int32} {W : Nat} (hW : W < 2 ^ 30) (h : inR x 0 (nI W - 1) = true) : ∃ k, k < W ∧ x = nI k := by
  unfold inR at h
  simp only [Bool.and_eq_true, Bool.not_eq_true', decide_eq_false_iff_not] at h
  obtain ⟨h1, h2⟩ := h
  obtain ⟨j, hj, rfl⟩ := nI_of h1
  refine ⟨j, ?_, rfl⟩
  have e : (nI W - 1).toInt = (W : Int) - 1 := pk_sub_toInt (b := 1) hW (by decide)
  rw [Int32.lt_iff_toInt_lt, e, nI_toInt hj] at h2
  omega
theorem inR_day (x : Int32) : (!decide (x < 0) && !decide (365 ≤ x)) = inR x 0 364 := inR_wn (W := 365) (by decide)
theorem day_nat {x : Int32} (h : inR x 0 364 = true) : ∃ k, k < 365 ∧ x = nI k := inR_nat (W := 365) (by decide) h
theorem ok_wn {k W : Nat} (hk : k < W) (hW : W < 2 ^ 30) : (!decide (nI k < 0) && !decide (nI W ≤ nI k)) = true := by
  rw [decide_eq_false (nI_pos (by omega)), decide_eq_false (nI_ge hk (by omega))]; rfl
theorem in_wn {k W : Nat} (hk : k < W) (hW : W < 2 ^ 30) : inR (nI k) 0 (nI W - 1) = true := by rw [← inR_wn hW, ok_wn hk hW]
theorem ok_day {x : Nat} (hx : x < 365) : (!decide (nI x < 0) && !decide (365 ≤ nI x)) = true := ok_wn (W := 365) hx (by decide)
theorem in_day {x : Nat} (hx : x < 365) : inR (nI x) 0 364 = true := in_wn (W := 365) hx (by decide)
theorem n1t : (!decide ((1 : Int32) = 0)) = true := by decide +kernel
theorem n0f : (!decide ((0 : Int32) = 0)) = false := by decide +kernel
theorem d0t : decide ((0 : Int32) = 0) = true := by decide +kernel
theorem d1f : decide ((1 : Int32) = 0) = false := by decide +kernel
theorem d2f : decide ((2 : Int32) = 0) = false := by decide +kernel
theorem thr0 (I : FI) : (up3 I 186 0 0 0) 186 0 0 = 0 := up3_i _ _ _ _ _
theorem zW_lt (h : RTold I) : zW I < 2 ^ 30 := by have := h.2.2.1.2; omega
theorem w_ok (h : RTold I) (hl : RLand I L) {k : Nat} (hk : k < zW I) : (!decide (nI k < 0) && !decide (I 103 0 2 ≤ nI k)) = true := by
  rw [hl.2.2.1.trans h.2.2.1.1, ok_wn hk (zW_lt h)]
theorem w_no (h : RTold I) (hl : RLand I L) {x : Int32} (hx : inR x 0 (I 190 0 2 - 1) = false) : (!decide (x < 0) && !decide (I 103 0 2 ≤ x)) = false := by
  rw [hl.2.2.1.trans h.2.2.1.1, inR_wn (zW_lt h), ← h.2.2.1.1, hx]
theorem w_in (h : RTold I) {k : Nat} (hk : k < zW I) : inR (nI k) 0 (I 190 0 2 - 1) = true := by
  rw [h.2.2.1.1, in_wn hk (zW_lt h)]
theorem w_nat (h : RTold I) {x : Int32} (hx : inR x 0 (I 190 0 2 - 1) = true) : ∃ k, k < zW I ∧ x = nI k := by
  rw [h.2.2.1.1] at hx
  exact inR_nat (zW_lt h) hx
end Refuse
