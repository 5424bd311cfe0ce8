/-! RIDES, 3: the reference's table, all of it. -/
section Lays2
variable {a d n t : Nat} {I J M : FI} {L K N : FL} {P : FR} {E : FE} {c s z : Nat}
/-- what the document's names ask of a start -/
def WyH (I : FI) (a : Nat) : Prop := RTold I ∧ RWell I ∧ RFar I ∧ a < zP I
theorem WyH.hT (h : WyH I a) : RTold I := h.1
theorem WyH.hw (h : WyH I a) : RWell I := h.2.1
theorem WyH.hf (h : WyH I a) : RFar I := h.2.2.1
theorem WyH.ha (h : WyH I a) : a < zP I := h.2.2.2
theorem WyH.h6 (h : WyH I a) : zW I ≤ 6 := h.hT.2.2.1.2
theorem WyH.h8 (h : WyH I a) : zP I ≤ 8 := h.hT.2.1.2
theorem WyH.hP (h : WyH I a) : ∀ w, w < zW I → plN I w < zP I := fun w hw => (pl_I h.hT h.hw hw).2.1
theorem WyH.lt (h : WyH I a) {sv : Nat} (hs : sv < 2 ^ zW I) : sv < 64 := Nat.lt_of_lt_of_le hs (Nat.pow_le_pow_right (n := 2) (by decide) h.h6)
theorem WyH.le (h : WyH I a) {sv w : Nat} (hs : sv < 2 ^ zW I) (hw : w < zW I) : wyN I a sv w ≤ 1000000 := wy_le h.h6 h.hf h.hP h.ha (h.lt hs) hw
theorem WyH.sm (h : WyH I a) {sv w : Nat} (hs : sv < 2 ^ zW I) (hw : w < zW I) (hn : wyN I a sv w ≠ 1000000) : wyN I a sv w ≤ 4032 := by
  have h64 := h.lt hs
  cases hb : sv.testBit w with
  | false =>
    refine absurd ?_ hn
    rw [wy_eq h.h6 h64 (by have := h.h6; omega), hb, cond_false]
  | true =>
    obtain ⟨g1, g2⟩ := wy_rc h.h6 h.hf h.hP h.ha (sv + 1) sv w (Nat.lt_succ_self _) hs hw hb
    cases hr : rcB I a sv with
    | true => have := g1 hr; omega
    | false => exact absurd (g2 hr) hn
theorem ly_w (H : WyH I a) {sv w v : Nat} (hs : sv < 2 ^ zW I) (hwW : w < zW I) (h10 : T10 I J) (hrow : ∀ s' w', s' < sv → w' < zW I → J 416 (s' + 1) w' = mI (wyN I a s' w')) (hv : J 481 0 sv = mI v) (hv2 : v ≤ 1000000) : ∃ J', V PR d 300 31 [(0, vR (some (186, 0))), (1, vi (nI a)), (2, vi (nI sv)), (3, vi (nI w))] [] (mm n J L P E c z) = V PR d 300 31 [(0, vR (some (186, 0))), (1, vi (nI a)), (2, vi (nI sv)), (3, vi (nI (w + 1)))] [] (mm n J' L P E c z) ∧ T10 I J' ∧ J' 416 (sv + 1) w = mI (wyN I a sv w) ∧ J' 481 0 sv = mI (mnS (sv.testBit w) (wyN I a sv w) v) ∧ ∀ b r j, ¬ (b = 416 ∧ r = sv + 1 ∧ j = w) → ¬ (b = 481 ∧ r = 0 ∧ j = sv) → J' b r j = J b r j := by
  have h6 := H.h6
  have h8 := H.h8
  have ha := H.ha
  have hs64 := H.lt hs
  have hwy := H.le hs hwW
  have hwe := wy_eq (a := a) h6 hs64 (show w < 6 by omega)
  obtain ⟨rI, r2, r3, r4⟩ := rs_I sv hs64 w (by omega)
  have e9 : ∀ {J}, T10 I J → J 190 0 2 = nI (zW I) := fun h => (h 190 0 2 (by decide) (by decide)).trans H.hT.2.2.1.1
  obtain ⟨q1, q2, -⟩ := pl_I H.hT H.hw hwW
  have Q1 : J 198 (w + 1) 0 = nI (plN I w) := (h10 198 _ _ (by decide) (by decide)).trans q1
  have F1 : J 220 (a + 1) (plN I w) = mI (bif fOk I a (plN I w) then fN I a (plN I w) else 1000000) := (h10 220 _ _ (by decide) (by decide)).trans (far_m H.hf ha q2)
  obtain ⟨-, b6, -⟩ := bit6 sv hs64 w (by omega)
  have c1 : (nI a).toNatClampNeg = a := nI_clamp (by omega)
  have c2 : (nI w).toNatClampNeg = w := nI_clamp (by omega)
  have c3 : (nI sv).toNatClampNeg = sv := nI_clamp (by omega)
  have c6 : (nI (plN I w)).toNatClampNeg = plN I w := nI_clamp (by omega)
  have i1 : inb (nI a) 8 = true := inb_nI (by omega) (by decide)
  have i2 : inb (nI w) 6 = true := inb_nI (by omega) (by decide)
  have i3 : inb (nI sv) 64 = true := inb_nI hs64 (by decide)
  have i6 : inb (nI (plN I w)) 8 = true := inb_nI (by omega) (by decide)
  have i0 : inb (0 : Int32) 6 = true := by decide +kernel
  have k2 : Nat.blt w 6 = true := blt_t (by omega)
  have k3 : Nat.blt a 8 = true := blt_t (by omega)
  have k5 : Nat.blt sv 64 = true := blt_t hs64
  have base : decide (J 190 0 2 ≤ nI w) = false := by rw [e9 h10, nI_led (by omega) (by omega), decide_eq_false (by omega)]
  have er : decide (nI (rsN sv w) = 0) = decide (rsN sv w = 0) := by rw [decide_eq_decide]; exact nI_eq (b := 0) (by omega) (by decide)
  have x198 : ∀ x, (up3 J 416 (sv + 1) w x) 198 (w + 1) 0 = nI (plN I w) := fun x => (up3_a (by decide)).trans Q1
  have x220 : ∀ x, (up3 J 416 (sv + 1) w x) 220 (a + 1) (plN I w) = mI (bif fOk I a (plN I w) then fN I a (plN I w) else 1000000) := fun x => (up3_a (by decide)).trans F1
  cases hb : sv.testBit w with
  | false =>
    refine ⟨up3 J 416 (sv + 1) w (-1), ?_, h10.u1, ?_, (up3_a (by decide)).trans hv, fun b r j h1 h2 => up3_o h1⟩
    · rw [k_X12_laysWays_31, base, cond_false, i3, cond_true, c3, aro_416, k5, i2, Bool.and_self, cond_true, b6, hb, Bool.not_false, Bool.not_true, cond_false, c2, nI_1]
    · rw [up3_i, hwe, hb]
      rfl
  | true =>
    have start : ∃ J1, V PR d 300 31 [(0, vR (some (186, 0))), (1, vi (nI a)), (2, vi (nI sv)), (3, vi (nI w))] [] (mm n J L P E c z) = V PR d 300 101 [(0, vR (some (186, 0))), (1, vi (nI a)), (2, vi (nI sv)), (3, vi (nI w)), (4, vi (nI (rsN sv w))), (5, vi (nI 0))] [] (mm n J1 L P E c z) ∧ T10 I J1 ∧ J1 416 (sv + 1) w = mI (wy0 I a sv w) ∧ ∀ b r j, ¬ (b = 416 ∧ r = sv + 1 ∧ j = w) → J1 b r j = J b r j := by
      by_cases e : rsN sv w = 0
      · refine ⟨up3 (up3 J 416 (sv + 1) w (-1)) 416 (sv + 1) w (mI (bif fOk I a (plN I w) then fN I a (plN I w) else 1000000)), ?_, h10.u1.u1, ?_, fun b r j h1 => (up3_o h1).trans (up3_o h1)⟩
        · rw [k_X12_laysWays_31]
          simp only [base, cond_false, cond_true, i1, i2, i3, i6, i0, c1, c2, c3, c6, aro_416, aro_198, aro_220, k2, k3, k5, Bool.and_self, b6, hb, Bool.not_true, Bool.not_false, rI, er, e, decide_true, x198, x220, tn_0]
          rfl
        · rw [up3_i]
          unfold wy0
          rw [decide_eq_true e, Bool.true_and]
      · refine ⟨up3 J 416 (sv + 1) w (-1), ?_, h10.u1, ?_, fun b r j h1 => up3_o h1⟩
        · rw [k_X12_laysWays_31]
          simp only [base, cond_false, cond_true, i2, i3, c2, c3, aro_416, k5, Bool.and_self, b6, hb, Bool.not_true, Bool.not_false, rI, er, e, decide_false]
          rfl
        · rw [up3_i]
          unfold wy0
          rw [decide_eq_false e, Bool.false_and]
          rfl
    obtain ⟨J1, s1, s2, s3, s4⟩ := start
    have w0le : wy0 I a sv w ≤ 1000000 := by
      unfold wy0
      cases decide (rsN sv w = 0) && fOk I a (plN I w) with
      | false => exact Nat.le_refl _
      | true =>
        have := (far_I H.hf ha q2).2
        show fN I a (plN I w) ≤ 1000000
        omega
    obtain ⟨J2, t1, t2, t3, t4⟩ := ly_in (d := d) (n := n) (L := L) (P := P) (E := E) (c := c) (z := z) (x1 := nI a) H.hT H.hw H.hf hs hwW (fun s' w' h1 h2 h3 => by have := H.sm (show s' < 2 ^ zW I by omega) h2 h3; omega) hb (zW I) 0 _ J1 (Nat.zero_add _) s2 (fun s' w' h1 h2 => (s4 416 _ _ (fun e => by omega)).trans (hrow s' w' h1 h2)) s3 w0le
    rw [hb, cond_true] at hwe
    rw [← hwe] at t3
    have v2 : J2 481 0 sv = mI v := (t4 481 0 sv (fun e => absurd e.1 (by decide))).trans ((s4 481 0 sv (fun e => absurd e.1 (by decide))).trans hv)
    have ex : V PR d 300 31 [(0, vR (some (186, 0))), (1, vi (nI a)), (2, vi (nI sv)), (3, vi (nI w))] [] (mm n J L P E c z) = V PR d 300 101 [(0, vR (some (186, 0))), (1, vi (nI a)), (2, vi (nI sv)), (3, vi (nI w)), (4, vi (nI (rsN sv w))), (5, vi (nI (zW I)))] [] (mm n J2 L P E c z) := s1.trans t1
    have end1 : decide (J2 190 0 2 ≤ nI (zW I)) = true := by rw [e9 t2, nI_led (by omega) (by omega), decide_eq_true (Nat.le_refl _)]
    have oth : ∀ b r j, ¬ (b = 416 ∧ r = sv + 1 ∧ j = w) → J2 b r j = J b r j := fun b r j h1 => (t4 b r j h1).trans (s4 b r j h1)
    have put : ∀ v', v' = mnS true (wyN I a sv w) v → ∃ J', V PR d 300 31 [(0, vR (some (186, 0))), (1, vi (nI a)), (2, vi (nI sv)), (3, vi (nI (w + 1)))] [] (mm n (up3 J2 481 0 sv (mI v')) L P E c z) = V PR d 300 31 [(0, vR (some (186, 0))), (1, vi (nI a)), (2, vi (nI sv)), (3, vi (nI (w + 1)))] [] (mm n J' L P E c z) ∧ T10 I J' ∧ J' 416 (sv + 1) w = mI (wyN I a sv w) ∧ J' 481 0 sv = mI (mnS true (wyN I a sv w) v) ∧ ∀ b r j, ¬ (b = 416 ∧ r = sv + 1 ∧ j = w) → ¬ (b = 481 ∧ r = 0 ∧ j = sv) → J' b r j = J b r j := fun v' hv' => ⟨_, rfl, t2.u2, (up3_a (by decide)).trans t3, by rw [up3_i, hv'], fun b r j h1 h2 => (up3_o h2).trans (oth b r j h1)⟩
    rw [ex, k_X12_laysWays_101]
    simp only [end1, cond_true, i3, i2, c2, c3, aro_416, k5, Bool.and_self, t3, v2, mI_m1 hwy, mI_m1 hv2, nI_1]
    cases hm : decide (wyN I a sv w = 1000000) with
    | true =>
      rw [cond_true]
      refine ⟨J2, rfl, t2, t3, ?_, fun b r j h1 _ => oth b r j h1⟩
      rw [v2]
      unfold mnS
      rw [Bool.true_and, of_decide_eq_true hm, decide_eq_false (by omega), cond_false]
    | false =>
      have hm2 := of_decide_eq_false hm
      have hm3 := H.sm hs hwW hm2
      rw [cond_false]
      cases hvm : decide (v = 1000000) with
      | true =>
        rw [cond_true]
        refine put (wyN I a sv w) ?_
        unfold mnS
        rw [Bool.true_and, of_decide_eq_true hvm, decide_eq_true (by omega), cond_true]
      | false =>
        have hv3 := of_decide_eq_false hvm
        rw [cond_false]
        have e3 : decide (mI v ≤ mI (wyN I a sv w)) = decide (v ≤ wyN I a sv w) := by rw [mI_ne hv3, mI_ne hm2, nI_led (by omega) (by omega)]
        rw [e3]
        by_cases hle2 : v ≤ wyN I a sv w
        · rw [decide_eq_true hle2, cond_true]
          refine put v ?_
          unfold mnS
          rw [Bool.true_and, decide_eq_false (by omega), cond_false]
        · rw [decide_eq_false hle2, cond_false]
          refine put (wyN I a sv w) ?_
          unfold mnS
          rw [Bool.true_and, decide_eq_true (by omega), cond_true]
theorem ly_mid (H : WyH I a) {sv : Nat} (hs : sv < 2 ^ zW I) : ∀ r w v (J : FI), w + r = zW I → T10 I J → (∀ s' w', s' < sv → w' < zW I → J 416 (s' + 1) w' = mI (wyN I a s' w')) → (∀ w', w' < w → J 416 (sv + 1) w' = mI (wyN I a sv w')) → J 481 0 sv = mI v → v ≤ 1000000 → ∃ J', V PR d 300 31 [(0, vR (some (186, 0))), (1, vi (nI a)), (2, vi (nI sv)), (3, vi (nI w))] [] (mm n J L P E c z) = V PR d 300 2 [(0, vR (some (186, 0))), (1, vi (nI a)), (2, vi (nI (sv + 1)))] [] (mm n J' L P E c z) ∧ T10 I J' ∧ (∀ s' w', s' < sv + 1 → w' < zW I → J' 416 (s' + 1) w' = mI (wyN I a s' w')) ∧ J' 481 0 sv = mI (mnF sv.testBit (wyN I a sv) v w r) ∧ ∀ j, j ≠ sv → J' 481 0 j = J 481 0 j
  | 0, w, v, J, h, h10, h1, h2, hv, hv2 => by
    have h6 := H.h6
    have e9 : J 190 0 2 = nI (zW I) := (h10 190 0 2 (by decide) (by decide)).trans H.hT.2.2.1.1
    refine ⟨J, ?_, h10, fun s' w' g1 g2 => ?_, hv, fun _ _ => rfl⟩
    · rw [k_X12_laysWays_31, e9, nI_led (by omega) (by omega), decide_eq_true (by omega), cond_true, nI_1]
    · by_cases e : s' = sv
      · subst e; exact h2 w' (by omega)
      · exact h1 s' w' (by omega) g2
  | r + 1, w, v, J, h, h10, h1, h2, hv, hv2 => by
    obtain ⟨J1, r1, r2, r3, r4, r5⟩ := ly_w (d := d) (n := n) (L := L) (P := P) (E := E) (c := c) (z := z) H hs (show w < zW I by omega) h10 h1 hv hv2
    obtain ⟨J2, q1, q2, q3, q4, q5⟩ := ly_mid H hs r (w + 1) _ J1 (by omega) r2 (fun s' w' g1 g2 => (r5 416 _ _ (fun e => by omega) (fun e => absurd e.1 (by decide))).trans (h1 s' w' g1 g2)) (fun w' g1 => by
      by_cases e : w' = w
      · subst e; exact r3
      · exact (r5 416 _ _ (fun e2 => e e2.2.2) (fun e2 => absurd e2.1 (by decide))).trans (h2 w' (by omega))) r4 (Nat.le_trans (mnS_le _ _ _) hv2)
    exact ⟨J2, r1.trans q1, q2, q3, q4, fun j hj => (q5 j hj).trans (r5 481 0 j (fun e => absurd e.1 (by decide)) (fun e => hj e.2.2))⟩
/-- the shortest way through a set -/
def usN (I : FI) (a s : Nat) : Nat := mnF s.testBit (wyN I a s) (bif decide (s = 0) then 0 else 1000000) 0 (zW I)
theorem ly_out (H : WyH I a) : ∀ r sv (J : FI), sv + r = 2 ^ zW I → T10 I J → (∀ s' w', s' < sv → w' < zW I → J 416 (s' + 1) w' = mI (wyN I a s' w')) → (∀ s', s' < sv → J 481 0 s' = mI (usN I a s')) → ∃ J', V PR d 300 2 [(0, vR (some (186, 0))), (1, vi (nI a)), (2, vi (nI sv))] [] (mm n J L P E c z) = some (.inl none, mm n J' L P E c z) ∧ T10 I J' ∧ (∀ s' w', s' < 2 ^ zW I → w' < zW I → J' 416 (s' + 1) w' = mI (wyN I a s' w')) ∧ ∀ s', s' < 2 ^ zW I → J' 481 0 s' = mI (usN I a s')
  | 0, sv, J, h, h10, h1, h2 => by
    have h6 := H.h6
    have e9 : J 190 0 2 = nI (zW I) := (h10 190 0 2 (by decide) (by decide)).trans H.hT.2.2.1.1
    have h64 : 2 ^ zW I ≤ 64 := Nat.pow_le_pow_right (n := 2) (by decide) h6
    refine ⟨J, ?_, h10, fun s' w' g1 g2 => h1 s' w' (by omega) g2, fun s' g1 => h2 s' (by omega)⟩
    rw [k_X12_laysWays_2, e9, shl31 _ (by omega), nI_led (by omega) (by omega), decide_eq_true (by omega), cond_true]
  | r + 1, sv, J, h, h10, h1, h2 => by
    have h6 := H.h6
    have e9 : J 190 0 2 = nI (zW I) := (h10 190 0 2 (by decide) (by decide)).trans H.hT.2.2.1.1
    have h64 : 2 ^ zW I ≤ 64 := Nat.pow_le_pow_right (n := 2) (by decide) h6
    have hs : sv < 2 ^ zW I := by omega
    have e0 : decide (nI sv = 0) = decide (sv = 0) := by rw [decide_eq_decide]; exact nI_eq (b := 0) (by omega) (by decide)
    have ex : V PR d 300 2 [(0, vR (some (186, 0))), (1, vi (nI a)), (2, vi (nI sv))] [] (mm n J L P E c z) = V PR d 300 31 [(0, vR (some (186, 0))), (1, vi (nI a)), (2, vi (nI sv)), (3, vi (nI 0))] [] (mm n (up3 J 481 0 sv (mI (bif decide (sv = 0) then 0 else 1000000))) L P E c z) := by
      rw [k_X12_laysWays_2, e9, shl31 _ (by omega), nI_led (by omega) (by omega), decide_eq_false (by omega), cond_false, e0, inb_nI (by omega) (by decide), nI_clamp (by omega)]
      cases decide (sv = 0) <;> rfl
    obtain ⟨J1, r1, r2, r3, r4, r5⟩ := ly_mid (d := d) (n := n) (L := L) (P := P) (E := E) (c := c) (z := z) H hs (zW I) 0 (bif decide (sv = 0) then 0 else 1000000) (up3 J 481 0 sv (mI (bif decide (sv = 0) then 0 else 1000000))) (Nat.zero_add _) h10.u2 (fun s' w' g1 g2 => (up3_a (by decide)).trans (h1 s' w' g1 g2)) (fun w' g => absurd g (Nat.not_lt_zero _)) (up3_i _ _ _ _ _) (by cases decide (sv = 0) <;> decide)
    obtain ⟨J2, q1, q2, q3, q4⟩ := ly_out H r (sv + 1) J1 (by omega) r2 r3 (fun s' g => by
      by_cases e : s' = sv
      · subst e; exact r4
      · exact (r5 s' e).trans ((up3_k e).trans (h2 s' (by omega))))
    exact ⟨J2, ex.trans (r1.trans q1), q2, q3, q4⟩
theorem c_laysW (H : WyH I a) (h10 : T10 I J) : ∃ J', V PR d 300 0 [(0, vR (some (186, 0))), (1, vi (nI a))] [] (mm n J L P E c z) = some (.inl none, mm n J' L P E c z) ∧ T10 I J' ∧ (∀ s' w', s' < 2 ^ zW I → w' < zW I → J' 416 (s' + 1) w' = mI (wyN I a s' w')) ∧ ∀ s', s' < 2 ^ zW I → J' 481 0 s' = mI (usN I a s') := by
  obtain ⟨J', r1, r2⟩ := ly_out (d := d) (n := n) (L := L) (P := P) (E := E) (c := c) (z := z) H (2 ^ zW I) 0 J (Nat.zero_add _) h10 (fun _ _ h => absurd h (Nat.not_lt_zero _)) (fun _ h => absurd h (Nat.not_lt_zero _))
  refine ⟨J', ?_, r2⟩
  rw [k_X12_laysWays_0]
  exact r1
end Lays2
