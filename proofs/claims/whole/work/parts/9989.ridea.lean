/-! RIDES, 6: all rides; one rider more; the promises 34, 45. -/
section RidesA
variable {a d n t : Nat} {I J M : FI} {L K N : FL} {P : FR} {E : FE} {c s z : Nat}
def ahN (I : FI) (a : Nat) (hm : Bool) (w : Nat) : Nat := bif hm then fN I (plN I w) a else 0
/-- the ways there, or there and home -/
def vaN (I : FI) (a : Nat) (hm : Bool) (s : Nat) : Nat := bif hm then tuN I a s else usN I a s
theorem va_0 (hm : Bool) : vaN I a hm 0 = 0 := by
  cases hm with
  | false => exact us_0
  | true => exact Nat.le_antisymm (by show tuN I a 0 ≤ 0; unfold tuN; exact mnF_le) (Nat.zero_le _)
theorem va_s (H : WyH I a) {hm : Bool} {sv : Nat} (hs : sv < 2 ^ zW I) (hr : rcB I a sv = true) (h0 : sv ≠ 0) : vaN I a hm sv = mnF sv.testBit (fun w => wyN I a sv w + ahN I a hm w) 1000000 0 (zW I) := by
  have h6 := H.h6
  cases hm with
  | false =>
    show usN I a sv = _
    unfold usN
    rw [decide_eq_false h0, cond_false]
    exact mnF_congr _ _ _ fun w _ hw => ⟨rfl, fun _ => rfl⟩
  | true =>
    show tuN I a sv = _
    unfold tuN
    rw [decide_eq_false h0, cond_false]
    refine mnF_congr _ _ _ fun w _ hw => ?_
    have hw' : w < zW I := by omega
    refine ⟨?_, fun _ => rfl⟩
    cases hb : sv.testBit w with
    | false => rfl
    | true =>
      have := (wy_rc h6 H.hf H.hP H.ha (sv + 1) sv w (Nat.lt_succ_self _) hs hw' hb).1 hr
      have h64 := H.lt hs
      rw [ok_home H hw' (rc_iff.mp hr w hw' hb), decide_eq_false (by omega)]
      rfl
theorem c_min {g v : Nat} (hg : g < 2 ^ 31) (hv : v < 2 ^ 31) : V PR d 5 0 [(0, vi (nI v)), (1, vi (nI g))] [] (mm n J L P E c z) = some (.inl (some (vi (nI (mnS true g v)))), mm n J L P E c z) := by
  rw [k_J9_min_7cf53_0, nI_ltd hg hv]
  unfold mnS
  rw [Bool.true_and]
  cases decide (g < v) <;> rfl
theorem nI_M : (1000000 : Int32) = nI 1000000 := rfl
theorem ra_w (H : WyH I a) (hl : RLand I L) (h11 : T11 I J) {hm : Bool} {full sv w v : Nat} (hf : full < 2 ^ zW I) (hrc : rcB I a full = true) (hsub : sbB sv full = true) (hwW : w < zW I) (hR : Rw I J a full sv) (hv : J 180 0 sv = nI v) (hv2 : v ≤ 1000000) : V PR (d + 2) 93 44 [(0, vR (some (178, 0))), (1, vi (nI a)), (2, vi (nI full)), (3, vi (b2i hm)), (4, vi (nI sv)), (5, vi (nI w))] [] (mm n J L P E c z) = V PR (d + 2) 93 44 [(0, vR (some (178, 0))), (1, vi (nI a)), (2, vi (nI full)), (3, vi (b2i hm)), (4, vi (nI sv)), (5, vi (nI (w + 1)))] [] (mm n (up3 (up3 J 179 0 (sv * 6 + w) (nI (wyN I a sv w))) 180 0 sv (nI (mnS (sv.testBit w) (wyN I a sv w + ahN I a hm w) v))) L P E c z) := by
  have h6 := H.h6
  have hs : sv < 2 ^ zW I := Nat.lt_of_le_of_lt (sb_le hsub) hf
  have h64 := H.lt hs
  have e9 : J 103 0 2 = nI (zW I) := (h11 103 0 2 (by decide)).trans (hl.2.2.1.trans H.hT.2.2.1.1)
  have hwl := H.le hs hwW
  have hpw := H.hP w hwW
  have hF := (far_I H.hf hpw H.ha).2
  have hup : (up3 J 179 0 (sv * 6 + w) (nI (wyN I a sv w))) 180 0 sv = nI v := (up3_a (by decide)).trans hv
  have hz : nI (wyN I a sv w) + 0 = nI (wyN I a sv w) := Int32.add_zero _
  have hno : sv.testBit w = false → mnS (sv.testBit w) (wyN I a sv w + ahN I a hm w) v = mnS true (wyN I a sv w) v := fun hb => by
    have e : wyN I a sv w = 1000000 := by rw [wy_eq h6 h64 (by omega), hb, cond_false]
    rw [hb, e]
    unfold mnS
    rw [Bool.false_and, cond_false, Bool.true_and, decide_eq_false (by omega), cond_false]
  rw [k_X8_rideAll_44, e9, nI_led (by omega) (by omega), decide_eq_false (by omega), cond_false, c_rideTo H hl h11 hf hrc hsub hwW hR, Vk_v, k_X8_rideAll_65, mul6, inb_nI (by omega) (by decide), cond_true, nI_clamp (by omega), inb_nI h64 (by decide), cond_true, nI_clamp (show sv < 2 ^ 31 by omega), hup, hz, b2i_eq0, c_min (by omega) (by omega), Vk_v, k_X8_rideAll_138, inb_nI h64 (by decide), cond_true, nI_clamp (show sv < 2 ^ 31 by omega), nI_1]
  cases hm with
  | false =>
    rw [Bool.not_false, cond_true]
    cases hb : sv.testBit w with
    | false =>
      have := hno hb
      rw [hb] at this
      rw [this]
    | true => rfl
  | true =>
    rw [Bool.not_true, cond_false, nI_M, nI_led (by decide) (by omega)]
    cases hb : sv.testBit w with
    | false =>
      have e : wyN I a sv w = 1000000 := by rw [wy_eq h6 h64 (by omega), hb, cond_false]
      have := hno hb
      rw [hb] at this
      rw [decide_eq_true (by omega), cond_true, this]
    | true =>
      have hr := rc_sub hrc hsub
      have hle := (wy_rc h6 H.hf H.hP H.ha (sv + 1) sv w (Nat.lt_succ_self _) hs hwW hb).1 hr
      have hok := ok_home H hwW (rc_iff.mp hr w hwW hb)
      rw [decide_eq_false (by omega), cond_false, inb_nI (show w < 6 by omega) (by decide), cond_true, nI_clamp (by omega), up3_a (show 105 ≠ 179 by decide), pl_105 H h11 hwW, c_wayI H (h11.up (by decide)) hpw H.ha, Vk_v, hok, cond_true, k_X8_rideAll_111, inb_nI h64 (by decide), cond_true, nI_clamp (show sv < 2 ^ 31 by omega), hup, nI_add, c_min (by omega) (by omega), Vk_v, k_X8_rideAll_138, inb_nI h64 (by decide), cond_true, nI_clamp (show sv < 2 ^ 31 by omega), nI_1]
      rfl
theorem ra_mid (H : WyH I a) (hl : RLand I L) {hm : Bool} {full sv : Nat} (hf : full < 2 ^ zW I) (hrc : rcB I a full = true) (hsub : sbB sv full = true) : ∀ r w v (J : FI), w + r = zW I → T11 I J → Rw I J a full sv → (∀ w', w' < w → J 179 0 (sv * 6 + w') = nI (wyN I a sv w')) → J 180 0 sv = nI v → v ≤ 1000000 → ∃ J', V PR (d + 2) 93 44 [(0, vR (some (178, 0))), (1, vi (nI a)), (2, vi (nI full)), (3, vi (b2i hm)), (4, vi (nI sv)), (5, vi (nI w))] [] (mm n J L P E c z) = V PR (d + 2) 93 19 [(0, vR (some (178, 0))), (1, vi (nI a)), (2, vi (nI full)), (3, vi (b2i hm)), (4, vi (nI (sv + 1)))] [] (mm n J' L P E c z) ∧ T11 I J' ∧ Rw I J' a full (sv + 1) ∧ J' 180 0 sv = nI (mnF sv.testBit (fun w => wyN I a sv w + ahN I a hm w) v w r) ∧ ∀ j, j ≠ sv → J' 180 0 j = J 180 0 j
  | 0, w, v, J, h, h11, hR, hw', hv, hv2 => by
    have h6 := H.h6
    have e9 : J 103 0 2 = nI (zW I) := (h11 103 0 2 (by decide)).trans (hl.2.2.1.trans H.hT.2.2.1.1)
    refine ⟨J, ?_, h11, fun s' w2 g1 g2 g3 g4 => ?_, hv, fun _ _ => rfl⟩
    · rw [k_X8_rideAll_44, e9, nI_led (by omega) (by omega), decide_eq_true (by omega), cond_true, nI_1]
    · by_cases e : s' = sv
      · subst e; exact hw' w2 (by omega)
      · exact hR s' w2 (by omega) g2 g3 g4
  | r + 1, w, v, J, h, h11, hR, hw', hv, hv2 => by
    have h6 := H.h6
    have W := ra_w (d := d) (n := n) (P := P) (E := E) (c := c) (z := z) (hm := hm) H hl h11 hf hrc hsub (show w < zW I by omega) hR hv hv2
    obtain ⟨J', r1, r2, r3, r4, r5⟩ := ra_mid H hl (hm := hm) hf hrc hsub r (w + 1) (mnS (sv.testBit w) (wyN I a sv w + ahN I a hm w) v) (up3 (up3 J 179 0 (sv * 6 + w) (nI (wyN I a sv w))) 180 0 sv (nI (mnS (sv.testBit w) (wyN I a sv w + ahN I a hm w) v))) (by omega) ((h11.up (by decide)).up (by decide)) (fun s' w2 g1 g2 g3 g4 => (up3_a (by decide)).trans ((up3_k (by omega)).trans (hR s' w2 g1 g2 g3 g4))) (fun w' g => by
      rw [up3_a (show 179 ≠ 180 by decide)]
      by_cases e : w' = w
      · subst e; exact up3_i _ _ _ _ _
      · rw [up3_k (by omega)]; exact hw' w' (by omega)) (up3_i _ _ _ _ _) (Nat.le_trans (mnS_le _ _ _) hv2)
    exact ⟨J', W.trans r1, r2, r3, r4, fun j hj => (r5 j hj).trans ((up3_k hj).trans (up3_a (by decide)))⟩
theorem ra_out (H : WyH I a) (hl : RLand I L) {hm : Bool} {full : Nat} (hf : full < 2 ^ zW I) (hrc : rcB I a full = true) : ∀ r sv (J : FI), sv + r = full + 1 → 1 ≤ sv → T11 I J → Rw I J a full sv → (∀ s', s' < sv → sbB s' full = true → J 180 0 s' = nI (vaN I a hm s')) → (∀ s', sv ≤ s' → s' < 64 → J 180 0 s' = nI 1000000) → ∃ J', V PR (d + 2) 93 19 [(0, vR (some (178, 0))), (1, vi (nI a)), (2, vi (nI full)), (3, vi (b2i hm)), (4, vi (nI sv))] [] (mm n J L P E c z) = some (.inl none, mm n J' L P E c z) ∧ T11 I J' ∧ ∀ s', sbB s' full = true → J' 180 0 s' = nI (vaN I a hm s')
  | 0, sv, J, h, h1, h11, hR, hS, hU => by
    have h64 := H.lt hf
    refine ⟨J, ?_, h11, fun s' g => hS s' (by have := sb_le g; omega) g⟩
    rw [k_X8_rideAll_19, nI_ltd (by omega) (by omega), decide_eq_true (by omega), cond_true]
  | r + 1, sv, J, h, h1, h11, hR, hS, hU => by
    have h64 := H.lt hf
    have hs64 : sv < 64 := by omega
    obtain ⟨s1, -, -⟩ := sub_I sv hs64 full h64
    have ex : V PR (d + 2) 93 19 [(0, vR (some (178, 0))), (1, vi (nI a)), (2, vi (nI full)), (3, vi (b2i hm)), (4, vi (nI sv))] [] (mm n J L P E c z) = bif !sbB sv full then V PR (d + 2) 93 19 [(0, vR (some (178, 0))), (1, vi (nI a)), (2, vi (nI full)), (3, vi (b2i hm)), (4, vi (nI (sv + 1)))] [] (mm n J L P E c z) else V PR (d + 2) 93 44 [(0, vR (some (178, 0))), (1, vi (nI a)), (2, vi (nI full)), (3, vi (b2i hm)), (4, vi (nI sv)), (5, vi (nI 0))] [] (mm n J L P E c z) := by
      rw [k_X8_rideAll_19, nI_ltd (by omega) (by omega), decide_eq_false (by omega), cond_false, show decide ((64 : Int32) ≤ nI sv) = false from (nI_led (a := 64) (by decide) (by omega)).trans (decide_eq_false (by omega)), cond_false, s1, nI_1]
      rfl
    cases hb : sbB sv full with
    | false =>
      rw [hb, Bool.not_false, cond_true] at ex
      obtain ⟨J', r1, r2⟩ := ra_out H hl (hm := hm) hf hrc r (sv + 1) J (by omega) (by omega) h11 (fun s' w' g1 g2 g3 g4 => by
        by_cases e : s' = sv
        · subst e; rw [hb] at g2; cases g2
        · exact hR s' w' (by omega) g2 g3 g4) (fun s' g1 g2 => by
        by_cases e : s' = sv
        · subst e; rw [hb] at g2; cases g2
        · exact hS s' (by omega) g2) (fun s' g1 g2 => hU s' (by omega) g2)
      exact ⟨J', ex.trans r1, r2⟩
    | true =>
      rw [hb, Bool.not_true, cond_false] at ex
      obtain ⟨J1, q1, q2, q3, q4, q5⟩ := ra_mid (d := d) (n := n) (P := P) (E := E) (c := c) (z := z) H hl (hm := hm) hf hrc hb (zW I) 0 1000000 J (Nat.zero_add _) h11 hR (fun _ g => absurd g (Nat.not_lt_zero _)) (hU sv (Nat.le_refl _) hs64) (Nat.le_refl _)
      rw [← va_s H (Nat.lt_of_le_of_lt (sb_le hb) hf) (rc_sub hrc hb) (by omega)] at q4
      obtain ⟨J', r1, r2⟩ := ra_out H hl (hm := hm) hf hrc r (sv + 1) J1 (by omega) (by omega) q2 q3 (fun s' g1 g2 => by
        by_cases e : s' = sv
        · subst e; exact q4
        · exact (q5 s' e).trans (hS s' (by omega) g2)) (fun s' g1 g2 => (q5 s' (by omega)).trans (hU s' (by omega) g2))
      exact ⟨J', ex.trans (q1.trans r1), r2⟩
theorem fl_180 {x : Int32} : ∀ r k (J : FI), k + r = 64 → T11 I J → (∀ j, j < k → J 180 0 j = x) → ∃ J', V PR d 3 5 [(0, vR (some (180, 0))), (1, vi x), (2, vi (nI k)), (3, vi (64 : Int32))] [] (mm n J L P E c z) = some (.inl none, mm n J' L P E c z) ∧ T11 I J' ∧ ∀ j, j < 64 → J' 180 0 j = x
  | 0, k, J, h, h11, hk => by
    refine ⟨J, ?_, h11, fun j g => hk j (by omega)⟩
    rw [k_J7_fill_53178_v8_5, show decide ((64 : Int32) ≤ nI k) = true from (nI_led (a := 64) (by decide) (by omega)).trans (decide_eq_true (by omega)), cond_true]
  | r + 1, k, J, h, h11, hk => by
    obtain ⟨J', r1, r2⟩ := fl_180 r (k + 1) (up3 J 180 0 k x) (by omega) (h11.up (by decide)) (fun j g => by
      by_cases e : j = k
      · subst e; exact up3_i _ _ _ _ _
      · rw [up3_k e]; exact hk j (by omega))
    refine ⟨J', ?_, r2⟩
    rw [k_J7_fill_53178_v8_5, show decide ((64 : Int32) ≤ nI k) = false from (nI_led (a := 64) (by decide) (by omega)).trans (decide_eq_false (by omega)), cond_false, inb_nI (by omega) (by decide), cond_true, nI_clamp (by omega), nI_1]
    exact r1
theorem c_rideAll (H : WyH I a) (hl : RLand I L) (h11 : T11 I J) {hm : Bool} {full : Nat} (hf : full < 2 ^ zW I) (hrc : rcB I a full = true) : ∃ J', V PR (d + 2) 93 0 [(0, vR (some (178, 0))), (1, vi (nI a)), (2, vi (nI full)), (3, vi (b2i hm))] [] (mm n J L P E c z) = some (.inl none, mm n J' L P E c z) ∧ T11 I J' ∧ ∀ s', sbB s' full = true → J' 180 0 s' = nI (vaN I a hm s') := by
  obtain ⟨J1, q1, q2, q3⟩ := fl_180 (d := d + 1) (n := n) (L := L) (P := P) (E := E) (c := c) (z := z) (x := 1000000) 64 0 J (Nat.zero_add _) h11 (fun _ g => absurd g (Nat.not_lt_zero _))
  obtain ⟨J2, r1, r2⟩ := ra_out (d := d) (n := n) (P := P) (E := E) (c := c) (z := z) H hl (hm := hm) hf hrc full 1 (up3 J1 180 0 0 0) (Nat.add_comm _ _) (Nat.le_refl _) (q2.up (by decide)) (fun s' w' g1 _ _ g4 => by
    have e : s' = 0 := by omega
    subst e
    rw [Nat.zero_testBit] at g4
    cases g4) (fun s' g1 _ => by
    have e : s' = 0 := by omega
    subst e
    rw [up3_i, va_0]
    rfl) (fun s' g1 g2 => (up3_k (by omega)).trans (q3 s' g2))
  refine ⟨J2, ?_, r2⟩
  have q1' : V PR (d + 1) 3 5 [(0, vR (some (180, 0))), (1, vi (1000000 : Int32)), (2, vi (0 : Int32)), (3, vi (64 : Int32))] [] (mm n J L P E c z) = some (.inl none, mm n J1 L P E c z) := q1
  rw [k_X8_rideAll_0, k_J7_fill_53178_v8_0, q1', Vk_n, k_X8_rideAll_9]
  exact r1
end RidesA
