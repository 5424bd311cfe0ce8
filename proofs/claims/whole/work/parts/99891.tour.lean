/-! RIDES, 7: one rider more; the promises 34, 45. -/
section Tour
variable {a d n t : Nat} {I J M : FI} {L K N : FL} {P : FR} {E : FE} {c s z : Nat}
def mxN (x y : Nat) : Nat := bif decide (x < y) then y else x
/-- a rider more -/
def arN (I : FI) (a k s p : Nat) : Nat := mxN (usN I a p) (rdN I a k (dfN s p))
theorem mx_alt (x y : Nat) : (bif decide (y ≤ x) then x else y) = mxN x y := by
  unfold mxN
  by_cases e : y ≤ x
  · rw [decide_eq_true e, decide_eq_false (by omega)]; rfl
  · rw [decide_eq_false e, decide_eq_true (by omega)]; rfl
theorem rd_mn (H : WyH I a) {k sv : Nat} (hs : sv < 2 ^ zW I) (hr : rcB I a sv = true) : rdN I a (k + 1) sv = mnF (fun p => sbB p sv) (arN I a k sv) 1000000 0 (sv + 1) := by
  have hS : rdN I a (k + 1) sv = bif decide (sv = 0) then usN I a sv else mdF (fun p => sbB p sv && (!decide (usN I a p = 1000000) && !decide (rdN I a k (dfN sv p) = 1000000))) (fun p => bif decide (rdN I a k (dfN sv p) ≤ usN I a p) then usN I a p else rdN I a k (dfN sv p)) (sv + 1) 1000000 := rfl
  rw [hS]
  by_cases e : sv = 0
  · subst e
    have h0 : ∀ k, rdN I a k 0 = 0 := fun k => by
      cases k with
      | zero => exact us_0
      | succ k => exact us_0
    rw [decide_eq_true (rfl : (0 : Nat) = 0), cond_true, us_0]
    refine (Nat.le_antisymm ((mnF_iff _ _ _).mpr (.inr ⟨0, Nat.le_refl _, by decide, by decide, ?_⟩)) (Nat.zero_le _)).symm
    unfold arN
    rw [us_0, show dfN 0 0 = 0 from by decide, h0]
    decide
  · rw [decide_eq_false e, cond_false, md_mn]
    refine mnF_congr _ _ _ fun p _ hp => ?_
    refine ⟨?_, fun _ => mx_alt _ _⟩
    cases hb : sbB p sv with
    | false => rfl
    | true =>
      have h1 := (us_rc H (show p < 2 ^ zW I by omega)).1 (rc_sub hr hb)
      have h2 := (rd_rc H k (dfN sv p) (df_W hs)).2 (rc_sub hr sb_df)
      rw [decide_eq_false (by omega), decide_eq_false (by omega)]
      rfl
/-- memories alike but for the riders -/
def T12 (I J : FI) : Prop := ∀ b r j, b ≠ 182 → J b r j = I b r j
theorem T12.up (h : T12 I J) {r k : Nat} {x : Int32} : T12 I (up3 J 182 r k x) := fun b' r' j hq => (up3_a hq).trans (h b' r' j hq)
/-- the class's two tables told -/
def Ps (I M : FI) (a full k : Nat) : Prop := ∀ s', sbB s' full = true → M 180 0 s' = nI (usN I a s') ∧ M 181 0 s' = nI (rdN I a k s')
theorem ad_in (H : WyH I a) {full sv k : Nat} (hf : full < 2 ^ zW I) (hrc : rcB I a full = true) (hsub : sbB sv full = true) (hM : Ps I M a full k) : ∀ r p v (J : FI), p + r = sv + 1 → T12 M J → J 182 0 sv = nI v → v ≤ 1000000 → ∃ J', V PR (d + 1) 95 31 [(0, vR (some (178, 0))), (1, vi (nI full)), (2, vi (nI sv)), (3, vi (nI p))] [] (mm n J L P E c z) = V PR (d + 1) 95 2 [(0, vR (some (178, 0))), (1, vi (nI full)), (2, vi (nI (sv + 1)))] [] (mm n J' L P E c z) ∧ T12 M J' ∧ J' 182 0 sv = nI (mnF (fun p => sbB p sv) (arN I a k sv) v p r) ∧ ∀ j, j ≠ sv → J' 182 0 j = J 182 0 j
  | 0, p, v, J, h, h12, hv, hv2 => by
    have h64 := H.lt hf
    have := sb_le hsub
    refine ⟨J, ?_, h12, hv, fun _ _ => rfl⟩
    rw [k_X8_addRider_31, nI_ltd (by omega) (by omega), decide_eq_true (by omega), cond_true, nI_1]
  | r + 1, p, v, J, h, h12, hv, hv2 => by
    have h64 := H.lt hf
    have hsl := sb_le hsub
    obtain ⟨s1, -, -⟩ := sub_I p (by omega) sv (by omega)
    obtain ⟨-, s2, s3⟩ := sub_I p (by omega) sv (by omega)
    have hS : mnF (fun p => sbB p sv) (arN I a k sv) v p (r + 1) = mnF (fun p => sbB p sv) (arN I a k sv) (mnS (sbB p sv) (arN I a k sv p) v) (p + 1) r := rfl
    rw [hS, k_X8_addRider_31, nI_ltd (by omega) (by omega), decide_eq_false (by omega), cond_false, s1, nI_1]
    cases hb : sbB p sv with
    | false =>
      obtain ⟨J', r1, r2⟩ := ad_in H hf hrc hsub hM r (p + 1) v J (by omega) h12 hv hv2
      exact ⟨J', r1, r2⟩
    | true =>
      have h1 := (us_rc H (show p < 2 ^ zW I by omega)).1 (rc_sub hrc (sb_tr hb hsub))
      have h2 := (rd_rc H k _ (df_W (p := p) (show sv < 2 ^ zW I by omega))).2 (rc_sub hrc (sb_tr sb_df hsub))
      have hA : arN I a k sv p ≤ 4032 := by
        unfold arN mxN
        cases decide (usN I a p < rdN I a k (dfN sv p)) with
        | true => exact h2
        | false => exact h1
      have e180 : J 180 0 p = nI (usN I a p) := (h12 180 0 p (by decide)).trans (hM p (sb_tr hb hsub)).1
      have e181 : J 181 0 (dfN sv p) = nI (rdN I a k (dfN sv p)) := (h12 181 0 _ (by decide)).trans (hM _ (sb_tr sb_df hsub)).2
      obtain ⟨J', r1, r2, r3, r4⟩ := ad_in H hf hrc hsub hM r (p + 1) (mnS true (arN I a k sv p) v) (up3 J 182 0 sv (nI (mnS true (arN I a k sv p) v))) (by omega) h12.up (up3_i _ _ _ _ _) (Nat.le_trans (mnS_le _ _ _) hv2)
      refine ⟨J', ?_, r2, r3, fun j hj => (r4 j hj).trans (up3_k hj)⟩
      rw [Bool.not_true, cond_false, inb_nI (show sv < 64 by omega) (by decide), cond_true, inb_nI (show p < 64 by omega) (by decide), cond_true, s2, inb_nI (show dfN sv p < 64 by omega) (by decide), cond_true, nI_clamp (show sv < 2 ^ 31 by omega), nI_clamp (show p < 2 ^ 31 by omega), nI_clamp (show dfN sv p < 2 ^ 31 by omega), hv, e180, e181, c_max (by omega) (by omega), Vk_v, k_X8_addRider_74, show (bif decide (usN I a p < rdN I a k (dfN sv p)) then rdN I a k (dfN sv p) else usN I a p) = arN I a k sv p from rfl, c_min (by omega) (by omega), Vk_v, k_X8_addRider_77, inb_nI (show sv < 64 by omega) (by decide), cond_true, nI_clamp (show sv < 2 ^ 31 by omega), nI_1]
      exact r1
theorem ad_out (H : WyH I a) {full k : Nat} (hf : full < 2 ^ zW I) (hrc : rcB I a full = true) (hM : Ps I M a full k) : ∀ r sv (J : FI), sv + r = full + 1 → T12 M J → (∀ s', s' < sv → sbB s' full = true → J 182 0 s' = nI (rdN I a (k + 1) s')) → ∃ J', V PR (d + 1) 95 2 [(0, vR (some (178, 0))), (1, vi (nI full)), (2, vi (nI sv))] [] (mm n J L P E c z) = some (.inl none, mm n (cp3 J' 182 0 181 0 0 0 64) L P E c z) ∧ T12 M J' ∧ ∀ s', sbB s' full = true → J' 182 0 s' = nI (rdN I a (k + 1) s')
  | 0, sv, J, h, h12, hS => by
    have h64 := H.lt hf
    refine ⟨J, ?_, h12, fun s' g => hS s' (by have := sb_le g; omega) g⟩
    rw [k_X8_addRider_2, nI_ltd (by omega) (by omega), decide_eq_true (by omega), cond_true]
  | r + 1, sv, J, h, h12, hS => by
    have h64 := H.lt hf
    have hs64 : sv < 64 := by omega
    obtain ⟨s1, -, -⟩ := sub_I sv hs64 full h64
    have ex : V PR (d + 1) 95 2 [(0, vR (some (178, 0))), (1, vi (nI full)), (2, vi (nI sv))] [] (mm n J L P E c z) = bif !sbB sv full then V PR (d + 1) 95 2 [(0, vR (some (178, 0))), (1, vi (nI full)), (2, vi (nI (sv + 1)))] [] (mm n (up3 J 182 0 sv (nI 1000000)) L P E c z) else V PR (d + 1) 95 31 [(0, vR (some (178, 0))), (1, vi (nI full)), (2, vi (nI sv)), (3, vi (nI 0))] [] (mm n (up3 J 182 0 sv (nI 1000000)) L P E c z) := by
      rw [k_X8_addRider_2, nI_ltd (by omega) (by omega), decide_eq_false (by omega), cond_false, show decide ((64 : Int32) ≤ nI sv) = false from (nI_led (a := 64) (by decide) (by omega)).trans (decide_eq_false (by omega)), cond_false, inb_nI hs64 (by decide), cond_true, nI_clamp (by omega), s1, nI_1]
      rfl
    cases hb : sbB sv full with
    | false =>
      rw [hb, Bool.not_false, cond_true] at ex
      obtain ⟨J', r1, r2⟩ := ad_out H hf hrc hM r (sv + 1) (up3 J 182 0 sv (nI 1000000)) (by omega) h12.up (fun s' g1 g2 => by
        by_cases e : s' = sv
        · subst e; rw [hb] at g2; cases g2
        · exact (up3_k e).trans (hS s' (by omega) g2))
      exact ⟨J', ex.trans r1, r2⟩
    | true =>
      rw [hb, Bool.not_true, cond_false] at ex
      obtain ⟨J1, q1, q2, q3, q4⟩ := ad_in (d := d) (n := n) (L := L) (P := P) (E := E) (c := c) (z := z) H hf hrc hb hM (sv + 1) 0 1000000 (up3 J 182 0 sv (nI 1000000)) (Nat.zero_add _) h12.up (up3_i _ _ _ _ _) (Nat.le_refl _)
      rw [← rd_mn H (Nat.lt_of_le_of_lt (sb_le hb) hf) (rc_sub hrc hb)] at q3
      obtain ⟨J', r1, r2⟩ := ad_out H hf hrc hM r (sv + 1) J1 (by omega) q2 (fun s' g1 g2 => by
        by_cases e : s' = sv
        · subst e; exact q3
        · exact (q4 s' e).trans ((up3_k e).trans (hS s' (by omega) g2)))
      exact ⟨J', ex.trans (q1.trans r1), r2⟩
theorem c_addRider (H : WyH I a) {full k : Nat} (hf : full < 2 ^ zW I) (hrc : rcB I a full = true) (h11 : T11 I M) (hM : Ps I M a full k) : ∃ J', V PR (d + 1) 95 0 [(0, vR (some (178, 0))), (1, vi (nI full))] [] (mm n M L P E c z) = some (.inl none, mm n J' L P E c z) ∧ T11 I J' ∧ Ps I J' a full (k + 1) := by
  obtain ⟨J, r1, r2, r3⟩ := ad_out (d := d) (n := n) (L := L) (P := P) (E := E) (c := c) (z := z) H hf hrc hM (full + 1) 0 M (Nat.zero_add _) (fun _ _ _ _ => rfl) (fun _ g => absurd g (Nat.not_lt_zero _))
  have h64 := H.lt hf
  refine ⟨cp3 J 182 0 181 0 0 0 64, ?_, fun b r j hb => ?_, fun s' g => ⟨?_, ?_⟩⟩
  · rw [k_X8_addRider_0]
    exact r1
  · rw [cp3_x (by omega), r2 b r j (by omega), h11 b r j hb]
  · rw [cp3_x (by decide), r2 180 0 s' (by decide), (hM s' g).1]
  · rw [cp3_v (by decide) (by have := sb_le g; omega), r3 s' g]
theorem so_in (H : WyH I a) {full m : Nat} (hf : full < 2 ^ zW I) (hrc : rcB I a full = true) (hm : m < 3) : ∀ r k (J : FI), k + r = m → T11 I J → Ps I J a full k → ∃ J', V PR (d + 2) 90 36 [(0, vR (some (178, 0))), (2, vi (nI (m + 1))), (3, vi (nI full)), (4, vi (nI (k + 1)))] [] (mm n J L P E c z) = some (.inl (some (vi (nI (rdN I a m full)))), mm n J' L P E c z) ∧ T11 I J'
  | 0, k, J, h, h11, hP => by
    have h64 := H.lt hf
    refine ⟨J, ?_, h11⟩
    have e : k = m := by omega
    subst e
    rw [k_X8_soonest_36, nI_led (by omega) (by omega), decide_eq_true (Nat.le_refl _), cond_true, inb_nI h64 (by decide), cond_true, nI_clamp (by omega), (hP full (sb_iff.mpr fun _ h => h)).2]
  | r + 1, k, J, h, h11, hP => by
    obtain ⟨J1, q1, q2, q3⟩ := c_addRider (d := d) (n := n) (L := L) (P := P) (E := E) (c := c) (z := z) H hf hrc h11 hP
    obtain ⟨J', r1, r2⟩ := so_in H hf hrc hm r (k + 1) J1 (by omega) q2 q3
    refine ⟨J', ?_, r2⟩
    rw [k_X8_soonest_36, nI_led (by omega) (by omega), decide_eq_false (by omega), cond_false, q1, Vk_n, k_X8_soonest_47, nI_1]
    exact r1
theorem c_soonest (H : WyH I a) (hl : RLand I L) {full m : Nat} (hf : full < 2 ^ zW I) (hm : m < 3) : ∃ J', V PR (d + 4) 90 0 [(0, vR (some (178, 0))), (1, vi (nI a)), (2, vi (nI (m + 1))), (3, vi (nI full))] [] (mm n I L P E c z) = some (.inl (some (vi (mI (rdN I a m full)))), mm n J' L P E c z) ∧ T11 I J' := by
  have h11 : T11 I I := fun _ _ _ _ => rfl
  have h64 := H.lt hf
  cases hrc : rcB I a full with
  | false =>
    refine ⟨I, ?_, h11⟩
    rw [k_X8_soonest_0, c_reaches H hl h11 hf, Vk_v, k_X8_soonest_6, b2i_eq0, hrc, (rd_rc H m full hf).1 hrc]
    rfl
  | true =>
    obtain ⟨J1, q1, q2, q3⟩ := c_rideAll (d := d + 1) (n := n) (P := P) (E := E) (c := c) (z := z) (hm := false) H hl h11 hf hrc
    have h12 : T11 I (cp3 J1 180 0 181 0 0 0 64) := fun b r j hb => (cp3_x (by omega)).trans (q2 b r j hb)
    have hP : Ps I (cp3 J1 180 0 181 0 0 0 64) a full 0 := fun s' g => ⟨(cp3_x (by decide)).trans (q3 s' g), (cp3_v (by decide) (by have := sb_le g; omega)).trans (q3 s' g)⟩
    obtain ⟨J2, r1, r2⟩ := so_in (d := d + 2) (n := n) (L := L) (P := P) (E := E) (c := c) (z := z) H hf hrc hm m 0 _ (Nat.zero_add _) h12 hP
    refine ⟨J2, ?_, r2⟩
    have hle := (rd_rc H m full hf).2 hrc
    rw [k_X8_soonest_0, c_reaches H hl h11 hf, Vk_v, k_X8_soonest_6, b2i_eq0, hrc, Bool.not_true, Bool.not_false, cond_true]
    have q1' : V PR (d + 3) 93 0 [(0, vR (some (178, 0))), (1, vi (nI a)), (2, vi (nI full)), (3, vi (0 : Int32))] [] (mm n I L P E c z) = some (.inl none, mm n J1 L P E c z) := q1
    rw [q1', Vk_n, k_X8_soonest_18, mI_ne (by omega)]
    exact r1
theorem c_round (H : WyH I a) (hl : RLand I L) {full : Nat} (hf : full < 2 ^ zW I) : ∃ J', V PR (d + 4) 91 0 [(0, vR (some (178, 0))), (1, vi (nI a)), (2, vi (nI full))] [] (mm n I L P E c z) = some (.inl (some (vi (mI (tuN I a full)))), mm n J' L P E c z) ∧ T11 I J' := by
  have h11 : T11 I I := fun _ _ _ _ => rfl
  have h64 := H.lt hf
  cases hrc : rcB I a full with
  | false =>
    refine ⟨I, ?_, h11⟩
    have e0 : full ≠ 0 := fun e => by rw [e, rc_0] at hrc; cases hrc
    have eT : tuN I a full = 1000000 := by
      refine Nat.le_antisymm (by unfold tuN; rw [decide_eq_false e0, cond_false]; exact mnF_le) ?_
      refine Nat.le_of_not_lt fun q => ?_
      have q2 : tuN I a full ≤ 999999 := Nat.le_of_lt_succ q
      unfold tuN at q2
      rw [mnF_iff, decide_eq_false e0, cond_false] at q2
      rcases q2 with q2 | ⟨u, _, u1, u2, _⟩
      · exact absurd q2 (by decide)
      · rw [Bool.and_eq_true, Bool.and_eq_true, Bool.not_eq_true', decide_eq_false_iff_not] at u2
        exact u2.2.1 ((wy_rc H.h6 H.hf H.hP H.ha (full + 1) full u (Nat.lt_succ_self _) hf (by omega) u2.1).2 hrc)
    rw [k_X8_round_0, c_reaches H hl h11 hf, Vk_v, k_X8_round_6, b2i_eq0, hrc, eT]
    rfl
  | true =>
    obtain ⟨J1, q1, q2, q3⟩ := c_rideAll (d := d + 1) (n := n) (P := P) (E := E) (c := c) (z := z) (hm := true) H hl h11 hf hrc
    refine ⟨J1, ?_, q2⟩
    have hle : tuN I a full ≤ 5000 := by
      by_cases e0 : full = 0
      · subst e0; rw [show tuN I a 0 = 0 from va_0 true]; decide
      · have e := va_s H (hm := true) hf hrc e0
        rw [show tuN I a full = vaN I a true full from rfl, e]
        obtain ⟨u, u1, u2⟩ := set_0 _ h64 e0
        have hu : u < zW I := set_W _ H.h6 _ hf u u1 u2
        have h1 := (wy_rc H.h6 H.hf H.hP H.ha (full + 1) full u (Nat.lt_succ_self _) hf hu u2).1 hrc
        have h2 := (far_I H.hf (H.hP u hu) H.ha).2
        refine (mnF_iff _ _ _).mpr (.inr ⟨u, Nat.zero_le _, by omega, u2, ?_⟩)
        show wyN I a full u + fN I (plN I u) a ≤ 5000
        omega
    have q1' : V PR (d + 3) 93 0 [(0, vR (some (178, 0))), (1, vi (nI a)), (2, vi (nI full)), (3, vi (1 : Int32))] [] (mm n I L P E c z) = some (.inl none, mm n J1 L P E c z) := q1
    rw [k_X8_round_0, c_reaches H hl h11 hf, Vk_v, k_X8_round_6, b2i_eq0, hrc, Bool.not_true, Bool.not_false, cond_true, q1', Vk_n, k_X8_round_18, inb_nI h64 (by decide), cond_true, nI_clamp (by omega), q3 full (sb_iff.mpr fun _ h => h), mI_ne (by omega)]
    rfl
theorem T11.cw (h : T11 I J) (hw : Cw t I L I L) : Cw t I L J L := hw.upX (fun a r j q => h a r j (by
  refine Classical.byContradiction fun e => ?_
  have e1 : a = 179 ∨ a = 180 ∨ a = 181 ∨ a = 182 := by omega
  rcases q with q | q | q
  · rcases e1 with e1 | e1 | e1 | e1 <;> subst e1 <;> cases q
  · omega
  · omega)) Cx.rfl' (fun a r j h1 h2 => h a r j (by omega)) (fun _ _ _ _ _ => rfl)
theorem T10.rx (h : T10 I J) : Rx I J := fun a r j q => h a r j (by
  rintro rfl
  rcases q with q | q | q | q
  · cases q
  · omega
  · omega
  · omega) (by
  rintro rfl
  rcases q with q | q | q | q
  · cases q
  · omega
  · omega
  · omega)
theorem wy_keep {I' : FI} (e1 : plN I' = plN I) (e2 : fOk I' = fOk I) (e3 : fN I' = fN I) (e4 : zW I' = zW I) : ∀ k, wyT I' a k = wyT I a k
  | 0 => rfl
  | k + 1 => by
    funext sv w
    unfold wyT
    simp only [e1, e2, e3, e4, wy_keep e1 e2 e3 e4 k]
theorem us_keep {I' : FI} (e1 : plN I' = plN I) (e2 : fOk I' = fOk I) (e3 : fN I' = fN I) (e4 : zW I' = zW I) : usN I' a = usN I a ∧ tuN I' a = tuN I a := by
  constructor
  · funext sv
    unfold usN wyN
    rw [e4]
    simp only [wy_keep e1 e2 e3 e4]
  · funext sv
    unfold tuN wyN
    simp only [wy_keep e1 e2 e3 e4, e1, e2, e3, e4]
theorem rd_keep {I' : FI} (e1 : plN I' = plN I) (e2 : fOk I' = fOk I) (e3 : fN I' = fN I) (e4 : zW I' = zW I) : ∀ k, rdN I' a k = rdN I a k
  | 0 => (us_keep e1 e2 e3 e4).1
  | k + 1 => by
    funext sv
    unfold rdN
    simp only [(us_keep e1 e2 e3 e4).1, rd_keep e1 e2 e3 e4 k]
theorem kp_ways {I' : FI} (k : Kp c I I') (hc : 487 ≤ c) : plN I' = plN I ∧ fOk I' = fOk I ∧ fN I' = fN I ∧ zW I' = zW I := by
  refine ⟨?_, ?_, ?_, (kz k hc).2.2.1⟩
  · funext w
    unfold plN
    rw [k 198 _ _ (by omega) rfl]
  · funext p q
    unfold fOk
    rw [k 220 _ _ (by omega) rfl]
  · funext p q
    unfold fN
    rw [k 220 _ _ (by omega) rfl]
theorem g_riders (h : Rl t I L P E c s) (hn : 6 * t + 6 ≤ n) (hN : n ≤ 3072) : LGo (d + 30) n t 33 I L P E c s := by
  refine en_33 h hn hN fun p k sv hp hk1 hk2 hs ep ek es h1 h2 h3 => ?_
  obtain ⟨⟨-, hc, -, -⟩, hT, hl, hw, -, hf, -⟩ := id h
  have H : WyH I p := ⟨hT, hw, hf, hp⟩
  obtain ⟨m, rfl⟩ : ∃ m, k = m + 1 := ⟨k - 1, by omega⟩
  obtain ⟨J, r1, r2⟩ := c_soonest (d := d + 23) (n := n) (P := P) (E := E) (c := c) (z := s) H hl hs (show m < 3 by omega)
  have hw1 := T11.cw r2 h.cw0
  have kk : Kp c I (up3 J 186 0 0 0) := Kp.tr hw1.1.kp Rx.thr.kp (Nat.le_refl _)
  obtain ⟨g1, g2, g3, g4⟩ := kp_ways kk hc
  have hP : zP (up3 J 186 0 0 0) = zP I := (kz kk hc).2.1
  have H2 : WyH (up3 J 186 0 0 0) p := ⟨hT.keep kk hc, hw.keep kk hc, hf.keep kk hc, by rw [hP]; exact hp⟩
  have hT1 : RTold J := hT.keep hw1.1.kp hc
  have e1 : J 190 0 1 = I 190 0 1 := r2 190 0 1 (by decide)
  have e2 : J 190 0 2 = I 190 0 2 := r2 190 0 2 (by decide)
  have hs2 : sv < 2 ^ zW (up3 J 186 0 0 0) := by rw [g4]; exact hs
  have B : ∀ lv, ∃ M, V PR (d + 29) 302 0 [(0, vR (some (186, 0))), (1, vi (sc I t 1)), (2, vi (sc I t 2)), (3, vi (sc I t 3))] [] (mm n J (up3 L 486 0 0 lv) P E c s) = some (.inl (some (vi (mI (rdN I p m sv)))), mm n M (up3 L 486 0 0 lv) P E c s) ∧ T10 (up3 J 186 0 0 0) M := fun lv => by
    obtain ⟨M, m1, m2, m3⟩ := c_laysW (d := d + 28) (n := n) (L := up3 L 486 0 0 lv) (P := P) (E := E) (c := c) (z := s) (a := p) H2 (fun _ _ _ _ _ => rfl)
    have R := rd_R (d := d + 27 - m) (n := n) (L := up3 L 486 0 0 lv) (P := P) (E := E) (c := c) (z := s) H2 ⟨m2, m3⟩ m sv hs2 (by omega)
    rw [show d + 27 - m + m + 1 = d + 28 by omega, rd_keep g1 g2 g3 g4] at R
    refine ⟨M, (rp_33 (d := d + 26) hT1 (by rw [e1]; exact h1) h2 (by rw [e2]; exact h3)).trans ?_, m2⟩
    rw [ep, ek, es, k_X12_riders_65, d0t, cond_true, m1, Vk_n, k_X12_riders_75, R, Vk_v, k_X12_riders_81]
  obtain ⟨M, m1, m2⟩ := B ((mI (rdN I p m sv)).toInt64)
  refine gb_33 (d := d + 28) (mI (rdN I p m sv)) h hn hN ((cp_33 (d := d + 26) hT hl h1 h2 h3).trans ?_) m1 hw1 (Rx.thr.tr m2.rx) Rx.rfl' ?_ ?_
  · rw [ep, ek, es, k_X11_riders_29, r1, Vk_v, k_X11_riders_39]
  · exact h.rstm.rx hw1.1 (Rx.thr.tr m2.rx) ((m2 186 0 40 (by decide) (by decide)).trans (up3_k (by decide))) (fun r j => (m2 377 r j (by decide) (by decide)).trans (up3_a (by decide))) (fun r j => (m2 414 r j (by decide) (by decide)).trans (up3_a (by decide)))
  · exact (m2 186 0 0 (by decide) (by decide)).trans (up3_i _ _ _ _ _)
theorem g_tour (h : Rl t I L P E c s) (hn : 6 * t + 6 ≤ n) (hN : n ≤ 3072) : LGo (d + 30) n t 44 I L P E c s := by
  refine en_44 h hn hN fun p sv hp hs ep es h1 h2 => ?_
  obtain ⟨⟨-, hc, -, -⟩, hT, hl, hw, -, hf, -⟩ := id h
  have H : WyH I p := ⟨hT, hw, hf, hp⟩
  obtain ⟨J, r1, r2⟩ := c_round (d := d + 23) (n := n) (P := P) (E := E) (c := c) (z := s) H hl hs
  have hw1 := T11.cw r2 h.cw0
  have kk : Kp c I (up3 J 186 0 0 0) := Kp.tr hw1.1.kp Rx.thr.kp (Nat.le_refl _)
  obtain ⟨g1, g2, g3, g4⟩ := kp_ways kk hc
  have hP : zP (up3 J 186 0 0 0) = zP I := (kz kk hc).2.1
  have H2 : WyH (up3 J 186 0 0 0) p := ⟨hT.keep kk hc, hw.keep kk hc, hf.keep kk hc, by rw [hP]; exact hp⟩
  have hT1 : RTold J := hT.keep hw1.1.kp hc
  have e1 : J 190 0 1 = I 190 0 1 := r2 190 0 1 (by decide)
  have e2 : J 190 0 2 = I 190 0 2 := r2 190 0 2 (by decide)
  have hs2 : sv < 2 ^ zW (up3 J 186 0 0 0) := by rw [g4]; exact hs
  have h64 := H.lt hs
  have B : ∀ lv, ∃ M, V PR (d + 29) 318 0 [(0, vR (some (186, 0))), (1, vi (sc I t 1)), (2, vi (sc I t 2))] [] (mm n J (up3 L 486 0 0 lv) P E c s) = some (.inl (some (vi (mI (tuN I p sv)))), mm n M (up3 L 486 0 0 lv) P E c s) ∧ T10 (up3 J 186 0 0 0) M := fun lv => by
    obtain ⟨M, m1, m2, m3⟩ := c_laysW (d := d + 28) (n := n) (L := up3 L 486 0 0 lv) (P := P) (E := E) (c := c) (z := s) (a := p) H2 (fun _ _ _ _ _ => rfl)
    have R := tu_R (d := d + 29) (n := n) (L := up3 L 486 0 0 lv) (P := P) (E := E) (c := c) (z := s) H2 ⟨m2, m3⟩ hs2 (zW (up3 J 186 0 0 0)) 0 (bif decide (sv = 0) then 0 else 1000000) (Nat.zero_add _) (by cases decide (sv = 0) <;> decide)
    have eT : mnF (fun w => sv.testBit w && (!decide (wyN (up3 J 186 0 0 0) p sv w = 1000000) && fOk (up3 J 186 0 0 0) (plN (up3 J 186 0 0 0) w) p)) (fun w => wyN (up3 J 186 0 0 0) p sv w + fN (up3 J 186 0 0 0) (plN (up3 J 186 0 0 0) w) p) (bif decide (sv = 0) then 0 else 1000000) 0 (zW (up3 J 186 0 0 0)) = tuN I p sv := by
      rw [← (us_keep (a := p) g1 g2 g3 g4).2]
      rfl
    rw [eT] at R
    have e0 : decide (nI sv = 0) = decide (sv = 0) := by rw [decide_eq_decide]; exact nI_eq (b := 0) (by omega) (by decide)
    refine ⟨M, (rp_44 (d := d + 26) hT1 (by rw [e1]; exact h1) (by rw [e2]; exact h2)).trans ?_, m2⟩
    rw [ep, es, k_X12_tour_56, d0t, cond_true, e0, m1]
    cases hz : decide (sv = 0) with
    | true =>
      rw [hz] at R
      rw [Bool.not_true, cond_false, Vk_n, k_X12_tour_76]
      exact R
    | false =>
      rw [hz] at R
      rw [Bool.not_false, cond_true, Vk_n, k_X12_tour_76]
      exact R
  obtain ⟨M, m1, m2⟩ := B ((mI (tuN I p sv)).toInt64)
  refine gb_44 (d := d + 28) (mI (tuN I p sv)) h hn hN ((cp_44 (d := d + 26) hT hl h1 h2).trans ?_) m1 hw1 (Rx.thr.tr m2.rx) Rx.rfl' ?_ ?_
  · rw [ep, es, k_X11_tour_10, r1, Vk_v, k_X11_tour_19]
  · exact h.rstm.rx hw1.1 (Rx.thr.tr m2.rx) ((m2 186 0 40 (by decide) (by decide)).trans (up3_k (by decide))) (fun r j => (m2 377 r j (by decide) (by decide)).trans (up3_a (by decide))) (fun r j => (m2 414 r j (by decide) (by decide)).trans (up3_a (by decide)))
  · exact (m2 186 0 0 (by decide) (by decide)).trans (up3_i _ _ _ _ _)
end Tour
