/-! RIDES, 5: the class's side. -/
section RidesC
variable {a d n t : Nat} {I J M : FI} {L K N : FL} {P : FR} {E : FE} {c s z : Nat}
/-- memories alike but for the rides -/
def T11 (I J : FI) : Prop := ∀ b r j, (b < 179 ∨ 182 < b) → J b r j = I b r j
theorem T11.up (h : T11 I J) {b r k : Nat} {x : Int32} (hb : 179 ≤ b ∧ b ≤ 182) : T11 I (up3 J b r k x) := fun b' r' j hq => (up3_a (by omega)).trans (h b' r' j hq)
theorem cp3_v {f : FI} {x y : Nat} (hxy : y ≠ x) {j : Nat} (hj : j < 64) : (cp3 f x 0 y 0 0 0 64) y 0 j = f x 0 j := by
  unfold cp3
  rw [if_pos rfl, if_pos rfl, if_pos (by omega), Nat.zero_add, Nat.sub_zero]
theorem cp3_x {f : FI} {x y : Nat} {b r j : Nat} (hb : b ≠ y) : (cp3 f x 0 y 0 0 0 64) b r j = f b r j := by
  unfold cp3
  rw [if_neg hb]
theorem c_wayI (H : WyH I a) (h11 : T11 I J) {p q : Nat} (hp : p < zP I) (hq : q < zP I) : V PR d 41 0 [(0, vR (some (103, 0))), (1, vi (nI p)), (2, vi (nI q))] [] (mm n J L P E c z) = some (.inl (some (vi (bif fOk I p q then nI (fN I p q) else -1))), mm n J L P E c z) := by
  have h8 := H.h8
  rw [c_way (by omega) (by omega), h11 104 _ _ (by decide), (H.hf.1 p q hp hq).1, (far_I H.hf hp hq).1]
theorem pl_105 (H : WyH I a) (h11 : T11 I J) {w : Nat} (hw : w < zW I) : J 105 0 w = nI (plN I w) := (h11 105 _ _ (by decide)).trans (pl_I H.hT H.hw hw).2.2
theorem rc_C (H : WyH I a) (hl : RLand I L) (h11 : T11 I J) {sv : Nat} (hs : sv < 2 ^ zW I) : ∀ r w, w + r = zW I → V PR (d + 1) 92 2 [(0, vR (some (178, 0))), (1, vi (nI a)), (2, vi (nI sv)), (3, vi (nI w))] [] (mm n J L P E c z) = some (.inl (some (vi (b2i (alB (fun w => !sv.testBit w || fOk I a (plN I w)) w r)))), mm n J L P E c z)
  | 0, w, h => by
    have h6 := H.h6
    have e9 : J 103 0 2 = nI (zW I) := (h11 103 0 2 (by decide)).trans (hl.2.2.1.trans H.hT.2.2.1.1)
    rw [k_X8_reaches_2, e9, nI_led (by omega) (by omega), decide_eq_true (by omega), cond_true]
    rfl
  | r + 1, w, h => by
    have h6 := H.h6
    have h64 := H.lt hs
    have hwW : w < zW I := by omega
    have e9 : J 103 0 2 = nI (zW I) := (h11 103 0 2 (by decide)).trans (hl.2.2.1.trans H.hT.2.2.1.1)
    obtain ⟨-, b6, -⟩ := bit6 sv h64 w (by omega)
    have hp := H.hP w hwW
    have F2 := (far_I H.hf H.ha hp).2
    have ih := rc_C H hl h11 hs r (w + 1) (by omega)
    have hS : alB (fun w => !sv.testBit w || fOk I a (plN I w)) w (r + 1) = ((!sv.testBit w || fOk I a (plN I w)) && alB (fun w => !sv.testBit w || fOk I a (plN I w)) (w + 1) r) := rfl
    rw [hS, k_X8_reaches_2, e9, nI_led (by omega) (by omega), decide_eq_false (by omega), cond_false, b6, nI_1]
    cases hb : sv.testBit w with
    | false => exact ih
    | true =>
      rw [Bool.not_true, cond_false, inb_nI (show w < 6 by omega) (by decide), cond_true, nI_clamp (by omega), pl_105 H h11 hwW, c_wayI H h11 H.ha hp, Vk_v, k_X8_reaches_38, nI_1, Bool.false_or]
      cases fOk I a (plN I w) with
      | true =>
        rw [cond_true, show decide ((0 : Int32) ≤ nI (fN I a (plN I w))) = true from (nI_led (a := 0) (by decide) (by omega)).trans (decide_eq_true (Nat.zero_le _)), cond_true, Bool.true_and]
        exact ih
      | false =>
        rw [cond_false, show decide ((0 : Int32) ≤ -1) = false by decide +kernel]
        rfl
theorem c_reaches (H : WyH I a) (hl : RLand I L) (h11 : T11 I J) {sv : Nat} (hs : sv < 2 ^ zW I) : V PR (d + 1) 92 0 [(0, vR (some (178, 0))), (1, vi (nI a)), (2, vi (nI sv))] [] (mm n J L P E c z) = some (.inl (some (vi (b2i (rcB I a sv)))), mm n J L P E c z) := by
  rw [k_X8_reaches_0]
  exact rc_C H hl h11 hs (zW I) 0 (Nat.zero_add _)
theorem sb_iff {p s : Nat} : sbB p s = true ↔ ∀ v, p.testBit v = true → s.testBit v = true := by
  constructor
  · intro h v hv; exact sb_tb h hv
  · intro h
    refine decide_eq_true (Nat.eq_of_testBit_eq fun v => ?_)
    rw [Nat.testBit_and]
    cases hp : p.testBit v with
    | false => rfl
    | true => rw [h v hp]; rfl
theorem sb_le {p s : Nat} (h : sbB p s = true) : p ≤ s := by
  have h1 := of_decide_eq_true h
  rw [← h1]
  exact Nat.and_le_right
theorem sb_tr {p s u : Nat} (h : sbB p s = true) (h2 : sbB s u = true) : sbB p u = true := sb_iff.mpr fun v hv => sb_tb h2 (sb_tb h hv)
theorem sb_df {p s : Nat} : sbB (dfN s p) s = true := sb_iff.mpr fun v hv => by
  rw [df_tb, Bool.and_eq_true] at hv
  exact hv.1
theorem rc_sub {p s : Nat} (h : rcB I a s = true) (hp : sbB p s = true) : rcB I a p = true := rc_iff.mpr fun w hw hb => rc_iff.mp h w hw (sb_tb hp hb)
theorem rs_sub (H : WyH I a) {sv w : Nat} (hs : sv < 2 ^ zW I) (hw : w < 6) : sbB (rsN sv w) sv = true := sb_iff.mpr fun v hv => by
  have h4 := (rs_I sv (H.lt hs) w hw).2.2.2
  by_cases e : v < 6
  · rw [h4 v e, Bool.and_eq_true] at hv
    exact hv.1
  · have hr : rsN sv w < 2 ^ v := Nat.lt_of_lt_of_le (m := 2 ^ 6) (Nat.lt_of_le_of_lt (rs_I sv (H.lt hs) w hw).2.1 (H.lt hs)) (Nat.pow_le_pow_right (by decide) (by omega))
    rw [Nat.testBit_lt_two_pow hr] at hv
    cases hv
/-- two that can be reached can be reached from each other -/
theorem ok_tr (H : WyH I a) {u w : Nat} (hu : u < zW I) (hw : w < zW I) (h1 : fOk I a (plN I u) = true) (h2 : fOk I a (plN I w) = true) : fOk I (plN I u) (plN I w) = true := by
  refine fOk_ne.mpr (H.hf.2.2 _ a _ (H.hP u hu) H.ha (H.hP w hw) ?_ (fOk_ne.mp h2))
  rw [← (H.hf.1 a _ H.ha (H.hP u hu)).2.2]
  exact fOk_ne.mp h1
theorem ok_home (H : WyH I a) {w : Nat} (hw : w < zW I) (h2 : fOk I a (plN I w) = true) : fOk I (plN I w) a = true := by
  refine fOk_ne.mpr ?_
  rw [← (H.hf.1 a _ H.ha (H.hP w hw)).2.2]
  exact fOk_ne.mp h2
/-- the class's table, so far -/
def Rw (I J : FI) (a full m : Nat) : Prop := ∀ s' w', s' < m → sbB s' full = true → w' < zW I → s'.testBit w' = true → J 179 0 (s' * 6 + w') = nI (wyN I a s' w')
theorem rt_in (H : WyH I a) (hl : RLand I L) (h11 : T11 I J) {full sv w : Nat} (hf : full < 2 ^ zW I) (hrc : rcB I a full = true) (hsub : sbB sv full = true) (hwW : w < zW I) (hb : sv.testBit w = true) (hR : Rw I J a full sv) : ∀ r u v, u + r = zW I → v ≤ 1000000 → V PR (d + 1) 94 50 [(0, vR (some (178, 0))), (3, vi (nI w)), (4, vi (nI (rsN sv w))), (5, vi (nI v)), (6, vi (nI u))] [] (mm n J L P E c z) = some (.inl (some (vi (nI (mnF (wyC I a sv w) (wyG I a sv w) v u r)))), mm n J L P E c z)
  | 0, u, v, h, hv => by
    have h6 := H.h6
    have e9 : J 103 0 2 = nI (zW I) := (h11 103 0 2 (by decide)).trans (hl.2.2.1.trans H.hT.2.2.1.1)
    rw [k_X8_rideTo_50, e9, nI_led (by omega) (by omega), decide_eq_true (by omega), cond_true]
    rfl
  | r + 1, u, v, h, hv => by
    have h6 := H.h6
    have hs : sv < 2 ^ zW I := Nat.lt_of_le_of_lt (sb_le hsub) hf
    have h64 := H.lt hs
    have huW : u < zW I := by omega
    have e9 : J 103 0 2 = nI (zW I) := (h11 103 0 2 (by decide)).trans (hl.2.2.1.trans H.hT.2.2.1.1)
    obtain ⟨-, q2, q3, q4⟩ := rs_I sv h64 w (by omega)
    have hr := q3 hb
    have hrs := rs_sub H hs (w := w) (by omega)
    obtain ⟨-, b6, -⟩ := bit6 (rsN sv w) (by omega) u (by omega)
    have ih := rt_in H hl h11 hf hrc hsub hwW hb hR r (u + 1)
    have hS : mnF (wyC I a sv w) (wyG I a sv w) v u (r + 1) = mnF (wyC I a sv w) (wyG I a sv w) (mnS (wyC I a sv w u) (wyG I a sv w u) v) (u + 1) r := rfl
    rw [hS, k_X8_rideTo_50, e9, nI_led (by omega) (by omega), decide_eq_false (by omega), cond_false, b6, nI_1]
    cases hq : (rsN sv w).testBit u with
    | false =>
      have hC : wyC I a sv w u = false := by unfold wyC; rw [hq]; rfl
      rw [hC]
      exact ih v (by omega) hv
    | true =>
      have ru : fOk I a (plN I u) = true := rc_iff.mp hrc u huW (sb_tb hsub (sb_tb hrs hq))
      have rw' : fOk I a (plN I w) = true := rc_iff.mp hrc w hwW (sb_tb hsub hb)
      have hok := ok_tr H huW hwW ru rw'
      have hrW : rsN sv w < 2 ^ zW I := by omega
      have hle := (wy_rc H.h6 H.hf H.hP H.ha (sv + 1) (rsN sv w) u (by omega) hrW huW hq).1 (rc_sub hrc (sb_tr hrs hsub))
      have hC : wyC I a sv w u = true := by unfold wyC; rw [hq, hok, decide_eq_false (by omega)]; rfl
      have hG : nI (wyN I a (rsN sv w) u) + nI (fN I (plN I u) (plN I w)) = nI (wyG I a sv w u) := nI_add _ _
      have hF := (far_I H.hf (H.hP u huW) (H.hP w hwW)).2
      have hG2 : wyG I a sv w u ≤ 5000 := by unfold wyG; omega
      rw [Bool.not_true, cond_false, inb_nI (show u < 6 by omega) (by decide), inb_nI (show w < 6 by omega) (by decide), cond_true, cond_true, nI_clamp (by omega), nI_clamp (by omega), pl_105 H h11 huW, pl_105 H h11 hwW, c_wayI H h11 (H.hP u huW) (H.hP w hwW), Vk_v, hok, cond_true, k_X8_rideTo_98, mul6, inb_nI (by omega) (by decide), cond_true, nI_clamp (by omega), hR _ u hr (sb_tr hrs hsub) huW hq, hG]
      rw [k_J9_min_7cf53_0, nI_ltd (by omega) (by omega), hC]
      have e : mnS true (wyG I a sv w u) v = bif decide (wyG I a sv w u < v) then wyG I a sv w u else v := rfl
      have := ih (mnS true (wyG I a sv w u) v) (by omega) (Nat.le_trans (mnS_le _ _ _) hv)
      rw [e] at this ⊢
      cases hd : decide (wyG I a sv w u < v) with
      | true =>
        rw [hd] at this
        rw [cond_true, Vk_v, k_X8_rideTo_121, nI_1]
        exact this
      | false =>
        rw [hd] at this
        rw [cond_false, Vk_v, k_X8_rideTo_121, nI_1]
        exact this
theorem c_rideTo (H : WyH I a) (hl : RLand I L) (h11 : T11 I J) {full sv w : Nat} (hf : full < 2 ^ zW I) (hrc : rcB I a full = true) (hsub : sbB sv full = true) (hwW : w < zW I) (hR : Rw I J a full sv) : V PR (d + 1) 94 0 [(0, vR (some (178, 0))), (1, vi (nI a)), (2, vi (nI sv)), (3, vi (nI w))] [] (mm n J L P E c z) = some (.inl (some (vi (nI (wyN I a sv w)))), mm n J L P E c z) := by
  have h6 := H.h6
  have hs : sv < 2 ^ zW I := Nat.lt_of_le_of_lt (sb_le hsub) hf
  have h64 := H.lt hs
  obtain ⟨q1, q2, q3, q4⟩ := rs_I sv h64 w (by omega)
  obtain ⟨-, b6, -⟩ := bit6 sv h64 w (by omega)
  have er : decide (nI (rsN sv w) = 0) = decide (rsN sv w = 0) := by rw [decide_eq_decide]; exact nI_eq (b := 0) (by omega) (by decide)
  have hwe := wy_eq (a := a) h6 h64 (show w < 6 by omega)
  rw [k_X8_rideTo_0, b6, Bool.not_not, hwe]
  cases hb : sv.testBit w with
  | false => rfl
  | true =>
    have hok : fOk I a (plN I w) = true := rc_iff.mp hrc w hwW (sb_tb hsub hb)
    rw [cond_true, cond_true, q1, er]
    by_cases e : rsN sv w = 0
    · have hmn : mnF (wyC I a sv w) (wyG I a sv w) (wy0 I a sv w) 0 (zW I) = fN I a (plN I w) := by
        have h0 : wy0 I a sv w = fN I a (plN I w) := by
          unfold wy0
          rw [decide_eq_true e, hok]
          rfl
        rw [h0]
        refine le_ext fun k => ?_
        rw [mnF_iff]
        refine ⟨fun h => h.elim id fun ⟨u, _, _, u3, _⟩ => ?_, fun h => .inl h⟩
        unfold wyC at u3
        rw [e, Nat.zero_testBit] at u3
        cases u3
      rw [decide_eq_true e, Bool.not_true, cond_false, inb_nI (show w < 6 by omega) (by decide), cond_true, nI_clamp (by omega), pl_105 H h11 hwW, c_wayI H h11 H.ha (H.hP w hwW), Vk_v, k_X8_rideTo_42, hok, cond_true, hmn]
    · have h0 : wy0 I a sv w = 1000000 := by
        unfold wy0
        rw [decide_eq_false e]
        rfl
      rw [decide_eq_false e, Bool.not_false, cond_true, h0]
      exact rt_in H hl h11 hf hrc hsub hwW hb hR (zW I) 0 1000000 (Nat.zero_add _) (Nat.le_refl _)
end RidesC
