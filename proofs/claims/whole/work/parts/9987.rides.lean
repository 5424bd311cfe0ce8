/-! RIDES, 4: the reference's sharing among riders, and its tour. -/
section RidesR
variable {a d n t : Nat} {I J M : FI} {L K N : FL} {P : FR} {E : FE} {c s z : Nat}
def mdF (p : Nat → Bool) (g : Nat → Nat) : Nat → Nat → Nat
  | 0, v => v
  | r + 1, v => mdF p g r (mnS (p r) (g r) v)
theorem mnS_iff {b : Bool} {g v x : Nat} : mnS b g v ≤ x ↔ v ≤ x ∨ (b = true ∧ g ≤ x) := by
  unfold mnS
  cases b with
  | false => exact ⟨fun h => .inl h, fun h => h.elim id fun q => by cases q.1⟩
  | true =>
    rw [Bool.true_and]
    by_cases e : g < v
    · rw [decide_eq_true e, cond_true]
      exact ⟨fun h => .inr ⟨rfl, h⟩, fun h => h.elim (fun q => by omega) fun q => q.2⟩
    · rw [decide_eq_false e, cond_false]
      exact ⟨fun h => .inl h, fun h => h.elim id fun q => by have := q.2; omega⟩
theorem mdF_iff {p : Nat → Bool} {g : Nat → Nat} {x : Nat} : ∀ r v, mdF p g r v ≤ x ↔ v ≤ x ∨ ∃ k, k < r ∧ p k = true ∧ g k ≤ x
  | 0, v => ⟨fun h => .inl h, fun h => h.elim id fun ⟨k, h1, _⟩ => absurd h1 (Nat.not_lt_zero k)⟩
  | r + 1, v => by
    show mdF p g r (mnS (p r) (g r) v) ≤ x ↔ _
    rw [mdF_iff r, mnS_iff]
    constructor
    · rintro ((h | ⟨h1, h2⟩) | ⟨k, h1, h2, h3⟩)
      · exact .inl h
      · exact .inr ⟨r, Nat.lt_succ_self r, h1, h2⟩
      · exact .inr ⟨k, by omega, h2, h3⟩
    · rintro (h | ⟨k, h1, h2, h3⟩)
      · exact .inl (.inl h)
      · by_cases e : k = r
        · subst e; exact .inl (.inr ⟨h2, h3⟩)
        · exact .inr ⟨k, by omega, h2, h3⟩
theorem le_ext {x y : Nat} (h : ∀ k, x ≤ k ↔ y ≤ k) : x = y := Nat.le_antisymm ((h y).mpr (Nat.le_refl y)) ((h x).mp (Nat.le_refl x))
theorem md_mn {p : Nat → Bool} {g : Nat → Nat} (r v : Nat) : mdF p g r v = mnF p g v 0 r := le_ext fun k => by
  rw [mdF_iff, mnF_iff]
  exact ⟨fun h => h.imp id fun ⟨k, h1, h2, h3⟩ => ⟨k, Nat.zero_le _, by omega, h2, h3⟩, fun h => h.imp id fun ⟨k, _, h1, h2, h3⟩ => ⟨k, by omega, h2, h3⟩⟩
/-- part of a set; the rest -/
def sbB (p s : Nat) : Bool := decide (p &&& s = p)
def dfN (s p : Nat) : Nat := s ^^^ (s &&& p)
theorem sub_I : ∀ p, p < 64 → ∀ s, s < 64 → decide (nI p &&& (nI s ^^^ (-1)) = 0) = sbB p s ∧ nI s &&& (nI p ^^^ (-1)) = nI (dfN s p) ∧ dfN s p ≤ s := by decide +kernel
theorem dec64 : ∀ r, r < 65 → nI (r + 1) + (-1) = nI r ∧ decide (nI r < 0) = false := by decide +kernel
theorem df_tb (s p v : Nat) : (dfN s p).testBit v = (s.testBit v && !p.testBit v) := by
  unfold dfN
  rw [Nat.testBit_xor, Nat.testBit_and]
  cases s.testBit v <;> cases p.testBit v <;> rfl
theorem sb_tb {p s v : Nat} (h : sbB p s = true) (hp : p.testBit v = true) : s.testBit v = true := by
  have h1 := of_decide_eq_true h
  rw [← h1, Nat.testBit_and, Bool.and_eq_true] at hp
  exact hp.2
theorem us_le {a sv : Nat} : usN I a sv ≤ 1000000 := by
  unfold usN
  refine Nat.le_trans mnF_le ?_
  cases decide (sv = 0) <;> decide
theorem rc_0 : rcB I a 0 = true := rc_iff.mpr fun w _ h => by rw [Nat.zero_testBit] at h; cases h
theorem us_0 : usN I a 0 = 0 := Nat.le_antisymm (by unfold usN; exact mnF_le) (Nat.zero_le _)
theorem us_rc (H : WyH I a) {sv : Nat} (hs : sv < 2 ^ zW I) : (rcB I a sv = true → usN I a sv ≤ 4032) ∧ (rcB I a sv = false → usN I a sv = 1000000) := by
  have h6 := H.h6
  have h64 := H.lt hs
  constructor
  · intro hr
    by_cases e : sv = 0
    · subst e; rw [us_0]; decide
    · obtain ⟨u, u1, u2⟩ := set_0 _ h64 e
      have hu : u < zW I := set_W _ h6 _ hs u u1 u2
      have := (wy_rc h6 H.hf H.hP H.ha (sv + 1) sv u (Nat.lt_succ_self _) hs hu u2).1 hr
      exact (mnF_iff _ _ _).mpr (.inr ⟨u, Nat.zero_le _, by omega, u2, by omega⟩)
  · intro hr
    have e : sv ≠ 0 := fun e => by rw [e, rc_0] at hr; cases hr
    have hno : ¬ usN I a sv ≤ 999999 := by
      unfold usN
      rw [mnF_iff, decide_eq_false e, cond_false]
      rintro (q | ⟨u, _, u1, u2, u3⟩)
      · exact absurd q (by decide)
      · rw [(wy_rc h6 H.hf H.hP H.ha (sv + 1) sv u (Nat.lt_succ_self _) hs (by omega) u2).2 hr] at u3
        exact absurd u3 (by decide)
    have := us_le (I := I) (a := a) (sv := sv)
    omega
/-- so many riders, by the reference -/
def rdN (I : FI) (a : Nat) : Nat → Nat → Nat
  | 0, s => usN I a s
  | k + 1, s => bif decide (s = 0) then usN I a s else mdF (fun p => sbB p s && (!decide (usN I a p = 1000000) && !decide (rdN I a k (dfN s p) = 1000000))) (fun p => bif decide (rdN I a k (dfN s p) ≤ usN I a p) then usN I a p else rdN I a k (dfN s p)) (s + 1) 1000000
theorem mdF_le {p : Nat → Bool} {g : Nat → Nat} {r v : Nat} : mdF p g r v ≤ v := (mdF_iff r v).mpr (.inl (Nat.le_refl v))
theorem rd_le : ∀ k s, rdN I a k s ≤ 1000000
  | 0, s => us_le
  | k + 1, s => by
    show (bif decide (s = 0) then usN I a s else mdF _ _ (s + 1) 1000000) ≤ 1000000
    cases decide (s = 0) with
    | true => exact us_le
    | false => exact mdF_le
theorem df_W {W s p : Nat} (hs : s < 2 ^ W) : dfN s p < 2 ^ W := Nat.xor_lt_two_pow hs (Nat.lt_of_le_of_lt Nat.and_le_left hs)
theorem rd_rc (H : WyH I a) : ∀ k sv, sv < 2 ^ zW I → (rcB I a sv = false → rdN I a k sv = 1000000) ∧ (rcB I a sv = true → rdN I a k sv ≤ 4032)
  | 0, sv, hs => ⟨(us_rc H hs).2, (us_rc H hs).1⟩
  | k + 1, sv, hs => by
    have hS : rdN I a (k + 1) sv = bif decide (sv = 0) then usN I a sv else mdF (fun p => sbB p sv && (!decide (usN I a p = 1000000) && !decide (rdN I a k (dfN sv p) = 1000000))) (fun p => bif decide (rdN I a k (dfN sv p) ≤ usN I a p) then usN I a p else rdN I a k (dfN sv p)) (sv + 1) 1000000 := rfl
    rw [hS]
    by_cases e : sv = 0
    · subst e
      rw [decide_eq_true (rfl : (0 : Nat) = 0), cond_true, us_0, rc_0]
      exact ⟨fun h => (by cases h), fun _ => (by decide)⟩
    · rw [decide_eq_false e, cond_false]
      constructor
      · intro hr
        refine Nat.le_antisymm mdF_le ?_
        refine Nat.le_of_not_lt fun q => ?_
        have q2 := (mdF_iff (sv + 1) 1000000).mp (Nat.le_pred_of_lt q)
        rcases q2 with q2 | ⟨p, p1, p2, p3⟩
        · exact absurd q2 (by decide)
        · rw [Bool.and_eq_true, Bool.and_eq_true, Bool.not_eq_true', Bool.not_eq_true', decide_eq_false_iff_not, decide_eq_false_iff_not] at p2
          obtain ⟨g1, g2, g3⟩ := p2
          have r1 : rcB I a p = true := by
            cases hq : rcB I a p with
            | true => rfl
            | false => exact absurd ((us_rc H (show p < 2 ^ zW I by omega)).2 hq) g2
          have r2 : rcB I a (dfN sv p) = true := by
            cases hq : rcB I a (dfN sv p) with
            | true => rfl
            | false => exact absurd ((rd_rc H k _ (df_W hs)).1 hq) g3
          have : rcB I a sv = true := rc_iff.mpr fun v hv hvs => by
            cases hp : p.testBit v with
            | true => exact rc_iff.mp r1 v hv hp
            | false => exact rc_iff.mp r2 v hv (by rw [df_tb, hvs, hp]; rfl)
          rw [hr] at this
          cases this
      · intro hr
        have hU := (us_rc H hs).1 hr
        have h0 : dfN sv sv = 0 := by
          unfold dfN
          rw [Nat.and_self, Nat.xor_self]
        have hz := (rd_rc H k 0 (Nat.two_pow_pos _)).2 rc_0
        refine (mdF_iff (sv + 1) 1000000).mpr (.inr ⟨sv, Nat.lt_succ_self _, ?_, ?_⟩)
        · rw [h0, show sbB sv sv = true from decide_eq_true (Nat.and_self sv), decide_eq_false (show ¬ usN I a sv = 1000000 by omega), decide_eq_false (show ¬ rdN I a k 0 = 1000000 by omega)]
          rfl
        · show (bif decide (rdN I a k (dfN sv sv) ≤ usN I a sv) then usN I a sv else rdN I a k (dfN sv sv)) ≤ 4032
          rw [h0]
          cases decide (rdN I a k 0 ≤ usN I a sv) with
          | true => exact hU
          | false => exact hz
/-- the reference's sets told -/
def Lad (I M : FI) (a : Nat) : Prop := T10 I M ∧ (∀ s' w', s' < 2 ^ zW I → w' < zW I → M 416 (s' + 1) w' = mI (wyN I a s' w')) ∧ ∀ s', s' < 2 ^ zW I → M 481 0 s' = mI (usN I a s')
theorem rd_small (H : WyH I a) {k sv : Nat} (hs : sv < 2 ^ zW I) (h : rdN I a k sv ≠ 1000000) : rdN I a k sv ≤ 4032 := by
  cases hr : rcB I a sv with
  | true => exact (rd_rc H k sv hs).2 hr
  | false => exact absurd ((rd_rc H k sv hs).1 hr) h
theorem us_small (H : WyH I a) {sv : Nat} (hs : sv < 2 ^ zW I) (h : usN I a sv ≠ 1000000) : usN I a sv ≤ 4032 := rd_small (k := 0) H hs h
theorem rd_in (H : WyH I a) (hM : Lad I M a) {k sv : Nat} (hs : sv < 2 ^ zW I) (IH : ∀ s', s' < 2 ^ zW I → V PR d 301 0 [(0, vR (some (186, 0))), (1, vi (nI s')), (2, vi (nI (k + 1)))] [] (mm n M L P E c z) = some (.inl (some (vi (mI (rdN I a k s')))), mm n M L P E c z)) : ∀ r v, r ≤ sv + 1 → v ≤ 1000000 → (v ≠ 1000000 → v ≤ 4032) → V PR (d + 1) 301 21 [(0, vR (some (186, 0))), (1, vi (nI sv)), (2, vi (nI (k + 2))), (3, vi (mI v)), (4, vi (nI r + (-1)))] [] (mm n M L P E c z) = some (.inl (some (vi (mI (mdF (fun p => sbB p sv && (!decide (usN I a p = 1000000) && !decide (rdN I a k (dfN sv p) = 1000000))) (fun p => bif decide (rdN I a k (dfN sv p) ≤ usN I a p) then usN I a p else rdN I a k (dfN sv p)) r v)))), mm n M L P E c z)
  | 0, v, hr, hv, hv2 => by
    rw [k_X12_rides_21, show decide (nI 0 + (-1) < 0) = true by decide +kernel, cond_true]
    rfl
  | r + 1, v, hr, hv, hv2 => by
    have h64 := H.lt hs
    have hr64 : r < 64 := by omega
    obtain ⟨g1, g2⟩ := dec64 r (by omega)
    obtain ⟨s1, s2, s3⟩ := sub_I r hr64 sv h64
    have ih := rd_in H hM hs IH r
    have hS : ∀ p g, mdF p g (r + 1) v = mdF p g r (mnS (p r) (g r) v) := fun _ _ => rfl
    have hu := hM.2.2 r (by omega)
    have hq := IH (dfN sv r) (df_W hs)
    have e2 : nI (k + 2) - 1 = nI (k + 1) := by
      rw [show nI (k + 2) = nI (k + 1) + 1 from (nI_1 _).symm, Int32.add_sub_cancel]
    rw [hS, k_X12_rides_21, g1, g2, cond_false, s1]
    cases hb : sbB r sv with
    | false => exact ih v (by omega) hv hv2
    | true =>
      rw [Bool.not_true, cond_false, inb_nI hr64 (by decide), cond_true, nI_clamp (by omega), hu, mI_m1 us_le]
      cases h1 : decide (usN I a r = 1000000) with
      | true => exact ih v (by omega) hv hv2
      | false =>
        have hu1 := of_decide_eq_false h1
        have hu2 := us_small H (show r < 2 ^ zW I by omega) hu1
        rw [Bool.not_false, cond_true, s2, e2, hq, Vk_v, k_X12_rides_62, mI_m1 (rd_le _ _)]
        cases h2 : decide (rdN I a k (dfN sv r) = 1000000) with
        | true => exact ih v (by omega) hv hv2
        | false =>
          have hq1 := of_decide_eq_false h2
          have hq2 := rd_small H (df_W hs) hq1
          have e3 : decide (mI (rdN I a k (dfN sv r)) ≤ mI (usN I a r)) = decide (rdN I a k (dfN sv r) ≤ usN I a r) := by rw [mI_ne hq1, mI_ne hu1, nI_led (by omega) (by omega)]
          have fin : ∀ g, g ≤ 4032 → (bif decide (mI v = -1) then V PR (d + 1) 301 21 [(0, vR (some (186, 0))), (1, vi (nI sv)), (2, vi (nI (k + 2))), (3, vi (mI g)), (4, vi (nI r + (-1)))] [] (mm n M L P E c z) else bif decide (mI v ≤ mI g) then V PR (d + 1) 301 21 [(0, vR (some (186, 0))), (1, vi (nI sv)), (2, vi (nI (k + 2))), (3, vi (mI v)), (4, vi (nI r + (-1)))] [] (mm n M L P E c z) else V PR (d + 1) 301 21 [(0, vR (some (186, 0))), (1, vi (nI sv)), (2, vi (nI (k + 2))), (3, vi (mI g)), (4, vi (nI r + (-1)))] [] (mm n M L P E c z)) = V PR (d + 1) 301 21 [(0, vR (some (186, 0))), (1, vi (nI sv)), (2, vi (nI (k + 2))), (3, vi (mI (mnS true g v))), (4, vi (nI r + (-1)))] [] (mm n M L P E c z) := fun g hg => by
            unfold mnS
            rw [Bool.true_and, mI_m1 hv]
            by_cases e : v = 1000000
            · rw [decide_eq_true e, cond_true, decide_eq_true (by omega), cond_true]
            · have := hv2 e
              rw [decide_eq_false e, cond_false, mI_ne e, mI_ne (show g ≠ 1000000 by omega), nI_led (by omega) (by omega)]
              by_cases e4 : v ≤ g
              · rw [decide_eq_true e4, cond_true, decide_eq_false (by omega), cond_false, mI_ne e]
              · rw [decide_eq_false e4, cond_false, decide_eq_true (by omega), cond_true, mI_ne (show g ≠ 1000000 by omega)]
          have fin2 : ∀ g, g ≤ 4032 → mnS true g v ≤ 1000000 ∧ (mnS true g v ≠ 1000000 → mnS true g v ≤ 4032) := fun g hg => by
            unfold mnS
            rw [Bool.true_and]
            by_cases e : g < v
            · rw [decide_eq_true e, cond_true]; exact ⟨by omega, fun _ => hg⟩
            · rw [decide_eq_false e, cond_false]; exact ⟨hv, hv2⟩
          rw [Bool.not_false, cond_true, inb_nI hr64 (by decide), cond_true, nI_clamp (by omega), hu, e3]
          show _ = some (Sum.inl (some (vi (mI (mdF _ _ r (mnS true (bif decide (rdN I a k (dfN sv r) ≤ usN I a r) then usN I a r else rdN I a k (dfN sv r)) v))))), mm n M L P E c z)
          cases h5 : decide (rdN I a k (dfN sv r) ≤ usN I a r) with
          | true =>
            rw [cond_true, cond_true, cond_true]
            obtain ⟨f1, f2⟩ := fin2 _ hu2
            exact (fin _ hu2).trans (ih _ (by omega) f1 f2)
          | false =>
            rw [cond_false, cond_false]
            obtain ⟨f1, f2⟩ := fin2 _ hq2
            exact (fin _ hq2).trans (ih _ (by omega) f1 f2)
theorem rd_R (H : WyH I a) (hM : Lad I M a) : ∀ k sv, sv < 2 ^ zW I → k < 3 → V PR (d + k + 1) 301 0 [(0, vR (some (186, 0))), (1, vi (nI sv)), (2, vi (nI (k + 1)))] [] (mm n M L P E c z) = some (.inl (some (vi (mI (rdN I a k sv)))), mm n M L P E c z)
  | 0, sv, hs, hk => by
    have h64 := H.lt hs
    rw [k_X12_rides_0, show decide (nI (0 + 1) = (1 : Int32)) = true by decide +kernel, cond_true, inb_nI h64 (by decide), cond_true, nI_clamp (by omega), hM.2.2 sv hs]
    rfl
  | k + 1, sv, hs, hk => by
    have h64 := H.lt hs
    have IH := fun s' hs' => rd_R H hM k s' hs' (by omega)
    have e1 : decide (nI (k + 1 + 1) = (1 : Int32)) = false := decide_eq_false fun q => absurd ((nI_eq (b := 1) (by omega) (by decide)).mp q) (by omega)
    have e0 : decide (nI sv = 0) = decide (sv = 0) := by rw [decide_eq_decide]; exact nI_eq (b := 0) (by omega) (by decide)
    have A := rd_in (d := d + k + 1) (n := n) (L := L) (P := P) (E := E) (c := c) (z := z) H hM hs IH (sv + 1) 1000000 (Nat.le_refl _) (Nat.le_refl _) (fun h => absurd rfl h)
    rw [(dec64 sv (by omega)).1, mI_M] at A
    rw [k_X12_rides_0, e1, cond_false, e0, inb_nI h64 (by decide), cond_true, nI_clamp (by omega), hM.2.2 sv hs]
    show _ = some (Sum.inl (some (vi (mI (bif decide (sv = 0) then usN I a sv else mdF _ _ (sv + 1) 1000000)))), mm n M L P E c z)
    cases decide (sv = 0) with
    | true => rfl
    | false => exact A
/-- the tour: and home again -/
def tuN (I : FI) (a s : Nat) : Nat := mnF (fun w => s.testBit w && (!decide (wyN I a s w = 1000000) && fOk I (plN I w) a)) (fun w => wyN I a s w + fN I (plN I w) a) (bif decide (s = 0) then 0 else 1000000) 0 (zW I)
theorem tu_R (H : WyH I a) (hM : Lad I M a) {sv : Nat} (hs : sv < 2 ^ zW I) : ∀ r w v, w + r = zW I → v ≤ 1000000 → V PR d 318 79 [(0, vR (some (186, 0))), (1, vi (nI a)), (2, vi (nI sv)), (3, vi (mI v)), (4, vi (nI w))] [] (mm n M L P E c z) = some (.inl (some (vi (mI (mnF (fun w => sv.testBit w && (!decide (wyN I a sv w = 1000000) && fOk I (plN I w) a)) (fun w => wyN I a sv w + fN I (plN I w) a) v w r)))), mm n M L P E c z)
  | 0, w, v, h, hv => by
    have h6 := H.h6
    have e9 : M 190 0 2 = nI (zW I) := (hM.1 190 0 2 (by decide) (by decide)).trans H.hT.2.2.1.1
    rw [k_X12_tour_79, e9, nI_led (by omega) (by omega), decide_eq_true (by omega), cond_true]
    rfl
  | r + 1, w, v, h, hv => by
    have h6 := H.h6
    have h8 := H.h8
    have ha := H.ha
    have h64 := H.lt hs
    have hwW : w < zW I := by omega
    have e9 : M 190 0 2 = nI (zW I) := (hM.1 190 0 2 (by decide) (by decide)).trans H.hT.2.2.1.1
    obtain ⟨q1, q2, -⟩ := pl_I H.hT H.hw hwW
    have Q1 : M 198 (w + 1) 0 = nI (plN I w) := (hM.1 198 _ _ (by decide) (by decide)).trans q1
    have F1 : M 220 (plN I w + 1) a = (bif fOk I (plN I w) a then nI (fN I (plN I w) a) else -1) := (hM.1 220 _ _ (by decide) (by decide)).trans (far_I H.hf q2 ha).1
    have F2 := (far_I H.hf q2 ha).2
    have R1 := hM.2.1 sv w hs hwW
    have hwy := H.le hs hwW
    obtain ⟨-, b6, -⟩ := bit6 sv h64 w (by omega)
    have c1 : (nI a).toNatClampNeg = a := nI_clamp (by omega)
    have c2 : (nI w).toNatClampNeg = w := nI_clamp (by omega)
    have c3 : (nI sv).toNatClampNeg = sv := nI_clamp (by omega)
    have c6 : (nI (plN I w)).toNatClampNeg = plN I w := nI_clamp (by omega)
    have i1 : inb (nI a) 8 = true := inb_nI (by omega) (by decide)
    have i2 : inb (nI w) 6 = true := inb_nI (by omega) (by decide)
    have i3 : inb (nI sv) 64 = true := inb_nI h64 (by decide)
    have i6 : inb (nI (plN I w)) 8 = true := inb_nI (by omega) (by decide)
    have i0 : inb (0 : Int32) 6 = true := by decide +kernel
    have k2 : Nat.blt w 6 = true := blt_t (by omega)
    have k3 : Nat.blt (plN I w) 8 = true := blt_t (by omega)
    have k5 : Nat.blt sv 64 = true := blt_t h64
    have base : decide (M 190 0 2 ≤ nI w) = false := by rw [e9, nI_led (by omega) (by omega), decide_eq_false (by omega)]
    have hS : ∀ p g, mnF p g v w (r + 1) = mnF p g (mnS (p w) (g w) v) (w + 1) r := fun _ _ => rfl
    have ih := tu_R H hM hs r (w + 1)
    rw [hS, k_X12_tour_79]
    simp only [base, cond_false, cond_true, aro_198, aro_220, aro_416, c1, c2, c3, c6, i0, i1, i2, i3, i6, k2, k3, k5, tn_0, Q1, Bool.and_self, b6, nI_1, R1, mI_m1 hwy, F1, mI_m1 hv]
    cases hb : sv.testBit w with
    | false => exact ih v (by omega) hv
    | true =>
      rw [Bool.not_true, cond_false, Bool.true_and]
      cases hn : decide (wyN I a sv w = 1000000) with
      | true => exact ih v (by omega) hv
      | false =>
        have hn2 := of_decide_eq_false hn
        have hn3 := H.sm hs hwW hn2
        rw [cond_false, Bool.not_false, Bool.true_and]
        cases hk : fOk I (plN I w) a with
        | false => exact ih v (by omega) hv
        | true =>
          have hG : mI (wyN I a sv w) + nI (fN I (plN I w) a) = nI (wyN I a sv w + fN I (plN I w) a) := by rw [mI_ne hn2, nI_add]
          have hG2 : mI (wyN I a sv w + fN I (plN I w) a) = nI (wyN I a sv w + fN I (plN I w) a) := mI_ne (by omega)
          have fin := ih (mnS true (wyN I a sv w + fN I (plN I w) a) v) (by omega) (Nat.le_trans (mnS_le _ _ _) hv)
          rw [cond_true, decide_eq_false (m1_ne (show fN I (plN I w) a < 2 ^ 31 by omega)), Bool.not_false, cond_true, hG]
          rw [show mnS true (wyN I a sv w + fN I (plN I w) a) v = bif decide (wyN I a sv w + fN I (plN I w) a < v) then wyN I a sv w + fN I (plN I w) a else v from rfl] at fin ⊢
          cases hvm : decide (v = 1000000) with
          | true =>
            have := of_decide_eq_true hvm
            rw [decide_eq_true (show wyN I a sv w + fN I (plN I w) a < v by omega), cond_true] at fin ⊢
            rw [cond_true, ← hG2]
            exact fin
          | false =>
            have hv3 := of_decide_eq_false hvm
            rw [cond_false]
            by_cases hle2 : v ≤ wyN I a sv w + fN I (plN I w) a
            · rw [decide_eq_false (show ¬ wyN I a sv w + fN I (plN I w) a < v by omega), cond_false] at fin ⊢
              rw [show decide (mI v ≤ nI (wyN I a sv w + fN I (plN I w) a)) = true by rw [mI_ne hv3, nI_led (by omega) (by omega), decide_eq_true hle2], cond_true]
              exact fin
            · rw [decide_eq_true (show wyN I a sv w + fN I (plN I w) a < v by omega), cond_true] at fin ⊢
              rw [show decide (mI v ≤ nI (wyN I a sv w + fN I (plN I w) a)) = false by rw [mI_ne hv3, nI_led (by omega) (by omega), decide_eq_false hle2], cond_false, ← hG2]
              exact fin
end RidesR
