/-! RIDES, 1: the shortest ways through sets of wells; the reference's table. -/
section Ways
variable {d n t : Nat} {I J M : FI} {L K N : FL} {P : FR} {E : FE} {c s z : Nat}
/-- the least of several -/
def mnF (p : Nat → Bool) (g : Nat → Nat) : Nat → Nat → Nat → Nat
  | v, _, 0 => v
  | v, w, r + 1 => mnF p g (bif p w && decide (g w < v) then g w else v) (w + 1) r
theorem mnF_iff {p : Nat → Bool} {g : Nat → Nat} {x : Nat} : ∀ r w v, mnF p g v w r ≤ x ↔ v ≤ x ∨ ∃ k, w ≤ k ∧ k < w + r ∧ p k = true ∧ g k ≤ x
  | 0, w, v => ⟨fun h => .inl h, fun h => h.elim id fun ⟨k, h1, h2, _⟩ => absurd h2 (by omega)⟩
  | r + 1, w, v => by
    show mnF p g (bif p w && decide (g w < v) then g w else v) (w + 1) r ≤ x ↔ _
    rw [mnF_iff r (w + 1)]
    constructor
    · rintro (h | ⟨k, h1, h2, h3, h4⟩)
      · cases hq : p w && decide (g w < v) with
        | true =>
          rw [hq] at h
          rw [Bool.and_eq_true] at hq
          exact .inr ⟨w, Nat.le_refl _, by omega, hq.1, h⟩
        | false => rw [hq] at h; exact .inl h
      · exact .inr ⟨k, by omega, by omega, h3, h4⟩
    · rintro (h | ⟨k, h1, h2, h3, h4⟩)
      · left
        cases hq : p w && decide (g w < v) with
        | true =>
          rw [Bool.and_eq_true] at hq
          have := of_decide_eq_true hq.2
          show g w ≤ x
          omega
        | false => exact h
      · by_cases e : k = w
        · subst e
          left
          rw [h3, Bool.true_and]
          cases hq : decide (g k < v) with
          | true => exact h4
          | false =>
            have := of_decide_eq_false hq
            show v ≤ x
            omega
        · exact .inr ⟨k, by omega, by omega, h3, h4⟩
theorem mnF_le {p : Nat → Bool} {g : Nat → Nat} {r w v : Nat} : mnF p g v w r ≤ v := (mnF_iff r w v).mpr (.inl (Nat.le_refl _))
theorem mnF_congr {p q : Nat → Bool} {g h : Nat → Nat} : ∀ r w v, (∀ k, w ≤ k → k < w + r → p k = q k ∧ (p k = true → g k = h k)) → mnF p g v w r = mnF q h v w r
  | 0, w, v, _ => rfl
  | r + 1, w, v, H => by
    obtain ⟨e1, e2⟩ := H w (Nat.le_refl _) (by omega)
    have e3 : (bif p w && decide (g w < v) then g w else v) = bif q w && decide (h w < v) then h w else v := by
      rw [← e1]
      cases hp : p w with
      | true => rw [e2 hp]
      | false => rfl
    show mnF p g (bif p w && decide (g w < v) then g w else v) (w + 1) r = mnF q h (bif q w && decide (h w < v) then h w else v) (w + 1) r
    rw [e3]
    exact mnF_congr r (w + 1) _ fun k h1 h2 => H k (by omega) (by omega)
/-- none is worth more than all -/
def mI (v : Nat) : Int32 := bif decide (v = 1000000) then (-1) else nI v
theorem mI_M : mI 1000000 = -1 := rfl
theorem mI_ne {v : Nat} (h : v ≠ 1000000) : mI v = nI v := by
  unfold mI
  rw [decide_eq_false h, cond_false]
theorem mI_m1 {v : Nat} (h : v ≤ 1000000) : decide (mI v = -1) = decide (v = 1000000) := by
  by_cases e : v = 1000000
  · subst e; rw [decide_eq_true (rfl : (1000000 : Nat) = 1000000)]; exact decide_eq_true mI_M
  · rw [mI_ne e, decide_eq_false e]; exact decide_eq_false (m1_ne (by omega))
/-- a set without one -/
def rsN (s w : Nat) : Nat := bif s.testBit w then s - 2 ^ w else s
theorem rs_I : ∀ s, s < 64 → ∀ w, w < 6 → nI s &&& (((1 : Int32) <<< (nI w &&& 31)) ^^^ (-1)) = nI (rsN s w) ∧ rsN s w ≤ s ∧ (s.testBit w = true → rsN s w < s) ∧ ∀ v, v < 6 → (rsN s w).testBit v = (s.testBit v && !decide (v = w)) := by decide +kernel
theorem set_0 : ∀ s, s < 64 → s ≠ 0 → ∃ v, v < 6 ∧ s.testBit v = true := by decide +kernel
theorem set_W : ∀ W, W ≤ 6 → ∀ s, s < 2 ^ W → ∀ v, v < 6 → s.testBit v = true → v < W := by decide +kernel
theorem rs_W : ∀ W, W ≤ 6 → ∀ s, s < 2 ^ W → ∀ w, w < 6 → rsN s w < 2 ^ W := fun W hW s hs w hw => Nat.lt_of_le_of_lt (rs_I s (Nat.lt_of_lt_of_le hs (Nat.pow_le_pow_right (n := 2) (by decide) hW)) w hw).2.1 hs
/-- where a well lies; how far, if at all -/
def plN (I : FI) (w : Nat) : Nat := (I 198 (w + 1) 0).toNatClampNeg
def fOk (I : FI) (a b : Nat) : Bool := !decide (I 220 (a + 1) b = -1)
def fN (I : FI) (a b : Nat) : Nat := (I 220 (a + 1) b).toNatClampNeg
theorem pl_I (hT : RTold I) (hw : RWell I) {w : Nat} (h : w < zW I) : I 198 (w + 1) 0 = nI (plN I w) ∧ plN I w < zP I ∧ I 105 0 w = nI (plN I w) := by
  obtain ⟨⟨e1, -⟩, ⟨p, h1, h2⟩, -⟩ := hw w h
  have e : plN I w = p := by unfold plN; rw [h1, nI_clamp (by have := hT.2.1.2; omega)]
  rw [e]
  exact ⟨h1, h2, e1.trans h1⟩
theorem far_I (hf : RFar I) {a b : Nat} (ha : a < zP I) (hb : b < zP I) : I 220 (a + 1) b = (bif fOk I a b then nI (fN I a b) else -1) ∧ fN I a b ≤ 63 := by
  obtain ⟨-, h1, -⟩ := hf.1 a b ha hb
  unfold fOk fN
  rcases h1 with e | ⟨h, e, h2⟩
  · rw [e]
    exact ⟨rfl, by decide⟩
  · rw [e, decide_eq_false (m1_ne (by omega)), nI_clamp (by omega)]
    exact ⟨rfl, h2⟩
theorem far_m (hf : RFar I) {a b : Nat} (ha : a < zP I) (hb : b < zP I) : I 220 (a + 1) b = mI (bif fOk I a b then fN I a b else 1000000) := by
  obtain ⟨h1, h2⟩ := far_I hf ha hb
  rw [h1]
  cases fOk I a b with
  | true => exact (mI_ne (by omega)).symm
  | false => rfl
def wyT (I : FI) (a : Nat) : Nat → Nat → Nat → Nat
  | 0, _, _ => 1000000
  | k + 1, s, w => bif s.testBit w then mnF (fun u => (rsN s w).testBit u && (!decide (wyT I a k (rsN s w) u = 1000000) && fOk I (plN I u) (plN I w))) (fun u => wyT I a k (rsN s w) u + fN I (plN I u) (plN I w)) (bif decide (rsN s w = 0) && fOk I a (plN I w) then fN I a (plN I w) else 1000000) 0 (zW I) else 1000000
theorem wyT_k {a : Nat} (h6 : zW I ≤ 6) : ∀ k s w, s < k → s < 64 → w < 6 → wyT I a k s w = wyT I a (k + 1) s w
  | 0, s, w, h, _, _ => absurd h (Nat.not_lt_zero s)
  | k + 1, s, w, h, hs, hw => by
    show (bif s.testBit w then mnF (fun u => (rsN s w).testBit u && (!decide (wyT I a k (rsN s w) u = 1000000) && fOk I (plN I u) (plN I w))) (fun u => wyT I a k (rsN s w) u + fN I (plN I u) (plN I w)) (bif decide (rsN s w = 0) && fOk I a (plN I w) then fN I a (plN I w) else 1000000) 0 (zW I) else 1000000) = bif s.testBit w then mnF (fun u => (rsN s w).testBit u && (!decide (wyT I a (k + 1) (rsN s w) u = 1000000) && fOk I (plN I u) (plN I w))) (fun u => wyT I a (k + 1) (rsN s w) u + fN I (plN I u) (plN I w)) (bif decide (rsN s w = 0) && fOk I a (plN I w) then fN I a (plN I w) else 1000000) 0 (zW I) else 1000000
    cases hb : s.testBit w with
    | false => rfl
    | true =>
      obtain ⟨-, -, h3, -⟩ := rs_I s hs w hw
      have h4 := h3 hb
      rw [cond_true, cond_true]
      refine mnF_congr _ _ _ fun u _ hu => ?_
      have e := wyT_k h6 (a := a) k (rsN s w) u (by omega) (by omega) (by omega)
      exact ⟨by rw [e], fun _ => by rw [e]⟩
/-- the shortest way through all of a set that ends at one of it -/
def wyN (I : FI) (a s w : Nat) : Nat := wyT I a 64 s w
def wyC (I : FI) (a s w u : Nat) : Bool := (rsN s w).testBit u && (!decide (wyN I a (rsN s w) u = 1000000) && fOk I (plN I u) (plN I w))
def wyG (I : FI) (a s w u : Nat) : Nat := wyN I a (rsN s w) u + fN I (plN I u) (plN I w)
def wy0 (I : FI) (a s w : Nat) : Nat := bif decide (rsN s w = 0) && fOk I a (plN I w) then fN I a (plN I w) else 1000000
theorem wy_eq {a s w : Nat} (h6 : zW I ≤ 6) (hs : s < 64) (hw : w < 6) : wyN I a s w = bif s.testBit w then mnF (wyC I a s w) (wyG I a s w) (wy0 I a s w) 0 (zW I) else 1000000 := by
  have e : wyN I a s w = bif s.testBit w then mnF (fun u => (rsN s w).testBit u && (!decide (wyT I a 63 (rsN s w) u = 1000000) && fOk I (plN I u) (plN I w))) (fun u => wyT I a 63 (rsN s w) u + fN I (plN I u) (plN I w)) (bif decide (rsN s w = 0) && fOk I a (plN I w) then fN I a (plN I w) else 1000000) 0 (zW I) else 1000000 := rfl
  rw [e]
  cases hb : s.testBit w with
  | false => rw [cond_false, cond_false]
  | true =>
    obtain ⟨-, -, h3, -⟩ := rs_I s hs w hw
    have h4 := h3 hb
    rw [cond_true, cond_true]
    refine mnF_congr _ _ _ fun u _ hu => ?_
    have e := wyT_k h6 (a := a) 63 (rsN s w) u (by omega) (by omega) (by omega)
    unfold wyC wyG wyN
    exact ⟨by rw [e], fun _ => by rw [e]⟩
theorem wy_le {a s w : Nat} (h6 : zW I ≤ 6) (hf : RFar I) (hP : ∀ w, w < zW I → plN I w < zP I) (ha : a < zP I) (hs : s < 64) (hw : w < zW I) : wyN I a s w ≤ 1000000 := by
  rw [wy_eq h6 hs (by omega)]
  cases s.testBit w with
  | false => exact Nat.le_refl _
  | true =>
    refine Nat.le_trans mnF_le ?_
    unfold wy0
    cases decide (rsN s w = 0) && fOk I a (plN I w) with
    | false => exact Nat.le_refl _
    | true =>
      have := (far_I hf ha (hP w hw)).2
      show fN I a (plN I w) ≤ 1000000
      omega
/-- all of a set can be reached -/
def rcB (I : FI) (a s : Nat) : Bool := alB (fun w => !s.testBit w || fOk I a (plN I w)) 0 (zW I)
theorem rc_iff {a s : Nat} : rcB I a s = true ↔ ∀ w, w < zW I → s.testBit w = true → fOk I a (plN I w) = true := by
  unfold rcB
  rw [alB_iff]
  constructor
  · intro h w hw hs
    have := h w (Nat.zero_le _) (by omega)
    rw [hs] at this
    exact this
  · intro h w _ hw
    cases hs : s.testBit w with
    | false => rfl
    | true => rw [h w (by omega) hs]; rfl
theorem fOk_ne {a b : Nat} : fOk I a b = true ↔ I 220 (a + 1) b ≠ -1 := by
  unfold fOk
  rw [Bool.not_eq_true', decide_eq_false_iff_not]
/-- a way there is, and a short one, just where all can be reached -/
theorem wy_rc {a : Nat} (h6 : zW I ≤ 6) (hf : RFar I) (hP : ∀ w, w < zW I → plN I w < zP I) (ha : a < zP I) : ∀ k s w, s < k → s < 2 ^ zW I → w < zW I → s.testBit w = true → (rcB I a s = true → wyN I a s w ≤ 63 * (s + 1)) ∧ (rcB I a s = false → wyN I a s w = 1000000)
  | 0, s, w, h, _, _, _ => absurd h (Nat.not_lt_zero s)
  | k + 1, s, w, h, hs, hw, hb => by
    have hs64 : s < 64 := Nat.lt_of_lt_of_le hs (Nat.pow_le_pow_right (n := 2) (by decide) h6)
    obtain ⟨-, -, h3, h4⟩ := rs_I s hs64 w (by omega)
    have h5 := h3 hb
    have hrW := rs_W _ h6 s hs w (by omega)
    rw [wy_eq h6 hs64 (by omega), hb, cond_true]
    constructor
    · intro hr
      rw [rc_iff] at hr
      by_cases e : rsN s w = 0
      · refine Nat.le_trans mnF_le ?_
        have := (far_I hf ha (hP w hw)).2
        unfold wy0
        rw [decide_eq_true e, hr w hw hb, Bool.true_and, cond_true]
        omega
      · obtain ⟨u, u1, u2⟩ := set_0 _ (show rsN s w < 64 by omega) e
        have hu : u < zW I := set_W _ h6 _ hrW u u1 u2
        have hus : s.testBit u = true := by
          have := h4 u u1
          rw [u2] at this
          cases hq : s.testBit u with
          | true => rfl
          | false => rw [hq] at this; cases this
        have hr2 : rcB I a (rsN s w) = true := rc_iff.mpr fun v hv hvs => by
          have := h4 v (by omega)
          rw [hvs] at this
          refine hr v hv ?_
          cases hq : s.testBit v with
          | true => rfl
          | false => rw [hq] at this; cases this
        have ih := (wy_rc h6 hf hP ha k (rsN s w) u (by omega) hrW hu u2).1 hr2
        have hfu := (far_I hf (hP u hu) (hP w hw)).2
        have hok : fOk I (plN I u) (plN I w) = true := by
          have h1 := fOk_ne.mp (hr u hu hus)
          have h2 := fOk_ne.mp (hr w hw hb)
          refine fOk_ne.mpr (hf.2.2 _ a _ (hP u hu) ha (hP w hw) ?_ h2)
          rw [← (hf.1 a _ ha (hP u hu)).2.2]
          exact h1
        refine (mnF_iff _ _ _).mpr (.inr ⟨u, Nat.zero_le _, by omega, ?_, ?_⟩)
        · unfold wyC
          rw [u2, hok, decide_eq_false (by omega)]
          rfl
        · unfold wyG
          omega
    · intro hr
      have hno : ¬ mnF (wyC I a s w) (wyG I a s w) (wy0 I a s w) 0 (zW I) ≤ 999999 := by
        rw [mnF_iff]
        rintro (q | ⟨u, _, u1, u2, _⟩)
        · unfold wy0 at q
          cases hq : decide (rsN s w = 0) && fOk I a (plN I w) with
          | false => rw [hq] at q; exact absurd (show (1000000 : Nat) ≤ 999999 from q) (by decide)
          | true =>
            rw [Bool.and_eq_true] at hq
            have e := of_decide_eq_true hq.1
            have : rcB I a s = true := rc_iff.mpr fun v hv hvs => by
              have h7 := h4 v (by omega)
              rw [e, Nat.zero_testBit, hvs, Bool.true_and] at h7
              by_cases ev : v = w
              · subst ev; exact hq.2
              · rw [decide_eq_false ev] at h7; cases h7
            rw [hr] at this
            cases this
        · have hu : u < zW I := by omega
          unfold wyC at u2
          rw [Bool.and_eq_true, Bool.and_eq_true, Bool.not_eq_true', decide_eq_false_iff_not] at u2
          obtain ⟨g1, g2, g3⟩ := u2
          cases hr2 : rcB I a (rsN s w) with
          | false => exact g2 ((wy_rc h6 hf hP ha k (rsN s w) u (by omega) hrW hu g1).2 hr2)
          | true =>
            rw [rc_iff] at hr2
            have : rcB I a s = true := rc_iff.mpr fun v hv hvs => by
              by_cases ev : v = w
              · subst ev
                exact fOk_ne.mpr (hf.2.2 a _ _ ha (hP u hu) (hP v hv) (fOk_ne.mp (hr2 u hu g1)) (fOk_ne.mp g3))
              · refine hr2 v hv ?_
                rw [h4 v (by omega), hvs, decide_eq_false ev]
                rfl
            rw [hr] at this
            cases this
      have hle : mnF (wyC I a s w) (wyG I a s w) (wy0 I a s w) 0 (zW I) ≤ 1000000 := by
        refine Nat.le_trans mnF_le ?_
        unfold wy0
        cases decide (rsN s w = 0) && fOk I a (plN I w) with
        | false => exact Nat.le_refl _
        | true =>
          have := (far_I hf ha (hP w hw)).2
          show fN I a (plN I w) ≤ 1000000
          omega
      omega
end Ways
