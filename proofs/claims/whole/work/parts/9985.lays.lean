/-! RIDES, 2: the reference's table. -/
section Lays
variable {d n t : Nat} {I J M : FI} {L K N : FL} {P : FR} {E : FE} {c s z : Nat}
theorem up3_o {α : Type} {f : Nat → Nat → Nat → α} {a r k : Nat} {x : α} {b t j : Nat} (h : ¬ (b = a ∧ t = r ∧ j = k)) : up3 f a r k x b t j = f b t j := by
  by_cases e1 : b = a
  · by_cases e2 : t = r
    · exact up3_k (fun e3 => h ⟨e1, e2, e3⟩)
    · exact up3_r e2
  · exact up3_a e1
def T10 (I J : FI) : Prop := ∀ a r j, a ≠ 416 → a ≠ 481 → J a r j = I a r j
theorem T10.u1 (h : T10 I J) {r k : Nat} {x : Int32} : T10 I (up3 J 416 r k x) := fun a q j h1 h2 => (up3_a h1).trans (h a q j h1 h2)
theorem T10.u2 (h : T10 I J) {r k : Nat} {x : Int32} : T10 I (up3 J 481 r k x) := fun a q j h1 h2 => (up3_a h2).trans (h a q j h1 h2)
def mnS (b : Bool) (g v : Nat) : Nat := bif b && decide (g < v) then g else v
theorem mnS_le (b : Bool) (g v : Nat) : mnS b g v ≤ v := by
  unfold mnS
  cases hq : b && decide (g < v) with
  | false => exact Nat.le_refl _
  | true =>
    rw [Bool.and_eq_true] at hq
    exact Nat.le_of_lt (of_decide_eq_true hq.2)
/-- one well before the last tried -/
theorem ly_step (hT : RTold I) (hw : RWell I) (hf : RFar I) {a sv w u v : Nat} {x1 : Int32} (hs : sv < 2 ^ zW I) (hwW : w < zW I) (hu : u < zW I) (h10 : T10 I J) (hrow : ∀ s' w', s' < sv → w' < zW I → J 416 (s' + 1) w' = mI (wyN I a s' w')) (hle : ∀ s' w', s' < sv → w' < zW I → wyN I a s' w' ≠ 1000000 → wyN I a s' w' ≤ 5000) (hb : sv.testBit w = true) (hv : J 416 (sv + 1) w = mI v) (hv2 : v ≤ 1000000) : ∃ J', V PR d 300 101 [(0, vR (some (186, 0))), (1, vi x1), (2, vi (nI sv)), (3, vi (nI w)), (4, vi (nI (rsN sv w))), (5, vi (nI u))] [] (mm n J L P E c z) = V PR d 300 101 [(0, vR (some (186, 0))), (1, vi x1), (2, vi (nI sv)), (3, vi (nI w)), (4, vi (nI (rsN sv w))), (5, vi (nI (u + 1)))] [] (mm n J' L P E c z) ∧ T10 I J' ∧ J' 416 (sv + 1) w = mI (mnS (wyC I a sv w u) (wyG I a sv w u) v) ∧ ∀ b r j, ¬ (b = 416 ∧ r = sv + 1 ∧ j = w) → J' b r j = J b r j := by
  have h6 := hT.2.2.1.2
  have h8 := hT.2.1.2
  have hs64 : sv < 64 := Nat.lt_of_lt_of_le hs (Nat.pow_le_pow_right (n := 2) (by decide) h6)
  obtain ⟨-, -, r3, -⟩ := rs_I sv hs64 w (by omega)
  have hr := r3 hb
  have hr64 : rsN sv w < 64 := by omega
  have e9 : J 190 0 2 = nI (zW I) := (h10 190 0 2 (by decide) (by decide)).trans hT.2.2.1.1
  obtain ⟨p1, p2, -⟩ := pl_I hT hw hu
  obtain ⟨q1, q2, -⟩ := pl_I hT hw hwW
  have P1 : J 198 (u + 1) 0 = nI (plN I u) := (h10 198 _ _ (by decide) (by decide)).trans p1
  have Q1 : J 198 (w + 1) 0 = nI (plN I w) := (h10 198 _ _ (by decide) (by decide)).trans q1
  have F1 : J 220 (plN I u + 1) (plN I w) = (bif fOk I (plN I u) (plN I w) then nI (fN I (plN I u) (plN I w)) else -1) := (h10 220 _ _ (by decide) (by decide)).trans (far_I hf p2 q2).1
  have F2 := (far_I hf p2 q2).2
  have R1 := hrow _ u hr hu
  obtain ⟨-, b6, -⟩ := bit6 (rsN sv w) hr64 u (by omega)
  have c1 : (nI u).toNatClampNeg = u := nI_clamp (by omega)
  have c2 : (nI w).toNatClampNeg = w := nI_clamp (by omega)
  have c3 : (nI sv).toNatClampNeg = sv := nI_clamp (by omega)
  have c4 : (nI (rsN sv w)).toNatClampNeg = rsN sv w := nI_clamp (by omega)
  have c5 : (nI (plN I u)).toNatClampNeg = plN I u := nI_clamp (by omega)
  have c6 : (nI (plN I w)).toNatClampNeg = plN I w := nI_clamp (by omega)
  have i1 : inb (nI u) 6 = true := inb_nI (by omega) (by decide)
  have i2 : inb (nI w) 6 = true := inb_nI (by omega) (by decide)
  have i3 : inb (nI sv) 64 = true := inb_nI hs64 (by decide)
  have i4 : inb (nI (rsN sv w)) 64 = true := inb_nI hr64 (by decide)
  have i5 : inb (nI (plN I u)) 8 = true := inb_nI (by omega) (by decide)
  have i6 : inb (nI (plN I w)) 8 = true := inb_nI (by omega) (by decide)
  have i0 : inb (0 : Int32) 6 = true := by decide +kernel
  have k1 : Nat.blt u 6 = true := blt_t (by omega)
  have k2 : Nat.blt w 6 = true := blt_t (by omega)
  have k3 : Nat.blt (plN I u) 8 = true := blt_t (by omega)
  have k4 : Nat.blt (rsN sv w) 64 = true := blt_t hr64
  have k5 : Nat.blt sv 64 = true := blt_t hs64
  have base : decide (J 190 0 2 ≤ nI u) = false := by rw [e9, nI_led (by omega) (by omega), decide_eq_false (by omega)]
  have keep : ∀ g, wyC I a sv w u = false → ∃ J', V PR d 300 101 [(0, vR (some (186, 0))), (1, vi x1), (2, vi (nI sv)), (3, vi (nI w)), (4, vi (nI (rsN sv w))), (5, vi (nI (u + 1)))] [] (mm n J L P E c z) = V PR d 300 101 [(0, vR (some (186, 0))), (1, vi x1), (2, vi (nI sv)), (3, vi (nI w)), (4, vi (nI (rsN sv w))), (5, vi (nI (u + 1)))] [] (mm n J' L P E c z) ∧ T10 I J' ∧ J' 416 (sv + 1) w = mI (mnS (wyC I a sv w u) g v) ∧ ∀ b r j, ¬ (b = 416 ∧ r = sv + 1 ∧ j = w) → J' b r j = J b r j := fun g hc => ⟨J, rfl, h10, by rw [hc]; exact hv, fun _ _ _ _ => rfl⟩
  have put : ∀ x v', x = mI v' → v' = mnS (wyC I a sv w u) (wyG I a sv w u) v → ∃ J', V PR d 300 101 [(0, vR (some (186, 0))), (1, vi x1), (2, vi (nI sv)), (3, vi (nI w)), (4, vi (nI (rsN sv w))), (5, vi (nI (u + 1)))] [] (mm n (up3 J 416 (sv + 1) w x) L P E c z) = V PR d 300 101 [(0, vR (some (186, 0))), (1, vi x1), (2, vi (nI sv)), (3, vi (nI w)), (4, vi (nI (rsN sv w))), (5, vi (nI (u + 1)))] [] (mm n J' L P E c z) ∧ T10 I J' ∧ J' 416 (sv + 1) w = mI (mnS (wyC I a sv w u) (wyG I a sv w u) v) ∧ ∀ b r j, ¬ (b = 416 ∧ r = sv + 1 ∧ j = w) → J' b r j = J b r j := fun x v' hx hv' => ⟨_, rfl, h10.u1, by rw [up3_i, hx, hv'], fun b r j hn => up3_o hn⟩
  rw [k_X12_laysWays_101]
  simp only [base, cond_false, cond_true, aro_198, aro_220, aro_416, c1, c2, c3, c4, c5, c6, i0, i1, i2, i3, i4, i5, i6, k1, k2, k3, k4, k5, tn_0, P1, Q1, Bool.and_self, b6, nI_1, R1, hv]
  cases hq : (rsN sv w).testBit u with
  | false =>
    rw [Bool.not_false, cond_true]
    exact keep _ (by unfold wyC; rw [hq]; rfl)
  | true =>
    rw [Bool.not_true, cond_false, mI_m1 (by
      by_cases e : wyN I a (rsN sv w) u = 1000000
      · omega
      · have := hle _ u hr hu e; omega)]
    cases hn : decide (wyN I a (rsN sv w) u = 1000000) with
    | true =>
      rw [cond_true]
      exact keep _ (by unfold wyC; rw [hq, hn]; rfl)
    | false =>
      have hn2 := of_decide_eq_false hn
      have hn3 := hle _ u hr hu hn2
      rw [cond_false, F1]
      cases hk : fOk I (plN I u) (plN I w) with
      | false =>
        rw [cond_false, show (!decide ((-1 : Int32) = -1)) = false by decide +kernel, cond_false]
        exact keep _ (by unfold wyC; rw [hq, hn, hk]; rfl)
      | true =>
        have hC : wyC I a sv w u = true := by unfold wyC; rw [hq, hn, hk]; rfl
        have hG : mI (wyN I a (rsN sv w) u) + nI (fN I (plN I u) (plN I w)) = nI (wyG I a sv w u) := by rw [mI_ne hn2, nI_add]; rfl
        have hG2 : wyG I a sv w u ≤ 5063 := by unfold wyG; omega
        rw [cond_true, decide_eq_false (m1_ne (show fN I (plN I u) (plN I w) < 2 ^ 31 by omega)), Bool.not_false, cond_true, hG, mI_m1 hv2]
        cases hvm : decide (v = 1000000) with
        | true =>
          have := of_decide_eq_true hvm
          rw [cond_true]
          refine put _ (wyG I a sv w u) (mI_ne (by omega)).symm ?_
          unfold mnS
          rw [hC, Bool.true_and, decide_eq_true (by omega), cond_true]
        | false =>
          have hv3 := of_decide_eq_false hvm
          rw [cond_false, mI_ne hv3, nI_led (by omega) (by omega)]
          by_cases hle2 : v ≤ wyG I a sv w u
          · rw [decide_eq_true hle2, cond_true]
            refine put _ v (mI_ne hv3).symm ?_
            unfold mnS
            rw [hC, Bool.true_and, decide_eq_false (by omega), cond_false]
          · rw [decide_eq_false hle2, cond_false]
            refine put _ (wyG I a sv w u) (mI_ne (by omega)).symm ?_
            unfold mnS
            rw [hC, Bool.true_and, decide_eq_true (by omega), cond_true]
theorem ly_in (hT : RTold I) (hw : RWell I) (hf : RFar I) {a sv w : Nat} {x1 : Int32} (hs : sv < 2 ^ zW I) (hwW : w < zW I) (hle : ∀ s' w', s' < sv → w' < zW I → wyN I a s' w' ≠ 1000000 → wyN I a s' w' ≤ 5000) (hb : sv.testBit w = true) : ∀ r u v (J : FI), u + r = zW I → T10 I J → (∀ s' w', s' < sv → w' < zW I → J 416 (s' + 1) w' = mI (wyN I a s' w')) → J 416 (sv + 1) w = mI v → v ≤ 1000000 → ∃ J', V PR d 300 101 [(0, vR (some (186, 0))), (1, vi x1), (2, vi (nI sv)), (3, vi (nI w)), (4, vi (nI (rsN sv w))), (5, vi (nI u))] [] (mm n J L P E c z) = V PR d 300 101 [(0, vR (some (186, 0))), (1, vi x1), (2, vi (nI sv)), (3, vi (nI w)), (4, vi (nI (rsN sv w))), (5, vi (nI (zW I)))] [] (mm n J' L P E c z) ∧ T10 I J' ∧ J' 416 (sv + 1) w = mI (mnF (wyC I a sv w) (wyG I a sv w) v u r) ∧ ∀ b r j, ¬ (b = 416 ∧ r = sv + 1 ∧ j = w) → J' b r j = J b r j
  | 0, u, v, J, h, h10, hrow, hv, hv2 => ⟨J, by rw [show u = zW I by omega], h10, hv, fun _ _ _ _ => rfl⟩
  | r + 1, u, v, J, h, h10, hrow, hv, hv2 => by
    obtain ⟨J1, r1, r2, r3, r4⟩ := ly_step (d := d) (n := n) (L := L) (P := P) (E := E) (c := c) (z := z) (x1 := x1) hT hw hf hs hwW (show u < zW I by omega) h10 hrow hle hb hv hv2
    obtain ⟨J2, q1, q2, q3, q4⟩ := ly_in hT hw hf (x1 := x1) hs hwW hle hb r (u + 1) _ J1 (by omega) r2 (fun s' w' h1 h2 => (r4 416 _ _ (fun e => by omega)).trans (hrow s' w' h1 h2)) r3 (Nat.le_trans (mnS_le _ _ _) hv2)
    exact ⟨J2, r1.trans q1, q2, q3, fun b r j hn => (q4 b r j hn).trans (r4 b r j hn)⟩
end Lays
