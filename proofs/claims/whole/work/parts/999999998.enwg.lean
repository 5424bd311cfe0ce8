/-! ASKINGS WEIGHED, the rows kept (written by program from part 9977). -/
section Enwg
variable {d n t : Nat} {I J M : FI} {L K N : FL} {P : FR} {E : FE} {c s : Nat}
def Wgr (w : Nat) (J J' : FI) (K K' : FL) : Prop := (∀ v, v ≠ w → J' 171 0 v = J 171 0 v) ∧ (∀ j, (j < w * 6 ∨ w * 6 + 6 ≤ j) → K' 172 0 j = K 172 0 j) ∧ K' 170 0 5 = K 170 0 5 ∧ ∀ j, J' 173 0 j = J 173 0 j
theorem Wgr.rfl' {w : Nat} : Wgr w J J K K := ⟨fun _ _ => rfl, fun _ _ => rfl, rfl, fun _ => rfl⟩
theorem Wgr.tr {w : Nat} {J' J2 : FI} {K' K2 : FL} (h : Wgr w J J' K K') (h2 : Wgr w J' J2 K' K2) : Wgr w J J2 K K2 := ⟨fun v hv => (h2.1 v hv).trans (h.1 v hv), fun j hj => (h2.2.1 j hj).trans (h.2.1 j hj), h2.2.2.1.trans h.2.2.1, fun j => (h2.2.2.2 j).trans (h.2.2.2 j)⟩
theorem Dy.wgr {w : Nat} {J' : FI} {K' : FL} (h : Dy t J K J' K') : Wgr w J J' K K' := ⟨fun v _ => h.1 171 0 v (by decide) (by decide) (by decide), fun j _ => h.2.1 172 0 j (by decide) (by decide) (by decide), h.2.1 170 0 5 (by decide) (by decide) (by decide), fun j => h.1 173 0 j (by decide) (by decide) (by decide)⟩
theorem weigh_g (H : Cls t I L P E c) {w x : Nat} (hk : w < zW I) (hx : x < 365) (l : Int64) : ∀ r q (J : FI) (K : FL), q + r = 6 → Cw t I L J K → Wq I l x w q J K → ∃ (J' : FI) (K' : FL), V PR (d + 5) 100 40 [(0, vR (some (170, 0))), (1, vi (nI x)), (2, vL l), (4, vi (nI w)), (5, vi (nI q))] [] (mm n J K P E c s) = V PR (d + 5) 100 17 [(0, vR (some (170, 0))), (1, vi (nI x)), (2, vL l), (4, vi (nI (w + 1)))] [] (mm n J' K' P E c s) ∧ Cw t I L J' K' ∧ Wq I l x w 6 J' K' ∧ Wgr w J J' K K'
  | 0, q, J, K, hq, hw, hW => by
    refine ⟨J, K, ?_, hw, by rw [show 6 = q by omega]; exact hW, Wgr.rfl'⟩
    rw [k_X9_weighAskings_40, show decide ((6 : Int32) ≤ nI q) = true from (nI_led (a := 6) (by decide) (by omega)).trans (decide_eq_true (by omega)), cond_true, nI_1]
  | r + 1, q, J, K, hq, hw, hW => by
    have h6 : w < 6 := by have := H.1.2.2.1.2; omega
    have wa := wk_at (I := I) l x w q
    have ex : ∀ (J1 : FI) (K1 : FL), Cw t I L J1 K1 → Wq I l x w (q + 1) J1 K1 → Wgr w J J1 K K1 → ∃ (J' : FI) (K' : FL), V PR (d + 5) 100 40 [(0, vR (some (170, 0))), (1, vi (nI x)), (2, vL l), (4, vi (nI w)), (5, vi (nI (q + 1)))] [] (mm n J1 K1 P E c s) = V PR (d + 5) 100 17 [(0, vR (some (170, 0))), (1, vi (nI x)), (2, vL l), (4, vi (nI (w + 1)))] [] (mm n J' K' P E c s) ∧ Cw t I L J' K' ∧ Wq I l x w 6 J' K' ∧ Wgr w J J' K K' := fun J1 K1 w1 W1 F1 => by
      obtain ⟨J2, K2, r2, w2, W2, F2⟩ := weigh_g H hk hx l r (q + 1) J1 K1 (by omega) w1 W1
      exact ⟨J2, K2, r2, w2, W2, F1.tr F2⟩
    rw [k_X9_weighAskings_40, show decide ((6 : Int32) ≤ nI q) = false from (nI_led (a := 6) (by decide) (by omega)).trans (decide_eq_false (by omega)), cond_false, x_has H hw (show q < 7 by omega), Vk_v, k_X9_weighAskings_56, b2i_eq0, nI_1]
    unfold pwB askB at wa
    cases hg : toldB I q with
    | false =>
      rw [hg, Bool.false_and, Bool.false_and, Bool.false_and] at wa
      exact ex J K hw (hW.skip wa) Wgr.rfl'
    | true =>
      rw [Bool.not_true, cond_false, x_answers H hw hk (show q < 7 by omega) hx, Vk_v, k_X9_weighAskings_71, b2i_eq0, nI_1]
      rw [hg, Bool.true_and] at wa
      cases ha : anB I w q x with
      | false =>
        rw [ha, Bool.false_and, Bool.false_and] at wa
        exact ex J K hw (hW.skip wa) Wgr.rfl'
      | true =>
        obtain ⟨J1, K1, r1, d1⟩ := x_yesOn (d := d) (n := n) (s := s) H hw hk (show q < 7 by omega) hx
        have w1 := hw.tr d1
        have W1 := hW.dy d1
        rw [ha, Bool.true_and] at wa
        have yl : yesL I w q x &&& l = ylL I l x w q := rfl
        rw [Bool.not_true, cond_false, r1, Vk_v, k_X9_weighAskings_86, lgc0, lgc0, nI_1, yl]
        cases q0 : decide (ylL I l x w q = 0) with
        | true =>
          rw [q0, Bool.not_true, Bool.false_and, Bool.false_and] at wa
          exact ex J1 K1 w1 (W1.skip wa) d1.wgr
        | false =>
          cases q1 : decide (ylL I l x w q = l) with
          | true =>
            rw [q0, q1, Bool.not_true, Bool.and_false, Bool.false_and] at wa
            exact ex J1 K1 w1 (W1.skip wa) d1.wgr
          | false =>
            rw [q0, q1, Bool.not_false, Bool.true_and, Bool.true_and] at wa
            have ea : alB (fun j => !(tbi (J1 171 0 w) j && (decide (K1 172 0 (w * 6 + j) ^^^ ylL I l x w q = 0) || decide (K1 172 0 (w * 6 + j) ^^^ ylL I l x w q = l)))) 0 6 = wkF I l x w (q + 1) q := by
              rw [wa]
              refine alB_congr 6 0 fun j _ hj => ?_
              obtain ⟨z1, z2⟩ := W1 j (by omega)
              rw [z1]
              unfold simB
              cases hz : wkF I l x w q j with
              | false => rfl
              | true => rw [z2 hz]
            have AN := anew_C (d := d + 3) (n := n) (I := J1) (L := K1) (P := P) (E := E) (c := c) (s := s) h6 (ylL I l x w q) l 6 0 rfl
            rw [ea] at AN
            rw [cond_false, cond_false, k_X9_partsAnew_0]
            have AN2 : V PR (d + 4) 102 3 [(0, vR (some (170, 0))), (1, vi (nI w)), (2, vL (ylL I l x w q)), (4, vL l), (6, vi (0 : Int32))] [] (mm n J1 K1 P E c s) = some (.inl (some (vi (b2i (wkF I l x w (q + 1) q)))), mm n J1 K1 P E c s) := AN
            rw [AN2, Vk_v, k_X9_weighAskings_113, b2i_eq0, inb_nI h6 (by decide), cond_true, cond_true, mul6, inb_nI (show w * 6 + q < 36 by omega) (by decide), cond_true, nI_clamp (show w < 2 ^ 31 by omega), nI_clamp (show w * 6 + q < 2 ^ 31 by omega), nI_1]
            cases hn2 : wkF I l x w (q + 1) q with
            | false => exact ex J1 K1 w1 (W1.skip hn2) d1.wgr
            | true =>
              refine ex _ _ ((w1.upI (a := 171) (by decide) rfl (by decide)).upL (a := 172) (by decide) rfl (by decide)) (fun k hk => ?_) (d1.wgr.tr ⟨fun v hv => up3_k hv, fun j hj => up3_k (by omega), up3_a (by decide), fun j => up3_a (by decide)⟩)
              rw [up3_i, tbi_or, tbi_1 q (by omega) k hk]
              by_cases e : k = q
              · subst e
                rw [hn2, decide_eq_true (rfl : k = k), Bool.or_true, up3_i]
                exact ⟨rfl, fun _ => rfl⟩
              · obtain ⟨z1, z2⟩ := W1 k hk
                rw [wk_keep l x w e, decide_eq_false e, Bool.or_false, up3_k (by omega)]
                exact ⟨z1, z2⟩
theorem Wq.gr {l : Int64} {x v w : Nat} {J' : FI} {K' : FL} (h : Wq I l x v 6 J K) (hf : Wgr w J J' K K') (hv : v ≠ w) : Wq I l x v 6 J' K' := fun k hk => by
  rw [hf.1 v hv, hf.2.1 (v * 6 + k) (by omega)]
  exact h k hk
theorem weigh_v (H : Cls t I L P E c) {x : Nat} (hx : x < 365) (l : Int64) : ∀ r w (J : FI) (K : FL), w + r = zW I → Cw t I L J K → (∀ v, v < w → Wq I l x v 6 J K) → ∃ (J' : FI) (K' : FL), V PR (d + 5) 100 17 [(0, vR (some (170, 0))), (1, vi (nI x)), (2, vL l), (4, vi (nI w))] [] (mm n J K P E c s) = some (.inl none, mm n J' K' P E c s) ∧ Cw t I L J' K' ∧ (∀ v, v < zW I → Wq I l x v 6 J' K') ∧ K' 170 0 5 = K 170 0 5 ∧ ∀ j, J' 173 0 j = J 173 0 j
  | 0, w, J, K, hw', hw, hW => by
    have e9 : J 103 0 2 = nI (zW I) := (hw.1 103 0 2 (.inl rfl)).trans (H.2.1.2.2.1.trans H.1.2.2.1.1)
    have h6 := H.1.2.2.1.2
    refine ⟨J, K, ?_, hw, fun v hv => hW v (by omega), rfl, fun _ => rfl⟩
    rw [k_X9_weighAskings_17, e9, nI_led (by omega) (by omega), decide_eq_true (by omega), cond_true]
  | r + 1, w, J, K, hw', hw, hW => by
    have e9 : J 103 0 2 = nI (zW I) := (hw.1 103 0 2 (.inl rfl)).trans (H.2.1.2.2.1.trans H.1.2.2.1.1)
    have h6 := H.1.2.2.1.2
    have F0 : Wgr w J (up3 J 171 0 w 0) K K := ⟨fun v hv => up3_k hv, fun _ _ => rfl, rfl, fun j => up3_a (by decide)⟩
    obtain ⟨J1, K1, r1, w1, W1, F1⟩ := weigh_g (d := d) (n := n) (s := s) H (show w < zW I by omega) hx l 6 0 (up3 J 171 0 w 0) K rfl (hw.upI (by decide) rfl (by decide)) (fun k hk => ⟨by rw [up3_i, tbi_0]; rfl, fun q => by cases q⟩)
    obtain ⟨J2, K2, r2, w2, W2, e2, e3⟩ := weigh_v H hx l r (w + 1) J1 K1 (by omega) w1 (fun v hv => by
      by_cases e : v = w
      · subst e; exact W1
      · exact (hW v (by omega)).gr (F0.tr F1) e)
    refine ⟨J2, K2, ?_, w2, W2, e2.trans F1.2.2.1, fun j => (e3 j).trans ((F0.tr F1).2.2.2 j)⟩
    rw [k_X9_weighAskings_17, e9, nI_led (by omega) (by omega), decide_eq_false (by omega), cond_false, inb_nI (show w < 6 by omega) (by decide), cond_true, nI_clamp (by omega)]
    exact Eq.trans r1 r2
theorem c_weighB (H : Cls t I L P E c) (hw : Cw t I L J K) {x : Nat} (hx : x < 365) (l : Int64) : ∃ (J' : FI) (K' : FL), V PR (d + 5) 100 0 [(0, vR (some (170, 0))), (1, vi (nI x)), (2, vL l)] [] (mm n J K P E c s) = some (.inl none, mm n J' K' P E c s) ∧ Cw t I L J' K' ∧ (∀ v, v < zW I → Wq I l x v 6 J' K') ∧ K' 170 0 5 = sL I 6 x ∧ ∀ j, J' 173 0 j = J 173 0 j := by
  obtain ⟨J1, K1, r1, d1⟩ := x_soOn (d := d + 1) (n := n) (s := s) H hw (show 6 < 7 by decide) hx
  obtain ⟨J2, K2, r2, w2, W2, e2, e3⟩ := weigh_v (d := d) (n := n) (s := s) H hx l (zW I) 0 J1 (up3 K1 170 0 5 (sL I 6 x)) (Nat.zero_add _) ((hw.tr d1).upL (by decide) rfl (by decide)) (fun v hv => absurd hv (Nat.not_lt_zero v))
  refine ⟨J2, K2, ?_, w2, W2, e2.trans (up3_i _ _ _ _ _), fun j => (e3 j).trans (d1.1 173 0 j (by decide) (by decide) (by decide))⟩
  rw [k_X9_weighAskings_0, show (6 : Int32) = nI 6 from rfl, r1, Vk_v, k_X9_weighAskings_11]
  exact r2
end Enwg
