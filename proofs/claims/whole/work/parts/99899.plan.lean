/-! PROMISE 31: plan. -/
section Plan
variable {a d n t : Nat} {I J M : FI} {L K N : FL} {P : FR} {E : FE} {c s z : Nat} {S : Int32}
theorem po_q (C : Rc I c S) {k a x w y dd : Nat} (hk : k < 3) (hW : WyH I a) (hwW : w < zW I) (hx : x < 365) (hxy : x ≤ y) (hy : y < 365) (PO : POp I L P E c s n S (dd + 6) k) {l : Int64} (hl : l ≠ 0) : ∀ r q (p : Nat × Int32) (J : FI) (N : FL), q + r = 6 → x ≤ p.1 → p.1 ≤ 365 → Rp I L S J N → (k = 2 → J 186 0 39 = p.2) → ∃ (J' : FI) (N' : FL), V PR (dd + 7) 296 131 [(0, vR (some (186, 0))), (1, vL l), (3, vi (nI a)), (4, vi (nI x)), (5, vi (nI (k + 1))), (6, vi (b2i (decide (k + 1 < 3)))), (7, vi (nI (rlN x p.1))), (8, vi (nI w)), (9, vi (nI y)), (10, vi (nI q))] [] (mm n J N P E c s) = V PR (dd + 7) 296 25 [(0, vR (some (186, 0))), (1, vL l), (3, vi (nI a)), (4, vi (nI x)), (5, vi (nI (k + 1))), (6, vi (b2i (decide (k + 1 < 3)))), (7, vi (nI (rlN x (oQ (toldB I) (vlG I (gvF I k) l w y) w p q r).1))), (8, vi (nI (w + 1)))] [] (mm n J' N' P E c s) ∧ Rp I L S J' N' ∧ J' 186 0 39 = (bif decide (k = 2) then (oQ (toldB I) (vlG I (gvF I k) l w y) w p q r).2 else J 186 0 39)
  | 0, q, p, J, N, h, hp0, hp, hR, h3 => by
    refine ⟨J, N, ?_, hR, ?_⟩
    · rw [k_X12_planOf_131, show decide ((6 : Int32) ≤ nI q) = true from (nI_led (a := 6) (by decide) (by omega)).trans (decide_eq_true (by omega)), cond_true, nI_1]
      rfl
    · by_cases e : k = 2
      · rw [decide_eq_true e]; exact h3 e
      · rw [decide_eq_false e]; rfl
  | r + 1, q, p, J, N, h, hp0, hp, hR, h3 => by
    obtain ⟨J1, N1, r1, h1, a1⟩ := po_step (n := n) (s := s) C hk hW hwW hx hxy hy (show q < 6 by omega) PO hl hp0 hp hR h3
    have hge : x ≤ (stq (toldB I q) (vlG I (gvF I k) l w y q) (nI (10 * w + q)) p).1 := by
      unfold stq
      cases toldB I q && decide (vlG I (gvF I k) l w y q < p.1) with
      | false => exact hp0
      | true => exact Nat.le_trans hxy (vl_ge hy)
    obtain ⟨J2, N2, r2, h2, a2⟩ := po_q C hk hW hwW hx hxy hy PO hl r (q + 1) (stq (toldB I q) (vlG I (gvF I k) l w y q) (nI (10 * w + q)) p) J1 N1 (by omega) hge (Nat.le_trans (stq_le hp) hp) h1 (fun e => by rw [a1, decide_eq_true e]; rfl)
    refine ⟨J2, N2, r1.trans r2, h2, a2.trans ?_⟩
    by_cases e : k = 2
    · rw [decide_eq_true e]; rfl
    · rw [decide_eq_false e]
      rw [decide_eq_false e] at a1
      exact a1
theorem po_w (C : Rc I c S) {k a x dd : Nat} (hk : k < 3) (hW : WyH I a) (hx : x < 365) (PO : POp I L P E c s n S (dd + 6) k) {l : Int64} (hl : l ≠ 0) : ∀ r w (p : Nat × Int32) (J : FI) (N : FL), w + r = zW I → x ≤ p.1 → p.1 ≤ 365 → Rp I L S J N → (k = 2 → J 186 0 39 = p.2) → ∃ (J' : FI) (N' : FL), V PR (dd + 7) 296 25 [(0, vR (some (186, 0))), (1, vL l), (3, vi (nI a)), (4, vi (nI x)), (5, vi (nI (k + 1))), (6, vi (b2i (decide (k + 1 < 3)))), (7, vi (nI (rlN x p.1))), (8, vi (nI w))] [] (mm n J N P E c s) = some (.inl (some (vi (nI (rlN x (oW (okW I a x (decide (k + 1 < 3))) (toldB I) (fun w => vlG I (gvF I k) l w (dyN I a x (decide (k + 1 < 3)) w)) p w r).1)))), mm n J' N' P E c s) ∧ Rp I L S J' N' ∧ J' 186 0 39 = (bif decide (k = 2) then (oW (okW I a x (decide (k + 1 < 3))) (toldB I) (fun w => vlG I (gvF I k) l w (dyN I a x (decide (k + 1 < 3)) w)) p w r).2 else J 186 0 39)
  | 0, w, p, J, N, h, hp0, hp, hR, h3 => by
    have h6 := hW.h6
    have e9 : J 190 0 2 = nI (zW I) := (hR.1 190 0 2 (by decide) (by decide) (by decide) (fun e => absurd e (by decide))).trans hW.hT.2.2.1.1
    refine ⟨J, N, ?_, hR, ?_⟩
    · rw [k_X12_planOf_25, e9, nI_led (by omega) (by omega), decide_eq_true (by omega), cond_true]
      rfl
    · by_cases e : k = 2
      · rw [decide_eq_true e]; exact h3 e
      · rw [decide_eq_false e]; rfl
  | r + 1, w, p, J, N, h, hp0, hp, hR, h3 => by
    have h6 := hW.h6
    have h8 := hW.h8
    have ha := hW.ha
    have hwW : w < zW I := by omega
    have e9 : J 190 0 2 = nI (zW I) := (hR.1 190 0 2 (by decide) (by decide) (by decide) (fun e => absurd e (by decide))).trans hW.hT.2.2.1.1
    obtain ⟨q1, q2, -⟩ := pl_I hW.hT hW.hw hwW
    have Q1 : J 198 (w + 1) 0 = nI (plN I w) := (hR.1 198 _ _ (by decide) (by decide) (by decide) (fun e => absurd e (by decide))).trans q1
    have F1 : J 220 (a + 1) (plN I w) = (bif fOk I a (plN I w) then nI (fN I a (plN I w)) else -1) := (hR.1 220 _ _ (by decide) (by decide) (by decide) (fun e => absurd e (by decide))).trans (far_I hW.hf ha q2).1
    have F2 := (far_I hW.hf ha q2).2
    have c1 : (nI a).toNatClampNeg = a := nI_clamp (by omega)
    have c2 : (nI w).toNatClampNeg = w := nI_clamp (by omega)
    have c6 : (nI (plN I w)).toNatClampNeg = plN I w := nI_clamp (by omega)
    have i1 : inb (nI a) 8 = true := inb_nI (by omega) (by decide)
    have i2 : inb (nI w) 6 = true := inb_nI (by omega) (by decide)
    have i6 : inb (nI (plN I w)) 8 = true := inb_nI (by omega) (by decide)
    have i0 : inb (0 : Int32) 6 = true := by decide +kernel
    have k2 : Nat.blt w 6 = true := blt_t (by omega)
    have k3 : Nat.blt a 8 = true := blt_t (by omega)
    have base : decide (J 190 0 2 ≤ nI w) = false := by rw [e9, nI_led (by omega) (by omega), decide_eq_false (by omega)]
    have ek : decide (nI (k + 1) ≤ (0 : Int32)) = false := (nI_led (b := 0) (by omega) (by decide)).trans (decide_eq_false (by omega))
    have hrl := rl_le (x := x) hp
    have hS : ∀ p w, oW (okW I a x (decide (k + 1 < 3))) (toldB I) (fun w => vlG I (gvF I k) l w (dyN I a x (decide (k + 1 < 3)) w)) p w (r + 1) = oW (okW I a x (decide (k + 1 < 3))) (toldB I) (fun w => vlG I (gvF I k) l w (dyN I a x (decide (k + 1 < 3)) w)) (bif okW I a x (decide (k + 1 < 3)) w then oQ (toldB I) (vlG I (gvF I k) l w (dyN I a x (decide (k + 1 < 3)) w)) w p 0 6 else p) (w + 1) r := fun _ _ => rfl
    rw [hS]
    obtain ⟨p2, hp2⟩ : ∃ p2, p2 = (bif okW I a x (decide (k + 1 < 3)) w then oQ (toldB I) (vlG I (gvF I k) l w (dyN I a x (decide (k + 1 < 3)) w)) w p 0 6 else p) := ⟨_, rfl⟩
    rw [← hp2]
    have skip : p2 = p → ∃ (J' : FI) (N' : FL), V PR (dd + 7) 296 25 [(0, vR (some (186, 0))), (1, vL l), (3, vi (nI a)), (4, vi (nI x)), (5, vi (nI (k + 1))), (6, vi (b2i (decide (k + 1 < 3)))), (7, vi (nI (rlN x p.1))), (8, vi (nI (w + 1)))] [] (mm n J N P E c s) = some (.inl (some (vi (nI (rlN x (oW (okW I a x (decide (k + 1 < 3))) (toldB I) (fun w => vlG I (gvF I k) l w (dyN I a x (decide (k + 1 < 3)) w)) p2 (w + 1) r).1)))), mm n J' N' P E c s) ∧ Rp I L S J' N' ∧ J' 186 0 39 = (bif decide (k = 2) then (oW (okW I a x (decide (k + 1 < 3))) (toldB I) (fun w => vlG I (gvF I k) l w (dyN I a x (decide (k + 1 < 3)) w)) p2 (w + 1) r).2 else J 186 0 39) := fun e => by
      rw [e]
      exact po_w C hk hW hx PO hl r (w + 1) p J N (by omega) hp0 hp hR h3
    rw [k_X12_planOf_25]
    simp only [base, ek, cond_false, cond_true, i1, i2, i6, i0, c1, c2, c6, aro_198, aro_220, k2, k3, Bool.and_self, tn_0, Q1, F1, nI_1]
    cases hf : fOk I a (plN I w) with
    | false =>
      rw [cond_false, show (!decide ((-1 : Int32) = -1)) = false by decide +kernel, cond_false]
      refine skip ?_
      rw [hp2]
      unfold okW
      rw [hf]
      rfl
    | true =>
      obtain ⟨y, hyd⟩ : ∃ y, y = dyN I a x (decide (k + 1 < 3)) w := ⟨_, rfl⟩
      have hyx : x ≤ y := by rw [hyd]; exact dy_ge ..
      have hyl : y < 1000 := by
        rw [hyd]
        unfold dyN
        cases decide (k + 1 < 3) && decide (fN I a (plN I w) = 0) with
        | true => rw [cond_true]; omega
        | false => rw [cond_false]; omega
      rw [← hyd] at hp2
      -- the same of both days
      have fin : ∃ (J' : FI) (N' : FL), (bif decide ((365 : Int32) ≤ nI y) then V PR (dd + 7) 296 25 [(0, vR (some (186, 0))), (1, vL l), (3, vi (nI a)), (4, vi (nI x)), (5, vi (nI (k + 1))), (6, vi (b2i (decide (k + 1 < 3)))), (7, vi (nI (rlN x p.1))), (8, vi (nI (w + 1)))] [] (mm n J N P E c s) else bif decide (nI y - nI x < nI (rlN x p.1)) then V PR (dd + 7) 296 131 [(0, vR (some (186, 0))), (1, vL l), (3, vi (nI a)), (4, vi (nI x)), (5, vi (nI (k + 1))), (6, vi (b2i (decide (k + 1 < 3)))), (7, vi (nI (rlN x p.1))), (8, vi (nI w)), (9, vi (nI y)), (10, vi (0 : Int32))] [] (mm n J N P E c s) else V PR (dd + 7) 296 25 [(0, vR (some (186, 0))), (1, vL l), (3, vi (nI a)), (4, vi (nI x)), (5, vi (nI (k + 1))), (6, vi (b2i (decide (k + 1 < 3)))), (7, vi (nI (rlN x p.1))), (8, vi (nI (w + 1)))] [] (mm n J N P E c s)) = some (.inl (some (vi (nI (rlN x (oW (okW I a x (decide (k + 1 < 3))) (toldB I) (fun w => vlG I (gvF I k) l w (dyN I a x (decide (k + 1 < 3)) w)) p2 (w + 1) r).1)))), mm n J' N' P E c s) ∧ Rp I L S J' N' ∧ J' 186 0 39 = (bif decide (k = 2) then (oW (okW I a x (decide (k + 1 < 3))) (toldB I) (fun w => vlG I (gvF I k) l w (dyN I a x (decide (k + 1 < 3)) w)) p2 (w + 1) r).2 else J 186 0 39) := by
        have eyx : nI y - nI x = nI (y - x) := by
          have : nI y = nI (y - x) + nI x := by rw [nI_add]; exact congrArg nI (by omega)
          rw [this, Int32.add_sub_cancel]
        rw [show decide ((365 : Int32) ≤ nI y) = decide (365 ≤ y) from nI_led (a := 365) (by decide) (by omega), eyx, nI_ltd (by omega) (by omega)]
        by_cases hy : 365 ≤ y
        · rw [decide_eq_true hy, cond_true]
          refine skip ?_
          rw [hp2]
          unfold okW
          rw [← hyd, decide_eq_false (show ¬ y < 365 by omega), Bool.and_false]
          rfl
        · have hok : okW I a x (decide (k + 1 < 3)) w = true := by
            unfold okW
            rw [hf, ← hyd, decide_eq_true (show y < 365 by omega)]
            rfl
          rw [hok, cond_true] at hp2
          rw [decide_eq_false hy, cond_false]
          by_cases hlt : y - x < rlN x p.1
          · rw [decide_eq_true hlt, cond_true]
            obtain ⟨J1, N1, r1, h1, a1⟩ := po_q (n := n) (s := s) C hk hW hwW hx hyx (show y < 365 by omega) PO hl 6 0 p J N rfl hp0 hp hR h3
            rw [← hp2] at r1 a1
            have hp2e : p2.1 = mnF (toldB I) (vlG I (gvF I k) l w y) p.1 0 6 := by rw [hp2, oQ_1]
            have g1 : p2.1 ≤ 365 := by rw [hp2e]; exact Nat.le_trans mnF_le hp
            have g0 : x ≤ p2.1 := by
              rw [hp2e]
              refine Nat.le_of_not_lt fun q => ?_
              rcases (mnF_iff 6 0 p.1).mp (Nat.le_sub_one_of_lt q) with q2 | ⟨u, _, _, _, u2⟩
              · omega
              · have := vl_ge (I := I) (k := k) (w := w) (q := u) (l := l) (show y < 365 by omega)
                omega
            obtain ⟨J2, N2, r2, h2, a2⟩ := po_w C hk hW hx PO hl r (w + 1) p2 J1 N1 (by omega) g0 g1 h1 (fun e => by rw [a1, decide_eq_true e]; rfl)
            refine ⟨J2, N2, r1.trans r2, h2, a2.trans ?_⟩
            by_cases e : k = 2
            · rw [decide_eq_true e]; rfl
            · rw [decide_eq_false e]
              rw [decide_eq_false e] at a1
              exact a1
          · rw [decide_eq_false hlt, cond_false]
            refine skip ?_
            rw [hp2]
            refine oQ_no (td := toldB I) (vl := vlG I (gvF I k) l w y) (w := w) (fun q => ?_) 6 0
            have h1 := vl_ge (I := I) (k := k) (w := w) (q := q) (l := l) (show y < 365 by omega)
            have h2 : p.1 ≤ y := by
              unfold rlN at hlt
              by_cases e : p.1 = 365
              · rw [decide_eq_true e, cond_true] at hlt; omega
              · rw [decide_eq_false e, cond_false] at hlt; omega
            omega
      have e0 : decide (nI x + nI (fN I a (plN I w)) = nI x) = decide (fN I a (plN I w) = 0) := by
        rw [nI_add, decide_eq_decide]
        exact (nI_eq (by omega) (by omega)).trans ⟨fun q => by omega, fun q => by omega⟩
      rw [cond_true, decide_eq_false (m1_ne (show fN I a (plN I w) < 2 ^ 31 by omega)), Bool.not_false, cond_true, b2i_eq0, e0]
      have ez : nI x + nI (fN I a (plN I w)) + 0 = nI (x + fN I a (plN I w)) := by rw [nI_add, Int32.add_zero]
      have e1 : nI x + nI (fN I a (plN I w)) + 1 = nI (x + fN I a (plN I w) + 1) := by rw [nI_add, nI_1]
      rw [ez, e1]
      unfold dyN at hyd
      cases hb : decide (k + 1 < 3) with
      | false =>
        rw [hb, Bool.false_and, cond_false, Nat.add_zero] at hyd
        rw [hb, hyd] at fin
        exact fin
      | true =>
        rw [hb, Bool.true_and] at hyd
        by_cases e : fN I a (plN I w) = 0
        · rw [decide_eq_true e, cond_true] at hyd
          rw [decide_eq_true e]
          rw [hb, hyd] at fin
          exact fin
        · rw [decide_eq_false e, cond_false, Nat.add_zero] at hyd
          rw [decide_eq_false e]
          rw [hb, hyd] at fin
          exact fin
theorem st_ne0 {l g : Int64} (h : stB l g = false) : l ≠ 0 := fun e => by rw [e, stB_0] at h; cases h
theorem po_R (C : Rc I c S) : ∀ k, k ≤ 3 → POp I L P E c s n S (d + 6 + k) k
  | 0, _ => fun a x l J N W hx hR => by
    have hT := W.hT
    have h6 := W.h6
    by_cases hl : l = 0
    · have hst : stB l (sL I 6 x) = true := by rw [hl, stB_0]
      refine ⟨J, N, ?_, hR, rfl⟩
      rw [k_X12_planOf_0, lgc0, decide_eq_true hl, cond_true, gv_st hst, rl_1 hx, Nat.sub_self]
      rfl
    · obtain ⟨J1, N1, r1, h1, a1⟩ := c_isGoal (d := d) (n := n) (P := P) (E := E) (s := s) C hR hx l
      refine ⟨J1, N1, ?_, h1, a1⟩
      rw [k_X12_planOf_0, lgc0, decide_eq_false hl, cond_false, r1, Vk_v, k_X12_planOf_13, b2i_eq0]
      cases hst : stB l (sL I 6 x) with
      | true =>
        rw [gv_st hst, rl_1 hx, Nat.sub_self]
        rfl
      | false =>
        have e : gvN I 0 a x (decide (0 < 3)) l = 365 := by
          show (bif stB l (sL I 6 x) then x else 365) = 365
          rw [hst]; rfl
        rw [e, Bool.not_false, cond_true, k_X12_planOf_25, show decide (nI 0 ≤ (0 : Int32)) = true by decide +kernel, cond_true]
        cases decide (J1 190 0 2 ≤ 0) <;> rfl
  | k + 1, hk => fun a x l J N W hx hR => by
    have PO := po_R C k (by omega)
    by_cases hl : l = 0
    · have hst : stB l (sL I 6 x) = true := by rw [hl, stB_0]
      refine ⟨J, N, ?_, hR, ?_⟩
      · rw [show d + 6 + (k + 1) = (d + 6 + k) + 1 by omega, k_X12_planOf_0, lgc0, decide_eq_true hl, cond_true, gv_st hst, rl_1 hx, Nat.sub_self]
        rfl
      · rw [hst]
        cases decide (k + 1 = 3) <;> rfl
    · obtain ⟨J1, N1, r1, h1, a1⟩ := c_isGoal (d := d + k + 1) (n := n) (P := P) (E := E) (s := s) C hR hx l
      rw [show d + k + 1 + 5 = d + 6 + k by omega] at r1
      rw [show d + 6 + (k + 1) = (d + 6 + k) + 1 by omega, k_X12_planOf_0, lgc0, decide_eq_false hl, cond_false, r1, Vk_v, k_X12_planOf_13, b2i_eq0]
      cases hst : stB l (sL I 6 x) with
      | true =>
        refine ⟨J1, N1, ?_, h1, ?_⟩
        · rw [gv_st hst, rl_1 hx, Nat.sub_self]
          rfl
        · rw [a1]
          cases decide (k + 1 = 3) <;> rfl
      | false =>
        have hne := st_ne0 hst
        have e100 : (100000 : Int32) = nI (rlN x 365) := rfl
        obtain ⟨J2, N2, r2, h2, a2⟩ := po_w (dd := d + k) (n := n) (s := s) C (show k < 3 by omega) W hx (by rw [show d + k + 6 = d + 6 + k by omega]; exact PO) hne (zW I) 0 (365, J1 186 0 39) J1 N1 (Nat.zero_add _) (Nat.le_of_lt hx) (Nat.le_refl _) h1 (fun _ => rfl)
        rw [show d + k + 7 = d + 6 + k + 1 by omega] at r2
        have hg : gvN I (k + 1) a x (decide (k + 1 < 3)) l = (oW (okW I a x (decide (k + 1 < 3))) (toldB I) (fun w => vlG I (gvF I k) l w (dyN I a x (decide (k + 1 < 3)) w)) (365, J1 186 0 39) 0 (zW I)).1 := by
          rw [gv_no hst, oW_1 _ _ _ (Nat.le_refl _)]
        refine ⟨J2, N2, ?_, h2, ?_⟩
        · rw [hg, Bool.not_false, cond_true, e100]
          exact r2
        · rw [a2, a1]
          have e : decide (k + 1 = 3) = decide (k = 2) := by rw [decide_eq_decide]; omega
          rw [e]
          cases decide (k = 2) <;> rfl
end Plan
