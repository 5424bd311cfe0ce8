/-! THE COUNTRY: the class reads a clause. -/
section Clar
variable {B : Nat → Nat} {n : Nat} {dd nn : Nat} {I J : FI} {L : FL} {P : FR} {E : FE} {c s p : Nat} {D : Dr}
/-- what kind of clause -/
theorem rl_49 (hS : StD B n I p D) : V PR (dd + 1) 49 0 [(0, vR (some (142, 0)))] [] (mm nn I L P E c s) = some (.inl (some (vi (bif decide (kdC B n p = 9) then (-1 : Int32) else nI (kdC B n p)))), mm nn I L P E c s) := by
  obtain ⟨hT, hk, -, -⟩ := hS
  unfold kdC
  rw [k_X3_kind_0, cw_2 hT hk, Vk_v, k_X3_kind_9, b2i_eq0]
  cases isW B n p (prgT 2) with
  | true => rfl
  | false =>
    rw [Bool.not_false, cond_true, cond_false, cw_3 hT hk, Vk_v, k_X3_kind_25, b2i_eq0]
    cases isW B n p (prgT 3) with
    | true => rfl
    | false =>
      rw [Bool.not_false, cond_true, cond_false, cw_4 hT hk, Vk_v, k_X3_kind_41, b2i_eq0]
      cases isW B n p (prgT 4) with
      | true => rfl
      | false =>
        rw [Bool.not_false, cond_true, cond_false, cw_5 hT hk, Vk_v, k_X3_kind_57, b2i_eq0]
        cases isW B n p (prgT 5) with
        | true => rfl
        | false =>
          rw [Bool.not_false, cond_true, cond_false, cw_6 hT hk, Vk_v, k_X3_kind_73, b2i_eq0]
          cases isW B n p (prgT 6) with
          | true => rfl
          | false =>
            rw [Bool.not_false, cond_true, cond_false, cw_7 hT hk, Vk_v, k_X3_kind_89, b2i_eq0]
            cases isW B n p (prgT 7) with
            | true => rfl
            | false =>
              rw [Bool.not_false, cond_true, cond_false, cw_8 hT hk, Vk_v, k_X3_kind_105, b2i_eq0]
              cases isW B n p (prgT 8) with
              | true => rfl
              | false =>
                rw [Bool.not_false, cond_true, cond_false, cw_9 hT hk, Vk_v, k_X3_kind_122, b2i_eq0]
                cases isW B n p (prgT 9) with
                | true => rfl
                | false =>
                  rw [Bool.not_false, cond_true, cond_false, cw_10 hT hk, Vk_v, k_X3_kind_139, b2i_eq0]
                  cases isW B n p (prgT 10) with
                  | true => rfl
                  | false => rfl
theorem kdC_le : kdC B n p ≤ 9 := by
  unfold kdC
  cases isW B n p (prgT 2) <;> cases isW B n p (prgT 3) <;> cases isW B n p (prgT 4) <;> cases isW B n p (prgT 5) <;> cases isW B n p (prgT 6) <;> cases isW B n p (prgT 7) <;> cases isW B n p (prgT 8) <;> cases isW B n p (prgT 9) <;> cases isW B n p (prgT 10) <;> decide
theorem kdC_sm (h : kdC B n p ≠ 9) : smB B n p = true := by
  cases hs : smB B n p with
  | true => rfl
  | false =>
    refine absurd ?_ h
    have z : ∀ k, 2 ≤ (prgT k).length → isW B n p (prgT k) = false := fun k hk => by
      cases q : isW B n p (prgT k) with
      | false => rfl
      | true => exact absurd (isW_wd q hk).1 (by rw [hs]; decide)
    unfold kdC
    rw [z 2 (by decide +kernel), z 3 (by decide +kernel), z 4 (by decide +kernel), z 5 (by decide +kernel), z 6 (by decide +kernel), z 7 (by decide +kernel), z 8 (by decide +kernel), z 9 (by decide +kernel), z 10 (by decide +kernel)]
    rfl
/-- whether another one is too many -/
theorem rl_50 (hS : StD B n I p D) (k : Nat) (hk : k < 9) (hP : dP D ≤ 8) (hW : dW D ≤ 6) (hV : dV D ≤ 2) : V PR dd 50 0 [(0, vR (some (142, 0))), (1, vi (nI k))] [] (mm nn I L P E c s) = some (.inl (some (vi (b2i (fullB D k)))), mm nn I L P E c s) := by
  obtain ⟨-, -, -, ⟨-, a2, a3, a4, -⟩, -⟩ := hS
  rw [k_X3_full_0, show decide (nI k = (1 : Int32)) = decide (k = 1) from decide_eq_decide.mpr (nI_eq (b := 1) (by omega) (by decide)), show decide (nI k = (3 : Int32)) = decide (k = 3) from decide_eq_decide.mpr (nI_eq (b := 3) (by omega) (by decide)), show decide (nI k = (6 : Int32)) = decide (k = 6) from decide_eq_decide.mpr (nI_eq (b := 6) (by omega) (by decide)), a2, a3, a4, show decide ((8 : Int32) ≤ nI (dP D)) = decide (8 ≤ dP D) from nI_led (a := 8) (by decide) (by omega), show decide ((6 : Int32) ≤ nI (dW D)) = decide (6 ≤ dW D) from nI_led (a := 6) (by decide) (by omega), show decide (nI (dV D) < (2 : Int32)) = decide (dV D < 2) from nI_ltd (b := 2) (by omega) (by decide), show decide (dV D < 2) = !decide (2 ≤ dV D) by rw [← decide_not]; exact decide_eq_decide.mpr (by omega)]
  unfold fullB
  cases decide (k = 1) <;> cases decide (k = 3) <;> cases decide (k = 6) <;> cases decide (8 ≤ dP D) <;> cases decide (6 ≤ dW D) <;> cases decide (2 ≤ dV D) <;> rfl
theorem vk_ob {x : Option (Out × Mem)} {m pc : Nat} {r : RsD} (h : ObV B n x (fun J => mm nn J L P E c s) I r) (hk : ∀ (v : Int32) (J : FI), V PR (dd + 3) m (pc + 3) [] [vi v] (mm nn J L P E c s) = some (.inl (some (vi v)), mm nn J L P E c s)) : ObV B n (Vk (dd + 2) m pc [] [] x) (fun J => mm nn J L P E c s) I r := by
  obtain ⟨v, J, h1, h2, h3⟩ := h
  exact ⟨v, J, by rw [h1, Vk_v]; exact hk v J, h2, h3⟩
/-- the rest of a clause of a kind -/
theorem rl_51 (hS : StD B n I p D) (k : Nat) (hk : k < 9) (hf : fullB D k = false) (hN : dN D ≤ 4) (hP : dP D ≤ 8) (hW : dW D ≤ 6) (hV : dV D ≤ 2) : ObV B n (V PR (dd + 3) 51 0 [(0, vR (some (142, 0))), (1, vi (nI k))] [] (mm nn I L P E c s)) (fun J => mm nn J L P E c s) I (bdK B n k D p) := by
  unfold fullB at hf
  rw [Bool.or_eq_false_iff, Bool.or_eq_false_iff] at hf
  rw [k_X3_readRest_0]
  match k, hk, hf with
  | 0, _, _ =>
    rw [show nI 0 = (0 : Int32) from rfl, k_X3_readRest_s0_1]
    exact vk_ob (rl_54 hS) fun v J => k_X3_readRest_s0_52 _ _ _ _ _ _ _ _ _
  | 1, _, hf =>
    rw [show nI 1 = (1 : Int32) from rfl, k_X3_readRest_s1_1]
    obtain ⟨⟨a1, a2, a3, a4, a5, a6, a7⟩, b1, b2, b3, b4⟩ := id hS.2.2.2
    rw [show I 115 0 1 + 1 = nI (dP D + 1) by rw [a2, nI_1]]
    exact ⟨0, _, rfl, ⟨⟨0, by decide, rfl⟩, hS.dr (fun a j ha => up3_a (by omega)) ⟨⟨(up3_k (by decide)).trans a1, up3_i _ _ _ _ _, (up3_k (by decide)).trans a3, (up3_k (by decide)).trans a4, (up3_k (by decide)).trans a5, (up3_k (by decide)).trans a6, (up3_k (by decide)).trans a7⟩, b1, b2, b3, b4⟩⟩, FxD.rfl'.u (by decide)⟩
  | 2, _, _ =>
    rw [show nI 2 = (2 : Int32) from rfl, k_X3_readRest_s2_1]
    exact vk_ob (rl_56 hS hP) fun v J => k_X3_readRest_s2_72 _ _ _ _ _ _ _ _ _
  | 3, _, hf =>
    rw [show nI 3 = (3 : Int32) from rfl, k_X3_readRest_s3_1]
    refine vk_ob (rl_57 hS hP hN ?_) fun v J => k_X3_readRest_s3_77 _ _ _ _ _ _ _ _ _
    have := of_decide_eq_false hf.2.1
    omega
  | 4, _, _ =>
    rw [show nI 4 = (4 : Int32) from rfl, k_X3_readRest_s4_1]
    exact vk_ob (rl_59 hS hW) fun v J => k_X3_readRest_s4_82 _ _ _ _ _ _ _ _ _
  | 5, _, _ =>
    rw [show nI 5 = (5 : Int32) from rfl, k_X3_readRest_s5_1]
    exact vk_ob (rl_60 hS hW) fun v J => k_X3_readRest_s5_87 _ _ _ _ _ _ _ _ _
  | 6, _, hf =>
    rw [show nI 6 = (6 : Int32) from rfl, k_X3_readRest_s6_1]
    refine vk_ob (rl_61 hS hW ?_) fun v J => k_X3_readRest_s6_92 _ _ _ _ _ _ _ _ _
    have := of_decide_eq_false hf.2.2
    omega
  | 7, _, _ =>
    rw [show nI 7 = (7 : Int32) from rfl, k_X3_readRest_s7_1]
    exact vk_ob (rl_62 hS) fun v J => k_X3_readRest_s7_97 _ _ _ _ _ _ _ _ _
  | 8, _, _ =>
    rw [show nI 8 = (8 : Int32) from rfl, k_X3_readRest_s8_1]
    exact vk_ob (rl_55 hS) fun v J => k_X3_readRest_s8_102 _ _ _ _ _ _ _ _ _
theorem semK_gc {r : RsD} (h : GC n p r) : GC n p (semK B n r) := by
  cases r with
  | inl x => exact h
  | inr x =>
    obtain ⟨q, D1⟩ := x
    obtain ⟨h1, h2, h3⟩ := h
    cases hs : sgB B n q 59 with
    | true =>
      have hq : q < n := (sg_lt hs).1
      have := sk_ge (B := B) (n := n) (q + 1)
      show GC n p (bif sgB B n q 59 then _ else _)
      rw [hs]
      exact ⟨by omega, sk_le (by omega), h3⟩
    | false =>
      show GC n p (bif sgB B n q 59 then _ else _)
      rw [hs]
      exact ⟨by decide, by decide, h2⟩
theorem clR_gc {cl : Nat} (h : OkD D) (h0 : cl = 0 → dW D = 0) (hp : p ≤ n) : GC n p (clR B n cl p D) := by
  unfold clR
  by_cases e9 : kdC B n p = 9
  · rw [decide_eq_true e9]
    exact ⟨by decide, by decide, hp⟩
  · rw [decide_eq_false e9, cond_false]
    cases hx : (decide (60 ≤ cl) || fullB D (kdC B n p)) with
    | true => exact ⟨by decide, by decide, hp⟩
    | false =>
      rw [Bool.or_eq_false_iff] at hx
      rw [cond_false]
      by_cases e0 : kdC B n p = 0 ∧ 0 < cl
      · rw [decide_eq_true e0.1, decide_eq_true e0.2]
        exact ⟨by decide, by decide, hp⟩
      · have he : (decide (kdC B n p = 0) && decide (0 < cl)) = false := by
          rw [← Bool.decide_and]
          exact decide_eq_false e0
        have w1 := wd_ge (B := B) (n := n) p
        have w2 := sk_ge (B := B) (n := n) (wd B n p)
        rw [he, cond_false]
        refine semK_gc ((bdK_gc (cl := cl) h (fun g => h0 (by omega)) hx.2 (sk_le (wd_le hp))).mono (by omega))
/-- a clause -/
theorem rl_48 {cl : Nat} (hS : StD B n I p D) (h : OkD D) (h0 : cl = 0 → dW D = 0) (hc : cl ≤ 60) : ObV B n (V PR (dd + 4) 48 0 [(0, vR (some (142, 0))), (1, vi (nI cl))] [] (mm nn I L P E c s)) (fun J => mm nn J L P E c s) I (clR B n cl p D) := by
  have hp := hS.2.1.1
  have F : ∀ k, V PR (dd + 3) 121 0 [(0, vR (some (102, 0))), (1, vi (nI k))] [] (mm nn I L P E c s) = _ := fun k => c_fail k hS.2.1
  obtain ⟨b1, b2, b3, b4, b5, b6⟩ := h.1
  rw [k_X3_readClause_0, rl_49 hS, Vk_v, k_X3_readClause_4]
  unfold clR
  by_cases e9 : kdC B n p = 9
  · rw [decide_eq_true e9, cond_true, cond_true, show (!decide ((-1 : Int32) = -1)) = false from rfl, cond_false, show (1 : Int32) = nI 1 from rfl, F, Vk_v, k_X3_readClause_18]
    exact ⟨-1, _, rfl, ⟨rfl, flC_6.1, flC_6.2⟩, FxD.fl⟩
  · have k9 : kdC B n p < 9 := by have := kdC_le (B := B) (n := n) (p := p); omega
    have ne : (!decide (nI (kdC B n p) = (-1 : Int32))) = true := by
      rw [decide_eq_false (fun q => by
        have e2 := congrArg Int32.toInt q
        rw [nI_toInt (by omega), show (-1 : Int32).toInt = -1 by decide +kernel] at e2
        omega)]
      rfl
    rw [decide_eq_false e9, cond_false, cond_false, ne, cond_true, show decide ((60 : Int32) ≤ nI cl) = decide (60 ≤ cl) from nI_led (a := 60) (by decide) (by omega)]
    cases h60 : decide (60 ≤ cl) with
    | true =>
      rw [Bool.true_or, cond_true, cond_true, show (3 : Int32) = nI 3 from rfl, F, Vk_v, k_X3_readClause_41]
      exact ⟨-1, _, rfl, ⟨rfl, flC_6.1, flC_6.2⟩, FxD.fl⟩
    | false =>
      rw [Bool.false_or, cond_false, rl_50 hS _ k9 b3 b4 b5, Vk_v, k_X3_readClause_30, b2i_eq0]
      cases hf : fullB D (kdC B n p) with
      | true =>
        rw [Bool.not_true, cond_false, cond_true, show (3 : Int32) = nI 3 from rfl, F, Vk_v, k_X3_readClause_41]
        exact ⟨-1, _, rfl, ⟨rfl, flC_6.1, flC_6.2⟩, FxD.fl⟩
      | false =>
        obtain ⟨J3, r3, s6, f3⟩ := hS.next (dd := dd + 3) (nn := nn) (L := L) (P := P) (E := E) (c := c) (s := s)
        rw [en_w (kdC_sm e9)] at s6
        have w1 := wd_ge (B := B) (n := n) p
        have T : kdC B n p = 0 → cl = 0 → True := fun _ _ => trivial
        have M : ObV B n (Vk (dd + 3) 48 63 [] [(0, vR (some (142, 0))), (2, vi (nI (kdC B n p)))] (V PR (dd + 3) 120 0 [(0, vR (some (102, 0)))] [] (mm nn I L P E c s))) (fun J => mm nn J L P E c s) I (semK B n (bdK B n (kdC B n p) D (sk B n (wd B n p)))) := by
          rw [r3, Vk_n, k_X3_readClause_66]
          refine ObV.tr f3 ?_
          obtain ⟨v, J4, r4, p4, f4⟩ := rl_51 (dd := dd) (nn := nn) (L := L) (P := P) (E := E) (c := c) (s := s) s6 _ k9 hf b2 b3 b4 b5
          rw [r4, Vk_v, k_X3_readClause_71]
          generalize bdK B n (kdC B n p) D (sk B n (wd B n p)) = r at *
          cases r with
          | inl x =>
            obtain ⟨k, q⟩ := x
            obtain ⟨rfl, p5, p6⟩ := p4
            rw [m1_ge, cond_false]
            exact ⟨-1, J4, rfl, ⟨rfl, p5, p6⟩, f4⟩
          | inr x =>
            obtain ⟨q, D1⟩ := x
            obtain ⟨⟨y, y1, rfl⟩, S5⟩ := p4
            rw [ge0 y1, cond_true, show (59 : Int32) = nI 59 from rfl, c_sign (by decide) S5.1 S5.2.1, Vk_v, k_X3_readClause_85, b2i_ne0]
            show ObV B n _ _ J3 (bif sgB B n q 59 then .inr (sk B n (q + 1), D1) else .inl (1, q))
            cases hs : sgB B n q 59 with
            | true =>
              obtain ⟨J6, r6, s7, f6⟩ := S5.next (dd := dd + 3) (nn := nn) (L := L) (P := P) (E := E) (c := c) (s := s)
              rw [en_sg hs] at s7
              rw [cond_true, cond_true, r6, Vk_n, k_X3_readClause_104]
              exact ⟨0, J6, rfl, ⟨⟨0, by decide, rfl⟩, s7⟩, f4.tr f6⟩
            | false =>
              have F2 : V PR (dd + 3) 121 0 [(0, vR (some (102, 0))), (1, vi (1 : Int32))] [] (mm nn J4 L P E c s) = _ := c_fail 1 S5.2.1
              rw [cond_false, cond_false, F2, Vk_v, k_X3_readClause_96]
              exact ⟨-1, _, rfl, ⟨rfl, flC_6.1, flC_6.2⟩, f4.tr FxD.fl⟩
        rw [Bool.not_false, cond_true, cond_false, show decide (nI (kdC B n p) = (0 : Int32)) = decide (kdC B n p = 0) from decide_eq_decide.mpr (nI_eq (b := 0) (by omega) (by decide)), show decide (nI cl ≤ (0 : Int32)) = decide (cl ≤ 0) from nI_led (b := 0) (by omega) (by decide)]
        by_cases e0 : kdC B n p = 0
        · by_cases ec : cl = 0
          · rw [decide_eq_true e0, Bool.not_true, cond_false, decide_eq_true (show cl ≤ 0 by omega), cond_true, decide_eq_false (show ¬ 0 < cl by omega), Bool.and_false, cond_false]
            exact M
          · rw [decide_eq_true e0, Bool.not_true, cond_false, decide_eq_false (show ¬ cl ≤ 0 by omega), cond_false, decide_eq_true (show 0 < cl by omega), Bool.and_true, cond_true, show (4 : Int32) = nI 4 from rfl, F, Vk_v, k_X3_readClause_58]
            exact ⟨-1, _, rfl, ⟨rfl, flC_6.1, flC_6.2⟩, FxD.fl⟩
        · rw [decide_eq_false e0, Bool.not_false, cond_true, Bool.false_and, cond_false]
          exact M
end Clar
