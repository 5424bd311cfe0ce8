/-! THE COUNTRY: the reference reads a well. -/
section Crdw
variable {B : Nat → Nat} {n : Nat} {dd nn : Nat} {I J : FI} {L : FL} {P : FR} {E : FE} {c s p a cl k q z w : Nat} {D : Dr}
theorem wd_sm {i : Nat} (h1 : p ≤ i) (h2 : i < wd B n p) : smB B n i = true := rnE_in (smB B n) (n - p) p i h1 h2
theorem wd_ns (hp : p ≤ n) : smB B n (wd B n p) = false := by
  by_cases h : wd B n p < n
  · exact rnE_out (smB B n) (n - p) p (by have := h; unfold wd at this; omega)
  · unfold smB
    rw [decide_eq_false h]
    rfl
theorem sm_at {i : Nat} (h : smB B n i = true) : i < n ∧ 97 ≤ B i ∧ B i ≤ 122 := by
  unfold smB at h
  rw [Bool.and_eq_true, Bool.and_eq_true, decide_eq_true_eq, decide_eq_true_eq, decide_eq_true_eq] at h
  exact h
theorem tz_0 : (0 : Int32).toNatClampNeg = 0 := rfl
theorem tz_1 : (1 : Int32).toNatClampNeg = 1 := rfl
theorem tz_2 : (2 : Int32).toNatClampNeg = 2 := rfl
theorem tz_3 : (3 : Int32).toNatClampNeg = 3 := rfl
theorem tz_4 : (4 : Int32).toNatClampNeg = 4 := rfl
theorem tz_5 : (5 : Int32).toNatClampNeg = 5 := rfl
theorem ib6_0 : inb (0 : Int32) 6 = true := by decide +kernel
theorem ib6_1 : inb (1 : Int32) 6 = true := by decide +kernel
theorem ib6_2 : inb (2 : Int32) 6 = true := by decide +kernel
theorem ib6_3 : inb (3 : Int32) 6 = true := by decide +kernel
theorem ib6_4 : inb (4 : Int32) 6 = true := by decide +kernel
theorem ib6_5 : inb (5 : Int32) 6 = true := by decide +kernel
theorem byV_in {i : Nat} (h : i < n) : byV B n i = nI (B i) := if_pos h
theorem m97 {i : Nat} (h : smB B n i = true) : nI (B i) - 97 = nI (B i - 97) := by
  exact pk_sub (b := 97) (sm_at h).2.1
/-- with a fault the letters are only passed -/
theorem nw_d {x2 : Int32} (hw : w < 6) (hpn : p ≤ n) : ∀ r i (I : FI), i + r = wd B n p → p ≤ i → TxR B n I → I 186 0 4 = nI i → DeR B n I k z → ∃ J : FI, V PR (dd + 3) 230 76 [(0, vR (some (186, 0))), (1, vR (some (191, w + 1))), (2, vi x2)] [] (mm nn I L P E c s) = some (.inl none, mm nn J L P E c s) ∧ DeR B n J k z ∧ FxQ I J
  | 0, i, I, e, hp, hT, h4, hd => by
    have hi : i ≤ n := by have := wd_le (B := B) hpn; omega
    have hs : smB B n i = false := by rw [show i = wd B n p by omega]; exact wd_ns hpn
    refine ⟨up3 I 189 0 2 (I 189 0 2 + 0), ?_, hd.up (by decide), FxQ.rfl'.v (.inl rfl)⟩
    have h6 := hT.1
    rw [k_X12_newWell_76, h4, r_byte hT (by omega), Vk_v, k_X12_newWell_84, r_small hT.2.2.1, Vk_v, k_X12_newWell_87, hs, show decide (b2i false = 0) = true by decide +kernel, cond_true, hd.d, cond_true]
  | r + 1, i, I, e, hp, hT, h4, hd => by
    have hs : smB B n i = true := wd_sm hp (by omega)
    obtain ⟨s1, s2, s3⟩ := sm_at hs
    have h6 := hT.1
    have A1 : arrOk (mm nn I L P E c s) 191 (w + 1) 0 (1 : Int32) = true := by rw [aro_191, blt_t hw, ib6_1]; rfl
    have N : ∀ y : Int32, ∃ J : FI, V PR (dd + 3) 230 76 [(0, vR (some (186, 0))), (1, vR (some (191, w + 1))), (2, vi x2)] [] (mm nn (up3 (up3 I 191 (w + 1) 1 y) 186 0 4 ((up3 I 191 (w + 1) 1 y) 186 0 4 + 1)) L P E c s) = some (.inl none, mm nn J L P E c s) ∧ DeR B n J k z ∧ FxQ I J := fun y => by
      have e4 : (up3 I 191 (w + 1) 1 y) 186 0 4 + 1 = nI (i + 1) := by rw [up3_a (by decide), h4, nI_1]
      rw [e4]
      obtain ⟨J, r1, d1, f1⟩ := nw_d (x2 := x2) hw hpn r (i + 1) (up3 (up3 I 191 (w + 1) 1 y) 186 0 4 (nI (i + 1))) (by omega) (by omega) ⟨hT.1, hT.2.1, hT.2.2.1, hT.2.2.2⟩ (up3_i _ _ _ _ _) ((hd.up (by decide)).mv (by omega))
      exact ⟨J, r1, d1, ((FxQ.rfl'.v (.inr (.inl rfl))).u (by decide)).tr f1⟩
    have G : ∃ J : FI, V PR (dd + 3) 230 129 [(0, vR (some (186, 0))), (1, vR (some (191, w + 1))), (2, vi x2), (3, vi (nI (B i - 97)))] [] (mm nn I L P E c s) = some (.inl none, mm nn J L P E c s) ∧ DeR B n J k z ∧ FxQ I J := by
      rw [k_X12_newWell_129, A1, cond_true, tz_1]
      cases decide ((4 : Int32) ≤ nI (B i - 97)) with
      | true => exact N _
      | false => exact N _
    rw [k_X12_newWell_76, h4, r_byte hT (by omega), Vk_v, k_X12_newWell_84, r_small hT.2.2.1, Vk_v, k_X12_newWell_87, hs, show decide (b2i true = 0) = false by decide +kernel, cond_false, h4, r_byte hT (by omega), Vk_v, k_X12_newWell_98, byV_in s1, m97 hs, r_wrong_dead hd.d, Vk_n, A1]
    cases decide (I 189 0 0 ≤ nI (B i - 97)) with
    | true => exact G
    | false =>
      rw [cond_false, cond_true, tz_1]
      cases (!decide (((I 191 (w + 1) 1 >>> (nI (B i - 97) &&& 31)) &&& 1) = (1 : Int32))) with
      | false => exact G
      | true =>
        cases decide ((4 : Int32) ≤ nI (B i - 97)) with
        | true => exact N _
        | false => exact N _
theorem tb_nIc {b k : Nat} (hb : b < 16) (hk : k < 26) : decide (((nI b >>> (nI k &&& 31)) &&& 1) = (1 : Int32)) = b.testBit k := by
  have h : ∀ b, b < 16 → ∀ k, k < 26 → decide (((nI b >>> (nI k &&& 31)) &&& 1) = (1 : Int32)) = b.testBit k := by decide +kernel
  exact h b hb k hk
def NwP (B : Nat → Nat) (n p w N r i b : Nat) (x : Option (Out × Mem)) (mk : FI → Mem) (I : FI) : Prop := match lbP B N r i b with
  | some b1 => ∃ J : FI, x = some (.inl none, mk (up3 J 189 0 2 (I 189 0 2 + 1))) ∧ AtR B n J (wd B n p) ∧ J 191 (w + 1) 1 = nI b1 ∧ ∀ a r j, ¬ (a = 186 ∧ j = 4) → ¬ (a = 191 ∧ r = w + 1 ∧ j = 1) → J a r j = I a r j
  | none => ∃ J : FI, x = some (.inl none, mk J) ∧ DeR B n J 2 p ∧ FxQ I J
theorem nw_l {N : Nat} (hw : w < 6) (hN : N ≤ 4) (hpn : p ≤ n) : ∀ r i b (I : FI), i + r = wd B n p → p ≤ i → b < 16 → AtR B n I i → I 189 0 0 = nI N → I 191 (w + 1) 1 = nI b → NwP B n p w N r i b (V PR (dd + 3) 230 76 [(0, vR (some (186, 0))), (1, vR (some (191, w + 1))), (2, vi (nI p))] [] (mm nn I L P E c s)) (fun J => mm nn J L P E c s) I
  | 0, i, b, I, e, hp, hb, hA, h0, h1 => by
    have hs : smB B n i = false := by rw [show i = wd B n p by omega]; exact wd_ns hpn
    have h6 := hA.1.1
    have hi := hA.2.1
    refine ⟨I, ?_, (show i = wd B n p by omega) ▸ hA, h1, fun _ _ _ _ _ => rfl⟩
    rw [k_X12_newWell_76, hA.2.2.1, r_byte hA.1 (by omega), Vk_v, k_X12_newWell_84, r_small hA.1.2.2.1, Vk_v, k_X12_newWell_87, hs, show decide (b2i false = 0) = true by decide +kernel, cond_true, hA.2.2.2, n0t, cond_false]
  | r + 1, i, b, I, e, hp, hb, hA, h0, h1 => by
    have hs : smB B n i = true := wd_sm hp (by omega)
    obtain ⟨s1, s2, s3⟩ := sm_at hs
    have h6 := hA.1.1
    have A1 : ∀ J : FI, arrOk (mm nn J L P E c s) 191 (w + 1) 0 (1 : Int32) = true := fun J => by rw [aro_191, blt_t hw, ib6_1]; rfl
    have W : V PR (dd + 2) 214 0 [(0, vR (some (186, 0))), (1, vi (2 : Int32)), (2, vi (nI p))] [] (mm nn I L P E c s) = some (.inl none, mm nn (flR I 2 p) L P E c s) := r_wrong hA.2.2.2
    have hd : DeR B n (flR I 2 p) 2 p := DeR.fl hA (by decide) (by decide)
    have N2 : ∀ y : Int32, ∃ J : FI, V PR (dd + 3) 230 76 [(0, vR (some (186, 0))), (1, vR (some (191, w + 1))), (2, vi (nI p))] [] (mm nn (up3 (up3 (flR I 2 p) 191 (w + 1) 1 y) 186 0 4 ((up3 (flR I 2 p) 191 (w + 1) 1 y) 186 0 4 + 1)) L P E c s) = some (.inl none, mm nn J L P E c s) ∧ DeR B n J 2 p ∧ FxQ I J := fun y => by
      have e4 : (up3 (flR I 2 p) 191 (w + 1) 1 y) 186 0 4 + 1 = nI (i + 1) := by
        rw [up3_a (by decide)]
        unfold flR
        rw [up3_k (by decide), up3_k (by decide), hA.2.2.1, nI_1]
      rw [e4]
      obtain ⟨J, r1, d1, f1⟩ := nw_d (dd := dd) (nn := nn) (L := L) (P := P) (E := E) (c := c) (s := s) (x2 := nI p) hw hpn r (i + 1) (up3 (up3 (flR I 2 p) 191 (w + 1) 1 y) 186 0 4 (nI (i + 1))) (by omega) (by omega) ⟨hA.1.1, hA.1.2.1, hA.1.2.2.1, hA.1.2.2.2⟩ (up3_i _ _ _ _ _) ((hd.up (by decide)).mv (by omega))
      exact ⟨J, r1, d1, (((FxQ.rfl'.fl).v (.inr (.inl rfl))).u (by decide)).tr f1⟩
    have G : ∃ J : FI, V PR (dd + 3) 230 129 [(0, vR (some (186, 0))), (1, vR (some (191, w + 1))), (2, vi (nI p)), (3, vi (nI (B i - 97)))] [] (mm nn (flR I 2 p) L P E c s) = some (.inl none, mm nn J L P E c s) ∧ DeR B n J 2 p ∧ FxQ I J := by
      rw [k_X12_newWell_129, A1, cond_true, tz_1]
      cases decide ((4 : Int32) ≤ nI (B i - 97)) with
      | true => exact N2 _
      | false => exact N2 _
    unfold NwP
    rw [k_X12_newWell_76, hA.2.2.1, r_byte hA.1 (by omega), Vk_v, k_X12_newWell_84, r_small hA.1.2.2.1, Vk_v, k_X12_newWell_87, hs, show decide (b2i true = 0) = false by decide +kernel, cond_false, hA.2.2.1, r_byte hA.1 (by omega), Vk_v, k_X12_newWell_98, byV_in s1, m97 hs, W, Vk_n, A1, tz_1, h1, h0, nI_led (by omega) (by omega), tb_nIc hb (by omega)]
    unfold lbP
    by_cases g : N ≤ B i - 97
    · rw [decide_eq_true g, Bool.true_or, cond_true, cond_true]
      exact G
    · rw [decide_eq_false g, Bool.false_or, cond_false, cond_true]
      cases hx : b.testBit (B i - 97) with
      | true =>
        rw [Bool.not_true, cond_false, cond_true]
        exact G
      | false =>
        obtain ⟨o1, o2⟩ := or_nIb hb (show B i - 97 < 4 by omega)
        have e4 : (up3 I 191 (w + 1) 1 (nI (b ||| 2 ^ (B i - 97)))) 186 0 4 + 1 = nI (i + 1) := by rw [up3_a (by decide), hA.2.2.1, nI_1]
        rw [Bool.not_false, cond_true, cond_true, show decide ((4 : Int32) ≤ nI (B i - 97)) = false from (nI_led (a := 4) (by decide) (by omega)).trans (decide_eq_false (by omega)), cond_false, cond_true, o1, cond_false, e4]
        have ih := nw_l hw hN hpn r (i + 1) _ (up3 (up3 I 191 (w + 1) 1 (nI (b ||| 2 ^ (B i - 97)))) 186 0 4 (nI (i + 1))) (by omega) (by omega) o2 ⟨⟨hA.1.1, hA.1.2.1, hA.1.2.2.1, hA.1.2.2.2⟩, by omega, up3_i _ _ _ _ _, hA.2.2.2⟩ h0 ((up3_a (by decide)).trans (up3_i _ _ _ _ _))
        unfold NwP at ih
        cases hl : lbP B N r (i + 1) (b ||| 2 ^ (B i - 97)) with
        | none =>
          rw [hl] at ih
          obtain ⟨J, r1, d1, f1⟩ := ih
          exact ⟨J, r1, d1, ((FxQ.rfl'.v (.inr (.inl rfl))).u (by decide)).tr f1⟩
        | some b1 =>
          rw [hl] at ih
          obtain ⟨J, r1, a1, l1, f1⟩ := ih
          exact ⟨J, r1, a1, l1, fun a r j q1 q2 => (f1 a r j q1 q2).trans ((up3_o (fun g => q1 ⟨g.1, g.2.2⟩)).trans (up3_o q2))⟩
def nwI (J : FI) (w : Nat) (y : Int32) : FI := up3 (up3 (up3 (up3 (up3 (up3 J 191 (w + 1) 0 y) 191 (w + 1) 1 0) 191 (w + 1) 2 0) 191 (w + 1) 3 0) 191 (w + 1) 4 (-1)) 191 (w + 1) 5 (-1)
theorem nwI_o {b r j : Nat} {y : Int32} (h : ¬ (b = 191 ∧ r = w + 1)) : nwI J w y b r j = J b r j := by
  unfold nwI
  rw [up3_o (fun g => h ⟨g.1, g.2.1⟩), up3_o (fun g => h ⟨g.1, g.2.1⟩), up3_o (fun g => h ⟨g.1, g.2.1⟩), up3_o (fun g => h ⟨g.1, g.2.1⟩), up3_o (fun g => h ⟨g.1, g.2.1⟩), up3_o (fun g => h ⟨g.1, g.2.1⟩)]
theorem nwI_fx {y : Int32} : FxQ J (nwI J w y) := fun a r j q1 q2 q3 q4 q5 => nwI_o (fun g => q3 g.1)
theorem nw_15 {y : Int32} (hw : w < 6) : V PR (dd + 3) 230 15 [(0, vR (some (186, 0))), (1, vR (some (191, w + 1)))] [vi y, vi (0 : Int32), vR (some (191, w + 1))] (mm nn J L P E c s) = bif decide ((nwI J w y) 186 0 5 = 0) then Vk (dd + 2) 230 45 [] [(0, vR (some (186, 0))), (1, vR (some (191, w + 1)))] (V PR (dd + 2) 213 0 [(0, vR (some (186, 0)))] [] (mm nn (nwI J w y) L P E c s)) else some (.inl none, mm nn (nwI J w y) L P E c s) := by
  rw [k_X12_newWell_15]
  simp only [aro_191, blt_t hw, ib6_0, ib6_1, ib6_2, ib6_3, ib6_4, ib6_5, Bool.and_self, cond_true, tz_0, tz_1, tz_2, tz_3, tz_4, tz_5]
  rfl
theorem r_230 (hS : StQ B n I p D cl) (hN : dN D ≤ 4) (hP : dP D ≤ 8) (hW : dW D < 6) (h9 : dL D (dW D) 2 = 0 ∧ dL D (dW D) 3 = 0 ∧ dL D (dW D) 4 = -1 ∧ dL D (dW D) 5 = -1) : ObR B n cl (V PR (dd + 3) 230 0 [(0, vR (some (186, 0))), (1, vR (some (191, dW D + 1)))] [] (mm nn I L P E c s)) (fun J => mm nn J L P E c s) I (bdW B n D p) := by
  rw [k_X12_newWell_0, hS.2.2.2.1.2.1, show (0 : Int32) = nI 0 from rfl]
  refine nuR (l := 0) (h := dP D) hS (by decide) (by omega) (hiO_p (by omega)) (fun J hJ l0 l1 l2 => ?_) (fun J y k z hd => ?_)
  · obtain ⟨⟨a1, hA, ea⟩, h6, h7, hD⟩ := hJ
    generalize sk B n (dg B n p) = q at *
    subst ea
    generalize nuV B n p = v at *
    have hA1 : AtR B n (nwI J (dW D) (nI v)) a1 := hA.d9 (fun b r j hb => nwI_o (fun g => by omega))
    have hK := hA1.sk
    have hq := hK.2.1
    have e7 : ∀ j, (up3 (nwI J (dW D) (nI v)) 186 0 4 (nI (sk B n a1))) 189 0 j = J 189 0 j := fun j => (up3_a (by decide)).trans (nwI_o (fun g => by omega))
    have h600 := hA.1.1
    rw [show nI 0 = (0 : Int32) from rfl, nw_15 hW, hA1.2.2.2, d0t, cond_true, r_blanks hA1.1 hA1.2.1 hA1.2.2.1, Vk_n, k_X12_newWell_48, up3_i, r_byte hK.1 (by omega), Vk_v, k_X12_newWell_61, r_small hK.1.2.2.1, Vk_v, k_X12_newWell_64]
    have F0 : FxQ J (up3 (nwI J (dW D) (nI v)) 186 0 4 (nI (sk B n a1))) := nwI_fx.u (by decide)
    unfold knK
    cases hs : smB B n (sk B n a1) with
    | false =>
      have W : V PR (dd + 2) 214 0 [(0, vR (some (186, 0))), (1, vi (1 : Int32)), (2, vi (nI (sk B n a1)))] [] (mm nn (up3 (nwI J (dW D) (nI v)) 186 0 4 (nI (sk B n a1))) L P E c s) = some (.inl none, mm nn (flR (up3 (nwI J (dW D) (nI v)) 186 0 4 (nI (sk B n a1))) 1 (sk B n a1)) L P E c s) := r_wrong hK.2.2.2
      obtain ⟨J', r1, d1, f1⟩ := nw_d (dd := dd) (nn := nn) (L := L) (P := P) (E := E) (c := c) (s := s) (p := sk B n a1) (w := dW D) (x2 := nI (sk B n a1)) hW hq 0 (sk B n a1) (flR (up3 (nwI J (dW D) (nI v)) 186 0 4 (nI (sk B n a1))) 1 (sk B n a1)) (by rw [wd_eq hs]; rfl) (Nat.le_refl _) ⟨hK.1.1, hK.1.2.1, hK.1.2.2.1, hK.1.2.2.2⟩ (by unfold flR; rw [up3_k (by decide), up3_k (by decide)]; exact hK.2.2.1) (DeR.fl hK (by decide) (by decide))
      rw [show (!decide (b2i false = 0)) = false by decide +kernel, cond_false, up3_i, W, Vk_n, r1, cond_false]
      exact ⟨J', rfl, d1, F0.fl.tr f1⟩
    | true =>
      have N := nw_l (dd := dd) (nn := nn) (L := L) (P := P) (E := E) (c := c) (s := s) (p := sk B n a1) (w := dW D) (N := dN D) hW hN hq (wd B n (sk B n a1) - sk B n a1) (sk B n a1) 0 (up3 (nwI J (dW D) (nI v)) 186 0 4 (nI (sk B n a1))) (by have := wd_ge (B := B) (n := n) (sk B n a1); omega) (Nat.le_refl _) (by decide) hK ((e7 0).trans hD.1.1) ((up3_a (by decide)).trans (by unfold nwI; rw [up3_k (by decide), up3_k (by decide), up3_k (by decide), up3_k (by decide), up3_i]; rfl))
      rw [show (!decide (b2i true = 0)) = true by decide +kernel, cond_true, cond_true]
      unfold NwP at N
      cases hl : lbP B (dN D) (wd B n (sk B n a1) - sk B n a1) (sk B n a1) 0 with
      | none =>
        rw [hl] at N
        obtain ⟨J', r1, d1, f1⟩ := N
        exact ⟨J', r1, d1, F0.tr f1⟩
      | some b =>
        rw [hl] at N
        obtain ⟨J', r1, a2, l3, f1⟩ := N
        have g : ∀ b r j, ¬ (b = 186 ∧ j = 4) → ¬ (b = 191 ∧ r = dW D + 1) → J' b r j = J b r j := fun b r j q1 q2 => (f1 b r j q1 (fun g => q2 ⟨g.1, g.2.1⟩)).trans ((up3_o (fun g => q1 ⟨g.1, g.2.2⟩)).trans (nwI_o q2))
        have gw : ∀ j, j ≠ 1 → J' 191 (dW D + 1) j = nwI J (dW D) (nI v) 191 (dW D + 1) j := fun j hj => (f1 191 _ j (fun g => absurd g.1 (by decide)) (fun g => hj g.2.2)).trans (up3_a (by decide))
        have e2 : (up3 (nwI J (dW D) (nI v)) 186 0 4 (nI (sk B n a1))) 189 0 2 + 1 = nI (dW D + 1) := by rw [e7, hD.1.2.2.1, nI_1]
        rw [e2] at r1
        refine ⟨_, r1, ⟨⟨_, a2.d9 (fun b r j hb => up3_a (by omega)), rfl⟩, ?_, ?_, ?_⟩, fun b r j q1 q2 q3 q4 q5 => (up3_a q2).trans (g b r j (fun e => (q1 e.1).1 e.2) (fun e => q3 e.1))⟩
        · rw [up3_a (by decide), g 186 0 6 (by decide) (by omega)]
          exact h6
        · rw [up3_a (by decide), g 186 0 7 (by decide) (by omega)]
          exact h7
        · obtain ⟨⟨x0, x1, x2, x3, x4, x5, x6⟩, y1, y2, y3⟩ := hD
          have gg : ∀ j, j ≠ 2 → (up3 J' 189 0 2 (nI (dW D + 1))) 189 0 j = J 189 0 j := fun j hj => (up3_k hj).trans (g 189 0 j (by omega) (by omega))
          refine ⟨⟨(gg 0 (by decide)).trans x0, (gg 1 (by decide)).trans x1, up3_i _ _ _ _ _, (gg 3 (by decide)).trans x3, (gg 4 (by decide)).trans x4, (gg 5 (by decide)).trans x5, (gg 6 (by decide)).trans x6⟩, fun i j hi hj => ?_, fun i j hi hj => ?_, fun i j hi hj => ?_⟩
          · rw [up3_a (by decide), g 211 (i + 1) j (by omega) (by omega)]
            exact y1 i j hi hj
          · have hi2 : i < dW D + 1 := hi
            show _ = st2 (st2 (dL D) (dW D) 0 (nI v)) (dW D) 1 (nI b) i j
            rw [up3_a (by decide)]
            by_cases e : i = dW D
            · subst e
              rcases (show j = 0 ∨ j = 1 ∨ j = 2 ∨ j = 3 ∨ j = 4 ∨ j = 5 by omega) with rfl | rfl | rfl | rfl | rfl | rfl
              · rw [st2_o (by omega), st2_i, gw 0 (by decide)]
                unfold nwI
                rw [up3_k (by decide), up3_k (by decide), up3_k (by decide), up3_k (by decide), up3_k (by decide), up3_i]
              · rw [st2_i]
                exact l3
              · rw [st2_o (by omega), st2_o (by omega), gw 2 (by decide), h9.1]
                unfold nwI
                rw [up3_k (by decide), up3_k (by decide), up3_k (by decide), up3_i]
              · rw [st2_o (by omega), st2_o (by omega), gw 3 (by decide), h9.2.1]
                unfold nwI
                rw [up3_k (by decide), up3_k (by decide), up3_i]
              · rw [st2_o (by omega), st2_o (by omega), gw 4 (by decide), h9.2.2.1]
                unfold nwI
                rw [up3_k (by decide), up3_i]
              · rw [st2_o (by omega), st2_o (by omega), gw 5 (by decide), h9.2.2.2]
                unfold nwI
                rw [up3_i]
            · rw [st2_o (by omega), st2_o (by omega), g 191 (i + 1) j (by omega) (by omega)]
              exact y2 i j (by omega) hj
          · rw [up3_a (by decide), g 205 (i + 1) j (by omega) (by omega)]
            exact y3 i j hi hj
  · rw [show nI 0 = (0 : Int32) from rfl, nw_15 hW]
    have h1 : DeR B n (nwI J (dW D) y) k z := hd.d9 (fun b r j hb => nwI_o (fun g => by omega))
    rw [h1.f, cond_false]
    exact ⟨_, rfl, h1, nwI_fx⟩
end Crdw
