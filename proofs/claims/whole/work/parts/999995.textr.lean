/-! TEXTS: the reference's reading (in part written by program). -/
section Pure4
variable (B : Nat → Nat) (n : Nat)
/-- a byte, or that there is none -/
def byV (k : Nat) : Int32 := if k < n then nI (B k) else -1
/-- letters by 27s -/
def cd27 (f : Nat → Nat) : Nat → Nat
  | 0 => 0
  | i + 1 => 27 * cd27 f i + f i
def cdW (p : Nat) : Int32 := if wd B n p - p ≤ 5 then nI (cd27 (fun i => B (p + i) - 96) (wd B n p - p)) else -1
end Pure4
theorem cd27_inj {f g : Nat → Nat} : ∀ m k, (∀ i, i < m → 1 ≤ f i ∧ f i ≤ 26) → (∀ i, i < k → 1 ≤ g i ∧ g i ≤ 26) → cd27 f m = cd27 g k → m = k ∧ ∀ i, i < m → f i = g i
  | 0, 0, _, _, _ => ⟨rfl, fun i hi => absurd hi (Nat.not_lt_zero i)⟩
  | 0, k + 1, _, h2, h => by
    have := h2 k (by omega)
    have h3 : 0 = 27 * cd27 g k + g k := h
    omega
  | m + 1, 0, h1, _, h => by
    have := h1 m (by omega)
    have h3 : 27 * cd27 f m + f m = 0 := h
    omega
  | m + 1, k + 1, h1, h2, h => by
    have a1 := h1 m (by omega)
    have a2 := h2 k (by omega)
    have h3 : 27 * cd27 f m + f m = 27 * cd27 g k + g k := h
    obtain ⟨e1, e2⟩ := cd27_inj m k (fun i hi => h1 i (by omega)) (fun i hi => h2 i (by omega)) (by omega)
    subst e1
    refine ⟨rfl, fun i hi => ?_⟩
    by_cases e : i = m
    · subst e
      omega
    · exact e2 i (by omega)
theorem cd27_lt {f : Nat → Nat} : ∀ m, (∀ i, i < m → f i ≤ 26) → cd27 f m < 27 ^ m
  | 0, _ => Nat.one_pos
  | m + 1, h => by
    have a1 := h m (by omega)
    have a2 := cd27_lt m (fun i hi => h i (by omega))
    have h3 : cd27 f (m + 1) = 27 * cd27 f m + f m := rfl
    rw [Nat.pow_succ]
    omega
theorem pt_ok : ∀ k, k < 17 → 2 ≤ k → (prgT k).length ≤ 5 ∧ ∀ i, i < 5 → i < (prgT k).length → 97 ≤ (prgT k).getD i 0 ∧ (prgT k).getD i 0 ≤ 122 := by decide +kernel
section TextR
variable {d nn : Nat} {I J : FI} {L : FL} {P : FR} {E : FE} {c s : Nat} {B : Nat → Nat} {n p a : Nat}
theorem cd_isW {k : Nat} (h2 : 2 ≤ k) (h17 : k < 17) : decide (cdW B n p = nI (cd27 (fun i => (prgT k).getD i 0 - 96) (prgT k).length)) = isW B n p (prgT k) := by
  obtain ⟨p1, p2⟩ := pt_ok k h17 h2
  have g2 : ∀ i, i < (prgT k).length → 1 ≤ (prgT k).getD i 0 - 96 ∧ (prgT k).getD i 0 - 96 ≤ 26 := fun i hi => by
    have := p2 i (by omega) hi
    omega
  have g1 : ∀ i, i < wd B n p - p → 1 ≤ B (p + i) - 96 ∧ B (p + i) - 96 ≤ 26 := fun i hi => by
    have := sm_r (wdr_in (B := B) (n := n) (p := p) (j := p + i) (by omega) (by omega))
    omega
  have l2 : cd27 (fun i => (prgT k).getD i 0 - 96) (prgT k).length < 27 ^ 5 := Nat.lt_of_lt_of_le (cd27_lt _ (fun i hi => (g2 i hi).2)) (Nat.pow_le_pow_right (by decide) p1)
  unfold cdW isW
  by_cases q : wd B n p - p ≤ 5
  · have l1 : cd27 (fun i => B (p + i) - 96) (wd B n p - p) < 27 ^ 5 := Nat.lt_of_lt_of_le (cd27_lt _ (fun i hi => (g1 i hi).2)) (Nat.pow_le_pow_right (by decide) q)
    rw [if_pos q, show decide (nI (cd27 (fun i => B (p + i) - 96) (wd B n p - p)) = nI (cd27 (fun i => (prgT k).getD i 0 - 96) (prgT k).length)) = decide (cd27 (fun i => B (p + i) - 96) (wd B n p - p) = cd27 (fun i => (prgT k).getD i 0 - 96) (prgT k).length) from decide_eq_decide.mpr (nI_eq (by omega) (by omega))]
    by_cases e : cd27 (fun i => B (p + i) - 96) (wd B n p - p) = cd27 (fun i => (prgT k).getD i 0 - 96) (prgT k).length
    · obtain ⟨e1, e2⟩ := cd27_inj _ _ g1 g2 e
      rw [decide_eq_true e, decide_eq_true e1, Bool.true_and]
      refine (alB_iff _ _ |>.mpr fun i _ hi => decide_eq_true ?_).symm
      have b1 := e2 i (by omega)
      have b2 := g2 i (by omega)
      have b3 := g1 i (by omega)
      have b4 : B (p + i) - 96 = (prgT k).getD i 0 - 96 := b1
      omega
    · rw [decide_eq_false e]
      symm
      rw [Bool.and_eq_false_iff]
      by_cases e1 : wd B n p - p = (prgT k).length
      · refine .inr ?_
        cases q2 : alB (fun i => decide (B (p + i) = (prgT k).getD i 0)) 0 (prgT k).length with
        | false => rfl
        | true =>
          refine absurd ?_ e
          have q3 := (alB_iff _ _).mp q2
          rw [e1]
          have hc : ∀ m, m ≤ (prgT k).length → cd27 (fun i => B (p + i) - 96) m = cd27 (fun i => (prgT k).getD i 0 - 96) m := fun m => by
            induction m with
            | zero => intro _; rfl
            | succ m ih =>
              intro hm
              show 27 * cd27 (fun i => B (p + i) - 96) m + (B (p + m) - 96) = 27 * cd27 (fun i => (prgT k).getD i 0 - 96) m + ((prgT k).getD m 0 - 96)
              rw [ih (by omega), of_decide_eq_true (q3 m (Nat.zero_le _) (by omega))]
          exact hc _ (Nat.le_refl _)
      · exact .inl (decide_eq_false e1)
  · rw [if_neg q, decide_eq_false (show ¬ wd B n p - p = (prgT k).length by omega), Bool.false_and]
    refine decide_eq_false fun e => ?_
    have e2 := congrArg Int32.toInt e
    rw [nI_toInt (by omega), show (-1 : Int32).toInt = -1 by decide +kernel] at e2
    omega
/-- the text lies before the reference -/
def TxR (B : Nat → Nat) (n : Nat) (I : FI) : Prop := n ≤ 600 ∧ I 186 0 2 = nI n ∧ (∀ k, k < n → B k < 256) ∧ ∀ k, k < n → I 187 0 k = nI (B k)
/-- but for its places in the text all is kept -/
theorem TxR.at (h : TxR B n I) {k : Nat} {x : Int32} (hk : k ≠ 2) : TxR B n (up3 I 186 0 k x) := ⟨h.1, (up3_k (by omega)).trans h.2.1, h.2.2.1, fun j hj => (up3_a (by decide)).trans (h.2.2.2 j hj)⟩
theorem r_byte {k : Nat} (hT : TxR B n I) (hk : k < 2 ^ 31) : V PR d 212 0 [(0, vR (some (186, 0))), (1, vi (nI k))] [] (mm nn I L P E c s) = some (.inl (some (vi (byV B n k))), mm nn I L P E c s) := by
  have h6 := hT.1
  rw [k_X12_byteAt_0, hT.2.1, nI_ltd hk (by omega)]
  unfold byV
  by_cases q : k < n
  · rw [decide_eq_true q, cond_true, if_pos q, inb_nI (by omega) (by decide), cond_true, nI_clamp hk, hT.2.2.2 k q]
  · rw [decide_eq_false q, cond_false, if_neg q]
theorem by_32 (hb : ∀ k, k < n → B k < 256) (k : Nat) : decide (byV B n k = 32) = blB B n k := by
  unfold byV blB
  by_cases q : k < n
  · have := hb k q
    rw [if_pos q, decide_eq_true q, Bool.true_and]
    exact decide_eq_decide.mpr (nI_eq (b := 32) (by omega) (by decide))
  · rw [if_neg q, decide_eq_false q, Bool.false_and]
    decide +kernel
theorem by_w (hb : ∀ k, k < n → B k < 256) (k w : Nat) (hw : w < 256) : decide (byV B n k = nI w) = (decide (k < n) && decide (B k = w)) := by
  unfold byV
  by_cases q : k < n
  · have := hb k q
    rw [if_pos q, decide_eq_true q, Bool.true_and]
    exact decide_eq_decide.mpr (nI_eq (by omega) (by omega))
  · rw [if_neg q, decide_eq_false q, Bool.false_and]
    refine decide_eq_false fun e => ?_
    have e2 := congrArg Int32.toInt e
    rw [nI_toInt (by omega), show (-1 : Int32).toInt = -1 by decide +kernel] at e2
    omega
theorem r_small (hb : ∀ k, k < n → B k < 256) (k : Nat) : V PR d 216 0 [(0, vi (byV B n k))] [] (mm nn I L P E c s) = some (.inl (some (vi (b2i (smB B n k)))), mm nn I L P E c s) := by
  rw [k_X12_isSmall_0]
  unfold byV smB
  by_cases q : k < n
  · have := hb k q
    rw [if_pos q, decide_eq_true q, Bool.true_and, show decide (nI (B k) < (97 : Int32)) = decide (B k < 97) from nI_ltd (b := 97) (by omega) (by decide), show decide ((122 : Int32) < nI (B k)) = decide (122 < B k) from nI_ltd (a := 122) (by decide) (by omega)]
    by_cases g1 : B k < 97
    · rw [decide_eq_true g1, cond_true, decide_eq_false (show ¬ 97 ≤ B k by omega)]; rfl
    · rw [decide_eq_false g1, cond_false, decide_eq_true (show 97 ≤ B k by omega)]
      by_cases g2 : 122 < B k
      · rw [decide_eq_true g2, cond_true, decide_eq_false (show ¬ B k ≤ 122 by omega)]; rfl
      · rw [decide_eq_false g2, cond_false, decide_eq_true (show B k ≤ 122 by omega)]; rfl
  · rw [if_neg q, decide_eq_false q, show decide ((-1 : Int32) < 97) = true by decide +kernel]; rfl
theorem r_digit (hb : ∀ k, k < n → B k < 256) (k : Nat) : V PR d 215 0 [(0, vi (byV B n k))] [] (mm nn I L P E c s) = some (.inl (some (vi (b2i (dgB B n k)))), mm nn I L P E c s) := by
  rw [k_X12_isDigit_0]
  unfold byV dgB
  by_cases q : k < n
  · have := hb k q
    rw [if_pos q, decide_eq_true q, Bool.true_and, show decide (nI (B k) < (48 : Int32)) = decide (B k < 48) from nI_ltd (b := 48) (by omega) (by decide), show decide ((57 : Int32) < nI (B k)) = decide (57 < B k) from nI_ltd (a := 57) (by decide) (by omega)]
    by_cases g1 : B k < 48
    · rw [decide_eq_true g1, cond_true, decide_eq_false (show ¬ 48 ≤ B k by omega)]; rfl
    · rw [decide_eq_false g1, cond_false, decide_eq_true (show 48 ≤ B k by omega)]
      by_cases g2 : 57 < B k
      · rw [decide_eq_true g2, cond_true, decide_eq_false (show ¬ B k ≤ 57 by omega)]; rfl
      · rw [decide_eq_false g2, cond_false, decide_eq_true (show B k ≤ 57 by omega)]; rfl
  · rw [if_neg q, decide_eq_false q, show decide ((-1 : Int32) < 48) = true by decide +kernel]; rfl
theorem r_blanks_l : ∀ r a (I : FI), a + r = n → TxR B n I → I 186 0 4 = nI a → V PR (d + 1) 213 0 [(0, vR (some (186, 0)))] [] (mm nn I L P E c s) = some (.inl none, mm nn (up3 I 186 0 4 (nI (rnE (blB B n) r a))) L P E c s)
  | 0, a, I, h, hT, h4 => by
    rw [k_X12_blanks_0, h4, r_byte hT (by have := hT.1; omega), Vk_v, k_X12_blanks_8, by_32 hT.2.2.1, bl_n (by omega), Bool.not_false, cond_true]
    show _ = some (Sum.inl none, mm nn (up3 I 186 0 4 (nI a)) L P E c s)
    rw [up3_same h4]
  | r + 1, a, I, h, hT, h4 => by
    rw [k_X12_blanks_0, h4, r_byte hT (by have := hT.1; omega), Vk_v, k_X12_blanks_8, by_32 hT.2.2.1]
    cases q : blB B n a with
    | true =>
      rw [Bool.not_true, cond_false, h4, nI_1, r_blanks_l r (a + 1) (up3 I 186 0 4 (nI (a + 1))) (by omega) (hT.at (by decide)) (up3_i _ _ _ _ _), up3_up, rnE_t q]
    | false =>
      rw [Bool.not_false, cond_true, rnE_f q, up3_same h4]
theorem r_blanks (hT : TxR B n I) (ha : a ≤ n) (h4 : I 186 0 4 = nI a) : V PR (d + 1) 213 0 [(0, vR (some (186, 0)))] [] (mm nn I L P E c s) = some (.inl none, mm nn (up3 I 186 0 4 (nI (sk B n a))) L P E c s) := r_blanks_l (n - a) a I (by omega) hT h4
theorem r_skip_l : ∀ r a (I : FI), a + r = n → TxR B n I → I 186 0 4 = nI a → V PR (d + 1) 222 0 [(0, vR (some (186, 0)))] [] (mm nn I L P E c s) = some (.inl none, mm nn (up3 I 186 0 4 (nI (rnE (smB B n) r a))) L P E c s)
  | 0, a, I, h, hT, h4 => by
    rw [k_X12_skipWord_0, h4, r_byte hT (by have := hT.1; omega), Vk_v, k_X12_skipWord_8, r_small hT.2.2.1, Vk_v, k_X12_skipWord_11, b2i_eq0, sm_n (by omega), Bool.not_false, cond_true]
    show _ = some (Sum.inl none, mm nn (up3 I 186 0 4 (nI a)) L P E c s)
    rw [up3_same h4]
  | r + 1, a, I, h, hT, h4 => by
    rw [k_X12_skipWord_0, h4, r_byte hT (by have := hT.1; omega), Vk_v, k_X12_skipWord_8, r_small hT.2.2.1, Vk_v, k_X12_skipWord_11, b2i_eq0]
    cases q : smB B n a with
    | true =>
      rw [Bool.not_true, cond_false, h4, nI_1, r_skip_l r (a + 1) (up3 I 186 0 4 (nI (a + 1))) (by omega) (hT.at (by decide)) (up3_i _ _ _ _ _), up3_up, rnE_t q]
    | false =>
      rw [Bool.not_false, cond_true, rnE_f q, up3_same h4]
theorem r_skip (hT : TxR B n I) (ha : a ≤ n) (h4 : I 186 0 4 = nI a) : V PR (d + 1) 222 0 [(0, vR (some (186, 0)))] [] (mm nn I L P E c s) = some (.inl none, mm nn (up3 I 186 0 4 (nI (wd B n a))) L P E c s) := r_skip_l (n - a) a I (by omega) hT h4
/-- the word's letters by 27s -/
theorem r_word_l (hT : TxR B n I) (h4 : I 186 0 4 = nI p) : ∀ r i (v : Int32), p + i + r = n → (i ≤ 6 → v = nI (cd27 (fun i => B (p + i) - 96) i)) → V PR (d + 1) 219 8 [(0, vR (some (186, 0))), (1, vi v), (2, vi (nI i))] [] (mm nn I L P E c s) = some (.inl (some (vi (if rnE (smB B n) r (p + i) - p ≤ 5 then nI (cd27 (fun i => B (p + i) - 96) (rnE (smB B n) r (p + i) - p)) else -1))), mm nn I L P E c s)
  | 0, i, v, h, hv => by
    have h6 := hT.1
    rw [k_X12_wordHere_8, h4, nI_add, r_byte hT (by omega), Vk_v, k_X12_wordHere_18, r_small hT.2.2.1, Vk_v, k_X12_wordHere_21, b2i_eq0, sm_n (by omega), Bool.not_false, cond_true, show decide (nI i ≤ (5 : Int32)) = decide (i ≤ 5) from nI_led (b := 5) (by omega) (by decide)]
    show _ = some (Sum.inl (some (vi (if p + i - p ≤ 5 then nI (cd27 (fun i => B (p + i) - 96) (p + i - p)) else -1))), mm nn I L P E c s)
    rw [show p + i - p = i by omega]
    by_cases q : i ≤ 5
    · rw [decide_eq_true q, cond_true, if_pos q, hv (by omega)]
    · rw [decide_eq_false q, cond_false, if_neg q]
  | r + 1, i, v, h, hv => by
    have h6 := hT.1
    rw [k_X12_wordHere_8, h4, nI_add, r_byte hT (by omega), Vk_v, k_X12_wordHere_18, r_small hT.2.2.1, Vk_v, k_X12_wordHere_21, b2i_eq0, show decide (nI i ≤ (5 : Int32)) = decide (i ≤ 5) from nI_led (b := 5) (by omega) (by decide), show decide ((6 : Int32) ≤ nI i) = decide (6 ≤ i) from nI_led (a := 6) (by decide) (by omega)]
    cases q : smB B n (p + i) with
    | false =>
      rw [Bool.not_false, cond_true, rnE_f q, show p + i - p = i by omega]
      by_cases q : i ≤ 5
      · rw [decide_eq_true q, cond_true, if_pos q, hv (by omega)]
      · rw [decide_eq_false q, cond_false, if_neg q]
    | true =>
      rw [Bool.not_true, cond_false, rnE_t q, nI_1]
      by_cases g : 6 ≤ i
      · rw [decide_eq_true g, cond_true]
        exact r_word_l hT h4 r (i + 1) v (by omega) (fun g2 => by omega)
      · have hs := sm_r q
        have hl := sm_lt q
        have ev : (27 : Int32) * v + byV B n (p + i) - 97 + 1 = nI (cd27 (fun i => B (p + i) - 96) (i + 1)) := by
          unfold byV
          rw [if_pos hl, hv (by omega), show (27 : Int32) * nI (cd27 (fun i => B (p + i) - 96) i) = nI (27 * cd27 (fun i => B (p + i) - 96) i) from pk_mul 27 _, nI_add, show (97 : Int32) = nI 97 from rfl, pk_sub (by omega), nI_1]
          show nI (27 * cd27 (fun i => B (p + i) - 96) i + B (p + i) - 97 + 1) = nI (27 * cd27 (fun i => B (p + i) - 96) i + (B (p + i) - 96))
          exact congrArg nI (by omega)
        rw [decide_eq_false g, cond_false, h4, nI_add, r_byte hT (by omega), Vk_v, k_X12_wordHere_44, nI_1, ev]
        exact r_word_l hT h4 r (i + 1) _ (by omega) (fun _ => rfl)
theorem r_word (hT : TxR B n I) (ha : a ≤ n) (h4 : I 186 0 4 = nI a) : V PR (d + 2) 219 0 [(0, vR (some (186, 0)))] [] (mm nn I L P E c s) = some (.inl (some (vi (cdW B n (sk B n a)))), mm nn (up3 I 186 0 4 (nI (sk B n a))) L P E c s) := by
  have hp := sk_le (B := B) ha
  have A := r_word_l (d := d + 1) (nn := nn) (L := L) (P := P) (E := E) (c := c) (s := s) (p := sk B n a) (hT.at (k := 4) (x := nI (sk B n a)) (by decide)) (up3_i _ _ _ _ _) (n - sk B n a) 0 0 (by omega) (fun _ => rfl)
  rw [k_X12_wordHere_0, r_blanks hT ha h4, Vk_n, k_X12_wordHere_4]
  exact A
/-- in a text without a fault, at a place -/
def AtR (B : Nat → Nat) (n : Nat) (I : FI) (a : Nat) : Prop := TxR B n I ∧ a ≤ n ∧ I 186 0 4 = nI a ∧ I 186 0 5 = 0
theorem AtR.sk (h : AtR B n I a) : AtR B n (up3 I 186 0 4 (nI (sk B n a))) (sk B n a) := ⟨h.1.at (by decide), sk_le h.2.1, up3_i _ _ _ _ _, (up3_k (by decide)).trans h.2.2.2⟩
theorem AtR.mv (h : AtR B n I a) {b : Nat} (hb : b ≤ n) : AtR B n (up3 I 186 0 4 (nI b)) b := ⟨h.1.at (by decide), hb, up3_i _ _ _ _ _, (up3_k (by decide)).trans h.2.2.2⟩
theorem n0t : (!decide ((0 : Int32) = 0)) = false := by decide +kernel

theorem rf_2 : V PR d 220 0 [(0, vi (1 : Int32)), (1, vi (20 : Int32)), (2, vi (15 : Int32)), (3, vi (13 : Int32)), (4, vi (19 : Int32))] [] (mm nn I L P E c s) = some (.inl (some (vi (nI (cd27 (fun i => (prgT 2).getD i 0 - 96) (prgT 2).length)))), mm nn I L P E c s) := by
  rw [show nI (cd27 (fun i => (prgT 2).getD i 0 - 96) (prgT 2).length) = nI 936406 from congrArg nI (by decide +kernel)]
  rw [k_X12_five_0]
  simp only [show (!decide ((13 : Int32) = 0)) = true by decide +kernel, show (!decide ((15 : Int32) = 0)) = true by decide +kernel, show (!decide ((19 : Int32) = 0)) = true by decide +kernel, cond_true, cond_false]
  rfl
theorem rw_2 (h : AtR B n I a) : V PR (d + 3) 221 0 [(0, vR (some (186, 0))), (1, vi (1 : Int32)), (2, vi (20 : Int32)), (3, vi (15 : Int32)), (4, vi (13 : Int32)), (5, vi (19 : Int32))] [] (mm nn I L P E c s) = some (.inl (some (vi (b2i (isW B n (sk B n a) (prgT 2))))), mm nn (up3 I 186 0 4 (nI (sk B n a))) L P E c s) := by
  rw [k_X12_isWord_0, h.2.2.2, n0t, cond_false, r_word h.1 h.2.1 h.2.2.1, Vk_v, k_X12_isWord_11, rf_2, Vk_v, k_X12_isWord_21, ← cd_isW (k := 2) (by decide) (by decide)]
  cases decide (cdW B n (sk B n a) = nI (cd27 (fun i => (prgT 2).getD i 0 - 96) (prgT 2).length)) <;> rfl
theorem rt_2 (h : AtR B n I a) : V PR (d + 4) 223 0 [(0, vR (some (186, 0))), (1, vi (1 : Int32)), (2, vi (20 : Int32)), (3, vi (15 : Int32)), (4, vi (13 : Int32)), (5, vi (19 : Int32))] [] (mm nn I L P E c s) = some (.inl (some (vi (b2i (isW B n (sk B n a) (prgT 2))))), mm nn (up3 I 186 0 4 (nI (if isW B n (sk B n a) (prgT 2) = true then wd B n (sk B n a) else sk B n a))) L P E c s) := by
  rw [k_X12_takes_0, rw_2 h, Vk_v, k_X12_takes_11, b2i_eq0, b2i_bit, cond_true]
  cases q : isW B n (sk B n a) (prgT 2) with
  | false => rw [Bool.not_false, cond_true, if_neg (by decide)]
  | true =>
    rw [Bool.not_true, cond_false, r_skip h.sk.1 h.sk.2.1 h.sk.2.2.1, Vk_n, k_X12_takes_22, b2i_bit, cond_true, up3_up, if_pos rfl]

theorem rf_3 : V PR d 220 0 [(0, vi (16 : Int32)), (1, vi (12 : Int32)), (2, vi (1 : Int32)), (3, vi (3 : Int32)), (4, vi (5 : Int32))] [] (mm nn I L P E c s) = some (.inl (some (vi (nI (cd27 (fun i => (prgT 3).getD i 0 - 96) (prgT 3).length)))), mm nn I L P E c s) := by
  rw [show nI (cd27 (fun i => (prgT 3).getD i 0 - 96) (prgT 3).length) = nI 8740067 from congrArg nI (by decide +kernel)]
  rw [k_X12_five_0]
  simp only [show (!decide ((1 : Int32) = 0)) = true by decide +kernel, show (!decide ((3 : Int32) = 0)) = true by decide +kernel, show (!decide ((5 : Int32) = 0)) = true by decide +kernel, cond_true, cond_false]
  rfl
theorem rw_3 (h : AtR B n I a) : V PR (d + 3) 221 0 [(0, vR (some (186, 0))), (1, vi (16 : Int32)), (2, vi (12 : Int32)), (3, vi (1 : Int32)), (4, vi (3 : Int32)), (5, vi (5 : Int32))] [] (mm nn I L P E c s) = some (.inl (some (vi (b2i (isW B n (sk B n a) (prgT 3))))), mm nn (up3 I 186 0 4 (nI (sk B n a))) L P E c s) := by
  rw [k_X12_isWord_0, h.2.2.2, n0t, cond_false, r_word h.1 h.2.1 h.2.2.1, Vk_v, k_X12_isWord_11, rf_3, Vk_v, k_X12_isWord_21, ← cd_isW (k := 3) (by decide) (by decide)]
  cases decide (cdW B n (sk B n a) = nI (cd27 (fun i => (prgT 3).getD i 0 - 96) (prgT 3).length)) <;> rfl
theorem rt_3 (h : AtR B n I a) : V PR (d + 4) 223 0 [(0, vR (some (186, 0))), (1, vi (16 : Int32)), (2, vi (12 : Int32)), (3, vi (1 : Int32)), (4, vi (3 : Int32)), (5, vi (5 : Int32))] [] (mm nn I L P E c s) = some (.inl (some (vi (b2i (isW B n (sk B n a) (prgT 3))))), mm nn (up3 I 186 0 4 (nI (if isW B n (sk B n a) (prgT 3) = true then wd B n (sk B n a) else sk B n a))) L P E c s) := by
  rw [k_X12_takes_0, rw_3 h, Vk_v, k_X12_takes_11, b2i_eq0, b2i_bit, cond_true]
  cases q : isW B n (sk B n a) (prgT 3) with
  | false => rw [Bool.not_false, cond_true, if_neg (by decide)]
  | true =>
    rw [Bool.not_true, cond_false, r_skip h.sk.1 h.sk.2.1 h.sk.2.2.1, Vk_n, k_X12_takes_22, b2i_bit, cond_true, up3_up, if_pos rfl]

theorem rf_4 : V PR d 220 0 [(0, vi (18 : Int32)), (1, vi (15 : Int32)), (2, vi (1 : Int32)), (3, vi (4 : Int32)), (4, vi (0 : Int32))] [] (mm nn I L P E c s) = some (.inl (some (vi (nI (cd27 (fun i => (prgT 4).getD i 0 - 96) (prgT 4).length)))), mm nn I L P E c s) := by
  rw [show nI (cd27 (fun i => (prgT 4).getD i 0 - 96) (prgT 4).length) = nI 365260 from congrArg nI (by decide +kernel)]
  rw [k_X12_five_0]
  simp only [show (!decide ((0 : Int32) = 0)) = false by decide +kernel, show (!decide ((1 : Int32) = 0)) = true by decide +kernel, show (!decide ((4 : Int32) = 0)) = true by decide +kernel, cond_true, cond_false]
  rfl
theorem rw_4 (h : AtR B n I a) : V PR (d + 3) 221 0 [(0, vR (some (186, 0))), (1, vi (18 : Int32)), (2, vi (15 : Int32)), (3, vi (1 : Int32)), (4, vi (4 : Int32)), (5, vi (0 : Int32))] [] (mm nn I L P E c s) = some (.inl (some (vi (b2i (isW B n (sk B n a) (prgT 4))))), mm nn (up3 I 186 0 4 (nI (sk B n a))) L P E c s) := by
  rw [k_X12_isWord_0, h.2.2.2, n0t, cond_false, r_word h.1 h.2.1 h.2.2.1, Vk_v, k_X12_isWord_11, rf_4, Vk_v, k_X12_isWord_21, ← cd_isW (k := 4) (by decide) (by decide)]
  cases decide (cdW B n (sk B n a) = nI (cd27 (fun i => (prgT 4).getD i 0 - 96) (prgT 4).length)) <;> rfl
theorem rt_4 (h : AtR B n I a) : V PR (d + 4) 223 0 [(0, vR (some (186, 0))), (1, vi (18 : Int32)), (2, vi (15 : Int32)), (3, vi (1 : Int32)), (4, vi (4 : Int32)), (5, vi (0 : Int32))] [] (mm nn I L P E c s) = some (.inl (some (vi (b2i (isW B n (sk B n a) (prgT 4))))), mm nn (up3 I 186 0 4 (nI (if isW B n (sk B n a) (prgT 4) = true then wd B n (sk B n a) else sk B n a))) L P E c s) := by
  rw [k_X12_takes_0, rw_4 h, Vk_v, k_X12_takes_11, b2i_eq0, b2i_bit, cond_true]
  cases q : isW B n (sk B n a) (prgT 4) with
  | false => rw [Bool.not_false, cond_true, if_neg (by decide)]
  | true =>
    rw [Bool.not_true, cond_false, r_skip h.sk.1 h.sk.2.1 h.sk.2.2.1, Vk_n, k_X12_takes_22, b2i_bit, cond_true, up3_up, if_pos rfl]

theorem rf_5 : V PR d 220 0 [(0, vi (23 : Int32)), (1, vi (5 : Int32)), (2, vi (12 : Int32)), (3, vi (12 : Int32)), (4, vi (0 : Int32))] [] (mm nn I L P E c s) = some (.inl (some (vi (nI (cd27 (fun i => (prgT 5).getD i 0 - 96) (prgT 5).length)))), mm nn I L P E c s) := by
  rw [show nI (cd27 (fun i => (prgT 5).getD i 0 - 96) (prgT 5).length) = nI 456690 from congrArg nI (by decide +kernel)]
  rw [k_X12_five_0]
  simp only [show (!decide ((0 : Int32) = 0)) = false by decide +kernel, show (!decide ((12 : Int32) = 0)) = true by decide +kernel, cond_true, cond_false]
  rfl
theorem rw_5 (h : AtR B n I a) : V PR (d + 3) 221 0 [(0, vR (some (186, 0))), (1, vi (23 : Int32)), (2, vi (5 : Int32)), (3, vi (12 : Int32)), (4, vi (12 : Int32)), (5, vi (0 : Int32))] [] (mm nn I L P E c s) = some (.inl (some (vi (b2i (isW B n (sk B n a) (prgT 5))))), mm nn (up3 I 186 0 4 (nI (sk B n a))) L P E c s) := by
  rw [k_X12_isWord_0, h.2.2.2, n0t, cond_false, r_word h.1 h.2.1 h.2.2.1, Vk_v, k_X12_isWord_11, rf_5, Vk_v, k_X12_isWord_21, ← cd_isW (k := 5) (by decide) (by decide)]
  cases decide (cdW B n (sk B n a) = nI (cd27 (fun i => (prgT 5).getD i 0 - 96) (prgT 5).length)) <;> rfl
theorem rt_5 (h : AtR B n I a) : V PR (d + 4) 223 0 [(0, vR (some (186, 0))), (1, vi (23 : Int32)), (2, vi (5 : Int32)), (3, vi (12 : Int32)), (4, vi (12 : Int32)), (5, vi (0 : Int32))] [] (mm nn I L P E c s) = some (.inl (some (vi (b2i (isW B n (sk B n a) (prgT 5))))), mm nn (up3 I 186 0 4 (nI (if isW B n (sk B n a) (prgT 5) = true then wd B n (sk B n a) else sk B n a))) L P E c s) := by
  rw [k_X12_takes_0, rw_5 h, Vk_v, k_X12_takes_11, b2i_eq0, b2i_bit, cond_true]
  cases q : isW B n (sk B n a) (prgT 5) with
  | false => rw [Bool.not_false, cond_true, if_neg (by decide)]
  | true =>
    rw [Bool.not_true, cond_false, r_skip h.sk.1 h.sk.2.1 h.sk.2.2.1, Vk_n, k_X12_takes_22, b2i_bit, cond_true, up3_up, if_pos rfl]

theorem rf_6 : V PR d 220 0 [(0, vi (12 : Int32)), (1, vi (9 : Int32)), (2, vi (5 : Int32)), (3, vi (19 : Int32)), (4, vi (0 : Int32))] [] (mm nn I L P E c s) = some (.inl (some (vi (nI (cd27 (fun i => (prgT 6).getD i 0 - 96) (prgT 6).length)))), mm nn I L P E c s) := by
  rw [show nI (cd27 (fun i => (prgT 6).getD i 0 - 96) (prgT 6).length) = nI 242911 from congrArg nI (by decide +kernel)]
  rw [k_X12_five_0]
  simp only [show (!decide ((0 : Int32) = 0)) = false by decide +kernel, show (!decide ((5 : Int32) = 0)) = true by decide +kernel, show (!decide ((19 : Int32) = 0)) = true by decide +kernel, cond_true, cond_false]
  rfl
theorem rw_6 (h : AtR B n I a) : V PR (d + 3) 221 0 [(0, vR (some (186, 0))), (1, vi (12 : Int32)), (2, vi (9 : Int32)), (3, vi (5 : Int32)), (4, vi (19 : Int32)), (5, vi (0 : Int32))] [] (mm nn I L P E c s) = some (.inl (some (vi (b2i (isW B n (sk B n a) (prgT 6))))), mm nn (up3 I 186 0 4 (nI (sk B n a))) L P E c s) := by
  rw [k_X12_isWord_0, h.2.2.2, n0t, cond_false, r_word h.1 h.2.1 h.2.2.1, Vk_v, k_X12_isWord_11, rf_6, Vk_v, k_X12_isWord_21, ← cd_isW (k := 6) (by decide) (by decide)]
  cases decide (cdW B n (sk B n a) = nI (cd27 (fun i => (prgT 6).getD i 0 - 96) (prgT 6).length)) <;> rfl
theorem rt_6 (h : AtR B n I a) : V PR (d + 4) 223 0 [(0, vR (some (186, 0))), (1, vi (12 : Int32)), (2, vi (9 : Int32)), (3, vi (5 : Int32)), (4, vi (19 : Int32)), (5, vi (0 : Int32))] [] (mm nn I L P E c s) = some (.inl (some (vi (b2i (isW B n (sk B n a) (prgT 6))))), mm nn (up3 I 186 0 4 (nI (if isW B n (sk B n a) (prgT 6) = true then wd B n (sk B n a) else sk B n a))) L P E c s) := by
  rw [k_X12_takes_0, rw_6 h, Vk_v, k_X12_takes_11, b2i_eq0, b2i_bit, cond_true]
  cases q : isW B n (sk B n a) (prgT 6) with
  | false => rw [Bool.not_false, cond_true, if_neg (by decide)]
  | true =>
    rw [Bool.not_true, cond_false, r_skip h.sk.1 h.sk.2.1 h.sk.2.2.1, Vk_n, k_X12_takes_22, b2i_bit, cond_true, up3_up, if_pos rfl]

theorem rf_7 : V PR d 220 0 [(0, vi (4 : Int32)), (1, vi (18 : Int32)), (2, vi (25 : Int32)), (3, vi (0 : Int32)), (4, vi (0 : Int32))] [] (mm nn I L P E c s) = some (.inl (some (vi (nI (cd27 (fun i => (prgT 7).getD i 0 - 96) (prgT 7).length)))), mm nn I L P E c s) := by
  rw [show nI (cd27 (fun i => (prgT 7).getD i 0 - 96) (prgT 7).length) = nI 3427 from congrArg nI (by decide +kernel)]
  rw [k_X12_five_0]
  simp only [show (!decide ((0 : Int32) = 0)) = false by decide +kernel, show (!decide ((25 : Int32) = 0)) = true by decide +kernel, cond_true, cond_false]
  rfl
theorem rw_7 (h : AtR B n I a) : V PR (d + 3) 221 0 [(0, vR (some (186, 0))), (1, vi (4 : Int32)), (2, vi (18 : Int32)), (3, vi (25 : Int32)), (4, vi (0 : Int32)), (5, vi (0 : Int32))] [] (mm nn I L P E c s) = some (.inl (some (vi (b2i (isW B n (sk B n a) (prgT 7))))), mm nn (up3 I 186 0 4 (nI (sk B n a))) L P E c s) := by
  rw [k_X12_isWord_0, h.2.2.2, n0t, cond_false, r_word h.1 h.2.1 h.2.2.1, Vk_v, k_X12_isWord_11, rf_7, Vk_v, k_X12_isWord_21, ← cd_isW (k := 7) (by decide) (by decide)]
  cases decide (cdW B n (sk B n a) = nI (cd27 (fun i => (prgT 7).getD i 0 - 96) (prgT 7).length)) <;> rfl
theorem rt_7 (h : AtR B n I a) : V PR (d + 4) 223 0 [(0, vR (some (186, 0))), (1, vi (4 : Int32)), (2, vi (18 : Int32)), (3, vi (25 : Int32)), (4, vi (0 : Int32)), (5, vi (0 : Int32))] [] (mm nn I L P E c s) = some (.inl (some (vi (b2i (isW B n (sk B n a) (prgT 7))))), mm nn (up3 I 186 0 4 (nI (if isW B n (sk B n a) (prgT 7) = true then wd B n (sk B n a) else sk B n a))) L P E c s) := by
  rw [k_X12_takes_0, rw_7 h, Vk_v, k_X12_takes_11, b2i_eq0, b2i_bit, cond_true]
  cases q : isW B n (sk B n a) (prgT 7) with
  | false => rw [Bool.not_false, cond_true, if_neg (by decide)]
  | true =>
    rw [Bool.not_true, cond_false, r_skip h.sk.1 h.sk.2.1 h.sk.2.2.1, Vk_n, k_X12_takes_22, b2i_bit, cond_true, up3_up, if_pos rfl]

theorem rf_8 : V PR d 220 0 [(0, vi (22 : Int32)), (1, vi (5 : Int32)), (2, vi (9 : Int32)), (3, vi (14 : Int32)), (4, vi (0 : Int32))] [] (mm nn I L P E c s) = some (.inl (some (vi (nI (cd27 (fun i => (prgT 8).getD i 0 - 96) (prgT 8).length)))), mm nn I L P E c s) := by
  rw [show nI (cd27 (fun i => (prgT 8).getD i 0 - 96) (prgT 8).length) = nI 436928 from congrArg nI (by decide +kernel)]
  rw [k_X12_five_0]
  simp only [show (!decide ((0 : Int32) = 0)) = false by decide +kernel, show (!decide ((9 : Int32) = 0)) = true by decide +kernel, show (!decide ((14 : Int32) = 0)) = true by decide +kernel, cond_true, cond_false]
  rfl
theorem rw_8 (h : AtR B n I a) : V PR (d + 3) 221 0 [(0, vR (some (186, 0))), (1, vi (22 : Int32)), (2, vi (5 : Int32)), (3, vi (9 : Int32)), (4, vi (14 : Int32)), (5, vi (0 : Int32))] [] (mm nn I L P E c s) = some (.inl (some (vi (b2i (isW B n (sk B n a) (prgT 8))))), mm nn (up3 I 186 0 4 (nI (sk B n a))) L P E c s) := by
  rw [k_X12_isWord_0, h.2.2.2, n0t, cond_false, r_word h.1 h.2.1 h.2.2.1, Vk_v, k_X12_isWord_11, rf_8, Vk_v, k_X12_isWord_21, ← cd_isW (k := 8) (by decide) (by decide)]
  cases decide (cdW B n (sk B n a) = nI (cd27 (fun i => (prgT 8).getD i 0 - 96) (prgT 8).length)) <;> rfl
theorem rt_8 (h : AtR B n I a) : V PR (d + 4) 223 0 [(0, vR (some (186, 0))), (1, vi (22 : Int32)), (2, vi (5 : Int32)), (3, vi (9 : Int32)), (4, vi (14 : Int32)), (5, vi (0 : Int32))] [] (mm nn I L P E c s) = some (.inl (some (vi (b2i (isW B n (sk B n a) (prgT 8))))), mm nn (up3 I 186 0 4 (nI (if isW B n (sk B n a) (prgT 8) = true then wd B n (sk B n a) else sk B n a))) L P E c s) := by
  rw [k_X12_takes_0, rw_8 h, Vk_v, k_X12_takes_11, b2i_eq0, b2i_bit, cond_true]
  cases q : isW B n (sk B n a) (prgT 8) with
  | false => rw [Bool.not_false, cond_true, if_neg (by decide)]
  | true =>
    rw [Bool.not_true, cond_false, r_skip h.sk.1 h.sk.2.1 h.sk.2.2.1, Vk_n, k_X12_takes_22, b2i_bit, cond_true, up3_up, if_pos rfl]

theorem rf_9 : V PR d 220 0 [(0, vi (6 : Int32)), (1, vi (18 : Int32)), (2, vi (15 : Int32)), (3, vi (19 : Int32)), (4, vi (20 : Int32))] [] (mm nn I L P E c s) = some (.inl (some (vi (nI (cd27 (fun i => (prgT 9).getD i 0 - 96) (prgT 9).length)))), mm nn I L P E c s) := by
  rw [show nI (cd27 (fun i => (prgT 9).getD i 0 - 96) (prgT 9).length) = nI 3554408 from congrArg nI (by decide +kernel)]
  rw [k_X12_five_0]
  simp only [show (!decide ((15 : Int32) = 0)) = true by decide +kernel, show (!decide ((19 : Int32) = 0)) = true by decide +kernel, show (!decide ((20 : Int32) = 0)) = true by decide +kernel, cond_true, cond_false]
  rfl
theorem rw_9 (h : AtR B n I a) : V PR (d + 3) 221 0 [(0, vR (some (186, 0))), (1, vi (6 : Int32)), (2, vi (18 : Int32)), (3, vi (15 : Int32)), (4, vi (19 : Int32)), (5, vi (20 : Int32))] [] (mm nn I L P E c s) = some (.inl (some (vi (b2i (isW B n (sk B n a) (prgT 9))))), mm nn (up3 I 186 0 4 (nI (sk B n a))) L P E c s) := by
  rw [k_X12_isWord_0, h.2.2.2, n0t, cond_false, r_word h.1 h.2.1 h.2.2.1, Vk_v, k_X12_isWord_11, rf_9, Vk_v, k_X12_isWord_21, ← cd_isW (k := 9) (by decide) (by decide)]
  cases decide (cdW B n (sk B n a) = nI (cd27 (fun i => (prgT 9).getD i 0 - 96) (prgT 9).length)) <;> rfl
theorem rt_9 (h : AtR B n I a) : V PR (d + 4) 223 0 [(0, vR (some (186, 0))), (1, vi (6 : Int32)), (2, vi (18 : Int32)), (3, vi (15 : Int32)), (4, vi (19 : Int32)), (5, vi (20 : Int32))] [] (mm nn I L P E c s) = some (.inl (some (vi (b2i (isW B n (sk B n a) (prgT 9))))), mm nn (up3 I 186 0 4 (nI (if isW B n (sk B n a) (prgT 9) = true then wd B n (sk B n a) else sk B n a))) L P E c s) := by
  rw [k_X12_takes_0, rw_9 h, Vk_v, k_X12_takes_11, b2i_eq0, b2i_bit, cond_true]
  cases q : isW B n (sk B n a) (prgT 9) with
  | false => rw [Bool.not_false, cond_true, if_neg (by decide)]
  | true =>
    rw [Bool.not_true, cond_false, r_skip h.sk.1 h.sk.2.1 h.sk.2.2.1, Vk_n, k_X12_takes_22, b2i_bit, cond_true, up3_up, if_pos rfl]

theorem rf_10 : V PR d 220 0 [(0, vi (9 : Int32)), (1, vi (19 : Int32)), (2, vi (0 : Int32)), (3, vi (0 : Int32)), (4, vi (0 : Int32))] [] (mm nn I L P E c s) = some (.inl (some (vi (nI (cd27 (fun i => (prgT 10).getD i 0 - 96) (prgT 10).length)))), mm nn I L P E c s) := by
  rw [show nI (cd27 (fun i => (prgT 10).getD i 0 - 96) (prgT 10).length) = nI 262 from congrArg nI (by decide +kernel)]
  rw [k_X12_five_0]
  simp only [show (!decide ((0 : Int32) = 0)) = false by decide +kernel, cond_true, cond_false]
  rfl
theorem rw_10 (h : AtR B n I a) : V PR (d + 3) 221 0 [(0, vR (some (186, 0))), (1, vi (9 : Int32)), (2, vi (19 : Int32)), (3, vi (0 : Int32)), (4, vi (0 : Int32)), (5, vi (0 : Int32))] [] (mm nn I L P E c s) = some (.inl (some (vi (b2i (isW B n (sk B n a) (prgT 10))))), mm nn (up3 I 186 0 4 (nI (sk B n a))) L P E c s) := by
  rw [k_X12_isWord_0, h.2.2.2, n0t, cond_false, r_word h.1 h.2.1 h.2.2.1, Vk_v, k_X12_isWord_11, rf_10, Vk_v, k_X12_isWord_21, ← cd_isW (k := 10) (by decide) (by decide)]
  cases decide (cdW B n (sk B n a) = nI (cd27 (fun i => (prgT 10).getD i 0 - 96) (prgT 10).length)) <;> rfl
theorem rt_10 (h : AtR B n I a) : V PR (d + 4) 223 0 [(0, vR (some (186, 0))), (1, vi (9 : Int32)), (2, vi (19 : Int32)), (3, vi (0 : Int32)), (4, vi (0 : Int32)), (5, vi (0 : Int32))] [] (mm nn I L P E c s) = some (.inl (some (vi (b2i (isW B n (sk B n a) (prgT 10))))), mm nn (up3 I 186 0 4 (nI (if isW B n (sk B n a) (prgT 10) = true then wd B n (sk B n a) else sk B n a))) L P E c s) := by
  rw [k_X12_takes_0, rw_10 h, Vk_v, k_X12_takes_11, b2i_eq0, b2i_bit, cond_true]
  cases q : isW B n (sk B n a) (prgT 10) with
  | false => rw [Bool.not_false, cond_true, if_neg (by decide)]
  | true =>
    rw [Bool.not_true, cond_false, r_skip h.sk.1 h.sk.2.1 h.sk.2.2.1, Vk_n, k_X12_takes_22, b2i_bit, cond_true, up3_up, if_pos rfl]

theorem rf_11 : V PR d 220 0 [(0, vi (15 : Int32)), (1, vi (18 : Int32)), (2, vi (0 : Int32)), (3, vi (0 : Int32)), (4, vi (0 : Int32))] [] (mm nn I L P E c s) = some (.inl (some (vi (nI (cd27 (fun i => (prgT 11).getD i 0 - 96) (prgT 11).length)))), mm nn I L P E c s) := by
  rw [show nI (cd27 (fun i => (prgT 11).getD i 0 - 96) (prgT 11).length) = nI 423 from congrArg nI (by decide +kernel)]
  rw [k_X12_five_0]
  simp only [show (!decide ((0 : Int32) = 0)) = false by decide +kernel, cond_true, cond_false]
  rfl
theorem rw_11 (h : AtR B n I a) : V PR (d + 3) 221 0 [(0, vR (some (186, 0))), (1, vi (15 : Int32)), (2, vi (18 : Int32)), (3, vi (0 : Int32)), (4, vi (0 : Int32)), (5, vi (0 : Int32))] [] (mm nn I L P E c s) = some (.inl (some (vi (b2i (isW B n (sk B n a) (prgT 11))))), mm nn (up3 I 186 0 4 (nI (sk B n a))) L P E c s) := by
  rw [k_X12_isWord_0, h.2.2.2, n0t, cond_false, r_word h.1 h.2.1 h.2.2.1, Vk_v, k_X12_isWord_11, rf_11, Vk_v, k_X12_isWord_21, ← cd_isW (k := 11) (by decide) (by decide)]
  cases decide (cdW B n (sk B n a) = nI (cd27 (fun i => (prgT 11).getD i 0 - 96) (prgT 11).length)) <;> rfl
theorem rt_11 (h : AtR B n I a) : V PR (d + 4) 223 0 [(0, vR (some (186, 0))), (1, vi (15 : Int32)), (2, vi (18 : Int32)), (3, vi (0 : Int32)), (4, vi (0 : Int32)), (5, vi (0 : Int32))] [] (mm nn I L P E c s) = some (.inl (some (vi (b2i (isW B n (sk B n a) (prgT 11))))), mm nn (up3 I 186 0 4 (nI (if isW B n (sk B n a) (prgT 11) = true then wd B n (sk B n a) else sk B n a))) L P E c s) := by
  rw [k_X12_takes_0, rw_11 h, Vk_v, k_X12_takes_11, b2i_eq0, b2i_bit, cond_true]
  cases q : isW B n (sk B n a) (prgT 11) with
  | false => rw [Bool.not_false, cond_true, if_neg (by decide)]
  | true =>
    rw [Bool.not_true, cond_false, r_skip h.sk.1 h.sk.2.1 h.sk.2.2.1, Vk_n, k_X12_takes_22, b2i_bit, cond_true, up3_up, if_pos rfl]

theorem rf_12 : V PR d 220 0 [(0, vi (1 : Int32)), (1, vi (14 : Int32)), (2, vi (4 : Int32)), (3, vi (0 : Int32)), (4, vi (0 : Int32))] [] (mm nn I L P E c s) = some (.inl (some (vi (nI (cd27 (fun i => (prgT 12).getD i 0 - 96) (prgT 12).length)))), mm nn I L P E c s) := by
  rw [show nI (cd27 (fun i => (prgT 12).getD i 0 - 96) (prgT 12).length) = nI 1111 from congrArg nI (by decide +kernel)]
  rw [k_X12_five_0]
  simp only [show (!decide ((0 : Int32) = 0)) = false by decide +kernel, show (!decide ((4 : Int32) = 0)) = true by decide +kernel, cond_true, cond_false]
  rfl
theorem rw_12 (h : AtR B n I a) : V PR (d + 3) 221 0 [(0, vR (some (186, 0))), (1, vi (1 : Int32)), (2, vi (14 : Int32)), (3, vi (4 : Int32)), (4, vi (0 : Int32)), (5, vi (0 : Int32))] [] (mm nn I L P E c s) = some (.inl (some (vi (b2i (isW B n (sk B n a) (prgT 12))))), mm nn (up3 I 186 0 4 (nI (sk B n a))) L P E c s) := by
  rw [k_X12_isWord_0, h.2.2.2, n0t, cond_false, r_word h.1 h.2.1 h.2.2.1, Vk_v, k_X12_isWord_11, rf_12, Vk_v, k_X12_isWord_21, ← cd_isW (k := 12) (by decide) (by decide)]
  cases decide (cdW B n (sk B n a) = nI (cd27 (fun i => (prgT 12).getD i 0 - 96) (prgT 12).length)) <;> rfl
theorem rt_12 (h : AtR B n I a) : V PR (d + 4) 223 0 [(0, vR (some (186, 0))), (1, vi (1 : Int32)), (2, vi (14 : Int32)), (3, vi (4 : Int32)), (4, vi (0 : Int32)), (5, vi (0 : Int32))] [] (mm nn I L P E c s) = some (.inl (some (vi (b2i (isW B n (sk B n a) (prgT 12))))), mm nn (up3 I 186 0 4 (nI (if isW B n (sk B n a) (prgT 12) = true then wd B n (sk B n a) else sk B n a))) L P E c s) := by
  rw [k_X12_takes_0, rw_12 h, Vk_v, k_X12_takes_11, b2i_eq0, b2i_bit, cond_true]
  cases q : isW B n (sk B n a) (prgT 12) with
  | false => rw [Bool.not_false, cond_true, if_neg (by decide)]
  | true =>
    rw [Bool.not_true, cond_false, r_skip h.sk.1 h.sk.2.1 h.sk.2.2.1, Vk_n, k_X12_takes_22, b2i_bit, cond_true, up3_up, if_pos rfl]

theorem rf_13 : V PR d 220 0 [(0, vi (14 : Int32)), (1, vi (15 : Int32)), (2, vi (20 : Int32)), (3, vi (0 : Int32)), (4, vi (0 : Int32))] [] (mm nn I L P E c s) = some (.inl (some (vi (nI (cd27 (fun i => (prgT 13).getD i 0 - 96) (prgT 13).length)))), mm nn I L P E c s) := by
  rw [show nI (cd27 (fun i => (prgT 13).getD i 0 - 96) (prgT 13).length) = nI 10631 from congrArg nI (by decide +kernel)]
  rw [k_X12_five_0]
  simp only [show (!decide ((0 : Int32) = 0)) = false by decide +kernel, show (!decide ((20 : Int32) = 0)) = true by decide +kernel, cond_true, cond_false]
  rfl
theorem rw_13 (h : AtR B n I a) : V PR (d + 3) 221 0 [(0, vR (some (186, 0))), (1, vi (14 : Int32)), (2, vi (15 : Int32)), (3, vi (20 : Int32)), (4, vi (0 : Int32)), (5, vi (0 : Int32))] [] (mm nn I L P E c s) = some (.inl (some (vi (b2i (isW B n (sk B n a) (prgT 13))))), mm nn (up3 I 186 0 4 (nI (sk B n a))) L P E c s) := by
  rw [k_X12_isWord_0, h.2.2.2, n0t, cond_false, r_word h.1 h.2.1 h.2.2.1, Vk_v, k_X12_isWord_11, rf_13, Vk_v, k_X12_isWord_21, ← cd_isW (k := 13) (by decide) (by decide)]
  cases decide (cdW B n (sk B n a) = nI (cd27 (fun i => (prgT 13).getD i 0 - 96) (prgT 13).length)) <;> rfl
theorem rt_13 (h : AtR B n I a) : V PR (d + 4) 223 0 [(0, vR (some (186, 0))), (1, vi (14 : Int32)), (2, vi (15 : Int32)), (3, vi (20 : Int32)), (4, vi (0 : Int32)), (5, vi (0 : Int32))] [] (mm nn I L P E c s) = some (.inl (some (vi (b2i (isW B n (sk B n a) (prgT 13))))), mm nn (up3 I 186 0 4 (nI (if isW B n (sk B n a) (prgT 13) = true then wd B n (sk B n a) else sk B n a))) L P E c s) := by
  rw [k_X12_takes_0, rw_13 h, Vk_v, k_X12_takes_11, b2i_eq0, b2i_bit, cond_true]
  cases q : isW B n (sk B n a) (prgT 13) with
  | false => rw [Bool.not_false, cond_true, if_neg (by decide)]
  | true =>
    rw [Bool.not_true, cond_false, r_skip h.sk.1 h.sk.2.1 h.sk.2.2.1, Vk_n, k_X12_takes_22, b2i_bit, cond_true, up3_up, if_pos rfl]

theorem rf_14 : V PR d 220 0 [(0, vi (9 : Int32)), (1, vi (6 : Int32)), (2, vi (0 : Int32)), (3, vi (0 : Int32)), (4, vi (0 : Int32))] [] (mm nn I L P E c s) = some (.inl (some (vi (nI (cd27 (fun i => (prgT 14).getD i 0 - 96) (prgT 14).length)))), mm nn I L P E c s) := by
  rw [show nI (cd27 (fun i => (prgT 14).getD i 0 - 96) (prgT 14).length) = nI 249 from congrArg nI (by decide +kernel)]
  rw [k_X12_five_0]
  simp only [show (!decide ((0 : Int32) = 0)) = false by decide +kernel, cond_true, cond_false]
  rfl
theorem rw_14 (h : AtR B n I a) : V PR (d + 3) 221 0 [(0, vR (some (186, 0))), (1, vi (9 : Int32)), (2, vi (6 : Int32)), (3, vi (0 : Int32)), (4, vi (0 : Int32)), (5, vi (0 : Int32))] [] (mm nn I L P E c s) = some (.inl (some (vi (b2i (isW B n (sk B n a) (prgT 14))))), mm nn (up3 I 186 0 4 (nI (sk B n a))) L P E c s) := by
  rw [k_X12_isWord_0, h.2.2.2, n0t, cond_false, r_word h.1 h.2.1 h.2.2.1, Vk_v, k_X12_isWord_11, rf_14, Vk_v, k_X12_isWord_21, ← cd_isW (k := 14) (by decide) (by decide)]
  cases decide (cdW B n (sk B n a) = nI (cd27 (fun i => (prgT 14).getD i 0 - 96) (prgT 14).length)) <;> rfl
theorem rt_14 (h : AtR B n I a) : V PR (d + 4) 223 0 [(0, vR (some (186, 0))), (1, vi (9 : Int32)), (2, vi (6 : Int32)), (3, vi (0 : Int32)), (4, vi (0 : Int32)), (5, vi (0 : Int32))] [] (mm nn I L P E c s) = some (.inl (some (vi (b2i (isW B n (sk B n a) (prgT 14))))), mm nn (up3 I 186 0 4 (nI (if isW B n (sk B n a) (prgT 14) = true then wd B n (sk B n a) else sk B n a))) L P E c s) := by
  rw [k_X12_takes_0, rw_14 h, Vk_v, k_X12_takes_11, b2i_eq0, b2i_bit, cond_true]
  cases q : isW B n (sk B n a) (prgT 14) with
  | false => rw [Bool.not_false, cond_true, if_neg (by decide)]
  | true =>
    rw [Bool.not_true, cond_false, r_skip h.sk.1 h.sk.2.1 h.sk.2.2.1, Vk_n, k_X12_takes_22, b2i_bit, cond_true, up3_up, if_pos rfl]

theorem rf_15 : V PR d 220 0 [(0, vi (19 : Int32)), (1, vi (1 : Int32)), (2, vi (25 : Int32)), (3, vi (19 : Int32)), (4, vi (0 : Int32))] [] (mm nn I L P E c s) = some (.inl (some (vi (nI (cd27 (fun i => (prgT 15).getD i 0 - 96) (prgT 15).length)))), mm nn I L P E c s) := by
  rw [show nI (cd27 (fun i => (prgT 15).getD i 0 - 96) (prgT 15).length) = nI 375400 from congrArg nI (by decide +kernel)]
  rw [k_X12_five_0]
  simp only [show (!decide ((0 : Int32) = 0)) = false by decide +kernel, show (!decide ((19 : Int32) = 0)) = true by decide +kernel, show (!decide ((25 : Int32) = 0)) = true by decide +kernel, cond_true, cond_false]
  rfl
theorem rw_15 (h : AtR B n I a) : V PR (d + 3) 221 0 [(0, vR (some (186, 0))), (1, vi (19 : Int32)), (2, vi (1 : Int32)), (3, vi (25 : Int32)), (4, vi (19 : Int32)), (5, vi (0 : Int32))] [] (mm nn I L P E c s) = some (.inl (some (vi (b2i (isW B n (sk B n a) (prgT 15))))), mm nn (up3 I 186 0 4 (nI (sk B n a))) L P E c s) := by
  rw [k_X12_isWord_0, h.2.2.2, n0t, cond_false, r_word h.1 h.2.1 h.2.2.1, Vk_v, k_X12_isWord_11, rf_15, Vk_v, k_X12_isWord_21, ← cd_isW (k := 15) (by decide) (by decide)]
  cases decide (cdW B n (sk B n a) = nI (cd27 (fun i => (prgT 15).getD i 0 - 96) (prgT 15).length)) <;> rfl
theorem rt_15 (h : AtR B n I a) : V PR (d + 4) 223 0 [(0, vR (some (186, 0))), (1, vi (19 : Int32)), (2, vi (1 : Int32)), (3, vi (25 : Int32)), (4, vi (19 : Int32)), (5, vi (0 : Int32))] [] (mm nn I L P E c s) = some (.inl (some (vi (b2i (isW B n (sk B n a) (prgT 15))))), mm nn (up3 I 186 0 4 (nI (if isW B n (sk B n a) (prgT 15) = true then wd B n (sk B n a) else sk B n a))) L P E c s) := by
  rw [k_X12_takes_0, rw_15 h, Vk_v, k_X12_takes_11, b2i_eq0, b2i_bit, cond_true]
  cases q : isW B n (sk B n a) (prgT 15) with
  | false => rw [Bool.not_false, cond_true, if_neg (by decide)]
  | true =>
    rw [Bool.not_true, cond_false, r_skip h.sk.1 h.sk.2.1 h.sk.2.2.1, Vk_n, k_X12_takes_22, b2i_bit, cond_true, up3_up, if_pos rfl]

theorem rf_16 : V PR d 220 0 [(0, vi (20 : Int32)), (1, vi (8 : Int32)), (2, vi (5 : Int32)), (3, vi (14 : Int32)), (4, vi (0 : Int32))] [] (mm nn I L P E c s) = some (.inl (some (vi (nI (cd27 (fun i => (prgT 16).getD i 0 - 96) (prgT 16).length)))), mm nn I L P E c s) := by
  rw [show nI (cd27 (fun i => (prgT 16).getD i 0 - 96) (prgT 16).length) = nI 399641 from congrArg nI (by decide +kernel)]
  rw [k_X12_five_0]
  simp only [show (!decide ((0 : Int32) = 0)) = false by decide +kernel, show (!decide ((5 : Int32) = 0)) = true by decide +kernel, show (!decide ((14 : Int32) = 0)) = true by decide +kernel, cond_true, cond_false]
  rfl
theorem rw_16 (h : AtR B n I a) : V PR (d + 3) 221 0 [(0, vR (some (186, 0))), (1, vi (20 : Int32)), (2, vi (8 : Int32)), (3, vi (5 : Int32)), (4, vi (14 : Int32)), (5, vi (0 : Int32))] [] (mm nn I L P E c s) = some (.inl (some (vi (b2i (isW B n (sk B n a) (prgT 16))))), mm nn (up3 I 186 0 4 (nI (sk B n a))) L P E c s) := by
  rw [k_X12_isWord_0, h.2.2.2, n0t, cond_false, r_word h.1 h.2.1 h.2.2.1, Vk_v, k_X12_isWord_11, rf_16, Vk_v, k_X12_isWord_21, ← cd_isW (k := 16) (by decide) (by decide)]
  cases decide (cdW B n (sk B n a) = nI (cd27 (fun i => (prgT 16).getD i 0 - 96) (prgT 16).length)) <;> rfl
theorem rt_16 (h : AtR B n I a) : V PR (d + 4) 223 0 [(0, vR (some (186, 0))), (1, vi (20 : Int32)), (2, vi (8 : Int32)), (3, vi (5 : Int32)), (4, vi (14 : Int32)), (5, vi (0 : Int32))] [] (mm nn I L P E c s) = some (.inl (some (vi (b2i (isW B n (sk B n a) (prgT 16))))), mm nn (up3 I 186 0 4 (nI (if isW B n (sk B n a) (prgT 16) = true then wd B n (sk B n a) else sk B n a))) L P E c s) := by
  rw [k_X12_takes_0, rw_16 h, Vk_v, k_X12_takes_11, b2i_eq0, b2i_bit, cond_true]
  cases q : isW B n (sk B n a) (prgT 16) with
  | false => rw [Bool.not_false, cond_true, if_neg (by decide)]
  | true =>
    rw [Bool.not_true, cond_false, r_skip h.sk.1 h.sk.2.1 h.sk.2.2.1, Vk_n, k_X12_takes_22, b2i_bit, cond_true, up3_up, if_pos rfl]

/-- with a fault nothing is looked at -/
theorem rw_dead {x1 x2 x3 x4 x5 : Int32} (h : (!decide (I 186 0 5 = 0)) = true) : V PR (d + 1) 221 0 [(0, vR (some (186, 0))), (1, vi x1), (2, vi x2), (3, vi x3), (4, vi x4), (5, vi x5)] [] (mm nn I L P E c s) = some (.inl (some (vi (0 : Int32))), mm nn I L P E c s) := by
  rw [k_X12_isWord_0, h, cond_true]
theorem rt_dead {x1 x2 x3 x4 x5 : Int32} (h : (!decide (I 186 0 5 = 0)) = true) : V PR (d + 2) 223 0 [(0, vR (some (186, 0))), (1, vi x1), (2, vi x2), (3, vi x3), (4, vi x4), (5, vi x5)] [] (mm nn I L P E c s) = some (.inl (some (vi (0 : Int32))), mm nn I L P E c s) := by
  rw [k_X12_takes_0, rw_dead h, Vk_v, k_X12_takes_11, show decide ((0 : Int32) = 0) = true by decide +kernel, cond_true, show decide ((0 : Int32) &&& 1 = 0) = true by decide +kernel, cond_true]
theorem r_wrong {k p : Int32} (h : I 186 0 5 = 0) : V PR d 214 0 [(0, vR (some (186, 0))), (1, vi k), (2, vi p)] [] (mm nn I L P E c s) = some (.inl none, mm nn (up3 (up3 I 186 0 5 k) 186 0 6 p) L P E c s) := by
  rw [k_X12_wrong_0, h, n0t, cond_false]
theorem r_wrong_dead {k p : Int32} (h : (!decide (I 186 0 5 = 0)) = true) : V PR d 214 0 [(0, vR (some (186, 0))), (1, vi k), (2, vi p)] [] (mm nn I L P E c s) = some (.inl none, mm nn I L P E c s) := by
  rw [k_X12_wrong_0, h, cond_true]
/-- the reference's fault -/
def flR (I : FI) (k p : Nat) : FI := up3 (up3 I 186 0 5 (nI k)) 186 0 6 (nI p)
theorem flR_dead {k p : Nat} (hk : 0 < k) (h : k < 2 ^ 31) : (!decide ((flR I k p) 186 0 5 = 0)) = true := by
  have e : (flR I k p) 186 0 5 = nI k := by unfold flR; rw [up3_k (by decide), up3_i]
  rw [e, decide_eq_false (nI_ne0 hk h)]
  rfl
/-- a sign is wanted -/
theorem r_sign {w : Nat} (hw : w < 256) (h : AtR B n I a) : V PR (d + 2) 224 0 [(0, vR (some (186, 0))), (1, vi (nI w))] [] (mm nn I L P E c s) = some (.inl none, mm nn (if sk B n a < n ∧ B (sk B n a) = w then up3 I 186 0 4 (nI (sk B n a + 1)) else flR (up3 I 186 0 4 (nI (sk B n a))) 1 (sk B n a)) L P E c s) := by
  have h6 := h.1.1
  have hp := sk_le (B := B) h.2.1
  have e4 : (up3 I 186 0 4 (nI (sk B n a))) 186 0 4 = nI (sk B n a) := up3_i _ _ _ _ _
  rw [k_X12_sign_0, h.2.2.2, show decide ((0 : Int32) = 0) = true by decide +kernel, cond_true, r_blanks h.1 h.2.1 h.2.2.1, Vk_n, k_X12_sign_12, e4, r_byte h.sk.1 (by omega), Vk_v, k_X12_sign_20, by_w h.1.2.2.1 _ w hw]
  by_cases q : sk B n a < n ∧ B (sk B n a) = w
  · rw [decide_eq_true q.1, decide_eq_true q.2, Bool.and_self, Bool.not_true, cond_false, e4, nI_1, up3_up, if_pos q]
  · have e : (decide (sk B n a < n) && decide (B (sk B n a) = w)) = false := by
      rw [Bool.and_eq_false_iff, decide_eq_false_iff_not, decide_eq_false_iff_not]
      exact Classical.or_iff_not_imp_left.mpr fun g1 g2 => q ⟨Classical.not_not.mp g1, g2⟩
    rw [e, Bool.not_false, cond_true, e4, r_wrong h.sk.2.2.2, Vk_n, k_X12_sign_46, if_neg q]
    rfl
theorem r_sign_dead {x : Int32} (h : (!decide (I 186 0 5 = 0)) = true) : V PR (d + 1) 224 0 [(0, vR (some (186, 0))), (1, vi x)] [] (mm nn I L P E c s) = some (.inl none, mm nn I L P E c s) := by
  have e : decide (I 186 0 5 = 0) = false := by
    cases q : decide (I 186 0 5 = 0) with
    | false => rfl
    | true => rw [q] at h; cases h
  rw [k_X12_sign_0, e, cond_false]
/-- a number's digits -/
theorem r_num_l {lo hi : Int32} {x3 : Int32} : ∀ r a v (I : FI), a + r = n → v ≤ 100000 → TxR B n I → I 186 0 4 = nI a → V PR (d + 1) 217 44 [(0, vR (some (186, 0))), (1, vi lo), (2, vi hi), (3, vi x3), (4, vi (nI v))] [] (mm nn I L P E c s) = Vk d 217 110 [] [(0, vR (some (186, 0))), (3, vi x3), (4, vi (nI (nvR B n r a v)))] (V PR d 210 0 [(0, vi (nI (nvR B n r a v))), (1, vi lo), (2, vi hi)] [] (mm nn (up3 I 186 0 4 (nI (rnE (dgB B n) r a))) L P E c s))
  | 0, a, v, I, h, hv, hT, h4 => by
    have h6 := hT.1
    rw [k_X12_number_44, h4, r_byte hT (by omega), Vk_v, k_X12_number_52, r_digit hT.2.2.1, Vk_v, k_X12_number_55, b2i_eq0, dg_n (by omega), Bool.not_false, cond_true]
    show _ = Vk d 217 110 [] [(0, vR (some (186, 0))), (3, vi x3), (4, vi (nI v))] (V PR d 210 0 [(0, vi (nI v)), (1, vi lo), (2, vi hi)] [] (mm nn (up3 I 186 0 4 (nI a)) L P E c s))
    rw [up3_same h4]
  | r + 1, a, v, I, h, hv, hT, h4 => by
    have h6 := hT.1
    rw [k_X12_number_44, h4, r_byte hT (by omega), Vk_v, k_X12_number_52, r_digit hT.2.2.1, Vk_v, k_X12_number_55, b2i_eq0]
    cases q : dgB B n a with
    | false =>
      rw [Bool.not_false, cond_true, rnE_f q, up3_same h4, show nvR B n (r + 1) a v = v by show (bif dgB B n a then _ else v) = v; rw [q]; rfl]
    | true =>
      have hs := dg_r q
      have hl := dg_lt q
      have ev : (10 : Int32) * nI v + byV B n a - 48 = nI (10 * v + (B a - 48)) := by
        unfold byV
        rw [if_pos hl, show (10 : Int32) * nI v = nI (10 * v) from pk_mul 10 v, nI_add, show (48 : Int32) = nI 48 from rfl, pk_sub (by omega)]
        exact congrArg nI (by omega)
      have A := r_num_l (lo := lo) (hi := hi) (x3 := x3) r (a + 1) (min (10 * v + (B a - 48)) 100000) (up3 I 186 0 4 (nI (a + 1))) (by omega) (by omega) (hT.at (by decide)) (up3_i _ _ _ _ _)
      rw [up3_up] at A
      rw [Bool.not_true, cond_false, h4, r_byte hT (by omega), Vk_v, k_X12_number_71, ev, show decide (nI (10 * v + (B a - 48)) ≤ (100000 : Int32)) = decide (10 * v + (B a - 48) ≤ 100000) from nI_led (b := 100000) (by omega) (by decide), h4, nI_1, rnE_t q, show nvR B n (r + 1) a v = nvR B n r (a + 1) (min (10 * v + (B a - 48)) 100000) by show (bif dgB B n a then _ else v) = _; rw [q]; rfl]
      by_cases g : 10 * v + (B a - 48) ≤ 100000
      · rw [decide_eq_true g, cond_true]
        rw [show min (10 * v + (B a - 48)) 100000 = 10 * v + (B a - 48) by omega] at A ⊢
        exact A
      · rw [decide_eq_false g, cond_false]
        rw [show min (10 * v + (B a - 48)) 100000 = 100000 by omega] at A ⊢
        exact A
theorem r_number {l h : Nat} {hi : Int32} (hl : l < 1000000) (hh : h ≤ 100000) (hx : hiO hi h) (H : AtR B n I a) : V PR (d + 2) 217 0 [(0, vR (some (186, 0))), (1, vi (nI l)), (2, vi hi)] [] (mm nn I L P E c s) = bif decide (nuF B n (sk B n a) l h = 0) then some (.inl (some (vi (nI (nuV B n (sk B n a))))), mm nn (up3 I 186 0 4 (nI (dg B n (sk B n a)))) L P E c s) else some (.inl (some (vi (0 : Int32))), mm nn (flR (up3 I 186 0 4 (nI (dg B n (sk B n a)))) (nuF B n (sk B n a) l h) (sk B n a)) L P E c s) := by
  have h6 := H.1.1
  have hp := sk_le (B := B) H.2.1
  have hv := nuV_lt (B := B) (n := n) (p := sk B n a)
  have e4 : (up3 I 186 0 4 (nI (sk B n a))) 186 0 4 = nI (sk B n a) := up3_i _ _ _ _ _
  have hin : inR (nI (nuV B n (sk B n a))) (nI l) hi = decide (l ≤ nuV B n (sk B n a) ∧ nuV B n (sk B n a) < h) := by
    unfold inR
    rw [nI_ltd (by omega) (by omega), hx _ hv]
    by_cases g1 : nuV B n (sk B n a) < l
    · rw [decide_eq_true g1, decide_eq_false (show ¬ (l ≤ nuV B n (sk B n a) ∧ nuV B n (sk B n a) < h) by omega)]; rfl
    · rw [decide_eq_false g1]
      by_cases g2 : h ≤ nuV B n (sk B n a)
      · rw [decide_eq_true g2, decide_eq_false (show ¬ (l ≤ nuV B n (sk B n a) ∧ nuV B n (sk B n a) < h) by omega)]; rfl
      · rw [decide_eq_false g2, decide_eq_true (show l ≤ nuV B n (sk B n a) ∧ nuV B n (sk B n a) < h by omega)]; rfl
  rw [k_X12_number_0, H.2.2.2, show decide ((0 : Int32) = 0) = true by decide +kernel, cond_true, r_blanks H.1 H.2.1 H.2.2.1, Vk_n, k_X12_number_13, e4, r_byte H.sk.1 (by omega), Vk_v, k_X12_number_29, r_digit H.1.2.2.1, Vk_v, k_X12_number_32, b2i_ne0]
  unfold nuF
  have kd : decide (kdT B n (sk B n a) = 2) = dgB B n (sk B n a) := kd_2
  cases q : dgB B n (sk B n a) with
  | true =>
    rw [q, decide_eq_true_eq] at kd
    have A := r_num_l (d := d + 1) (nn := nn) (L := L) (P := P) (E := E) (c := c) (s := s) (lo := nI l) (hi := hi) (x3 := nI (sk B n a)) (n - sk B n a) (sk B n a) 0 (up3 I 186 0 4 (nI (sk B n a))) (by omega) (by decide) H.sk.1 e4
    rw [up3_up] at A
    rw [cond_true]
    refine A.trans ?_
    rw [c_in, show nvR B n (n - sk B n a) (sk B n a) 0 = nuV B n (sk B n a) from rfl, hin, Vk_v, k_X12_number_113, b2i_ne0, show rnE (dgB B n) (n - sk B n a) (sk B n a) = dg B n (sk B n a) from rfl, if_neg (by omega)]
    have e5 : (up3 I 186 0 4 (nI (dg B n (sk B n a)))) 186 0 5 = 0 := (up3_k (by decide)).trans H.2.2.2
    by_cases g : l ≤ nuV B n (sk B n a) ∧ nuV B n (sk B n a) < h
    · rw [decide_eq_true g, cond_true, e5, n0t, cond_false, if_pos g]
      rfl
    · rw [decide_eq_false g, cond_false, r_wrong e5, Vk_n, k_X12_number_122, up3_k (by decide), up3_i, show (!decide ((2 : Int32) = 0)) = true by decide +kernel, cond_true, if_neg g]
      rfl
  | false =>
    rw [q, decide_eq_false_iff_not] at kd
    have e5 : (up3 I 186 0 4 (nI (sk B n a))) 186 0 5 = 0 := H.sk.2.2.2
    have hT2 : TxR B n (flR (up3 I 186 0 4 (nI (sk B n a))) 1 (sk B n a)) := (H.sk.1.at (by decide)).at (by decide)
    have e42 : (flR (up3 I 186 0 4 (nI (sk B n a))) 1 (sk B n a)) 186 0 4 = nI (sk B n a) := by unfold flR; rw [up3_k (by decide), up3_k (by decide), up3_i]
    have A := r_num_l (d := d + 1) (nn := nn) (L := L) (P := P) (E := E) (c := c) (s := s) (lo := nI l) (hi := hi) (x3 := nI (sk B n a)) (n - sk B n a) (sk B n a) 0 (flR (up3 I 186 0 4 (nI (sk B n a))) 1 (sk B n a)) (by omega) (by decide) hT2 e42
    rw [show rnE (dgB B n) (n - sk B n a) (sk B n a) = sk B n a from rnE_f q, up3_same e42] at A
    have dd : (!decide ((flR (up3 I 186 0 4 (nI (sk B n a))) 1 (sk B n a)) 186 0 5 = 0)) = true := flR_dead (by decide) (by decide)
    rw [cond_false, e4, r_wrong e5, Vk_n, if_pos kd, dg_eq q]
    refine A.trans ?_
    rw [c_in, Vk_v, k_X12_number_113, dd, cond_true]
    cases inR (nI (nvR B n (n - sk B n a) (sk B n a) 0)) (nI l) hi with
    | true => rfl
    | false =>
      rw [b2i_ne0, cond_false, r_wrong_dead dd, Vk_n, k_X12_number_122, dd, cond_true]
      rfl
theorem r_number_dead {lo hi : Int32} (h : (!decide (I 186 0 5 = 0)) = true) : V PR (d + 1) 217 0 [(0, vR (some (186, 0))), (1, vi lo), (2, vi hi)] [] (mm nn I L P E c s) = some (.inl (some (vi (0 : Int32))), mm nn I L P E c s) := by
  have e : decide (I 186 0 5 = 0) = false := by
    cases q : decide (I 186 0 5 = 0) with
    | false => rfl
    | true => rw [q] at h; cases h
  rw [k_X12_number_0, e, cond_false]
end TextR
