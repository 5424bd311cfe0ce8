/-! THE COUNTRY: the class ends a country, clears a draft and the book (in part written by program). -/
theorem tg_23_m16 : tgt 23 (-16) = 7 := by decide +kernel
theorem f_23_20 : prgE 23 20 = some (.iinc 2 1, 3, 0, (0, 0, 0, 0), none, none) := f_of (by decide +kernel)
theorem f_23_23 : prgE 23 23 = some (.goto (-16), 3, 0, (0, 0, 0, 0), none, (some [0, 2])) := f_of (by decide +kernel)
theorem k_X1_clear_n_20 (d n : Nat) (x2 : Int32) (I : Nat → Nat → Nat → Int32) (L : Nat → Nat → Nat → Int64) (P : Nat → Nat → Nat → Option (Nat × Nat)) (E : Nat → Nat × Nat × Nat × Nat) (c s : Nat) : V PR d 23 20 [(0, (vR (some (127, 0)))), (2, (vi x2))] [] (mm n I L P E c s) = V PR d 23 7 [(0, (vR (some (127, 0)))), (2, (vi (x2 + 1)))] [] (mm n I L P E c s) :=
  (o_iinc_n (w := (x2 + 1)) (lv' := [(2, (vi (x2 + 1))), (0, (vR (some (127, 0))))]) f_23_20 rfl (congrArg (HAdd.hAdd x2) ci_1) rfl).trans ((o_goto (t := 7) (lt := [(0, (vR (some (127, 0)))), (2, (vi (x2 + 1)))]) f_23_23 tg_23_m16 rfl))
section Cend
variable {B : Nat → Nat} {n : Nat} {d nn : Nat} {I J : FI} {L : FL} {P : FR} {E : FE} {c s p : Nat} {D : Dr} {x : Int32}
theorem fl_134 : ∀ r k (I : FI), k + r = 36 → ∃ J : FI, V PR d 3 5 [(0, vR (some (134, 0))), (1, vi x), (2, vi (nI k)), (3, vi (36 : Int32))] [] (mm nn I L P E c s) = some (.inl none, mm nn J L P E c s) ∧ (∀ j, k ≤ j → j < 36 → J 134 0 j = x) ∧ (∀ a r j, a ≠ 134 → J a r j = I a r j) ∧ ∀ j, j < k → J 134 0 j = I 134 0 j
  | 0, k, I, e => by
    rw [k_J7_fill_53178_5, show decide ((36 : Int32) ≤ nI k) = true from (nI_led (a := 36) (by decide) (by omega)).trans (decide_eq_true (by omega)), cond_true]
    exact ⟨I, rfl, fun j h1 h2 => absurd h1 (by omega), fun _ _ _ _ => rfl, fun _ _ => rfl⟩
  | r + 1, k, I, e => by
    obtain ⟨J, r1, j1, j2, j3⟩ := fl_134 r (k + 1) (up3 I 134 0 k x) (by omega)
    rw [k_J7_fill_53178_5, show decide ((36 : Int32) ≤ nI k) = false from (nI_led (a := 36) (by decide) (by omega)).trans (decide_eq_false (by omega)), cond_false, inb_nI (show k < 36 by omega) (by decide), cond_true, nI_clamp (show k < 2 ^ 31 by omega), nI_1, r1]
    refine ⟨J, rfl, fun j h1 h2 => ?_, fun a r j ha => (j2 a r j ha).trans (up3_a ha), fun j hj => (j3 j (by omega)).trans (up3_k (by omega))⟩
    by_cases q : j = k
    · subst q
      exact (j3 j (by omega)).trans (up3_i _ _ _ _ _)
    · exact j1 j (by omega) h2
theorem fa_134 : ∃ J : FI, V PR d 3 0 [(0, vR (some (134, 0))), (1, vi x)] [] (mm nn I L P E c s) = some (.inl none, mm nn J L P E c s) ∧ (∀ j, j < 36 → J 134 0 j = x) ∧ ∀ a r j, a ≠ 134 → J a r j = I a r j := by
  obtain ⟨J, r1, j1, j2, j3⟩ := fl_134 (d := d) (nn := nn) (L := L) (P := P) (E := E) (c := c) (s := s) (x := x) 36 0 I rfl
  exact ⟨J, (k_J7_fill_53178_0 ..).trans r1, fun j hj => j1 j (Nat.zero_le _) hj, j2⟩
theorem fl_116 : ∀ r k (I : FI), k + r = 64 → ∃ J : FI, V PR d 3 5 [(0, vR (some (116, 0))), (1, vi x), (2, vi (nI k)), (3, vi (64 : Int32))] [] (mm nn I L P E c s) = some (.inl none, mm nn J L P E c s) ∧ (∀ j, k ≤ j → j < 64 → J 116 0 j = x) ∧ (∀ a r j, a ≠ 116 → J a r j = I a r j) ∧ ∀ j, j < k → J 116 0 j = I 116 0 j
  | 0, k, I, e => by
    rw [k_J7_fill_53178_v3_5, show decide ((64 : Int32) ≤ nI k) = true from (nI_led (a := 64) (by decide) (by omega)).trans (decide_eq_true (by omega)), cond_true]
    exact ⟨I, rfl, fun j h1 h2 => absurd h1 (by omega), fun _ _ _ _ => rfl, fun _ _ => rfl⟩
  | r + 1, k, I, e => by
    obtain ⟨J, r1, j1, j2, j3⟩ := fl_116 r (k + 1) (up3 I 116 0 k x) (by omega)
    rw [k_J7_fill_53178_v3_5, show decide ((64 : Int32) ≤ nI k) = false from (nI_led (a := 64) (by decide) (by omega)).trans (decide_eq_false (by omega)), cond_false, inb_nI (show k < 64 by omega) (by decide), cond_true, nI_clamp (show k < 2 ^ 31 by omega), nI_1, r1]
    refine ⟨J, rfl, fun j h1 h2 => ?_, fun a r j ha => (j2 a r j ha).trans (up3_a ha), fun j hj => (j3 j (by omega)).trans (up3_k (by omega))⟩
    by_cases q : j = k
    · subst q
      exact (j3 j (by omega)).trans (up3_i _ _ _ _ _)
    · exact j1 j (by omega) h2
theorem fa_116 : ∃ J : FI, V PR d 3 0 [(0, vR (some (116, 0))), (1, vi x)] [] (mm nn I L P E c s) = some (.inl none, mm nn J L P E c s) ∧ (∀ j, j < 64 → J 116 0 j = x) ∧ ∀ a r j, a ≠ 116 → J a r j = I a r j := by
  obtain ⟨J, r1, j1, j2, j3⟩ := fl_116 (d := d) (nn := nn) (L := L) (P := P) (E := E) (c := c) (s := s) (x := x) 64 0 I rfl
  exact ⟨J, (k_J7_fill_53178_v3_0 ..).trans r1, fun j hj => j1 j (Nat.zero_le _) hj, j2⟩
theorem fl_119 : ∀ r k (I : FI), k + r = 6 → ∃ J : FI, V PR d 3 5 [(0, vR (some (119, 0))), (1, vi x), (2, vi (nI k)), (3, vi (6 : Int32))] [] (mm nn I L P E c s) = some (.inl none, mm nn J L P E c s) ∧ (∀ j, k ≤ j → j < 6 → J 119 0 j = x) ∧ (∀ a r j, a ≠ 119 → J a r j = I a r j) ∧ ∀ j, j < k → J 119 0 j = I 119 0 j
  | 0, k, I, e => by
    rw [k_J7_fill_53178_v4_5, show decide ((6 : Int32) ≤ nI k) = true from (nI_led (a := 6) (by decide) (by omega)).trans (decide_eq_true (by omega)), cond_true]
    exact ⟨I, rfl, fun j h1 h2 => absurd h1 (by omega), fun _ _ _ _ => rfl, fun _ _ => rfl⟩
  | r + 1, k, I, e => by
    obtain ⟨J, r1, j1, j2, j3⟩ := fl_119 r (k + 1) (up3 I 119 0 k x) (by omega)
    rw [k_J7_fill_53178_v4_5, show decide ((6 : Int32) ≤ nI k) = false from (nI_led (a := 6) (by decide) (by omega)).trans (decide_eq_false (by omega)), cond_false, inb_nI (show k < 6 by omega) (by decide), cond_true, nI_clamp (show k < 2 ^ 31 by omega), nI_1, r1]
    refine ⟨J, rfl, fun j h1 h2 => ?_, fun a r j ha => (j2 a r j ha).trans (up3_a ha), fun j hj => (j3 j (by omega)).trans (up3_k (by omega))⟩
    by_cases q : j = k
    · subst q
      exact (j3 j (by omega)).trans (up3_i _ _ _ _ _)
    · exact j1 j (by omega) h2
theorem fa_119 : ∃ J : FI, V PR d 3 0 [(0, vR (some (119, 0))), (1, vi x)] [] (mm nn I L P E c s) = some (.inl none, mm nn J L P E c s) ∧ (∀ j, j < 6 → J 119 0 j = x) ∧ ∀ a r j, a ≠ 119 → J a r j = I a r j := by
  obtain ⟨J, r1, j1, j2, j3⟩ := fl_119 (d := d) (nn := nn) (L := L) (P := P) (E := E) (c := c) (s := s) (x := x) 6 0 I rfl
  exact ⟨J, (k_J7_fill_53178_v4_0 ..).trans r1, fun j hj => j1 j (Nat.zero_le _) hj, j2⟩
theorem fl_120 : ∀ r k (I : FI), k + r = 6 → ∃ J : FI, V PR d 3 5 [(0, vR (some (120, 0))), (1, vi x), (2, vi (nI k)), (3, vi (6 : Int32))] [] (mm nn I L P E c s) = some (.inl none, mm nn J L P E c s) ∧ (∀ j, k ≤ j → j < 6 → J 120 0 j = x) ∧ (∀ a r j, a ≠ 120 → J a r j = I a r j) ∧ ∀ j, j < k → J 120 0 j = I 120 0 j
  | 0, k, I, e => by
    rw [k_J7_fill_53178_v5_5, show decide ((6 : Int32) ≤ nI k) = true from (nI_led (a := 6) (by decide) (by omega)).trans (decide_eq_true (by omega)), cond_true]
    exact ⟨I, rfl, fun j h1 h2 => absurd h1 (by omega), fun _ _ _ _ => rfl, fun _ _ => rfl⟩
  | r + 1, k, I, e => by
    obtain ⟨J, r1, j1, j2, j3⟩ := fl_120 r (k + 1) (up3 I 120 0 k x) (by omega)
    rw [k_J7_fill_53178_v5_5, show decide ((6 : Int32) ≤ nI k) = false from (nI_led (a := 6) (by decide) (by omega)).trans (decide_eq_false (by omega)), cond_false, inb_nI (show k < 6 by omega) (by decide), cond_true, nI_clamp (show k < 2 ^ 31 by omega), nI_1, r1]
    refine ⟨J, rfl, fun j h1 h2 => ?_, fun a r j ha => (j2 a r j ha).trans (up3_a ha), fun j hj => (j3 j (by omega)).trans (up3_k (by omega))⟩
    by_cases q : j = k
    · subst q
      exact (j3 j (by omega)).trans (up3_i _ _ _ _ _)
    · exact j1 j (by omega) h2
theorem fa_120 : ∃ J : FI, V PR d 3 0 [(0, vR (some (120, 0))), (1, vi x)] [] (mm nn I L P E c s) = some (.inl none, mm nn J L P E c s) ∧ (∀ j, j < 6 → J 120 0 j = x) ∧ ∀ a r j, a ≠ 120 → J a r j = I a r j := by
  obtain ⟨J, r1, j1, j2, j3⟩ := fl_120 (d := d) (nn := nn) (L := L) (P := P) (E := E) (c := c) (s := s) (x := x) 6 0 I rfl
  exact ⟨J, (k_J7_fill_53178_v5_0 ..).trans r1, fun j hj => j1 j (Nat.zero_le _) hj, j2⟩
theorem fl_121 : ∀ r k (I : FI), k + r = 6 → ∃ J : FI, V PR d 3 5 [(0, vR (some (121, 0))), (1, vi x), (2, vi (nI k)), (3, vi (6 : Int32))] [] (mm nn I L P E c s) = some (.inl none, mm nn J L P E c s) ∧ (∀ j, k ≤ j → j < 6 → J 121 0 j = x) ∧ (∀ a r j, a ≠ 121 → J a r j = I a r j) ∧ ∀ j, j < k → J 121 0 j = I 121 0 j
  | 0, k, I, e => by
    rw [k_J7_fill_53178_v6_5, show decide ((6 : Int32) ≤ nI k) = true from (nI_led (a := 6) (by decide) (by omega)).trans (decide_eq_true (by omega)), cond_true]
    exact ⟨I, rfl, fun j h1 h2 => absurd h1 (by omega), fun _ _ _ _ => rfl, fun _ _ => rfl⟩
  | r + 1, k, I, e => by
    obtain ⟨J, r1, j1, j2, j3⟩ := fl_121 r (k + 1) (up3 I 121 0 k x) (by omega)
    rw [k_J7_fill_53178_v6_5, show decide ((6 : Int32) ≤ nI k) = false from (nI_led (a := 6) (by decide) (by omega)).trans (decide_eq_false (by omega)), cond_false, inb_nI (show k < 6 by omega) (by decide), cond_true, nI_clamp (show k < 2 ^ 31 by omega), nI_1, r1]
    refine ⟨J, rfl, fun j h1 h2 => ?_, fun a r j ha => (j2 a r j ha).trans (up3_a ha), fun j hj => (j3 j (by omega)).trans (up3_k (by omega))⟩
    by_cases q : j = k
    · subst q
      exact (j3 j (by omega)).trans (up3_i _ _ _ _ _)
    · exact j1 j (by omega) h2
theorem fa_121 : ∃ J : FI, V PR d 3 0 [(0, vR (some (121, 0))), (1, vi x)] [] (mm nn I L P E c s) = some (.inl none, mm nn J L P E c s) ∧ (∀ j, j < 6 → J 121 0 j = x) ∧ ∀ a r j, a ≠ 121 → J a r j = I a r j := by
  obtain ⟨J, r1, j1, j2, j3⟩ := fl_121 (d := d) (nn := nn) (L := L) (P := P) (E := E) (c := c) (s := s) (x := x) 6 0 I rfl
  exact ⟨J, (k_J7_fill_53178_v6_0 ..).trans r1, fun j hj => j1 j (Nat.zero_le _) hj, j2⟩
theorem fl_122 : ∀ r k (I : FI), k + r = 6 → ∃ J : FI, V PR d 3 5 [(0, vR (some (122, 0))), (1, vi x), (2, vi (nI k)), (3, vi (6 : Int32))] [] (mm nn I L P E c s) = some (.inl none, mm nn J L P E c s) ∧ (∀ j, k ≤ j → j < 6 → J 122 0 j = x) ∧ (∀ a r j, a ≠ 122 → J a r j = I a r j) ∧ ∀ j, j < k → J 122 0 j = I 122 0 j
  | 0, k, I, e => by
    rw [k_J7_fill_53178_v7_5, show decide ((6 : Int32) ≤ nI k) = true from (nI_led (a := 6) (by decide) (by omega)).trans (decide_eq_true (by omega)), cond_true]
    exact ⟨I, rfl, fun j h1 h2 => absurd h1 (by omega), fun _ _ _ _ => rfl, fun _ _ => rfl⟩
  | r + 1, k, I, e => by
    obtain ⟨J, r1, j1, j2, j3⟩ := fl_122 r (k + 1) (up3 I 122 0 k x) (by omega)
    rw [k_J7_fill_53178_v7_5, show decide ((6 : Int32) ≤ nI k) = false from (nI_led (a := 6) (by decide) (by omega)).trans (decide_eq_false (by omega)), cond_false, inb_nI (show k < 6 by omega) (by decide), cond_true, nI_clamp (show k < 2 ^ 31 by omega), nI_1, r1]
    refine ⟨J, rfl, fun j h1 h2 => ?_, fun a r j ha => (j2 a r j ha).trans (up3_a ha), fun j hj => (j3 j (by omega)).trans (up3_k (by omega))⟩
    by_cases q : j = k
    · subst q
      exact (j3 j (by omega)).trans (up3_i _ _ _ _ _)
    · exact j1 j (by omega) h2
theorem fa_122 : ∃ J : FI, V PR d 3 0 [(0, vR (some (122, 0))), (1, vi x)] [] (mm nn I L P E c s) = some (.inl none, mm nn J L P E c s) ∧ (∀ j, j < 6 → J 122 0 j = x) ∧ ∀ a r j, a ≠ 122 → J a r j = I a r j := by
  obtain ⟨J, r1, j1, j2, j3⟩ := fl_122 (d := d) (nn := nn) (L := L) (P := P) (E := E) (c := c) (s := s) (x := x) 6 0 I rfl
  exact ⟨J, (k_J7_fill_53178_v7_0 ..).trans r1, fun j hj => j1 j (Nat.zero_le _) hj, j2⟩
/-- the draft made empty -/
def clI (I : FI) : FI := up3 (up3 (up3 (up3 (up3 (up3 (up3 I 115 0 0 4) 115 0 1 0) 115 0 2 0) 115 0 3 0) 115 0 6 0) 115 0 7 (-1)) 115 0 8 (-1)
theorem rl_33 : ∃ J : FI, V PR (d + 1) 33 0 [(0, vR (some (115, 0)))] [] (mm nn I L P E c s) = some (.inl none, mm nn J L P E c s) ∧ DC D0 J ∧ ∀ a r j, (a < 115 ∨ 126 < a) → J a r j = I a r j := by
  obtain ⟨J1, r1, a1, b1⟩ := fa_116 (d := d) (nn := nn) (I := clI I) (L := L) (P := P) (E := E) (c := c) (s := s) (x := -1)
  obtain ⟨J2, r2, a2, b2⟩ := fa_119 (d := d) (nn := nn) (I := J1) (L := L) (P := P) (E := E) (c := c) (s := s) (x := 0)
  obtain ⟨J3, r3, a3, b3⟩ := fa_120 (d := d) (nn := nn) (I := J2) (L := L) (P := P) (E := E) (c := c) (s := s) (x := 0)
  obtain ⟨J4, r4, a4, b4⟩ := fa_121 (d := d) (nn := nn) (I := J3) (L := L) (P := P) (E := E) (c := c) (s := s) (x := -1)
  obtain ⟨J5, r5, a5, b5⟩ := fa_122 (d := d) (nn := nn) (I := J4) (L := L) (P := P) (E := E) (c := c) (s := s) (x := -1)
  unfold clI at r1
  have f : ∀ a r j, a ≠ 116 → a ≠ 119 → a ≠ 120 → a ≠ 121 → a ≠ 122 → J5 a r j = clI I a r j := fun a r j q1 q2 q3 q4 q5 => by rw [b5 a r j q5, b4 a r j q4, b3 a r j q3, b2 a r j q2, b1 a r j q1]
  have g : ∀ j, J5 115 0 j = clI I 115 0 j := fun j => f 115 0 j (by decide) (by decide) (by decide) (by decide) (by decide)
  refine ⟨J5, ?_, ⟨⟨(g 0).trans rfl, (g 1).trans rfl, (g 2).trans rfl, (g 3).trans rfl, (g 6).trans rfl, (g 7).trans rfl, (g 8).trans rfl⟩, fun a b ha hb hab => ?_, fun w hw => absurd hw (Nat.not_lt_zero w), fun w hw => ⟨?_, ?_, ?_, ?_⟩, fun v hv => absurd hv (Nat.not_lt_zero v)⟩, fun a r j ha => ?_⟩
  · rw [k_X2_clear_0, r1, Vk_n, k_X2_clear_43, r2, Vk_n, k_X2_clear_51, r3, Vk_n, k_X2_clear_59, r4, Vk_n, k_X2_clear_67, r5, Vk_n, k_X2_clear_75]
  · rw [b5 116 _ _ (by decide), b4 116 _ _ (by decide), b3 116 _ _ (by decide), b2 116 _ _ (by decide), a1 _ (by omega)]
    exact (if_neg hab).symm
  · rw [b5 119 _ _ (by decide), b4 119 _ _ (by decide), b3 119 _ _ (by decide), a2 _ hw]
    rfl
  · rw [b5 120 _ _ (by decide), b4 120 _ _ (by decide), a3 _ hw]
    rfl
  · rw [b5 121 _ _ (by decide), a4 _ hw]
    rfl
  · rw [a5 _ hw]
    rfl
  · rw [f a r j (by omega) (by omega) (by omega) (by omega) (by omega)]
    unfold clI
    rw [up3_a (by omega), up3_a (by omega), up3_a (by omega), up3_a (by omega), up3_a (by omega), up3_a (by omega), up3_a (by omega)]
theorem st_cnt : ∀ N, N < 5 → ∀ M, M < 3 → ((1 : Int32) <<< ((nI N + nI M) &&& 31)) = nI (2 ^ (N + M)) := by decide +kernel
theorem st_all : ∀ b, b < 7 → (bif decide (nI (2 ^ b) < (64 : Int32)) then (((1 : Int64) <<< ((nI (2 ^ b)).toInt64 &&& 63)) - 1) else -1) = allL b := by decide +kernel
theorem rl_35 {N M : Nat} (h0 : I 115 0 0 = nI N) (h3 : I 115 0 3 = nI M) (hN : N < 5) (hM : M < 3) : V PR d 35 0 [(0, vR (some (115, 0)))] [] (mm nn I L P E c s) = some (.inl none, mm nn (up3 I 115 0 4 (nI (2 ^ (N + M)))) (up3 L 115 0 5 (allL (N + M))) P E c s) := by
  have e := st_all (N + M) (by omega)
  rw [k_X2_countStates_0, h0, h3, st_cnt N hN M hM, up3_i]
  cases h : decide (nI (2 ^ (N + M)) < (64 : Int32)) with
  | true =>
    rw [h, cond_true] at e
    rw [cond_true, e]
  | false =>
    rw [h, cond_false] at e
    rw [cond_false, e]
/-- the draft of a country read, its ways measured -/
def LaC (D : Dr) (J : FI) : Prop := (J 115 0 0 = nI (dN D) ∧ J 115 0 1 = nI (dP D) ∧ J 115 0 2 = nI (dW D) ∧ J 115 0 3 = nI (dV D) ∧ J 115 0 4 = nI (2 ^ (dN D + dV D)) ∧ J 115 0 6 = nI (dI D) ∧ J 115 0 7 = dF D ∧ J 115 0 8 = dG D) ∧ WC J (fwN (roN D) (dP D)) (dP D) ∧ (∀ w, w < dW D → J 117 0 w = dL D w 0 ∧ J 118 0 w = dL D w 1) ∧ (∀ w, w < 6 → J 119 0 w = dL D w 2 ∧ J 120 0 w = dL D w 3 ∧ J 121 0 w = dL D w 4 ∧ J 122 0 w = dL D w 5) ∧ ∀ v, v < dV D → J 123 0 v = dE D v 0 ∧ J 124 0 v = dE D v 1 ∧ J 125 0 v = dE D v 2 ∧ J 126 0 v = dE D v 3
theorem end_lt {a b : Nat} (ha : a < 2 ^ 31) (hb : b < 2 ^ 31) : decide (nI a < nI b) = decide (a < b) := nI_ltd ha hb
/-- a country ends -/
theorem rl_47_t (hS : StD B n I p D) (hO : OkD D) (hI : dI D < 2 ^ (dN D + dV D)) : ∃ J : FI, V PR (d + 3) 47 0 [(0, vR (some (142, 0)))] [] (mm nn I L P E c s) = some (.inl (some (vi (1 : Int32))), mm nn J (up3 L 115 0 5 (allL (dN D + dV D))) P E c s) ∧ LaC D J ∧ ∀ a r j, a ≠ 115 → a ≠ 116 → J a r j = I a r j := by
  obtain ⟨b1, b2, b3, b4, b5, b6⟩ := hO.1
  obtain ⟨⟨a1, a2, a3, a4, a5, a6, a7⟩, c1, c2, c3, c4⟩ := hS.2.2.2
  have hp : 2 ^ (dN D + dV D) ≤ 2 ^ 6 := Nat.pow_le_pow_right (by decide) (by omega)
  obtain ⟨J, r1, f1, w1⟩ := rl_43 (d := d) (nn := nn) (I := up3 I 115 0 4 (nI (2 ^ (dN D + dV D)))) (L := up3 L 115 0 5 (allL (dN D + dV D))) (P := P) (E := E) (c := c) (s := s) hO ((up3_k (by decide)).trans a2) (fun a b ha hb hab => (up3_a (by decide)).trans (c1 a b ha hb hab))
  have g : ∀ j, j ≠ 4 → J 115 0 j = I 115 0 j := fun j hj => (f1 115 0 j (by decide)).trans (up3_k hj)
  have k : ∀ a j, a ≠ 115 → a ≠ 116 → J a 0 j = I a 0 j := fun a j q1 q2 => (f1 a 0 j q2).trans (up3_a q1)
  refine ⟨J, ?_, ⟨⟨(g 0 (by decide)).trans a1, (g 1 (by decide)).trans a2, (g 2 (by decide)).trans a3, (g 3 (by decide)).trans a4, (f1 115 0 4 (by decide)).trans (up3_i _ _ _ _ _), (g 6 (by decide)).trans a5, (g 7 (by decide)).trans a6, (g 8 (by decide)).trans a7⟩, w1, fun w hw => ?_, fun w hw => ?_, fun v hv => ?_⟩, fun a r j q1 q2 => (f1 a r j q2).trans (up3_a q1)⟩
  · rw [k_X3_end_0, rl_35 a1 a4 (by omega) (by omega), Vk_n, k_X3_end_7, up3_k (show 6 ≠ 4 by decide), up3_i, a5, end_lt (by omega) (by omega), decide_eq_true hI, cond_true, r1, Vk_n, k_X3_end_42]
  · rw [k 117 w (by decide) (by decide), k 118 w (by decide) (by decide)]
    exact c2 w hw
  · rw [k 119 w (by decide) (by decide), k 120 w (by decide) (by decide), k 121 w (by decide) (by decide), k 122 w (by decide) (by decide)]
    exact c3 w hw
  · rw [k 123 v (by decide) (by decide), k 124 v (by decide) (by decide), k 125 v (by decide) (by decide), k 126 v (by decide) (by decide)]
    exact c4 v hv
theorem rl_47_f (hS : StD B n I p D) (hO : OkD D) (hI : ¬ dI D < 2 ^ (dN D + dV D)) : ∃ J : FI, V PR (d + 3) 47 0 [(0, vR (some (142, 0)))] [] (mm nn I L P E c s) = some (.inl (some (vi (0 : Int32))), mm nn J (up3 L 115 0 5 (allL (dN D + dV D))) P E c s) ∧ J 102 0 6 = nI 4 ∧ J 102 0 7 = nI p ∧ FxD I J := by
  obtain ⟨b1, b2, b3, b4, b5, b6⟩ := hO.1
  obtain ⟨⟨a1, a2, a3, a4, a5, a6, a7⟩, c1, c2, c3, c4⟩ := hS.2.2.2
  have hp : 2 ^ (dN D + dV D) ≤ 2 ^ 6 := Nat.pow_le_pow_right (by decide) (by omega)
  have hk : TkC B n (up3 I 115 0 4 (nI (2 ^ (dN D + dV D)))) p := hS.2.1.fx (fun j => up3_a (by decide))
  have F : V PR (d + 2) 121 0 [(0, vR (some (102, 0))), (1, vi (4 : Int32))] [] (mm nn (up3 I 115 0 4 (nI (2 ^ (dN D + dV D)))) (up3 L 115 0 5 (allL (dN D + dV D))) P E c s) = _ := c_fail 4 hk
  refine ⟨flC (up3 I 115 0 4 (nI (2 ^ (dN D + dV D)))) 4 p, ?_, flC_6.1, flC_6.2, FxD.tr (FxD.rfl'.u (a := 115) (by decide)) FxD.fl⟩
  rw [k_X3_end_0, rl_35 a1 a4 (by omega) (by omega), Vk_n, k_X3_end_7, up3_k (show 6 ≠ 4 by decide), up3_i, a5, end_lt (by omega) (by omega), decide_eq_false hI, cond_false, F, Vk_v, k_X3_end_32]
/-- what comes out of a text -/
def OeV (x : Option (Out × Mem)) (mk : FI → FL → Mem) (I : FI) (L : FL) (r : RsD) : Prop := match r with
  | .inl (k, q) => ∃ (J : FI) (L' : FL), x = some (.inl (some (vi (0 : Int32))), mk J L') ∧ J 102 0 6 = nI k ∧ J 102 0 7 = nI q ∧ FxD I J ∧ ∀ a r j, a ≠ 115 → L' a r j = L a r j
  | .inr (_, D) => ∃ J : FI, x = some (.inl (some (vi (1 : Int32))), mk J (up3 L 115 0 5 (allL (dN D + dV D)))) ∧ LaC D J ∧ J 102 0 7 = -1 ∧ FxD I J ∧ OkD D
theorem OeV.tr {x : Option (Out × Mem)} {mk : FI → FL → Mem} {r : RsD} (f : FxD I J) (h : OeV x mk J L r) : OeV x mk I L r := by
  cases r with
  | inl y =>
    obtain ⟨k, q⟩ := y
    obtain ⟨J2, L2, h1, h2, h3, h4, h5⟩ := h
    exact ⟨J2, L2, h1, h2, h3, f.tr h4, h5⟩
  | inr y =>
    obtain ⟨q, D⟩ := y
    obtain ⟨J2, h1, h2, h3, h4, h5⟩ := h
    exact ⟨J2, h1, h2, h3, f.tr h4, h5⟩
theorem clR_60 : ∃ x, clR B n 60 p D = .inl x := by
  unfold clR
  by_cases e : kdC B n p = 9
  · rw [decide_eq_true e]
    exact ⟨_, rfl⟩
  · rw [decide_eq_false e]
    exact ⟨_, rfl⟩
theorem rl_46_s {cl r : Nat} (hc : cl ≤ 60) (hS : StD B n I p D) (hO : OkD D) (h0 : cl = 0 → dW D = 0) (ih : ∀ (J : FI) q D1, cl < 60 → StD B n J q D1 → OkD D1 → OeV (V PR (d + 5) 46 9 [(0, vR (some (142, 0))), (1, vi (nI (cl + 1)))] [] (mm nn J L P E c s)) (fun J L => mm nn J L P E c s) J L (couR B n r (cl + 1) q D1)) : OeV (V PR (d + 5) 46 9 [(0, vR (some (142, 0))), (1, vi (nI cl))] [] (mm nn I L P E c s)) (fun J L => mm nn J L P E c s) I L (couR B n (r + 1) cl p D) := by
  have hp := hS.2.1.1
  rw [k_X3_read_9, show decide ((60 : Int32) < nI cl) = decide (60 < cl) from nI_ltd (a := 60) (by decide) (by omega), decide_eq_false (show ¬ 60 < cl by omega), cond_false, show decide (I 102 0 2 = (0 : Int32)) = decide (n ≤ p) from (kd_w hS.2.1 0 (by decide)).trans kd_0]
  unfold couR
  by_cases e : n ≤ p
  · rw [decide_eq_true e, Bool.not_true, cond_false, if_pos e]
    by_cases hI : dI D < 2 ^ (dN D + dV D)
    · obtain ⟨J, r1, l1, f1⟩ := rl_47_t (d := d + 1) (nn := nn) (L := L) (P := P) (E := E) (c := c) (s := s) hS hO hI
      rw [decide_eq_false (show ¬ 2 ^ (dN D + dV D) ≤ dI D by omega), cond_false, r1, Vk_v, k_X3_read_29]
      exact ⟨J, rfl, l1, (f1 102 0 7 (by decide) (by decide)).trans hS.2.2.1, fun a r j q1 q2 => f1 a r j (by omega) (by omega), hO⟩
    · obtain ⟨J, r1, l1, l2, f1⟩ := rl_47_f (d := d + 1) (nn := nn) (L := L) (P := P) (E := E) (c := c) (s := s) hS hO hI
      rw [decide_eq_true (show 2 ^ (dN D + dV D) ≤ dI D by omega), cond_true, r1, Vk_v, k_X3_read_29]
      exact ⟨J, _, rfl, l1, l2, f1, fun a r j q => up3_a q⟩
  · obtain ⟨v, J, r1, p1, f1⟩ := rl_48 (dd := d) (nn := nn) (L := L) (P := P) (E := E) (c := c) (s := s) hS hO h0 hc
    have g := clR_gc (B := B) (n := n) (cl := cl) hO h0 hp
    have h60 : cl = 60 → ∃ x, clR B n cl p D = .inl x := fun e => by
      subst e
      exact clR_60
    rw [decide_eq_false e, Bool.not_false, cond_true, if_neg e, r1, Vk_v, k_X3_read_35]
    generalize clR B n cl p D = q at *
    cases q with
    | inl y =>
      obtain ⟨k, z⟩ := y
      obtain ⟨rfl, p2, p3⟩ := p1
      rw [m1_ge, cond_false]
      exact ⟨J, L, rfl, p2, p3, f1, fun _ _ _ _ => rfl⟩
    | inr y =>
      obtain ⟨z, D1⟩ := y
      obtain ⟨⟨v, v1, rfl⟩, S1⟩ := p1
      have hc2 : cl < 60 := by
        rcases Nat.lt_or_ge cl 60 with q | q
        · exact q
        · obtain ⟨x, hx⟩ := h60 (by omega)
          cases hx
      rw [ge0 v1, cond_true, nI_1]
      exact (ih J z D1 hc2 S1 g.2.2).tr f1
theorem rl_46_9 : ∀ r cl p D (I : FI), cl + r = 60 → StD B n I p D → OkD D → (cl = 0 → dW D = 0) → OeV (V PR (d + 5) 46 9 [(0, vR (some (142, 0))), (1, vi (nI cl))] [] (mm nn I L P E c s)) (fun J L => mm nn J L P E c s) I L (couR B n (r + 1) cl p D)
  | 0, cl, p, D, I, e, hS, hO, h0 => rl_46_s (by omega) hS hO h0 fun J q D1 h => absurd h (by omega)
  | r + 1, cl, p, D, I, e, hS, hO, h0 => rl_46_s (by omega) hS hO h0 fun J q D1 h S1 O1 => rl_46_9 r (cl + 1) q D1 J (by omega) S1 O1 (fun z => absurd z (by omega))
/-- a country is read -/
theorem rl_46 (h1 : TxC B n I) (h2 : TkC B n I p) (h3 : I 102 0 7 = -1) : OeV (V PR (d + 5) 46 0 [(0, vR (some (142, 0)))] [] (mm nn I L P E c s)) (fun J L => mm nn J L P E c s) I L (couR B n 61 0 p D0) := by
  obtain ⟨J, r1, d1, f1⟩ := rl_33 (d := d + 3) (nn := nn) (I := I) (L := L) (P := P) (E := E) (c := c) (s := s)
  have hS : StD B n J p D0 := ⟨⟨h1.1, (f1 102 0 1 (by decide)).trans h1.2.1, h1.2.2.1, fun k hk => (f1 101 0 k (by decide)).trans (h1.2.2.2 k hk)⟩, h2.fx (fun j => f1 102 0 j (by decide)), (f1 102 0 7 (by decide)).trans h3, d1⟩
  rw [k_X3_read_0, r1, Vk_n, k_X3_read_7, show (0 : Int32) = nI 0 from rfl]
  exact (rl_46_9 60 0 p D0 J rfl hS OkD0 (fun _ => rfl)).tr (fun a r j q1 q2 => f1 a r j q2)
/-- the draft stands -/
theorem rl_34 : ∃ (J : FI) (L' : FL), V PR d 34 0 [(0, vR (some (103, 0))), (1, vR (some (115, 0)))] [] (mm nn I L P E c s) = some (.inl none, mm nn J L' P E c s) ∧ (J 103 0 0 = I 115 0 0 ∧ J 103 0 1 = I 115 0 1 ∧ J 103 0 2 = I 115 0 2 ∧ J 103 0 3 = I 115 0 3 ∧ J 103 0 4 = I 115 0 4 ∧ J 103 0 6 = I 115 0 6 ∧ J 103 0 7 = I 115 0 7 ∧ J 103 0 8 = I 115 0 8) ∧ L' 103 0 5 = L 115 0 5 ∧ (∀ j, j < 64 → J 104 0 j = I 116 0 j) ∧ (∀ j, j < 6 → J 105 0 j = I 117 0 j ∧ J 106 0 j = I 118 0 j ∧ J 107 0 j = I 119 0 j ∧ J 108 0 j = I 120 0 j ∧ J 109 0 j = I 121 0 j ∧ J 110 0 j = I 122 0 j) ∧ (∀ j, j < 2 → J 111 0 j = I 123 0 j ∧ J 112 0 j = I 124 0 j ∧ J 113 0 j = I 125 0 j ∧ J 114 0 j = I 126 0 j) ∧ (∀ a r j, a < 103 ∨ 114 < a → J a r j = I a r j) ∧ ∀ a r j, a ≠ 103 → L' a r j = L a r j := by
  refine ⟨_, _, k_X2_copyFrom_0 .., ⟨rfl, rfl, rfl, rfl, rfl, rfl, rfl, rfl⟩, rfl, fun j hj => ?_, fun j hj => ?_, fun j hj => ?_, fun a r j ha => ?_, fun a r j ha => up3_a ha⟩
  · rw [cp_x (by decide), cp_x (by decide), cp_x (by decide), cp_x (by decide), cp_x (by decide), cp_x (by decide), cp_x (by decide), cp_x (by decide), cp_x (by decide), cp_x (by decide), cp_v hj, up3_a (by decide), up3_a (by decide), up3_a (by decide), up3_a (by decide), up3_a (by decide), up3_a (by decide), up3_a (by decide), up3_a (by decide)]
  · simp only [cp_x, cp_v hj, up3_a, ne_eq, Nat.reduceEqDiff, not_false_eq_true, and_self]
  · simp only [cp_x, cp_v hj, up3_a, ne_eq, Nat.reduceEqDiff, not_false_eq_true, and_self]
  · rw [cp_x (by omega), cp_x (by omega), cp_x (by omega), cp_x (by omega), cp_x (by omega), cp_x (by omega), cp_x (by omega), cp_x (by omega), cp_x (by omega), cp_x (by omega), cp_x (by omega), up3_a (by omega), up3_a (by omega), up3_a (by omega), up3_a (by omega), up3_a (by omega), up3_a (by omega), up3_a (by omega), up3_a (by omega)]
theorem cb_23_19 {q : Nat} (hq : q < 7) : V PR (d + 1) 23 19 [(0, vR (some (127, 0))), (2, vi (nI q))] [vR none, vi (nI q), vR (some (128, 0))] (mm nn I L P E c s) = V PR (d + 1) 23 7 [(0, vR (some (127, 0))), (2, vi (nI (q + 1)))] [] (mm nn I L (up3 P 128 0 q none) E c s) := by
  refine (o_aast_n f_23_19 (ao_128_0.trans (inb_nI hq (by decide))) rfl (ph_holds (.inl rfl)) rfl rfl).trans ?_
  rw [nI_clamp (show q < 2 ^ 31 by omega), k_X1_clear_n_20, nI_1]
theorem cb_23_7 : ∀ r q (P : FR), q + r = 7 → ∃ (J : FI) (P' : FR), V PR (d + 1) 23 7 [(0, vR (some (127, 0))), (2, vi (nI q))] [] (mm nn I L P E c s) = some (.inl none, mm nn J L P' E c s) ∧ J 127 0 0 = I 127 0 0 ∧ J 127 0 2 = 0 ∧ J 127 0 7 = 0 ∧ (∀ j, j < 36 → J 134 0 j = 0) ∧ (∀ j, q ≤ j → j < 7 → P' 128 0 j = none) ∧ (∀ a r j, (a = 127 → j ≠ 2 ∧ j ≠ 7) → a ≠ 134 → J a r j = I a r j) ∧ (∀ a r j, a ≠ 128 → P' a r j = P a r j) ∧ ∀ j, j < q → P' 128 0 j = P 128 0 j
  | 0, q, P, e => by
    obtain ⟨J, r1, a1, b1⟩ := fa_134 (d := d) (nn := nn) (I := up3 (up3 I 127 0 2 0) 127 0 7 0) (L := L) (P := P) (E := E) (c := c) (s := s) (x := 0)
    refine ⟨J, P, ?_, (b1 127 0 0 (by decide)).trans rfl, (b1 127 0 2 (by decide)).trans rfl, (b1 127 0 7 (by decide)).trans rfl, a1, fun j h1 h2 => absurd h1 (by omega), fun a r j h1 h2 => ?_, fun _ _ _ _ => rfl, fun _ _ => rfl⟩
    · rw [k_X1_clear_7, show decide ((7 : Int32) ≤ nI q) = true from (nI_led (a := 7) (by decide) (by omega)).trans (decide_eq_true (by omega)), cond_true, r1, Vk_n, k_X1_clear_44]
    · rw [b1 a r j h2, up3_o (fun g => (h1 g.1).2 g.2.2), up3_o (fun g => (h1 g.1).1 g.2.2)]
  | r + 1, q, P, e => by
    obtain ⟨J, P', r1, a1, a2, a3, a4, a5, a6, a7, a8⟩ := cb_23_7 r (q + 1) (up3 P 128 0 q none) (by omega)
    refine ⟨J, P', ?_, a1, a2, a3, a4, fun j h1 h2 => ?_, a6, fun a r j ha => (a7 a r j ha).trans (up3_a ha), fun j hj => (a8 j (by omega)).trans (up3_k (by omega))⟩
    · rw [k_X1_clear_7, show decide ((7 : Int32) ≤ nI q) = false from (nI_led (a := 7) (by decide) (by omega)).trans (decide_eq_false (by omega)), cond_false, cb_23_19 (by omega), r1]
    · by_cases z : j = q
      · subst z
        exact (a8 j (by omega)).trans (up3_i _ _ _ _ _)
      · exact a5 j (by omega) h2
/-- the book is made empty -/
theorem rl_23 : ∃ (J : FI) (P' : FR), V PR (d + 1) 23 0 [(0, vR (some (127, 0))), (1, vi x)] [] (mm nn I L P E c s) = some (.inl none, mm nn J L P' E c s) ∧ J 127 0 0 = x ∧ J 127 0 2 = 0 ∧ J 127 0 7 = 0 ∧ (∀ j, j < 36 → J 134 0 j = 0) ∧ (∀ q, q < 7 → P' 128 0 q = none) ∧ (∀ a r j, (a = 127 → j ≠ 0 ∧ j ≠ 2 ∧ j ≠ 7) → a ≠ 134 → J a r j = I a r j) ∧ ∀ a r j, a ≠ 128 → P' a r j = P a r j := by
  obtain ⟨J, P', r1, a1, a2, a3, a4, a5, a6, a7, a8⟩ := cb_23_7 (d := d) (nn := nn) (I := up3 I 127 0 0 x) (L := L) (E := E) (c := c) (s := s) 7 0 P rfl
  refine ⟨J, P', ?_, a1.trans (up3_i _ _ _ _ _), a2, a3, a4, fun q hq => a5 q (Nat.zero_le _) hq, fun a r j h1 h2 => (a6 a r j (fun g => ⟨(h1 g).2.1, (h1 g).2.2⟩) h2).trans (up3_o (fun g => (h1 g.1).1 g.2.2)), a7⟩
  rw [k_X1_clear_0, show (0 : Int32) = nI 0 from rfl, r1]

end Cend
