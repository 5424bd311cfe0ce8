/-! THE COUNTRY: the reference reads a country, and lets it stand (in part written by program). -/
section Crdc
variable {B : Nat → Nat} {n : Nat} {d dd nn : Nat} {I J : FI} {L : FL} {P : FR} {E : FE} {c s p a cl k q z w i j M : Nat} {D : Dr} {t : Nat → Nat → Nat}
/-- what tells nothing -/
theorem tn_2k : ∀ r k (I : FI), k + r = 7 → ∃ J : FI, V PR d 207 2 [(0, vR (some (186, 0))), (1, vi (nI k))] [] (mm nn I L P E c s) = V PR d 207 45 [(0, vR (some (186, 0))), (1, vi (0 : Int32))] [] (mm nn J L P E c s) ∧ (J 189 0 0 = 4 ∧ J 189 0 5 = -1 ∧ J 189 0 6 = -1) ∧ (∀ j, k ≤ j → j < 7 → j ≠ 0 → j ≠ 5 → j ≠ 6 → J 189 0 j = 0) ∧ (∀ j, j < k → j ≠ 0 → j ≠ 5 → j ≠ 6 → J 189 0 j = I 189 0 j) ∧ ∀ a r j, a ≠ 189 → J a r j = I a r j
  | 0, k, I, e => by
    rw [k_X12_tellsNothing_2, show decide ((7 : Int32) ≤ nI k) = true from (nI_led (a := 7) (by decide) (by omega)).trans (decide_eq_true (by omega)), cond_true]
    exact ⟨_, rfl, ⟨rfl, rfl, rfl⟩, fun j h1 h2 => absurd h1 (by omega), fun j h1 h2 h3 h4 => by rw [up3_k h4, up3_k h3, up3_k h2], fun a r j ha => by rw [up3_a ha, up3_a ha, up3_a ha]⟩
  | r + 1, k, I, e => by
    obtain ⟨J, r1, j1, j2, j3, j4⟩ := tn_2k r (k + 1) (up3 I 189 0 k 0) (by omega)
    rw [k_X12_tellsNothing_2, show decide ((7 : Int32) ≤ nI k) = false from (nI_led (a := 7) (by decide) (by omega)).trans (decide_eq_false (by omega)), cond_false, inb_nI (show k < 7 by omega) (by decide), cond_true, nI_clamp (show k < 2 ^ 31 by omega), nI_1, r1]
    refine ⟨J, rfl, j1, fun j h1 h2 h3 h4 h5 => ?_, fun j h1 h2 h3 h4 => (j3 j (by omega) h2 h3 h4).trans (up3_k (by omega)), fun a r j ha => (j4 a r j ha).trans (up3_a ha)⟩
    by_cases g : j = k
    · subst g
      exact (j3 j (by omega) h3 h4 h5).trans (up3_i _ _ _ _ _)
    · exact j2 j (by omega) h2 h3 h4 h5
theorem tn_53 (hi : i < 8) : ∀ r j (I : FI), j + r = 8 → ∃ J : FI, V PR d 207 53 [(0, vR (some (186, 0))), (1, vi (nI i)), (2, vi (nI j))] [] (mm nn I L P E c s) = V PR d 207 45 [(0, vR (some (186, 0))), (1, vi (nI (i + 1)))] [] (mm nn J L P E c s) ∧ (∀ b, j ≤ b → b < 8 → J 211 (i + 1) b = dR D0 i b) ∧ (∀ b, b < j → J 211 (i + 1) b = I 211 (i + 1) b) ∧ ∀ a r b, ¬ (a = 211 ∧ r = i + 1) → J a r b = I a r b
  | 0, j, I, e => by
    rw [k_X12_tellsNothing_53, show decide ((8 : Int32) ≤ nI j) = true from (nI_led (a := 8) (by decide) (by omega)).trans (decide_eq_true (by omega)), cond_true, nI_1]
    exact ⟨I, rfl, fun b h1 h2 => absurd h1 (by omega), fun _ _ => rfl, fun _ _ _ _ => rfl⟩
  | r + 1, j, I, e => by
    obtain ⟨J, r1, j1, j2, j3⟩ := tn_53 hi r (j + 1) (up3 I 211 (i + 1) j (dR D0 i j)) (by omega)
    have A : arrOk (mm nn I L P E c s) 211 (i + 1) 0 (nI j) = true := by rw [aro_211, blt_t hi, inb_nI (show j < 8 by omega) (by decide)]; rfl
    have S : V PR d 207 53 [(0, vR (some (186, 0))), (1, vi (nI i)), (2, vi (nI j))] [] (mm nn I L P E c s) = V PR d 207 53 [(0, vR (some (186, 0))), (1, vi (nI i)), (2, vi (nI (j + 1)))] [] (mm nn (up3 I 211 (i + 1) j (dR D0 i j)) L P E c s) := by
      rw [k_X12_tellsNothing_53, show decide ((8 : Int32) ≤ nI j) = false from (nI_led (a := 8) (by decide) (by omega)).trans (decide_eq_false (by omega)), cond_false, inb_nI hi (by decide), cond_true, nI_clamp (show i < 2 ^ 31 by omega), nI_clamp (show j < 2 ^ 31 by omega), A, cond_true, cond_true, nI_1, show decide (nI i = nI j) = decide (i = j) from decide_eq_decide.mpr (nI_eq (by omega) (by omega))]
      by_cases g : i = j
      · rw [decide_eq_true g, Bool.not_true, cond_false, show dR D0 i j = 0 from if_pos g]
      · rw [decide_eq_false g, Bool.not_false, cond_true, show dR D0 i j = -1 from if_neg g]
    rw [S, r1]
    refine ⟨J, rfl, fun b h1 h2 => ?_, fun b hb => (j2 b (by omega)).trans (up3_k (by omega)), fun a r b hn => (j3 a r b hn).trans (up3_o (fun g => hn ⟨g.1, g.2.1⟩))⟩
    by_cases g : b = j
    · subst g
      exact (j2 b (by omega)).trans (up3_i _ _ _ _ _)
    · exact j1 b (by omega) h2
theorem tn_45 : ∀ r i (I : FI), i + r = 8 → ∃ J : FI, V PR d 207 45 [(0, vR (some (186, 0))), (1, vi (nI i))] [] (mm nn I L P E c s) = some (.inl none, mm nn J L P E c s) ∧ (∀ a b, i ≤ a → a < 8 → b < 8 → J 211 (a + 1) b = dR D0 a b) ∧ ∀ a r b, ¬ (a = 211 ∧ i + 1 ≤ r) → J a r b = I a r b
  | 0, i, I, e => by
    rw [k_X12_tellsNothing_45, show decide ((8 : Int32) ≤ nI i) = true from (nI_led (a := 8) (by decide) (by omega)).trans (decide_eq_true (by omega)), cond_true]
    exact ⟨I, rfl, fun a b h1 h2 => absurd h1 (by omega), fun _ _ _ _ => rfl⟩
  | r + 1, i, I, e => by
    obtain ⟨J1, r1, j1, j2, j3⟩ := tn_53 (d := d) (nn := nn) (L := L) (P := P) (E := E) (c := c) (s := s) (show i < 8 by omega) 8 0 I rfl
    obtain ⟨J, r2, k1, k2⟩ := tn_45 r (i + 1) J1 (by omega)
    rw [k_X12_tellsNothing_45, show decide ((8 : Int32) ≤ nI i) = false from (nI_led (a := 8) (by decide) (by omega)).trans (decide_eq_false (by omega)), cond_false, show (0 : Int32) = nI 0 from rfl, r1, r2]
    refine ⟨J, rfl, fun a b h1 h2 h3 => ?_, fun a r b hn => (k2 a r b (by omega)).trans (j3 a r b (by omega))⟩
    by_cases g : a = i
    · subst g
      rw [k2 211 (a + 1) b (by omega)]
      exact j1 b (Nat.zero_le _) h3
    · exact k1 a b (by omega) h2 h3
theorem r_207 : ∃ J : FI, V PR d 207 0 [(0, vR (some (186, 0)))] [] (mm nn I L P E c s) = some (.inl none, mm nn J L P E c s) ∧ DR D0 J ∧ ∀ a r j, a ≠ 189 → a ≠ 211 → J a r j = I a r j := by
  obtain ⟨J1, r1, ⟨j0, j5, j6⟩, j2, j3, j4⟩ := tn_2k (d := d) (nn := nn) (L := L) (P := P) (E := E) (c := c) (s := s) 7 0 I rfl
  obtain ⟨J, r2, k1, k2⟩ := tn_45 (d := d) (nn := nn) (L := L) (P := P) (E := E) (c := c) (s := s) 8 0 J1 rfl
  have g : ∀ j, J 189 0 j = J1 189 0 j := fun j => k2 189 0 j (by omega)
  refine ⟨J, ?_, ⟨⟨(g 0).trans j0, ?_, ?_, ?_, ?_, (g 5).trans j5, (g 6).trans j6⟩, fun a b ha hb => k1 a b (Nat.zero_le _) ha hb, fun w j hw => absurd hw (Nat.not_lt_zero w), fun v j hv => absurd hv (Nat.not_lt_zero v)⟩, fun a r j h1 h2 => (k2 a r j (fun g => h2 g.1)).trans (j4 a r j h1)⟩
  · rw [k_X12_tellsNothing_0, show (0 : Int32) = nI 0 from rfl, r1, show (0 : Int32) = nI 0 from rfl, r2]
  · exact (g 1).trans (j2 1 (by decide) (by decide) (by decide) (by decide) (by decide))
  · exact (g 2).trans (j2 2 (by decide) (by decide) (by decide) (by decide) (by decide))
  · exact (g 3).trans (j2 3 (by decide) (by decide) (by decide) (by decide) (by decide))
  · exact (g 4).trans (j2 4 (by decide) (by decide) (by decide) (by decide) (by decide))
/-- what is told now -/
theorem st_2l : ∀ r k (I : FI), k + r = 7 → ∃ J : FI, V PR d 233 2 [(0, vR (some (186, 0))), (1, vi (nI k))] [] (mm nn I L P E c s) = V PR d 233 28 [(0, vR (some (186, 0))), (1, vi (0 : Int32))] [] (mm nn J L P E c s) ∧ (∀ j, k ≤ j → j < 7 → J 190 0 j = I 189 0 j) ∧ (∀ j, j < k → J 190 0 j = I 190 0 j) ∧ ∀ a r j, a ≠ 190 → J a r j = I a r j
  | 0, k, I, e => by
    rw [k_X12_stands_2, show decide ((7 : Int32) ≤ nI k) = true from (nI_led (a := 7) (by decide) (by omega)).trans (decide_eq_true (by omega)), cond_true]
    exact ⟨I, rfl, fun j h1 h2 => absurd h1 (by omega), fun _ _ => rfl, fun _ _ _ _ => rfl⟩
  | r + 1, k, I, e => by
    obtain ⟨J, r1, j2, j3, j4⟩ := st_2l r (k + 1) (up3 I 190 0 k (I 189 0 k)) (by omega)
    rw [k_X12_stands_2, show decide ((7 : Int32) ≤ nI k) = false from (nI_led (a := 7) (by decide) (by omega)).trans (decide_eq_false (by omega)), cond_false, inb_nI (show k < 7 by omega) (by decide), cond_true, cond_true, nI_clamp (show k < 2 ^ 31 by omega), nI_1, r1]
    refine ⟨J, rfl, fun j h1 h2 => ?_, fun j h1 => (j3 j (by omega)).trans (up3_k (by omega)), fun a r j ha => (j4 a r j ha).trans (up3_a ha)⟩
    by_cases g : j = k
    · subst g
      exact (j3 j (by omega)).trans (up3_i _ _ _ _ _)
    · exact (j2 j (by omega) h2).trans (up3_a (by decide))
theorem st_40 (hi : i < 6) : ∀ r j (I : FI), j + r = 6 → ∃ J : FI, V PR d 233 40 [(0, vR (some (186, 0))), (1, vi (nI i)), (2, vi (nI j))] [] (mm nn I L P E c s) = V PR d 233 28 [(0, vR (some (186, 0))), (1, vi (nI (i + 1)))] [] (mm nn J L P E c s) ∧ (∀ b, j ≤ b → b < 6 → J 198 (i + 1) b = I 191 (i + 1) b) ∧ (∀ b, b < j → J 198 (i + 1) b = I 198 (i + 1) b) ∧ ∀ a r b, ¬ (a = 198 ∧ r = i + 1) → J a r b = I a r b
  | 0, j, I, e => by
    rw [k_X12_stands_40, show decide ((6 : Int32) ≤ nI j) = true from (nI_led (a := 6) (by decide) (by omega)).trans (decide_eq_true (by omega)), cond_true, nI_1]
    exact ⟨I, rfl, fun b h1 h2 => absurd h1 (by omega), fun _ _ => rfl, fun _ _ _ _ => rfl⟩
  | r + 1, j, I, e => by
    obtain ⟨J, r1, j1, j2, j3⟩ := st_40 hi r (j + 1) (up3 I 198 (i + 1) j (I 191 (i + 1) j)) (by omega)
    have A : arrOk (mm nn I L P E c s) 198 (i + 1) 0 (nI j) = true := by rw [aro_198, blt_t hi, inb_nI (show j < 6 by omega) (by decide)]; rfl
    have A2 : arrOk (mm nn I L P E c s) 191 (i + 1) 0 (nI j) = true := by rw [aro_191, blt_t hi, inb_nI (show j < 6 by omega) (by decide)]; rfl
    rw [k_X12_stands_40, show decide ((6 : Int32) ≤ nI j) = false from (nI_led (a := 6) (by decide) (by omega)).trans (decide_eq_false (by omega)), cond_false, inb_nI hi (by decide), cond_true, nI_clamp (show i < 2 ^ 31 by omega), nI_clamp (show j < 2 ^ 31 by omega), cond_true, A2, cond_true, A, cond_true, nI_1, r1]
    refine ⟨J, rfl, fun b h1 h2 => ?_, fun b hb => (j2 b (by omega)).trans (up3_k (by omega)), fun a r b hn => (j3 a r b hn).trans (up3_o (fun g => hn ⟨g.1, g.2.1⟩))⟩
    by_cases g : b = j
    · subst g
      exact (j2 b (by omega)).trans (up3_i _ _ _ _ _)
    · exact (j1 b (by omega) h2).trans (up3_a (by decide))
theorem st_28l (hM : M ≤ 6) : ∀ r i (I : FI), i + r = M → I 190 0 2 = nI M → ∃ J : FI, V PR d 233 28 [(0, vR (some (186, 0))), (1, vi (nI i))] [] (mm nn I L P E c s) = V PR d 233 76 [(0, vR (some (186, 0))), (1, vi (0 : Int32))] [] (mm nn J L P E c s) ∧ (∀ a b, i ≤ a → a < M → b < 6 → J 198 (a + 1) b = I 191 (a + 1) b) ∧ ∀ a r b, ¬ (a = 198 ∧ i + 1 ≤ r) → J a r b = I a r b
  | 0, i, I, e, hl => by
    rw [k_X12_stands_28, hl, nI_led (by omega) (by omega), decide_eq_true (by omega), cond_true]
    exact ⟨I, rfl, fun a b h1 h2 => absurd h1 (by omega), fun _ _ _ _ => rfl⟩
  | r + 1, i, I, e, hl => by
    obtain ⟨J1, r1, j1, j2, j3⟩ := st_40 (d := d) (nn := nn) (L := L) (P := P) (E := E) (c := c) (s := s) (show i < 6 by omega) 6 0 I rfl
    obtain ⟨J, r2, k1, k2⟩ := st_28l hM r (i + 1) J1 (by omega) ((j3 190 0 2 (by omega)).trans hl)
    rw [k_X12_stands_28, hl, nI_led (by omega) (by omega), decide_eq_false (by omega), cond_false, show (0 : Int32) = nI 0 from rfl, r1, r2]
    refine ⟨J, rfl, fun a b h1 h2 h3 => ?_, fun a r b hn => (k2 a r b (by omega)).trans (j3 a r b (by omega))⟩
    by_cases g : a = i
    · subst g
      rw [k2 198 (a + 1) b (by omega)]
      exact j1 b (Nat.zero_le _) h3
    · rw [show I 191 (a + 1) b = J1 191 (a + 1) b from (j3 191 (a + 1) b (by omega)).symm]
      exact k1 a b (by omega) h2 h3
theorem st_88 (hi : i < 2) : ∀ r j (I : FI), j + r = 4 → ∃ J : FI, V PR d 233 88 [(0, vR (some (186, 0))), (1, vi (nI i)), (2, vi (nI j))] [] (mm nn I L P E c s) = V PR d 233 76 [(0, vR (some (186, 0))), (1, vi (nI (i + 1)))] [] (mm nn J L P E c s) ∧ (∀ b, j ≤ b → b < 4 → J 208 (i + 1) b = I 205 (i + 1) b) ∧ (∀ b, b < j → J 208 (i + 1) b = I 208 (i + 1) b) ∧ ∀ a r b, ¬ (a = 208 ∧ r = i + 1) → J a r b = I a r b
  | 0, j, I, e => by
    rw [k_X12_stands_88, show decide ((4 : Int32) ≤ nI j) = true from (nI_led (a := 4) (by decide) (by omega)).trans (decide_eq_true (by omega)), cond_true, nI_1]
    exact ⟨I, rfl, fun b h1 h2 => absurd h1 (by omega), fun _ _ => rfl, fun _ _ _ _ => rfl⟩
  | r + 1, j, I, e => by
    obtain ⟨J, r1, j1, j2, j3⟩ := st_88 hi r (j + 1) (up3 I 208 (i + 1) j (I 205 (i + 1) j)) (by omega)
    have A : arrOk (mm nn I L P E c s) 208 (i + 1) 0 (nI j) = true := by rw [aro_208, blt_t hi, inb_nI (show j < 4 by omega) (by decide)]; rfl
    have A2 : arrOk (mm nn I L P E c s) 205 (i + 1) 0 (nI j) = true := by rw [aro_205, blt_t hi, inb_nI (show j < 4 by omega) (by decide)]; rfl
    rw [k_X12_stands_88, show decide ((4 : Int32) ≤ nI j) = false from (nI_led (a := 4) (by decide) (by omega)).trans (decide_eq_false (by omega)), cond_false, inb_nI hi (by decide), cond_true, nI_clamp (show i < 2 ^ 31 by omega), nI_clamp (show j < 2 ^ 31 by omega), cond_true, A2, cond_true, A, cond_true, nI_1, r1]
    refine ⟨J, rfl, fun b h1 h2 => ?_, fun b hb => (j2 b (by omega)).trans (up3_k (by omega)), fun a r b hn => (j3 a r b hn).trans (up3_o (fun g => hn ⟨g.1, g.2.1⟩))⟩
    by_cases g : b = j
    · subst g
      exact (j2 b (by omega)).trans (up3_i _ _ _ _ _)
    · exact (j1 b (by omega) h2).trans (up3_a (by decide))
theorem st_76l (hM : M ≤ 2) : ∀ r i (I : FI), i + r = M → I 190 0 3 = nI M → ∃ J : FI, V PR d 233 76 [(0, vR (some (186, 0))), (1, vi (nI i))] [] (mm nn I L P E c s) = V PR d 233 123 [(0, vR (some (186, 0))), (1, vi (0 : Int32))] [] (mm nn J L P E c s) ∧ (∀ a b, i ≤ a → a < M → b < 4 → J 208 (a + 1) b = I 205 (a + 1) b) ∧ ∀ a r b, ¬ (a = 208 ∧ i + 1 ≤ r) → J a r b = I a r b
  | 0, i, I, e, hl => by
    rw [k_X12_stands_76, hl, nI_led (by omega) (by omega), decide_eq_true (by omega), cond_true]
    exact ⟨I, rfl, fun a b h1 h2 => absurd h1 (by omega), fun _ _ _ _ => rfl⟩
  | r + 1, i, I, e, hl => by
    obtain ⟨J1, r1, j1, j2, j3⟩ := st_88 (d := d) (nn := nn) (L := L) (P := P) (E := E) (c := c) (s := s) (show i < 2 by omega) 4 0 I rfl
    obtain ⟨J, r2, k1, k2⟩ := st_76l hM r (i + 1) J1 (by omega) ((j3 190 0 3 (by omega)).trans hl)
    rw [k_X12_stands_76, hl, nI_led (by omega) (by omega), decide_eq_false (by omega), cond_false, show (0 : Int32) = nI 0 from rfl, r1, r2]
    refine ⟨J, rfl, fun a b h1 h2 h3 => ?_, fun a r b hn => (k2 a r b (by omega)).trans (j3 a r b (by omega))⟩
    by_cases g : a = i
    · subst g
      rw [k2 208 (a + 1) b (by omega)]
      exact j1 b (Nat.zero_le _) h3
    · rw [show I 205 (a + 1) b = J1 205 (a + 1) b from (j3 205 (a + 1) b (by omega)).symm]
      exact k1 a b (by omega) h2 h3
theorem st_131 (hi : i < 8) : ∀ r j (I : FI), j + r = 8 → ∃ J : FI, V PR d 233 131 [(0, vR (some (186, 0))), (1, vi (nI i)), (2, vi (nI j))] [] (mm nn I L P E c s) = V PR d 233 123 [(0, vR (some (186, 0))), (1, vi (nI (i + 1)))] [] (mm nn J L P E c s) ∧ (∀ b, j ≤ b → b < 8 → J 220 (i + 1) b = I 211 (i + 1) b) ∧ (∀ b, b < j → J 220 (i + 1) b = I 220 (i + 1) b) ∧ ∀ a r b, ¬ (a = 220 ∧ r = i + 1) → J a r b = I a r b
  | 0, j, I, e => by
    rw [k_X12_stands_131, show decide ((8 : Int32) ≤ nI j) = true from (nI_led (a := 8) (by decide) (by omega)).trans (decide_eq_true (by omega)), cond_true, nI_1]
    exact ⟨I, rfl, fun b h1 h2 => absurd h1 (by omega), fun _ _ => rfl, fun _ _ _ _ => rfl⟩
  | r + 1, j, I, e => by
    obtain ⟨J, r1, j1, j2, j3⟩ := st_131 hi r (j + 1) (up3 I 220 (i + 1) j (I 211 (i + 1) j)) (by omega)
    have A : arrOk (mm nn I L P E c s) 220 (i + 1) 0 (nI j) = true := by rw [aro_220, blt_t hi, inb_nI (show j < 8 by omega) (by decide)]; rfl
    have A2 : arrOk (mm nn I L P E c s) 211 (i + 1) 0 (nI j) = true := by rw [aro_211, blt_t hi, inb_nI (show j < 8 by omega) (by decide)]; rfl
    rw [k_X12_stands_131, show decide ((8 : Int32) ≤ nI j) = false from (nI_led (a := 8) (by decide) (by omega)).trans (decide_eq_false (by omega)), cond_false, inb_nI hi (by decide), cond_true, nI_clamp (show i < 2 ^ 31 by omega), nI_clamp (show j < 2 ^ 31 by omega), cond_true, A2, cond_true, A, cond_true, nI_1, r1]
    refine ⟨J, rfl, fun b h1 h2 => ?_, fun b hb => (j2 b (by omega)).trans (up3_k (by omega)), fun a r b hn => (j3 a r b hn).trans (up3_o (fun g => hn ⟨g.1, g.2.1⟩))⟩
    by_cases g : b = j
    · subst g
      exact (j2 b (by omega)).trans (up3_i _ _ _ _ _)
    · exact (j1 b (by omega) h2).trans (up3_a (by decide))
theorem st_123l : ∀ r i (I : FI), i + r = 8 → ∃ J : FI, V PR d 233 123 [(0, vR (some (186, 0))), (1, vi (nI i))] [] (mm nn I L P E c s) = V PR d 233 167 [(0, vR (some (186, 0))), (1, vi (0 : Int32))] [] (mm nn J L P E c s) ∧ (∀ a b, i ≤ a → a < 8 → b < 8 → J 220 (a + 1) b = I 211 (a + 1) b) ∧ ∀ a r b, ¬ (a = 220 ∧ i + 1 ≤ r) → J a r b = I a r b
  | 0, i, I, e => by
    rw [k_X12_stands_123, show decide ((8 : Int32) ≤ nI i) = true from (nI_led (a := 8) (by decide) (by omega)).trans (decide_eq_true (by omega)), cond_true]
    exact ⟨I, rfl, fun a b h1 h2 => absurd h1 (by omega), fun _ _ _ _ => rfl⟩
  | r + 1, i, I, e => by
    obtain ⟨J1, r1, j1, j2, j3⟩ := st_131 (d := d) (nn := nn) (L := L) (P := P) (E := E) (c := c) (s := s) (show i < 8 by omega) 8 0 I rfl
    obtain ⟨J, r2, k1, k2⟩ := st_123l r (i + 1) J1 (by omega)
    rw [k_X12_stands_123, show decide ((8 : Int32) ≤ nI i) = false from (nI_led (a := 8) (by decide) (by omega)).trans (decide_eq_false (by omega)), cond_false, show (0 : Int32) = nI 0 from rfl, r1, r2]
    refine ⟨J, rfl, fun a b h1 h2 h3 => ?_, fun a r b hn => (k2 a r b (by omega)).trans (j3 a r b (by omega))⟩
    by_cases g : a = i
    · subst g
      rw [k2 220 (a + 1) b (by omega)]
      exact j1 b (Nat.zero_le _) h3
    · rw [show I 211 (a + 1) b = J1 211 (a + 1) b from (j3 211 (a + 1) b (by omega)).symm]
      exact k1 a b (by omega) h2 h3
theorem st_329 (hi : i < 6) : ∀ r j (I : FI), j + r = 6 → ∃ J : FI, V PR d 233 329 [(0, vR (some (186, 0))), (1, vi (nI i)), (2, vi (nI j))] [] (mm nn I L P E c s) = V PR d 233 321 [(0, vR (some (186, 0))), (1, vi (nI (i + 1)))] [] (mm nn J L P E c s) ∧ (∀ b, j ≤ b → b < 6 → J 309 (i + 1) b = 0) ∧ (∀ b, b < j → J 309 (i + 1) b = I 309 (i + 1) b) ∧ ∀ a r b, ¬ (a = 309 ∧ r = i + 1) → J a r b = I a r b
  | 0, j, I, e => by
    rw [k_X12_stands_329, show decide ((6 : Int32) ≤ nI j) = true from (nI_led (a := 6) (by decide) (by omega)).trans (decide_eq_true (by omega)), cond_true, nI_1]
    exact ⟨I, rfl, fun b h1 h2 => absurd h1 (by omega), fun _ _ => rfl, fun _ _ _ _ => rfl⟩
  | r + 1, j, I, e => by
    obtain ⟨J, r1, j1, j2, j3⟩ := st_329 hi r (j + 1) (up3 I 309 (i + 1) j 0) (by omega)
    have A : arrOk (mm nn I L P E c s) 309 (i + 1) 0 (nI j) = true := by rw [aro_309, blt_t hi, inb_nI (show j < 6 by omega) (by decide)]; rfl
    rw [k_X12_stands_329, show decide ((6 : Int32) ≤ nI j) = false from (nI_led (a := 6) (by decide) (by omega)).trans (decide_eq_false (by omega)), cond_false, inb_nI hi (by decide), cond_true, nI_clamp (show i < 2 ^ 31 by omega), nI_clamp (show j < 2 ^ 31 by omega), A, cond_true, nI_1, r1]
    refine ⟨J, rfl, fun b h1 h2 => ?_, fun b hb => (j2 b (by omega)).trans (up3_k (by omega)), fun a r b hn => (j3 a r b hn).trans (up3_o (fun g => hn ⟨g.1, g.2.1⟩))⟩
    by_cases g : b = j
    · subst g
      exact (j2 b (by omega)).trans (up3_i _ _ _ _ _)
    · exact (j1 b (by omega) h2)
theorem st_321l : ∀ r i (I : FI), i + r = 6 → ∃ J : FI, V PR d 233 321 [(0, vR (some (186, 0))), (1, vi (nI i))] [] (mm nn I L P E c s) = some (.inl none, mm nn J L P E c s) ∧ (∀ a b, i ≤ a → a < 6 → b < 6 → J 309 (a + 1) b = 0) ∧ (∀ a r b, ¬ (a = 309 ∧ i + 1 ≤ r) → ¬ (a = 186 ∧ (b = 24 ∨ b = 25 ∨ b = 26)) → J a r b = I a r b) ∧ J 186 0 24 = 0 ∧ J 186 0 25 = 0 ∧ J 186 0 26 = 0
  | 0, i, I, e => by
    rw [k_X12_stands_321, show decide ((6 : Int32) ≤ nI i) = true from (nI_led (a := 6) (by decide) (by omega)).trans (decide_eq_true (by omega)), cond_true]
    exact ⟨_, rfl, fun a b h1 h2 => absurd h1 (by omega), fun a r b hn hz => by rw [up3_o (fun g => hz ⟨g.1, .inr (.inr g.2.2)⟩), up3_o (fun g => hz ⟨g.1, .inr (.inl g.2.2)⟩), up3_o (fun g => hz ⟨g.1, .inl g.2.2⟩)], rfl, rfl, rfl⟩
  | r + 1, i, I, e => by
    obtain ⟨J1, r1, j1, j2, j3⟩ := st_329 (d := d) (nn := nn) (L := L) (P := P) (E := E) (c := c) (s := s) (show i < 6 by omega) 6 0 I rfl
    obtain ⟨J, r2, k1, k2, k3⟩ := st_321l r (i + 1) J1 (by omega)
    rw [k_X12_stands_321, show decide ((6 : Int32) ≤ nI i) = false from (nI_led (a := 6) (by decide) (by omega)).trans (decide_eq_false (by omega)), cond_false, show (0 : Int32) = nI 0 from rfl, r1, r2]
    refine ⟨J, rfl, fun a b h1 h2 h3 => ?_, fun a r b hn hz => (k2 a r b (by omega) hz).trans (j3 a r b (by omega)), k3⟩
    by_cases g : a = i
    · subst g
      rw [k2 309 (a + 1) b (by omega) (by omega)]
      exact j1 b (Nat.zero_le _) h3
    · exact k1 a b (by omega) h2 h3
theorem st_298l : ∀ r i (I : FI), i + r = 7 → ∃ J : FI, V PR d 233 298 [(0, vR (some (186, 0))), (1, vi (nI i))] [] (mm nn I L P E c s) = V PR d 233 321 [(0, vR (some (186, 0))), (1, vi (0 : Int32))] [] (mm nn J L P E c s) ∧ (∀ q, i ≤ q → q < 7 → J 229 (q + 1) 0 = -1) ∧ ∀ a r b, ¬ (a = 229 ∧ i + 1 ≤ r) → J a r b = I a r b
  | 0, i, I, e => by
    rw [k_X12_stands_298, show decide ((6 : Int32) < nI i) = true from (nI_ltd (a := 6) (by decide) (by omega)).trans (decide_eq_true (by omega)), cond_true]
    exact ⟨I, rfl, fun a h1 h2 => absurd h1 (by omega), fun _ _ _ _ => rfl⟩
  | r + 1, i, I, e => by
    have A : arrOk (mm nn I L P E c s) 229 (i + 1) 0 (0 : Int32) = true := by rw [aro_229, blt_t (show i < 7 by omega)]; rfl
    obtain ⟨J, r1, j1, j2⟩ := st_298l r (i + 1) (up3 I 229 (i + 1) 0 (-1)) (by omega)
    rw [k_X12_stands_298, show decide ((6 : Int32) < nI i) = false from (nI_ltd (a := 6) (by decide) (by omega)).trans (decide_eq_false (by omega)), cond_false, inb_nI (show i < 7 by omega) (by decide), cond_true, nI_clamp (show i < 2 ^ 31 by omega), A, cond_true, tz_0, nI_1, r1]
    refine ⟨J, rfl, fun q h1 h2 => ?_, fun a r b hn => (j2 a r b (by omega)).trans (up3_o (by omega))⟩
    by_cases g : q = i
    · subst g
      exact (j2 229 (q + 1) 0 (by omega)).trans (up3_i _ _ _ _ _)
    · exact j1 q (by omega) h2
/-- least ways, the reference's table -/
def WR (I : FI) (t : Nat → Nat → Nat) : Prop := ∀ a b, a < 8 → b < 8 → I 220 (a + 1) b = cI (t a b)
def FxW (I J : FI) : Prop := ∀ a r j, a ≠ 220 → J a r j = I a r j
theorem ne_m1 {x : Nat} (h : x < 2 ^ 31) : decide (nI x = (-1 : Int32)) = false := decide_eq_false fun q => by
  have e2 := congrArg Int32.toInt q
  rw [nI_toInt (by omega), show (-1 : Int32).toInt = -1 by decide +kernel] at e2
  omega
theorem WR.same (h : WR I (wlW t k i j)) (hj : shW t k i j = t i j) : WR I (wlW t k i (j + 1)) := fun a b ha hb => by
  rw [h a b ha hb]
  by_cases q : a = i ∧ b = j
  · rw [q.1, q.2, wlW_s, wlW_ij, hj]
  · rw [wlW_n q]
theorem WR.set (h : WR I (wlW t k i j)) (hi : i < 8) (hj : j < 8) {x : Int32} (hx : x = cI (shW t k i j)) : WR (up3 I 220 (i + 1) j x) (wlW t k i (j + 1)) := fun a b ha hb => by
  by_cases q : a = i ∧ b = j
  · rw [q.1, q.2, up3_i, wlW_s, hx]
  · rw [up3_o (by omega), wlW_n q, h a b ha hb]
theorem st_183 (hb : ∀ a b, t a b ≤ 2304 ∨ t a b = 100000) (hi : i < 8) (hk : k < 8) : ∀ r j (I : FI), j + r = 8 → WR I (wlW t k i j) → ∃ J : FI, V PR d 233 183 [(0, vR (some (186, 0))), (1, vi (nI k)), (2, vi (nI i)), (3, vi (nI j))] [] (mm nn I L P E c s) = V PR d 233 175 [(0, vR (some (186, 0))), (1, vi (nI k)), (2, vi (nI (i + 1)))] [] (mm nn J L P E c s) ∧ FxW I J ∧ WR J (wlW t k (i + 1) 0)
  | 0, j, I, e, h => by
    rw [k_X12_stands_183, show decide ((8 : Int32) ≤ nI j) = true from (nI_led (a := 8) (by decide) (by omega)).trans (decide_eq_true (by omega)), cond_true, nI_1]
    exact ⟨I, rfl, fun _ _ _ _ => rfl, fun a b ha hb' => by rw [h a b ha hb', show j = 8 by omega, wlW_r hb']⟩
  | r + 1, j, I, e, h => by
    have hj : j < 8 := by omega
    have A : ∀ i j, i < 8 → j < 8 → arrOk (mm nn I L P E c s) 220 (i + 1) 0 (nI j) = true := fun i j hi hj => by rw [aro_220, blt_t hi, inb_nI hj (by decide)]; rfl
    have S : ∃ J : FI, V PR d 233 183 [(0, vR (some (186, 0))), (1, vi (nI k)), (2, vi (nI i)), (3, vi (nI j))] [] (mm nn I L P E c s) = V PR d 233 183 [(0, vR (some (186, 0))), (1, vi (nI k)), (2, vi (nI i)), (3, vi (nI (j + 1)))] [] (mm nn J L P E c s) ∧ FxW I J ∧ WR J (wlW t k i (j + 1)) := by
      rw [k_X12_stands_183, show decide ((8 : Int32) ≤ nI j) = false from (nI_led (a := 8) (by decide) (by omega)).trans (decide_eq_false (by omega)), cond_false]
      simp only [inb_nI hi (show (8 : Nat) ≤ 2 ^ 31 by decide), inb_nI hk (show (8 : Nat) ≤ 2 ^ 31 by decide), nI_clamp (show i < 2 ^ 31 by omega), nI_clamp (show j < 2 ^ 31 by omega), nI_clamp (show k < 2 ^ 31 by omega), A i k hi hk, A k j hk hj, A i j hi hj, cond_true, nI_1, h i k hi hk, h k j hk hj, h i j hi hj, wlW_ik, wlW_kj, wlW_ij]
      rcases sh_cs (i := i) (j := j) (k := k) hb with ⟨a1, a2⟩ | ⟨a1, a2, a3⟩ | ⟨a1, a2, a3, a4⟩ | ⟨a1, a2, a3, a4, a5⟩ | ⟨a1, a2, a3, a4, a5⟩
      · rw [cI_n a1, show decide ((-1 : Int32) = -1) = true from rfl, cond_true]
        exact ⟨I, rfl, fun _ _ _ _ => rfl, h.same a2⟩
      · rw [cI_t (show t i k < 100000 by omega), ne_m1 (by omega), cond_false, cI_n a2, show decide ((-1 : Int32) = -1) = true from rfl, cond_true]
        exact ⟨I, rfl, fun _ _ _ _ => rfl, h.same a3⟩
      · rw [cI_t (show t i k < 100000 by omega), ne_m1 (by omega), cond_false, cI_t (show t k j < 100000 by omega), ne_m1 (by omega), cond_false, cI_n a3, show decide ((-1 : Int32) = -1) = true from rfl, cond_true, nI_add]
        exact ⟨_, rfl, fun a r b q => up3_a q, h.set hi hj (by rw [a4, cI_t (by omega)])⟩
      · rw [cI_t (show t i k < 100000 by omega), ne_m1 (by omega), cond_false, cI_t (show t k j < 100000 by omega), ne_m1 (by omega), cond_false, cI_t (show t i j < 100000 by omega), ne_m1 (by omega), cond_false, nI_add, nI_led (by omega) (by omega), decide_eq_true a4, cond_true]
        exact ⟨I, rfl, fun _ _ _ _ => rfl, h.same a5⟩
      · rw [cI_t (show t i k < 100000 by omega), ne_m1 (by omega), cond_false, cI_t (show t k j < 100000 by omega), ne_m1 (by omega), cond_false, cI_t (show t i j < 100000 by omega), ne_m1 (by omega), cond_false, nI_add, nI_led (by omega) (by omega), decide_eq_false (show ¬ t i j ≤ t i k + t k j by omega), cond_false]
        exact ⟨_, rfl, fun a r b q => up3_a q, h.set hi hj (by rw [a5, cI_t (by omega)])⟩
    obtain ⟨J1, r1, f1, w1⟩ := S
    obtain ⟨J, r2, f2, w2⟩ := st_183 hb hi hk r (j + 1) J1 (by omega) w1
    exact ⟨J, r1.trans r2, fun a r b q => (f2 a r b q).trans (f1 a r b q), w2⟩
theorem st_175 (hb : ∀ a b, t a b ≤ 2304 ∨ t a b = 100000) (hk : k < 8) : ∀ r i (I : FI), i + r = 8 → WR I (wlW t k i 0) → ∃ J : FI, V PR d 233 175 [(0, vR (some (186, 0))), (1, vi (nI k)), (2, vi (nI i))] [] (mm nn I L P E c s) = V PR d 233 167 [(0, vR (some (186, 0))), (1, vi (nI (k + 1)))] [] (mm nn J L P E c s) ∧ FxW I J ∧ WR J (shW t k)
  | 0, i, I, e, h => by
    rw [k_X12_stands_175, show decide ((8 : Int32) ≤ nI i) = true from (nI_led (a := 8) (by decide) (by omega)).trans (decide_eq_true (by omega)), cond_true, nI_1]
    exact ⟨I, rfl, fun _ _ _ _ => rfl, fun a b ha hb' => by rw [h a b ha hb', show i = 8 by omega, wlW_e ha]⟩
  | r + 1, i, I, e, h => by
    obtain ⟨J1, r1, f1, w1⟩ := st_183 (d := d) (nn := nn) (L := L) (P := P) (E := E) (c := c) (s := s) hb (show i < 8 by omega) hk 8 0 I rfl h
    obtain ⟨J, r2, f2, w2⟩ := st_175 hb hk r (i + 1) J1 (by omega) w1
    rw [k_X12_stands_175, show decide ((8 : Int32) ≤ nI i) = false from (nI_led (a := 8) (by decide) (by omega)).trans (decide_eq_false (by omega)), cond_false, show (0 : Int32) = nI 0 from rfl, r1, r2]
    exact ⟨J, rfl, fun a r b q => (f2 a r b q).trans (f1 a r b q), w2⟩
theorem st_167l (hb : ∀ k, k ≤ 8 → ∀ a b, fwN t k a b ≤ 2304 ∨ fwN t k a b = 100000) : ∀ r k (I : FI), k + r = 8 → WR I (fwN t k) → ∃ J : FI, V PR d 233 167 [(0, vR (some (186, 0))), (1, vi (nI k))] [] (mm nn I L P E c s) = V PR d 233 298 [(0, vR (some (186, 0))), (1, vi (0 : Int32))] [] (mm nn J L P E c s) ∧ FxW I J ∧ WR J (fwN t 8)
  | 0, k, I, e, h => by
    rw [k_X12_stands_167, show decide ((8 : Int32) ≤ nI k) = true from (nI_led (a := 8) (by decide) (by omega)).trans (decide_eq_true (by omega)), cond_true]
    have e2 : k = 8 := by omega
    subst e2
    exact ⟨I, rfl, fun _ _ _ _ => rfl, h⟩
  | r + 1, k, I, e, h => by
    obtain ⟨J1, r1, f1, w1⟩ := st_175 (d := d) (nn := nn) (L := L) (P := P) (E := E) (c := c) (s := s) (t := fwN t k) (hb k (by omega)) (show k < 8 by omega) 8 0 I rfl (fun a b ha hb' => by rw [wlW_0]; exact h a b ha hb')
    obtain ⟨J, r2, f2, w2⟩ := st_167l hb r (k + 1) J1 (by omega) w1
    rw [k_X12_stands_167, show decide ((8 : Int32) ≤ nI k) = false from (nI_led (a := 8) (by decide) (by omega)).trans (decide_eq_false (by omega)), cond_false, show (0 : Int32) = nI 0 from rfl, r1, r2]
    exact ⟨J, rfl, fun a r b q => (f2 a r b q).trans (f1 a r b q), w2⟩
/-- a country that stands, the reference's -/
def LaR (D : Dr) (J : FI) : Prop := (J 190 0 0 = nI (dN D) ∧ J 190 0 1 = nI (dP D) ∧ J 190 0 2 = nI (dW D) ∧ J 190 0 3 = nI (dV D) ∧ J 190 0 4 = nI (dI D) ∧ J 190 0 5 = dF D ∧ J 190 0 6 = dG D) ∧ WR J (fwN (roN D) 8) ∧ (∀ w j, w < dW D → j < 6 → J 198 (w + 1) j = dL D w j) ∧ (∀ v j, v < dV D → j < 4 → J 208 (v + 1) j = dE D v j) ∧ (∀ q, q < 7 → J 229 (q + 1) 0 = -1) ∧ (∀ a b, a < 6 → b < 6 → J 309 (a + 1) b = 0) ∧ J 186 0 24 = 0 ∧ J 186 0 25 = 0 ∧ J 186 0 26 = 0
theorem r_233 (hD : DR D I) (hO : OkD D) : ∃ J : FI, V PR d 233 0 [(0, vR (some (186, 0)))] [] (mm nn I L P E c s) = some (.inl none, mm nn J L P E c s) ∧ LaR D J ∧ ∀ a r j, ¬ (a = 186 ∧ (j = 24 ∨ j = 25 ∨ j = 26)) → a ≠ 190 → a ≠ 198 → a ≠ 208 → a ≠ 220 → a ≠ 229 → a ≠ 309 → J a r j = I a r j := by
  obtain ⟨b1, b2, b3, b4, b5, b6⟩ := hO.1
  obtain ⟨⟨x0, x1, x2, x3, x4, x5, x6⟩, y1, y2, y3⟩ := hD
  obtain ⟨J1, r1, f1, -, g1⟩ := st_2l (d := d) (nn := nn) (L := L) (P := P) (E := E) (c := c) (s := s) 7 0 I rfl
  have f1' : ∀ j, j < 7 → J1 190 0 j = I 189 0 j := fun j hj => f1 j (Nat.zero_le _) hj
  obtain ⟨J2, r2, f2, g2⟩ := st_28l (d := d) (nn := nn) (L := L) (P := P) (E := E) (c := c) (s := s) b4 (dW D) 0 J1 (Nat.zero_add _) ((f1' 2 (by decide)).trans x2)
  obtain ⟨J3, r3, f3, g3⟩ := st_76l (d := d) (nn := nn) (L := L) (P := P) (E := E) (c := c) (s := s) b5 (dV D) 0 J2 (Nat.zero_add _) ((g2 190 0 3 (by omega)).trans ((f1' 3 (by decide)).trans x3))
  obtain ⟨J4, r4, f4, g4⟩ := st_123l (d := d) (nn := nn) (L := L) (P := P) (E := E) (c := c) (s := s) 8 0 J3 rfl
  have h4 : WR J4 (fwN (roN D) 0) := fun a b ha hb => by
    show _ = cI (roN D a b)
    rw [f4 a b (Nat.zero_le _) ha hb, g3 211 _ _ (by omega), g2 211 _ _ (by omega), g1 211 _ _ (by decide), y1 a b ha hb, (roN_c hO a b).1]
  obtain ⟨J5, r5, f5, g5⟩ := st_167l (d := d) (nn := nn) (L := L) (P := P) (E := E) (c := c) (s := s) (t := roN D) (fun k hk => fwN_m (fun a b => (roN_c hO a b).2.1) hk) 8 0 J4 rfl h4
  obtain ⟨J6, r6, f6, g6⟩ := st_298l (d := d) (nn := nn) (L := L) (P := P) (E := E) (c := c) (s := s) 7 0 J5 rfl
  obtain ⟨J7, r7, f7, g7, z24, z25, z26⟩ := st_321l (d := d) (nn := nn) (L := L) (P := P) (E := E) (c := c) (s := s) 6 0 J6 rfl
  have g : ∀ j, J7 190 0 j = J1 190 0 j := fun j => by rw [g7 190 0 j (by omega) (by omega), g6 190 0 j (by omega), f5 190 0 j (by decide), g4 190 0 j (by omega), g3 190 0 j (by omega), g2 190 0 j (by omega)]
  refine ⟨J7, ?_, ⟨⟨(g 0).trans ((f1' 0 (by decide)).trans x0), (g 1).trans ((f1' 1 (by decide)).trans x1), (g 2).trans ((f1' 2 (by decide)).trans x2), (g 3).trans ((f1' 3 (by decide)).trans x3), (g 4).trans ((f1' 4 (by decide)).trans x4), (g 5).trans ((f1' 5 (by decide)).trans x5), (g 6).trans ((f1' 6 (by decide)).trans x6)⟩, fun a b ha hb => ?_, fun w j hw hj => ?_, fun v j hv hj => ?_, fun q hq => ?_, fun a b ha hb => f7 a b (Nat.zero_le _) ha hb, z24, z25, z26⟩, fun a r j q1 q2 q3 q4 q5 q6 q7 => ?_⟩
  · rw [k_X12_stands_0, show (0 : Int32) = nI 0 from rfl, r1, show (0 : Int32) = nI 0 from rfl, r2, show (0 : Int32) = nI 0 from rfl, r3, show (0 : Int32) = nI 0 from rfl, r4, show (0 : Int32) = nI 0 from rfl, r5, show (0 : Int32) = nI 0 from rfl, r6, show (0 : Int32) = nI 0 from rfl, r7]
  · rw [g7 220 _ _ (by omega) (by omega), g6 220 _ _ (by omega)]
    exact g5 a b ha hb
  · rw [g7 198 _ _ (by omega) (by omega), g6 198 _ _ (by omega), f5 198 _ _ (by decide), g4 198 _ _ (by omega), g3 198 _ _ (by omega), f2 w j (Nat.zero_le _) hw hj, g1 191 _ _ (by decide)]
    exact y2 w j hw hj
  · rw [g7 208 _ _ (by omega) (by omega), g6 208 _ _ (by omega), f5 208 _ _ (by decide), g4 208 _ _ (by omega), f3 v j (Nat.zero_le _) hv hj, g2 205 _ _ (by omega), g1 205 _ _ (by decide)]
    exact y3 v j hv hj
  · rw [g7 229 _ _ (by omega) (by omega)]
    exact f6 q (Nat.zero_le _) hq
  · rw [g7 a r j (by omega) (by omega), g6 a r j (by omega), f5 a r j q5, g4 a r j (by omega), g3 a r j (by omega), g2 a r j (by omega), g1 a r j q2]
end Crdc
