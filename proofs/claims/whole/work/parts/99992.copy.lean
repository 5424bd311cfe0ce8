/-! THE BOOK COPIED, told (written by program). -/
def CpB (y x : Nat) (I I' : FI) (L L' : FL) (P P' : FR) : Prop := (∀ j, (j = 0 ∨ j = 2 ∨ j = 7) → I' y 0 j = I x 0 j) ∧ (∀ k j, 2 ≤ k → k ≤ 4 → j < 60 → I' (y + k) 0 j = I (x + k) 0 j) ∧ (∀ j, j < 36 → I' (y + 7) 0 j = I (x + 7) 0 j) ∧ (∀ j, j < 60 → L' (y + 5) 0 j = L (x + 5) 0 j) ∧ (∀ j, j < 10 → L' (y + 6) 0 j = L (x + 6) 0 j) ∧ (∀ q, q < 7 → P' (y + 1) 0 q = P (x + 1) 0 q) ∧ ∀ a r j, (a < y ∨ y + 7 < a) → I' a r j = I a r j ∧ L' a r j = L a r j ∧ P' a r j = P a r j
theorem cp_v {α : Type} {f : Nat → Nat → Nat → α} {x y m j : Nat} (hj : j < m) : (cp3 f x 0 y 0 0 0 m) y 0 j = f x 0 j := by
  unfold cp3
  rw [if_pos rfl, if_pos rfl, if_pos (by omega), Nat.zero_add, Nat.sub_zero]
theorem cp_x {α : Type} {f : Nat → Nat → Nat → α} {x y m b r j : Nat} (hb : b ≠ y) : (cp3 f x 0 y 0 0 0 m) b r j = f b r j := by
  unfold cp3
  rw [if_neg hb]
/-- the ints of a book copied -/
def cpI (y x : Nat) (I : FI) : FI := cp3 (up3 (cp3 (cp3 (cp3 (up3 I y 0 2 (I x 0 2)) (x + 2) 0 (y + 2) 0 0 0 60) (x + 3) 0 (y + 3) 0 0 0 60) (x + 4) 0 (y + 4) 0 0 0 60) y 0 7 ((cp3 (cp3 (cp3 (up3 I y 0 2 (I x 0 2)) (x + 2) 0 (y + 2) 0 0 0 60) (x + 3) 0 (y + 3) 0 0 0 60) (x + 4) 0 (y + 4) 0 0 0 60) x 0 7)) (x + 7) 0 (y + 7) 0 0 0 36
def cpL (y x : Nat) (L : FL) : FL := cp3 (cp3 L (x + 5) 0 (y + 5) 0 0 0 60) (x + 6) 0 (y + 6) 0 0 0 10
theorem cp_all {y x : Nat} (h : y + 7 < x ∨ x + 7 < y) {I : FI} {L : FL} {P Q : FR} (hq : ∀ q, q < 7 → Q (y + 1) 0 q = P (x + 1) 0 q) (hp : ∀ a r j, a ≠ y + 1 → Q a r j = P a r j) : CpB y x I (cpI y x (up3 I y 0 0 (I x 0 0))) L (cpL y x L) P Q := by
  have e7 : (cp3 (cp3 (cp3 (up3 (up3 I y 0 0 (I x 0 0)) y 0 2 ((up3 I y 0 0 (I x 0 0)) x 0 2)) (x + 2) 0 (y + 2) 0 0 0 60) (x + 3) 0 (y + 3) 0 0 0 60) (x + 4) 0 (y + 4) 0 0 0 60) x 0 7 = I x 0 7 := by
    rw [cp_x (by omega), cp_x (by omega), cp_x (by omega), up3_a (by omega), up3_a (by omega)]
  have e2 : (up3 I y 0 0 (I x 0 0)) x 0 2 = I x 0 2 := up3_a (by omega)
  refine ⟨fun j hj => ?_, fun k j h1 h2 hj => ?_, fun j hj => ?_, fun j hj => ?_, fun j hj => ?_, hq, fun a r j ha => ⟨?_, ?_, hp a r j (by omega)⟩⟩
  · unfold cpI
    rw [e7, e2, cp_x (by omega)]
    rcases hj with rfl | rfl | rfl
    · rw [up3_k (by decide), cp_x (by omega), cp_x (by omega), cp_x (by omega), up3_k (by decide), up3_i]
    · rw [up3_k (by decide), cp_x (by omega), cp_x (by omega), cp_x (by omega), up3_i]
    · rw [up3_i]
  · unfold cpI
    rw [e7, e2, cp_x (by omega), up3_a (by omega)]
    rcases (show k = 2 ∨ k = 3 ∨ k = 4 by omega) with rfl | rfl | rfl
    · rw [cp_x (by omega), cp_x (by omega), cp_v hj, up3_a (by omega), up3_a (by omega)]
    · rw [cp_x (by omega), cp_v hj, cp_x (by omega), up3_a (by omega), up3_a (by omega)]
    · rw [cp_v hj, cp_x (by omega), cp_x (by omega), up3_a (by omega), up3_a (by omega)]
  · unfold cpI
    rw [e7, e2, cp_v hj, up3_a (by omega), cp_x (by omega), cp_x (by omega), cp_x (by omega), up3_a (by omega), up3_a (by omega)]
  · unfold cpL
    rw [cp_x (by omega), cp_v hj]
  · unfold cpL
    rw [cp_v hj, cp_x (by omega)]
  · unfold cpI
    rw [cp_x (by omega), up3_a (by omega), cp_x (by omega), cp_x (by omega), cp_x (by omega), up3_a (by omega), up3_a (by omega)]
  · unfold cpL
    rw [cp_x (by omega), cp_x (by omega)]
theorem ph_holds {n : Nat} {I : FI} {L : FL} {P : FR} {E : FE} {c s : Nat} {v : Option (Nat × Nat)} (h : v = none ∨ ∃ p, v = some (p, 0) ∧ E p = (1, 5, 0, 0) ∧ 487 ≤ p) : holds1 (mm n I L P E c s) 4 5 (vR v) = true := by
  rcases h with rfl | ⟨p, rfl, h1, h2⟩
  · rfl
  · exact obP h1 h2
section CopyB
variable {d n t : Nat} {I J M : FI} {L K N : FL} {P Q : FR} {E : FE} {c s z : Nat}

theorem cf_146_127_l (h : ∀ q, q < 7 → P 128 0 q = none ∨ ∃ p, P 128 0 q = some (p, 0) ∧ E p = (1, 5, 0, 0) ∧ 487 ≤ p) : ∀ r q (Q : FR), q + r = 7 → (∀ a r j, a ≠ 147 → Q a r j = P a r j) → (∀ j, j < q → Q 147 0 j = P 128 0 j) → ∃ Q', V PR d 24 10 [(0, (vR (some (146, 0)))), (1, (vR (some (127, 0)))), (2, (vi (nI q)))] [] (mm n I L Q E c s) = some (.inl none, mm n (cpI 146 127 I) (cpL 146 127 L) Q' E c s) ∧ (∀ a r j, a ≠ 147 → Q' a r j = P a r j) ∧ ∀ j, j < 7 → Q' 147 0 j = P 128 0 j
  | 0, q, Q, hq, h1, h2 => by
    refine ⟨Q, ?_, h1, fun j hj => h2 j (by omega)⟩
    rw [k_X1_copyFrom_10, show decide ((7 : Int32) ≤ nI q) = true from (nI_led (a := 7) (by decide) (by omega)).trans (decide_eq_true (by omega)), cond_true]
    rfl
  | r + 1, q, Q, hq, h1, h2 => by
    have e : Q 128 0 q = P 128 0 q := h1 128 0 q (by decide)
    have i7 : inb (nI q) 7 = true := inb_nI (by omega) (by decide)
    have hh : holds1 (mm n I L Q E c s) 4 5 (vR (P 128 0 q)) = true := ph_holds (h q (by omega))
    obtain ⟨Q', r1, r2⟩ := cf_146_127_l h r (q + 1) (up3 Q 147 0 q (P 128 0 q)) (by omega) (fun a r j ha => (up3_a ha).trans (h1 a r j ha)) (fun j hj => by
      by_cases e2 : j = q
      · subst e2; exact up3_i _ _ _ _ _
      · rw [up3_k e2]; exact h2 j (by omega))
    refine ⟨Q', ?_, r2⟩
    rw [k_X1_copyFrom_10, show decide ((7 : Int32) ≤ nI q) = false from (nI_led (a := 7) (by decide) (by omega)).trans (decide_eq_false (by omega)), cond_false, i7, cond_true, nI_clamp (show q < 2 ^ 31 by omega), e, cf_146_127_27 (nI q) i7 hh, nI_clamp (show q < 2 ^ 31 by omega), nI_1]
    exact r1
theorem cf_146_127 (h : ∀ q, q < 7 → P 128 0 q = none ∨ ∃ p, P 128 0 q = some (p, 0) ∧ E p = (1, 5, 0, 0) ∧ 487 ≤ p) : ∃ (I' : FI) (L' : FL) (P' : FR), V PR d 24 0 [(0, (vR (some (146, 0)))), (1, (vR (some (127, 0))))] [] (mm n I L P E c s) = some (.inl none, mm n I' L' P' E c s) ∧ CpB 146 127 I I' L L' P P' := by
  obtain ⟨Q, r1, r2, r3⟩ := cf_146_127_l (d := d) (n := n) (I := up3 I 146 0 0 (I 127 0 0)) (L := L) (c := c) (s := s) h 7 0 P rfl (fun _ _ _ _ => rfl) (fun j hj => absurd hj (Nat.not_lt_zero j))
  refine ⟨_, _, Q, ?_, cp_all (by decide) r3 r2⟩
  rw [k_X1_copyFrom_0]
  exact r1
theorem cf_154_127_l (h : ∀ q, q < 7 → P 128 0 q = none ∨ ∃ p, P 128 0 q = some (p, 0) ∧ E p = (1, 5, 0, 0) ∧ 487 ≤ p) : ∀ r q (Q : FR), q + r = 7 → (∀ a r j, a ≠ 155 → Q a r j = P a r j) → (∀ j, j < q → Q 155 0 j = P 128 0 j) → ∃ Q', V PR d 24 10 [(0, (vR (some (154, 0)))), (1, (vR (some (127, 0)))), (2, (vi (nI q)))] [] (mm n I L Q E c s) = some (.inl none, mm n (cpI 154 127 I) (cpL 154 127 L) Q' E c s) ∧ (∀ a r j, a ≠ 155 → Q' a r j = P a r j) ∧ ∀ j, j < 7 → Q' 155 0 j = P 128 0 j
  | 0, q, Q, hq, h1, h2 => by
    refine ⟨Q, ?_, h1, fun j hj => h2 j (by omega)⟩
    rw [k_X1_copyFrom_v2_10, show decide ((7 : Int32) ≤ nI q) = true from (nI_led (a := 7) (by decide) (by omega)).trans (decide_eq_true (by omega)), cond_true]
    rfl
  | r + 1, q, Q, hq, h1, h2 => by
    have e : Q 128 0 q = P 128 0 q := h1 128 0 q (by decide)
    have i7 : inb (nI q) 7 = true := inb_nI (by omega) (by decide)
    have hh : holds1 (mm n I L Q E c s) 4 5 (vR (P 128 0 q)) = true := ph_holds (h q (by omega))
    obtain ⟨Q', r1, r2⟩ := cf_154_127_l h r (q + 1) (up3 Q 155 0 q (P 128 0 q)) (by omega) (fun a r j ha => (up3_a ha).trans (h1 a r j ha)) (fun j hj => by
      by_cases e2 : j = q
      · subst e2; exact up3_i _ _ _ _ _
      · rw [up3_k e2]; exact h2 j (by omega))
    refine ⟨Q', ?_, r2⟩
    rw [k_X1_copyFrom_v2_10, show decide ((7 : Int32) ≤ nI q) = false from (nI_led (a := 7) (by decide) (by omega)).trans (decide_eq_false (by omega)), cond_false, i7, cond_true, nI_clamp (show q < 2 ^ 31 by omega), e, cf_154_127_27 (nI q) i7 hh, nI_clamp (show q < 2 ^ 31 by omega), nI_1]
    exact r1
theorem cf_154_127 (h : ∀ q, q < 7 → P 128 0 q = none ∨ ∃ p, P 128 0 q = some (p, 0) ∧ E p = (1, 5, 0, 0) ∧ 487 ≤ p) : ∃ (I' : FI) (L' : FL) (P' : FR), V PR d 24 0 [(0, (vR (some (154, 0)))), (1, (vR (some (127, 0))))] [] (mm n I L P E c s) = some (.inl none, mm n I' L' P' E c s) ∧ CpB 154 127 I I' L L' P P' := by
  obtain ⟨Q, r1, r2, r3⟩ := cf_154_127_l (d := d) (n := n) (I := up3 I 154 0 0 (I 127 0 0)) (L := L) (c := c) (s := s) h 7 0 P rfl (fun _ _ _ _ => rfl) (fun j hj => absurd hj (Nat.not_lt_zero j))
  refine ⟨_, _, Q, ?_, cp_all (by decide) r3 r2⟩
  rw [k_X1_copyFrom_v2_0]
  exact r1
theorem cf_162_127_l (h : ∀ q, q < 7 → P 128 0 q = none ∨ ∃ p, P 128 0 q = some (p, 0) ∧ E p = (1, 5, 0, 0) ∧ 487 ≤ p) : ∀ r q (Q : FR), q + r = 7 → (∀ a r j, a ≠ 163 → Q a r j = P a r j) → (∀ j, j < q → Q 163 0 j = P 128 0 j) → ∃ Q', V PR d 24 10 [(0, (vR (some (162, 0)))), (1, (vR (some (127, 0)))), (2, (vi (nI q)))] [] (mm n I L Q E c s) = some (.inl none, mm n (cpI 162 127 I) (cpL 162 127 L) Q' E c s) ∧ (∀ a r j, a ≠ 163 → Q' a r j = P a r j) ∧ ∀ j, j < 7 → Q' 163 0 j = P 128 0 j
  | 0, q, Q, hq, h1, h2 => by
    refine ⟨Q, ?_, h1, fun j hj => h2 j (by omega)⟩
    rw [k_X1_copyFrom_v3_10, show decide ((7 : Int32) ≤ nI q) = true from (nI_led (a := 7) (by decide) (by omega)).trans (decide_eq_true (by omega)), cond_true]
    rfl
  | r + 1, q, Q, hq, h1, h2 => by
    have e : Q 128 0 q = P 128 0 q := h1 128 0 q (by decide)
    have i7 : inb (nI q) 7 = true := inb_nI (by omega) (by decide)
    have hh : holds1 (mm n I L Q E c s) 4 5 (vR (P 128 0 q)) = true := ph_holds (h q (by omega))
    obtain ⟨Q', r1, r2⟩ := cf_162_127_l h r (q + 1) (up3 Q 163 0 q (P 128 0 q)) (by omega) (fun a r j ha => (up3_a ha).trans (h1 a r j ha)) (fun j hj => by
      by_cases e2 : j = q
      · subst e2; exact up3_i _ _ _ _ _
      · rw [up3_k e2]; exact h2 j (by omega))
    refine ⟨Q', ?_, r2⟩
    rw [k_X1_copyFrom_v3_10, show decide ((7 : Int32) ≤ nI q) = false from (nI_led (a := 7) (by decide) (by omega)).trans (decide_eq_false (by omega)), cond_false, i7, cond_true, nI_clamp (show q < 2 ^ 31 by omega), e, cf_162_127_27 (nI q) i7 hh, nI_clamp (show q < 2 ^ 31 by omega), nI_1]
    exact r1
theorem cf_162_127 (h : ∀ q, q < 7 → P 128 0 q = none ∨ ∃ p, P 128 0 q = some (p, 0) ∧ E p = (1, 5, 0, 0) ∧ 487 ≤ p) : ∃ (I' : FI) (L' : FL) (P' : FR), V PR d 24 0 [(0, (vR (some (162, 0)))), (1, (vR (some (127, 0))))] [] (mm n I L P E c s) = some (.inl none, mm n I' L' P' E c s) ∧ CpB 162 127 I I' L L' P P' := by
  obtain ⟨Q, r1, r2, r3⟩ := cf_162_127_l (d := d) (n := n) (I := up3 I 162 0 0 (I 127 0 0)) (L := L) (c := c) (s := s) h 7 0 P rfl (fun _ _ _ _ => rfl) (fun j hj => absurd hj (Nat.not_lt_zero j))
  refine ⟨_, _, Q, ?_, cp_all (by decide) r3 r2⟩
  rw [k_X1_copyFrom_v3_0]
  exact r1
theorem cf_127_146_l (h : ∀ q, q < 7 → P 147 0 q = none ∨ ∃ p, P 147 0 q = some (p, 0) ∧ E p = (1, 5, 0, 0) ∧ 487 ≤ p) : ∀ r q (Q : FR), q + r = 7 → (∀ a r j, a ≠ 128 → Q a r j = P a r j) → (∀ j, j < q → Q 128 0 j = P 147 0 j) → ∃ Q', V PR d 24 10 [(0, (vR (some (127, 0)))), (1, (vR (some (146, 0)))), (2, (vi (nI q)))] [] (mm n I L Q E c s) = some (.inl none, mm n (cpI 127 146 I) (cpL 127 146 L) Q' E c s) ∧ (∀ a r j, a ≠ 128 → Q' a r j = P a r j) ∧ ∀ j, j < 7 → Q' 128 0 j = P 147 0 j
  | 0, q, Q, hq, h1, h2 => by
    refine ⟨Q, ?_, h1, fun j hj => h2 j (by omega)⟩
    rw [k_X1_copyFrom_v4_10, show decide ((7 : Int32) ≤ nI q) = true from (nI_led (a := 7) (by decide) (by omega)).trans (decide_eq_true (by omega)), cond_true]
    rfl
  | r + 1, q, Q, hq, h1, h2 => by
    have e : Q 147 0 q = P 147 0 q := h1 147 0 q (by decide)
    have i7 : inb (nI q) 7 = true := inb_nI (by omega) (by decide)
    have hh : holds1 (mm n I L Q E c s) 4 5 (vR (P 147 0 q)) = true := ph_holds (h q (by omega))
    obtain ⟨Q', r1, r2⟩ := cf_127_146_l h r (q + 1) (up3 Q 128 0 q (P 147 0 q)) (by omega) (fun a r j ha => (up3_a ha).trans (h1 a r j ha)) (fun j hj => by
      by_cases e2 : j = q
      · subst e2; exact up3_i _ _ _ _ _
      · rw [up3_k e2]; exact h2 j (by omega))
    refine ⟨Q', ?_, r2⟩
    rw [k_X1_copyFrom_v4_10, show decide ((7 : Int32) ≤ nI q) = false from (nI_led (a := 7) (by decide) (by omega)).trans (decide_eq_false (by omega)), cond_false, i7, cond_true, nI_clamp (show q < 2 ^ 31 by omega), e, cf_127_146_27 (nI q) i7 hh, nI_clamp (show q < 2 ^ 31 by omega), nI_1]
    exact r1
theorem cf_127_146 (h : ∀ q, q < 7 → P 147 0 q = none ∨ ∃ p, P 147 0 q = some (p, 0) ∧ E p = (1, 5, 0, 0) ∧ 487 ≤ p) : ∃ (I' : FI) (L' : FL) (P' : FR), V PR d 24 0 [(0, (vR (some (127, 0)))), (1, (vR (some (146, 0))))] [] (mm n I L P E c s) = some (.inl none, mm n I' L' P' E c s) ∧ CpB 127 146 I I' L L' P P' := by
  obtain ⟨Q, r1, r2, r3⟩ := cf_127_146_l (d := d) (n := n) (I := up3 I 127 0 0 (I 146 0 0)) (L := L) (c := c) (s := s) h 7 0 P rfl (fun _ _ _ _ => rfl) (fun j hj => absurd hj (Nat.not_lt_zero j))
  refine ⟨_, _, Q, ?_, cp_all (by decide) r3 r2⟩
  rw [k_X1_copyFrom_v4_0]
  exact r1
theorem cf_127_154_l (h : ∀ q, q < 7 → P 155 0 q = none ∨ ∃ p, P 155 0 q = some (p, 0) ∧ E p = (1, 5, 0, 0) ∧ 487 ≤ p) : ∀ r q (Q : FR), q + r = 7 → (∀ a r j, a ≠ 128 → Q a r j = P a r j) → (∀ j, j < q → Q 128 0 j = P 155 0 j) → ∃ Q', V PR d 24 10 [(0, (vR (some (127, 0)))), (1, (vR (some (154, 0)))), (2, (vi (nI q)))] [] (mm n I L Q E c s) = some (.inl none, mm n (cpI 127 154 I) (cpL 127 154 L) Q' E c s) ∧ (∀ a r j, a ≠ 128 → Q' a r j = P a r j) ∧ ∀ j, j < 7 → Q' 128 0 j = P 155 0 j
  | 0, q, Q, hq, h1, h2 => by
    refine ⟨Q, ?_, h1, fun j hj => h2 j (by omega)⟩
    rw [k_X1_copyFrom_v5_10, show decide ((7 : Int32) ≤ nI q) = true from (nI_led (a := 7) (by decide) (by omega)).trans (decide_eq_true (by omega)), cond_true]
    rfl
  | r + 1, q, Q, hq, h1, h2 => by
    have e : Q 155 0 q = P 155 0 q := h1 155 0 q (by decide)
    have i7 : inb (nI q) 7 = true := inb_nI (by omega) (by decide)
    have hh : holds1 (mm n I L Q E c s) 4 5 (vR (P 155 0 q)) = true := ph_holds (h q (by omega))
    obtain ⟨Q', r1, r2⟩ := cf_127_154_l h r (q + 1) (up3 Q 128 0 q (P 155 0 q)) (by omega) (fun a r j ha => (up3_a ha).trans (h1 a r j ha)) (fun j hj => by
      by_cases e2 : j = q
      · subst e2; exact up3_i _ _ _ _ _
      · rw [up3_k e2]; exact h2 j (by omega))
    refine ⟨Q', ?_, r2⟩
    rw [k_X1_copyFrom_v5_10, show decide ((7 : Int32) ≤ nI q) = false from (nI_led (a := 7) (by decide) (by omega)).trans (decide_eq_false (by omega)), cond_false, i7, cond_true, nI_clamp (show q < 2 ^ 31 by omega), e, cf_127_154_27 (nI q) i7 hh, nI_clamp (show q < 2 ^ 31 by omega), nI_1]
    exact r1
theorem cf_127_154 (h : ∀ q, q < 7 → P 155 0 q = none ∨ ∃ p, P 155 0 q = some (p, 0) ∧ E p = (1, 5, 0, 0) ∧ 487 ≤ p) : ∃ (I' : FI) (L' : FL) (P' : FR), V PR d 24 0 [(0, (vR (some (127, 0)))), (1, (vR (some (154, 0))))] [] (mm n I L P E c s) = some (.inl none, mm n I' L' P' E c s) ∧ CpB 127 154 I I' L L' P P' := by
  obtain ⟨Q, r1, r2, r3⟩ := cf_127_154_l (d := d) (n := n) (I := up3 I 127 0 0 (I 154 0 0)) (L := L) (c := c) (s := s) h 7 0 P rfl (fun _ _ _ _ => rfl) (fun j hj => absurd hj (Nat.not_lt_zero j))
  refine ⟨_, _, Q, ?_, cp_all (by decide) r3 r2⟩
  rw [k_X1_copyFrom_v5_0]
  exact r1
theorem cf_127_162_l (h : ∀ q, q < 7 → P 163 0 q = none ∨ ∃ p, P 163 0 q = some (p, 0) ∧ E p = (1, 5, 0, 0) ∧ 487 ≤ p) : ∀ r q (Q : FR), q + r = 7 → (∀ a r j, a ≠ 128 → Q a r j = P a r j) → (∀ j, j < q → Q 128 0 j = P 163 0 j) → ∃ Q', V PR d 24 10 [(0, (vR (some (127, 0)))), (1, (vR (some (162, 0)))), (2, (vi (nI q)))] [] (mm n I L Q E c s) = some (.inl none, mm n (cpI 127 162 I) (cpL 127 162 L) Q' E c s) ∧ (∀ a r j, a ≠ 128 → Q' a r j = P a r j) ∧ ∀ j, j < 7 → Q' 128 0 j = P 163 0 j
  | 0, q, Q, hq, h1, h2 => by
    refine ⟨Q, ?_, h1, fun j hj => h2 j (by omega)⟩
    rw [k_X1_copyFrom_v6_10, show decide ((7 : Int32) ≤ nI q) = true from (nI_led (a := 7) (by decide) (by omega)).trans (decide_eq_true (by omega)), cond_true]
    rfl
  | r + 1, q, Q, hq, h1, h2 => by
    have e : Q 163 0 q = P 163 0 q := h1 163 0 q (by decide)
    have i7 : inb (nI q) 7 = true := inb_nI (by omega) (by decide)
    have hh : holds1 (mm n I L Q E c s) 4 5 (vR (P 163 0 q)) = true := ph_holds (h q (by omega))
    obtain ⟨Q', r1, r2⟩ := cf_127_162_l h r (q + 1) (up3 Q 128 0 q (P 163 0 q)) (by omega) (fun a r j ha => (up3_a ha).trans (h1 a r j ha)) (fun j hj => by
      by_cases e2 : j = q
      · subst e2; exact up3_i _ _ _ _ _
      · rw [up3_k e2]; exact h2 j (by omega))
    refine ⟨Q', ?_, r2⟩
    rw [k_X1_copyFrom_v6_10, show decide ((7 : Int32) ≤ nI q) = false from (nI_led (a := 7) (by decide) (by omega)).trans (decide_eq_false (by omega)), cond_false, i7, cond_true, nI_clamp (show q < 2 ^ 31 by omega), e, cf_127_162_27 (nI q) i7 hh, nI_clamp (show q < 2 ^ 31 by omega), nI_1]
    exact r1
theorem cf_127_162 (h : ∀ q, q < 7 → P 163 0 q = none ∨ ∃ p, P 163 0 q = some (p, 0) ∧ E p = (1, 5, 0, 0) ∧ 487 ≤ p) : ∃ (I' : FI) (L' : FL) (P' : FR), V PR d 24 0 [(0, (vR (some (127, 0)))), (1, (vR (some (162, 0))))] [] (mm n I L P E c s) = some (.inl none, mm n I' L' P' E c s) ∧ CpB 127 162 I I' L L' P P' := by
  obtain ⟨Q, r1, r2, r3⟩ := cf_127_162_l (d := d) (n := n) (I := up3 I 127 0 0 (I 162 0 0)) (L := L) (c := c) (s := s) h 7 0 P rfl (fun _ _ _ _ => rfl) (fun j hj => absurd hj (Nat.not_lt_zero j))
  refine ⟨_, _, Q, ?_, cp_all (by decide) r3 r2⟩
  rw [k_X1_copyFrom_v6_0]
  exact r1
end CopyB
