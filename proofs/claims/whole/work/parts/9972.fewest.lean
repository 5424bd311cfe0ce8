/-! THE FEWEST BITS, then the least number: two ways to look for it. -/
section Few
def lxLe (g : Nat → Nat) (x y : Nat) : Prop := g x < g y ∨ (g x = g y ∧ x ≤ y)
def isMin (g : Nat → Nat) (p : Nat → Bool) (N x : Nat) : Prop := x < N ∧ p x = true ∧ ∀ y, y < N → p y = true → lxLe g x y
theorem isMin_eq {g : Nat → Nat} {p : Nat → Bool} {N x y : Nat} (h : isMin g p N x) (h2 : isMin g p N y) : x = y := by
  have a := h.2.2 y h2.1 h2.2.1
  have b := h2.2.2 x h.1 h.2.1
  unfold lxLe at a b
  omega
/-- by many, then by bits -/
def clB (g : Nat → Nat) (p : Nat → Bool) (m : Nat) : Nat → Nat → Option Nat
  | _, 0 => none
  | b, r + 1 => bif decide (g b = m) && p b then some b else clB g p m (b + 1) r
def clM (g : Nat → Nat) (p : Nat → Bool) (N : Nat) : Nat → Nat → Option Nat
  | _, 0 => none
  | m, r + 1 => match clB g p m 0 N with
    | some x => some x
    | none => clM g p N (m + 1) r
theorem clB_some {g : Nat → Nat} {p : Nat → Bool} {m x : Nat} : ∀ r b, clB g p m b r = some x → b ≤ x ∧ x < b + r ∧ g x = m ∧ p x = true ∧ ∀ y, b ≤ y → y < x → p y = true → g y ≠ m
  | 0, b, h => by cases h
  | r + 1, b, h => by
    have h2 : (bif decide (g b = m) && p b then some b else clB g p m (b + 1) r) = some x := h
    cases q : decide (g b = m) && p b with
    | true =>
      rw [q] at h2
      have e : b = x := Option.some.inj h2
      subst e
      rw [Bool.and_eq_true] at q
      exact ⟨Nat.le_refl _, by omega, of_decide_eq_true q.1, q.2, fun y h3 h4 => by omega⟩
    | false =>
      rw [q] at h2
      obtain ⟨a1, a2, a3, a4, a5⟩ := clB_some r (b + 1) h2
      refine ⟨by omega, by omega, a3, a4, fun y h3 h4 h5 h6 => ?_⟩
      by_cases e : y = b
      · subst e
        rw [decide_eq_true h6, h5] at q
        cases q
      · exact a5 y (by omega) h4 h5 h6
theorem clB_none {g : Nat → Nat} {p : Nat → Bool} {m : Nat} : ∀ r b, clB g p m b r = none → ∀ y, b ≤ y → y < b + r → p y = true → g y ≠ m
  | 0, b, h, y, h3, h4, _ => by omega
  | r + 1, b, h, y, h3, h4, h5 => by
    have h2 : (bif decide (g b = m) && p b then some b else clB g p m (b + 1) r) = none := h
    cases q : decide (g b = m) && p b with
    | true => rw [q] at h2; cases h2
    | false =>
      rw [q] at h2
      by_cases e : y = b
      · subst e
        intro h6
        rw [decide_eq_true h6, h5] at q
        cases q
      · exact clB_none r (b + 1) h2 y (by omega) (by omega) h5
theorem clM_some {g : Nat → Nat} {p : Nat → Bool} {N x : Nat} : ∀ r m, (∀ y, y < N → p y = true → m ≤ g y) → clM g p N m r = some x → isMin g p N x
  | 0, m, _, h => by cases h
  | r + 1, m, hm, h => by
    have h2 : (match clB g p m 0 N with | some x => some x | none => clM g p N (m + 1) r) = some x := h
    cases q : clB g p m 0 N with
    | some z =>
      rw [q] at h2
      have e : z = x := Option.some.inj h2
      subst e
      obtain ⟨a1, a2, a3, a4, a5⟩ := clB_some N 0 q
      refine ⟨by omega, a4, fun y h3 h4 => ?_⟩
      have h5 := hm y h3 h4
      unfold lxLe
      rw [a3]
      by_cases e1 : g y = m
      · by_cases e2 : y < z
        · exact absurd e1 (a5 y (Nat.zero_le _) e2 h4)
        · exact .inr ⟨e1.symm, by omega⟩
      · exact .inl (by omega)
    | none =>
      rw [q] at h2
      refine clM_some r (m + 1) (fun y h3 h4 => ?_) h2
      have := hm y h3 h4
      have := clB_none N 0 q y (Nat.zero_le _) (by omega) h4
      omega
theorem clM_none {g : Nat → Nat} {p : Nat → Bool} {N : Nat} : ∀ r m, (∀ y, y < N → p y = true → m ≤ g y) → clM g p N m r = none → ∀ y, y < N → p y = true → m + r ≤ g y
  | 0, m, hm, _ => hm
  | r + 1, m, hm, h => by
    have h2 : (match clB g p m 0 N with | some x => some x | none => clM g p N (m + 1) r) = none := h
    cases q : clB g p m 0 N with
    | some z => rw [q] at h2; cases h2
    | none =>
      rw [q] at h2
      have ih := clM_none r (m + 1) (fun y h3 h4 => by
        have := hm y h3 h4
        have := clB_none N 0 q y (Nat.zero_le _) (by omega) h4
        omega) h2
      intro y h3 h4
      have := ih y h3 h4
      omega
/-- one by one, fewer alone -/
def raS (g : Nat → Nat) (p : Nat → Bool) (e : Nat) : Option Nat → Option Nat
  | none => bif p e then some e else none
  | some x => bif decide (g e < g x) && p e then some e else some x
def raV (g : Nat → Nat) (p : Nat → Bool) : Nat → Option Nat → Nat → Option Nat
  | _, o, 0 => o
  | e, o, r + 1 => raV g p (e + 1) (raS g p e o) r
def raI (g : Nat → Nat) (p : Nat → Bool) (e : Nat) (o : Option Nat) : Prop := (o = none ∧ ∀ y, y < e → p y = false) ∨ ∃ x, o = some x ∧ isMin g p e x
theorem raI_step {g : Nat → Nat} {p : Nat → Bool} {e : Nat} {o : Option Nat} (h : raI g p e o) : raI g p (e + 1) (raS g p e o) := by
  rcases h with ⟨rfl, h⟩ | ⟨x, rfl, h1, h2, h3⟩
  · show raI g p (e + 1) (bif p e then some e else none)
    cases q : p e with
    | true =>
      refine .inr ⟨e, rfl, by omega, q, fun y h4 h5 => ?_⟩
      by_cases e1 : y = e
      · subst e1; exact .inr ⟨rfl, Nat.le_refl _⟩
      · rw [h y (by omega)] at h5; cases h5
    | false =>
      refine .inl ⟨rfl, fun y h4 => ?_⟩
      by_cases e1 : y = e
      · subst e1; exact q
      · exact h y (by omega)
  · show raI g p (e + 1) (bif decide (g e < g x) && p e then some e else some x)
    cases q : decide (g e < g x) && p e with
    | true =>
      rw [Bool.and_eq_true] at q
      have q1 := of_decide_eq_true q.1
      refine .inr ⟨e, rfl, by omega, q.2, fun y h4 h5 => ?_⟩
      by_cases e1 : y = e
      · subst e1; exact .inr ⟨rfl, Nat.le_refl _⟩
      · have := h3 y (by omega) h5
        unfold lxLe at this ⊢
        omega
    | false =>
      refine .inr ⟨x, rfl, by omega, h2, fun y h4 h5 => ?_⟩
      by_cases e1 : y = e
      · subst e1
        rw [h5, Bool.and_true] at q
        have := of_decide_eq_false q
        unfold lxLe
        omega
      · exact h3 y (by omega) h5
theorem raI_run {g : Nat → Nat} {p : Nat → Bool} : ∀ r e o, raI g p e o → raI g p (e + r) (raV g p e o r)
  | 0, e, o, h => h
  | r + 1, e, o, h => by
    have := raI_run r (e + 1) _ (raI_step h)
    rw [show e + 1 + r = e + (r + 1) by omega] at this
    exact this
theorem few_atoms {g : Nat → Nat} {p : Nat → Bool} {N K : Nat} (hK : ∀ y, y < N → g y ≤ K) : clM g p N 0 (K + 1) = raV g p 0 none N := by
  have h := raI_run (g := g) (p := p) N 0 none (.inl ⟨rfl, fun y h => absurd h (Nat.not_lt_zero y)⟩)
  rw [Nat.zero_add] at h
  cases q : clM g p N 0 (K + 1) with
  | some x =>
    have h1 := clM_some (K + 1) 0 (fun _ _ _ => Nat.zero_le _) q
    rcases h with ⟨h2, h3⟩ | ⟨y, h2, h3⟩
    · have h4 := h1.2.1; rw [h3 x h1.1] at h4; cases h4
    · rw [h2, isMin_eq h1 h3]
  | none =>
    have h1 := clM_none (K + 1) 0 (fun _ _ _ => Nat.zero_le _) q
    rcases h with ⟨h2, h3⟩ | ⟨y, h2, h3⟩
    · rw [h2]
    · have := h1 y h3.1 h3.2.1
      have := hK y h3.1
      omega
/-- one by one, from all of them on -/
def rbS (g : Nat → Nat) (p : Nat → Bool) (e x : Nat) : Nat := bif (decide (g e < g x) || (decide (g e = g x) && decide (e < x))) && p e then e else x
def rbV (g : Nat → Nat) (p : Nat → Bool) : Nat → Nat → Nat → Nat
  | _, x, 0 => x
  | e, x, r + 1 => rbV g p (e + 1) (rbS g p e x) r
def rbI (g : Nat → Nat) (p : Nat → Bool) (N e x : Nat) : Prop := x < N ∧ p x = true ∧ ∀ y, y < e → p y = true → lxLe g x y
theorem rbI_step {g : Nat → Nat} {p : Nat → Bool} {N e x : Nat} (he : e < N) (h : rbI g p N e x) : rbI g p N (e + 1) (rbS g p e x) := by
  obtain ⟨h1, h2, h3⟩ := h
  unfold rbS
  cases q : (decide (g e < g x) || (decide (g e = g x) && decide (e < x))) && p e with
  | true =>
    rw [Bool.and_eq_true, Bool.or_eq_true, Bool.and_eq_true, decide_eq_true_eq, decide_eq_true_eq, decide_eq_true_eq] at q
    refine ⟨he, q.2, fun y h4 h5 => ?_⟩
    by_cases e1 : y = e
    · subst e1; exact .inr ⟨rfl, Nat.le_refl _⟩
    · have := h3 y (by omega) h5
      unfold lxLe at this ⊢
      rw [cond_true]
      omega
  | false =>
    refine ⟨h1, h2, fun y h4 h5 => ?_⟩
    by_cases e1 : y = e
    · subst e1
      rw [h5, Bool.and_true] at q
      unfold lxLe
      rw [cond_false]
      by_cases a : g y < g x
      · rw [decide_eq_true a] at q; cases q
      · by_cases b : g y = g x
        · by_cases c : y < x
          · rw [decide_eq_true b, decide_eq_true c, Bool.true_and, Bool.or_true] at q; cases q
          · exact .inr ⟨b.symm, by omega⟩
        · exact .inl (by omega)
    · exact h3 y (by omega) h5
theorem rbI_run {g : Nat → Nat} {p : Nat → Bool} {N : Nat} : ∀ r e x, e + r = N → rbI g p N e x → rbI g p N N (rbV g p e x r)
  | 0, e, x, he, h => by rw [show N = e by omega] at h ⊢; exact h
  | r + 1, e, x, he, h => rbI_run r (e + 1) _ (by omega) (rbI_step (by omega) h)
/-- fewer bits than so many, but for the last of all -/
theorem pc_lt {a y : Nat} (ha : a ≤ 12) (hy : y < 2 ^ a - 1) : pcK y < a := by
  have key : ∀ m k x, x < 2 ^ (k + m) → x / 2 ^ k ≠ 2 ^ m - 1 → bsum x k m < m := by
    intro m
    induction m with
    | zero => intro k x h1 h2; rw [Nat.add_zero] at h1; rw [Nat.div_eq_of_lt h1] at h2; exact absurd rfl h2
    | succ m ih =>
      intro k x h1 h2
      show x / 2 ^ k % 2 + bsum x (k + 1) m < m + 1
      have hb := bsum_le x m (k + 1)
      by_cases e : x / 2 ^ (k + 1) = 2 ^ m - 1
      · have e2 : x / 2 ^ k / 2 = 2 ^ m - 1 := by rw [Nat.div_div_eq_div_mul, ← Nat.pow_succ]; exact e
        have h3 : 2 ^ (m + 1) = 2 * 2 ^ m := by rw [Nat.pow_succ]; omega
        have h4 := Nat.two_pow_pos m
        omega
      · have := ih (k + 1) x (by rw [show k + 1 + m = k + (m + 1) by omega]; exact h1) e
        omega
  have h0 := key a 0 y (by rw [Nat.zero_add]; omega) (by rw [Nat.pow_zero, Nat.div_one]; omega)
  have h64 : bsum y 0 (a + (64 - a)) = bsum y 0 a + bsum y (0 + a) (64 - a) := bsum_add y a 0 (64 - a)
  rw [bsum_hi y (64 - a) (0 + a) (by rw [Nat.zero_add]; omega), Nat.add_zero, show a + (64 - a) = 64 by omega] at h64
  rw [pcK, h64]
  exact h0
theorem few_brief {g : Nat → Nat} {p : Nat → Bool} {a : Nat} (hg : ∀ y, y < 2 ^ a - 1 → g y < a) (hp : p (2 ^ a - 1) = true) : (clM g p (2 ^ a) 0 a).getD (2 ^ a - 1) = rbV g p 0 (2 ^ a - 1) (2 ^ a) := by
  have h2 := Nat.two_pow_pos a
  have h := rbI_run (g := g) (p := p) (N := 2 ^ a) (2 ^ a) 0 (2 ^ a - 1) (Nat.zero_add _) ⟨by omega, hp, fun y h => absurd h (Nat.not_lt_zero y)⟩
  cases q : clM g p (2 ^ a) 0 a with
  | some x => exact isMin_eq (clM_some a 0 (fun _ _ _ => Nat.zero_le _) q) h
  | none =>
    have h1 := clM_none a 0 (fun _ _ _ => Nat.zero_le _) q (rbV g p 0 (2 ^ a - 1) (2 ^ a)) h.1 h.2.1
    show 2 ^ a - 1 = rbV g p 0 (2 ^ a - 1) (2 ^ a)
    by_cases e : rbV g p 0 (2 ^ a - 1) (2 ^ a) < 2 ^ a - 1
    · have := hg _ e
      omega
    · have := h.1
      omega
end Few
