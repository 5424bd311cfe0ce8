/-! LEAST WAYS: the table, round by round. -/
section Floyd
/-- one place of a table after a round over k -/
def shW (t : Nat → Nat → Nat) (k i j : Nat) : Nat := if t i k + t k j < t i j then t i k + t k j else t i j
def fwN (t : Nat → Nat → Nat) : Nat → Nat → Nat → Nat
  | 0 => t
  | k + 1 => shW (fwN t k) k
/-- no way -/
def cI (x : Nat) : Int32 := if x < 100000 then nI x else -1
variable {t : Nat → Nat → Nat} {k i j : Nat}
theorem shW_le : shW t k i j ≤ t i j := by
  unfold shW
  split <;> omega
theorem shW_s (h : ∀ a b, t a b = t b a) : shW t k i j = shW t k j i := by
  unfold shW
  rw [h i k, h k j, h i j, Nat.add_comm]
theorem shW_k1 : shW t k i k = t i k := by
  unfold shW
  rw [if_neg (by omega)]
theorem shW_k2 : shW t k k j = t k j := by
  unfold shW
  rw [if_neg (by omega)]
theorem fwN_s (h : ∀ a b, t a b = t b a) : ∀ k a b, fwN t k a b = fwN t k b a
  | 0, a, b => h a b
  | k + 1, a, b => shW_s (fwN_s h k)
theorem fwN_z (h : ∀ a, t a a = 0) : ∀ k a, fwN t k a a = 0
  | 0, a => h a
  | k + 1, a => by
    have e := fwN_z h k a
    have := shW_le (t := fwN t k) (k := k) (i := a) (j := a)
    show shW (fwN t k) k a a = 0
    omega
theorem fwN_le : ∀ k a b, fwN t k a b ≤ t a b
  | 0, _, _ => Nat.le_refl _
  | k + 1, a, b => Nat.le_trans (shW_le (t := fwN t k)) (fwN_le k a b)
theorem fwN_b (h : ∀ a b, t a b ≤ 9 ∨ t a b = 100000) : ∀ k, k ≤ 8 → ∀ a b, fwN t k a b ≤ 9 * 2 ^ k ∨ fwN t k a b = 100000
  | 0, _, a, b => h a b
  | k + 1, hk, a, b => by
    have h1 := fwN_b h k (by omega) a b
    have h2 := fwN_b h k (by omega) a k
    have h3 := fwN_b h k (by omega) k b
    have p : 2 ^ k ≤ 2 ^ 7 := Nat.pow_le_pow_right (by decide) (by omega)
    have e : 2 ^ (k + 1) = 2 * 2 ^ k := by rw [Nat.pow_succ, Nat.mul_comm]
    show shW (fwN t k) k a b ≤ 9 * 2 ^ (k + 1) ∨ shW (fwN t k) k a b = 100000
    unfold shW
    rw [e]
    split <;> omega
theorem fwN_m (h : ∀ a b, t a b ≤ 9 ∨ t a b = 100000) {k : Nat} (hk : k ≤ 8) (a b : Nat) : fwN t k a b ≤ 2304 ∨ fwN t k a b = 100000 := by
  have p : 2 ^ k ≤ 2 ^ 8 := Nat.pow_le_pow_right (by decide) hk
  rcases fwN_b h k hk a b with q | q
  · exact .inl (by omega)
  · exact .inr q
/-- no sum of two ways is less -/
theorem fwN_t (h : ∀ a, t a a = 0) : ∀ k a b u, u < k → fwN t k a b ≤ fwN t k a u + fwN t k u b
  | 0, _, _, _, hu => absurd hu (Nat.not_lt_zero _)
  | k + 1, a, b, u, hu => by
    show shW (fwN t k) k a b ≤ shW (fwN t k) k a u + shW (fwN t k) k u b
    by_cases e : u = k
    · subst e
      rw [shW_k1, shW_k2]
      unfold shW
      split <;> omega
    · have h0 := fwN_t h k a b u (by omega)
      have h1 := fwN_t h k k b u (by omega)
      have h2 := fwN_t h k a k u (by omega)
      unfold shW
      split <;> split <;> split <;> omega
/-- what there is a way to, roads lead to -/
theorem fwN_r {A : Nat → Prop} (h : ∀ x y, A x → t x y < 100000 → A y) : ∀ k a b, fwN t k a b < 100000 → A a → A b
  | 0, a, b, q, ha => h a b ha q
  | k + 1, a, b, q, ha => by
    have q2 : shW (fwN t k) k a b < 100000 := q
    unfold shW at q2
    by_cases e : fwN t k a k + fwN t k k b < fwN t k a b
    · rw [if_pos e] at q2
      exact fwN_r h k k b (by omega) (fwN_r h k a k (by omega) ha)
    · rw [if_neg e] at q2
      exact fwN_r h k a b q2 ha
/-- places that aren't told of have no ways -/
theorem fwN_o {m : Nat} (h : ∀ a b, a ≠ b → m ≤ a ∨ m ≤ b → t a b = 100000) : ∀ k a b, a ≠ b → m ≤ a ∨ m ≤ b → fwN t k a b = 100000
  | 0, a, b, e, q => h a b e q
  | k + 1, a, b, e, q => by
    have h1 := fwN_o h k a b e q
    show shW (fwN t k) k a b = 100000
    unfold shW
    rw [h1, if_neg]
    rcases q with q | q
    · by_cases g : a = k
      · subst g
        omega
      · have := fwN_o h k a k g (.inl q)
        omega
    · by_cases g : k = b
      · subst g
        omega
      · have := fwN_o h k k b g (.inr q)
        omega
theorem fwN_q {m : Nat} (h : ∀ a b, a ≠ b → m ≤ a ∨ m ≤ b → t a b = 100000) (hb : ∀ a b, t a b ≤ 100000) : ∀ r a b, a < m → b < m → fwN t (m + r) a b = fwN t m a b
  | 0, _, _, _, _ => rfl
  | r + 1, a, b, ha, hb2 => by
    show shW (fwN t (m + r)) (m + r) a b = _
    unfold shW
    have h1 := fwN_o h (m + r) a (m + r) (by omega) (.inr (by omega))
    have h2 := fwN_q h hb r a b ha hb2
    have h3 := Nat.le_trans (fwN_le (t := t) (m + r) a b) (hb a b)
    rw [if_neg (by omega), h2]
/-- at most so much -/
def leI (x m : Nat) : Nat := if x ≤ m then 1 else 0
theorem leI_1 {x m : Nat} (h : x ≤ m) : leI x m = 1 := if_pos h
theorem leI_le {x m : Nat} : leI x m ≤ 1 := by
  unfold leI
  split <;> decide
theorem leI_of {x m : Nat} (h : 1 ≤ leI x m) : x ≤ m := by
  unfold leI at h
  by_cases q : x ≤ m
  · exact q
  · rw [if_neg q] at h; omega
theorem leI_m {x m m2 : Nat} (h : m ≤ m2) : leI x m ≤ leI x m2 := by
  by_cases q : x ≤ m
  · rw [leI_1 q, leI_1 (Nat.le_trans q h)]; exact Nat.le_refl _
  · have e : leI x m = 0 := if_neg q
    rw [e]
    exact Nat.zero_le _
def cn8 (f : Nat → Nat) (m : Nat) : Nat := leI (f 0) m + leI (f 1) m + leI (f 2) m + leI (f 3) m + leI (f 4) m + leI (f 5) m + leI (f 6) m + leI (f 7) m
theorem cn8_1 {f : Nat → Nat} {m v : Nat} (hv : v < 8) (h : f v ≤ m) : 1 ≤ cn8 f m := by
  have e := leI_1 h
  unfold cn8
  match v, hv, e with
  | 0, _, e => omega
  | 1, _, e => omega
  | 2, _, e => omega
  | 3, _, e => omega
  | 4, _, e => omega
  | 5, _, e => omega
  | 6, _, e => omega
  | 7, _, e => omega
theorem cn8_8 {f : Nat → Nat} {m v : Nat} (hv : v < 8) (h : 8 ≤ cn8 f m) : f v ≤ m := by
  have m0 := leI_le (x := f 0) (m := m)
  have m1 := leI_le (x := f 1) (m := m)
  have m2 := leI_le (x := f 2) (m := m)
  have m3 := leI_le (x := f 3) (m := m)
  have m4 := leI_le (x := f 4) (m := m)
  have m5 := leI_le (x := f 5) (m := m)
  have m6 := leI_le (x := f 6) (m := m)
  have m7 := leI_le (x := f 7) (m := m)
  unfold cn8 at h
  match v, hv with
  | 0, _ => exact leI_of (by omega)
  | 1, _ => exact leI_of (by omega)
  | 2, _ => exact leI_of (by omega)
  | 3, _ => exact leI_of (by omega)
  | 4, _ => exact leI_of (by omega)
  | 5, _ => exact leI_of (by omega)
  | 6, _ => exact leI_of (by omega)
  | 7, _ => exact leI_of (by omega)
/-- no more of them: none new -/
theorem cn8_e {f : Nat → Nat} {m m2 v : Nat} (hm : m ≤ m2) (hv : v < 8) (h : cn8 f m2 ≤ cn8 f m) (q : f v ≤ m2) : f v ≤ m := by
  have m0 := leI_m (x := f 0) hm
  have m1 := leI_m (x := f 1) hm
  have m2 := leI_m (x := f 2) hm
  have m3 := leI_m (x := f 3) hm
  have m4 := leI_m (x := f 4) hm
  have m5 := leI_m (x := f 5) hm
  have m6 := leI_m (x := f 6) hm
  have m7 := leI_m (x := f 7) hm
  have e := leI_1 q
  unfold cn8 at h
  match v, hv, e with
  | 0, _, e => exact leI_of (by omega)
  | 1, _, e => exact leI_of (by omega)
  | 2, _, e => exact leI_of (by omega)
  | 3, _, e => exact leI_of (by omega)
  | 4, _, e => exact leI_of (by omega)
  | 5, _, e => exact leI_of (by omega)
  | 6, _, e => exact leI_of (by omega)
  | 7, _, e => exact leI_of (by omega)
theorem fwN_c (h : ∀ a b, t a b ≤ 9 ∨ t a b = 100000) (hz : ∀ a, t a a = 0) (ho : ∀ a b, a ≠ b → 8 ≤ a ∨ 8 ≤ b → t a b = 100000) {a : Nat} (ha : a < 8) : ∀ m, m + 1 ≤ cn8 (fwN t 8 a) (9 * m) ∨ ∀ v, v < 8 → fwN t 8 a v < 100000 → fwN t 8 a v ≤ 9 * m
  | 0 => .inl (cn8_1 ha (by rw [fwN_z hz 8 a]; exact Nat.zero_le _))
  | m + 1 => by
    rcases fwN_c h hz ho ha m with ih | ih
    · by_cases hq : m + 1 + 1 ≤ cn8 (fwN t 8 a) (9 * (m + 1))
      · exact .inl hq
      · right
        intro v hv q
        have cl : ∀ v, v < 8 → fwN t 8 a v ≤ 9 * (m + 1) → fwN t 8 a v ≤ 9 * m := fun v hv => cn8_e (by omega) hv (by omega)
        have R := fwN_r (t := t) (A := fun v => v < 8 ∧ fwN t 8 a v ≤ 9 * m) (fun x y hx hy => by
          obtain ⟨x1, x2⟩ := hx
          by_cases e : x = y
          · subst e; exact ⟨x1, x2⟩
          · have y8 : y < 8 := Nat.lt_of_not_le fun g => by
              have := ho x y e (.inr g)
              omega
            refine ⟨y8, cl y y8 ?_⟩
            have t1 := fwN_t hz 8 a y x x1
            have t2 := fwN_le (t := t) 8 x y
            rcases h x y with g | g <;> omega) 8 a v q ⟨ha, by rw [fwN_z hz 8 a]; exact Nat.zero_le _⟩
        have := R.2
        omega
    · exact .inr fun v hv q => by
        have := ih v hv q
        omega
/-- the most of all least ways -/
theorem fwN_63 (h : ∀ a b, t a b ≤ 9 ∨ t a b = 100000) (hz : ∀ a, t a a = 0) (ho : ∀ a b, a ≠ b → 8 ≤ a ∨ 8 ≤ b → t a b = 100000) {a b : Nat} (ha : a < 8) (hb : b < 8) : fwN t 8 a b ≤ 63 ∨ fwN t 8 a b = 100000 := by
  rcases fwN_m h (Nat.le_refl 8) a b with q | q
  · left
    rcases fwN_c h hz ho ha 7 with c | c
    · exact cn8_8 hb c
    · exact c b hb (by omega)
  · exact .inr q
/-- the table while a round runs, row by row -/
def wlW (t : Nat → Nat → Nat) (k i j a b : Nat) : Nat := if a < i ∨ (a = i ∧ b < j) then shW t k a b else t a b
theorem wlW_ik : wlW t k i j i k = t i k := by
  unfold wlW
  rw [shW_k1, ite_self]
theorem wlW_kj {b : Nat} : wlW t k i j k b = t k b := by
  unfold wlW
  rw [shW_k2, ite_self]
theorem wlW_ij : wlW t k i j i j = t i j := by
  unfold wlW
  rw [if_neg (by omega)]
theorem wlW_n {a b : Nat} (h : ¬ (a = i ∧ b = j)) : wlW t k i (j + 1) a b = wlW t k i j a b := by
  unfold wlW
  by_cases q : a < i ∨ (a = i ∧ b < j)
  · rw [if_pos q, if_pos (by omega)]
  · rw [if_neg q, if_neg (by omega)]
theorem wlW_s : wlW t k i (j + 1) i j = shW t k i j := by
  unfold wlW
  rw [if_pos (by omega)]
theorem wlW_0 {a b : Nat} : wlW t k 0 0 a b = t a b := by
  unfold wlW
  rw [if_neg (by omega)]
theorem wlW_r {m a b : Nat} (hb : b < m) : wlW t k i m a b = wlW t k (i + 1) 0 a b := by
  unfold wlW
  by_cases q : a < i ∨ (a = i ∧ b < m)
  · rw [if_pos q, if_pos (by omega)]
  · rw [if_neg q, if_neg (by omega)]
theorem wlW_e {m a b : Nat} (ha : a < m) : wlW t k m 0 a b = shW t k a b := by
  unfold wlW
  rw [if_pos (.inl ha)]
theorem cI_t {x : Nat} (h : x < 100000) : cI x = nI x := if_pos h
theorem cI_n {x : Nat} (h : x = 100000) : cI x = -1 := by
  unfold cI
  rw [if_neg (by omega)]
/-- roads as numbers -/
def roN (D : Dr) (a b : Nat) : Nat := if dR D a b = -1 then 100000 else (dR D a b).toNatClampNeg
variable {D : Dr}
theorem roN_z (h : OkD D) (a : Nat) : roN D a a = 0 := by
  unfold roN
  rw [h.2.2.2.2.2.2.1 a]
  decide +kernel
theorem roN_c (h : OkD D) (a b : Nat) : cI (roN D a b) = dR D a b ∧ (roN D a b ≤ 9 ∨ roN D a b = 100000) ∧ (a ≠ b → dP D ≤ a ∨ dP D ≤ b → roN D a b = 100000) := by
  by_cases e : a = b
  · subst e
    rw [roN_z h, h.2.2.2.2.2.2.1 a]
    exact ⟨rfl, .inl (by decide), fun q => absurd rfl q⟩
  · rcases h.2.2.2.2.2.2.2 a b e with q | ⟨x, q1, q2, q3, q4⟩
    · have z : roN D a b = 100000 := if_pos q
      rw [z, q]
      exact ⟨rfl, .inr rfl, fun _ _ => rfl⟩
    · have ne : ¬ nI x = (-1 : Int32) := fun q => by
        have e2 := congrArg Int32.toInt q
        rw [nI_toInt (by omega), show (-1 : Int32).toInt = -1 by decide +kernel] at e2
        omega
      have z : roN D a b = x := by
        unfold roN
        rw [q1, if_neg ne, nI_clamp (by omega)]
      rw [z, q1]
      exact ⟨cI_t (by omega), .inl q2, fun _ g => by omega⟩
theorem roN_s (h : OkD D) (a b : Nat) : roN D a b = roN D b a := by
  unfold roN
  rw [h.2.2.2.2.2.1 a b]
end Floyd
