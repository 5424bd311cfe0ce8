/-! DAYS SOLD, 1: the best sharing out, by a table and by trying all. -/
section ShareP
def adS (G : Nat → Bool) (w : Nat) : Nat → Bool := fun v => decide (v = w) || G v
def mxW (f : Nat → Nat) (G : Nat → Bool) : Nat → Nat → Nat → Nat
  | _, V, 0 => V
  | w, V, k + 1 => mxW f G (w + 1) (bif !G w && decide (V < f w) then f w else V) k
def mx (off : Nat → Nat → Nat) (W : Nat) (nb : Nat → Bool) : Nat → Nat → (Nat → Bool) → Nat
  | 0, _, _ => 0
  | r + 1, b, G => bif nb b then mx off W nb r (b + 1) G else mxW (fun w => off b w + mx off W nb r (b + 1) (adS G w)) G 0 (mx off W nb r (b + 1) G) W
def stG (get : Nat → Int32) (b : Nat) (x : Int32) : Nat → Int32 := fun j => if j = b then x else get j
def asg (off : Nat → Nat → Nat) (W : Nat) (nb : Nat → Bool) : Nat → Nat → (Nat → Bool) → (Nat → Int32) → Nat → Int32
  | 0, _, _, get => get
  | r + 1, b, G, get => bif nb b || decide (mx off W nb r (b + 1) G = mx off W nb (r + 1) b G) then asg off W nb r (b + 1) G (stG get b (-1))
    else match fsO (fun w => !G w && decide (off b w + mx off W nb r (b + 1) (adS G w) = mx off W nb (r + 1) b G)) 0 W with
      | some w => asg off W nb r (b + 1) (adS G w) (stG get b (nI w))
      | none => asg off W nb r (b + 1) G (stG get b (-1))
/-- the best so far -/
def btS (v : Nat) (f : Nat → Int32) : Option (Nat × (Nat → Int32)) → Option (Nat × (Nat → Int32))
  | none => some (v, f)
  | some p => bif decide (p.1 < v) then some (v, f) else some p
theorem btS_lt {v : Nat} {f : Nat → Int32} {p : Nat × (Nat → Int32)} (h : p.1 < v) : btS v f (some p) = some (v, f) := by
  show (bif decide (p.1 < v) then some (v, f) else some p) = _
  rw [decide_eq_true h, cond_true]
theorem btS_ge {v : Nat} {f : Nat → Int32} {p : Nat × (Nat → Int32)} (h : ¬ p.1 < v) : btS v f (some p) = some p := by
  show (bif decide (p.1 < v) then some (v, f) else some p) = _
  rw [decide_eq_false h, cond_false]
theorem bt_bt (v w : Nat) (f g : Nat → Int32) (st : Option (Nat × (Nat → Int32))) : btS w g (btS v f st) = bif decide (v < w) then btS w g st else btS v f st := by
  cases st with
  | none =>
    by_cases h2 : v < w
    · rw [decide_eq_true h2, cond_true]
      exact btS_lt h2
    · rw [decide_eq_false h2, cond_false]
      exact btS_ge h2
  | some p =>
    by_cases h1 : p.1 < v
    · rw [btS_lt h1]
      by_cases h2 : v < w
      · rw [decide_eq_true h2, cond_true, btS_lt (p := (v, f)) h2, btS_lt (by omega)]
      · rw [decide_eq_false h2, cond_false, btS_ge (p := (v, f)) h2]
    · rw [btS_ge h1]
      by_cases h2 : v < w
      · rw [decide_eq_true h2, cond_true]
      · rw [decide_eq_false h2, cond_false, btS_ge (by omega)]
/-- the best of several, and which: the first -/
def cdF (f : Nat → Nat) (fs : Nat → Nat → Int32) (G : Nat → Bool) : Nat → Nat × (Nat → Int32) → Nat → Nat × (Nat → Int32)
  | _, p, 0 => p
  | w, p, k + 1 => cdF f fs G (w + 1) (bif !G w && decide (p.1 < f w) then (f w, fs w) else p) k
theorem cdF_1 {f : Nat → Nat} {fs : Nat → Nat → Int32} {G : Nat → Bool} : ∀ k w p, (cdF f fs G w p k).1 = mxW f G w p.1 k
  | 0, w, p => rfl
  | k + 1, w, p => by
    show (cdF f fs G (w + 1) (bif !G w && decide (p.1 < f w) then (f w, fs w) else p) k).1 = mxW f G (w + 1) (bif !G w && decide (p.1 < f w) then f w else p.1) k
    rw [cdF_1 k (w + 1)]
    cases !G w && decide (p.1 < f w) <;> rfl
theorem mxW_le {f : Nat → Nat} {G : Nat → Bool} : ∀ k w V, V ≤ mxW f G w V k
  | 0, w, V => Nat.le_refl _
  | k + 1, w, V => by
    show V ≤ mxW f G (w + 1) (bif !G w && decide (V < f w) then f w else V) k
    have := mxW_le (f := f) (G := G) k (w + 1) (bif !G w && decide (V < f w) then f w else V)
    cases hq : !G w && decide (V < f w) with
    | false => rw [hq] at this; exact this
    | true =>
      rw [hq] at this
      rw [Bool.and_eq_true] at hq
      have h2 := of_decide_eq_true hq.2
      have h3 : f w ≤ mxW f G (w + 1) (bif true then f w else V) k := this
      omega
theorem cdF_2 {f : Nat → Nat} {fs : Nat → Nat → Int32} {G : Nat → Bool} : ∀ k w p, (cdF f fs G w p k).2 = bif decide (p.1 = mxW f G w p.1 k) then p.2 else (match fsO (fun v => !G v && decide (f v = mxW f G w p.1 k)) w k with
    | some v => fs v
    | none => p.2)
  | 0, w, p => by
    show p.2 = bif decide (p.1 = p.1) then p.2 else _
    rw [decide_eq_true rfl, cond_true]
  | k + 1, w, p => by
    have hm : mxW f G w p.1 (k + 1) = mxW f G (w + 1) (bif !G w && decide (p.1 < f w) then f w else p.1) k := rfl
    have hf : fsO (fun v => !G v && decide (f v = mxW f G w p.1 (k + 1))) w (k + 1) = bif !G w && decide (f w = mxW f G w p.1 (k + 1)) then some w else fsO (fun v => !G v && decide (f v = mxW f G w p.1 (k + 1))) (w + 1) k := rfl
    show (cdF f fs G (w + 1) (bif !G w && decide (p.1 < f w) then (f w, fs w) else p) k).2 = _
    rw [cdF_2 k (w + 1), hf, hm]
    cases hq : !G w && decide (p.1 < f w) with
    | true =>
      rw [cond_true, cond_true]
      rw [Bool.and_eq_true] at hq
      have h2 := of_decide_eq_true hq.2
      have hle := mxW_le (f := f) (G := G) k (w + 1) (f w)
      rw [hq.1, Bool.true_and, decide_eq_false (show ¬ p.1 = mxW f G (w + 1) (f w) k by omega), cond_false]
      show (bif decide (f w = mxW f G (w + 1) (f w) k) then fs w else _) = _
      by_cases e : f w = mxW f G (w + 1) (f w) k
      · rw [decide_eq_true e, cond_true, cond_true]
      · have hlt : f w < mxW f G (w + 1) (f w) k := by omega
        rw [decide_eq_false e, cond_false, cond_false]
        cases hz : fsO (fun v => !G v && decide (f v = mxW f G (w + 1) (f w) k)) (w + 1) k with
        | some v => rfl
        | none =>
          -- the greatest of them is one of them
          exfalso
          have ex : ∀ k w V, V < mxW f G w V k → ∃ v, w ≤ v ∧ v < w + k ∧ G v = false ∧ f v = mxW f G w V k := by
            intro k
            induction k with
            | zero => intro w V h; exact absurd h (Nat.lt_irrefl _)
            | succ k ih =>
              intro w V h
              have hs : mxW f G w V (k + 1) = mxW f G (w + 1) (bif !G w && decide (V < f w) then f w else V) k := rfl
              rw [hs] at h ⊢
              cases hq : !G w && decide (V < f w) with
              | false =>
                rw [hq, cond_false] at h
                obtain ⟨v, a1, a2, a3, a4⟩ := ih (w + 1) V h
                exact ⟨v, by omega, by omega, a3, a4⟩
              | true =>
                rw [hq, cond_true] at h
                rw [cond_true]
                rw [Bool.and_eq_true, Bool.not_eq_true'] at hq
                by_cases e2 : f w = mxW f G (w + 1) (f w) k
                · exact ⟨w, Nat.le_refl _, by omega, hq.1, e2⟩
                · have hle2 := mxW_le (f := f) (G := G) k (w + 1) (f w)
                  obtain ⟨v, a1, a2, a3, a4⟩ := ih (w + 1) (f w) (by omega)
                  exact ⟨v, by omega, by omega, a3, a4⟩
          obtain ⟨v, a1, a2, a3, a4⟩ := ex k (w + 1) (f w) hlt
          have := fsO_all k (w + 1) hz v a1 a2
          rw [a3, decide_eq_true a4] at this
          cases this
    | false =>
      rw [cond_false, cond_false]
      by_cases e : p.1 = mxW f G (w + 1) p.1 k
      · rw [decide_eq_true e, cond_true, cond_true]
      · rw [decide_eq_false e, cond_false, cond_false]
        have hle := mxW_le (f := f) (G := G) k (w + 1) p.1
        have hno : (!G w && decide (f w = mxW f G (w + 1) p.1 k)) = false := by
          cases hg : G w with
          | true => rfl
          | false =>
            rw [hg, Bool.not_false, Bool.true_and] at hq
            have := of_decide_eq_false hq
            rw [Bool.not_false, Bool.true_and]
            exact decide_eq_false (by omega)
        rw [hno, cond_false]
theorem mxW_add {f : Nat → Nat} {G : Nat → Bool} (a : Nat) : ∀ k w V, mxW (fun v => a + f v) G w (a + V) k = a + mxW f G w V k
  | 0, w, V => rfl
  | k + 1, w, V => by
    show mxW (fun v => a + f v) G (w + 1) (bif !G w && decide (a + V < a + f w) then a + f w else a + V) k = a + mxW f G (w + 1) (bif !G w && decide (V < f w) then f w else V) k
    have e : decide (a + V < a + f w) = decide (V < f w) := by rw [decide_eq_decide]; omega
    have e2 : (bif !G w && decide (V < f w) then a + f w else a + V) = a + (bif !G w && decide (V < f w) then f w else V) := by cases !G w && decide (V < f w) <;> rfl
    rw [e, e2, mxW_add a k (w + 1)]
theorem mxW_bd {f : Nat → Nat} {G : Nat → Bool} {B : Nat} : ∀ k w V, (∀ v, w ≤ v → v < w + k → f v ≤ B) → V ≤ B → mxW f G w V k ≤ B
  | 0, w, V, _, h => h
  | k + 1, w, V, hf, h => by
    show mxW f G (w + 1) (bif !G w && decide (V < f w) then f w else V) k ≤ B
    refine mxW_bd k (w + 1) _ (fun v h1 h2 => hf v (by omega) (by omega)) ?_
    cases !G w && decide (V < f w) with
    | true => exact hf w (Nat.le_refl _) (by omega)
    | false => exact h
theorem mx_bd {off : Nat → Nat → Nat} {W : Nat} {nb : Nat → Bool} (ho : ∀ b w, b < 6 → w < W → off b w ≤ 99) : ∀ r b G, b + r = 6 → mx off W nb r b G ≤ 99 * r
  | 0, b, G, h => Nat.zero_le _
  | r + 1, b, G, h => by
    show (bif nb b then mx off W nb r (b + 1) G else mxW (fun w => off b w + mx off W nb r (b + 1) (adS G w)) G 0 (mx off W nb r (b + 1) G) W) ≤ _
    have ih := fun G => mx_bd (nb := nb) ho r (b + 1) G (by omega)
    cases nb b with
    | true => have := ih G; rw [cond_true]; omega
    | false =>
      rw [cond_false]
      refine mxW_bd W 0 _ (fun v _ hv => ?_) (by have := ih G; omega)
      have := ih (adS G v)
      have := ho b v (by omega) (by omega)
      show off b v + mx off W nb r (b + 1) (adS G v) ≤ _
      omega
end ShareP
