/-! THE COUNTRY: what a text tells, clause by clause; or its fault. -/
/-- letters, places, wells, veins, the state that is; frost; roads, wells, veins by number and place -/
abbrev Dr : Type := (Nat × Nat × Nat × Nat × Nat) × (Int32 × Int32) × (Nat → Nat → Int32) × (Nat → Nat → Int32) × (Nat → Nat → Int32)
def dN (D : Dr) : Nat := D.1.1
def dP (D : Dr) : Nat := D.1.2.1
def dW (D : Dr) : Nat := D.1.2.2.1
def dV (D : Dr) : Nat := D.1.2.2.2.1
def dI (D : Dr) : Nat := D.1.2.2.2.2
def dF (D : Dr) : Int32 := D.2.1.1
def dG (D : Dr) : Int32 := D.2.1.2
def dR (D : Dr) : Nat → Nat → Int32 := D.2.2.1
def dL (D : Dr) : Nat → Nat → Int32 := D.2.2.2.1
def dE (D : Dr) : Nat → Nat → Int32 := D.2.2.2.2
/-- one place of a table anew -/
def st2 (f : Nat → Nat → Int32) (a b : Nat) (x : Int32) : Nat → Nat → Int32 := fun i j => if i = a ∧ j = b then x else f i j
theorem st2_i {f : Nat → Nat → Int32} {a b : Nat} {x : Int32} : st2 f a b x a b = x := if_pos ⟨rfl, rfl⟩
theorem st2_o {f : Nat → Nat → Int32} {a b i j : Nat} {x : Int32} (h : ¬ (i = a ∧ j = b)) : st2 f a b x i j = f i j := if_neg h
def D0 : Dr := ((4, 0, 0, 0, 0), (-1, -1), (fun a b => if a = b then 0 else -1), (fun _ j => if j < 4 then 0 else -1), (fun _ _ => 0))
abbrev RsD : Type := (Nat × Nat) ⊕ (Nat × Dr)
section Cpur
variable (B : Nat → Nat) (n : Nat)
/-- a number, and on -/
def nuK (p l h : Nat) (f : Nat → Nat → RsD) : RsD := bif decide (nuF B n p l h = 0) then f (nuV B n p) (sk B n (dg B n p)) else .inl (nuF B n p l h, p)
/-- a number that isn't that one -/
def otK (p h but : Nat) (f : Nat → Nat → RsD) : RsD := bif decide (nuF B n p 0 h = 0) then (bif decide (nuV B n p = but) then .inl (2, p) else f (nuV B n p) (sk B n (dg B n p))) else .inl (nuF B n p 0 h, p)
/-- a word of letters -/
def knK (N p : Nat) (f : Nat → Nat → RsD) : RsD := bif smB B n p then (match lbP B N (wd B n p - p) p 0 with
    | none => .inl (2, p)
    | some b => f b (sk B n (wd B n p))) else .inl (1, p)
def bdA (D : Dr) (p : Nat) : RsD := nuK B n p 1 5 (fun v q => .inr (q, ((v, D.1.2), D.2)))
def bdP (D : Dr) (p : Nat) : RsD := .inr (p, ((dN D, dP D + 1, dW D, dV D, dI D), D.2))
def bdR (D : Dr) (p : Nat) : RsD := nuK B n p 0 (dP D) (fun a q => otK B n q (dP D) a (fun b q2 => nuK B n q2 1 10 (fun h q3 => .inr (q3, (D.1, D.2.1, st2 (st2 (dR D) a b (nI h)) b a (nI h), D.2.2.2)))))
def bdW (D : Dr) (p : Nat) : RsD := nuK B n p 0 (dP D) (fun a q => knK B n (dN D) q (fun b q2 => .inr (q2, ((dN D, dP D, dW D + 1, dV D, dI D), D.2.1, dR D, st2 (st2 (dL D) (dW D) 0 (nI a)) (dW D) 1 (nI b), dE D))))
def bdL (D : Dr) (p : Nat) : RsD := nuK B n p 0 (dW D) (fun w q => nuK B n q 1 31 (fun a q2 => nuK B n q2 0 a (fun b q3 => .inr (q3, (D.1, D.2.1, dR D, st2 (st2 (dL D) w 2 (nI a)) w 3 (nI b), dE D)))))
def bdD (D : Dr) (p : Nat) : RsD := nuK B n p 0 (dW D) (fun w q => nuK B n q 0 365 (fun a q2 => nuK B n q2 a 365 (fun b q3 => .inr (q3, (D.1, D.2.1, dR D, st2 (st2 (dL D) w 4 (nI a)) w 5 (nI b), dE D)))))
def bdV (D : Dr) (p : Nat) : RsD := nuK B n p 0 (dW D) (fun k q => otK B n q (dW D) k (fun j q2 => nuK B n q2 0 365 (fun f q3 => nuK B n q3 f 365 (fun t q4 => .inr (q4, ((dN D, dP D, dW D, dV D + 1, dI D), D.2.1, dR D, dL D, st2 (st2 (st2 (st2 (dE D) (dV D) 0 (nI k)) (dV D) 1 (nI j)) (dV D) 2 (nI f)) (dV D) 3 (nI t)))))))
def bdF (D : Dr) (p : Nat) : RsD := nuK B n p 0 365 (fun f q => nuK B n q f 365 (fun t q2 => .inr (q2, (D.1, (nI f, nI t), D.2.2))))
def bdI (D : Dr) (p : Nat) : RsD := nuK B n p 0 64 (fun v q => .inr (q, ((dN D, dP D, dW D, dV D, v), D.2)))
/-- what kind of clause stands there: by the class's numbers; 9: none -/
noncomputable def kdC (p : Nat) : Nat := bif isW B n p (prgT 2) then 0 else bif isW B n p (prgT 3) then 1 else bif isW B n p (prgT 4) then 2 else bif isW B n p (prgT 5) then 3 else bif isW B n p (prgT 6) then 4 else bif isW B n p (prgT 7) then 5 else bif isW B n p (prgT 8) then 6 else bif isW B n p (prgT 9) then 7 else bif isW B n p (prgT 10) then 8 else 9
def bdK (k : Nat) (D : Dr) (p : Nat) : RsD := match k with
  | 0 => bdA B n D p
  | 1 => bdP D p
  | 2 => bdR B n D p
  | 3 => bdW B n D p
  | 4 => bdL B n D p
  | 5 => bdD B n D p
  | 6 => bdV B n D p
  | 7 => bdF B n D p
  | _ => bdI B n D p
def fullB (D : Dr) (k : Nat) : Bool := (decide (k = 1) && decide (8 ≤ dP D)) || ((decide (k = 3) && decide (6 ≤ dW D)) || (decide (k = 6) && decide (2 ≤ dV D)))
def semK (r : RsD) : RsD := match r with
  | .inl x => .inl x
  | .inr (p, D) => bif sgB B n p 59 then .inr (sk B n (p + 1), D) else .inl (1, p)
noncomputable def clR (cl p : Nat) (D : Dr) : RsD := bif decide (kdC B n p = 9) then .inl (1, p) else bif decide (60 ≤ cl) || fullB D (kdC B n p) then .inl (3, p) else bif decide (kdC B n p = 0) && decide (0 < cl) then .inl (4, p) else semK B n (bdK B n (kdC B n p) D (sk B n (wd B n p)))
/-- a country's text from a clause on -/
noncomputable def couR : Nat → Nat → Nat → Dr → RsD
  | 0, _, p, D => .inr (p, D)
  | r + 1, cl, p, D => if n ≤ p then (bif decide (2 ^ (dN D + dV D) ≤ dI D) then .inl (4, p) else .inr (p, D)) else match clR B n cl p D with
      | .inl x => .inl x
      | .inr (q, D1) => couR r (cl + 1) q D1
end Cpur
section Cpur2
variable {B : Nat → Nat} {n : Nat}
/-- what the text tells keeps its bounds -/
def OkD (D : Dr) : Prop := (1 ≤ dN D ∧ dN D ≤ 4 ∧ dP D ≤ 8 ∧ dW D ≤ 6 ∧ dV D ≤ 2 ∧ dI D < 64) ∧ dys (dF D) (dG D) ∧ (∀ w, w < dW D → (∃ p, dL D w 0 = nI p ∧ p < dP D) ∧ (∃ b, dL D w 1 = nI b ∧ b < 2 ^ dN D) ∧ (∃ D1 R, dL D w 2 = nI D1 ∧ dL D w 3 = nI R ∧ D1 ≤ 30 ∧ (R < D1 ∨ (D1 = 0 ∧ R = 0))) ∧ dys (dL D w 4) (dL D w 5)) ∧ (∀ w, dW D ≤ w → dL D w 2 = 0 ∧ dL D w 3 = 0 ∧ dL D w 4 = -1 ∧ dL D w 5 = -1) ∧ (∀ v, v < dV D → ∃ k j f t : Nat, dE D v 0 = nI k ∧ dE D v 1 = nI j ∧ dE D v 2 = nI f ∧ dE D v 3 = nI t ∧ k < dW D ∧ j < dW D ∧ k ≠ j ∧ f ≤ t ∧ t < 365) ∧ (∀ a b, dR D a b = dR D b a) ∧ (∀ a, dR D a a = 0) ∧ ∀ a b, a ≠ b → dR D a b = -1 ∨ ∃ h, dR D a b = nI h ∧ h ≤ 9 ∧ a < dP D ∧ b < dP D
theorem OkD0 : OkD D0 := by
  refine ⟨by decide, .inl ⟨rfl, rfl⟩, fun w hw => absurd hw (Nat.not_lt_zero w), fun w _ => ⟨rfl, rfl, rfl, rfl⟩, fun v hv => absurd hv (Nat.not_lt_zero v), fun a b => ?_, fun a => if_pos rfl, fun a b h => .inl (if_neg h)⟩
  show (if a = b then (0 : Int32) else -1) = if b = a then 0 else -1
  by_cases e : a = b
  · rw [if_pos e, if_pos e.symm]
  · rw [if_neg e, if_neg (fun q => e q.symm)]
/-- what a part of a clause shows -/
def GC (n p : Nat) (r : RsD) : Prop := match r with
  | .inl (k, q) => 1 ≤ k ∧ k ≤ 4 ∧ q ≤ n
  | .inr (q, D) => p ≤ q ∧ q ≤ n ∧ OkD D
theorem GC.mono {p p2 : Nat} {r : RsD} (h : GC n p2 r) (hp : p ≤ p2) : GC n p r := by
  cases r with
  | inl x => exact h
  | inr x =>
    obtain ⟨q, D⟩ := x
    exact ⟨Nat.le_trans hp h.1, h.2⟩
theorem nuK_gc {p l h : Nat} {f : Nat → Nat → RsD} (hp : p ≤ n) (hf : ∀ v q, l ≤ v → v < h → p ≤ q → q ≤ n → GC n q (f v q)) : GC n p (nuK B n p l h f) := by
  unfold nuK
  rcases nuF_n0 (B := B) (n := n) (q := p) (l := l) (h := h) with e | e | e
  · obtain ⟨d1, d2, d3⟩ := nuF_ok e
    have s1 := dg_ge (B := B) (n := n) p
    have s2 := sk_ge (B := B) (n := n) (dg B n p)
    rw [decide_eq_true e, cond_true]
    exact (hf _ _ d2 d3 (by omega) (sk_le (dg_le hp))).mono (by omega)
  · rw [e]
    exact ⟨by decide, by decide, hp⟩
  · rw [e]
    exact ⟨by decide, by decide, hp⟩
theorem otK_gc {p h but : Nat} {f : Nat → Nat → RsD} (hp : p ≤ n) (hf : ∀ v q, v < h → v ≠ but → p ≤ q → q ≤ n → GC n q (f v q)) : GC n p (otK B n p h but f) := by
  unfold otK
  rcases nuF_n0 (B := B) (n := n) (q := p) (l := 0) (h := h) with e | e | e
  · obtain ⟨d1, d2, d3⟩ := nuF_ok e
    have s1 := dg_ge (B := B) (n := n) p
    have s2 := sk_ge (B := B) (n := n) (dg B n p)
    rw [decide_eq_true e, cond_true]
    by_cases g : nuV B n p = but
    · rw [decide_eq_true g, cond_true]
      exact ⟨by decide, by decide, hp⟩
    · rw [decide_eq_false g, cond_false]
      exact (hf _ _ d3 g (by omega) (sk_le (dg_le hp))).mono (by omega)
  · rw [e]
    exact ⟨by decide, by decide, hp⟩
  · rw [e]
    exact ⟨by decide, by decide, hp⟩
theorem lb_lt {N : Nat} (hN : N ≤ 4) : ∀ r i b b1, b < 2 ^ N → lbP B N r i b = some b1 → b1 < 2 ^ N
  | 0, i, b, b1, hb, h => by
    have e : b = b1 := Option.some.inj h
    subst e
    exact hb
  | r + 1, i, b, b1, hb, h => by
    unfold lbP at h
    cases hc : decide (N ≤ B i - 97) || b.testBit (B i - 97) with
    | true => rw [hc] at h; cases h
    | false =>
      rw [hc, cond_false] at h
      rw [Bool.or_eq_false_iff] at hc
      have hx : B i - 97 < N := by have := of_decide_eq_false hc.1; omega
      have h2 : 2 ^ (B i - 97) < 2 ^ N := Nat.pow_lt_pow_right (by decide) hx
      exact lb_lt hN r (i + 1) _ b1 (Nat.or_lt_two_pow hb h2) h
theorem knK_gc {N p : Nat} (hN : N ≤ 4) {f : Nat → Nat → RsD} (hp : p ≤ n) (hf : ∀ b q, b < 2 ^ N → p ≤ q → q ≤ n → GC n q (f b q)) : GC n p (knK B n N p f) := by
  unfold knK
  cases hs : smB B n p with
  | false => exact ⟨by decide, by decide, hp⟩
  | true =>
    rw [cond_true]
    have s1 := wd_ge (B := B) (n := n) p
    have s2 := sk_ge (B := B) (n := n) (wd B n p)
    cases hl : lbP B N (wd B n p - p) p 0 with
    | none => exact ⟨by decide, by decide, hp⟩
    | some b => exact (hf _ _ (lb_lt hN _ _ _ _ (Nat.two_pow_pos N) hl) (by omega) (sk_le (wd_le hp))).mono (by omega)
theorem bdK_gc {k cl p : Nat} {D : Dr} (h : OkD D) (h0 : k = 0 → dW D = 0) (hf : fullB D k = false) (hp : p ≤ n) : GC n p (bdK B n k D p) := by
  obtain ⟨⟨b1, b2, b3, b4, b5, b6⟩, b7, b8, b9, b10, b11, b12, b13⟩ := id h
  unfold fullB at hf
  rw [Bool.or_eq_false_iff, Bool.or_eq_false_iff] at hf
  unfold bdK
  split
  · refine nuK_gc hp fun v q v1 v2 q1 q2 => ⟨Nat.le_refl _, q2, ⟨v1, by show v ≤ 4; omega, b3, b4, b5, b6⟩, b7, fun w hw => ?_, b9, b10, b11, b12, b13⟩
    have hw2 : w < dW D := hw
    rw [h0 rfl] at hw2
    exact absurd hw2 (Nat.not_lt_zero w)
  · have h8 : ¬ 8 ≤ dP D := fun g => by
      have := hf.1
      rw [decide_eq_true g] at this
      cases this
    refine ⟨Nat.le_refl _, hp, ⟨b1, b2, by show dP D + 1 ≤ 8; omega, b4, b5, b6⟩, b7, fun w hw => ?_, b9, b10, b11, b12, fun a b hab => ?_⟩
    · obtain ⟨⟨p1, c1, c2⟩, c3⟩ := b8 w hw
      exact ⟨⟨p1, c1, by show p1 < dP D + 1; omega⟩, c3⟩
    · rcases b13 a b hab with g | ⟨x, g1, g2, g3, g4⟩
      · exact .inl g
      · exact .inr ⟨x, g1, g2, by show a < dP D + 1; omega, by show b < dP D + 1; omega⟩
  · refine nuK_gc hp fun a q a1 a2 q1 q2 => otK_gc q2 fun b q' bb1 bb2 q3 q4 => nuK_gc q4 fun x q'' x1 x2 q5 q6 => ⟨Nat.le_refl _, q6, ⟨b1, b2, b3, b4, b5, b6⟩, b7, b8, b9, b10, fun i j => ?_, fun i => ?_, fun i j hij => ?_⟩
    · show st2 (st2 (dR D) a b (nI x)) b a (nI x) i j = st2 (st2 (dR D) a b (nI x)) b a (nI x) j i
      unfold st2
      by_cases e1 : i = b ∧ j = a
      · rw [if_pos e1]
        by_cases e2 : j = b ∧ i = a
        · rw [if_pos e2]
        · rw [if_neg e2, if_pos ⟨e1.2, e1.1⟩]
      · rw [if_neg e1]
        by_cases e2 : i = a ∧ j = b
        · rw [if_pos e2, if_pos ⟨e2.2, e2.1⟩]
        · rw [if_neg e2, if_neg (fun g => e2 ⟨g.2, g.1⟩), if_neg (fun g => e1 ⟨g.2, g.1⟩)]
          exact b11 i j
    · show st2 (st2 (dR D) a b (nI x)) b a (nI x) i i = 0
      rw [st2_o (fun g => by omega), st2_o (fun g => by omega)]
      exact b12 i
    · show st2 (st2 (dR D) a b (nI x)) b a (nI x) i j = -1 ∨ ∃ h, st2 (st2 (dR D) a b (nI x)) b a (nI x) i j = nI h ∧ h ≤ 9 ∧ i < dP D ∧ j < dP D
      by_cases e1 : i = b ∧ j = a
      · obtain ⟨rfl, rfl⟩ := e1
        rw [st2_i]
        exact .inr ⟨x, rfl, by omega, bb1, a2⟩
      · rw [st2_o e1]
        by_cases e2 : i = a ∧ j = b
        · obtain ⟨rfl, rfl⟩ := e2
          rw [st2_i]
          exact .inr ⟨x, rfl, by omega, a2, bb1⟩
        · rw [st2_o e2]
          exact b13 i j hij
  · have h6 : ¬ 6 ≤ dW D := fun g => by
      have := hf.2.1
      rw [decide_eq_true g] at this
      cases this
    refine nuK_gc hp fun a q a1 a2 q1 q2 => knK_gc b2 q2 fun b q' bb1 q3 q4 => ⟨Nat.le_refl _, q4, ⟨b1, b2, b3, by show dW D + 1 ≤ 6; omega, b5, b6⟩, b7, fun w hw => ?_, fun w hw => ?_, fun v hv => ?_, b11, b12, b13⟩
    · have hw2 : w < dW D + 1 := hw
      show (∃ p, st2 (st2 (dL D) (dW D) 0 (nI a)) (dW D) 1 (nI b) w 0 = nI p ∧ p < dP D) ∧ (∃ b1, st2 (st2 (dL D) (dW D) 0 (nI a)) (dW D) 1 (nI b) w 1 = nI b1 ∧ b1 < 2 ^ dN D) ∧ (∃ D1 R, st2 (st2 (dL D) (dW D) 0 (nI a)) (dW D) 1 (nI b) w 2 = nI D1 ∧ st2 (st2 (dL D) (dW D) 0 (nI a)) (dW D) 1 (nI b) w 3 = nI R ∧ D1 ≤ 30 ∧ (R < D1 ∨ (D1 = 0 ∧ R = 0))) ∧ dys (st2 (st2 (dL D) (dW D) 0 (nI a)) (dW D) 1 (nI b) w 4) (st2 (st2 (dL D) (dW D) 0 (nI a)) (dW D) 1 (nI b) w 5)
      rw [st2_o (show ¬ (w = dW D ∧ 2 = 1) by omega), st2_o (show ¬ (w = dW D ∧ 2 = 0) by omega), st2_o (show ¬ (w = dW D ∧ 3 = 1) by omega), st2_o (show ¬ (w = dW D ∧ 3 = 0) by omega), st2_o (show ¬ (w = dW D ∧ 4 = 1) by omega), st2_o (show ¬ (w = dW D ∧ 4 = 0) by omega), st2_o (show ¬ (w = dW D ∧ 5 = 1) by omega), st2_o (show ¬ (w = dW D ∧ 5 = 0) by omega), st2_o (show ¬ (w = dW D ∧ 0 = 1) by omega)]
      by_cases e : w = dW D
      · subst e
        obtain ⟨z1, z2, z3, z4⟩ := b9 (dW D) (Nat.le_refl _)
        rw [st2_i, st2_i]
        exact ⟨⟨a, rfl, a2⟩, ⟨b, rfl, bb1⟩, ⟨0, 0, z1, z2, by decide, .inr ⟨rfl, rfl⟩⟩, .inl ⟨z3, z4⟩⟩
      · rw [st2_o (fun g => e g.1), st2_o (fun g => e g.1), st2_o (fun g => e g.1)]
        exact b8 w (by omega)
    · have hw2 : dW D + 1 ≤ w := hw
      show st2 (st2 (dL D) (dW D) 0 (nI a)) (dW D) 1 (nI b) w 2 = 0 ∧ st2 (st2 (dL D) (dW D) 0 (nI a)) (dW D) 1 (nI b) w 3 = 0 ∧ st2 (st2 (dL D) (dW D) 0 (nI a)) (dW D) 1 (nI b) w 4 = -1 ∧ st2 (st2 (dL D) (dW D) 0 (nI a)) (dW D) 1 (nI b) w 5 = -1
      rw [st2_o (fun g => by omega), st2_o (fun g => by omega), st2_o (fun g => by omega), st2_o (fun g => by omega), st2_o (fun g => by omega), st2_o (fun g => by omega), st2_o (fun g => by omega), st2_o (fun g => by omega)]
      exact b9 w (by omega)
    · obtain ⟨k, j, f, t, c1, c2, c3, c4, c5, c6, c7⟩ := b10 v hv
      exact ⟨k, j, f, t, c1, c2, c3, c4, by show k < dW D + 1; omega, by show j < dW D + 1; omega, c7⟩
  · refine nuK_gc hp fun w q a1 a2 q1 q2 => nuK_gc q2 fun a q' bb1 bb2 q3 q4 => nuK_gc q4 fun b q'' x1 x2 q5 q6 => ⟨Nat.le_refl _, q6, ⟨b1, b2, b3, b4, b5, b6⟩, b7, fun i hi => ?_, fun i hi => ?_, b10, b11, b12, b13⟩
    · show (∃ p, st2 (st2 (dL D) w 2 (nI a)) w 3 (nI b) i 0 = nI p ∧ p < dP D) ∧ (∃ b1, st2 (st2 (dL D) w 2 (nI a)) w 3 (nI b) i 1 = nI b1 ∧ b1 < 2 ^ dN D) ∧ (∃ D1 R, st2 (st2 (dL D) w 2 (nI a)) w 3 (nI b) i 2 = nI D1 ∧ st2 (st2 (dL D) w 2 (nI a)) w 3 (nI b) i 3 = nI R ∧ D1 ≤ 30 ∧ (R < D1 ∨ (D1 = 0 ∧ R = 0))) ∧ dys (st2 (st2 (dL D) w 2 (nI a)) w 3 (nI b) i 4) (st2 (st2 (dL D) w 2 (nI a)) w 3 (nI b) i 5)
      obtain ⟨c1, c2, c3, c4⟩ := b8 i hi
      rw [st2_o (show ¬ (i = w ∧ 0 = 3) by omega), st2_o (show ¬ (i = w ∧ 0 = 2) by omega), st2_o (show ¬ (i = w ∧ 1 = 3) by omega), st2_o (show ¬ (i = w ∧ 1 = 2) by omega), st2_o (show ¬ (i = w ∧ 4 = 3) by omega), st2_o (show ¬ (i = w ∧ 4 = 2) by omega), st2_o (show ¬ (i = w ∧ 5 = 3) by omega), st2_o (show ¬ (i = w ∧ 5 = 2) by omega), st2_o (show ¬ (i = w ∧ 2 = 3) by omega)]
      refine ⟨c1, c2, ?_, c4⟩
      by_cases e : i = w
      · subst e
        rw [st2_i, st2_i]
        exact ⟨a, b, rfl, rfl, by omega, .inl x2⟩
      · rw [st2_o (fun g => e g.1), st2_o (fun g => e g.1), st2_o (fun g => e g.1)]
        exact c3
    · show st2 (st2 (dL D) w 2 (nI a)) w 3 (nI b) i 2 = 0 ∧ st2 (st2 (dL D) w 2 (nI a)) w 3 (nI b) i 3 = 0 ∧ st2 (st2 (dL D) w 2 (nI a)) w 3 (nI b) i 4 = -1 ∧ st2 (st2 (dL D) w 2 (nI a)) w 3 (nI b) i 5 = -1
      have hi2 : dW D ≤ i := hi
      rw [st2_o (fun g => by omega), st2_o (fun g => by omega), st2_o (fun g => by omega), st2_o (fun g => by omega), st2_o (fun g => by omega), st2_o (fun g => by omega), st2_o (fun g => by omega), st2_o (fun g => by omega)]
      exact b9 i hi
  · refine nuK_gc hp fun w q a1 a2 q1 q2 => nuK_gc q2 fun a q' bb1 bb2 q3 q4 => nuK_gc q4 fun b q'' x1 x2 q5 q6 => ⟨Nat.le_refl _, q6, ⟨b1, b2, b3, b4, b5, b6⟩, b7, fun i hi => ?_, fun i hi => ?_, b10, b11, b12, b13⟩
    · show (∃ p, st2 (st2 (dL D) w 4 (nI a)) w 5 (nI b) i 0 = nI p ∧ p < dP D) ∧ (∃ b1, st2 (st2 (dL D) w 4 (nI a)) w 5 (nI b) i 1 = nI b1 ∧ b1 < 2 ^ dN D) ∧ (∃ D1 R, st2 (st2 (dL D) w 4 (nI a)) w 5 (nI b) i 2 = nI D1 ∧ st2 (st2 (dL D) w 4 (nI a)) w 5 (nI b) i 3 = nI R ∧ D1 ≤ 30 ∧ (R < D1 ∨ (D1 = 0 ∧ R = 0))) ∧ dys (st2 (st2 (dL D) w 4 (nI a)) w 5 (nI b) i 4) (st2 (st2 (dL D) w 4 (nI a)) w 5 (nI b) i 5)
      obtain ⟨c1, c2, c3, c4⟩ := b8 i hi
      rw [st2_o (show ¬ (i = w ∧ 0 = 5) by omega), st2_o (show ¬ (i = w ∧ 0 = 4) by omega), st2_o (show ¬ (i = w ∧ 1 = 5) by omega), st2_o (show ¬ (i = w ∧ 1 = 4) by omega), st2_o (show ¬ (i = w ∧ 2 = 5) by omega), st2_o (show ¬ (i = w ∧ 2 = 4) by omega), st2_o (show ¬ (i = w ∧ 3 = 5) by omega), st2_o (show ¬ (i = w ∧ 3 = 4) by omega), st2_o (show ¬ (i = w ∧ 4 = 5) by omega)]
      refine ⟨c1, c2, c3, ?_⟩
      by_cases e : i = w
      · subst e
        rw [st2_i, st2_i]
        exact .inr ⟨a, b, rfl, rfl, x1, x2⟩
      · rw [st2_o (fun g => e g.1), st2_o (fun g => e g.1), st2_o (fun g => e g.1)]
        exact c4
    · show st2 (st2 (dL D) w 4 (nI a)) w 5 (nI b) i 2 = 0 ∧ st2 (st2 (dL D) w 4 (nI a)) w 5 (nI b) i 3 = 0 ∧ st2 (st2 (dL D) w 4 (nI a)) w 5 (nI b) i 4 = -1 ∧ st2 (st2 (dL D) w 4 (nI a)) w 5 (nI b) i 5 = -1
      have hi2 : dW D ≤ i := hi
      rw [st2_o (fun g => by omega), st2_o (fun g => by omega), st2_o (fun g => by omega), st2_o (fun g => by omega), st2_o (fun g => by omega), st2_o (fun g => by omega), st2_o (fun g => by omega), st2_o (fun g => by omega)]
      exact b9 i hi
  · have h2 : ¬ 2 ≤ dV D := fun g => by
      have := hf.2.2
      rw [decide_eq_true g] at this
      cases this
    refine nuK_gc hp fun k q a1 a2 q1 q2 => otK_gc q2 fun j q' bb1 bb2 q3 q4 => nuK_gc q4 fun f q'' f1 f2 q5 q6 => nuK_gc q6 fun t q''' t1 t2 q7 q8 => ⟨Nat.le_refl _, q8, ⟨b1, b2, b3, b4, by show dV D + 1 ≤ 2; omega, b6⟩, b7, b8, b9, fun v hv => ?_, b11, b12, b13⟩
    have hv2 : v < dV D + 1 := hv
    show ∃ k1 j1 f1 t1 : Nat, st2 (st2 (st2 (st2 (dE D) (dV D) 0 (nI k)) (dV D) 1 (nI j)) (dV D) 2 (nI f)) (dV D) 3 (nI t) v 0 = nI k1 ∧ st2 (st2 (st2 (st2 (dE D) (dV D) 0 (nI k)) (dV D) 1 (nI j)) (dV D) 2 (nI f)) (dV D) 3 (nI t) v 1 = nI j1 ∧ st2 (st2 (st2 (st2 (dE D) (dV D) 0 (nI k)) (dV D) 1 (nI j)) (dV D) 2 (nI f)) (dV D) 3 (nI t) v 2 = nI f1 ∧ st2 (st2 (st2 (st2 (dE D) (dV D) 0 (nI k)) (dV D) 1 (nI j)) (dV D) 2 (nI f)) (dV D) 3 (nI t) v 3 = nI t1 ∧ k1 < dW D ∧ j1 < dW D ∧ k1 ≠ j1 ∧ f1 ≤ t1 ∧ t1 < 365
    by_cases e : v = dV D
    · subst e
      rw [st2_i, st2_o (show ¬ (dV D = dV D ∧ 2 = 3) by omega), st2_i, st2_o (show ¬ (dV D = dV D ∧ 1 = 3) by omega), st2_o (show ¬ (dV D = dV D ∧ 1 = 2) by omega), st2_i, st2_o (show ¬ (dV D = dV D ∧ 0 = 3) by omega), st2_o (show ¬ (dV D = dV D ∧ 0 = 2) by omega), st2_o (show ¬ (dV D = dV D ∧ 0 = 1) by omega), st2_i]
      exact ⟨k, j, f, t, rfl, rfl, rfl, rfl, a2, bb1, fun g => bb2 g.symm, t1, t2⟩
    · have o : ∀ (g : Nat → Nat → Int32) (b : Nat) (x : Int32) (i : Nat), st2 g (dV D) b x v i = g v i := fun g b x i => st2_o (fun q => e q.1)
      rw [o, o, o, o, o, o, o, o, o, o, o, o, o, o, o, o]
      exact b10 v (by omega)
  · exact nuK_gc hp fun f q f1 f2 q1 q2 => nuK_gc q2 fun t q' t1 t2 q3 q4 => ⟨Nat.le_refl _, q4, ⟨b1, b2, b3, b4, b5, b6⟩, .inr ⟨f, t, rfl, rfl, t1, t2⟩, b8, b9, b10, b11, b12, b13⟩
  · exact nuK_gc hp fun v q v1 v2 q1 q2 => ⟨Nat.le_refl _, q2, ⟨b1, b2, b3, b4, b5, v2⟩, b7, b8, b9, b10, b11, b12, b13⟩
end Cpur2
