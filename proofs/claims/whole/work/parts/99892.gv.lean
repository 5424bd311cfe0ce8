/-! PLAN, 1: the day by which the goal is told. -/
section Gv
variable {a d n t : Nat} {I J M : FI} {L K N : FL} {P : FR} {E : FE} {c s z : Nat}
/-- those that say yes -/
def ywL (I : FI) (w q x : Nat) : Int64 := bif anB I w q x then yesL I w q x else 0
theorem yw_say (hT : RTold I) (w q x : Nat) : sayL I w q x (nI 1) = ywL I w q x := by
  unfold ywL
  cases ha : anB I w q x with
  | false => rw [say_f hT (by decide) ha]; rfl
  | true => rw [say_t1 hT ha]; rfl
/-- the day of coming -/
def dyN (I : FI) (a x : Nat) (b : Bool) (w : Nat) : Nat := x + fN I a (plN I w) + (bif b && decide (fN I a (plN I w) = 0) then 1 else 0)
theorem dy_ge (I : FI) (a x : Nat) (b : Bool) (w : Nat) : x ≤ dyN I a x b w := by unfold dyN; omega
def okW (I : FI) (a x : Nat) (b : Bool) (w : Nat) : Bool := fOk I a (plN I w) && decide (dyN I a x b w < 365)
def vlG (I : FI) (F : Nat → Nat → Int64 → Nat) (l : Int64) (w y q : Nat) : Nat := mxN (F (plN I w) y (l &&& ywL I w q y)) (F (plN I w) y (l &&& ((l &&& ywL I w q y) ^^^ (-1))))
def gvN (I : FI) : Nat → Nat → Nat → Bool → Int64 → Nat
  | 0, _, x, _, l => bif stB l (sL I 6 x) then x else 365
  | k + 1, a, x, b, l => bif stB l (sL I 6 x) then x else mnF (okW I a x b) (fun w => mnF (toldB I) (vlG I (fun a' x' l' => gvN I k a' x' true l') l w (dyN I a x b w)) 365 0 6) 365 0 (zW I)
def gvF (I : FI) (k : Nat) : Nat → Nat → Int64 → Nat := fun a' x' l' => gvN I k a' x' true l'
theorem gv_st {k x : Nat} {b : Bool} {l : Int64} (h : stB l (sL I 6 x) = true) : gvN I k a x b l = x := by
  cases k with
  | zero => show (bif stB l (sL I 6 x) then x else 365) = x; rw [h]; rfl
  | succ k => unfold gvN; rw [h]; rfl
theorem gv_no {k x : Nat} {b : Bool} {l : Int64} (h : stB l (sL I 6 x) = false) : gvN I (k + 1) a x b l = mnF (okW I a x b) (fun w => mnF (toldB I) (vlG I (gvF I k) l w (dyN I a x b w)) 365 0 6) 365 0 (zW I) := by
  show (bif stB l (sL I 6 x) then x else mnF (okW I a x b) (fun w => mnF (toldB I) (vlG I (gvF I k) l w (dyN I a x b w)) 365 0 6) 365 0 (zW I)) = _
  rw [h]; rfl
theorem gv_le {k x : Nat} {b : Bool} {l : Int64} (hx : x ≤ 365) : gvN I k a x b l ≤ 365 := by
  cases h : stB l (sL I 6 x) with
  | true => rw [gv_st h]; exact hx
  | false =>
    cases k with
    | zero => show (bif stB l (sL I 6 x) then x else 365) ≤ 365; rw [h]; exact Nat.le_refl _
    | succ k => rw [gv_no h]; exact mnF_le
theorem mx_le1 (x y : Nat) : x ≤ mxN x y ∧ y ≤ mxN x y := by
  unfold mxN
  by_cases e : x < y
  · rw [decide_eq_true e, cond_true]; omega
  · rw [decide_eq_false e, cond_false]; omega
theorem mx_lt (x y v : Nat) : mxN x y < v ↔ x < v ∧ y < v := by
  unfold mxN
  by_cases e : x < y
  · rw [decide_eq_true e, cond_true]; omega
  · rw [decide_eq_false e, cond_false]; omega
theorem gv_ge : ∀ k a x b l, x < 365 → x ≤ gvN I k a x b l
  | 0, a, x, b, l, hx => by
    show x ≤ bif stB l (sL I 6 x) then x else 365
    cases stB l (sL I 6 x) with
    | true => exact Nat.le_refl _
    | false => exact Nat.le_of_lt hx
  | k + 1, a, x, b, l, hx => by
    cases h : stB l (sL I 6 x) with
    | true => rw [gv_st h]; exact Nat.le_refl _
    | false =>
      rw [gv_no h]
      refine Nat.le_of_not_lt fun q => ?_
      have hx0 : 0 < x := by omega
      have q2 := (mnF_iff (zW I) 0 365).mp (Nat.le_sub_one_of_lt q)
      rcases q2 with q2 | ⟨w, _, _, w1, w2⟩
      · omega
      · rcases (mnF_iff 6 0 365).mp w2 with w3 | ⟨u, _, _, _, u2⟩
        · omega
        · unfold okW at w1
          rw [Bool.and_eq_true] at w1
          have hd := of_decide_eq_true w1.2
          have hg := gv_ge k (plN I w) (dyN I a x b w) true (l &&& ywL I w u (dyN I a x b w)) hd
          have hm := (mx_le1 (gvN I k (plN I w) (dyN I a x b w) true (l &&& ywL I w u (dyN I a x b w))) (gvN I k (plN I w) (dyN I a x b w) true (l &&& ((l &&& ywL I w u (dyN I a x b w)) ^^^ (-1))))).1
          have hy := dy_ge I a x b w
          have u3 : mxN (gvN I k (plN I w) (dyN I a x b w) true (l &&& ywL I w u (dyN I a x b w))) (gvN I k (plN I w) (dyN I a x b w) true (l &&& ((l &&& ywL I w u (dyN I a x b w)) ^^^ (-1)))) ≤ x - 1 := u2
          omega
theorem vl_ge {k w y q : Nat} {l : Int64} (hy : y < 365) : y ≤ vlG I (gvF I k) l w y q := Nat.le_trans (gv_ge k (plN I w) y true (l &&& ywL I w q y) hy) (mx_le1 _ _).1
theorem vl_le {k w y q : Nat} {l : Int64} (hy : y < 365) : vlG I (gvF I k) l w y q ≤ 365 := by
  have h1 := gv_le (I := I) (k := k) (a := plN I w) (b := true) (l := l &&& ywL I w q y) (Nat.le_of_lt hy)
  have h2 := gv_le (I := I) (k := k) (a := plN I w) (b := true) (l := l &&& ((l &&& ywL I w q y) ^^^ (-1))) (Nat.le_of_lt hy)
  have h3 := (mx_lt (gvN I k (plN I w) y true (l &&& ywL I w q y)) (gvN I k (plN I w) y true (l &&& ((l &&& ywL I w q y) ^^^ (-1)))) 366).mpr ⟨by omega, by omega⟩
  exact Nat.le_of_lt_succ h3
/-- the best so far, and its first asking -/
def oQ (td : Nat → Bool) (vl : Nat → Nat) (w : Nat) : Nat × Int32 → Nat → Nat → Nat × Int32
  | p, _, 0 => p
  | p, q, r + 1 => oQ td vl w (bif td q && decide (vl q < p.1) then (vl q, nI (10 * w + q)) else p) (q + 1) r
def oW (ok : Nat → Bool) (td : Nat → Bool) (vl : Nat → Nat → Nat) : Nat × Int32 → Nat → Nat → Nat × Int32
  | p, _, 0 => p
  | p, w, r + 1 => oW ok td vl (bif ok w then oQ td (vl w) w p 0 6 else p) (w + 1) r
theorem oQ_1 {td : Nat → Bool} {vl : Nat → Nat} {w : Nat} : ∀ r q p, (oQ td vl w p q r).1 = mnF td vl p.1 q r
  | 0, q, p => rfl
  | r + 1, q, p => by
    show (oQ td vl w (bif td q && decide (vl q < p.1) then (vl q, nI (10 * w + q)) else p) (q + 1) r).1 = mnF td vl (bif td q && decide (vl q < p.1) then vl q else p.1) (q + 1) r
    rw [oQ_1 r (q + 1)]
    cases td q && decide (vl q < p.1) <;> rfl
theorem oQ_no {td : Nat → Bool} {vl : Nat → Nat} {w : Nat} {p : Nat × Int32} (h : ∀ q, p.1 ≤ vl q) : ∀ r q, oQ td vl w p q r = p
  | 0, q => rfl
  | r + 1, q => by
    show oQ td vl w (bif td q && decide (vl q < p.1) then (vl q, nI (10 * w + q)) else p) (q + 1) r = p
    rw [decide_eq_false (show ¬ vl q < p.1 by have := h q; omega), Bool.and_false, cond_false]
    exact oQ_no h r (q + 1)
theorem oW_1 {ok td : Nat → Bool} {vl : Nat → Nat → Nat} : ∀ r w p, p.1 ≤ 365 → (oW ok td vl p w r).1 = mnF ok (fun w => mnF td (vl w) 365 0 6) p.1 w r
  | 0, w, p, h => rfl
  | r + 1, w, p, h => by
    have e : (bif ok w then oQ td (vl w) w p 0 6 else p).1 = bif ok w && decide (mnF td (vl w) 365 0 6 < p.1) then mnF td (vl w) 365 0 6 else p.1 := by
      cases ok w with
      | false => rfl
      | true =>
        rw [cond_true, Bool.true_and, oQ_1]
        refine le_ext fun k => ?_
        rw [mnF_iff]
        by_cases e : mnF td (vl w) 365 0 6 < p.1
        · rw [decide_eq_true e, cond_true, mnF_iff]
          have e2 := (mnF_iff (p := td) (g := vl w) (x := k) 6 0 365)
          exact ⟨fun q => q.elim (fun q => e2.mp (by omega)) .inr, fun q => q.elim (fun q => .inl (by omega)) .inr⟩
        · rw [decide_eq_false e, cond_false]
          refine ⟨fun q => q.elim id fun q => ?_, .inl⟩
          have := (mnF_iff (p := td) (g := vl w) (x := k) 6 0 365).mpr (.inr q)
          omega
    have hle : (bif ok w then oQ td (vl w) w p 0 6 else p).1 ≤ 365 := by
      rw [e]
      cases hq : ok w && decide (mnF td (vl w) 365 0 6 < p.1) with
      | true => exact mnF_le
      | false => exact h
    show (oW ok td vl (bif ok w then oQ td (vl w) w p 0 6 else p) (w + 1) r).1 = mnF ok (fun w => mnF td (vl w) 365 0 6) (bif ok w && decide (mnF td (vl w) 365 0 6 < p.1) then mnF td (vl w) 365 0 6 else p.1) (w + 1) r
    rw [oW_1 r (w + 1) _ hle, e]
/-- bounded by a limit, the same -/
theorem mnF_lim {p : Nat → Bool} {g : Nat → Nat} {v w r : Nat} (hv : v ≤ 365) : (mnF p g v w r < v → mnF p g v w r = mnF p g 365 w r) ∧ (¬ mnF p g v w r < v → v ≤ mnF p g 365 w r) := by
  constructor
  · intro h
    refine le_ext fun k => ?_
    have e1 := mnF_iff (p := p) (g := g) (x := k) r w v
    have e2 := mnF_iff (p := p) (g := g) (x := k) r w 365
    constructor
    · intro q
      by_cases hk : v ≤ k
      · have e3 := (mnF_iff (p := p) (g := g) (x := v - 1) r w v).mp (by omega)
        rcases e3 with e3 | ⟨u, u1, u2, u3, u4⟩
        · omega
        · exact e2.mpr (.inr ⟨u, u1, u2, u3, by omega⟩)
      · exact e2.mpr (.inr ((e1.mp q).resolve_left hk))
    · intro q
      rcases e2.mp q with q | q
      · exact e1.mpr (.inl (by omega))
      · exact e1.mpr (.inr q)
  · intro h
    refine Nat.le_of_not_lt fun q => h ?_
    have e2 := (mnF_iff (p := p) (g := g) r w 365).mp (Nat.le_sub_one_of_lt q)
    have e1 := (mnF_iff (p := p) (g := g) (x := v - 1) r w v)
    have hv0 : 0 < v := by omega
    rcases e2 with e2 | e2
    · omega
    · have := e1.mpr (.inr e2)
      omega
end Gv
