/-! THE TONGUE: what a phrase is, its codes (the latest first), its needs; or its fault. -/
abbrev Rs : Type := (Nat × Nat) ⊕ (Nat × List (Nat × Nat) × Nat × Nat)
def bnd (r : Rs) (f : Nat → List (Nat × Nat) → Nat → Nat → Rs) : Rs := match r with
  | .inl x => .inl x
  | .inr (p, cs, A, W) => f p cs A W
section Gram
variable (B : Nat → Nat) (n N wn : Nat) (wl : Nat → Nat)
/-- an atom stands there -/
def atB (p : Nat) : Bool := smB B n p && (decide (wd B n p = p + 1) && decide (B p - 97 < N))
/-- a well knows what needs so much -/
def knW (w A W : Nat) : Bool := decide (nI A &&& (nI (wl w) ^^^ (-1)) = 0) && decide (nI W &&& (((1 : Int32) <<< (nI w &&& 31)) ^^^ (-1)) = 0)
/-- one on behind a word, as often as it stands there -/
noncomputable def lpR (k how : Nat) (one : Nat → List (Nat × Nat) → Rs) : Nat → Nat → List (Nat × Nat) → Nat → Nat → Rs
  | 0, p, cs, A, W => .inr (p, cs, A, W)
  | r + 1, p, cs, A, W => bif isW B n p (prgT k) then bnd (one (sk B n (wd B n p)) cs) (fun p1 c1 A1 W1 => lpR k how one r p1 ((how, 0) :: c1) (A ||| A1) (W ||| W1)) else .inr (p, cs, A, W)
noncomputable def allR (one : Nat → List (Nat × Nat) → Rs) (p : Nat) (cs : List (Nat × Nat)) : Rs := bnd (one p cs) (fun p1 c1 A W => lpR B n 12 2 one 150 p1 c1 A W)
noncomputable def anyR (one : Nat → List (Nat × Nat) → Rs) (p : Nat) (cs : List (Nat × Nat)) : Rs := bnd (allR B n one p cs) (fun p1 c1 A W => lpR B n 11 3 (allR B n one) 150 p1 c1 A W)
/-- what begins there -/
noncomputable def chR (p : Nat) (a b0 b1 b2 b3 z : Rs) : Rs := bif atB B n N p then a else bif sgB B n p 91 then b0 else bif isW B n p (prgT 13) then b1 else bif isW B n p (prgT 14) then b2 else bif isW B n p (prgT 15) then b3 else z
noncomputable def braR (any : Nat → List (Nat × Nat) → Rs) (p : Nat) (cs : List (Nat × Nat)) : Rs := bnd (any (sk B n (p + 1)) cs) (fun p1 c1 A W => bif sgB B n p1 93 then .inr (sk B n (p1 + 1), c1, A, W) else .inl (1, p1))
noncomputable def notR (one : Nat → List (Nat × Nat) → Rs) (p : Nat) (cs : List (Nat × Nat)) : Rs := bnd (one (sk B n (wd B n p)) cs) (fun p1 c1 A W => .inr (p1, (1, 0) :: c1, A, W))
noncomputable def ifR (one : Nat → List (Nat × Nat) → Rs) (p : Nat) (cs : List (Nat × Nat)) : Rs := bnd (one (sk B n (wd B n p)) cs) (fun p1 c1 A W => bif isW B n p1 (prgT 16) then bnd (one (sk B n (wd B n p1)) c1) (fun p2 c2 A2 W2 => .inr (p2, (4, 0) :: c2, A ||| A2, W ||| W2)) else .inl (1, p1))
noncomputable def sayR (one : Nat → List (Nat × Nat) → Rs) (q : Nat) (cs : List (Nat × Nat)) : Rs := bif decide (nuF B n q 0 wn = 0) then bnd (one (sk B n (dg B n q)) cs) (fun p1 c1 A W => .inr (p1, (bif knW wl (nuV B n q) A W then 5 else 6, nuV B n q) :: c1, A, W ||| 2 ^ nuV B n q)) else .inl (nuF B n q 0 wn, q)
noncomputable def atR (p : Nat) (cs : List (Nat × Nat)) : Rs := .inr (sk B n (p + 1), (0, B p - 97) :: cs, 2 ^ (B p - 97), 0)
noncomputable def oneR : Nat → Nat → List (Nat × Nat) → Rs
  | 0 => fun p cs => chR B n N p (atR B n p cs) (.inl (3, p)) (.inl (3, p)) (.inl (3, p)) (.inl (3, p)) (.inl (1, p))
  | k + 1 => fun p cs => chR B n N p (atR B n p cs) (braR B n (anyR B n (oneR k)) p cs) (notR B n (oneR k) p cs) (ifR B n (oneR k) p cs) (sayR B n wn wl (oneR k) (sk B n (wd B n p)) cs) (.inl (1, p))
/-- a whole phrase -/
noncomputable def phrR (p : Nat) : Rs := bnd (anyR B n (oneR B n N wn wl 6) p []) (fun p1 c1 A W => if p1 < n then .inl (1, p1) else .inr (p1, c1, A, W))
end Gram
section Gram2
variable {B : Nat → Nat} {n N wn : Nat} {wl : Nat → Nat}
/-- a code that can stand there -/
def okc (N wn : Nat) (x : Nat × Nat) : Prop := (x.1 = 0 ∧ x.2 < N) ∨ ((x.1 = 1 ∨ x.1 = 2 ∨ x.1 = 3 ∨ x.1 = 4) ∧ x.2 = 0) ∨ ((x.1 = 5 ∨ x.1 = 6) ∧ x.2 < wn)
def dlt (x : Nat × Nat) : Int := if x.1 = 0 then 1 else if x.1 = 1 ∨ x.1 = 5 ∨ x.1 = 6 then 0 else -1
/-- how high the pile is -/
def htL : List (Nat × Nat) → Int
  | [] => 0
  | x :: t => htL t + dlt x
def gdL (N wn : Nat) : List (Nat × Nat) → Prop
  | [] => True
  | x :: t => okc N wn x ∧ 1 ≤ htL (x :: t) ∧ gdL N wn t
theorem gd_nn : ∀ cs, gdL N wn cs → 0 ≤ htL cs
  | [], _ => by decide
  | x :: t, h => by have := h.2.1; omega
/-- what a part that is read shows -/
def GR (B : Nat → Nat) (n N wn : Nat) (p : Nat) (cs : List (Nat × Nat)) (r : Rs) : Prop := match r with
  | .inl (k, q) => 1 ≤ k ∧ k ≤ 3 ∧ q ≤ n
  | .inr (p1, c1, A, W) => p < p1 ∧ p1 ≤ n ∧ blB B n p1 = false ∧ c1.length + p ≤ cs.length + p1 ∧ cs.length < c1.length ∧ A < 16 ∧ W < 64 ∧ (gdL N wn cs → gdL N wn c1 ∧ htL c1 = htL cs + 1)
def GRs (B : Nat → Nat) (n N wn : Nat) (one : Nat → List (Nat × Nat) → Rs) : Prop := ∀ p cs, p ≤ n → blB B n p = false → GR B n N wn p cs (one p cs)
theorem or16 {a b : Nat} (h : a < 16) (h2 : b < 16) : a ||| b < 16 := Nat.or_lt_two_pow (n := 4) h h2
theorem or64 {a b : Nat} (h : a < 64) (h2 : b < 64) : a ||| b < 64 := Nat.or_lt_two_pow (n := 6) h h2
theorem isW_wd {k : Nat} {p : Nat} (h : isW B n p (prgT k) = true) (hk : 2 ≤ (prgT k).length) : smB B n p = true ∧ p + 2 ≤ wd B n p ∧ p < n := by
  unfold isW at h
  rw [Bool.and_eq_true] at h
  have h1 := of_decide_eq_true h.1
  have hs : smB B n p = true := by
    cases q : smB B n p with
    | true => rfl
    | false => rw [wd_eq q] at h1; omega
  exact ⟨hs, by omega, sm_lt hs⟩
theorem sg_lt {p w : Nat} (h : sgB B n p w = true) : p < n ∧ B p = w := by
  unfold sgB at h
  rw [Bool.and_eq_true] at h
  have h1 := of_decide_eq_true h.1
  refine ⟨Nat.lt_of_not_le fun g => ?_, of_decide_eq_true h.2⟩
  unfold kdT at h1
  rw [if_pos g] at h1
  cases h1
theorem GR.or (how k : Nat) (hk : 2 ≤ (prgT k).length) (hh : how = 2 ∨ how = 3) {one : Nat → List (Nat × Nat) → Rs} (ho : GRs B n N wn one) {q : Nat} {bs : List (Nat × Nat)} : ∀ r p cs A W, GR B n N wn q bs (.inr (p, cs, A, W)) → GR B n N wn q bs (lpR B n k how one r p cs A W)
  | 0, p, cs, A, W, h => h
  | r + 1, p, cs, A, W, h => by
    unfold lpR
    cases hi : isW B n p (prgT k) with
    | false => exact h
    | true =>
      rw [cond_true]
      obtain ⟨h1, h2, h3, h4, h5, h6, h7, h8⟩ := h
      obtain ⟨g1, g2, g3⟩ := isW_wd hi hk
      have g4 := wd_le (B := B) (n := n) (p := p) h2
      have g5 := ho (sk B n (wd B n p)) cs (sk_le g4) (sk_bl _)
      have g6 := sk_ge (B := B) (n := n) (wd B n p)
      cases hr : one (sk B n (wd B n p)) cs with
      | inl x =>
        rw [hr] at g5
        exact g5
      | inr x =>
        obtain ⟨p1, c1, A1, W1⟩ := x
        rw [hr] at g5
        obtain ⟨e1, e2, e3, e4, e5, e6, e7, e8⟩ := g5
        refine GR.or how k hk hh ho r p1 _ _ _ ⟨by omega, e2, e3, ?_, ?_, or16 h6 e6, or64 h7 e7, fun hg => ?_⟩
        · rw [List.length_cons]; omega
        · rw [List.length_cons]; omega
        · obtain ⟨u1, u2⟩ := h8 hg
          obtain ⟨v1, v2⟩ := e8 u1
          have nn := gd_nn bs hg
          have ed : dlt (how, 0) = -1 := by rcases hh with rfl | rfl <;> rfl
          have eh : htL ((how, 0) :: c1) = htL bs + 1 := by
            show htL c1 + dlt (how, 0) = _
            rw [ed]; omega
          exact ⟨⟨.inr (.inl ⟨by rcases hh with rfl | rfl <;> simp, rfl⟩), by omega, v1⟩, eh⟩
theorem GRs.all {one : Nat → List (Nat × Nat) → Rs} (ho : GRs B n N wn one) : GRs B n N wn (allR B n one) := fun p cs h1 h2 => by
  have g := ho p cs h1 h2
  unfold allR
  cases hr : one p cs with
  | inl x => rw [hr] at g; exact g
  | inr x =>
    obtain ⟨p1, c1, A1, W1⟩ := x
    rw [hr] at g
    exact GR.or 2 12 (by decide +kernel) (.inl rfl) ho 150 p1 c1 A1 W1 g
theorem GRs.any {one : Nat → List (Nat × Nat) → Rs} (ho : GRs B n N wn one) : GRs B n N wn (anyR B n one) := fun p cs h1 h2 => by
  have g := ho.all p cs h1 h2
  unfold anyR
  cases hr : allR B n one p cs with
  | inl x => rw [hr] at g; exact g
  | inr x =>
    obtain ⟨p1, c1, A1, W1⟩ := x
    rw [hr] at g
    exact GR.or 3 11 (by decide +kernel) (.inr rfl) ho.all 150 p1 c1 A1 W1 g
theorem nuF_n0 {q l h : Nat} : nuF B n q l h = 0 ∨ nuF B n q l h = 1 ∨ nuF B n q l h = 2 := by
  unfold nuF
  split
  · exact .inr (.inl rfl)
  · split
    · exact .inl rfl
    · exact .inr (.inr rfl)
theorem nuF_ok {q l h : Nat} (e : nuF B n q l h = 0) : dgB B n q = true ∧ l ≤ nuV B n q ∧ nuV B n q < h := by
  unfold nuF at e
  by_cases g : kdT B n q ≠ 2
  · rw [if_pos g] at e; cases e
  · rw [if_neg g] at e
    have g2 : kdT B n q = 2 := Classical.not_not.mp g
    by_cases g3 : l ≤ nuV B n q ∧ nuV B n q < h
    · refine ⟨?_, g3⟩
      rw [← kd_2]
      exact decide_eq_true g2
    · rw [if_neg g3] at e; cases e
theorem at_ok {p : Nat} (h : atB B n N p = true) : smB B n p = true ∧ wd B n p = p + 1 ∧ B p - 97 < N := by
  unfold atB at h
  rw [Bool.and_eq_true, Bool.and_eq_true] at h
  exact ⟨h.1, of_decide_eq_true h.2.1, of_decide_eq_true h.2.2⟩
theorem GR.at {p : Nat} {cs : List (Nat × Nat)} (hN : N ≤ 4) (h : atB B n N p = true) : GR B n N wn p cs (atR B n p cs) := by
  obtain ⟨g1, g2, g3⟩ := at_ok h
  have hl := sm_lt g1
  have h1 := sk_ge (B := B) (n := n) (p + 1)
  have hp : 2 ^ (B p - 97) ≤ 2 ^ 3 := Nat.pow_le_pow_right (by decide) (by omega)
  refine ⟨by omega, sk_le (by omega), sk_bl _, ?_, ?_, by omega, by decide, fun hg => ?_⟩
  · rw [List.length_cons]; omega
  · rw [List.length_cons]; omega
  · have nn := gd_nn cs hg
    have eh : htL ((0, B p - 97) :: cs) = htL cs + 1 := rfl
    exact ⟨⟨.inl ⟨rfl, g3⟩, by omega, hg⟩, eh⟩
theorem one_gr (hN : N ≤ 4) (hw : wn ≤ 6) : ∀ k, GRs B n N wn (oneR B n N wn wl k)
  | 0 => fun p cs h1 h2 => by
    unfold oneR chR
    cases ha : atB B n N p with
    | true => exact GR.at hN ha
    | false =>
      rw [cond_false]
      cases sgB B n p 91 <;> cases isW B n p (prgT 13) <;> cases isW B n p (prgT 14) <;> cases isW B n p (prgT 15) <;> exact ⟨by decide, by decide, h1⟩
  | k + 1 => fun p cs h1 h2 => by
    have ih := one_gr hN hw k
    unfold oneR chR
    cases ha : atB B n N p with
    | true => exact GR.at hN ha
    | false =>
      rw [cond_false]
      cases h91 : sgB B n p 91 with
      | true =>
        rw [cond_true]
        obtain ⟨l1, -⟩ := sg_lt h91
        have s1 := sk_ge (B := B) (n := n) (p + 1)
        have g := ih.any (sk B n (p + 1)) cs (sk_le (by omega)) (sk_bl _)
        unfold braR
        cases hr : anyR B n (oneR B n N wn wl k) (sk B n (p + 1)) cs with
        | inl x => rw [hr] at g; exact g
        | inr x =>
          obtain ⟨p1, c1, A1, W1⟩ := x
          rw [hr] at g
          obtain ⟨e1, e2, e3, e4, e5, e6, e7, e8⟩ := g
          show GR B n N wn p cs (bif sgB B n p1 93 then .inr (sk B n (p1 + 1), c1, A1, W1) else .inl (1, p1))
          cases h93 : sgB B n p1 93 with
          | true =>
            obtain ⟨l2, -⟩ := sg_lt h93
            have s2 := sk_ge (B := B) (n := n) (p1 + 1)
            exact ⟨by omega, sk_le (by omega), sk_bl _, by omega, e5, e6, e7, e8⟩
          | false => exact ⟨by decide, by decide, e2⟩
      | false =>
        rw [cond_false]
        cases h13 : isW B n p (prgT 13) with
        | true =>
          rw [cond_true]
          obtain ⟨l0, l1, l2⟩ := isW_wd h13 (by decide +kernel)
          have s1 := sk_ge (B := B) (n := n) (wd B n p)
          have g := ih (sk B n (wd B n p)) cs (sk_le (wd_le h1)) (sk_bl _)
          unfold notR
          cases hr : oneR B n N wn wl k (sk B n (wd B n p)) cs with
          | inl x => rw [hr] at g; exact g
          | inr x =>
            obtain ⟨p1, c1, A1, W1⟩ := x
            rw [hr] at g
            obtain ⟨e1, e2, e3, e4, e5, e6, e7, e8⟩ := g
            refine ⟨by omega, e2, e3, ?_, ?_, e6, e7, fun hg => ?_⟩
            · rw [List.length_cons]; omega
            · rw [List.length_cons]; omega
            · obtain ⟨v1, v2⟩ := e8 hg
              have nn := gd_nn cs hg
              have eh : htL ((1, 0) :: c1) = htL cs + 1 := by
                show htL c1 + 0 = _
                omega
              exact ⟨⟨.inr (.inl ⟨.inl rfl, rfl⟩), by omega, v1⟩, eh⟩
        | false =>
          rw [cond_false]
          cases h14 : isW B n p (prgT 14) with
          | true =>
            rw [cond_true]
            obtain ⟨l0, l1, l2⟩ := isW_wd h14 (by decide +kernel)
            have s1 := sk_ge (B := B) (n := n) (wd B n p)
            have g := ih (sk B n (wd B n p)) cs (sk_le (wd_le h1)) (sk_bl _)
            unfold ifR
            cases hr : oneR B n N wn wl k (sk B n (wd B n p)) cs with
            | inl x => rw [hr] at g; exact g
            | inr x =>
              obtain ⟨p1, c1, A1, W1⟩ := x
              rw [hr] at g
              obtain ⟨e1, e2, e3, e4, e5, e6, e7, e8⟩ := g
              show GR B n N wn p cs (bif isW B n p1 (prgT 16) then bnd (oneR B n N wn wl k (sk B n (wd B n p1)) c1) (fun p2 c2 A2 W2 => .inr (p2, (4, 0) :: c2, A1 ||| A2, W1 ||| W2)) else .inl (1, p1))
              cases h16 : isW B n p1 (prgT 16) with
              | false => exact ⟨by decide, by decide, e2⟩
              | true =>
                rw [cond_true]
                obtain ⟨m0, m1, m2⟩ := isW_wd h16 (by decide +kernel)
                have s2 := sk_ge (B := B) (n := n) (wd B n p1)
                have g2 := ih (sk B n (wd B n p1)) c1 (sk_le (wd_le e2)) (sk_bl _)
                cases hr2 : oneR B n N wn wl k (sk B n (wd B n p1)) c1 with
                | inl x => rw [hr2] at g2; exact g2
                | inr x =>
                  obtain ⟨p2, c2, A2, W2⟩ := x
                  rw [hr2] at g2
                  obtain ⟨f1, f2, f3, f4, f5, f6, f7, f8⟩ := g2
                  refine ⟨by omega, f2, f3, ?_, ?_, or16 e6 f6, or64 e7 f7, fun hg => ?_⟩
                  · rw [List.length_cons]; omega
                  · rw [List.length_cons]; omega
                  · obtain ⟨v1, v2⟩ := e8 hg
                    obtain ⟨w1, w2⟩ := f8 v1
                    have nn := gd_nn cs hg
                    have eh : htL ((4, 0) :: c2) = htL cs + 1 := by
                      show htL c2 + (-1) = _
                      omega
                    exact ⟨⟨.inr (.inl ⟨by simp, rfl⟩), by omega, w1⟩, eh⟩
          | false =>
            rw [cond_false]
            cases h15 : isW B n p (prgT 15) with
            | false => exact ⟨by decide, by decide, h1⟩
            | true =>
              rw [cond_true]
              obtain ⟨l0, l1, l2⟩ := isW_wd h15 (by decide +kernel)
              have s1 := sk_ge (B := B) (n := n) (wd B n p)
              have s3 := sk_le (B := B) (wd_le (B := B) h1)
              unfold sayR
              rcases nuF_n0 (B := B) (n := n) (q := sk B n (wd B n p)) (l := 0) (h := wn) with e0 | e0 | e0
              · obtain ⟨d1, -, d2⟩ := nuF_ok e0
                have s4 := dg_gt d1
                have s5 := sk_ge (B := B) (n := n) (dg B n (sk B n (wd B n p)))
                rw [decide_eq_true e0, cond_true]
                have g := ih (sk B n (dg B n (sk B n (wd B n p)))) cs (sk_le (dg_le s3)) (sk_bl _)
                cases hr : oneR B n N wn wl k (sk B n (dg B n (sk B n (wd B n p)))) cs with
                | inl x => rw [hr] at g; exact g
                | inr x =>
                  obtain ⟨p1, c1, A1, W1⟩ := x
                  rw [hr] at g
                  obtain ⟨e1, e2, e3, e4, e5, e6, e7, e8⟩ := g
                  have hp : 2 ^ nuV B n (sk B n (wd B n p)) ≤ 2 ^ 5 := Nat.pow_le_pow_right (by decide) (by omega)
                  refine ⟨by omega, e2, e3, ?_, ?_, e6, or64 e7 (by omega), fun hg => ?_⟩
                  · rw [List.length_cons]; omega
                  · rw [List.length_cons]; omega
                  · obtain ⟨v1, v2⟩ := e8 hg
                    have nn := gd_nn cs hg
                    have ed : ∀ b : Bool, ∀ w, dlt ((bif b then 5 else 6), w) = 0 := fun b w => by cases b <;> rfl
                    have eh : htL ((bif knW wl (nuV B n (sk B n (wd B n p))) A1 W1 then 5 else 6, nuV B n (sk B n (wd B n p))) :: c1) = htL cs + 1 := by
                      show htL c1 + dlt _ = _
                      rw [ed]; omega
                    refine ⟨⟨.inr (.inr ⟨?_, d2⟩), by omega, v1⟩, eh⟩
                    cases knW wl (nuV B n (sk B n (wd B n p))) A1 W1 <;> simp
              · rw [decide_eq_false (by omega), cond_false, e0]
                exact ⟨by decide, by decide, s3⟩
              · rw [decide_eq_false (by omega), cond_false, e0]
                exact ⟨by decide, by decide, s3⟩
end Gram2
