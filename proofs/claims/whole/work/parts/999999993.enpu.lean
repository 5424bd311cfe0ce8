/-! ASKINGS THAT ARE ENOUGH: rows, pure. -/
section Enpu
/-- each set parted in two; no empty ones -/
def spl (Y : Int64) : List Int64 → List Int64
  | [] => []
  | v :: t => (bif decide (v &&& Y = 0) then [] else [v &&& Y]) ++ ((bif decide (v &&& Y = v) then [] else [v &&& (Y ^^^ (-1))]) ++ spl Y t)
def nzS : List Int64 → List Int64
  | [] => []
  | v :: t => (bif decide (v = 0) then [] else [v]) ++ nzS t
/-- the sets in which the goal isn't known yet -/
def uns (g : Int64) : List Int64 → List Int64
  | [] => []
  | v :: t => (bif stB v g then [] else [v]) ++ uns g t
def alk (g : Int64) : List Int64 → Bool
  | [] => true
  | v :: t => stB v g && alk g t
/-- the first that is something -/
def fsM (f : Nat → Option Nat) : Nat → Nat → Option Nat
  | _, 0 => none
  | e, r + 1 => match f e with
    | some v => some v
    | none => fsM f (e + 1) r
/-- of the rows of so many askings from a well on that are enough, the first, as digits -/
def lxF (td : Nat → Bool) (yy : Nat → Nat → Int64) (g : Int64) : Nat → Nat → List Int64 → Nat → Option Nat
  | 0, _, cl, k => bif decide (k = 0) && alk g cl then some 0 else none
  | r + 1, w, cl, k => match lxF td yy g r (w + 1) cl k with
    | some v => some v
    | none => fsM (fun q => bif td q && decide (1 ≤ k) then (lxF td yy g r (w + 1) (spl (yy w q) cl) (k - 1)).map (fun v => (q + 1) * 10 ^ r + v) else none) 0 6
variable {td : Nat → Bool} {yy : Nat → Nat → Int64} {g l : Int64}
theorem not_and (v Y : Int64) : v &&& ((v &&& Y) ^^^ (-1)) = v &&& (Y ^^^ (-1)) := tb_ext fun s hs => by
  rw [tb_and, tb_and, not_x hs, not_x hs, tb_and]
  cases tb v s <;> cases tb Y s <;> rfl
theorem stB_z : stB 0 g = true := by
  have e : (0 : Int64) &&& g = 0 := tb_ext fun s _ => by rw [tb_and, tb_0]; rfl
  unfold stB
  rw [decide_eq_true e]
  rfl
theorem and_0 {v Y : Int64} : v &&& Y = 0 ↔ ∀ s, s < 64 → (tb v s && tb Y s) = false := by
  constructor
  · intro h s hs
    rw [← tb_and, h, tb_0]
  · intro h
    exact tb_ext fun s hs => by rw [tb_and, tb_0]; exact h s hs
/-- a set in a settled one is settled -/
theorem stB_sub {u v : Int64} (h : ∀ s, s < 64 → tb u s = true → tb v s = true) (hv : stB v g = true) : stB u g = true := by
  unfold stB at hv ⊢
  rw [Bool.or_eq_true, decide_eq_true_eq, decide_eq_true_eq, and_0, and_0] at hv ⊢
  rcases hv with q | q
  · left
    intro s hs
    cases e : tb u s with
    | false => rfl
    | true => have := q s hs; rw [h s hs e] at this; exact this
  · right
    intro s hs
    cases e : tb u s with
    | false => rfl
    | true => have := q s hs; rw [h s hs e] at this; exact this
theorem stB_l {v Y : Int64} (h : stB (v &&& Y) g = false) : stB v g = false := by
  cases e : stB v g with
  | false => rfl
  | true =>
    rw [stB_sub (fun s hs q => by rw [tb_and, Bool.and_eq_true] at q; exact q.1) e] at h
    cases h
theorem mem_spl {Y x : Int64} : ∀ {cl : List Int64}, x ∈ spl Y cl ↔ ∃ v, v ∈ cl ∧ ((x = v &&& Y ∧ ¬ v &&& Y = 0) ∨ (x = v &&& (Y ^^^ (-1)) ∧ ¬ v &&& Y = v))
  | [] => ⟨fun h => absurd h (by unfold spl; exact List.not_mem_nil), fun ⟨v, h, _⟩ => absurd h List.not_mem_nil⟩
  | v :: t => by
    have ih := mem_spl (Y := Y) (x := x) (cl := t)
    unfold spl
    rw [List.mem_append, List.mem_append, ih]
    constructor
    · rintro (h | h | ⟨u, h1, h2⟩)
      · cases e : decide (v &&& Y = 0) with
        | true => rw [e] at h; exact absurd h List.not_mem_nil
        | false =>
          rw [e] at h
          exact ⟨v, List.mem_cons_self, .inl ⟨List.mem_singleton.mp h, of_decide_eq_false e⟩⟩
      · cases e : decide (v &&& Y = v) with
        | true => rw [e] at h; exact absurd h List.not_mem_nil
        | false =>
          rw [e] at h
          exact ⟨v, List.mem_cons_self, .inr ⟨List.mem_singleton.mp h, of_decide_eq_false e⟩⟩
      · exact ⟨u, List.mem_cons_of_mem _ h1, h2⟩
    · rintro ⟨u, h1, h2⟩
      rcases List.mem_cons.mp h1 with e | h3
      · subst e
        rcases h2 with ⟨q1, q2⟩ | ⟨q1, q2⟩
        · left
          rw [decide_eq_false q2]
          exact List.mem_singleton.mpr q1
        · right; left
          rw [decide_eq_false q2]
          exact List.mem_singleton.mpr q1
      · exact .inr (.inr ⟨u, h3, h2⟩)
/-- the unsettled among the parted ones -/
theorem uns_spl {Y x : Int64} {cl : List Int64} (hx : stB x g = false) : x ∈ spl Y cl ↔ ∃ v, v ∈ cl ∧ stB v g = false ∧ (x = v &&& Y ∨ x = v &&& (Y ^^^ (-1))) := by
  rw [mem_spl]
  constructor
  · rintro ⟨v, h1, ⟨h2, -⟩ | ⟨h2, -⟩⟩
    · exact ⟨v, h1, stB_l (h2 ▸ hx), .inl h2⟩
    · exact ⟨v, h1, stB_l (h2 ▸ hx), .inr h2⟩
  · rintro ⟨v, h1, -, h2 | h2⟩
    · refine ⟨v, h1, .inl ⟨h2, fun e => ?_⟩⟩
      rw [h2, e, stB_z] at hx
      cases hx
    · refine ⟨v, h1, .inr ⟨h2, fun e => ?_⟩⟩
      have z : v &&& (Y ^^^ (-1)) = 0 := and_0.mpr fun s hs => by
        have e2 := congrArg (fun y => tb y s) e
        rw [tb_and] at e2
        rw [not_x hs]
        cases h3 : tb v s with
        | false => rfl
        | true => rw [h3] at e2; rw [show tb Y s = true from e2]; rfl
      rw [h2, z, stB_z] at hx
      cases hx
theorem alk_iff : ∀ {cl : List Int64}, alk g cl = true ↔ ∀ v, v ∈ cl → stB v g = true
  | [] => ⟨fun _ v h => absurd h List.not_mem_nil, fun _ => rfl⟩
  | v :: t => by
    have ih := alk_iff (cl := t)
    unfold alk
    rw [Bool.and_eq_true, ih]
    constructor
    · rintro ⟨h1, h2⟩ u hu
      rcases List.mem_cons.mp hu with e | e
      · rw [e]; exact h1
      · exact h2 u e
    · intro h
      exact ⟨h v List.mem_cons_self, fun u hu => h u (List.mem_cons_of_mem _ hu)⟩
theorem fsM_congr {f f2 : Nat → Option Nat} : ∀ r e, (∀ k, e ≤ k → k < e + r → f k = f2 k) → fsM f e r = fsM f2 e r
  | 0, _, _ => rfl
  | r + 1, e, h => by
    unfold fsM
    rw [h e (Nat.le_refl _) (by omega), fsM_congr r (e + 1) (fun k h1 h2 => h k (by omega) (by omega))]
theorem fsM_none {f : Nat → Option Nat} : ∀ {r e}, fsM f e r = none ↔ ∀ k, e ≤ k → k < e + r → f k = none
  | 0, e => ⟨fun _ k h1 h2 => absurd h1 (by omega), fun _ => rfl⟩
  | r + 1, e => by
    have ih := fsM_none (f := f) (r := r) (e := e + 1)
    unfold fsM
    cases h : f e with
    | some v =>
      constructor
      · intro q; cases q
      · intro q; rw [q e (Nat.le_refl _) (by omega)] at h; cases h
    | none =>
      rw [ih]
      constructor
      · intro q k h1 h2
        by_cases e1 : k = e
        · rw [e1]; exact h
        · exact q k (by omega) (by omega)
      · intro q k h1 h2
        exact q k (by omega) (by omega)
/-- what counts is which unsettled sets there are -/
theorem lxF_congr : ∀ r w (cl cl2 : List Int64) k, (∀ v, stB v g = false → (v ∈ cl ↔ v ∈ cl2)) → lxF td yy g r w cl k = lxF td yy g r w cl2 k
  | 0, w, cl, cl2, k, h => by
    have e : alk g cl = alk g cl2 := by
      cases h1 : alk g cl with
      | true =>
        rw [alk_iff] at h1
        symm
        rw [alk_iff]
        intro v hv
        cases q : stB v g with
        | true => rfl
        | false => rw [← h1 v ((h v q).mpr hv)]; exact q.symm
      | false =>
        cases h2 : alk g cl2 with
        | false => rfl
        | true =>
          rw [alk_iff] at h2
          have : alk g cl = true := alk_iff.mpr fun v hv => by
            cases q : stB v g with
            | true => rfl
            | false => rw [← h2 v ((h v q).mp hv)]; exact q.symm
          rw [this] at h1
          cases h1
    unfold lxF
    rw [e]
  | r + 1, w, cl, cl2, k, h => by
    unfold lxF
    rw [lxF_congr r (w + 1) cl cl2 k h]
    cases lxF td yy g r (w + 1) cl2 k with
    | some v => rfl
    | none =>
      refine fsM_congr 6 0 fun q _ _ => ?_
      cases td q && decide (1 ≤ k) with
      | false => rfl
      | true =>
        rw [cond_true, cond_true, lxF_congr r (w + 1) (spl (yy w q) cl) (spl (yy w q) cl2) (k - 1) fun v hv => ?_]
        rw [uns_spl hv, uns_spl hv]
        exact ⟨fun ⟨u, u1, u2, u3⟩ => ⟨u, (h u u2).mp u1, u2, u3⟩, fun ⟨u, u1, u2, u3⟩ => ⟨u, (h u u2).mpr u1, u2, u3⟩⟩
theorem mem_uns {x : Int64} : ∀ {cl : List Int64}, x ∈ uns g cl ↔ x ∈ cl ∧ stB x g = false
  | [] => ⟨fun h => absurd h (by unfold uns; exact List.not_mem_nil), fun h => absurd h.1 List.not_mem_nil⟩
  | v :: t => by
    have ih := mem_uns (x := x) (cl := t)
    unfold uns
    rw [List.mem_append, ih]
    cases e : stB v g with
    | true =>
      constructor
      · rintro (h | h)
        · exact absurd h List.not_mem_nil
        · exact ⟨List.mem_cons_of_mem _ h.1, h.2⟩
      · rintro ⟨h1, h2⟩
        rcases List.mem_cons.mp h1 with q | q
        · rw [q, e] at h2; cases h2
        · exact .inr ⟨q, h2⟩
    | false =>
      constructor
      · rintro (h | h)
        · have := List.mem_singleton.mp h
          rw [this]
          exact ⟨List.mem_cons_self, e⟩
        · exact ⟨List.mem_cons_of_mem _ h.1, h.2⟩
      · rintro ⟨h1, h2⟩
        rcases List.mem_cons.mp h1 with q | q
        · exact .inl (List.mem_singleton.mpr q)
        · exact .inr ⟨q, h2⟩
theorem mem_nz {x : Int64} : ∀ {cl : List Int64}, x ∈ nzS cl ↔ x ∈ cl ∧ ¬ x = 0
  | [] => ⟨fun h => absurd h (by unfold nzS; exact List.not_mem_nil), fun h => absurd h.1 List.not_mem_nil⟩
  | v :: t => by
    have ih := mem_nz (x := x) (cl := t)
    unfold nzS
    rw [List.mem_append, ih]
    cases e : decide (v = 0) with
    | true =>
      rw [decide_eq_true_eq] at e
      constructor
      · rintro (h | h)
        · exact absurd h List.not_mem_nil
        · exact ⟨List.mem_cons_of_mem _ h.1, h.2⟩
      · rintro ⟨h1, h2⟩
        rcases List.mem_cons.mp h1 with q | q
        · exact absurd (q.trans e) h2
        · exact .inr ⟨q, h2⟩
    | false =>
      rw [decide_eq_false_iff_not] at e
      constructor
      · rintro (h | h)
        · have := List.mem_singleton.mp h
          rw [this]
          exact ⟨List.mem_cons_self, e⟩
        · exact ⟨List.mem_cons_of_mem _ h.1, h.2⟩
      · rintro ⟨h1, h2⟩
        rcases List.mem_cons.mp h1 with q | q
        · exact .inl (List.mem_singleton.mpr q)
        · exact .inr ⟨q, h2⟩
theorem lxF_nz {r w k : Nat} {cl : List Int64} : lxF td yy g r w (nzS cl) k = lxF td yy g r w cl k := lxF_congr r w _ _ k fun v hv => by
  rw [mem_nz]
  exact ⟨fun h => h.1, fun h => ⟨h, fun e => by rw [e, stB_z] at hv; cases hv⟩⟩
theorem and_nn {v Y : Int64} (h : v &&& (Y ^^^ (-1)) = 0) : v &&& Y = v := tb_ext fun s hs => by
  have := and_0.mp h s hs
  rw [not_x hs] at this
  rw [tb_and]
  cases q : tb v s with
  | false => rfl
  | true => rw [q] at this; cases q2 : tb Y s with
    | true => rfl
    | false => rw [q2] at this; cases this
theorem and_n0 {v Y : Int64} (h : v &&& Y = 0) : v &&& (Y ^^^ (-1)) = v := tb_ext fun s hs => by
  have := and_0.mp h s hs
  rw [tb_and, not_x hs]
  cases q : tb v s with
  | false => rfl
  | true => rw [q] at this; cases q2 : tb Y s with
    | false => rfl
    | true => rw [q2] at this; cases this
/-- an asking that parts no unsettled set changes nothing -/
theorem lxF_np {r w k : Nat} {cl : List Int64} {Y : Int64} (h : ∀ v, v ∈ cl → stB v g = false → v &&& Y = 0 ∨ v &&& (Y ^^^ (-1)) = 0) : lxF td yy g r w (spl Y cl) k = lxF td yy g r w cl k := lxF_congr r w _ _ k fun x hx => by
  rw [uns_spl hx]
  constructor
  · rintro ⟨v, h1, h2, h3⟩
    rcases h v h1 h2 with q | q
    · rcases h3 with e | e
      · rw [e, q, stB_z] at hx; cases hx
      · rw [e, and_n0 q]; exact h1
    · rcases h3 with e | e
      · rw [e, and_nn q]; exact h1
      · rw [e, q, stB_z] at hx; cases hx
  · intro h1
    rcases h x h1 hx with q | q
    · exact ⟨x, h1, hx, .inr (and_n0 q).symm⟩
    · exact ⟨x, h1, hx, .inl (and_nn q).symm⟩
/-- two askings that part alike -/
theorem lxF_al {r w k : Nat} {cl : List Int64} {Y Z : Int64} (hl : ∀ v, v ∈ cl → v &&& l = v) (h : (Y &&& l) ^^^ (Z &&& l) = 0 ∨ (Y &&& l) ^^^ (Z &&& l) = l) : lxF td yy g r w (spl Y cl) k = lxF td yy g r w (spl Z cl) k := lxF_congr r w _ _ k fun x hx => by
  rw [uns_spl hx, uns_spl hx]
  have key : ∀ v, v ∈ cl → (v &&& Y = v &&& Z ∧ v &&& (Y ^^^ (-1)) = v &&& (Z ^^^ (-1))) ∨ (v &&& Y = v &&& (Z ^^^ (-1)) ∧ v &&& (Y ^^^ (-1)) = v &&& Z) := fun v hv => by
    have hb : ∀ s, s < 64 → tb v s = true → tb l s = true := fun s hs q => by
      have := congrArg (fun y => tb y s) (hl v hv)
      rw [tb_and, q] at this
      exact this
    rcases h with e | e
    · left
      have e2 : ∀ s, s < 64 → tb v s = true → tb Y s = tb Z s := fun s hs q => by
        have := congrArg (fun y => tb y s) e
        rw [tb_xor, tb_and, tb_and, tb_0, hb s hs q] at this
        revert this
        cases tb Y s <;> cases tb Z s <;> decide
      constructor
      · exact tb_ext fun s hs => by
          rw [tb_and, tb_and]
          cases q : tb v s with
          | false => rfl
          | true => rw [e2 s hs q]
      · exact tb_ext fun s hs => by
          rw [tb_and, tb_and, not_x hs, not_x hs]
          cases q : tb v s with
          | false => rfl
          | true => rw [e2 s hs q]
    · right
      have e2 : ∀ s, s < 64 → tb v s = true → tb Y s = !tb Z s := fun s hs q => by
        have := congrArg (fun y => tb y s) e
        rw [tb_xor, tb_and, tb_and, hb s hs q] at this
        revert this
        cases tb Y s <;> cases tb Z s <;> decide
      constructor
      · exact tb_ext fun s hs => by
          rw [tb_and, tb_and, not_x hs]
          cases q : tb v s with
          | false => rfl
          | true => rw [e2 s hs q]
      · exact tb_ext fun s hs => by
          rw [tb_and, tb_and, not_x hs]
          cases q : tb v s with
          | false => rfl
          | true => rw [e2 s hs q, Bool.not_not]
  constructor
  · rintro ⟨v, h1, h2, h3⟩
    rcases key v h1 with ⟨k1, k2⟩ | ⟨k1, k2⟩
    · rw [k1, k2] at h3; exact ⟨v, h1, h2, h3⟩
    · rw [k1, k2] at h3; exact ⟨v, h1, h2, h3.symm⟩
  · rintro ⟨v, h1, h2, h3⟩
    rcases key v h1 with ⟨k1, k2⟩ | ⟨k1, k2⟩
    · rw [← k1, ← k2] at h3; exact ⟨v, h1, h2, h3⟩
    · rw [← k1, ← k2] at h3; exact ⟨v, h1, h2, h3.symm⟩
theorem lxF_big : ∀ r w (cl : List Int64) k, r < k → lxF td yy g r w cl k = none
  | 0, w, cl, k, h => by
    unfold lxF
    rw [decide_eq_false (by omega)]
    rfl
  | r + 1, w, cl, k, h => by
    unfold lxF
    rw [lxF_big r (w + 1) cl k (by omega)]
    refine fsM_none.mpr fun q _ _ => ?_
    rw [lxF_big r (w + 1) _ (k - 1) (by omega)]
    cases td q && decide (1 ≤ k) <;> rfl
theorem lxF_0 : ∀ r w (cl : List Int64), lxF td yy g r w cl 0 = bif alk g cl then some 0 else none
  | 0, w, cl => by
    unfold lxF
    rfl
  | r + 1, w, cl => by
    unfold lxF
    rw [lxF_0 r (w + 1) cl]
    cases alk g cl with
    | true => rfl
    | false =>
      refine fsM_none.mpr fun q _ _ => ?_
      rw [decide_eq_false (show ¬ 1 ≤ 0 by decide), Bool.and_false]
      rfl
theorem lxF_dn {r w k : Nat} {cl : List Int64} (h : lxF td yy g (r + 1) w cl k = none) : lxF td yy g r (w + 1) cl k = none := by
  unfold lxF at h
  cases q : lxF td yy g r (w + 1) cl k with
  | none => rfl
  | some v => rw [q] at h; cases h
theorem lxF_up {r w k v : Nat} {cl : List Int64} (h : lxF td yy g r (w + 1) cl k = some v) : lxF td yy g (r + 1) w cl k = some v := by
  unfold lxF
  rw [h]
theorem lxF_q {r w k q : Nat} {cl : List Int64} (hq : q < 6) (ht : td q = true) (h : lxF td yy g (r + 1) w cl (k + 1) = none) : lxF td yy g r (w + 1) (spl (yy w q) cl) k = none := by
  have h1 := lxF_dn h
  unfold lxF at h
  rw [h1] at h
  have h2 := fsM_none.mp h q (Nat.zero_le _) (by omega)
  rw [ht, decide_eq_true (show 1 ≤ k + 1 by omega), Bool.and_self, cond_true, Nat.add_sub_cancel] at h2
  cases e : lxF td yy g r (w + 1) (spl (yy w q) cl) k with
  | none => rfl
  | some v => rw [e] at h2; cases h2
theorem lxF_nq {r w k : Nat} {cl : List Int64} (h0 : lxF td yy g r (w + 1) cl (k + 1) = none) (h : ∀ q, q < 6 → td q = true → lxF td yy g r (w + 1) (spl (yy w q) cl) k = none) : lxF td yy g (r + 1) w cl (k + 1) = none := by
  unfold lxF
  rw [h0]
  refine fsM_none.mpr fun q _ hq => ?_
  cases e : td q with
  | false => rfl
  | true =>
    rw [decide_eq_true (show 1 ≤ k + 1 by omega), Bool.and_self, cond_true, Nat.add_sub_cancel, h q (by omega) e]
    rfl
theorem fsM_at {f : Nat → Option Nat} {v q : Nat} : ∀ r e, e ≤ q → q < e + r → (∀ j, e ≤ j → j < q → f j = none) → f q = some v → fsM f e r = some v
  | 0, e, h1, h2, _, _ => by omega
  | r + 1, e, h1, h2, h3, h4 => by
    unfold fsM
    by_cases e1 : q = e
    · subst e1
      rw [h4]
    · rw [h3 e (Nat.le_refl _) (by omega)]
      exact fsM_at r (e + 1) (by omega) (by omega) (fun j j1 j2 => h3 j (by omega) j2) h4
theorem lxF_sq {r w k q v : Nat} {cl : List Int64} (h0 : lxF td yy g r (w + 1) cl (k + 1) = none) (hq : q < 6) (ht : td q = true) (h : ∀ j, j < q → td j = true → lxF td yy g r (w + 1) (spl (yy w j) cl) k = none) (hv : lxF td yy g r (w + 1) (spl (yy w q) cl) k = some v) : lxF td yy g (r + 1) w cl (k + 1) = some ((q + 1) * 10 ^ r + v) := by
  unfold lxF
  rw [h0]
  refine fsM_at 6 0 (Nat.zero_le _) (by omega) (fun j _ hj => ?_) ?_
  · cases e : td j with
    | false => rfl
    | true =>
      rw [decide_eq_true (show 1 ≤ k + 1 by omega), Bool.and_self, cond_true, Nat.add_sub_cancel, h j hj e]
      rfl
  · rw [ht, decide_eq_true (show 1 ≤ k + 1 by omega), Bool.and_self, cond_true, Nat.add_sub_cancel, hv]
    rfl
/-- two states that no asking tells apart: no row is enough -/
theorem lxF_bad {s u : Nat} (hs : s < 64) (hu : u < 64) (hg : tb g s ≠ tb g u) : ∀ r w (cl : List Int64) k, (∀ v q, w ≤ v → v < w + r → q < 6 → td q = true → tb (yy v q) s = tb (yy v q) u) → (∃ v, v ∈ cl ∧ tb v s = true ∧ tb v u = true) → lxF td yy g r w cl k = none
  | 0, w, cl, k, _, ⟨v, h1, h2, h3⟩ => by
    have e : alk g cl = false := by
      cases q : alk g cl with
      | false => rfl
      | true =>
        have := alk_iff.mp q v h1
        unfold stB at this
        rw [Bool.or_eq_true, decide_eq_true_eq, decide_eq_true_eq, and_0, and_0] at this
        exfalso
        rcases this with z | z
        · have z1 := z s hs
          have z2 := z u hu
          rw [h2] at z1
          rw [h3] at z2
          exact hg (z1.trans z2.symm)
        · have z1 := z s hs
          have z2 := z u hu
          rw [h2, not_x hs] at z1
          rw [h3, not_x hu] at z2
          have : (!tb g s) = !tb g u := z1.trans z2.symm
          exact hg (by rw [← Bool.not_not (tb g s), this, Bool.not_not])
    unfold lxF
    rw [e, Bool.and_false]
    rfl
  | r + 1, w, cl, k, hY, ⟨v, h1, h2, h3⟩ => by
    cases k with
    | zero =>
      have := lxF_bad hs hu hg r (w + 1) cl 0 (fun x q a b => hY x q (by omega) (by omega)) ⟨v, h1, h2, h3⟩
      rw [lxF_0] at this ⊢
      exact this
    | succ k =>
      refine lxF_nq (lxF_bad hs hu hg r (w + 1) cl (k + 1) (fun x q a b => hY x q (by omega) (by omega)) ⟨v, h1, h2, h3⟩) fun q hq ht => ?_
      refine lxF_bad hs hu hg r (w + 1) _ k (fun x q a b => hY x q (by omega) (by omega)) ?_
      have e := hY w q (Nat.le_refl _) (by omega) hq ht
      cases hy : tb (yy w q) s with
      | true =>
        refine ⟨v &&& yy w q, mem_spl.mpr ⟨v, h1, .inl ⟨rfl, fun z => ?_⟩⟩, by rw [tb_and, h2, hy]; rfl, by rw [tb_and, h3, ← e, hy]; rfl⟩
        have := and_0.mp z s hs
        rw [h2, hy] at this
        cases this
      | false =>
        refine ⟨v &&& (yy w q ^^^ (-1)), mem_spl.mpr ⟨v, h1, .inr ⟨rfl, fun z => ?_⟩⟩, by rw [tb_and, h2, not_x hs, hy]; rfl, by rw [tb_and, h3, not_x hu, ← e, hy]; rfl⟩
        have := congrArg (fun y => tb y s) z
        rw [tb_and, h2, hy] at this
        cases this
/-- how many in all -/
def cnB (f : Nat → Bool) : Nat → Nat
  | 0 => 0
  | m + 1 => cnB f m + (bif f m then 1 else 0)
theorem cnB_le (f : Nat → Bool) : ∀ m, cnB f m ≤ m
  | 0 => Nat.le_refl _
  | m + 1 => by
    have := cnB_le f m
    show cnB f m + (bif f m then 1 else 0) ≤ m + 1
    cases f m <;> (show _ ≤ _; simp only [cond_true, cond_false]; omega)
theorem cnB_add {f f1 f2 : Nat → Bool} : ∀ m, (∀ s, s < m → (f1 s && f2 s) = false ∧ (f1 s || f2 s) = f s) → cnB f1 m + cnB f2 m = cnB f m
  | 0, _ => rfl
  | m + 1, h => by
    have ih := cnB_add m (fun s hs => h s (by omega))
    obtain ⟨h1, h2⟩ := h m (by omega)
    show (cnB f1 m + (bif f1 m then 1 else 0)) + (cnB f2 m + (bif f2 m then 1 else 0)) = cnB f m + (bif f m then 1 else 0)
    rw [← h2]
    revert h1
    cases f1 m <;> cases f2 m <;> intro h1 <;> simp only [Bool.or_false, Bool.or_true, cond_true, cond_false] <;> first | omega | (cases h1)
theorem cnB_1 {f : Nat → Bool} {s : Nat} : ∀ m, s < m → f s = true → 1 ≤ cnB f m
  | 0, h, _ => by omega
  | m + 1, h, hf => by
    show 1 ≤ cnB f m + (bif f m then 1 else 0)
    by_cases e : s = m
    · subst e
      rw [hf, cond_true]
      omega
    · have := cnB_1 (f := f) m (by omega) hf
      omega
def wtS (v : Int64) : Nat := cnB (tb v) 64
theorem wtS_add (v Y : Int64) : wtS (v &&& Y) + wtS (v &&& (Y ^^^ (-1))) = wtS v := cnB_add 64 fun s hs => by
  rw [tb_and, tb_and, not_x hs]
  cases tb v s <;> cases tb Y s <;> exact ⟨rfl, rfl⟩
theorem wtS_1 {v : Int64} (h : ¬ v = 0) : 1 ≤ wtS v := by
  by_cases e : ∃ s, s < 64 ∧ tb v s = true
  · obtain ⟨s, h1, h2⟩ := e
    exact cnB_1 64 h1 h2
  · refine absurd (tb_ext fun s hs => ?_) h
    rw [tb_0]
    cases q : tb v s with
    | false => rfl
    | true => exact absurd ⟨s, hs, q⟩ e
theorem wtS_0 : wtS 0 = 0 := by
  have h : ∀ m, cnB (tb 0) m = 0 := fun m => by
    induction m with
    | zero => rfl
    | succ m ih =>
      show cnB (tb 0) m + (bif tb 0 m then 1 else 0) = 0
      rw [ih, tb_0]
      rfl
  exact h 64
theorem wtS_2 {v : Int64} (h : stB v g = false) : 2 ≤ wtS v := by
  unfold stB at h
  rw [Bool.or_eq_false_iff, decide_eq_false_iff_not, decide_eq_false_iff_not] at h
  have := wtS_add v g
  have := wtS_1 h.1
  have := wtS_1 h.2
  omega
def wtL : List Int64 → Nat
  | [] => 0
  | v :: t => wtS v + wtL t
theorem wtL_app : ∀ a b, wtL (a ++ b) = wtL a + wtL b
  | [], b => (Nat.zero_add _).symm
  | v :: t, b => by
    show wtS v + wtL (t ++ b) = wtS v + wtL t + wtL b
    rw [wtL_app t b, Nat.add_assoc]
theorem wtL_spl (Y : Int64) : ∀ cl, wtL (spl Y cl) = wtL cl
  | [] => rfl
  | v :: t => by
    have ih := wtL_spl Y t
    have e := wtS_add v Y
    unfold spl
    rw [wtL_app, wtL_app, ih]
    show _ = wtS v + wtL t
    have e1 : wtL (bif decide (v &&& Y = 0) then [] else [v &&& Y]) = wtS (v &&& Y) := by
      by_cases q : v &&& Y = 0
      · rw [decide_eq_true q, q, wtS_0]; rfl
      · rw [decide_eq_false q]; rfl
    have e2 : wtL (bif decide (v &&& Y = v) then [] else [v &&& (Y ^^^ (-1))]) = wtS (v &&& (Y ^^^ (-1))) := by
      by_cases q : v &&& Y = v
      · rw [q] at e
        rw [decide_eq_true q]
        show 0 = _
        omega
      · rw [decide_eq_false q]; rfl
    omega
theorem wtL_nz : ∀ cl, wtL (nzS cl) = wtL cl
  | [] => rfl
  | v :: t => by
    have ih := wtL_nz t
    unfold nzS
    rw [wtL_app, ih]
    by_cases q : v = 0
    · rw [decide_eq_true q, q]
      show 0 + _ = wtS 0 + _
      rw [wtS_0]
    · rw [decide_eq_false q]; rfl
theorem len_wt : ∀ cl : List Int64, (∀ v, v ∈ cl → ¬ v = 0) → cl.length ≤ wtL cl
  | [], _ => Nat.le_refl _
  | v :: t, h => by
    have ih := len_wt t (fun u hu => h u (List.mem_cons_of_mem _ hu))
    have := wtS_1 (h v List.mem_cons_self)
    show t.length + 1 ≤ wtS v + wtL t
    omega
theorem len_wt2 : ∀ cl : List Int64, (∀ v, v ∈ cl → stB v g = false) → 2 * cl.length ≤ wtL cl
  | [], _ => Nat.le_refl _
  | v :: t, h => by
    have ih := len_wt2 t (fun u hu => h u (List.mem_cons_of_mem _ hu))
    have := wtS_2 (h v List.mem_cons_self)
    show 2 * (t.length + 1) ≤ wtS v + wtL t
    omega
theorem wtL_uns : ∀ cl, wtL (uns g cl) ≤ wtL cl
  | [] => Nat.le_refl _
  | v :: t => by
    have ih := wtL_uns t
    unfold uns
    rw [wtL_app]
    show _ ≤ wtS v + wtL t
    cases stB v g with
    | true => show 0 + _ ≤ _; omega
    | false => show (wtS v + 0) + _ ≤ _; omega
theorem spl_nz {Y x : Int64} {cl : List Int64} (h : x ∈ spl Y cl) : ¬ x = 0 := by
  obtain ⟨v, h1, ⟨h2, h3⟩ | ⟨h2, h3⟩⟩ := mem_spl.mp h
  · rw [h2]; exact h3
  · rw [h2]
    exact fun e => h3 (and_nn e)
theorem spl_sub {Y x : Int64} {cl : List Int64} (hl : ∀ v, v ∈ cl → v &&& l = v) (h : x ∈ spl Y cl) : x &&& l = x := by
  have key : ∀ v Z, v ∈ cl → (v &&& Z) &&& l = v &&& Z := fun v Z hv => tb_ext fun s hs => by
    have e := congrArg (fun y => tb y s) (hl v hv)
    rw [tb_and] at e
    rw [tb_and, tb_and]
    revert e
    cases tb v s <;> cases tb Z s <;> cases tb l s <;> decide
  obtain ⟨v, h1, ⟨h2, -⟩ | ⟨h2, -⟩⟩ := mem_spl.mp h
  · rw [h2]; exact key v _ h1
  · rw [h2]; exact key v _ h1
theorem uns_app : ∀ a b, uns g (a ++ b) = uns g a ++ uns g b
  | [], b => rfl
  | v :: t, b => by
    show (bif stB v g then [] else [v]) ++ uns g (t ++ b) = ((bif stB v g then [] else [v]) ++ uns g t) ++ uns g b
    rw [uns_app t b, List.append_assoc]
theorem spl_app (Y : Int64) : ∀ a b, spl Y (a ++ b) = spl Y a ++ spl Y b
  | [], b => rfl
  | v :: t, b => by
    show (bif decide (v &&& Y = 0) then [] else [v &&& Y]) ++ ((bif decide (v &&& Y = v) then [] else [v &&& (Y ^^^ (-1))]) ++ spl Y (t ++ b)) = ((bif decide (v &&& Y = 0) then [] else [v &&& Y]) ++ ((bif decide (v &&& Y = v) then [] else [v &&& (Y ^^^ (-1))]) ++ spl Y t)) ++ spl Y b
    rw [spl_app Y t b, List.append_assoc, List.append_assoc]
theorem nz_app : ∀ a b, nzS (a ++ b) = nzS a ++ nzS b
  | [], b => rfl
  | v :: t, b => by
    show (bif decide (v = 0) then [] else [v]) ++ nzS (t ++ b) = ((bif decide (v = 0) then [] else [v]) ++ nzS t) ++ nzS b
    rw [nz_app t b, List.append_assoc]
/-- a list lies before one -/
def hfL (F : Nat → Int64) : Nat → List Int64 → Prop
  | _, [] => True
  | i, v :: t => F i = v ∧ hfL F (i + 1) t
theorem hfL_app {F : Nat → Int64} : ∀ a b i, hfL F i (a ++ b) ↔ hfL F i a ∧ hfL F (i + a.length) b
  | [], b, i => ⟨fun h => ⟨trivial, h⟩, fun h => h.2⟩
  | v :: t, b, i => by
    show (F i = v ∧ hfL F (i + 1) (t ++ b)) ↔ (F i = v ∧ hfL F (i + 1) t) ∧ hfL F (i + (t.length + 1)) b
    rw [hfL_app t b (i + 1), show i + (t.length + 1) = i + 1 + t.length by omega]
    exact ⟨fun h => ⟨⟨h.1, h.2.1⟩, h.2.2⟩, fun h => ⟨h.1.1, h.1.2, h.2⟩⟩
theorem hfL_congr {F G : Nat → Int64} : ∀ a i, (∀ j, i ≤ j → j < i + a.length → G j = F j) → hfL F i a → hfL G i a
  | [], _, _, _ => trivial
  | v :: t, i, h, hf => ⟨(h i (Nat.le_refl _) (by rw [List.length_cons]; omega)).trans hf.1, hfL_congr t (i + 1) (fun j j1 j2 => h j (by omega) (by rw [List.length_cons]; omega)) hf.2⟩
end Enpu
