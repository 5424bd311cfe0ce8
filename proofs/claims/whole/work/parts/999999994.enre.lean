/-! ASKINGS THAT ARE ENOUGH: the reference's search. -/
section Enre
/-- the least at which there is something, with it -/
def MiO (f : Nat → Option Nat) (o : Option (Nat × Nat)) : Prop := match o with
  | none => ∀ k, f k = none
  | some (k, v) => f k = some v ∧ ∀ j, j < k → f j = none
def upB (b o : Option (Nat × Nat)) : Option (Nat × Nat) := match o, b with
  | none, b => b
  | some x, none => some x
  | some x, some y => bif decide (y.1 ≤ x.1) then some y else some x
def shO (a p : Nat) (o : Option (Nat × Nat)) : Option (Nat × Nat) := match o with
  | none => none
  | some x => some (a + x.1, p + x.2)
def fOr (f1 f2 : Nat → Option Nat) (k : Nat) : Option Nat := match f1 k with
  | some v => some v
  | none => f2 k
theorem MiO.ex (f : Nat → Option Nat) : ∃ o, MiO f o := by
  by_cases h : ∃ k, f k ≠ none
  · obtain ⟨k, hk⟩ := h
    have A : ∀ m, (∃ j, j < m ∧ f j ≠ none) → ∃ o, MiO f o := fun m => by
      induction m with
      | zero => exact fun ⟨j, h1, _⟩ => absurd h1 (Nat.not_lt_zero j)
      | succ m ih =>
        intro ⟨j, h1, h2⟩
        by_cases e : ∃ j, j < m ∧ f j ≠ none
        · exact ih e
        · have e1 : j = m := by
            rcases Nat.lt_or_ge j m with q | q
            · exact absurd ⟨j, q, h2⟩ e
            · omega
          subst e1
          cases hv : f j with
          | none => exact absurd hv h2
          | some v =>
            refine ⟨some (j, v), hv, fun i hi => ?_⟩
            cases hi2 : f i with
            | none => rfl
            | some u => exact absurd ⟨i, hi, by rw [hi2]; intro q; cases q⟩ e
    exact A (k + 1) ⟨k, Nat.lt_succ_self k, hk⟩
  · refine ⟨none, fun k => ?_⟩
    cases q : f k with
    | none => rfl
    | some v => exact absurd ⟨k, by rw [q]; intro z; cases z⟩ h
theorem MiO.or {f1 f2 : Nat → Option Nat} {o1 o2 : Option (Nat × Nat)} (h1 : MiO f1 o1) (h2 : MiO f2 o2) : MiO (fOr f1 f2) (upB o1 o2) := by
  cases o1 with
  | none =>
    cases o2 with
    | none =>
      intro k
      unfold fOr
      rw [h1 k]
      exact h2 k
    | some x =>
      obtain ⟨k, v⟩ := x
      refine ⟨?_, fun j hj => ?_⟩
      · unfold fOr
        rw [h1 k]
        exact h2.1
      · unfold fOr
        rw [h1 j]
        exact h2.2 j hj
  | some y =>
    obtain ⟨k1, v1⟩ := y
    cases o2 with
    | none =>
      refine ⟨?_, fun j hj => ?_⟩
      · unfold fOr
        rw [h1.1]
      · unfold fOr
        rw [h1.2 j hj]
        exact h2 j
    | some x =>
      obtain ⟨k2, v2⟩ := x
      by_cases e : k1 ≤ k2
      · have : upB (some (k1, v1)) (some (k2, v2)) = some (k1, v1) := by
          show (bif decide (k1 ≤ k2) then _ else _) = _
          rw [decide_eq_true e]
          rfl
        rw [this]
        refine ⟨?_, fun j hj => ?_⟩
        · unfold fOr
          rw [h1.1]
        · unfold fOr
          rw [h1.2 j hj]
          exact h2.2 j (by omega)
      · have : upB (some (k1, v1)) (some (k2, v2)) = some (k2, v2) := by
          show (bif decide (k1 ≤ k2) then _ else _) = _
          rw [decide_eq_false e]
          rfl
        rw [this]
        refine ⟨?_, fun j hj => ?_⟩
        · unfold fOr
          rw [h1.2 k2 (by omega)]
          exact h2.1
        · unfold fOr
          rw [h1.2 j (by omega)]
          exact h2.2 j hj
theorem upB_n (o : Option (Nat × Nat)) : upB none o = o := by
  cases o <;> rfl
theorem upB_as (b o1 o2 : Option (Nat × Nat)) : upB (upB b o1) o2 = upB b (upB o1 o2) := by
  cases o2 with
  | none => rfl
  | some z =>
    cases o1 with
    | none => rfl
    | some y =>
      cases b with
      | none =>
        exact (upB_n _).symm
      | some x =>
        show upB (bif decide (x.1 ≤ y.1) then some x else some y) (some z) = upB (some x) (bif decide (y.1 ≤ z.1) then some y else some z)
        by_cases e1 : x.1 ≤ y.1
        · rw [decide_eq_true e1, cond_true]
          by_cases e2 : y.1 ≤ z.1
          · rw [decide_eq_true e2, cond_true]
            show (bif decide (x.1 ≤ z.1) then _ else _) = (bif decide (x.1 ≤ y.1) then _ else _)
            rw [decide_eq_true e1, decide_eq_true (Nat.le_trans e1 e2)]
            rfl
          · rw [decide_eq_false e2, cond_false]
        · rw [decide_eq_false e1, cond_false]
          by_cases e2 : y.1 ≤ z.1
          · rw [decide_eq_true e2, cond_true]
            show (bif decide (y.1 ≤ z.1) then _ else _) = (bif decide (x.1 ≤ y.1) then _ else _)
            rw [decide_eq_true e2, decide_eq_false e1]
            rfl
          · rw [decide_eq_false e2, cond_false]
            show (bif decide (y.1 ≤ z.1) then _ else _) = (bif decide (x.1 ≤ z.1) then _ else _)
            rw [decide_eq_false e2, decide_eq_false (by omega)]
            rfl
theorem shO_up (a p : Nat) (o1 o2 : Option (Nat × Nat)) : shO a p (upB o1 o2) = upB (shO a p o1) (shO a p o2) := by
  cases o2 with
  | none => rfl
  | some z =>
    cases o1 with
    | none => rfl
    | some y =>
      show shO a p (bif decide (y.1 ≤ z.1) then some y else some z) = bif decide (a + y.1 ≤ a + z.1) then some (a + y.1, p + y.2) else some (a + z.1, p + z.2)
      rw [show decide (a + y.1 ≤ a + z.1) = decide (y.1 ≤ z.1) from decide_eq_decide.mpr (by omega)]
      cases decide (y.1 ≤ z.1) <;> rfl
/-- what an asking more costs -/
def csO (p : Nat) (o : Option (Nat × Nat)) : Option (Nat × Nat) := match o with
  | none => none
  | some x => some (x.1 + 1, p + x.2)
theorem MiO.cs {f : Nat → Option Nat} {o : Option (Nat × Nat)} (p : Nat) (h : MiO f o) : MiO (fun k => bif true && decide (1 ≤ k) then (f (k - 1)).map (fun v => p + v) else none) (csO p o) := by
  cases o with
  | none =>
    intro k
    show (bif true && decide (1 ≤ k) then (f (k - 1)).map (fun v => p + v) else none) = none
    rw [h (k - 1)]
    cases true && decide (1 ≤ k) <;> rfl
  | some x =>
    obtain ⟨k, v⟩ := x
    refine ⟨?_, fun j hj => ?_⟩
    · show (bif true && decide (1 ≤ k + 1) then (f (k + 1 - 1)).map (fun v => p + v) else none) = _
      rw [decide_eq_true (by omega), Nat.add_sub_cancel, h.1]
      rfl
    · have hj2 : j < k + 1 := hj
      show (bif true && decide (1 ≤ j) then (f (j - 1)).map (fun v => p + v) else none) = none
      by_cases e : 1 ≤ j
      · rw [h.2 (j - 1) (by omega)]
        cases true && decide (1 ≤ j) <;> rfl
      · rw [decide_eq_false e]
        rfl
theorem shO_cs (a p x : Nat) (o : Option (Nat × Nat)) : shO (a + 1) (p + x) o = shO a p (csO x o) := by
  cases o with
  | none => rfl
  | some y => exact congrArg some (Prod.ext (by show a + 1 + y.1 = a + (y.1 + 1); omega) (by show p + x + y.2 = p + (x + y.2); omega))
/-- the best so far -/
def BeR (J : FI) (b : Option (Nat × Nat)) : Prop := match b with
  | none => J 186 0 36 = -1
  | some x => J 186 0 36 = nI x.1 ∧ J 186 0 37 = nI x.2 ∧ x.1 ≤ 6
variable {td : Nat → Bool} {yy : Nat → Nat → Int64} {g : Int64} {n f w q W : Nat} {I J : FI} {L K : FL} {P : FR} {E : FE} {c s : Nat}
/-- all are settled, or not -/
theorem al_286 {N : Nat} (hw : w < 7) (hg : K 186 0 38 = g) (hN : J 330 0 w = nI N) (h64 : N ≤ 64) : ∀ (suf : List Int64) i, i + suf.length = N → hfL (fun j => K 322 (w + 1) j) i suf → V PR f 286 2 [(0, vR (some (186, 0))), (1, vi (nI w)), (2, vi (nI i))] [] (mm n J K P E c s) = some (.inl (some (vi (b2i (alk g suf)))), mm n J K P E c s)
  | [], i, e, h => by
    rw [List.length_nil] at e
    rw [k_X12_areAlike_2, inb_nI hw (by decide), cond_true, nI_clamp (show w < 2 ^ 31 by omega), hN, nI_led (by omega) (by omega), decide_eq_true (by omega), cond_true]
    rfl
  | v :: t, i, e, h => by
    rw [List.length_cons] at e
    have A : arrOk (mm n J K P E c s) 322 (w + 1) 3 (nI i) = true := by rw [aro_322, blt_t hw, inb_nI (show i < 64 by omega) (by decide)]; rfl
    have ev : K 322 (w + 1) i = v := h.1
    have ih := al_286 hw hg hN h64 t (i + 1) (by omega) h.2
    rw [k_X12_areAlike_2, inb_nI hw (by decide), cond_true, nI_clamp (show w < 2 ^ 31 by omega), hN, nI_led (by omega) (by omega), decide_eq_false (by omega), cond_false, cond_true, A, cond_true, nI_clamp (show i < 2 ^ 31 by omega), ev, hg, lgc0, lgc0, nI_1, cond_true, cond_true]
    show _ = some (Sum.inl (some (vi (b2i (stB v g && alk g t)))), mm n J K P E c s)
    unfold stB
    cases decide (v &&& g = 0) with
    | true =>
      rw [cond_true, Bool.true_or, Bool.true_and]
      exact ih
    | false =>
      rw [cond_false, Bool.false_or]
      cases decide (v &&& (g ^^^ (-1)) = 0) with
      | true =>
        rw [cond_true, Bool.true_and]
        exact ih
      | false => rfl
theorem len_spl (Y : Int64) {cl : List Int64} (h : wtL cl ≤ 64) : (spl Y cl).length ≤ 64 := by
  have := len_wt (spl Y cl) (fun v hv => spl_nz hv)
  rw [wtL_spl] at this
  omega
theorem len_nz {cl : List Int64} (h : wtL cl ≤ 64) : (nzS cl).length ≤ 64 := by
  have := len_wt (nzS cl) (fun v hv => (mem_nz.mp hv).2)
  rw [wtL_nz] at this
  omega
/-- the sets parted by an asking -/
theorem as_q {Y : Int64} {N : Nat} {x2 x3 : Int32} (hw : w < 6) (hq : q < 6) (hY : ∀ K2 : FL, (∀ a r j, ¬ (a = 322 ∧ r = w + 2) → K2 a r j = K a r j) → K2 331 (w + 1) q = Y) (hN : J 330 0 w = nI N) (h64 : N ≤ 64) : ∀ (suf pre : List Int64) (K2 : FL), (∀ a r j, ¬ (a = 322 ∧ r = w + 2) → K2 a r j = K a r j) → pre.length + suf.length = N → wtL (pre ++ suf) ≤ 64 → hfL (fun j => K 322 (w + 1) j) pre.length suf → hfL (fun j => K2 322 (w + 2) j) 0 (spl Y pre) → ∃ K' : FL, V PR (f + 1) 287 81 [(0, vR (some (186, 0))), (1, vi (nI w)), (2, vi x2), (3, vi x3), (4, vi (nI q)), (5, vi (nI (spl Y pre).length)), (6, vi (nI pre.length))] [] (mm n J K2 P E c s) = Vk f 287 224 [] [(0, vR (some (186, 0))), (1, vi (nI w)), (2, vi x2), (3, vi x3), (4, vi (nI q))] (V PR f 287 0 [(0, vR (some (186, 0))), (1, vi (nI (w + 1))), (2, vi (x2 + 1)), (3, vi (((10 * x3) + nI q) + 1))] [] (mm n (up3 J 330 0 (w + 1) (nI (spl Y (pre ++ suf)).length)) K' P E c s)) ∧ hfL (fun j => K' 322 (w + 2) j) 0 (spl Y (pre ++ suf)) ∧ ∀ a r j, ¬ (a = 322 ∧ r = w + 2) → K' a r j = K a r j
  | [], pre, K2, hk, e, hwt, h1, h2 => by
    rw [List.length_nil] at e
    rw [List.append_nil]
    refine ⟨K2, ?_, h2, hk⟩
    have nq : (!decide (nI q = (-1 : Int32))) = true := by rw [ne_m1 (by omega)]; rfl
    rw [k_X12_asksRow_81, inb_nI (show w < 7 by omega) (by decide), cond_true, nI_clamp (show w < 2 ^ 31 by omega), hN, nI_led (by omega) (by omega), decide_eq_true (by omega), cond_true, nI_1, inb_nI (show w + 1 < 7 by omega) (by decide), cond_true, nq, cond_true, nI_clamp (show w + 1 < 2 ^ 31 by omega)]
  | v :: t, pre, K2, hk, e, hwt, h1, h2 => by
    rw [List.length_cons] at e
    have nq : (!decide (nI q = (-1 : Int32))) = true := by rw [ne_m1 (by omega)]; rfl
    have A1 : arrOk (mm n J K2 P E c s) 322 (w + 1) 3 (nI pre.length) = true := by rw [aro_322, blt_t (show w < 7 by omega), inb_nI (show pre.length < 64 by omega) (by decide)]; rfl
    have A2 : arrOk (mm n J K2 P E c s) 331 (w + 1) 3 (nI q) = true := by rw [aro_331, blt_t hw, inb_nI hq (by decide)]; rfl
    have ev : K2 322 (w + 1) pre.length = v := (hk 322 (w + 1) _ (by omega)).trans h1.1
    have eY := hY K2 hk
    have l1 := len_spl Y hwt
    have es : spl Y (pre ++ v :: t) = spl Y pre ++ ((bif decide (v &&& Y = 0) then [] else [v &&& Y]) ++ ((bif decide (v &&& Y = v) then [] else [v &&& (Y ^^^ (-1))]) ++ spl Y t)) := spl_app Y pre (v :: t)
    have ep : pre ++ v :: t = (pre ++ [v]) ++ t := by rw [List.append_assoc]; rfl
    have es1 : spl Y (pre ++ [v]) = spl Y pre ++ ((bif decide (v &&& Y = 0) then [] else [v &&& Y]) ++ (bif decide (v &&& Y = v) then [] else [v &&& (Y ^^^ (-1))])) := by
      rw [spl_app]
      show _ ++ (_ ++ (_ ++ [])) = _
      rw [List.append_nil]
    have elen : (pre ++ [v]).length = pre.length + 1 := by rw [List.length_append]; rfl
    rw [es, List.length_append, List.length_append, List.length_append] at l1
    have A3 : ∀ (K3 : FL) i, i < 64 → arrOk (mm n J K3 P E c s) 322 (w + 1 + 1) 3 (nI i) = true := fun K3 i hi => by rw [aro_322, blt_t (show w + 1 < 7 by omega), inb_nI hi (by decide)]; rfl
    have ih := fun K3 h3 h4 => as_q (x2 := x2) (x3 := x3) hw hq hY hN h64 t (pre ++ [v]) K3 h3 (by rw [elen]; omega) (by rw [← ep]; exact hwt) (by rw [elen]; exact h1.2) h4
    rw [ep]
    rw [elen] at ih
    rw [k_X12_asksRow_81, inb_nI (show w < 7 by omega) (by decide), cond_true, nI_clamp (show w < 2 ^ 31 by omega), hN, nI_led (by omega) (by omega), decide_eq_false (by omega), cond_false, cond_true, A1, cond_true, nq, cond_true, inb_nI hw (by decide), cond_true, A2, cond_true, nI_clamp (show pre.length < 2 ^ 31 by omega), nI_clamp (show q < 2 ^ 31 by omega), ev, eY, lgc0, lgc0, nI_1, nI_1, nI_1, not_and]
    cases q0 : decide (v &&& Y = 0) with
    | true =>
      rw [q0, cond_true] at es1 l1
      cases q1 : decide (v &&& Y = v) with
      | true =>
        rw [q1, cond_true, List.append_nil, List.append_nil] at es1
        rw [cond_true, cond_true]
        rw [es1] at ih
        exact ih K2 hk h2
      | false =>
        rw [q1, cond_false] at es1 l1
        have l2 : (spl Y pre).length < 64 := by
          have : [v &&& (Y ^^^ (-1))].length = 1 := rfl
          have : ([] : List Int64).length = 0 := rfl
          omega
        have e3 : spl Y (pre ++ [v]) = spl Y pre ++ [v &&& (Y ^^^ (-1))] := es1
        rw [cond_true, cond_false, inb_nI (show w + 1 < 7 by omega) (by decide), cond_true, nI_clamp (show w + 1 < 2 ^ 31 by omega), A3 _ _ l2, cond_true, nI_clamp (show (spl Y pre).length < 2 ^ 31 by omega)]
        rw [e3] at ih
        have el : (spl Y pre ++ [v &&& (Y ^^^ (-1))]).length = (spl Y pre).length + 1 := by rw [List.length_append]; rfl
        rw [el] at ih
        refine ih _ (fun a r j ha => (up3_o (fun z => ha ⟨z.1, z.2.1⟩)).trans (hk a r j ha)) ?_
        rw [hfL_app]
        exact ⟨hfL_congr _ 0 (fun j _ hj => up3_k (by omega)) h2, by rw [Nat.zero_add]; exact up3_i _ _ _ _ _, trivial⟩
    | false =>
      rw [q0, cond_false] at es1 l1
      have s1 : [v &&& Y].length = 1 := rfl
      have s2 : [v &&& (Y ^^^ (-1))].length = 1 := rfl
      have l2 : (spl Y pre).length < 64 := by omega
      rw [cond_false, inb_nI (show w + 1 < 7 by omega) (by decide), cond_true, nI_clamp (show w + 1 < 2 ^ 31 by omega), A3 _ _ l2, cond_true, nI_clamp (show (spl Y pre).length < 2 ^ 31 by omega)]
      cases q1 : decide (v &&& Y = v) with
      | true =>
        rw [q1, cond_true, List.append_nil] at es1
        rw [cond_true]
        have el : (spl Y pre ++ [v &&& Y]).length = (spl Y pre).length + 1 := by rw [List.length_append]; rfl
        rw [es1, el] at ih
        refine ih _ (fun a r j ha => (up3_o (fun z => ha ⟨z.1, z.2.1⟩)).trans (hk a r j ha)) ?_
        rw [hfL_app]
        exact ⟨hfL_congr _ 0 (fun j _ hj => up3_k (by omega)) h2, by rw [Nat.zero_add]; exact up3_i _ _ _ _ _, trivial⟩
      | false =>
        rw [q1, cond_false] at es1 l1
        have l3 : (spl Y pre).length + 1 < 64 := by omega
        rw [cond_false, cond_true, A3 _ _ l3, cond_true, nI_clamp (show (spl Y pre).length + 1 < 2 ^ 31 by omega), nI_1]
        have e3 : spl Y (pre ++ [v]) = spl Y pre ++ [v &&& Y, v &&& (Y ^^^ (-1))] := es1
        have el : (spl Y pre ++ [v &&& Y, v &&& (Y ^^^ (-1))]).length = (spl Y pre).length + 1 + 1 := by rw [List.length_append]; rfl
        rw [e3, el] at ih
        refine ih _ (fun a r j ha => (up3_o (fun z => ha ⟨z.1, z.2.1⟩)).trans ((up3_o (fun z => ha ⟨z.1, z.2.1⟩)).trans (hk a r j ha))) ?_
        rw [hfL_app]
        exact ⟨hfL_congr _ 0 (fun j _ hj => (up3_k (by omega)).trans (up3_k (by omega))) h2, by rw [Nat.zero_add]; exact (up3_k (by omega)).trans (up3_i _ _ _ _ _), by rw [Nat.zero_add]; exact up3_i _ _ _ _ _, trivial⟩
theorem m1_1 (x : Int32) : (x + (-1)) + 1 = x := by
  rw [Int32.add_assoc, show (-1 : Int32) + 1 = 0 by decide +kernel, Int32.add_zero]
/-- nobody asked: the sets as they are, without empty ones -/
theorem as_n {N : Nat} {x2 x3 : Int32} (hw : w < 6) (hN : J 330 0 w = nI N) (h64 : N ≤ 64) : ∀ (suf pre : List Int64) (K2 : FL), (∀ a r j, ¬ (a = 322 ∧ r = w + 2) → K2 a r j = K a r j) → pre.length + suf.length = N → wtL (pre ++ suf) ≤ 64 → hfL (fun j => K 322 (w + 1) j) pre.length suf → hfL (fun j => K2 322 (w + 2) j) 0 (nzS pre) → ∃ K' : FL, V PR (f + 1) 287 81 [(0, vR (some (186, 0))), (1, vi (nI w)), (2, vi x2), (3, vi x3), (4, vi (-1 : Int32)), (5, vi (nI (nzS pre).length)), (6, vi (nI pre.length))] [] (mm n J K2 P E c s) = Vk f 287 224 [] [(0, vR (some (186, 0))), (1, vi (nI w)), (2, vi x2), (3, vi x3), (4, vi (-1 : Int32))] (V PR f 287 0 [(0, vR (some (186, 0))), (1, vi (nI (w + 1))), (2, vi (x2 + 0)), (3, vi (10 * x3))] [] (mm n (up3 J 330 0 (w + 1) (nI (nzS (pre ++ suf)).length)) K' P E c s)) ∧ hfL (fun j => K' 322 (w + 2) j) 0 (nzS (pre ++ suf)) ∧ ∀ a r j, ¬ (a = 322 ∧ r = w + 2) → K' a r j = K a r j
  | [], pre, K2, hk, e, hwt, h1, h2 => by
    rw [List.length_nil] at e
    rw [List.append_nil]
    refine ⟨K2, ?_, h2, hk⟩
    rw [k_X12_asksRow_81, inb_nI (show w < 7 by omega) (by decide), cond_true, nI_clamp (show w < 2 ^ 31 by omega), hN, nI_led (by omega) (by omega), decide_eq_true (by omega), cond_true, nI_1, inb_nI (show w + 1 < 7 by omega) (by decide), cond_true, show (!decide ((-1 : Int32) = -1)) = false from rfl, cond_false, nI_clamp (show w + 1 < 2 ^ 31 by omega), m1_1]
  | v :: t, pre, K2, hk, e, hwt, h1, h2 => by
    rw [List.length_cons] at e
    have A1 : arrOk (mm n J K2 P E c s) 322 (w + 1) 3 (nI pre.length) = true := by rw [aro_322, blt_t (show w < 7 by omega), inb_nI (show pre.length < 64 by omega) (by decide)]; rfl
    have ev : K2 322 (w + 1) pre.length = v := (hk 322 (w + 1) _ (by omega)).trans h1.1
    have l1 := len_nz hwt
    have es : nzS (pre ++ v :: t) = nzS pre ++ ((bif decide (v = 0) then [] else [v]) ++ nzS t) := nz_app pre (v :: t)
    have ep : pre ++ v :: t = (pre ++ [v]) ++ t := by rw [List.append_assoc]; rfl
    have es1 : nzS (pre ++ [v]) = nzS pre ++ (bif decide (v = 0) then [] else [v]) := by
      rw [nz_app]
      show _ ++ (_ ++ []) = _
      rw [List.append_nil]
    have elen : (pre ++ [v]).length = pre.length + 1 := by rw [List.length_append]; rfl
    rw [es, List.length_append, List.length_append] at l1
    have A3 : ∀ (K3 : FL) i, i < 64 → arrOk (mm n J K3 P E c s) 322 (w + 1 + 1) 3 (nI i) = true := fun K3 i hi => by rw [aro_322, blt_t (show w + 1 < 7 by omega), inb_nI hi (by decide)]; rfl
    have ih := fun K3 h3 h4 => as_n (x2 := x2) (x3 := x3) hw hN h64 t (pre ++ [v]) K3 h3 (by rw [elen]; omega) (by rw [← ep]; exact hwt) (by rw [elen]; exact h1.2) h4
    rw [ep]
    rw [elen] at ih
    rw [k_X12_asksRow_81, inb_nI (show w < 7 by omega) (by decide), cond_true, nI_clamp (show w < 2 ^ 31 by omega), hN, nI_led (by omega) (by omega), decide_eq_false (by omega), cond_false, cond_true, A1, cond_true, show (!decide ((-1 : Int32) = -1)) = false from rfl, cond_false, nI_clamp (show pre.length < 2 ^ 31 by omega), ev, lgc0, lgc0, nI_1, nI_1, nI_1, show decide (v = v) = true from decide_eq_true rfl]
    cases q0 : decide (v = 0) with
    | true =>
      rw [q0, cond_true, List.append_nil] at es1
      rw [cond_true, cond_true]
      rw [es1] at ih
      exact ih K2 hk h2
    | false =>
      rw [q0, cond_false] at es1 l1
      have s1 : [v].length = 1 := rfl
      have l2 : (nzS pre).length < 64 := by omega
      rw [cond_false, inb_nI (show w + 1 < 7 by omega) (by decide), cond_true, nI_clamp (show w + 1 < 2 ^ 31 by omega), A3 _ _ l2, cond_true, nI_clamp (show (nzS pre).length < 2 ^ 31 by omega), cond_true]
      have el : (nzS pre ++ [v]).length = (nzS pre).length + 1 := by rw [List.length_append]; rfl
      rw [es1, el] at ih
      refine ih _ (fun a r j ha => (up3_o (fun z => ha ⟨z.1, z.2.1⟩)).trans (hk a r j ha)) ?_
      rw [hfL_app]
      exact ⟨hfL_congr _ 0 (fun j _ hj => up3_k (by omega)) h2, by rw [Nat.zero_add]; exact up3_i _ _ _ _ _, trivial⟩
end Enre
