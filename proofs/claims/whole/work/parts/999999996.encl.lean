/-! ASKINGS THAT ARE ENOUGH: the class's parting. -/
section Encl
variable {td : Nat → Bool} {yy : Nat → Nat → Int64} {g l : Int64}
theorem spl_l {Y : Int64} : ∀ {cl : List Int64}, (∀ v, v ∈ cl → v &&& l = v) → spl (Y &&& l) cl = spl Y cl
  | [], _ => rfl
  | v :: t, h => by
    have ih := spl_l (Y := Y) (cl := t) (fun u hu => h u (List.mem_cons_of_mem _ hu))
    have e := h v List.mem_cons_self
    have hb : ∀ s, s < 64 → tb v s = true → tb l s = true := fun s hs q => by
      have := congrArg (fun y => tb y s) e
      rw [tb_and, q] at this
      exact this
    have e1 : v &&& (Y &&& l) = v &&& Y := tb_ext fun s hs => by
      rw [tb_and, tb_and, tb_and]
      cases q : tb v s with
      | false => rfl
      | true => rw [hb s hs q, Bool.and_true]
    have e2 : v &&& ((Y &&& l) ^^^ (-1)) = v &&& (Y ^^^ (-1)) := tb_ext fun s hs => by
      rw [tb_and, tb_and, not_x hs, not_x hs, tb_and]
      cases q : tb v s with
      | false => rfl
      | true => rw [hb s hs q, Bool.and_true]
    unfold spl
    rw [e1, e2, ih]
def smL (Y g : Int64) : List Int64 → Bool
  | [] => true
  | v :: t => (decide ((Y ^^^ g) &&& v = 0) || decide ((Y ^^^ g) &&& v = v)) && smL Y g t
theorem stB_iff {v : Int64} : stB v g = true ↔ (∀ s, s < 64 → tb v s = true → tb g s = false) ∨ (∀ s, s < 64 → tb v s = true → tb g s = true) := by
  unfold stB
  rw [Bool.or_eq_true, decide_eq_true_eq, decide_eq_true_eq, and_0, and_0]
  constructor
  · rintro (h | h)
    · left
      intro s hs q
      have := h s hs
      rw [q] at this
      exact this
    · right
      intro s hs q
      have := h s hs
      rw [q, not_x hs] at this
      cases z : tb g s with
      | true => rfl
      | false => rw [z] at this; cases this
  · rintro (h | h)
    · left
      intro s hs
      cases q : tb v s with
      | false => rfl
      | true => rw [h s hs q]; rfl
    · right
      intro s hs
      rw [not_x hs]
      cases q : tb v s with
      | false => rfl
      | true => rw [h s hs q]; rfl
/-- what settles a set in which the goal isn't known -/
theorem sm_v {v Y : Int64} (hv : stB v g = false) : (decide ((Y ^^^ g) &&& v = 0) || decide ((Y ^^^ g) &&& v = v)) = (stB (v &&& Y) g && stB (v &&& (Y ^^^ (-1))) g) := by
  have nv : ¬ ((∀ s, s < 64 → tb v s = true → tb g s = false) ∨ (∀ s, s < 64 → tb v s = true → tb g s = true)) := fun h => by
    rw [stB_iff.mpr h] at hv
    cases hv
  have e1 : (Y ^^^ g) &&& v = 0 ↔ ∀ s, s < 64 → tb v s = true → tb Y s = tb g s := by
    rw [and_0]
    constructor
    · intro h s hs q
      have := h s hs
      rw [tb_xor, q, Bool.and_true] at this
      revert this
      cases tb Y s <;> cases tb g s <;> decide
    · intro h s hs
      rw [tb_xor]
      cases q : tb v s with
      | false => exact Bool.and_false _
      | true => rw [h s hs q]; cases tb g s <;> rfl
  have e2 : (Y ^^^ g) &&& v = v ↔ ∀ s, s < 64 → tb v s = true → tb Y s = !tb g s := by
    constructor
    · intro h s hs q
      have := congrArg (fun y => tb y s) h
      rw [tb_and, tb_xor, q, Bool.and_true] at this
      revert this
      cases tb Y s <;> cases tb g s <;> decide
    · intro h
      refine tb_ext fun s hs => ?_
      rw [tb_and, tb_xor]
      cases q : tb v s with
      | false => exact Bool.and_false _
      | true => rw [h s hs q]; cases tb g s <;> rfl
  have e3 : (stB (v &&& Y) g = true ∧ stB (v &&& (Y ^^^ (-1))) g = true) ↔ ((Y ^^^ g) &&& v = 0 ∨ (Y ^^^ g) &&& v = v) := by
    rw [e1, e2, stB_iff, stB_iff]
    constructor
    · rintro ⟨h1 | h1, h2 | h2⟩
      · refine absurd (.inl fun s hs q => ?_) nv
        cases hy : tb Y s with
        | true => exact h1 s hs (by rw [tb_and, q, hy]; rfl)
        | false => exact h2 s hs (by rw [tb_and, q, not_x hs, hy]; rfl)
      · right
        intro s hs q
        cases hy : tb Y s with
        | true => rw [h1 s hs (by rw [tb_and, q, hy]; rfl)]; rfl
        | false => rw [h2 s hs (by rw [tb_and, q, not_x hs, hy]; rfl)]; rfl
      · left
        intro s hs q
        cases hy : tb Y s with
        | true => rw [h1 s hs (by rw [tb_and, q, hy]; rfl)]
        | false => rw [h2 s hs (by rw [tb_and, q, not_x hs, hy]; rfl)]
      · refine absurd (.inr fun s hs q => ?_) nv
        cases hy : tb Y s with
        | true => exact h1 s hs (by rw [tb_and, q, hy]; rfl)
        | false => exact h2 s hs (by rw [tb_and, q, not_x hs, hy]; rfl)
    · rintro (h | h)
      · refine ⟨.inr fun s hs q => ?_, .inl fun s hs q => ?_⟩
        · rw [tb_and, Bool.and_eq_true] at q
          rw [← h s hs q.1]; exact q.2
        · rw [tb_and, Bool.and_eq_true, not_x hs] at q
          rw [← h s hs q.1]
          have := q.2
          revert this
          cases tb Y s <;> decide
      · refine ⟨.inl fun s hs q => ?_, .inr fun s hs q => ?_⟩
        · rw [tb_and, Bool.and_eq_true] at q
          have a := h s hs q.1
          rw [q.2] at a
          revert a
          cases tb g s <;> decide
        · rw [tb_and, Bool.and_eq_true, not_x hs] at q
          have a := h s hs q.1
          have := q.2
          revert a this
          cases tb g s <;> cases tb Y s <;> decide
  rw [Bool.eq_iff_iff, Bool.or_eq_true, decide_eq_true_eq, decide_eq_true_eq, Bool.and_eq_true]
  exact e3.symm
theorem alk_app : ∀ a b, alk g (a ++ b) = (alk g a && alk g b)
  | [], b => rfl
  | v :: t, b => by
    show (stB v g && alk g (t ++ b)) = ((stB v g && alk g t) && alk g b)
    rw [alk_app t b, Bool.and_assoc]
theorem alk_one {v Y : Int64} : alk g (bif decide (v &&& Y = 0) then [] else [v &&& Y]) = stB (v &&& Y) g := by
  by_cases e : v &&& Y = 0
  · rw [decide_eq_true e, e, stB_z]; rfl
  · rw [decide_eq_false e]
    show (stB (v &&& Y) g && true) = _
    rw [Bool.and_true]
theorem alk_two {v Y : Int64} : alk g (bif decide (v &&& Y = v) then [] else [v &&& (Y ^^^ (-1))]) = stB (v &&& (Y ^^^ (-1))) g := by
  by_cases e : v &&& Y = v
  · have z : v &&& (Y ^^^ (-1)) = 0 := and_0.mpr fun s hs => by
      have e2 := congrArg (fun y => tb y s) e
      rw [tb_and] at e2
      rw [not_x hs]
      cases h3 : tb v s with
      | false => rfl
      | true => rw [h3] at e2; rw [show tb Y s = true from e2]; rfl
    rw [decide_eq_true e, z, stB_z]; rfl
  · rw [decide_eq_false e]
    show (stB (v &&& (Y ^^^ (-1))) g && true) = _
    rw [Bool.and_true]
/-- an asking that settles all -/
theorem sm_alk {Y : Int64} : ∀ cl : List Int64, smL Y g (uns g cl) = alk g (spl Y cl)
  | [] => rfl
  | v :: t => by
    have ih := sm_alk (Y := Y) t
    unfold uns spl
    rw [alk_app, alk_app, alk_one, alk_two, ← ih]
    cases e : stB v g with
    | true =>
      rw [stB_sub (u := v &&& Y) (fun s hs q => by rw [tb_and, Bool.and_eq_true] at q; exact q.1) e, stB_sub (u := v &&& (Y ^^^ (-1))) (fun s hs q => by rw [tb_and, Bool.and_eq_true] at q; exact q.1) e]
      rfl
    | false =>
      show ((decide ((Y ^^^ g) &&& v = 0) || decide ((Y ^^^ g) &&& v = v)) && smL Y g (uns g t)) = _
      rw [sm_v e, Bool.and_assoc]
/-- whether an asking parts any -/
def prtB (Y : Int64) : List Int64 → Bool
  | [] => false
  | v :: t => (!decide (v &&& Y = 0) && !decide (v &&& (Y ^^^ (-1)) = 0)) || prtB Y t
theorem pd_f {Y : Int64} : ∀ {ml : List Int64}, prtB Y ml = false → ∀ v, v ∈ ml → v &&& Y = 0 ∨ v &&& (Y ^^^ (-1)) = 0
  | [], _, v, h => absurd h List.not_mem_nil
  | u :: t, h, v, hv => by
    have h2 : ((!decide (u &&& Y = 0) && !decide (u &&& (Y ^^^ (-1)) = 0)) || prtB Y t) = false := h
    rw [Bool.or_eq_false_iff] at h2
    rcases List.mem_cons.mp hv with e | e
    · subst e
      have := h2.1
      by_cases q : v &&& Y = 0
      · exact .inl q
      · rw [decide_eq_false q, Bool.not_false, Bool.true_and] at this
        right
        cases z : decide (v &&& (Y ^^^ (-1)) = 0) with
        | true => exact of_decide_eq_true z
        | false => rw [z] at this; cases this
    · exact pd_f h2.2 v e
theorem uns_uns : ∀ cl, uns g (uns g cl) = uns g cl
  | [] => rfl
  | v :: t => by
    have ih := uns_uns t
    show uns g ((bif stB v g then [] else [v]) ++ uns g t) = (bif stB v g then [] else [v]) ++ uns g t
    rw [uns_app, ih]
    cases e : stB v g with
    | true => rfl
    | false =>
      show uns g [v] ++ _ = _
      show ((bif stB v g then [] else [v]) ++ []) ++ _ = _
      rw [e, List.append_nil]
theorem uns_one {v Y : Int64} : uns g (bif decide (v &&& Y = 0) then [] else [v &&& Y]) = bif stB (v &&& Y) g then [] else [v &&& Y] := by
  by_cases e : v &&& Y = 0
  · rw [decide_eq_true e, e, stB_z]; rfl
  · rw [decide_eq_false e]
    exact List.append_nil _
theorem uns_two {v Y : Int64} : uns g (bif decide (v &&& Y = v) then [] else [v &&& (Y ^^^ (-1))]) = bif stB (v &&& (Y ^^^ (-1))) g then [] else [v &&& (Y ^^^ (-1))] := by
  by_cases e : v &&& Y = v
  · have z : v &&& (Y ^^^ (-1)) = 0 := and_0.mpr fun s hs => by
      have e2 := congrArg (fun y => tb y s) e
      rw [tb_and] at e2
      rw [not_x hs]
      cases h3 : tb v s with
      | false => rfl
      | true => rw [h3] at e2; rw [show tb Y s = true from e2]; rfl
    rw [decide_eq_true e, z, stB_z]; rfl
  · rw [decide_eq_false e]
    exact List.append_nil _
theorem us_cons {v Y : Int64} {t : List Int64} : uns g (spl Y (v :: t)) = (bif stB (v &&& Y) g then [] else [v &&& Y]) ++ ((bif stB (v &&& (Y ^^^ (-1))) g then [] else [v &&& (Y ^^^ (-1))]) ++ uns g (spl Y t)) := by
  show uns g ((bif decide (v &&& Y = 0) then [] else [v &&& Y]) ++ ((bif decide (v &&& Y = v) then [] else [v &&& (Y ^^^ (-1))]) ++ spl Y t)) = _
  rw [uns_app, uns_app, uns_one, uns_two]
theorem us_uns {Y : Int64} : ∀ cl : List Int64, uns g (spl Y (uns g cl)) = uns g (spl Y cl)
  | [] => rfl
  | v :: t => by
    have ih := us_uns (Y := Y) t
    rw [us_cons]
    show uns g (spl Y ((bif stB v g then [] else [v]) ++ uns g t)) = _
    cases e : stB v g with
    | true =>
      rw [stB_sub (u := v &&& Y) (fun s hs q => by rw [tb_and, Bool.and_eq_true] at q; exact q.1) e, stB_sub (u := v &&& (Y ^^^ (-1))) (fun s hs q => by rw [tb_and, Bool.and_eq_true] at q; exact q.1) e]
      exact ih
    | false =>
      show uns g (spl Y (v :: uns g t)) = _
      rw [us_cons, ih]
theorem len_us {Y : Int64} {cl : List Int64} (h : wtL cl ≤ 64) : (uns g (spl Y cl)).length ≤ 32 := by
  have h1 := len_wt2 (g := g) (uns g (spl Y cl)) (fun v hv => (mem_uns.mp hv).2)
  have h2 := wtL_uns (g := g) (spl Y cl)
  rw [wtL_spl] at h2
  omega
theorem len_u {cl : List Int64} (h : wtL cl ≤ 64) : (uns g cl).length ≤ 32 := by
  have h1 := len_wt2 (g := g) (uns g cl) (fun v hv => (mem_uns.mp hv).2)
  have h2 := wtL_uns (g := g) cl
  omega
variable {n d a : Nat} {I J : FI} {L K : FL} {P : FR} {E : FE} {c s : Nat}
theorem mul32 (a b : Nat) : nI a * (32 : Int32) + nI b = nI (a * 32 + b) := by
  rw [show nI a * (32 : Int32) = nI (a * 32) from pk_mul a 32, nI_add]
theorem b2i_a1 (b : Bool) : decide (b2i b &&& 1 = b2i b) = true := by cases b <;> decide +kernel
/-- whether an asking settles all sets of a level -/
theorem c_106 {Y : Int64} {N : Nat} (ha : a < 7) (hg : K 170 0 5 = g) (hN : J 175 0 a = nI N) (h32 : N ≤ 32) : ∀ (suf : List Int64) i, i + suf.length = N → hfL (fun j => K 174 0 (a * 32 + j)) i suf → V PR d 106 3 [(0, vR (some (170, 0))), (1, vi (nI a)), (2, vL Y), (4, vi (nI i))] [] (mm n J K P E c s) = some (.inl (some (vi (b2i (smL Y g suf)))), mm n J K P E c s)
  | [], i, e, h => by
    rw [List.length_nil] at e
    rw [k_X9_settlesMixed_3, inb_nI ha (by decide), cond_true, nI_clamp (show a < 2 ^ 31 by omega), hN, nI_led (by omega) (by omega), decide_eq_true (by omega), cond_true]
    rfl
  | v :: t, i, e, h => by
    rw [List.length_cons] at e
    have ih := c_106 (Y := Y) ha hg hN h32 t (i + 1) (by omega) h.2
    have ev : K 174 0 (a * 32 + i) = v := h.1
    rw [k_X9_settlesMixed_3, inb_nI ha (by decide), cond_true, nI_clamp (show a < 2 ^ 31 by omega), hN, nI_led (by omega) (by omega), decide_eq_false (by omega), cond_false, mul32, inb_nI (show a * 32 + i < 224 by omega) (by decide), cond_true, nI_clamp (show a * 32 + i < 2 ^ 31 by omega), ev, hg, lgc0, lgc0, nI_1]
    show _ = some (Sum.inl (some (vi (b2i ((decide ((Y ^^^ g) &&& v = 0) || decide ((Y ^^^ g) &&& v = v)) && smL Y g t)))), mm n J K P E c s)
    cases decide ((Y ^^^ g) &&& v = 0) with
    | true => exact ih
    | false =>
      cases decide ((Y ^^^ g) &&& v = v) with
      | true => exact ih
      | false => rfl
/-- a set is added -/
theorem c_108 {v : Int64} {N : Nat} (ha : a < 7) (hg : K 170 0 5 = g) (hN : J 175 0 a = nI N) (h32 : stB v g = false → N < 32) : V PR (d + 1) 108 0 [(0, vR (some (170, 0))), (1, vi (nI a)), (2, vL v)] [] (mm n J K P E c s) = some (.inl none, bif stB v g then mm n J K P E c s else mm n (up3 J 175 0 a (nI (N + 1))) (up3 K 174 0 (a * 32 + N) v) P E c s) := by
  rw [k_X9_addMixed_0, hg, c_settled, Vk_v, k_X9_addMixed_8, b2i_ne0]
  cases e : stB v g with
  | true => rfl
  | false =>
    have := h32 e
    rw [cond_false, inb_nI ha (by decide), cond_true, nI_clamp (show a < 2 ^ 31 by omega), hN, show decide ((32 : Int32) ≤ nI N) = false from (nI_led (a := 32) (by decide) (by omega)).trans (decide_eq_false (by omega)), cond_false, cond_true, mul32, inb_nI (show a * 32 + N < 224 by omega) (by decide), cond_true, cond_true, cond_true, nI_clamp (show a * 32 + N < 2 ^ 31 by omega), nI_1]
    rfl
def FxX (a : Nat) (J J' : FI) : Prop := ∀ b r j, ¬ (b = 175 ∧ j = a + 1) → J' b r j = J b r j
def FxZ (a : Nat) (K K' : FL) : Prop := ∀ b r j, ¬ (b = 174 ∧ (a + 1) * 32 ≤ j) → K' b r j = K b r j
theorem pair_108 {v Y : Int64} {N : Nat} {l1 : List Int64} (ha : a + 1 < 7) (hg : K 170 0 5 = g) (hl : l1.length = N) (hN : J 175 0 (a + 1) = nI N) (h32 : (l1 ++ ((bif stB (v &&& Y) g then [] else [v &&& Y]) ++ (bif stB (v &&& (Y ^^^ (-1))) g then [] else [v &&& (Y ^^^ (-1))]))).length ≤ 32) (hf : hfL (fun j => K 174 0 ((a + 1) * 32 + j)) 0 l1) {x4 x5 : Int32} : ∃ (J' : FI) (K' : FL), Vk (d + 1) 107 82 [] [(0, vR (some (170, 0))), (1, vi (nI a)), (2, vL Y), (4, vi x4), (5, vi x5), (6, vL v)] (V PR (d + 1) 108 0 [(0, vR (some (170, 0))), (1, vi (nI (a + 1))), (2, vL (v &&& Y))] [] (mm n J K P E c s)) = V PR (d + 2) 107 15 [(0, vR (some (170, 0))), (1, vi (nI a)), (2, vL Y), (4, vi x4), (5, vi (x5 + 1))] [] (mm n J' K' P E c s) ∧ FxX a J J' ∧ FxZ a K K' ∧ J' 175 0 (a + 1) = nI (l1 ++ ((bif stB (v &&& Y) g then [] else [v &&& Y]) ++ (bif stB (v &&& (Y ^^^ (-1))) g then [] else [v &&& (Y ^^^ (-1))]))).length ∧ hfL (fun j => K' 174 0 ((a + 1) * 32 + j)) 0 (l1 ++ ((bif stB (v &&& Y) g then [] else [v &&& Y]) ++ (bif stB (v &&& (Y ^^^ (-1))) g then [] else [v &&& (Y ^^^ (-1))]))) := by
  rw [List.length_append, List.length_append] at h32
  have s1 : ∀ x : Int64, [x].length = 1 := fun _ => rfl
  have s0 : ([] : List Int64).length = 0 := rfl
  have B1 : stB (v &&& Y) g = false → N < 32 := fun e => by
    rw [e, cond_false, s1] at h32
    omega
  rw [c_108 ha hg hN B1]
  cases e1 : stB (v &&& Y) g with
  | true =>
    rw [e1, cond_true] at h32
    have B2 : stB (v &&& (Y ^^^ (-1))) g = false → N < 32 := fun e => by
      rw [e, cond_false, s1] at h32
      omega
    rw [cond_true, cond_true, Vk_n, k_X9_partMixed_85, nI_1, c_108 ha hg hN B2]
    cases e2 : stB (v &&& (Y ^^^ (-1))) g with
    | true =>
      rw [cond_true, cond_true, Vk_n, k_X9_partMixed_100]
      refine ⟨J, K, rfl, fun _ _ _ _ => rfl, fun _ _ _ _ => rfl, ?_, ?_⟩
      · rw [hN, List.length_append, hl]
        rfl
      · rw [hfL_app]
        exact ⟨hf, trivial⟩
    | false =>
      rw [cond_false, cond_false, Vk_n, k_X9_partMixed_100]
      refine ⟨_, _, rfl, fun b r j q => up3_x q, fun b r j q => up3_x (by omega), ?_, ?_⟩
      · rw [up3_i, List.length_append, hl]
        rfl
      · rw [hfL_app]
        exact ⟨hfL_congr _ 0 (fun j _ hj => up3_k (by omega)) hf, by rw [Nat.zero_add, hl]; exact up3_i _ _ _ _ _, trivial⟩
  | false =>
    rw [e1, cond_false, s1] at h32
    have hf1 : hfL (fun j => (up3 K 174 0 ((a + 1) * 32 + N) (v &&& Y)) 174 0 ((a + 1) * 32 + j)) 0 (l1 ++ [v &&& Y]) := by
      rw [hfL_app]
      exact ⟨hfL_congr _ 0 (fun j _ hj => up3_k (by omega)) hf, by rw [Nat.zero_add, hl]; exact up3_i _ _ _ _ _, trivial⟩
    have B2 : stB (v &&& (Y ^^^ (-1))) g = false → N + 1 < 32 := fun e => by
      rw [e, cond_false, s1] at h32
      omega
    rw [cond_false, cond_false, Vk_n, k_X9_partMixed_85, nI_1, c_108 (J := up3 J 175 0 (a + 1) (nI (N + 1))) (K := up3 K 174 0 ((a + 1) * 32 + N) (v &&& Y)) ha ((up3_a (by decide)).trans hg) (up3_i _ _ _ _ _) B2]
    cases e2 : stB (v &&& (Y ^^^ (-1))) g with
    | true =>
      rw [cond_true, cond_true, Vk_n, k_X9_partMixed_100]
      refine ⟨_, _, rfl, fun b r j q => up3_x q, fun b r j q => up3_x (by omega), ?_, ?_⟩
      · rw [up3_i, List.length_append, hl]
        rfl
      · rw [List.append_nil]
        exact hf1
    | false =>
      rw [cond_false, cond_false, Vk_n, k_X9_partMixed_100]
      refine ⟨_, _, rfl, fun b r j q => (up3_x q).trans (up3_x q), fun b r j q => (up3_x (by omega)).trans (up3_x (by omega)), ?_, ?_⟩
      · rw [up3_i, List.length_append, hl]
        rfl
      · rw [← List.append_assoc, hfL_app]
        refine ⟨hfL_congr _ 0 (fun j _ hj => up3_k (by rw [List.length_append, s1] at hj; omega)) hf1, ?_, trivial⟩
        rw [List.length_append, s1, Nat.zero_add, hl]
        exact up3_i _ _ _ _ _
/-- a level parted -/
theorem pm_15 {Y : Int64} {N : Nat} {K0 : FL} {J0 : FI} (ha : a + 1 < 7) (hg : K0 170 0 5 = g) (hN : J0 175 0 a = nI N) (h32 : N ≤ 32) : ∀ (suf pre : List Int64) (p : Bool) (J : FI) (K : FL), pre.length + suf.length = N → wtL (pre ++ suf) ≤ 64 → FxX a J0 J → FxZ a K0 K → hfL (fun j => K0 174 0 (a * 32 + j)) pre.length suf → J 175 0 (a + 1) = nI (uns g (spl Y pre)).length → hfL (fun j => K 174 0 ((a + 1) * 32 + j)) 0 (uns g (spl Y pre)) → ∃ (J' : FI) (K' : FL), V PR (d + 2) 107 15 [(0, vR (some (170, 0))), (1, vi (nI a)), (2, vL Y), (4, vi (b2i p)), (5, vi (nI pre.length))] [] (mm n J K P E c s) = some (.inl (some (vi (b2i (p || prtB Y suf)))), mm n J' K' P E c s) ∧ FxX a J0 J' ∧ FxZ a K0 K' ∧ J' 175 0 (a + 1) = nI (uns g (spl Y (pre ++ suf))).length ∧ hfL (fun j => K' 174 0 ((a + 1) * 32 + j)) 0 (uns g (spl Y (pre ++ suf)))
  | [], pre, p, J, K, e, hwt, fj, fk, h1, h2, h3 => by
    rw [List.length_nil] at e
    have ej : J 175 0 a = nI N := (fj 175 0 a (by omega)).trans hN
    refine ⟨J, K, ?_, fj, fk, by rw [List.append_nil]; exact h2, by rw [List.append_nil]; exact h3⟩
    rw [k_X9_partMixed_15, inb_nI (show a < 7 by omega) (by decide), cond_true, nI_clamp (show a < 2 ^ 31 by omega), ej, nI_led (by omega) (by omega), decide_eq_true (by omega), cond_true, b2i_a1, cond_true]
    show _ = some (Sum.inl (some (vi (b2i (p || false)))), mm n J K P E c s)
    rw [Bool.or_false]
  | v :: t, pre, p, J, K, e, hwt, fj, fk, h1, h2, h3 => by
    rw [List.length_cons] at e
    have ej : J 175 0 a = nI N := (fj 175 0 a (by omega)).trans hN
    have ev : K 174 0 (a * 32 + pre.length) = v := (fk 174 0 _ (by omega)).trans h1.1
    have ep : pre ++ v :: t = (pre ++ [v]) ++ t := by rw [List.append_assoc]; rfl
    have elen : (pre ++ [v]).length = pre.length + 1 := by rw [List.length_append]; rfl
    have es1 : uns g (spl Y (pre ++ [v])) = uns g (spl Y pre) ++ ((bif stB (v &&& Y) g then [] else [v &&& Y]) ++ (bif stB (v &&& (Y ^^^ (-1))) g then [] else [v &&& (Y ^^^ (-1))])) := by
      rw [spl_app, uns_app, us_cons]
      show _ ++ (_ ++ (_ ++ [])) = _
      rw [List.append_nil]
    have l32 : (uns g (spl Y pre) ++ ((bif stB (v &&& Y) g then [] else [v &&& Y]) ++ (bif stB (v &&& (Y ^^^ (-1))) g then [] else [v &&& (Y ^^^ (-1))]))).length ≤ 32 := by
      rw [← es1]
      refine len_us ?_
      rw [wtL_app] at hwt ⊢
      have : wtL (v :: t) = wtS v + wtL t := rfl
      have : wtL [v] = wtS v + 0 := rfl
      omega
    have go : ∀ p2 : Bool, ∃ (J' : FI) (K' : FL), Vk (d + 1) 107 82 [] [(0, vR (some (170, 0))), (1, vi (nI a)), (2, vL Y), (4, vi (b2i p2)), (5, vi (nI pre.length)), (6, vL v)] (V PR (d + 1) 108 0 [(0, vR (some (170, 0))), (1, vi (nI (a + 1))), (2, vL (v &&& Y))] [] (mm n J K P E c s)) = some (.inl (some (vi (b2i (p2 || prtB Y t)))), mm n J' K' P E c s) ∧ FxX a J0 J' ∧ FxZ a K0 K' ∧ J' 175 0 (a + 1) = nI (uns g (spl Y (pre ++ v :: t))).length ∧ hfL (fun j => K' 174 0 ((a + 1) * 32 + j)) 0 (uns g (spl Y (pre ++ v :: t))) := fun p2 => by
      obtain ⟨J1, K1, r1, f1, k1, n1, l1⟩ := pair_108 (d := d) (n := n) (P := P) (E := E) (c := c) (s := s) (x4 := b2i p2) (x5 := nI pre.length) ha ((fk 170 0 5 (by omega)).trans hg) rfl h2 l32 h3
      rw [← es1] at n1 l1
      obtain ⟨J2, K2, r2, f2, k2, n2, l2⟩ := pm_15 ha hg hN h32 t (pre ++ [v]) p2 J1 K1 (by rw [elen]; omega) (by rw [← ep]; exact hwt) (fun b r j q => (f1 b r j q).trans (fj b r j q)) (fun b r j q => (k1 b r j q).trans (fk b r j q)) (by rw [elen]; exact h1.2) n1 l1
      rw [elen] at r2
      rw [ep]
      refine ⟨J2, K2, ?_, f2, k2, n2, l2⟩
      rw [r1, nI_1]
      exact r2
    have e0 : prtB Y (v :: t) = ((!decide (v &&& Y = 0) && !decide (v &&& (Y ^^^ (-1)) = 0)) || prtB Y t) := rfl
    rw [k_X9_partMixed_15, inb_nI (show a < 7 by omega) (by decide), cond_true, nI_clamp (show a < 2 ^ 31 by omega), ej, nI_led (by omega) (by omega), decide_eq_false (by omega), cond_false, mul32, inb_nI (show a * 32 + pre.length < 224 by omega) (by decide), cond_true, nI_clamp (show a * 32 + pre.length < 2 ^ 31 by omega), ev, lgc0, lgc0, nI_1, b2i_ne0, e0]
    cases p with
    | true => exact go true
    | false =>
      cases decide (v &&& Y = 0) with
      | true => exact go false
      | false =>
        cases decide (v &&& (Y ^^^ (-1)) = 0) with
        | true => exact go false
        | false => exact go true
theorem c_107 {Y : Int64} {ml : List Int64} (ha : a + 1 < 7) (hg : K 170 0 5 = g) (hN : J 175 0 a = nI ml.length) (h32 : ml.length ≤ 32) (hwt : wtL ml ≤ 64) (hf : hfL (fun j => K 174 0 (a * 32 + j)) 0 ml) : ∃ (J' : FI) (K' : FL), V PR (d + 2) 107 0 [(0, vR (some (170, 0))), (1, vi (nI a)), (2, vL Y)] [] (mm n J K P E c s) = some (.inl (some (vi (b2i (prtB Y ml)))), mm n J' K' P E c s) ∧ FxX a J J' ∧ FxZ a K K' ∧ J' 175 0 (a + 1) = nI (uns g (spl Y ml)).length ∧ hfL (fun j => K' 174 0 ((a + 1) * 32 + j)) 0 (uns g (spl Y ml)) := by
  have h := pm_15 (d := d) (n := n) (P := P) (E := E) (c := c) (s := s) (Y := Y) (K0 := K) (J0 := J) ha hg hN h32 ml [] false (up3 J 175 0 (a + 1) 0) K (Nat.zero_add _) hwt (fun b r j q => up3_x q) (fun _ _ _ _ => rfl) hf (up3_i _ _ _ _ _) trivial
  obtain ⟨J', K', r1, f1, k1, n1, l1⟩ := h
  refine ⟨J', K', ?_, f1, k1, n1, l1⟩
  rw [k_X9_partMixed_0, nI_1, inb_nI ha (by decide), cond_true, nI_clamp (show a + 1 < 2 ^ 31 by omega)]
  exact r1
end Encl
