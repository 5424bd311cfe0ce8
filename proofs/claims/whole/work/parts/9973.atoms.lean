/-! PROMISES 31, 52: atoms, brief. -/
section Atoms
variable {d n t : Nat} {I J M : FI} {L K N : FL} {P : FR} {E : FE} {c s : Nat}
theorem alB_iff {f : Nat → Bool} : ∀ r e, alB f e r = true ↔ ∀ k, e ≤ k → k < e + r → f k = true
  | 0, e => ⟨fun _ k h1 h2 => by omega, fun _ => rfl⟩
  | r + 1, e => by
    have ih := alB_iff (f := f) r (e + 1)
    show (f e && alB f (e + 1) r) = true ↔ _
    rw [Bool.and_eq_true, ih]
    constructor
    · intro ⟨h1, h2⟩ k h3 h4
      by_cases q : k = e
      · subst q; exact h1
      · exact h2 k (by omega) (by omega)
    · intro h
      exact ⟨h e (Nat.le_refl _) (by omega), fun k h3 h4 => h k (by omega) (by omega)⟩
theorem alB_congr {f g : Nat → Bool} : ∀ r e, (∀ k, e ≤ k → k < e + r → f k = g k) → alB f e r = alB g e r
  | 0, e, h => rfl
  | r + 1, e, h => by
    show (f e && alB f (e + 1) r) = (g e && alB g (e + 1) r)
    rw [h e (Nat.le_refl _) (by omega), alB_congr r (e + 1) (fun k h1 h2 => h k (by omega) (by omega))]
theorem bool_iff {a b : Bool} (h : a = true ↔ b = true) : a = b := by
  cases a <;> cases b
  · rfl
  · exact absurd (h.mpr rfl) (by decide)
  · exact absurd (h.mp rfl) (by decide)
  · rfl
theorem and_and1 (x y : Int64) : x &&& y &&& 1 = (x &&& 1) &&& (y &&& 1) := tb_ext fun s _ => by simp only [tb_and]; cases tb x s <;> cases tb y s <;> cases tb 1 s <;> rfl
theorem xor_and1 (x y : Int64) : (x ^^^ y) &&& 1 = (x &&& 1) ^^^ (y &&& 1) := tb_ext fun s _ => by simp only [tb_and, tb_xor]; cases tb x s <;> cases tb y s <;> cases tb 1 s <;> rfl
theorem two_in (x : Int64) {s u : Nat} (hs : s < 64) (hu : u < 64) : decide (lg_cmp (((x >>> ((nI s).toInt64 &&& 63)) &&& (x >>> ((nI u).toInt64 &&& 63))) &&& 1) 1 = 0) = (tb x s && tb x u) := by
  rw [and_and1, lsr_bit x hs, lsr_bit x hu]
  cases tb x s <;> cases tb x u <;> decide +kernel
theorem two_in0 (x : Int64) {s u : Nat} (hs : s < 64) (hu : u < 64) : decide (lg_cmp (((x >>> ((nI s).toInt64 &&& 63)) &&& (x >>> ((nI u).toInt64 &&& 63))) &&& 1) 0 = 0) = !(tb x s && tb x u) := by
  rw [and_and1, lsr_bit x hs, lsr_bit x hu]
  cases tb x s <;> cases tb x u <;> decide +kernel
theorem two_un (x : Int64) {s u : Nat} (hs : s < 64) (hu : u < 64) : decide (lg_cmp (((x >>> ((nI s).toInt64 &&& 63)) ^^^ (x >>> ((nI u).toInt64 &&& 63))) &&& 1) 1 = 0) = (tb x s != tb x u) := by
  rw [xor_and1, lsr_bit x hs, lsr_bit x hu]
  cases tb x s <;> cases tb x u <;> decide +kernel
theorem two_un0 (x : Int64) {s u : Nat} (hs : s < 64) (hu : u < 64) : decide (lg_cmp (((x >>> ((nI s).toInt64 &&& 63)) ^^^ (x >>> ((nI u).toInt64 &&& 63))) &&& 1) 0 = 0) = !(tb x s != tb x u) := by
  rw [xor_and1, lsr_bit x hs, lsr_bit x hu]
  cases tb x s <;> cases tb x u <;> decide +kernel
/-- states that the goal tells from one -/
def unlL (st : Nat) (l g : Int64) : Int64 := l &&& (bif tb g st then g ^^^ (-1) else g)
theorem tb_unl {st u : Nat} (l g : Int64) (hu : u < 64) : tb (unlL st l g) u = (tb l u && (tb g st != tb g u)) := by
  unfold unlL
  rw [tb_and]
  cases tb g st with
  | true => rw [cond_true, not_x hu]; cases tb g u <;> rfl
  | false => rw [cond_false]; cases tb g u <;> rfl
theorem c_unlike {st : Nat} (hs : st < 64) (l g : Int64) : V PR (d + 1) 111 0 [(0, vi (nI st)), (1, vL l), (3, vL g)] [] (mm n I L P E c s) = some (.inl (some (vL (unlL st l g))), mm n I L P E c s) := by
  rw [k_X9_unlike_0, c_holds hs, Vk_v, k_X9_unlike_6, b2i_eq0]
  unfold unlL
  cases tb g st <;> rfl
/-- states alike by letters -/
def akB (b s u : Nat) : Nat → Nat → Bool := alB (fun k => !decide (b / 2 ^ k % 2 = 1) || decide (s / 2 ^ k % 2 = u / 2 ^ k % 2))
def akL (L : FL) (b s : Nat) : Int64 → Nat → Nat → Int64
  | v, _, 0 => v
  | v, k, r + 1 => akL L b s (bif decide (b / 2 ^ k % 2 = 1) then v &&& (bif tb (L 1 0 k) s then L 1 0 k else L 1 0 k ^^^ (-1)) else v) (k + 1) r
theorem tb_ak (hb : RBit L) {b s u : Nat} (hs : s < 64) (hu : u < 64) : ∀ r k v, k + r ≤ 6 → tb (akL L b s v k r) u = (tb v u && akB b s u k r)
  | 0, k, v, h => by
    show tb v u = (tb v u && true)
    rw [Bool.and_true]
  | r + 1, k, v, h => by
    show tb (akL L b s (bif decide (b / 2 ^ k % 2 = 1) then v &&& (bif tb (L 1 0 k) s then L 1 0 k else L 1 0 k ^^^ (-1)) else v) (k + 1) r) u = (tb v u && ((!decide (b / 2 ^ k % 2 = 1) || decide (s / 2 ^ k % 2 = u / 2 ^ k % 2)) && akB b s u (k + 1) r))
    rw [tb_ak hb hs hu r (k + 1) _ (by omega), ← Bool.and_assoc]
    congr 1
    cases decide (b / 2 ^ k % 2 = 1) with
    | false => rw [cond_false, Bool.not_false, Bool.true_or, Bool.and_true]
    | true =>
      rw [cond_true, Bool.not_true, Bool.false_or, tb_and, hb k (by omega) s hs]
      congr 1
      have h1 := Nat.mod_lt (s / 2 ^ k) (show 0 < 2 by decide)
      have h2 := Nat.mod_lt (u / 2 ^ k) (show 0 < 2 by decide)
      rcases (show s / 2 ^ k % 2 = 0 ∨ s / 2 ^ k % 2 = 1 by omega) with e1 | e1
      · rw [e1, decide_eq_false (show ¬ (0 : Nat) = 1 by decide), cond_false, not_x hu, hb k (by omega) u hu]
        rcases (show u / 2 ^ k % 2 = 0 ∨ u / 2 ^ k % 2 = 1 by omega) with e2 | e2 <;> rw [e2] <;> rfl
      · rw [e1, decide_eq_true (show (1 : Nat) = 1 from rfl), cond_true, hb k (by omega) u hu]
        rcases (show u / 2 ^ k % 2 = 0 ∨ u / 2 ^ k % 2 = 1 by omega) with e2 | e2 <;> rw [e2] <;> rfl
theorem bit_of16 : ∀ b, b < 16 → ∀ k, k < 4 → (nI b >>> (nI k &&& 31)) &&& 1 = nI (b / 2 ^ k % 2) := by decide +kernel
theorem alike_C {b st : Nat} (hb : b < 16) (hs : st < 64) : ∀ r k v, k + r = 4 → V PR (d + 1) 117 7 [(0, vi (nI b)), (1, vi (nI st)), (2, vL v), (4, vi (nI k))] [] (mm n I L P E c s) = some (.inl (some (vL (akL L b st v k r))), mm n I L P E c s)
  | 0, k, v, h => by
    rw [k_X9_alikeBy_7, show decide ((4 : Int32) ≤ nI k) = true from (nI_led (a := 4) (by decide) (by omega)).trans (decide_eq_true (by omega)), cond_true]
    rfl
  | r + 1, k, v, h => by
    have hm := Nat.mod_lt (b / 2 ^ k) (show 0 < 2 by decide)
    rw [k_X9_alikeBy_7, show decide ((4 : Int32) ≤ nI k) = false from (nI_led (a := 4) (by decide) (by omega)).trans (decide_eq_false (by omega)), cond_false, bit_of16 b hb k (by omega), nI_is0 (by omega), inb_nI (show k < 6 by omega) (by decide), cond_true, nI_clamp (by omega), c_holds hs, Vk_v, k_X9_alikeBy_33, b2i_eq0, inb_nI (show k < 6 by omega) (by decide), cond_true, cond_true, nI_clamp (by omega), nI_1]
    show _ = some (Sum.inl (some (vL (akL L b st (bif decide (b / 2 ^ k % 2 = 1) then v &&& (bif tb (L 1 0 k) st then L 1 0 k else L 1 0 k ^^^ (-1)) else v) (k + 1) r))), mm n I L P E c s)
    have A := fun v => alike_C hb hs r (k + 1) v (by omega)
    rcases (show b / 2 ^ k % 2 = 0 ∨ b / 2 ^ k % 2 = 1 by omega) with e1 | e1
    · rw [e1, decide_eq_true (show (0 : Nat) = 0 from rfl), cond_true, decide_eq_false (show ¬ (0 : Nat) = 1 by decide), cond_false]
      exact A v
    · rw [e1, decide_eq_false (show ¬ (1 : Nat) = 0 by decide), cond_false, decide_eq_true (show (1 : Nat) = 1 from rfl), cond_true]
      cases tb (L 1 0 k) st with
      | true => exact A _
      | false => exact A _
/-- whether letters do, by states -/
def doB (L : FL) (b : Nat) (l g : Int64) (st : Nat) : Bool := !tb l st || decide (unlL st l g &&& akL L b st (-1) 0 4 = 0)
theorem do_C {b : Nat} (hb : b < 16) (l g : Int64) : ∀ r e, e + r = 64 → V PR (d + 2) 116 3 [(1, vi (nI b)), (2, vL l), (4, vL g), (6, vi (nI e))] [] (mm n I L P E c s) = some (.inl (some (vi (b2i (alB (doB L b l g) e r)))), mm n I L P E c s)
  | 0, e, h => by
    rw [k_X9_lettersDo_3, show decide ((64 : Int32) ≤ nI e) = true from (nI_led (a := 64) (by decide) (by omega)).trans (decide_eq_true (by omega)), cond_true]
    rfl
  | r + 1, e, h => by
    have A := do_C hb l g r (e + 1) (by omega)
    rw [k_X9_lettersDo_3, show decide ((64 : Int32) ≤ nI e) = false from (nI_led (a := 64) (by decide) (by omega)).trans (decide_eq_false (by omega)), cond_false, c_holds (show e < 64 by omega), Vk_v, k_X9_lettersDo_16, b2i_eq0, nI_1]
    show _ = some (Sum.inl (some (vi (b2i ((!tb l e || decide (unlL e l g &&& akL L b e (-1) 0 4 = 0)) && alB (doB L b l g) (e + 1) r)))), mm n I L P E c s)
    cases tb l e with
    | false => exact A
    | true =>
      have AL : V PR (d + 1) 117 7 [(0, vi (nI b)), (1, vi (nI e)), (2, vL (-1)), (4, vi (0 : Int32))] [] (mm n I L P E c s) = some (.inl (some (vL (akL L b e (-1) 0 4))), mm n I L P E c s) := alike_C hb (show e < 64 by omega) 4 0 (-1) rfl
      rw [Bool.not_true, cond_false, c_unlike (show e < 64 by omega), Vk_v, k_X9_lettersDo_27, k_X9_alikeBy_0, AL, Vk_v, k_X9_lettersDo_33, lgc0, nI_1, Bool.false_or]
      cases decide (unlL e l g &&& akL L b e (-1) 0 4 = 0) with
      | true => exact A
      | false => rfl
def adP (I : FI) (L : FL) (l g : Int64) (b : Nat) : Bool := alB (doB L b l g) 0 64
theorem c_lettersDo {b : Nat} (hb : b < 16) (l g : Int64) : V PR (d + 2) 116 0 [(0, vR (some (170, 0))), (1, vi (nI b)), (2, vL l), (4, vL g)] [] (mm n I L P E c s) = some (.inl (some (vi (b2i (adP I L l g b)))), mm n I L P E c s) := by
  rw [k_X9_lettersDo_0]
  exact do_C hb l g 64 0 rfl
theorem few_in (hn : I 103 0 0 = nI (zN I)) (h4 : zN I ≤ 4) (l g : Int64) {m : Nat} (hm : m ≤ 4) : ∀ r b, b + r = 2 ^ zN I → V PR (d + 3) 115 30 [(0, vR (some (170, 0))), (2, vL l), (4, vL g), (6, vi (nI m)), (7, vi (nI b))] [] (mm n I L P E c s) = (match clB pcK (adP I L l g) m b r with
    | some x => some (.inl (some (vi (nI x))), mm n I L P E c s)
    | none => V PR (d + 3) 115 15 [(0, vR (some (170, 0))), (2, vL l), (4, vL g), (6, vi (nI (m + 1)))] [] (mm n I L P E c s))
  | 0, b, h => by
    have h16 : 2 ^ zN I ≤ 2 ^ 4 := Nat.pow_le_pow_right (by decide) h4
    rw [k_X9_fewestLetters_30, hn, shl31 _ (by omega), nI_led (by omega) (by omega), decide_eq_true (by omega), cond_true, nI_1]
    rfl
  | r + 1, b, h => by
    have h16 : 2 ^ zN I ≤ 2 ^ 4 := Nat.pow_le_pow_right (by decide) h4
    have A := few_in hn h4 l g hm r (b + 1) (by omega)
    have pb := pcK_le b
    have e1 : decide (nI (pcK b) = nI m) = decide (pcK b = m) := by rw [decide_eq_decide]; exact nI_eq (by omega) (by omega)
    have hS : clB pcK (adP I L l g) m b (r + 1) = bif decide (pcK b = m) && adP I L l g b then some b else clB pcK (adP I L l g) m (b + 1) r := rfl
    rw [hS, k_X9_fewestLetters_30, hn, shl31 _ (by omega), nI_led (by omega) (by omega), decide_eq_false (by omega), cond_false, c_bitI (by omega), Vk_v, k_X9_fewestLetters_49, e1, nI_1]
    cases decide (pcK b = m) with
    | false => exact A
    | true =>
      rw [Bool.not_true, cond_false, c_lettersDo (show b < 16 by omega), Vk_v, k_X9_fewestLetters_63, b2i_eq0, nI_1, Bool.true_and]
      cases adP I L l g b with
      | false => exact A
      | true => rfl
theorem few_out (hn : I 103 0 0 = nI (zN I)) (h4 : zN I ≤ 4) (l g : Int64) : ∀ r m, m + r = zN I + 1 → V PR (d + 3) 115 15 [(0, vR (some (170, 0))), (2, vL l), (4, vL g), (6, vi (nI m))] [] (mm n I L P E c s) = some (.inl (some (vi (opI (clM pcK (adP I L l g) (2 ^ zN I) m r)))), mm n I L P E c s)
  | 0, m, h => by
    rw [k_X9_fewestLetters_15, hn, nI_ltd (by omega) (by omega), decide_eq_true (by omega), cond_true]
    rfl
  | r + 1, m, h => by
    have A := few_out hn h4 l g r (m + 1) (by omega)
    have B := few_in (d := d) (n := n) (P := P) (E := E) (c := c) (s := s) (L := L) hn h4 l g (m := m) (by omega) (2 ^ zN I) 0 (Nat.zero_add _)
    have hS : clM pcK (adP I L l g) (2 ^ zN I) m (r + 1) = (match clB pcK (adP I L l g) m 0 (2 ^ zN I) with
      | some x => some x
      | none => clM pcK (adP I L l g) (2 ^ zN I) (m + 1) r) := rfl
    rw [hS, k_X9_fewestLetters_15, hn, nI_ltd (by omega) (by omega), decide_eq_false (by omega), cond_false]
    refine Eq.trans B ?_
    cases clB pcK (adP I L l g) m 0 (2 ^ zN I) with
    | some x => rfl
    | none => exact A
/-- whether letters do, by two states -/
def wdB (b : Nat) (l g : Int64) (s u : Nat) : Bool := !((tb l s && tb l u) && decide (nI s &&& nI b = nI u &&& nI b) && (tb g s != tb g u))
theorem wd_in (hT : RTold I) {b st : Nat} (hs : st < 2 ^ zB I) (l g : Int64) : ∀ r u, u + r = 2 ^ zB I → V PR (d + 1) 292 21 [(0, vR (some (186, 0))), (1, vi (nI b)), (2, vL l), (4, vL g), (6, vi (nI st)), (7, vi (nI u))] [] (mm n I L P E c s) = bif alB (wdB b l g st) u r then V PR (d + 1) 292 3 [(0, vR (some (186, 0))), (1, vi (nI b)), (2, vL l), (4, vL g), (6, vi (nI (st + 1)))] [] (mm n I L P E c s) else some (.inl (some (vi (0 : Int32))), mm n I L P E c s)
  | 0, u, h => by
    have h64 : 2 ^ zB I ≤ 2 ^ 6 := Nat.pow_le_pow_right (by decide) (zB_le hT)
    rw [k_X12_wouldDo_21, k_X12_statesOf_v2_0, Vk_v, k_X12_wouldDo_30, st_val hT, nI_led (by omega) (by omega), decide_eq_true (by omega), cond_true, nI_1]
    rfl
  | r + 1, u, h => by
    have h64 : 2 ^ zB I ≤ 2 ^ 6 := Nat.pow_le_pow_right (by decide) (zB_le hT)
    have A := wd_in hT hs (b := b) l g r (u + 1) (by omega)
    rw [k_X12_wouldDo_21, k_X12_statesOf_v2_0, Vk_v, k_X12_wouldDo_30, st_val hT, nI_led (by omega) (by omega), decide_eq_false (by omega), cond_false, two_in l (show st < 64 by omega) (show u < 64 by omega), two_un g (show st < 64 by omega) (show u < 64 by omega), nI_1]
    show _ = bif (!((tb l st && tb l u) && decide (nI st &&& nI b = nI u &&& nI b) && (tb g st != tb g u))) && alB (wdB b l g st) (u + 1) r then V PR (d + 1) 292 3 [(0, vR (some (186, 0))), (1, vi (nI b)), (2, vL l), (4, vL g), (6, vi (nI (st + 1)))] [] (mm n I L P E c s) else some (.inl (some (vi (0 : Int32))), mm n I L P E c s)
    cases tb l st && tb l u with
    | false => exact A
    | true =>
      cases decide (nI st &&& nI b = nI u &&& nI b) with
      | false => exact A
      | true =>
        cases tb g st != tb g u with
        | false => exact A
        | true => rfl
theorem wd_out (hT : RTold I) {b : Nat} (l g : Int64) : ∀ r st, st + r = 2 ^ zB I → V PR (d + 1) 292 3 [(0, vR (some (186, 0))), (1, vi (nI b)), (2, vL l), (4, vL g), (6, vi (nI st))] [] (mm n I L P E c s) = some (.inl (some (vi (b2i (alB (fun st => alB (wdB b l g st) (st + 1) (2 ^ zB I - (st + 1))) st r)))), mm n I L P E c s)
  | 0, st, h => by
    have h64 : 2 ^ zB I ≤ 2 ^ 6 := Nat.pow_le_pow_right (by decide) (zB_le hT)
    rw [k_X12_wouldDo_3, k_X12_statesOf_v2_0, Vk_v, k_X12_wouldDo_12, st_val hT, nI_led (by omega) (by omega), decide_eq_true (by omega), cond_true]
    rfl
  | r + 1, st, h => by
    have h64 : 2 ^ zB I ≤ 2 ^ 6 := Nat.pow_le_pow_right (by decide) (zB_le hT)
    have A := wd_out hT (b := b) l g r (st + 1) (by omega)
    rw [k_X12_wouldDo_3, k_X12_statesOf_v2_0, Vk_v, k_X12_wouldDo_12, st_val hT, nI_led (by omega) (by omega), decide_eq_false (by omega), cond_false, nI_1, wd_in hT (show st < 2 ^ zB I by omega) l g (2 ^ zB I - (st + 1)) (st + 1) (by omega)]
    show _ = some (Sum.inl (some (vi (b2i (alB (wdB b l g st) (st + 1) (2 ^ zB I - (st + 1)) && alB (fun st => alB (wdB b l g st) (st + 1) (2 ^ zB I - (st + 1))) (st + 1) r)))), mm n I L P E c s)
    cases alB (wdB b l g st) (st + 1) (2 ^ zB I - (st + 1)) with
    | true => exact A
    | false => rfl
def wdP (I : FI) (l g : Int64) (b : Nat) : Bool := alB (fun st => alB (wdB b l g st) (st + 1) (2 ^ zB I - (st + 1))) 0 (2 ^ zB I)
theorem c_wouldDo (hT : RTold I) {b : Nat} (l g : Int64) : V PR (d + 1) 292 0 [(0, vR (some (186, 0))), (1, vi (nI b)), (2, vL l), (4, vL g)] [] (mm n I L P E c s) = some (.inl (some (vi (b2i (wdP I l g b)))), mm n I L P E c s) := by
  rw [k_X12_wouldDo_0]
  exact wd_out hT l g (2 ^ zB I) 0 (Nat.zero_add _)
theorem and_nI {a b : Nat} (ha : a < 2 ^ 31) (hb : b < 2 ^ 31) : nI a &&& nI b = nI (a &&& b) := by
  have h : a &&& b ≤ a := Nat.and_le_left
  apply Int32.toBitVec_inj.mp
  apply BitVec.eq_of_toNat_eq
  rw [Int32.toBitVec_and, BitVec.toNat_and, pk_tn (by omega), pk_tn (by omega), pk_tn (by omega)]
theorem ak_iff {b s u : Nat} (hb : b < 16) (hs : s < 64) (hu : u < 64) : decide (nI s &&& nI b = nI u &&& nI b) = akB b s u 0 4 := by
  have h1 : s &&& b ≤ s := Nat.and_le_left
  have h2 : u &&& b ≤ u := Nat.and_le_left
  refine bool_iff ?_
  unfold akB
  rw [decide_eq_true_eq, and_nI (by omega) (by omega), and_nI (by omega) (by omega), nI_eq (by omega) (by omega), alB_iff]
  have tbe : ∀ x k, x.testBit k = decide (x / 2 ^ k % 2 = 1) := fun x k => Nat.testBit_eq_decide_div_mod_eq
  constructor
  · intro h k _ _
    have e : (s &&& b).testBit k = (u &&& b).testBit k := by rw [h]
    rw [Nat.testBit_and, Nat.testBit_and, tbe s, tbe u, tbe b] at e
    by_cases q : b / 2 ^ k % 2 = 1
    · rw [decide_eq_true q, Bool.and_true, Bool.and_true, decide_eq_decide] at e
      have m1 := Nat.mod_lt (s / 2 ^ k) (show 0 < 2 by decide)
      have m2 := Nat.mod_lt (u / 2 ^ k) (show 0 < 2 by decide)
      rw [decide_eq_true (show s / 2 ^ k % 2 = u / 2 ^ k % 2 by omega), Bool.or_true]
    · rw [decide_eq_false q]
      rfl
  · intro h
    refine Nat.eq_of_testBit_eq fun k => ?_
    rw [Nat.testBit_and, Nat.testBit_and]
    by_cases hk : k < 4
    · have e := h k (Nat.zero_le _) (by omega)
      simp only [tbe]
      by_cases q : b / 2 ^ k % 2 = 1
      · rw [decide_eq_true q] at e ⊢
        rw [Bool.not_true, Bool.false_or, decide_eq_true_eq] at e
        rw [e]
      · rw [decide_eq_false q, Bool.and_false, Bool.and_false]
    · have hp : 2 ^ 4 ≤ 2 ^ k := Nat.pow_le_pow_right (by decide) (by omega)
      have e0 : b.testBit k = false := by rw [tbe, Nat.div_eq_of_lt (by omega)]; rfl
      rw [e0, Bool.and_false, Bool.and_false]
theorem ad_wd (hT : RTold I) (hb : RBit L) {l g : Int64} (hl : ∀ j, 2 ^ zB I ≤ j → tb l j = false) {b : Nat} (hb16 : b < 16) : adP I L l g b = wdP I l g b := by
  have h64 : 2 ^ zB I ≤ 2 ^ 6 := Nat.pow_le_pow_right (by decide) (zB_le hT)
  have sym : ∀ s u, s < 64 → u < 64 → akB b s u 0 4 = akB b u s 0 4 := fun s u hs hu => by
    unfold akB
    refine alB_congr 4 0 fun k _ _ => ?_
    congr 1
    rw [decide_eq_decide]
    exact ⟨Eq.symm, Eq.symm⟩
  have hdo : ∀ s, s < 64 → (doB L b l g s = true ↔ (tb l s = true → ∀ u, u < 64 → tb l u = true → tb g s ≠ tb g u → akB b s u 0 4 = false)) := fun s hs => by
    unfold doB
    rw [Bool.or_eq_true, Bool.not_eq_true', decide_eq_true_eq]
    constructor
    · intro h h1 u hu h2 h3
      rcases h with h | h
      · rw [h1] at h; cases h
      · have e := congrArg (fun z => tb z u) h
        simp only [tb_and, tb_0, tb_unl l g hu, tb_ak hb hs hu 4 0 (-1) (by decide), tb_m1 hu, Bool.true_and] at e
        rw [h2, Bool.true_and, show (tb g s != tb g u) = true from by cases q1 : tb g s <;> cases q2 : tb g u <;> simp_all, Bool.true_and] at e
        exact e
    · intro h
      by_cases h1 : tb l s = true
      · right
        refine tb_ext fun u hu => ?_
        rw [tb_and, tb_0, tb_unl l g hu, tb_ak hb hs hu 4 0 (-1) (by decide), tb_m1 hu, Bool.true_and]
        cases h2 : tb l u with
        | false => rfl
        | true =>
          by_cases h3 : tb g s = tb g u
          · rw [h3]
            cases tb g u <;> rfl
          · rw [h h1 u hu h2 h3, Bool.and_false]
      · left
        cases q : tb l s with
        | false => rfl
        | true => exact absurd q h1
  have hwd : ∀ s u, s < 64 → u < 64 → (wdB b l g s u = true ↔ (tb l s = true → tb l u = true → tb g s ≠ tb g u → akB b s u 0 4 = false)) := fun s u hs hu => by
    unfold wdB
    rw [ak_iff hb16 hs hu]
    cases tb l s <;> cases tb l u <;> cases tb g s <;> cases tb g u <;> cases akB b s u 0 4 <;> decide
  refine bool_iff ?_
  unfold adP wdP
  rw [alB_iff, alB_iff]
  constructor
  · intro h s _ hs
    rw [alB_iff]
    intro u hu1 hu2
    rw [hwd s u (by omega) (by omega)]
    intro h1 h2 h3
    exact (hdo s (by omega)).mp (h s (Nat.zero_le _) (by omega)) h1 u (by omega) h2 h3
  · intro h s _ hs
    rw [hdo s (by omega)]
    intro h1 u hu h2 h3
    have b1 : s < 2 ^ zB I := Nat.lt_of_not_le fun q => by rw [hl s q] at h1; cases h1
    have b2 : u < 2 ^ zB I := Nat.lt_of_not_le fun q => by rw [hl u q] at h2; cases h2
    rcases Nat.lt_trichotomy s u with q | q | q
    · have := h s (Nat.zero_le _) (by omega)
      rw [alB_iff] at this
      exact (hwd s u (by omega) (by omega)).mp (this u (by omega) (by omega)) h1 h2 h3
    · subst q; exact absurd rfl h3
    · have := h u (Nat.zero_le _) (by omega)
      rw [alB_iff] at this
      rw [sym s u (by omega) (by omega)]
      exact (hwd u s (by omega) (by omega)).mp (this s (by omega) (by omega)) h2 h1 (fun q => h3 q.symm)
theorem atoms_R (hT : RTold I) (hw : RWell I) (hv : RVein I) (hc : 487 ≤ c) (hd : RDia I L) {x : Nat} (hx : x < 365) (hQ : QOk I 6) : ∀ r e (o : Option Nat) (J : FI), e + r = 2 ^ zN I → Off I J → (∀ k, o = some k → k < 16) → ∃ J' : FI, Off I J' ∧ V PR (d + 5) 293 32 [(0, vR (some (186, 0))), (1, vi (nI x)), (2, vi (opI o)), (3, vi (nI e))] [] (mm n J L P E c s) = some (.inl (some (vi (opI (raV pcK (wdP I (lefV I L (-1) (zA I)) (sL I 6 x)) e o r)))), mm n J' L P E c s)
  | 0, e, o, J, he, hJ, ho => by
    refine ⟨J, hJ, ?_⟩
    have h4 := hT.1.2.2
    have h16 : 2 ^ zN I ≤ 2 ^ 4 := Nat.pow_le_pow_right (by decide) h4
    rw [k_X12_atoms_32, hJ 190 0 0 (by decide), hT.1.1, shl31 _ (by omega), nI_led (by omega) (by omega), decide_eq_true (by omega), cond_true]
    rfl
  | r + 1, e, o, J, he, hJ, ho => by
    have h4 := hT.1.2.2
    have h16 : 2 ^ zN I ≤ 2 ^ 4 := Nat.pow_le_pow_right (by decide) h4
    have kj : Kp c I J := hJ.kp
    have el : lefV J L (-1) (zA J) = lefV I L (-1) (zA I) := by rw [lef_k kj Kp.rfl' hc, (kz kj hc).2.2.2.2.2.1]
    obtain ⟨J1, m1, s1⟩ := c_statesBy (d := d) (n := n) (L := L) (P := P) (E := E) (c := c) (s := s) hT hw hv hc (show 6 < 7 by decide) hQ hx hJ
    have eB : zB J1 = zB I := (kz (c := c) (m1.kp) hc).2.2.2.2.2.2.2.2.2
    have eP : wdP J1 (lefV I L (-1) (zA I)) (sL I 6 x) e = wdP I (lefV I L (-1) (zA I)) (sL I 6 x) e := by unfold wdP; rw [eB]
    have A := fun o (ho : ∀ k, o = some k → k < 16) => atoms_R hT hw hv hc hd hx hQ r (e + 1) o J1 (by omega) m1 ho
    have A0 := atoms_R hT hw hv hc hd hx hQ r (e + 1) o J (by omega) hJ ho
    have hS : raV pcK (wdP I (lefV I L (-1) (zA I)) (sL I 6 x)) e o (r + 1) = raV pcK (wdP I (lefV I L (-1) (zA I)) (sL I 6 x)) (e + 1) (raS pcK (wdP I (lefV I L (-1) (zA I)) (sL I 6 x)) e o) r := rfl
    obtain ⟨p, hp⟩ : ∃ p, p = wdP I (lefV I L (-1) (zA I)) (sL I 6 x) := ⟨_, rfl⟩
    rw [← hp] at hS eP A A0 ⊢
    have tail : ∀ z : Int32, ∃ J' : FI, Off I J' ∧ Vk (d + 4) 293 65 [vi (nI e), vR (some (186, 0))] [(0, vR (some (186, 0))), (1, vi (nI x)), (2, vi z), (3, vi (nI e))] (V PR (d + 4) 269 0 [(0, vR (some (186, 0)))] [] (mm n J L P E c s)) = (bif p e then V PR (d + 5) 293 32 [(0, vR (some (186, 0))), (1, vi (nI x)), (2, vi (nI e)), (3, vi (nI (e + 1)))] [] (mm n J' L P E c s) else V PR (d + 5) 293 32 [(0, vR (some (186, 0))), (1, vi (nI x)), (2, vi z), (3, vi (nI (e + 1)))] [] (mm n J' L P E c s)) ∧ J' = J1 := fun z => by
      refine ⟨J1, m1, ?_, rfl⟩
      rw [c_leftNow (hT.keep kj hc) (hd.keep kj Kp.rfl' hc), Vk_v, k_X12_atoms_68, el, show (6 : Int32) = nI 6 from rfl, s1, Vk_v, k_X12_atoms_75, c_wouldDo (hT.keep (m1.kp (c := c)) hc), Vk_v, eP, k_X12_atoms_78, b2i_eq0, nI_1]
      cases p e <;> rfl
    rw [hS, k_X12_atoms_32, hJ 190 0 0 (by decide), hT.1.1, shl31 _ (by omega), nI_led (by omega) (by omega), decide_eq_false (by omega), cond_false]
    cases o with
    | none =>
      rw [show decide (opI none = -1) = true from rfl, cond_true]
      obtain ⟨J', q1, q2, rfl⟩ := tail (opI none)
      rw [q2]
      have e1 : raS pcK p e none = bif p e then some e else none := rfl
      rw [e1]
      cases p e with
      | true => exact A (some e) (fun k hk => by have : e = k := Option.some.inj hk; omega)
      | false => exact A none ho
    | some y =>
      have hy := ho y rfl
      have pa := pcK_le e
      have pb := pcK_le y
      rw [show opI (some y) = nI y from rfl, decide_eq_false (m1_ne (k := y) (by omega)), cond_false, c_onesI (show e < 2 ^ 31 by omega), Vk_v, k_X12_atoms_54, c_onesI (show y < 2 ^ 31 by omega), Vk_v, k_X12_atoms_59, nI_led (by omega) (by omega), nI_1]
      have e1 : raS pcK p e (some y) = bif decide (pcK e < pcK y) && p e then some e else some y := rfl
      rw [e1]
      by_cases hlt : pcK e < pcK y
      · rw [decide_eq_true hlt, decide_eq_false (show ¬ pcK y ≤ pcK e by omega), cond_false, Bool.true_and]
        obtain ⟨J', q1, q2, rfl⟩ := tail (nI y)
        rw [q2]
        cases p e with
        | true => exact A (some e) (fun k hk => by have : e = k := Option.some.inj hk; omega)
        | false => exact A (some y) ho
      · rw [decide_eq_false hlt, decide_eq_true (show pcK y ≤ pcK e by omega), cond_true, Bool.false_and]
        exact A0
theorem g_atoms (h : Rl t I L P E c s) (hn : 6 * t + 6 ≤ n) (hN : n ≤ 3072) (ht : t ≤ 600) : LGo (d + 30) n t 29 I L P E c s := by
  refine en_29 h hn hN fun x hx ex h1 => ?_
  have H := h.cls ht
  obtain ⟨hT, hl, hw, hv, hbt, hP, hc, -⟩ := id H
  have hd : RDia I L := h.2.2.2.2.2.2.1
  have h4 := hT.1.2.2
  have h16 : 2 ^ zN I ≤ 2 ^ 4 := Nat.pow_le_pow_right (by decide) h4
  obtain ⟨J, K, r0, d0⟩ := x_soOn (d := d + 23) (n := n) (s := s) H h.cw0 (show 6 < 7 by decide) hx
  have w1 : Cw t I L J K := h.cw0.tr d0
  have hnJ : J 103 0 0 = nI (zN J) := by
    rw [w1.1 103 0 0 (.inl rfl), (kz (w1.1.kp (c := c)) hc).1]
    exact hl.1.trans hT.1.1
  have r1 := few_out (d := d + 24) (n := n) (P := P) (E := E) (c := c) (s := s) (I := J) (L := K) hnJ (by rw [(kz (w1.1.kp (c := c)) hc).1]; exact h4) (lefV I L (-1) (zA I)) (sL I 6 x) (zN J + 1) 0 (Nat.zero_add _)
  rw [(kz (w1.1.kp (c := c)) hc).1] at r1
  have hpc : ∀ y, y < 2 ^ zN I → pcK y ≤ zN I := fun y hy => by
    by_cases e : y < 2 ^ zN I - 1
    · exact Nat.le_of_lt (pc_lt (by omega) e)
    · rw [show y = 2 ^ zN I - 1 by omega]
      have key : ∀ a, a ≤ 4 → pcK (2 ^ a - 1) ≤ a := by decide +kernel
      exact key _ h4
  have hpe : ∀ b, b < 2 ^ zN I → adP J K (lefV I L (-1) (zA I)) (sL I 6 x) b = wdP I (lefV I L (-1) (zA I)) (sL I 6 x) b := fun b hb => by
    have e1 : wdP J (lefV I L (-1) (zA I)) (sL I 6 x) b = wdP I (lefV I L (-1) (zA I)) (sL I 6 x) b := by
      unfold wdP
      rw [(kz (w1.1.kp (c := c)) hc).2.2.2.2.2.2.2.2.2]
    rw [← e1]
    refine ad_wd (hT.keep (w1.1.kp (c := c)) hc) (hbt.keep (w1.2.1.kp (c := c)) hc) (fun j hj => ?_) (by omega)
    rw [(kz (w1.1.kp (c := c)) hc).2.2.2.2.2.2.2.2.2] at hj
    exact lef_hi hT _ _ hj
  rw [few_atoms hpc] at r1
  have hcong : ∀ r e o, e + r = 2 ^ zN I → raV pcK (adP J K (lefV I L (-1) (zA I)) (sL I 6 x)) e o r = raV pcK (wdP I (lefV I L (-1) (zA I)) (sL I 6 x)) e o r := by
    intro r
    induction r with
    | zero => intro e o _; rfl
    | succ r ih =>
      intro e o he
      have e1 : raS pcK (adP J K (lefV I L (-1) (zA I)) (sL I 6 x)) e o = raS pcK (wdP I (lefV I L (-1) (zA I)) (sL I 6 x)) e o := by
        cases o with
        | none => show (bif adP J K (lefV I L (-1) (zA I)) (sL I 6 x) e then some e else none) = (bif wdP I (lefV I L (-1) (zA I)) (sL I 6 x) e then some e else none); rw [hpe e (by omega)]
        | some y => show (bif decide (pcK e < pcK y) && adP J K (lefV I L (-1) (zA I)) (sL I 6 x) e then some e else some y) = (bif decide (pcK e < pcK y) && wdP I (lefV I L (-1) (zA I)) (sL I 6 x) e then some e else some y); rw [hpe e (by omega)]
      show raV pcK (adP J K (lefV I L (-1) (zA I)) (sL I 6 x)) (e + 1) (raS pcK (adP J K (lefV I L (-1) (zA I)) (sL I 6 x)) e o) r = raV pcK (wdP I (lefV I L (-1) (zA I)) (sL I 6 x)) (e + 1) (raS pcK (wdP I (lefV I L (-1) (zA I)) (sL I 6 x)) e o) r
      rw [e1, ih (e + 1) _ (by omega)]
  rw [hcong _ _ _ (Nat.zero_add _)] at r1
  obtain ⟨o, ho⟩ : ∃ o, o = opI (raV pcK (wdP I (lefV I L (-1) (zA I)) (sL I 6 x)) 0 none (2 ^ zN I)) := ⟨_, rfl⟩
  rw [← ho] at r1
  have A : V PR (d + 28) 164 0 [(0, (vR (some (100, 0)))), (1, (vi (sc I t 1)))] [] (mm n I L P E c s) = some (.inl (some (vi o)), mm n J K P E c s) := by
    refine (cp_29 (d := d + 26) hT hl h1).trans ?_
    rw [ex, k_X11_atoms_5, c_statesLeft hT hl hd, Vk_v, k_X11_atoms_14, k_X9_fewestLetters_0, show (6 : Int32) = nI 6 from rfl, r0, Vk_v, k_X9_fewestLetters_10]
    refine (congrArg (Vk (d + 27) 164 14 [] _) r1).trans ?_
    rw [Vk_v, k_X11_atoms_17]
  obtain ⟨lv, hlv⟩ : ∃ lv, lv = o.toInt64 := ⟨_, rfl⟩
  obtain ⟨m1, m2, m3, m4, m5, k, m7, m8, -⟩ := mid_R h w1 lv
  obtain ⟨M, g1, g2⟩ := atoms_R (d := d + 24) (n := n) (P := P) (E := E) (s := s) m1 m2 m3 hc m4 hx (m5 6 (by decide)) (2 ^ zN I) 0 none _ (by rw [(kz k hc).1]; omega) Off.rfl' (fun k hk => by cases hk)
  have eP : wdP (up3 J 186 0 0 0) = wdP I := by
    funext l g b
    unfold wdP
    rw [(kz k hc).2.2.2.2.2.2.2.2.2]
  rw [m7, eP, sL_k k hc, ← ho] at g2
  have B : V PR (d + 29) 293 0 [(0, (vR (some (186, 0)))), (1, (vi (sc I t 1)))] [] (mm n J (up3 K 486 0 0 lv) P E c s) = some (.inl (some (vi o)), mm n M (up3 K 486 0 0 lv) P E c s) := by
    refine (rp_29 (d := d + 26) m8 h1).trans ?_
    rw [ex, k_X12_atoms_23, d0t, cond_true]
    exact g2
  rw [hlv] at B
  exact gb_29 (d := d + 28) _ h hn hN A B w1 (Rx.thr.tr g1.rx) Rx.rfl' (h.rstm.off w1.1 g1) ((g1 186 0 0 (by decide)).trans (up3_i _ _ _ _ _))
end Atoms
