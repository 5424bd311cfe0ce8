/-! THE TONGUE: the class reads one. -/
section PhrO
variable {B : Nat → Nat} {n N wn : Nat} {wl : Nat → Nat} {d nn : Nat} {I J : FI} {L : FL} {P : FR} {E : FE} {c s p : Nat} {cs : List (Nat × Nat)}
noncomputable def opV (B : Nat → Nat) (n p : Nat) : Int32 := bif sgB B n p 91 then 0 else bif isW B n p (prgT 13) then 1 else bif isW B n p (prgT 14) then 2 else bif isW B n p (prgT 15) then 3 else -1
theorem c_opener (hT : TxC B n I) (hk : TkC B n I p) : V PR (d + 1) 77 0 [(0, vR (some (143, 0)))] [] (mm nn I L P E c s) = some (.inl (some (vi (opV B n p))), mm nn I L P E c s) := by
  have S : V PR d 123 0 [(0, vR (some (102, 0))), (1, vi (91 : Int32))] [] (mm nn I L P E c s) = some (.inl (some (vi (b2i (sgB B n p 91)))), mm nn I L P E c s) := c_sign (w := 91) (by decide) hT hk
  unfold opV
  rw [k_X6_opener_0, S, Vk_v, k_X6_opener_9, b2i_eq0]
  cases sgB B n p 91 with
  | true => rfl
  | false =>
    rw [Bool.not_false, cond_true, cond_false, cw_13 hT hk, Vk_v, k_X6_opener_25, b2i_eq0]
    cases isW B n p (prgT 13) with
    | true => rfl
    | false =>
      rw [Bool.not_false, cond_true, cond_false, cw_14 hT hk, Vk_v, k_X6_opener_41, b2i_eq0]
      cases isW B n p (prgT 14) with
      | true => rfl
      | false =>
        rw [Bool.not_false, cond_true, cond_false, cw_15 hT hk, Vk_v, k_X6_opener_57, b2i_eq0]
        cases isW B n p (prgT 15) <;> rfl
theorem lbP_sup (hN : N ≤ 4) : ∀ r i b b1, b < 16 → lbP B N r i b = some b1 → b1 < 16 ∧ ∀ j, b.testBit j = true → b1.testBit j = true
  | 0, i, b, b1, hb, h => by
    have e : b = b1 := Option.some.inj h
    subst e
    exact ⟨hb, fun _ g => g⟩
  | r + 1, i, b, b1, hb, h => by
    unfold lbP at h
    cases hc : decide (N ≤ B i - 97) || b.testBit (B i - 97) with
    | true => rw [hc] at h; cases h
    | false =>
      rw [hc, cond_false] at h
      rw [Bool.or_eq_false_iff] at hc
      have hx : B i - 97 < 4 := by have := of_decide_eq_false hc.1; omega
      obtain ⟨g1, g2⟩ := lbP_sup hN r (i + 1) _ b1 (or_nIb hb hx).2 h
      exact ⟨g1, fun j hj => g2 j (by rw [Nat.testBit_or, hj]; rfl)⟩
theorem pc_two0 : ∀ b, b < 16 → ∀ x, x < 4 → ∀ y, y < 4 → (decide (x = y) || (!b.testBit x || (!b.testBit y || !decide (pcK b = 1)))) = true := by decide +kernel
theorem pc_two (b : Nat) (hb : b < 16) (x : Nat) (hx : x < 4) (y : Nat) (hy : y < 4) (hne : x ≠ y) (h1 : b.testBit x = true) (h2 : b.testBit y = true) : pcK b ≠ 1 := fun e => by
  have h := pc_two0 b hb x hx y hy
  rw [decide_eq_false hne, h1, h2, decide_eq_true e] at h
  cases h
theorem lb_two (hN : N ≤ 4) {r i b1 : Nat} (h : lbP B N (r + 2) i 0 = some b1) : pcK b1 ≠ 1 := by
  unfold lbP at h
  cases hc : decide (N ≤ B i - 97) || (0 : Nat).testBit (B i - 97) with
  | true => rw [hc] at h; cases h
  | false =>
    rw [hc, cond_false] at h
    unfold lbP at h
    cases hc2 : decide (N ≤ B (i + 1) - 97) || (0 ||| 2 ^ (B i - 97)).testBit (B (i + 1) - 97) with
    | true => rw [hc2] at h; cases h
    | false =>
      rw [hc2, cond_false] at h
      rw [Bool.or_eq_false_iff] at hc hc2
      have hx : B i - 97 < 4 := by have := of_decide_eq_false hc.1; omega
      have hy : B (i + 1) - 97 < 4 := by have := of_decide_eq_false hc2.1; omega
      have b1' := (or_nIb (b := 0) (by decide) hx).2
      obtain ⟨g1, g2⟩ := lbP_sup hN r (i + 1 + 1) _ b1 (or_nIb b1' hy).2 h
      have hne : B i - 97 ≠ B (i + 1) - 97 := fun e => by
        have q := hc2.2
        rw [← e, Nat.testBit_or, Nat.testBit_two_pow_self, Bool.or_true] at q
        cases q
      exact pc_two b1 g1 _ hx _ hy hne (g2 _ (by rw [Nat.testBit_or, Nat.testBit_or, Nat.testBit_two_pow_self, Bool.or_true, Bool.true_or])) (g2 _ (by rw [Nat.testBit_or, Nat.testBit_two_pow_self, Bool.or_true]))
theorem one_no {o : Nat} (h : atB B n N p = false) (hT : TxC B n I) (hk : TkC B n I p) (hL : LdC N wn wl I) : V PR (d + 2) 76 0 [(0, vR (some (143, 0))), (1, vi (nI o))] [] (mm nn I L P E c s) = V PR (d + 2) 76 63 [(0, vR (some (143, 0))), (1, vi (nI o))] [vi (opV B n p)] (mm nn I L P E c s) := by
  have op := c_opener (d := d) (nn := nn) (L := L) (P := P) (E := E) (c := c) (s := s) hT hk
  rw [k_X6_readOne_0, show decide (I 102 0 2 = (1 : Int32)) = smB B n p from (kd_w hk 1 (by decide)).trans kd_1]
  cases hs : smB B n p with
  | false => rw [Bool.not_false, cond_true, op, Vk_v]
  | true =>
    rw [Bool.not_true, cond_false, hL.1, c_letb hL.2.1 hT hk hs, Vk_v, k_X6_readOne_25]
    cases hb : lbP B N (wd B n p - p) p 0 with
    | none =>
      rw [show opI none = (-1 : Int32) from rfl, m1_lt, cond_true, op, Vk_v]
    | some b =>
      have hg := wd_gt hs
      obtain ⟨b16, -⟩ := lbP_sup hL.2.1 _ _ _ _ (by decide) hb
      have hne : pcK b ≠ 1 := by
        by_cases q : wd B n p = p + 1
        · rw [show wd B n p - p = 0 + 1 by omega] at hb
          unfold lbP at hb
          unfold atB at h
          rw [hs, Bool.true_and, decide_eq_true q, Bool.true_and, decide_eq_false_iff_not] at h
          rw [decide_eq_true (show N ≤ B p - 97 by omega), Bool.true_or, cond_true] at hb
          cases hb
        · rw [show wd B n p - p = (wd B n p - p - 2) + 2 by omega] at hb
          exact lb_two hL.2.1 hb
      have hp : ∀ b, b < 16 → pcK b < 100 := by decide +kernel
      rw [show opI (some b) = nI b from rfl, lt0 (by omega), cond_false, c_bitI (by omega), Vk_v, k_X6_readOne_38, show decide (nI (pcK b) = (1 : Int32)) = false from decide_eq_false fun e => hne ((nI_eq (b := 1) (by have := hp b b16; omega) (by decide)).mp e), Bool.not_false, cond_true, op, Vk_v]
theorem c_ntz4 {x : Nat} (hx : x < 4) : V PR d 1 0 [(0, vi (nI (2 ^ x)))] [] (mm nn I L P E c s) = some (.inl (some (vi (nI x))), mm nn I L P E c s) := by
  rcases (show x = 0 ∨ x = 1 ∨ x = 2 ∨ x = 3 by omega) with rfl | rfl | rfl | rfl
  · rw [k_J6_numberOfTrailingZeros_0f7a4_0, show (nI (2 ^ 0) ^^^ (-1 : Int32)) &&& (nI (2 ^ 0) - 1) = 0 by decide +kernel, show decide ((0 : Int32) < 0) = false by decide +kernel, cond_false]
    exact congrArg (fun z : Int32 => (some (Sum.inl (some (vi z)), mm nn I L P E c s) : Option (Out × Mem))) (by decide +kernel)
  · rw [k_J6_numberOfTrailingZeros_0f7a4_0, show (nI (2 ^ 1) ^^^ (-1 : Int32)) &&& (nI (2 ^ 1) - 1) = 1 by decide +kernel, show decide ((0 : Int32) < 1) = true by decide +kernel, cond_true, show decide ((1 : Int32) ≤ 65536) = true by decide +kernel, cond_true, show decide ((1 : Int32) ≤ 256) = true by decide +kernel, cond_true, show decide ((1 : Int32) ≤ 16) = true by decide +kernel, cond_true, show decide ((1 : Int32) ≤ 4) = true by decide +kernel, cond_true]
    exact congrArg (fun z : Int32 => (some (Sum.inl (some (vi z)), mm nn I L P E c s) : Option (Out × Mem))) (by decide +kernel)
  · rw [k_J6_numberOfTrailingZeros_0f7a4_0, show (nI (2 ^ 2) ^^^ (-1 : Int32)) &&& (nI (2 ^ 2) - 1) = 3 by decide +kernel, show decide ((0 : Int32) < 3) = true by decide +kernel, cond_true, show decide ((3 : Int32) ≤ 65536) = true by decide +kernel, cond_true, show decide ((3 : Int32) ≤ 256) = true by decide +kernel, cond_true, show decide ((3 : Int32) ≤ 16) = true by decide +kernel, cond_true, show decide ((3 : Int32) ≤ 4) = true by decide +kernel, cond_true]
    exact congrArg (fun z : Int32 => (some (Sum.inl (some (vi z)), mm nn I L P E c s) : Option (Out × Mem))) (by decide +kernel)
  · rw [k_J6_numberOfTrailingZeros_0f7a4_0, show (nI (2 ^ 3) ^^^ (-1 : Int32)) &&& (nI (2 ^ 3) - 1) = 7 by decide +kernel, show decide ((0 : Int32) < 7) = true by decide +kernel, cond_true, show decide ((7 : Int32) ≤ 65536) = true by decide +kernel, cond_true, show decide ((7 : Int32) ≤ 256) = true by decide +kernel, cond_true, show decide ((7 : Int32) ≤ 16) = true by decide +kernel, cond_true, show decide ((7 : Int32) ≤ 4) = false by decide +kernel, cond_false]
    exact congrArg (fun z : Int32 => (some (Sum.inl (some (vi z)), mm nn I L P E c s) : Option (Out × Mem))) (by decide +kernel)
theorem one_at {o : Nat} (h150 : n ≤ 150) (h : atB B n N p = true) (hS : StC B n I p cs) (hL : LdC N wn wl I) (hl : cs.length ≤ p) : ∃ (v : Int32) (J : FI), V PR (d + 2) 76 0 [(0, vR (some (143, 0))), (1, vi (nI o))] [] (mm nn I L P E c s) = some (.inl (some (vi v)), mm nn J L P E c s) ∧ PoC B n (atR B n p cs) v J ∧ FxP I J := by
  obtain ⟨hs, h1, h2⟩ := at_ok h
  have hlt := sm_lt hs
  have h4 := hL.2.1
  have hx : B p - 97 < 4 := by omega
  have hb : lbP B N (wd B n p - p) p 0 = some (0 ||| 2 ^ (B p - 97)) := by
    rw [show wd B n p - p = 0 + 1 by omega]
    unfold lbP
    rw [decide_eq_false (show ¬ N ≤ B p - 97 by omega), Nat.zero_testBit, Bool.or_self, cond_false]
    rfl
  rw [Nat.zero_or] at hb
  have hp2 : 2 ^ (B p - 97) ≤ 2 ^ 3 := Nat.pow_le_pow_right (by decide) (by omega)
  have hp1 : ∀ x, x < 4 → pcK (2 ^ x) = 1 := by decide +kernel
  have S2 := hS.put (x := (0, B p - 97))
  have e0 : stpC (0, B p - 97) = nI (B p - 97) := rfl
  rw [e0] at S2
  obtain ⟨J, r1, s1, f1⟩ := S2.next (d := d + 1) (nn := nn) (L := L) (P := P) (E := E) (c := c) (s := s)
  rw [en_w hs, h1] at s1
  refine ⟨_, J, ?_, ⟨rfl, s1⟩, (FxP.rfl'.put).tr f1.p⟩
  rw [k_X6_readOne_0, show decide (I 102 0 2 = (1 : Int32)) = smB B n p from (kd_w hS.2.1 1 (by decide)).trans kd_1, hs, Bool.not_true, cond_false, hL.1, c_letb h4 hS.1 hS.2.1 hs, hb, Vk_v, k_X6_readOne_25, show opI (some (2 ^ (B p - 97))) = nI (2 ^ (B p - 97)) from rfl, lt0 (by omega), cond_false, c_bitI (by omega), Vk_v, k_X6_readOne_38, hp1 _ hx, show (!decide (nI 1 = (1 : Int32))) = false by decide +kernel, cond_false, c_ntz4 hx, Vk_v, k_X6_readOne_47, c_step (by omega) hS.2.2.1, Vk_n, k_X6_readOne_50, r1, Vk_n, k_X6_readOne_57]
  rfl
/-- a method that reads a part behind what opens it -/
def CtD (B : Nat → Nat) (n N wn : Nat) (wl : Nat → Nat) (dd m o : Nat) (f : Nat → List (Nat × Nat) → Rs) : Prop := ∀ (nn : Nat) (L : FL) (P : FR) (E : FE) (c s p : Nat) (cs : List (Nat × Nat)) (I : FI), StC B n I p cs → LdC N wn wl I → blB B n p = false → cs.length < p → ∃ (v : Int32) (J : FI), V PR dd m 0 [(0, vR (some (143, 0))), (1, vi (nI o))] [] (mm nn I L P E c s) = some (.inl (some (vi v)), mm nn J L P E c s) ∧ PoC B n (f p cs) v J ∧ FxP I J
theorem flC_6 {I : FI} {k p : Nat} : (flC I k p) 102 0 6 = nI k ∧ (flC I k p) 102 0 7 = nI p := by
  unfold flC
  exact ⟨by rw [up3_k (by decide), up3_i], up3_i _ _ _ _ _⟩
theorem ph_78 {dd o : Nat} {any : Nat → List (Nat × Nat) → Rs} (ho : CtC B n N wn wl (dd + 1) 74 o any) (hg : GRs B n N wn any) : CtD B n N wn wl (dd + 2) 78 o (fun q cs => bnd (any q cs) (fun p1 c1 A W => bif sgB B n p1 93 then .inr (sk B n (p1 + 1), c1, A, W) else .inl (1, p1))) := fun nn L P E c s p cs I hS hL hb hl => by
  obtain ⟨v2, J2, r2, s2, f2⟩ := ho nn L P E c s p cs I hS hL hb (by omega)
  have gg := hg p cs hS.2.1.1 hb
  show ∃ (v : Int32) (J : FI), _ ∧ PoC B n (bnd (any p cs) (fun p1 c1 A W => bif sgB B n p1 93 then .inr (sk B n (p1 + 1), c1, A, W) else .inl (1, p1))) v J ∧ FxP I J
  rw [k_X6_readBracket_0, r2, Vk_v, k_X6_readBracket_5]
  cases hr : any p cs with
  | inl x =>
    obtain ⟨k, z⟩ := x
    rw [hr] at s2
    refine ⟨-1, J2, ?_, ⟨rfl, s2.2⟩, f2⟩
    rw [s2.1, m1_ge, cond_false]
  | inr x =>
    obtain ⟨p1, c1, A1, W1⟩ := x
    rw [hr] at s2 gg
    obtain ⟨s3, s4⟩ := s2
    obtain ⟨e1, e2, e3, e4, e5, e6, e7, e8⟩ := id gg
    have S : V PR (dd + 1) 123 0 [(0, vR (some (102, 0))), (1, vi (93 : Int32))] [] (mm nn J2 L P E c s) = some (.inl (some (vi (b2i (sgB B n p1 93)))), mm nn J2 L P E c s) := c_sign (w := 93) (by decide) s4.1 s4.2.1
    rw [s3, ge0 (by omega), cond_true, S, Vk_v, k_X6_readBracket_21, b2i_ne0]
    show ∃ (v : Int32) (J : FI), _ ∧ PoC B n (bif sgB B n p1 93 then .inr (sk B n (p1 + 1), c1, A1, W1) else .inl (1, p1)) v J ∧ FxP I J
    cases h93 : sgB B n p1 93 with
    | true =>
      obtain ⟨J3, r3, s5, f3⟩ := s4.next (d := dd + 1) (nn := nn) (L := L) (P := P) (E := E) (c := c) (s := s)
      rw [en_sg h93] at s5
      refine ⟨_, J3, ?_, ⟨rfl, s5⟩, f2.tr f3.p⟩
      rw [cond_true, r3, Vk_n, k_X6_readBracket_40]
    | false =>
      have F : V PR (dd + 1) 121 0 [(0, vR (some (102, 0))), (1, vi (1 : Int32))] [] (mm nn J2 L P E c s) = some (.inl (some (vi (-1 : Int32))), mm nn (flC J2 1 p1) L P E c s) := c_fail 1 s4.2.1
      refine ⟨-1, flC J2 1 p1, ?_, ⟨rfl, flC_6⟩, f2.fl⟩
      rw [cond_false, F, Vk_v, k_X6_readBracket_32]
theorem ph_79 {dd o : Nat} {one : Nat → List (Nat × Nat) → Rs} (h150 : n ≤ 150) (ho : CtC B n N wn wl (dd + 1) 76 o one) (hg : GRs B n N wn one) : CtD B n N wn wl (dd + 2) 79 o (fun q cs => bnd (one q cs) (fun p1 c1 A W => .inr (p1, (1, 0) :: c1, A, W))) := fun nn L P E c s p cs I hS hL hb hl => by
  obtain ⟨v2, J2, r2, s2, f2⟩ := ho nn L P E c s p cs I hS hL hb (by omega)
  have gg := hg p cs hS.2.1.1 hb
  show ∃ (v : Int32) (J : FI), _ ∧ PoC B n (bnd (one p cs) (fun p1 c1 A W => .inr (p1, (1, 0) :: c1, A, W))) v J ∧ FxP I J
  rw [k_X6_readNot_0, r2, Vk_v, k_X6_readNot_5]
  cases hr : one p cs with
  | inl x =>
    obtain ⟨k, z⟩ := x
    rw [hr] at s2
    refine ⟨-1, J2, ?_, ⟨rfl, s2.2⟩, f2⟩
    rw [s2.1, m1_lt, cond_true]
  | inr x =>
    obtain ⟨p1, c1, A1, W1⟩ := x
    rw [hr] at s2 gg
    obtain ⟨s3, s4⟩ := s2
    obtain ⟨e1, e2, e3, e4, e5, e6, e7, e8⟩ := id gg
    have S5 := s4.put (x := (1, 0))
    rw [show stpC (1, 0) = (7 : Int32) from rfl] at S5
    refine ⟨_, putC J2 c1.length 7, ?_, ⟨rfl, S5⟩, f2.put⟩
    rw [s3, lt0 (by omega), cond_false, c_step (by omega) s4.2.2.1, Vk_n, k_X6_readNot_16]
theorem ph_80 {dd o : Nat} {one : Nat → List (Nat × Nat) → Rs} (h150 : n ≤ 150) (ho : CtC B n N wn wl (dd + 1) 76 o one) (hg : GRs B n N wn one) : CtD B n N wn wl (dd + 2) 80 o (fun q cs => bnd (one q cs) (fun p1 c1 A W => bif isW B n p1 (prgT 16) then bnd (one (sk B n (wd B n p1)) c1) (fun p2 c2 A2 W2 => .inr (p2, (4, 0) :: c2, A ||| A2, W ||| W2)) else .inl (1, p1))) := fun nn L P E c s p cs I hS hL hb hl => by
  obtain ⟨v2, J2, r2, s2, f2⟩ := ho nn L P E c s p cs I hS hL hb (by omega)
  have gg := hg p cs hS.2.1.1 hb
  show ∃ (v : Int32) (J : FI), _ ∧ PoC B n (bnd (one p cs) (fun p1 c1 A W => bif isW B n p1 (prgT 16) then bnd (one (sk B n (wd B n p1)) c1) (fun p2 c2 A2 W2 => .inr (p2, (4, 0) :: c2, A ||| A2, W ||| W2)) else .inl (1, p1))) v J ∧ FxP I J
  rw [k_X6_readIf_0, r2, Vk_v, k_X6_readIf_5]
  cases hr : one p cs with
  | inl x =>
    obtain ⟨k, z⟩ := x
    rw [hr] at s2
    refine ⟨-1, J2, ?_, ⟨rfl, s2.2⟩, f2⟩
    rw [s2.1, m1_ge, cond_false]
  | inr x =>
    obtain ⟨p1, c1, A1, W1⟩ := x
    rw [hr] at s2 gg
    obtain ⟨s3, s4⟩ := s2
    obtain ⟨e1, e2, e3, e4, e5, e6, e7, e8⟩ := id gg
    rw [s3, ge0 (by omega), cond_true, cw_16 s4.1 s4.2.1, Vk_v, k_X6_readIf_21, b2i_ne0]
    show ∃ (v : Int32) (J : FI), _ ∧ PoC B n (bif isW B n p1 (prgT 16) then bnd (one (sk B n (wd B n p1)) c1) (fun p2 c2 A2 W2 => .inr (p2, (4, 0) :: c2, A1 ||| A2, W1 ||| W2)) else .inl (1, p1)) v J ∧ FxP I J
    cases h16 : isW B n p1 (prgT 16) with
    | false =>
      have F : V PR (dd + 1) 121 0 [(0, vR (some (102, 0))), (1, vi (1 : Int32))] [] (mm nn J2 L P E c s) = some (.inl (some (vi (-1 : Int32))), mm nn (flC J2 1 p1) L P E c s) := c_fail 1 s4.2.1
      refine ⟨-1, flC J2 1 p1, ?_, ⟨rfl, flC_6⟩, f2.fl⟩
      rw [cond_false, F, Vk_v, k_X6_readIf_32]
    | true =>
      obtain ⟨g1, g2, g3⟩ := isW_wd h16 (by decide +kernel)
      have g4 := sk_ge (B := B) (n := n) (wd B n p1)
      obtain ⟨J3, r3, s5, f3⟩ := s4.next (d := dd + 1) (nn := nn) (L := L) (P := P) (E := E) (c := c) (s := s)
      rw [en_w g1] at s5
      obtain ⟨v6, J6, r6, s6, f6⟩ := ho nn L P E c s _ c1 J3 s5 (hL.fx (f2.tr f3.p)) (sk_bl _) (by omega)
      have g7 := hg (sk B n (wd B n p1)) c1 (sk_le (wd_le e2)) (sk_bl _)
      rw [cond_true, cond_true, r3, Vk_n, k_X6_readIf_40, r6, Vk_v, k_X6_readIf_45]
      cases hr2 : one (sk B n (wd B n p1)) c1 with
      | inl x =>
        obtain ⟨k, z⟩ := x
        rw [hr2] at s6
        refine ⟨-1, J6, ?_, ⟨rfl, s6.2⟩, (f2.tr f3.p).tr f6⟩
        rw [s6.1, m1_ge, cond_false]
      | inr x =>
        obtain ⟨p2, c2, A2, W2⟩ := x
        rw [hr2] at s6 g7
        obtain ⟨s7, s8⟩ := s6
        obtain ⟨u1, u2, u3, u4, u5, u6, u7, u8⟩ := id g7
        have S5 := s8.put (x := (4, 0))
        rw [show stpC (4, 0) = (6 : Int32) from rfl] at S5
        refine ⟨_, putC J6 c2.length 6, ?_, ⟨rfl, S5⟩, ((f2.tr f3.p).tr f6).put⟩
        rw [s7, ge0 (by omega), cond_true, c_step (by omega) s8.2.2.1, Vk_n, k_X6_readIf_58, or_AW e6 u6 e7 u7]
theorem ph_81 {dd o : Nat} {one : Nat → List (Nat × Nat) → Rs} (h150 : n ≤ 150) (ho : CtC B n N wn wl (dd + 1) 76 o one) (hg : GRs B n N wn one) : CtD B n N wn wl (dd + 2) 81 o (sayR B n wn wl one) := fun nn L P E c s q cs I hS hL hb hl => by
  have h6 := hL.2.2.2.1
  have NU : V PR (dd + 1) 125 0 [(0, vR (some (102, 0))), (1, vi (0 : Int32)), (2, vi (nI wn - 1))] [] (mm nn I L P E c s) = _ := c_number (l := 0) (h := wn) (by decide) (by omega) (hiO_p (by omega)) hS.2.1
  unfold sayR
  rw [k_X6_readSays_0, hL.2.2.1, NU]
  rcases nuF_n0 (B := B) (n := n) (q := q) (l := 0) (h := wn) with e0 | e0 | e0
  · obtain ⟨d1, -, d2⟩ := nuF_ok e0
    have s4 := dg_gt d1
    have s5 := sk_ge (B := B) (n := n) (dg B n q)
    obtain ⟨J3, r3, s6, f3⟩ := hS.next (d := dd + 1) (nn := nn) (L := L) (P := P) (E := E) (c := c) (s := s)
    rw [en_d d1] at s6
    obtain ⟨v2, J2, r2, s2, f2⟩ := ho nn L P E c s _ cs J3 s6 (hL.fx f3.p) (sk_bl _) (by omega)
    have gg := hg (sk B n (dg B n q)) cs (sk_le (dg_le hS.2.1.1)) (sk_bl _)
    have hL2 := hL.fx (f3.p.tr f2)
    rw [decide_eq_true e0, cond_true, cond_true, Vk_v, k_X6_readSays_17, ge0 (by omega), cond_true, r3, Vk_n, k_X6_readSays_31, r2, Vk_v, k_X6_readSays_36]
    cases hr : one (sk B n (dg B n q)) cs with
    | inl x =>
      obtain ⟨k, z⟩ := x
      rw [hr] at s2
      refine ⟨-1, J2, ?_, ⟨rfl, s2.2⟩, f3.p.tr f2⟩
      rw [s2.1, m1_ge, cond_false]
    | inr x =>
      obtain ⟨p1, c1, A1, W1⟩ := x
      rw [hr] at s2 gg
      obtain ⟨s3, s8⟩ := s2
      obtain ⟨e1, e2, e3, e4, e5, e6, e7, e8⟩ := id gg
      obtain ⟨w1, w2⟩ := hL2.2.2.2.2 _ d2
      have h2w : 2 ^ nuV B n q ≤ 2 ^ 5 := Nat.pow_le_pow_right (by decide) (by omega)
      have ev : nI (A1 + 16 * W1) ||| ((1 : Int32) <<< (((4 : Int32) + nI (nuV B n q)) &&& 31)) = nI (A1 + 16 * (W1 ||| 2 ^ nuV B n q)) := by
        have hw : ∀ w, w < 6 → (1 : Int32) <<< (((4 : Int32) + nI w) &&& 31) = nI (0 + 16 * 2 ^ w) := by decide +kernel
        rw [hw _ (by omega), or_AW e6 (by decide) e7 (by omega), Nat.or_zero]
      have key : (!decide (nI (A1 + 16 * W1) &&& ((nI (wl (nuV B n q)) ||| ((1 : Int32) <<< (((4 : Int32) + nI (nuV B n q)) &&& 31))) ^^^ (-1)) = 0)) = !knW wl (nuV B n q) A1 W1 := by
        unfold knW
        rw [← Bool.decide_and]
        exact congrArg _ (decide_eq_decide.mpr (need_iff e6 e7 w2 (by omega)))
      rw [s3, ge0 (by omega), cond_true, k_X2_suffices_0, inb_nI (show nuV B n q < 6 by omega) (by decide), cond_true, nI_clamp (by omega), w1, key]
      show ∃ (v : Int32) (J : FI), _ ∧ PoC B n (.inr (p1, (bif knW wl (nuV B n q) A1 W1 then 5 else 6, nuV B n q) :: c1, A1, W1 ||| 2 ^ nuV B n q)) v J ∧ FxP I J
      cases knW wl (nuV B n q) A1 W1 with
      | true =>
        have S5 := s8.put (x := (5, nuV B n q))
        rw [show stpC (5, nuV B n q) = nI (9 + nuV B n q) from rfl] at S5
        refine ⟨_, putC J2 c1.length (nI (9 + nuV B n q)), ?_, ⟨rfl, S5⟩, (f3.p.tr f2).put⟩
        rw [Bool.not_true, cond_false, Vk_v, k_X6_readSays_53, show decide ((1 : Int32) = 0) = false by decide +kernel, cond_false, show (9 : Int32) + nI (nuV B n q) = nI (9 + nuV B n q) from nI_add 9 _, c_step (by omega) s8.2.2.1, Vk_n, k_X6_readSays_68, ev]
      | false =>
        have S5 := s8.put (x := (6, nuV B n q))
        rw [show stpC (6, nuV B n q) = (8 : Int32) from rfl] at S5
        refine ⟨_, putC J2 c1.length 8, ?_, ⟨rfl, S5⟩, (f3.p.tr f2).put⟩
        rw [Bool.not_false, cond_true, Vk_v, k_X6_readSays_53, show decide ((0 : Int32) = 0) = true by decide +kernel, cond_true, c_step (by omega) s8.2.2.1, Vk_n, k_X6_readSays_68, ev]
  · refine ⟨-1, flC I 1 q, ?_, ?_, FxP.rfl'.fl⟩
    · rw [e0, show decide (1 = 0) = false from rfl, cond_false, Vk_v, k_X6_readSays_17, m1_ge, cond_false]
    · rw [e0]
      exact ⟨rfl, flC_6⟩
  · refine ⟨-1, flC I 2 q, ?_, ?_, FxP.rfl'.fl⟩
    · rw [e0, show decide (2 = 0) = false from rfl, cond_false, Vk_v, k_X6_readSays_17, m1_ge, cond_false]
    · rw [e0]
      exact ⟨rfl, flC_6⟩
/-- one of a phrase -/
theorem one_c (h150 : n ≤ 150) (hN : N ≤ 4) (hw : wn ≤ 6) : ∀ k o, k + o = 6 → ∀ d, CtC B n N wn wl (d + 4 * k + 2) 76 o (oneR B n N wn wl k)
  | 0, o, ho, d => fun nn L P E c s p cs I hS hL hb hl => by
    have e6 : o = 6 := by omega
    subst e6
    show ∃ (v : Int32) (J : FI), V PR (d + 2) 76 0 _ [] _ = _ ∧ _ ∧ _
    have F3 : V PR (d + 1) 121 0 [(0, vR (some (102, 0))), (1, vi (3 : Int32))] [] (mm nn I L P E c s) = some (.inl (some (vi (-1 : Int32))), mm nn (flC I 3 p) L P E c s) := c_fail 3 hS.2.1
    have F1 : V PR (d + 1) 121 0 [(0, vR (some (102, 0))), (1, vi (1 : Int32))] [] (mm nn I L P E c s) = some (.inl (some (vi (-1 : Int32))), mm nn (flC I 1 p) L P E c s) := c_fail 1 hS.2.1
    unfold oneR chR
    cases ha : atB B n N p with
    | true => exact one_at h150 ha hS hL hl
    | false =>
      rw [cond_false, one_no ha hS.1 hS.2.1 hL, k_X6_readOne_63]
      have l6 : decide (nI 6 < (6 : Int32)) = false := by decide +kernel
      have go : ∀ z : Int32, (!decide (z = -1)) = true → ∃ (v : Int32) (J : FI), (bif !decide (z = -1) then (bif decide (nI 6 < (6 : Int32)) then Vk (d + 1) 76 97 [] [(0, vR (some (143, 0))), (1, vi (nI 6)), (3, vi z)] (V PR (d + 1) 120 0 [(0, vR (some (102, 0)))] [] (mm nn I L P E c s)) else Vk (d + 1) 76 89 [] [] (V PR (d + 1) 121 0 [(0, vR (some (102, 0))), (1, vi (3 : Int32))] [] (mm nn I L P E c s))) else Vk (d + 1) 76 74 [] [] (V PR (d + 1) 121 0 [(0, vR (some (102, 0))), (1, vi (1 : Int32))] [] (mm nn I L P E c s))) = some (.inl (some (vi v)), mm nn J L P E c s) ∧ PoC B n (.inl (3, p)) v J ∧ FxP I J := fun z hz => by
        refine ⟨-1, flC I 3 p, ?_, ⟨rfl, flC_6⟩, FxP.rfl'.fl⟩
        rw [hz, cond_true, l6, cond_false, F3, Vk_v, k_X6_readOne_92]
      unfold opV
      cases sgB B n p 91 with
      | true => exact go 0 (by decide +kernel)
      | false =>
        rw [cond_false, cond_false]
        cases isW B n p (prgT 13) with
        | true => exact go 1 (by decide +kernel)
        | false =>
          rw [cond_false, cond_false]
          cases isW B n p (prgT 14) with
          | true => exact go 2 (by decide +kernel)
          | false =>
            rw [cond_false, cond_false]
            cases isW B n p (prgT 15) with
            | true => exact go 3 (by decide +kernel)
            | false =>
              refine ⟨-1, flC I 1 p, ?_, ⟨rfl, flC_6⟩, FxP.rfl'.fl⟩
              rw [cond_false, show (!decide ((-1 : Int32) = -1)) = false by decide +kernel, cond_false, F1, Vk_v, k_X6_readOne_77]
  | k + 1, o, ho, d => fun nn L P E c s p cs I hS hL hb hl => by
    have ih1 : CtC B n N wn wl (d + 4 * k + 1 + 1) 76 (o + 1) (oneR B n N wn wl k) := one_c h150 hN hw k (o + 1) (by omega) d
    have ih2 : CtC B n N wn wl (d + 4 * k + 3 + 1) 76 (o + 1) (oneR B n N wn wl k) := by
      have := one_c h150 hN hw k (o + 1) (by omega) (d + 2)
      rwa [show d + 2 + 4 * k + 2 = d + 4 * k + 3 + 1 by omega] at this
    have gr := one_gr (B := B) (n := n) (wl := wl) hN hw k
    have c78 := ph_78 (dd := d + 4 * k + 3) (ph_74 h150 ih1 gr) gr.any
    have c79 := ph_79 (dd := d + 4 * k + 3) h150 ih2 gr
    have c80 := ph_80 (dd := d + 4 * k + 3) h150 ih2 gr
    have c81 := ph_81 (dd := d + 4 * k + 3) h150 ih2 gr
    rw [show d + 4 * (k + 1) + 2 = d + 4 * k + 4 + 2 by omega]
    have F1 : V PR (d + 4 * k + 5) 121 0 [(0, vR (some (102, 0))), (1, vi (1 : Int32))] [] (mm nn I L P E c s) = some (.inl (some (vi (-1 : Int32))), mm nn (flC I 1 p) L P E c s) := c_fail 1 hS.2.1
    have l6 : decide (nI o < (6 : Int32)) = true := (nI_ltd (b := 6) (by omega) (by decide)).trans (decide_eq_true (by omega))
    obtain ⟨J3, r3, s6, f3⟩ := hS.next (d := d + 4 * k + 5) (nn := nn) (L := L) (P := P) (E := E) (c := c) (s := s)
    have pl := hS.2.1.1
    unfold oneR chR
    cases ha : atB B n N p with
    | true => exact one_at h150 ha hS hL hl
    | false =>
      rw [cond_false, one_no ha hS.1 hS.2.1 hL, k_X6_readOne_63]
      unfold opV
      cases h91 : sgB B n p 91 with
      | true =>
        obtain ⟨l1, -⟩ := sg_lt h91
        have t1 := sk_ge (B := B) (n := n) (p + 1)
        rw [en_sg h91] at s6
        obtain ⟨v7, J7, r7, s7, f7⟩ := c78 nn L P E c s _ cs J3 s6 (hL.fx f3.p) (sk_bl _) (by omega)
        refine ⟨v7, J7, ?_, s7, f3.p.tr f7⟩
        rw [cond_true, show (!decide ((0 : Int32) = -1)) = true by decide +kernel, cond_true, l6, cond_true, r3, Vk_n, k_X6_readOne_100, show (!decide ((0 : Int32) = 0)) = false by decide +kernel, cond_false, nI_1]
        exact (congrArg _ r7).trans (by rw [Vk_v, k_X6_readOne_111])
      | false =>
        rw [cond_false, cond_false]
        cases h13 : isW B n p (prgT 13) with
        | true =>
          obtain ⟨m1, m2, m3⟩ := isW_wd h13 (by decide +kernel)
          have t1 := sk_ge (B := B) (n := n) (wd B n p)
          rw [en_w m1] at s6
          obtain ⟨v7, J7, r7, s7, f7⟩ := c79 nn L P E c s _ cs J3 s6 (hL.fx f3.p) (sk_bl _) (by omega)
          refine ⟨v7, J7, ?_, s7, f3.p.tr f7⟩
          rw [cond_true, show (!decide ((1 : Int32) = -1)) = true by decide +kernel, cond_true, l6, cond_true, r3, Vk_n, k_X6_readOne_100, show (!decide ((1 : Int32) = 0)) = true by decide +kernel, cond_true, show (!decide ((1 : Int32) = 1)) = false by decide +kernel, cond_false, nI_1]
          exact (congrArg _ r7).trans (by rw [Vk_v, k_X6_readOne_126])
        | false =>
          rw [cond_false, cond_false]
          cases h14 : isW B n p (prgT 14) with
          | true =>
            obtain ⟨m1, m2, m3⟩ := isW_wd h14 (by decide +kernel)
            have t1 := sk_ge (B := B) (n := n) (wd B n p)
            rw [en_w m1] at s6
            obtain ⟨v7, J7, r7, s7, f7⟩ := c80 nn L P E c s _ cs J3 s6 (hL.fx f3.p) (sk_bl _) (by omega)
            refine ⟨v7, J7, ?_, s7, f3.p.tr f7⟩
            rw [cond_true, show (!decide ((2 : Int32) = -1)) = true by decide +kernel, cond_true, l6, cond_true, r3, Vk_n, k_X6_readOne_100, show (!decide ((2 : Int32) = 0)) = true by decide +kernel, cond_true, show (!decide ((2 : Int32) = 1)) = true by decide +kernel, cond_true, show (!decide ((2 : Int32) = 2)) = false by decide +kernel, cond_false, nI_1]
            exact (congrArg _ r7).trans (by rw [Vk_v, k_X6_readOne_141])
          | false =>
            rw [cond_false, cond_false]
            cases h15 : isW B n p (prgT 15) with
            | true =>
              obtain ⟨m1, m2, m3⟩ := isW_wd h15 (by decide +kernel)
              have t1 := sk_ge (B := B) (n := n) (wd B n p)
              rw [en_w m1] at s6
              obtain ⟨v7, J7, r7, s7, f7⟩ := c81 nn L P E c s _ cs J3 s6 (hL.fx f3.p) (sk_bl _) (by omega)
              refine ⟨v7, J7, ?_, s7, f3.p.tr f7⟩
              rw [cond_true, show (!decide ((3 : Int32) = -1)) = true by decide +kernel, cond_true, l6, cond_true, r3, Vk_n, k_X6_readOne_100, show (!decide ((3 : Int32) = 0)) = true by decide +kernel, cond_true, show (!decide ((3 : Int32) = 1)) = true by decide +kernel, cond_true, show (!decide ((3 : Int32) = 2)) = true by decide +kernel, cond_true, nI_1]
              exact (congrArg _ r7).trans (by rw [Vk_v, k_X6_readOne_151])
            | false =>
              refine ⟨-1, flC I 1 p, ?_, ⟨rfl, flC_6⟩, FxP.rfl'.fl⟩
              rw [cond_false, show (!decide ((-1 : Int32) = -1)) = false by decide +kernel, cond_false, F1, Vk_v, k_X6_readOne_77]
end PhrO
